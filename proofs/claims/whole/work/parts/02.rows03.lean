theorem dX10_copy_0 : decode cX10_copy 0 = .ok (.iload_n 1, 1) := by decide +kernel
theorem dX10_copy_1 : decode cX10_copy 1 = .ok (.iconst 0, 1) := by decide +kernel
theorem dX10_copy_2 : decode cX10_copy 2 = .ok (.iconst 3, 1) := by decide +kernel
theorem dX10_copy_3 : decode cX10_copy 3 = .ok (.invokestatic 47, 3) := by decide +kernel
theorem dX10_copy_6 : decode cX10_copy 6 = .ok (.ifCond .ne 12, 3) := by decide +kernel
theorem dX10_copy_9 : decode cX10_copy 9 = .ok (.iload_n 3, 1) := by decide +kernel
theorem dX10_copy_10 : decode cX10_copy 10 = .ok (.iconst 0, 1) := by decide +kernel
theorem dX10_copy_11 : decode cX10_copy 11 = .ok (.iconst 3, 1) := by decide +kernel
theorem dX10_copy_12 : decode cX10_copy 12 = .ok (.invokestatic 47, 3) := by decide +kernel
theorem dX10_copy_15 : decode cX10_copy 15 = .ok (.ifCond .eq 6, 3) := by decide +kernel
theorem dX10_copy_18 : decode cX10_copy 18 = .ok (.ldc 57, 2) := by decide +kernel
theorem dX10_copy_20 : decode cX10_copy 20 = .ok (.ireturn, 1) := by decide +kernel
theorem dX10_copy_21 : decode cX10_copy 21 = .ok (.aload_n 0, 1) := by decide +kernel
theorem dX10_copy_22 : decode cX10_copy 22 = .ok (.getfield 43, 3) := by decide +kernel
theorem dX10_copy_25 : decode cX10_copy 25 = .ok (.iload_n 1, 1) := by decide +kernel
theorem dX10_copy_26 : decode cX10_copy 26 = .ok (.invokevirtual 246, 3) := by decide +kernel
theorem dX10_copy_29 : decode cX10_copy 29 = .ok (.ifCond .ne 14, 3) := by decide +kernel
theorem dX10_copy_32 : decode cX10_copy 32 = .ok (.aload_n 0, 1) := by decide +kernel
theorem dX10_copy_33 : decode cX10_copy 33 = .ok (.getfield 43, 3) := by decide +kernel
theorem dX10_copy_36 : decode cX10_copy 36 = .ok (.iload_n 3, 1) := by decide +kernel
theorem dX10_copy_37 : decode cX10_copy 37 = .ok (.invokevirtual 246, 3) := by decide +kernel
theorem dX10_copy_40 : decode cX10_copy 40 = .ok (.ifCond .eq 6, 3) := by decide +kernel
theorem dX10_copy_43 : decode cX10_copy 43 = .ok (.ldc 249, 2) := by decide +kernel
theorem dX10_copy_45 : decode cX10_copy 45 = .ok (.ireturn, 1) := by decide +kernel
theorem dX10_copy_46 : decode cX10_copy 46 = .ok (.aload_n 0, 1) := by decide +kernel
theorem dX10_copy_47 : decode cX10_copy 47 = .ok (.getfield 43, 3) := by decide +kernel
theorem dX10_copy_50 : decode cX10_copy 50 = .ok (.getfield 253, 3) := by decide +kernel
theorem dX10_copy_53 : decode cX10_copy 53 = .ok (.iload_n 1, 1) := by decide +kernel
theorem dX10_copy_54 : decode cX10_copy 54 = .ok (.iaload, 1) := by decide +kernel
theorem dX10_copy_55 : decode cX10_copy 55 = .ok (.aload_n 0, 1) := by decide +kernel
theorem dX10_copy_56 : decode cX10_copy 56 = .ok (.getfield 43, 3) := by decide +kernel
theorem dX10_copy_59 : decode cX10_copy 59 = .ok (.getfield 253, 3) := by decide +kernel
theorem dX10_copy_62 : decode cX10_copy 62 = .ok (.iload_n 3, 1) := by decide +kernel
theorem dX10_copy_63 : decode cX10_copy 63 = .ok (.iaload, 1) := by decide +kernel
theorem dX10_copy_64 : decode cX10_copy 64 = .ok (.if_icmp .eq 7, 3) := by decide +kernel
theorem dX10_copy_67 : decode cX10_copy 67 = .ok (.ldc_w 256, 3) := by decide +kernel
theorem dX10_copy_70 : decode cX10_copy 70 = .ok (.ireturn, 1) := by decide +kernel
theorem dX10_copy_71 : decode cX10_copy 71 = .ok (.aload_n 0, 1) := by decide +kernel
theorem dX10_copy_72 : decode cX10_copy 72 = .ok (.getfield 43, 3) := by decide +kernel
theorem dX10_copy_75 : decode cX10_copy 75 = .ok (.iload_n 1, 1) := by decide +kernel
theorem dX10_copy_76 : decode cX10_copy 76 = .ok (.iload_n 2, 1) := by decide +kernel
theorem dX10_copy_77 : decode cX10_copy 77 = .ok (.iload 5, 2) := by decide +kernel
theorem dX10_copy_79 : decode cX10_copy 79 = .ok (.invokevirtual 257, 3) := by decide +kernel
theorem dX10_copy_82 : decode cX10_copy 82 = .ok (.ifCond .ne 18, 3) := by decide +kernel
theorem dX10_copy_85 : decode cX10_copy 85 = .ok (.aload_n 0, 1) := by decide +kernel
theorem dX10_copy_86 : decode cX10_copy 86 = .ok (.getfield 43, 3) := by decide +kernel
theorem dX10_copy_89 : decode cX10_copy 89 = .ok (.iload_n 3, 1) := by decide +kernel
theorem dX10_copy_90 : decode cX10_copy 90 = .ok (.iload 4, 2) := by decide +kernel
theorem dX10_copy_92 : decode cX10_copy 92 = .ok (.iload 5, 2) := by decide +kernel
theorem dX10_copy_94 : decode cX10_copy 94 = .ok (.invokevirtual 257, 3) := by decide +kernel
theorem dX10_copy_97 : decode cX10_copy 97 = .ok (.ifCond .eq 7, 3) := by decide +kernel
theorem dX10_copy_100 : decode cX10_copy 100 = .ok (.ldc_w 260, 3) := by decide +kernel
theorem dX10_copy_103 : decode cX10_copy 103 = .ok (.ireturn, 1) := by decide +kernel
theorem dX10_copy_104 : decode cX10_copy 104 = .ok (.aload_n 0, 1) := by decide +kernel
theorem dX10_copy_105 : decode cX10_copy 105 = .ok (.getfield 43, 3) := by decide +kernel
theorem dX10_copy_108 : decode cX10_copy 108 = .ok (.iload_n 1, 1) := by decide +kernel
theorem dX10_copy_109 : decode cX10_copy 109 = .ok (.iload_n 2, 1) := by decide +kernel
theorem dX10_copy_110 : decode cX10_copy 110 = .ok (.iload_n 3, 1) := by decide +kernel
theorem dX10_copy_111 : decode cX10_copy 111 = .ok (.iload 4, 2) := by decide +kernel
theorem dX10_copy_113 : decode cX10_copy 113 = .ok (.iload 5, 2) := by decide +kernel
theorem dX10_copy_115 : decode cX10_copy 115 = .ok (.invokevirtual 261, 3) := by decide +kernel
theorem dX10_copy_118 : decode cX10_copy 118 = .ok (.iload 5, 2) := by decide +kernel
theorem dX10_copy_120 : decode cX10_copy 120 = .ok (.ireturn, 1) := by decide +kernel
theorem dX10_outside_0 : decode cX10_outside 0 = .ok (.iload_n 0, 1) := by decide +kernel
theorem dX10_outside_1 : decode cX10_outside 1 = .ok (.iload_n 1, 1) := by decide +kernel
theorem dX10_outside_2 : decode cX10_outside 2 = .ok (.if_icmp .lt 8, 3) := by decide +kernel
theorem dX10_outside_5 : decode cX10_outside 5 = .ok (.iload_n 0, 1) := by decide +kernel
theorem dX10_outside_6 : decode cX10_outside 6 = .ok (.iload_n 2, 1) := by decide +kernel
theorem dX10_outside_7 : decode cX10_outside 7 = .ok (.if_icmp .le 7, 3) := by decide +kernel
theorem dX10_outside_10 : decode cX10_outside 10 = .ok (.iconst 1, 1) := by decide +kernel
theorem dX10_outside_11 : decode cX10_outside 11 = .ok (.goto 4, 3) := by decide +kernel
theorem dX10_outside_14 : decode cX10_outside 14 = .ok (.iconst 0, 1) := by decide +kernel
theorem dX10_outside_15 : decode cX10_outside 15 = .ok (.ireturn, 1) := by decide +kernel
set_option maxRecDepth 20000 in
theorem ggX10_isNoVariable_X10_outside : GoodIn wsX10_isNoVariable wsX10_outside := goodIn_r _ [4] (by decide +kernel) (by decide +kernel)
set_option maxRecDepth 20000 in
theorem gX10_isNoVariable_X10_outside : GoodIn wsX10_isNoVariable (va_wsS RX10 47 yX10_outside wsX10_outside) := goodIn_app (goodIn_of _ (by decide +kernel)) ggX10_isNoVariable_X10_outside
theorem dX10_isNoVariable_0 : decode cX10_isNoVariable 0 = .ok (.iload_n 0, 1) := by decide +kernel
theorem dX10_isNoVariable_1 : decode cX10_isNoVariable 1 = .ok (.iconst 0, 1) := by decide +kernel
theorem dX10_isNoVariable_2 : decode cX10_isNoVariable 2 = .ok (.iconst 3, 1) := by decide +kernel
theorem dX10_isNoVariable_3 : decode cX10_isNoVariable 3 = .ok (.invokestatic 47, 3) := by decide +kernel
theorem dX10_isNoVariable_6 : decode cX10_isNoVariable 6 = .ok (.ireturn, 1) := by decide +kernel
set_option maxRecDepth 20000 in
theorem ggX10_isNoSheetOrLane_X10_outside : GoodIn wsX10_isNoSheetOrLane wsX10_outside := goodIn_r _ [4] (by decide +kernel) (by decide +kernel)
set_option maxRecDepth 20000 in
theorem gX10_isNoSheetOrLane_X10_outside : GoodIn wsX10_isNoSheetOrLane (va_wsS RX10 47 yX10_outside wsX10_outside) := goodIn_app (goodIn_of _ (by decide +kernel)) ggX10_isNoSheetOrLane_X10_outside
theorem dX10_isNoSheetOrLane_0 : decode cX10_isNoSheetOrLane 0 = .ok (.iload_n 0, 1) := by decide +kernel
theorem dX10_isNoSheetOrLane_1 : decode cX10_isNoSheetOrLane 1 = .ok (.iconst 0, 1) := by decide +kernel
theorem dX10_isNoSheetOrLane_2 : decode cX10_isNoSheetOrLane 2 = .ok (.iconst 3, 1) := by decide +kernel
theorem dX10_isNoSheetOrLane_3 : decode cX10_isNoSheetOrLane 3 = .ok (.invokestatic 47, 3) := by decide +kernel
theorem dX10_isNoSheetOrLane_6 : decode cX10_isNoSheetOrLane 6 = .ok (.ifCond .ne 12, 3) := by decide +kernel
theorem dX10_isNoSheetOrLane_9 : decode cX10_isNoSheetOrLane 9 = .ok (.iload_n 1, 1) := by decide +kernel
theorem dX10_isNoSheetOrLane_10 : decode cX10_isNoSheetOrLane 10 = .ok (.iconst 0, 1) := by decide +kernel
theorem dX10_isNoSheetOrLane_11 : decode cX10_isNoSheetOrLane 11 = .ok (.iconst 3, 1) := by decide +kernel
theorem dX10_isNoSheetOrLane_12 : decode cX10_isNoSheetOrLane 12 = .ok (.invokestatic 47, 3) := by decide +kernel
theorem dX10_isNoSheetOrLane_15 : decode cX10_isNoSheetOrLane 15 = .ok (.ifCond .eq 7, 3) := by decide +kernel
theorem dX10_isNoSheetOrLane_18 : decode cX10_isNoSheetOrLane 18 = .ok (.iconst 1, 1) := by decide +kernel
theorem dX10_isNoSheetOrLane_19 : decode cX10_isNoSheetOrLane 19 = .ok (.goto 4, 3) := by decide +kernel
theorem dX10_isNoSheetOrLane_22 : decode cX10_isNoSheetOrLane 22 = .ok (.iconst 0, 1) := by decide +kernel
theorem dX10_isNoSheetOrLane_23 : decode cX10_isNoSheetOrLane 23 = .ok (.ireturn, 1) := by decide +kernel
set_option maxRecDepth 20000 in
theorem ggX10_isNoConstraint_X10_outside : GoodIn wsX10_isNoConstraint wsX10_outside := goodIn_r _ [7] (by decide +kernel) (by decide +kernel)
set_option maxRecDepth 20000 in
theorem gX10_isNoConstraint_X10_outside : GoodIn wsX10_isNoConstraint (va_wsS RX10 47 yX10_outside wsX10_outside) := goodIn_app (goodIn_of _ (by decide +kernel)) ggX10_isNoConstraint_X10_outside
theorem dX10_isNoConstraint_0 : decode cX10_isNoConstraint 0 = .ok (.iload_n 1, 1) := by decide +kernel
theorem dX10_isNoConstraint_1 : decode cX10_isNoConstraint 1 = .ok (.iconst 0, 1) := by decide +kernel
theorem dX10_isNoConstraint_2 : decode cX10_isNoConstraint 2 = .ok (.aload_n 0, 1) := by decide +kernel
theorem dX10_isNoConstraint_3 : decode cX10_isNoConstraint 3 = .ok (.getfield 10, 3) := by decide +kernel
theorem dX10_isNoConstraint_6 : decode cX10_isNoConstraint 6 = .ok (.getfield 58, 3) := by decide +kernel
theorem dX10_isNoConstraint_9 : decode cX10_isNoConstraint 9 = .ok (.getfield 62, 3) := by decide +kernel
theorem dX10_isNoConstraint_12 : decode cX10_isNoConstraint 12 = .ok (.iconst 1, 1) := by decide +kernel
theorem dX10_isNoConstraint_13 : decode cX10_isNoConstraint 13 = .ok (.isub, 1) := by decide +kernel
theorem dX10_isNoConstraint_14 : decode cX10_isNoConstraint 14 = .ok (.invokestatic 47, 3) := by decide +kernel
theorem dX10_isNoConstraint_17 : decode cX10_isNoConstraint 17 = .ok (.ireturn, 1) := by decide +kernel
set_option maxRecDepth 20000 in
theorem ggX10_replace_X9_cell : GoodIn wsX10_replace wsX9_cell := goodIn_r _ [8, 9, 45, 46, 47, 48, 49] (by decide +kernel) (by decide +kernel)
set_option maxRecDepth 20000 in
theorem gX10_replace_X9_cell : GoodIn wsX10_replace (wsV RX10 77 RX9 yX9_cell wsX9_cell) := goodIn_app (goodIn_of _ (by decide +kernel)) ggX10_replace_X9_cell
set_option maxRecDepth 20000 in
theorem ggX10_replace_X0_keep : GoodIn wsX10_replace wsX0_keep := goodIn_r _ [14, 15, 16, 17, 18, 19, 20, 21, 22, 23, 24, 7, 25, 9, 26, 27, 28, 29, 42, 43, 44, 45, 46, 47, 48, 49] (by decide +kernel) (by decide +kernel)
set_option maxRecDepth 20000 in
theorem gX10_replace_X0_keep : GoodIn wsX10_replace (wsV RX10 67 RX0 yX0_keep wsX0_keep) := goodIn_app (goodIn_of _ (by decide +kernel)) ggX10_replace_X0_keep
set_option maxRecDepth 20000 in
theorem ggX10_replace_X9_setCell : GoodIn wsX10_replace wsX9_setCell := goodIn_r _ [33, 9, 34, 45, 46, 47, 48, 49] (by decide +kernel) (by decide +kernel)
set_option maxRecDepth 20000 in
theorem gX10_replace_X9_setCell : GoodIn wsX10_replace (wsV RX10 265 RX9 yX9_setCell wsX9_setCell) := goodIn_app (goodIn_of _ (by decide +kernel)) ggX10_replace_X9_setCell
theorem dX10_replace_0 : decode cX10_replace 0 = .ok (.aload_n 0, 1) := by decide +kernel
theorem dX10_replace_1 : decode cX10_replace 1 = .ok (.getfield 10, 3) := by decide +kernel
theorem dX10_replace_4 : decode cX10_replace 4 = .ok (.getfield 58, 3) := by decide +kernel
theorem dX10_replace_7 : decode cX10_replace 7 = .ok (.iload_n 1, 1) := by decide +kernel
theorem dX10_replace_8 : decode cX10_replace 8 = .ok (.iload_n 2, 1) := by decide +kernel
theorem dX10_replace_9 : decode cX10_replace 9 = .ok (.invokevirtual 77, 3) := by decide +kernel
theorem dX10_replace_12 : decode cX10_replace 12 = .ok (.istore 4, 2) := by decide +kernel
theorem dX10_replace_14 : decode cX10_replace 14 = .ok (.iload 4, 2) := by decide +kernel
theorem dX10_replace_16 : decode cX10_replace 16 = .ok (.iload_n 3, 1) := by decide +kernel
theorem dX10_replace_17 : decode cX10_replace 17 = .ok (.if_icmp .ne 6, 3) := by decide +kernel
theorem dX10_replace_20 : decode cX10_replace 20 = .ok (.ldc 138, 2) := by decide +kernel
theorem dX10_replace_22 : decode cX10_replace 22 = .ok (.ireturn, 1) := by decide +kernel
theorem dX10_replace_23 : decode cX10_replace 23 = .ok (.aload_n 0, 1) := by decide +kernel
theorem dX10_replace_24 : decode cX10_replace 24 = .ok (.getfield 10, 3) := by decide +kernel
theorem dX10_replace_27 : decode cX10_replace 27 = .ok (.invokevirtual 67, 3) := by decide +kernel
theorem dX10_replace_30 : decode cX10_replace 30 = .ok (.aload_n 0, 1) := by decide +kernel
theorem dX10_replace_31 : decode cX10_replace 31 = .ok (.getfield 10, 3) := by decide +kernel
theorem dX10_replace_34 : decode cX10_replace 34 = .ok (.getfield 58, 3) := by decide +kernel
theorem dX10_replace_37 : decode cX10_replace 37 = .ok (.iload_n 1, 1) := by decide +kernel
theorem dX10_replace_38 : decode cX10_replace 38 = .ok (.iload_n 2, 1) := by decide +kernel
theorem dX10_replace_39 : decode cX10_replace 39 = .ok (.iload_n 3, 1) := by decide +kernel
theorem dX10_replace_40 : decode cX10_replace 40 = .ok (.invokevirtual 265, 3) := by decide +kernel
theorem dX10_replace_43 : decode cX10_replace 43 = .ok (.iload 4, 2) := by decide +kernel
theorem dX10_replace_45 : decode cX10_replace 45 = .ok (.ireturn, 1) := by decide +kernel
set_option maxRecDepth 20000 in
theorem ggX10_kindsThatFit_X7_get : GoodIn wsX10_kindsThatFit wsX7_get := goodIn_r _ [8, 9, 34, 35, 36] (by decide +kernel) (by decide +kernel)
set_option maxRecDepth 20000 in
theorem gX10_kindsThatFit_X7_get : GoodIn wsX10_kindsThatFit (wsV RX10 268 RX7 yX7_get wsX7_get) := goodIn_app (goodIn_of _ (by decide +kernel)) ggX10_kindsThatFit_X7_get
set_option maxRecDepth 20000 in
theorem ggX10_kindsThatFit_X9_sumAt : GoodIn wsX10_kindsThatFit wsX9_sumAt := goodIn_r _ [14, 15, 16, 17, 18, 19, 37, 38, 39, 40, 41] (by decide +kernel) (by decide +kernel)
set_option maxRecDepth 20000 in
theorem gX10_kindsThatFit_X9_sumAt : GoodIn wsX10_kindsThatFit (wsV RX10 81 RX9 yX9_sumAt wsX9_sumAt) := goodIn_app (goodIn_of _ (by decide +kernel)) ggX10_kindsThatFit_X9_sumAt
set_option maxRecDepth 20000 in
theorem ggX10_kindsThatFit_X1_holds : GoodIn wsX10_kindsThatFit wsX1_holds := goodIn_r _ [23] (by decide +kernel) (by decide +kernel)
set_option maxRecDepth 20000 in
theorem gX10_kindsThatFit_X1_holds : GoodIn wsX10_kindsThatFit (va_wsS RX10 272 yX1_holds wsX1_holds) := goodIn_app (goodIn_of _ (by decide +kernel)) ggX10_kindsThatFit_X1_holds
theorem dX10_kindsThatFit_0 : decode cX10_kindsThatFit 0 = .ok (.iconst 0, 1) := by decide +kernel
theorem dX10_kindsThatFit_1 : decode cX10_kindsThatFit 1 = .ok (.istore 6, 2) := by decide +kernel
theorem dX10_kindsThatFit_3 : decode cX10_kindsThatFit 3 = .ok (.iconst 0, 1) := by decide +kernel
theorem dX10_kindsThatFit_4 : decode cX10_kindsThatFit 4 = .ok (.istore 7, 2) := by decide +kernel
theorem dX10_kindsThatFit_6 : decode cX10_kindsThatFit 6 = .ok (.iload 7, 2) := by decide +kernel
theorem dX10_kindsThatFit_8 : decode cX10_kindsThatFit 8 = .ok (.iconst 4, 1) := by decide +kernel
theorem dX10_kindsThatFit_9 : decode cX10_kindsThatFit 9 = .ok (.if_icmp .gt 96, 3) := by decide +kernel
theorem dX10_kindsThatFit_12 : decode cX10_kindsThatFit 12 = .ok (.iconst 1, 1) := by decide +kernel
theorem dX10_kindsThatFit_13 : decode cX10_kindsThatFit 13 = .ok (.istore 8, 2) := by decide +kernel
theorem dX10_kindsThatFit_15 : decode cX10_kindsThatFit 15 = .ok (.iconst 0, 1) := by decide +kernel
theorem dX10_kindsThatFit_16 : decode cX10_kindsThatFit 16 = .ok (.istore 9, 2) := by decide +kernel
theorem dX10_kindsThatFit_18 : decode cX10_kindsThatFit 18 = .ok (.iload 9, 2) := by decide +kernel
theorem dX10_kindsThatFit_20 : decode cX10_kindsThatFit 20 = .ok (.iload 4, 2) := by decide +kernel
theorem dX10_kindsThatFit_22 : decode cX10_kindsThatFit 22 = .ok (.if_icmp .ge 59, 3) := by decide +kernel
theorem dX10_kindsThatFit_25 : decode cX10_kindsThatFit 25 = .ok (.iload 8, 2) := by decide +kernel
theorem dX10_kindsThatFit_27 : decode cX10_kindsThatFit 27 = .ok (.ifCond .eq 54, 3) := by decide +kernel
theorem dX10_kindsThatFit_30 : decode cX10_kindsThatFit 30 = .ok (.aload_n 0, 1) := by decide +kernel
theorem dX10_kindsThatFit_31 : decode cX10_kindsThatFit 31 = .ok (.getfield 10, 3) := by decide +kernel
theorem dX10_kindsThatFit_34 : decode cX10_kindsThatFit 34 = .ok (.getfield 58, 3) := by decide +kernel
theorem dX10_kindsThatFit_37 : decode cX10_kindsThatFit 37 = .ok (.iload_n 1, 1) := by decide +kernel
theorem dX10_kindsThatFit_38 : decode cX10_kindsThatFit 38 = .ok (.aload_n 0, 1) := by decide +kernel
theorem dX10_kindsThatFit_39 : decode cX10_kindsThatFit 39 = .ok (.getfield 43, 3) := by decide +kernel
theorem dX10_kindsThatFit_42 : decode cX10_kindsThatFit 42 = .ok (.iload_n 2, 1) := by decide +kernel
theorem dX10_kindsThatFit_43 : decode cX10_kindsThatFit 43 = .ok (.iload_n 3, 1) := by decide +kernel
theorem dX10_kindsThatFit_44 : decode cX10_kindsThatFit 44 = .ok (.iload 9, 2) := by decide +kernel
theorem dX10_kindsThatFit_46 : decode cX10_kindsThatFit 46 = .ok (.iadd, 1) := by decide +kernel
theorem dX10_kindsThatFit_47 : decode cX10_kindsThatFit 47 = .ok (.invokevirtual 268, 3) := by decide +kernel
theorem dX10_kindsThatFit_50 : decode cX10_kindsThatFit 50 = .ok (.l2i, 1) := by decide +kernel
theorem dX10_kindsThatFit_51 : decode cX10_kindsThatFit 51 = .ok (.invokevirtual 81, 3) := by decide +kernel
theorem dX10_kindsThatFit_54 : decode cX10_kindsThatFit 54 = .ok (.istore 10, 2) := by decide +kernel
theorem dX10_kindsThatFit_56 : decode cX10_kindsThatFit 56 = .ok (.iload 7, 2) := by decide +kernel
theorem dX10_kindsThatFit_58 : decode cX10_kindsThatFit 58 = .ok (.iload 10, 2) := by decide +kernel
theorem dX10_kindsThatFit_60 : decode cX10_kindsThatFit 60 = .ok (.invokestatic 272, 3) := by decide +kernel
theorem dX10_kindsThatFit_63 : decode cX10_kindsThatFit 63 = .ok (.iload 5, 2) := by decide +kernel
theorem dX10_kindsThatFit_65 : decode cX10_kindsThatFit 65 = .ok (.if_icmp .ne 7, 3) := by decide +kernel
theorem dX10_kindsThatFit_68 : decode cX10_kindsThatFit 68 = .ok (.iconst 1, 1) := by decide +kernel
theorem dX10_kindsThatFit_69 : decode cX10_kindsThatFit 69 = .ok (.goto 4, 3) := by decide +kernel
theorem dX10_kindsThatFit_72 : decode cX10_kindsThatFit 72 = .ok (.iconst 0, 1) := by decide +kernel
theorem dX10_kindsThatFit_73 : decode cX10_kindsThatFit 73 = .ok (.istore 8, 2) := by decide +kernel
theorem dX10_kindsThatFit_75 : decode cX10_kindsThatFit 75 = .ok (.iinc 9 1, 3) := by decide +kernel
theorem dX10_kindsThatFit_78 : decode cX10_kindsThatFit 78 = .ok (.goto (-60), 3) := by decide +kernel
theorem dX10_kindsThatFit_81 : decode cX10_kindsThatFit 81 = .ok (.iload 6, 2) := by decide +kernel
theorem dX10_kindsThatFit_83 : decode cX10_kindsThatFit 83 = .ok (.iload 8, 2) := by decide +kernel
theorem dX10_kindsThatFit_85 : decode cX10_kindsThatFit 85 = .ok (.ifCond .eq 10, 3) := by decide +kernel
theorem dX10_kindsThatFit_88 : decode cX10_kindsThatFit 88 = .ok (.iconst 1, 1) := by decide +kernel
theorem dX10_kindsThatFit_89 : decode cX10_kindsThatFit 89 = .ok (.iload 7, 2) := by decide +kernel
theorem dX10_kindsThatFit_91 : decode cX10_kindsThatFit 91 = .ok (.ishl, 1) := by decide +kernel
theorem dX10_kindsThatFit_92 : decode cX10_kindsThatFit 92 = .ok (.goto 4, 3) := by decide +kernel
theorem dX10_kindsThatFit_95 : decode cX10_kindsThatFit 95 = .ok (.iconst 0, 1) := by decide +kernel
theorem dX10_kindsThatFit_96 : decode cX10_kindsThatFit 96 = .ok (.ior, 1) := by decide +kernel
theorem dX10_kindsThatFit_97 : decode cX10_kindsThatFit 97 = .ok (.istore 6, 2) := by decide +kernel
theorem dX10_kindsThatFit_99 : decode cX10_kindsThatFit 99 = .ok (.iinc 7 1, 3) := by decide +kernel
theorem dX10_kindsThatFit_102 : decode cX10_kindsThatFit 102 = .ok (.goto (-96), 3) := by decide +kernel
theorem dX10_kindsThatFit_105 : decode cX10_kindsThatFit 105 = .ok (.iload 6, 2) := by decide +kernel
theorem dX10_kindsThatFit_107 : decode cX10_kindsThatFit 107 = .ok (.ireturn, 1) := by decide +kernel
theorem dX11_in_0 : decode cX11_in 0 = .ok (.lload_n 0, 1) := by decide +kernel
theorem dX11_in_1 : decode cX11_in 1 = .ok (.lload_n 2, 1) := by decide +kernel
theorem dX11_in_2 : decode cX11_in 2 = .ok (.lcmp, 1) := by decide +kernel
theorem dX11_in_3 : decode cX11_in 3 = .ok (.ifCond .lt 14, 3) := by decide +kernel
theorem dX11_in_6 : decode cX11_in 6 = .ok (.lload_n 0, 1) := by decide +kernel
theorem dX11_in_7 : decode cX11_in 7 = .ok (.lload 4, 2) := by decide +kernel
theorem dX11_in_9 : decode cX11_in 9 = .ok (.lcmp, 1) := by decide +kernel
theorem dX11_in_10 : decode cX11_in 10 = .ok (.ifCond .gt 7, 3) := by decide +kernel
theorem dX11_in_13 : decode cX11_in 13 = .ok (.iconst 1, 1) := by decide +kernel
theorem dX11_in_14 : decode cX11_in 14 = .ok (.goto 4, 3) := by decide +kernel
theorem dX11_in_17 : decode cX11_in 17 = .ok (.iconst 0, 1) := by decide +kernel
theorem dX11_in_18 : decode cX11_in 18 = .ok (.ireturn, 1) := by decide +kernel
theorem dX11_init_0 : decode cX11_init 0 = .ok (.aload_n 0, 1) := by decide +kernel
theorem dX11_init_1 : decode cX11_init 1 = .ok (.invokespecial 1, 3) := by decide +kernel
theorem dX11_init_4 : decode cX11_init 4 = .ok (.aload_n 0, 1) := by decide +kernel
theorem dX11_init_5 : decode cX11_init 5 = .ok (.bipush 51, 2) := by decide +kernel
theorem dX11_init_7 : decode cX11_init 7 = .ok (.newarray .int, 2) := by decide +kernel
theorem dX11_init_9 : decode cX11_init 9 = .ok (.putfield 7, 3) := by decide +kernel
theorem dX11_init_12 : decode cX11_init 12 = .ok (.aload_n 0, 1) := by decide +kernel
theorem dX11_init_13 : decode cX11_init 13 = .ok (.sipush 4096, 3) := by decide +kernel
theorem dX11_init_16 : decode cX11_init 16 = .ok (.newarray .int, 2) := by decide +kernel
theorem dX11_init_18 : decode cX11_init 18 = .ok (.putfield 13, 3) := by decide +kernel
theorem dX11_init_21 : decode cX11_init 21 = .ok (.aload_n 0, 1) := by decide +kernel
theorem dX11_init_22 : decode cX11_init 22 = .ok (.sipush 4096, 3) := by decide +kernel
theorem dX11_init_25 : decode cX11_init 25 = .ok (.newarray .int, 2) := by decide +kernel
theorem dX11_init_27 : decode cX11_init 27 = .ok (.putfield 16, 3) := by decide +kernel
theorem dX11_init_30 : decode cX11_init 30 = .ok (.aload_n 0, 1) := by decide +kernel
theorem dX11_init_31 : decode cX11_init 31 = .ok (.sipush 130, 3) := by decide +kernel
theorem dX11_init_34 : decode cX11_init 34 = .ok (.newarray .int, 2) := by decide +kernel
theorem dX11_init_36 : decode cX11_init 36 = .ok (.putfield 19, 3) := by decide +kernel
theorem dX11_init_39 : decode cX11_init 39 = .ok (.aload_n 0, 1) := by decide +kernel
theorem dX11_init_40 : decode cX11_init 40 = .ok (.bipush 48, 2) := by decide +kernel
theorem dX11_init_42 : decode cX11_init 42 = .ok (.newarray .int, 2) := by decide +kernel
theorem dX11_init_44 : decode cX11_init 44 = .ok (.putfield 22, 3) := by decide +kernel
theorem dX11_init_47 : decode cX11_init 47 = .ok (.aload_n 0, 1) := by decide +kernel
theorem dX11_init_48 : decode cX11_init 48 = .ok (.sipush 408, 3) := by decide +kernel
theorem dX11_init_51 : decode cX11_init 51 = .ok (.newarray .int, 2) := by decide +kernel
theorem dX11_init_53 : decode cX11_init 53 = .ok (.putfield 25, 3) := by decide +kernel
theorem dX11_init_56 : decode cX11_init 56 = .ok (.aload_n 0, 1) := by decide +kernel
theorem dX11_init_57 : decode cX11_init 57 = .ok (.bipush 90, 2) := by decide +kernel
theorem dX11_init_59 : decode cX11_init 59 = .ok (.newarray .int, 2) := by decide +kernel
theorem dX11_init_61 : decode cX11_init 61 = .ok (.putfield 28, 3) := by decide +kernel
theorem dX11_init_64 : decode cX11_init 64 = .ok (.aload_n 0, 1) := by decide +kernel
theorem dX11_init_65 : decode cX11_init 65 = .ok (.sipush 480, 3) := by decide +kernel
theorem dX11_init_68 : decode cX11_init 68 = .ok (.newarray .int, 2) := by decide +kernel
theorem dX11_init_70 : decode cX11_init 70 = .ok (.putfield 31, 3) := by decide +kernel
theorem dX11_init_73 : decode cX11_init 73 = .ok (.aload_n 0, 1) := by decide +kernel
theorem dX11_init_74 : decode cX11_init 74 = .ok (.sipush 4096, 3) := by decide +kernel
theorem dX11_init_77 : decode cX11_init 77 = .ok (.newarray .int, 2) := by decide +kernel
theorem dX11_init_79 : decode cX11_init 79 = .ok (.putfield 34, 3) := by decide +kernel
theorem dX11_init_82 : decode cX11_init 82 = .ok (.aload_n 0, 1) := by decide +kernel
theorem dX11_init_83 : decode cX11_init 83 = .ok (.bipush 51, 2) := by decide +kernel
theorem dX11_init_85 : decode cX11_init 85 = .ok (.newarray .int, 2) := by decide +kernel
theorem dX11_init_87 : decode cX11_init 87 = .ok (.putfield 37, 3) := by decide +kernel
theorem dX11_init_90 : decode cX11_init 90 = .ok (.aload_n 0, 1) := by decide +kernel
theorem dX11_init_91 : decode cX11_init 91 = .ok (.sipush 408, 3) := by decide +kernel
theorem dX11_init_94 : decode cX11_init 94 = .ok (.newarray .int, 2) := by decide +kernel
theorem dX11_init_96 : decode cX11_init 96 = .ok (.putfield 40, 3) := by decide +kernel
theorem dX11_init_99 : decode cX11_init 99 = .ok (.aload_n 0, 1) := by decide +kernel
theorem dX11_init_100 : decode cX11_init 100 = .ok (.iconst (-1), 1) := by decide +kernel
theorem dX11_init_101 : decode cX11_init 101 = .ok (.putfield 43, 3) := by decide +kernel
theorem dX11_init_104 : decode cX11_init 104 = .ok (.aload_n 0, 1) := by decide +kernel
theorem dX11_init_105 : decode cX11_init 105 = .ok (.iconst 4, 1) := by decide +kernel
theorem dX11_init_106 : decode cX11_init 106 = .ok (.newarray .int, 2) := by decide +kernel
theorem dX11_init_108 : decode cX11_init 108 = .ok (.putfield 47, 3) := by decide +kernel
theorem dX11_init_111 : decode cX11_init 111 = .ok (.aload_n 0, 1) := by decide +kernel
theorem dX11_init_112 : decode cX11_init 112 = .ok (.iconst 4, 1) := by decide +kernel
theorem dX11_init_113 : decode cX11_init 113 = .ok (.newarray .int, 2) := by decide +kernel
theorem dX11_init_115 : decode cX11_init 115 = .ok (.putfield 50, 3) := by decide +kernel
theorem dX11_init_118 : decode cX11_init 118 = .ok (.aload_n 0, 1) := by decide +kernel
theorem dX11_init_119 : decode cX11_init 119 = .ok (.bipush 96, 2) := by decide +kernel
theorem dX11_init_121 : decode cX11_init 121 = .ok (.newarray .long, 2) := by decide +kernel
theorem dX11_init_123 : decode cX11_init 123 = .ok (.putfield 53, 3) := by decide +kernel
theorem dX11_init_126 : decode cX11_init 126 = .ok (.aload_n 0, 1) := by decide +kernel
theorem dX11_init_127 : decode cX11_init 127 = .ok (.bipush 24, 2) := by decide +kernel
theorem dX11_init_129 : decode cX11_init 129 = .ok (.newarray .long, 2) := by decide +kernel
theorem dX11_init_131 : decode cX11_init 131 = .ok (.putfield 57, 3) := by decide +kernel
theorem dX11_init_134 : decode cX11_init 134 = .ok (.aload_n 0, 1) := by decide +kernel
theorem dX11_init_135 : decode cX11_init 135 = .ok (.getfield 7, 3) := by decide +kernel
theorem dX11_init_138 : decode cX11_init 138 = .ok (.iconst 1, 1) := by decide +kernel
theorem dX11_init_139 : decode cX11_init 139 = .ok (.iconst 4, 1) := by decide +kernel
theorem dX11_init_140 : decode cX11_init 140 = .ok (.iastore, 1) := by decide +kernel
theorem dX11_init_141 : decode cX11_init 141 = .ok (.aload_n 0, 1) := by decide +kernel
theorem dX11_init_142 : decode cX11_init 142 = .ok (.getfield 7, 3) := by decide +kernel
theorem dX11_init_145 : decode cX11_init 145 = .ok (.iconst 2, 1) := by decide +kernel
theorem dX11_init_146 : decode cX11_init 146 = .ok (.iconst 1, 1) := by decide +kernel
theorem dX11_init_147 : decode cX11_init 147 = .ok (.iastore, 1) := by decide +kernel
theorem dX11_init_148 : decode cX11_init 148 = .ok (.iconst 0, 1) := by decide +kernel
theorem dX11_init_149 : decode cX11_init 149 = .ok (.istore_n 1, 1) := by decide +kernel
theorem dX11_init_150 : decode cX11_init 150 = .ok (.iload_n 1, 1) := by decide +kernel
theorem dX11_init_151 : decode cX11_init 151 = .ok (.iconst 4, 1) := by decide +kernel
theorem dX11_init_152 : decode cX11_init 152 = .ok (.if_icmp .ge 16, 3) := by decide +kernel
theorem dX11_init_155 : decode cX11_init 155 = .ok (.aload_n 0, 1) := by decide +kernel
theorem dX11_init_156 : decode cX11_init 156 = .ok (.getfield 47, 3) := by decide +kernel
theorem dX11_init_159 : decode cX11_init 159 = .ok (.iload_n 1, 1) := by decide +kernel
theorem dX11_init_160 : decode cX11_init 160 = .ok (.iconst (-1), 1) := by decide +kernel
theorem dX11_init_161 : decode cX11_init 161 = .ok (.iastore, 1) := by decide +kernel
theorem dX11_init_162 : decode cX11_init 162 = .ok (.iinc 1 1, 3) := by decide +kernel
theorem dX11_init_165 : decode cX11_init 165 = .ok (.goto (-15), 3) := by decide +kernel
theorem dX11_init_168 : decode cX11_init 168 = .ok (.return_, 1) := by decide +kernel
set_option maxRecDepth 20000 in
theorem ggX11_isOne_X11_in : GoodIn wsX11_isOne wsX11_in := goodIn_r _ [5] (by decide +kernel) (by decide +kernel)
set_option maxRecDepth 20000 in
theorem gX11_isOne_X11_in : GoodIn wsX11_isOne (va_wsS RX11 60 yX11_in wsX11_in) := goodIn_app (goodIn_of _ (by decide +kernel)) ggX11_isOne_X11_in
theorem dX11_isOne_0 : decode cX11_isOne 0 = .ok (.iload_n 1, 1) := by decide +kernel
theorem dX11_isOne_1 : decode cX11_isOne 1 = .ok (.i2l, 1) := by decide +kernel
theorem dX11_isOne_2 : decode cX11_isOne 2 = .ok (.lconst 0, 1) := by decide +kernel
theorem dX11_isOne_3 : decode cX11_isOne 3 = .ok (.aload_n 0, 1) := by decide +kernel
theorem dX11_isOne_4 : decode cX11_isOne 4 = .ok (.getfield 7, 3) := by decide +kernel
theorem dX11_isOne_7 : decode cX11_isOne 7 = .ok (.iconst 0, 1) := by decide +kernel
theorem dX11_isOne_8 : decode cX11_isOne 8 = .ok (.iaload, 1) := by decide +kernel
theorem dX11_isOne_9 : decode cX11_isOne 9 = .ok (.iconst 1, 1) := by decide +kernel
theorem dX11_isOne_10 : decode cX11_isOne 10 = .ok (.isub, 1) := by decide +kernel
theorem dX11_isOne_11 : decode cX11_isOne 11 = .ok (.i2l, 1) := by decide +kernel
theorem dX11_isOne_12 : decode cX11_isOne 12 = .ok (.invokestatic 60, 3) := by decide +kernel
theorem dX11_isOne_15 : decode cX11_isOne 15 = .ok (.ireturn, 1) := by decide +kernel
set_option maxRecDepth 20000 in
theorem ggX11_isPoint_X11_in : GoodIn wsX11_isPoint wsX11_in := goodIn_r _ [5] (by decide +kernel) (by decide +kernel)
set_option maxRecDepth 20000 in
theorem gX11_isPoint_X11_in : GoodIn wsX11_isPoint (va_wsS RX11 60 yX11_in wsX11_in) := goodIn_app (goodIn_of _ (by decide +kernel)) ggX11_isPoint_X11_in
theorem dX11_isPoint_0 : decode cX11_isPoint 0 = .ok (.lload_n 0, 1) := by decide +kernel
theorem dX11_isPoint_1 : decode cX11_isPoint 1 = .ok (.lconst 0, 1) := by decide +kernel
theorem dX11_isPoint_2 : decode cX11_isPoint 2 = .ok (.ldc2_w 64, 3) := by decide +kernel
theorem dX11_isPoint_5 : decode cX11_isPoint 5 = .ok (.invokestatic 60, 3) := by decide +kernel
theorem dX11_isPoint_8 : decode cX11_isPoint 8 = .ok (.ireturn, 1) := by decide +kernel
theorem dX11_valueOf_0 : decode cX11_valueOf 0 = .ok (.iload_n 0, 1) := by decide +kernel
theorem dX11_valueOf_1 : decode cX11_valueOf 1 = .ok (.bipush 9, 2) := by decide +kernel
theorem dX11_valueOf_3 : decode cX11_valueOf 3 = .ok (.iconst 3, 1) := by decide +kernel
theorem dX11_valueOf_4 : decode cX11_valueOf 4 = .ok (.iload_n 1, 1) := by decide +kernel
theorem dX11_valueOf_5 : decode cX11_valueOf 5 = .ok (.imul, 1) := by decide +kernel
theorem dX11_valueOf_6 : decode cX11_valueOf 6 = .ok (.isub, 1) := by decide +kernel
theorem dX11_valueOf_7 : decode cX11_valueOf 7 = .ok (.ishr, 1) := by decide +kernel
theorem dX11_valueOf_8 : decode cX11_valueOf 8 = .ok (.bipush 7, 2) := by decide +kernel
theorem dX11_valueOf_10 : decode cX11_valueOf 10 = .ok (.iand, 1) := by decide +kernel
theorem dX11_valueOf_11 : decode cX11_valueOf 11 = .ok (.ireturn, 1) := by decide +kernel
set_option maxRecDepth 20000 in
theorem ggX11_sumOf_X11_valueOf : GoodIn wsX11_sumOf wsX11_valueOf := goodIn_r _ [5] (by decide +kernel) (by decide +kernel)
set_option maxRecDepth 20000 in
theorem gX11_sumOf_X11_valueOf : GoodIn wsX11_sumOf (va_wsS RX11 66 yX11_valueOf wsX11_valueOf) := goodIn_app (goodIn_of _ (by decide +kernel)) ggX11_sumOf_X11_valueOf
theorem dX11_sumOf_0 : decode cX11_sumOf 0 = .ok (.iconst 3, 1) := by decide +kernel
theorem dX11_sumOf_1 : decode cX11_sumOf 1 = .ok (.bipush 6, 2) := by decide +kernel
theorem dX11_sumOf_3 : decode cX11_sumOf 3 = .ok (.iload_n 1, 1) := by decide +kernel
theorem dX11_sumOf_4 : decode cX11_sumOf 4 = .ok (.imul, 1) := by decide +kernel
theorem dX11_sumOf_5 : decode cX11_sumOf 5 = .ok (.iadd, 1) := by decide +kernel
theorem dX11_sumOf_6 : decode cX11_sumOf 6 = .ok (.istore_n 3, 1) := by decide +kernel
theorem dX11_sumOf_7 : decode cX11_sumOf 7 = .ok (.aload_n 0, 1) := by decide +kernel
theorem dX11_sumOf_8 : decode cX11_sumOf 8 = .ok (.getfield 7, 3) := by decide +kernel
theorem dX11_sumOf_11 : decode cX11_sumOf 11 = .ok (.iload_n 3, 1) := by decide +kernel
theorem dX11_sumOf_12 : decode cX11_sumOf 12 = .ok (.iconst 4, 1) := by decide +kernel
theorem dX11_sumOf_13 : decode cX11_sumOf 13 = .ok (.iadd, 1) := by decide +kernel
theorem dX11_sumOf_14 : decode cX11_sumOf 14 = .ok (.iaload, 1) := by decide +kernel
theorem dX11_sumOf_15 : decode cX11_sumOf 15 = .ok (.istore 4, 2) := by decide +kernel
theorem dX11_sumOf_17 : decode cX11_sumOf 17 = .ok (.iconst 0, 1) := by decide +kernel
theorem dX11_sumOf_18 : decode cX11_sumOf 18 = .ok (.istore 5, 2) := by decide +kernel
theorem dX11_sumOf_20 : decode cX11_sumOf 20 = .ok (.iload 5, 2) := by decide +kernel
theorem dX11_sumOf_22 : decode cX11_sumOf 22 = .ok (.iconst 4, 1) := by decide +kernel
theorem dX11_sumOf_23 : decode cX11_sumOf 23 = .ok (.if_icmp .ge 30, 3) := by decide +kernel
theorem dX11_sumOf_26 : decode cX11_sumOf 26 = .ok (.iload 4, 2) := by decide +kernel
theorem dX11_sumOf_28 : decode cX11_sumOf 28 = .ok (.aload_n 0, 1) := by decide +kernel
theorem dX11_sumOf_29 : decode cX11_sumOf 29 = .ok (.getfield 7, 3) := by decide +kernel
theorem dX11_sumOf_32 : decode cX11_sumOf 32 = .ok (.iload_n 3, 1) := by decide +kernel
theorem dX11_sumOf_33 : decode cX11_sumOf 33 = .ok (.iload 5, 2) := by decide +kernel
theorem dX11_sumOf_35 : decode cX11_sumOf 35 = .ok (.iadd, 1) := by decide +kernel
theorem dX11_sumOf_36 : decode cX11_sumOf 36 = .ok (.iaload, 1) := by decide +kernel
theorem dX11_sumOf_37 : decode cX11_sumOf 37 = .ok (.iload_n 2, 1) := by decide +kernel
theorem dX11_sumOf_38 : decode cX11_sumOf 38 = .ok (.iload 5, 2) := by decide +kernel
theorem dX11_sumOf_40 : decode cX11_sumOf 40 = .ok (.invokestatic 66, 3) := by decide +kernel
theorem dX11_sumOf_43 : decode cX11_sumOf 43 = .ok (.imul, 1) := by decide +kernel
theorem dX11_sumOf_44 : decode cX11_sumOf 44 = .ok (.iadd, 1) := by decide +kernel
theorem dX11_sumOf_45 : decode cX11_sumOf 45 = .ok (.istore 4, 2) := by decide +kernel
theorem dX11_sumOf_47 : decode cX11_sumOf 47 = .ok (.iinc 5 1, 3) := by decide +kernel
theorem dX11_sumOf_50 : decode cX11_sumOf 50 = .ok (.goto (-30), 3) := by decide +kernel
theorem dX11_sumOf_53 : decode cX11_sumOf 53 = .ok (.iload 4, 2) := by decide +kernel
theorem dX11_sumOf_55 : decode cX11_sumOf 55 = .ok (.ireturn, 1) := by decide +kernel
theorem dX11_holdsBy_0 : decode cX11_holdsBy 0 = .ok (.iload_n 0, 1) := by decide +kernel
theorem dX11_holdsBy_1 : decode cX11_holdsBy 1 = .ok (.ifCond .ne 15, 3) := by decide +kernel
theorem dX11_holdsBy_4 : decode cX11_holdsBy 4 = .ok (.iload_n 1, 1) := by decide +kernel
theorem dX11_holdsBy_5 : decode cX11_holdsBy 5 = .ok (.ifCond .lt 7, 3) := by decide +kernel
theorem dX11_holdsBy_8 : decode cX11_holdsBy 8 = .ok (.iconst 1, 1) := by decide +kernel
theorem dX11_holdsBy_9 : decode cX11_holdsBy 9 = .ok (.goto 69, 3) := by decide +kernel
theorem dX11_holdsBy_12 : decode cX11_holdsBy 12 = .ok (.iconst 0, 1) := by decide +kernel
theorem dX11_holdsBy_13 : decode cX11_holdsBy 13 = .ok (.goto 65, 3) := by decide +kernel
theorem dX11_holdsBy_16 : decode cX11_holdsBy 16 = .ok (.iload_n 0, 1) := by decide +kernel
theorem dX11_holdsBy_17 : decode cX11_holdsBy 17 = .ok (.iconst 1, 1) := by decide +kernel
theorem dX11_holdsBy_18 : decode cX11_holdsBy 18 = .ok (.if_icmp .ne 15, 3) := by decide +kernel
theorem dX11_holdsBy_21 : decode cX11_holdsBy 21 = .ok (.iload_n 1, 1) := by decide +kernel
theorem dX11_holdsBy_22 : decode cX11_holdsBy 22 = .ok (.ifCond .gt 7, 3) := by decide +kernel
theorem dX11_holdsBy_25 : decode cX11_holdsBy 25 = .ok (.iconst 1, 1) := by decide +kernel
theorem dX11_holdsBy_26 : decode cX11_holdsBy 26 = .ok (.goto 52, 3) := by decide +kernel
theorem dX11_holdsBy_29 : decode cX11_holdsBy 29 = .ok (.iconst 0, 1) := by decide +kernel
theorem dX11_holdsBy_30 : decode cX11_holdsBy 30 = .ok (.goto 48, 3) := by decide +kernel
theorem dX11_holdsBy_33 : decode cX11_holdsBy 33 = .ok (.iload_n 0, 1) := by decide +kernel
theorem dX11_holdsBy_34 : decode cX11_holdsBy 34 = .ok (.iconst 2, 1) := by decide +kernel
theorem dX11_holdsBy_35 : decode cX11_holdsBy 35 = .ok (.if_icmp .ne 15, 3) := by decide +kernel
theorem dX11_holdsBy_38 : decode cX11_holdsBy 38 = .ok (.iload_n 1, 1) := by decide +kernel
theorem dX11_holdsBy_39 : decode cX11_holdsBy 39 = .ok (.ifCond .ne 7, 3) := by decide +kernel
theorem dX11_holdsBy_42 : decode cX11_holdsBy 42 = .ok (.iconst 1, 1) := by decide +kernel
theorem dX11_holdsBy_43 : decode cX11_holdsBy 43 = .ok (.goto 35, 3) := by decide +kernel
theorem dX11_holdsBy_46 : decode cX11_holdsBy 46 = .ok (.iconst 0, 1) := by decide +kernel
theorem dX11_holdsBy_47 : decode cX11_holdsBy 47 = .ok (.goto 31, 3) := by decide +kernel
theorem dX11_holdsBy_50 : decode cX11_holdsBy 50 = .ok (.iload_n 0, 1) := by decide +kernel
theorem dX11_holdsBy_51 : decode cX11_holdsBy 51 = .ok (.iconst 3, 1) := by decide +kernel
theorem dX11_holdsBy_52 : decode cX11_holdsBy 52 = .ok (.if_icmp .ne 15, 3) := by decide +kernel
theorem dX11_holdsBy_55 : decode cX11_holdsBy 55 = .ok (.iload_n 1, 1) := by decide +kernel
theorem dX11_holdsBy_56 : decode cX11_holdsBy 56 = .ok (.ifCond .eq 7, 3) := by decide +kernel
theorem dX11_holdsBy_59 : decode cX11_holdsBy 59 = .ok (.iconst 1, 1) := by decide +kernel
theorem dX11_holdsBy_60 : decode cX11_holdsBy 60 = .ok (.goto 18, 3) := by decide +kernel
theorem dX11_holdsBy_63 : decode cX11_holdsBy 63 = .ok (.iconst 0, 1) := by decide +kernel
theorem dX11_holdsBy_64 : decode cX11_holdsBy 64 = .ok (.goto 14, 3) := by decide +kernel
theorem dX11_holdsBy_67 : decode cX11_holdsBy 67 = .ok (.iload_n 1, 1) := by decide +kernel
theorem dX11_holdsBy_68 : decode cX11_holdsBy 68 = .ok (.iconst 2, 1) := by decide +kernel
theorem dX11_holdsBy_69 : decode cX11_holdsBy 69 = .ok (.irem, 1) := by decide +kernel
theorem dX11_holdsBy_70 : decode cX11_holdsBy 70 = .ok (.ifCond .ne 7, 3) := by decide +kernel
theorem dX11_holdsBy_73 : decode cX11_holdsBy 73 = .ok (.iconst 1, 1) := by decide +kernel
theorem dX11_holdsBy_74 : decode cX11_holdsBy 74 = .ok (.goto 4, 3) := by decide +kernel
theorem dX11_holdsBy_77 : decode cX11_holdsBy 77 = .ok (.iconst 0, 1) := by decide +kernel
theorem dX11_holdsBy_78 : decode cX11_holdsBy 78 = .ok (.ireturn, 1) := by decide +kernel
set_option maxRecDepth 20000 in
theorem ggX11_holdsAt_X11_sumOf : GoodIn wsX11_holdsAt wsX11_sumOf := goodIn_r _ [6, 1, 7, 8, 5, 9, 13, 14, 15, 16, 17, 18, 19, 20, 21, 22, 23, 24, 25, 26, 27, 28, 29, 30, 31, 32, 33, 34, 35] (by decide +kernel) (by decide +kernel)
set_option maxRecDepth 20000 in
theorem gX11_holdsAt_X11_sumOf : GoodIn wsX11_holdsAt (wsV RX11 70 RX11 yX11_sumOf wsX11_sumOf) := goodIn_app (goodIn_of _ (by decide +kernel)) ggX11_holdsAt_X11_sumOf
set_option maxRecDepth 20000 in
theorem ggX11_holdsAt_X11_holdsBy : GoodIn wsX11_holdsAt wsX11_holdsBy := goodIn_r _ [12] (by decide +kernel) (by decide +kernel)
set_option maxRecDepth 20000 in
theorem gX11_holdsAt_X11_holdsBy : GoodIn wsX11_holdsAt (va_wsS RX11 73 yX11_holdsBy wsX11_holdsBy) := goodIn_app (goodIn_of _ (by decide +kernel)) ggX11_holdsAt_X11_holdsBy
theorem dX11_holdsAt_0 : decode cX11_holdsAt 0 = .ok (.iconst 0, 1) := by decide +kernel
theorem dX11_holdsAt_1 : decode cX11_holdsAt 1 = .ok (.istore_n 2, 1) := by decide +kernel
theorem dX11_holdsAt_2 : decode cX11_holdsAt 2 = .ok (.iconst 0, 1) := by decide +kernel
theorem dX11_holdsAt_3 : decode cX11_holdsAt 3 = .ok (.istore_n 3, 1) := by decide +kernel
theorem dX11_holdsAt_4 : decode cX11_holdsAt 4 = .ok (.iload_n 3, 1) := by decide +kernel
theorem dX11_holdsAt_5 : decode cX11_holdsAt 5 = .ok (.aload_n 0, 1) := by decide +kernel
theorem dX11_holdsAt_6 : decode cX11_holdsAt 6 = .ok (.getfield 7, 3) := by decide +kernel
theorem dX11_holdsAt_9 : decode cX11_holdsAt 9 = .ok (.iconst 0, 1) := by decide +kernel
theorem dX11_holdsAt_10 : decode cX11_holdsAt 10 = .ok (.iaload, 1) := by decide +kernel
theorem dX11_holdsAt_11 : decode cX11_holdsAt 11 = .ok (.if_icmp .ge 44, 3) := by decide +kernel
theorem dX11_holdsAt_14 : decode cX11_holdsAt 14 = .ok (.iload_n 2, 1) := by decide +kernel
theorem dX11_holdsAt_15 : decode cX11_holdsAt 15 = .ok (.aload_n 0, 1) := by decide +kernel
theorem dX11_holdsAt_16 : decode cX11_holdsAt 16 = .ok (.getfield 7, 3) := by decide +kernel
theorem dX11_holdsAt_19 : decode cX11_holdsAt 19 = .ok (.iconst 3, 1) := by decide +kernel
theorem dX11_holdsAt_20 : decode cX11_holdsAt 20 = .ok (.bipush 6, 2) := by decide +kernel
theorem dX11_holdsAt_22 : decode cX11_holdsAt 22 = .ok (.iload_n 3, 1) := by decide +kernel
theorem dX11_holdsAt_23 : decode cX11_holdsAt 23 = .ok (.imul, 1) := by decide +kernel
theorem dX11_holdsAt_24 : decode cX11_holdsAt 24 = .ok (.iadd, 1) := by decide +kernel
theorem dX11_holdsAt_25 : decode cX11_holdsAt 25 = .ok (.iconst 5, 1) := by decide +kernel
theorem dX11_holdsAt_26 : decode cX11_holdsAt 26 = .ok (.iadd, 1) := by decide +kernel
theorem dX11_holdsAt_27 : decode cX11_holdsAt 27 = .ok (.iaload, 1) := by decide +kernel
theorem dX11_holdsAt_28 : decode cX11_holdsAt 28 = .ok (.aload_n 0, 1) := by decide +kernel
theorem dX11_holdsAt_29 : decode cX11_holdsAt 29 = .ok (.iload_n 3, 1) := by decide +kernel
theorem dX11_holdsAt_30 : decode cX11_holdsAt 30 = .ok (.iload_n 1, 1) := by decide +kernel
theorem dX11_holdsAt_31 : decode cX11_holdsAt 31 = .ok (.invokevirtual 70, 3) := by decide +kernel
theorem dX11_holdsAt_34 : decode cX11_holdsAt 34 = .ok (.invokestatic 73, 3) := by decide +kernel
theorem dX11_holdsAt_37 : decode cX11_holdsAt 37 = .ok (.ifCond .eq 9, 3) := by decide +kernel
theorem dX11_holdsAt_40 : decode cX11_holdsAt 40 = .ok (.iconst 1, 1) := by decide +kernel
theorem dX11_holdsAt_41 : decode cX11_holdsAt 41 = .ok (.iload_n 3, 1) := by decide +kernel
theorem dX11_holdsAt_42 : decode cX11_holdsAt 42 = .ok (.ishl, 1) := by decide +kernel
theorem dX11_holdsAt_43 : decode cX11_holdsAt 43 = .ok (.goto 4, 3) := by decide +kernel
theorem dX11_holdsAt_46 : decode cX11_holdsAt 46 = .ok (.iconst 0, 1) := by decide +kernel
theorem dX11_holdsAt_47 : decode cX11_holdsAt 47 = .ok (.ior, 1) := by decide +kernel
theorem dX11_holdsAt_48 : decode cX11_holdsAt 48 = .ok (.istore_n 2, 1) := by decide +kernel
theorem dX11_holdsAt_49 : decode cX11_holdsAt 49 = .ok (.iinc 3 1, 3) := by decide +kernel
theorem dX11_holdsAt_52 : decode cX11_holdsAt 52 = .ok (.goto (-48), 3) := by decide +kernel
theorem dX11_holdsAt_55 : decode cX11_holdsAt 55 = .ok (.iload_n 2, 1) := by decide +kernel
theorem dX11_holdsAt_56 : decode cX11_holdsAt 56 = .ok (.ireturn, 1) := by decide +kernel
set_option maxRecDepth 20000 in
theorem ggX11_isBoxed_X11_valueOf : GoodIn wsX11_isBoxed wsX11_valueOf := goodIn_r _ [5] (by decide +kernel) (by decide +kernel)
set_option maxRecDepth 20000 in
theorem gX11_isBoxed_X11_valueOf : GoodIn wsX11_isBoxed (va_wsS RX11 66 yX11_valueOf wsX11_valueOf) := goodIn_app (goodIn_of _ (by decide +kernel)) ggX11_isBoxed_X11_valueOf
theorem dX11_isBoxed_0 : decode cX11_isBoxed 0 = .ok (.iconst 1, 1) := by decide +kernel
theorem dX11_isBoxed_1 : decode cX11_isBoxed 1 = .ok (.istore_n 2, 1) := by decide +kernel
theorem dX11_isBoxed_2 : decode cX11_isBoxed 2 = .ok (.iconst 0, 1) := by decide +kernel
theorem dX11_isBoxed_3 : decode cX11_isBoxed 3 = .ok (.istore_n 3, 1) := by decide +kernel
theorem dX11_isBoxed_4 : decode cX11_isBoxed 4 = .ok (.iload_n 3, 1) := by decide +kernel
theorem dX11_isBoxed_5 : decode cX11_isBoxed 5 = .ok (.iconst 4, 1) := by decide +kernel
theorem dX11_isBoxed_6 : decode cX11_isBoxed 6 = .ok (.if_icmp .ge 33, 3) := by decide +kernel
theorem dX11_isBoxed_9 : decode cX11_isBoxed 9 = .ok (.iload_n 2, 1) := by decide +kernel
theorem dX11_isBoxed_10 : decode cX11_isBoxed 10 = .ok (.ifCond .eq 21, 3) := by decide +kernel
theorem dX11_isBoxed_13 : decode cX11_isBoxed 13 = .ok (.iload_n 1, 1) := by decide +kernel
theorem dX11_isBoxed_14 : decode cX11_isBoxed 14 = .ok (.iload_n 3, 1) := by decide +kernel
theorem dX11_isBoxed_15 : decode cX11_isBoxed 15 = .ok (.invokestatic 66, 3) := by decide +kernel
theorem dX11_isBoxed_18 : decode cX11_isBoxed 18 = .ok (.aload_n 0, 1) := by decide +kernel
theorem dX11_isBoxed_19 : decode cX11_isBoxed 19 = .ok (.getfield 7, 3) := by decide +kernel
theorem dX11_isBoxed_22 : decode cX11_isBoxed 22 = .ok (.iconst 1, 1) := by decide +kernel
theorem dX11_isBoxed_23 : decode cX11_isBoxed 23 = .ok (.iaload, 1) := by decide +kernel
theorem dX11_isBoxed_24 : decode cX11_isBoxed 24 = .ok (.if_icmp .gt 7, 3) := by decide +kernel
theorem dX11_isBoxed_27 : decode cX11_isBoxed 27 = .ok (.iconst 1, 1) := by decide +kernel
theorem dX11_isBoxed_28 : decode cX11_isBoxed 28 = .ok (.goto 4, 3) := by decide +kernel
theorem dX11_isBoxed_31 : decode cX11_isBoxed 31 = .ok (.iconst 0, 1) := by decide +kernel
theorem dX11_isBoxed_32 : decode cX11_isBoxed 32 = .ok (.istore_n 2, 1) := by decide +kernel
theorem dX11_isBoxed_33 : decode cX11_isBoxed 33 = .ok (.iinc 3 1, 3) := by decide +kernel
theorem dX11_isBoxed_36 : decode cX11_isBoxed 36 = .ok (.goto (-32), 3) := by decide +kernel
theorem dX11_isBoxed_39 : decode cX11_isBoxed 39 = .ok (.iload_n 2, 1) := by decide +kernel
theorem dX11_isBoxed_40 : decode cX11_isBoxed 40 = .ok (.ireturn, 1) := by decide +kernel
set_option maxRecDepth 20000 in
theorem ggX11_lays_X11_isBoxed : GoodIn wsX11_lays wsX11_isBoxed := goodIn_r _ [8, 9, 10, 11, 7, 12, 24, 25, 26, 27, 28, 29, 30, 31, 32, 33, 34, 35, 36, 37, 38, 39, 40, 41, 42, 43, 44, 45, 46] (by decide +kernel) (by decide +kernel)
set_option maxRecDepth 20000 in
theorem gX11_lays_X11_isBoxed : GoodIn wsX11_lays (wsV RX11 80 RX11 yX11_isBoxed wsX11_isBoxed) := goodIn_app (goodIn_of _ (by decide +kernel)) ggX11_lays_X11_isBoxed
set_option maxRecDepth 20000 in
theorem ggX11_lays_X11_holdsAt : GoodIn wsX11_lays wsX11_holdsAt := goodIn_r _ [16, 9, 17, 18, 19, 7, 20, 10, 11, 12, 21, 22, 23, 24, 25, 26, 27, 28, 29, 30, 31, 32, 33, 34, 35, 36, 37, 38, 39, 40, 41, 42, 43, 44, 45, 46] (by decide +kernel) (by decide +kernel)
set_option maxRecDepth 20000 in
theorem gX11_lays_X11_holdsAt : GoodIn wsX11_lays (wsV RX11 84 RX11 yX11_holdsAt wsX11_holdsAt) := goodIn_app (goodIn_of _ (by decide +kernel)) ggX11_lays_X11_holdsAt
theorem dX11_lays_0 : decode cX11_lays 0 = .ok (.aload_n 0, 1) := by decide +kernel
theorem dX11_lays_1 : decode cX11_lays 1 = .ok (.iconst 0, 1) := by decide +kernel
theorem dX11_lays_2 : decode cX11_lays 2 = .ok (.putfield 77, 3) := by decide +kernel
theorem dX11_lays_5 : decode cX11_lays 5 = .ok (.iconst 0, 1) := by decide +kernel
theorem dX11_lays_6 : decode cX11_lays 6 = .ok (.istore_n 1, 1) := by decide +kernel
theorem dX11_lays_7 : decode cX11_lays 7 = .ok (.iload_n 1, 1) := by decide +kernel
theorem dX11_lays_8 : decode cX11_lays 8 = .ok (.sipush 4096, 3) := by decide +kernel
theorem dX11_lays_11 : decode cX11_lays 11 = .ok (.if_icmp .ge 51, 3) := by decide +kernel
theorem dX11_lays_14 : decode cX11_lays 14 = .ok (.aload_n 0, 1) := by decide +kernel
theorem dX11_lays_15 : decode cX11_lays 15 = .ok (.iload_n 1, 1) := by decide +kernel
theorem dX11_lays_16 : decode cX11_lays 16 = .ok (.invokevirtual 80, 3) := by decide +kernel
theorem dX11_lays_19 : decode cX11_lays 19 = .ok (.ifCond .eq 37, 3) := by decide +kernel
theorem dX11_lays_22 : decode cX11_lays 22 = .ok (.aload_n 0, 1) := by decide +kernel
theorem dX11_lays_23 : decode cX11_lays 23 = .ok (.getfield 13, 3) := by decide +kernel
theorem dX11_lays_26 : decode cX11_lays 26 = .ok (.aload_n 0, 1) := by decide +kernel
theorem dX11_lays_27 : decode cX11_lays 27 = .ok (.getfield 77, 3) := by decide +kernel
theorem dX11_lays_30 : decode cX11_lays 30 = .ok (.iload_n 1, 1) := by decide +kernel
theorem dX11_lays_31 : decode cX11_lays 31 = .ok (.iastore, 1) := by decide +kernel
theorem dX11_lays_32 : decode cX11_lays 32 = .ok (.aload_n 0, 1) := by decide +kernel
theorem dX11_lays_33 : decode cX11_lays 33 = .ok (.getfield 16, 3) := by decide +kernel
theorem dX11_lays_36 : decode cX11_lays 36 = .ok (.aload_n 0, 1) := by decide +kernel
theorem dX11_lays_37 : decode cX11_lays 37 = .ok (.getfield 77, 3) := by decide +kernel
theorem dX11_lays_40 : decode cX11_lays 40 = .ok (.aload_n 0, 1) := by decide +kernel
theorem dX11_lays_41 : decode cX11_lays 41 = .ok (.iload_n 1, 1) := by decide +kernel
theorem dX11_lays_42 : decode cX11_lays 42 = .ok (.invokevirtual 84, 3) := by decide +kernel
theorem dX11_lays_45 : decode cX11_lays 45 = .ok (.iastore, 1) := by decide +kernel
theorem dX11_lays_46 : decode cX11_lays 46 = .ok (.aload_n 0, 1) := by decide +kernel
theorem dX11_lays_47 : decode cX11_lays 47 = .ok (.dup, 1) := by decide +kernel
theorem dX11_lays_48 : decode cX11_lays 48 = .ok (.getfield 77, 3) := by decide +kernel
theorem dX11_lays_51 : decode cX11_lays 51 = .ok (.iconst 1, 1) := by decide +kernel
theorem dX11_lays_52 : decode cX11_lays 52 = .ok (.iadd, 1) := by decide +kernel
theorem dX11_lays_53 : decode cX11_lays 53 = .ok (.putfield 77, 3) := by decide +kernel
theorem dX11_lays_56 : decode cX11_lays 56 = .ok (.iinc 1 1, 3) := by decide +kernel
theorem dX11_lays_59 : decode cX11_lays 59 = .ok (.goto (-52), 3) := by decide +kernel
theorem dX11_lays_62 : decode cX11_lays 62 = .ok (.return_, 1) := by decide +kernel
theorem dX11_pointsBy_0 : decode cX11_pointsBy 0 = .ok (.iconst 0, 1) := by decide +kernel
theorem dX11_pointsBy_1 : decode cX11_pointsBy 1 = .ok (.istore_n 2, 1) := by decide +kernel
theorem dX11_pointsBy_2 : decode cX11_pointsBy 2 = .ok (.iconst 0, 1) := by decide +kernel
theorem dX11_pointsBy_3 : decode cX11_pointsBy 3 = .ok (.istore_n 3, 1) := by decide +kernel
theorem dX11_pointsBy_4 : decode cX11_pointsBy 4 = .ok (.iload_n 3, 1) := by decide +kernel
theorem dX11_pointsBy_5 : decode cX11_pointsBy 5 = .ok (.aload_n 0, 1) := by decide +kernel
theorem dX11_pointsBy_6 : decode cX11_pointsBy 6 = .ok (.getfield 77, 3) := by decide +kernel
theorem dX11_pointsBy_9 : decode cX11_pointsBy 9 = .ok (.if_icmp .ge 29, 3) := by decide +kernel
theorem dX11_pointsBy_12 : decode cX11_pointsBy 12 = .ok (.iload_n 2, 1) := by decide +kernel
theorem dX11_pointsBy_13 : decode cX11_pointsBy 13 = .ok (.aload_n 0, 1) := by decide +kernel
theorem dX11_pointsBy_14 : decode cX11_pointsBy 14 = .ok (.getfield 16, 3) := by decide +kernel
theorem dX11_pointsBy_17 : decode cX11_pointsBy 17 = .ok (.iload_n 3, 1) := by decide +kernel
theorem dX11_pointsBy_18 : decode cX11_pointsBy 18 = .ok (.iaload, 1) := by decide +kernel
theorem dX11_pointsBy_19 : decode cX11_pointsBy 19 = .ok (.iload_n 1, 1) := by decide +kernel
theorem dX11_pointsBy_20 : decode cX11_pointsBy 20 = .ok (.iand, 1) := by decide +kernel
theorem dX11_pointsBy_21 : decode cX11_pointsBy 21 = .ok (.iload_n 1, 1) := by decide +kernel
theorem dX11_pointsBy_22 : decode cX11_pointsBy 22 = .ok (.if_icmp .ne 7, 3) := by decide +kernel
theorem dX11_pointsBy_25 : decode cX11_pointsBy 25 = .ok (.iconst 1, 1) := by decide +kernel
theorem dX11_pointsBy_26 : decode cX11_pointsBy 26 = .ok (.goto 4, 3) := by decide +kernel
theorem dX11_pointsBy_29 : decode cX11_pointsBy 29 = .ok (.iconst 0, 1) := by decide +kernel
theorem dX11_pointsBy_30 : decode cX11_pointsBy 30 = .ok (.iadd, 1) := by decide +kernel
theorem dX11_pointsBy_31 : decode cX11_pointsBy 31 = .ok (.istore_n 2, 1) := by decide +kernel
theorem dX11_pointsBy_32 : decode cX11_pointsBy 32 = .ok (.iinc 3 1, 3) := by decide +kernel
theorem dX11_pointsBy_35 : decode cX11_pointsBy 35 = .ok (.goto (-31), 3) := by decide +kernel
theorem dX11_pointsBy_38 : decode cX11_pointsBy 38 = .ok (.iload_n 2, 1) := by decide +kernel
theorem dX11_pointsBy_39 : decode cX11_pointsBy 39 = .ok (.ireturn, 1) := by decide +kernel
theorem dX11_all_0 : decode cX11_all 0 = .ok (.iconst 1, 1) := by decide +kernel
theorem dX11_all_1 : decode cX11_all 1 = .ok (.aload_n 0, 1) := by decide +kernel
theorem dX11_all_2 : decode cX11_all 2 = .ok (.getfield 7, 3) := by decide +kernel
theorem dX11_all_5 : decode cX11_all 5 = .ok (.iconst 0, 1) := by decide +kernel
theorem dX11_all_6 : decode cX11_all 6 = .ok (.iaload, 1) := by decide +kernel
theorem dX11_all_7 : decode cX11_all 7 = .ok (.ishl, 1) := by decide +kernel
theorem dX11_all_8 : decode cX11_all 8 = .ok (.iconst 1, 1) := by decide +kernel
theorem dX11_all_9 : decode cX11_all 9 = .ok (.isub, 1) := by decide +kernel
theorem dX11_all_10 : decode cX11_all 10 = .ok (.ireturn, 1) := by decide +kernel
set_option maxRecDepth 20000 in
theorem ggX11_pointsNow_X11_lays : GoodIn wsX11_pointsNow wsX11_lays := goodIn_r _ [5, 6, 7, 8, 9, 10, 11, 4, 12, 13, 14, 15, 16, 17, 18, 19, 20, 21, 22, 23, 24, 25, 26, 27, 36, 37, 38, 39, 40, 41, 42, 43, 44, 45, 46, 47, 48, 49, 50, 51, 52, 53, 54, 55, 56, 57, 58] (by decide +kernel) (by decide +kernel)
set_option maxRecDepth 20000 in
theorem gX11_pointsNow_X11_lays : GoodIn wsX11_pointsNow (wsV RX11 88 RX11 yX11_lays wsX11_lays) := goodIn_app (goodIn_of _ (by decide +kernel)) ggX11_pointsNow_X11_lays
set_option maxRecDepth 20000 in
theorem ggX11_pointsNow_X11_all : GoodIn wsX11_pointsNow wsX11_all := goodIn_r _ [31, 13, 36, 37, 38, 39, 40, 41, 42, 43, 44, 45, 46, 47, 48, 49, 50, 51, 52, 53, 54, 55, 56, 57, 58] (by decide +kernel) (by decide +kernel)
set_option maxRecDepth 20000 in
theorem gX11_pointsNow_X11_all : GoodIn wsX11_pointsNow (wsV RX11 91 RX11 yX11_all wsX11_all) := goodIn_app (goodIn_of _ (by decide +kernel)) ggX11_pointsNow_X11_all
set_option maxRecDepth 20000 in
theorem ggX11_pointsNow_X11_pointsBy : GoodIn wsX11_pointsNow wsX11_pointsBy := goodIn_r _ [35, 6, 8, 36, 37, 38, 39, 40, 41, 42, 43, 44, 45, 46, 47, 48, 49, 50, 51, 52, 53, 54, 55, 56, 57, 58] (by decide +kernel) (by decide +kernel)
set_option maxRecDepth 20000 in
theorem gX11_pointsNow_X11_pointsBy : GoodIn wsX11_pointsNow (wsV RX11 95 RX11 yX11_pointsBy wsX11_pointsBy) := goodIn_app (goodIn_of _ (by decide +kernel)) ggX11_pointsNow_X11_pointsBy
theorem dX11_pointsNow_0 : decode cX11_pointsNow 0 = .ok (.aload_n 0, 1) := by decide +kernel
theorem dX11_pointsNow_1 : decode cX11_pointsNow 1 = .ok (.invokevirtual 88, 3) := by decide +kernel
theorem dX11_pointsNow_4 : decode cX11_pointsNow 4 = .ok (.aload_n 0, 1) := by decide +kernel
theorem dX11_pointsNow_5 : decode cX11_pointsNow 5 = .ok (.aload_n 0, 1) := by decide +kernel
theorem dX11_pointsNow_6 : decode cX11_pointsNow 6 = .ok (.invokevirtual 91, 3) := by decide +kernel
theorem dX11_pointsNow_9 : decode cX11_pointsNow 9 = .ok (.invokevirtual 95, 3) := by decide +kernel
theorem dX11_pointsNow_12 : decode cX11_pointsNow 12 = .ok (.ireturn, 1) := by decide +kernel
set_option maxRecDepth 20000 in
theorem ggX11_firstPoint_X11_lays : GoodIn wsX11_firstPoint wsX11_lays := goodIn_r _ [9, 2, 4, 3, 10, 11, 12, 8, 13, 14, 15, 16, 17, 18, 19, 20, 21, 22, 23, 24, 25, 26, 27, 28, 33, 34, 35, 36, 37, 38, 39, 40, 41, 42, 43, 44, 45, 46, 47, 48, 49, 50, 51, 52, 53, 54, 55] (by decide +kernel) (by decide +kernel)
set_option maxRecDepth 20000 in
theorem gX11_firstPoint_X11_lays : GoodIn wsX11_firstPoint (wsV RX11 88 RX11 yX11_lays wsX11_lays) := goodIn_app (goodIn_of _ (by decide +kernel)) ggX11_firstPoint_X11_lays
set_option maxRecDepth 20000 in
theorem ggX11_firstPoint_X11_all : GoodIn wsX11_firstPoint wsX11_all := goodIn_r _ [32, 14, 33, 34, 35, 36, 37, 38, 39, 40, 41, 42, 43, 44, 45, 46, 47, 48, 49, 50, 51, 52, 53, 54, 55] (by decide +kernel) (by decide +kernel)
set_option maxRecDepth 20000 in
theorem gX11_firstPoint_X11_all : GoodIn wsX11_firstPoint (wsV RX11 91 RX11 yX11_all wsX11_all) := goodIn_app (goodIn_of _ (by decide +kernel)) ggX11_firstPoint_X11_all
theorem dX11_firstPoint_0 : decode cX11_firstPoint 0 = .ok (.aload_n 0, 1) := by decide +kernel
theorem dX11_firstPoint_1 : decode cX11_firstPoint 1 = .ok (.invokevirtual 88, 3) := by decide +kernel
theorem dX11_firstPoint_4 : decode cX11_firstPoint 4 = .ok (.ldc 98, 2) := by decide +kernel
theorem dX11_firstPoint_6 : decode cX11_firstPoint 6 = .ok (.istore_n 1, 1) := by decide +kernel
theorem dX11_firstPoint_7 : decode cX11_firstPoint 7 = .ok (.aload_n 0, 1) := by decide +kernel
theorem dX11_firstPoint_8 : decode cX11_firstPoint 8 = .ok (.getfield 77, 3) := by decide +kernel
theorem dX11_firstPoint_11 : decode cX11_firstPoint 11 = .ok (.iconst 1, 1) := by decide +kernel
theorem dX11_firstPoint_12 : decode cX11_firstPoint 12 = .ok (.isub, 1) := by decide +kernel
theorem dX11_firstPoint_13 : decode cX11_firstPoint 13 = .ok (.istore_n 2, 1) := by decide +kernel
theorem dX11_firstPoint_14 : decode cX11_firstPoint 14 = .ok (.iload_n 2, 1) := by decide +kernel
theorem dX11_firstPoint_15 : decode cX11_firstPoint 15 = .ok (.ifCond .lt 33, 3) := by decide +kernel
theorem dX11_firstPoint_18 : decode cX11_firstPoint 18 = .ok (.aload_n 0, 1) := by decide +kernel
theorem dX11_firstPoint_19 : decode cX11_firstPoint 19 = .ok (.getfield 16, 3) := by decide +kernel
theorem dX11_firstPoint_22 : decode cX11_firstPoint 22 = .ok (.iload_n 2, 1) := by decide +kernel
theorem dX11_firstPoint_23 : decode cX11_firstPoint 23 = .ok (.iaload, 1) := by decide +kernel
theorem dX11_firstPoint_24 : decode cX11_firstPoint 24 = .ok (.aload_n 0, 1) := by decide +kernel
theorem dX11_firstPoint_25 : decode cX11_firstPoint 25 = .ok (.invokevirtual 91, 3) := by decide +kernel
theorem dX11_firstPoint_28 : decode cX11_firstPoint 28 = .ok (.if_icmp .ne 12, 3) := by decide +kernel
theorem dX11_firstPoint_31 : decode cX11_firstPoint 31 = .ok (.aload_n 0, 1) := by decide +kernel
theorem dX11_firstPoint_32 : decode cX11_firstPoint 32 = .ok (.getfield 13, 3) := by decide +kernel
theorem dX11_firstPoint_35 : decode cX11_firstPoint 35 = .ok (.iload_n 2, 1) := by decide +kernel
theorem dX11_firstPoint_36 : decode cX11_firstPoint 36 = .ok (.iaload, 1) := by decide +kernel
theorem dX11_firstPoint_37 : decode cX11_firstPoint 37 = .ok (.goto 4, 3) := by decide +kernel
theorem dX11_firstPoint_40 : decode cX11_firstPoint 40 = .ok (.iload_n 1, 1) := by decide +kernel
theorem dX11_firstPoint_41 : decode cX11_firstPoint 41 = .ok (.istore_n 1, 1) := by decide +kernel
theorem dX11_firstPoint_42 : decode cX11_firstPoint 42 = .ok (.iinc 2 (-1), 3) := by decide +kernel
theorem dX11_firstPoint_45 : decode cX11_firstPoint 45 = .ok (.goto (-31), 3) := by decide +kernel
theorem dX11_firstPoint_48 : decode cX11_firstPoint 48 = .ok (.iload_n 1, 1) := by decide +kernel
theorem dX11_firstPoint_49 : decode cX11_firstPoint 49 = .ok (.ireturn, 1) := by decide +kernel
set_option maxRecDepth 20000 in
theorem ggX11_add_X11_in : GoodIn wsX11_add wsX11_in := goodIn_r _ [11] (by decide +kernel) (by decide +kernel)
set_option maxRecDepth 20000 in
theorem gX11_add_X11_in : GoodIn wsX11_add (va_wsS RX11 60 yX11_in wsX11_in) := goodIn_app (goodIn_of _ (by decide +kernel)) ggX11_add_X11_in
set_option maxRecDepth 20000 in
theorem ggX11_add_X11_notes : GoodIn wsX11_add wsX11_notes := goodIn_r _ [15, 16, 17, 6, 18, 19, 20, 21, 22, 23, 24, 25, 26, 27, 28, 29, 30, 31, 32, 33, 34, 35, 36, 37, 38, 39, 40] (by decide +kernel) (by decide +kernel)
set_option maxRecDepth 20000 in
theorem gX11_add_X11_notes : GoodIn wsX11_add (wsV RX11 109 RX11 yX11_notes wsX11_notes) := goodIn_app (goodIn_of _ (by decide +kernel)) ggX11_add_X11_notes
theorem dX11_add_0 : decode cX11_add 0 = .ok (.iload_n 1, 1) := by decide +kernel
theorem dX11_add_1 : decode cX11_add 1 = .ok (.i2l, 1) := by decide +kernel
theorem dX11_add_2 : decode cX11_add 2 = .ok (.lconst 0, 1) := by decide +kernel
theorem dX11_add_3 : decode cX11_add 3 = .ok (.ldc2_w 99, 3) := by decide +kernel
theorem dX11_add_6 : decode cX11_add 6 = .ok (.invokestatic 60, 3) := by decide +kernel
theorem dX11_add_9 : decode cX11_add 9 = .ok (.ifCond .eq 29, 3) := by decide +kernel
theorem dX11_add_12 : decode cX11_add 12 = .ok (.iload_n 2, 1) := by decide +kernel
theorem dX11_add_13 : decode cX11_add 13 = .ok (.i2l, 1) := by decide +kernel
theorem dX11_add_14 : decode cX11_add 14 = .ok (.lconst 0, 1) := by decide +kernel
theorem dX11_add_15 : decode cX11_add 15 = .ok (.ldc2_w 101, 3) := by decide +kernel
theorem dX11_add_18 : decode cX11_add 18 = .ok (.invokestatic 60, 3) := by decide +kernel
theorem dX11_add_21 : decode cX11_add 21 = .ok (.ifCond .eq 17, 3) := by decide +kernel
theorem dX11_add_24 : decode cX11_add 24 = .ok (.iload_n 3, 1) := by decide +kernel
theorem dX11_add_25 : decode cX11_add 25 = .ok (.i2l, 1) := by decide +kernel
theorem dX11_add_26 : decode cX11_add 26 = .ok (.ldc2_w 103, 3) := by decide +kernel
theorem dX11_add_29 : decode cX11_add 29 = .ok (.ldc2_w 105, 3) := by decide +kernel
theorem dX11_add_32 : decode cX11_add 32 = .ok (.invokestatic 60, 3) := by decide +kernel
theorem dX11_add_35 : decode cX11_add 35 = .ok (.ifCond .ne 6, 3) := by decide +kernel
theorem dX11_add_38 : decode cX11_add 38 = .ok (.ldc 107, 2) := by decide +kernel
theorem dX11_add_40 : decode cX11_add 40 = .ok (.ireturn, 1) := by decide +kernel
theorem dX11_add_41 : decode cX11_add 41 = .ok (.iload_n 2, 1) := by decide +kernel
theorem dX11_add_42 : decode cX11_add 42 = .ok (.istore 4, 2) := by decide +kernel
theorem dX11_add_44 : decode cX11_add 44 = .ok (.iconst 1, 1) := by decide +kernel
theorem dX11_add_45 : decode cX11_add 45 = .ok (.istore 5, 2) := by decide +kernel
theorem dX11_add_47 : decode cX11_add 47 = .ok (.iconst 0, 1) := by decide +kernel
theorem dX11_add_48 : decode cX11_add 48 = .ok (.istore 6, 2) := by decide +kernel
theorem dX11_add_50 : decode cX11_add 50 = .ok (.iload 6, 2) := by decide +kernel
theorem dX11_add_52 : decode cX11_add 52 = .ok (.iconst 4, 1) := by decide +kernel
theorem dX11_add_53 : decode cX11_add 53 = .ok (.if_icmp .ge 38, 3) := by decide +kernel
theorem dX11_add_56 : decode cX11_add 56 = .ok (.iload 5, 2) := by decide +kernel
theorem dX11_add_58 : decode cX11_add 58 = .ok (.ifCond .eq 17, 3) := by decide +kernel
theorem dX11_add_61 : decode cX11_add 61 = .ok (.iload 4, 2) := by decide +kernel
theorem dX11_add_63 : decode cX11_add 63 = .ok (.bipush 20, 2) := by decide +kernel
theorem dX11_add_65 : decode cX11_add 65 = .ok (.irem, 1) := by decide +kernel
theorem dX11_add_66 : decode cX11_add 66 = .ok (.bipush 19, 2) := by decide +kernel
theorem dX11_add_68 : decode cX11_add 68 = .ok (.if_icmp .ge 7, 3) := by decide +kernel
theorem dX11_add_71 : decode cX11_add 71 = .ok (.iconst 1, 1) := by decide +kernel
theorem dX11_add_72 : decode cX11_add 72 = .ok (.goto 4, 3) := by decide +kernel
theorem dX11_add_75 : decode cX11_add 75 = .ok (.iconst 0, 1) := by decide +kernel
theorem dX11_add_76 : decode cX11_add 76 = .ok (.istore 5, 2) := by decide +kernel
theorem dX11_add_78 : decode cX11_add 78 = .ok (.iload 4, 2) := by decide +kernel
theorem dX11_add_80 : decode cX11_add 80 = .ok (.bipush 20, 2) := by decide +kernel
theorem dX11_add_82 : decode cX11_add 82 = .ok (.idiv, 1) := by decide +kernel
theorem dX11_add_83 : decode cX11_add 83 = .ok (.istore 4, 2) := by decide +kernel
theorem dX11_add_85 : decode cX11_add 85 = .ok (.iinc 6 1, 3) := by decide +kernel
theorem dX11_add_88 : decode cX11_add 88 = .ok (.goto (-38), 3) := by decide +kernel
theorem dX11_add_91 : decode cX11_add 91 = .ok (.iload 5, 2) := by decide +kernel
theorem dX11_add_93 : decode cX11_add 93 = .ok (.ifCond .ne 6, 3) := by decide +kernel
theorem dX11_add_96 : decode cX11_add 96 = .ok (.ldc 107, 2) := by decide +kernel
theorem dX11_add_98 : decode cX11_add 98 = .ok (.ireturn, 1) := by decide +kernel
theorem dX11_add_99 : decode cX11_add 99 = .ok (.aload_n 0, 1) := by decide +kernel
theorem dX11_add_100 : decode cX11_add 100 = .ok (.getfield 7, 3) := by decide +kernel
theorem dX11_add_103 : decode cX11_add 103 = .ok (.iconst 0, 1) := by decide +kernel
theorem dX11_add_104 : decode cX11_add 104 = .ok (.iaload, 1) := by decide +kernel
theorem dX11_add_105 : decode cX11_add 105 = .ok (.bipush 8, 2) := by decide +kernel
theorem dX11_add_107 : decode cX11_add 107 = .ok (.if_icmp .ne 6, 3) := by decide +kernel
theorem dX11_add_110 : decode cX11_add 110 = .ok (.ldc 108, 2) := by decide +kernel
theorem dX11_add_112 : decode cX11_add 112 = .ok (.ireturn, 1) := by decide +kernel
theorem dX11_add_113 : decode cX11_add 113 = .ok (.aload_n 0, 1) := by decide +kernel
theorem dX11_add_114 : decode cX11_add 114 = .ok (.invokevirtual 109, 3) := by decide +kernel
theorem dX11_add_117 : decode cX11_add 117 = .ok (.iconst 3, 1) := by decide +kernel
theorem dX11_add_118 : decode cX11_add 118 = .ok (.bipush 6, 2) := by decide +kernel
theorem dX11_add_120 : decode cX11_add 120 = .ok (.aload_n 0, 1) := by decide +kernel
theorem dX11_add_121 : decode cX11_add 121 = .ok (.getfield 7, 3) := by decide +kernel
theorem dX11_add_124 : decode cX11_add 124 = .ok (.iconst 0, 1) := by decide +kernel
theorem dX11_add_125 : decode cX11_add 125 = .ok (.iaload, 1) := by decide +kernel
theorem dX11_add_126 : decode cX11_add 126 = .ok (.imul, 1) := by decide +kernel
theorem dX11_add_127 : decode cX11_add 127 = .ok (.iadd, 1) := by decide +kernel
theorem dX11_add_128 : decode cX11_add 128 = .ok (.istore 6, 2) := by decide +kernel
theorem dX11_add_130 : decode cX11_add 130 = .ok (.aload_n 0, 1) := by decide +kernel
theorem dX11_add_131 : decode cX11_add 131 = .ok (.getfield 7, 3) := by decide +kernel
theorem dX11_add_134 : decode cX11_add 134 = .ok (.iconst 0, 1) := by decide +kernel
theorem dX11_add_135 : decode cX11_add 135 = .ok (.dup2, 1) := by decide +kernel
theorem dX11_add_136 : decode cX11_add 136 = .ok (.iaload, 1) := by decide +kernel
theorem dX11_add_137 : decode cX11_add 137 = .ok (.iconst 1, 1) := by decide +kernel
theorem dX11_add_138 : decode cX11_add 138 = .ok (.iadd, 1) := by decide +kernel
theorem dX11_add_139 : decode cX11_add 139 = .ok (.iastore, 1) := by decide +kernel
theorem dX11_add_140 : decode cX11_add 140 = .ok (.aload_n 0, 1) := by decide +kernel
theorem dX11_add_141 : decode cX11_add 141 = .ok (.getfield 7, 3) := by decide +kernel
theorem dX11_add_144 : decode cX11_add 144 = .ok (.iload 6, 2) := by decide +kernel
theorem dX11_add_146 : decode cX11_add 146 = .ok (.iload_n 2, 1) := by decide +kernel
theorem dX11_add_147 : decode cX11_add 147 = .ok (.sipush 8000, 3) := by decide +kernel
theorem dX11_add_150 : decode cX11_add 150 = .ok (.idiv, 1) := by decide +kernel
theorem dX11_add_151 : decode cX11_add 151 = .ok (.bipush 9, 2) := by decide +kernel
theorem dX11_add_153 : decode cX11_add 153 = .ok (.isub, 1) := by decide +kernel
theorem dX11_add_154 : decode cX11_add 154 = .ok (.iastore, 1) := by decide +kernel
theorem dX11_add_155 : decode cX11_add 155 = .ok (.aload_n 0, 1) := by decide +kernel
theorem dX11_add_156 : decode cX11_add 156 = .ok (.getfield 7, 3) := by decide +kernel
theorem dX11_add_159 : decode cX11_add 159 = .ok (.iload 6, 2) := by decide +kernel
theorem dX11_add_161 : decode cX11_add 161 = .ok (.iconst 1, 1) := by decide +kernel
theorem dX11_add_162 : decode cX11_add 162 = .ok (.iadd, 1) := by decide +kernel
theorem dX11_add_163 : decode cX11_add 163 = .ok (.iload_n 2, 1) := by decide +kernel
theorem dX11_add_164 : decode cX11_add 164 = .ok (.sipush 400, 3) := by decide +kernel
theorem dX11_add_167 : decode cX11_add 167 = .ok (.idiv, 1) := by decide +kernel
theorem dX11_add_168 : decode cX11_add 168 = .ok (.bipush 20, 2) := by decide +kernel
theorem dX11_add_170 : decode cX11_add 170 = .ok (.irem, 1) := by decide +kernel
theorem dX11_add_171 : decode cX11_add 171 = .ok (.bipush 9, 2) := by decide +kernel
theorem dX11_add_173 : decode cX11_add 173 = .ok (.isub, 1) := by decide +kernel
theorem dX11_add_174 : decode cX11_add 174 = .ok (.iastore, 1) := by decide +kernel
theorem dX11_add_175 : decode cX11_add 175 = .ok (.aload_n 0, 1) := by decide +kernel
theorem dX11_add_176 : decode cX11_add 176 = .ok (.getfield 7, 3) := by decide +kernel
theorem dX11_add_179 : decode cX11_add 179 = .ok (.iload 6, 2) := by decide +kernel
theorem dX11_add_181 : decode cX11_add 181 = .ok (.iconst 2, 1) := by decide +kernel
theorem dX11_add_182 : decode cX11_add 182 = .ok (.iadd, 1) := by decide +kernel
theorem dX11_add_183 : decode cX11_add 183 = .ok (.iload_n 2, 1) := by decide +kernel
theorem dX11_add_184 : decode cX11_add 184 = .ok (.bipush 20, 2) := by decide +kernel
theorem dX11_add_186 : decode cX11_add 186 = .ok (.idiv, 1) := by decide +kernel
theorem dX11_add_187 : decode cX11_add 187 = .ok (.bipush 20, 2) := by decide +kernel
theorem dX11_add_189 : decode cX11_add 189 = .ok (.irem, 1) := by decide +kernel
theorem dX11_add_190 : decode cX11_add 190 = .ok (.bipush 9, 2) := by decide +kernel
theorem dX11_add_192 : decode cX11_add 192 = .ok (.isub, 1) := by decide +kernel
theorem dX11_add_193 : decode cX11_add 193 = .ok (.iastore, 1) := by decide +kernel
theorem dX11_add_194 : decode cX11_add 194 = .ok (.aload_n 0, 1) := by decide +kernel
theorem dX11_add_195 : decode cX11_add 195 = .ok (.getfield 7, 3) := by decide +kernel
theorem dX11_add_198 : decode cX11_add 198 = .ok (.iload 6, 2) := by decide +kernel
theorem dX11_add_200 : decode cX11_add 200 = .ok (.iconst 3, 1) := by decide +kernel
theorem dX11_add_201 : decode cX11_add 201 = .ok (.iadd, 1) := by decide +kernel
theorem dX11_add_202 : decode cX11_add 202 = .ok (.iload_n 2, 1) := by decide +kernel
theorem dX11_add_203 : decode cX11_add 203 = .ok (.bipush 20, 2) := by decide +kernel
theorem dX11_add_205 : decode cX11_add 205 = .ok (.irem, 1) := by decide +kernel
theorem dX11_add_206 : decode cX11_add 206 = .ok (.bipush 9, 2) := by decide +kernel
theorem dX11_add_208 : decode cX11_add 208 = .ok (.isub, 1) := by decide +kernel
theorem dX11_add_209 : decode cX11_add 209 = .ok (.iastore, 1) := by decide +kernel
theorem dX11_add_210 : decode cX11_add 210 = .ok (.aload_n 0, 1) := by decide +kernel
theorem dX11_add_211 : decode cX11_add 211 = .ok (.getfield 7, 3) := by decide +kernel
theorem dX11_add_214 : decode cX11_add 214 = .ok (.iload 6, 2) := by decide +kernel
theorem dX11_add_216 : decode cX11_add 216 = .ok (.iconst 4, 1) := by decide +kernel
theorem dX11_add_217 : decode cX11_add 217 = .ok (.iadd, 1) := by decide +kernel
theorem dX11_add_218 : decode cX11_add 218 = .ok (.iload_n 3, 1) := by decide +kernel
theorem dX11_add_219 : decode cX11_add 219 = .ok (.iastore, 1) := by decide +kernel
theorem dX11_add_220 : decode cX11_add 220 = .ok (.aload_n 0, 1) := by decide +kernel
theorem dX11_add_221 : decode cX11_add 221 = .ok (.getfield 7, 3) := by decide +kernel
theorem dX11_add_224 : decode cX11_add 224 = .ok (.iload 6, 2) := by decide +kernel
theorem dX11_add_226 : decode cX11_add 226 = .ok (.iconst 5, 1) := by decide +kernel
theorem dX11_add_227 : decode cX11_add 227 = .ok (.iadd, 1) := by decide +kernel
theorem dX11_add_228 : decode cX11_add 228 = .ok (.iload_n 1, 1) := by decide +kernel
theorem dX11_add_229 : decode cX11_add 229 = .ok (.iastore, 1) := by decide +kernel
theorem dX11_add_230 : decode cX11_add 230 = .ok (.aload_n 0, 1) := by decide +kernel
theorem dX11_add_231 : decode cX11_add 231 = .ok (.getfield 7, 3) := by decide +kernel
theorem dX11_add_234 : decode cX11_add 234 = .ok (.iconst 0, 1) := by decide +kernel
theorem dX11_add_235 : decode cX11_add 235 = .ok (.iaload, 1) := by decide +kernel
theorem dX11_add_236 : decode cX11_add 236 = .ok (.iconst 1, 1) := by decide +kernel
theorem dX11_add_237 : decode cX11_add 237 = .ok (.isub, 1) := by decide +kernel
theorem dX11_add_238 : decode cX11_add 238 = .ok (.ireturn, 1) := by decide +kernel
set_option maxRecDepth 20000 in
theorem ggX11_of_X11_isOne : GoodIn wsX11_of wsX11_isOne := goodIn_r _ [8, 2, 9, 10, 7, 11, 12, 13, 14, 15, 16, 17, 18, 19, 20, 21, 22, 23, 24, 25, 26, 27, 28, 29, 30, 31, 32, 33, 34] (by decide +kernel) (by decide +kernel)
set_option maxRecDepth 20000 in
theorem gX11_of_X11_isOne : GoodIn wsX11_of (wsV RX11 112 RX11 yX11_isOne wsX11_isOne) := goodIn_app (goodIn_of _ (by decide +kernel)) ggX11_of_X11_isOne
set_option maxRecDepth 20000 in
theorem ggX11_of_X11_in : GoodIn wsX11_of wsX11_in := goodIn_r _ [11] (by decide +kernel) (by decide +kernel)
set_option maxRecDepth 20000 in
theorem gX11_of_X11_in : GoodIn wsX11_of (va_wsS RX11 60 yX11_in wsX11_in) := goodIn_app (goodIn_of _ (by decide +kernel)) ggX11_of_X11_in
theorem dX11_of_0 : decode cX11_of 0 = .ok (.aload_n 0, 1) := by decide +kernel
theorem dX11_of_1 : decode cX11_of 1 = .ok (.iload_n 1, 1) := by decide +kernel
theorem dX11_of_2 : decode cX11_of 2 = .ok (.invokevirtual 112, 3) := by decide +kernel
theorem dX11_of_5 : decode cX11_of 5 = .ok (.ifCond .eq 31, 3) := by decide +kernel
theorem dX11_of_8 : decode cX11_of 8 = .ok (.iload_n 2, 1) := by decide +kernel
theorem dX11_of_9 : decode cX11_of 9 = .ok (.i2l, 1) := by decide +kernel
theorem dX11_of_10 : decode cX11_of 10 = .ok (.lconst 0, 1) := by decide +kernel
theorem dX11_of_11 : decode cX11_of 11 = .ok (.ldc2_w 115, 3) := by decide +kernel
theorem dX11_of_14 : decode cX11_of 14 = .ok (.invokestatic 60, 3) := by decide +kernel
theorem dX11_of_17 : decode cX11_of 17 = .ok (.ifCond .eq 19, 3) := by decide +kernel
theorem dX11_of_20 : decode cX11_of 20 = .ok (.aload_n 0, 1) := by decide +kernel
theorem dX11_of_21 : decode cX11_of 21 = .ok (.getfield 7, 3) := by decide +kernel
theorem dX11_of_24 : decode cX11_of 24 = .ok (.iconst 3, 1) := by decide +kernel
theorem dX11_of_25 : decode cX11_of 25 = .ok (.bipush 6, 2) := by decide +kernel
theorem dX11_of_27 : decode cX11_of 27 = .ok (.iload_n 1, 1) := by decide +kernel
theorem dX11_of_28 : decode cX11_of 28 = .ok (.imul, 1) := by decide +kernel
theorem dX11_of_29 : decode cX11_of 29 = .ok (.iadd, 1) := by decide +kernel
theorem dX11_of_30 : decode cX11_of 30 = .ok (.iload_n 2, 1) := by decide +kernel
theorem dX11_of_31 : decode cX11_of 31 = .ok (.iadd, 1) := by decide +kernel
theorem dX11_of_32 : decode cX11_of 32 = .ok (.iaload, 1) := by decide +kernel
theorem dX11_of_33 : decode cX11_of 33 = .ok (.goto 5, 3) := by decide +kernel
theorem dX11_of_36 : decode cX11_of 36 = .ok (.ldc 107, 2) := by decide +kernel
theorem dX11_of_38 : decode cX11_of 38 = .ok (.ireturn, 1) := by decide +kernel
set_option maxRecDepth 20000 in
theorem ggX11_sum_X11_isOne : GoodIn wsX11_sum wsX11_isOne := goodIn_r _ [6, 7, 8, 9, 5, 10, 22, 23, 24, 25, 26, 27, 28, 29, 30, 31, 32, 33, 34, 35, 36, 37, 38, 39, 40, 41, 42, 43, 44] (by decide +kernel) (by decide +kernel)
set_option maxRecDepth 20000 in
theorem gX11_sum_X11_isOne : GoodIn wsX11_sum (wsV RX11 112 RX11 yX11_isOne wsX11_isOne) := goodIn_app (goodIn_of _ (by decide +kernel)) ggX11_sum_X11_isOne
set_option maxRecDepth 20000 in
theorem ggX11_sum_X11_isPoint : GoodIn wsX11_sum wsX11_isPoint := goodIn_r _ [13, 14, 8, 9, 5, 10] (by decide +kernel) (by decide +kernel)
set_option maxRecDepth 20000 in
theorem gX11_sum_X11_isPoint : GoodIn wsX11_sum (va_wsS RX11 117 yX11_isPoint wsX11_isPoint) := goodIn_app (goodIn_of _ (by decide +kernel)) ggX11_sum_X11_isPoint
set_option maxRecDepth 20000 in
theorem ggX11_sum_X11_sumOf : GoodIn wsX11_sum wsX11_sumOf := goodIn_r _ [18, 7, 19, 20, 5, 21, 22, 23, 24, 25, 26, 27, 28, 29, 30, 31, 32, 33, 34, 35, 36, 37, 38, 39, 40, 41, 42, 43, 44] (by decide +kernel) (by decide +kernel)
set_option maxRecDepth 20000 in
theorem gX11_sum_X11_sumOf : GoodIn wsX11_sum (wsV RX11 70 RX11 yX11_sumOf wsX11_sumOf) := goodIn_app (goodIn_of _ (by decide +kernel)) ggX11_sum_X11_sumOf
theorem dX11_sum_0 : decode cX11_sum 0 = .ok (.aload_n 0, 1) := by decide +kernel
theorem dX11_sum_1 : decode cX11_sum 1 = .ok (.iload_n 1, 1) := by decide +kernel
theorem dX11_sum_2 : decode cX11_sum 2 = .ok (.invokevirtual 112, 3) := by decide +kernel
theorem dX11_sum_5 : decode cX11_sum 5 = .ok (.ifCond .eq 20, 3) := by decide +kernel
theorem dX11_sum_8 : decode cX11_sum 8 = .ok (.iload_n 2, 1) := by decide +kernel
theorem dX11_sum_9 : decode cX11_sum 9 = .ok (.i2l, 1) := by decide +kernel
theorem dX11_sum_10 : decode cX11_sum 10 = .ok (.invokestatic 117, 3) := by decide +kernel
theorem dX11_sum_13 : decode cX11_sum 13 = .ok (.ifCond .eq 12, 3) := by decide +kernel
theorem dX11_sum_16 : decode cX11_sum 16 = .ok (.aload_n 0, 1) := by decide +kernel
theorem dX11_sum_17 : decode cX11_sum 17 = .ok (.iload_n 1, 1) := by decide +kernel
theorem dX11_sum_18 : decode cX11_sum 18 = .ok (.iload_n 2, 1) := by decide +kernel
theorem dX11_sum_19 : decode cX11_sum 19 = .ok (.invokevirtual 70, 3) := by decide +kernel
theorem dX11_sum_22 : decode cX11_sum 22 = .ok (.goto 5, 3) := by decide +kernel
theorem dX11_sum_25 : decode cX11_sum 25 = .ok (.ldc 107, 2) := by decide +kernel
theorem dX11_sum_27 : decode cX11_sum 27 = .ok (.ireturn, 1) := by decide +kernel
set_option maxRecDepth 20000 in
theorem ggX11_hold_X11_isPoint : GoodIn wsX11_hold wsX11_isPoint := goodIn_r _ [5, 6, 7, 8, 4, 9] (by decide +kernel) (by decide +kernel)
set_option maxRecDepth 20000 in
theorem gX11_hold_X11_isPoint : GoodIn wsX11_hold (va_wsS RX11 117 yX11_isPoint wsX11_isPoint) := goodIn_app (goodIn_of _ (by decide +kernel)) ggX11_hold_X11_isPoint
set_option maxRecDepth 20000 in
theorem ggX11_hold_X11_holdsAt : GoodIn wsX11_hold wsX11_holdsAt := goodIn_r _ [13, 14, 15, 16, 17, 4, 18, 19, 20, 21, 22, 23, 24, 25, 26, 27, 28, 29, 30, 31, 32, 33, 34, 35, 36, 37, 38, 39, 40, 41, 42, 43, 44, 45, 46, 47] (by decide +kernel) (by decide +kernel)
set_option maxRecDepth 20000 in
theorem gX11_hold_X11_holdsAt : GoodIn wsX11_hold (wsV RX11 84 RX11 yX11_holdsAt wsX11_holdsAt) := goodIn_app (goodIn_of _ (by decide +kernel)) ggX11_hold_X11_holdsAt
theorem dX11_hold_0 : decode cX11_hold 0 = .ok (.iload_n 1, 1) := by decide +kernel
theorem dX11_hold_1 : decode cX11_hold 1 = .ok (.i2l, 1) := by decide +kernel
theorem dX11_hold_2 : decode cX11_hold 2 = .ok (.invokestatic 117, 3) := by decide +kernel
theorem dX11_hold_5 : decode cX11_hold 5 = .ok (.ifCond .eq 11, 3) := by decide +kernel
theorem dX11_hold_8 : decode cX11_hold 8 = .ok (.aload_n 0, 1) := by decide +kernel
theorem dX11_hold_9 : decode cX11_hold 9 = .ok (.iload_n 1, 1) := by decide +kernel
theorem dX11_hold_10 : decode cX11_hold 10 = .ok (.invokevirtual 84, 3) := by decide +kernel
theorem dX11_hold_13 : decode cX11_hold 13 = .ok (.goto 5, 3) := by decide +kernel
theorem dX11_hold_16 : decode cX11_hold 16 = .ok (.ldc 107, 2) := by decide +kernel
theorem dX11_hold_18 : decode cX11_hold 18 = .ok (.ireturn, 1) := by decide +kernel
set_option maxRecDepth 20000 in
theorem ggX11_count_X11_pointsNow : GoodIn wsX11_count wsX11_pointsNow := goodIn_r _ [8, 9, 10, 11, 7, 12, 13, 14, 15, 16, 17, 18, 19, 1, 20, 21, 22, 23, 24, 25, 26, 27, 28, 29, 30, 31, 32, 33, 34, 35, 36, 37, 38, 39, 40, 41, 47, 48, 49, 50, 51, 52, 53, 54, 55, 56, 57, 58, 59, 60, 61, 62, 63, 64, 65, 66, 67, 68, 69] (by decide +kernel) (by decide +kernel)
set_option maxRecDepth 20000 in
theorem gX11_count_X11_pointsNow : GoodIn wsX11_count (wsV RX11 121 RX11 yX11_pointsNow wsX11_pointsNow) := goodIn_app (goodIn_of _ (by decide +kernel)) ggX11_count_X11_pointsNow
set_option maxRecDepth 20000 in
theorem ggX11_count_X11_firstPoint : GoodIn wsX11_count wsX11_firstPoint := goodIn_r _ [45, 46, 13, 15, 14, 9, 10, 11, 7, 12, 16, 17, 18, 19, 1, 20, 21, 22, 23, 24, 25, 26, 27, 28, 29, 30, 31, 32, 33, 34, 35, 36, 37, 47, 48, 49, 50, 51, 52, 53, 54, 55, 56, 57, 58, 59, 60, 61, 62, 63, 64, 65, 66, 67, 68, 69] (by decide +kernel) (by decide +kernel)
set_option maxRecDepth 20000 in
theorem gX11_count_X11_firstPoint : GoodIn wsX11_count (wsV RX11 124 RX11 yX11_firstPoint wsX11_firstPoint) := goodIn_app (goodIn_of _ (by decide +kernel)) ggX11_count_X11_firstPoint
theorem dX11_count_0 : decode cX11_count 0 = .ok (.iload_n 1, 1) := by decide +kernel
theorem dX11_count_1 : decode cX11_count 1 = .ok (.tableswitch 64 0 4 #[35, 42, 49, 54, 59], 35) := by decide +kernel
theorem dX11_count_36 : decode cX11_count 36 = .ok (.aload_n 0, 1) := by decide +kernel
theorem dX11_count_37 : decode cX11_count 37 = .ok (.getfield 7, 3) := by decide +kernel
theorem dX11_count_40 : decode cX11_count 40 = .ok (.iconst 0, 1) := by decide +kernel
theorem dX11_count_41 : decode cX11_count 41 = .ok (.iaload, 1) := by decide +kernel
theorem dX11_count_42 : decode cX11_count 42 = .ok (.ireturn, 1) := by decide +kernel
theorem dX11_count_43 : decode cX11_count 43 = .ok (.aload_n 0, 1) := by decide +kernel
theorem dX11_count_44 : decode cX11_count 44 = .ok (.getfield 7, 3) := by decide +kernel
theorem dX11_count_47 : decode cX11_count 47 = .ok (.iconst 1, 1) := by decide +kernel
theorem dX11_count_48 : decode cX11_count 48 = .ok (.iaload, 1) := by decide +kernel
theorem dX11_count_49 : decode cX11_count 49 = .ok (.ireturn, 1) := by decide +kernel
theorem dX11_count_50 : decode cX11_count 50 = .ok (.aload_n 0, 1) := by decide +kernel
theorem dX11_count_51 : decode cX11_count 51 = .ok (.invokevirtual 121, 3) := by decide +kernel
theorem dX11_count_54 : decode cX11_count 54 = .ok (.ireturn, 1) := by decide +kernel
theorem dX11_count_55 : decode cX11_count 55 = .ok (.aload_n 0, 1) := by decide +kernel
theorem dX11_count_56 : decode cX11_count 56 = .ok (.invokevirtual 124, 3) := by decide +kernel
theorem dX11_count_59 : decode cX11_count 59 = .ok (.ireturn, 1) := by decide +kernel
theorem dX11_count_60 : decode cX11_count 60 = .ok (.aload_n 0, 1) := by decide +kernel
theorem dX11_count_61 : decode cX11_count 61 = .ok (.getfield 127, 3) := by decide +kernel
theorem dX11_count_64 : decode cX11_count 64 = .ok (.ireturn, 1) := by decide +kernel
theorem dX11_count_65 : decode cX11_count 65 = .ok (.ldc 107, 2) := by decide +kernel
theorem dX11_count_67 : decode cX11_count 67 = .ok (.ireturn, 1) := by decide +kernel
set_option maxRecDepth 20000 in
theorem ggX11_type_X11_in : GoodIn wsX11_type wsX11_in := goodIn_r _ [10] (by decide +kernel) (by decide +kernel)
set_option maxRecDepth 20000 in
theorem gX11_type_X11_in : GoodIn wsX11_type (va_wsS RX11 60 yX11_in wsX11_in) := goodIn_app (goodIn_of _ (by decide +kernel)) ggX11_type_X11_in
theorem dX11_type_0 : decode cX11_type 0 = .ok (.iload_n 1, 1) := by decide +kernel
theorem dX11_type_1 : decode cX11_type 1 = .ok (.i2l, 1) := by decide +kernel
theorem dX11_type_2 : decode cX11_type 2 = .ok (.ldc2_w 130, 3) := by decide +kernel
theorem dX11_type_5 : decode cX11_type 5 = .ok (.ldc2_w 132, 3) := by decide +kernel
theorem dX11_type_8 : decode cX11_type 8 = .ok (.invokestatic 60, 3) := by decide +kernel
theorem dX11_type_11 : decode cX11_type 11 = .ok (.ifCond .ne 6, 3) := by decide +kernel
theorem dX11_type_14 : decode cX11_type 14 = .ok (.ldc 107, 2) := by decide +kernel
theorem dX11_type_16 : decode cX11_type 16 = .ok (.ireturn, 1) := by decide +kernel
theorem dX11_type_17 : decode cX11_type 17 = .ok (.aload_n 0, 1) := by decide +kernel
theorem dX11_type_18 : decode cX11_type 18 = .ok (.getfield 134, 3) := by decide +kernel
theorem dX11_type_21 : decode cX11_type 21 = .ok (.sipush 130, 3) := by decide +kernel
theorem dX11_type_24 : decode cX11_type 24 = .ok (.if_icmp .ne 6, 3) := by decide +kernel
theorem dX11_type_27 : decode cX11_type 27 = .ok (.ldc 108, 2) := by decide +kernel
theorem dX11_type_29 : decode cX11_type 29 = .ok (.ireturn, 1) := by decide +kernel
theorem dX11_type_30 : decode cX11_type 30 = .ok (.aload_n 0, 1) := by decide +kernel
theorem dX11_type_31 : decode cX11_type 31 = .ok (.getfield 19, 3) := by decide +kernel
theorem dX11_type_34 : decode cX11_type 34 = .ok (.aload_n 0, 1) := by decide +kernel
theorem dX11_type_35 : decode cX11_type 35 = .ok (.getfield 134, 3) := by decide +kernel
theorem dX11_type_38 : decode cX11_type 38 = .ok (.iload_n 1, 1) := by decide +kernel
theorem dX11_type_39 : decode cX11_type 39 = .ok (.iastore, 1) := by decide +kernel
theorem dX11_type_40 : decode cX11_type 40 = .ok (.aload_n 0, 1) := by decide +kernel
theorem dX11_type_41 : decode cX11_type 41 = .ok (.dup, 1) := by decide +kernel
theorem dX11_type_42 : decode cX11_type 42 = .ok (.getfield 134, 3) := by decide +kernel
theorem dX11_type_45 : decode cX11_type 45 = .ok (.iconst 1, 1) := by decide +kernel
theorem dX11_type_46 : decode cX11_type 46 = .ok (.iadd, 1) := by decide +kernel
theorem dX11_type_47 : decode cX11_type 47 = .ok (.putfield 134, 3) := by decide +kernel
theorem dX11_type_50 : decode cX11_type 50 = .ok (.aload_n 0, 1) := by decide +kernel
theorem dX11_type_51 : decode cX11_type 51 = .ok (.getfield 134, 3) := by decide +kernel
theorem dX11_type_54 : decode cX11_type 54 = .ok (.ireturn, 1) := by decide +kernel
theorem dX11_here_0 : decode cX11_here 0 = .ok (.aload_n 0, 1) := by decide +kernel
theorem dX11_here_1 : decode cX11_here 1 = .ok (.getfield 137, 3) := by decide +kernel
theorem dX11_here_4 : decode cX11_here 4 = .ok (.aload_n 0, 1) := by decide +kernel
theorem dX11_here_5 : decode cX11_here 5 = .ok (.getfield 134, 3) := by decide +kernel
theorem dX11_here_8 : decode cX11_here 8 = .ok (.if_icmp .ge 30, 3) := by decide +kernel
theorem dX11_here_11 : decode cX11_here 11 = .ok (.aload_n 0, 1) := by decide +kernel
theorem dX11_here_12 : decode cX11_here 12 = .ok (.getfield 19, 3) := by decide +kernel
theorem dX11_here_15 : decode cX11_here 15 = .ok (.aload_n 0, 1) := by decide +kernel
theorem dX11_here_16 : decode cX11_here 16 = .ok (.getfield 137, 3) := by decide +kernel
theorem dX11_here_19 : decode cX11_here 19 = .ok (.iaload, 1) := by decide +kernel
theorem dX11_here_20 : decode cX11_here 20 = .ok (.bipush 32, 2) := by decide +kernel
theorem dX11_here_22 : decode cX11_here 22 = .ok (.if_icmp .ne 16, 3) := by decide +kernel
theorem dX11_here_25 : decode cX11_here 25 = .ok (.aload_n 0, 1) := by decide +kernel
theorem dX11_here_26 : decode cX11_here 26 = .ok (.dup, 1) := by decide +kernel
theorem dX11_here_27 : decode cX11_here 27 = .ok (.getfield 137, 3) := by decide +kernel
theorem dX11_here_30 : decode cX11_here 30 = .ok (.iconst 1, 1) := by decide +kernel
theorem dX11_here_31 : decode cX11_here 31 = .ok (.iadd, 1) := by decide +kernel
theorem dX11_here_32 : decode cX11_here 32 = .ok (.putfield 137, 3) := by decide +kernel
theorem dX11_here_35 : decode cX11_here 35 = .ok (.goto (-35), 3) := by decide +kernel
theorem dX11_here_38 : decode cX11_here 38 = .ok (.aload_n 0, 1) := by decide +kernel
theorem dX11_here_39 : decode cX11_here 39 = .ok (.getfield 137, 3) := by decide +kernel
theorem dX11_here_42 : decode cX11_here 42 = .ok (.aload_n 0, 1) := by decide +kernel
theorem dX11_here_43 : decode cX11_here 43 = .ok (.getfield 134, 3) := by decide +kernel
theorem dX11_here_46 : decode cX11_here 46 = .ok (.if_icmp .ge 15, 3) := by decide +kernel
theorem dX11_here_49 : decode cX11_here 49 = .ok (.aload_n 0, 1) := by decide +kernel
theorem dX11_here_50 : decode cX11_here 50 = .ok (.getfield 19, 3) := by decide +kernel
theorem dX11_here_53 : decode cX11_here 53 = .ok (.aload_n 0, 1) := by decide +kernel
theorem dX11_here_54 : decode cX11_here 54 = .ok (.getfield 137, 3) := by decide +kernel
theorem dX11_here_57 : decode cX11_here 57 = .ok (.iaload, 1) := by decide +kernel
theorem dX11_here_58 : decode cX11_here 58 = .ok (.goto 4, 3) := by decide +kernel
theorem dX11_here_61 : decode cX11_here 61 = .ok (.iconst 0, 1) := by decide +kernel
theorem dX11_here_62 : decode cX11_here 62 = .ok (.ireturn, 1) := by decide +kernel
set_option maxRecDepth 20000 in
theorem ggX11_has_X11_here : GoodIn wsX11_has wsX11_here := goodIn_r _ [6, 1, 7, 8, 9, 10, 11, 12, 13, 14, 15, 16, 17, 18, 19, 20, 21, 22, 23, 24, 25, 26, 27, 28, 29, 30, 31] (by decide +kernel) (by decide +kernel)
set_option maxRecDepth 20000 in
theorem gX11_has_X11_here : GoodIn wsX11_has (wsV RX11 140 RX11 yX11_here wsX11_here) := goodIn_app (goodIn_of _ (by decide +kernel)) ggX11_has_X11_here
theorem dX11_has_0 : decode cX11_has 0 = .ok (.aload_n 0, 1) := by decide +kernel
theorem dX11_has_1 : decode cX11_has 1 = .ok (.invokevirtual 140, 3) := by decide +kernel
theorem dX11_has_4 : decode cX11_has 4 = .ok (.iload_n 1, 1) := by decide +kernel
theorem dX11_has_5 : decode cX11_has 5 = .ok (.if_icmp .eq 5, 3) := by decide +kernel
theorem dX11_has_8 : decode cX11_has 8 = .ok (.iconst 0, 1) := by decide +kernel
theorem dX11_has_9 : decode cX11_has 9 = .ok (.ireturn, 1) := by decide +kernel
theorem dX11_has_10 : decode cX11_has 10 = .ok (.aload_n 0, 1) := by decide +kernel
theorem dX11_has_11 : decode cX11_has 11 = .ok (.dup, 1) := by decide +kernel
theorem dX11_has_12 : decode cX11_has 12 = .ok (.getfield 137, 3) := by decide +kernel
theorem dX11_has_15 : decode cX11_has 15 = .ok (.iconst 1, 1) := by decide +kernel
theorem dX11_has_16 : decode cX11_has 16 = .ok (.iadd, 1) := by decide +kernel
theorem dX11_has_17 : decode cX11_has 17 = .ok (.putfield 137, 3) := by decide +kernel
theorem dX11_has_20 : decode cX11_has 20 = .ok (.iconst 1, 1) := by decide +kernel
theorem dX11_has_21 : decode cX11_has 21 = .ok (.ireturn, 1) := by decide +kernel
set_option maxRecDepth 20000 in
theorem ggX11_number_X11_here : GoodIn wsX11_number wsX11_here := goodIn_r _ [10, 4, 5, 3, 14, 15, 16, 17, 18, 19, 20, 21, 22, 23, 24, 25, 26, 27, 28, 29, 30, 31, 32, 33, 34, 35, 36] (by decide +kernel) (by decide +kernel)
set_option maxRecDepth 20000 in
theorem gX11_number_X11_here : GoodIn wsX11_number (wsV RX11 140 RX11 yX11_here wsX11_here) := goodIn_app (goodIn_of _ (by decide +kernel)) ggX11_number_X11_here
set_option maxRecDepth 20000 in
theorem ggX11_number_X11_in : GoodIn wsX11_number wsX11_in := goodIn_r _ [13] (by decide +kernel) (by decide +kernel)
set_option maxRecDepth 20000 in
theorem gX11_number_X11_in : GoodIn wsX11_number (va_wsS RX11 60 yX11_in wsX11_in) := goodIn_app (goodIn_of _ (by decide +kernel)) ggX11_number_X11_in
theorem dX11_number_0 : decode cX11_number 0 = .ok (.aload_n 0, 1) := by decide +kernel
theorem dX11_number_1 : decode cX11_number 1 = .ok (.invokevirtual 140, 3) := by decide +kernel
theorem dX11_number_4 : decode cX11_number 4 = .ok (.i2l, 1) := by decide +kernel
theorem dX11_number_5 : decode cX11_number 5 = .ok (.ldc2_w 143, 3) := by decide +kernel
theorem dX11_number_8 : decode cX11_number 8 = .ok (.ldc2_w 145, 3) := by decide +kernel
theorem dX11_number_11 : decode cX11_number 11 = .ok (.invokestatic 60, 3) := by decide +kernel
theorem dX11_number_14 : decode cX11_number 14 = .ok (.ifCond .ne 5, 3) := by decide +kernel
theorem dX11_number_17 : decode cX11_number 17 = .ok (.iconst (-1), 1) := by decide +kernel
theorem dX11_number_18 : decode cX11_number 18 = .ok (.ireturn, 1) := by decide +kernel
theorem dX11_number_19 : decode cX11_number 19 = .ok (.aload_n 0, 1) := by decide +kernel
theorem dX11_number_20 : decode cX11_number 20 = .ok (.getfield 19, 3) := by decide +kernel
theorem dX11_number_23 : decode cX11_number 23 = .ok (.aload_n 0, 1) := by decide +kernel
theorem dX11_number_24 : decode cX11_number 24 = .ok (.getfield 137, 3) := by decide +kernel
theorem dX11_number_27 : decode cX11_number 27 = .ok (.iaload, 1) := by decide +kernel
theorem dX11_number_28 : decode cX11_number 28 = .ok (.bipush 48, 2) := by decide +kernel
theorem dX11_number_30 : decode cX11_number 30 = .ok (.isub, 1) := by decide +kernel
theorem dX11_number_31 : decode cX11_number 31 = .ok (.istore_n 1, 1) := by decide +kernel
theorem dX11_number_32 : decode cX11_number 32 = .ok (.aload_n 0, 1) := by decide +kernel
theorem dX11_number_33 : decode cX11_number 33 = .ok (.dup, 1) := by decide +kernel
theorem dX11_number_34 : decode cX11_number 34 = .ok (.getfield 137, 3) := by decide +kernel
theorem dX11_number_37 : decode cX11_number 37 = .ok (.iconst 1, 1) := by decide +kernel
theorem dX11_number_38 : decode cX11_number 38 = .ok (.iadd, 1) := by decide +kernel
theorem dX11_number_39 : decode cX11_number 39 = .ok (.putfield 137, 3) := by decide +kernel
theorem dX11_number_42 : decode cX11_number 42 = .ok (.aload_n 0, 1) := by decide +kernel
theorem dX11_number_43 : decode cX11_number 43 = .ok (.getfield 137, 3) := by decide +kernel
theorem dX11_number_46 : decode cX11_number 46 = .ok (.aload_n 0, 1) := by decide +kernel
theorem dX11_number_47 : decode cX11_number 47 = .ok (.getfield 134, 3) := by decide +kernel
theorem dX11_number_50 : decode cX11_number 50 = .ok (.if_icmp .ge 53, 3) := by decide +kernel
theorem dX11_number_53 : decode cX11_number 53 = .ok (.aload_n 0, 1) := by decide +kernel
theorem dX11_number_54 : decode cX11_number 54 = .ok (.getfield 19, 3) := by decide +kernel
theorem dX11_number_57 : decode cX11_number 57 = .ok (.aload_n 0, 1) := by decide +kernel
theorem dX11_number_58 : decode cX11_number 58 = .ok (.getfield 137, 3) := by decide +kernel
theorem dX11_number_61 : decode cX11_number 61 = .ok (.iaload, 1) := by decide +kernel
theorem dX11_number_62 : decode cX11_number 62 = .ok (.i2l, 1) := by decide +kernel
theorem dX11_number_63 : decode cX11_number 63 = .ok (.ldc2_w 143, 3) := by decide +kernel
theorem dX11_number_66 : decode cX11_number 66 = .ok (.ldc2_w 145, 3) := by decide +kernel
theorem dX11_number_69 : decode cX11_number 69 = .ok (.invokestatic 60, 3) := by decide +kernel
theorem dX11_number_72 : decode cX11_number 72 = .ok (.ifCond .eq 31, 3) := by decide +kernel
theorem dX11_number_75 : decode cX11_number 75 = .ok (.bipush 10, 2) := by decide +kernel
theorem dX11_number_77 : decode cX11_number 77 = .ok (.iload_n 1, 1) := by decide +kernel
theorem dX11_number_78 : decode cX11_number 78 = .ok (.imul, 1) := by decide +kernel
theorem dX11_number_79 : decode cX11_number 79 = .ok (.aload_n 0, 1) := by decide +kernel
theorem dX11_number_80 : decode cX11_number 80 = .ok (.getfield 19, 3) := by decide +kernel
theorem dX11_number_83 : decode cX11_number 83 = .ok (.aload_n 0, 1) := by decide +kernel
theorem dX11_number_84 : decode cX11_number 84 = .ok (.getfield 137, 3) := by decide +kernel
theorem dX11_number_87 : decode cX11_number 87 = .ok (.iaload, 1) := by decide +kernel
theorem dX11_number_88 : decode cX11_number 88 = .ok (.iadd, 1) := by decide +kernel
theorem dX11_number_89 : decode cX11_number 89 = .ok (.bipush 48, 2) := by decide +kernel
theorem dX11_number_91 : decode cX11_number 91 = .ok (.isub, 1) := by decide +kernel
theorem dX11_number_92 : decode cX11_number 92 = .ok (.istore_n 1, 1) := by decide +kernel
theorem dX11_number_93 : decode cX11_number 93 = .ok (.aload_n 0, 1) := by decide +kernel
theorem dX11_number_94 : decode cX11_number 94 = .ok (.dup, 1) := by decide +kernel
theorem dX11_number_95 : decode cX11_number 95 = .ok (.getfield 137, 3) := by decide +kernel
theorem dX11_number_98 : decode cX11_number 98 = .ok (.iconst 1, 1) := by decide +kernel
theorem dX11_number_99 : decode cX11_number 99 = .ok (.iadd, 1) := by decide +kernel
theorem dX11_number_100 : decode cX11_number 100 = .ok (.putfield 137, 3) := by decide +kernel
theorem dX11_number_103 : decode cX11_number 103 = .ok (.iload_n 1, 1) := by decide +kernel
theorem dX11_number_104 : decode cX11_number 104 = .ok (.ireturn, 1) := by decide +kernel
set_option maxRecDepth 20000 in
theorem ggX11_readsTerm_X11_number : GoodIn wsX11_readsTerm wsX11_number := goodIn_r _ [9, 10, 11, 12, 3, 13, 14, 15, 16, 8, 17, 18, 19, 20, 21, 22, 23, 24, 25, 26, 27, 28, 29, 30, 31, 32, 33, 34, 35, 36, 37, 38, 39, 40, 41, 42, 43] (by decide +kernel) (by decide +kernel)
set_option maxRecDepth 20000 in
theorem gX11_readsTerm_X11_number : GoodIn wsX11_readsTerm (wsV RX11 147 RX11 yX11_number wsX11_number) := goodIn_app (goodIn_of _ (by decide +kernel)) ggX11_readsTerm_X11_number
set_option maxRecDepth 20000 in
theorem ggX11_readsTerm_X11_here : GoodIn wsX11_readsTerm wsX11_here := goodIn_r _ [17, 3, 13, 12, 21, 22, 23, 24, 25, 26, 27, 28, 29, 30, 31, 32, 33, 34, 35, 36, 37, 38, 39, 40, 41, 42, 43] (by decide +kernel) (by decide +kernel)
set_option maxRecDepth 20000 in
theorem gX11_readsTerm_X11_here : GoodIn wsX11_readsTerm (wsV RX11 140 RX11 yX11_here wsX11_here) := goodIn_app (goodIn_of _ (by decide +kernel)) ggX11_readsTerm_X11_here
set_option maxRecDepth 20000 in
theorem ggX11_readsTerm_X11_in : GoodIn wsX11_readsTerm wsX11_in := goodIn_r _ [20] (by decide +kernel) (by decide +kernel)
set_option maxRecDepth 20000 in
theorem gX11_readsTerm_X11_in : GoodIn wsX11_readsTerm (va_wsS RX11 60 yX11_in wsX11_in) := goodIn_app (goodIn_of _ (by decide +kernel)) ggX11_readsTerm_X11_in
theorem dX11_readsTerm_0 : decode cX11_readsTerm 0 = .ok (.aload_n 0, 1) := by decide +kernel
theorem dX11_readsTerm_1 : decode cX11_readsTerm 1 = .ok (.invokevirtual 147, 3) := by decide +kernel
theorem dX11_readsTerm_4 : decode cX11_readsTerm 4 = .ok (.istore_n 3, 1) := by decide +kernel
theorem dX11_readsTerm_5 : decode cX11_readsTerm 5 = .ok (.aload_n 0, 1) := by decide +kernel
theorem dX11_readsTerm_6 : decode cX11_readsTerm 6 = .ok (.invokevirtual 140, 3) := by decide +kernel
theorem dX11_readsTerm_9 : decode cX11_readsTerm 9 = .ok (.bipush 97, 2) := by decide +kernel
theorem dX11_readsTerm_11 : decode cX11_readsTerm 11 = .ok (.isub, 1) := by decide +kernel
theorem dX11_readsTerm_12 : decode cX11_readsTerm 12 = .ok (.istore 4, 2) := by decide +kernel
theorem dX11_readsTerm_14 : decode cX11_readsTerm 14 = .ok (.iload 4, 2) := by decide +kernel
theorem dX11_readsTerm_16 : decode cX11_readsTerm 16 = .ok (.i2l, 1) := by decide +kernel
theorem dX11_readsTerm_17 : decode cX11_readsTerm 17 = .ok (.lconst 0, 1) := by decide +kernel
theorem dX11_readsTerm_18 : decode cX11_readsTerm 18 = .ok (.ldc2_w 150, 3) := by decide +kernel
theorem dX11_readsTerm_21 : decode cX11_readsTerm 21 = .ok (.invokestatic 60, 3) := by decide +kernel
theorem dX11_readsTerm_24 : decode cX11_readsTerm 24 = .ok (.ifCond .eq 69, 3) := by decide +kernel
theorem dX11_readsTerm_27 : decode cX11_readsTerm 27 = .ok (.iload_n 3, 1) := by decide +kernel
theorem dX11_readsTerm_28 : decode cX11_readsTerm 28 = .ok (.bipush 9, 2) := by decide +kernel
theorem dX11_readsTerm_30 : decode cX11_readsTerm 30 = .ok (.if_icmp .gt 16, 3) := by decide +kernel
theorem dX11_readsTerm_33 : decode cX11_readsTerm 33 = .ok (.aload_n 0, 1) := by decide +kernel
theorem dX11_readsTerm_34 : decode cX11_readsTerm 34 = .ok (.getfield 152, 3) := by decide +kernel
theorem dX11_readsTerm_37 : decode cX11_readsTerm 37 = .ok (.iload 4, 2) := by decide +kernel
theorem dX11_readsTerm_39 : decode cX11_readsTerm 39 = .ok (.ishr, 1) := by decide +kernel
theorem dX11_readsTerm_40 : decode cX11_readsTerm 40 = .ok (.iconst 1, 1) := by decide +kernel
theorem dX11_readsTerm_41 : decode cX11_readsTerm 41 = .ok (.iand, 1) := by decide +kernel
theorem dX11_readsTerm_42 : decode cX11_readsTerm 42 = .ok (.iconst 1, 1) := by decide +kernel
theorem dX11_readsTerm_43 : decode cX11_readsTerm 43 = .ok (.if_icmp .ne 5, 3) := by decide +kernel
theorem dX11_readsTerm_46 : decode cX11_readsTerm 46 = .ok (.iconst 0, 1) := by decide +kernel
theorem dX11_readsTerm_47 : decode cX11_readsTerm 47 = .ok (.ireturn, 1) := by decide +kernel
theorem dX11_readsTerm_48 : decode cX11_readsTerm 48 = .ok (.aload_n 0, 1) := by decide +kernel
theorem dX11_readsTerm_49 : decode cX11_readsTerm 49 = .ok (.dup, 1) := by decide +kernel
theorem dX11_readsTerm_50 : decode cX11_readsTerm 50 = .ok (.getfield 137, 3) := by decide +kernel
theorem dX11_readsTerm_53 : decode cX11_readsTerm 53 = .ok (.iconst 1, 1) := by decide +kernel
theorem dX11_readsTerm_54 : decode cX11_readsTerm 54 = .ok (.iadd, 1) := by decide +kernel
theorem dX11_readsTerm_55 : decode cX11_readsTerm 55 = .ok (.putfield 137, 3) := by decide +kernel
theorem dX11_readsTerm_58 : decode cX11_readsTerm 58 = .ok (.aload_n 0, 1) := by decide +kernel
theorem dX11_readsTerm_59 : decode cX11_readsTerm 59 = .ok (.getfield 22, 3) := by decide +kernel
theorem dX11_readsTerm_62 : decode cX11_readsTerm 62 = .ok (.iload_n 1, 1) := by decide +kernel
theorem dX11_readsTerm_63 : decode cX11_readsTerm 63 = .ok (.iload 4, 2) := by decide +kernel
theorem dX11_readsTerm_65 : decode cX11_readsTerm 65 = .ok (.iadd, 1) := by decide +kernel
theorem dX11_readsTerm_66 : decode cX11_readsTerm 66 = .ok (.iload_n 2, 1) := by decide +kernel
theorem dX11_readsTerm_67 : decode cX11_readsTerm 67 = .ok (.iload_n 3, 1) := by decide +kernel
theorem dX11_readsTerm_68 : decode cX11_readsTerm 68 = .ok (.ifCond .ge 7, 3) := by decide +kernel
theorem dX11_readsTerm_71 : decode cX11_readsTerm 71 = .ok (.iconst 1, 1) := by decide +kernel
theorem dX11_readsTerm_72 : decode cX11_readsTerm 72 = .ok (.goto 4, 3) := by decide +kernel
theorem dX11_readsTerm_75 : decode cX11_readsTerm 75 = .ok (.iload_n 3, 1) := by decide +kernel
theorem dX11_readsTerm_76 : decode cX11_readsTerm 76 = .ok (.imul, 1) := by decide +kernel
theorem dX11_readsTerm_77 : decode cX11_readsTerm 77 = .ok (.iastore, 1) := by decide +kernel
theorem dX11_readsTerm_78 : decode cX11_readsTerm 78 = .ok (.aload_n 0, 1) := by decide +kernel
theorem dX11_readsTerm_79 : decode cX11_readsTerm 79 = .ok (.dup, 1) := by decide +kernel
theorem dX11_readsTerm_80 : decode cX11_readsTerm 80 = .ok (.getfield 152, 3) := by decide +kernel
theorem dX11_readsTerm_83 : decode cX11_readsTerm 83 = .ok (.iconst 1, 1) := by decide +kernel
theorem dX11_readsTerm_84 : decode cX11_readsTerm 84 = .ok (.iload 4, 2) := by decide +kernel
theorem dX11_readsTerm_86 : decode cX11_readsTerm 86 = .ok (.ishl, 1) := by decide +kernel
theorem dX11_readsTerm_87 : decode cX11_readsTerm 87 = .ok (.ior, 1) := by decide +kernel
theorem dX11_readsTerm_88 : decode cX11_readsTerm 88 = .ok (.putfield 152, 3) := by decide +kernel
theorem dX11_readsTerm_91 : decode cX11_readsTerm 91 = .ok (.iconst 1, 1) := by decide +kernel
theorem dX11_readsTerm_92 : decode cX11_readsTerm 92 = .ok (.ireturn, 1) := by decide +kernel
theorem dX11_readsTerm_93 : decode cX11_readsTerm 93 = .ok (.iload_n 3, 1) := by decide +kernel
theorem dX11_readsTerm_94 : decode cX11_readsTerm 94 = .ok (.ifCond .lt 15, 3) := by decide +kernel
theorem dX11_readsTerm_97 : decode cX11_readsTerm 97 = .ok (.aload_n 0, 1) := by decide +kernel
theorem dX11_readsTerm_98 : decode cX11_readsTerm 98 = .ok (.getfield 152, 3) := by decide +kernel
theorem dX11_readsTerm_101 : decode cX11_readsTerm 101 = .ok (.iconst 4, 1) := by decide +kernel
theorem dX11_readsTerm_102 : decode cX11_readsTerm 102 = .ok (.ishr, 1) := by decide +kernel
theorem dX11_readsTerm_103 : decode cX11_readsTerm 103 = .ok (.iconst 1, 1) := by decide +kernel
theorem dX11_readsTerm_104 : decode cX11_readsTerm 104 = .ok (.iand, 1) := by decide +kernel
theorem dX11_readsTerm_105 : decode cX11_readsTerm 105 = .ok (.iconst 1, 1) := by decide +kernel
theorem dX11_readsTerm_106 : decode cX11_readsTerm 106 = .ok (.if_icmp .ne 5, 3) := by decide +kernel
theorem dX11_readsTerm_109 : decode cX11_readsTerm 109 = .ok (.iconst 0, 1) := by decide +kernel
theorem dX11_readsTerm_110 : decode cX11_readsTerm 110 = .ok (.ireturn, 1) := by decide +kernel
theorem dX11_readsTerm_111 : decode cX11_readsTerm 111 = .ok (.aload_n 0, 1) := by decide +kernel
theorem dX11_readsTerm_112 : decode cX11_readsTerm 112 = .ok (.getfield 22, 3) := by decide +kernel
theorem dX11_readsTerm_115 : decode cX11_readsTerm 115 = .ok (.iload_n 1, 1) := by decide +kernel
theorem dX11_readsTerm_116 : decode cX11_readsTerm 116 = .ok (.iconst 4, 1) := by decide +kernel
theorem dX11_readsTerm_117 : decode cX11_readsTerm 117 = .ok (.iadd, 1) := by decide +kernel
theorem dX11_readsTerm_118 : decode cX11_readsTerm 118 = .ok (.iload_n 2, 1) := by decide +kernel
theorem dX11_readsTerm_119 : decode cX11_readsTerm 119 = .ok (.iload_n 3, 1) := by decide +kernel
theorem dX11_readsTerm_120 : decode cX11_readsTerm 120 = .ok (.imul, 1) := by decide +kernel
theorem dX11_readsTerm_121 : decode cX11_readsTerm 121 = .ok (.iastore, 1) := by decide +kernel
theorem dX11_readsTerm_122 : decode cX11_readsTerm 122 = .ok (.aload_n 0, 1) := by decide +kernel
theorem dX11_readsTerm_123 : decode cX11_readsTerm 123 = .ok (.dup, 1) := by decide +kernel
theorem dX11_readsTerm_124 : decode cX11_readsTerm 124 = .ok (.getfield 152, 3) := by decide +kernel
theorem dX11_readsTerm_127 : decode cX11_readsTerm 127 = .ok (.bipush 16, 2) := by decide +kernel
theorem dX11_readsTerm_129 : decode cX11_readsTerm 129 = .ok (.ior, 1) := by decide +kernel
theorem dX11_readsTerm_130 : decode cX11_readsTerm 130 = .ok (.putfield 152, 3) := by decide +kernel
theorem dX11_readsTerm_133 : decode cX11_readsTerm 133 = .ok (.iconst 1, 1) := by decide +kernel
theorem dX11_readsTerm_134 : decode cX11_readsTerm 134 = .ok (.ireturn, 1) := by decide +kernel
theorem dX11_kindBy_0 : decode cX11_kindBy 0 = .ok (.iload_n 0, 1) := by decide +kernel
theorem dX11_kindBy_1 : decode cX11_kindBy 1 = .ok (.bipush 62, 2) := by decide +kernel
theorem dX11_kindBy_3 : decode cX11_kindBy 3 = .ok (.if_icmp .ne 7, 3) := by decide +kernel
theorem dX11_kindBy_6 : decode cX11_kindBy 6 = .ok (.iconst 0, 1) := by decide +kernel
theorem dX11_kindBy_7 : decode cX11_kindBy 7 = .ok (.goto 44, 3) := by decide +kernel
theorem dX11_kindBy_10 : decode cX11_kindBy 10 = .ok (.iload_n 0, 1) := by decide +kernel
theorem dX11_kindBy_11 : decode cX11_kindBy 11 = .ok (.bipush 60, 2) := by decide +kernel
theorem dX11_kindBy_13 : decode cX11_kindBy 13 = .ok (.if_icmp .ne 7, 3) := by decide +kernel
theorem dX11_kindBy_16 : decode cX11_kindBy 16 = .ok (.iconst 1, 1) := by decide +kernel
theorem dX11_kindBy_17 : decode cX11_kindBy 17 = .ok (.goto 34, 3) := by decide +kernel
theorem dX11_kindBy_20 : decode cX11_kindBy 20 = .ok (.iload_n 0, 1) := by decide +kernel
theorem dX11_kindBy_21 : decode cX11_kindBy 21 = .ok (.bipush 61, 2) := by decide +kernel
theorem dX11_kindBy_23 : decode cX11_kindBy 23 = .ok (.if_icmp .ne 7, 3) := by decide +kernel
theorem dX11_kindBy_26 : decode cX11_kindBy 26 = .ok (.iconst 2, 1) := by decide +kernel
theorem dX11_kindBy_27 : decode cX11_kindBy 27 = .ok (.goto 24, 3) := by decide +kernel
theorem dX11_kindBy_30 : decode cX11_kindBy 30 = .ok (.iload_n 0, 1) := by decide +kernel
theorem dX11_kindBy_31 : decode cX11_kindBy 31 = .ok (.bipush 35, 2) := by decide +kernel
theorem dX11_kindBy_33 : decode cX11_kindBy 33 = .ok (.if_icmp .ne 7, 3) := by decide +kernel
theorem dX11_kindBy_36 : decode cX11_kindBy 36 = .ok (.iconst 3, 1) := by decide +kernel
theorem dX11_kindBy_37 : decode cX11_kindBy 37 = .ok (.goto 14, 3) := by decide +kernel
theorem dX11_kindBy_40 : decode cX11_kindBy 40 = .ok (.iload_n 0, 1) := by decide +kernel
theorem dX11_kindBy_41 : decode cX11_kindBy 41 = .ok (.bipush 37, 2) := by decide +kernel
theorem dX11_kindBy_43 : decode cX11_kindBy 43 = .ok (.if_icmp .ne 7, 3) := by decide +kernel
theorem dX11_kindBy_46 : decode cX11_kindBy 46 = .ok (.iconst 4, 1) := by decide +kernel
theorem dX11_kindBy_47 : decode cX11_kindBy 47 = .ok (.goto 4, 3) := by decide +kernel
theorem dX11_kindBy_50 : decode cX11_kindBy 50 = .ok (.iconst (-1), 1) := by decide +kernel
theorem dX11_kindBy_51 : decode cX11_kindBy 51 = .ok (.ireturn, 1) := by decide +kernel
set_option maxRecDepth 20000 in
theorem ggX11_reads_X11_here : GoodIn wsX11_reads wsX11_here := goodIn_r _ [8, 3, 9, 10, 28, 29, 30, 31, 32, 33, 34, 35, 36, 37, 38, 39, 40, 41, 42, 43, 44, 45, 46, 47, 48, 49, 50] (by decide +kernel) (by decide +kernel)
set_option maxRecDepth 20000 in
theorem gX11_reads_X11_here : GoodIn wsX11_reads (wsV RX11 140 RX11 yX11_here wsX11_here) := goodIn_app (goodIn_of _ (by decide +kernel)) ggX11_reads_X11_here
set_option maxRecDepth 20000 in
theorem ggX11_reads_X11_readsTerm : GoodIn wsX11_reads wsX11_readsTerm := goodIn_r _ [14, 15, 1, 3, 2, 16, 17, 18, 7, 19, 20, 21, 10, 9, 4, 5, 6, 8, 22, 23, 24, 28, 29, 30, 31, 32, 33, 34, 35, 36, 37, 38, 39, 40, 41, 42, 43, 44, 45, 46, 47, 48, 49, 50] (by decide +kernel) (by decide +kernel)
set_option maxRecDepth 20000 in
theorem gX11_reads_X11_readsTerm : GoodIn wsX11_reads (wsV RX11 155 RX11 yX11_readsTerm wsX11_readsTerm) := goodIn_app (goodIn_of _ (by decide +kernel)) ggX11_reads_X11_readsTerm
set_option maxRecDepth 20000 in
theorem ggX11_reads_X11_kindBy : GoodIn wsX11_reads wsX11_kindBy := goodIn_r _ [27] (by decide +kernel) (by decide +kernel)
set_option maxRecDepth 20000 in
theorem gX11_reads_X11_kindBy : GoodIn wsX11_reads (va_wsS RX11 158 yX11_kindBy wsX11_kindBy) := goodIn_app (goodIn_of _ (by decide +kernel)) ggX11_reads_X11_kindBy
theorem dX11_reads_0 : decode cX11_reads 0 = .ok (.aload_n 0, 1) := by decide +kernel
theorem dX11_reads_1 : decode cX11_reads 1 = .ok (.iconst 0, 1) := by decide +kernel
theorem dX11_reads_2 : decode cX11_reads 2 = .ok (.putfield 152, 3) := by decide +kernel
theorem dX11_reads_5 : decode cX11_reads 5 = .ok (.iconst 0, 1) := by decide +kernel
theorem dX11_reads_6 : decode cX11_reads 6 = .ok (.istore_n 2, 1) := by decide +kernel
theorem dX11_reads_7 : decode cX11_reads 7 = .ok (.iload_n 2, 1) := by decide +kernel
theorem dX11_reads_8 : decode cX11_reads 8 = .ok (.iconst 5, 1) := by decide +kernel
theorem dX11_reads_9 : decode cX11_reads 9 = .ok (.if_icmp .ge 18, 3) := by decide +kernel
theorem dX11_reads_12 : decode cX11_reads 12 = .ok (.aload_n 0, 1) := by decide +kernel
theorem dX11_reads_13 : decode cX11_reads 13 = .ok (.getfield 22, 3) := by decide +kernel
theorem dX11_reads_16 : decode cX11_reads 16 = .ok (.iload_n 1, 1) := by decide +kernel
theorem dX11_reads_17 : decode cX11_reads 17 = .ok (.iload_n 2, 1) := by decide +kernel
theorem dX11_reads_18 : decode cX11_reads 18 = .ok (.iadd, 1) := by decide +kernel
theorem dX11_reads_19 : decode cX11_reads 19 = .ok (.iconst 0, 1) := by decide +kernel
theorem dX11_reads_20 : decode cX11_reads 20 = .ok (.iastore, 1) := by decide +kernel
theorem dX11_reads_21 : decode cX11_reads 21 = .ok (.iinc 2 1, 3) := by decide +kernel
theorem dX11_reads_24 : decode cX11_reads 24 = .ok (.goto (-17), 3) := by decide +kernel
theorem dX11_reads_27 : decode cX11_reads 27 = .ok (.aload_n 0, 1) := by decide +kernel
theorem dX11_reads_28 : decode cX11_reads 28 = .ok (.invokevirtual 140, 3) := by decide +kernel
theorem dX11_reads_31 : decode cX11_reads 31 = .ok (.bipush 45, 2) := by decide +kernel
theorem dX11_reads_33 : decode cX11_reads 33 = .ok (.if_icmp .ne 7, 3) := by decide +kernel
theorem dX11_reads_36 : decode cX11_reads 36 = .ok (.iconst (-1), 1) := by decide +kernel
theorem dX11_reads_37 : decode cX11_reads 37 = .ok (.goto 4, 3) := by decide +kernel
theorem dX11_reads_40 : decode cX11_reads 40 = .ok (.iconst 1, 1) := by decide +kernel
theorem dX11_reads_41 : decode cX11_reads 41 = .ok (.istore_n 2, 1) := by decide +kernel
theorem dX11_reads_42 : decode cX11_reads 42 = .ok (.iconst 1, 1) := by decide +kernel
theorem dX11_reads_43 : decode cX11_reads 43 = .ok (.istore_n 3, 1) := by decide +kernel
theorem dX11_reads_44 : decode cX11_reads 44 = .ok (.aload_n 0, 1) := by decide +kernel
theorem dX11_reads_45 : decode cX11_reads 45 = .ok (.dup, 1) := by decide +kernel
theorem dX11_reads_46 : decode cX11_reads 46 = .ok (.getfield 137, 3) := by decide +kernel
theorem dX11_reads_49 : decode cX11_reads 49 = .ok (.aload_n 0, 1) := by decide +kernel
theorem dX11_reads_50 : decode cX11_reads 50 = .ok (.invokevirtual 140, 3) := by decide +kernel
theorem dX11_reads_53 : decode cX11_reads 53 = .ok (.bipush 45, 2) := by decide +kernel
theorem dX11_reads_55 : decode cX11_reads 55 = .ok (.if_icmp .eq 12, 3) := by decide +kernel
theorem dX11_reads_58 : decode cX11_reads 58 = .ok (.aload_n 0, 1) := by decide +kernel
theorem dX11_reads_59 : decode cX11_reads 59 = .ok (.invokevirtual 140, 3) := by decide +kernel
theorem dX11_reads_62 : decode cX11_reads 62 = .ok (.bipush 43, 2) := by decide +kernel
theorem dX11_reads_64 : decode cX11_reads 64 = .ok (.if_icmp .ne 7, 3) := by decide +kernel
theorem dX11_reads_67 : decode cX11_reads 67 = .ok (.iconst 1, 1) := by decide +kernel
theorem dX11_reads_68 : decode cX11_reads 68 = .ok (.goto 4, 3) := by decide +kernel
theorem dX11_reads_71 : decode cX11_reads 71 = .ok (.iconst 0, 1) := by decide +kernel
theorem dX11_reads_72 : decode cX11_reads 72 = .ok (.iadd, 1) := by decide +kernel
theorem dX11_reads_73 : decode cX11_reads 73 = .ok (.putfield 137, 3) := by decide +kernel
theorem dX11_reads_76 : decode cX11_reads 76 = .ok (.iload_n 3, 1) := by decide +kernel
theorem dX11_reads_77 : decode cX11_reads 77 = .ok (.ifCond .eq 74, 3) := by decide +kernel
theorem dX11_reads_80 : decode cX11_reads 80 = .ok (.aload_n 0, 1) := by decide +kernel
theorem dX11_reads_81 : decode cX11_reads 81 = .ok (.iload_n 1, 1) := by decide +kernel
theorem dX11_reads_82 : decode cX11_reads 82 = .ok (.iload_n 2, 1) := by decide +kernel
theorem dX11_reads_83 : decode cX11_reads 83 = .ok (.invokevirtual 155, 3) := by decide +kernel
theorem dX11_reads_86 : decode cX11_reads 86 = .ok (.ifCond .ne 5, 3) := by decide +kernel
theorem dX11_reads_89 : decode cX11_reads 89 = .ok (.iconst 0, 1) := by decide +kernel
theorem dX11_reads_90 : decode cX11_reads 90 = .ok (.ireturn, 1) := by decide +kernel
theorem dX11_reads_91 : decode cX11_reads 91 = .ok (.aload_n 0, 1) := by decide +kernel
theorem dX11_reads_92 : decode cX11_reads 92 = .ok (.invokevirtual 140, 3) := by decide +kernel
theorem dX11_reads_95 : decode cX11_reads 95 = .ok (.istore 4, 2) := by decide +kernel
theorem dX11_reads_97 : decode cX11_reads 97 = .ok (.iload 4, 2) := by decide +kernel
theorem dX11_reads_99 : decode cX11_reads 99 = .ok (.bipush 43, 2) := by decide +kernel
theorem dX11_reads_101 : decode cX11_reads 101 = .ok (.if_icmp .eq 10, 3) := by decide +kernel
theorem dX11_reads_104 : decode cX11_reads 104 = .ok (.iload 4, 2) := by decide +kernel
theorem dX11_reads_106 : decode cX11_reads 106 = .ok (.bipush 45, 2) := by decide +kernel
theorem dX11_reads_108 : decode cX11_reads 108 = .ok (.if_icmp .ne 7, 3) := by decide +kernel
theorem dX11_reads_111 : decode cX11_reads 111 = .ok (.iconst 1, 1) := by decide +kernel
theorem dX11_reads_112 : decode cX11_reads 112 = .ok (.goto 4, 3) := by decide +kernel
theorem dX11_reads_115 : decode cX11_reads 115 = .ok (.iconst 0, 1) := by decide +kernel
theorem dX11_reads_116 : decode cX11_reads 116 = .ok (.istore_n 3, 1) := by decide +kernel
theorem dX11_reads_117 : decode cX11_reads 117 = .ok (.iload 4, 2) := by decide +kernel
theorem dX11_reads_119 : decode cX11_reads 119 = .ok (.bipush 45, 2) := by decide +kernel
theorem dX11_reads_121 : decode cX11_reads 121 = .ok (.if_icmp .ne 7, 3) := by decide +kernel
theorem dX11_reads_124 : decode cX11_reads 124 = .ok (.iconst (-1), 1) := by decide +kernel
theorem dX11_reads_125 : decode cX11_reads 125 = .ok (.goto 4, 3) := by decide +kernel
theorem dX11_reads_128 : decode cX11_reads 128 = .ok (.iconst 1, 1) := by decide +kernel
theorem dX11_reads_129 : decode cX11_reads 129 = .ok (.istore_n 2, 1) := by decide +kernel
theorem dX11_reads_130 : decode cX11_reads 130 = .ok (.aload_n 0, 1) := by decide +kernel
theorem dX11_reads_131 : decode cX11_reads 131 = .ok (.dup, 1) := by decide +kernel
theorem dX11_reads_132 : decode cX11_reads 132 = .ok (.getfield 137, 3) := by decide +kernel
theorem dX11_reads_135 : decode cX11_reads 135 = .ok (.iload_n 3, 1) := by decide +kernel
theorem dX11_reads_136 : decode cX11_reads 136 = .ok (.ifCond .eq 7, 3) := by decide +kernel
theorem dX11_reads_139 : decode cX11_reads 139 = .ok (.iconst 1, 1) := by decide +kernel
theorem dX11_reads_140 : decode cX11_reads 140 = .ok (.goto 4, 3) := by decide +kernel
theorem dX11_reads_143 : decode cX11_reads 143 = .ok (.iconst 0, 1) := by decide +kernel
theorem dX11_reads_144 : decode cX11_reads 144 = .ok (.iadd, 1) := by decide +kernel
theorem dX11_reads_145 : decode cX11_reads 145 = .ok (.putfield 137, 3) := by decide +kernel
theorem dX11_reads_148 : decode cX11_reads 148 = .ok (.goto (-72), 3) := by decide +kernel
theorem dX11_reads_151 : decode cX11_reads 151 = .ok (.aload_n 0, 1) := by decide +kernel
theorem dX11_reads_152 : decode cX11_reads 152 = .ok (.getfield 22, 3) := by decide +kernel
theorem dX11_reads_155 : decode cX11_reads 155 = .ok (.iload_n 1, 1) := by decide +kernel
theorem dX11_reads_156 : decode cX11_reads 156 = .ok (.iconst 5, 1) := by decide +kernel
theorem dX11_reads_157 : decode cX11_reads 157 = .ok (.iadd, 1) := by decide +kernel
theorem dX11_reads_158 : decode cX11_reads 158 = .ok (.aload_n 0, 1) := by decide +kernel
theorem dX11_reads_159 : decode cX11_reads 159 = .ok (.invokevirtual 140, 3) := by decide +kernel
theorem dX11_reads_162 : decode cX11_reads 162 = .ok (.invokestatic 158, 3) := by decide +kernel
theorem dX11_reads_165 : decode cX11_reads 165 = .ok (.iastore, 1) := by decide +kernel
theorem dX11_reads_166 : decode cX11_reads 166 = .ok (.aload_n 0, 1) := by decide +kernel
theorem dX11_reads_167 : decode cX11_reads 167 = .ok (.dup, 1) := by decide +kernel
theorem dX11_reads_168 : decode cX11_reads 168 = .ok (.getfield 137, 3) := by decide +kernel
theorem dX11_reads_171 : decode cX11_reads 171 = .ok (.aload_n 0, 1) := by decide +kernel
theorem dX11_reads_172 : decode cX11_reads 172 = .ok (.getfield 22, 3) := by decide +kernel
theorem dX11_reads_175 : decode cX11_reads 175 = .ok (.iload_n 1, 1) := by decide +kernel
theorem dX11_reads_176 : decode cX11_reads 176 = .ok (.iconst 5, 1) := by decide +kernel
theorem dX11_reads_177 : decode cX11_reads 177 = .ok (.iadd, 1) := by decide +kernel
theorem dX11_reads_178 : decode cX11_reads 178 = .ok (.iaload, 1) := by decide +kernel
theorem dX11_reads_179 : decode cX11_reads 179 = .ok (.ifCond .ge 7, 3) := by decide +kernel
theorem dX11_reads_182 : decode cX11_reads 182 = .ok (.iconst 0, 1) := by decide +kernel
theorem dX11_reads_183 : decode cX11_reads 183 = .ok (.goto 4, 3) := by decide +kernel
theorem dX11_reads_186 : decode cX11_reads 186 = .ok (.iconst 1, 1) := by decide +kernel
theorem dX11_reads_187 : decode cX11_reads 187 = .ok (.iadd, 1) := by decide +kernel
theorem dX11_reads_188 : decode cX11_reads 188 = .ok (.putfield 137, 3) := by decide +kernel
theorem dX11_reads_191 : decode cX11_reads 191 = .ok (.aload_n 0, 1) := by decide +kernel
theorem dX11_reads_192 : decode cX11_reads 192 = .ok (.getfield 22, 3) := by decide +kernel
theorem dX11_reads_195 : decode cX11_reads 195 = .ok (.iload_n 1, 1) := by decide +kernel
theorem dX11_reads_196 : decode cX11_reads 196 = .ok (.iconst 5, 1) := by decide +kernel
theorem dX11_reads_197 : decode cX11_reads 197 = .ok (.iadd, 1) := by decide +kernel
theorem dX11_reads_198 : decode cX11_reads 198 = .ok (.iaload, 1) := by decide +kernel

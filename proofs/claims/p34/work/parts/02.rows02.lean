theorem dX9_loadFrom_14 : decode cX9_loadFrom 14 = .ok (.iload_n 2, 1) := by decide +kernel
theorem dX9_loadFrom_15 : decode cX9_loadFrom 15 = .ok (.bipush 48, 2) := by decide +kernel
theorem dX9_loadFrom_17 : decode cX9_loadFrom 17 = .ok (.iadd, 1) := by decide +kernel
theorem dX9_loadFrom_18 : decode cX9_loadFrom 18 = .ok (.iaload, 1) := by decide +kernel
theorem dX9_loadFrom_19 : decode cX9_loadFrom 19 = .ok (.putfield 30, 3) := by decide +kernel
theorem dX9_loadFrom_22 : decode cX9_loadFrom 22 = .ok (.aload_n 0, 1) := by decide +kernel
theorem dX9_loadFrom_23 : decode cX9_loadFrom 23 = .ok (.aload_n 1, 1) := by decide +kernel
theorem dX9_loadFrom_24 : decode cX9_loadFrom 24 = .ok (.iload_n 2, 1) := by decide +kernel
theorem dX9_loadFrom_25 : decode cX9_loadFrom 25 = .ok (.bipush 48, 2) := by decide +kernel
theorem dX9_loadFrom_27 : decode cX9_loadFrom 27 = .ok (.iadd, 1) := by decide +kernel
theorem dX9_loadFrom_28 : decode cX9_loadFrom 28 = .ok (.iconst 1, 1) := by decide +kernel
theorem dX9_loadFrom_29 : decode cX9_loadFrom 29 = .ok (.iadd, 1) := by decide +kernel
theorem dX9_loadFrom_30 : decode cX9_loadFrom 30 = .ok (.iaload, 1) := by decide +kernel
theorem dX9_loadFrom_31 : decode cX9_loadFrom 31 = .ok (.putfield 15, 3) := by decide +kernel
theorem dX9_loadFrom_34 : decode cX9_loadFrom 34 = .ok (.aload_n 0, 1) := by decide +kernel
theorem dX9_loadFrom_35 : decode cX9_loadFrom 35 = .ok (.aload_n 1, 1) := by decide +kernel
theorem dX9_loadFrom_36 : decode cX9_loadFrom 36 = .ok (.iload_n 2, 1) := by decide +kernel
theorem dX9_loadFrom_37 : decode cX9_loadFrom 37 = .ok (.bipush 48, 2) := by decide +kernel
theorem dX9_loadFrom_39 : decode cX9_loadFrom 39 = .ok (.iadd, 1) := by decide +kernel
theorem dX9_loadFrom_40 : decode cX9_loadFrom 40 = .ok (.iconst 2, 1) := by decide +kernel
theorem dX9_loadFrom_41 : decode cX9_loadFrom 41 = .ok (.iadd, 1) := by decide +kernel
theorem dX9_loadFrom_42 : decode cX9_loadFrom 42 = .ok (.iaload, 1) := by decide +kernel
theorem dX9_loadFrom_43 : decode cX9_loadFrom 43 = .ok (.putfield 19, 3) := by decide +kernel
theorem dX9_loadFrom_46 : decode cX9_loadFrom 46 = .ok (.aload_n 0, 1) := by decide +kernel
theorem dX9_loadFrom_47 : decode cX9_loadFrom 47 = .ok (.dup, 1) := by decide +kernel
theorem dX9_loadFrom_48 : decode cX9_loadFrom 48 = .ok (.getfield 27, 3) := by decide +kernel
theorem dX9_loadFrom_51 : decode cX9_loadFrom 51 = .ok (.iconst 1, 1) := by decide +kernel
theorem dX9_loadFrom_52 : decode cX9_loadFrom 52 = .ok (.iadd, 1) := by decide +kernel
theorem dX9_loadFrom_53 : decode cX9_loadFrom 53 = .ok (.putfield 27, 3) := by decide +kernel
theorem dX9_loadFrom_56 : decode cX9_loadFrom 56 = .ok (.return_, 1) := by decide +kernel
set_option maxRecDepth 20000 in
theorem ggX10_init_X0_init : GoodIn wsX10_init wsX0_init := goodIn_r _ [27, 28, 2, 3, 29, 30, 31, 32, 33, 34, 35, 36, 37, 38, 39, 40, 41, 109, 110, 111, 112, 113, 83, 84, 85] (by decide +kernel) (by decide +kernel)
set_option maxRecDepth 20000 in
theorem gX10_init_X0_init : GoodIn wsX10_init (wsX0_init) := ggX10_init_X0_init
set_option maxRecDepth 20000 in
theorem ggX10_init_X8_init : GoodIn wsX10_init wsX8_init := goodIn_r _ [44, 45, 2, 3, 46, 47, 48, 30, 31, 49, 50, 36, 37, 38, 33, 39, 40, 41, 93, 94, 95, 96, 97, 98, 109, 110, 111, 112, 113] (by decide +kernel) (by decide +kernel)
set_option maxRecDepth 20000 in
theorem gX10_init_X8_init : GoodIn wsX10_init (wsX8_init) := ggX10_init_X8_init
set_option maxRecDepth 20000 in
theorem ggX10_init_X5_init : GoodIn wsX10_init wsX5_init := goodIn_r _ [53, 54, 2, 3, 33, 55, 56, 57, 58, 59, 99, 100, 101, 102] (by decide +kernel) (by decide +kernel)
set_option maxRecDepth 20000 in
theorem gX10_init_X5_init : GoodIn wsX10_init (wsX5_init) := ggX10_init_X5_init
set_option maxRecDepth 20000 in
theorem ggX10_init_X6_init : GoodIn wsX10_init wsX6_init := goodIn_r _ [62, 63, 2, 3, 64, 65, 66, 67, 68, 69, 70, 71, 72, 73, 33, 74, 114, 115, 103, 104, 105] (by decide +kernel) (by decide +kernel)
set_option maxRecDepth 20000 in
theorem gX10_init_X6_init : GoodIn wsX10_init (wsX6_init) := ggX10_init_X6_init
set_option maxRecDepth 20000 in
theorem ggX10_init_X7_init : GoodIn wsX10_init wsX7_init := goodIn_r _ [77, 78, 2, 3, 79, 80, 33, 81, 82, 106, 107, 108] (by decide +kernel) (by decide +kernel)
set_option maxRecDepth 20000 in
theorem gX10_init_X7_init : GoodIn wsX10_init (wsX7_init) := ggX10_init_X7_init
theorem dX10_init_0 : decode cX10_init 0 = .ok (.aload_n 0, 1) := by decide +kernel
theorem dX10_init_1 : decode cX10_init 1 = .ok (.invokespecial 1, 3) := by decide +kernel
theorem dX10_init_4 : decode cX10_init 4 = .ok (.aload_n 0, 1) := by decide +kernel
theorem dX10_init_5 : decode cX10_init 5 = .ok (.new 7, 3) := by decide +kernel
theorem dX10_init_8 : decode cX10_init 8 = .ok (.dup, 1) := by decide +kernel
theorem dX10_init_9 : decode cX10_init 9 = .ok (.invokespecial 9, 3) := by decide +kernel
theorem dX10_init_12 : decode cX10_init 12 = .ok (.putfield 10, 3) := by decide +kernel
theorem dX10_init_15 : decode cX10_init 15 = .ok (.aload_n 0, 1) := by decide +kernel
theorem dX10_init_16 : decode cX10_init 16 = .ok (.new 7, 3) := by decide +kernel
theorem dX10_init_19 : decode cX10_init 19 = .ok (.dup, 1) := by decide +kernel
theorem dX10_init_20 : decode cX10_init 20 = .ok (.invokespecial 9, 3) := by decide +kernel
theorem dX10_init_23 : decode cX10_init 23 = .ok (.putfield 16, 3) := by decide +kernel
theorem dX10_init_26 : decode cX10_init 26 = .ok (.aload_n 0, 1) := by decide +kernel
theorem dX10_init_27 : decode cX10_init 27 = .ok (.new 19, 3) := by decide +kernel
theorem dX10_init_30 : decode cX10_init 30 = .ok (.dup, 1) := by decide +kernel
theorem dX10_init_31 : decode cX10_init 31 = .ok (.invokespecial 21, 3) := by decide +kernel
theorem dX10_init_34 : decode cX10_init 34 = .ok (.putfield 22, 3) := by decide +kernel
theorem dX10_init_37 : decode cX10_init 37 = .ok (.aload_n 0, 1) := by decide +kernel
theorem dX10_init_38 : decode cX10_init 38 = .ok (.new 26, 3) := by decide +kernel
theorem dX10_init_41 : decode cX10_init 41 = .ok (.dup, 1) := by decide +kernel
theorem dX10_init_42 : decode cX10_init 42 = .ok (.invokespecial 28, 3) := by decide +kernel
theorem dX10_init_45 : decode cX10_init 45 = .ok (.putfield 29, 3) := by decide +kernel
theorem dX10_init_48 : decode cX10_init 48 = .ok (.aload_n 0, 1) := by decide +kernel
theorem dX10_init_49 : decode cX10_init 49 = .ok (.new 33, 3) := by decide +kernel
theorem dX10_init_52 : decode cX10_init 52 = .ok (.dup, 1) := by decide +kernel
theorem dX10_init_53 : decode cX10_init 53 = .ok (.invokespecial 35, 3) := by decide +kernel
theorem dX10_init_56 : decode cX10_init 56 = .ok (.putfield 36, 3) := by decide +kernel
theorem dX10_init_59 : decode cX10_init 59 = .ok (.aload_n 0, 1) := by decide +kernel
theorem dX10_init_60 : decode cX10_init 60 = .ok (.new 40, 3) := by decide +kernel
theorem dX10_init_63 : decode cX10_init 63 = .ok (.dup, 1) := by decide +kernel
theorem dX10_init_64 : decode cX10_init 64 = .ok (.invokespecial 42, 3) := by decide +kernel
theorem dX10_init_67 : decode cX10_init 67 = .ok (.putfield 43, 3) := by decide +kernel
theorem dX10_init_70 : decode cX10_init 70 = .ok (.return_, 1) := by decide +kernel
set_option maxRecDepth 20000 in
theorem ggX10_add_X10_outside : GoodIn wsX10_add wsX10_outside := goodIn_r _ [9] (by decide +kernel) (by decide +kernel)
set_option maxRecDepth 20000 in
theorem gX10_add_X10_outside : GoodIn wsX10_add (va_wsS RX10 47 yX10_outside wsX10_outside) := goodIn_app (goodIn_of _ (by decide +kernel)) ggX10_add_X10_outside
set_option maxRecDepth 20000 in
theorem ggX10_add_X9_areFactors : GoodIn wsX10_add wsX9_areFactors := goodIn_r _ [13, 14, 7, 8, 9] (by decide +kernel) (by decide +kernel)
set_option maxRecDepth 20000 in
theorem gX10_add_X9_areFactors : GoodIn wsX10_add (va_wsS RX10 51 yX9_areFactors wsX9_areFactors) := goodIn_app (goodIn_of _ (by decide +kernel)) ggX10_add_X9_areFactors
set_option maxRecDepth 20000 in
theorem ggX10_add_X0_keep : GoodIn wsX10_add wsX0_keep := goodIn_r _ [19, 20, 21, 22, 23, 24, 25, 26, 27, 28, 29, 12, 30, 31, 32, 33, 34, 35, 52, 53, 54, 55, 56, 57, 58, 59] (by decide +kernel) (by decide +kernel)
set_option maxRecDepth 20000 in
theorem gX10_add_X0_keep : GoodIn wsX10_add (wsV RX10 67 RX0 yX0_keep wsX0_keep) := goodIn_app (goodIn_of _ (by decide +kernel)) ggX10_add_X0_keep
set_option maxRecDepth 20000 in
theorem ggX10_add_X9_append : GoodIn wsX10_add wsX9_append := goodIn_r _ [39, 33, 40, 41, 42, 12, 43, 31, 44, 55, 56, 57, 58, 59] (by decide +kernel) (by decide +kernel)
set_option maxRecDepth 20000 in
theorem gX10_add_X9_append : GoodIn wsX10_add (wsV RX10 70 RX9 yX9_append wsX9_append) := goodIn_app (goodIn_of _ (by decide +kernel)) ggX10_add_X9_append
theorem dX10_add_0 : decode cX10_add 0 = .ok (.iload_n 1, 1) := by decide +kernel
theorem dX10_add_1 : decode cX10_add 1 = .ok (.iconst 0, 1) := by decide +kernel
theorem dX10_add_2 : decode cX10_add 2 = .ok (.iconst 4, 1) := by decide +kernel
theorem dX10_add_3 : decode cX10_add 3 = .ok (.invokestatic 47, 3) := by decide +kernel
theorem dX10_add_6 : decode cX10_add 6 = .ok (.ifCond .ne 21, 3) := by decide +kernel
theorem dX10_add_9 : decode cX10_add 9 = .ok (.iload_n 3, 1) := by decide +kernel
theorem dX10_add_10 : decode cX10_add 10 = .ok (.bipush (-99), 2) := by decide +kernel
theorem dX10_add_12 : decode cX10_add 12 = .ok (.bipush 99, 2) := by decide +kernel
theorem dX10_add_14 : decode cX10_add 14 = .ok (.invokestatic 47, 3) := by decide +kernel
theorem dX10_add_17 : decode cX10_add 17 = .ok (.ifCond .ne 10, 3) := by decide +kernel
theorem dX10_add_20 : decode cX10_add 20 = .ok (.iload_n 2, 1) := by decide +kernel
theorem dX10_add_21 : decode cX10_add 21 = .ok (.invokestatic 51, 3) := by decide +kernel
theorem dX10_add_24 : decode cX10_add 24 = .ok (.ifCond .ne 6, 3) := by decide +kernel
theorem dX10_add_27 : decode cX10_add 27 = .ok (.ldc 57, 2) := by decide +kernel
theorem dX10_add_29 : decode cX10_add 29 = .ok (.ireturn, 1) := by decide +kernel
theorem dX10_add_30 : decode cX10_add 30 = .ok (.aload_n 0, 1) := by decide +kernel
theorem dX10_add_31 : decode cX10_add 31 = .ok (.getfield 10, 3) := by decide +kernel
theorem dX10_add_34 : decode cX10_add 34 = .ok (.getfield 58, 3) := by decide +kernel
theorem dX10_add_37 : decode cX10_add 37 = .ok (.getfield 62, 3) := by decide +kernel
theorem dX10_add_40 : decode cX10_add 40 = .ok (.bipush 8, 2) := by decide +kernel
theorem dX10_add_42 : decode cX10_add 42 = .ok (.if_icmp .lt 6, 3) := by decide +kernel
theorem dX10_add_45 : decode cX10_add 45 = .ok (.ldc 66, 2) := by decide +kernel
theorem dX10_add_47 : decode cX10_add 47 = .ok (.ireturn, 1) := by decide +kernel
theorem dX10_add_48 : decode cX10_add 48 = .ok (.aload_n 0, 1) := by decide +kernel
theorem dX10_add_49 : decode cX10_add 49 = .ok (.getfield 10, 3) := by decide +kernel
theorem dX10_add_52 : decode cX10_add 52 = .ok (.invokevirtual 67, 3) := by decide +kernel
theorem dX10_add_55 : decode cX10_add 55 = .ok (.aload_n 0, 1) := by decide +kernel
theorem dX10_add_56 : decode cX10_add 56 = .ok (.getfield 10, 3) := by decide +kernel
theorem dX10_add_59 : decode cX10_add 59 = .ok (.getfield 58, 3) := by decide +kernel
theorem dX10_add_62 : decode cX10_add 62 = .ok (.iload_n 1, 1) := by decide +kernel
theorem dX10_add_63 : decode cX10_add 63 = .ok (.iload_n 2, 1) := by decide +kernel
theorem dX10_add_64 : decode cX10_add 64 = .ok (.iload_n 3, 1) := by decide +kernel
theorem dX10_add_65 : decode cX10_add 65 = .ok (.invokevirtual 70, 3) := by decide +kernel
theorem dX10_add_68 : decode cX10_add 68 = .ok (.aload_n 0, 1) := by decide +kernel
theorem dX10_add_69 : decode cX10_add 69 = .ok (.getfield 10, 3) := by decide +kernel
theorem dX10_add_72 : decode cX10_add 72 = .ok (.getfield 58, 3) := by decide +kernel
theorem dX10_add_75 : decode cX10_add 75 = .ok (.getfield 62, 3) := by decide +kernel
theorem dX10_add_78 : decode cX10_add 78 = .ok (.iconst 1, 1) := by decide +kernel
theorem dX10_add_79 : decode cX10_add 79 = .ok (.isub, 1) := by decide +kernel
theorem dX10_add_80 : decode cX10_add 80 = .ok (.ireturn, 1) := by decide +kernel
set_option maxRecDepth 20000 in
theorem ggX10_of_X10_isNoConstraint : GoodIn wsX10_of wsX10_isNoConstraint := goodIn_r _ [8, 2, 3, 9, 10, 11, 7, 12, 19, 20, 21, 22, 23, 24, 25, 26, 27, 28, 29, 30, 31, 32, 33] (by decide +kernel) (by decide +kernel)
set_option maxRecDepth 20000 in
theorem gX10_of_X10_isNoConstraint : GoodIn wsX10_of (wsV RX10 74 RX10 yX10_isNoConstraint wsX10_isNoConstraint) := goodIn_app (goodIn_of _ (by decide +kernel)) ggX10_of_X10_isNoConstraint
set_option maxRecDepth 20000 in
theorem ggX10_of_X10_outside : GoodIn wsX10_of wsX10_outside := goodIn_r _ [12] (by decide +kernel) (by decide +kernel)
set_option maxRecDepth 20000 in
theorem gX10_of_X10_outside : GoodIn wsX10_of (va_wsS RX10 47 yX10_outside wsX10_outside) := goodIn_app (goodIn_of _ (by decide +kernel)) ggX10_of_X10_outside
set_option maxRecDepth 20000 in
theorem ggX10_of_X9_cell : GoodIn wsX10_of wsX9_cell := goodIn_r _ [17, 18, 29, 30, 31, 32, 33] (by decide +kernel) (by decide +kernel)
set_option maxRecDepth 20000 in
theorem gX10_of_X9_cell : GoodIn wsX10_of (wsV RX10 77 RX9 yX9_cell wsX9_cell) := goodIn_app (goodIn_of _ (by decide +kernel)) ggX10_of_X9_cell
theorem dX10_of_0 : decode cX10_of 0 = .ok (.aload_n 0, 1) := by decide +kernel
theorem dX10_of_1 : decode cX10_of 1 = .ok (.iload_n 1, 1) := by decide +kernel
theorem dX10_of_2 : decode cX10_of 2 = .ok (.invokevirtual 74, 3) := by decide +kernel
theorem dX10_of_5 : decode cX10_of 5 = .ok (.ifCond .ne 12, 3) := by decide +kernel
theorem dX10_of_8 : decode cX10_of 8 = .ok (.iload_n 2, 1) := by decide +kernel
theorem dX10_of_9 : decode cX10_of 9 = .ok (.iconst 0, 1) := by decide +kernel
theorem dX10_of_10 : decode cX10_of 10 = .ok (.iconst 5, 1) := by decide +kernel
theorem dX10_of_11 : decode cX10_of 11 = .ok (.invokestatic 47, 3) := by decide +kernel
theorem dX10_of_14 : decode cX10_of 14 = .ok (.ifCond .eq 6, 3) := by decide +kernel
theorem dX10_of_17 : decode cX10_of 17 = .ok (.ldc 57, 2) := by decide +kernel
theorem dX10_of_19 : decode cX10_of 19 = .ok (.ireturn, 1) := by decide +kernel
theorem dX10_of_20 : decode cX10_of 20 = .ok (.aload_n 0, 1) := by decide +kernel
theorem dX10_of_21 : decode cX10_of 21 = .ok (.getfield 10, 3) := by decide +kernel
theorem dX10_of_24 : decode cX10_of 24 = .ok (.getfield 58, 3) := by decide +kernel
theorem dX10_of_27 : decode cX10_of 27 = .ok (.iload_n 1, 1) := by decide +kernel
theorem dX10_of_28 : decode cX10_of 28 = .ok (.iload_n 2, 1) := by decide +kernel
theorem dX10_of_29 : decode cX10_of 29 = .ok (.invokevirtual 77, 3) := by decide +kernel
theorem dX10_of_32 : decode cX10_of 32 = .ok (.ireturn, 1) := by decide +kernel
set_option maxRecDepth 20000 in
theorem ggX10_sum_X10_isNoConstraint : GoodIn wsX10_sum wsX10_isNoConstraint := goodIn_r _ [8, 2, 3, 9, 10, 11, 7, 12, 23, 24, 25, 26, 27, 28, 29, 30, 31, 32, 33, 34, 35, 36, 37] (by decide +kernel) (by decide +kernel)
set_option maxRecDepth 20000 in
theorem gX10_sum_X10_isNoConstraint : GoodIn wsX10_sum (wsV RX10 74 RX10 yX10_isNoConstraint wsX10_isNoConstraint) := goodIn_app (goodIn_of _ (by decide +kernel)) ggX10_sum_X10_isNoConstraint
set_option maxRecDepth 20000 in
theorem ggX10_sum_X10_outside : GoodIn wsX10_sum wsX10_outside := goodIn_r _ [12] (by decide +kernel) (by decide +kernel)
set_option maxRecDepth 20000 in
theorem gX10_sum_X10_outside : GoodIn wsX10_sum (va_wsS RX10 47 yX10_outside wsX10_outside) := goodIn_app (goodIn_of _ (by decide +kernel)) ggX10_sum_X10_outside
set_option maxRecDepth 20000 in
theorem ggX10_sum_X9_sumAt : GoodIn wsX10_sum wsX9_sumAt := goodIn_r _ [17, 18, 19, 20, 21, 22, 33, 34, 35, 36, 37] (by decide +kernel) (by decide +kernel)
set_option maxRecDepth 20000 in
theorem gX10_sum_X9_sumAt : GoodIn wsX10_sum (wsV RX10 81 RX9 yX9_sumAt wsX9_sumAt) := goodIn_app (goodIn_of _ (by decide +kernel)) ggX10_sum_X9_sumAt
theorem dX10_sum_0 : decode cX10_sum 0 = .ok (.aload_n 0, 1) := by decide +kernel
theorem dX10_sum_1 : decode cX10_sum 1 = .ok (.iload_n 1, 1) := by decide +kernel
theorem dX10_sum_2 : decode cX10_sum 2 = .ok (.invokevirtual 74, 3) := by decide +kernel
theorem dX10_sum_5 : decode cX10_sum 5 = .ok (.ifCond .ne 14, 3) := by decide +kernel
theorem dX10_sum_8 : decode cX10_sum 8 = .ok (.iload_n 2, 1) := by decide +kernel
theorem dX10_sum_9 : decode cX10_sum 9 = .ok (.iconst 0, 1) := by decide +kernel
theorem dX10_sum_10 : decode cX10_sum 10 = .ok (.sipush 4095, 3) := by decide +kernel
theorem dX10_sum_13 : decode cX10_sum 13 = .ok (.invokestatic 47, 3) := by decide +kernel
theorem dX10_sum_16 : decode cX10_sum 16 = .ok (.ifCond .eq 6, 3) := by decide +kernel
theorem dX10_sum_19 : decode cX10_sum 19 = .ok (.ldc 57, 2) := by decide +kernel
theorem dX10_sum_21 : decode cX10_sum 21 = .ok (.ireturn, 1) := by decide +kernel
theorem dX10_sum_22 : decode cX10_sum 22 = .ok (.aload_n 0, 1) := by decide +kernel
theorem dX10_sum_23 : decode cX10_sum 23 = .ok (.getfield 10, 3) := by decide +kernel
theorem dX10_sum_26 : decode cX10_sum 26 = .ok (.getfield 58, 3) := by decide +kernel
theorem dX10_sum_29 : decode cX10_sum 29 = .ok (.iload_n 1, 1) := by decide +kernel
theorem dX10_sum_30 : decode cX10_sum 30 = .ok (.iload_n 2, 1) := by decide +kernel
theorem dX10_sum_31 : decode cX10_sum 31 = .ok (.invokevirtual 81, 3) := by decide +kernel
theorem dX10_sum_34 : decode cX10_sum 34 = .ok (.ireturn, 1) := by decide +kernel
set_option maxRecDepth 20000 in
theorem ggX10_hold_X10_outside : GoodIn wsX10_hold wsX10_outside := goodIn_r _ [7] (by decide +kernel) (by decide +kernel)
set_option maxRecDepth 20000 in
theorem gX10_hold_X10_outside : GoodIn wsX10_hold (va_wsS RX10 47 yX10_outside wsX10_outside) := goodIn_app (goodIn_of _ (by decide +kernel)) ggX10_hold_X10_outside
set_option maxRecDepth 20000 in
theorem ggX10_hold_X9_holdingAt : GoodIn wsX10_hold wsX9_holdingAt := goodIn_r _ [12, 13, 14, 15, 16, 11, 17, 18, 19, 20, 21, 22, 23, 24, 25, 26, 27, 28, 29, 30, 41, 42, 43, 44, 45] (by decide +kernel) (by decide +kernel)
set_option maxRecDepth 20000 in
theorem gX10_hold_X9_holdingAt : GoodIn wsX10_hold (wsV RX10 84 RX9 yX9_holdingAt wsX9_holdingAt) := goodIn_app (goodIn_of _ (by decide +kernel)) ggX10_hold_X9_holdingAt
theorem dX10_hold_0 : decode cX10_hold 0 = .ok (.iload_n 1, 1) := by decide +kernel
theorem dX10_hold_1 : decode cX10_hold 1 = .ok (.iconst 0, 1) := by decide +kernel
theorem dX10_hold_2 : decode cX10_hold 2 = .ok (.sipush 4095, 3) := by decide +kernel
theorem dX10_hold_5 : decode cX10_hold 5 = .ok (.invokestatic 47, 3) := by decide +kernel
theorem dX10_hold_8 : decode cX10_hold 8 = .ok (.ifCond .eq 6, 3) := by decide +kernel
theorem dX10_hold_11 : decode cX10_hold 11 = .ok (.ldc 57, 2) := by decide +kernel
theorem dX10_hold_13 : decode cX10_hold 13 = .ok (.ireturn, 1) := by decide +kernel
theorem dX10_hold_14 : decode cX10_hold 14 = .ok (.aload_n 0, 1) := by decide +kernel
theorem dX10_hold_15 : decode cX10_hold 15 = .ok (.getfield 10, 3) := by decide +kernel
theorem dX10_hold_18 : decode cX10_hold 18 = .ok (.getfield 58, 3) := by decide +kernel
theorem dX10_hold_21 : decode cX10_hold 21 = .ok (.iload_n 1, 1) := by decide +kernel
theorem dX10_hold_22 : decode cX10_hold 22 = .ok (.invokevirtual 84, 3) := by decide +kernel
theorem dX10_hold_25 : decode cX10_hold 25 = .ok (.ireturn, 1) := by decide +kernel
set_option maxRecDepth 20000 in
theorem ggX10_type_X10_outside : GoodIn wsX10_type wsX10_outside := goodIn_r _ [8] (by decide +kernel) (by decide +kernel)
set_option maxRecDepth 20000 in
theorem gX10_type_X10_outside : GoodIn wsX10_type (va_wsS RX10 47 yX10_outside wsX10_outside) := goodIn_app (goodIn_of _ (by decide +kernel)) ggX10_type_X10_outside
set_option maxRecDepth 20000 in
theorem ggX10_type_X8_isFull : GoodIn wsX10_type wsX8_isFull := goodIn_r _ [13, 14, 27, 28, 29, 30, 31, 32] (by decide +kernel) (by decide +kernel)
set_option maxRecDepth 20000 in
theorem gX10_type_X8_isFull : GoodIn wsX10_type (wsV RX10 88 RX8 yX8_isFull wsX8_isFull) := goodIn_app (goodIn_of _ (by decide +kernel)) ggX10_type_X8_isFull
set_option maxRecDepth 20000 in
theorem ggX10_type_X8_append : GoodIn wsX10_type wsX8_append := goodIn_r _ [18, 19, 14, 27, 28, 29, 30, 31, 32] (by decide +kernel) (by decide +kernel)
set_option maxRecDepth 20000 in
theorem gX10_type_X8_append : GoodIn wsX10_type (wsV RX10 92 RX8 yX8_append wsX8_append) := goodIn_app (goodIn_of _ (by decide +kernel)) ggX10_type_X8_append
theorem dX10_type_0 : decode cX10_type 0 = .ok (.iload_n 1, 1) := by decide +kernel
theorem dX10_type_1 : decode cX10_type 1 = .ok (.bipush 32, 2) := by decide +kernel
theorem dX10_type_3 : decode cX10_type 3 = .ok (.bipush 126, 2) := by decide +kernel
theorem dX10_type_5 : decode cX10_type 5 = .ok (.invokestatic 47, 3) := by decide +kernel
theorem dX10_type_8 : decode cX10_type 8 = .ok (.ifCond .eq 6, 3) := by decide +kernel
theorem dX10_type_11 : decode cX10_type 11 = .ok (.ldc 57, 2) := by decide +kernel
theorem dX10_type_13 : decode cX10_type 13 = .ok (.ireturn, 1) := by decide +kernel
theorem dX10_type_14 : decode cX10_type 14 = .ok (.aload_n 0, 1) := by decide +kernel
theorem dX10_type_15 : decode cX10_type 15 = .ok (.getfield 22, 3) := by decide +kernel
theorem dX10_type_18 : decode cX10_type 18 = .ok (.invokevirtual 88, 3) := by decide +kernel
theorem dX10_type_21 : decode cX10_type 21 = .ok (.ifCond .eq 6, 3) := by decide +kernel
theorem dX10_type_24 : decode cX10_type 24 = .ok (.ldc 66, 2) := by decide +kernel
theorem dX10_type_26 : decode cX10_type 26 = .ok (.ireturn, 1) := by decide +kernel
theorem dX10_type_27 : decode cX10_type 27 = .ok (.aload_n 0, 1) := by decide +kernel
theorem dX10_type_28 : decode cX10_type 28 = .ok (.getfield 22, 3) := by decide +kernel
theorem dX10_type_31 : decode cX10_type 31 = .ok (.iload_n 1, 1) := by decide +kernel
theorem dX10_type_32 : decode cX10_type 32 = .ok (.i2c, 1) := by decide +kernel
theorem dX10_type_33 : decode cX10_type 33 = .ok (.invokevirtual 92, 3) := by decide +kernel
theorem dX10_type_36 : decode cX10_type 36 = .ok (.aload_n 0, 1) := by decide +kernel
theorem dX10_type_37 : decode cX10_type 37 = .ok (.getfield 22, 3) := by decide +kernel
theorem dX10_type_40 : decode cX10_type 40 = .ok (.getfield 95, 3) := by decide +kernel
theorem dX10_type_43 : decode cX10_type 43 = .ok (.ireturn, 1) := by decide +kernel
set_option maxRecDepth 20000 in
theorem ggX10_system_X8_read : GoodIn wsX10_system wsX8_read := goodIn_r _ [13, 14, 15, 16, 17, 18, 19, 12, 20, 21, 22, 23, 24, 25, 26, 27, 28, 29, 30, 31, 32, 33, 34, 35, 36, 37, 38, 39, 40, 41, 42, 43, 44, 45, 46, 47, 48, 49, 50, 51, 52, 53, 54, 55, 56, 57, 58, 59, 85, 86, 87, 88, 89, 90, 94, 95, 96, 97, 98] (by decide +kernel) (by decide +kernel)
set_option maxRecDepth 20000 in
theorem gX10_system_X8_read : GoodIn wsX10_system (wsV RX10 98 RX8 yX8_read wsX8_read) := goodIn_app (goodIn_of _ (by decide +kernel)) ggX10_system_X8_read
set_option maxRecDepth 20000 in
theorem ggX10_system_X0_begin : GoodIn wsX10_system wsX0_begin := goodIn_r _ [64, 65, 66, 67, 68, 69, 70, 29, 71, 43, 72, 73, 74, 75, 76, 31, 77, 32, 91, 92, 93, 94, 95, 96, 97, 98] (by decide +kernel) (by decide +kernel)
set_option maxRecDepth 20000 in
theorem gX10_system_X0_begin : GoodIn wsX10_system (wsV RX10 108 RX0 yX0_begin wsX0_begin) := goodIn_app (goodIn_of _ (by decide +kernel)) ggX10_system_X0_begin
theorem dX10_system_0 : decode cX10_system 0 = .ok (.aload_n 0, 1) := by decide +kernel
theorem dX10_system_1 : decode cX10_system 1 = .ok (.getfield 22, 3) := by decide +kernel
theorem dX10_system_4 : decode cX10_system 4 = .ok (.invokevirtual 98, 3) := by decide +kernel
theorem dX10_system_7 : decode cX10_system 7 = .ok (.istore_n 1, 1) := by decide +kernel
theorem dX10_system_8 : decode cX10_system 8 = .ok (.ldc 101, 2) := by decide +kernel
theorem dX10_system_10 : decode cX10_system 10 = .ok (.aload_n 0, 1) := by decide +kernel
theorem dX10_system_11 : decode cX10_system 11 = .ok (.getfield 22, 3) := by decide +kernel
theorem dX10_system_14 : decode cX10_system 14 = .ok (.getfield 102, 3) := by decide +kernel
theorem dX10_system_17 : decode cX10_system 17 = .ok (.isub, 1) := by decide +kernel
theorem dX10_system_18 : decode cX10_system 18 = .ok (.istore_n 2, 1) := by decide +kernel
theorem dX10_system_19 : decode cX10_system 19 = .ok (.aload_n 0, 1) := by decide +kernel
theorem dX10_system_20 : decode cX10_system 20 = .ok (.getfield 22, 3) := by decide +kernel
theorem dX10_system_23 : decode cX10_system 23 = .ok (.iconst 0, 1) := by decide +kernel
theorem dX10_system_24 : decode cX10_system 24 = .ok (.putfield 95, 3) := by decide +kernel
theorem dX10_system_27 : decode cX10_system 27 = .ok (.iload_n 1, 1) := by decide +kernel
theorem dX10_system_28 : decode cX10_system 28 = .ok (.ifCond .ne 5, 3) := by decide +kernel
theorem dX10_system_31 : decode cX10_system 31 = .ok (.iload_n 2, 1) := by decide +kernel
theorem dX10_system_32 : decode cX10_system 32 = .ok (.ireturn, 1) := by decide +kernel
theorem dX10_system_33 : decode cX10_system 33 = .ok (.aload_n 0, 1) := by decide +kernel
theorem dX10_system_34 : decode cX10_system 34 = .ok (.getfield 10, 3) := by decide +kernel
theorem dX10_system_37 : decode cX10_system 37 = .ok (.aload_n 0, 1) := by decide +kernel
theorem dX10_system_38 : decode cX10_system 38 = .ok (.getfield 22, 3) := by decide +kernel
theorem dX10_system_41 : decode cX10_system 41 = .ok (.getfield 105, 3) := by decide +kernel
theorem dX10_system_44 : decode cX10_system 44 = .ok (.invokevirtual 108, 3) := by decide +kernel
theorem dX10_system_47 : decode cX10_system 47 = .ok (.aload_n 0, 1) := by decide +kernel
theorem dX10_system_48 : decode cX10_system 48 = .ok (.getfield 10, 3) := by decide +kernel
theorem dX10_system_51 : decode cX10_system 51 = .ok (.getfield 58, 3) := by decide +kernel
theorem dX10_system_54 : decode cX10_system 54 = .ok (.getfield 62, 3) := by decide +kernel
theorem dX10_system_57 : decode cX10_system 57 = .ok (.ireturn, 1) := by decide +kernel
set_option maxRecDepth 20000 in
theorem ggX10_count_X5_pointCount : GoodIn wsX10_count wsX5_pointCount := goodIn_r _ [13, 14, 15, 16, 17, 12, 18, 19, 20, 21, 22, 23, 24, 25, 26, 27, 28, 29, 30, 31, 32, 33, 34, 35, 36, 37, 38, 39, 40, 41, 42, 43, 44, 45, 46, 47, 48, 49, 50, 51, 52, 53, 54, 74, 75, 76, 77, 69, 70, 71, 72, 73] (by decide +kernel) (by decide +kernel)
set_option maxRecDepth 20000 in
theorem gX10_count_X5_pointCount : GoodIn wsX10_count (wsV RX10 115 RX5 yX5_pointCount wsX5_pointCount) := goodIn_app (goodIn_of _ (by decide +kernel)) ggX10_count_X5_pointCount
set_option maxRecDepth 20000 in
theorem ggX10_count_X5_pointFrom : GoodIn wsX10_count wsX5_pointFrom := goodIn_r _ [58, 14, 15, 16, 17, 12, 18, 19, 20, 21, 22, 23, 24, 25, 26, 27, 28, 29, 30, 31, 32, 33, 34, 35, 36, 37, 38, 39, 40, 41, 42, 43, 44, 45, 46, 47, 48, 49, 50, 51, 52, 53, 54, 74, 75, 76, 77, 69, 70, 71, 72, 73] (by decide +kernel) (by decide +kernel)
set_option maxRecDepth 20000 in
theorem gX10_count_X5_pointFrom : GoodIn wsX10_count (wsV RX10 119 RX5 yX5_pointFrom wsX5_pointFrom) := goodIn_app (goodIn_of _ (by decide +kernel)) ggX10_count_X5_pointFrom
theorem dX10_count_0 : decode cX10_count 0 = .ok (.iload_n 1, 1) := by decide +kernel
theorem dX10_count_1 : decode cX10_count 1 = .ok (.ifCond .ne 14, 3) := by decide +kernel
theorem dX10_count_4 : decode cX10_count 4 = .ok (.aload_n 0, 1) := by decide +kernel
theorem dX10_count_5 : decode cX10_count 5 = .ok (.getfield 10, 3) := by decide +kernel
theorem dX10_count_8 : decode cX10_count 8 = .ok (.getfield 58, 3) := by decide +kernel
theorem dX10_count_11 : decode cX10_count 11 = .ok (.getfield 62, 3) := by decide +kernel
theorem dX10_count_14 : decode cX10_count 14 = .ok (.ireturn, 1) := by decide +kernel
theorem dX10_count_15 : decode cX10_count 15 = .ok (.iload_n 1, 1) := by decide +kernel
theorem dX10_count_16 : decode cX10_count 16 = .ok (.iconst 1, 1) := by decide +kernel
theorem dX10_count_17 : decode cX10_count 17 = .ok (.if_icmp .ne 14, 3) := by decide +kernel
theorem dX10_count_20 : decode cX10_count 20 = .ok (.aload_n 0, 1) := by decide +kernel
theorem dX10_count_21 : decode cX10_count 21 = .ok (.getfield 10, 3) := by decide +kernel
theorem dX10_count_24 : decode cX10_count 24 = .ok (.getfield 58, 3) := by decide +kernel
theorem dX10_count_27 : decode cX10_count 27 = .ok (.getfield 112, 3) := by decide +kernel
theorem dX10_count_30 : decode cX10_count 30 = .ok (.ireturn, 1) := by decide +kernel
theorem dX10_count_31 : decode cX10_count 31 = .ok (.iload_n 1, 1) := by decide +kernel
theorem dX10_count_32 : decode cX10_count 32 = .ok (.iconst 2, 1) := by decide +kernel
theorem dX10_count_33 : decode cX10_count 33 = .ok (.if_icmp .ne 18, 3) := by decide +kernel
theorem dX10_count_36 : decode cX10_count 36 = .ok (.aload_n 0, 1) := by decide +kernel
theorem dX10_count_37 : decode cX10_count 37 = .ok (.getfield 29, 3) := by decide +kernel
theorem dX10_count_40 : decode cX10_count 40 = .ok (.aload_n 0, 1) := by decide +kernel
theorem dX10_count_41 : decode cX10_count 41 = .ok (.getfield 10, 3) := by decide +kernel
theorem dX10_count_44 : decode cX10_count 44 = .ok (.getfield 58, 3) := by decide +kernel
theorem dX10_count_47 : decode cX10_count 47 = .ok (.invokevirtual 115, 3) := by decide +kernel
theorem dX10_count_50 : decode cX10_count 50 = .ok (.ireturn, 1) := by decide +kernel
theorem dX10_count_51 : decode cX10_count 51 = .ok (.iload_n 1, 1) := by decide +kernel
theorem dX10_count_52 : decode cX10_count 52 = .ok (.iconst 3, 1) := by decide +kernel
theorem dX10_count_53 : decode cX10_count 53 = .ok (.if_icmp .ne 30, 3) := by decide +kernel
theorem dX10_count_56 : decode cX10_count 56 = .ok (.aload_n 0, 1) := by decide +kernel
theorem dX10_count_57 : decode cX10_count 57 = .ok (.getfield 29, 3) := by decide +kernel
theorem dX10_count_60 : decode cX10_count 60 = .ok (.aload_n 0, 1) := by decide +kernel
theorem dX10_count_61 : decode cX10_count 61 = .ok (.getfield 10, 3) := by decide +kernel
theorem dX10_count_64 : decode cX10_count 64 = .ok (.getfield 58, 3) := by decide +kernel
theorem dX10_count_67 : decode cX10_count 67 = .ok (.iconst 0, 1) := by decide +kernel
theorem dX10_count_68 : decode cX10_count 68 = .ok (.invokevirtual 119, 3) := by decide +kernel
theorem dX10_count_71 : decode cX10_count 71 = .ok (.istore_n 2, 1) := by decide +kernel
theorem dX10_count_72 : decode cX10_count 72 = .ok (.iload_n 2, 1) := by decide +kernel
theorem dX10_count_73 : decode cX10_count 73 = .ok (.ifCond .ge 8, 3) := by decide +kernel
theorem dX10_count_76 : decode cX10_count 76 = .ok (.ldc 123, 2) := by decide +kernel
theorem dX10_count_78 : decode cX10_count 78 = .ok (.goto 4, 3) := by decide +kernel
theorem dX10_count_81 : decode cX10_count 81 = .ok (.iload_n 2, 1) := by decide +kernel
theorem dX10_count_82 : decode cX10_count 82 = .ok (.ireturn, 1) := by decide +kernel
theorem dX10_count_83 : decode cX10_count 83 = .ok (.iload_n 1, 1) := by decide +kernel
theorem dX10_count_84 : decode cX10_count 84 = .ok (.iconst 4, 1) := by decide +kernel
theorem dX10_count_85 : decode cX10_count 85 = .ok (.if_icmp .ne 13, 3) := by decide +kernel
theorem dX10_count_88 : decode cX10_count 88 = .ok (.aload_n 0, 1) := by decide +kernel
theorem dX10_count_89 : decode cX10_count 89 = .ok (.getfield 10, 3) := by decide +kernel
theorem dX10_count_92 : decode cX10_count 92 = .ok (.getfield 124, 3) := by decide +kernel
theorem dX10_count_95 : decode cX10_count 95 = .ok (.goto 5, 3) := by decide +kernel
theorem dX10_count_98 : decode cX10_count 98 = .ok (.ldc 57, 2) := by decide +kernel
theorem dX10_count_100 : decode cX10_count 100 = .ok (.ireturn, 1) := by decide +kernel
set_option maxRecDepth 20000 in
theorem ggX10_drop_X10_isNoConstraint : GoodIn wsX10_drop wsX10_isNoConstraint := goodIn_r _ [9, 2, 3, 4, 10, 11, 8, 12, 40, 41, 42, 43, 44, 45, 46, 47, 48, 49, 50, 51, 52, 53, 54] (by decide +kernel) (by decide +kernel)
set_option maxRecDepth 20000 in
theorem gX10_drop_X10_isNoConstraint : GoodIn wsX10_drop (wsV RX10 74 RX10 yX10_isNoConstraint wsX10_isNoConstraint) := goodIn_app (goodIn_of _ (by decide +kernel)) ggX10_drop_X10_isNoConstraint
set_option maxRecDepth 20000 in
theorem ggX10_drop_X0_keep : GoodIn wsX10_drop wsX0_keep := goodIn_r _ [17, 18, 19, 20, 21, 22, 23, 24, 25, 26, 27, 28, 29, 30, 31, 32, 33, 34, 47, 48, 49, 50, 51, 52, 53, 54] (by decide +kernel) (by decide +kernel)
set_option maxRecDepth 20000 in
theorem gX10_drop_X0_keep : GoodIn wsX10_drop (wsV RX10 67 RX0 yX0_keep wsX0_keep) := goodIn_app (goodIn_of _ (by decide +kernel)) ggX10_drop_X0_keep
set_option maxRecDepth 20000 in
theorem ggX10_drop_X9_remove : GoodIn wsX10_drop wsX9_remove := goodIn_r _ [38, 30, 31, 21, 22, 23, 32, 39, 50, 51, 52, 53, 54] (by decide +kernel) (by decide +kernel)
set_option maxRecDepth 20000 in
theorem gX10_drop_X9_remove : GoodIn wsX10_drop (wsV RX10 127 RX9 yX9_remove wsX9_remove) := goodIn_app (goodIn_of _ (by decide +kernel)) ggX10_drop_X9_remove
theorem dX10_drop_0 : decode cX10_drop 0 = .ok (.aload_n 0, 1) := by decide +kernel
theorem dX10_drop_1 : decode cX10_drop 1 = .ok (.iload_n 1, 1) := by decide +kernel
theorem dX10_drop_2 : decode cX10_drop 2 = .ok (.invokevirtual 74, 3) := by decide +kernel
theorem dX10_drop_5 : decode cX10_drop 5 = .ok (.ifCond .eq 6, 3) := by decide +kernel
theorem dX10_drop_8 : decode cX10_drop 8 = .ok (.ldc 57, 2) := by decide +kernel
theorem dX10_drop_10 : decode cX10_drop 10 = .ok (.ireturn, 1) := by decide +kernel
theorem dX10_drop_11 : decode cX10_drop 11 = .ok (.aload_n 0, 1) := by decide +kernel
theorem dX10_drop_12 : decode cX10_drop 12 = .ok (.getfield 10, 3) := by decide +kernel
theorem dX10_drop_15 : decode cX10_drop 15 = .ok (.invokevirtual 67, 3) := by decide +kernel
theorem dX10_drop_18 : decode cX10_drop 18 = .ok (.aload_n 0, 1) := by decide +kernel
theorem dX10_drop_19 : decode cX10_drop 19 = .ok (.getfield 10, 3) := by decide +kernel
theorem dX10_drop_22 : decode cX10_drop 22 = .ok (.getfield 58, 3) := by decide +kernel
theorem dX10_drop_25 : decode cX10_drop 25 = .ok (.iload_n 1, 1) := by decide +kernel
theorem dX10_drop_26 : decode cX10_drop 26 = .ok (.invokevirtual 127, 3) := by decide +kernel
theorem dX10_drop_29 : decode cX10_drop 29 = .ok (.aload_n 0, 1) := by decide +kernel
theorem dX10_drop_30 : decode cX10_drop 30 = .ok (.getfield 10, 3) := by decide +kernel
theorem dX10_drop_33 : decode cX10_drop 33 = .ok (.getfield 58, 3) := by decide +kernel
theorem dX10_drop_36 : decode cX10_drop 36 = .ok (.getfield 62, 3) := by decide +kernel
theorem dX10_drop_39 : decode cX10_drop 39 = .ok (.ireturn, 1) := by decide +kernel
set_option maxRecDepth 20000 in
theorem ggX10_change_X10_isNoConstraint : GoodIn wsX10_change wsX10_isNoConstraint := goodIn_r _ [6, 7, 8, 9, 10, 11, 5, 12, 49, 50, 51, 52, 53, 54, 55, 56, 57, 58, 59, 60, 61, 62, 63] (by decide +kernel) (by decide +kernel)
set_option maxRecDepth 20000 in
theorem gX10_change_X10_isNoConstraint : GoodIn wsX10_change (wsV RX10 74 RX10 yX10_isNoConstraint wsX10_isNoConstraint) := goodIn_app (goodIn_of _ (by decide +kernel)) ggX10_change_X10_isNoConstraint
set_option maxRecDepth 20000 in
theorem ggX10_change_X10_outside : GoodIn wsX10_change wsX10_outside := goodIn_r _ [12] (by decide +kernel) (by decide +kernel)
set_option maxRecDepth 20000 in
theorem gX10_change_X10_outside : GoodIn wsX10_change (va_wsS RX10 47 yX10_outside wsX10_outside) := goodIn_app (goodIn_of _ (by decide +kernel)) ggX10_change_X10_outside
set_option maxRecDepth 20000 in
theorem ggX10_change_X10_replace : GoodIn wsX10_change wsX10_replace := goodIn_r _ [16, 7, 8, 17, 18, 19, 20, 21, 22, 23, 24, 25, 26, 27, 28, 29, 30, 31, 32, 33, 34, 35, 36, 37, 38, 39, 40, 41, 42, 43, 44, 45, 46, 47, 48, 49, 50, 51, 52, 53, 54, 55, 56, 57, 58, 59, 60, 61, 62, 63] (by decide +kernel) (by decide +kernel)
set_option maxRecDepth 20000 in
theorem gX10_change_X10_replace : GoodIn wsX10_change (wsV RX10 131 RX10 yX10_replace wsX10_replace) := goodIn_app (goodIn_of _ (by decide +kernel)) ggX10_change_X10_replace
theorem dX10_change_0 : decode cX10_change 0 = .ok (.aload_n 0, 1) := by decide +kernel
theorem dX10_change_1 : decode cX10_change 1 = .ok (.iload_n 1, 1) := by decide +kernel
theorem dX10_change_2 : decode cX10_change 2 = .ok (.invokevirtual 74, 3) := by decide +kernel
theorem dX10_change_5 : decode cX10_change 5 = .ok (.ifCond .ne 12, 3) := by decide +kernel
theorem dX10_change_8 : decode cX10_change 8 = .ok (.iload_n 2, 1) := by decide +kernel
theorem dX10_change_9 : decode cX10_change 9 = .ok (.iconst 0, 1) := by decide +kernel
theorem dX10_change_10 : decode cX10_change 10 = .ok (.iconst 4, 1) := by decide +kernel
theorem dX10_change_11 : decode cX10_change 11 = .ok (.invokestatic 47, 3) := by decide +kernel
theorem dX10_change_14 : decode cX10_change 14 = .ok (.ifCond .eq 6, 3) := by decide +kernel
theorem dX10_change_17 : decode cX10_change 17 = .ok (.ldc 57, 2) := by decide +kernel
theorem dX10_change_19 : decode cX10_change 19 = .ok (.ireturn, 1) := by decide +kernel
theorem dX10_change_20 : decode cX10_change 20 = .ok (.iload_n 2, 1) := by decide +kernel
theorem dX10_change_21 : decode cX10_change 21 = .ok (.iconst 4, 1) := by decide +kernel
theorem dX10_change_22 : decode cX10_change 22 = .ok (.if_icmp .ne 8, 3) := by decide +kernel
theorem dX10_change_25 : decode cX10_change 25 = .ok (.bipush 99, 2) := by decide +kernel
theorem dX10_change_27 : decode cX10_change 27 = .ok (.goto 5, 3) := by decide +kernel
theorem dX10_change_30 : decode cX10_change 30 = .ok (.bipush 9, 2) := by decide +kernel
theorem dX10_change_32 : decode cX10_change 32 = .ok (.istore 4, 2) := by decide +kernel
theorem dX10_change_34 : decode cX10_change 34 = .ok (.iload_n 3, 1) := by decide +kernel
theorem dX10_change_35 : decode cX10_change 35 = .ok (.iload 4, 2) := by decide +kernel
theorem dX10_change_37 : decode cX10_change 37 = .ok (.ineg, 1) := by decide +kernel
theorem dX10_change_38 : decode cX10_change 38 = .ok (.iload 4, 2) := by decide +kernel
theorem dX10_change_40 : decode cX10_change 40 = .ok (.invokestatic 47, 3) := by decide +kernel
theorem dX10_change_43 : decode cX10_change 43 = .ok (.ifCond .eq 6, 3) := by decide +kernel
theorem dX10_change_46 : decode cX10_change 46 = .ok (.ldc 57, 2) := by decide +kernel
theorem dX10_change_48 : decode cX10_change 48 = .ok (.ireturn, 1) := by decide +kernel
theorem dX10_change_49 : decode cX10_change 49 = .ok (.aload_n 0, 1) := by decide +kernel
theorem dX10_change_50 : decode cX10_change 50 = .ok (.iload_n 1, 1) := by decide +kernel
theorem dX10_change_51 : decode cX10_change 51 = .ok (.iload_n 2, 1) := by decide +kernel
theorem dX10_change_52 : decode cX10_change 52 = .ok (.iload_n 3, 1) := by decide +kernel
theorem dX10_change_53 : decode cX10_change 53 = .ok (.invokevirtual 131, 3) := by decide +kernel
theorem dX10_change_56 : decode cX10_change 56 = .ok (.ireturn, 1) := by decide +kernel
set_option maxRecDepth 20000 in
theorem ggX10_shape_X10_isNoConstraint : GoodIn wsX10_shape wsX10_isNoConstraint := goodIn_r _ [6, 7, 8, 9, 10, 11, 5, 12, 49, 50, 51, 52, 53, 54, 55, 56, 57, 58, 59, 60, 61, 62, 63] (by decide +kernel) (by decide +kernel)
set_option maxRecDepth 20000 in
theorem gX10_shape_X10_isNoConstraint : GoodIn wsX10_shape (wsV RX10 74 RX10 yX10_isNoConstraint wsX10_isNoConstraint) := goodIn_app (goodIn_of _ (by decide +kernel)) ggX10_shape_X10_isNoConstraint
set_option maxRecDepth 20000 in
theorem ggX10_shape_X10_outside : GoodIn wsX10_shape wsX10_outside := goodIn_r _ [12] (by decide +kernel) (by decide +kernel)
set_option maxRecDepth 20000 in
theorem gX10_shape_X10_outside : GoodIn wsX10_shape (va_wsS RX10 47 yX10_outside wsX10_outside) := goodIn_app (goodIn_of _ (by decide +kernel)) ggX10_shape_X10_outside
set_option maxRecDepth 20000 in
theorem ggX10_shape_X10_replace : GoodIn wsX10_shape wsX10_replace := goodIn_r _ [16, 7, 8, 17, 18, 19, 20, 21, 22, 23, 24, 25, 26, 27, 28, 29, 30, 31, 32, 33, 34, 35, 36, 37, 38, 39, 40, 41, 42, 43, 44, 45, 46, 47, 48, 49, 50, 51, 52, 53, 54, 55, 56, 57, 58, 59, 60, 61, 62, 63] (by decide +kernel) (by decide +kernel)
set_option maxRecDepth 20000 in
theorem gX10_shape_X10_replace : GoodIn wsX10_shape (wsV RX10 131 RX10 yX10_replace wsX10_replace) := goodIn_app (goodIn_of _ (by decide +kernel)) ggX10_shape_X10_replace
theorem dX10_shape_0 : decode cX10_shape 0 = .ok (.aload_n 0, 1) := by decide +kernel
theorem dX10_shape_1 : decode cX10_shape 1 = .ok (.iload_n 1, 1) := by decide +kernel
theorem dX10_shape_2 : decode cX10_shape 2 = .ok (.invokevirtual 74, 3) := by decide +kernel
theorem dX10_shape_5 : decode cX10_shape 5 = .ok (.ifCond .ne 12, 3) := by decide +kernel
theorem dX10_shape_8 : decode cX10_shape 8 = .ok (.iload_n 2, 1) := by decide +kernel
theorem dX10_shape_9 : decode cX10_shape 9 = .ok (.iconst 0, 1) := by decide +kernel
theorem dX10_shape_10 : decode cX10_shape 10 = .ok (.iconst 4, 1) := by decide +kernel
theorem dX10_shape_11 : decode cX10_shape 11 = .ok (.invokestatic 47, 3) := by decide +kernel
theorem dX10_shape_14 : decode cX10_shape 14 = .ok (.ifCond .eq 6, 3) := by decide +kernel
theorem dX10_shape_17 : decode cX10_shape 17 = .ok (.ldc 57, 2) := by decide +kernel
theorem dX10_shape_19 : decode cX10_shape 19 = .ok (.ireturn, 1) := by decide +kernel
theorem dX10_shape_20 : decode cX10_shape 20 = .ok (.aload_n 0, 1) := by decide +kernel
theorem dX10_shape_21 : decode cX10_shape 21 = .ok (.iload_n 1, 1) := by decide +kernel
theorem dX10_shape_22 : decode cX10_shape 22 = .ok (.iconst 5, 1) := by decide +kernel
theorem dX10_shape_23 : decode cX10_shape 23 = .ok (.iload_n 2, 1) := by decide +kernel
theorem dX10_shape_24 : decode cX10_shape 24 = .ok (.invokevirtual 131, 3) := by decide +kernel
theorem dX10_shape_27 : decode cX10_shape 27 = .ok (.ireturn, 1) := by decide +kernel
set_option maxRecDepth 20000 in
theorem ggX10_turn_X10_isNoConstraint : GoodIn wsX10_turn wsX10_isNoConstraint := goodIn_r _ [9, 2, 3, 10, 11, 12, 8, 13, 88, 89, 90, 91, 92, 93, 94, 95, 96, 97, 98, 99, 100, 101, 102] (by decide +kernel) (by decide +kernel)
set_option maxRecDepth 20000 in
theorem gX10_turn_X10_isNoConstraint : GoodIn wsX10_turn (wsV RX10 74 RX10 yX10_isNoConstraint wsX10_isNoConstraint) := goodIn_app (goodIn_of _ (by decide +kernel)) ggX10_turn_X10_isNoConstraint
set_option maxRecDepth 20000 in
theorem ggX10_turn_X0_keep : GoodIn wsX10_turn wsX0_keep := goodIn_r _ [18, 19, 20, 21, 22, 23, 24, 25, 26, 27, 28, 29, 30, 31, 32, 33, 34, 35, 95, 96, 97, 98, 99, 100, 101, 102] (by decide +kernel) (by decide +kernel)
set_option maxRecDepth 20000 in
theorem gX10_turn_X0_keep : GoodIn wsX10_turn (wsV RX10 67 RX0 yX0_keep wsX0_keep) := goodIn_app (goodIn_of _ (by decide +kernel)) ggX10_turn_X0_keep
set_option maxRecDepth 20000 in
theorem ggX10_turn_X9_negate : GoodIn wsX10_turn wsX9_negate := goodIn_r _ [39, 40, 41, 42, 29, 43, 31, 44, 45, 46, 47, 48, 98, 99, 100, 101, 102] (by decide +kernel) (by decide +kernel)
set_option maxRecDepth 20000 in
theorem gX10_turn_X9_negate : GoodIn wsX10_turn (wsV RX10 135 RX9 yX9_negate wsX9_negate) := goodIn_app (goodIn_of _ (by decide +kernel)) ggX10_turn_X9_negate
set_option maxRecDepth 20000 in
theorem ggX10_turn_X5_pointCount : GoodIn wsX10_turn wsX5_pointCount := goodIn_r _ [53, 54, 55, 56, 57, 52, 58, 59, 60, 61, 62, 63, 64, 65, 29, 66, 34, 67, 68, 69, 70, 71, 72, 73, 74, 75, 41, 42, 43, 31, 76, 77, 78, 79, 80, 81, 82, 83, 84, 85, 86, 87, 33, 103, 104, 105, 106, 98, 99, 100, 101, 102] (by decide +kernel) (by decide +kernel)
set_option maxRecDepth 20000 in
theorem gX10_turn_X5_pointCount : GoodIn wsX10_turn (wsV RX10 115 RX5 yX5_pointCount wsX5_pointCount) := goodIn_app (goodIn_of _ (by decide +kernel)) ggX10_turn_X5_pointCount
theorem dX10_turn_0 : decode cX10_turn 0 = .ok (.aload_n 0, 1) := by decide +kernel
theorem dX10_turn_1 : decode cX10_turn 1 = .ok (.iload_n 1, 1) := by decide +kernel
theorem dX10_turn_2 : decode cX10_turn 2 = .ok (.invokevirtual 74, 3) := by decide +kernel
theorem dX10_turn_5 : decode cX10_turn 5 = .ok (.ifCond .eq 6, 3) := by decide +kernel
theorem dX10_turn_8 : decode cX10_turn 8 = .ok (.ldc 57, 2) := by decide +kernel
theorem dX10_turn_10 : decode cX10_turn 10 = .ok (.ireturn, 1) := by decide +kernel
theorem dX10_turn_11 : decode cX10_turn 11 = .ok (.aload_n 0, 1) := by decide +kernel
theorem dX10_turn_12 : decode cX10_turn 12 = .ok (.getfield 10, 3) := by decide +kernel
theorem dX10_turn_15 : decode cX10_turn 15 = .ok (.invokevirtual 67, 3) := by decide +kernel
theorem dX10_turn_18 : decode cX10_turn 18 = .ok (.aload_n 0, 1) := by decide +kernel
theorem dX10_turn_19 : decode cX10_turn 19 = .ok (.getfield 10, 3) := by decide +kernel
theorem dX10_turn_22 : decode cX10_turn 22 = .ok (.getfield 58, 3) := by decide +kernel
theorem dX10_turn_25 : decode cX10_turn 25 = .ok (.iload_n 1, 1) := by decide +kernel
theorem dX10_turn_26 : decode cX10_turn 26 = .ok (.invokevirtual 135, 3) := by decide +kernel
theorem dX10_turn_29 : decode cX10_turn 29 = .ok (.aload_n 0, 1) := by decide +kernel
theorem dX10_turn_30 : decode cX10_turn 30 = .ok (.getfield 29, 3) := by decide +kernel
theorem dX10_turn_33 : decode cX10_turn 33 = .ok (.aload_n 0, 1) := by decide +kernel
theorem dX10_turn_34 : decode cX10_turn 34 = .ok (.getfield 10, 3) := by decide +kernel
theorem dX10_turn_37 : decode cX10_turn 37 = .ok (.getfield 58, 3) := by decide +kernel
theorem dX10_turn_40 : decode cX10_turn 40 = .ok (.invokevirtual 115, 3) := by decide +kernel
theorem dX10_turn_43 : decode cX10_turn 43 = .ok (.ireturn, 1) := by decide +kernel
set_option maxRecDepth 20000 in
theorem ggX10_call_X10_outside : GoodIn wsX10_call wsX10_outside := goodIn_r _ [9] (by decide +kernel) (by decide +kernel)
set_option maxRecDepth 20000 in
theorem gX10_call_X10_outside : GoodIn wsX10_call (va_wsS RX10 47 yX10_outside wsX10_outside) := goodIn_app (goodIn_of _ (by decide +kernel)) ggX10_call_X10_outside
set_option maxRecDepth 20000 in
theorem ggX10_call_X0_keep : GoodIn wsX10_call wsX0_keep := goodIn_r _ [14, 15, 16, 17, 18, 19, 20, 21, 22, 23, 24, 25, 26, 27, 28, 29, 30, 31, 44, 45, 46, 47, 48, 49, 50, 51] (by decide +kernel) (by decide +kernel)
set_option maxRecDepth 20000 in
theorem gX10_call_X0_keep : GoodIn wsX10_call (wsV RX10 67 RX0 yX0_keep wsX0_keep) := goodIn_app (goodIn_of _ (by decide +kernel)) ggX10_call_X0_keep
set_option maxRecDepth 20000 in
theorem ggX10_call_X9_setMost : GoodIn wsX10_call wsX9_setMost := goodIn_r _ [35, 30, 36, 47, 48, 49, 50, 51] (by decide +kernel) (by decide +kernel)
set_option maxRecDepth 20000 in
theorem gX10_call_X9_setMost : GoodIn wsX10_call (wsV RX10 139 RX9 yX9_setMost wsX9_setMost) := goodIn_app (goodIn_of _ (by decide +kernel)) ggX10_call_X9_setMost
theorem dX10_call_0 : decode cX10_call 0 = .ok (.iload_n 1, 1) := by decide +kernel
theorem dX10_call_1 : decode cX10_call 1 = .ok (.iconst 1, 1) := by decide +kernel
theorem dX10_call_2 : decode cX10_call 2 = .ok (.bipush 7, 2) := by decide +kernel
theorem dX10_call_4 : decode cX10_call 4 = .ok (.invokestatic 47, 3) := by decide +kernel
theorem dX10_call_7 : decode cX10_call 7 = .ok (.ifCond .eq 6, 3) := by decide +kernel
theorem dX10_call_10 : decode cX10_call 10 = .ok (.ldc 57, 2) := by decide +kernel
theorem dX10_call_12 : decode cX10_call 12 = .ok (.ireturn, 1) := by decide +kernel
theorem dX10_call_13 : decode cX10_call 13 = .ok (.aload_n 0, 1) := by decide +kernel
theorem dX10_call_14 : decode cX10_call 14 = .ok (.getfield 10, 3) := by decide +kernel
theorem dX10_call_17 : decode cX10_call 17 = .ok (.getfield 58, 3) := by decide +kernel
theorem dX10_call_20 : decode cX10_call 20 = .ok (.getfield 112, 3) := by decide +kernel
theorem dX10_call_23 : decode cX10_call 23 = .ok (.istore_n 2, 1) := by decide +kernel
theorem dX10_call_24 : decode cX10_call 24 = .ok (.iload_n 2, 1) := by decide +kernel
theorem dX10_call_25 : decode cX10_call 25 = .ok (.iload_n 1, 1) := by decide +kernel
theorem dX10_call_26 : decode cX10_call 26 = .ok (.if_icmp .ne 6, 3) := by decide +kernel
theorem dX10_call_29 : decode cX10_call 29 = .ok (.ldc 138, 2) := by decide +kernel
theorem dX10_call_31 : decode cX10_call 31 = .ok (.ireturn, 1) := by decide +kernel
theorem dX10_call_32 : decode cX10_call 32 = .ok (.aload_n 0, 1) := by decide +kernel
theorem dX10_call_33 : decode cX10_call 33 = .ok (.getfield 10, 3) := by decide +kernel
theorem dX10_call_36 : decode cX10_call 36 = .ok (.invokevirtual 67, 3) := by decide +kernel
theorem dX10_call_39 : decode cX10_call 39 = .ok (.aload_n 0, 1) := by decide +kernel
theorem dX10_call_40 : decode cX10_call 40 = .ok (.getfield 10, 3) := by decide +kernel
theorem dX10_call_43 : decode cX10_call 43 = .ok (.getfield 58, 3) := by decide +kernel
theorem dX10_call_46 : decode cX10_call 46 = .ok (.iload_n 1, 1) := by decide +kernel
theorem dX10_call_47 : decode cX10_call 47 = .ok (.invokevirtual 139, 3) := by decide +kernel
theorem dX10_call_50 : decode cX10_call 50 = .ok (.iload_n 2, 1) := by decide +kernel
theorem dX10_call_51 : decode cX10_call 51 = .ok (.ireturn, 1) := by decide +kernel
set_option maxRecDepth 20000 in
theorem ggX10_drift_X10_outside : GoodIn wsX10_drift wsX10_outside := goodIn_r _ [8] (by decide +kernel) (by decide +kernel)
set_option maxRecDepth 20000 in
theorem gX10_drift_X10_outside : GoodIn wsX10_drift (va_wsS RX10 47 yX10_outside wsX10_outside) := goodIn_app (goodIn_of _ (by decide +kernel)) ggX10_drift_X10_outside
set_option maxRecDepth 20000 in
theorem ggX10_drift_X0_keep : GoodIn wsX10_drift wsX0_keep := goodIn_r _ [13, 14, 15, 16, 17, 18, 19, 20, 21, 22, 23, 24, 25, 26, 27, 28, 29, 30, 92, 93, 94, 95, 96, 97, 98, 99] (by decide +kernel) (by decide +kernel)
set_option maxRecDepth 20000 in
theorem gX10_drift_X0_keep : GoodIn wsX10_drift (wsV RX10 67 RX0 yX0_keep wsX0_keep) := goodIn_app (goodIn_of _ (by decide +kernel)) ggX10_drift_X0_keep
set_option maxRecDepth 20000 in
theorem ggX10_drift_X9_driftOnce : GoodIn wsX10_drift wsX9_driftOnce := goodIn_r _ [34, 30, 35, 36, 37, 28, 38, 39, 40, 24, 41, 26, 42, 95, 96, 97, 98, 99] (by decide +kernel) (by decide +kernel)
set_option maxRecDepth 20000 in
theorem gX10_drift_X9_driftOnce : GoodIn wsX10_drift (wsV RX10 142 RX9 yX9_driftOnce wsX9_driftOnce) := goodIn_app (goodIn_of _ (by decide +kernel)) ggX10_drift_X9_driftOnce
set_option maxRecDepth 20000 in
theorem ggX10_drift_X5_pointCount : GoodIn wsX10_drift wsX5_pointCount := goodIn_r _ [47, 48, 49, 50, 51, 46, 52, 53, 54, 55, 56, 57, 58, 59, 24, 60, 29, 61, 62, 63, 64, 65, 66, 67, 68, 69, 70, 71, 72, 26, 73, 74, 75, 76, 77, 78, 79, 80, 81, 82, 83, 84, 28, 100, 101, 102, 103, 95, 96, 97, 98, 99] (by decide +kernel) (by decide +kernel)
set_option maxRecDepth 20000 in
theorem gX10_drift_X5_pointCount : GoodIn wsX10_drift (wsV RX10 115 RX5 yX5_pointCount wsX5_pointCount) := goodIn_app (goodIn_of _ (by decide +kernel)) ggX10_drift_X5_pointCount
theorem dX10_drift_0 : decode cX10_drift 0 = .ok (.iload_n 1, 1) := by decide +kernel
theorem dX10_drift_1 : decode cX10_drift 1 = .ok (.iconst 1, 1) := by decide +kernel
theorem dX10_drift_2 : decode cX10_drift 2 = .ok (.bipush 40, 2) := by decide +kernel
theorem dX10_drift_4 : decode cX10_drift 4 = .ok (.invokestatic 47, 3) := by decide +kernel
theorem dX10_drift_7 : decode cX10_drift 7 = .ok (.ifCond .eq 6, 3) := by decide +kernel
theorem dX10_drift_10 : decode cX10_drift 10 = .ok (.ldc 57, 2) := by decide +kernel
theorem dX10_drift_12 : decode cX10_drift 12 = .ok (.ireturn, 1) := by decide +kernel
theorem dX10_drift_13 : decode cX10_drift 13 = .ok (.iconst 0, 1) := by decide +kernel
theorem dX10_drift_14 : decode cX10_drift 14 = .ok (.istore_n 2, 1) := by decide +kernel
theorem dX10_drift_15 : decode cX10_drift 15 = .ok (.iload_n 2, 1) := by decide +kernel
theorem dX10_drift_16 : decode cX10_drift 16 = .ok (.iload_n 1, 1) := by decide +kernel
theorem dX10_drift_17 : decode cX10_drift 17 = .ok (.if_icmp .ge 26, 3) := by decide +kernel
theorem dX10_drift_20 : decode cX10_drift 20 = .ok (.aload_n 0, 1) := by decide +kernel
theorem dX10_drift_21 : decode cX10_drift 21 = .ok (.getfield 10, 3) := by decide +kernel
theorem dX10_drift_24 : decode cX10_drift 24 = .ok (.invokevirtual 67, 3) := by decide +kernel
theorem dX10_drift_27 : decode cX10_drift 27 = .ok (.aload_n 0, 1) := by decide +kernel
theorem dX10_drift_28 : decode cX10_drift 28 = .ok (.getfield 10, 3) := by decide +kernel
theorem dX10_drift_31 : decode cX10_drift 31 = .ok (.getfield 58, 3) := by decide +kernel
theorem dX10_drift_34 : decode cX10_drift 34 = .ok (.invokevirtual 142, 3) := by decide +kernel
theorem dX10_drift_37 : decode cX10_drift 37 = .ok (.iinc 2 1, 3) := by decide +kernel
theorem dX10_drift_40 : decode cX10_drift 40 = .ok (.goto (-25), 3) := by decide +kernel
theorem dX10_drift_43 : decode cX10_drift 43 = .ok (.aload_n 0, 1) := by decide +kernel
theorem dX10_drift_44 : decode cX10_drift 44 = .ok (.getfield 29, 3) := by decide +kernel
theorem dX10_drift_47 : decode cX10_drift 47 = .ok (.aload_n 0, 1) := by decide +kernel
theorem dX10_drift_48 : decode cX10_drift 48 = .ok (.getfield 10, 3) := by decide +kernel
theorem dX10_drift_51 : decode cX10_drift 51 = .ok (.getfield 58, 3) := by decide +kernel
theorem dX10_drift_54 : decode cX10_drift 54 = .ok (.invokevirtual 115, 3) := by decide +kernel
theorem dX10_drift_57 : decode cX10_drift 57 = .ok (.ireturn, 1) := by decide +kernel
set_option maxRecDepth 20000 in
theorem ggX10_undo_X0_goBack : GoodIn wsX10_undo wsX0_goBack := goodIn_r _ [8, 9, 10, 11, 12, 13, 14, 15, 16, 17, 18, 19, 20, 21, 22, 23, 24, 25, 33, 34, 35, 36, 37, 38, 39, 40] (by decide +kernel) (by decide +kernel)
set_option maxRecDepth 20000 in
theorem gX10_undo_X0_goBack : GoodIn wsX10_undo (wsV RX10 145 RX0 yX0_goBack wsX0_goBack) := goodIn_app (goodIn_of _ (by decide +kernel)) ggX10_undo_X0_goBack
theorem dX10_undo_0 : decode cX10_undo 0 = .ok (.aload_n 0, 1) := by decide +kernel
theorem dX10_undo_1 : decode cX10_undo 1 = .ok (.getfield 10, 3) := by decide +kernel
theorem dX10_undo_4 : decode cX10_undo 4 = .ok (.getfield 124, 3) := by decide +kernel
theorem dX10_undo_7 : decode cX10_undo 7 = .ok (.ifCond .ne 6, 3) := by decide +kernel
theorem dX10_undo_10 : decode cX10_undo 10 = .ok (.ldc 123, 2) := by decide +kernel
theorem dX10_undo_12 : decode cX10_undo 12 = .ok (.ireturn, 1) := by decide +kernel
theorem dX10_undo_13 : decode cX10_undo 13 = .ok (.aload_n 0, 1) := by decide +kernel
theorem dX10_undo_14 : decode cX10_undo 14 = .ok (.getfield 10, 3) := by decide +kernel
theorem dX10_undo_17 : decode cX10_undo 17 = .ok (.invokevirtual 145, 3) := by decide +kernel
theorem dX10_undo_20 : decode cX10_undo 20 = .ok (.aload_n 0, 1) := by decide +kernel
theorem dX10_undo_21 : decode cX10_undo 21 = .ok (.getfield 10, 3) := by decide +kernel
theorem dX10_undo_24 : decode cX10_undo 24 = .ok (.getfield 124, 3) := by decide +kernel
theorem dX10_undo_27 : decode cX10_undo 27 = .ok (.ireturn, 1) := by decide +kernel
theorem dX10_seed_0 : decode cX10_seed 0 = .ok (.iload_n 1, 1) := by decide +kernel
theorem dX10_seed_1 : decode cX10_seed 1 = .ok (.ifCond .ge 6, 3) := by decide +kernel
theorem dX10_seed_4 : decode cX10_seed 4 = .ok (.ldc 57, 2) := by decide +kernel
theorem dX10_seed_6 : decode cX10_seed 6 = .ok (.ireturn, 1) := by decide +kernel
theorem dX10_seed_7 : decode cX10_seed 7 = .ok (.aload_n 0, 1) := by decide +kernel
theorem dX10_seed_8 : decode cX10_seed 8 = .ok (.getfield 10, 3) := by decide +kernel
theorem dX10_seed_11 : decode cX10_seed 11 = .ok (.getfield 58, 3) := by decide +kernel
theorem dX10_seed_14 : decode cX10_seed 14 = .ok (.getfield 148, 3) := by decide +kernel
theorem dX10_seed_17 : decode cX10_seed 17 = .ok (.istore_n 2, 1) := by decide +kernel
theorem dX10_seed_18 : decode cX10_seed 18 = .ok (.aload_n 0, 1) := by decide +kernel
theorem dX10_seed_19 : decode cX10_seed 19 = .ok (.getfield 10, 3) := by decide +kernel
theorem dX10_seed_22 : decode cX10_seed 22 = .ok (.getfield 58, 3) := by decide +kernel
theorem dX10_seed_25 : decode cX10_seed 25 = .ok (.iload_n 1, 1) := by decide +kernel
theorem dX10_seed_26 : decode cX10_seed 26 = .ok (.putfield 148, 3) := by decide +kernel
theorem dX10_seed_29 : decode cX10_seed 29 = .ok (.iload_n 2, 1) := by decide +kernel
theorem dX10_seed_30 : decode cX10_seed 30 = .ok (.ireturn, 1) := by decide +kernel
set_option maxRecDepth 20000 in
theorem ggX10_range_X10_isNoVariable : GoodIn wsX10_range wsX10_isNoVariable := goodIn_r _ [9, 10, 11, 8, 12] (by decide +kernel) (by decide +kernel)
set_option maxRecDepth 20000 in
theorem gX10_range_X10_isNoVariable : GoodIn wsX10_range (va_wsS RX10 151 yX10_isNoVariable wsX10_isNoVariable) := goodIn_app (goodIn_of _ (by decide +kernel)) ggX10_range_X10_isNoVariable
set_option maxRecDepth 20000 in
theorem ggX10_range_X10_outside : GoodIn wsX10_range wsX10_outside := goodIn_r _ [12] (by decide +kernel) (by decide +kernel)
set_option maxRecDepth 20000 in
theorem gX10_range_X10_outside : GoodIn wsX10_range (va_wsS RX10 47 yX10_outside wsX10_outside) := goodIn_app (goodIn_of _ (by decide +kernel)) ggX10_range_X10_outside
set_option maxRecDepth 20000 in
theorem ggX10_range_X5_valuesOf : GoodIn wsX10_range wsX5_valuesOf := goodIn_r _ [17, 18, 19, 20, 21, 16, 22, 23, 24, 25, 26, 27, 28, 29, 30, 31, 32, 33, 34, 35, 36, 37, 38, 39, 40, 41, 42, 43, 44, 45, 46, 47, 48, 49, 50, 51, 52, 53, 54, 55, 56, 57, 58, 59, 77, 78, 79, 80, 81, 82, 83, 84, 85] (by decide +kernel) (by decide +kernel)
set_option maxRecDepth 20000 in
theorem gX10_range_X5_valuesOf : GoodIn wsX10_range (wsV RX10 154 RX5 yX5_valuesOf wsX5_valuesOf) := goodIn_app (goodIn_of _ (by decide +kernel)) ggX10_range_X5_valuesOf
set_option maxRecDepth 20000 in
theorem ggX10_range_X2_lowestBit : GoodIn wsX10_range wsX2_lowestBit := goodIn_r _ [63] (by decide +kernel) (by decide +kernel)
set_option maxRecDepth 20000 in
theorem gX10_range_X2_lowestBit : GoodIn wsX10_range (va_wsS RX10 157 yX2_lowestBit wsX2_lowestBit) := goodIn_app (goodIn_of _ (by decide +kernel)) ggX10_range_X2_lowestBit
set_option maxRecDepth 20000 in
theorem ggX10_range_X2_highestBit : GoodIn wsX10_range wsX2_highestBit := goodIn_r _ [66] (by decide +kernel) (by decide +kernel)
set_option maxRecDepth 20000 in
theorem gX10_range_X2_highestBit : GoodIn wsX10_range (va_wsS RX10 162 yX2_highestBit wsX2_highestBit) := goodIn_app (goodIn_of _ (by decide +kernel)) ggX10_range_X2_highestBit
theorem dX10_range_0 : decode cX10_range 0 = .ok (.iload_n 1, 1) := by decide +kernel
theorem dX10_range_1 : decode cX10_range 1 = .ok (.invokestatic 151, 3) := by decide +kernel
theorem dX10_range_4 : decode cX10_range 4 = .ok (.ifCond .ne 12, 3) := by decide +kernel
theorem dX10_range_7 : decode cX10_range 7 = .ok (.iload_n 2, 1) := by decide +kernel
theorem dX10_range_8 : decode cX10_range 8 = .ok (.iconst 0, 1) := by decide +kernel
theorem dX10_range_9 : decode cX10_range 9 = .ok (.iconst 2, 1) := by decide +kernel
theorem dX10_range_10 : decode cX10_range 10 = .ok (.invokestatic 47, 3) := by decide +kernel
theorem dX10_range_13 : decode cX10_range 13 = .ok (.ifCond .eq 6, 3) := by decide +kernel
theorem dX10_range_16 : decode cX10_range 16 = .ok (.ldc 57, 2) := by decide +kernel
theorem dX10_range_18 : decode cX10_range 18 = .ok (.ireturn, 1) := by decide +kernel
theorem dX10_range_19 : decode cX10_range 19 = .ok (.aload_n 0, 1) := by decide +kernel
theorem dX10_range_20 : decode cX10_range 20 = .ok (.getfield 29, 3) := by decide +kernel
theorem dX10_range_23 : decode cX10_range 23 = .ok (.aload_n 0, 1) := by decide +kernel
theorem dX10_range_24 : decode cX10_range 24 = .ok (.getfield 10, 3) := by decide +kernel
theorem dX10_range_27 : decode cX10_range 27 = .ok (.getfield 58, 3) := by decide +kernel
theorem dX10_range_30 : decode cX10_range 30 = .ok (.iload_n 1, 1) := by decide +kernel
theorem dX10_range_31 : decode cX10_range 31 = .ok (.invokevirtual 154, 3) := by decide +kernel
theorem dX10_range_34 : decode cX10_range 34 = .ok (.istore_n 3, 1) := by decide +kernel
theorem dX10_range_35 : decode cX10_range 35 = .ok (.iload_n 2, 1) := by decide +kernel
theorem dX10_range_36 : decode cX10_range 36 = .ok (.iconst 2, 1) := by decide +kernel
theorem dX10_range_37 : decode cX10_range 37 = .ok (.if_icmp .ne 5, 3) := by decide +kernel
theorem dX10_range_40 : decode cX10_range 40 = .ok (.iload_n 3, 1) := by decide +kernel
theorem dX10_range_41 : decode cX10_range 41 = .ok (.ireturn, 1) := by decide +kernel
theorem dX10_range_42 : decode cX10_range 42 = .ok (.iload_n 3, 1) := by decide +kernel
theorem dX10_range_43 : decode cX10_range 43 = .ok (.ifCond .ne 6, 3) := by decide +kernel
theorem dX10_range_46 : decode cX10_range 46 = .ok (.ldc 123, 2) := by decide +kernel
theorem dX10_range_48 : decode cX10_range 48 = .ok (.ireturn, 1) := by decide +kernel
theorem dX10_range_49 : decode cX10_range 49 = .ok (.iload_n 2, 1) := by decide +kernel
theorem dX10_range_50 : decode cX10_range 50 = .ok (.ifCond .ne 10, 3) := by decide +kernel
theorem dX10_range_53 : decode cX10_range 53 = .ok (.iload_n 3, 1) := by decide +kernel
theorem dX10_range_54 : decode cX10_range 54 = .ok (.invokestatic 157, 3) := by decide +kernel
theorem dX10_range_57 : decode cX10_range 57 = .ok (.goto 7, 3) := by decide +kernel
theorem dX10_range_60 : decode cX10_range 60 = .ok (.iload_n 3, 1) := by decide +kernel
theorem dX10_range_61 : decode cX10_range 61 = .ok (.invokestatic 162, 3) := by decide +kernel
theorem dX10_range_64 : decode cX10_range 64 = .ok (.ireturn, 1) := by decide +kernel
set_option maxRecDepth 20000 in
theorem ggX10_apart_X10_isNoVariable : GoodIn wsX10_apart wsX10_isNoVariable := goodIn_r _ [9, 10, 11, 8, 12] (by decide +kernel) (by decide +kernel)
set_option maxRecDepth 20000 in
theorem gX10_apart_X10_isNoVariable : GoodIn wsX10_apart (va_wsS RX10 151 yX10_isNoVariable wsX10_isNoVariable) := goodIn_app (goodIn_of _ (by decide +kernel)) ggX10_apart_X10_isNoVariable
set_option maxRecDepth 20000 in
theorem ggX10_apart_X10_outside : GoodIn wsX10_apart wsX10_outside := goodIn_r _ [12] (by decide +kernel) (by decide +kernel)
set_option maxRecDepth 20000 in
theorem gX10_apart_X10_outside : GoodIn wsX10_apart (va_wsS RX10 47 yX10_outside wsX10_outside) := goodIn_app (goodIn_of _ (by decide +kernel)) ggX10_apart_X10_outside
set_option maxRecDepth 20000 in
theorem ggX10_apart_X5_gapsOf : GoodIn wsX10_apart wsX5_gapsOf := goodIn_r _ [17, 18, 19, 20, 21, 16, 22, 23, 24, 25, 26, 27, 28, 29, 30, 31, 32, 33, 34, 35, 36, 37, 38, 39, 40, 41, 42, 43, 44, 45, 46, 47, 48, 49, 50, 51, 52, 53, 54, 55, 56, 57, 58, 59, 84, 85, 86, 87, 88, 89, 90, 91, 92] (by decide +kernel) (by decide +kernel)
set_option maxRecDepth 20000 in
theorem gX10_apart_X5_gapsOf : GoodIn wsX10_apart (wsV RX10 165 RX5 yX5_gapsOf wsX5_gapsOf) := goodIn_app (goodIn_of _ (by decide +kernel)) ggX10_apart_X5_gapsOf
set_option maxRecDepth 20000 in
theorem ggX10_apart_J6_bitCount_0f7a4 : GoodIn wsX10_apart wsJ6_bitCount_0f7a4 := goodIn_r _ [63, 64, 65, 66] (by decide +kernel) (by decide +kernel)
set_option maxRecDepth 20000 in
theorem gX10_apart_J6_bitCount_0f7a4 : GoodIn wsX10_apart (va_wsS RX10 169 yJ6_bitCount_0f7a4 wsJ6_bitCount_0f7a4) := goodIn_app (goodIn_of _ (by decide +kernel)) ggX10_apart_J6_bitCount_0f7a4
set_option maxRecDepth 20000 in
theorem ggX10_apart_X2_lowestBit : GoodIn wsX10_apart wsX2_lowestBit := goodIn_r _ [70] (by decide +kernel) (by decide +kernel)
set_option maxRecDepth 20000 in
theorem gX10_apart_X2_lowestBit : GoodIn wsX10_apart (va_wsS RX10 157 yX2_lowestBit wsX2_lowestBit) := goodIn_app (goodIn_of _ (by decide +kernel)) ggX10_apart_X2_lowestBit
set_option maxRecDepth 20000 in
theorem ggX10_apart_X2_highestBit : GoodIn wsX10_apart wsX2_highestBit := goodIn_r _ [73] (by decide +kernel) (by decide +kernel)
set_option maxRecDepth 20000 in
theorem gX10_apart_X2_highestBit : GoodIn wsX10_apart (va_wsS RX10 162 yX2_highestBit wsX2_highestBit) := goodIn_app (goodIn_of _ (by decide +kernel)) ggX10_apart_X2_highestBit
theorem dX10_apart_0 : decode cX10_apart 0 = .ok (.iload_n 1, 1) := by decide +kernel
theorem dX10_apart_1 : decode cX10_apart 1 = .ok (.invokestatic 151, 3) := by decide +kernel
theorem dX10_apart_4 : decode cX10_apart 4 = .ok (.ifCond .ne 24, 3) := by decide +kernel
theorem dX10_apart_7 : decode cX10_apart 7 = .ok (.iload_n 2, 1) := by decide +kernel
theorem dX10_apart_8 : decode cX10_apart 8 = .ok (.invokestatic 151, 3) := by decide +kernel
theorem dX10_apart_11 : decode cX10_apart 11 = .ok (.ifCond .ne 17, 3) := by decide +kernel
theorem dX10_apart_14 : decode cX10_apart 14 = .ok (.iload_n 1, 1) := by decide +kernel
theorem dX10_apart_15 : decode cX10_apart 15 = .ok (.iload_n 2, 1) := by decide +kernel
theorem dX10_apart_16 : decode cX10_apart 16 = .ok (.if_icmp .eq 12, 3) := by decide +kernel
theorem dX10_apart_19 : decode cX10_apart 19 = .ok (.iload_n 3, 1) := by decide +kernel
theorem dX10_apart_20 : decode cX10_apart 20 = .ok (.iconst 0, 1) := by decide +kernel
theorem dX10_apart_21 : decode cX10_apart 21 = .ok (.iconst 2, 1) := by decide +kernel
theorem dX10_apart_22 : decode cX10_apart 22 = .ok (.invokestatic 47, 3) := by decide +kernel
theorem dX10_apart_25 : decode cX10_apart 25 = .ok (.ifCond .eq 6, 3) := by decide +kernel
theorem dX10_apart_28 : decode cX10_apart 28 = .ok (.ldc 57, 2) := by decide +kernel
theorem dX10_apart_30 : decode cX10_apart 30 = .ok (.ireturn, 1) := by decide +kernel
theorem dX10_apart_31 : decode cX10_apart 31 = .ok (.aload_n 0, 1) := by decide +kernel
theorem dX10_apart_32 : decode cX10_apart 32 = .ok (.getfield 29, 3) := by decide +kernel
theorem dX10_apart_35 : decode cX10_apart 35 = .ok (.aload_n 0, 1) := by decide +kernel
theorem dX10_apart_36 : decode cX10_apart 36 = .ok (.getfield 10, 3) := by decide +kernel
theorem dX10_apart_39 : decode cX10_apart 39 = .ok (.getfield 58, 3) := by decide +kernel
theorem dX10_apart_42 : decode cX10_apart 42 = .ok (.iload_n 1, 1) := by decide +kernel
theorem dX10_apart_43 : decode cX10_apart 43 = .ok (.iload_n 2, 1) := by decide +kernel
theorem dX10_apart_44 : decode cX10_apart 44 = .ok (.invokevirtual 165, 3) := by decide +kernel
theorem dX10_apart_47 : decode cX10_apart 47 = .ok (.istore 4, 2) := by decide +kernel
theorem dX10_apart_49 : decode cX10_apart 49 = .ok (.iload_n 3, 1) := by decide +kernel
theorem dX10_apart_50 : decode cX10_apart 50 = .ok (.iconst 2, 1) := by decide +kernel
theorem dX10_apart_51 : decode cX10_apart 51 = .ok (.if_icmp .ne 9, 3) := by decide +kernel
theorem dX10_apart_54 : decode cX10_apart 54 = .ok (.iload 4, 2) := by decide +kernel
theorem dX10_apart_56 : decode cX10_apart 56 = .ok (.invokestatic 169, 3) := by decide +kernel
theorem dX10_apart_59 : decode cX10_apart 59 = .ok (.ireturn, 1) := by decide +kernel
theorem dX10_apart_60 : decode cX10_apart 60 = .ok (.iload 4, 2) := by decide +kernel
theorem dX10_apart_62 : decode cX10_apart 62 = .ok (.ifCond .ne 6, 3) := by decide +kernel
theorem dX10_apart_65 : decode cX10_apart 65 = .ok (.ldc 123, 2) := by decide +kernel
theorem dX10_apart_67 : decode cX10_apart 67 = .ok (.ireturn, 1) := by decide +kernel
theorem dX10_apart_68 : decode cX10_apart 68 = .ok (.iload_n 3, 1) := by decide +kernel
theorem dX10_apart_69 : decode cX10_apart 69 = .ok (.ifCond .ne 11, 3) := by decide +kernel
theorem dX10_apart_72 : decode cX10_apart 72 = .ok (.iload 4, 2) := by decide +kernel
theorem dX10_apart_74 : decode cX10_apart 74 = .ok (.invokestatic 157, 3) := by decide +kernel
theorem dX10_apart_77 : decode cX10_apart 77 = .ok (.goto 8, 3) := by decide +kernel
theorem dX10_apart_80 : decode cX10_apart 80 = .ok (.iload 4, 2) := by decide +kernel
theorem dX10_apart_82 : decode cX10_apart 82 = .ok (.invokestatic 162, 3) := by decide +kernel
theorem dX10_apart_85 : decode cX10_apart 85 = .ok (.bipush 7, 2) := by decide +kernel
theorem dX10_apart_87 : decode cX10_apart 87 = .ok (.isub, 1) := by decide +kernel
theorem dX10_apart_88 : decode cX10_apart 88 = .ok (.ireturn, 1) := by decide +kernel
set_option maxRecDepth 20000 in
theorem ggX10_row_X10_isNoVariable : GoodIn wsX10_row wsX10_isNoVariable := goodIn_r _ [9, 10, 11, 8, 12] (by decide +kernel) (by decide +kernel)
set_option maxRecDepth 20000 in
theorem gX10_row_X10_isNoVariable : GoodIn wsX10_row (va_wsS RX10 151 yX10_isNoVariable wsX10_isNoVariable) := goodIn_app (goodIn_of _ (by decide +kernel)) ggX10_row_X10_isNoVariable
set_option maxRecDepth 20000 in
theorem ggX10_row_X10_outside : GoodIn wsX10_row wsX10_outside := goodIn_r _ [12] (by decide +kernel) (by decide +kernel)
set_option maxRecDepth 20000 in
theorem gX10_row_X10_outside : GoodIn wsX10_row (va_wsS RX10 47 yX10_outside wsX10_outside) := goodIn_app (goodIn_of _ (by decide +kernel)) ggX10_row_X10_outside
set_option maxRecDepth 20000 in
theorem ggX10_row_X6_shadowOf : GoodIn wsX10_row wsX6_shadowOf := goodIn_r _ [17, 18, 19, 20, 21, 22, 16, 23, 24, 25, 26, 27, 28, 29, 30, 31, 32, 33, 34, 35, 36, 37, 38, 39, 40, 41, 42, 43, 44, 45, 46, 47, 48, 49, 50, 51, 52, 53, 54, 55, 56, 57, 58, 59, 60, 61, 62, 63, 64, 65, 66, 67, 68, 69, 70, 71, 72, 73, 74, 75, 76, 77, 78, 92, 93, 94, 90, 91, 95, 96, 97, 98, 99] (by decide +kernel) (by decide +kernel)
set_option maxRecDepth 20000 in
theorem gX10_row_X6_shadowOf : GoodIn wsX10_row (wsV RX10 174 RX6 yX6_shadowOf wsX6_shadowOf) := goodIn_app (goodIn_of _ (by decide +kernel)) ggX10_row_X6_shadowOf
set_option maxRecDepth 20000 in
theorem ggX10_row_X4_cell : GoodIn wsX10_row wsX4_cell := goodIn_r _ [53, 39, 90, 91] (by decide +kernel) (by decide +kernel)
set_option maxRecDepth 20000 in
theorem gX10_row_X4_cell : GoodIn wsX10_row (wsV RX10 181 RX4 yX4_cell wsX4_cell) := goodIn_app (goodIn_of _ (by decide +kernel)) ggX10_row_X4_cell
theorem dX10_row_0 : decode cX10_row 0 = .ok (.iload_n 1, 1) := by decide +kernel
theorem dX10_row_1 : decode cX10_row 1 = .ok (.invokestatic 151, 3) := by decide +kernel
theorem dX10_row_4 : decode cX10_row 4 = .ok (.ifCond .ne 27, 3) := by decide +kernel
theorem dX10_row_7 : decode cX10_row 7 = .ok (.iload_n 2, 1) := by decide +kernel
theorem dX10_row_8 : decode cX10_row 8 = .ok (.iconst 0, 1) := by decide +kernel
theorem dX10_row_9 : decode cX10_row 9 = .ok (.iconst 1, 1) := by decide +kernel
theorem dX10_row_10 : decode cX10_row 10 = .ok (.invokestatic 47, 3) := by decide +kernel
theorem dX10_row_13 : decode cX10_row 13 = .ok (.ifCond .ne 18, 3) := by decide +kernel
theorem dX10_row_16 : decode cX10_row 16 = .ok (.iload_n 3, 1) := by decide +kernel
theorem dX10_row_17 : decode cX10_row 17 = .ok (.iconst (-1), 1) := by decide +kernel
theorem dX10_row_18 : decode cX10_row 18 = .ok (.if_icmp .lt 13, 3) := by decide +kernel
theorem dX10_row_21 : decode cX10_row 21 = .ok (.iload 4, 2) := by decide +kernel
theorem dX10_row_23 : decode cX10_row 23 = .ok (.iconst 0, 1) := by decide +kernel
theorem dX10_row_24 : decode cX10_row 24 = .ok (.iconst 4, 1) := by decide +kernel
theorem dX10_row_25 : decode cX10_row 25 = .ok (.invokestatic 47, 3) := by decide +kernel
theorem dX10_row_28 : decode cX10_row 28 = .ok (.ifCond .eq 6, 3) := by decide +kernel
theorem dX10_row_31 : decode cX10_row 31 = .ok (.ldc 57, 2) := by decide +kernel
theorem dX10_row_33 : decode cX10_row 33 = .ok (.ireturn, 1) := by decide +kernel
theorem dX10_row_34 : decode cX10_row 34 = .ok (.aload_n 0, 1) := by decide +kernel
theorem dX10_row_35 : decode cX10_row 35 = .ok (.getfield 36, 3) := by decide +kernel
theorem dX10_row_38 : decode cX10_row 38 = .ok (.aload_n 0, 1) := by decide +kernel
theorem dX10_row_39 : decode cX10_row 39 = .ok (.getfield 10, 3) := by decide +kernel
theorem dX10_row_42 : decode cX10_row 42 = .ok (.getfield 58, 3) := by decide +kernel
theorem dX10_row_45 : decode cX10_row 45 = .ok (.iload_n 1, 1) := by decide +kernel
theorem dX10_row_46 : decode cX10_row 46 = .ok (.iload_n 2, 1) := by decide +kernel
theorem dX10_row_47 : decode cX10_row 47 = .ok (.iconst 1, 1) := by decide +kernel
theorem dX10_row_48 : decode cX10_row 48 = .ok (.if_icmp .ne 7, 3) := by decide +kernel
theorem dX10_row_51 : decode cX10_row 51 = .ok (.iconst 1, 1) := by decide +kernel
theorem dX10_row_52 : decode cX10_row 52 = .ok (.goto 4, 3) := by decide +kernel
theorem dX10_row_55 : decode cX10_row 55 = .ok (.iconst 0, 1) := by decide +kernel
theorem dX10_row_56 : decode cX10_row 56 = .ok (.invokevirtual 174, 3) := by decide +kernel
theorem dX10_row_59 : decode cX10_row 59 = .ok (.astore 5, 2) := by decide +kernel
theorem dX10_row_61 : decode cX10_row 61 = .ok (.iload_n 3, 1) := by decide +kernel
theorem dX10_row_62 : decode cX10_row 62 = .ok (.iconst (-1), 1) := by decide +kernel
theorem dX10_row_63 : decode cX10_row 63 = .ok (.if_icmp .ne 9, 3) := by decide +kernel
theorem dX10_row_66 : decode cX10_row 66 = .ok (.aload 5, 2) := by decide +kernel
theorem dX10_row_68 : decode cX10_row 68 = .ok (.getfield 178, 3) := by decide +kernel
theorem dX10_row_71 : decode cX10_row 71 = .ok (.ireturn, 1) := by decide +kernel
theorem dX10_row_72 : decode cX10_row 72 = .ok (.iload_n 3, 1) := by decide +kernel
theorem dX10_row_73 : decode cX10_row 73 = .ok (.aload 5, 2) := by decide +kernel
theorem dX10_row_75 : decode cX10_row 75 = .ok (.getfield 178, 3) := by decide +kernel
theorem dX10_row_78 : decode cX10_row 78 = .ok (.if_icmp .ge 14, 3) := by decide +kernel
theorem dX10_row_81 : decode cX10_row 81 = .ok (.aload 5, 2) := by decide +kernel
theorem dX10_row_83 : decode cX10_row 83 = .ok (.iload_n 3, 1) := by decide +kernel
theorem dX10_row_84 : decode cX10_row 84 = .ok (.iload 4, 2) := by decide +kernel
theorem dX10_row_86 : decode cX10_row 86 = .ok (.invokevirtual 181, 3) := by decide +kernel
theorem dX10_row_89 : decode cX10_row 89 = .ok (.goto 5, 3) := by decide +kernel
theorem dX10_row_92 : decode cX10_row 92 = .ok (.ldc 57, 2) := by decide +kernel
theorem dX10_row_94 : decode cX10_row 94 = .ok (.ireturn, 1) := by decide +kernel
set_option maxRecDepth 20000 in
theorem ggX10_deep_X10_isNoVariable : GoodIn wsX10_deep wsX10_isNoVariable := goodIn_r _ [8, 9, 10, 7, 11] (by decide +kernel) (by decide +kernel)
set_option maxRecDepth 20000 in
theorem gX10_deep_X10_isNoVariable : GoodIn wsX10_deep (va_wsS RX10 151 yX10_isNoVariable wsX10_isNoVariable) := goodIn_app (goodIn_of _ (by decide +kernel)) ggX10_deep_X10_isNoVariable
set_option maxRecDepth 20000 in
theorem ggX10_deep_X10_outside : GoodIn wsX10_deep wsX10_outside := goodIn_r _ [11] (by decide +kernel) (by decide +kernel)
set_option maxRecDepth 20000 in
theorem gX10_deep_X10_outside : GoodIn wsX10_deep (va_wsS RX10 47 yX10_outside wsX10_outside) := goodIn_app (goodIn_of _ (by decide +kernel)) ggX10_deep_X10_outside
set_option maxRecDepth 20000 in
theorem ggX10_deep_X6_depth : GoodIn wsX10_deep wsX6_depth := goodIn_r _ [16, 17, 18, 19, 20, 21, 15, 22, 23, 24, 25, 26, 27, 28, 29, 30, 31, 32, 33, 34, 35, 36, 37, 38, 39, 40, 41, 42, 43, 44, 45, 46, 47, 48, 49, 50, 51, 52, 53, 54, 55, 56, 57, 58, 59, 60, 61, 62, 63, 64, 65, 66, 67, 68, 69, 70, 71, 72, 73, 74, 75, 76, 77, 78, 79, 80, 81, 82, 83, 84, 85, 86, 87, 88, 89, 90, 91, 92, 93, 94, 95, 96, 97, 98, 99, 100, 101, 102, 103, 104, 105, 106, 107, 118, 119, 120, 121, 122, 123, 124, 125, 126, 127] (by decide +kernel) (by decide +kernel)
set_option maxRecDepth 20000 in
theorem gX10_deep_X6_depth : GoodIn wsX10_deep (wsV RX10 182 RX6 yX6_depth wsX6_depth) := goodIn_app (goodIn_of _ (by decide +kernel)) ggX10_deep_X6_depth
theorem dX10_deep_0 : decode cX10_deep 0 = .ok (.iload_n 1, 1) := by decide +kernel
theorem dX10_deep_1 : decode cX10_deep 1 = .ok (.invokestatic 151, 3) := by decide +kernel
theorem dX10_deep_4 : decode cX10_deep 4 = .ok (.ifCond .ne 12, 3) := by decide +kernel
theorem dX10_deep_7 : decode cX10_deep 7 = .ok (.iload_n 2, 1) := by decide +kernel
theorem dX10_deep_8 : decode cX10_deep 8 = .ok (.iconst 0, 1) := by decide +kernel
theorem dX10_deep_9 : decode cX10_deep 9 = .ok (.iconst 4, 1) := by decide +kernel
theorem dX10_deep_10 : decode cX10_deep 10 = .ok (.invokestatic 47, 3) := by decide +kernel
theorem dX10_deep_13 : decode cX10_deep 13 = .ok (.ifCond .eq 6, 3) := by decide +kernel
theorem dX10_deep_16 : decode cX10_deep 16 = .ok (.ldc 57, 2) := by decide +kernel
theorem dX10_deep_18 : decode cX10_deep 18 = .ok (.ireturn, 1) := by decide +kernel
theorem dX10_deep_19 : decode cX10_deep 19 = .ok (.aload_n 0, 1) := by decide +kernel
theorem dX10_deep_20 : decode cX10_deep 20 = .ok (.getfield 36, 3) := by decide +kernel
theorem dX10_deep_23 : decode cX10_deep 23 = .ok (.aload_n 0, 1) := by decide +kernel
theorem dX10_deep_24 : decode cX10_deep 24 = .ok (.getfield 10, 3) := by decide +kernel
theorem dX10_deep_27 : decode cX10_deep 27 = .ok (.getfield 58, 3) := by decide +kernel
theorem dX10_deep_30 : decode cX10_deep 30 = .ok (.iload_n 1, 1) := by decide +kernel
theorem dX10_deep_31 : decode cX10_deep 31 = .ok (.iload_n 2, 1) := by decide +kernel
theorem dX10_deep_32 : decode cX10_deep 32 = .ok (.invokevirtual 182, 3) := by decide +kernel
theorem dX10_deep_35 : decode cX10_deep 35 = .ok (.ireturn, 1) := by decide +kernel
set_option maxRecDepth 20000 in
theorem ggX10_spare_X10_outside : GoodIn wsX10_spare wsX10_outside := goodIn_r _ [11] (by decide +kernel) (by decide +kernel)
set_option maxRecDepth 20000 in
theorem gX10_spare_X10_outside : GoodIn wsX10_spare (va_wsS RX10 47 yX10_outside wsX10_outside) := goodIn_app (goodIn_of _ (by decide +kernel)) ggX10_spare_X10_outside
set_option maxRecDepth 20000 in
theorem ggX10_spare_X5_bestSpare : GoodIn wsX10_spare wsX5_bestSpare := goodIn_r _ [16, 17, 18, 19, 20, 21, 22, 15, 23, 24, 25, 26, 27, 28, 29, 30, 31, 32, 33, 34, 35, 36, 37, 38, 39, 40, 41, 42, 43, 44, 45, 46, 47, 48, 49, 50, 51, 52, 53, 54, 55, 56, 57, 58, 69, 70, 71, 72, 73, 74, 75, 76, 77] (by decide +kernel) (by decide +kernel)
set_option maxRecDepth 20000 in
theorem gX10_spare_X5_bestSpare : GoodIn wsX10_spare (wsV RX10 185 RX5 yX5_bestSpare wsX5_bestSpare) := goodIn_app (goodIn_of _ (by decide +kernel)) ggX10_spare_X5_bestSpare
theorem dX10_spare_0 : decode cX10_spare 0 = .ok (.iload_n 1, 1) := by decide +kernel
theorem dX10_spare_1 : decode cX10_spare 1 = .ok (.iconst 0, 1) := by decide +kernel
theorem dX10_spare_2 : decode cX10_spare 2 = .ok (.iconst 1, 1) := by decide +kernel
theorem dX10_spare_3 : decode cX10_spare 3 = .ok (.invokestatic 47, 3) := by decide +kernel
theorem dX10_spare_6 : decode cX10_spare 6 = .ok (.ifCond .eq 6, 3) := by decide +kernel
theorem dX10_spare_9 : decode cX10_spare 9 = .ok (.ldc 57, 2) := by decide +kernel
theorem dX10_spare_11 : decode cX10_spare 11 = .ok (.ireturn, 1) := by decide +kernel
theorem dX10_spare_12 : decode cX10_spare 12 = .ok (.aload_n 0, 1) := by decide +kernel
theorem dX10_spare_13 : decode cX10_spare 13 = .ok (.getfield 10, 3) := by decide +kernel
theorem dX10_spare_16 : decode cX10_spare 16 = .ok (.getfield 58, 3) := by decide +kernel
theorem dX10_spare_19 : decode cX10_spare 19 = .ok (.getfield 62, 3) := by decide +kernel
theorem dX10_spare_22 : decode cX10_spare 22 = .ok (.ifCond .ne 6, 3) := by decide +kernel
theorem dX10_spare_25 : decode cX10_spare 25 = .ok (.ldc 123, 2) := by decide +kernel
theorem dX10_spare_27 : decode cX10_spare 27 = .ok (.ireturn, 1) := by decide +kernel
theorem dX10_spare_28 : decode cX10_spare 28 = .ok (.aload_n 0, 1) := by decide +kernel
theorem dX10_spare_29 : decode cX10_spare 29 = .ok (.getfield 29, 3) := by decide +kernel
theorem dX10_spare_32 : decode cX10_spare 32 = .ok (.aload_n 0, 1) := by decide +kernel
theorem dX10_spare_33 : decode cX10_spare 33 = .ok (.getfield 10, 3) := by decide +kernel
theorem dX10_spare_36 : decode cX10_spare 36 = .ok (.getfield 58, 3) := by decide +kernel
theorem dX10_spare_39 : decode cX10_spare 39 = .ok (.invokevirtual 185, 3) := by decide +kernel
theorem dX10_spare_42 : decode cX10_spare 42 = .ok (.istore_n 2, 1) := by decide +kernel
theorem dX10_spare_43 : decode cX10_spare 43 = .ok (.iload_n 1, 1) := by decide +kernel
theorem dX10_spare_44 : decode cX10_spare 44 = .ok (.ifCond .ne 7, 3) := by decide +kernel
theorem dX10_spare_47 : decode cX10_spare 47 = .ok (.iload_n 2, 1) := by decide +kernel
theorem dX10_spare_48 : decode cX10_spare 48 = .ok (.goto 12, 3) := by decide +kernel
theorem dX10_spare_51 : decode cX10_spare 51 = .ok (.aload_n 0, 1) := by decide +kernel
theorem dX10_spare_52 : decode cX10_spare 52 = .ok (.getfield 29, 3) := by decide +kernel
theorem dX10_spare_55 : decode cX10_spare 55 = .ok (.getfield 188, 3) := by decide +kernel
theorem dX10_spare_58 : decode cX10_spare 58 = .ok (.iload_n 2, 1) := by decide +kernel
theorem dX10_spare_59 : decode cX10_spare 59 = .ok (.iaload, 1) := by decide +kernel
theorem dX10_spare_60 : decode cX10_spare 60 = .ok (.ireturn, 1) := by decide +kernel
set_option maxRecDepth 20000 in
theorem ggX10_stretch_X10_isNoConstraint : GoodIn wsX10_stretch wsX10_isNoConstraint := goodIn_r _ [14, 3, 4, 15, 16, 17, 13, 18, 78, 79, 80, 81, 82, 83, 84, 85, 86, 87, 88, 89, 90, 91, 92] (by decide +kernel) (by decide +kernel)
set_option maxRecDepth 20000 in
theorem gX10_stretch_X10_isNoConstraint : GoodIn wsX10_stretch (wsV RX10 74 RX10 yX10_isNoConstraint wsX10_isNoConstraint) := goodIn_app (goodIn_of _ (by decide +kernel)) ggX10_stretch_X10_isNoConstraint
set_option maxRecDepth 20000 in
theorem ggX10_stretch_X5_leastStretch : GoodIn wsX10_stretch wsX5_leastStretch := goodIn_r _ [23, 24, 25, 26, 27, 22, 28, 29, 30, 31, 32, 33, 34, 35, 36, 37, 38, 39, 40, 41, 42, 43, 44, 45, 46, 47, 48, 49, 50, 51, 52, 53, 54, 55, 56, 57, 58, 59, 60, 61, 62, 63, 64, 65, 66, 67, 68, 69, 7, 70, 71, 72, 73, 74, 75, 76, 77, 6, 8, 93, 94, 95, 96, 88, 89, 90, 91, 92] (by decide +kernel) (by decide +kernel)
set_option maxRecDepth 20000 in
theorem gX10_stretch_X5_leastStretch : GoodIn wsX10_stretch (wsV RX10 192 RX5 yX5_leastStretch wsX5_leastStretch) := goodIn_app (goodIn_of _ (by decide +kernel)) ggX10_stretch_X5_leastStretch
theorem dX10_stretch_0 : decode cX10_stretch 0 = .ok (.aload_n 0, 1) := by decide +kernel
theorem dX10_stretch_1 : decode cX10_stretch 1 = .ok (.iload_n 1, 1) := by decide +kernel
theorem dX10_stretch_2 : decode cX10_stretch 2 = .ok (.invokevirtual 74, 3) := by decide +kernel
theorem dX10_stretch_5 : decode cX10_stretch 5 = .ok (.ifCond .eq 6, 3) := by decide +kernel
theorem dX10_stretch_8 : decode cX10_stretch 8 = .ok (.ldc 57, 2) := by decide +kernel
theorem dX10_stretch_10 : decode cX10_stretch 10 = .ok (.ireturn, 1) := by decide +kernel
theorem dX10_stretch_11 : decode cX10_stretch 11 = .ok (.aload_n 0, 1) := by decide +kernel
theorem dX10_stretch_12 : decode cX10_stretch 12 = .ok (.getfield 29, 3) := by decide +kernel
theorem dX10_stretch_15 : decode cX10_stretch 15 = .ok (.aload_n 0, 1) := by decide +kernel
theorem dX10_stretch_16 : decode cX10_stretch 16 = .ok (.getfield 10, 3) := by decide +kernel
theorem dX10_stretch_19 : decode cX10_stretch 19 = .ok (.getfield 58, 3) := by decide +kernel
theorem dX10_stretch_22 : decode cX10_stretch 22 = .ok (.iload_n 1, 1) := by decide +kernel
theorem dX10_stretch_23 : decode cX10_stretch 23 = .ok (.invokevirtual 192, 3) := by decide +kernel
theorem dX10_stretch_26 : decode cX10_stretch 26 = .ok (.istore_n 2, 1) := by decide +kernel
theorem dX10_stretch_27 : decode cX10_stretch 27 = .ok (.iload_n 2, 1) := by decide +kernel
theorem dX10_stretch_28 : decode cX10_stretch 28 = .ok (.invokestatic 195, 3) := by decide +kernel
theorem dX10_stretch_31 : decode cX10_stretch 31 = .ok (.bipush 99, 2) := by decide +kernel
theorem dX10_stretch_33 : decode cX10_stretch 33 = .ok (.if_icmp .le 8, 3) := by decide +kernel
theorem dX10_stretch_36 : decode cX10_stretch 36 = .ok (.ldc 123, 2) := by decide +kernel
theorem dX10_stretch_38 : decode cX10_stretch 38 = .ok (.goto 4, 3) := by decide +kernel
theorem dX10_stretch_41 : decode cX10_stretch 41 = .ok (.iload_n 2, 1) := by decide +kernel
theorem dX10_stretch_42 : decode cX10_stretch 42 = .ok (.ireturn, 1) := by decide +kernel
set_option maxRecDepth 20000 in
theorem ggX10_core_X5_leastCore : GoodIn wsX10_core wsX5_leastCore := goodIn_r _ [9, 10, 11, 12, 13, 14, 8, 15, 16, 17, 18, 19, 20, 21, 22, 23, 24, 25, 26, 27, 28, 29, 30, 31, 32, 33, 34, 35, 36, 37, 38, 39, 40, 41, 42, 43, 44, 45, 46, 47, 48, 49, 50, 51, 52, 53, 54, 55, 56, 57, 58, 59, 60, 61, 62, 63, 64, 65, 66, 77, 78, 79, 80, 81, 82, 83, 84, 85] (by decide +kernel) (by decide +kernel)
set_option maxRecDepth 20000 in
theorem gX10_core_X5_leastCore : GoodIn wsX10_core (wsV RX10 200 RX5 yX5_leastCore wsX5_leastCore) := goodIn_app (goodIn_of _ (by decide +kernel)) ggX10_core_X5_leastCore
theorem dX10_core_0 : decode cX10_core 0 = .ok (.aload_n 0, 1) := by decide +kernel
theorem dX10_core_1 : decode cX10_core 1 = .ok (.getfield 29, 3) := by decide +kernel
theorem dX10_core_4 : decode cX10_core 4 = .ok (.aload_n 0, 1) := by decide +kernel
theorem dX10_core_5 : decode cX10_core 5 = .ok (.getfield 10, 3) := by decide +kernel
theorem dX10_core_8 : decode cX10_core 8 = .ok (.getfield 58, 3) := by decide +kernel
theorem dX10_core_11 : decode cX10_core 11 = .ok (.invokevirtual 200, 3) := by decide +kernel
theorem dX10_core_14 : decode cX10_core 14 = .ok (.istore_n 1, 1) := by decide +kernel
theorem dX10_core_15 : decode cX10_core 15 = .ok (.iload_n 1, 1) := by decide +kernel
theorem dX10_core_16 : decode cX10_core 16 = .ok (.ifCond .ne 8, 3) := by decide +kernel
theorem dX10_core_19 : decode cX10_core 19 = .ok (.ldc 123, 2) := by decide +kernel
theorem dX10_core_21 : decode cX10_core 21 = .ok (.goto 4, 3) := by decide +kernel
theorem dX10_core_24 : decode cX10_core 24 = .ok (.iload_n 1, 1) := by decide +kernel
theorem dX10_core_25 : decode cX10_core 25 = .ok (.ireturn, 1) := by decide +kernel
set_option maxRecDepth 20000 in
theorem ggX10_asked_X10_outside : GoodIn wsX10_asked wsX10_outside := goodIn_r _ [12] (by decide +kernel) (by decide +kernel)
set_option maxRecDepth 20000 in
theorem gX10_asked_X10_outside : GoodIn wsX10_asked (va_wsS RX10 47 yX10_outside wsX10_outside) := goodIn_app (goodIn_of _ (by decide +kernel)) ggX10_asked_X10_outside
set_option maxRecDepth 20000 in
theorem ggX10_asked_X9_isInBox : GoodIn wsX10_asked wsX9_isInBox := goodIn_r _ [17, 18, 19, 20, 21, 22, 68, 69, 70, 71, 72] (by decide +kernel) (by decide +kernel)
set_option maxRecDepth 20000 in
theorem gX10_asked_X9_isInBox : GoodIn wsX10_asked (wsV RX10 203 RX9 yX9_isInBox wsX9_isInBox) := goodIn_app (goodIn_of _ (by decide +kernel)) ggX10_asked_X9_isInBox
set_option maxRecDepth 20000 in
theorem ggX10_asked_X9_holdingAt : GoodIn wsX10_asked wsX9_holdingAt := goodIn_r _ [26, 27, 28, 29, 30, 16, 31, 32, 33, 34, 35, 36, 19, 20, 21, 22, 37, 38, 39, 40, 68, 69, 70, 71, 72] (by decide +kernel) (by decide +kernel)
set_option maxRecDepth 20000 in
theorem gX10_asked_X9_holdingAt : GoodIn wsX10_asked (wsV RX10 84 RX9 yX9_holdingAt wsX9_holdingAt) := goodIn_app (goodIn_of _ (by decide +kernel)) ggX10_asked_X9_holdingAt
set_option maxRecDepth 20000 in
theorem ggX10_asked_J6_bitCount_0f7a4 : GoodIn wsX10_asked wsJ6_bitCount_0f7a4 := goodIn_r _ [44, 45, 46, 47] (by decide +kernel) (by decide +kernel)
set_option maxRecDepth 20000 in
theorem gX10_asked_J6_bitCount_0f7a4 : GoodIn wsX10_asked (va_wsS RX10 169 yJ6_bitCount_0f7a4 wsJ6_bitCount_0f7a4) := goodIn_app (goodIn_of _ (by decide +kernel)) ggX10_asked_J6_bitCount_0f7a4
set_option maxRecDepth 20000 in
theorem ggX10_asked_X2_greatestDivisor : GoodIn wsX10_asked wsX2_greatestDivisor := goodIn_r _ [51, 52, 53, 7, 54] (by decide +kernel) (by decide +kernel)
set_option maxRecDepth 20000 in
theorem gX10_asked_X2_greatestDivisor : GoodIn wsX10_asked (va_wsS RX10 206 yX2_greatestDivisor wsX2_greatestDivisor) := goodIn_app (goodIn_of _ (by decide +kernel)) ggX10_asked_X2_greatestDivisor
set_option maxRecDepth 20000 in
theorem ggX10_asked_X2_power : GoodIn wsX10_asked wsX2_power := goodIn_r _ [57] (by decide +kernel) (by decide +kernel)
set_option maxRecDepth 20000 in
theorem gX10_asked_X2_power : GoodIn wsX10_asked (va_wsS RX10 212 yX2_power wsX2_power) := goodIn_app (goodIn_of _ (by decide +kernel)) ggX10_asked_X2_power
theorem dX10_asked_0 : decode cX10_asked 0 = .ok (.iload_n 1, 1) := by decide +kernel
theorem dX10_asked_1 : decode cX10_asked 1 = .ok (.iconst 0, 1) := by decide +kernel
theorem dX10_asked_2 : decode cX10_asked 2 = .ok (.sipush 4095, 3) := by decide +kernel
theorem dX10_asked_5 : decode cX10_asked 5 = .ok (.invokestatic 47, 3) := by decide +kernel
theorem dX10_asked_8 : decode cX10_asked 8 = .ok (.ifCond .ne 36, 3) := by decide +kernel
theorem dX10_asked_11 : decode cX10_asked 11 = .ok (.aload_n 0, 1) := by decide +kernel
theorem dX10_asked_12 : decode cX10_asked 12 = .ok (.getfield 10, 3) := by decide +kernel
theorem dX10_asked_15 : decode cX10_asked 15 = .ok (.getfield 58, 3) := by decide +kernel
theorem dX10_asked_18 : decode cX10_asked 18 = .ok (.iload_n 1, 1) := by decide +kernel
theorem dX10_asked_19 : decode cX10_asked 19 = .ok (.invokevirtual 203, 3) := by decide +kernel
theorem dX10_asked_22 : decode cX10_asked 22 = .ok (.ifCond .eq 22, 3) := by decide +kernel
theorem dX10_asked_25 : decode cX10_asked 25 = .ok (.iload_n 2, 1) := by decide +kernel
theorem dX10_asked_26 : decode cX10_asked 26 = .ok (.iconst 0, 1) := by decide +kernel
theorem dX10_asked_27 : decode cX10_asked 27 = .ok (.bipush 10, 2) := by decide +kernel
theorem dX10_asked_29 : decode cX10_asked 29 = .ok (.invokestatic 47, 3) := by decide +kernel
theorem dX10_asked_32 : decode cX10_asked 32 = .ok (.ifCond .ne 12, 3) := by decide +kernel
theorem dX10_asked_35 : decode cX10_asked 35 = .ok (.iload_n 3, 1) := by decide +kernel
theorem dX10_asked_36 : decode cX10_asked 36 = .ok (.iconst 0, 1) := by decide +kernel
theorem dX10_asked_37 : decode cX10_asked 37 = .ok (.iconst 1, 1) := by decide +kernel
theorem dX10_asked_38 : decode cX10_asked 38 = .ok (.invokestatic 47, 3) := by decide +kernel
theorem dX10_asked_41 : decode cX10_asked 41 = .ok (.ifCond .eq 6, 3) := by decide +kernel
theorem dX10_asked_44 : decode cX10_asked 44 = .ok (.ldc 57, 2) := by decide +kernel
theorem dX10_asked_46 : decode cX10_asked 46 = .ok (.ireturn, 1) := by decide +kernel
theorem dX10_asked_47 : decode cX10_asked 47 = .ok (.aload_n 0, 1) := by decide +kernel
theorem dX10_asked_48 : decode cX10_asked 48 = .ok (.getfield 10, 3) := by decide +kernel
theorem dX10_asked_51 : decode cX10_asked 51 = .ok (.getfield 58, 3) := by decide +kernel
theorem dX10_asked_54 : decode cX10_asked 54 = .ok (.getfield 62, 3) := by decide +kernel
theorem dX10_asked_57 : decode cX10_asked 57 = .ok (.aload_n 0, 1) := by decide +kernel
theorem dX10_asked_58 : decode cX10_asked 58 = .ok (.getfield 10, 3) := by decide +kernel
theorem dX10_asked_61 : decode cX10_asked 61 = .ok (.getfield 58, 3) := by decide +kernel
theorem dX10_asked_64 : decode cX10_asked 64 = .ok (.iload_n 1, 1) := by decide +kernel
theorem dX10_asked_65 : decode cX10_asked 65 = .ok (.invokevirtual 84, 3) := by decide +kernel
theorem dX10_asked_68 : decode cX10_asked 68 = .ok (.invokestatic 169, 3) := by decide +kernel
theorem dX10_asked_71 : decode cX10_asked 71 = .ok (.isub, 1) := by decide +kernel
theorem dX10_asked_72 : decode cX10_asked 72 = .ok (.istore 4, 2) := by decide +kernel
theorem dX10_asked_74 : decode cX10_asked 74 = .ok (.bipush 10, 2) := by decide +kernel
theorem dX10_asked_76 : decode cX10_asked 76 = .ok (.iload_n 2, 1) := by decide +kernel
theorem dX10_asked_77 : decode cX10_asked 77 = .ok (.isub, 1) := by decide +kernel
theorem dX10_asked_78 : decode cX10_asked 78 = .ok (.bipush 10, 2) := by decide +kernel
theorem dX10_asked_80 : decode cX10_asked 80 = .ok (.invokestatic 206, 3) := by decide +kernel
theorem dX10_asked_83 : decode cX10_asked 83 = .ok (.istore 5, 2) := by decide +kernel
theorem dX10_asked_85 : decode cX10_asked 85 = .ok (.iload_n 3, 1) := by decide +kernel
theorem dX10_asked_86 : decode cX10_asked 86 = .ok (.ifCond .ne 10, 3) := by decide +kernel
theorem dX10_asked_89 : decode cX10_asked 89 = .ok (.bipush 10, 2) := by decide +kernel
theorem dX10_asked_91 : decode cX10_asked 91 = .ok (.iload_n 2, 1) := by decide +kernel
theorem dX10_asked_92 : decode cX10_asked 92 = .ok (.isub, 1) := by decide +kernel
theorem dX10_asked_93 : decode cX10_asked 93 = .ok (.goto 5, 3) := by decide +kernel
theorem dX10_asked_96 : decode cX10_asked 96 = .ok (.bipush 10, 2) := by decide +kernel
theorem dX10_asked_98 : decode cX10_asked 98 = .ok (.iload 5, 2) := by decide +kernel
theorem dX10_asked_100 : decode cX10_asked 100 = .ok (.iconst 1, 1) := by decide +kernel
theorem dX10_asked_101 : decode cX10_asked 101 = .ok (.invokestatic 209, 3) := by decide +kernel
theorem dX10_asked_104 : decode cX10_asked 104 = .ok (.idiv, 1) := by decide +kernel
theorem dX10_asked_105 : decode cX10_asked 105 = .ok (.istore 6, 2) := by decide +kernel
theorem dX10_asked_107 : decode cX10_asked 107 = .ok (.iload 6, 2) := by decide +kernel
theorem dX10_asked_109 : decode cX10_asked 109 = .ok (.iload 4, 2) := by decide +kernel
theorem dX10_asked_111 : decode cX10_asked 111 = .ok (.invokestatic 212, 3) := by decide +kernel
theorem dX10_asked_114 : decode cX10_asked 114 = .ok (.ireturn, 1) := by decide +kernel
set_option maxRecDepth 20000 in
theorem ggX10_image_X0_take : GoodIn wsX10_image wsX0_take := goodIn_r _ [8, 9, 10, 11, 12, 13, 14, 15, 16, 17, 18, 19, 20, 21, 22, 23, 24, 25, 26, 34, 35, 36, 37, 38, 39, 40, 41] (by decide +kernel) (by decide +kernel)
set_option maxRecDepth 20000 in
theorem gX10_image_X0_take : GoodIn wsX10_image (wsV RX10 215 RX0 yX0_take wsX0_take) := goodIn_app (goodIn_of _ (by decide +kernel)) ggX10_image_X0_take
theorem dX10_image_0 : decode cX10_image 0 = .ok (.aload_n 0, 1) := by decide +kernel
theorem dX10_image_1 : decode cX10_image 1 = .ok (.getfield 16, 3) := by decide +kernel
theorem dX10_image_4 : decode cX10_image 4 = .ok (.aload_n 0, 1) := by decide +kernel
theorem dX10_image_5 : decode cX10_image 5 = .ok (.getfield 10, 3) := by decide +kernel
theorem dX10_image_8 : decode cX10_image 8 = .ok (.invokevirtual 215, 3) := by decide +kernel
theorem dX10_image_11 : decode cX10_image 11 = .ok (.aload_n 0, 1) := by decide +kernel
theorem dX10_image_12 : decode cX10_image 12 = .ok (.iconst 1, 1) := by decide +kernel
theorem dX10_image_13 : decode cX10_image 13 = .ok (.putfield 219, 3) := by decide +kernel
theorem dX10_image_16 : decode cX10_image 16 = .ok (.iconst 1, 1) := by decide +kernel
theorem dX10_image_17 : decode cX10_image 17 = .ok (.ireturn, 1) := by decide +kernel
set_option maxRecDepth 20000 in
theorem ggX10_restore_X0_take : GoodIn wsX10_restore wsX0_take := goodIn_r _ [9, 10, 11, 12, 13, 14, 15, 16, 17, 18, 19, 20, 21, 22, 23, 24, 25, 26, 27, 35, 36, 37, 38, 39, 40, 41, 42] (by decide +kernel) (by decide +kernel)
set_option maxRecDepth 20000 in
theorem gX10_restore_X0_take : GoodIn wsX10_restore (wsV RX10 215 RX0 yX0_take wsX0_take) := goodIn_app (goodIn_of _ (by decide +kernel)) ggX10_restore_X0_take
theorem dX10_restore_0 : decode cX10_restore 0 = .ok (.aload_n 0, 1) := by decide +kernel
theorem dX10_restore_1 : decode cX10_restore 1 = .ok (.getfield 219, 3) := by decide +kernel
theorem dX10_restore_4 : decode cX10_restore 4 = .ok (.ifCond .ne 6, 3) := by decide +kernel
theorem dX10_restore_7 : decode cX10_restore 7 = .ok (.ldc 123, 2) := by decide +kernel
theorem dX10_restore_9 : decode cX10_restore 9 = .ok (.ireturn, 1) := by decide +kernel
theorem dX10_restore_10 : decode cX10_restore 10 = .ok (.aload_n 0, 1) := by decide +kernel
theorem dX10_restore_11 : decode cX10_restore 11 = .ok (.getfield 10, 3) := by decide +kernel
theorem dX10_restore_14 : decode cX10_restore 14 = .ok (.aload_n 0, 1) := by decide +kernel
theorem dX10_restore_15 : decode cX10_restore 15 = .ok (.getfield 16, 3) := by decide +kernel
theorem dX10_restore_18 : decode cX10_restore 18 = .ok (.invokevirtual 215, 3) := by decide +kernel
theorem dX10_restore_21 : decode cX10_restore 21 = .ok (.iconst 1, 1) := by decide +kernel
theorem dX10_restore_22 : decode cX10_restore 22 = .ok (.ireturn, 1) := by decide +kernel
set_option maxRecDepth 20000 in
theorem ggX10_seen_X10_isNoConstraint : GoodIn wsX10_seen wsX10_isNoConstraint := goodIn_r _ [8, 9, 10, 11, 12, 13, 7, 14, 65, 66, 67, 68, 69, 70, 71, 72, 73, 74, 75, 76, 77, 78, 79] (by decide +kernel) (by decide +kernel)
set_option maxRecDepth 20000 in
theorem gX10_seen_X10_isNoConstraint : GoodIn wsX10_seen (wsV RX10 74 RX10 yX10_isNoConstraint wsX10_isNoConstraint) := goodIn_app (goodIn_of _ (by decide +kernel)) ggX10_seen_X10_isNoConstraint
set_option maxRecDepth 20000 in
theorem ggX10_seen_X10_isNoSheetOrLane : GoodIn wsX10_seen wsX10_isNoSheetOrLane := goodIn_r _ [17, 12, 13, 7, 14] (by decide +kernel) (by decide +kernel)
set_option maxRecDepth 20000 in
theorem gX10_seen_X10_isNoSheetOrLane : GoodIn wsX10_seen (va_wsS RX10 223 yX10_isNoSheetOrLane wsX10_isNoSheetOrLane) := goodIn_app (goodIn_of _ (by decide +kernel)) ggX10_seen_X10_isNoSheetOrLane
set_option maxRecDepth 20000 in
theorem ggX10_seen_X10_outside : GoodIn wsX10_seen wsX10_outside := goodIn_r _ [14] (by decide +kernel) (by decide +kernel)
set_option maxRecDepth 20000 in
theorem gX10_seen_X10_outside : GoodIn wsX10_seen (va_wsS RX10 47 yX10_outside wsX10_outside) := goodIn_app (goodIn_of _ (by decide +kernel)) ggX10_seen_X10_outside
set_option maxRecDepth 20000 in
theorem ggX10_seen_X7_refusal : GoodIn wsX10_seen wsX7_refusal := goodIn_r _ [22, 23, 24, 25, 26, 27, 28, 29, 21, 30, 31, 32, 33, 34, 35, 80, 81, 82] (by decide +kernel) (by decide +kernel)
set_option maxRecDepth 20000 in
theorem gX10_seen_X7_refusal : GoodIn wsX10_seen (wsV RX10 227 RX7 yX7_refusal wsX7_refusal) := goodIn_app (goodIn_of _ (by decide +kernel)) ggX10_seen_X7_refusal
set_option maxRecDepth 20000 in
theorem ggX10_seen_X7_arePoints : GoodIn wsX10_seen wsX7_arePoints := goodIn_r _ [39, 40, 41, 42, 43, 21, 44, 45, 80, 81, 82] (by decide +kernel) (by decide +kernel)
set_option maxRecDepth 20000 in
theorem gX10_seen_X7_arePoints : GoodIn wsX10_seen (wsV RX10 231 RX7 yX7_arePoints wsX7_arePoints) := goodIn_app (goodIn_of _ (by decide +kernel)) ggX10_seen_X7_arePoints
set_option maxRecDepth 20000 in
theorem ggX10_seen_X10_kindsThatFit : GoodIn wsX10_seen wsX10_kindsThatFit := goodIn_r _ [49, 9, 10, 2, 50, 42, 43, 21, 44, 45, 51, 52, 53, 54, 55, 56, 57, 58, 59, 60, 61, 62, 63, 64, 65, 66, 67, 68, 69, 70, 71, 72, 73, 74, 80, 81, 82, 75, 76, 77, 78, 79] (by decide +kernel) (by decide +kernel)
set_option maxRecDepth 20000 in
theorem gX10_seen_X10_kindsThatFit : GoodIn wsX10_seen (wsV RX10 234 RX10 yX10_kindsThatFit wsX10_kindsThatFit) := goodIn_app (goodIn_of _ (by decide +kernel)) ggX10_seen_X10_kindsThatFit
theorem dX10_seen_0 : decode cX10_seen 0 = .ok (.aload_n 0, 1) := by decide +kernel
theorem dX10_seen_1 : decode cX10_seen 1 = .ok (.iload_n 1, 1) := by decide +kernel
theorem dX10_seen_2 : decode cX10_seen 2 = .ok (.invokevirtual 74, 3) := by decide +kernel
theorem dX10_seen_5 : decode cX10_seen 5 = .ok (.ifCond .ne 32, 3) := by decide +kernel
theorem dX10_seen_8 : decode cX10_seen 8 = .ok (.iload_n 2, 1) := by decide +kernel
theorem dX10_seen_9 : decode cX10_seen 9 = .ok (.iload_n 3, 1) := by decide +kernel
theorem dX10_seen_10 : decode cX10_seen 10 = .ok (.invokestatic 223, 3) := by decide +kernel
theorem dX10_seen_13 : decode cX10_seen 13 = .ok (.ifCond .ne 24, 3) := by decide +kernel
theorem dX10_seen_16 : decode cX10_seen 16 = .ok (.iload 5, 2) := by decide +kernel
theorem dX10_seen_18 : decode cX10_seen 18 = .ok (.iconst 1, 1) := by decide +kernel
theorem dX10_seen_19 : decode cX10_seen 19 = .ok (.bipush 8, 2) := by decide +kernel
theorem dX10_seen_21 : decode cX10_seen 21 = .ok (.invokestatic 47, 3) := by decide +kernel
theorem dX10_seen_24 : decode cX10_seen 24 = .ok (.ifCond .ne 13, 3) := by decide +kernel
theorem dX10_seen_27 : decode cX10_seen 27 = .ok (.iload 6, 2) := by decide +kernel
theorem dX10_seen_29 : decode cX10_seen 29 = .ok (.iconst 0, 1) := by decide +kernel
theorem dX10_seen_30 : decode cX10_seen 30 = .ok (.iconst 1, 1) := by decide +kernel
theorem dX10_seen_31 : decode cX10_seen 31 = .ok (.invokestatic 47, 3) := by decide +kernel
theorem dX10_seen_34 : decode cX10_seen 34 = .ok (.ifCond .eq 6, 3) := by decide +kernel
theorem dX10_seen_37 : decode cX10_seen 37 = .ok (.ldc 57, 2) := by decide +kernel
theorem dX10_seen_39 : decode cX10_seen 39 = .ok (.ireturn, 1) := by decide +kernel
theorem dX10_seen_40 : decode cX10_seen 40 = .ok (.aload_n 0, 1) := by decide +kernel
theorem dX10_seen_41 : decode cX10_seen 41 = .ok (.getfield 43, 3) := by decide +kernel
theorem dX10_seen_44 : decode cX10_seen 44 = .ok (.iload_n 2, 1) := by decide +kernel
theorem dX10_seen_45 : decode cX10_seen 45 = .ok (.iload_n 3, 1) := by decide +kernel
theorem dX10_seen_46 : decode cX10_seen 46 = .ok (.iload 4, 2) := by decide +kernel
theorem dX10_seen_48 : decode cX10_seen 48 = .ok (.iload 5, 2) := by decide +kernel
theorem dX10_seen_50 : decode cX10_seen 50 = .ok (.invokevirtual 227, 3) := by decide +kernel
theorem dX10_seen_53 : decode cX10_seen 53 = .ok (.istore 7, 2) := by decide +kernel
theorem dX10_seen_55 : decode cX10_seen 55 = .ok (.iload 7, 2) := by decide +kernel
theorem dX10_seen_57 : decode cX10_seen 57 = .ok (.ifCond .eq 6, 3) := by decide +kernel
theorem dX10_seen_60 : decode cX10_seen 60 = .ok (.iload 7, 2) := by decide +kernel
theorem dX10_seen_62 : decode cX10_seen 62 = .ok (.ireturn, 1) := by decide +kernel
theorem dX10_seen_63 : decode cX10_seen 63 = .ok (.aload_n 0, 1) := by decide +kernel
theorem dX10_seen_64 : decode cX10_seen 64 = .ok (.getfield 43, 3) := by decide +kernel
theorem dX10_seen_67 : decode cX10_seen 67 = .ok (.iload_n 2, 1) := by decide +kernel
theorem dX10_seen_68 : decode cX10_seen 68 = .ok (.iload 4, 2) := by decide +kernel
theorem dX10_seen_70 : decode cX10_seen 70 = .ok (.iload 5, 2) := by decide +kernel
theorem dX10_seen_72 : decode cX10_seen 72 = .ok (.invokevirtual 231, 3) := by decide +kernel
theorem dX10_seen_75 : decode cX10_seen 75 = .ok (.ifCond .eq 26, 3) := by decide +kernel
theorem dX10_seen_78 : decode cX10_seen 78 = .ok (.aload_n 0, 1) := by decide +kernel
theorem dX10_seen_79 : decode cX10_seen 79 = .ok (.iload_n 1, 1) := by decide +kernel
theorem dX10_seen_80 : decode cX10_seen 80 = .ok (.iload_n 2, 1) := by decide +kernel
theorem dX10_seen_81 : decode cX10_seen 81 = .ok (.iload 4, 2) := by decide +kernel
theorem dX10_seen_83 : decode cX10_seen 83 = .ok (.iload 5, 2) := by decide +kernel
theorem dX10_seen_85 : decode cX10_seen 85 = .ok (.iload 6, 2) := by decide +kernel
theorem dX10_seen_87 : decode cX10_seen 87 = .ok (.ifCond .ne 7, 3) := by decide +kernel
theorem dX10_seen_90 : decode cX10_seen 90 = .ok (.iconst 1, 1) := by decide +kernel
theorem dX10_seen_91 : decode cX10_seen 91 = .ok (.goto 4, 3) := by decide +kernel
theorem dX10_seen_94 : decode cX10_seen 94 = .ok (.iconst 0, 1) := by decide +kernel
theorem dX10_seen_95 : decode cX10_seen 95 = .ok (.invokevirtual 234, 3) := by decide +kernel
theorem dX10_seen_98 : decode cX10_seen 98 = .ok (.goto 5, 3) := by decide +kernel
theorem dX10_seen_101 : decode cX10_seen 101 = .ok (.ldc 138, 2) := by decide +kernel
theorem dX10_seen_103 : decode cX10_seen 103 = .ok (.ireturn, 1) := by decide +kernel
set_option maxRecDepth 20000 in
theorem ggX10_film_X10_outside : GoodIn wsX10_film wsX10_outside := goodIn_r _ [9] (by decide +kernel) (by decide +kernel)
set_option maxRecDepth 20000 in
theorem gX10_film_X10_outside : GoodIn wsX10_film (va_wsS RX10 47 yX10_outside wsX10_outside) := goodIn_app (goodIn_of _ (by decide +kernel)) ggX10_film_X10_outside
set_option maxRecDepth 20000 in
theorem ggX10_film_X10_isNoSheetOrLane : GoodIn wsX10_film wsX10_isNoSheetOrLane := goodIn_r _ [12, 6, 7, 8, 9] (by decide +kernel) (by decide +kernel)
set_option maxRecDepth 20000 in
theorem gX10_film_X10_isNoSheetOrLane : GoodIn wsX10_film (va_wsS RX10 223 yX10_isNoSheetOrLane wsX10_isNoSheetOrLane) := goodIn_app (goodIn_of _ (by decide +kernel)) ggX10_film_X10_isNoSheetOrLane
set_option maxRecDepth 20000 in
theorem ggX10_film_X7_refusal : GoodIn wsX10_film wsX7_refusal := goodIn_r _ [17, 18, 19, 20, 21, 22, 23, 24, 16, 25, 26, 27, 28, 29, 30, 95, 96, 97] (by decide +kernel) (by decide +kernel)
set_option maxRecDepth 20000 in
theorem gX10_film_X7_refusal : GoodIn wsX10_film (wsV RX10 227 RX7 yX7_refusal wsX7_refusal) := goodIn_app (goodIn_of _ (by decide +kernel)) ggX10_film_X7_refusal
set_option maxRecDepth 20000 in
theorem ggX10_film_X5_pointFrom : GoodIn wsX10_film wsX5_pointFrom := goodIn_r _ [35, 36, 37, 38, 39, 34, 40, 41, 42, 43, 44, 45, 46, 47, 48, 49, 50, 51, 52, 53, 54, 55, 56, 57, 58, 59, 60, 61, 62, 63, 64, 65, 66, 67, 68, 69, 70, 71, 72, 73, 74, 75, 76, 98, 99, 100, 101, 102, 103, 104, 105, 106] (by decide +kernel) (by decide +kernel)
set_option maxRecDepth 20000 in
theorem gX10_film_X5_pointFrom : GoodIn wsX10_film (wsV RX10 119 RX5 yX5_pointFrom wsX5_pointFrom) := goodIn_app (goodIn_of _ (by decide +kernel)) ggX10_film_X5_pointFrom
set_option maxRecDepth 20000 in
theorem ggX10_film_X7_put : GoodIn wsX10_film wsX7_put := goodIn_r _ [80, 81, 19, 82, 83, 16, 84, 95, 96, 97] (by decide +kernel) (by decide +kernel)
set_option maxRecDepth 20000 in
theorem gX10_film_X7_put : GoodIn wsX10_film (wsV RX10 238 RX7 yX7_put wsX7_put) := goodIn_app (goodIn_of _ (by decide +kernel)) ggX10_film_X7_put
theorem dX10_film_0 : decode cX10_film 0 = .ok (.iload_n 1, 1) := by decide +kernel
theorem dX10_film_1 : decode cX10_film 1 = .ok (.iconst 1, 1) := by decide +kernel
theorem dX10_film_2 : decode cX10_film 2 = .ok (.bipush 24, 2) := by decide +kernel
theorem dX10_film_4 : decode cX10_film 4 = .ok (.invokestatic 47, 3) := by decide +kernel
theorem dX10_film_7 : decode cX10_film 7 = .ok (.ifCond .ne 11, 3) := by decide +kernel
theorem dX10_film_10 : decode cX10_film 10 = .ok (.iload_n 2, 1) := by decide +kernel
theorem dX10_film_11 : decode cX10_film 11 = .ok (.iload_n 3, 1) := by decide +kernel
theorem dX10_film_12 : decode cX10_film 12 = .ok (.invokestatic 223, 3) := by decide +kernel
theorem dX10_film_15 : decode cX10_film 15 = .ok (.ifCond .eq 6, 3) := by decide +kernel
theorem dX10_film_18 : decode cX10_film 18 = .ok (.ldc 57, 2) := by decide +kernel
theorem dX10_film_20 : decode cX10_film 20 = .ok (.ireturn, 1) := by decide +kernel
theorem dX10_film_21 : decode cX10_film 21 = .ok (.aload_n 0, 1) := by decide +kernel
theorem dX10_film_22 : decode cX10_film 22 = .ok (.getfield 43, 3) := by decide +kernel
theorem dX10_film_25 : decode cX10_film 25 = .ok (.iload_n 2, 1) := by decide +kernel
theorem dX10_film_26 : decode cX10_film 26 = .ok (.iload_n 3, 1) := by decide +kernel
theorem dX10_film_27 : decode cX10_film 27 = .ok (.iload 4, 2) := by decide +kernel
theorem dX10_film_29 : decode cX10_film 29 = .ok (.iload_n 1, 1) := by decide +kernel
theorem dX10_film_30 : decode cX10_film 30 = .ok (.invokevirtual 227, 3) := by decide +kernel
theorem dX10_film_33 : decode cX10_film 33 = .ok (.istore 5, 2) := by decide +kernel
theorem dX10_film_35 : decode cX10_film 35 = .ok (.iload 5, 2) := by decide +kernel
theorem dX10_film_37 : decode cX10_film 37 = .ok (.ifCond .eq 6, 3) := by decide +kernel
theorem dX10_film_40 : decode cX10_film 40 = .ok (.iload 5, 2) := by decide +kernel
theorem dX10_film_42 : decode cX10_film 42 = .ok (.ireturn, 1) := by decide +kernel
theorem dX10_film_43 : decode cX10_film 43 = .ok (.aload_n 0, 1) := by decide +kernel
theorem dX10_film_44 : decode cX10_film 44 = .ok (.getfield 29, 3) := by decide +kernel
theorem dX10_film_47 : decode cX10_film 47 = .ok (.aload_n 0, 1) := by decide +kernel
theorem dX10_film_48 : decode cX10_film 48 = .ok (.getfield 10, 3) := by decide +kernel
theorem dX10_film_51 : decode cX10_film 51 = .ok (.getfield 58, 3) := by decide +kernel
theorem dX10_film_54 : decode cX10_film 54 = .ok (.iconst 0, 1) := by decide +kernel
theorem dX10_film_55 : decode cX10_film 55 = .ok (.invokevirtual 119, 3) := by decide +kernel
theorem dX10_film_58 : decode cX10_film 58 = .ok (.istore 6, 2) := by decide +kernel
theorem dX10_film_60 : decode cX10_film 60 = .ok (.iconst 0, 1) := by decide +kernel
theorem dX10_film_61 : decode cX10_film 61 = .ok (.istore 7, 2) := by decide +kernel
theorem dX10_film_63 : decode cX10_film 63 = .ok (.iload 7, 2) := by decide +kernel
theorem dX10_film_65 : decode cX10_film 65 = .ok (.iload_n 1, 1) := by decide +kernel
theorem dX10_film_66 : decode cX10_film 66 = .ok (.if_icmp .ge 54, 3) := by decide +kernel
theorem dX10_film_69 : decode cX10_film 69 = .ok (.aload_n 0, 1) := by decide +kernel
theorem dX10_film_70 : decode cX10_film 70 = .ok (.getfield 43, 3) := by decide +kernel
theorem dX10_film_73 : decode cX10_film 73 = .ok (.iload_n 2, 1) := by decide +kernel
theorem dX10_film_74 : decode cX10_film 74 = .ok (.iload 4, 2) := by decide +kernel
theorem dX10_film_76 : decode cX10_film 76 = .ok (.iload 7, 2) := by decide +kernel
theorem dX10_film_78 : decode cX10_film 78 = .ok (.iadd, 1) := by decide +kernel
theorem dX10_film_79 : decode cX10_film 79 = .ok (.iload 6, 2) := by decide +kernel
theorem dX10_film_81 : decode cX10_film 81 = .ok (.i2l, 1) := by decide +kernel
theorem dX10_film_82 : decode cX10_film 82 = .ok (.invokevirtual 238, 3) := by decide +kernel
theorem dX10_film_85 : decode cX10_film 85 = .ok (.iload 6, 2) := by decide +kernel
theorem dX10_film_87 : decode cX10_film 87 = .ok (.ifCond .ge 7, 3) := by decide +kernel
theorem dX10_film_90 : decode cX10_film 90 = .ok (.iconst (-1), 1) := by decide +kernel
theorem dX10_film_91 : decode cX10_film 91 = .ok (.goto 21, 3) := by decide +kernel
theorem dX10_film_94 : decode cX10_film 94 = .ok (.aload_n 0, 1) := by decide +kernel
theorem dX10_film_95 : decode cX10_film 95 = .ok (.getfield 29, 3) := by decide +kernel
theorem dX10_film_98 : decode cX10_film 98 = .ok (.aload_n 0, 1) := by decide +kernel
theorem dX10_film_99 : decode cX10_film 99 = .ok (.getfield 10, 3) := by decide +kernel
theorem dX10_film_102 : decode cX10_film 102 = .ok (.getfield 58, 3) := by decide +kernel
theorem dX10_film_105 : decode cX10_film 105 = .ok (.iload 6, 2) := by decide +kernel
theorem dX10_film_107 : decode cX10_film 107 = .ok (.iconst 1, 1) := by decide +kernel
theorem dX10_film_108 : decode cX10_film 108 = .ok (.iadd, 1) := by decide +kernel
theorem dX10_film_109 : decode cX10_film 109 = .ok (.invokevirtual 119, 3) := by decide +kernel
theorem dX10_film_112 : decode cX10_film 112 = .ok (.istore 6, 2) := by decide +kernel
theorem dX10_film_114 : decode cX10_film 114 = .ok (.iinc 7 1, 3) := by decide +kernel
theorem dX10_film_117 : decode cX10_film 117 = .ok (.goto (-54), 3) := by decide +kernel
theorem dX10_film_120 : decode cX10_film 120 = .ok (.iload_n 1, 1) := by decide +kernel
theorem dX10_film_121 : decode cX10_film 121 = .ok (.ireturn, 1) := by decide +kernel
set_option maxRecDepth 20000 in
theorem ggX10_sheet_X10_isNoSheetOrLane : GoodIn wsX10_sheet wsX10_isNoSheetOrLane := goodIn_r _ [7, 8, 9, 6, 10] (by decide +kernel) (by decide +kernel)
set_option maxRecDepth 20000 in
theorem gX10_sheet_X10_isNoSheetOrLane : GoodIn wsX10_sheet (va_wsS RX10 223 yX10_isNoSheetOrLane wsX10_isNoSheetOrLane) := goodIn_app (goodIn_of _ (by decide +kernel)) ggX10_sheet_X10_isNoSheetOrLane
set_option maxRecDepth 20000 in
theorem ggX10_sheet_X7_lay : GoodIn wsX10_sheet wsX7_lay := goodIn_r _ [15, 16, 17, 18, 19, 20, 14, 21, 22, 23, 24, 25, 33, 34, 35] (by decide +kernel) (by decide +kernel)
set_option maxRecDepth 20000 in
theorem gX10_sheet_X7_lay : GoodIn wsX10_sheet (wsV RX10 243 RX7 yX7_lay wsX7_lay) := goodIn_app (goodIn_of _ (by decide +kernel)) ggX10_sheet_X7_lay
theorem dX10_sheet_0 : decode cX10_sheet 0 = .ok (.iload_n 1, 1) := by decide +kernel
theorem dX10_sheet_1 : decode cX10_sheet 1 = .ok (.iload_n 2, 1) := by decide +kernel
theorem dX10_sheet_2 : decode cX10_sheet 2 = .ok (.invokestatic 223, 3) := by decide +kernel
theorem dX10_sheet_5 : decode cX10_sheet 5 = .ok (.ifCond .ne 9, 3) := by decide +kernel
theorem dX10_sheet_8 : decode cX10_sheet 8 = .ok (.iload_n 3, 1) := by decide +kernel
theorem dX10_sheet_9 : decode cX10_sheet 9 = .ok (.bipush 24, 2) := by decide +kernel
theorem dX10_sheet_11 : decode cX10_sheet 11 = .ok (.if_icmp .le 6, 3) := by decide +kernel
theorem dX10_sheet_14 : decode cX10_sheet 14 = .ok (.ldc 57, 2) := by decide +kernel
theorem dX10_sheet_16 : decode cX10_sheet 16 = .ok (.ireturn, 1) := by decide +kernel
theorem dX10_sheet_17 : decode cX10_sheet 17 = .ok (.iload_n 3, 1) := by decide +kernel
theorem dX10_sheet_18 : decode cX10_sheet 18 = .ok (.ifCond .ge 6, 3) := by decide +kernel
theorem dX10_sheet_21 : decode cX10_sheet 21 = .ok (.ldc 242, 2) := by decide +kernel
theorem dX10_sheet_23 : decode cX10_sheet 23 = .ok (.ireturn, 1) := by decide +kernel
theorem dX10_sheet_24 : decode cX10_sheet 24 = .ok (.aload_n 0, 1) := by decide +kernel
theorem dX10_sheet_25 : decode cX10_sheet 25 = .ok (.getfield 43, 3) := by decide +kernel
theorem dX10_sheet_28 : decode cX10_sheet 28 = .ok (.iload_n 1, 1) := by decide +kernel
theorem dX10_sheet_29 : decode cX10_sheet 29 = .ok (.iload_n 2, 1) := by decide +kernel
theorem dX10_sheet_30 : decode cX10_sheet 30 = .ok (.iload_n 3, 1) := by decide +kernel
theorem dX10_sheet_31 : decode cX10_sheet 31 = .ok (.invokevirtual 243, 3) := by decide +kernel
theorem dX10_sheet_34 : decode cX10_sheet 34 = .ok (.iload_n 3, 1) := by decide +kernel
theorem dX10_sheet_35 : decode cX10_sheet 35 = .ok (.ireturn, 1) := by decide +kernel
set_option maxRecDepth 20000 in
theorem ggX10_clear_X10_outside : GoodIn wsX10_clear wsX10_outside := goodIn_r _ [7] (by decide +kernel) (by decide +kernel)
set_option maxRecDepth 20000 in
theorem gX10_clear_X10_outside : GoodIn wsX10_clear (va_wsS RX10 47 yX10_outside wsX10_outside) := goodIn_app (goodIn_of _ (by decide +kernel)) ggX10_clear_X10_outside
set_option maxRecDepth 20000 in
theorem ggX10_clear_X7_holdsNothing : GoodIn wsX10_clear wsX7_holdsNothing := goodIn_r _ [12, 13, 26, 27, 28] (by decide +kernel) (by decide +kernel)
set_option maxRecDepth 20000 in
theorem gX10_clear_X7_holdsNothing : GoodIn wsX10_clear (wsV RX10 246 RX7 yX7_holdsNothing wsX7_holdsNothing) := goodIn_app (goodIn_of _ (by decide +kernel)) ggX10_clear_X7_holdsNothing
set_option maxRecDepth 20000 in
theorem ggX10_clear_X7_takeAway : GoodIn wsX10_clear wsX7_takeAway := goodIn_r _ [17, 13, 18, 26, 27, 28] (by decide +kernel) (by decide +kernel)
set_option maxRecDepth 20000 in
theorem gX10_clear_X7_takeAway : GoodIn wsX10_clear (wsV RX10 250 RX7 yX7_takeAway wsX7_takeAway) := goodIn_app (goodIn_of _ (by decide +kernel)) ggX10_clear_X7_takeAway
theorem dX10_clear_0 : decode cX10_clear 0 = .ok (.iload_n 1, 1) := by decide +kernel
theorem dX10_clear_1 : decode cX10_clear 1 = .ok (.iconst 0, 1) := by decide +kernel
theorem dX10_clear_2 : decode cX10_clear 2 = .ok (.iconst 3, 1) := by decide +kernel
theorem dX10_clear_3 : decode cX10_clear 3 = .ok (.invokestatic 47, 3) := by decide +kernel
theorem dX10_clear_6 : decode cX10_clear 6 = .ok (.ifCond .eq 6, 3) := by decide +kernel
theorem dX10_clear_9 : decode cX10_clear 9 = .ok (.ldc 57, 2) := by decide +kernel
theorem dX10_clear_11 : decode cX10_clear 11 = .ok (.ireturn, 1) := by decide +kernel
theorem dX10_clear_12 : decode cX10_clear 12 = .ok (.aload_n 0, 1) := by decide +kernel
theorem dX10_clear_13 : decode cX10_clear 13 = .ok (.getfield 43, 3) := by decide +kernel
theorem dX10_clear_16 : decode cX10_clear 16 = .ok (.iload_n 1, 1) := by decide +kernel
theorem dX10_clear_17 : decode cX10_clear 17 = .ok (.invokevirtual 246, 3) := by decide +kernel
theorem dX10_clear_20 : decode cX10_clear 20 = .ok (.ifCond .eq 6, 3) := by decide +kernel
theorem dX10_clear_23 : decode cX10_clear 23 = .ok (.ldc 249, 2) := by decide +kernel
theorem dX10_clear_25 : decode cX10_clear 25 = .ok (.ireturn, 1) := by decide +kernel
theorem dX10_clear_26 : decode cX10_clear 26 = .ok (.aload_n 0, 1) := by decide +kernel
theorem dX10_clear_27 : decode cX10_clear 27 = .ok (.getfield 43, 3) := by decide +kernel
theorem dX10_clear_30 : decode cX10_clear 30 = .ok (.iload_n 1, 1) := by decide +kernel
theorem dX10_clear_31 : decode cX10_clear 31 = .ok (.invokevirtual 250, 3) := by decide +kernel
theorem dX10_clear_34 : decode cX10_clear 34 = .ok (.ireturn, 1) := by decide +kernel
theorem dX10_outside_0 : decode cX10_outside 0 = .ok (.iload_n 0, 1) := by decide +kernel
theorem dX10_outside_1 : decode cX10_outside 1 = .ok (.iload_n 1, 1) := by decide +kernel
theorem dX10_outside_2 : decode cX10_outside 2 = .ok (.if_icmp .lt 8, 3) := by decide +kernel
theorem dX10_outside_5 : decode cX10_outside 5 = .ok (.iload_n 0, 1) := by decide +kernel
theorem dX10_outside_6 : decode cX10_outside 6 = .ok (.iload_n 2, 1) := by decide +kernel
theorem dX10_outside_7 : decode cX10_outside 7 = .ok (.if_icmp .le 7, 3) := by decide +kernel
theorem dX10_outside_10 : decode cX10_outside 10 = .ok (.iconst 1, 1) := by decide +kernel
theorem dX10_outside_11 : decode cX10_outside 11 = .ok (.goto 4, 3) := by decide +kernel
theorem dX10_outside_14 : decode cX10_outside 14 = .ok (.iconst 0, 1) := by decide +kernel
theorem dX10_outside_15 : decode cX10_outside 15 = .ok (.ireturn, 1) := by decide +kernel
set_option maxRecDepth 20000 in
theorem ggX10_isNoVariable_X10_outside : GoodIn wsX10_isNoVariable wsX10_outside := goodIn_r _ [4] (by decide +kernel) (by decide +kernel)
set_option maxRecDepth 20000 in
theorem gX10_isNoVariable_X10_outside : GoodIn wsX10_isNoVariable (va_wsS RX10 47 yX10_outside wsX10_outside) := goodIn_app (goodIn_of _ (by decide +kernel)) ggX10_isNoVariable_X10_outside
theorem dX10_isNoVariable_0 : decode cX10_isNoVariable 0 = .ok (.iload_n 0, 1) := by decide +kernel
theorem dX10_isNoVariable_1 : decode cX10_isNoVariable 1 = .ok (.iconst 0, 1) := by decide +kernel
theorem dX10_isNoVariable_2 : decode cX10_isNoVariable 2 = .ok (.iconst 3, 1) := by decide +kernel
theorem dX10_isNoVariable_3 : decode cX10_isNoVariable 3 = .ok (.invokestatic 47, 3) := by decide +kernel
theorem dX10_isNoVariable_6 : decode cX10_isNoVariable 6 = .ok (.ireturn, 1) := by decide +kernel
set_option maxRecDepth 20000 in
theorem ggX10_isNoSheetOrLane_X10_outside : GoodIn wsX10_isNoSheetOrLane wsX10_outside := goodIn_r _ [4] (by decide +kernel) (by decide +kernel)
set_option maxRecDepth 20000 in
theorem gX10_isNoSheetOrLane_X10_outside : GoodIn wsX10_isNoSheetOrLane (va_wsS RX10 47 yX10_outside wsX10_outside) := goodIn_app (goodIn_of _ (by decide +kernel)) ggX10_isNoSheetOrLane_X10_outside
theorem dX10_isNoSheetOrLane_0 : decode cX10_isNoSheetOrLane 0 = .ok (.iload_n 0, 1) := by decide +kernel
theorem dX10_isNoSheetOrLane_1 : decode cX10_isNoSheetOrLane 1 = .ok (.iconst 0, 1) := by decide +kernel
theorem dX10_isNoSheetOrLane_2 : decode cX10_isNoSheetOrLane 2 = .ok (.iconst 3, 1) := by decide +kernel
theorem dX10_isNoSheetOrLane_3 : decode cX10_isNoSheetOrLane 3 = .ok (.invokestatic 47, 3) := by decide +kernel
theorem dX10_isNoSheetOrLane_6 : decode cX10_isNoSheetOrLane 6 = .ok (.ifCond .ne 12, 3) := by decide +kernel
theorem dX10_isNoSheetOrLane_9 : decode cX10_isNoSheetOrLane 9 = .ok (.iload_n 1, 1) := by decide +kernel
theorem dX10_isNoSheetOrLane_10 : decode cX10_isNoSheetOrLane 10 = .ok (.iconst 0, 1) := by decide +kernel
theorem dX10_isNoSheetOrLane_11 : decode cX10_isNoSheetOrLane 11 = .ok (.iconst 3, 1) := by decide +kernel
theorem dX10_isNoSheetOrLane_12 : decode cX10_isNoSheetOrLane 12 = .ok (.invokestatic 47, 3) := by decide +kernel
theorem dX10_isNoSheetOrLane_15 : decode cX10_isNoSheetOrLane 15 = .ok (.ifCond .eq 7, 3) := by decide +kernel
theorem dX10_isNoSheetOrLane_18 : decode cX10_isNoSheetOrLane 18 = .ok (.iconst 1, 1) := by decide +kernel
theorem dX10_isNoSheetOrLane_19 : decode cX10_isNoSheetOrLane 19 = .ok (.goto 4, 3) := by decide +kernel
theorem dX10_isNoSheetOrLane_22 : decode cX10_isNoSheetOrLane 22 = .ok (.iconst 0, 1) := by decide +kernel
theorem dX10_isNoSheetOrLane_23 : decode cX10_isNoSheetOrLane 23 = .ok (.ireturn, 1) := by decide +kernel
set_option maxRecDepth 20000 in
theorem ggX10_isNoConstraint_X10_outside : GoodIn wsX10_isNoConstraint wsX10_outside := goodIn_r _ [7] (by decide +kernel) (by decide +kernel)
set_option maxRecDepth 20000 in
theorem gX10_isNoConstraint_X10_outside : GoodIn wsX10_isNoConstraint (va_wsS RX10 47 yX10_outside wsX10_outside) := goodIn_app (goodIn_of _ (by decide +kernel)) ggX10_isNoConstraint_X10_outside
theorem dX10_isNoConstraint_0 : decode cX10_isNoConstraint 0 = .ok (.iload_n 1, 1) := by decide +kernel
theorem dX10_isNoConstraint_1 : decode cX10_isNoConstraint 1 = .ok (.iconst 0, 1) := by decide +kernel
theorem dX10_isNoConstraint_2 : decode cX10_isNoConstraint 2 = .ok (.aload_n 0, 1) := by decide +kernel
theorem dX10_isNoConstraint_3 : decode cX10_isNoConstraint 3 = .ok (.getfield 10, 3) := by decide +kernel
theorem dX10_isNoConstraint_6 : decode cX10_isNoConstraint 6 = .ok (.getfield 58, 3) := by decide +kernel
theorem dX10_isNoConstraint_9 : decode cX10_isNoConstraint 9 = .ok (.getfield 62, 3) := by decide +kernel
theorem dX10_isNoConstraint_12 : decode cX10_isNoConstraint 12 = .ok (.iconst 1, 1) := by decide +kernel
theorem dX10_isNoConstraint_13 : decode cX10_isNoConstraint 13 = .ok (.isub, 1) := by decide +kernel
theorem dX10_isNoConstraint_14 : decode cX10_isNoConstraint 14 = .ok (.invokestatic 47, 3) := by decide +kernel
theorem dX10_isNoConstraint_17 : decode cX10_isNoConstraint 17 = .ok (.ireturn, 1) := by decide +kernel
set_option maxRecDepth 20000 in
theorem ggX10_replace_X9_cell : GoodIn wsX10_replace wsX9_cell := goodIn_r _ [8, 9, 45, 46, 47, 48, 49] (by decide +kernel) (by decide +kernel)
set_option maxRecDepth 20000 in
theorem gX10_replace_X9_cell : GoodIn wsX10_replace (wsV RX10 77 RX9 yX9_cell wsX9_cell) := goodIn_app (goodIn_of _ (by decide +kernel)) ggX10_replace_X9_cell
set_option maxRecDepth 20000 in
theorem ggX10_replace_X0_keep : GoodIn wsX10_replace wsX0_keep := goodIn_r _ [14, 15, 16, 17, 18, 19, 20, 21, 22, 23, 24, 7, 25, 9, 26, 27, 28, 29, 42, 43, 44, 45, 46, 47, 48, 49] (by decide +kernel) (by decide +kernel)
set_option maxRecDepth 20000 in
theorem gX10_replace_X0_keep : GoodIn wsX10_replace (wsV RX10 67 RX0 yX0_keep wsX0_keep) := goodIn_app (goodIn_of _ (by decide +kernel)) ggX10_replace_X0_keep
set_option maxRecDepth 20000 in
theorem ggX10_replace_X9_setCell : GoodIn wsX10_replace wsX9_setCell := goodIn_r _ [33, 9, 34, 45, 46, 47, 48, 49] (by decide +kernel) (by decide +kernel)
set_option maxRecDepth 20000 in
theorem gX10_replace_X9_setCell : GoodIn wsX10_replace (wsV RX10 265 RX9 yX9_setCell wsX9_setCell) := goodIn_app (goodIn_of _ (by decide +kernel)) ggX10_replace_X9_setCell
theorem dX10_replace_0 : decode cX10_replace 0 = .ok (.aload_n 0, 1) := by decide +kernel
theorem dX10_replace_1 : decode cX10_replace 1 = .ok (.getfield 10, 3) := by decide +kernel
theorem dX10_replace_4 : decode cX10_replace 4 = .ok (.getfield 58, 3) := by decide +kernel
theorem dX10_replace_7 : decode cX10_replace 7 = .ok (.iload_n 1, 1) := by decide +kernel
theorem dX10_replace_8 : decode cX10_replace 8 = .ok (.iload_n 2, 1) := by decide +kernel
theorem dX10_replace_9 : decode cX10_replace 9 = .ok (.invokevirtual 77, 3) := by decide +kernel
theorem dX10_replace_12 : decode cX10_replace 12 = .ok (.istore 4, 2) := by decide +kernel
theorem dX10_replace_14 : decode cX10_replace 14 = .ok (.iload 4, 2) := by decide +kernel
theorem dX10_replace_16 : decode cX10_replace 16 = .ok (.iload_n 3, 1) := by decide +kernel
theorem dX10_replace_17 : decode cX10_replace 17 = .ok (.if_icmp .ne 6, 3) := by decide +kernel
theorem dX10_replace_20 : decode cX10_replace 20 = .ok (.ldc 138, 2) := by decide +kernel
theorem dX10_replace_22 : decode cX10_replace 22 = .ok (.ireturn, 1) := by decide +kernel
theorem dX10_replace_23 : decode cX10_replace 23 = .ok (.aload_n 0, 1) := by decide +kernel
theorem dX10_replace_24 : decode cX10_replace 24 = .ok (.getfield 10, 3) := by decide +kernel
theorem dX10_replace_27 : decode cX10_replace 27 = .ok (.invokevirtual 67, 3) := by decide +kernel
theorem dX10_replace_30 : decode cX10_replace 30 = .ok (.aload_n 0, 1) := by decide +kernel
theorem dX10_replace_31 : decode cX10_replace 31 = .ok (.getfield 10, 3) := by decide +kernel
theorem dX10_replace_34 : decode cX10_replace 34 = .ok (.getfield 58, 3) := by decide +kernel
theorem dX10_replace_37 : decode cX10_replace 37 = .ok (.iload_n 1, 1) := by decide +kernel
theorem dX10_replace_38 : decode cX10_replace 38 = .ok (.iload_n 2, 1) := by decide +kernel
theorem dX10_replace_39 : decode cX10_replace 39 = .ok (.iload_n 3, 1) := by decide +kernel
theorem dX10_replace_40 : decode cX10_replace 40 = .ok (.invokevirtual 265, 3) := by decide +kernel
theorem dX10_replace_43 : decode cX10_replace 43 = .ok (.iload 4, 2) := by decide +kernel
theorem dX10_replace_45 : decode cX10_replace 45 = .ok (.ireturn, 1) := by decide +kernel
set_option maxRecDepth 20000 in
theorem ggX10_kindsThatFit_X7_get : GoodIn wsX10_kindsThatFit wsX7_get := goodIn_r _ [8, 9, 34, 35, 36] (by decide +kernel) (by decide +kernel)
set_option maxRecDepth 20000 in
theorem gX10_kindsThatFit_X7_get : GoodIn wsX10_kindsThatFit (wsV RX10 268 RX7 yX7_get wsX7_get) := goodIn_app (goodIn_of _ (by decide +kernel)) ggX10_kindsThatFit_X7_get
set_option maxRecDepth 20000 in
theorem ggX10_kindsThatFit_X9_sumAt : GoodIn wsX10_kindsThatFit wsX9_sumAt := goodIn_r _ [14, 15, 16, 17, 18, 19, 37, 38, 39, 40, 41] (by decide +kernel) (by decide +kernel)
set_option maxRecDepth 20000 in
theorem gX10_kindsThatFit_X9_sumAt : GoodIn wsX10_kindsThatFit (wsV RX10 81 RX9 yX9_sumAt wsX9_sumAt) := goodIn_app (goodIn_of _ (by decide +kernel)) ggX10_kindsThatFit_X9_sumAt
set_option maxRecDepth 20000 in
theorem ggX10_kindsThatFit_X1_holds : GoodIn wsX10_kindsThatFit wsX1_holds := goodIn_r _ [23] (by decide +kernel) (by decide +kernel)
set_option maxRecDepth 20000 in
theorem gX10_kindsThatFit_X1_holds : GoodIn wsX10_kindsThatFit (va_wsS RX10 272 yX1_holds wsX1_holds) := goodIn_app (goodIn_of _ (by decide +kernel)) ggX10_kindsThatFit_X1_holds
theorem dX10_kindsThatFit_0 : decode cX10_kindsThatFit 0 = .ok (.iconst 0, 1) := by decide +kernel
theorem dX10_kindsThatFit_1 : decode cX10_kindsThatFit 1 = .ok (.istore 6, 2) := by decide +kernel
theorem dX10_kindsThatFit_3 : decode cX10_kindsThatFit 3 = .ok (.iconst 0, 1) := by decide +kernel
theorem dX10_kindsThatFit_4 : decode cX10_kindsThatFit 4 = .ok (.istore 7, 2) := by decide +kernel
theorem dX10_kindsThatFit_6 : decode cX10_kindsThatFit 6 = .ok (.iload 7, 2) := by decide +kernel
theorem dX10_kindsThatFit_8 : decode cX10_kindsThatFit 8 = .ok (.iconst 4, 1) := by decide +kernel
theorem dX10_kindsThatFit_9 : decode cX10_kindsThatFit 9 = .ok (.if_icmp .gt 96, 3) := by decide +kernel
theorem dX10_kindsThatFit_12 : decode cX10_kindsThatFit 12 = .ok (.iconst 1, 1) := by decide +kernel
theorem dX10_kindsThatFit_13 : decode cX10_kindsThatFit 13 = .ok (.istore 8, 2) := by decide +kernel
theorem dX10_kindsThatFit_15 : decode cX10_kindsThatFit 15 = .ok (.iconst 0, 1) := by decide +kernel
theorem dX10_kindsThatFit_16 : decode cX10_kindsThatFit 16 = .ok (.istore 9, 2) := by decide +kernel
theorem dX10_kindsThatFit_18 : decode cX10_kindsThatFit 18 = .ok (.iload 9, 2) := by decide +kernel
theorem dX10_kindsThatFit_20 : decode cX10_kindsThatFit 20 = .ok (.iload 4, 2) := by decide +kernel
theorem dX10_kindsThatFit_22 : decode cX10_kindsThatFit 22 = .ok (.if_icmp .ge 59, 3) := by decide +kernel
theorem dX10_kindsThatFit_25 : decode cX10_kindsThatFit 25 = .ok (.iload 8, 2) := by decide +kernel
theorem dX10_kindsThatFit_27 : decode cX10_kindsThatFit 27 = .ok (.ifCond .eq 54, 3) := by decide +kernel
theorem dX10_kindsThatFit_30 : decode cX10_kindsThatFit 30 = .ok (.aload_n 0, 1) := by decide +kernel
theorem dX10_kindsThatFit_31 : decode cX10_kindsThatFit 31 = .ok (.getfield 10, 3) := by decide +kernel
theorem dX10_kindsThatFit_34 : decode cX10_kindsThatFit 34 = .ok (.getfield 58, 3) := by decide +kernel
theorem dX10_kindsThatFit_37 : decode cX10_kindsThatFit 37 = .ok (.iload_n 1, 1) := by decide +kernel
theorem dX10_kindsThatFit_38 : decode cX10_kindsThatFit 38 = .ok (.aload_n 0, 1) := by decide +kernel
theorem dX10_kindsThatFit_39 : decode cX10_kindsThatFit 39 = .ok (.getfield 43, 3) := by decide +kernel
theorem dX10_kindsThatFit_42 : decode cX10_kindsThatFit 42 = .ok (.iload_n 2, 1) := by decide +kernel
theorem dX10_kindsThatFit_43 : decode cX10_kindsThatFit 43 = .ok (.iload_n 3, 1) := by decide +kernel
theorem dX10_kindsThatFit_44 : decode cX10_kindsThatFit 44 = .ok (.iload 9, 2) := by decide +kernel
theorem dX10_kindsThatFit_46 : decode cX10_kindsThatFit 46 = .ok (.iadd, 1) := by decide +kernel
theorem dX10_kindsThatFit_47 : decode cX10_kindsThatFit 47 = .ok (.invokevirtual 268, 3) := by decide +kernel
theorem dX10_kindsThatFit_50 : decode cX10_kindsThatFit 50 = .ok (.l2i, 1) := by decide +kernel
theorem dX10_kindsThatFit_51 : decode cX10_kindsThatFit 51 = .ok (.invokevirtual 81, 3) := by decide +kernel
theorem dX10_kindsThatFit_54 : decode cX10_kindsThatFit 54 = .ok (.istore 10, 2) := by decide +kernel
theorem dX10_kindsThatFit_56 : decode cX10_kindsThatFit 56 = .ok (.iload 7, 2) := by decide +kernel
theorem dX10_kindsThatFit_58 : decode cX10_kindsThatFit 58 = .ok (.iload 10, 2) := by decide +kernel
theorem dX10_kindsThatFit_60 : decode cX10_kindsThatFit 60 = .ok (.invokestatic 272, 3) := by decide +kernel
theorem dX10_kindsThatFit_63 : decode cX10_kindsThatFit 63 = .ok (.iload 5, 2) := by decide +kernel
theorem dX10_kindsThatFit_65 : decode cX10_kindsThatFit 65 = .ok (.if_icmp .ne 7, 3) := by decide +kernel
theorem dX10_kindsThatFit_68 : decode cX10_kindsThatFit 68 = .ok (.iconst 1, 1) := by decide +kernel
theorem dX10_kindsThatFit_69 : decode cX10_kindsThatFit 69 = .ok (.goto 4, 3) := by decide +kernel
theorem dX10_kindsThatFit_72 : decode cX10_kindsThatFit 72 = .ok (.iconst 0, 1) := by decide +kernel
theorem dX10_kindsThatFit_73 : decode cX10_kindsThatFit 73 = .ok (.istore 8, 2) := by decide +kernel
theorem dX10_kindsThatFit_75 : decode cX10_kindsThatFit 75 = .ok (.iinc 9 1, 3) := by decide +kernel
theorem dX10_kindsThatFit_78 : decode cX10_kindsThatFit 78 = .ok (.goto (-60), 3) := by decide +kernel
theorem dX10_kindsThatFit_81 : decode cX10_kindsThatFit 81 = .ok (.iload 6, 2) := by decide +kernel
theorem dX10_kindsThatFit_83 : decode cX10_kindsThatFit 83 = .ok (.iload 8, 2) := by decide +kernel
theorem dX10_kindsThatFit_85 : decode cX10_kindsThatFit 85 = .ok (.ifCond .eq 10, 3) := by decide +kernel
theorem dX10_kindsThatFit_88 : decode cX10_kindsThatFit 88 = .ok (.iconst 1, 1) := by decide +kernel
theorem dX10_kindsThatFit_89 : decode cX10_kindsThatFit 89 = .ok (.iload 7, 2) := by decide +kernel
theorem dX10_kindsThatFit_91 : decode cX10_kindsThatFit 91 = .ok (.ishl, 1) := by decide +kernel
theorem dX10_kindsThatFit_92 : decode cX10_kindsThatFit 92 = .ok (.goto 4, 3) := by decide +kernel
theorem dX10_kindsThatFit_95 : decode cX10_kindsThatFit 95 = .ok (.iconst 0, 1) := by decide +kernel
theorem dX10_kindsThatFit_96 : decode cX10_kindsThatFit 96 = .ok (.ior, 1) := by decide +kernel
theorem dX10_kindsThatFit_97 : decode cX10_kindsThatFit 97 = .ok (.istore 6, 2) := by decide +kernel
theorem dX10_kindsThatFit_99 : decode cX10_kindsThatFit 99 = .ok (.iinc 7 1, 3) := by decide +kernel
theorem dX10_kindsThatFit_102 : decode cX10_kindsThatFit 102 = .ok (.goto (-96), 3) := by decide +kernel
theorem dX10_kindsThatFit_105 : decode cX10_kindsThatFit 105 = .ok (.iload 6, 2) := by decide +kernel
theorem dX10_kindsThatFit_107 : decode cX10_kindsThatFit 107 = .ok (.ireturn, 1) := by decide +kernel
theorem dJ6_bitCount_0f7a4_0 : decode cJ6_bitCount_0f7a4 0 = .ok (.iload_n 0, 1) := by decide +kernel
theorem dJ6_bitCount_0f7a4_1 : decode cJ6_bitCount_0f7a4 1 = .ok (.iload_n 0, 1) := by decide +kernel
theorem dJ6_bitCount_0f7a4_2 : decode cJ6_bitCount_0f7a4 2 = .ok (.iconst 1, 1) := by decide +kernel
theorem dJ6_bitCount_0f7a4_3 : decode cJ6_bitCount_0f7a4 3 = .ok (.iushr, 1) := by decide +kernel

theorem dX6_depth_66 : decode cX6_depth 66 = .ok (.invokevirtual 46, 3) := by decide +kernel
theorem dX6_depth_69 : decode cX6_depth 69 = .ok (.ifCond .eq 7, 3) := by decide +kernel
theorem dX6_depth_72 : decode cX6_depth 72 = .ok (.iconst 1, 1) := by decide +kernel
theorem dX6_depth_73 : decode cX6_depth 73 = .ok (.goto 4, 3) := by decide +kernel
theorem dX6_depth_76 : decode cX6_depth 76 = .ok (.iconst 0, 1) := by decide +kernel
theorem dX6_depth_77 : decode cX6_depth 77 = .ok (.iadd, 1) := by decide +kernel
theorem dX6_depth_78 : decode cX6_depth 78 = .ok (.istore 4, 2) := by decide +kernel
theorem dX6_depth_80 : decode cX6_depth 80 = .ok (.iinc 5 1, 3) := by decide +kernel
theorem dX6_depth_83 : decode cX6_depth 83 = .ok (.goto (-51), 3) := by decide +kernel
theorem dX6_depth_86 : decode cX6_depth 86 = .ok (.iload 4, 2) := by decide +kernel
theorem dX6_depth_88 : decode cX6_depth 88 = .ok (.ireturn, 1) := by decide +kernel
set_option maxRecDepth 20000 in
theorem ggX6_isCounted_X4_areFulfilled : GoodIn wsX6_isCounted wsX4_areFulfilled := goodIn_r _ [7, 8, 9, 10, 11, 12, 13, 31, 32] (by decide +kernel) (by decide +kernel)
set_option maxRecDepth 20000 in
theorem gX6_isCounted_X4_areFulfilled : GoodIn wsX6_isCounted (wsV RX6 50 RX4 yX4_areFulfilled wsX4_areFulfilled) := goodIn_app (goodIn_of _ (by decide +kernel)) ggX6_isCounted_X4_areFulfilled
set_option maxRecDepth 20000 in
theorem ggX6_isCounted_X6_isTrue : GoodIn wsX6_isCounted wsX6_isTrue := goodIn_r _ [18, 19, 20, 21, 22, 12, 23, 3, 4, 5, 6, 7, 8, 9, 10, 11, 13, 33, 34, 35, 36, 37, 28, 29, 30, 31, 32] (by decide +kernel) (by decide +kernel)
set_option maxRecDepth 20000 in
theorem gX6_isCounted_X6_isTrue : GoodIn wsX6_isCounted (wsV RX6 53 RX6 yX6_isTrue wsX6_isTrue) := goodIn_app (goodIn_of _ (by decide +kernel)) ggX6_isCounted_X6_isTrue
set_option maxRecDepth 20000 in
theorem ggX6_isCounted_X6_isGrey : GoodIn wsX6_isCounted wsX6_isGrey := goodIn_r _ [27, 1, 2, 3, 4, 5, 6, 7, 8, 9, 10, 11, 12, 13, 28, 29, 30, 31, 32] (by decide +kernel) (by decide +kernel)
set_option maxRecDepth 20000 in
theorem gX6_isCounted_X6_isGrey : GoodIn wsX6_isCounted (wsV RX6 57 RX6 yX6_isGrey wsX6_isGrey) := goodIn_app (goodIn_of _ (by decide +kernel)) ggX6_isCounted_X6_isGrey
theorem dX6_isCounted_0 : decode cX6_isCounted 0 = .ok (.iload 4, 2) := by decide +kernel
theorem dX6_isCounted_2 : decode cX6_isCounted 2 = .ok (.tableswitch 62 0 3 #[30, 39, 48, 56], 30) := by decide +kernel
theorem dX6_isCounted_32 : decode cX6_isCounted 32 = .ok (.aload_n 0, 1) := by decide +kernel
theorem dX6_isCounted_33 : decode cX6_isCounted 33 = .ok (.getfield 20, 3) := by decide +kernel
theorem dX6_isCounted_36 : decode cX6_isCounted 36 = .ok (.iload_n 3, 1) := by decide +kernel
theorem dX6_isCounted_37 : decode cX6_isCounted 37 = .ok (.invokevirtual 50, 3) := by decide +kernel
theorem dX6_isCounted_40 : decode cX6_isCounted 40 = .ok (.ireturn, 1) := by decide +kernel
theorem dX6_isCounted_41 : decode cX6_isCounted 41 = .ok (.aload_n 0, 1) := by decide +kernel
theorem dX6_isCounted_42 : decode cX6_isCounted 42 = .ok (.getfield 23, 3) := by decide +kernel
theorem dX6_isCounted_45 : decode cX6_isCounted 45 = .ok (.iload_n 3, 1) := by decide +kernel
theorem dX6_isCounted_46 : decode cX6_isCounted 46 = .ok (.invokevirtual 50, 3) := by decide +kernel
theorem dX6_isCounted_49 : decode cX6_isCounted 49 = .ok (.ireturn, 1) := by decide +kernel
theorem dX6_isCounted_50 : decode cX6_isCounted 50 = .ok (.aload_n 0, 1) := by decide +kernel
theorem dX6_isCounted_51 : decode cX6_isCounted 51 = .ok (.aload_n 1, 1) := by decide +kernel
theorem dX6_isCounted_52 : decode cX6_isCounted 52 = .ok (.iload_n 2, 1) := by decide +kernel
theorem dX6_isCounted_53 : decode cX6_isCounted 53 = .ok (.iload_n 3, 1) := by decide +kernel
theorem dX6_isCounted_54 : decode cX6_isCounted 54 = .ok (.invokevirtual 53, 3) := by decide +kernel
theorem dX6_isCounted_57 : decode cX6_isCounted 57 = .ok (.ireturn, 1) := by decide +kernel
theorem dX6_isCounted_58 : decode cX6_isCounted 58 = .ok (.aload_n 0, 1) := by decide +kernel
theorem dX6_isCounted_59 : decode cX6_isCounted 59 = .ok (.iload_n 3, 1) := by decide +kernel
theorem dX6_isCounted_60 : decode cX6_isCounted 60 = .ok (.invokevirtual 57, 3) := by decide +kernel
theorem dX6_isCounted_63 : decode cX6_isCounted 63 = .ok (.ireturn, 1) := by decide +kernel
theorem dX6_isCounted_64 : decode cX6_isCounted 64 = .ok (.aload_n 0, 1) := by decide +kernel
theorem dX6_isCounted_65 : decode cX6_isCounted 65 = .ok (.iload_n 3, 1) := by decide +kernel
theorem dX6_isCounted_66 : decode cX6_isCounted 66 = .ok (.invokevirtual 57, 3) := by decide +kernel
theorem dX6_isCounted_69 : decode cX6_isCounted 69 = .ok (.ifCond .eq 17, 3) := by decide +kernel
theorem dX6_isCounted_72 : decode cX6_isCounted 72 = .ok (.aload_n 0, 1) := by decide +kernel
theorem dX6_isCounted_73 : decode cX6_isCounted 73 = .ok (.aload_n 1, 1) := by decide +kernel
theorem dX6_isCounted_74 : decode cX6_isCounted 74 = .ok (.iload_n 2, 1) := by decide +kernel
theorem dX6_isCounted_75 : decode cX6_isCounted 75 = .ok (.iload_n 3, 1) := by decide +kernel
theorem dX6_isCounted_76 : decode cX6_isCounted 76 = .ok (.invokevirtual 53, 3) := by decide +kernel
theorem dX6_isCounted_79 : decode cX6_isCounted 79 = .ok (.ifCond .eq 7, 3) := by decide +kernel
theorem dX6_isCounted_82 : decode cX6_isCounted 82 = .ok (.iconst 1, 1) := by decide +kernel
theorem dX6_isCounted_83 : decode cX6_isCounted 83 = .ok (.goto 4, 3) := by decide +kernel
theorem dX6_isCounted_86 : decode cX6_isCounted 86 = .ok (.iconst 0, 1) := by decide +kernel
theorem dX6_isCounted_87 : decode cX6_isCounted 87 = .ok (.ireturn, 1) := by decide +kernel
set_option maxRecDepth 20000 in
theorem ggX6_isGrey_X4_areFulfilled : GoodIn wsX6_isGrey wsX4_areFulfilled := goodIn_r _ [7, 8, 9, 10, 11, 12, 13, 17, 18] (by decide +kernel) (by decide +kernel)
set_option maxRecDepth 20000 in
theorem gX6_isGrey_X4_areFulfilled : GoodIn wsX6_isGrey (wsV RX6 50 RX4 yX4_areFulfilled wsX4_areFulfilled) := goodIn_app (goodIn_of _ (by decide +kernel)) ggX6_isGrey_X4_areFulfilled
theorem dX6_isGrey_0 : decode cX6_isGrey 0 = .ok (.aload_n 0, 1) := by decide +kernel
theorem dX6_isGrey_1 : decode cX6_isGrey 1 = .ok (.getfield 20, 3) := by decide +kernel
theorem dX6_isGrey_4 : decode cX6_isGrey 4 = .ok (.iload_n 1, 1) := by decide +kernel
theorem dX6_isGrey_5 : decode cX6_isGrey 5 = .ok (.invokevirtual 50, 3) := by decide +kernel
theorem dX6_isGrey_8 : decode cX6_isGrey 8 = .ok (.ifCond .eq 18, 3) := by decide +kernel
theorem dX6_isGrey_11 : decode cX6_isGrey 11 = .ok (.aload_n 0, 1) := by decide +kernel
theorem dX6_isGrey_12 : decode cX6_isGrey 12 = .ok (.getfield 23, 3) := by decide +kernel
theorem dX6_isGrey_15 : decode cX6_isGrey 15 = .ok (.iload_n 1, 1) := by decide +kernel
theorem dX6_isGrey_16 : decode cX6_isGrey 16 = .ok (.invokevirtual 50, 3) := by decide +kernel
theorem dX6_isGrey_19 : decode cX6_isGrey 19 = .ok (.ifCond .ne 7, 3) := by decide +kernel
theorem dX6_isGrey_22 : decode cX6_isGrey 22 = .ok (.iconst 1, 1) := by decide +kernel
theorem dX6_isGrey_23 : decode cX6_isGrey 23 = .ok (.goto 4, 3) := by decide +kernel
theorem dX6_isGrey_26 : decode cX6_isGrey 26 = .ok (.iconst 0, 1) := by decide +kernel
theorem dX6_isGrey_27 : decode cX6_isGrey 27 = .ok (.ireturn, 1) := by decide +kernel
set_option maxRecDepth 20000 in
theorem ggX6_isTrue_X3_withValue : GoodIn wsX6_isTrue wsX3_withValue := goodIn_r _ [6] (by decide +kernel) (by decide +kernel)
set_option maxRecDepth 20000 in
theorem gX6_isTrue_X3_withValue : GoodIn wsX6_isTrue (va_wsS RX6 64 yX3_withValue wsX3_withValue) := goodIn_app (goodIn_of _ (by decide +kernel)) ggX6_isTrue_X3_withValue
set_option maxRecDepth 20000 in
theorem ggX6_isTrue_X4_areFulfilled : GoodIn wsX6_isTrue wsX4_areFulfilled := goodIn_r _ [11, 12, 13, 14, 15, 5, 16, 25, 26] (by decide +kernel) (by decide +kernel)
set_option maxRecDepth 20000 in
theorem gX6_isTrue_X4_areFulfilled : GoodIn wsX6_isTrue (wsV RX6 50 RX4 yX4_areFulfilled wsX4_areFulfilled) := goodIn_app (goodIn_of _ (by decide +kernel)) ggX6_isTrue_X4_areFulfilled
theorem dX6_isTrue_0 : decode cX6_isTrue 0 = .ok (.iconst 0, 1) := by decide +kernel
theorem dX6_isTrue_1 : decode cX6_isTrue 1 = .ok (.istore 4, 2) := by decide +kernel
theorem dX6_isTrue_3 : decode cX6_isTrue 3 = .ok (.iload 4, 2) := by decide +kernel
theorem dX6_isTrue_5 : decode cX6_isTrue 5 = .ok (.aload_n 1, 1) := by decide +kernel
theorem dX6_isTrue_6 : decode cX6_isTrue 6 = .ok (.getfield 60, 3) := by decide +kernel
theorem dX6_isTrue_9 : decode cX6_isTrue 9 = .ok (.if_icmp .gt 28, 3) := by decide +kernel
theorem dX6_isTrue_12 : decode cX6_isTrue 12 = .ok (.aload_n 0, 1) := by decide +kernel
theorem dX6_isTrue_13 : decode cX6_isTrue 13 = .ok (.getfield 16, 3) := by decide +kernel
theorem dX6_isTrue_16 : decode cX6_isTrue 16 = .ok (.iload_n 3, 1) := by decide +kernel
theorem dX6_isTrue_17 : decode cX6_isTrue 17 = .ok (.iload_n 2, 1) := by decide +kernel
theorem dX6_isTrue_18 : decode cX6_isTrue 18 = .ok (.iload 4, 2) := by decide +kernel
theorem dX6_isTrue_20 : decode cX6_isTrue 20 = .ok (.invokestatic 64, 3) := by decide +kernel
theorem dX6_isTrue_23 : decode cX6_isTrue 23 = .ok (.invokevirtual 50, 3) := by decide +kernel
theorem dX6_isTrue_26 : decode cX6_isTrue 26 = .ok (.ifCond .eq 5, 3) := by decide +kernel
theorem dX6_isTrue_29 : decode cX6_isTrue 29 = .ok (.iconst 1, 1) := by decide +kernel
theorem dX6_isTrue_30 : decode cX6_isTrue 30 = .ok (.ireturn, 1) := by decide +kernel
theorem dX6_isTrue_31 : decode cX6_isTrue 31 = .ok (.iinc 4 1, 3) := by decide +kernel
theorem dX6_isTrue_34 : decode cX6_isTrue 34 = .ok (.goto (-31), 3) := by decide +kernel
theorem dX6_isTrue_37 : decode cX6_isTrue 37 = .ok (.iconst 0, 1) := by decide +kernel
theorem dX6_isTrue_38 : decode cX6_isTrue 38 = .ok (.ireturn, 1) := by decide +kernel
set_option maxRecDepth 20000 in
theorem ggX6_gatherRows_X9_cell : GoodIn wsX6_gatherRows wsX9_cell := goodIn_r _ [9, 10, 28, 29, 30, 31, 32] (by decide +kernel) (by decide +kernel)
set_option maxRecDepth 20000 in
theorem gX6_gatherRows_X9_cell : GoodIn wsX6_gatherRows (wsV RX6 72 RX9 yX9_cell wsX9_cell) := goodIn_app (goodIn_of _ (by decide +kernel)) ggX6_gatherRows_X9_cell
set_option maxRecDepth 20000 in
theorem ggX6_gatherRows_X4_putTold : GoodIn wsX6_gatherRows wsX4_putTold := goodIn_r _ [15, 16, 17, 18, 6, 7, 8, 9, 10, 26, 27, 28, 29, 30, 31, 32] (by decide +kernel) (by decide +kernel)
set_option maxRecDepth 20000 in
theorem gX6_gatherRows_X4_putTold : GoodIn wsX6_gatherRows (wsV RX6 75 RX4 yX4_putTold wsX4_putTold) := goodIn_app (goodIn_of _ (by decide +kernel)) ggX6_gatherRows_X4_putTold
set_option maxRecDepth 20000 in
theorem ggX6_gatherRows_X4_putBound : GoodIn wsX6_gatherRows wsX4_putBound := goodIn_r _ [22, 16, 17, 26, 27] (by decide +kernel) (by decide +kernel)
set_option maxRecDepth 20000 in
theorem gX6_gatherRows_X4_putBound : GoodIn wsX6_gatherRows (wsV RX6 79 RX4 yX4_putBound wsX4_putBound) := goodIn_app (goodIn_of _ (by decide +kernel)) ggX6_gatherRows_X4_putBound
theorem dX6_gatherRows_0 : decode cX6_gatherRows 0 = .ok (.aload_n 0, 1) := by decide +kernel
theorem dX6_gatherRows_1 : decode cX6_gatherRows 1 = .ok (.getfield 16, 3) := by decide +kernel
theorem dX6_gatherRows_4 : decode cX6_gatherRows 4 = .ok (.iconst 0, 1) := by decide +kernel
theorem dX6_gatherRows_5 : decode cX6_gatherRows 5 = .ok (.putfield 68, 3) := by decide +kernel
theorem dX6_gatherRows_8 : decode cX6_gatherRows 8 = .ok (.iconst 0, 1) := by decide +kernel
theorem dX6_gatherRows_9 : decode cX6_gatherRows 9 = .ok (.istore_n 3, 1) := by decide +kernel
theorem dX6_gatherRows_10 : decode cX6_gatherRows 10 = .ok (.iload_n 3, 1) := by decide +kernel
theorem dX6_gatherRows_11 : decode cX6_gatherRows 11 = .ok (.aload_n 1, 1) := by decide +kernel
theorem dX6_gatherRows_12 : decode cX6_gatherRows 12 = .ok (.getfield 71, 3) := by decide +kernel
theorem dX6_gatherRows_15 : decode cX6_gatherRows 15 = .ok (.if_icmp .ge 60, 3) := by decide +kernel
theorem dX6_gatherRows_18 : decode cX6_gatherRows 18 = .ok (.aload_n 1, 1) := by decide +kernel
theorem dX6_gatherRows_19 : decode cX6_gatherRows 19 = .ok (.iload_n 3, 1) := by decide +kernel
theorem dX6_gatherRows_20 : decode cX6_gatherRows 20 = .ok (.iconst 5, 1) := by decide +kernel
theorem dX6_gatherRows_21 : decode cX6_gatherRows 21 = .ok (.invokevirtual 72, 3) := by decide +kernel
theorem dX6_gatherRows_24 : decode cX6_gatherRows 24 = .ok (.istore 4, 2) := by decide +kernel
theorem dX6_gatherRows_26 : decode cX6_gatherRows 26 = .ok (.iload 4, 2) := by decide +kernel
theorem dX6_gatherRows_28 : decode cX6_gatherRows 28 = .ok (.ifCond .eq 9, 3) := by decide +kernel
theorem dX6_gatherRows_31 : decode cX6_gatherRows 31 = .ok (.iload 4, 2) := by decide +kernel
theorem dX6_gatherRows_33 : decode cX6_gatherRows 33 = .ok (.iconst 2, 1) := by decide +kernel
theorem dX6_gatherRows_34 : decode cX6_gatherRows 34 = .ok (.if_icmp .ne 13, 3) := by decide +kernel
theorem dX6_gatherRows_37 : decode cX6_gatherRows 37 = .ok (.aload_n 0, 1) := by decide +kernel
theorem dX6_gatherRows_38 : decode cX6_gatherRows 38 = .ok (.getfield 16, 3) := by decide +kernel
theorem dX6_gatherRows_41 : decode cX6_gatherRows 41 = .ok (.aload_n 1, 1) := by decide +kernel
theorem dX6_gatherRows_42 : decode cX6_gatherRows 42 = .ok (.iload_n 3, 1) := by decide +kernel
theorem dX6_gatherRows_43 : decode cX6_gatherRows 43 = .ok (.iconst 1, 1) := by decide +kernel
theorem dX6_gatherRows_44 : decode cX6_gatherRows 44 = .ok (.invokevirtual 75, 3) := by decide +kernel
theorem dX6_gatherRows_47 : decode cX6_gatherRows 47 = .ok (.iload 4, 2) := by decide +kernel
theorem dX6_gatherRows_49 : decode cX6_gatherRows 49 = .ok (.iconst 1, 1) := by decide +kernel
theorem dX6_gatherRows_50 : decode cX6_gatherRows 50 = .ok (.if_icmp .eq 9, 3) := by decide +kernel
theorem dX6_gatherRows_53 : decode cX6_gatherRows 53 = .ok (.iload 4, 2) := by decide +kernel
theorem dX6_gatherRows_55 : decode cX6_gatherRows 55 = .ok (.iconst 2, 1) := by decide +kernel
theorem dX6_gatherRows_56 : decode cX6_gatherRows 56 = .ok (.if_icmp .ne 13, 3) := by decide +kernel
theorem dX6_gatherRows_59 : decode cX6_gatherRows 59 = .ok (.aload_n 0, 1) := by decide +kernel
theorem dX6_gatherRows_60 : decode cX6_gatherRows 60 = .ok (.getfield 16, 3) := by decide +kernel
theorem dX6_gatherRows_63 : decode cX6_gatherRows 63 = .ok (.aload_n 1, 1) := by decide +kernel
theorem dX6_gatherRows_64 : decode cX6_gatherRows 64 = .ok (.iload_n 3, 1) := by decide +kernel
theorem dX6_gatherRows_65 : decode cX6_gatherRows 65 = .ok (.iconst (-1), 1) := by decide +kernel
theorem dX6_gatherRows_66 : decode cX6_gatherRows 66 = .ok (.invokevirtual 75, 3) := by decide +kernel
theorem dX6_gatherRows_69 : decode cX6_gatherRows 69 = .ok (.iinc 3 1, 3) := by decide +kernel
theorem dX6_gatherRows_72 : decode cX6_gatherRows 72 = .ok (.goto (-62), 3) := by decide +kernel
theorem dX6_gatherRows_75 : decode cX6_gatherRows 75 = .ok (.aload_n 0, 1) := by decide +kernel
theorem dX6_gatherRows_76 : decode cX6_gatherRows 76 = .ok (.getfield 16, 3) := by decide +kernel
theorem dX6_gatherRows_79 : decode cX6_gatherRows 79 = .ok (.iload_n 2, 1) := by decide +kernel
theorem dX6_gatherRows_80 : decode cX6_gatherRows 80 = .ok (.iconst 1, 1) := by decide +kernel
theorem dX6_gatherRows_81 : decode cX6_gatherRows 81 = .ok (.iconst 0, 1) := by decide +kernel
theorem dX6_gatherRows_82 : decode cX6_gatherRows 82 = .ok (.invokevirtual 79, 3) := by decide +kernel
theorem dX6_gatherRows_85 : decode cX6_gatherRows 85 = .ok (.aload_n 0, 1) := by decide +kernel
theorem dX6_gatherRows_86 : decode cX6_gatherRows 86 = .ok (.getfield 16, 3) := by decide +kernel
theorem dX6_gatherRows_89 : decode cX6_gatherRows 89 = .ok (.iload_n 2, 1) := by decide +kernel
theorem dX6_gatherRows_90 : decode cX6_gatherRows 90 = .ok (.iconst (-1), 1) := by decide +kernel
theorem dX6_gatherRows_91 : decode cX6_gatherRows 91 = .ok (.aload_n 1, 1) := by decide +kernel
theorem dX6_gatherRows_92 : decode cX6_gatherRows 92 = .ok (.getfield 60, 3) := by decide +kernel
theorem dX6_gatherRows_95 : decode cX6_gatherRows 95 = .ok (.invokevirtual 79, 3) := by decide +kernel
theorem dX6_gatherRows_98 : decode cX6_gatherRows 98 = .ok (.return_, 1) := by decide +kernel
set_option maxRecDepth 20000 in
theorem ggX6_castShadow_X4_cell : GoodIn wsX6_castShadow wsX4_cell := goodIn_r _ [7, 8, 35, 36] (by decide +kernel) (by decide +kernel)
set_option maxRecDepth 20000 in
theorem gX6_castShadow_X4_cell : GoodIn wsX6_castShadow (wsV RX6 83 RX4 yX4_cell wsX4_cell) := goodIn_app (goodIn_of _ (by decide +kernel)) ggX6_castShadow_X4_cell
set_option maxRecDepth 20000 in
theorem ggX6_castShadow_X4_putAlike : GoodIn wsX6_castShadow wsX4_putAlike := goodIn_r _ [12, 8, 13, 14, 4, 5, 6, 7, 15, 16, 17, 18, 19, 20, 21, 22, 23, 24, 25, 26, 27, 28, 29, 30, 35, 36] (by decide +kernel) (by decide +kernel)
set_option maxRecDepth 20000 in
theorem gX6_castShadow_X4_putAlike : GoodIn wsX6_castShadow (wsV RX6 84 RX4 yX4_putAlike wsX4_putAlike) := goodIn_app (goodIn_of _ (by decide +kernel)) ggX6_castShadow_X4_putAlike
set_option maxRecDepth 20000 in
theorem ggX6_castShadow_X4_putPair : GoodIn wsX6_castShadow wsX4_putPair := goodIn_r _ [34, 8, 13, 14, 4, 5, 6, 7, 15, 16, 17, 18, 19, 20, 21, 22, 23, 24, 25, 26, 27, 28, 29, 30, 35, 36] (by decide +kernel) (by decide +kernel)
set_option maxRecDepth 20000 in
theorem gX6_castShadow_X4_putPair : GoodIn wsX6_castShadow (wsV RX6 88 RX4 yX4_putPair wsX4_putPair) := goodIn_app (goodIn_of _ (by decide +kernel)) ggX6_castShadow_X4_putPair
theorem dX6_castShadow_0 : decode cX6_castShadow 0 = .ok (.aload_n 1, 1) := by decide +kernel
theorem dX6_castShadow_1 : decode cX6_castShadow 1 = .ok (.iconst 0, 1) := by decide +kernel
theorem dX6_castShadow_2 : decode cX6_castShadow 2 = .ok (.putfield 68, 3) := by decide +kernel
theorem dX6_castShadow_5 : decode cX6_castShadow 5 = .ok (.iconst 0, 1) := by decide +kernel
theorem dX6_castShadow_6 : decode cX6_castShadow 6 = .ok (.istore 4, 2) := by decide +kernel
theorem dX6_castShadow_8 : decode cX6_castShadow 8 = .ok (.iload 4, 2) := by decide +kernel
theorem dX6_castShadow_10 : decode cX6_castShadow 10 = .ok (.aload_n 0, 1) := by decide +kernel
theorem dX6_castShadow_11 : decode cX6_castShadow 11 = .ok (.getfield 16, 3) := by decide +kernel
theorem dX6_castShadow_14 : decode cX6_castShadow 14 = .ok (.getfield 68, 3) := by decide +kernel
theorem dX6_castShadow_17 : decode cX6_castShadow 17 = .ok (.if_icmp .ge 32, 3) := by decide +kernel
theorem dX6_castShadow_20 : decode cX6_castShadow 20 = .ok (.aload_n 0, 1) := by decide +kernel
theorem dX6_castShadow_21 : decode cX6_castShadow 21 = .ok (.getfield 16, 3) := by decide +kernel
theorem dX6_castShadow_24 : decode cX6_castShadow 24 = .ok (.iload 4, 2) := by decide +kernel
theorem dX6_castShadow_26 : decode cX6_castShadow 26 = .ok (.iload_n 2, 1) := by decide +kernel
theorem dX6_castShadow_27 : decode cX6_castShadow 27 = .ok (.invokevirtual 83, 3) := by decide +kernel
theorem dX6_castShadow_30 : decode cX6_castShadow 30 = .ok (.ifCond .ne 13, 3) := by decide +kernel
theorem dX6_castShadow_33 : decode cX6_castShadow 33 = .ok (.aload_n 1, 1) := by decide +kernel
theorem dX6_castShadow_34 : decode cX6_castShadow 34 = .ok (.aload_n 0, 1) := by decide +kernel
theorem dX6_castShadow_35 : decode cX6_castShadow 35 = .ok (.getfield 16, 3) := by decide +kernel
theorem dX6_castShadow_38 : decode cX6_castShadow 38 = .ok (.iload 4, 2) := by decide +kernel
theorem dX6_castShadow_40 : decode cX6_castShadow 40 = .ok (.invokevirtual 84, 3) := by decide +kernel
theorem dX6_castShadow_43 : decode cX6_castShadow 43 = .ok (.iinc 4 1, 3) := by decide +kernel
theorem dX6_castShadow_46 : decode cX6_castShadow 46 = .ok (.goto (-38), 3) := by decide +kernel
theorem dX6_castShadow_49 : decode cX6_castShadow 49 = .ok (.iconst 0, 1) := by decide +kernel
theorem dX6_castShadow_50 : decode cX6_castShadow 50 = .ok (.istore 4, 2) := by decide +kernel
theorem dX6_castShadow_52 : decode cX6_castShadow 52 = .ok (.iload 4, 2) := by decide +kernel
theorem dX6_castShadow_54 : decode cX6_castShadow 54 = .ok (.aload_n 0, 1) := by decide +kernel
theorem dX6_castShadow_55 : decode cX6_castShadow 55 = .ok (.getfield 16, 3) := by decide +kernel
theorem dX6_castShadow_58 : decode cX6_castShadow 58 = .ok (.getfield 68, 3) := by decide +kernel
theorem dX6_castShadow_61 : decode cX6_castShadow 61 = .ok (.if_icmp .ge 70, 3) := by decide +kernel
theorem dX6_castShadow_64 : decode cX6_castShadow 64 = .ok (.iconst 0, 1) := by decide +kernel
theorem dX6_castShadow_65 : decode cX6_castShadow 65 = .ok (.istore 5, 2) := by decide +kernel
theorem dX6_castShadow_67 : decode cX6_castShadow 67 = .ok (.iload 5, 2) := by decide +kernel
theorem dX6_castShadow_69 : decode cX6_castShadow 69 = .ok (.aload_n 0, 1) := by decide +kernel
theorem dX6_castShadow_70 : decode cX6_castShadow 70 = .ok (.getfield 16, 3) := by decide +kernel
theorem dX6_castShadow_73 : decode cX6_castShadow 73 = .ok (.getfield 68, 3) := by decide +kernel
theorem dX6_castShadow_76 : decode cX6_castShadow 76 = .ok (.if_icmp .ge 49, 3) := by decide +kernel
theorem dX6_castShadow_79 : decode cX6_castShadow 79 = .ok (.aload_n 0, 1) := by decide +kernel
theorem dX6_castShadow_80 : decode cX6_castShadow 80 = .ok (.getfield 16, 3) := by decide +kernel
theorem dX6_castShadow_83 : decode cX6_castShadow 83 = .ok (.iload 4, 2) := by decide +kernel
theorem dX6_castShadow_85 : decode cX6_castShadow 85 = .ok (.iload_n 2, 1) := by decide +kernel
theorem dX6_castShadow_86 : decode cX6_castShadow 86 = .ok (.invokevirtual 83, 3) := by decide +kernel
theorem dX6_castShadow_89 : decode cX6_castShadow 89 = .ok (.ifCond .le 30, 3) := by decide +kernel
theorem dX6_castShadow_92 : decode cX6_castShadow 92 = .ok (.aload_n 0, 1) := by decide +kernel
theorem dX6_castShadow_93 : decode cX6_castShadow 93 = .ok (.getfield 16, 3) := by decide +kernel
theorem dX6_castShadow_96 : decode cX6_castShadow 96 = .ok (.iload 5, 2) := by decide +kernel
theorem dX6_castShadow_98 : decode cX6_castShadow 98 = .ok (.iload_n 2, 1) := by decide +kernel
theorem dX6_castShadow_99 : decode cX6_castShadow 99 = .ok (.invokevirtual 83, 3) := by decide +kernel
theorem dX6_castShadow_102 : decode cX6_castShadow 102 = .ok (.ifCond .ge 17, 3) := by decide +kernel
theorem dX6_castShadow_105 : decode cX6_castShadow 105 = .ok (.aload_n 1, 1) := by decide +kernel
theorem dX6_castShadow_106 : decode cX6_castShadow 106 = .ok (.aload_n 0, 1) := by decide +kernel
theorem dX6_castShadow_107 : decode cX6_castShadow 107 = .ok (.getfield 16, 3) := by decide +kernel
theorem dX6_castShadow_110 : decode cX6_castShadow 110 = .ok (.iload 4, 2) := by decide +kernel
theorem dX6_castShadow_112 : decode cX6_castShadow 112 = .ok (.iload 5, 2) := by decide +kernel
theorem dX6_castShadow_114 : decode cX6_castShadow 114 = .ok (.iload_n 2, 1) := by decide +kernel
theorem dX6_castShadow_115 : decode cX6_castShadow 115 = .ok (.iload_n 3, 1) := by decide +kernel
theorem dX6_castShadow_116 : decode cX6_castShadow 116 = .ok (.invokevirtual 88, 3) := by decide +kernel
theorem dX6_castShadow_119 : decode cX6_castShadow 119 = .ok (.iinc 5 1, 3) := by decide +kernel
theorem dX6_castShadow_122 : decode cX6_castShadow 122 = .ok (.goto (-55), 3) := by decide +kernel
theorem dX6_castShadow_125 : decode cX6_castShadow 125 = .ok (.iinc 4 1, 3) := by decide +kernel
theorem dX6_castShadow_128 : decode cX6_castShadow 128 = .ok (.goto (-76), 3) := by decide +kernel
theorem dX6_castShadow_131 : decode cX6_castShadow 131 = .ok (.return_, 1) := by decide +kernel
theorem dX7_init_0 : decode cX7_init 0 = .ok (.aload_n 0, 1) := by decide +kernel
theorem dX7_init_1 : decode cX7_init 1 = .ok (.invokespecial 3, 3) := by decide +kernel
theorem dX7_init_4 : decode cX7_init 4 = .ok (.aload_n 0, 1) := by decide +kernel
theorem dX7_init_5 : decode cX7_init 5 = .ok (.bipush 96, 2) := by decide +kernel
theorem dX7_init_7 : decode cX7_init 7 = .ok (.newarray .long, 2) := by decide +kernel
theorem dX7_init_9 : decode cX7_init 9 = .ok (.putfield 9, 3) := by decide +kernel
theorem dX7_init_12 : decode cX7_init 12 = .ok (.aload_n 0, 1) := by decide +kernel
theorem dX7_init_13 : decode cX7_init 13 = .ok (.iconst 4, 1) := by decide +kernel
theorem dX7_init_14 : decode cX7_init 14 = .ok (.newarray .int, 2) := by decide +kernel
theorem dX7_init_16 : decode cX7_init 16 = .ok (.putfield 15, 3) := by decide +kernel
theorem dX7_init_19 : decode cX7_init 19 = .ok (.aload_n 0, 1) := by decide +kernel
theorem dX7_init_20 : decode cX7_init 20 = .ok (.iconst 4, 1) := by decide +kernel
theorem dX7_init_21 : decode cX7_init 21 = .ok (.newarray .int, 2) := by decide +kernel
theorem dX7_init_23 : decode cX7_init 23 = .ok (.putfield 19, 3) := by decide +kernel
theorem dX7_init_26 : decode cX7_init 26 = .ok (.iconst 0, 1) := by decide +kernel
theorem dX7_init_27 : decode cX7_init 27 = .ok (.istore_n 1, 1) := by decide +kernel
theorem dX7_init_28 : decode cX7_init 28 = .ok (.iload_n 1, 1) := by decide +kernel
theorem dX7_init_29 : decode cX7_init 29 = .ok (.iconst 4, 1) := by decide +kernel
theorem dX7_init_30 : decode cX7_init 30 = .ok (.if_icmp .ge 16, 3) := by decide +kernel
theorem dX7_init_33 : decode cX7_init 33 = .ok (.aload_n 0, 1) := by decide +kernel
theorem dX7_init_34 : decode cX7_init 34 = .ok (.getfield 15, 3) := by decide +kernel
theorem dX7_init_37 : decode cX7_init 37 = .ok (.iload_n 1, 1) := by decide +kernel
theorem dX7_init_38 : decode cX7_init 38 = .ok (.iconst (-1), 1) := by decide +kernel
theorem dX7_init_39 : decode cX7_init 39 = .ok (.iastore, 1) := by decide +kernel
theorem dX7_init_40 : decode cX7_init 40 = .ok (.iinc 1 1, 3) := by decide +kernel
theorem dX7_init_43 : decode cX7_init 43 = .ok (.goto (-15), 3) := by decide +kernel
theorem dX7_init_46 : decode cX7_init 46 = .ok (.return_, 1) := by decide +kernel
theorem dX7_holdsNothing_0 : decode cX7_holdsNothing 0 = .ok (.aload_n 0, 1) := by decide +kernel
theorem dX7_holdsNothing_1 : decode cX7_holdsNothing 1 = .ok (.getfield 15, 3) := by decide +kernel
theorem dX7_holdsNothing_4 : decode cX7_holdsNothing 4 = .ok (.iload_n 1, 1) := by decide +kernel
theorem dX7_holdsNothing_5 : decode cX7_holdsNothing 5 = .ok (.iaload, 1) := by decide +kernel
theorem dX7_holdsNothing_6 : decode cX7_holdsNothing 6 = .ok (.iconst (-1), 1) := by decide +kernel
theorem dX7_holdsNothing_7 : decode cX7_holdsNothing 7 = .ok (.if_icmp .ne 7, 3) := by decide +kernel
theorem dX7_holdsNothing_10 : decode cX7_holdsNothing 10 = .ok (.iconst 1, 1) := by decide +kernel
theorem dX7_holdsNothing_11 : decode cX7_holdsNothing 11 = .ok (.goto 4, 3) := by decide +kernel
theorem dX7_holdsNothing_14 : decode cX7_holdsNothing 14 = .ok (.iconst 0, 1) := by decide +kernel
theorem dX7_holdsNothing_15 : decode cX7_holdsNothing 15 = .ok (.ireturn, 1) := by decide +kernel
theorem dX7_isBeyond_0 : decode cX7_isBeyond 0 = .ok (.iload_n 2, 1) := by decide +kernel
theorem dX7_isBeyond_1 : decode cX7_isBeyond 1 = .ok (.ifCond .lt 19, 3) := by decide +kernel
theorem dX7_isBeyond_4 : decode cX7_isBeyond 4 = .ok (.iload_n 3, 1) := by decide +kernel
theorem dX7_isBeyond_5 : decode cX7_isBeyond 5 = .ok (.ifCond .lt 15, 3) := by decide +kernel
theorem dX7_isBeyond_8 : decode cX7_isBeyond 8 = .ok (.iload_n 2, 1) := by decide +kernel
theorem dX7_isBeyond_9 : decode cX7_isBeyond 9 = .ok (.aload_n 0, 1) := by decide +kernel
theorem dX7_isBeyond_10 : decode cX7_isBeyond 10 = .ok (.getfield 19, 3) := by decide +kernel
theorem dX7_isBeyond_13 : decode cX7_isBeyond 13 = .ok (.iload_n 1, 1) := by decide +kernel
theorem dX7_isBeyond_14 : decode cX7_isBeyond 14 = .ok (.iaload, 1) := by decide +kernel
theorem dX7_isBeyond_15 : decode cX7_isBeyond 15 = .ok (.iload_n 3, 1) := by decide +kernel
theorem dX7_isBeyond_16 : decode cX7_isBeyond 16 = .ok (.isub, 1) := by decide +kernel
theorem dX7_isBeyond_17 : decode cX7_isBeyond 17 = .ok (.if_icmp .le 7, 3) := by decide +kernel
theorem dX7_isBeyond_20 : decode cX7_isBeyond 20 = .ok (.iconst 1, 1) := by decide +kernel
theorem dX7_isBeyond_21 : decode cX7_isBeyond 21 = .ok (.goto 4, 3) := by decide +kernel
theorem dX7_isBeyond_24 : decode cX7_isBeyond 24 = .ok (.iconst 0, 1) := by decide +kernel
theorem dX7_isBeyond_25 : decode cX7_isBeyond 25 = .ok (.ireturn, 1) := by decide +kernel
set_option maxRecDepth 20000 in
theorem ggX7_refusal_X7_holdsNothing : GoodIn wsX7_refusal wsX7_holdsNothing := goodIn_r _ [9, 2, 15, 16, 17] (by decide +kernel) (by decide +kernel)
set_option maxRecDepth 20000 in
theorem gX7_refusal_X7_holdsNothing : GoodIn wsX7_refusal (wsV RX7 22 RX7 yX7_holdsNothing wsX7_holdsNothing) := goodIn_app (goodIn_of _ (by decide +kernel)) ggX7_refusal_X7_holdsNothing
set_option maxRecDepth 20000 in
theorem ggX7_refusal_X7_isBeyond : GoodIn wsX7_refusal wsX7_isBeyond := goodIn_r _ [13, 14, 15, 16, 17] (by decide +kernel) (by decide +kernel)
set_option maxRecDepth 20000 in
theorem gX7_refusal_X7_isBeyond : GoodIn wsX7_refusal (wsV RX7 28 RX7 yX7_isBeyond wsX7_isBeyond) := goodIn_app (goodIn_of _ (by decide +kernel)) ggX7_refusal_X7_isBeyond
theorem dX7_refusal_0 : decode cX7_refusal 0 = .ok (.aload_n 0, 1) := by decide +kernel
theorem dX7_refusal_1 : decode cX7_refusal 1 = .ok (.iload_n 1, 1) := by decide +kernel
theorem dX7_refusal_2 : decode cX7_refusal 2 = .ok (.invokevirtual 22, 3) := by decide +kernel
theorem dX7_refusal_5 : decode cX7_refusal 5 = .ok (.ifCond .eq 6, 3) := by decide +kernel
theorem dX7_refusal_8 : decode cX7_refusal 8 = .ok (.ldc 26, 2) := by decide +kernel
theorem dX7_refusal_10 : decode cX7_refusal 10 = .ok (.ireturn, 1) := by decide +kernel
theorem dX7_refusal_11 : decode cX7_refusal 11 = .ok (.aload_n 0, 1) := by decide +kernel
theorem dX7_refusal_12 : decode cX7_refusal 12 = .ok (.getfield 15, 3) := by decide +kernel
theorem dX7_refusal_15 : decode cX7_refusal 15 = .ok (.iload_n 1, 1) := by decide +kernel
theorem dX7_refusal_16 : decode cX7_refusal 16 = .ok (.iaload, 1) := by decide +kernel
theorem dX7_refusal_17 : decode cX7_refusal 17 = .ok (.iload_n 2, 1) := by decide +kernel
theorem dX7_refusal_18 : decode cX7_refusal 18 = .ok (.if_icmp .eq 6, 3) := by decide +kernel
theorem dX7_refusal_21 : decode cX7_refusal 21 = .ok (.ldc 27, 2) := by decide +kernel
theorem dX7_refusal_23 : decode cX7_refusal 23 = .ok (.ireturn, 1) := by decide +kernel
theorem dX7_refusal_24 : decode cX7_refusal 24 = .ok (.aload_n 0, 1) := by decide +kernel
theorem dX7_refusal_25 : decode cX7_refusal 25 = .ok (.iload_n 1, 1) := by decide +kernel
theorem dX7_refusal_26 : decode cX7_refusal 26 = .ok (.iload_n 3, 1) := by decide +kernel
theorem dX7_refusal_27 : decode cX7_refusal 27 = .ok (.iload 4, 2) := by decide +kernel
theorem dX7_refusal_29 : decode cX7_refusal 29 = .ok (.invokevirtual 28, 3) := by decide +kernel
theorem dX7_refusal_32 : decode cX7_refusal 32 = .ok (.ifCond .eq 8, 3) := by decide +kernel
theorem dX7_refusal_35 : decode cX7_refusal 35 = .ok (.ldc 32, 2) := by decide +kernel
theorem dX7_refusal_37 : decode cX7_refusal 37 = .ok (.goto 4, 3) := by decide +kernel
theorem dX7_refusal_40 : decode cX7_refusal 40 = .ok (.iconst 0, 1) := by decide +kernel
theorem dX7_refusal_41 : decode cX7_refusal 41 = .ok (.ireturn, 1) := by decide +kernel
set_option maxRecDepth 20000 in
theorem ggX7_arePoints_X7_get : GoodIn wsX7_arePoints wsX7_get := goodIn_r _ [6, 7, 8, 9, 10] (by decide +kernel) (by decide +kernel)
set_option maxRecDepth 20000 in
theorem gX7_arePoints_X7_get : GoodIn wsX7_arePoints (wsV RX7 33 RX7 yX7_get wsX7_get) := goodIn_app (goodIn_of _ (by decide +kernel)) ggX7_arePoints_X7_get
theorem dX7_arePoints_0 : decode cX7_arePoints 0 = .ok (.iconst 0, 1) := by decide +kernel
theorem dX7_arePoints_1 : decode cX7_arePoints 1 = .ok (.istore 4, 2) := by decide +kernel
theorem dX7_arePoints_3 : decode cX7_arePoints 3 = .ok (.iload 4, 2) := by decide +kernel
theorem dX7_arePoints_5 : decode cX7_arePoints 5 = .ok (.iload_n 3, 1) := by decide +kernel
theorem dX7_arePoints_6 : decode cX7_arePoints 6 = .ok (.if_icmp .ge 38, 3) := by decide +kernel
theorem dX7_arePoints_9 : decode cX7_arePoints 9 = .ok (.aload_n 0, 1) := by decide +kernel
theorem dX7_arePoints_10 : decode cX7_arePoints 10 = .ok (.iload_n 1, 1) := by decide +kernel
theorem dX7_arePoints_11 : decode cX7_arePoints 11 = .ok (.iload_n 2, 1) := by decide +kernel
theorem dX7_arePoints_12 : decode cX7_arePoints 12 = .ok (.iload 4, 2) := by decide +kernel
theorem dX7_arePoints_14 : decode cX7_arePoints 14 = .ok (.iadd, 1) := by decide +kernel
theorem dX7_arePoints_15 : decode cX7_arePoints 15 = .ok (.invokevirtual 33, 3) := by decide +kernel
theorem dX7_arePoints_18 : decode cX7_arePoints 18 = .ok (.lstore 5, 2) := by decide +kernel
theorem dX7_arePoints_20 : decode cX7_arePoints 20 = .ok (.lload 5, 2) := by decide +kernel
theorem dX7_arePoints_22 : decode cX7_arePoints 22 = .ok (.lconst 0, 1) := by decide +kernel
theorem dX7_arePoints_23 : decode cX7_arePoints 23 = .ok (.lcmp, 1) := by decide +kernel
theorem dX7_arePoints_24 : decode cX7_arePoints 24 = .ok (.ifCond .lt 12, 3) := by decide +kernel
theorem dX7_arePoints_27 : decode cX7_arePoints 27 = .ok (.lload 5, 2) := by decide +kernel
theorem dX7_arePoints_29 : decode cX7_arePoints 29 = .ok (.ldc2_w 37, 3) := by decide +kernel
theorem dX7_arePoints_32 : decode cX7_arePoints 32 = .ok (.lcmp, 1) := by decide +kernel
theorem dX7_arePoints_33 : decode cX7_arePoints 33 = .ok (.ifCond .le 5, 3) := by decide +kernel
theorem dX7_arePoints_36 : decode cX7_arePoints 36 = .ok (.iconst 0, 1) := by decide +kernel
theorem dX7_arePoints_37 : decode cX7_arePoints 37 = .ok (.ireturn, 1) := by decide +kernel
theorem dX7_arePoints_38 : decode cX7_arePoints 38 = .ok (.iinc 4 1, 3) := by decide +kernel
theorem dX7_arePoints_41 : decode cX7_arePoints 41 = .ok (.goto (-38), 3) := by decide +kernel
theorem dX7_arePoints_44 : decode cX7_arePoints 44 = .ok (.iconst 1, 1) := by decide +kernel
theorem dX7_arePoints_45 : decode cX7_arePoints 45 = .ok (.ireturn, 1) := by decide +kernel
set_option maxRecDepth 20000 in
theorem ggX7_lay_X7_put : GoodIn wsX7_lay wsX7_put := goodIn_r _ [7, 8, 1, 9, 10, 6, 11, 12, 13, 14] (by decide +kernel) (by decide +kernel)
set_option maxRecDepth 20000 in
theorem gX7_lay_X7_put : GoodIn wsX7_lay (wsV RX7 39 RX7 yX7_put wsX7_put) := goodIn_app (goodIn_of _ (by decide +kernel)) ggX7_lay_X7_put
theorem dX7_lay_0 : decode cX7_lay 0 = .ok (.aload_n 0, 1) := by decide +kernel
theorem dX7_lay_1 : decode cX7_lay 1 = .ok (.getfield 15, 3) := by decide +kernel
theorem dX7_lay_4 : decode cX7_lay 4 = .ok (.iload_n 1, 1) := by decide +kernel
theorem dX7_lay_5 : decode cX7_lay 5 = .ok (.iload_n 2, 1) := by decide +kernel
theorem dX7_lay_6 : decode cX7_lay 6 = .ok (.iastore, 1) := by decide +kernel
theorem dX7_lay_7 : decode cX7_lay 7 = .ok (.aload_n 0, 1) := by decide +kernel
theorem dX7_lay_8 : decode cX7_lay 8 = .ok (.getfield 19, 3) := by decide +kernel
theorem dX7_lay_11 : decode cX7_lay 11 = .ok (.iload_n 1, 1) := by decide +kernel
theorem dX7_lay_12 : decode cX7_lay 12 = .ok (.iload_n 3, 1) := by decide +kernel
theorem dX7_lay_13 : decode cX7_lay 13 = .ok (.iastore, 1) := by decide +kernel
theorem dX7_lay_14 : decode cX7_lay 14 = .ok (.iconst 0, 1) := by decide +kernel
theorem dX7_lay_15 : decode cX7_lay 15 = .ok (.istore 4, 2) := by decide +kernel
theorem dX7_lay_17 : decode cX7_lay 17 = .ok (.iload 4, 2) := by decide +kernel
theorem dX7_lay_19 : decode cX7_lay 19 = .ok (.iload_n 3, 1) := by decide +kernel
theorem dX7_lay_20 : decode cX7_lay 20 = .ok (.if_icmp .ge 17, 3) := by decide +kernel
theorem dX7_lay_23 : decode cX7_lay 23 = .ok (.aload_n 0, 1) := by decide +kernel
theorem dX7_lay_24 : decode cX7_lay 24 = .ok (.iload_n 1, 1) := by decide +kernel
theorem dX7_lay_25 : decode cX7_lay 25 = .ok (.iload 4, 2) := by decide +kernel
theorem dX7_lay_27 : decode cX7_lay 27 = .ok (.lconst 0, 1) := by decide +kernel
theorem dX7_lay_28 : decode cX7_lay 28 = .ok (.invokevirtual 39, 3) := by decide +kernel
theorem dX7_lay_31 : decode cX7_lay 31 = .ok (.iinc 4 1, 3) := by decide +kernel
theorem dX7_lay_34 : decode cX7_lay 34 = .ok (.goto (-17), 3) := by decide +kernel
theorem dX7_lay_37 : decode cX7_lay 37 = .ok (.return_, 1) := by decide +kernel
theorem dX7_takeAway_0 : decode cX7_takeAway 0 = .ok (.aload_n 0, 1) := by decide +kernel
theorem dX7_takeAway_1 : decode cX7_takeAway 1 = .ok (.getfield 15, 3) := by decide +kernel
theorem dX7_takeAway_4 : decode cX7_takeAway 4 = .ok (.iload_n 1, 1) := by decide +kernel
theorem dX7_takeAway_5 : decode cX7_takeAway 5 = .ok (.iconst (-1), 1) := by decide +kernel
theorem dX7_takeAway_6 : decode cX7_takeAway 6 = .ok (.iastore, 1) := by decide +kernel
theorem dX7_takeAway_7 : decode cX7_takeAway 7 = .ok (.aload_n 0, 1) := by decide +kernel
theorem dX7_takeAway_8 : decode cX7_takeAway 8 = .ok (.getfield 19, 3) := by decide +kernel
theorem dX7_takeAway_11 : decode cX7_takeAway 11 = .ok (.iload_n 1, 1) := by decide +kernel
theorem dX7_takeAway_12 : decode cX7_takeAway 12 = .ok (.iaload, 1) := by decide +kernel
theorem dX7_takeAway_13 : decode cX7_takeAway 13 = .ok (.ireturn, 1) := by decide +kernel
theorem dX7_get_0 : decode cX7_get 0 = .ok (.aload_n 0, 1) := by decide +kernel
theorem dX7_get_1 : decode cX7_get 1 = .ok (.getfield 9, 3) := by decide +kernel
theorem dX7_get_4 : decode cX7_get 4 = .ok (.iload_n 1, 1) := by decide +kernel
theorem dX7_get_5 : decode cX7_get 5 = .ok (.bipush 24, 2) := by decide +kernel
theorem dX7_get_7 : decode cX7_get 7 = .ok (.imul, 1) := by decide +kernel
theorem dX7_get_8 : decode cX7_get 8 = .ok (.iload_n 2, 1) := by decide +kernel
theorem dX7_get_9 : decode cX7_get 9 = .ok (.iadd, 1) := by decide +kernel
theorem dX7_get_10 : decode cX7_get 10 = .ok (.laload, 1) := by decide +kernel
theorem dX7_get_11 : decode cX7_get 11 = .ok (.lreturn, 1) := by decide +kernel
set_option maxRecDepth 20000 in
theorem ggX7_put_X7_lowestBits : GoodIn wsX7_put wsX7_lowestBits := goodIn_r _ [6] (by decide +kernel) (by decide +kernel)
set_option maxRecDepth 20000 in
theorem gX7_put_X7_lowestBits : GoodIn wsX7_put (va_wsS RX7 43 yX7_lowestBits wsX7_lowestBits) := goodIn_app (goodIn_of _ (by decide +kernel)) ggX7_put_X7_lowestBits
theorem dX7_put_0 : decode cX7_put 0 = .ok (.aload_n 0, 1) := by decide +kernel
theorem dX7_put_1 : decode cX7_put 1 = .ok (.getfield 9, 3) := by decide +kernel
theorem dX7_put_4 : decode cX7_put 4 = .ok (.iload_n 1, 1) := by decide +kernel
theorem dX7_put_5 : decode cX7_put 5 = .ok (.bipush 24, 2) := by decide +kernel
theorem dX7_put_7 : decode cX7_put 7 = .ok (.imul, 1) := by decide +kernel
theorem dX7_put_8 : decode cX7_put 8 = .ok (.iload_n 2, 1) := by decide +kernel
theorem dX7_put_9 : decode cX7_put 9 = .ok (.iadd, 1) := by decide +kernel
theorem dX7_put_10 : decode cX7_put 10 = .ok (.aload_n 0, 1) := by decide +kernel
theorem dX7_put_11 : decode cX7_put 11 = .ok (.getfield 15, 3) := by decide +kernel
theorem dX7_put_14 : decode cX7_put 14 = .ok (.iload_n 1, 1) := by decide +kernel
theorem dX7_put_15 : decode cX7_put 15 = .ok (.iaload, 1) := by decide +kernel
theorem dX7_put_16 : decode cX7_put 16 = .ok (.lload_n 3, 1) := by decide +kernel
theorem dX7_put_17 : decode cX7_put 17 = .ok (.invokestatic 43, 3) := by decide +kernel
theorem dX7_put_20 : decode cX7_put 20 = .ok (.lastore, 1) := by decide +kernel
theorem dX7_put_21 : decode cX7_put 21 = .ok (.return_, 1) := by decide +kernel
theorem dX7_lowestBits_0 : decode cX7_lowestBits 0 = .ok (.iload_n 0, 1) := by decide +kernel
theorem dX7_lowestBits_1 : decode cX7_lowestBits 1 = .ok (.tableswitch 41 0 2 #[27, 32, 37], 27) := by decide +kernel
theorem dX7_lowestBits_28 : decode cX7_lowestBits 28 = .ok (.lload_n 1, 1) := by decide +kernel
theorem dX7_lowestBits_29 : decode cX7_lowestBits 29 = .ok (.l2i, 1) := by decide +kernel
theorem dX7_lowestBits_30 : decode cX7_lowestBits 30 = .ok (.i2b, 1) := by decide +kernel
theorem dX7_lowestBits_31 : decode cX7_lowestBits 31 = .ok (.i2l, 1) := by decide +kernel
theorem dX7_lowestBits_32 : decode cX7_lowestBits 32 = .ok (.lreturn, 1) := by decide +kernel
theorem dX7_lowestBits_33 : decode cX7_lowestBits 33 = .ok (.lload_n 1, 1) := by decide +kernel
theorem dX7_lowestBits_34 : decode cX7_lowestBits 34 = .ok (.l2i, 1) := by decide +kernel
theorem dX7_lowestBits_35 : decode cX7_lowestBits 35 = .ok (.i2s, 1) := by decide +kernel
theorem dX7_lowestBits_36 : decode cX7_lowestBits 36 = .ok (.i2l, 1) := by decide +kernel
theorem dX7_lowestBits_37 : decode cX7_lowestBits 37 = .ok (.lreturn, 1) := by decide +kernel
theorem dX7_lowestBits_38 : decode cX7_lowestBits 38 = .ok (.lload_n 1, 1) := by decide +kernel
theorem dX7_lowestBits_39 : decode cX7_lowestBits 39 = .ok (.l2i, 1) := by decide +kernel
theorem dX7_lowestBits_40 : decode cX7_lowestBits 40 = .ok (.i2l, 1) := by decide +kernel
theorem dX7_lowestBits_41 : decode cX7_lowestBits 41 = .ok (.lreturn, 1) := by decide +kernel
theorem dX7_lowestBits_42 : decode cX7_lowestBits 42 = .ok (.lload_n 1, 1) := by decide +kernel
theorem dX7_lowestBits_43 : decode cX7_lowestBits 43 = .ok (.lreturn, 1) := by decide +kernel
set_option maxRecDepth 20000 in
theorem ggX8_init_X9_init : GoodIn wsX8_init wsX9_init := goodIn_r _ [12, 13, 2, 3, 14, 15, 16, 17, 24, 25, 26, 27, 28] (by decide +kernel) (by decide +kernel)
set_option maxRecDepth 20000 in
theorem gX8_init_X9_init : GoodIn wsX8_init (wsX9_init) := ggX8_init_X9_init
theorem dX8_init_0 : decode cX8_init 0 = .ok (.aload_n 0, 1) := by decide +kernel
theorem dX8_init_1 : decode cX8_init 1 = .ok (.invokespecial 3, 3) := by decide +kernel
theorem dX8_init_4 : decode cX8_init 4 = .ok (.aload_n 0, 1) := by decide +kernel
theorem dX8_init_5 : decode cX8_init 5 = .ok (.sipush 130, 3) := by decide +kernel
theorem dX8_init_8 : decode cX8_init 8 = .ok (.newarray .char, 2) := by decide +kernel
theorem dX8_init_10 : decode cX8_init 10 = .ok (.putfield 11, 3) := by decide +kernel
theorem dX8_init_13 : decode cX8_init 13 = .ok (.aload_n 0, 1) := by decide +kernel
theorem dX8_init_14 : decode cX8_init 14 = .ok (.new 15, 3) := by decide +kernel
theorem dX8_init_17 : decode cX8_init 17 = .ok (.dup, 1) := by decide +kernel
theorem dX8_init_18 : decode cX8_init 18 = .ok (.invokespecial 17, 3) := by decide +kernel
theorem dX8_init_21 : decode cX8_init 21 = .ok (.putfield 18, 3) := by decide +kernel
theorem dX8_init_24 : decode cX8_init 24 = .ok (.return_, 1) := by decide +kernel
theorem dX8_isFull_0 : decode cX8_isFull 0 = .ok (.aload_n 0, 1) := by decide +kernel
theorem dX8_isFull_1 : decode cX8_isFull 1 = .ok (.getfield 22, 3) := by decide +kernel
theorem dX8_isFull_4 : decode cX8_isFull 4 = .ok (.sipush 130, 3) := by decide +kernel
theorem dX8_isFull_7 : decode cX8_isFull 7 = .ok (.if_icmp .lt 7, 3) := by decide +kernel
theorem dX8_isFull_10 : decode cX8_isFull 10 = .ok (.iconst 1, 1) := by decide +kernel
theorem dX8_isFull_11 : decode cX8_isFull 11 = .ok (.goto 4, 3) := by decide +kernel
theorem dX8_isFull_14 : decode cX8_isFull 14 = .ok (.iconst 0, 1) := by decide +kernel
theorem dX8_isFull_15 : decode cX8_isFull 15 = .ok (.ireturn, 1) := by decide +kernel
theorem dX8_append_0 : decode cX8_append 0 = .ok (.aload_n 0, 1) := by decide +kernel
theorem dX8_append_1 : decode cX8_append 1 = .ok (.getfield 11, 3) := by decide +kernel
theorem dX8_append_4 : decode cX8_append 4 = .ok (.aload_n 0, 1) := by decide +kernel
theorem dX8_append_5 : decode cX8_append 5 = .ok (.getfield 22, 3) := by decide +kernel
theorem dX8_append_8 : decode cX8_append 8 = .ok (.iload_n 1, 1) := by decide +kernel
theorem dX8_append_9 : decode cX8_append 9 = .ok (.castore, 1) := by decide +kernel
theorem dX8_append_10 : decode cX8_append 10 = .ok (.aload_n 0, 1) := by decide +kernel
theorem dX8_append_11 : decode cX8_append 11 = .ok (.dup, 1) := by decide +kernel
theorem dX8_append_12 : decode cX8_append 12 = .ok (.getfield 22, 3) := by decide +kernel
theorem dX8_append_15 : decode cX8_append 15 = .ok (.iconst 1, 1) := by decide +kernel
theorem dX8_append_16 : decode cX8_append 16 = .ok (.iadd, 1) := by decide +kernel
theorem dX8_append_17 : decode cX8_append 17 = .ok (.putfield 22, 3) := by decide +kernel
theorem dX8_append_20 : decode cX8_append 20 = .ok (.return_, 1) := by decide +kernel
set_option maxRecDepth 20000 in
theorem ggX8_read_X8_next : GoodIn wsX8_read wsX8_next := goodIn_r _ [8, 1, 9, 10, 48, 49, 50, 51, 52, 53] (by decide +kernel) (by decide +kernel)
set_option maxRecDepth 20000 in
theorem gX8_read_X8_next : GoodIn wsX8_read (wsV RX8 32 RX8 yX8_next wsX8_next) := goodIn_app (goodIn_of _ (by decide +kernel)) ggX8_read_X8_next
set_option maxRecDepth 20000 in
theorem ggX8_read_X10_outside : GoodIn wsX8_read wsX10_outside := goodIn_r _ [13] (by decide +kernel) (by decide +kernel)
set_option maxRecDepth 20000 in
theorem gX8_read_X10_outside_n36 : GoodIn wsX8_read (wsX10_outside) := ggX8_read_X10_outside
set_option maxRecDepth 20000 in
theorem ggX8_read_X9_setMost : GoodIn wsX8_read wsX9_setMost := goodIn_r _ [18, 19, 20, 54, 55, 56, 57, 58] (by decide +kernel) (by decide +kernel)
set_option maxRecDepth 20000 in
theorem gX8_read_X9_setMost : GoodIn wsX8_read (wsV RX8 40 RX9 yX9_setMost wsX9_setMost) := goodIn_app (goodIn_of _ (by decide +kernel)) ggX8_read_X9_setMost
set_option maxRecDepth 20000 in
theorem ggX8_read_X8_readConstraint : GoodIn wsX8_read wsX8_readConstraint := goodIn_r _ [24, 25, 26, 2, 3, 1, 27, 28, 29, 17, 30, 31, 20, 32, 33, 34, 7, 35, 4, 5, 6, 8, 9, 10, 36, 37, 38, 39, 11, 12, 13, 40, 41, 42, 43, 44, 45, 46, 47, 48, 49, 50, 51, 52, 53, 54, 55, 56, 57, 58] (by decide +kernel) (by decide +kernel)
set_option maxRecDepth 20000 in
theorem gX8_read_X8_readConstraint : GoodIn wsX8_read (wsV RX8 44 RX8 yX8_readConstraint wsX8_readConstraint) := goodIn_app (goodIn_of _ (by decide +kernel)) ggX8_read_X8_readConstraint
theorem dX8_read_0 : decode cX8_read 0 = .ok (.aload_n 0, 1) := by decide +kernel
theorem dX8_read_1 : decode cX8_read 1 = .ok (.iconst 0, 1) := by decide +kernel
theorem dX8_read_2 : decode cX8_read 2 = .ok (.putfield 26, 3) := by decide +kernel
theorem dX8_read_5 : decode cX8_read 5 = .ok (.aload_n 0, 1) := by decide +kernel
theorem dX8_read_6 : decode cX8_read 6 = .ok (.getfield 18, 3) := by decide +kernel
theorem dX8_read_9 : decode cX8_read 9 = .ok (.iconst 0, 1) := by decide +kernel
theorem dX8_read_10 : decode cX8_read 10 = .ok (.putfield 29, 3) := by decide +kernel
theorem dX8_read_13 : decode cX8_read 13 = .ok (.aload_n 0, 1) := by decide +kernel
theorem dX8_read_14 : decode cX8_read 14 = .ok (.invokevirtual 32, 3) := by decide +kernel
theorem dX8_read_17 : decode cX8_read 17 = .ok (.istore_n 1, 1) := by decide +kernel
theorem dX8_read_18 : decode cX8_read 18 = .ok (.iload_n 1, 1) := by decide +kernel
theorem dX8_read_19 : decode cX8_read 19 = .ok (.bipush 49, 2) := by decide +kernel
theorem dX8_read_21 : decode cX8_read 21 = .ok (.bipush 55, 2) := by decide +kernel
theorem dX8_read_23 : decode cX8_read 23 = .ok (.invokestatic 36, 3) := by decide +kernel
theorem dX8_read_26 : decode cX8_read 26 = .ok (.ifCond .eq 5, 3) := by decide +kernel
theorem dX8_read_29 : decode cX8_read 29 = .ok (.iconst 0, 1) := by decide +kernel
theorem dX8_read_30 : decode cX8_read 30 = .ok (.ireturn, 1) := by decide +kernel
theorem dX8_read_31 : decode cX8_read 31 = .ok (.aload_n 0, 1) := by decide +kernel
theorem dX8_read_32 : decode cX8_read 32 = .ok (.getfield 18, 3) := by decide +kernel
theorem dX8_read_35 : decode cX8_read 35 = .ok (.iload_n 1, 1) := by decide +kernel
theorem dX8_read_36 : decode cX8_read 36 = .ok (.bipush 48, 2) := by decide +kernel
theorem dX8_read_38 : decode cX8_read 38 = .ok (.isub, 1) := by decide +kernel
theorem dX8_read_39 : decode cX8_read 39 = .ok (.invokevirtual 40, 3) := by decide +kernel
theorem dX8_read_42 : decode cX8_read 42 = .ok (.aload_n 0, 1) := by decide +kernel
theorem dX8_read_43 : decode cX8_read 43 = .ok (.dup, 1) := by decide +kernel
theorem dX8_read_44 : decode cX8_read 44 = .ok (.getfield 26, 3) := by decide +kernel
theorem dX8_read_47 : decode cX8_read 47 = .ok (.iconst 1, 1) := by decide +kernel
theorem dX8_read_48 : decode cX8_read 48 = .ok (.iadd, 1) := by decide +kernel
theorem dX8_read_49 : decode cX8_read 49 = .ok (.putfield 26, 3) := by decide +kernel
theorem dX8_read_52 : decode cX8_read 52 = .ok (.iconst 0, 1) := by decide +kernel
theorem dX8_read_53 : decode cX8_read 53 = .ok (.istore_n 2, 1) := by decide +kernel
theorem dX8_read_54 : decode cX8_read 54 = .ok (.iload_n 2, 1) := by decide +kernel
theorem dX8_read_55 : decode cX8_read 55 = .ok (.bipush 8, 2) := by decide +kernel
theorem dX8_read_57 : decode cX8_read 57 = .ok (.if_icmp .gt 54, 3) := by decide +kernel
theorem dX8_read_60 : decode cX8_read 60 = .ok (.aload_n 0, 1) := by decide +kernel
theorem dX8_read_61 : decode cX8_read 61 = .ok (.invokevirtual 32, 3) := by decide +kernel
theorem dX8_read_64 : decode cX8_read 64 = .ok (.istore_n 3, 1) := by decide +kernel
theorem dX8_read_65 : decode cX8_read 65 = .ok (.iload_n 3, 1) := by decide +kernel
theorem dX8_read_66 : decode cX8_read 66 = .ok (.iconst (-1), 1) := by decide +kernel
theorem dX8_read_67 : decode cX8_read 67 = .ok (.if_icmp .ne 5, 3) := by decide +kernel
theorem dX8_read_70 : decode cX8_read 70 = .ok (.iconst 1, 1) := by decide +kernel
theorem dX8_read_71 : decode cX8_read 71 = .ok (.ireturn, 1) := by decide +kernel
theorem dX8_read_72 : decode cX8_read 72 = .ok (.iload_n 3, 1) := by decide +kernel
theorem dX8_read_73 : decode cX8_read 73 = .ok (.bipush 59, 2) := by decide +kernel
theorem dX8_read_75 : decode cX8_read 75 = .ok (.if_icmp .ne 9, 3) := by decide +kernel
theorem dX8_read_78 : decode cX8_read 78 = .ok (.iload_n 2, 1) := by decide +kernel
theorem dX8_read_79 : decode cX8_read 79 = .ok (.bipush 8, 2) := by decide +kernel
theorem dX8_read_81 : decode cX8_read 81 = .ok (.if_icmp .ne 5, 3) := by decide +kernel
theorem dX8_read_84 : decode cX8_read 84 = .ok (.iconst 0, 1) := by decide +kernel
theorem dX8_read_85 : decode cX8_read 85 = .ok (.ireturn, 1) := by decide +kernel
theorem dX8_read_86 : decode cX8_read 86 = .ok (.aload_n 0, 1) := by decide +kernel
theorem dX8_read_87 : decode cX8_read 87 = .ok (.dup, 1) := by decide +kernel
theorem dX8_read_88 : decode cX8_read 88 = .ok (.getfield 26, 3) := by decide +kernel
theorem dX8_read_91 : decode cX8_read 91 = .ok (.iconst 1, 1) := by decide +kernel
theorem dX8_read_92 : decode cX8_read 92 = .ok (.iadd, 1) := by decide +kernel
theorem dX8_read_93 : decode cX8_read 93 = .ok (.putfield 26, 3) := by decide +kernel
theorem dX8_read_96 : decode cX8_read 96 = .ok (.aload_n 0, 1) := by decide +kernel
theorem dX8_read_97 : decode cX8_read 97 = .ok (.invokevirtual 44, 3) := by decide +kernel
theorem dX8_read_100 : decode cX8_read 100 = .ok (.ifCond .ne 5, 3) := by decide +kernel
theorem dX8_read_103 : decode cX8_read 103 = .ok (.iconst 0, 1) := by decide +kernel
theorem dX8_read_104 : decode cX8_read 104 = .ok (.ireturn, 1) := by decide +kernel
theorem dX8_read_105 : decode cX8_read 105 = .ok (.iinc 2 1, 3) := by decide +kernel
theorem dX8_read_108 : decode cX8_read 108 = .ok (.goto (-54), 3) := by decide +kernel
theorem dX8_read_111 : decode cX8_read 111 = .ok (.iconst 0, 1) := by decide +kernel
theorem dX8_read_112 : decode cX8_read 112 = .ok (.ireturn, 1) := by decide +kernel
theorem dX8_next_0 : decode cX8_next 0 = .ok (.aload_n 0, 1) := by decide +kernel
theorem dX8_next_1 : decode cX8_next 1 = .ok (.getfield 26, 3) := by decide +kernel
theorem dX8_next_4 : decode cX8_next 4 = .ok (.aload_n 0, 1) := by decide +kernel
theorem dX8_next_5 : decode cX8_next 5 = .ok (.getfield 22, 3) := by decide +kernel
theorem dX8_next_8 : decode cX8_next 8 = .ok (.if_icmp .ge 30, 3) := by decide +kernel
theorem dX8_next_11 : decode cX8_next 11 = .ok (.aload_n 0, 1) := by decide +kernel
theorem dX8_next_12 : decode cX8_next 12 = .ok (.getfield 11, 3) := by decide +kernel
theorem dX8_next_15 : decode cX8_next 15 = .ok (.aload_n 0, 1) := by decide +kernel
theorem dX8_next_16 : decode cX8_next 16 = .ok (.getfield 26, 3) := by decide +kernel
theorem dX8_next_19 : decode cX8_next 19 = .ok (.caload, 1) := by decide +kernel
theorem dX8_next_20 : decode cX8_next 20 = .ok (.bipush 32, 2) := by decide +kernel
theorem dX8_next_22 : decode cX8_next 22 = .ok (.if_icmp .ne 16, 3) := by decide +kernel
theorem dX8_next_25 : decode cX8_next 25 = .ok (.aload_n 0, 1) := by decide +kernel
theorem dX8_next_26 : decode cX8_next 26 = .ok (.dup, 1) := by decide +kernel
theorem dX8_next_27 : decode cX8_next 27 = .ok (.getfield 26, 3) := by decide +kernel
theorem dX8_next_30 : decode cX8_next 30 = .ok (.iconst 1, 1) := by decide +kernel
theorem dX8_next_31 : decode cX8_next 31 = .ok (.iadd, 1) := by decide +kernel
theorem dX8_next_32 : decode cX8_next 32 = .ok (.putfield 26, 3) := by decide +kernel
theorem dX8_next_35 : decode cX8_next 35 = .ok (.goto (-35), 3) := by decide +kernel
theorem dX8_next_38 : decode cX8_next 38 = .ok (.aload_n 0, 1) := by decide +kernel
theorem dX8_next_39 : decode cX8_next 39 = .ok (.getfield 26, 3) := by decide +kernel
theorem dX8_next_42 : decode cX8_next 42 = .ok (.aload_n 0, 1) := by decide +kernel
theorem dX8_next_43 : decode cX8_next 43 = .ok (.getfield 22, 3) := by decide +kernel
theorem dX8_next_46 : decode cX8_next 46 = .ok (.if_icmp .ge 15, 3) := by decide +kernel
theorem dX8_next_49 : decode cX8_next 49 = .ok (.aload_n 0, 1) := by decide +kernel
theorem dX8_next_50 : decode cX8_next 50 = .ok (.getfield 11, 3) := by decide +kernel
theorem dX8_next_53 : decode cX8_next 53 = .ok (.aload_n 0, 1) := by decide +kernel
theorem dX8_next_54 : decode cX8_next 54 = .ok (.getfield 26, 3) := by decide +kernel
theorem dX8_next_57 : decode cX8_next 57 = .ok (.caload, 1) := by decide +kernel
theorem dX8_next_58 : decode cX8_next 58 = .ok (.goto 4, 3) := by decide +kernel
theorem dX8_next_61 : decode cX8_next 61 = .ok (.iconst (-1), 1) := by decide +kernel
theorem dX8_next_62 : decode cX8_next 62 = .ok (.ireturn, 1) := by decide +kernel
set_option maxRecDepth 20000 in
theorem ggX8_readConstraint_X9_setCell : GoodIn wsX8_readConstraint wsX9_setCell := goodIn_r _ [10, 11, 12, 45, 46, 47, 48, 49] (by decide +kernel) (by decide +kernel)
set_option maxRecDepth 20000 in
theorem gX8_readConstraint_X9_setCell : GoodIn wsX8_readConstraint (wsV RX8 55 RX9 yX9_setCell wsX9_setCell) := goodIn_app (goodIn_of _ (by decide +kernel)) ggX8_readConstraint_X9_setCell
set_option maxRecDepth 20000 in
theorem ggX8_readConstraint_X8_readTerm : GoodIn wsX8_readConstraint wsX8_readTerm := goodIn_r _ [17, 5, 18, 19, 20, 16, 21, 22, 23, 24, 25, 26, 27, 28, 29, 30, 31, 32, 33, 34, 1, 3, 4, 2, 6, 7, 8, 9, 10, 11, 12, 39, 40, 41, 42, 43, 44, 45, 46, 47, 48, 49] (by decide +kernel) (by decide +kernel)
set_option maxRecDepth 20000 in
theorem gX8_readConstraint_X8_readTerm : GoodIn wsX8_readConstraint (wsV RX8 59 RX8 yX8_readTerm wsX8_readTerm) := goodIn_app (goodIn_of _ (by decide +kernel)) ggX8_readConstraint_X8_readTerm
set_option maxRecDepth 20000 in
theorem ggX8_readConstraint_X8_next : GoodIn wsX8_readConstraint wsX8_next := goodIn_r _ [21, 5, 22, 23, 39, 40, 41, 42, 43, 44] (by decide +kernel) (by decide +kernel)
set_option maxRecDepth 20000 in
theorem gX8_readConstraint_X8_next : GoodIn wsX8_readConstraint (wsV RX8 32 RX8 yX8_next wsX8_next) := goodIn_app (goodIn_of _ (by decide +kernel)) ggX8_readConstraint_X8_next
set_option maxRecDepth 20000 in
theorem ggX8_readConstraint_X1_ofSign : GoodIn wsX8_readConstraint wsX1_ofSign := goodIn_r _ [38] (by decide +kernel) (by decide +kernel)
set_option maxRecDepth 20000 in
theorem gX8_readConstraint_X1_ofSign : GoodIn wsX8_readConstraint (va_wsS RX8 63 yX1_ofSign wsX1_ofSign) := goodIn_app (goodIn_of _ (by decide +kernel)) ggX8_readConstraint_X1_ofSign
theorem dX8_readConstraint_0 : decode cX8_readConstraint 0 = .ok (.aload_n 0, 1) := by decide +kernel
theorem dX8_readConstraint_1 : decode cX8_readConstraint 1 = .ok (.iconst 0, 1) := by decide +kernel
theorem dX8_readConstraint_2 : decode cX8_readConstraint 2 = .ok (.putfield 48, 3) := by decide +kernel
theorem dX8_readConstraint_5 : decode cX8_readConstraint 5 = .ok (.aload_n 0, 1) := by decide +kernel
theorem dX8_readConstraint_6 : decode cX8_readConstraint 6 = .ok (.iconst 0, 1) := by decide +kernel
theorem dX8_readConstraint_7 : decode cX8_readConstraint 7 = .ok (.putfield 51, 3) := by decide +kernel
theorem dX8_readConstraint_10 : decode cX8_readConstraint 10 = .ok (.iconst 0, 1) := by decide +kernel
theorem dX8_readConstraint_11 : decode cX8_readConstraint 11 = .ok (.istore_n 1, 1) := by decide +kernel
theorem dX8_readConstraint_12 : decode cX8_readConstraint 12 = .ok (.iload_n 1, 1) := by decide +kernel
theorem dX8_readConstraint_13 : decode cX8_readConstraint 13 = .ok (.bipush 6, 2) := by decide +kernel
theorem dX8_readConstraint_15 : decode cX8_readConstraint 15 = .ok (.if_icmp .ge 25, 3) := by decide +kernel
theorem dX8_readConstraint_18 : decode cX8_readConstraint 18 = .ok (.aload_n 0, 1) := by decide +kernel
theorem dX8_readConstraint_19 : decode cX8_readConstraint 19 = .ok (.getfield 18, 3) := by decide +kernel
theorem dX8_readConstraint_22 : decode cX8_readConstraint 22 = .ok (.aload_n 0, 1) := by decide +kernel
theorem dX8_readConstraint_23 : decode cX8_readConstraint 23 = .ok (.getfield 18, 3) := by decide +kernel
theorem dX8_readConstraint_26 : decode cX8_readConstraint 26 = .ok (.getfield 29, 3) := by decide +kernel
theorem dX8_readConstraint_29 : decode cX8_readConstraint 29 = .ok (.iload_n 1, 1) := by decide +kernel
theorem dX8_readConstraint_30 : decode cX8_readConstraint 30 = .ok (.iconst 0, 1) := by decide +kernel
theorem dX8_readConstraint_31 : decode cX8_readConstraint 31 = .ok (.invokevirtual 55, 3) := by decide +kernel
theorem dX8_readConstraint_34 : decode cX8_readConstraint 34 = .ok (.iinc 1 1, 3) := by decide +kernel
theorem dX8_readConstraint_37 : decode cX8_readConstraint 37 = .ok (.goto (-25), 3) := by decide +kernel
theorem dX8_readConstraint_40 : decode cX8_readConstraint 40 = .ok (.iconst 0, 1) := by decide +kernel
theorem dX8_readConstraint_41 : decode cX8_readConstraint 41 = .ok (.istore_n 1, 1) := by decide +kernel
theorem dX8_readConstraint_42 : decode cX8_readConstraint 42 = .ok (.iload_n 1, 1) := by decide +kernel
theorem dX8_readConstraint_43 : decode cX8_readConstraint 43 = .ok (.sipush 130, 3) := by decide +kernel
theorem dX8_readConstraint_46 : decode cX8_readConstraint 46 = .ok (.if_icmp .ge 80, 3) := by decide +kernel
theorem dX8_readConstraint_49 : decode cX8_readConstraint 49 = .ok (.aload_n 0, 1) := by decide +kernel
theorem dX8_readConstraint_50 : decode cX8_readConstraint 50 = .ok (.iload_n 1, 1) := by decide +kernel
theorem dX8_readConstraint_51 : decode cX8_readConstraint 51 = .ok (.ifCond .ne 7, 3) := by decide +kernel
theorem dX8_readConstraint_54 : decode cX8_readConstraint 54 = .ok (.iconst 1, 1) := by decide +kernel
theorem dX8_readConstraint_55 : decode cX8_readConstraint 55 = .ok (.goto 4, 3) := by decide +kernel
theorem dX8_readConstraint_58 : decode cX8_readConstraint 58 = .ok (.iconst 0, 1) := by decide +kernel
theorem dX8_readConstraint_59 : decode cX8_readConstraint 59 = .ok (.invokevirtual 59, 3) := by decide +kernel
theorem dX8_readConstraint_62 : decode cX8_readConstraint 62 = .ok (.ifCond .ne 5, 3) := by decide +kernel
theorem dX8_readConstraint_65 : decode cX8_readConstraint 65 = .ok (.iconst 0, 1) := by decide +kernel
theorem dX8_readConstraint_66 : decode cX8_readConstraint 66 = .ok (.ireturn, 1) := by decide +kernel
theorem dX8_readConstraint_67 : decode cX8_readConstraint 67 = .ok (.aload_n 0, 1) := by decide +kernel
theorem dX8_readConstraint_68 : decode cX8_readConstraint 68 = .ok (.invokevirtual 32, 3) := by decide +kernel
theorem dX8_readConstraint_71 : decode cX8_readConstraint 71 = .ok (.invokestatic 63, 3) := by decide +kernel
theorem dX8_readConstraint_74 : decode cX8_readConstraint 74 = .ok (.istore_n 2, 1) := by decide +kernel
theorem dX8_readConstraint_75 : decode cX8_readConstraint 75 = .ok (.iload_n 2, 1) := by decide +kernel
theorem dX8_readConstraint_76 : decode cX8_readConstraint 76 = .ok (.ifCond .lt 44, 3) := by decide +kernel
theorem dX8_readConstraint_79 : decode cX8_readConstraint 79 = .ok (.aload_n 0, 1) := by decide +kernel
theorem dX8_readConstraint_80 : decode cX8_readConstraint 80 = .ok (.getfield 18, 3) := by decide +kernel
theorem dX8_readConstraint_83 : decode cX8_readConstraint 83 = .ok (.aload_n 0, 1) := by decide +kernel
theorem dX8_readConstraint_84 : decode cX8_readConstraint 84 = .ok (.getfield 18, 3) := by decide +kernel
theorem dX8_readConstraint_87 : decode cX8_readConstraint 87 = .ok (.getfield 29, 3) := by decide +kernel
theorem dX8_readConstraint_90 : decode cX8_readConstraint 90 = .ok (.iconst 5, 1) := by decide +kernel
theorem dX8_readConstraint_91 : decode cX8_readConstraint 91 = .ok (.iload_n 2, 1) := by decide +kernel
theorem dX8_readConstraint_92 : decode cX8_readConstraint 92 = .ok (.invokevirtual 55, 3) := by decide +kernel
theorem dX8_readConstraint_95 : decode cX8_readConstraint 95 = .ok (.aload_n 0, 1) := by decide +kernel
theorem dX8_readConstraint_96 : decode cX8_readConstraint 96 = .ok (.getfield 18, 3) := by decide +kernel
theorem dX8_readConstraint_99 : decode cX8_readConstraint 99 = .ok (.dup, 1) := by decide +kernel
theorem dX8_readConstraint_100 : decode cX8_readConstraint 100 = .ok (.getfield 29, 3) := by decide +kernel
theorem dX8_readConstraint_103 : decode cX8_readConstraint 103 = .ok (.iconst 1, 1) := by decide +kernel
theorem dX8_readConstraint_104 : decode cX8_readConstraint 104 = .ok (.iadd, 1) := by decide +kernel
theorem dX8_readConstraint_105 : decode cX8_readConstraint 105 = .ok (.putfield 29, 3) := by decide +kernel
theorem dX8_readConstraint_108 : decode cX8_readConstraint 108 = .ok (.aload_n 0, 1) := by decide +kernel
theorem dX8_readConstraint_109 : decode cX8_readConstraint 109 = .ok (.dup, 1) := by decide +kernel
theorem dX8_readConstraint_110 : decode cX8_readConstraint 110 = .ok (.getfield 26, 3) := by decide +kernel
theorem dX8_readConstraint_113 : decode cX8_readConstraint 113 = .ok (.iconst 1, 1) := by decide +kernel
theorem dX8_readConstraint_114 : decode cX8_readConstraint 114 = .ok (.iadd, 1) := by decide +kernel
theorem dX8_readConstraint_115 : decode cX8_readConstraint 115 = .ok (.putfield 26, 3) := by decide +kernel
theorem dX8_readConstraint_118 : decode cX8_readConstraint 118 = .ok (.iconst 1, 1) := by decide +kernel
theorem dX8_readConstraint_119 : decode cX8_readConstraint 119 = .ok (.ireturn, 1) := by decide +kernel
theorem dX8_readConstraint_120 : decode cX8_readConstraint 120 = .ok (.iinc 1 1, 3) := by decide +kernel
theorem dX8_readConstraint_123 : decode cX8_readConstraint 123 = .ok (.goto (-81), 3) := by decide +kernel
theorem dX8_readConstraint_126 : decode cX8_readConstraint 126 = .ok (.iconst 0, 1) := by decide +kernel
theorem dX8_readConstraint_127 : decode cX8_readConstraint 127 = .ok (.ireturn, 1) := by decide +kernel
set_option maxRecDepth 20000 in
theorem ggX8_readTerm_X8_next : GoodIn wsX8_readTerm wsX8_next := goodIn_r _ [6, 1, 7, 8, 31, 32, 33, 34, 35, 36] (by decide +kernel) (by decide +kernel)
set_option maxRecDepth 20000 in
theorem gX8_readTerm_X8_next : GoodIn wsX8_readTerm (wsV RX8 32 RX8 yX8_next wsX8_next) := goodIn_app (goodIn_of _ (by decide +kernel)) ggX8_readTerm_X8_next
set_option maxRecDepth 20000 in
theorem ggX8_readTerm_X8_readNumber : GoodIn wsX8_readTerm wsX8_readNumber := goodIn_r _ [12, 1, 7, 8, 2, 3, 4, 5, 6, 13, 14, 15, 31, 32, 33, 34, 35, 36] (by decide +kernel) (by decide +kernel)
set_option maxRecDepth 20000 in
theorem gX8_readTerm_X8_readNumber : GoodIn wsX8_readTerm (wsV RX8 69 RX8 yX8_readNumber wsX8_readNumber) := goodIn_app (goodIn_of _ (by decide +kernel)) ggX8_readTerm_X8_readNumber
set_option maxRecDepth 20000 in
theorem ggX8_readTerm_X8_putTerm : GoodIn wsX8_readTerm wsX8_putTerm := goodIn_r _ [19, 20, 21, 22, 1, 23, 2, 3, 4, 5, 6, 7, 8, 13, 14, 15, 24, 25, 26, 27, 28, 29, 30, 31, 32, 33, 34, 35, 36, 37, 38, 39, 40, 41] (by decide +kernel) (by decide +kernel)
set_option maxRecDepth 20000 in
theorem gX8_readTerm_X8_putTerm : GoodIn wsX8_readTerm (wsV RX8 72 RX8 yX8_putTerm wsX8_putTerm) := goodIn_app (goodIn_of _ (by decide +kernel)) ggX8_readTerm_X8_putTerm
theorem dX8_readTerm_0 : decode cX8_readTerm 0 = .ok (.aload_n 0, 1) := by decide +kernel
theorem dX8_readTerm_1 : decode cX8_readTerm 1 = .ok (.invokevirtual 32, 3) := by decide +kernel
theorem dX8_readTerm_4 : decode cX8_readTerm 4 = .ok (.istore_n 2, 1) := by decide +kernel
theorem dX8_readTerm_5 : decode cX8_readTerm 5 = .ok (.iload_n 2, 1) := by decide +kernel
theorem dX8_readTerm_6 : decode cX8_readTerm 6 = .ok (.bipush 43, 2) := by decide +kernel
theorem dX8_readTerm_8 : decode cX8_readTerm 8 = .ok (.if_icmp .eq 9, 3) := by decide +kernel
theorem dX8_readTerm_11 : decode cX8_readTerm 11 = .ok (.iload_n 2, 1) := by decide +kernel
theorem dX8_readTerm_12 : decode cX8_readTerm 12 = .ok (.bipush 45, 2) := by decide +kernel
theorem dX8_readTerm_14 : decode cX8_readTerm 14 = .ok (.if_icmp .ne 16, 3) := by decide +kernel
theorem dX8_readTerm_17 : decode cX8_readTerm 17 = .ok (.aload_n 0, 1) := by decide +kernel
theorem dX8_readTerm_18 : decode cX8_readTerm 18 = .ok (.dup, 1) := by decide +kernel
theorem dX8_readTerm_19 : decode cX8_readTerm 19 = .ok (.getfield 26, 3) := by decide +kernel
theorem dX8_readTerm_22 : decode cX8_readTerm 22 = .ok (.iconst 1, 1) := by decide +kernel
theorem dX8_readTerm_23 : decode cX8_readTerm 23 = .ok (.iadd, 1) := by decide +kernel
theorem dX8_readTerm_24 : decode cX8_readTerm 24 = .ok (.putfield 26, 3) := by decide +kernel
theorem dX8_readTerm_27 : decode cX8_readTerm 27 = .ok (.goto 9, 3) := by decide +kernel
theorem dX8_readTerm_30 : decode cX8_readTerm 30 = .ok (.iload_n 1, 1) := by decide +kernel
theorem dX8_readTerm_31 : decode cX8_readTerm 31 = .ok (.ifCond .ne 5, 3) := by decide +kernel
theorem dX8_readTerm_34 : decode cX8_readTerm 34 = .ok (.iconst 0, 1) := by decide +kernel
theorem dX8_readTerm_35 : decode cX8_readTerm 35 = .ok (.ireturn, 1) := by decide +kernel
theorem dX8_readTerm_36 : decode cX8_readTerm 36 = .ok (.aload_n 0, 1) := by decide +kernel
theorem dX8_readTerm_37 : decode cX8_readTerm 37 = .ok (.invokevirtual 69, 3) := by decide +kernel
theorem dX8_readTerm_40 : decode cX8_readTerm 40 = .ok (.istore_n 3, 1) := by decide +kernel
theorem dX8_readTerm_41 : decode cX8_readTerm 41 = .ok (.aload_n 0, 1) := by decide +kernel
theorem dX8_readTerm_42 : decode cX8_readTerm 42 = .ok (.iload_n 3, 1) := by decide +kernel
theorem dX8_readTerm_43 : decode cX8_readTerm 43 = .ok (.iload_n 2, 1) := by decide +kernel
theorem dX8_readTerm_44 : decode cX8_readTerm 44 = .ok (.bipush 45, 2) := by decide +kernel
theorem dX8_readTerm_46 : decode cX8_readTerm 46 = .ok (.if_icmp .ne 7, 3) := by decide +kernel
theorem dX8_readTerm_49 : decode cX8_readTerm 49 = .ok (.iconst (-1), 1) := by decide +kernel
theorem dX8_readTerm_50 : decode cX8_readTerm 50 = .ok (.goto 4, 3) := by decide +kernel
theorem dX8_readTerm_53 : decode cX8_readTerm 53 = .ok (.iconst 1, 1) := by decide +kernel
theorem dX8_readTerm_54 : decode cX8_readTerm 54 = .ok (.invokevirtual 72, 3) := by decide +kernel
theorem dX8_readTerm_57 : decode cX8_readTerm 57 = .ok (.ireturn, 1) := by decide +kernel
set_option maxRecDepth 20000 in
theorem ggX8_putTerm_X8_next : GoodIn wsX8_putTerm wsX8_next := goodIn_r _ [10, 4, 11, 12, 23, 24, 25, 26, 27, 28] (by decide +kernel) (by decide +kernel)
set_option maxRecDepth 20000 in
theorem gX8_putTerm_X8_next : GoodIn wsX8_putTerm (wsV RX8 32 RX8 yX8_next wsX8_next) := goodIn_app (goodIn_of _ (by decide +kernel)) ggX8_putTerm_X8_next
set_option maxRecDepth 20000 in
theorem ggX8_putTerm_X10_outside : GoodIn wsX8_putTerm wsX10_outside := goodIn_r _ [15] (by decide +kernel) (by decide +kernel)
set_option maxRecDepth 20000 in
theorem gX8_putTerm_X10_outside_n36 : GoodIn wsX8_putTerm (wsX10_outside) := ggX8_putTerm_X10_outside
set_option maxRecDepth 20000 in
theorem ggX8_putTerm_X9_setCell : GoodIn wsX8_putTerm wsX9_setCell := goodIn_r _ [20, 21, 22, 29, 30, 31, 32, 33] (by decide +kernel) (by decide +kernel)
set_option maxRecDepth 20000 in
theorem gX8_putTerm_X9_setCell : GoodIn wsX8_putTerm (wsV RX8 55 RX9 yX9_setCell wsX9_setCell) := goodIn_app (goodIn_of _ (by decide +kernel)) ggX8_putTerm_X9_setCell
theorem dX8_putTerm_0 : decode cX8_putTerm 0 = .ok (.aload_n 0, 1) := by decide +kernel
theorem dX8_putTerm_1 : decode cX8_putTerm 1 = .ok (.invokevirtual 32, 3) := by decide +kernel
theorem dX8_putTerm_4 : decode cX8_putTerm 4 = .ok (.bipush 97, 2) := by decide +kernel
theorem dX8_putTerm_6 : decode cX8_putTerm 6 = .ok (.isub, 1) := by decide +kernel
theorem dX8_putTerm_7 : decode cX8_putTerm 7 = .ok (.istore_n 3, 1) := by decide +kernel
theorem dX8_putTerm_8 : decode cX8_putTerm 8 = .ok (.iload_n 3, 1) := by decide +kernel
theorem dX8_putTerm_9 : decode cX8_putTerm 9 = .ok (.iconst 0, 1) := by decide +kernel
theorem dX8_putTerm_10 : decode cX8_putTerm 10 = .ok (.iconst 3, 1) := by decide +kernel
theorem dX8_putTerm_11 : decode cX8_putTerm 11 = .ok (.invokestatic 36, 3) := by decide +kernel
theorem dX8_putTerm_14 : decode cX8_putTerm 14 = .ok (.ifCond .ne 73, 3) := by decide +kernel
theorem dX8_putTerm_17 : decode cX8_putTerm 17 = .ok (.iload_n 1, 1) := by decide +kernel
theorem dX8_putTerm_18 : decode cX8_putTerm 18 = .ok (.bipush 9, 2) := by decide +kernel
theorem dX8_putTerm_20 : decode cX8_putTerm 20 = .ok (.if_icmp .gt 15, 3) := by decide +kernel
theorem dX8_putTerm_23 : decode cX8_putTerm 23 = .ok (.aload_n 0, 1) := by decide +kernel
theorem dX8_putTerm_24 : decode cX8_putTerm 24 = .ok (.getfield 48, 3) := by decide +kernel
theorem dX8_putTerm_27 : decode cX8_putTerm 27 = .ok (.iload_n 3, 1) := by decide +kernel
theorem dX8_putTerm_28 : decode cX8_putTerm 28 = .ok (.ishr, 1) := by decide +kernel
theorem dX8_putTerm_29 : decode cX8_putTerm 29 = .ok (.iconst 1, 1) := by decide +kernel
theorem dX8_putTerm_30 : decode cX8_putTerm 30 = .ok (.iand, 1) := by decide +kernel
theorem dX8_putTerm_31 : decode cX8_putTerm 31 = .ok (.iconst 1, 1) := by decide +kernel
theorem dX8_putTerm_32 : decode cX8_putTerm 32 = .ok (.if_icmp .ne 5, 3) := by decide +kernel
theorem dX8_putTerm_35 : decode cX8_putTerm 35 = .ok (.iconst 0, 1) := by decide +kernel
theorem dX8_putTerm_36 : decode cX8_putTerm 36 = .ok (.ireturn, 1) := by decide +kernel
theorem dX8_putTerm_37 : decode cX8_putTerm 37 = .ok (.aload_n 0, 1) := by decide +kernel
theorem dX8_putTerm_38 : decode cX8_putTerm 38 = .ok (.getfield 18, 3) := by decide +kernel
theorem dX8_putTerm_41 : decode cX8_putTerm 41 = .ok (.aload_n 0, 1) := by decide +kernel
theorem dX8_putTerm_42 : decode cX8_putTerm 42 = .ok (.getfield 18, 3) := by decide +kernel
theorem dX8_putTerm_45 : decode cX8_putTerm 45 = .ok (.getfield 29, 3) := by decide +kernel
theorem dX8_putTerm_48 : decode cX8_putTerm 48 = .ok (.iload_n 3, 1) := by decide +kernel
theorem dX8_putTerm_49 : decode cX8_putTerm 49 = .ok (.iload_n 2, 1) := by decide +kernel
theorem dX8_putTerm_50 : decode cX8_putTerm 50 = .ok (.iload_n 1, 1) := by decide +kernel
theorem dX8_putTerm_51 : decode cX8_putTerm 51 = .ok (.ifCond .ge 7, 3) := by decide +kernel
theorem dX8_putTerm_54 : decode cX8_putTerm 54 = .ok (.iconst 1, 1) := by decide +kernel
theorem dX8_putTerm_55 : decode cX8_putTerm 55 = .ok (.goto 4, 3) := by decide +kernel
theorem dX8_putTerm_58 : decode cX8_putTerm 58 = .ok (.iload_n 1, 1) := by decide +kernel
theorem dX8_putTerm_59 : decode cX8_putTerm 59 = .ok (.imul, 1) := by decide +kernel
theorem dX8_putTerm_60 : decode cX8_putTerm 60 = .ok (.invokevirtual 55, 3) := by decide +kernel
theorem dX8_putTerm_63 : decode cX8_putTerm 63 = .ok (.aload_n 0, 1) := by decide +kernel
theorem dX8_putTerm_64 : decode cX8_putTerm 64 = .ok (.dup, 1) := by decide +kernel
theorem dX8_putTerm_65 : decode cX8_putTerm 65 = .ok (.getfield 48, 3) := by decide +kernel
theorem dX8_putTerm_68 : decode cX8_putTerm 68 = .ok (.iconst 1, 1) := by decide +kernel
theorem dX8_putTerm_69 : decode cX8_putTerm 69 = .ok (.iload_n 3, 1) := by decide +kernel
theorem dX8_putTerm_70 : decode cX8_putTerm 70 = .ok (.ishl, 1) := by decide +kernel
theorem dX8_putTerm_71 : decode cX8_putTerm 71 = .ok (.ior, 1) := by decide +kernel
theorem dX8_putTerm_72 : decode cX8_putTerm 72 = .ok (.putfield 48, 3) := by decide +kernel
theorem dX8_putTerm_75 : decode cX8_putTerm 75 = .ok (.aload_n 0, 1) := by decide +kernel
theorem dX8_putTerm_76 : decode cX8_putTerm 76 = .ok (.dup, 1) := by decide +kernel
theorem dX8_putTerm_77 : decode cX8_putTerm 77 = .ok (.getfield 26, 3) := by decide +kernel
theorem dX8_putTerm_80 : decode cX8_putTerm 80 = .ok (.iconst 1, 1) := by decide +kernel
theorem dX8_putTerm_81 : decode cX8_putTerm 81 = .ok (.iadd, 1) := by decide +kernel
theorem dX8_putTerm_82 : decode cX8_putTerm 82 = .ok (.putfield 26, 3) := by decide +kernel
theorem dX8_putTerm_85 : decode cX8_putTerm 85 = .ok (.iconst 1, 1) := by decide +kernel
theorem dX8_putTerm_86 : decode cX8_putTerm 86 = .ok (.ireturn, 1) := by decide +kernel
theorem dX8_putTerm_87 : decode cX8_putTerm 87 = .ok (.iload_n 1, 1) := by decide +kernel
theorem dX8_putTerm_88 : decode cX8_putTerm 88 = .ok (.ifCond .lt 10, 3) := by decide +kernel
theorem dX8_putTerm_91 : decode cX8_putTerm 91 = .ok (.aload_n 0, 1) := by decide +kernel
theorem dX8_putTerm_92 : decode cX8_putTerm 92 = .ok (.getfield 51, 3) := by decide +kernel
theorem dX8_putTerm_95 : decode cX8_putTerm 95 = .ok (.ifCond .eq 5, 3) := by decide +kernel
theorem dX8_putTerm_98 : decode cX8_putTerm 98 = .ok (.iconst 0, 1) := by decide +kernel
theorem dX8_putTerm_99 : decode cX8_putTerm 99 = .ok (.ireturn, 1) := by decide +kernel
theorem dX8_putTerm_100 : decode cX8_putTerm 100 = .ok (.aload_n 0, 1) := by decide +kernel
theorem dX8_putTerm_101 : decode cX8_putTerm 101 = .ok (.getfield 18, 3) := by decide +kernel
theorem dX8_putTerm_104 : decode cX8_putTerm 104 = .ok (.aload_n 0, 1) := by decide +kernel
theorem dX8_putTerm_105 : decode cX8_putTerm 105 = .ok (.getfield 18, 3) := by decide +kernel
theorem dX8_putTerm_108 : decode cX8_putTerm 108 = .ok (.getfield 29, 3) := by decide +kernel
theorem dX8_putTerm_111 : decode cX8_putTerm 111 = .ok (.iconst 4, 1) := by decide +kernel
theorem dX8_putTerm_112 : decode cX8_putTerm 112 = .ok (.iload_n 2, 1) := by decide +kernel
theorem dX8_putTerm_113 : decode cX8_putTerm 113 = .ok (.iload_n 1, 1) := by decide +kernel
theorem dX8_putTerm_114 : decode cX8_putTerm 114 = .ok (.imul, 1) := by decide +kernel
theorem dX8_putTerm_115 : decode cX8_putTerm 115 = .ok (.invokevirtual 55, 3) := by decide +kernel
theorem dX8_putTerm_118 : decode cX8_putTerm 118 = .ok (.aload_n 0, 1) := by decide +kernel
theorem dX8_putTerm_119 : decode cX8_putTerm 119 = .ok (.iconst 1, 1) := by decide +kernel
theorem dX8_putTerm_120 : decode cX8_putTerm 120 = .ok (.putfield 51, 3) := by decide +kernel
theorem dX8_putTerm_123 : decode cX8_putTerm 123 = .ok (.iconst 1, 1) := by decide +kernel
theorem dX8_putTerm_124 : decode cX8_putTerm 124 = .ok (.ireturn, 1) := by decide +kernel
set_option maxRecDepth 20000 in
theorem ggX8_readNumber_X8_next : GoodIn wsX8_readNumber wsX8_next := goodIn_r _ [8, 1, 2, 3, 12, 13, 14, 15, 16, 17] (by decide +kernel) (by decide +kernel)
set_option maxRecDepth 20000 in
theorem gX8_readNumber_X8_next : GoodIn wsX8_readNumber (wsV RX8 32 RX8 yX8_next wsX8_next) := goodIn_app (goodIn_of _ (by decide +kernel)) ggX8_readNumber_X8_next
set_option maxRecDepth 20000 in
theorem ggX8_readNumber_X10_outside : GoodIn wsX8_readNumber wsX10_outside := goodIn_r _ [11] (by decide +kernel) (by decide +kernel)
set_option maxRecDepth 20000 in
theorem gX8_readNumber_X10_outside_n36 : GoodIn wsX8_readNumber (wsX10_outside) := ggX8_readNumber_X10_outside
theorem dX8_readNumber_0 : decode cX8_readNumber 0 = .ok (.aload_n 0, 1) := by decide +kernel
theorem dX8_readNumber_1 : decode cX8_readNumber 1 = .ok (.invokevirtual 32, 3) := by decide +kernel
theorem dX8_readNumber_4 : decode cX8_readNumber 4 = .ok (.bipush 48, 2) := by decide +kernel
theorem dX8_readNumber_6 : decode cX8_readNumber 6 = .ok (.bipush 57, 2) := by decide +kernel
theorem dX8_readNumber_8 : decode cX8_readNumber 8 = .ok (.invokestatic 36, 3) := by decide +kernel
theorem dX8_readNumber_11 : decode cX8_readNumber 11 = .ok (.ifCond .eq 5, 3) := by decide +kernel
theorem dX8_readNumber_14 : decode cX8_readNumber 14 = .ok (.iconst (-1), 1) := by decide +kernel
theorem dX8_readNumber_15 : decode cX8_readNumber 15 = .ok (.ireturn, 1) := by decide +kernel
theorem dX8_readNumber_16 : decode cX8_readNumber 16 = .ok (.iconst 0, 1) := by decide +kernel
theorem dX8_readNumber_17 : decode cX8_readNumber 17 = .ok (.istore_n 1, 1) := by decide +kernel
theorem dX8_readNumber_18 : decode cX8_readNumber 18 = .ok (.iconst 0, 1) := by decide +kernel
theorem dX8_readNumber_19 : decode cX8_readNumber 19 = .ok (.istore_n 2, 1) := by decide +kernel
theorem dX8_readNumber_20 : decode cX8_readNumber 20 = .ok (.iload_n 2, 1) := by decide +kernel
theorem dX8_readNumber_21 : decode cX8_readNumber 21 = .ok (.iconst 2, 1) := by decide +kernel
theorem dX8_readNumber_22 : decode cX8_readNumber 22 = .ok (.if_icmp .ge 67, 3) := by decide +kernel
theorem dX8_readNumber_25 : decode cX8_readNumber 25 = .ok (.aload_n 0, 1) := by decide +kernel
theorem dX8_readNumber_26 : decode cX8_readNumber 26 = .ok (.getfield 26, 3) := by decide +kernel
theorem dX8_readNumber_29 : decode cX8_readNumber 29 = .ok (.aload_n 0, 1) := by decide +kernel
theorem dX8_readNumber_30 : decode cX8_readNumber 30 = .ok (.getfield 22, 3) := by decide +kernel
theorem dX8_readNumber_33 : decode cX8_readNumber 33 = .ok (.if_icmp .ge 56, 3) := by decide +kernel
theorem dX8_readNumber_36 : decode cX8_readNumber 36 = .ok (.aload_n 0, 1) := by decide +kernel
theorem dX8_readNumber_37 : decode cX8_readNumber 37 = .ok (.getfield 11, 3) := by decide +kernel
theorem dX8_readNumber_40 : decode cX8_readNumber 40 = .ok (.aload_n 0, 1) := by decide +kernel
theorem dX8_readNumber_41 : decode cX8_readNumber 41 = .ok (.getfield 26, 3) := by decide +kernel
theorem dX8_readNumber_44 : decode cX8_readNumber 44 = .ok (.caload, 1) := by decide +kernel
theorem dX8_readNumber_45 : decode cX8_readNumber 45 = .ok (.bipush 48, 2) := by decide +kernel
theorem dX8_readNumber_47 : decode cX8_readNumber 47 = .ok (.bipush 57, 2) := by decide +kernel
theorem dX8_readNumber_49 : decode cX8_readNumber 49 = .ok (.invokestatic 36, 3) := by decide +kernel
theorem dX8_readNumber_52 : decode cX8_readNumber 52 = .ok (.ifCond .ne 37, 3) := by decide +kernel
theorem dX8_readNumber_55 : decode cX8_readNumber 55 = .ok (.iload_n 1, 1) := by decide +kernel
theorem dX8_readNumber_56 : decode cX8_readNumber 56 = .ok (.bipush 10, 2) := by decide +kernel
theorem dX8_readNumber_58 : decode cX8_readNumber 58 = .ok (.imul, 1) := by decide +kernel
theorem dX8_readNumber_59 : decode cX8_readNumber 59 = .ok (.aload_n 0, 1) := by decide +kernel
theorem dX8_readNumber_60 : decode cX8_readNumber 60 = .ok (.getfield 11, 3) := by decide +kernel
theorem dX8_readNumber_63 : decode cX8_readNumber 63 = .ok (.aload_n 0, 1) := by decide +kernel
theorem dX8_readNumber_64 : decode cX8_readNumber 64 = .ok (.getfield 26, 3) := by decide +kernel
theorem dX8_readNumber_67 : decode cX8_readNumber 67 = .ok (.caload, 1) := by decide +kernel
theorem dX8_readNumber_68 : decode cX8_readNumber 68 = .ok (.iadd, 1) := by decide +kernel
theorem dX8_readNumber_69 : decode cX8_readNumber 69 = .ok (.bipush 48, 2) := by decide +kernel
theorem dX8_readNumber_71 : decode cX8_readNumber 71 = .ok (.isub, 1) := by decide +kernel
theorem dX8_readNumber_72 : decode cX8_readNumber 72 = .ok (.istore_n 1, 1) := by decide +kernel
theorem dX8_readNumber_73 : decode cX8_readNumber 73 = .ok (.aload_n 0, 1) := by decide +kernel
theorem dX8_readNumber_74 : decode cX8_readNumber 74 = .ok (.dup, 1) := by decide +kernel
theorem dX8_readNumber_75 : decode cX8_readNumber 75 = .ok (.getfield 26, 3) := by decide +kernel
theorem dX8_readNumber_78 : decode cX8_readNumber 78 = .ok (.iconst 1, 1) := by decide +kernel
theorem dX8_readNumber_79 : decode cX8_readNumber 79 = .ok (.iadd, 1) := by decide +kernel
theorem dX8_readNumber_80 : decode cX8_readNumber 80 = .ok (.putfield 26, 3) := by decide +kernel
theorem dX8_readNumber_83 : decode cX8_readNumber 83 = .ok (.iinc 2 1, 3) := by decide +kernel
theorem dX8_readNumber_86 : decode cX8_readNumber 86 = .ok (.goto (-66), 3) := by decide +kernel
theorem dX8_readNumber_89 : decode cX8_readNumber 89 = .ok (.iload_n 1, 1) := by decide +kernel
theorem dX8_readNumber_90 : decode cX8_readNumber 90 = .ok (.ireturn, 1) := by decide +kernel
theorem dX9_init_0 : decode cX9_init 0 = .ok (.aload_n 0, 1) := by decide +kernel
theorem dX9_init_1 : decode cX9_init 1 = .ok (.invokespecial 5, 3) := by decide +kernel
theorem dX9_init_4 : decode cX9_init 4 = .ok (.aload_n 0, 1) := by decide +kernel
theorem dX9_init_5 : decode cX9_init 5 = .ok (.bipush 48, 2) := by decide +kernel
theorem dX9_init_7 : decode cX9_init 7 = .ok (.newarray .int, 2) := by decide +kernel
theorem dX9_init_9 : decode cX9_init 9 = .ok (.putfield 11, 3) := by decide +kernel
theorem dX9_init_12 : decode cX9_init 12 = .ok (.aload_n 0, 1) := by decide +kernel
theorem dX9_init_13 : decode cX9_init 13 = .ok (.iconst 4, 1) := by decide +kernel
theorem dX9_init_14 : decode cX9_init 14 = .ok (.putfield 15, 3) := by decide +kernel
theorem dX9_init_17 : decode cX9_init 17 = .ok (.aload_n 0, 1) := by decide +kernel
theorem dX9_init_18 : decode cX9_init 18 = .ok (.iconst 1, 1) := by decide +kernel
theorem dX9_init_19 : decode cX9_init 19 = .ok (.putfield 19, 3) := by decide +kernel
theorem dX9_init_22 : decode cX9_init 22 = .ok (.return_, 1) := by decide +kernel
set_option maxRecDepth 20000 in
theorem ggX9_areFactors_X10_outside : GoodIn wsX9_areFactors wsX10_outside := goodIn_r _ [4] (by decide +kernel) (by decide +kernel)
set_option maxRecDepth 20000 in
theorem gX9_areFactors_X10_outside_n23 : GoodIn wsX9_areFactors (wsX10_outside) := ggX9_areFactors_X10_outside
theorem dX9_areFactors_0 : decode cX9_areFactors 0 = .ok (.iload_n 0, 1) := by decide +kernel
theorem dX9_areFactors_1 : decode cX9_areFactors 1 = .ok (.iconst 0, 1) := by decide +kernel
theorem dX9_areFactors_2 : decode cX9_areFactors 2 = .ok (.ldc 22, 2) := by decide +kernel
theorem dX9_areFactors_4 : decode cX9_areFactors 4 = .ok (.invokestatic 23, 3) := by decide +kernel
theorem dX9_areFactors_7 : decode cX9_areFactors 7 = .ok (.ifCond .eq 5, 3) := by decide +kernel
theorem dX9_areFactors_10 : decode cX9_areFactors 10 = .ok (.iconst 0, 1) := by decide +kernel
theorem dX9_areFactors_11 : decode cX9_areFactors 11 = .ok (.ireturn, 1) := by decide +kernel
theorem dX9_areFactors_12 : decode cX9_areFactors 12 = .ok (.iload_n 0, 1) := by decide +kernel
theorem dX9_areFactors_13 : decode cX9_areFactors 13 = .ok (.istore_n 1, 1) := by decide +kernel
theorem dX9_areFactors_14 : decode cX9_areFactors 14 = .ok (.iconst 0, 1) := by decide +kernel
theorem dX9_areFactors_15 : decode cX9_areFactors 15 = .ok (.istore_n 2, 1) := by decide +kernel
theorem dX9_areFactors_16 : decode cX9_areFactors 16 = .ok (.iload_n 2, 1) := by decide +kernel
theorem dX9_areFactors_17 : decode cX9_areFactors 17 = .ok (.iconst 4, 1) := by decide +kernel
theorem dX9_areFactors_18 : decode cX9_areFactors 18 = .ok (.if_icmp .ge 25, 3) := by decide +kernel
theorem dX9_areFactors_21 : decode cX9_areFactors 21 = .ok (.iload_n 1, 1) := by decide +kernel
theorem dX9_areFactors_22 : decode cX9_areFactors 22 = .ok (.bipush 20, 2) := by decide +kernel
theorem dX9_areFactors_24 : decode cX9_areFactors 24 = .ok (.irem, 1) := by decide +kernel
theorem dX9_areFactors_25 : decode cX9_areFactors 25 = .ok (.bipush 18, 2) := by decide +kernel
theorem dX9_areFactors_27 : decode cX9_areFactors 27 = .ok (.if_icmp .le 5, 3) := by decide +kernel
theorem dX9_areFactors_30 : decode cX9_areFactors 30 = .ok (.iconst 0, 1) := by decide +kernel
theorem dX9_areFactors_31 : decode cX9_areFactors 31 = .ok (.ireturn, 1) := by decide +kernel
theorem dX9_areFactors_32 : decode cX9_areFactors 32 = .ok (.iload_n 1, 1) := by decide +kernel
theorem dX9_areFactors_33 : decode cX9_areFactors 33 = .ok (.bipush 20, 2) := by decide +kernel
theorem dX9_areFactors_35 : decode cX9_areFactors 35 = .ok (.idiv, 1) := by decide +kernel
theorem dX9_areFactors_36 : decode cX9_areFactors 36 = .ok (.istore_n 1, 1) := by decide +kernel
theorem dX9_areFactors_37 : decode cX9_areFactors 37 = .ok (.iinc 2 1, 3) := by decide +kernel
theorem dX9_areFactors_40 : decode cX9_areFactors 40 = .ok (.goto (-24), 3) := by decide +kernel
theorem dX9_areFactors_43 : decode cX9_areFactors 43 = .ok (.iconst 1, 1) := by decide +kernel
theorem dX9_areFactors_44 : decode cX9_areFactors 44 = .ok (.ireturn, 1) := by decide +kernel
theorem dX9_cell_0 : decode cX9_cell 0 = .ok (.aload_n 0, 1) := by decide +kernel
theorem dX9_cell_1 : decode cX9_cell 1 = .ok (.getfield 11, 3) := by decide +kernel
theorem dX9_cell_4 : decode cX9_cell 4 = .ok (.iload_n 1, 1) := by decide +kernel
theorem dX9_cell_5 : decode cX9_cell 5 = .ok (.bipush 6, 2) := by decide +kernel
theorem dX9_cell_7 : decode cX9_cell 7 = .ok (.imul, 1) := by decide +kernel
theorem dX9_cell_8 : decode cX9_cell 8 = .ok (.iload_n 2, 1) := by decide +kernel
theorem dX9_cell_9 : decode cX9_cell 9 = .ok (.iadd, 1) := by decide +kernel
theorem dX9_cell_10 : decode cX9_cell 10 = .ok (.iaload, 1) := by decide +kernel
theorem dX9_cell_11 : decode cX9_cell 11 = .ok (.ireturn, 1) := by decide +kernel
theorem dX9_setCell_0 : decode cX9_setCell 0 = .ok (.aload_n 0, 1) := by decide +kernel
theorem dX9_setCell_1 : decode cX9_setCell 1 = .ok (.getfield 11, 3) := by decide +kernel
theorem dX9_setCell_4 : decode cX9_setCell 4 = .ok (.iload_n 1, 1) := by decide +kernel
theorem dX9_setCell_5 : decode cX9_setCell 5 = .ok (.bipush 6, 2) := by decide +kernel
theorem dX9_setCell_7 : decode cX9_setCell 7 = .ok (.imul, 1) := by decide +kernel
theorem dX9_setCell_8 : decode cX9_setCell 8 = .ok (.iload_n 2, 1) := by decide +kernel
theorem dX9_setCell_9 : decode cX9_setCell 9 = .ok (.iadd, 1) := by decide +kernel
theorem dX9_setCell_10 : decode cX9_setCell 10 = .ok (.iload_n 3, 1) := by decide +kernel
theorem dX9_setCell_11 : decode cX9_setCell 11 = .ok (.iastore, 1) := by decide +kernel
theorem dX9_setCell_12 : decode cX9_setCell 12 = .ok (.aload_n 0, 1) := by decide +kernel
theorem dX9_setCell_13 : decode cX9_setCell 13 = .ok (.dup, 1) := by decide +kernel
theorem dX9_setCell_14 : decode cX9_setCell 14 = .ok (.getfield 27, 3) := by decide +kernel
theorem dX9_setCell_17 : decode cX9_setCell 17 = .ok (.iconst 1, 1) := by decide +kernel
theorem dX9_setCell_18 : decode cX9_setCell 18 = .ok (.iadd, 1) := by decide +kernel
theorem dX9_setCell_19 : decode cX9_setCell 19 = .ok (.putfield 27, 3) := by decide +kernel
theorem dX9_setCell_22 : decode cX9_setCell 22 = .ok (.return_, 1) := by decide +kernel
theorem dX9_setMost_0 : decode cX9_setMost 0 = .ok (.aload_n 0, 1) := by decide +kernel
theorem dX9_setMost_1 : decode cX9_setMost 1 = .ok (.iload_n 1, 1) := by decide +kernel
theorem dX9_setMost_2 : decode cX9_setMost 2 = .ok (.putfield 15, 3) := by decide +kernel
theorem dX9_setMost_5 : decode cX9_setMost 5 = .ok (.aload_n 0, 1) := by decide +kernel
theorem dX9_setMost_6 : decode cX9_setMost 6 = .ok (.dup, 1) := by decide +kernel
theorem dX9_setMost_7 : decode cX9_setMost 7 = .ok (.getfield 27, 3) := by decide +kernel
theorem dX9_setMost_10 : decode cX9_setMost 10 = .ok (.iconst 1, 1) := by decide +kernel
theorem dX9_setMost_11 : decode cX9_setMost 11 = .ok (.iadd, 1) := by decide +kernel
theorem dX9_setMost_12 : decode cX9_setMost 12 = .ok (.putfield 27, 3) := by decide +kernel
theorem dX9_setMost_15 : decode cX9_setMost 15 = .ok (.return_, 1) := by decide +kernel
set_option maxRecDepth 20000 in
theorem ggX9_append_X9_setCell : GoodIn wsX9_append wsX9_setCell := goodIn_r _ [6, 7, 8, 9, 10, 11, 12, 13] (by decide +kernel) (by decide +kernel)
set_option maxRecDepth 20000 in
theorem gX9_append_X9_setCell : GoodIn wsX9_append (wsV RX9 33 RX9 yX9_setCell wsX9_setCell) := goodIn_app (goodIn_of _ (by decide +kernel)) ggX9_append_X9_setCell
theorem dX9_append_0 : decode cX9_append 0 = .ok (.iload_n 2, 1) := by decide +kernel
theorem dX9_append_1 : decode cX9_append 1 = .ok (.istore 4, 2) := by decide +kernel
theorem dX9_append_3 : decode cX9_append 3 = .ok (.iconst 3, 1) := by decide +kernel
theorem dX9_append_4 : decode cX9_append 4 = .ok (.istore 5, 2) := by decide +kernel
theorem dX9_append_6 : decode cX9_append 6 = .ok (.iload 5, 2) := by decide +kernel
theorem dX9_append_8 : decode cX9_append 8 = .ok (.ifCond .lt 34, 3) := by decide +kernel
theorem dX9_append_11 : decode cX9_append 11 = .ok (.aload_n 0, 1) := by decide +kernel
theorem dX9_append_12 : decode cX9_append 12 = .ok (.aload_n 0, 1) := by decide +kernel
theorem dX9_append_13 : decode cX9_append 13 = .ok (.getfield 30, 3) := by decide +kernel
theorem dX9_append_16 : decode cX9_append 16 = .ok (.iload 5, 2) := by decide +kernel
theorem dX9_append_18 : decode cX9_append 18 = .ok (.iload 4, 2) := by decide +kernel
theorem dX9_append_20 : decode cX9_append 20 = .ok (.bipush 20, 2) := by decide +kernel
theorem dX9_append_22 : decode cX9_append 22 = .ok (.irem, 1) := by decide +kernel
theorem dX9_append_23 : decode cX9_append 23 = .ok (.bipush 9, 2) := by decide +kernel
theorem dX9_append_25 : decode cX9_append 25 = .ok (.isub, 1) := by decide +kernel
theorem dX9_append_26 : decode cX9_append 26 = .ok (.invokevirtual 33, 3) := by decide +kernel
theorem dX9_append_29 : decode cX9_append 29 = .ok (.iload 4, 2) := by decide +kernel
theorem dX9_append_31 : decode cX9_append 31 = .ok (.bipush 20, 2) := by decide +kernel
theorem dX9_append_33 : decode cX9_append 33 = .ok (.idiv, 1) := by decide +kernel
theorem dX9_append_34 : decode cX9_append 34 = .ok (.istore 4, 2) := by decide +kernel
theorem dX9_append_36 : decode cX9_append 36 = .ok (.iinc 5 (-1), 3) := by decide +kernel
theorem dX9_append_39 : decode cX9_append 39 = .ok (.goto (-33), 3) := by decide +kernel
theorem dX9_append_42 : decode cX9_append 42 = .ok (.aload_n 0, 1) := by decide +kernel
theorem dX9_append_43 : decode cX9_append 43 = .ok (.aload_n 0, 1) := by decide +kernel
theorem dX9_append_44 : decode cX9_append 44 = .ok (.getfield 30, 3) := by decide +kernel
theorem dX9_append_47 : decode cX9_append 47 = .ok (.iconst 4, 1) := by decide +kernel
theorem dX9_append_48 : decode cX9_append 48 = .ok (.iload_n 3, 1) := by decide +kernel
theorem dX9_append_49 : decode cX9_append 49 = .ok (.invokevirtual 33, 3) := by decide +kernel
theorem dX9_append_52 : decode cX9_append 52 = .ok (.aload_n 0, 1) := by decide +kernel
theorem dX9_append_53 : decode cX9_append 53 = .ok (.aload_n 0, 1) := by decide +kernel
theorem dX9_append_54 : decode cX9_append 54 = .ok (.getfield 30, 3) := by decide +kernel
theorem dX9_append_57 : decode cX9_append 57 = .ok (.iconst 5, 1) := by decide +kernel
theorem dX9_append_58 : decode cX9_append 58 = .ok (.iload_n 1, 1) := by decide +kernel
theorem dX9_append_59 : decode cX9_append 59 = .ok (.invokevirtual 33, 3) := by decide +kernel
theorem dX9_append_62 : decode cX9_append 62 = .ok (.aload_n 0, 1) := by decide +kernel
theorem dX9_append_63 : decode cX9_append 63 = .ok (.dup, 1) := by decide +kernel
theorem dX9_append_64 : decode cX9_append 64 = .ok (.getfield 30, 3) := by decide +kernel
theorem dX9_append_67 : decode cX9_append 67 = .ok (.iconst 1, 1) := by decide +kernel
theorem dX9_append_68 : decode cX9_append 68 = .ok (.iadd, 1) := by decide +kernel
theorem dX9_append_69 : decode cX9_append 69 = .ok (.putfield 30, 3) := by decide +kernel
theorem dX9_append_72 : decode cX9_append 72 = .ok (.return_, 1) := by decide +kernel
theorem dX9_remove_0 : decode cX9_remove 0 = .ok (.iload_n 1, 1) := by decide +kernel
theorem dX9_remove_1 : decode cX9_remove 1 = .ok (.iconst 1, 1) := by decide +kernel
theorem dX9_remove_2 : decode cX9_remove 2 = .ok (.iadd, 1) := by decide +kernel
theorem dX9_remove_3 : decode cX9_remove 3 = .ok (.bipush 6, 2) := by decide +kernel
theorem dX9_remove_5 : decode cX9_remove 5 = .ok (.imul, 1) := by decide +kernel
theorem dX9_remove_6 : decode cX9_remove 6 = .ok (.istore_n 2, 1) := by decide +kernel
theorem dX9_remove_7 : decode cX9_remove 7 = .ok (.aload_n 0, 1) := by decide +kernel
theorem dX9_remove_8 : decode cX9_remove 8 = .ok (.getfield 11, 3) := by decide +kernel
theorem dX9_remove_11 : decode cX9_remove 11 = .ok (.iload_n 2, 1) := by decide +kernel
theorem dX9_remove_12 : decode cX9_remove 12 = .ok (.aload_n 0, 1) := by decide +kernel
theorem dX9_remove_13 : decode cX9_remove 13 = .ok (.getfield 11, 3) := by decide +kernel
theorem dX9_remove_16 : decode cX9_remove 16 = .ok (.iload_n 1, 1) := by decide +kernel
theorem dX9_remove_17 : decode cX9_remove 17 = .ok (.bipush 6, 2) := by decide +kernel
theorem dX9_remove_19 : decode cX9_remove 19 = .ok (.imul, 1) := by decide +kernel
theorem dX9_remove_20 : decode cX9_remove 20 = .ok (.bipush 48, 2) := by decide +kernel
theorem dX9_remove_22 : decode cX9_remove 22 = .ok (.iload_n 2, 1) := by decide +kernel
theorem dX9_remove_23 : decode cX9_remove 23 = .ok (.isub, 1) := by decide +kernel
theorem dX9_remove_24 : decode cX9_remove 24 = .ok (.invokestatic 37, 3) := by decide +kernel
theorem dX9_remove_27 : decode cX9_remove 27 = .ok (.aload_n 0, 1) := by decide +kernel
theorem dX9_remove_28 : decode cX9_remove 28 = .ok (.dup, 1) := by decide +kernel
theorem dX9_remove_29 : decode cX9_remove 29 = .ok (.getfield 30, 3) := by decide +kernel
theorem dX9_remove_32 : decode cX9_remove 32 = .ok (.iconst 1, 1) := by decide +kernel
theorem dX9_remove_33 : decode cX9_remove 33 = .ok (.isub, 1) := by decide +kernel
theorem dX9_remove_34 : decode cX9_remove 34 = .ok (.putfield 30, 3) := by decide +kernel
theorem dX9_remove_37 : decode cX9_remove 37 = .ok (.aload_n 0, 1) := by decide +kernel
theorem dX9_remove_38 : decode cX9_remove 38 = .ok (.dup, 1) := by decide +kernel
theorem dX9_remove_39 : decode cX9_remove 39 = .ok (.getfield 27, 3) := by decide +kernel
theorem dX9_remove_42 : decode cX9_remove 42 = .ok (.iconst 1, 1) := by decide +kernel
theorem dX9_remove_43 : decode cX9_remove 43 = .ok (.iadd, 1) := by decide +kernel
theorem dX9_remove_44 : decode cX9_remove 44 = .ok (.putfield 27, 3) := by decide +kernel
theorem dX9_remove_47 : decode cX9_remove 47 = .ok (.return_, 1) := by decide +kernel
set_option maxRecDepth 20000 in
theorem ggX9_negate_X9_cell : GoodIn wsX9_negate wsX9_cell := goodIn_r _ [5, 6, 12, 13, 14, 15, 16] (by decide +kernel) (by decide +kernel)
set_option maxRecDepth 20000 in
theorem gX9_negate_X9_cell : GoodIn wsX9_negate (wsV RX9 43 RX9 yX9_cell wsX9_cell) := goodIn_app (goodIn_of _ (by decide +kernel)) ggX9_negate_X9_cell
set_option maxRecDepth 20000 in
theorem ggX9_negate_X9_setCell : GoodIn wsX9_negate wsX9_setCell := goodIn_r _ [10, 6, 11, 12, 13, 14, 15, 16] (by decide +kernel) (by decide +kernel)
set_option maxRecDepth 20000 in
theorem gX9_negate_X9_setCell : GoodIn wsX9_negate (wsV RX9 33 RX9 yX9_setCell wsX9_setCell) := goodIn_app (goodIn_of _ (by decide +kernel)) ggX9_negate_X9_setCell
theorem dX9_negate_0 : decode cX9_negate 0 = .ok (.iconst 0, 1) := by decide +kernel
theorem dX9_negate_1 : decode cX9_negate 1 = .ok (.istore_n 2, 1) := by decide +kernel
theorem dX9_negate_2 : decode cX9_negate 2 = .ok (.iload_n 2, 1) := by decide +kernel
theorem dX9_negate_3 : decode cX9_negate 3 = .ok (.iconst 4, 1) := by decide +kernel
theorem dX9_negate_4 : decode cX9_negate 4 = .ok (.if_icmp .gt 22, 3) := by decide +kernel
theorem dX9_negate_7 : decode cX9_negate 7 = .ok (.aload_n 0, 1) := by decide +kernel
theorem dX9_negate_8 : decode cX9_negate 8 = .ok (.iload_n 1, 1) := by decide +kernel
theorem dX9_negate_9 : decode cX9_negate 9 = .ok (.iload_n 2, 1) := by decide +kernel
theorem dX9_negate_10 : decode cX9_negate 10 = .ok (.aload_n 0, 1) := by decide +kernel
theorem dX9_negate_11 : decode cX9_negate 11 = .ok (.iload_n 1, 1) := by decide +kernel
theorem dX9_negate_12 : decode cX9_negate 12 = .ok (.iload_n 2, 1) := by decide +kernel
theorem dX9_negate_13 : decode cX9_negate 13 = .ok (.invokevirtual 43, 3) := by decide +kernel
theorem dX9_negate_16 : decode cX9_negate 16 = .ok (.ineg, 1) := by decide +kernel
theorem dX9_negate_17 : decode cX9_negate 17 = .ok (.invokevirtual 33, 3) := by decide +kernel
theorem dX9_negate_20 : decode cX9_negate 20 = .ok (.iinc 2 1, 3) := by decide +kernel
theorem dX9_negate_23 : decode cX9_negate 23 = .ok (.goto (-21), 3) := by decide +kernel
theorem dX9_negate_26 : decode cX9_negate 26 = .ok (.return_, 1) := by decide +kernel
set_option maxRecDepth 20000 in
theorem ggX9_driftOnce_X9_setCell : GoodIn wsX9_driftOnce wsX9_setCell := goodIn_r _ [10, 11, 12, 13, 14, 15, 16, 17] (by decide +kernel) (by decide +kernel)
set_option maxRecDepth 20000 in
theorem gX9_driftOnce_X9_setCell : GoodIn wsX9_driftOnce (wsV RX9 33 RX9 yX9_setCell wsX9_setCell) := goodIn_app (goodIn_of _ (by decide +kernel)) ggX9_driftOnce_X9_setCell
theorem dX9_driftOnce_0 : decode cX9_driftOnce 0 = .ok (.aload_n 0, 1) := by decide +kernel
theorem dX9_driftOnce_1 : decode cX9_driftOnce 1 = .ok (.aload_n 0, 1) := by decide +kernel
theorem dX9_driftOnce_2 : decode cX9_driftOnce 2 = .ok (.getfield 19, 3) := by decide +kernel
theorem dX9_driftOnce_5 : decode cX9_driftOnce 5 = .ok (.ldc 47, 2) := by decide +kernel
theorem dX9_driftOnce_7 : decode cX9_driftOnce 7 = .ok (.imul, 1) := by decide +kernel
theorem dX9_driftOnce_8 : decode cX9_driftOnce 8 = .ok (.sipush 12345, 3) := by decide +kernel
theorem dX9_driftOnce_11 : decode cX9_driftOnce 11 = .ok (.iadd, 1) := by decide +kernel
theorem dX9_driftOnce_12 : decode cX9_driftOnce 12 = .ok (.ldc 48, 2) := by decide +kernel
theorem dX9_driftOnce_14 : decode cX9_driftOnce 14 = .ok (.iand, 1) := by decide +kernel
theorem dX9_driftOnce_15 : decode cX9_driftOnce 15 = .ok (.putfield 19, 3) := by decide +kernel
theorem dX9_driftOnce_18 : decode cX9_driftOnce 18 = .ok (.aload_n 0, 1) := by decide +kernel
theorem dX9_driftOnce_19 : decode cX9_driftOnce 19 = .ok (.getfield 19, 3) := by decide +kernel
theorem dX9_driftOnce_22 : decode cX9_driftOnce 22 = .ok (.ldc 49, 2) := by decide +kernel
theorem dX9_driftOnce_24 : decode cX9_driftOnce 24 = .ok (.idiv, 1) := by decide +kernel
theorem dX9_driftOnce_25 : decode cX9_driftOnce 25 = .ok (.istore_n 1, 1) := by decide +kernel
theorem dX9_driftOnce_26 : decode cX9_driftOnce 26 = .ok (.aload_n 0, 1) := by decide +kernel
theorem dX9_driftOnce_27 : decode cX9_driftOnce 27 = .ok (.getfield 30, 3) := by decide +kernel
theorem dX9_driftOnce_30 : decode cX9_driftOnce 30 = .ok (.ifCond .le 29, 3) := by decide +kernel
theorem dX9_driftOnce_33 : decode cX9_driftOnce 33 = .ok (.aload_n 0, 1) := by decide +kernel
theorem dX9_driftOnce_34 : decode cX9_driftOnce 34 = .ok (.iload_n 1, 1) := by decide +kernel
theorem dX9_driftOnce_35 : decode cX9_driftOnce 35 = .ok (.aload_n 0, 1) := by decide +kernel
theorem dX9_driftOnce_36 : decode cX9_driftOnce 36 = .ok (.getfield 30, 3) := by decide +kernel
theorem dX9_driftOnce_39 : decode cX9_driftOnce 39 = .ok (.irem, 1) := by decide +kernel
theorem dX9_driftOnce_40 : decode cX9_driftOnce 40 = .ok (.iload_n 1, 1) := by decide +kernel
theorem dX9_driftOnce_41 : decode cX9_driftOnce 41 = .ok (.bipush 8, 2) := by decide +kernel
theorem dX9_driftOnce_43 : decode cX9_driftOnce 43 = .ok (.idiv, 1) := by decide +kernel
theorem dX9_driftOnce_44 : decode cX9_driftOnce 44 = .ok (.iconst 5, 1) := by decide +kernel
theorem dX9_driftOnce_45 : decode cX9_driftOnce 45 = .ok (.irem, 1) := by decide +kernel
theorem dX9_driftOnce_46 : decode cX9_driftOnce 46 = .ok (.iload_n 1, 1) := by decide +kernel
theorem dX9_driftOnce_47 : decode cX9_driftOnce 47 = .ok (.bipush 64, 2) := by decide +kernel
theorem dX9_driftOnce_49 : decode cX9_driftOnce 49 = .ok (.idiv, 1) := by decide +kernel
theorem dX9_driftOnce_50 : decode cX9_driftOnce 50 = .ok (.bipush 19, 2) := by decide +kernel
theorem dX9_driftOnce_52 : decode cX9_driftOnce 52 = .ok (.irem, 1) := by decide +kernel
theorem dX9_driftOnce_53 : decode cX9_driftOnce 53 = .ok (.bipush 9, 2) := by decide +kernel
theorem dX9_driftOnce_55 : decode cX9_driftOnce 55 = .ok (.isub, 1) := by decide +kernel
theorem dX9_driftOnce_56 : decode cX9_driftOnce 56 = .ok (.invokevirtual 33, 3) := by decide +kernel
theorem dX9_driftOnce_59 : decode cX9_driftOnce 59 = .ok (.return_, 1) := by decide +kernel
set_option maxRecDepth 20000 in
theorem ggX9_sumAt_X3_valueOf : GoodIn wsX9_sumAt wsX3_valueOf := goodIn_r _ [5] (by decide +kernel) (by decide +kernel)
set_option maxRecDepth 20000 in
theorem gX9_sumAt_X3_valueOf : GoodIn wsX9_sumAt (va_wsS RX9 50 yX3_valueOf wsX3_valueOf) := goodIn_app (goodIn_of _ (by decide +kernel)) ggX9_sumAt_X3_valueOf
theorem dX9_sumAt_0 : decode cX9_sumAt 0 = .ok (.iload_n 1, 1) := by decide +kernel
theorem dX9_sumAt_1 : decode cX9_sumAt 1 = .ok (.bipush 6, 2) := by decide +kernel
theorem dX9_sumAt_3 : decode cX9_sumAt 3 = .ok (.imul, 1) := by decide +kernel
theorem dX9_sumAt_4 : decode cX9_sumAt 4 = .ok (.istore_n 3, 1) := by decide +kernel
theorem dX9_sumAt_5 : decode cX9_sumAt 5 = .ok (.aload_n 0, 1) := by decide +kernel
theorem dX9_sumAt_6 : decode cX9_sumAt 6 = .ok (.getfield 11, 3) := by decide +kernel
theorem dX9_sumAt_9 : decode cX9_sumAt 9 = .ok (.iload_n 3, 1) := by decide +kernel
theorem dX9_sumAt_10 : decode cX9_sumAt 10 = .ok (.iaload, 1) := by decide +kernel
theorem dX9_sumAt_11 : decode cX9_sumAt 11 = .ok (.iload_n 2, 1) := by decide +kernel
theorem dX9_sumAt_12 : decode cX9_sumAt 12 = .ok (.iconst 0, 1) := by decide +kernel
theorem dX9_sumAt_13 : decode cX9_sumAt 13 = .ok (.invokestatic 50, 3) := by decide +kernel
theorem dX9_sumAt_16 : decode cX9_sumAt 16 = .ok (.imul, 1) := by decide +kernel
theorem dX9_sumAt_17 : decode cX9_sumAt 17 = .ok (.aload_n 0, 1) := by decide +kernel
theorem dX9_sumAt_18 : decode cX9_sumAt 18 = .ok (.getfield 11, 3) := by decide +kernel
theorem dX9_sumAt_21 : decode cX9_sumAt 21 = .ok (.iload_n 3, 1) := by decide +kernel
theorem dX9_sumAt_22 : decode cX9_sumAt 22 = .ok (.iconst 1, 1) := by decide +kernel
theorem dX9_sumAt_23 : decode cX9_sumAt 23 = .ok (.iadd, 1) := by decide +kernel
theorem dX9_sumAt_24 : decode cX9_sumAt 24 = .ok (.iaload, 1) := by decide +kernel
theorem dX9_sumAt_25 : decode cX9_sumAt 25 = .ok (.iload_n 2, 1) := by decide +kernel
theorem dX9_sumAt_26 : decode cX9_sumAt 26 = .ok (.iconst 1, 1) := by decide +kernel
theorem dX9_sumAt_27 : decode cX9_sumAt 27 = .ok (.invokestatic 50, 3) := by decide +kernel
theorem dX9_sumAt_30 : decode cX9_sumAt 30 = .ok (.imul, 1) := by decide +kernel
theorem dX9_sumAt_31 : decode cX9_sumAt 31 = .ok (.iadd, 1) := by decide +kernel
theorem dX9_sumAt_32 : decode cX9_sumAt 32 = .ok (.aload_n 0, 1) := by decide +kernel
theorem dX9_sumAt_33 : decode cX9_sumAt 33 = .ok (.getfield 11, 3) := by decide +kernel
theorem dX9_sumAt_36 : decode cX9_sumAt 36 = .ok (.iload_n 3, 1) := by decide +kernel
theorem dX9_sumAt_37 : decode cX9_sumAt 37 = .ok (.iconst 2, 1) := by decide +kernel
theorem dX9_sumAt_38 : decode cX9_sumAt 38 = .ok (.iadd, 1) := by decide +kernel
theorem dX9_sumAt_39 : decode cX9_sumAt 39 = .ok (.iaload, 1) := by decide +kernel
theorem dX9_sumAt_40 : decode cX9_sumAt 40 = .ok (.iload_n 2, 1) := by decide +kernel
theorem dX9_sumAt_41 : decode cX9_sumAt 41 = .ok (.iconst 2, 1) := by decide +kernel
theorem dX9_sumAt_42 : decode cX9_sumAt 42 = .ok (.invokestatic 50, 3) := by decide +kernel
theorem dX9_sumAt_45 : decode cX9_sumAt 45 = .ok (.imul, 1) := by decide +kernel
theorem dX9_sumAt_46 : decode cX9_sumAt 46 = .ok (.iadd, 1) := by decide +kernel
theorem dX9_sumAt_47 : decode cX9_sumAt 47 = .ok (.aload_n 0, 1) := by decide +kernel
theorem dX9_sumAt_48 : decode cX9_sumAt 48 = .ok (.getfield 11, 3) := by decide +kernel
theorem dX9_sumAt_51 : decode cX9_sumAt 51 = .ok (.iload_n 3, 1) := by decide +kernel
theorem dX9_sumAt_52 : decode cX9_sumAt 52 = .ok (.iconst 3, 1) := by decide +kernel
theorem dX9_sumAt_53 : decode cX9_sumAt 53 = .ok (.iadd, 1) := by decide +kernel
theorem dX9_sumAt_54 : decode cX9_sumAt 54 = .ok (.iaload, 1) := by decide +kernel
theorem dX9_sumAt_55 : decode cX9_sumAt 55 = .ok (.iload_n 2, 1) := by decide +kernel
theorem dX9_sumAt_56 : decode cX9_sumAt 56 = .ok (.iconst 3, 1) := by decide +kernel
theorem dX9_sumAt_57 : decode cX9_sumAt 57 = .ok (.invokestatic 50, 3) := by decide +kernel
theorem dX9_sumAt_60 : decode cX9_sumAt 60 = .ok (.imul, 1) := by decide +kernel
theorem dX9_sumAt_61 : decode cX9_sumAt 61 = .ok (.iadd, 1) := by decide +kernel
theorem dX9_sumAt_62 : decode cX9_sumAt 62 = .ok (.aload_n 0, 1) := by decide +kernel
theorem dX9_sumAt_63 : decode cX9_sumAt 63 = .ok (.getfield 11, 3) := by decide +kernel
theorem dX9_sumAt_66 : decode cX9_sumAt 66 = .ok (.iload_n 3, 1) := by decide +kernel
theorem dX9_sumAt_67 : decode cX9_sumAt 67 = .ok (.iconst 4, 1) := by decide +kernel
theorem dX9_sumAt_68 : decode cX9_sumAt 68 = .ok (.iadd, 1) := by decide +kernel
theorem dX9_sumAt_69 : decode cX9_sumAt 69 = .ok (.iaload, 1) := by decide +kernel
theorem dX9_sumAt_70 : decode cX9_sumAt 70 = .ok (.iadd, 1) := by decide +kernel
theorem dX9_sumAt_71 : decode cX9_sumAt 71 = .ok (.ireturn, 1) := by decide +kernel
set_option maxRecDepth 20000 in
theorem ggX9_holdingAt_X9_cell : GoodIn wsX9_holdingAt wsX9_cell := goodIn_r _ [6, 7, 20, 21, 22, 23, 24] (by decide +kernel) (by decide +kernel)
set_option maxRecDepth 20000 in
theorem gX9_holdingAt_X9_cell : GoodIn wsX9_holdingAt (wsV RX9 43 RX9 yX9_cell wsX9_cell) := goodIn_app (goodIn_of _ (by decide +kernel)) ggX9_holdingAt_X9_cell
set_option maxRecDepth 20000 in
theorem ggX9_holdingAt_X9_sumAt : GoodIn wsX9_holdingAt wsX9_sumAt := goodIn_r _ [11, 7, 12, 13, 14, 15, 20, 21, 22, 23, 24] (by decide +kernel) (by decide +kernel)
set_option maxRecDepth 20000 in
theorem gX9_holdingAt_X9_sumAt : GoodIn wsX9_holdingAt (wsV RX9 55 RX9 yX9_sumAt wsX9_sumAt) := goodIn_app (goodIn_of _ (by decide +kernel)) ggX9_holdingAt_X9_sumAt
set_option maxRecDepth 20000 in
theorem ggX9_holdingAt_X1_holds : GoodIn wsX9_holdingAt wsX1_holds := goodIn_r _ [19] (by decide +kernel) (by decide +kernel)
set_option maxRecDepth 20000 in
theorem gX9_holdingAt_X1_holds : GoodIn wsX9_holdingAt (va_wsS RX9 58 yX1_holds wsX1_holds) := goodIn_app (goodIn_of _ (by decide +kernel)) ggX9_holdingAt_X1_holds
theorem dX9_holdingAt_0 : decode cX9_holdingAt 0 = .ok (.iconst 0, 1) := by decide +kernel
theorem dX9_holdingAt_1 : decode cX9_holdingAt 1 = .ok (.istore_n 2, 1) := by decide +kernel
theorem dX9_holdingAt_2 : decode cX9_holdingAt 2 = .ok (.iconst 0, 1) := by decide +kernel
theorem dX9_holdingAt_3 : decode cX9_holdingAt 3 = .ok (.istore_n 3, 1) := by decide +kernel
theorem dX9_holdingAt_4 : decode cX9_holdingAt 4 = .ok (.iload_n 3, 1) := by decide +kernel
theorem dX9_holdingAt_5 : decode cX9_holdingAt 5 = .ok (.aload_n 0, 1) := by decide +kernel
theorem dX9_holdingAt_6 : decode cX9_holdingAt 6 = .ok (.getfield 30, 3) := by decide +kernel
theorem dX9_holdingAt_9 : decode cX9_holdingAt 9 = .ok (.if_icmp .ge 37, 3) := by decide +kernel
theorem dX9_holdingAt_12 : decode cX9_holdingAt 12 = .ok (.iload_n 2, 1) := by decide +kernel
theorem dX9_holdingAt_13 : decode cX9_holdingAt 13 = .ok (.aload_n 0, 1) := by decide +kernel
theorem dX9_holdingAt_14 : decode cX9_holdingAt 14 = .ok (.iload_n 3, 1) := by decide +kernel
theorem dX9_holdingAt_15 : decode cX9_holdingAt 15 = .ok (.iconst 5, 1) := by decide +kernel
theorem dX9_holdingAt_16 : decode cX9_holdingAt 16 = .ok (.invokevirtual 43, 3) := by decide +kernel
theorem dX9_holdingAt_19 : decode cX9_holdingAt 19 = .ok (.aload_n 0, 1) := by decide +kernel
theorem dX9_holdingAt_20 : decode cX9_holdingAt 20 = .ok (.iload_n 3, 1) := by decide +kernel
theorem dX9_holdingAt_21 : decode cX9_holdingAt 21 = .ok (.iload_n 1, 1) := by decide +kernel
theorem dX9_holdingAt_22 : decode cX9_holdingAt 22 = .ok (.invokevirtual 55, 3) := by decide +kernel
theorem dX9_holdingAt_25 : decode cX9_holdingAt 25 = .ok (.invokestatic 58, 3) := by decide +kernel
theorem dX9_holdingAt_28 : decode cX9_holdingAt 28 = .ok (.ifCond .eq 9, 3) := by decide +kernel
theorem dX9_holdingAt_31 : decode cX9_holdingAt 31 = .ok (.iconst 1, 1) := by decide +kernel
theorem dX9_holdingAt_32 : decode cX9_holdingAt 32 = .ok (.iload_n 3, 1) := by decide +kernel
theorem dX9_holdingAt_33 : decode cX9_holdingAt 33 = .ok (.ishl, 1) := by decide +kernel
theorem dX9_holdingAt_34 : decode cX9_holdingAt 34 = .ok (.goto 4, 3) := by decide +kernel
theorem dX9_holdingAt_37 : decode cX9_holdingAt 37 = .ok (.iconst 0, 1) := by decide +kernel
theorem dX9_holdingAt_38 : decode cX9_holdingAt 38 = .ok (.ior, 1) := by decide +kernel
theorem dX9_holdingAt_39 : decode cX9_holdingAt 39 = .ok (.istore_n 2, 1) := by decide +kernel
theorem dX9_holdingAt_40 : decode cX9_holdingAt 40 = .ok (.iinc 3 1, 3) := by decide +kernel
theorem dX9_holdingAt_43 : decode cX9_holdingAt 43 = .ok (.goto (-39), 3) := by decide +kernel
theorem dX9_holdingAt_46 : decode cX9_holdingAt 46 = .ok (.iload_n 2, 1) := by decide +kernel
theorem dX9_holdingAt_47 : decode cX9_holdingAt 47 = .ok (.ireturn, 1) := by decide +kernel
theorem dX9_all_0 : decode cX9_all 0 = .ok (.iconst 1, 1) := by decide +kernel
theorem dX9_all_1 : decode cX9_all 1 = .ok (.aload_n 0, 1) := by decide +kernel
theorem dX9_all_2 : decode cX9_all 2 = .ok (.getfield 30, 3) := by decide +kernel
theorem dX9_all_5 : decode cX9_all 5 = .ok (.ishl, 1) := by decide +kernel
theorem dX9_all_6 : decode cX9_all 6 = .ok (.iconst 1, 1) := by decide +kernel
theorem dX9_all_7 : decode cX9_all 7 = .ok (.isub, 1) := by decide +kernel
theorem dX9_all_8 : decode cX9_all 8 = .ok (.ireturn, 1) := by decide +kernel
set_option maxRecDepth 20000 in
theorem ggX9_isInBox_X3_valueOf : GoodIn wsX9_isInBox wsX3_valueOf := goodIn_r _ [5] (by decide +kernel) (by decide +kernel)
set_option maxRecDepth 20000 in
theorem gX9_isInBox_X3_valueOf : GoodIn wsX9_isInBox (va_wsS RX9 50 yX3_valueOf wsX3_valueOf) := goodIn_app (goodIn_of _ (by decide +kernel)) ggX9_isInBox_X3_valueOf
theorem dX9_isInBox_0 : decode cX9_isInBox 0 = .ok (.iconst 0, 1) := by decide +kernel
theorem dX9_isInBox_1 : decode cX9_isInBox 1 = .ok (.istore_n 2, 1) := by decide +kernel
theorem dX9_isInBox_2 : decode cX9_isInBox 2 = .ok (.iload_n 2, 1) := by decide +kernel
theorem dX9_isInBox_3 : decode cX9_isInBox 3 = .ok (.iconst 4, 1) := by decide +kernel
theorem dX9_isInBox_4 : decode cX9_isInBox 4 = .ok (.if_icmp .ge 23, 3) := by decide +kernel
theorem dX9_isInBox_7 : decode cX9_isInBox 7 = .ok (.iload_n 1, 1) := by decide +kernel
theorem dX9_isInBox_8 : decode cX9_isInBox 8 = .ok (.iload_n 2, 1) := by decide +kernel
theorem dX9_isInBox_9 : decode cX9_isInBox 9 = .ok (.invokestatic 50, 3) := by decide +kernel
theorem dX9_isInBox_12 : decode cX9_isInBox 12 = .ok (.aload_n 0, 1) := by decide +kernel
theorem dX9_isInBox_13 : decode cX9_isInBox 13 = .ok (.getfield 15, 3) := by decide +kernel
theorem dX9_isInBox_16 : decode cX9_isInBox 16 = .ok (.if_icmp .le 5, 3) := by decide +kernel
theorem dX9_isInBox_19 : decode cX9_isInBox 19 = .ok (.iconst 0, 1) := by decide +kernel
theorem dX9_isInBox_20 : decode cX9_isInBox 20 = .ok (.ireturn, 1) := by decide +kernel
theorem dX9_isInBox_21 : decode cX9_isInBox 21 = .ok (.iinc 2 1, 3) := by decide +kernel
theorem dX9_isInBox_24 : decode cX9_isInBox 24 = .ok (.goto (-22), 3) := by decide +kernel
theorem dX9_isInBox_27 : decode cX9_isInBox 27 = .ok (.iconst 1, 1) := by decide +kernel
theorem dX9_isInBox_28 : decode cX9_isInBox 28 = .ok (.ireturn, 1) := by decide +kernel
theorem dX9_take_0 : decode cX9_take 0 = .ok (.aload_n 1, 1) := by decide +kernel
theorem dX9_take_1 : decode cX9_take 1 = .ok (.getfield 11, 3) := by decide +kernel
theorem dX9_take_4 : decode cX9_take 4 = .ok (.iconst 0, 1) := by decide +kernel
theorem dX9_take_5 : decode cX9_take 5 = .ok (.aload_n 0, 1) := by decide +kernel
theorem dX9_take_6 : decode cX9_take 6 = .ok (.getfield 11, 3) := by decide +kernel
theorem dX9_take_9 : decode cX9_take 9 = .ok (.iconst 0, 1) := by decide +kernel
theorem dX9_take_10 : decode cX9_take 10 = .ok (.bipush 48, 2) := by decide +kernel
theorem dX9_take_12 : decode cX9_take 12 = .ok (.invokestatic 37, 3) := by decide +kernel
theorem dX9_take_15 : decode cX9_take 15 = .ok (.aload_n 0, 1) := by decide +kernel
theorem dX9_take_16 : decode cX9_take 16 = .ok (.aload_n 1, 1) := by decide +kernel
theorem dX9_take_17 : decode cX9_take 17 = .ok (.getfield 30, 3) := by decide +kernel
theorem dX9_take_20 : decode cX9_take 20 = .ok (.putfield 30, 3) := by decide +kernel
theorem dX9_take_23 : decode cX9_take 23 = .ok (.aload_n 0, 1) := by decide +kernel
theorem dX9_take_24 : decode cX9_take 24 = .ok (.aload_n 1, 1) := by decide +kernel
theorem dX9_take_25 : decode cX9_take 25 = .ok (.getfield 15, 3) := by decide +kernel
theorem dX9_take_28 : decode cX9_take 28 = .ok (.putfield 15, 3) := by decide +kernel
theorem dX9_take_31 : decode cX9_take 31 = .ok (.aload_n 0, 1) := by decide +kernel
theorem dX9_take_32 : decode cX9_take 32 = .ok (.aload_n 1, 1) := by decide +kernel
theorem dX9_take_33 : decode cX9_take 33 = .ok (.getfield 19, 3) := by decide +kernel
theorem dX9_take_36 : decode cX9_take 36 = .ok (.putfield 19, 3) := by decide +kernel
theorem dX9_take_39 : decode cX9_take 39 = .ok (.aload_n 0, 1) := by decide +kernel
theorem dX9_take_40 : decode cX9_take 40 = .ok (.dup, 1) := by decide +kernel
theorem dX9_take_41 : decode cX9_take 41 = .ok (.getfield 27, 3) := by decide +kernel
theorem dX9_take_44 : decode cX9_take 44 = .ok (.iconst 1, 1) := by decide +kernel
theorem dX9_take_45 : decode cX9_take 45 = .ok (.iadd, 1) := by decide +kernel
theorem dX9_take_46 : decode cX9_take 46 = .ok (.putfield 27, 3) := by decide +kernel
theorem dX9_take_49 : decode cX9_take 49 = .ok (.return_, 1) := by decide +kernel
theorem dX9_saveTo_0 : decode cX9_saveTo 0 = .ok (.aload_n 0, 1) := by decide +kernel
theorem dX9_saveTo_1 : decode cX9_saveTo 1 = .ok (.getfield 11, 3) := by decide +kernel
theorem dX9_saveTo_4 : decode cX9_saveTo 4 = .ok (.iconst 0, 1) := by decide +kernel
theorem dX9_saveTo_5 : decode cX9_saveTo 5 = .ok (.aload_n 1, 1) := by decide +kernel
theorem dX9_saveTo_6 : decode cX9_saveTo 6 = .ok (.iload_n 2, 1) := by decide +kernel
theorem dX9_saveTo_7 : decode cX9_saveTo 7 = .ok (.bipush 48, 2) := by decide +kernel
theorem dX9_saveTo_9 : decode cX9_saveTo 9 = .ok (.invokestatic 37, 3) := by decide +kernel
theorem dX9_saveTo_12 : decode cX9_saveTo 12 = .ok (.aload_n 1, 1) := by decide +kernel
theorem dX9_saveTo_13 : decode cX9_saveTo 13 = .ok (.iload_n 2, 1) := by decide +kernel
theorem dX9_saveTo_14 : decode cX9_saveTo 14 = .ok (.bipush 48, 2) := by decide +kernel
theorem dX9_saveTo_16 : decode cX9_saveTo 16 = .ok (.iadd, 1) := by decide +kernel
theorem dX9_saveTo_17 : decode cX9_saveTo 17 = .ok (.aload_n 0, 1) := by decide +kernel
theorem dX9_saveTo_18 : decode cX9_saveTo 18 = .ok (.getfield 30, 3) := by decide +kernel
theorem dX9_saveTo_21 : decode cX9_saveTo 21 = .ok (.iastore, 1) := by decide +kernel
theorem dX9_saveTo_22 : decode cX9_saveTo 22 = .ok (.aload_n 1, 1) := by decide +kernel
theorem dX9_saveTo_23 : decode cX9_saveTo 23 = .ok (.iload_n 2, 1) := by decide +kernel
theorem dX9_saveTo_24 : decode cX9_saveTo 24 = .ok (.bipush 48, 2) := by decide +kernel
theorem dX9_saveTo_26 : decode cX9_saveTo 26 = .ok (.iadd, 1) := by decide +kernel
theorem dX9_saveTo_27 : decode cX9_saveTo 27 = .ok (.iconst 1, 1) := by decide +kernel
theorem dX9_saveTo_28 : decode cX9_saveTo 28 = .ok (.iadd, 1) := by decide +kernel
theorem dX9_saveTo_29 : decode cX9_saveTo 29 = .ok (.aload_n 0, 1) := by decide +kernel
theorem dX9_saveTo_30 : decode cX9_saveTo 30 = .ok (.getfield 15, 3) := by decide +kernel
theorem dX9_saveTo_33 : decode cX9_saveTo 33 = .ok (.iastore, 1) := by decide +kernel
theorem dX9_saveTo_34 : decode cX9_saveTo 34 = .ok (.aload_n 1, 1) := by decide +kernel
theorem dX9_saveTo_35 : decode cX9_saveTo 35 = .ok (.iload_n 2, 1) := by decide +kernel
theorem dX9_saveTo_36 : decode cX9_saveTo 36 = .ok (.bipush 48, 2) := by decide +kernel
theorem dX9_saveTo_38 : decode cX9_saveTo 38 = .ok (.iadd, 1) := by decide +kernel
theorem dX9_saveTo_39 : decode cX9_saveTo 39 = .ok (.iconst 2, 1) := by decide +kernel
theorem dX9_saveTo_40 : decode cX9_saveTo 40 = .ok (.iadd, 1) := by decide +kernel
theorem dX9_saveTo_41 : decode cX9_saveTo 41 = .ok (.aload_n 0, 1) := by decide +kernel
theorem dX9_saveTo_42 : decode cX9_saveTo 42 = .ok (.getfield 19, 3) := by decide +kernel
theorem dX9_saveTo_45 : decode cX9_saveTo 45 = .ok (.iastore, 1) := by decide +kernel
theorem dX9_saveTo_46 : decode cX9_saveTo 46 = .ok (.return_, 1) := by decide +kernel
theorem dX9_loadFrom_0 : decode cX9_loadFrom 0 = .ok (.aload_n 1, 1) := by decide +kernel
theorem dX9_loadFrom_1 : decode cX9_loadFrom 1 = .ok (.iload_n 2, 1) := by decide +kernel
theorem dX9_loadFrom_2 : decode cX9_loadFrom 2 = .ok (.aload_n 0, 1) := by decide +kernel
theorem dX9_loadFrom_3 : decode cX9_loadFrom 3 = .ok (.getfield 11, 3) := by decide +kernel
theorem dX9_loadFrom_6 : decode cX9_loadFrom 6 = .ok (.iconst 0, 1) := by decide +kernel
theorem dX9_loadFrom_7 : decode cX9_loadFrom 7 = .ok (.bipush 48, 2) := by decide +kernel
theorem dX9_loadFrom_9 : decode cX9_loadFrom 9 = .ok (.invokestatic 37, 3) := by decide +kernel
theorem dX9_loadFrom_12 : decode cX9_loadFrom 12 = .ok (.aload_n 0, 1) := by decide +kernel
theorem dX9_loadFrom_13 : decode cX9_loadFrom 13 = .ok (.aload_n 1, 1) := by decide +kernel

theorem dX11_row_35 : decode cX11_row 35 = .ok (.ldc 107, 2) := by decide +kernel
theorem dX11_row_37 : decode cX11_row 37 = .ok (.ireturn, 1) := by decide +kernel
theorem dX11_row_38 : decode cX11_row 38 = .ok (.aload_n 0, 1) := by decide +kernel
theorem dX11_row_39 : decode cX11_row 39 = .ok (.iload_n 1, 1) := by decide +kernel
theorem dX11_row_40 : decode cX11_row 40 = .ok (.iload_n 2, 1) := by decide +kernel
theorem dX11_row_41 : decode cX11_row 41 = .ok (.iconst 1, 1) := by decide +kernel
theorem dX11_row_42 : decode cX11_row 42 = .ok (.if_icmp .ne 7, 3) := by decide +kernel
theorem dX11_row_45 : decode cX11_row 45 = .ok (.iconst 1, 1) := by decide +kernel
theorem dX11_row_46 : decode cX11_row 46 = .ok (.goto 4, 3) := by decide +kernel
theorem dX11_row_49 : decode cX11_row 49 = .ok (.iconst 0, 1) := by decide +kernel
theorem dX11_row_50 : decode cX11_row 50 = .ok (.invokevirtual 228, 3) := by decide +kernel
theorem dX11_row_53 : decode cX11_row 53 = .ok (.iload_n 3, 1) := by decide +kernel
theorem dX11_row_54 : decode cX11_row 54 = .ok (.iconst (-1), 1) := by decide +kernel
theorem dX11_row_55 : decode cX11_row 55 = .ok (.if_icmp .ne 10, 3) := by decide +kernel
theorem dX11_row_58 : decode cX11_row 58 = .ok (.aload_n 0, 1) := by decide +kernel
theorem dX11_row_59 : decode cX11_row 59 = .ok (.getfield 212, 3) := by decide +kernel
theorem dX11_row_62 : decode cX11_row 62 = .ok (.goto 27, 3) := by decide +kernel
theorem dX11_row_65 : decode cX11_row 65 = .ok (.iload_n 3, 1) := by decide +kernel
theorem dX11_row_66 : decode cX11_row 66 = .ok (.aload_n 0, 1) := by decide +kernel
theorem dX11_row_67 : decode cX11_row 67 = .ok (.getfield 212, 3) := by decide +kernel
theorem dX11_row_70 : decode cX11_row 70 = .ok (.if_icmp .ge 17, 3) := by decide +kernel
theorem dX11_row_73 : decode cX11_row 73 = .ok (.aload_n 0, 1) := by decide +kernel
theorem dX11_row_74 : decode cX11_row 74 = .ok (.getfield 31, 3) := by decide +kernel
theorem dX11_row_77 : decode cX11_row 77 = .ok (.iconst 5, 1) := by decide +kernel
theorem dX11_row_78 : decode cX11_row 78 = .ok (.iload_n 3, 1) := by decide +kernel
theorem dX11_row_79 : decode cX11_row 79 = .ok (.imul, 1) := by decide +kernel
theorem dX11_row_80 : decode cX11_row 80 = .ok (.iload 4, 2) := by decide +kernel
theorem dX11_row_82 : decode cX11_row 82 = .ok (.iadd, 1) := by decide +kernel
theorem dX11_row_83 : decode cX11_row 83 = .ok (.iaload, 1) := by decide +kernel
theorem dX11_row_84 : decode cX11_row 84 = .ok (.goto 5, 3) := by decide +kernel
theorem dX11_row_87 : decode cX11_row 87 = .ok (.ldc 107, 2) := by decide +kernel
theorem dX11_row_89 : decode cX11_row 89 = .ok (.ireturn, 1) := by decide +kernel
set_option maxRecDepth 20000 in
theorem ggX11_isIn_X11_valueOf : GoodIn wsX11_isIn wsX11_valueOf := goodIn_r _ [6] (by decide +kernel) (by decide +kernel)
set_option maxRecDepth 20000 in
theorem gX11_isIn_X11_valueOf : GoodIn wsX11_isIn (va_wsS RX11 66 yX11_valueOf wsX11_valueOf) := goodIn_app (goodIn_of _ (by decide +kernel)) ggX11_isIn_X11_valueOf
theorem dX11_isIn_0 : decode cX11_isIn 0 = .ok (.iconst 1, 1) := by decide +kernel
theorem dX11_isIn_1 : decode cX11_isIn 1 = .ok (.istore_n 2, 1) := by decide +kernel
theorem dX11_isIn_2 : decode cX11_isIn 2 = .ok (.iconst 0, 1) := by decide +kernel
theorem dX11_isIn_3 : decode cX11_isIn 3 = .ok (.istore_n 3, 1) := by decide +kernel
theorem dX11_isIn_4 : decode cX11_isIn 4 = .ok (.iload_n 3, 1) := by decide +kernel
theorem dX11_isIn_5 : decode cX11_isIn 5 = .ok (.aload_n 0, 1) := by decide +kernel
theorem dX11_isIn_6 : decode cX11_isIn 6 = .ok (.getfield 212, 3) := by decide +kernel
theorem dX11_isIn_9 : decode cX11_isIn 9 = .ok (.if_icmp .ge 74, 3) := by decide +kernel
theorem dX11_isIn_12 : decode cX11_isIn 12 = .ok (.iload_n 2, 1) := by decide +kernel
theorem dX11_isIn_13 : decode cX11_isIn 13 = .ok (.ifCond .eq 70, 3) := by decide +kernel
theorem dX11_isIn_16 : decode cX11_isIn 16 = .ok (.aload_n 0, 1) := by decide +kernel
theorem dX11_isIn_17 : decode cX11_isIn 17 = .ok (.getfield 31, 3) := by decide +kernel
theorem dX11_isIn_20 : decode cX11_isIn 20 = .ok (.iconst 5, 1) := by decide +kernel
theorem dX11_isIn_21 : decode cX11_isIn 21 = .ok (.iload_n 3, 1) := by decide +kernel
theorem dX11_isIn_22 : decode cX11_isIn 22 = .ok (.imul, 1) := by decide +kernel
theorem dX11_isIn_23 : decode cX11_isIn 23 = .ok (.iconst 4, 1) := by decide +kernel
theorem dX11_isIn_24 : decode cX11_isIn 24 = .ok (.iadd, 1) := by decide +kernel
theorem dX11_isIn_25 : decode cX11_isIn 25 = .ok (.iaload, 1) := by decide +kernel
theorem dX11_isIn_26 : decode cX11_isIn 26 = .ok (.istore 4, 2) := by decide +kernel
theorem dX11_isIn_28 : decode cX11_isIn 28 = .ok (.iconst 0, 1) := by decide +kernel
theorem dX11_isIn_29 : decode cX11_isIn 29 = .ok (.istore 5, 2) := by decide +kernel
theorem dX11_isIn_31 : decode cX11_isIn 31 = .ok (.iload 5, 2) := by decide +kernel
theorem dX11_isIn_33 : decode cX11_isIn 33 = .ok (.iconst 4, 1) := by decide +kernel
theorem dX11_isIn_34 : decode cX11_isIn 34 = .ok (.if_icmp .ge 32, 3) := by decide +kernel
theorem dX11_isIn_37 : decode cX11_isIn 37 = .ok (.iload 4, 2) := by decide +kernel
theorem dX11_isIn_39 : decode cX11_isIn 39 = .ok (.aload_n 0, 1) := by decide +kernel
theorem dX11_isIn_40 : decode cX11_isIn 40 = .ok (.getfield 31, 3) := by decide +kernel
theorem dX11_isIn_43 : decode cX11_isIn 43 = .ok (.iconst 5, 1) := by decide +kernel
theorem dX11_isIn_44 : decode cX11_isIn 44 = .ok (.iload_n 3, 1) := by decide +kernel
theorem dX11_isIn_45 : decode cX11_isIn 45 = .ok (.imul, 1) := by decide +kernel
theorem dX11_isIn_46 : decode cX11_isIn 46 = .ok (.iload 5, 2) := by decide +kernel
theorem dX11_isIn_48 : decode cX11_isIn 48 = .ok (.iadd, 1) := by decide +kernel
theorem dX11_isIn_49 : decode cX11_isIn 49 = .ok (.iaload, 1) := by decide +kernel
theorem dX11_isIn_50 : decode cX11_isIn 50 = .ok (.iload_n 1, 1) := by decide +kernel
theorem dX11_isIn_51 : decode cX11_isIn 51 = .ok (.iload 5, 2) := by decide +kernel
theorem dX11_isIn_53 : decode cX11_isIn 53 = .ok (.invokestatic 66, 3) := by decide +kernel
theorem dX11_isIn_56 : decode cX11_isIn 56 = .ok (.imul, 1) := by decide +kernel
theorem dX11_isIn_57 : decode cX11_isIn 57 = .ok (.iadd, 1) := by decide +kernel
theorem dX11_isIn_58 : decode cX11_isIn 58 = .ok (.istore 4, 2) := by decide +kernel
theorem dX11_isIn_60 : decode cX11_isIn 60 = .ok (.iinc 5 1, 3) := by decide +kernel
theorem dX11_isIn_63 : decode cX11_isIn 63 = .ok (.goto (-32), 3) := by decide +kernel
theorem dX11_isIn_66 : decode cX11_isIn 66 = .ok (.iload 4, 2) := by decide +kernel
theorem dX11_isIn_68 : decode cX11_isIn 68 = .ok (.ifCond .lt 7, 3) := by decide +kernel
theorem dX11_isIn_71 : decode cX11_isIn 71 = .ok (.iconst 1, 1) := by decide +kernel
theorem dX11_isIn_72 : decode cX11_isIn 72 = .ok (.goto 4, 3) := by decide +kernel
theorem dX11_isIn_75 : decode cX11_isIn 75 = .ok (.iconst 0, 1) := by decide +kernel
theorem dX11_isIn_76 : decode cX11_isIn 76 = .ok (.istore_n 2, 1) := by decide +kernel
theorem dX11_isIn_77 : decode cX11_isIn 77 = .ok (.iinc 3 1, 3) := by decide +kernel
theorem dX11_isIn_80 : decode cX11_isIn 80 = .ok (.goto (-76), 3) := by decide +kernel
theorem dX11_isIn_83 : decode cX11_isIn 83 = .ok (.iload_n 2, 1) := by decide +kernel
theorem dX11_isIn_84 : decode cX11_isIn 84 = .ok (.ireturn, 1) := by decide +kernel
set_option maxRecDepth 20000 in
theorem ggX11_areRows_X11_valueOf : GoodIn wsX11_areRows wsX11_valueOf := goodIn_r _ [6] (by decide +kernel) (by decide +kernel)
set_option maxRecDepth 20000 in
theorem gX11_areRows_X11_valueOf : GoodIn wsX11_areRows (va_wsS RX11 66 yX11_valueOf wsX11_valueOf) := goodIn_app (goodIn_of _ (by decide +kernel)) ggX11_areRows_X11_valueOf
theorem dX11_areRows_0 : decode cX11_areRows 0 = .ok (.iconst 1, 1) := by decide +kernel
theorem dX11_areRows_1 : decode cX11_areRows 1 = .ok (.istore_n 2, 1) := by decide +kernel
theorem dX11_areRows_2 : decode cX11_areRows 2 = .ok (.iconst 0, 1) := by decide +kernel
theorem dX11_areRows_3 : decode cX11_areRows 3 = .ok (.istore_n 3, 1) := by decide +kernel
theorem dX11_areRows_4 : decode cX11_areRows 4 = .ok (.iload_n 3, 1) := by decide +kernel
theorem dX11_areRows_5 : decode cX11_areRows 5 = .ok (.aload_n 0, 1) := by decide +kernel
theorem dX11_areRows_6 : decode cX11_areRows 6 = .ok (.getfield 201, 3) := by decide +kernel
theorem dX11_areRows_9 : decode cX11_areRows 9 = .ok (.if_icmp .ge 74, 3) := by decide +kernel
theorem dX11_areRows_12 : decode cX11_areRows 12 = .ok (.iload_n 2, 1) := by decide +kernel
theorem dX11_areRows_13 : decode cX11_areRows 13 = .ok (.ifCond .eq 70, 3) := by decide +kernel
theorem dX11_areRows_16 : decode cX11_areRows 16 = .ok (.aload_n 0, 1) := by decide +kernel
theorem dX11_areRows_17 : decode cX11_areRows 17 = .ok (.getfield 28, 3) := by decide +kernel
theorem dX11_areRows_20 : decode cX11_areRows 20 = .ok (.iconst 5, 1) := by decide +kernel
theorem dX11_areRows_21 : decode cX11_areRows 21 = .ok (.iload_n 3, 1) := by decide +kernel
theorem dX11_areRows_22 : decode cX11_areRows 22 = .ok (.imul, 1) := by decide +kernel
theorem dX11_areRows_23 : decode cX11_areRows 23 = .ok (.iconst 4, 1) := by decide +kernel
theorem dX11_areRows_24 : decode cX11_areRows 24 = .ok (.iadd, 1) := by decide +kernel
theorem dX11_areRows_25 : decode cX11_areRows 25 = .ok (.iaload, 1) := by decide +kernel
theorem dX11_areRows_26 : decode cX11_areRows 26 = .ok (.istore 4, 2) := by decide +kernel
theorem dX11_areRows_28 : decode cX11_areRows 28 = .ok (.iconst 0, 1) := by decide +kernel
theorem dX11_areRows_29 : decode cX11_areRows 29 = .ok (.istore 5, 2) := by decide +kernel
theorem dX11_areRows_31 : decode cX11_areRows 31 = .ok (.iload 5, 2) := by decide +kernel
theorem dX11_areRows_33 : decode cX11_areRows 33 = .ok (.iconst 4, 1) := by decide +kernel
theorem dX11_areRows_34 : decode cX11_areRows 34 = .ok (.if_icmp .ge 32, 3) := by decide +kernel
theorem dX11_areRows_37 : decode cX11_areRows 37 = .ok (.iload 4, 2) := by decide +kernel
theorem dX11_areRows_39 : decode cX11_areRows 39 = .ok (.aload_n 0, 1) := by decide +kernel
theorem dX11_areRows_40 : decode cX11_areRows 40 = .ok (.getfield 28, 3) := by decide +kernel
theorem dX11_areRows_43 : decode cX11_areRows 43 = .ok (.iconst 5, 1) := by decide +kernel
theorem dX11_areRows_44 : decode cX11_areRows 44 = .ok (.iload_n 3, 1) := by decide +kernel
theorem dX11_areRows_45 : decode cX11_areRows 45 = .ok (.imul, 1) := by decide +kernel
theorem dX11_areRows_46 : decode cX11_areRows 46 = .ok (.iload 5, 2) := by decide +kernel
theorem dX11_areRows_48 : decode cX11_areRows 48 = .ok (.iadd, 1) := by decide +kernel
theorem dX11_areRows_49 : decode cX11_areRows 49 = .ok (.iaload, 1) := by decide +kernel
theorem dX11_areRows_50 : decode cX11_areRows 50 = .ok (.iload_n 1, 1) := by decide +kernel
theorem dX11_areRows_51 : decode cX11_areRows 51 = .ok (.iload 5, 2) := by decide +kernel
theorem dX11_areRows_53 : decode cX11_areRows 53 = .ok (.invokestatic 66, 3) := by decide +kernel
theorem dX11_areRows_56 : decode cX11_areRows 56 = .ok (.imul, 1) := by decide +kernel
theorem dX11_areRows_57 : decode cX11_areRows 57 = .ok (.iadd, 1) := by decide +kernel
theorem dX11_areRows_58 : decode cX11_areRows 58 = .ok (.istore 4, 2) := by decide +kernel
theorem dX11_areRows_60 : decode cX11_areRows 60 = .ok (.iinc 5 1, 3) := by decide +kernel
theorem dX11_areRows_63 : decode cX11_areRows 63 = .ok (.goto (-32), 3) := by decide +kernel
theorem dX11_areRows_66 : decode cX11_areRows 66 = .ok (.iload 4, 2) := by decide +kernel
theorem dX11_areRows_68 : decode cX11_areRows 68 = .ok (.ifCond .lt 7, 3) := by decide +kernel
theorem dX11_areRows_71 : decode cX11_areRows 71 = .ok (.iconst 1, 1) := by decide +kernel
theorem dX11_areRows_72 : decode cX11_areRows 72 = .ok (.goto 4, 3) := by decide +kernel
theorem dX11_areRows_75 : decode cX11_areRows 75 = .ok (.iconst 0, 1) := by decide +kernel
theorem dX11_areRows_76 : decode cX11_areRows 76 = .ok (.istore_n 2, 1) := by decide +kernel
theorem dX11_areRows_77 : decode cX11_areRows 77 = .ok (.iinc 3 1, 3) := by decide +kernel
theorem dX11_areRows_80 : decode cX11_areRows 80 = .ok (.goto (-76), 3) := by decide +kernel
theorem dX11_areRows_83 : decode cX11_areRows 83 = .ok (.iload_n 2, 1) := by decide +kernel
theorem dX11_areRows_84 : decode cX11_areRows 84 = .ok (.ireturn, 1) := by decide +kernel
set_option maxRecDepth 20000 in
theorem ggX11_isTrue_X11_areRows : GoodIn wsX11_isTrue wsX11_areRows := goodIn_r _ [6, 7, 8, 9, 10, 5, 11, 12, 13, 14, 15, 16, 17, 18, 19, 20, 21, 22, 23, 24, 25, 26, 27, 28, 29, 30, 31, 32, 33, 34] (by decide +kernel) (by decide +kernel)
set_option maxRecDepth 20000 in
theorem gX11_isTrue_X11_areRows : GoodIn wsX11_isTrue (wsV RX11 232 RX11 yX11_areRows wsX11_areRows) := goodIn_app (goodIn_of _ (by decide +kernel)) ggX11_isTrue_X11_areRows
theorem dX11_isTrue_0 : decode cX11_isTrue 0 = .ok (.iconst 0, 1) := by decide +kernel
theorem dX11_isTrue_1 : decode cX11_isTrue 1 = .ok (.istore_n 3, 1) := by decide +kernel
theorem dX11_isTrue_2 : decode cX11_isTrue 2 = .ok (.iconst 0, 1) := by decide +kernel
theorem dX11_isTrue_3 : decode cX11_isTrue 3 = .ok (.istore 4, 2) := by decide +kernel
theorem dX11_isTrue_5 : decode cX11_isTrue 5 = .ok (.iload 4, 2) := by decide +kernel
theorem dX11_isTrue_7 : decode cX11_isTrue 7 = .ok (.aload_n 0, 1) := by decide +kernel
theorem dX11_isTrue_8 : decode cX11_isTrue 8 = .ok (.getfield 7, 3) := by decide +kernel
theorem dX11_isTrue_11 : decode cX11_isTrue 11 = .ok (.iconst 1, 1) := by decide +kernel
theorem dX11_isTrue_12 : decode cX11_isTrue 12 = .ok (.iaload, 1) := by decide +kernel
theorem dX11_isTrue_13 : decode cX11_isTrue 13 = .ok (.if_icmp .gt 37, 3) := by decide +kernel
theorem dX11_isTrue_16 : decode cX11_isTrue 16 = .ok (.iload_n 3, 1) := by decide +kernel
theorem dX11_isTrue_17 : decode cX11_isTrue 17 = .ok (.ifCond .ne 21, 3) := by decide +kernel
theorem dX11_isTrue_20 : decode cX11_isTrue 20 = .ok (.aload_n 0, 1) := by decide +kernel
theorem dX11_isTrue_21 : decode cX11_isTrue 21 = .ok (.iload_n 1, 1) := by decide +kernel
theorem dX11_isTrue_22 : decode cX11_isTrue 22 = .ok (.iload 4, 2) := by decide +kernel
theorem dX11_isTrue_24 : decode cX11_isTrue 24 = .ok (.bipush 9, 2) := by decide +kernel
theorem dX11_isTrue_26 : decode cX11_isTrue 26 = .ok (.iconst 3, 1) := by decide +kernel
theorem dX11_isTrue_27 : decode cX11_isTrue 27 = .ok (.iload_n 2, 1) := by decide +kernel
theorem dX11_isTrue_28 : decode cX11_isTrue 28 = .ok (.imul, 1) := by decide +kernel
theorem dX11_isTrue_29 : decode cX11_isTrue 29 = .ok (.isub, 1) := by decide +kernel
theorem dX11_isTrue_30 : decode cX11_isTrue 30 = .ok (.ishl, 1) := by decide +kernel
theorem dX11_isTrue_31 : decode cX11_isTrue 31 = .ok (.iadd, 1) := by decide +kernel
theorem dX11_isTrue_32 : decode cX11_isTrue 32 = .ok (.invokevirtual 232, 3) := by decide +kernel
theorem dX11_isTrue_35 : decode cX11_isTrue 35 = .ok (.ifCond .eq 7, 3) := by decide +kernel
theorem dX11_isTrue_38 : decode cX11_isTrue 38 = .ok (.iconst 1, 1) := by decide +kernel
theorem dX11_isTrue_39 : decode cX11_isTrue 39 = .ok (.goto 4, 3) := by decide +kernel
theorem dX11_isTrue_42 : decode cX11_isTrue 42 = .ok (.iconst 0, 1) := by decide +kernel
theorem dX11_isTrue_43 : decode cX11_isTrue 43 = .ok (.istore_n 3, 1) := by decide +kernel
theorem dX11_isTrue_44 : decode cX11_isTrue 44 = .ok (.iinc 4 1, 3) := by decide +kernel
theorem dX11_isTrue_47 : decode cX11_isTrue 47 = .ok (.goto (-42), 3) := by decide +kernel
theorem dX11_isTrue_50 : decode cX11_isTrue 50 = .ok (.iload_n 3, 1) := by decide +kernel
theorem dX11_isTrue_51 : decode cX11_isTrue 51 = .ok (.ireturn, 1) := by decide +kernel
set_option maxRecDepth 20000 in
theorem ggX11_shadesOf_X11_shadowOf : GoodIn wsX11_shadesOf wsX11_shadowOf := goodIn_r _ [6, 7, 8, 9, 10, 11, 12, 13, 5, 14, 15, 16, 17, 18, 19, 20, 21, 22, 23, 24, 25, 26, 27, 28, 29, 30, 31, 32, 33, 53, 54, 55, 56, 57, 58, 59, 60, 61, 62, 63, 64, 65, 66, 67, 68, 69, 70, 71, 72, 73, 74, 75] (by decide +kernel) (by decide +kernel)
set_option maxRecDepth 20000 in
theorem gX11_shadesOf_X11_shadowOf : GoodIn wsX11_shadesOf (wsV RX11 228 RX11 yX11_shadowOf wsX11_shadowOf) := goodIn_app (goodIn_of _ (by decide +kernel)) ggX11_shadesOf_X11_shadowOf
set_option maxRecDepth 20000 in
theorem ggX11_shadesOf_X11_valueOf : GoodIn wsX11_shadesOf wsX11_valueOf := goodIn_r _ [36] (by decide +kernel) (by decide +kernel)
set_option maxRecDepth 20000 in
theorem gX11_shadesOf_X11_valueOf : GoodIn wsX11_shadesOf (va_wsS RX11 66 yX11_valueOf wsX11_valueOf) := goodIn_app (goodIn_of _ (by decide +kernel)) ggX11_shadesOf_X11_valueOf
set_option maxRecDepth 20000 in
theorem ggX11_shadesOf_X11_isBoxed : GoodIn wsX11_shadesOf wsX11_isBoxed := goodIn_r _ [40, 15, 34, 35, 5, 36, 53, 54, 55, 56, 57, 58, 59, 60, 61, 62, 63, 64, 65, 66, 67, 68, 69, 70, 71, 72, 73, 74, 75] (by decide +kernel) (by decide +kernel)
set_option maxRecDepth 20000 in
theorem gX11_shadesOf_X11_isBoxed : GoodIn wsX11_shadesOf (wsV RX11 80 RX11 yX11_isBoxed wsX11_isBoxed) := goodIn_app (goodIn_of _ (by decide +kernel)) ggX11_shadesOf_X11_isBoxed
set_option maxRecDepth 20000 in
theorem ggX11_shadesOf_X11_isIn : GoodIn wsX11_shadesOf wsX11_isIn := goodIn_r _ [44, 7, 10, 34, 35, 5, 36, 53, 54, 55, 56, 57, 58, 59, 60, 61, 62, 63, 64, 65, 66, 67, 68, 69, 70, 71, 72, 73, 74, 75] (by decide +kernel) (by decide +kernel)
set_option maxRecDepth 20000 in
theorem gX11_shadesOf_X11_isIn : GoodIn wsX11_shadesOf (wsV RX11 235 RX11 yX11_isIn wsX11_isIn) := goodIn_app (goodIn_of _ (by decide +kernel)) ggX11_shadesOf_X11_isIn
set_option maxRecDepth 20000 in
theorem ggX11_shadesOf_X11_isTrue : GoodIn wsX11_shadesOf wsX11_isTrue := goodIn_r _ [48, 15, 49, 50, 51, 5, 52, 8, 9, 34, 35, 36, 53, 54, 55, 56, 57, 58, 59, 60, 61, 62, 63, 64, 65, 66, 67, 68, 69, 70, 71, 72, 73, 74, 75] (by decide +kernel) (by decide +kernel)
set_option maxRecDepth 20000 in
theorem gX11_shadesOf_X11_isTrue : GoodIn wsX11_shadesOf (wsV RX11 238 RX11 yX11_isTrue wsX11_isTrue) := goodIn_app (goodIn_of _ (by decide +kernel)) ggX11_shadesOf_X11_isTrue
theorem dX11_shadesOf_0 : decode cX11_shadesOf 0 = .ok (.iconst 0, 1) := by decide +kernel
theorem dX11_shadesOf_1 : decode cX11_shadesOf 1 = .ok (.istore_n 2, 1) := by decide +kernel
theorem dX11_shadesOf_2 : decode cX11_shadesOf 2 = .ok (.iload_n 2, 1) := by decide +kernel
theorem dX11_shadesOf_3 : decode cX11_shadesOf 3 = .ok (.iconst 2, 1) := by decide +kernel
theorem dX11_shadesOf_4 : decode cX11_shadesOf 4 = .ok (.if_icmp .ge 144, 3) := by decide +kernel
theorem dX11_shadesOf_7 : decode cX11_shadesOf 7 = .ok (.aload_n 0, 1) := by decide +kernel
theorem dX11_shadesOf_8 : decode cX11_shadesOf 8 = .ok (.iload_n 1, 1) := by decide +kernel
theorem dX11_shadesOf_9 : decode cX11_shadesOf 9 = .ok (.iload_n 2, 1) := by decide +kernel
theorem dX11_shadesOf_10 : decode cX11_shadesOf 10 = .ok (.iconst 1, 1) := by decide +kernel
theorem dX11_shadesOf_11 : decode cX11_shadesOf 11 = .ok (.if_icmp .ne 7, 3) := by decide +kernel
theorem dX11_shadesOf_14 : decode cX11_shadesOf 14 = .ok (.iconst 1, 1) := by decide +kernel
theorem dX11_shadesOf_15 : decode cX11_shadesOf 15 = .ok (.goto 4, 3) := by decide +kernel
theorem dX11_shadesOf_18 : decode cX11_shadesOf 18 = .ok (.iconst 0, 1) := by decide +kernel
theorem dX11_shadesOf_19 : decode cX11_shadesOf 19 = .ok (.invokevirtual 228, 3) := by decide +kernel
theorem dX11_shadesOf_22 : decode cX11_shadesOf 22 = .ok (.iconst 0, 1) := by decide +kernel
theorem dX11_shadesOf_23 : decode cX11_shadesOf 23 = .ok (.istore_n 3, 1) := by decide +kernel
theorem dX11_shadesOf_24 : decode cX11_shadesOf 24 = .ok (.iload_n 3, 1) := by decide +kernel
theorem dX11_shadesOf_25 : decode cX11_shadesOf 25 = .ok (.sipush 4096, 3) := by decide +kernel
theorem dX11_shadesOf_28 : decode cX11_shadesOf 28 = .ok (.if_icmp .ge 114, 3) := by decide +kernel
theorem dX11_shadesOf_31 : decode cX11_shadesOf 31 = .ok (.iload_n 3, 1) := by decide +kernel
theorem dX11_shadesOf_32 : decode cX11_shadesOf 32 = .ok (.iload_n 1, 1) := by decide +kernel
theorem dX11_shadesOf_33 : decode cX11_shadesOf 33 = .ok (.invokestatic 66, 3) := by decide +kernel
theorem dX11_shadesOf_36 : decode cX11_shadesOf 36 = .ok (.ifCond .ne 15, 3) := by decide +kernel
theorem dX11_shadesOf_39 : decode cX11_shadesOf 39 = .ok (.aload_n 0, 1) := by decide +kernel
theorem dX11_shadesOf_40 : decode cX11_shadesOf 40 = .ok (.iload_n 3, 1) := by decide +kernel
theorem dX11_shadesOf_41 : decode cX11_shadesOf 41 = .ok (.invokevirtual 80, 3) := by decide +kernel
theorem dX11_shadesOf_44 : decode cX11_shadesOf 44 = .ok (.ifCond .eq 7, 3) := by decide +kernel
theorem dX11_shadesOf_47 : decode cX11_shadesOf 47 = .ok (.iconst 1, 1) := by decide +kernel
theorem dX11_shadesOf_48 : decode cX11_shadesOf 48 = .ok (.goto 4, 3) := by decide +kernel
theorem dX11_shadesOf_51 : decode cX11_shadesOf 51 = .ok (.iconst 0, 1) := by decide +kernel
theorem dX11_shadesOf_52 : decode cX11_shadesOf 52 = .ok (.istore 4, 2) := by decide +kernel
theorem dX11_shadesOf_54 : decode cX11_shadesOf 54 = .ok (.aload_n 0, 1) := by decide +kernel
theorem dX11_shadesOf_55 : decode cX11_shadesOf 55 = .ok (.getfield 34, 3) := by decide +kernel
theorem dX11_shadesOf_58 : decode cX11_shadesOf 58 = .ok (.iload_n 3, 1) := by decide +kernel
theorem dX11_shadesOf_59 : decode cX11_shadesOf 59 = .ok (.iload_n 2, 1) := by decide +kernel
theorem dX11_shadesOf_60 : decode cX11_shadesOf 60 = .ok (.ifCond .ne 7, 3) := by decide +kernel
theorem dX11_shadesOf_63 : decode cX11_shadesOf 63 = .ok (.iconst 0, 1) := by decide +kernel
theorem dX11_shadesOf_64 : decode cX11_shadesOf 64 = .ok (.goto 9, 3) := by decide +kernel
theorem dX11_shadesOf_67 : decode cX11_shadesOf 67 = .ok (.aload_n 0, 1) := by decide +kernel
theorem dX11_shadesOf_68 : decode cX11_shadesOf 68 = .ok (.getfield 34, 3) := by decide +kernel
theorem dX11_shadesOf_71 : decode cX11_shadesOf 71 = .ok (.iload_n 3, 1) := by decide +kernel
theorem dX11_shadesOf_72 : decode cX11_shadesOf 72 = .ok (.iaload, 1) := by decide +kernel
theorem dX11_shadesOf_73 : decode cX11_shadesOf 73 = .ok (.iastore, 1) := by decide +kernel
theorem dX11_shadesOf_74 : decode cX11_shadesOf 74 = .ok (.aload_n 0, 1) := by decide +kernel
theorem dX11_shadesOf_75 : decode cX11_shadesOf 75 = .ok (.getfield 34, 3) := by decide +kernel
theorem dX11_shadesOf_78 : decode cX11_shadesOf 78 = .ok (.iload_n 3, 1) := by decide +kernel
theorem dX11_shadesOf_79 : decode cX11_shadesOf 79 = .ok (.dup2, 1) := by decide +kernel
theorem dX11_shadesOf_80 : decode cX11_shadesOf 80 = .ok (.iaload, 1) := by decide +kernel
theorem dX11_shadesOf_81 : decode cX11_shadesOf 81 = .ok (.iload 4, 2) := by decide +kernel
theorem dX11_shadesOf_83 : decode cX11_shadesOf 83 = .ok (.ifCond .eq 17, 3) := by decide +kernel
theorem dX11_shadesOf_86 : decode cX11_shadesOf 86 = .ok (.aload_n 0, 1) := by decide +kernel
theorem dX11_shadesOf_87 : decode cX11_shadesOf 87 = .ok (.iload_n 3, 1) := by decide +kernel
theorem dX11_shadesOf_88 : decode cX11_shadesOf 88 = .ok (.invokevirtual 235, 3) := by decide +kernel
theorem dX11_shadesOf_91 : decode cX11_shadesOf 91 = .ok (.ifCond .eq 9, 3) := by decide +kernel
theorem dX11_shadesOf_94 : decode cX11_shadesOf 94 = .ok (.iconst 1, 1) := by decide +kernel
theorem dX11_shadesOf_95 : decode cX11_shadesOf 95 = .ok (.iload_n 2, 1) := by decide +kernel
theorem dX11_shadesOf_96 : decode cX11_shadesOf 96 = .ok (.ishl, 1) := by decide +kernel
theorem dX11_shadesOf_97 : decode cX11_shadesOf 97 = .ok (.goto 4, 3) := by decide +kernel
theorem dX11_shadesOf_100 : decode cX11_shadesOf 100 = .ok (.iconst 0, 1) := by decide +kernel
theorem dX11_shadesOf_101 : decode cX11_shadesOf 101 = .ok (.ior, 1) := by decide +kernel
theorem dX11_shadesOf_102 : decode cX11_shadesOf 102 = .ok (.iastore, 1) := by decide +kernel
theorem dX11_shadesOf_103 : decode cX11_shadesOf 103 = .ok (.aload_n 0, 1) := by decide +kernel
theorem dX11_shadesOf_104 : decode cX11_shadesOf 104 = .ok (.getfield 34, 3) := by decide +kernel
theorem dX11_shadesOf_107 : decode cX11_shadesOf 107 = .ok (.iload_n 3, 1) := by decide +kernel
theorem dX11_shadesOf_108 : decode cX11_shadesOf 108 = .ok (.dup2, 1) := by decide +kernel
theorem dX11_shadesOf_109 : decode cX11_shadesOf 109 = .ok (.iaload, 1) := by decide +kernel
theorem dX11_shadesOf_110 : decode cX11_shadesOf 110 = .ok (.iload 4, 2) := by decide +kernel
theorem dX11_shadesOf_112 : decode cX11_shadesOf 112 = .ok (.ifCond .eq 21, 3) := by decide +kernel
theorem dX11_shadesOf_115 : decode cX11_shadesOf 115 = .ok (.iload_n 2, 1) := by decide +kernel
theorem dX11_shadesOf_116 : decode cX11_shadesOf 116 = .ok (.iconst 1, 1) := by decide +kernel
theorem dX11_shadesOf_117 : decode cX11_shadesOf 117 = .ok (.if_icmp .ne 16, 3) := by decide +kernel
theorem dX11_shadesOf_120 : decode cX11_shadesOf 120 = .ok (.aload_n 0, 1) := by decide +kernel
theorem dX11_shadesOf_121 : decode cX11_shadesOf 121 = .ok (.iload_n 3, 1) := by decide +kernel
theorem dX11_shadesOf_122 : decode cX11_shadesOf 122 = .ok (.iload_n 1, 1) := by decide +kernel
theorem dX11_shadesOf_123 : decode cX11_shadesOf 123 = .ok (.invokevirtual 238, 3) := by decide +kernel
theorem dX11_shadesOf_126 : decode cX11_shadesOf 126 = .ok (.ifCond .eq 7, 3) := by decide +kernel
theorem dX11_shadesOf_129 : decode cX11_shadesOf 129 = .ok (.iconst 4, 1) := by decide +kernel
theorem dX11_shadesOf_130 : decode cX11_shadesOf 130 = .ok (.goto 4, 3) := by decide +kernel
theorem dX11_shadesOf_133 : decode cX11_shadesOf 133 = .ok (.iconst 0, 1) := by decide +kernel
theorem dX11_shadesOf_134 : decode cX11_shadesOf 134 = .ok (.ior, 1) := by decide +kernel
theorem dX11_shadesOf_135 : decode cX11_shadesOf 135 = .ok (.iastore, 1) := by decide +kernel
theorem dX11_shadesOf_136 : decode cX11_shadesOf 136 = .ok (.iinc 3 1, 3) := by decide +kernel
theorem dX11_shadesOf_139 : decode cX11_shadesOf 139 = .ok (.goto (-115), 3) := by decide +kernel
theorem dX11_shadesOf_142 : decode cX11_shadesOf 142 = .ok (.iinc 2 1, 3) := by decide +kernel
theorem dX11_shadesOf_145 : decode cX11_shadesOf 145 = .ok (.goto (-143), 3) := by decide +kernel
theorem dX11_shadesOf_148 : decode cX11_shadesOf 148 = .ok (.return_, 1) := by decide +kernel
set_option maxRecDepth 20000 in
theorem ggX11_deep_X11_isVariable : GoodIn wsX11_deep wsX11_isVariable := goodIn_r _ [7, 8, 9, 10, 6, 11] (by decide +kernel) (by decide +kernel)
set_option maxRecDepth 20000 in
theorem gX11_deep_X11_isVariable : GoodIn wsX11_deep (va_wsS RX11 187 yX11_isVariable wsX11_isVariable) := goodIn_app (goodIn_of _ (by decide +kernel)) ggX11_deep_X11_isVariable
set_option maxRecDepth 20000 in
theorem ggX11_deep_X11_in : GoodIn wsX11_deep wsX11_in := goodIn_r _ [11] (by decide +kernel) (by decide +kernel)
set_option maxRecDepth 20000 in
theorem gX11_deep_X11_in : GoodIn wsX11_deep (va_wsS RX11 60 yX11_in wsX11_in) := goodIn_app (goodIn_of _ (by decide +kernel)) ggX11_deep_X11_in
set_option maxRecDepth 20000 in
theorem ggX11_deep_X11_shadesOf : GoodIn wsX11_deep wsX11_shadesOf := goodIn_r _ [15, 3, 16, 17, 18, 6, 19, 20, 21, 22, 23, 24, 25, 26, 27, 28, 29, 30, 31, 32, 33, 34, 35, 36, 37, 38, 39, 40, 41, 42, 43, 44, 45, 46, 47, 48, 49, 50, 51, 52, 53, 54, 55, 56, 57, 58, 59, 60, 61, 62, 63, 64, 65, 66, 67, 68, 69, 70, 71, 72, 73, 74, 75, 76, 77, 78, 79, 80, 81, 82, 83, 84, 85, 86, 87, 88] (by decide +kernel) (by decide +kernel)
set_option maxRecDepth 20000 in
theorem gX11_deep_X11_shadesOf : GoodIn wsX11_deep (wsV RX11 241 RX11 yX11_shadesOf wsX11_shadesOf) := goodIn_app (goodIn_of _ (by decide +kernel)) ggX11_deep_X11_shadesOf
theorem dX11_deep_0 : decode cX11_deep 0 = .ok (.iload_n 1, 1) := by decide +kernel
theorem dX11_deep_1 : decode cX11_deep 1 = .ok (.invokestatic 187, 3) := by decide +kernel
theorem dX11_deep_4 : decode cX11_deep 4 = .ok (.ifCond .eq 15, 3) := by decide +kernel
theorem dX11_deep_7 : decode cX11_deep 7 = .ok (.iload_n 2, 1) := by decide +kernel
theorem dX11_deep_8 : decode cX11_deep 8 = .ok (.i2l, 1) := by decide +kernel
theorem dX11_deep_9 : decode cX11_deep 9 = .ok (.lconst 0, 1) := by decide +kernel
theorem dX11_deep_10 : decode cX11_deep 10 = .ok (.ldc2_w 99, 3) := by decide +kernel
theorem dX11_deep_13 : decode cX11_deep 13 = .ok (.invokestatic 60, 3) := by decide +kernel
theorem dX11_deep_16 : decode cX11_deep 16 = .ok (.ifCond .ne 6, 3) := by decide +kernel
theorem dX11_deep_19 : decode cX11_deep 19 = .ok (.ldc 107, 2) := by decide +kernel
theorem dX11_deep_21 : decode cX11_deep 21 = .ok (.ireturn, 1) := by decide +kernel
theorem dX11_deep_22 : decode cX11_deep 22 = .ok (.aload_n 0, 1) := by decide +kernel
theorem dX11_deep_23 : decode cX11_deep 23 = .ok (.iload_n 1, 1) := by decide +kernel
theorem dX11_deep_24 : decode cX11_deep 24 = .ok (.invokevirtual 241, 3) := by decide +kernel
theorem dX11_deep_27 : decode cX11_deep 27 = .ok (.iconst 0, 1) := by decide +kernel
theorem dX11_deep_28 : decode cX11_deep 28 = .ok (.istore_n 3, 1) := by decide +kernel
theorem dX11_deep_29 : decode cX11_deep 29 = .ok (.iconst 0, 1) := by decide +kernel
theorem dX11_deep_30 : decode cX11_deep 30 = .ok (.istore 4, 2) := by decide +kernel
theorem dX11_deep_32 : decode cX11_deep 32 = .ok (.iload 4, 2) := by decide +kernel
theorem dX11_deep_34 : decode cX11_deep 34 = .ok (.sipush 4096, 3) := by decide +kernel
theorem dX11_deep_37 : decode cX11_deep 37 = .ok (.if_icmp .ge 155, 3) := by decide +kernel
theorem dX11_deep_40 : decode cX11_deep 40 = .ok (.aload_n 0, 1) := by decide +kernel
theorem dX11_deep_41 : decode cX11_deep 41 = .ok (.getfield 34, 3) := by decide +kernel
theorem dX11_deep_44 : decode cX11_deep 44 = .ok (.iload 4, 2) := by decide +kernel
theorem dX11_deep_46 : decode cX11_deep 46 = .ok (.iaload, 1) := by decide +kernel
theorem dX11_deep_47 : decode cX11_deep 47 = .ok (.iconst 1, 1) := by decide +kernel
theorem dX11_deep_48 : decode cX11_deep 48 = .ok (.iand, 1) := by decide +kernel
theorem dX11_deep_49 : decode cX11_deep 49 = .ok (.iconst 1, 1) := by decide +kernel
theorem dX11_deep_50 : decode cX11_deep 50 = .ok (.if_icmp .ne 7, 3) := by decide +kernel
theorem dX11_deep_53 : decode cX11_deep 53 = .ok (.iconst 1, 1) := by decide +kernel
theorem dX11_deep_54 : decode cX11_deep 54 = .ok (.goto 4, 3) := by decide +kernel
theorem dX11_deep_57 : decode cX11_deep 57 = .ok (.iconst 0, 1) := by decide +kernel
theorem dX11_deep_58 : decode cX11_deep 58 = .ok (.istore 5, 2) := by decide +kernel
theorem dX11_deep_60 : decode cX11_deep 60 = .ok (.aload_n 0, 1) := by decide +kernel
theorem dX11_deep_61 : decode cX11_deep 61 = .ok (.getfield 34, 3) := by decide +kernel
theorem dX11_deep_64 : decode cX11_deep 64 = .ok (.iload 4, 2) := by decide +kernel
theorem dX11_deep_66 : decode cX11_deep 66 = .ok (.iaload, 1) := by decide +kernel
theorem dX11_deep_67 : decode cX11_deep 67 = .ok (.iconst 2, 1) := by decide +kernel
theorem dX11_deep_68 : decode cX11_deep 68 = .ok (.iand, 1) := by decide +kernel
theorem dX11_deep_69 : decode cX11_deep 69 = .ok (.iconst 2, 1) := by decide +kernel
theorem dX11_deep_70 : decode cX11_deep 70 = .ok (.if_icmp .ne 7, 3) := by decide +kernel
theorem dX11_deep_73 : decode cX11_deep 73 = .ok (.iconst 1, 1) := by decide +kernel
theorem dX11_deep_74 : decode cX11_deep 74 = .ok (.goto 4, 3) := by decide +kernel
theorem dX11_deep_77 : decode cX11_deep 77 = .ok (.iconst 0, 1) := by decide +kernel
theorem dX11_deep_78 : decode cX11_deep 78 = .ok (.istore 6, 2) := by decide +kernel
theorem dX11_deep_80 : decode cX11_deep 80 = .ok (.aload_n 0, 1) := by decide +kernel
theorem dX11_deep_81 : decode cX11_deep 81 = .ok (.getfield 34, 3) := by decide +kernel
theorem dX11_deep_84 : decode cX11_deep 84 = .ok (.iload 4, 2) := by decide +kernel
theorem dX11_deep_86 : decode cX11_deep 86 = .ok (.iaload, 1) := by decide +kernel
theorem dX11_deep_87 : decode cX11_deep 87 = .ok (.iconst 4, 1) := by decide +kernel
theorem dX11_deep_88 : decode cX11_deep 88 = .ok (.iand, 1) := by decide +kernel
theorem dX11_deep_89 : decode cX11_deep 89 = .ok (.iconst 4, 1) := by decide +kernel
theorem dX11_deep_90 : decode cX11_deep 90 = .ok (.if_icmp .ne 7, 3) := by decide +kernel
theorem dX11_deep_93 : decode cX11_deep 93 = .ok (.iconst 1, 1) := by decide +kernel
theorem dX11_deep_94 : decode cX11_deep 94 = .ok (.goto 4, 3) := by decide +kernel
theorem dX11_deep_97 : decode cX11_deep 97 = .ok (.iconst 0, 1) := by decide +kernel
theorem dX11_deep_98 : decode cX11_deep 98 = .ok (.istore 7, 2) := by decide +kernel
theorem dX11_deep_100 : decode cX11_deep 100 = .ok (.iload 5, 2) := by decide +kernel
theorem dX11_deep_102 : decode cX11_deep 102 = .ok (.ifCond .eq 12, 3) := by decide +kernel
theorem dX11_deep_105 : decode cX11_deep 105 = .ok (.iload 6, 2) := by decide +kernel
theorem dX11_deep_107 : decode cX11_deep 107 = .ok (.ifCond .ne 7, 3) := by decide +kernel
theorem dX11_deep_110 : decode cX11_deep 110 = .ok (.iconst 1, 1) := by decide +kernel
theorem dX11_deep_111 : decode cX11_deep 111 = .ok (.goto 4, 3) := by decide +kernel
theorem dX11_deep_114 : decode cX11_deep 114 = .ok (.iconst 0, 1) := by decide +kernel
theorem dX11_deep_115 : decode cX11_deep 115 = .ok (.istore 8, 2) := by decide +kernel
theorem dX11_deep_117 : decode cX11_deep 117 = .ok (.iload_n 3, 1) := by decide +kernel
theorem dX11_deep_118 : decode cX11_deep 118 = .ok (.iload_n 2, 1) := by decide +kernel
theorem dX11_deep_119 : decode cX11_deep 119 = .ok (.ifCond .ne 11, 3) := by decide +kernel
theorem dX11_deep_122 : decode cX11_deep 122 = .ok (.iload 5, 2) := by decide +kernel
theorem dX11_deep_124 : decode cX11_deep 124 = .ok (.ifCond .eq 59, 3) := by decide +kernel
theorem dX11_deep_127 : decode cX11_deep 127 = .ok (.goto 52, 3) := by decide +kernel
theorem dX11_deep_130 : decode cX11_deep 130 = .ok (.iload_n 2, 1) := by decide +kernel
theorem dX11_deep_131 : decode cX11_deep 131 = .ok (.iconst 1, 1) := by decide +kernel
theorem dX11_deep_132 : decode cX11_deep 132 = .ok (.if_icmp .ne 11, 3) := by decide +kernel
theorem dX11_deep_135 : decode cX11_deep 135 = .ok (.iload 6, 2) := by decide +kernel
theorem dX11_deep_137 : decode cX11_deep 137 = .ok (.ifCond .eq 46, 3) := by decide +kernel
theorem dX11_deep_140 : decode cX11_deep 140 = .ok (.goto 39, 3) := by decide +kernel
theorem dX11_deep_143 : decode cX11_deep 143 = .ok (.iload_n 2, 1) := by decide +kernel
theorem dX11_deep_144 : decode cX11_deep 144 = .ok (.iconst 2, 1) := by decide +kernel
theorem dX11_deep_145 : decode cX11_deep 145 = .ok (.if_icmp .ne 11, 3) := by decide +kernel
theorem dX11_deep_148 : decode cX11_deep 148 = .ok (.iload 7, 2) := by decide +kernel
theorem dX11_deep_150 : decode cX11_deep 150 = .ok (.ifCond .eq 33, 3) := by decide +kernel
theorem dX11_deep_153 : decode cX11_deep 153 = .ok (.goto 26, 3) := by decide +kernel
theorem dX11_deep_156 : decode cX11_deep 156 = .ok (.iload_n 2, 1) := by decide +kernel
theorem dX11_deep_157 : decode cX11_deep 157 = .ok (.iconst 3, 1) := by decide +kernel
theorem dX11_deep_158 : decode cX11_deep 158 = .ok (.if_icmp .ne 11, 3) := by decide +kernel
theorem dX11_deep_161 : decode cX11_deep 161 = .ok (.iload 8, 2) := by decide +kernel
theorem dX11_deep_163 : decode cX11_deep 163 = .ok (.ifCond .eq 20, 3) := by decide +kernel
theorem dX11_deep_166 : decode cX11_deep 166 = .ok (.goto 13, 3) := by decide +kernel
theorem dX11_deep_169 : decode cX11_deep 169 = .ok (.iload 8, 2) := by decide +kernel
theorem dX11_deep_171 : decode cX11_deep 171 = .ok (.ifCond .eq 12, 3) := by decide +kernel
theorem dX11_deep_174 : decode cX11_deep 174 = .ok (.iload 7, 2) := by decide +kernel
theorem dX11_deep_176 : decode cX11_deep 176 = .ok (.ifCond .eq 7, 3) := by decide +kernel
theorem dX11_deep_179 : decode cX11_deep 179 = .ok (.iconst 1, 1) := by decide +kernel
theorem dX11_deep_180 : decode cX11_deep 180 = .ok (.goto 4, 3) := by decide +kernel
theorem dX11_deep_183 : decode cX11_deep 183 = .ok (.iconst 0, 1) := by decide +kernel
theorem dX11_deep_184 : decode cX11_deep 184 = .ok (.iadd, 1) := by decide +kernel
theorem dX11_deep_185 : decode cX11_deep 185 = .ok (.istore_n 3, 1) := by decide +kernel
theorem dX11_deep_186 : decode cX11_deep 186 = .ok (.iinc 4 1, 3) := by decide +kernel
theorem dX11_deep_189 : decode cX11_deep 189 = .ok (.goto (-157), 3) := by decide +kernel
theorem dX11_deep_192 : decode cX11_deep 192 = .ok (.iload_n 3, 1) := by decide +kernel
theorem dX11_deep_193 : decode cX11_deep 193 = .ok (.ireturn, 1) := by decide +kernel
set_option maxRecDepth 20000 in
theorem ggX11_spare_X11_in : GoodIn wsX11_spare wsX11_in := goodIn_r _ [7] (by decide +kernel) (by decide +kernel)
set_option maxRecDepth 20000 in
theorem gX11_spare_X11_in : GoodIn wsX11_spare (va_wsS RX11 60 yX11_in wsX11_in) := goodIn_app (goodIn_of _ (by decide +kernel)) ggX11_spare_X11_in
set_option maxRecDepth 20000 in
theorem ggX11_spare_X11_lays : GoodIn wsX11_spare wsX11_lays := goodIn_r _ [11, 12, 13, 14, 15, 16, 17, 6, 18, 3, 19, 20, 21, 22, 23, 24, 25, 26, 27, 28, 29, 30, 31, 32, 41, 42, 43, 44, 45, 46, 47, 48, 49, 50, 51, 52, 53, 54, 55, 56, 57, 58, 59, 60, 61, 62, 63] (by decide +kernel) (by decide +kernel)
set_option maxRecDepth 20000 in
theorem gX11_spare_X11_lays : GoodIn wsX11_spare (wsV RX11 88 RX11 yX11_lays wsX11_lays) := goodIn_app (goodIn_of _ (by decide +kernel)) ggX11_spare_X11_lays
set_option maxRecDepth 20000 in
theorem ggX11_spare_X11_all : GoodIn wsX11_spare wsX11_all := goodIn_r _ [36, 3, 41, 42, 43, 44, 45, 46, 47, 48, 49, 50, 51, 52, 53, 54, 55, 56, 57, 58, 59, 60, 61, 62, 63] (by decide +kernel) (by decide +kernel)
set_option maxRecDepth 20000 in
theorem gX11_spare_X11_all : GoodIn wsX11_spare (wsV RX11 91 RX11 yX11_all wsX11_all) := goodIn_app (goodIn_of _ (by decide +kernel)) ggX11_spare_X11_all
set_option maxRecDepth 20000 in
theorem ggX11_spare_X11_pointsBy : GoodIn wsX11_spare wsX11_pointsBy := goodIn_r _ [40, 12, 14, 41, 42, 43, 44, 45, 46, 47, 48, 49, 50, 51, 52, 53, 54, 55, 56, 57, 58, 59, 60, 61, 62, 63] (by decide +kernel) (by decide +kernel)
set_option maxRecDepth 20000 in
theorem gX11_spare_X11_pointsBy : GoodIn wsX11_spare (wsV RX11 95 RX11 yX11_pointsBy wsX11_pointsBy) := goodIn_app (goodIn_of _ (by decide +kernel)) ggX11_spare_X11_pointsBy
theorem dX11_spare_0 : decode cX11_spare 0 = .ok (.iload_n 1, 1) := by decide +kernel
theorem dX11_spare_1 : decode cX11_spare 1 = .ok (.i2l, 1) := by decide +kernel
theorem dX11_spare_2 : decode cX11_spare 2 = .ok (.lconst 0, 1) := by decide +kernel
theorem dX11_spare_3 : decode cX11_spare 3 = .ok (.lconst 1, 1) := by decide +kernel
theorem dX11_spare_4 : decode cX11_spare 4 = .ok (.invokestatic 60, 3) := by decide +kernel
theorem dX11_spare_7 : decode cX11_spare 7 = .ok (.ifCond .ne 6, 3) := by decide +kernel
theorem dX11_spare_10 : decode cX11_spare 10 = .ok (.ldc 107, 2) := by decide +kernel
theorem dX11_spare_12 : decode cX11_spare 12 = .ok (.ireturn, 1) := by decide +kernel
theorem dX11_spare_13 : decode cX11_spare 13 = .ok (.aload_n 0, 1) := by decide +kernel
theorem dX11_spare_14 : decode cX11_spare 14 = .ok (.invokevirtual 88, 3) := by decide +kernel
theorem dX11_spare_17 : decode cX11_spare 17 = .ok (.ldc 98, 2) := by decide +kernel
theorem dX11_spare_19 : decode cX11_spare 19 = .ok (.istore_n 2, 1) := by decide +kernel
theorem dX11_spare_20 : decode cX11_spare 20 = .ok (.iconst (-1), 1) := by decide +kernel
theorem dX11_spare_21 : decode cX11_spare 21 = .ok (.istore_n 3, 1) := by decide +kernel
theorem dX11_spare_22 : decode cX11_spare 22 = .ok (.iconst 0, 1) := by decide +kernel
theorem dX11_spare_23 : decode cX11_spare 23 = .ok (.istore 4, 2) := by decide +kernel
theorem dX11_spare_25 : decode cX11_spare 25 = .ok (.iload 4, 2) := by decide +kernel
theorem dX11_spare_27 : decode cX11_spare 27 = .ok (.aload_n 0, 1) := by decide +kernel
theorem dX11_spare_28 : decode cX11_spare 28 = .ok (.getfield 7, 3) := by decide +kernel
theorem dX11_spare_31 : decode cX11_spare 31 = .ok (.iconst 0, 1) := by decide +kernel
theorem dX11_spare_32 : decode cX11_spare 32 = .ok (.iaload, 1) := by decide +kernel
theorem dX11_spare_33 : decode cX11_spare 33 = .ok (.if_icmp .ge 52, 3) := by decide +kernel
theorem dX11_spare_36 : decode cX11_spare 36 = .ok (.aload_n 0, 1) := by decide +kernel
theorem dX11_spare_37 : decode cX11_spare 37 = .ok (.aload_n 0, 1) := by decide +kernel
theorem dX11_spare_38 : decode cX11_spare 38 = .ok (.invokevirtual 91, 3) := by decide +kernel
theorem dX11_spare_41 : decode cX11_spare 41 = .ok (.iconst 1, 1) := by decide +kernel
theorem dX11_spare_42 : decode cX11_spare 42 = .ok (.iload 4, 2) := by decide +kernel
theorem dX11_spare_44 : decode cX11_spare 44 = .ok (.ishl, 1) := by decide +kernel
theorem dX11_spare_45 : decode cX11_spare 45 = .ok (.iconst (-1), 1) := by decide +kernel
theorem dX11_spare_46 : decode cX11_spare 46 = .ok (.ixor, 1) := by decide +kernel
theorem dX11_spare_47 : decode cX11_spare 47 = .ok (.iand, 1) := by decide +kernel
theorem dX11_spare_48 : decode cX11_spare 48 = .ok (.invokevirtual 95, 3) := by decide +kernel
theorem dX11_spare_51 : decode cX11_spare 51 = .ok (.istore 5, 2) := by decide +kernel
theorem dX11_spare_53 : decode cX11_spare 53 = .ok (.iload 5, 2) := by decide +kernel
theorem dX11_spare_55 : decode cX11_spare 55 = .ok (.iload_n 3, 1) := by decide +kernel
theorem dX11_spare_56 : decode cX11_spare 56 = .ok (.if_icmp .le 8, 3) := by decide +kernel
theorem dX11_spare_59 : decode cX11_spare 59 = .ok (.iload 4, 2) := by decide +kernel
theorem dX11_spare_61 : decode cX11_spare 61 = .ok (.goto 4, 3) := by decide +kernel
theorem dX11_spare_64 : decode cX11_spare 64 = .ok (.iload_n 2, 1) := by decide +kernel
theorem dX11_spare_65 : decode cX11_spare 65 = .ok (.istore_n 2, 1) := by decide +kernel
theorem dX11_spare_66 : decode cX11_spare 66 = .ok (.iload 5, 2) := by decide +kernel
theorem dX11_spare_68 : decode cX11_spare 68 = .ok (.iload_n 3, 1) := by decide +kernel
theorem dX11_spare_69 : decode cX11_spare 69 = .ok (.if_icmp .le 8, 3) := by decide +kernel
theorem dX11_spare_72 : decode cX11_spare 72 = .ok (.iload 5, 2) := by decide +kernel
theorem dX11_spare_74 : decode cX11_spare 74 = .ok (.goto 4, 3) := by decide +kernel
theorem dX11_spare_77 : decode cX11_spare 77 = .ok (.iload_n 3, 1) := by decide +kernel
theorem dX11_spare_78 : decode cX11_spare 78 = .ok (.istore_n 3, 1) := by decide +kernel
theorem dX11_spare_79 : decode cX11_spare 79 = .ok (.iinc 4 1, 3) := by decide +kernel
theorem dX11_spare_82 : decode cX11_spare 82 = .ok (.goto (-57), 3) := by decide +kernel
theorem dX11_spare_85 : decode cX11_spare 85 = .ok (.iload_n 1, 1) := by decide +kernel
theorem dX11_spare_86 : decode cX11_spare 86 = .ok (.ifCond .eq 9, 3) := by decide +kernel
theorem dX11_spare_89 : decode cX11_spare 89 = .ok (.iload_n 2, 1) := by decide +kernel
theorem dX11_spare_90 : decode cX11_spare 90 = .ok (.ldc 98, 2) := by decide +kernel
theorem dX11_spare_92 : decode cX11_spare 92 = .ok (.if_icmp .ne 7, 3) := by decide +kernel
theorem dX11_spare_95 : decode cX11_spare 95 = .ok (.iload_n 2, 1) := by decide +kernel
theorem dX11_spare_96 : decode cX11_spare 96 = .ok (.goto 4, 3) := by decide +kernel
theorem dX11_spare_99 : decode cX11_spare 99 = .ok (.iload_n 3, 1) := by decide +kernel
theorem dX11_spare_100 : decode cX11_spare 100 = .ok (.ireturn, 1) := by decide +kernel
set_option maxRecDepth 20000 in
theorem ggX11_stretch_X11_isOne : GoodIn wsX11_stretch wsX11_isOne := goodIn_r _ [11, 2, 12, 13, 10, 14, 41, 42, 43, 44, 45, 46, 47, 48, 49, 50, 51, 52, 53, 54, 55, 56, 57, 58, 59, 60, 61, 62, 63] (by decide +kernel) (by decide +kernel)
set_option maxRecDepth 20000 in
theorem gX11_stretch_X11_isOne : GoodIn wsX11_stretch (wsV RX11 112 RX11 yX11_isOne wsX11_isOne) := goodIn_app (goodIn_of _ (by decide +kernel)) ggX11_stretch_X11_isOne
set_option maxRecDepth 20000 in
theorem ggX11_stretch_X11_lays : GoodIn wsX11_stretch wsX11_lays := goodIn_r _ [18, 3, 5, 4, 19, 20, 21, 10, 22, 2, 23, 24, 25, 26, 27, 28, 29, 30, 31, 32, 33, 34, 35, 36, 41, 42, 43, 44, 45, 46, 47, 48, 49, 50, 51, 52, 53, 54, 55, 56, 57, 58, 59, 60, 61, 62, 63] (by decide +kernel) (by decide +kernel)
set_option maxRecDepth 20000 in
theorem gX11_stretch_X11_lays : GoodIn wsX11_stretch (wsV RX11 88 RX11 yX11_lays wsX11_lays) := goodIn_app (goodIn_of _ (by decide +kernel)) ggX11_stretch_X11_lays
set_option maxRecDepth 20000 in
theorem ggX11_stretch_X11_all : GoodIn wsX11_stretch wsX11_all := goodIn_r _ [40, 2, 41, 42, 43, 44, 45, 46, 47, 48, 49, 50, 51, 52, 53, 54, 55, 56, 57, 58, 59, 60, 61, 62, 63] (by decide +kernel) (by decide +kernel)
set_option maxRecDepth 20000 in
theorem gX11_stretch_X11_all : GoodIn wsX11_stretch (wsV RX11 91 RX11 yX11_all wsX11_all) := goodIn_app (goodIn_of _ (by decide +kernel)) ggX11_stretch_X11_all
set_option maxRecDepth 20000 in
theorem ggX11_stretch_X11_sumOf : GoodIn wsX11_stretch wsX11_sumOf := goodIn_r _ [33, 2, 23, 24, 10, 25, 41, 42, 43, 44, 45, 46, 47, 48, 49, 50, 51, 52, 53, 54, 55, 56, 57, 58, 59, 60, 61, 62, 63] (by decide +kernel) (by decide +kernel)
set_option maxRecDepth 20000 in
theorem gX11_stretch_X11_sumOf : GoodIn wsX11_stretch (wsV RX11 70 RX11 yX11_sumOf wsX11_sumOf) := goodIn_app (goodIn_of _ (by decide +kernel)) ggX11_stretch_X11_sumOf
set_option maxRecDepth 20000 in
theorem ggX11_stretch_X11_holdsBy : GoodIn wsX11_stretch wsX11_holdsBy := goodIn_r _ [36] (by decide +kernel) (by decide +kernel)
set_option maxRecDepth 20000 in
theorem gX11_stretch_X11_holdsBy : GoodIn wsX11_stretch (va_wsS RX11 73 yX11_holdsBy wsX11_holdsBy) := goodIn_app (goodIn_of _ (by decide +kernel)) ggX11_stretch_X11_holdsBy
theorem dX11_stretch_0 : decode cX11_stretch 0 = .ok (.aload_n 0, 1) := by decide +kernel
theorem dX11_stretch_1 : decode cX11_stretch 1 = .ok (.iload_n 1, 1) := by decide +kernel
theorem dX11_stretch_2 : decode cX11_stretch 2 = .ok (.invokevirtual 112, 3) := by decide +kernel
theorem dX11_stretch_5 : decode cX11_stretch 5 = .ok (.ifCond .ne 6, 3) := by decide +kernel
theorem dX11_stretch_8 : decode cX11_stretch 8 = .ok (.ldc 107, 2) := by decide +kernel
theorem dX11_stretch_10 : decode cX11_stretch 10 = .ok (.ireturn, 1) := by decide +kernel
theorem dX11_stretch_11 : decode cX11_stretch 11 = .ok (.aload_n 0, 1) := by decide +kernel
theorem dX11_stretch_12 : decode cX11_stretch 12 = .ok (.invokevirtual 88, 3) := by decide +kernel
theorem dX11_stretch_15 : decode cX11_stretch 15 = .ok (.aload_n 0, 1) := by decide +kernel
theorem dX11_stretch_16 : decode cX11_stretch 16 = .ok (.invokevirtual 91, 3) := by decide +kernel
theorem dX11_stretch_19 : decode cX11_stretch 19 = .ok (.iconst 1, 1) := by decide +kernel
theorem dX11_stretch_20 : decode cX11_stretch 20 = .ok (.iload_n 1, 1) := by decide +kernel
theorem dX11_stretch_21 : decode cX11_stretch 21 = .ok (.ishl, 1) := by decide +kernel
theorem dX11_stretch_22 : decode cX11_stretch 22 = .ok (.iconst (-1), 1) := by decide +kernel
theorem dX11_stretch_23 : decode cX11_stretch 23 = .ok (.ixor, 1) := by decide +kernel
theorem dX11_stretch_24 : decode cX11_stretch 24 = .ok (.iand, 1) := by decide +kernel
theorem dX11_stretch_25 : decode cX11_stretch 25 = .ok (.istore_n 2, 1) := by decide +kernel
theorem dX11_stretch_26 : decode cX11_stretch 26 = .ok (.aload_n 0, 1) := by decide +kernel
theorem dX11_stretch_27 : decode cX11_stretch 27 = .ok (.getfield 7, 3) := by decide +kernel
theorem dX11_stretch_30 : decode cX11_stretch 30 = .ok (.iconst 3, 1) := by decide +kernel
theorem dX11_stretch_31 : decode cX11_stretch 31 = .ok (.bipush 6, 2) := by decide +kernel
theorem dX11_stretch_33 : decode cX11_stretch 33 = .ok (.iload_n 1, 1) := by decide +kernel
theorem dX11_stretch_34 : decode cX11_stretch 34 = .ok (.imul, 1) := by decide +kernel
theorem dX11_stretch_35 : decode cX11_stretch 35 = .ok (.iadd, 1) := by decide +kernel
theorem dX11_stretch_36 : decode cX11_stretch 36 = .ok (.iconst 5, 1) := by decide +kernel
theorem dX11_stretch_37 : decode cX11_stretch 37 = .ok (.iadd, 1) := by decide +kernel
theorem dX11_stretch_38 : decode cX11_stretch 38 = .ok (.iaload, 1) := by decide +kernel
theorem dX11_stretch_39 : decode cX11_stretch 39 = .ok (.istore_n 3, 1) := by decide +kernel
theorem dX11_stretch_40 : decode cX11_stretch 40 = .ok (.bipush 100, 2) := by decide +kernel
theorem dX11_stretch_42 : decode cX11_stretch 42 = .ok (.istore 4, 2) := by decide +kernel
theorem dX11_stretch_44 : decode cX11_stretch 44 = .ok (.iconst 0, 1) := by decide +kernel
theorem dX11_stretch_45 : decode cX11_stretch 45 = .ok (.istore 5, 2) := by decide +kernel
theorem dX11_stretch_47 : decode cX11_stretch 47 = .ok (.iconst 0, 1) := by decide +kernel
theorem dX11_stretch_48 : decode cX11_stretch 48 = .ok (.istore 6, 2) := by decide +kernel
theorem dX11_stretch_50 : decode cX11_stretch 50 = .ok (.iload 6, 2) := by decide +kernel
theorem dX11_stretch_52 : decode cX11_stretch 52 = .ok (.aload_n 0, 1) := by decide +kernel
theorem dX11_stretch_53 : decode cX11_stretch 53 = .ok (.getfield 77, 3) := by decide +kernel
theorem dX11_stretch_56 : decode cX11_stretch 56 = .ok (.if_icmp .ge 128, 3) := by decide +kernel
theorem dX11_stretch_59 : decode cX11_stretch 59 = .ok (.aload_n 0, 1) := by decide +kernel
theorem dX11_stretch_60 : decode cX11_stretch 60 = .ok (.getfield 16, 3) := by decide +kernel
theorem dX11_stretch_63 : decode cX11_stretch 63 = .ok (.iload 6, 2) := by decide +kernel
theorem dX11_stretch_65 : decode cX11_stretch 65 = .ok (.iaload, 1) := by decide +kernel
theorem dX11_stretch_66 : decode cX11_stretch 66 = .ok (.iload_n 2, 1) := by decide +kernel
theorem dX11_stretch_67 : decode cX11_stretch 67 = .ok (.iand, 1) := by decide +kernel
theorem dX11_stretch_68 : decode cX11_stretch 68 = .ok (.iload_n 2, 1) := by decide +kernel
theorem dX11_stretch_69 : decode cX11_stretch 69 = .ok (.if_icmp .ne 109, 3) := by decide +kernel
theorem dX11_stretch_72 : decode cX11_stretch 72 = .ok (.aload_n 0, 1) := by decide +kernel
theorem dX11_stretch_73 : decode cX11_stretch 73 = .ok (.iload_n 1, 1) := by decide +kernel
theorem dX11_stretch_74 : decode cX11_stretch 74 = .ok (.aload_n 0, 1) := by decide +kernel
theorem dX11_stretch_75 : decode cX11_stretch 75 = .ok (.getfield 13, 3) := by decide +kernel
theorem dX11_stretch_78 : decode cX11_stretch 78 = .ok (.iload 6, 2) := by decide +kernel
theorem dX11_stretch_80 : decode cX11_stretch 80 = .ok (.iaload, 1) := by decide +kernel
theorem dX11_stretch_81 : decode cX11_stretch 81 = .ok (.invokevirtual 70, 3) := by decide +kernel
theorem dX11_stretch_84 : decode cX11_stretch 84 = .ok (.istore 7, 2) := by decide +kernel
theorem dX11_stretch_86 : decode cX11_stretch 86 = .ok (.iconst 0, 1) := by decide +kernel
theorem dX11_stretch_87 : decode cX11_stretch 87 = .ok (.istore 8, 2) := by decide +kernel
theorem dX11_stretch_89 : decode cX11_stretch 89 = .ok (.iload 8, 2) := by decide +kernel
theorem dX11_stretch_91 : decode cX11_stretch 91 = .ok (.iload 4, 2) := by decide +kernel
theorem dX11_stretch_93 : decode cX11_stretch 93 = .ok (.if_icmp .gt 85, 3) := by decide +kernel
theorem dX11_stretch_96 : decode cX11_stretch 96 = .ok (.iload 8, 2) := by decide +kernel
theorem dX11_stretch_98 : decode cX11_stretch 98 = .ok (.bipush 100, 2) := by decide +kernel
theorem dX11_stretch_100 : decode cX11_stretch 100 = .ok (.if_icmp .ge 78, 3) := by decide +kernel
theorem dX11_stretch_103 : decode cX11_stretch 103 = .ok (.iload_n 3, 1) := by decide +kernel
theorem dX11_stretch_104 : decode cX11_stretch 104 = .ok (.iload 7, 2) := by decide +kernel
theorem dX11_stretch_106 : decode cX11_stretch 106 = .ok (.iload 8, 2) := by decide +kernel
theorem dX11_stretch_108 : decode cX11_stretch 108 = .ok (.iadd, 1) := by decide +kernel
theorem dX11_stretch_109 : decode cX11_stretch 109 = .ok (.invokestatic 73, 3) := by decide +kernel
theorem dX11_stretch_112 : decode cX11_stretch 112 = .ok (.istore 9, 2) := by decide +kernel
theorem dX11_stretch_114 : decode cX11_stretch 114 = .ok (.iload 9, 2) := by decide +kernel
theorem dX11_stretch_116 : decode cX11_stretch 116 = .ok (.ifCond .ne 15, 3) := by decide +kernel
theorem dX11_stretch_119 : decode cX11_stretch 119 = .ok (.iload_n 3, 1) := by decide +kernel
theorem dX11_stretch_120 : decode cX11_stretch 120 = .ok (.iload 7, 2) := by decide +kernel
theorem dX11_stretch_122 : decode cX11_stretch 122 = .ok (.iload 8, 2) := by decide +kernel
theorem dX11_stretch_124 : decode cX11_stretch 124 = .ok (.isub, 1) := by decide +kernel
theorem dX11_stretch_125 : decode cX11_stretch 125 = .ok (.invokestatic 73, 3) := by decide +kernel
theorem dX11_stretch_128 : decode cX11_stretch 128 = .ok (.ifCond .eq 44, 3) := by decide +kernel
theorem dX11_stretch_131 : decode cX11_stretch 131 = .ok (.iload 8, 2) := by decide +kernel
theorem dX11_stretch_133 : decode cX11_stretch 133 = .ok (.iload 4, 2) := by decide +kernel
theorem dX11_stretch_135 : decode cX11_stretch 135 = .ok (.if_icmp .ge 16, 3) := by decide +kernel
theorem dX11_stretch_138 : decode cX11_stretch 138 = .ok (.iload 9, 2) := by decide +kernel
theorem dX11_stretch_140 : decode cX11_stretch 140 = .ok (.ifCond .ne 7, 3) := by decide +kernel
theorem dX11_stretch_143 : decode cX11_stretch 143 = .ok (.iconst 1, 1) := by decide +kernel
theorem dX11_stretch_144 : decode cX11_stretch 144 = .ok (.goto 22, 3) := by decide +kernel
theorem dX11_stretch_147 : decode cX11_stretch 147 = .ok (.iconst 0, 1) := by decide +kernel
theorem dX11_stretch_148 : decode cX11_stretch 148 = .ok (.goto 18, 3) := by decide +kernel
theorem dX11_stretch_151 : decode cX11_stretch 151 = .ok (.iload 5, 2) := by decide +kernel
theorem dX11_stretch_153 : decode cX11_stretch 153 = .ok (.ifCond .eq 12, 3) := by decide +kernel
theorem dX11_stretch_156 : decode cX11_stretch 156 = .ok (.iload 9, 2) := by decide +kernel
theorem dX11_stretch_158 : decode cX11_stretch 158 = .ok (.ifCond .ne 7, 3) := by decide +kernel
theorem dX11_stretch_161 : decode cX11_stretch 161 = .ok (.iconst 1, 1) := by decide +kernel
theorem dX11_stretch_162 : decode cX11_stretch 162 = .ok (.goto 4, 3) := by decide +kernel
theorem dX11_stretch_165 : decode cX11_stretch 165 = .ok (.iconst 0, 1) := by decide +kernel
theorem dX11_stretch_166 : decode cX11_stretch 166 = .ok (.istore 5, 2) := by decide +kernel
theorem dX11_stretch_168 : decode cX11_stretch 168 = .ok (.iload 8, 2) := by decide +kernel
theorem dX11_stretch_170 : decode cX11_stretch 170 = .ok (.istore 4, 2) := by decide +kernel
theorem dX11_stretch_172 : decode cX11_stretch 172 = .ok (.iinc 8 1, 3) := by decide +kernel
theorem dX11_stretch_175 : decode cX11_stretch 175 = .ok (.goto (-86), 3) := by decide +kernel
theorem dX11_stretch_178 : decode cX11_stretch 178 = .ok (.iinc 6 1, 3) := by decide +kernel
theorem dX11_stretch_181 : decode cX11_stretch 181 = .ok (.goto (-131), 3) := by decide +kernel
theorem dX11_stretch_184 : decode cX11_stretch 184 = .ok (.iload 4, 2) := by decide +kernel
theorem dX11_stretch_186 : decode cX11_stretch 186 = .ok (.bipush 100, 2) := by decide +kernel
theorem dX11_stretch_188 : decode cX11_stretch 188 = .ok (.if_icmp .ne 8, 3) := by decide +kernel
theorem dX11_stretch_191 : decode cX11_stretch 191 = .ok (.ldc 98, 2) := by decide +kernel
theorem dX11_stretch_193 : decode cX11_stretch 193 = .ok (.goto 16, 3) := by decide +kernel
theorem dX11_stretch_196 : decode cX11_stretch 196 = .ok (.iload 5, 2) := by decide +kernel
theorem dX11_stretch_198 : decode cX11_stretch 198 = .ok (.ifCond .eq 9, 3) := by decide +kernel
theorem dX11_stretch_201 : decode cX11_stretch 201 = .ok (.iload 4, 2) := by decide +kernel
theorem dX11_stretch_203 : decode cX11_stretch 203 = .ok (.ineg, 1) := by decide +kernel
theorem dX11_stretch_204 : decode cX11_stretch 204 = .ok (.goto 5, 3) := by decide +kernel
theorem dX11_stretch_207 : decode cX11_stretch 207 = .ok (.iload 4, 2) := by decide +kernel
theorem dX11_stretch_209 : decode cX11_stretch 209 = .ok (.ireturn, 1) := by decide +kernel
set_option maxRecDepth 20000 in
theorem ggX11_core_X11_lays : GoodIn wsX11_core wsX11_lays := goodIn_r _ [6, 7, 8, 9, 10, 11, 12, 5, 13, 14, 15, 16, 17, 18, 19, 20, 21, 22, 23, 24, 25, 26, 27, 28, 40, 41, 42, 43, 44, 45, 46, 47, 48, 49, 50, 51, 52, 53, 54, 55, 56, 57, 58, 59, 60, 61, 62] (by decide +kernel) (by decide +kernel)
set_option maxRecDepth 20000 in
theorem gX11_core_X11_lays : GoodIn wsX11_core (wsV RX11 88 RX11 yX11_lays wsX11_lays) := goodIn_app (goodIn_of _ (by decide +kernel)) ggX11_core_X11_lays
set_option maxRecDepth 20000 in
theorem ggX11_core_X11_all : GoodIn wsX11_core wsX11_all := goodIn_r _ [32, 14, 40, 41, 42, 43, 44, 45, 46, 47, 48, 49, 50, 51, 52, 53, 54, 55, 56, 57, 58, 59, 60, 61, 62] (by decide +kernel) (by decide +kernel)
set_option maxRecDepth 20000 in
theorem gX11_core_X11_all : GoodIn wsX11_core (wsV RX11 91 RX11 yX11_all wsX11_all) := goodIn_app (goodIn_of _ (by decide +kernel)) ggX11_core_X11_all
set_option maxRecDepth 20000 in
theorem ggX11_core_X11_pointsBy : GoodIn wsX11_core wsX11_pointsBy := goodIn_r _ [36, 7, 9, 40, 41, 42, 43, 44, 45, 46, 47, 48, 49, 50, 51, 52, 53, 54, 55, 56, 57, 58, 59, 60, 61, 62] (by decide +kernel) (by decide +kernel)
set_option maxRecDepth 20000 in
theorem gX11_core_X11_pointsBy : GoodIn wsX11_core (wsV RX11 95 RX11 yX11_pointsBy wsX11_pointsBy) := goodIn_app (goodIn_of _ (by decide +kernel)) ggX11_core_X11_pointsBy
set_option maxRecDepth 20000 in
theorem ggX11_core_X11_bits : GoodIn wsX11_core wsX11_bits := goodIn_r _ [39] (by decide +kernel) (by decide +kernel)
set_option maxRecDepth 20000 in
theorem gX11_core_X11_bits : GoodIn wsX11_core (va_wsS RX11 198 yX11_bits wsX11_bits) := goodIn_app (goodIn_of _ (by decide +kernel)) ggX11_core_X11_bits
theorem dX11_core_0 : decode cX11_core 0 = .ok (.aload_n 0, 1) := by decide +kernel
theorem dX11_core_1 : decode cX11_core 1 = .ok (.invokevirtual 88, 3) := by decide +kernel
theorem dX11_core_4 : decode cX11_core 4 = .ok (.aload_n 0, 1) := by decide +kernel
theorem dX11_core_5 : decode cX11_core 5 = .ok (.aload_n 0, 1) := by decide +kernel
theorem dX11_core_6 : decode cX11_core 6 = .ok (.invokevirtual 91, 3) := by decide +kernel
theorem dX11_core_9 : decode cX11_core 9 = .ok (.invokevirtual 95, 3) := by decide +kernel
theorem dX11_core_12 : decode cX11_core 12 = .ok (.ifCond .le 6, 3) := by decide +kernel
theorem dX11_core_15 : decode cX11_core 15 = .ok (.ldc 98, 2) := by decide +kernel
theorem dX11_core_17 : decode cX11_core 17 = .ok (.ireturn, 1) := by decide +kernel
theorem dX11_core_18 : decode cX11_core 18 = .ok (.aload_n 0, 1) := by decide +kernel
theorem dX11_core_19 : decode cX11_core 19 = .ok (.invokevirtual 91, 3) := by decide +kernel
theorem dX11_core_22 : decode cX11_core 22 = .ok (.istore_n 1, 1) := by decide +kernel
theorem dX11_core_23 : decode cX11_core 23 = .ok (.aload_n 0, 1) := by decide +kernel
theorem dX11_core_24 : decode cX11_core 24 = .ok (.invokevirtual 91, 3) := by decide +kernel
theorem dX11_core_27 : decode cX11_core 27 = .ok (.istore_n 2, 1) := by decide +kernel
theorem dX11_core_28 : decode cX11_core 28 = .ok (.iload_n 2, 1) := by decide +kernel
theorem dX11_core_29 : decode cX11_core 29 = .ok (.ifCond .lt 44, 3) := by decide +kernel
theorem dX11_core_32 : decode cX11_core 32 = .ok (.iload_n 2, 1) := by decide +kernel
theorem dX11_core_33 : decode cX11_core 33 = .ok (.invokestatic 198, 3) := by decide +kernel
theorem dX11_core_36 : decode cX11_core 36 = .ok (.iload_n 1, 1) := by decide +kernel
theorem dX11_core_37 : decode cX11_core 37 = .ok (.invokestatic 198, 3) := by decide +kernel
theorem dX11_core_40 : decode cX11_core 40 = .ok (.if_icmp .gt 7, 3) := by decide +kernel
theorem dX11_core_43 : decode cX11_core 43 = .ok (.iconst 1, 1) := by decide +kernel
theorem dX11_core_44 : decode cX11_core 44 = .ok (.goto 4, 3) := by decide +kernel
theorem dX11_core_47 : decode cX11_core 47 = .ok (.iconst 0, 1) := by decide +kernel
theorem dX11_core_48 : decode cX11_core 48 = .ok (.istore_n 3, 1) := by decide +kernel
theorem dX11_core_49 : decode cX11_core 49 = .ok (.iload_n 3, 1) := by decide +kernel
theorem dX11_core_50 : decode cX11_core 50 = .ok (.ifCond .eq 15, 3) := by decide +kernel
theorem dX11_core_53 : decode cX11_core 53 = .ok (.aload_n 0, 1) := by decide +kernel
theorem dX11_core_54 : decode cX11_core 54 = .ok (.iload_n 2, 1) := by decide +kernel
theorem dX11_core_55 : decode cX11_core 55 = .ok (.invokevirtual 95, 3) := by decide +kernel
theorem dX11_core_58 : decode cX11_core 58 = .ok (.ifCond .ne 7, 3) := by decide +kernel
theorem dX11_core_61 : decode cX11_core 61 = .ok (.iload_n 2, 1) := by decide +kernel
theorem dX11_core_62 : decode cX11_core 62 = .ok (.goto 4, 3) := by decide +kernel
theorem dX11_core_65 : decode cX11_core 65 = .ok (.iload_n 1, 1) := by decide +kernel
theorem dX11_core_66 : decode cX11_core 66 = .ok (.istore_n 1, 1) := by decide +kernel
theorem dX11_core_67 : decode cX11_core 67 = .ok (.iinc 2 (-1), 3) := by decide +kernel
theorem dX11_core_70 : decode cX11_core 70 = .ok (.goto (-42), 3) := by decide +kernel
theorem dX11_core_73 : decode cX11_core 73 = .ok (.iload_n 1, 1) := by decide +kernel
theorem dX11_core_74 : decode cX11_core 74 = .ok (.ireturn, 1) := by decide +kernel
set_option maxRecDepth 20000 in
theorem ggX11_asked_X11_isPoint : GoodIn wsX11_asked wsX11_isPoint := goodIn_r _ [7, 8, 9, 10, 6, 11] (by decide +kernel) (by decide +kernel)
set_option maxRecDepth 20000 in
theorem gX11_asked_X11_isPoint : GoodIn wsX11_asked (va_wsS RX11 117 yX11_isPoint wsX11_isPoint) := goodIn_app (goodIn_of _ (by decide +kernel)) ggX11_asked_X11_isPoint
set_option maxRecDepth 20000 in
theorem ggX11_asked_X11_isBoxed : GoodIn wsX11_asked wsX11_isBoxed := goodIn_r _ [15, 3, 16, 17, 6, 18, 33, 34, 35, 36, 37, 38, 39, 40, 41, 42, 43, 44, 45, 46, 47, 48, 49, 50, 51, 52, 53, 54, 55] (by decide +kernel) (by decide +kernel)
set_option maxRecDepth 20000 in
theorem gX11_asked_X11_isBoxed : GoodIn wsX11_asked (wsV RX11 80 RX11 yX11_isBoxed wsX11_isBoxed) := goodIn_app (goodIn_of _ (by decide +kernel)) ggX11_asked_X11_isBoxed
set_option maxRecDepth 20000 in
theorem ggX11_asked_X11_in : GoodIn wsX11_asked wsX11_in := goodIn_r _ [11] (by decide +kernel) (by decide +kernel)
set_option maxRecDepth 20000 in
theorem gX11_asked_X11_in : GoodIn wsX11_asked (va_wsS RX11 60 yX11_in wsX11_in) := goodIn_app (goodIn_of _ (by decide +kernel)) ggX11_asked_X11_in
set_option maxRecDepth 20000 in
theorem ggX11_asked_X11_holdsAt : GoodIn wsX11_asked wsX11_holdsAt := goodIn_r _ [22, 3, 23, 24, 25, 6, 26, 16, 17, 18, 27, 28, 29, 33, 34, 35, 36, 37, 38, 39, 40, 41, 42, 43, 44, 45, 46, 47, 48, 49, 50, 51, 52, 53, 54, 55] (by decide +kernel) (by decide +kernel)
set_option maxRecDepth 20000 in
theorem gX11_asked_X11_holdsAt : GoodIn wsX11_asked (wsV RX11 84 RX11 yX11_holdsAt wsX11_holdsAt) := goodIn_app (goodIn_of _ (by decide +kernel)) ggX11_asked_X11_holdsAt
set_option maxRecDepth 20000 in
theorem ggX11_asked_X11_divides : GoodIn wsX11_asked wsX11_divides := goodIn_r _ [32] (by decide +kernel) (by decide +kernel)
set_option maxRecDepth 20000 in
theorem gX11_asked_X11_divides : GoodIn wsX11_asked (va_wsS RX11 215 yX11_divides wsX11_divides) := goodIn_app (goodIn_of _ (by decide +kernel)) ggX11_asked_X11_divides
theorem dX11_asked_0 : decode cX11_asked 0 = .ok (.iload_n 1, 1) := by decide +kernel
theorem dX11_asked_1 : decode cX11_asked 1 = .ok (.i2l, 1) := by decide +kernel
theorem dX11_asked_2 : decode cX11_asked 2 = .ok (.invokestatic 117, 3) := by decide +kernel
theorem dX11_asked_5 : decode cX11_asked 5 = .ok (.ifCond .eq 33, 3) := by decide +kernel
theorem dX11_asked_8 : decode cX11_asked 8 = .ok (.aload_n 0, 1) := by decide +kernel
theorem dX11_asked_9 : decode cX11_asked 9 = .ok (.iload_n 1, 1) := by decide +kernel
theorem dX11_asked_10 : decode cX11_asked 10 = .ok (.invokevirtual 80, 3) := by decide +kernel
theorem dX11_asked_13 : decode cX11_asked 13 = .ok (.ifCond .eq 25, 3) := by decide +kernel
theorem dX11_asked_16 : decode cX11_asked 16 = .ok (.iload_n 2, 1) := by decide +kernel
theorem dX11_asked_17 : decode cX11_asked 17 = .ok (.i2l, 1) := by decide +kernel
theorem dX11_asked_18 : decode cX11_asked 18 = .ok (.lconst 0, 1) := by decide +kernel
theorem dX11_asked_19 : decode cX11_asked 19 = .ok (.ldc2_w 244, 3) := by decide +kernel
theorem dX11_asked_22 : decode cX11_asked 22 = .ok (.invokestatic 60, 3) := by decide +kernel
theorem dX11_asked_25 : decode cX11_asked 25 = .ok (.ifCond .eq 13, 3) := by decide +kernel
theorem dX11_asked_28 : decode cX11_asked 28 = .ok (.iload_n 3, 1) := by decide +kernel
theorem dX11_asked_29 : decode cX11_asked 29 = .ok (.i2l, 1) := by decide +kernel
theorem dX11_asked_30 : decode cX11_asked 30 = .ok (.lconst 0, 1) := by decide +kernel
theorem dX11_asked_31 : decode cX11_asked 31 = .ok (.lconst 1, 1) := by decide +kernel
theorem dX11_asked_32 : decode cX11_asked 32 = .ok (.invokestatic 60, 3) := by decide +kernel
theorem dX11_asked_35 : decode cX11_asked 35 = .ok (.ifCond .ne 6, 3) := by decide +kernel
theorem dX11_asked_38 : decode cX11_asked 38 = .ok (.ldc 107, 2) := by decide +kernel
theorem dX11_asked_40 : decode cX11_asked 40 = .ok (.ireturn, 1) := by decide +kernel
theorem dX11_asked_41 : decode cX11_asked 41 = .ok (.iconst 1, 1) := by decide +kernel
theorem dX11_asked_42 : decode cX11_asked 42 = .ok (.istore 4, 2) := by decide +kernel
theorem dX11_asked_44 : decode cX11_asked 44 = .ok (.iconst 1, 1) := by decide +kernel
theorem dX11_asked_45 : decode cX11_asked 45 = .ok (.istore 5, 2) := by decide +kernel
theorem dX11_asked_47 : decode cX11_asked 47 = .ok (.aload_n 0, 1) := by decide +kernel
theorem dX11_asked_48 : decode cX11_asked 48 = .ok (.iload_n 1, 1) := by decide +kernel
theorem dX11_asked_49 : decode cX11_asked 49 = .ok (.invokevirtual 84, 3) := by decide +kernel
theorem dX11_asked_52 : decode cX11_asked 52 = .ok (.istore 6, 2) := by decide +kernel
theorem dX11_asked_54 : decode cX11_asked 54 = .ok (.iconst 0, 1) := by decide +kernel
theorem dX11_asked_55 : decode cX11_asked 55 = .ok (.istore 7, 2) := by decide +kernel
theorem dX11_asked_57 : decode cX11_asked 57 = .ok (.iload 7, 2) := by decide +kernel
theorem dX11_asked_59 : decode cX11_asked 59 = .ok (.aload_n 0, 1) := by decide +kernel
theorem dX11_asked_60 : decode cX11_asked 60 = .ok (.getfield 7, 3) := by decide +kernel
theorem dX11_asked_63 : decode cX11_asked 63 = .ok (.iconst 0, 1) := by decide +kernel
theorem dX11_asked_64 : decode cX11_asked 64 = .ok (.iaload, 1) := by decide +kernel
theorem dX11_asked_65 : decode cX11_asked 65 = .ok (.if_icmp .ge 61, 3) := by decide +kernel
theorem dX11_asked_68 : decode cX11_asked 68 = .ok (.iload 6, 2) := by decide +kernel
theorem dX11_asked_70 : decode cX11_asked 70 = .ok (.iload 7, 2) := by decide +kernel
theorem dX11_asked_72 : decode cX11_asked 72 = .ok (.ishr, 1) := by decide +kernel
theorem dX11_asked_73 : decode cX11_asked 73 = .ok (.iconst 1, 1) := by decide +kernel
theorem dX11_asked_74 : decode cX11_asked 74 = .ok (.iand, 1) := by decide +kernel
theorem dX11_asked_75 : decode cX11_asked 75 = .ok (.iconst 1, 1) := by decide +kernel
theorem dX11_asked_76 : decode cX11_asked 76 = .ok (.if_icmp .ne 7, 3) := by decide +kernel
theorem dX11_asked_79 : decode cX11_asked 79 = .ok (.iconst 1, 1) := by decide +kernel
theorem dX11_asked_80 : decode cX11_asked 80 = .ok (.goto 4, 3) := by decide +kernel
theorem dX11_asked_83 : decode cX11_asked 83 = .ok (.iconst 0, 1) := by decide +kernel
theorem dX11_asked_84 : decode cX11_asked 84 = .ok (.istore 8, 2) := by decide +kernel
theorem dX11_asked_86 : decode cX11_asked 86 = .ok (.iload 4, 2) := by decide +kernel
theorem dX11_asked_88 : decode cX11_asked 88 = .ok (.iload 8, 2) := by decide +kernel
theorem dX11_asked_90 : decode cX11_asked 90 = .ok (.ifCond .eq 7, 3) := by decide +kernel
theorem dX11_asked_93 : decode cX11_asked 93 = .ok (.iconst 1, 1) := by decide +kernel
theorem dX11_asked_94 : decode cX11_asked 94 = .ok (.goto 7, 3) := by decide +kernel
theorem dX11_asked_97 : decode cX11_asked 97 = .ok (.bipush 10, 2) := by decide +kernel
theorem dX11_asked_99 : decode cX11_asked 99 = .ok (.iload_n 2, 1) := by decide +kernel
theorem dX11_asked_100 : decode cX11_asked 100 = .ok (.isub, 1) := by decide +kernel
theorem dX11_asked_101 : decode cX11_asked 101 = .ok (.imul, 1) := by decide +kernel
theorem dX11_asked_102 : decode cX11_asked 102 = .ok (.istore 4, 2) := by decide +kernel
theorem dX11_asked_104 : decode cX11_asked 104 = .ok (.iload 5, 2) := by decide +kernel
theorem dX11_asked_106 : decode cX11_asked 106 = .ok (.iload 8, 2) := by decide +kernel
theorem dX11_asked_108 : decode cX11_asked 108 = .ok (.ifCond .eq 7, 3) := by decide +kernel
theorem dX11_asked_111 : decode cX11_asked 111 = .ok (.iconst 1, 1) := by decide +kernel
theorem dX11_asked_112 : decode cX11_asked 112 = .ok (.goto 5, 3) := by decide +kernel
theorem dX11_asked_115 : decode cX11_asked 115 = .ok (.bipush 10, 2) := by decide +kernel
theorem dX11_asked_117 : decode cX11_asked 117 = .ok (.imul, 1) := by decide +kernel
theorem dX11_asked_118 : decode cX11_asked 118 = .ok (.istore 5, 2) := by decide +kernel
theorem dX11_asked_120 : decode cX11_asked 120 = .ok (.iinc 7 1, 3) := by decide +kernel
theorem dX11_asked_123 : decode cX11_asked 123 = .ok (.goto (-66), 3) := by decide +kernel
theorem dX11_asked_126 : decode cX11_asked 126 = .ok (.iload 4, 2) := by decide +kernel
theorem dX11_asked_128 : decode cX11_asked 128 = .ok (.iload 5, 2) := by decide +kernel
theorem dX11_asked_130 : decode cX11_asked 130 = .ok (.invokestatic 215, 3) := by decide +kernel
theorem dX11_asked_133 : decode cX11_asked 133 = .ok (.istore 7, 2) := by decide +kernel
theorem dX11_asked_135 : decode cX11_asked 135 = .ok (.iload_n 3, 1) := by decide +kernel
theorem dX11_asked_136 : decode cX11_asked 136 = .ok (.ifCond .ne 8, 3) := by decide +kernel
theorem dX11_asked_139 : decode cX11_asked 139 = .ok (.iload 4, 2) := by decide +kernel
theorem dX11_asked_141 : decode cX11_asked 141 = .ok (.goto 5, 3) := by decide +kernel
theorem dX11_asked_144 : decode cX11_asked 144 = .ok (.iload 5, 2) := by decide +kernel
theorem dX11_asked_146 : decode cX11_asked 146 = .ok (.iload 7, 2) := by decide +kernel
theorem dX11_asked_148 : decode cX11_asked 148 = .ok (.idiv, 1) := by decide +kernel
theorem dX11_asked_149 : decode cX11_asked 149 = .ok (.ireturn, 1) := by decide +kernel
theorem dX11_image_0 : decode cX11_image 0 = .ok (.iconst 0, 1) := by decide +kernel
theorem dX11_image_1 : decode cX11_image 1 = .ok (.istore_n 1, 1) := by decide +kernel
theorem dX11_image_2 : decode cX11_image 2 = .ok (.iload_n 1, 1) := by decide +kernel
theorem dX11_image_3 : decode cX11_image 3 = .ok (.bipush 51, 2) := by decide +kernel
theorem dX11_image_5 : decode cX11_image 5 = .ok (.if_icmp .ge 21, 3) := by decide +kernel
theorem dX11_image_8 : decode cX11_image 8 = .ok (.aload_n 0, 1) := by decide +kernel
theorem dX11_image_9 : decode cX11_image 9 = .ok (.getfield 37, 3) := by decide +kernel
theorem dX11_image_12 : decode cX11_image 12 = .ok (.iload_n 1, 1) := by decide +kernel
theorem dX11_image_13 : decode cX11_image 13 = .ok (.aload_n 0, 1) := by decide +kernel
theorem dX11_image_14 : decode cX11_image 14 = .ok (.getfield 7, 3) := by decide +kernel
theorem dX11_image_17 : decode cX11_image 17 = .ok (.iload_n 1, 1) := by decide +kernel
theorem dX11_image_18 : decode cX11_image 18 = .ok (.iaload, 1) := by decide +kernel
theorem dX11_image_19 : decode cX11_image 19 = .ok (.iastore, 1) := by decide +kernel
theorem dX11_image_20 : decode cX11_image 20 = .ok (.iinc 1 1, 3) := by decide +kernel
theorem dX11_image_23 : decode cX11_image 23 = .ok (.goto (-21), 3) := by decide +kernel
theorem dX11_image_26 : decode cX11_image 26 = .ok (.iconst 0, 1) := by decide +kernel
theorem dX11_image_27 : decode cX11_image 27 = .ok (.istore_n 1, 1) := by decide +kernel
theorem dX11_image_28 : decode cX11_image 28 = .ok (.iload_n 1, 1) := by decide +kernel
theorem dX11_image_29 : decode cX11_image 29 = .ok (.sipush 408, 3) := by decide +kernel
theorem dX11_image_32 : decode cX11_image 32 = .ok (.if_icmp .ge 21, 3) := by decide +kernel
theorem dX11_image_35 : decode cX11_image 35 = .ok (.aload_n 0, 1) := by decide +kernel
theorem dX11_image_36 : decode cX11_image 36 = .ok (.getfield 40, 3) := by decide +kernel
theorem dX11_image_39 : decode cX11_image 39 = .ok (.iload_n 1, 1) := by decide +kernel
theorem dX11_image_40 : decode cX11_image 40 = .ok (.aload_n 0, 1) := by decide +kernel
theorem dX11_image_41 : decode cX11_image 41 = .ok (.getfield 25, 3) := by decide +kernel
theorem dX11_image_44 : decode cX11_image 44 = .ok (.iload_n 1, 1) := by decide +kernel
theorem dX11_image_45 : decode cX11_image 45 = .ok (.iaload, 1) := by decide +kernel
theorem dX11_image_46 : decode cX11_image 46 = .ok (.iastore, 1) := by decide +kernel
theorem dX11_image_47 : decode cX11_image 47 = .ok (.iinc 1 1, 3) := by decide +kernel
theorem dX11_image_50 : decode cX11_image 50 = .ok (.goto (-22), 3) := by decide +kernel
theorem dX11_image_53 : decode cX11_image 53 = .ok (.aload_n 0, 1) := by decide +kernel
theorem dX11_image_54 : decode cX11_image 54 = .ok (.aload_n 0, 1) := by decide +kernel
theorem dX11_image_55 : decode cX11_image 55 = .ok (.getfield 127, 3) := by decide +kernel
theorem dX11_image_58 : decode cX11_image 58 = .ok (.putfield 43, 3) := by decide +kernel
theorem dX11_image_61 : decode cX11_image 61 = .ok (.iconst 1, 1) := by decide +kernel
theorem dX11_image_62 : decode cX11_image 62 = .ok (.ireturn, 1) := by decide +kernel
theorem dX11_restore_0 : decode cX11_restore 0 = .ok (.aload_n 0, 1) := by decide +kernel
theorem dX11_restore_1 : decode cX11_restore 1 = .ok (.getfield 43, 3) := by decide +kernel
theorem dX11_restore_4 : decode cX11_restore 4 = .ok (.ifCond .ge 6, 3) := by decide +kernel
theorem dX11_restore_7 : decode cX11_restore 7 = .ok (.ldc 98, 2) := by decide +kernel
theorem dX11_restore_9 : decode cX11_restore 9 = .ok (.ireturn, 1) := by decide +kernel
theorem dX11_restore_10 : decode cX11_restore 10 = .ok (.iconst 0, 1) := by decide +kernel
theorem dX11_restore_11 : decode cX11_restore 11 = .ok (.istore_n 1, 1) := by decide +kernel
theorem dX11_restore_12 : decode cX11_restore 12 = .ok (.iload_n 1, 1) := by decide +kernel
theorem dX11_restore_13 : decode cX11_restore 13 = .ok (.bipush 51, 2) := by decide +kernel
theorem dX11_restore_15 : decode cX11_restore 15 = .ok (.if_icmp .ge 21, 3) := by decide +kernel
theorem dX11_restore_18 : decode cX11_restore 18 = .ok (.aload_n 0, 1) := by decide +kernel
theorem dX11_restore_19 : decode cX11_restore 19 = .ok (.getfield 7, 3) := by decide +kernel
theorem dX11_restore_22 : decode cX11_restore 22 = .ok (.iload_n 1, 1) := by decide +kernel
theorem dX11_restore_23 : decode cX11_restore 23 = .ok (.aload_n 0, 1) := by decide +kernel
theorem dX11_restore_24 : decode cX11_restore 24 = .ok (.getfield 37, 3) := by decide +kernel
theorem dX11_restore_27 : decode cX11_restore 27 = .ok (.iload_n 1, 1) := by decide +kernel
theorem dX11_restore_28 : decode cX11_restore 28 = .ok (.iaload, 1) := by decide +kernel
theorem dX11_restore_29 : decode cX11_restore 29 = .ok (.iastore, 1) := by decide +kernel
theorem dX11_restore_30 : decode cX11_restore 30 = .ok (.iinc 1 1, 3) := by decide +kernel
theorem dX11_restore_33 : decode cX11_restore 33 = .ok (.goto (-21), 3) := by decide +kernel
theorem dX11_restore_36 : decode cX11_restore 36 = .ok (.iconst 0, 1) := by decide +kernel
theorem dX11_restore_37 : decode cX11_restore 37 = .ok (.istore_n 1, 1) := by decide +kernel
theorem dX11_restore_38 : decode cX11_restore 38 = .ok (.iload_n 1, 1) := by decide +kernel
theorem dX11_restore_39 : decode cX11_restore 39 = .ok (.sipush 408, 3) := by decide +kernel
theorem dX11_restore_42 : decode cX11_restore 42 = .ok (.if_icmp .ge 21, 3) := by decide +kernel
theorem dX11_restore_45 : decode cX11_restore 45 = .ok (.aload_n 0, 1) := by decide +kernel
theorem dX11_restore_46 : decode cX11_restore 46 = .ok (.getfield 25, 3) := by decide +kernel
theorem dX11_restore_49 : decode cX11_restore 49 = .ok (.iload_n 1, 1) := by decide +kernel
theorem dX11_restore_50 : decode cX11_restore 50 = .ok (.aload_n 0, 1) := by decide +kernel
theorem dX11_restore_51 : decode cX11_restore 51 = .ok (.getfield 40, 3) := by decide +kernel
theorem dX11_restore_54 : decode cX11_restore 54 = .ok (.iload_n 1, 1) := by decide +kernel
theorem dX11_restore_55 : decode cX11_restore 55 = .ok (.iaload, 1) := by decide +kernel
theorem dX11_restore_56 : decode cX11_restore 56 = .ok (.iastore, 1) := by decide +kernel
theorem dX11_restore_57 : decode cX11_restore 57 = .ok (.iinc 1 1, 3) := by decide +kernel
theorem dX11_restore_60 : decode cX11_restore 60 = .ok (.goto (-22), 3) := by decide +kernel
theorem dX11_restore_63 : decode cX11_restore 63 = .ok (.aload_n 0, 1) := by decide +kernel
theorem dX11_restore_64 : decode cX11_restore 64 = .ok (.aload_n 0, 1) := by decide +kernel
theorem dX11_restore_65 : decode cX11_restore 65 = .ok (.getfield 43, 3) := by decide +kernel
theorem dX11_restore_68 : decode cX11_restore 68 = .ok (.putfield 127, 3) := by decide +kernel
theorem dX11_restore_71 : decode cX11_restore 71 = .ok (.iconst 1, 1) := by decide +kernel
theorem dX11_restore_72 : decode cX11_restore 72 = .ok (.ireturn, 1) := by decide +kernel
set_option maxRecDepth 20000 in
theorem ggX11_isSheet_X11_in : GoodIn wsX11_isSheet wsX11_in := goodIn_r _ [5] (by decide +kernel) (by decide +kernel)
set_option maxRecDepth 20000 in
theorem gX11_isSheet_X11_in : GoodIn wsX11_isSheet (va_wsS RX11 60 yX11_in wsX11_in) := goodIn_app (goodIn_of _ (by decide +kernel)) ggX11_isSheet_X11_in
theorem dX11_isSheet_0 : decode cX11_isSheet 0 = .ok (.iload_n 0, 1) := by decide +kernel
theorem dX11_isSheet_1 : decode cX11_isSheet 1 = .ok (.i2l, 1) := by decide +kernel
theorem dX11_isSheet_2 : decode cX11_isSheet 2 = .ok (.lconst 0, 1) := by decide +kernel
theorem dX11_isSheet_3 : decode cX11_isSheet 3 = .ok (.ldc2_w 150, 3) := by decide +kernel
theorem dX11_isSheet_6 : decode cX11_isSheet 6 = .ok (.invokestatic 60, 3) := by decide +kernel
theorem dX11_isSheet_9 : decode cX11_isSheet 9 = .ok (.ireturn, 1) := by decide +kernel
theorem dX11_cut_0 : decode cX11_cut 0 = .ok (.iload_n 2, 1) := by decide +kernel
theorem dX11_cut_1 : decode cX11_cut 1 = .ok (.ifCond .ne 10, 3) := by decide +kernel
theorem dX11_cut_4 : decode cX11_cut 4 = .ok (.lload_n 0, 1) := by decide +kernel
theorem dX11_cut_5 : decode cX11_cut 5 = .ok (.l2i, 1) := by decide +kernel
theorem dX11_cut_6 : decode cX11_cut 6 = .ok (.i2b, 1) := by decide +kernel
theorem dX11_cut_7 : decode cX11_cut 7 = .ok (.i2l, 1) := by decide +kernel
theorem dX11_cut_8 : decode cX11_cut 8 = .ok (.goto 27, 3) := by decide +kernel
theorem dX11_cut_11 : decode cX11_cut 11 = .ok (.iload_n 2, 1) := by decide +kernel
theorem dX11_cut_12 : decode cX11_cut 12 = .ok (.iconst 1, 1) := by decide +kernel
theorem dX11_cut_13 : decode cX11_cut 13 = .ok (.if_icmp .ne 10, 3) := by decide +kernel
theorem dX11_cut_16 : decode cX11_cut 16 = .ok (.lload_n 0, 1) := by decide +kernel
theorem dX11_cut_17 : decode cX11_cut 17 = .ok (.l2i, 1) := by decide +kernel
theorem dX11_cut_18 : decode cX11_cut 18 = .ok (.i2s, 1) := by decide +kernel
theorem dX11_cut_19 : decode cX11_cut 19 = .ok (.i2l, 1) := by decide +kernel
theorem dX11_cut_20 : decode cX11_cut 20 = .ok (.goto 15, 3) := by decide +kernel
theorem dX11_cut_23 : decode cX11_cut 23 = .ok (.iload_n 2, 1) := by decide +kernel
theorem dX11_cut_24 : decode cX11_cut 24 = .ok (.iconst 2, 1) := by decide +kernel
theorem dX11_cut_25 : decode cX11_cut 25 = .ok (.if_icmp .ne 9, 3) := by decide +kernel
theorem dX11_cut_28 : decode cX11_cut 28 = .ok (.lload_n 0, 1) := by decide +kernel
theorem dX11_cut_29 : decode cX11_cut 29 = .ok (.l2i, 1) := by decide +kernel
theorem dX11_cut_30 : decode cX11_cut 30 = .ok (.i2l, 1) := by decide +kernel
theorem dX11_cut_31 : decode cX11_cut 31 = .ok (.goto 4, 3) := by decide +kernel
theorem dX11_cut_34 : decode cX11_cut 34 = .ok (.lload_n 0, 1) := by decide +kernel
theorem dX11_cut_35 : decode cX11_cut 35 = .ok (.lreturn, 1) := by decide +kernel
set_option maxRecDepth 20000 in
theorem ggX11_sheet_X11_isSheet : GoodIn wsX11_sheet wsX11_isSheet := goodIn_r _ [10, 1, 11, 12, 9, 13] (by decide +kernel) (by decide +kernel)
set_option maxRecDepth 20000 in
theorem gX11_sheet_X11_isSheet : GoodIn wsX11_sheet (va_wsS RX11 246 yX11_isSheet wsX11_isSheet) := goodIn_app (goodIn_of _ (by decide +kernel)) ggX11_sheet_X11_isSheet
set_option maxRecDepth 20000 in
theorem ggX11_sheet_X11_in : GoodIn wsX11_sheet wsX11_in := goodIn_r _ [13] (by decide +kernel) (by decide +kernel)
set_option maxRecDepth 20000 in
theorem gX11_sheet_X11_in : GoodIn wsX11_sheet (va_wsS RX11 60 yX11_in wsX11_in) := goodIn_app (goodIn_of _ (by decide +kernel)) ggX11_sheet_X11_in
theorem dX11_sheet_0 : decode cX11_sheet 0 = .ok (.iload_n 1, 1) := by decide +kernel
theorem dX11_sheet_1 : decode cX11_sheet 1 = .ok (.invokestatic 246, 3) := by decide +kernel
theorem dX11_sheet_4 : decode cX11_sheet 4 = .ok (.ifCond .eq 21, 3) := by decide +kernel
theorem dX11_sheet_7 : decode cX11_sheet 7 = .ok (.iload_n 2, 1) := by decide +kernel
theorem dX11_sheet_8 : decode cX11_sheet 8 = .ok (.i2l, 1) := by decide +kernel
theorem dX11_sheet_9 : decode cX11_sheet 9 = .ok (.lconst 0, 1) := by decide +kernel
theorem dX11_sheet_10 : decode cX11_sheet 10 = .ok (.ldc2_w 150, 3) := by decide +kernel
theorem dX11_sheet_13 : decode cX11_sheet 13 = .ok (.invokestatic 60, 3) := by decide +kernel
theorem dX11_sheet_16 : decode cX11_sheet 16 = .ok (.ifCond .eq 9, 3) := by decide +kernel
theorem dX11_sheet_19 : decode cX11_sheet 19 = .ok (.iload_n 3, 1) := by decide +kernel
theorem dX11_sheet_20 : decode cX11_sheet 20 = .ok (.bipush 24, 2) := by decide +kernel
theorem dX11_sheet_22 : decode cX11_sheet 22 = .ok (.if_icmp .le 6, 3) := by decide +kernel
theorem dX11_sheet_25 : decode cX11_sheet 25 = .ok (.ldc 107, 2) := by decide +kernel
theorem dX11_sheet_27 : decode cX11_sheet 27 = .ok (.ireturn, 1) := by decide +kernel
theorem dX11_sheet_28 : decode cX11_sheet 28 = .ok (.iload_n 3, 1) := by decide +kernel
theorem dX11_sheet_29 : decode cX11_sheet 29 = .ok (.ifCond .ge 6, 3) := by decide +kernel
theorem dX11_sheet_32 : decode cX11_sheet 32 = .ok (.ldc 249, 2) := by decide +kernel
theorem dX11_sheet_34 : decode cX11_sheet 34 = .ok (.ireturn, 1) := by decide +kernel
theorem dX11_sheet_35 : decode cX11_sheet 35 = .ok (.aload_n 0, 1) := by decide +kernel
theorem dX11_sheet_36 : decode cX11_sheet 36 = .ok (.getfield 47, 3) := by decide +kernel
theorem dX11_sheet_39 : decode cX11_sheet 39 = .ok (.iload_n 1, 1) := by decide +kernel
theorem dX11_sheet_40 : decode cX11_sheet 40 = .ok (.iload_n 2, 1) := by decide +kernel
theorem dX11_sheet_41 : decode cX11_sheet 41 = .ok (.iastore, 1) := by decide +kernel
theorem dX11_sheet_42 : decode cX11_sheet 42 = .ok (.aload_n 0, 1) := by decide +kernel
theorem dX11_sheet_43 : decode cX11_sheet 43 = .ok (.getfield 50, 3) := by decide +kernel
theorem dX11_sheet_46 : decode cX11_sheet 46 = .ok (.iload_n 1, 1) := by decide +kernel
theorem dX11_sheet_47 : decode cX11_sheet 47 = .ok (.iload_n 3, 1) := by decide +kernel
theorem dX11_sheet_48 : decode cX11_sheet 48 = .ok (.iastore, 1) := by decide +kernel
theorem dX11_sheet_49 : decode cX11_sheet 49 = .ok (.iconst 0, 1) := by decide +kernel
theorem dX11_sheet_50 : decode cX11_sheet 50 = .ok (.istore 4, 2) := by decide +kernel
theorem dX11_sheet_52 : decode cX11_sheet 52 = .ok (.iload 4, 2) := by decide +kernel
theorem dX11_sheet_54 : decode cX11_sheet 54 = .ok (.bipush 24, 2) := by decide +kernel
theorem dX11_sheet_56 : decode cX11_sheet 56 = .ok (.if_icmp .ge 22, 3) := by decide +kernel
theorem dX11_sheet_59 : decode cX11_sheet 59 = .ok (.aload_n 0, 1) := by decide +kernel
theorem dX11_sheet_60 : decode cX11_sheet 60 = .ok (.getfield 53, 3) := by decide +kernel
theorem dX11_sheet_63 : decode cX11_sheet 63 = .ok (.bipush 24, 2) := by decide +kernel
theorem dX11_sheet_65 : decode cX11_sheet 65 = .ok (.iload_n 1, 1) := by decide +kernel
theorem dX11_sheet_66 : decode cX11_sheet 66 = .ok (.imul, 1) := by decide +kernel
theorem dX11_sheet_67 : decode cX11_sheet 67 = .ok (.iload 4, 2) := by decide +kernel
theorem dX11_sheet_69 : decode cX11_sheet 69 = .ok (.iadd, 1) := by decide +kernel
theorem dX11_sheet_70 : decode cX11_sheet 70 = .ok (.lconst 0, 1) := by decide +kernel
theorem dX11_sheet_71 : decode cX11_sheet 71 = .ok (.lastore, 1) := by decide +kernel
theorem dX11_sheet_72 : decode cX11_sheet 72 = .ok (.iinc 4 1, 3) := by decide +kernel
theorem dX11_sheet_75 : decode cX11_sheet 75 = .ok (.goto (-23), 3) := by decide +kernel
theorem dX11_sheet_78 : decode cX11_sheet 78 = .ok (.iload_n 3, 1) := by decide +kernel
theorem dX11_sheet_79 : decode cX11_sheet 79 = .ok (.ireturn, 1) := by decide +kernel
set_option maxRecDepth 20000 in
theorem ggX11_clear_X11_isSheet : GoodIn wsX11_clear wsX11_isSheet := goodIn_r _ [8, 9, 10, 11, 7, 12] (by decide +kernel) (by decide +kernel)
set_option maxRecDepth 20000 in
theorem gX11_clear_X11_isSheet : GoodIn wsX11_clear (va_wsS RX11 246 yX11_isSheet wsX11_isSheet) := goodIn_app (goodIn_of _ (by decide +kernel)) ggX11_clear_X11_isSheet
theorem dX11_clear_0 : decode cX11_clear 0 = .ok (.iload_n 1, 1) := by decide +kernel
theorem dX11_clear_1 : decode cX11_clear 1 = .ok (.invokestatic 246, 3) := by decide +kernel
theorem dX11_clear_4 : decode cX11_clear 4 = .ok (.ifCond .ne 6, 3) := by decide +kernel
theorem dX11_clear_7 : decode cX11_clear 7 = .ok (.ldc 107, 2) := by decide +kernel
theorem dX11_clear_9 : decode cX11_clear 9 = .ok (.ireturn, 1) := by decide +kernel
theorem dX11_clear_10 : decode cX11_clear 10 = .ok (.aload_n 0, 1) := by decide +kernel
theorem dX11_clear_11 : decode cX11_clear 11 = .ok (.getfield 47, 3) := by decide +kernel
theorem dX11_clear_14 : decode cX11_clear 14 = .ok (.iload_n 1, 1) := by decide +kernel
theorem dX11_clear_15 : decode cX11_clear 15 = .ok (.iaload, 1) := by decide +kernel
theorem dX11_clear_16 : decode cX11_clear 16 = .ok (.ifCond .ge 6, 3) := by decide +kernel
theorem dX11_clear_19 : decode cX11_clear 19 = .ok (.ldc 250, 2) := by decide +kernel
theorem dX11_clear_21 : decode cX11_clear 21 = .ok (.ireturn, 1) := by decide +kernel
theorem dX11_clear_22 : decode cX11_clear 22 = .ok (.aload_n 0, 1) := by decide +kernel
theorem dX11_clear_23 : decode cX11_clear 23 = .ok (.getfield 47, 3) := by decide +kernel
theorem dX11_clear_26 : decode cX11_clear 26 = .ok (.iload_n 1, 1) := by decide +kernel
theorem dX11_clear_27 : decode cX11_clear 27 = .ok (.iconst (-1), 1) := by decide +kernel
theorem dX11_clear_28 : decode cX11_clear 28 = .ok (.iastore, 1) := by decide +kernel
theorem dX11_clear_29 : decode cX11_clear 29 = .ok (.aload_n 0, 1) := by decide +kernel
theorem dX11_clear_30 : decode cX11_clear 30 = .ok (.getfield 50, 3) := by decide +kernel
theorem dX11_clear_33 : decode cX11_clear 33 = .ok (.iload_n 1, 1) := by decide +kernel
theorem dX11_clear_34 : decode cX11_clear 34 = .ok (.iaload, 1) := by decide +kernel
theorem dX11_clear_35 : decode cX11_clear 35 = .ok (.ireturn, 1) := by decide +kernel
theorem dX11_why_0 : decode cX11_why 0 = .ok (.aload_n 0, 1) := by decide +kernel
theorem dX11_why_1 : decode cX11_why 1 = .ok (.getfield 47, 3) := by decide +kernel
theorem dX11_why_4 : decode cX11_why 4 = .ok (.iload_n 1, 1) := by decide +kernel
theorem dX11_why_5 : decode cX11_why 5 = .ok (.iaload, 1) := by decide +kernel
theorem dX11_why_6 : decode cX11_why 6 = .ok (.ifCond .ge 6, 3) := by decide +kernel
theorem dX11_why_9 : decode cX11_why 9 = .ok (.ldc 250, 2) := by decide +kernel
theorem dX11_why_11 : decode cX11_why 11 = .ok (.ireturn, 1) := by decide +kernel
theorem dX11_why_12 : decode cX11_why 12 = .ok (.aload_n 0, 1) := by decide +kernel
theorem dX11_why_13 : decode cX11_why 13 = .ok (.getfield 47, 3) := by decide +kernel
theorem dX11_why_16 : decode cX11_why 16 = .ok (.iload_n 1, 1) := by decide +kernel
theorem dX11_why_17 : decode cX11_why 17 = .ok (.iaload, 1) := by decide +kernel
theorem dX11_why_18 : decode cX11_why 18 = .ok (.iload_n 2, 1) := by decide +kernel
theorem dX11_why_19 : decode cX11_why 19 = .ok (.if_icmp .eq 6, 3) := by decide +kernel
theorem dX11_why_22 : decode cX11_why 22 = .ok (.ldc 251, 2) := by decide +kernel
theorem dX11_why_24 : decode cX11_why 24 = .ok (.ireturn, 1) := by decide +kernel
theorem dX11_why_25 : decode cX11_why 25 = .ok (.iload_n 3, 1) := by decide +kernel
theorem dX11_why_26 : decode cX11_why 26 = .ok (.ifCond .lt 16, 3) := by decide +kernel
theorem dX11_why_29 : decode cX11_why 29 = .ok (.iload 4, 2) := by decide +kernel
theorem dX11_why_31 : decode cX11_why 31 = .ok (.aload_n 0, 1) := by decide +kernel
theorem dX11_why_32 : decode cX11_why 32 = .ok (.getfield 50, 3) := by decide +kernel
theorem dX11_why_35 : decode cX11_why 35 = .ok (.iload_n 1, 1) := by decide +kernel
theorem dX11_why_36 : decode cX11_why 36 = .ok (.iaload, 1) := by decide +kernel
theorem dX11_why_37 : decode cX11_why 37 = .ok (.iload_n 3, 1) := by decide +kernel
theorem dX11_why_38 : decode cX11_why 38 = .ok (.isub, 1) := by decide +kernel
theorem dX11_why_39 : decode cX11_why 39 = .ok (.if_icmp .le 8, 3) := by decide +kernel
theorem dX11_why_42 : decode cX11_why 42 = .ok (.ldc 252, 2) := by decide +kernel
theorem dX11_why_44 : decode cX11_why 44 = .ok (.goto 4, 3) := by decide +kernel
theorem dX11_why_47 : decode cX11_why 47 = .ok (.iconst 0, 1) := by decide +kernel
theorem dX11_why_48 : decode cX11_why 48 = .ok (.ireturn, 1) := by decide +kernel
set_option maxRecDepth 20000 in
theorem ggX11_item_X11_isSheet : GoodIn wsX11_item wsX11_isSheet := goodIn_r _ [7, 1, 8, 9, 6, 10] (by decide +kernel) (by decide +kernel)
set_option maxRecDepth 20000 in
theorem gX11_item_X11_isSheet : GoodIn wsX11_item (va_wsS RX11 246 yX11_isSheet wsX11_isSheet) := goodIn_app (goodIn_of _ (by decide +kernel)) ggX11_item_X11_isSheet
set_option maxRecDepth 20000 in
theorem ggX11_item_X11_in : GoodIn wsX11_item wsX11_in := goodIn_r _ [10] (by decide +kernel) (by decide +kernel)
set_option maxRecDepth 20000 in
theorem gX11_item_X11_in : GoodIn wsX11_item (va_wsS RX11 60 yX11_in wsX11_in) := goodIn_app (goodIn_of _ (by decide +kernel)) ggX11_item_X11_in
set_option maxRecDepth 20000 in
theorem ggX11_item_X11_why : GoodIn wsX11_item wsX11_why := goodIn_r _ [14, 15, 16, 17, 18, 19, 23, 24, 25, 26, 27, 28, 29, 30, 31, 32, 33, 34, 35, 36, 37, 38, 39, 40, 41, 42, 43, 44, 45] (by decide +kernel) (by decide +kernel)
set_option maxRecDepth 20000 in
theorem gX11_item_X11_why : GoodIn wsX11_item (wsV RX11 253 RX11 yX11_why wsX11_why) := goodIn_app (goodIn_of _ (by decide +kernel)) ggX11_item_X11_why
set_option maxRecDepth 20000 in
theorem ggX11_item_X11_cut : GoodIn wsX11_item wsX11_cut := goodIn_r _ [22] (by decide +kernel) (by decide +kernel)
set_option maxRecDepth 20000 in
theorem gX11_item_X11_cut : GoodIn wsX11_item (va_wsS RX11 257 yX11_cut wsX11_cut) := goodIn_app (goodIn_of _ (by decide +kernel)) ggX11_item_X11_cut
theorem dX11_item_0 : decode cX11_item 0 = .ok (.iload_n 1, 1) := by decide +kernel
theorem dX11_item_1 : decode cX11_item 1 = .ok (.invokestatic 246, 3) := by decide +kernel
theorem dX11_item_4 : decode cX11_item 4 = .ok (.ifCond .eq 15, 3) := by decide +kernel
theorem dX11_item_7 : decode cX11_item 7 = .ok (.iload_n 2, 1) := by decide +kernel
theorem dX11_item_8 : decode cX11_item 8 = .ok (.i2l, 1) := by decide +kernel
theorem dX11_item_9 : decode cX11_item 9 = .ok (.lconst 0, 1) := by decide +kernel
theorem dX11_item_10 : decode cX11_item 10 = .ok (.ldc2_w 150, 3) := by decide +kernel
theorem dX11_item_13 : decode cX11_item 13 = .ok (.invokestatic 60, 3) := by decide +kernel
theorem dX11_item_16 : decode cX11_item 16 = .ok (.ifCond .ne 6, 3) := by decide +kernel
theorem dX11_item_19 : decode cX11_item 19 = .ok (.ldc 107, 2) := by decide +kernel
theorem dX11_item_21 : decode cX11_item 21 = .ok (.ireturn, 1) := by decide +kernel
theorem dX11_item_22 : decode cX11_item 22 = .ok (.aload_n 0, 1) := by decide +kernel
theorem dX11_item_23 : decode cX11_item 23 = .ok (.iload_n 1, 1) := by decide +kernel
theorem dX11_item_24 : decode cX11_item 24 = .ok (.iload_n 2, 1) := by decide +kernel
theorem dX11_item_25 : decode cX11_item 25 = .ok (.iload_n 3, 1) := by decide +kernel
theorem dX11_item_26 : decode cX11_item 26 = .ok (.iconst 1, 1) := by decide +kernel
theorem dX11_item_27 : decode cX11_item 27 = .ok (.invokevirtual 253, 3) := by decide +kernel
theorem dX11_item_30 : decode cX11_item 30 = .ok (.istore 6, 2) := by decide +kernel
theorem dX11_item_32 : decode cX11_item 32 = .ok (.iload 6, 2) := by decide +kernel
theorem dX11_item_34 : decode cX11_item 34 = .ok (.ifCond .ge 6, 3) := by decide +kernel
theorem dX11_item_37 : decode cX11_item 37 = .ok (.iload 6, 2) := by decide +kernel
theorem dX11_item_39 : decode cX11_item 39 = .ok (.ireturn, 1) := by decide +kernel
theorem dX11_item_40 : decode cX11_item 40 = .ok (.aload_n 0, 1) := by decide +kernel
theorem dX11_item_41 : decode cX11_item 41 = .ok (.getfield 53, 3) := by decide +kernel
theorem dX11_item_44 : decode cX11_item 44 = .ok (.bipush 24, 2) := by decide +kernel
theorem dX11_item_46 : decode cX11_item 46 = .ok (.iload_n 1, 1) := by decide +kernel
theorem dX11_item_47 : decode cX11_item 47 = .ok (.imul, 1) := by decide +kernel
theorem dX11_item_48 : decode cX11_item 48 = .ok (.iload_n 3, 1) := by decide +kernel
theorem dX11_item_49 : decode cX11_item 49 = .ok (.iadd, 1) := by decide +kernel
theorem dX11_item_50 : decode cX11_item 50 = .ok (.lload 4, 2) := by decide +kernel
theorem dX11_item_52 : decode cX11_item 52 = .ok (.iload_n 2, 1) := by decide +kernel
theorem dX11_item_53 : decode cX11_item 53 = .ok (.invokestatic 257, 3) := by decide +kernel
theorem dX11_item_56 : decode cX11_item 56 = .ok (.lastore, 1) := by decide +kernel
theorem dX11_item_57 : decode cX11_item 57 = .ok (.iconst 1, 1) := by decide +kernel
theorem dX11_item_58 : decode cX11_item 58 = .ok (.ireturn, 1) := by decide +kernel
set_option maxRecDepth 20000 in
theorem ggX11_copy_X11_isSheet : GoodIn wsX11_copy wsX11_isSheet := goodIn_r _ [12, 13, 14, 15, 11, 16] (by decide +kernel) (by decide +kernel)
set_option maxRecDepth 20000 in
theorem gX11_copy_X11_isSheet : GoodIn wsX11_copy (va_wsS RX11 246 yX11_isSheet wsX11_isSheet) := goodIn_app (goodIn_of _ (by decide +kernel)) ggX11_copy_X11_isSheet
theorem dX11_copy_0 : decode cX11_copy 0 = .ok (.iload_n 1, 1) := by decide +kernel
theorem dX11_copy_1 : decode cX11_copy 1 = .ok (.invokestatic 246, 3) := by decide +kernel
theorem dX11_copy_4 : decode cX11_copy 4 = .ok (.ifCond .eq 10, 3) := by decide +kernel
theorem dX11_copy_7 : decode cX11_copy 7 = .ok (.iload_n 3, 1) := by decide +kernel
theorem dX11_copy_8 : decode cX11_copy 8 = .ok (.invokestatic 246, 3) := by decide +kernel
theorem dX11_copy_11 : decode cX11_copy 11 = .ok (.ifCond .ne 6, 3) := by decide +kernel
theorem dX11_copy_14 : decode cX11_copy 14 = .ok (.ldc 107, 2) := by decide +kernel
theorem dX11_copy_16 : decode cX11_copy 16 = .ok (.ireturn, 1) := by decide +kernel
theorem dX11_copy_17 : decode cX11_copy 17 = .ok (.aload_n 0, 1) := by decide +kernel
theorem dX11_copy_18 : decode cX11_copy 18 = .ok (.getfield 47, 3) := by decide +kernel
theorem dX11_copy_21 : decode cX11_copy 21 = .ok (.iload_n 1, 1) := by decide +kernel
theorem dX11_copy_22 : decode cX11_copy 22 = .ok (.iaload, 1) := by decide +kernel
theorem dX11_copy_23 : decode cX11_copy 23 = .ok (.ifCond .lt 12, 3) := by decide +kernel
theorem dX11_copy_26 : decode cX11_copy 26 = .ok (.aload_n 0, 1) := by decide +kernel
theorem dX11_copy_27 : decode cX11_copy 27 = .ok (.getfield 47, 3) := by decide +kernel
theorem dX11_copy_30 : decode cX11_copy 30 = .ok (.iload_n 3, 1) := by decide +kernel
theorem dX11_copy_31 : decode cX11_copy 31 = .ok (.iaload, 1) := by decide +kernel
theorem dX11_copy_32 : decode cX11_copy 32 = .ok (.ifCond .ge 6, 3) := by decide +kernel
theorem dX11_copy_35 : decode cX11_copy 35 = .ok (.ldc 250, 2) := by decide +kernel
theorem dX11_copy_37 : decode cX11_copy 37 = .ok (.ireturn, 1) := by decide +kernel
theorem dX11_copy_38 : decode cX11_copy 38 = .ok (.aload_n 0, 1) := by decide +kernel
theorem dX11_copy_39 : decode cX11_copy 39 = .ok (.getfield 47, 3) := by decide +kernel
theorem dX11_copy_42 : decode cX11_copy 42 = .ok (.iload_n 1, 1) := by decide +kernel
theorem dX11_copy_43 : decode cX11_copy 43 = .ok (.iaload, 1) := by decide +kernel
theorem dX11_copy_44 : decode cX11_copy 44 = .ok (.aload_n 0, 1) := by decide +kernel
theorem dX11_copy_45 : decode cX11_copy 45 = .ok (.getfield 47, 3) := by decide +kernel
theorem dX11_copy_48 : decode cX11_copy 48 = .ok (.iload_n 3, 1) := by decide +kernel
theorem dX11_copy_49 : decode cX11_copy 49 = .ok (.iaload, 1) := by decide +kernel
theorem dX11_copy_50 : decode cX11_copy 50 = .ok (.if_icmp .eq 6, 3) := by decide +kernel
theorem dX11_copy_53 : decode cX11_copy 53 = .ok (.ldc 251, 2) := by decide +kernel
theorem dX11_copy_55 : decode cX11_copy 55 = .ok (.ireturn, 1) := by decide +kernel
theorem dX11_copy_56 : decode cX11_copy 56 = .ok (.iload 5, 2) := by decide +kernel
theorem dX11_copy_58 : decode cX11_copy 58 = .ok (.ifCond .lt 47, 3) := by decide +kernel
theorem dX11_copy_61 : decode cX11_copy 61 = .ok (.iload_n 2, 1) := by decide +kernel
theorem dX11_copy_62 : decode cX11_copy 62 = .ok (.ifCond .lt 43, 3) := by decide +kernel
theorem dX11_copy_65 : decode cX11_copy 65 = .ok (.iload 4, 2) := by decide +kernel
theorem dX11_copy_67 : decode cX11_copy 67 = .ok (.ifCond .lt 38, 3) := by decide +kernel
theorem dX11_copy_70 : decode cX11_copy 70 = .ok (.iload_n 2, 1) := by decide +kernel
theorem dX11_copy_71 : decode cX11_copy 71 = .ok (.i2l, 1) := by decide +kernel
theorem dX11_copy_72 : decode cX11_copy 72 = .ok (.iload 5, 2) := by decide +kernel
theorem dX11_copy_74 : decode cX11_copy 74 = .ok (.i2l, 1) := by decide +kernel
theorem dX11_copy_75 : decode cX11_copy 75 = .ok (.ladd, 1) := by decide +kernel
theorem dX11_copy_76 : decode cX11_copy 76 = .ok (.aload_n 0, 1) := by decide +kernel
theorem dX11_copy_77 : decode cX11_copy 77 = .ok (.getfield 50, 3) := by decide +kernel
theorem dX11_copy_80 : decode cX11_copy 80 = .ok (.iload_n 1, 1) := by decide +kernel
theorem dX11_copy_81 : decode cX11_copy 81 = .ok (.iaload, 1) := by decide +kernel
theorem dX11_copy_82 : decode cX11_copy 82 = .ok (.i2l, 1) := by decide +kernel
theorem dX11_copy_83 : decode cX11_copy 83 = .ok (.lcmp, 1) := by decide +kernel
theorem dX11_copy_84 : decode cX11_copy 84 = .ok (.ifCond .gt 21, 3) := by decide +kernel
theorem dX11_copy_87 : decode cX11_copy 87 = .ok (.iload 4, 2) := by decide +kernel
theorem dX11_copy_89 : decode cX11_copy 89 = .ok (.i2l, 1) := by decide +kernel
theorem dX11_copy_90 : decode cX11_copy 90 = .ok (.iload 5, 2) := by decide +kernel
theorem dX11_copy_92 : decode cX11_copy 92 = .ok (.i2l, 1) := by decide +kernel
theorem dX11_copy_93 : decode cX11_copy 93 = .ok (.ladd, 1) := by decide +kernel
theorem dX11_copy_94 : decode cX11_copy 94 = .ok (.aload_n 0, 1) := by decide +kernel
theorem dX11_copy_95 : decode cX11_copy 95 = .ok (.getfield 50, 3) := by decide +kernel
theorem dX11_copy_98 : decode cX11_copy 98 = .ok (.iload_n 3, 1) := by decide +kernel
theorem dX11_copy_99 : decode cX11_copy 99 = .ok (.iaload, 1) := by decide +kernel
theorem dX11_copy_100 : decode cX11_copy 100 = .ok (.i2l, 1) := by decide +kernel
theorem dX11_copy_101 : decode cX11_copy 101 = .ok (.lcmp, 1) := by decide +kernel
theorem dX11_copy_102 : decode cX11_copy 102 = .ok (.ifCond .le 6, 3) := by decide +kernel
theorem dX11_copy_105 : decode cX11_copy 105 = .ok (.ldc 252, 2) := by decide +kernel
theorem dX11_copy_107 : decode cX11_copy 107 = .ok (.ireturn, 1) := by decide +kernel
theorem dX11_copy_108 : decode cX11_copy 108 = .ok (.iconst 0, 1) := by decide +kernel
theorem dX11_copy_109 : decode cX11_copy 109 = .ok (.istore 6, 2) := by decide +kernel
theorem dX11_copy_111 : decode cX11_copy 111 = .ok (.iload 6, 2) := by decide +kernel
theorem dX11_copy_113 : decode cX11_copy 113 = .ok (.iload 5, 2) := by decide +kernel
theorem dX11_copy_115 : decode cX11_copy 115 = .ok (.if_icmp .ge 30, 3) := by decide +kernel
theorem dX11_copy_118 : decode cX11_copy 118 = .ok (.aload_n 0, 1) := by decide +kernel
theorem dX11_copy_119 : decode cX11_copy 119 = .ok (.getfield 57, 3) := by decide +kernel
theorem dX11_copy_122 : decode cX11_copy 122 = .ok (.iload 6, 2) := by decide +kernel
theorem dX11_copy_124 : decode cX11_copy 124 = .ok (.aload_n 0, 1) := by decide +kernel
theorem dX11_copy_125 : decode cX11_copy 125 = .ok (.getfield 53, 3) := by decide +kernel
theorem dX11_copy_128 : decode cX11_copy 128 = .ok (.bipush 24, 2) := by decide +kernel
theorem dX11_copy_130 : decode cX11_copy 130 = .ok (.iload_n 1, 1) := by decide +kernel
theorem dX11_copy_131 : decode cX11_copy 131 = .ok (.imul, 1) := by decide +kernel
theorem dX11_copy_132 : decode cX11_copy 132 = .ok (.iload_n 2, 1) := by decide +kernel
theorem dX11_copy_133 : decode cX11_copy 133 = .ok (.iadd, 1) := by decide +kernel
theorem dX11_copy_134 : decode cX11_copy 134 = .ok (.iload 6, 2) := by decide +kernel
theorem dX11_copy_136 : decode cX11_copy 136 = .ok (.iadd, 1) := by decide +kernel
theorem dX11_copy_137 : decode cX11_copy 137 = .ok (.laload, 1) := by decide +kernel
theorem dX11_copy_138 : decode cX11_copy 138 = .ok (.lastore, 1) := by decide +kernel
theorem dX11_copy_139 : decode cX11_copy 139 = .ok (.iinc 6 1, 3) := by decide +kernel
theorem dX11_copy_142 : decode cX11_copy 142 = .ok (.goto (-31), 3) := by decide +kernel
theorem dX11_copy_145 : decode cX11_copy 145 = .ok (.iconst 0, 1) := by decide +kernel
theorem dX11_copy_146 : decode cX11_copy 146 = .ok (.istore 6, 2) := by decide +kernel
theorem dX11_copy_148 : decode cX11_copy 148 = .ok (.iload 6, 2) := by decide +kernel
theorem dX11_copy_150 : decode cX11_copy 150 = .ok (.iload 5, 2) := by decide +kernel
theorem dX11_copy_152 : decode cX11_copy 152 = .ok (.if_icmp .ge 31, 3) := by decide +kernel
theorem dX11_copy_155 : decode cX11_copy 155 = .ok (.aload_n 0, 1) := by decide +kernel
theorem dX11_copy_156 : decode cX11_copy 156 = .ok (.getfield 53, 3) := by decide +kernel
theorem dX11_copy_159 : decode cX11_copy 159 = .ok (.bipush 24, 2) := by decide +kernel
theorem dX11_copy_161 : decode cX11_copy 161 = .ok (.iload_n 3, 1) := by decide +kernel
theorem dX11_copy_162 : decode cX11_copy 162 = .ok (.imul, 1) := by decide +kernel
theorem dX11_copy_163 : decode cX11_copy 163 = .ok (.iload 4, 2) := by decide +kernel
theorem dX11_copy_165 : decode cX11_copy 165 = .ok (.iadd, 1) := by decide +kernel
theorem dX11_copy_166 : decode cX11_copy 166 = .ok (.iload 6, 2) := by decide +kernel
theorem dX11_copy_168 : decode cX11_copy 168 = .ok (.iadd, 1) := by decide +kernel
theorem dX11_copy_169 : decode cX11_copy 169 = .ok (.aload_n 0, 1) := by decide +kernel
theorem dX11_copy_170 : decode cX11_copy 170 = .ok (.getfield 57, 3) := by decide +kernel
theorem dX11_copy_173 : decode cX11_copy 173 = .ok (.iload 6, 2) := by decide +kernel
theorem dX11_copy_175 : decode cX11_copy 175 = .ok (.laload, 1) := by decide +kernel
theorem dX11_copy_176 : decode cX11_copy 176 = .ok (.lastore, 1) := by decide +kernel
theorem dX11_copy_177 : decode cX11_copy 177 = .ok (.iinc 6 1, 3) := by decide +kernel
theorem dX11_copy_180 : decode cX11_copy 180 = .ok (.goto (-32), 3) := by decide +kernel
theorem dX11_copy_183 : decode cX11_copy 183 = .ok (.iload 5, 2) := by decide +kernel
theorem dX11_copy_185 : decode cX11_copy 185 = .ok (.ireturn, 1) := by decide +kernel
set_option maxRecDepth 20000 in
theorem ggX11_seen_X11_isOne : GoodIn wsX11_seen wsX11_isOne := goodIn_r _ [10, 11, 12, 13, 9, 14, 41, 42, 43, 44, 45, 46, 47, 48, 49, 50, 51, 52, 53, 54, 55, 56, 57, 58, 59, 60, 61, 62, 63] (by decide +kernel) (by decide +kernel)
set_option maxRecDepth 20000 in
theorem gX11_seen_X11_isOne : GoodIn wsX11_seen (wsV RX11 112 RX11 yX11_isOne wsX11_isOne) := goodIn_app (goodIn_of _ (by decide +kernel)) ggX11_seen_X11_isOne
set_option maxRecDepth 20000 in
theorem ggX11_seen_X11_isSheet : GoodIn wsX11_seen wsX11_isSheet := goodIn_r _ [17, 1, 12, 13, 9, 14] (by decide +kernel) (by decide +kernel)
set_option maxRecDepth 20000 in
theorem gX11_seen_X11_isSheet : GoodIn wsX11_seen (va_wsS RX11 246 yX11_isSheet wsX11_isSheet) := goodIn_app (goodIn_of _ (by decide +kernel)) ggX11_seen_X11_isSheet
set_option maxRecDepth 20000 in
theorem ggX11_seen_X11_in : GoodIn wsX11_seen wsX11_in := goodIn_r _ [14] (by decide +kernel) (by decide +kernel)
set_option maxRecDepth 20000 in
theorem gX11_seen_X11_in : GoodIn wsX11_seen (va_wsS RX11 60 yX11_in wsX11_in) := goodIn_app (goodIn_of _ (by decide +kernel)) ggX11_seen_X11_in
set_option maxRecDepth 20000 in
theorem ggX11_seen_X11_why : GoodIn wsX11_seen wsX11_why := goodIn_r _ [21, 22, 23, 24, 25, 26, 41, 42, 43, 44, 45, 46, 47, 48, 49, 50, 51, 52, 53, 54, 55, 56, 57, 58, 59, 60, 61, 62, 63] (by decide +kernel) (by decide +kernel)
set_option maxRecDepth 20000 in
theorem gX11_seen_X11_why : GoodIn wsX11_seen (wsV RX11 253 RX11 yX11_why wsX11_why) := goodIn_app (goodIn_of _ (by decide +kernel)) ggX11_seen_X11_why
set_option maxRecDepth 20000 in
theorem ggX11_seen_X11_isPoint : GoodIn wsX11_seen wsX11_isPoint := goodIn_r _ [29, 30, 12, 13, 9, 14] (by decide +kernel) (by decide +kernel)
set_option maxRecDepth 20000 in
theorem gX11_seen_X11_isPoint : GoodIn wsX11_seen (va_wsS RX11 117 yX11_isPoint wsX11_isPoint) := goodIn_app (goodIn_of _ (by decide +kernel)) ggX11_seen_X11_isPoint
set_option maxRecDepth 20000 in
theorem ggX11_seen_X11_sumOf : GoodIn wsX11_seen wsX11_sumOf := goodIn_r _ [34, 11, 35, 36, 9, 37, 41, 42, 43, 44, 45, 46, 47, 48, 49, 50, 51, 52, 53, 54, 55, 56, 57, 58, 59, 60, 61, 62, 63] (by decide +kernel) (by decide +kernel)
set_option maxRecDepth 20000 in
theorem gX11_seen_X11_sumOf : GoodIn wsX11_seen (wsV RX11 70 RX11 yX11_sumOf wsX11_sumOf) := goodIn_app (goodIn_of _ (by decide +kernel)) ggX11_seen_X11_sumOf
set_option maxRecDepth 20000 in
theorem ggX11_seen_X11_holdsBy : GoodIn wsX11_seen wsX11_holdsBy := goodIn_r _ [40] (by decide +kernel) (by decide +kernel)
set_option maxRecDepth 20000 in
theorem gX11_seen_X11_holdsBy : GoodIn wsX11_seen (va_wsS RX11 73 yX11_holdsBy wsX11_holdsBy) := goodIn_app (goodIn_of _ (by decide +kernel)) ggX11_seen_X11_holdsBy
theorem dX11_seen_0 : decode cX11_seen 0 = .ok (.aload_n 0, 1) := by decide +kernel
theorem dX11_seen_1 : decode cX11_seen 1 = .ok (.iload_n 1, 1) := by decide +kernel
theorem dX11_seen_2 : decode cX11_seen 2 = .ok (.invokevirtual 112, 3) := by decide +kernel
theorem dX11_seen_5 : decode cX11_seen 5 = .ok (.ifCond .eq 46, 3) := by decide +kernel
theorem dX11_seen_8 : decode cX11_seen 8 = .ok (.iload_n 2, 1) := by decide +kernel
theorem dX11_seen_9 : decode cX11_seen 9 = .ok (.invokestatic 246, 3) := by decide +kernel
theorem dX11_seen_12 : decode cX11_seen 12 = .ok (.ifCond .eq 39, 3) := by decide +kernel
theorem dX11_seen_15 : decode cX11_seen 15 = .ok (.iload_n 3, 1) := by decide +kernel
theorem dX11_seen_16 : decode cX11_seen 16 = .ok (.i2l, 1) := by decide +kernel
theorem dX11_seen_17 : decode cX11_seen 17 = .ok (.lconst 0, 1) := by decide +kernel
theorem dX11_seen_18 : decode cX11_seen 18 = .ok (.ldc2_w 150, 3) := by decide +kernel
theorem dX11_seen_21 : decode cX11_seen 21 = .ok (.invokestatic 60, 3) := by decide +kernel
theorem dX11_seen_24 : decode cX11_seen 24 = .ok (.ifCond .eq 27, 3) := by decide +kernel
theorem dX11_seen_27 : decode cX11_seen 27 = .ok (.iload 5, 2) := by decide +kernel
theorem dX11_seen_29 : decode cX11_seen 29 = .ok (.i2l, 1) := by decide +kernel
theorem dX11_seen_30 : decode cX11_seen 30 = .ok (.lconst 1, 1) := by decide +kernel
theorem dX11_seen_31 : decode cX11_seen 31 = .ok (.ldc2_w 261, 3) := by decide +kernel
theorem dX11_seen_34 : decode cX11_seen 34 = .ok (.invokestatic 60, 3) := by decide +kernel
theorem dX11_seen_37 : decode cX11_seen 37 = .ok (.ifCond .eq 14, 3) := by decide +kernel
theorem dX11_seen_40 : decode cX11_seen 40 = .ok (.iload 6, 2) := by decide +kernel
theorem dX11_seen_42 : decode cX11_seen 42 = .ok (.i2l, 1) := by decide +kernel
theorem dX11_seen_43 : decode cX11_seen 43 = .ok (.lconst 0, 1) := by decide +kernel
theorem dX11_seen_44 : decode cX11_seen 44 = .ok (.lconst 1, 1) := by decide +kernel
theorem dX11_seen_45 : decode cX11_seen 45 = .ok (.invokestatic 60, 3) := by decide +kernel
theorem dX11_seen_48 : decode cX11_seen 48 = .ok (.ifCond .ne 6, 3) := by decide +kernel
theorem dX11_seen_51 : decode cX11_seen 51 = .ok (.ldc 107, 2) := by decide +kernel
theorem dX11_seen_53 : decode cX11_seen 53 = .ok (.ireturn, 1) := by decide +kernel
theorem dX11_seen_54 : decode cX11_seen 54 = .ok (.aload_n 0, 1) := by decide +kernel
theorem dX11_seen_55 : decode cX11_seen 55 = .ok (.iload_n 2, 1) := by decide +kernel
theorem dX11_seen_56 : decode cX11_seen 56 = .ok (.iload_n 3, 1) := by decide +kernel
theorem dX11_seen_57 : decode cX11_seen 57 = .ok (.iload 4, 2) := by decide +kernel
theorem dX11_seen_59 : decode cX11_seen 59 = .ok (.iload 5, 2) := by decide +kernel
theorem dX11_seen_61 : decode cX11_seen 61 = .ok (.invokevirtual 253, 3) := by decide +kernel
theorem dX11_seen_64 : decode cX11_seen 64 = .ok (.istore 7, 2) := by decide +kernel
theorem dX11_seen_66 : decode cX11_seen 66 = .ok (.iload 7, 2) := by decide +kernel
theorem dX11_seen_68 : decode cX11_seen 68 = .ok (.ifCond .ge 6, 3) := by decide +kernel
theorem dX11_seen_71 : decode cX11_seen 71 = .ok (.iload 7, 2) := by decide +kernel
theorem dX11_seen_73 : decode cX11_seen 73 = .ok (.ireturn, 1) := by decide +kernel
theorem dX11_seen_74 : decode cX11_seen 74 = .ok (.bipush 24, 2) := by decide +kernel
theorem dX11_seen_76 : decode cX11_seen 76 = .ok (.iload_n 2, 1) := by decide +kernel
theorem dX11_seen_77 : decode cX11_seen 77 = .ok (.imul, 1) := by decide +kernel
theorem dX11_seen_78 : decode cX11_seen 78 = .ok (.iload 4, 2) := by decide +kernel
theorem dX11_seen_80 : decode cX11_seen 80 = .ok (.iadd, 1) := by decide +kernel
theorem dX11_seen_81 : decode cX11_seen 81 = .ok (.istore 8, 2) := by decide +kernel
theorem dX11_seen_83 : decode cX11_seen 83 = .ok (.bipush 31, 2) := by decide +kernel
theorem dX11_seen_85 : decode cX11_seen 85 = .ok (.istore 9, 2) := by decide +kernel
theorem dX11_seen_87 : decode cX11_seen 87 = .ok (.iconst 0, 1) := by decide +kernel
theorem dX11_seen_88 : decode cX11_seen 88 = .ok (.istore 10, 2) := by decide +kernel
theorem dX11_seen_90 : decode cX11_seen 90 = .ok (.iload 10, 2) := by decide +kernel
theorem dX11_seen_92 : decode cX11_seen 92 = .ok (.iload 5, 2) := by decide +kernel
theorem dX11_seen_94 : decode cX11_seen 94 = .ok (.if_icmp .ge 28, 3) := by decide +kernel
theorem dX11_seen_97 : decode cX11_seen 97 = .ok (.aload_n 0, 1) := by decide +kernel
theorem dX11_seen_98 : decode cX11_seen 98 = .ok (.getfield 53, 3) := by decide +kernel
theorem dX11_seen_101 : decode cX11_seen 101 = .ok (.iload 8, 2) := by decide +kernel
theorem dX11_seen_103 : decode cX11_seen 103 = .ok (.iload 10, 2) := by decide +kernel
theorem dX11_seen_105 : decode cX11_seen 105 = .ok (.iadd, 1) := by decide +kernel
theorem dX11_seen_106 : decode cX11_seen 106 = .ok (.laload, 1) := by decide +kernel
theorem dX11_seen_107 : decode cX11_seen 107 = .ok (.invokestatic 117, 3) := by decide +kernel
theorem dX11_seen_110 : decode cX11_seen 110 = .ok (.ifCond .ne 6, 3) := by decide +kernel
theorem dX11_seen_113 : decode cX11_seen 113 = .ok (.ldc 177, 2) := by decide +kernel
theorem dX11_seen_115 : decode cX11_seen 115 = .ok (.ireturn, 1) := by decide +kernel
theorem dX11_seen_116 : decode cX11_seen 116 = .ok (.iinc 10 1, 3) := by decide +kernel
theorem dX11_seen_119 : decode cX11_seen 119 = .ok (.goto (-29), 3) := by decide +kernel
theorem dX11_seen_122 : decode cX11_seen 122 = .ok (.iconst 0, 1) := by decide +kernel
theorem dX11_seen_123 : decode cX11_seen 123 = .ok (.istore 10, 2) := by decide +kernel
theorem dX11_seen_125 : decode cX11_seen 125 = .ok (.iload 10, 2) := by decide +kernel
theorem dX11_seen_127 : decode cX11_seen 127 = .ok (.iload 5, 2) := by decide +kernel
theorem dX11_seen_129 : decode cX11_seen 129 = .ok (.if_icmp .ge 78, 3) := by decide +kernel
theorem dX11_seen_132 : decode cX11_seen 132 = .ok (.aload_n 0, 1) := by decide +kernel
theorem dX11_seen_133 : decode cX11_seen 133 = .ok (.iload_n 1, 1) := by decide +kernel
theorem dX11_seen_134 : decode cX11_seen 134 = .ok (.aload_n 0, 1) := by decide +kernel
theorem dX11_seen_135 : decode cX11_seen 135 = .ok (.getfield 53, 3) := by decide +kernel
theorem dX11_seen_138 : decode cX11_seen 138 = .ok (.iload 8, 2) := by decide +kernel
theorem dX11_seen_140 : decode cX11_seen 140 = .ok (.iload 10, 2) := by decide +kernel
theorem dX11_seen_142 : decode cX11_seen 142 = .ok (.iadd, 1) := by decide +kernel
theorem dX11_seen_143 : decode cX11_seen 143 = .ok (.laload, 1) := by decide +kernel
theorem dX11_seen_144 : decode cX11_seen 144 = .ok (.l2i, 1) := by decide +kernel
theorem dX11_seen_145 : decode cX11_seen 145 = .ok (.invokevirtual 70, 3) := by decide +kernel
theorem dX11_seen_148 : decode cX11_seen 148 = .ok (.istore 11, 2) := by decide +kernel
theorem dX11_seen_150 : decode cX11_seen 150 = .ok (.iconst 0, 1) := by decide +kernel
theorem dX11_seen_151 : decode cX11_seen 151 = .ok (.istore 12, 2) := by decide +kernel
theorem dX11_seen_153 : decode cX11_seen 153 = .ok (.iload 12, 2) := by decide +kernel
theorem dX11_seen_155 : decode cX11_seen 155 = .ok (.iconst 5, 1) := by decide +kernel
theorem dX11_seen_156 : decode cX11_seen 156 = .ok (.if_icmp .ge 45, 3) := by decide +kernel
theorem dX11_seen_159 : decode cX11_seen 159 = .ok (.iload 9, 2) := by decide +kernel
theorem dX11_seen_161 : decode cX11_seen 161 = .ok (.iload 12, 2) := by decide +kernel
theorem dX11_seen_163 : decode cX11_seen 163 = .ok (.iload 11, 2) := by decide +kernel
theorem dX11_seen_165 : decode cX11_seen 165 = .ok (.invokestatic 73, 3) := by decide +kernel
theorem dX11_seen_168 : decode cX11_seen 168 = .ok (.iload 6, 2) := by decide +kernel
theorem dX11_seen_170 : decode cX11_seen 170 = .ok (.ifCond .ne 7, 3) := by decide +kernel
theorem dX11_seen_173 : decode cX11_seen 173 = .ok (.iconst 1, 1) := by decide +kernel
theorem dX11_seen_174 : decode cX11_seen 174 = .ok (.goto 4, 3) := by decide +kernel
theorem dX11_seen_177 : decode cX11_seen 177 = .ok (.iconst 0, 1) := by decide +kernel
theorem dX11_seen_178 : decode cX11_seen 178 = .ok (.if_icmp .ne 8, 3) := by decide +kernel
theorem dX11_seen_181 : decode cX11_seen 181 = .ok (.bipush 31, 2) := by decide +kernel
theorem dX11_seen_183 : decode cX11_seen 183 = .ok (.goto 9, 3) := by decide +kernel
theorem dX11_seen_186 : decode cX11_seen 186 = .ok (.iconst 1, 1) := by decide +kernel
theorem dX11_seen_187 : decode cX11_seen 187 = .ok (.iload 12, 2) := by decide +kernel
theorem dX11_seen_189 : decode cX11_seen 189 = .ok (.ishl, 1) := by decide +kernel
theorem dX11_seen_190 : decode cX11_seen 190 = .ok (.iconst (-1), 1) := by decide +kernel
theorem dX11_seen_191 : decode cX11_seen 191 = .ok (.ixor, 1) := by decide +kernel
theorem dX11_seen_192 : decode cX11_seen 192 = .ok (.iand, 1) := by decide +kernel
theorem dX11_seen_193 : decode cX11_seen 193 = .ok (.istore 9, 2) := by decide +kernel
theorem dX11_seen_195 : decode cX11_seen 195 = .ok (.iinc 12 1, 3) := by decide +kernel
theorem dX11_seen_198 : decode cX11_seen 198 = .ok (.goto (-45), 3) := by decide +kernel
theorem dX11_seen_201 : decode cX11_seen 201 = .ok (.iinc 10 1, 3) := by decide +kernel
theorem dX11_seen_204 : decode cX11_seen 204 = .ok (.goto (-79), 3) := by decide +kernel
theorem dX11_seen_207 : decode cX11_seen 207 = .ok (.iload 9, 2) := by decide +kernel
theorem dX11_seen_209 : decode cX11_seen 209 = .ok (.ireturn, 1) := by decide +kernel
set_option maxRecDepth 20000 in
theorem ggX11_film_X11_in : GoodIn wsX11_film wsX11_in := goodIn_r _ [12] (by decide +kernel) (by decide +kernel)
set_option maxRecDepth 20000 in
theorem gX11_film_X11_in : GoodIn wsX11_film (va_wsS RX11 60 yX11_in wsX11_in) := goodIn_app (goodIn_of _ (by decide +kernel)) ggX11_film_X11_in
set_option maxRecDepth 20000 in
theorem ggX11_film_X11_isSheet : GoodIn wsX11_film wsX11_isSheet := goodIn_r _ [15, 2, 9, 10, 11, 12] (by decide +kernel) (by decide +kernel)
set_option maxRecDepth 20000 in
theorem gX11_film_X11_isSheet : GoodIn wsX11_film (va_wsS RX11 246 yX11_isSheet wsX11_isSheet) := goodIn_app (goodIn_of _ (by decide +kernel)) ggX11_film_X11_isSheet
set_option maxRecDepth 20000 in
theorem ggX11_film_X11_why : GoodIn wsX11_film wsX11_why := goodIn_r _ [19, 20, 21, 22, 23, 24, 55, 56, 57, 58, 59, 60, 61, 62, 63, 64, 65, 66, 67, 68, 69, 70, 71, 72, 73, 74, 75, 76, 77] (by decide +kernel) (by decide +kernel)
set_option maxRecDepth 20000 in
theorem gX11_film_X11_why : GoodIn wsX11_film (wsV RX11 253 RX11 yX11_why wsX11_why) := goodIn_app (goodIn_of _ (by decide +kernel)) ggX11_film_X11_why
set_option maxRecDepth 20000 in
theorem ggX11_film_X11_lays : GoodIn wsX11_film wsX11_lays := goodIn_r _ [28, 4, 7, 5, 29, 30, 31, 11, 32, 33, 34, 35, 36, 37, 38, 39, 40, 41, 42, 43, 44, 45, 46, 47, 55, 56, 57, 58, 59, 60, 61, 62, 63, 64, 65, 66, 67, 68, 69, 70, 71, 72, 73, 74, 75, 76, 77] (by decide +kernel) (by decide +kernel)
set_option maxRecDepth 20000 in
theorem gX11_film_X11_lays : GoodIn wsX11_film (wsV RX11 88 RX11 yX11_lays wsX11_lays) := goodIn_app (goodIn_of _ (by decide +kernel)) ggX11_film_X11_lays
set_option maxRecDepth 20000 in
theorem ggX11_film_X11_all : GoodIn wsX11_film wsX11_all := goodIn_r _ [51, 33, 55, 56, 57, 58, 59, 60, 61, 62, 63, 64, 65, 66, 67, 68, 69, 70, 71, 72, 73, 74, 75, 76, 77] (by decide +kernel) (by decide +kernel)
set_option maxRecDepth 20000 in
theorem gX11_film_X11_all : GoodIn wsX11_film (wsV RX11 91 RX11 yX11_all wsX11_all) := goodIn_app (goodIn_of _ (by decide +kernel)) ggX11_film_X11_all
set_option maxRecDepth 20000 in
theorem ggX11_film_X11_cut : GoodIn wsX11_film wsX11_cut := goodIn_r _ [54] (by decide +kernel) (by decide +kernel)

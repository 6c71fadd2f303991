set_option maxRecDepth 20000 in
theorem ggX0_init_X9_init : GoodIn wsX0_init wsX9_init := goodIn_r _ [12, 13, 2, 3, 8, 14, 15, 16, 17, 18, 19, 20, 21] (by decide +kernel) (by decide +kernel)
set_option maxRecDepth 20000 in
theorem gX0_init_X9_init : GoodIn wsX0_init (wsX9_init) := ggX0_init_X9_init
theorem dX0_init_0 : decode cX0_init 0 = .ok (.aload_n 0, 1) := by decide +kernel
theorem dX0_init_1 : decode cX0_init 1 = .ok (.invokespecial 1, 3) := by decide +kernel
theorem dX0_init_4 : decode cX0_init 4 = .ok (.aload_n 0, 1) := by decide +kernel
theorem dX0_init_5 : decode cX0_init 5 = .ok (.new 7, 3) := by decide +kernel
theorem dX0_init_8 : decode cX0_init 8 = .ok (.dup, 1) := by decide +kernel
theorem dX0_init_9 : decode cX0_init 9 = .ok (.invokespecial 9, 3) := by decide +kernel
theorem dX0_init_12 : decode cX0_init 12 = .ok (.putfield 10, 3) := by decide +kernel
theorem dX0_init_15 : decode cX0_init 15 = .ok (.aload_n 0, 1) := by decide +kernel
theorem dX0_init_16 : decode cX0_init 16 = .ok (.sipush 408, 3) := by decide +kernel
theorem dX0_init_19 : decode cX0_init 19 = .ok (.newarray .int, 2) := by decide +kernel
theorem dX0_init_21 : decode cX0_init 21 = .ok (.putfield 16, 3) := by decide +kernel
theorem dX0_init_24 : decode cX0_init 24 = .ok (.return_, 1) := by decide +kernel
set_option maxRecDepth 20000 in
theorem ggX0_keep_X9_saveTo : GoodIn wsX0_keep wsX9_saveTo := goodIn_r _ [12, 13, 14, 4, 5, 6, 15, 16, 17, 21, 22, 23, 24, 25] (by decide +kernel) (by decide +kernel)
set_option maxRecDepth 20000 in
theorem gX0_keep_X9_saveTo : GoodIn wsX0_keep (wsV RX0 30 RX9 yX9_saveTo wsX9_saveTo) := goodIn_app (goodIn_of _ (by decide +kernel)) ggX0_keep_X9_saveTo
theorem dX0_keep_0 : decode cX0_keep 0 = .ok (.aload_n 0, 1) := by decide +kernel
theorem dX0_keep_1 : decode cX0_keep 1 = .ok (.getfield 20, 3) := by decide +kernel
theorem dX0_keep_4 : decode cX0_keep 4 = .ok (.bipush 8, 2) := by decide +kernel
theorem dX0_keep_6 : decode cX0_keep 6 = .ok (.if_icmp .ne 34, 3) := by decide +kernel
theorem dX0_keep_9 : decode cX0_keep 9 = .ok (.aload_n 0, 1) := by decide +kernel
theorem dX0_keep_10 : decode cX0_keep 10 = .ok (.dup, 1) := by decide +kernel
theorem dX0_keep_11 : decode cX0_keep 11 = .ok (.getfield 20, 3) := by decide +kernel
theorem dX0_keep_14 : decode cX0_keep 14 = .ok (.iconst 1, 1) := by decide +kernel
theorem dX0_keep_15 : decode cX0_keep 15 = .ok (.isub, 1) := by decide +kernel
theorem dX0_keep_16 : decode cX0_keep 16 = .ok (.putfield 20, 3) := by decide +kernel
theorem dX0_keep_19 : decode cX0_keep 19 = .ok (.aload_n 0, 1) := by decide +kernel
theorem dX0_keep_20 : decode cX0_keep 20 = .ok (.getfield 16, 3) := by decide +kernel
theorem dX0_keep_23 : decode cX0_keep 23 = .ok (.bipush 51, 2) := by decide +kernel
theorem dX0_keep_25 : decode cX0_keep 25 = .ok (.aload_n 0, 1) := by decide +kernel
theorem dX0_keep_26 : decode cX0_keep 26 = .ok (.getfield 16, 3) := by decide +kernel
theorem dX0_keep_29 : decode cX0_keep 29 = .ok (.iconst 0, 1) := by decide +kernel
theorem dX0_keep_30 : decode cX0_keep 30 = .ok (.aload_n 0, 1) := by decide +kernel
theorem dX0_keep_31 : decode cX0_keep 31 = .ok (.getfield 20, 3) := by decide +kernel
theorem dX0_keep_34 : decode cX0_keep 34 = .ok (.bipush 51, 2) := by decide +kernel
theorem dX0_keep_36 : decode cX0_keep 36 = .ok (.imul, 1) := by decide +kernel
theorem dX0_keep_37 : decode cX0_keep 37 = .ok (.invokestatic 24, 3) := by decide +kernel
theorem dX0_keep_40 : decode cX0_keep 40 = .ok (.aload_n 0, 1) := by decide +kernel
theorem dX0_keep_41 : decode cX0_keep 41 = .ok (.getfield 10, 3) := by decide +kernel
theorem dX0_keep_44 : decode cX0_keep 44 = .ok (.aload_n 0, 1) := by decide +kernel
theorem dX0_keep_45 : decode cX0_keep 45 = .ok (.getfield 16, 3) := by decide +kernel
theorem dX0_keep_48 : decode cX0_keep 48 = .ok (.aload_n 0, 1) := by decide +kernel
theorem dX0_keep_49 : decode cX0_keep 49 = .ok (.getfield 20, 3) := by decide +kernel
theorem dX0_keep_52 : decode cX0_keep 52 = .ok (.bipush 51, 2) := by decide +kernel
theorem dX0_keep_54 : decode cX0_keep 54 = .ok (.imul, 1) := by decide +kernel
theorem dX0_keep_55 : decode cX0_keep 55 = .ok (.invokevirtual 30, 3) := by decide +kernel
theorem dX0_keep_58 : decode cX0_keep 58 = .ok (.aload_n 0, 1) := by decide +kernel
theorem dX0_keep_59 : decode cX0_keep 59 = .ok (.dup, 1) := by decide +kernel
theorem dX0_keep_60 : decode cX0_keep 60 = .ok (.getfield 20, 3) := by decide +kernel
theorem dX0_keep_63 : decode cX0_keep 63 = .ok (.iconst 1, 1) := by decide +kernel
theorem dX0_keep_64 : decode cX0_keep 64 = .ok (.iadd, 1) := by decide +kernel
theorem dX0_keep_65 : decode cX0_keep 65 = .ok (.putfield 20, 3) := by decide +kernel
theorem dX0_keep_68 : decode cX0_keep 68 = .ok (.return_, 1) := by decide +kernel
set_option maxRecDepth 20000 in
theorem ggX0_goBack_X9_loadFrom : GoodIn wsX0_goBack wsX9_loadFrom := goodIn_r _ [8, 9, 10, 11, 12, 13, 14, 15, 16, 17, 21, 22, 23, 24, 25] (by decide +kernel) (by decide +kernel)
set_option maxRecDepth 20000 in
theorem gX0_goBack_X9_loadFrom : GoodIn wsX0_goBack (wsV RX0 34 RX9 yX9_loadFrom wsX9_loadFrom) := goodIn_app (goodIn_of _ (by decide +kernel)) ggX0_goBack_X9_loadFrom
theorem dX0_goBack_0 : decode cX0_goBack 0 = .ok (.aload_n 0, 1) := by decide +kernel
theorem dX0_goBack_1 : decode cX0_goBack 1 = .ok (.dup, 1) := by decide +kernel
theorem dX0_goBack_2 : decode cX0_goBack 2 = .ok (.getfield 20, 3) := by decide +kernel
theorem dX0_goBack_5 : decode cX0_goBack 5 = .ok (.iconst 1, 1) := by decide +kernel
theorem dX0_goBack_6 : decode cX0_goBack 6 = .ok (.isub, 1) := by decide +kernel
theorem dX0_goBack_7 : decode cX0_goBack 7 = .ok (.putfield 20, 3) := by decide +kernel
theorem dX0_goBack_10 : decode cX0_goBack 10 = .ok (.aload_n 0, 1) := by decide +kernel
theorem dX0_goBack_11 : decode cX0_goBack 11 = .ok (.getfield 10, 3) := by decide +kernel
theorem dX0_goBack_14 : decode cX0_goBack 14 = .ok (.aload_n 0, 1) := by decide +kernel
theorem dX0_goBack_15 : decode cX0_goBack 15 = .ok (.getfield 16, 3) := by decide +kernel
theorem dX0_goBack_18 : decode cX0_goBack 18 = .ok (.aload_n 0, 1) := by decide +kernel
theorem dX0_goBack_19 : decode cX0_goBack 19 = .ok (.getfield 20, 3) := by decide +kernel
theorem dX0_goBack_22 : decode cX0_goBack 22 = .ok (.bipush 51, 2) := by decide +kernel
theorem dX0_goBack_24 : decode cX0_goBack 24 = .ok (.imul, 1) := by decide +kernel
theorem dX0_goBack_25 : decode cX0_goBack 25 = .ok (.invokevirtual 34, 3) := by decide +kernel
theorem dX0_goBack_28 : decode cX0_goBack 28 = .ok (.return_, 1) := by decide +kernel
set_option maxRecDepth 20000 in
theorem ggX0_begin_X9_take : GoodIn wsX0_begin wsX9_take := goodIn_r _ [8, 9, 10, 11, 12, 13, 14, 15, 16, 17, 21, 22, 23, 24, 25] (by decide +kernel) (by decide +kernel)
set_option maxRecDepth 20000 in
theorem gX0_begin_X9_take : GoodIn wsX0_begin (wsV RX0 40 RX9 yX9_take wsX9_take) := goodIn_app (goodIn_of _ (by decide +kernel)) ggX0_begin_X9_take
theorem dX0_begin_0 : decode cX0_begin 0 = .ok (.aload_n 0, 1) := by decide +kernel
theorem dX0_begin_1 : decode cX0_begin 1 = .ok (.getfield 10, 3) := by decide +kernel
theorem dX0_begin_4 : decode cX0_begin 4 = .ok (.getfield 37, 3) := by decide +kernel
theorem dX0_begin_7 : decode cX0_begin 7 = .ok (.istore_n 2, 1) := by decide +kernel
theorem dX0_begin_8 : decode cX0_begin 8 = .ok (.aload_n 0, 1) := by decide +kernel
theorem dX0_begin_9 : decode cX0_begin 9 = .ok (.getfield 10, 3) := by decide +kernel
theorem dX0_begin_12 : decode cX0_begin 12 = .ok (.aload_n 1, 1) := by decide +kernel
theorem dX0_begin_13 : decode cX0_begin 13 = .ok (.invokevirtual 40, 3) := by decide +kernel
theorem dX0_begin_16 : decode cX0_begin 16 = .ok (.aload_n 0, 1) := by decide +kernel
theorem dX0_begin_17 : decode cX0_begin 17 = .ok (.getfield 10, 3) := by decide +kernel
theorem dX0_begin_20 : decode cX0_begin 20 = .ok (.iload_n 2, 1) := by decide +kernel
theorem dX0_begin_21 : decode cX0_begin 21 = .ok (.putfield 37, 3) := by decide +kernel
theorem dX0_begin_24 : decode cX0_begin 24 = .ok (.aload_n 0, 1) := by decide +kernel
theorem dX0_begin_25 : decode cX0_begin 25 = .ok (.iconst 0, 1) := by decide +kernel
theorem dX0_begin_26 : decode cX0_begin 26 = .ok (.putfield 20, 3) := by decide +kernel
theorem dX0_begin_29 : decode cX0_begin 29 = .ok (.return_, 1) := by decide +kernel
set_option maxRecDepth 20000 in
theorem ggX0_take_X9_take : GoodIn wsX0_take wsX9_take := goodIn_r _ [12, 13, 14, 4, 5, 6, 15, 16, 17, 18, 22, 23, 24, 25, 26] (by decide +kernel) (by decide +kernel)
set_option maxRecDepth 20000 in
theorem gX0_take_X9_take : GoodIn wsX0_take (wsV RX0 40 RX9 yX9_take wsX9_take) := goodIn_app (goodIn_of _ (by decide +kernel)) ggX0_take_X9_take
theorem dX0_take_0 : decode cX0_take 0 = .ok (.aload_n 0, 1) := by decide +kernel
theorem dX0_take_1 : decode cX0_take 1 = .ok (.getfield 10, 3) := by decide +kernel
theorem dX0_take_4 : decode cX0_take 4 = .ok (.aload_n 1, 1) := by decide +kernel
theorem dX0_take_5 : decode cX0_take 5 = .ok (.getfield 10, 3) := by decide +kernel
theorem dX0_take_8 : decode cX0_take 8 = .ok (.invokevirtual 40, 3) := by decide +kernel
theorem dX0_take_11 : decode cX0_take 11 = .ok (.aload_n 1, 1) := by decide +kernel
theorem dX0_take_12 : decode cX0_take 12 = .ok (.getfield 16, 3) := by decide +kernel
theorem dX0_take_15 : decode cX0_take 15 = .ok (.iconst 0, 1) := by decide +kernel
theorem dX0_take_16 : decode cX0_take 16 = .ok (.aload_n 0, 1) := by decide +kernel
theorem dX0_take_17 : decode cX0_take 17 = .ok (.getfield 16, 3) := by decide +kernel
theorem dX0_take_20 : decode cX0_take 20 = .ok (.iconst 0, 1) := by decide +kernel
theorem dX0_take_21 : decode cX0_take 21 = .ok (.aload_n 0, 1) := by decide +kernel
theorem dX0_take_22 : decode cX0_take 22 = .ok (.getfield 16, 3) := by decide +kernel
theorem dX0_take_25 : decode cX0_take 25 = .ok (.arraylength, 1) := by decide +kernel
theorem dX0_take_26 : decode cX0_take 26 = .ok (.invokestatic 24, 3) := by decide +kernel
theorem dX0_take_29 : decode cX0_take 29 = .ok (.aload_n 0, 1) := by decide +kernel
theorem dX0_take_30 : decode cX0_take 30 = .ok (.aload_n 1, 1) := by decide +kernel
theorem dX0_take_31 : decode cX0_take 31 = .ok (.getfield 20, 3) := by decide +kernel
theorem dX0_take_34 : decode cX0_take 34 = .ok (.putfield 20, 3) := by decide +kernel
theorem dX0_take_37 : decode cX0_take 37 = .ok (.return_, 1) := by decide +kernel
theorem dX1_holds_0 : decode cX1_holds 0 = .ok (.iload_n 0, 1) := by decide +kernel
theorem dX1_holds_1 : decode cX1_holds 1 = .ok (.tableswitch 71 0 3 #[31, 41, 51, 61], 31) := by decide +kernel
theorem dX1_holds_32 : decode cX1_holds 32 = .ok (.iload_n 1, 1) := by decide +kernel
theorem dX1_holds_33 : decode cX1_holds 33 = .ok (.ifCond .lt 7, 3) := by decide +kernel
theorem dX1_holds_36 : decode cX1_holds 36 = .ok (.iconst 1, 1) := by decide +kernel
theorem dX1_holds_37 : decode cX1_holds 37 = .ok (.goto 4, 3) := by decide +kernel
theorem dX1_holds_40 : decode cX1_holds 40 = .ok (.iconst 0, 1) := by decide +kernel
theorem dX1_holds_41 : decode cX1_holds 41 = .ok (.ireturn, 1) := by decide +kernel
theorem dX1_holds_42 : decode cX1_holds 42 = .ok (.iload_n 1, 1) := by decide +kernel
theorem dX1_holds_43 : decode cX1_holds 43 = .ok (.ifCond .gt 7, 3) := by decide +kernel
theorem dX1_holds_46 : decode cX1_holds 46 = .ok (.iconst 1, 1) := by decide +kernel
theorem dX1_holds_47 : decode cX1_holds 47 = .ok (.goto 4, 3) := by decide +kernel
theorem dX1_holds_50 : decode cX1_holds 50 = .ok (.iconst 0, 1) := by decide +kernel
theorem dX1_holds_51 : decode cX1_holds 51 = .ok (.ireturn, 1) := by decide +kernel
theorem dX1_holds_52 : decode cX1_holds 52 = .ok (.iload_n 1, 1) := by decide +kernel
theorem dX1_holds_53 : decode cX1_holds 53 = .ok (.ifCond .ne 7, 3) := by decide +kernel
theorem dX1_holds_56 : decode cX1_holds 56 = .ok (.iconst 1, 1) := by decide +kernel
theorem dX1_holds_57 : decode cX1_holds 57 = .ok (.goto 4, 3) := by decide +kernel
theorem dX1_holds_60 : decode cX1_holds 60 = .ok (.iconst 0, 1) := by decide +kernel
theorem dX1_holds_61 : decode cX1_holds 61 = .ok (.ireturn, 1) := by decide +kernel
theorem dX1_holds_62 : decode cX1_holds 62 = .ok (.iload_n 1, 1) := by decide +kernel
theorem dX1_holds_63 : decode cX1_holds 63 = .ok (.ifCond .eq 7, 3) := by decide +kernel
theorem dX1_holds_66 : decode cX1_holds 66 = .ok (.iconst 1, 1) := by decide +kernel
theorem dX1_holds_67 : decode cX1_holds 67 = .ok (.goto 4, 3) := by decide +kernel
theorem dX1_holds_70 : decode cX1_holds 70 = .ok (.iconst 0, 1) := by decide +kernel
theorem dX1_holds_71 : decode cX1_holds 71 = .ok (.ireturn, 1) := by decide +kernel
theorem dX1_holds_72 : decode cX1_holds 72 = .ok (.iload_n 1, 1) := by decide +kernel
theorem dX1_holds_73 : decode cX1_holds 73 = .ok (.iconst 1, 1) := by decide +kernel
theorem dX1_holds_74 : decode cX1_holds 74 = .ok (.iand, 1) := by decide +kernel
theorem dX1_holds_75 : decode cX1_holds 75 = .ok (.ifCond .ne 7, 3) := by decide +kernel
theorem dX1_holds_78 : decode cX1_holds 78 = .ok (.iconst 1, 1) := by decide +kernel
theorem dX1_holds_79 : decode cX1_holds 79 = .ok (.goto 4, 3) := by decide +kernel
theorem dX1_holds_82 : decode cX1_holds 82 = .ok (.iconst 0, 1) := by decide +kernel
theorem dX1_holds_83 : decode cX1_holds 83 = .ok (.ireturn, 1) := by decide +kernel
theorem dX1_lacking_0 : decode cX1_lacking 0 = .ok (.iload_n 0, 1) := by decide +kernel
theorem dX1_lacking_1 : decode cX1_lacking 1 = .ok (.tableswitch 58 0 3 #[31, 38, 45, 48], 31) := by decide +kernel
theorem dX1_lacking_32 : decode cX1_lacking 32 = .ok (.iconst 0, 1) := by decide +kernel
theorem dX1_lacking_33 : decode cX1_lacking 33 = .ok (.iload_n 1, 1) := by decide +kernel
theorem dX1_lacking_34 : decode cX1_lacking 34 = .ok (.ineg, 1) := by decide +kernel
theorem dX1_lacking_35 : decode cX1_lacking 35 = .ok (.invokestatic 9, 3) := by decide +kernel
theorem dX1_lacking_38 : decode cX1_lacking 38 = .ok (.ireturn, 1) := by decide +kernel
theorem dX1_lacking_39 : decode cX1_lacking 39 = .ok (.iconst 0, 1) := by decide +kernel
theorem dX1_lacking_40 : decode cX1_lacking 40 = .ok (.iload_n 1, 1) := by decide +kernel
theorem dX1_lacking_41 : decode cX1_lacking 41 = .ok (.ineg, 1) := by decide +kernel
theorem dX1_lacking_42 : decode cX1_lacking 42 = .ok (.invokestatic 15, 3) := by decide +kernel
theorem dX1_lacking_45 : decode cX1_lacking 45 = .ok (.ireturn, 1) := by decide +kernel
theorem dX1_lacking_46 : decode cX1_lacking 46 = .ok (.iload_n 1, 1) := by decide +kernel
theorem dX1_lacking_47 : decode cX1_lacking 47 = .ok (.ineg, 1) := by decide +kernel
theorem dX1_lacking_48 : decode cX1_lacking 48 = .ok (.ireturn, 1) := by decide +kernel
theorem dX1_lacking_49 : decode cX1_lacking 49 = .ok (.iload_n 1, 1) := by decide +kernel
theorem dX1_lacking_50 : decode cX1_lacking 50 = .ok (.ifCond .ne 7, 3) := by decide +kernel
theorem dX1_lacking_53 : decode cX1_lacking 53 = .ok (.iconst 1, 1) := by decide +kernel
theorem dX1_lacking_54 : decode cX1_lacking 54 = .ok (.goto 4, 3) := by decide +kernel
theorem dX1_lacking_57 : decode cX1_lacking 57 = .ok (.iconst 0, 1) := by decide +kernel
theorem dX1_lacking_58 : decode cX1_lacking 58 = .ok (.ireturn, 1) := by decide +kernel
theorem dX1_lacking_59 : decode cX1_lacking 59 = .ok (.iload_n 1, 1) := by decide +kernel
theorem dX1_lacking_60 : decode cX1_lacking 60 = .ok (.iconst 1, 1) := by decide +kernel
theorem dX1_lacking_61 : decode cX1_lacking 61 = .ok (.iand, 1) := by decide +kernel
theorem dX1_lacking_62 : decode cX1_lacking 62 = .ok (.ireturn, 1) := by decide +kernel
theorem dX1_ofSign_0 : decode cX1_ofSign 0 = .ok (.iload_n 0, 1) := by decide +kernel
theorem dX1_ofSign_1 : decode cX1_ofSign 1 = .ok (.lookupswitch 61 #[(35, 57), (37, 59), (60, 53), (61, 55), (62, 51)], 51) := by decide +kernel
theorem dX1_ofSign_52 : decode cX1_ofSign 52 = .ok (.iconst 0, 1) := by decide +kernel
theorem dX1_ofSign_53 : decode cX1_ofSign 53 = .ok (.ireturn, 1) := by decide +kernel
theorem dX1_ofSign_54 : decode cX1_ofSign 54 = .ok (.iconst 1, 1) := by decide +kernel
theorem dX1_ofSign_55 : decode cX1_ofSign 55 = .ok (.ireturn, 1) := by decide +kernel
theorem dX1_ofSign_56 : decode cX1_ofSign 56 = .ok (.iconst 2, 1) := by decide +kernel
theorem dX1_ofSign_57 : decode cX1_ofSign 57 = .ok (.ireturn, 1) := by decide +kernel
theorem dX1_ofSign_58 : decode cX1_ofSign 58 = .ok (.iconst 3, 1) := by decide +kernel
theorem dX1_ofSign_59 : decode cX1_ofSign 59 = .ok (.ireturn, 1) := by decide +kernel
theorem dX1_ofSign_60 : decode cX1_ofSign 60 = .ok (.iconst 4, 1) := by decide +kernel
theorem dX1_ofSign_61 : decode cX1_ofSign 61 = .ok (.ireturn, 1) := by decide +kernel
theorem dX1_ofSign_62 : decode cX1_ofSign 62 = .ok (.iconst (-1), 1) := by decide +kernel
theorem dX1_ofSign_63 : decode cX1_ofSign 63 = .ok (.ireturn, 1) := by decide +kernel
theorem dX2_lowestBit_0 : decode cX2_lowestBit 0 = .ok (.iconst 0, 1) := by decide +kernel
theorem dX2_lowestBit_1 : decode cX2_lowestBit 1 = .ok (.istore_n 1, 1) := by decide +kernel
theorem dX2_lowestBit_2 : decode cX2_lowestBit 2 = .ok (.iload_n 1, 1) := by decide +kernel
theorem dX2_lowestBit_3 : decode cX2_lowestBit 3 = .ok (.bipush 31, 2) := by decide +kernel
theorem dX2_lowestBit_5 : decode cX2_lowestBit 5 = .ok (.if_icmp .ge 17, 3) := by decide +kernel
theorem dX2_lowestBit_8 : decode cX2_lowestBit 8 = .ok (.iload_n 0, 1) := by decide +kernel
theorem dX2_lowestBit_9 : decode cX2_lowestBit 9 = .ok (.iload_n 1, 1) := by decide +kernel
theorem dX2_lowestBit_10 : decode cX2_lowestBit 10 = .ok (.ishr, 1) := by decide +kernel
theorem dX2_lowestBit_11 : decode cX2_lowestBit 11 = .ok (.iconst 1, 1) := by decide +kernel
theorem dX2_lowestBit_12 : decode cX2_lowestBit 12 = .ok (.iand, 1) := by decide +kernel
theorem dX2_lowestBit_13 : decode cX2_lowestBit 13 = .ok (.ifCond .ne 9, 3) := by decide +kernel
theorem dX2_lowestBit_16 : decode cX2_lowestBit 16 = .ok (.iinc 1 1, 3) := by decide +kernel
theorem dX2_lowestBit_19 : decode cX2_lowestBit 19 = .ok (.goto (-17), 3) := by decide +kernel
theorem dX2_lowestBit_22 : decode cX2_lowestBit 22 = .ok (.iload_n 1, 1) := by decide +kernel
theorem dX2_lowestBit_23 : decode cX2_lowestBit 23 = .ok (.ireturn, 1) := by decide +kernel
theorem dX2_highestBit_0 : decode cX2_highestBit 0 = .ok (.bipush 31, 2) := by decide +kernel
theorem dX2_highestBit_2 : decode cX2_highestBit 2 = .ok (.istore_n 1, 1) := by decide +kernel
theorem dX2_highestBit_3 : decode cX2_highestBit 3 = .ok (.iload_n 1, 1) := by decide +kernel
theorem dX2_highestBit_4 : decode cX2_highestBit 4 = .ok (.ifCond .le 17, 3) := by decide +kernel
theorem dX2_highestBit_7 : decode cX2_highestBit 7 = .ok (.iload_n 0, 1) := by decide +kernel
theorem dX2_highestBit_8 : decode cX2_highestBit 8 = .ok (.iload_n 1, 1) := by decide +kernel
theorem dX2_highestBit_9 : decode cX2_highestBit 9 = .ok (.ishr, 1) := by decide +kernel
theorem dX2_highestBit_10 : decode cX2_highestBit 10 = .ok (.iconst 1, 1) := by decide +kernel
theorem dX2_highestBit_11 : decode cX2_highestBit 11 = .ok (.iand, 1) := by decide +kernel
theorem dX2_highestBit_12 : decode cX2_highestBit 12 = .ok (.ifCond .ne 9, 3) := by decide +kernel
theorem dX2_highestBit_15 : decode cX2_highestBit 15 = .ok (.iinc 1 (-1), 3) := by decide +kernel
theorem dX2_highestBit_18 : decode cX2_highestBit 18 = .ok (.goto (-15), 3) := by decide +kernel
theorem dX2_highestBit_21 : decode cX2_highestBit 21 = .ok (.iload_n 1, 1) := by decide +kernel
theorem dX2_highestBit_22 : decode cX2_highestBit 22 = .ok (.ireturn, 1) := by decide +kernel
theorem dX2_greatestDivisor_0 : decode cX2_greatestDivisor 0 = .ok (.iload_n 0, 1) := by decide +kernel
theorem dX2_greatestDivisor_1 : decode cX2_greatestDivisor 1 = .ok (.invokestatic 7, 3) := by decide +kernel
theorem dX2_greatestDivisor_4 : decode cX2_greatestDivisor 4 = .ok (.istore_n 2, 1) := by decide +kernel
theorem dX2_greatestDivisor_5 : decode cX2_greatestDivisor 5 = .ok (.iload_n 1, 1) := by decide +kernel
theorem dX2_greatestDivisor_6 : decode cX2_greatestDivisor 6 = .ok (.invokestatic 7, 3) := by decide +kernel
theorem dX2_greatestDivisor_9 : decode cX2_greatestDivisor 9 = .ok (.istore_n 3, 1) := by decide +kernel
theorem dX2_greatestDivisor_10 : decode cX2_greatestDivisor 10 = .ok (.iconst 0, 1) := by decide +kernel
theorem dX2_greatestDivisor_11 : decode cX2_greatestDivisor 11 = .ok (.istore 4, 2) := by decide +kernel
theorem dX2_greatestDivisor_13 : decode cX2_greatestDivisor 13 = .ok (.iload 4, 2) := by decide +kernel
theorem dX2_greatestDivisor_15 : decode cX2_greatestDivisor 15 = .ok (.bipush 64, 2) := by decide +kernel
theorem dX2_greatestDivisor_17 : decode cX2_greatestDivisor 17 = .ok (.if_icmp .ge 23, 3) := by decide +kernel
theorem dX2_greatestDivisor_20 : decode cX2_greatestDivisor 20 = .ok (.iload_n 3, 1) := by decide +kernel
theorem dX2_greatestDivisor_21 : decode cX2_greatestDivisor 21 = .ok (.ifCond .eq 19, 3) := by decide +kernel
theorem dX2_greatestDivisor_24 : decode cX2_greatestDivisor 24 = .ok (.iload_n 2, 1) := by decide +kernel
theorem dX2_greatestDivisor_25 : decode cX2_greatestDivisor 25 = .ok (.iload_n 3, 1) := by decide +kernel
theorem dX2_greatestDivisor_26 : decode cX2_greatestDivisor 26 = .ok (.irem, 1) := by decide +kernel
theorem dX2_greatestDivisor_27 : decode cX2_greatestDivisor 27 = .ok (.istore 5, 2) := by decide +kernel
theorem dX2_greatestDivisor_29 : decode cX2_greatestDivisor 29 = .ok (.iload_n 3, 1) := by decide +kernel
theorem dX2_greatestDivisor_30 : decode cX2_greatestDivisor 30 = .ok (.istore_n 2, 1) := by decide +kernel
theorem dX2_greatestDivisor_31 : decode cX2_greatestDivisor 31 = .ok (.iload 5, 2) := by decide +kernel
theorem dX2_greatestDivisor_33 : decode cX2_greatestDivisor 33 = .ok (.istore_n 3, 1) := by decide +kernel
theorem dX2_greatestDivisor_34 : decode cX2_greatestDivisor 34 = .ok (.iinc 4 1, 3) := by decide +kernel
theorem dX2_greatestDivisor_37 : decode cX2_greatestDivisor 37 = .ok (.goto (-24), 3) := by decide +kernel
theorem dX2_greatestDivisor_40 : decode cX2_greatestDivisor 40 = .ok (.iload_n 2, 1) := by decide +kernel
theorem dX2_greatestDivisor_41 : decode cX2_greatestDivisor 41 = .ok (.ireturn, 1) := by decide +kernel
theorem dX2_power_0 : decode cX2_power 0 = .ok (.iconst 1, 1) := by decide +kernel
theorem dX2_power_1 : decode cX2_power 1 = .ok (.istore_n 2, 1) := by decide +kernel
theorem dX2_power_2 : decode cX2_power 2 = .ok (.iconst 0, 1) := by decide +kernel
theorem dX2_power_3 : decode cX2_power 3 = .ok (.istore_n 3, 1) := by decide +kernel
theorem dX2_power_4 : decode cX2_power 4 = .ok (.iload_n 3, 1) := by decide +kernel
theorem dX2_power_5 : decode cX2_power 5 = .ok (.iload_n 1, 1) := by decide +kernel
theorem dX2_power_6 : decode cX2_power 6 = .ok (.if_icmp .ge 13, 3) := by decide +kernel
theorem dX2_power_9 : decode cX2_power 9 = .ok (.iload_n 2, 1) := by decide +kernel
theorem dX2_power_10 : decode cX2_power 10 = .ok (.iload_n 0, 1) := by decide +kernel
theorem dX2_power_11 : decode cX2_power 11 = .ok (.imul, 1) := by decide +kernel
theorem dX2_power_12 : decode cX2_power 12 = .ok (.istore_n 2, 1) := by decide +kernel
theorem dX2_power_13 : decode cX2_power 13 = .ok (.iinc 3 1, 3) := by decide +kernel
theorem dX2_power_16 : decode cX2_power 16 = .ok (.goto (-12), 3) := by decide +kernel
theorem dX2_power_19 : decode cX2_power 19 = .ok (.iload_n 2, 1) := by decide +kernel
theorem dX2_power_20 : decode cX2_power 20 = .ok (.ireturn, 1) := by decide +kernel
theorem dX3_valueOf_0 : decode cX3_valueOf 0 = .ok (.iload_n 0, 1) := by decide +kernel
theorem dX3_valueOf_1 : decode cX3_valueOf 1 = .ok (.bipush 9, 2) := by decide +kernel
theorem dX3_valueOf_3 : decode cX3_valueOf 3 = .ok (.iconst 3, 1) := by decide +kernel
theorem dX3_valueOf_4 : decode cX3_valueOf 4 = .ok (.iload_n 1, 1) := by decide +kernel
theorem dX3_valueOf_5 : decode cX3_valueOf 5 = .ok (.imul, 1) := by decide +kernel
theorem dX3_valueOf_6 : decode cX3_valueOf 6 = .ok (.isub, 1) := by decide +kernel
theorem dX3_valueOf_7 : decode cX3_valueOf 7 = .ok (.ishr, 1) := by decide +kernel
theorem dX3_valueOf_8 : decode cX3_valueOf 8 = .ok (.bipush 7, 2) := by decide +kernel
theorem dX3_valueOf_10 : decode cX3_valueOf 10 = .ok (.iand, 1) := by decide +kernel
theorem dX3_valueOf_11 : decode cX3_valueOf 11 = .ok (.ireturn, 1) := by decide +kernel
theorem dX3_withValue_0 : decode cX3_withValue 0 = .ok (.iload_n 0, 1) := by decide +kernel
theorem dX3_withValue_1 : decode cX3_withValue 1 = .ok (.iload_n 2, 1) := by decide +kernel
theorem dX3_withValue_2 : decode cX3_withValue 2 = .ok (.bipush 9, 2) := by decide +kernel
theorem dX3_withValue_4 : decode cX3_withValue 4 = .ok (.iconst 3, 1) := by decide +kernel
theorem dX3_withValue_5 : decode cX3_withValue 5 = .ok (.iload_n 1, 1) := by decide +kernel
theorem dX3_withValue_6 : decode cX3_withValue 6 = .ok (.imul, 1) := by decide +kernel
theorem dX3_withValue_7 : decode cX3_withValue 7 = .ok (.isub, 1) := by decide +kernel
theorem dX3_withValue_8 : decode cX3_withValue 8 = .ok (.ishl, 1) := by decide +kernel
theorem dX3_withValue_9 : decode cX3_withValue 9 = .ok (.ior, 1) := by decide +kernel
theorem dX3_withValue_10 : decode cX3_withValue 10 = .ok (.ireturn, 1) := by decide +kernel
theorem dX4_init_0 : decode cX4_init 0 = .ok (.aload_n 0, 1) := by decide +kernel
theorem dX4_init_1 : decode cX4_init 1 = .ok (.invokespecial 3, 3) := by decide +kernel
theorem dX4_init_4 : decode cX4_init 4 = .ok (.aload_n 0, 1) := by decide +kernel
theorem dX4_init_5 : decode cX4_init 5 = .ok (.iload_n 1, 1) := by decide +kernel
theorem dX4_init_6 : decode cX4_init 6 = .ok (.iconst 5, 1) := by decide +kernel
theorem dX4_init_7 : decode cX4_init 7 = .ok (.imul, 1) := by decide +kernel
theorem dX4_init_8 : decode cX4_init 8 = .ok (.newarray .int, 2) := by decide +kernel
theorem dX4_init_10 : decode cX4_init 10 = .ok (.putfield 11, 3) := by decide +kernel
theorem dX4_init_13 : decode cX4_init 13 = .ok (.return_, 1) := by decide +kernel
theorem dX4_cell_0 : decode cX4_cell 0 = .ok (.aload_n 0, 1) := by decide +kernel
theorem dX4_cell_1 : decode cX4_cell 1 = .ok (.getfield 11, 3) := by decide +kernel
theorem dX4_cell_4 : decode cX4_cell 4 = .ok (.iload_n 1, 1) := by decide +kernel
theorem dX4_cell_5 : decode cX4_cell 5 = .ok (.iconst 5, 1) := by decide +kernel
theorem dX4_cell_6 : decode cX4_cell 6 = .ok (.imul, 1) := by decide +kernel
theorem dX4_cell_7 : decode cX4_cell 7 = .ok (.iload_n 2, 1) := by decide +kernel
theorem dX4_cell_8 : decode cX4_cell 8 = .ok (.iadd, 1) := by decide +kernel
theorem dX4_cell_9 : decode cX4_cell 9 = .ok (.iaload, 1) := by decide +kernel
theorem dX4_cell_10 : decode cX4_cell 10 = .ok (.ireturn, 1) := by decide +kernel
set_option maxRecDepth 20000 in
theorem ggX4_putTold_X9_cell : GoodIn wsX4_putTold wsX9_cell := goodIn_r _ [7, 8, 11, 12, 13, 14, 15] (by decide +kernel) (by decide +kernel)
set_option maxRecDepth 20000 in
theorem gX4_putTold_X9_cell : GoodIn wsX4_putTold (wsV RX4 19 RX9 yX9_cell wsX9_cell) := goodIn_app (goodIn_of _ (by decide +kernel)) ggX4_putTold_X9_cell
theorem dX4_putTold_0 : decode cX4_putTold 0 = .ok (.iconst 0, 1) := by decide +kernel
theorem dX4_putTold_1 : decode cX4_putTold 1 = .ok (.istore 4, 2) := by decide +kernel
theorem dX4_putTold_3 : decode cX4_putTold 3 = .ok (.iload 4, 2) := by decide +kernel
theorem dX4_putTold_5 : decode cX4_putTold 5 = .ok (.iconst 5, 1) := by decide +kernel
theorem dX4_putTold_6 : decode cX4_putTold 6 = .ok (.if_icmp .ge 32, 3) := by decide +kernel
theorem dX4_putTold_9 : decode cX4_putTold 9 = .ok (.aload_n 0, 1) := by decide +kernel
theorem dX4_putTold_10 : decode cX4_putTold 10 = .ok (.getfield 11, 3) := by decide +kernel
theorem dX4_putTold_13 : decode cX4_putTold 13 = .ok (.aload_n 0, 1) := by decide +kernel
theorem dX4_putTold_14 : decode cX4_putTold 14 = .ok (.getfield 15, 3) := by decide +kernel
theorem dX4_putTold_17 : decode cX4_putTold 17 = .ok (.iconst 5, 1) := by decide +kernel
theorem dX4_putTold_18 : decode cX4_putTold 18 = .ok (.imul, 1) := by decide +kernel
theorem dX4_putTold_19 : decode cX4_putTold 19 = .ok (.iload 4, 2) := by decide +kernel
theorem dX4_putTold_21 : decode cX4_putTold 21 = .ok (.iadd, 1) := by decide +kernel
theorem dX4_putTold_22 : decode cX4_putTold 22 = .ok (.iload_n 3, 1) := by decide +kernel
theorem dX4_putTold_23 : decode cX4_putTold 23 = .ok (.aload_n 1, 1) := by decide +kernel
theorem dX4_putTold_24 : decode cX4_putTold 24 = .ok (.iload_n 2, 1) := by decide +kernel
theorem dX4_putTold_25 : decode cX4_putTold 25 = .ok (.iload 4, 2) := by decide +kernel
theorem dX4_putTold_27 : decode cX4_putTold 27 = .ok (.invokevirtual 19, 3) := by decide +kernel
theorem dX4_putTold_30 : decode cX4_putTold 30 = .ok (.imul, 1) := by decide +kernel
theorem dX4_putTold_31 : decode cX4_putTold 31 = .ok (.iastore, 1) := by decide +kernel
theorem dX4_putTold_32 : decode cX4_putTold 32 = .ok (.iinc 4 1, 3) := by decide +kernel
theorem dX4_putTold_35 : decode cX4_putTold 35 = .ok (.goto (-32), 3) := by decide +kernel
theorem dX4_putTold_38 : decode cX4_putTold 38 = .ok (.aload_n 0, 1) := by decide +kernel
theorem dX4_putTold_39 : decode cX4_putTold 39 = .ok (.dup, 1) := by decide +kernel
theorem dX4_putTold_40 : decode cX4_putTold 40 = .ok (.getfield 15, 3) := by decide +kernel
theorem dX4_putTold_43 : decode cX4_putTold 43 = .ok (.iconst 1, 1) := by decide +kernel
theorem dX4_putTold_44 : decode cX4_putTold 44 = .ok (.iadd, 1) := by decide +kernel
theorem dX4_putTold_45 : decode cX4_putTold 45 = .ok (.putfield 15, 3) := by decide +kernel
theorem dX4_putTold_48 : decode cX4_putTold 48 = .ok (.return_, 1) := by decide +kernel
theorem dX4_putBound_0 : decode cX4_putBound 0 = .ok (.iconst 0, 1) := by decide +kernel
theorem dX4_putBound_1 : decode cX4_putBound 1 = .ok (.istore 4, 2) := by decide +kernel
theorem dX4_putBound_3 : decode cX4_putBound 3 = .ok (.iload 4, 2) := by decide +kernel
theorem dX4_putBound_5 : decode cX4_putBound 5 = .ok (.iconst 4, 1) := by decide +kernel
theorem dX4_putBound_6 : decode cX4_putBound 6 = .ok (.if_icmp .ge 34, 3) := by decide +kernel
theorem dX4_putBound_9 : decode cX4_putBound 9 = .ok (.aload_n 0, 1) := by decide +kernel
theorem dX4_putBound_10 : decode cX4_putBound 10 = .ok (.getfield 11, 3) := by decide +kernel
theorem dX4_putBound_13 : decode cX4_putBound 13 = .ok (.aload_n 0, 1) := by decide +kernel
theorem dX4_putBound_14 : decode cX4_putBound 14 = .ok (.getfield 15, 3) := by decide +kernel
theorem dX4_putBound_17 : decode cX4_putBound 17 = .ok (.iconst 5, 1) := by decide +kernel
theorem dX4_putBound_18 : decode cX4_putBound 18 = .ok (.imul, 1) := by decide +kernel
theorem dX4_putBound_19 : decode cX4_putBound 19 = .ok (.iload 4, 2) := by decide +kernel
theorem dX4_putBound_21 : decode cX4_putBound 21 = .ok (.iadd, 1) := by decide +kernel
theorem dX4_putBound_22 : decode cX4_putBound 22 = .ok (.iload 4, 2) := by decide +kernel
theorem dX4_putBound_24 : decode cX4_putBound 24 = .ok (.iload_n 1, 1) := by decide +kernel
theorem dX4_putBound_25 : decode cX4_putBound 25 = .ok (.if_icmp .ne 7, 3) := by decide +kernel
theorem dX4_putBound_28 : decode cX4_putBound 28 = .ok (.iload_n 2, 1) := by decide +kernel
theorem dX4_putBound_29 : decode cX4_putBound 29 = .ok (.goto 4, 3) := by decide +kernel
theorem dX4_putBound_32 : decode cX4_putBound 32 = .ok (.iconst 0, 1) := by decide +kernel
theorem dX4_putBound_33 : decode cX4_putBound 33 = .ok (.iastore, 1) := by decide +kernel
theorem dX4_putBound_34 : decode cX4_putBound 34 = .ok (.iinc 4 1, 3) := by decide +kernel
theorem dX4_putBound_37 : decode cX4_putBound 37 = .ok (.goto (-34), 3) := by decide +kernel
theorem dX4_putBound_40 : decode cX4_putBound 40 = .ok (.aload_n 0, 1) := by decide +kernel
theorem dX4_putBound_41 : decode cX4_putBound 41 = .ok (.getfield 11, 3) := by decide +kernel
theorem dX4_putBound_44 : decode cX4_putBound 44 = .ok (.aload_n 0, 1) := by decide +kernel
theorem dX4_putBound_45 : decode cX4_putBound 45 = .ok (.getfield 15, 3) := by decide +kernel
theorem dX4_putBound_48 : decode cX4_putBound 48 = .ok (.iconst 5, 1) := by decide +kernel
theorem dX4_putBound_49 : decode cX4_putBound 49 = .ok (.imul, 1) := by decide +kernel
theorem dX4_putBound_50 : decode cX4_putBound 50 = .ok (.iconst 4, 1) := by decide +kernel
theorem dX4_putBound_51 : decode cX4_putBound 51 = .ok (.iadd, 1) := by decide +kernel
theorem dX4_putBound_52 : decode cX4_putBound 52 = .ok (.iload_n 3, 1) := by decide +kernel
theorem dX4_putBound_53 : decode cX4_putBound 53 = .ok (.iastore, 1) := by decide +kernel
theorem dX4_putBound_54 : decode cX4_putBound 54 = .ok (.aload_n 0, 1) := by decide +kernel
theorem dX4_putBound_55 : decode cX4_putBound 55 = .ok (.dup, 1) := by decide +kernel
theorem dX4_putBound_56 : decode cX4_putBound 56 = .ok (.getfield 15, 3) := by decide +kernel
theorem dX4_putBound_59 : decode cX4_putBound 59 = .ok (.iconst 1, 1) := by decide +kernel
theorem dX4_putBound_60 : decode cX4_putBound 60 = .ok (.iadd, 1) := by decide +kernel
theorem dX4_putBound_61 : decode cX4_putBound 61 = .ok (.putfield 15, 3) := by decide +kernel
theorem dX4_putBound_64 : decode cX4_putBound 64 = .ok (.return_, 1) := by decide +kernel
set_option maxRecDepth 20000 in
theorem ggX4_putAlike_X4_cell : GoodIn wsX4_putAlike wsX4_cell := goodIn_r _ [7, 1, 24, 25] (by decide +kernel) (by decide +kernel)
set_option maxRecDepth 20000 in
theorem gX4_putAlike_X4_cell : GoodIn wsX4_putAlike (wsV RX4 25 RX4 yX4_cell wsX4_cell) := goodIn_app (goodIn_of _ (by decide +kernel)) ggX4_putAlike_X4_cell
set_option maxRecDepth 20000 in
theorem ggX4_putAlike_X4_reduceLast : GoodIn wsX4_putAlike wsX4_reduceLast := goodIn_r _ [11, 2, 1, 12, 13, 14, 15, 16, 17, 18, 19, 20, 21, 22, 23, 24, 25] (by decide +kernel) (by decide +kernel)
set_option maxRecDepth 20000 in
theorem gX4_putAlike_X4_reduceLast : GoodIn wsX4_putAlike (wsV RX4 26 RX4 yX4_reduceLast wsX4_reduceLast) := goodIn_app (goodIn_of _ (by decide +kernel)) ggX4_putAlike_X4_reduceLast
theorem dX4_putAlike_0 : decode cX4_putAlike 0 = .ok (.iconst 0, 1) := by decide +kernel
theorem dX4_putAlike_1 : decode cX4_putAlike 1 = .ok (.istore_n 3, 1) := by decide +kernel
theorem dX4_putAlike_2 : decode cX4_putAlike 2 = .ok (.iload_n 3, 1) := by decide +kernel
theorem dX4_putAlike_3 : decode cX4_putAlike 3 = .ok (.iconst 5, 1) := by decide +kernel
theorem dX4_putAlike_4 : decode cX4_putAlike 4 = .ok (.if_icmp .ge 28, 3) := by decide +kernel
theorem dX4_putAlike_7 : decode cX4_putAlike 7 = .ok (.aload_n 0, 1) := by decide +kernel
theorem dX4_putAlike_8 : decode cX4_putAlike 8 = .ok (.getfield 11, 3) := by decide +kernel
theorem dX4_putAlike_11 : decode cX4_putAlike 11 = .ok (.aload_n 0, 1) := by decide +kernel
theorem dX4_putAlike_12 : decode cX4_putAlike 12 = .ok (.getfield 15, 3) := by decide +kernel
theorem dX4_putAlike_15 : decode cX4_putAlike 15 = .ok (.iconst 5, 1) := by decide +kernel
theorem dX4_putAlike_16 : decode cX4_putAlike 16 = .ok (.imul, 1) := by decide +kernel
theorem dX4_putAlike_17 : decode cX4_putAlike 17 = .ok (.iload_n 3, 1) := by decide +kernel
theorem dX4_putAlike_18 : decode cX4_putAlike 18 = .ok (.iadd, 1) := by decide +kernel
theorem dX4_putAlike_19 : decode cX4_putAlike 19 = .ok (.aload_n 1, 1) := by decide +kernel
theorem dX4_putAlike_20 : decode cX4_putAlike 20 = .ok (.iload_n 2, 1) := by decide +kernel
theorem dX4_putAlike_21 : decode cX4_putAlike 21 = .ok (.iload_n 3, 1) := by decide +kernel
theorem dX4_putAlike_22 : decode cX4_putAlike 22 = .ok (.invokevirtual 25, 3) := by decide +kernel
theorem dX4_putAlike_25 : decode cX4_putAlike 25 = .ok (.iastore, 1) := by decide +kernel
theorem dX4_putAlike_26 : decode cX4_putAlike 26 = .ok (.iinc 3 1, 3) := by decide +kernel
theorem dX4_putAlike_29 : decode cX4_putAlike 29 = .ok (.goto (-27), 3) := by decide +kernel
theorem dX4_putAlike_32 : decode cX4_putAlike 32 = .ok (.aload_n 0, 1) := by decide +kernel
theorem dX4_putAlike_33 : decode cX4_putAlike 33 = .ok (.dup, 1) := by decide +kernel
theorem dX4_putAlike_34 : decode cX4_putAlike 34 = .ok (.getfield 15, 3) := by decide +kernel
theorem dX4_putAlike_37 : decode cX4_putAlike 37 = .ok (.iconst 1, 1) := by decide +kernel
theorem dX4_putAlike_38 : decode cX4_putAlike 38 = .ok (.iadd, 1) := by decide +kernel
theorem dX4_putAlike_39 : decode cX4_putAlike 39 = .ok (.putfield 15, 3) := by decide +kernel
theorem dX4_putAlike_42 : decode cX4_putAlike 42 = .ok (.aload_n 0, 1) := by decide +kernel
theorem dX4_putAlike_43 : decode cX4_putAlike 43 = .ok (.invokevirtual 26, 3) := by decide +kernel
theorem dX4_putAlike_46 : decode cX4_putAlike 46 = .ok (.return_, 1) := by decide +kernel
set_option maxRecDepth 20000 in
theorem ggX4_putPair_X4_cell : GoodIn wsX4_putPair wsX4_cell := goodIn_r _ [7, 1, 24, 25] (by decide +kernel) (by decide +kernel)
set_option maxRecDepth 20000 in
theorem gX4_putPair_X4_cell : GoodIn wsX4_putPair (wsV RX4 25 RX4 yX4_cell wsX4_cell) := goodIn_app (goodIn_of _ (by decide +kernel)) ggX4_putPair_X4_cell
set_option maxRecDepth 20000 in
theorem ggX4_putPair_X4_reduceLast : GoodIn wsX4_putPair wsX4_reduceLast := goodIn_r _ [11, 2, 1, 12, 13, 14, 15, 16, 17, 18, 19, 20, 21, 22, 23, 24, 25] (by decide +kernel) (by decide +kernel)
set_option maxRecDepth 20000 in
theorem gX4_putPair_X4_reduceLast : GoodIn wsX4_putPair (wsV RX4 26 RX4 yX4_reduceLast wsX4_reduceLast) := goodIn_app (goodIn_of _ (by decide +kernel)) ggX4_putPair_X4_reduceLast
theorem dX4_putPair_0 : decode cX4_putPair 0 = .ok (.aload_n 1, 1) := by decide +kernel
theorem dX4_putPair_1 : decode cX4_putPair 1 = .ok (.iload_n 2, 1) := by decide +kernel
theorem dX4_putPair_2 : decode cX4_putPair 2 = .ok (.iload 4, 2) := by decide +kernel
theorem dX4_putPair_4 : decode cX4_putPair 4 = .ok (.invokevirtual 25, 3) := by decide +kernel
theorem dX4_putPair_7 : decode cX4_putPair 7 = .ok (.istore 6, 2) := by decide +kernel
theorem dX4_putPair_9 : decode cX4_putPair 9 = .ok (.aload_n 1, 1) := by decide +kernel
theorem dX4_putPair_10 : decode cX4_putPair 10 = .ok (.iload_n 3, 1) := by decide +kernel
theorem dX4_putPair_11 : decode cX4_putPair 11 = .ok (.iload 4, 2) := by decide +kernel
theorem dX4_putPair_13 : decode cX4_putPair 13 = .ok (.invokevirtual 25, 3) := by decide +kernel
theorem dX4_putPair_16 : decode cX4_putPair 16 = .ok (.ineg, 1) := by decide +kernel
theorem dX4_putPair_17 : decode cX4_putPair 17 = .ok (.istore 7, 2) := by decide +kernel
theorem dX4_putPair_19 : decode cX4_putPair 19 = .ok (.iconst 0, 1) := by decide +kernel
theorem dX4_putPair_20 : decode cX4_putPair 20 = .ok (.istore 8, 2) := by decide +kernel
theorem dX4_putPair_22 : decode cX4_putPair 22 = .ok (.iload 8, 2) := by decide +kernel
theorem dX4_putPair_24 : decode cX4_putPair 24 = .ok (.iconst 5, 1) := by decide +kernel
theorem dX4_putPair_25 : decode cX4_putPair 25 = .ok (.if_icmp .ge 44, 3) := by decide +kernel
theorem dX4_putPair_28 : decode cX4_putPair 28 = .ok (.aload_n 0, 1) := by decide +kernel
theorem dX4_putPair_29 : decode cX4_putPair 29 = .ok (.getfield 11, 3) := by decide +kernel
theorem dX4_putPair_32 : decode cX4_putPair 32 = .ok (.aload_n 0, 1) := by decide +kernel
theorem dX4_putPair_33 : decode cX4_putPair 33 = .ok (.getfield 15, 3) := by decide +kernel
theorem dX4_putPair_36 : decode cX4_putPair 36 = .ok (.iconst 5, 1) := by decide +kernel
theorem dX4_putPair_37 : decode cX4_putPair 37 = .ok (.imul, 1) := by decide +kernel
theorem dX4_putPair_38 : decode cX4_putPair 38 = .ok (.iload 8, 2) := by decide +kernel
theorem dX4_putPair_40 : decode cX4_putPair 40 = .ok (.iadd, 1) := by decide +kernel
theorem dX4_putPair_41 : decode cX4_putPair 41 = .ok (.aload_n 1, 1) := by decide +kernel
theorem dX4_putPair_42 : decode cX4_putPair 42 = .ok (.iload_n 2, 1) := by decide +kernel
theorem dX4_putPair_43 : decode cX4_putPair 43 = .ok (.iload 8, 2) := by decide +kernel
theorem dX4_putPair_45 : decode cX4_putPair 45 = .ok (.invokevirtual 25, 3) := by decide +kernel
theorem dX4_putPair_48 : decode cX4_putPair 48 = .ok (.iload 7, 2) := by decide +kernel
theorem dX4_putPair_50 : decode cX4_putPair 50 = .ok (.imul, 1) := by decide +kernel
theorem dX4_putPair_51 : decode cX4_putPair 51 = .ok (.aload_n 1, 1) := by decide +kernel
theorem dX4_putPair_52 : decode cX4_putPair 52 = .ok (.iload_n 3, 1) := by decide +kernel
theorem dX4_putPair_53 : decode cX4_putPair 53 = .ok (.iload 8, 2) := by decide +kernel
theorem dX4_putPair_55 : decode cX4_putPair 55 = .ok (.invokevirtual 25, 3) := by decide +kernel
theorem dX4_putPair_58 : decode cX4_putPair 58 = .ok (.iload 6, 2) := by decide +kernel
theorem dX4_putPair_60 : decode cX4_putPair 60 = .ok (.imul, 1) := by decide +kernel
theorem dX4_putPair_61 : decode cX4_putPair 61 = .ok (.iadd, 1) := by decide +kernel
theorem dX4_putPair_62 : decode cX4_putPair 62 = .ok (.iastore, 1) := by decide +kernel
theorem dX4_putPair_63 : decode cX4_putPair 63 = .ok (.iinc 8 1, 3) := by decide +kernel
theorem dX4_putPair_66 : decode cX4_putPair 66 = .ok (.goto (-44), 3) := by decide +kernel
theorem dX4_putPair_69 : decode cX4_putPair 69 = .ok (.aload_n 0, 1) := by decide +kernel
theorem dX4_putPair_70 : decode cX4_putPair 70 = .ok (.getfield 11, 3) := by decide +kernel
theorem dX4_putPair_73 : decode cX4_putPair 73 = .ok (.aload_n 0, 1) := by decide +kernel
theorem dX4_putPair_74 : decode cX4_putPair 74 = .ok (.getfield 15, 3) := by decide +kernel
theorem dX4_putPair_77 : decode cX4_putPair 77 = .ok (.iconst 5, 1) := by decide +kernel
theorem dX4_putPair_78 : decode cX4_putPair 78 = .ok (.imul, 1) := by decide +kernel
theorem dX4_putPair_79 : decode cX4_putPair 79 = .ok (.iconst 4, 1) := by decide +kernel
theorem dX4_putPair_80 : decode cX4_putPair 80 = .ok (.iadd, 1) := by decide +kernel
theorem dX4_putPair_81 : decode cX4_putPair 81 = .ok (.dup2, 1) := by decide +kernel
theorem dX4_putPair_82 : decode cX4_putPair 82 = .ok (.iaload, 1) := by decide +kernel
theorem dX4_putPair_83 : decode cX4_putPair 83 = .ok (.iload 5, 2) := by decide +kernel
theorem dX4_putPair_85 : decode cX4_putPair 85 = .ok (.ifCond .eq 15, 3) := by decide +kernel
theorem dX4_putPair_88 : decode cX4_putPair 88 = .ok (.iload 6, 2) := by decide +kernel
theorem dX4_putPair_90 : decode cX4_putPair 90 = .ok (.iconst 1, 1) := by decide +kernel
theorem dX4_putPair_91 : decode cX4_putPair 91 = .ok (.isub, 1) := by decide +kernel
theorem dX4_putPair_92 : decode cX4_putPair 92 = .ok (.iload 7, 2) := by decide +kernel
theorem dX4_putPair_94 : decode cX4_putPair 94 = .ok (.iconst 1, 1) := by decide +kernel
theorem dX4_putPair_95 : decode cX4_putPair 95 = .ok (.isub, 1) := by decide +kernel
theorem dX4_putPair_96 : decode cX4_putPair 96 = .ok (.imul, 1) := by decide +kernel
theorem dX4_putPair_97 : decode cX4_putPair 97 = .ok (.goto 4, 3) := by decide +kernel
theorem dX4_putPair_100 : decode cX4_putPair 100 = .ok (.iconst 0, 1) := by decide +kernel
theorem dX4_putPair_101 : decode cX4_putPair 101 = .ok (.isub, 1) := by decide +kernel
theorem dX4_putPair_102 : decode cX4_putPair 102 = .ok (.iastore, 1) := by decide +kernel
theorem dX4_putPair_103 : decode cX4_putPair 103 = .ok (.aload_n 0, 1) := by decide +kernel
theorem dX4_putPair_104 : decode cX4_putPair 104 = .ok (.dup, 1) := by decide +kernel
theorem dX4_putPair_105 : decode cX4_putPair 105 = .ok (.getfield 15, 3) := by decide +kernel
theorem dX4_putPair_108 : decode cX4_putPair 108 = .ok (.iconst 1, 1) := by decide +kernel
theorem dX4_putPair_109 : decode cX4_putPair 109 = .ok (.iadd, 1) := by decide +kernel
theorem dX4_putPair_110 : decode cX4_putPair 110 = .ok (.putfield 15, 3) := by decide +kernel
theorem dX4_putPair_113 : decode cX4_putPair 113 = .ok (.aload_n 0, 1) := by decide +kernel
theorem dX4_putPair_114 : decode cX4_putPair 114 = .ok (.invokevirtual 26, 3) := by decide +kernel
theorem dX4_putPair_117 : decode cX4_putPair 117 = .ok (.return_, 1) := by decide +kernel
set_option maxRecDepth 20000 in
theorem ggX4_reduceLast_X2_greatestDivisor : GoodIn wsX4_reduceLast wsX2_greatestDivisor := goodIn_r _ [6, 7, 8, 9, 10] (by decide +kernel) (by decide +kernel)
set_option maxRecDepth 20000 in
theorem gX4_reduceLast_X2_greatestDivisor : GoodIn wsX4_reduceLast (va_wsS RX4 29 yX2_greatestDivisor wsX2_greatestDivisor) := goodIn_app (goodIn_of _ (by decide +kernel)) ggX4_reduceLast_X2_greatestDivisor
set_option maxRecDepth 20000 in
theorem ggX4_reduceLast_J9_floorDiv_7cf53 : GoodIn wsX4_reduceLast wsJ9_floorDiv_7cf53 := goodIn_r _ [14] (by decide +kernel) (by decide +kernel)
set_option maxRecDepth 20000 in
theorem gX4_reduceLast_J9_floorDiv_7cf53 : GoodIn wsX4_reduceLast (va_wsS RX4 34 yJ9_floorDiv_7cf53 wsJ9_floorDiv_7cf53) := goodIn_app (goodIn_of _ (by decide +kernel)) ggX4_reduceLast_J9_floorDiv_7cf53
theorem dX4_reduceLast_0 : decode cX4_reduceLast 0 = .ok (.aload_n 0, 1) := by decide +kernel
theorem dX4_reduceLast_1 : decode cX4_reduceLast 1 = .ok (.getfield 15, 3) := by decide +kernel
theorem dX4_reduceLast_4 : decode cX4_reduceLast 4 = .ok (.iconst 1, 1) := by decide +kernel
theorem dX4_reduceLast_5 : decode cX4_reduceLast 5 = .ok (.isub, 1) := by decide +kernel
theorem dX4_reduceLast_6 : decode cX4_reduceLast 6 = .ok (.iconst 5, 1) := by decide +kernel
theorem dX4_reduceLast_7 : decode cX4_reduceLast 7 = .ok (.imul, 1) := by decide +kernel
theorem dX4_reduceLast_8 : decode cX4_reduceLast 8 = .ok (.istore_n 1, 1) := by decide +kernel
theorem dX4_reduceLast_9 : decode cX4_reduceLast 9 = .ok (.iconst 0, 1) := by decide +kernel
theorem dX4_reduceLast_10 : decode cX4_reduceLast 10 = .ok (.istore_n 2, 1) := by decide +kernel
theorem dX4_reduceLast_11 : decode cX4_reduceLast 11 = .ok (.iconst 0, 1) := by decide +kernel
theorem dX4_reduceLast_12 : decode cX4_reduceLast 12 = .ok (.istore_n 3, 1) := by decide +kernel
theorem dX4_reduceLast_13 : decode cX4_reduceLast 13 = .ok (.iload_n 3, 1) := by decide +kernel
theorem dX4_reduceLast_14 : decode cX4_reduceLast 14 = .ok (.iconst 4, 1) := by decide +kernel
theorem dX4_reduceLast_15 : decode cX4_reduceLast 15 = .ok (.if_icmp .ge 22, 3) := by decide +kernel
theorem dX4_reduceLast_18 : decode cX4_reduceLast 18 = .ok (.iload_n 2, 1) := by decide +kernel
theorem dX4_reduceLast_19 : decode cX4_reduceLast 19 = .ok (.aload_n 0, 1) := by decide +kernel
theorem dX4_reduceLast_20 : decode cX4_reduceLast 20 = .ok (.getfield 11, 3) := by decide +kernel
theorem dX4_reduceLast_23 : decode cX4_reduceLast 23 = .ok (.iload_n 1, 1) := by decide +kernel
theorem dX4_reduceLast_24 : decode cX4_reduceLast 24 = .ok (.iload_n 3, 1) := by decide +kernel
theorem dX4_reduceLast_25 : decode cX4_reduceLast 25 = .ok (.iadd, 1) := by decide +kernel
theorem dX4_reduceLast_26 : decode cX4_reduceLast 26 = .ok (.iaload, 1) := by decide +kernel
theorem dX4_reduceLast_27 : decode cX4_reduceLast 27 = .ok (.invokestatic 29, 3) := by decide +kernel
theorem dX4_reduceLast_30 : decode cX4_reduceLast 30 = .ok (.istore_n 2, 1) := by decide +kernel
theorem dX4_reduceLast_31 : decode cX4_reduceLast 31 = .ok (.iinc 3 1, 3) := by decide +kernel
theorem dX4_reduceLast_34 : decode cX4_reduceLast 34 = .ok (.goto (-21), 3) := by decide +kernel
theorem dX4_reduceLast_37 : decode cX4_reduceLast 37 = .ok (.iload_n 2, 1) := by decide +kernel
theorem dX4_reduceLast_38 : decode cX4_reduceLast 38 = .ok (.iconst 1, 1) := by decide +kernel
theorem dX4_reduceLast_39 : decode cX4_reduceLast 39 = .ok (.if_icmp .le 36, 3) := by decide +kernel
theorem dX4_reduceLast_42 : decode cX4_reduceLast 42 = .ok (.iconst 0, 1) := by decide +kernel
theorem dX4_reduceLast_43 : decode cX4_reduceLast 43 = .ok (.istore_n 3, 1) := by decide +kernel
theorem dX4_reduceLast_44 : decode cX4_reduceLast 44 = .ok (.iload_n 3, 1) := by decide +kernel
theorem dX4_reduceLast_45 : decode cX4_reduceLast 45 = .ok (.iconst 5, 1) := by decide +kernel
theorem dX4_reduceLast_46 : decode cX4_reduceLast 46 = .ok (.if_icmp .ge 29, 3) := by decide +kernel
theorem dX4_reduceLast_49 : decode cX4_reduceLast 49 = .ok (.aload_n 0, 1) := by decide +kernel
theorem dX4_reduceLast_50 : decode cX4_reduceLast 50 = .ok (.getfield 11, 3) := by decide +kernel
theorem dX4_reduceLast_53 : decode cX4_reduceLast 53 = .ok (.iload_n 1, 1) := by decide +kernel
theorem dX4_reduceLast_54 : decode cX4_reduceLast 54 = .ok (.iload_n 3, 1) := by decide +kernel
theorem dX4_reduceLast_55 : decode cX4_reduceLast 55 = .ok (.iadd, 1) := by decide +kernel
theorem dX4_reduceLast_56 : decode cX4_reduceLast 56 = .ok (.aload_n 0, 1) := by decide +kernel
theorem dX4_reduceLast_57 : decode cX4_reduceLast 57 = .ok (.getfield 11, 3) := by decide +kernel
theorem dX4_reduceLast_60 : decode cX4_reduceLast 60 = .ok (.iload_n 1, 1) := by decide +kernel
theorem dX4_reduceLast_61 : decode cX4_reduceLast 61 = .ok (.iload_n 3, 1) := by decide +kernel
theorem dX4_reduceLast_62 : decode cX4_reduceLast 62 = .ok (.iadd, 1) := by decide +kernel
theorem dX4_reduceLast_63 : decode cX4_reduceLast 63 = .ok (.iaload, 1) := by decide +kernel
theorem dX4_reduceLast_64 : decode cX4_reduceLast 64 = .ok (.iload_n 2, 1) := by decide +kernel
theorem dX4_reduceLast_65 : decode cX4_reduceLast 65 = .ok (.invokestatic 34, 3) := by decide +kernel
theorem dX4_reduceLast_68 : decode cX4_reduceLast 68 = .ok (.iastore, 1) := by decide +kernel
theorem dX4_reduceLast_69 : decode cX4_reduceLast 69 = .ok (.iinc 3 1, 3) := by decide +kernel
theorem dX4_reduceLast_72 : decode cX4_reduceLast 72 = .ok (.goto (-28), 3) := by decide +kernel
theorem dX4_reduceLast_75 : decode cX4_reduceLast 75 = .ok (.return_, 1) := by decide +kernel
set_option maxRecDepth 20000 in
theorem ggX4_areFulfilled_X3_valueOf : GoodIn wsX4_areFulfilled wsX3_valueOf := goodIn_r _ [6] (by decide +kernel) (by decide +kernel)
set_option maxRecDepth 20000 in
theorem gX4_areFulfilled_X3_valueOf : GoodIn wsX4_areFulfilled (va_wsS RX4 39 yX3_valueOf wsX3_valueOf) := goodIn_app (goodIn_of _ (by decide +kernel)) ggX4_areFulfilled_X3_valueOf
theorem dX4_areFulfilled_0 : decode cX4_areFulfilled 0 = .ok (.iload_n 1, 1) := by decide +kernel
theorem dX4_areFulfilled_1 : decode cX4_areFulfilled 1 = .ok (.iconst 0, 1) := by decide +kernel
theorem dX4_areFulfilled_2 : decode cX4_areFulfilled 2 = .ok (.invokestatic 39, 3) := by decide +kernel
theorem dX4_areFulfilled_5 : decode cX4_areFulfilled 5 = .ok (.istore_n 2, 1) := by decide +kernel
theorem dX4_areFulfilled_6 : decode cX4_areFulfilled 6 = .ok (.iload_n 1, 1) := by decide +kernel
theorem dX4_areFulfilled_7 : decode cX4_areFulfilled 7 = .ok (.iconst 1, 1) := by decide +kernel
theorem dX4_areFulfilled_8 : decode cX4_areFulfilled 8 = .ok (.invokestatic 39, 3) := by decide +kernel
theorem dX4_areFulfilled_11 : decode cX4_areFulfilled 11 = .ok (.istore_n 3, 1) := by decide +kernel
theorem dX4_areFulfilled_12 : decode cX4_areFulfilled 12 = .ok (.iload_n 1, 1) := by decide +kernel
theorem dX4_areFulfilled_13 : decode cX4_areFulfilled 13 = .ok (.iconst 2, 1) := by decide +kernel
theorem dX4_areFulfilled_14 : decode cX4_areFulfilled 14 = .ok (.invokestatic 39, 3) := by decide +kernel
theorem dX4_areFulfilled_17 : decode cX4_areFulfilled 17 = .ok (.istore 4, 2) := by decide +kernel
theorem dX4_areFulfilled_19 : decode cX4_areFulfilled 19 = .ok (.iload_n 1, 1) := by decide +kernel
theorem dX4_areFulfilled_20 : decode cX4_areFulfilled 20 = .ok (.iconst 3, 1) := by decide +kernel
theorem dX4_areFulfilled_21 : decode cX4_areFulfilled 21 = .ok (.invokestatic 39, 3) := by decide +kernel
theorem dX4_areFulfilled_24 : decode cX4_areFulfilled 24 = .ok (.istore 5, 2) := by decide +kernel
theorem dX4_areFulfilled_26 : decode cX4_areFulfilled 26 = .ok (.iconst 0, 1) := by decide +kernel
theorem dX4_areFulfilled_27 : decode cX4_areFulfilled 27 = .ok (.istore 6, 2) := by decide +kernel
theorem dX4_areFulfilled_29 : decode cX4_areFulfilled 29 = .ok (.iload 6, 2) := by decide +kernel
theorem dX4_areFulfilled_31 : decode cX4_areFulfilled 31 = .ok (.aload_n 0, 1) := by decide +kernel
theorem dX4_areFulfilled_32 : decode cX4_areFulfilled 32 = .ok (.getfield 15, 3) := by decide +kernel
theorem dX4_areFulfilled_35 : decode cX4_areFulfilled 35 = .ok (.iconst 5, 1) := by decide +kernel
theorem dX4_areFulfilled_36 : decode cX4_areFulfilled 36 = .ok (.imul, 1) := by decide +kernel
theorem dX4_areFulfilled_37 : decode cX4_areFulfilled 37 = .ok (.if_icmp .ge 71, 3) := by decide +kernel
theorem dX4_areFulfilled_40 : decode cX4_areFulfilled 40 = .ok (.aload_n 0, 1) := by decide +kernel
theorem dX4_areFulfilled_41 : decode cX4_areFulfilled 41 = .ok (.getfield 11, 3) := by decide +kernel
theorem dX4_areFulfilled_44 : decode cX4_areFulfilled 44 = .ok (.iload 6, 2) := by decide +kernel
theorem dX4_areFulfilled_46 : decode cX4_areFulfilled 46 = .ok (.iaload, 1) := by decide +kernel
theorem dX4_areFulfilled_47 : decode cX4_areFulfilled 47 = .ok (.iload_n 2, 1) := by decide +kernel
theorem dX4_areFulfilled_48 : decode cX4_areFulfilled 48 = .ok (.imul, 1) := by decide +kernel
theorem dX4_areFulfilled_49 : decode cX4_areFulfilled 49 = .ok (.aload_n 0, 1) := by decide +kernel
theorem dX4_areFulfilled_50 : decode cX4_areFulfilled 50 = .ok (.getfield 11, 3) := by decide +kernel
theorem dX4_areFulfilled_53 : decode cX4_areFulfilled 53 = .ok (.iload 6, 2) := by decide +kernel
theorem dX4_areFulfilled_55 : decode cX4_areFulfilled 55 = .ok (.iconst 1, 1) := by decide +kernel
theorem dX4_areFulfilled_56 : decode cX4_areFulfilled 56 = .ok (.iadd, 1) := by decide +kernel
theorem dX4_areFulfilled_57 : decode cX4_areFulfilled 57 = .ok (.iaload, 1) := by decide +kernel
theorem dX4_areFulfilled_58 : decode cX4_areFulfilled 58 = .ok (.iload_n 3, 1) := by decide +kernel
theorem dX4_areFulfilled_59 : decode cX4_areFulfilled 59 = .ok (.imul, 1) := by decide +kernel
theorem dX4_areFulfilled_60 : decode cX4_areFulfilled 60 = .ok (.iadd, 1) := by decide +kernel
theorem dX4_areFulfilled_61 : decode cX4_areFulfilled 61 = .ok (.aload_n 0, 1) := by decide +kernel
theorem dX4_areFulfilled_62 : decode cX4_areFulfilled 62 = .ok (.getfield 11, 3) := by decide +kernel
theorem dX4_areFulfilled_65 : decode cX4_areFulfilled 65 = .ok (.iload 6, 2) := by decide +kernel
theorem dX4_areFulfilled_67 : decode cX4_areFulfilled 67 = .ok (.iconst 2, 1) := by decide +kernel
theorem dX4_areFulfilled_68 : decode cX4_areFulfilled 68 = .ok (.iadd, 1) := by decide +kernel
theorem dX4_areFulfilled_69 : decode cX4_areFulfilled 69 = .ok (.iaload, 1) := by decide +kernel
theorem dX4_areFulfilled_70 : decode cX4_areFulfilled 70 = .ok (.iload 4, 2) := by decide +kernel
theorem dX4_areFulfilled_72 : decode cX4_areFulfilled 72 = .ok (.imul, 1) := by decide +kernel
theorem dX4_areFulfilled_73 : decode cX4_areFulfilled 73 = .ok (.iadd, 1) := by decide +kernel
theorem dX4_areFulfilled_74 : decode cX4_areFulfilled 74 = .ok (.aload_n 0, 1) := by decide +kernel
theorem dX4_areFulfilled_75 : decode cX4_areFulfilled 75 = .ok (.getfield 11, 3) := by decide +kernel
theorem dX4_areFulfilled_78 : decode cX4_areFulfilled 78 = .ok (.iload 6, 2) := by decide +kernel
theorem dX4_areFulfilled_80 : decode cX4_areFulfilled 80 = .ok (.iconst 3, 1) := by decide +kernel
theorem dX4_areFulfilled_81 : decode cX4_areFulfilled 81 = .ok (.iadd, 1) := by decide +kernel
theorem dX4_areFulfilled_82 : decode cX4_areFulfilled 82 = .ok (.iaload, 1) := by decide +kernel
theorem dX4_areFulfilled_83 : decode cX4_areFulfilled 83 = .ok (.iload 5, 2) := by decide +kernel
theorem dX4_areFulfilled_85 : decode cX4_areFulfilled 85 = .ok (.imul, 1) := by decide +kernel
theorem dX4_areFulfilled_86 : decode cX4_areFulfilled 86 = .ok (.iadd, 1) := by decide +kernel
theorem dX4_areFulfilled_87 : decode cX4_areFulfilled 87 = .ok (.aload_n 0, 1) := by decide +kernel
theorem dX4_areFulfilled_88 : decode cX4_areFulfilled 88 = .ok (.getfield 11, 3) := by decide +kernel
theorem dX4_areFulfilled_91 : decode cX4_areFulfilled 91 = .ok (.iload 6, 2) := by decide +kernel
theorem dX4_areFulfilled_93 : decode cX4_areFulfilled 93 = .ok (.iconst 4, 1) := by decide +kernel
theorem dX4_areFulfilled_94 : decode cX4_areFulfilled 94 = .ok (.iadd, 1) := by decide +kernel
theorem dX4_areFulfilled_95 : decode cX4_areFulfilled 95 = .ok (.iaload, 1) := by decide +kernel
theorem dX4_areFulfilled_96 : decode cX4_areFulfilled 96 = .ok (.iadd, 1) := by decide +kernel
theorem dX4_areFulfilled_97 : decode cX4_areFulfilled 97 = .ok (.ifCond .ge 5, 3) := by decide +kernel
theorem dX4_areFulfilled_100 : decode cX4_areFulfilled 100 = .ok (.iconst 0, 1) := by decide +kernel
theorem dX4_areFulfilled_101 : decode cX4_areFulfilled 101 = .ok (.ireturn, 1) := by decide +kernel
theorem dX4_areFulfilled_102 : decode cX4_areFulfilled 102 = .ok (.iinc 6 5, 3) := by decide +kernel
theorem dX4_areFulfilled_105 : decode cX4_areFulfilled 105 = .ok (.goto (-76), 3) := by decide +kernel
theorem dX4_areFulfilled_108 : decode cX4_areFulfilled 108 = .ok (.iconst 1, 1) := by decide +kernel
theorem dX4_areFulfilled_109 : decode cX4_areFulfilled 109 = .ok (.ireturn, 1) := by decide +kernel
theorem dX5_init_0 : decode cX5_init 0 = .ok (.aload_n 0, 1) := by decide +kernel
theorem dX5_init_1 : decode cX5_init 1 = .ok (.invokespecial 3, 3) := by decide +kernel
theorem dX5_init_4 : decode cX5_init 4 = .ok (.aload_n 0, 1) := by decide +kernel
theorem dX5_init_5 : decode cX5_init 5 = .ok (.bipush 8, 2) := by decide +kernel
theorem dX5_init_7 : decode cX5_init 7 = .ok (.newarray .int, 2) := by decide +kernel
theorem dX5_init_9 : decode cX5_init 9 = .ok (.putfield 9, 3) := by decide +kernel
theorem dX5_init_12 : decode cX5_init 12 = .ok (.aload_n 0, 1) := by decide +kernel
theorem dX5_init_13 : decode cX5_init 13 = .ok (.sipush 4096, 3) := by decide +kernel
theorem dX5_init_16 : decode cX5_init 16 = .ok (.newarray .int, 2) := by decide +kernel
theorem dX5_init_18 : decode cX5_init 18 = .ok (.putfield 15, 3) := by decide +kernel
theorem dX5_init_21 : decode cX5_init 21 = .ok (.aload_n 0, 1) := by decide +kernel
theorem dX5_init_22 : decode cX5_init 22 = .ok (.sipush 256, 3) := by decide +kernel
theorem dX5_init_25 : decode cX5_init 25 = .ok (.newarray .boolean, 2) := by decide +kernel
theorem dX5_init_27 : decode cX5_init 27 = .ok (.putfield 18, 3) := by decide +kernel
theorem dX5_init_30 : decode cX5_init 30 = .ok (.aload_n 0, 1) := by decide +kernel
theorem dX5_init_31 : decode cX5_init 31 = .ok (.iconst (-1), 1) := by decide +kernel
theorem dX5_init_32 : decode cX5_init 32 = .ok (.putfield 22, 3) := by decide +kernel
theorem dX5_init_35 : decode cX5_init 35 = .ok (.return_, 1) := by decide +kernel
set_option maxRecDepth 20000 in
theorem ggX5_pointFrom_X5_lookAt : GoodIn wsX5_pointFrom wsX5_lookAt := goodIn_r _ [6, 7, 8, 9, 1, 10, 11, 12, 13, 14, 15, 16, 17, 18, 19, 20, 21, 22, 23, 5, 24, 25, 26, 27, 28, 29, 30, 31, 32, 33, 34, 35, 36, 37, 43, 44, 45, 46, 47, 48, 49, 50, 51] (by decide +kernel) (by decide +kernel)
set_option maxRecDepth 20000 in
theorem gX5_pointFrom_X5_lookAt : GoodIn wsX5_pointFrom (wsV RX5 26 RX5 yX5_lookAt wsX5_lookAt) := goodIn_app (goodIn_of _ (by decide +kernel)) ggX5_pointFrom_X5_lookAt
set_option maxRecDepth 20000 in
theorem ggX5_pointFrom_X9_all : GoodIn wsX5_pointFrom wsX9_all := goodIn_r _ [41, 42, 47, 48, 49, 50, 51] (by decide +kernel) (by decide +kernel)
set_option maxRecDepth 20000 in
theorem gX5_pointFrom_X9_all : GoodIn wsX5_pointFrom (wsV RX5 30 RX9 yX9_all wsX9_all) := goodIn_app (goodIn_of _ (by decide +kernel)) ggX5_pointFrom_X9_all
theorem dX5_pointFrom_0 : decode cX5_pointFrom 0 = .ok (.aload_n 0, 1) := by decide +kernel
theorem dX5_pointFrom_1 : decode cX5_pointFrom 1 = .ok (.aload_n 1, 1) := by decide +kernel
theorem dX5_pointFrom_2 : decode cX5_pointFrom 2 = .ok (.invokevirtual 26, 3) := by decide +kernel
theorem dX5_pointFrom_5 : decode cX5_pointFrom 5 = .ok (.aload_n 1, 1) := by decide +kernel
theorem dX5_pointFrom_6 : decode cX5_pointFrom 6 = .ok (.invokevirtual 30, 3) := by decide +kernel
theorem dX5_pointFrom_9 : decode cX5_pointFrom 9 = .ok (.istore_n 3, 1) := by decide +kernel
theorem dX5_pointFrom_10 : decode cX5_pointFrom 10 = .ok (.iload_n 2, 1) := by decide +kernel
theorem dX5_pointFrom_11 : decode cX5_pointFrom 11 = .ok (.istore 4, 2) := by decide +kernel
theorem dX5_pointFrom_13 : decode cX5_pointFrom 13 = .ok (.iload 4, 2) := by decide +kernel
theorem dX5_pointFrom_15 : decode cX5_pointFrom 15 = .ok (.sipush 4095, 3) := by decide +kernel
theorem dX5_pointFrom_18 : decode cX5_pointFrom 18 = .ok (.if_icmp .gt 23, 3) := by decide +kernel
theorem dX5_pointFrom_21 : decode cX5_pointFrom 21 = .ok (.aload_n 0, 1) := by decide +kernel
theorem dX5_pointFrom_22 : decode cX5_pointFrom 22 = .ok (.getfield 15, 3) := by decide +kernel
theorem dX5_pointFrom_25 : decode cX5_pointFrom 25 = .ok (.iload 4, 2) := by decide +kernel
theorem dX5_pointFrom_27 : decode cX5_pointFrom 27 = .ok (.iaload, 1) := by decide +kernel
theorem dX5_pointFrom_28 : decode cX5_pointFrom 28 = .ok (.iload_n 3, 1) := by decide +kernel
theorem dX5_pointFrom_29 : decode cX5_pointFrom 29 = .ok (.if_icmp .ne 6, 3) := by decide +kernel
theorem dX5_pointFrom_32 : decode cX5_pointFrom 32 = .ok (.iload 4, 2) := by decide +kernel
theorem dX5_pointFrom_34 : decode cX5_pointFrom 34 = .ok (.ireturn, 1) := by decide +kernel
theorem dX5_pointFrom_35 : decode cX5_pointFrom 35 = .ok (.iinc 4 1, 3) := by decide +kernel
theorem dX5_pointFrom_38 : decode cX5_pointFrom 38 = .ok (.goto (-25), 3) := by decide +kernel
theorem dX5_pointFrom_41 : decode cX5_pointFrom 41 = .ok (.iconst (-1), 1) := by decide +kernel
theorem dX5_pointFrom_42 : decode cX5_pointFrom 42 = .ok (.ireturn, 1) := by decide +kernel
set_option maxRecDepth 20000 in
theorem ggX5_pointCount_X5_lookAt : GoodIn wsX5_pointCount wsX5_lookAt := goodIn_r _ [6, 7, 8, 9, 1, 10, 11, 12, 13, 14, 15, 16, 17, 18, 19, 20, 21, 22, 23, 5, 24, 25, 26, 27, 28, 29, 30, 31, 32, 33, 34, 35, 36, 37, 43, 44, 45, 46, 47, 48, 49, 50, 51] (by decide +kernel) (by decide +kernel)
set_option maxRecDepth 20000 in
theorem gX5_pointCount_X5_lookAt : GoodIn wsX5_pointCount (wsV RX5 26 RX5 yX5_lookAt wsX5_lookAt) := goodIn_app (goodIn_of _ (by decide +kernel)) ggX5_pointCount_X5_lookAt
set_option maxRecDepth 20000 in
theorem ggX5_pointCount_X9_all : GoodIn wsX5_pointCount wsX9_all := goodIn_r _ [41, 42, 47, 48, 49, 50, 51] (by decide +kernel) (by decide +kernel)
set_option maxRecDepth 20000 in
theorem gX5_pointCount_X9_all : GoodIn wsX5_pointCount (wsV RX5 30 RX9 yX9_all wsX9_all) := goodIn_app (goodIn_of _ (by decide +kernel)) ggX5_pointCount_X9_all
theorem dX5_pointCount_0 : decode cX5_pointCount 0 = .ok (.aload_n 0, 1) := by decide +kernel
theorem dX5_pointCount_1 : decode cX5_pointCount 1 = .ok (.aload_n 1, 1) := by decide +kernel
theorem dX5_pointCount_2 : decode cX5_pointCount 2 = .ok (.invokevirtual 26, 3) := by decide +kernel
theorem dX5_pointCount_5 : decode cX5_pointCount 5 = .ok (.aload_n 1, 1) := by decide +kernel
theorem dX5_pointCount_6 : decode cX5_pointCount 6 = .ok (.invokevirtual 30, 3) := by decide +kernel
theorem dX5_pointCount_9 : decode cX5_pointCount 9 = .ok (.istore_n 2, 1) := by decide +kernel
theorem dX5_pointCount_10 : decode cX5_pointCount 10 = .ok (.iconst 0, 1) := by decide +kernel
theorem dX5_pointCount_11 : decode cX5_pointCount 11 = .ok (.istore_n 3, 1) := by decide +kernel
theorem dX5_pointCount_12 : decode cX5_pointCount 12 = .ok (.iconst 0, 1) := by decide +kernel
theorem dX5_pointCount_13 : decode cX5_pointCount 13 = .ok (.istore 4, 2) := by decide +kernel
theorem dX5_pointCount_15 : decode cX5_pointCount 15 = .ok (.iload 4, 2) := by decide +kernel
theorem dX5_pointCount_17 : decode cX5_pointCount 17 = .ok (.sipush 4095, 3) := by decide +kernel
theorem dX5_pointCount_20 : decode cX5_pointCount 20 = .ok (.if_icmp .gt 23, 3) := by decide +kernel
theorem dX5_pointCount_23 : decode cX5_pointCount 23 = .ok (.aload_n 0, 1) := by decide +kernel
theorem dX5_pointCount_24 : decode cX5_pointCount 24 = .ok (.getfield 15, 3) := by decide +kernel
theorem dX5_pointCount_27 : decode cX5_pointCount 27 = .ok (.iload 4, 2) := by decide +kernel
theorem dX5_pointCount_29 : decode cX5_pointCount 29 = .ok (.iaload, 1) := by decide +kernel
theorem dX5_pointCount_30 : decode cX5_pointCount 30 = .ok (.iload_n 2, 1) := by decide +kernel
theorem dX5_pointCount_31 : decode cX5_pointCount 31 = .ok (.if_icmp .ne 6, 3) := by decide +kernel
theorem dX5_pointCount_34 : decode cX5_pointCount 34 = .ok (.iinc 3 1, 3) := by decide +kernel
theorem dX5_pointCount_37 : decode cX5_pointCount 37 = .ok (.iinc 4 1, 3) := by decide +kernel
theorem dX5_pointCount_40 : decode cX5_pointCount 40 = .ok (.goto (-25), 3) := by decide +kernel
theorem dX5_pointCount_43 : decode cX5_pointCount 43 = .ok (.iload_n 3, 1) := by decide +kernel
theorem dX5_pointCount_44 : decode cX5_pointCount 44 = .ok (.ireturn, 1) := by decide +kernel
set_option maxRecDepth 20000 in
theorem ggX5_valuesOf_X5_lookAt : GoodIn wsX5_valuesOf wsX5_lookAt := goodIn_r _ [6, 7, 8, 9, 1, 10, 11, 12, 13, 14, 15, 16, 17, 18, 19, 20, 21, 22, 23, 5, 24, 25, 26, 27, 28, 29, 30, 31, 32, 33, 34, 35, 36, 37, 44, 45, 46, 47, 48, 49, 50, 51, 52] (by decide +kernel) (by decide +kernel)
set_option maxRecDepth 20000 in
theorem gX5_valuesOf_X5_lookAt : GoodIn wsX5_valuesOf (wsV RX5 26 RX5 yX5_lookAt wsX5_lookAt) := goodIn_app (goodIn_of _ (by decide +kernel)) ggX5_valuesOf_X5_lookAt
set_option maxRecDepth 20000 in
theorem ggX5_valuesOf_X9_all : GoodIn wsX5_valuesOf wsX9_all := goodIn_r _ [41, 42, 48, 49, 50, 51, 52] (by decide +kernel) (by decide +kernel)
set_option maxRecDepth 20000 in
theorem gX5_valuesOf_X9_all : GoodIn wsX5_valuesOf (wsV RX5 30 RX9 yX9_all wsX9_all) := goodIn_app (goodIn_of _ (by decide +kernel)) ggX5_valuesOf_X9_all
set_option maxRecDepth 20000 in
theorem ggX5_valuesOf_X3_valueOf : GoodIn wsX5_valuesOf wsX3_valueOf := goodIn_r _ [20] (by decide +kernel) (by decide +kernel)
set_option maxRecDepth 20000 in
theorem gX5_valuesOf_X3_valueOf : GoodIn wsX5_valuesOf (va_wsS RX5 36 yX3_valueOf wsX3_valueOf) := goodIn_app (goodIn_of _ (by decide +kernel)) ggX5_valuesOf_X3_valueOf
theorem dX5_valuesOf_0 : decode cX5_valuesOf 0 = .ok (.aload_n 0, 1) := by decide +kernel
theorem dX5_valuesOf_1 : decode cX5_valuesOf 1 = .ok (.aload_n 1, 1) := by decide +kernel
theorem dX5_valuesOf_2 : decode cX5_valuesOf 2 = .ok (.invokevirtual 26, 3) := by decide +kernel
theorem dX5_valuesOf_5 : decode cX5_valuesOf 5 = .ok (.aload_n 1, 1) := by decide +kernel
theorem dX5_valuesOf_6 : decode cX5_valuesOf 6 = .ok (.invokevirtual 30, 3) := by decide +kernel
theorem dX5_valuesOf_9 : decode cX5_valuesOf 9 = .ok (.istore_n 3, 1) := by decide +kernel
theorem dX5_valuesOf_10 : decode cX5_valuesOf 10 = .ok (.iconst 0, 1) := by decide +kernel
theorem dX5_valuesOf_11 : decode cX5_valuesOf 11 = .ok (.istore 4, 2) := by decide +kernel
theorem dX5_valuesOf_13 : decode cX5_valuesOf 13 = .ok (.iconst 0, 1) := by decide +kernel
theorem dX5_valuesOf_14 : decode cX5_valuesOf 14 = .ok (.istore 5, 2) := by decide +kernel
theorem dX5_valuesOf_16 : decode cX5_valuesOf 16 = .ok (.iload 5, 2) := by decide +kernel
theorem dX5_valuesOf_18 : decode cX5_valuesOf 18 = .ok (.sipush 4095, 3) := by decide +kernel
theorem dX5_valuesOf_21 : decode cX5_valuesOf 21 = .ok (.if_icmp .gt 33, 3) := by decide +kernel
theorem dX5_valuesOf_24 : decode cX5_valuesOf 24 = .ok (.aload_n 0, 1) := by decide +kernel
theorem dX5_valuesOf_25 : decode cX5_valuesOf 25 = .ok (.getfield 15, 3) := by decide +kernel
theorem dX5_valuesOf_28 : decode cX5_valuesOf 28 = .ok (.iload 5, 2) := by decide +kernel
theorem dX5_valuesOf_30 : decode cX5_valuesOf 30 = .ok (.iaload, 1) := by decide +kernel
theorem dX5_valuesOf_31 : decode cX5_valuesOf 31 = .ok (.iload_n 3, 1) := by decide +kernel
theorem dX5_valuesOf_32 : decode cX5_valuesOf 32 = .ok (.if_icmp .ne 16, 3) := by decide +kernel
theorem dX5_valuesOf_35 : decode cX5_valuesOf 35 = .ok (.iload 4, 2) := by decide +kernel
theorem dX5_valuesOf_37 : decode cX5_valuesOf 37 = .ok (.iconst 1, 1) := by decide +kernel
theorem dX5_valuesOf_38 : decode cX5_valuesOf 38 = .ok (.iload 5, 2) := by decide +kernel
theorem dX5_valuesOf_40 : decode cX5_valuesOf 40 = .ok (.iload_n 2, 1) := by decide +kernel
theorem dX5_valuesOf_41 : decode cX5_valuesOf 41 = .ok (.invokestatic 36, 3) := by decide +kernel
theorem dX5_valuesOf_44 : decode cX5_valuesOf 44 = .ok (.ishl, 1) := by decide +kernel
theorem dX5_valuesOf_45 : decode cX5_valuesOf 45 = .ok (.ior, 1) := by decide +kernel
theorem dX5_valuesOf_46 : decode cX5_valuesOf 46 = .ok (.istore 4, 2) := by decide +kernel
theorem dX5_valuesOf_48 : decode cX5_valuesOf 48 = .ok (.iinc 5 1, 3) := by decide +kernel
theorem dX5_valuesOf_51 : decode cX5_valuesOf 51 = .ok (.goto (-35), 3) := by decide +kernel
theorem dX5_valuesOf_54 : decode cX5_valuesOf 54 = .ok (.iload 4, 2) := by decide +kernel
theorem dX5_valuesOf_56 : decode cX5_valuesOf 56 = .ok (.ireturn, 1) := by decide +kernel
set_option maxRecDepth 20000 in
theorem ggX5_gapsOf_X5_lookAt : GoodIn wsX5_gapsOf wsX5_lookAt := goodIn_r _ [6, 7, 8, 9, 1, 10, 11, 12, 13, 14, 15, 16, 17, 18, 19, 20, 21, 22, 23, 5, 24, 25, 26, 27, 28, 29, 30, 31, 32, 33, 34, 35, 36, 37, 44, 45, 46, 47, 48, 49, 50, 51, 52] (by decide +kernel) (by decide +kernel)
set_option maxRecDepth 20000 in
theorem gX5_gapsOf_X5_lookAt : GoodIn wsX5_gapsOf (wsV RX5 26 RX5 yX5_lookAt wsX5_lookAt) := goodIn_app (goodIn_of _ (by decide +kernel)) ggX5_gapsOf_X5_lookAt
set_option maxRecDepth 20000 in
theorem ggX5_gapsOf_X9_all : GoodIn wsX5_gapsOf wsX9_all := goodIn_r _ [41, 42, 48, 49, 50, 51, 52] (by decide +kernel) (by decide +kernel)
set_option maxRecDepth 20000 in
theorem gX5_gapsOf_X9_all : GoodIn wsX5_gapsOf (wsV RX5 30 RX9 yX9_all wsX9_all) := goodIn_app (goodIn_of _ (by decide +kernel)) ggX5_gapsOf_X9_all
set_option maxRecDepth 20000 in
theorem ggX5_gapsOf_X3_valueOf : GoodIn wsX5_gapsOf wsX3_valueOf := goodIn_r _ [20] (by decide +kernel) (by decide +kernel)
set_option maxRecDepth 20000 in
theorem gX5_gapsOf_X3_valueOf : GoodIn wsX5_gapsOf (va_wsS RX5 36 yX3_valueOf wsX3_valueOf) := goodIn_app (goodIn_of _ (by decide +kernel)) ggX5_gapsOf_X3_valueOf
theorem dX5_gapsOf_0 : decode cX5_gapsOf 0 = .ok (.aload_n 0, 1) := by decide +kernel
theorem dX5_gapsOf_1 : decode cX5_gapsOf 1 = .ok (.aload_n 1, 1) := by decide +kernel
theorem dX5_gapsOf_2 : decode cX5_gapsOf 2 = .ok (.invokevirtual 26, 3) := by decide +kernel
theorem dX5_gapsOf_5 : decode cX5_gapsOf 5 = .ok (.aload_n 1, 1) := by decide +kernel
theorem dX5_gapsOf_6 : decode cX5_gapsOf 6 = .ok (.invokevirtual 30, 3) := by decide +kernel
theorem dX5_gapsOf_9 : decode cX5_gapsOf 9 = .ok (.istore 4, 2) := by decide +kernel
theorem dX5_gapsOf_11 : decode cX5_gapsOf 11 = .ok (.iconst 0, 1) := by decide +kernel
theorem dX5_gapsOf_12 : decode cX5_gapsOf 12 = .ok (.istore 5, 2) := by decide +kernel
theorem dX5_gapsOf_14 : decode cX5_gapsOf 14 = .ok (.iconst 0, 1) := by decide +kernel
theorem dX5_gapsOf_15 : decode cX5_gapsOf 15 = .ok (.istore 6, 2) := by decide +kernel
theorem dX5_gapsOf_17 : decode cX5_gapsOf 17 = .ok (.iload 6, 2) := by decide +kernel
theorem dX5_gapsOf_19 : decode cX5_gapsOf 19 = .ok (.sipush 4095, 3) := by decide +kernel
theorem dX5_gapsOf_22 : decode cX5_gapsOf 22 = .ok (.if_icmp .gt 44, 3) := by decide +kernel
theorem dX5_gapsOf_25 : decode cX5_gapsOf 25 = .ok (.aload_n 0, 1) := by decide +kernel
theorem dX5_gapsOf_26 : decode cX5_gapsOf 26 = .ok (.getfield 15, 3) := by decide +kernel
theorem dX5_gapsOf_29 : decode cX5_gapsOf 29 = .ok (.iload 6, 2) := by decide +kernel
theorem dX5_gapsOf_31 : decode cX5_gapsOf 31 = .ok (.iaload, 1) := by decide +kernel
theorem dX5_gapsOf_32 : decode cX5_gapsOf 32 = .ok (.iload 4, 2) := by decide +kernel
theorem dX5_gapsOf_34 : decode cX5_gapsOf 34 = .ok (.if_icmp .ne 26, 3) := by decide +kernel
theorem dX5_gapsOf_37 : decode cX5_gapsOf 37 = .ok (.iload 5, 2) := by decide +kernel
theorem dX5_gapsOf_39 : decode cX5_gapsOf 39 = .ok (.iconst 1, 1) := by decide +kernel
theorem dX5_gapsOf_40 : decode cX5_gapsOf 40 = .ok (.iload 6, 2) := by decide +kernel
theorem dX5_gapsOf_42 : decode cX5_gapsOf 42 = .ok (.iload_n 3, 1) := by decide +kernel
theorem dX5_gapsOf_43 : decode cX5_gapsOf 43 = .ok (.invokestatic 36, 3) := by decide +kernel
theorem dX5_gapsOf_46 : decode cX5_gapsOf 46 = .ok (.iload 6, 2) := by decide +kernel
theorem dX5_gapsOf_48 : decode cX5_gapsOf 48 = .ok (.iload_n 2, 1) := by decide +kernel
theorem dX5_gapsOf_49 : decode cX5_gapsOf 49 = .ok (.invokestatic 36, 3) := by decide +kernel
theorem dX5_gapsOf_52 : decode cX5_gapsOf 52 = .ok (.isub, 1) := by decide +kernel
theorem dX5_gapsOf_53 : decode cX5_gapsOf 53 = .ok (.bipush 7, 2) := by decide +kernel
theorem dX5_gapsOf_55 : decode cX5_gapsOf 55 = .ok (.iadd, 1) := by decide +kernel
theorem dX5_gapsOf_56 : decode cX5_gapsOf 56 = .ok (.ishl, 1) := by decide +kernel
theorem dX5_gapsOf_57 : decode cX5_gapsOf 57 = .ok (.ior, 1) := by decide +kernel
theorem dX5_gapsOf_58 : decode cX5_gapsOf 58 = .ok (.istore 5, 2) := by decide +kernel
theorem dX5_gapsOf_60 : decode cX5_gapsOf 60 = .ok (.iinc 6 1, 3) := by decide +kernel
theorem dX5_gapsOf_63 : decode cX5_gapsOf 63 = .ok (.goto (-46), 3) := by decide +kernel
theorem dX5_gapsOf_66 : decode cX5_gapsOf 66 = .ok (.iload 5, 2) := by decide +kernel
theorem dX5_gapsOf_68 : decode cX5_gapsOf 68 = .ok (.ireturn, 1) := by decide +kernel
set_option maxRecDepth 20000 in
theorem ggX5_bestSpare_X5_lookAt : GoodIn wsX5_bestSpare wsX5_lookAt := goodIn_r _ [8, 9, 10, 11, 3, 1, 12, 13, 14, 15, 16, 17, 18, 19, 20, 21, 22, 23, 24, 7, 25, 26, 27, 28, 29, 30, 31, 32, 33, 34, 35, 36, 37, 38, 49, 50, 51, 52, 44, 45, 46, 47, 48] (by decide +kernel) (by decide +kernel)
set_option maxRecDepth 20000 in
theorem gX5_bestSpare_X5_lookAt : GoodIn wsX5_bestSpare (wsV RX5 26 RX5 yX5_lookAt wsX5_lookAt) := goodIn_app (goodIn_of _ (by decide +kernel)) ggX5_bestSpare_X5_lookAt
set_option maxRecDepth 20000 in
theorem ggX5_bestSpare_X9_all : GoodIn wsX5_bestSpare wsX9_all := goodIn_r _ [42, 43, 44, 45, 46, 47, 48] (by decide +kernel) (by decide +kernel)
set_option maxRecDepth 20000 in
theorem gX5_bestSpare_X9_all : GoodIn wsX5_bestSpare (wsV RX5 30 RX9 yX9_all wsX9_all) := goodIn_app (goodIn_of _ (by decide +kernel)) ggX5_bestSpare_X9_all
theorem dX5_bestSpare_0 : decode cX5_bestSpare 0 = .ok (.aload_n 0, 1) := by decide +kernel
theorem dX5_bestSpare_1 : decode cX5_bestSpare 1 = .ok (.aload_n 1, 1) := by decide +kernel
theorem dX5_bestSpare_2 : decode cX5_bestSpare 2 = .ok (.invokevirtual 26, 3) := by decide +kernel
theorem dX5_bestSpare_5 : decode cX5_bestSpare 5 = .ok (.aload_n 1, 1) := by decide +kernel
theorem dX5_bestSpare_6 : decode cX5_bestSpare 6 = .ok (.invokevirtual 30, 3) := by decide +kernel
theorem dX5_bestSpare_9 : decode cX5_bestSpare 9 = .ok (.istore_n 2, 1) := by decide +kernel
theorem dX5_bestSpare_10 : decode cX5_bestSpare 10 = .ok (.iconst 0, 1) := by decide +kernel
theorem dX5_bestSpare_11 : decode cX5_bestSpare 11 = .ok (.istore_n 3, 1) := by decide +kernel
theorem dX5_bestSpare_12 : decode cX5_bestSpare 12 = .ok (.iconst 0, 1) := by decide +kernel
theorem dX5_bestSpare_13 : decode cX5_bestSpare 13 = .ok (.istore 4, 2) := by decide +kernel
theorem dX5_bestSpare_15 : decode cX5_bestSpare 15 = .ok (.iload 4, 2) := by decide +kernel
theorem dX5_bestSpare_17 : decode cX5_bestSpare 17 = .ok (.aload_n 1, 1) := by decide +kernel
theorem dX5_bestSpare_18 : decode cX5_bestSpare 18 = .ok (.getfield 42, 3) := by decide +kernel
theorem dX5_bestSpare_21 : decode cX5_bestSpare 21 = .ok (.if_icmp .ge 84, 3) := by decide +kernel
theorem dX5_bestSpare_24 : decode cX5_bestSpare 24 = .ok (.aload_n 0, 1) := by decide +kernel
theorem dX5_bestSpare_25 : decode cX5_bestSpare 25 = .ok (.getfield 9, 3) := by decide +kernel
theorem dX5_bestSpare_28 : decode cX5_bestSpare 28 = .ok (.iload 4, 2) := by decide +kernel
theorem dX5_bestSpare_30 : decode cX5_bestSpare 30 = .ok (.iconst 0, 1) := by decide +kernel
theorem dX5_bestSpare_31 : decode cX5_bestSpare 31 = .ok (.iastore, 1) := by decide +kernel
theorem dX5_bestSpare_32 : decode cX5_bestSpare 32 = .ok (.iconst 0, 1) := by decide +kernel
theorem dX5_bestSpare_33 : decode cX5_bestSpare 33 = .ok (.istore 5, 2) := by decide +kernel
theorem dX5_bestSpare_35 : decode cX5_bestSpare 35 = .ok (.iload 5, 2) := by decide +kernel
theorem dX5_bestSpare_37 : decode cX5_bestSpare 37 = .ok (.sipush 4095, 3) := by decide +kernel
theorem dX5_bestSpare_40 : decode cX5_bestSpare 40 = .ok (.if_icmp .gt 36, 3) := by decide +kernel
theorem dX5_bestSpare_43 : decode cX5_bestSpare 43 = .ok (.aload_n 0, 1) := by decide +kernel
theorem dX5_bestSpare_44 : decode cX5_bestSpare 44 = .ok (.getfield 15, 3) := by decide +kernel
theorem dX5_bestSpare_47 : decode cX5_bestSpare 47 = .ok (.iload 5, 2) := by decide +kernel
theorem dX5_bestSpare_49 : decode cX5_bestSpare 49 = .ok (.iaload, 1) := by decide +kernel
theorem dX5_bestSpare_50 : decode cX5_bestSpare 50 = .ok (.iconst 1, 1) := by decide +kernel
theorem dX5_bestSpare_51 : decode cX5_bestSpare 51 = .ok (.iload 4, 2) := by decide +kernel
theorem dX5_bestSpare_53 : decode cX5_bestSpare 53 = .ok (.ishl, 1) := by decide +kernel
theorem dX5_bestSpare_54 : decode cX5_bestSpare 54 = .ok (.ior, 1) := by decide +kernel
theorem dX5_bestSpare_55 : decode cX5_bestSpare 55 = .ok (.iload_n 2, 1) := by decide +kernel
theorem dX5_bestSpare_56 : decode cX5_bestSpare 56 = .ok (.if_icmp .ne 14, 3) := by decide +kernel
theorem dX5_bestSpare_59 : decode cX5_bestSpare 59 = .ok (.aload_n 0, 1) := by decide +kernel
theorem dX5_bestSpare_60 : decode cX5_bestSpare 60 = .ok (.getfield 9, 3) := by decide +kernel
theorem dX5_bestSpare_63 : decode cX5_bestSpare 63 = .ok (.iload 4, 2) := by decide +kernel
theorem dX5_bestSpare_65 : decode cX5_bestSpare 65 = .ok (.dup2, 1) := by decide +kernel
theorem dX5_bestSpare_66 : decode cX5_bestSpare 66 = .ok (.iaload, 1) := by decide +kernel
theorem dX5_bestSpare_67 : decode cX5_bestSpare 67 = .ok (.iconst 1, 1) := by decide +kernel
theorem dX5_bestSpare_68 : decode cX5_bestSpare 68 = .ok (.iadd, 1) := by decide +kernel
theorem dX5_bestSpare_69 : decode cX5_bestSpare 69 = .ok (.iastore, 1) := by decide +kernel
theorem dX5_bestSpare_70 : decode cX5_bestSpare 70 = .ok (.iinc 5 1, 3) := by decide +kernel
theorem dX5_bestSpare_73 : decode cX5_bestSpare 73 = .ok (.goto (-38), 3) := by decide +kernel
theorem dX5_bestSpare_76 : decode cX5_bestSpare 76 = .ok (.aload_n 0, 1) := by decide +kernel
theorem dX5_bestSpare_77 : decode cX5_bestSpare 77 = .ok (.getfield 9, 3) := by decide +kernel
theorem dX5_bestSpare_80 : decode cX5_bestSpare 80 = .ok (.iload 4, 2) := by decide +kernel
theorem dX5_bestSpare_82 : decode cX5_bestSpare 82 = .ok (.iaload, 1) := by decide +kernel
theorem dX5_bestSpare_83 : decode cX5_bestSpare 83 = .ok (.aload_n 0, 1) := by decide +kernel
theorem dX5_bestSpare_84 : decode cX5_bestSpare 84 = .ok (.getfield 9, 3) := by decide +kernel
theorem dX5_bestSpare_87 : decode cX5_bestSpare 87 = .ok (.iload_n 3, 1) := by decide +kernel
theorem dX5_bestSpare_88 : decode cX5_bestSpare 88 = .ok (.iaload, 1) := by decide +kernel
theorem dX5_bestSpare_89 : decode cX5_bestSpare 89 = .ok (.if_icmp .le 8, 3) := by decide +kernel
theorem dX5_bestSpare_92 : decode cX5_bestSpare 92 = .ok (.iload 4, 2) := by decide +kernel
theorem dX5_bestSpare_94 : decode cX5_bestSpare 94 = .ok (.goto 4, 3) := by decide +kernel
theorem dX5_bestSpare_97 : decode cX5_bestSpare 97 = .ok (.iload_n 3, 1) := by decide +kernel
theorem dX5_bestSpare_98 : decode cX5_bestSpare 98 = .ok (.istore_n 3, 1) := by decide +kernel
theorem dX5_bestSpare_99 : decode cX5_bestSpare 99 = .ok (.iinc 4 1, 3) := by decide +kernel
theorem dX5_bestSpare_102 : decode cX5_bestSpare 102 = .ok (.goto (-87), 3) := by decide +kernel
theorem dX5_bestSpare_105 : decode cX5_bestSpare 105 = .ok (.iload_n 3, 1) := by decide +kernel
theorem dX5_bestSpare_106 : decode cX5_bestSpare 106 = .ok (.ireturn, 1) := by decide +kernel
set_option maxRecDepth 20000 in
theorem ggX5_leastStretch_X5_lookAt : GoodIn wsX5_leastStretch wsX5_lookAt := goodIn_r _ [6, 7, 8, 9, 1, 10, 11, 12, 13, 14, 15, 16, 17, 18, 19, 20, 21, 22, 23, 5, 24, 25, 26, 27, 28, 29, 30, 31, 32, 33, 34, 35, 36, 37, 59, 60, 61, 62, 63, 64, 65, 66, 67] (by decide +kernel) (by decide +kernel)
set_option maxRecDepth 20000 in
theorem gX5_leastStretch_X5_lookAt : GoodIn wsX5_leastStretch (wsV RX5 26 RX5 yX5_lookAt wsX5_lookAt) := goodIn_app (goodIn_of _ (by decide +kernel)) ggX5_leastStretch_X5_lookAt
set_option maxRecDepth 20000 in
theorem ggX5_leastStretch_X9_all : GoodIn wsX5_leastStretch wsX9_all := goodIn_r _ [41, 42, 63, 64, 65, 66, 67] (by decide +kernel) (by decide +kernel)
set_option maxRecDepth 20000 in
theorem gX5_leastStretch_X9_all : GoodIn wsX5_leastStretch (wsV RX5 30 RX9 yX9_all wsX9_all) := goodIn_app (goodIn_of _ (by decide +kernel)) ggX5_leastStretch_X9_all
set_option maxRecDepth 20000 in
theorem ggX5_leastStretch_X9_cell : GoodIn wsX5_leastStretch wsX9_cell := goodIn_r _ [28, 29, 63, 64, 65, 66, 67] (by decide +kernel) (by decide +kernel)
set_option maxRecDepth 20000 in
theorem gX5_leastStretch_X9_cell : GoodIn wsX5_leastStretch (wsV RX5 45 RX9 yX9_cell wsX9_cell) := goodIn_app (goodIn_of _ (by decide +kernel)) ggX5_leastStretch_X9_cell
set_option maxRecDepth 20000 in
theorem ggX5_leastStretch_X9_sumAt : GoodIn wsX5_leastStretch wsX9_sumAt := goodIn_r _ [33, 29, 17, 18, 19, 20, 63, 64, 65, 66, 67] (by decide +kernel) (by decide +kernel)
set_option maxRecDepth 20000 in
theorem gX5_leastStretch_X9_sumAt : GoodIn wsX5_leastStretch (wsV RX5 48 RX9 yX9_sumAt wsX9_sumAt) := goodIn_app (goodIn_of _ (by decide +kernel)) ggX5_leastStretch_X9_sumAt
set_option maxRecDepth 20000 in
theorem ggX5_leastStretch_X1_lacking : GoodIn wsX5_leastStretch wsX1_lacking := goodIn_r _ [45, 46, 47, 48, 49, 50, 51, 52] (by decide +kernel) (by decide +kernel)
set_option maxRecDepth 20000 in
theorem gX5_leastStretch_X1_lacking : GoodIn wsX5_leastStretch (va_wsS RX5 51 yX1_lacking wsX1_lacking) := goodIn_app (goodIn_of _ (by decide +kernel)) ggX5_leastStretch_X1_lacking
set_option maxRecDepth 20000 in
theorem ggX5_leastStretch_X5_isNearer : GoodIn wsX5_leastStretch wsX5_isNearer := goodIn_r _ [55, 56, 57, 48, 58] (by decide +kernel) (by decide +kernel)
set_option maxRecDepth 20000 in
theorem gX5_leastStretch_X5_isNearer : GoodIn wsX5_leastStretch (va_wsS RX5 56 yX5_isNearer wsX5_isNearer) := goodIn_app (goodIn_of _ (by decide +kernel)) ggX5_leastStretch_X5_isNearer
theorem dX5_leastStretch_0 : decode cX5_leastStretch 0 = .ok (.aload_n 0, 1) := by decide +kernel
theorem dX5_leastStretch_1 : decode cX5_leastStretch 1 = .ok (.aload_n 1, 1) := by decide +kernel
theorem dX5_leastStretch_2 : decode cX5_leastStretch 2 = .ok (.invokevirtual 26, 3) := by decide +kernel
theorem dX5_leastStretch_5 : decode cX5_leastStretch 5 = .ok (.aload_n 1, 1) := by decide +kernel
theorem dX5_leastStretch_6 : decode cX5_leastStretch 6 = .ok (.invokevirtual 30, 3) := by decide +kernel
theorem dX5_leastStretch_9 : decode cX5_leastStretch 9 = .ok (.istore_n 3, 1) := by decide +kernel
theorem dX5_leastStretch_10 : decode cX5_leastStretch 10 = .ok (.aload_n 1, 1) := by decide +kernel
theorem dX5_leastStretch_11 : decode cX5_leastStretch 11 = .ok (.iload_n 2, 1) := by decide +kernel
theorem dX5_leastStretch_12 : decode cX5_leastStretch 12 = .ok (.iconst 5, 1) := by decide +kernel
theorem dX5_leastStretch_13 : decode cX5_leastStretch 13 = .ok (.invokevirtual 45, 3) := by decide +kernel
theorem dX5_leastStretch_16 : decode cX5_leastStretch 16 = .ok (.istore 4, 2) := by decide +kernel
theorem dX5_leastStretch_18 : decode cX5_leastStretch 18 = .ok (.bipush 100, 2) := by decide +kernel
theorem dX5_leastStretch_20 : decode cX5_leastStretch 20 = .ok (.istore 5, 2) := by decide +kernel
theorem dX5_leastStretch_22 : decode cX5_leastStretch 22 = .ok (.iconst 0, 1) := by decide +kernel
theorem dX5_leastStretch_23 : decode cX5_leastStretch 23 = .ok (.istore 6, 2) := by decide +kernel
theorem dX5_leastStretch_25 : decode cX5_leastStretch 25 = .ok (.iload 6, 2) := by decide +kernel
theorem dX5_leastStretch_27 : decode cX5_leastStretch 27 = .ok (.sipush 4095, 3) := by decide +kernel
theorem dX5_leastStretch_30 : decode cX5_leastStretch 30 = .ok (.if_icmp .gt 57, 3) := by decide +kernel
theorem dX5_leastStretch_33 : decode cX5_leastStretch 33 = .ok (.aload_n 0, 1) := by decide +kernel
theorem dX5_leastStretch_34 : decode cX5_leastStretch 34 = .ok (.getfield 15, 3) := by decide +kernel
theorem dX5_leastStretch_37 : decode cX5_leastStretch 37 = .ok (.iload 6, 2) := by decide +kernel
theorem dX5_leastStretch_39 : decode cX5_leastStretch 39 = .ok (.iaload, 1) := by decide +kernel
theorem dX5_leastStretch_40 : decode cX5_leastStretch 40 = .ok (.iconst 1, 1) := by decide +kernel
theorem dX5_leastStretch_41 : decode cX5_leastStretch 41 = .ok (.iload_n 2, 1) := by decide +kernel
theorem dX5_leastStretch_42 : decode cX5_leastStretch 42 = .ok (.ishl, 1) := by decide +kernel
theorem dX5_leastStretch_43 : decode cX5_leastStretch 43 = .ok (.ior, 1) := by decide +kernel
theorem dX5_leastStretch_44 : decode cX5_leastStretch 44 = .ok (.iload_n 3, 1) := by decide +kernel
theorem dX5_leastStretch_45 : decode cX5_leastStretch 45 = .ok (.if_icmp .ne 36, 3) := by decide +kernel
theorem dX5_leastStretch_48 : decode cX5_leastStretch 48 = .ok (.iload 4, 2) := by decide +kernel
theorem dX5_leastStretch_50 : decode cX5_leastStretch 50 = .ok (.aload_n 1, 1) := by decide +kernel
theorem dX5_leastStretch_51 : decode cX5_leastStretch 51 = .ok (.iload_n 2, 1) := by decide +kernel
theorem dX5_leastStretch_52 : decode cX5_leastStretch 52 = .ok (.iload 6, 2) := by decide +kernel
theorem dX5_leastStretch_54 : decode cX5_leastStretch 54 = .ok (.invokevirtual 48, 3) := by decide +kernel
theorem dX5_leastStretch_57 : decode cX5_leastStretch 57 = .ok (.invokestatic 51, 3) := by decide +kernel
theorem dX5_leastStretch_60 : decode cX5_leastStretch 60 = .ok (.istore 7, 2) := by decide +kernel
theorem dX5_leastStretch_62 : decode cX5_leastStretch 62 = .ok (.iload 7, 2) := by decide +kernel
theorem dX5_leastStretch_64 : decode cX5_leastStretch 64 = .ok (.iload 5, 2) := by decide +kernel
theorem dX5_leastStretch_66 : decode cX5_leastStretch 66 = .ok (.invokestatic 56, 3) := by decide +kernel
theorem dX5_leastStretch_69 : decode cX5_leastStretch 69 = .ok (.ifCond .eq 8, 3) := by decide +kernel
theorem dX5_leastStretch_72 : decode cX5_leastStretch 72 = .ok (.iload 7, 2) := by decide +kernel
theorem dX5_leastStretch_74 : decode cX5_leastStretch 74 = .ok (.goto 5, 3) := by decide +kernel
theorem dX5_leastStretch_77 : decode cX5_leastStretch 77 = .ok (.iload 5, 2) := by decide +kernel
theorem dX5_leastStretch_79 : decode cX5_leastStretch 79 = .ok (.istore 5, 2) := by decide +kernel
theorem dX5_leastStretch_81 : decode cX5_leastStretch 81 = .ok (.iinc 6 1, 3) := by decide +kernel
theorem dX5_leastStretch_84 : decode cX5_leastStretch 84 = .ok (.goto (-59), 3) := by decide +kernel
theorem dX5_leastStretch_87 : decode cX5_leastStretch 87 = .ok (.iload 5, 2) := by decide +kernel
theorem dX5_leastStretch_89 : decode cX5_leastStretch 89 = .ok (.ireturn, 1) := by decide +kernel
theorem dX5_isNearer_0 : decode cX5_isNearer 0 = .ok (.iload_n 0, 1) := by decide +kernel
theorem dX5_isNearer_1 : decode cX5_isNearer 1 = .ok (.invokestatic 60, 3) := by decide +kernel
theorem dX5_isNearer_4 : decode cX5_isNearer 4 = .ok (.iload_n 1, 1) := by decide +kernel
theorem dX5_isNearer_5 : decode cX5_isNearer 5 = .ok (.invokestatic 60, 3) := by decide +kernel
theorem dX5_isNearer_8 : decode cX5_isNearer 8 = .ok (.if_icmp .lt 19, 3) := by decide +kernel
theorem dX5_isNearer_11 : decode cX5_isNearer 11 = .ok (.iload_n 0, 1) := by decide +kernel
theorem dX5_isNearer_12 : decode cX5_isNearer 12 = .ok (.invokestatic 60, 3) := by decide +kernel
theorem dX5_isNearer_15 : decode cX5_isNearer 15 = .ok (.iload_n 1, 1) := by decide +kernel
theorem dX5_isNearer_16 : decode cX5_isNearer 16 = .ok (.invokestatic 60, 3) := by decide +kernel
theorem dX5_isNearer_19 : decode cX5_isNearer 19 = .ok (.if_icmp .ne 12, 3) := by decide +kernel
theorem dX5_isNearer_22 : decode cX5_isNearer 22 = .ok (.iload_n 0, 1) := by decide +kernel
theorem dX5_isNearer_23 : decode cX5_isNearer 23 = .ok (.iload_n 1, 1) := by decide +kernel
theorem dX5_isNearer_24 : decode cX5_isNearer 24 = .ok (.if_icmp .le 7, 3) := by decide +kernel
theorem dX5_isNearer_27 : decode cX5_isNearer 27 = .ok (.iconst 1, 1) := by decide +kernel
theorem dX5_isNearer_28 : decode cX5_isNearer 28 = .ok (.goto 4, 3) := by decide +kernel
theorem dX5_isNearer_31 : decode cX5_isNearer 31 = .ok (.iconst 0, 1) := by decide +kernel
theorem dX5_isNearer_32 : decode cX5_isNearer 32 = .ok (.ireturn, 1) := by decide +kernel
set_option maxRecDepth 20000 in
theorem ggX5_leastCore_X5_lookAt : GoodIn wsX5_leastCore wsX5_lookAt := goodIn_r _ [7, 8, 9, 10, 2, 11, 12, 13, 14, 15, 16, 17, 18, 19, 20, 21, 22, 23, 24, 6, 25, 26, 27, 28, 29, 30, 31, 32, 33, 34, 35, 36, 37, 38, 59, 60, 61, 62, 63, 64, 65, 66, 67] (by decide +kernel) (by decide +kernel)
set_option maxRecDepth 20000 in
theorem gX5_leastCore_X5_lookAt : GoodIn wsX5_leastCore (wsV RX5 26 RX5 yX5_lookAt wsX5_lookAt) := goodIn_app (goodIn_of _ (by decide +kernel)) ggX5_leastCore_X5_lookAt
set_option maxRecDepth 20000 in
theorem ggX5_leastCore_X9_all : GoodIn wsX5_leastCore wsX9_all := goodIn_r _ [42, 43, 63, 64, 65, 66, 67] (by decide +kernel) (by decide +kernel)
set_option maxRecDepth 20000 in
theorem gX5_leastCore_X9_all : GoodIn wsX5_leastCore (wsV RX5 30 RX9 yX9_all wsX9_all) := goodIn_app (goodIn_of _ (by decide +kernel)) ggX5_leastCore_X9_all
set_option maxRecDepth 20000 in
theorem ggX5_leastCore_X5_fewestWithoutPoint : GoodIn wsX5_leastCore wsX5_fewestWithoutPoint := goodIn_r _ [47, 48, 49, 50, 51, 52, 53, 54, 55, 56, 57, 6, 58, 1, 59, 60, 61, 62] (by decide +kernel) (by decide +kernel)
set_option maxRecDepth 20000 in
theorem gX5_leastCore_X5_fewestWithoutPoint : GoodIn wsX5_leastCore (wsV RX5 66 RX5 yX5_fewestWithoutPoint wsX5_fewestWithoutPoint) := goodIn_app (goodIn_of _ (by decide +kernel)) ggX5_leastCore_X5_fewestWithoutPoint
theorem dX5_leastCore_0 : decode cX5_leastCore 0 = .ok (.aload_n 0, 1) := by decide +kernel
theorem dX5_leastCore_1 : decode cX5_leastCore 1 = .ok (.aload_n 1, 1) := by decide +kernel
theorem dX5_leastCore_2 : decode cX5_leastCore 2 = .ok (.invokevirtual 26, 3) := by decide +kernel
theorem dX5_leastCore_5 : decode cX5_leastCore 5 = .ok (.aload_n 1, 1) := by decide +kernel
theorem dX5_leastCore_6 : decode cX5_leastCore 6 = .ok (.invokevirtual 30, 3) := by decide +kernel
theorem dX5_leastCore_9 : decode cX5_leastCore 9 = .ok (.istore_n 2, 1) := by decide +kernel
theorem dX5_leastCore_10 : decode cX5_leastCore 10 = .ok (.iconst 0, 1) := by decide +kernel
theorem dX5_leastCore_11 : decode cX5_leastCore 11 = .ok (.istore_n 3, 1) := by decide +kernel
theorem dX5_leastCore_12 : decode cX5_leastCore 12 = .ok (.iload_n 3, 1) := by decide +kernel
theorem dX5_leastCore_13 : decode cX5_leastCore 13 = .ok (.iload_n 2, 1) := by decide +kernel
theorem dX5_leastCore_14 : decode cX5_leastCore 14 = .ok (.if_icmp .gt 16, 3) := by decide +kernel
theorem dX5_leastCore_17 : decode cX5_leastCore 17 = .ok (.aload_n 0, 1) := by decide +kernel
theorem dX5_leastCore_18 : decode cX5_leastCore 18 = .ok (.getfield 18, 3) := by decide +kernel
theorem dX5_leastCore_21 : decode cX5_leastCore 21 = .ok (.iload_n 3, 1) := by decide +kernel
theorem dX5_leastCore_22 : decode cX5_leastCore 22 = .ok (.iconst 0, 1) := by decide +kernel
theorem dX5_leastCore_23 : decode cX5_leastCore 23 = .ok (.bastore, 1) := by decide +kernel
theorem dX5_leastCore_24 : decode cX5_leastCore 24 = .ok (.iinc 3 1, 3) := by decide +kernel
theorem dX5_leastCore_27 : decode cX5_leastCore 27 = .ok (.goto (-15), 3) := by decide +kernel
theorem dX5_leastCore_30 : decode cX5_leastCore 30 = .ok (.iconst 0, 1) := by decide +kernel
theorem dX5_leastCore_31 : decode cX5_leastCore 31 = .ok (.istore_n 3, 1) := by decide +kernel
theorem dX5_leastCore_32 : decode cX5_leastCore 32 = .ok (.iload_n 3, 1) := by decide +kernel
theorem dX5_leastCore_33 : decode cX5_leastCore 33 = .ok (.sipush 4095, 3) := by decide +kernel
theorem dX5_leastCore_36 : decode cX5_leastCore 36 = .ok (.if_icmp .gt 31, 3) := by decide +kernel
theorem dX5_leastCore_39 : decode cX5_leastCore 39 = .ok (.aload_n 0, 1) := by decide +kernel
theorem dX5_leastCore_40 : decode cX5_leastCore 40 = .ok (.getfield 15, 3) := by decide +kernel
theorem dX5_leastCore_43 : decode cX5_leastCore 43 = .ok (.iload_n 3, 1) := by decide +kernel
theorem dX5_leastCore_44 : decode cX5_leastCore 44 = .ok (.iaload, 1) := by decide +kernel
theorem dX5_leastCore_45 : decode cX5_leastCore 45 = .ok (.iconst (-1), 1) := by decide +kernel
theorem dX5_leastCore_46 : decode cX5_leastCore 46 = .ok (.if_icmp .eq 15, 3) := by decide +kernel
theorem dX5_leastCore_49 : decode cX5_leastCore 49 = .ok (.aload_n 0, 1) := by decide +kernel
theorem dX5_leastCore_50 : decode cX5_leastCore 50 = .ok (.getfield 18, 3) := by decide +kernel
theorem dX5_leastCore_53 : decode cX5_leastCore 53 = .ok (.aload_n 0, 1) := by decide +kernel
theorem dX5_leastCore_54 : decode cX5_leastCore 54 = .ok (.getfield 15, 3) := by decide +kernel
theorem dX5_leastCore_57 : decode cX5_leastCore 57 = .ok (.iload_n 3, 1) := by decide +kernel
theorem dX5_leastCore_58 : decode cX5_leastCore 58 = .ok (.iaload, 1) := by decide +kernel
theorem dX5_leastCore_59 : decode cX5_leastCore 59 = .ok (.iconst 1, 1) := by decide +kernel
theorem dX5_leastCore_60 : decode cX5_leastCore 60 = .ok (.bastore, 1) := by decide +kernel
theorem dX5_leastCore_61 : decode cX5_leastCore 61 = .ok (.iinc 3 1, 3) := by decide +kernel
theorem dX5_leastCore_64 : decode cX5_leastCore 64 = .ok (.goto (-32), 3) := by decide +kernel
theorem dX5_leastCore_67 : decode cX5_leastCore 67 = .ok (.aload_n 0, 1) := by decide +kernel
theorem dX5_leastCore_68 : decode cX5_leastCore 68 = .ok (.getfield 18, 3) := by decide +kernel
theorem dX5_leastCore_71 : decode cX5_leastCore 71 = .ok (.iload_n 2, 1) := by decide +kernel
theorem dX5_leastCore_72 : decode cX5_leastCore 72 = .ok (.baload, 1) := by decide +kernel
theorem dX5_leastCore_73 : decode cX5_leastCore 73 = .ok (.ifCond .eq 7, 3) := by decide +kernel
theorem dX5_leastCore_76 : decode cX5_leastCore 76 = .ok (.iconst 0, 1) := by decide +kernel
theorem dX5_leastCore_77 : decode cX5_leastCore 77 = .ok (.goto 8, 3) := by decide +kernel
theorem dX5_leastCore_80 : decode cX5_leastCore 80 = .ok (.aload_n 0, 1) := by decide +kernel
theorem dX5_leastCore_81 : decode cX5_leastCore 81 = .ok (.iload_n 2, 1) := by decide +kernel
theorem dX5_leastCore_82 : decode cX5_leastCore 82 = .ok (.invokevirtual 66, 3) := by decide +kernel
theorem dX5_leastCore_85 : decode cX5_leastCore 85 = .ok (.ireturn, 1) := by decide +kernel
set_option maxRecDepth 20000 in
theorem ggX5_fewestWithoutPoint_J6_bitCount_0f7a4 : GoodIn wsX5_fewestWithoutPoint wsJ6_bitCount_0f7a4 := goodIn_r _ [4, 5, 6, 7] (by decide +kernel) (by decide +kernel)
set_option maxRecDepth 20000 in
theorem gX5_fewestWithoutPoint_J6_bitCount_0f7a4 : GoodIn wsX5_fewestWithoutPoint (va_wsS RX5 69 yJ6_bitCount_0f7a4 wsJ6_bitCount_0f7a4) := goodIn_app (goodIn_of _ (by decide +kernel)) ggX5_fewestWithoutPoint_J6_bitCount_0f7a4
set_option maxRecDepth 20000 in
theorem ggX5_fewestWithoutPoint_X5_leavesNoPoint : GoodIn wsX5_fewestWithoutPoint wsX5_leavesNoPoint := goodIn_r _ [12, 13, 14, 15, 16, 17] (by decide +kernel) (by decide +kernel)
set_option maxRecDepth 20000 in
theorem gX5_fewestWithoutPoint_X5_leavesNoPoint : GoodIn wsX5_fewestWithoutPoint (wsV RX5 74 RX5 yX5_leavesNoPoint wsX5_leavesNoPoint) := goodIn_app (goodIn_of _ (by decide +kernel)) ggX5_fewestWithoutPoint_X5_leavesNoPoint
theorem dX5_fewestWithoutPoint_0 : decode cX5_fewestWithoutPoint 0 = .ok (.iload_n 1, 1) := by decide +kernel
theorem dX5_fewestWithoutPoint_1 : decode cX5_fewestWithoutPoint 1 = .ok (.istore_n 2, 1) := by decide +kernel
theorem dX5_fewestWithoutPoint_2 : decode cX5_fewestWithoutPoint 2 = .ok (.iload_n 1, 1) := by decide +kernel
theorem dX5_fewestWithoutPoint_3 : decode cX5_fewestWithoutPoint 3 = .ok (.istore_n 3, 1) := by decide +kernel
theorem dX5_fewestWithoutPoint_4 : decode cX5_fewestWithoutPoint 4 = .ok (.iload_n 3, 1) := by decide +kernel
theorem dX5_fewestWithoutPoint_5 : decode cX5_fewestWithoutPoint 5 = .ok (.ifCond .le 31, 3) := by decide +kernel
theorem dX5_fewestWithoutPoint_8 : decode cX5_fewestWithoutPoint 8 = .ok (.iload_n 3, 1) := by decide +kernel
theorem dX5_fewestWithoutPoint_9 : decode cX5_fewestWithoutPoint 9 = .ok (.invokestatic 69, 3) := by decide +kernel
theorem dX5_fewestWithoutPoint_12 : decode cX5_fewestWithoutPoint 12 = .ok (.iload_n 2, 1) := by decide +kernel
theorem dX5_fewestWithoutPoint_13 : decode cX5_fewestWithoutPoint 13 = .ok (.invokestatic 69, 3) := by decide +kernel
theorem dX5_fewestWithoutPoint_16 : decode cX5_fewestWithoutPoint 16 = .ok (.if_icmp .gt 14, 3) := by decide +kernel
theorem dX5_fewestWithoutPoint_19 : decode cX5_fewestWithoutPoint 19 = .ok (.aload_n 0, 1) := by decide +kernel
theorem dX5_fewestWithoutPoint_20 : decode cX5_fewestWithoutPoint 20 = .ok (.iload_n 3, 1) := by decide +kernel
theorem dX5_fewestWithoutPoint_21 : decode cX5_fewestWithoutPoint 21 = .ok (.iload_n 1, 1) := by decide +kernel
theorem dX5_fewestWithoutPoint_22 : decode cX5_fewestWithoutPoint 22 = .ok (.invokevirtual 74, 3) := by decide +kernel
theorem dX5_fewestWithoutPoint_25 : decode cX5_fewestWithoutPoint 25 = .ok (.ifCond .eq 5, 3) := by decide +kernel
theorem dX5_fewestWithoutPoint_28 : decode cX5_fewestWithoutPoint 28 = .ok (.iload_n 3, 1) := by decide +kernel
theorem dX5_fewestWithoutPoint_29 : decode cX5_fewestWithoutPoint 29 = .ok (.istore_n 2, 1) := by decide +kernel
theorem dX5_fewestWithoutPoint_30 : decode cX5_fewestWithoutPoint 30 = .ok (.iinc 3 (-1), 3) := by decide +kernel
theorem dX5_fewestWithoutPoint_33 : decode cX5_fewestWithoutPoint 33 = .ok (.goto (-29), 3) := by decide +kernel
theorem dX5_fewestWithoutPoint_36 : decode cX5_fewestWithoutPoint 36 = .ok (.iload_n 2, 1) := by decide +kernel
theorem dX5_fewestWithoutPoint_37 : decode cX5_fewestWithoutPoint 37 = .ok (.ireturn, 1) := by decide +kernel
theorem dX5_leavesNoPoint_0 : decode cX5_leavesNoPoint 0 = .ok (.iload_n 1, 1) := by decide +kernel
theorem dX5_leavesNoPoint_1 : decode cX5_leavesNoPoint 1 = .ok (.istore_n 3, 1) := by decide +kernel
theorem dX5_leavesNoPoint_2 : decode cX5_leavesNoPoint 2 = .ok (.iload_n 3, 1) := by decide +kernel
theorem dX5_leavesNoPoint_3 : decode cX5_leavesNoPoint 3 = .ok (.iload_n 2, 1) := by decide +kernel
theorem dX5_leavesNoPoint_4 : decode cX5_leavesNoPoint 4 = .ok (.if_icmp .gt 27, 3) := by decide +kernel
theorem dX5_leavesNoPoint_7 : decode cX5_leavesNoPoint 7 = .ok (.aload_n 0, 1) := by decide +kernel
theorem dX5_leavesNoPoint_8 : decode cX5_leavesNoPoint 8 = .ok (.getfield 18, 3) := by decide +kernel
theorem dX5_leavesNoPoint_11 : decode cX5_leavesNoPoint 11 = .ok (.iload_n 3, 1) := by decide +kernel
theorem dX5_leavesNoPoint_12 : decode cX5_leavesNoPoint 12 = .ok (.baload, 1) := by decide +kernel
theorem dX5_leavesNoPoint_13 : decode cX5_leavesNoPoint 13 = .ok (.ifCond .eq 12, 3) := by decide +kernel
theorem dX5_leavesNoPoint_16 : decode cX5_leavesNoPoint 16 = .ok (.iload_n 3, 1) := by decide +kernel
theorem dX5_leavesNoPoint_17 : decode cX5_leavesNoPoint 17 = .ok (.iload_n 1, 1) := by decide +kernel
theorem dX5_leavesNoPoint_18 : decode cX5_leavesNoPoint 18 = .ok (.iand, 1) := by decide +kernel
theorem dX5_leavesNoPoint_19 : decode cX5_leavesNoPoint 19 = .ok (.iload_n 1, 1) := by decide +kernel
theorem dX5_leavesNoPoint_20 : decode cX5_leavesNoPoint 20 = .ok (.if_icmp .ne 5, 3) := by decide +kernel
theorem dX5_leavesNoPoint_23 : decode cX5_leavesNoPoint 23 = .ok (.iconst 0, 1) := by decide +kernel
theorem dX5_leavesNoPoint_24 : decode cX5_leavesNoPoint 24 = .ok (.ireturn, 1) := by decide +kernel
theorem dX5_leavesNoPoint_25 : decode cX5_leavesNoPoint 25 = .ok (.iinc 3 1, 3) := by decide +kernel
theorem dX5_leavesNoPoint_28 : decode cX5_leavesNoPoint 28 = .ok (.goto (-26), 3) := by decide +kernel
theorem dX5_leavesNoPoint_31 : decode cX5_leavesNoPoint 31 = .ok (.iconst 1, 1) := by decide +kernel
theorem dX5_leavesNoPoint_32 : decode cX5_leavesNoPoint 32 = .ok (.ireturn, 1) := by decide +kernel
set_option maxRecDepth 20000 in
theorem ggX5_lookAt_X9_isInBox : GoodIn wsX5_lookAt wsX9_isInBox := goodIn_r _ [10, 11, 12, 13, 14, 15, 38, 39, 40, 41, 42] (by decide +kernel) (by decide +kernel)
set_option maxRecDepth 20000 in
theorem gX5_lookAt_X9_isInBox : GoodIn wsX5_lookAt (wsV RX5 80 RX9 yX9_isInBox wsX9_isInBox) := goodIn_app (goodIn_of _ (by decide +kernel)) ggX5_lookAt_X9_isInBox
set_option maxRecDepth 20000 in
theorem ggX5_lookAt_X5_noteLine : GoodIn wsX5_lookAt wsX5_noteLine := goodIn_r _ [20, 4, 21, 22, 23, 9, 24, 25, 26, 27, 28, 29, 12, 13, 14, 15, 30, 31, 32, 33, 34, 35, 36, 37, 38, 39, 40, 41, 42] (by decide +kernel) (by decide +kernel)
set_option maxRecDepth 20000 in
theorem gX5_lookAt_X5_noteLine : GoodIn wsX5_lookAt (wsV RX5 87 RX5 yX5_noteLine wsX5_noteLine) := goodIn_app (goodIn_of _ (by decide +kernel)) ggX5_lookAt_X5_noteLine
theorem dX5_lookAt_0 : decode cX5_lookAt 0 = .ok (.aload_n 0, 1) := by decide +kernel
theorem dX5_lookAt_1 : decode cX5_lookAt 1 = .ok (.getfield 22, 3) := by decide +kernel
theorem dX5_lookAt_4 : decode cX5_lookAt 4 = .ok (.aload_n 1, 1) := by decide +kernel
theorem dX5_lookAt_5 : decode cX5_lookAt 5 = .ok (.getfield 77, 3) := by decide +kernel
theorem dX5_lookAt_8 : decode cX5_lookAt 8 = .ok (.if_icmp .ne 4, 3) := by decide +kernel
theorem dX5_lookAt_11 : decode cX5_lookAt 11 = .ok (.return_, 1) := by decide +kernel
theorem dX5_lookAt_12 : decode cX5_lookAt 12 = .ok (.iconst 0, 1) := by decide +kernel
theorem dX5_lookAt_13 : decode cX5_lookAt 13 = .ok (.istore_n 2, 1) := by decide +kernel
theorem dX5_lookAt_14 : decode cX5_lookAt 14 = .ok (.iload_n 2, 1) := by decide +kernel
theorem dX5_lookAt_15 : decode cX5_lookAt 15 = .ok (.sipush 4095, 3) := by decide +kernel
theorem dX5_lookAt_18 : decode cX5_lookAt 18 = .ok (.if_icmp .gt 91, 3) := by decide +kernel
theorem dX5_lookAt_21 : decode cX5_lookAt 21 = .ok (.aload_n 1, 1) := by decide +kernel
theorem dX5_lookAt_22 : decode cX5_lookAt 22 = .ok (.iload_n 2, 1) := by decide +kernel
theorem dX5_lookAt_23 : decode cX5_lookAt 23 = .ok (.invokevirtual 80, 3) := by decide +kernel
theorem dX5_lookAt_26 : decode cX5_lookAt 26 = .ok (.ifCond .eq 10, 3) := by decide +kernel
theorem dX5_lookAt_29 : decode cX5_lookAt 29 = .ok (.aload_n 1, 1) := by decide +kernel
theorem dX5_lookAt_30 : decode cX5_lookAt 30 = .ok (.getfield 84, 3) := by decide +kernel
theorem dX5_lookAt_33 : decode cX5_lookAt 33 = .ok (.goto 4, 3) := by decide +kernel
theorem dX5_lookAt_36 : decode cX5_lookAt 36 = .ok (.iconst (-1), 1) := by decide +kernel
theorem dX5_lookAt_37 : decode cX5_lookAt 37 = .ok (.istore_n 3, 1) := by decide +kernel
theorem dX5_lookAt_38 : decode cX5_lookAt 38 = .ok (.iconst 0, 1) := by decide +kernel
theorem dX5_lookAt_39 : decode cX5_lookAt 39 = .ok (.istore 4, 2) := by decide +kernel
theorem dX5_lookAt_41 : decode cX5_lookAt 41 = .ok (.iload 4, 2) := by decide +kernel
theorem dX5_lookAt_43 : decode cX5_lookAt 43 = .ok (.bipush 8, 2) := by decide +kernel
theorem dX5_lookAt_45 : decode cX5_lookAt 45 = .ok (.if_icmp .ge 29, 3) := by decide +kernel
theorem dX5_lookAt_48 : decode cX5_lookAt 48 = .ok (.aload_n 0, 1) := by decide +kernel
theorem dX5_lookAt_49 : decode cX5_lookAt 49 = .ok (.getfield 15, 3) := by decide +kernel
theorem dX5_lookAt_52 : decode cX5_lookAt 52 = .ok (.iload_n 2, 1) := by decide +kernel
theorem dX5_lookAt_53 : decode cX5_lookAt 53 = .ok (.iload 4, 2) := by decide +kernel
theorem dX5_lookAt_55 : decode cX5_lookAt 55 = .ok (.iadd, 1) := by decide +kernel
theorem dX5_lookAt_56 : decode cX5_lookAt 56 = .ok (.iload 4, 2) := by decide +kernel
theorem dX5_lookAt_58 : decode cX5_lookAt 58 = .ok (.iload_n 3, 1) := by decide +kernel
theorem dX5_lookAt_59 : decode cX5_lookAt 59 = .ok (.if_icmp .gt 7, 3) := by decide +kernel
theorem dX5_lookAt_62 : decode cX5_lookAt 62 = .ok (.iconst 0, 1) := by decide +kernel
theorem dX5_lookAt_63 : decode cX5_lookAt 63 = .ok (.goto 4, 3) := by decide +kernel
theorem dX5_lookAt_66 : decode cX5_lookAt 66 = .ok (.iconst (-1), 1) := by decide +kernel
theorem dX5_lookAt_67 : decode cX5_lookAt 67 = .ok (.iastore, 1) := by decide +kernel
theorem dX5_lookAt_68 : decode cX5_lookAt 68 = .ok (.iinc 4 1, 3) := by decide +kernel
theorem dX5_lookAt_71 : decode cX5_lookAt 71 = .ok (.goto (-30), 3) := by decide +kernel
theorem dX5_lookAt_74 : decode cX5_lookAt 74 = .ok (.iconst 0, 1) := by decide +kernel
theorem dX5_lookAt_75 : decode cX5_lookAt 75 = .ok (.istore 4, 2) := by decide +kernel
theorem dX5_lookAt_77 : decode cX5_lookAt 77 = .ok (.iload 4, 2) := by decide +kernel
theorem dX5_lookAt_79 : decode cX5_lookAt 79 = .ok (.aload_n 1, 1) := by decide +kernel
theorem dX5_lookAt_80 : decode cX5_lookAt 80 = .ok (.getfield 42, 3) := by decide +kernel
theorem dX5_lookAt_83 : decode cX5_lookAt 83 = .ok (.if_icmp .ge 20, 3) := by decide +kernel
theorem dX5_lookAt_86 : decode cX5_lookAt 86 = .ok (.aload_n 0, 1) := by decide +kernel
theorem dX5_lookAt_87 : decode cX5_lookAt 87 = .ok (.aload_n 1, 1) := by decide +kernel
theorem dX5_lookAt_88 : decode cX5_lookAt 88 = .ok (.iload 4, 2) := by decide +kernel
theorem dX5_lookAt_90 : decode cX5_lookAt 90 = .ok (.iload_n 2, 1) := by decide +kernel
theorem dX5_lookAt_91 : decode cX5_lookAt 91 = .ok (.iload_n 2, 1) := by decide +kernel
theorem dX5_lookAt_92 : decode cX5_lookAt 92 = .ok (.iload_n 3, 1) := by decide +kernel
theorem dX5_lookAt_93 : decode cX5_lookAt 93 = .ok (.iadd, 1) := by decide +kernel
theorem dX5_lookAt_94 : decode cX5_lookAt 94 = .ok (.invokevirtual 87, 3) := by decide +kernel
theorem dX5_lookAt_97 : decode cX5_lookAt 97 = .ok (.iinc 4 1, 3) := by decide +kernel
theorem dX5_lookAt_100 : decode cX5_lookAt 100 = .ok (.goto (-23), 3) := by decide +kernel
theorem dX5_lookAt_103 : decode cX5_lookAt 103 = .ok (.iinc 2 8, 3) := by decide +kernel
theorem dX5_lookAt_106 : decode cX5_lookAt 106 = .ok (.goto (-92), 3) := by decide +kernel
theorem dX5_lookAt_109 : decode cX5_lookAt 109 = .ok (.aload_n 0, 1) := by decide +kernel
theorem dX5_lookAt_110 : decode cX5_lookAt 110 = .ok (.aload_n 1, 1) := by decide +kernel
theorem dX5_lookAt_111 : decode cX5_lookAt 111 = .ok (.getfield 77, 3) := by decide +kernel
theorem dX5_lookAt_114 : decode cX5_lookAt 114 = .ok (.putfield 22, 3) := by decide +kernel
theorem dX5_lookAt_117 : decode cX5_lookAt 117 = .ok (.return_, 1) := by decide +kernel
set_option maxRecDepth 20000 in
theorem ggX5_noteLine_X9_cell : GoodIn wsX5_noteLine wsX9_cell := goodIn_r _ [6, 7, 24, 25, 26, 27, 28] (by decide +kernel) (by decide +kernel)
set_option maxRecDepth 20000 in
theorem gX5_noteLine_X9_cell : GoodIn wsX5_noteLine (wsV RX5 45 RX9 yX9_cell wsX9_cell) := goodIn_app (goodIn_of _ (by decide +kernel)) ggX5_noteLine_X9_cell
set_option maxRecDepth 20000 in
theorem ggX5_noteLine_X9_sumAt : GoodIn wsX5_noteLine wsX9_sumAt := goodIn_r _ [11, 7, 12, 13, 14, 15, 24, 25, 26, 27, 28] (by decide +kernel) (by decide +kernel)
set_option maxRecDepth 20000 in
theorem gX5_noteLine_X9_sumAt : GoodIn wsX5_noteLine (wsV RX5 48 RX9 yX9_sumAt wsX9_sumAt) := goodIn_app (goodIn_of _ (by decide +kernel)) ggX5_noteLine_X9_sumAt
set_option maxRecDepth 20000 in
theorem ggX5_noteLine_X1_holds : GoodIn wsX5_noteLine wsX1_holds := goodIn_r _ [19] (by decide +kernel) (by decide +kernel)
set_option maxRecDepth 20000 in
theorem gX5_noteLine_X1_holds : GoodIn wsX5_noteLine (va_wsS RX5 91 yX1_holds wsX1_holds) := goodIn_app (goodIn_of _ (by decide +kernel)) ggX5_noteLine_X1_holds
theorem dX5_noteLine_0 : decode cX5_noteLine 0 = .ok (.aload_n 1, 1) := by decide +kernel
theorem dX5_noteLine_1 : decode cX5_noteLine 1 = .ok (.iload_n 2, 1) := by decide +kernel
theorem dX5_noteLine_2 : decode cX5_noteLine 2 = .ok (.iconst 5, 1) := by decide +kernel
theorem dX5_noteLine_3 : decode cX5_noteLine 3 = .ok (.invokevirtual 45, 3) := by decide +kernel
theorem dX5_noteLine_6 : decode cX5_noteLine 6 = .ok (.istore 5, 2) := by decide +kernel
theorem dX5_noteLine_8 : decode cX5_noteLine 8 = .ok (.aload_n 1, 1) := by decide +kernel
theorem dX5_noteLine_9 : decode cX5_noteLine 9 = .ok (.iload_n 2, 1) := by decide +kernel
theorem dX5_noteLine_10 : decode cX5_noteLine 10 = .ok (.iconst 3, 1) := by decide +kernel
theorem dX5_noteLine_11 : decode cX5_noteLine 11 = .ok (.invokevirtual 45, 3) := by decide +kernel
theorem dX5_noteLine_14 : decode cX5_noteLine 14 = .ok (.istore 6, 2) := by decide +kernel
theorem dX5_noteLine_16 : decode cX5_noteLine 16 = .ok (.aload_n 1, 1) := by decide +kernel
theorem dX5_noteLine_17 : decode cX5_noteLine 17 = .ok (.iload_n 2, 1) := by decide +kernel
theorem dX5_noteLine_18 : decode cX5_noteLine 18 = .ok (.iload_n 3, 1) := by decide +kernel
theorem dX5_noteLine_19 : decode cX5_noteLine 19 = .ok (.invokevirtual 48, 3) := by decide +kernel
theorem dX5_noteLine_22 : decode cX5_noteLine 22 = .ok (.istore 7, 2) := by decide +kernel
theorem dX5_noteLine_24 : decode cX5_noteLine 24 = .ok (.iload_n 3, 1) := by decide +kernel
theorem dX5_noteLine_25 : decode cX5_noteLine 25 = .ok (.istore 8, 2) := by decide +kernel
theorem dX5_noteLine_27 : decode cX5_noteLine 27 = .ok (.iload 8, 2) := by decide +kernel
theorem dX5_noteLine_29 : decode cX5_noteLine 29 = .ok (.iload 4, 2) := by decide +kernel
theorem dX5_noteLine_31 : decode cX5_noteLine 31 = .ok (.if_icmp .gt 39, 3) := by decide +kernel
theorem dX5_noteLine_34 : decode cX5_noteLine 34 = .ok (.iload 5, 2) := by decide +kernel
theorem dX5_noteLine_36 : decode cX5_noteLine 36 = .ok (.iload 7, 2) := by decide +kernel
theorem dX5_noteLine_38 : decode cX5_noteLine 38 = .ok (.invokestatic 91, 3) := by decide +kernel
theorem dX5_noteLine_41 : decode cX5_noteLine 41 = .ok (.ifCond .eq 16, 3) := by decide +kernel
theorem dX5_noteLine_44 : decode cX5_noteLine 44 = .ok (.aload_n 0, 1) := by decide +kernel
theorem dX5_noteLine_45 : decode cX5_noteLine 45 = .ok (.getfield 15, 3) := by decide +kernel
theorem dX5_noteLine_48 : decode cX5_noteLine 48 = .ok (.iload 8, 2) := by decide +kernel
theorem dX5_noteLine_50 : decode cX5_noteLine 50 = .ok (.dup2, 1) := by decide +kernel
theorem dX5_noteLine_51 : decode cX5_noteLine 51 = .ok (.iaload, 1) := by decide +kernel
theorem dX5_noteLine_52 : decode cX5_noteLine 52 = .ok (.iconst 1, 1) := by decide +kernel
theorem dX5_noteLine_53 : decode cX5_noteLine 53 = .ok (.iload_n 2, 1) := by decide +kernel
theorem dX5_noteLine_54 : decode cX5_noteLine 54 = .ok (.ishl, 1) := by decide +kernel
theorem dX5_noteLine_55 : decode cX5_noteLine 55 = .ok (.ior, 1) := by decide +kernel
theorem dX5_noteLine_56 : decode cX5_noteLine 56 = .ok (.iastore, 1) := by decide +kernel
theorem dX5_noteLine_57 : decode cX5_noteLine 57 = .ok (.iload 7, 2) := by decide +kernel
theorem dX5_noteLine_59 : decode cX5_noteLine 59 = .ok (.iload 6, 2) := by decide +kernel
theorem dX5_noteLine_61 : decode cX5_noteLine 61 = .ok (.iadd, 1) := by decide +kernel
theorem dX5_noteLine_62 : decode cX5_noteLine 62 = .ok (.istore 7, 2) := by decide +kernel
theorem dX5_noteLine_64 : decode cX5_noteLine 64 = .ok (.iinc 8 1, 3) := by decide +kernel
theorem dX5_noteLine_67 : decode cX5_noteLine 67 = .ok (.goto (-40), 3) := by decide +kernel
theorem dX5_noteLine_70 : decode cX5_noteLine 70 = .ok (.return_, 1) := by decide +kernel
set_option maxRecDepth 20000 in
theorem ggX6_init_X4_init : GoodIn wsX6_init wsX4_init := goodIn_r _ [12, 13, 2, 3, 14, 15, 16, 17] (by decide +kernel) (by decide +kernel)
set_option maxRecDepth 20000 in
theorem gX6_init_X4_init : GoodIn wsX6_init (wsX4_init) := ggX6_init_X4_init
theorem dX6_init_0 : decode cX6_init 0 = .ok (.aload_n 0, 1) := by decide +kernel
theorem dX6_init_1 : decode cX6_init 1 = .ok (.invokespecial 3, 3) := by decide +kernel
theorem dX6_init_4 : decode cX6_init 4 = .ok (.aload_n 0, 1) := by decide +kernel
theorem dX6_init_5 : decode cX6_init 5 = .ok (.new 9, 3) := by decide +kernel
theorem dX6_init_8 : decode cX6_init 8 = .ok (.dup, 1) := by decide +kernel
theorem dX6_init_9 : decode cX6_init 9 = .ok (.bipush 18, 2) := by decide +kernel
theorem dX6_init_11 : decode cX6_init 11 = .ok (.invokespecial 13, 3) := by decide +kernel
theorem dX6_init_14 : decode cX6_init 14 = .ok (.putfield 16, 3) := by decide +kernel
theorem dX6_init_17 : decode cX6_init 17 = .ok (.aload_n 0, 1) := by decide +kernel
theorem dX6_init_18 : decode cX6_init 18 = .ok (.new 9, 3) := by decide +kernel
theorem dX6_init_21 : decode cX6_init 21 = .ok (.dup, 1) := by decide +kernel
theorem dX6_init_22 : decode cX6_init 22 = .ok (.bipush 81, 2) := by decide +kernel
theorem dX6_init_24 : decode cX6_init 24 = .ok (.invokespecial 13, 3) := by decide +kernel
theorem dX6_init_27 : decode cX6_init 27 = .ok (.putfield 20, 3) := by decide +kernel
theorem dX6_init_30 : decode cX6_init 30 = .ok (.aload_n 0, 1) := by decide +kernel
theorem dX6_init_31 : decode cX6_init 31 = .ok (.new 9, 3) := by decide +kernel
theorem dX6_init_34 : decode cX6_init 34 = .ok (.dup, 1) := by decide +kernel
theorem dX6_init_35 : decode cX6_init 35 = .ok (.bipush 81, 2) := by decide +kernel
theorem dX6_init_37 : decode cX6_init 37 = .ok (.invokespecial 13, 3) := by decide +kernel
theorem dX6_init_40 : decode cX6_init 40 = .ok (.putfield 23, 3) := by decide +kernel
theorem dX6_init_43 : decode cX6_init 43 = .ok (.return_, 1) := by decide +kernel
set_option maxRecDepth 20000 in
theorem ggX6_shadowOf_X6_gatherRows : GoodIn wsX6_shadowOf wsX6_gatherRows := goodIn_r _ [7, 8, 9, 10, 11, 12, 13, 14, 15, 16, 17, 18, 19, 20, 21, 22, 23, 24, 25, 26, 27, 28, 29, 63, 64, 65, 66, 67, 68, 69, 70, 71, 72] (by decide +kernel) (by decide +kernel)
set_option maxRecDepth 20000 in
theorem gX6_shadowOf_X6_gatherRows : GoodIn wsX6_shadowOf (wsV RX6 26 RX6 yX6_gatherRows wsX6_gatherRows) := goodIn_app (goodIn_of _ (by decide +kernel)) ggX6_shadowOf_X6_gatherRows
set_option maxRecDepth 20000 in
theorem ggX6_shadowOf_X6_castShadow : GoodIn wsX6_shadowOf wsX6_castShadow := goodIn_r _ [33, 9, 8, 34, 35, 36, 21, 37, 23, 38, 39, 40, 41, 24, 42, 43, 44, 45, 46, 47, 48, 49, 50, 51, 52, 53, 54, 55, 56, 57, 58, 59, 60, 61, 62, 66, 67, 63, 64, 65] (by decide +kernel) (by decide +kernel)
set_option maxRecDepth 20000 in
theorem gX6_shadowOf_X6_castShadow : GoodIn wsX6_shadowOf (wsV RX6 30 RX6 yX6_castShadow wsX6_castShadow) := goodIn_app (goodIn_of _ (by decide +kernel)) ggX6_shadowOf_X6_castShadow
theorem dX6_shadowOf_0 : decode cX6_shadowOf 0 = .ok (.aload_n 0, 1) := by decide +kernel
theorem dX6_shadowOf_1 : decode cX6_shadowOf 1 = .ok (.aload_n 1, 1) := by decide +kernel
theorem dX6_shadowOf_2 : decode cX6_shadowOf 2 = .ok (.iload_n 2, 1) := by decide +kernel
theorem dX6_shadowOf_3 : decode cX6_shadowOf 3 = .ok (.invokevirtual 26, 3) := by decide +kernel
theorem dX6_shadowOf_6 : decode cX6_shadowOf 6 = .ok (.iload_n 3, 1) := by decide +kernel
theorem dX6_shadowOf_7 : decode cX6_shadowOf 7 = .ok (.ifCond .eq 10, 3) := by decide +kernel
theorem dX6_shadowOf_10 : decode cX6_shadowOf 10 = .ok (.aload_n 0, 1) := by decide +kernel
theorem dX6_shadowOf_11 : decode cX6_shadowOf 11 = .ok (.getfield 23, 3) := by decide +kernel
theorem dX6_shadowOf_14 : decode cX6_shadowOf 14 = .ok (.goto 7, 3) := by decide +kernel
theorem dX6_shadowOf_17 : decode cX6_shadowOf 17 = .ok (.aload_n 0, 1) := by decide +kernel
theorem dX6_shadowOf_18 : decode cX6_shadowOf 18 = .ok (.getfield 20, 3) := by decide +kernel
theorem dX6_shadowOf_21 : decode cX6_shadowOf 21 = .ok (.astore 4, 2) := by decide +kernel
theorem dX6_shadowOf_23 : decode cX6_shadowOf 23 = .ok (.aload_n 0, 1) := by decide +kernel
theorem dX6_shadowOf_24 : decode cX6_shadowOf 24 = .ok (.aload 4, 2) := by decide +kernel
theorem dX6_shadowOf_26 : decode cX6_shadowOf 26 = .ok (.iload_n 2, 1) := by decide +kernel
theorem dX6_shadowOf_27 : decode cX6_shadowOf 27 = .ok (.iload_n 3, 1) := by decide +kernel
theorem dX6_shadowOf_28 : decode cX6_shadowOf 28 = .ok (.invokevirtual 30, 3) := by decide +kernel
theorem dX6_shadowOf_31 : decode cX6_shadowOf 31 = .ok (.aload 4, 2) := by decide +kernel
theorem dX6_shadowOf_33 : decode cX6_shadowOf 33 = .ok (.areturn, 1) := by decide +kernel
set_option maxRecDepth 20000 in
theorem ggX6_depth_X6_gatherRows : GoodIn wsX6_depth wsX6_gatherRows := goodIn_r _ [7, 8, 9, 10, 11, 12, 13, 14, 15, 16, 17, 18, 19, 20, 21, 22, 23, 24, 25, 26, 27, 28, 29, 93, 94, 95, 96, 97, 98, 99, 100, 101, 102] (by decide +kernel) (by decide +kernel)
set_option maxRecDepth 20000 in
theorem gX6_depth_X6_gatherRows : GoodIn wsX6_depth (wsV RX6 26 RX6 yX6_gatherRows wsX6_gatherRows) := goodIn_app (goodIn_of _ (by decide +kernel)) ggX6_depth_X6_gatherRows
set_option maxRecDepth 20000 in
theorem ggX6_depth_X6_castShadow : GoodIn wsX6_depth wsX6_castShadow := goodIn_r _ [33, 9, 8, 34, 35, 36, 21, 37, 23, 38, 39, 40, 41, 24, 42, 43, 44, 45, 46, 47, 48, 49, 50, 51, 52, 53, 54, 55, 56, 57, 58, 59, 60, 61, 62, 96, 97, 93, 94, 95] (by decide +kernel) (by decide +kernel)
set_option maxRecDepth 20000 in
theorem gX6_depth_X6_castShadow : GoodIn wsX6_depth (wsV RX6 30 RX6 yX6_castShadow wsX6_castShadow) := goodIn_app (goodIn_of _ (by decide +kernel)) ggX6_depth_X6_castShadow
set_option maxRecDepth 20000 in
theorem ggX6_depth_X3_valueOf : GoodIn wsX6_depth wsX3_valueOf := goodIn_r _ [66] (by decide +kernel) (by decide +kernel)
set_option maxRecDepth 20000 in
theorem gX6_depth_X3_valueOf : GoodIn wsX6_depth (va_wsS RX6 34 yX3_valueOf wsX3_valueOf) := goodIn_app (goodIn_of _ (by decide +kernel)) ggX6_depth_X3_valueOf
set_option maxRecDepth 20000 in
theorem ggX6_depth_X9_isInBox : GoodIn wsX6_depth wsX9_isInBox := goodIn_r _ [70, 71, 72, 64, 65, 66, 98, 99, 100, 101, 102] (by decide +kernel) (by decide +kernel)
set_option maxRecDepth 20000 in
theorem gX6_depth_X9_isInBox : GoodIn wsX6_depth (wsV RX6 40 RX9 yX9_isInBox wsX9_isInBox) := goodIn_app (goodIn_of _ (by decide +kernel)) ggX6_depth_X9_isInBox
set_option maxRecDepth 20000 in
theorem ggX6_depth_X6_isCounted : GoodIn wsX6_depth wsX6_isCounted := goodIn_r _ [76, 1, 2, 77, 78, 79, 21, 80, 24, 23, 81, 64, 65, 66, 82, 83, 84, 6, 85, 11, 8, 86, 87, 88, 89, 90, 91, 92, 93, 94, 95, 96, 97, 98, 99, 100, 101, 102] (by decide +kernel) (by decide +kernel)
set_option maxRecDepth 20000 in
theorem gX6_depth_X6_isCounted : GoodIn wsX6_depth (wsV RX6 46 RX6 yX6_isCounted wsX6_isCounted) := goodIn_app (goodIn_of _ (by decide +kernel)) ggX6_depth_X6_isCounted
theorem dX6_depth_0 : decode cX6_depth 0 = .ok (.aload_n 0, 1) := by decide +kernel
theorem dX6_depth_1 : decode cX6_depth 1 = .ok (.aload_n 1, 1) := by decide +kernel
theorem dX6_depth_2 : decode cX6_depth 2 = .ok (.iload_n 2, 1) := by decide +kernel
theorem dX6_depth_3 : decode cX6_depth 3 = .ok (.invokevirtual 26, 3) := by decide +kernel
theorem dX6_depth_6 : decode cX6_depth 6 = .ok (.aload_n 0, 1) := by decide +kernel
theorem dX6_depth_7 : decode cX6_depth 7 = .ok (.aload_n 0, 1) := by decide +kernel
theorem dX6_depth_8 : decode cX6_depth 8 = .ok (.getfield 20, 3) := by decide +kernel
theorem dX6_depth_11 : decode cX6_depth 11 = .ok (.iload_n 2, 1) := by decide +kernel
theorem dX6_depth_12 : decode cX6_depth 12 = .ok (.iconst 0, 1) := by decide +kernel
theorem dX6_depth_13 : decode cX6_depth 13 = .ok (.invokevirtual 30, 3) := by decide +kernel
theorem dX6_depth_16 : decode cX6_depth 16 = .ok (.aload_n 0, 1) := by decide +kernel
theorem dX6_depth_17 : decode cX6_depth 17 = .ok (.aload_n 0, 1) := by decide +kernel
theorem dX6_depth_18 : decode cX6_depth 18 = .ok (.getfield 23, 3) := by decide +kernel
theorem dX6_depth_21 : decode cX6_depth 21 = .ok (.iload_n 2, 1) := by decide +kernel
theorem dX6_depth_22 : decode cX6_depth 22 = .ok (.iconst 1, 1) := by decide +kernel
theorem dX6_depth_23 : decode cX6_depth 23 = .ok (.invokevirtual 30, 3) := by decide +kernel
theorem dX6_depth_26 : decode cX6_depth 26 = .ok (.iconst 0, 1) := by decide +kernel
theorem dX6_depth_27 : decode cX6_depth 27 = .ok (.istore 4, 2) := by decide +kernel
theorem dX6_depth_29 : decode cX6_depth 29 = .ok (.iconst 0, 1) := by decide +kernel
theorem dX6_depth_30 : decode cX6_depth 30 = .ok (.istore 5, 2) := by decide +kernel
theorem dX6_depth_32 : decode cX6_depth 32 = .ok (.iload 5, 2) := by decide +kernel
theorem dX6_depth_34 : decode cX6_depth 34 = .ok (.sipush 4095, 3) := by decide +kernel
theorem dX6_depth_37 : decode cX6_depth 37 = .ok (.if_icmp .gt 49, 3) := by decide +kernel
theorem dX6_depth_40 : decode cX6_depth 40 = .ok (.iload 5, 2) := by decide +kernel
theorem dX6_depth_42 : decode cX6_depth 42 = .ok (.iload_n 2, 1) := by decide +kernel
theorem dX6_depth_43 : decode cX6_depth 43 = .ok (.invokestatic 34, 3) := by decide +kernel
theorem dX6_depth_46 : decode cX6_depth 46 = .ok (.ifCond .ne 34, 3) := by decide +kernel
theorem dX6_depth_49 : decode cX6_depth 49 = .ok (.aload_n 1, 1) := by decide +kernel
theorem dX6_depth_50 : decode cX6_depth 50 = .ok (.iload 5, 2) := by decide +kernel
theorem dX6_depth_52 : decode cX6_depth 52 = .ok (.invokevirtual 40, 3) := by decide +kernel
theorem dX6_depth_55 : decode cX6_depth 55 = .ok (.ifCond .eq 25, 3) := by decide +kernel
theorem dX6_depth_58 : decode cX6_depth 58 = .ok (.iload 4, 2) := by decide +kernel
theorem dX6_depth_60 : decode cX6_depth 60 = .ok (.aload_n 0, 1) := by decide +kernel
theorem dX6_depth_61 : decode cX6_depth 61 = .ok (.aload_n 1, 1) := by decide +kernel
theorem dX6_depth_62 : decode cX6_depth 62 = .ok (.iload_n 2, 1) := by decide +kernel
theorem dX6_depth_63 : decode cX6_depth 63 = .ok (.iload 5, 2) := by decide +kernel
theorem dX6_depth_65 : decode cX6_depth 65 = .ok (.iload_n 3, 1) := by decide +kernel

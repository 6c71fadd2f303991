theorem dX11_reads_199 : decode cX11_reads 199 = .ok (.ifCond .lt 7, 3) := by decide +kernel
theorem dX11_reads_202 : decode cX11_reads 202 = .ok (.iconst 1, 1) := by decide +kernel
theorem dX11_reads_203 : decode cX11_reads 203 = .ok (.goto 4, 3) := by decide +kernel
theorem dX11_reads_206 : decode cX11_reads 206 = .ok (.iconst 0, 1) := by decide +kernel
theorem dX11_reads_207 : decode cX11_reads 207 = .ok (.ireturn, 1) := by decide +kernel
set_option maxRecDepth 20000 in
theorem ggX11_fault_X11_here : GoodIn wsX11_fault wsX11_here := goodIn_r _ [8, 3, 2, 9, 10, 11, 12, 13, 14, 15, 16, 17, 18, 19, 20, 21, 22, 23, 24, 25, 26, 27, 28, 29, 30, 31, 32] (by decide +kernel) (by decide +kernel)
set_option maxRecDepth 20000 in
theorem gX11_fault_X11_here : GoodIn wsX11_fault (wsV RX11 140 RX11 yX11_here wsX11_here) := goodIn_app (goodIn_of _ (by decide +kernel)) ggX11_fault_X11_here
theorem dX11_fault_0 : decode cX11_fault 0 = .ok (.aload_n 0, 1) := by decide +kernel
theorem dX11_fault_1 : decode cX11_fault 1 = .ok (.invokevirtual 140, 3) := by decide +kernel
theorem dX11_fault_4 : decode cX11_fault 4 = .ok (.ifCond .ne 7, 3) := by decide +kernel
theorem dX11_fault_7 : decode cX11_fault 7 = .ok (.iconst 1, 1) := by decide +kernel
theorem dX11_fault_8 : decode cX11_fault 8 = .ok (.goto 4, 3) := by decide +kernel
theorem dX11_fault_11 : decode cX11_fault 11 = .ok (.iconst 0, 1) := by decide +kernel
theorem dX11_fault_12 : decode cX11_fault 12 = .ok (.istore_n 1, 1) := by decide +kernel
theorem dX11_fault_13 : decode cX11_fault 13 = .ok (.ldc 161, 2) := by decide +kernel
theorem dX11_fault_15 : decode cX11_fault 15 = .ok (.iload_n 1, 1) := by decide +kernel
theorem dX11_fault_16 : decode cX11_fault 16 = .ok (.ifCond .eq 10, 3) := by decide +kernel
theorem dX11_fault_19 : decode cX11_fault 19 = .ok (.aload_n 0, 1) := by decide +kernel
theorem dX11_fault_20 : decode cX11_fault 20 = .ok (.getfield 134, 3) := by decide +kernel
theorem dX11_fault_23 : decode cX11_fault 23 = .ok (.goto 7, 3) := by decide +kernel
theorem dX11_fault_26 : decode cX11_fault 26 = .ok (.aload_n 0, 1) := by decide +kernel
theorem dX11_fault_27 : decode cX11_fault 27 = .ok (.getfield 137, 3) := by decide +kernel
theorem dX11_fault_30 : decode cX11_fault 30 = .ok (.isub, 1) := by decide +kernel
theorem dX11_fault_31 : decode cX11_fault 31 = .ok (.istore_n 2, 1) := by decide +kernel
theorem dX11_fault_32 : decode cX11_fault 32 = .ok (.aload_n 0, 1) := by decide +kernel
theorem dX11_fault_33 : decode cX11_fault 33 = .ok (.iconst 0, 1) := by decide +kernel
theorem dX11_fault_34 : decode cX11_fault 34 = .ok (.putfield 134, 3) := by decide +kernel
theorem dX11_fault_37 : decode cX11_fault 37 = .ok (.iload_n 2, 1) := by decide +kernel
theorem dX11_fault_38 : decode cX11_fault 38 = .ok (.ireturn, 1) := by decide +kernel
set_option maxRecDepth 20000 in
theorem ggX11_system_X11_here : GoodIn wsX11_system wsX11_here := goodIn_r _ [11, 1, 6, 12, 44, 45, 46, 47, 48, 49, 50, 51, 52, 53, 54, 55, 56, 57, 58, 59, 60, 61, 62, 63, 64, 65, 66] (by decide +kernel) (by decide +kernel)
set_option maxRecDepth 20000 in
theorem gX11_system_X11_here : GoodIn wsX11_system (wsV RX11 140 RX11 yX11_here wsX11_here) := goodIn_app (goodIn_of _ (by decide +kernel)) ggX11_system_X11_here
set_option maxRecDepth 20000 in
theorem ggX11_system_X11_in : GoodIn wsX11_system wsX11_in := goodIn_r _ [15] (by decide +kernel) (by decide +kernel)
set_option maxRecDepth 20000 in
theorem gX11_system_X11_in : GoodIn wsX11_system (va_wsS RX11 60 yX11_in wsX11_in) := goodIn_app (goodIn_of _ (by decide +kernel)) ggX11_system_X11_in
set_option maxRecDepth 20000 in
theorem ggX11_system_X11_fault : GoodIn wsX11_system wsX11_fault := goodIn_r _ [19, 20, 6, 1, 7, 8, 9, 10, 11, 12, 44, 45, 46, 47, 48, 49, 50, 51, 52, 53, 54, 55, 56, 57, 58, 59, 60, 61, 62, 63, 64, 65, 66] (by decide +kernel) (by decide +kernel)
set_option maxRecDepth 20000 in
theorem gX11_system_X11_fault : GoodIn wsX11_system (wsV RX11 164 RX11 yX11_fault wsX11_fault) := goodIn_app (goodIn_of _ (by decide +kernel)) ggX11_system_X11_fault
set_option maxRecDepth 20000 in
theorem ggX11_system_X11_has : GoodIn wsX11_system wsX11_has := goodIn_r _ [24, 1, 7, 8, 9, 10, 11, 6, 12, 44, 45, 46, 47, 48, 49, 50, 51, 52, 53, 54, 55, 56, 57, 58, 59, 60, 61, 62, 63, 64, 65, 66] (by decide +kernel) (by decide +kernel)
set_option maxRecDepth 20000 in
theorem gX11_system_X11_has : GoodIn wsX11_system (wsV RX11 167 RX11 yX11_has wsX11_has) := goodIn_app (goodIn_of _ (by decide +kernel)) ggX11_system_X11_has
set_option maxRecDepth 20000 in
theorem ggX11_system_X11_reads : GoodIn wsX11_system wsX11_reads := goodIn_r _ [28, 29, 4, 1, 7, 8, 9, 10, 11, 6, 12, 30, 31, 32, 33, 34, 35, 36, 37, 38, 39, 40, 13, 14, 15, 41, 42, 43, 44, 45, 46, 47, 48, 49, 50, 51, 52, 53, 54, 55, 56, 57, 58, 59, 60, 61, 62, 63, 64, 65, 66] (by decide +kernel) (by decide +kernel)
set_option maxRecDepth 20000 in
theorem gX11_system_X11_reads : GoodIn wsX11_system (wsV RX11 170 RX11 yX11_reads wsX11_reads) := goodIn_app (goodIn_of _ (by decide +kernel)) ggX11_system_X11_reads
theorem dX11_system_0 : decode cX11_system 0 = .ok (.aload_n 0, 1) := by decide +kernel
theorem dX11_system_1 : decode cX11_system 1 = .ok (.iconst 0, 1) := by decide +kernel
theorem dX11_system_2 : decode cX11_system 2 = .ok (.putfield 137, 3) := by decide +kernel
theorem dX11_system_5 : decode cX11_system 5 = .ok (.aload_n 0, 1) := by decide +kernel
theorem dX11_system_6 : decode cX11_system 6 = .ok (.invokevirtual 140, 3) := by decide +kernel
theorem dX11_system_9 : decode cX11_system 9 = .ok (.bipush 48, 2) := by decide +kernel
theorem dX11_system_11 : decode cX11_system 11 = .ok (.isub, 1) := by decide +kernel
theorem dX11_system_12 : decode cX11_system 12 = .ok (.istore_n 1, 1) := by decide +kernel
theorem dX11_system_13 : decode cX11_system 13 = .ok (.iload_n 1, 1) := by decide +kernel
theorem dX11_system_14 : decode cX11_system 14 = .ok (.i2l, 1) := by decide +kernel
theorem dX11_system_15 : decode cX11_system 15 = .ok (.lconst 1, 1) := by decide +kernel
theorem dX11_system_16 : decode cX11_system 16 = .ok (.ldc2_w 162, 3) := by decide +kernel
theorem dX11_system_19 : decode cX11_system 19 = .ok (.invokestatic 60, 3) := by decide +kernel
theorem dX11_system_22 : decode cX11_system 22 = .ok (.ifCond .ne 8, 3) := by decide +kernel
theorem dX11_system_25 : decode cX11_system 25 = .ok (.aload_n 0, 1) := by decide +kernel
theorem dX11_system_26 : decode cX11_system 26 = .ok (.invokevirtual 164, 3) := by decide +kernel
theorem dX11_system_29 : decode cX11_system 29 = .ok (.ireturn, 1) := by decide +kernel
theorem dX11_system_30 : decode cX11_system 30 = .ok (.aload_n 0, 1) := by decide +kernel
theorem dX11_system_31 : decode cX11_system 31 = .ok (.dup, 1) := by decide +kernel
theorem dX11_system_32 : decode cX11_system 32 = .ok (.getfield 137, 3) := by decide +kernel
theorem dX11_system_35 : decode cX11_system 35 = .ok (.iconst 1, 1) := by decide +kernel
theorem dX11_system_36 : decode cX11_system 36 = .ok (.iadd, 1) := by decide +kernel
theorem dX11_system_37 : decode cX11_system 37 = .ok (.putfield 137, 3) := by decide +kernel
theorem dX11_system_40 : decode cX11_system 40 = .ok (.iconst 0, 1) := by decide +kernel
theorem dX11_system_41 : decode cX11_system 41 = .ok (.istore_n 2, 1) := by decide +kernel
theorem dX11_system_42 : decode cX11_system 42 = .ok (.iload_n 2, 1) := by decide +kernel
theorem dX11_system_43 : decode cX11_system 43 = .ok (.bipush 8, 2) := by decide +kernel
theorem dX11_system_45 : decode cX11_system 45 = .ok (.if_icmp .ge 34, 3) := by decide +kernel
theorem dX11_system_48 : decode cX11_system 48 = .ok (.aload_n 0, 1) := by decide +kernel
theorem dX11_system_49 : decode cX11_system 49 = .ok (.bipush 59, 2) := by decide +kernel
theorem dX11_system_51 : decode cX11_system 51 = .ok (.invokevirtual 167, 3) := by decide +kernel
theorem dX11_system_54 : decode cX11_system 54 = .ok (.ifCond .eq 25, 3) := by decide +kernel
theorem dX11_system_57 : decode cX11_system 57 = .ok (.aload_n 0, 1) := by decide +kernel
theorem dX11_system_58 : decode cX11_system 58 = .ok (.bipush 6, 2) := by decide +kernel
theorem dX11_system_60 : decode cX11_system 60 = .ok (.iload_n 2, 1) := by decide +kernel
theorem dX11_system_61 : decode cX11_system 61 = .ok (.imul, 1) := by decide +kernel
theorem dX11_system_62 : decode cX11_system 62 = .ok (.invokevirtual 170, 3) := by decide +kernel
theorem dX11_system_65 : decode cX11_system 65 = .ok (.ifCond .ne 8, 3) := by decide +kernel
theorem dX11_system_68 : decode cX11_system 68 = .ok (.aload_n 0, 1) := by decide +kernel
theorem dX11_system_69 : decode cX11_system 69 = .ok (.invokevirtual 164, 3) := by decide +kernel
theorem dX11_system_72 : decode cX11_system 72 = .ok (.ireturn, 1) := by decide +kernel
theorem dX11_system_73 : decode cX11_system 73 = .ok (.iinc 2 1, 3) := by decide +kernel
theorem dX11_system_76 : decode cX11_system 76 = .ok (.goto (-34), 3) := by decide +kernel
theorem dX11_system_79 : decode cX11_system 79 = .ok (.aload_n 0, 1) := by decide +kernel
theorem dX11_system_80 : decode cX11_system 80 = .ok (.invokevirtual 140, 3) := by decide +kernel
theorem dX11_system_83 : decode cX11_system 83 = .ok (.ifCond .eq 8, 3) := by decide +kernel
theorem dX11_system_86 : decode cX11_system 86 = .ok (.aload_n 0, 1) := by decide +kernel
theorem dX11_system_87 : decode cX11_system 87 = .ok (.invokevirtual 164, 3) := by decide +kernel
theorem dX11_system_90 : decode cX11_system 90 = .ok (.ireturn, 1) := by decide +kernel
theorem dX11_system_91 : decode cX11_system 91 = .ok (.aload_n 0, 1) := by decide +kernel
theorem dX11_system_92 : decode cX11_system 92 = .ok (.getfield 7, 3) := by decide +kernel
theorem dX11_system_95 : decode cX11_system 95 = .ok (.iconst 1, 1) := by decide +kernel
theorem dX11_system_96 : decode cX11_system 96 = .ok (.iload_n 1, 1) := by decide +kernel
theorem dX11_system_97 : decode cX11_system 97 = .ok (.iastore, 1) := by decide +kernel
theorem dX11_system_98 : decode cX11_system 98 = .ok (.aload_n 0, 1) := by decide +kernel
theorem dX11_system_99 : decode cX11_system 99 = .ok (.getfield 7, 3) := by decide +kernel
theorem dX11_system_102 : decode cX11_system 102 = .ok (.iconst 0, 1) := by decide +kernel
theorem dX11_system_103 : decode cX11_system 103 = .ok (.iload_n 2, 1) := by decide +kernel
theorem dX11_system_104 : decode cX11_system 104 = .ok (.iastore, 1) := by decide +kernel
theorem dX11_system_105 : decode cX11_system 105 = .ok (.iconst 0, 1) := by decide +kernel
theorem dX11_system_106 : decode cX11_system 106 = .ok (.istore_n 3, 1) := by decide +kernel
theorem dX11_system_107 : decode cX11_system 107 = .ok (.iload_n 3, 1) := by decide +kernel
theorem dX11_system_108 : decode cX11_system 108 = .ok (.bipush 6, 2) := by decide +kernel
theorem dX11_system_110 : decode cX11_system 110 = .ok (.iload_n 2, 1) := by decide +kernel
theorem dX11_system_111 : decode cX11_system 111 = .ok (.imul, 1) := by decide +kernel
theorem dX11_system_112 : decode cX11_system 112 = .ok (.if_icmp .ge 23, 3) := by decide +kernel
theorem dX11_system_115 : decode cX11_system 115 = .ok (.aload_n 0, 1) := by decide +kernel
theorem dX11_system_116 : decode cX11_system 116 = .ok (.getfield 7, 3) := by decide +kernel
theorem dX11_system_119 : decode cX11_system 119 = .ok (.iconst 3, 1) := by decide +kernel
theorem dX11_system_120 : decode cX11_system 120 = .ok (.iload_n 3, 1) := by decide +kernel
theorem dX11_system_121 : decode cX11_system 121 = .ok (.iadd, 1) := by decide +kernel
theorem dX11_system_122 : decode cX11_system 122 = .ok (.aload_n 0, 1) := by decide +kernel
theorem dX11_system_123 : decode cX11_system 123 = .ok (.getfield 22, 3) := by decide +kernel
theorem dX11_system_126 : decode cX11_system 126 = .ok (.iload_n 3, 1) := by decide +kernel
theorem dX11_system_127 : decode cX11_system 127 = .ok (.iaload, 1) := by decide +kernel
theorem dX11_system_128 : decode cX11_system 128 = .ok (.iastore, 1) := by decide +kernel
theorem dX11_system_129 : decode cX11_system 129 = .ok (.iinc 3 1, 3) := by decide +kernel
theorem dX11_system_132 : decode cX11_system 132 = .ok (.goto (-25), 3) := by decide +kernel
theorem dX11_system_135 : decode cX11_system 135 = .ok (.aload_n 0, 1) := by decide +kernel
theorem dX11_system_136 : decode cX11_system 136 = .ok (.iconst 0, 1) := by decide +kernel
theorem dX11_system_137 : decode cX11_system 137 = .ok (.putfield 127, 3) := by decide +kernel
theorem dX11_system_140 : decode cX11_system 140 = .ok (.aload_n 0, 1) := by decide +kernel
theorem dX11_system_141 : decode cX11_system 141 = .ok (.iconst 0, 1) := by decide +kernel
theorem dX11_system_142 : decode cX11_system 142 = .ok (.putfield 134, 3) := by decide +kernel
theorem dX11_system_145 : decode cX11_system 145 = .ok (.iload_n 2, 1) := by decide +kernel
theorem dX11_system_146 : decode cX11_system 146 = .ok (.ireturn, 1) := by decide +kernel
theorem dX11_notes_0 : decode cX11_notes 0 = .ok (.aload_n 0, 1) := by decide +kernel
theorem dX11_notes_1 : decode cX11_notes 1 = .ok (.getfield 127, 3) := by decide +kernel
theorem dX11_notes_4 : decode cX11_notes 4 = .ok (.bipush 8, 2) := by decide +kernel
theorem dX11_notes_6 : decode cX11_notes 6 = .ok (.if_icmp .ne 40, 3) := by decide +kernel
theorem dX11_notes_9 : decode cX11_notes 9 = .ok (.bipush 51, 2) := by decide +kernel
theorem dX11_notes_11 : decode cX11_notes 11 = .ok (.istore_n 1, 1) := by decide +kernel
theorem dX11_notes_12 : decode cX11_notes 12 = .ok (.iload_n 1, 1) := by decide +kernel
theorem dX11_notes_13 : decode cX11_notes 13 = .ok (.sipush 408, 3) := by decide +kernel
theorem dX11_notes_16 : decode cX11_notes 16 = .ok (.if_icmp .ge 24, 3) := by decide +kernel
theorem dX11_notes_19 : decode cX11_notes 19 = .ok (.aload_n 0, 1) := by decide +kernel
theorem dX11_notes_20 : decode cX11_notes 20 = .ok (.getfield 25, 3) := by decide +kernel
theorem dX11_notes_23 : decode cX11_notes 23 = .ok (.iload_n 1, 1) := by decide +kernel
theorem dX11_notes_24 : decode cX11_notes 24 = .ok (.bipush 51, 2) := by decide +kernel
theorem dX11_notes_26 : decode cX11_notes 26 = .ok (.isub, 1) := by decide +kernel
theorem dX11_notes_27 : decode cX11_notes 27 = .ok (.aload_n 0, 1) := by decide +kernel
theorem dX11_notes_28 : decode cX11_notes 28 = .ok (.getfield 25, 3) := by decide +kernel
theorem dX11_notes_31 : decode cX11_notes 31 = .ok (.iload_n 1, 1) := by decide +kernel
theorem dX11_notes_32 : decode cX11_notes 32 = .ok (.iaload, 1) := by decide +kernel
theorem dX11_notes_33 : decode cX11_notes 33 = .ok (.iastore, 1) := by decide +kernel
theorem dX11_notes_34 : decode cX11_notes 34 = .ok (.iinc 1 1, 3) := by decide +kernel
theorem dX11_notes_37 : decode cX11_notes 37 = .ok (.goto (-25), 3) := by decide +kernel
theorem dX11_notes_40 : decode cX11_notes 40 = .ok (.aload_n 0, 1) := by decide +kernel
theorem dX11_notes_41 : decode cX11_notes 41 = .ok (.bipush 7, 2) := by decide +kernel
theorem dX11_notes_43 : decode cX11_notes 43 = .ok (.putfield 127, 3) := by decide +kernel
theorem dX11_notes_46 : decode cX11_notes 46 = .ok (.iconst 0, 1) := by decide +kernel
theorem dX11_notes_47 : decode cX11_notes 47 = .ok (.istore_n 1, 1) := by decide +kernel
theorem dX11_notes_48 : decode cX11_notes 48 = .ok (.iload_n 1, 1) := by decide +kernel
theorem dX11_notes_49 : decode cX11_notes 49 = .ok (.bipush 51, 2) := by decide +kernel
theorem dX11_notes_51 : decode cX11_notes 51 = .ok (.if_icmp .ge 29, 3) := by decide +kernel
theorem dX11_notes_54 : decode cX11_notes 54 = .ok (.aload_n 0, 1) := by decide +kernel
theorem dX11_notes_55 : decode cX11_notes 55 = .ok (.getfield 25, 3) := by decide +kernel
theorem dX11_notes_58 : decode cX11_notes 58 = .ok (.bipush 51, 2) := by decide +kernel
theorem dX11_notes_60 : decode cX11_notes 60 = .ok (.aload_n 0, 1) := by decide +kernel
theorem dX11_notes_61 : decode cX11_notes 61 = .ok (.getfield 127, 3) := by decide +kernel
theorem dX11_notes_64 : decode cX11_notes 64 = .ok (.imul, 1) := by decide +kernel
theorem dX11_notes_65 : decode cX11_notes 65 = .ok (.iload_n 1, 1) := by decide +kernel
theorem dX11_notes_66 : decode cX11_notes 66 = .ok (.iadd, 1) := by decide +kernel
theorem dX11_notes_67 : decode cX11_notes 67 = .ok (.aload_n 0, 1) := by decide +kernel
theorem dX11_notes_68 : decode cX11_notes 68 = .ok (.getfield 7, 3) := by decide +kernel
theorem dX11_notes_71 : decode cX11_notes 71 = .ok (.iload_n 1, 1) := by decide +kernel
theorem dX11_notes_72 : decode cX11_notes 72 = .ok (.iaload, 1) := by decide +kernel
theorem dX11_notes_73 : decode cX11_notes 73 = .ok (.iastore, 1) := by decide +kernel
theorem dX11_notes_74 : decode cX11_notes 74 = .ok (.iinc 1 1, 3) := by decide +kernel
theorem dX11_notes_77 : decode cX11_notes 77 = .ok (.goto (-29), 3) := by decide +kernel
theorem dX11_notes_80 : decode cX11_notes 80 = .ok (.aload_n 0, 1) := by decide +kernel
theorem dX11_notes_81 : decode cX11_notes 81 = .ok (.dup, 1) := by decide +kernel
theorem dX11_notes_82 : decode cX11_notes 82 = .ok (.getfield 127, 3) := by decide +kernel
theorem dX11_notes_85 : decode cX11_notes 85 = .ok (.iconst 1, 1) := by decide +kernel
theorem dX11_notes_86 : decode cX11_notes 86 = .ok (.iadd, 1) := by decide +kernel
theorem dX11_notes_87 : decode cX11_notes 87 = .ok (.putfield 127, 3) := by decide +kernel
theorem dX11_notes_90 : decode cX11_notes 90 = .ok (.return_, 1) := by decide +kernel
set_option maxRecDepth 20000 in
theorem ggX11_drop_X11_isOne : GoodIn wsX11_drop wsX11_isOne := goodIn_r _ [7, 2, 8, 9, 6, 10, 17, 18, 19, 20, 21, 22, 23, 24, 25, 26, 27, 28, 29, 30, 31, 32, 33, 34, 35, 36, 37, 38, 39] (by decide +kernel) (by decide +kernel)
set_option maxRecDepth 20000 in
theorem gX11_drop_X11_isOne : GoodIn wsX11_drop (wsV RX11 112 RX11 yX11_isOne wsX11_isOne) := goodIn_app (goodIn_of _ (by decide +kernel)) ggX11_drop_X11_isOne
set_option maxRecDepth 20000 in
theorem ggX11_drop_X11_notes : GoodIn wsX11_drop wsX11_notes := goodIn_r _ [14, 15, 16, 2, 17, 18, 19, 20, 21, 22, 23, 24, 25, 26, 27, 28, 29, 30, 31, 32, 33, 34, 35, 36, 37, 38, 39] (by decide +kernel) (by decide +kernel)
set_option maxRecDepth 20000 in
theorem gX11_drop_X11_notes : GoodIn wsX11_drop (wsV RX11 109 RX11 yX11_notes wsX11_notes) := goodIn_app (goodIn_of _ (by decide +kernel)) ggX11_drop_X11_notes
theorem dX11_drop_0 : decode cX11_drop 0 = .ok (.aload_n 0, 1) := by decide +kernel
theorem dX11_drop_1 : decode cX11_drop 1 = .ok (.iload_n 1, 1) := by decide +kernel
theorem dX11_drop_2 : decode cX11_drop 2 = .ok (.invokevirtual 112, 3) := by decide +kernel
theorem dX11_drop_5 : decode cX11_drop 5 = .ok (.ifCond .ne 6, 3) := by decide +kernel
theorem dX11_drop_8 : decode cX11_drop 8 = .ok (.ldc 107, 2) := by decide +kernel
theorem dX11_drop_10 : decode cX11_drop 10 = .ok (.ireturn, 1) := by decide +kernel
theorem dX11_drop_11 : decode cX11_drop 11 = .ok (.aload_n 0, 1) := by decide +kernel
theorem dX11_drop_12 : decode cX11_drop 12 = .ok (.invokevirtual 109, 3) := by decide +kernel
theorem dX11_drop_15 : decode cX11_drop 15 = .ok (.aload_n 0, 1) := by decide +kernel
theorem dX11_drop_16 : decode cX11_drop 16 = .ok (.getfield 7, 3) := by decide +kernel
theorem dX11_drop_19 : decode cX11_drop 19 = .ok (.iconst 0, 1) := by decide +kernel
theorem dX11_drop_20 : decode cX11_drop 20 = .ok (.dup2, 1) := by decide +kernel
theorem dX11_drop_21 : decode cX11_drop 21 = .ok (.iaload, 1) := by decide +kernel
theorem dX11_drop_22 : decode cX11_drop 22 = .ok (.iconst 1, 1) := by decide +kernel
theorem dX11_drop_23 : decode cX11_drop 23 = .ok (.isub, 1) := by decide +kernel
theorem dX11_drop_24 : decode cX11_drop 24 = .ok (.iastore, 1) := by decide +kernel
theorem dX11_drop_25 : decode cX11_drop 25 = .ok (.iconst 3, 1) := by decide +kernel
theorem dX11_drop_26 : decode cX11_drop 26 = .ok (.bipush 6, 2) := by decide +kernel
theorem dX11_drop_28 : decode cX11_drop 28 = .ok (.iload_n 1, 1) := by decide +kernel
theorem dX11_drop_29 : decode cX11_drop 29 = .ok (.imul, 1) := by decide +kernel
theorem dX11_drop_30 : decode cX11_drop 30 = .ok (.iadd, 1) := by decide +kernel
theorem dX11_drop_31 : decode cX11_drop 31 = .ok (.istore_n 2, 1) := by decide +kernel
theorem dX11_drop_32 : decode cX11_drop 32 = .ok (.iload_n 2, 1) := by decide +kernel
theorem dX11_drop_33 : decode cX11_drop 33 = .ok (.iconst 3, 1) := by decide +kernel
theorem dX11_drop_34 : decode cX11_drop 34 = .ok (.bipush 6, 2) := by decide +kernel
theorem dX11_drop_36 : decode cX11_drop 36 = .ok (.aload_n 0, 1) := by decide +kernel
theorem dX11_drop_37 : decode cX11_drop 37 = .ok (.getfield 7, 3) := by decide +kernel
theorem dX11_drop_40 : decode cX11_drop 40 = .ok (.iconst 0, 1) := by decide +kernel
theorem dX11_drop_41 : decode cX11_drop 41 = .ok (.iaload, 1) := by decide +kernel
theorem dX11_drop_42 : decode cX11_drop 42 = .ok (.imul, 1) := by decide +kernel
theorem dX11_drop_43 : decode cX11_drop 43 = .ok (.iadd, 1) := by decide +kernel
theorem dX11_drop_44 : decode cX11_drop 44 = .ok (.if_icmp .ge 24, 3) := by decide +kernel
theorem dX11_drop_47 : decode cX11_drop 47 = .ok (.aload_n 0, 1) := by decide +kernel
theorem dX11_drop_48 : decode cX11_drop 48 = .ok (.getfield 7, 3) := by decide +kernel
theorem dX11_drop_51 : decode cX11_drop 51 = .ok (.iload_n 2, 1) := by decide +kernel
theorem dX11_drop_52 : decode cX11_drop 52 = .ok (.aload_n 0, 1) := by decide +kernel
theorem dX11_drop_53 : decode cX11_drop 53 = .ok (.getfield 7, 3) := by decide +kernel
theorem dX11_drop_56 : decode cX11_drop 56 = .ok (.iload_n 2, 1) := by decide +kernel
theorem dX11_drop_57 : decode cX11_drop 57 = .ok (.bipush 6, 2) := by decide +kernel
theorem dX11_drop_59 : decode cX11_drop 59 = .ok (.iadd, 1) := by decide +kernel
theorem dX11_drop_60 : decode cX11_drop 60 = .ok (.iaload, 1) := by decide +kernel
theorem dX11_drop_61 : decode cX11_drop 61 = .ok (.iastore, 1) := by decide +kernel
theorem dX11_drop_62 : decode cX11_drop 62 = .ok (.iinc 2 1, 3) := by decide +kernel
theorem dX11_drop_65 : decode cX11_drop 65 = .ok (.goto (-33), 3) := by decide +kernel
theorem dX11_drop_68 : decode cX11_drop 68 = .ok (.aload_n 0, 1) := by decide +kernel
theorem dX11_drop_69 : decode cX11_drop 69 = .ok (.getfield 7, 3) := by decide +kernel
theorem dX11_drop_72 : decode cX11_drop 72 = .ok (.iconst 0, 1) := by decide +kernel
theorem dX11_drop_73 : decode cX11_drop 73 = .ok (.iaload, 1) := by decide +kernel
theorem dX11_drop_74 : decode cX11_drop 74 = .ok (.ireturn, 1) := by decide +kernel
set_option maxRecDepth 20000 in
theorem ggX11_change_X11_isOne : GoodIn wsX11_change wsX11_isOne := goodIn_r _ [13, 7, 14, 15, 12, 16, 23, 24, 25, 26, 27, 28, 29, 30, 31, 32, 33, 34, 35, 36, 37, 38, 39, 40, 41, 42, 43, 44, 45] (by decide +kernel) (by decide +kernel)
set_option maxRecDepth 20000 in
theorem gX11_change_X11_isOne : GoodIn wsX11_change (wsV RX11 112 RX11 yX11_isOne wsX11_isOne) := goodIn_app (goodIn_of _ (by decide +kernel)) ggX11_change_X11_isOne
set_option maxRecDepth 20000 in
theorem ggX11_change_X11_in : GoodIn wsX11_change wsX11_in := goodIn_r _ [16] (by decide +kernel) (by decide +kernel)
set_option maxRecDepth 20000 in
theorem gX11_change_X11_in : GoodIn wsX11_change (va_wsS RX11 60 yX11_in wsX11_in) := goodIn_app (goodIn_of _ (by decide +kernel)) ggX11_change_X11_in
set_option maxRecDepth 20000 in
theorem ggX11_change_X11_notes : GoodIn wsX11_change wsX11_notes := goodIn_r _ [20, 21, 22, 7, 23, 24, 25, 26, 27, 28, 29, 30, 31, 32, 33, 34, 35, 36, 37, 38, 39, 40, 41, 42, 43, 44, 45] (by decide +kernel) (by decide +kernel)
set_option maxRecDepth 20000 in
theorem gX11_change_X11_notes : GoodIn wsX11_change (wsV RX11 109 RX11 yX11_notes wsX11_notes) := goodIn_app (goodIn_of _ (by decide +kernel)) ggX11_change_X11_notes
theorem dX11_change_0 : decode cX11_change 0 = .ok (.aload_n 0, 1) := by decide +kernel
theorem dX11_change_1 : decode cX11_change 1 = .ok (.iload_n 1, 1) := by decide +kernel
theorem dX11_change_2 : decode cX11_change 2 = .ok (.invokevirtual 112, 3) := by decide +kernel
theorem dX11_change_5 : decode cX11_change 5 = .ok (.ifCond .eq 51, 3) := by decide +kernel
theorem dX11_change_8 : decode cX11_change 8 = .ok (.iload_n 2, 1) := by decide +kernel
theorem dX11_change_9 : decode cX11_change 9 = .ok (.i2l, 1) := by decide +kernel
theorem dX11_change_10 : decode cX11_change 10 = .ok (.lconst 0, 1) := by decide +kernel
theorem dX11_change_11 : decode cX11_change 11 = .ok (.ldc2_w 99, 3) := by decide +kernel
theorem dX11_change_14 : decode cX11_change 14 = .ok (.invokestatic 60, 3) := by decide +kernel
theorem dX11_change_17 : decode cX11_change 17 = .ok (.ifCond .eq 39, 3) := by decide +kernel
theorem dX11_change_20 : decode cX11_change 20 = .ok (.iload_n 3, 1) := by decide +kernel
theorem dX11_change_21 : decode cX11_change 21 = .ok (.i2l, 1) := by decide +kernel
theorem dX11_change_22 : decode cX11_change 22 = .ok (.iload_n 2, 1) := by decide +kernel
theorem dX11_change_23 : decode cX11_change 23 = .ok (.iconst 4, 1) := by decide +kernel
theorem dX11_change_24 : decode cX11_change 24 = .ok (.if_icmp .ne 9, 3) := by decide +kernel
theorem dX11_change_27 : decode cX11_change 27 = .ok (.ldc2_w 103, 3) := by decide +kernel
theorem dX11_change_30 : decode cX11_change 30 = .ok (.goto 6, 3) := by decide +kernel
theorem dX11_change_33 : decode cX11_change 33 = .ok (.ldc2_w 173, 3) := by decide +kernel
theorem dX11_change_36 : decode cX11_change 36 = .ok (.iload_n 2, 1) := by decide +kernel
theorem dX11_change_37 : decode cX11_change 37 = .ok (.iconst 4, 1) := by decide +kernel
theorem dX11_change_38 : decode cX11_change 38 = .ok (.if_icmp .ne 9, 3) := by decide +kernel
theorem dX11_change_41 : decode cX11_change 41 = .ok (.ldc2_w 105, 3) := by decide +kernel
theorem dX11_change_44 : decode cX11_change 44 = .ok (.goto 6, 3) := by decide +kernel
theorem dX11_change_47 : decode cX11_change 47 = .ok (.ldc2_w 175, 3) := by decide +kernel
theorem dX11_change_50 : decode cX11_change 50 = .ok (.invokestatic 60, 3) := by decide +kernel
theorem dX11_change_53 : decode cX11_change 53 = .ok (.ifCond .ne 6, 3) := by decide +kernel
theorem dX11_change_56 : decode cX11_change 56 = .ok (.ldc 107, 2) := by decide +kernel
theorem dX11_change_58 : decode cX11_change 58 = .ok (.ireturn, 1) := by decide +kernel
theorem dX11_change_59 : decode cX11_change 59 = .ok (.iconst 3, 1) := by decide +kernel
theorem dX11_change_60 : decode cX11_change 60 = .ok (.bipush 6, 2) := by decide +kernel
theorem dX11_change_62 : decode cX11_change 62 = .ok (.iload_n 1, 1) := by decide +kernel
theorem dX11_change_63 : decode cX11_change 63 = .ok (.imul, 1) := by decide +kernel
theorem dX11_change_64 : decode cX11_change 64 = .ok (.iadd, 1) := by decide +kernel
theorem dX11_change_65 : decode cX11_change 65 = .ok (.iload_n 2, 1) := by decide +kernel
theorem dX11_change_66 : decode cX11_change 66 = .ok (.iadd, 1) := by decide +kernel
theorem dX11_change_67 : decode cX11_change 67 = .ok (.istore 4, 2) := by decide +kernel
theorem dX11_change_69 : decode cX11_change 69 = .ok (.aload_n 0, 1) := by decide +kernel
theorem dX11_change_70 : decode cX11_change 70 = .ok (.getfield 7, 3) := by decide +kernel
theorem dX11_change_73 : decode cX11_change 73 = .ok (.iload 4, 2) := by decide +kernel
theorem dX11_change_75 : decode cX11_change 75 = .ok (.iaload, 1) := by decide +kernel
theorem dX11_change_76 : decode cX11_change 76 = .ok (.istore 5, 2) := by decide +kernel
theorem dX11_change_78 : decode cX11_change 78 = .ok (.iload 5, 2) := by decide +kernel
theorem dX11_change_80 : decode cX11_change 80 = .ok (.iload_n 3, 1) := by decide +kernel
theorem dX11_change_81 : decode cX11_change 81 = .ok (.if_icmp .ne 6, 3) := by decide +kernel
theorem dX11_change_84 : decode cX11_change 84 = .ok (.ldc 177, 2) := by decide +kernel
theorem dX11_change_86 : decode cX11_change 86 = .ok (.ireturn, 1) := by decide +kernel
theorem dX11_change_87 : decode cX11_change 87 = .ok (.aload_n 0, 1) := by decide +kernel
theorem dX11_change_88 : decode cX11_change 88 = .ok (.invokevirtual 109, 3) := by decide +kernel
theorem dX11_change_91 : decode cX11_change 91 = .ok (.aload_n 0, 1) := by decide +kernel
theorem dX11_change_92 : decode cX11_change 92 = .ok (.getfield 7, 3) := by decide +kernel
theorem dX11_change_95 : decode cX11_change 95 = .ok (.iload 4, 2) := by decide +kernel
theorem dX11_change_97 : decode cX11_change 97 = .ok (.iload_n 3, 1) := by decide +kernel
theorem dX11_change_98 : decode cX11_change 98 = .ok (.iastore, 1) := by decide +kernel
theorem dX11_change_99 : decode cX11_change 99 = .ok (.iload 5, 2) := by decide +kernel
theorem dX11_change_101 : decode cX11_change 101 = .ok (.ireturn, 1) := by decide +kernel
set_option maxRecDepth 20000 in
theorem ggX11_shape_X11_isOne : GoodIn wsX11_shape wsX11_isOne := goodIn_r _ [9, 3, 10, 11, 8, 12, 19, 20, 21, 22, 23, 24, 25, 26, 27, 28, 29, 30, 31, 32, 33, 34, 35, 36, 37, 38, 39, 40, 41] (by decide +kernel) (by decide +kernel)
set_option maxRecDepth 20000 in
theorem gX11_shape_X11_isOne : GoodIn wsX11_shape (wsV RX11 112 RX11 yX11_isOne wsX11_isOne) := goodIn_app (goodIn_of _ (by decide +kernel)) ggX11_shape_X11_isOne
set_option maxRecDepth 20000 in
theorem ggX11_shape_X11_in : GoodIn wsX11_shape wsX11_in := goodIn_r _ [12] (by decide +kernel) (by decide +kernel)
set_option maxRecDepth 20000 in
theorem gX11_shape_X11_in : GoodIn wsX11_shape (va_wsS RX11 60 yX11_in wsX11_in) := goodIn_app (goodIn_of _ (by decide +kernel)) ggX11_shape_X11_in
set_option maxRecDepth 20000 in
theorem ggX11_shape_X11_notes : GoodIn wsX11_shape wsX11_notes := goodIn_r _ [16, 17, 18, 3, 19, 20, 21, 22, 23, 24, 25, 26, 27, 28, 29, 30, 31, 32, 33, 34, 35, 36, 37, 38, 39, 40, 41] (by decide +kernel) (by decide +kernel)
set_option maxRecDepth 20000 in
theorem gX11_shape_X11_notes : GoodIn wsX11_shape (wsV RX11 109 RX11 yX11_notes wsX11_notes) := goodIn_app (goodIn_of _ (by decide +kernel)) ggX11_shape_X11_notes
theorem dX11_shape_0 : decode cX11_shape 0 = .ok (.aload_n 0, 1) := by decide +kernel
theorem dX11_shape_1 : decode cX11_shape 1 = .ok (.iload_n 1, 1) := by decide +kernel
theorem dX11_shape_2 : decode cX11_shape 2 = .ok (.invokevirtual 112, 3) := by decide +kernel
theorem dX11_shape_5 : decode cX11_shape 5 = .ok (.ifCond .eq 15, 3) := by decide +kernel
theorem dX11_shape_8 : decode cX11_shape 8 = .ok (.iload_n 2, 1) := by decide +kernel
theorem dX11_shape_9 : decode cX11_shape 9 = .ok (.i2l, 1) := by decide +kernel
theorem dX11_shape_10 : decode cX11_shape 10 = .ok (.lconst 0, 1) := by decide +kernel
theorem dX11_shape_11 : decode cX11_shape 11 = .ok (.ldc2_w 99, 3) := by decide +kernel
theorem dX11_shape_14 : decode cX11_shape 14 = .ok (.invokestatic 60, 3) := by decide +kernel
theorem dX11_shape_17 : decode cX11_shape 17 = .ok (.ifCond .ne 6, 3) := by decide +kernel
theorem dX11_shape_20 : decode cX11_shape 20 = .ok (.ldc 107, 2) := by decide +kernel
theorem dX11_shape_22 : decode cX11_shape 22 = .ok (.ireturn, 1) := by decide +kernel
theorem dX11_shape_23 : decode cX11_shape 23 = .ok (.iconst 3, 1) := by decide +kernel
theorem dX11_shape_24 : decode cX11_shape 24 = .ok (.bipush 6, 2) := by decide +kernel
theorem dX11_shape_26 : decode cX11_shape 26 = .ok (.iload_n 1, 1) := by decide +kernel
theorem dX11_shape_27 : decode cX11_shape 27 = .ok (.imul, 1) := by decide +kernel
theorem dX11_shape_28 : decode cX11_shape 28 = .ok (.iadd, 1) := by decide +kernel
theorem dX11_shape_29 : decode cX11_shape 29 = .ok (.iconst 5, 1) := by decide +kernel
theorem dX11_shape_30 : decode cX11_shape 30 = .ok (.iadd, 1) := by decide +kernel
theorem dX11_shape_31 : decode cX11_shape 31 = .ok (.istore_n 3, 1) := by decide +kernel
theorem dX11_shape_32 : decode cX11_shape 32 = .ok (.aload_n 0, 1) := by decide +kernel
theorem dX11_shape_33 : decode cX11_shape 33 = .ok (.getfield 7, 3) := by decide +kernel
theorem dX11_shape_36 : decode cX11_shape 36 = .ok (.iload_n 3, 1) := by decide +kernel
theorem dX11_shape_37 : decode cX11_shape 37 = .ok (.iaload, 1) := by decide +kernel
theorem dX11_shape_38 : decode cX11_shape 38 = .ok (.istore 4, 2) := by decide +kernel
theorem dX11_shape_40 : decode cX11_shape 40 = .ok (.iload 4, 2) := by decide +kernel
theorem dX11_shape_42 : decode cX11_shape 42 = .ok (.iload_n 2, 1) := by decide +kernel
theorem dX11_shape_43 : decode cX11_shape 43 = .ok (.if_icmp .ne 6, 3) := by decide +kernel
theorem dX11_shape_46 : decode cX11_shape 46 = .ok (.ldc 177, 2) := by decide +kernel
theorem dX11_shape_48 : decode cX11_shape 48 = .ok (.ireturn, 1) := by decide +kernel
theorem dX11_shape_49 : decode cX11_shape 49 = .ok (.aload_n 0, 1) := by decide +kernel
theorem dX11_shape_50 : decode cX11_shape 50 = .ok (.invokevirtual 109, 3) := by decide +kernel
theorem dX11_shape_53 : decode cX11_shape 53 = .ok (.aload_n 0, 1) := by decide +kernel
theorem dX11_shape_54 : decode cX11_shape 54 = .ok (.getfield 7, 3) := by decide +kernel
theorem dX11_shape_57 : decode cX11_shape 57 = .ok (.iload_n 3, 1) := by decide +kernel
theorem dX11_shape_58 : decode cX11_shape 58 = .ok (.iload_n 2, 1) := by decide +kernel
theorem dX11_shape_59 : decode cX11_shape 59 = .ok (.iastore, 1) := by decide +kernel
theorem dX11_shape_60 : decode cX11_shape 60 = .ok (.iload 4, 2) := by decide +kernel
theorem dX11_shape_62 : decode cX11_shape 62 = .ok (.ireturn, 1) := by decide +kernel
set_option maxRecDepth 20000 in
theorem ggX11_turn_X11_isOne : GoodIn wsX11_turn wsX11_isOne := goodIn_r _ [7, 2, 8, 9, 6, 10, 54, 55, 56, 57, 58, 59, 60, 61, 62, 63, 64, 65, 66, 67, 68, 69, 70, 71, 72, 73, 74, 75, 76] (by decide +kernel) (by decide +kernel)
set_option maxRecDepth 20000 in
theorem gX11_turn_X11_isOne : GoodIn wsX11_turn (wsV RX11 112 RX11 yX11_isOne wsX11_isOne) := goodIn_app (goodIn_of _ (by decide +kernel)) ggX11_turn_X11_isOne
set_option maxRecDepth 20000 in
theorem ggX11_turn_X11_notes : GoodIn wsX11_turn wsX11_notes := goodIn_r _ [14, 15, 16, 2, 54, 55, 56, 57, 58, 59, 60, 61, 62, 63, 64, 65, 66, 67, 68, 69, 70, 71, 72, 73, 74, 75, 76] (by decide +kernel) (by decide +kernel)
set_option maxRecDepth 20000 in
theorem gX11_turn_X11_notes : GoodIn wsX11_turn (wsV RX11 109 RX11 yX11_notes wsX11_notes) := goodIn_app (goodIn_of _ (by decide +kernel)) ggX11_turn_X11_notes
set_option maxRecDepth 20000 in
theorem ggX11_turn_X11_pointsNow : GoodIn wsX11_turn wsX11_pointsNow := goodIn_r _ [20, 21, 22, 23, 6, 24, 25, 26, 27, 28, 29, 30, 31, 2, 32, 33, 34, 35, 36, 37, 38, 39, 40, 41, 42, 43, 44, 45, 46, 47, 48, 49, 50, 51, 52, 53, 54, 55, 56, 57, 58, 59, 60, 61, 62, 63, 64, 65, 66, 67, 68, 69, 70, 71, 72, 73, 74, 75, 76] (by decide +kernel) (by decide +kernel)
set_option maxRecDepth 20000 in
theorem gX11_turn_X11_pointsNow : GoodIn wsX11_turn (wsV RX11 121 RX11 yX11_pointsNow wsX11_pointsNow) := goodIn_app (goodIn_of _ (by decide +kernel)) ggX11_turn_X11_pointsNow
theorem dX11_turn_0 : decode cX11_turn 0 = .ok (.aload_n 0, 1) := by decide +kernel
theorem dX11_turn_1 : decode cX11_turn 1 = .ok (.iload_n 1, 1) := by decide +kernel
theorem dX11_turn_2 : decode cX11_turn 2 = .ok (.invokevirtual 112, 3) := by decide +kernel
theorem dX11_turn_5 : decode cX11_turn 5 = .ok (.ifCond .ne 6, 3) := by decide +kernel
theorem dX11_turn_8 : decode cX11_turn 8 = .ok (.ldc 107, 2) := by decide +kernel
theorem dX11_turn_10 : decode cX11_turn 10 = .ok (.ireturn, 1) := by decide +kernel
theorem dX11_turn_11 : decode cX11_turn 11 = .ok (.aload_n 0, 1) := by decide +kernel
theorem dX11_turn_12 : decode cX11_turn 12 = .ok (.invokevirtual 109, 3) := by decide +kernel
theorem dX11_turn_15 : decode cX11_turn 15 = .ok (.iconst 0, 1) := by decide +kernel
theorem dX11_turn_16 : decode cX11_turn 16 = .ok (.istore_n 2, 1) := by decide +kernel
theorem dX11_turn_17 : decode cX11_turn 17 = .ok (.iload_n 2, 1) := by decide +kernel
theorem dX11_turn_18 : decode cX11_turn 18 = .ok (.iconst 5, 1) := by decide +kernel
theorem dX11_turn_19 : decode cX11_turn 19 = .ok (.if_icmp .ge 36, 3) := by decide +kernel
theorem dX11_turn_22 : decode cX11_turn 22 = .ok (.aload_n 0, 1) := by decide +kernel
theorem dX11_turn_23 : decode cX11_turn 23 = .ok (.getfield 7, 3) := by decide +kernel
theorem dX11_turn_26 : decode cX11_turn 26 = .ok (.iconst 3, 1) := by decide +kernel
theorem dX11_turn_27 : decode cX11_turn 27 = .ok (.bipush 6, 2) := by decide +kernel
theorem dX11_turn_29 : decode cX11_turn 29 = .ok (.iload_n 1, 1) := by decide +kernel
theorem dX11_turn_30 : decode cX11_turn 30 = .ok (.imul, 1) := by decide +kernel
theorem dX11_turn_31 : decode cX11_turn 31 = .ok (.iadd, 1) := by decide +kernel
theorem dX11_turn_32 : decode cX11_turn 32 = .ok (.iload_n 2, 1) := by decide +kernel
theorem dX11_turn_33 : decode cX11_turn 33 = .ok (.iadd, 1) := by decide +kernel
theorem dX11_turn_34 : decode cX11_turn 34 = .ok (.aload_n 0, 1) := by decide +kernel
theorem dX11_turn_35 : decode cX11_turn 35 = .ok (.getfield 7, 3) := by decide +kernel
theorem dX11_turn_38 : decode cX11_turn 38 = .ok (.iconst 3, 1) := by decide +kernel
theorem dX11_turn_39 : decode cX11_turn 39 = .ok (.bipush 6, 2) := by decide +kernel
theorem dX11_turn_41 : decode cX11_turn 41 = .ok (.iload_n 1, 1) := by decide +kernel
theorem dX11_turn_42 : decode cX11_turn 42 = .ok (.imul, 1) := by decide +kernel
theorem dX11_turn_43 : decode cX11_turn 43 = .ok (.iadd, 1) := by decide +kernel
theorem dX11_turn_44 : decode cX11_turn 44 = .ok (.iload_n 2, 1) := by decide +kernel
theorem dX11_turn_45 : decode cX11_turn 45 = .ok (.iadd, 1) := by decide +kernel
theorem dX11_turn_46 : decode cX11_turn 46 = .ok (.iaload, 1) := by decide +kernel
theorem dX11_turn_47 : decode cX11_turn 47 = .ok (.ineg, 1) := by decide +kernel
theorem dX11_turn_48 : decode cX11_turn 48 = .ok (.iastore, 1) := by decide +kernel
theorem dX11_turn_49 : decode cX11_turn 49 = .ok (.iinc 2 1, 3) := by decide +kernel
theorem dX11_turn_52 : decode cX11_turn 52 = .ok (.goto (-35), 3) := by decide +kernel
theorem dX11_turn_55 : decode cX11_turn 55 = .ok (.aload_n 0, 1) := by decide +kernel
theorem dX11_turn_56 : decode cX11_turn 56 = .ok (.invokevirtual 121, 3) := by decide +kernel
theorem dX11_turn_59 : decode cX11_turn 59 = .ok (.ireturn, 1) := by decide +kernel
set_option maxRecDepth 20000 in
theorem ggX11_call_X11_in : GoodIn wsX11_call wsX11_in := goodIn_r _ [8] (by decide +kernel) (by decide +kernel)
set_option maxRecDepth 20000 in
theorem gX11_call_X11_in : GoodIn wsX11_call (va_wsS RX11 60 yX11_in wsX11_in) := goodIn_app (goodIn_of _ (by decide +kernel)) ggX11_call_X11_in
set_option maxRecDepth 20000 in
theorem ggX11_call_X11_notes : GoodIn wsX11_call wsX11_notes := goodIn_r _ [12, 13, 14, 3, 15, 16, 17, 18, 19, 20, 21, 22, 23, 24, 25, 26, 27, 28, 29, 30, 31, 32, 33, 34, 35, 36, 37] (by decide +kernel) (by decide +kernel)
set_option maxRecDepth 20000 in
theorem gX11_call_X11_notes : GoodIn wsX11_call (wsV RX11 109 RX11 yX11_notes wsX11_notes) := goodIn_app (goodIn_of _ (by decide +kernel)) ggX11_call_X11_notes
theorem dX11_call_0 : decode cX11_call 0 = .ok (.iload_n 1, 1) := by decide +kernel
theorem dX11_call_1 : decode cX11_call 1 = .ok (.i2l, 1) := by decide +kernel
theorem dX11_call_2 : decode cX11_call 2 = .ok (.lconst 1, 1) := by decide +kernel
theorem dX11_call_3 : decode cX11_call 3 = .ok (.ldc2_w 162, 3) := by decide +kernel
theorem dX11_call_6 : decode cX11_call 6 = .ok (.invokestatic 60, 3) := by decide +kernel
theorem dX11_call_9 : decode cX11_call 9 = .ok (.ifCond .ne 6, 3) := by decide +kernel
theorem dX11_call_12 : decode cX11_call 12 = .ok (.ldc 107, 2) := by decide +kernel
theorem dX11_call_14 : decode cX11_call 14 = .ok (.ireturn, 1) := by decide +kernel
theorem dX11_call_15 : decode cX11_call 15 = .ok (.aload_n 0, 1) := by decide +kernel
theorem dX11_call_16 : decode cX11_call 16 = .ok (.getfield 7, 3) := by decide +kernel
theorem dX11_call_19 : decode cX11_call 19 = .ok (.iconst 1, 1) := by decide +kernel
theorem dX11_call_20 : decode cX11_call 20 = .ok (.iaload, 1) := by decide +kernel
theorem dX11_call_21 : decode cX11_call 21 = .ok (.istore_n 2, 1) := by decide +kernel
theorem dX11_call_22 : decode cX11_call 22 = .ok (.iload_n 2, 1) := by decide +kernel
theorem dX11_call_23 : decode cX11_call 23 = .ok (.iload_n 1, 1) := by decide +kernel
theorem dX11_call_24 : decode cX11_call 24 = .ok (.if_icmp .ne 6, 3) := by decide +kernel
theorem dX11_call_27 : decode cX11_call 27 = .ok (.ldc 177, 2) := by decide +kernel
theorem dX11_call_29 : decode cX11_call 29 = .ok (.ireturn, 1) := by decide +kernel
theorem dX11_call_30 : decode cX11_call 30 = .ok (.aload_n 0, 1) := by decide +kernel
theorem dX11_call_31 : decode cX11_call 31 = .ok (.invokevirtual 109, 3) := by decide +kernel
theorem dX11_call_34 : decode cX11_call 34 = .ok (.aload_n 0, 1) := by decide +kernel
theorem dX11_call_35 : decode cX11_call 35 = .ok (.getfield 7, 3) := by decide +kernel
theorem dX11_call_38 : decode cX11_call 38 = .ok (.iconst 1, 1) := by decide +kernel
theorem dX11_call_39 : decode cX11_call 39 = .ok (.iload_n 1, 1) := by decide +kernel
theorem dX11_call_40 : decode cX11_call 40 = .ok (.iastore, 1) := by decide +kernel
theorem dX11_call_41 : decode cX11_call 41 = .ok (.iload_n 2, 1) := by decide +kernel
theorem dX11_call_42 : decode cX11_call 42 = .ok (.ireturn, 1) := by decide +kernel
set_option maxRecDepth 20000 in
theorem ggX11_drift_X11_in : GoodIn wsX11_drift wsX11_in := goodIn_r _ [11] (by decide +kernel) (by decide +kernel)
set_option maxRecDepth 20000 in
theorem gX11_drift_X11_in : GoodIn wsX11_drift (va_wsS RX11 60 yX11_in wsX11_in) := goodIn_app (goodIn_of _ (by decide +kernel)) ggX11_drift_X11_in
set_option maxRecDepth 20000 in
theorem ggX11_drift_X11_notes : GoodIn wsX11_drift wsX11_notes := goodIn_r _ [15, 16, 17, 3, 55, 56, 57, 58, 59, 60, 61, 62, 63, 64, 65, 66, 67, 68, 69, 70, 71, 72, 73, 74, 75, 76, 77] (by decide +kernel) (by decide +kernel)
set_option maxRecDepth 20000 in
theorem gX11_drift_X11_notes : GoodIn wsX11_drift (wsV RX11 109 RX11 yX11_notes wsX11_notes) := goodIn_app (goodIn_of _ (by decide +kernel)) ggX11_drift_X11_notes
set_option maxRecDepth 20000 in
theorem ggX11_drift_X11_pointsNow : GoodIn wsX11_drift wsX11_pointsNow := goodIn_r _ [21, 22, 23, 24, 10, 25, 26, 27, 28, 29, 30, 31, 32, 3, 33, 34, 35, 36, 37, 38, 39, 40, 41, 42, 43, 44, 45, 46, 47, 48, 49, 50, 51, 52, 53, 54, 55, 56, 57, 58, 59, 60, 61, 62, 63, 64, 65, 66, 67, 68, 69, 70, 71, 72, 73, 74, 75, 76, 77] (by decide +kernel) (by decide +kernel)
set_option maxRecDepth 20000 in
theorem gX11_drift_X11_pointsNow : GoodIn wsX11_drift (wsV RX11 121 RX11 yX11_pointsNow wsX11_pointsNow) := goodIn_app (goodIn_of _ (by decide +kernel)) ggX11_drift_X11_pointsNow
theorem dX11_drift_0 : decode cX11_drift 0 = .ok (.iload_n 1, 1) := by decide +kernel
theorem dX11_drift_1 : decode cX11_drift 1 = .ok (.i2l, 1) := by decide +kernel
theorem dX11_drift_2 : decode cX11_drift 2 = .ok (.lconst 1, 1) := by decide +kernel
theorem dX11_drift_3 : decode cX11_drift 3 = .ok (.ldc2_w 178, 3) := by decide +kernel
theorem dX11_drift_6 : decode cX11_drift 6 = .ok (.invokestatic 60, 3) := by decide +kernel
theorem dX11_drift_9 : decode cX11_drift 9 = .ok (.ifCond .ne 6, 3) := by decide +kernel
theorem dX11_drift_12 : decode cX11_drift 12 = .ok (.ldc 107, 2) := by decide +kernel
theorem dX11_drift_14 : decode cX11_drift 14 = .ok (.ireturn, 1) := by decide +kernel
theorem dX11_drift_15 : decode cX11_drift 15 = .ok (.iconst 0, 1) := by decide +kernel
theorem dX11_drift_16 : decode cX11_drift 16 = .ok (.istore_n 2, 1) := by decide +kernel
theorem dX11_drift_17 : decode cX11_drift 17 = .ok (.iload_n 2, 1) := by decide +kernel
theorem dX11_drift_18 : decode cX11_drift 18 = .ok (.iload_n 1, 1) := by decide +kernel
theorem dX11_drift_19 : decode cX11_drift 19 = .ok (.if_icmp .ge 99, 3) := by decide +kernel
theorem dX11_drift_22 : decode cX11_drift 22 = .ok (.aload_n 0, 1) := by decide +kernel
theorem dX11_drift_23 : decode cX11_drift 23 = .ok (.invokevirtual 109, 3) := by decide +kernel
theorem dX11_drift_26 : decode cX11_drift 26 = .ok (.aload_n 0, 1) := by decide +kernel
theorem dX11_drift_27 : decode cX11_drift 27 = .ok (.getfield 7, 3) := by decide +kernel
theorem dX11_drift_30 : decode cX11_drift 30 = .ok (.iconst 2, 1) := by decide +kernel
theorem dX11_drift_31 : decode cX11_drift 31 = .ok (.iaload, 1) := by decide +kernel
theorem dX11_drift_32 : decode cX11_drift 32 = .ok (.i2l, 1) := by decide +kernel
theorem dX11_drift_33 : decode cX11_drift 33 = .ok (.ldc2_w 180, 3) := by decide +kernel
theorem dX11_drift_36 : decode cX11_drift 36 = .ok (.lmul, 1) := by decide +kernel
theorem dX11_drift_37 : decode cX11_drift 37 = .ok (.ldc2_w 182, 3) := by decide +kernel
theorem dX11_drift_40 : decode cX11_drift 40 = .ok (.ladd, 1) := by decide +kernel
theorem dX11_drift_41 : decode cX11_drift 41 = .ok (.ldc2_w 184, 3) := by decide +kernel
theorem dX11_drift_44 : decode cX11_drift 44 = .ok (.lrem, 1) := by decide +kernel
theorem dX11_drift_45 : decode cX11_drift 45 = .ok (.lstore_n 3, 1) := by decide +kernel
theorem dX11_drift_46 : decode cX11_drift 46 = .ok (.aload_n 0, 1) := by decide +kernel
theorem dX11_drift_47 : decode cX11_drift 47 = .ok (.getfield 7, 3) := by decide +kernel
theorem dX11_drift_50 : decode cX11_drift 50 = .ok (.iconst 2, 1) := by decide +kernel
theorem dX11_drift_51 : decode cX11_drift 51 = .ok (.lload_n 3, 1) := by decide +kernel
theorem dX11_drift_52 : decode cX11_drift 52 = .ok (.l2i, 1) := by decide +kernel
theorem dX11_drift_53 : decode cX11_drift 53 = .ok (.iastore, 1) := by decide +kernel
theorem dX11_drift_54 : decode cX11_drift 54 = .ok (.aload_n 0, 1) := by decide +kernel
theorem dX11_drift_55 : decode cX11_drift 55 = .ok (.getfield 7, 3) := by decide +kernel
theorem dX11_drift_58 : decode cX11_drift 58 = .ok (.iconst 2, 1) := by decide +kernel
theorem dX11_drift_59 : decode cX11_drift 59 = .ok (.iaload, 1) := by decide +kernel
theorem dX11_drift_60 : decode cX11_drift 60 = .ok (.ldc 186, 2) := by decide +kernel
theorem dX11_drift_62 : decode cX11_drift 62 = .ok (.idiv, 1) := by decide +kernel
theorem dX11_drift_63 : decode cX11_drift 63 = .ok (.istore 5, 2) := by decide +kernel
theorem dX11_drift_65 : decode cX11_drift 65 = .ok (.aload_n 0, 1) := by decide +kernel
theorem dX11_drift_66 : decode cX11_drift 66 = .ok (.getfield 7, 3) := by decide +kernel
theorem dX11_drift_69 : decode cX11_drift 69 = .ok (.iconst 0, 1) := by decide +kernel
theorem dX11_drift_70 : decode cX11_drift 70 = .ok (.iaload, 1) := by decide +kernel
theorem dX11_drift_71 : decode cX11_drift 71 = .ok (.ifCond .le 41, 3) := by decide +kernel
theorem dX11_drift_74 : decode cX11_drift 74 = .ok (.aload_n 0, 1) := by decide +kernel
theorem dX11_drift_75 : decode cX11_drift 75 = .ok (.getfield 7, 3) := by decide +kernel
theorem dX11_drift_78 : decode cX11_drift 78 = .ok (.iconst 3, 1) := by decide +kernel
theorem dX11_drift_79 : decode cX11_drift 79 = .ok (.bipush 6, 2) := by decide +kernel
theorem dX11_drift_81 : decode cX11_drift 81 = .ok (.iload 5, 2) := by decide +kernel
theorem dX11_drift_83 : decode cX11_drift 83 = .ok (.aload_n 0, 1) := by decide +kernel
theorem dX11_drift_84 : decode cX11_drift 84 = .ok (.getfield 7, 3) := by decide +kernel
theorem dX11_drift_87 : decode cX11_drift 87 = .ok (.iconst 0, 1) := by decide +kernel
theorem dX11_drift_88 : decode cX11_drift 88 = .ok (.iaload, 1) := by decide +kernel
theorem dX11_drift_89 : decode cX11_drift 89 = .ok (.irem, 1) := by decide +kernel
theorem dX11_drift_90 : decode cX11_drift 90 = .ok (.imul, 1) := by decide +kernel
theorem dX11_drift_91 : decode cX11_drift 91 = .ok (.iadd, 1) := by decide +kernel
theorem dX11_drift_92 : decode cX11_drift 92 = .ok (.iload 5, 2) := by decide +kernel
theorem dX11_drift_94 : decode cX11_drift 94 = .ok (.bipush 8, 2) := by decide +kernel
theorem dX11_drift_96 : decode cX11_drift 96 = .ok (.idiv, 1) := by decide +kernel
theorem dX11_drift_97 : decode cX11_drift 97 = .ok (.iconst 5, 1) := by decide +kernel
theorem dX11_drift_98 : decode cX11_drift 98 = .ok (.irem, 1) := by decide +kernel
theorem dX11_drift_99 : decode cX11_drift 99 = .ok (.iadd, 1) := by decide +kernel
theorem dX11_drift_100 : decode cX11_drift 100 = .ok (.iload 5, 2) := by decide +kernel
theorem dX11_drift_102 : decode cX11_drift 102 = .ok (.bipush 64, 2) := by decide +kernel
theorem dX11_drift_104 : decode cX11_drift 104 = .ok (.idiv, 1) := by decide +kernel
theorem dX11_drift_105 : decode cX11_drift 105 = .ok (.bipush 19, 2) := by decide +kernel
theorem dX11_drift_107 : decode cX11_drift 107 = .ok (.irem, 1) := by decide +kernel
theorem dX11_drift_108 : decode cX11_drift 108 = .ok (.bipush 9, 2) := by decide +kernel
theorem dX11_drift_110 : decode cX11_drift 110 = .ok (.isub, 1) := by decide +kernel
theorem dX11_drift_111 : decode cX11_drift 111 = .ok (.iastore, 1) := by decide +kernel
theorem dX11_drift_112 : decode cX11_drift 112 = .ok (.iinc 2 1, 3) := by decide +kernel
theorem dX11_drift_115 : decode cX11_drift 115 = .ok (.goto (-98), 3) := by decide +kernel
theorem dX11_drift_118 : decode cX11_drift 118 = .ok (.aload_n 0, 1) := by decide +kernel
theorem dX11_drift_119 : decode cX11_drift 119 = .ok (.invokevirtual 121, 3) := by decide +kernel
theorem dX11_drift_122 : decode cX11_drift 122 = .ok (.ireturn, 1) := by decide +kernel
theorem dX11_undo_0 : decode cX11_undo 0 = .ok (.aload_n 0, 1) := by decide +kernel
theorem dX11_undo_1 : decode cX11_undo 1 = .ok (.getfield 127, 3) := by decide +kernel
theorem dX11_undo_4 : decode cX11_undo 4 = .ok (.ifCond .ne 6, 3) := by decide +kernel
theorem dX11_undo_7 : decode cX11_undo 7 = .ok (.ldc 98, 2) := by decide +kernel
theorem dX11_undo_9 : decode cX11_undo 9 = .ok (.ireturn, 1) := by decide +kernel
theorem dX11_undo_10 : decode cX11_undo 10 = .ok (.aload_n 0, 1) := by decide +kernel
theorem dX11_undo_11 : decode cX11_undo 11 = .ok (.dup, 1) := by decide +kernel
theorem dX11_undo_12 : decode cX11_undo 12 = .ok (.getfield 127, 3) := by decide +kernel
theorem dX11_undo_15 : decode cX11_undo 15 = .ok (.iconst 1, 1) := by decide +kernel
theorem dX11_undo_16 : decode cX11_undo 16 = .ok (.isub, 1) := by decide +kernel
theorem dX11_undo_17 : decode cX11_undo 17 = .ok (.putfield 127, 3) := by decide +kernel
theorem dX11_undo_20 : decode cX11_undo 20 = .ok (.iconst 0, 1) := by decide +kernel
theorem dX11_undo_21 : decode cX11_undo 21 = .ok (.istore_n 1, 1) := by decide +kernel
theorem dX11_undo_22 : decode cX11_undo 22 = .ok (.iload_n 1, 1) := by decide +kernel
theorem dX11_undo_23 : decode cX11_undo 23 = .ok (.bipush 51, 2) := by decide +kernel
theorem dX11_undo_25 : decode cX11_undo 25 = .ok (.if_icmp .ge 29, 3) := by decide +kernel
theorem dX11_undo_28 : decode cX11_undo 28 = .ok (.aload_n 0, 1) := by decide +kernel
theorem dX11_undo_29 : decode cX11_undo 29 = .ok (.getfield 7, 3) := by decide +kernel
theorem dX11_undo_32 : decode cX11_undo 32 = .ok (.iload_n 1, 1) := by decide +kernel
theorem dX11_undo_33 : decode cX11_undo 33 = .ok (.aload_n 0, 1) := by decide +kernel
theorem dX11_undo_34 : decode cX11_undo 34 = .ok (.getfield 25, 3) := by decide +kernel
theorem dX11_undo_37 : decode cX11_undo 37 = .ok (.bipush 51, 2) := by decide +kernel
theorem dX11_undo_39 : decode cX11_undo 39 = .ok (.aload_n 0, 1) := by decide +kernel
theorem dX11_undo_40 : decode cX11_undo 40 = .ok (.getfield 127, 3) := by decide +kernel
theorem dX11_undo_43 : decode cX11_undo 43 = .ok (.imul, 1) := by decide +kernel
theorem dX11_undo_44 : decode cX11_undo 44 = .ok (.iload_n 1, 1) := by decide +kernel
theorem dX11_undo_45 : decode cX11_undo 45 = .ok (.iadd, 1) := by decide +kernel
theorem dX11_undo_46 : decode cX11_undo 46 = .ok (.iaload, 1) := by decide +kernel
theorem dX11_undo_47 : decode cX11_undo 47 = .ok (.iastore, 1) := by decide +kernel
theorem dX11_undo_48 : decode cX11_undo 48 = .ok (.iinc 1 1, 3) := by decide +kernel
theorem dX11_undo_51 : decode cX11_undo 51 = .ok (.goto (-29), 3) := by decide +kernel
theorem dX11_undo_54 : decode cX11_undo 54 = .ok (.aload_n 0, 1) := by decide +kernel
theorem dX11_undo_55 : decode cX11_undo 55 = .ok (.getfield 127, 3) := by decide +kernel
theorem dX11_undo_58 : decode cX11_undo 58 = .ok (.ireturn, 1) := by decide +kernel
theorem dX11_seed_0 : decode cX11_seed 0 = .ok (.iload_n 1, 1) := by decide +kernel
theorem dX11_seed_1 : decode cX11_seed 1 = .ok (.ifCond .ge 6, 3) := by decide +kernel
theorem dX11_seed_4 : decode cX11_seed 4 = .ok (.ldc 107, 2) := by decide +kernel
theorem dX11_seed_6 : decode cX11_seed 6 = .ok (.ireturn, 1) := by decide +kernel
theorem dX11_seed_7 : decode cX11_seed 7 = .ok (.aload_n 0, 1) := by decide +kernel
theorem dX11_seed_8 : decode cX11_seed 8 = .ok (.getfield 7, 3) := by decide +kernel
theorem dX11_seed_11 : decode cX11_seed 11 = .ok (.iconst 2, 1) := by decide +kernel
theorem dX11_seed_12 : decode cX11_seed 12 = .ok (.iaload, 1) := by decide +kernel
theorem dX11_seed_13 : decode cX11_seed 13 = .ok (.istore_n 2, 1) := by decide +kernel
theorem dX11_seed_14 : decode cX11_seed 14 = .ok (.aload_n 0, 1) := by decide +kernel
theorem dX11_seed_15 : decode cX11_seed 15 = .ok (.getfield 7, 3) := by decide +kernel
theorem dX11_seed_18 : decode cX11_seed 18 = .ok (.iconst 2, 1) := by decide +kernel
theorem dX11_seed_19 : decode cX11_seed 19 = .ok (.iload_n 1, 1) := by decide +kernel
theorem dX11_seed_20 : decode cX11_seed 20 = .ok (.iastore, 1) := by decide +kernel
theorem dX11_seed_21 : decode cX11_seed 21 = .ok (.iload_n 2, 1) := by decide +kernel
theorem dX11_seed_22 : decode cX11_seed 22 = .ok (.ireturn, 1) := by decide +kernel
set_option maxRecDepth 20000 in
theorem ggX11_isVariable_X11_in : GoodIn wsX11_isVariable wsX11_in := goodIn_r _ [5] (by decide +kernel) (by decide +kernel)
set_option maxRecDepth 20000 in
theorem gX11_isVariable_X11_in : GoodIn wsX11_isVariable (va_wsS RX11 60 yX11_in wsX11_in) := goodIn_app (goodIn_of _ (by decide +kernel)) ggX11_isVariable_X11_in
theorem dX11_isVariable_0 : decode cX11_isVariable 0 = .ok (.iload_n 0, 1) := by decide +kernel
theorem dX11_isVariable_1 : decode cX11_isVariable 1 = .ok (.i2l, 1) := by decide +kernel
theorem dX11_isVariable_2 : decode cX11_isVariable 2 = .ok (.lconst 0, 1) := by decide +kernel
theorem dX11_isVariable_3 : decode cX11_isVariable 3 = .ok (.ldc2_w 150, 3) := by decide +kernel
theorem dX11_isVariable_6 : decode cX11_isVariable 6 = .ok (.invokestatic 60, 3) := by decide +kernel
theorem dX11_isVariable_9 : decode cX11_isVariable 9 = .ok (.ireturn, 1) := by decide +kernel
theorem dX11_least_0 : decode cX11_least 0 = .ok (.ldc 98, 2) := by decide +kernel
theorem dX11_least_2 : decode cX11_least 2 = .ok (.istore_n 1, 1) := by decide +kernel
theorem dX11_least_3 : decode cX11_least 3 = .ok (.bipush 14, 2) := by decide +kernel
theorem dX11_least_5 : decode cX11_least 5 = .ok (.istore_n 2, 1) := by decide +kernel
theorem dX11_least_6 : decode cX11_least 6 = .ok (.iload_n 2, 1) := by decide +kernel
theorem dX11_least_7 : decode cX11_least 7 = .ok (.ifCond .lt 24, 3) := by decide +kernel
theorem dX11_least_10 : decode cX11_least 10 = .ok (.iload_n 0, 1) := by decide +kernel
theorem dX11_least_11 : decode cX11_least 11 = .ok (.iload_n 2, 1) := by decide +kernel
theorem dX11_least_12 : decode cX11_least 12 = .ok (.ishr, 1) := by decide +kernel
theorem dX11_least_13 : decode cX11_least 13 = .ok (.iconst 1, 1) := by decide +kernel
theorem dX11_least_14 : decode cX11_least 14 = .ok (.iand, 1) := by decide +kernel
theorem dX11_least_15 : decode cX11_least 15 = .ok (.iconst 1, 1) := by decide +kernel
theorem dX11_least_16 : decode cX11_least 16 = .ok (.if_icmp .ne 7, 3) := by decide +kernel
theorem dX11_least_19 : decode cX11_least 19 = .ok (.iload_n 2, 1) := by decide +kernel
theorem dX11_least_20 : decode cX11_least 20 = .ok (.goto 4, 3) := by decide +kernel
theorem dX11_least_23 : decode cX11_least 23 = .ok (.iload_n 1, 1) := by decide +kernel
theorem dX11_least_24 : decode cX11_least 24 = .ok (.istore_n 1, 1) := by decide +kernel
theorem dX11_least_25 : decode cX11_least 25 = .ok (.iinc 2 (-1), 3) := by decide +kernel
theorem dX11_least_28 : decode cX11_least 28 = .ok (.goto (-22), 3) := by decide +kernel
theorem dX11_least_31 : decode cX11_least 31 = .ok (.iload_n 1, 1) := by decide +kernel
theorem dX11_least_32 : decode cX11_least 32 = .ok (.ireturn, 1) := by decide +kernel
theorem dX11_greatest_0 : decode cX11_greatest 0 = .ok (.ldc 98, 2) := by decide +kernel
theorem dX11_greatest_2 : decode cX11_greatest 2 = .ok (.istore_n 1, 1) := by decide +kernel
theorem dX11_greatest_3 : decode cX11_greatest 3 = .ok (.iconst 0, 1) := by decide +kernel
theorem dX11_greatest_4 : decode cX11_greatest 4 = .ok (.istore_n 2, 1) := by decide +kernel
theorem dX11_greatest_5 : decode cX11_greatest 5 = .ok (.iload_n 2, 1) := by decide +kernel
theorem dX11_greatest_6 : decode cX11_greatest 6 = .ok (.bipush 15, 2) := by decide +kernel
theorem dX11_greatest_8 : decode cX11_greatest 8 = .ok (.if_icmp .ge 24, 3) := by decide +kernel
theorem dX11_greatest_11 : decode cX11_greatest 11 = .ok (.iload_n 0, 1) := by decide +kernel
theorem dX11_greatest_12 : decode cX11_greatest 12 = .ok (.iload_n 2, 1) := by decide +kernel
theorem dX11_greatest_13 : decode cX11_greatest 13 = .ok (.ishr, 1) := by decide +kernel
theorem dX11_greatest_14 : decode cX11_greatest 14 = .ok (.iconst 1, 1) := by decide +kernel
theorem dX11_greatest_15 : decode cX11_greatest 15 = .ok (.iand, 1) := by decide +kernel
theorem dX11_greatest_16 : decode cX11_greatest 16 = .ok (.iconst 1, 1) := by decide +kernel
theorem dX11_greatest_17 : decode cX11_greatest 17 = .ok (.if_icmp .ne 7, 3) := by decide +kernel
theorem dX11_greatest_20 : decode cX11_greatest 20 = .ok (.iload_n 2, 1) := by decide +kernel
theorem dX11_greatest_21 : decode cX11_greatest 21 = .ok (.goto 4, 3) := by decide +kernel
theorem dX11_greatest_24 : decode cX11_greatest 24 = .ok (.iload_n 1, 1) := by decide +kernel
theorem dX11_greatest_25 : decode cX11_greatest 25 = .ok (.istore_n 1, 1) := by decide +kernel
theorem dX11_greatest_26 : decode cX11_greatest 26 = .ok (.iinc 2 1, 3) := by decide +kernel
theorem dX11_greatest_29 : decode cX11_greatest 29 = .ok (.goto (-24), 3) := by decide +kernel
theorem dX11_greatest_32 : decode cX11_greatest 32 = .ok (.iload_n 1, 1) := by decide +kernel
theorem dX11_greatest_33 : decode cX11_greatest 33 = .ok (.ireturn, 1) := by decide +kernel
set_option maxRecDepth 20000 in
theorem ggX11_range_X11_isVariable : GoodIn wsX11_range wsX11_isVariable := goodIn_r _ [9, 10, 11, 12, 8, 13] (by decide +kernel) (by decide +kernel)
set_option maxRecDepth 20000 in
theorem gX11_range_X11_isVariable : GoodIn wsX11_range (va_wsS RX11 187 yX11_isVariable wsX11_isVariable) := goodIn_app (goodIn_of _ (by decide +kernel)) ggX11_range_X11_isVariable
set_option maxRecDepth 20000 in
theorem ggX11_range_X11_in : GoodIn wsX11_range wsX11_in := goodIn_r _ [13] (by decide +kernel) (by decide +kernel)
set_option maxRecDepth 20000 in
theorem gX11_range_X11_in : GoodIn wsX11_range (va_wsS RX11 60 yX11_in wsX11_in) := goodIn_app (goodIn_of _ (by decide +kernel)) ggX11_range_X11_in
set_option maxRecDepth 20000 in
theorem ggX11_range_X11_lays : GoodIn wsX11_range wsX11_lays := goodIn_r _ [17, 3, 5, 4, 18, 19, 20, 8, 21, 22, 23, 24, 25, 26, 27, 28, 29, 30, 31, 32, 33, 34, 35, 36, 48, 49, 50, 51, 52, 53, 54, 55, 56, 57, 58, 59, 60, 61, 62, 63, 64, 65, 66, 67, 68, 69, 70] (by decide +kernel) (by decide +kernel)
set_option maxRecDepth 20000 in
theorem gX11_range_X11_lays : GoodIn wsX11_range (wsV RX11 88 RX11 yX11_lays wsX11_lays) := goodIn_app (goodIn_of _ (by decide +kernel)) ggX11_range_X11_lays
set_option maxRecDepth 20000 in
theorem ggX11_range_X11_all : GoodIn wsX11_range wsX11_all := goodIn_r _ [40, 22, 48, 49, 50, 51, 52, 53, 54, 55, 56, 57, 58, 59, 60, 61, 62, 63, 64, 65, 66, 67, 68, 69, 70] (by decide +kernel) (by decide +kernel)
set_option maxRecDepth 20000 in
theorem gX11_range_X11_all : GoodIn wsX11_range (wsV RX11 91 RX11 yX11_all wsX11_all) := goodIn_app (goodIn_of _ (by decide +kernel)) ggX11_range_X11_all
set_option maxRecDepth 20000 in
theorem ggX11_range_X11_valueOf : GoodIn wsX11_range wsX11_valueOf := goodIn_r _ [25] (by decide +kernel) (by decide +kernel)
set_option maxRecDepth 20000 in
theorem gX11_range_X11_valueOf : GoodIn wsX11_range (va_wsS RX11 66 yX11_valueOf wsX11_valueOf) := goodIn_app (goodIn_of _ (by decide +kernel)) ggX11_range_X11_valueOf
set_option maxRecDepth 20000 in
theorem ggX11_range_X11_least : GoodIn wsX11_range wsX11_least := goodIn_r _ [43, 44] (by decide +kernel) (by decide +kernel)
set_option maxRecDepth 20000 in
theorem gX11_range_X11_least : GoodIn wsX11_range (va_wsS RX11 192 yX11_least wsX11_least) := goodIn_app (goodIn_of _ (by decide +kernel)) ggX11_range_X11_least
set_option maxRecDepth 20000 in
theorem ggX11_range_X11_greatest : GoodIn wsX11_range wsX11_greatest := goodIn_r _ [47, 44] (by decide +kernel) (by decide +kernel)
set_option maxRecDepth 20000 in
theorem gX11_range_X11_greatest : GoodIn wsX11_range (va_wsS RX11 195 yX11_greatest wsX11_greatest) := goodIn_app (goodIn_of _ (by decide +kernel)) ggX11_range_X11_greatest
theorem dX11_range_0 : decode cX11_range 0 = .ok (.iload_n 1, 1) := by decide +kernel
theorem dX11_range_1 : decode cX11_range 1 = .ok (.invokestatic 187, 3) := by decide +kernel
theorem dX11_range_4 : decode cX11_range 4 = .ok (.ifCond .eq 15, 3) := by decide +kernel
theorem dX11_range_7 : decode cX11_range 7 = .ok (.iload_n 2, 1) := by decide +kernel
theorem dX11_range_8 : decode cX11_range 8 = .ok (.i2l, 1) := by decide +kernel
theorem dX11_range_9 : decode cX11_range 9 = .ok (.lconst 0, 1) := by decide +kernel
theorem dX11_range_10 : decode cX11_range 10 = .ok (.ldc2_w 190, 3) := by decide +kernel
theorem dX11_range_13 : decode cX11_range 13 = .ok (.invokestatic 60, 3) := by decide +kernel
theorem dX11_range_16 : decode cX11_range 16 = .ok (.ifCond .ne 6, 3) := by decide +kernel
theorem dX11_range_19 : decode cX11_range 19 = .ok (.ldc 107, 2) := by decide +kernel
theorem dX11_range_21 : decode cX11_range 21 = .ok (.ireturn, 1) := by decide +kernel
theorem dX11_range_22 : decode cX11_range 22 = .ok (.aload_n 0, 1) := by decide +kernel
theorem dX11_range_23 : decode cX11_range 23 = .ok (.invokevirtual 88, 3) := by decide +kernel
theorem dX11_range_26 : decode cX11_range 26 = .ok (.iconst 0, 1) := by decide +kernel
theorem dX11_range_27 : decode cX11_range 27 = .ok (.istore_n 3, 1) := by decide +kernel
theorem dX11_range_28 : decode cX11_range 28 = .ok (.iconst 0, 1) := by decide +kernel
theorem dX11_range_29 : decode cX11_range 29 = .ok (.istore 4, 2) := by decide +kernel
theorem dX11_range_31 : decode cX11_range 31 = .ok (.iload 4, 2) := by decide +kernel
theorem dX11_range_33 : decode cX11_range 33 = .ok (.aload_n 0, 1) := by decide +kernel
theorem dX11_range_34 : decode cX11_range 34 = .ok (.getfield 77, 3) := by decide +kernel
theorem dX11_range_37 : decode cX11_range 37 = .ok (.if_icmp .ge 43, 3) := by decide +kernel
theorem dX11_range_40 : decode cX11_range 40 = .ok (.iload_n 3, 1) := by decide +kernel
theorem dX11_range_41 : decode cX11_range 41 = .ok (.aload_n 0, 1) := by decide +kernel
theorem dX11_range_42 : decode cX11_range 42 = .ok (.getfield 16, 3) := by decide +kernel
theorem dX11_range_45 : decode cX11_range 45 = .ok (.iload 4, 2) := by decide +kernel
theorem dX11_range_47 : decode cX11_range 47 = .ok (.iaload, 1) := by decide +kernel
theorem dX11_range_48 : decode cX11_range 48 = .ok (.aload_n 0, 1) := by decide +kernel
theorem dX11_range_49 : decode cX11_range 49 = .ok (.invokevirtual 91, 3) := by decide +kernel
theorem dX11_range_52 : decode cX11_range 52 = .ok (.if_icmp .ne 19, 3) := by decide +kernel
theorem dX11_range_55 : decode cX11_range 55 = .ok (.iconst 1, 1) := by decide +kernel
theorem dX11_range_56 : decode cX11_range 56 = .ok (.aload_n 0, 1) := by decide +kernel
theorem dX11_range_57 : decode cX11_range 57 = .ok (.getfield 13, 3) := by decide +kernel
theorem dX11_range_60 : decode cX11_range 60 = .ok (.iload 4, 2) := by decide +kernel
theorem dX11_range_62 : decode cX11_range 62 = .ok (.iaload, 1) := by decide +kernel
theorem dX11_range_63 : decode cX11_range 63 = .ok (.iload_n 1, 1) := by decide +kernel
theorem dX11_range_64 : decode cX11_range 64 = .ok (.invokestatic 66, 3) := by decide +kernel
theorem dX11_range_67 : decode cX11_range 67 = .ok (.ishl, 1) := by decide +kernel
theorem dX11_range_68 : decode cX11_range 68 = .ok (.goto 4, 3) := by decide +kernel
theorem dX11_range_71 : decode cX11_range 71 = .ok (.iconst 0, 1) := by decide +kernel
theorem dX11_range_72 : decode cX11_range 72 = .ok (.ior, 1) := by decide +kernel
theorem dX11_range_73 : decode cX11_range 73 = .ok (.istore_n 3, 1) := by decide +kernel
theorem dX11_range_74 : decode cX11_range 74 = .ok (.iinc 4 1, 3) := by decide +kernel
theorem dX11_range_77 : decode cX11_range 77 = .ok (.goto (-46), 3) := by decide +kernel
theorem dX11_range_80 : decode cX11_range 80 = .ok (.iload_n 2, 1) := by decide +kernel
theorem dX11_range_81 : decode cX11_range 81 = .ok (.iconst 2, 1) := by decide +kernel
theorem dX11_range_82 : decode cX11_range 82 = .ok (.if_icmp .ne 7, 3) := by decide +kernel
theorem dX11_range_85 : decode cX11_range 85 = .ok (.iload_n 3, 1) := by decide +kernel
theorem dX11_range_86 : decode cX11_range 86 = .ok (.goto 18, 3) := by decide +kernel
theorem dX11_range_89 : decode cX11_range 89 = .ok (.iload_n 2, 1) := by decide +kernel
theorem dX11_range_90 : decode cX11_range 90 = .ok (.ifCond .ne 10, 3) := by decide +kernel
theorem dX11_range_93 : decode cX11_range 93 = .ok (.iload_n 3, 1) := by decide +kernel
theorem dX11_range_94 : decode cX11_range 94 = .ok (.invokestatic 192, 3) := by decide +kernel
theorem dX11_range_97 : decode cX11_range 97 = .ok (.goto 7, 3) := by decide +kernel
theorem dX11_range_100 : decode cX11_range 100 = .ok (.iload_n 3, 1) := by decide +kernel
theorem dX11_range_101 : decode cX11_range 101 = .ok (.invokestatic 195, 3) := by decide +kernel
theorem dX11_range_104 : decode cX11_range 104 = .ok (.ireturn, 1) := by decide +kernel
theorem dX11_bits_0 : decode cX11_bits 0 = .ok (.iconst 0, 1) := by decide +kernel
theorem dX11_bits_1 : decode cX11_bits 1 = .ok (.istore_n 1, 1) := by decide +kernel
theorem dX11_bits_2 : decode cX11_bits 2 = .ok (.iconst 0, 1) := by decide +kernel
theorem dX11_bits_3 : decode cX11_bits 3 = .ok (.istore_n 2, 1) := by decide +kernel
theorem dX11_bits_4 : decode cX11_bits 4 = .ok (.iload_n 2, 1) := by decide +kernel
theorem dX11_bits_5 : decode cX11_bits 5 = .ok (.bipush 15, 2) := by decide +kernel
theorem dX11_bits_7 : decode cX11_bits 7 = .ok (.if_icmp .ge 17, 3) := by decide +kernel
theorem dX11_bits_10 : decode cX11_bits 10 = .ok (.iload_n 1, 1) := by decide +kernel
theorem dX11_bits_11 : decode cX11_bits 11 = .ok (.iload_n 0, 1) := by decide +kernel
theorem dX11_bits_12 : decode cX11_bits 12 = .ok (.iload_n 2, 1) := by decide +kernel
theorem dX11_bits_13 : decode cX11_bits 13 = .ok (.ishr, 1) := by decide +kernel
theorem dX11_bits_14 : decode cX11_bits 14 = .ok (.iconst 1, 1) := by decide +kernel
theorem dX11_bits_15 : decode cX11_bits 15 = .ok (.iand, 1) := by decide +kernel
theorem dX11_bits_16 : decode cX11_bits 16 = .ok (.iadd, 1) := by decide +kernel
theorem dX11_bits_17 : decode cX11_bits 17 = .ok (.istore_n 1, 1) := by decide +kernel
theorem dX11_bits_18 : decode cX11_bits 18 = .ok (.iinc 2 1, 3) := by decide +kernel
theorem dX11_bits_21 : decode cX11_bits 21 = .ok (.goto (-17), 3) := by decide +kernel
theorem dX11_bits_24 : decode cX11_bits 24 = .ok (.iload_n 1, 1) := by decide +kernel
theorem dX11_bits_25 : decode cX11_bits 25 = .ok (.ireturn, 1) := by decide +kernel
set_option maxRecDepth 20000 in
theorem ggX11_apart_X11_isVariable : GoodIn wsX11_apart wsX11_isVariable := goodIn_r _ [10, 11, 12, 13, 9, 14] (by decide +kernel) (by decide +kernel)
set_option maxRecDepth 20000 in
theorem gX11_apart_X11_isVariable : GoodIn wsX11_apart (va_wsS RX11 187 yX11_isVariable wsX11_isVariable) := goodIn_app (goodIn_of _ (by decide +kernel)) ggX11_apart_X11_isVariable
set_option maxRecDepth 20000 in
theorem ggX11_apart_X11_in : GoodIn wsX11_apart wsX11_in := goodIn_r _ [14] (by decide +kernel) (by decide +kernel)
set_option maxRecDepth 20000 in
theorem gX11_apart_X11_in : GoodIn wsX11_apart (va_wsS RX11 60 yX11_in wsX11_in) := goodIn_app (goodIn_of _ (by decide +kernel)) ggX11_apart_X11_in
set_option maxRecDepth 20000 in
theorem ggX11_apart_X11_lays : GoodIn wsX11_apart wsX11_lays := goodIn_r _ [18, 3, 4, 5, 19, 20, 21, 9, 22, 23, 24, 25, 26, 27, 28, 29, 30, 31, 32, 33, 34, 35, 36, 37, 51, 52, 53, 54, 55, 56, 57, 58, 59, 60, 61, 62, 63, 64, 65, 66, 67, 68, 69, 70, 71, 72, 73] (by decide +kernel) (by decide +kernel)
set_option maxRecDepth 20000 in
theorem gX11_apart_X11_lays : GoodIn wsX11_apart (wsV RX11 88 RX11 yX11_lays wsX11_lays) := goodIn_app (goodIn_of _ (by decide +kernel)) ggX11_apart_X11_lays
set_option maxRecDepth 20000 in
theorem ggX11_apart_X11_valueOf : GoodIn wsX11_apart wsX11_valueOf := goodIn_r _ [26] (by decide +kernel) (by decide +kernel)
set_option maxRecDepth 20000 in
theorem gX11_apart_X11_valueOf : GoodIn wsX11_apart (va_wsS RX11 66 yX11_valueOf wsX11_valueOf) := goodIn_app (goodIn_of _ (by decide +kernel)) ggX11_apart_X11_valueOf
set_option maxRecDepth 20000 in
theorem ggX11_apart_X11_all : GoodIn wsX11_apart wsX11_all := goodIn_r _ [41, 23, 51, 52, 53, 54, 55, 56, 57, 58, 59, 60, 61, 62, 63, 64, 65, 66, 67, 68, 69, 70, 71, 72, 73] (by decide +kernel) (by decide +kernel)
set_option maxRecDepth 20000 in
theorem gX11_apart_X11_all : GoodIn wsX11_apart (wsV RX11 91 RX11 yX11_all wsX11_all) := goodIn_app (goodIn_of _ (by decide +kernel)) ggX11_apart_X11_all
set_option maxRecDepth 20000 in
theorem ggX11_apart_X11_bits : GoodIn wsX11_apart wsX11_bits := goodIn_r _ [44] (by decide +kernel) (by decide +kernel)
set_option maxRecDepth 20000 in
theorem gX11_apart_X11_bits : GoodIn wsX11_apart (va_wsS RX11 198 yX11_bits wsX11_bits) := goodIn_app (goodIn_of _ (by decide +kernel)) ggX11_apart_X11_bits
set_option maxRecDepth 20000 in
theorem ggX11_apart_X11_least : GoodIn wsX11_apart wsX11_least := goodIn_r _ [47, 6] (by decide +kernel) (by decide +kernel)
set_option maxRecDepth 20000 in
theorem gX11_apart_X11_least : GoodIn wsX11_apart (va_wsS RX11 192 yX11_least wsX11_least) := goodIn_app (goodIn_of _ (by decide +kernel)) ggX11_apart_X11_least
set_option maxRecDepth 20000 in
theorem ggX11_apart_X11_greatest : GoodIn wsX11_apart wsX11_greatest := goodIn_r _ [50, 6] (by decide +kernel) (by decide +kernel)
set_option maxRecDepth 20000 in
theorem gX11_apart_X11_greatest : GoodIn wsX11_apart (va_wsS RX11 195 yX11_greatest wsX11_greatest) := goodIn_app (goodIn_of _ (by decide +kernel)) ggX11_apart_X11_greatest
theorem dX11_apart_0 : decode cX11_apart 0 = .ok (.iload_n 1, 1) := by decide +kernel
theorem dX11_apart_1 : decode cX11_apart 1 = .ok (.invokestatic 187, 3) := by decide +kernel
theorem dX11_apart_4 : decode cX11_apart 4 = .ok (.ifCond .eq 27, 3) := by decide +kernel
theorem dX11_apart_7 : decode cX11_apart 7 = .ok (.iload_n 2, 1) := by decide +kernel
theorem dX11_apart_8 : decode cX11_apart 8 = .ok (.invokestatic 187, 3) := by decide +kernel
theorem dX11_apart_11 : decode cX11_apart 11 = .ok (.ifCond .eq 20, 3) := by decide +kernel
theorem dX11_apart_14 : decode cX11_apart 14 = .ok (.iload_n 1, 1) := by decide +kernel
theorem dX11_apart_15 : decode cX11_apart 15 = .ok (.iload_n 2, 1) := by decide +kernel
theorem dX11_apart_16 : decode cX11_apart 16 = .ok (.if_icmp .eq 15, 3) := by decide +kernel
theorem dX11_apart_19 : decode cX11_apart 19 = .ok (.iload_n 3, 1) := by decide +kernel
theorem dX11_apart_20 : decode cX11_apart 20 = .ok (.i2l, 1) := by decide +kernel
theorem dX11_apart_21 : decode cX11_apart 21 = .ok (.lconst 0, 1) := by decide +kernel
theorem dX11_apart_22 : decode cX11_apart 22 = .ok (.ldc2_w 190, 3) := by decide +kernel
theorem dX11_apart_25 : decode cX11_apart 25 = .ok (.invokestatic 60, 3) := by decide +kernel
theorem dX11_apart_28 : decode cX11_apart 28 = .ok (.ifCond .ne 6, 3) := by decide +kernel
theorem dX11_apart_31 : decode cX11_apart 31 = .ok (.ldc 107, 2) := by decide +kernel
theorem dX11_apart_33 : decode cX11_apart 33 = .ok (.ireturn, 1) := by decide +kernel
theorem dX11_apart_34 : decode cX11_apart 34 = .ok (.aload_n 0, 1) := by decide +kernel
theorem dX11_apart_35 : decode cX11_apart 35 = .ok (.invokevirtual 88, 3) := by decide +kernel
theorem dX11_apart_38 : decode cX11_apart 38 = .ok (.iconst 0, 1) := by decide +kernel
theorem dX11_apart_39 : decode cX11_apart 39 = .ok (.istore 4, 2) := by decide +kernel
theorem dX11_apart_41 : decode cX11_apart 41 = .ok (.iconst 0, 1) := by decide +kernel
theorem dX11_apart_42 : decode cX11_apart 42 = .ok (.istore 5, 2) := by decide +kernel
theorem dX11_apart_44 : decode cX11_apart 44 = .ok (.iload 5, 2) := by decide +kernel
theorem dX11_apart_46 : decode cX11_apart 46 = .ok (.aload_n 0, 1) := by decide +kernel
theorem dX11_apart_47 : decode cX11_apart 47 = .ok (.getfield 77, 3) := by decide +kernel
theorem dX11_apart_50 : decode cX11_apart 50 = .ok (.if_icmp .ge 64, 3) := by decide +kernel
theorem dX11_apart_53 : decode cX11_apart 53 = .ok (.aload_n 0, 1) := by decide +kernel
theorem dX11_apart_54 : decode cX11_apart 54 = .ok (.getfield 13, 3) := by decide +kernel
theorem dX11_apart_57 : decode cX11_apart 57 = .ok (.iload 5, 2) := by decide +kernel
theorem dX11_apart_59 : decode cX11_apart 59 = .ok (.iaload, 1) := by decide +kernel
theorem dX11_apart_60 : decode cX11_apart 60 = .ok (.iload_n 2, 1) := by decide +kernel
theorem dX11_apart_61 : decode cX11_apart 61 = .ok (.invokestatic 66, 3) := by decide +kernel
theorem dX11_apart_64 : decode cX11_apart 64 = .ok (.aload_n 0, 1) := by decide +kernel
theorem dX11_apart_65 : decode cX11_apart 65 = .ok (.getfield 13, 3) := by decide +kernel
theorem dX11_apart_68 : decode cX11_apart 68 = .ok (.iload 5, 2) := by decide +kernel
theorem dX11_apart_70 : decode cX11_apart 70 = .ok (.iaload, 1) := by decide +kernel
theorem dX11_apart_71 : decode cX11_apart 71 = .ok (.iload_n 1, 1) := by decide +kernel
theorem dX11_apart_72 : decode cX11_apart 72 = .ok (.invokestatic 66, 3) := by decide +kernel
theorem dX11_apart_75 : decode cX11_apart 75 = .ok (.isub, 1) := by decide +kernel
theorem dX11_apart_76 : decode cX11_apart 76 = .ok (.istore 6, 2) := by decide +kernel
theorem dX11_apart_78 : decode cX11_apart 78 = .ok (.iload 4, 2) := by decide +kernel
theorem dX11_apart_80 : decode cX11_apart 80 = .ok (.aload_n 0, 1) := by decide +kernel
theorem dX11_apart_81 : decode cX11_apart 81 = .ok (.getfield 16, 3) := by decide +kernel
theorem dX11_apart_84 : decode cX11_apart 84 = .ok (.iload 5, 2) := by decide +kernel
theorem dX11_apart_86 : decode cX11_apart 86 = .ok (.iaload, 1) := by decide +kernel
theorem dX11_apart_87 : decode cX11_apart 87 = .ok (.aload_n 0, 1) := by decide +kernel
theorem dX11_apart_88 : decode cX11_apart 88 = .ok (.invokevirtual 91, 3) := by decide +kernel
theorem dX11_apart_91 : decode cX11_apart 91 = .ok (.if_icmp .ne 13, 3) := by decide +kernel
theorem dX11_apart_94 : decode cX11_apart 94 = .ok (.iconst 1, 1) := by decide +kernel
theorem dX11_apart_95 : decode cX11_apart 95 = .ok (.iload 6, 2) := by decide +kernel
theorem dX11_apart_97 : decode cX11_apart 97 = .ok (.bipush 7, 2) := by decide +kernel
theorem dX11_apart_99 : decode cX11_apart 99 = .ok (.iadd, 1) := by decide +kernel
theorem dX11_apart_100 : decode cX11_apart 100 = .ok (.ishl, 1) := by decide +kernel
theorem dX11_apart_101 : decode cX11_apart 101 = .ok (.goto 4, 3) := by decide +kernel
theorem dX11_apart_104 : decode cX11_apart 104 = .ok (.iconst 0, 1) := by decide +kernel
theorem dX11_apart_105 : decode cX11_apart 105 = .ok (.ior, 1) := by decide +kernel
theorem dX11_apart_106 : decode cX11_apart 106 = .ok (.istore 4, 2) := by decide +kernel
theorem dX11_apart_108 : decode cX11_apart 108 = .ok (.iinc 5 1, 3) := by decide +kernel
theorem dX11_apart_111 : decode cX11_apart 111 = .ok (.goto (-67), 3) := by decide +kernel
theorem dX11_apart_114 : decode cX11_apart 114 = .ok (.iload_n 3, 1) := by decide +kernel
theorem dX11_apart_115 : decode cX11_apart 115 = .ok (.iconst 2, 1) := by decide +kernel
theorem dX11_apart_116 : decode cX11_apart 116 = .ok (.if_icmp .ne 9, 3) := by decide +kernel
theorem dX11_apart_119 : decode cX11_apart 119 = .ok (.iload 4, 2) := by decide +kernel
theorem dX11_apart_121 : decode cX11_apart 121 = .ok (.invokestatic 198, 3) := by decide +kernel
theorem dX11_apart_124 : decode cX11_apart 124 = .ok (.ireturn, 1) := by decide +kernel
theorem dX11_apart_125 : decode cX11_apart 125 = .ok (.iload 4, 2) := by decide +kernel
theorem dX11_apart_127 : decode cX11_apart 127 = .ok (.ifCond .ne 8, 3) := by decide +kernel
theorem dX11_apart_130 : decode cX11_apart 130 = .ok (.ldc 98, 2) := by decide +kernel
theorem dX11_apart_132 : decode cX11_apart 132 = .ok (.goto 23, 3) := by decide +kernel
theorem dX11_apart_135 : decode cX11_apart 135 = .ok (.iload_n 3, 1) := by decide +kernel
theorem dX11_apart_136 : decode cX11_apart 136 = .ok (.ifCond .ne 11, 3) := by decide +kernel
theorem dX11_apart_139 : decode cX11_apart 139 = .ok (.iload 4, 2) := by decide +kernel
theorem dX11_apart_141 : decode cX11_apart 141 = .ok (.invokestatic 192, 3) := by decide +kernel
theorem dX11_apart_144 : decode cX11_apart 144 = .ok (.goto 8, 3) := by decide +kernel
theorem dX11_apart_147 : decode cX11_apart 147 = .ok (.iload 4, 2) := by decide +kernel
theorem dX11_apart_149 : decode cX11_apart 149 = .ok (.invokestatic 195, 3) := by decide +kernel
theorem dX11_apart_152 : decode cX11_apart 152 = .ok (.bipush 7, 2) := by decide +kernel
theorem dX11_apart_154 : decode cX11_apart 154 = .ok (.isub, 1) := by decide +kernel
theorem dX11_apart_155 : decode cX11_apart 155 = .ok (.ireturn, 1) := by decide +kernel
theorem dX11_rowOf_0 : decode cX11_rowOf 0 = .ok (.iconst 0, 1) := by decide +kernel
theorem dX11_rowOf_1 : decode cX11_rowOf 1 = .ok (.istore_n 3, 1) := by decide +kernel
theorem dX11_rowOf_2 : decode cX11_rowOf 2 = .ok (.iload_n 3, 1) := by decide +kernel
theorem dX11_rowOf_3 : decode cX11_rowOf 3 = .ok (.iconst 5, 1) := by decide +kernel
theorem dX11_rowOf_4 : decode cX11_rowOf 4 = .ok (.if_icmp .ge 37, 3) := by decide +kernel
theorem dX11_rowOf_7 : decode cX11_rowOf 7 = .ok (.aload_n 0, 1) := by decide +kernel
theorem dX11_rowOf_8 : decode cX11_rowOf 8 = .ok (.getfield 28, 3) := by decide +kernel
theorem dX11_rowOf_11 : decode cX11_rowOf 11 = .ok (.iconst 5, 1) := by decide +kernel
theorem dX11_rowOf_12 : decode cX11_rowOf 12 = .ok (.aload_n 0, 1) := by decide +kernel
theorem dX11_rowOf_13 : decode cX11_rowOf 13 = .ok (.getfield 201, 3) := by decide +kernel
theorem dX11_rowOf_16 : decode cX11_rowOf 16 = .ok (.imul, 1) := by decide +kernel
theorem dX11_rowOf_17 : decode cX11_rowOf 17 = .ok (.iload_n 3, 1) := by decide +kernel
theorem dX11_rowOf_18 : decode cX11_rowOf 18 = .ok (.iadd, 1) := by decide +kernel
theorem dX11_rowOf_19 : decode cX11_rowOf 19 = .ok (.iload_n 2, 1) := by decide +kernel
theorem dX11_rowOf_20 : decode cX11_rowOf 20 = .ok (.aload_n 0, 1) := by decide +kernel
theorem dX11_rowOf_21 : decode cX11_rowOf 21 = .ok (.getfield 7, 3) := by decide +kernel
theorem dX11_rowOf_24 : decode cX11_rowOf 24 = .ok (.iconst 3, 1) := by decide +kernel
theorem dX11_rowOf_25 : decode cX11_rowOf 25 = .ok (.bipush 6, 2) := by decide +kernel
theorem dX11_rowOf_27 : decode cX11_rowOf 27 = .ok (.iload_n 1, 1) := by decide +kernel
theorem dX11_rowOf_28 : decode cX11_rowOf 28 = .ok (.imul, 1) := by decide +kernel
theorem dX11_rowOf_29 : decode cX11_rowOf 29 = .ok (.iadd, 1) := by decide +kernel
theorem dX11_rowOf_30 : decode cX11_rowOf 30 = .ok (.iload_n 3, 1) := by decide +kernel
theorem dX11_rowOf_31 : decode cX11_rowOf 31 = .ok (.iadd, 1) := by decide +kernel
theorem dX11_rowOf_32 : decode cX11_rowOf 32 = .ok (.iaload, 1) := by decide +kernel
theorem dX11_rowOf_33 : decode cX11_rowOf 33 = .ok (.imul, 1) := by decide +kernel
theorem dX11_rowOf_34 : decode cX11_rowOf 34 = .ok (.iastore, 1) := by decide +kernel
theorem dX11_rowOf_35 : decode cX11_rowOf 35 = .ok (.iinc 3 1, 3) := by decide +kernel
theorem dX11_rowOf_38 : decode cX11_rowOf 38 = .ok (.goto (-36), 3) := by decide +kernel
theorem dX11_rowOf_41 : decode cX11_rowOf 41 = .ok (.aload_n 0, 1) := by decide +kernel
theorem dX11_rowOf_42 : decode cX11_rowOf 42 = .ok (.dup, 1) := by decide +kernel
theorem dX11_rowOf_43 : decode cX11_rowOf 43 = .ok (.getfield 201, 3) := by decide +kernel
theorem dX11_rowOf_46 : decode cX11_rowOf 46 = .ok (.iconst 1, 1) := by decide +kernel
theorem dX11_rowOf_47 : decode cX11_rowOf 47 = .ok (.iadd, 1) := by decide +kernel
theorem dX11_rowOf_48 : decode cX11_rowOf 48 = .ok (.putfield 201, 3) := by decide +kernel
theorem dX11_rowOf_51 : decode cX11_rowOf 51 = .ok (.return_, 1) := by decide +kernel
theorem dX11_bound_0 : decode cX11_bound 0 = .ok (.iconst 0, 1) := by decide +kernel
theorem dX11_bound_1 : decode cX11_bound 1 = .ok (.istore 4, 2) := by decide +kernel
theorem dX11_bound_3 : decode cX11_bound 3 = .ok (.iload 4, 2) := by decide +kernel
theorem dX11_bound_5 : decode cX11_bound 5 = .ok (.iconst 5, 1) := by decide +kernel
theorem dX11_bound_6 : decode cX11_bound 6 = .ok (.if_icmp .ge 44, 3) := by decide +kernel
theorem dX11_bound_9 : decode cX11_bound 9 = .ok (.aload_n 0, 1) := by decide +kernel
theorem dX11_bound_10 : decode cX11_bound 10 = .ok (.getfield 28, 3) := by decide +kernel
theorem dX11_bound_13 : decode cX11_bound 13 = .ok (.iconst 5, 1) := by decide +kernel
theorem dX11_bound_14 : decode cX11_bound 14 = .ok (.aload_n 0, 1) := by decide +kernel
theorem dX11_bound_15 : decode cX11_bound 15 = .ok (.getfield 201, 3) := by decide +kernel
theorem dX11_bound_18 : decode cX11_bound 18 = .ok (.imul, 1) := by decide +kernel
theorem dX11_bound_19 : decode cX11_bound 19 = .ok (.iload 4, 2) := by decide +kernel
theorem dX11_bound_21 : decode cX11_bound 21 = .ok (.iadd, 1) := by decide +kernel
theorem dX11_bound_22 : decode cX11_bound 22 = .ok (.iload 4, 2) := by decide +kernel
theorem dX11_bound_24 : decode cX11_bound 24 = .ok (.iload_n 1, 1) := by decide +kernel
theorem dX11_bound_25 : decode cX11_bound 25 = .ok (.if_icmp .ne 7, 3) := by decide +kernel
theorem dX11_bound_28 : decode cX11_bound 28 = .ok (.iload_n 2, 1) := by decide +kernel
theorem dX11_bound_29 : decode cX11_bound 29 = .ok (.goto 14, 3) := by decide +kernel
theorem dX11_bound_32 : decode cX11_bound 32 = .ok (.iload 4, 2) := by decide +kernel
theorem dX11_bound_34 : decode cX11_bound 34 = .ok (.iconst 4, 1) := by decide +kernel
theorem dX11_bound_35 : decode cX11_bound 35 = .ok (.if_icmp .ne 7, 3) := by decide +kernel
theorem dX11_bound_38 : decode cX11_bound 38 = .ok (.iload_n 3, 1) := by decide +kernel
theorem dX11_bound_39 : decode cX11_bound 39 = .ok (.goto 4, 3) := by decide +kernel
theorem dX11_bound_42 : decode cX11_bound 42 = .ok (.iconst 0, 1) := by decide +kernel
theorem dX11_bound_43 : decode cX11_bound 43 = .ok (.iastore, 1) := by decide +kernel
theorem dX11_bound_44 : decode cX11_bound 44 = .ok (.iinc 4 1, 3) := by decide +kernel
theorem dX11_bound_47 : decode cX11_bound 47 = .ok (.goto (-44), 3) := by decide +kernel
theorem dX11_bound_50 : decode cX11_bound 50 = .ok (.aload_n 0, 1) := by decide +kernel
theorem dX11_bound_51 : decode cX11_bound 51 = .ok (.dup, 1) := by decide +kernel
theorem dX11_bound_52 : decode cX11_bound 52 = .ok (.getfield 201, 3) := by decide +kernel
theorem dX11_bound_55 : decode cX11_bound 55 = .ok (.iconst 1, 1) := by decide +kernel
theorem dX11_bound_56 : decode cX11_bound 56 = .ok (.iadd, 1) := by decide +kernel
theorem dX11_bound_57 : decode cX11_bound 57 = .ok (.putfield 201, 3) := by decide +kernel
theorem dX11_bound_60 : decode cX11_bound 60 = .ok (.return_, 1) := by decide +kernel
set_option maxRecDepth 20000 in
theorem ggX11_rowsOf_X11_rowOf : GoodIn wsX11_rowsOf wsX11_rowOf := goodIn_r _ [7, 8, 1, 2, 13, 14, 15, 16, 17, 18, 19, 20, 21, 22, 23, 24, 25, 26, 27, 28, 29, 30, 31, 32, 33, 34, 35] (by decide +kernel) (by decide +kernel)
set_option maxRecDepth 20000 in
theorem gX11_rowsOf_X11_rowOf : GoodIn wsX11_rowsOf (wsV RX11 204 RX11 yX11_rowOf wsX11_rowOf) := goodIn_app (goodIn_of _ (by decide +kernel)) ggX11_rowsOf_X11_rowOf
set_option maxRecDepth 20000 in
theorem ggX11_rowsOf_X11_bound : GoodIn wsX11_rowsOf wsX11_bound := goodIn_r _ [12, 8, 1, 13, 14, 15, 16, 17, 18, 19, 20, 21, 22, 23, 24, 25, 26, 27, 28, 29, 30, 31, 32, 33, 34, 35] (by decide +kernel) (by decide +kernel)
set_option maxRecDepth 20000 in
theorem gX11_rowsOf_X11_bound : GoodIn wsX11_rowsOf (wsV RX11 208 RX11 yX11_bound wsX11_bound) := goodIn_app (goodIn_of _ (by decide +kernel)) ggX11_rowsOf_X11_bound
theorem dX11_rowsOf_0 : decode cX11_rowsOf 0 = .ok (.aload_n 0, 1) := by decide +kernel
theorem dX11_rowsOf_1 : decode cX11_rowsOf 1 = .ok (.iconst 0, 1) := by decide +kernel
theorem dX11_rowsOf_2 : decode cX11_rowsOf 2 = .ok (.putfield 201, 3) := by decide +kernel
theorem dX11_rowsOf_5 : decode cX11_rowsOf 5 = .ok (.iconst 0, 1) := by decide +kernel
theorem dX11_rowsOf_6 : decode cX11_rowsOf 6 = .ok (.istore_n 2, 1) := by decide +kernel
theorem dX11_rowsOf_7 : decode cX11_rowsOf 7 = .ok (.iload_n 2, 1) := by decide +kernel
theorem dX11_rowsOf_8 : decode cX11_rowsOf 8 = .ok (.aload_n 0, 1) := by decide +kernel
theorem dX11_rowsOf_9 : decode cX11_rowsOf 9 = .ok (.getfield 7, 3) := by decide +kernel
theorem dX11_rowsOf_12 : decode cX11_rowsOf 12 = .ok (.iconst 0, 1) := by decide +kernel
theorem dX11_rowsOf_13 : decode cX11_rowsOf 13 = .ok (.iaload, 1) := by decide +kernel
theorem dX11_rowsOf_14 : decode cX11_rowsOf 14 = .ok (.if_icmp .ge 54, 3) := by decide +kernel
theorem dX11_rowsOf_17 : decode cX11_rowsOf 17 = .ok (.aload_n 0, 1) := by decide +kernel
theorem dX11_rowsOf_18 : decode cX11_rowsOf 18 = .ok (.getfield 7, 3) := by decide +kernel
theorem dX11_rowsOf_21 : decode cX11_rowsOf 21 = .ok (.iconst 3, 1) := by decide +kernel
theorem dX11_rowsOf_22 : decode cX11_rowsOf 22 = .ok (.bipush 6, 2) := by decide +kernel
theorem dX11_rowsOf_24 : decode cX11_rowsOf 24 = .ok (.iload_n 2, 1) := by decide +kernel
theorem dX11_rowsOf_25 : decode cX11_rowsOf 25 = .ok (.imul, 1) := by decide +kernel
theorem dX11_rowsOf_26 : decode cX11_rowsOf 26 = .ok (.iadd, 1) := by decide +kernel
theorem dX11_rowsOf_27 : decode cX11_rowsOf 27 = .ok (.iconst 5, 1) := by decide +kernel
theorem dX11_rowsOf_28 : decode cX11_rowsOf 28 = .ok (.iadd, 1) := by decide +kernel
theorem dX11_rowsOf_29 : decode cX11_rowsOf 29 = .ok (.iaload, 1) := by decide +kernel
theorem dX11_rowsOf_30 : decode cX11_rowsOf 30 = .ok (.istore_n 3, 1) := by decide +kernel
theorem dX11_rowsOf_31 : decode cX11_rowsOf 31 = .ok (.iload_n 3, 1) := by decide +kernel
theorem dX11_rowsOf_32 : decode cX11_rowsOf 32 = .ok (.ifCond .eq 8, 3) := by decide +kernel
theorem dX11_rowsOf_35 : decode cX11_rowsOf 35 = .ok (.iload_n 3, 1) := by decide +kernel
theorem dX11_rowsOf_36 : decode cX11_rowsOf 36 = .ok (.iconst 2, 1) := by decide +kernel
theorem dX11_rowsOf_37 : decode cX11_rowsOf 37 = .ok (.if_icmp .ne 9, 3) := by decide +kernel
theorem dX11_rowsOf_40 : decode cX11_rowsOf 40 = .ok (.aload_n 0, 1) := by decide +kernel
theorem dX11_rowsOf_41 : decode cX11_rowsOf 41 = .ok (.iload_n 2, 1) := by decide +kernel
theorem dX11_rowsOf_42 : decode cX11_rowsOf 42 = .ok (.iconst 1, 1) := by decide +kernel
theorem dX11_rowsOf_43 : decode cX11_rowsOf 43 = .ok (.invokevirtual 204, 3) := by decide +kernel
theorem dX11_rowsOf_46 : decode cX11_rowsOf 46 = .ok (.iload_n 3, 1) := by decide +kernel
theorem dX11_rowsOf_47 : decode cX11_rowsOf 47 = .ok (.iconst 1, 1) := by decide +kernel
theorem dX11_rowsOf_48 : decode cX11_rowsOf 48 = .ok (.if_icmp .eq 8, 3) := by decide +kernel
theorem dX11_rowsOf_51 : decode cX11_rowsOf 51 = .ok (.iload_n 3, 1) := by decide +kernel
theorem dX11_rowsOf_52 : decode cX11_rowsOf 52 = .ok (.iconst 2, 1) := by decide +kernel
theorem dX11_rowsOf_53 : decode cX11_rowsOf 53 = .ok (.if_icmp .ne 9, 3) := by decide +kernel
theorem dX11_rowsOf_56 : decode cX11_rowsOf 56 = .ok (.aload_n 0, 1) := by decide +kernel
theorem dX11_rowsOf_57 : decode cX11_rowsOf 57 = .ok (.iload_n 2, 1) := by decide +kernel
theorem dX11_rowsOf_58 : decode cX11_rowsOf 58 = .ok (.iconst (-1), 1) := by decide +kernel
theorem dX11_rowsOf_59 : decode cX11_rowsOf 59 = .ok (.invokevirtual 204, 3) := by decide +kernel
theorem dX11_rowsOf_62 : decode cX11_rowsOf 62 = .ok (.iinc 2 1, 3) := by decide +kernel
theorem dX11_rowsOf_65 : decode cX11_rowsOf 65 = .ok (.goto (-58), 3) := by decide +kernel
theorem dX11_rowsOf_68 : decode cX11_rowsOf 68 = .ok (.aload_n 0, 1) := by decide +kernel
theorem dX11_rowsOf_69 : decode cX11_rowsOf 69 = .ok (.iload_n 1, 1) := by decide +kernel
theorem dX11_rowsOf_70 : decode cX11_rowsOf 70 = .ok (.iconst 1, 1) := by decide +kernel
theorem dX11_rowsOf_71 : decode cX11_rowsOf 71 = .ok (.iconst 0, 1) := by decide +kernel
theorem dX11_rowsOf_72 : decode cX11_rowsOf 72 = .ok (.invokevirtual 208, 3) := by decide +kernel
theorem dX11_rowsOf_75 : decode cX11_rowsOf 75 = .ok (.aload_n 0, 1) := by decide +kernel
theorem dX11_rowsOf_76 : decode cX11_rowsOf 76 = .ok (.iload_n 1, 1) := by decide +kernel
theorem dX11_rowsOf_77 : decode cX11_rowsOf 77 = .ok (.iconst (-1), 1) := by decide +kernel
theorem dX11_rowsOf_78 : decode cX11_rowsOf 78 = .ok (.aload_n 0, 1) := by decide +kernel
theorem dX11_rowsOf_79 : decode cX11_rowsOf 79 = .ok (.getfield 7, 3) := by decide +kernel
theorem dX11_rowsOf_82 : decode cX11_rowsOf 82 = .ok (.iconst 1, 1) := by decide +kernel
theorem dX11_rowsOf_83 : decode cX11_rowsOf 83 = .ok (.iaload, 1) := by decide +kernel
theorem dX11_rowsOf_84 : decode cX11_rowsOf 84 = .ok (.invokevirtual 208, 3) := by decide +kernel
theorem dX11_rowsOf_87 : decode cX11_rowsOf 87 = .ok (.return_, 1) := by decide +kernel
theorem dX11_divides_0 : decode cX11_divides 0 = .ok (.iload_n 0, 1) := by decide +kernel
theorem dX11_divides_1 : decode cX11_divides 1 = .ok (.ifCond .ge 8, 3) := by decide +kernel
theorem dX11_divides_4 : decode cX11_divides 4 = .ok (.iload_n 0, 1) := by decide +kernel
theorem dX11_divides_5 : decode cX11_divides 5 = .ok (.ineg, 1) := by decide +kernel
theorem dX11_divides_6 : decode cX11_divides 6 = .ok (.goto 4, 3) := by decide +kernel
theorem dX11_divides_9 : decode cX11_divides 9 = .ok (.iload_n 0, 1) := by decide +kernel
theorem dX11_divides_10 : decode cX11_divides 10 = .ok (.istore_n 2, 1) := by decide +kernel
theorem dX11_divides_11 : decode cX11_divides 11 = .ok (.iload_n 1, 1) := by decide +kernel
theorem dX11_divides_12 : decode cX11_divides 12 = .ok (.ifCond .ge 8, 3) := by decide +kernel
theorem dX11_divides_15 : decode cX11_divides 15 = .ok (.iload_n 1, 1) := by decide +kernel
theorem dX11_divides_16 : decode cX11_divides 16 = .ok (.ineg, 1) := by decide +kernel
theorem dX11_divides_17 : decode cX11_divides 17 = .ok (.goto 4, 3) := by decide +kernel
theorem dX11_divides_20 : decode cX11_divides 20 = .ok (.iload_n 1, 1) := by decide +kernel
theorem dX11_divides_21 : decode cX11_divides 21 = .ok (.istore_n 3, 1) := by decide +kernel
theorem dX11_divides_22 : decode cX11_divides 22 = .ok (.iload_n 3, 1) := by decide +kernel
theorem dX11_divides_23 : decode cX11_divides 23 = .ok (.ifCond .eq 16, 3) := by decide +kernel
theorem dX11_divides_26 : decode cX11_divides 26 = .ok (.iload_n 2, 1) := by decide +kernel
theorem dX11_divides_27 : decode cX11_divides 27 = .ok (.iload_n 3, 1) := by decide +kernel
theorem dX11_divides_28 : decode cX11_divides 28 = .ok (.irem, 1) := by decide +kernel
theorem dX11_divides_29 : decode cX11_divides 29 = .ok (.istore 4, 2) := by decide +kernel
theorem dX11_divides_31 : decode cX11_divides 31 = .ok (.iload_n 3, 1) := by decide +kernel
theorem dX11_divides_32 : decode cX11_divides 32 = .ok (.istore_n 2, 1) := by decide +kernel
theorem dX11_divides_33 : decode cX11_divides 33 = .ok (.iload 4, 2) := by decide +kernel
theorem dX11_divides_35 : decode cX11_divides 35 = .ok (.istore_n 3, 1) := by decide +kernel
theorem dX11_divides_36 : decode cX11_divides 36 = .ok (.goto (-14), 3) := by decide +kernel
theorem dX11_divides_39 : decode cX11_divides 39 = .ok (.iload_n 2, 1) := by decide +kernel
theorem dX11_divides_40 : decode cX11_divides 40 = .ok (.ireturn, 1) := by decide +kernel
theorem dX11_floored_0 : decode cX11_floored 0 = .ok (.iload_n 0, 1) := by decide +kernel
theorem dX11_floored_1 : decode cX11_floored 1 = .ok (.ifCond .lt 9, 3) := by decide +kernel
theorem dX11_floored_4 : decode cX11_floored 4 = .ok (.iload_n 0, 1) := by decide +kernel
theorem dX11_floored_5 : decode cX11_floored 5 = .ok (.iload_n 1, 1) := by decide +kernel
theorem dX11_floored_6 : decode cX11_floored 6 = .ok (.idiv, 1) := by decide +kernel
theorem dX11_floored_7 : decode cX11_floored 7 = .ok (.goto 11, 3) := by decide +kernel
theorem dX11_floored_10 : decode cX11_floored 10 = .ok (.iload_n 1, 1) := by decide +kernel
theorem dX11_floored_11 : decode cX11_floored 11 = .ok (.iconst 1, 1) := by decide +kernel
theorem dX11_floored_12 : decode cX11_floored 12 = .ok (.isub, 1) := by decide +kernel
theorem dX11_floored_13 : decode cX11_floored 13 = .ok (.iload_n 0, 1) := by decide +kernel
theorem dX11_floored_14 : decode cX11_floored 14 = .ok (.isub, 1) := by decide +kernel
theorem dX11_floored_15 : decode cX11_floored 15 = .ok (.iload_n 1, 1) := by decide +kernel
theorem dX11_floored_16 : decode cX11_floored 16 = .ok (.idiv, 1) := by decide +kernel
theorem dX11_floored_17 : decode cX11_floored 17 = .ok (.ineg, 1) := by decide +kernel
theorem dX11_floored_18 : decode cX11_floored 18 = .ok (.ireturn, 1) := by decide +kernel
set_option maxRecDepth 20000 in
theorem ggX11_reduces_X11_divides : GoodIn wsX11_reduces wsX11_divides := goodIn_r _ [6] (by decide +kernel) (by decide +kernel)
set_option maxRecDepth 20000 in
theorem gX11_reduces_X11_divides : GoodIn wsX11_reduces (va_wsS RX11 215 yX11_divides wsX11_divides) := goodIn_app (goodIn_of _ (by decide +kernel)) ggX11_reduces_X11_divides
set_option maxRecDepth 20000 in
theorem ggX11_reduces_X11_floored : GoodIn wsX11_reduces wsX11_floored := goodIn_r _ [9] (by decide +kernel) (by decide +kernel)
set_option maxRecDepth 20000 in
theorem gX11_reduces_X11_floored : GoodIn wsX11_reduces (va_wsS RX11 218 yX11_floored wsX11_floored) := goodIn_app (goodIn_of _ (by decide +kernel)) ggX11_reduces_X11_floored
theorem dX11_reduces_0 : decode cX11_reduces 0 = .ok (.iconst 5, 1) := by decide +kernel
theorem dX11_reduces_1 : decode cX11_reduces 1 = .ok (.aload_n 0, 1) := by decide +kernel
theorem dX11_reduces_2 : decode cX11_reduces 2 = .ok (.getfield 212, 3) := by decide +kernel
theorem dX11_reduces_5 : decode cX11_reduces 5 = .ok (.imul, 1) := by decide +kernel
theorem dX11_reduces_6 : decode cX11_reduces 6 = .ok (.istore_n 1, 1) := by decide +kernel
theorem dX11_reduces_7 : decode cX11_reduces 7 = .ok (.iconst 0, 1) := by decide +kernel
theorem dX11_reduces_8 : decode cX11_reduces 8 = .ok (.istore_n 2, 1) := by decide +kernel
theorem dX11_reduces_9 : decode cX11_reduces 9 = .ok (.iconst 0, 1) := by decide +kernel
theorem dX11_reduces_10 : decode cX11_reduces 10 = .ok (.istore_n 3, 1) := by decide +kernel
theorem dX11_reduces_11 : decode cX11_reduces 11 = .ok (.iload_n 3, 1) := by decide +kernel
theorem dX11_reduces_12 : decode cX11_reduces 12 = .ok (.iconst 4, 1) := by decide +kernel
theorem dX11_reduces_13 : decode cX11_reduces 13 = .ok (.if_icmp .ge 22, 3) := by decide +kernel
theorem dX11_reduces_16 : decode cX11_reduces 16 = .ok (.iload_n 2, 1) := by decide +kernel
theorem dX11_reduces_17 : decode cX11_reduces 17 = .ok (.aload_n 0, 1) := by decide +kernel
theorem dX11_reduces_18 : decode cX11_reduces 18 = .ok (.getfield 31, 3) := by decide +kernel
theorem dX11_reduces_21 : decode cX11_reduces 21 = .ok (.iload_n 1, 1) := by decide +kernel
theorem dX11_reduces_22 : decode cX11_reduces 22 = .ok (.iload_n 3, 1) := by decide +kernel
theorem dX11_reduces_23 : decode cX11_reduces 23 = .ok (.iadd, 1) := by decide +kernel
theorem dX11_reduces_24 : decode cX11_reduces 24 = .ok (.iaload, 1) := by decide +kernel
theorem dX11_reduces_25 : decode cX11_reduces 25 = .ok (.invokestatic 215, 3) := by decide +kernel
theorem dX11_reduces_28 : decode cX11_reduces 28 = .ok (.istore_n 2, 1) := by decide +kernel
theorem dX11_reduces_29 : decode cX11_reduces 29 = .ok (.iinc 3 1, 3) := by decide +kernel
theorem dX11_reduces_32 : decode cX11_reduces 32 = .ok (.goto (-21), 3) := by decide +kernel
theorem dX11_reduces_35 : decode cX11_reduces 35 = .ok (.iconst 0, 1) := by decide +kernel
theorem dX11_reduces_36 : decode cX11_reduces 36 = .ok (.istore_n 3, 1) := by decide +kernel
theorem dX11_reduces_37 : decode cX11_reduces 37 = .ok (.iload_n 3, 1) := by decide +kernel
theorem dX11_reduces_38 : decode cX11_reduces 38 = .ok (.iconst 4, 1) := by decide +kernel
theorem dX11_reduces_39 : decode cX11_reduces 39 = .ok (.if_icmp .ge 25, 3) := by decide +kernel
theorem dX11_reduces_42 : decode cX11_reduces 42 = .ok (.iload_n 2, 1) := by decide +kernel
theorem dX11_reduces_43 : decode cX11_reduces 43 = .ok (.ifCond .le 21, 3) := by decide +kernel
theorem dX11_reduces_46 : decode cX11_reduces 46 = .ok (.aload_n 0, 1) := by decide +kernel
theorem dX11_reduces_47 : decode cX11_reduces 47 = .ok (.getfield 31, 3) := by decide +kernel
theorem dX11_reduces_50 : decode cX11_reduces 50 = .ok (.iload_n 1, 1) := by decide +kernel
theorem dX11_reduces_51 : decode cX11_reduces 51 = .ok (.iload_n 3, 1) := by decide +kernel
theorem dX11_reduces_52 : decode cX11_reduces 52 = .ok (.iadd, 1) := by decide +kernel
theorem dX11_reduces_53 : decode cX11_reduces 53 = .ok (.dup2, 1) := by decide +kernel
theorem dX11_reduces_54 : decode cX11_reduces 54 = .ok (.iaload, 1) := by decide +kernel
theorem dX11_reduces_55 : decode cX11_reduces 55 = .ok (.iload_n 2, 1) := by decide +kernel
theorem dX11_reduces_56 : decode cX11_reduces 56 = .ok (.idiv, 1) := by decide +kernel
theorem dX11_reduces_57 : decode cX11_reduces 57 = .ok (.iastore, 1) := by decide +kernel
theorem dX11_reduces_58 : decode cX11_reduces 58 = .ok (.iinc 3 1, 3) := by decide +kernel
theorem dX11_reduces_61 : decode cX11_reduces 61 = .ok (.goto (-24), 3) := by decide +kernel
theorem dX11_reduces_64 : decode cX11_reduces 64 = .ok (.aload_n 0, 1) := by decide +kernel
theorem dX11_reduces_65 : decode cX11_reduces 65 = .ok (.getfield 31, 3) := by decide +kernel
theorem dX11_reduces_68 : decode cX11_reduces 68 = .ok (.iload_n 1, 1) := by decide +kernel
theorem dX11_reduces_69 : decode cX11_reduces 69 = .ok (.iconst 4, 1) := by decide +kernel
theorem dX11_reduces_70 : decode cX11_reduces 70 = .ok (.iadd, 1) := by decide +kernel
theorem dX11_reduces_71 : decode cX11_reduces 71 = .ok (.iload_n 2, 1) := by decide +kernel
theorem dX11_reduces_72 : decode cX11_reduces 72 = .ok (.ifCond .le 18, 3) := by decide +kernel
theorem dX11_reduces_75 : decode cX11_reduces 75 = .ok (.aload_n 0, 1) := by decide +kernel
theorem dX11_reduces_76 : decode cX11_reduces 76 = .ok (.getfield 31, 3) := by decide +kernel
theorem dX11_reduces_79 : decode cX11_reduces 79 = .ok (.iload_n 1, 1) := by decide +kernel
theorem dX11_reduces_80 : decode cX11_reduces 80 = .ok (.iconst 4, 1) := by decide +kernel
theorem dX11_reduces_81 : decode cX11_reduces 81 = .ok (.iadd, 1) := by decide +kernel
theorem dX11_reduces_82 : decode cX11_reduces 82 = .ok (.iaload, 1) := by decide +kernel
theorem dX11_reduces_83 : decode cX11_reduces 83 = .ok (.iload_n 2, 1) := by decide +kernel
theorem dX11_reduces_84 : decode cX11_reduces 84 = .ok (.invokestatic 218, 3) := by decide +kernel
theorem dX11_reduces_87 : decode cX11_reduces 87 = .ok (.goto 11, 3) := by decide +kernel
theorem dX11_reduces_90 : decode cX11_reduces 90 = .ok (.aload_n 0, 1) := by decide +kernel
theorem dX11_reduces_91 : decode cX11_reduces 91 = .ok (.getfield 31, 3) := by decide +kernel
theorem dX11_reduces_94 : decode cX11_reduces 94 = .ok (.iload_n 1, 1) := by decide +kernel
theorem dX11_reduces_95 : decode cX11_reduces 95 = .ok (.iconst 4, 1) := by decide +kernel
theorem dX11_reduces_96 : decode cX11_reduces 96 = .ok (.iadd, 1) := by decide +kernel
theorem dX11_reduces_97 : decode cX11_reduces 97 = .ok (.iaload, 1) := by decide +kernel
theorem dX11_reduces_98 : decode cX11_reduces 98 = .ok (.iastore, 1) := by decide +kernel
theorem dX11_reduces_99 : decode cX11_reduces 99 = .ok (.aload_n 0, 1) := by decide +kernel
theorem dX11_reduces_100 : decode cX11_reduces 100 = .ok (.dup, 1) := by decide +kernel
theorem dX11_reduces_101 : decode cX11_reduces 101 = .ok (.getfield 212, 3) := by decide +kernel
theorem dX11_reduces_104 : decode cX11_reduces 104 = .ok (.iconst 1, 1) := by decide +kernel
theorem dX11_reduces_105 : decode cX11_reduces 105 = .ok (.iadd, 1) := by decide +kernel
theorem dX11_reduces_106 : decode cX11_reduces 106 = .ok (.putfield 212, 3) := by decide +kernel
theorem dX11_reduces_109 : decode cX11_reduces 109 = .ok (.return_, 1) := by decide +kernel
set_option maxRecDepth 20000 in
theorem ggX11_shadowOf_X11_rowsOf : GoodIn wsX11_shadowOf wsX11_rowsOf := goodIn_r _ [9, 2, 10, 11, 12, 13, 8, 14, 3, 15, 16, 17, 18, 29, 30, 31, 32, 33, 34, 35, 36, 37, 38, 39, 40, 41, 42, 43, 44, 45, 46, 47, 48, 49, 50, 51] (by decide +kernel) (by decide +kernel)
set_option maxRecDepth 20000 in
theorem gX11_shadowOf_X11_rowsOf : GoodIn wsX11_shadowOf (wsV RX11 221 RX11 yX11_rowsOf wsX11_rowsOf) := goodIn_app (goodIn_of _ (by decide +kernel)) ggX11_shadowOf_X11_rowsOf
set_option maxRecDepth 20000 in
theorem ggX11_shadowOf_X11_reduces : GoodIn wsX11_shadowOf wsX11_reduces := goodIn_r _ [22, 1, 4, 23, 24, 8, 25, 26, 27, 28, 29, 30, 31, 32, 33, 34, 35, 36, 37, 38, 39, 40, 41, 42, 43, 44, 45, 46, 47, 48, 49, 50, 51] (by decide +kernel) (by decide +kernel)
set_option maxRecDepth 20000 in
theorem gX11_shadowOf_X11_reduces : GoodIn wsX11_shadowOf (wsV RX11 225 RX11 yX11_reduces wsX11_reduces) := goodIn_app (goodIn_of _ (by decide +kernel)) ggX11_shadowOf_X11_reduces
theorem dX11_shadowOf_0 : decode cX11_shadowOf 0 = .ok (.aload_n 0, 1) := by decide +kernel
theorem dX11_shadowOf_1 : decode cX11_shadowOf 1 = .ok (.iload_n 1, 1) := by decide +kernel
theorem dX11_shadowOf_2 : decode cX11_shadowOf 2 = .ok (.invokevirtual 221, 3) := by decide +kernel
theorem dX11_shadowOf_5 : decode cX11_shadowOf 5 = .ok (.aload_n 0, 1) := by decide +kernel
theorem dX11_shadowOf_6 : decode cX11_shadowOf 6 = .ok (.iconst 0, 1) := by decide +kernel
theorem dX11_shadowOf_7 : decode cX11_shadowOf 7 = .ok (.putfield 212, 3) := by decide +kernel
theorem dX11_shadowOf_10 : decode cX11_shadowOf 10 = .ok (.iconst 0, 1) := by decide +kernel
theorem dX11_shadowOf_11 : decode cX11_shadowOf 11 = .ok (.istore_n 3, 1) := by decide +kernel
theorem dX11_shadowOf_12 : decode cX11_shadowOf 12 = .ok (.iload_n 3, 1) := by decide +kernel
theorem dX11_shadowOf_13 : decode cX11_shadowOf 13 = .ok (.aload_n 0, 1) := by decide +kernel
theorem dX11_shadowOf_14 : decode cX11_shadowOf 14 = .ok (.getfield 201, 3) := by decide +kernel
theorem dX11_shadowOf_17 : decode cX11_shadowOf 17 = .ok (.if_icmp .ge 66, 3) := by decide +kernel
theorem dX11_shadowOf_20 : decode cX11_shadowOf 20 = .ok (.aload_n 0, 1) := by decide +kernel
theorem dX11_shadowOf_21 : decode cX11_shadowOf 21 = .ok (.getfield 28, 3) := by decide +kernel
theorem dX11_shadowOf_24 : decode cX11_shadowOf 24 = .ok (.iconst 5, 1) := by decide +kernel
theorem dX11_shadowOf_25 : decode cX11_shadowOf 25 = .ok (.iload_n 3, 1) := by decide +kernel
theorem dX11_shadowOf_26 : decode cX11_shadowOf 26 = .ok (.imul, 1) := by decide +kernel
theorem dX11_shadowOf_27 : decode cX11_shadowOf 27 = .ok (.iload_n 1, 1) := by decide +kernel
theorem dX11_shadowOf_28 : decode cX11_shadowOf 28 = .ok (.iadd, 1) := by decide +kernel
theorem dX11_shadowOf_29 : decode cX11_shadowOf 29 = .ok (.iaload, 1) := by decide +kernel
theorem dX11_shadowOf_30 : decode cX11_shadowOf 30 = .ok (.ifCond .ne 47, 3) := by decide +kernel
theorem dX11_shadowOf_33 : decode cX11_shadowOf 33 = .ok (.iconst 0, 1) := by decide +kernel
theorem dX11_shadowOf_34 : decode cX11_shadowOf 34 = .ok (.istore 4, 2) := by decide +kernel
theorem dX11_shadowOf_36 : decode cX11_shadowOf 36 = .ok (.iload 4, 2) := by decide +kernel
theorem dX11_shadowOf_38 : decode cX11_shadowOf 38 = .ok (.iconst 5, 1) := by decide +kernel
theorem dX11_shadowOf_39 : decode cX11_shadowOf 39 = .ok (.if_icmp .ge 34, 3) := by decide +kernel
theorem dX11_shadowOf_42 : decode cX11_shadowOf 42 = .ok (.aload_n 0, 1) := by decide +kernel
theorem dX11_shadowOf_43 : decode cX11_shadowOf 43 = .ok (.getfield 31, 3) := by decide +kernel
theorem dX11_shadowOf_46 : decode cX11_shadowOf 46 = .ok (.iconst 5, 1) := by decide +kernel
theorem dX11_shadowOf_47 : decode cX11_shadowOf 47 = .ok (.aload_n 0, 1) := by decide +kernel
theorem dX11_shadowOf_48 : decode cX11_shadowOf 48 = .ok (.getfield 212, 3) := by decide +kernel
theorem dX11_shadowOf_51 : decode cX11_shadowOf 51 = .ok (.imul, 1) := by decide +kernel
theorem dX11_shadowOf_52 : decode cX11_shadowOf 52 = .ok (.iload 4, 2) := by decide +kernel
theorem dX11_shadowOf_54 : decode cX11_shadowOf 54 = .ok (.iadd, 1) := by decide +kernel
theorem dX11_shadowOf_55 : decode cX11_shadowOf 55 = .ok (.aload_n 0, 1) := by decide +kernel
theorem dX11_shadowOf_56 : decode cX11_shadowOf 56 = .ok (.getfield 28, 3) := by decide +kernel
theorem dX11_shadowOf_59 : decode cX11_shadowOf 59 = .ok (.iconst 5, 1) := by decide +kernel
theorem dX11_shadowOf_60 : decode cX11_shadowOf 60 = .ok (.iload_n 3, 1) := by decide +kernel
theorem dX11_shadowOf_61 : decode cX11_shadowOf 61 = .ok (.imul, 1) := by decide +kernel
theorem dX11_shadowOf_62 : decode cX11_shadowOf 62 = .ok (.iload 4, 2) := by decide +kernel
theorem dX11_shadowOf_64 : decode cX11_shadowOf 64 = .ok (.iadd, 1) := by decide +kernel
theorem dX11_shadowOf_65 : decode cX11_shadowOf 65 = .ok (.iaload, 1) := by decide +kernel
theorem dX11_shadowOf_66 : decode cX11_shadowOf 66 = .ok (.iastore, 1) := by decide +kernel
theorem dX11_shadowOf_67 : decode cX11_shadowOf 67 = .ok (.iinc 4 1, 3) := by decide +kernel
theorem dX11_shadowOf_70 : decode cX11_shadowOf 70 = .ok (.goto (-34), 3) := by decide +kernel
theorem dX11_shadowOf_73 : decode cX11_shadowOf 73 = .ok (.aload_n 0, 1) := by decide +kernel
theorem dX11_shadowOf_74 : decode cX11_shadowOf 74 = .ok (.invokevirtual 225, 3) := by decide +kernel
theorem dX11_shadowOf_77 : decode cX11_shadowOf 77 = .ok (.iinc 3 1, 3) := by decide +kernel
theorem dX11_shadowOf_80 : decode cX11_shadowOf 80 = .ok (.goto (-68), 3) := by decide +kernel
theorem dX11_shadowOf_83 : decode cX11_shadowOf 83 = .ok (.iconst 0, 1) := by decide +kernel
theorem dX11_shadowOf_84 : decode cX11_shadowOf 84 = .ok (.istore_n 3, 1) := by decide +kernel
theorem dX11_shadowOf_85 : decode cX11_shadowOf 85 = .ok (.iload_n 3, 1) := by decide +kernel
theorem dX11_shadowOf_86 : decode cX11_shadowOf 86 = .ok (.aload_n 0, 1) := by decide +kernel
theorem dX11_shadowOf_87 : decode cX11_shadowOf 87 = .ok (.getfield 201, 3) := by decide +kernel
theorem dX11_shadowOf_90 : decode cX11_shadowOf 90 = .ok (.if_icmp .ge 159, 3) := by decide +kernel
theorem dX11_shadowOf_93 : decode cX11_shadowOf 93 = .ok (.iconst 0, 1) := by decide +kernel
theorem dX11_shadowOf_94 : decode cX11_shadowOf 94 = .ok (.istore 4, 2) := by decide +kernel
theorem dX11_shadowOf_96 : decode cX11_shadowOf 96 = .ok (.iload 4, 2) := by decide +kernel
theorem dX11_shadowOf_98 : decode cX11_shadowOf 98 = .ok (.aload_n 0, 1) := by decide +kernel
theorem dX11_shadowOf_99 : decode cX11_shadowOf 99 = .ok (.getfield 201, 3) := by decide +kernel
theorem dX11_shadowOf_102 : decode cX11_shadowOf 102 = .ok (.if_icmp .ge 141, 3) := by decide +kernel
theorem dX11_shadowOf_105 : decode cX11_shadowOf 105 = .ok (.aload_n 0, 1) := by decide +kernel
theorem dX11_shadowOf_106 : decode cX11_shadowOf 106 = .ok (.getfield 28, 3) := by decide +kernel
theorem dX11_shadowOf_109 : decode cX11_shadowOf 109 = .ok (.iconst 5, 1) := by decide +kernel
theorem dX11_shadowOf_110 : decode cX11_shadowOf 110 = .ok (.iload_n 3, 1) := by decide +kernel
theorem dX11_shadowOf_111 : decode cX11_shadowOf 111 = .ok (.imul, 1) := by decide +kernel
theorem dX11_shadowOf_112 : decode cX11_shadowOf 112 = .ok (.iload_n 1, 1) := by decide +kernel
theorem dX11_shadowOf_113 : decode cX11_shadowOf 113 = .ok (.iadd, 1) := by decide +kernel
theorem dX11_shadowOf_114 : decode cX11_shadowOf 114 = .ok (.iaload, 1) := by decide +kernel
theorem dX11_shadowOf_115 : decode cX11_shadowOf 115 = .ok (.istore 5, 2) := by decide +kernel
theorem dX11_shadowOf_117 : decode cX11_shadowOf 117 = .ok (.aload_n 0, 1) := by decide +kernel
theorem dX11_shadowOf_118 : decode cX11_shadowOf 118 = .ok (.getfield 28, 3) := by decide +kernel
theorem dX11_shadowOf_121 : decode cX11_shadowOf 121 = .ok (.iconst 5, 1) := by decide +kernel
theorem dX11_shadowOf_122 : decode cX11_shadowOf 122 = .ok (.iload 4, 2) := by decide +kernel
theorem dX11_shadowOf_124 : decode cX11_shadowOf 124 = .ok (.imul, 1) := by decide +kernel
theorem dX11_shadowOf_125 : decode cX11_shadowOf 125 = .ok (.iload_n 1, 1) := by decide +kernel
theorem dX11_shadowOf_126 : decode cX11_shadowOf 126 = .ok (.iadd, 1) := by decide +kernel
theorem dX11_shadowOf_127 : decode cX11_shadowOf 127 = .ok (.iaload, 1) := by decide +kernel
theorem dX11_shadowOf_128 : decode cX11_shadowOf 128 = .ok (.ineg, 1) := by decide +kernel
theorem dX11_shadowOf_129 : decode cX11_shadowOf 129 = .ok (.istore 6, 2) := by decide +kernel
theorem dX11_shadowOf_131 : decode cX11_shadowOf 131 = .ok (.iload 5, 2) := by decide +kernel
theorem dX11_shadowOf_133 : decode cX11_shadowOf 133 = .ok (.ifCond .le 104, 3) := by decide +kernel
theorem dX11_shadowOf_136 : decode cX11_shadowOf 136 = .ok (.iload 6, 2) := by decide +kernel
theorem dX11_shadowOf_138 : decode cX11_shadowOf 138 = .ok (.ifCond .le 99, 3) := by decide +kernel
theorem dX11_shadowOf_141 : decode cX11_shadowOf 141 = .ok (.iconst 0, 1) := by decide +kernel
theorem dX11_shadowOf_142 : decode cX11_shadowOf 142 = .ok (.istore 7, 2) := by decide +kernel
theorem dX11_shadowOf_144 : decode cX11_shadowOf 144 = .ok (.iload 7, 2) := by decide +kernel
theorem dX11_shadowOf_146 : decode cX11_shadowOf 146 = .ok (.iconst 5, 1) := by decide +kernel
theorem dX11_shadowOf_147 : decode cX11_shadowOf 147 = .ok (.if_icmp .ge 53, 3) := by decide +kernel
theorem dX11_shadowOf_150 : decode cX11_shadowOf 150 = .ok (.aload_n 0, 1) := by decide +kernel
theorem dX11_shadowOf_151 : decode cX11_shadowOf 151 = .ok (.getfield 31, 3) := by decide +kernel
theorem dX11_shadowOf_154 : decode cX11_shadowOf 154 = .ok (.iconst 5, 1) := by decide +kernel
theorem dX11_shadowOf_155 : decode cX11_shadowOf 155 = .ok (.aload_n 0, 1) := by decide +kernel
theorem dX11_shadowOf_156 : decode cX11_shadowOf 156 = .ok (.getfield 212, 3) := by decide +kernel
theorem dX11_shadowOf_159 : decode cX11_shadowOf 159 = .ok (.imul, 1) := by decide +kernel
theorem dX11_shadowOf_160 : decode cX11_shadowOf 160 = .ok (.iload 7, 2) := by decide +kernel
theorem dX11_shadowOf_162 : decode cX11_shadowOf 162 = .ok (.iadd, 1) := by decide +kernel
theorem dX11_shadowOf_163 : decode cX11_shadowOf 163 = .ok (.aload_n 0, 1) := by decide +kernel
theorem dX11_shadowOf_164 : decode cX11_shadowOf 164 = .ok (.getfield 28, 3) := by decide +kernel
theorem dX11_shadowOf_167 : decode cX11_shadowOf 167 = .ok (.iconst 5, 1) := by decide +kernel
theorem dX11_shadowOf_168 : decode cX11_shadowOf 168 = .ok (.iload_n 3, 1) := by decide +kernel
theorem dX11_shadowOf_169 : decode cX11_shadowOf 169 = .ok (.imul, 1) := by decide +kernel
theorem dX11_shadowOf_170 : decode cX11_shadowOf 170 = .ok (.iload 7, 2) := by decide +kernel
theorem dX11_shadowOf_172 : decode cX11_shadowOf 172 = .ok (.iadd, 1) := by decide +kernel
theorem dX11_shadowOf_173 : decode cX11_shadowOf 173 = .ok (.iaload, 1) := by decide +kernel
theorem dX11_shadowOf_174 : decode cX11_shadowOf 174 = .ok (.iload 6, 2) := by decide +kernel
theorem dX11_shadowOf_176 : decode cX11_shadowOf 176 = .ok (.imul, 1) := by decide +kernel
theorem dX11_shadowOf_177 : decode cX11_shadowOf 177 = .ok (.aload_n 0, 1) := by decide +kernel
theorem dX11_shadowOf_178 : decode cX11_shadowOf 178 = .ok (.getfield 28, 3) := by decide +kernel
theorem dX11_shadowOf_181 : decode cX11_shadowOf 181 = .ok (.iconst 5, 1) := by decide +kernel
theorem dX11_shadowOf_182 : decode cX11_shadowOf 182 = .ok (.iload 4, 2) := by decide +kernel
theorem dX11_shadowOf_184 : decode cX11_shadowOf 184 = .ok (.imul, 1) := by decide +kernel
theorem dX11_shadowOf_185 : decode cX11_shadowOf 185 = .ok (.iload 7, 2) := by decide +kernel
theorem dX11_shadowOf_187 : decode cX11_shadowOf 187 = .ok (.iadd, 1) := by decide +kernel
theorem dX11_shadowOf_188 : decode cX11_shadowOf 188 = .ok (.iaload, 1) := by decide +kernel
theorem dX11_shadowOf_189 : decode cX11_shadowOf 189 = .ok (.iload 5, 2) := by decide +kernel
theorem dX11_shadowOf_191 : decode cX11_shadowOf 191 = .ok (.imul, 1) := by decide +kernel
theorem dX11_shadowOf_192 : decode cX11_shadowOf 192 = .ok (.iadd, 1) := by decide +kernel
theorem dX11_shadowOf_193 : decode cX11_shadowOf 193 = .ok (.iastore, 1) := by decide +kernel
theorem dX11_shadowOf_194 : decode cX11_shadowOf 194 = .ok (.iinc 7 1, 3) := by decide +kernel
theorem dX11_shadowOf_197 : decode cX11_shadowOf 197 = .ok (.goto (-53), 3) := by decide +kernel
theorem dX11_shadowOf_200 : decode cX11_shadowOf 200 = .ok (.aload_n 0, 1) := by decide +kernel
theorem dX11_shadowOf_201 : decode cX11_shadowOf 201 = .ok (.getfield 31, 3) := by decide +kernel
theorem dX11_shadowOf_204 : decode cX11_shadowOf 204 = .ok (.iconst 5, 1) := by decide +kernel
theorem dX11_shadowOf_205 : decode cX11_shadowOf 205 = .ok (.aload_n 0, 1) := by decide +kernel
theorem dX11_shadowOf_206 : decode cX11_shadowOf 206 = .ok (.getfield 212, 3) := by decide +kernel
theorem dX11_shadowOf_209 : decode cX11_shadowOf 209 = .ok (.imul, 1) := by decide +kernel
theorem dX11_shadowOf_210 : decode cX11_shadowOf 210 = .ok (.iconst 4, 1) := by decide +kernel
theorem dX11_shadowOf_211 : decode cX11_shadowOf 211 = .ok (.iadd, 1) := by decide +kernel
theorem dX11_shadowOf_212 : decode cX11_shadowOf 212 = .ok (.dup2, 1) := by decide +kernel
theorem dX11_shadowOf_213 : decode cX11_shadowOf 213 = .ok (.iaload, 1) := by decide +kernel
theorem dX11_shadowOf_214 : decode cX11_shadowOf 214 = .ok (.iload_n 2, 1) := by decide +kernel
theorem dX11_shadowOf_215 : decode cX11_shadowOf 215 = .ok (.ifCond .eq 15, 3) := by decide +kernel
theorem dX11_shadowOf_218 : decode cX11_shadowOf 218 = .ok (.iload 5, 2) := by decide +kernel
theorem dX11_shadowOf_220 : decode cX11_shadowOf 220 = .ok (.iconst 1, 1) := by decide +kernel
theorem dX11_shadowOf_221 : decode cX11_shadowOf 221 = .ok (.isub, 1) := by decide +kernel
theorem dX11_shadowOf_222 : decode cX11_shadowOf 222 = .ok (.iload 6, 2) := by decide +kernel
theorem dX11_shadowOf_224 : decode cX11_shadowOf 224 = .ok (.iconst 1, 1) := by decide +kernel
theorem dX11_shadowOf_225 : decode cX11_shadowOf 225 = .ok (.isub, 1) := by decide +kernel
theorem dX11_shadowOf_226 : decode cX11_shadowOf 226 = .ok (.imul, 1) := by decide +kernel
theorem dX11_shadowOf_227 : decode cX11_shadowOf 227 = .ok (.goto 4, 3) := by decide +kernel
theorem dX11_shadowOf_230 : decode cX11_shadowOf 230 = .ok (.iconst 0, 1) := by decide +kernel
theorem dX11_shadowOf_231 : decode cX11_shadowOf 231 = .ok (.isub, 1) := by decide +kernel
theorem dX11_shadowOf_232 : decode cX11_shadowOf 232 = .ok (.iastore, 1) := by decide +kernel
theorem dX11_shadowOf_233 : decode cX11_shadowOf 233 = .ok (.aload_n 0, 1) := by decide +kernel
theorem dX11_shadowOf_234 : decode cX11_shadowOf 234 = .ok (.invokevirtual 225, 3) := by decide +kernel
theorem dX11_shadowOf_237 : decode cX11_shadowOf 237 = .ok (.iinc 4 1, 3) := by decide +kernel
theorem dX11_shadowOf_240 : decode cX11_shadowOf 240 = .ok (.goto (-144), 3) := by decide +kernel
theorem dX11_shadowOf_243 : decode cX11_shadowOf 243 = .ok (.iinc 3 1, 3) := by decide +kernel
theorem dX11_shadowOf_246 : decode cX11_shadowOf 246 = .ok (.goto (-161), 3) := by decide +kernel
theorem dX11_shadowOf_249 : decode cX11_shadowOf 249 = .ok (.return_, 1) := by decide +kernel
set_option maxRecDepth 20000 in
theorem ggX11_row_X11_isVariable : GoodIn wsX11_row wsX11_isVariable := goodIn_r _ [8, 9, 10, 11, 7, 12] (by decide +kernel) (by decide +kernel)
set_option maxRecDepth 20000 in
theorem gX11_row_X11_isVariable : GoodIn wsX11_row (va_wsS RX11 187 yX11_isVariable wsX11_isVariable) := goodIn_app (goodIn_of _ (by decide +kernel)) ggX11_row_X11_isVariable
set_option maxRecDepth 20000 in
theorem ggX11_row_X11_in : GoodIn wsX11_row wsX11_in := goodIn_r _ [12] (by decide +kernel) (by decide +kernel)
set_option maxRecDepth 20000 in
theorem gX11_row_X11_in : GoodIn wsX11_row (va_wsS RX11 60 yX11_in wsX11_in) := goodIn_app (goodIn_of _ (by decide +kernel)) ggX11_row_X11_in
set_option maxRecDepth 20000 in
theorem ggX11_row_X11_shadowOf : GoodIn wsX11_row wsX11_shadowOf := goodIn_r _ [16, 3, 17, 18, 4, 19, 20, 21, 7, 22, 23, 24, 25, 26, 27, 28, 29, 30, 31, 32, 33, 34, 35, 36, 37, 38, 39, 40, 41, 42, 43, 44, 45, 46, 47, 48, 49, 50, 51, 52, 53, 54, 55, 56, 57, 58, 59, 60, 61, 62, 63, 64] (by decide +kernel) (by decide +kernel)
set_option maxRecDepth 20000 in
theorem gX11_row_X11_shadowOf : GoodIn wsX11_row (wsV RX11 228 RX11 yX11_shadowOf wsX11_shadowOf) := goodIn_app (goodIn_of _ (by decide +kernel)) ggX11_row_X11_shadowOf
theorem dX11_row_0 : decode cX11_row 0 = .ok (.iload_n 1, 1) := by decide +kernel
theorem dX11_row_1 : decode cX11_row 1 = .ok (.invokestatic 187, 3) := by decide +kernel
theorem dX11_row_4 : decode cX11_row 4 = .ok (.ifCond .eq 31, 3) := by decide +kernel
theorem dX11_row_7 : decode cX11_row 7 = .ok (.iload_n 2, 1) := by decide +kernel
theorem dX11_row_8 : decode cX11_row 8 = .ok (.i2l, 1) := by decide +kernel
theorem dX11_row_9 : decode cX11_row 9 = .ok (.lconst 0, 1) := by decide +kernel
theorem dX11_row_10 : decode cX11_row 10 = .ok (.lconst 1, 1) := by decide +kernel
theorem dX11_row_11 : decode cX11_row 11 = .ok (.invokestatic 60, 3) := by decide +kernel
theorem dX11_row_14 : decode cX11_row 14 = .ok (.ifCond .eq 21, 3) := by decide +kernel
theorem dX11_row_17 : decode cX11_row 17 = .ok (.iload 4, 2) := by decide +kernel
theorem dX11_row_19 : decode cX11_row 19 = .ok (.i2l, 1) := by decide +kernel
theorem dX11_row_20 : decode cX11_row 20 = .ok (.lconst 0, 1) := by decide +kernel
theorem dX11_row_21 : decode cX11_row 21 = .ok (.ldc2_w 99, 3) := by decide +kernel
theorem dX11_row_24 : decode cX11_row 24 = .ok (.invokestatic 60, 3) := by decide +kernel
theorem dX11_row_27 : decode cX11_row 27 = .ok (.ifCond .eq 8, 3) := by decide +kernel
theorem dX11_row_30 : decode cX11_row 30 = .ok (.iload_n 3, 1) := by decide +kernel
theorem dX11_row_31 : decode cX11_row 31 = .ok (.iconst (-1), 1) := by decide +kernel
theorem dX11_row_32 : decode cX11_row 32 = .ok (.if_icmp .ge 6, 3) := by decide +kernel

theorem dX8_drops_0 : decode cX8_drops 0 = .ok (.aload_n 0, 1) := by decide +kernel
theorem dX8_drops_1 : decode cX8_drops 1 = .ok (.iload_n 1, 1) := by decide +kernel
theorem dX8_drops_2 : decode cX8_drops 2 = .ok (.invokevirtual 112, 3) := by decide +kernel
theorem dX8_drops_5 : decode cX8_drops 5 = .ok (.ifCond .ne 10, 3) := by decide +kernel
theorem dX8_drops_8 : decode cX8_drops 8 = .ok (.aload_n 0, 1) := by decide +kernel
theorem dX8_drops_9 : decode cX8_drops 9 = .ok (.ldc 42, 2) := by decide +kernel
theorem dX8_drops_11 : decode cX8_drops 11 = .ok (.invokevirtual 87, 3) := by decide +kernel
theorem dX8_drops_14 : decode cX8_drops 14 = .ok (.ireturn, 1) := by decide +kernel
theorem dX8_drops_15 : decode cX8_drops 15 = .ok (.aload_n 0, 1) := by decide +kernel
theorem dX8_drops_16 : decode cX8_drops 16 = .ok (.invokevirtual 91, 3) := by decide +kernel
theorem dX8_drops_19 : decode cX8_drops 19 = .ok (.aload_n 0, 1) := by decide +kernel
theorem dX8_drops_20 : decode cX8_drops 20 = .ok (.iload_n 1, 1) := by decide +kernel
theorem dX8_drops_21 : decode cX8_drops 21 = .ok (.invokevirtual 115, 3) := by decide +kernel
theorem dX8_drops_24 : decode cX8_drops 24 = .ok (.ireturn, 1) := by decide +kernel
theorem dX8_low_0 : decode cX8_low 0 = .ok (.aload_n 0, 1) := by decide +kernel
theorem dX8_low_1 : decode cX8_low 1 = .ok (.getfield 19, 3) := by decide +kernel
theorem dX8_low_4 : decode cX8_low 4 = .ok (.iconst 2, 1) := by decide +kernel
theorem dX8_low_5 : decode cX8_low 5 = .ok (.iload_n 1, 1) := by decide +kernel
theorem dX8_low_6 : decode cX8_low 6 = .ok (.imul, 1) := by decide +kernel
theorem dX8_low_7 : decode cX8_low 7 = .ok (.iaload, 1) := by decide +kernel
theorem dX8_low_8 : decode cX8_low 8 = .ok (.ireturn, 1) := by decide +kernel
theorem dX8_high_0 : decode cX8_high 0 = .ok (.aload_n 0, 1) := by decide +kernel
theorem dX8_high_1 : decode cX8_high 1 = .ok (.getfield 19, 3) := by decide +kernel
theorem dX8_high_4 : decode cX8_high 4 = .ok (.iconst 2, 1) := by decide +kernel
theorem dX8_high_5 : decode cX8_high 5 = .ok (.iload_n 1, 1) := by decide +kernel
theorem dX8_high_6 : decode cX8_high 6 = .ok (.imul, 1) := by decide +kernel
theorem dX8_high_7 : decode cX8_high 7 = .ok (.iconst 1, 1) := by decide +kernel
theorem dX8_high_8 : decode cX8_high 8 = .ok (.iadd, 1) := by decide +kernel
theorem dX8_high_9 : decode cX8_high 9 = .ok (.iaload, 1) := by decide +kernel
theorem dX8_high_10 : decode cX8_high 10 = .ok (.ireturn, 1) := by decide +kernel
set_option maxRecDepth 20000 in
theorem ggX8_laysBox_X8_unknowns : GoodIn wsX8_laysBox wsX8_unknowns := goodIn_r _ [7, 8, 17, 18, 19, 20, 21, 22, 23, 24, 25, 26, 27, 28, 29, 30, 31, 32, 33] (by decide +kernel) (by decide +kernel)
set_option maxRecDepth 20000 in
theorem gX8_laysBox_X8_unknowns : GoodIn wsX8_laysBox (wsV RX8 47 RX8 yX8_unknowns wsX8_unknowns) := goodIn_app (goodIn_of _ (by decide +kernel)) ggX8_laysBox_X8_unknowns
set_option maxRecDepth 20000 in
theorem ggX8_laysBox_X8_lowAt : GoodIn wsX8_laysBox wsX8_lowAt := goodIn_r _ [12, 8, 17, 18, 19, 20, 21, 22, 23, 24, 25, 26, 27, 28, 29, 30, 31, 32, 33] (by decide +kernel) (by decide +kernel)
set_option maxRecDepth 20000 in
theorem gX8_laysBox_X8_lowAt : GoodIn wsX8_laysBox (wsV RX8 118 RX8 yX8_lowAt wsX8_lowAt) := goodIn_app (goodIn_of _ (by decide +kernel)) ggX8_laysBox_X8_lowAt
set_option maxRecDepth 20000 in
theorem ggX8_laysBox_X8_highAt : GoodIn wsX8_laysBox wsX8_highAt := goodIn_r _ [16, 8, 17, 18, 19, 20, 21, 22, 23, 24, 25, 26, 27, 28, 29, 30, 31, 32, 33] (by decide +kernel) (by decide +kernel)
set_option maxRecDepth 20000 in
theorem gX8_laysBox_X8_highAt : GoodIn wsX8_laysBox (wsV RX8 121 RX8 yX8_highAt wsX8_highAt) := goodIn_app (goodIn_of _ (by decide +kernel)) ggX8_laysBox_X8_highAt
theorem dX8_laysBox_0 : decode cX8_laysBox 0 = .ok (.iconst 0, 1) := by decide +kernel
theorem dX8_laysBox_1 : decode cX8_laysBox 1 = .ok (.istore_n 1, 1) := by decide +kernel
theorem dX8_laysBox_2 : decode cX8_laysBox 2 = .ok (.iload_n 1, 1) := by decide +kernel
theorem dX8_laysBox_3 : decode cX8_laysBox 3 = .ok (.aload_n 0, 1) := by decide +kernel
theorem dX8_laysBox_4 : decode cX8_laysBox 4 = .ok (.invokevirtual 47, 3) := by decide +kernel
theorem dX8_laysBox_7 : decode cX8_laysBox 7 = .ok (.if_icmp .ge 37, 3) := by decide +kernel
theorem dX8_laysBox_10 : decode cX8_laysBox 10 = .ok (.aload_n 0, 1) := by decide +kernel
theorem dX8_laysBox_11 : decode cX8_laysBox 11 = .ok (.getfield 19, 3) := by decide +kernel
theorem dX8_laysBox_14 : decode cX8_laysBox 14 = .ok (.iconst 2, 1) := by decide +kernel
theorem dX8_laysBox_15 : decode cX8_laysBox 15 = .ok (.iload_n 1, 1) := by decide +kernel
theorem dX8_laysBox_16 : decode cX8_laysBox 16 = .ok (.imul, 1) := by decide +kernel
theorem dX8_laysBox_17 : decode cX8_laysBox 17 = .ok (.aload_n 0, 1) := by decide +kernel
theorem dX8_laysBox_18 : decode cX8_laysBox 18 = .ok (.iload_n 1, 1) := by decide +kernel
theorem dX8_laysBox_19 : decode cX8_laysBox 19 = .ok (.invokevirtual 118, 3) := by decide +kernel
theorem dX8_laysBox_22 : decode cX8_laysBox 22 = .ok (.iastore, 1) := by decide +kernel
theorem dX8_laysBox_23 : decode cX8_laysBox 23 = .ok (.aload_n 0, 1) := by decide +kernel
theorem dX8_laysBox_24 : decode cX8_laysBox 24 = .ok (.getfield 19, 3) := by decide +kernel
theorem dX8_laysBox_27 : decode cX8_laysBox 27 = .ok (.iconst 2, 1) := by decide +kernel
theorem dX8_laysBox_28 : decode cX8_laysBox 28 = .ok (.iload_n 1, 1) := by decide +kernel
theorem dX8_laysBox_29 : decode cX8_laysBox 29 = .ok (.imul, 1) := by decide +kernel
theorem dX8_laysBox_30 : decode cX8_laysBox 30 = .ok (.iconst 1, 1) := by decide +kernel
theorem dX8_laysBox_31 : decode cX8_laysBox 31 = .ok (.iadd, 1) := by decide +kernel
theorem dX8_laysBox_32 : decode cX8_laysBox 32 = .ok (.aload_n 0, 1) := by decide +kernel
theorem dX8_laysBox_33 : decode cX8_laysBox 33 = .ok (.iload_n 1, 1) := by decide +kernel
theorem dX8_laysBox_34 : decode cX8_laysBox 34 = .ok (.invokevirtual 121, 3) := by decide +kernel
theorem dX8_laysBox_37 : decode cX8_laysBox 37 = .ok (.iastore, 1) := by decide +kernel
theorem dX8_laysBox_38 : decode cX8_laysBox 38 = .ok (.iinc 1 1, 3) := by decide +kernel
theorem dX8_laysBox_41 : decode cX8_laysBox 41 = .ok (.goto (-39), 3) := by decide +kernel
theorem dX8_laysBox_44 : decode cX8_laysBox 44 = .ok (.aload_n 0, 1) := by decide +kernel
theorem dX8_laysBox_45 : decode cX8_laysBox 45 = .ok (.iconst 0, 1) := by decide +kernel
theorem dX8_laysBox_46 : decode cX8_laysBox 46 = .ok (.putfield 124, 3) := by decide +kernel
theorem dX8_laysBox_49 : decode cX8_laysBox 49 = .ok (.return_, 1) := by decide +kernel
set_option maxRecDepth 20000 in
theorem ggX8_keeps_X8_low : GoodIn wsX8_keeps wsX8_low := goodIn_r _ [8, 3, 13, 14, 15, 16, 17, 18, 19, 20, 21, 22, 23, 24, 25, 26, 27, 28, 29] (by decide +kernel) (by decide +kernel)
set_option maxRecDepth 20000 in
theorem gX8_keeps_X8_low : GoodIn wsX8_keeps (wsV RX8 128 RX8 yX8_low wsX8_low) := goodIn_app (goodIn_of _ (by decide +kernel)) ggX8_keeps_X8_low
set_option maxRecDepth 20000 in
theorem ggX8_keeps_X8_high : GoodIn wsX8_keeps wsX8_high := goodIn_r _ [12, 3, 13, 14, 15, 16, 17, 18, 19, 20, 21, 22, 23, 24, 25, 26, 27, 28, 29] (by decide +kernel) (by decide +kernel)
set_option maxRecDepth 20000 in
theorem gX8_keeps_X8_high : GoodIn wsX8_keeps (wsV RX8 131 RX8 yX8_high wsX8_high) := goodIn_app (goodIn_of _ (by decide +kernel)) ggX8_keeps_X8_high
theorem dX8_keeps_0 : decode cX8_keeps 0 = .ok (.aload_n 0, 1) := by decide +kernel
theorem dX8_keeps_1 : decode cX8_keeps 1 = .ok (.getfield 124, 3) := by decide +kernel
theorem dX8_keeps_4 : decode cX8_keeps 4 = .ok (.ifCond .eq 4, 3) := by decide +kernel
theorem dX8_keeps_7 : decode cX8_keeps 7 = .ok (.return_, 1) := by decide +kernel
theorem dX8_keeps_8 : decode cX8_keeps 8 = .ok (.lload_n 2, 1) := by decide +kernel
theorem dX8_keeps_9 : decode cX8_keeps 9 = .ok (.aload_n 0, 1) := by decide +kernel
theorem dX8_keeps_10 : decode cX8_keeps 10 = .ok (.iload_n 1, 1) := by decide +kernel
theorem dX8_keeps_11 : decode cX8_keeps 11 = .ok (.invokevirtual 128, 3) := by decide +kernel
theorem dX8_keeps_14 : decode cX8_keeps 14 = .ok (.i2l, 1) := by decide +kernel
theorem dX8_keeps_15 : decode cX8_keeps 15 = .ok (.lcmp, 1) := by decide +kernel
theorem dX8_keeps_16 : decode cX8_keeps 16 = .ok (.ifCond .le 7, 3) := by decide +kernel
theorem dX8_keeps_19 : decode cX8_keeps 19 = .ok (.lload_n 2, 1) := by decide +kernel
theorem dX8_keeps_20 : decode cX8_keeps 20 = .ok (.goto 9, 3) := by decide +kernel
theorem dX8_keeps_23 : decode cX8_keeps 23 = .ok (.aload_n 0, 1) := by decide +kernel
theorem dX8_keeps_24 : decode cX8_keeps 24 = .ok (.iload_n 1, 1) := by decide +kernel
theorem dX8_keeps_25 : decode cX8_keeps 25 = .ok (.invokevirtual 128, 3) := by decide +kernel
theorem dX8_keeps_28 : decode cX8_keeps 28 = .ok (.i2l, 1) := by decide +kernel
theorem dX8_keeps_29 : decode cX8_keeps 29 = .ok (.lstore 6, 2) := by decide +kernel
theorem dX8_keeps_31 : decode cX8_keeps 31 = .ok (.lload 4, 2) := by decide +kernel
theorem dX8_keeps_33 : decode cX8_keeps 33 = .ok (.aload_n 0, 1) := by decide +kernel
theorem dX8_keeps_34 : decode cX8_keeps 34 = .ok (.iload_n 1, 1) := by decide +kernel
theorem dX8_keeps_35 : decode cX8_keeps 35 = .ok (.invokevirtual 131, 3) := by decide +kernel
theorem dX8_keeps_38 : decode cX8_keeps 38 = .ok (.i2l, 1) := by decide +kernel
theorem dX8_keeps_39 : decode cX8_keeps 39 = .ok (.lcmp, 1) := by decide +kernel
theorem dX8_keeps_40 : decode cX8_keeps 40 = .ok (.ifCond .ge 8, 3) := by decide +kernel
theorem dX8_keeps_43 : decode cX8_keeps 43 = .ok (.lload 4, 2) := by decide +kernel
theorem dX8_keeps_45 : decode cX8_keeps 45 = .ok (.goto 9, 3) := by decide +kernel
theorem dX8_keeps_48 : decode cX8_keeps 48 = .ok (.aload_n 0, 1) := by decide +kernel
theorem dX8_keeps_49 : decode cX8_keeps 49 = .ok (.iload_n 1, 1) := by decide +kernel
theorem dX8_keeps_50 : decode cX8_keeps 50 = .ok (.invokevirtual 131, 3) := by decide +kernel
theorem dX8_keeps_53 : decode cX8_keeps 53 = .ok (.i2l, 1) := by decide +kernel
theorem dX8_keeps_54 : decode cX8_keeps 54 = .ok (.lstore 8, 2) := by decide +kernel
theorem dX8_keeps_56 : decode cX8_keeps 56 = .ok (.lload 6, 2) := by decide +kernel
theorem dX8_keeps_58 : decode cX8_keeps 58 = .ok (.lload 8, 2) := by decide +kernel
theorem dX8_keeps_60 : decode cX8_keeps 60 = .ok (.lcmp, 1) := by decide +kernel
theorem dX8_keeps_61 : decode cX8_keeps 61 = .ok (.ifCond .le 9, 3) := by decide +kernel
theorem dX8_keeps_64 : decode cX8_keeps 64 = .ok (.aload_n 0, 1) := by decide +kernel
theorem dX8_keeps_65 : decode cX8_keeps 65 = .ok (.iconst 1, 1) := by decide +kernel
theorem dX8_keeps_66 : decode cX8_keeps 66 = .ok (.putfield 124, 3) := by decide +kernel
theorem dX8_keeps_69 : decode cX8_keeps 69 = .ok (.return_, 1) := by decide +kernel
theorem dX8_keeps_70 : decode cX8_keeps 70 = .ok (.aload_n 0, 1) := by decide +kernel
theorem dX8_keeps_71 : decode cX8_keeps 71 = .ok (.aload_n 0, 1) := by decide +kernel
theorem dX8_keeps_72 : decode cX8_keeps 72 = .ok (.getfield 134, 3) := by decide +kernel
theorem dX8_keeps_75 : decode cX8_keeps 75 = .ok (.ifCond .ne 27, 3) := by decide +kernel
theorem dX8_keeps_78 : decode cX8_keeps 78 = .ok (.lload 6, 2) := by decide +kernel
theorem dX8_keeps_80 : decode cX8_keeps 80 = .ok (.aload_n 0, 1) := by decide +kernel
theorem dX8_keeps_81 : decode cX8_keeps 81 = .ok (.iload_n 1, 1) := by decide +kernel
theorem dX8_keeps_82 : decode cX8_keeps 82 = .ok (.invokevirtual 128, 3) := by decide +kernel
theorem dX8_keeps_85 : decode cX8_keeps 85 = .ok (.i2l, 1) := by decide +kernel
theorem dX8_keeps_86 : decode cX8_keeps 86 = .ok (.lcmp, 1) := by decide +kernel
theorem dX8_keeps_87 : decode cX8_keeps 87 = .ok (.ifCond .ne 15, 3) := by decide +kernel
theorem dX8_keeps_90 : decode cX8_keeps 90 = .ok (.lload 8, 2) := by decide +kernel
theorem dX8_keeps_92 : decode cX8_keeps 92 = .ok (.aload_n 0, 1) := by decide +kernel
theorem dX8_keeps_93 : decode cX8_keeps 93 = .ok (.iload_n 1, 1) := by decide +kernel
theorem dX8_keeps_94 : decode cX8_keeps 94 = .ok (.invokevirtual 131, 3) := by decide +kernel
theorem dX8_keeps_97 : decode cX8_keeps 97 = .ok (.i2l, 1) := by decide +kernel
theorem dX8_keeps_98 : decode cX8_keeps 98 = .ok (.lcmp, 1) := by decide +kernel
theorem dX8_keeps_99 : decode cX8_keeps 99 = .ok (.ifCond .eq 7, 3) := by decide +kernel
theorem dX8_keeps_102 : decode cX8_keeps 102 = .ok (.iconst 1, 1) := by decide +kernel
theorem dX8_keeps_103 : decode cX8_keeps 103 = .ok (.goto 4, 3) := by decide +kernel
theorem dX8_keeps_106 : decode cX8_keeps 106 = .ok (.iconst 0, 1) := by decide +kernel
theorem dX8_keeps_107 : decode cX8_keeps 107 = .ok (.putfield 134, 3) := by decide +kernel
theorem dX8_keeps_110 : decode cX8_keeps 110 = .ok (.aload_n 0, 1) := by decide +kernel
theorem dX8_keeps_111 : decode cX8_keeps 111 = .ok (.getfield 19, 3) := by decide +kernel
theorem dX8_keeps_114 : decode cX8_keeps 114 = .ok (.iconst 2, 1) := by decide +kernel
theorem dX8_keeps_115 : decode cX8_keeps 115 = .ok (.iload_n 1, 1) := by decide +kernel
theorem dX8_keeps_116 : decode cX8_keeps 116 = .ok (.imul, 1) := by decide +kernel
theorem dX8_keeps_117 : decode cX8_keeps 117 = .ok (.lload 6, 2) := by decide +kernel
theorem dX8_keeps_119 : decode cX8_keeps 119 = .ok (.l2i, 1) := by decide +kernel
theorem dX8_keeps_120 : decode cX8_keeps 120 = .ok (.iastore, 1) := by decide +kernel
theorem dX8_keeps_121 : decode cX8_keeps 121 = .ok (.aload_n 0, 1) := by decide +kernel
theorem dX8_keeps_122 : decode cX8_keeps 122 = .ok (.getfield 19, 3) := by decide +kernel
theorem dX8_keeps_125 : decode cX8_keeps 125 = .ok (.iconst 2, 1) := by decide +kernel
theorem dX8_keeps_126 : decode cX8_keeps 126 = .ok (.iload_n 1, 1) := by decide +kernel
theorem dX8_keeps_127 : decode cX8_keeps 127 = .ok (.imul, 1) := by decide +kernel
theorem dX8_keeps_128 : decode cX8_keeps 128 = .ok (.iconst 1, 1) := by decide +kernel
theorem dX8_keeps_129 : decode cX8_keeps 129 = .ok (.iadd, 1) := by decide +kernel
theorem dX8_keeps_130 : decode cX8_keeps 130 = .ok (.lload 8, 2) := by decide +kernel
theorem dX8_keeps_132 : decode cX8_keeps 132 = .ok (.l2i, 1) := by decide +kernel
theorem dX8_keeps_133 : decode cX8_keeps 133 = .ok (.iastore, 1) := by decide +kernel
theorem dX8_keeps_134 : decode cX8_keeps 134 = .ok (.return_, 1) := by decide +kernel
set_option maxRecDepth 20000 in
theorem ggX8_reckoned_X8_sum : GoodIn wsX8_reckoned wsX8_sum := goodIn_r _ [4, 5, 6, 3, 7, 8, 9, 10, 11, 12, 13, 14, 15, 16, 17, 18, 19, 20, 21, 22, 23, 24, 25, 26, 27] (by decide +kernel) (by decide +kernel)
set_option maxRecDepth 20000 in
theorem gX8_reckoned_X8_sum : GoodIn wsX8_reckoned (va_wsS RX8 72 yX8_sum wsX8_sum) := goodIn_app (goodIn_of _ (by decide +kernel)) ggX8_reckoned_X8_sum
set_option maxRecDepth 20000 in
theorem ggX8_reckoned_X8_product : GoodIn wsX8_reckoned wsX8_product := goodIn_r _ [30, 5, 6, 3, 7, 8, 9, 10, 11, 12, 13, 14, 15, 16, 17, 18, 19, 20, 21, 22, 23, 24, 25, 26, 27] (by decide +kernel) (by decide +kernel)
set_option maxRecDepth 20000 in
theorem gX8_reckoned_X8_product : GoodIn wsX8_reckoned (va_wsS RX8 76 yX8_product wsX8_product) := goodIn_app (goodIn_of _ (by decide +kernel)) ggX8_reckoned_X8_product
theorem dX8_reckoned_0 : decode cX8_reckoned 0 = .ok (.iload_n 0, 1) := by decide +kernel
theorem dX8_reckoned_1 : decode cX8_reckoned 1 = .ok (.ifCond .ne 11, 3) := by decide +kernel
theorem dX8_reckoned_4 : decode cX8_reckoned 4 = .ok (.iload_n 1, 1) := by decide +kernel
theorem dX8_reckoned_5 : decode cX8_reckoned 5 = .ok (.iload_n 2, 1) := by decide +kernel
theorem dX8_reckoned_6 : decode cX8_reckoned 6 = .ok (.invokestatic 72, 3) := by decide +kernel
theorem dX8_reckoned_9 : decode cX8_reckoned 9 = .ok (.goto 8, 3) := by decide +kernel
theorem dX8_reckoned_12 : decode cX8_reckoned 12 = .ok (.iload_n 1, 1) := by decide +kernel
theorem dX8_reckoned_13 : decode cX8_reckoned 13 = .ok (.iload_n 2, 1) := by decide +kernel
theorem dX8_reckoned_14 : decode cX8_reckoned 14 = .ok (.invokestatic 76, 3) := by decide +kernel
theorem dX8_reckoned_17 : decode cX8_reckoned 17 = .ok (.ireturn, 1) := by decide +kernel
set_option maxRecDepth 20000 in
theorem ggX8_outer_X8_reckoned : GoodIn wsX8_outer wsX8_reckoned := goodIn_r _ [4, 5, 6, 3, 7, 8, 9, 10, 11, 12, 13, 14, 15, 16, 17, 18, 19, 20, 21, 22, 23, 24, 25, 26, 27, 28, 29, 30, 31, 32, 33] (by decide +kernel) (by decide +kernel)
set_option maxRecDepth 20000 in
theorem gX8_outer_X8_reckoned : GoodIn wsX8_outer (va_wsS RX8 137 yX8_reckoned wsX8_reckoned) := goodIn_app (goodIn_of _ (by decide +kernel)) ggX8_outer_X8_reckoned
theorem dX8_outer_0 : decode cX8_outer 0 = .ok (.iload_n 0, 1) := by decide +kernel
theorem dX8_outer_1 : decode cX8_outer 1 = .ok (.iload_n 1, 1) := by decide +kernel
theorem dX8_outer_2 : decode cX8_outer 2 = .ok (.iload_n 2, 1) := by decide +kernel
theorem dX8_outer_3 : decode cX8_outer 3 = .ok (.invokestatic 137, 3) := by decide +kernel
theorem dX8_outer_6 : decode cX8_outer 6 = .ok (.istore 5, 2) := by decide +kernel
theorem dX8_outer_8 : decode cX8_outer 8 = .ok (.iload_n 0, 1) := by decide +kernel
theorem dX8_outer_9 : decode cX8_outer 9 = .ok (.iload_n 1, 1) := by decide +kernel
theorem dX8_outer_10 : decode cX8_outer 10 = .ok (.iload_n 3, 1) := by decide +kernel
theorem dX8_outer_11 : decode cX8_outer 11 = .ok (.invokestatic 137, 3) := by decide +kernel
theorem dX8_outer_14 : decode cX8_outer 14 = .ok (.istore 6, 2) := by decide +kernel
theorem dX8_outer_16 : decode cX8_outer 16 = .ok (.iload 4, 2) := by decide +kernel
theorem dX8_outer_18 : decode cX8_outer 18 = .ok (.iload 5, 2) := by decide +kernel
theorem dX8_outer_20 : decode cX8_outer 20 = .ok (.iload 6, 2) := by decide +kernel
theorem dX8_outer_22 : decode cX8_outer 22 = .ok (.if_icmp .le 7, 3) := by decide +kernel
theorem dX8_outer_25 : decode cX8_outer 25 = .ok (.iconst 1, 1) := by decide +kernel
theorem dX8_outer_26 : decode cX8_outer 26 = .ok (.goto 4, 3) := by decide +kernel
theorem dX8_outer_29 : decode cX8_outer 29 = .ok (.iconst 0, 1) := by decide +kernel
theorem dX8_outer_30 : decode cX8_outer 30 = .ok (.if_icmp .ne 8, 3) := by decide +kernel
theorem dX8_outer_33 : decode cX8_outer 33 = .ok (.iload 5, 2) := by decide +kernel
theorem dX8_outer_35 : decode cX8_outer 35 = .ok (.goto 5, 3) := by decide +kernel
theorem dX8_outer_38 : decode cX8_outer 38 = .ok (.iload 6, 2) := by decide +kernel
theorem dX8_outer_40 : decode cX8_outer 40 = .ok (.ireturn, 1) := by decide +kernel
set_option maxRecDepth 20000 in
theorem ggX8_firstRising_X8_floorHalf : GoodIn wsX8_firstRising wsX8_floorHalf := goodIn_r _ [4, 5] (by decide +kernel) (by decide +kernel)
set_option maxRecDepth 20000 in
theorem gX8_firstRising_X8_floorHalf : GoodIn wsX8_firstRising (va_wsS RX8 141 yX8_floorHalf wsX8_floorHalf) := goodIn_app (goodIn_of _ (by decide +kernel)) ggX8_firstRising_X8_floorHalf
set_option maxRecDepth 20000 in
theorem ggX8_firstRising_X8_outer : GoodIn wsX8_firstRising wsX8_outer := goodIn_r _ [8, 9, 10, 3, 11, 12, 13, 14, 15, 16, 17, 18, 19, 20, 21, 22, 23, 24, 25, 26, 27, 28, 29, 30, 31, 32, 33, 34, 35, 36, 37, 38, 39, 40] (by decide +kernel) (by decide +kernel)
set_option maxRecDepth 20000 in
theorem gX8_firstRising_X8_outer : GoodIn wsX8_firstRising (va_wsS RX8 145 yX8_outer wsX8_outer) := goodIn_app (goodIn_of _ (by decide +kernel)) ggX8_firstRising_X8_outer
theorem dX8_firstRising_0 : decode cX8_firstRising 0 = .ok (.iload_n 1, 1) := by decide +kernel
theorem dX8_firstRising_1 : decode cX8_firstRising 1 = .ok (.i2l, 1) := by decide +kernel
theorem dX8_firstRising_2 : decode cX8_firstRising 2 = .ok (.lstore 6, 2) := by decide +kernel
theorem dX8_firstRising_4 : decode cX8_firstRising 4 = .ok (.iload_n 2, 1) := by decide +kernel
theorem dX8_firstRising_5 : decode cX8_firstRising 5 = .ok (.i2l, 1) := by decide +kernel
theorem dX8_firstRising_6 : decode cX8_firstRising 6 = .ok (.lconst 1, 1) := by decide +kernel
theorem dX8_firstRising_7 : decode cX8_firstRising 7 = .ok (.ladd, 1) := by decide +kernel
theorem dX8_firstRising_8 : decode cX8_firstRising 8 = .ok (.lstore 8, 2) := by decide +kernel
theorem dX8_firstRising_10 : decode cX8_firstRising 10 = .ok (.lload 6, 2) := by decide +kernel
theorem dX8_firstRising_12 : decode cX8_firstRising 12 = .ok (.lload 8, 2) := by decide +kernel
theorem dX8_firstRising_14 : decode cX8_firstRising 14 = .ok (.lcmp, 1) := by decide +kernel
theorem dX8_firstRising_15 : decode cX8_firstRising 15 = .ok (.ifCond .ge 69, 3) := by decide +kernel
theorem dX8_firstRising_18 : decode cX8_firstRising 18 = .ok (.lload 6, 2) := by decide +kernel
theorem dX8_firstRising_20 : decode cX8_firstRising 20 = .ok (.lload 8, 2) := by decide +kernel
theorem dX8_firstRising_22 : decode cX8_firstRising 22 = .ok (.ladd, 1) := by decide +kernel
theorem dX8_firstRising_23 : decode cX8_firstRising 23 = .ok (.invokestatic 141, 3) := by decide +kernel
theorem dX8_firstRising_26 : decode cX8_firstRising 26 = .ok (.lstore 10, 2) := by decide +kernel
theorem dX8_firstRising_28 : decode cX8_firstRising 28 = .ok (.iload_n 0, 1) := by decide +kernel
theorem dX8_firstRising_29 : decode cX8_firstRising 29 = .ok (.lload 10, 2) := by decide +kernel
theorem dX8_firstRising_31 : decode cX8_firstRising 31 = .ok (.l2i, 1) := by decide +kernel
theorem dX8_firstRising_32 : decode cX8_firstRising 32 = .ok (.iload_n 3, 1) := by decide +kernel
theorem dX8_firstRising_33 : decode cX8_firstRising 33 = .ok (.iload 4, 2) := by decide +kernel
theorem dX8_firstRising_35 : decode cX8_firstRising 35 = .ok (.iconst 1, 1) := by decide +kernel
theorem dX8_firstRising_36 : decode cX8_firstRising 36 = .ok (.invokestatic 145, 3) := by decide +kernel
theorem dX8_firstRising_39 : decode cX8_firstRising 39 = .ok (.iload 5, 2) := by decide +kernel
theorem dX8_firstRising_41 : decode cX8_firstRising 41 = .ok (.if_icmp .lt 7, 3) := by decide +kernel
theorem dX8_firstRising_44 : decode cX8_firstRising 44 = .ok (.iconst 1, 1) := by decide +kernel
theorem dX8_firstRising_45 : decode cX8_firstRising 45 = .ok (.goto 4, 3) := by decide +kernel
theorem dX8_firstRising_48 : decode cX8_firstRising 48 = .ok (.iconst 0, 1) := by decide +kernel
theorem dX8_firstRising_49 : decode cX8_firstRising 49 = .ok (.istore 12, 2) := by decide +kernel
theorem dX8_firstRising_51 : decode cX8_firstRising 51 = .ok (.iload 12, 2) := by decide +kernel
theorem dX8_firstRising_53 : decode cX8_firstRising 53 = .ok (.ifCond .eq 8, 3) := by decide +kernel
theorem dX8_firstRising_56 : decode cX8_firstRising 56 = .ok (.lload 6, 2) := by decide +kernel
theorem dX8_firstRising_58 : decode cX8_firstRising 58 = .ok (.goto 7, 3) := by decide +kernel
theorem dX8_firstRising_61 : decode cX8_firstRising 61 = .ok (.lload 10, 2) := by decide +kernel
theorem dX8_firstRising_63 : decode cX8_firstRising 63 = .ok (.lconst 1, 1) := by decide +kernel
theorem dX8_firstRising_64 : decode cX8_firstRising 64 = .ok (.ladd, 1) := by decide +kernel
theorem dX8_firstRising_65 : decode cX8_firstRising 65 = .ok (.lstore 6, 2) := by decide +kernel
theorem dX8_firstRising_67 : decode cX8_firstRising 67 = .ok (.iload 12, 2) := by decide +kernel
theorem dX8_firstRising_69 : decode cX8_firstRising 69 = .ok (.ifCond .eq 8, 3) := by decide +kernel
theorem dX8_firstRising_72 : decode cX8_firstRising 72 = .ok (.lload 10, 2) := by decide +kernel
theorem dX8_firstRising_74 : decode cX8_firstRising 74 = .ok (.goto 5, 3) := by decide +kernel
theorem dX8_firstRising_77 : decode cX8_firstRising 77 = .ok (.lload 8, 2) := by decide +kernel
theorem dX8_firstRising_79 : decode cX8_firstRising 79 = .ok (.lstore 8, 2) := by decide +kernel
theorem dX8_firstRising_81 : decode cX8_firstRising 81 = .ok (.goto (-71), 3) := by decide +kernel
theorem dX8_firstRising_84 : decode cX8_firstRising 84 = .ok (.lload 6, 2) := by decide +kernel
theorem dX8_firstRising_86 : decode cX8_firstRising 86 = .ok (.lreturn, 1) := by decide +kernel
set_option maxRecDepth 20000 in
theorem ggX8_lastRising_X8_floorHalf : GoodIn wsX8_lastRising wsX8_floorHalf := goodIn_r _ [4, 5] (by decide +kernel) (by decide +kernel)
set_option maxRecDepth 20000 in
theorem gX8_lastRising_X8_floorHalf : GoodIn wsX8_lastRising (va_wsS RX8 141 yX8_floorHalf wsX8_floorHalf) := goodIn_app (goodIn_of _ (by decide +kernel)) ggX8_lastRising_X8_floorHalf
set_option maxRecDepth 20000 in
theorem ggX8_lastRising_X8_outer : GoodIn wsX8_lastRising wsX8_outer := goodIn_r _ [8, 9, 10, 3, 11, 12, 13, 14, 15, 16, 17, 18, 19, 20, 21, 22, 23, 24, 25, 26, 27, 28, 29, 30, 31, 32, 33, 34, 35, 36, 37, 38, 39, 40] (by decide +kernel) (by decide +kernel)
set_option maxRecDepth 20000 in
theorem gX8_lastRising_X8_outer : GoodIn wsX8_lastRising (va_wsS RX8 145 yX8_outer wsX8_outer) := goodIn_app (goodIn_of _ (by decide +kernel)) ggX8_lastRising_X8_outer
theorem dX8_lastRising_0 : decode cX8_lastRising 0 = .ok (.iload_n 1, 1) := by decide +kernel
theorem dX8_lastRising_1 : decode cX8_lastRising 1 = .ok (.i2l, 1) := by decide +kernel
theorem dX8_lastRising_2 : decode cX8_lastRising 2 = .ok (.lconst 1, 1) := by decide +kernel
theorem dX8_lastRising_3 : decode cX8_lastRising 3 = .ok (.lsub, 1) := by decide +kernel
theorem dX8_lastRising_4 : decode cX8_lastRising 4 = .ok (.lstore 6, 2) := by decide +kernel
theorem dX8_lastRising_6 : decode cX8_lastRising 6 = .ok (.iload_n 2, 1) := by decide +kernel
theorem dX8_lastRising_7 : decode cX8_lastRising 7 = .ok (.i2l, 1) := by decide +kernel
theorem dX8_lastRising_8 : decode cX8_lastRising 8 = .ok (.lstore 8, 2) := by decide +kernel
theorem dX8_lastRising_10 : decode cX8_lastRising 10 = .ok (.lload 6, 2) := by decide +kernel
theorem dX8_lastRising_12 : decode cX8_lastRising 12 = .ok (.lload 8, 2) := by decide +kernel
theorem dX8_lastRising_14 : decode cX8_lastRising 14 = .ok (.lcmp, 1) := by decide +kernel
theorem dX8_lastRising_15 : decode cX8_lastRising 15 = .ok (.ifCond .ge 71, 3) := by decide +kernel
theorem dX8_lastRising_18 : decode cX8_lastRising 18 = .ok (.lload 6, 2) := by decide +kernel
theorem dX8_lastRising_20 : decode cX8_lastRising 20 = .ok (.lload 8, 2) := by decide +kernel
theorem dX8_lastRising_22 : decode cX8_lastRising 22 = .ok (.ladd, 1) := by decide +kernel
theorem dX8_lastRising_23 : decode cX8_lastRising 23 = .ok (.lconst 1, 1) := by decide +kernel
theorem dX8_lastRising_24 : decode cX8_lastRising 24 = .ok (.ladd, 1) := by decide +kernel
theorem dX8_lastRising_25 : decode cX8_lastRising 25 = .ok (.invokestatic 141, 3) := by decide +kernel
theorem dX8_lastRising_28 : decode cX8_lastRising 28 = .ok (.lstore 10, 2) := by decide +kernel
theorem dX8_lastRising_30 : decode cX8_lastRising 30 = .ok (.iload_n 0, 1) := by decide +kernel
theorem dX8_lastRising_31 : decode cX8_lastRising 31 = .ok (.lload 10, 2) := by decide +kernel
theorem dX8_lastRising_33 : decode cX8_lastRising 33 = .ok (.l2i, 1) := by decide +kernel
theorem dX8_lastRising_34 : decode cX8_lastRising 34 = .ok (.iload_n 3, 1) := by decide +kernel
theorem dX8_lastRising_35 : decode cX8_lastRising 35 = .ok (.iload 4, 2) := by decide +kernel
theorem dX8_lastRising_37 : decode cX8_lastRising 37 = .ok (.iconst 0, 1) := by decide +kernel
theorem dX8_lastRising_38 : decode cX8_lastRising 38 = .ok (.invokestatic 145, 3) := by decide +kernel
theorem dX8_lastRising_41 : decode cX8_lastRising 41 = .ok (.iload 5, 2) := by decide +kernel
theorem dX8_lastRising_43 : decode cX8_lastRising 43 = .ok (.if_icmp .gt 7, 3) := by decide +kernel
theorem dX8_lastRising_46 : decode cX8_lastRising 46 = .ok (.iconst 1, 1) := by decide +kernel
theorem dX8_lastRising_47 : decode cX8_lastRising 47 = .ok (.goto 4, 3) := by decide +kernel
theorem dX8_lastRising_50 : decode cX8_lastRising 50 = .ok (.iconst 0, 1) := by decide +kernel
theorem dX8_lastRising_51 : decode cX8_lastRising 51 = .ok (.istore 12, 2) := by decide +kernel
theorem dX8_lastRising_53 : decode cX8_lastRising 53 = .ok (.iload 12, 2) := by decide +kernel
theorem dX8_lastRising_55 : decode cX8_lastRising 55 = .ok (.ifCond .eq 8, 3) := by decide +kernel
theorem dX8_lastRising_58 : decode cX8_lastRising 58 = .ok (.lload 10, 2) := by decide +kernel
theorem dX8_lastRising_60 : decode cX8_lastRising 60 = .ok (.goto 5, 3) := by decide +kernel
theorem dX8_lastRising_63 : decode cX8_lastRising 63 = .ok (.lload 6, 2) := by decide +kernel
theorem dX8_lastRising_65 : decode cX8_lastRising 65 = .ok (.lstore 6, 2) := by decide +kernel
theorem dX8_lastRising_67 : decode cX8_lastRising 67 = .ok (.iload 12, 2) := by decide +kernel
theorem dX8_lastRising_69 : decode cX8_lastRising 69 = .ok (.ifCond .eq 8, 3) := by decide +kernel
theorem dX8_lastRising_72 : decode cX8_lastRising 72 = .ok (.lload 8, 2) := by decide +kernel
theorem dX8_lastRising_74 : decode cX8_lastRising 74 = .ok (.goto 7, 3) := by decide +kernel
theorem dX8_lastRising_77 : decode cX8_lastRising 77 = .ok (.lload 10, 2) := by decide +kernel
theorem dX8_lastRising_79 : decode cX8_lastRising 79 = .ok (.lconst 1, 1) := by decide +kernel
theorem dX8_lastRising_80 : decode cX8_lastRising 80 = .ok (.lsub, 1) := by decide +kernel
theorem dX8_lastRising_81 : decode cX8_lastRising 81 = .ok (.lstore 8, 2) := by decide +kernel
theorem dX8_lastRising_83 : decode cX8_lastRising 83 = .ok (.goto (-73), 3) := by decide +kernel
theorem dX8_lastRising_86 : decode cX8_lastRising 86 = .ok (.lload 6, 2) := by decide +kernel
theorem dX8_lastRising_88 : decode cX8_lastRising 88 = .ok (.lreturn, 1) := by decide +kernel
set_option maxRecDepth 20000 in
theorem ggX8_lastFalling_X8_floorHalf : GoodIn wsX8_lastFalling wsX8_floorHalf := goodIn_r _ [4, 5] (by decide +kernel) (by decide +kernel)
set_option maxRecDepth 20000 in
theorem gX8_lastFalling_X8_floorHalf : GoodIn wsX8_lastFalling (va_wsS RX8 141 yX8_floorHalf wsX8_floorHalf) := goodIn_app (goodIn_of _ (by decide +kernel)) ggX8_lastFalling_X8_floorHalf
set_option maxRecDepth 20000 in
theorem ggX8_lastFalling_X8_outer : GoodIn wsX8_lastFalling wsX8_outer := goodIn_r _ [8, 9, 10, 3, 11, 12, 13, 14, 15, 16, 17, 18, 19, 20, 21, 22, 23, 24, 25, 26, 27, 28, 29, 30, 31, 32, 33, 34, 35, 36, 37, 38, 39, 40] (by decide +kernel) (by decide +kernel)
set_option maxRecDepth 20000 in
theorem gX8_lastFalling_X8_outer : GoodIn wsX8_lastFalling (va_wsS RX8 145 yX8_outer wsX8_outer) := goodIn_app (goodIn_of _ (by decide +kernel)) ggX8_lastFalling_X8_outer
theorem dX8_lastFalling_0 : decode cX8_lastFalling 0 = .ok (.iload_n 0, 1) := by decide +kernel
theorem dX8_lastFalling_1 : decode cX8_lastFalling 1 = .ok (.i2l, 1) := by decide +kernel
theorem dX8_lastFalling_2 : decode cX8_lastFalling 2 = .ok (.lconst 1, 1) := by decide +kernel
theorem dX8_lastFalling_3 : decode cX8_lastFalling 3 = .ok (.lsub, 1) := by decide +kernel
theorem dX8_lastFalling_4 : decode cX8_lastFalling 4 = .ok (.lstore 5, 2) := by decide +kernel
theorem dX8_lastFalling_6 : decode cX8_lastFalling 6 = .ok (.iload_n 1, 1) := by decide +kernel
theorem dX8_lastFalling_7 : decode cX8_lastFalling 7 = .ok (.i2l, 1) := by decide +kernel
theorem dX8_lastFalling_8 : decode cX8_lastFalling 8 = .ok (.lstore 7, 2) := by decide +kernel
theorem dX8_lastFalling_10 : decode cX8_lastFalling 10 = .ok (.lload 5, 2) := by decide +kernel
theorem dX8_lastFalling_12 : decode cX8_lastFalling 12 = .ok (.lload 7, 2) := by decide +kernel
theorem dX8_lastFalling_14 : decode cX8_lastFalling 14 = .ok (.lcmp, 1) := by decide +kernel
theorem dX8_lastFalling_15 : decode cX8_lastFalling 15 = .ok (.ifCond .ge 70, 3) := by decide +kernel
theorem dX8_lastFalling_18 : decode cX8_lastFalling 18 = .ok (.lload 5, 2) := by decide +kernel
theorem dX8_lastFalling_20 : decode cX8_lastFalling 20 = .ok (.lload 7, 2) := by decide +kernel
theorem dX8_lastFalling_22 : decode cX8_lastFalling 22 = .ok (.ladd, 1) := by decide +kernel
theorem dX8_lastFalling_23 : decode cX8_lastFalling 23 = .ok (.lconst 1, 1) := by decide +kernel
theorem dX8_lastFalling_24 : decode cX8_lastFalling 24 = .ok (.ladd, 1) := by decide +kernel
theorem dX8_lastFalling_25 : decode cX8_lastFalling 25 = .ok (.invokestatic 141, 3) := by decide +kernel
theorem dX8_lastFalling_28 : decode cX8_lastFalling 28 = .ok (.lstore 9, 2) := by decide +kernel
theorem dX8_lastFalling_30 : decode cX8_lastFalling 30 = .ok (.iconst 1, 1) := by decide +kernel
theorem dX8_lastFalling_31 : decode cX8_lastFalling 31 = .ok (.lload 9, 2) := by decide +kernel
theorem dX8_lastFalling_33 : decode cX8_lastFalling 33 = .ok (.l2i, 1) := by decide +kernel
theorem dX8_lastFalling_34 : decode cX8_lastFalling 34 = .ok (.iload_n 2, 1) := by decide +kernel
theorem dX8_lastFalling_35 : decode cX8_lastFalling 35 = .ok (.iload_n 3, 1) := by decide +kernel
theorem dX8_lastFalling_36 : decode cX8_lastFalling 36 = .ok (.iconst 1, 1) := by decide +kernel
theorem dX8_lastFalling_37 : decode cX8_lastFalling 37 = .ok (.invokestatic 145, 3) := by decide +kernel
theorem dX8_lastFalling_40 : decode cX8_lastFalling 40 = .ok (.iload 4, 2) := by decide +kernel
theorem dX8_lastFalling_42 : decode cX8_lastFalling 42 = .ok (.if_icmp .lt 7, 3) := by decide +kernel
theorem dX8_lastFalling_45 : decode cX8_lastFalling 45 = .ok (.iconst 1, 1) := by decide +kernel
theorem dX8_lastFalling_46 : decode cX8_lastFalling 46 = .ok (.goto 4, 3) := by decide +kernel
theorem dX8_lastFalling_49 : decode cX8_lastFalling 49 = .ok (.iconst 0, 1) := by decide +kernel
theorem dX8_lastFalling_50 : decode cX8_lastFalling 50 = .ok (.istore 11, 2) := by decide +kernel
theorem dX8_lastFalling_52 : decode cX8_lastFalling 52 = .ok (.iload 11, 2) := by decide +kernel
theorem dX8_lastFalling_54 : decode cX8_lastFalling 54 = .ok (.ifCond .eq 8, 3) := by decide +kernel
theorem dX8_lastFalling_57 : decode cX8_lastFalling 57 = .ok (.lload 9, 2) := by decide +kernel
theorem dX8_lastFalling_59 : decode cX8_lastFalling 59 = .ok (.goto 5, 3) := by decide +kernel
theorem dX8_lastFalling_62 : decode cX8_lastFalling 62 = .ok (.lload 5, 2) := by decide +kernel
theorem dX8_lastFalling_64 : decode cX8_lastFalling 64 = .ok (.lstore 5, 2) := by decide +kernel
theorem dX8_lastFalling_66 : decode cX8_lastFalling 66 = .ok (.iload 11, 2) := by decide +kernel
theorem dX8_lastFalling_68 : decode cX8_lastFalling 68 = .ok (.ifCond .eq 8, 3) := by decide +kernel
theorem dX8_lastFalling_71 : decode cX8_lastFalling 71 = .ok (.lload 7, 2) := by decide +kernel
theorem dX8_lastFalling_73 : decode cX8_lastFalling 73 = .ok (.goto 7, 3) := by decide +kernel
theorem dX8_lastFalling_76 : decode cX8_lastFalling 76 = .ok (.lload 9, 2) := by decide +kernel
theorem dX8_lastFalling_78 : decode cX8_lastFalling 78 = .ok (.lconst 1, 1) := by decide +kernel
theorem dX8_lastFalling_79 : decode cX8_lastFalling 79 = .ok (.lsub, 1) := by decide +kernel
theorem dX8_lastFalling_80 : decode cX8_lastFalling 80 = .ok (.lstore 7, 2) := by decide +kernel
theorem dX8_lastFalling_82 : decode cX8_lastFalling 82 = .ok (.goto (-72), 3) := by decide +kernel
theorem dX8_lastFalling_85 : decode cX8_lastFalling 85 = .ok (.lload 5, 2) := by decide +kernel
theorem dX8_lastFalling_87 : decode cX8_lastFalling 87 = .ok (.lreturn, 1) := by decide +kernel
set_option maxRecDepth 20000 in
theorem ggX8_firstFalling_X8_floorHalf : GoodIn wsX8_firstFalling wsX8_floorHalf := goodIn_r _ [4, 5] (by decide +kernel) (by decide +kernel)
set_option maxRecDepth 20000 in
theorem gX8_firstFalling_X8_floorHalf : GoodIn wsX8_firstFalling (va_wsS RX8 141 yX8_floorHalf wsX8_floorHalf) := goodIn_app (goodIn_of _ (by decide +kernel)) ggX8_firstFalling_X8_floorHalf
set_option maxRecDepth 20000 in
theorem ggX8_firstFalling_X8_outer : GoodIn wsX8_firstFalling wsX8_outer := goodIn_r _ [8, 9, 10, 3, 11, 12, 13, 14, 15, 16, 17, 18, 19, 20, 21, 22, 23, 24, 25, 26, 27, 28, 29, 30, 31, 32, 33, 34, 35, 36, 37, 38, 39, 40] (by decide +kernel) (by decide +kernel)
set_option maxRecDepth 20000 in
theorem gX8_firstFalling_X8_outer : GoodIn wsX8_firstFalling (va_wsS RX8 145 yX8_outer wsX8_outer) := goodIn_app (goodIn_of _ (by decide +kernel)) ggX8_firstFalling_X8_outer
theorem dX8_firstFalling_0 : decode cX8_firstFalling 0 = .ok (.iload_n 0, 1) := by decide +kernel
theorem dX8_firstFalling_1 : decode cX8_firstFalling 1 = .ok (.i2l, 1) := by decide +kernel
theorem dX8_firstFalling_2 : decode cX8_firstFalling 2 = .ok (.lstore 5, 2) := by decide +kernel
theorem dX8_firstFalling_4 : decode cX8_firstFalling 4 = .ok (.iload_n 1, 1) := by decide +kernel
theorem dX8_firstFalling_5 : decode cX8_firstFalling 5 = .ok (.i2l, 1) := by decide +kernel
theorem dX8_firstFalling_6 : decode cX8_firstFalling 6 = .ok (.lconst 1, 1) := by decide +kernel
theorem dX8_firstFalling_7 : decode cX8_firstFalling 7 = .ok (.ladd, 1) := by decide +kernel
theorem dX8_firstFalling_8 : decode cX8_firstFalling 8 = .ok (.lstore 7, 2) := by decide +kernel
theorem dX8_firstFalling_10 : decode cX8_firstFalling 10 = .ok (.lload 5, 2) := by decide +kernel
theorem dX8_firstFalling_12 : decode cX8_firstFalling 12 = .ok (.lload 7, 2) := by decide +kernel
theorem dX8_firstFalling_14 : decode cX8_firstFalling 14 = .ok (.lcmp, 1) := by decide +kernel
theorem dX8_firstFalling_15 : decode cX8_firstFalling 15 = .ok (.ifCond .ge 68, 3) := by decide +kernel
theorem dX8_firstFalling_18 : decode cX8_firstFalling 18 = .ok (.lload 5, 2) := by decide +kernel
theorem dX8_firstFalling_20 : decode cX8_firstFalling 20 = .ok (.lload 7, 2) := by decide +kernel
theorem dX8_firstFalling_22 : decode cX8_firstFalling 22 = .ok (.ladd, 1) := by decide +kernel
theorem dX8_firstFalling_23 : decode cX8_firstFalling 23 = .ok (.invokestatic 141, 3) := by decide +kernel
theorem dX8_firstFalling_26 : decode cX8_firstFalling 26 = .ok (.lstore 9, 2) := by decide +kernel
theorem dX8_firstFalling_28 : decode cX8_firstFalling 28 = .ok (.iconst 1, 1) := by decide +kernel
theorem dX8_firstFalling_29 : decode cX8_firstFalling 29 = .ok (.lload 9, 2) := by decide +kernel
theorem dX8_firstFalling_31 : decode cX8_firstFalling 31 = .ok (.l2i, 1) := by decide +kernel
theorem dX8_firstFalling_32 : decode cX8_firstFalling 32 = .ok (.iload_n 2, 1) := by decide +kernel
theorem dX8_firstFalling_33 : decode cX8_firstFalling 33 = .ok (.iload_n 3, 1) := by decide +kernel
theorem dX8_firstFalling_34 : decode cX8_firstFalling 34 = .ok (.iconst 0, 1) := by decide +kernel
theorem dX8_firstFalling_35 : decode cX8_firstFalling 35 = .ok (.invokestatic 145, 3) := by decide +kernel
theorem dX8_firstFalling_38 : decode cX8_firstFalling 38 = .ok (.iload 4, 2) := by decide +kernel
theorem dX8_firstFalling_40 : decode cX8_firstFalling 40 = .ok (.if_icmp .gt 7, 3) := by decide +kernel
theorem dX8_firstFalling_43 : decode cX8_firstFalling 43 = .ok (.iconst 1, 1) := by decide +kernel
theorem dX8_firstFalling_44 : decode cX8_firstFalling 44 = .ok (.goto 4, 3) := by decide +kernel
theorem dX8_firstFalling_47 : decode cX8_firstFalling 47 = .ok (.iconst 0, 1) := by decide +kernel
theorem dX8_firstFalling_48 : decode cX8_firstFalling 48 = .ok (.istore 11, 2) := by decide +kernel
theorem dX8_firstFalling_50 : decode cX8_firstFalling 50 = .ok (.iload 11, 2) := by decide +kernel
theorem dX8_firstFalling_52 : decode cX8_firstFalling 52 = .ok (.ifCond .eq 8, 3) := by decide +kernel
theorem dX8_firstFalling_55 : decode cX8_firstFalling 55 = .ok (.lload 5, 2) := by decide +kernel
theorem dX8_firstFalling_57 : decode cX8_firstFalling 57 = .ok (.goto 7, 3) := by decide +kernel
theorem dX8_firstFalling_60 : decode cX8_firstFalling 60 = .ok (.lload 9, 2) := by decide +kernel
theorem dX8_firstFalling_62 : decode cX8_firstFalling 62 = .ok (.lconst 1, 1) := by decide +kernel
theorem dX8_firstFalling_63 : decode cX8_firstFalling 63 = .ok (.ladd, 1) := by decide +kernel
theorem dX8_firstFalling_64 : decode cX8_firstFalling 64 = .ok (.lstore 5, 2) := by decide +kernel
theorem dX8_firstFalling_66 : decode cX8_firstFalling 66 = .ok (.iload 11, 2) := by decide +kernel
theorem dX8_firstFalling_68 : decode cX8_firstFalling 68 = .ok (.ifCond .eq 8, 3) := by decide +kernel
theorem dX8_firstFalling_71 : decode cX8_firstFalling 71 = .ok (.lload 9, 2) := by decide +kernel
theorem dX8_firstFalling_73 : decode cX8_firstFalling 73 = .ok (.goto 5, 3) := by decide +kernel
theorem dX8_firstFalling_76 : decode cX8_firstFalling 76 = .ok (.lload 7, 2) := by decide +kernel
theorem dX8_firstFalling_78 : decode cX8_firstFalling 78 = .ok (.lstore 7, 2) := by decide +kernel
theorem dX8_firstFalling_80 : decode cX8_firstFalling 80 = .ok (.goto (-70), 3) := by decide +kernel
theorem dX8_firstFalling_83 : decode cX8_firstFalling 83 = .ok (.lload 5, 2) := by decide +kernel
theorem dX8_firstFalling_85 : decode cX8_firstFalling 85 = .ok (.lreturn, 1) := by decide +kernel
theorem dX8_floorHalf_0 : decode cX8_floorHalf 0 = .ok (.lload_n 0, 1) := by decide +kernel
theorem dX8_floorHalf_1 : decode cX8_floorHalf 1 = .ok (.lconst 0, 1) := by decide +kernel
theorem dX8_floorHalf_2 : decode cX8_floorHalf 2 = .ok (.lcmp, 1) := by decide +kernel
theorem dX8_floorHalf_3 : decode cX8_floorHalf 3 = .ok (.ifCond .lt 11, 3) := by decide +kernel
theorem dX8_floorHalf_6 : decode cX8_floorHalf 6 = .ok (.lload_n 0, 1) := by decide +kernel
theorem dX8_floorHalf_7 : decode cX8_floorHalf 7 = .ok (.ldc2_w 149, 3) := by decide +kernel
theorem dX8_floorHalf_10 : decode cX8_floorHalf 10 = .ok (.ldiv, 1) := by decide +kernel
theorem dX8_floorHalf_11 : decode cX8_floorHalf 11 = .ok (.goto 10, 3) := by decide +kernel
theorem dX8_floorHalf_14 : decode cX8_floorHalf 14 = .ok (.lload_n 0, 1) := by decide +kernel
theorem dX8_floorHalf_15 : decode cX8_floorHalf 15 = .ok (.lconst 1, 1) := by decide +kernel
theorem dX8_floorHalf_16 : decode cX8_floorHalf 16 = .ok (.lsub, 1) := by decide +kernel
theorem dX8_floorHalf_17 : decode cX8_floorHalf 17 = .ok (.ldc2_w 149, 3) := by decide +kernel
theorem dX8_floorHalf_20 : decode cX8_floorHalf 20 = .ok (.ldiv, 1) := by decide +kernel
theorem dX8_floorHalf_21 : decode cX8_floorHalf 21 = .ok (.lreturn, 1) := by decide +kernel
set_option maxRecDepth 20000 in
theorem ggX8_keepsSummand_X8_high : GoodIn wsX8_keepsSummand wsX8_high := goodIn_r _ [6, 7, 62, 63, 64, 65, 66, 67, 68, 69, 70, 71, 72, 73, 74, 75, 76, 77, 78] (by decide +kernel) (by decide +kernel)
set_option maxRecDepth 20000 in
theorem gX8_keepsSummand_X8_high : GoodIn wsX8_keepsSummand (wsV RX8 131 RX8 yX8_high wsX8_high) := goodIn_app (goodIn_of _ (by decide +kernel)) ggX8_keepsSummand_X8_high
set_option maxRecDepth 20000 in
theorem ggX8_keepsSummand_X8_low : GoodIn wsX8_keepsSummand wsX8_low := goodIn_r _ [11, 7, 62, 63, 64, 65, 66, 67, 68, 69, 70, 71, 72, 73, 74, 75, 76, 77, 78] (by decide +kernel) (by decide +kernel)
set_option maxRecDepth 20000 in
theorem gX8_keepsSummand_X8_low : GoodIn wsX8_keepsSummand (wsV RX8 128 RX8 yX8_low wsX8_low) := goodIn_app (goodIn_of _ (by decide +kernel)) ggX8_keepsSummand_X8_low
set_option maxRecDepth 20000 in
theorem ggX8_keepsSummand_X8_firstRising : GoodIn wsX8_keepsSummand wsX8_firstRising := goodIn_r _ [14, 15, 16, 5, 17, 18, 19, 20, 21, 22, 23, 24, 25, 26, 27, 28, 29, 30, 31, 32, 33, 34, 35, 36, 37, 38, 39, 40, 41, 42, 43, 44, 45, 46, 47, 48, 49, 50, 51, 52, 53] (by decide +kernel) (by decide +kernel)
set_option maxRecDepth 20000 in
theorem gX8_keepsSummand_X8_firstRising : GoodIn wsX8_keepsSummand (va_wsS RX8 151 yX8_firstRising wsX8_firstRising) := goodIn_app (goodIn_of _ (by decide +kernel)) ggX8_keepsSummand_X8_firstRising
set_option maxRecDepth 20000 in
theorem ggX8_keepsSummand_X8_lastRising : GoodIn wsX8_keepsSummand wsX8_lastRising := goodIn_r _ [56, 15, 16, 5, 17, 18, 19, 20, 21, 22, 23, 24, 25, 26, 27, 28, 29, 30, 31, 32, 33, 34, 35, 36, 37, 38, 39, 40, 41, 42, 43, 44, 45, 46, 47, 48, 49, 50, 51, 52, 53] (by decide +kernel) (by decide +kernel)
set_option maxRecDepth 20000 in
theorem gX8_keepsSummand_X8_lastRising : GoodIn wsX8_keepsSummand (va_wsS RX8 155 yX8_lastRising wsX8_lastRising) := goodIn_app (goodIn_of _ (by decide +kernel)) ggX8_keepsSummand_X8_lastRising
set_option maxRecDepth 20000 in
theorem ggX8_keepsSummand_X8_keeps : GoodIn wsX8_keepsSummand wsX8_keeps := goodIn_r _ [60, 1, 61, 7, 8, 9, 10, 5, 11, 2, 3, 4, 6, 62, 63, 64, 65, 66, 67, 68, 69, 70, 71, 72, 73, 74, 75, 76, 77, 78] (by decide +kernel) (by decide +kernel)
set_option maxRecDepth 20000 in
theorem gX8_keepsSummand_X8_keeps : GoodIn wsX8_keepsSummand (wsV RX8 158 RX8 yX8_keeps wsX8_keeps) := goodIn_app (goodIn_of _ (by decide +kernel)) ggX8_keepsSummand_X8_keeps
theorem dX8_keepsSummand_0 : decode cX8_keepsSummand 0 = .ok (.aload_n 0, 1) := by decide +kernel
theorem dX8_keepsSummand_1 : decode cX8_keepsSummand 1 = .ok (.getfield 124, 3) := by decide +kernel
theorem dX8_keepsSummand_4 : decode cX8_keepsSummand 4 = .ok (.ifCond .eq 4, 3) := by decide +kernel
theorem dX8_keepsSummand_7 : decode cX8_keepsSummand 7 = .ok (.return_, 1) := by decide +kernel
theorem dX8_keepsSummand_8 : decode cX8_keepsSummand 8 = .ok (.aload_n 0, 1) := by decide +kernel
theorem dX8_keepsSummand_9 : decode cX8_keepsSummand 9 = .ok (.iload_n 2, 1) := by decide +kernel
theorem dX8_keepsSummand_10 : decode cX8_keepsSummand 10 = .ok (.invokevirtual 131, 3) := by decide +kernel
theorem dX8_keepsSummand_13 : decode cX8_keepsSummand 13 = .ok (.istore 4, 2) := by decide +kernel
theorem dX8_keepsSummand_15 : decode cX8_keepsSummand 15 = .ok (.aload_n 0, 1) := by decide +kernel
theorem dX8_keepsSummand_16 : decode cX8_keepsSummand 16 = .ok (.iload_n 2, 1) := by decide +kernel
theorem dX8_keepsSummand_17 : decode cX8_keepsSummand 17 = .ok (.invokevirtual 128, 3) := by decide +kernel
theorem dX8_keepsSummand_20 : decode cX8_keepsSummand 20 = .ok (.istore 5, 2) := by decide +kernel
theorem dX8_keepsSummand_22 : decode cX8_keepsSummand 22 = .ok (.iconst 0, 1) := by decide +kernel
theorem dX8_keepsSummand_23 : decode cX8_keepsSummand 23 = .ok (.aload_n 0, 1) := by decide +kernel
theorem dX8_keepsSummand_24 : decode cX8_keepsSummand 24 = .ok (.iload_n 1, 1) := by decide +kernel
theorem dX8_keepsSummand_25 : decode cX8_keepsSummand 25 = .ok (.invokevirtual 128, 3) := by decide +kernel
theorem dX8_keepsSummand_28 : decode cX8_keepsSummand 28 = .ok (.aload_n 0, 1) := by decide +kernel
theorem dX8_keepsSummand_29 : decode cX8_keepsSummand 29 = .ok (.iload_n 1, 1) := by decide +kernel
theorem dX8_keepsSummand_30 : decode cX8_keepsSummand 30 = .ok (.invokevirtual 131, 3) := by decide +kernel
theorem dX8_keepsSummand_33 : decode cX8_keepsSummand 33 = .ok (.iload 4, 2) := by decide +kernel
theorem dX8_keepsSummand_35 : decode cX8_keepsSummand 35 = .ok (.iload 4, 2) := by decide +kernel
theorem dX8_keepsSummand_37 : decode cX8_keepsSummand 37 = .ok (.aload_n 0, 1) := by decide +kernel
theorem dX8_keepsSummand_38 : decode cX8_keepsSummand 38 = .ok (.iload_n 3, 1) := by decide +kernel
theorem dX8_keepsSummand_39 : decode cX8_keepsSummand 39 = .ok (.invokevirtual 128, 3) := by decide +kernel
theorem dX8_keepsSummand_42 : decode cX8_keepsSummand 42 = .ok (.invokestatic 151, 3) := by decide +kernel
theorem dX8_keepsSummand_45 : decode cX8_keepsSummand 45 = .ok (.lstore 6, 2) := by decide +kernel
theorem dX8_keepsSummand_47 : decode cX8_keepsSummand 47 = .ok (.iconst 0, 1) := by decide +kernel
theorem dX8_keepsSummand_48 : decode cX8_keepsSummand 48 = .ok (.aload_n 0, 1) := by decide +kernel
theorem dX8_keepsSummand_49 : decode cX8_keepsSummand 49 = .ok (.iload_n 1, 1) := by decide +kernel
theorem dX8_keepsSummand_50 : decode cX8_keepsSummand 50 = .ok (.invokevirtual 128, 3) := by decide +kernel
theorem dX8_keepsSummand_53 : decode cX8_keepsSummand 53 = .ok (.aload_n 0, 1) := by decide +kernel
theorem dX8_keepsSummand_54 : decode cX8_keepsSummand 54 = .ok (.iload_n 1, 1) := by decide +kernel
theorem dX8_keepsSummand_55 : decode cX8_keepsSummand 55 = .ok (.invokevirtual 131, 3) := by decide +kernel
theorem dX8_keepsSummand_58 : decode cX8_keepsSummand 58 = .ok (.iload 5, 2) := by decide +kernel
theorem dX8_keepsSummand_60 : decode cX8_keepsSummand 60 = .ok (.iload 5, 2) := by decide +kernel
theorem dX8_keepsSummand_62 : decode cX8_keepsSummand 62 = .ok (.aload_n 0, 1) := by decide +kernel
theorem dX8_keepsSummand_63 : decode cX8_keepsSummand 63 = .ok (.iload_n 3, 1) := by decide +kernel
theorem dX8_keepsSummand_64 : decode cX8_keepsSummand 64 = .ok (.invokevirtual 131, 3) := by decide +kernel
theorem dX8_keepsSummand_67 : decode cX8_keepsSummand 67 = .ok (.invokestatic 155, 3) := by decide +kernel
theorem dX8_keepsSummand_70 : decode cX8_keepsSummand 70 = .ok (.lstore 8, 2) := by decide +kernel
theorem dX8_keepsSummand_72 : decode cX8_keepsSummand 72 = .ok (.aload_n 0, 1) := by decide +kernel
theorem dX8_keepsSummand_73 : decode cX8_keepsSummand 73 = .ok (.iload_n 1, 1) := by decide +kernel
theorem dX8_keepsSummand_74 : decode cX8_keepsSummand 74 = .ok (.lload 6, 2) := by decide +kernel
theorem dX8_keepsSummand_76 : decode cX8_keepsSummand 76 = .ok (.lload 8, 2) := by decide +kernel
theorem dX8_keepsSummand_78 : decode cX8_keepsSummand 78 = .ok (.invokevirtual 158, 3) := by decide +kernel
theorem dX8_keepsSummand_81 : decode cX8_keepsSummand 81 = .ok (.return_, 1) := by decide +kernel
set_option maxRecDepth 20000 in
theorem ggX8_cutsSum_X8_low : GoodIn wsX8_cutsSum wsX8_low := goodIn_r _ [5, 6, 66, 67, 68, 69, 70, 71, 72, 73, 74, 75, 76, 77, 78, 79, 80, 81, 82] (by decide +kernel) (by decide +kernel)
set_option maxRecDepth 20000 in
theorem gX8_cutsSum_X8_low : GoodIn wsX8_cutsSum (wsV RX8 128 RX8 yX8_low wsX8_low) := goodIn_app (goodIn_of _ (by decide +kernel)) ggX8_cutsSum_X8_low
set_option maxRecDepth 20000 in
theorem ggX8_cutsSum_X8_sum : GoodIn wsX8_cutsSum wsX8_sum := goodIn_r _ [9, 10, 11, 4, 12, 13, 14, 15, 16, 17, 18, 19, 20, 21, 22, 23, 24, 25, 26, 27, 28, 29, 30, 31, 32] (by decide +kernel) (by decide +kernel)
set_option maxRecDepth 20000 in
theorem gX8_cutsSum_X8_sum : GoodIn wsX8_cutsSum (va_wsS RX8 72 yX8_sum wsX8_sum) := goodIn_app (goodIn_of _ (by decide +kernel)) ggX8_cutsSum_X8_sum
set_option maxRecDepth 20000 in
theorem ggX8_cutsSum_X8_high : GoodIn wsX8_cutsSum wsX8_high := goodIn_r _ [36, 6, 66, 67, 68, 69, 70, 71, 72, 73, 74, 75, 76, 77, 78, 79, 80, 81, 82] (by decide +kernel) (by decide +kernel)
set_option maxRecDepth 20000 in
theorem gX8_cutsSum_X8_high : GoodIn wsX8_cutsSum (wsV RX8 131 RX8 yX8_high wsX8_high) := goodIn_app (goodIn_of _ (by decide +kernel)) ggX8_cutsSum_X8_high
set_option maxRecDepth 20000 in
theorem ggX8_cutsSum_X8_keeps : GoodIn wsX8_cutsSum wsX8_keeps := goodIn_r _ [40, 41, 42, 6, 1, 2, 3, 4, 5, 33, 34, 35, 36, 66, 67, 68, 69, 70, 71, 72, 73, 74, 75, 76, 77, 78, 79, 80, 81, 82] (by decide +kernel) (by decide +kernel)
set_option maxRecDepth 20000 in
theorem gX8_cutsSum_X8_keeps : GoodIn wsX8_cutsSum (wsV RX8 158 RX8 yX8_keeps wsX8_keeps) := goodIn_app (goodIn_of _ (by decide +kernel)) ggX8_cutsSum_X8_keeps
set_option maxRecDepth 20000 in
theorem ggX8_cutsSum_X8_keepsSummand : GoodIn wsX8_cutsSum wsX8_keepsSummand := goodIn_r _ [46, 41, 33, 34, 35, 4, 36, 6, 1, 2, 3, 5, 47, 48, 49, 50, 51, 52, 53, 54, 55, 56, 57, 58, 59, 7, 8, 9, 10, 11, 12, 13, 14, 15, 16, 17, 18, 19, 20, 21, 22, 23, 24, 25, 26, 27, 28, 29, 30, 31, 32, 60, 61, 62, 63, 64, 65, 37, 38, 39, 40, 42, 66, 67, 68, 69, 70, 71, 72, 73, 74, 75, 76, 77, 78, 79, 80, 81, 82] (by decide +kernel) (by decide +kernel)
set_option maxRecDepth 20000 in
theorem gX8_cutsSum_X8_keepsSummand : GoodIn wsX8_cutsSum (wsV RX8 162 RX8 yX8_keepsSummand wsX8_keepsSummand) := goodIn_app (goodIn_of _ (by decide +kernel)) ggX8_cutsSum_X8_keepsSummand
theorem dX8_cutsSum_0 : decode cX8_cutsSum 0 = .ok (.aload_n 0, 1) := by decide +kernel
theorem dX8_cutsSum_1 : decode cX8_cutsSum 1 = .ok (.iload_n 3, 1) := by decide +kernel
theorem dX8_cutsSum_2 : decode cX8_cutsSum 2 = .ok (.aload_n 0, 1) := by decide +kernel
theorem dX8_cutsSum_3 : decode cX8_cutsSum 3 = .ok (.iload_n 1, 1) := by decide +kernel
theorem dX8_cutsSum_4 : decode cX8_cutsSum 4 = .ok (.invokevirtual 128, 3) := by decide +kernel
theorem dX8_cutsSum_7 : decode cX8_cutsSum 7 = .ok (.aload_n 0, 1) := by decide +kernel
theorem dX8_cutsSum_8 : decode cX8_cutsSum 8 = .ok (.iload_n 2, 1) := by decide +kernel
theorem dX8_cutsSum_9 : decode cX8_cutsSum 9 = .ok (.invokevirtual 128, 3) := by decide +kernel
theorem dX8_cutsSum_12 : decode cX8_cutsSum 12 = .ok (.invokestatic 72, 3) := by decide +kernel
theorem dX8_cutsSum_15 : decode cX8_cutsSum 15 = .ok (.i2l, 1) := by decide +kernel
theorem dX8_cutsSum_16 : decode cX8_cutsSum 16 = .ok (.aload_n 0, 1) := by decide +kernel
theorem dX8_cutsSum_17 : decode cX8_cutsSum 17 = .ok (.iload_n 1, 1) := by decide +kernel
theorem dX8_cutsSum_18 : decode cX8_cutsSum 18 = .ok (.invokevirtual 131, 3) := by decide +kernel
theorem dX8_cutsSum_21 : decode cX8_cutsSum 21 = .ok (.aload_n 0, 1) := by decide +kernel
theorem dX8_cutsSum_22 : decode cX8_cutsSum 22 = .ok (.iload_n 2, 1) := by decide +kernel
theorem dX8_cutsSum_23 : decode cX8_cutsSum 23 = .ok (.invokevirtual 131, 3) := by decide +kernel
theorem dX8_cutsSum_26 : decode cX8_cutsSum 26 = .ok (.invokestatic 72, 3) := by decide +kernel
theorem dX8_cutsSum_29 : decode cX8_cutsSum 29 = .ok (.i2l, 1) := by decide +kernel
theorem dX8_cutsSum_30 : decode cX8_cutsSum 30 = .ok (.invokevirtual 158, 3) := by decide +kernel
theorem dX8_cutsSum_33 : decode cX8_cutsSum 33 = .ok (.aload_n 0, 1) := by decide +kernel
theorem dX8_cutsSum_34 : decode cX8_cutsSum 34 = .ok (.iload_n 1, 1) := by decide +kernel
theorem dX8_cutsSum_35 : decode cX8_cutsSum 35 = .ok (.iload_n 2, 1) := by decide +kernel
theorem dX8_cutsSum_36 : decode cX8_cutsSum 36 = .ok (.iload_n 3, 1) := by decide +kernel
theorem dX8_cutsSum_37 : decode cX8_cutsSum 37 = .ok (.invokevirtual 162, 3) := by decide +kernel
theorem dX8_cutsSum_40 : decode cX8_cutsSum 40 = .ok (.aload_n 0, 1) := by decide +kernel
theorem dX8_cutsSum_41 : decode cX8_cutsSum 41 = .ok (.iload_n 2, 1) := by decide +kernel
theorem dX8_cutsSum_42 : decode cX8_cutsSum 42 = .ok (.iload_n 1, 1) := by decide +kernel
theorem dX8_cutsSum_43 : decode cX8_cutsSum 43 = .ok (.iload_n 3, 1) := by decide +kernel
theorem dX8_cutsSum_44 : decode cX8_cutsSum 44 = .ok (.invokevirtual 162, 3) := by decide +kernel
theorem dX8_cutsSum_47 : decode cX8_cutsSum 47 = .ok (.return_, 1) := by decide +kernel
set_option maxRecDepth 20000 in
theorem ggX8_keepsFactor_X8_low : GoodIn wsX8_keepsFactor wsX8_low := goodIn_r _ [8, 9, 70, 71, 72, 73, 74, 75, 76, 77, 78, 79, 80, 81, 82, 83, 84, 85, 86] (by decide +kernel) (by decide +kernel)
set_option maxRecDepth 20000 in
theorem gX8_keepsFactor_X8_low : GoodIn wsX8_keepsFactor (wsV RX8 128 RX8 yX8_low wsX8_low) := goodIn_app (goodIn_of _ (by decide +kernel)) ggX8_keepsFactor_X8_low
set_option maxRecDepth 20000 in
theorem ggX8_keepsFactor_X8_high : GoodIn wsX8_keepsFactor wsX8_high := goodIn_r _ [13, 9, 70, 71, 72, 73, 74, 75, 76, 77, 78, 79, 80, 81, 82, 83, 84, 85, 86] (by decide +kernel) (by decide +kernel)
set_option maxRecDepth 20000 in
theorem gX8_keepsFactor_X8_high : GoodIn wsX8_keepsFactor (wsV RX8 131 RX8 yX8_high wsX8_high) := goodIn_app (goodIn_of _ (by decide +kernel)) ggX8_keepsFactor_X8_high
set_option maxRecDepth 20000 in
theorem ggX8_keepsFactor_X8_firstFalling : GoodIn wsX8_keepsFactor wsX8_firstFalling := goodIn_r _ [16, 17, 18, 7, 19, 20, 21, 22, 23, 24, 25, 26, 27, 28, 29, 30, 31, 32, 33, 34, 35, 36, 37, 38, 39, 40, 41, 42, 43, 44, 45, 46, 47, 48, 49, 50, 51, 52, 53, 54, 55] (by decide +kernel) (by decide +kernel)
set_option maxRecDepth 20000 in
theorem gX8_keepsFactor_X8_firstFalling : GoodIn wsX8_keepsFactor (va_wsS RX8 170 yX8_firstFalling wsX8_firstFalling) := goodIn_app (goodIn_of _ (by decide +kernel)) ggX8_keepsFactor_X8_firstFalling
set_option maxRecDepth 20000 in
theorem ggX8_keepsFactor_X8_lastFalling : GoodIn wsX8_keepsFactor wsX8_lastFalling := goodIn_r _ [58, 17, 18, 7, 19, 20, 21, 22, 23, 24, 25, 26, 27, 28, 29, 30, 31, 32, 33, 34, 35, 36, 37, 38, 39, 40, 41, 42, 43, 44, 45, 46, 47, 48, 49, 50, 51, 52, 53, 54, 55] (by decide +kernel) (by decide +kernel)
set_option maxRecDepth 20000 in
theorem gX8_keepsFactor_X8_lastFalling : GoodIn wsX8_keepsFactor (va_wsS RX8 174 yX8_lastFalling wsX8_lastFalling) := goodIn_app (goodIn_of _ (by decide +kernel)) ggX8_keepsFactor_X8_lastFalling
set_option maxRecDepth 20000 in
theorem ggX8_keepsFactor_X8_firstRising : GoodIn wsX8_keepsFactor wsX8_firstRising := goodIn_r _ [61, 17, 18, 7, 19, 20, 21, 22, 23, 24, 25, 26, 27, 28, 29, 30, 31, 32, 33, 34, 35, 36, 37, 38, 39, 40, 41, 42, 43, 44, 45, 46, 47, 48, 49, 50, 51, 52, 53, 54, 55] (by decide +kernel) (by decide +kernel)
set_option maxRecDepth 20000 in
theorem gX8_keepsFactor_X8_firstRising : GoodIn wsX8_keepsFactor (va_wsS RX8 151 yX8_firstRising wsX8_firstRising) := goodIn_app (goodIn_of _ (by decide +kernel)) ggX8_keepsFactor_X8_firstRising
set_option maxRecDepth 20000 in
theorem ggX8_keepsFactor_X8_lastRising : GoodIn wsX8_keepsFactor wsX8_lastRising := goodIn_r _ [64, 17, 18, 7, 19, 20, 21, 22, 23, 24, 25, 26, 27, 28, 29, 30, 31, 32, 33, 34, 35, 36, 37, 38, 39, 40, 41, 42, 43, 44, 45, 46, 47, 48, 49, 50, 51, 52, 53, 54, 55] (by decide +kernel) (by decide +kernel)
set_option maxRecDepth 20000 in
theorem gX8_keepsFactor_X8_lastRising : GoodIn wsX8_keepsFactor (va_wsS RX8 155 yX8_lastRising wsX8_lastRising) := goodIn_app (goodIn_of _ (by decide +kernel)) ggX8_keepsFactor_X8_lastRising
set_option maxRecDepth 20000 in
theorem ggX8_keepsFactor_X8_keeps : GoodIn wsX8_keepsFactor wsX8_keeps := goodIn_r _ [68, 1, 69, 9, 4, 5, 6, 7, 8, 10, 11, 12, 13, 70, 71, 72, 73, 74, 75, 76, 77, 78, 79, 80, 81, 82, 83, 84, 85, 86] (by decide +kernel) (by decide +kernel)
set_option maxRecDepth 20000 in
theorem gX8_keepsFactor_X8_keeps : GoodIn wsX8_keepsFactor (wsV RX8 158 RX8 yX8_keeps wsX8_keeps) := goodIn_app (goodIn_of _ (by decide +kernel)) ggX8_keepsFactor_X8_keeps
theorem dX8_keepsFactor_0 : decode cX8_keepsFactor 0 = .ok (.aload_n 0, 1) := by decide +kernel
theorem dX8_keepsFactor_1 : decode cX8_keepsFactor 1 = .ok (.getfield 124, 3) := by decide +kernel
theorem dX8_keepsFactor_4 : decode cX8_keepsFactor 4 = .ok (.ifCond .eq 4, 3) := by decide +kernel
theorem dX8_keepsFactor_7 : decode cX8_keepsFactor 7 = .ok (.return_, 1) := by decide +kernel
theorem dX8_keepsFactor_8 : decode cX8_keepsFactor 8 = .ok (.ldc2_w 166, 3) := by decide +kernel
theorem dX8_keepsFactor_11 : decode cX8_keepsFactor 11 = .ok (.lstore 4, 2) := by decide +kernel
theorem dX8_keepsFactor_13 : decode cX8_keepsFactor 13 = .ok (.ldc2_w 168, 3) := by decide +kernel
theorem dX8_keepsFactor_16 : decode cX8_keepsFactor 16 = .ok (.lstore 6, 2) := by decide +kernel
theorem dX8_keepsFactor_18 : decode cX8_keepsFactor 18 = .ok (.aload_n 0, 1) := by decide +kernel
theorem dX8_keepsFactor_19 : decode cX8_keepsFactor 19 = .ok (.iload_n 2, 1) := by decide +kernel
theorem dX8_keepsFactor_20 : decode cX8_keepsFactor 20 = .ok (.invokevirtual 128, 3) := by decide +kernel
theorem dX8_keepsFactor_23 : decode cX8_keepsFactor 23 = .ok (.ifCond .ge 126, 3) := by decide +kernel
theorem dX8_keepsFactor_26 : decode cX8_keepsFactor 26 = .ok (.aload_n 0, 1) := by decide +kernel
theorem dX8_keepsFactor_27 : decode cX8_keepsFactor 27 = .ok (.iload_n 2, 1) := by decide +kernel
theorem dX8_keepsFactor_28 : decode cX8_keepsFactor 28 = .ok (.invokevirtual 131, 3) := by decide +kernel
theorem dX8_keepsFactor_31 : decode cX8_keepsFactor 31 = .ok (.ifCond .ge 11, 3) := by decide +kernel
theorem dX8_keepsFactor_34 : decode cX8_keepsFactor 34 = .ok (.aload_n 0, 1) := by decide +kernel
theorem dX8_keepsFactor_35 : decode cX8_keepsFactor 35 = .ok (.iload_n 2, 1) := by decide +kernel
theorem dX8_keepsFactor_36 : decode cX8_keepsFactor 36 = .ok (.invokevirtual 131, 3) := by decide +kernel
theorem dX8_keepsFactor_39 : decode cX8_keepsFactor 39 = .ok (.goto 4, 3) := by decide +kernel
theorem dX8_keepsFactor_42 : decode cX8_keepsFactor 42 = .ok (.iconst (-1), 1) := by decide +kernel
theorem dX8_keepsFactor_43 : decode cX8_keepsFactor 43 = .ok (.istore 8, 2) := by decide +kernel
theorem dX8_keepsFactor_45 : decode cX8_keepsFactor 45 = .ok (.aload_n 0, 1) := by decide +kernel
theorem dX8_keepsFactor_46 : decode cX8_keepsFactor 46 = .ok (.iload_n 1, 1) := by decide +kernel
theorem dX8_keepsFactor_47 : decode cX8_keepsFactor 47 = .ok (.invokevirtual 128, 3) := by decide +kernel
theorem dX8_keepsFactor_50 : decode cX8_keepsFactor 50 = .ok (.aload_n 0, 1) := by decide +kernel
theorem dX8_keepsFactor_51 : decode cX8_keepsFactor 51 = .ok (.iload_n 1, 1) := by decide +kernel
theorem dX8_keepsFactor_52 : decode cX8_keepsFactor 52 = .ok (.invokevirtual 131, 3) := by decide +kernel
theorem dX8_keepsFactor_55 : decode cX8_keepsFactor 55 = .ok (.aload_n 0, 1) := by decide +kernel
theorem dX8_keepsFactor_56 : decode cX8_keepsFactor 56 = .ok (.iload_n 2, 1) := by decide +kernel
theorem dX8_keepsFactor_57 : decode cX8_keepsFactor 57 = .ok (.invokevirtual 128, 3) := by decide +kernel
theorem dX8_keepsFactor_60 : decode cX8_keepsFactor 60 = .ok (.iload 8, 2) := by decide +kernel
theorem dX8_keepsFactor_62 : decode cX8_keepsFactor 62 = .ok (.aload_n 0, 1) := by decide +kernel
theorem dX8_keepsFactor_63 : decode cX8_keepsFactor 63 = .ok (.iload_n 3, 1) := by decide +kernel
theorem dX8_keepsFactor_64 : decode cX8_keepsFactor 64 = .ok (.invokevirtual 131, 3) := by decide +kernel
theorem dX8_keepsFactor_67 : decode cX8_keepsFactor 67 = .ok (.invokestatic 170, 3) := by decide +kernel
theorem dX8_keepsFactor_70 : decode cX8_keepsFactor 70 = .ok (.lstore 9, 2) := by decide +kernel
theorem dX8_keepsFactor_72 : decode cX8_keepsFactor 72 = .ok (.aload_n 0, 1) := by decide +kernel
theorem dX8_keepsFactor_73 : decode cX8_keepsFactor 73 = .ok (.iload_n 1, 1) := by decide +kernel
theorem dX8_keepsFactor_74 : decode cX8_keepsFactor 74 = .ok (.invokevirtual 128, 3) := by decide +kernel
theorem dX8_keepsFactor_77 : decode cX8_keepsFactor 77 = .ok (.aload_n 0, 1) := by decide +kernel
theorem dX8_keepsFactor_78 : decode cX8_keepsFactor 78 = .ok (.iload_n 1, 1) := by decide +kernel
theorem dX8_keepsFactor_79 : decode cX8_keepsFactor 79 = .ok (.invokevirtual 131, 3) := by decide +kernel
theorem dX8_keepsFactor_82 : decode cX8_keepsFactor 82 = .ok (.aload_n 0, 1) := by decide +kernel
theorem dX8_keepsFactor_83 : decode cX8_keepsFactor 83 = .ok (.iload_n 2, 1) := by decide +kernel
theorem dX8_keepsFactor_84 : decode cX8_keepsFactor 84 = .ok (.invokevirtual 128, 3) := by decide +kernel
theorem dX8_keepsFactor_87 : decode cX8_keepsFactor 87 = .ok (.iload 8, 2) := by decide +kernel
theorem dX8_keepsFactor_89 : decode cX8_keepsFactor 89 = .ok (.aload_n 0, 1) := by decide +kernel
theorem dX8_keepsFactor_90 : decode cX8_keepsFactor 90 = .ok (.iload_n 3, 1) := by decide +kernel
theorem dX8_keepsFactor_91 : decode cX8_keepsFactor 91 = .ok (.invokevirtual 128, 3) := by decide +kernel
theorem dX8_keepsFactor_94 : decode cX8_keepsFactor 94 = .ok (.invokestatic 174, 3) := by decide +kernel
theorem dX8_keepsFactor_97 : decode cX8_keepsFactor 97 = .ok (.lstore 11, 2) := by decide +kernel
theorem dX8_keepsFactor_99 : decode cX8_keepsFactor 99 = .ok (.lload 9, 2) := by decide +kernel
theorem dX8_keepsFactor_101 : decode cX8_keepsFactor 101 = .ok (.lload 11, 2) := by decide +kernel
theorem dX8_keepsFactor_103 : decode cX8_keepsFactor 103 = .ok (.lcmp, 1) := by decide +kernel
theorem dX8_keepsFactor_104 : decode cX8_keepsFactor 104 = .ok (.ifCond .gt 16, 3) := by decide +kernel
theorem dX8_keepsFactor_107 : decode cX8_keepsFactor 107 = .ok (.lload 9, 2) := by decide +kernel
theorem dX8_keepsFactor_109 : decode cX8_keepsFactor 109 = .ok (.lload 4, 2) := by decide +kernel
theorem dX8_keepsFactor_111 : decode cX8_keepsFactor 111 = .ok (.lcmp, 1) := by decide +kernel
theorem dX8_keepsFactor_112 : decode cX8_keepsFactor 112 = .ok (.ifCond .ge 8, 3) := by decide +kernel
theorem dX8_keepsFactor_115 : decode cX8_keepsFactor 115 = .ok (.lload 9, 2) := by decide +kernel
theorem dX8_keepsFactor_117 : decode cX8_keepsFactor 117 = .ok (.goto 5, 3) := by decide +kernel
theorem dX8_keepsFactor_120 : decode cX8_keepsFactor 120 = .ok (.lload 4, 2) := by decide +kernel
theorem dX8_keepsFactor_122 : decode cX8_keepsFactor 122 = .ok (.lstore 4, 2) := by decide +kernel
theorem dX8_keepsFactor_124 : decode cX8_keepsFactor 124 = .ok (.lload 9, 2) := by decide +kernel
theorem dX8_keepsFactor_126 : decode cX8_keepsFactor 126 = .ok (.lload 11, 2) := by decide +kernel
theorem dX8_keepsFactor_128 : decode cX8_keepsFactor 128 = .ok (.lcmp, 1) := by decide +kernel
theorem dX8_keepsFactor_129 : decode cX8_keepsFactor 129 = .ok (.ifCond .gt 16, 3) := by decide +kernel
theorem dX8_keepsFactor_132 : decode cX8_keepsFactor 132 = .ok (.lload 11, 2) := by decide +kernel
theorem dX8_keepsFactor_134 : decode cX8_keepsFactor 134 = .ok (.lload 6, 2) := by decide +kernel
theorem dX8_keepsFactor_136 : decode cX8_keepsFactor 136 = .ok (.lcmp, 1) := by decide +kernel
theorem dX8_keepsFactor_137 : decode cX8_keepsFactor 137 = .ok (.ifCond .le 8, 3) := by decide +kernel
theorem dX8_keepsFactor_140 : decode cX8_keepsFactor 140 = .ok (.lload 11, 2) := by decide +kernel
theorem dX8_keepsFactor_142 : decode cX8_keepsFactor 142 = .ok (.goto 5, 3) := by decide +kernel
theorem dX8_keepsFactor_145 : decode cX8_keepsFactor 145 = .ok (.lload 6, 2) := by decide +kernel
theorem dX8_keepsFactor_147 : decode cX8_keepsFactor 147 = .ok (.lstore 6, 2) := by decide +kernel
theorem dX8_keepsFactor_149 : decode cX8_keepsFactor 149 = .ok (.aload_n 0, 1) := by decide +kernel
theorem dX8_keepsFactor_150 : decode cX8_keepsFactor 150 = .ok (.iload_n 2, 1) := by decide +kernel
theorem dX8_keepsFactor_151 : decode cX8_keepsFactor 151 = .ok (.invokevirtual 131, 3) := by decide +kernel
theorem dX8_keepsFactor_154 : decode cX8_keepsFactor 154 = .ok (.ifCond .lt 128, 3) := by decide +kernel
theorem dX8_keepsFactor_157 : decode cX8_keepsFactor 157 = .ok (.aload_n 0, 1) := by decide +kernel
theorem dX8_keepsFactor_158 : decode cX8_keepsFactor 158 = .ok (.iload_n 2, 1) := by decide +kernel
theorem dX8_keepsFactor_159 : decode cX8_keepsFactor 159 = .ok (.invokevirtual 128, 3) := by decide +kernel
theorem dX8_keepsFactor_162 : decode cX8_keepsFactor 162 = .ok (.ifCond .ge 7, 3) := by decide +kernel
theorem dX8_keepsFactor_165 : decode cX8_keepsFactor 165 = .ok (.iconst 0, 1) := by decide +kernel
theorem dX8_keepsFactor_166 : decode cX8_keepsFactor 166 = .ok (.goto 8, 3) := by decide +kernel
theorem dX8_keepsFactor_169 : decode cX8_keepsFactor 169 = .ok (.aload_n 0, 1) := by decide +kernel
theorem dX8_keepsFactor_170 : decode cX8_keepsFactor 170 = .ok (.iload_n 2, 1) := by decide +kernel
theorem dX8_keepsFactor_171 : decode cX8_keepsFactor 171 = .ok (.invokevirtual 128, 3) := by decide +kernel
theorem dX8_keepsFactor_174 : decode cX8_keepsFactor 174 = .ok (.istore 8, 2) := by decide +kernel
theorem dX8_keepsFactor_176 : decode cX8_keepsFactor 176 = .ok (.iconst 1, 1) := by decide +kernel
theorem dX8_keepsFactor_177 : decode cX8_keepsFactor 177 = .ok (.aload_n 0, 1) := by decide +kernel
theorem dX8_keepsFactor_178 : decode cX8_keepsFactor 178 = .ok (.iload_n 1, 1) := by decide +kernel
theorem dX8_keepsFactor_179 : decode cX8_keepsFactor 179 = .ok (.invokevirtual 128, 3) := by decide +kernel
theorem dX8_keepsFactor_182 : decode cX8_keepsFactor 182 = .ok (.aload_n 0, 1) := by decide +kernel
theorem dX8_keepsFactor_183 : decode cX8_keepsFactor 183 = .ok (.iload_n 1, 1) := by decide +kernel
theorem dX8_keepsFactor_184 : decode cX8_keepsFactor 184 = .ok (.invokevirtual 131, 3) := by decide +kernel
theorem dX8_keepsFactor_187 : decode cX8_keepsFactor 187 = .ok (.iload 8, 2) := by decide +kernel
theorem dX8_keepsFactor_189 : decode cX8_keepsFactor 189 = .ok (.aload_n 0, 1) := by decide +kernel
theorem dX8_keepsFactor_190 : decode cX8_keepsFactor 190 = .ok (.iload_n 2, 1) := by decide +kernel
theorem dX8_keepsFactor_191 : decode cX8_keepsFactor 191 = .ok (.invokevirtual 131, 3) := by decide +kernel
theorem dX8_keepsFactor_194 : decode cX8_keepsFactor 194 = .ok (.aload_n 0, 1) := by decide +kernel
theorem dX8_keepsFactor_195 : decode cX8_keepsFactor 195 = .ok (.iload_n 3, 1) := by decide +kernel
theorem dX8_keepsFactor_196 : decode cX8_keepsFactor 196 = .ok (.invokevirtual 128, 3) := by decide +kernel
theorem dX8_keepsFactor_199 : decode cX8_keepsFactor 199 = .ok (.invokestatic 151, 3) := by decide +kernel
theorem dX8_keepsFactor_202 : decode cX8_keepsFactor 202 = .ok (.lstore 9, 2) := by decide +kernel
theorem dX8_keepsFactor_204 : decode cX8_keepsFactor 204 = .ok (.iconst 1, 1) := by decide +kernel
theorem dX8_keepsFactor_205 : decode cX8_keepsFactor 205 = .ok (.aload_n 0, 1) := by decide +kernel
theorem dX8_keepsFactor_206 : decode cX8_keepsFactor 206 = .ok (.iload_n 1, 1) := by decide +kernel
theorem dX8_keepsFactor_207 : decode cX8_keepsFactor 207 = .ok (.invokevirtual 128, 3) := by decide +kernel
theorem dX8_keepsFactor_210 : decode cX8_keepsFactor 210 = .ok (.aload_n 0, 1) := by decide +kernel
theorem dX8_keepsFactor_211 : decode cX8_keepsFactor 211 = .ok (.iload_n 1, 1) := by decide +kernel
theorem dX8_keepsFactor_212 : decode cX8_keepsFactor 212 = .ok (.invokevirtual 131, 3) := by decide +kernel
theorem dX8_keepsFactor_215 : decode cX8_keepsFactor 215 = .ok (.iload 8, 2) := by decide +kernel
theorem dX8_keepsFactor_217 : decode cX8_keepsFactor 217 = .ok (.aload_n 0, 1) := by decide +kernel
theorem dX8_keepsFactor_218 : decode cX8_keepsFactor 218 = .ok (.iload_n 2, 1) := by decide +kernel
theorem dX8_keepsFactor_219 : decode cX8_keepsFactor 219 = .ok (.invokevirtual 131, 3) := by decide +kernel
theorem dX8_keepsFactor_222 : decode cX8_keepsFactor 222 = .ok (.aload_n 0, 1) := by decide +kernel
theorem dX8_keepsFactor_223 : decode cX8_keepsFactor 223 = .ok (.iload_n 3, 1) := by decide +kernel
theorem dX8_keepsFactor_224 : decode cX8_keepsFactor 224 = .ok (.invokevirtual 131, 3) := by decide +kernel
theorem dX8_keepsFactor_227 : decode cX8_keepsFactor 227 = .ok (.invokestatic 155, 3) := by decide +kernel
theorem dX8_keepsFactor_230 : decode cX8_keepsFactor 230 = .ok (.lstore 11, 2) := by decide +kernel
theorem dX8_keepsFactor_232 : decode cX8_keepsFactor 232 = .ok (.lload 9, 2) := by decide +kernel
theorem dX8_keepsFactor_234 : decode cX8_keepsFactor 234 = .ok (.lload 11, 2) := by decide +kernel
theorem dX8_keepsFactor_236 : decode cX8_keepsFactor 236 = .ok (.lcmp, 1) := by decide +kernel
theorem dX8_keepsFactor_237 : decode cX8_keepsFactor 237 = .ok (.ifCond .gt 16, 3) := by decide +kernel
theorem dX8_keepsFactor_240 : decode cX8_keepsFactor 240 = .ok (.lload 9, 2) := by decide +kernel
theorem dX8_keepsFactor_242 : decode cX8_keepsFactor 242 = .ok (.lload 4, 2) := by decide +kernel
theorem dX8_keepsFactor_244 : decode cX8_keepsFactor 244 = .ok (.lcmp, 1) := by decide +kernel
theorem dX8_keepsFactor_245 : decode cX8_keepsFactor 245 = .ok (.ifCond .ge 8, 3) := by decide +kernel
theorem dX8_keepsFactor_248 : decode cX8_keepsFactor 248 = .ok (.lload 9, 2) := by decide +kernel
theorem dX8_keepsFactor_250 : decode cX8_keepsFactor 250 = .ok (.goto 5, 3) := by decide +kernel
theorem dX8_keepsFactor_253 : decode cX8_keepsFactor 253 = .ok (.lload 4, 2) := by decide +kernel
theorem dX8_keepsFactor_255 : decode cX8_keepsFactor 255 = .ok (.lstore 4, 2) := by decide +kernel
theorem dX8_keepsFactor_257 : decode cX8_keepsFactor 257 = .ok (.lload 9, 2) := by decide +kernel
theorem dX8_keepsFactor_259 : decode cX8_keepsFactor 259 = .ok (.lload 11, 2) := by decide +kernel
theorem dX8_keepsFactor_261 : decode cX8_keepsFactor 261 = .ok (.lcmp, 1) := by decide +kernel
theorem dX8_keepsFactor_262 : decode cX8_keepsFactor 262 = .ok (.ifCond .gt 16, 3) := by decide +kernel
theorem dX8_keepsFactor_265 : decode cX8_keepsFactor 265 = .ok (.lload 11, 2) := by decide +kernel
theorem dX8_keepsFactor_267 : decode cX8_keepsFactor 267 = .ok (.lload 6, 2) := by decide +kernel
theorem dX8_keepsFactor_269 : decode cX8_keepsFactor 269 = .ok (.lcmp, 1) := by decide +kernel
theorem dX8_keepsFactor_270 : decode cX8_keepsFactor 270 = .ok (.ifCond .le 8, 3) := by decide +kernel
theorem dX8_keepsFactor_273 : decode cX8_keepsFactor 273 = .ok (.lload 11, 2) := by decide +kernel
theorem dX8_keepsFactor_275 : decode cX8_keepsFactor 275 = .ok (.goto 5, 3) := by decide +kernel
theorem dX8_keepsFactor_278 : decode cX8_keepsFactor 278 = .ok (.lload 6, 2) := by decide +kernel
theorem dX8_keepsFactor_280 : decode cX8_keepsFactor 280 = .ok (.lstore 6, 2) := by decide +kernel
theorem dX8_keepsFactor_282 : decode cX8_keepsFactor 282 = .ok (.aload_n 0, 1) := by decide +kernel
theorem dX8_keepsFactor_283 : decode cX8_keepsFactor 283 = .ok (.iload_n 1, 1) := by decide +kernel
theorem dX8_keepsFactor_284 : decode cX8_keepsFactor 284 = .ok (.lload 4, 2) := by decide +kernel
theorem dX8_keepsFactor_286 : decode cX8_keepsFactor 286 = .ok (.lload 6, 2) := by decide +kernel
theorem dX8_keepsFactor_288 : decode cX8_keepsFactor 288 = .ok (.invokevirtual 158, 3) := by decide +kernel
theorem dX8_keepsFactor_291 : decode cX8_keepsFactor 291 = .ok (.return_, 1) := by decide +kernel
set_option maxRecDepth 20000 in
theorem ggX8_cutsProduct_X8_low : GoodIn wsX8_cutsProduct wsX8_low := goodIn_r _ [7, 8, 76, 77, 78, 79, 80, 81, 82, 83, 84, 85, 86, 87, 88, 89, 90, 91, 92] (by decide +kernel) (by decide +kernel)
set_option maxRecDepth 20000 in
theorem gX8_cutsProduct_X8_low : GoodIn wsX8_cutsProduct (wsV RX8 128 RX8 yX8_low wsX8_low) := goodIn_app (goodIn_of _ (by decide +kernel)) ggX8_cutsProduct_X8_low
set_option maxRecDepth 20000 in
theorem ggX8_cutsProduct_X8_high : GoodIn wsX8_cutsProduct wsX8_high := goodIn_r _ [12, 8, 76, 77, 78, 79, 80, 81, 82, 83, 84, 85, 86, 87, 88, 89, 90, 91, 92] (by decide +kernel) (by decide +kernel)
set_option maxRecDepth 20000 in
theorem gX8_cutsProduct_X8_high : GoodIn wsX8_cutsProduct (wsV RX8 131 RX8 yX8_high wsX8_high) := goodIn_app (goodIn_of _ (by decide +kernel)) ggX8_cutsProduct_X8_high
set_option maxRecDepth 20000 in
theorem ggX8_cutsProduct_X8_product : GoodIn wsX8_cutsProduct wsX8_product := goodIn_r _ [15, 16, 17, 6, 18, 19, 20, 21, 22, 23, 24, 25, 26, 27, 28, 29, 30, 31, 32, 33, 34, 35, 36, 37, 38] (by decide +kernel) (by decide +kernel)
set_option maxRecDepth 20000 in
theorem gX8_cutsProduct_X8_product : GoodIn wsX8_cutsProduct (va_wsS RX8 76 yX8_product wsX8_product) := goodIn_app (goodIn_of _ (by decide +kernel)) ggX8_cutsProduct_X8_product
set_option maxRecDepth 20000 in
theorem ggX8_cutsProduct_X8_keeps : GoodIn wsX8_cutsProduct wsX8_keeps := goodIn_r _ [42, 43, 44, 8, 3, 4, 5, 6, 7, 9, 10, 11, 12, 76, 77, 78, 79, 80, 81, 82, 83, 84, 85, 86, 87, 88, 89, 90, 91, 92] (by decide +kernel) (by decide +kernel)
set_option maxRecDepth 20000 in
theorem gX8_cutsProduct_X8_keeps : GoodIn wsX8_cutsProduct (wsV RX8 158 RX8 yX8_keeps wsX8_keeps) := goodIn_app (goodIn_of _ (by decide +kernel)) ggX8_cutsProduct_X8_keeps
set_option maxRecDepth 20000 in
theorem ggX8_cutsProduct_X8_keepsFactor : GoodIn wsX8_cutsProduct wsX8_keepsFactor := goodIn_r _ [48, 43, 49, 50, 3, 4, 5, 6, 7, 8, 9, 10, 11, 12, 51, 52, 53, 54, 55, 56, 57, 58, 59, 60, 61, 62, 63, 64, 65, 66, 16, 17, 18, 19, 20, 21, 22, 23, 24, 25, 26, 27, 28, 29, 30, 31, 32, 33, 34, 35, 36, 37, 38, 13, 14, 15, 67, 68, 69, 70, 71, 72, 73, 74, 75, 39, 40, 41, 42, 44, 76, 77, 78, 79, 80, 81, 82, 83, 84, 85, 86, 87, 88, 89, 90, 91, 92] (by decide +kernel) (by decide +kernel)
set_option maxRecDepth 20000 in
theorem gX8_cutsProduct_X8_keepsFactor : GoodIn wsX8_cutsProduct (wsV RX8 179 RX8 yX8_keepsFactor wsX8_keepsFactor) := goodIn_app (goodIn_of _ (by decide +kernel)) ggX8_cutsProduct_X8_keepsFactor
theorem dX8_cutsProduct_0 : decode cX8_cutsProduct 0 = .ok (.ldc 177, 2) := by decide +kernel
theorem dX8_cutsProduct_2 : decode cX8_cutsProduct 2 = .ok (.istore 4, 2) := by decide +kernel
theorem dX8_cutsProduct_4 : decode cX8_cutsProduct 4 = .ok (.ldc 178, 2) := by decide +kernel
theorem dX8_cutsProduct_6 : decode cX8_cutsProduct 6 = .ok (.istore 5, 2) := by decide +kernel
theorem dX8_cutsProduct_8 : decode cX8_cutsProduct 8 = .ok (.iconst 0, 1) := by decide +kernel
theorem dX8_cutsProduct_9 : decode cX8_cutsProduct 9 = .ok (.istore 6, 2) := by decide +kernel
theorem dX8_cutsProduct_11 : decode cX8_cutsProduct 11 = .ok (.iload 6, 2) := by decide +kernel
theorem dX8_cutsProduct_13 : decode cX8_cutsProduct 13 = .ok (.iconst 4, 1) := by decide +kernel
theorem dX8_cutsProduct_14 : decode cX8_cutsProduct 14 = .ok (.if_icmp .ge 85, 3) := by decide +kernel
theorem dX8_cutsProduct_17 : decode cX8_cutsProduct 17 = .ok (.iload 6, 2) := by decide +kernel
theorem dX8_cutsProduct_19 : decode cX8_cutsProduct 19 = .ok (.iconst 2, 1) := by decide +kernel
theorem dX8_cutsProduct_20 : decode cX8_cutsProduct 20 = .ok (.if_icmp .ge 11, 3) := by decide +kernel
theorem dX8_cutsProduct_23 : decode cX8_cutsProduct 23 = .ok (.aload_n 0, 1) := by decide +kernel
theorem dX8_cutsProduct_24 : decode cX8_cutsProduct 24 = .ok (.iload_n 1, 1) := by decide +kernel
theorem dX8_cutsProduct_25 : decode cX8_cutsProduct 25 = .ok (.invokevirtual 128, 3) := by decide +kernel
theorem dX8_cutsProduct_28 : decode cX8_cutsProduct 28 = .ok (.goto 8, 3) := by decide +kernel
theorem dX8_cutsProduct_31 : decode cX8_cutsProduct 31 = .ok (.aload_n 0, 1) := by decide +kernel
theorem dX8_cutsProduct_32 : decode cX8_cutsProduct 32 = .ok (.iload_n 1, 1) := by decide +kernel
theorem dX8_cutsProduct_33 : decode cX8_cutsProduct 33 = .ok (.invokevirtual 131, 3) := by decide +kernel
theorem dX8_cutsProduct_36 : decode cX8_cutsProduct 36 = .ok (.iload 6, 2) := by decide +kernel
theorem dX8_cutsProduct_38 : decode cX8_cutsProduct 38 = .ok (.iconst 2, 1) := by decide +kernel
theorem dX8_cutsProduct_39 : decode cX8_cutsProduct 39 = .ok (.irem, 1) := by decide +kernel
theorem dX8_cutsProduct_40 : decode cX8_cutsProduct 40 = .ok (.ifCond .ne 11, 3) := by decide +kernel
theorem dX8_cutsProduct_43 : decode cX8_cutsProduct 43 = .ok (.aload_n 0, 1) := by decide +kernel
theorem dX8_cutsProduct_44 : decode cX8_cutsProduct 44 = .ok (.iload_n 2, 1) := by decide +kernel
theorem dX8_cutsProduct_45 : decode cX8_cutsProduct 45 = .ok (.invokevirtual 128, 3) := by decide +kernel
theorem dX8_cutsProduct_48 : decode cX8_cutsProduct 48 = .ok (.goto 8, 3) := by decide +kernel
theorem dX8_cutsProduct_51 : decode cX8_cutsProduct 51 = .ok (.aload_n 0, 1) := by decide +kernel
theorem dX8_cutsProduct_52 : decode cX8_cutsProduct 52 = .ok (.iload_n 2, 1) := by decide +kernel
theorem dX8_cutsProduct_53 : decode cX8_cutsProduct 53 = .ok (.invokevirtual 131, 3) := by decide +kernel
theorem dX8_cutsProduct_56 : decode cX8_cutsProduct 56 = .ok (.invokestatic 76, 3) := by decide +kernel
theorem dX8_cutsProduct_59 : decode cX8_cutsProduct 59 = .ok (.istore 7, 2) := by decide +kernel
theorem dX8_cutsProduct_61 : decode cX8_cutsProduct 61 = .ok (.iload 7, 2) := by decide +kernel
theorem dX8_cutsProduct_63 : decode cX8_cutsProduct 63 = .ok (.iload 4, 2) := by decide +kernel
theorem dX8_cutsProduct_65 : decode cX8_cutsProduct 65 = .ok (.if_icmp .ge 8, 3) := by decide +kernel
theorem dX8_cutsProduct_68 : decode cX8_cutsProduct 68 = .ok (.iload 7, 2) := by decide +kernel
theorem dX8_cutsProduct_70 : decode cX8_cutsProduct 70 = .ok (.goto 5, 3) := by decide +kernel
theorem dX8_cutsProduct_73 : decode cX8_cutsProduct 73 = .ok (.iload 4, 2) := by decide +kernel
theorem dX8_cutsProduct_75 : decode cX8_cutsProduct 75 = .ok (.istore 4, 2) := by decide +kernel
theorem dX8_cutsProduct_77 : decode cX8_cutsProduct 77 = .ok (.iload 7, 2) := by decide +kernel
theorem dX8_cutsProduct_79 : decode cX8_cutsProduct 79 = .ok (.iload 5, 2) := by decide +kernel
theorem dX8_cutsProduct_81 : decode cX8_cutsProduct 81 = .ok (.if_icmp .le 8, 3) := by decide +kernel
theorem dX8_cutsProduct_84 : decode cX8_cutsProduct 84 = .ok (.iload 7, 2) := by decide +kernel
theorem dX8_cutsProduct_86 : decode cX8_cutsProduct 86 = .ok (.goto 5, 3) := by decide +kernel
theorem dX8_cutsProduct_89 : decode cX8_cutsProduct 89 = .ok (.iload 5, 2) := by decide +kernel
theorem dX8_cutsProduct_91 : decode cX8_cutsProduct 91 = .ok (.istore 5, 2) := by decide +kernel
theorem dX8_cutsProduct_93 : decode cX8_cutsProduct 93 = .ok (.iinc 6 1, 3) := by decide +kernel
theorem dX8_cutsProduct_96 : decode cX8_cutsProduct 96 = .ok (.goto (-85), 3) := by decide +kernel
theorem dX8_cutsProduct_99 : decode cX8_cutsProduct 99 = .ok (.aload_n 0, 1) := by decide +kernel
theorem dX8_cutsProduct_100 : decode cX8_cutsProduct 100 = .ok (.iload_n 3, 1) := by decide +kernel
theorem dX8_cutsProduct_101 : decode cX8_cutsProduct 101 = .ok (.iload 4, 2) := by decide +kernel
theorem dX8_cutsProduct_103 : decode cX8_cutsProduct 103 = .ok (.i2l, 1) := by decide +kernel
theorem dX8_cutsProduct_104 : decode cX8_cutsProduct 104 = .ok (.iload 5, 2) := by decide +kernel
theorem dX8_cutsProduct_106 : decode cX8_cutsProduct 106 = .ok (.i2l, 1) := by decide +kernel
theorem dX8_cutsProduct_107 : decode cX8_cutsProduct 107 = .ok (.invokevirtual 158, 3) := by decide +kernel
theorem dX8_cutsProduct_110 : decode cX8_cutsProduct 110 = .ok (.aload_n 0, 1) := by decide +kernel
theorem dX8_cutsProduct_111 : decode cX8_cutsProduct 111 = .ok (.iload_n 1, 1) := by decide +kernel
theorem dX8_cutsProduct_112 : decode cX8_cutsProduct 112 = .ok (.iload_n 2, 1) := by decide +kernel
theorem dX8_cutsProduct_113 : decode cX8_cutsProduct 113 = .ok (.iload_n 3, 1) := by decide +kernel
theorem dX8_cutsProduct_114 : decode cX8_cutsProduct 114 = .ok (.invokevirtual 179, 3) := by decide +kernel
theorem dX8_cutsProduct_117 : decode cX8_cutsProduct 117 = .ok (.aload_n 0, 1) := by decide +kernel
theorem dX8_cutsProduct_118 : decode cX8_cutsProduct 118 = .ok (.iload_n 2, 1) := by decide +kernel
theorem dX8_cutsProduct_119 : decode cX8_cutsProduct 119 = .ok (.iload_n 1, 1) := by decide +kernel
theorem dX8_cutsProduct_120 : decode cX8_cutsProduct 120 = .ok (.iload_n 3, 1) := by decide +kernel
theorem dX8_cutsProduct_121 : decode cX8_cutsProduct 121 = .ok (.invokevirtual 179, 3) := by decide +kernel
theorem dX8_cutsProduct_124 : decode cX8_cutsProduct 124 = .ok (.return_, 1) := by decide +kernel
set_option maxRecDepth 20000 in
theorem ggX8_keepsAtMost_X8_high : GoodIn wsX8_keepsAtMost wsX8_high := goodIn_r _ [7, 8, 18, 19, 20, 21, 22, 23, 24, 25, 26, 27, 28, 29, 30, 31, 32, 33, 34] (by decide +kernel) (by decide +kernel)
set_option maxRecDepth 20000 in
theorem gX8_keepsAtMost_X8_high : GoodIn wsX8_keepsAtMost (wsV RX8 131 RX8 yX8_high wsX8_high) := goodIn_app (goodIn_of _ (by decide +kernel)) ggX8_keepsAtMost_X8_high
set_option maxRecDepth 20000 in
theorem ggX8_keepsAtMost_X8_low : GoodIn wsX8_keepsAtMost wsX8_low := goodIn_r _ [12, 8, 18, 19, 20, 21, 22, 23, 24, 25, 26, 27, 28, 29, 30, 31, 32, 33, 34] (by decide +kernel) (by decide +kernel)
set_option maxRecDepth 20000 in
theorem gX8_keepsAtMost_X8_low : GoodIn wsX8_keepsAtMost (wsV RX8 128 RX8 yX8_low wsX8_low) := goodIn_app (goodIn_of _ (by decide +kernel)) ggX8_keepsAtMost_X8_low
set_option maxRecDepth 20000 in
theorem ggX8_keepsAtMost_X8_keeps : GoodIn wsX8_keepsAtMost wsX8_keeps := goodIn_r _ [16, 1, 17, 8, 9, 10, 11, 6, 12, 3, 4, 5, 7, 18, 19, 20, 21, 22, 23, 24, 25, 26, 27, 28, 29, 30, 31, 32, 33, 34] (by decide +kernel) (by decide +kernel)
set_option maxRecDepth 20000 in
theorem gX8_keepsAtMost_X8_keeps : GoodIn wsX8_keepsAtMost (wsV RX8 158 RX8 yX8_keeps wsX8_keeps) := goodIn_app (goodIn_of _ (by decide +kernel)) ggX8_keepsAtMost_X8_keeps
theorem dX8_keepsAtMost_0 : decode cX8_keepsAtMost 0 = .ok (.aload_n 0, 1) := by decide +kernel
theorem dX8_keepsAtMost_1 : decode cX8_keepsAtMost 1 = .ok (.getfield 124, 3) := by decide +kernel
theorem dX8_keepsAtMost_4 : decode cX8_keepsAtMost 4 = .ok (.ifCond .eq 4, 3) := by decide +kernel
theorem dX8_keepsAtMost_7 : decode cX8_keepsAtMost 7 = .ok (.return_, 1) := by decide +kernel
theorem dX8_keepsAtMost_8 : decode cX8_keepsAtMost 8 = .ok (.aload_n 0, 1) := by decide +kernel
theorem dX8_keepsAtMost_9 : decode cX8_keepsAtMost 9 = .ok (.iload_n 1, 1) := by decide +kernel
theorem dX8_keepsAtMost_10 : decode cX8_keepsAtMost 10 = .ok (.aload_n 0, 1) := by decide +kernel
theorem dX8_keepsAtMost_11 : decode cX8_keepsAtMost 11 = .ok (.iload_n 2, 1) := by decide +kernel
theorem dX8_keepsAtMost_12 : decode cX8_keepsAtMost 12 = .ok (.invokevirtual 131, 3) := by decide +kernel
theorem dX8_keepsAtMost_15 : decode cX8_keepsAtMost 15 = .ok (.aload_n 0, 1) := by decide +kernel
theorem dX8_keepsAtMost_16 : decode cX8_keepsAtMost 16 = .ok (.iload_n 3, 1) := by decide +kernel
theorem dX8_keepsAtMost_17 : decode cX8_keepsAtMost 17 = .ok (.invokevirtual 128, 3) := by decide +kernel
theorem dX8_keepsAtMost_20 : decode cX8_keepsAtMost 20 = .ok (.if_icmp .ge 12, 3) := by decide +kernel
theorem dX8_keepsAtMost_23 : decode cX8_keepsAtMost 23 = .ok (.aload_n 0, 1) := by decide +kernel
theorem dX8_keepsAtMost_24 : decode cX8_keepsAtMost 24 = .ok (.iload_n 3, 1) := by decide +kernel
theorem dX8_keepsAtMost_25 : decode cX8_keepsAtMost 25 = .ok (.invokevirtual 128, 3) := by decide +kernel
theorem dX8_keepsAtMost_28 : decode cX8_keepsAtMost 28 = .ok (.i2l, 1) := by decide +kernel
theorem dX8_keepsAtMost_29 : decode cX8_keepsAtMost 29 = .ok (.goto 6, 3) := by decide +kernel
theorem dX8_keepsAtMost_32 : decode cX8_keepsAtMost 32 = .ok (.ldc2_w 34, 3) := by decide +kernel
theorem dX8_keepsAtMost_35 : decode cX8_keepsAtMost 35 = .ok (.aload_n 0, 1) := by decide +kernel
theorem dX8_keepsAtMost_36 : decode cX8_keepsAtMost 36 = .ok (.iload_n 3, 1) := by decide +kernel
theorem dX8_keepsAtMost_37 : decode cX8_keepsAtMost 37 = .ok (.invokevirtual 131, 3) := by decide +kernel
theorem dX8_keepsAtMost_40 : decode cX8_keepsAtMost 40 = .ok (.i2l, 1) := by decide +kernel
theorem dX8_keepsAtMost_41 : decode cX8_keepsAtMost 41 = .ok (.invokevirtual 158, 3) := by decide +kernel
theorem dX8_keepsAtMost_44 : decode cX8_keepsAtMost 44 = .ok (.return_, 1) := by decide +kernel
set_option maxRecDepth 20000 in
theorem ggX8_cutsMost_X8_low : GoodIn wsX8_cutsMost wsX8_low := goodIn_r _ [5, 6, 22, 23, 24, 25, 26, 27, 28, 29, 30, 31, 32, 33, 34, 35, 36, 37, 38] (by decide +kernel) (by decide +kernel)
set_option maxRecDepth 20000 in
theorem gX8_cutsMost_X8_low : GoodIn wsX8_cutsMost (wsV RX8 128 RX8 yX8_low wsX8_low) := goodIn_app (goodIn_of _ (by decide +kernel)) ggX8_cutsMost_X8_low
set_option maxRecDepth 20000 in
theorem ggX8_cutsMost_X8_high : GoodIn wsX8_cutsMost wsX8_high := goodIn_r _ [10, 6, 22, 23, 24, 25, 26, 27, 28, 29, 30, 31, 32, 33, 34, 35, 36, 37, 38] (by decide +kernel) (by decide +kernel)
set_option maxRecDepth 20000 in
theorem gX8_cutsMost_X8_high : GoodIn wsX8_cutsMost (wsV RX8 131 RX8 yX8_high wsX8_high) := goodIn_app (goodIn_of _ (by decide +kernel)) ggX8_cutsMost_X8_high
set_option maxRecDepth 20000 in
theorem ggX8_cutsMost_X8_keeps : GoodIn wsX8_cutsMost wsX8_keeps := goodIn_r _ [14, 15, 16, 6, 1, 2, 3, 4, 5, 7, 8, 9, 10, 22, 23, 24, 25, 26, 27, 28, 29, 30, 31, 32, 33, 34, 35, 36, 37, 38] (by decide +kernel) (by decide +kernel)
set_option maxRecDepth 20000 in
theorem gX8_cutsMost_X8_keeps : GoodIn wsX8_cutsMost (wsV RX8 158 RX8 yX8_keeps wsX8_keeps) := goodIn_app (goodIn_of _ (by decide +kernel)) ggX8_cutsMost_X8_keeps
set_option maxRecDepth 20000 in
theorem ggX8_cutsMost_X8_keepsAtMost : GoodIn wsX8_cutsMost wsX8_keepsAtMost := goodIn_r _ [20, 15, 21, 7, 8, 9, 4, 10, 6, 1, 2, 3, 5, 11, 12, 13, 14, 16, 22, 23, 24, 25, 26, 27, 28, 29, 30, 31, 32, 33, 34, 35, 36, 37, 38] (by decide +kernel) (by decide +kernel)
set_option maxRecDepth 20000 in
theorem gX8_cutsMost_X8_keepsAtMost : GoodIn wsX8_cutsMost (wsV RX8 182 RX8 yX8_keepsAtMost wsX8_keepsAtMost) := goodIn_app (goodIn_of _ (by decide +kernel)) ggX8_cutsMost_X8_keepsAtMost
theorem dX8_cutsMost_0 : decode cX8_cutsMost 0 = .ok (.aload_n 0, 1) := by decide +kernel
theorem dX8_cutsMost_1 : decode cX8_cutsMost 1 = .ok (.iload_n 1, 1) := by decide +kernel
theorem dX8_cutsMost_2 : decode cX8_cutsMost 2 = .ok (.invokevirtual 128, 3) := by decide +kernel
theorem dX8_cutsMost_5 : decode cX8_cutsMost 5 = .ok (.aload_n 0, 1) := by decide +kernel
theorem dX8_cutsMost_6 : decode cX8_cutsMost 6 = .ok (.iload_n 2, 1) := by decide +kernel
theorem dX8_cutsMost_7 : decode cX8_cutsMost 7 = .ok (.invokevirtual 128, 3) := by decide +kernel
theorem dX8_cutsMost_10 : decode cX8_cutsMost 10 = .ok (.if_icmp .le 11, 3) := by decide +kernel
theorem dX8_cutsMost_13 : decode cX8_cutsMost 13 = .ok (.aload_n 0, 1) := by decide +kernel
theorem dX8_cutsMost_14 : decode cX8_cutsMost 14 = .ok (.iload_n 1, 1) := by decide +kernel
theorem dX8_cutsMost_15 : decode cX8_cutsMost 15 = .ok (.invokevirtual 128, 3) := by decide +kernel
theorem dX8_cutsMost_18 : decode cX8_cutsMost 18 = .ok (.goto 8, 3) := by decide +kernel
theorem dX8_cutsMost_21 : decode cX8_cutsMost 21 = .ok (.aload_n 0, 1) := by decide +kernel
theorem dX8_cutsMost_22 : decode cX8_cutsMost 22 = .ok (.iload_n 2, 1) := by decide +kernel
theorem dX8_cutsMost_23 : decode cX8_cutsMost 23 = .ok (.invokevirtual 128, 3) := by decide +kernel
theorem dX8_cutsMost_26 : decode cX8_cutsMost 26 = .ok (.istore 4, 2) := by decide +kernel
theorem dX8_cutsMost_28 : decode cX8_cutsMost 28 = .ok (.aload_n 0, 1) := by decide +kernel
theorem dX8_cutsMost_29 : decode cX8_cutsMost 29 = .ok (.iload_n 1, 1) := by decide +kernel
theorem dX8_cutsMost_30 : decode cX8_cutsMost 30 = .ok (.invokevirtual 131, 3) := by decide +kernel
theorem dX8_cutsMost_33 : decode cX8_cutsMost 33 = .ok (.aload_n 0, 1) := by decide +kernel
theorem dX8_cutsMost_34 : decode cX8_cutsMost 34 = .ok (.iload_n 2, 1) := by decide +kernel
theorem dX8_cutsMost_35 : decode cX8_cutsMost 35 = .ok (.invokevirtual 131, 3) := by decide +kernel
theorem dX8_cutsMost_38 : decode cX8_cutsMost 38 = .ok (.if_icmp .le 11, 3) := by decide +kernel
theorem dX8_cutsMost_41 : decode cX8_cutsMost 41 = .ok (.aload_n 0, 1) := by decide +kernel
theorem dX8_cutsMost_42 : decode cX8_cutsMost 42 = .ok (.iload_n 1, 1) := by decide +kernel
theorem dX8_cutsMost_43 : decode cX8_cutsMost 43 = .ok (.invokevirtual 131, 3) := by decide +kernel
theorem dX8_cutsMost_46 : decode cX8_cutsMost 46 = .ok (.goto 8, 3) := by decide +kernel
theorem dX8_cutsMost_49 : decode cX8_cutsMost 49 = .ok (.aload_n 0, 1) := by decide +kernel
theorem dX8_cutsMost_50 : decode cX8_cutsMost 50 = .ok (.iload_n 2, 1) := by decide +kernel
theorem dX8_cutsMost_51 : decode cX8_cutsMost 51 = .ok (.invokevirtual 131, 3) := by decide +kernel
theorem dX8_cutsMost_54 : decode cX8_cutsMost 54 = .ok (.istore 5, 2) := by decide +kernel
theorem dX8_cutsMost_56 : decode cX8_cutsMost 56 = .ok (.aload_n 0, 1) := by decide +kernel
theorem dX8_cutsMost_57 : decode cX8_cutsMost 57 = .ok (.iload_n 3, 1) := by decide +kernel
theorem dX8_cutsMost_58 : decode cX8_cutsMost 58 = .ok (.iload 4, 2) := by decide +kernel
theorem dX8_cutsMost_60 : decode cX8_cutsMost 60 = .ok (.i2l, 1) := by decide +kernel
theorem dX8_cutsMost_61 : decode cX8_cutsMost 61 = .ok (.iload 5, 2) := by decide +kernel
theorem dX8_cutsMost_63 : decode cX8_cutsMost 63 = .ok (.i2l, 1) := by decide +kernel
theorem dX8_cutsMost_64 : decode cX8_cutsMost 64 = .ok (.invokevirtual 158, 3) := by decide +kernel
theorem dX8_cutsMost_67 : decode cX8_cutsMost 67 = .ok (.aload_n 0, 1) := by decide +kernel
theorem dX8_cutsMost_68 : decode cX8_cutsMost 68 = .ok (.iload_n 1, 1) := by decide +kernel
theorem dX8_cutsMost_69 : decode cX8_cutsMost 69 = .ok (.iload_n 2, 1) := by decide +kernel
theorem dX8_cutsMost_70 : decode cX8_cutsMost 70 = .ok (.iload_n 3, 1) := by decide +kernel
theorem dX8_cutsMost_71 : decode cX8_cutsMost 71 = .ok (.invokevirtual 182, 3) := by decide +kernel
theorem dX8_cutsMost_74 : decode cX8_cutsMost 74 = .ok (.aload_n 0, 1) := by decide +kernel
theorem dX8_cutsMost_75 : decode cX8_cutsMost 75 = .ok (.iload_n 2, 1) := by decide +kernel
theorem dX8_cutsMost_76 : decode cX8_cutsMost 76 = .ok (.iload_n 1, 1) := by decide +kernel
theorem dX8_cutsMost_77 : decode cX8_cutsMost 77 = .ok (.iload_n 3, 1) := by decide +kernel
theorem dX8_cutsMost_78 : decode cX8_cutsMost 78 = .ok (.invokevirtual 182, 3) := by decide +kernel
theorem dX8_cutsMost_81 : decode cX8_cutsMost 81 = .ok (.return_, 1) := by decide +kernel
theorem dX8_isZero_0 : decode cX8_isZero 0 = .ok (.iload_n 0, 1) := by decide +kernel
theorem dX8_isZero_1 : decode cX8_isZero 1 = .ok (.iconst (-1), 1) := by decide +kernel
theorem dX8_isZero_2 : decode cX8_isZero 2 = .ok (.if_icmp .eq 7, 3) := by decide +kernel
theorem dX8_isZero_5 : decode cX8_isZero 5 = .ok (.iload_n 0, 1) := by decide +kernel
theorem dX8_isZero_6 : decode cX8_isZero 6 = .ok (.ifCond .ne 7, 3) := by decide +kernel
theorem dX8_isZero_9 : decode cX8_isZero 9 = .ok (.iconst 1, 1) := by decide +kernel
theorem dX8_isZero_10 : decode cX8_isZero 10 = .ok (.goto 4, 3) := by decide +kernel
theorem dX8_isZero_13 : decode cX8_isZero 13 = .ok (.iconst 0, 1) := by decide +kernel
theorem dX8_isZero_14 : decode cX8_isZero 14 = .ok (.ireturn, 1) := by decide +kernel
set_option maxRecDepth 20000 in
theorem ggX8_cutsLess_X8_high : GoodIn wsX8_cutsLess wsX8_high := goodIn_r _ [9, 10, 23, 24, 25, 26, 27, 28, 29, 30, 31, 32, 33, 34, 35, 36, 37, 38, 39] (by decide +kernel) (by decide +kernel)
set_option maxRecDepth 20000 in
theorem gX8_cutsLess_X8_high : GoodIn wsX8_cutsLess (wsV RX8 131 RX8 yX8_high wsX8_high) := goodIn_app (goodIn_of _ (by decide +kernel)) ggX8_cutsLess_X8_high
set_option maxRecDepth 20000 in
theorem ggX8_cutsLess_X8_isZero : GoodIn wsX8_cutsLess wsX8_isZero := goodIn_r _ [13] (by decide +kernel) (by decide +kernel)
set_option maxRecDepth 20000 in
theorem gX8_cutsLess_X8_isZero : GoodIn wsX8_cutsLess (va_wsS RX8 185 yX8_isZero wsX8_isZero) := goodIn_app (goodIn_of _ (by decide +kernel)) ggX8_cutsLess_X8_isZero
set_option maxRecDepth 20000 in
theorem ggX8_cutsLess_X8_keeps : GoodIn wsX8_cutsLess wsX8_keeps := goodIn_r _ [17, 3, 18, 10, 19, 20, 21, 8, 22, 5, 6, 7, 9, 23, 24, 25, 26, 27, 28, 29, 30, 31, 32, 33, 34, 35, 36, 37, 38, 39] (by decide +kernel) (by decide +kernel)
set_option maxRecDepth 20000 in
theorem gX8_cutsLess_X8_keeps : GoodIn wsX8_cutsLess (wsV RX8 158 RX8 yX8_keeps wsX8_keeps) := goodIn_app (goodIn_of _ (by decide +kernel)) ggX8_cutsLess_X8_keeps
set_option maxRecDepth 20000 in
theorem ggX8_cutsLess_X8_low : GoodIn wsX8_cutsLess wsX8_low := goodIn_r _ [22, 10, 23, 24, 25, 26, 27, 28, 29, 30, 31, 32, 33, 34, 35, 36, 37, 38, 39] (by decide +kernel) (by decide +kernel)
set_option maxRecDepth 20000 in
theorem gX8_cutsLess_X8_low : GoodIn wsX8_cutsLess (wsV RX8 128 RX8 yX8_low wsX8_low) := goodIn_app (goodIn_of _ (by decide +kernel)) ggX8_cutsLess_X8_low
theorem dX8_cutsLess_0 : decode cX8_cutsLess 0 = .ok (.aload_n 0, 1) := by decide +kernel
theorem dX8_cutsLess_1 : decode cX8_cutsLess 1 = .ok (.iload_n 2, 1) := by decide +kernel
theorem dX8_cutsLess_2 : decode cX8_cutsLess 2 = .ok (.invokevirtual 131, 3) := by decide +kernel
theorem dX8_cutsLess_5 : decode cX8_cutsLess 5 = .ok (.istore_n 3, 1) := by decide +kernel
theorem dX8_cutsLess_6 : decode cX8_cutsLess 6 = .ok (.aload_n 0, 1) := by decide +kernel
theorem dX8_cutsLess_7 : decode cX8_cutsLess 7 = .ok (.iload_n 1, 1) := by decide +kernel
theorem dX8_cutsLess_8 : decode cX8_cutsLess 8 = .ok (.ldc2_w 34, 3) := by decide +kernel
theorem dX8_cutsLess_11 : decode cX8_cutsLess 11 = .ok (.iload_n 3, 1) := by decide +kernel
theorem dX8_cutsLess_12 : decode cX8_cutsLess 12 = .ok (.invokestatic 185, 3) := by decide +kernel
theorem dX8_cutsLess_15 : decode cX8_cutsLess 15 = .ok (.ifCond .eq 9, 3) := by decide +kernel
theorem dX8_cutsLess_18 : decode cX8_cutsLess 18 = .ok (.ldc2_w 188, 3) := by decide +kernel
theorem dX8_cutsLess_21 : decode cX8_cutsLess 21 = .ok (.goto 7, 3) := by decide +kernel
theorem dX8_cutsLess_24 : decode cX8_cutsLess 24 = .ok (.iload_n 3, 1) := by decide +kernel
theorem dX8_cutsLess_25 : decode cX8_cutsLess 25 = .ok (.i2l, 1) := by decide +kernel
theorem dX8_cutsLess_26 : decode cX8_cutsLess 26 = .ok (.lconst 1, 1) := by decide +kernel
theorem dX8_cutsLess_27 : decode cX8_cutsLess 27 = .ok (.lsub, 1) := by decide +kernel
theorem dX8_cutsLess_28 : decode cX8_cutsLess 28 = .ok (.invokevirtual 158, 3) := by decide +kernel
theorem dX8_cutsLess_31 : decode cX8_cutsLess 31 = .ok (.aload_n 0, 1) := by decide +kernel
theorem dX8_cutsLess_32 : decode cX8_cutsLess 32 = .ok (.getfield 124, 3) := by decide +kernel
theorem dX8_cutsLess_35 : decode cX8_cutsLess 35 = .ok (.ifCond .ne 35, 3) := by decide +kernel
theorem dX8_cutsLess_38 : decode cX8_cutsLess 38 = .ok (.aload_n 0, 1) := by decide +kernel
theorem dX8_cutsLess_39 : decode cX8_cutsLess 39 = .ok (.iload_n 1, 1) := by decide +kernel
theorem dX8_cutsLess_40 : decode cX8_cutsLess 40 = .ok (.invokevirtual 128, 3) := by decide +kernel
theorem dX8_cutsLess_43 : decode cX8_cutsLess 43 = .ok (.istore 4, 2) := by decide +kernel
theorem dX8_cutsLess_45 : decode cX8_cutsLess 45 = .ok (.aload_n 0, 1) := by decide +kernel
theorem dX8_cutsLess_46 : decode cX8_cutsLess 46 = .ok (.iload_n 2, 1) := by decide +kernel
theorem dX8_cutsLess_47 : decode cX8_cutsLess 47 = .ok (.iload 4, 2) := by decide +kernel
theorem dX8_cutsLess_49 : decode cX8_cutsLess 49 = .ok (.invokestatic 185, 3) := by decide +kernel
theorem dX8_cutsLess_52 : decode cX8_cutsLess 52 = .ok (.ifCond .eq 7, 3) := by decide +kernel
theorem dX8_cutsLess_55 : decode cX8_cutsLess 55 = .ok (.lconst 1, 1) := by decide +kernel
theorem dX8_cutsLess_56 : decode cX8_cutsLess 56 = .ok (.goto 8, 3) := by decide +kernel
theorem dX8_cutsLess_59 : decode cX8_cutsLess 59 = .ok (.iload 4, 2) := by decide +kernel
theorem dX8_cutsLess_61 : decode cX8_cutsLess 61 = .ok (.i2l, 1) := by decide +kernel
theorem dX8_cutsLess_62 : decode cX8_cutsLess 62 = .ok (.lconst 1, 1) := by decide +kernel
theorem dX8_cutsLess_63 : decode cX8_cutsLess 63 = .ok (.ladd, 1) := by decide +kernel
theorem dX8_cutsLess_64 : decode cX8_cutsLess 64 = .ok (.ldc2_w 36, 3) := by decide +kernel
theorem dX8_cutsLess_67 : decode cX8_cutsLess 67 = .ok (.invokevirtual 158, 3) := by decide +kernel
theorem dX8_cutsLess_70 : decode cX8_cutsLess 70 = .ok (.return_, 1) := by decide +kernel
set_option maxRecDepth 20000 in
theorem ggX8_keepsSame_X8_low : GoodIn wsX8_keepsSame wsX8_low := goodIn_r _ [7, 8, 18, 19, 20, 21, 22, 23, 24, 25, 26, 27, 28, 29, 30, 31, 32, 33, 34] (by decide +kernel) (by decide +kernel)
set_option maxRecDepth 20000 in
theorem gX8_keepsSame_X8_low : GoodIn wsX8_keepsSame (wsV RX8 128 RX8 yX8_low wsX8_low) := goodIn_app (goodIn_of _ (by decide +kernel)) ggX8_keepsSame_X8_low
set_option maxRecDepth 20000 in
theorem ggX8_keepsSame_X8_high : GoodIn wsX8_keepsSame wsX8_high := goodIn_r _ [12, 8, 18, 19, 20, 21, 22, 23, 24, 25, 26, 27, 28, 29, 30, 31, 32, 33, 34] (by decide +kernel) (by decide +kernel)
set_option maxRecDepth 20000 in
theorem gX8_keepsSame_X8_high : GoodIn wsX8_keepsSame (wsV RX8 131 RX8 yX8_high wsX8_high) := goodIn_app (goodIn_of _ (by decide +kernel)) ggX8_keepsSame_X8_high
set_option maxRecDepth 20000 in
theorem ggX8_keepsSame_X8_keeps : GoodIn wsX8_keepsSame wsX8_keeps := goodIn_r _ [16, 1, 17, 8, 3, 4, 5, 6, 7, 9, 10, 11, 12, 18, 19, 20, 21, 22, 23, 24, 25, 26, 27, 28, 29, 30, 31, 32, 33, 34] (by decide +kernel) (by decide +kernel)
set_option maxRecDepth 20000 in
theorem gX8_keepsSame_X8_keeps : GoodIn wsX8_keepsSame (wsV RX8 158 RX8 yX8_keeps wsX8_keeps) := goodIn_app (goodIn_of _ (by decide +kernel)) ggX8_keepsSame_X8_keeps
theorem dX8_keepsSame_0 : decode cX8_keepsSame 0 = .ok (.aload_n 0, 1) := by decide +kernel
theorem dX8_keepsSame_1 : decode cX8_keepsSame 1 = .ok (.getfield 124, 3) := by decide +kernel
theorem dX8_keepsSame_4 : decode cX8_keepsSame 4 = .ok (.ifCond .eq 4, 3) := by decide +kernel
theorem dX8_keepsSame_7 : decode cX8_keepsSame 7 = .ok (.return_, 1) := by decide +kernel
theorem dX8_keepsSame_8 : decode cX8_keepsSame 8 = .ok (.aload_n 0, 1) := by decide +kernel
theorem dX8_keepsSame_9 : decode cX8_keepsSame 9 = .ok (.iload_n 2, 1) := by decide +kernel
theorem dX8_keepsSame_10 : decode cX8_keepsSame 10 = .ok (.invokevirtual 128, 3) := by decide +kernel
theorem dX8_keepsSame_13 : decode cX8_keepsSame 13 = .ok (.istore_n 3, 1) := by decide +kernel
theorem dX8_keepsSame_14 : decode cX8_keepsSame 14 = .ok (.aload_n 0, 1) := by decide +kernel
theorem dX8_keepsSame_15 : decode cX8_keepsSame 15 = .ok (.iload_n 2, 1) := by decide +kernel
theorem dX8_keepsSame_16 : decode cX8_keepsSame 16 = .ok (.invokevirtual 131, 3) := by decide +kernel
theorem dX8_keepsSame_19 : decode cX8_keepsSame 19 = .ok (.istore 4, 2) := by decide +kernel
theorem dX8_keepsSame_21 : decode cX8_keepsSame 21 = .ok (.aload_n 0, 1) := by decide +kernel
theorem dX8_keepsSame_22 : decode cX8_keepsSame 22 = .ok (.iload_n 1, 1) := by decide +kernel
theorem dX8_keepsSame_23 : decode cX8_keepsSame 23 = .ok (.iload_n 3, 1) := by decide +kernel
theorem dX8_keepsSame_24 : decode cX8_keepsSame 24 = .ok (.ifCond .ne 9, 3) := by decide +kernel
theorem dX8_keepsSame_27 : decode cX8_keepsSame 27 = .ok (.ldc2_w 190, 3) := by decide +kernel
theorem dX8_keepsSame_30 : decode cX8_keepsSame 30 = .ok (.goto 5, 3) := by decide +kernel
theorem dX8_keepsSame_33 : decode cX8_keepsSame 33 = .ok (.iload_n 3, 1) := by decide +kernel
theorem dX8_keepsSame_34 : decode cX8_keepsSame 34 = .ok (.i2l, 1) := by decide +kernel
theorem dX8_keepsSame_35 : decode cX8_keepsSame 35 = .ok (.iload 4, 2) := by decide +kernel
theorem dX8_keepsSame_37 : decode cX8_keepsSame 37 = .ok (.iconst (-1), 1) := by decide +kernel
theorem dX8_keepsSame_38 : decode cX8_keepsSame 38 = .ok (.if_icmp .ne 7, 3) := by decide +kernel
theorem dX8_keepsSame_41 : decode cX8_keepsSame 41 = .ok (.lconst 0, 1) := by decide +kernel
theorem dX8_keepsSame_42 : decode cX8_keepsSame 42 = .ok (.goto 6, 3) := by decide +kernel
theorem dX8_keepsSame_45 : decode cX8_keepsSame 45 = .ok (.iload 4, 2) := by decide +kernel
theorem dX8_keepsSame_47 : decode cX8_keepsSame 47 = .ok (.i2l, 1) := by decide +kernel
theorem dX8_keepsSame_48 : decode cX8_keepsSame 48 = .ok (.invokevirtual 158, 3) := by decide +kernel
theorem dX8_keepsSame_51 : decode cX8_keepsSame 51 = .ok (.return_, 1) := by decide +kernel
set_option maxRecDepth 20000 in
theorem ggX8_keepsTurned_X8_high : GoodIn wsX8_keepsTurned wsX8_high := goodIn_r _ [7, 8, 18, 19, 20, 21, 22, 23, 24, 25, 26, 27, 28, 29, 30, 31, 32, 33, 34] (by decide +kernel) (by decide +kernel)
set_option maxRecDepth 20000 in
theorem gX8_keepsTurned_X8_high : GoodIn wsX8_keepsTurned (wsV RX8 131 RX8 yX8_high wsX8_high) := goodIn_app (goodIn_of _ (by decide +kernel)) ggX8_keepsTurned_X8_high
set_option maxRecDepth 20000 in
theorem ggX8_keepsTurned_X8_low : GoodIn wsX8_keepsTurned wsX8_low := goodIn_r _ [12, 8, 18, 19, 20, 21, 22, 23, 24, 25, 26, 27, 28, 29, 30, 31, 32, 33, 34] (by decide +kernel) (by decide +kernel)
set_option maxRecDepth 20000 in
theorem gX8_keepsTurned_X8_low : GoodIn wsX8_keepsTurned (wsV RX8 128 RX8 yX8_low wsX8_low) := goodIn_app (goodIn_of _ (by decide +kernel)) ggX8_keepsTurned_X8_low
set_option maxRecDepth 20000 in
theorem ggX8_keepsTurned_X8_keeps : GoodIn wsX8_keepsTurned wsX8_keeps := goodIn_r _ [16, 1, 17, 8, 9, 10, 11, 6, 12, 3, 4, 5, 7, 18, 19, 20, 21, 22, 23, 24, 25, 26, 27, 28, 29, 30, 31, 32, 33, 34] (by decide +kernel) (by decide +kernel)
set_option maxRecDepth 20000 in
theorem gX8_keepsTurned_X8_keeps : GoodIn wsX8_keepsTurned (wsV RX8 158 RX8 yX8_keeps wsX8_keeps) := goodIn_app (goodIn_of _ (by decide +kernel)) ggX8_keepsTurned_X8_keeps
theorem dX8_keepsTurned_0 : decode cX8_keepsTurned 0 = .ok (.aload_n 0, 1) := by decide +kernel
theorem dX8_keepsTurned_1 : decode cX8_keepsTurned 1 = .ok (.getfield 124, 3) := by decide +kernel
theorem dX8_keepsTurned_4 : decode cX8_keepsTurned 4 = .ok (.ifCond .eq 4, 3) := by decide +kernel
theorem dX8_keepsTurned_7 : decode cX8_keepsTurned 7 = .ok (.return_, 1) := by decide +kernel
theorem dX8_keepsTurned_8 : decode cX8_keepsTurned 8 = .ok (.aload_n 0, 1) := by decide +kernel
theorem dX8_keepsTurned_9 : decode cX8_keepsTurned 9 = .ok (.iload_n 1, 1) := by decide +kernel
theorem dX8_keepsTurned_10 : decode cX8_keepsTurned 10 = .ok (.ldc2_w 190, 3) := by decide +kernel
theorem dX8_keepsTurned_13 : decode cX8_keepsTurned 13 = .ok (.aload_n 0, 1) := by decide +kernel
theorem dX8_keepsTurned_14 : decode cX8_keepsTurned 14 = .ok (.iload_n 2, 1) := by decide +kernel
theorem dX8_keepsTurned_15 : decode cX8_keepsTurned 15 = .ok (.invokevirtual 131, 3) := by decide +kernel
theorem dX8_keepsTurned_18 : decode cX8_keepsTurned 18 = .ok (.i2l, 1) := by decide +kernel
theorem dX8_keepsTurned_19 : decode cX8_keepsTurned 19 = .ok (.lsub, 1) := by decide +kernel
theorem dX8_keepsTurned_20 : decode cX8_keepsTurned 20 = .ok (.ldc2_w 190, 3) := by decide +kernel
theorem dX8_keepsTurned_23 : decode cX8_keepsTurned 23 = .ok (.aload_n 0, 1) := by decide +kernel
theorem dX8_keepsTurned_24 : decode cX8_keepsTurned 24 = .ok (.iload_n 2, 1) := by decide +kernel
theorem dX8_keepsTurned_25 : decode cX8_keepsTurned 25 = .ok (.invokevirtual 128, 3) := by decide +kernel
theorem dX8_keepsTurned_28 : decode cX8_keepsTurned 28 = .ok (.i2l, 1) := by decide +kernel
theorem dX8_keepsTurned_29 : decode cX8_keepsTurned 29 = .ok (.lsub, 1) := by decide +kernel
theorem dX8_keepsTurned_30 : decode cX8_keepsTurned 30 = .ok (.invokevirtual 158, 3) := by decide +kernel
theorem dX8_keepsTurned_33 : decode cX8_keepsTurned 33 = .ok (.return_, 1) := by decide +kernel
set_option maxRecDepth 20000 in
theorem ggX8_cutsBy_X8_ruleAt : GoodIn wsX8_cutsBy wsX8_ruleAt := goodIn_r _ [5, 6, 120, 121, 122, 123, 124, 125, 126, 127, 128, 129, 130, 131, 132, 133, 134, 135, 136] (by decide +kernel) (by decide +kernel)
set_option maxRecDepth 20000 in
theorem gX8_cutsBy_X8_ruleAt : GoodIn wsX8_cutsBy (wsV RX8 100 RX8 yX8_ruleAt wsX8_ruleAt) := goodIn_app (goodIn_of _ (by decide +kernel)) ggX8_cutsBy_X8_ruleAt
set_option maxRecDepth 20000 in
theorem ggX8_cutsBy_X8_cutsSum : GoodIn wsX8_cutsBy wsX8_cutsSum := goodIn_r _ [10, 11, 12, 13, 4, 14, 15, 16, 17, 18, 19, 20, 21, 22, 23, 24, 25, 26, 27, 28, 29, 30, 31, 32, 33, 34, 35, 36, 37, 38, 39, 40, 41, 42, 43, 44, 45, 46, 47, 48, 49, 50, 51, 52, 53, 54, 55, 56, 57, 58, 59, 60, 61, 62, 63, 64, 65, 66, 67, 68, 69, 70, 71, 72, 73, 74, 120, 121, 122, 123, 124, 125, 126, 127, 128, 129, 130, 131, 132, 133, 134, 135, 136] (by decide +kernel) (by decide +kernel)
set_option maxRecDepth 20000 in
theorem gX8_cutsBy_X8_cutsSum : GoodIn wsX8_cutsBy (wsV RX8 192 RX8 yX8_cutsSum wsX8_cutsSum) := goodIn_app (goodIn_of _ (by decide +kernel)) ggX8_cutsBy_X8_cutsSum
set_option maxRecDepth 20000 in
theorem ggX8_cutsBy_X8_cutsProduct : GoodIn wsX8_cutsBy wsX8_cutsProduct := goodIn_r _ [78, 79, 80, 11, 12, 13, 4, 14, 15, 42, 43, 44, 45, 69, 70, 71, 19, 20, 21, 22, 23, 24, 25, 26, 27, 28, 29, 30, 31, 32, 33, 34, 35, 36, 37, 38, 39, 40, 41, 46, 47, 48, 49, 50, 51, 81, 82, 83, 84, 85, 86, 87, 88, 89, 59, 60, 61, 62, 63, 64, 65, 66, 67, 68, 16, 17, 18, 90, 91, 92, 56, 57, 58, 72, 73, 74, 120, 121, 122, 123, 124, 125, 126, 127, 128, 129, 130, 131, 132, 133, 134, 135, 136] (by decide +kernel) (by decide +kernel)
set_option maxRecDepth 20000 in
theorem gX8_cutsBy_X8_cutsProduct : GoodIn wsX8_cutsBy (wsV RX8 195 RX8 yX8_cutsProduct wsX8_cutsProduct) := goodIn_app (goodIn_of _ (by decide +kernel)) ggX8_cutsBy_X8_cutsProduct
set_option maxRecDepth 20000 in
theorem ggX8_cutsBy_X8_cutsMost : GoodIn wsX8_cutsBy wsX8_cutsMost := goodIn_r _ [96, 11, 12, 13, 4, 14, 15, 42, 43, 44, 45, 46, 47, 48, 49, 50, 51, 97, 98, 99, 100, 101, 120, 121, 122, 123, 124, 125, 126, 127, 128, 129, 130, 131, 132, 133, 134, 135, 136] (by decide +kernel) (by decide +kernel)
set_option maxRecDepth 20000 in
theorem gX8_cutsBy_X8_cutsMost : GoodIn wsX8_cutsBy (wsV RX8 198 RX8 yX8_cutsMost wsX8_cutsMost) := goodIn_app (goodIn_of _ (by decide +kernel)) ggX8_cutsBy_X8_cutsMost
set_option maxRecDepth 20000 in
theorem ggX8_cutsBy_X8_cutsLess : GoodIn wsX8_cutsBy wsX8_cutsLess := goodIn_r _ [105, 101, 106, 50, 107, 42, 43, 44, 4, 45, 15, 108, 109, 110, 46, 47, 48, 49, 51, 11, 12, 13, 14, 120, 121, 122, 123, 124, 125, 126, 127, 128, 129, 130, 131, 132, 133, 134, 135, 136] (by decide +kernel) (by decide +kernel)
set_option maxRecDepth 20000 in
theorem gX8_cutsBy_X8_cutsLess : GoodIn wsX8_cutsBy (wsV RX8 201 RX8 yX8_cutsLess wsX8_cutsLess) := goodIn_app (goodIn_of _ (by decide +kernel)) ggX8_cutsBy_X8_cutsLess
set_option maxRecDepth 20000 in
theorem ggX8_cutsBy_X8_keepsSame : GoodIn wsX8_cutsBy wsX8_keepsSame := goodIn_r _ [114, 50, 115, 11, 12, 13, 4, 14, 15, 42, 43, 44, 45, 46, 47, 48, 49, 51, 120, 121, 122, 123, 124, 125, 126, 127, 128, 129, 130, 131, 132, 133, 134, 135, 136] (by decide +kernel) (by decide +kernel)
set_option maxRecDepth 20000 in
theorem gX8_cutsBy_X8_keepsSame : GoodIn wsX8_cutsBy (wsV RX8 205 RX8 yX8_keepsSame wsX8_keepsSame) := goodIn_app (goodIn_of _ (by decide +kernel)) ggX8_cutsBy_X8_keepsSame
set_option maxRecDepth 20000 in
theorem ggX8_cutsBy_X8_keepsTurned : GoodIn wsX8_cutsBy wsX8_keepsTurned := goodIn_r _ [119, 50, 115, 42, 43, 44, 4, 45, 15, 11, 12, 13, 14, 46, 47, 48, 49, 51, 120, 121, 122, 123, 124, 125, 126, 127, 128, 129, 130, 131, 132, 133, 134, 135, 136] (by decide +kernel) (by decide +kernel)
set_option maxRecDepth 20000 in
theorem gX8_cutsBy_X8_keepsTurned : GoodIn wsX8_cutsBy (wsV RX8 208 RX8 yX8_keepsTurned wsX8_keepsTurned) := goodIn_app (goodIn_of _ (by decide +kernel)) ggX8_cutsBy_X8_keepsTurned
theorem dX8_cutsBy_0 : decode cX8_cutsBy 0 = .ok (.aload_n 0, 1) := by decide +kernel
theorem dX8_cutsBy_1 : decode cX8_cutsBy 1 = .ok (.iload_n 1, 1) := by decide +kernel
theorem dX8_cutsBy_2 : decode cX8_cutsBy 2 = .ok (.iconst 1, 1) := by decide +kernel
theorem dX8_cutsBy_3 : decode cX8_cutsBy 3 = .ok (.invokevirtual 100, 3) := by decide +kernel
theorem dX8_cutsBy_6 : decode cX8_cutsBy 6 = .ok (.istore_n 2, 1) := by decide +kernel
theorem dX8_cutsBy_7 : decode cX8_cutsBy 7 = .ok (.aload_n 0, 1) := by decide +kernel
theorem dX8_cutsBy_8 : decode cX8_cutsBy 8 = .ok (.iload_n 1, 1) := by decide +kernel
theorem dX8_cutsBy_9 : decode cX8_cutsBy 9 = .ok (.iconst 2, 1) := by decide +kernel

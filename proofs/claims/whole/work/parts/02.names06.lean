theorem dX8_cutsBy_10 : decode cX8_cutsBy 10 = .ok (.invokevirtual 100, 3) := by decide +kernel
theorem dX8_cutsBy_13 : decode cX8_cutsBy 13 = .ok (.istore_n 3, 1) := by decide +kernel
theorem dX8_cutsBy_14 : decode cX8_cutsBy 14 = .ok (.aload_n 0, 1) := by decide +kernel
theorem dX8_cutsBy_15 : decode cX8_cutsBy 15 = .ok (.iload_n 1, 1) := by decide +kernel
theorem dX8_cutsBy_16 : decode cX8_cutsBy 16 = .ok (.iconst 3, 1) := by decide +kernel
theorem dX8_cutsBy_17 : decode cX8_cutsBy 17 = .ok (.invokevirtual 100, 3) := by decide +kernel
theorem dX8_cutsBy_20 : decode cX8_cutsBy 20 = .ok (.istore 4, 2) := by decide +kernel
theorem dX8_cutsBy_22 : decode cX8_cutsBy 22 = .ok (.aload_n 0, 1) := by decide +kernel
theorem dX8_cutsBy_23 : decode cX8_cutsBy 23 = .ok (.iload_n 1, 1) := by decide +kernel
theorem dX8_cutsBy_24 : decode cX8_cutsBy 24 = .ok (.iconst 0, 1) := by decide +kernel
theorem dX8_cutsBy_25 : decode cX8_cutsBy 25 = .ok (.invokevirtual 100, 3) := by decide +kernel
theorem dX8_cutsBy_28 : decode cX8_cutsBy 28 = .ok (.tableswitch 93 0 4 #[36, 47, 58, 69, 78], 36) := by decide +kernel
theorem dX8_cutsBy_64 : decode cX8_cutsBy 64 = .ok (.aload_n 0, 1) := by decide +kernel
theorem dX8_cutsBy_65 : decode cX8_cutsBy 65 = .ok (.iload_n 2, 1) := by decide +kernel
theorem dX8_cutsBy_66 : decode cX8_cutsBy 66 = .ok (.iload_n 3, 1) := by decide +kernel
theorem dX8_cutsBy_67 : decode cX8_cutsBy 67 = .ok (.iload 4, 2) := by decide +kernel
theorem dX8_cutsBy_69 : decode cX8_cutsBy 69 = .ok (.invokevirtual 192, 3) := by decide +kernel
theorem dX8_cutsBy_72 : decode cX8_cutsBy 72 = .ok (.goto 61, 3) := by decide +kernel
theorem dX8_cutsBy_75 : decode cX8_cutsBy 75 = .ok (.aload_n 0, 1) := by decide +kernel
theorem dX8_cutsBy_76 : decode cX8_cutsBy 76 = .ok (.iload_n 2, 1) := by decide +kernel
theorem dX8_cutsBy_77 : decode cX8_cutsBy 77 = .ok (.iload_n 3, 1) := by decide +kernel
theorem dX8_cutsBy_78 : decode cX8_cutsBy 78 = .ok (.iload 4, 2) := by decide +kernel
theorem dX8_cutsBy_80 : decode cX8_cutsBy 80 = .ok (.invokevirtual 195, 3) := by decide +kernel
theorem dX8_cutsBy_83 : decode cX8_cutsBy 83 = .ok (.goto 50, 3) := by decide +kernel
theorem dX8_cutsBy_86 : decode cX8_cutsBy 86 = .ok (.aload_n 0, 1) := by decide +kernel
theorem dX8_cutsBy_87 : decode cX8_cutsBy 87 = .ok (.iload_n 2, 1) := by decide +kernel
theorem dX8_cutsBy_88 : decode cX8_cutsBy 88 = .ok (.iload_n 3, 1) := by decide +kernel
theorem dX8_cutsBy_89 : decode cX8_cutsBy 89 = .ok (.iload 4, 2) := by decide +kernel
theorem dX8_cutsBy_91 : decode cX8_cutsBy 91 = .ok (.invokevirtual 198, 3) := by decide +kernel
theorem dX8_cutsBy_94 : decode cX8_cutsBy 94 = .ok (.goto 39, 3) := by decide +kernel
theorem dX8_cutsBy_97 : decode cX8_cutsBy 97 = .ok (.aload_n 0, 1) := by decide +kernel
theorem dX8_cutsBy_98 : decode cX8_cutsBy 98 = .ok (.iload_n 2, 1) := by decide +kernel
theorem dX8_cutsBy_99 : decode cX8_cutsBy 99 = .ok (.iload_n 3, 1) := by decide +kernel
theorem dX8_cutsBy_100 : decode cX8_cutsBy 100 = .ok (.invokevirtual 201, 3) := by decide +kernel
theorem dX8_cutsBy_103 : decode cX8_cutsBy 103 = .ok (.goto 30, 3) := by decide +kernel
theorem dX8_cutsBy_106 : decode cX8_cutsBy 106 = .ok (.aload_n 0, 1) := by decide +kernel
theorem dX8_cutsBy_107 : decode cX8_cutsBy 107 = .ok (.iload_n 2, 1) := by decide +kernel
theorem dX8_cutsBy_108 : decode cX8_cutsBy 108 = .ok (.iload_n 3, 1) := by decide +kernel
theorem dX8_cutsBy_109 : decode cX8_cutsBy 109 = .ok (.invokevirtual 205, 3) := by decide +kernel
theorem dX8_cutsBy_112 : decode cX8_cutsBy 112 = .ok (.aload_n 0, 1) := by decide +kernel
theorem dX8_cutsBy_113 : decode cX8_cutsBy 113 = .ok (.iload_n 3, 1) := by decide +kernel
theorem dX8_cutsBy_114 : decode cX8_cutsBy 114 = .ok (.iload_n 2, 1) := by decide +kernel
theorem dX8_cutsBy_115 : decode cX8_cutsBy 115 = .ok (.invokevirtual 205, 3) := by decide +kernel
theorem dX8_cutsBy_118 : decode cX8_cutsBy 118 = .ok (.goto 15, 3) := by decide +kernel
theorem dX8_cutsBy_121 : decode cX8_cutsBy 121 = .ok (.aload_n 0, 1) := by decide +kernel
theorem dX8_cutsBy_122 : decode cX8_cutsBy 122 = .ok (.iload_n 3, 1) := by decide +kernel
theorem dX8_cutsBy_123 : decode cX8_cutsBy 123 = .ok (.iload_n 2, 1) := by decide +kernel
theorem dX8_cutsBy_124 : decode cX8_cutsBy 124 = .ok (.invokevirtual 208, 3) := by decide +kernel
theorem dX8_cutsBy_127 : decode cX8_cutsBy 127 = .ok (.aload_n 0, 1) := by decide +kernel
theorem dX8_cutsBy_128 : decode cX8_cutsBy 128 = .ok (.iload_n 2, 1) := by decide +kernel
theorem dX8_cutsBy_129 : decode cX8_cutsBy 129 = .ok (.iload_n 3, 1) := by decide +kernel
theorem dX8_cutsBy_130 : decode cX8_cutsBy 130 = .ok (.invokevirtual 208, 3) := by decide +kernel
theorem dX8_cutsBy_133 : decode cX8_cutsBy 133 = .ok (.return_, 1) := by decide +kernel
set_option maxRecDepth 20000 in
theorem ggX8_cutsAll_X8_rules : GoodIn wsX8_cutsAll wsX8_rules := goodIn_r _ [7, 8, 128, 129, 130, 131, 132, 133, 134, 135, 136, 137, 138, 139, 140, 141, 142, 143, 144] (by decide +kernel) (by decide +kernel)
set_option maxRecDepth 20000 in
theorem gX8_cutsAll_X8_rules : GoodIn wsX8_cutsAll (wsV RX8 51 RX8 yX8_rules wsX8_rules) := goodIn_app (goodIn_of _ (by decide +kernel)) ggX8_cutsAll_X8_rules
set_option maxRecDepth 20000 in
theorem ggX8_cutsAll_X8_cutsBy : GoodIn wsX8_cutsAll wsX8_cutsBy := goodIn_r _ [12, 13, 14, 15, 6, 16, 8, 17, 18, 19, 20, 21, 22, 23, 24, 25, 26, 27, 28, 29, 30, 31, 32, 33, 34, 35, 36, 37, 38, 39, 40, 41, 42, 43, 44, 45, 46, 47, 48, 49, 50, 51, 52, 53, 54, 55, 56, 57, 58, 59, 2, 1, 60, 61, 62, 63, 64, 65, 66, 67, 68, 69, 70, 71, 72, 73, 74, 75, 76, 77, 78, 79, 80, 81, 82, 83, 84, 85, 86, 87, 88, 89, 90, 91, 92, 93, 94, 95, 96, 97, 98, 99, 100, 101, 102, 103, 104, 105, 106, 107, 108, 109, 110, 111, 112, 113, 114, 115, 116, 117, 118, 119, 120, 121, 122, 123, 124, 125, 126, 127, 128, 129, 130, 131, 132, 133, 134, 135, 136, 137, 138, 139, 140, 141, 142, 143, 144] (by decide +kernel) (by decide +kernel)
set_option maxRecDepth 20000 in
theorem gX8_cutsAll_X8_cutsBy : GoodIn wsX8_cutsAll (wsV RX8 211 RX8 yX8_cutsBy wsX8_cutsBy) := goodIn_app (goodIn_of _ (by decide +kernel)) ggX8_cutsAll_X8_cutsBy
theorem dX8_cutsAll_0 : decode cX8_cutsAll 0 = .ok (.iconst 0, 1) := by decide +kernel
theorem dX8_cutsAll_1 : decode cX8_cutsAll 1 = .ok (.istore_n 1, 1) := by decide +kernel
theorem dX8_cutsAll_2 : decode cX8_cutsAll 2 = .ok (.aload_n 0, 1) := by decide +kernel
theorem dX8_cutsAll_3 : decode cX8_cutsAll 3 = .ok (.iconst 1, 1) := by decide +kernel
theorem dX8_cutsAll_4 : decode cX8_cutsAll 4 = .ok (.putfield 134, 3) := by decide +kernel
theorem dX8_cutsAll_7 : decode cX8_cutsAll 7 = .ok (.aload_n 0, 1) := by decide +kernel
theorem dX8_cutsAll_8 : decode cX8_cutsAll 8 = .ok (.getfield 134, 3) := by decide +kernel
theorem dX8_cutsAll_11 : decode cX8_cutsAll 11 = .ok (.ifCond .eq 55, 3) := by decide +kernel
theorem dX8_cutsAll_14 : decode cX8_cutsAll 14 = .ok (.aload_n 0, 1) := by decide +kernel
theorem dX8_cutsAll_15 : decode cX8_cutsAll 15 = .ok (.getfield 124, 3) := by decide +kernel
theorem dX8_cutsAll_18 : decode cX8_cutsAll 18 = .ok (.ifCond .ne 48, 3) := by decide +kernel
theorem dX8_cutsAll_21 : decode cX8_cutsAll 21 = .ok (.iload_n 1, 1) := by decide +kernel
theorem dX8_cutsAll_22 : decode cX8_cutsAll 22 = .ok (.bipush 12, 2) := by decide +kernel
theorem dX8_cutsAll_24 : decode cX8_cutsAll 24 = .ok (.if_icmp .ge 42, 3) := by decide +kernel
theorem dX8_cutsAll_27 : decode cX8_cutsAll 27 = .ok (.aload_n 0, 1) := by decide +kernel
theorem dX8_cutsAll_28 : decode cX8_cutsAll 28 = .ok (.iconst 0, 1) := by decide +kernel
theorem dX8_cutsAll_29 : decode cX8_cutsAll 29 = .ok (.putfield 134, 3) := by decide +kernel
theorem dX8_cutsAll_32 : decode cX8_cutsAll 32 = .ok (.iconst 0, 1) := by decide +kernel
theorem dX8_cutsAll_33 : decode cX8_cutsAll 33 = .ok (.istore_n 2, 1) := by decide +kernel
theorem dX8_cutsAll_34 : decode cX8_cutsAll 34 = .ok (.iload_n 2, 1) := by decide +kernel
theorem dX8_cutsAll_35 : decode cX8_cutsAll 35 = .ok (.aload_n 0, 1) := by decide +kernel
theorem dX8_cutsAll_36 : decode cX8_cutsAll 36 = .ok (.invokevirtual 51, 3) := by decide +kernel
theorem dX8_cutsAll_39 : decode cX8_cutsAll 39 = .ok (.if_icmp .ge 21, 3) := by decide +kernel
theorem dX8_cutsAll_42 : decode cX8_cutsAll 42 = .ok (.aload_n 0, 1) := by decide +kernel
theorem dX8_cutsAll_43 : decode cX8_cutsAll 43 = .ok (.getfield 124, 3) := by decide +kernel
theorem dX8_cutsAll_46 : decode cX8_cutsAll 46 = .ok (.ifCond .ne 14, 3) := by decide +kernel
theorem dX8_cutsAll_49 : decode cX8_cutsAll 49 = .ok (.aload_n 0, 1) := by decide +kernel
theorem dX8_cutsAll_50 : decode cX8_cutsAll 50 = .ok (.iload_n 2, 1) := by decide +kernel
theorem dX8_cutsAll_51 : decode cX8_cutsAll 51 = .ok (.invokevirtual 211, 3) := by decide +kernel
theorem dX8_cutsAll_54 : decode cX8_cutsAll 54 = .ok (.iinc 2 1, 3) := by decide +kernel
theorem dX8_cutsAll_57 : decode cX8_cutsAll 57 = .ok (.goto (-23), 3) := by decide +kernel
theorem dX8_cutsAll_60 : decode cX8_cutsAll 60 = .ok (.iinc 1 1, 3) := by decide +kernel
theorem dX8_cutsAll_63 : decode cX8_cutsAll 63 = .ok (.goto (-56), 3) := by decide +kernel
theorem dX8_cutsAll_66 : decode cX8_cutsAll 66 = .ok (.iload_n 1, 1) := by decide +kernel
theorem dX8_cutsAll_67 : decode cX8_cutsAll 67 = .ok (.ireturn, 1) := by decide +kernel
set_option maxRecDepth 20000 in
theorem ggX8_cutNow_X8_laysBox : GoodIn wsX8_cutNow wsX8_laysBox := goodIn_r _ [8, 9, 1, 10, 11, 12, 7, 13, 3, 14, 15, 16, 17, 18, 19, 20, 21, 149, 150, 151, 152, 153, 154, 155, 156, 157, 158, 159, 160, 161, 162, 163, 164, 165] (by decide +kernel) (by decide +kernel)
set_option maxRecDepth 20000 in
theorem gX8_cutNow_X8_laysBox : GoodIn wsX8_cutNow (wsV RX8 215 RX8 yX8_laysBox wsX8_laysBox) := goodIn_app (goodIn_of _ (by decide +kernel)) ggX8_cutNow_X8_laysBox
set_option maxRecDepth 20000 in
theorem ggX8_cutNow_X8_cutsAll : GoodIn wsX8_cutNow wsX8_cutsAll := goodIn_r _ [25, 26, 1, 27, 28, 29, 7, 30, 3, 31, 32, 33, 34, 35, 36, 37, 38, 39, 40, 41, 42, 43, 44, 45, 46, 9, 47, 48, 49, 50, 51, 52, 53, 54, 55, 56, 57, 58, 59, 60, 61, 62, 63, 64, 65, 66, 67, 68, 69, 70, 71, 72, 73, 74, 75, 76, 77, 78, 79, 80, 81, 82, 83, 84, 85, 86, 87, 88, 89, 90, 91, 92, 93, 94, 95, 96, 97, 98, 99, 100, 101, 102, 103, 104, 105, 106, 107, 108, 109, 110, 111, 112, 113, 114, 115, 116, 117, 118, 119, 120, 121, 122, 123, 124, 125, 126, 127, 128, 129, 130, 131, 132, 133, 134, 135, 136, 137, 138, 139, 140, 141, 142, 143, 144, 145, 146, 147, 148, 149, 150, 151, 152, 153, 154, 155, 156, 157, 158, 159, 160, 161, 162, 163, 164, 165] (by decide +kernel) (by decide +kernel)
set_option maxRecDepth 20000 in
theorem gX8_cutNow_X8_cutsAll : GoodIn wsX8_cutNow (wsV RX8 218 RX8 yX8_cutsAll wsX8_cutsAll) := goodIn_app (goodIn_of _ (by decide +kernel)) ggX8_cutNow_X8_cutsAll
set_option maxRecDepth 20000 in
theorem ggX8_cutNow_X8_unknowns : GoodIn wsX8_cutNow wsX8_unknowns := goodIn_r _ [13, 3, 149, 150, 151, 152, 153, 154, 155, 156, 157, 158, 159, 160, 161, 162, 163, 164, 165] (by decide +kernel) (by decide +kernel)
set_option maxRecDepth 20000 in
theorem gX8_cutNow_X8_unknowns : GoodIn wsX8_cutNow (wsV RX8 47 RX8 yX8_unknowns wsX8_unknowns) := goodIn_app (goodIn_of _ (by decide +kernel)) ggX8_cutNow_X8_unknowns
set_option maxRecDepth 20000 in
theorem ggX8_cutNow_X8_low : GoodIn wsX8_cutNow wsX8_low := goodIn_r _ [46, 9, 149, 150, 151, 152, 153, 154, 155, 156, 157, 158, 159, 160, 161, 162, 163, 164, 165] (by decide +kernel) (by decide +kernel)
set_option maxRecDepth 20000 in
theorem gX8_cutNow_X8_low : GoodIn wsX8_cutNow (wsV RX8 128 RX8 yX8_low wsX8_low) := goodIn_app (goodIn_of _ (by decide +kernel)) ggX8_cutNow_X8_low
set_option maxRecDepth 20000 in
theorem ggX8_cutNow_X8_high : GoodIn wsX8_cutNow wsX8_high := goodIn_r _ [76, 9, 149, 150, 151, 152, 153, 154, 155, 156, 157, 158, 159, 160, 161, 162, 163, 164, 165] (by decide +kernel) (by decide +kernel)
set_option maxRecDepth 20000 in
theorem gX8_cutNow_X8_high : GoodIn wsX8_cutNow (wsV RX8 131 RX8 yX8_high wsX8_high) := goodIn_app (goodIn_of _ (by decide +kernel)) ggX8_cutNow_X8_high
theorem dX8_cutNow_0 : decode cX8_cutNow 0 = .ok (.aload_n 0, 1) := by decide +kernel
theorem dX8_cutNow_1 : decode cX8_cutNow 1 = .ok (.invokevirtual 215, 3) := by decide +kernel
theorem dX8_cutNow_4 : decode cX8_cutNow 4 = .ok (.aload_n 0, 1) := by decide +kernel
theorem dX8_cutNow_5 : decode cX8_cutNow 5 = .ok (.invokevirtual 218, 3) := by decide +kernel
theorem dX8_cutNow_8 : decode cX8_cutNow 8 = .ok (.istore_n 1, 1) := by decide +kernel
theorem dX8_cutNow_9 : decode cX8_cutNow 9 = .ok (.aload_n 0, 1) := by decide +kernel
theorem dX8_cutNow_10 : decode cX8_cutNow 10 = .ok (.getfield 124, 3) := by decide +kernel
theorem dX8_cutNow_13 : decode cX8_cutNow 13 = .ok (.ifCond .eq 6, 3) := by decide +kernel
theorem dX8_cutNow_16 : decode cX8_cutNow 16 = .ok (.ldc 221, 2) := by decide +kernel
theorem dX8_cutNow_18 : decode cX8_cutNow 18 = .ok (.ireturn, 1) := by decide +kernel
theorem dX8_cutNow_19 : decode cX8_cutNow 19 = .ok (.iconst 0, 1) := by decide +kernel
theorem dX8_cutNow_20 : decode cX8_cutNow 20 = .ok (.istore_n 2, 1) := by decide +kernel
theorem dX8_cutNow_21 : decode cX8_cutNow 21 = .ok (.iload_n 2, 1) := by decide +kernel
theorem dX8_cutNow_22 : decode cX8_cutNow 22 = .ok (.aload_n 0, 1) := by decide +kernel
theorem dX8_cutNow_23 : decode cX8_cutNow 23 = .ok (.invokevirtual 47, 3) := by decide +kernel
theorem dX8_cutNow_26 : decode cX8_cutNow 26 = .ok (.if_icmp .ge 39, 3) := by decide +kernel
theorem dX8_cutNow_29 : decode cX8_cutNow 29 = .ok (.aload_n 0, 1) := by decide +kernel
theorem dX8_cutNow_30 : decode cX8_cutNow 30 = .ok (.getfield 7, 3) := by decide +kernel
theorem dX8_cutNow_33 : decode cX8_cutNow 33 = .ok (.iconst 1, 1) := by decide +kernel
theorem dX8_cutNow_34 : decode cX8_cutNow 34 = .ok (.iconst 2, 1) := by decide +kernel
theorem dX8_cutNow_35 : decode cX8_cutNow 35 = .ok (.iload_n 2, 1) := by decide +kernel
theorem dX8_cutNow_36 : decode cX8_cutNow 36 = .ok (.imul, 1) := by decide +kernel
theorem dX8_cutNow_37 : decode cX8_cutNow 37 = .ok (.iadd, 1) := by decide +kernel
theorem dX8_cutNow_38 : decode cX8_cutNow 38 = .ok (.aload_n 0, 1) := by decide +kernel
theorem dX8_cutNow_39 : decode cX8_cutNow 39 = .ok (.iload_n 2, 1) := by decide +kernel
theorem dX8_cutNow_40 : decode cX8_cutNow 40 = .ok (.invokevirtual 128, 3) := by decide +kernel
theorem dX8_cutNow_43 : decode cX8_cutNow 43 = .ok (.iastore, 1) := by decide +kernel
theorem dX8_cutNow_44 : decode cX8_cutNow 44 = .ok (.aload_n 0, 1) := by decide +kernel
theorem dX8_cutNow_45 : decode cX8_cutNow 45 = .ok (.getfield 7, 3) := by decide +kernel
theorem dX8_cutNow_48 : decode cX8_cutNow 48 = .ok (.iconst 2, 1) := by decide +kernel
theorem dX8_cutNow_49 : decode cX8_cutNow 49 = .ok (.iconst 2, 1) := by decide +kernel
theorem dX8_cutNow_50 : decode cX8_cutNow 50 = .ok (.iload_n 2, 1) := by decide +kernel
theorem dX8_cutNow_51 : decode cX8_cutNow 51 = .ok (.imul, 1) := by decide +kernel
theorem dX8_cutNow_52 : decode cX8_cutNow 52 = .ok (.iadd, 1) := by decide +kernel
theorem dX8_cutNow_53 : decode cX8_cutNow 53 = .ok (.aload_n 0, 1) := by decide +kernel
theorem dX8_cutNow_54 : decode cX8_cutNow 54 = .ok (.iload_n 2, 1) := by decide +kernel
theorem dX8_cutNow_55 : decode cX8_cutNow 55 = .ok (.invokevirtual 131, 3) := by decide +kernel
theorem dX8_cutNow_58 : decode cX8_cutNow 58 = .ok (.iastore, 1) := by decide +kernel
theorem dX8_cutNow_59 : decode cX8_cutNow 59 = .ok (.iinc 2 1, 3) := by decide +kernel
theorem dX8_cutNow_62 : decode cX8_cutNow 62 = .ok (.goto (-41), 3) := by decide +kernel
theorem dX8_cutNow_65 : decode cX8_cutNow 65 = .ok (.iload_n 1, 1) := by decide +kernel
theorem dX8_cutNow_66 : decode cX8_cutNow 66 = .ok (.ireturn, 1) := by decide +kernel
set_option maxRecDepth 20000 in
theorem ggX8_cuts_X8_keep : GoodIn wsX8_cuts wsX8_keep := goodIn_r _ [5, 6, 7, 8, 159, 160, 161, 162, 163, 164, 165, 166, 167, 168, 169, 170, 171, 172, 173, 174, 175] (by decide +kernel) (by decide +kernel)
set_option maxRecDepth 20000 in
theorem gX8_cuts_X8_keep : GoodIn wsX8_cuts (wsV RX8 91 RX8 yX8_keep wsX8_keep) := goodIn_app (goodIn_of _ (by decide +kernel)) ggX8_cuts_X8_keep
set_option maxRecDepth 20000 in
theorem ggX8_cuts_X8_cutNow : GoodIn wsX8_cuts wsX8_cutNow := goodIn_r _ [12, 13, 14, 8, 15, 16, 17, 4, 18, 19, 20, 21, 22, 23, 24, 25, 26, 27, 28, 29, 30, 31, 32, 33, 34, 35, 36, 37, 38, 39, 40, 41, 42, 43, 44, 45, 46, 47, 48, 49, 50, 51, 52, 53, 54, 55, 56, 57, 58, 59, 60, 61, 62, 63, 64, 65, 66, 67, 68, 69, 70, 71, 72, 73, 74, 75, 76, 77, 78, 79, 80, 81, 82, 83, 84, 85, 86, 87, 88, 89, 90, 91, 92, 93, 94, 95, 96, 97, 98, 99, 100, 101, 102, 103, 104, 105, 106, 107, 108, 109, 110, 111, 112, 113, 114, 115, 116, 117, 118, 119, 120, 121, 122, 123, 124, 125, 126, 127, 128, 129, 130, 131, 132, 133, 134, 135, 136, 137, 138, 139, 140, 141, 142, 143, 144, 145, 146, 147, 148, 149, 150, 151, 152, 153, 154, 155, 156, 157, 158, 159, 160, 161, 162, 163, 164, 165, 166, 167, 168, 169, 170, 171, 172, 173, 174, 175] (by decide +kernel) (by decide +kernel)
set_option maxRecDepth 20000 in
theorem gX8_cuts_X8_cutNow : GoodIn wsX8_cuts (wsV RX8 222 RX8 yX8_cutNow wsX8_cutNow) := goodIn_app (goodIn_of _ (by decide +kernel)) ggX8_cuts_X8_cutNow
theorem dX8_cuts_0 : decode cX8_cuts 0 = .ok (.aload_n 0, 1) := by decide +kernel
theorem dX8_cuts_1 : decode cX8_cuts 1 = .ok (.invokevirtual 91, 3) := by decide +kernel
theorem dX8_cuts_4 : decode cX8_cuts 4 = .ok (.aload_n 0, 1) := by decide +kernel
theorem dX8_cuts_5 : decode cX8_cuts 5 = .ok (.invokevirtual 222, 3) := by decide +kernel
theorem dX8_cuts_8 : decode cX8_cuts 8 = .ok (.ireturn, 1) := by decide +kernel
set_option maxRecDepth 20000 in
theorem ggX8_of_X8_isUnknown : GoodIn wsX8_of wsX8_isUnknown := goodIn_r _ [6, 7, 8, 9, 5, 10, 11, 12, 13, 14, 28, 29, 30, 31, 32, 33, 34, 35, 36, 37, 38, 39, 40, 41, 42, 43, 44] (by decide +kernel) (by decide +kernel)
set_option maxRecDepth 20000 in
theorem gX8_of_X8_isUnknown : GoodIn wsX8_of (wsV RX8 97 RX8 yX8_isUnknown wsX8_isUnknown) := goodIn_app (goodIn_of _ (by decide +kernel)) ggX8_of_X8_isUnknown
set_option maxRecDepth 20000 in
theorem ggX8_of_X8_in : GoodIn wsX8_of wsX8_in := goodIn_r _ [14] (by decide +kernel) (by decide +kernel)
set_option maxRecDepth 20000 in
theorem gX8_of_X8_in : GoodIn wsX8_of (va_wsS RX8 38 yX8_in wsX8_in) := goodIn_app (goodIn_of _ (by decide +kernel)) ggX8_of_X8_in
set_option maxRecDepth 20000 in
theorem ggX8_of_X8_lowAt : GoodIn wsX8_of wsX8_lowAt := goodIn_r _ [18, 11, 28, 29, 30, 31, 32, 33, 34, 35, 36, 37, 38, 39, 40, 41, 42, 43, 44] (by decide +kernel) (by decide +kernel)
set_option maxRecDepth 20000 in
theorem gX8_of_X8_lowAt : GoodIn wsX8_of (wsV RX8 118 RX8 yX8_lowAt wsX8_lowAt) := goodIn_app (goodIn_of _ (by decide +kernel)) ggX8_of_X8_lowAt
set_option maxRecDepth 20000 in
theorem ggX8_of_X8_highAt : GoodIn wsX8_of wsX8_highAt := goodIn_r _ [22, 11, 28, 29, 30, 31, 32, 33, 34, 35, 36, 37, 38, 39, 40, 41, 42, 43, 44] (by decide +kernel) (by decide +kernel)
set_option maxRecDepth 20000 in
theorem gX8_of_X8_highAt : GoodIn wsX8_of (wsV RX8 121 RX8 yX8_highAt wsX8_highAt) := goodIn_app (goodIn_of _ (by decide +kernel)) ggX8_of_X8_highAt
set_option maxRecDepth 20000 in
theorem ggX8_of_X8_refuses : GoodIn wsX8_of wsX8_refuses := goodIn_r _ [26, 27, 1, 28, 29, 30, 31, 32, 33, 34, 35, 36, 37, 38, 39, 40, 41, 42, 43, 44] (by decide +kernel) (by decide +kernel)
set_option maxRecDepth 20000 in
theorem gX8_of_X8_refuses : GoodIn wsX8_of (wsV RX8 87 RX8 yX8_refuses wsX8_refuses) := goodIn_app (goodIn_of _ (by decide +kernel)) ggX8_of_X8_refuses
theorem dX8_of_0 : decode cX8_of 0 = .ok (.aload_n 0, 1) := by decide +kernel
theorem dX8_of_1 : decode cX8_of 1 = .ok (.iload_n 1, 1) := by decide +kernel
theorem dX8_of_2 : decode cX8_of 2 = .ok (.invokevirtual 97, 3) := by decide +kernel
theorem dX8_of_5 : decode cX8_of 5 = .ok (.ifCond .eq 33, 3) := by decide +kernel
theorem dX8_of_8 : decode cX8_of 8 = .ok (.iload_n 2, 1) := by decide +kernel
theorem dX8_of_9 : decode cX8_of 9 = .ok (.i2l, 1) := by decide +kernel
theorem dX8_of_10 : decode cX8_of 10 = .ok (.lconst 0, 1) := by decide +kernel
theorem dX8_of_11 : decode cX8_of 11 = .ok (.lconst 1, 1) := by decide +kernel
theorem dX8_of_12 : decode cX8_of 12 = .ok (.invokestatic 38, 3) := by decide +kernel
theorem dX8_of_15 : decode cX8_of 15 = .ok (.ifCond .eq 23, 3) := by decide +kernel
theorem dX8_of_18 : decode cX8_of 18 = .ok (.iload_n 2, 1) := by decide +kernel
theorem dX8_of_19 : decode cX8_of 19 = .ok (.ifCond .ne 11, 3) := by decide +kernel
theorem dX8_of_22 : decode cX8_of 22 = .ok (.aload_n 0, 1) := by decide +kernel
theorem dX8_of_23 : decode cX8_of 23 = .ok (.iload_n 1, 1) := by decide +kernel
theorem dX8_of_24 : decode cX8_of 24 = .ok (.invokevirtual 118, 3) := by decide +kernel
theorem dX8_of_27 : decode cX8_of 27 = .ok (.goto 17, 3) := by decide +kernel
theorem dX8_of_30 : decode cX8_of 30 = .ok (.aload_n 0, 1) := by decide +kernel
theorem dX8_of_31 : decode cX8_of 31 = .ok (.iload_n 1, 1) := by decide +kernel
theorem dX8_of_32 : decode cX8_of 32 = .ok (.invokevirtual 121, 3) := by decide +kernel
theorem dX8_of_35 : decode cX8_of 35 = .ok (.goto 9, 3) := by decide +kernel
theorem dX8_of_38 : decode cX8_of 38 = .ok (.aload_n 0, 1) := by decide +kernel
theorem dX8_of_39 : decode cX8_of 39 = .ok (.ldc 42, 2) := by decide +kernel
theorem dX8_of_41 : decode cX8_of 41 = .ok (.invokevirtual 87, 3) := by decide +kernel
theorem dX8_of_44 : decode cX8_of 44 = .ok (.ireturn, 1) := by decide +kernel
set_option maxRecDepth 20000 in
theorem ggX8_holding_X8_isUnknown : GoodIn wsX8_holding wsX8_isUnknown := goodIn_r _ [6, 7, 8, 9, 5, 10, 11, 12, 13, 14, 28, 29, 30, 31, 32, 33, 34, 35, 36, 37, 38, 39, 40, 41, 42, 43, 44] (by decide +kernel) (by decide +kernel)
set_option maxRecDepth 20000 in
theorem gX8_holding_X8_isUnknown : GoodIn wsX8_holding (wsV RX8 97 RX8 yX8_isUnknown wsX8_isUnknown) := goodIn_app (goodIn_of _ (by decide +kernel)) ggX8_holding_X8_isUnknown
set_option maxRecDepth 20000 in
theorem ggX8_holding_X8_highAt : GoodIn wsX8_holding wsX8_highAt := goodIn_r _ [18, 11, 28, 29, 30, 31, 32, 33, 34, 35, 36, 37, 38, 39, 40, 41, 42, 43, 44] (by decide +kernel) (by decide +kernel)
set_option maxRecDepth 20000 in
theorem gX8_holding_X8_highAt : GoodIn wsX8_holding (wsV RX8 121 RX8 yX8_highAt wsX8_highAt) := goodIn_app (goodIn_of _ (by decide +kernel)) ggX8_holding_X8_highAt
set_option maxRecDepth 20000 in
theorem ggX8_holding_X8_lowAt : GoodIn wsX8_holding wsX8_lowAt := goodIn_r _ [22, 11, 28, 29, 30, 31, 32, 33, 34, 35, 36, 37, 38, 39, 40, 41, 42, 43, 44] (by decide +kernel) (by decide +kernel)
set_option maxRecDepth 20000 in
theorem gX8_holding_X8_lowAt : GoodIn wsX8_holding (wsV RX8 118 RX8 yX8_lowAt wsX8_lowAt) := goodIn_app (goodIn_of _ (by decide +kernel)) ggX8_holding_X8_lowAt
set_option maxRecDepth 20000 in
theorem ggX8_holding_X8_refuses : GoodIn wsX8_holding wsX8_refuses := goodIn_r _ [26, 27, 1, 28, 29, 30, 31, 32, 33, 34, 35, 36, 37, 38, 39, 40, 41, 42, 43, 44] (by decide +kernel) (by decide +kernel)
set_option maxRecDepth 20000 in
theorem gX8_holding_X8_refuses : GoodIn wsX8_holding (wsV RX8 87 RX8 yX8_refuses wsX8_refuses) := goodIn_app (goodIn_of _ (by decide +kernel)) ggX8_holding_X8_refuses
theorem dX8_holding_0 : decode cX8_holding 0 = .ok (.aload_n 0, 1) := by decide +kernel
theorem dX8_holding_1 : decode cX8_holding 1 = .ok (.iload_n 1, 1) := by decide +kernel
theorem dX8_holding_2 : decode cX8_holding 2 = .ok (.invokevirtual 97, 3) := by decide +kernel
theorem dX8_holding_5 : decode cX8_holding 5 = .ok (.ifCond .eq 21, 3) := by decide +kernel
theorem dX8_holding_8 : decode cX8_holding 8 = .ok (.lconst 1, 1) := by decide +kernel
theorem dX8_holding_9 : decode cX8_holding 9 = .ok (.aload_n 0, 1) := by decide +kernel
theorem dX8_holding_10 : decode cX8_holding 10 = .ok (.iload_n 1, 1) := by decide +kernel
theorem dX8_holding_11 : decode cX8_holding 11 = .ok (.invokevirtual 121, 3) := by decide +kernel
theorem dX8_holding_14 : decode cX8_holding 14 = .ok (.i2l, 1) := by decide +kernel
theorem dX8_holding_15 : decode cX8_holding 15 = .ok (.ladd, 1) := by decide +kernel
theorem dX8_holding_16 : decode cX8_holding 16 = .ok (.aload_n 0, 1) := by decide +kernel
theorem dX8_holding_17 : decode cX8_holding 17 = .ok (.iload_n 1, 1) := by decide +kernel
theorem dX8_holding_18 : decode cX8_holding 18 = .ok (.invokevirtual 118, 3) := by decide +kernel
theorem dX8_holding_21 : decode cX8_holding 21 = .ok (.i2l, 1) := by decide +kernel
theorem dX8_holding_22 : decode cX8_holding 22 = .ok (.lsub, 1) := by decide +kernel
theorem dX8_holding_23 : decode cX8_holding 23 = .ok (.goto 10, 3) := by decide +kernel
theorem dX8_holding_26 : decode cX8_holding 26 = .ok (.aload_n 0, 1) := by decide +kernel
theorem dX8_holding_27 : decode cX8_holding 27 = .ok (.ldc 42, 2) := by decide +kernel
theorem dX8_holding_29 : decode cX8_holding 29 = .ok (.invokevirtual 87, 3) := by decide +kernel
theorem dX8_holding_32 : decode cX8_holding 32 = .ok (.i2l, 1) := by decide +kernel
theorem dX8_holding_33 : decode cX8_holding 33 = .ok (.lreturn, 1) := by decide +kernel
set_option maxRecDepth 20000 in
theorem ggX8_about_X8_isRule : GoodIn wsX8_about wsX8_isRule := goodIn_r _ [7, 8, 9, 10, 6, 11, 12, 13, 14, 15, 25, 26, 27, 28, 29, 30, 31, 32, 33, 34, 35, 36, 37, 38, 39, 40, 41] (by decide +kernel) (by decide +kernel)
set_option maxRecDepth 20000 in
theorem gX8_about_X8_isRule : GoodIn wsX8_about (wsV RX8 112 RX8 yX8_isRule wsX8_isRule) := goodIn_app (goodIn_of _ (by decide +kernel)) ggX8_about_X8_isRule
set_option maxRecDepth 20000 in
theorem ggX8_about_X8_in : GoodIn wsX8_about wsX8_in := goodIn_r _ [15] (by decide +kernel) (by decide +kernel)
set_option maxRecDepth 20000 in
theorem gX8_about_X8_in : GoodIn wsX8_about (va_wsS RX8 38 yX8_in wsX8_in) := goodIn_app (goodIn_of _ (by decide +kernel)) ggX8_about_X8_in
set_option maxRecDepth 20000 in
theorem ggX8_about_X8_ruleAt : GoodIn wsX8_about wsX8_ruleAt := goodIn_r _ [19, 12, 25, 26, 27, 28, 29, 30, 31, 32, 33, 34, 35, 36, 37, 38, 39, 40, 41] (by decide +kernel) (by decide +kernel)
set_option maxRecDepth 20000 in
theorem gX8_about_X8_ruleAt : GoodIn wsX8_about (wsV RX8 100 RX8 yX8_ruleAt wsX8_ruleAt) := goodIn_app (goodIn_of _ (by decide +kernel)) ggX8_about_X8_ruleAt
set_option maxRecDepth 20000 in
theorem ggX8_about_X8_refuses : GoodIn wsX8_about wsX8_refuses := goodIn_r _ [23, 24, 2, 25, 26, 27, 28, 29, 30, 31, 32, 33, 34, 35, 36, 37, 38, 39, 40, 41] (by decide +kernel) (by decide +kernel)
set_option maxRecDepth 20000 in
theorem gX8_about_X8_refuses : GoodIn wsX8_about (wsV RX8 87 RX8 yX8_refuses wsX8_refuses) := goodIn_app (goodIn_of _ (by decide +kernel)) ggX8_about_X8_refuses
theorem dX8_about_0 : decode cX8_about 0 = .ok (.aload_n 0, 1) := by decide +kernel
theorem dX8_about_1 : decode cX8_about 1 = .ok (.iload_n 1, 1) := by decide +kernel
theorem dX8_about_2 : decode cX8_about 2 = .ok (.invokevirtual 112, 3) := by decide +kernel
theorem dX8_about_5 : decode cX8_about 5 = .ok (.ifCond .eq 24, 3) := by decide +kernel
theorem dX8_about_8 : decode cX8_about 8 = .ok (.iload_n 2, 1) := by decide +kernel
theorem dX8_about_9 : decode cX8_about 9 = .ok (.i2l, 1) := by decide +kernel
theorem dX8_about_10 : decode cX8_about 10 = .ok (.lconst 0, 1) := by decide +kernel
theorem dX8_about_11 : decode cX8_about 11 = .ok (.ldc2_w 225, 3) := by decide +kernel
theorem dX8_about_14 : decode cX8_about 14 = .ok (.invokestatic 38, 3) := by decide +kernel
theorem dX8_about_17 : decode cX8_about 17 = .ok (.ifCond .eq 12, 3) := by decide +kernel
theorem dX8_about_20 : decode cX8_about 20 = .ok (.aload_n 0, 1) := by decide +kernel
theorem dX8_about_21 : decode cX8_about 21 = .ok (.iload_n 1, 1) := by decide +kernel
theorem dX8_about_22 : decode cX8_about 22 = .ok (.iload_n 2, 1) := by decide +kernel
theorem dX8_about_23 : decode cX8_about 23 = .ok (.invokevirtual 100, 3) := by decide +kernel
theorem dX8_about_26 : decode cX8_about 26 = .ok (.goto 9, 3) := by decide +kernel
theorem dX8_about_29 : decode cX8_about 29 = .ok (.aload_n 0, 1) := by decide +kernel
theorem dX8_about_30 : decode cX8_about 30 = .ok (.ldc 42, 2) := by decide +kernel
theorem dX8_about_32 : decode cX8_about 32 = .ok (.invokevirtual 87, 3) := by decide +kernel
theorem dX8_about_35 : decode cX8_about 35 = .ok (.ireturn, 1) := by decide +kernel
set_option maxRecDepth 20000 in
theorem ggX8_wouldBe_X8_laysBox : GoodIn wsX8_wouldBe wsX8_laysBox := goodIn_r _ [7, 8, 1, 9, 10, 11, 6, 12, 13, 14, 15, 16, 17, 18, 19, 20, 21, 141, 142, 143, 144, 145, 146, 147, 148, 149, 150, 151, 152, 153, 154, 155, 156, 157] (by decide +kernel) (by decide +kernel)
set_option maxRecDepth 20000 in
theorem gX8_wouldBe_X8_laysBox : GoodIn wsX8_wouldBe (wsV RX8 215 RX8 yX8_laysBox wsX8_laysBox) := goodIn_app (goodIn_of _ (by decide +kernel)) ggX8_wouldBe_X8_laysBox
set_option maxRecDepth 20000 in
theorem ggX8_wouldBe_X8_cutsBy : GoodIn wsX8_wouldBe wsX8_cutsBy := goodIn_r _ [25, 26, 27, 28, 6, 29, 13, 30, 31, 32, 33, 34, 35, 36, 37, 8, 38, 39, 40, 41, 42, 43, 44, 45, 46, 47, 48, 49, 50, 51, 52, 53, 54, 55, 56, 57, 58, 59, 60, 61, 62, 63, 64, 65, 66, 67, 68, 69, 70, 71, 1, 72, 73, 74, 75, 76, 77, 78, 79, 80, 81, 82, 83, 84, 85, 86, 87, 88, 89, 90, 91, 92, 93, 94, 95, 96, 97, 98, 99, 100, 101, 102, 103, 104, 105, 106, 107, 108, 109, 110, 111, 112, 113, 114, 115, 116, 117, 118, 119, 120, 121, 122, 123, 124, 125, 126, 127, 128, 129, 130, 131, 132, 133, 134, 135, 136, 137, 138, 139, 140, 141, 142, 143, 144, 145, 146, 147, 148, 149, 150, 151, 152, 153, 154, 155, 156, 157] (by decide +kernel) (by decide +kernel)
set_option maxRecDepth 20000 in
theorem gX8_wouldBe_X8_cutsBy : GoodIn wsX8_wouldBe (wsV RX8 211 RX8 yX8_cutsBy wsX8_cutsBy) := goodIn_app (goodIn_of _ (by decide +kernel)) ggX8_wouldBe_X8_cutsBy
set_option maxRecDepth 20000 in
theorem ggX8_wouldBe_X8_low : GoodIn wsX8_wouldBe wsX8_low := goodIn_r _ [37, 8, 141, 142, 143, 144, 145, 146, 147, 148, 149, 150, 151, 152, 153, 154, 155, 156, 157] (by decide +kernel) (by decide +kernel)
set_option maxRecDepth 20000 in
theorem gX8_wouldBe_X8_low : GoodIn wsX8_wouldBe (wsV RX8 128 RX8 yX8_low wsX8_low) := goodIn_app (goodIn_of _ (by decide +kernel)) ggX8_wouldBe_X8_low
set_option maxRecDepth 20000 in
theorem ggX8_wouldBe_X8_high : GoodIn wsX8_wouldBe wsX8_high := goodIn_r _ [67, 8, 141, 142, 143, 144, 145, 146, 147, 148, 149, 150, 151, 152, 153, 154, 155, 156, 157] (by decide +kernel) (by decide +kernel)
set_option maxRecDepth 20000 in
theorem gX8_wouldBe_X8_high : GoodIn wsX8_wouldBe (wsV RX8 131 RX8 yX8_high wsX8_high) := goodIn_app (goodIn_of _ (by decide +kernel)) ggX8_wouldBe_X8_high
theorem dX8_wouldBe_0 : decode cX8_wouldBe 0 = .ok (.aload_n 0, 1) := by decide +kernel
theorem dX8_wouldBe_1 : decode cX8_wouldBe 1 = .ok (.invokevirtual 215, 3) := by decide +kernel
theorem dX8_wouldBe_4 : decode cX8_wouldBe 4 = .ok (.aload_n 0, 1) := by decide +kernel
theorem dX8_wouldBe_5 : decode cX8_wouldBe 5 = .ok (.iload_n 1, 1) := by decide +kernel
theorem dX8_wouldBe_6 : decode cX8_wouldBe 6 = .ok (.invokevirtual 211, 3) := by decide +kernel
theorem dX8_wouldBe_9 : decode cX8_wouldBe 9 = .ok (.aload_n 0, 1) := by decide +kernel
theorem dX8_wouldBe_10 : decode cX8_wouldBe 10 = .ok (.getfield 124, 3) := by decide +kernel
theorem dX8_wouldBe_13 : decode cX8_wouldBe 13 = .ok (.ifCond .eq 8, 3) := by decide +kernel
theorem dX8_wouldBe_16 : decode cX8_wouldBe 16 = .ok (.ldc 221, 2) := by decide +kernel
theorem dX8_wouldBe_18 : decode cX8_wouldBe 18 = .ok (.goto 20, 3) := by decide +kernel
theorem dX8_wouldBe_21 : decode cX8_wouldBe 21 = .ok (.iload_n 3, 1) := by decide +kernel
theorem dX8_wouldBe_22 : decode cX8_wouldBe 22 = .ok (.ifCond .ne 11, 3) := by decide +kernel
theorem dX8_wouldBe_25 : decode cX8_wouldBe 25 = .ok (.aload_n 0, 1) := by decide +kernel
theorem dX8_wouldBe_26 : decode cX8_wouldBe 26 = .ok (.iload_n 2, 1) := by decide +kernel
theorem dX8_wouldBe_27 : decode cX8_wouldBe 27 = .ok (.invokevirtual 128, 3) := by decide +kernel
theorem dX8_wouldBe_30 : decode cX8_wouldBe 30 = .ok (.goto 8, 3) := by decide +kernel
theorem dX8_wouldBe_33 : decode cX8_wouldBe 33 = .ok (.aload_n 0, 1) := by decide +kernel
theorem dX8_wouldBe_34 : decode cX8_wouldBe 34 = .ok (.iload_n 2, 1) := by decide +kernel
theorem dX8_wouldBe_35 : decode cX8_wouldBe 35 = .ok (.invokevirtual 131, 3) := by decide +kernel
theorem dX8_wouldBe_38 : decode cX8_wouldBe 38 = .ok (.ireturn, 1) := by decide +kernel
set_option maxRecDepth 20000 in
theorem ggX8_would_X8_isRule : GoodIn wsX8_would wsX8_isRule := goodIn_r _ [6, 7, 8, 9, 5, 10, 11, 12, 13, 14, 166, 167, 168, 169, 170, 171, 172, 173, 174, 175, 176, 177, 178, 179, 180, 181, 182] (by decide +kernel) (by decide +kernel)
set_option maxRecDepth 20000 in
theorem gX8_would_X8_isRule : GoodIn wsX8_would (wsV RX8 112 RX8 yX8_isRule wsX8_isRule) := goodIn_app (goodIn_of _ (by decide +kernel)) ggX8_would_X8_isRule
set_option maxRecDepth 20000 in
theorem ggX8_would_X8_isUnknown : GoodIn wsX8_would wsX8_isUnknown := goodIn_r _ [18, 19, 20, 21, 5, 22, 11, 12, 13, 14, 166, 167, 168, 169, 170, 171, 172, 173, 174, 175, 176, 177, 178, 179, 180, 181, 182] (by decide +kernel) (by decide +kernel)
set_option maxRecDepth 20000 in
theorem gX8_would_X8_isUnknown : GoodIn wsX8_would (wsV RX8 97 RX8 yX8_isUnknown wsX8_isUnknown) := goodIn_app (goodIn_of _ (by decide +kernel)) ggX8_would_X8_isUnknown
set_option maxRecDepth 20000 in
theorem ggX8_would_X8_in : GoodIn wsX8_would wsX8_in := goodIn_r _ [14] (by decide +kernel) (by decide +kernel)
set_option maxRecDepth 20000 in
theorem gX8_would_X8_in : GoodIn wsX8_would (va_wsS RX8 38 yX8_in wsX8_in) := goodIn_app (goodIn_of _ (by decide +kernel)) ggX8_would_X8_in
set_option maxRecDepth 20000 in
theorem ggX8_would_X8_wouldBe : GoodIn wsX8_would wsX8_wouldBe := goodIn_r _ [26, 27, 28, 29, 30, 31, 5, 32, 33, 19, 20, 21, 22, 11, 34, 35, 36, 37, 38, 39, 40, 41, 42, 43, 44, 45, 46, 47, 48, 49, 50, 51, 52, 53, 54, 55, 56, 57, 58, 59, 60, 61, 62, 63, 64, 65, 66, 67, 68, 69, 70, 71, 72, 73, 74, 75, 76, 77, 78, 79, 80, 81, 82, 83, 84, 85, 86, 87, 88, 89, 90, 91, 92, 93, 94, 95, 96, 97, 98, 99, 100, 101, 102, 103, 104, 105, 106, 107, 108, 109, 110, 111, 112, 113, 114, 115, 116, 117, 118, 119, 120, 121, 122, 123, 124, 125, 126, 127, 128, 129, 130, 131, 132, 133, 134, 135, 136, 137, 138, 139, 140, 141, 142, 143, 144, 145, 146, 147, 148, 149, 150, 151, 152, 153, 154, 155, 156, 157, 158, 159, 160, 166, 167, 168, 169, 170, 171, 172, 173, 174, 175, 176, 177, 178, 179, 180, 181, 182] (by decide +kernel) (by decide +kernel)
set_option maxRecDepth 20000 in
theorem gX8_would_X8_wouldBe : GoodIn wsX8_would (wsV RX8 227 RX8 yX8_wouldBe wsX8_wouldBe) := goodIn_app (goodIn_of _ (by decide +kernel)) ggX8_would_X8_wouldBe
set_option maxRecDepth 20000 in
theorem ggX8_would_X8_refuses : GoodIn wsX8_would wsX8_refuses := goodIn_r _ [164, 165, 1, 166, 167, 168, 169, 170, 171, 172, 173, 174, 175, 176, 177, 178, 179, 180, 181, 182] (by decide +kernel) (by decide +kernel)
set_option maxRecDepth 20000 in
theorem gX8_would_X8_refuses : GoodIn wsX8_would (wsV RX8 87 RX8 yX8_refuses wsX8_refuses) := goodIn_app (goodIn_of _ (by decide +kernel)) ggX8_would_X8_refuses
theorem dX8_would_0 : decode cX8_would 0 = .ok (.aload_n 0, 1) := by decide +kernel
theorem dX8_would_1 : decode cX8_would 1 = .ok (.iload_n 1, 1) := by decide +kernel
theorem dX8_would_2 : decode cX8_would 2 = .ok (.invokevirtual 112, 3) := by decide +kernel
theorem dX8_would_5 : decode cX8_would 5 = .ok (.ifCond .eq 31, 3) := by decide +kernel
theorem dX8_would_8 : decode cX8_would 8 = .ok (.aload_n 0, 1) := by decide +kernel
theorem dX8_would_9 : decode cX8_would 9 = .ok (.iload_n 2, 1) := by decide +kernel
theorem dX8_would_10 : decode cX8_would 10 = .ok (.invokevirtual 97, 3) := by decide +kernel
theorem dX8_would_13 : decode cX8_would 13 = .ok (.ifCond .eq 23, 3) := by decide +kernel
theorem dX8_would_16 : decode cX8_would 16 = .ok (.iload_n 3, 1) := by decide +kernel
theorem dX8_would_17 : decode cX8_would 17 = .ok (.i2l, 1) := by decide +kernel
theorem dX8_would_18 : decode cX8_would 18 = .ok (.lconst 0, 1) := by decide +kernel
theorem dX8_would_19 : decode cX8_would 19 = .ok (.lconst 1, 1) := by decide +kernel
theorem dX8_would_20 : decode cX8_would 20 = .ok (.invokestatic 38, 3) := by decide +kernel
theorem dX8_would_23 : decode cX8_would 23 = .ok (.ifCond .eq 13, 3) := by decide +kernel
theorem dX8_would_26 : decode cX8_would 26 = .ok (.aload_n 0, 1) := by decide +kernel
theorem dX8_would_27 : decode cX8_would 27 = .ok (.iload_n 1, 1) := by decide +kernel
theorem dX8_would_28 : decode cX8_would 28 = .ok (.iload_n 2, 1) := by decide +kernel
theorem dX8_would_29 : decode cX8_would 29 = .ok (.iload_n 3, 1) := by decide +kernel
theorem dX8_would_30 : decode cX8_would 30 = .ok (.invokevirtual 227, 3) := by decide +kernel
theorem dX8_would_33 : decode cX8_would 33 = .ok (.goto 9, 3) := by decide +kernel
theorem dX8_would_36 : decode cX8_would 36 = .ok (.aload_n 0, 1) := by decide +kernel
theorem dX8_would_37 : decode cX8_would 37 = .ok (.ldc 42, 2) := by decide +kernel
theorem dX8_would_39 : decode cX8_would 39 = .ok (.invokevirtual 87, 3) := by decide +kernel
theorem dX8_would_42 : decode cX8_would 42 = .ok (.ireturn, 1) := by decide +kernel
set_option maxRecDepth 20000 in
theorem ggX8_does_X8_in : GoodIn wsX8_does wsX8_in := goodIn_r _ [6] (by decide +kernel) (by decide +kernel)
set_option maxRecDepth 20000 in
theorem gX8_does_X8_in : GoodIn wsX8_does (va_wsS RX8 38 yX8_in wsX8_in) := goodIn_app (goodIn_of _ (by decide +kernel)) ggX8_does_X8_in
set_option maxRecDepth 20000 in
theorem ggX8_does_X8_isPlace : GoodIn wsX8_does wsX8_isPlace := goodIn_r _ [9, 10, 11, 3, 4, 5, 6] (by decide +kernel) (by decide +kernel)
set_option maxRecDepth 20000 in
theorem gX8_does_X8_isPlace : GoodIn wsX8_does (va_wsS RX8 79 yX8_isPlace wsX8_isPlace) := goodIn_app (goodIn_of _ (by decide +kernel)) ggX8_does_X8_isPlace
set_option maxRecDepth 20000 in
theorem ggX8_does_X8_holds : GoodIn wsX8_does wsX8_holds := goodIn_r _ [14, 15, 16, 5, 17, 18, 19, 20, 21, 22, 23, 24, 25, 26, 27, 28, 29, 30, 31, 32, 33, 34, 35, 36, 37, 38, 39, 40, 41, 42, 43] (by decide +kernel) (by decide +kernel)
set_option maxRecDepth 20000 in
theorem gX8_does_X8_holds : GoodIn wsX8_does (va_wsS RX8 230 yX8_holds wsX8_holds) := goodIn_app (goodIn_of _ (by decide +kernel)) ggX8_does_X8_holds
set_option maxRecDepth 20000 in
theorem ggX8_does_X8_refuses : GoodIn wsX8_does wsX8_refuses := goodIn_r _ [47, 48, 2, 49, 50, 51, 52, 53, 54, 55, 56, 57, 58, 59, 60, 61, 62, 63, 64, 65] (by decide +kernel) (by decide +kernel)
set_option maxRecDepth 20000 in
theorem gX8_does_X8_refuses : GoodIn wsX8_does (wsV RX8 87 RX8 yX8_refuses wsX8_refuses) := goodIn_app (goodIn_of _ (by decide +kernel)) ggX8_does_X8_refuses
theorem dX8_does_0 : decode cX8_does 0 = .ok (.iload_n 1, 1) := by decide +kernel
theorem dX8_does_1 : decode cX8_does 1 = .ok (.i2l, 1) := by decide +kernel
theorem dX8_does_2 : decode cX8_does 2 = .ok (.lconst 0, 1) := by decide +kernel
theorem dX8_does_3 : decode cX8_does 3 = .ok (.ldc2_w 103, 3) := by decide +kernel
theorem dX8_does_6 : decode cX8_does 6 = .ok (.invokestatic 38, 3) := by decide +kernel
theorem dX8_does_9 : decode cX8_does 9 = .ok (.ifCond .eq 34, 3) := by decide +kernel
theorem dX8_does_12 : decode cX8_does 12 = .ok (.iload_n 2, 1) := by decide +kernel
theorem dX8_does_13 : decode cX8_does 13 = .ok (.invokestatic 79, 3) := by decide +kernel
theorem dX8_does_16 : decode cX8_does 16 = .ok (.ifCond .eq 27, 3) := by decide +kernel
theorem dX8_does_19 : decode cX8_does 19 = .ok (.iload_n 3, 1) := by decide +kernel
theorem dX8_does_20 : decode cX8_does 20 = .ok (.invokestatic 79, 3) := by decide +kernel
theorem dX8_does_23 : decode cX8_does 23 = .ok (.ifCond .eq 20, 3) := by decide +kernel
theorem dX8_does_26 : decode cX8_does 26 = .ok (.iload_n 1, 1) := by decide +kernel
theorem dX8_does_27 : decode cX8_does 27 = .ok (.iconst 3, 1) := by decide +kernel
theorem dX8_does_28 : decode cX8_does 28 = .ok (.if_icmp .ge 11, 3) := by decide +kernel
theorem dX8_does_31 : decode cX8_does 31 = .ok (.iload 4, 2) := by decide +kernel
theorem dX8_does_33 : decode cX8_does 33 = .ok (.invokestatic 79, 3) := by decide +kernel
theorem dX8_does_36 : decode cX8_does 36 = .ok (.ifCond .eq 7, 3) := by decide +kernel
theorem dX8_does_39 : decode cX8_does 39 = .ok (.iconst 1, 1) := by decide +kernel
theorem dX8_does_40 : decode cX8_does 40 = .ok (.goto 4, 3) := by decide +kernel
theorem dX8_does_43 : decode cX8_does 43 = .ok (.iconst 0, 1) := by decide +kernel
theorem dX8_does_44 : decode cX8_does 44 = .ok (.istore 5, 2) := by decide +kernel
theorem dX8_does_46 : decode cX8_does 46 = .ok (.iload 5, 2) := by decide +kernel
theorem dX8_does_48 : decode cX8_does 48 = .ok (.ifCond .eq 22, 3) := by decide +kernel
theorem dX8_does_51 : decode cX8_does 51 = .ok (.iload_n 1, 1) := by decide +kernel
theorem dX8_does_52 : decode cX8_does 52 = .ok (.iload_n 2, 1) := by decide +kernel
theorem dX8_does_53 : decode cX8_does 53 = .ok (.iload_n 3, 1) := by decide +kernel
theorem dX8_does_54 : decode cX8_does 54 = .ok (.iload 4, 2) := by decide +kernel
theorem dX8_does_56 : decode cX8_does 56 = .ok (.invokestatic 230, 3) := by decide +kernel
theorem dX8_does_59 : decode cX8_does 59 = .ok (.ifCond .eq 7, 3) := by decide +kernel
theorem dX8_does_62 : decode cX8_does 62 = .ok (.iconst 1, 1) := by decide +kernel
theorem dX8_does_63 : decode cX8_does 63 = .ok (.goto 13, 3) := by decide +kernel
theorem dX8_does_66 : decode cX8_does 66 = .ok (.iconst 0, 1) := by decide +kernel
theorem dX8_does_67 : decode cX8_does 67 = .ok (.goto 9, 3) := by decide +kernel
theorem dX8_does_70 : decode cX8_does 70 = .ok (.aload_n 0, 1) := by decide +kernel
theorem dX8_does_71 : decode cX8_does 71 = .ok (.ldc 42, 2) := by decide +kernel
theorem dX8_does_73 : decode cX8_does 73 = .ok (.invokevirtual 87, 3) := by decide +kernel
theorem dX8_does_76 : decode cX8_does 76 = .ok (.ireturn, 1) := by decide +kernel
theorem dX8_puts_0 : decode cX8_puts 0 = .ok (.iconst 0, 1) := by decide +kernel
theorem dX8_puts_1 : decode cX8_puts 1 = .ok (.istore 4, 2) := by decide +kernel
theorem dX8_puts_3 : decode cX8_puts 3 = .ok (.iload 4, 2) := by decide +kernel
theorem dX8_puts_5 : decode cX8_puts 5 = .ok (.bipush 12, 2) := by decide +kernel
theorem dX8_puts_7 : decode cX8_puts 7 = .ok (.if_icmp .ge 31, 3) := by decide +kernel
theorem dX8_puts_10 : decode cX8_puts 10 = .ok (.aload_n 0, 1) := by decide +kernel
theorem dX8_puts_11 : decode cX8_puts 11 = .ok (.getfield 22, 3) := by decide +kernel
theorem dX8_puts_14 : decode cX8_puts 14 = .ok (.bipush 12, 2) := by decide +kernel
theorem dX8_puts_16 : decode cX8_puts 16 = .ok (.aload_n 0, 1) := by decide +kernel
theorem dX8_puts_17 : decode cX8_puts 17 = .ok (.getfield 234, 3) := by decide +kernel
theorem dX8_puts_20 : decode cX8_puts 20 = .ok (.imul, 1) := by decide +kernel
theorem dX8_puts_21 : decode cX8_puts 21 = .ok (.iload 4, 2) := by decide +kernel
theorem dX8_puts_23 : decode cX8_puts 23 = .ok (.iadd, 1) := by decide +kernel
theorem dX8_puts_24 : decode cX8_puts 24 = .ok (.aload_n 0, 1) := by decide +kernel
theorem dX8_puts_25 : decode cX8_puts 25 = .ok (.getfield 19, 3) := by decide +kernel
theorem dX8_puts_28 : decode cX8_puts 28 = .ok (.iload 4, 2) := by decide +kernel
theorem dX8_puts_30 : decode cX8_puts 30 = .ok (.iaload, 1) := by decide +kernel
theorem dX8_puts_31 : decode cX8_puts 31 = .ok (.iastore, 1) := by decide +kernel
theorem dX8_puts_32 : decode cX8_puts 32 = .ok (.iinc 4 1, 3) := by decide +kernel
theorem dX8_puts_35 : decode cX8_puts 35 = .ok (.goto (-32), 3) := by decide +kernel
theorem dX8_puts_38 : decode cX8_puts 38 = .ok (.iload_n 1, 1) := by decide +kernel
theorem dX8_puts_39 : decode cX8_puts 39 = .ok (.ifCond .lt 39, 3) := by decide +kernel
theorem dX8_puts_42 : decode cX8_puts 42 = .ok (.aload_n 0, 1) := by decide +kernel
theorem dX8_puts_43 : decode cX8_puts 43 = .ok (.getfield 22, 3) := by decide +kernel
theorem dX8_puts_46 : decode cX8_puts 46 = .ok (.bipush 12, 2) := by decide +kernel
theorem dX8_puts_48 : decode cX8_puts 48 = .ok (.aload_n 0, 1) := by decide +kernel
theorem dX8_puts_49 : decode cX8_puts 49 = .ok (.getfield 234, 3) := by decide +kernel
theorem dX8_puts_52 : decode cX8_puts 52 = .ok (.imul, 1) := by decide +kernel
theorem dX8_puts_53 : decode cX8_puts 53 = .ok (.iconst 2, 1) := by decide +kernel
theorem dX8_puts_54 : decode cX8_puts 54 = .ok (.iload_n 1, 1) := by decide +kernel
theorem dX8_puts_55 : decode cX8_puts 55 = .ok (.imul, 1) := by decide +kernel
theorem dX8_puts_56 : decode cX8_puts 56 = .ok (.iadd, 1) := by decide +kernel
theorem dX8_puts_57 : decode cX8_puts 57 = .ok (.iload_n 2, 1) := by decide +kernel
theorem dX8_puts_58 : decode cX8_puts 58 = .ok (.iastore, 1) := by decide +kernel
theorem dX8_puts_59 : decode cX8_puts 59 = .ok (.aload_n 0, 1) := by decide +kernel
theorem dX8_puts_60 : decode cX8_puts 60 = .ok (.getfield 22, 3) := by decide +kernel
theorem dX8_puts_63 : decode cX8_puts 63 = .ok (.bipush 12, 2) := by decide +kernel
theorem dX8_puts_65 : decode cX8_puts 65 = .ok (.aload_n 0, 1) := by decide +kernel
theorem dX8_puts_66 : decode cX8_puts 66 = .ok (.getfield 234, 3) := by decide +kernel
theorem dX8_puts_69 : decode cX8_puts 69 = .ok (.imul, 1) := by decide +kernel
theorem dX8_puts_70 : decode cX8_puts 70 = .ok (.iconst 2, 1) := by decide +kernel
theorem dX8_puts_71 : decode cX8_puts 71 = .ok (.iload_n 1, 1) := by decide +kernel
theorem dX8_puts_72 : decode cX8_puts 72 = .ok (.imul, 1) := by decide +kernel
theorem dX8_puts_73 : decode cX8_puts 73 = .ok (.iadd, 1) := by decide +kernel
theorem dX8_puts_74 : decode cX8_puts 74 = .ok (.iconst 1, 1) := by decide +kernel
theorem dX8_puts_75 : decode cX8_puts 75 = .ok (.iadd, 1) := by decide +kernel
theorem dX8_puts_76 : decode cX8_puts 76 = .ok (.iload_n 3, 1) := by decide +kernel
theorem dX8_puts_77 : decode cX8_puts 77 = .ok (.iastore, 1) := by decide +kernel
theorem dX8_puts_78 : decode cX8_puts 78 = .ok (.aload_n 0, 1) := by decide +kernel
theorem dX8_puts_79 : decode cX8_puts 79 = .ok (.dup, 1) := by decide +kernel
theorem dX8_puts_80 : decode cX8_puts 80 = .ok (.getfield 234, 3) := by decide +kernel
theorem dX8_puts_83 : decode cX8_puts 83 = .ok (.iconst 1, 1) := by decide +kernel
theorem dX8_puts_84 : decode cX8_puts 84 = .ok (.iadd, 1) := by decide +kernel
theorem dX8_puts_85 : decode cX8_puts 85 = .ok (.putfield 234, 3) := by decide +kernel
theorem dX8_puts_88 : decode cX8_puts 88 = .ok (.return_, 1) := by decide +kernel
set_option maxRecDepth 20000 in
theorem ggX8_allHold_X8_rules : GoodIn wsX8_allHold wsX8_rules := goodIn_r _ [5, 6, 48, 49, 50, 51, 52, 53, 54, 55, 56, 57, 58, 59, 60, 61, 62, 63, 64] (by decide +kernel) (by decide +kernel)
set_option maxRecDepth 20000 in
theorem gX8_allHold_X8_rules : GoodIn wsX8_allHold (wsV RX8 51 RX8 yX8_rules wsX8_rules) := goodIn_app (goodIn_of _ (by decide +kernel)) ggX8_allHold_X8_rules
set_option maxRecDepth 20000 in
theorem ggX8_allHold_X8_ruleAt : GoodIn wsX8_allHold wsX8_ruleAt := goodIn_r _ [10, 6, 48, 49, 50, 51, 52, 53, 54, 55, 56, 57, 58, 59, 60, 61, 62, 63, 64] (by decide +kernel) (by decide +kernel)
set_option maxRecDepth 20000 in
theorem gX8_allHold_X8_ruleAt : GoodIn wsX8_allHold (wsV RX8 100 RX8 yX8_ruleAt wsX8_ruleAt) := goodIn_app (goodIn_of _ (by decide +kernel)) ggX8_allHold_X8_ruleAt
set_option maxRecDepth 20000 in
theorem ggX8_allHold_X8_low : GoodIn wsX8_allHold wsX8_low := goodIn_r _ [14, 15, 48, 49, 50, 51, 52, 53, 54, 55, 56, 57, 58, 59, 60, 61, 62, 63, 64] (by decide +kernel) (by decide +kernel)
set_option maxRecDepth 20000 in
theorem gX8_allHold_X8_low : GoodIn wsX8_allHold (wsV RX8 128 RX8 yX8_low wsX8_low) := goodIn_app (goodIn_of _ (by decide +kernel)) ggX8_allHold_X8_low
set_option maxRecDepth 20000 in
theorem ggX8_allHold_X8_holds : GoodIn wsX8_allHold wsX8_holds := goodIn_r _ [18, 19, 20, 4, 21, 22, 23, 24, 25, 26, 27, 28, 29, 30, 31, 32, 33, 34, 35, 36, 37, 38, 39, 40, 41, 42, 43, 44, 45, 46, 47] (by decide +kernel) (by decide +kernel)
set_option maxRecDepth 20000 in
theorem gX8_allHold_X8_holds : GoodIn wsX8_allHold (va_wsS RX8 230 yX8_holds wsX8_holds) := goodIn_app (goodIn_of _ (by decide +kernel)) ggX8_allHold_X8_holds
theorem dX8_allHold_0 : decode cX8_allHold 0 = .ok (.iconst 1, 1) := by decide +kernel
theorem dX8_allHold_1 : decode cX8_allHold 1 = .ok (.istore_n 1, 1) := by decide +kernel
theorem dX8_allHold_2 : decode cX8_allHold 2 = .ok (.iconst 0, 1) := by decide +kernel
theorem dX8_allHold_3 : decode cX8_allHold 3 = .ok (.istore_n 2, 1) := by decide +kernel
theorem dX8_allHold_4 : decode cX8_allHold 4 = .ok (.iload_n 2, 1) := by decide +kernel
theorem dX8_allHold_5 : decode cX8_allHold 5 = .ok (.aload_n 0, 1) := by decide +kernel
theorem dX8_allHold_6 : decode cX8_allHold 6 = .ok (.invokevirtual 51, 3) := by decide +kernel
theorem dX8_allHold_9 : decode cX8_allHold 9 = .ok (.if_icmp .ge 61, 3) := by decide +kernel
theorem dX8_allHold_12 : decode cX8_allHold 12 = .ok (.iload_n 1, 1) := by decide +kernel
theorem dX8_allHold_13 : decode cX8_allHold 13 = .ok (.ifCond .eq 49, 3) := by decide +kernel
theorem dX8_allHold_16 : decode cX8_allHold 16 = .ok (.aload_n 0, 1) := by decide +kernel
theorem dX8_allHold_17 : decode cX8_allHold 17 = .ok (.iload_n 2, 1) := by decide +kernel
theorem dX8_allHold_18 : decode cX8_allHold 18 = .ok (.iconst 0, 1) := by decide +kernel
theorem dX8_allHold_19 : decode cX8_allHold 19 = .ok (.invokevirtual 100, 3) := by decide +kernel
theorem dX8_allHold_22 : decode cX8_allHold 22 = .ok (.aload_n 0, 1) := by decide +kernel
theorem dX8_allHold_23 : decode cX8_allHold 23 = .ok (.aload_n 0, 1) := by decide +kernel
theorem dX8_allHold_24 : decode cX8_allHold 24 = .ok (.iload_n 2, 1) := by decide +kernel
theorem dX8_allHold_25 : decode cX8_allHold 25 = .ok (.iconst 1, 1) := by decide +kernel
theorem dX8_allHold_26 : decode cX8_allHold 26 = .ok (.invokevirtual 100, 3) := by decide +kernel
theorem dX8_allHold_29 : decode cX8_allHold 29 = .ok (.invokevirtual 128, 3) := by decide +kernel
theorem dX8_allHold_32 : decode cX8_allHold 32 = .ok (.aload_n 0, 1) := by decide +kernel
theorem dX8_allHold_33 : decode cX8_allHold 33 = .ok (.aload_n 0, 1) := by decide +kernel
theorem dX8_allHold_34 : decode cX8_allHold 34 = .ok (.iload_n 2, 1) := by decide +kernel
theorem dX8_allHold_35 : decode cX8_allHold 35 = .ok (.iconst 2, 1) := by decide +kernel
theorem dX8_allHold_36 : decode cX8_allHold 36 = .ok (.invokevirtual 100, 3) := by decide +kernel
theorem dX8_allHold_39 : decode cX8_allHold 39 = .ok (.invokevirtual 128, 3) := by decide +kernel
theorem dX8_allHold_42 : decode cX8_allHold 42 = .ok (.aload_n 0, 1) := by decide +kernel
theorem dX8_allHold_43 : decode cX8_allHold 43 = .ok (.aload_n 0, 1) := by decide +kernel
theorem dX8_allHold_44 : decode cX8_allHold 44 = .ok (.iload_n 2, 1) := by decide +kernel
theorem dX8_allHold_45 : decode cX8_allHold 45 = .ok (.iconst 3, 1) := by decide +kernel
theorem dX8_allHold_46 : decode cX8_allHold 46 = .ok (.invokevirtual 100, 3) := by decide +kernel
theorem dX8_allHold_49 : decode cX8_allHold 49 = .ok (.invokevirtual 128, 3) := by decide +kernel
theorem dX8_allHold_52 : decode cX8_allHold 52 = .ok (.invokestatic 230, 3) := by decide +kernel
theorem dX8_allHold_55 : decode cX8_allHold 55 = .ok (.ifCond .eq 7, 3) := by decide +kernel
theorem dX8_allHold_58 : decode cX8_allHold 58 = .ok (.iconst 1, 1) := by decide +kernel
theorem dX8_allHold_59 : decode cX8_allHold 59 = .ok (.goto 4, 3) := by decide +kernel
theorem dX8_allHold_62 : decode cX8_allHold 62 = .ok (.iconst 0, 1) := by decide +kernel
theorem dX8_allHold_63 : decode cX8_allHold 63 = .ok (.istore_n 1, 1) := by decide +kernel
theorem dX8_allHold_64 : decode cX8_allHold 64 = .ok (.iinc 2 1, 3) := by decide +kernel
theorem dX8_allHold_67 : decode cX8_allHold 67 = .ok (.goto (-63), 3) := by decide +kernel
theorem dX8_allHold_70 : decode cX8_allHold 70 = .ok (.iload_n 1, 1) := by decide +kernel
theorem dX8_allHold_71 : decode cX8_allHold 71 = .ok (.ireturn, 1) := by decide +kernel
set_option maxRecDepth 20000 in
theorem ggX8_widest_X8_unknowns : GoodIn wsX8_widest wsX8_unknowns := goodIn_r _ [5, 6, 16, 17, 18, 19, 20, 21, 22, 23, 24, 25, 26, 27, 28, 29, 30, 31, 32] (by decide +kernel) (by decide +kernel)
set_option maxRecDepth 20000 in
theorem gX8_widest_X8_unknowns : GoodIn wsX8_widest (wsV RX8 47 RX8 yX8_unknowns wsX8_unknowns) := goodIn_app (goodIn_of _ (by decide +kernel)) ggX8_widest_X8_unknowns
set_option maxRecDepth 20000 in
theorem ggX8_widest_X8_high : GoodIn wsX8_widest wsX8_high := goodIn_r _ [10, 11, 16, 17, 18, 19, 20, 21, 22, 23, 24, 25, 26, 27, 28, 29, 30, 31, 32] (by decide +kernel) (by decide +kernel)
set_option maxRecDepth 20000 in
theorem gX8_widest_X8_high : GoodIn wsX8_widest (wsV RX8 131 RX8 yX8_high wsX8_high) := goodIn_app (goodIn_of _ (by decide +kernel)) ggX8_widest_X8_high
set_option maxRecDepth 20000 in
theorem ggX8_widest_X8_low : GoodIn wsX8_widest wsX8_low := goodIn_r _ [15, 11, 16, 17, 18, 19, 20, 21, 22, 23, 24, 25, 26, 27, 28, 29, 30, 31, 32] (by decide +kernel) (by decide +kernel)
set_option maxRecDepth 20000 in
theorem gX8_widest_X8_low : GoodIn wsX8_widest (wsV RX8 128 RX8 yX8_low wsX8_low) := goodIn_app (goodIn_of _ (by decide +kernel)) ggX8_widest_X8_low
theorem dX8_widest_0 : decode cX8_widest 0 = .ok (.iconst (-1), 1) := by decide +kernel
theorem dX8_widest_1 : decode cX8_widest 1 = .ok (.istore_n 1, 1) := by decide +kernel
theorem dX8_widest_2 : decode cX8_widest 2 = .ok (.lconst 0, 1) := by decide +kernel
theorem dX8_widest_3 : decode cX8_widest 3 = .ok (.lstore_n 2, 1) := by decide +kernel
theorem dX8_widest_4 : decode cX8_widest 4 = .ok (.iconst 0, 1) := by decide +kernel
theorem dX8_widest_5 : decode cX8_widest 5 = .ok (.istore 4, 2) := by decide +kernel
theorem dX8_widest_7 : decode cX8_widest 7 = .ok (.iload 4, 2) := by decide +kernel
theorem dX8_widest_9 : decode cX8_widest 9 = .ok (.aload_n 0, 1) := by decide +kernel
theorem dX8_widest_10 : decode cX8_widest 10 = .ok (.invokevirtual 47, 3) := by decide +kernel
theorem dX8_widest_13 : decode cX8_widest 13 = .ok (.if_icmp .ge 54, 3) := by decide +kernel
theorem dX8_widest_16 : decode cX8_widest 16 = .ok (.aload_n 0, 1) := by decide +kernel
theorem dX8_widest_17 : decode cX8_widest 17 = .ok (.iload 4, 2) := by decide +kernel
theorem dX8_widest_19 : decode cX8_widest 19 = .ok (.invokevirtual 131, 3) := by decide +kernel
theorem dX8_widest_22 : decode cX8_widest 22 = .ok (.i2l, 1) := by decide +kernel
theorem dX8_widest_23 : decode cX8_widest 23 = .ok (.aload_n 0, 1) := by decide +kernel
theorem dX8_widest_24 : decode cX8_widest 24 = .ok (.iload 4, 2) := by decide +kernel
theorem dX8_widest_26 : decode cX8_widest 26 = .ok (.invokevirtual 128, 3) := by decide +kernel
theorem dX8_widest_29 : decode cX8_widest 29 = .ok (.i2l, 1) := by decide +kernel
theorem dX8_widest_30 : decode cX8_widest 30 = .ok (.lsub, 1) := by decide +kernel
theorem dX8_widest_31 : decode cX8_widest 31 = .ok (.lstore 5, 2) := by decide +kernel
theorem dX8_widest_33 : decode cX8_widest 33 = .ok (.lload 5, 2) := by decide +kernel
theorem dX8_widest_35 : decode cX8_widest 35 = .ok (.lload_n 2, 1) := by decide +kernel
theorem dX8_widest_36 : decode cX8_widest 36 = .ok (.lcmp, 1) := by decide +kernel
theorem dX8_widest_37 : decode cX8_widest 37 = .ok (.ifCond .le 8, 3) := by decide +kernel
theorem dX8_widest_40 : decode cX8_widest 40 = .ok (.iload 4, 2) := by decide +kernel
theorem dX8_widest_42 : decode cX8_widest 42 = .ok (.goto 4, 3) := by decide +kernel
theorem dX8_widest_45 : decode cX8_widest 45 = .ok (.iload_n 1, 1) := by decide +kernel
theorem dX8_widest_46 : decode cX8_widest 46 = .ok (.istore_n 1, 1) := by decide +kernel
theorem dX8_widest_47 : decode cX8_widest 47 = .ok (.lload 5, 2) := by decide +kernel
theorem dX8_widest_49 : decode cX8_widest 49 = .ok (.lload_n 2, 1) := by decide +kernel
theorem dX8_widest_50 : decode cX8_widest 50 = .ok (.lcmp, 1) := by decide +kernel
theorem dX8_widest_51 : decode cX8_widest 51 = .ok (.ifCond .le 8, 3) := by decide +kernel
theorem dX8_widest_54 : decode cX8_widest 54 = .ok (.lload 5, 2) := by decide +kernel
theorem dX8_widest_56 : decode cX8_widest 56 = .ok (.goto 4, 3) := by decide +kernel
theorem dX8_widest_59 : decode cX8_widest 59 = .ok (.lload_n 2, 1) := by decide +kernel
theorem dX8_widest_60 : decode cX8_widest 60 = .ok (.lstore_n 2, 1) := by decide +kernel
theorem dX8_widest_61 : decode cX8_widest 61 = .ok (.iinc 4 1, 3) := by decide +kernel
theorem dX8_widest_64 : decode cX8_widest 64 = .ok (.goto (-57), 3) := by decide +kernel
theorem dX8_widest_67 : decode cX8_widest 67 = .ok (.iload_n 1, 1) := by decide +kernel
theorem dX8_widest_68 : decode cX8_widest 68 = .ok (.ireturn, 1) := by decide +kernel
set_option maxRecDepth 20000 in
theorem ggX8_takesBox_X8_cutsAll : GoodIn wsX8_takesBox wsX8_cutsAll := goodIn_r _ [11, 12, 5, 13, 14, 15, 10, 16, 17, 18, 19, 20, 21, 22, 23, 24, 25, 26, 27, 28, 29, 30, 31, 32, 33, 3, 34, 35, 36, 37, 38, 39, 40, 41, 42, 43, 44, 45, 46, 47, 48, 49, 50, 51, 52, 53, 54, 55, 56, 57, 58, 59, 60, 61, 62, 63, 64, 65, 66, 67, 68, 69, 70, 71, 72, 73, 74, 75, 76, 77, 78, 79, 80, 81, 82, 83, 84, 85, 86, 87, 88, 89, 90, 91, 92, 93, 94, 95, 96, 97, 98, 99, 100, 101, 102, 103, 104, 105, 106, 107, 108, 109, 110, 111, 112, 113, 114, 115, 116, 117, 118, 119, 120, 121, 122, 123, 124, 125, 126, 127, 128, 129, 130, 131, 132, 133, 134, 135, 155, 156, 157, 158, 159, 160, 161, 162, 163, 164, 165, 166, 167, 168, 169, 170, 171] (by decide +kernel) (by decide +kernel)
set_option maxRecDepth 20000 in
theorem gX8_takesBox_X8_cutsAll : GoodIn wsX8_takesBox (wsV RX8 218 RX8 yX8_cutsAll wsX8_cutsAll) := goodIn_app (goodIn_of _ (by decide +kernel)) ggX8_takesBox_X8_cutsAll
set_option maxRecDepth 20000 in
theorem ggX8_takesBox_X8_widest : GoodIn wsX8_takesBox wsX8_widest := goodIn_r _ [139, 140, 141, 142, 10, 143, 17, 60, 61, 62, 63, 3, 30, 31, 32, 33, 155, 156, 157, 158, 159, 160, 161, 162, 163, 164, 165, 166, 167, 168, 169, 170, 171] (by decide +kernel) (by decide +kernel)
set_option maxRecDepth 20000 in
theorem gX8_takesBox_X8_widest : GoodIn wsX8_takesBox (wsV RX8 240 RX8 yX8_widest wsX8_widest) := goodIn_app (goodIn_of _ (by decide +kernel)) ggX8_takesBox_X8_widest
set_option maxRecDepth 20000 in
theorem ggX8_takesBox_X8_allHold : GoodIn wsX8_takesBox wsX8_allHold := goodIn_r _ [147, 13, 14, 15, 10, 16, 17, 22, 23, 24, 25, 30, 31, 32, 33, 3, 148, 149, 150, 34, 35, 36, 37, 38, 39, 40, 41, 42, 43, 44, 45, 46, 47, 48, 49, 50, 51, 52, 53, 54, 55, 56, 57, 58, 59, 85, 86, 87, 155, 156, 157, 158, 159, 160, 161, 162, 163, 164, 165, 166, 167, 168, 169, 170, 171] (by decide +kernel) (by decide +kernel)
set_option maxRecDepth 20000 in
theorem gX8_takesBox_X8_allHold : GoodIn wsX8_takesBox (wsV RX8 243 RX8 yX8_allHold wsX8_allHold) := goodIn_app (goodIn_of _ (by decide +kernel)) ggX8_takesBox_X8_allHold
set_option maxRecDepth 20000 in
theorem ggX8_takesBox_X8_low : GoodIn wsX8_takesBox wsX8_low := goodIn_r _ [33, 3, 155, 156, 157, 158, 159, 160, 161, 162, 163, 164, 165, 166, 167, 168, 169, 170, 171] (by decide +kernel) (by decide +kernel)
set_option maxRecDepth 20000 in
theorem gX8_takesBox_X8_low : GoodIn wsX8_takesBox (wsV RX8 128 RX8 yX8_low wsX8_low) := goodIn_app (goodIn_of _ (by decide +kernel)) ggX8_takesBox_X8_low
set_option maxRecDepth 20000 in
theorem ggX8_takesBox_X8_high : GoodIn wsX8_takesBox wsX8_high := goodIn_r _ [63, 3, 155, 156, 157, 158, 159, 160, 161, 162, 163, 164, 165, 166, 167, 168, 169, 170, 171] (by decide +kernel) (by decide +kernel)
set_option maxRecDepth 20000 in
theorem gX8_takesBox_X8_high : GoodIn wsX8_takesBox (wsV RX8 131 RX8 yX8_high wsX8_high) := goodIn_app (goodIn_of _ (by decide +kernel)) ggX8_takesBox_X8_high
set_option maxRecDepth 20000 in
theorem ggX8_takesBox_X8_floorHalf : GoodIn wsX8_takesBox wsX8_floorHalf := goodIn_r _ [77, 78] (by decide +kernel) (by decide +kernel)
set_option maxRecDepth 20000 in
theorem gX8_takesBox_X8_floorHalf : GoodIn wsX8_takesBox (va_wsS RX8 141 yX8_floorHalf wsX8_floorHalf) := goodIn_app (goodIn_of _ (by decide +kernel)) ggX8_takesBox_X8_floorHalf
set_option maxRecDepth 20000 in
theorem ggX8_takesBox_X8_puts : GoodIn wsX8_takesBox wsX8_puts := goodIn_r _ [154, 4, 1, 3, 155, 156, 157, 158, 159, 160, 161, 162, 163, 164, 165, 166, 167, 168, 169, 170, 171] (by decide +kernel) (by decide +kernel)
set_option maxRecDepth 20000 in
theorem gX8_takesBox_X8_puts : GoodIn wsX8_takesBox (wsV RX8 250 RX8 yX8_puts wsX8_puts) := goodIn_app (goodIn_of _ (by decide +kernel)) ggX8_takesBox_X8_puts
theorem dX8_takesBox_0 : decode cX8_takesBox 0 = .ok (.aload_n 0, 1) := by decide +kernel
theorem dX8_takesBox_1 : decode cX8_takesBox 1 = .ok (.dup, 1) := by decide +kernel
theorem dX8_takesBox_2 : decode cX8_takesBox 2 = .ok (.getfield 234, 3) := by decide +kernel
theorem dX8_takesBox_5 : decode cX8_takesBox 5 = .ok (.iconst 1, 1) := by decide +kernel
theorem dX8_takesBox_6 : decode cX8_takesBox 6 = .ok (.isub, 1) := by decide +kernel
theorem dX8_takesBox_7 : decode cX8_takesBox 7 = .ok (.putfield 234, 3) := by decide +kernel
theorem dX8_takesBox_10 : decode cX8_takesBox 10 = .ok (.aload_n 0, 1) := by decide +kernel
theorem dX8_takesBox_11 : decode cX8_takesBox 11 = .ok (.dup, 1) := by decide +kernel
theorem dX8_takesBox_12 : decode cX8_takesBox 12 = .ok (.getfield 237, 3) := by decide +kernel
theorem dX8_takesBox_15 : decode cX8_takesBox 15 = .ok (.iconst 1, 1) := by decide +kernel
theorem dX8_takesBox_16 : decode cX8_takesBox 16 = .ok (.iadd, 1) := by decide +kernel
theorem dX8_takesBox_17 : decode cX8_takesBox 17 = .ok (.putfield 237, 3) := by decide +kernel
theorem dX8_takesBox_20 : decode cX8_takesBox 20 = .ok (.iconst 0, 1) := by decide +kernel
theorem dX8_takesBox_21 : decode cX8_takesBox 21 = .ok (.istore_n 1, 1) := by decide +kernel
theorem dX8_takesBox_22 : decode cX8_takesBox 22 = .ok (.iload_n 1, 1) := by decide +kernel
theorem dX8_takesBox_23 : decode cX8_takesBox 23 = .ok (.bipush 12, 2) := by decide +kernel
theorem dX8_takesBox_25 : decode cX8_takesBox 25 = .ok (.if_icmp .ge 29, 3) := by decide +kernel
theorem dX8_takesBox_28 : decode cX8_takesBox 28 = .ok (.aload_n 0, 1) := by decide +kernel
theorem dX8_takesBox_29 : decode cX8_takesBox 29 = .ok (.getfield 19, 3) := by decide +kernel
theorem dX8_takesBox_32 : decode cX8_takesBox 32 = .ok (.iload_n 1, 1) := by decide +kernel
theorem dX8_takesBox_33 : decode cX8_takesBox 33 = .ok (.aload_n 0, 1) := by decide +kernel
theorem dX8_takesBox_34 : decode cX8_takesBox 34 = .ok (.getfield 22, 3) := by decide +kernel
theorem dX8_takesBox_37 : decode cX8_takesBox 37 = .ok (.bipush 12, 2) := by decide +kernel
theorem dX8_takesBox_39 : decode cX8_takesBox 39 = .ok (.aload_n 0, 1) := by decide +kernel
theorem dX8_takesBox_40 : decode cX8_takesBox 40 = .ok (.getfield 234, 3) := by decide +kernel
theorem dX8_takesBox_43 : decode cX8_takesBox 43 = .ok (.imul, 1) := by decide +kernel
theorem dX8_takesBox_44 : decode cX8_takesBox 44 = .ok (.iload_n 1, 1) := by decide +kernel
theorem dX8_takesBox_45 : decode cX8_takesBox 45 = .ok (.iadd, 1) := by decide +kernel
theorem dX8_takesBox_46 : decode cX8_takesBox 46 = .ok (.iaload, 1) := by decide +kernel
theorem dX8_takesBox_47 : decode cX8_takesBox 47 = .ok (.iastore, 1) := by decide +kernel
theorem dX8_takesBox_48 : decode cX8_takesBox 48 = .ok (.iinc 1 1, 3) := by decide +kernel
theorem dX8_takesBox_51 : decode cX8_takesBox 51 = .ok (.goto (-29), 3) := by decide +kernel
theorem dX8_takesBox_54 : decode cX8_takesBox 54 = .ok (.aload_n 0, 1) := by decide +kernel
theorem dX8_takesBox_55 : decode cX8_takesBox 55 = .ok (.iconst 0, 1) := by decide +kernel
theorem dX8_takesBox_56 : decode cX8_takesBox 56 = .ok (.putfield 124, 3) := by decide +kernel
theorem dX8_takesBox_59 : decode cX8_takesBox 59 = .ok (.aload_n 0, 1) := by decide +kernel
theorem dX8_takesBox_60 : decode cX8_takesBox 60 = .ok (.invokevirtual 218, 3) := by decide +kernel
theorem dX8_takesBox_63 : decode cX8_takesBox 63 = .ok (.istore_n 1, 1) := by decide +kernel
theorem dX8_takesBox_64 : decode cX8_takesBox 64 = .ok (.aload_n 0, 1) := by decide +kernel
theorem dX8_takesBox_65 : decode cX8_takesBox 65 = .ok (.getfield 124, 3) := by decide +kernel
theorem dX8_takesBox_68 : decode cX8_takesBox 68 = .ok (.ifCond .eq 4, 3) := by decide +kernel
theorem dX8_takesBox_71 : decode cX8_takesBox 71 = .ok (.return_, 1) := by decide +kernel
theorem dX8_takesBox_72 : decode cX8_takesBox 72 = .ok (.aload_n 0, 1) := by decide +kernel
theorem dX8_takesBox_73 : decode cX8_takesBox 73 = .ok (.invokevirtual 240, 3) := by decide +kernel
theorem dX8_takesBox_76 : decode cX8_takesBox 76 = .ok (.istore_n 2, 1) := by decide +kernel
theorem dX8_takesBox_77 : decode cX8_takesBox 77 = .ok (.iload_n 2, 1) := by decide +kernel
theorem dX8_takesBox_78 : decode cX8_takesBox 78 = .ok (.ifCond .ge 12, 3) := by decide +kernel
theorem dX8_takesBox_81 : decode cX8_takesBox 81 = .ok (.aload_n 0, 1) := by decide +kernel
theorem dX8_takesBox_82 : decode cX8_takesBox 82 = .ok (.aload_n 0, 1) := by decide +kernel
theorem dX8_takesBox_83 : decode cX8_takesBox 83 = .ok (.invokevirtual 243, 3) := by decide +kernel
theorem dX8_takesBox_86 : decode cX8_takesBox 86 = .ok (.putfield 247, 3) := by decide +kernel
theorem dX8_takesBox_89 : decode cX8_takesBox 89 = .ok (.return_, 1) := by decide +kernel
theorem dX8_takesBox_90 : decode cX8_takesBox 90 = .ok (.aload_n 0, 1) := by decide +kernel
theorem dX8_takesBox_91 : decode cX8_takesBox 91 = .ok (.iload_n 2, 1) := by decide +kernel
theorem dX8_takesBox_92 : decode cX8_takesBox 92 = .ok (.invokevirtual 128, 3) := by decide +kernel
theorem dX8_takesBox_95 : decode cX8_takesBox 95 = .ok (.istore_n 3, 1) := by decide +kernel
theorem dX8_takesBox_96 : decode cX8_takesBox 96 = .ok (.aload_n 0, 1) := by decide +kernel
theorem dX8_takesBox_97 : decode cX8_takesBox 97 = .ok (.iload_n 2, 1) := by decide +kernel
theorem dX8_takesBox_98 : decode cX8_takesBox 98 = .ok (.invokevirtual 131, 3) := by decide +kernel
theorem dX8_takesBox_101 : decode cX8_takesBox 101 = .ok (.istore 4, 2) := by decide +kernel
theorem dX8_takesBox_103 : decode cX8_takesBox 103 = .ok (.iload_n 3, 1) := by decide +kernel
theorem dX8_takesBox_104 : decode cX8_takesBox 104 = .ok (.i2l, 1) := by decide +kernel
theorem dX8_takesBox_105 : decode cX8_takesBox 105 = .ok (.iload 4, 2) := by decide +kernel
theorem dX8_takesBox_107 : decode cX8_takesBox 107 = .ok (.i2l, 1) := by decide +kernel
theorem dX8_takesBox_108 : decode cX8_takesBox 108 = .ok (.ladd, 1) := by decide +kernel
theorem dX8_takesBox_109 : decode cX8_takesBox 109 = .ok (.invokestatic 141, 3) := by decide +kernel
theorem dX8_takesBox_112 : decode cX8_takesBox 112 = .ok (.l2i, 1) := by decide +kernel
theorem dX8_takesBox_113 : decode cX8_takesBox 113 = .ok (.istore 5, 2) := by decide +kernel
theorem dX8_takesBox_115 : decode cX8_takesBox 115 = .ok (.aload_n 0, 1) := by decide +kernel
theorem dX8_takesBox_116 : decode cX8_takesBox 116 = .ok (.iload_n 2, 1) := by decide +kernel
theorem dX8_takesBox_117 : decode cX8_takesBox 117 = .ok (.iload 5, 2) := by decide +kernel
theorem dX8_takesBox_119 : decode cX8_takesBox 119 = .ok (.iconst 1, 1) := by decide +kernel
theorem dX8_takesBox_120 : decode cX8_takesBox 120 = .ok (.iadd, 1) := by decide +kernel
theorem dX8_takesBox_121 : decode cX8_takesBox 121 = .ok (.iload 4, 2) := by decide +kernel
theorem dX8_takesBox_123 : decode cX8_takesBox 123 = .ok (.invokevirtual 250, 3) := by decide +kernel
theorem dX8_takesBox_126 : decode cX8_takesBox 126 = .ok (.aload_n 0, 1) := by decide +kernel
theorem dX8_takesBox_127 : decode cX8_takesBox 127 = .ok (.iload_n 2, 1) := by decide +kernel
theorem dX8_takesBox_128 : decode cX8_takesBox 128 = .ok (.iload_n 3, 1) := by decide +kernel
theorem dX8_takesBox_129 : decode cX8_takesBox 129 = .ok (.iload 5, 2) := by decide +kernel
theorem dX8_takesBox_131 : decode cX8_takesBox 131 = .ok (.invokevirtual 250, 3) := by decide +kernel
theorem dX8_takesBox_134 : decode cX8_takesBox 134 = .ok (.return_, 1) := by decide +kernel
set_option maxRecDepth 20000 in
theorem ggX8_solve_X8_laysBox : GoodIn wsX8_solve wsX8_laysBox := goodIn_r _ [8, 9, 10, 11, 12, 13, 7, 14, 15, 16, 17, 18, 19, 20, 21, 22, 23, 171, 172, 173, 174, 175, 176, 177, 178, 179, 180, 181, 182, 183, 184, 185, 186, 187] (by decide +kernel) (by decide +kernel)
set_option maxRecDepth 20000 in
theorem gX8_solve_X8_laysBox : GoodIn wsX8_solve (wsV RX8 215 RX8 yX8_laysBox wsX8_laysBox) := goodIn_app (goodIn_of _ (by decide +kernel)) ggX8_solve_X8_laysBox
set_option maxRecDepth 20000 in
theorem ggX8_solve_X8_puts : GoodIn wsX8_solve wsX8_puts := goodIn_r _ [27, 28, 1, 9, 171, 172, 173, 174, 175, 176, 177, 178, 179, 180, 181, 182, 183, 184, 185, 186, 187] (by decide +kernel) (by decide +kernel)
set_option maxRecDepth 20000 in
theorem gX8_solve_X8_puts : GoodIn wsX8_solve (wsV RX8 250 RX8 yX8_puts wsX8_puts) := goodIn_app (goodIn_of _ (by decide +kernel)) ggX8_solve_X8_puts
set_option maxRecDepth 20000 in
theorem ggX8_solve_X8_takesBox : GoodIn wsX8_solve wsX8_takesBox := goodIn_r _ [32, 1, 2, 9, 28, 10, 3, 33, 34, 35, 7, 36, 37, 38, 39, 40, 41, 15, 42, 43, 44, 45, 46, 47, 48, 49, 50, 51, 52, 53, 54, 55, 56, 57, 58, 59, 60, 61, 62, 63, 64, 65, 66, 67, 68, 69, 70, 71, 72, 73, 74, 75, 76, 77, 78, 79, 80, 81, 82, 83, 84, 85, 86, 87, 88, 89, 90, 91, 92, 93, 94, 95, 96, 97, 98, 99, 100, 101, 102, 103, 104, 105, 106, 107, 108, 109, 110, 111, 112, 113, 114, 115, 116, 117, 118, 119, 120, 121, 122, 123, 124, 125, 126, 127, 128, 129, 130, 131, 132, 133, 134, 135, 136, 137, 138, 139, 140, 141, 142, 143, 144, 145, 146, 147, 148, 149, 150, 151, 152, 153, 154, 155, 156, 157, 158, 159, 160, 161, 162, 163, 11, 12, 13, 14, 164, 165, 166, 167, 168, 169, 170, 24, 25, 26, 27, 171, 172, 173, 174, 175, 176, 177, 178, 179, 180, 181, 182, 183, 184, 185, 186, 187] (by decide +kernel) (by decide +kernel)
set_option maxRecDepth 20000 in
theorem gX8_solve_X8_takesBox : GoodIn wsX8_solve (wsV RX8 253 RX8 yX8_takesBox wsX8_takesBox) := goodIn_app (goodIn_of _ (by decide +kernel)) ggX8_solve_X8_takesBox
theorem dX8_solve_0 : decode cX8_solve 0 = .ok (.aload_n 0, 1) := by decide +kernel
theorem dX8_solve_1 : decode cX8_solve 1 = .ok (.invokevirtual 215, 3) := by decide +kernel
theorem dX8_solve_4 : decode cX8_solve 4 = .ok (.aload_n 0, 1) := by decide +kernel
theorem dX8_solve_5 : decode cX8_solve 5 = .ok (.iconst 0, 1) := by decide +kernel
theorem dX8_solve_6 : decode cX8_solve 6 = .ok (.putfield 234, 3) := by decide +kernel
theorem dX8_solve_9 : decode cX8_solve 9 = .ok (.aload_n 0, 1) := by decide +kernel
theorem dX8_solve_10 : decode cX8_solve 10 = .ok (.iconst 0, 1) := by decide +kernel
theorem dX8_solve_11 : decode cX8_solve 11 = .ok (.putfield 237, 3) := by decide +kernel
theorem dX8_solve_14 : decode cX8_solve 14 = .ok (.aload_n 0, 1) := by decide +kernel
theorem dX8_solve_15 : decode cX8_solve 15 = .ok (.iconst 0, 1) := by decide +kernel
theorem dX8_solve_16 : decode cX8_solve 16 = .ok (.putfield 247, 3) := by decide +kernel
theorem dX8_solve_19 : decode cX8_solve 19 = .ok (.aload_n 0, 1) := by decide +kernel
theorem dX8_solve_20 : decode cX8_solve 20 = .ok (.iconst (-1), 1) := by decide +kernel
theorem dX8_solve_21 : decode cX8_solve 21 = .ok (.iconst 0, 1) := by decide +kernel
theorem dX8_solve_22 : decode cX8_solve 22 = .ok (.iconst 0, 1) := by decide +kernel
theorem dX8_solve_23 : decode cX8_solve 23 = .ok (.invokevirtual 250, 3) := by decide +kernel
theorem dX8_solve_26 : decode cX8_solve 26 = .ok (.aload_n 0, 1) := by decide +kernel
theorem dX8_solve_27 : decode cX8_solve 27 = .ok (.getfield 247, 3) := by decide +kernel
theorem dX8_solve_30 : decode cX8_solve 30 = .ok (.ifCond .ne 25, 3) := by decide +kernel
theorem dX8_solve_33 : decode cX8_solve 33 = .ok (.aload_n 0, 1) := by decide +kernel
theorem dX8_solve_34 : decode cX8_solve 34 = .ok (.getfield 234, 3) := by decide +kernel
theorem dX8_solve_37 : decode cX8_solve 37 = .ok (.ifCond .le 18, 3) := by decide +kernel
theorem dX8_solve_40 : decode cX8_solve 40 = .ok (.aload_n 0, 1) := by decide +kernel
theorem dX8_solve_41 : decode cX8_solve 41 = .ok (.getfield 237, 3) := by decide +kernel
theorem dX8_solve_44 : decode cX8_solve 44 = .ok (.iload_n 1, 1) := by decide +kernel
theorem dX8_solve_45 : decode cX8_solve 45 = .ok (.if_icmp .ge 10, 3) := by decide +kernel
theorem dX8_solve_48 : decode cX8_solve 48 = .ok (.aload_n 0, 1) := by decide +kernel
theorem dX8_solve_49 : decode cX8_solve 49 = .ok (.invokevirtual 253, 3) := by decide +kernel
theorem dX8_solve_52 : decode cX8_solve 52 = .ok (.goto (-26), 3) := by decide +kernel
theorem dX8_solve_55 : decode cX8_solve 55 = .ok (.return_, 1) := by decide +kernel
set_option maxRecDepth 20000 in
theorem ggX8_solved_X8_solve : GoodIn wsX8_solved wsX8_solve := goodIn_r _ [8, 2, 3, 1, 9, 10, 11, 7, 12, 13, 14, 15, 16, 17, 18, 19, 20, 21, 22, 23, 24, 25, 26, 27, 28, 29, 30, 31, 32, 33, 34, 35, 36, 37, 38, 39, 40, 41, 42, 43, 44, 45, 46, 47, 48, 49, 50, 51, 52, 53, 54, 55, 56, 57, 58, 59, 60, 61, 62, 63, 64, 65, 66, 67, 68, 69, 70, 71, 72, 73, 74, 75, 76, 77, 78, 79, 80, 81, 82, 83, 84, 85, 86, 87, 88, 89, 90, 91, 92, 93, 94, 95, 96, 97, 98, 99, 100, 101, 102, 103, 104, 105, 106, 107, 108, 109, 110, 111, 112, 113, 114, 115, 116, 117, 118, 119, 120, 121, 122, 123, 124, 125, 126, 127, 128, 129, 130, 131, 132, 133, 134, 135, 136, 137, 138, 139, 140, 141, 142, 143, 144, 145, 146, 147, 148, 149, 150, 151, 152, 153, 154, 155, 156, 157, 158, 159, 160, 161, 162, 163, 164, 165, 166, 167, 168, 169, 170, 171, 172, 173, 174, 175, 176, 177, 178, 179, 180, 181, 182, 183, 184, 185, 186, 187, 188, 189, 190, 191] (by decide +kernel) (by decide +kernel)
set_option maxRecDepth 20000 in
theorem gX8_solved_X8_solve : GoodIn wsX8_solved (wsV RX8 256 RX8 yX8_solve wsX8_solve) := goodIn_app (goodIn_of _ (by decide +kernel)) ggX8_solved_X8_solve
theorem dX8_solved_0 : decode cX8_solved 0 = .ok (.aload_n 0, 1) := by decide +kernel
theorem dX8_solved_1 : decode cX8_solved 1 = .ok (.iload_n 1, 1) := by decide +kernel
theorem dX8_solved_2 : decode cX8_solved 2 = .ok (.invokevirtual 256, 3) := by decide +kernel
theorem dX8_solved_5 : decode cX8_solved 5 = .ok (.iload_n 2, 1) := by decide +kernel
theorem dX8_solved_6 : decode cX8_solved 6 = .ok (.ifCond .ne 29, 3) := by decide +kernel
theorem dX8_solved_9 : decode cX8_solved 9 = .ok (.aload_n 0, 1) := by decide +kernel
theorem dX8_solved_10 : decode cX8_solved 10 = .ok (.getfield 247, 3) := by decide +kernel
theorem dX8_solved_13 : decode cX8_solved 13 = .ok (.ifCond .eq 7, 3) := by decide +kernel
theorem dX8_solved_16 : decode cX8_solved 16 = .ok (.iconst 0, 1) := by decide +kernel
theorem dX8_solved_17 : decode cX8_solved 17 = .ok (.goto 34, 3) := by decide +kernel
theorem dX8_solved_20 : decode cX8_solved 20 = .ok (.aload_n 0, 1) := by decide +kernel
theorem dX8_solved_21 : decode cX8_solved 21 = .ok (.getfield 234, 3) := by decide +kernel
theorem dX8_solved_24 : decode cX8_solved 24 = .ok (.ifCond .ne 7, 3) := by decide +kernel
theorem dX8_solved_27 : decode cX8_solved 27 = .ok (.iconst 1, 1) := by decide +kernel
theorem dX8_solved_28 : decode cX8_solved 28 = .ok (.goto 23, 3) := by decide +kernel
theorem dX8_solved_31 : decode cX8_solved 31 = .ok (.iconst 2, 1) := by decide +kernel
theorem dX8_solved_32 : decode cX8_solved 32 = .ok (.goto 19, 3) := by decide +kernel
theorem dX8_solved_35 : decode cX8_solved 35 = .ok (.iload_n 2, 1) := by decide +kernel
theorem dX8_solved_36 : decode cX8_solved 36 = .ok (.iconst 1, 1) := by decide +kernel
theorem dX8_solved_37 : decode cX8_solved 37 = .ok (.if_icmp .ne 10, 3) := by decide +kernel
theorem dX8_solved_40 : decode cX8_solved 40 = .ok (.aload_n 0, 1) := by decide +kernel
theorem dX8_solved_41 : decode cX8_solved 41 = .ok (.getfield 237, 3) := by decide +kernel
theorem dX8_solved_44 : decode cX8_solved 44 = .ok (.goto 7, 3) := by decide +kernel
theorem dX8_solved_47 : decode cX8_solved 47 = .ok (.aload_n 0, 1) := by decide +kernel
theorem dX8_solved_48 : decode cX8_solved 48 = .ok (.getfield 234, 3) := by decide +kernel
theorem dX8_solved_51 : decode cX8_solved 51 = .ok (.ireturn, 1) := by decide +kernel
set_option maxRecDepth 20000 in
theorem ggX8_solves_X8_in : GoodIn wsX8_solves wsX8_in := goodIn_r _ [7] (by decide +kernel) (by decide +kernel)
set_option maxRecDepth 20000 in
theorem gX8_solves_X8_in : GoodIn wsX8_solves (va_wsS RX8 38 yX8_in wsX8_in) := goodIn_app (goodIn_of _ (by decide +kernel)) ggX8_solves_X8_in
set_option maxRecDepth 20000 in
theorem ggX8_solves_X8_solved : GoodIn wsX8_solves wsX8_solved := goodIn_r _ [11, 12, 13, 14, 15, 16, 17, 6, 18, 19, 20, 21, 22, 23, 24, 25, 26, 27, 28, 29, 30, 31, 32, 33, 34, 35, 36, 37, 38, 39, 40, 41, 42, 43, 44, 45, 46, 47, 48, 49, 50, 51, 52, 53, 54, 55, 56, 57, 58, 59, 60, 61, 62, 63, 64, 65, 66, 67, 68, 69, 70, 71, 72, 73, 74, 75, 76, 77, 78, 79, 80, 81, 82, 83, 84, 85, 86, 87, 88, 89, 90, 91, 92, 93, 94, 95, 96, 97, 98, 99, 100, 101, 102, 103, 104, 105, 106, 107, 108, 109, 110, 111, 112, 113, 114, 115, 2, 116, 117, 118, 119, 120, 121, 122, 123, 124, 125, 126, 127, 128, 129, 130, 131, 132, 133, 134, 135, 136, 137, 138, 139, 140, 141, 142, 143, 144, 145, 146, 147, 148, 149, 150, 151, 152, 153, 154, 155, 156, 157, 158, 159, 160, 161, 162, 163, 164, 165, 166, 167, 168, 169, 170, 171, 172, 173, 174, 175, 176, 177, 178, 179, 180, 181, 182, 183, 189, 190, 191, 192, 193, 194, 195, 196, 197, 198, 199, 200, 201, 202, 203, 204, 205] (by decide +kernel) (by decide +kernel)
set_option maxRecDepth 20000 in
theorem gX8_solves_X8_solved : GoodIn wsX8_solves (wsV RX8 261 RX8 yX8_solved wsX8_solved) := goodIn_app (goodIn_of _ (by decide +kernel)) ggX8_solves_X8_solved
set_option maxRecDepth 20000 in
theorem ggX8_solves_X8_refuses : GoodIn wsX8_solves wsX8_refuses := goodIn_r _ [187, 188, 3, 189, 190, 191, 192, 193, 194, 195, 196, 197, 198, 199, 200, 201, 202, 203, 204, 205] (by decide +kernel) (by decide +kernel)
set_option maxRecDepth 20000 in
theorem gX8_solves_X8_refuses : GoodIn wsX8_solves (wsV RX8 87 RX8 yX8_refuses wsX8_refuses) := goodIn_app (goodIn_of _ (by decide +kernel)) ggX8_solves_X8_refuses
theorem dX8_solves_0 : decode cX8_solves 0 = .ok (.iload_n 1, 1) := by decide +kernel
theorem dX8_solves_1 : decode cX8_solves 1 = .ok (.i2l, 1) := by decide +kernel
theorem dX8_solves_2 : decode cX8_solves 2 = .ok (.lconst 1, 1) := by decide +kernel
theorem dX8_solves_3 : decode cX8_solves 3 = .ok (.ldc2_w 259, 3) := by decide +kernel
theorem dX8_solves_6 : decode cX8_solves 6 = .ok (.invokestatic 38, 3) := by decide +kernel
theorem dX8_solves_9 : decode cX8_solves 9 = .ok (.ifCond .eq 24, 3) := by decide +kernel
theorem dX8_solves_12 : decode cX8_solves 12 = .ok (.iload_n 2, 1) := by decide +kernel
theorem dX8_solves_13 : decode cX8_solves 13 = .ok (.i2l, 1) := by decide +kernel
theorem dX8_solves_14 : decode cX8_solves 14 = .ok (.lconst 0, 1) := by decide +kernel
theorem dX8_solves_15 : decode cX8_solves 15 = .ok (.ldc2_w 149, 3) := by decide +kernel
theorem dX8_solves_18 : decode cX8_solves 18 = .ok (.invokestatic 38, 3) := by decide +kernel
theorem dX8_solves_21 : decode cX8_solves 21 = .ok (.ifCond .eq 12, 3) := by decide +kernel
theorem dX8_solves_24 : decode cX8_solves 24 = .ok (.aload_n 0, 1) := by decide +kernel
theorem dX8_solves_25 : decode cX8_solves 25 = .ok (.iload_n 1, 1) := by decide +kernel
theorem dX8_solves_26 : decode cX8_solves 26 = .ok (.iload_n 2, 1) := by decide +kernel
theorem dX8_solves_27 : decode cX8_solves 27 = .ok (.invokevirtual 261, 3) := by decide +kernel
theorem dX8_solves_30 : decode cX8_solves 30 = .ok (.goto 9, 3) := by decide +kernel
theorem dX8_solves_33 : decode cX8_solves 33 = .ok (.aload_n 0, 1) := by decide +kernel
theorem dX8_solves_34 : decode cX8_solves 34 = .ok (.ldc 42, 2) := by decide +kernel
theorem dX8_solves_36 : decode cX8_solves 36 = .ok (.invokevirtual 87, 3) := by decide +kernel
theorem dX8_solves_39 : decode cX8_solves 39 = .ok (.ireturn, 1) := by decide +kernel
set_option maxRecDepth 20000 in
theorem ggX8_point_X8_in : GoodIn wsX8_point wsX8_in := goodIn_r _ [8] (by decide +kernel) (by decide +kernel)
set_option maxRecDepth 20000 in
theorem gX8_point_X8_in : GoodIn wsX8_point (va_wsS RX8 38 yX8_in wsX8_in) := goodIn_app (goodIn_of _ (by decide +kernel)) ggX8_point_X8_in
set_option maxRecDepth 20000 in
theorem ggX8_point_X8_isUnknown : GoodIn wsX8_point wsX8_isUnknown := goodIn_r _ [12, 13, 14, 15, 7, 16, 17, 5, 6, 8, 190, 191, 192, 193, 194, 195, 196, 197, 198, 199, 200, 201, 202, 203, 204, 205, 206] (by decide +kernel) (by decide +kernel)
set_option maxRecDepth 20000 in
theorem gX8_point_X8_isUnknown : GoodIn wsX8_point (wsV RX8 97 RX8 yX8_isUnknown wsX8_isUnknown) := goodIn_app (goodIn_of _ (by decide +kernel)) ggX8_point_X8_isUnknown
set_option maxRecDepth 20000 in
theorem ggX8_point_X8_refuses : GoodIn wsX8_point wsX8_refuses := goodIn_r _ [21, 22, 2, 190, 191, 192, 193, 194, 195, 196, 197, 198, 199, 200, 201, 202, 203, 204, 205, 206] (by decide +kernel) (by decide +kernel)
set_option maxRecDepth 20000 in
theorem gX8_point_X8_refuses : GoodIn wsX8_point (wsV RX8 87 RX8 yX8_refuses wsX8_refuses) := goodIn_app (goodIn_of _ (by decide +kernel)) ggX8_point_X8_refuses
set_option maxRecDepth 20000 in
theorem ggX8_point_X8_solve : GoodIn wsX8_point wsX8_solve := goodIn_r _ [26, 27, 28, 3, 29, 30, 31, 7, 32, 33, 34, 13, 14, 15, 16, 17, 35, 36, 37, 38, 39, 40, 41, 42, 43, 44, 45, 46, 47, 48, 49, 50, 51, 52, 53, 54, 55, 56, 57, 58, 59, 60, 61, 62, 63, 64, 65, 66, 67, 68, 69, 70, 71, 72, 73, 74, 75, 76, 77, 78, 79, 80, 81, 82, 83, 84, 85, 86, 87, 88, 89, 90, 91, 92, 93, 94, 95, 96, 97, 98, 99, 100, 101, 102, 103, 104, 105, 106, 107, 108, 109, 110, 111, 112, 113, 114, 115, 116, 117, 118, 119, 120, 121, 122, 123, 124, 125, 126, 127, 128, 129, 130, 131, 132, 133, 134, 135, 136, 137, 138, 139, 140, 141, 142, 143, 144, 145, 146, 147, 148, 149, 150, 151, 152, 153, 154, 155, 156, 157, 158, 159, 160, 161, 162, 163, 164, 165, 166, 167, 168, 169, 170, 171, 172, 173, 174, 175, 176, 177, 178, 179, 180, 181, 182, 183, 184, 185, 186, 187, 188, 189, 190, 191, 192, 193, 194, 195, 196, 197, 198, 199, 200, 201, 202, 203, 204, 205, 206] (by decide +kernel) (by decide +kernel)
set_option maxRecDepth 20000 in
theorem gX8_point_X8_solve : GoodIn wsX8_point (wsV RX8 256 RX8 yX8_solve wsX8_solve) := goodIn_app (goodIn_of _ (by decide +kernel)) ggX8_point_X8_solve
set_option maxRecDepth 20000 in
theorem ggX8_point_X8_low : GoodIn wsX8_point wsX8_low := goodIn_r _ [76, 33, 190, 191, 192, 193, 194, 195, 196, 197, 198, 199, 200, 201, 202, 203, 204, 205, 206] (by decide +kernel) (by decide +kernel)
set_option maxRecDepth 20000 in
theorem gX8_point_X8_low : GoodIn wsX8_point (wsV RX8 128 RX8 yX8_low wsX8_low) := goodIn_app (goodIn_of _ (by decide +kernel)) ggX8_point_X8_low
theorem dX8_point_0 : decode cX8_point 0 = .ok (.iload_n 1, 1) := by decide +kernel
theorem dX8_point_1 : decode cX8_point 1 = .ok (.i2l, 1) := by decide +kernel
theorem dX8_point_2 : decode cX8_point 2 = .ok (.lconst 1, 1) := by decide +kernel
theorem dX8_point_3 : decode cX8_point 3 = .ok (.ldc2_w 259, 3) := by decide +kernel
theorem dX8_point_6 : decode cX8_point 6 = .ok (.invokestatic 38, 3) := by decide +kernel
theorem dX8_point_9 : decode cX8_point 9 = .ok (.ifCond .eq 11, 3) := by decide +kernel
theorem dX8_point_12 : decode cX8_point 12 = .ok (.aload_n 0, 1) := by decide +kernel
theorem dX8_point_13 : decode cX8_point 13 = .ok (.iload_n 2, 1) := by decide +kernel
theorem dX8_point_14 : decode cX8_point 14 = .ok (.invokevirtual 97, 3) := by decide +kernel
theorem dX8_point_17 : decode cX8_point 17 = .ok (.ifCond .ne 10, 3) := by decide +kernel
theorem dX8_point_20 : decode cX8_point 20 = .ok (.aload_n 0, 1) := by decide +kernel
theorem dX8_point_21 : decode cX8_point 21 = .ok (.ldc 42, 2) := by decide +kernel
theorem dX8_point_23 : decode cX8_point 23 = .ok (.invokevirtual 87, 3) := by decide +kernel
theorem dX8_point_26 : decode cX8_point 26 = .ok (.ireturn, 1) := by decide +kernel
theorem dX8_point_27 : decode cX8_point 27 = .ok (.aload_n 0, 1) := by decide +kernel
theorem dX8_point_28 : decode cX8_point 28 = .ok (.iload_n 1, 1) := by decide +kernel
theorem dX8_point_29 : decode cX8_point 29 = .ok (.invokevirtual 256, 3) := by decide +kernel
theorem dX8_point_32 : decode cX8_point 32 = .ok (.aload_n 0, 1) := by decide +kernel
theorem dX8_point_33 : decode cX8_point 33 = .ok (.getfield 247, 3) := by decide +kernel
theorem dX8_point_36 : decode cX8_point 36 = .ok (.ifCond .eq 11, 3) := by decide +kernel
theorem dX8_point_39 : decode cX8_point 39 = .ok (.aload_n 0, 1) := by decide +kernel
theorem dX8_point_40 : decode cX8_point 40 = .ok (.iload_n 2, 1) := by decide +kernel
theorem dX8_point_41 : decode cX8_point 41 = .ok (.invokevirtual 128, 3) := by decide +kernel
theorem dX8_point_44 : decode cX8_point 44 = .ok (.goto 10, 3) := by decide +kernel
theorem dX8_point_47 : decode cX8_point 47 = .ok (.aload_n 0, 1) := by decide +kernel
theorem dX8_point_48 : decode cX8_point 48 = .ok (.ldc_w 264, 3) := by decide +kernel
theorem dX8_point_51 : decode cX8_point 51 = .ok (.invokevirtual 87, 3) := by decide +kernel
theorem dX8_point_54 : decode cX8_point 54 = .ok (.ireturn, 1) := by decide +kernel
set_option maxRecDepth 20000 in
theorem ggX8_whole_X8_place : GoodIn wsX8_whole wsX8_place := goodIn_r _ [4, 5, 6, 7, 8, 9, 10, 11, 12, 13, 14, 15, 16, 17] (by decide +kernel) (by decide +kernel)
set_option maxRecDepth 20000 in
theorem gX8_whole_X8_place : GoodIn wsX8_whole (va_wsS RX8 69 yX8_place wsX8_place) := goodIn_app (goodIn_of _ (by decide +kernel)) ggX8_whole_X8_place
theorem dX8_whole_0 : decode cX8_whole 0 = .ok (.iload_n 1, 1) := by decide +kernel
theorem dX8_whole_1 : decode cX8_whole 1 = .ok (.i2f, 1) := by decide +kernel
theorem dX8_whole_2 : decode cX8_whole 2 = .ok (.invokestatic 69, 3) := by decide +kernel
theorem dX8_whole_5 : decode cX8_whole 5 = .ok (.ireturn, 1) := by decide +kernel
set_option maxRecDepth 20000 in
theorem ggX8_narrow_X8_refuses : GoodIn wsX8_narrow wsX8_refuses := goodIn_r _ [11, 12, 5, 37, 38, 39, 40, 41, 42, 43, 44, 45, 46, 47, 48, 49, 50, 51, 52, 53] (by decide +kernel) (by decide +kernel)
set_option maxRecDepth 20000 in
theorem gX8_narrow_X8_refuses : GoodIn wsX8_narrow (wsV RX8 87 RX8 yX8_refuses wsX8_refuses) := goodIn_app (goodIn_of _ (by decide +kernel)) ggX8_narrow_X8_refuses
set_option maxRecDepth 20000 in
theorem ggX8_narrow_X8_place : GoodIn wsX8_narrow wsX8_place := goodIn_r _ [15, 16, 17, 18, 19, 20, 21, 22, 23, 24, 25, 26, 27, 28] (by decide +kernel) (by decide +kernel)
set_option maxRecDepth 20000 in
theorem gX8_narrow_X8_place : GoodIn wsX8_narrow (va_wsS RX8 69 yX8_place wsX8_place) := goodIn_app (goodIn_of _ (by decide +kernel)) ggX8_narrow_X8_place
set_option maxRecDepth 20000 in
theorem ggX8_narrow_X8_isPlace : GoodIn wsX8_narrow wsX8_isPlace := goodIn_r _ [31, 32, 33, 34, 35, 10, 36] (by decide +kernel) (by decide +kernel)
set_option maxRecDepth 20000 in
theorem gX8_narrow_X8_isPlace : GoodIn wsX8_narrow (va_wsS RX8 79 yX8_isPlace wsX8_isPlace) := goodIn_app (goodIn_of _ (by decide +kernel)) ggX8_narrow_X8_isPlace
theorem dX8_narrow_0 : decode cX8_narrow 0 = .ok (.lload_n 1, 1) := by decide +kernel
theorem dX8_narrow_1 : decode cX8_narrow 1 = .ok (.invokestatic 265, 3) := by decide +kernel
theorem dX8_narrow_4 : decode cX8_narrow 4 = .ok (.dstore_n 3, 1) := by decide +kernel
theorem dX8_narrow_5 : decode cX8_narrow 5 = .ok (.dload_n 3, 1) := by decide +kernel
theorem dX8_narrow_6 : decode cX8_narrow 6 = .ok (.dload_n 3, 1) := by decide +kernel
theorem dX8_narrow_7 : decode cX8_narrow 7 = .ok (.dcmp .l, 1) := by decide +kernel
theorem dX8_narrow_8 : decode cX8_narrow 8 = .ok (.ifCond .eq 10, 3) := by decide +kernel
theorem dX8_narrow_11 : decode cX8_narrow 11 = .ok (.aload_n 0, 1) := by decide +kernel
theorem dX8_narrow_12 : decode cX8_narrow 12 = .ok (.ldc 42, 2) := by decide +kernel
theorem dX8_narrow_14 : decode cX8_narrow 14 = .ok (.invokevirtual 87, 3) := by decide +kernel
theorem dX8_narrow_17 : decode cX8_narrow 17 = .ok (.ireturn, 1) := by decide +kernel
theorem dX8_narrow_18 : decode cX8_narrow 18 = .ok (.dload_n 3, 1) := by decide +kernel
theorem dX8_narrow_19 : decode cX8_narrow 19 = .ok (.d2f, 1) := by decide +kernel
theorem dX8_narrow_20 : decode cX8_narrow 20 = .ok (.invokestatic 69, 3) := by decide +kernel
theorem dX8_narrow_23 : decode cX8_narrow 23 = .ok (.istore 5, 2) := by decide +kernel
theorem dX8_narrow_25 : decode cX8_narrow 25 = .ok (.iload 5, 2) := by decide +kernel
theorem dX8_narrow_27 : decode cX8_narrow 27 = .ok (.invokestatic 79, 3) := by decide +kernel
theorem dX8_narrow_30 : decode cX8_narrow 30 = .ok (.ifCond .eq 8, 3) := by decide +kernel
theorem dX8_narrow_33 : decode cX8_narrow 33 = .ok (.iload 5, 2) := by decide +kernel
theorem dX8_narrow_35 : decode cX8_narrow 35 = .ok (.goto 10, 3) := by decide +kernel
theorem dX8_narrow_38 : decode cX8_narrow 38 = .ok (.aload_n 0, 1) := by decide +kernel
theorem dX8_narrow_39 : decode cX8_narrow 39 = .ok (.ldc_w 264, 3) := by decide +kernel
theorem dX8_narrow_42 : decode cX8_narrow 42 = .ok (.invokevirtual 87, 3) := by decide +kernel
theorem dX8_narrow_45 : decode cX8_narrow 45 = .ok (.ireturn, 1) := by decide +kernel
set_option maxRecDepth 20000 in
theorem ggX8_wide_X8_isPlace : GoodIn wsX8_wide wsX8_isPlace := goodIn_r _ [6, 7, 8, 9, 10, 5, 11] (by decide +kernel) (by decide +kernel)
set_option maxRecDepth 20000 in
theorem gX8_wide_X8_isPlace : GoodIn wsX8_wide (va_wsS RX8 79 yX8_isPlace wsX8_isPlace) := goodIn_app (goodIn_of _ (by decide +kernel)) ggX8_wide_X8_isPlace
set_option maxRecDepth 20000 in
theorem ggX8_wide_X8_refuses : GoodIn wsX8_wide wsX8_refuses := goodIn_r _ [15, 16, 1, 37, 38, 39, 40, 41, 42, 43, 44, 45, 46, 47, 48, 49, 50, 51, 52, 53] (by decide +kernel) (by decide +kernel)
set_option maxRecDepth 20000 in
theorem gX8_wide_X8_refuses : GoodIn wsX8_wide (wsV RX8 87 RX8 yX8_refuses wsX8_refuses) := goodIn_app (goodIn_of _ (by decide +kernel)) ggX8_wide_X8_refuses
set_option maxRecDepth 20000 in
theorem ggX8_wide_X8_number : GoodIn wsX8_wide wsX8_number := goodIn_r _ [19, 20, 21, 22, 23, 24] (by decide +kernel) (by decide +kernel)
set_option maxRecDepth 20000 in
theorem gX8_wide_X8_number : GoodIn wsX8_wide (va_wsS RX8 66 yX8_number wsX8_number) := goodIn_app (goodIn_of _ (by decide +kernel)) ggX8_wide_X8_number
set_option maxRecDepth 20000 in
theorem ggX8_wide_Jxe99ae_doubleToLongBits_ccdee : GoodIn wsX8_wide wsJxe99ae_doubleToLongBits_ccdee := goodIn_r _ [28, 29, 30, 31, 32, 33, 34, 35, 27, 36] (by decide +kernel) (by decide +kernel)
set_option maxRecDepth 20000 in
theorem gX8_wide_Jxe99ae_doubleToLongBits_ccdee : GoodIn wsX8_wide (va_wsS RX8 271 yJxe99ae_doubleToLongBits_ccdee wsJxe99ae_doubleToLongBits_ccdee) := goodIn_app (goodIn_of _ (by decide +kernel)) ggX8_wide_Jxe99ae_doubleToLongBits_ccdee
theorem dX8_wide_0 : decode cX8_wide 0 = .ok (.iload_n 1, 1) := by decide +kernel
theorem dX8_wide_1 : decode cX8_wide 1 = .ok (.invokestatic 79, 3) := by decide +kernel
theorem dX8_wide_4 : decode cX8_wide 4 = .ok (.ifCond .ne 14, 3) := by decide +kernel
theorem dX8_wide_7 : decode cX8_wide 7 = .ok (.aload_n 0, 1) := by decide +kernel
theorem dX8_wide_8 : decode cX8_wide 8 = .ok (.ldc 42, 2) := by decide +kernel
theorem dX8_wide_10 : decode cX8_wide 10 = .ok (.invokevirtual 87, 3) := by decide +kernel
theorem dX8_wide_13 : decode cX8_wide 13 = .ok (.istore_n 2, 1) := by decide +kernel
theorem dX8_wide_14 : decode cX8_wide 14 = .ok (.ldc2_w 190, 3) := by decide +kernel
theorem dX8_wide_17 : decode cX8_wide 17 = .ok (.lreturn, 1) := by decide +kernel
theorem dX8_wide_18 : decode cX8_wide 18 = .ok (.iload_n 1, 1) := by decide +kernel
theorem dX8_wide_19 : decode cX8_wide 19 = .ok (.invokestatic 66, 3) := by decide +kernel
theorem dX8_wide_22 : decode cX8_wide 22 = .ok (.f2d, 1) := by decide +kernel
theorem dX8_wide_23 : decode cX8_wide 23 = .ok (.invokestatic 271, 3) := by decide +kernel
theorem dX8_wide_26 : decode cX8_wide 26 = .ok (.lreturn, 1) := by decide +kernel
set_option maxRecDepth 20000 in
theorem ggX8_reckons_X8_in : GoodIn wsX8_reckons wsX8_in := goodIn_r _ [5] (by decide +kernel) (by decide +kernel)
set_option maxRecDepth 20000 in
theorem gX8_reckons_X8_in : GoodIn wsX8_reckons (va_wsS RX8 38 yX8_in wsX8_in) := goodIn_app (goodIn_of _ (by decide +kernel)) ggX8_reckons_X8_in
set_option maxRecDepth 20000 in
theorem ggX8_reckons_X8_isPlace : GoodIn wsX8_reckons wsX8_isPlace := goodIn_r _ [8, 9, 10, 2, 3, 4, 5] (by decide +kernel) (by decide +kernel)
set_option maxRecDepth 20000 in
theorem gX8_reckons_X8_isPlace : GoodIn wsX8_reckons (va_wsS RX8 79 yX8_isPlace wsX8_isPlace) := goodIn_app (goodIn_of _ (by decide +kernel)) ggX8_reckons_X8_isPlace
set_option maxRecDepth 20000 in
theorem ggX8_reckons_X8_reckoned : GoodIn wsX8_reckons wsX8_reckoned := goodIn_r _ [13, 14, 15, 4, 16, 17, 18, 19, 20, 21, 22, 23, 24, 25, 26, 27, 28, 29, 30, 31, 32, 33, 34, 35, 36, 37, 38, 39, 40, 41, 42] (by decide +kernel) (by decide +kernel)
set_option maxRecDepth 20000 in
theorem gX8_reckons_X8_reckoned : GoodIn wsX8_reckons (va_wsS RX8 137 yX8_reckoned wsX8_reckoned) := goodIn_app (goodIn_of _ (by decide +kernel)) ggX8_reckons_X8_reckoned
set_option maxRecDepth 20000 in
theorem ggX8_reckons_X8_refuses : GoodIn wsX8_reckons wsX8_refuses := goodIn_r _ [46, 47, 1, 48, 49, 50, 51, 52, 53, 54, 55, 56, 57, 58, 59, 60, 61, 62, 63, 64] (by decide +kernel) (by decide +kernel)
set_option maxRecDepth 20000 in
theorem gX8_reckons_X8_refuses : GoodIn wsX8_reckons (wsV RX8 87 RX8 yX8_refuses wsX8_refuses) := goodIn_app (goodIn_of _ (by decide +kernel)) ggX8_reckons_X8_refuses
theorem dX8_reckons_0 : decode cX8_reckons 0 = .ok (.iload_n 1, 1) := by decide +kernel
theorem dX8_reckons_1 : decode cX8_reckons 1 = .ok (.i2l, 1) := by decide +kernel
theorem dX8_reckons_2 : decode cX8_reckons 2 = .ok (.lconst 0, 1) := by decide +kernel
theorem dX8_reckons_3 : decode cX8_reckons 3 = .ok (.lconst 1, 1) := by decide +kernel
theorem dX8_reckons_4 : decode cX8_reckons 4 = .ok (.invokestatic 38, 3) := by decide +kernel
theorem dX8_reckons_7 : decode cX8_reckons 7 = .ok (.ifCond .eq 26, 3) := by decide +kernel
theorem dX8_reckons_10 : decode cX8_reckons 10 = .ok (.iload_n 2, 1) := by decide +kernel
theorem dX8_reckons_11 : decode cX8_reckons 11 = .ok (.invokestatic 79, 3) := by decide +kernel
theorem dX8_reckons_14 : decode cX8_reckons 14 = .ok (.ifCond .eq 19, 3) := by decide +kernel
theorem dX8_reckons_17 : decode cX8_reckons 17 = .ok (.iload_n 3, 1) := by decide +kernel
theorem dX8_reckons_18 : decode cX8_reckons 18 = .ok (.invokestatic 79, 3) := by decide +kernel
theorem dX8_reckons_21 : decode cX8_reckons 21 = .ok (.ifCond .eq 12, 3) := by decide +kernel
theorem dX8_reckons_24 : decode cX8_reckons 24 = .ok (.iload_n 1, 1) := by decide +kernel
theorem dX8_reckons_25 : decode cX8_reckons 25 = .ok (.iload_n 2, 1) := by decide +kernel
theorem dX8_reckons_26 : decode cX8_reckons 26 = .ok (.iload_n 3, 1) := by decide +kernel
theorem dX8_reckons_27 : decode cX8_reckons 27 = .ok (.invokestatic 137, 3) := by decide +kernel
theorem dX8_reckons_30 : decode cX8_reckons 30 = .ok (.goto 9, 3) := by decide +kernel
theorem dX8_reckons_33 : decode cX8_reckons 33 = .ok (.aload_n 0, 1) := by decide +kernel
theorem dX8_reckons_34 : decode cX8_reckons 34 = .ok (.ldc 42, 2) := by decide +kernel
theorem dX8_reckons_36 : decode cX8_reckons 36 = .ok (.invokevirtual 87, 3) := by decide +kernel
theorem dX8_reckons_39 : decode cX8_reckons 39 = .ok (.ireturn, 1) := by decide +kernel
set_option maxRecDepth 20000 in
theorem ggX8_rest_X8_isPlace : GoodIn wsX8_rest wsX8_isPlace := goodIn_r _ [6, 7, 8, 9, 10, 5, 11] (by decide +kernel) (by decide +kernel)
set_option maxRecDepth 20000 in
theorem gX8_rest_X8_isPlace : GoodIn wsX8_rest (va_wsS RX8 79 yX8_isPlace wsX8_isPlace) := goodIn_app (goodIn_of _ (by decide +kernel)) ggX8_rest_X8_isPlace
set_option maxRecDepth 20000 in
theorem ggX8_rest_X8_refuses : GoodIn wsX8_rest wsX8_refuses := goodIn_r _ [15, 16, 1, 40, 41, 42, 43, 44, 45, 46, 47, 48, 49, 50, 51, 52, 53, 54, 55, 56] (by decide +kernel) (by decide +kernel)
set_option maxRecDepth 20000 in
theorem gX8_rest_X8_refuses : GoodIn wsX8_rest (wsV RX8 87 RX8 yX8_refuses wsX8_refuses) := goodIn_app (goodIn_of _ (by decide +kernel)) ggX8_rest_X8_refuses
set_option maxRecDepth 20000 in
theorem ggX8_rest_X8_number : GoodIn wsX8_rest wsX8_number := goodIn_r _ [19, 20, 21, 22, 23, 24] (by decide +kernel) (by decide +kernel)
set_option maxRecDepth 20000 in
theorem gX8_rest_X8_number : GoodIn wsX8_rest (va_wsS RX8 66 yX8_number wsX8_number) := goodIn_app (goodIn_of _ (by decide +kernel)) ggX8_rest_X8_number
set_option maxRecDepth 20000 in
theorem ggX8_rest_X8_place : GoodIn wsX8_rest wsX8_place := goodIn_r _ [27, 28, 29, 30, 31, 32, 33, 34, 35, 24, 36, 37, 38, 39] (by decide +kernel) (by decide +kernel)
set_option maxRecDepth 20000 in
theorem gX8_rest_X8_place : GoodIn wsX8_rest (va_wsS RX8 69 yX8_place wsX8_place) := goodIn_app (goodIn_of _ (by decide +kernel)) ggX8_rest_X8_place
theorem dX8_rest_0 : decode cX8_rest 0 = .ok (.iload_n 1, 1) := by decide +kernel
theorem dX8_rest_1 : decode cX8_rest 1 = .ok (.invokestatic 79, 3) := by decide +kernel
theorem dX8_rest_4 : decode cX8_rest 4 = .ok (.ifCond .eq 10, 3) := by decide +kernel
theorem dX8_rest_7 : decode cX8_rest 7 = .ok (.iload_n 2, 1) := by decide +kernel
theorem dX8_rest_8 : decode cX8_rest 8 = .ok (.invokestatic 79, 3) := by decide +kernel
theorem dX8_rest_11 : decode cX8_rest 11 = .ok (.ifCond .ne 10, 3) := by decide +kernel
theorem dX8_rest_14 : decode cX8_rest 14 = .ok (.aload_n 0, 1) := by decide +kernel
theorem dX8_rest_15 : decode cX8_rest 15 = .ok (.ldc 42, 2) := by decide +kernel
theorem dX8_rest_17 : decode cX8_rest 17 = .ok (.invokevirtual 87, 3) := by decide +kernel
theorem dX8_rest_20 : decode cX8_rest 20 = .ok (.ireturn, 1) := by decide +kernel
theorem dX8_rest_21 : decode cX8_rest 21 = .ok (.iload_n 1, 1) := by decide +kernel
theorem dX8_rest_22 : decode cX8_rest 22 = .ok (.invokestatic 66, 3) := by decide +kernel
theorem dX8_rest_25 : decode cX8_rest 25 = .ok (.iload_n 2, 1) := by decide +kernel
theorem dX8_rest_26 : decode cX8_rest 26 = .ok (.invokestatic 66, 3) := by decide +kernel
theorem dX8_rest_29 : decode cX8_rest 29 = .ok (.frem, 1) := by decide +kernel
theorem dX8_rest_30 : decode cX8_rest 30 = .ok (.fstore_n 3, 1) := by decide +kernel
theorem dX8_rest_31 : decode cX8_rest 31 = .ok (.fload_n 3, 1) := by decide +kernel
theorem dX8_rest_32 : decode cX8_rest 32 = .ok (.fload_n 3, 1) := by decide +kernel
theorem dX8_rest_33 : decode cX8_rest 33 = .ok (.fcmp .l, 1) := by decide +kernel
theorem dX8_rest_34 : decode cX8_rest 34 = .ok (.ifCond .eq 13, 3) := by decide +kernel
theorem dX8_rest_37 : decode cX8_rest 37 = .ok (.aload_n 0, 1) := by decide +kernel
theorem dX8_rest_38 : decode cX8_rest 38 = .ok (.ldc_w 264, 3) := by decide +kernel
theorem dX8_rest_41 : decode cX8_rest 41 = .ok (.invokevirtual 87, 3) := by decide +kernel
theorem dX8_rest_44 : decode cX8_rest 44 = .ok (.goto 7, 3) := by decide +kernel
theorem dX8_rest_47 : decode cX8_rest 47 = .ok (.fload_n 3, 1) := by decide +kernel
theorem dX8_rest_48 : decode cX8_rest 48 = .ok (.invokestatic 69, 3) := by decide +kernel
theorem dX8_rest_51 : decode cX8_rest 51 = .ok (.ireturn, 1) := by decide +kernel
set_option maxRecDepth 20000 in
theorem ggX8_type_X8_in : GoodIn wsX8_type wsX8_in := goodIn_r _ [9] (by decide +kernel) (by decide +kernel)
set_option maxRecDepth 20000 in
theorem gX8_type_X8_in : GoodIn wsX8_type (va_wsS RX8 38 yX8_in wsX8_in) := goodIn_app (goodIn_of _ (by decide +kernel)) ggX8_type_X8_in
set_option maxRecDepth 20000 in
theorem ggX8_type_X8_refuses : GoodIn wsX8_type wsX8_refuses := goodIn_r _ [13, 14, 2, 15, 16, 17, 18, 19, 20, 21, 22, 23, 24, 25, 26, 27, 28, 29, 30, 31] (by decide +kernel) (by decide +kernel)
set_option maxRecDepth 20000 in
theorem gX8_type_X8_refuses : GoodIn wsX8_type (wsV RX8 87 RX8 yX8_refuses wsX8_refuses) := goodIn_app (goodIn_of _ (by decide +kernel)) ggX8_type_X8_refuses
theorem dX8_type_0 : decode cX8_type 0 = .ok (.iload_n 1, 1) := by decide +kernel
theorem dX8_type_1 : decode cX8_type 1 = .ok (.i2l, 1) := by decide +kernel
theorem dX8_type_2 : decode cX8_type 2 = .ok (.lconst 0, 1) := by decide +kernel
theorem dX8_type_3 : decode cX8_type 3 = .ok (.ldc2_w 275, 3) := by decide +kernel
theorem dX8_type_6 : decode cX8_type 6 = .ok (.invokestatic 38, 3) := by decide +kernel
theorem dX8_type_9 : decode cX8_type 9 = .ok (.ifCond .ne 10, 3) := by decide +kernel
theorem dX8_type_12 : decode cX8_type 12 = .ok (.aload_n 0, 1) := by decide +kernel
theorem dX8_type_13 : decode cX8_type 13 = .ok (.ldc 42, 2) := by decide +kernel
theorem dX8_type_15 : decode cX8_type 15 = .ok (.invokevirtual 87, 3) := by decide +kernel
theorem dX8_type_18 : decode cX8_type 18 = .ok (.ireturn, 1) := by decide +kernel
theorem dX8_type_19 : decode cX8_type 19 = .ok (.aload_n 0, 1) := by decide +kernel
theorem dX8_type_20 : decode cX8_type 20 = .ok (.getfield 277, 3) := by decide +kernel
theorem dX8_type_23 : decode cX8_type 23 = .ok (.bipush 120, 2) := by decide +kernel
theorem dX8_type_25 : decode cX8_type 25 = .ok (.if_icmp .ne 10, 3) := by decide +kernel
theorem dX8_type_28 : decode cX8_type 28 = .ok (.aload_n 0, 1) := by decide +kernel
theorem dX8_type_29 : decode cX8_type 29 = .ok (.ldc 83, 2) := by decide +kernel
theorem dX8_type_31 : decode cX8_type 31 = .ok (.invokevirtual 87, 3) := by decide +kernel
theorem dX8_type_34 : decode cX8_type 34 = .ok (.ireturn, 1) := by decide +kernel
theorem dX8_type_35 : decode cX8_type 35 = .ok (.aload_n 0, 1) := by decide +kernel
theorem dX8_type_36 : decode cX8_type 36 = .ok (.getfield 25, 3) := by decide +kernel
theorem dX8_type_39 : decode cX8_type 39 = .ok (.aload_n 0, 1) := by decide +kernel
theorem dX8_type_40 : decode cX8_type 40 = .ok (.getfield 277, 3) := by decide +kernel
theorem dX8_type_43 : decode cX8_type 43 = .ok (.iload_n 1, 1) := by decide +kernel
theorem dX8_type_44 : decode cX8_type 44 = .ok (.iastore, 1) := by decide +kernel
theorem dX8_type_45 : decode cX8_type 45 = .ok (.aload_n 0, 1) := by decide +kernel
theorem dX8_type_46 : decode cX8_type 46 = .ok (.dup, 1) := by decide +kernel
theorem dX8_type_47 : decode cX8_type 47 = .ok (.getfield 277, 3) := by decide +kernel
theorem dX8_type_50 : decode cX8_type 50 = .ok (.iconst 1, 1) := by decide +kernel
theorem dX8_type_51 : decode cX8_type 51 = .ok (.iadd, 1) := by decide +kernel
theorem dX8_type_52 : decode cX8_type 52 = .ok (.putfield 277, 3) := by decide +kernel
theorem dX8_type_55 : decode cX8_type 55 = .ok (.aload_n 0, 1) := by decide +kernel
theorem dX8_type_56 : decode cX8_type 56 = .ok (.getfield 277, 3) := by decide +kernel
theorem dX8_type_59 : decode cX8_type 59 = .ok (.ireturn, 1) := by decide +kernel
theorem dX8_clear_0 : decode cX8_clear 0 = .ok (.aload_n 0, 1) := by decide +kernel
theorem dX8_clear_1 : decode cX8_clear 1 = .ok (.getfield 277, 3) := by decide +kernel
theorem dX8_clear_4 : decode cX8_clear 4 = .ok (.istore_n 1, 1) := by decide +kernel
theorem dX8_clear_5 : decode cX8_clear 5 = .ok (.aload_n 0, 1) := by decide +kernel
theorem dX8_clear_6 : decode cX8_clear 6 = .ok (.iconst 0, 1) := by decide +kernel
theorem dX8_clear_7 : decode cX8_clear 7 = .ok (.putfield 277, 3) := by decide +kernel
theorem dX8_clear_10 : decode cX8_clear 10 = .ok (.iload_n 1, 1) := by decide +kernel
theorem dX8_clear_11 : decode cX8_clear 11 = .ok (.ireturn, 1) := by decide +kernel
theorem dX8_here_0 : decode cX8_here 0 = .ok (.aload_n 0, 1) := by decide +kernel
theorem dX8_here_1 : decode cX8_here 1 = .ok (.getfield 280, 3) := by decide +kernel
theorem dX8_here_4 : decode cX8_here 4 = .ok (.aload_n 0, 1) := by decide +kernel
theorem dX8_here_5 : decode cX8_here 5 = .ok (.getfield 277, 3) := by decide +kernel
theorem dX8_here_8 : decode cX8_here 8 = .ok (.if_icmp .ge 30, 3) := by decide +kernel
theorem dX8_here_11 : decode cX8_here 11 = .ok (.aload_n 0, 1) := by decide +kernel
theorem dX8_here_12 : decode cX8_here 12 = .ok (.getfield 25, 3) := by decide +kernel
theorem dX8_here_15 : decode cX8_here 15 = .ok (.aload_n 0, 1) := by decide +kernel
theorem dX8_here_16 : decode cX8_here 16 = .ok (.getfield 280, 3) := by decide +kernel
theorem dX8_here_19 : decode cX8_here 19 = .ok (.iaload, 1) := by decide +kernel
theorem dX8_here_20 : decode cX8_here 20 = .ok (.bipush 32, 2) := by decide +kernel
theorem dX8_here_22 : decode cX8_here 22 = .ok (.if_icmp .ne 16, 3) := by decide +kernel
theorem dX8_here_25 : decode cX8_here 25 = .ok (.aload_n 0, 1) := by decide +kernel
theorem dX8_here_26 : decode cX8_here 26 = .ok (.dup, 1) := by decide +kernel
theorem dX8_here_27 : decode cX8_here 27 = .ok (.getfield 280, 3) := by decide +kernel
theorem dX8_here_30 : decode cX8_here 30 = .ok (.iconst 1, 1) := by decide +kernel
theorem dX8_here_31 : decode cX8_here 31 = .ok (.iadd, 1) := by decide +kernel
theorem dX8_here_32 : decode cX8_here 32 = .ok (.putfield 280, 3) := by decide +kernel
theorem dX8_here_35 : decode cX8_here 35 = .ok (.goto (-35), 3) := by decide +kernel
theorem dX8_here_38 : decode cX8_here 38 = .ok (.aload_n 0, 1) := by decide +kernel
theorem dX8_here_39 : decode cX8_here 39 = .ok (.getfield 280, 3) := by decide +kernel
theorem dX8_here_42 : decode cX8_here 42 = .ok (.aload_n 0, 1) := by decide +kernel
theorem dX8_here_43 : decode cX8_here 43 = .ok (.getfield 277, 3) := by decide +kernel
theorem dX8_here_46 : decode cX8_here 46 = .ok (.if_icmp .ge 15, 3) := by decide +kernel
theorem dX8_here_49 : decode cX8_here 49 = .ok (.aload_n 0, 1) := by decide +kernel
theorem dX8_here_50 : decode cX8_here 50 = .ok (.getfield 25, 3) := by decide +kernel
theorem dX8_here_53 : decode cX8_here 53 = .ok (.aload_n 0, 1) := by decide +kernel
theorem dX8_here_54 : decode cX8_here 54 = .ok (.getfield 280, 3) := by decide +kernel
theorem dX8_here_57 : decode cX8_here 57 = .ok (.iaload, 1) := by decide +kernel
theorem dX8_here_58 : decode cX8_here 58 = .ok (.goto 4, 3) := by decide +kernel
theorem dX8_here_61 : decode cX8_here 61 = .ok (.iconst (-1), 1) := by decide +kernel
theorem dX8_here_62 : decode cX8_here 62 = .ok (.ireturn, 1) := by decide +kernel
set_option maxRecDepth 20000 in
theorem ggX8_isFigure_X8_in : GoodIn wsX8_isFigure wsX8_in := goodIn_r _ [9] (by decide +kernel) (by decide +kernel)
set_option maxRecDepth 20000 in
theorem gX8_isFigure_X8_in : GoodIn wsX8_isFigure (va_wsS RX8 38 yX8_in wsX8_in) := goodIn_app (goodIn_of _ (by decide +kernel)) ggX8_isFigure_X8_in
theorem dX8_isFigure_0 : decode cX8_isFigure 0 = .ok (.aload_n 0, 1) := by decide +kernel
theorem dX8_isFigure_1 : decode cX8_isFigure 1 = .ok (.getfield 280, 3) := by decide +kernel
theorem dX8_isFigure_4 : decode cX8_isFigure 4 = .ok (.aload_n 0, 1) := by decide +kernel
theorem dX8_isFigure_5 : decode cX8_isFigure 5 = .ok (.getfield 277, 3) := by decide +kernel
theorem dX8_isFigure_8 : decode cX8_isFigure 8 = .ok (.if_icmp .ge 29, 3) := by decide +kernel
theorem dX8_isFigure_11 : decode cX8_isFigure 11 = .ok (.aload_n 0, 1) := by decide +kernel
theorem dX8_isFigure_12 : decode cX8_isFigure 12 = .ok (.getfield 25, 3) := by decide +kernel
theorem dX8_isFigure_15 : decode cX8_isFigure 15 = .ok (.aload_n 0, 1) := by decide +kernel
theorem dX8_isFigure_16 : decode cX8_isFigure 16 = .ok (.getfield 280, 3) := by decide +kernel
theorem dX8_isFigure_19 : decode cX8_isFigure 19 = .ok (.iaload, 1) := by decide +kernel
theorem dX8_isFigure_20 : decode cX8_isFigure 20 = .ok (.i2l, 1) := by decide +kernel
theorem dX8_isFigure_21 : decode cX8_isFigure 21 = .ok (.ldc2_w 283, 3) := by decide +kernel
theorem dX8_isFigure_24 : decode cX8_isFigure 24 = .ok (.ldc2_w 285, 3) := by decide +kernel

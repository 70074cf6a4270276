theorem dX7_back_10 : decode cX7_back 10 = .ok (.aload_n 0, 1) := by decide +kernel
theorem dX7_back_11 : decode cX7_back 11 = .ok (.ldc 153, 2) := by decide +kernel
theorem dX7_back_13 : decode cX7_back 13 = .ok (.invokevirtual 55, 3) := by decide +kernel
theorem dX7_back_16 : decode cX7_back 16 = .ok (.ireturn, 1) := by decide +kernel
theorem dX7_back_17 : decode cX7_back 17 = .ok (.aload_n 0, 1) := by decide +kernel
theorem dX7_back_18 : decode cX7_back 18 = .ok (.getfield 22, 3) := by decide +kernel
theorem dX7_back_21 : decode cX7_back 21 = .ok (.aload_n 0, 1) := by decide +kernel
theorem dX7_back_22 : decode cX7_back 22 = .ok (.getfield 10, 3) := by decide +kernel
theorem dX7_back_25 : decode cX7_back 25 = .ok (.invokevirtual 216, 3) := by decide +kernel
theorem dX7_back_28 : decode cX7_back 28 = .ok (.aload_n 0, 1) := by decide +kernel
theorem dX7_back_29 : decode cX7_back 29 = .ok (.getfield 36, 3) := by decide +kernel
theorem dX7_back_32 : decode cX7_back 32 = .ok (.invokevirtual 219, 3) := by decide +kernel
theorem dX7_back_35 : decode cX7_back 35 = .ok (.aload_n 0, 1) := by decide +kernel
theorem dX7_back_36 : decode cX7_back 36 = .ok (.getfield 22, 3) := by decide +kernel
theorem dX7_back_39 : decode cX7_back 39 = .ok (.getfield 213, 3) := by decide +kernel
theorem dX7_back_42 : decode cX7_back 42 = .ok (.ireturn, 1) := by decide +kernel
set_option maxRecDepth 20000 in
theorem ggX7_told_X7_refused : GoodIn wsX7_told wsX7_refused := goodIn_r _ [6, 7, 1, 19, 20, 21, 22, 23, 24, 25] (by decide +kernel) (by decide +kernel)
set_option maxRecDepth 20000 in
theorem gX7_told_X7_refused : GoodIn wsX7_told (wsV RX7 55 RX7 yX7_refused wsX7_refused) := goodIn_app (goodIn_of _ (by decide +kernel)) ggX7_told_X7_refused
set_option maxRecDepth 20000 in
theorem ggX7_told_X7_tally : GoodIn wsX7_told wsX7_tally := goodIn_r _ [11, 12, 13, 14, 15, 16, 17, 18, 7, 19, 20, 21, 22, 23, 24, 25, 26, 27, 28, 29, 30, 31, 32, 33, 34, 35, 36, 37, 38, 39, 40, 41, 42] (by decide +kernel) (by decide +kernel)
set_option maxRecDepth 20000 in
theorem gX7_told_X7_tally : GoodIn wsX7_told (wsV RX7 222 RX7 yX7_tally wsX7_tally) := goodIn_app (goodIn_of _ (by decide +kernel)) ggX7_told_X7_tally
theorem dX7_told_0 : decode cX7_told 0 = .ok (.iload_n 1, 1) := by decide +kernel
theorem dX7_told_1 : decode cX7_told 1 = .ok (.ifCond .lt 9, 3) := by decide +kernel
theorem dX7_told_4 : decode cX7_told 4 = .ok (.iload_n 1, 1) := by decide +kernel
theorem dX7_told_5 : decode cX7_told 5 = .ok (.bipush 6, 2) := by decide +kernel
theorem dX7_told_7 : decode cX7_told 7 = .ok (.if_icmp .le 10, 3) := by decide +kernel
theorem dX7_told_10 : decode cX7_told 10 = .ok (.aload_n 0, 1) := by decide +kernel
theorem dX7_told_11 : decode cX7_told 11 = .ok (.ldc 75, 2) := by decide +kernel
theorem dX7_told_13 : decode cX7_told 13 = .ok (.invokevirtual 55, 3) := by decide +kernel
theorem dX7_told_16 : decode cX7_told 16 = .ok (.ireturn, 1) := by decide +kernel
theorem dX7_told_17 : decode cX7_told 17 = .ok (.aload_n 0, 1) := by decide +kernel
theorem dX7_told_18 : decode cX7_told 18 = .ok (.iload_n 1, 1) := by decide +kernel
theorem dX7_told_19 : decode cX7_told 19 = .ok (.invokevirtual 222, 3) := by decide +kernel
theorem dX7_told_22 : decode cX7_told 22 = .ok (.ireturn, 1) := by decide +kernel
set_option maxRecDepth 20000 in
theorem ggX7_digest_X7_tally : GoodIn wsX7_digest wsX7_tally := goodIn_r _ [16, 17, 18, 3, 4, 7, 19, 20, 21, 74, 75, 76, 77, 78, 79, 80, 89, 90, 91, 92, 93, 94, 81, 82, 83, 84, 85, 86, 87, 88, 95, 96, 97] (by decide +kernel) (by decide +kernel)
set_option maxRecDepth 20000 in
theorem gX7_digest_X7_tally : GoodIn wsX7_digest (wsV RX7 222 RX7 yX7_tally wsX7_tally) := goodIn_app (goodIn_of _ (by decide +kernel)) ggX7_digest_X7_tally
set_option maxRecDepth 20000 in
theorem ggX7_digest_X3_allRulesHold : GoodIn wsX7_digest wsX3_allRulesHold := goodIn_r _ [26, 27, 28, 29, 30, 31, 32, 33, 34, 35, 36, 37, 38, 39, 40, 41, 42, 43, 44, 45, 46, 47, 48, 49, 50, 51, 52, 53, 54, 55, 56, 57, 58, 59, 60, 61, 62, 63, 64, 65, 66, 67, 68, 69, 70, 71, 72, 73, 81, 82, 83, 84, 85, 86, 87, 88] (by decide +kernel) (by decide +kernel)
set_option maxRecDepth 20000 in
theorem gX7_digest_X3_allRulesHold : GoodIn wsX7_digest (wsV RX7 235 RX3 yX3_allRulesHold wsX3_allRulesHold) := goodIn_app (goodIn_of _ (by decide +kernel)) ggX7_digest_X3_allRulesHold
theorem dX7_digest_0 : decode cX7_digest 0 = .ok (.ldc2_w 225, 3) := by decide +kernel
theorem dX7_digest_3 : decode cX7_digest 3 = .ok (.lstore_n 1, 1) := by decide +kernel
theorem dX7_digest_4 : decode cX7_digest 4 = .ok (.iconst 0, 1) := by decide +kernel
theorem dX7_digest_5 : decode cX7_digest 5 = .ok (.istore_n 3, 1) := by decide +kernel
theorem dX7_digest_6 : decode cX7_digest 6 = .ok (.iload_n 3, 1) := by decide +kernel
theorem dX7_digest_7 : decode cX7_digest 7 = .ok (.bipush 6, 2) := by decide +kernel
theorem dX7_digest_9 : decode cX7_digest 9 = .ok (.if_icmp .gt 22, 3) := by decide +kernel
theorem dX7_digest_12 : decode cX7_digest 12 = .ok (.ldc2_w 227, 3) := by decide +kernel
theorem dX7_digest_15 : decode cX7_digest 15 = .ok (.lload_n 1, 1) := by decide +kernel
theorem dX7_digest_16 : decode cX7_digest 16 = .ok (.lmul, 1) := by decide +kernel
theorem dX7_digest_17 : decode cX7_digest 17 = .ok (.aload_n 0, 1) := by decide +kernel
theorem dX7_digest_18 : decode cX7_digest 18 = .ok (.iload_n 3, 1) := by decide +kernel
theorem dX7_digest_19 : decode cX7_digest 19 = .ok (.invokevirtual 222, 3) := by decide +kernel
theorem dX7_digest_22 : decode cX7_digest 22 = .ok (.i2l, 1) := by decide +kernel
theorem dX7_digest_23 : decode cX7_digest 23 = .ok (.ladd, 1) := by decide +kernel
theorem dX7_digest_24 : decode cX7_digest 24 = .ok (.lstore_n 1, 1) := by decide +kernel
theorem dX7_digest_25 : decode cX7_digest 25 = .ok (.iinc 3 1, 3) := by decide +kernel
theorem dX7_digest_28 : decode cX7_digest 28 = .ok (.goto (-22), 3) := by decide +kernel
theorem dX7_digest_31 : decode cX7_digest 31 = .ok (.iconst 0, 1) := by decide +kernel
theorem dX7_digest_32 : decode cX7_digest 32 = .ok (.istore_n 3, 1) := by decide +kernel
theorem dX7_digest_33 : decode cX7_digest 33 = .ok (.iload_n 3, 1) := by decide +kernel
theorem dX7_digest_34 : decode cX7_digest 34 = .ok (.aload_n 0, 1) := by decide +kernel
theorem dX7_digest_35 : decode cX7_digest 35 = .ok (.getfield 10, 3) := by decide +kernel
theorem dX7_digest_38 : decode cX7_digest 38 = .ok (.getfield 229, 3) := by decide +kernel
theorem dX7_digest_41 : decode cX7_digest 41 = .ok (.if_icmp .ge 43, 3) := by decide +kernel
theorem dX7_digest_44 : decode cX7_digest 44 = .ok (.ldc2_w 227, 3) := by decide +kernel
theorem dX7_digest_47 : decode cX7_digest 47 = .ok (.lload_n 1, 1) := by decide +kernel
theorem dX7_digest_48 : decode cX7_digest 48 = .ok (.lmul, 1) := by decide +kernel
theorem dX7_digest_49 : decode cX7_digest 49 = .ok (.aload_n 0, 1) := by decide +kernel
theorem dX7_digest_50 : decode cX7_digest 50 = .ok (.getfield 10, 3) := by decide +kernel
theorem dX7_digest_53 : decode cX7_digest 53 = .ok (.getfield 76, 3) := by decide +kernel
theorem dX7_digest_56 : decode cX7_digest 56 = .ok (.iload_n 3, 1) := by decide +kernel
theorem dX7_digest_57 : decode cX7_digest 57 = .ok (.iaload, 1) := by decide +kernel
theorem dX7_digest_58 : decode cX7_digest 58 = .ok (.i2l, 1) := by decide +kernel
theorem dX7_digest_59 : decode cX7_digest 59 = .ok (.ladd, 1) := by decide +kernel
theorem dX7_digest_60 : decode cX7_digest 60 = .ok (.lstore_n 1, 1) := by decide +kernel
theorem dX7_digest_61 : decode cX7_digest 61 = .ok (.ldc2_w 227, 3) := by decide +kernel
theorem dX7_digest_64 : decode cX7_digest 64 = .ok (.lload_n 1, 1) := by decide +kernel
theorem dX7_digest_65 : decode cX7_digest 65 = .ok (.lmul, 1) := by decide +kernel
theorem dX7_digest_66 : decode cX7_digest 66 = .ok (.aload_n 0, 1) := by decide +kernel
theorem dX7_digest_67 : decode cX7_digest 67 = .ok (.getfield 10, 3) := by decide +kernel
theorem dX7_digest_70 : decode cX7_digest 70 = .ok (.getfield 79, 3) := by decide +kernel
theorem dX7_digest_73 : decode cX7_digest 73 = .ok (.iload_n 3, 1) := by decide +kernel
theorem dX7_digest_74 : decode cX7_digest 74 = .ok (.iaload, 1) := by decide +kernel
theorem dX7_digest_75 : decode cX7_digest 75 = .ok (.i2l, 1) := by decide +kernel
theorem dX7_digest_76 : decode cX7_digest 76 = .ok (.ladd, 1) := by decide +kernel
theorem dX7_digest_77 : decode cX7_digest 77 = .ok (.lstore_n 1, 1) := by decide +kernel
theorem dX7_digest_78 : decode cX7_digest 78 = .ok (.iinc 3 1, 3) := by decide +kernel
theorem dX7_digest_81 : decode cX7_digest 81 = .ok (.goto (-48), 3) := by decide +kernel
theorem dX7_digest_84 : decode cX7_digest 84 = .ok (.iconst 0, 1) := by decide +kernel
theorem dX7_digest_85 : decode cX7_digest 85 = .ok (.istore_n 3, 1) := by decide +kernel
theorem dX7_digest_86 : decode cX7_digest 86 = .ok (.iload_n 3, 1) := by decide +kernel
theorem dX7_digest_87 : decode cX7_digest 87 = .ok (.aload_n 0, 1) := by decide +kernel
theorem dX7_digest_88 : decode cX7_digest 88 = .ok (.getfield 10, 3) := by decide +kernel
theorem dX7_digest_91 : decode cX7_digest 91 = .ok (.getfield 232, 3) := by decide +kernel
theorem dX7_digest_94 : decode cX7_digest 94 = .ok (.if_icmp .ge 77, 3) := by decide +kernel
theorem dX7_digest_97 : decode cX7_digest 97 = .ok (.ldc2_w 227, 3) := by decide +kernel
theorem dX7_digest_100 : decode cX7_digest 100 = .ok (.lload_n 1, 1) := by decide +kernel
theorem dX7_digest_101 : decode cX7_digest 101 = .ok (.lmul, 1) := by decide +kernel
theorem dX7_digest_102 : decode cX7_digest 102 = .ok (.aload_n 0, 1) := by decide +kernel
theorem dX7_digest_103 : decode cX7_digest 103 = .ok (.getfield 10, 3) := by decide +kernel
theorem dX7_digest_106 : decode cX7_digest 106 = .ok (.getfield 106, 3) := by decide +kernel
theorem dX7_digest_109 : decode cX7_digest 109 = .ok (.iload_n 3, 1) := by decide +kernel
theorem dX7_digest_110 : decode cX7_digest 110 = .ok (.iaload, 1) := by decide +kernel
theorem dX7_digest_111 : decode cX7_digest 111 = .ok (.i2l, 1) := by decide +kernel
theorem dX7_digest_112 : decode cX7_digest 112 = .ok (.ladd, 1) := by decide +kernel
theorem dX7_digest_113 : decode cX7_digest 113 = .ok (.lstore_n 1, 1) := by decide +kernel
theorem dX7_digest_114 : decode cX7_digest 114 = .ok (.ldc2_w 227, 3) := by decide +kernel
theorem dX7_digest_117 : decode cX7_digest 117 = .ok (.lload_n 1, 1) := by decide +kernel
theorem dX7_digest_118 : decode cX7_digest 118 = .ok (.lmul, 1) := by decide +kernel
theorem dX7_digest_119 : decode cX7_digest 119 = .ok (.aload_n 0, 1) := by decide +kernel
theorem dX7_digest_120 : decode cX7_digest 120 = .ok (.getfield 10, 3) := by decide +kernel
theorem dX7_digest_123 : decode cX7_digest 123 = .ok (.getfield 109, 3) := by decide +kernel
theorem dX7_digest_126 : decode cX7_digest 126 = .ok (.iload_n 3, 1) := by decide +kernel
theorem dX7_digest_127 : decode cX7_digest 127 = .ok (.iaload, 1) := by decide +kernel
theorem dX7_digest_128 : decode cX7_digest 128 = .ok (.i2l, 1) := by decide +kernel
theorem dX7_digest_129 : decode cX7_digest 129 = .ok (.ladd, 1) := by decide +kernel
theorem dX7_digest_130 : decode cX7_digest 130 = .ok (.lstore_n 1, 1) := by decide +kernel
theorem dX7_digest_131 : decode cX7_digest 131 = .ok (.ldc2_w 227, 3) := by decide +kernel
theorem dX7_digest_134 : decode cX7_digest 134 = .ok (.lload_n 1, 1) := by decide +kernel
theorem dX7_digest_135 : decode cX7_digest 135 = .ok (.lmul, 1) := by decide +kernel
theorem dX7_digest_136 : decode cX7_digest 136 = .ok (.aload_n 0, 1) := by decide +kernel
theorem dX7_digest_137 : decode cX7_digest 137 = .ok (.getfield 10, 3) := by decide +kernel
theorem dX7_digest_140 : decode cX7_digest 140 = .ok (.getfield 112, 3) := by decide +kernel
theorem dX7_digest_143 : decode cX7_digest 143 = .ok (.iload_n 3, 1) := by decide +kernel
theorem dX7_digest_144 : decode cX7_digest 144 = .ok (.iaload, 1) := by decide +kernel
theorem dX7_digest_145 : decode cX7_digest 145 = .ok (.i2l, 1) := by decide +kernel
theorem dX7_digest_146 : decode cX7_digest 146 = .ok (.ladd, 1) := by decide +kernel
theorem dX7_digest_147 : decode cX7_digest 147 = .ok (.lstore_n 1, 1) := by decide +kernel
theorem dX7_digest_148 : decode cX7_digest 148 = .ok (.ldc2_w 227, 3) := by decide +kernel
theorem dX7_digest_151 : decode cX7_digest 151 = .ok (.lload_n 1, 1) := by decide +kernel
theorem dX7_digest_152 : decode cX7_digest 152 = .ok (.lmul, 1) := by decide +kernel
theorem dX7_digest_153 : decode cX7_digest 153 = .ok (.aload_n 0, 1) := by decide +kernel
theorem dX7_digest_154 : decode cX7_digest 154 = .ok (.getfield 10, 3) := by decide +kernel
theorem dX7_digest_157 : decode cX7_digest 157 = .ok (.getfield 115, 3) := by decide +kernel
theorem dX7_digest_160 : decode cX7_digest 160 = .ok (.iload_n 3, 1) := by decide +kernel
theorem dX7_digest_161 : decode cX7_digest 161 = .ok (.iaload, 1) := by decide +kernel
theorem dX7_digest_162 : decode cX7_digest 162 = .ok (.i2l, 1) := by decide +kernel
theorem dX7_digest_163 : decode cX7_digest 163 = .ok (.ladd, 1) := by decide +kernel
theorem dX7_digest_164 : decode cX7_digest 164 = .ok (.lstore_n 1, 1) := by decide +kernel
theorem dX7_digest_165 : decode cX7_digest 165 = .ok (.iinc 3 1, 3) := by decide +kernel
theorem dX7_digest_168 : decode cX7_digest 168 = .ok (.goto (-82), 3) := by decide +kernel
theorem dX7_digest_171 : decode cX7_digest 171 = .ok (.ldc2_w 227, 3) := by decide +kernel
theorem dX7_digest_174 : decode cX7_digest 174 = .ok (.lload_n 1, 1) := by decide +kernel
theorem dX7_digest_175 : decode cX7_digest 175 = .ok (.lmul, 1) := by decide +kernel
theorem dX7_digest_176 : decode cX7_digest 176 = .ok (.aload_n 0, 1) := by decide +kernel
theorem dX7_digest_177 : decode cX7_digest 177 = .ok (.getfield 10, 3) := by decide +kernel
theorem dX7_digest_180 : decode cX7_digest 180 = .ok (.aload_n 0, 1) := by decide +kernel
theorem dX7_digest_181 : decode cX7_digest 181 = .ok (.getfield 10, 3) := by decide +kernel
theorem dX7_digest_184 : decode cX7_digest 184 = .ok (.getfield 76, 3) := by decide +kernel
theorem dX7_digest_187 : decode cX7_digest 187 = .ok (.invokevirtual 235, 3) := by decide +kernel
theorem dX7_digest_190 : decode cX7_digest 190 = .ok (.ifCond .eq 7, 3) := by decide +kernel
theorem dX7_digest_193 : decode cX7_digest 193 = .ok (.iconst 1, 1) := by decide +kernel
theorem dX7_digest_194 : decode cX7_digest 194 = .ok (.goto 4, 3) := by decide +kernel
theorem dX7_digest_197 : decode cX7_digest 197 = .ok (.iconst 0, 1) := by decide +kernel
theorem dX7_digest_198 : decode cX7_digest 198 = .ok (.i2l, 1) := by decide +kernel
theorem dX7_digest_199 : decode cX7_digest 199 = .ok (.ladd, 1) := by decide +kernel
theorem dX7_digest_200 : decode cX7_digest 200 = .ok (.lreturn, 1) := by decide +kernel
set_option maxRecDepth 20000 in
theorem ggX7_keepState_X2_keep : GoodIn wsX7_keepState wsX2_keep := goodIn_r _ [8, 9, 10, 11, 12, 13, 14, 15, 16, 17, 18, 19, 20, 21, 22, 23, 24, 25, 26, 27, 28, 29, 30, 31, 32, 46, 47, 48, 49, 50, 51, 52, 53, 54, 55, 56] (by decide +kernel) (by decide +kernel)
set_option maxRecDepth 20000 in
theorem gX7_keepState_X2_keep : GoodIn wsX7_keepState (wsV RX7 239 RX2 yX2_keep wsX2_keep) := goodIn_app (goodIn_of _ (by decide +kernel)) ggX7_keepState_X2_keep
set_option maxRecDepth 20000 in
theorem ggX7_keepState_X5_forget : GoodIn wsX7_keepState wsX5_forget := goodIn_r _ [37, 38, 57, 58, 59, 60, 61, 62, 63, 64] (by decide +kernel) (by decide +kernel)
set_option maxRecDepth 20000 in
theorem gX7_keepState_X5_forget : GoodIn wsX7_keepState (wsV RX7 219 RX5 yX5_forget wsX5_forget) := goodIn_app (goodIn_of _ (by decide +kernel)) ggX7_keepState_X5_forget
theorem dX7_keepState_0 : decode cX7_keepState 0 = .ok (.aload_n 0, 1) := by decide +kernel
theorem dX7_keepState_1 : decode cX7_keepState 1 = .ok (.getfield 22, 3) := by decide +kernel
theorem dX7_keepState_4 : decode cX7_keepState 4 = .ok (.aload_n 0, 1) := by decide +kernel
theorem dX7_keepState_5 : decode cX7_keepState 5 = .ok (.getfield 10, 3) := by decide +kernel
theorem dX7_keepState_8 : decode cX7_keepState 8 = .ok (.invokevirtual 239, 3) := by decide +kernel
theorem dX7_keepState_11 : decode cX7_keepState 11 = .ok (.aload_n 0, 1) := by decide +kernel
theorem dX7_keepState_12 : decode cX7_keepState 12 = .ok (.getfield 36, 3) := by decide +kernel
theorem dX7_keepState_15 : decode cX7_keepState 15 = .ok (.invokevirtual 219, 3) := by decide +kernel
theorem dX7_keepState_18 : decode cX7_keepState 18 = .ok (.return_, 1) := by decide +kernel
theorem dX7_refused_0 : decode cX7_refused 0 = .ok (.aload_n 0, 1) := by decide +kernel
theorem dX7_refused_1 : decode cX7_refused 1 = .ok (.getfield 47, 3) := by decide +kernel
theorem dX7_refused_4 : decode cX7_refused 4 = .ok (.ldc 75, 2) := by decide +kernel
theorem dX7_refused_6 : decode cX7_refused 6 = .ok (.iload_n 1, 1) := by decide +kernel
theorem dX7_refused_7 : decode cX7_refused 7 = .ok (.isub, 1) := by decide +kernel
theorem dX7_refused_8 : decode cX7_refused 8 = .ok (.dup2, 1) := by decide +kernel
theorem dX7_refused_9 : decode cX7_refused 9 = .ok (.iaload, 1) := by decide +kernel
theorem dX7_refused_10 : decode cX7_refused 10 = .ok (.iconst 1, 1) := by decide +kernel
theorem dX7_refused_11 : decode cX7_refused 11 = .ok (.iadd, 1) := by decide +kernel
theorem dX7_refused_12 : decode cX7_refused 12 = .ok (.iastore, 1) := by decide +kernel
theorem dX7_refused_13 : decode cX7_refused 13 = .ok (.iload_n 1, 1) := by decide +kernel
theorem dX7_refused_14 : decode cX7_refused 14 = .ok (.ireturn, 1) := by decide +kernel
theorem dX7_tally_0 : decode cX7_tally 0 = .ok (.iload_n 1, 1) := by decide +kernel
theorem dX7_tally_1 : decode cX7_tally 1 = .ok (.tableswitch 63 3 6 #[31, 39, 47, 55], 31) := by decide +kernel
theorem dX7_tally_32 : decode cX7_tally 32 = .ok (.aload_n 0, 1) := by decide +kernel
theorem dX7_tally_33 : decode cX7_tally 33 = .ok (.getfield 43, 3) := by decide +kernel
theorem dX7_tally_36 : decode cX7_tally 36 = .ok (.getfield 185, 3) := by decide +kernel
theorem dX7_tally_39 : decode cX7_tally 39 = .ok (.ireturn, 1) := by decide +kernel
theorem dX7_tally_40 : decode cX7_tally 40 = .ok (.aload_n 0, 1) := by decide +kernel
theorem dX7_tally_41 : decode cX7_tally 41 = .ok (.getfield 10, 3) := by decide +kernel
theorem dX7_tally_44 : decode cX7_tally 44 = .ok (.getfield 229, 3) := by decide +kernel
theorem dX7_tally_47 : decode cX7_tally 47 = .ok (.ireturn, 1) := by decide +kernel
theorem dX7_tally_48 : decode cX7_tally 48 = .ok (.aload_n 0, 1) := by decide +kernel
theorem dX7_tally_49 : decode cX7_tally 49 = .ok (.getfield 10, 3) := by decide +kernel
theorem dX7_tally_52 : decode cX7_tally 52 = .ok (.getfield 232, 3) := by decide +kernel
theorem dX7_tally_55 : decode cX7_tally 55 = .ok (.ireturn, 1) := by decide +kernel
theorem dX7_tally_56 : decode cX7_tally 56 = .ok (.aload_n 0, 1) := by decide +kernel
theorem dX7_tally_57 : decode cX7_tally 57 = .ok (.getfield 22, 3) := by decide +kernel
theorem dX7_tally_60 : decode cX7_tally 60 = .ok (.getfield 213, 3) := by decide +kernel
theorem dX7_tally_63 : decode cX7_tally 63 = .ok (.ireturn, 1) := by decide +kernel
theorem dX7_tally_64 : decode cX7_tally 64 = .ok (.aload_n 0, 1) := by decide +kernel
theorem dX7_tally_65 : decode cX7_tally 65 = .ok (.getfield 47, 3) := by decide +kernel
theorem dX7_tally_68 : decode cX7_tally 68 = .ok (.iload_n 1, 1) := by decide +kernel
theorem dX7_tally_69 : decode cX7_tally 69 = .ok (.iaload, 1) := by decide +kernel
theorem dX7_tally_70 : decode cX7_tally 70 = .ok (.ireturn, 1) := by decide +kernel
set_option maxRecDepth 20000 in
theorem ggX7_cutRanges_X0_load : GoodIn wsX7_cutRanges wsX0_load := goodIn_r _ [10, 11, 12, 13, 14, 15, 16, 138, 139, 140, 141] (by decide +kernel) (by decide +kernel)
set_option maxRecDepth 20000 in
theorem gX7_cutRanges_X0_load : GoodIn wsX7_cutRanges (wsV RX7 118 RX0 yX0_load wsX0_load) := goodIn_app (goodIn_of _ (by decide +kernel)) ggX7_cutRanges_X0_load
set_option maxRecDepth 20000 in
theorem ggX7_cutRanges_X0_cutByRules : GoodIn wsX7_cutRanges wsX0_cutByRules := goodIn_r _ [20, 21, 22, 23, 24, 25, 26, 27, 28, 29, 30, 9, 31, 11, 16, 32, 33, 34, 35, 36, 37, 38, 39, 40, 41, 42, 43, 44, 45, 46, 47, 48, 49, 50, 51, 52, 53, 54, 55, 56, 57, 58, 59, 60, 61, 62, 63, 64, 65, 66, 67, 68, 69, 70, 71, 72, 73, 74, 75, 76, 77, 78, 79, 80, 81, 82, 83, 84, 85, 86, 87, 88, 89, 90, 91, 92, 93, 94, 95, 96, 97, 98, 99, 100, 101, 102, 103, 104, 105, 106, 107, 108, 109, 110, 111, 112, 113, 114, 115, 116, 117, 118, 138, 139, 140, 141, 130, 131, 132, 133, 134, 135, 136, 137] (by decide +kernel) (by decide +kernel)
set_option maxRecDepth 20000 in
theorem gX7_cutRanges_X0_cutByRules : GoodIn wsX7_cutRanges (wsV RX7 122 RX0 yX0_cutByRules wsX0_cutByRules) := goodIn_app (goodIn_of _ (by decide +kernel)) ggX7_cutRanges_X0_cutByRules
set_option maxRecDepth 20000 in
theorem ggX7_cutRanges_X0_store : GoodIn wsX7_cutRanges wsX0_store := goodIn_r _ [122, 11, 12, 13, 14, 15, 16, 138, 139, 140, 141] (by decide +kernel) (by decide +kernel)
set_option maxRecDepth 20000 in
theorem gX7_cutRanges_X0_store : GoodIn wsX7_cutRanges (wsV RX7 242 RX0 yX0_store wsX0_store) := goodIn_app (goodIn_of _ (by decide +kernel)) ggX7_cutRanges_X0_store
theorem dX7_cutRanges_0 : decode cX7_cutRanges 0 = .ok (.aload_n 0, 1) := by decide +kernel
theorem dX7_cutRanges_1 : decode cX7_cutRanges 1 = .ok (.getfield 29, 3) := by decide +kernel
theorem dX7_cutRanges_4 : decode cX7_cutRanges 4 = .ok (.aload_n 1, 1) := by decide +kernel
theorem dX7_cutRanges_5 : decode cX7_cutRanges 5 = .ok (.getfield 76, 3) := by decide +kernel
theorem dX7_cutRanges_8 : decode cX7_cutRanges 8 = .ok (.aload_n 1, 1) := by decide +kernel
theorem dX7_cutRanges_9 : decode cX7_cutRanges 9 = .ok (.getfield 79, 3) := by decide +kernel
theorem dX7_cutRanges_12 : decode cX7_cutRanges 12 = .ok (.iconst 0, 1) := by decide +kernel
theorem dX7_cutRanges_13 : decode cX7_cutRanges 13 = .ok (.invokevirtual 118, 3) := by decide +kernel
theorem dX7_cutRanges_16 : decode cX7_cutRanges 16 = .ok (.aload_n 0, 1) := by decide +kernel
theorem dX7_cutRanges_17 : decode cX7_cutRanges 17 = .ok (.getfield 29, 3) := by decide +kernel
theorem dX7_cutRanges_20 : decode cX7_cutRanges 20 = .ok (.aload_n 1, 1) := by decide +kernel
theorem dX7_cutRanges_21 : decode cX7_cutRanges 21 = .ok (.iconst 0, 1) := by decide +kernel
theorem dX7_cutRanges_22 : decode cX7_cutRanges 22 = .ok (.aload_n 1, 1) := by decide +kernel
theorem dX7_cutRanges_23 : decode cX7_cutRanges 23 = .ok (.getfield 232, 3) := by decide +kernel
theorem dX7_cutRanges_26 : decode cX7_cutRanges 26 = .ok (.bipush 12, 2) := by decide +kernel
theorem dX7_cutRanges_28 : decode cX7_cutRanges 28 = .ok (.invokevirtual 122, 3) := by decide +kernel
theorem dX7_cutRanges_31 : decode cX7_cutRanges 31 = .ok (.istore_n 2, 1) := by decide +kernel
theorem dX7_cutRanges_32 : decode cX7_cutRanges 32 = .ok (.iload_n 2, 1) := by decide +kernel
theorem dX7_cutRanges_33 : decode cX7_cutRanges 33 = .ok (.ldc 126, 2) := by decide +kernel
theorem dX7_cutRanges_35 : decode cX7_cutRanges 35 = .ok (.if_icmp .eq 19, 3) := by decide +kernel
theorem dX7_cutRanges_38 : decode cX7_cutRanges 38 = .ok (.aload_n 0, 1) := by decide +kernel
theorem dX7_cutRanges_39 : decode cX7_cutRanges 39 = .ok (.getfield 29, 3) := by decide +kernel
theorem dX7_cutRanges_42 : decode cX7_cutRanges 42 = .ok (.aload_n 1, 1) := by decide +kernel
theorem dX7_cutRanges_43 : decode cX7_cutRanges 43 = .ok (.getfield 76, 3) := by decide +kernel
theorem dX7_cutRanges_46 : decode cX7_cutRanges 46 = .ok (.aload_n 1, 1) := by decide +kernel
theorem dX7_cutRanges_47 : decode cX7_cutRanges 47 = .ok (.getfield 79, 3) := by decide +kernel
theorem dX7_cutRanges_50 : decode cX7_cutRanges 50 = .ok (.iconst 0, 1) := by decide +kernel
theorem dX7_cutRanges_51 : decode cX7_cutRanges 51 = .ok (.invokevirtual 242, 3) := by decide +kernel
theorem dX7_cutRanges_54 : decode cX7_cutRanges 54 = .ok (.iload_n 2, 1) := by decide +kernel
theorem dX7_cutRanges_55 : decode cX7_cutRanges 55 = .ok (.ireturn, 1) := by decide +kernel
set_option maxRecDepth 20000 in
theorem ggX7_obeys_X1_ofWhole : GoodIn wsX7_obeys wsX1_ofWhole := goodIn_r _ [6, 7, 8, 9, 10, 11, 12, 5, 13, 14, 15, 16, 17, 18, 19, 20, 21, 22, 23, 24, 25, 26] (by decide +kernel) (by decide +kernel)
set_option maxRecDepth 20000 in
theorem gX7_obeys_X1_ofWhole : GoodIn wsX7_obeys (va_wsS RX7 154 yX1_ofWhole wsX1_ofWhole) := goodIn_app (goodIn_of _ (by decide +kernel)) ggX7_obeys_X1_ofWhole
set_option maxRecDepth 20000 in
theorem ggX7_obeys_X3_refusalOfUnknown : GoodIn wsX7_obeys wsX3_refusalOfUnknown := goodIn_r _ [31, 32, 33, 34, 35, 36, 37, 38, 39, 40, 41, 42, 43, 88, 89, 90, 91, 92, 93, 94, 95] (by decide +kernel) (by decide +kernel)
set_option maxRecDepth 20000 in
theorem gX7_obeys_X3_refusalOfUnknown : GoodIn wsX7_obeys (wsV RX7 51 RX3 yX3_refusalOfUnknown wsX3_refusalOfUnknown) := goodIn_app (goodIn_of _ (by decide +kernel)) ggX7_obeys_X3_refusalOfUnknown
set_option maxRecDepth 20000 in
theorem ggX7_obeys_X3_addUnknown : GoodIn wsX7_obeys wsX3_addUnknown := goodIn_r _ [47, 48, 33, 49, 88, 89, 90, 91, 92, 93, 94, 95] (by decide +kernel) (by decide +kernel)
set_option maxRecDepth 20000 in
theorem gX7_obeys_X3_addUnknown : GoodIn wsX7_obeys (wsV RX7 62 RX3 yX3_addUnknown wsX3_addUnknown) := goodIn_app (goodIn_of _ (by decide +kernel)) ggX7_obeys_X3_addUnknown
set_option maxRecDepth 20000 in
theorem ggX7_obeys_X3_refusalOfRule : GoodIn wsX7_obeys wsX3_refusalOfRule := goodIn_r _ [53, 32, 54, 34, 55, 56, 57, 30, 58, 33, 88, 89, 90, 91, 92, 93, 94, 95] (by decide +kernel) (by decide +kernel)
set_option maxRecDepth 20000 in
theorem gX7_obeys_X3_refusalOfRule : GoodIn wsX7_obeys (wsV RX7 85 RX3 yX3_refusalOfRule wsX3_refusalOfRule) := goodIn_app (goodIn_of _ (by decide +kernel)) ggX7_obeys_X3_refusalOfRule
set_option maxRecDepth 20000 in
theorem ggX7_obeys_X3_addRule : GoodIn wsX7_obeys wsX3_addRule := goodIn_r _ [62, 63, 54, 64, 65, 66, 88, 89, 90, 91, 92, 93, 94, 95] (by decide +kernel) (by decide +kernel)
set_option maxRecDepth 20000 in
theorem gX7_obeys_X3_addRule : GoodIn wsX7_obeys (wsV RX7 89 RX3 yX3_addRule wsX3_addRule) := goodIn_app (goodIn_of _ (by decide +kernel)) ggX7_obeys_X3_addRule
set_option maxRecDepth 20000 in
theorem ggX7_obeys_X3_hasRule : GoodIn wsX7_obeys wsX3_hasRule := goodIn_r _ [70, 54, 88, 89, 90, 91, 92, 93, 94, 95] (by decide +kernel) (by decide +kernel)
set_option maxRecDepth 20000 in
theorem gX7_obeys_X3_hasRule : GoodIn wsX7_obeys (wsV RX7 92 RX3 yX3_hasRule wsX3_hasRule) := goodIn_app (goodIn_of _ (by decide +kernel)) ggX7_obeys_X3_hasRule
set_option maxRecDepth 20000 in
theorem ggX7_obeys_X3_dropRule : GoodIn wsX7_obeys wsX3_dropRule := goodIn_r _ [74, 54, 63, 64, 65, 66, 88, 89, 90, 91, 92, 93, 94, 95] (by decide +kernel) (by decide +kernel)
set_option maxRecDepth 20000 in
theorem gX7_obeys_X3_dropRule : GoodIn wsX7_obeys (wsV RX7 95 RX3 yX3_dropRule wsX3_dropRule) := goodIn_app (goodIn_of _ (by decide +kernel)) ggX7_obeys_X3_dropRule
theorem dX7_obeys_0 : decode cX7_obeys 0 = .ok (.aload_n 0, 1) := by decide +kernel
theorem dX7_obeys_1 : decode cX7_obeys 1 = .ok (.getfield 43, 3) := by decide +kernel
theorem dX7_obeys_4 : decode cX7_obeys 4 = .ok (.getfield 245, 3) := by decide +kernel
theorem dX7_obeys_7 : decode cX7_obeys 7 = .ok (.iload_n 3, 1) := by decide +kernel
theorem dX7_obeys_8 : decode cX7_obeys 8 = .ok (.iaload, 1) := by decide +kernel
theorem dX7_obeys_9 : decode cX7_obeys 9 = .ok (.istore 4, 2) := by decide +kernel
theorem dX7_obeys_11 : decode cX7_obeys 11 = .ok (.aload_n 0, 1) := by decide +kernel
theorem dX7_obeys_12 : decode cX7_obeys 12 = .ok (.getfield 43, 3) := by decide +kernel
theorem dX7_obeys_15 : decode cX7_obeys 15 = .ok (.getfield 245, 3) := by decide +kernel
theorem dX7_obeys_18 : decode cX7_obeys 18 = .ok (.iload_n 3, 1) := by decide +kernel
theorem dX7_obeys_19 : decode cX7_obeys 19 = .ok (.iconst 1, 1) := by decide +kernel
theorem dX7_obeys_20 : decode cX7_obeys 20 = .ok (.iadd, 1) := by decide +kernel
theorem dX7_obeys_21 : decode cX7_obeys 21 = .ok (.iaload, 1) := by decide +kernel
theorem dX7_obeys_22 : decode cX7_obeys 22 = .ok (.istore 5, 2) := by decide +kernel
theorem dX7_obeys_24 : decode cX7_obeys 24 = .ok (.aload_n 0, 1) := by decide +kernel
theorem dX7_obeys_25 : decode cX7_obeys 25 = .ok (.getfield 43, 3) := by decide +kernel
theorem dX7_obeys_28 : decode cX7_obeys 28 = .ok (.getfield 245, 3) := by decide +kernel
theorem dX7_obeys_31 : decode cX7_obeys 31 = .ok (.iload_n 3, 1) := by decide +kernel
theorem dX7_obeys_32 : decode cX7_obeys 32 = .ok (.iconst 2, 1) := by decide +kernel
theorem dX7_obeys_33 : decode cX7_obeys 33 = .ok (.iadd, 1) := by decide +kernel
theorem dX7_obeys_34 : decode cX7_obeys 34 = .ok (.iaload, 1) := by decide +kernel
theorem dX7_obeys_35 : decode cX7_obeys 35 = .ok (.istore 6, 2) := by decide +kernel
theorem dX7_obeys_37 : decode cX7_obeys 37 = .ok (.aload_n 0, 1) := by decide +kernel
theorem dX7_obeys_38 : decode cX7_obeys 38 = .ok (.getfield 43, 3) := by decide +kernel
theorem dX7_obeys_41 : decode cX7_obeys 41 = .ok (.getfield 245, 3) := by decide +kernel
theorem dX7_obeys_44 : decode cX7_obeys 44 = .ok (.iload_n 3, 1) := by decide +kernel
theorem dX7_obeys_45 : decode cX7_obeys 45 = .ok (.iconst 3, 1) := by decide +kernel
theorem dX7_obeys_46 : decode cX7_obeys 46 = .ok (.iadd, 1) := by decide +kernel
theorem dX7_obeys_47 : decode cX7_obeys 47 = .ok (.iaload, 1) := by decide +kernel
theorem dX7_obeys_48 : decode cX7_obeys 48 = .ok (.istore 7, 2) := by decide +kernel
theorem dX7_obeys_50 : decode cX7_obeys 50 = .ok (.iload_n 2, 1) := by decide +kernel
theorem dX7_obeys_51 : decode cX7_obeys 51 = .ok (.lookupswitch 103 #[(107, 67), (117, 25)], 25) := by decide +kernel
theorem dX7_obeys_76 : decode cX7_obeys 76 = .ok (.iload 4, 2) := by decide +kernel
theorem dX7_obeys_78 : decode cX7_obeys 78 = .ok (.invokestatic 154, 3) := by decide +kernel
theorem dX7_obeys_81 : decode cX7_obeys 81 = .ok (.istore 8, 2) := by decide +kernel
theorem dX7_obeys_83 : decode cX7_obeys 83 = .ok (.iload 5, 2) := by decide +kernel
theorem dX7_obeys_85 : decode cX7_obeys 85 = .ok (.invokestatic 154, 3) := by decide +kernel
theorem dX7_obeys_88 : decode cX7_obeys 88 = .ok (.istore 9, 2) := by decide +kernel
theorem dX7_obeys_90 : decode cX7_obeys 90 = .ok (.aload_n 1, 1) := by decide +kernel
theorem dX7_obeys_91 : decode cX7_obeys 91 = .ok (.iload 8, 2) := by decide +kernel
theorem dX7_obeys_93 : decode cX7_obeys 93 = .ok (.iload 9, 2) := by decide +kernel
theorem dX7_obeys_95 : decode cX7_obeys 95 = .ok (.invokevirtual 51, 3) := by decide +kernel
theorem dX7_obeys_98 : decode cX7_obeys 98 = .ok (.ifCond .ne 18, 3) := by decide +kernel
theorem dX7_obeys_101 : decode cX7_obeys 101 = .ok (.aload_n 1, 1) := by decide +kernel
theorem dX7_obeys_102 : decode cX7_obeys 102 = .ok (.iload 8, 2) := by decide +kernel
theorem dX7_obeys_104 : decode cX7_obeys 104 = .ok (.iload 9, 2) := by decide +kernel
theorem dX7_obeys_106 : decode cX7_obeys 106 = .ok (.invokevirtual 62, 3) := by decide +kernel
theorem dX7_obeys_109 : decode cX7_obeys 109 = .ok (.ifCond .lt 7, 3) := by decide +kernel
theorem dX7_obeys_112 : decode cX7_obeys 112 = .ok (.iconst 1, 1) := by decide +kernel
theorem dX7_obeys_113 : decode cX7_obeys 113 = .ok (.goto 4, 3) := by decide +kernel
theorem dX7_obeys_116 : decode cX7_obeys 116 = .ok (.iconst 0, 1) := by decide +kernel
theorem dX7_obeys_117 : decode cX7_obeys 117 = .ok (.ireturn, 1) := by decide +kernel
theorem dX7_obeys_118 : decode cX7_obeys 118 = .ok (.aload_n 1, 1) := by decide +kernel
theorem dX7_obeys_119 : decode cX7_obeys 119 = .ok (.iload 4, 2) := by decide +kernel
theorem dX7_obeys_121 : decode cX7_obeys 121 = .ok (.iload 5, 2) := by decide +kernel
theorem dX7_obeys_123 : decode cX7_obeys 123 = .ok (.iload 6, 2) := by decide +kernel
theorem dX7_obeys_125 : decode cX7_obeys 125 = .ok (.iload 7, 2) := by decide +kernel
theorem dX7_obeys_127 : decode cX7_obeys 127 = .ok (.invokevirtual 85, 3) := by decide +kernel
theorem dX7_obeys_130 : decode cX7_obeys 130 = .ok (.ifCond .ne 22, 3) := by decide +kernel
theorem dX7_obeys_133 : decode cX7_obeys 133 = .ok (.aload_n 1, 1) := by decide +kernel
theorem dX7_obeys_134 : decode cX7_obeys 134 = .ok (.iload 4, 2) := by decide +kernel
theorem dX7_obeys_136 : decode cX7_obeys 136 = .ok (.iload 5, 2) := by decide +kernel
theorem dX7_obeys_138 : decode cX7_obeys 138 = .ok (.iload 6, 2) := by decide +kernel
theorem dX7_obeys_140 : decode cX7_obeys 140 = .ok (.iload 7, 2) := by decide +kernel
theorem dX7_obeys_142 : decode cX7_obeys 142 = .ok (.invokevirtual 89, 3) := by decide +kernel
theorem dX7_obeys_145 : decode cX7_obeys 145 = .ok (.ifCond .lt 7, 3) := by decide +kernel
theorem dX7_obeys_148 : decode cX7_obeys 148 = .ok (.iconst 1, 1) := by decide +kernel
theorem dX7_obeys_149 : decode cX7_obeys 149 = .ok (.goto 4, 3) := by decide +kernel
theorem dX7_obeys_152 : decode cX7_obeys 152 = .ok (.iconst 0, 1) := by decide +kernel
theorem dX7_obeys_153 : decode cX7_obeys 153 = .ok (.ireturn, 1) := by decide +kernel
theorem dX7_obeys_154 : decode cX7_obeys 154 = .ok (.aload_n 1, 1) := by decide +kernel
theorem dX7_obeys_155 : decode cX7_obeys 155 = .ok (.iload 4, 2) := by decide +kernel
theorem dX7_obeys_157 : decode cX7_obeys 157 = .ok (.invokevirtual 92, 3) := by decide +kernel
theorem dX7_obeys_160 : decode cX7_obeys 160 = .ok (.ifCond .eq 16, 3) := by decide +kernel
theorem dX7_obeys_163 : decode cX7_obeys 163 = .ok (.aload_n 1, 1) := by decide +kernel
theorem dX7_obeys_164 : decode cX7_obeys 164 = .ok (.iload 4, 2) := by decide +kernel
theorem dX7_obeys_166 : decode cX7_obeys 166 = .ok (.invokevirtual 95, 3) := by decide +kernel
theorem dX7_obeys_169 : decode cX7_obeys 169 = .ok (.ifCond .lt 7, 3) := by decide +kernel
theorem dX7_obeys_172 : decode cX7_obeys 172 = .ok (.iconst 1, 1) := by decide +kernel
theorem dX7_obeys_173 : decode cX7_obeys 173 = .ok (.goto 4, 3) := by decide +kernel
theorem dX7_obeys_176 : decode cX7_obeys 176 = .ok (.iconst 0, 1) := by decide +kernel
theorem dX7_obeys_177 : decode cX7_obeys 177 = .ok (.ireturn, 1) := by decide +kernel
theorem dX8_init_0 : decode cX8_init 0 = .ok (.aload_n 0, 1) := by decide +kernel
theorem dX8_init_1 : decode cX8_init 1 = .ok (.invokespecial 1, 3) := by decide +kernel
theorem dX8_init_4 : decode cX8_init 4 = .ok (.aload_n 0, 1) := by decide +kernel
theorem dX8_init_5 : decode cX8_init 5 = .ok (.bipush 38, 2) := by decide +kernel
theorem dX8_init_7 : decode cX8_init 7 = .ok (.newarray .int, 2) := by decide +kernel
theorem dX8_init_9 : decode cX8_init 9 = .ok (.putfield 7, 3) := by decide +kernel
theorem dX8_init_12 : decode cX8_init 12 = .ok (.aload_n 0, 1) := by decide +kernel
theorem dX8_init_13 : decode cX8_init 13 = .ok (.sipush 190, 3) := by decide +kernel
theorem dX8_init_16 : decode cX8_init 16 = .ok (.newarray .int, 2) := by decide +kernel
theorem dX8_init_18 : decode cX8_init 18 = .ok (.putfield 13, 3) := by decide +kernel
theorem dX8_init_21 : decode cX8_init 21 = .ok (.aload_n 0, 1) := by decide +kernel
theorem dX8_init_22 : decode cX8_init 22 = .ok (.iconst 3, 1) := by decide +kernel
theorem dX8_init_23 : decode cX8_init 23 = .ok (.newarray .int, 2) := by decide +kernel
theorem dX8_init_25 : decode cX8_init 25 = .ok (.putfield 16, 3) := by decide +kernel
theorem dX8_init_28 : decode cX8_init 28 = .ok (.aload_n 0, 1) := by decide +kernel
theorem dX8_init_29 : decode cX8_init 29 = .ok (.bipush 12, 2) := by decide +kernel
theorem dX8_init_31 : decode cX8_init 31 = .ok (.newarray .int, 2) := by decide +kernel
theorem dX8_init_33 : decode cX8_init 33 = .ok (.putfield 19, 3) := by decide +kernel
theorem dX8_init_36 : decode cX8_init 36 = .ok (.aload_n 0, 1) := by decide +kernel
theorem dX8_init_37 : decode cX8_init 37 = .ok (.sipush 768, 3) := by decide +kernel
theorem dX8_init_40 : decode cX8_init 40 = .ok (.newarray .int, 2) := by decide +kernel
theorem dX8_init_42 : decode cX8_init 42 = .ok (.putfield 22, 3) := by decide +kernel
theorem dX8_init_45 : decode cX8_init 45 = .ok (.aload_n 0, 1) := by decide +kernel
theorem dX8_init_46 : decode cX8_init 46 = .ok (.bipush 120, 2) := by decide +kernel
theorem dX8_init_48 : decode cX8_init 48 = .ok (.newarray .int, 2) := by decide +kernel
theorem dX8_init_50 : decode cX8_init 50 = .ok (.putfield 25, 3) := by decide +kernel
theorem dX8_init_53 : decode cX8_init 53 = .ok (.aload_n 0, 1) := by decide +kernel
theorem dX8_init_54 : decode cX8_init 54 = .ok (.iconst 4, 1) := by decide +kernel
theorem dX8_init_55 : decode cX8_init 55 = .ok (.newarray .int, 2) := by decide +kernel
theorem dX8_init_57 : decode cX8_init 57 = .ok (.putfield 28, 3) := by decide +kernel
theorem dX8_init_60 : decode cX8_init 60 = .ok (.aload_n 0, 1) := by decide +kernel
theorem dX8_init_61 : decode cX8_init 61 = .ok (.bipush 38, 2) := by decide +kernel
theorem dX8_init_63 : decode cX8_init 63 = .ok (.newarray .int, 2) := by decide +kernel
theorem dX8_init_65 : decode cX8_init 65 = .ok (.putfield 31, 3) := by decide +kernel
theorem dX8_init_68 : decode cX8_init 68 = .ok (.return_, 1) := by decide +kernel
theorem dX8_in_0 : decode cX8_in 0 = .ok (.lload_n 0, 1) := by decide +kernel
theorem dX8_in_1 : decode cX8_in 1 = .ok (.lload_n 2, 1) := by decide +kernel
theorem dX8_in_2 : decode cX8_in 2 = .ok (.lcmp, 1) := by decide +kernel
theorem dX8_in_3 : decode cX8_in 3 = .ok (.ifCond .lt 14, 3) := by decide +kernel
theorem dX8_in_6 : decode cX8_in 6 = .ok (.lload_n 0, 1) := by decide +kernel
theorem dX8_in_7 : decode cX8_in 7 = .ok (.lload 4, 2) := by decide +kernel
theorem dX8_in_9 : decode cX8_in 9 = .ok (.lcmp, 1) := by decide +kernel
theorem dX8_in_10 : decode cX8_in 10 = .ok (.ifCond .gt 7, 3) := by decide +kernel
theorem dX8_in_13 : decode cX8_in 13 = .ok (.iconst 1, 1) := by decide +kernel
theorem dX8_in_14 : decode cX8_in 14 = .ok (.goto 4, 3) := by decide +kernel
theorem dX8_in_17 : decode cX8_in 17 = .ok (.iconst 0, 1) := by decide +kernel
theorem dX8_in_18 : decode cX8_in 18 = .ok (.ireturn, 1) := by decide +kernel
set_option maxRecDepth 20000 in
theorem ggX8_isPlace_X8_in : GoodIn wsX8_isPlace wsX8_in := goodIn_r _ [6] (by decide +kernel) (by decide +kernel)
set_option maxRecDepth 20000 in
theorem gX8_isPlace_X8_in : GoodIn wsX8_isPlace (va_wsS RX8 38 yX8_in wsX8_in) := goodIn_app (goodIn_of _ (by decide +kernel)) ggX8_isPlace_X8_in
theorem dX8_isPlace_0 : decode cX8_isPlace 0 = .ok (.iload_n 0, 1) := by decide +kernel
theorem dX8_isPlace_1 : decode cX8_isPlace 1 = .ok (.i2l, 1) := by decide +kernel
theorem dX8_isPlace_2 : decode cX8_isPlace 2 = .ok (.ldc2_w 34, 3) := by decide +kernel
theorem dX8_isPlace_5 : decode cX8_isPlace 5 = .ok (.ldc2_w 36, 3) := by decide +kernel
theorem dX8_isPlace_8 : decode cX8_isPlace 8 = .ok (.invokestatic 38, 3) := by decide +kernel
theorem dX8_isPlace_11 : decode cX8_isPlace 11 = .ok (.ireturn, 1) := by decide +kernel
theorem dX8_refuses_0 : decode cX8_refuses 0 = .ok (.aload_n 0, 1) := by decide +kernel
theorem dX8_refuses_1 : decode cX8_refuses 1 = .ok (.getfield 16, 3) := by decide +kernel
theorem dX8_refuses_4 : decode cX8_refuses 4 = .ok (.ldc 42, 2) := by decide +kernel
theorem dX8_refuses_6 : decode cX8_refuses 6 = .ok (.iload_n 1, 1) := by decide +kernel
theorem dX8_refuses_7 : decode cX8_refuses 7 = .ok (.isub, 1) := by decide +kernel
theorem dX8_refuses_8 : decode cX8_refuses 8 = .ok (.dup2, 1) := by decide +kernel
theorem dX8_refuses_9 : decode cX8_refuses 9 = .ok (.iaload, 1) := by decide +kernel
theorem dX8_refuses_10 : decode cX8_refuses 10 = .ok (.iconst 1, 1) := by decide +kernel
theorem dX8_refuses_11 : decode cX8_refuses 11 = .ok (.iadd, 1) := by decide +kernel
theorem dX8_refuses_12 : decode cX8_refuses 12 = .ok (.iastore, 1) := by decide +kernel
theorem dX8_refuses_13 : decode cX8_refuses 13 = .ok (.iload_n 1, 1) := by decide +kernel
theorem dX8_refuses_14 : decode cX8_refuses 14 = .ok (.ireturn, 1) := by decide +kernel
theorem dX8_keep_0 : decode cX8_keep 0 = .ok (.aload_n 0, 1) := by decide +kernel
theorem dX8_keep_1 : decode cX8_keep 1 = .ok (.getfield 43, 3) := by decide +kernel
theorem dX8_keep_4 : decode cX8_keep 4 = .ok (.iconst 5, 1) := by decide +kernel
theorem dX8_keep_5 : decode cX8_keep 5 = .ok (.if_icmp .ne 43, 3) := by decide +kernel
theorem dX8_keep_8 : decode cX8_keep 8 = .ok (.iconst 0, 1) := by decide +kernel
theorem dX8_keep_9 : decode cX8_keep 9 = .ok (.istore_n 1, 1) := by decide +kernel
theorem dX8_keep_10 : decode cX8_keep 10 = .ok (.iload_n 1, 1) := by decide +kernel
theorem dX8_keep_11 : decode cX8_keep 11 = .ok (.sipush 152, 3) := by decide +kernel
theorem dX8_keep_14 : decode cX8_keep 14 = .ok (.if_icmp .ge 24, 3) := by decide +kernel
theorem dX8_keep_17 : decode cX8_keep 17 = .ok (.aload_n 0, 1) := by decide +kernel
theorem dX8_keep_18 : decode cX8_keep 18 = .ok (.getfield 13, 3) := by decide +kernel
theorem dX8_keep_21 : decode cX8_keep 21 = .ok (.iload_n 1, 1) := by decide +kernel
theorem dX8_keep_22 : decode cX8_keep 22 = .ok (.aload_n 0, 1) := by decide +kernel
theorem dX8_keep_23 : decode cX8_keep 23 = .ok (.getfield 13, 3) := by decide +kernel
theorem dX8_keep_26 : decode cX8_keep 26 = .ok (.iload_n 1, 1) := by decide +kernel
theorem dX8_keep_27 : decode cX8_keep 27 = .ok (.bipush 38, 2) := by decide +kernel
theorem dX8_keep_29 : decode cX8_keep 29 = .ok (.iadd, 1) := by decide +kernel
theorem dX8_keep_30 : decode cX8_keep 30 = .ok (.iaload, 1) := by decide +kernel
theorem dX8_keep_31 : decode cX8_keep 31 = .ok (.iastore, 1) := by decide +kernel
theorem dX8_keep_32 : decode cX8_keep 32 = .ok (.iinc 1 1, 3) := by decide +kernel
theorem dX8_keep_35 : decode cX8_keep 35 = .ok (.goto (-25), 3) := by decide +kernel
theorem dX8_keep_38 : decode cX8_keep 38 = .ok (.aload_n 0, 1) := by decide +kernel
theorem dX8_keep_39 : decode cX8_keep 39 = .ok (.dup, 1) := by decide +kernel
theorem dX8_keep_40 : decode cX8_keep 40 = .ok (.getfield 43, 3) := by decide +kernel
theorem dX8_keep_43 : decode cX8_keep 43 = .ok (.iconst 1, 1) := by decide +kernel
theorem dX8_keep_44 : decode cX8_keep 44 = .ok (.isub, 1) := by decide +kernel
theorem dX8_keep_45 : decode cX8_keep 45 = .ok (.putfield 43, 3) := by decide +kernel
theorem dX8_keep_48 : decode cX8_keep 48 = .ok (.iconst 0, 1) := by decide +kernel
theorem dX8_keep_49 : decode cX8_keep 49 = .ok (.istore_n 1, 1) := by decide +kernel
theorem dX8_keep_50 : decode cX8_keep 50 = .ok (.iload_n 1, 1) := by decide +kernel
theorem dX8_keep_51 : decode cX8_keep 51 = .ok (.bipush 38, 2) := by decide +kernel
theorem dX8_keep_53 : decode cX8_keep 53 = .ok (.if_icmp .ge 29, 3) := by decide +kernel
theorem dX8_keep_56 : decode cX8_keep 56 = .ok (.aload_n 0, 1) := by decide +kernel
theorem dX8_keep_57 : decode cX8_keep 57 = .ok (.getfield 13, 3) := by decide +kernel
theorem dX8_keep_60 : decode cX8_keep 60 = .ok (.bipush 38, 2) := by decide +kernel
theorem dX8_keep_62 : decode cX8_keep 62 = .ok (.aload_n 0, 1) := by decide +kernel
theorem dX8_keep_63 : decode cX8_keep 63 = .ok (.getfield 43, 3) := by decide +kernel
theorem dX8_keep_66 : decode cX8_keep 66 = .ok (.imul, 1) := by decide +kernel
theorem dX8_keep_67 : decode cX8_keep 67 = .ok (.iload_n 1, 1) := by decide +kernel
theorem dX8_keep_68 : decode cX8_keep 68 = .ok (.iadd, 1) := by decide +kernel
theorem dX8_keep_69 : decode cX8_keep 69 = .ok (.aload_n 0, 1) := by decide +kernel
theorem dX8_keep_70 : decode cX8_keep 70 = .ok (.getfield 7, 3) := by decide +kernel
theorem dX8_keep_73 : decode cX8_keep 73 = .ok (.iload_n 1, 1) := by decide +kernel
theorem dX8_keep_74 : decode cX8_keep 74 = .ok (.iaload, 1) := by decide +kernel
theorem dX8_keep_75 : decode cX8_keep 75 = .ok (.iastore, 1) := by decide +kernel
theorem dX8_keep_76 : decode cX8_keep 76 = .ok (.iinc 1 1, 3) := by decide +kernel
theorem dX8_keep_79 : decode cX8_keep 79 = .ok (.goto (-29), 3) := by decide +kernel
theorem dX8_keep_82 : decode cX8_keep 82 = .ok (.aload_n 0, 1) := by decide +kernel
theorem dX8_keep_83 : decode cX8_keep 83 = .ok (.dup, 1) := by decide +kernel
theorem dX8_keep_84 : decode cX8_keep 84 = .ok (.getfield 43, 3) := by decide +kernel
theorem dX8_keep_87 : decode cX8_keep 87 = .ok (.iconst 1, 1) := by decide +kernel
theorem dX8_keep_88 : decode cX8_keep 88 = .ok (.iadd, 1) := by decide +kernel
theorem dX8_keep_89 : decode cX8_keep 89 = .ok (.putfield 43, 3) := by decide +kernel
theorem dX8_keep_92 : decode cX8_keep 92 = .ok (.return_, 1) := by decide +kernel
theorem dX8_unknowns_0 : decode cX8_unknowns 0 = .ok (.aload_n 0, 1) := by decide +kernel
theorem dX8_unknowns_1 : decode cX8_unknowns 1 = .ok (.getfield 7, 3) := by decide +kernel
theorem dX8_unknowns_4 : decode cX8_unknowns 4 = .ok (.iconst 0, 1) := by decide +kernel
theorem dX8_unknowns_5 : decode cX8_unknowns 5 = .ok (.iaload, 1) := by decide +kernel
theorem dX8_unknowns_6 : decode cX8_unknowns 6 = .ok (.ireturn, 1) := by decide +kernel
theorem dX8_rules_0 : decode cX8_rules 0 = .ok (.aload_n 0, 1) := by decide +kernel
theorem dX8_rules_1 : decode cX8_rules 1 = .ok (.getfield 7, 3) := by decide +kernel
theorem dX8_rules_4 : decode cX8_rules 4 = .ok (.bipush 13, 2) := by decide +kernel
theorem dX8_rules_6 : decode cX8_rules 6 = .ok (.iaload, 1) := by decide +kernel
theorem dX8_rules_7 : decode cX8_rules 7 = .ok (.ireturn, 1) := by decide +kernel
theorem dX8_lowAt_0 : decode cX8_lowAt 0 = .ok (.aload_n 0, 1) := by decide +kernel
theorem dX8_lowAt_1 : decode cX8_lowAt 1 = .ok (.getfield 7, 3) := by decide +kernel
theorem dX8_lowAt_4 : decode cX8_lowAt 4 = .ok (.iconst 1, 1) := by decide +kernel
theorem dX8_lowAt_5 : decode cX8_lowAt 5 = .ok (.iconst 2, 1) := by decide +kernel
theorem dX8_lowAt_6 : decode cX8_lowAt 6 = .ok (.iload_n 1, 1) := by decide +kernel
theorem dX8_lowAt_7 : decode cX8_lowAt 7 = .ok (.imul, 1) := by decide +kernel
theorem dX8_lowAt_8 : decode cX8_lowAt 8 = .ok (.iadd, 1) := by decide +kernel
theorem dX8_lowAt_9 : decode cX8_lowAt 9 = .ok (.iaload, 1) := by decide +kernel
theorem dX8_lowAt_10 : decode cX8_lowAt 10 = .ok (.ireturn, 1) := by decide +kernel
theorem dX8_highAt_0 : decode cX8_highAt 0 = .ok (.aload_n 0, 1) := by decide +kernel
theorem dX8_highAt_1 : decode cX8_highAt 1 = .ok (.getfield 7, 3) := by decide +kernel
theorem dX8_highAt_4 : decode cX8_highAt 4 = .ok (.iconst 2, 1) := by decide +kernel
theorem dX8_highAt_5 : decode cX8_highAt 5 = .ok (.iconst 2, 1) := by decide +kernel
theorem dX8_highAt_6 : decode cX8_highAt 6 = .ok (.iload_n 1, 1) := by decide +kernel
theorem dX8_highAt_7 : decode cX8_highAt 7 = .ok (.imul, 1) := by decide +kernel
theorem dX8_highAt_8 : decode cX8_highAt 8 = .ok (.iadd, 1) := by decide +kernel
theorem dX8_highAt_9 : decode cX8_highAt 9 = .ok (.iaload, 1) := by decide +kernel
theorem dX8_highAt_10 : decode cX8_highAt 10 = .ok (.ireturn, 1) := by decide +kernel
theorem dX8_ruleAt_0 : decode cX8_ruleAt 0 = .ok (.aload_n 0, 1) := by decide +kernel
theorem dX8_ruleAt_1 : decode cX8_ruleAt 1 = .ok (.getfield 7, 3) := by decide +kernel
theorem dX8_ruleAt_4 : decode cX8_ruleAt 4 = .ok (.bipush 14, 2) := by decide +kernel
theorem dX8_ruleAt_6 : decode cX8_ruleAt 6 = .ok (.iconst 4, 1) := by decide +kernel
theorem dX8_ruleAt_7 : decode cX8_ruleAt 7 = .ok (.iload_n 1, 1) := by decide +kernel
theorem dX8_ruleAt_8 : decode cX8_ruleAt 8 = .ok (.imul, 1) := by decide +kernel
theorem dX8_ruleAt_9 : decode cX8_ruleAt 9 = .ok (.iadd, 1) := by decide +kernel
theorem dX8_ruleAt_10 : decode cX8_ruleAt 10 = .ok (.iload_n 2, 1) := by decide +kernel
theorem dX8_ruleAt_11 : decode cX8_ruleAt 11 = .ok (.iadd, 1) := by decide +kernel
theorem dX8_ruleAt_12 : decode cX8_ruleAt 12 = .ok (.iaload, 1) := by decide +kernel
theorem dX8_ruleAt_13 : decode cX8_ruleAt 13 = .ok (.ireturn, 1) := by decide +kernel
set_option maxRecDepth 20000 in
theorem ggX8_isUnknown_X8_unknowns : GoodIn wsX8_isUnknown wsX8_unknowns := goodIn_r _ [5, 6, 10, 11, 12, 13, 14, 15, 16, 17, 18, 19, 20, 21, 22, 23, 24, 25, 26] (by decide +kernel) (by decide +kernel)
set_option maxRecDepth 20000 in
theorem gX8_isUnknown_X8_unknowns : GoodIn wsX8_isUnknown (wsV RX8 47 RX8 yX8_unknowns wsX8_unknowns) := goodIn_app (goodIn_of _ (by decide +kernel)) ggX8_isUnknown_X8_unknowns
set_option maxRecDepth 20000 in
theorem ggX8_isUnknown_X8_in : GoodIn wsX8_isUnknown wsX8_in := goodIn_r _ [9] (by decide +kernel) (by decide +kernel)
set_option maxRecDepth 20000 in
theorem gX8_isUnknown_X8_in : GoodIn wsX8_isUnknown (va_wsS RX8 38 yX8_in wsX8_in) := goodIn_app (goodIn_of _ (by decide +kernel)) ggX8_isUnknown_X8_in
theorem dX8_isUnknown_0 : decode cX8_isUnknown 0 = .ok (.iload_n 1, 1) := by decide +kernel
theorem dX8_isUnknown_1 : decode cX8_isUnknown 1 = .ok (.i2l, 1) := by decide +kernel
theorem dX8_isUnknown_2 : decode cX8_isUnknown 2 = .ok (.lconst 0, 1) := by decide +kernel
theorem dX8_isUnknown_3 : decode cX8_isUnknown 3 = .ok (.aload_n 0, 1) := by decide +kernel
theorem dX8_isUnknown_4 : decode cX8_isUnknown 4 = .ok (.invokevirtual 47, 3) := by decide +kernel
theorem dX8_isUnknown_7 : decode cX8_isUnknown 7 = .ok (.iconst 1, 1) := by decide +kernel
theorem dX8_isUnknown_8 : decode cX8_isUnknown 8 = .ok (.isub, 1) := by decide +kernel
theorem dX8_isUnknown_9 : decode cX8_isUnknown 9 = .ok (.i2l, 1) := by decide +kernel
theorem dX8_isUnknown_10 : decode cX8_isUnknown 10 = .ok (.invokestatic 38, 3) := by decide +kernel
theorem dX8_isUnknown_13 : decode cX8_isUnknown 13 = .ok (.ireturn, 1) := by decide +kernel
set_option maxRecDepth 20000 in
theorem ggX8_isRule_X8_rules : GoodIn wsX8_isRule wsX8_rules := goodIn_r _ [5, 6, 10, 11, 12, 13, 14, 15, 16, 17, 18, 19, 20, 21, 22, 23, 24, 25, 26] (by decide +kernel) (by decide +kernel)
set_option maxRecDepth 20000 in
theorem gX8_isRule_X8_rules : GoodIn wsX8_isRule (wsV RX8 51 RX8 yX8_rules wsX8_rules) := goodIn_app (goodIn_of _ (by decide +kernel)) ggX8_isRule_X8_rules
set_option maxRecDepth 20000 in
theorem ggX8_isRule_X8_in : GoodIn wsX8_isRule wsX8_in := goodIn_r _ [9] (by decide +kernel) (by decide +kernel)
set_option maxRecDepth 20000 in
theorem gX8_isRule_X8_in : GoodIn wsX8_isRule (va_wsS RX8 38 yX8_in wsX8_in) := goodIn_app (goodIn_of _ (by decide +kernel)) ggX8_isRule_X8_in
theorem dX8_isRule_0 : decode cX8_isRule 0 = .ok (.iload_n 1, 1) := by decide +kernel
theorem dX8_isRule_1 : decode cX8_isRule 1 = .ok (.i2l, 1) := by decide +kernel
theorem dX8_isRule_2 : decode cX8_isRule 2 = .ok (.lconst 0, 1) := by decide +kernel
theorem dX8_isRule_3 : decode cX8_isRule 3 = .ok (.aload_n 0, 1) := by decide +kernel
theorem dX8_isRule_4 : decode cX8_isRule 4 = .ok (.invokevirtual 51, 3) := by decide +kernel
theorem dX8_isRule_7 : decode cX8_isRule 7 = .ok (.iconst 1, 1) := by decide +kernel
theorem dX8_isRule_8 : decode cX8_isRule 8 = .ok (.isub, 1) := by decide +kernel
theorem dX8_isRule_9 : decode cX8_isRule 9 = .ok (.i2l, 1) := by decide +kernel
theorem dX8_isRule_10 : decode cX8_isRule 10 = .ok (.invokestatic 38, 3) := by decide +kernel
theorem dX8_isRule_13 : decode cX8_isRule 13 = .ok (.ireturn, 1) := by decide +kernel
theorem dX8_number_0 : decode cX8_number 0 = .ok (.iload_n 0, 1) := by decide +kernel
theorem dX8_number_1 : decode cX8_number 1 = .ok (.ifCond .lt 7, 3) := by decide +kernel
theorem dX8_number_4 : decode cX8_number 4 = .ok (.iload_n 0, 1) := by decide +kernel
theorem dX8_number_5 : decode cX8_number 5 = .ok (.goto 9, 3) := by decide +kernel
theorem dX8_number_8 : decode cX8_number 8 = .ok (.ldc 54, 2) := by decide +kernel
theorem dX8_number_10 : decode cX8_number 10 = .ok (.iconst (-1), 1) := by decide +kernel
theorem dX8_number_11 : decode cX8_number 11 = .ok (.iload_n 0, 1) := by decide +kernel
theorem dX8_number_12 : decode cX8_number 12 = .ok (.isub, 1) := by decide +kernel
theorem dX8_number_13 : decode cX8_number 13 = .ok (.ior, 1) := by decide +kernel
theorem dX8_number_14 : decode cX8_number 14 = .ok (.invokestatic 55, 3) := by decide +kernel
theorem dX8_number_17 : decode cX8_number 17 = .ok (.freturn, 1) := by decide +kernel
set_option maxRecDepth 20000 in
theorem ggX8_place_Jxf58ca_floatToIntBits_5c35a : GoodIn wsX8_place wsJxf58ca_floatToIntBits_5c35a := goodIn_r _ [5, 6, 7, 8, 9, 10, 11, 12, 4, 13] (by decide +kernel) (by decide +kernel)
set_option maxRecDepth 20000 in
theorem gX8_place_Jxf58ca_floatToIntBits_5c35a : GoodIn wsX8_place (va_wsS RX8 61 yJxf58ca_floatToIntBits_5c35a wsJxf58ca_floatToIntBits_5c35a) := goodIn_app (goodIn_of _ (by decide +kernel)) ggX8_place_Jxf58ca_floatToIntBits_5c35a
theorem dX8_place_0 : decode cX8_place 0 = .ok (.fload_n 0, 1) := by decide +kernel
theorem dX8_place_1 : decode cX8_place 1 = .ok (.invokestatic 61, 3) := by decide +kernel
theorem dX8_place_4 : decode cX8_place 4 = .ok (.istore_n 1, 1) := by decide +kernel
theorem dX8_place_5 : decode cX8_place 5 = .ok (.iload_n 1, 1) := by decide +kernel
theorem dX8_place_6 : decode cX8_place 6 = .ok (.ifCond .lt 7, 3) := by decide +kernel
theorem dX8_place_9 : decode cX8_place 9 = .ok (.iload_n 1, 1) := by decide +kernel
theorem dX8_place_10 : decode cX8_place 10 = .ok (.goto 9, 3) := by decide +kernel
theorem dX8_place_13 : decode cX8_place 13 = .ok (.iconst (-1), 1) := by decide +kernel
theorem dX8_place_14 : decode cX8_place 14 = .ok (.iload_n 1, 1) := by decide +kernel
theorem dX8_place_15 : decode cX8_place 15 = .ok (.ldc 65, 2) := by decide +kernel
theorem dX8_place_17 : decode cX8_place 17 = .ok (.iand, 1) := by decide +kernel
theorem dX8_place_18 : decode cX8_place 18 = .ok (.isub, 1) := by decide +kernel
theorem dX8_place_19 : decode cX8_place 19 = .ok (.ireturn, 1) := by decide +kernel
set_option maxRecDepth 20000 in
theorem ggX8_sum_X8_number : GoodIn wsX8_sum wsX8_number := goodIn_r _ [4, 5, 6, 7, 8, 9] (by decide +kernel) (by decide +kernel)
set_option maxRecDepth 20000 in
theorem gX8_sum_X8_number : GoodIn wsX8_sum (va_wsS RX8 66 yX8_number wsX8_number) := goodIn_app (goodIn_of _ (by decide +kernel)) ggX8_sum_X8_number
set_option maxRecDepth 20000 in
theorem ggX8_sum_X8_place : GoodIn wsX8_sum wsX8_place := goodIn_r _ [12, 13, 14, 15, 16, 17, 18, 19, 20, 9, 21, 22, 23, 24] (by decide +kernel) (by decide +kernel)
set_option maxRecDepth 20000 in
theorem gX8_sum_X8_place : GoodIn wsX8_sum (va_wsS RX8 69 yX8_place wsX8_place) := goodIn_app (goodIn_of _ (by decide +kernel)) ggX8_sum_X8_place
theorem dX8_sum_0 : decode cX8_sum 0 = .ok (.iload_n 0, 1) := by decide +kernel
theorem dX8_sum_1 : decode cX8_sum 1 = .ok (.invokestatic 66, 3) := by decide +kernel
theorem dX8_sum_4 : decode cX8_sum 4 = .ok (.iload_n 1, 1) := by decide +kernel
theorem dX8_sum_5 : decode cX8_sum 5 = .ok (.invokestatic 66, 3) := by decide +kernel
theorem dX8_sum_8 : decode cX8_sum 8 = .ok (.fadd, 1) := by decide +kernel
theorem dX8_sum_9 : decode cX8_sum 9 = .ok (.invokestatic 69, 3) := by decide +kernel
theorem dX8_sum_12 : decode cX8_sum 12 = .ok (.ireturn, 1) := by decide +kernel
set_option maxRecDepth 20000 in
theorem ggX8_product_X8_number : GoodIn wsX8_product wsX8_number := goodIn_r _ [4, 5, 6, 7, 8, 9] (by decide +kernel) (by decide +kernel)
set_option maxRecDepth 20000 in
theorem gX8_product_X8_number : GoodIn wsX8_product (va_wsS RX8 66 yX8_number wsX8_number) := goodIn_app (goodIn_of _ (by decide +kernel)) ggX8_product_X8_number
set_option maxRecDepth 20000 in
theorem ggX8_product_X8_place : GoodIn wsX8_product wsX8_place := goodIn_r _ [12, 13, 14, 15, 16, 17, 18, 19, 20, 9, 21, 22, 23, 24] (by decide +kernel) (by decide +kernel)
set_option maxRecDepth 20000 in
theorem gX8_product_X8_place : GoodIn wsX8_product (va_wsS RX8 69 yX8_place wsX8_place) := goodIn_app (goodIn_of _ (by decide +kernel)) ggX8_product_X8_place
theorem dX8_product_0 : decode cX8_product 0 = .ok (.iload_n 0, 1) := by decide +kernel
theorem dX8_product_1 : decode cX8_product 1 = .ok (.invokestatic 66, 3) := by decide +kernel
theorem dX8_product_4 : decode cX8_product 4 = .ok (.iload_n 1, 1) := by decide +kernel
theorem dX8_product_5 : decode cX8_product 5 = .ok (.invokestatic 66, 3) := by decide +kernel
theorem dX8_product_8 : decode cX8_product 8 = .ok (.fmul, 1) := by decide +kernel
theorem dX8_product_9 : decode cX8_product 9 = .ok (.invokestatic 69, 3) := by decide +kernel
theorem dX8_product_12 : decode cX8_product 12 = .ok (.ireturn, 1) := by decide +kernel
set_option maxRecDepth 20000 in
theorem ggX8_holds_X8_sum : GoodIn wsX8_holds wsX8_sum := goodIn_r _ [4, 5, 6, 3, 7, 8, 9, 10, 11, 12, 13, 14, 15, 16, 17, 18, 19, 20, 21, 22, 23, 24, 25, 26, 27] (by decide +kernel) (by decide +kernel)
set_option maxRecDepth 20000 in
theorem gX8_holds_X8_sum : GoodIn wsX8_holds (va_wsS RX8 72 yX8_sum wsX8_sum) := goodIn_app (goodIn_of _ (by decide +kernel)) ggX8_holds_X8_sum
set_option maxRecDepth 20000 in
theorem ggX8_holds_X8_product : GoodIn wsX8_holds wsX8_product := goodIn_r _ [30, 5, 6, 3, 7, 8, 9, 10, 11, 12, 13, 14, 15, 16, 17, 18, 19, 20, 21, 22, 23, 24, 25, 26, 27] (by decide +kernel) (by decide +kernel)
set_option maxRecDepth 20000 in
theorem gX8_holds_X8_product : GoodIn wsX8_holds (va_wsS RX8 76 yX8_product wsX8_product) := goodIn_app (goodIn_of _ (by decide +kernel)) ggX8_holds_X8_product
set_option maxRecDepth 20000 in
theorem ggX8_holds_X8_number : GoodIn wsX8_holds wsX8_number := goodIn_r _ [7, 8, 9, 10, 11, 12] (by decide +kernel) (by decide +kernel)
set_option maxRecDepth 20000 in
theorem gX8_holds_X8_number : GoodIn wsX8_holds (va_wsS RX8 66 yX8_number wsX8_number) := goodIn_app (goodIn_of _ (by decide +kernel)) ggX8_holds_X8_number
theorem dX8_holds_0 : decode cX8_holds 0 = .ok (.iload_n 0, 1) := by decide +kernel
theorem dX8_holds_1 : decode cX8_holds 1 = .ok (.tableswitch 121 0 4 #[35, 50, 65, 85, 103], 35) := by decide +kernel
theorem dX8_holds_36 : decode cX8_holds 36 = .ok (.iload_n 1, 1) := by decide +kernel
theorem dX8_holds_37 : decode cX8_holds 37 = .ok (.iload_n 2, 1) := by decide +kernel
theorem dX8_holds_38 : decode cX8_holds 38 = .ok (.invokestatic 72, 3) := by decide +kernel
theorem dX8_holds_41 : decode cX8_holds 41 = .ok (.iload_n 3, 1) := by decide +kernel
theorem dX8_holds_42 : decode cX8_holds 42 = .ok (.if_icmp .ne 7, 3) := by decide +kernel
theorem dX8_holds_45 : decode cX8_holds 45 = .ok (.iconst 1, 1) := by decide +kernel
theorem dX8_holds_46 : decode cX8_holds 46 = .ok (.goto 4, 3) := by decide +kernel
theorem dX8_holds_49 : decode cX8_holds 49 = .ok (.iconst 0, 1) := by decide +kernel
theorem dX8_holds_50 : decode cX8_holds 50 = .ok (.ireturn, 1) := by decide +kernel
theorem dX8_holds_51 : decode cX8_holds 51 = .ok (.iload_n 1, 1) := by decide +kernel
theorem dX8_holds_52 : decode cX8_holds 52 = .ok (.iload_n 2, 1) := by decide +kernel
theorem dX8_holds_53 : decode cX8_holds 53 = .ok (.invokestatic 76, 3) := by decide +kernel
theorem dX8_holds_56 : decode cX8_holds 56 = .ok (.iload_n 3, 1) := by decide +kernel
theorem dX8_holds_57 : decode cX8_holds 57 = .ok (.if_icmp .ne 7, 3) := by decide +kernel
theorem dX8_holds_60 : decode cX8_holds 60 = .ok (.iconst 1, 1) := by decide +kernel
theorem dX8_holds_61 : decode cX8_holds 61 = .ok (.goto 4, 3) := by decide +kernel
theorem dX8_holds_64 : decode cX8_holds 64 = .ok (.iconst 0, 1) := by decide +kernel
theorem dX8_holds_65 : decode cX8_holds 65 = .ok (.ireturn, 1) := by decide +kernel
theorem dX8_holds_66 : decode cX8_holds 66 = .ok (.iload_n 1, 1) := by decide +kernel
theorem dX8_holds_67 : decode cX8_holds 67 = .ok (.iload_n 2, 1) := by decide +kernel
theorem dX8_holds_68 : decode cX8_holds 68 = .ok (.if_icmp .le 7, 3) := by decide +kernel
theorem dX8_holds_71 : decode cX8_holds 71 = .ok (.iload_n 1, 1) := by decide +kernel
theorem dX8_holds_72 : decode cX8_holds 72 = .ok (.goto 4, 3) := by decide +kernel
theorem dX8_holds_75 : decode cX8_holds 75 = .ok (.iload_n 2, 1) := by decide +kernel
theorem dX8_holds_76 : decode cX8_holds 76 = .ok (.iload_n 3, 1) := by decide +kernel
theorem dX8_holds_77 : decode cX8_holds 77 = .ok (.if_icmp .ne 7, 3) := by decide +kernel
theorem dX8_holds_80 : decode cX8_holds 80 = .ok (.iconst 1, 1) := by decide +kernel
theorem dX8_holds_81 : decode cX8_holds 81 = .ok (.goto 4, 3) := by decide +kernel
theorem dX8_holds_84 : decode cX8_holds 84 = .ok (.iconst 0, 1) := by decide +kernel
theorem dX8_holds_85 : decode cX8_holds 85 = .ok (.ireturn, 1) := by decide +kernel
theorem dX8_holds_86 : decode cX8_holds 86 = .ok (.iload_n 1, 1) := by decide +kernel
theorem dX8_holds_87 : decode cX8_holds 87 = .ok (.invokestatic 66, 3) := by decide +kernel
theorem dX8_holds_90 : decode cX8_holds 90 = .ok (.iload_n 2, 1) := by decide +kernel
theorem dX8_holds_91 : decode cX8_holds 91 = .ok (.invokestatic 66, 3) := by decide +kernel
theorem dX8_holds_94 : decode cX8_holds 94 = .ok (.fcmp .g, 1) := by decide +kernel
theorem dX8_holds_95 : decode cX8_holds 95 = .ok (.ifCond .ge 7, 3) := by decide +kernel
theorem dX8_holds_98 : decode cX8_holds 98 = .ok (.iconst 1, 1) := by decide +kernel
theorem dX8_holds_99 : decode cX8_holds 99 = .ok (.goto 4, 3) := by decide +kernel
theorem dX8_holds_102 : decode cX8_holds 102 = .ok (.iconst 0, 1) := by decide +kernel
theorem dX8_holds_103 : decode cX8_holds 103 = .ok (.ireturn, 1) := by decide +kernel
theorem dX8_holds_104 : decode cX8_holds 104 = .ok (.iload_n 1, 1) := by decide +kernel
theorem dX8_holds_105 : decode cX8_holds 105 = .ok (.invokestatic 66, 3) := by decide +kernel
theorem dX8_holds_108 : decode cX8_holds 108 = .ok (.iload_n 2, 1) := by decide +kernel
theorem dX8_holds_109 : decode cX8_holds 109 = .ok (.invokestatic 66, 3) := by decide +kernel
theorem dX8_holds_112 : decode cX8_holds 112 = .ok (.fcmp .l, 1) := by decide +kernel
theorem dX8_holds_113 : decode cX8_holds 113 = .ok (.ifCond .ne 7, 3) := by decide +kernel
theorem dX8_holds_116 : decode cX8_holds 116 = .ok (.iconst 1, 1) := by decide +kernel
theorem dX8_holds_117 : decode cX8_holds 117 = .ok (.goto 4, 3) := by decide +kernel
theorem dX8_holds_120 : decode cX8_holds 120 = .ok (.iconst 0, 1) := by decide +kernel
theorem dX8_holds_121 : decode cX8_holds 121 = .ok (.ireturn, 1) := by decide +kernel
theorem dX8_holds_122 : decode cX8_holds 122 = .ok (.iload_n 2, 1) := by decide +kernel
theorem dX8_holds_123 : decode cX8_holds 123 = .ok (.iconst (-1), 1) := by decide +kernel
theorem dX8_holds_124 : decode cX8_holds 124 = .ok (.iload_n 1, 1) := by decide +kernel
theorem dX8_holds_125 : decode cX8_holds 125 = .ok (.isub, 1) := by decide +kernel
theorem dX8_holds_126 : decode cX8_holds 126 = .ok (.if_icmp .ne 7, 3) := by decide +kernel
theorem dX8_holds_129 : decode cX8_holds 129 = .ok (.iconst 1, 1) := by decide +kernel
theorem dX8_holds_130 : decode cX8_holds 130 = .ok (.goto 4, 3) := by decide +kernel
theorem dX8_holds_133 : decode cX8_holds 133 = .ok (.iconst 0, 1) := by decide +kernel
theorem dX8_holds_134 : decode cX8_holds 134 = .ok (.ireturn, 1) := by decide +kernel
set_option maxRecDepth 20000 in
theorem ggX8_canUnknown_X8_isPlace : GoodIn wsX8_canUnknown wsX8_isPlace := goodIn_r _ [6, 7, 8, 9, 10, 5, 11] (by decide +kernel) (by decide +kernel)
set_option maxRecDepth 20000 in
theorem gX8_canUnknown_X8_isPlace : GoodIn wsX8_canUnknown (va_wsS RX8 79 yX8_isPlace wsX8_isPlace) := goodIn_app (goodIn_of _ (by decide +kernel)) ggX8_canUnknown_X8_isPlace
set_option maxRecDepth 20000 in
theorem ggX8_canUnknown_X8_unknowns : GoodIn wsX8_canUnknown wsX8_unknowns := goodIn_r _ [15, 16, 17, 18, 19, 20, 21, 22, 23, 24, 25, 26, 27, 28, 29, 30, 31, 32, 33] (by decide +kernel) (by decide +kernel)
set_option maxRecDepth 20000 in
theorem gX8_canUnknown_X8_unknowns : GoodIn wsX8_canUnknown (wsV RX8 47 RX8 yX8_unknowns wsX8_unknowns) := goodIn_app (goodIn_of _ (by decide +kernel)) ggX8_canUnknown_X8_unknowns
theorem dX8_canUnknown_0 : decode cX8_canUnknown 0 = .ok (.iload_n 1, 1) := by decide +kernel
theorem dX8_canUnknown_1 : decode cX8_canUnknown 1 = .ok (.invokestatic 79, 3) := by decide +kernel
theorem dX8_canUnknown_4 : decode cX8_canUnknown 4 = .ok (.ifCond .eq 15, 3) := by decide +kernel
theorem dX8_canUnknown_7 : decode cX8_canUnknown 7 = .ok (.iload_n 2, 1) := by decide +kernel
theorem dX8_canUnknown_8 : decode cX8_canUnknown 8 = .ok (.invokestatic 79, 3) := by decide +kernel
theorem dX8_canUnknown_11 : decode cX8_canUnknown 11 = .ok (.ifCond .eq 8, 3) := by decide +kernel
theorem dX8_canUnknown_14 : decode cX8_canUnknown 14 = .ok (.iload_n 2, 1) := by decide +kernel
theorem dX8_canUnknown_15 : decode cX8_canUnknown 15 = .ok (.iload_n 1, 1) := by decide +kernel
theorem dX8_canUnknown_16 : decode cX8_canUnknown 16 = .ok (.if_icmp .ge 8, 3) := by decide +kernel
theorem dX8_canUnknown_19 : decode cX8_canUnknown 19 = .ok (.ldc 42, 2) := by decide +kernel
theorem dX8_canUnknown_21 : decode cX8_canUnknown 21 = .ok (.goto 18, 3) := by decide +kernel
theorem dX8_canUnknown_24 : decode cX8_canUnknown 24 = .ok (.aload_n 0, 1) := by decide +kernel
theorem dX8_canUnknown_25 : decode cX8_canUnknown 25 = .ok (.invokevirtual 47, 3) := by decide +kernel
theorem dX8_canUnknown_28 : decode cX8_canUnknown 28 = .ok (.bipush 6, 2) := by decide +kernel
theorem dX8_canUnknown_30 : decode cX8_canUnknown 30 = .ok (.if_icmp .ne 8, 3) := by decide +kernel
theorem dX8_canUnknown_33 : decode cX8_canUnknown 33 = .ok (.ldc 83, 2) := by decide +kernel
theorem dX8_canUnknown_35 : decode cX8_canUnknown 35 = .ok (.goto 4, 3) := by decide +kernel
theorem dX8_canUnknown_38 : decode cX8_canUnknown 38 = .ok (.iconst 0, 1) := by decide +kernel
theorem dX8_canUnknown_39 : decode cX8_canUnknown 39 = .ok (.ireturn, 1) := by decide +kernel
set_option maxRecDepth 20000 in
theorem ggX8_unknownNow_X8_unknowns : GoodIn wsX8_unknownNow wsX8_unknowns := goodIn_r _ [6, 1, 7, 8, 9, 10, 11, 12, 13, 14, 15, 16, 17, 18, 19, 20, 21, 22, 23] (by decide +kernel) (by decide +kernel)
set_option maxRecDepth 20000 in
theorem gX8_unknownNow_X8_unknowns : GoodIn wsX8_unknownNow (wsV RX8 47 RX8 yX8_unknowns wsX8_unknowns) := goodIn_app (goodIn_of _ (by decide +kernel)) ggX8_unknownNow_X8_unknowns
theorem dX8_unknownNow_0 : decode cX8_unknownNow 0 = .ok (.aload_n 0, 1) := by decide +kernel
theorem dX8_unknownNow_1 : decode cX8_unknownNow 1 = .ok (.invokevirtual 47, 3) := by decide +kernel
theorem dX8_unknownNow_4 : decode cX8_unknownNow 4 = .ok (.istore_n 3, 1) := by decide +kernel
theorem dX8_unknownNow_5 : decode cX8_unknownNow 5 = .ok (.aload_n 0, 1) := by decide +kernel
theorem dX8_unknownNow_6 : decode cX8_unknownNow 6 = .ok (.getfield 7, 3) := by decide +kernel
theorem dX8_unknownNow_9 : decode cX8_unknownNow 9 = .ok (.iconst 1, 1) := by decide +kernel
theorem dX8_unknownNow_10 : decode cX8_unknownNow 10 = .ok (.iconst 2, 1) := by decide +kernel
theorem dX8_unknownNow_11 : decode cX8_unknownNow 11 = .ok (.iload_n 3, 1) := by decide +kernel
theorem dX8_unknownNow_12 : decode cX8_unknownNow 12 = .ok (.imul, 1) := by decide +kernel
theorem dX8_unknownNow_13 : decode cX8_unknownNow 13 = .ok (.iadd, 1) := by decide +kernel
theorem dX8_unknownNow_14 : decode cX8_unknownNow 14 = .ok (.iload_n 1, 1) := by decide +kernel
theorem dX8_unknownNow_15 : decode cX8_unknownNow 15 = .ok (.iastore, 1) := by decide +kernel
theorem dX8_unknownNow_16 : decode cX8_unknownNow 16 = .ok (.aload_n 0, 1) := by decide +kernel
theorem dX8_unknownNow_17 : decode cX8_unknownNow 17 = .ok (.getfield 7, 3) := by decide +kernel
theorem dX8_unknownNow_20 : decode cX8_unknownNow 20 = .ok (.iconst 2, 1) := by decide +kernel
theorem dX8_unknownNow_21 : decode cX8_unknownNow 21 = .ok (.iconst 2, 1) := by decide +kernel
theorem dX8_unknownNow_22 : decode cX8_unknownNow 22 = .ok (.iload_n 3, 1) := by decide +kernel
theorem dX8_unknownNow_23 : decode cX8_unknownNow 23 = .ok (.imul, 1) := by decide +kernel
theorem dX8_unknownNow_24 : decode cX8_unknownNow 24 = .ok (.iadd, 1) := by decide +kernel
theorem dX8_unknownNow_25 : decode cX8_unknownNow 25 = .ok (.iload_n 2, 1) := by decide +kernel
theorem dX8_unknownNow_26 : decode cX8_unknownNow 26 = .ok (.iastore, 1) := by decide +kernel
theorem dX8_unknownNow_27 : decode cX8_unknownNow 27 = .ok (.aload_n 0, 1) := by decide +kernel
theorem dX8_unknownNow_28 : decode cX8_unknownNow 28 = .ok (.getfield 7, 3) := by decide +kernel
theorem dX8_unknownNow_31 : decode cX8_unknownNow 31 = .ok (.iconst 0, 1) := by decide +kernel
theorem dX8_unknownNow_32 : decode cX8_unknownNow 32 = .ok (.dup2, 1) := by decide +kernel
theorem dX8_unknownNow_33 : decode cX8_unknownNow 33 = .ok (.iaload, 1) := by decide +kernel
theorem dX8_unknownNow_34 : decode cX8_unknownNow 34 = .ok (.iconst 1, 1) := by decide +kernel
theorem dX8_unknownNow_35 : decode cX8_unknownNow 35 = .ok (.iadd, 1) := by decide +kernel
theorem dX8_unknownNow_36 : decode cX8_unknownNow 36 = .ok (.iastore, 1) := by decide +kernel
theorem dX8_unknownNow_37 : decode cX8_unknownNow 37 = .ok (.iload_n 3, 1) := by decide +kernel
theorem dX8_unknownNow_38 : decode cX8_unknownNow 38 = .ok (.ireturn, 1) := by decide +kernel
set_option maxRecDepth 20000 in
theorem ggX8_unknown_X8_canUnknown : GoodIn wsX8_unknown wsX8_canUnknown := goodIn_r _ [5, 6, 7, 8, 9, 4, 10, 11, 12, 13, 14, 15, 16, 17, 18, 19, 20, 36, 37, 38, 39, 40, 41, 42, 43, 44, 45, 46, 47, 48, 49, 50, 51, 52] (by decide +kernel) (by decide +kernel)
set_option maxRecDepth 20000 in
theorem gX8_unknown_X8_canUnknown : GoodIn wsX8_unknown (wsV RX8 84 RX8 yX8_canUnknown wsX8_canUnknown) := goodIn_app (goodIn_of _ (by decide +kernel)) ggX8_unknown_X8_canUnknown
set_option maxRecDepth 20000 in
theorem ggX8_unknown_X8_refuses : GoodIn wsX8_unknown wsX8_refuses := goodIn_r _ [24, 25, 6, 36, 37, 38, 39, 40, 41, 42, 43, 44, 45, 46, 47, 48, 49, 50, 51, 52] (by decide +kernel) (by decide +kernel)
set_option maxRecDepth 20000 in
theorem gX8_unknown_X8_refuses : GoodIn wsX8_unknown (wsV RX8 87 RX8 yX8_refuses wsX8_refuses) := goodIn_app (goodIn_of _ (by decide +kernel)) ggX8_unknown_X8_refuses
set_option maxRecDepth 20000 in
theorem ggX8_unknown_X8_keep : GoodIn wsX8_unknown wsX8_keep := goodIn_r _ [29, 30, 31, 20, 36, 37, 38, 39, 40, 41, 42, 43, 44, 45, 46, 47, 48, 49, 50, 51, 52] (by decide +kernel) (by decide +kernel)
set_option maxRecDepth 20000 in
theorem gX8_unknown_X8_keep : GoodIn wsX8_unknown (wsV RX8 91 RX8 yX8_keep wsX8_keep) := goodIn_app (goodIn_of _ (by decide +kernel)) ggX8_unknown_X8_keep
set_option maxRecDepth 20000 in
theorem ggX8_unknown_X8_unknownNow : GoodIn wsX8_unknown wsX8_unknownNow := goodIn_r _ [35, 20, 16, 17, 18, 4, 19, 36, 37, 38, 39, 40, 41, 42, 43, 44, 45, 46, 47, 48, 49, 50, 51, 52] (by decide +kernel) (by decide +kernel)
set_option maxRecDepth 20000 in
theorem gX8_unknown_X8_unknownNow : GoodIn wsX8_unknown (wsV RX8 94 RX8 yX8_unknownNow wsX8_unknownNow) := goodIn_app (goodIn_of _ (by decide +kernel)) ggX8_unknown_X8_unknownNow
theorem dX8_unknown_0 : decode cX8_unknown 0 = .ok (.aload_n 0, 1) := by decide +kernel
theorem dX8_unknown_1 : decode cX8_unknown 1 = .ok (.iload_n 1, 1) := by decide +kernel
theorem dX8_unknown_2 : decode cX8_unknown 2 = .ok (.iload_n 2, 1) := by decide +kernel
theorem dX8_unknown_3 : decode cX8_unknown 3 = .ok (.invokevirtual 84, 3) := by decide +kernel
theorem dX8_unknown_6 : decode cX8_unknown 6 = .ok (.istore_n 3, 1) := by decide +kernel
theorem dX8_unknown_7 : decode cX8_unknown 7 = .ok (.iload_n 3, 1) := by decide +kernel
theorem dX8_unknown_8 : decode cX8_unknown 8 = .ok (.ifCond .ge 9, 3) := by decide +kernel
theorem dX8_unknown_11 : decode cX8_unknown 11 = .ok (.aload_n 0, 1) := by decide +kernel
theorem dX8_unknown_12 : decode cX8_unknown 12 = .ok (.iload_n 3, 1) := by decide +kernel
theorem dX8_unknown_13 : decode cX8_unknown 13 = .ok (.invokevirtual 87, 3) := by decide +kernel
theorem dX8_unknown_16 : decode cX8_unknown 16 = .ok (.ireturn, 1) := by decide +kernel
theorem dX8_unknown_17 : decode cX8_unknown 17 = .ok (.aload_n 0, 1) := by decide +kernel
theorem dX8_unknown_18 : decode cX8_unknown 18 = .ok (.invokevirtual 91, 3) := by decide +kernel
theorem dX8_unknown_21 : decode cX8_unknown 21 = .ok (.aload_n 0, 1) := by decide +kernel
theorem dX8_unknown_22 : decode cX8_unknown 22 = .ok (.iload_n 1, 1) := by decide +kernel
theorem dX8_unknown_23 : decode cX8_unknown 23 = .ok (.iload_n 2, 1) := by decide +kernel
theorem dX8_unknown_24 : decode cX8_unknown 24 = .ok (.invokevirtual 94, 3) := by decide +kernel
theorem dX8_unknown_27 : decode cX8_unknown 27 = .ok (.ireturn, 1) := by decide +kernel
set_option maxRecDepth 20000 in
theorem ggX8_range_X8_isUnknown : GoodIn wsX8_range wsX8_isUnknown := goodIn_r _ [7, 8, 9, 10, 6, 11, 2, 12, 13, 14, 39, 40, 41, 42, 43, 44, 45, 46, 47, 48, 49, 50, 51, 52, 53, 54, 55] (by decide +kernel) (by decide +kernel)
set_option maxRecDepth 20000 in
theorem gX8_range_X8_isUnknown : GoodIn wsX8_range (wsV RX8 97 RX8 yX8_isUnknown wsX8_isUnknown) := goodIn_app (goodIn_of _ (by decide +kernel)) ggX8_range_X8_isUnknown
set_option maxRecDepth 20000 in
theorem ggX8_range_X8_isPlace : GoodIn wsX8_range wsX8_isPlace := goodIn_r _ [17, 18, 19, 12, 13, 6, 14] (by decide +kernel) (by decide +kernel)
set_option maxRecDepth 20000 in
theorem gX8_range_X8_isPlace : GoodIn wsX8_range (va_wsS RX8 79 yX8_isPlace wsX8_isPlace) := goodIn_app (goodIn_of _ (by decide +kernel)) ggX8_range_X8_isPlace
set_option maxRecDepth 20000 in
theorem ggX8_range_X8_refuses : GoodIn wsX8_range wsX8_refuses := goodIn_r _ [23, 24, 1, 39, 40, 41, 42, 43, 44, 45, 46, 47, 48, 49, 50, 51, 52, 53, 54, 55] (by decide +kernel) (by decide +kernel)
set_option maxRecDepth 20000 in
theorem gX8_range_X8_refuses : GoodIn wsX8_range (wsV RX8 87 RX8 yX8_refuses wsX8_refuses) := goodIn_app (goodIn_of _ (by decide +kernel)) ggX8_range_X8_refuses
set_option maxRecDepth 20000 in
theorem ggX8_range_X8_keep : GoodIn wsX8_range wsX8_keep := goodIn_r _ [28, 29, 30, 2, 39, 40, 41, 42, 43, 44, 45, 46, 47, 48, 49, 50, 51, 52, 53, 54, 55] (by decide +kernel) (by decide +kernel)
set_option maxRecDepth 20000 in
theorem gX8_range_X8_keep : GoodIn wsX8_range (wsV RX8 91 RX8 yX8_keep wsX8_keep) := goodIn_app (goodIn_of _ (by decide +kernel)) ggX8_range_X8_keep
set_option maxRecDepth 20000 in
theorem ggX8_range_X8_rules : GoodIn wsX8_range wsX8_rules := goodIn_r _ [34, 2, 39, 40, 41, 42, 43, 44, 45, 46, 47, 48, 49, 50, 51, 52, 53, 54, 55] (by decide +kernel) (by decide +kernel)
set_option maxRecDepth 20000 in
theorem gX8_range_X8_rules : GoodIn wsX8_range (wsV RX8 51 RX8 yX8_rules wsX8_rules) := goodIn_app (goodIn_of _ (by decide +kernel)) ggX8_range_X8_rules
set_option maxRecDepth 20000 in
theorem ggX8_range_X8_ruleAt : GoodIn wsX8_range wsX8_ruleAt := goodIn_r _ [38, 2, 39, 40, 41, 42, 43, 44, 45, 46, 47, 48, 49, 50, 51, 52, 53, 54, 55] (by decide +kernel) (by decide +kernel)
set_option maxRecDepth 20000 in
theorem gX8_range_X8_ruleAt : GoodIn wsX8_range (wsV RX8 100 RX8 yX8_ruleAt wsX8_ruleAt) := goodIn_app (goodIn_of _ (by decide +kernel)) ggX8_range_X8_ruleAt
theorem dX8_range_0 : decode cX8_range 0 = .ok (.aload_n 0, 1) := by decide +kernel
theorem dX8_range_1 : decode cX8_range 1 = .ok (.iload_n 1, 1) := by decide +kernel
theorem dX8_range_2 : decode cX8_range 2 = .ok (.invokevirtual 97, 3) := by decide +kernel
theorem dX8_range_5 : decode cX8_range 5 = .ok (.ifCond .eq 22, 3) := by decide +kernel
theorem dX8_range_8 : decode cX8_range 8 = .ok (.iload_n 2, 1) := by decide +kernel
theorem dX8_range_9 : decode cX8_range 9 = .ok (.invokestatic 79, 3) := by decide +kernel
theorem dX8_range_12 : decode cX8_range 12 = .ok (.ifCond .eq 15, 3) := by decide +kernel
theorem dX8_range_15 : decode cX8_range 15 = .ok (.iload_n 3, 1) := by decide +kernel
theorem dX8_range_16 : decode cX8_range 16 = .ok (.invokestatic 79, 3) := by decide +kernel
theorem dX8_range_19 : decode cX8_range 19 = .ok (.ifCond .eq 8, 3) := by decide +kernel
theorem dX8_range_22 : decode cX8_range 22 = .ok (.iload_n 3, 1) := by decide +kernel
theorem dX8_range_23 : decode cX8_range 23 = .ok (.iload_n 2, 1) := by decide +kernel
theorem dX8_range_24 : decode cX8_range 24 = .ok (.if_icmp .ge 10, 3) := by decide +kernel
theorem dX8_range_27 : decode cX8_range 27 = .ok (.aload_n 0, 1) := by decide +kernel
theorem dX8_range_28 : decode cX8_range 28 = .ok (.ldc 42, 2) := by decide +kernel
theorem dX8_range_30 : decode cX8_range 30 = .ok (.invokevirtual 87, 3) := by decide +kernel
theorem dX8_range_33 : decode cX8_range 33 = .ok (.ireturn, 1) := by decide +kernel
theorem dX8_range_34 : decode cX8_range 34 = .ok (.aload_n 0, 1) := by decide +kernel
theorem dX8_range_35 : decode cX8_range 35 = .ok (.invokevirtual 91, 3) := by decide +kernel
theorem dX8_range_38 : decode cX8_range 38 = .ok (.aload_n 0, 1) := by decide +kernel
theorem dX8_range_39 : decode cX8_range 39 = .ok (.getfield 7, 3) := by decide +kernel
theorem dX8_range_42 : decode cX8_range 42 = .ok (.iconst 1, 1) := by decide +kernel
theorem dX8_range_43 : decode cX8_range 43 = .ok (.iconst 2, 1) := by decide +kernel
theorem dX8_range_44 : decode cX8_range 44 = .ok (.iload_n 1, 1) := by decide +kernel
theorem dX8_range_45 : decode cX8_range 45 = .ok (.imul, 1) := by decide +kernel
theorem dX8_range_46 : decode cX8_range 46 = .ok (.iadd, 1) := by decide +kernel
theorem dX8_range_47 : decode cX8_range 47 = .ok (.iload_n 2, 1) := by decide +kernel
theorem dX8_range_48 : decode cX8_range 48 = .ok (.iastore, 1) := by decide +kernel
theorem dX8_range_49 : decode cX8_range 49 = .ok (.aload_n 0, 1) := by decide +kernel
theorem dX8_range_50 : decode cX8_range 50 = .ok (.getfield 7, 3) := by decide +kernel
theorem dX8_range_53 : decode cX8_range 53 = .ok (.iconst 2, 1) := by decide +kernel
theorem dX8_range_54 : decode cX8_range 54 = .ok (.iconst 2, 1) := by decide +kernel
theorem dX8_range_55 : decode cX8_range 55 = .ok (.iload_n 1, 1) := by decide +kernel
theorem dX8_range_56 : decode cX8_range 56 = .ok (.imul, 1) := by decide +kernel
theorem dX8_range_57 : decode cX8_range 57 = .ok (.iadd, 1) := by decide +kernel
theorem dX8_range_58 : decode cX8_range 58 = .ok (.iload_n 3, 1) := by decide +kernel
theorem dX8_range_59 : decode cX8_range 59 = .ok (.iastore, 1) := by decide +kernel
theorem dX8_range_60 : decode cX8_range 60 = .ok (.iconst 0, 1) := by decide +kernel
theorem dX8_range_61 : decode cX8_range 61 = .ok (.istore 4, 2) := by decide +kernel
theorem dX8_range_63 : decode cX8_range 63 = .ok (.iconst 0, 1) := by decide +kernel
theorem dX8_range_64 : decode cX8_range 64 = .ok (.istore 5, 2) := by decide +kernel
theorem dX8_range_66 : decode cX8_range 66 = .ok (.iload 5, 2) := by decide +kernel
theorem dX8_range_68 : decode cX8_range 68 = .ok (.aload_n 0, 1) := by decide +kernel
theorem dX8_range_69 : decode cX8_range 69 = .ok (.invokevirtual 51, 3) := by decide +kernel
theorem dX8_range_72 : decode cX8_range 72 = .ok (.if_icmp .ge 75, 3) := by decide +kernel
theorem dX8_range_75 : decode cX8_range 75 = .ok (.aload_n 0, 1) := by decide +kernel
theorem dX8_range_76 : decode cX8_range 76 = .ok (.iload 5, 2) := by decide +kernel
theorem dX8_range_78 : decode cX8_range 78 = .ok (.iconst 0, 1) := by decide +kernel
theorem dX8_range_79 : decode cX8_range 79 = .ok (.invokevirtual 100, 3) := by decide +kernel
theorem dX8_range_82 : decode cX8_range 82 = .ok (.iconst 3, 1) := by decide +kernel
theorem dX8_range_83 : decode cX8_range 83 = .ok (.if_icmp .ge 18, 3) := by decide +kernel
theorem dX8_range_86 : decode cX8_range 86 = .ok (.aload_n 0, 1) := by decide +kernel
theorem dX8_range_87 : decode cX8_range 87 = .ok (.iload 5, 2) := by decide +kernel
theorem dX8_range_89 : decode cX8_range 89 = .ok (.iconst 3, 1) := by decide +kernel
theorem dX8_range_90 : decode cX8_range 90 = .ok (.invokevirtual 100, 3) := by decide +kernel
theorem dX8_range_93 : decode cX8_range 93 = .ok (.iload_n 1, 1) := by decide +kernel
theorem dX8_range_94 : decode cX8_range 94 = .ok (.if_icmp .ne 7, 3) := by decide +kernel
theorem dX8_range_97 : decode cX8_range 97 = .ok (.iconst 1, 1) := by decide +kernel
theorem dX8_range_98 : decode cX8_range 98 = .ok (.goto 4, 3) := by decide +kernel
theorem dX8_range_101 : decode cX8_range 101 = .ok (.iconst 0, 1) := by decide +kernel
theorem dX8_range_102 : decode cX8_range 102 = .ok (.istore 6, 2) := by decide +kernel
theorem dX8_range_104 : decode cX8_range 104 = .ok (.iload 4, 2) := by decide +kernel
theorem dX8_range_106 : decode cX8_range 106 = .ok (.aload_n 0, 1) := by decide +kernel
theorem dX8_range_107 : decode cX8_range 107 = .ok (.iload 5, 2) := by decide +kernel
theorem dX8_range_109 : decode cX8_range 109 = .ok (.iconst 1, 1) := by decide +kernel
theorem dX8_range_110 : decode cX8_range 110 = .ok (.invokevirtual 100, 3) := by decide +kernel
theorem dX8_range_113 : decode cX8_range 113 = .ok (.iload_n 1, 1) := by decide +kernel
theorem dX8_range_114 : decode cX8_range 114 = .ok (.if_icmp .eq 19, 3) := by decide +kernel
theorem dX8_range_117 : decode cX8_range 117 = .ok (.aload_n 0, 1) := by decide +kernel
theorem dX8_range_118 : decode cX8_range 118 = .ok (.iload 5, 2) := by decide +kernel
theorem dX8_range_120 : decode cX8_range 120 = .ok (.iconst 2, 1) := by decide +kernel
theorem dX8_range_121 : decode cX8_range 121 = .ok (.invokevirtual 100, 3) := by decide +kernel
theorem dX8_range_124 : decode cX8_range 124 = .ok (.iload_n 1, 1) := by decide +kernel
theorem dX8_range_125 : decode cX8_range 125 = .ok (.if_icmp .eq 8, 3) := by decide +kernel
theorem dX8_range_128 : decode cX8_range 128 = .ok (.iload 6, 2) := by decide +kernel
theorem dX8_range_130 : decode cX8_range 130 = .ok (.ifCond .eq 7, 3) := by decide +kernel
theorem dX8_range_133 : decode cX8_range 133 = .ok (.iconst 1, 1) := by decide +kernel
theorem dX8_range_134 : decode cX8_range 134 = .ok (.goto 4, 3) := by decide +kernel
theorem dX8_range_137 : decode cX8_range 137 = .ok (.iconst 0, 1) := by decide +kernel
theorem dX8_range_138 : decode cX8_range 138 = .ok (.iadd, 1) := by decide +kernel
theorem dX8_range_139 : decode cX8_range 139 = .ok (.istore 4, 2) := by decide +kernel
theorem dX8_range_141 : decode cX8_range 141 = .ok (.iinc 5 1, 3) := by decide +kernel
theorem dX8_range_144 : decode cX8_range 144 = .ok (.goto (-78), 3) := by decide +kernel
theorem dX8_range_147 : decode cX8_range 147 = .ok (.iload 4, 2) := by decide +kernel
theorem dX8_range_149 : decode cX8_range 149 = .ok (.ireturn, 1) := by decide +kernel
set_option maxRecDepth 20000 in
theorem ggX8_canRule_X8_isUnknown : GoodIn wsX8_canRule wsX8_isUnknown := goodIn_r _ [8, 9, 10, 11, 7, 12, 13, 14, 15, 16, 21, 22, 23, 24, 25, 26, 27, 28, 29, 30, 31, 32, 33, 34, 35, 36, 37] (by decide +kernel) (by decide +kernel)
set_option maxRecDepth 20000 in
theorem gX8_canRule_X8_isUnknown : GoodIn wsX8_canRule (wsV RX8 97 RX8 yX8_isUnknown wsX8_isUnknown) := goodIn_app (goodIn_of _ (by decide +kernel)) ggX8_canRule_X8_isUnknown
set_option maxRecDepth 20000 in
theorem ggX8_canRule_X8_in : GoodIn wsX8_canRule wsX8_in := goodIn_r _ [16] (by decide +kernel) (by decide +kernel)
set_option maxRecDepth 20000 in
theorem gX8_canRule_X8_in : GoodIn wsX8_canRule (va_wsS RX8 38 yX8_in wsX8_in) := goodIn_app (goodIn_of _ (by decide +kernel)) ggX8_canRule_X8_in
set_option maxRecDepth 20000 in
theorem ggX8_canRule_X8_rules : GoodIn wsX8_canRule wsX8_rules := goodIn_r _ [20, 13, 21, 22, 23, 24, 25, 26, 27, 28, 29, 30, 31, 32, 33, 34, 35, 36, 37] (by decide +kernel) (by decide +kernel)
set_option maxRecDepth 20000 in
theorem gX8_canRule_X8_rules : GoodIn wsX8_canRule (wsV RX8 51 RX8 yX8_rules wsX8_rules) := goodIn_app (goodIn_of _ (by decide +kernel)) ggX8_canRule_X8_rules
theorem dX8_canRule_0 : decode cX8_canRule 0 = .ok (.iload_n 1, 1) := by decide +kernel
theorem dX8_canRule_1 : decode cX8_canRule 1 = .ok (.iconst 3, 1) := by decide +kernel
theorem dX8_canRule_2 : decode cX8_canRule 2 = .ok (.if_icmp .ge 12, 3) := by decide +kernel
theorem dX8_canRule_5 : decode cX8_canRule 5 = .ok (.aload_n 0, 1) := by decide +kernel
theorem dX8_canRule_6 : decode cX8_canRule 6 = .ok (.iload 4, 2) := by decide +kernel
theorem dX8_canRule_8 : decode cX8_canRule 8 = .ok (.invokevirtual 97, 3) := by decide +kernel
theorem dX8_canRule_11 : decode cX8_canRule 11 = .ok (.goto 13, 3) := by decide +kernel
theorem dX8_canRule_14 : decode cX8_canRule 14 = .ok (.iload 4, 2) := by decide +kernel
theorem dX8_canRule_16 : decode cX8_canRule 16 = .ok (.ifCond .ne 7, 3) := by decide +kernel
theorem dX8_canRule_19 : decode cX8_canRule 19 = .ok (.iconst 1, 1) := by decide +kernel
theorem dX8_canRule_20 : decode cX8_canRule 20 = .ok (.goto 4, 3) := by decide +kernel
theorem dX8_canRule_23 : decode cX8_canRule 23 = .ok (.iconst 0, 1) := by decide +kernel
theorem dX8_canRule_24 : decode cX8_canRule 24 = .ok (.istore 5, 2) := by decide +kernel
theorem dX8_canRule_26 : decode cX8_canRule 26 = .ok (.iload_n 1, 1) := by decide +kernel
theorem dX8_canRule_27 : decode cX8_canRule 27 = .ok (.i2l, 1) := by decide +kernel
theorem dX8_canRule_28 : decode cX8_canRule 28 = .ok (.lconst 0, 1) := by decide +kernel
theorem dX8_canRule_29 : decode cX8_canRule 29 = .ok (.ldc2_w 103, 3) := by decide +kernel
theorem dX8_canRule_32 : decode cX8_canRule 32 = .ok (.invokestatic 38, 3) := by decide +kernel
theorem dX8_canRule_35 : decode cX8_canRule 35 = .ok (.ifCond .eq 24, 3) := by decide +kernel
theorem dX8_canRule_38 : decode cX8_canRule 38 = .ok (.aload_n 0, 1) := by decide +kernel
theorem dX8_canRule_39 : decode cX8_canRule 39 = .ok (.iload_n 2, 1) := by decide +kernel
theorem dX8_canRule_40 : decode cX8_canRule 40 = .ok (.invokevirtual 97, 3) := by decide +kernel
theorem dX8_canRule_43 : decode cX8_canRule 43 = .ok (.ifCond .eq 16, 3) := by decide +kernel
theorem dX8_canRule_46 : decode cX8_canRule 46 = .ok (.aload_n 0, 1) := by decide +kernel
theorem dX8_canRule_47 : decode cX8_canRule 47 = .ok (.iload_n 3, 1) := by decide +kernel
theorem dX8_canRule_48 : decode cX8_canRule 48 = .ok (.invokevirtual 97, 3) := by decide +kernel
theorem dX8_canRule_51 : decode cX8_canRule 51 = .ok (.ifCond .eq 8, 3) := by decide +kernel
theorem dX8_canRule_54 : decode cX8_canRule 54 = .ok (.iload 5, 2) := by decide +kernel
theorem dX8_canRule_56 : decode cX8_canRule 56 = .ok (.ifCond .ne 8, 3) := by decide +kernel
theorem dX8_canRule_59 : decode cX8_canRule 59 = .ok (.ldc 42, 2) := by decide +kernel
theorem dX8_canRule_61 : decode cX8_canRule 61 = .ok (.goto 18, 3) := by decide +kernel
theorem dX8_canRule_64 : decode cX8_canRule 64 = .ok (.aload_n 0, 1) := by decide +kernel
theorem dX8_canRule_65 : decode cX8_canRule 65 = .ok (.invokevirtual 51, 3) := by decide +kernel
theorem dX8_canRule_68 : decode cX8_canRule 68 = .ok (.bipush 6, 2) := by decide +kernel
theorem dX8_canRule_70 : decode cX8_canRule 70 = .ok (.if_icmp .ne 8, 3) := by decide +kernel
theorem dX8_canRule_73 : decode cX8_canRule 73 = .ok (.ldc 83, 2) := by decide +kernel
theorem dX8_canRule_75 : decode cX8_canRule 75 = .ok (.goto 4, 3) := by decide +kernel
theorem dX8_canRule_78 : decode cX8_canRule 78 = .ok (.iconst 0, 1) := by decide +kernel
theorem dX8_canRule_79 : decode cX8_canRule 79 = .ok (.ireturn, 1) := by decide +kernel
set_option maxRecDepth 20000 in
theorem ggX8_ruleNow_X8_rules : GoodIn wsX8_ruleNow wsX8_rules := goodIn_r _ [6, 1, 7, 8, 9, 10, 11, 12, 13, 14, 15, 16, 17, 18, 19, 20, 21, 22, 23] (by decide +kernel) (by decide +kernel)
set_option maxRecDepth 20000 in
theorem gX8_ruleNow_X8_rules : GoodIn wsX8_ruleNow (wsV RX8 51 RX8 yX8_rules wsX8_rules) := goodIn_app (goodIn_of _ (by decide +kernel)) ggX8_ruleNow_X8_rules
theorem dX8_ruleNow_0 : decode cX8_ruleNow 0 = .ok (.aload_n 0, 1) := by decide +kernel
theorem dX8_ruleNow_1 : decode cX8_ruleNow 1 = .ok (.invokevirtual 51, 3) := by decide +kernel
theorem dX8_ruleNow_4 : decode cX8_ruleNow 4 = .ok (.istore 5, 2) := by decide +kernel
theorem dX8_ruleNow_6 : decode cX8_ruleNow 6 = .ok (.aload_n 0, 1) := by decide +kernel
theorem dX8_ruleNow_7 : decode cX8_ruleNow 7 = .ok (.getfield 7, 3) := by decide +kernel
theorem dX8_ruleNow_10 : decode cX8_ruleNow 10 = .ok (.bipush 14, 2) := by decide +kernel
theorem dX8_ruleNow_12 : decode cX8_ruleNow 12 = .ok (.iconst 4, 1) := by decide +kernel
theorem dX8_ruleNow_13 : decode cX8_ruleNow 13 = .ok (.iload 5, 2) := by decide +kernel
theorem dX8_ruleNow_15 : decode cX8_ruleNow 15 = .ok (.imul, 1) := by decide +kernel
theorem dX8_ruleNow_16 : decode cX8_ruleNow 16 = .ok (.iadd, 1) := by decide +kernel
theorem dX8_ruleNow_17 : decode cX8_ruleNow 17 = .ok (.iload_n 1, 1) := by decide +kernel
theorem dX8_ruleNow_18 : decode cX8_ruleNow 18 = .ok (.iastore, 1) := by decide +kernel
theorem dX8_ruleNow_19 : decode cX8_ruleNow 19 = .ok (.aload_n 0, 1) := by decide +kernel
theorem dX8_ruleNow_20 : decode cX8_ruleNow 20 = .ok (.getfield 7, 3) := by decide +kernel
theorem dX8_ruleNow_23 : decode cX8_ruleNow 23 = .ok (.bipush 15, 2) := by decide +kernel
theorem dX8_ruleNow_25 : decode cX8_ruleNow 25 = .ok (.iconst 4, 1) := by decide +kernel
theorem dX8_ruleNow_26 : decode cX8_ruleNow 26 = .ok (.iload 5, 2) := by decide +kernel
theorem dX8_ruleNow_28 : decode cX8_ruleNow 28 = .ok (.imul, 1) := by decide +kernel
theorem dX8_ruleNow_29 : decode cX8_ruleNow 29 = .ok (.iadd, 1) := by decide +kernel
theorem dX8_ruleNow_30 : decode cX8_ruleNow 30 = .ok (.iload_n 2, 1) := by decide +kernel
theorem dX8_ruleNow_31 : decode cX8_ruleNow 31 = .ok (.iastore, 1) := by decide +kernel
theorem dX8_ruleNow_32 : decode cX8_ruleNow 32 = .ok (.aload_n 0, 1) := by decide +kernel
theorem dX8_ruleNow_33 : decode cX8_ruleNow 33 = .ok (.getfield 7, 3) := by decide +kernel
theorem dX8_ruleNow_36 : decode cX8_ruleNow 36 = .ok (.bipush 16, 2) := by decide +kernel
theorem dX8_ruleNow_38 : decode cX8_ruleNow 38 = .ok (.iconst 4, 1) := by decide +kernel
theorem dX8_ruleNow_39 : decode cX8_ruleNow 39 = .ok (.iload 5, 2) := by decide +kernel
theorem dX8_ruleNow_41 : decode cX8_ruleNow 41 = .ok (.imul, 1) := by decide +kernel
theorem dX8_ruleNow_42 : decode cX8_ruleNow 42 = .ok (.iadd, 1) := by decide +kernel
theorem dX8_ruleNow_43 : decode cX8_ruleNow 43 = .ok (.iload_n 3, 1) := by decide +kernel
theorem dX8_ruleNow_44 : decode cX8_ruleNow 44 = .ok (.iastore, 1) := by decide +kernel
theorem dX8_ruleNow_45 : decode cX8_ruleNow 45 = .ok (.aload_n 0, 1) := by decide +kernel
theorem dX8_ruleNow_46 : decode cX8_ruleNow 46 = .ok (.getfield 7, 3) := by decide +kernel
theorem dX8_ruleNow_49 : decode cX8_ruleNow 49 = .ok (.bipush 17, 2) := by decide +kernel
theorem dX8_ruleNow_51 : decode cX8_ruleNow 51 = .ok (.iconst 4, 1) := by decide +kernel
theorem dX8_ruleNow_52 : decode cX8_ruleNow 52 = .ok (.iload 5, 2) := by decide +kernel
theorem dX8_ruleNow_54 : decode cX8_ruleNow 54 = .ok (.imul, 1) := by decide +kernel
theorem dX8_ruleNow_55 : decode cX8_ruleNow 55 = .ok (.iadd, 1) := by decide +kernel
theorem dX8_ruleNow_56 : decode cX8_ruleNow 56 = .ok (.iload 4, 2) := by decide +kernel
theorem dX8_ruleNow_58 : decode cX8_ruleNow 58 = .ok (.iastore, 1) := by decide +kernel
theorem dX8_ruleNow_59 : decode cX8_ruleNow 59 = .ok (.aload_n 0, 1) := by decide +kernel
theorem dX8_ruleNow_60 : decode cX8_ruleNow 60 = .ok (.getfield 7, 3) := by decide +kernel
theorem dX8_ruleNow_63 : decode cX8_ruleNow 63 = .ok (.bipush 13, 2) := by decide +kernel
theorem dX8_ruleNow_65 : decode cX8_ruleNow 65 = .ok (.dup2, 1) := by decide +kernel
theorem dX8_ruleNow_66 : decode cX8_ruleNow 66 = .ok (.iaload, 1) := by decide +kernel
theorem dX8_ruleNow_67 : decode cX8_ruleNow 67 = .ok (.iconst 1, 1) := by decide +kernel
theorem dX8_ruleNow_68 : decode cX8_ruleNow 68 = .ok (.iadd, 1) := by decide +kernel
theorem dX8_ruleNow_69 : decode cX8_ruleNow 69 = .ok (.iastore, 1) := by decide +kernel
theorem dX8_ruleNow_70 : decode cX8_ruleNow 70 = .ok (.iload 5, 2) := by decide +kernel
theorem dX8_ruleNow_72 : decode cX8_ruleNow 72 = .ok (.ireturn, 1) := by decide +kernel
set_option maxRecDepth 20000 in
theorem ggX8_rule_X8_canRule : GoodIn wsX8_rule wsX8_canRule := goodIn_r _ [5, 6, 7, 8, 9, 10, 11, 4, 12, 13, 14, 15, 16, 17, 18, 19, 20, 21, 22, 23, 24, 40, 41, 42, 43, 44, 45, 46, 47, 48, 49, 50, 51, 52, 53, 54, 55, 56] (by decide +kernel) (by decide +kernel)
set_option maxRecDepth 20000 in
theorem gX8_rule_X8_canRule : GoodIn wsX8_rule (wsV RX8 105 RX8 yX8_canRule wsX8_canRule) := goodIn_app (goodIn_of _ (by decide +kernel)) ggX8_rule_X8_canRule
set_option maxRecDepth 20000 in
theorem ggX8_rule_X8_refuses : GoodIn wsX8_rule wsX8_refuses := goodIn_r _ [28, 29, 7, 40, 41, 42, 43, 44, 45, 46, 47, 48, 49, 50, 51, 52, 53, 54, 55, 56] (by decide +kernel) (by decide +kernel)
set_option maxRecDepth 20000 in
theorem gX8_rule_X8_refuses : GoodIn wsX8_rule (wsV RX8 87 RX8 yX8_refuses wsX8_refuses) := goodIn_app (goodIn_of _ (by decide +kernel)) ggX8_rule_X8_refuses
set_option maxRecDepth 20000 in
theorem ggX8_rule_X8_keep : GoodIn wsX8_rule wsX8_keep := goodIn_r _ [33, 34, 35, 17, 40, 41, 42, 43, 44, 45, 46, 47, 48, 49, 50, 51, 52, 53, 54, 55, 56] (by decide +kernel) (by decide +kernel)
set_option maxRecDepth 20000 in
theorem gX8_rule_X8_keep : GoodIn wsX8_rule (wsV RX8 91 RX8 yX8_keep wsX8_keep) := goodIn_app (goodIn_of _ (by decide +kernel)) ggX8_rule_X8_keep
set_option maxRecDepth 20000 in
theorem ggX8_rule_X8_ruleNow : GoodIn wsX8_rule wsX8_ruleNow := goodIn_r _ [39, 17, 21, 22, 23, 4, 24, 40, 41, 42, 43, 44, 45, 46, 47, 48, 49, 50, 51, 52, 53, 54, 55, 56] (by decide +kernel) (by decide +kernel)
set_option maxRecDepth 20000 in
theorem gX8_rule_X8_ruleNow : GoodIn wsX8_rule (wsV RX8 109 RX8 yX8_ruleNow wsX8_ruleNow) := goodIn_app (goodIn_of _ (by decide +kernel)) ggX8_rule_X8_ruleNow
theorem dX8_rule_0 : decode cX8_rule 0 = .ok (.aload_n 0, 1) := by decide +kernel
theorem dX8_rule_1 : decode cX8_rule 1 = .ok (.iload_n 1, 1) := by decide +kernel
theorem dX8_rule_2 : decode cX8_rule 2 = .ok (.iload_n 2, 1) := by decide +kernel
theorem dX8_rule_3 : decode cX8_rule 3 = .ok (.iload_n 3, 1) := by decide +kernel
theorem dX8_rule_4 : decode cX8_rule 4 = .ok (.iload 4, 2) := by decide +kernel
theorem dX8_rule_6 : decode cX8_rule 6 = .ok (.invokevirtual 105, 3) := by decide +kernel
theorem dX8_rule_9 : decode cX8_rule 9 = .ok (.istore 5, 2) := by decide +kernel
theorem dX8_rule_11 : decode cX8_rule 11 = .ok (.iload 5, 2) := by decide +kernel
theorem dX8_rule_13 : decode cX8_rule 13 = .ok (.ifCond .ge 10, 3) := by decide +kernel
theorem dX8_rule_16 : decode cX8_rule 16 = .ok (.aload_n 0, 1) := by decide +kernel
theorem dX8_rule_17 : decode cX8_rule 17 = .ok (.iload 5, 2) := by decide +kernel
theorem dX8_rule_19 : decode cX8_rule 19 = .ok (.invokevirtual 87, 3) := by decide +kernel
theorem dX8_rule_22 : decode cX8_rule 22 = .ok (.ireturn, 1) := by decide +kernel
theorem dX8_rule_23 : decode cX8_rule 23 = .ok (.aload_n 0, 1) := by decide +kernel
theorem dX8_rule_24 : decode cX8_rule 24 = .ok (.invokevirtual 91, 3) := by decide +kernel
theorem dX8_rule_27 : decode cX8_rule 27 = .ok (.aload_n 0, 1) := by decide +kernel
theorem dX8_rule_28 : decode cX8_rule 28 = .ok (.iload_n 1, 1) := by decide +kernel
theorem dX8_rule_29 : decode cX8_rule 29 = .ok (.iload_n 2, 1) := by decide +kernel
theorem dX8_rule_30 : decode cX8_rule 30 = .ok (.iload_n 3, 1) := by decide +kernel
theorem dX8_rule_31 : decode cX8_rule 31 = .ok (.iload 4, 2) := by decide +kernel
theorem dX8_rule_33 : decode cX8_rule 33 = .ok (.invokevirtual 109, 3) := by decide +kernel
theorem dX8_rule_36 : decode cX8_rule 36 = .ok (.ireturn, 1) := by decide +kernel
set_option maxRecDepth 20000 in
theorem ggX8_dropNow_X8_rules : GoodIn wsX8_dropNow wsX8_rules := goodIn_r _ [6, 1, 7, 8, 9, 10, 11, 12, 13, 14, 15, 16, 17, 18, 19, 20, 21, 22, 23] (by decide +kernel) (by decide +kernel)
set_option maxRecDepth 20000 in
theorem gX8_dropNow_X8_rules : GoodIn wsX8_dropNow (wsV RX8 51 RX8 yX8_rules wsX8_rules) := goodIn_app (goodIn_of _ (by decide +kernel)) ggX8_dropNow_X8_rules
theorem dX8_dropNow_0 : decode cX8_dropNow 0 = .ok (.aload_n 0, 1) := by decide +kernel
theorem dX8_dropNow_1 : decode cX8_dropNow 1 = .ok (.getfield 7, 3) := by decide +kernel
theorem dX8_dropNow_4 : decode cX8_dropNow 4 = .ok (.bipush 13, 2) := by decide +kernel
theorem dX8_dropNow_6 : decode cX8_dropNow 6 = .ok (.dup2, 1) := by decide +kernel
theorem dX8_dropNow_7 : decode cX8_dropNow 7 = .ok (.iaload, 1) := by decide +kernel
theorem dX8_dropNow_8 : decode cX8_dropNow 8 = .ok (.iconst 1, 1) := by decide +kernel
theorem dX8_dropNow_9 : decode cX8_dropNow 9 = .ok (.isub, 1) := by decide +kernel
theorem dX8_dropNow_10 : decode cX8_dropNow 10 = .ok (.iastore, 1) := by decide +kernel
theorem dX8_dropNow_11 : decode cX8_dropNow 11 = .ok (.bipush 14, 2) := by decide +kernel
theorem dX8_dropNow_13 : decode cX8_dropNow 13 = .ok (.iconst 4, 1) := by decide +kernel
theorem dX8_dropNow_14 : decode cX8_dropNow 14 = .ok (.iload_n 1, 1) := by decide +kernel
theorem dX8_dropNow_15 : decode cX8_dropNow 15 = .ok (.imul, 1) := by decide +kernel
theorem dX8_dropNow_16 : decode cX8_dropNow 16 = .ok (.iadd, 1) := by decide +kernel
theorem dX8_dropNow_17 : decode cX8_dropNow 17 = .ok (.istore_n 2, 1) := by decide +kernel
theorem dX8_dropNow_18 : decode cX8_dropNow 18 = .ok (.iload_n 2, 1) := by decide +kernel
theorem dX8_dropNow_19 : decode cX8_dropNow 19 = .ok (.bipush 14, 2) := by decide +kernel
theorem dX8_dropNow_21 : decode cX8_dropNow 21 = .ok (.iconst 4, 1) := by decide +kernel
theorem dX8_dropNow_22 : decode cX8_dropNow 22 = .ok (.aload_n 0, 1) := by decide +kernel
theorem dX8_dropNow_23 : decode cX8_dropNow 23 = .ok (.invokevirtual 51, 3) := by decide +kernel
theorem dX8_dropNow_26 : decode cX8_dropNow 26 = .ok (.imul, 1) := by decide +kernel
theorem dX8_dropNow_27 : decode cX8_dropNow 27 = .ok (.iadd, 1) := by decide +kernel
theorem dX8_dropNow_28 : decode cX8_dropNow 28 = .ok (.if_icmp .ge 23, 3) := by decide +kernel
theorem dX8_dropNow_31 : decode cX8_dropNow 31 = .ok (.aload_n 0, 1) := by decide +kernel
theorem dX8_dropNow_32 : decode cX8_dropNow 32 = .ok (.getfield 7, 3) := by decide +kernel
theorem dX8_dropNow_35 : decode cX8_dropNow 35 = .ok (.iload_n 2, 1) := by decide +kernel
theorem dX8_dropNow_36 : decode cX8_dropNow 36 = .ok (.aload_n 0, 1) := by decide +kernel
theorem dX8_dropNow_37 : decode cX8_dropNow 37 = .ok (.getfield 7, 3) := by decide +kernel
theorem dX8_dropNow_40 : decode cX8_dropNow 40 = .ok (.iload_n 2, 1) := by decide +kernel
theorem dX8_dropNow_41 : decode cX8_dropNow 41 = .ok (.iconst 4, 1) := by decide +kernel
theorem dX8_dropNow_42 : decode cX8_dropNow 42 = .ok (.iadd, 1) := by decide +kernel
theorem dX8_dropNow_43 : decode cX8_dropNow 43 = .ok (.iaload, 1) := by decide +kernel
theorem dX8_dropNow_44 : decode cX8_dropNow 44 = .ok (.iastore, 1) := by decide +kernel
theorem dX8_dropNow_45 : decode cX8_dropNow 45 = .ok (.iinc 2 1, 3) := by decide +kernel
theorem dX8_dropNow_48 : decode cX8_dropNow 48 = .ok (.goto (-30), 3) := by decide +kernel
theorem dX8_dropNow_51 : decode cX8_dropNow 51 = .ok (.aload_n 0, 1) := by decide +kernel
theorem dX8_dropNow_52 : decode cX8_dropNow 52 = .ok (.invokevirtual 51, 3) := by decide +kernel
theorem dX8_dropNow_55 : decode cX8_dropNow 55 = .ok (.ireturn, 1) := by decide +kernel
set_option maxRecDepth 20000 in
theorem ggX8_drops_X8_isRule : GoodIn wsX8_drops wsX8_isRule := goodIn_r _ [6, 7, 8, 9, 5, 10, 11, 12, 13, 14, 30, 31, 32, 33, 34, 35, 36, 37, 38, 39, 40, 41, 42, 43, 44, 45, 46] (by decide +kernel) (by decide +kernel)
set_option maxRecDepth 20000 in
theorem gX8_drops_X8_isRule : GoodIn wsX8_drops (wsV RX8 112 RX8 yX8_isRule wsX8_isRule) := goodIn_app (goodIn_of _ (by decide +kernel)) ggX8_drops_X8_isRule
set_option maxRecDepth 20000 in
theorem ggX8_drops_X8_refuses : GoodIn wsX8_drops wsX8_refuses := goodIn_r _ [18, 19, 1, 30, 31, 32, 33, 34, 35, 36, 37, 38, 39, 40, 41, 42, 43, 44, 45, 46] (by decide +kernel) (by decide +kernel)
set_option maxRecDepth 20000 in
theorem gX8_drops_X8_refuses : GoodIn wsX8_drops (wsV RX8 87 RX8 yX8_refuses wsX8_refuses) := goodIn_app (goodIn_of _ (by decide +kernel)) ggX8_drops_X8_refuses
set_option maxRecDepth 20000 in
theorem ggX8_drops_X8_keep : GoodIn wsX8_drops wsX8_keep := goodIn_r _ [23, 24, 25, 11, 30, 31, 32, 33, 34, 35, 36, 37, 38, 39, 40, 41, 42, 43, 44, 45, 46] (by decide +kernel) (by decide +kernel)
set_option maxRecDepth 20000 in
theorem gX8_drops_X8_keep : GoodIn wsX8_drops (wsV RX8 91 RX8 yX8_keep wsX8_keep) := goodIn_app (goodIn_of _ (by decide +kernel)) ggX8_drops_X8_keep
set_option maxRecDepth 20000 in
theorem ggX8_drops_X8_dropNow : GoodIn wsX8_drops wsX8_dropNow := goodIn_r _ [29, 11, 7, 8, 9, 5, 10, 30, 31, 32, 33, 34, 35, 36, 37, 38, 39, 40, 41, 42, 43, 44, 45, 46] (by decide +kernel) (by decide +kernel)
set_option maxRecDepth 20000 in
theorem gX8_drops_X8_dropNow : GoodIn wsX8_drops (wsV RX8 115 RX8 yX8_dropNow wsX8_dropNow) := goodIn_app (goodIn_of _ (by decide +kernel)) ggX8_drops_X8_dropNow

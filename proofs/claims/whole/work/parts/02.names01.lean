theorem dX0_load_21 : decode cX0_load 21 = .ok (.invokestatic 18, 3) := by decide +kernel
theorem dX0_load_24 : decode cX0_load 24 = .ok (.return_, 1) := by decide +kernel
theorem dX0_store_0 : decode cX0_store 0 = .ok (.aload_n 0, 1) := by decide +kernel
theorem dX0_store_1 : decode cX0_store 1 = .ok (.getfield 9, 3) := by decide +kernel
theorem dX0_store_4 : decode cX0_store 4 = .ok (.iconst 0, 1) := by decide +kernel
theorem dX0_store_5 : decode cX0_store 5 = .ok (.aload_n 1, 1) := by decide +kernel
theorem dX0_store_6 : decode cX0_store 6 = .ok (.iload_n 3, 1) := by decide +kernel
theorem dX0_store_7 : decode cX0_store 7 = .ok (.bipush 6, 2) := by decide +kernel
theorem dX0_store_9 : decode cX0_store 9 = .ok (.invokestatic 18, 3) := by decide +kernel
theorem dX0_store_12 : decode cX0_store 12 = .ok (.aload_n 0, 1) := by decide +kernel
theorem dX0_store_13 : decode cX0_store 13 = .ok (.getfield 15, 3) := by decide +kernel
theorem dX0_store_16 : decode cX0_store 16 = .ok (.iconst 0, 1) := by decide +kernel
theorem dX0_store_17 : decode cX0_store 17 = .ok (.aload_n 2, 1) := by decide +kernel
theorem dX0_store_18 : decode cX0_store 18 = .ok (.iload_n 3, 1) := by decide +kernel
theorem dX0_store_19 : decode cX0_store 19 = .ok (.bipush 6, 2) := by decide +kernel
theorem dX0_store_21 : decode cX0_store 21 = .ok (.invokestatic 18, 3) := by decide +kernel
theorem dX0_store_24 : decode cX0_store 24 = .ok (.return_, 1) := by decide +kernel
set_option maxRecDepth 20000 in
theorem ggX0_cutByRules_X0_cutSum : GoodIn wsX0_cutByRules wsX0_cutSum := goodIn_r _ [12, 13, 14, 1, 15, 16, 17, 18, 19, 20, 21, 22, 23, 24, 25, 26, 27, 28, 29, 30, 31, 32, 33, 34, 35, 36, 37, 38, 39, 40, 41, 42, 43, 44, 45, 46, 47, 48, 49, 11, 50, 51, 52, 53, 54, 2, 55, 56, 57, 58, 59, 60, 61, 102, 103, 104, 105] (by decide +kernel) (by decide +kernel)
set_option maxRecDepth 20000 in
theorem gX0_cutByRules_X0_cutSum : GoodIn wsX0_cutByRules (wsV RX0 45 RX0 yX0_cutSum wsX0_cutSum) := goodIn_app (goodIn_of _ (by decide +kernel)) ggX0_cutByRules_X0_cutSum
set_option maxRecDepth 20000 in
theorem ggX0_cutByRules_X0_cutProduct : GoodIn wsX0_cutByRules wsX0_cutProduct := goodIn_r _ [65, 13, 14, 52, 53, 28, 54, 51, 27, 29, 66, 67, 17, 68, 19, 20, 21, 22, 30, 31, 32, 33, 23, 24, 25, 26, 34, 35, 36, 37, 38, 39, 40, 41, 42, 43, 44, 45, 46, 47, 48, 49, 11, 50, 1, 2, 102, 103, 104, 105] (by decide +kernel) (by decide +kernel)
set_option maxRecDepth 20000 in
theorem gX0_cutByRules_X0_cutProduct : GoodIn wsX0_cutByRules (wsV RX0 49 RX0 yX0_cutProduct wsX0_cutProduct) := goodIn_app (goodIn_of _ (by decide +kernel)) ggX0_cutByRules_X0_cutProduct
set_option maxRecDepth 20000 in
theorem ggX0_cutByRules_X0_cutFactor : GoodIn wsX0_cutByRules wsX0_cutFactor := goodIn_r _ [72, 1, 14, 13, 51, 27, 28, 29, 52, 53, 54, 73, 74, 75, 11, 76, 66, 67, 17, 68, 19, 20, 21, 22, 30, 31, 32, 33, 23, 24, 25, 26, 34, 35, 36, 37, 38, 39, 40, 41, 42, 43, 44, 45, 46, 59, 60, 61, 47, 48, 49, 50, 2, 102, 103, 104, 105] (by decide +kernel) (by decide +kernel)
set_option maxRecDepth 20000 in
theorem gX0_cutByRules_X0_cutFactor : GoodIn wsX0_cutByRules (wsV RX0 52 RX0 yX0_cutFactor wsX0_cutFactor) := goodIn_app (goodIn_of _ (by decide +kernel)) ggX0_cutByRules_X0_cutFactor
set_option maxRecDepth 20000 in
theorem ggX0_cutByRules_X0_cutMost : GoodIn wsX0_cutByRules wsX0_cutMost := goodIn_r _ [80, 13, 51, 27, 28, 29, 14, 47, 48, 49, 11, 50, 52, 53, 54, 1, 2, 102, 103, 104, 105] (by decide +kernel) (by decide +kernel)
set_option maxRecDepth 20000 in
theorem gX0_cutByRules_X0_cutMost : GoodIn wsX0_cutByRules (wsV RX0 55 RX0 yX0_cutMost wsX0_cutMost) := goodIn_app (goodIn_of _ (by decide +kernel)) ggX0_cutByRules_X0_cutMost
set_option maxRecDepth 20000 in
theorem ggX0_cutByRules_X0_cutLess : GoodIn wsX0_cutByRules wsX0_cutLess := goodIn_r _ [84, 13, 14, 85, 86, 21, 87, 88, 89, 90, 47, 48, 49, 11, 50, 51, 27, 28, 29, 52, 53, 54, 1, 2, 91, 92, 93, 102, 103, 104, 105] (by decide +kernel) (by decide +kernel)
set_option maxRecDepth 20000 in
theorem gX0_cutByRules_X0_cutLess : GoodIn wsX0_cutByRules (wsV RX0 58 RX0 yX0_cutLess wsX0_cutLess) := goodIn_app (goodIn_of _ (by decide +kernel)) ggX0_cutByRules_X0_cutLess
set_option maxRecDepth 20000 in
theorem ggX0_cutByRules_X0_cutSame : GoodIn wsX0_cutByRules wsX0_cutSame := goodIn_r _ [97, 13, 14, 85, 86, 21, 87, 91, 92, 93, 88, 89, 90, 47, 48, 49, 11, 50, 51, 27, 28, 29, 52, 53, 54, 1, 2, 102, 103, 104, 105] (by decide +kernel) (by decide +kernel)
set_option maxRecDepth 20000 in
theorem gX0_cutByRules_X0_cutSame : GoodIn wsX0_cutByRules (wsV RX0 62 RX0 yX0_cutSame wsX0_cutSame) := goodIn_app (goodIn_of _ (by decide +kernel)) ggX0_cutByRules_X0_cutSame
set_option maxRecDepth 20000 in
theorem ggX0_cutByRules_X0_cutTurned : GoodIn wsX0_cutByRules wsX0_cutTurned := goodIn_r _ [101, 14, 13, 47, 48, 49, 11, 50, 51, 27, 28, 29, 52, 53, 54, 1, 2, 102, 103, 104, 105] (by decide +kernel) (by decide +kernel)
set_option maxRecDepth 20000 in
theorem gX0_cutByRules_X0_cutTurned : GoodIn wsX0_cutByRules (wsV RX0 65 RX0 yX0_cutTurned wsX0_cutTurned) := goodIn_app (goodIn_of _ (by decide +kernel)) ggX0_cutByRules_X0_cutTurned
theorem dX0_cutByRules_0 : decode cX0_cutByRules 0 = .ok (.aload_n 0, 1) := by decide +kernel
theorem dX0_cutByRules_1 : decode cX0_cutByRules 1 = .ok (.iconst 0, 1) := by decide +kernel
theorem dX0_cutByRules_2 : decode cX0_cutByRules 2 = .ok (.putfield 24, 3) := by decide +kernel
theorem dX0_cutByRules_5 : decode cX0_cutByRules 5 = .ok (.iconst 1, 1) := by decide +kernel
theorem dX0_cutByRules_6 : decode cX0_cutByRules 6 = .ok (.istore 5, 2) := by decide +kernel
theorem dX0_cutByRules_8 : decode cX0_cutByRules 8 = .ok (.iload 5, 2) := by decide +kernel
theorem dX0_cutByRules_10 : decode cX0_cutByRules 10 = .ok (.iload 4, 2) := by decide +kernel
theorem dX0_cutByRules_12 : decode cX0_cutByRules 12 = .ok (.if_icmp .gt 213, 3) := by decide +kernel
theorem dX0_cutByRules_15 : decode cX0_cutByRules 15 = .ok (.aload_n 0, 1) := by decide +kernel
theorem dX0_cutByRules_16 : decode cX0_cutByRules 16 = .ok (.iconst 0, 1) := by decide +kernel
theorem dX0_cutByRules_17 : decode cX0_cutByRules 17 = .ok (.putfield 28, 3) := by decide +kernel
theorem dX0_cutByRules_20 : decode cX0_cutByRules 20 = .ok (.iload_n 2, 1) := by decide +kernel
theorem dX0_cutByRules_21 : decode cX0_cutByRules 21 = .ok (.istore 6, 2) := by decide +kernel
theorem dX0_cutByRules_23 : decode cX0_cutByRules 23 = .ok (.iload 6, 2) := by decide +kernel
theorem dX0_cutByRules_25 : decode cX0_cutByRules 25 = .ok (.iload_n 3, 1) := by decide +kernel
theorem dX0_cutByRules_26 : decode cX0_cutByRules 26 = .ok (.if_icmp .ge 173, 3) := by decide +kernel
theorem dX0_cutByRules_29 : decode cX0_cutByRules 29 = .ok (.aload_n 0, 1) := by decide +kernel
theorem dX0_cutByRules_30 : decode cX0_cutByRules 30 = .ok (.getfield 24, 3) := by decide +kernel
theorem dX0_cutByRules_33 : decode cX0_cutByRules 33 = .ok (.ifCond .ne 166, 3) := by decide +kernel
theorem dX0_cutByRules_36 : decode cX0_cutByRules 36 = .ok (.aload_n 1, 1) := by decide +kernel
theorem dX0_cutByRules_37 : decode cX0_cutByRules 37 = .ok (.getfield 31, 3) := by decide +kernel
theorem dX0_cutByRules_40 : decode cX0_cutByRules 40 = .ok (.iload 6, 2) := by decide +kernel
theorem dX0_cutByRules_42 : decode cX0_cutByRules 42 = .ok (.iaload, 1) := by decide +kernel
theorem dX0_cutByRules_43 : decode cX0_cutByRules 43 = .ok (.istore 7, 2) := by decide +kernel
theorem dX0_cutByRules_45 : decode cX0_cutByRules 45 = .ok (.aload_n 1, 1) := by decide +kernel
theorem dX0_cutByRules_46 : decode cX0_cutByRules 46 = .ok (.getfield 36, 3) := by decide +kernel
theorem dX0_cutByRules_49 : decode cX0_cutByRules 49 = .ok (.iload 6, 2) := by decide +kernel
theorem dX0_cutByRules_51 : decode cX0_cutByRules 51 = .ok (.iaload, 1) := by decide +kernel
theorem dX0_cutByRules_52 : decode cX0_cutByRules 52 = .ok (.istore 8, 2) := by decide +kernel
theorem dX0_cutByRules_54 : decode cX0_cutByRules 54 = .ok (.aload_n 1, 1) := by decide +kernel
theorem dX0_cutByRules_55 : decode cX0_cutByRules 55 = .ok (.getfield 39, 3) := by decide +kernel
theorem dX0_cutByRules_58 : decode cX0_cutByRules 58 = .ok (.iload 6, 2) := by decide +kernel
theorem dX0_cutByRules_60 : decode cX0_cutByRules 60 = .ok (.iaload, 1) := by decide +kernel
theorem dX0_cutByRules_61 : decode cX0_cutByRules 61 = .ok (.istore 9, 2) := by decide +kernel
theorem dX0_cutByRules_63 : decode cX0_cutByRules 63 = .ok (.aload_n 1, 1) := by decide +kernel
theorem dX0_cutByRules_64 : decode cX0_cutByRules 64 = .ok (.getfield 42, 3) := by decide +kernel
theorem dX0_cutByRules_67 : decode cX0_cutByRules 67 = .ok (.iload 6, 2) := by decide +kernel
theorem dX0_cutByRules_69 : decode cX0_cutByRules 69 = .ok (.iaload, 1) := by decide +kernel
theorem dX0_cutByRules_70 : decode cX0_cutByRules 70 = .ok (.tableswitch 115 0 4 #[34, 47, 80, 93, 104], 34) := by decide +kernel
theorem dX0_cutByRules_104 : decode cX0_cutByRules 104 = .ok (.aload_n 0, 1) := by decide +kernel
theorem dX0_cutByRules_105 : decode cX0_cutByRules 105 = .ok (.iload 7, 2) := by decide +kernel
theorem dX0_cutByRules_107 : decode cX0_cutByRules 107 = .ok (.iload 8, 2) := by decide +kernel
theorem dX0_cutByRules_109 : decode cX0_cutByRules 109 = .ok (.iload 9, 2) := by decide +kernel
theorem dX0_cutByRules_111 : decode cX0_cutByRules 111 = .ok (.invokevirtual 45, 3) := by decide +kernel
theorem dX0_cutByRules_114 : decode cX0_cutByRules 114 = .ok (.goto 79, 3) := by decide +kernel
theorem dX0_cutByRules_117 : decode cX0_cutByRules 117 = .ok (.aload_n 0, 1) := by decide +kernel
theorem dX0_cutByRules_118 : decode cX0_cutByRules 118 = .ok (.iload 7, 2) := by decide +kernel
theorem dX0_cutByRules_120 : decode cX0_cutByRules 120 = .ok (.iload 8, 2) := by decide +kernel
theorem dX0_cutByRules_122 : decode cX0_cutByRules 122 = .ok (.iload 9, 2) := by decide +kernel
theorem dX0_cutByRules_124 : decode cX0_cutByRules 124 = .ok (.invokevirtual 49, 3) := by decide +kernel
theorem dX0_cutByRules_127 : decode cX0_cutByRules 127 = .ok (.aload_n 0, 1) := by decide +kernel
theorem dX0_cutByRules_128 : decode cX0_cutByRules 128 = .ok (.iload 7, 2) := by decide +kernel
theorem dX0_cutByRules_130 : decode cX0_cutByRules 130 = .ok (.iload 8, 2) := by decide +kernel
theorem dX0_cutByRules_132 : decode cX0_cutByRules 132 = .ok (.iload 9, 2) := by decide +kernel
theorem dX0_cutByRules_134 : decode cX0_cutByRules 134 = .ok (.invokevirtual 52, 3) := by decide +kernel
theorem dX0_cutByRules_137 : decode cX0_cutByRules 137 = .ok (.aload_n 0, 1) := by decide +kernel
theorem dX0_cutByRules_138 : decode cX0_cutByRules 138 = .ok (.iload 8, 2) := by decide +kernel
theorem dX0_cutByRules_140 : decode cX0_cutByRules 140 = .ok (.iload 7, 2) := by decide +kernel
theorem dX0_cutByRules_142 : decode cX0_cutByRules 142 = .ok (.iload 9, 2) := by decide +kernel
theorem dX0_cutByRules_144 : decode cX0_cutByRules 144 = .ok (.invokevirtual 52, 3) := by decide +kernel
theorem dX0_cutByRules_147 : decode cX0_cutByRules 147 = .ok (.goto 46, 3) := by decide +kernel
theorem dX0_cutByRules_150 : decode cX0_cutByRules 150 = .ok (.aload_n 0, 1) := by decide +kernel
theorem dX0_cutByRules_151 : decode cX0_cutByRules 151 = .ok (.iload 7, 2) := by decide +kernel
theorem dX0_cutByRules_153 : decode cX0_cutByRules 153 = .ok (.iload 8, 2) := by decide +kernel
theorem dX0_cutByRules_155 : decode cX0_cutByRules 155 = .ok (.iload 9, 2) := by decide +kernel
theorem dX0_cutByRules_157 : decode cX0_cutByRules 157 = .ok (.invokevirtual 55, 3) := by decide +kernel
theorem dX0_cutByRules_160 : decode cX0_cutByRules 160 = .ok (.goto 33, 3) := by decide +kernel
theorem dX0_cutByRules_163 : decode cX0_cutByRules 163 = .ok (.aload_n 0, 1) := by decide +kernel
theorem dX0_cutByRules_164 : decode cX0_cutByRules 164 = .ok (.iload 7, 2) := by decide +kernel
theorem dX0_cutByRules_166 : decode cX0_cutByRules 166 = .ok (.iload 8, 2) := by decide +kernel
theorem dX0_cutByRules_168 : decode cX0_cutByRules 168 = .ok (.invokevirtual 58, 3) := by decide +kernel
theorem dX0_cutByRules_171 : decode cX0_cutByRules 171 = .ok (.goto 22, 3) := by decide +kernel
theorem dX0_cutByRules_174 : decode cX0_cutByRules 174 = .ok (.aload_n 0, 1) := by decide +kernel
theorem dX0_cutByRules_175 : decode cX0_cutByRules 175 = .ok (.iload 7, 2) := by decide +kernel
theorem dX0_cutByRules_177 : decode cX0_cutByRules 177 = .ok (.iload 8, 2) := by decide +kernel
theorem dX0_cutByRules_179 : decode cX0_cutByRules 179 = .ok (.invokevirtual 62, 3) := by decide +kernel
theorem dX0_cutByRules_182 : decode cX0_cutByRules 182 = .ok (.goto 11, 3) := by decide +kernel
theorem dX0_cutByRules_185 : decode cX0_cutByRules 185 = .ok (.aload_n 0, 1) := by decide +kernel
theorem dX0_cutByRules_186 : decode cX0_cutByRules 186 = .ok (.iload 7, 2) := by decide +kernel
theorem dX0_cutByRules_188 : decode cX0_cutByRules 188 = .ok (.iload 8, 2) := by decide +kernel
theorem dX0_cutByRules_190 : decode cX0_cutByRules 190 = .ok (.invokevirtual 65, 3) := by decide +kernel
theorem dX0_cutByRules_193 : decode cX0_cutByRules 193 = .ok (.iinc 6 1, 3) := by decide +kernel
theorem dX0_cutByRules_196 : decode cX0_cutByRules 196 = .ok (.goto (-173), 3) := by decide +kernel
theorem dX0_cutByRules_199 : decode cX0_cutByRules 199 = .ok (.aload_n 0, 1) := by decide +kernel
theorem dX0_cutByRules_200 : decode cX0_cutByRules 200 = .ok (.getfield 24, 3) := by decide +kernel
theorem dX0_cutByRules_203 : decode cX0_cutByRules 203 = .ok (.ifCond .eq 6, 3) := by decide +kernel
theorem dX0_cutByRules_206 : decode cX0_cutByRules 206 = .ok (.ldc 68, 2) := by decide +kernel
theorem dX0_cutByRules_208 : decode cX0_cutByRules 208 = .ok (.ireturn, 1) := by decide +kernel
theorem dX0_cutByRules_209 : decode cX0_cutByRules 209 = .ok (.aload_n 0, 1) := by decide +kernel
theorem dX0_cutByRules_210 : decode cX0_cutByRules 210 = .ok (.getfield 28, 3) := by decide +kernel
theorem dX0_cutByRules_213 : decode cX0_cutByRules 213 = .ok (.ifCond .ne 6, 3) := by decide +kernel
theorem dX0_cutByRules_216 : decode cX0_cutByRules 216 = .ok (.iload 5, 2) := by decide +kernel
theorem dX0_cutByRules_218 : decode cX0_cutByRules 218 = .ok (.ireturn, 1) := by decide +kernel
theorem dX0_cutByRules_219 : decode cX0_cutByRules 219 = .ok (.iinc 5 1, 3) := by decide +kernel
theorem dX0_cutByRules_222 : decode cX0_cutByRules 222 = .ok (.goto (-214), 3) := by decide +kernel
theorem dX0_cutByRules_225 : decode cX0_cutByRules 225 = .ok (.iload 4, 2) := by decide +kernel
theorem dX0_cutByRules_227 : decode cX0_cutByRules 227 = .ok (.ireturn, 1) := by decide +kernel
theorem dX0_leave_0 : decode cX0_leave 0 = .ok (.aload_n 0, 1) := by decide +kernel
theorem dX0_leave_1 : decode cX0_leave 1 = .ok (.getfield 9, 3) := by decide +kernel
theorem dX0_leave_4 : decode cX0_leave 4 = .ok (.iload_n 1, 1) := by decide +kernel
theorem dX0_leave_5 : decode cX0_leave 5 = .ok (.iaload, 1) := by decide +kernel
theorem dX0_leave_6 : decode cX0_leave 6 = .ok (.iload_n 2, 1) := by decide +kernel
theorem dX0_leave_7 : decode cX0_leave 7 = .ok (.invokestatic 69, 3) := by decide +kernel
theorem dX0_leave_10 : decode cX0_leave 10 = .ok (.istore 4, 2) := by decide +kernel
theorem dX0_leave_12 : decode cX0_leave 12 = .ok (.aload_n 0, 1) := by decide +kernel
theorem dX0_leave_13 : decode cX0_leave 13 = .ok (.getfield 15, 3) := by decide +kernel
theorem dX0_leave_16 : decode cX0_leave 16 = .ok (.iload_n 1, 1) := by decide +kernel
theorem dX0_leave_17 : decode cX0_leave 17 = .ok (.iaload, 1) := by decide +kernel
theorem dX0_leave_18 : decode cX0_leave 18 = .ok (.iload_n 3, 1) := by decide +kernel
theorem dX0_leave_19 : decode cX0_leave 19 = .ok (.invokestatic 75, 3) := by decide +kernel
theorem dX0_leave_22 : decode cX0_leave 22 = .ok (.istore 5, 2) := by decide +kernel
theorem dX0_leave_24 : decode cX0_leave 24 = .ok (.aload_n 0, 1) := by decide +kernel
theorem dX0_leave_25 : decode cX0_leave 25 = .ok (.getfield 24, 3) := by decide +kernel
theorem dX0_leave_28 : decode cX0_leave 28 = .ok (.ifCond .ne 10, 3) := by decide +kernel
theorem dX0_leave_31 : decode cX0_leave 31 = .ok (.iload 4, 2) := by decide +kernel
theorem dX0_leave_33 : decode cX0_leave 33 = .ok (.iload 5, 2) := by decide +kernel
theorem dX0_leave_35 : decode cX0_leave 35 = .ok (.if_icmp .le 11, 3) := by decide +kernel
theorem dX0_leave_38 : decode cX0_leave 38 = .ok (.aload_n 0, 1) := by decide +kernel
theorem dX0_leave_39 : decode cX0_leave 39 = .ok (.iconst 1, 1) := by decide +kernel
theorem dX0_leave_40 : decode cX0_leave 40 = .ok (.putfield 24, 3) := by decide +kernel
theorem dX0_leave_43 : decode cX0_leave 43 = .ok (.goto 46, 3) := by decide +kernel
theorem dX0_leave_46 : decode cX0_leave 46 = .ok (.iload 4, 2) := by decide +kernel
theorem dX0_leave_48 : decode cX0_leave 48 = .ok (.aload_n 0, 1) := by decide +kernel
theorem dX0_leave_49 : decode cX0_leave 49 = .ok (.getfield 9, 3) := by decide +kernel
theorem dX0_leave_52 : decode cX0_leave 52 = .ok (.iload_n 1, 1) := by decide +kernel
theorem dX0_leave_53 : decode cX0_leave 53 = .ok (.iaload, 1) := by decide +kernel
theorem dX0_leave_54 : decode cX0_leave 54 = .ok (.if_icmp .ne 14, 3) := by decide +kernel
theorem dX0_leave_57 : decode cX0_leave 57 = .ok (.iload 5, 2) := by decide +kernel
theorem dX0_leave_59 : decode cX0_leave 59 = .ok (.aload_n 0, 1) := by decide +kernel
theorem dX0_leave_60 : decode cX0_leave 60 = .ok (.getfield 15, 3) := by decide +kernel
theorem dX0_leave_63 : decode cX0_leave 63 = .ok (.iload_n 1, 1) := by decide +kernel
theorem dX0_leave_64 : decode cX0_leave 64 = .ok (.iaload, 1) := by decide +kernel
theorem dX0_leave_65 : decode cX0_leave 65 = .ok (.if_icmp .eq 24, 3) := by decide +kernel
theorem dX0_leave_68 : decode cX0_leave 68 = .ok (.aload_n 0, 1) := by decide +kernel
theorem dX0_leave_69 : decode cX0_leave 69 = .ok (.getfield 9, 3) := by decide +kernel
theorem dX0_leave_72 : decode cX0_leave 72 = .ok (.iload_n 1, 1) := by decide +kernel
theorem dX0_leave_73 : decode cX0_leave 73 = .ok (.iload 4, 2) := by decide +kernel
theorem dX0_leave_75 : decode cX0_leave 75 = .ok (.iastore, 1) := by decide +kernel
theorem dX0_leave_76 : decode cX0_leave 76 = .ok (.aload_n 0, 1) := by decide +kernel
theorem dX0_leave_77 : decode cX0_leave 77 = .ok (.getfield 15, 3) := by decide +kernel
theorem dX0_leave_80 : decode cX0_leave 80 = .ok (.iload_n 1, 1) := by decide +kernel
theorem dX0_leave_81 : decode cX0_leave 81 = .ok (.iload 5, 2) := by decide +kernel
theorem dX0_leave_83 : decode cX0_leave 83 = .ok (.iastore, 1) := by decide +kernel
theorem dX0_leave_84 : decode cX0_leave 84 = .ok (.aload_n 0, 1) := by decide +kernel
theorem dX0_leave_85 : decode cX0_leave 85 = .ok (.iconst 1, 1) := by decide +kernel
theorem dX0_leave_86 : decode cX0_leave 86 = .ok (.putfield 28, 3) := by decide +kernel
theorem dX0_leave_89 : decode cX0_leave 89 = .ok (.return_, 1) := by decide +kernel
set_option maxRecDepth 20000 in
theorem ggX0_cutSum_X1_sum : GoodIn wsX0_cutSum wsX1_sum := goodIn_r _ [7, 8, 9, 10, 11, 12, 13, 6, 14, 15, 16, 17, 18, 19, 20, 21, 22, 23, 24, 25, 26, 27, 28, 29, 30, 31, 32, 33, 34, 35] (by decide +kernel) (by decide +kernel)
set_option maxRecDepth 20000 in
theorem gX0_cutSum_X1_sum : GoodIn wsX0_cutSum (va_wsS RX0 78 yX1_sum wsX1_sum) := goodIn_app (goodIn_of _ (by decide +kernel)) ggX0_cutSum_X1_sum
set_option maxRecDepth 20000 in
theorem ggX0_cutSum_X0_leave : GoodIn wsX0_cutSum wsX0_leave := goodIn_r _ [40, 1, 41, 16, 17, 18, 2, 42, 43, 44, 3, 45, 53, 54, 55, 56] (by decide +kernel) (by decide +kernel)
set_option maxRecDepth 20000 in
theorem gX0_cutSum_X0_leave : GoodIn wsX0_cutSum (wsV RX0 83 RX0 yX0_leave wsX0_leave) := goodIn_app (goodIn_of _ (by decide +kernel)) ggX0_cutSum_X0_leave
set_option maxRecDepth 20000 in
theorem ggX0_cutSum_X0_firstSum : GoodIn wsX0_cutSum wsX0_firstSum := goodIn_r _ [49, 1, 2, 4, 5, 6, 7, 8, 9, 10, 11, 12, 13, 14, 15, 16, 17, 18, 19, 20, 21, 22, 23, 24, 25, 26, 27, 28, 29, 30, 31, 32, 33, 34, 35, 50, 51, 52, 53, 54, 55, 56] (by decide +kernel) (by decide +kernel)
set_option maxRecDepth 20000 in
theorem gX0_cutSum_X0_firstSum : GoodIn wsX0_cutSum (wsV RX0 86 RX0 yX0_firstSum wsX0_firstSum) := goodIn_app (goodIn_of _ (by decide +kernel)) ggX0_cutSum_X0_firstSum
theorem dX0_cutSum_0 : decode cX0_cutSum 0 = .ok (.aload_n 0, 1) := by decide +kernel
theorem dX0_cutSum_1 : decode cX0_cutSum 1 = .ok (.iload_n 3, 1) := by decide +kernel
theorem dX0_cutSum_2 : decode cX0_cutSum 2 = .ok (.aload_n 0, 1) := by decide +kernel
theorem dX0_cutSum_3 : decode cX0_cutSum 3 = .ok (.getfield 9, 3) := by decide +kernel
theorem dX0_cutSum_6 : decode cX0_cutSum 6 = .ok (.iload_n 1, 1) := by decide +kernel
theorem dX0_cutSum_7 : decode cX0_cutSum 7 = .ok (.iaload, 1) := by decide +kernel
theorem dX0_cutSum_8 : decode cX0_cutSum 8 = .ok (.aload_n 0, 1) := by decide +kernel
theorem dX0_cutSum_9 : decode cX0_cutSum 9 = .ok (.getfield 9, 3) := by decide +kernel
theorem dX0_cutSum_12 : decode cX0_cutSum 12 = .ok (.iload_n 2, 1) := by decide +kernel
theorem dX0_cutSum_13 : decode cX0_cutSum 13 = .ok (.iaload, 1) := by decide +kernel
theorem dX0_cutSum_14 : decode cX0_cutSum 14 = .ok (.invokestatic 78, 3) := by decide +kernel
theorem dX0_cutSum_17 : decode cX0_cutSum 17 = .ok (.aload_n 0, 1) := by decide +kernel
theorem dX0_cutSum_18 : decode cX0_cutSum 18 = .ok (.getfield 15, 3) := by decide +kernel
theorem dX0_cutSum_21 : decode cX0_cutSum 21 = .ok (.iload_n 1, 1) := by decide +kernel
theorem dX0_cutSum_22 : decode cX0_cutSum 22 = .ok (.iaload, 1) := by decide +kernel
theorem dX0_cutSum_23 : decode cX0_cutSum 23 = .ok (.aload_n 0, 1) := by decide +kernel
theorem dX0_cutSum_24 : decode cX0_cutSum 24 = .ok (.getfield 15, 3) := by decide +kernel
theorem dX0_cutSum_27 : decode cX0_cutSum 27 = .ok (.iload_n 2, 1) := by decide +kernel
theorem dX0_cutSum_28 : decode cX0_cutSum 28 = .ok (.iaload, 1) := by decide +kernel
theorem dX0_cutSum_29 : decode cX0_cutSum 29 = .ok (.invokestatic 78, 3) := by decide +kernel
theorem dX0_cutSum_32 : decode cX0_cutSum 32 = .ok (.invokevirtual 83, 3) := by decide +kernel
theorem dX0_cutSum_35 : decode cX0_cutSum 35 = .ok (.aload_n 0, 1) := by decide +kernel
theorem dX0_cutSum_36 : decode cX0_cutSum 36 = .ok (.getfield 24, 3) := by decide +kernel
theorem dX0_cutSum_39 : decode cX0_cutSum 39 = .ok (.ifCond .ne 46, 3) := by decide +kernel
theorem dX0_cutSum_42 : decode cX0_cutSum 42 = .ok (.aload_n 0, 1) := by decide +kernel
theorem dX0_cutSum_43 : decode cX0_cutSum 43 = .ok (.iload_n 1, 1) := by decide +kernel
theorem dX0_cutSum_44 : decode cX0_cutSum 44 = .ok (.aload_n 0, 1) := by decide +kernel
theorem dX0_cutSum_45 : decode cX0_cutSum 45 = .ok (.iload_n 1, 1) := by decide +kernel
theorem dX0_cutSum_46 : decode cX0_cutSum 46 = .ok (.aload_n 0, 1) := by decide +kernel
theorem dX0_cutSum_47 : decode cX0_cutSum 47 = .ok (.getfield 15, 3) := by decide +kernel
theorem dX0_cutSum_50 : decode cX0_cutSum 50 = .ok (.iload_n 2, 1) := by decide +kernel
theorem dX0_cutSum_51 : decode cX0_cutSum 51 = .ok (.iaload, 1) := by decide +kernel
theorem dX0_cutSum_52 : decode cX0_cutSum 52 = .ok (.aload_n 0, 1) := by decide +kernel
theorem dX0_cutSum_53 : decode cX0_cutSum 53 = .ok (.getfield 9, 3) := by decide +kernel
theorem dX0_cutSum_56 : decode cX0_cutSum 56 = .ok (.iload_n 3, 1) := by decide +kernel
theorem dX0_cutSum_57 : decode cX0_cutSum 57 = .ok (.iaload, 1) := by decide +kernel
theorem dX0_cutSum_58 : decode cX0_cutSum 58 = .ok (.invokevirtual 86, 3) := by decide +kernel
theorem dX0_cutSum_61 : decode cX0_cutSum 61 = .ok (.aload_n 0, 1) := by decide +kernel
theorem dX0_cutSum_62 : decode cX0_cutSum 62 = .ok (.iload_n 1, 1) := by decide +kernel
theorem dX0_cutSum_63 : decode cX0_cutSum 63 = .ok (.aload_n 0, 1) := by decide +kernel
theorem dX0_cutSum_64 : decode cX0_cutSum 64 = .ok (.getfield 9, 3) := by decide +kernel
theorem dX0_cutSum_67 : decode cX0_cutSum 67 = .ok (.iload_n 2, 1) := by decide +kernel
theorem dX0_cutSum_68 : decode cX0_cutSum 68 = .ok (.iaload, 1) := by decide +kernel
theorem dX0_cutSum_69 : decode cX0_cutSum 69 = .ok (.aload_n 0, 1) := by decide +kernel
theorem dX0_cutSum_70 : decode cX0_cutSum 70 = .ok (.getfield 15, 3) := by decide +kernel
theorem dX0_cutSum_73 : decode cX0_cutSum 73 = .ok (.iload_n 3, 1) := by decide +kernel
theorem dX0_cutSum_74 : decode cX0_cutSum 74 = .ok (.iaload, 1) := by decide +kernel
theorem dX0_cutSum_75 : decode cX0_cutSum 75 = .ok (.iconst 1, 1) := by decide +kernel
theorem dX0_cutSum_76 : decode cX0_cutSum 76 = .ok (.iadd, 1) := by decide +kernel
theorem dX0_cutSum_77 : decode cX0_cutSum 77 = .ok (.invokevirtual 86, 3) := by decide +kernel
theorem dX0_cutSum_80 : decode cX0_cutSum 80 = .ok (.iconst 1, 1) := by decide +kernel
theorem dX0_cutSum_81 : decode cX0_cutSum 81 = .ok (.isub, 1) := by decide +kernel
theorem dX0_cutSum_82 : decode cX0_cutSum 82 = .ok (.invokevirtual 83, 3) := by decide +kernel
theorem dX0_cutSum_85 : decode cX0_cutSum 85 = .ok (.aload_n 0, 1) := by decide +kernel
theorem dX0_cutSum_86 : decode cX0_cutSum 86 = .ok (.getfield 24, 3) := by decide +kernel
theorem dX0_cutSum_89 : decode cX0_cutSum 89 = .ok (.ifCond .ne 46, 3) := by decide +kernel
theorem dX0_cutSum_92 : decode cX0_cutSum 92 = .ok (.aload_n 0, 1) := by decide +kernel
theorem dX0_cutSum_93 : decode cX0_cutSum 93 = .ok (.iload_n 2, 1) := by decide +kernel
theorem dX0_cutSum_94 : decode cX0_cutSum 94 = .ok (.aload_n 0, 1) := by decide +kernel
theorem dX0_cutSum_95 : decode cX0_cutSum 95 = .ok (.iload_n 2, 1) := by decide +kernel
theorem dX0_cutSum_96 : decode cX0_cutSum 96 = .ok (.aload_n 0, 1) := by decide +kernel
theorem dX0_cutSum_97 : decode cX0_cutSum 97 = .ok (.getfield 15, 3) := by decide +kernel
theorem dX0_cutSum_100 : decode cX0_cutSum 100 = .ok (.iload_n 1, 1) := by decide +kernel
theorem dX0_cutSum_101 : decode cX0_cutSum 101 = .ok (.iaload, 1) := by decide +kernel
theorem dX0_cutSum_102 : decode cX0_cutSum 102 = .ok (.aload_n 0, 1) := by decide +kernel
theorem dX0_cutSum_103 : decode cX0_cutSum 103 = .ok (.getfield 9, 3) := by decide +kernel
theorem dX0_cutSum_106 : decode cX0_cutSum 106 = .ok (.iload_n 3, 1) := by decide +kernel
theorem dX0_cutSum_107 : decode cX0_cutSum 107 = .ok (.iaload, 1) := by decide +kernel
theorem dX0_cutSum_108 : decode cX0_cutSum 108 = .ok (.invokevirtual 86, 3) := by decide +kernel
theorem dX0_cutSum_111 : decode cX0_cutSum 111 = .ok (.aload_n 0, 1) := by decide +kernel
theorem dX0_cutSum_112 : decode cX0_cutSum 112 = .ok (.iload_n 2, 1) := by decide +kernel
theorem dX0_cutSum_113 : decode cX0_cutSum 113 = .ok (.aload_n 0, 1) := by decide +kernel
theorem dX0_cutSum_114 : decode cX0_cutSum 114 = .ok (.getfield 9, 3) := by decide +kernel
theorem dX0_cutSum_117 : decode cX0_cutSum 117 = .ok (.iload_n 1, 1) := by decide +kernel
theorem dX0_cutSum_118 : decode cX0_cutSum 118 = .ok (.iaload, 1) := by decide +kernel
theorem dX0_cutSum_119 : decode cX0_cutSum 119 = .ok (.aload_n 0, 1) := by decide +kernel
theorem dX0_cutSum_120 : decode cX0_cutSum 120 = .ok (.getfield 15, 3) := by decide +kernel
theorem dX0_cutSum_123 : decode cX0_cutSum 123 = .ok (.iload_n 3, 1) := by decide +kernel
theorem dX0_cutSum_124 : decode cX0_cutSum 124 = .ok (.iaload, 1) := by decide +kernel
theorem dX0_cutSum_125 : decode cX0_cutSum 125 = .ok (.iconst 1, 1) := by decide +kernel
theorem dX0_cutSum_126 : decode cX0_cutSum 126 = .ok (.iadd, 1) := by decide +kernel
theorem dX0_cutSum_127 : decode cX0_cutSum 127 = .ok (.invokevirtual 86, 3) := by decide +kernel
theorem dX0_cutSum_130 : decode cX0_cutSum 130 = .ok (.iconst 1, 1) := by decide +kernel
theorem dX0_cutSum_131 : decode cX0_cutSum 131 = .ok (.isub, 1) := by decide +kernel
theorem dX0_cutSum_132 : decode cX0_cutSum 132 = .ok (.invokevirtual 83, 3) := by decide +kernel
theorem dX0_cutSum_135 : decode cX0_cutSum 135 = .ok (.return_, 1) := by decide +kernel
set_option maxRecDepth 20000 in
theorem ggX0_firstSum_X1_sum : GoodIn wsX0_firstSum wsX1_sum := goodIn_r _ [6, 7, 8, 9, 10, 11, 12, 5, 13, 14, 15, 16, 17, 18, 19, 20, 21, 22, 23, 24, 25, 26, 27, 28, 29, 30, 31, 32, 33, 34] (by decide +kernel) (by decide +kernel)
set_option maxRecDepth 20000 in
theorem gX0_firstSum_X1_sum : GoodIn wsX0_firstSum (va_wsS RX0 78 yX1_sum wsX1_sum) := goodIn_app (goodIn_of _ (by decide +kernel)) ggX0_firstSum_X1_sum
set_option maxRecDepth 20000 in
theorem ggX0_firstSum_X4_middle : GoodIn wsX0_firstSum wsX4_middle := goodIn_r _ [37] (by decide +kernel) (by decide +kernel)
set_option maxRecDepth 20000 in
theorem gX0_firstSum_X4_middle : GoodIn wsX0_firstSum (va_wsS RX0 90 yX4_middle wsX4_middle) := goodIn_app (goodIn_of _ (by decide +kernel)) ggX0_firstSum_X4_middle
theorem dX0_firstSum_0 : decode cX0_firstSum 0 = .ok (.aload_n 0, 1) := by decide +kernel
theorem dX0_firstSum_1 : decode cX0_firstSum 1 = .ok (.getfield 9, 3) := by decide +kernel
theorem dX0_firstSum_4 : decode cX0_firstSum 4 = .ok (.iload_n 1, 1) := by decide +kernel
theorem dX0_firstSum_5 : decode cX0_firstSum 5 = .ok (.iaload, 1) := by decide +kernel
theorem dX0_firstSum_6 : decode cX0_firstSum 6 = .ok (.istore 4, 2) := by decide +kernel
theorem dX0_firstSum_8 : decode cX0_firstSum 8 = .ok (.aload_n 0, 1) := by decide +kernel
theorem dX0_firstSum_9 : decode cX0_firstSum 9 = .ok (.getfield 15, 3) := by decide +kernel
theorem dX0_firstSum_12 : decode cX0_firstSum 12 = .ok (.iload_n 1, 1) := by decide +kernel
theorem dX0_firstSum_13 : decode cX0_firstSum 13 = .ok (.iaload, 1) := by decide +kernel
theorem dX0_firstSum_14 : decode cX0_firstSum 14 = .ok (.istore 5, 2) := by decide +kernel
theorem dX0_firstSum_16 : decode cX0_firstSum 16 = .ok (.iload 4, 2) := by decide +kernel
theorem dX0_firstSum_18 : decode cX0_firstSum 18 = .ok (.iload_n 2, 1) := by decide +kernel
theorem dX0_firstSum_19 : decode cX0_firstSum 19 = .ok (.invokestatic 78, 3) := by decide +kernel
theorem dX0_firstSum_22 : decode cX0_firstSum 22 = .ok (.iload_n 3, 1) := by decide +kernel
theorem dX0_firstSum_23 : decode cX0_firstSum 23 = .ok (.if_icmp .lt 6, 3) := by decide +kernel
theorem dX0_firstSum_26 : decode cX0_firstSum 26 = .ok (.iload 4, 2) := by decide +kernel
theorem dX0_firstSum_28 : decode cX0_firstSum 28 = .ok (.ireturn, 1) := by decide +kernel
theorem dX0_firstSum_29 : decode cX0_firstSum 29 = .ok (.iload 5, 2) := by decide +kernel
theorem dX0_firstSum_31 : decode cX0_firstSum 31 = .ok (.iload_n 2, 1) := by decide +kernel
theorem dX0_firstSum_32 : decode cX0_firstSum 32 = .ok (.invokestatic 78, 3) := by decide +kernel
theorem dX0_firstSum_35 : decode cX0_firstSum 35 = .ok (.iload_n 3, 1) := by decide +kernel
theorem dX0_firstSum_36 : decode cX0_firstSum 36 = .ok (.if_icmp .ge 8, 3) := by decide +kernel
theorem dX0_firstSum_39 : decode cX0_firstSum 39 = .ok (.iload 5, 2) := by decide +kernel
theorem dX0_firstSum_41 : decode cX0_firstSum 41 = .ok (.iconst 1, 1) := by decide +kernel
theorem dX0_firstSum_42 : decode cX0_firstSum 42 = .ok (.iadd, 1) := by decide +kernel
theorem dX0_firstSum_43 : decode cX0_firstSum 43 = .ok (.ireturn, 1) := by decide +kernel
theorem dX0_firstSum_44 : decode cX0_firstSum 44 = .ok (.iconst 0, 1) := by decide +kernel
theorem dX0_firstSum_45 : decode cX0_firstSum 45 = .ok (.istore 6, 2) := by decide +kernel
theorem dX0_firstSum_47 : decode cX0_firstSum 47 = .ok (.iload 6, 2) := by decide +kernel
theorem dX0_firstSum_49 : decode cX0_firstSum 49 = .ok (.bipush 34, 2) := by decide +kernel
theorem dX0_firstSum_51 : decode cX0_firstSum 51 = .ok (.if_icmp .ge 51, 3) := by decide +kernel
theorem dX0_firstSum_54 : decode cX0_firstSum 54 = .ok (.iload 5, 2) := by decide +kernel
theorem dX0_firstSum_56 : decode cX0_firstSum 56 = .ok (.i2l, 1) := by decide +kernel
theorem dX0_firstSum_57 : decode cX0_firstSum 57 = .ok (.iload 4, 2) := by decide +kernel
theorem dX0_firstSum_59 : decode cX0_firstSum 59 = .ok (.i2l, 1) := by decide +kernel
theorem dX0_firstSum_60 : decode cX0_firstSum 60 = .ok (.lsub, 1) := by decide +kernel
theorem dX0_firstSum_61 : decode cX0_firstSum 61 = .ok (.lconst 1, 1) := by decide +kernel
theorem dX0_firstSum_62 : decode cX0_firstSum 62 = .ok (.lcmp, 1) := by decide +kernel
theorem dX0_firstSum_63 : decode cX0_firstSum 63 = .ok (.ifCond .le 39, 3) := by decide +kernel
theorem dX0_firstSum_66 : decode cX0_firstSum 66 = .ok (.iload 4, 2) := by decide +kernel
theorem dX0_firstSum_68 : decode cX0_firstSum 68 = .ok (.iload 5, 2) := by decide +kernel
theorem dX0_firstSum_70 : decode cX0_firstSum 70 = .ok (.invokestatic 90, 3) := by decide +kernel
theorem dX0_firstSum_73 : decode cX0_firstSum 73 = .ok (.istore 7, 2) := by decide +kernel
theorem dX0_firstSum_75 : decode cX0_firstSum 75 = .ok (.iload 7, 2) := by decide +kernel
theorem dX0_firstSum_77 : decode cX0_firstSum 77 = .ok (.iload_n 2, 1) := by decide +kernel
theorem dX0_firstSum_78 : decode cX0_firstSum 78 = .ok (.invokestatic 78, 3) := by decide +kernel
theorem dX0_firstSum_81 : decode cX0_firstSum 81 = .ok (.iload_n 3, 1) := by decide +kernel
theorem dX0_firstSum_82 : decode cX0_firstSum 82 = .ok (.if_icmp .lt 10, 3) := by decide +kernel
theorem dX0_firstSum_85 : decode cX0_firstSum 85 = .ok (.iload 7, 2) := by decide +kernel
theorem dX0_firstSum_87 : decode cX0_firstSum 87 = .ok (.istore 5, 2) := by decide +kernel
theorem dX0_firstSum_89 : decode cX0_firstSum 89 = .ok (.goto 7, 3) := by decide +kernel
theorem dX0_firstSum_92 : decode cX0_firstSum 92 = .ok (.iload 7, 2) := by decide +kernel
theorem dX0_firstSum_94 : decode cX0_firstSum 94 = .ok (.istore 4, 2) := by decide +kernel
theorem dX0_firstSum_96 : decode cX0_firstSum 96 = .ok (.iinc 6 1, 3) := by decide +kernel
theorem dX0_firstSum_99 : decode cX0_firstSum 99 = .ok (.goto (-52), 3) := by decide +kernel
theorem dX0_firstSum_102 : decode cX0_firstSum 102 = .ok (.iload 5, 2) := by decide +kernel
theorem dX0_firstSum_104 : decode cX0_firstSum 104 = .ok (.ireturn, 1) := by decide +kernel
set_option maxRecDepth 20000 in
theorem ggX0_cutProduct_X1_product : GoodIn wsX0_cutProduct wsX1_product := goodIn_r _ [13, 14, 15, 16, 17, 18, 19, 12, 20, 21, 22, 23, 24, 25, 8, 5, 9, 26, 27, 28, 29, 30, 31, 32, 33, 34, 35, 36, 37, 38] (by decide +kernel) (by decide +kernel)
set_option maxRecDepth 20000 in
theorem gX0_cutProduct_X1_product : GoodIn wsX0_cutProduct (va_wsS RX0 95 yX1_product wsX1_product) := goodIn_app (goodIn_of _ (by decide +kernel)) ggX0_cutProduct_X1_product
set_option maxRecDepth 20000 in
theorem ggX0_cutProduct_X0_leave : GoodIn wsX0_cutProduct wsX0_leave := goodIn_r _ [43, 1, 7, 8, 5, 9, 2, 3, 4, 6, 44, 45, 46, 47, 48, 49] (by decide +kernel) (by decide +kernel)
set_option maxRecDepth 20000 in
theorem gX0_cutProduct_X0_leave : GoodIn wsX0_cutProduct (wsV RX0 83 RX0 yX0_leave wsX0_leave) := goodIn_app (goodIn_of _ (by decide +kernel)) ggX0_cutProduct_X0_leave
theorem dX0_cutProduct_0 : decode cX0_cutProduct 0 = .ok (.aload_n 0, 1) := by decide +kernel
theorem dX0_cutProduct_1 : decode cX0_cutProduct 1 = .ok (.getfield 9, 3) := by decide +kernel
theorem dX0_cutProduct_4 : decode cX0_cutProduct 4 = .ok (.iload_n 1, 1) := by decide +kernel
theorem dX0_cutProduct_5 : decode cX0_cutProduct 5 = .ok (.iaload, 1) := by decide +kernel
theorem dX0_cutProduct_6 : decode cX0_cutProduct 6 = .ok (.aload_n 0, 1) := by decide +kernel
theorem dX0_cutProduct_7 : decode cX0_cutProduct 7 = .ok (.getfield 9, 3) := by decide +kernel
theorem dX0_cutProduct_10 : decode cX0_cutProduct 10 = .ok (.iload_n 2, 1) := by decide +kernel
theorem dX0_cutProduct_11 : decode cX0_cutProduct 11 = .ok (.iaload, 1) := by decide +kernel
theorem dX0_cutProduct_12 : decode cX0_cutProduct 12 = .ok (.invokestatic 95, 3) := by decide +kernel
theorem dX0_cutProduct_15 : decode cX0_cutProduct 15 = .ok (.istore 4, 2) := by decide +kernel
theorem dX0_cutProduct_17 : decode cX0_cutProduct 17 = .ok (.aload_n 0, 1) := by decide +kernel
theorem dX0_cutProduct_18 : decode cX0_cutProduct 18 = .ok (.getfield 9, 3) := by decide +kernel
theorem dX0_cutProduct_21 : decode cX0_cutProduct 21 = .ok (.iload_n 1, 1) := by decide +kernel
theorem dX0_cutProduct_22 : decode cX0_cutProduct 22 = .ok (.iaload, 1) := by decide +kernel
theorem dX0_cutProduct_23 : decode cX0_cutProduct 23 = .ok (.aload_n 0, 1) := by decide +kernel
theorem dX0_cutProduct_24 : decode cX0_cutProduct 24 = .ok (.getfield 15, 3) := by decide +kernel
theorem dX0_cutProduct_27 : decode cX0_cutProduct 27 = .ok (.iload_n 2, 1) := by decide +kernel
theorem dX0_cutProduct_28 : decode cX0_cutProduct 28 = .ok (.iaload, 1) := by decide +kernel
theorem dX0_cutProduct_29 : decode cX0_cutProduct 29 = .ok (.invokestatic 95, 3) := by decide +kernel
theorem dX0_cutProduct_32 : decode cX0_cutProduct 32 = .ok (.istore 5, 2) := by decide +kernel
theorem dX0_cutProduct_34 : decode cX0_cutProduct 34 = .ok (.aload_n 0, 1) := by decide +kernel
theorem dX0_cutProduct_35 : decode cX0_cutProduct 35 = .ok (.getfield 15, 3) := by decide +kernel
theorem dX0_cutProduct_38 : decode cX0_cutProduct 38 = .ok (.iload_n 1, 1) := by decide +kernel
theorem dX0_cutProduct_39 : decode cX0_cutProduct 39 = .ok (.iaload, 1) := by decide +kernel
theorem dX0_cutProduct_40 : decode cX0_cutProduct 40 = .ok (.aload_n 0, 1) := by decide +kernel
theorem dX0_cutProduct_41 : decode cX0_cutProduct 41 = .ok (.getfield 9, 3) := by decide +kernel
theorem dX0_cutProduct_44 : decode cX0_cutProduct 44 = .ok (.iload_n 2, 1) := by decide +kernel
theorem dX0_cutProduct_45 : decode cX0_cutProduct 45 = .ok (.iaload, 1) := by decide +kernel
theorem dX0_cutProduct_46 : decode cX0_cutProduct 46 = .ok (.invokestatic 95, 3) := by decide +kernel
theorem dX0_cutProduct_49 : decode cX0_cutProduct 49 = .ok (.istore 6, 2) := by decide +kernel
theorem dX0_cutProduct_51 : decode cX0_cutProduct 51 = .ok (.aload_n 0, 1) := by decide +kernel
theorem dX0_cutProduct_52 : decode cX0_cutProduct 52 = .ok (.getfield 15, 3) := by decide +kernel
theorem dX0_cutProduct_55 : decode cX0_cutProduct 55 = .ok (.iload_n 1, 1) := by decide +kernel
theorem dX0_cutProduct_56 : decode cX0_cutProduct 56 = .ok (.iaload, 1) := by decide +kernel
theorem dX0_cutProduct_57 : decode cX0_cutProduct 57 = .ok (.aload_n 0, 1) := by decide +kernel
theorem dX0_cutProduct_58 : decode cX0_cutProduct 58 = .ok (.getfield 15, 3) := by decide +kernel
theorem dX0_cutProduct_61 : decode cX0_cutProduct 61 = .ok (.iload_n 2, 1) := by decide +kernel
theorem dX0_cutProduct_62 : decode cX0_cutProduct 62 = .ok (.iaload, 1) := by decide +kernel
theorem dX0_cutProduct_63 : decode cX0_cutProduct 63 = .ok (.invokestatic 95, 3) := by decide +kernel
theorem dX0_cutProduct_66 : decode cX0_cutProduct 66 = .ok (.istore 7, 2) := by decide +kernel
theorem dX0_cutProduct_68 : decode cX0_cutProduct 68 = .ok (.aload_n 0, 1) := by decide +kernel
theorem dX0_cutProduct_69 : decode cX0_cutProduct 69 = .ok (.iload_n 3, 1) := by decide +kernel
theorem dX0_cutProduct_70 : decode cX0_cutProduct 70 = .ok (.iload 4, 2) := by decide +kernel
theorem dX0_cutProduct_72 : decode cX0_cutProduct 72 = .ok (.iload 5, 2) := by decide +kernel
theorem dX0_cutProduct_74 : decode cX0_cutProduct 74 = .ok (.invokestatic 75, 3) := by decide +kernel
theorem dX0_cutProduct_77 : decode cX0_cutProduct 77 = .ok (.iload 6, 2) := by decide +kernel
theorem dX0_cutProduct_79 : decode cX0_cutProduct 79 = .ok (.iload 7, 2) := by decide +kernel
theorem dX0_cutProduct_81 : decode cX0_cutProduct 81 = .ok (.invokestatic 75, 3) := by decide +kernel
theorem dX0_cutProduct_84 : decode cX0_cutProduct 84 = .ok (.invokestatic 75, 3) := by decide +kernel
theorem dX0_cutProduct_87 : decode cX0_cutProduct 87 = .ok (.iload 4, 2) := by decide +kernel
theorem dX0_cutProduct_89 : decode cX0_cutProduct 89 = .ok (.iload 5, 2) := by decide +kernel
theorem dX0_cutProduct_91 : decode cX0_cutProduct 91 = .ok (.invokestatic 69, 3) := by decide +kernel
theorem dX0_cutProduct_94 : decode cX0_cutProduct 94 = .ok (.iload 6, 2) := by decide +kernel
theorem dX0_cutProduct_96 : decode cX0_cutProduct 96 = .ok (.iload 7, 2) := by decide +kernel
theorem dX0_cutProduct_98 : decode cX0_cutProduct 98 = .ok (.invokestatic 69, 3) := by decide +kernel
theorem dX0_cutProduct_101 : decode cX0_cutProduct 101 = .ok (.invokestatic 69, 3) := by decide +kernel
theorem dX0_cutProduct_104 : decode cX0_cutProduct 104 = .ok (.invokevirtual 83, 3) := by decide +kernel
theorem dX0_cutProduct_107 : decode cX0_cutProduct 107 = .ok (.return_, 1) := by decide +kernel
set_option maxRecDepth 20000 in
theorem ggX0_cutFactor_X0_firstProduct : GoodIn wsX0_cutFactor wsX0_firstProduct := goodIn_r _ [15, 3, 2, 16, 17, 18, 19, 20, 21, 22, 23, 24, 25, 26, 27, 28, 29, 30, 31, 5, 6, 7, 32, 33, 34, 35, 36, 37, 38, 39, 40, 41, 42, 43, 44, 45, 46, 47, 53, 54, 55, 56] (by decide +kernel) (by decide +kernel)
set_option maxRecDepth 20000 in
theorem gX0_cutFactor_X0_firstProduct : GoodIn wsX0_cutFactor (wsV RX0 98 RX0 yX0_firstProduct wsX0_firstProduct) := goodIn_app (goodIn_of _ (by decide +kernel)) ggX0_cutFactor_X0_firstProduct
set_option maxRecDepth 20000 in
theorem ggX0_cutFactor_X0_leave : GoodIn wsX0_cutFactor wsX0_leave := goodIn_r _ [51, 3, 4, 5, 6, 7, 2, 8, 9, 10, 1, 52, 53, 54, 55, 56] (by decide +kernel) (by decide +kernel)
set_option maxRecDepth 20000 in
theorem gX0_cutFactor_X0_leave : GoodIn wsX0_cutFactor (wsV RX0 83 RX0 yX0_leave wsX0_leave) := goodIn_app (goodIn_of _ (by decide +kernel)) ggX0_cutFactor_X0_leave
theorem dX0_cutFactor_0 : decode cX0_cutFactor 0 = .ok (.aload_n 0, 1) := by decide +kernel
theorem dX0_cutFactor_1 : decode cX0_cutFactor 1 = .ok (.getfield 24, 3) := by decide +kernel
theorem dX0_cutFactor_4 : decode cX0_cutFactor 4 = .ok (.ifCond .eq 4, 3) := by decide +kernel
theorem dX0_cutFactor_7 : decode cX0_cutFactor 7 = .ok (.return_, 1) := by decide +kernel
theorem dX0_cutFactor_8 : decode cX0_cutFactor 8 = .ok (.aload_n 0, 1) := by decide +kernel
theorem dX0_cutFactor_9 : decode cX0_cutFactor 9 = .ok (.getfield 15, 3) := by decide +kernel
theorem dX0_cutFactor_12 : decode cX0_cutFactor 12 = .ok (.iload_n 1, 1) := by decide +kernel
theorem dX0_cutFactor_13 : decode cX0_cutFactor 13 = .ok (.iaload, 1) := by decide +kernel
theorem dX0_cutFactor_14 : decode cX0_cutFactor 14 = .ok (.iconst 1, 1) := by decide +kernel
theorem dX0_cutFactor_15 : decode cX0_cutFactor 15 = .ok (.iadd, 1) := by decide +kernel
theorem dX0_cutFactor_16 : decode cX0_cutFactor 16 = .ok (.istore 4, 2) := by decide +kernel
theorem dX0_cutFactor_18 : decode cX0_cutFactor 18 = .ok (.aload_n 0, 1) := by decide +kernel
theorem dX0_cutFactor_19 : decode cX0_cutFactor 19 = .ok (.getfield 9, 3) := by decide +kernel
theorem dX0_cutFactor_22 : decode cX0_cutFactor 22 = .ok (.iload_n 1, 1) := by decide +kernel
theorem dX0_cutFactor_23 : decode cX0_cutFactor 23 = .ok (.iaload, 1) := by decide +kernel
theorem dX0_cutFactor_24 : decode cX0_cutFactor 24 = .ok (.iconst 1, 1) := by decide +kernel
theorem dX0_cutFactor_25 : decode cX0_cutFactor 25 = .ok (.isub, 1) := by decide +kernel
theorem dX0_cutFactor_26 : decode cX0_cutFactor 26 = .ok (.istore 5, 2) := by decide +kernel
theorem dX0_cutFactor_28 : decode cX0_cutFactor 28 = .ok (.iconst 0, 1) := by decide +kernel
theorem dX0_cutFactor_29 : decode cX0_cutFactor 29 = .ok (.istore 6, 2) := by decide +kernel
theorem dX0_cutFactor_31 : decode cX0_cutFactor 31 = .ok (.iload 6, 2) := by decide +kernel
theorem dX0_cutFactor_33 : decode cX0_cutFactor 33 = .ok (.iconst 1, 1) := by decide +kernel
theorem dX0_cutFactor_34 : decode cX0_cutFactor 34 = .ok (.if_icmp .gt 184, 3) := by decide +kernel
theorem dX0_cutFactor_37 : decode cX0_cutFactor 37 = .ok (.iload 6, 2) := by decide +kernel
theorem dX0_cutFactor_39 : decode cX0_cutFactor 39 = .ok (.iconst 1, 1) := by decide +kernel
theorem dX0_cutFactor_40 : decode cX0_cutFactor 40 = .ok (.if_icmp .ne 7, 3) := by decide +kernel
theorem dX0_cutFactor_43 : decode cX0_cutFactor 43 = .ok (.iconst 1, 1) := by decide +kernel
theorem dX0_cutFactor_44 : decode cX0_cutFactor 44 = .ok (.goto 4, 3) := by decide +kernel
theorem dX0_cutFactor_47 : decode cX0_cutFactor 47 = .ok (.iconst 0, 1) := by decide +kernel
theorem dX0_cutFactor_48 : decode cX0_cutFactor 48 = .ok (.istore 7, 2) := by decide +kernel
theorem dX0_cutFactor_50 : decode cX0_cutFactor 50 = .ok (.iload 7, 2) := by decide +kernel
theorem dX0_cutFactor_52 : decode cX0_cutFactor 52 = .ok (.ifCond .eq 14, 3) := by decide +kernel
theorem dX0_cutFactor_55 : decode cX0_cutFactor 55 = .ok (.iconst (-1), 1) := by decide +kernel
theorem dX0_cutFactor_56 : decode cX0_cutFactor 56 = .ok (.aload_n 0, 1) := by decide +kernel
theorem dX0_cutFactor_57 : decode cX0_cutFactor 57 = .ok (.getfield 15, 3) := by decide +kernel
theorem dX0_cutFactor_60 : decode cX0_cutFactor 60 = .ok (.iload_n 2, 1) := by decide +kernel
theorem dX0_cutFactor_61 : decode cX0_cutFactor 61 = .ok (.iaload, 1) := by decide +kernel
theorem dX0_cutFactor_62 : decode cX0_cutFactor 62 = .ok (.isub, 1) := by decide +kernel
theorem dX0_cutFactor_63 : decode cX0_cutFactor 63 = .ok (.goto 9, 3) := by decide +kernel
theorem dX0_cutFactor_66 : decode cX0_cutFactor 66 = .ok (.aload_n 0, 1) := by decide +kernel
theorem dX0_cutFactor_67 : decode cX0_cutFactor 67 = .ok (.getfield 9, 3) := by decide +kernel
theorem dX0_cutFactor_70 : decode cX0_cutFactor 70 = .ok (.iload_n 2, 1) := by decide +kernel
theorem dX0_cutFactor_71 : decode cX0_cutFactor 71 = .ok (.iaload, 1) := by decide +kernel
theorem dX0_cutFactor_72 : decode cX0_cutFactor 72 = .ok (.iconst 0, 1) := by decide +kernel
theorem dX0_cutFactor_73 : decode cX0_cutFactor 73 = .ok (.invokestatic 69, 3) := by decide +kernel
theorem dX0_cutFactor_76 : decode cX0_cutFactor 76 = .ok (.istore 8, 2) := by decide +kernel
theorem dX0_cutFactor_78 : decode cX0_cutFactor 78 = .ok (.iload 7, 2) := by decide +kernel
theorem dX0_cutFactor_80 : decode cX0_cutFactor 80 = .ok (.ifCond .eq 14, 3) := by decide +kernel
theorem dX0_cutFactor_83 : decode cX0_cutFactor 83 = .ok (.iconst (-1), 1) := by decide +kernel
theorem dX0_cutFactor_84 : decode cX0_cutFactor 84 = .ok (.aload_n 0, 1) := by decide +kernel
theorem dX0_cutFactor_85 : decode cX0_cutFactor 85 = .ok (.getfield 9, 3) := by decide +kernel
theorem dX0_cutFactor_88 : decode cX0_cutFactor 88 = .ok (.iload_n 2, 1) := by decide +kernel
theorem dX0_cutFactor_89 : decode cX0_cutFactor 89 = .ok (.iaload, 1) := by decide +kernel
theorem dX0_cutFactor_90 : decode cX0_cutFactor 90 = .ok (.isub, 1) := by decide +kernel
theorem dX0_cutFactor_91 : decode cX0_cutFactor 91 = .ok (.goto 9, 3) := by decide +kernel
theorem dX0_cutFactor_94 : decode cX0_cutFactor 94 = .ok (.aload_n 0, 1) := by decide +kernel
theorem dX0_cutFactor_95 : decode cX0_cutFactor 95 = .ok (.getfield 15, 3) := by decide +kernel
theorem dX0_cutFactor_98 : decode cX0_cutFactor 98 = .ok (.iload_n 2, 1) := by decide +kernel
theorem dX0_cutFactor_99 : decode cX0_cutFactor 99 = .ok (.iaload, 1) := by decide +kernel
theorem dX0_cutFactor_100 : decode cX0_cutFactor 100 = .ok (.istore 9, 2) := by decide +kernel
theorem dX0_cutFactor_102 : decode cX0_cutFactor 102 = .ok (.iload 8, 2) := by decide +kernel
theorem dX0_cutFactor_104 : decode cX0_cutFactor 104 = .ok (.iload 9, 2) := by decide +kernel
theorem dX0_cutFactor_106 : decode cX0_cutFactor 106 = .ok (.if_icmp .gt 106, 3) := by decide +kernel
theorem dX0_cutFactor_109 : decode cX0_cutFactor 109 = .ok (.iload 7, 2) := by decide +kernel
theorem dX0_cutFactor_111 : decode cX0_cutFactor 111 = .ok (.ifCond .eq 14, 3) := by decide +kernel
theorem dX0_cutFactor_114 : decode cX0_cutFactor 114 = .ok (.iconst (-1), 1) := by decide +kernel
theorem dX0_cutFactor_115 : decode cX0_cutFactor 115 = .ok (.aload_n 0, 1) := by decide +kernel
theorem dX0_cutFactor_116 : decode cX0_cutFactor 116 = .ok (.getfield 15, 3) := by decide +kernel
theorem dX0_cutFactor_119 : decode cX0_cutFactor 119 = .ok (.iload_n 3, 1) := by decide +kernel
theorem dX0_cutFactor_120 : decode cX0_cutFactor 120 = .ok (.iaload, 1) := by decide +kernel
theorem dX0_cutFactor_121 : decode cX0_cutFactor 121 = .ok (.isub, 1) := by decide +kernel
theorem dX0_cutFactor_122 : decode cX0_cutFactor 122 = .ok (.goto 9, 3) := by decide +kernel
theorem dX0_cutFactor_125 : decode cX0_cutFactor 125 = .ok (.aload_n 0, 1) := by decide +kernel
theorem dX0_cutFactor_126 : decode cX0_cutFactor 126 = .ok (.getfield 9, 3) := by decide +kernel
theorem dX0_cutFactor_129 : decode cX0_cutFactor 129 = .ok (.iload_n 3, 1) := by decide +kernel
theorem dX0_cutFactor_130 : decode cX0_cutFactor 130 = .ok (.iaload, 1) := by decide +kernel
theorem dX0_cutFactor_131 : decode cX0_cutFactor 131 = .ok (.istore 10, 2) := by decide +kernel
theorem dX0_cutFactor_133 : decode cX0_cutFactor 133 = .ok (.iload 7, 2) := by decide +kernel
theorem dX0_cutFactor_135 : decode cX0_cutFactor 135 = .ok (.ifCond .eq 14, 3) := by decide +kernel
theorem dX0_cutFactor_138 : decode cX0_cutFactor 138 = .ok (.iconst (-1), 1) := by decide +kernel
theorem dX0_cutFactor_139 : decode cX0_cutFactor 139 = .ok (.aload_n 0, 1) := by decide +kernel
theorem dX0_cutFactor_140 : decode cX0_cutFactor 140 = .ok (.getfield 9, 3) := by decide +kernel
theorem dX0_cutFactor_143 : decode cX0_cutFactor 143 = .ok (.iload_n 3, 1) := by decide +kernel
theorem dX0_cutFactor_144 : decode cX0_cutFactor 144 = .ok (.iaload, 1) := by decide +kernel
theorem dX0_cutFactor_145 : decode cX0_cutFactor 145 = .ok (.isub, 1) := by decide +kernel
theorem dX0_cutFactor_146 : decode cX0_cutFactor 146 = .ok (.goto 9, 3) := by decide +kernel
theorem dX0_cutFactor_149 : decode cX0_cutFactor 149 = .ok (.aload_n 0, 1) := by decide +kernel
theorem dX0_cutFactor_150 : decode cX0_cutFactor 150 = .ok (.getfield 15, 3) := by decide +kernel
theorem dX0_cutFactor_153 : decode cX0_cutFactor 153 = .ok (.iload_n 3, 1) := by decide +kernel
theorem dX0_cutFactor_154 : decode cX0_cutFactor 154 = .ok (.iaload, 1) := by decide +kernel
theorem dX0_cutFactor_155 : decode cX0_cutFactor 155 = .ok (.istore 11, 2) := by decide +kernel
theorem dX0_cutFactor_157 : decode cX0_cutFactor 157 = .ok (.aload_n 0, 1) := by decide +kernel
theorem dX0_cutFactor_158 : decode cX0_cutFactor 158 = .ok (.iload_n 1, 1) := by decide +kernel
theorem dX0_cutFactor_159 : decode cX0_cutFactor 159 = .ok (.iload 8, 2) := by decide +kernel
theorem dX0_cutFactor_161 : decode cX0_cutFactor 161 = .ok (.iload 9, 2) := by decide +kernel
theorem dX0_cutFactor_163 : decode cX0_cutFactor 163 = .ok (.iload 10, 2) := by decide +kernel
theorem dX0_cutFactor_165 : decode cX0_cutFactor 165 = .ok (.invokevirtual 98, 3) := by decide +kernel
theorem dX0_cutFactor_168 : decode cX0_cutFactor 168 = .ok (.istore 12, 2) := by decide +kernel
theorem dX0_cutFactor_170 : decode cX0_cutFactor 170 = .ok (.aload_n 0, 1) := by decide +kernel
theorem dX0_cutFactor_171 : decode cX0_cutFactor 171 = .ok (.iload_n 1, 1) := by decide +kernel
theorem dX0_cutFactor_172 : decode cX0_cutFactor 172 = .ok (.iload 9, 2) := by decide +kernel
theorem dX0_cutFactor_174 : decode cX0_cutFactor 174 = .ok (.iload 8, 2) := by decide +kernel
theorem dX0_cutFactor_176 : decode cX0_cutFactor 176 = .ok (.iload 11, 2) := by decide +kernel
theorem dX0_cutFactor_178 : decode cX0_cutFactor 178 = .ok (.iconst 1, 1) := by decide +kernel
theorem dX0_cutFactor_179 : decode cX0_cutFactor 179 = .ok (.iadd, 1) := by decide +kernel
theorem dX0_cutFactor_180 : decode cX0_cutFactor 180 = .ok (.invokevirtual 98, 3) := by decide +kernel
theorem dX0_cutFactor_183 : decode cX0_cutFactor 183 = .ok (.iconst 1, 1) := by decide +kernel
theorem dX0_cutFactor_184 : decode cX0_cutFactor 184 = .ok (.isub, 1) := by decide +kernel
theorem dX0_cutFactor_185 : decode cX0_cutFactor 185 = .ok (.istore 13, 2) := by decide +kernel
theorem dX0_cutFactor_187 : decode cX0_cutFactor 187 = .ok (.iload 12, 2) := by decide +kernel
theorem dX0_cutFactor_189 : decode cX0_cutFactor 189 = .ok (.iload 13, 2) := by decide +kernel
theorem dX0_cutFactor_191 : decode cX0_cutFactor 191 = .ok (.if_icmp .gt 21, 3) := by decide +kernel
theorem dX0_cutFactor_194 : decode cX0_cutFactor 194 = .ok (.iload 4, 2) := by decide +kernel
theorem dX0_cutFactor_196 : decode cX0_cutFactor 196 = .ok (.iload 12, 2) := by decide +kernel
theorem dX0_cutFactor_198 : decode cX0_cutFactor 198 = .ok (.invokestatic 75, 3) := by decide +kernel
theorem dX0_cutFactor_201 : decode cX0_cutFactor 201 = .ok (.istore 4, 2) := by decide +kernel
theorem dX0_cutFactor_203 : decode cX0_cutFactor 203 = .ok (.iload 5, 2) := by decide +kernel
theorem dX0_cutFactor_205 : decode cX0_cutFactor 205 = .ok (.iload 13, 2) := by decide +kernel
theorem dX0_cutFactor_207 : decode cX0_cutFactor 207 = .ok (.invokestatic 69, 3) := by decide +kernel
theorem dX0_cutFactor_210 : decode cX0_cutFactor 210 = .ok (.istore 5, 2) := by decide +kernel
theorem dX0_cutFactor_212 : decode cX0_cutFactor 212 = .ok (.iinc 6 1, 3) := by decide +kernel
theorem dX0_cutFactor_215 : decode cX0_cutFactor 215 = .ok (.goto (-184), 3) := by decide +kernel
theorem dX0_cutFactor_218 : decode cX0_cutFactor 218 = .ok (.aload_n 0, 1) := by decide +kernel
theorem dX0_cutFactor_219 : decode cX0_cutFactor 219 = .ok (.iload_n 1, 1) := by decide +kernel
theorem dX0_cutFactor_220 : decode cX0_cutFactor 220 = .ok (.iload 4, 2) := by decide +kernel
theorem dX0_cutFactor_222 : decode cX0_cutFactor 222 = .ok (.iload 5, 2) := by decide +kernel
theorem dX0_cutFactor_224 : decode cX0_cutFactor 224 = .ok (.invokevirtual 83, 3) := by decide +kernel
theorem dX0_cutFactor_227 : decode cX0_cutFactor 227 = .ok (.return_, 1) := by decide +kernel
set_option maxRecDepth 20000 in
theorem ggX0_firstProduct_X1_product : GoodIn wsX0_firstProduct wsX1_product := goodIn_r _ [6, 7, 8, 9, 10, 11, 12, 5, 13, 14, 15, 16, 17, 18, 19, 20, 21, 22, 23, 24, 25, 26, 27, 28, 29, 30, 31, 32, 33, 34] (by decide +kernel) (by decide +kernel)
set_option maxRecDepth 20000 in
theorem gX0_firstProduct_X1_product : GoodIn wsX0_firstProduct (va_wsS RX0 95 yX1_product wsX1_product) := goodIn_app (goodIn_of _ (by decide +kernel)) ggX0_firstProduct_X1_product
set_option maxRecDepth 20000 in
theorem ggX0_firstProduct_X4_middle : GoodIn wsX0_firstProduct wsX4_middle := goodIn_r _ [37] (by decide +kernel) (by decide +kernel)
set_option maxRecDepth 20000 in
theorem gX0_firstProduct_X4_middle : GoodIn wsX0_firstProduct (va_wsS RX0 90 yX4_middle wsX4_middle) := goodIn_app (goodIn_of _ (by decide +kernel)) ggX0_firstProduct_X4_middle
theorem dX0_firstProduct_0 : decode cX0_firstProduct 0 = .ok (.aload_n 0, 1) := by decide +kernel
theorem dX0_firstProduct_1 : decode cX0_firstProduct 1 = .ok (.getfield 9, 3) := by decide +kernel
theorem dX0_firstProduct_4 : decode cX0_firstProduct 4 = .ok (.iload_n 1, 1) := by decide +kernel
theorem dX0_firstProduct_5 : decode cX0_firstProduct 5 = .ok (.iaload, 1) := by decide +kernel
theorem dX0_firstProduct_6 : decode cX0_firstProduct 6 = .ok (.istore 5, 2) := by decide +kernel
theorem dX0_firstProduct_8 : decode cX0_firstProduct 8 = .ok (.aload_n 0, 1) := by decide +kernel
theorem dX0_firstProduct_9 : decode cX0_firstProduct 9 = .ok (.getfield 15, 3) := by decide +kernel
theorem dX0_firstProduct_12 : decode cX0_firstProduct 12 = .ok (.iload_n 1, 1) := by decide +kernel
theorem dX0_firstProduct_13 : decode cX0_firstProduct 13 = .ok (.iaload, 1) := by decide +kernel
theorem dX0_firstProduct_14 : decode cX0_firstProduct 14 = .ok (.istore 6, 2) := by decide +kernel
theorem dX0_firstProduct_16 : decode cX0_firstProduct 16 = .ok (.iload 5, 2) := by decide +kernel
theorem dX0_firstProduct_18 : decode cX0_firstProduct 18 = .ok (.iload 5, 2) := by decide +kernel
theorem dX0_firstProduct_20 : decode cX0_firstProduct 20 = .ok (.ifCond .ge 7, 3) := by decide +kernel
theorem dX0_firstProduct_23 : decode cX0_firstProduct 23 = .ok (.iload_n 2, 1) := by decide +kernel
theorem dX0_firstProduct_24 : decode cX0_firstProduct 24 = .ok (.goto 4, 3) := by decide +kernel
theorem dX0_firstProduct_27 : decode cX0_firstProduct 27 = .ok (.iload_n 3, 1) := by decide +kernel
theorem dX0_firstProduct_28 : decode cX0_firstProduct 28 = .ok (.invokestatic 95, 3) := by decide +kernel
theorem dX0_firstProduct_31 : decode cX0_firstProduct 31 = .ok (.iload 4, 2) := by decide +kernel
theorem dX0_firstProduct_33 : decode cX0_firstProduct 33 = .ok (.if_icmp .lt 6, 3) := by decide +kernel
theorem dX0_firstProduct_36 : decode cX0_firstProduct 36 = .ok (.iload 5, 2) := by decide +kernel
theorem dX0_firstProduct_38 : decode cX0_firstProduct 38 = .ok (.ireturn, 1) := by decide +kernel
theorem dX0_firstProduct_39 : decode cX0_firstProduct 39 = .ok (.iload 6, 2) := by decide +kernel
theorem dX0_firstProduct_41 : decode cX0_firstProduct 41 = .ok (.iload 6, 2) := by decide +kernel
theorem dX0_firstProduct_43 : decode cX0_firstProduct 43 = .ok (.ifCond .ge 7, 3) := by decide +kernel
theorem dX0_firstProduct_46 : decode cX0_firstProduct 46 = .ok (.iload_n 2, 1) := by decide +kernel
theorem dX0_firstProduct_47 : decode cX0_firstProduct 47 = .ok (.goto 4, 3) := by decide +kernel
theorem dX0_firstProduct_50 : decode cX0_firstProduct 50 = .ok (.iload_n 3, 1) := by decide +kernel
theorem dX0_firstProduct_51 : decode cX0_firstProduct 51 = .ok (.invokestatic 95, 3) := by decide +kernel
theorem dX0_firstProduct_54 : decode cX0_firstProduct 54 = .ok (.iload 4, 2) := by decide +kernel
theorem dX0_firstProduct_56 : decode cX0_firstProduct 56 = .ok (.if_icmp .ge 8, 3) := by decide +kernel
theorem dX0_firstProduct_59 : decode cX0_firstProduct 59 = .ok (.iload 6, 2) := by decide +kernel
theorem dX0_firstProduct_61 : decode cX0_firstProduct 61 = .ok (.iconst 1, 1) := by decide +kernel
theorem dX0_firstProduct_62 : decode cX0_firstProduct 62 = .ok (.iadd, 1) := by decide +kernel
theorem dX0_firstProduct_63 : decode cX0_firstProduct 63 = .ok (.ireturn, 1) := by decide +kernel
theorem dX0_firstProduct_64 : decode cX0_firstProduct 64 = .ok (.iconst 0, 1) := by decide +kernel
theorem dX0_firstProduct_65 : decode cX0_firstProduct 65 = .ok (.istore 7, 2) := by decide +kernel
theorem dX0_firstProduct_67 : decode cX0_firstProduct 67 = .ok (.iload 7, 2) := by decide +kernel
theorem dX0_firstProduct_69 : decode cX0_firstProduct 69 = .ok (.bipush 34, 2) := by decide +kernel
theorem dX0_firstProduct_71 : decode cX0_firstProduct 71 = .ok (.if_icmp .ge 61, 3) := by decide +kernel
theorem dX0_firstProduct_74 : decode cX0_firstProduct 74 = .ok (.iload 6, 2) := by decide +kernel
theorem dX0_firstProduct_76 : decode cX0_firstProduct 76 = .ok (.i2l, 1) := by decide +kernel
theorem dX0_firstProduct_77 : decode cX0_firstProduct 77 = .ok (.iload 5, 2) := by decide +kernel
theorem dX0_firstProduct_79 : decode cX0_firstProduct 79 = .ok (.i2l, 1) := by decide +kernel
theorem dX0_firstProduct_80 : decode cX0_firstProduct 80 = .ok (.lsub, 1) := by decide +kernel
theorem dX0_firstProduct_81 : decode cX0_firstProduct 81 = .ok (.lconst 1, 1) := by decide +kernel
theorem dX0_firstProduct_82 : decode cX0_firstProduct 82 = .ok (.lcmp, 1) := by decide +kernel
theorem dX0_firstProduct_83 : decode cX0_firstProduct 83 = .ok (.ifCond .le 49, 3) := by decide +kernel
theorem dX0_firstProduct_86 : decode cX0_firstProduct 86 = .ok (.iload 5, 2) := by decide +kernel
theorem dX0_firstProduct_88 : decode cX0_firstProduct 88 = .ok (.iload 6, 2) := by decide +kernel
theorem dX0_firstProduct_90 : decode cX0_firstProduct 90 = .ok (.invokestatic 90, 3) := by decide +kernel
theorem dX0_firstProduct_93 : decode cX0_firstProduct 93 = .ok (.istore 8, 2) := by decide +kernel
theorem dX0_firstProduct_95 : decode cX0_firstProduct 95 = .ok (.iload 8, 2) := by decide +kernel
theorem dX0_firstProduct_97 : decode cX0_firstProduct 97 = .ok (.iload 8, 2) := by decide +kernel
theorem dX0_firstProduct_99 : decode cX0_firstProduct 99 = .ok (.ifCond .ge 7, 3) := by decide +kernel
theorem dX0_firstProduct_102 : decode cX0_firstProduct 102 = .ok (.iload_n 2, 1) := by decide +kernel
theorem dX0_firstProduct_103 : decode cX0_firstProduct 103 = .ok (.goto 4, 3) := by decide +kernel
theorem dX0_firstProduct_106 : decode cX0_firstProduct 106 = .ok (.iload_n 3, 1) := by decide +kernel
theorem dX0_firstProduct_107 : decode cX0_firstProduct 107 = .ok (.invokestatic 95, 3) := by decide +kernel
theorem dX0_firstProduct_110 : decode cX0_firstProduct 110 = .ok (.iload 4, 2) := by decide +kernel
theorem dX0_firstProduct_112 : decode cX0_firstProduct 112 = .ok (.if_icmp .lt 10, 3) := by decide +kernel
theorem dX0_firstProduct_115 : decode cX0_firstProduct 115 = .ok (.iload 8, 2) := by decide +kernel
theorem dX0_firstProduct_117 : decode cX0_firstProduct 117 = .ok (.istore 6, 2) := by decide +kernel
theorem dX0_firstProduct_119 : decode cX0_firstProduct 119 = .ok (.goto 7, 3) := by decide +kernel
theorem dX0_firstProduct_122 : decode cX0_firstProduct 122 = .ok (.iload 8, 2) := by decide +kernel
theorem dX0_firstProduct_124 : decode cX0_firstProduct 124 = .ok (.istore 5, 2) := by decide +kernel
theorem dX0_firstProduct_126 : decode cX0_firstProduct 126 = .ok (.iinc 7 1, 3) := by decide +kernel
theorem dX0_firstProduct_129 : decode cX0_firstProduct 129 = .ok (.goto (-62), 3) := by decide +kernel
theorem dX0_firstProduct_132 : decode cX0_firstProduct 132 = .ok (.iload 6, 2) := by decide +kernel
theorem dX0_firstProduct_134 : decode cX0_firstProduct 134 = .ok (.ireturn, 1) := by decide +kernel
set_option maxRecDepth 20000 in
theorem ggX0_cutMost_X0_leave : GoodIn wsX0_cutMost wsX0_leave := goodIn_r _ [11, 1, 2, 3, 4, 5, 6, 12, 13, 14, 15, 16, 17, 18, 19, 20] (by decide +kernel) (by decide +kernel)
set_option maxRecDepth 20000 in
theorem gX0_cutMost_X0_leave : GoodIn wsX0_cutMost (wsV RX0 83 RX0 yX0_leave wsX0_leave) := goodIn_app (goodIn_of _ (by decide +kernel)) ggX0_cutMost_X0_leave
theorem dX0_cutMost_0 : decode cX0_cutMost 0 = .ok (.aload_n 0, 1) := by decide +kernel
theorem dX0_cutMost_1 : decode cX0_cutMost 1 = .ok (.iload_n 3, 1) := by decide +kernel
theorem dX0_cutMost_2 : decode cX0_cutMost 2 = .ok (.aload_n 0, 1) := by decide +kernel
theorem dX0_cutMost_3 : decode cX0_cutMost 3 = .ok (.getfield 9, 3) := by decide +kernel
theorem dX0_cutMost_6 : decode cX0_cutMost 6 = .ok (.iload_n 1, 1) := by decide +kernel
theorem dX0_cutMost_7 : decode cX0_cutMost 7 = .ok (.iaload, 1) := by decide +kernel
theorem dX0_cutMost_8 : decode cX0_cutMost 8 = .ok (.aload_n 0, 1) := by decide +kernel
theorem dX0_cutMost_9 : decode cX0_cutMost 9 = .ok (.getfield 9, 3) := by decide +kernel
theorem dX0_cutMost_12 : decode cX0_cutMost 12 = .ok (.iload_n 2, 1) := by decide +kernel
theorem dX0_cutMost_13 : decode cX0_cutMost 13 = .ok (.iaload, 1) := by decide +kernel
theorem dX0_cutMost_14 : decode cX0_cutMost 14 = .ok (.invokestatic 69, 3) := by decide +kernel
theorem dX0_cutMost_17 : decode cX0_cutMost 17 = .ok (.aload_n 0, 1) := by decide +kernel
theorem dX0_cutMost_18 : decode cX0_cutMost 18 = .ok (.getfield 15, 3) := by decide +kernel
theorem dX0_cutMost_21 : decode cX0_cutMost 21 = .ok (.iload_n 1, 1) := by decide +kernel
theorem dX0_cutMost_22 : decode cX0_cutMost 22 = .ok (.iaload, 1) := by decide +kernel
theorem dX0_cutMost_23 : decode cX0_cutMost 23 = .ok (.aload_n 0, 1) := by decide +kernel
theorem dX0_cutMost_24 : decode cX0_cutMost 24 = .ok (.getfield 15, 3) := by decide +kernel
theorem dX0_cutMost_27 : decode cX0_cutMost 27 = .ok (.iload_n 2, 1) := by decide +kernel
theorem dX0_cutMost_28 : decode cX0_cutMost 28 = .ok (.iaload, 1) := by decide +kernel
theorem dX0_cutMost_29 : decode cX0_cutMost 29 = .ok (.invokestatic 69, 3) := by decide +kernel
theorem dX0_cutMost_32 : decode cX0_cutMost 32 = .ok (.invokevirtual 83, 3) := by decide +kernel
theorem dX0_cutMost_35 : decode cX0_cutMost 35 = .ok (.aload_n 0, 1) := by decide +kernel
theorem dX0_cutMost_36 : decode cX0_cutMost 36 = .ok (.iload_n 1, 1) := by decide +kernel
theorem dX0_cutMost_37 : decode cX0_cutMost 37 = .ok (.aload_n 0, 1) := by decide +kernel
theorem dX0_cutMost_38 : decode cX0_cutMost 38 = .ok (.getfield 15, 3) := by decide +kernel
theorem dX0_cutMost_41 : decode cX0_cutMost 41 = .ok (.iload_n 2, 1) := by decide +kernel
theorem dX0_cutMost_42 : decode cX0_cutMost 42 = .ok (.iaload, 1) := by decide +kernel
theorem dX0_cutMost_43 : decode cX0_cutMost 43 = .ok (.aload_n 0, 1) := by decide +kernel
theorem dX0_cutMost_44 : decode cX0_cutMost 44 = .ok (.getfield 9, 3) := by decide +kernel
theorem dX0_cutMost_47 : decode cX0_cutMost 47 = .ok (.iload_n 3, 1) := by decide +kernel
theorem dX0_cutMost_48 : decode cX0_cutMost 48 = .ok (.iaload, 1) := by decide +kernel
theorem dX0_cutMost_49 : decode cX0_cutMost 49 = .ok (.if_icmp .ge 12, 3) := by decide +kernel
theorem dX0_cutMost_52 : decode cX0_cutMost 52 = .ok (.aload_n 0, 1) := by decide +kernel
theorem dX0_cutMost_53 : decode cX0_cutMost 53 = .ok (.getfield 9, 3) := by decide +kernel
theorem dX0_cutMost_56 : decode cX0_cutMost 56 = .ok (.iload_n 3, 1) := by decide +kernel
theorem dX0_cutMost_57 : decode cX0_cutMost 57 = .ok (.iaload, 1) := by decide +kernel
theorem dX0_cutMost_58 : decode cX0_cutMost 58 = .ok (.goto 9, 3) := by decide +kernel
theorem dX0_cutMost_61 : decode cX0_cutMost 61 = .ok (.aload_n 0, 1) := by decide +kernel
theorem dX0_cutMost_62 : decode cX0_cutMost 62 = .ok (.getfield 9, 3) := by decide +kernel
theorem dX0_cutMost_65 : decode cX0_cutMost 65 = .ok (.iload_n 1, 1) := by decide +kernel
theorem dX0_cutMost_66 : decode cX0_cutMost 66 = .ok (.iaload, 1) := by decide +kernel
theorem dX0_cutMost_67 : decode cX0_cutMost 67 = .ok (.aload_n 0, 1) := by decide +kernel
theorem dX0_cutMost_68 : decode cX0_cutMost 68 = .ok (.getfield 15, 3) := by decide +kernel
theorem dX0_cutMost_71 : decode cX0_cutMost 71 = .ok (.iload_n 3, 1) := by decide +kernel
theorem dX0_cutMost_72 : decode cX0_cutMost 72 = .ok (.iaload, 1) := by decide +kernel
theorem dX0_cutMost_73 : decode cX0_cutMost 73 = .ok (.invokevirtual 83, 3) := by decide +kernel
theorem dX0_cutMost_76 : decode cX0_cutMost 76 = .ok (.aload_n 0, 1) := by decide +kernel
theorem dX0_cutMost_77 : decode cX0_cutMost 77 = .ok (.iload_n 2, 1) := by decide +kernel
theorem dX0_cutMost_78 : decode cX0_cutMost 78 = .ok (.aload_n 0, 1) := by decide +kernel
theorem dX0_cutMost_79 : decode cX0_cutMost 79 = .ok (.getfield 15, 3) := by decide +kernel
theorem dX0_cutMost_82 : decode cX0_cutMost 82 = .ok (.iload_n 1, 1) := by decide +kernel
theorem dX0_cutMost_83 : decode cX0_cutMost 83 = .ok (.iaload, 1) := by decide +kernel
theorem dX0_cutMost_84 : decode cX0_cutMost 84 = .ok (.aload_n 0, 1) := by decide +kernel
theorem dX0_cutMost_85 : decode cX0_cutMost 85 = .ok (.getfield 9, 3) := by decide +kernel
theorem dX0_cutMost_88 : decode cX0_cutMost 88 = .ok (.iload_n 3, 1) := by decide +kernel
theorem dX0_cutMost_89 : decode cX0_cutMost 89 = .ok (.iaload, 1) := by decide +kernel
theorem dX0_cutMost_90 : decode cX0_cutMost 90 = .ok (.if_icmp .ge 12, 3) := by decide +kernel
theorem dX0_cutMost_93 : decode cX0_cutMost 93 = .ok (.aload_n 0, 1) := by decide +kernel
theorem dX0_cutMost_94 : decode cX0_cutMost 94 = .ok (.getfield 9, 3) := by decide +kernel
theorem dX0_cutMost_97 : decode cX0_cutMost 97 = .ok (.iload_n 3, 1) := by decide +kernel
theorem dX0_cutMost_98 : decode cX0_cutMost 98 = .ok (.iaload, 1) := by decide +kernel
theorem dX0_cutMost_99 : decode cX0_cutMost 99 = .ok (.goto 9, 3) := by decide +kernel
theorem dX0_cutMost_102 : decode cX0_cutMost 102 = .ok (.aload_n 0, 1) := by decide +kernel
theorem dX0_cutMost_103 : decode cX0_cutMost 103 = .ok (.getfield 9, 3) := by decide +kernel
theorem dX0_cutMost_106 : decode cX0_cutMost 106 = .ok (.iload_n 2, 1) := by decide +kernel
theorem dX0_cutMost_107 : decode cX0_cutMost 107 = .ok (.iaload, 1) := by decide +kernel
theorem dX0_cutMost_108 : decode cX0_cutMost 108 = .ok (.aload_n 0, 1) := by decide +kernel
theorem dX0_cutMost_109 : decode cX0_cutMost 109 = .ok (.getfield 15, 3) := by decide +kernel
theorem dX0_cutMost_112 : decode cX0_cutMost 112 = .ok (.iload_n 3, 1) := by decide +kernel
theorem dX0_cutMost_113 : decode cX0_cutMost 113 = .ok (.iaload, 1) := by decide +kernel
theorem dX0_cutMost_114 : decode cX0_cutMost 114 = .ok (.invokevirtual 83, 3) := by decide +kernel
theorem dX0_cutMost_117 : decode cX0_cutMost 117 = .ok (.return_, 1) := by decide +kernel
set_option maxRecDepth 20000 in
theorem ggX0_cutLess_X4_rank : GoodIn wsX0_cutLess wsX4_rank := goodIn_r _ [6] (by decide +kernel) (by decide +kernel)
set_option maxRecDepth 20000 in
theorem gX0_cutLess_X4_rank : GoodIn wsX0_cutLess (va_wsS RX0 102 yX4_rank wsX4_rank) := goodIn_app (goodIn_of _ (by decide +kernel)) ggX0_cutLess_X4_rank
set_option maxRecDepth 20000 in
theorem ggX0_cutLess_X4_lastOfRank : GoodIn wsX0_cutLess wsX4_lastOfRank := goodIn_r _ [9] (by decide +kernel) (by decide +kernel)
set_option maxRecDepth 20000 in
theorem gX0_cutLess_X4_lastOfRank : GoodIn wsX0_cutLess (va_wsS RX0 106 yX4_lastOfRank wsX4_lastOfRank) := goodIn_app (goodIn_of _ (by decide +kernel)) ggX0_cutLess_X4_lastOfRank
set_option maxRecDepth 20000 in
theorem ggX0_cutLess_X0_leave : GoodIn wsX0_cutLess wsX0_leave := goodIn_r _ [14, 1, 15, 16, 17, 18, 2, 19, 20, 21, 22, 23, 27, 28, 29, 30] (by decide +kernel) (by decide +kernel)
set_option maxRecDepth 20000 in
theorem gX0_cutLess_X0_leave : GoodIn wsX0_cutLess (wsV RX0 83 RX0 yX0_leave wsX0_leave) := goodIn_app (goodIn_of _ (by decide +kernel)) ggX0_cutLess_X0_leave
set_option maxRecDepth 20000 in
theorem ggX0_cutLess_X4_firstOfRank : GoodIn wsX0_cutLess wsX4_firstOfRank := goodIn_r _ [26] (by decide +kernel) (by decide +kernel)
set_option maxRecDepth 20000 in
theorem gX0_cutLess_X4_firstOfRank : GoodIn wsX0_cutLess (va_wsS RX0 109 yX4_firstOfRank wsX4_firstOfRank) := goodIn_app (goodIn_of _ (by decide +kernel)) ggX0_cutLess_X4_firstOfRank
theorem dX0_cutLess_0 : decode cX0_cutLess 0 = .ok (.aload_n 0, 1) := by decide +kernel
theorem dX0_cutLess_1 : decode cX0_cutLess 1 = .ok (.iload_n 1, 1) := by decide +kernel
theorem dX0_cutLess_2 : decode cX0_cutLess 2 = .ok (.aload_n 0, 1) := by decide +kernel
theorem dX0_cutLess_3 : decode cX0_cutLess 3 = .ok (.getfield 9, 3) := by decide +kernel
theorem dX0_cutLess_6 : decode cX0_cutLess 6 = .ok (.iload_n 1, 1) := by decide +kernel
theorem dX0_cutLess_7 : decode cX0_cutLess 7 = .ok (.iaload, 1) := by decide +kernel
theorem dX0_cutLess_8 : decode cX0_cutLess 8 = .ok (.aload_n 0, 1) := by decide +kernel
theorem dX0_cutLess_9 : decode cX0_cutLess 9 = .ok (.getfield 15, 3) := by decide +kernel
theorem dX0_cutLess_12 : decode cX0_cutLess 12 = .ok (.iload_n 2, 1) := by decide +kernel
theorem dX0_cutLess_13 : decode cX0_cutLess 13 = .ok (.iaload, 1) := by decide +kernel
theorem dX0_cutLess_14 : decode cX0_cutLess 14 = .ok (.invokestatic 102, 3) := by decide +kernel
theorem dX0_cutLess_17 : decode cX0_cutLess 17 = .ok (.iconst 1, 1) := by decide +kernel
theorem dX0_cutLess_18 : decode cX0_cutLess 18 = .ok (.isub, 1) := by decide +kernel
theorem dX0_cutLess_19 : decode cX0_cutLess 19 = .ok (.invokestatic 106, 3) := by decide +kernel
theorem dX0_cutLess_22 : decode cX0_cutLess 22 = .ok (.invokevirtual 83, 3) := by decide +kernel
theorem dX0_cutLess_25 : decode cX0_cutLess 25 = .ok (.aload_n 0, 1) := by decide +kernel
theorem dX0_cutLess_26 : decode cX0_cutLess 26 = .ok (.iload_n 2, 1) := by decide +kernel
theorem dX0_cutLess_27 : decode cX0_cutLess 27 = .ok (.aload_n 0, 1) := by decide +kernel
theorem dX0_cutLess_28 : decode cX0_cutLess 28 = .ok (.getfield 9, 3) := by decide +kernel
theorem dX0_cutLess_31 : decode cX0_cutLess 31 = .ok (.iload_n 1, 1) := by decide +kernel
theorem dX0_cutLess_32 : decode cX0_cutLess 32 = .ok (.iaload, 1) := by decide +kernel
theorem dX0_cutLess_33 : decode cX0_cutLess 33 = .ok (.invokestatic 102, 3) := by decide +kernel
theorem dX0_cutLess_36 : decode cX0_cutLess 36 = .ok (.iconst 1, 1) := by decide +kernel
theorem dX0_cutLess_37 : decode cX0_cutLess 37 = .ok (.iadd, 1) := by decide +kernel
theorem dX0_cutLess_38 : decode cX0_cutLess 38 = .ok (.invokestatic 109, 3) := by decide +kernel
theorem dX0_cutLess_41 : decode cX0_cutLess 41 = .ok (.aload_n 0, 1) := by decide +kernel
theorem dX0_cutLess_42 : decode cX0_cutLess 42 = .ok (.getfield 15, 3) := by decide +kernel
theorem dX0_cutLess_45 : decode cX0_cutLess 45 = .ok (.iload_n 2, 1) := by decide +kernel
theorem dX0_cutLess_46 : decode cX0_cutLess 46 = .ok (.iaload, 1) := by decide +kernel
theorem dX0_cutLess_47 : decode cX0_cutLess 47 = .ok (.invokevirtual 83, 3) := by decide +kernel
theorem dX0_cutLess_50 : decode cX0_cutLess 50 = .ok (.return_, 1) := by decide +kernel
set_option maxRecDepth 20000 in
theorem ggX0_cutSame_X4_rank : GoodIn wsX0_cutSame wsX4_rank := goodIn_r _ [6] (by decide +kernel) (by decide +kernel)
set_option maxRecDepth 20000 in
theorem gX0_cutSame_X4_rank : GoodIn wsX0_cutSame (va_wsS RX0 102 yX4_rank wsX4_rank) := goodIn_app (goodIn_of _ (by decide +kernel)) ggX0_cutSame_X4_rank
set_option maxRecDepth 20000 in
theorem ggX0_cutSame_X4_firstOfRank : GoodIn wsX0_cutSame wsX4_firstOfRank := goodIn_r _ [9] (by decide +kernel) (by decide +kernel)
set_option maxRecDepth 20000 in
theorem gX0_cutSame_X4_firstOfRank : GoodIn wsX0_cutSame (va_wsS RX0 109 yX4_firstOfRank wsX4_firstOfRank) := goodIn_app (goodIn_of _ (by decide +kernel)) ggX0_cutSame_X4_firstOfRank
set_option maxRecDepth 20000 in
theorem ggX0_cutSame_X4_lastOfRank : GoodIn wsX0_cutSame wsX4_lastOfRank := goodIn_r _ [12] (by decide +kernel) (by decide +kernel)
set_option maxRecDepth 20000 in
theorem gX0_cutSame_X4_lastOfRank : GoodIn wsX0_cutSame (va_wsS RX0 106 yX4_lastOfRank wsX4_lastOfRank) := goodIn_app (goodIn_of _ (by decide +kernel)) ggX0_cutSame_X4_lastOfRank
set_option maxRecDepth 20000 in
theorem ggX0_cutSame_X0_leave : GoodIn wsX0_cutSame wsX0_leave := goodIn_r _ [17, 1, 18, 19, 20, 21, 2, 22, 23, 24, 25, 26, 27, 28, 29, 30] (by decide +kernel) (by decide +kernel)
set_option maxRecDepth 20000 in
theorem gX0_cutSame_X0_leave : GoodIn wsX0_cutSame (wsV RX0 83 RX0 yX0_leave wsX0_leave) := goodIn_app (goodIn_of _ (by decide +kernel)) ggX0_cutSame_X0_leave
theorem dX0_cutSame_0 : decode cX0_cutSame 0 = .ok (.aload_n 0, 1) := by decide +kernel
theorem dX0_cutSame_1 : decode cX0_cutSame 1 = .ok (.iload_n 1, 1) := by decide +kernel
theorem dX0_cutSame_2 : decode cX0_cutSame 2 = .ok (.aload_n 0, 1) := by decide +kernel
theorem dX0_cutSame_3 : decode cX0_cutSame 3 = .ok (.getfield 9, 3) := by decide +kernel
theorem dX0_cutSame_6 : decode cX0_cutSame 6 = .ok (.iload_n 2, 1) := by decide +kernel
theorem dX0_cutSame_7 : decode cX0_cutSame 7 = .ok (.iaload, 1) := by decide +kernel
theorem dX0_cutSame_8 : decode cX0_cutSame 8 = .ok (.invokestatic 102, 3) := by decide +kernel
theorem dX0_cutSame_11 : decode cX0_cutSame 11 = .ok (.invokestatic 109, 3) := by decide +kernel
theorem dX0_cutSame_14 : decode cX0_cutSame 14 = .ok (.aload_n 0, 1) := by decide +kernel
theorem dX0_cutSame_15 : decode cX0_cutSame 15 = .ok (.getfield 15, 3) := by decide +kernel
theorem dX0_cutSame_18 : decode cX0_cutSame 18 = .ok (.iload_n 2, 1) := by decide +kernel
theorem dX0_cutSame_19 : decode cX0_cutSame 19 = .ok (.iaload, 1) := by decide +kernel
theorem dX0_cutSame_20 : decode cX0_cutSame 20 = .ok (.invokestatic 102, 3) := by decide +kernel
theorem dX0_cutSame_23 : decode cX0_cutSame 23 = .ok (.invokestatic 106, 3) := by decide +kernel
theorem dX0_cutSame_26 : decode cX0_cutSame 26 = .ok (.invokevirtual 83, 3) := by decide +kernel
theorem dX0_cutSame_29 : decode cX0_cutSame 29 = .ok (.aload_n 0, 1) := by decide +kernel
theorem dX0_cutSame_30 : decode cX0_cutSame 30 = .ok (.iload_n 2, 1) := by decide +kernel
theorem dX0_cutSame_31 : decode cX0_cutSame 31 = .ok (.aload_n 0, 1) := by decide +kernel
theorem dX0_cutSame_32 : decode cX0_cutSame 32 = .ok (.getfield 9, 3) := by decide +kernel
theorem dX0_cutSame_35 : decode cX0_cutSame 35 = .ok (.iload_n 1, 1) := by decide +kernel
theorem dX0_cutSame_36 : decode cX0_cutSame 36 = .ok (.iaload, 1) := by decide +kernel
theorem dX0_cutSame_37 : decode cX0_cutSame 37 = .ok (.invokestatic 102, 3) := by decide +kernel
theorem dX0_cutSame_40 : decode cX0_cutSame 40 = .ok (.invokestatic 109, 3) := by decide +kernel
theorem dX0_cutSame_43 : decode cX0_cutSame 43 = .ok (.aload_n 0, 1) := by decide +kernel
theorem dX0_cutSame_44 : decode cX0_cutSame 44 = .ok (.getfield 15, 3) := by decide +kernel
theorem dX0_cutSame_47 : decode cX0_cutSame 47 = .ok (.iload_n 1, 1) := by decide +kernel
theorem dX0_cutSame_48 : decode cX0_cutSame 48 = .ok (.iaload, 1) := by decide +kernel
theorem dX0_cutSame_49 : decode cX0_cutSame 49 = .ok (.invokestatic 102, 3) := by decide +kernel
theorem dX0_cutSame_52 : decode cX0_cutSame 52 = .ok (.invokestatic 106, 3) := by decide +kernel
theorem dX0_cutSame_55 : decode cX0_cutSame 55 = .ok (.invokevirtual 83, 3) := by decide +kernel
theorem dX0_cutSame_58 : decode cX0_cutSame 58 = .ok (.return_, 1) := by decide +kernel
set_option maxRecDepth 20000 in
theorem ggX0_cutTurned_X0_leave : GoodIn wsX0_cutTurned wsX0_leave := goodIn_r _ [7, 2, 8, 9, 10, 11, 1, 12, 13, 14, 15, 16, 17, 18, 19, 20] (by decide +kernel) (by decide +kernel)
set_option maxRecDepth 20000 in
theorem gX0_cutTurned_X0_leave : GoodIn wsX0_cutTurned (wsV RX0 83 RX0 yX0_leave wsX0_leave) := goodIn_app (goodIn_of _ (by decide +kernel)) ggX0_cutTurned_X0_leave
theorem dX0_cutTurned_0 : decode cX0_cutTurned 0 = .ok (.aload_n 0, 1) := by decide +kernel
theorem dX0_cutTurned_1 : decode cX0_cutTurned 1 = .ok (.iload_n 2, 1) := by decide +kernel
theorem dX0_cutTurned_2 : decode cX0_cutTurned 2 = .ok (.iconst (-1), 1) := by decide +kernel
theorem dX0_cutTurned_3 : decode cX0_cutTurned 3 = .ok (.aload_n 0, 1) := by decide +kernel
theorem dX0_cutTurned_4 : decode cX0_cutTurned 4 = .ok (.getfield 15, 3) := by decide +kernel
theorem dX0_cutTurned_7 : decode cX0_cutTurned 7 = .ok (.iload_n 1, 1) := by decide +kernel
theorem dX0_cutTurned_8 : decode cX0_cutTurned 8 = .ok (.iaload, 1) := by decide +kernel
theorem dX0_cutTurned_9 : decode cX0_cutTurned 9 = .ok (.isub, 1) := by decide +kernel
theorem dX0_cutTurned_10 : decode cX0_cutTurned 10 = .ok (.iconst (-1), 1) := by decide +kernel
theorem dX0_cutTurned_11 : decode cX0_cutTurned 11 = .ok (.aload_n 0, 1) := by decide +kernel
theorem dX0_cutTurned_12 : decode cX0_cutTurned 12 = .ok (.getfield 9, 3) := by decide +kernel
theorem dX0_cutTurned_15 : decode cX0_cutTurned 15 = .ok (.iload_n 1, 1) := by decide +kernel
theorem dX0_cutTurned_16 : decode cX0_cutTurned 16 = .ok (.iaload, 1) := by decide +kernel
theorem dX0_cutTurned_17 : decode cX0_cutTurned 17 = .ok (.isub, 1) := by decide +kernel
theorem dX0_cutTurned_18 : decode cX0_cutTurned 18 = .ok (.invokevirtual 83, 3) := by decide +kernel
theorem dX0_cutTurned_21 : decode cX0_cutTurned 21 = .ok (.aload_n 0, 1) := by decide +kernel
theorem dX0_cutTurned_22 : decode cX0_cutTurned 22 = .ok (.iload_n 1, 1) := by decide +kernel
theorem dX0_cutTurned_23 : decode cX0_cutTurned 23 = .ok (.iconst (-1), 1) := by decide +kernel
theorem dX0_cutTurned_24 : decode cX0_cutTurned 24 = .ok (.aload_n 0, 1) := by decide +kernel
theorem dX0_cutTurned_25 : decode cX0_cutTurned 25 = .ok (.getfield 15, 3) := by decide +kernel
theorem dX0_cutTurned_28 : decode cX0_cutTurned 28 = .ok (.iload_n 2, 1) := by decide +kernel
theorem dX0_cutTurned_29 : decode cX0_cutTurned 29 = .ok (.iaload, 1) := by decide +kernel
theorem dX0_cutTurned_30 : decode cX0_cutTurned 30 = .ok (.isub, 1) := by decide +kernel
theorem dX0_cutTurned_31 : decode cX0_cutTurned 31 = .ok (.iconst (-1), 1) := by decide +kernel
theorem dX0_cutTurned_32 : decode cX0_cutTurned 32 = .ok (.aload_n 0, 1) := by decide +kernel
theorem dX0_cutTurned_33 : decode cX0_cutTurned 33 = .ok (.getfield 9, 3) := by decide +kernel
theorem dX0_cutTurned_36 : decode cX0_cutTurned 36 = .ok (.iload_n 2, 1) := by decide +kernel
theorem dX0_cutTurned_37 : decode cX0_cutTurned 37 = .ok (.iaload, 1) := by decide +kernel
theorem dX0_cutTurned_38 : decode cX0_cutTurned 38 = .ok (.isub, 1) := by decide +kernel
theorem dX0_cutTurned_39 : decode cX0_cutTurned 39 = .ok (.invokevirtual 83, 3) := by decide +kernel
theorem dX0_cutTurned_42 : decode cX0_cutTurned 42 = .ok (.return_, 1) := by decide +kernel
set_option maxRecDepth 20000 in
theorem ggX1_ofWhole_X1_rounded : GoodIn wsX1_ofWhole wsX1_rounded := goodIn_r _ [8, 9, 10, 3, 11, 12, 13, 14, 15, 16, 17, 18, 19, 20, 21] (by decide +kernel) (by decide +kernel)
set_option maxRecDepth 20000 in
theorem gX1_ofWhole_X1_rounded : GoodIn wsX1_ofWhole (va_wsS RX1 15 yX1_rounded wsX1_rounded) := goodIn_app (goodIn_of _ (by decide +kernel)) ggX1_ofWhole_X1_rounded
theorem dX1_ofWhole_0 : decode cX1_ofWhole 0 = .ok (.iload_n 0, 1) := by decide +kernel
theorem dX1_ofWhole_1 : decode cX1_ofWhole 1 = .ok (.ifCond .ge 7, 3) := by decide +kernel
theorem dX1_ofWhole_4 : decode cX1_ofWhole 4 = .ok (.iconst 1, 1) := by decide +kernel
theorem dX1_ofWhole_5 : decode cX1_ofWhole 5 = .ok (.goto 4, 3) := by decide +kernel
theorem dX1_ofWhole_8 : decode cX1_ofWhole 8 = .ok (.iconst 0, 1) := by decide +kernel
theorem dX1_ofWhole_9 : decode cX1_ofWhole 9 = .ok (.iload_n 0, 1) := by decide +kernel
theorem dX1_ofWhole_10 : decode cX1_ofWhole 10 = .ok (.i2l, 1) := by decide +kernel
theorem dX1_ofWhole_11 : decode cX1_ofWhole 11 = .ok (.invokestatic 7, 3) := by decide +kernel
theorem dX1_ofWhole_14 : decode cX1_ofWhole 14 = .ok (.sipush 150, 3) := by decide +kernel
theorem dX1_ofWhole_17 : decode cX1_ofWhole 17 = .ok (.invokestatic 15, 3) := by decide +kernel
theorem dX1_ofWhole_20 : decode cX1_ofWhole 20 = .ok (.ireturn, 1) := by decide +kernel
set_option maxRecDepth 20000 in
theorem ggX1_isNotANumber_X1_doubleExponent : GoodIn wsX1_isNotANumber wsX1_doubleExponent := goodIn_r _ [4] (by decide +kernel) (by decide +kernel)
set_option maxRecDepth 20000 in
theorem gX1_isNotANumber_X1_doubleExponent : GoodIn wsX1_isNotANumber (va_wsS RX1 19 yX1_doubleExponent wsX1_doubleExponent) := goodIn_app (goodIn_of _ (by decide +kernel)) ggX1_isNotANumber_X1_doubleExponent
set_option maxRecDepth 20000 in
theorem ggX1_isNotANumber_X1_doubleFraction : GoodIn wsX1_isNotANumber wsX1_doubleFraction := goodIn_r _ [7, 8] (by decide +kernel) (by decide +kernel)
set_option maxRecDepth 20000 in
theorem gX1_isNotANumber_X1_doubleFraction : GoodIn wsX1_isNotANumber (va_wsS RX1 23 yX1_doubleFraction wsX1_doubleFraction) := goodIn_app (goodIn_of _ (by decide +kernel)) ggX1_isNotANumber_X1_doubleFraction
theorem dX1_isNotANumber_0 : decode cX1_isNotANumber 0 = .ok (.lload_n 0, 1) := by decide +kernel
theorem dX1_isNotANumber_1 : decode cX1_isNotANumber 1 = .ok (.invokestatic 19, 3) := by decide +kernel
theorem dX1_isNotANumber_4 : decode cX1_isNotANumber 4 = .ok (.sipush 2047, 3) := by decide +kernel
theorem dX1_isNotANumber_7 : decode cX1_isNotANumber 7 = .ok (.if_icmp .ne 16, 3) := by decide +kernel
theorem dX1_isNotANumber_10 : decode cX1_isNotANumber 10 = .ok (.lload_n 0, 1) := by decide +kernel
theorem dX1_isNotANumber_11 : decode cX1_isNotANumber 11 = .ok (.invokestatic 23, 3) := by decide +kernel
theorem dX1_isNotANumber_14 : decode cX1_isNotANumber 14 = .ok (.lconst 0, 1) := by decide +kernel
theorem dX1_isNotANumber_15 : decode cX1_isNotANumber 15 = .ok (.lcmp, 1) := by decide +kernel
theorem dX1_isNotANumber_16 : decode cX1_isNotANumber 16 = .ok (.ifCond .eq 7, 3) := by decide +kernel
theorem dX1_isNotANumber_19 : decode cX1_isNotANumber 19 = .ok (.iconst 1, 1) := by decide +kernel
theorem dX1_isNotANumber_20 : decode cX1_isNotANumber 20 = .ok (.goto 4, 3) := by decide +kernel
theorem dX1_isNotANumber_23 : decode cX1_isNotANumber 23 = .ok (.iconst 0, 1) := by decide +kernel
theorem dX1_isNotANumber_24 : decode cX1_isNotANumber 24 = .ok (.ireturn, 1) := by decide +kernel
set_option maxRecDepth 20000 in
theorem ggX1_ofDouble_X1_doubleExponent : GoodIn wsX1_ofDouble wsX1_doubleExponent := goodIn_r _ [9] (by decide +kernel) (by decide +kernel)
set_option maxRecDepth 20000 in
theorem gX1_ofDouble_X1_doubleExponent : GoodIn wsX1_ofDouble (va_wsS RX1 19 yX1_doubleExponent wsX1_doubleExponent) := goodIn_app (goodIn_of _ (by decide +kernel)) ggX1_ofDouble_X1_doubleExponent
set_option maxRecDepth 20000 in
theorem ggX1_ofDouble_X1_doubleFraction : GoodIn wsX1_ofDouble wsX1_doubleFraction := goodIn_r _ [12, 13] (by decide +kernel) (by decide +kernel)
set_option maxRecDepth 20000 in
theorem gX1_ofDouble_X1_doubleFraction : GoodIn wsX1_ofDouble (va_wsS RX1 23 yX1_doubleFraction wsX1_doubleFraction) := goodIn_app (goodIn_of _ (by decide +kernel)) ggX1_ofDouble_X1_doubleFraction
set_option maxRecDepth 20000 in
theorem ggX1_ofDouble_X1_rounded : GoodIn wsX1_ofDouble wsX1_rounded := goodIn_r _ [16, 2, 3, 4, 5, 17, 18, 19, 20, 21, 22, 23, 24, 25, 26] (by decide +kernel) (by decide +kernel)
set_option maxRecDepth 20000 in
theorem gX1_ofDouble_X1_rounded : GoodIn wsX1_ofDouble (va_wsS RX1 15 yX1_rounded wsX1_rounded) := goodIn_app (goodIn_of _ (by decide +kernel)) ggX1_ofDouble_X1_rounded
theorem dX1_ofDouble_0 : decode cX1_ofDouble 0 = .ok (.lload_n 0, 1) := by decide +kernel
theorem dX1_ofDouble_1 : decode cX1_ofDouble 1 = .ok (.invokestatic 19, 3) := by decide +kernel
theorem dX1_ofDouble_4 : decode cX1_ofDouble 4 = .ok (.istore_n 2, 1) := by decide +kernel
theorem dX1_ofDouble_5 : decode cX1_ofDouble 5 = .ok (.lload_n 0, 1) := by decide +kernel
theorem dX1_ofDouble_6 : decode cX1_ofDouble 6 = .ok (.invokestatic 23, 3) := by decide +kernel
theorem dX1_ofDouble_9 : decode cX1_ofDouble 9 = .ok (.lstore_n 3, 1) := by decide +kernel
theorem dX1_ofDouble_10 : decode cX1_ofDouble 10 = .ok (.iload_n 2, 1) := by decide +kernel
theorem dX1_ofDouble_11 : decode cX1_ofDouble 11 = .ok (.ifCond .le 9, 3) := by decide +kernel
theorem dX1_ofDouble_14 : decode cX1_ofDouble 14 = .ok (.lload_n 3, 1) := by decide +kernel
theorem dX1_ofDouble_15 : decode cX1_ofDouble 15 = .ok (.ldc2_w 26, 3) := by decide +kernel
theorem dX1_ofDouble_18 : decode cX1_ofDouble 18 = .ok (.ladd, 1) := by decide +kernel
theorem dX1_ofDouble_19 : decode cX1_ofDouble 19 = .ok (.lstore_n 3, 1) := by decide +kernel
theorem dX1_ofDouble_20 : decode cX1_ofDouble 20 = .ok (.lload_n 0, 1) := by decide +kernel
theorem dX1_ofDouble_21 : decode cX1_ofDouble 21 = .ok (.lconst 0, 1) := by decide +kernel
theorem dX1_ofDouble_22 : decode cX1_ofDouble 22 = .ok (.lcmp, 1) := by decide +kernel
theorem dX1_ofDouble_23 : decode cX1_ofDouble 23 = .ok (.ifCond .ge 7, 3) := by decide +kernel
theorem dX1_ofDouble_26 : decode cX1_ofDouble 26 = .ok (.iconst 1, 1) := by decide +kernel
theorem dX1_ofDouble_27 : decode cX1_ofDouble 27 = .ok (.goto 4, 3) := by decide +kernel
theorem dX1_ofDouble_30 : decode cX1_ofDouble 30 = .ok (.iconst 0, 1) := by decide +kernel
theorem dX1_ofDouble_31 : decode cX1_ofDouble 31 = .ok (.lload_n 3, 1) := by decide +kernel
theorem dX1_ofDouble_32 : decode cX1_ofDouble 32 = .ok (.iload_n 2, 1) := by decide +kernel
theorem dX1_ofDouble_33 : decode cX1_ofDouble 33 = .ok (.iconst 1, 1) := by decide +kernel
theorem dX1_ofDouble_34 : decode cX1_ofDouble 34 = .ok (.invokestatic 28, 3) := by decide +kernel
theorem dX1_ofDouble_37 : decode cX1_ofDouble 37 = .ok (.sipush 1075, 3) := by decide +kernel
theorem dX1_ofDouble_40 : decode cX1_ofDouble 40 = .ok (.isub, 1) := by decide +kernel
theorem dX1_ofDouble_41 : decode cX1_ofDouble 41 = .ok (.sipush 150, 3) := by decide +kernel
theorem dX1_ofDouble_44 : decode cX1_ofDouble 44 = .ok (.iadd, 1) := by decide +kernel
theorem dX1_ofDouble_45 : decode cX1_ofDouble 45 = .ok (.invokestatic 15, 3) := by decide +kernel
theorem dX1_ofDouble_48 : decode cX1_ofDouble 48 = .ok (.ireturn, 1) := by decide +kernel
set_option maxRecDepth 20000 in
theorem ggX1_toDouble_X4_magnitude : GoodIn wsX1_toDouble wsX4_magnitude := goodIn_r _ [5] (by decide +kernel) (by decide +kernel)
set_option maxRecDepth 20000 in
theorem gX1_toDouble_X4_magnitude : GoodIn wsX1_toDouble (va_wsS RX1 32 yX4_magnitude wsX4_magnitude) := goodIn_app (goodIn_of _ (by decide +kernel)) ggX1_toDouble_X4_magnitude
set_option maxRecDepth 20000 in
theorem ggX1_toDouble_X1_significand : GoodIn wsX1_toDouble wsX1_significand := goodIn_r _ [9, 10] (by decide +kernel) (by decide +kernel)
set_option maxRecDepth 20000 in
theorem gX1_toDouble_X1_significand : GoodIn wsX1_toDouble (va_wsS RX1 40 yX1_significand wsX1_significand) := goodIn_app (goodIn_of _ (by decide +kernel)) ggX1_toDouble_X1_significand
set_option maxRecDepth 20000 in
theorem ggX1_toDouble_J13_numberOfLeadingZeros_95d88 : GoodIn wsX1_toDouble wsJ13_numberOfLeadingZeros_95d88 := goodIn_r _ [14, 15, 16, 17, 18, 19] (by decide +kernel) (by decide +kernel)
set_option maxRecDepth 20000 in
theorem gX1_toDouble_J13_numberOfLeadingZeros_95d88 : GoodIn wsX1_toDouble (va_wsS RX1 43 yJ13_numberOfLeadingZeros_95d88 wsJ13_numberOfLeadingZeros_95d88) := goodIn_app (goodIn_of _ (by decide +kernel)) ggX1_toDouble_J13_numberOfLeadingZeros_95d88
set_option maxRecDepth 20000 in
theorem ggX1_toDouble_X1_exponent : GoodIn wsX1_toDouble wsX1_exponent := goodIn_r _ [22, 23, 24, 25, 26] (by decide +kernel) (by decide +kernel)
set_option maxRecDepth 20000 in
theorem gX1_toDouble_X1_exponent : GoodIn wsX1_toDouble (va_wsS RX1 48 yX1_exponent wsX1_exponent) := goodIn_app (goodIn_of _ (by decide +kernel)) ggX1_toDouble_X1_exponent
theorem dX1_toDouble_0 : decode cX1_toDouble 0 = .ok (.iload_n 0, 1) := by decide +kernel
theorem dX1_toDouble_1 : decode cX1_toDouble 1 = .ok (.invokestatic 32, 3) := by decide +kernel
theorem dX1_toDouble_4 : decode cX1_toDouble 4 = .ok (.istore_n 1, 1) := by decide +kernel
theorem dX1_toDouble_5 : decode cX1_toDouble 5 = .ok (.iload_n 0, 1) := by decide +kernel
theorem dX1_toDouble_6 : decode cX1_toDouble 6 = .ok (.ifCond .ge 9, 3) := by decide +kernel
theorem dX1_toDouble_9 : decode cX1_toDouble 9 = .ok (.ldc2_w 38, 3) := by decide +kernel
theorem dX1_toDouble_12 : decode cX1_toDouble 12 = .ok (.goto 4, 3) := by decide +kernel
theorem dX1_toDouble_15 : decode cX1_toDouble 15 = .ok (.lconst 0, 1) := by decide +kernel
theorem dX1_toDouble_16 : decode cX1_toDouble 16 = .ok (.lstore_n 2, 1) := by decide +kernel
theorem dX1_toDouble_17 : decode cX1_toDouble 17 = .ok (.iload_n 1, 1) := by decide +kernel
theorem dX1_toDouble_18 : decode cX1_toDouble 18 = .ok (.ifCond .ne 5, 3) := by decide +kernel
theorem dX1_toDouble_21 : decode cX1_toDouble 21 = .ok (.lload_n 2, 1) := by decide +kernel
theorem dX1_toDouble_22 : decode cX1_toDouble 22 = .ok (.lreturn, 1) := by decide +kernel
theorem dX1_toDouble_23 : decode cX1_toDouble 23 = .ok (.iload_n 1, 1) := by decide +kernel
theorem dX1_toDouble_24 : decode cX1_toDouble 24 = .ok (.invokestatic 40, 3) := by decide +kernel
theorem dX1_toDouble_27 : decode cX1_toDouble 27 = .ok (.i2l, 1) := by decide +kernel
theorem dX1_toDouble_28 : decode cX1_toDouble 28 = .ok (.lstore 4, 2) := by decide +kernel
theorem dX1_toDouble_30 : decode cX1_toDouble 30 = .ok (.lload 4, 2) := by decide +kernel
theorem dX1_toDouble_32 : decode cX1_toDouble 32 = .ok (.invokestatic 43, 3) := by decide +kernel
theorem dX1_toDouble_35 : decode cX1_toDouble 35 = .ok (.bipush 11, 2) := by decide +kernel
theorem dX1_toDouble_37 : decode cX1_toDouble 37 = .ok (.isub, 1) := by decide +kernel
theorem dX1_toDouble_38 : decode cX1_toDouble 38 = .ok (.istore 6, 2) := by decide +kernel
theorem dX1_toDouble_40 : decode cX1_toDouble 40 = .ok (.iload_n 1, 1) := by decide +kernel
theorem dX1_toDouble_41 : decode cX1_toDouble 41 = .ok (.invokestatic 48, 3) := by decide +kernel
theorem dX1_toDouble_44 : decode cX1_toDouble 44 = .ok (.sipush 150, 3) := by decide +kernel
theorem dX1_toDouble_47 : decode cX1_toDouble 47 = .ok (.isub, 1) := by decide +kernel
theorem dX1_toDouble_48 : decode cX1_toDouble 48 = .ok (.sipush 1075, 3) := by decide +kernel
theorem dX1_toDouble_51 : decode cX1_toDouble 51 = .ok (.iadd, 1) := by decide +kernel
theorem dX1_toDouble_52 : decode cX1_toDouble 52 = .ok (.iload 6, 2) := by decide +kernel
theorem dX1_toDouble_54 : decode cX1_toDouble 54 = .ok (.isub, 1) := by decide +kernel
theorem dX1_toDouble_55 : decode cX1_toDouble 55 = .ok (.i2l, 1) := by decide +kernel
theorem dX1_toDouble_56 : decode cX1_toDouble 56 = .ok (.lstore 7, 2) := by decide +kernel
theorem dX1_toDouble_58 : decode cX1_toDouble 58 = .ok (.lload_n 2, 1) := by decide +kernel
theorem dX1_toDouble_59 : decode cX1_toDouble 59 = .ok (.lload 7, 2) := by decide +kernel
theorem dX1_toDouble_61 : decode cX1_toDouble 61 = .ok (.lconst 1, 1) := by decide +kernel
theorem dX1_toDouble_62 : decode cX1_toDouble 62 = .ok (.lsub, 1) := by decide +kernel
theorem dX1_toDouble_63 : decode cX1_toDouble 63 = .ok (.bipush 52, 2) := by decide +kernel
theorem dX1_toDouble_65 : decode cX1_toDouble 65 = .ok (.lshl, 1) := by decide +kernel
theorem dX1_toDouble_66 : decode cX1_toDouble 66 = .ok (.ladd, 1) := by decide +kernel
theorem dX1_toDouble_67 : decode cX1_toDouble 67 = .ok (.lload 4, 2) := by decide +kernel
theorem dX1_toDouble_69 : decode cX1_toDouble 69 = .ok (.iload 6, 2) := by decide +kernel
theorem dX1_toDouble_71 : decode cX1_toDouble 71 = .ok (.lshl, 1) := by decide +kernel
theorem dX1_toDouble_72 : decode cX1_toDouble 72 = .ok (.ladd, 1) := by decide +kernel
theorem dX1_toDouble_73 : decode cX1_toDouble 73 = .ok (.lreturn, 1) := by decide +kernel
set_option maxRecDepth 20000 in
theorem ggX1_sum_X4_magnitude : GoodIn wsX1_sum wsX4_magnitude := goodIn_r _ [4] (by decide +kernel) (by decide +kernel)
set_option maxRecDepth 20000 in
theorem gX1_sum_X4_magnitude : GoodIn wsX1_sum (va_wsS RX1 32 yX4_magnitude wsX4_magnitude) := goodIn_app (goodIn_of _ (by decide +kernel)) ggX1_sum_X4_magnitude
set_option maxRecDepth 20000 in
theorem ggX1_sum_X1_exponent : GoodIn wsX1_sum wsX1_exponent := goodIn_r _ [8, 9, 10, 11, 12] (by decide +kernel) (by decide +kernel)
set_option maxRecDepth 20000 in
theorem gX1_sum_X1_exponent : GoodIn wsX1_sum (va_wsS RX1 48 yX1_exponent wsX1_exponent) := goodIn_app (goodIn_of _ (by decide +kernel)) ggX1_sum_X1_exponent
set_option maxRecDepth 20000 in
theorem ggX1_sum_X1_significand : GoodIn wsX1_sum wsX1_significand := goodIn_r _ [15, 16] (by decide +kernel) (by decide +kernel)
set_option maxRecDepth 20000 in
theorem gX1_sum_X1_significand : GoodIn wsX1_sum (va_wsS RX1 40 yX1_significand wsX1_significand) := goodIn_app (goodIn_of _ (by decide +kernel)) ggX1_sum_X1_significand
set_option maxRecDepth 20000 in
theorem ggX1_sum_X1_rounded : GoodIn wsX1_sum wsX1_rounded := goodIn_r _ [19, 9, 10, 11, 12, 20, 21, 22, 23, 24, 25, 26, 27, 28, 29] (by decide +kernel) (by decide +kernel)
set_option maxRecDepth 20000 in
theorem gX1_sum_X1_rounded : GoodIn wsX1_sum (va_wsS RX1 15 yX1_rounded wsX1_rounded) := goodIn_app (goodIn_of _ (by decide +kernel)) ggX1_sum_X1_rounded
theorem dX1_sum_0 : decode cX1_sum 0 = .ok (.iload_n 0, 1) := by decide +kernel
theorem dX1_sum_1 : decode cX1_sum 1 = .ok (.invokestatic 32, 3) := by decide +kernel
theorem dX1_sum_4 : decode cX1_sum 4 = .ok (.iload_n 1, 1) := by decide +kernel
theorem dX1_sum_5 : decode cX1_sum 5 = .ok (.invokestatic 32, 3) := by decide +kernel
theorem dX1_sum_8 : decode cX1_sum 8 = .ok (.if_icmp .lt 7, 3) := by decide +kernel
theorem dX1_sum_11 : decode cX1_sum 11 = .ok (.iconst 1, 1) := by decide +kernel
theorem dX1_sum_12 : decode cX1_sum 12 = .ok (.goto 4, 3) := by decide +kernel
theorem dX1_sum_15 : decode cX1_sum 15 = .ok (.iconst 0, 1) := by decide +kernel
theorem dX1_sum_16 : decode cX1_sum 16 = .ok (.istore_n 2, 1) := by decide +kernel
theorem dX1_sum_17 : decode cX1_sum 17 = .ok (.iload_n 2, 1) := by decide +kernel
theorem dX1_sum_18 : decode cX1_sum 18 = .ok (.ifCond .eq 7, 3) := by decide +kernel
theorem dX1_sum_21 : decode cX1_sum 21 = .ok (.iload_n 0, 1) := by decide +kernel
theorem dX1_sum_22 : decode cX1_sum 22 = .ok (.goto 4, 3) := by decide +kernel
theorem dX1_sum_25 : decode cX1_sum 25 = .ok (.iload_n 1, 1) := by decide +kernel
theorem dX1_sum_26 : decode cX1_sum 26 = .ok (.istore_n 3, 1) := by decide +kernel
theorem dX1_sum_27 : decode cX1_sum 27 = .ok (.iload_n 2, 1) := by decide +kernel
theorem dX1_sum_28 : decode cX1_sum 28 = .ok (.ifCond .eq 7, 3) := by decide +kernel
theorem dX1_sum_31 : decode cX1_sum 31 = .ok (.iload_n 1, 1) := by decide +kernel
theorem dX1_sum_32 : decode cX1_sum 32 = .ok (.goto 4, 3) := by decide +kernel
theorem dX1_sum_35 : decode cX1_sum 35 = .ok (.iload_n 0, 1) := by decide +kernel
theorem dX1_sum_36 : decode cX1_sum 36 = .ok (.istore 4, 2) := by decide +kernel
theorem dX1_sum_38 : decode cX1_sum 38 = .ok (.iload_n 3, 1) := by decide +kernel
theorem dX1_sum_39 : decode cX1_sum 39 = .ok (.invokestatic 32, 3) := by decide +kernel
theorem dX1_sum_42 : decode cX1_sum 42 = .ok (.istore 5, 2) := by decide +kernel
theorem dX1_sum_44 : decode cX1_sum 44 = .ok (.iload 4, 2) := by decide +kernel
theorem dX1_sum_46 : decode cX1_sum 46 = .ok (.invokestatic 32, 3) := by decide +kernel
theorem dX1_sum_49 : decode cX1_sum 49 = .ok (.istore 6, 2) := by decide +kernel
theorem dX1_sum_51 : decode cX1_sum 51 = .ok (.iload 5, 2) := by decide +kernel
theorem dX1_sum_53 : decode cX1_sum 53 = .ok (.invokestatic 48, 3) := by decide +kernel
theorem dX1_sum_56 : decode cX1_sum 56 = .ok (.iload 6, 2) := by decide +kernel
theorem dX1_sum_58 : decode cX1_sum 58 = .ok (.invokestatic 48, 3) := by decide +kernel
theorem dX1_sum_61 : decode cX1_sum 61 = .ok (.isub, 1) := by decide +kernel
theorem dX1_sum_62 : decode cX1_sum 62 = .ok (.istore 7, 2) := by decide +kernel
theorem dX1_sum_64 : decode cX1_sum 64 = .ok (.iload 7, 2) := by decide +kernel
theorem dX1_sum_66 : decode cX1_sum 66 = .ok (.bipush 26, 2) := by decide +kernel
theorem dX1_sum_68 : decode cX1_sum 68 = .ok (.if_icmp .le 5, 3) := by decide +kernel
theorem dX1_sum_71 : decode cX1_sum 71 = .ok (.iload_n 3, 1) := by decide +kernel
theorem dX1_sum_72 : decode cX1_sum 72 = .ok (.ireturn, 1) := by decide +kernel
theorem dX1_sum_73 : decode cX1_sum 73 = .ok (.iload_n 0, 1) := by decide +kernel
theorem dX1_sum_74 : decode cX1_sum 74 = .ok (.ifCond .ge 7, 3) := by decide +kernel
theorem dX1_sum_77 : decode cX1_sum 77 = .ok (.iconst 1, 1) := by decide +kernel
theorem dX1_sum_78 : decode cX1_sum 78 = .ok (.goto 4, 3) := by decide +kernel
theorem dX1_sum_81 : decode cX1_sum 81 = .ok (.iconst 0, 1) := by decide +kernel
theorem dX1_sum_82 : decode cX1_sum 82 = .ok (.iload_n 1, 1) := by decide +kernel
theorem dX1_sum_83 : decode cX1_sum 83 = .ok (.ifCond .ge 7, 3) := by decide +kernel
theorem dX1_sum_86 : decode cX1_sum 86 = .ok (.iconst 1, 1) := by decide +kernel
theorem dX1_sum_87 : decode cX1_sum 87 = .ok (.goto 4, 3) := by decide +kernel
theorem dX1_sum_90 : decode cX1_sum 90 = .ok (.iconst 0, 1) := by decide +kernel
theorem dX1_sum_91 : decode cX1_sum 91 = .ok (.if_icmp .ne 7, 3) := by decide +kernel
theorem dX1_sum_94 : decode cX1_sum 94 = .ok (.iconst 1, 1) := by decide +kernel
theorem dX1_sum_95 : decode cX1_sum 95 = .ok (.goto 4, 3) := by decide +kernel
theorem dX1_sum_98 : decode cX1_sum 98 = .ok (.iconst 0, 1) := by decide +kernel
theorem dX1_sum_99 : decode cX1_sum 99 = .ok (.istore 8, 2) := by decide +kernel
theorem dX1_sum_101 : decode cX1_sum 101 = .ok (.iload 5, 2) := by decide +kernel
theorem dX1_sum_103 : decode cX1_sum 103 = .ok (.iload 6, 2) := by decide +kernel
theorem dX1_sum_105 : decode cX1_sum 105 = .ok (.if_icmp .ne 10, 3) := by decide +kernel
theorem dX1_sum_108 : decode cX1_sum 108 = .ok (.iload 8, 2) := by decide +kernel
theorem dX1_sum_110 : decode cX1_sum 110 = .ok (.ifCond .ne 5, 3) := by decide +kernel
theorem dX1_sum_113 : decode cX1_sum 113 = .ok (.iconst 0, 1) := by decide +kernel
theorem dX1_sum_114 : decode cX1_sum 114 = .ok (.ireturn, 1) := by decide +kernel
theorem dX1_sum_115 : decode cX1_sum 115 = .ok (.iload 5, 2) := by decide +kernel
theorem dX1_sum_117 : decode cX1_sum 117 = .ok (.invokestatic 40, 3) := by decide +kernel
theorem dX1_sum_120 : decode cX1_sum 120 = .ok (.i2l, 1) := by decide +kernel
theorem dX1_sum_121 : decode cX1_sum 121 = .ok (.iload 7, 2) := by decide +kernel
theorem dX1_sum_123 : decode cX1_sum 123 = .ok (.lshl, 1) := by decide +kernel
theorem dX1_sum_124 : decode cX1_sum 124 = .ok (.lstore 9, 2) := by decide +kernel
theorem dX1_sum_126 : decode cX1_sum 126 = .ok (.iload 6, 2) := by decide +kernel
theorem dX1_sum_128 : decode cX1_sum 128 = .ok (.invokestatic 40, 3) := by decide +kernel
theorem dX1_sum_131 : decode cX1_sum 131 = .ok (.i2l, 1) := by decide +kernel
theorem dX1_sum_132 : decode cX1_sum 132 = .ok (.lstore 11, 2) := by decide +kernel
theorem dX1_sum_134 : decode cX1_sum 134 = .ok (.iload_n 3, 1) := by decide +kernel
theorem dX1_sum_135 : decode cX1_sum 135 = .ok (.ifCond .ge 7, 3) := by decide +kernel
theorem dX1_sum_138 : decode cX1_sum 138 = .ok (.iconst 1, 1) := by decide +kernel
theorem dX1_sum_139 : decode cX1_sum 139 = .ok (.goto 4, 3) := by decide +kernel
theorem dX1_sum_142 : decode cX1_sum 142 = .ok (.iconst 0, 1) := by decide +kernel
theorem dX1_sum_143 : decode cX1_sum 143 = .ok (.iload 8, 2) := by decide +kernel
theorem dX1_sum_145 : decode cX1_sum 145 = .ok (.ifCond .eq 11, 3) := by decide +kernel
theorem dX1_sum_148 : decode cX1_sum 148 = .ok (.lload 9, 2) := by decide +kernel
theorem dX1_sum_150 : decode cX1_sum 150 = .ok (.lload 11, 2) := by decide +kernel
theorem dX1_sum_152 : decode cX1_sum 152 = .ok (.ladd, 1) := by decide +kernel
theorem dX1_sum_153 : decode cX1_sum 153 = .ok (.goto 8, 3) := by decide +kernel
theorem dX1_sum_156 : decode cX1_sum 156 = .ok (.lload 9, 2) := by decide +kernel
theorem dX1_sum_158 : decode cX1_sum 158 = .ok (.lload 11, 2) := by decide +kernel
theorem dX1_sum_160 : decode cX1_sum 160 = .ok (.lsub, 1) := by decide +kernel
theorem dX1_sum_161 : decode cX1_sum 161 = .ok (.iload 6, 2) := by decide +kernel
theorem dX1_sum_163 : decode cX1_sum 163 = .ok (.invokestatic 48, 3) := by decide +kernel
theorem dX1_sum_166 : decode cX1_sum 166 = .ok (.invokestatic 15, 3) := by decide +kernel
theorem dX1_sum_169 : decode cX1_sum 169 = .ok (.ireturn, 1) := by decide +kernel
set_option maxRecDepth 20000 in
theorem ggX1_product_X4_magnitude : GoodIn wsX1_product wsX4_magnitude := goodIn_r _ [4] (by decide +kernel) (by decide +kernel)
set_option maxRecDepth 20000 in
theorem gX1_product_X4_magnitude : GoodIn wsX1_product (va_wsS RX1 32 yX4_magnitude wsX4_magnitude) := goodIn_app (goodIn_of _ (by decide +kernel)) ggX1_product_X4_magnitude
set_option maxRecDepth 20000 in
theorem ggX1_product_X1_significand : GoodIn wsX1_product wsX1_significand := goodIn_r _ [8, 9] (by decide +kernel) (by decide +kernel)
set_option maxRecDepth 20000 in
theorem gX1_product_X1_significand : GoodIn wsX1_product (va_wsS RX1 40 yX1_significand wsX1_significand) := goodIn_app (goodIn_of _ (by decide +kernel)) ggX1_product_X1_significand
set_option maxRecDepth 20000 in
theorem ggX1_product_X1_exponent : GoodIn wsX1_product wsX1_exponent := goodIn_r _ [12, 13, 14, 15, 16] (by decide +kernel) (by decide +kernel)
set_option maxRecDepth 20000 in
theorem gX1_product_X1_exponent : GoodIn wsX1_product (va_wsS RX1 48 yX1_exponent wsX1_exponent) := goodIn_app (goodIn_of _ (by decide +kernel)) ggX1_product_X1_exponent
set_option maxRecDepth 20000 in
theorem ggX1_product_X1_rounded : GoodIn wsX1_product wsX1_rounded := goodIn_r _ [19, 13, 14, 15, 16, 20, 21, 22, 23, 24, 25, 26, 27, 28, 29] (by decide +kernel) (by decide +kernel)
set_option maxRecDepth 20000 in
theorem gX1_product_X1_rounded : GoodIn wsX1_product (va_wsS RX1 15 yX1_rounded wsX1_rounded) := goodIn_app (goodIn_of _ (by decide +kernel)) ggX1_product_X1_rounded
theorem dX1_product_0 : decode cX1_product 0 = .ok (.iload_n 0, 1) := by decide +kernel
theorem dX1_product_1 : decode cX1_product 1 = .ok (.invokestatic 32, 3) := by decide +kernel
theorem dX1_product_4 : decode cX1_product 4 = .ok (.istore_n 2, 1) := by decide +kernel
theorem dX1_product_5 : decode cX1_product 5 = .ok (.iload_n 1, 1) := by decide +kernel

theorem dX1_product_6 : decode cX1_product 6 = .ok (.invokestatic 32, 3) := by decide +kernel
theorem dX1_product_9 : decode cX1_product 9 = .ok (.istore_n 3, 1) := by decide +kernel
theorem dX1_product_10 : decode cX1_product 10 = .ok (.iload_n 2, 1) := by decide +kernel
theorem dX1_product_11 : decode cX1_product 11 = .ok (.invokestatic 40, 3) := by decide +kernel
theorem dX1_product_14 : decode cX1_product 14 = .ok (.i2l, 1) := by decide +kernel
theorem dX1_product_15 : decode cX1_product 15 = .ok (.iload_n 3, 1) := by decide +kernel
theorem dX1_product_16 : decode cX1_product 16 = .ok (.invokestatic 40, 3) := by decide +kernel
theorem dX1_product_19 : decode cX1_product 19 = .ok (.i2l, 1) := by decide +kernel
theorem dX1_product_20 : decode cX1_product 20 = .ok (.lmul, 1) := by decide +kernel
theorem dX1_product_21 : decode cX1_product 21 = .ok (.lstore 4, 2) := by decide +kernel
theorem dX1_product_23 : decode cX1_product 23 = .ok (.iload_n 0, 1) := by decide +kernel
theorem dX1_product_24 : decode cX1_product 24 = .ok (.ifCond .ge 7, 3) := by decide +kernel
theorem dX1_product_27 : decode cX1_product 27 = .ok (.iconst 1, 1) := by decide +kernel
theorem dX1_product_28 : decode cX1_product 28 = .ok (.goto 4, 3) := by decide +kernel
theorem dX1_product_31 : decode cX1_product 31 = .ok (.iconst 0, 1) := by decide +kernel
theorem dX1_product_32 : decode cX1_product 32 = .ok (.iload_n 1, 1) := by decide +kernel
theorem dX1_product_33 : decode cX1_product 33 = .ok (.ifCond .ge 7, 3) := by decide +kernel
theorem dX1_product_36 : decode cX1_product 36 = .ok (.iconst 1, 1) := by decide +kernel
theorem dX1_product_37 : decode cX1_product 37 = .ok (.goto 4, 3) := by decide +kernel
theorem dX1_product_40 : decode cX1_product 40 = .ok (.iconst 0, 1) := by decide +kernel
theorem dX1_product_41 : decode cX1_product 41 = .ok (.if_icmp .eq 7, 3) := by decide +kernel
theorem dX1_product_44 : decode cX1_product 44 = .ok (.iconst 1, 1) := by decide +kernel
theorem dX1_product_45 : decode cX1_product 45 = .ok (.goto 4, 3) := by decide +kernel
theorem dX1_product_48 : decode cX1_product 48 = .ok (.iconst 0, 1) := by decide +kernel
theorem dX1_product_49 : decode cX1_product 49 = .ok (.lload 4, 2) := by decide +kernel
theorem dX1_product_51 : decode cX1_product 51 = .ok (.iload_n 2, 1) := by decide +kernel
theorem dX1_product_52 : decode cX1_product 52 = .ok (.invokestatic 48, 3) := by decide +kernel
theorem dX1_product_55 : decode cX1_product 55 = .ok (.iload_n 3, 1) := by decide +kernel
theorem dX1_product_56 : decode cX1_product 56 = .ok (.invokestatic 48, 3) := by decide +kernel
theorem dX1_product_59 : decode cX1_product 59 = .ok (.iadd, 1) := by decide +kernel
theorem dX1_product_60 : decode cX1_product 60 = .ok (.sipush 150, 3) := by decide +kernel
theorem dX1_product_63 : decode cX1_product 63 = .ok (.isub, 1) := by decide +kernel
theorem dX1_product_64 : decode cX1_product 64 = .ok (.invokestatic 15, 3) := by decide +kernel
theorem dX1_product_67 : decode cX1_product 67 = .ok (.ireturn, 1) := by decide +kernel
set_option maxRecDepth 20000 in
theorem ggX1_remainder_X4_magnitude : GoodIn wsX1_remainder wsX4_magnitude := goodIn_r _ [8] (by decide +kernel) (by decide +kernel)
set_option maxRecDepth 20000 in
theorem gX1_remainder_X4_magnitude : GoodIn wsX1_remainder (va_wsS RX1 32 yX4_magnitude wsX4_magnitude) := goodIn_app (goodIn_of _ (by decide +kernel)) ggX1_remainder_X4_magnitude
set_option maxRecDepth 20000 in
theorem ggX1_remainder_X1_significand : GoodIn wsX1_remainder wsX1_significand := goodIn_r _ [12, 13] (by decide +kernel) (by decide +kernel)
set_option maxRecDepth 20000 in
theorem gX1_remainder_X1_significand : GoodIn wsX1_remainder (va_wsS RX1 40 yX1_significand wsX1_significand) := goodIn_app (goodIn_of _ (by decide +kernel)) ggX1_remainder_X1_significand
set_option maxRecDepth 20000 in
theorem ggX1_remainder_X1_exponent : GoodIn wsX1_remainder wsX1_exponent := goodIn_r _ [16, 17, 18, 3, 19] (by decide +kernel) (by decide +kernel)
set_option maxRecDepth 20000 in
theorem gX1_remainder_X1_exponent : GoodIn wsX1_remainder (va_wsS RX1 48 yX1_exponent wsX1_exponent) := goodIn_app (goodIn_of _ (by decide +kernel)) ggX1_remainder_X1_exponent
set_option maxRecDepth 20000 in
theorem ggX1_remainder_X1_rounded : GoodIn wsX1_remainder wsX1_rounded := goodIn_r _ [22, 17, 18, 3, 19, 23, 24, 25, 26, 27, 28, 29, 30, 31, 32] (by decide +kernel) (by decide +kernel)
set_option maxRecDepth 20000 in
theorem gX1_remainder_X1_rounded : GoodIn wsX1_remainder (va_wsS RX1 15 yX1_rounded wsX1_rounded) := goodIn_app (goodIn_of _ (by decide +kernel)) ggX1_remainder_X1_rounded
theorem dX1_remainder_0 : decode cX1_remainder 0 = .ok (.iload_n 0, 1) := by decide +kernel
theorem dX1_remainder_1 : decode cX1_remainder 1 = .ok (.invokestatic 32, 3) := by decide +kernel
theorem dX1_remainder_4 : decode cX1_remainder 4 = .ok (.istore_n 2, 1) := by decide +kernel
theorem dX1_remainder_5 : decode cX1_remainder 5 = .ok (.iload_n 1, 1) := by decide +kernel
theorem dX1_remainder_6 : decode cX1_remainder 6 = .ok (.invokestatic 32, 3) := by decide +kernel
theorem dX1_remainder_9 : decode cX1_remainder 9 = .ok (.istore_n 3, 1) := by decide +kernel
theorem dX1_remainder_10 : decode cX1_remainder 10 = .ok (.iload_n 3, 1) := by decide +kernel
theorem dX1_remainder_11 : decode cX1_remainder 11 = .ok (.invokestatic 40, 3) := by decide +kernel
theorem dX1_remainder_14 : decode cX1_remainder 14 = .ok (.i2l, 1) := by decide +kernel
theorem dX1_remainder_15 : decode cX1_remainder 15 = .ok (.lstore 4, 2) := by decide +kernel
theorem dX1_remainder_17 : decode cX1_remainder 17 = .ok (.iload_n 2, 1) := by decide +kernel
theorem dX1_remainder_18 : decode cX1_remainder 18 = .ok (.iload_n 3, 1) := by decide +kernel
theorem dX1_remainder_19 : decode cX1_remainder 19 = .ok (.if_icmp .lt 10, 3) := by decide +kernel
theorem dX1_remainder_22 : decode cX1_remainder 22 = .ok (.lload 4, 2) := by decide +kernel
theorem dX1_remainder_24 : decode cX1_remainder 24 = .ok (.lconst 0, 1) := by decide +kernel
theorem dX1_remainder_25 : decode cX1_remainder 25 = .ok (.lcmp, 1) := by decide +kernel
theorem dX1_remainder_26 : decode cX1_remainder 26 = .ok (.ifCond .ne 5, 3) := by decide +kernel
theorem dX1_remainder_29 : decode cX1_remainder 29 = .ok (.iload_n 0, 1) := by decide +kernel
theorem dX1_remainder_30 : decode cX1_remainder 30 = .ok (.ireturn, 1) := by decide +kernel
theorem dX1_remainder_31 : decode cX1_remainder 31 = .ok (.iload_n 2, 1) := by decide +kernel
theorem dX1_remainder_32 : decode cX1_remainder 32 = .ok (.invokestatic 40, 3) := by decide +kernel
theorem dX1_remainder_35 : decode cX1_remainder 35 = .ok (.i2l, 1) := by decide +kernel
theorem dX1_remainder_36 : decode cX1_remainder 36 = .ok (.lload 4, 2) := by decide +kernel
theorem dX1_remainder_38 : decode cX1_remainder 38 = .ok (.lrem, 1) := by decide +kernel
theorem dX1_remainder_39 : decode cX1_remainder 39 = .ok (.lstore 6, 2) := by decide +kernel
theorem dX1_remainder_41 : decode cX1_remainder 41 = .ok (.iload_n 2, 1) := by decide +kernel
theorem dX1_remainder_42 : decode cX1_remainder 42 = .ok (.invokestatic 48, 3) := by decide +kernel
theorem dX1_remainder_45 : decode cX1_remainder 45 = .ok (.iload_n 3, 1) := by decide +kernel
theorem dX1_remainder_46 : decode cX1_remainder 46 = .ok (.invokestatic 48, 3) := by decide +kernel
theorem dX1_remainder_49 : decode cX1_remainder 49 = .ok (.isub, 1) := by decide +kernel
theorem dX1_remainder_50 : decode cX1_remainder 50 = .ok (.istore 8, 2) := by decide +kernel
theorem dX1_remainder_52 : decode cX1_remainder 52 = .ok (.iload 8, 2) := by decide +kernel
theorem dX1_remainder_54 : decode cX1_remainder 54 = .ok (.ifCond .le 24, 3) := by decide +kernel
theorem dX1_remainder_57 : decode cX1_remainder 57 = .ok (.lload 6, 2) := by decide +kernel
theorem dX1_remainder_59 : decode cX1_remainder 59 = .ok (.iload 8, 2) := by decide +kernel
theorem dX1_remainder_61 : decode cX1_remainder 61 = .ok (.bipush 32, 2) := by decide +kernel
theorem dX1_remainder_63 : decode cX1_remainder 63 = .ok (.invokestatic 51, 3) := by decide +kernel
theorem dX1_remainder_66 : decode cX1_remainder 66 = .ok (.lshl, 1) := by decide +kernel
theorem dX1_remainder_67 : decode cX1_remainder 67 = .ok (.lload 4, 2) := by decide +kernel
theorem dX1_remainder_69 : decode cX1_remainder 69 = .ok (.lrem, 1) := by decide +kernel
theorem dX1_remainder_70 : decode cX1_remainder 70 = .ok (.lstore 6, 2) := by decide +kernel
theorem dX1_remainder_72 : decode cX1_remainder 72 = .ok (.iinc 8 (-32), 3) := by decide +kernel
theorem dX1_remainder_75 : decode cX1_remainder 75 = .ok (.goto (-23), 3) := by decide +kernel
theorem dX1_remainder_78 : decode cX1_remainder 78 = .ok (.iload_n 0, 1) := by decide +kernel
theorem dX1_remainder_79 : decode cX1_remainder 79 = .ok (.ifCond .ge 7, 3) := by decide +kernel
theorem dX1_remainder_82 : decode cX1_remainder 82 = .ok (.iconst 1, 1) := by decide +kernel
theorem dX1_remainder_83 : decode cX1_remainder 83 = .ok (.goto 4, 3) := by decide +kernel
theorem dX1_remainder_86 : decode cX1_remainder 86 = .ok (.iconst 0, 1) := by decide +kernel
theorem dX1_remainder_87 : decode cX1_remainder 87 = .ok (.lload 6, 2) := by decide +kernel
theorem dX1_remainder_89 : decode cX1_remainder 89 = .ok (.iload_n 3, 1) := by decide +kernel
theorem dX1_remainder_90 : decode cX1_remainder 90 = .ok (.invokestatic 48, 3) := by decide +kernel
theorem dX1_remainder_93 : decode cX1_remainder 93 = .ok (.invokestatic 15, 3) := by decide +kernel
theorem dX1_remainder_96 : decode cX1_remainder 96 = .ok (.ireturn, 1) := by decide +kernel
set_option maxRecDepth 20000 in
theorem ggX1_rounded_J13_numberOfLeadingZeros_95d88 : GoodIn wsX1_rounded wsJ13_numberOfLeadingZeros_95d88 := goodIn_r _ [9, 10, 11, 12, 13, 14] (by decide +kernel) (by decide +kernel)
set_option maxRecDepth 20000 in
theorem gX1_rounded_J13_numberOfLeadingZeros_95d88 : GoodIn wsX1_rounded (va_wsS RX1 43 yJ13_numberOfLeadingZeros_95d88 wsJ13_numberOfLeadingZeros_95d88) := goodIn_app (goodIn_of _ (by decide +kernel)) ggX1_rounded_J13_numberOfLeadingZeros_95d88
theorem dX1_rounded_0 : decode cX1_rounded 0 = .ok (.iconst 0, 1) := by decide +kernel
theorem dX1_rounded_1 : decode cX1_rounded 1 = .ok (.istore 4, 2) := by decide +kernel
theorem dX1_rounded_3 : decode cX1_rounded 3 = .ok (.lload_n 1, 1) := by decide +kernel
theorem dX1_rounded_4 : decode cX1_rounded 4 = .ok (.lconst 0, 1) := by decide +kernel
theorem dX1_rounded_5 : decode cX1_rounded 5 = .ok (.lcmp, 1) := by decide +kernel
theorem dX1_rounded_6 : decode cX1_rounded 6 = .ok (.ifCond .eq 116, 3) := by decide +kernel
theorem dX1_rounded_9 : decode cX1_rounded 9 = .ok (.bipush 64, 2) := by decide +kernel
theorem dX1_rounded_11 : decode cX1_rounded 11 = .ok (.lload_n 1, 1) := by decide +kernel
theorem dX1_rounded_12 : decode cX1_rounded 12 = .ok (.invokestatic 43, 3) := by decide +kernel
theorem dX1_rounded_15 : decode cX1_rounded 15 = .ok (.isub, 1) := by decide +kernel
theorem dX1_rounded_16 : decode cX1_rounded 16 = .ok (.istore 5, 2) := by decide +kernel
theorem dX1_rounded_18 : decode cX1_rounded 18 = .ok (.iload_n 3, 1) := by decide +kernel
theorem dX1_rounded_19 : decode cX1_rounded 19 = .ok (.iload 5, 2) := by decide +kernel
theorem dX1_rounded_21 : decode cX1_rounded 21 = .ok (.iadd, 1) := by decide +kernel
theorem dX1_rounded_22 : decode cX1_rounded 22 = .ok (.bipush 24, 2) := by decide +kernel
theorem dX1_rounded_24 : decode cX1_rounded 24 = .ok (.isub, 1) := by decide +kernel
theorem dX1_rounded_25 : decode cX1_rounded 25 = .ok (.iconst 1, 1) := by decide +kernel
theorem dX1_rounded_26 : decode cX1_rounded 26 = .ok (.invokestatic 28, 3) := by decide +kernel
theorem dX1_rounded_29 : decode cX1_rounded 29 = .ok (.istore 6, 2) := by decide +kernel
theorem dX1_rounded_31 : decode cX1_rounded 31 = .ok (.iload 6, 2) := by decide +kernel
theorem dX1_rounded_33 : decode cX1_rounded 33 = .ok (.iload_n 3, 1) := by decide +kernel
theorem dX1_rounded_34 : decode cX1_rounded 34 = .ok (.isub, 1) := by decide +kernel
theorem dX1_rounded_35 : decode cX1_rounded 35 = .ok (.istore 7, 2) := by decide +kernel
theorem dX1_rounded_37 : decode cX1_rounded 37 = .ok (.iload 6, 2) := by decide +kernel
theorem dX1_rounded_39 : decode cX1_rounded 39 = .ok (.sipush 254, 3) := by decide +kernel
theorem dX1_rounded_42 : decode cX1_rounded 42 = .ok (.if_icmp .le 10, 3) := by decide +kernel
theorem dX1_rounded_45 : decode cX1_rounded 45 = .ok (.ldc 54, 2) := by decide +kernel
theorem dX1_rounded_47 : decode cX1_rounded 47 = .ok (.istore 4, 2) := by decide +kernel
theorem dX1_rounded_49 : decode cX1_rounded 49 = .ok (.goto 73, 3) := by decide +kernel
theorem dX1_rounded_52 : decode cX1_rounded 52 = .ok (.iload 7, 2) := by decide +kernel
theorem dX1_rounded_54 : decode cX1_rounded 54 = .ok (.ifCond .gt 22, 3) := by decide +kernel
theorem dX1_rounded_57 : decode cX1_rounded 57 = .ok (.iload 6, 2) := by decide +kernel
theorem dX1_rounded_59 : decode cX1_rounded 59 = .ok (.iconst 1, 1) := by decide +kernel
theorem dX1_rounded_60 : decode cX1_rounded 60 = .ok (.isub, 1) := by decide +kernel
theorem dX1_rounded_61 : decode cX1_rounded 61 = .ok (.bipush 23, 2) := by decide +kernel
theorem dX1_rounded_63 : decode cX1_rounded 63 = .ok (.ishl, 1) := by decide +kernel
theorem dX1_rounded_64 : decode cX1_rounded 64 = .ok (.lload_n 1, 1) := by decide +kernel
theorem dX1_rounded_65 : decode cX1_rounded 65 = .ok (.iload 7, 2) := by decide +kernel
theorem dX1_rounded_67 : decode cX1_rounded 67 = .ok (.ineg, 1) := by decide +kernel
theorem dX1_rounded_68 : decode cX1_rounded 68 = .ok (.lshl, 1) := by decide +kernel
theorem dX1_rounded_69 : decode cX1_rounded 69 = .ok (.l2i, 1) := by decide +kernel
theorem dX1_rounded_70 : decode cX1_rounded 70 = .ok (.iadd, 1) := by decide +kernel
theorem dX1_rounded_71 : decode cX1_rounded 71 = .ok (.istore 4, 2) := by decide +kernel
theorem dX1_rounded_73 : decode cX1_rounded 73 = .ok (.goto 49, 3) := by decide +kernel
theorem dX1_rounded_76 : decode cX1_rounded 76 = .ok (.iload 7, 2) := by decide +kernel
theorem dX1_rounded_78 : decode cX1_rounded 78 = .ok (.bipush 63, 2) := by decide +kernel
theorem dX1_rounded_80 : decode cX1_rounded 80 = .ok (.if_icmp .ge 42, 3) := by decide +kernel
theorem dX1_rounded_83 : decode cX1_rounded 83 = .ok (.lload_n 1, 1) := by decide +kernel
theorem dX1_rounded_84 : decode cX1_rounded 84 = .ok (.iload 7, 2) := by decide +kernel
theorem dX1_rounded_86 : decode cX1_rounded 86 = .ok (.lshr, 1) := by decide +kernel
theorem dX1_rounded_87 : decode cX1_rounded 87 = .ok (.lconst 1, 1) := by decide +kernel
theorem dX1_rounded_88 : decode cX1_rounded 88 = .ok (.land, 1) := by decide +kernel
theorem dX1_rounded_89 : decode cX1_rounded 89 = .ok (.lstore 8, 2) := by decide +kernel
theorem dX1_rounded_91 : decode cX1_rounded 91 = .ok (.lload_n 1, 1) := by decide +kernel
theorem dX1_rounded_92 : decode cX1_rounded 92 = .ok (.lconst 1, 1) := by decide +kernel
theorem dX1_rounded_93 : decode cX1_rounded 93 = .ok (.iload 7, 2) := by decide +kernel
theorem dX1_rounded_95 : decode cX1_rounded 95 = .ok (.iconst 1, 1) := by decide +kernel
theorem dX1_rounded_96 : decode cX1_rounded 96 = .ok (.isub, 1) := by decide +kernel
theorem dX1_rounded_97 : decode cX1_rounded 97 = .ok (.lshl, 1) := by decide +kernel
theorem dX1_rounded_98 : decode cX1_rounded 98 = .ok (.ladd, 1) := by decide +kernel
theorem dX1_rounded_99 : decode cX1_rounded 99 = .ok (.lconst 1, 1) := by decide +kernel
theorem dX1_rounded_100 : decode cX1_rounded 100 = .ok (.lsub, 1) := by decide +kernel
theorem dX1_rounded_101 : decode cX1_rounded 101 = .ok (.lload 8, 2) := by decide +kernel
theorem dX1_rounded_103 : decode cX1_rounded 103 = .ok (.ladd, 1) := by decide +kernel
theorem dX1_rounded_104 : decode cX1_rounded 104 = .ok (.iload 7, 2) := by decide +kernel
theorem dX1_rounded_106 : decode cX1_rounded 106 = .ok (.lshr, 1) := by decide +kernel
theorem dX1_rounded_107 : decode cX1_rounded 107 = .ok (.lstore 10, 2) := by decide +kernel
theorem dX1_rounded_109 : decode cX1_rounded 109 = .ok (.iload 6, 2) := by decide +kernel
theorem dX1_rounded_111 : decode cX1_rounded 111 = .ok (.iconst 1, 1) := by decide +kernel
theorem dX1_rounded_112 : decode cX1_rounded 112 = .ok (.isub, 1) := by decide +kernel
theorem dX1_rounded_113 : decode cX1_rounded 113 = .ok (.bipush 23, 2) := by decide +kernel
theorem dX1_rounded_115 : decode cX1_rounded 115 = .ok (.ishl, 1) := by decide +kernel
theorem dX1_rounded_116 : decode cX1_rounded 116 = .ok (.lload 10, 2) := by decide +kernel
theorem dX1_rounded_118 : decode cX1_rounded 118 = .ok (.l2i, 1) := by decide +kernel
theorem dX1_rounded_119 : decode cX1_rounded 119 = .ok (.iadd, 1) := by decide +kernel
theorem dX1_rounded_120 : decode cX1_rounded 120 = .ok (.istore 4, 2) := by decide +kernel
theorem dX1_rounded_122 : decode cX1_rounded 122 = .ok (.iload_n 0, 1) := by decide +kernel
theorem dX1_rounded_123 : decode cX1_rounded 123 = .ok (.ifCond .eq 10, 3) := by decide +kernel
theorem dX1_rounded_126 : decode cX1_rounded 126 = .ok (.iconst (-1), 1) := by decide +kernel
theorem dX1_rounded_127 : decode cX1_rounded 127 = .ok (.iload 4, 2) := by decide +kernel
theorem dX1_rounded_129 : decode cX1_rounded 129 = .ok (.isub, 1) := by decide +kernel
theorem dX1_rounded_130 : decode cX1_rounded 130 = .ok (.goto 5, 3) := by decide +kernel
theorem dX1_rounded_133 : decode cX1_rounded 133 = .ok (.iload 4, 2) := by decide +kernel
theorem dX1_rounded_135 : decode cX1_rounded 135 = .ok (.ireturn, 1) := by decide +kernel
theorem dX1_exponent_0 : decode cX1_exponent 0 = .ok (.iload_n 0, 1) := by decide +kernel
theorem dX1_exponent_1 : decode cX1_exponent 1 = .ok (.bipush 23, 2) := by decide +kernel
theorem dX1_exponent_3 : decode cX1_exponent 3 = .ok (.ishr, 1) := by decide +kernel
theorem dX1_exponent_4 : decode cX1_exponent 4 = .ok (.iconst 1, 1) := by decide +kernel
theorem dX1_exponent_5 : decode cX1_exponent 5 = .ok (.invokestatic 28, 3) := by decide +kernel
theorem dX1_exponent_8 : decode cX1_exponent 8 = .ok (.ireturn, 1) := by decide +kernel
theorem dX1_significand_0 : decode cX1_significand 0 = .ok (.ldc 55, 2) := by decide +kernel
theorem dX1_significand_2 : decode cX1_significand 2 = .ok (.istore_n 1, 1) := by decide +kernel
theorem dX1_significand_3 : decode cX1_significand 3 = .ok (.iload_n 0, 1) := by decide +kernel
theorem dX1_significand_4 : decode cX1_significand 4 = .ok (.iload_n 1, 1) := by decide +kernel
theorem dX1_significand_5 : decode cX1_significand 5 = .ok (.if_icmp .ge 7, 3) := by decide +kernel
theorem dX1_significand_8 : decode cX1_significand 8 = .ok (.iload_n 0, 1) := by decide +kernel
theorem dX1_significand_9 : decode cX1_significand 9 = .ok (.goto 10, 3) := by decide +kernel
theorem dX1_significand_12 : decode cX1_significand 12 = .ok (.iload_n 1, 1) := by decide +kernel
theorem dX1_significand_13 : decode cX1_significand 13 = .ok (.iload_n 0, 1) := by decide +kernel
theorem dX1_significand_14 : decode cX1_significand 14 = .ok (.iload_n 1, 1) := by decide +kernel
theorem dX1_significand_15 : decode cX1_significand 15 = .ok (.iconst 1, 1) := by decide +kernel
theorem dX1_significand_16 : decode cX1_significand 16 = .ok (.isub, 1) := by decide +kernel
theorem dX1_significand_17 : decode cX1_significand 17 = .ok (.iand, 1) := by decide +kernel
theorem dX1_significand_18 : decode cX1_significand 18 = .ok (.iadd, 1) := by decide +kernel
theorem dX1_significand_19 : decode cX1_significand 19 = .ok (.ireturn, 1) := by decide +kernel
theorem dX1_doubleExponent_0 : decode cX1_doubleExponent 0 = .ok (.lload_n 0, 1) := by decide +kernel
theorem dX1_doubleExponent_1 : decode cX1_doubleExponent 1 = .ok (.bipush 52, 2) := by decide +kernel
theorem dX1_doubleExponent_3 : decode cX1_doubleExponent 3 = .ok (.lushr, 1) := by decide +kernel
theorem dX1_doubleExponent_4 : decode cX1_doubleExponent 4 = .ok (.l2i, 1) := by decide +kernel
theorem dX1_doubleExponent_5 : decode cX1_doubleExponent 5 = .ok (.sipush 2047, 3) := by decide +kernel
theorem dX1_doubleExponent_8 : decode cX1_doubleExponent 8 = .ok (.iand, 1) := by decide +kernel
theorem dX1_doubleExponent_9 : decode cX1_doubleExponent 9 = .ok (.ireturn, 1) := by decide +kernel
theorem dX1_doubleFraction_0 : decode cX1_doubleFraction 0 = .ok (.lload_n 0, 1) := by decide +kernel
theorem dX1_doubleFraction_1 : decode cX1_doubleFraction 1 = .ok (.ldc2_w 56, 3) := by decide +kernel
theorem dX1_doubleFraction_4 : decode cX1_doubleFraction 4 = .ok (.land, 1) := by decide +kernel
theorem dX1_doubleFraction_5 : decode cX1_doubleFraction 5 = .ok (.lreturn, 1) := by decide +kernel
set_option maxRecDepth 20000 in
theorem ggX2_init_X3_init : GoodIn wsX2_init wsX3_init := goodIn_r _ [9, 10, 2, 3, 11, 12, 13, 14, 15, 16, 17, 21, 22, 23, 24, 25, 26, 27, 28] (by decide +kernel) (by decide +kernel)
set_option maxRecDepth 20000 in
theorem gX2_init_X3_init_n17 : GoodIn wsX2_init (wsX3_init) := ggX2_init_X3_init
theorem dX2_init_0 : decode cX2_init 0 = .ok (.aload_n 0, 1) := by decide +kernel
theorem dX2_init_1 : decode cX2_init 1 = .ok (.invokespecial 3, 3) := by decide +kernel
theorem dX2_init_4 : decode cX2_init 4 = .ok (.aload_n 0, 1) := by decide +kernel
theorem dX2_init_5 : decode cX2_init 5 = .ok (.iconst 5, 1) := by decide +kernel
theorem dX2_init_6 : decode cX2_init 6 = .ok (.anewarray 9, 3) := by decide +kernel
theorem dX2_init_9 : decode cX2_init 9 = .ok (.putfield 11, 3) := by decide +kernel
theorem dX2_init_12 : decode cX2_init 12 = .ok (.iconst 0, 1) := by decide +kernel
theorem dX2_init_13 : decode cX2_init 13 = .ok (.istore_n 1, 1) := by decide +kernel
theorem dX2_init_14 : decode cX2_init 14 = .ok (.iload_n 1, 1) := by decide +kernel
theorem dX2_init_15 : decode cX2_init 15 = .ok (.iconst 5, 1) := by decide +kernel
theorem dX2_init_16 : decode cX2_init 16 = .ok (.if_icmp .ge 22, 3) := by decide +kernel
theorem dX2_init_19 : decode cX2_init 19 = .ok (.aload_n 0, 1) := by decide +kernel
theorem dX2_init_20 : decode cX2_init 20 = .ok (.getfield 11, 3) := by decide +kernel
theorem dX2_init_23 : decode cX2_init 23 = .ok (.iload_n 1, 1) := by decide +kernel
theorem dX2_init_24 : decode cX2_init 24 = .ok (.new 9, 3) := by decide +kernel
theorem dX2_init_27 : decode cX2_init 27 = .ok (.dup, 1) := by decide +kernel
theorem dX2_init_28 : decode cX2_init 28 = .ok (.invokespecial 17, 3) := by decide +kernel
theorem dX2_init_31 : decode cX2_init 31 = .ok (.aastore, 1) := by decide +kernel
theorem dX2_init_32 : decode cX2_init 32 = .ok (.iinc 1 1, 3) := by decide +kernel
theorem dX2_init_35 : decode cX2_init 35 = .ok (.goto (-21), 3) := by decide +kernel
theorem dX2_init_38 : decode cX2_init 38 = .ok (.return_, 1) := by decide +kernel
set_option maxRecDepth 20000 in
theorem ggX2_keep_X3_copy : GoodIn wsX2_keep wsX3_copy := goodIn_r _ [12, 13, 14, 15, 16, 17, 18, 19, 20, 21, 22, 23, 24, 28, 29, 30, 31, 32, 33, 34, 35] (by decide +kernel) (by decide +kernel)
set_option maxRecDepth 20000 in
theorem gX2_keep_X3_copy : GoodIn wsX2_keep (wsV RX2 22 RX3 yX3_copy wsX3_copy) := goodIn_app (goodIn_of _ (by decide +kernel)) ggX2_keep_X3_copy
theorem dX2_keep_0 : decode cX2_keep 0 = .ok (.aload_n 0, 1) := by decide +kernel
theorem dX2_keep_1 : decode cX2_keep 1 = .ok (.getfield 11, 3) := by decide +kernel
theorem dX2_keep_4 : decode cX2_keep 4 = .ok (.aload_n 0, 1) := by decide +kernel
theorem dX2_keep_5 : decode cX2_keep 5 = .ok (.getfield 18, 3) := by decide +kernel
theorem dX2_keep_8 : decode cX2_keep 8 = .ok (.aaload, 1) := by decide +kernel
theorem dX2_keep_9 : decode cX2_keep 9 = .ok (.aload_n 1, 1) := by decide +kernel
theorem dX2_keep_10 : decode cX2_keep 10 = .ok (.invokevirtual 22, 3) := by decide +kernel
theorem dX2_keep_13 : decode cX2_keep 13 = .ok (.aload_n 0, 1) := by decide +kernel
theorem dX2_keep_14 : decode cX2_keep 14 = .ok (.aload_n 0, 1) := by decide +kernel
theorem dX2_keep_15 : decode cX2_keep 15 = .ok (.getfield 18, 3) := by decide +kernel
theorem dX2_keep_18 : decode cX2_keep 18 = .ok (.iconst 1, 1) := by decide +kernel
theorem dX2_keep_19 : decode cX2_keep 19 = .ok (.iadd, 1) := by decide +kernel
theorem dX2_keep_20 : decode cX2_keep 20 = .ok (.iconst 5, 1) := by decide +kernel
theorem dX2_keep_21 : decode cX2_keep 21 = .ok (.irem, 1) := by decide +kernel
theorem dX2_keep_22 : decode cX2_keep 22 = .ok (.putfield 18, 3) := by decide +kernel
theorem dX2_keep_25 : decode cX2_keep 25 = .ok (.aload_n 0, 1) := by decide +kernel
theorem dX2_keep_26 : decode cX2_keep 26 = .ok (.aload_n 0, 1) := by decide +kernel
theorem dX2_keep_27 : decode cX2_keep 27 = .ok (.getfield 26, 3) := by decide +kernel
theorem dX2_keep_30 : decode cX2_keep 30 = .ok (.iconst 1, 1) := by decide +kernel
theorem dX2_keep_31 : decode cX2_keep 31 = .ok (.iadd, 1) := by decide +kernel
theorem dX2_keep_32 : decode cX2_keep 32 = .ok (.iconst 5, 1) := by decide +kernel
theorem dX2_keep_33 : decode cX2_keep 33 = .ok (.invokestatic 29, 3) := by decide +kernel
theorem dX2_keep_36 : decode cX2_keep 36 = .ok (.putfield 26, 3) := by decide +kernel
theorem dX2_keep_39 : decode cX2_keep 39 = .ok (.return_, 1) := by decide +kernel
set_option maxRecDepth 20000 in
theorem ggX2_giveBack_X3_copy : GoodIn wsX2_giveBack wsX3_copy := goodIn_r _ [8, 9, 10, 11, 12, 13, 14, 15, 16, 17, 18, 19, 20, 24, 25, 26, 27, 28, 29, 30, 31] (by decide +kernel) (by decide +kernel)
set_option maxRecDepth 20000 in
theorem gX2_giveBack_X3_copy : GoodIn wsX2_giveBack (wsV RX2 22 RX3 yX3_copy wsX3_copy) := goodIn_app (goodIn_of _ (by decide +kernel)) ggX2_giveBack_X3_copy
theorem dX2_giveBack_0 : decode cX2_giveBack 0 = .ok (.aload_n 0, 1) := by decide +kernel
theorem dX2_giveBack_1 : decode cX2_giveBack 1 = .ok (.aload_n 0, 1) := by decide +kernel
theorem dX2_giveBack_2 : decode cX2_giveBack 2 = .ok (.getfield 18, 3) := by decide +kernel
theorem dX2_giveBack_5 : decode cX2_giveBack 5 = .ok (.iconst 5, 1) := by decide +kernel
theorem dX2_giveBack_6 : decode cX2_giveBack 6 = .ok (.iadd, 1) := by decide +kernel
theorem dX2_giveBack_7 : decode cX2_giveBack 7 = .ok (.iconst 1, 1) := by decide +kernel
theorem dX2_giveBack_8 : decode cX2_giveBack 8 = .ok (.isub, 1) := by decide +kernel
theorem dX2_giveBack_9 : decode cX2_giveBack 9 = .ok (.iconst 5, 1) := by decide +kernel
theorem dX2_giveBack_10 : decode cX2_giveBack 10 = .ok (.irem, 1) := by decide +kernel
theorem dX2_giveBack_11 : decode cX2_giveBack 11 = .ok (.putfield 18, 3) := by decide +kernel
theorem dX2_giveBack_14 : decode cX2_giveBack 14 = .ok (.aload_n 0, 1) := by decide +kernel
theorem dX2_giveBack_15 : decode cX2_giveBack 15 = .ok (.dup, 1) := by decide +kernel
theorem dX2_giveBack_16 : decode cX2_giveBack 16 = .ok (.getfield 26, 3) := by decide +kernel
theorem dX2_giveBack_19 : decode cX2_giveBack 19 = .ok (.iconst 1, 1) := by decide +kernel
theorem dX2_giveBack_20 : decode cX2_giveBack 20 = .ok (.isub, 1) := by decide +kernel
theorem dX2_giveBack_21 : decode cX2_giveBack 21 = .ok (.putfield 26, 3) := by decide +kernel
theorem dX2_giveBack_24 : decode cX2_giveBack 24 = .ok (.aload_n 1, 1) := by decide +kernel
theorem dX2_giveBack_25 : decode cX2_giveBack 25 = .ok (.aload_n 0, 1) := by decide +kernel
theorem dX2_giveBack_26 : decode cX2_giveBack 26 = .ok (.getfield 11, 3) := by decide +kernel
theorem dX2_giveBack_29 : decode cX2_giveBack 29 = .ok (.aload_n 0, 1) := by decide +kernel
theorem dX2_giveBack_30 : decode cX2_giveBack 30 = .ok (.getfield 18, 3) := by decide +kernel
theorem dX2_giveBack_33 : decode cX2_giveBack 33 = .ok (.aaload, 1) := by decide +kernel
theorem dX2_giveBack_34 : decode cX2_giveBack 34 = .ok (.invokevirtual 22, 3) := by decide +kernel
theorem dX2_giveBack_37 : decode cX2_giveBack 37 = .ok (.return_, 1) := by decide +kernel
theorem dX3_init_0 : decode cX3_init 0 = .ok (.aload_n 0, 1) := by decide +kernel
theorem dX3_init_1 : decode cX3_init 1 = .ok (.invokespecial 3, 3) := by decide +kernel
theorem dX3_init_4 : decode cX3_init 4 = .ok (.aload_n 0, 1) := by decide +kernel
theorem dX3_init_5 : decode cX3_init 5 = .ok (.bipush 6, 2) := by decide +kernel
theorem dX3_init_7 : decode cX3_init 7 = .ok (.newarray .int, 2) := by decide +kernel
theorem dX3_init_9 : decode cX3_init 9 = .ok (.putfield 9, 3) := by decide +kernel
theorem dX3_init_12 : decode cX3_init 12 = .ok (.aload_n 0, 1) := by decide +kernel
theorem dX3_init_13 : decode cX3_init 13 = .ok (.bipush 6, 2) := by decide +kernel
theorem dX3_init_15 : decode cX3_init 15 = .ok (.newarray .int, 2) := by decide +kernel
theorem dX3_init_17 : decode cX3_init 17 = .ok (.putfield 15, 3) := by decide +kernel
theorem dX3_init_20 : decode cX3_init 20 = .ok (.aload_n 0, 1) := by decide +kernel
theorem dX3_init_21 : decode cX3_init 21 = .ok (.bipush 6, 2) := by decide +kernel
theorem dX3_init_23 : decode cX3_init 23 = .ok (.newarray .int, 2) := by decide +kernel
theorem dX3_init_25 : decode cX3_init 25 = .ok (.putfield 18, 3) := by decide +kernel
theorem dX3_init_28 : decode cX3_init 28 = .ok (.aload_n 0, 1) := by decide +kernel
theorem dX3_init_29 : decode cX3_init 29 = .ok (.bipush 6, 2) := by decide +kernel
theorem dX3_init_31 : decode cX3_init 31 = .ok (.newarray .int, 2) := by decide +kernel
theorem dX3_init_33 : decode cX3_init 33 = .ok (.putfield 21, 3) := by decide +kernel
theorem dX3_init_36 : decode cX3_init 36 = .ok (.aload_n 0, 1) := by decide +kernel
theorem dX3_init_37 : decode cX3_init 37 = .ok (.bipush 6, 2) := by decide +kernel
theorem dX3_init_39 : decode cX3_init 39 = .ok (.newarray .int, 2) := by decide +kernel
theorem dX3_init_41 : decode cX3_init 41 = .ok (.putfield 24, 3) := by decide +kernel
theorem dX3_init_44 : decode cX3_init 44 = .ok (.aload_n 0, 1) := by decide +kernel
theorem dX3_init_45 : decode cX3_init 45 = .ok (.bipush 6, 2) := by decide +kernel
theorem dX3_init_47 : decode cX3_init 47 = .ok (.newarray .int, 2) := by decide +kernel
theorem dX3_init_49 : decode cX3_init 49 = .ok (.putfield 27, 3) := by decide +kernel
theorem dX3_init_52 : decode cX3_init 52 = .ok (.return_, 1) := by decide +kernel
theorem dX3_copy_0 : decode cX3_copy 0 = .ok (.aload_n 0, 1) := by decide +kernel
theorem dX3_copy_1 : decode cX3_copy 1 = .ok (.aload_n 1, 1) := by decide +kernel
theorem dX3_copy_2 : decode cX3_copy 2 = .ok (.getfield 30, 3) := by decide +kernel
theorem dX3_copy_5 : decode cX3_copy 5 = .ok (.putfield 30, 3) := by decide +kernel
theorem dX3_copy_8 : decode cX3_copy 8 = .ok (.aload_n 0, 1) := by decide +kernel
theorem dX3_copy_9 : decode cX3_copy 9 = .ok (.aload_n 1, 1) := by decide +kernel
theorem dX3_copy_10 : decode cX3_copy 10 = .ok (.getfield 34, 3) := by decide +kernel
theorem dX3_copy_13 : decode cX3_copy 13 = .ok (.putfield 34, 3) := by decide +kernel
theorem dX3_copy_16 : decode cX3_copy 16 = .ok (.aload_n 1, 1) := by decide +kernel
theorem dX3_copy_17 : decode cX3_copy 17 = .ok (.getfield 9, 3) := by decide +kernel
theorem dX3_copy_20 : decode cX3_copy 20 = .ok (.iconst 0, 1) := by decide +kernel
theorem dX3_copy_21 : decode cX3_copy 21 = .ok (.aload_n 0, 1) := by decide +kernel
theorem dX3_copy_22 : decode cX3_copy 22 = .ok (.getfield 9, 3) := by decide +kernel
theorem dX3_copy_25 : decode cX3_copy 25 = .ok (.iconst 0, 1) := by decide +kernel
theorem dX3_copy_26 : decode cX3_copy 26 = .ok (.bipush 6, 2) := by decide +kernel
theorem dX3_copy_28 : decode cX3_copy 28 = .ok (.invokestatic 37, 3) := by decide +kernel
theorem dX3_copy_31 : decode cX3_copy 31 = .ok (.aload_n 1, 1) := by decide +kernel
theorem dX3_copy_32 : decode cX3_copy 32 = .ok (.getfield 15, 3) := by decide +kernel
theorem dX3_copy_35 : decode cX3_copy 35 = .ok (.iconst 0, 1) := by decide +kernel
theorem dX3_copy_36 : decode cX3_copy 36 = .ok (.aload_n 0, 1) := by decide +kernel
theorem dX3_copy_37 : decode cX3_copy 37 = .ok (.getfield 15, 3) := by decide +kernel
theorem dX3_copy_40 : decode cX3_copy 40 = .ok (.iconst 0, 1) := by decide +kernel
theorem dX3_copy_41 : decode cX3_copy 41 = .ok (.bipush 6, 2) := by decide +kernel
theorem dX3_copy_43 : decode cX3_copy 43 = .ok (.invokestatic 37, 3) := by decide +kernel
theorem dX3_copy_46 : decode cX3_copy 46 = .ok (.aload_n 1, 1) := by decide +kernel
theorem dX3_copy_47 : decode cX3_copy 47 = .ok (.getfield 18, 3) := by decide +kernel
theorem dX3_copy_50 : decode cX3_copy 50 = .ok (.iconst 0, 1) := by decide +kernel
theorem dX3_copy_51 : decode cX3_copy 51 = .ok (.aload_n 0, 1) := by decide +kernel
theorem dX3_copy_52 : decode cX3_copy 52 = .ok (.getfield 18, 3) := by decide +kernel
theorem dX3_copy_55 : decode cX3_copy 55 = .ok (.iconst 0, 1) := by decide +kernel
theorem dX3_copy_56 : decode cX3_copy 56 = .ok (.bipush 6, 2) := by decide +kernel
theorem dX3_copy_58 : decode cX3_copy 58 = .ok (.invokestatic 37, 3) := by decide +kernel
theorem dX3_copy_61 : decode cX3_copy 61 = .ok (.aload_n 1, 1) := by decide +kernel
theorem dX3_copy_62 : decode cX3_copy 62 = .ok (.getfield 21, 3) := by decide +kernel
theorem dX3_copy_65 : decode cX3_copy 65 = .ok (.iconst 0, 1) := by decide +kernel
theorem dX3_copy_66 : decode cX3_copy 66 = .ok (.aload_n 0, 1) := by decide +kernel
theorem dX3_copy_67 : decode cX3_copy 67 = .ok (.getfield 21, 3) := by decide +kernel
theorem dX3_copy_70 : decode cX3_copy 70 = .ok (.iconst 0, 1) := by decide +kernel
theorem dX3_copy_71 : decode cX3_copy 71 = .ok (.bipush 6, 2) := by decide +kernel
theorem dX3_copy_73 : decode cX3_copy 73 = .ok (.invokestatic 37, 3) := by decide +kernel
theorem dX3_copy_76 : decode cX3_copy 76 = .ok (.aload_n 1, 1) := by decide +kernel
theorem dX3_copy_77 : decode cX3_copy 77 = .ok (.getfield 24, 3) := by decide +kernel
theorem dX3_copy_80 : decode cX3_copy 80 = .ok (.iconst 0, 1) := by decide +kernel
theorem dX3_copy_81 : decode cX3_copy 81 = .ok (.aload_n 0, 1) := by decide +kernel
theorem dX3_copy_82 : decode cX3_copy 82 = .ok (.getfield 24, 3) := by decide +kernel
theorem dX3_copy_85 : decode cX3_copy 85 = .ok (.iconst 0, 1) := by decide +kernel
theorem dX3_copy_86 : decode cX3_copy 86 = .ok (.bipush 6, 2) := by decide +kernel
theorem dX3_copy_88 : decode cX3_copy 88 = .ok (.invokestatic 37, 3) := by decide +kernel
theorem dX3_copy_91 : decode cX3_copy 91 = .ok (.aload_n 1, 1) := by decide +kernel
theorem dX3_copy_92 : decode cX3_copy 92 = .ok (.getfield 27, 3) := by decide +kernel
theorem dX3_copy_95 : decode cX3_copy 95 = .ok (.iconst 0, 1) := by decide +kernel
theorem dX3_copy_96 : decode cX3_copy 96 = .ok (.aload_n 0, 1) := by decide +kernel
theorem dX3_copy_97 : decode cX3_copy 97 = .ok (.getfield 27, 3) := by decide +kernel
theorem dX3_copy_100 : decode cX3_copy 100 = .ok (.iconst 0, 1) := by decide +kernel
theorem dX3_copy_101 : decode cX3_copy 101 = .ok (.bipush 6, 2) := by decide +kernel
theorem dX3_copy_103 : decode cX3_copy 103 = .ok (.invokestatic 37, 3) := by decide +kernel
theorem dX3_copy_106 : decode cX3_copy 106 = .ok (.return_, 1) := by decide +kernel
theorem dX3_hasUnknown_0 : decode cX3_hasUnknown 0 = .ok (.iload_n 1, 1) := by decide +kernel
theorem dX3_hasUnknown_1 : decode cX3_hasUnknown 1 = .ok (.ifCond .lt 15, 3) := by decide +kernel
theorem dX3_hasUnknown_4 : decode cX3_hasUnknown 4 = .ok (.iload_n 1, 1) := by decide +kernel
theorem dX3_hasUnknown_5 : decode cX3_hasUnknown 5 = .ok (.aload_n 0, 1) := by decide +kernel
theorem dX3_hasUnknown_6 : decode cX3_hasUnknown 6 = .ok (.getfield 30, 3) := by decide +kernel
theorem dX3_hasUnknown_9 : decode cX3_hasUnknown 9 = .ok (.if_icmp .ge 7, 3) := by decide +kernel
theorem dX3_hasUnknown_12 : decode cX3_hasUnknown 12 = .ok (.iconst 1, 1) := by decide +kernel
theorem dX3_hasUnknown_13 : decode cX3_hasUnknown 13 = .ok (.goto 4, 3) := by decide +kernel
theorem dX3_hasUnknown_16 : decode cX3_hasUnknown 16 = .ok (.iconst 0, 1) := by decide +kernel
theorem dX3_hasUnknown_17 : decode cX3_hasUnknown 17 = .ok (.ireturn, 1) := by decide +kernel
theorem dX3_hasRule_0 : decode cX3_hasRule 0 = .ok (.iload_n 1, 1) := by decide +kernel
theorem dX3_hasRule_1 : decode cX3_hasRule 1 = .ok (.ifCond .lt 15, 3) := by decide +kernel
theorem dX3_hasRule_4 : decode cX3_hasRule 4 = .ok (.iload_n 1, 1) := by decide +kernel
theorem dX3_hasRule_5 : decode cX3_hasRule 5 = .ok (.aload_n 0, 1) := by decide +kernel
theorem dX3_hasRule_6 : decode cX3_hasRule 6 = .ok (.getfield 34, 3) := by decide +kernel
theorem dX3_hasRule_9 : decode cX3_hasRule 9 = .ok (.if_icmp .ge 7, 3) := by decide +kernel
theorem dX3_hasRule_12 : decode cX3_hasRule 12 = .ok (.iconst 1, 1) := by decide +kernel
theorem dX3_hasRule_13 : decode cX3_hasRule 13 = .ok (.goto 4, 3) := by decide +kernel
theorem dX3_hasRule_16 : decode cX3_hasRule 16 = .ok (.iconst 0, 1) := by decide +kernel
theorem dX3_hasRule_17 : decode cX3_hasRule 17 = .ok (.ireturn, 1) := by decide +kernel
set_option maxRecDepth 20000 in
theorem ggX3_refusalOfUnknown_X4_isRange : GoodIn wsX3_refusalOfUnknown wsX4_isRange := goodIn_r _ [7, 8, 9, 6, 10, 11, 12] (by decide +kernel) (by decide +kernel)
set_option maxRecDepth 20000 in
theorem gX3_refusalOfUnknown_X4_isRange : GoodIn wsX3_refusalOfUnknown (va_wsS RX3 43 yX4_isRange wsX4_isRange) := goodIn_app (goodIn_of _ (by decide +kernel)) ggX3_refusalOfUnknown_X4_isRange
theorem dX3_refusalOfUnknown_0 : decode cX3_refusalOfUnknown 0 = .ok (.iload_n 1, 1) := by decide +kernel
theorem dX3_refusalOfUnknown_1 : decode cX3_refusalOfUnknown 1 = .ok (.iload_n 2, 1) := by decide +kernel
theorem dX3_refusalOfUnknown_2 : decode cX3_refusalOfUnknown 2 = .ok (.invokestatic 43, 3) := by decide +kernel
theorem dX3_refusalOfUnknown_5 : decode cX3_refusalOfUnknown 5 = .ok (.ifCond .ne 6, 3) := by decide +kernel
theorem dX3_refusalOfUnknown_8 : decode cX3_refusalOfUnknown 8 = .ok (.ldc 49, 2) := by decide +kernel
theorem dX3_refusalOfUnknown_10 : decode cX3_refusalOfUnknown 10 = .ok (.ireturn, 1) := by decide +kernel
theorem dX3_refusalOfUnknown_11 : decode cX3_refusalOfUnknown 11 = .ok (.aload_n 0, 1) := by decide +kernel
theorem dX3_refusalOfUnknown_12 : decode cX3_refusalOfUnknown 12 = .ok (.getfield 30, 3) := by decide +kernel
theorem dX3_refusalOfUnknown_15 : decode cX3_refusalOfUnknown 15 = .ok (.bipush 6, 2) := by decide +kernel
theorem dX3_refusalOfUnknown_17 : decode cX3_refusalOfUnknown 17 = .ok (.if_icmp .lt 8, 3) := by decide +kernel
theorem dX3_refusalOfUnknown_20 : decode cX3_refusalOfUnknown 20 = .ok (.ldc 50, 2) := by decide +kernel
theorem dX3_refusalOfUnknown_22 : decode cX3_refusalOfUnknown 22 = .ok (.goto 4, 3) := by decide +kernel
theorem dX3_refusalOfUnknown_25 : decode cX3_refusalOfUnknown 25 = .ok (.iconst 0, 1) := by decide +kernel
theorem dX3_refusalOfUnknown_26 : decode cX3_refusalOfUnknown 26 = .ok (.ireturn, 1) := by decide +kernel
theorem dX3_addUnknown_0 : decode cX3_addUnknown 0 = .ok (.aload_n 0, 1) := by decide +kernel
theorem dX3_addUnknown_1 : decode cX3_addUnknown 1 = .ok (.getfield 9, 3) := by decide +kernel
theorem dX3_addUnknown_4 : decode cX3_addUnknown 4 = .ok (.aload_n 0, 1) := by decide +kernel
theorem dX3_addUnknown_5 : decode cX3_addUnknown 5 = .ok (.getfield 30, 3) := by decide +kernel
theorem dX3_addUnknown_8 : decode cX3_addUnknown 8 = .ok (.iload_n 1, 1) := by decide +kernel
theorem dX3_addUnknown_9 : decode cX3_addUnknown 9 = .ok (.iastore, 1) := by decide +kernel
theorem dX3_addUnknown_10 : decode cX3_addUnknown 10 = .ok (.aload_n 0, 1) := by decide +kernel
theorem dX3_addUnknown_11 : decode cX3_addUnknown 11 = .ok (.getfield 15, 3) := by decide +kernel
theorem dX3_addUnknown_14 : decode cX3_addUnknown 14 = .ok (.aload_n 0, 1) := by decide +kernel
theorem dX3_addUnknown_15 : decode cX3_addUnknown 15 = .ok (.getfield 30, 3) := by decide +kernel
theorem dX3_addUnknown_18 : decode cX3_addUnknown 18 = .ok (.iload_n 2, 1) := by decide +kernel
theorem dX3_addUnknown_19 : decode cX3_addUnknown 19 = .ok (.iastore, 1) := by decide +kernel
theorem dX3_addUnknown_20 : decode cX3_addUnknown 20 = .ok (.aload_n 0, 1) := by decide +kernel
theorem dX3_addUnknown_21 : decode cX3_addUnknown 21 = .ok (.dup, 1) := by decide +kernel
theorem dX3_addUnknown_22 : decode cX3_addUnknown 22 = .ok (.getfield 30, 3) := by decide +kernel
theorem dX3_addUnknown_25 : decode cX3_addUnknown 25 = .ok (.iconst 1, 1) := by decide +kernel
theorem dX3_addUnknown_26 : decode cX3_addUnknown 26 = .ok (.iadd, 1) := by decide +kernel
theorem dX3_addUnknown_27 : decode cX3_addUnknown 27 = .ok (.putfield 30, 3) := by decide +kernel
theorem dX3_addUnknown_30 : decode cX3_addUnknown 30 = .ok (.aload_n 0, 1) := by decide +kernel
theorem dX3_addUnknown_31 : decode cX3_addUnknown 31 = .ok (.getfield 30, 3) := by decide +kernel
theorem dX3_addUnknown_34 : decode cX3_addUnknown 34 = .ok (.iconst 1, 1) := by decide +kernel
theorem dX3_addUnknown_35 : decode cX3_addUnknown 35 = .ok (.isub, 1) := by decide +kernel
theorem dX3_addUnknown_36 : decode cX3_addUnknown 36 = .ok (.ireturn, 1) := by decide +kernel
set_option maxRecDepth 20000 in
theorem ggX3_refusalOfRule_X3_hasUnknown : GoodIn wsX3_refusalOfRule wsX3_hasUnknown := goodIn_r _ [8, 9, 10, 11, 12, 13, 14, 15, 16, 17] (by decide +kernel) (by decide +kernel)
set_option maxRecDepth 20000 in
theorem gX3_refusalOfRule_X3_hasUnknown : GoodIn wsX3_refusalOfRule (wsV RX3 51 RX3 yX3_hasUnknown wsX3_hasUnknown) := goodIn_app (goodIn_of _ (by decide +kernel)) ggX3_refusalOfRule_X3_hasUnknown
theorem dX3_refusalOfRule_0 : decode cX3_refusalOfRule 0 = .ok (.iload_n 1, 1) := by decide +kernel
theorem dX3_refusalOfRule_1 : decode cX3_refusalOfRule 1 = .ok (.ifCond .lt 24, 3) := by decide +kernel
theorem dX3_refusalOfRule_4 : decode cX3_refusalOfRule 4 = .ok (.iload_n 1, 1) := by decide +kernel
theorem dX3_refusalOfRule_5 : decode cX3_refusalOfRule 5 = .ok (.iconst 5, 1) := by decide +kernel
theorem dX3_refusalOfRule_6 : decode cX3_refusalOfRule 6 = .ok (.if_icmp .gt 19, 3) := by decide +kernel
theorem dX3_refusalOfRule_9 : decode cX3_refusalOfRule 9 = .ok (.aload_n 0, 1) := by decide +kernel
theorem dX3_refusalOfRule_10 : decode cX3_refusalOfRule 10 = .ok (.iload_n 2, 1) := by decide +kernel
theorem dX3_refusalOfRule_11 : decode cX3_refusalOfRule 11 = .ok (.invokevirtual 51, 3) := by decide +kernel
theorem dX3_refusalOfRule_14 : decode cX3_refusalOfRule 14 = .ok (.ifCond .eq 11, 3) := by decide +kernel
theorem dX3_refusalOfRule_17 : decode cX3_refusalOfRule 17 = .ok (.aload_n 0, 1) := by decide +kernel
theorem dX3_refusalOfRule_18 : decode cX3_refusalOfRule 18 = .ok (.iload_n 3, 1) := by decide +kernel
theorem dX3_refusalOfRule_19 : decode cX3_refusalOfRule 19 = .ok (.invokevirtual 51, 3) := by decide +kernel
theorem dX3_refusalOfRule_22 : decode cX3_refusalOfRule 22 = .ok (.ifCond .ne 6, 3) := by decide +kernel
theorem dX3_refusalOfRule_25 : decode cX3_refusalOfRule 25 = .ok (.ldc 49, 2) := by decide +kernel
theorem dX3_refusalOfRule_27 : decode cX3_refusalOfRule 27 = .ok (.ireturn, 1) := by decide +kernel
theorem dX3_refusalOfRule_28 : decode cX3_refusalOfRule 28 = .ok (.iload_n 1, 1) := by decide +kernel
theorem dX3_refusalOfRule_29 : decode cX3_refusalOfRule 29 = .ok (.iconst 3, 1) := by decide +kernel
theorem dX3_refusalOfRule_30 : decode cX3_refusalOfRule 30 = .ok (.if_icmp .ge 15, 3) := by decide +kernel
theorem dX3_refusalOfRule_33 : decode cX3_refusalOfRule 33 = .ok (.aload_n 0, 1) := by decide +kernel
theorem dX3_refusalOfRule_34 : decode cX3_refusalOfRule 34 = .ok (.iload 4, 2) := by decide +kernel
theorem dX3_refusalOfRule_36 : decode cX3_refusalOfRule 36 = .ok (.invokevirtual 51, 3) := by decide +kernel
theorem dX3_refusalOfRule_39 : decode cX3_refusalOfRule 39 = .ok (.ifCond .ne 14, 3) := by decide +kernel
theorem dX3_refusalOfRule_42 : decode cX3_refusalOfRule 42 = .ok (.goto 8, 3) := by decide +kernel
theorem dX3_refusalOfRule_45 : decode cX3_refusalOfRule 45 = .ok (.iload 4, 2) := by decide +kernel
theorem dX3_refusalOfRule_47 : decode cX3_refusalOfRule 47 = .ok (.ifCond .eq 6, 3) := by decide +kernel
theorem dX3_refusalOfRule_50 : decode cX3_refusalOfRule 50 = .ok (.ldc 49, 2) := by decide +kernel
theorem dX3_refusalOfRule_52 : decode cX3_refusalOfRule 52 = .ok (.ireturn, 1) := by decide +kernel
theorem dX3_refusalOfRule_53 : decode cX3_refusalOfRule 53 = .ok (.aload_n 0, 1) := by decide +kernel
theorem dX3_refusalOfRule_54 : decode cX3_refusalOfRule 54 = .ok (.getfield 34, 3) := by decide +kernel
theorem dX3_refusalOfRule_57 : decode cX3_refusalOfRule 57 = .ok (.bipush 6, 2) := by decide +kernel
theorem dX3_refusalOfRule_59 : decode cX3_refusalOfRule 59 = .ok (.if_icmp .lt 8, 3) := by decide +kernel
theorem dX3_refusalOfRule_62 : decode cX3_refusalOfRule 62 = .ok (.ldc 50, 2) := by decide +kernel
theorem dX3_refusalOfRule_64 : decode cX3_refusalOfRule 64 = .ok (.goto 4, 3) := by decide +kernel
theorem dX3_refusalOfRule_67 : decode cX3_refusalOfRule 67 = .ok (.iconst 0, 1) := by decide +kernel
theorem dX3_refusalOfRule_68 : decode cX3_refusalOfRule 68 = .ok (.ireturn, 1) := by decide +kernel
theorem dX3_addRule_0 : decode cX3_addRule 0 = .ok (.aload_n 0, 1) := by decide +kernel
theorem dX3_addRule_1 : decode cX3_addRule 1 = .ok (.getfield 18, 3) := by decide +kernel
theorem dX3_addRule_4 : decode cX3_addRule 4 = .ok (.aload_n 0, 1) := by decide +kernel
theorem dX3_addRule_5 : decode cX3_addRule 5 = .ok (.getfield 34, 3) := by decide +kernel
theorem dX3_addRule_8 : decode cX3_addRule 8 = .ok (.iload_n 1, 1) := by decide +kernel
theorem dX3_addRule_9 : decode cX3_addRule 9 = .ok (.iastore, 1) := by decide +kernel
theorem dX3_addRule_10 : decode cX3_addRule 10 = .ok (.aload_n 0, 1) := by decide +kernel
theorem dX3_addRule_11 : decode cX3_addRule 11 = .ok (.getfield 21, 3) := by decide +kernel
theorem dX3_addRule_14 : decode cX3_addRule 14 = .ok (.aload_n 0, 1) := by decide +kernel
theorem dX3_addRule_15 : decode cX3_addRule 15 = .ok (.getfield 34, 3) := by decide +kernel
theorem dX3_addRule_18 : decode cX3_addRule 18 = .ok (.iload_n 2, 1) := by decide +kernel
theorem dX3_addRule_19 : decode cX3_addRule 19 = .ok (.iastore, 1) := by decide +kernel
theorem dX3_addRule_20 : decode cX3_addRule 20 = .ok (.aload_n 0, 1) := by decide +kernel
theorem dX3_addRule_21 : decode cX3_addRule 21 = .ok (.getfield 24, 3) := by decide +kernel
theorem dX3_addRule_24 : decode cX3_addRule 24 = .ok (.aload_n 0, 1) := by decide +kernel
theorem dX3_addRule_25 : decode cX3_addRule 25 = .ok (.getfield 34, 3) := by decide +kernel
theorem dX3_addRule_28 : decode cX3_addRule 28 = .ok (.iload_n 3, 1) := by decide +kernel
theorem dX3_addRule_29 : decode cX3_addRule 29 = .ok (.iastore, 1) := by decide +kernel
theorem dX3_addRule_30 : decode cX3_addRule 30 = .ok (.aload_n 0, 1) := by decide +kernel
theorem dX3_addRule_31 : decode cX3_addRule 31 = .ok (.getfield 27, 3) := by decide +kernel
theorem dX3_addRule_34 : decode cX3_addRule 34 = .ok (.aload_n 0, 1) := by decide +kernel
theorem dX3_addRule_35 : decode cX3_addRule 35 = .ok (.getfield 34, 3) := by decide +kernel
theorem dX3_addRule_38 : decode cX3_addRule 38 = .ok (.iload 4, 2) := by decide +kernel
theorem dX3_addRule_40 : decode cX3_addRule 40 = .ok (.iastore, 1) := by decide +kernel
theorem dX3_addRule_41 : decode cX3_addRule 41 = .ok (.aload_n 0, 1) := by decide +kernel
theorem dX3_addRule_42 : decode cX3_addRule 42 = .ok (.dup, 1) := by decide +kernel
theorem dX3_addRule_43 : decode cX3_addRule 43 = .ok (.getfield 34, 3) := by decide +kernel
theorem dX3_addRule_46 : decode cX3_addRule 46 = .ok (.iconst 1, 1) := by decide +kernel
theorem dX3_addRule_47 : decode cX3_addRule 47 = .ok (.iadd, 1) := by decide +kernel
theorem dX3_addRule_48 : decode cX3_addRule 48 = .ok (.putfield 34, 3) := by decide +kernel
theorem dX3_addRule_51 : decode cX3_addRule 51 = .ok (.aload_n 0, 1) := by decide +kernel
theorem dX3_addRule_52 : decode cX3_addRule 52 = .ok (.getfield 34, 3) := by decide +kernel
theorem dX3_addRule_55 : decode cX3_addRule 55 = .ok (.iconst 1, 1) := by decide +kernel
theorem dX3_addRule_56 : decode cX3_addRule 56 = .ok (.isub, 1) := by decide +kernel
theorem dX3_addRule_57 : decode cX3_addRule 57 = .ok (.ireturn, 1) := by decide +kernel
theorem dX3_dropRule_0 : decode cX3_dropRule 0 = .ok (.aload_n 0, 1) := by decide +kernel
theorem dX3_dropRule_1 : decode cX3_dropRule 1 = .ok (.dup, 1) := by decide +kernel
theorem dX3_dropRule_2 : decode cX3_dropRule 2 = .ok (.getfield 34, 3) := by decide +kernel
theorem dX3_dropRule_5 : decode cX3_dropRule 5 = .ok (.iconst 1, 1) := by decide +kernel
theorem dX3_dropRule_6 : decode cX3_dropRule 6 = .ok (.isub, 1) := by decide +kernel
theorem dX3_dropRule_7 : decode cX3_dropRule 7 = .ok (.putfield 34, 3) := by decide +kernel
theorem dX3_dropRule_10 : decode cX3_dropRule 10 = .ok (.iload_n 1, 1) := by decide +kernel
theorem dX3_dropRule_11 : decode cX3_dropRule 11 = .ok (.istore_n 2, 1) := by decide +kernel
theorem dX3_dropRule_12 : decode cX3_dropRule 12 = .ok (.iload_n 2, 1) := by decide +kernel
theorem dX3_dropRule_13 : decode cX3_dropRule 13 = .ok (.aload_n 0, 1) := by decide +kernel
theorem dX3_dropRule_14 : decode cX3_dropRule 14 = .ok (.getfield 34, 3) := by decide +kernel
theorem dX3_dropRule_17 : decode cX3_dropRule 17 = .ok (.if_icmp .ge 65, 3) := by decide +kernel
theorem dX3_dropRule_20 : decode cX3_dropRule 20 = .ok (.aload_n 0, 1) := by decide +kernel
theorem dX3_dropRule_21 : decode cX3_dropRule 21 = .ok (.getfield 18, 3) := by decide +kernel
theorem dX3_dropRule_24 : decode cX3_dropRule 24 = .ok (.iload_n 2, 1) := by decide +kernel
theorem dX3_dropRule_25 : decode cX3_dropRule 25 = .ok (.aload_n 0, 1) := by decide +kernel
theorem dX3_dropRule_26 : decode cX3_dropRule 26 = .ok (.getfield 18, 3) := by decide +kernel
theorem dX3_dropRule_29 : decode cX3_dropRule 29 = .ok (.iload_n 2, 1) := by decide +kernel
theorem dX3_dropRule_30 : decode cX3_dropRule 30 = .ok (.iconst 1, 1) := by decide +kernel
theorem dX3_dropRule_31 : decode cX3_dropRule 31 = .ok (.iadd, 1) := by decide +kernel
theorem dX3_dropRule_32 : decode cX3_dropRule 32 = .ok (.iaload, 1) := by decide +kernel
theorem dX3_dropRule_33 : decode cX3_dropRule 33 = .ok (.iastore, 1) := by decide +kernel
theorem dX3_dropRule_34 : decode cX3_dropRule 34 = .ok (.aload_n 0, 1) := by decide +kernel
theorem dX3_dropRule_35 : decode cX3_dropRule 35 = .ok (.getfield 21, 3) := by decide +kernel
theorem dX3_dropRule_38 : decode cX3_dropRule 38 = .ok (.iload_n 2, 1) := by decide +kernel
theorem dX3_dropRule_39 : decode cX3_dropRule 39 = .ok (.aload_n 0, 1) := by decide +kernel
theorem dX3_dropRule_40 : decode cX3_dropRule 40 = .ok (.getfield 21, 3) := by decide +kernel
theorem dX3_dropRule_43 : decode cX3_dropRule 43 = .ok (.iload_n 2, 1) := by decide +kernel
theorem dX3_dropRule_44 : decode cX3_dropRule 44 = .ok (.iconst 1, 1) := by decide +kernel
theorem dX3_dropRule_45 : decode cX3_dropRule 45 = .ok (.iadd, 1) := by decide +kernel
theorem dX3_dropRule_46 : decode cX3_dropRule 46 = .ok (.iaload, 1) := by decide +kernel
theorem dX3_dropRule_47 : decode cX3_dropRule 47 = .ok (.iastore, 1) := by decide +kernel
theorem dX3_dropRule_48 : decode cX3_dropRule 48 = .ok (.aload_n 0, 1) := by decide +kernel
theorem dX3_dropRule_49 : decode cX3_dropRule 49 = .ok (.getfield 24, 3) := by decide +kernel
theorem dX3_dropRule_52 : decode cX3_dropRule 52 = .ok (.iload_n 2, 1) := by decide +kernel
theorem dX3_dropRule_53 : decode cX3_dropRule 53 = .ok (.aload_n 0, 1) := by decide +kernel
theorem dX3_dropRule_54 : decode cX3_dropRule 54 = .ok (.getfield 24, 3) := by decide +kernel
theorem dX3_dropRule_57 : decode cX3_dropRule 57 = .ok (.iload_n 2, 1) := by decide +kernel
theorem dX3_dropRule_58 : decode cX3_dropRule 58 = .ok (.iconst 1, 1) := by decide +kernel
theorem dX3_dropRule_59 : decode cX3_dropRule 59 = .ok (.iadd, 1) := by decide +kernel
theorem dX3_dropRule_60 : decode cX3_dropRule 60 = .ok (.iaload, 1) := by decide +kernel
theorem dX3_dropRule_61 : decode cX3_dropRule 61 = .ok (.iastore, 1) := by decide +kernel
theorem dX3_dropRule_62 : decode cX3_dropRule 62 = .ok (.aload_n 0, 1) := by decide +kernel
theorem dX3_dropRule_63 : decode cX3_dropRule 63 = .ok (.getfield 27, 3) := by decide +kernel
theorem dX3_dropRule_66 : decode cX3_dropRule 66 = .ok (.iload_n 2, 1) := by decide +kernel
theorem dX3_dropRule_67 : decode cX3_dropRule 67 = .ok (.aload_n 0, 1) := by decide +kernel
theorem dX3_dropRule_68 : decode cX3_dropRule 68 = .ok (.getfield 27, 3) := by decide +kernel
theorem dX3_dropRule_71 : decode cX3_dropRule 71 = .ok (.iload_n 2, 1) := by decide +kernel
theorem dX3_dropRule_72 : decode cX3_dropRule 72 = .ok (.iconst 1, 1) := by decide +kernel
theorem dX3_dropRule_73 : decode cX3_dropRule 73 = .ok (.iadd, 1) := by decide +kernel
theorem dX3_dropRule_74 : decode cX3_dropRule 74 = .ok (.iaload, 1) := by decide +kernel
theorem dX3_dropRule_75 : decode cX3_dropRule 75 = .ok (.iastore, 1) := by decide +kernel
theorem dX3_dropRule_76 : decode cX3_dropRule 76 = .ok (.iinc 2 1, 3) := by decide +kernel
theorem dX3_dropRule_79 : decode cX3_dropRule 79 = .ok (.goto (-67), 3) := by decide +kernel
theorem dX3_dropRule_82 : decode cX3_dropRule 82 = .ok (.aload_n 0, 1) := by decide +kernel
theorem dX3_dropRule_83 : decode cX3_dropRule 83 = .ok (.getfield 34, 3) := by decide +kernel
theorem dX3_dropRule_86 : decode cX3_dropRule 86 = .ok (.ireturn, 1) := by decide +kernel
theorem dX3_rulesOf_0 : decode cX3_rulesOf 0 = .ok (.iconst 0, 1) := by decide +kernel
theorem dX3_rulesOf_1 : decode cX3_rulesOf 1 = .ok (.istore_n 2, 1) := by decide +kernel
theorem dX3_rulesOf_2 : decode cX3_rulesOf 2 = .ok (.iconst 0, 1) := by decide +kernel
theorem dX3_rulesOf_3 : decode cX3_rulesOf 3 = .ok (.istore_n 3, 1) := by decide +kernel
theorem dX3_rulesOf_4 : decode cX3_rulesOf 4 = .ok (.iload_n 3, 1) := by decide +kernel
theorem dX3_rulesOf_5 : decode cX3_rulesOf 5 = .ok (.aload_n 0, 1) := by decide +kernel
theorem dX3_rulesOf_6 : decode cX3_rulesOf 6 = .ok (.getfield 34, 3) := by decide +kernel
theorem dX3_rulesOf_9 : decode cX3_rulesOf 9 = .ok (.if_icmp .ge 52, 3) := by decide +kernel
theorem dX3_rulesOf_12 : decode cX3_rulesOf 12 = .ok (.aload_n 0, 1) := by decide +kernel
theorem dX3_rulesOf_13 : decode cX3_rulesOf 13 = .ok (.getfield 21, 3) := by decide +kernel
theorem dX3_rulesOf_16 : decode cX3_rulesOf 16 = .ok (.iload_n 3, 1) := by decide +kernel
theorem dX3_rulesOf_17 : decode cX3_rulesOf 17 = .ok (.iaload, 1) := by decide +kernel
theorem dX3_rulesOf_18 : decode cX3_rulesOf 18 = .ok (.iload_n 1, 1) := by decide +kernel
theorem dX3_rulesOf_19 : decode cX3_rulesOf 19 = .ok (.if_icmp .eq 33, 3) := by decide +kernel
theorem dX3_rulesOf_22 : decode cX3_rulesOf 22 = .ok (.aload_n 0, 1) := by decide +kernel
theorem dX3_rulesOf_23 : decode cX3_rulesOf 23 = .ok (.getfield 24, 3) := by decide +kernel
theorem dX3_rulesOf_26 : decode cX3_rulesOf 26 = .ok (.iload_n 3, 1) := by decide +kernel
theorem dX3_rulesOf_27 : decode cX3_rulesOf 27 = .ok (.iaload, 1) := by decide +kernel
theorem dX3_rulesOf_28 : decode cX3_rulesOf 28 = .ok (.iload_n 1, 1) := by decide +kernel
theorem dX3_rulesOf_29 : decode cX3_rulesOf 29 = .ok (.if_icmp .eq 23, 3) := by decide +kernel
theorem dX3_rulesOf_32 : decode cX3_rulesOf 32 = .ok (.aload_n 0, 1) := by decide +kernel
theorem dX3_rulesOf_33 : decode cX3_rulesOf 33 = .ok (.getfield 18, 3) := by decide +kernel
theorem dX3_rulesOf_36 : decode cX3_rulesOf 36 = .ok (.iload_n 3, 1) := by decide +kernel
theorem dX3_rulesOf_37 : decode cX3_rulesOf 37 = .ok (.iaload, 1) := by decide +kernel
theorem dX3_rulesOf_38 : decode cX3_rulesOf 38 = .ok (.iconst 3, 1) := by decide +kernel
theorem dX3_rulesOf_39 : decode cX3_rulesOf 39 = .ok (.if_icmp .ge 16, 3) := by decide +kernel
theorem dX3_rulesOf_42 : decode cX3_rulesOf 42 = .ok (.aload_n 0, 1) := by decide +kernel
theorem dX3_rulesOf_43 : decode cX3_rulesOf 43 = .ok (.getfield 27, 3) := by decide +kernel
theorem dX3_rulesOf_46 : decode cX3_rulesOf 46 = .ok (.iload_n 3, 1) := by decide +kernel
theorem dX3_rulesOf_47 : decode cX3_rulesOf 47 = .ok (.iaload, 1) := by decide +kernel
theorem dX3_rulesOf_48 : decode cX3_rulesOf 48 = .ok (.iload_n 1, 1) := by decide +kernel
theorem dX3_rulesOf_49 : decode cX3_rulesOf 49 = .ok (.if_icmp .ne 6, 3) := by decide +kernel
theorem dX3_rulesOf_52 : decode cX3_rulesOf 52 = .ok (.iinc 2 1, 3) := by decide +kernel
theorem dX3_rulesOf_55 : decode cX3_rulesOf 55 = .ok (.iinc 3 1, 3) := by decide +kernel
theorem dX3_rulesOf_58 : decode cX3_rulesOf 58 = .ok (.goto (-54), 3) := by decide +kernel
theorem dX3_rulesOf_61 : decode cX3_rulesOf 61 = .ok (.iload_n 2, 1) := by decide +kernel
theorem dX3_rulesOf_62 : decode cX3_rulesOf 62 = .ok (.ireturn, 1) := by decide +kernel
set_option maxRecDepth 20000 in
theorem ggX3_allRulesHold_X4_ruleHolds : GoodIn wsX3_allRulesHold wsX4_ruleHolds := goodIn_r _ [9, 10, 11, 12, 13, 14, 15, 16, 17, 18, 19, 8, 20, 21, 22, 23, 24, 25, 26, 27, 28, 29, 30, 31, 32, 33, 34, 35, 36, 37, 38, 39, 40, 41, 42, 43, 44, 45, 46, 47] (by decide +kernel) (by decide +kernel)
set_option maxRecDepth 20000 in
theorem gX3_allRulesHold_X4_ruleHolds : GoodIn wsX3_allRulesHold (va_wsS RX3 55 yX4_ruleHolds wsX4_ruleHolds) := goodIn_app (goodIn_of _ (by decide +kernel)) ggX3_allRulesHold_X4_ruleHolds
theorem dX3_allRulesHold_0 : decode cX3_allRulesHold 0 = .ok (.iconst 0, 1) := by decide +kernel
theorem dX3_allRulesHold_1 : decode cX3_allRulesHold 1 = .ok (.istore_n 2, 1) := by decide +kernel
theorem dX3_allRulesHold_2 : decode cX3_allRulesHold 2 = .ok (.iload_n 2, 1) := by decide +kernel
theorem dX3_allRulesHold_3 : decode cX3_allRulesHold 3 = .ok (.aload_n 0, 1) := by decide +kernel
theorem dX3_allRulesHold_4 : decode cX3_allRulesHold 4 = .ok (.getfield 34, 3) := by decide +kernel
theorem dX3_allRulesHold_7 : decode cX3_allRulesHold 7 = .ok (.if_icmp .ge 47, 3) := by decide +kernel
theorem dX3_allRulesHold_10 : decode cX3_allRulesHold 10 = .ok (.aload_n 0, 1) := by decide +kernel
theorem dX3_allRulesHold_11 : decode cX3_allRulesHold 11 = .ok (.getfield 18, 3) := by decide +kernel
theorem dX3_allRulesHold_14 : decode cX3_allRulesHold 14 = .ok (.iload_n 2, 1) := by decide +kernel
theorem dX3_allRulesHold_15 : decode cX3_allRulesHold 15 = .ok (.iaload, 1) := by decide +kernel
theorem dX3_allRulesHold_16 : decode cX3_allRulesHold 16 = .ok (.aload_n 1, 1) := by decide +kernel
theorem dX3_allRulesHold_17 : decode cX3_allRulesHold 17 = .ok (.aload_n 0, 1) := by decide +kernel
theorem dX3_allRulesHold_18 : decode cX3_allRulesHold 18 = .ok (.getfield 21, 3) := by decide +kernel
theorem dX3_allRulesHold_21 : decode cX3_allRulesHold 21 = .ok (.iload_n 2, 1) := by decide +kernel
theorem dX3_allRulesHold_22 : decode cX3_allRulesHold 22 = .ok (.iaload, 1) := by decide +kernel
theorem dX3_allRulesHold_23 : decode cX3_allRulesHold 23 = .ok (.iaload, 1) := by decide +kernel
theorem dX3_allRulesHold_24 : decode cX3_allRulesHold 24 = .ok (.aload_n 1, 1) := by decide +kernel
theorem dX3_allRulesHold_25 : decode cX3_allRulesHold 25 = .ok (.aload_n 0, 1) := by decide +kernel
theorem dX3_allRulesHold_26 : decode cX3_allRulesHold 26 = .ok (.getfield 24, 3) := by decide +kernel
theorem dX3_allRulesHold_29 : decode cX3_allRulesHold 29 = .ok (.iload_n 2, 1) := by decide +kernel
theorem dX3_allRulesHold_30 : decode cX3_allRulesHold 30 = .ok (.iaload, 1) := by decide +kernel
theorem dX3_allRulesHold_31 : decode cX3_allRulesHold 31 = .ok (.iaload, 1) := by decide +kernel
theorem dX3_allRulesHold_32 : decode cX3_allRulesHold 32 = .ok (.aload_n 1, 1) := by decide +kernel
theorem dX3_allRulesHold_33 : decode cX3_allRulesHold 33 = .ok (.aload_n 0, 1) := by decide +kernel
theorem dX3_allRulesHold_34 : decode cX3_allRulesHold 34 = .ok (.getfield 27, 3) := by decide +kernel
theorem dX3_allRulesHold_37 : decode cX3_allRulesHold 37 = .ok (.iload_n 2, 1) := by decide +kernel
theorem dX3_allRulesHold_38 : decode cX3_allRulesHold 38 = .ok (.iaload, 1) := by decide +kernel
theorem dX3_allRulesHold_39 : decode cX3_allRulesHold 39 = .ok (.iaload, 1) := by decide +kernel
theorem dX3_allRulesHold_40 : decode cX3_allRulesHold 40 = .ok (.invokestatic 55, 3) := by decide +kernel
theorem dX3_allRulesHold_43 : decode cX3_allRulesHold 43 = .ok (.ifCond .ne 5, 3) := by decide +kernel
theorem dX3_allRulesHold_46 : decode cX3_allRulesHold 46 = .ok (.iconst 0, 1) := by decide +kernel
theorem dX3_allRulesHold_47 : decode cX3_allRulesHold 47 = .ok (.ireturn, 1) := by decide +kernel
theorem dX3_allRulesHold_48 : decode cX3_allRulesHold 48 = .ok (.iinc 2 1, 3) := by decide +kernel
theorem dX3_allRulesHold_51 : decode cX3_allRulesHold 51 = .ok (.goto (-49), 3) := by decide +kernel
theorem dX3_allRulesHold_54 : decode cX3_allRulesHold 54 = .ok (.iconst 1, 1) := by decide +kernel
theorem dX3_allRulesHold_55 : decode cX3_allRulesHold 55 = .ok (.ireturn, 1) := by decide +kernel
theorem dX4_isPlace_0 : decode cX4_isPlace 0 = .ok (.iload_n 0, 1) := by decide +kernel
theorem dX4_isPlace_1 : decode cX4_isPlace 1 = .ok (.ldc 9, 2) := by decide +kernel
theorem dX4_isPlace_3 : decode cX4_isPlace 3 = .ok (.if_icmp .lt 13, 3) := by decide +kernel
theorem dX4_isPlace_6 : decode cX4_isPlace 6 = .ok (.iload_n 0, 1) := by decide +kernel
theorem dX4_isPlace_7 : decode cX4_isPlace 7 = .ok (.ldc 10, 2) := by decide +kernel
theorem dX4_isPlace_9 : decode cX4_isPlace 9 = .ok (.if_icmp .gt 7, 3) := by decide +kernel
theorem dX4_isPlace_12 : decode cX4_isPlace 12 = .ok (.iconst 1, 1) := by decide +kernel
theorem dX4_isPlace_13 : decode cX4_isPlace 13 = .ok (.goto 4, 3) := by decide +kernel
theorem dX4_isPlace_16 : decode cX4_isPlace 16 = .ok (.iconst 0, 1) := by decide +kernel
theorem dX4_isPlace_17 : decode cX4_isPlace 17 = .ok (.ireturn, 1) := by decide +kernel
set_option maxRecDepth 20000 in
theorem ggX4_isRange_X4_isPlace : GoodIn wsX4_isRange wsX4_isPlace := goodIn_r _ [4, 5, 6] (by decide +kernel) (by decide +kernel)
set_option maxRecDepth 20000 in
theorem gX4_isRange_X4_isPlace : GoodIn wsX4_isRange (va_wsS RX4 11 yX4_isPlace wsX4_isPlace) := goodIn_app (goodIn_of _ (by decide +kernel)) ggX4_isRange_X4_isPlace
theorem dX4_isRange_0 : decode cX4_isRange 0 = .ok (.iload_n 0, 1) := by decide +kernel
theorem dX4_isRange_1 : decode cX4_isRange 1 = .ok (.invokestatic 11, 3) := by decide +kernel
theorem dX4_isRange_4 : decode cX4_isRange 4 = .ok (.ifCond .eq 19, 3) := by decide +kernel
theorem dX4_isRange_7 : decode cX4_isRange 7 = .ok (.iload_n 1, 1) := by decide +kernel
theorem dX4_isRange_8 : decode cX4_isRange 8 = .ok (.invokestatic 11, 3) := by decide +kernel
theorem dX4_isRange_11 : decode cX4_isRange 11 = .ok (.ifCond .eq 12, 3) := by decide +kernel
theorem dX4_isRange_14 : decode cX4_isRange 14 = .ok (.iload_n 0, 1) := by decide +kernel
theorem dX4_isRange_15 : decode cX4_isRange 15 = .ok (.iload_n 1, 1) := by decide +kernel
theorem dX4_isRange_16 : decode cX4_isRange 16 = .ok (.if_icmp .gt 7, 3) := by decide +kernel
theorem dX4_isRange_19 : decode cX4_isRange 19 = .ok (.iconst 1, 1) := by decide +kernel
theorem dX4_isRange_20 : decode cX4_isRange 20 = .ok (.goto 4, 3) := by decide +kernel
theorem dX4_isRange_23 : decode cX4_isRange 23 = .ok (.iconst 0, 1) := by decide +kernel
theorem dX4_isRange_24 : decode cX4_isRange 24 = .ok (.ireturn, 1) := by decide +kernel
theorem dX4_held_0 : decode cX4_held 0 = .ok (.iload_n 1, 1) := by decide +kernel
theorem dX4_held_1 : decode cX4_held 1 = .ok (.i2l, 1) := by decide +kernel
theorem dX4_held_2 : decode cX4_held 2 = .ok (.iload_n 0, 1) := by decide +kernel
theorem dX4_held_3 : decode cX4_held 3 = .ok (.i2l, 1) := by decide +kernel
theorem dX4_held_4 : decode cX4_held 4 = .ok (.lsub, 1) := by decide +kernel
theorem dX4_held_5 : decode cX4_held 5 = .ok (.lconst 1, 1) := by decide +kernel
theorem dX4_held_6 : decode cX4_held 6 = .ok (.ladd, 1) := by decide +kernel
theorem dX4_held_7 : decode cX4_held 7 = .ok (.lreturn, 1) := by decide +kernel
theorem dX4_middle_0 : decode cX4_middle 0 = .ok (.iload_n 0, 1) := by decide +kernel
theorem dX4_middle_1 : decode cX4_middle 1 = .ok (.i2l, 1) := by decide +kernel
theorem dX4_middle_2 : decode cX4_middle 2 = .ok (.iload_n 1, 1) := by decide +kernel
theorem dX4_middle_3 : decode cX4_middle 3 = .ok (.i2l, 1) := by decide +kernel
theorem dX4_middle_4 : decode cX4_middle 4 = .ok (.ladd, 1) := by decide +kernel
theorem dX4_middle_5 : decode cX4_middle 5 = .ok (.iconst 1, 1) := by decide +kernel
theorem dX4_middle_6 : decode cX4_middle 6 = .ok (.lshr, 1) := by decide +kernel
theorem dX4_middle_7 : decode cX4_middle 7 = .ok (.l2i, 1) := by decide +kernel
theorem dX4_middle_8 : decode cX4_middle 8 = .ok (.ireturn, 1) := by decide +kernel
theorem dX4_magnitude_0 : decode cX4_magnitude 0 = .ok (.iload_n 0, 1) := by decide +kernel
theorem dX4_magnitude_1 : decode cX4_magnitude 1 = .ok (.ifCond .ge 9, 3) := by decide +kernel
theorem dX4_magnitude_4 : decode cX4_magnitude 4 = .ok (.iconst (-1), 1) := by decide +kernel
theorem dX4_magnitude_5 : decode cX4_magnitude 5 = .ok (.iload_n 0, 1) := by decide +kernel
theorem dX4_magnitude_6 : decode cX4_magnitude 6 = .ok (.isub, 1) := by decide +kernel
theorem dX4_magnitude_7 : decode cX4_magnitude 7 = .ok (.goto 4, 3) := by decide +kernel
theorem dX4_magnitude_10 : decode cX4_magnitude 10 = .ok (.iload_n 0, 1) := by decide +kernel
theorem dX4_magnitude_11 : decode cX4_magnitude 11 = .ok (.ireturn, 1) := by decide +kernel
theorem dX4_rank_0 : decode cX4_rank 0 = .ok (.iload_n 0, 1) := by decide +kernel
theorem dX4_rank_1 : decode cX4_rank 1 = .ok (.ifCond .ge 9, 3) := by decide +kernel
theorem dX4_rank_4 : decode cX4_rank 4 = .ok (.iload_n 0, 1) := by decide +kernel
theorem dX4_rank_5 : decode cX4_rank 5 = .ok (.iconst 1, 1) := by decide +kernel
theorem dX4_rank_6 : decode cX4_rank 6 = .ok (.iadd, 1) := by decide +kernel
theorem dX4_rank_7 : decode cX4_rank 7 = .ok (.goto 4, 3) := by decide +kernel
theorem dX4_rank_10 : decode cX4_rank 10 = .ok (.iload_n 0, 1) := by decide +kernel
theorem dX4_rank_11 : decode cX4_rank 11 = .ok (.ireturn, 1) := by decide +kernel
theorem dX4_firstOfRank_0 : decode cX4_firstOfRank 0 = .ok (.iload_n 0, 1) := by decide +kernel
theorem dX4_firstOfRank_1 : decode cX4_firstOfRank 1 = .ok (.ifCond .gt 9, 3) := by decide +kernel
theorem dX4_firstOfRank_4 : decode cX4_firstOfRank 4 = .ok (.iload_n 0, 1) := by decide +kernel
theorem dX4_firstOfRank_5 : decode cX4_firstOfRank 5 = .ok (.iconst 1, 1) := by decide +kernel
theorem dX4_firstOfRank_6 : decode cX4_firstOfRank 6 = .ok (.isub, 1) := by decide +kernel
theorem dX4_firstOfRank_7 : decode cX4_firstOfRank 7 = .ok (.goto 4, 3) := by decide +kernel
theorem dX4_firstOfRank_10 : decode cX4_firstOfRank 10 = .ok (.iload_n 0, 1) := by decide +kernel
theorem dX4_firstOfRank_11 : decode cX4_firstOfRank 11 = .ok (.ireturn, 1) := by decide +kernel
theorem dX4_lastOfRank_0 : decode cX4_lastOfRank 0 = .ok (.iload_n 0, 1) := by decide +kernel
theorem dX4_lastOfRank_1 : decode cX4_lastOfRank 1 = .ok (.ifCond .ge 9, 3) := by decide +kernel
theorem dX4_lastOfRank_4 : decode cX4_lastOfRank 4 = .ok (.iload_n 0, 1) := by decide +kernel
theorem dX4_lastOfRank_5 : decode cX4_lastOfRank 5 = .ok (.iconst 1, 1) := by decide +kernel
theorem dX4_lastOfRank_6 : decode cX4_lastOfRank 6 = .ok (.isub, 1) := by decide +kernel
theorem dX4_lastOfRank_7 : decode cX4_lastOfRank 7 = .ok (.goto 4, 3) := by decide +kernel
theorem dX4_lastOfRank_10 : decode cX4_lastOfRank 10 = .ok (.iload_n 0, 1) := by decide +kernel
theorem dX4_lastOfRank_11 : decode cX4_lastOfRank 11 = .ok (.ireturn, 1) := by decide +kernel
set_option maxRecDepth 20000 in
theorem ggX4_ruleHolds_X1_sum : GoodIn wsX4_ruleHolds wsX1_sum := goodIn_r _ [8, 9, 10, 11, 12, 13, 14, 7, 15, 16, 2, 3, 4, 17, 18, 19, 20, 21, 22, 23, 24, 25, 26, 27, 28, 29, 30, 31, 32, 33] (by decide +kernel) (by decide +kernel)
set_option maxRecDepth 20000 in
theorem gX4_ruleHolds_X1_sum : GoodIn wsX4_ruleHolds (va_wsS RX4 17 yX1_sum wsX1_sum) := goodIn_app (goodIn_of _ (by decide +kernel)) ggX4_ruleHolds_X1_sum
set_option maxRecDepth 20000 in
theorem ggX4_ruleHolds_X1_product : GoodIn wsX4_ruleHolds wsX1_product := goodIn_r _ [36, 9, 10, 11, 12, 17, 18, 7, 19, 20, 13, 14, 15, 16, 2, 3, 4, 21, 22, 23, 24, 25, 26, 27, 28, 29, 30, 31, 32, 33] (by decide +kernel) (by decide +kernel)
set_option maxRecDepth 20000 in
theorem gX4_ruleHolds_X1_product : GoodIn wsX4_ruleHolds (va_wsS RX4 23 yX1_product wsX1_product) := goodIn_app (goodIn_of _ (by decide +kernel)) ggX4_ruleHolds_X1_product
set_option maxRecDepth 20000 in
theorem ggX4_ruleHolds_X4_rank : GoodIn wsX4_ruleHolds wsX4_rank := goodIn_r _ [39] (by decide +kernel) (by decide +kernel)
set_option maxRecDepth 20000 in
theorem gX4_ruleHolds_X4_rank : GoodIn wsX4_ruleHolds (va_wsS RX4 31 yX4_rank wsX4_rank) := goodIn_app (goodIn_of _ (by decide +kernel)) ggX4_ruleHolds_X4_rank
theorem dX4_ruleHolds_0 : decode cX4_ruleHolds 0 = .ok (.iload_n 0, 1) := by decide +kernel
theorem dX4_ruleHolds_1 : decode cX4_ruleHolds 1 = .ok (.tableswitch 114 0 4 #[35, 50, 65, 80, 97], 35) := by decide +kernel
theorem dX4_ruleHolds_36 : decode cX4_ruleHolds 36 = .ok (.iload_n 1, 1) := by decide +kernel
theorem dX4_ruleHolds_37 : decode cX4_ruleHolds 37 = .ok (.iload_n 2, 1) := by decide +kernel
theorem dX4_ruleHolds_38 : decode cX4_ruleHolds 38 = .ok (.invokestatic 17, 3) := by decide +kernel
theorem dX4_ruleHolds_41 : decode cX4_ruleHolds 41 = .ok (.iload_n 3, 1) := by decide +kernel
theorem dX4_ruleHolds_42 : decode cX4_ruleHolds 42 = .ok (.if_icmp .ne 7, 3) := by decide +kernel
theorem dX4_ruleHolds_45 : decode cX4_ruleHolds 45 = .ok (.iconst 1, 1) := by decide +kernel
theorem dX4_ruleHolds_46 : decode cX4_ruleHolds 46 = .ok (.goto 4, 3) := by decide +kernel
theorem dX4_ruleHolds_49 : decode cX4_ruleHolds 49 = .ok (.iconst 0, 1) := by decide +kernel
theorem dX4_ruleHolds_50 : decode cX4_ruleHolds 50 = .ok (.ireturn, 1) := by decide +kernel
theorem dX4_ruleHolds_51 : decode cX4_ruleHolds 51 = .ok (.iload_n 1, 1) := by decide +kernel
theorem dX4_ruleHolds_52 : decode cX4_ruleHolds 52 = .ok (.iload_n 2, 1) := by decide +kernel
theorem dX4_ruleHolds_53 : decode cX4_ruleHolds 53 = .ok (.invokestatic 23, 3) := by decide +kernel
theorem dX4_ruleHolds_56 : decode cX4_ruleHolds 56 = .ok (.iload_n 3, 1) := by decide +kernel
theorem dX4_ruleHolds_57 : decode cX4_ruleHolds 57 = .ok (.if_icmp .ne 7, 3) := by decide +kernel
theorem dX4_ruleHolds_60 : decode cX4_ruleHolds 60 = .ok (.iconst 1, 1) := by decide +kernel
theorem dX4_ruleHolds_61 : decode cX4_ruleHolds 61 = .ok (.goto 4, 3) := by decide +kernel
theorem dX4_ruleHolds_64 : decode cX4_ruleHolds 64 = .ok (.iconst 0, 1) := by decide +kernel
theorem dX4_ruleHolds_65 : decode cX4_ruleHolds 65 = .ok (.ireturn, 1) := by decide +kernel
theorem dX4_ruleHolds_66 : decode cX4_ruleHolds 66 = .ok (.iload_n 1, 1) := by decide +kernel
theorem dX4_ruleHolds_67 : decode cX4_ruleHolds 67 = .ok (.iload_n 2, 1) := by decide +kernel
theorem dX4_ruleHolds_68 : decode cX4_ruleHolds 68 = .ok (.invokestatic 26, 3) := by decide +kernel
theorem dX4_ruleHolds_71 : decode cX4_ruleHolds 71 = .ok (.iload_n 3, 1) := by decide +kernel
theorem dX4_ruleHolds_72 : decode cX4_ruleHolds 72 = .ok (.if_icmp .ne 7, 3) := by decide +kernel
theorem dX4_ruleHolds_75 : decode cX4_ruleHolds 75 = .ok (.iconst 1, 1) := by decide +kernel
theorem dX4_ruleHolds_76 : decode cX4_ruleHolds 76 = .ok (.goto 4, 3) := by decide +kernel
theorem dX4_ruleHolds_79 : decode cX4_ruleHolds 79 = .ok (.iconst 0, 1) := by decide +kernel
theorem dX4_ruleHolds_80 : decode cX4_ruleHolds 80 = .ok (.ireturn, 1) := by decide +kernel
theorem dX4_ruleHolds_81 : decode cX4_ruleHolds 81 = .ok (.iload_n 1, 1) := by decide +kernel
theorem dX4_ruleHolds_82 : decode cX4_ruleHolds 82 = .ok (.invokestatic 31, 3) := by decide +kernel
theorem dX4_ruleHolds_85 : decode cX4_ruleHolds 85 = .ok (.iload_n 2, 1) := by decide +kernel
theorem dX4_ruleHolds_86 : decode cX4_ruleHolds 86 = .ok (.invokestatic 31, 3) := by decide +kernel
theorem dX4_ruleHolds_89 : decode cX4_ruleHolds 89 = .ok (.if_icmp .ge 7, 3) := by decide +kernel
theorem dX4_ruleHolds_92 : decode cX4_ruleHolds 92 = .ok (.iconst 1, 1) := by decide +kernel
theorem dX4_ruleHolds_93 : decode cX4_ruleHolds 93 = .ok (.goto 4, 3) := by decide +kernel
theorem dX4_ruleHolds_96 : decode cX4_ruleHolds 96 = .ok (.iconst 0, 1) := by decide +kernel
theorem dX4_ruleHolds_97 : decode cX4_ruleHolds 97 = .ok (.ireturn, 1) := by decide +kernel
theorem dX4_ruleHolds_98 : decode cX4_ruleHolds 98 = .ok (.iload_n 1, 1) := by decide +kernel
theorem dX4_ruleHolds_99 : decode cX4_ruleHolds 99 = .ok (.invokestatic 31, 3) := by decide +kernel
theorem dX4_ruleHolds_102 : decode cX4_ruleHolds 102 = .ok (.iload_n 2, 1) := by decide +kernel
theorem dX4_ruleHolds_103 : decode cX4_ruleHolds 103 = .ok (.invokestatic 31, 3) := by decide +kernel
theorem dX4_ruleHolds_106 : decode cX4_ruleHolds 106 = .ok (.if_icmp .ne 7, 3) := by decide +kernel
theorem dX4_ruleHolds_109 : decode cX4_ruleHolds 109 = .ok (.iconst 1, 1) := by decide +kernel
theorem dX4_ruleHolds_110 : decode cX4_ruleHolds 110 = .ok (.goto 4, 3) := by decide +kernel
theorem dX4_ruleHolds_113 : decode cX4_ruleHolds 113 = .ok (.iconst 0, 1) := by decide +kernel
theorem dX4_ruleHolds_114 : decode cX4_ruleHolds 114 = .ok (.ireturn, 1) := by decide +kernel
theorem dX4_ruleHolds_115 : decode cX4_ruleHolds 115 = .ok (.iload_n 2, 1) := by decide +kernel
theorem dX4_ruleHolds_116 : decode cX4_ruleHolds 116 = .ok (.iconst (-1), 1) := by decide +kernel
theorem dX4_ruleHolds_117 : decode cX4_ruleHolds 117 = .ok (.iload_n 1, 1) := by decide +kernel
theorem dX4_ruleHolds_118 : decode cX4_ruleHolds 118 = .ok (.isub, 1) := by decide +kernel
theorem dX4_ruleHolds_119 : decode cX4_ruleHolds 119 = .ok (.if_icmp .ne 7, 3) := by decide +kernel
theorem dX4_ruleHolds_122 : decode cX4_ruleHolds 122 = .ok (.iconst 1, 1) := by decide +kernel
theorem dX4_ruleHolds_123 : decode cX4_ruleHolds 123 = .ok (.goto 4, 3) := by decide +kernel
theorem dX4_ruleHolds_126 : decode cX4_ruleHolds 126 = .ok (.iconst 0, 1) := by decide +kernel
theorem dX4_ruleHolds_127 : decode cX4_ruleHolds 127 = .ok (.ireturn, 1) := by decide +kernel
set_option maxRecDepth 20000 in
theorem ggX5_init_X0_init : GoodIn wsX5_init wsX0_init := goodIn_r _ [13, 14, 2, 3, 4, 15, 16, 25, 26, 27, 28] (by decide +kernel) (by decide +kernel)
set_option maxRecDepth 20000 in
theorem gX5_init_X0_init_n17 : GoodIn wsX5_init (wsX0_init) := ggX5_init_X0_init
theorem dX5_init_0 : decode cX5_init 0 = .ok (.aload_n 0, 1) := by decide +kernel
theorem dX5_init_1 : decode cX5_init 1 = .ok (.invokespecial 3, 3) := by decide +kernel
theorem dX5_init_4 : decode cX5_init 4 = .ok (.aload_n 0, 1) := by decide +kernel
theorem dX5_init_5 : decode cX5_init 5 = .ok (.bipush 6, 2) := by decide +kernel
theorem dX5_init_7 : decode cX5_init 7 = .ok (.newarray .int, 2) := by decide +kernel
theorem dX5_init_9 : decode cX5_init 9 = .ok (.putfield 9, 3) := by decide +kernel
theorem dX5_init_12 : decode cX5_init 12 = .ok (.aload_n 0, 1) := by decide +kernel
theorem dX5_init_13 : decode cX5_init 13 = .ok (.new 15, 3) := by decide +kernel
theorem dX5_init_16 : decode cX5_init 16 = .ok (.dup, 1) := by decide +kernel
theorem dX5_init_17 : decode cX5_init 17 = .ok (.invokespecial 17, 3) := by decide +kernel
theorem dX5_init_20 : decode cX5_init 20 = .ok (.putfield 18, 3) := by decide +kernel
theorem dX5_init_23 : decode cX5_init 23 = .ok (.aload_n 0, 1) := by decide +kernel
theorem dX5_init_24 : decode cX5_init 24 = .ok (.sipush 366, 3) := by decide +kernel
theorem dX5_init_27 : decode cX5_init 27 = .ok (.newarray .int, 2) := by decide +kernel
theorem dX5_init_29 : decode cX5_init 29 = .ok (.putfield 22, 3) := by decide +kernel
theorem dX5_init_32 : decode cX5_init 32 = .ok (.aload_n 0, 1) := by decide +kernel
theorem dX5_init_33 : decode cX5_init 33 = .ok (.sipush 366, 3) := by decide +kernel
theorem dX5_init_36 : decode cX5_init 36 = .ok (.newarray .int, 2) := by decide +kernel
theorem dX5_init_38 : decode cX5_init 38 = .ok (.putfield 25, 3) := by decide +kernel
theorem dX5_init_41 : decode cX5_init 41 = .ok (.return_, 1) := by decide +kernel
theorem dX5_forget_0 : decode cX5_forget 0 = .ok (.aload_n 0, 1) := by decide +kernel
theorem dX5_forget_1 : decode cX5_forget 1 = .ok (.iconst 0, 1) := by decide +kernel
theorem dX5_forget_2 : decode cX5_forget 2 = .ok (.putfield 28, 3) := by decide +kernel
theorem dX5_forget_5 : decode cX5_forget 5 = .ok (.return_, 1) := by decide +kernel
set_option maxRecDepth 20000 in
theorem ggX5_solve_X0_load : GoodIn wsX5_solve wsX0_load := goodIn_r _ [23, 24, 25, 16, 17, 18, 26, 184, 185, 186, 187] (by decide +kernel) (by decide +kernel)
set_option maxRecDepth 20000 in
theorem gX5_solve_X0_load : GoodIn wsX5_solve (wsV RX5 46 RX0 yX0_load wsX0_load) := goodIn_app (goodIn_of _ (by decide +kernel)) ggX5_solve_X0_load
set_option maxRecDepth 20000 in
theorem ggX5_solve_X5_put : GoodIn wsX5_solve wsX5_put := goodIn_r _ [31, 3, 4, 7, 8, 32, 33, 34, 22, 35, 24, 25, 16, 17, 18, 26, 168, 169, 170, 171, 172, 173, 174, 175, 184, 185, 186, 187] (by decide +kernel) (by decide +kernel)
set_option maxRecDepth 20000 in
theorem gX5_solve_X5_put : GoodIn wsX5_solve (wsV RX5 50 RX5 yX5_put wsX5_put) := goodIn_app (goodIn_of _ (by decide +kernel)) ggX5_solve_X5_put
set_option maxRecDepth 20000 in
theorem ggX5_solve_X0_cutByRules : GoodIn wsX5_solve wsX0_cutByRules := goodIn_r _ [39, 40, 41, 42, 43, 44, 45, 46, 47, 48, 49, 22, 50, 24, 26, 51, 52, 53, 54, 55, 56, 57, 58, 59, 60, 61, 62, 63, 64, 65, 66, 67, 68, 69, 70, 71, 72, 73, 74, 75, 76, 77, 78, 79, 80, 81, 82, 83, 84, 85, 86, 87, 88, 89, 90, 91, 92, 93, 94, 95, 96, 97, 98, 99, 100, 101, 102, 103, 104, 105, 106, 107, 108, 109, 110, 111, 112, 113, 114, 115, 116, 117, 118, 119, 120, 121, 122, 123, 124, 125, 126, 127, 128, 129, 130, 131, 132, 133, 134, 135, 136, 137, 184, 185, 186, 187, 176, 177, 178, 179, 180, 181, 182, 183] (by decide +kernel) (by decide +kernel)
set_option maxRecDepth 20000 in
theorem gX5_solve_X0_cutByRules : GoodIn wsX5_solve (wsV RX5 56 RX0 yX0_cutByRules wsX0_cutByRules) := goodIn_app (goodIn_of _ (by decide +kernel)) ggX5_solve_X0_cutByRules
set_option maxRecDepth 20000 in
theorem ggX5_solve_X5_widestOf : GoodIn wsX5_solve wsX5_widestOf := goodIn_r _ [141, 4, 12, 142, 143, 144, 57, 145, 168, 169, 170, 171, 172, 173, 174, 175, 184, 185, 186, 187] (by decide +kernel) (by decide +kernel)
set_option maxRecDepth 20000 in
theorem gX5_solve_X5_widestOf : GoodIn wsX5_solve (wsV RX5 64 RX5 yX5_widestOf wsX5_widestOf) := goodIn_app (goodIn_of _ (by decide +kernel)) ggX5_solve_X5_widestOf
set_option maxRecDepth 20000 in
theorem ggX5_solve_X5_halve : GoodIn wsX5_solve wsX5_halve := goodIn_r _ [149, 4, 12, 142, 150, 96, 57, 97, 27, 28, 29, 30, 31, 3, 7, 8, 32, 33, 34, 22, 35, 24, 25, 16, 17, 18, 26, 168, 169, 170, 171, 172, 173, 174, 175, 184, 185, 186, 187] (by decide +kernel) (by decide +kernel)
set_option maxRecDepth 20000 in
theorem gX5_solve_X5_halve : GoodIn wsX5_solve (wsV RX5 68 RX5 yX5_halve wsX5_halve) := goodIn_app (goodIn_of _ (by decide +kernel)) ggX5_solve_X5_halve
set_option maxRecDepth 20000 in
theorem ggX5_solve_X3_allRulesHold : GoodIn wsX5_solve wsX3_allRulesHold := goodIn_r _ [155, 156, 157, 158, 159, 160, 161, 162, 57, 163, 164, 63, 64, 65, 165, 52, 53, 54, 55, 56, 58, 59, 60, 61, 62, 66, 67, 68, 69, 70, 71, 72, 73, 74, 75, 76, 77, 78, 79, 80, 81, 82, 166, 103, 104, 167, 122, 123, 176, 177, 178, 179, 180, 181, 182, 183] (by decide +kernel) (by decide +kernel)
set_option maxRecDepth 20000 in
theorem gX5_solve_X3_allRulesHold : GoodIn wsX5_solve (wsV RX5 73 RX3 yX3_allRulesHold wsX3_allRulesHold) := goodIn_app (goodIn_of _ (by decide +kernel)) ggX5_solve_X3_allRulesHold
theorem dX5_solve_0 : decode cX5_solve 0 = .ok (.aload_n 0, 1) := by decide +kernel
theorem dX5_solve_1 : decode cX5_solve 1 = .ok (.getfield 28, 3) := by decide +kernel
theorem dX5_solve_4 : decode cX5_solve 4 = .ok (.iload_n 2, 1) := by decide +kernel
theorem dX5_solve_5 : decode cX5_solve 5 = .ok (.if_icmp .ne 4, 3) := by decide +kernel
theorem dX5_solve_8 : decode cX5_solve 8 = .ok (.return_, 1) := by decide +kernel
theorem dX5_solve_9 : decode cX5_solve 9 = .ok (.aload_n 0, 1) := by decide +kernel
theorem dX5_solve_10 : decode cX5_solve 10 = .ok (.iload_n 2, 1) := by decide +kernel
theorem dX5_solve_11 : decode cX5_solve 11 = .ok (.putfield 28, 3) := by decide +kernel
theorem dX5_solve_14 : decode cX5_solve 14 = .ok (.aload_n 0, 1) := by decide +kernel
theorem dX5_solve_15 : decode cX5_solve 15 = .ok (.iconst 0, 1) := by decide +kernel
theorem dX5_solve_16 : decode cX5_solve 16 = .ok (.putfield 32, 3) := by decide +kernel
theorem dX5_solve_19 : decode cX5_solve 19 = .ok (.aload_n 0, 1) := by decide +kernel
theorem dX5_solve_20 : decode cX5_solve 20 = .ok (.iconst 0, 1) := by decide +kernel
theorem dX5_solve_21 : decode cX5_solve 21 = .ok (.putfield 35, 3) := by decide +kernel
theorem dX5_solve_24 : decode cX5_solve 24 = .ok (.aload_n 0, 1) := by decide +kernel
theorem dX5_solve_25 : decode cX5_solve 25 = .ok (.getfield 18, 3) := by decide +kernel
theorem dX5_solve_28 : decode cX5_solve 28 = .ok (.aload_n 1, 1) := by decide +kernel
theorem dX5_solve_29 : decode cX5_solve 29 = .ok (.getfield 38, 3) := by decide +kernel
theorem dX5_solve_32 : decode cX5_solve 32 = .ok (.aload_n 1, 1) := by decide +kernel
theorem dX5_solve_33 : decode cX5_solve 33 = .ok (.getfield 43, 3) := by decide +kernel
theorem dX5_solve_36 : decode cX5_solve 36 = .ok (.iconst 0, 1) := by decide +kernel
theorem dX5_solve_37 : decode cX5_solve 37 = .ok (.invokevirtual 46, 3) := by decide +kernel
theorem dX5_solve_40 : decode cX5_solve 40 = .ok (.aload_n 0, 1) := by decide +kernel
theorem dX5_solve_41 : decode cX5_solve 41 = .ok (.invokevirtual 50, 3) := by decide +kernel
theorem dX5_solve_44 : decode cX5_solve 44 = .ok (.iconst 0, 1) := by decide +kernel
theorem dX5_solve_45 : decode cX5_solve 45 = .ok (.istore_n 3, 1) := by decide +kernel
theorem dX5_solve_46 : decode cX5_solve 46 = .ok (.aload_n 0, 1) := by decide +kernel
theorem dX5_solve_47 : decode cX5_solve 47 = .ok (.getfield 35, 3) := by decide +kernel
theorem dX5_solve_50 : decode cX5_solve 50 = .ok (.ifCond .le 116, 3) := by decide +kernel
theorem dX5_solve_53 : decode cX5_solve 53 = .ok (.aload_n 0, 1) := by decide +kernel
theorem dX5_solve_54 : decode cX5_solve 54 = .ok (.getfield 32, 3) := by decide +kernel
theorem dX5_solve_57 : decode cX5_solve 57 = .ok (.iload_n 2, 1) := by decide +kernel
theorem dX5_solve_58 : decode cX5_solve 58 = .ok (.if_icmp .ge 108, 3) := by decide +kernel
theorem dX5_solve_61 : decode cX5_solve 61 = .ok (.iload_n 3, 1) := by decide +kernel
theorem dX5_solve_62 : decode cX5_solve 62 = .ok (.ifCond .ne 104, 3) := by decide +kernel
theorem dX5_solve_65 : decode cX5_solve 65 = .ok (.aload_n 0, 1) := by decide +kernel
theorem dX5_solve_66 : decode cX5_solve 66 = .ok (.dup, 1) := by decide +kernel
theorem dX5_solve_67 : decode cX5_solve 67 = .ok (.getfield 32, 3) := by decide +kernel
theorem dX5_solve_70 : decode cX5_solve 70 = .ok (.iconst 1, 1) := by decide +kernel
theorem dX5_solve_71 : decode cX5_solve 71 = .ok (.iadd, 1) := by decide +kernel
theorem dX5_solve_72 : decode cX5_solve 72 = .ok (.putfield 32, 3) := by decide +kernel
theorem dX5_solve_75 : decode cX5_solve 75 = .ok (.aload_n 0, 1) := by decide +kernel
theorem dX5_solve_76 : decode cX5_solve 76 = .ok (.dup, 1) := by decide +kernel
theorem dX5_solve_77 : decode cX5_solve 77 = .ok (.getfield 35, 3) := by decide +kernel
theorem dX5_solve_80 : decode cX5_solve 80 = .ok (.iconst 1, 1) := by decide +kernel
theorem dX5_solve_81 : decode cX5_solve 81 = .ok (.isub, 1) := by decide +kernel
theorem dX5_solve_82 : decode cX5_solve 82 = .ok (.putfield 35, 3) := by decide +kernel
theorem dX5_solve_85 : decode cX5_solve 85 = .ok (.aload_n 0, 1) := by decide +kernel
theorem dX5_solve_86 : decode cX5_solve 86 = .ok (.getfield 18, 3) := by decide +kernel
theorem dX5_solve_89 : decode cX5_solve 89 = .ok (.aload_n 0, 1) := by decide +kernel
theorem dX5_solve_90 : decode cX5_solve 90 = .ok (.getfield 22, 3) := by decide +kernel
theorem dX5_solve_93 : decode cX5_solve 93 = .ok (.aload_n 0, 1) := by decide +kernel
theorem dX5_solve_94 : decode cX5_solve 94 = .ok (.getfield 25, 3) := by decide +kernel
theorem dX5_solve_97 : decode cX5_solve 97 = .ok (.aload_n 0, 1) := by decide +kernel
theorem dX5_solve_98 : decode cX5_solve 98 = .ok (.getfield 35, 3) := by decide +kernel
theorem dX5_solve_101 : decode cX5_solve 101 = .ok (.bipush 6, 2) := by decide +kernel
theorem dX5_solve_103 : decode cX5_solve 103 = .ok (.imul, 1) := by decide +kernel
theorem dX5_solve_104 : decode cX5_solve 104 = .ok (.invokevirtual 46, 3) := by decide +kernel
theorem dX5_solve_107 : decode cX5_solve 107 = .ok (.aload_n 0, 1) := by decide +kernel
theorem dX5_solve_108 : decode cX5_solve 108 = .ok (.getfield 18, 3) := by decide +kernel
theorem dX5_solve_111 : decode cX5_solve 111 = .ok (.aload_n 1, 1) := by decide +kernel
theorem dX5_solve_112 : decode cX5_solve 112 = .ok (.iconst 0, 1) := by decide +kernel
theorem dX5_solve_113 : decode cX5_solve 113 = .ok (.aload_n 1, 1) := by decide +kernel
theorem dX5_solve_114 : decode cX5_solve 114 = .ok (.getfield 53, 3) := by decide +kernel
theorem dX5_solve_117 : decode cX5_solve 117 = .ok (.bipush 12, 2) := by decide +kernel
theorem dX5_solve_119 : decode cX5_solve 119 = .ok (.invokevirtual 56, 3) := by decide +kernel
theorem dX5_solve_122 : decode cX5_solve 122 = .ok (.ldc 60, 2) := by decide +kernel
theorem dX5_solve_124 : decode cX5_solve 124 = .ok (.if_icmp .eq (-78), 3) := by decide +kernel
theorem dX5_solve_127 : decode cX5_solve 127 = .ok (.aload_n 0, 1) := by decide +kernel
theorem dX5_solve_128 : decode cX5_solve 128 = .ok (.aload_n 1, 1) := by decide +kernel
theorem dX5_solve_129 : decode cX5_solve 129 = .ok (.getfield 61, 3) := by decide +kernel
theorem dX5_solve_132 : decode cX5_solve 132 = .ok (.invokevirtual 64, 3) := by decide +kernel
theorem dX5_solve_135 : decode cX5_solve 135 = .ok (.istore 4, 2) := by decide +kernel
theorem dX5_solve_137 : decode cX5_solve 137 = .ok (.iload 4, 2) := by decide +kernel
theorem dX5_solve_139 : decode cX5_solve 139 = .ok (.ifCond .lt 12, 3) := by decide +kernel
theorem dX5_solve_142 : decode cX5_solve 142 = .ok (.aload_n 0, 1) := by decide +kernel
theorem dX5_solve_143 : decode cX5_solve 143 = .ok (.iload 4, 2) := by decide +kernel
theorem dX5_solve_145 : decode cX5_solve 145 = .ok (.invokevirtual 68, 3) := by decide +kernel
theorem dX5_solve_148 : decode cX5_solve 148 = .ok (.goto 15, 3) := by decide +kernel
theorem dX5_solve_151 : decode cX5_solve 151 = .ok (.aload_n 1, 1) := by decide +kernel
theorem dX5_solve_152 : decode cX5_solve 152 = .ok (.aload_n 0, 1) := by decide +kernel
theorem dX5_solve_153 : decode cX5_solve 153 = .ok (.getfield 18, 3) := by decide +kernel
theorem dX5_solve_156 : decode cX5_solve 156 = .ok (.getfield 72, 3) := by decide +kernel
theorem dX5_solve_159 : decode cX5_solve 159 = .ok (.invokevirtual 73, 3) := by decide +kernel
theorem dX5_solve_162 : decode cX5_solve 162 = .ok (.istore_n 3, 1) := by decide +kernel
theorem dX5_solve_163 : decode cX5_solve 163 = .ok (.goto (-117), 3) := by decide +kernel
theorem dX5_solve_166 : decode cX5_solve 166 = .ok (.aload_n 0, 1) := by decide +kernel
theorem dX5_solve_167 : decode cX5_solve 167 = .ok (.iload_n 3, 1) := by decide +kernel
theorem dX5_solve_168 : decode cX5_solve 168 = .ok (.ifCond .eq 7, 3) := by decide +kernel
theorem dX5_solve_171 : decode cX5_solve 171 = .ok (.iconst 0, 1) := by decide +kernel
theorem dX5_solve_172 : decode cX5_solve 172 = .ok (.goto 15, 3) := by decide +kernel
theorem dX5_solve_175 : decode cX5_solve 175 = .ok (.aload_n 0, 1) := by decide +kernel
theorem dX5_solve_176 : decode cX5_solve 176 = .ok (.getfield 35, 3) := by decide +kernel
theorem dX5_solve_179 : decode cX5_solve 179 = .ok (.ifCond .ne 7, 3) := by decide +kernel
theorem dX5_solve_182 : decode cX5_solve 182 = .ok (.iconst 1, 1) := by decide +kernel
theorem dX5_solve_183 : decode cX5_solve 183 = .ok (.goto 4, 3) := by decide +kernel
theorem dX5_solve_186 : decode cX5_solve 186 = .ok (.iconst 2, 1) := by decide +kernel
theorem dX5_solve_187 : decode cX5_solve 187 = .ok (.putfield 77, 3) := by decide +kernel
theorem dX5_solve_190 : decode cX5_solve 190 = .ok (.aload_n 0, 1) := by decide +kernel
theorem dX5_solve_191 : decode cX5_solve 191 = .ok (.getfield 18, 3) := by decide +kernel
theorem dX5_solve_194 : decode cX5_solve 194 = .ok (.getfield 72, 3) := by decide +kernel
theorem dX5_solve_197 : decode cX5_solve 197 = .ok (.iconst 0, 1) := by decide +kernel
theorem dX5_solve_198 : decode cX5_solve 198 = .ok (.aload_n 0, 1) := by decide +kernel
theorem dX5_solve_199 : decode cX5_solve 199 = .ok (.getfield 9, 3) := by decide +kernel
theorem dX5_solve_202 : decode cX5_solve 202 = .ok (.iconst 0, 1) := by decide +kernel
theorem dX5_solve_203 : decode cX5_solve 203 = .ok (.bipush 6, 2) := by decide +kernel
theorem dX5_solve_205 : decode cX5_solve 205 = .ok (.invokestatic 80, 3) := by decide +kernel
theorem dX5_solve_208 : decode cX5_solve 208 = .ok (.return_, 1) := by decide +kernel
set_option maxRecDepth 20000 in
theorem ggX5_put_X0_store : GoodIn wsX5_put wsX0_store := goodIn_r _ [9, 10, 11, 12, 13, 14, 15, 24, 25, 26, 27] (by decide +kernel) (by decide +kernel)
set_option maxRecDepth 20000 in
theorem gX5_put_X0_store : GoodIn wsX5_put (wsV RX5 86 RX0 yX0_store wsX0_store) := goodIn_app (goodIn_of _ (by decide +kernel)) ggX5_put_X0_store
theorem dX5_put_0 : decode cX5_put 0 = .ok (.aload_n 0, 1) := by decide +kernel
theorem dX5_put_1 : decode cX5_put 1 = .ok (.getfield 35, 3) := by decide +kernel
theorem dX5_put_4 : decode cX5_put 4 = .ok (.bipush 61, 2) := by decide +kernel
theorem dX5_put_6 : decode cX5_put 6 = .ok (.if_icmp .ge 35, 3) := by decide +kernel
theorem dX5_put_9 : decode cX5_put 9 = .ok (.aload_n 0, 1) := by decide +kernel
theorem dX5_put_10 : decode cX5_put 10 = .ok (.getfield 18, 3) := by decide +kernel
theorem dX5_put_13 : decode cX5_put 13 = .ok (.aload_n 0, 1) := by decide +kernel
theorem dX5_put_14 : decode cX5_put 14 = .ok (.getfield 22, 3) := by decide +kernel
theorem dX5_put_17 : decode cX5_put 17 = .ok (.aload_n 0, 1) := by decide +kernel
theorem dX5_put_18 : decode cX5_put 18 = .ok (.getfield 25, 3) := by decide +kernel
theorem dX5_put_21 : decode cX5_put 21 = .ok (.aload_n 0, 1) := by decide +kernel
theorem dX5_put_22 : decode cX5_put 22 = .ok (.getfield 35, 3) := by decide +kernel
theorem dX5_put_25 : decode cX5_put 25 = .ok (.bipush 6, 2) := by decide +kernel
theorem dX5_put_27 : decode cX5_put 27 = .ok (.imul, 1) := by decide +kernel
theorem dX5_put_28 : decode cX5_put 28 = .ok (.invokevirtual 86, 3) := by decide +kernel
theorem dX5_put_31 : decode cX5_put 31 = .ok (.aload_n 0, 1) := by decide +kernel
theorem dX5_put_32 : decode cX5_put 32 = .ok (.dup, 1) := by decide +kernel
theorem dX5_put_33 : decode cX5_put 33 = .ok (.getfield 35, 3) := by decide +kernel
theorem dX5_put_36 : decode cX5_put 36 = .ok (.iconst 1, 1) := by decide +kernel
theorem dX5_put_37 : decode cX5_put 37 = .ok (.iadd, 1) := by decide +kernel
theorem dX5_put_38 : decode cX5_put 38 = .ok (.putfield 35, 3) := by decide +kernel
theorem dX5_put_41 : decode cX5_put 41 = .ok (.return_, 1) := by decide +kernel
set_option maxRecDepth 20000 in
theorem ggX5_widestOf_X4_held : GoodIn wsX5_widestOf wsX4_held := goodIn_r _ [7] (by decide +kernel) (by decide +kernel)
set_option maxRecDepth 20000 in
theorem gX5_widestOf_X4_held : GoodIn wsX5_widestOf (va_wsS RX5 90 yX4_held wsX4_held) := goodIn_app (goodIn_of _ (by decide +kernel)) ggX5_widestOf_X4_held
theorem dX5_widestOf_0 : decode cX5_widestOf 0 = .ok (.iconst (-1), 1) := by decide +kernel
theorem dX5_widestOf_1 : decode cX5_widestOf 1 = .ok (.istore_n 2, 1) := by decide +kernel
theorem dX5_widestOf_2 : decode cX5_widestOf 2 = .ok (.lconst 1, 1) := by decide +kernel
theorem dX5_widestOf_3 : decode cX5_widestOf 3 = .ok (.lstore_n 3, 1) := by decide +kernel
theorem dX5_widestOf_4 : decode cX5_widestOf 4 = .ok (.iconst 0, 1) := by decide +kernel
theorem dX5_widestOf_5 : decode cX5_widestOf 5 = .ok (.istore 5, 2) := by decide +kernel
theorem dX5_widestOf_7 : decode cX5_widestOf 7 = .ok (.iload 5, 2) := by decide +kernel
theorem dX5_widestOf_9 : decode cX5_widestOf 9 = .ok (.iload_n 1, 1) := by decide +kernel
theorem dX5_widestOf_10 : decode cX5_widestOf 10 = .ok (.if_icmp .ge 47, 3) := by decide +kernel
theorem dX5_widestOf_13 : decode cX5_widestOf 13 = .ok (.aload_n 0, 1) := by decide +kernel
theorem dX5_widestOf_14 : decode cX5_widestOf 14 = .ok (.getfield 18, 3) := by decide +kernel
theorem dX5_widestOf_17 : decode cX5_widestOf 17 = .ok (.getfield 72, 3) := by decide +kernel
theorem dX5_widestOf_20 : decode cX5_widestOf 20 = .ok (.iload 5, 2) := by decide +kernel
theorem dX5_widestOf_22 : decode cX5_widestOf 22 = .ok (.iaload, 1) := by decide +kernel
theorem dX5_widestOf_23 : decode cX5_widestOf 23 = .ok (.aload_n 0, 1) := by decide +kernel
theorem dX5_widestOf_24 : decode cX5_widestOf 24 = .ok (.getfield 18, 3) := by decide +kernel
theorem dX5_widestOf_27 : decode cX5_widestOf 27 = .ok (.getfield 89, 3) := by decide +kernel
theorem dX5_widestOf_30 : decode cX5_widestOf 30 = .ok (.iload 5, 2) := by decide +kernel
theorem dX5_widestOf_32 : decode cX5_widestOf 32 = .ok (.iaload, 1) := by decide +kernel
theorem dX5_widestOf_33 : decode cX5_widestOf 33 = .ok (.invokestatic 90, 3) := by decide +kernel
theorem dX5_widestOf_36 : decode cX5_widestOf 36 = .ok (.lstore 6, 2) := by decide +kernel
theorem dX5_widestOf_38 : decode cX5_widestOf 38 = .ok (.lload 6, 2) := by decide +kernel
theorem dX5_widestOf_40 : decode cX5_widestOf 40 = .ok (.lload_n 3, 1) := by decide +kernel
theorem dX5_widestOf_41 : decode cX5_widestOf 41 = .ok (.lcmp, 1) := by decide +kernel
theorem dX5_widestOf_42 : decode cX5_widestOf 42 = .ok (.ifCond .le 9, 3) := by decide +kernel
theorem dX5_widestOf_45 : decode cX5_widestOf 45 = .ok (.lload 6, 2) := by decide +kernel
theorem dX5_widestOf_47 : decode cX5_widestOf 47 = .ok (.lstore_n 3, 1) := by decide +kernel
theorem dX5_widestOf_48 : decode cX5_widestOf 48 = .ok (.iload 5, 2) := by decide +kernel
theorem dX5_widestOf_50 : decode cX5_widestOf 50 = .ok (.istore_n 2, 1) := by decide +kernel
theorem dX5_widestOf_51 : decode cX5_widestOf 51 = .ok (.iinc 5 1, 3) := by decide +kernel
theorem dX5_widestOf_54 : decode cX5_widestOf 54 = .ok (.goto (-47), 3) := by decide +kernel
theorem dX5_widestOf_57 : decode cX5_widestOf 57 = .ok (.iload_n 2, 1) := by decide +kernel
theorem dX5_widestOf_58 : decode cX5_widestOf 58 = .ok (.ireturn, 1) := by decide +kernel
set_option maxRecDepth 20000 in
theorem ggX5_halve_X4_middle : GoodIn wsX5_halve wsX4_middle := goodIn_r _ [7] (by decide +kernel) (by decide +kernel)
set_option maxRecDepth 20000 in
theorem gX5_halve_X4_middle : GoodIn wsX5_halve (va_wsS RX5 96 yX4_middle wsX4_middle) := goodIn_app (goodIn_of _ (by decide +kernel)) ggX5_halve_X4_middle
set_option maxRecDepth 20000 in
theorem ggX5_halve_X5_put : GoodIn wsX5_halve wsX5_put := goodIn_r _ [12, 13, 1, 14, 15, 16, 17, 18, 19, 20, 21, 22, 23, 24, 25, 26, 27, 28, 29, 30, 31, 32, 33, 34, 35, 36, 37, 38] (by decide +kernel) (by decide +kernel)
set_option maxRecDepth 20000 in
theorem gX5_halve_X5_put : GoodIn wsX5_halve (wsV RX5 50 RX5 yX5_put wsX5_put) := goodIn_app (goodIn_of _ (by decide +kernel)) ggX5_halve_X5_put
theorem dX5_halve_0 : decode cX5_halve 0 = .ok (.aload_n 0, 1) := by decide +kernel
theorem dX5_halve_1 : decode cX5_halve 1 = .ok (.getfield 18, 3) := by decide +kernel
theorem dX5_halve_4 : decode cX5_halve 4 = .ok (.getfield 72, 3) := by decide +kernel
theorem dX5_halve_7 : decode cX5_halve 7 = .ok (.iload_n 1, 1) := by decide +kernel
theorem dX5_halve_8 : decode cX5_halve 8 = .ok (.iaload, 1) := by decide +kernel
theorem dX5_halve_9 : decode cX5_halve 9 = .ok (.istore_n 2, 1) := by decide +kernel
theorem dX5_halve_10 : decode cX5_halve 10 = .ok (.iload_n 2, 1) := by decide +kernel
theorem dX5_halve_11 : decode cX5_halve 11 = .ok (.aload_n 0, 1) := by decide +kernel
theorem dX5_halve_12 : decode cX5_halve 12 = .ok (.getfield 18, 3) := by decide +kernel
theorem dX5_halve_15 : decode cX5_halve 15 = .ok (.getfield 89, 3) := by decide +kernel
theorem dX5_halve_18 : decode cX5_halve 18 = .ok (.iload_n 1, 1) := by decide +kernel
theorem dX5_halve_19 : decode cX5_halve 19 = .ok (.iaload, 1) := by decide +kernel
theorem dX5_halve_20 : decode cX5_halve 20 = .ok (.invokestatic 96, 3) := by decide +kernel
theorem dX5_halve_23 : decode cX5_halve 23 = .ok (.istore_n 3, 1) := by decide +kernel
theorem dX5_halve_24 : decode cX5_halve 24 = .ok (.aload_n 0, 1) := by decide +kernel
theorem dX5_halve_25 : decode cX5_halve 25 = .ok (.getfield 18, 3) := by decide +kernel
theorem dX5_halve_28 : decode cX5_halve 28 = .ok (.getfield 72, 3) := by decide +kernel
theorem dX5_halve_31 : decode cX5_halve 31 = .ok (.iload_n 1, 1) := by decide +kernel
theorem dX5_halve_32 : decode cX5_halve 32 = .ok (.iload_n 3, 1) := by decide +kernel
theorem dX5_halve_33 : decode cX5_halve 33 = .ok (.iconst 1, 1) := by decide +kernel
theorem dX5_halve_34 : decode cX5_halve 34 = .ok (.iadd, 1) := by decide +kernel
theorem dX5_halve_35 : decode cX5_halve 35 = .ok (.iastore, 1) := by decide +kernel
theorem dX5_halve_36 : decode cX5_halve 36 = .ok (.aload_n 0, 1) := by decide +kernel
theorem dX5_halve_37 : decode cX5_halve 37 = .ok (.invokevirtual 50, 3) := by decide +kernel
theorem dX5_halve_40 : decode cX5_halve 40 = .ok (.aload_n 0, 1) := by decide +kernel
theorem dX5_halve_41 : decode cX5_halve 41 = .ok (.getfield 18, 3) := by decide +kernel
theorem dX5_halve_44 : decode cX5_halve 44 = .ok (.getfield 72, 3) := by decide +kernel
theorem dX5_halve_47 : decode cX5_halve 47 = .ok (.iload_n 1, 1) := by decide +kernel
theorem dX5_halve_48 : decode cX5_halve 48 = .ok (.iload_n 2, 1) := by decide +kernel
theorem dX5_halve_49 : decode cX5_halve 49 = .ok (.iastore, 1) := by decide +kernel
theorem dX5_halve_50 : decode cX5_halve 50 = .ok (.aload_n 0, 1) := by decide +kernel
theorem dX5_halve_51 : decode cX5_halve 51 = .ok (.getfield 18, 3) := by decide +kernel
theorem dX5_halve_54 : decode cX5_halve 54 = .ok (.getfield 89, 3) := by decide +kernel
theorem dX5_halve_57 : decode cX5_halve 57 = .ok (.iload_n 1, 1) := by decide +kernel
theorem dX5_halve_58 : decode cX5_halve 58 = .ok (.iload_n 3, 1) := by decide +kernel
theorem dX5_halve_59 : decode cX5_halve 59 = .ok (.iastore, 1) := by decide +kernel
theorem dX5_halve_60 : decode cX5_halve 60 = .ok (.aload_n 0, 1) := by decide +kernel
theorem dX5_halve_61 : decode cX5_halve 61 = .ok (.invokevirtual 50, 3) := by decide +kernel
theorem dX5_halve_64 : decode cX5_halve 64 = .ok (.return_, 1) := by decide +kernel
theorem dX6_init_0 : decode cX6_init 0 = .ok (.aload_n 0, 1) := by decide +kernel
theorem dX6_init_1 : decode cX6_init 1 = .ok (.invokespecial 3, 3) := by decide +kernel
theorem dX6_init_4 : decode cX6_init 4 = .ok (.aload_n 0, 1) := by decide +kernel
theorem dX6_init_5 : decode cX6_init 5 = .ok (.bipush 120, 2) := by decide +kernel
theorem dX6_init_7 : decode cX6_init 7 = .ok (.newarray .int, 2) := by decide +kernel
theorem dX6_init_9 : decode cX6_init 9 = .ok (.putfield 9, 3) := by decide +kernel
theorem dX6_init_12 : decode cX6_init 12 = .ok (.aload_n 0, 1) := by decide +kernel
theorem dX6_init_13 : decode cX6_init 13 = .ok (.bipush 60, 2) := by decide +kernel
theorem dX6_init_15 : decode cX6_init 15 = .ok (.newarray .int, 2) := by decide +kernel
theorem dX6_init_17 : decode cX6_init 17 = .ok (.putfield 15, 3) := by decide +kernel
theorem dX6_init_20 : decode cX6_init 20 = .ok (.aload_n 0, 1) := by decide +kernel
theorem dX6_init_21 : decode cX6_init 21 = .ok (.sipush 240, 3) := by decide +kernel
theorem dX6_init_24 : decode cX6_init 24 = .ok (.newarray .int, 2) := by decide +kernel
theorem dX6_init_26 : decode cX6_init 26 = .ok (.putfield 18, 3) := by decide +kernel
theorem dX6_init_29 : decode cX6_init 29 = .ok (.return_, 1) := by decide +kernel
set_option maxRecDepth 20000 in
theorem ggX6_parse_X6_skipBlanks : GoodIn wsX6_parse wsX6_skipBlanks := goodIn_r _ [8, 1, 3, 9, 30, 31, 32, 33, 34, 35] (by decide +kernel) (by decide +kernel)
set_option maxRecDepth 20000 in
theorem gX6_parse_X6_skipBlanks : GoodIn wsX6_parse (wsV RX6 28 RX6 yX6_skipBlanks wsX6_skipBlanks) := goodIn_app (goodIn_of _ (by decide +kernel)) ggX6_parse_X6_skipBlanks
set_option maxRecDepth 20000 in
theorem ggX6_parse_X6_readOrder : GoodIn wsX6_parse wsX6_readOrder := goodIn_r _ [13, 1, 14, 2, 15, 16, 17, 7, 18, 3, 9, 19, 20, 21, 4, 5, 6, 8, 22, 23, 24, 25, 26, 27, 28, 29, 30, 31, 32, 33, 34, 35] (by decide +kernel) (by decide +kernel)
set_option maxRecDepth 20000 in
theorem gX6_parse_X6_readOrder : GoodIn wsX6_parse (wsV RX6 31 RX6 yX6_readOrder wsX6_readOrder) := goodIn_app (goodIn_of _ (by decide +kernel)) ggX6_parse_X6_readOrder
theorem dX6_parse_0 : decode cX6_parse 0 = .ok (.aload_n 0, 1) := by decide +kernel
theorem dX6_parse_1 : decode cX6_parse 1 = .ok (.iconst 0, 1) := by decide +kernel
theorem dX6_parse_2 : decode cX6_parse 2 = .ok (.putfield 21, 3) := by decide +kernel
theorem dX6_parse_5 : decode cX6_parse 5 = .ok (.aload_n 0, 1) := by decide +kernel
theorem dX6_parse_6 : decode cX6_parse 6 = .ok (.iconst 0, 1) := by decide +kernel
theorem dX6_parse_7 : decode cX6_parse 7 = .ok (.putfield 25, 3) := by decide +kernel

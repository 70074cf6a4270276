theorem dX6_parse_10 : decode cX6_parse 10 = .ok (.aload_n 0, 1) := by decide +kernel
theorem dX6_parse_11 : decode cX6_parse 11 = .ok (.invokevirtual 28, 3) := by decide +kernel
theorem dX6_parse_14 : decode cX6_parse 14 = .ok (.aload_n 0, 1) := by decide +kernel
theorem dX6_parse_15 : decode cX6_parse 15 = .ok (.getfield 25, 3) := by decide +kernel
theorem dX6_parse_18 : decode cX6_parse 18 = .ok (.bipush 60, 2) := by decide +kernel
theorem dX6_parse_20 : decode cX6_parse 20 = .ok (.if_icmp .ge 37, 3) := by decide +kernel
theorem dX6_parse_23 : decode cX6_parse 23 = .ok (.aload_n 0, 1) := by decide +kernel
theorem dX6_parse_24 : decode cX6_parse 24 = .ok (.invokevirtual 31, 3) := by decide +kernel
theorem dX6_parse_27 : decode cX6_parse 27 = .ok (.ifCond .eq 30, 3) := by decide +kernel
theorem dX6_parse_30 : decode cX6_parse 30 = .ok (.aload_n 0, 1) := by decide +kernel
theorem dX6_parse_31 : decode cX6_parse 31 = .ok (.dup, 1) := by decide +kernel
theorem dX6_parse_32 : decode cX6_parse 32 = .ok (.getfield 25, 3) := by decide +kernel
theorem dX6_parse_35 : decode cX6_parse 35 = .ok (.iconst 1, 1) := by decide +kernel
theorem dX6_parse_36 : decode cX6_parse 36 = .ok (.iadd, 1) := by decide +kernel
theorem dX6_parse_37 : decode cX6_parse 37 = .ok (.putfield 25, 3) := by decide +kernel
theorem dX6_parse_40 : decode cX6_parse 40 = .ok (.aload_n 0, 1) := by decide +kernel
theorem dX6_parse_41 : decode cX6_parse 41 = .ok (.invokevirtual 28, 3) := by decide +kernel
theorem dX6_parse_44 : decode cX6_parse 44 = .ok (.aload_n 0, 1) := by decide +kernel
theorem dX6_parse_45 : decode cX6_parse 45 = .ok (.getfield 21, 3) := by decide +kernel
theorem dX6_parse_48 : decode cX6_parse 48 = .ok (.aload_n 0, 1) := by decide +kernel
theorem dX6_parse_49 : decode cX6_parse 49 = .ok (.getfield 35, 3) := by decide +kernel
theorem dX6_parse_52 : decode cX6_parse 52 = .ok (.if_icmp .lt (-38), 3) := by decide +kernel
theorem dX6_parse_55 : decode cX6_parse 55 = .ok (.iconst 1, 1) := by decide +kernel
theorem dX6_parse_56 : decode cX6_parse 56 = .ok (.ireturn, 1) := by decide +kernel
theorem dX6_parse_57 : decode cX6_parse 57 = .ok (.iconst 0, 1) := by decide +kernel
theorem dX6_parse_58 : decode cX6_parse 58 = .ok (.ireturn, 1) := by decide +kernel
set_option maxRecDepth 20000 in
theorem ggX6_readOrder_X6_peek : GoodIn wsX6_readOrder wsX6_peek := goodIn_r _ [8, 1, 9, 10, 26, 27, 28, 29, 30, 31] (by decide +kernel) (by decide +kernel)
set_option maxRecDepth 20000 in
theorem gX6_readOrder_X6_peek : GoodIn wsX6_readOrder (wsV RX6 38 RX6 yX6_peek wsX6_peek) := goodIn_app (goodIn_of _ (by decide +kernel)) ggX6_readOrder_X6_peek
set_option maxRecDepth 20000 in
theorem ggX6_readOrder_X6_numbersOf : GoodIn wsX6_readOrder wsX6_numbersOf := goodIn_r _ [13] (by decide +kernel) (by decide +kernel)
set_option maxRecDepth 20000 in
theorem gX6_readOrder_X6_numbersOf : GoodIn wsX6_readOrder (va_wsS RX6 42 yX6_numbersOf wsX6_numbersOf) := goodIn_app (goodIn_of _ (by decide +kernel)) ggX6_readOrder_X6_numbersOf
set_option maxRecDepth 20000 in
theorem ggX6_readOrder_X6_skipBlanks : GoodIn wsX6_readOrder wsX6_skipBlanks := goodIn_r _ [17, 1, 9, 10, 26, 27, 28, 29, 30, 31] (by decide +kernel) (by decide +kernel)
set_option maxRecDepth 20000 in
theorem gX6_readOrder_X6_skipBlanks : GoodIn wsX6_readOrder (wsV RX6 28 RX6 yX6_skipBlanks wsX6_skipBlanks) := goodIn_app (goodIn_of _ (by decide +kernel)) ggX6_readOrder_X6_skipBlanks
set_option maxRecDepth 20000 in
theorem ggX6_readOrder_X6_readNumber : GoodIn wsX6_readOrder wsX6_readNumber := goodIn_r _ [21, 1, 22, 4, 5, 6, 7, 8, 9, 10, 23, 24, 25, 26, 27, 28, 29, 30, 31] (by decide +kernel) (by decide +kernel)
set_option maxRecDepth 20000 in
theorem gX6_readOrder_X6_readNumber : GoodIn wsX6_readOrder (wsV RX6 46 RX6 yX6_readNumber wsX6_readNumber) := goodIn_app (goodIn_of _ (by decide +kernel)) ggX6_readOrder_X6_readNumber
theorem dX6_readOrder_0 : decode cX6_readOrder 0 = .ok (.aload_n 0, 1) := by decide +kernel
theorem dX6_readOrder_1 : decode cX6_readOrder 1 = .ok (.invokevirtual 38, 3) := by decide +kernel
theorem dX6_readOrder_4 : decode cX6_readOrder 4 = .ok (.istore_n 1, 1) := by decide +kernel
theorem dX6_readOrder_5 : decode cX6_readOrder 5 = .ok (.iload_n 1, 1) := by decide +kernel
theorem dX6_readOrder_6 : decode cX6_readOrder 6 = .ok (.invokestatic 42, 3) := by decide +kernel
theorem dX6_readOrder_9 : decode cX6_readOrder 9 = .ok (.istore_n 2, 1) := by decide +kernel
theorem dX6_readOrder_10 : decode cX6_readOrder 10 = .ok (.iload_n 2, 1) := by decide +kernel
theorem dX6_readOrder_11 : decode cX6_readOrder 11 = .ok (.ifCond .ge 5, 3) := by decide +kernel
theorem dX6_readOrder_14 : decode cX6_readOrder 14 = .ok (.iconst 0, 1) := by decide +kernel
theorem dX6_readOrder_15 : decode cX6_readOrder 15 = .ok (.ireturn, 1) := by decide +kernel
theorem dX6_readOrder_16 : decode cX6_readOrder 16 = .ok (.aload_n 0, 1) := by decide +kernel
theorem dX6_readOrder_17 : decode cX6_readOrder 17 = .ok (.dup, 1) := by decide +kernel
theorem dX6_readOrder_18 : decode cX6_readOrder 18 = .ok (.getfield 21, 3) := by decide +kernel
theorem dX6_readOrder_21 : decode cX6_readOrder 21 = .ok (.iconst 1, 1) := by decide +kernel
theorem dX6_readOrder_22 : decode cX6_readOrder 22 = .ok (.iadd, 1) := by decide +kernel
theorem dX6_readOrder_23 : decode cX6_readOrder 23 = .ok (.putfield 21, 3) := by decide +kernel
theorem dX6_readOrder_26 : decode cX6_readOrder 26 = .ok (.aload_n 0, 1) := by decide +kernel
theorem dX6_readOrder_27 : decode cX6_readOrder 27 = .ok (.getfield 15, 3) := by decide +kernel
theorem dX6_readOrder_30 : decode cX6_readOrder 30 = .ok (.aload_n 0, 1) := by decide +kernel
theorem dX6_readOrder_31 : decode cX6_readOrder 31 = .ok (.getfield 25, 3) := by decide +kernel
theorem dX6_readOrder_34 : decode cX6_readOrder 34 = .ok (.iload_n 1, 1) := by decide +kernel
theorem dX6_readOrder_35 : decode cX6_readOrder 35 = .ok (.iastore, 1) := by decide +kernel
theorem dX6_readOrder_36 : decode cX6_readOrder 36 = .ok (.iconst 0, 1) := by decide +kernel
theorem dX6_readOrder_37 : decode cX6_readOrder 37 = .ok (.istore_n 3, 1) := by decide +kernel
theorem dX6_readOrder_38 : decode cX6_readOrder 38 = .ok (.iload_n 3, 1) := by decide +kernel
theorem dX6_readOrder_39 : decode cX6_readOrder 39 = .ok (.iload_n 2, 1) := by decide +kernel
theorem dX6_readOrder_40 : decode cX6_readOrder 40 = .ok (.if_icmp .ge 41, 3) := by decide +kernel
theorem dX6_readOrder_43 : decode cX6_readOrder 43 = .ok (.aload_n 0, 1) := by decide +kernel
theorem dX6_readOrder_44 : decode cX6_readOrder 44 = .ok (.invokevirtual 28, 3) := by decide +kernel
theorem dX6_readOrder_47 : decode cX6_readOrder 47 = .ok (.aload_n 0, 1) := by decide +kernel
theorem dX6_readOrder_48 : decode cX6_readOrder 48 = .ok (.aload_n 0, 1) := by decide +kernel
theorem dX6_readOrder_49 : decode cX6_readOrder 49 = .ok (.getfield 25, 3) := by decide +kernel
theorem dX6_readOrder_52 : decode cX6_readOrder 52 = .ok (.iconst 4, 1) := by decide +kernel
theorem dX6_readOrder_53 : decode cX6_readOrder 53 = .ok (.imul, 1) := by decide +kernel
theorem dX6_readOrder_54 : decode cX6_readOrder 54 = .ok (.iload_n 3, 1) := by decide +kernel
theorem dX6_readOrder_55 : decode cX6_readOrder 55 = .ok (.iadd, 1) := by decide +kernel
theorem dX6_readOrder_56 : decode cX6_readOrder 56 = .ok (.iload_n 1, 1) := by decide +kernel
theorem dX6_readOrder_57 : decode cX6_readOrder 57 = .ok (.bipush 117, 2) := by decide +kernel
theorem dX6_readOrder_59 : decode cX6_readOrder 59 = .ok (.if_icmp .ne 7, 3) := by decide +kernel
theorem dX6_readOrder_62 : decode cX6_readOrder 62 = .ok (.iconst 1, 1) := by decide +kernel
theorem dX6_readOrder_63 : decode cX6_readOrder 63 = .ok (.goto 4, 3) := by decide +kernel
theorem dX6_readOrder_66 : decode cX6_readOrder 66 = .ok (.iconst 0, 1) := by decide +kernel
theorem dX6_readOrder_67 : decode cX6_readOrder 67 = .ok (.invokevirtual 46, 3) := by decide +kernel
theorem dX6_readOrder_70 : decode cX6_readOrder 70 = .ok (.ifCond .ne 5, 3) := by decide +kernel
theorem dX6_readOrder_73 : decode cX6_readOrder 73 = .ok (.iconst 0, 1) := by decide +kernel
theorem dX6_readOrder_74 : decode cX6_readOrder 74 = .ok (.ireturn, 1) := by decide +kernel
theorem dX6_readOrder_75 : decode cX6_readOrder 75 = .ok (.iinc 3 1, 3) := by decide +kernel
theorem dX6_readOrder_78 : decode cX6_readOrder 78 = .ok (.goto (-40), 3) := by decide +kernel
theorem dX6_readOrder_81 : decode cX6_readOrder 81 = .ok (.aload_n 0, 1) := by decide +kernel
theorem dX6_readOrder_82 : decode cX6_readOrder 82 = .ok (.invokevirtual 28, 3) := by decide +kernel
theorem dX6_readOrder_85 : decode cX6_readOrder 85 = .ok (.aload_n 0, 1) := by decide +kernel
theorem dX6_readOrder_86 : decode cX6_readOrder 86 = .ok (.invokevirtual 38, 3) := by decide +kernel
theorem dX6_readOrder_89 : decode cX6_readOrder 89 = .ok (.bipush 59, 2) := by decide +kernel
theorem dX6_readOrder_91 : decode cX6_readOrder 91 = .ok (.if_icmp .eq 5, 3) := by decide +kernel
theorem dX6_readOrder_94 : decode cX6_readOrder 94 = .ok (.iconst 0, 1) := by decide +kernel
theorem dX6_readOrder_95 : decode cX6_readOrder 95 = .ok (.ireturn, 1) := by decide +kernel
theorem dX6_readOrder_96 : decode cX6_readOrder 96 = .ok (.aload_n 0, 1) := by decide +kernel
theorem dX6_readOrder_97 : decode cX6_readOrder 97 = .ok (.dup, 1) := by decide +kernel
theorem dX6_readOrder_98 : decode cX6_readOrder 98 = .ok (.getfield 21, 3) := by decide +kernel
theorem dX6_readOrder_101 : decode cX6_readOrder 101 = .ok (.iconst 1, 1) := by decide +kernel
theorem dX6_readOrder_102 : decode cX6_readOrder 102 = .ok (.iadd, 1) := by decide +kernel
theorem dX6_readOrder_103 : decode cX6_readOrder 103 = .ok (.putfield 21, 3) := by decide +kernel
theorem dX6_readOrder_106 : decode cX6_readOrder 106 = .ok (.iconst 1, 1) := by decide +kernel
theorem dX6_readOrder_107 : decode cX6_readOrder 107 = .ok (.ireturn, 1) := by decide +kernel
theorem dX6_numbersOf_0 : decode cX6_numbersOf 0 = .ok (.iload_n 0, 1) := by decide +kernel
theorem dX6_numbersOf_1 : decode cX6_numbersOf 1 = .ok (.lookupswitch 51 #[(99, 47), (107, 45), (117, 43), (120, 49)], 43) := by decide +kernel
theorem dX6_numbersOf_44 : decode cX6_numbersOf 44 = .ok (.iconst 2, 1) := by decide +kernel
theorem dX6_numbersOf_45 : decode cX6_numbersOf 45 = .ok (.ireturn, 1) := by decide +kernel
theorem dX6_numbersOf_46 : decode cX6_numbersOf 46 = .ok (.iconst 4, 1) := by decide +kernel
theorem dX6_numbersOf_47 : decode cX6_numbersOf 47 = .ok (.ireturn, 1) := by decide +kernel
theorem dX6_numbersOf_48 : decode cX6_numbersOf 48 = .ok (.iconst 0, 1) := by decide +kernel
theorem dX6_numbersOf_49 : decode cX6_numbersOf 49 = .ok (.ireturn, 1) := by decide +kernel
theorem dX6_numbersOf_50 : decode cX6_numbersOf 50 = .ok (.iconst 1, 1) := by decide +kernel
theorem dX6_numbersOf_51 : decode cX6_numbersOf 51 = .ok (.ireturn, 1) := by decide +kernel
theorem dX6_numbersOf_52 : decode cX6_numbersOf 52 = .ok (.iconst (-1), 1) := by decide +kernel
theorem dX6_numbersOf_53 : decode cX6_numbersOf 53 = .ok (.ireturn, 1) := by decide +kernel
set_option maxRecDepth 20000 in
theorem ggX6_readNumber_X6_peek : GoodIn wsX6_readNumber wsX6_peek := goodIn_r _ [7, 1, 8, 9, 13, 14, 15, 16, 17, 18] (by decide +kernel) (by decide +kernel)
set_option maxRecDepth 20000 in
theorem gX6_readNumber_X6_peek : GoodIn wsX6_readNumber (wsV RX6 38 RX6 yX6_peek wsX6_peek) := goodIn_app (goodIn_of _ (by decide +kernel)) ggX6_readNumber_X6_peek
set_option maxRecDepth 20000 in
theorem ggX6_readNumber_X6_isFigure : GoodIn wsX6_readNumber wsX6_isFigure := goodIn_r _ [12] (by decide +kernel) (by decide +kernel)
set_option maxRecDepth 20000 in
theorem gX6_readNumber_X6_isFigure : GoodIn wsX6_readNumber (va_wsS RX6 50 yX6_isFigure wsX6_isFigure) := goodIn_app (goodIn_of _ (by decide +kernel)) ggX6_readNumber_X6_isFigure
theorem dX6_readNumber_0 : decode cX6_readNumber 0 = .ok (.iload_n 2, 1) := by decide +kernel
theorem dX6_readNumber_1 : decode cX6_readNumber 1 = .ok (.ifCond .eq 16, 3) := by decide +kernel
theorem dX6_readNumber_4 : decode cX6_readNumber 4 = .ok (.aload_n 0, 1) := by decide +kernel
theorem dX6_readNumber_5 : decode cX6_readNumber 5 = .ok (.invokevirtual 38, 3) := by decide +kernel
theorem dX6_readNumber_8 : decode cX6_readNumber 8 = .ok (.bipush 45, 2) := by decide +kernel
theorem dX6_readNumber_10 : decode cX6_readNumber 10 = .ok (.if_icmp .ne 7, 3) := by decide +kernel
theorem dX6_readNumber_13 : decode cX6_readNumber 13 = .ok (.iconst 1, 1) := by decide +kernel
theorem dX6_readNumber_14 : decode cX6_readNumber 14 = .ok (.goto 4, 3) := by decide +kernel
theorem dX6_readNumber_17 : decode cX6_readNumber 17 = .ok (.iconst 0, 1) := by decide +kernel
theorem dX6_readNumber_18 : decode cX6_readNumber 18 = .ok (.istore_n 3, 1) := by decide +kernel
theorem dX6_readNumber_19 : decode cX6_readNumber 19 = .ok (.iload_n 3, 1) := by decide +kernel
theorem dX6_readNumber_20 : decode cX6_readNumber 20 = .ok (.ifCond .eq 13, 3) := by decide +kernel
theorem dX6_readNumber_23 : decode cX6_readNumber 23 = .ok (.aload_n 0, 1) := by decide +kernel
theorem dX6_readNumber_24 : decode cX6_readNumber 24 = .ok (.dup, 1) := by decide +kernel
theorem dX6_readNumber_25 : decode cX6_readNumber 25 = .ok (.getfield 21, 3) := by decide +kernel
theorem dX6_readNumber_28 : decode cX6_readNumber 28 = .ok (.iconst 1, 1) := by decide +kernel
theorem dX6_readNumber_29 : decode cX6_readNumber 29 = .ok (.iadd, 1) := by decide +kernel
theorem dX6_readNumber_30 : decode cX6_readNumber 30 = .ok (.putfield 21, 3) := by decide +kernel
theorem dX6_readNumber_33 : decode cX6_readNumber 33 = .ok (.iconst 0, 1) := by decide +kernel
theorem dX6_readNumber_34 : decode cX6_readNumber 34 = .ok (.istore 4, 2) := by decide +kernel
theorem dX6_readNumber_36 : decode cX6_readNumber 36 = .ok (.iconst 0, 1) := by decide +kernel
theorem dX6_readNumber_37 : decode cX6_readNumber 37 = .ok (.istore 5, 2) := by decide +kernel
theorem dX6_readNumber_39 : decode cX6_readNumber 39 = .ok (.iload 5, 2) := by decide +kernel
theorem dX6_readNumber_41 : decode cX6_readNumber 41 = .ok (.bipush 9, 2) := by decide +kernel
theorem dX6_readNumber_43 : decode cX6_readNumber 43 = .ok (.if_icmp .ge 44, 3) := by decide +kernel
theorem dX6_readNumber_46 : decode cX6_readNumber 46 = .ok (.aload_n 0, 1) := by decide +kernel
theorem dX6_readNumber_47 : decode cX6_readNumber 47 = .ok (.invokevirtual 38, 3) := by decide +kernel
theorem dX6_readNumber_50 : decode cX6_readNumber 50 = .ok (.invokestatic 50, 3) := by decide +kernel
theorem dX6_readNumber_53 : decode cX6_readNumber 53 = .ok (.ifCond .eq 34, 3) := by decide +kernel
theorem dX6_readNumber_56 : decode cX6_readNumber 56 = .ok (.iload 4, 2) := by decide +kernel
theorem dX6_readNumber_58 : decode cX6_readNumber 58 = .ok (.bipush 10, 2) := by decide +kernel
theorem dX6_readNumber_60 : decode cX6_readNumber 60 = .ok (.imul, 1) := by decide +kernel
theorem dX6_readNumber_61 : decode cX6_readNumber 61 = .ok (.aload_n 0, 1) := by decide +kernel
theorem dX6_readNumber_62 : decode cX6_readNumber 62 = .ok (.invokevirtual 38, 3) := by decide +kernel
theorem dX6_readNumber_65 : decode cX6_readNumber 65 = .ok (.iadd, 1) := by decide +kernel
theorem dX6_readNumber_66 : decode cX6_readNumber 66 = .ok (.bipush 48, 2) := by decide +kernel
theorem dX6_readNumber_68 : decode cX6_readNumber 68 = .ok (.isub, 1) := by decide +kernel
theorem dX6_readNumber_69 : decode cX6_readNumber 69 = .ok (.istore 4, 2) := by decide +kernel
theorem dX6_readNumber_71 : decode cX6_readNumber 71 = .ok (.iinc 5 1, 3) := by decide +kernel
theorem dX6_readNumber_74 : decode cX6_readNumber 74 = .ok (.aload_n 0, 1) := by decide +kernel
theorem dX6_readNumber_75 : decode cX6_readNumber 75 = .ok (.dup, 1) := by decide +kernel
theorem dX6_readNumber_76 : decode cX6_readNumber 76 = .ok (.getfield 21, 3) := by decide +kernel
theorem dX6_readNumber_79 : decode cX6_readNumber 79 = .ok (.iconst 1, 1) := by decide +kernel
theorem dX6_readNumber_80 : decode cX6_readNumber 80 = .ok (.iadd, 1) := by decide +kernel
theorem dX6_readNumber_81 : decode cX6_readNumber 81 = .ok (.putfield 21, 3) := by decide +kernel
theorem dX6_readNumber_84 : decode cX6_readNumber 84 = .ok (.goto (-45), 3) := by decide +kernel
theorem dX6_readNumber_87 : decode cX6_readNumber 87 = .ok (.aload_n 0, 1) := by decide +kernel
theorem dX6_readNumber_88 : decode cX6_readNumber 88 = .ok (.getfield 18, 3) := by decide +kernel
theorem dX6_readNumber_91 : decode cX6_readNumber 91 = .ok (.iload_n 1, 1) := by decide +kernel
theorem dX6_readNumber_92 : decode cX6_readNumber 92 = .ok (.iload_n 3, 1) := by decide +kernel
theorem dX6_readNumber_93 : decode cX6_readNumber 93 = .ok (.ifCond .eq 9, 3) := by decide +kernel
theorem dX6_readNumber_96 : decode cX6_readNumber 96 = .ok (.iload 4, 2) := by decide +kernel
theorem dX6_readNumber_98 : decode cX6_readNumber 98 = .ok (.ineg, 1) := by decide +kernel
theorem dX6_readNumber_99 : decode cX6_readNumber 99 = .ok (.goto 5, 3) := by decide +kernel
theorem dX6_readNumber_102 : decode cX6_readNumber 102 = .ok (.iload 4, 2) := by decide +kernel
theorem dX6_readNumber_104 : decode cX6_readNumber 104 = .ok (.iastore, 1) := by decide +kernel
theorem dX6_readNumber_105 : decode cX6_readNumber 105 = .ok (.iload 5, 2) := by decide +kernel
theorem dX6_readNumber_107 : decode cX6_readNumber 107 = .ok (.ifCond .le 17, 3) := by decide +kernel
theorem dX6_readNumber_110 : decode cX6_readNumber 110 = .ok (.aload_n 0, 1) := by decide +kernel
theorem dX6_readNumber_111 : decode cX6_readNumber 111 = .ok (.invokevirtual 38, 3) := by decide +kernel
theorem dX6_readNumber_114 : decode cX6_readNumber 114 = .ok (.invokestatic 50, 3) := by decide +kernel
theorem dX6_readNumber_117 : decode cX6_readNumber 117 = .ok (.ifCond .ne 7, 3) := by decide +kernel
theorem dX6_readNumber_120 : decode cX6_readNumber 120 = .ok (.iconst 1, 1) := by decide +kernel
theorem dX6_readNumber_121 : decode cX6_readNumber 121 = .ok (.goto 4, 3) := by decide +kernel
theorem dX6_readNumber_124 : decode cX6_readNumber 124 = .ok (.iconst 0, 1) := by decide +kernel
theorem dX6_readNumber_125 : decode cX6_readNumber 125 = .ok (.ireturn, 1) := by decide +kernel
theorem dX6_skipBlanks_0 : decode cX6_skipBlanks 0 = .ok (.aload_n 0, 1) := by decide +kernel
theorem dX6_skipBlanks_1 : decode cX6_skipBlanks 1 = .ok (.getfield 21, 3) := by decide +kernel
theorem dX6_skipBlanks_4 : decode cX6_skipBlanks 4 = .ok (.aload_n 0, 1) := by decide +kernel
theorem dX6_skipBlanks_5 : decode cX6_skipBlanks 5 = .ok (.getfield 35, 3) := by decide +kernel
theorem dX6_skipBlanks_8 : decode cX6_skipBlanks 8 = .ok (.if_icmp .ge 30, 3) := by decide +kernel
theorem dX6_skipBlanks_11 : decode cX6_skipBlanks 11 = .ok (.aload_n 0, 1) := by decide +kernel
theorem dX6_skipBlanks_12 : decode cX6_skipBlanks 12 = .ok (.getfield 9, 3) := by decide +kernel
theorem dX6_skipBlanks_15 : decode cX6_skipBlanks 15 = .ok (.aload_n 0, 1) := by decide +kernel
theorem dX6_skipBlanks_16 : decode cX6_skipBlanks 16 = .ok (.getfield 21, 3) := by decide +kernel
theorem dX6_skipBlanks_19 : decode cX6_skipBlanks 19 = .ok (.iaload, 1) := by decide +kernel
theorem dX6_skipBlanks_20 : decode cX6_skipBlanks 20 = .ok (.bipush 32, 2) := by decide +kernel
theorem dX6_skipBlanks_22 : decode cX6_skipBlanks 22 = .ok (.if_icmp .ne 16, 3) := by decide +kernel
theorem dX6_skipBlanks_25 : decode cX6_skipBlanks 25 = .ok (.aload_n 0, 1) := by decide +kernel
theorem dX6_skipBlanks_26 : decode cX6_skipBlanks 26 = .ok (.dup, 1) := by decide +kernel
theorem dX6_skipBlanks_27 : decode cX6_skipBlanks 27 = .ok (.getfield 21, 3) := by decide +kernel
theorem dX6_skipBlanks_30 : decode cX6_skipBlanks 30 = .ok (.iconst 1, 1) := by decide +kernel
theorem dX6_skipBlanks_31 : decode cX6_skipBlanks 31 = .ok (.iadd, 1) := by decide +kernel
theorem dX6_skipBlanks_32 : decode cX6_skipBlanks 32 = .ok (.putfield 21, 3) := by decide +kernel
theorem dX6_skipBlanks_35 : decode cX6_skipBlanks 35 = .ok (.goto (-35), 3) := by decide +kernel
theorem dX6_skipBlanks_38 : decode cX6_skipBlanks 38 = .ok (.return_, 1) := by decide +kernel
theorem dX6_peek_0 : decode cX6_peek 0 = .ok (.aload_n 0, 1) := by decide +kernel
theorem dX6_peek_1 : decode cX6_peek 1 = .ok (.getfield 21, 3) := by decide +kernel
theorem dX6_peek_4 : decode cX6_peek 4 = .ok (.aload_n 0, 1) := by decide +kernel
theorem dX6_peek_5 : decode cX6_peek 5 = .ok (.getfield 35, 3) := by decide +kernel
theorem dX6_peek_8 : decode cX6_peek 8 = .ok (.if_icmp .ge 15, 3) := by decide +kernel
theorem dX6_peek_11 : decode cX6_peek 11 = .ok (.aload_n 0, 1) := by decide +kernel
theorem dX6_peek_12 : decode cX6_peek 12 = .ok (.getfield 9, 3) := by decide +kernel
theorem dX6_peek_15 : decode cX6_peek 15 = .ok (.aload_n 0, 1) := by decide +kernel
theorem dX6_peek_16 : decode cX6_peek 16 = .ok (.getfield 21, 3) := by decide +kernel
theorem dX6_peek_19 : decode cX6_peek 19 = .ok (.iaload, 1) := by decide +kernel
theorem dX6_peek_20 : decode cX6_peek 20 = .ok (.goto 4, 3) := by decide +kernel
theorem dX6_peek_23 : decode cX6_peek 23 = .ok (.iconst (-1), 1) := by decide +kernel
theorem dX6_peek_24 : decode cX6_peek 24 = .ok (.ireturn, 1) := by decide +kernel
theorem dX6_isFigure_0 : decode cX6_isFigure 0 = .ok (.iload_n 0, 1) := by decide +kernel
theorem dX6_isFigure_1 : decode cX6_isFigure 1 = .ok (.bipush 48, 2) := by decide +kernel
theorem dX6_isFigure_3 : decode cX6_isFigure 3 = .ok (.if_icmp .lt 13, 3) := by decide +kernel
theorem dX6_isFigure_6 : decode cX6_isFigure 6 = .ok (.iload_n 0, 1) := by decide +kernel
theorem dX6_isFigure_7 : decode cX6_isFigure 7 = .ok (.bipush 57, 2) := by decide +kernel
theorem dX6_isFigure_9 : decode cX6_isFigure 9 = .ok (.if_icmp .gt 7, 3) := by decide +kernel
theorem dX6_isFigure_12 : decode cX6_isFigure 12 = .ok (.iconst 1, 1) := by decide +kernel
theorem dX6_isFigure_13 : decode cX6_isFigure 13 = .ok (.goto 4, 3) := by decide +kernel
theorem dX6_isFigure_16 : decode cX6_isFigure 16 = .ok (.iconst 0, 1) := by decide +kernel
theorem dX6_isFigure_17 : decode cX6_isFigure 17 = .ok (.ireturn, 1) := by decide +kernel
set_option maxRecDepth 20000 in
theorem ggX7_init_X3_init : GoodIn wsX7_init wsX3_init := goodIn_r _ [28, 29, 2, 3, 25, 30, 31, 32, 33, 34, 35, 61, 62, 63, 64, 65, 66, 67, 68] (by decide +kernel) (by decide +kernel)
set_option maxRecDepth 20000 in
theorem gX7_init_X3_init_n9 : GoodIn wsX7_init (wsX3_init) := ggX7_init_X3_init
set_option maxRecDepth 20000 in
theorem ggX7_init_X2_init : GoodIn wsX7_init wsX2_init := goodIn_r _ [38, 39, 2, 3, 40, 41, 5, 6, 27, 28, 29, 25, 30, 31, 32, 33, 34, 35, 76, 77, 78, 61, 62, 63, 64, 65, 66, 67, 68] (by decide +kernel) (by decide +kernel)
set_option maxRecDepth 20000 in
theorem gX7_init_X2_init : GoodIn wsX7_init (wsX2_init) := ggX7_init_X2_init
set_option maxRecDepth 20000 in
theorem ggX7_init_X0_init : GoodIn wsX7_init wsX0_init := goodIn_r _ [43, 44, 2, 3, 25, 45, 46, 79, 80, 81, 82] (by decide +kernel) (by decide +kernel)
set_option maxRecDepth 20000 in
theorem gX7_init_X0_init_n28 : GoodIn wsX7_init (wsX0_init) := ggX7_init_X0_init
set_option maxRecDepth 20000 in
theorem ggX7_init_X5_init : GoodIn wsX7_init wsX5_init := goodIn_r _ [48, 49, 2, 3, 25, 50, 51, 14, 15, 52, 53, 54, 42, 43, 44, 45, 46, 83, 84, 85, 86, 87, 88, 89, 90, 79, 80, 81, 82] (by decide +kernel) (by decide +kernel)
set_option maxRecDepth 20000 in
theorem gX7_init_X5_init_n35 : GoodIn wsX7_init (wsX5_init) := ggX7_init_X5_init
set_option maxRecDepth 20000 in
theorem ggX7_init_X6_init : GoodIn wsX7_init wsX6_init := goodIn_r _ [56, 57, 2, 3, 25, 58, 59, 60, 91, 92, 93, 94, 95, 96] (by decide +kernel) (by decide +kernel)
set_option maxRecDepth 20000 in
theorem gX7_init_X6_init_n42 : GoodIn wsX7_init (wsX6_init) := ggX7_init_X6_init
theorem dX7_init_0 : decode cX7_init 0 = .ok (.aload_n 0, 1) := by decide +kernel
theorem dX7_init_1 : decode cX7_init 1 = .ok (.invokespecial 1, 3) := by decide +kernel
theorem dX7_init_4 : decode cX7_init 4 = .ok (.aload_n 0, 1) := by decide +kernel
theorem dX7_init_5 : decode cX7_init 5 = .ok (.new 7, 3) := by decide +kernel
theorem dX7_init_8 : decode cX7_init 8 = .ok (.dup, 1) := by decide +kernel
theorem dX7_init_9 : decode cX7_init 9 = .ok (.invokespecial 9, 3) := by decide +kernel
theorem dX7_init_12 : decode cX7_init 12 = .ok (.putfield 10, 3) := by decide +kernel
theorem dX7_init_15 : decode cX7_init 15 = .ok (.aload_n 0, 1) := by decide +kernel
theorem dX7_init_16 : decode cX7_init 16 = .ok (.new 7, 3) := by decide +kernel
theorem dX7_init_19 : decode cX7_init 19 = .ok (.dup, 1) := by decide +kernel
theorem dX7_init_20 : decode cX7_init 20 = .ok (.invokespecial 9, 3) := by decide +kernel
theorem dX7_init_23 : decode cX7_init 23 = .ok (.putfield 16, 3) := by decide +kernel
theorem dX7_init_26 : decode cX7_init 26 = .ok (.aload_n 0, 1) := by decide +kernel
theorem dX7_init_27 : decode cX7_init 27 = .ok (.new 19, 3) := by decide +kernel
theorem dX7_init_30 : decode cX7_init 30 = .ok (.dup, 1) := by decide +kernel
theorem dX7_init_31 : decode cX7_init 31 = .ok (.invokespecial 21, 3) := by decide +kernel
theorem dX7_init_34 : decode cX7_init 34 = .ok (.putfield 22, 3) := by decide +kernel
theorem dX7_init_37 : decode cX7_init 37 = .ok (.aload_n 0, 1) := by decide +kernel
theorem dX7_init_38 : decode cX7_init 38 = .ok (.new 26, 3) := by decide +kernel
theorem dX7_init_41 : decode cX7_init 41 = .ok (.dup, 1) := by decide +kernel
theorem dX7_init_42 : decode cX7_init 42 = .ok (.invokespecial 28, 3) := by decide +kernel
theorem dX7_init_45 : decode cX7_init 45 = .ok (.putfield 29, 3) := by decide +kernel
theorem dX7_init_48 : decode cX7_init 48 = .ok (.aload_n 0, 1) := by decide +kernel
theorem dX7_init_49 : decode cX7_init 49 = .ok (.new 33, 3) := by decide +kernel
theorem dX7_init_52 : decode cX7_init 52 = .ok (.dup, 1) := by decide +kernel
theorem dX7_init_53 : decode cX7_init 53 = .ok (.invokespecial 35, 3) := by decide +kernel
theorem dX7_init_56 : decode cX7_init 56 = .ok (.putfield 36, 3) := by decide +kernel
theorem dX7_init_59 : decode cX7_init 59 = .ok (.aload_n 0, 1) := by decide +kernel
theorem dX7_init_60 : decode cX7_init 60 = .ok (.new 40, 3) := by decide +kernel
theorem dX7_init_63 : decode cX7_init 63 = .ok (.dup, 1) := by decide +kernel
theorem dX7_init_64 : decode cX7_init 64 = .ok (.invokespecial 42, 3) := by decide +kernel
theorem dX7_init_67 : decode cX7_init 67 = .ok (.putfield 43, 3) := by decide +kernel
theorem dX7_init_70 : decode cX7_init 70 = .ok (.aload_n 0, 1) := by decide +kernel
theorem dX7_init_71 : decode cX7_init 71 = .ok (.iconst 3, 1) := by decide +kernel
theorem dX7_init_72 : decode cX7_init 72 = .ok (.newarray .int, 2) := by decide +kernel
theorem dX7_init_74 : decode cX7_init 74 = .ok (.putfield 47, 3) := by decide +kernel
theorem dX7_init_77 : decode cX7_init 77 = .ok (.return_, 1) := by decide +kernel
set_option maxRecDepth 20000 in
theorem ggX7_unknown_X3_refusalOfUnknown : GoodIn wsX7_unknown wsX3_refusalOfUnknown := goodIn_r _ [6, 7, 8, 9, 10, 11, 12, 13, 14, 15, 16, 17, 18, 76, 77, 78, 79, 80, 81, 82, 83] (by decide +kernel) (by decide +kernel)
set_option maxRecDepth 20000 in
theorem gX7_unknown_X3_refusalOfUnknown : GoodIn wsX7_unknown (wsV RX7 51 RX3 yX3_refusalOfUnknown wsX3_refusalOfUnknown) := goodIn_app (goodIn_of _ (by decide +kernel)) ggX7_unknown_X3_refusalOfUnknown
set_option maxRecDepth 20000 in
theorem ggX7_unknown_X7_refused : GoodIn wsX7_unknown wsX7_refused := goodIn_r _ [23, 24, 25, 69, 70, 71, 72, 73, 74, 75] (by decide +kernel) (by decide +kernel)
set_option maxRecDepth 20000 in
theorem gX7_unknown_X7_refused : GoodIn wsX7_unknown (wsV RX7 55 RX7 yX7_refused wsX7_refused) := goodIn_app (goodIn_of _ (by decide +kernel)) ggX7_unknown_X7_refused
set_option maxRecDepth 20000 in
theorem ggX7_unknown_X7_keepState : GoodIn wsX7_unknown wsX7_keepState := goodIn_r _ [29, 30, 1, 31, 32, 33, 34, 35, 36, 37, 38, 39, 40, 41, 42, 43, 44, 45, 46, 5, 47, 8, 48, 49, 50, 51, 52, 53, 54, 55, 56, 57, 58, 59, 60, 61, 62, 63, 64, 69, 70, 71, 72, 73, 74, 75, 84, 85, 86, 76, 77, 78, 79, 80, 81, 82, 83, 87, 88, 89, 90, 91, 92, 93, 94] (by decide +kernel) (by decide +kernel)
set_option maxRecDepth 20000 in
theorem gX7_unknown_X7_keepState : GoodIn wsX7_unknown (wsV RX7 59 RX7 yX7_keepState wsX7_keepState) := goodIn_app (goodIn_of _ (by decide +kernel)) ggX7_unknown_X7_keepState
set_option maxRecDepth 20000 in
theorem ggX7_unknown_X3_addUnknown : GoodIn wsX7_unknown wsX3_addUnknown := goodIn_r _ [68, 49, 8, 54, 76, 77, 78, 79, 80, 81, 82, 83] (by decide +kernel) (by decide +kernel)
set_option maxRecDepth 20000 in
theorem gX7_unknown_X3_addUnknown : GoodIn wsX7_unknown (wsV RX7 62 RX3 yX3_addUnknown wsX3_addUnknown) := goodIn_app (goodIn_of _ (by decide +kernel)) ggX7_unknown_X3_addUnknown
theorem dX7_unknown_0 : decode cX7_unknown 0 = .ok (.aload_n 0, 1) := by decide +kernel
theorem dX7_unknown_1 : decode cX7_unknown 1 = .ok (.getfield 10, 3) := by decide +kernel
theorem dX7_unknown_4 : decode cX7_unknown 4 = .ok (.iload_n 1, 1) := by decide +kernel
theorem dX7_unknown_5 : decode cX7_unknown 5 = .ok (.iload_n 2, 1) := by decide +kernel
theorem dX7_unknown_6 : decode cX7_unknown 6 = .ok (.invokevirtual 51, 3) := by decide +kernel
theorem dX7_unknown_9 : decode cX7_unknown 9 = .ok (.istore_n 3, 1) := by decide +kernel
theorem dX7_unknown_10 : decode cX7_unknown 10 = .ok (.iload_n 3, 1) := by decide +kernel
theorem dX7_unknown_11 : decode cX7_unknown 11 = .ok (.ifCond .eq 9, 3) := by decide +kernel
theorem dX7_unknown_14 : decode cX7_unknown 14 = .ok (.aload_n 0, 1) := by decide +kernel
theorem dX7_unknown_15 : decode cX7_unknown 15 = .ok (.iload_n 3, 1) := by decide +kernel
theorem dX7_unknown_16 : decode cX7_unknown 16 = .ok (.invokevirtual 55, 3) := by decide +kernel
theorem dX7_unknown_19 : decode cX7_unknown 19 = .ok (.ireturn, 1) := by decide +kernel
theorem dX7_unknown_20 : decode cX7_unknown 20 = .ok (.aload_n 0, 1) := by decide +kernel
theorem dX7_unknown_21 : decode cX7_unknown 21 = .ok (.invokevirtual 59, 3) := by decide +kernel
theorem dX7_unknown_24 : decode cX7_unknown 24 = .ok (.aload_n 0, 1) := by decide +kernel
theorem dX7_unknown_25 : decode cX7_unknown 25 = .ok (.getfield 10, 3) := by decide +kernel
theorem dX7_unknown_28 : decode cX7_unknown 28 = .ok (.iload_n 1, 1) := by decide +kernel
theorem dX7_unknown_29 : decode cX7_unknown 29 = .ok (.iload_n 2, 1) := by decide +kernel
theorem dX7_unknown_30 : decode cX7_unknown 30 = .ok (.invokevirtual 62, 3) := by decide +kernel
theorem dX7_unknown_33 : decode cX7_unknown 33 = .ok (.ireturn, 1) := by decide +kernel
set_option maxRecDepth 20000 in
theorem ggX7_range_X3_hasUnknown : GoodIn wsX7_range wsX3_hasUnknown := goodIn_r _ [9, 10, 76, 77, 78, 79, 80, 81, 82, 83] (by decide +kernel) (by decide +kernel)
set_option maxRecDepth 20000 in
theorem gX7_range_X3_hasUnknown : GoodIn wsX7_range (wsV RX7 65 RX3 yX3_hasUnknown wsX3_hasUnknown) := goodIn_app (goodIn_of _ (by decide +kernel)) ggX7_range_X3_hasUnknown
set_option maxRecDepth 20000 in
theorem ggX7_range_X4_isRange : GoodIn wsX7_range wsX4_isRange := goodIn_r _ [14, 15, 16, 13, 17, 18, 19] (by decide +kernel) (by decide +kernel)
set_option maxRecDepth 20000 in
theorem gX7_range_X4_isRange : GoodIn wsX7_range (va_wsS RX7 69 yX4_isRange wsX4_isRange) := goodIn_app (goodIn_of _ (by decide +kernel)) ggX7_range_X4_isRange
set_option maxRecDepth 20000 in
theorem ggX7_range_X7_refused : GoodIn wsX7_range wsX7_refused := goodIn_r _ [24, 25, 2, 69, 70, 71, 72, 73, 74, 75] (by decide +kernel) (by decide +kernel)
set_option maxRecDepth 20000 in
theorem gX7_range_X7_refused : GoodIn wsX7_range (wsV RX7 55 RX7 yX7_refused wsX7_refused) := goodIn_app (goodIn_of _ (by decide +kernel)) ggX7_range_X7_refused
set_option maxRecDepth 20000 in
theorem ggX7_range_X7_keepState : GoodIn wsX7_range wsX7_keepState := goodIn_r _ [29, 30, 1, 31, 32, 33, 34, 35, 36, 37, 38, 39, 40, 41, 42, 43, 44, 45, 46, 8, 47, 10, 48, 49, 50, 51, 52, 53, 54, 55, 56, 57, 58, 59, 60, 61, 62, 63, 64, 69, 70, 71, 72, 73, 74, 75, 84, 85, 86, 76, 77, 78, 79, 80, 81, 82, 83, 87, 88, 89, 90, 91, 92, 93, 94] (by decide +kernel) (by decide +kernel)
set_option maxRecDepth 20000 in
theorem gX7_range_X7_keepState : GoodIn wsX7_range (wsV RX7 59 RX7 yX7_keepState wsX7_keepState) := goodIn_app (goodIn_of _ (by decide +kernel)) ggX7_range_X7_keepState
set_option maxRecDepth 20000 in
theorem ggX7_range_X3_rulesOf : GoodIn wsX7_range wsX3_rulesOf := goodIn_r _ [68, 48, 56, 57, 55, 58, 76, 77, 78, 79, 80, 81, 82, 83] (by decide +kernel) (by decide +kernel)
set_option maxRecDepth 20000 in
theorem gX7_range_X3_rulesOf : GoodIn wsX7_range (wsV RX7 82 RX3 yX3_rulesOf wsX3_rulesOf) := goodIn_app (goodIn_of _ (by decide +kernel)) ggX7_range_X3_rulesOf
theorem dX7_range_0 : decode cX7_range 0 = .ok (.aload_n 0, 1) := by decide +kernel
theorem dX7_range_1 : decode cX7_range 1 = .ok (.getfield 10, 3) := by decide +kernel
theorem dX7_range_4 : decode cX7_range 4 = .ok (.iload_n 1, 1) := by decide +kernel
theorem dX7_range_5 : decode cX7_range 5 = .ok (.invokevirtual 65, 3) := by decide +kernel
theorem dX7_range_8 : decode cX7_range 8 = .ok (.ifCond .eq 11, 3) := by decide +kernel
theorem dX7_range_11 : decode cX7_range 11 = .ok (.iload_n 2, 1) := by decide +kernel
theorem dX7_range_12 : decode cX7_range 12 = .ok (.iload_n 3, 1) := by decide +kernel
theorem dX7_range_13 : decode cX7_range 13 = .ok (.invokestatic 69, 3) := by decide +kernel
theorem dX7_range_16 : decode cX7_range 16 = .ok (.ifCond .ne 10, 3) := by decide +kernel
theorem dX7_range_19 : decode cX7_range 19 = .ok (.aload_n 0, 1) := by decide +kernel
theorem dX7_range_20 : decode cX7_range 20 = .ok (.ldc 75, 2) := by decide +kernel
theorem dX7_range_22 : decode cX7_range 22 = .ok (.invokevirtual 55, 3) := by decide +kernel
theorem dX7_range_25 : decode cX7_range 25 = .ok (.ireturn, 1) := by decide +kernel
theorem dX7_range_26 : decode cX7_range 26 = .ok (.aload_n 0, 1) := by decide +kernel
theorem dX7_range_27 : decode cX7_range 27 = .ok (.invokevirtual 59, 3) := by decide +kernel
theorem dX7_range_30 : decode cX7_range 30 = .ok (.aload_n 0, 1) := by decide +kernel
theorem dX7_range_31 : decode cX7_range 31 = .ok (.getfield 10, 3) := by decide +kernel
theorem dX7_range_34 : decode cX7_range 34 = .ok (.getfield 76, 3) := by decide +kernel
theorem dX7_range_37 : decode cX7_range 37 = .ok (.iload_n 1, 1) := by decide +kernel
theorem dX7_range_38 : decode cX7_range 38 = .ok (.iload_n 2, 1) := by decide +kernel
theorem dX7_range_39 : decode cX7_range 39 = .ok (.iastore, 1) := by decide +kernel
theorem dX7_range_40 : decode cX7_range 40 = .ok (.aload_n 0, 1) := by decide +kernel
theorem dX7_range_41 : decode cX7_range 41 = .ok (.getfield 10, 3) := by decide +kernel
theorem dX7_range_44 : decode cX7_range 44 = .ok (.getfield 79, 3) := by decide +kernel
theorem dX7_range_47 : decode cX7_range 47 = .ok (.iload_n 1, 1) := by decide +kernel
theorem dX7_range_48 : decode cX7_range 48 = .ok (.iload_n 3, 1) := by decide +kernel
theorem dX7_range_49 : decode cX7_range 49 = .ok (.iastore, 1) := by decide +kernel
theorem dX7_range_50 : decode cX7_range 50 = .ok (.aload_n 0, 1) := by decide +kernel
theorem dX7_range_51 : decode cX7_range 51 = .ok (.getfield 10, 3) := by decide +kernel
theorem dX7_range_54 : decode cX7_range 54 = .ok (.iload_n 1, 1) := by decide +kernel
theorem dX7_range_55 : decode cX7_range 55 = .ok (.invokevirtual 82, 3) := by decide +kernel
theorem dX7_range_58 : decode cX7_range 58 = .ok (.ireturn, 1) := by decide +kernel
set_option maxRecDepth 20000 in
theorem ggX7_rule_X3_refusalOfRule : GoodIn wsX7_rule wsX3_refusalOfRule := goodIn_r _ [6, 7, 8, 9, 10, 11, 12, 5, 13, 14, 71, 72, 73, 74, 75, 76, 77, 78] (by decide +kernel) (by decide +kernel)
set_option maxRecDepth 20000 in
theorem gX7_rule_X3_refusalOfRule : GoodIn wsX7_rule (wsV RX7 85 RX3 yX3_refusalOfRule wsX3_refusalOfRule) := goodIn_app (goodIn_of _ (by decide +kernel)) ggX7_rule_X3_refusalOfRule
set_option maxRecDepth 20000 in
theorem ggX7_rule_X7_refused : GoodIn wsX7_rule wsX7_refused := goodIn_r _ [19, 20, 21, 64, 65, 66, 67, 68, 69, 70] (by decide +kernel) (by decide +kernel)
set_option maxRecDepth 20000 in
theorem gX7_rule_X7_refused : GoodIn wsX7_rule (wsV RX7 55 RX7 yX7_refused wsX7_refused) := goodIn_app (goodIn_of _ (by decide +kernel)) ggX7_rule_X7_refused
set_option maxRecDepth 20000 in
theorem ggX7_rule_X7_keepState : GoodIn wsX7_rule wsX7_keepState := goodIn_r _ [25, 26, 1, 27, 28, 29, 30, 31, 32, 33, 34, 35, 36, 37, 38, 39, 40, 41, 42, 5, 43, 14, 8, 44, 45, 46, 47, 48, 49, 50, 51, 52, 53, 54, 55, 56, 57, 58, 59, 64, 65, 66, 67, 68, 69, 70, 79, 80, 81, 71, 72, 73, 74, 75, 76, 77, 78, 82, 83, 84, 85, 86, 87, 88, 89] (by decide +kernel) (by decide +kernel)
set_option maxRecDepth 20000 in
theorem gX7_rule_X7_keepState : GoodIn wsX7_rule (wsV RX7 59 RX7 yX7_keepState wsX7_keepState) := goodIn_app (goodIn_of _ (by decide +kernel)) ggX7_rule_X7_keepState
set_option maxRecDepth 20000 in
theorem ggX7_rule_X3_addRule : GoodIn wsX7_rule wsX3_addRule := goodIn_r _ [63, 50, 8, 51, 52, 53, 71, 72, 73, 74, 75, 76, 77, 78] (by decide +kernel) (by decide +kernel)
set_option maxRecDepth 20000 in
theorem gX7_rule_X3_addRule : GoodIn wsX7_rule (wsV RX7 89 RX3 yX3_addRule wsX3_addRule) := goodIn_app (goodIn_of _ (by decide +kernel)) ggX7_rule_X3_addRule
theorem dX7_rule_0 : decode cX7_rule 0 = .ok (.aload_n 0, 1) := by decide +kernel
theorem dX7_rule_1 : decode cX7_rule 1 = .ok (.getfield 10, 3) := by decide +kernel
theorem dX7_rule_4 : decode cX7_rule 4 = .ok (.iload_n 1, 1) := by decide +kernel
theorem dX7_rule_5 : decode cX7_rule 5 = .ok (.iload_n 2, 1) := by decide +kernel
theorem dX7_rule_6 : decode cX7_rule 6 = .ok (.iload_n 3, 1) := by decide +kernel
theorem dX7_rule_7 : decode cX7_rule 7 = .ok (.iload 4, 2) := by decide +kernel
theorem dX7_rule_9 : decode cX7_rule 9 = .ok (.invokevirtual 85, 3) := by decide +kernel
theorem dX7_rule_12 : decode cX7_rule 12 = .ok (.istore 5, 2) := by decide +kernel
theorem dX7_rule_14 : decode cX7_rule 14 = .ok (.iload 5, 2) := by decide +kernel
theorem dX7_rule_16 : decode cX7_rule 16 = .ok (.ifCond .eq 10, 3) := by decide +kernel
theorem dX7_rule_19 : decode cX7_rule 19 = .ok (.aload_n 0, 1) := by decide +kernel
theorem dX7_rule_20 : decode cX7_rule 20 = .ok (.iload 5, 2) := by decide +kernel
theorem dX7_rule_22 : decode cX7_rule 22 = .ok (.invokevirtual 55, 3) := by decide +kernel
theorem dX7_rule_25 : decode cX7_rule 25 = .ok (.ireturn, 1) := by decide +kernel
theorem dX7_rule_26 : decode cX7_rule 26 = .ok (.aload_n 0, 1) := by decide +kernel
theorem dX7_rule_27 : decode cX7_rule 27 = .ok (.invokevirtual 59, 3) := by decide +kernel
theorem dX7_rule_30 : decode cX7_rule 30 = .ok (.aload_n 0, 1) := by decide +kernel
theorem dX7_rule_31 : decode cX7_rule 31 = .ok (.getfield 10, 3) := by decide +kernel
theorem dX7_rule_34 : decode cX7_rule 34 = .ok (.iload_n 1, 1) := by decide +kernel
theorem dX7_rule_35 : decode cX7_rule 35 = .ok (.iload_n 2, 1) := by decide +kernel
theorem dX7_rule_36 : decode cX7_rule 36 = .ok (.iload_n 3, 1) := by decide +kernel
theorem dX7_rule_37 : decode cX7_rule 37 = .ok (.iload 4, 2) := by decide +kernel
theorem dX7_rule_39 : decode cX7_rule 39 = .ok (.invokevirtual 89, 3) := by decide +kernel
theorem dX7_rule_42 : decode cX7_rule 42 = .ok (.ireturn, 1) := by decide +kernel
set_option maxRecDepth 20000 in
theorem ggX7_drops_X3_hasRule : GoodIn wsX7_drops wsX3_hasRule := goodIn_r _ [7, 8, 65, 66, 67, 68, 69, 70, 71, 72] (by decide +kernel) (by decide +kernel)
set_option maxRecDepth 20000 in
theorem gX7_drops_X3_hasRule : GoodIn wsX7_drops (wsV RX7 92 RX3 yX3_hasRule wsX3_hasRule) := goodIn_app (goodIn_of _ (by decide +kernel)) ggX7_drops_X3_hasRule
set_option maxRecDepth 20000 in
theorem ggX7_drops_X7_refused : GoodIn wsX7_drops wsX7_refused := goodIn_r _ [13, 14, 2, 58, 59, 60, 61, 62, 63, 64] (by decide +kernel) (by decide +kernel)
set_option maxRecDepth 20000 in
theorem gX7_drops_X7_refused : GoodIn wsX7_drops (wsV RX7 55 RX7 yX7_refused wsX7_refused) := goodIn_app (goodIn_of _ (by decide +kernel)) ggX7_drops_X7_refused
set_option maxRecDepth 20000 in
theorem ggX7_drops_X7_keepState : GoodIn wsX7_drops wsX7_keepState := goodIn_r _ [18, 19, 1, 20, 21, 22, 23, 24, 25, 26, 27, 28, 29, 30, 31, 32, 33, 34, 35, 6, 36, 37, 8, 38, 39, 40, 41, 42, 43, 44, 45, 46, 47, 48, 49, 50, 51, 52, 53, 58, 59, 60, 61, 62, 63, 64, 73, 74, 75, 65, 66, 67, 68, 69, 70, 71, 72, 76, 77, 78, 79, 80, 81, 82, 83] (by decide +kernel) (by decide +kernel)
set_option maxRecDepth 20000 in
theorem gX7_drops_X7_keepState : GoodIn wsX7_drops (wsV RX7 59 RX7 yX7_keepState wsX7_keepState) := goodIn_app (goodIn_of _ (by decide +kernel)) ggX7_drops_X7_keepState
set_option maxRecDepth 20000 in
theorem ggX7_drops_X3_dropRule : GoodIn wsX7_drops wsX3_dropRule := goodIn_r _ [57, 8, 44, 45, 46, 47, 65, 66, 67, 68, 69, 70, 71, 72] (by decide +kernel) (by decide +kernel)
set_option maxRecDepth 20000 in
theorem gX7_drops_X3_dropRule : GoodIn wsX7_drops (wsV RX7 95 RX3 yX3_dropRule wsX3_dropRule) := goodIn_app (goodIn_of _ (by decide +kernel)) ggX7_drops_X3_dropRule
theorem dX7_drops_0 : decode cX7_drops 0 = .ok (.aload_n 0, 1) := by decide +kernel
theorem dX7_drops_1 : decode cX7_drops 1 = .ok (.getfield 10, 3) := by decide +kernel
theorem dX7_drops_4 : decode cX7_drops 4 = .ok (.iload_n 1, 1) := by decide +kernel
theorem dX7_drops_5 : decode cX7_drops 5 = .ok (.invokevirtual 92, 3) := by decide +kernel
theorem dX7_drops_8 : decode cX7_drops 8 = .ok (.ifCond .ne 10, 3) := by decide +kernel
theorem dX7_drops_11 : decode cX7_drops 11 = .ok (.aload_n 0, 1) := by decide +kernel
theorem dX7_drops_12 : decode cX7_drops 12 = .ok (.ldc 75, 2) := by decide +kernel
theorem dX7_drops_14 : decode cX7_drops 14 = .ok (.invokevirtual 55, 3) := by decide +kernel
theorem dX7_drops_17 : decode cX7_drops 17 = .ok (.ireturn, 1) := by decide +kernel
theorem dX7_drops_18 : decode cX7_drops 18 = .ok (.aload_n 0, 1) := by decide +kernel
theorem dX7_drops_19 : decode cX7_drops 19 = .ok (.invokevirtual 59, 3) := by decide +kernel
theorem dX7_drops_22 : decode cX7_drops 22 = .ok (.aload_n 0, 1) := by decide +kernel
theorem dX7_drops_23 : decode cX7_drops 23 = .ok (.getfield 10, 3) := by decide +kernel
theorem dX7_drops_26 : decode cX7_drops 26 = .ok (.iload_n 1, 1) := by decide +kernel
theorem dX7_drops_27 : decode cX7_drops 27 = .ok (.invokevirtual 95, 3) := by decide +kernel
theorem dX7_drops_30 : decode cX7_drops 30 = .ok (.ireturn, 1) := by decide +kernel
set_option maxRecDepth 20000 in
theorem ggX7_cuts_X7_keepState : GoodIn wsX7_cuts wsX7_keepState := goodIn_r _ [6, 7, 1, 8, 9, 10, 11, 12, 13, 14, 15, 16, 17, 18, 19, 20, 21, 22, 23, 24, 25, 26, 27, 28, 29, 30, 31, 32, 33, 34, 35, 36, 37, 38, 39, 40, 41, 42, 43, 164, 165, 166, 167, 168, 169, 170, 171, 172, 173, 174, 175, 176, 177, 178, 179, 180, 181, 182, 183, 184, 185, 186, 187, 188, 189] (by decide +kernel) (by decide +kernel)
set_option maxRecDepth 20000 in
theorem gX7_cuts_X7_keepState : GoodIn wsX7_cuts (wsV RX7 59 RX7 yX7_keepState wsX7_keepState) := goodIn_app (goodIn_of _ (by decide +kernel)) ggX7_cuts_X7_keepState
set_option maxRecDepth 20000 in
theorem ggX7_cuts_X7_cutRanges : GoodIn wsX7_cuts wsX7_cutRanges := goodIn_r _ [47, 48, 49, 50, 51, 52, 53, 54, 55, 56, 57, 58, 59, 30, 31, 32, 60, 61, 62, 63, 64, 65, 66, 67, 68, 69, 70, 71, 72, 73, 74, 75, 76, 77, 78, 79, 80, 81, 82, 83, 84, 85, 86, 87, 88, 19, 89, 90, 91, 92, 93, 94, 95, 96, 97, 98, 99, 100, 101, 102, 103, 104, 105, 106, 107, 108, 109, 110, 111, 112, 18, 20, 113, 114, 115, 116, 117, 118, 119, 120, 121, 122, 123, 124, 125, 126, 127, 128, 129, 130, 131, 132, 133, 134, 135, 136, 137, 138, 139, 140, 141, 142, 143, 144, 145, 146, 147, 148, 149, 150, 151, 152, 153, 154, 155, 156, 157, 158, 159, 160, 161, 162, 163, 164, 165, 166, 167, 168, 169, 170, 174, 175, 176, 177, 178, 179, 180, 181, 190, 191, 192, 193] (by decide +kernel) (by decide +kernel)
set_option maxRecDepth 20000 in
theorem gX7_cuts_X7_cutRanges : GoodIn wsX7_cuts (wsV RX7 98 RX7 yX7_cutRanges wsX7_cutRanges) := goodIn_app (goodIn_of _ (by decide +kernel)) ggX7_cuts_X7_cutRanges
theorem dX7_cuts_0 : decode cX7_cuts 0 = .ok (.aload_n 0, 1) := by decide +kernel
theorem dX7_cuts_1 : decode cX7_cuts 1 = .ok (.invokevirtual 59, 3) := by decide +kernel
theorem dX7_cuts_4 : decode cX7_cuts 4 = .ok (.aload_n 0, 1) := by decide +kernel
theorem dX7_cuts_5 : decode cX7_cuts 5 = .ok (.aload_n 0, 1) := by decide +kernel
theorem dX7_cuts_6 : decode cX7_cuts 6 = .ok (.getfield 10, 3) := by decide +kernel
theorem dX7_cuts_9 : decode cX7_cuts 9 = .ok (.invokevirtual 98, 3) := by decide +kernel
theorem dX7_cuts_12 : decode cX7_cuts 12 = .ok (.ireturn, 1) := by decide +kernel
set_option maxRecDepth 20000 in
theorem ggX7_of_X3_hasUnknown : GoodIn wsX7_of wsX3_hasUnknown := goodIn_r _ [9, 10, 24, 25, 26, 27, 28, 29, 30, 31] (by decide +kernel) (by decide +kernel)
set_option maxRecDepth 20000 in
theorem gX7_of_X3_hasUnknown : GoodIn wsX7_of (wsV RX7 65 RX3 yX3_hasUnknown wsX3_hasUnknown) := goodIn_app (goodIn_of _ (by decide +kernel)) ggX7_of_X3_hasUnknown
set_option maxRecDepth 20000 in
theorem ggX7_of_X7_refused : GoodIn wsX7_of wsX7_refused := goodIn_r _ [15, 16, 2, 17, 18, 19, 20, 21, 22, 23] (by decide +kernel) (by decide +kernel)
set_option maxRecDepth 20000 in
theorem gX7_of_X7_refused : GoodIn wsX7_of (wsV RX7 55 RX7 yX7_refused wsX7_refused) := goodIn_app (goodIn_of _ (by decide +kernel)) ggX7_of_X7_refused
theorem dX7_of_0 : decode cX7_of 0 = .ok (.aload_n 0, 1) := by decide +kernel
theorem dX7_of_1 : decode cX7_of 1 = .ok (.getfield 10, 3) := by decide +kernel
theorem dX7_of_4 : decode cX7_of 4 = .ok (.iload_n 1, 1) := by decide +kernel
theorem dX7_of_5 : decode cX7_of 5 = .ok (.invokevirtual 65, 3) := by decide +kernel
theorem dX7_of_8 : decode cX7_of 8 = .ok (.ifCond .eq 12, 3) := by decide +kernel
theorem dX7_of_11 : decode cX7_of 11 = .ok (.iload_n 2, 1) := by decide +kernel
theorem dX7_of_12 : decode cX7_of 12 = .ok (.ifCond .lt 8, 3) := by decide +kernel
theorem dX7_of_15 : decode cX7_of 15 = .ok (.iload_n 2, 1) := by decide +kernel
theorem dX7_of_16 : decode cX7_of 16 = .ok (.iconst 1, 1) := by decide +kernel
theorem dX7_of_17 : decode cX7_of 17 = .ok (.if_icmp .le 10, 3) := by decide +kernel
theorem dX7_of_20 : decode cX7_of 20 = .ok (.aload_n 0, 1) := by decide +kernel
theorem dX7_of_21 : decode cX7_of 21 = .ok (.ldc 75, 2) := by decide +kernel
theorem dX7_of_23 : decode cX7_of 23 = .ok (.invokevirtual 55, 3) := by decide +kernel
theorem dX7_of_26 : decode cX7_of 26 = .ok (.ireturn, 1) := by decide +kernel
theorem dX7_of_27 : decode cX7_of 27 = .ok (.iload_n 2, 1) := by decide +kernel
theorem dX7_of_28 : decode cX7_of 28 = .ok (.ifCond .ne 15, 3) := by decide +kernel
theorem dX7_of_31 : decode cX7_of 31 = .ok (.aload_n 0, 1) := by decide +kernel
theorem dX7_of_32 : decode cX7_of 32 = .ok (.getfield 10, 3) := by decide +kernel
theorem dX7_of_35 : decode cX7_of 35 = .ok (.getfield 76, 3) := by decide +kernel
theorem dX7_of_38 : decode cX7_of 38 = .ok (.iload_n 1, 1) := by decide +kernel
theorem dX7_of_39 : decode cX7_of 39 = .ok (.iaload, 1) := by decide +kernel
theorem dX7_of_40 : decode cX7_of 40 = .ok (.goto 12, 3) := by decide +kernel
theorem dX7_of_43 : decode cX7_of 43 = .ok (.aload_n 0, 1) := by decide +kernel
theorem dX7_of_44 : decode cX7_of 44 = .ok (.getfield 10, 3) := by decide +kernel
theorem dX7_of_47 : decode cX7_of 47 = .ok (.getfield 79, 3) := by decide +kernel
theorem dX7_of_50 : decode cX7_of 50 = .ok (.iload_n 1, 1) := by decide +kernel
theorem dX7_of_51 : decode cX7_of 51 = .ok (.iaload, 1) := by decide +kernel
theorem dX7_of_52 : decode cX7_of 52 = .ok (.ireturn, 1) := by decide +kernel
set_option maxRecDepth 20000 in
theorem ggX7_holding_X3_hasUnknown : GoodIn wsX7_holding wsX3_hasUnknown := goodIn_r _ [9, 10, 28, 29, 30, 31, 32, 33, 34, 35] (by decide +kernel) (by decide +kernel)
set_option maxRecDepth 20000 in
theorem gX7_holding_X3_hasUnknown : GoodIn wsX7_holding (wsV RX7 65 RX3 yX3_hasUnknown wsX3_hasUnknown) := goodIn_app (goodIn_of _ (by decide +kernel)) ggX7_holding_X3_hasUnknown
set_option maxRecDepth 20000 in
theorem ggX7_holding_X7_refused : GoodIn wsX7_holding wsX7_refused := goodIn_r _ [15, 16, 2, 21, 22, 23, 24, 25, 26, 27] (by decide +kernel) (by decide +kernel)
set_option maxRecDepth 20000 in
theorem gX7_holding_X7_refused : GoodIn wsX7_holding (wsV RX7 55 RX7 yX7_refused wsX7_refused) := goodIn_app (goodIn_of _ (by decide +kernel)) ggX7_holding_X7_refused
set_option maxRecDepth 20000 in
theorem ggX7_holding_X4_held : GoodIn wsX7_holding wsX4_held := goodIn_r _ [20] (by decide +kernel) (by decide +kernel)
set_option maxRecDepth 20000 in
theorem gX7_holding_X4_held : GoodIn wsX7_holding (va_wsS RX7 102 yX4_held wsX4_held) := goodIn_app (goodIn_of _ (by decide +kernel)) ggX7_holding_X4_held
theorem dX7_holding_0 : decode cX7_holding 0 = .ok (.aload_n 0, 1) := by decide +kernel
theorem dX7_holding_1 : decode cX7_holding 1 = .ok (.getfield 10, 3) := by decide +kernel
theorem dX7_holding_4 : decode cX7_holding 4 = .ok (.iload_n 1, 1) := by decide +kernel
theorem dX7_holding_5 : decode cX7_holding 5 = .ok (.invokevirtual 65, 3) := by decide +kernel
theorem dX7_holding_8 : decode cX7_holding 8 = .ok (.ifCond .ne 11, 3) := by decide +kernel
theorem dX7_holding_11 : decode cX7_holding 11 = .ok (.aload_n 0, 1) := by decide +kernel
theorem dX7_holding_12 : decode cX7_holding 12 = .ok (.ldc 75, 2) := by decide +kernel
theorem dX7_holding_14 : decode cX7_holding 14 = .ok (.invokevirtual 55, 3) := by decide +kernel
theorem dX7_holding_17 : decode cX7_holding 17 = .ok (.i2l, 1) := by decide +kernel
theorem dX7_holding_18 : decode cX7_holding 18 = .ok (.lreturn, 1) := by decide +kernel
theorem dX7_holding_19 : decode cX7_holding 19 = .ok (.aload_n 0, 1) := by decide +kernel
theorem dX7_holding_20 : decode cX7_holding 20 = .ok (.getfield 10, 3) := by decide +kernel
theorem dX7_holding_23 : decode cX7_holding 23 = .ok (.getfield 76, 3) := by decide +kernel
theorem dX7_holding_26 : decode cX7_holding 26 = .ok (.iload_n 1, 1) := by decide +kernel
theorem dX7_holding_27 : decode cX7_holding 27 = .ok (.iaload, 1) := by decide +kernel
theorem dX7_holding_28 : decode cX7_holding 28 = .ok (.aload_n 0, 1) := by decide +kernel
theorem dX7_holding_29 : decode cX7_holding 29 = .ok (.getfield 10, 3) := by decide +kernel
theorem dX7_holding_32 : decode cX7_holding 32 = .ok (.getfield 79, 3) := by decide +kernel
theorem dX7_holding_35 : decode cX7_holding 35 = .ok (.iload_n 1, 1) := by decide +kernel
theorem dX7_holding_36 : decode cX7_holding 36 = .ok (.iaload, 1) := by decide +kernel
theorem dX7_holding_37 : decode cX7_holding 37 = .ok (.invokestatic 102, 3) := by decide +kernel
theorem dX7_holding_40 : decode cX7_holding 40 = .ok (.lreturn, 1) := by decide +kernel
set_option maxRecDepth 20000 in
theorem ggX7_about_X3_hasRule : GoodIn wsX7_about wsX3_hasRule := goodIn_r _ [11, 12, 26, 27, 28, 29, 30, 31, 32, 33] (by decide +kernel) (by decide +kernel)
set_option maxRecDepth 20000 in
theorem gX7_about_X3_hasRule : GoodIn wsX7_about (wsV RX7 92 RX3 yX3_hasRule wsX3_hasRule) := goodIn_app (goodIn_of _ (by decide +kernel)) ggX7_about_X3_hasRule
set_option maxRecDepth 20000 in
theorem ggX7_about_X7_refused : GoodIn wsX7_about wsX7_refused := goodIn_r _ [17, 18, 2, 19, 20, 21, 22, 23, 24, 25] (by decide +kernel) (by decide +kernel)
set_option maxRecDepth 20000 in
theorem gX7_about_X7_refused : GoodIn wsX7_about (wsV RX7 55 RX7 yX7_refused wsX7_refused) := goodIn_app (goodIn_of _ (by decide +kernel)) ggX7_about_X7_refused
theorem dX7_about_0 : decode cX7_about 0 = .ok (.aload_n 0, 1) := by decide +kernel
theorem dX7_about_1 : decode cX7_about 1 = .ok (.getfield 10, 3) := by decide +kernel
theorem dX7_about_4 : decode cX7_about 4 = .ok (.iload_n 1, 1) := by decide +kernel
theorem dX7_about_5 : decode cX7_about 5 = .ok (.invokevirtual 92, 3) := by decide +kernel
theorem dX7_about_8 : decode cX7_about 8 = .ok (.ifCond .eq 12, 3) := by decide +kernel
theorem dX7_about_11 : decode cX7_about 11 = .ok (.iload_n 2, 1) := by decide +kernel
theorem dX7_about_12 : decode cX7_about 12 = .ok (.ifCond .lt 8, 3) := by decide +kernel
theorem dX7_about_15 : decode cX7_about 15 = .ok (.iload_n 2, 1) := by decide +kernel
theorem dX7_about_16 : decode cX7_about 16 = .ok (.iconst 3, 1) := by decide +kernel
theorem dX7_about_17 : decode cX7_about 17 = .ok (.if_icmp .le 10, 3) := by decide +kernel
theorem dX7_about_20 : decode cX7_about 20 = .ok (.aload_n 0, 1) := by decide +kernel
theorem dX7_about_21 : decode cX7_about 21 = .ok (.ldc 75, 2) := by decide +kernel
theorem dX7_about_23 : decode cX7_about 23 = .ok (.invokevirtual 55, 3) := by decide +kernel
theorem dX7_about_26 : decode cX7_about 26 = .ok (.ireturn, 1) := by decide +kernel
theorem dX7_about_27 : decode cX7_about 27 = .ok (.iload_n 2, 1) := by decide +kernel
theorem dX7_about_28 : decode cX7_about 28 = .ok (.tableswitch 58 0 2 #[28, 38, 48], 28) := by decide +kernel
theorem dX7_about_56 : decode cX7_about 56 = .ok (.aload_n 0, 1) := by decide +kernel
theorem dX7_about_57 : decode cX7_about 57 = .ok (.getfield 10, 3) := by decide +kernel
theorem dX7_about_60 : decode cX7_about 60 = .ok (.getfield 106, 3) := by decide +kernel
theorem dX7_about_63 : decode cX7_about 63 = .ok (.iload_n 1, 1) := by decide +kernel
theorem dX7_about_64 : decode cX7_about 64 = .ok (.iaload, 1) := by decide +kernel
theorem dX7_about_65 : decode cX7_about 65 = .ok (.ireturn, 1) := by decide +kernel
theorem dX7_about_66 : decode cX7_about 66 = .ok (.aload_n 0, 1) := by decide +kernel
theorem dX7_about_67 : decode cX7_about 67 = .ok (.getfield 10, 3) := by decide +kernel
theorem dX7_about_70 : decode cX7_about 70 = .ok (.getfield 109, 3) := by decide +kernel
theorem dX7_about_73 : decode cX7_about 73 = .ok (.iload_n 1, 1) := by decide +kernel
theorem dX7_about_74 : decode cX7_about 74 = .ok (.iaload, 1) := by decide +kernel
theorem dX7_about_75 : decode cX7_about 75 = .ok (.ireturn, 1) := by decide +kernel
theorem dX7_about_76 : decode cX7_about 76 = .ok (.aload_n 0, 1) := by decide +kernel
theorem dX7_about_77 : decode cX7_about 77 = .ok (.getfield 10, 3) := by decide +kernel
theorem dX7_about_80 : decode cX7_about 80 = .ok (.getfield 112, 3) := by decide +kernel
theorem dX7_about_83 : decode cX7_about 83 = .ok (.iload_n 1, 1) := by decide +kernel
theorem dX7_about_84 : decode cX7_about 84 = .ok (.iaload, 1) := by decide +kernel
theorem dX7_about_85 : decode cX7_about 85 = .ok (.ireturn, 1) := by decide +kernel
theorem dX7_about_86 : decode cX7_about 86 = .ok (.aload_n 0, 1) := by decide +kernel
theorem dX7_about_87 : decode cX7_about 87 = .ok (.getfield 10, 3) := by decide +kernel
theorem dX7_about_90 : decode cX7_about 90 = .ok (.getfield 115, 3) := by decide +kernel
theorem dX7_about_93 : decode cX7_about 93 = .ok (.iload_n 1, 1) := by decide +kernel
theorem dX7_about_94 : decode cX7_about 94 = .ok (.iaload, 1) := by decide +kernel
theorem dX7_about_95 : decode cX7_about 95 = .ok (.ireturn, 1) := by decide +kernel
set_option maxRecDepth 20000 in
theorem ggX7_would_X3_hasRule : GoodIn wsX7_would wsX3_hasRule := goodIn_r _ [13, 14, 146, 147, 148, 149, 150, 151, 152, 153] (by decide +kernel) (by decide +kernel)
set_option maxRecDepth 20000 in
theorem gX7_would_X3_hasRule : GoodIn wsX7_would (wsV RX7 92 RX3 yX3_hasRule wsX3_hasRule) := goodIn_app (goodIn_of _ (by decide +kernel)) ggX7_would_X3_hasRule
set_option maxRecDepth 20000 in
theorem ggX7_would_X3_hasUnknown : GoodIn wsX7_would wsX3_hasUnknown := goodIn_r _ [18, 19, 146, 147, 148, 149, 150, 151, 152, 153] (by decide +kernel) (by decide +kernel)
set_option maxRecDepth 20000 in
theorem gX7_would_X3_hasUnknown : GoodIn wsX7_would (wsV RX7 65 RX3 yX3_hasUnknown wsX3_hasUnknown) := goodIn_app (goodIn_of _ (by decide +kernel)) ggX7_would_X3_hasUnknown
set_option maxRecDepth 20000 in
theorem ggX7_would_X7_refused : GoodIn wsX7_would wsX7_refused := goodIn_r _ [24, 25, 2, 139, 140, 141, 142, 143, 144, 145] (by decide +kernel) (by decide +kernel)
set_option maxRecDepth 20000 in
theorem gX7_would_X7_refused : GoodIn wsX7_would (wsV RX7 55 RX7 yX7_refused wsX7_refused) := goodIn_app (goodIn_of _ (by decide +kernel)) ggX7_would_X7_refused
set_option maxRecDepth 20000 in
theorem ggX7_would_X0_load : GoodIn wsX7_would wsX0_load := goodIn_r _ [30, 31, 32, 33, 34, 35, 36, 154, 155, 156, 157] (by decide +kernel) (by decide +kernel)
set_option maxRecDepth 20000 in
theorem gX7_would_X0_load : GoodIn wsX7_would (wsV RX7 118 RX0 yX0_load wsX0_load) := goodIn_app (goodIn_of _ (by decide +kernel)) ggX7_would_X0_load
set_option maxRecDepth 20000 in
theorem ggX7_would_X0_cutByRules : GoodIn wsX7_would wsX0_cutByRules := goodIn_r _ [40, 41, 42, 43, 44, 45, 46, 47, 48, 49, 50, 29, 51, 31, 36, 52, 53, 54, 55, 56, 57, 58, 59, 60, 61, 62, 63, 64, 65, 66, 67, 68, 69, 70, 71, 72, 73, 74, 75, 76, 77, 78, 79, 80, 81, 82, 83, 84, 85, 86, 87, 88, 89, 90, 91, 92, 93, 94, 95, 96, 97, 98, 99, 100, 101, 102, 103, 104, 105, 106, 107, 108, 109, 110, 111, 112, 113, 114, 115, 116, 117, 118, 119, 120, 121, 122, 123, 124, 125, 126, 127, 128, 129, 130, 131, 132, 133, 134, 135, 136, 137, 138, 154, 155, 156, 157, 146, 147, 148, 149, 150, 151, 152, 153] (by decide +kernel) (by decide +kernel)
set_option maxRecDepth 20000 in
theorem gX7_would_X0_cutByRules : GoodIn wsX7_would (wsV RX7 122 RX0 yX0_cutByRules wsX0_cutByRules) := goodIn_app (goodIn_of _ (by decide +kernel)) ggX7_would_X0_cutByRules
theorem dX7_would_0 : decode cX7_would 0 = .ok (.aload_n 0, 1) := by decide +kernel
theorem dX7_would_1 : decode cX7_would 1 = .ok (.getfield 10, 3) := by decide +kernel
theorem dX7_would_4 : decode cX7_would 4 = .ok (.iload_n 1, 1) := by decide +kernel
theorem dX7_would_5 : decode cX7_would 5 = .ok (.invokevirtual 92, 3) := by decide +kernel
theorem dX7_would_8 : decode cX7_would 8 = .ok (.ifCond .eq 23, 3) := by decide +kernel
theorem dX7_would_11 : decode cX7_would 11 = .ok (.aload_n 0, 1) := by decide +kernel
theorem dX7_would_12 : decode cX7_would 12 = .ok (.getfield 10, 3) := by decide +kernel
theorem dX7_would_15 : decode cX7_would 15 = .ok (.iload_n 2, 1) := by decide +kernel
theorem dX7_would_16 : decode cX7_would 16 = .ok (.invokevirtual 65, 3) := by decide +kernel
theorem dX7_would_19 : decode cX7_would 19 = .ok (.ifCond .eq 12, 3) := by decide +kernel
theorem dX7_would_22 : decode cX7_would 22 = .ok (.iload_n 3, 1) := by decide +kernel
theorem dX7_would_23 : decode cX7_would 23 = .ok (.ifCond .lt 8, 3) := by decide +kernel
theorem dX7_would_26 : decode cX7_would 26 = .ok (.iload_n 3, 1) := by decide +kernel
theorem dX7_would_27 : decode cX7_would 27 = .ok (.iconst 1, 1) := by decide +kernel
theorem dX7_would_28 : decode cX7_would 28 = .ok (.if_icmp .le 10, 3) := by decide +kernel
theorem dX7_would_31 : decode cX7_would 31 = .ok (.aload_n 0, 1) := by decide +kernel
theorem dX7_would_32 : decode cX7_would 32 = .ok (.ldc 75, 2) := by decide +kernel
theorem dX7_would_34 : decode cX7_would 34 = .ok (.invokevirtual 55, 3) := by decide +kernel
theorem dX7_would_37 : decode cX7_would 37 = .ok (.ireturn, 1) := by decide +kernel
theorem dX7_would_38 : decode cX7_would 38 = .ok (.aload_n 0, 1) := by decide +kernel
theorem dX7_would_39 : decode cX7_would 39 = .ok (.getfield 29, 3) := by decide +kernel
theorem dX7_would_42 : decode cX7_would 42 = .ok (.aload_n 0, 1) := by decide +kernel
theorem dX7_would_43 : decode cX7_would 43 = .ok (.getfield 10, 3) := by decide +kernel
theorem dX7_would_46 : decode cX7_would 46 = .ok (.getfield 76, 3) := by decide +kernel
theorem dX7_would_49 : decode cX7_would 49 = .ok (.aload_n 0, 1) := by decide +kernel
theorem dX7_would_50 : decode cX7_would 50 = .ok (.getfield 10, 3) := by decide +kernel
theorem dX7_would_53 : decode cX7_would 53 = .ok (.getfield 79, 3) := by decide +kernel
theorem dX7_would_56 : decode cX7_would 56 = .ok (.iconst 0, 1) := by decide +kernel
theorem dX7_would_57 : decode cX7_would 57 = .ok (.invokevirtual 118, 3) := by decide +kernel
theorem dX7_would_60 : decode cX7_would 60 = .ok (.aload_n 0, 1) := by decide +kernel
theorem dX7_would_61 : decode cX7_would 61 = .ok (.getfield 29, 3) := by decide +kernel
theorem dX7_would_64 : decode cX7_would 64 = .ok (.aload_n 0, 1) := by decide +kernel
theorem dX7_would_65 : decode cX7_would 65 = .ok (.getfield 10, 3) := by decide +kernel
theorem dX7_would_68 : decode cX7_would 68 = .ok (.iload_n 1, 1) := by decide +kernel
theorem dX7_would_69 : decode cX7_would 69 = .ok (.iload_n 1, 1) := by decide +kernel
theorem dX7_would_70 : decode cX7_would 70 = .ok (.iconst 1, 1) := by decide +kernel
theorem dX7_would_71 : decode cX7_would 71 = .ok (.iadd, 1) := by decide +kernel
theorem dX7_would_72 : decode cX7_would 72 = .ok (.iconst 1, 1) := by decide +kernel
theorem dX7_would_73 : decode cX7_would 73 = .ok (.invokevirtual 122, 3) := by decide +kernel
theorem dX7_would_76 : decode cX7_would 76 = .ok (.ldc 126, 2) := by decide +kernel
theorem dX7_would_78 : decode cX7_would 78 = .ok (.if_icmp .ne 6, 3) := by decide +kernel
theorem dX7_would_81 : decode cX7_would 81 = .ok (.ldc 126, 2) := by decide +kernel
theorem dX7_would_83 : decode cX7_would 83 = .ok (.ireturn, 1) := by decide +kernel
theorem dX7_would_84 : decode cX7_would 84 = .ok (.iload_n 3, 1) := by decide +kernel
theorem dX7_would_85 : decode cX7_would 85 = .ok (.ifCond .ne 15, 3) := by decide +kernel
theorem dX7_would_88 : decode cX7_would 88 = .ok (.aload_n 0, 1) := by decide +kernel
theorem dX7_would_89 : decode cX7_would 89 = .ok (.getfield 29, 3) := by decide +kernel
theorem dX7_would_92 : decode cX7_would 92 = .ok (.getfield 127, 3) := by decide +kernel
theorem dX7_would_95 : decode cX7_would 95 = .ok (.iload_n 2, 1) := by decide +kernel
theorem dX7_would_96 : decode cX7_would 96 = .ok (.iaload, 1) := by decide +kernel
theorem dX7_would_97 : decode cX7_would 97 = .ok (.goto 12, 3) := by decide +kernel
theorem dX7_would_100 : decode cX7_would 100 = .ok (.aload_n 0, 1) := by decide +kernel
theorem dX7_would_101 : decode cX7_would 101 = .ok (.getfield 29, 3) := by decide +kernel
theorem dX7_would_104 : decode cX7_would 104 = .ok (.getfield 128, 3) := by decide +kernel
theorem dX7_would_107 : decode cX7_would 107 = .ok (.iload_n 2, 1) := by decide +kernel
theorem dX7_would_108 : decode cX7_would 108 = .ok (.iaload, 1) := by decide +kernel
theorem dX7_would_109 : decode cX7_would 109 = .ok (.ireturn, 1) := by decide +kernel
set_option maxRecDepth 20000 in
theorem ggX7_does_X4_isPlace : GoodIn wsX7_does wsX4_isPlace := goodIn_r _ [5, 6, 7] (by decide +kernel) (by decide +kernel)
set_option maxRecDepth 20000 in
theorem gX7_does_X4_isPlace : GoodIn wsX7_does (va_wsS RX7 129 yX4_isPlace wsX4_isPlace) := goodIn_app (goodIn_of _ (by decide +kernel)) ggX7_does_X4_isPlace
set_option maxRecDepth 20000 in
theorem ggX7_does_X7_refused : GoodIn wsX7_does wsX7_refused := goodIn_r _ [12, 13, 1, 55, 56, 57, 58, 59, 60, 61] (by decide +kernel) (by decide +kernel)
set_option maxRecDepth 20000 in
theorem gX7_does_X7_refused : GoodIn wsX7_does (wsV RX7 55 RX7 yX7_refused wsX7_refused) := goodIn_app (goodIn_of _ (by decide +kernel)) ggX7_does_X7_refused
set_option maxRecDepth 20000 in
theorem ggX7_does_X4_ruleHolds : GoodIn wsX7_does wsX4_ruleHolds := goodIn_r _ [16, 17, 18, 19, 20, 21, 22, 23, 24, 25, 26, 4, 27, 28, 29, 30, 31, 32, 33, 34, 35, 36, 37, 38, 39, 40, 41, 42, 43, 44, 45, 46, 47, 48, 49, 50, 51, 52, 53, 54] (by decide +kernel) (by decide +kernel)
set_option maxRecDepth 20000 in
theorem gX7_does_X4_ruleHolds : GoodIn wsX7_does (va_wsS RX7 132 yX4_ruleHolds wsX4_ruleHolds) := goodIn_app (goodIn_of _ (by decide +kernel)) ggX7_does_X4_ruleHolds
theorem dX7_does_0 : decode cX7_does 0 = .ok (.iload_n 1, 1) := by decide +kernel
theorem dX7_does_1 : decode cX7_does 1 = .ok (.ifCond .lt 22, 3) := by decide +kernel
theorem dX7_does_4 : decode cX7_does 4 = .ok (.iload_n 1, 1) := by decide +kernel
theorem dX7_does_5 : decode cX7_does 5 = .ok (.iconst 5, 1) := by decide +kernel
theorem dX7_does_6 : decode cX7_does 6 = .ok (.if_icmp .gt 17, 3) := by decide +kernel
theorem dX7_does_9 : decode cX7_does 9 = .ok (.iload_n 2, 1) := by decide +kernel
theorem dX7_does_10 : decode cX7_does 10 = .ok (.invokestatic 129, 3) := by decide +kernel
theorem dX7_does_13 : decode cX7_does 13 = .ok (.ifCond .eq 10, 3) := by decide +kernel
theorem dX7_does_16 : decode cX7_does 16 = .ok (.iload_n 3, 1) := by decide +kernel
theorem dX7_does_17 : decode cX7_does 17 = .ok (.invokestatic 129, 3) := by decide +kernel
theorem dX7_does_20 : decode cX7_does 20 = .ok (.ifCond .ne 7, 3) := by decide +kernel
theorem dX7_does_23 : decode cX7_does 23 = .ok (.iconst 1, 1) := by decide +kernel
theorem dX7_does_24 : decode cX7_does 24 = .ok (.goto 4, 3) := by decide +kernel
theorem dX7_does_27 : decode cX7_does 27 = .ok (.iconst 0, 1) := by decide +kernel
theorem dX7_does_28 : decode cX7_does 28 = .ok (.istore 5, 2) := by decide +kernel
theorem dX7_does_30 : decode cX7_does 30 = .ok (.iload 5, 2) := by decide +kernel
theorem dX7_does_32 : decode cX7_does 32 = .ok (.ifCond .ne 16, 3) := by decide +kernel
theorem dX7_does_35 : decode cX7_does 35 = .ok (.iload_n 1, 1) := by decide +kernel
theorem dX7_does_36 : decode cX7_does 36 = .ok (.iconst 3, 1) := by decide +kernel
theorem dX7_does_37 : decode cX7_does 37 = .ok (.if_icmp .ge 18, 3) := by decide +kernel
theorem dX7_does_40 : decode cX7_does 40 = .ok (.iload 4, 2) := by decide +kernel
theorem dX7_does_42 : decode cX7_does 42 = .ok (.invokestatic 129, 3) := by decide +kernel
theorem dX7_does_45 : decode cX7_does 45 = .ok (.ifCond .ne 10, 3) := by decide +kernel
theorem dX7_does_48 : decode cX7_does 48 = .ok (.aload_n 0, 1) := by decide +kernel
theorem dX7_does_49 : decode cX7_does 49 = .ok (.ldc 75, 2) := by decide +kernel
theorem dX7_does_51 : decode cX7_does 51 = .ok (.invokevirtual 55, 3) := by decide +kernel
theorem dX7_does_54 : decode cX7_does 54 = .ok (.ireturn, 1) := by decide +kernel
theorem dX7_does_55 : decode cX7_does 55 = .ok (.iload_n 1, 1) := by decide +kernel
theorem dX7_does_56 : decode cX7_does 56 = .ok (.iload_n 2, 1) := by decide +kernel
theorem dX7_does_57 : decode cX7_does 57 = .ok (.iload_n 3, 1) := by decide +kernel
theorem dX7_does_58 : decode cX7_does 58 = .ok (.iload 4, 2) := by decide +kernel
theorem dX7_does_60 : decode cX7_does 60 = .ok (.invokestatic 132, 3) := by decide +kernel
theorem dX7_does_63 : decode cX7_does 63 = .ok (.ifCond .eq 7, 3) := by decide +kernel
theorem dX7_does_66 : decode cX7_does 66 = .ok (.iconst 1, 1) := by decide +kernel
theorem dX7_does_67 : decode cX7_does 67 = .ok (.goto 4, 3) := by decide +kernel
theorem dX7_does_70 : decode cX7_does 70 = .ok (.iconst 0, 1) := by decide +kernel
theorem dX7_does_71 : decode cX7_does 71 = .ok (.ireturn, 1) := by decide +kernel
set_option maxRecDepth 20000 in
theorem ggX7_solves_X7_refused : GoodIn wsX7_solves wsX7_refused := goodIn_r _ [11, 12, 1, 184, 185, 186, 187, 188, 189, 190] (by decide +kernel) (by decide +kernel)
set_option maxRecDepth 20000 in
theorem gX7_solves_X7_refused : GoodIn wsX7_solves (wsV RX7 55 RX7 yX7_refused wsX7_refused) := goodIn_app (goodIn_of _ (by decide +kernel)) ggX7_solves_X7_refused
set_option maxRecDepth 20000 in
theorem ggX7_solves_X5_solve : GoodIn wsX7_solves wsX5_solve := goodIn_r _ [17, 18, 19, 20, 21, 22, 23, 24, 25, 26, 27, 28, 29, 30, 31, 32, 33, 34, 35, 36, 37, 38, 39, 40, 41, 42, 43, 44, 45, 46, 16, 47, 48, 49, 50, 51, 52, 53, 54, 55, 56, 57, 58, 59, 60, 61, 62, 63, 64, 65, 66, 67, 68, 69, 70, 71, 72, 73, 74, 75, 76, 77, 78, 79, 80, 81, 82, 83, 84, 85, 86, 87, 88, 89, 90, 91, 92, 93, 94, 95, 96, 97, 98, 99, 100, 101, 102, 103, 104, 105, 106, 107, 108, 109, 110, 111, 112, 113, 114, 115, 116, 117, 118, 119, 120, 121, 122, 123, 124, 125, 126, 127, 128, 129, 130, 131, 132, 133, 134, 135, 136, 137, 138, 139, 140, 141, 142, 143, 144, 145, 146, 147, 148, 149, 150, 151, 152, 153, 154, 155, 156, 157, 158, 159, 160, 161, 162, 163, 164, 165, 166, 167, 168, 169, 170, 171, 172, 173, 174, 175, 176, 177, 178, 179, 180, 181, 182, 183, 191, 192, 193, 194, 195, 196, 197, 198, 199, 200, 201, 202, 203, 204, 205, 206, 207, 208, 209, 210] (by decide +kernel) (by decide +kernel)
set_option maxRecDepth 20000 in
theorem gX7_solves_X5_solve : GoodIn wsX7_solves (wsV RX7 136 RX5 yX5_solve wsX5_solve) := goodIn_app (goodIn_of _ (by decide +kernel)) ggX7_solves_X5_solve
theorem dX7_solves_0 : decode cX7_solves 0 = .ok (.iload_n 1, 1) := by decide +kernel
theorem dX7_solves_1 : decode cX7_solves 1 = .ok (.iconst 1, 1) := by decide +kernel
theorem dX7_solves_2 : decode cX7_solves 2 = .ok (.if_icmp .lt 18, 3) := by decide +kernel
theorem dX7_solves_5 : decode cX7_solves 5 = .ok (.iload_n 1, 1) := by decide +kernel
theorem dX7_solves_6 : decode cX7_solves 6 = .ok (.bipush 60, 2) := by decide +kernel
theorem dX7_solves_8 : decode cX7_solves 8 = .ok (.if_icmp .gt 12, 3) := by decide +kernel
theorem dX7_solves_11 : decode cX7_solves 11 = .ok (.iload_n 2, 1) := by decide +kernel
theorem dX7_solves_12 : decode cX7_solves 12 = .ok (.ifCond .lt 8, 3) := by decide +kernel
theorem dX7_solves_15 : decode cX7_solves 15 = .ok (.iload_n 2, 1) := by decide +kernel
theorem dX7_solves_16 : decode cX7_solves 16 = .ok (.iconst 2, 1) := by decide +kernel
theorem dX7_solves_17 : decode cX7_solves 17 = .ok (.if_icmp .le 10, 3) := by decide +kernel
theorem dX7_solves_20 : decode cX7_solves 20 = .ok (.aload_n 0, 1) := by decide +kernel
theorem dX7_solves_21 : decode cX7_solves 21 = .ok (.ldc 75, 2) := by decide +kernel
theorem dX7_solves_23 : decode cX7_solves 23 = .ok (.invokevirtual 55, 3) := by decide +kernel
theorem dX7_solves_26 : decode cX7_solves 26 = .ok (.ireturn, 1) := by decide +kernel
theorem dX7_solves_27 : decode cX7_solves 27 = .ok (.aload_n 0, 1) := by decide +kernel
theorem dX7_solves_28 : decode cX7_solves 28 = .ok (.getfield 36, 3) := by decide +kernel
theorem dX7_solves_31 : decode cX7_solves 31 = .ok (.aload_n 0, 1) := by decide +kernel
theorem dX7_solves_32 : decode cX7_solves 32 = .ok (.getfield 10, 3) := by decide +kernel
theorem dX7_solves_35 : decode cX7_solves 35 = .ok (.iload_n 1, 1) := by decide +kernel
theorem dX7_solves_36 : decode cX7_solves 36 = .ok (.invokevirtual 136, 3) := by decide +kernel
theorem dX7_solves_39 : decode cX7_solves 39 = .ok (.iload_n 2, 1) := by decide +kernel
theorem dX7_solves_40 : decode cX7_solves 40 = .ok (.ifCond .ne 11, 3) := by decide +kernel
theorem dX7_solves_43 : decode cX7_solves 43 = .ok (.aload_n 0, 1) := by decide +kernel
theorem dX7_solves_44 : decode cX7_solves 44 = .ok (.getfield 36, 3) := by decide +kernel
theorem dX7_solves_47 : decode cX7_solves 47 = .ok (.getfield 140, 3) := by decide +kernel
theorem dX7_solves_50 : decode cX7_solves 50 = .ok (.ireturn, 1) := by decide +kernel
theorem dX7_solves_51 : decode cX7_solves 51 = .ok (.iload_n 2, 1) := by decide +kernel
theorem dX7_solves_52 : decode cX7_solves 52 = .ok (.iconst 1, 1) := by decide +kernel
theorem dX7_solves_53 : decode cX7_solves 53 = .ok (.if_icmp .ne 13, 3) := by decide +kernel
theorem dX7_solves_56 : decode cX7_solves 56 = .ok (.aload_n 0, 1) := by decide +kernel
theorem dX7_solves_57 : decode cX7_solves 57 = .ok (.getfield 36, 3) := by decide +kernel
theorem dX7_solves_60 : decode cX7_solves 60 = .ok (.getfield 144, 3) := by decide +kernel
theorem dX7_solves_63 : decode cX7_solves 63 = .ok (.goto 10, 3) := by decide +kernel
theorem dX7_solves_66 : decode cX7_solves 66 = .ok (.aload_n 0, 1) := by decide +kernel
theorem dX7_solves_67 : decode cX7_solves 67 = .ok (.getfield 36, 3) := by decide +kernel
theorem dX7_solves_70 : decode cX7_solves 70 = .ok (.getfield 147, 3) := by decide +kernel
theorem dX7_solves_73 : decode cX7_solves 73 = .ok (.ireturn, 1) := by decide +kernel
set_option maxRecDepth 20000 in
theorem ggX7_point_X3_hasUnknown : GoodIn wsX7_point wsX3_hasUnknown := goodIn_r _ [11, 12, 204, 205, 206, 207, 208, 209, 210, 211] (by decide +kernel) (by decide +kernel)
set_option maxRecDepth 20000 in
theorem gX7_point_X3_hasUnknown : GoodIn wsX7_point (wsV RX7 65 RX3 yX3_hasUnknown wsX3_hasUnknown) := goodIn_app (goodIn_of _ (by decide +kernel)) ggX7_point_X3_hasUnknown
set_option maxRecDepth 20000 in
theorem ggX7_point_X7_refused : GoodIn wsX7_point wsX7_refused := goodIn_r _ [17, 18, 2, 189, 190, 191, 192, 193, 194, 195] (by decide +kernel) (by decide +kernel)
set_option maxRecDepth 20000 in
theorem gX7_point_X7_refused : GoodIn wsX7_point (wsV RX7 55 RX7 yX7_refused wsX7_refused) := goodIn_app (goodIn_of _ (by decide +kernel)) ggX7_point_X7_refused
set_option maxRecDepth 20000 in
theorem ggX7_point_X5_solve : GoodIn wsX7_point wsX5_solve := goodIn_r _ [23, 24, 25, 26, 27, 28, 29, 30, 31, 32, 33, 34, 35, 36, 37, 38, 39, 40, 41, 42, 43, 44, 45, 46, 47, 48, 49, 50, 51, 52, 22, 53, 54, 55, 56, 57, 58, 59, 60, 61, 62, 63, 64, 65, 66, 67, 68, 69, 70, 71, 72, 73, 74, 75, 76, 77, 78, 79, 80, 81, 82, 83, 84, 85, 86, 87, 88, 89, 90, 91, 92, 93, 94, 95, 96, 97, 98, 99, 100, 101, 102, 103, 104, 105, 106, 107, 108, 109, 110, 111, 112, 113, 114, 115, 116, 117, 118, 119, 120, 121, 122, 123, 124, 125, 126, 127, 128, 129, 130, 131, 132, 133, 134, 135, 136, 137, 138, 139, 140, 141, 142, 143, 144, 145, 146, 147, 148, 149, 150, 151, 152, 153, 154, 155, 156, 157, 158, 159, 160, 161, 162, 163, 164, 165, 166, 167, 168, 169, 170, 171, 172, 173, 174, 175, 10, 176, 177, 178, 179, 180, 181, 182, 183, 184, 185, 186, 187, 188, 196, 197, 198, 199, 200, 201, 202, 203, 204, 205, 206, 207, 208, 209, 210, 211, 212, 213, 214, 215] (by decide +kernel) (by decide +kernel)
set_option maxRecDepth 20000 in
theorem gX7_point_X5_solve : GoodIn wsX7_point (wsV RX7 136 RX5 yX5_solve wsX5_solve) := goodIn_app (goodIn_of _ (by decide +kernel)) ggX7_point_X5_solve
theorem dX7_point_0 : decode cX7_point 0 = .ok (.iload_n 1, 1) := by decide +kernel
theorem dX7_point_1 : decode cX7_point 1 = .ok (.iconst 1, 1) := by decide +kernel
theorem dX7_point_2 : decode cX7_point 2 = .ok (.if_icmp .lt 20, 3) := by decide +kernel
theorem dX7_point_5 : decode cX7_point 5 = .ok (.iload_n 1, 1) := by decide +kernel
theorem dX7_point_6 : decode cX7_point 6 = .ok (.bipush 60, 2) := by decide +kernel
theorem dX7_point_8 : decode cX7_point 8 = .ok (.if_icmp .gt 14, 3) := by decide +kernel
theorem dX7_point_11 : decode cX7_point 11 = .ok (.aload_n 0, 1) := by decide +kernel
theorem dX7_point_12 : decode cX7_point 12 = .ok (.getfield 10, 3) := by decide +kernel
theorem dX7_point_15 : decode cX7_point 15 = .ok (.iload_n 2, 1) := by decide +kernel
theorem dX7_point_16 : decode cX7_point 16 = .ok (.invokevirtual 65, 3) := by decide +kernel
theorem dX7_point_19 : decode cX7_point 19 = .ok (.ifCond .ne 10, 3) := by decide +kernel
theorem dX7_point_22 : decode cX7_point 22 = .ok (.aload_n 0, 1) := by decide +kernel
theorem dX7_point_23 : decode cX7_point 23 = .ok (.ldc 75, 2) := by decide +kernel
theorem dX7_point_25 : decode cX7_point 25 = .ok (.invokevirtual 55, 3) := by decide +kernel
theorem dX7_point_28 : decode cX7_point 28 = .ok (.ireturn, 1) := by decide +kernel
theorem dX7_point_29 : decode cX7_point 29 = .ok (.aload_n 0, 1) := by decide +kernel
theorem dX7_point_30 : decode cX7_point 30 = .ok (.getfield 36, 3) := by decide +kernel
theorem dX7_point_33 : decode cX7_point 33 = .ok (.aload_n 0, 1) := by decide +kernel
theorem dX7_point_34 : decode cX7_point 34 = .ok (.getfield 10, 3) := by decide +kernel
theorem dX7_point_37 : decode cX7_point 37 = .ok (.iload_n 1, 1) := by decide +kernel
theorem dX7_point_38 : decode cX7_point 38 = .ok (.invokevirtual 136, 3) := by decide +kernel
theorem dX7_point_41 : decode cX7_point 41 = .ok (.aload_n 0, 1) := by decide +kernel
theorem dX7_point_42 : decode cX7_point 42 = .ok (.getfield 36, 3) := by decide +kernel
theorem dX7_point_45 : decode cX7_point 45 = .ok (.getfield 140, 3) := by decide +kernel
theorem dX7_point_48 : decode cX7_point 48 = .ok (.ifCond .ne 15, 3) := by decide +kernel
theorem dX7_point_51 : decode cX7_point 51 = .ok (.aload_n 0, 1) := by decide +kernel
theorem dX7_point_52 : decode cX7_point 52 = .ok (.getfield 36, 3) := by decide +kernel
theorem dX7_point_55 : decode cX7_point 55 = .ok (.getfield 150, 3) := by decide +kernel
theorem dX7_point_58 : decode cX7_point 58 = .ok (.iload_n 2, 1) := by decide +kernel
theorem dX7_point_59 : decode cX7_point 59 = .ok (.iaload, 1) := by decide +kernel
theorem dX7_point_60 : decode cX7_point 60 = .ok (.goto 9, 3) := by decide +kernel
theorem dX7_point_63 : decode cX7_point 63 = .ok (.aload_n 0, 1) := by decide +kernel
theorem dX7_point_64 : decode cX7_point 64 = .ok (.ldc 153, 2) := by decide +kernel
theorem dX7_point_66 : decode cX7_point 66 = .ok (.invokevirtual 55, 3) := by decide +kernel
theorem dX7_point_69 : decode cX7_point 69 = .ok (.ireturn, 1) := by decide +kernel
set_option maxRecDepth 20000 in
theorem ggX7_whole_X1_ofWhole : GoodIn wsX7_whole wsX1_ofWhole := goodIn_r _ [4, 5, 6, 7, 8, 9, 10, 3, 11, 12, 13, 14, 15, 16, 17, 18, 19, 20, 21, 22, 23, 24] (by decide +kernel) (by decide +kernel)
set_option maxRecDepth 20000 in
theorem gX7_whole_X1_ofWhole : GoodIn wsX7_whole (va_wsS RX7 154 yX1_ofWhole wsX1_ofWhole) := goodIn_app (goodIn_of _ (by decide +kernel)) ggX7_whole_X1_ofWhole
theorem dX7_whole_0 : decode cX7_whole 0 = .ok (.iload_n 1, 1) := by decide +kernel
theorem dX7_whole_1 : decode cX7_whole 1 = .ok (.invokestatic 154, 3) := by decide +kernel
theorem dX7_whole_4 : decode cX7_whole 4 = .ok (.ireturn, 1) := by decide +kernel
set_option maxRecDepth 20000 in
theorem ggX7_narrow_X1_isNotANumber : GoodIn wsX7_narrow wsX1_isNotANumber := goodIn_r _ [6, 7, 8, 5, 9, 10, 11, 12, 13] (by decide +kernel) (by decide +kernel)
set_option maxRecDepth 20000 in
theorem gX7_narrow_X1_isNotANumber : GoodIn wsX7_narrow (va_wsS RX7 159 yX1_isNotANumber wsX1_isNotANumber) := goodIn_app (goodIn_of _ (by decide +kernel)) ggX7_narrow_X1_isNotANumber
set_option maxRecDepth 20000 in
theorem ggX7_narrow_X7_refused : GoodIn wsX7_narrow wsX7_refused := goodIn_r _ [18, 19, 1, 47, 48, 49, 50, 51, 52, 53] (by decide +kernel) (by decide +kernel)
set_option maxRecDepth 20000 in
theorem gX7_narrow_X7_refused : GoodIn wsX7_narrow (wsV RX7 55 RX7 yX7_refused wsX7_refused) := goodIn_app (goodIn_of _ (by decide +kernel)) ggX7_narrow_X7_refused
set_option maxRecDepth 20000 in
theorem ggX7_narrow_X1_ofDouble : GoodIn wsX7_narrow wsX1_ofDouble := goodIn_r _ [22, 23, 24, 25, 26, 27, 7, 8, 5, 9, 10, 11, 12, 13, 28, 29, 30, 31, 32, 33, 34, 35, 36, 37, 38, 39, 40] (by decide +kernel) (by decide +kernel)
set_option maxRecDepth 20000 in
theorem gX7_narrow_X1_ofDouble : GoodIn wsX7_narrow (va_wsS RX7 163 yX1_ofDouble wsX1_ofDouble) := goodIn_app (goodIn_of _ (by decide +kernel)) ggX7_narrow_X1_ofDouble
set_option maxRecDepth 20000 in
theorem ggX7_narrow_X4_isPlace : GoodIn wsX7_narrow wsX4_isPlace := goodIn_r _ [44, 45, 46] (by decide +kernel) (by decide +kernel)
set_option maxRecDepth 20000 in
theorem gX7_narrow_X4_isPlace : GoodIn wsX7_narrow (va_wsS RX7 129 yX4_isPlace wsX4_isPlace) := goodIn_app (goodIn_of _ (by decide +kernel)) ggX7_narrow_X4_isPlace
theorem dX7_narrow_0 : decode cX7_narrow 0 = .ok (.lload_n 1, 1) := by decide +kernel
theorem dX7_narrow_1 : decode cX7_narrow 1 = .ok (.invokestatic 159, 3) := by decide +kernel
theorem dX7_narrow_4 : decode cX7_narrow 4 = .ok (.ifCond .eq 10, 3) := by decide +kernel
theorem dX7_narrow_7 : decode cX7_narrow 7 = .ok (.aload_n 0, 1) := by decide +kernel
theorem dX7_narrow_8 : decode cX7_narrow 8 = .ok (.ldc 75, 2) := by decide +kernel
theorem dX7_narrow_10 : decode cX7_narrow 10 = .ok (.invokevirtual 55, 3) := by decide +kernel
theorem dX7_narrow_13 : decode cX7_narrow 13 = .ok (.ireturn, 1) := by decide +kernel
theorem dX7_narrow_14 : decode cX7_narrow 14 = .ok (.lload_n 1, 1) := by decide +kernel
theorem dX7_narrow_15 : decode cX7_narrow 15 = .ok (.invokestatic 163, 3) := by decide +kernel
theorem dX7_narrow_18 : decode cX7_narrow 18 = .ok (.istore_n 3, 1) := by decide +kernel
theorem dX7_narrow_19 : decode cX7_narrow 19 = .ok (.iload_n 3, 1) := by decide +kernel
theorem dX7_narrow_20 : decode cX7_narrow 20 = .ok (.invokestatic 129, 3) := by decide +kernel
theorem dX7_narrow_23 : decode cX7_narrow 23 = .ok (.ifCond .eq 7, 3) := by decide +kernel
theorem dX7_narrow_26 : decode cX7_narrow 26 = .ok (.iload_n 3, 1) := by decide +kernel
theorem dX7_narrow_27 : decode cX7_narrow 27 = .ok (.goto 9, 3) := by decide +kernel
theorem dX7_narrow_30 : decode cX7_narrow 30 = .ok (.aload_n 0, 1) := by decide +kernel
theorem dX7_narrow_31 : decode cX7_narrow 31 = .ok (.ldc 153, 2) := by decide +kernel
theorem dX7_narrow_33 : decode cX7_narrow 33 = .ok (.invokevirtual 55, 3) := by decide +kernel
theorem dX7_narrow_36 : decode cX7_narrow 36 = .ok (.ireturn, 1) := by decide +kernel
set_option maxRecDepth 20000 in
theorem ggX7_wide_X4_isPlace : GoodIn wsX7_wide wsX4_isPlace := goodIn_r _ [6, 7, 8] (by decide +kernel) (by decide +kernel)
set_option maxRecDepth 20000 in
theorem gX7_wide_X4_isPlace : GoodIn wsX7_wide (va_wsS RX7 129 yX4_isPlace wsX4_isPlace) := goodIn_app (goodIn_of _ (by decide +kernel)) ggX7_wide_X4_isPlace
set_option maxRecDepth 20000 in
theorem ggX7_wide_X7_refused : GoodIn wsX7_wide wsX7_refused := goodIn_r _ [13, 14, 1, 43, 44, 45, 46, 47, 48, 49] (by decide +kernel) (by decide +kernel)
set_option maxRecDepth 20000 in
theorem gX7_wide_X7_refused : GoodIn wsX7_wide (wsV RX7 55 RX7 yX7_refused wsX7_refused) := goodIn_app (goodIn_of _ (by decide +kernel)) ggX7_wide_X7_refused
set_option maxRecDepth 20000 in
theorem ggX7_wide_X1_toDouble : GoodIn wsX7_wide wsX1_toDouble := goodIn_r _ [18, 19, 20, 21, 5, 22, 23, 24, 17, 25, 26, 27, 28, 29, 30, 31, 32, 33, 34, 35, 36, 37, 38, 39, 40, 41, 42] (by decide +kernel) (by decide +kernel)
set_option maxRecDepth 20000 in
theorem gX7_wide_X1_toDouble : GoodIn wsX7_wide (va_wsS RX7 169 yX1_toDouble wsX1_toDouble) := goodIn_app (goodIn_of _ (by decide +kernel)) ggX7_wide_X1_toDouble
theorem dX7_wide_0 : decode cX7_wide 0 = .ok (.iload_n 1, 1) := by decide +kernel
theorem dX7_wide_1 : decode cX7_wide 1 = .ok (.invokestatic 129, 3) := by decide +kernel
theorem dX7_wide_4 : decode cX7_wide 4 = .ok (.ifCond .ne 14, 3) := by decide +kernel
theorem dX7_wide_7 : decode cX7_wide 7 = .ok (.aload_n 0, 1) := by decide +kernel
theorem dX7_wide_8 : decode cX7_wide 8 = .ok (.ldc 75, 2) := by decide +kernel
theorem dX7_wide_10 : decode cX7_wide 10 = .ok (.invokevirtual 55, 3) := by decide +kernel
theorem dX7_wide_13 : decode cX7_wide 13 = .ok (.pop, 1) := by decide +kernel
theorem dX7_wide_14 : decode cX7_wide 14 = .ok (.ldc2_w 167, 3) := by decide +kernel
theorem dX7_wide_17 : decode cX7_wide 17 = .ok (.lreturn, 1) := by decide +kernel
theorem dX7_wide_18 : decode cX7_wide 18 = .ok (.iload_n 1, 1) := by decide +kernel
theorem dX7_wide_19 : decode cX7_wide 19 = .ok (.invokestatic 169, 3) := by decide +kernel
theorem dX7_wide_22 : decode cX7_wide 22 = .ok (.lreturn, 1) := by decide +kernel
set_option maxRecDepth 20000 in
theorem ggX7_reckons_X4_isPlace : GoodIn wsX7_reckons wsX4_isPlace := goodIn_r _ [5, 6, 7] (by decide +kernel) (by decide +kernel)
set_option maxRecDepth 20000 in
theorem gX7_reckons_X4_isPlace : GoodIn wsX7_reckons (va_wsS RX7 129 yX4_isPlace wsX4_isPlace) := goodIn_app (goodIn_of _ (by decide +kernel)) ggX7_reckons_X4_isPlace
set_option maxRecDepth 20000 in
theorem ggX7_reckons_X7_refused : GoodIn wsX7_reckons wsX7_refused := goodIn_r _ [12, 13, 1, 48, 49, 50, 51, 52, 53, 54] (by decide +kernel) (by decide +kernel)
set_option maxRecDepth 20000 in
theorem gX7_reckons_X7_refused : GoodIn wsX7_reckons (wsV RX7 55 RX7 yX7_refused wsX7_refused) := goodIn_app (goodIn_of _ (by decide +kernel)) ggX7_reckons_X7_refused
set_option maxRecDepth 20000 in
theorem ggX7_reckons_X1_sum : GoodIn wsX7_reckons wsX1_sum := goodIn_r _ [17, 18, 19, 4, 20, 21, 22, 16, 23, 24, 25, 26, 27, 28, 29, 30, 31, 32, 33, 34, 35, 36, 37, 38, 39, 40, 41, 42, 43, 44] (by decide +kernel) (by decide +kernel)
set_option maxRecDepth 20000 in
theorem gX7_reckons_X1_sum : GoodIn wsX7_reckons (va_wsS RX7 173 yX1_sum wsX1_sum) := goodIn_app (goodIn_of _ (by decide +kernel)) ggX7_reckons_X1_sum
set_option maxRecDepth 20000 in
theorem ggX7_reckons_X1_product : GoodIn wsX7_reckons wsX1_product := goodIn_r _ [47, 18, 19, 4, 20, 28, 29, 16, 30, 31, 21, 22, 23, 24, 25, 26, 27, 32, 33, 34, 35, 36, 37, 38, 39, 40, 41, 42, 43, 44] (by decide +kernel) (by decide +kernel)
set_option maxRecDepth 20000 in
theorem gX7_reckons_X1_product : GoodIn wsX7_reckons (va_wsS RX7 176 yX1_product wsX1_product) := goodIn_app (goodIn_of _ (by decide +kernel)) ggX7_reckons_X1_product
theorem dX7_reckons_0 : decode cX7_reckons 0 = .ok (.iload_n 1, 1) := by decide +kernel
theorem dX7_reckons_1 : decode cX7_reckons 1 = .ok (.ifCond .lt 22, 3) := by decide +kernel
theorem dX7_reckons_4 : decode cX7_reckons 4 = .ok (.iload_n 1, 1) := by decide +kernel
theorem dX7_reckons_5 : decode cX7_reckons 5 = .ok (.iconst 1, 1) := by decide +kernel
theorem dX7_reckons_6 : decode cX7_reckons 6 = .ok (.if_icmp .gt 17, 3) := by decide +kernel
theorem dX7_reckons_9 : decode cX7_reckons 9 = .ok (.iload_n 2, 1) := by decide +kernel
theorem dX7_reckons_10 : decode cX7_reckons 10 = .ok (.invokestatic 129, 3) := by decide +kernel
theorem dX7_reckons_13 : decode cX7_reckons 13 = .ok (.ifCond .eq 10, 3) := by decide +kernel
theorem dX7_reckons_16 : decode cX7_reckons 16 = .ok (.iload_n 3, 1) := by decide +kernel
theorem dX7_reckons_17 : decode cX7_reckons 17 = .ok (.invokestatic 129, 3) := by decide +kernel
theorem dX7_reckons_20 : decode cX7_reckons 20 = .ok (.ifCond .ne 10, 3) := by decide +kernel
theorem dX7_reckons_23 : decode cX7_reckons 23 = .ok (.aload_n 0, 1) := by decide +kernel
theorem dX7_reckons_24 : decode cX7_reckons 24 = .ok (.ldc 75, 2) := by decide +kernel
theorem dX7_reckons_26 : decode cX7_reckons 26 = .ok (.invokevirtual 55, 3) := by decide +kernel
theorem dX7_reckons_29 : decode cX7_reckons 29 = .ok (.ireturn, 1) := by decide +kernel
theorem dX7_reckons_30 : decode cX7_reckons 30 = .ok (.iload_n 1, 1) := by decide +kernel
theorem dX7_reckons_31 : decode cX7_reckons 31 = .ok (.ifCond .ne 11, 3) := by decide +kernel
theorem dX7_reckons_34 : decode cX7_reckons 34 = .ok (.iload_n 2, 1) := by decide +kernel
theorem dX7_reckons_35 : decode cX7_reckons 35 = .ok (.iload_n 3, 1) := by decide +kernel
theorem dX7_reckons_36 : decode cX7_reckons 36 = .ok (.invokestatic 173, 3) := by decide +kernel
theorem dX7_reckons_39 : decode cX7_reckons 39 = .ok (.goto 8, 3) := by decide +kernel
theorem dX7_reckons_42 : decode cX7_reckons 42 = .ok (.iload_n 2, 1) := by decide +kernel
theorem dX7_reckons_43 : decode cX7_reckons 43 = .ok (.iload_n 3, 1) := by decide +kernel
theorem dX7_reckons_44 : decode cX7_reckons 44 = .ok (.invokestatic 176, 3) := by decide +kernel
theorem dX7_reckons_47 : decode cX7_reckons 47 = .ok (.ireturn, 1) := by decide +kernel
set_option maxRecDepth 20000 in
theorem ggX7_rest_X4_isPlace : GoodIn wsX7_rest wsX4_isPlace := goodIn_r _ [6, 7, 8] (by decide +kernel) (by decide +kernel)
set_option maxRecDepth 20000 in
theorem gX7_rest_X4_isPlace : GoodIn wsX7_rest (va_wsS RX7 129 yX4_isPlace wsX4_isPlace) := goodIn_app (goodIn_of _ (by decide +kernel)) ggX7_rest_X4_isPlace
set_option maxRecDepth 20000 in
theorem ggX7_rest_X7_refused : GoodIn wsX7_rest wsX7_refused := goodIn_r _ [13, 14, 1, 50, 51, 52, 53, 54, 55, 56] (by decide +kernel) (by decide +kernel)
set_option maxRecDepth 20000 in
theorem gX7_rest_X7_refused : GoodIn wsX7_rest (wsV RX7 55 RX7 yX7_refused wsX7_refused) := goodIn_app (goodIn_of _ (by decide +kernel)) ggX7_rest_X7_refused
set_option maxRecDepth 20000 in
theorem ggX7_rest_X4_magnitude : GoodIn wsX7_rest wsX4_magnitude := goodIn_r _ [17] (by decide +kernel) (by decide +kernel)
set_option maxRecDepth 20000 in
theorem gX7_rest_X4_magnitude : GoodIn wsX7_rest (va_wsS RX7 179 yX4_magnitude wsX4_magnitude) := goodIn_app (goodIn_of _ (by decide +kernel)) ggX7_rest_X4_magnitude
set_option maxRecDepth 20000 in
theorem ggX7_rest_X1_remainder : GoodIn wsX7_rest wsX1_remainder := goodIn_r _ [21, 22, 23, 24, 25, 26, 16, 5, 17, 27, 28, 20, 29, 30, 31, 32, 33, 34, 35, 36, 37, 38, 39, 40, 41, 42, 43, 44, 45, 46, 47, 48, 49] (by decide +kernel) (by decide +kernel)
set_option maxRecDepth 20000 in
theorem gX7_rest_X1_remainder : GoodIn wsX7_rest (va_wsS RX7 182 yX1_remainder wsX1_remainder) := goodIn_app (goodIn_of _ (by decide +kernel)) ggX7_rest_X1_remainder
theorem dX7_rest_0 : decode cX7_rest 0 = .ok (.iload_n 1, 1) := by decide +kernel
theorem dX7_rest_1 : decode cX7_rest 1 = .ok (.invokestatic 129, 3) := by decide +kernel
theorem dX7_rest_4 : decode cX7_rest 4 = .ok (.ifCond .eq 10, 3) := by decide +kernel
theorem dX7_rest_7 : decode cX7_rest 7 = .ok (.iload_n 2, 1) := by decide +kernel
theorem dX7_rest_8 : decode cX7_rest 8 = .ok (.invokestatic 129, 3) := by decide +kernel
theorem dX7_rest_11 : decode cX7_rest 11 = .ok (.ifCond .ne 10, 3) := by decide +kernel
theorem dX7_rest_14 : decode cX7_rest 14 = .ok (.aload_n 0, 1) := by decide +kernel
theorem dX7_rest_15 : decode cX7_rest 15 = .ok (.ldc 75, 2) := by decide +kernel
theorem dX7_rest_17 : decode cX7_rest 17 = .ok (.invokevirtual 55, 3) := by decide +kernel
theorem dX7_rest_20 : decode cX7_rest 20 = .ok (.ireturn, 1) := by decide +kernel
theorem dX7_rest_21 : decode cX7_rest 21 = .ok (.iload_n 2, 1) := by decide +kernel
theorem dX7_rest_22 : decode cX7_rest 22 = .ok (.invokestatic 179, 3) := by decide +kernel
theorem dX7_rest_25 : decode cX7_rest 25 = .ok (.ifCond .ne 10, 3) := by decide +kernel
theorem dX7_rest_28 : decode cX7_rest 28 = .ok (.aload_n 0, 1) := by decide +kernel
theorem dX7_rest_29 : decode cX7_rest 29 = .ok (.ldc 153, 2) := by decide +kernel
theorem dX7_rest_31 : decode cX7_rest 31 = .ok (.invokevirtual 55, 3) := by decide +kernel
theorem dX7_rest_34 : decode cX7_rest 34 = .ok (.ireturn, 1) := by decide +kernel
theorem dX7_rest_35 : decode cX7_rest 35 = .ok (.iload_n 1, 1) := by decide +kernel
theorem dX7_rest_36 : decode cX7_rest 36 = .ok (.iload_n 2, 1) := by decide +kernel
theorem dX7_rest_37 : decode cX7_rest 37 = .ok (.invokestatic 182, 3) := by decide +kernel
theorem dX7_rest_40 : decode cX7_rest 40 = .ok (.ireturn, 1) := by decide +kernel
set_option maxRecDepth 20000 in
theorem ggX7_type_X7_refused : GoodIn wsX7_type wsX7_refused := goodIn_r _ [10, 11, 1, 12, 13, 14, 15, 16, 17, 18] (by decide +kernel) (by decide +kernel)
set_option maxRecDepth 20000 in
theorem gX7_type_X7_refused : GoodIn wsX7_type (wsV RX7 55 RX7 yX7_refused wsX7_refused) := goodIn_app (goodIn_of _ (by decide +kernel)) ggX7_type_X7_refused
theorem dX7_type_0 : decode cX7_type 0 = .ok (.iload_n 1, 1) := by decide +kernel
theorem dX7_type_1 : decode cX7_type 1 = .ok (.ifCond .lt 9, 3) := by decide +kernel
theorem dX7_type_4 : decode cX7_type 4 = .ok (.iload_n 1, 1) := by decide +kernel
theorem dX7_type_5 : decode cX7_type 5 = .ok (.bipush 127, 2) := by decide +kernel
theorem dX7_type_7 : decode cX7_type 7 = .ok (.if_icmp .le 10, 3) := by decide +kernel
theorem dX7_type_10 : decode cX7_type 10 = .ok (.aload_n 0, 1) := by decide +kernel
theorem dX7_type_11 : decode cX7_type 11 = .ok (.ldc 75, 2) := by decide +kernel
theorem dX7_type_13 : decode cX7_type 13 = .ok (.invokevirtual 55, 3) := by decide +kernel
theorem dX7_type_16 : decode cX7_type 16 = .ok (.ireturn, 1) := by decide +kernel
theorem dX7_type_17 : decode cX7_type 17 = .ok (.aload_n 0, 1) := by decide +kernel
theorem dX7_type_18 : decode cX7_type 18 = .ok (.getfield 43, 3) := by decide +kernel
theorem dX7_type_21 : decode cX7_type 21 = .ok (.getfield 185, 3) := by decide +kernel
theorem dX7_type_24 : decode cX7_type 24 = .ok (.bipush 120, 2) := by decide +kernel
theorem dX7_type_26 : decode cX7_type 26 = .ok (.if_icmp .lt 10, 3) := by decide +kernel
theorem dX7_type_29 : decode cX7_type 29 = .ok (.aload_n 0, 1) := by decide +kernel
theorem dX7_type_30 : decode cX7_type 30 = .ok (.ldc 188, 2) := by decide +kernel
theorem dX7_type_32 : decode cX7_type 32 = .ok (.invokevirtual 55, 3) := by decide +kernel
theorem dX7_type_35 : decode cX7_type 35 = .ok (.ireturn, 1) := by decide +kernel
theorem dX7_type_36 : decode cX7_type 36 = .ok (.aload_n 0, 1) := by decide +kernel
theorem dX7_type_37 : decode cX7_type 37 = .ok (.getfield 43, 3) := by decide +kernel
theorem dX7_type_40 : decode cX7_type 40 = .ok (.getfield 189, 3) := by decide +kernel
theorem dX7_type_43 : decode cX7_type 43 = .ok (.aload_n 0, 1) := by decide +kernel
theorem dX7_type_44 : decode cX7_type 44 = .ok (.getfield 43, 3) := by decide +kernel
theorem dX7_type_47 : decode cX7_type 47 = .ok (.getfield 185, 3) := by decide +kernel
theorem dX7_type_50 : decode cX7_type 50 = .ok (.iload_n 1, 1) := by decide +kernel
theorem dX7_type_51 : decode cX7_type 51 = .ok (.iastore, 1) := by decide +kernel
theorem dX7_type_52 : decode cX7_type 52 = .ok (.aload_n 0, 1) := by decide +kernel
theorem dX7_type_53 : decode cX7_type 53 = .ok (.getfield 43, 3) := by decide +kernel
theorem dX7_type_56 : decode cX7_type 56 = .ok (.dup, 1) := by decide +kernel
theorem dX7_type_57 : decode cX7_type 57 = .ok (.getfield 185, 3) := by decide +kernel
theorem dX7_type_60 : decode cX7_type 60 = .ok (.iconst 1, 1) := by decide +kernel
theorem dX7_type_61 : decode cX7_type 61 = .ok (.iadd, 1) := by decide +kernel
theorem dX7_type_62 : decode cX7_type 62 = .ok (.putfield 185, 3) := by decide +kernel
theorem dX7_type_65 : decode cX7_type 65 = .ok (.aload_n 0, 1) := by decide +kernel
theorem dX7_type_66 : decode cX7_type 66 = .ok (.getfield 43, 3) := by decide +kernel
theorem dX7_type_69 : decode cX7_type 69 = .ok (.getfield 185, 3) := by decide +kernel
theorem dX7_type_72 : decode cX7_type 72 = .ok (.ireturn, 1) := by decide +kernel
theorem dX7_clear_0 : decode cX7_clear 0 = .ok (.aload_n 0, 1) := by decide +kernel
theorem dX7_clear_1 : decode cX7_clear 1 = .ok (.getfield 43, 3) := by decide +kernel
theorem dX7_clear_4 : decode cX7_clear 4 = .ok (.getfield 185, 3) := by decide +kernel
theorem dX7_clear_7 : decode cX7_clear 7 = .ok (.istore_n 1, 1) := by decide +kernel
theorem dX7_clear_8 : decode cX7_clear 8 = .ok (.aload_n 0, 1) := by decide +kernel
theorem dX7_clear_9 : decode cX7_clear 9 = .ok (.getfield 43, 3) := by decide +kernel
theorem dX7_clear_12 : decode cX7_clear 12 = .ok (.iconst 0, 1) := by decide +kernel
theorem dX7_clear_13 : decode cX7_clear 13 = .ok (.putfield 185, 3) := by decide +kernel
theorem dX7_clear_16 : decode cX7_clear 16 = .ok (.iload_n 1, 1) := by decide +kernel
theorem dX7_clear_17 : decode cX7_clear 17 = .ok (.ireturn, 1) := by decide +kernel
set_option maxRecDepth 20000 in
theorem ggX7_reads_X6_parse : GoodIn wsX7_reads wsX6_parse := goodIn_r _ [11, 12, 13, 14, 15, 16, 17, 10, 18, 19, 20, 21, 22, 23, 24, 25, 26, 27, 28, 29, 30, 31, 32, 33, 34, 35, 36, 37, 38, 39, 259, 260, 261, 262, 263, 264] (by decide +kernel) (by decide +kernel)
set_option maxRecDepth 20000 in
theorem gX7_reads_X6_parse : GoodIn wsX7_reads (wsV RX7 192 RX6 yX6_parse wsX6_parse) := goodIn_app (goodIn_of _ (by decide +kernel)) ggX7_reads_X6_parse
set_option maxRecDepth 20000 in
theorem ggX7_reads_X3_copy : GoodIn wsX7_reads wsX3_copy := goodIn_r _ [44, 45, 46, 47, 48, 49, 50, 51, 52, 53, 54, 55, 56, 265, 266, 267, 268, 269, 270, 271, 272] (by decide +kernel) (by decide +kernel)
set_option maxRecDepth 20000 in
theorem gX7_reads_X3_copy : GoodIn wsX7_reads (wsV RX7 199 RX3 yX3_copy wsX3_copy) := goodIn_app (goodIn_of _ (by decide +kernel)) ggX7_reads_X3_copy
set_option maxRecDepth 20000 in
theorem ggX7_reads_X7_cutRanges : GoodIn wsX7_reads wsX7_cutRanges := goodIn_r _ [61, 62, 63, 64, 65, 66, 67, 68, 69, 70, 71, 72, 73, 49, 50, 51, 74, 75, 76, 77, 78, 79, 80, 81, 82, 83, 84, 85, 86, 87, 88, 89, 90, 91, 92, 93, 94, 95, 96, 97, 98, 99, 100, 101, 102, 103, 104, 105, 106, 107, 108, 109, 110, 111, 112, 113, 114, 115, 116, 117, 118, 119, 120, 121, 122, 123, 124, 125, 126, 127, 128, 129, 130, 131, 132, 133, 134, 135, 136, 137, 138, 139, 140, 141, 142, 143, 144, 145, 146, 147, 148, 149, 150, 151, 152, 153, 154, 155, 156, 157, 158, 159, 160, 161, 162, 163, 164, 165, 166, 167, 168, 169, 170, 171, 172, 173, 174, 175, 176, 177, 178, 179, 180, 252, 253, 254, 255, 256, 257, 258, 265, 266, 267, 268, 269, 270, 271, 272, 273, 274, 275, 276] (by decide +kernel) (by decide +kernel)
set_option maxRecDepth 20000 in
theorem gX7_reads_X7_cutRanges : GoodIn wsX7_reads (wsV RX7 98 RX7 yX7_cutRanges wsX7_cutRanges) := goodIn_app (goodIn_of _ (by decide +kernel)) ggX7_reads_X7_cutRanges
set_option maxRecDepth 20000 in
theorem ggX7_reads_X7_obeys : GoodIn wsX7_reads wsX7_obeys := goodIn_r _ [184, 1, 185, 186, 187, 92, 188, 189, 190, 103, 191, 109, 110, 111, 101, 102, 104, 112, 113, 114, 115, 116, 117, 118, 119, 120, 121, 192, 193, 194, 43, 195, 196, 45, 197, 198, 199, 96, 200, 201, 202, 203, 204, 205, 206, 207, 208, 209, 47, 52, 210, 211, 212, 213, 46, 214, 215, 216, 217, 218, 219, 220, 221, 53, 54, 55, 56, 222, 223, 224, 225, 226, 227, 228, 229, 252, 253, 254, 255, 256, 257, 258, 259, 260, 261, 262, 263, 264, 265, 266, 267, 268, 269, 270, 271, 272] (by decide +kernel) (by decide +kernel)
set_option maxRecDepth 20000 in
theorem gX7_reads_X7_obeys : GoodIn wsX7_reads (wsV RX7 209 RX7 yX7_obeys wsX7_obeys) := goodIn_app (goodIn_of _ (by decide +kernel)) ggX7_reads_X7_obeys
set_option maxRecDepth 20000 in
theorem ggX7_reads_X7_keepState : GoodIn wsX7_reads wsX7_keepState := goodIn_r _ [233, 234, 4, 235, 236, 237, 238, 239, 240, 241, 242, 243, 244, 128, 103, 129, 245, 41, 42, 43, 44, 45, 46, 47, 48, 49, 50, 51, 52, 53, 54, 55, 56, 246, 247, 248, 249, 250, 251, 252, 253, 254, 255, 256, 257, 258, 277, 278, 279, 265, 266, 267, 268, 269, 270, 271, 272, 280, 281, 282, 283, 284, 285, 286, 287] (by decide +kernel) (by decide +kernel)
set_option maxRecDepth 20000 in
theorem gX7_reads_X7_keepState : GoodIn wsX7_reads (wsV RX7 59 RX7 yX7_keepState wsX7_keepState) := goodIn_app (goodIn_of _ (by decide +kernel)) ggX7_reads_X7_keepState
theorem dX7_reads_0 : decode cX7_reads 0 = .ok (.aload_n 0, 1) := by decide +kernel
theorem dX7_reads_1 : decode cX7_reads 1 = .ok (.getfield 43, 3) := by decide +kernel
theorem dX7_reads_4 : decode cX7_reads 4 = .ok (.invokevirtual 192, 3) := by decide +kernel
theorem dX7_reads_7 : decode cX7_reads 7 = .ok (.ifCond .ne 14, 3) := by decide +kernel
theorem dX7_reads_10 : decode cX7_reads 10 = .ok (.bipush (-10), 2) := by decide +kernel
theorem dX7_reads_12 : decode cX7_reads 12 = .ok (.aload_n 0, 1) := by decide +kernel
theorem dX7_reads_13 : decode cX7_reads 13 = .ok (.getfield 43, 3) := by decide +kernel
theorem dX7_reads_16 : decode cX7_reads 16 = .ok (.getfield 196, 3) := by decide +kernel
theorem dX7_reads_19 : decode cX7_reads 19 = .ok (.isub, 1) := by decide +kernel
theorem dX7_reads_20 : decode cX7_reads 20 = .ok (.ireturn, 1) := by decide +kernel
theorem dX7_reads_21 : decode cX7_reads 21 = .ok (.aload_n 0, 1) := by decide +kernel
theorem dX7_reads_22 : decode cX7_reads 22 = .ok (.getfield 16, 3) := by decide +kernel
theorem dX7_reads_25 : decode cX7_reads 25 = .ok (.aload_n 0, 1) := by decide +kernel
theorem dX7_reads_26 : decode cX7_reads 26 = .ok (.getfield 10, 3) := by decide +kernel
theorem dX7_reads_29 : decode cX7_reads 29 = .ok (.invokevirtual 199, 3) := by decide +kernel
theorem dX7_reads_32 : decode cX7_reads 32 = .ok (.iconst 0, 1) := by decide +kernel
theorem dX7_reads_33 : decode cX7_reads 33 = .ok (.istore_n 1, 1) := by decide +kernel
theorem dX7_reads_34 : decode cX7_reads 34 = .ok (.iload_n 1, 1) := by decide +kernel
theorem dX7_reads_35 : decode cX7_reads 35 = .ok (.aload_n 0, 1) := by decide +kernel
theorem dX7_reads_36 : decode cX7_reads 36 = .ok (.getfield 43, 3) := by decide +kernel
theorem dX7_reads_39 : decode cX7_reads 39 = .ok (.getfield 203, 3) := by decide +kernel
theorem dX7_reads_42 : decode cX7_reads 42 = .ok (.if_icmp .ge 64, 3) := by decide +kernel
theorem dX7_reads_45 : decode cX7_reads 45 = .ok (.aload_n 0, 1) := by decide +kernel
theorem dX7_reads_46 : decode cX7_reads 46 = .ok (.getfield 43, 3) := by decide +kernel
theorem dX7_reads_49 : decode cX7_reads 49 = .ok (.getfield 206, 3) := by decide +kernel
theorem dX7_reads_52 : decode cX7_reads 52 = .ok (.iload_n 1, 1) := by decide +kernel
theorem dX7_reads_53 : decode cX7_reads 53 = .ok (.iaload, 1) := by decide +kernel
theorem dX7_reads_54 : decode cX7_reads 54 = .ok (.bipush 99, 2) := by decide +kernel
theorem dX7_reads_56 : decode cX7_reads 56 = .ok (.if_icmp .ne 15, 3) := by decide +kernel
theorem dX7_reads_59 : decode cX7_reads 59 = .ok (.aload_n 0, 1) := by decide +kernel
theorem dX7_reads_60 : decode cX7_reads 60 = .ok (.aload_n 0, 1) := by decide +kernel
theorem dX7_reads_61 : decode cX7_reads 61 = .ok (.getfield 16, 3) := by decide +kernel
theorem dX7_reads_64 : decode cX7_reads 64 = .ok (.invokevirtual 98, 3) := by decide +kernel
theorem dX7_reads_67 : decode cX7_reads 67 = .ok (.pop, 1) := by decide +kernel
theorem dX7_reads_68 : decode cX7_reads 68 = .ok (.goto 32, 3) := by decide +kernel
theorem dX7_reads_71 : decode cX7_reads 71 = .ok (.aload_n 0, 1) := by decide +kernel
theorem dX7_reads_72 : decode cX7_reads 72 = .ok (.aload_n 0, 1) := by decide +kernel
theorem dX7_reads_73 : decode cX7_reads 73 = .ok (.getfield 16, 3) := by decide +kernel
theorem dX7_reads_76 : decode cX7_reads 76 = .ok (.aload_n 0, 1) := by decide +kernel
theorem dX7_reads_77 : decode cX7_reads 77 = .ok (.getfield 43, 3) := by decide +kernel
theorem dX7_reads_80 : decode cX7_reads 80 = .ok (.getfield 206, 3) := by decide +kernel
theorem dX7_reads_83 : decode cX7_reads 83 = .ok (.iload_n 1, 1) := by decide +kernel
theorem dX7_reads_84 : decode cX7_reads 84 = .ok (.iaload, 1) := by decide +kernel
theorem dX7_reads_85 : decode cX7_reads 85 = .ok (.iload_n 1, 1) := by decide +kernel
theorem dX7_reads_86 : decode cX7_reads 86 = .ok (.iconst 4, 1) := by decide +kernel
theorem dX7_reads_87 : decode cX7_reads 87 = .ok (.imul, 1) := by decide +kernel
theorem dX7_reads_88 : decode cX7_reads 88 = .ok (.invokevirtual 209, 3) := by decide +kernel
theorem dX7_reads_91 : decode cX7_reads 91 = .ok (.ifCond .ne 9, 3) := by decide +kernel
theorem dX7_reads_94 : decode cX7_reads 94 = .ok (.sipush (-1000), 3) := by decide +kernel
theorem dX7_reads_97 : decode cX7_reads 97 = .ok (.iload_n 1, 1) := by decide +kernel
theorem dX7_reads_98 : decode cX7_reads 98 = .ok (.isub, 1) := by decide +kernel
theorem dX7_reads_99 : decode cX7_reads 99 = .ok (.ireturn, 1) := by decide +kernel
theorem dX7_reads_100 : decode cX7_reads 100 = .ok (.iinc 1 1, 3) := by decide +kernel
theorem dX7_reads_103 : decode cX7_reads 103 = .ok (.goto (-69), 3) := by decide +kernel
theorem dX7_reads_106 : decode cX7_reads 106 = .ok (.aload_n 0, 1) := by decide +kernel
theorem dX7_reads_107 : decode cX7_reads 107 = .ok (.invokevirtual 59, 3) := by decide +kernel
theorem dX7_reads_110 : decode cX7_reads 110 = .ok (.aload_n 0, 1) := by decide +kernel
theorem dX7_reads_111 : decode cX7_reads 111 = .ok (.getfield 10, 3) := by decide +kernel
theorem dX7_reads_114 : decode cX7_reads 114 = .ok (.aload_n 0, 1) := by decide +kernel
theorem dX7_reads_115 : decode cX7_reads 115 = .ok (.getfield 16, 3) := by decide +kernel
theorem dX7_reads_118 : decode cX7_reads 118 = .ok (.invokevirtual 199, 3) := by decide +kernel
theorem dX7_reads_121 : decode cX7_reads 121 = .ok (.aload_n 0, 1) := by decide +kernel
theorem dX7_reads_122 : decode cX7_reads 122 = .ok (.getfield 43, 3) := by decide +kernel
theorem dX7_reads_125 : decode cX7_reads 125 = .ok (.getfield 203, 3) := by decide +kernel
theorem dX7_reads_128 : decode cX7_reads 128 = .ok (.ireturn, 1) := by decide +kernel
set_option maxRecDepth 20000 in
theorem ggX7_back_X7_refused : GoodIn wsX7_back wsX7_refused := goodIn_r _ [10, 11, 12, 44, 45, 46, 47, 48, 49, 50] (by decide +kernel) (by decide +kernel)
set_option maxRecDepth 20000 in
theorem gX7_back_X7_refused : GoodIn wsX7_back (wsV RX7 55 RX7 yX7_refused wsX7_refused) := goodIn_app (goodIn_of _ (by decide +kernel)) ggX7_back_X7_refused
set_option maxRecDepth 20000 in
theorem ggX7_back_X2_giveBack : GoodIn wsX7_back wsX2_giveBack := goodIn_r _ [17, 18, 19, 20, 21, 22, 23, 24, 25, 26, 27, 28, 29, 30, 31, 32, 33, 34, 35, 36, 37, 51, 52, 53, 54, 55, 56, 57, 58, 59, 60, 61] (by decide +kernel) (by decide +kernel)
set_option maxRecDepth 20000 in
theorem gX7_back_X2_giveBack : GoodIn wsX7_back (wsV RX7 216 RX2 yX2_giveBack wsX2_giveBack) := goodIn_app (goodIn_of _ (by decide +kernel)) ggX7_back_X2_giveBack
set_option maxRecDepth 20000 in
theorem ggX7_back_X5_forget : GoodIn wsX7_back wsX5_forget := goodIn_r _ [42, 43, 62, 63, 64, 65, 66, 67, 68, 69] (by decide +kernel) (by decide +kernel)
set_option maxRecDepth 20000 in
theorem gX7_back_X5_forget : GoodIn wsX7_back (wsV RX7 219 RX5 yX5_forget wsX5_forget) := goodIn_app (goodIn_of _ (by decide +kernel)) ggX7_back_X5_forget
theorem dX7_back_0 : decode cX7_back 0 = .ok (.aload_n 0, 1) := by decide +kernel
theorem dX7_back_1 : decode cX7_back 1 = .ok (.getfield 22, 3) := by decide +kernel
theorem dX7_back_4 : decode cX7_back 4 = .ok (.getfield 213, 3) := by decide +kernel
theorem dX7_back_7 : decode cX7_back 7 = .ok (.ifCond .ne 10, 3) := by decide +kernel

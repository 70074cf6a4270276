set_option maxRecDepth 20000 in
theorem gX8_would_X8_refuses : GoodIn wsX8_would (wsV RX8 87 RX8 yX8_refuses wsX8_refuses) := goodIn_app (goodIn_of _ (by decide +kernel)) ggX8_would_X8_refuses
theorem dX8_would_0 : decode cX8_would 0 = .ok (.aload_n 0, 1) := by decide +kernel
theorem dX8_would_1 : decode cX8_would 1 = .ok (.iload_n 1, 1) := by decide +kernel
theorem dX8_would_2 : decode cX8_would 2 = .ok (.invokevirtual 112, 3) := by decide +kernel
theorem dX8_would_5 : decode cX8_would 5 = .ok (.ifCond .eq 31, 3) := by decide +kernel
theorem dX8_would_8 : decode cX8_would 8 = .ok (.aload_n 0, 1) := by decide +kernel
theorem dX8_would_9 : decode cX8_would 9 = .ok (.iload_n 2, 1) := by decide +kernel
theorem dX8_would_10 : decode cX8_would 10 = .ok (.invokevirtual 97, 3) := by decide +kernel
theorem dX8_would_13 : decode cX8_would 13 = .ok (.ifCond .eq 23, 3) := by decide +kernel
theorem dX8_would_16 : decode cX8_would 16 = .ok (.iload_n 3, 1) := by decide +kernel
theorem dX8_would_17 : decode cX8_would 17 = .ok (.i2l, 1) := by decide +kernel
theorem dX8_would_18 : decode cX8_would 18 = .ok (.lconst 0, 1) := by decide +kernel
theorem dX8_would_19 : decode cX8_would 19 = .ok (.lconst 1, 1) := by decide +kernel
theorem dX8_would_20 : decode cX8_would 20 = .ok (.invokestatic 38, 3) := by decide +kernel
theorem dX8_would_23 : decode cX8_would 23 = .ok (.ifCond .eq 13, 3) := by decide +kernel
theorem dX8_would_26 : decode cX8_would 26 = .ok (.aload_n 0, 1) := by decide +kernel
theorem dX8_would_27 : decode cX8_would 27 = .ok (.iload_n 1, 1) := by decide +kernel
theorem dX8_would_28 : decode cX8_would 28 = .ok (.iload_n 2, 1) := by decide +kernel
theorem dX8_would_29 : decode cX8_would 29 = .ok (.iload_n 3, 1) := by decide +kernel
theorem dX8_would_30 : decode cX8_would 30 = .ok (.invokevirtual 227, 3) := by decide +kernel
theorem dX8_would_33 : decode cX8_would 33 = .ok (.goto 9, 3) := by decide +kernel
theorem dX8_would_36 : decode cX8_would 36 = .ok (.aload_n 0, 1) := by decide +kernel
theorem dX8_would_37 : decode cX8_would 37 = .ok (.ldc 42, 2) := by decide +kernel
theorem dX8_would_39 : decode cX8_would 39 = .ok (.invokevirtual 87, 3) := by decide +kernel
theorem dX8_would_42 : decode cX8_would 42 = .ok (.ireturn, 1) := by decide +kernel
set_option maxRecDepth 20000 in
theorem ggX8_does_X8_in : GoodIn wsX8_does wsX8_in := goodIn_r _ [6] (by decide +kernel) (by decide +kernel)
set_option maxRecDepth 20000 in
theorem gX8_does_X8_in : GoodIn wsX8_does (va_wsS RX8 38 yX8_in wsX8_in) := goodIn_app (goodIn_of _ (by decide +kernel)) ggX8_does_X8_in
set_option maxRecDepth 20000 in
theorem ggX8_does_X8_isPlace : GoodIn wsX8_does wsX8_isPlace := goodIn_r _ [9, 10, 11, 3, 4, 5, 6] (by decide +kernel) (by decide +kernel)
set_option maxRecDepth 20000 in
theorem gX8_does_X8_isPlace : GoodIn wsX8_does (va_wsS RX8 79 yX8_isPlace wsX8_isPlace) := goodIn_app (goodIn_of _ (by decide +kernel)) ggX8_does_X8_isPlace
set_option maxRecDepth 20000 in
theorem ggX8_does_X8_holds : GoodIn wsX8_does wsX8_holds := goodIn_r _ [14, 15, 16, 5, 17, 18, 19, 20, 21, 22, 23, 24, 25, 26, 27, 28, 29, 30, 31, 32, 33, 34, 35, 36, 37, 38, 39, 40, 41, 42, 43] (by decide +kernel) (by decide +kernel)
set_option maxRecDepth 20000 in
theorem gX8_does_X8_holds : GoodIn wsX8_does (va_wsS RX8 230 yX8_holds wsX8_holds) := goodIn_app (goodIn_of _ (by decide +kernel)) ggX8_does_X8_holds
set_option maxRecDepth 20000 in
theorem ggX8_does_X8_refuses : GoodIn wsX8_does wsX8_refuses := goodIn_r _ [47, 48, 2, 49, 50, 51, 52, 53, 54, 55, 56, 57, 58, 59, 60, 61, 62, 63, 64, 65] (by decide +kernel) (by decide +kernel)
set_option maxRecDepth 20000 in
theorem gX8_does_X8_refuses : GoodIn wsX8_does (wsV RX8 87 RX8 yX8_refuses wsX8_refuses) := goodIn_app (goodIn_of _ (by decide +kernel)) ggX8_does_X8_refuses
theorem dX8_does_0 : decode cX8_does 0 = .ok (.iload_n 1, 1) := by decide +kernel
theorem dX8_does_1 : decode cX8_does 1 = .ok (.i2l, 1) := by decide +kernel
theorem dX8_does_2 : decode cX8_does 2 = .ok (.lconst 0, 1) := by decide +kernel
theorem dX8_does_3 : decode cX8_does 3 = .ok (.ldc2_w 103, 3) := by decide +kernel
theorem dX8_does_6 : decode cX8_does 6 = .ok (.invokestatic 38, 3) := by decide +kernel
theorem dX8_does_9 : decode cX8_does 9 = .ok (.ifCond .eq 34, 3) := by decide +kernel
theorem dX8_does_12 : decode cX8_does 12 = .ok (.iload_n 2, 1) := by decide +kernel
theorem dX8_does_13 : decode cX8_does 13 = .ok (.invokestatic 79, 3) := by decide +kernel
theorem dX8_does_16 : decode cX8_does 16 = .ok (.ifCond .eq 27, 3) := by decide +kernel
theorem dX8_does_19 : decode cX8_does 19 = .ok (.iload_n 3, 1) := by decide +kernel
theorem dX8_does_20 : decode cX8_does 20 = .ok (.invokestatic 79, 3) := by decide +kernel
theorem dX8_does_23 : decode cX8_does 23 = .ok (.ifCond .eq 20, 3) := by decide +kernel
theorem dX8_does_26 : decode cX8_does 26 = .ok (.iload_n 1, 1) := by decide +kernel
theorem dX8_does_27 : decode cX8_does 27 = .ok (.iconst 3, 1) := by decide +kernel
theorem dX8_does_28 : decode cX8_does 28 = .ok (.if_icmp .ge 11, 3) := by decide +kernel
theorem dX8_does_31 : decode cX8_does 31 = .ok (.iload 4, 2) := by decide +kernel
theorem dX8_does_33 : decode cX8_does 33 = .ok (.invokestatic 79, 3) := by decide +kernel
theorem dX8_does_36 : decode cX8_does 36 = .ok (.ifCond .eq 7, 3) := by decide +kernel
theorem dX8_does_39 : decode cX8_does 39 = .ok (.iconst 1, 1) := by decide +kernel
theorem dX8_does_40 : decode cX8_does 40 = .ok (.goto 4, 3) := by decide +kernel
theorem dX8_does_43 : decode cX8_does 43 = .ok (.iconst 0, 1) := by decide +kernel
theorem dX8_does_44 : decode cX8_does 44 = .ok (.istore 5, 2) := by decide +kernel
theorem dX8_does_46 : decode cX8_does 46 = .ok (.iload 5, 2) := by decide +kernel
theorem dX8_does_48 : decode cX8_does 48 = .ok (.ifCond .eq 22, 3) := by decide +kernel
theorem dX8_does_51 : decode cX8_does 51 = .ok (.iload_n 1, 1) := by decide +kernel
theorem dX8_does_52 : decode cX8_does 52 = .ok (.iload_n 2, 1) := by decide +kernel
theorem dX8_does_53 : decode cX8_does 53 = .ok (.iload_n 3, 1) := by decide +kernel
theorem dX8_does_54 : decode cX8_does 54 = .ok (.iload 4, 2) := by decide +kernel
theorem dX8_does_56 : decode cX8_does 56 = .ok (.invokestatic 230, 3) := by decide +kernel
theorem dX8_does_59 : decode cX8_does 59 = .ok (.ifCond .eq 7, 3) := by decide +kernel
theorem dX8_does_62 : decode cX8_does 62 = .ok (.iconst 1, 1) := by decide +kernel
theorem dX8_does_63 : decode cX8_does 63 = .ok (.goto 13, 3) := by decide +kernel
theorem dX8_does_66 : decode cX8_does 66 = .ok (.iconst 0, 1) := by decide +kernel
theorem dX8_does_67 : decode cX8_does 67 = .ok (.goto 9, 3) := by decide +kernel
theorem dX8_does_70 : decode cX8_does 70 = .ok (.aload_n 0, 1) := by decide +kernel
theorem dX8_does_71 : decode cX8_does 71 = .ok (.ldc 42, 2) := by decide +kernel
theorem dX8_does_73 : decode cX8_does 73 = .ok (.invokevirtual 87, 3) := by decide +kernel
theorem dX8_does_76 : decode cX8_does 76 = .ok (.ireturn, 1) := by decide +kernel
theorem dX8_puts_0 : decode cX8_puts 0 = .ok (.iconst 0, 1) := by decide +kernel
theorem dX8_puts_1 : decode cX8_puts 1 = .ok (.istore 4, 2) := by decide +kernel
theorem dX8_puts_3 : decode cX8_puts 3 = .ok (.iload 4, 2) := by decide +kernel
theorem dX8_puts_5 : decode cX8_puts 5 = .ok (.bipush 12, 2) := by decide +kernel
theorem dX8_puts_7 : decode cX8_puts 7 = .ok (.if_icmp .ge 31, 3) := by decide +kernel
theorem dX8_puts_10 : decode cX8_puts 10 = .ok (.aload_n 0, 1) := by decide +kernel
theorem dX8_puts_11 : decode cX8_puts 11 = .ok (.getfield 22, 3) := by decide +kernel
theorem dX8_puts_14 : decode cX8_puts 14 = .ok (.bipush 12, 2) := by decide +kernel
theorem dX8_puts_16 : decode cX8_puts 16 = .ok (.aload_n 0, 1) := by decide +kernel
theorem dX8_puts_17 : decode cX8_puts 17 = .ok (.getfield 234, 3) := by decide +kernel
theorem dX8_puts_20 : decode cX8_puts 20 = .ok (.imul, 1) := by decide +kernel
theorem dX8_puts_21 : decode cX8_puts 21 = .ok (.iload 4, 2) := by decide +kernel
theorem dX8_puts_23 : decode cX8_puts 23 = .ok (.iadd, 1) := by decide +kernel
theorem dX8_puts_24 : decode cX8_puts 24 = .ok (.aload_n 0, 1) := by decide +kernel
theorem dX8_puts_25 : decode cX8_puts 25 = .ok (.getfield 19, 3) := by decide +kernel
theorem dX8_puts_28 : decode cX8_puts 28 = .ok (.iload 4, 2) := by decide +kernel
theorem dX8_puts_30 : decode cX8_puts 30 = .ok (.iaload, 1) := by decide +kernel
theorem dX8_puts_31 : decode cX8_puts 31 = .ok (.iastore, 1) := by decide +kernel
theorem dX8_puts_32 : decode cX8_puts 32 = .ok (.iinc 4 1, 3) := by decide +kernel
theorem dX8_puts_35 : decode cX8_puts 35 = .ok (.goto (-32), 3) := by decide +kernel
theorem dX8_puts_38 : decode cX8_puts 38 = .ok (.iload_n 1, 1) := by decide +kernel
theorem dX8_puts_39 : decode cX8_puts 39 = .ok (.ifCond .lt 39, 3) := by decide +kernel
theorem dX8_puts_42 : decode cX8_puts 42 = .ok (.aload_n 0, 1) := by decide +kernel
theorem dX8_puts_43 : decode cX8_puts 43 = .ok (.getfield 22, 3) := by decide +kernel
theorem dX8_puts_46 : decode cX8_puts 46 = .ok (.bipush 12, 2) := by decide +kernel
theorem dX8_puts_48 : decode cX8_puts 48 = .ok (.aload_n 0, 1) := by decide +kernel
theorem dX8_puts_49 : decode cX8_puts 49 = .ok (.getfield 234, 3) := by decide +kernel
theorem dX8_puts_52 : decode cX8_puts 52 = .ok (.imul, 1) := by decide +kernel
theorem dX8_puts_53 : decode cX8_puts 53 = .ok (.iconst 2, 1) := by decide +kernel
theorem dX8_puts_54 : decode cX8_puts 54 = .ok (.iload_n 1, 1) := by decide +kernel
theorem dX8_puts_55 : decode cX8_puts 55 = .ok (.imul, 1) := by decide +kernel
theorem dX8_puts_56 : decode cX8_puts 56 = .ok (.iadd, 1) := by decide +kernel
theorem dX8_puts_57 : decode cX8_puts 57 = .ok (.iload_n 2, 1) := by decide +kernel
theorem dX8_puts_58 : decode cX8_puts 58 = .ok (.iastore, 1) := by decide +kernel
theorem dX8_puts_59 : decode cX8_puts 59 = .ok (.aload_n 0, 1) := by decide +kernel
theorem dX8_puts_60 : decode cX8_puts 60 = .ok (.getfield 22, 3) := by decide +kernel
theorem dX8_puts_63 : decode cX8_puts 63 = .ok (.bipush 12, 2) := by decide +kernel
theorem dX8_puts_65 : decode cX8_puts 65 = .ok (.aload_n 0, 1) := by decide +kernel
theorem dX8_puts_66 : decode cX8_puts 66 = .ok (.getfield 234, 3) := by decide +kernel
theorem dX8_puts_69 : decode cX8_puts 69 = .ok (.imul, 1) := by decide +kernel
theorem dX8_puts_70 : decode cX8_puts 70 = .ok (.iconst 2, 1) := by decide +kernel
theorem dX8_puts_71 : decode cX8_puts 71 = .ok (.iload_n 1, 1) := by decide +kernel
theorem dX8_puts_72 : decode cX8_puts 72 = .ok (.imul, 1) := by decide +kernel
theorem dX8_puts_73 : decode cX8_puts 73 = .ok (.iadd, 1) := by decide +kernel
theorem dX8_puts_74 : decode cX8_puts 74 = .ok (.iconst 1, 1) := by decide +kernel
theorem dX8_puts_75 : decode cX8_puts 75 = .ok (.iadd, 1) := by decide +kernel
theorem dX8_puts_76 : decode cX8_puts 76 = .ok (.iload_n 3, 1) := by decide +kernel
theorem dX8_puts_77 : decode cX8_puts 77 = .ok (.iastore, 1) := by decide +kernel
theorem dX8_puts_78 : decode cX8_puts 78 = .ok (.aload_n 0, 1) := by decide +kernel
theorem dX8_puts_79 : decode cX8_puts 79 = .ok (.dup, 1) := by decide +kernel
theorem dX8_puts_80 : decode cX8_puts 80 = .ok (.getfield 234, 3) := by decide +kernel
theorem dX8_puts_83 : decode cX8_puts 83 = .ok (.iconst 1, 1) := by decide +kernel
theorem dX8_puts_84 : decode cX8_puts 84 = .ok (.iadd, 1) := by decide +kernel
theorem dX8_puts_85 : decode cX8_puts 85 = .ok (.putfield 234, 3) := by decide +kernel
theorem dX8_puts_88 : decode cX8_puts 88 = .ok (.return_, 1) := by decide +kernel
set_option maxRecDepth 20000 in
theorem ggX8_allHold_X8_rules : GoodIn wsX8_allHold wsX8_rules := goodIn_r _ [5, 6, 48, 49, 50, 51, 52, 53, 54, 55, 56, 57, 58, 59, 60, 61, 62, 63, 64] (by decide +kernel) (by decide +kernel)
set_option maxRecDepth 20000 in
theorem gX8_allHold_X8_rules : GoodIn wsX8_allHold (wsV RX8 51 RX8 yX8_rules wsX8_rules) := goodIn_app (goodIn_of _ (by decide +kernel)) ggX8_allHold_X8_rules
set_option maxRecDepth 20000 in
theorem ggX8_allHold_X8_ruleAt : GoodIn wsX8_allHold wsX8_ruleAt := goodIn_r _ [10, 6, 48, 49, 50, 51, 52, 53, 54, 55, 56, 57, 58, 59, 60, 61, 62, 63, 64] (by decide +kernel) (by decide +kernel)
set_option maxRecDepth 20000 in
theorem gX8_allHold_X8_ruleAt : GoodIn wsX8_allHold (wsV RX8 100 RX8 yX8_ruleAt wsX8_ruleAt) := goodIn_app (goodIn_of _ (by decide +kernel)) ggX8_allHold_X8_ruleAt
set_option maxRecDepth 20000 in
theorem ggX8_allHold_X8_low : GoodIn wsX8_allHold wsX8_low := goodIn_r _ [14, 15, 48, 49, 50, 51, 52, 53, 54, 55, 56, 57, 58, 59, 60, 61, 62, 63, 64] (by decide +kernel) (by decide +kernel)
set_option maxRecDepth 20000 in
theorem gX8_allHold_X8_low : GoodIn wsX8_allHold (wsV RX8 128 RX8 yX8_low wsX8_low) := goodIn_app (goodIn_of _ (by decide +kernel)) ggX8_allHold_X8_low
set_option maxRecDepth 20000 in
theorem ggX8_allHold_X8_holds : GoodIn wsX8_allHold wsX8_holds := goodIn_r _ [18, 19, 20, 4, 21, 22, 23, 24, 25, 26, 27, 28, 29, 30, 31, 32, 33, 34, 35, 36, 37, 38, 39, 40, 41, 42, 43, 44, 45, 46, 47] (by decide +kernel) (by decide +kernel)
set_option maxRecDepth 20000 in
theorem gX8_allHold_X8_holds : GoodIn wsX8_allHold (va_wsS RX8 230 yX8_holds wsX8_holds) := goodIn_app (goodIn_of _ (by decide +kernel)) ggX8_allHold_X8_holds
theorem dX8_allHold_0 : decode cX8_allHold 0 = .ok (.iconst 1, 1) := by decide +kernel
theorem dX8_allHold_1 : decode cX8_allHold 1 = .ok (.istore_n 1, 1) := by decide +kernel
theorem dX8_allHold_2 : decode cX8_allHold 2 = .ok (.iconst 0, 1) := by decide +kernel
theorem dX8_allHold_3 : decode cX8_allHold 3 = .ok (.istore_n 2, 1) := by decide +kernel
theorem dX8_allHold_4 : decode cX8_allHold 4 = .ok (.iload_n 2, 1) := by decide +kernel
theorem dX8_allHold_5 : decode cX8_allHold 5 = .ok (.aload_n 0, 1) := by decide +kernel
theorem dX8_allHold_6 : decode cX8_allHold 6 = .ok (.invokevirtual 51, 3) := by decide +kernel
theorem dX8_allHold_9 : decode cX8_allHold 9 = .ok (.if_icmp .ge 61, 3) := by decide +kernel
theorem dX8_allHold_12 : decode cX8_allHold 12 = .ok (.iload_n 1, 1) := by decide +kernel
theorem dX8_allHold_13 : decode cX8_allHold 13 = .ok (.ifCond .eq 49, 3) := by decide +kernel
theorem dX8_allHold_16 : decode cX8_allHold 16 = .ok (.aload_n 0, 1) := by decide +kernel
theorem dX8_allHold_17 : decode cX8_allHold 17 = .ok (.iload_n 2, 1) := by decide +kernel
theorem dX8_allHold_18 : decode cX8_allHold 18 = .ok (.iconst 0, 1) := by decide +kernel
theorem dX8_allHold_19 : decode cX8_allHold 19 = .ok (.invokevirtual 100, 3) := by decide +kernel
theorem dX8_allHold_22 : decode cX8_allHold 22 = .ok (.aload_n 0, 1) := by decide +kernel
theorem dX8_allHold_23 : decode cX8_allHold 23 = .ok (.aload_n 0, 1) := by decide +kernel
theorem dX8_allHold_24 : decode cX8_allHold 24 = .ok (.iload_n 2, 1) := by decide +kernel
theorem dX8_allHold_25 : decode cX8_allHold 25 = .ok (.iconst 1, 1) := by decide +kernel
theorem dX8_allHold_26 : decode cX8_allHold 26 = .ok (.invokevirtual 100, 3) := by decide +kernel
theorem dX8_allHold_29 : decode cX8_allHold 29 = .ok (.invokevirtual 128, 3) := by decide +kernel
theorem dX8_allHold_32 : decode cX8_allHold 32 = .ok (.aload_n 0, 1) := by decide +kernel
theorem dX8_allHold_33 : decode cX8_allHold 33 = .ok (.aload_n 0, 1) := by decide +kernel
theorem dX8_allHold_34 : decode cX8_allHold 34 = .ok (.iload_n 2, 1) := by decide +kernel
theorem dX8_allHold_35 : decode cX8_allHold 35 = .ok (.iconst 2, 1) := by decide +kernel
theorem dX8_allHold_36 : decode cX8_allHold 36 = .ok (.invokevirtual 100, 3) := by decide +kernel
theorem dX8_allHold_39 : decode cX8_allHold 39 = .ok (.invokevirtual 128, 3) := by decide +kernel
theorem dX8_allHold_42 : decode cX8_allHold 42 = .ok (.aload_n 0, 1) := by decide +kernel
theorem dX8_allHold_43 : decode cX8_allHold 43 = .ok (.aload_n 0, 1) := by decide +kernel
theorem dX8_allHold_44 : decode cX8_allHold 44 = .ok (.iload_n 2, 1) := by decide +kernel
theorem dX8_allHold_45 : decode cX8_allHold 45 = .ok (.iconst 3, 1) := by decide +kernel
theorem dX8_allHold_46 : decode cX8_allHold 46 = .ok (.invokevirtual 100, 3) := by decide +kernel
theorem dX8_allHold_49 : decode cX8_allHold 49 = .ok (.invokevirtual 128, 3) := by decide +kernel
theorem dX8_allHold_52 : decode cX8_allHold 52 = .ok (.invokestatic 230, 3) := by decide +kernel
theorem dX8_allHold_55 : decode cX8_allHold 55 = .ok (.ifCond .eq 7, 3) := by decide +kernel
theorem dX8_allHold_58 : decode cX8_allHold 58 = .ok (.iconst 1, 1) := by decide +kernel
theorem dX8_allHold_59 : decode cX8_allHold 59 = .ok (.goto 4, 3) := by decide +kernel
theorem dX8_allHold_62 : decode cX8_allHold 62 = .ok (.iconst 0, 1) := by decide +kernel
theorem dX8_allHold_63 : decode cX8_allHold 63 = .ok (.istore_n 1, 1) := by decide +kernel
theorem dX8_allHold_64 : decode cX8_allHold 64 = .ok (.iinc 2 1, 3) := by decide +kernel
theorem dX8_allHold_67 : decode cX8_allHold 67 = .ok (.goto (-63), 3) := by decide +kernel
theorem dX8_allHold_70 : decode cX8_allHold 70 = .ok (.iload_n 1, 1) := by decide +kernel
theorem dX8_allHold_71 : decode cX8_allHold 71 = .ok (.ireturn, 1) := by decide +kernel
set_option maxRecDepth 20000 in
theorem ggX8_widest_X8_unknowns : GoodIn wsX8_widest wsX8_unknowns := goodIn_r _ [5, 6, 16, 17, 18, 19, 20, 21, 22, 23, 24, 25, 26, 27, 28, 29, 30, 31, 32] (by decide +kernel) (by decide +kernel)
set_option maxRecDepth 20000 in
theorem gX8_widest_X8_unknowns : GoodIn wsX8_widest (wsV RX8 47 RX8 yX8_unknowns wsX8_unknowns) := goodIn_app (goodIn_of _ (by decide +kernel)) ggX8_widest_X8_unknowns
set_option maxRecDepth 20000 in
theorem ggX8_widest_X8_high : GoodIn wsX8_widest wsX8_high := goodIn_r _ [10, 11, 16, 17, 18, 19, 20, 21, 22, 23, 24, 25, 26, 27, 28, 29, 30, 31, 32] (by decide +kernel) (by decide +kernel)
set_option maxRecDepth 20000 in
theorem gX8_widest_X8_high : GoodIn wsX8_widest (wsV RX8 131 RX8 yX8_high wsX8_high) := goodIn_app (goodIn_of _ (by decide +kernel)) ggX8_widest_X8_high
set_option maxRecDepth 20000 in
theorem ggX8_widest_X8_low : GoodIn wsX8_widest wsX8_low := goodIn_r _ [15, 11, 16, 17, 18, 19, 20, 21, 22, 23, 24, 25, 26, 27, 28, 29, 30, 31, 32] (by decide +kernel) (by decide +kernel)
set_option maxRecDepth 20000 in
theorem gX8_widest_X8_low : GoodIn wsX8_widest (wsV RX8 128 RX8 yX8_low wsX8_low) := goodIn_app (goodIn_of _ (by decide +kernel)) ggX8_widest_X8_low
theorem dX8_widest_0 : decode cX8_widest 0 = .ok (.iconst (-1), 1) := by decide +kernel
theorem dX8_widest_1 : decode cX8_widest 1 = .ok (.istore_n 1, 1) := by decide +kernel
theorem dX8_widest_2 : decode cX8_widest 2 = .ok (.lconst 0, 1) := by decide +kernel
theorem dX8_widest_3 : decode cX8_widest 3 = .ok (.lstore_n 2, 1) := by decide +kernel
theorem dX8_widest_4 : decode cX8_widest 4 = .ok (.iconst 0, 1) := by decide +kernel
theorem dX8_widest_5 : decode cX8_widest 5 = .ok (.istore 4, 2) := by decide +kernel
theorem dX8_widest_7 : decode cX8_widest 7 = .ok (.iload 4, 2) := by decide +kernel
theorem dX8_widest_9 : decode cX8_widest 9 = .ok (.aload_n 0, 1) := by decide +kernel
theorem dX8_widest_10 : decode cX8_widest 10 = .ok (.invokevirtual 47, 3) := by decide +kernel
theorem dX8_widest_13 : decode cX8_widest 13 = .ok (.if_icmp .ge 54, 3) := by decide +kernel
theorem dX8_widest_16 : decode cX8_widest 16 = .ok (.aload_n 0, 1) := by decide +kernel
theorem dX8_widest_17 : decode cX8_widest 17 = .ok (.iload 4, 2) := by decide +kernel
theorem dX8_widest_19 : decode cX8_widest 19 = .ok (.invokevirtual 131, 3) := by decide +kernel
theorem dX8_widest_22 : decode cX8_widest 22 = .ok (.i2l, 1) := by decide +kernel
theorem dX8_widest_23 : decode cX8_widest 23 = .ok (.aload_n 0, 1) := by decide +kernel
theorem dX8_widest_24 : decode cX8_widest 24 = .ok (.iload 4, 2) := by decide +kernel
theorem dX8_widest_26 : decode cX8_widest 26 = .ok (.invokevirtual 128, 3) := by decide +kernel
theorem dX8_widest_29 : decode cX8_widest 29 = .ok (.i2l, 1) := by decide +kernel
theorem dX8_widest_30 : decode cX8_widest 30 = .ok (.lsub, 1) := by decide +kernel
theorem dX8_widest_31 : decode cX8_widest 31 = .ok (.lstore 5, 2) := by decide +kernel
theorem dX8_widest_33 : decode cX8_widest 33 = .ok (.lload 5, 2) := by decide +kernel
theorem dX8_widest_35 : decode cX8_widest 35 = .ok (.lload_n 2, 1) := by decide +kernel
theorem dX8_widest_36 : decode cX8_widest 36 = .ok (.lcmp, 1) := by decide +kernel
theorem dX8_widest_37 : decode cX8_widest 37 = .ok (.ifCond .le 8, 3) := by decide +kernel
theorem dX8_widest_40 : decode cX8_widest 40 = .ok (.iload 4, 2) := by decide +kernel
theorem dX8_widest_42 : decode cX8_widest 42 = .ok (.goto 4, 3) := by decide +kernel
theorem dX8_widest_45 : decode cX8_widest 45 = .ok (.iload_n 1, 1) := by decide +kernel
theorem dX8_widest_46 : decode cX8_widest 46 = .ok (.istore_n 1, 1) := by decide +kernel
theorem dX8_widest_47 : decode cX8_widest 47 = .ok (.lload 5, 2) := by decide +kernel
theorem dX8_widest_49 : decode cX8_widest 49 = .ok (.lload_n 2, 1) := by decide +kernel
theorem dX8_widest_50 : decode cX8_widest 50 = .ok (.lcmp, 1) := by decide +kernel
theorem dX8_widest_51 : decode cX8_widest 51 = .ok (.ifCond .le 8, 3) := by decide +kernel
theorem dX8_widest_54 : decode cX8_widest 54 = .ok (.lload 5, 2) := by decide +kernel
theorem dX8_widest_56 : decode cX8_widest 56 = .ok (.goto 4, 3) := by decide +kernel
theorem dX8_widest_59 : decode cX8_widest 59 = .ok (.lload_n 2, 1) := by decide +kernel
theorem dX8_widest_60 : decode cX8_widest 60 = .ok (.lstore_n 2, 1) := by decide +kernel
theorem dX8_widest_61 : decode cX8_widest 61 = .ok (.iinc 4 1, 3) := by decide +kernel
theorem dX8_widest_64 : decode cX8_widest 64 = .ok (.goto (-57), 3) := by decide +kernel
theorem dX8_widest_67 : decode cX8_widest 67 = .ok (.iload_n 1, 1) := by decide +kernel
theorem dX8_widest_68 : decode cX8_widest 68 = .ok (.ireturn, 1) := by decide +kernel
set_option maxRecDepth 20000 in
theorem ggX8_takesBox_X8_cutsAll : GoodIn wsX8_takesBox wsX8_cutsAll := goodIn_r _ [11, 12, 5, 13, 14, 15, 10, 16, 17, 18, 19, 20, 21, 22, 23, 24, 25, 26, 27, 28, 29, 30, 31, 32, 33, 3, 34, 35, 36, 37, 38, 39, 40, 41, 42, 43, 44, 45, 46, 47, 48, 49, 50, 51, 52, 53, 54, 55, 56, 57, 58, 59, 60, 61, 62, 63, 64, 65, 66, 67, 68, 69, 70, 71, 72, 73, 74, 75, 76, 77, 78, 79, 80, 81, 82, 83, 84, 85, 86, 87, 88, 89, 90, 91, 92, 93, 94, 95, 96, 97, 98, 99, 100, 101, 102, 103, 104, 105, 106, 107, 108, 109, 110, 111, 112, 113, 114, 115, 116, 117, 118, 119, 120, 121, 122, 123, 124, 125, 126, 127, 128, 129, 130, 131, 132, 133, 134, 135, 155, 156, 157, 158, 159, 160, 161, 162, 163, 164, 165, 166, 167, 168, 169, 170, 171] (by decide +kernel) (by decide +kernel)
set_option maxRecDepth 20000 in
theorem gX8_takesBox_X8_cutsAll : GoodIn wsX8_takesBox (wsV RX8 218 RX8 yX8_cutsAll wsX8_cutsAll) := goodIn_app (goodIn_of _ (by decide +kernel)) ggX8_takesBox_X8_cutsAll
set_option maxRecDepth 20000 in
theorem ggX8_takesBox_X8_widest : GoodIn wsX8_takesBox wsX8_widest := goodIn_r _ [139, 140, 141, 142, 10, 143, 17, 60, 61, 62, 63, 3, 30, 31, 32, 33, 155, 156, 157, 158, 159, 160, 161, 162, 163, 164, 165, 166, 167, 168, 169, 170, 171] (by decide +kernel) (by decide +kernel)
set_option maxRecDepth 20000 in
theorem gX8_takesBox_X8_widest : GoodIn wsX8_takesBox (wsV RX8 240 RX8 yX8_widest wsX8_widest) := goodIn_app (goodIn_of _ (by decide +kernel)) ggX8_takesBox_X8_widest
set_option maxRecDepth 20000 in
theorem ggX8_takesBox_X8_allHold : GoodIn wsX8_takesBox wsX8_allHold := goodIn_r _ [147, 13, 14, 15, 10, 16, 17, 22, 23, 24, 25, 30, 31, 32, 33, 3, 148, 149, 150, 34, 35, 36, 37, 38, 39, 40, 41, 42, 43, 44, 45, 46, 47, 48, 49, 50, 51, 52, 53, 54, 55, 56, 57, 58, 59, 85, 86, 87, 155, 156, 157, 158, 159, 160, 161, 162, 163, 164, 165, 166, 167, 168, 169, 170, 171] (by decide +kernel) (by decide +kernel)
set_option maxRecDepth 20000 in
theorem gX8_takesBox_X8_allHold : GoodIn wsX8_takesBox (wsV RX8 243 RX8 yX8_allHold wsX8_allHold) := goodIn_app (goodIn_of _ (by decide +kernel)) ggX8_takesBox_X8_allHold
set_option maxRecDepth 20000 in
theorem ggX8_takesBox_X8_low : GoodIn wsX8_takesBox wsX8_low := goodIn_r _ [33, 3, 155, 156, 157, 158, 159, 160, 161, 162, 163, 164, 165, 166, 167, 168, 169, 170, 171] (by decide +kernel) (by decide +kernel)
set_option maxRecDepth 20000 in
theorem gX8_takesBox_X8_low : GoodIn wsX8_takesBox (wsV RX8 128 RX8 yX8_low wsX8_low) := goodIn_app (goodIn_of _ (by decide +kernel)) ggX8_takesBox_X8_low
set_option maxRecDepth 20000 in
theorem ggX8_takesBox_X8_high : GoodIn wsX8_takesBox wsX8_high := goodIn_r _ [63, 3, 155, 156, 157, 158, 159, 160, 161, 162, 163, 164, 165, 166, 167, 168, 169, 170, 171] (by decide +kernel) (by decide +kernel)
set_option maxRecDepth 20000 in
theorem gX8_takesBox_X8_high : GoodIn wsX8_takesBox (wsV RX8 131 RX8 yX8_high wsX8_high) := goodIn_app (goodIn_of _ (by decide +kernel)) ggX8_takesBox_X8_high
set_option maxRecDepth 20000 in
theorem ggX8_takesBox_X8_floorHalf : GoodIn wsX8_takesBox wsX8_floorHalf := goodIn_r _ [77, 78] (by decide +kernel) (by decide +kernel)
set_option maxRecDepth 20000 in
theorem gX8_takesBox_X8_floorHalf : GoodIn wsX8_takesBox (va_wsS RX8 141 yX8_floorHalf wsX8_floorHalf) := goodIn_app (goodIn_of _ (by decide +kernel)) ggX8_takesBox_X8_floorHalf
set_option maxRecDepth 20000 in
theorem ggX8_takesBox_X8_puts : GoodIn wsX8_takesBox wsX8_puts := goodIn_r _ [154, 4, 1, 3, 155, 156, 157, 158, 159, 160, 161, 162, 163, 164, 165, 166, 167, 168, 169, 170, 171] (by decide +kernel) (by decide +kernel)
set_option maxRecDepth 20000 in
theorem gX8_takesBox_X8_puts : GoodIn wsX8_takesBox (wsV RX8 250 RX8 yX8_puts wsX8_puts) := goodIn_app (goodIn_of _ (by decide +kernel)) ggX8_takesBox_X8_puts
theorem dX8_takesBox_0 : decode cX8_takesBox 0 = .ok (.aload_n 0, 1) := by decide +kernel
theorem dX8_takesBox_1 : decode cX8_takesBox 1 = .ok (.dup, 1) := by decide +kernel
theorem dX8_takesBox_2 : decode cX8_takesBox 2 = .ok (.getfield 234, 3) := by decide +kernel
theorem dX8_takesBox_5 : decode cX8_takesBox 5 = .ok (.iconst 1, 1) := by decide +kernel
theorem dX8_takesBox_6 : decode cX8_takesBox 6 = .ok (.isub, 1) := by decide +kernel
theorem dX8_takesBox_7 : decode cX8_takesBox 7 = .ok (.putfield 234, 3) := by decide +kernel
theorem dX8_takesBox_10 : decode cX8_takesBox 10 = .ok (.aload_n 0, 1) := by decide +kernel
theorem dX8_takesBox_11 : decode cX8_takesBox 11 = .ok (.dup, 1) := by decide +kernel
theorem dX8_takesBox_12 : decode cX8_takesBox 12 = .ok (.getfield 237, 3) := by decide +kernel
theorem dX8_takesBox_15 : decode cX8_takesBox 15 = .ok (.iconst 1, 1) := by decide +kernel
theorem dX8_takesBox_16 : decode cX8_takesBox 16 = .ok (.iadd, 1) := by decide +kernel
theorem dX8_takesBox_17 : decode cX8_takesBox 17 = .ok (.putfield 237, 3) := by decide +kernel
theorem dX8_takesBox_20 : decode cX8_takesBox 20 = .ok (.iconst 0, 1) := by decide +kernel
theorem dX8_takesBox_21 : decode cX8_takesBox 21 = .ok (.istore_n 1, 1) := by decide +kernel
theorem dX8_takesBox_22 : decode cX8_takesBox 22 = .ok (.iload_n 1, 1) := by decide +kernel
theorem dX8_takesBox_23 : decode cX8_takesBox 23 = .ok (.bipush 12, 2) := by decide +kernel
theorem dX8_takesBox_25 : decode cX8_takesBox 25 = .ok (.if_icmp .ge 29, 3) := by decide +kernel
theorem dX8_takesBox_28 : decode cX8_takesBox 28 = .ok (.aload_n 0, 1) := by decide +kernel
theorem dX8_takesBox_29 : decode cX8_takesBox 29 = .ok (.getfield 19, 3) := by decide +kernel
theorem dX8_takesBox_32 : decode cX8_takesBox 32 = .ok (.iload_n 1, 1) := by decide +kernel
theorem dX8_takesBox_33 : decode cX8_takesBox 33 = .ok (.aload_n 0, 1) := by decide +kernel
theorem dX8_takesBox_34 : decode cX8_takesBox 34 = .ok (.getfield 22, 3) := by decide +kernel
theorem dX8_takesBox_37 : decode cX8_takesBox 37 = .ok (.bipush 12, 2) := by decide +kernel
theorem dX8_takesBox_39 : decode cX8_takesBox 39 = .ok (.aload_n 0, 1) := by decide +kernel
theorem dX8_takesBox_40 : decode cX8_takesBox 40 = .ok (.getfield 234, 3) := by decide +kernel
theorem dX8_takesBox_43 : decode cX8_takesBox 43 = .ok (.imul, 1) := by decide +kernel
theorem dX8_takesBox_44 : decode cX8_takesBox 44 = .ok (.iload_n 1, 1) := by decide +kernel
theorem dX8_takesBox_45 : decode cX8_takesBox 45 = .ok (.iadd, 1) := by decide +kernel
theorem dX8_takesBox_46 : decode cX8_takesBox 46 = .ok (.iaload, 1) := by decide +kernel
theorem dX8_takesBox_47 : decode cX8_takesBox 47 = .ok (.iastore, 1) := by decide +kernel
theorem dX8_takesBox_48 : decode cX8_takesBox 48 = .ok (.iinc 1 1, 3) := by decide +kernel
theorem dX8_takesBox_51 : decode cX8_takesBox 51 = .ok (.goto (-29), 3) := by decide +kernel
theorem dX8_takesBox_54 : decode cX8_takesBox 54 = .ok (.aload_n 0, 1) := by decide +kernel
theorem dX8_takesBox_55 : decode cX8_takesBox 55 = .ok (.iconst 0, 1) := by decide +kernel
theorem dX8_takesBox_56 : decode cX8_takesBox 56 = .ok (.putfield 124, 3) := by decide +kernel
theorem dX8_takesBox_59 : decode cX8_takesBox 59 = .ok (.aload_n 0, 1) := by decide +kernel
theorem dX8_takesBox_60 : decode cX8_takesBox 60 = .ok (.invokevirtual 218, 3) := by decide +kernel
theorem dX8_takesBox_63 : decode cX8_takesBox 63 = .ok (.istore_n 1, 1) := by decide +kernel
theorem dX8_takesBox_64 : decode cX8_takesBox 64 = .ok (.aload_n 0, 1) := by decide +kernel
theorem dX8_takesBox_65 : decode cX8_takesBox 65 = .ok (.getfield 124, 3) := by decide +kernel
theorem dX8_takesBox_68 : decode cX8_takesBox 68 = .ok (.ifCond .eq 4, 3) := by decide +kernel
theorem dX8_takesBox_71 : decode cX8_takesBox 71 = .ok (.return_, 1) := by decide +kernel
theorem dX8_takesBox_72 : decode cX8_takesBox 72 = .ok (.aload_n 0, 1) := by decide +kernel
theorem dX8_takesBox_73 : decode cX8_takesBox 73 = .ok (.invokevirtual 240, 3) := by decide +kernel
theorem dX8_takesBox_76 : decode cX8_takesBox 76 = .ok (.istore_n 2, 1) := by decide +kernel
theorem dX8_takesBox_77 : decode cX8_takesBox 77 = .ok (.iload_n 2, 1) := by decide +kernel
theorem dX8_takesBox_78 : decode cX8_takesBox 78 = .ok (.ifCond .ge 12, 3) := by decide +kernel
theorem dX8_takesBox_81 : decode cX8_takesBox 81 = .ok (.aload_n 0, 1) := by decide +kernel
theorem dX8_takesBox_82 : decode cX8_takesBox 82 = .ok (.aload_n 0, 1) := by decide +kernel
theorem dX8_takesBox_83 : decode cX8_takesBox 83 = .ok (.invokevirtual 243, 3) := by decide +kernel
theorem dX8_takesBox_86 : decode cX8_takesBox 86 = .ok (.putfield 247, 3) := by decide +kernel
theorem dX8_takesBox_89 : decode cX8_takesBox 89 = .ok (.return_, 1) := by decide +kernel
theorem dX8_takesBox_90 : decode cX8_takesBox 90 = .ok (.aload_n 0, 1) := by decide +kernel
theorem dX8_takesBox_91 : decode cX8_takesBox 91 = .ok (.iload_n 2, 1) := by decide +kernel
theorem dX8_takesBox_92 : decode cX8_takesBox 92 = .ok (.invokevirtual 128, 3) := by decide +kernel
theorem dX8_takesBox_95 : decode cX8_takesBox 95 = .ok (.istore_n 3, 1) := by decide +kernel
theorem dX8_takesBox_96 : decode cX8_takesBox 96 = .ok (.aload_n 0, 1) := by decide +kernel
theorem dX8_takesBox_97 : decode cX8_takesBox 97 = .ok (.iload_n 2, 1) := by decide +kernel
theorem dX8_takesBox_98 : decode cX8_takesBox 98 = .ok (.invokevirtual 131, 3) := by decide +kernel
theorem dX8_takesBox_101 : decode cX8_takesBox 101 = .ok (.istore 4, 2) := by decide +kernel
theorem dX8_takesBox_103 : decode cX8_takesBox 103 = .ok (.iload_n 3, 1) := by decide +kernel
theorem dX8_takesBox_104 : decode cX8_takesBox 104 = .ok (.i2l, 1) := by decide +kernel
theorem dX8_takesBox_105 : decode cX8_takesBox 105 = .ok (.iload 4, 2) := by decide +kernel
theorem dX8_takesBox_107 : decode cX8_takesBox 107 = .ok (.i2l, 1) := by decide +kernel
theorem dX8_takesBox_108 : decode cX8_takesBox 108 = .ok (.ladd, 1) := by decide +kernel
theorem dX8_takesBox_109 : decode cX8_takesBox 109 = .ok (.invokestatic 141, 3) := by decide +kernel
theorem dX8_takesBox_112 : decode cX8_takesBox 112 = .ok (.l2i, 1) := by decide +kernel
theorem dX8_takesBox_113 : decode cX8_takesBox 113 = .ok (.istore 5, 2) := by decide +kernel
theorem dX8_takesBox_115 : decode cX8_takesBox 115 = .ok (.aload_n 0, 1) := by decide +kernel
theorem dX8_takesBox_116 : decode cX8_takesBox 116 = .ok (.iload_n 2, 1) := by decide +kernel
theorem dX8_takesBox_117 : decode cX8_takesBox 117 = .ok (.iload 5, 2) := by decide +kernel
theorem dX8_takesBox_119 : decode cX8_takesBox 119 = .ok (.iconst 1, 1) := by decide +kernel
theorem dX8_takesBox_120 : decode cX8_takesBox 120 = .ok (.iadd, 1) := by decide +kernel
theorem dX8_takesBox_121 : decode cX8_takesBox 121 = .ok (.iload 4, 2) := by decide +kernel
theorem dX8_takesBox_123 : decode cX8_takesBox 123 = .ok (.invokevirtual 250, 3) := by decide +kernel
theorem dX8_takesBox_126 : decode cX8_takesBox 126 = .ok (.aload_n 0, 1) := by decide +kernel
theorem dX8_takesBox_127 : decode cX8_takesBox 127 = .ok (.iload_n 2, 1) := by decide +kernel
theorem dX8_takesBox_128 : decode cX8_takesBox 128 = .ok (.iload_n 3, 1) := by decide +kernel
theorem dX8_takesBox_129 : decode cX8_takesBox 129 = .ok (.iload 5, 2) := by decide +kernel
theorem dX8_takesBox_131 : decode cX8_takesBox 131 = .ok (.invokevirtual 250, 3) := by decide +kernel
theorem dX8_takesBox_134 : decode cX8_takesBox 134 = .ok (.return_, 1) := by decide +kernel
set_option maxRecDepth 20000 in
theorem ggX8_solve_X8_laysBox : GoodIn wsX8_solve wsX8_laysBox := goodIn_r _ [8, 9, 10, 11, 12, 13, 7, 14, 15, 16, 17, 18, 19, 20, 21, 22, 23, 171, 172, 173, 174, 175, 176, 177, 178, 179, 180, 181, 182, 183, 184, 185, 186, 187] (by decide +kernel) (by decide +kernel)
set_option maxRecDepth 20000 in
theorem gX8_solve_X8_laysBox : GoodIn wsX8_solve (wsV RX8 215 RX8 yX8_laysBox wsX8_laysBox) := goodIn_app (goodIn_of _ (by decide +kernel)) ggX8_solve_X8_laysBox
set_option maxRecDepth 20000 in
theorem ggX8_solve_X8_puts : GoodIn wsX8_solve wsX8_puts := goodIn_r _ [27, 28, 1, 9, 171, 172, 173, 174, 175, 176, 177, 178, 179, 180, 181, 182, 183, 184, 185, 186, 187] (by decide +kernel) (by decide +kernel)
set_option maxRecDepth 20000 in
theorem gX8_solve_X8_puts : GoodIn wsX8_solve (wsV RX8 250 RX8 yX8_puts wsX8_puts) := goodIn_app (goodIn_of _ (by decide +kernel)) ggX8_solve_X8_puts
set_option maxRecDepth 20000 in
theorem ggX8_solve_X8_takesBox : GoodIn wsX8_solve wsX8_takesBox := goodIn_r _ [32, 1, 2, 9, 28, 10, 3, 33, 34, 35, 7, 36, 37, 38, 39, 40, 41, 15, 42, 43, 44, 45, 46, 47, 48, 49, 50, 51, 52, 53, 54, 55, 56, 57, 58, 59, 60, 61, 62, 63, 64, 65, 66, 67, 68, 69, 70, 71, 72, 73, 74, 75, 76, 77, 78, 79, 80, 81, 82, 83, 84, 85, 86, 87, 88, 89, 90, 91, 92, 93, 94, 95, 96, 97, 98, 99, 100, 101, 102, 103, 104, 105, 106, 107, 108, 109, 110, 111, 112, 113, 114, 115, 116, 117, 118, 119, 120, 121, 122, 123, 124, 125, 126, 127, 128, 129, 130, 131, 132, 133, 134, 135, 136, 137, 138, 139, 140, 141, 142, 143, 144, 145, 146, 147, 148, 149, 150, 151, 152, 153, 154, 155, 156, 157, 158, 159, 160, 161, 162, 163, 11, 12, 13, 14, 164, 165, 166, 167, 168, 169, 170, 24, 25, 26, 27, 171, 172, 173, 174, 175, 176, 177, 178, 179, 180, 181, 182, 183, 184, 185, 186, 187] (by decide +kernel) (by decide +kernel)
set_option maxRecDepth 20000 in
theorem gX8_solve_X8_takesBox : GoodIn wsX8_solve (wsV RX8 253 RX8 yX8_takesBox wsX8_takesBox) := goodIn_app (goodIn_of _ (by decide +kernel)) ggX8_solve_X8_takesBox
theorem dX8_solve_0 : decode cX8_solve 0 = .ok (.aload_n 0, 1) := by decide +kernel
theorem dX8_solve_1 : decode cX8_solve 1 = .ok (.invokevirtual 215, 3) := by decide +kernel
theorem dX8_solve_4 : decode cX8_solve 4 = .ok (.aload_n 0, 1) := by decide +kernel
theorem dX8_solve_5 : decode cX8_solve 5 = .ok (.iconst 0, 1) := by decide +kernel
theorem dX8_solve_6 : decode cX8_solve 6 = .ok (.putfield 234, 3) := by decide +kernel
theorem dX8_solve_9 : decode cX8_solve 9 = .ok (.aload_n 0, 1) := by decide +kernel
theorem dX8_solve_10 : decode cX8_solve 10 = .ok (.iconst 0, 1) := by decide +kernel
theorem dX8_solve_11 : decode cX8_solve 11 = .ok (.putfield 237, 3) := by decide +kernel
theorem dX8_solve_14 : decode cX8_solve 14 = .ok (.aload_n 0, 1) := by decide +kernel
theorem dX8_solve_15 : decode cX8_solve 15 = .ok (.iconst 0, 1) := by decide +kernel
theorem dX8_solve_16 : decode cX8_solve 16 = .ok (.putfield 247, 3) := by decide +kernel
theorem dX8_solve_19 : decode cX8_solve 19 = .ok (.aload_n 0, 1) := by decide +kernel
theorem dX8_solve_20 : decode cX8_solve 20 = .ok (.iconst (-1), 1) := by decide +kernel
theorem dX8_solve_21 : decode cX8_solve 21 = .ok (.iconst 0, 1) := by decide +kernel
theorem dX8_solve_22 : decode cX8_solve 22 = .ok (.iconst 0, 1) := by decide +kernel
theorem dX8_solve_23 : decode cX8_solve 23 = .ok (.invokevirtual 250, 3) := by decide +kernel
theorem dX8_solve_26 : decode cX8_solve 26 = .ok (.aload_n 0, 1) := by decide +kernel
theorem dX8_solve_27 : decode cX8_solve 27 = .ok (.getfield 247, 3) := by decide +kernel
theorem dX8_solve_30 : decode cX8_solve 30 = .ok (.ifCond .ne 25, 3) := by decide +kernel
theorem dX8_solve_33 : decode cX8_solve 33 = .ok (.aload_n 0, 1) := by decide +kernel
theorem dX8_solve_34 : decode cX8_solve 34 = .ok (.getfield 234, 3) := by decide +kernel
theorem dX8_solve_37 : decode cX8_solve 37 = .ok (.ifCond .le 18, 3) := by decide +kernel
theorem dX8_solve_40 : decode cX8_solve 40 = .ok (.aload_n 0, 1) := by decide +kernel
theorem dX8_solve_41 : decode cX8_solve 41 = .ok (.getfield 237, 3) := by decide +kernel
theorem dX8_solve_44 : decode cX8_solve 44 = .ok (.iload_n 1, 1) := by decide +kernel
theorem dX8_solve_45 : decode cX8_solve 45 = .ok (.if_icmp .ge 10, 3) := by decide +kernel
theorem dX8_solve_48 : decode cX8_solve 48 = .ok (.aload_n 0, 1) := by decide +kernel
theorem dX8_solve_49 : decode cX8_solve 49 = .ok (.invokevirtual 253, 3) := by decide +kernel
theorem dX8_solve_52 : decode cX8_solve 52 = .ok (.goto (-26), 3) := by decide +kernel
theorem dX8_solve_55 : decode cX8_solve 55 = .ok (.return_, 1) := by decide +kernel
set_option maxRecDepth 20000 in
theorem ggX8_solved_X8_solve : GoodIn wsX8_solved wsX8_solve := goodIn_r _ [8, 2, 3, 1, 9, 10, 11, 7, 12, 13, 14, 15, 16, 17, 18, 19, 20, 21, 22, 23, 24, 25, 26, 27, 28, 29, 30, 31, 32, 33, 34, 35, 36, 37, 38, 39, 40, 41, 42, 43, 44, 45, 46, 47, 48, 49, 50, 51, 52, 53, 54, 55, 56, 57, 58, 59, 60, 61, 62, 63, 64, 65, 66, 67, 68, 69, 70, 71, 72, 73, 74, 75, 76, 77, 78, 79, 80, 81, 82, 83, 84, 85, 86, 87, 88, 89, 90, 91, 92, 93, 94, 95, 96, 97, 98, 99, 100, 101, 102, 103, 104, 105, 106, 107, 108, 109, 110, 111, 112, 113, 114, 115, 116, 117, 118, 119, 120, 121, 122, 123, 124, 125, 126, 127, 128, 129, 130, 131, 132, 133, 134, 135, 136, 137, 138, 139, 140, 141, 142, 143, 144, 145, 146, 147, 148, 149, 150, 151, 152, 153, 154, 155, 156, 157, 158, 159, 160, 161, 162, 163, 164, 165, 166, 167, 168, 169, 170, 171, 172, 173, 174, 175, 176, 177, 178, 179, 180, 181, 182, 183, 184, 185, 186, 187, 188, 189, 190, 191] (by decide +kernel) (by decide +kernel)
set_option maxRecDepth 20000 in
theorem gX8_solved_X8_solve : GoodIn wsX8_solved (wsV RX8 256 RX8 yX8_solve wsX8_solve) := goodIn_app (goodIn_of _ (by decide +kernel)) ggX8_solved_X8_solve
theorem dX8_solved_0 : decode cX8_solved 0 = .ok (.aload_n 0, 1) := by decide +kernel
theorem dX8_solved_1 : decode cX8_solved 1 = .ok (.iload_n 1, 1) := by decide +kernel
theorem dX8_solved_2 : decode cX8_solved 2 = .ok (.invokevirtual 256, 3) := by decide +kernel
theorem dX8_solved_5 : decode cX8_solved 5 = .ok (.iload_n 2, 1) := by decide +kernel
theorem dX8_solved_6 : decode cX8_solved 6 = .ok (.ifCond .ne 29, 3) := by decide +kernel
theorem dX8_solved_9 : decode cX8_solved 9 = .ok (.aload_n 0, 1) := by decide +kernel
theorem dX8_solved_10 : decode cX8_solved 10 = .ok (.getfield 247, 3) := by decide +kernel
theorem dX8_solved_13 : decode cX8_solved 13 = .ok (.ifCond .eq 7, 3) := by decide +kernel
theorem dX8_solved_16 : decode cX8_solved 16 = .ok (.iconst 0, 1) := by decide +kernel
theorem dX8_solved_17 : decode cX8_solved 17 = .ok (.goto 34, 3) := by decide +kernel
theorem dX8_solved_20 : decode cX8_solved 20 = .ok (.aload_n 0, 1) := by decide +kernel
theorem dX8_solved_21 : decode cX8_solved 21 = .ok (.getfield 234, 3) := by decide +kernel
theorem dX8_solved_24 : decode cX8_solved 24 = .ok (.ifCond .ne 7, 3) := by decide +kernel
theorem dX8_solved_27 : decode cX8_solved 27 = .ok (.iconst 1, 1) := by decide +kernel
theorem dX8_solved_28 : decode cX8_solved 28 = .ok (.goto 23, 3) := by decide +kernel
theorem dX8_solved_31 : decode cX8_solved 31 = .ok (.iconst 2, 1) := by decide +kernel
theorem dX8_solved_32 : decode cX8_solved 32 = .ok (.goto 19, 3) := by decide +kernel
theorem dX8_solved_35 : decode cX8_solved 35 = .ok (.iload_n 2, 1) := by decide +kernel
theorem dX8_solved_36 : decode cX8_solved 36 = .ok (.iconst 1, 1) := by decide +kernel
theorem dX8_solved_37 : decode cX8_solved 37 = .ok (.if_icmp .ne 10, 3) := by decide +kernel
theorem dX8_solved_40 : decode cX8_solved 40 = .ok (.aload_n 0, 1) := by decide +kernel
theorem dX8_solved_41 : decode cX8_solved 41 = .ok (.getfield 237, 3) := by decide +kernel
theorem dX8_solved_44 : decode cX8_solved 44 = .ok (.goto 7, 3) := by decide +kernel
theorem dX8_solved_47 : decode cX8_solved 47 = .ok (.aload_n 0, 1) := by decide +kernel
theorem dX8_solved_48 : decode cX8_solved 48 = .ok (.getfield 234, 3) := by decide +kernel
theorem dX8_solved_51 : decode cX8_solved 51 = .ok (.ireturn, 1) := by decide +kernel
set_option maxRecDepth 20000 in
theorem ggX8_solves_X8_in : GoodIn wsX8_solves wsX8_in := goodIn_r _ [7] (by decide +kernel) (by decide +kernel)
set_option maxRecDepth 20000 in
theorem gX8_solves_X8_in : GoodIn wsX8_solves (va_wsS RX8 38 yX8_in wsX8_in) := goodIn_app (goodIn_of _ (by decide +kernel)) ggX8_solves_X8_in
set_option maxRecDepth 20000 in
theorem ggX8_solves_X8_solved : GoodIn wsX8_solves wsX8_solved := goodIn_r _ [11, 12, 13, 14, 15, 16, 17, 6, 18, 19, 20, 21, 22, 23, 24, 25, 26, 27, 28, 29, 30, 31, 32, 33, 34, 35, 36, 37, 38, 39, 40, 41, 42, 43, 44, 45, 46, 47, 48, 49, 50, 51, 52, 53, 54, 55, 56, 57, 58, 59, 60, 61, 62, 63, 64, 65, 66, 67, 68, 69, 70, 71, 72, 73, 74, 75, 76, 77, 78, 79, 80, 81, 82, 83, 84, 85, 86, 87, 88, 89, 90, 91, 92, 93, 94, 95, 96, 97, 98, 99, 100, 101, 102, 103, 104, 105, 106, 107, 108, 109, 110, 111, 112, 113, 114, 115, 2, 116, 117, 118, 119, 120, 121, 122, 123, 124, 125, 126, 127, 128, 129, 130, 131, 132, 133, 134, 135, 136, 137, 138, 139, 140, 141, 142, 143, 144, 145, 146, 147, 148, 149, 150, 151, 152, 153, 154, 155, 156, 157, 158, 159, 160, 161, 162, 163, 164, 165, 166, 167, 168, 169, 170, 171, 172, 173, 174, 175, 176, 177, 178, 179, 180, 181, 182, 183, 189, 190, 191, 192, 193, 194, 195, 196, 197, 198, 199, 200, 201, 202, 203, 204, 205] (by decide +kernel) (by decide +kernel)
set_option maxRecDepth 20000 in
theorem gX8_solves_X8_solved : GoodIn wsX8_solves (wsV RX8 261 RX8 yX8_solved wsX8_solved) := goodIn_app (goodIn_of _ (by decide +kernel)) ggX8_solves_X8_solved
set_option maxRecDepth 20000 in
theorem ggX8_solves_X8_refuses : GoodIn wsX8_solves wsX8_refuses := goodIn_r _ [187, 188, 3, 189, 190, 191, 192, 193, 194, 195, 196, 197, 198, 199, 200, 201, 202, 203, 204, 205] (by decide +kernel) (by decide +kernel)
set_option maxRecDepth 20000 in
theorem gX8_solves_X8_refuses : GoodIn wsX8_solves (wsV RX8 87 RX8 yX8_refuses wsX8_refuses) := goodIn_app (goodIn_of _ (by decide +kernel)) ggX8_solves_X8_refuses
theorem dX8_solves_0 : decode cX8_solves 0 = .ok (.iload_n 1, 1) := by decide +kernel
theorem dX8_solves_1 : decode cX8_solves 1 = .ok (.i2l, 1) := by decide +kernel
theorem dX8_solves_2 : decode cX8_solves 2 = .ok (.lconst 1, 1) := by decide +kernel
theorem dX8_solves_3 : decode cX8_solves 3 = .ok (.ldc2_w 259, 3) := by decide +kernel
theorem dX8_solves_6 : decode cX8_solves 6 = .ok (.invokestatic 38, 3) := by decide +kernel
theorem dX8_solves_9 : decode cX8_solves 9 = .ok (.ifCond .eq 24, 3) := by decide +kernel
theorem dX8_solves_12 : decode cX8_solves 12 = .ok (.iload_n 2, 1) := by decide +kernel
theorem dX8_solves_13 : decode cX8_solves 13 = .ok (.i2l, 1) := by decide +kernel
theorem dX8_solves_14 : decode cX8_solves 14 = .ok (.lconst 0, 1) := by decide +kernel
theorem dX8_solves_15 : decode cX8_solves 15 = .ok (.ldc2_w 149, 3) := by decide +kernel
theorem dX8_solves_18 : decode cX8_solves 18 = .ok (.invokestatic 38, 3) := by decide +kernel
theorem dX8_solves_21 : decode cX8_solves 21 = .ok (.ifCond .eq 12, 3) := by decide +kernel
theorem dX8_solves_24 : decode cX8_solves 24 = .ok (.aload_n 0, 1) := by decide +kernel
theorem dX8_solves_25 : decode cX8_solves 25 = .ok (.iload_n 1, 1) := by decide +kernel
theorem dX8_solves_26 : decode cX8_solves 26 = .ok (.iload_n 2, 1) := by decide +kernel
theorem dX8_solves_27 : decode cX8_solves 27 = .ok (.invokevirtual 261, 3) := by decide +kernel
theorem dX8_solves_30 : decode cX8_solves 30 = .ok (.goto 9, 3) := by decide +kernel
theorem dX8_solves_33 : decode cX8_solves 33 = .ok (.aload_n 0, 1) := by decide +kernel
theorem dX8_solves_34 : decode cX8_solves 34 = .ok (.ldc 42, 2) := by decide +kernel
theorem dX8_solves_36 : decode cX8_solves 36 = .ok (.invokevirtual 87, 3) := by decide +kernel
theorem dX8_solves_39 : decode cX8_solves 39 = .ok (.ireturn, 1) := by decide +kernel
set_option maxRecDepth 20000 in
theorem ggX8_point_X8_in : GoodIn wsX8_point wsX8_in := goodIn_r _ [8] (by decide +kernel) (by decide +kernel)
set_option maxRecDepth 20000 in
theorem gX8_point_X8_in : GoodIn wsX8_point (va_wsS RX8 38 yX8_in wsX8_in) := goodIn_app (goodIn_of _ (by decide +kernel)) ggX8_point_X8_in
set_option maxRecDepth 20000 in
theorem ggX8_point_X8_isUnknown : GoodIn wsX8_point wsX8_isUnknown := goodIn_r _ [12, 13, 14, 15, 7, 16, 17, 5, 6, 8, 190, 191, 192, 193, 194, 195, 196, 197, 198, 199, 200, 201, 202, 203, 204, 205, 206] (by decide +kernel) (by decide +kernel)
set_option maxRecDepth 20000 in
theorem gX8_point_X8_isUnknown : GoodIn wsX8_point (wsV RX8 97 RX8 yX8_isUnknown wsX8_isUnknown) := goodIn_app (goodIn_of _ (by decide +kernel)) ggX8_point_X8_isUnknown
set_option maxRecDepth 20000 in
theorem ggX8_point_X8_refuses : GoodIn wsX8_point wsX8_refuses := goodIn_r _ [21, 22, 2, 190, 191, 192, 193, 194, 195, 196, 197, 198, 199, 200, 201, 202, 203, 204, 205, 206] (by decide +kernel) (by decide +kernel)
set_option maxRecDepth 20000 in
theorem gX8_point_X8_refuses : GoodIn wsX8_point (wsV RX8 87 RX8 yX8_refuses wsX8_refuses) := goodIn_app (goodIn_of _ (by decide +kernel)) ggX8_point_X8_refuses
set_option maxRecDepth 20000 in
theorem ggX8_point_X8_solve : GoodIn wsX8_point wsX8_solve := goodIn_r _ [26, 27, 28, 3, 29, 30, 31, 7, 32, 33, 34, 13, 14, 15, 16, 17, 35, 36, 37, 38, 39, 40, 41, 42, 43, 44, 45, 46, 47, 48, 49, 50, 51, 52, 53, 54, 55, 56, 57, 58, 59, 60, 61, 62, 63, 64, 65, 66, 67, 68, 69, 70, 71, 72, 73, 74, 75, 76, 77, 78, 79, 80, 81, 82, 83, 84, 85, 86, 87, 88, 89, 90, 91, 92, 93, 94, 95, 96, 97, 98, 99, 100, 101, 102, 103, 104, 105, 106, 107, 108, 109, 110, 111, 112, 113, 114, 115, 116, 117, 118, 119, 120, 121, 122, 123, 124, 125, 126, 127, 128, 129, 130, 131, 132, 133, 134, 135, 136, 137, 138, 139, 140, 141, 142, 143, 144, 145, 146, 147, 148, 149, 150, 151, 152, 153, 154, 155, 156, 157, 158, 159, 160, 161, 162, 163, 164, 165, 166, 167, 168, 169, 170, 171, 172, 173, 174, 175, 176, 177, 178, 179, 180, 181, 182, 183, 184, 185, 186, 187, 188, 189, 190, 191, 192, 193, 194, 195, 196, 197, 198, 199, 200, 201, 202, 203, 204, 205, 206] (by decide +kernel) (by decide +kernel)
set_option maxRecDepth 20000 in
theorem gX8_point_X8_solve : GoodIn wsX8_point (wsV RX8 256 RX8 yX8_solve wsX8_solve) := goodIn_app (goodIn_of _ (by decide +kernel)) ggX8_point_X8_solve
set_option maxRecDepth 20000 in
theorem ggX8_point_X8_low : GoodIn wsX8_point wsX8_low := goodIn_r _ [76, 33, 190, 191, 192, 193, 194, 195, 196, 197, 198, 199, 200, 201, 202, 203, 204, 205, 206] (by decide +kernel) (by decide +kernel)
set_option maxRecDepth 20000 in
theorem gX8_point_X8_low : GoodIn wsX8_point (wsV RX8 128 RX8 yX8_low wsX8_low) := goodIn_app (goodIn_of _ (by decide +kernel)) ggX8_point_X8_low
theorem dX8_point_0 : decode cX8_point 0 = .ok (.iload_n 1, 1) := by decide +kernel
theorem dX8_point_1 : decode cX8_point 1 = .ok (.i2l, 1) := by decide +kernel
theorem dX8_point_2 : decode cX8_point 2 = .ok (.lconst 1, 1) := by decide +kernel
theorem dX8_point_3 : decode cX8_point 3 = .ok (.ldc2_w 259, 3) := by decide +kernel
theorem dX8_point_6 : decode cX8_point 6 = .ok (.invokestatic 38, 3) := by decide +kernel
theorem dX8_point_9 : decode cX8_point 9 = .ok (.ifCond .eq 11, 3) := by decide +kernel
theorem dX8_point_12 : decode cX8_point 12 = .ok (.aload_n 0, 1) := by decide +kernel
theorem dX8_point_13 : decode cX8_point 13 = .ok (.iload_n 2, 1) := by decide +kernel
theorem dX8_point_14 : decode cX8_point 14 = .ok (.invokevirtual 97, 3) := by decide +kernel
theorem dX8_point_17 : decode cX8_point 17 = .ok (.ifCond .ne 10, 3) := by decide +kernel
theorem dX8_point_20 : decode cX8_point 20 = .ok (.aload_n 0, 1) := by decide +kernel
theorem dX8_point_21 : decode cX8_point 21 = .ok (.ldc 42, 2) := by decide +kernel
theorem dX8_point_23 : decode cX8_point 23 = .ok (.invokevirtual 87, 3) := by decide +kernel
theorem dX8_point_26 : decode cX8_point 26 = .ok (.ireturn, 1) := by decide +kernel
theorem dX8_point_27 : decode cX8_point 27 = .ok (.aload_n 0, 1) := by decide +kernel
theorem dX8_point_28 : decode cX8_point 28 = .ok (.iload_n 1, 1) := by decide +kernel
theorem dX8_point_29 : decode cX8_point 29 = .ok (.invokevirtual 256, 3) := by decide +kernel
theorem dX8_point_32 : decode cX8_point 32 = .ok (.aload_n 0, 1) := by decide +kernel
theorem dX8_point_33 : decode cX8_point 33 = .ok (.getfield 247, 3) := by decide +kernel
theorem dX8_point_36 : decode cX8_point 36 = .ok (.ifCond .eq 11, 3) := by decide +kernel
theorem dX8_point_39 : decode cX8_point 39 = .ok (.aload_n 0, 1) := by decide +kernel
theorem dX8_point_40 : decode cX8_point 40 = .ok (.iload_n 2, 1) := by decide +kernel
theorem dX8_point_41 : decode cX8_point 41 = .ok (.invokevirtual 128, 3) := by decide +kernel
theorem dX8_point_44 : decode cX8_point 44 = .ok (.goto 10, 3) := by decide +kernel
theorem dX8_point_47 : decode cX8_point 47 = .ok (.aload_n 0, 1) := by decide +kernel
theorem dX8_point_48 : decode cX8_point 48 = .ok (.ldc_w 264, 3) := by decide +kernel
theorem dX8_point_51 : decode cX8_point 51 = .ok (.invokevirtual 87, 3) := by decide +kernel
theorem dX8_point_54 : decode cX8_point 54 = .ok (.ireturn, 1) := by decide +kernel
set_option maxRecDepth 20000 in
theorem ggX8_whole_X8_place : GoodIn wsX8_whole wsX8_place := goodIn_r _ [4, 5, 6, 7, 8, 9, 10, 11, 12, 13, 14, 15, 16, 17] (by decide +kernel) (by decide +kernel)
set_option maxRecDepth 20000 in
theorem gX8_whole_X8_place : GoodIn wsX8_whole (va_wsS RX8 69 yX8_place wsX8_place) := goodIn_app (goodIn_of _ (by decide +kernel)) ggX8_whole_X8_place
theorem dX8_whole_0 : decode cX8_whole 0 = .ok (.iload_n 1, 1) := by decide +kernel
theorem dX8_whole_1 : decode cX8_whole 1 = .ok (.i2f, 1) := by decide +kernel
theorem dX8_whole_2 : decode cX8_whole 2 = .ok (.invokestatic 69, 3) := by decide +kernel
theorem dX8_whole_5 : decode cX8_whole 5 = .ok (.ireturn, 1) := by decide +kernel
set_option maxRecDepth 20000 in
theorem ggX8_narrow_X8_refuses : GoodIn wsX8_narrow wsX8_refuses := goodIn_r _ [11, 12, 5, 37, 38, 39, 40, 41, 42, 43, 44, 45, 46, 47, 48, 49, 50, 51, 52, 53] (by decide +kernel) (by decide +kernel)
set_option maxRecDepth 20000 in
theorem gX8_narrow_X8_refuses : GoodIn wsX8_narrow (wsV RX8 87 RX8 yX8_refuses wsX8_refuses) := goodIn_app (goodIn_of _ (by decide +kernel)) ggX8_narrow_X8_refuses
set_option maxRecDepth 20000 in
theorem ggX8_narrow_X8_place : GoodIn wsX8_narrow wsX8_place := goodIn_r _ [15, 16, 17, 18, 19, 20, 21, 22, 23, 24, 25, 26, 27, 28] (by decide +kernel) (by decide +kernel)
set_option maxRecDepth 20000 in
theorem gX8_narrow_X8_place : GoodIn wsX8_narrow (va_wsS RX8 69 yX8_place wsX8_place) := goodIn_app (goodIn_of _ (by decide +kernel)) ggX8_narrow_X8_place
set_option maxRecDepth 20000 in
theorem ggX8_narrow_X8_isPlace : GoodIn wsX8_narrow wsX8_isPlace := goodIn_r _ [31, 32, 33, 34, 35, 10, 36] (by decide +kernel) (by decide +kernel)
set_option maxRecDepth 20000 in
theorem gX8_narrow_X8_isPlace : GoodIn wsX8_narrow (va_wsS RX8 79 yX8_isPlace wsX8_isPlace) := goodIn_app (goodIn_of _ (by decide +kernel)) ggX8_narrow_X8_isPlace
theorem dX8_narrow_0 : decode cX8_narrow 0 = .ok (.lload_n 1, 1) := by decide +kernel
theorem dX8_narrow_1 : decode cX8_narrow 1 = .ok (.invokestatic 265, 3) := by decide +kernel
theorem dX8_narrow_4 : decode cX8_narrow 4 = .ok (.dstore_n 3, 1) := by decide +kernel
theorem dX8_narrow_5 : decode cX8_narrow 5 = .ok (.dload_n 3, 1) := by decide +kernel
theorem dX8_narrow_6 : decode cX8_narrow 6 = .ok (.dload_n 3, 1) := by decide +kernel
theorem dX8_narrow_7 : decode cX8_narrow 7 = .ok (.dcmp .l, 1) := by decide +kernel
theorem dX8_narrow_8 : decode cX8_narrow 8 = .ok (.ifCond .eq 10, 3) := by decide +kernel
theorem dX8_narrow_11 : decode cX8_narrow 11 = .ok (.aload_n 0, 1) := by decide +kernel
theorem dX8_narrow_12 : decode cX8_narrow 12 = .ok (.ldc 42, 2) := by decide +kernel
theorem dX8_narrow_14 : decode cX8_narrow 14 = .ok (.invokevirtual 87, 3) := by decide +kernel
theorem dX8_narrow_17 : decode cX8_narrow 17 = .ok (.ireturn, 1) := by decide +kernel
theorem dX8_narrow_18 : decode cX8_narrow 18 = .ok (.dload_n 3, 1) := by decide +kernel
theorem dX8_narrow_19 : decode cX8_narrow 19 = .ok (.d2f, 1) := by decide +kernel
theorem dX8_narrow_20 : decode cX8_narrow 20 = .ok (.invokestatic 69, 3) := by decide +kernel
theorem dX8_narrow_23 : decode cX8_narrow 23 = .ok (.istore 5, 2) := by decide +kernel
theorem dX8_narrow_25 : decode cX8_narrow 25 = .ok (.iload 5, 2) := by decide +kernel
theorem dX8_narrow_27 : decode cX8_narrow 27 = .ok (.invokestatic 79, 3) := by decide +kernel
theorem dX8_narrow_30 : decode cX8_narrow 30 = .ok (.ifCond .eq 8, 3) := by decide +kernel
theorem dX8_narrow_33 : decode cX8_narrow 33 = .ok (.iload 5, 2) := by decide +kernel
theorem dX8_narrow_35 : decode cX8_narrow 35 = .ok (.goto 10, 3) := by decide +kernel
theorem dX8_narrow_38 : decode cX8_narrow 38 = .ok (.aload_n 0, 1) := by decide +kernel
theorem dX8_narrow_39 : decode cX8_narrow 39 = .ok (.ldc_w 264, 3) := by decide +kernel
theorem dX8_narrow_42 : decode cX8_narrow 42 = .ok (.invokevirtual 87, 3) := by decide +kernel
theorem dX8_narrow_45 : decode cX8_narrow 45 = .ok (.ireturn, 1) := by decide +kernel
set_option maxRecDepth 20000 in
theorem ggX8_wide_X8_isPlace : GoodIn wsX8_wide wsX8_isPlace := goodIn_r _ [6, 7, 8, 9, 10, 5, 11] (by decide +kernel) (by decide +kernel)
set_option maxRecDepth 20000 in
theorem gX8_wide_X8_isPlace : GoodIn wsX8_wide (va_wsS RX8 79 yX8_isPlace wsX8_isPlace) := goodIn_app (goodIn_of _ (by decide +kernel)) ggX8_wide_X8_isPlace
set_option maxRecDepth 20000 in
theorem ggX8_wide_X8_refuses : GoodIn wsX8_wide wsX8_refuses := goodIn_r _ [15, 16, 1, 37, 38, 39, 40, 41, 42, 43, 44, 45, 46, 47, 48, 49, 50, 51, 52, 53] (by decide +kernel) (by decide +kernel)
set_option maxRecDepth 20000 in
theorem gX8_wide_X8_refuses : GoodIn wsX8_wide (wsV RX8 87 RX8 yX8_refuses wsX8_refuses) := goodIn_app (goodIn_of _ (by decide +kernel)) ggX8_wide_X8_refuses
set_option maxRecDepth 20000 in
theorem ggX8_wide_X8_number : GoodIn wsX8_wide wsX8_number := goodIn_r _ [19, 20, 21, 22, 23, 24] (by decide +kernel) (by decide +kernel)
set_option maxRecDepth 20000 in
theorem gX8_wide_X8_number : GoodIn wsX8_wide (va_wsS RX8 66 yX8_number wsX8_number) := goodIn_app (goodIn_of _ (by decide +kernel)) ggX8_wide_X8_number
set_option maxRecDepth 20000 in
theorem ggX8_wide_Jxe99ae_doubleToLongBits_ccdee : GoodIn wsX8_wide wsJxe99ae_doubleToLongBits_ccdee := goodIn_r _ [28, 29, 30, 31, 32, 33, 34, 35, 27, 36] (by decide +kernel) (by decide +kernel)
set_option maxRecDepth 20000 in
theorem gX8_wide_Jxe99ae_doubleToLongBits_ccdee : GoodIn wsX8_wide (va_wsS RX8 271 yJxe99ae_doubleToLongBits_ccdee wsJxe99ae_doubleToLongBits_ccdee) := goodIn_app (goodIn_of _ (by decide +kernel)) ggX8_wide_Jxe99ae_doubleToLongBits_ccdee
theorem dX8_wide_0 : decode cX8_wide 0 = .ok (.iload_n 1, 1) := by decide +kernel
theorem dX8_wide_1 : decode cX8_wide 1 = .ok (.invokestatic 79, 3) := by decide +kernel
theorem dX8_wide_4 : decode cX8_wide 4 = .ok (.ifCond .ne 14, 3) := by decide +kernel
theorem dX8_wide_7 : decode cX8_wide 7 = .ok (.aload_n 0, 1) := by decide +kernel
theorem dX8_wide_8 : decode cX8_wide 8 = .ok (.ldc 42, 2) := by decide +kernel
theorem dX8_wide_10 : decode cX8_wide 10 = .ok (.invokevirtual 87, 3) := by decide +kernel
theorem dX8_wide_13 : decode cX8_wide 13 = .ok (.istore_n 2, 1) := by decide +kernel
theorem dX8_wide_14 : decode cX8_wide 14 = .ok (.ldc2_w 190, 3) := by decide +kernel
theorem dX8_wide_17 : decode cX8_wide 17 = .ok (.lreturn, 1) := by decide +kernel
theorem dX8_wide_18 : decode cX8_wide 18 = .ok (.iload_n 1, 1) := by decide +kernel
theorem dX8_wide_19 : decode cX8_wide 19 = .ok (.invokestatic 66, 3) := by decide +kernel
theorem dX8_wide_22 : decode cX8_wide 22 = .ok (.f2d, 1) := by decide +kernel
theorem dX8_wide_23 : decode cX8_wide 23 = .ok (.invokestatic 271, 3) := by decide +kernel
theorem dX8_wide_26 : decode cX8_wide 26 = .ok (.lreturn, 1) := by decide +kernel
set_option maxRecDepth 20000 in
theorem ggX8_reckons_X8_in : GoodIn wsX8_reckons wsX8_in := goodIn_r _ [5] (by decide +kernel) (by decide +kernel)
set_option maxRecDepth 20000 in
theorem gX8_reckons_X8_in : GoodIn wsX8_reckons (va_wsS RX8 38 yX8_in wsX8_in) := goodIn_app (goodIn_of _ (by decide +kernel)) ggX8_reckons_X8_in
set_option maxRecDepth 20000 in
theorem ggX8_reckons_X8_isPlace : GoodIn wsX8_reckons wsX8_isPlace := goodIn_r _ [8, 9, 10, 2, 3, 4, 5] (by decide +kernel) (by decide +kernel)
set_option maxRecDepth 20000 in
theorem gX8_reckons_X8_isPlace : GoodIn wsX8_reckons (va_wsS RX8 79 yX8_isPlace wsX8_isPlace) := goodIn_app (goodIn_of _ (by decide +kernel)) ggX8_reckons_X8_isPlace
set_option maxRecDepth 20000 in
theorem ggX8_reckons_X8_reckoned : GoodIn wsX8_reckons wsX8_reckoned := goodIn_r _ [13, 14, 15, 4, 16, 17, 18, 19, 20, 21, 22, 23, 24, 25, 26, 27, 28, 29, 30, 31, 32, 33, 34, 35, 36, 37, 38, 39, 40, 41, 42] (by decide +kernel) (by decide +kernel)
set_option maxRecDepth 20000 in
theorem gX8_reckons_X8_reckoned : GoodIn wsX8_reckons (va_wsS RX8 137 yX8_reckoned wsX8_reckoned) := goodIn_app (goodIn_of _ (by decide +kernel)) ggX8_reckons_X8_reckoned
set_option maxRecDepth 20000 in
theorem ggX8_reckons_X8_refuses : GoodIn wsX8_reckons wsX8_refuses := goodIn_r _ [46, 47, 1, 48, 49, 50, 51, 52, 53, 54, 55, 56, 57, 58, 59, 60, 61, 62, 63, 64] (by decide +kernel) (by decide +kernel)
set_option maxRecDepth 20000 in
theorem gX8_reckons_X8_refuses : GoodIn wsX8_reckons (wsV RX8 87 RX8 yX8_refuses wsX8_refuses) := goodIn_app (goodIn_of _ (by decide +kernel)) ggX8_reckons_X8_refuses
theorem dX8_reckons_0 : decode cX8_reckons 0 = .ok (.iload_n 1, 1) := by decide +kernel
theorem dX8_reckons_1 : decode cX8_reckons 1 = .ok (.i2l, 1) := by decide +kernel
theorem dX8_reckons_2 : decode cX8_reckons 2 = .ok (.lconst 0, 1) := by decide +kernel
theorem dX8_reckons_3 : decode cX8_reckons 3 = .ok (.lconst 1, 1) := by decide +kernel
theorem dX8_reckons_4 : decode cX8_reckons 4 = .ok (.invokestatic 38, 3) := by decide +kernel
theorem dX8_reckons_7 : decode cX8_reckons 7 = .ok (.ifCond .eq 26, 3) := by decide +kernel
theorem dX8_reckons_10 : decode cX8_reckons 10 = .ok (.iload_n 2, 1) := by decide +kernel
theorem dX8_reckons_11 : decode cX8_reckons 11 = .ok (.invokestatic 79, 3) := by decide +kernel
theorem dX8_reckons_14 : decode cX8_reckons 14 = .ok (.ifCond .eq 19, 3) := by decide +kernel
theorem dX8_reckons_17 : decode cX8_reckons 17 = .ok (.iload_n 3, 1) := by decide +kernel
theorem dX8_reckons_18 : decode cX8_reckons 18 = .ok (.invokestatic 79, 3) := by decide +kernel
theorem dX8_reckons_21 : decode cX8_reckons 21 = .ok (.ifCond .eq 12, 3) := by decide +kernel
theorem dX8_reckons_24 : decode cX8_reckons 24 = .ok (.iload_n 1, 1) := by decide +kernel
theorem dX8_reckons_25 : decode cX8_reckons 25 = .ok (.iload_n 2, 1) := by decide +kernel
theorem dX8_reckons_26 : decode cX8_reckons 26 = .ok (.iload_n 3, 1) := by decide +kernel
theorem dX8_reckons_27 : decode cX8_reckons 27 = .ok (.invokestatic 137, 3) := by decide +kernel
theorem dX8_reckons_30 : decode cX8_reckons 30 = .ok (.goto 9, 3) := by decide +kernel
theorem dX8_reckons_33 : decode cX8_reckons 33 = .ok (.aload_n 0, 1) := by decide +kernel
theorem dX8_reckons_34 : decode cX8_reckons 34 = .ok (.ldc 42, 2) := by decide +kernel
theorem dX8_reckons_36 : decode cX8_reckons 36 = .ok (.invokevirtual 87, 3) := by decide +kernel
theorem dX8_reckons_39 : decode cX8_reckons 39 = .ok (.ireturn, 1) := by decide +kernel
set_option maxRecDepth 20000 in
theorem ggX8_rest_X8_isPlace : GoodIn wsX8_rest wsX8_isPlace := goodIn_r _ [6, 7, 8, 9, 10, 5, 11] (by decide +kernel) (by decide +kernel)
set_option maxRecDepth 20000 in
theorem gX8_rest_X8_isPlace : GoodIn wsX8_rest (va_wsS RX8 79 yX8_isPlace wsX8_isPlace) := goodIn_app (goodIn_of _ (by decide +kernel)) ggX8_rest_X8_isPlace
set_option maxRecDepth 20000 in
theorem ggX8_rest_X8_refuses : GoodIn wsX8_rest wsX8_refuses := goodIn_r _ [15, 16, 1, 40, 41, 42, 43, 44, 45, 46, 47, 48, 49, 50, 51, 52, 53, 54, 55, 56] (by decide +kernel) (by decide +kernel)
set_option maxRecDepth 20000 in
theorem gX8_rest_X8_refuses : GoodIn wsX8_rest (wsV RX8 87 RX8 yX8_refuses wsX8_refuses) := goodIn_app (goodIn_of _ (by decide +kernel)) ggX8_rest_X8_refuses
set_option maxRecDepth 20000 in
theorem ggX8_rest_X8_number : GoodIn wsX8_rest wsX8_number := goodIn_r _ [19, 20, 21, 22, 23, 24] (by decide +kernel) (by decide +kernel)
set_option maxRecDepth 20000 in
theorem gX8_rest_X8_number : GoodIn wsX8_rest (va_wsS RX8 66 yX8_number wsX8_number) := goodIn_app (goodIn_of _ (by decide +kernel)) ggX8_rest_X8_number
set_option maxRecDepth 20000 in
theorem ggX8_rest_X8_place : GoodIn wsX8_rest wsX8_place := goodIn_r _ [27, 28, 29, 30, 31, 32, 33, 34, 35, 24, 36, 37, 38, 39] (by decide +kernel) (by decide +kernel)
set_option maxRecDepth 20000 in
theorem gX8_rest_X8_place : GoodIn wsX8_rest (va_wsS RX8 69 yX8_place wsX8_place) := goodIn_app (goodIn_of _ (by decide +kernel)) ggX8_rest_X8_place
theorem dX8_rest_0 : decode cX8_rest 0 = .ok (.iload_n 1, 1) := by decide +kernel
theorem dX8_rest_1 : decode cX8_rest 1 = .ok (.invokestatic 79, 3) := by decide +kernel
theorem dX8_rest_4 : decode cX8_rest 4 = .ok (.ifCond .eq 10, 3) := by decide +kernel
theorem dX8_rest_7 : decode cX8_rest 7 = .ok (.iload_n 2, 1) := by decide +kernel
theorem dX8_rest_8 : decode cX8_rest 8 = .ok (.invokestatic 79, 3) := by decide +kernel
theorem dX8_rest_11 : decode cX8_rest 11 = .ok (.ifCond .ne 10, 3) := by decide +kernel
theorem dX8_rest_14 : decode cX8_rest 14 = .ok (.aload_n 0, 1) := by decide +kernel
theorem dX8_rest_15 : decode cX8_rest 15 = .ok (.ldc 42, 2) := by decide +kernel
theorem dX8_rest_17 : decode cX8_rest 17 = .ok (.invokevirtual 87, 3) := by decide +kernel
theorem dX8_rest_20 : decode cX8_rest 20 = .ok (.ireturn, 1) := by decide +kernel
theorem dX8_rest_21 : decode cX8_rest 21 = .ok (.iload_n 1, 1) := by decide +kernel
theorem dX8_rest_22 : decode cX8_rest 22 = .ok (.invokestatic 66, 3) := by decide +kernel
theorem dX8_rest_25 : decode cX8_rest 25 = .ok (.iload_n 2, 1) := by decide +kernel
theorem dX8_rest_26 : decode cX8_rest 26 = .ok (.invokestatic 66, 3) := by decide +kernel
theorem dX8_rest_29 : decode cX8_rest 29 = .ok (.frem, 1) := by decide +kernel
theorem dX8_rest_30 : decode cX8_rest 30 = .ok (.fstore_n 3, 1) := by decide +kernel
theorem dX8_rest_31 : decode cX8_rest 31 = .ok (.fload_n 3, 1) := by decide +kernel
theorem dX8_rest_32 : decode cX8_rest 32 = .ok (.fload_n 3, 1) := by decide +kernel
theorem dX8_rest_33 : decode cX8_rest 33 = .ok (.fcmp .l, 1) := by decide +kernel
theorem dX8_rest_34 : decode cX8_rest 34 = .ok (.ifCond .eq 13, 3) := by decide +kernel
theorem dX8_rest_37 : decode cX8_rest 37 = .ok (.aload_n 0, 1) := by decide +kernel
theorem dX8_rest_38 : decode cX8_rest 38 = .ok (.ldc_w 264, 3) := by decide +kernel
theorem dX8_rest_41 : decode cX8_rest 41 = .ok (.invokevirtual 87, 3) := by decide +kernel
theorem dX8_rest_44 : decode cX8_rest 44 = .ok (.goto 7, 3) := by decide +kernel
theorem dX8_rest_47 : decode cX8_rest 47 = .ok (.fload_n 3, 1) := by decide +kernel
theorem dX8_rest_48 : decode cX8_rest 48 = .ok (.invokestatic 69, 3) := by decide +kernel
theorem dX8_rest_51 : decode cX8_rest 51 = .ok (.ireturn, 1) := by decide +kernel
set_option maxRecDepth 20000 in
theorem ggX8_type_X8_in : GoodIn wsX8_type wsX8_in := goodIn_r _ [9] (by decide +kernel) (by decide +kernel)
set_option maxRecDepth 20000 in
theorem gX8_type_X8_in : GoodIn wsX8_type (va_wsS RX8 38 yX8_in wsX8_in) := goodIn_app (goodIn_of _ (by decide +kernel)) ggX8_type_X8_in
set_option maxRecDepth 20000 in
theorem ggX8_type_X8_refuses : GoodIn wsX8_type wsX8_refuses := goodIn_r _ [13, 14, 2, 15, 16, 17, 18, 19, 20, 21, 22, 23, 24, 25, 26, 27, 28, 29, 30, 31] (by decide +kernel) (by decide +kernel)
set_option maxRecDepth 20000 in
theorem gX8_type_X8_refuses : GoodIn wsX8_type (wsV RX8 87 RX8 yX8_refuses wsX8_refuses) := goodIn_app (goodIn_of _ (by decide +kernel)) ggX8_type_X8_refuses
theorem dX8_type_0 : decode cX8_type 0 = .ok (.iload_n 1, 1) := by decide +kernel
theorem dX8_type_1 : decode cX8_type 1 = .ok (.i2l, 1) := by decide +kernel
theorem dX8_type_2 : decode cX8_type 2 = .ok (.lconst 0, 1) := by decide +kernel
theorem dX8_type_3 : decode cX8_type 3 = .ok (.ldc2_w 275, 3) := by decide +kernel
theorem dX8_type_6 : decode cX8_type 6 = .ok (.invokestatic 38, 3) := by decide +kernel
theorem dX8_type_9 : decode cX8_type 9 = .ok (.ifCond .ne 10, 3) := by decide +kernel
theorem dX8_type_12 : decode cX8_type 12 = .ok (.aload_n 0, 1) := by decide +kernel
theorem dX8_type_13 : decode cX8_type 13 = .ok (.ldc 42, 2) := by decide +kernel
theorem dX8_type_15 : decode cX8_type 15 = .ok (.invokevirtual 87, 3) := by decide +kernel
theorem dX8_type_18 : decode cX8_type 18 = .ok (.ireturn, 1) := by decide +kernel
theorem dX8_type_19 : decode cX8_type 19 = .ok (.aload_n 0, 1) := by decide +kernel
theorem dX8_type_20 : decode cX8_type 20 = .ok (.getfield 277, 3) := by decide +kernel
theorem dX8_type_23 : decode cX8_type 23 = .ok (.bipush 120, 2) := by decide +kernel
theorem dX8_type_25 : decode cX8_type 25 = .ok (.if_icmp .ne 10, 3) := by decide +kernel
theorem dX8_type_28 : decode cX8_type 28 = .ok (.aload_n 0, 1) := by decide +kernel
theorem dX8_type_29 : decode cX8_type 29 = .ok (.ldc 83, 2) := by decide +kernel
theorem dX8_type_31 : decode cX8_type 31 = .ok (.invokevirtual 87, 3) := by decide +kernel
theorem dX8_type_34 : decode cX8_type 34 = .ok (.ireturn, 1) := by decide +kernel
theorem dX8_type_35 : decode cX8_type 35 = .ok (.aload_n 0, 1) := by decide +kernel
theorem dX8_type_36 : decode cX8_type 36 = .ok (.getfield 25, 3) := by decide +kernel
theorem dX8_type_39 : decode cX8_type 39 = .ok (.aload_n 0, 1) := by decide +kernel
theorem dX8_type_40 : decode cX8_type 40 = .ok (.getfield 277, 3) := by decide +kernel
theorem dX8_type_43 : decode cX8_type 43 = .ok (.iload_n 1, 1) := by decide +kernel
theorem dX8_type_44 : decode cX8_type 44 = .ok (.iastore, 1) := by decide +kernel
theorem dX8_type_45 : decode cX8_type 45 = .ok (.aload_n 0, 1) := by decide +kernel
theorem dX8_type_46 : decode cX8_type 46 = .ok (.dup, 1) := by decide +kernel
theorem dX8_type_47 : decode cX8_type 47 = .ok (.getfield 277, 3) := by decide +kernel
theorem dX8_type_50 : decode cX8_type 50 = .ok (.iconst 1, 1) := by decide +kernel
theorem dX8_type_51 : decode cX8_type 51 = .ok (.iadd, 1) := by decide +kernel
theorem dX8_type_52 : decode cX8_type 52 = .ok (.putfield 277, 3) := by decide +kernel
theorem dX8_type_55 : decode cX8_type 55 = .ok (.aload_n 0, 1) := by decide +kernel
theorem dX8_type_56 : decode cX8_type 56 = .ok (.getfield 277, 3) := by decide +kernel
theorem dX8_type_59 : decode cX8_type 59 = .ok (.ireturn, 1) := by decide +kernel
theorem dX8_clear_0 : decode cX8_clear 0 = .ok (.aload_n 0, 1) := by decide +kernel
theorem dX8_clear_1 : decode cX8_clear 1 = .ok (.getfield 277, 3) := by decide +kernel
theorem dX8_clear_4 : decode cX8_clear 4 = .ok (.istore_n 1, 1) := by decide +kernel
theorem dX8_clear_5 : decode cX8_clear 5 = .ok (.aload_n 0, 1) := by decide +kernel
theorem dX8_clear_6 : decode cX8_clear 6 = .ok (.iconst 0, 1) := by decide +kernel
theorem dX8_clear_7 : decode cX8_clear 7 = .ok (.putfield 277, 3) := by decide +kernel
theorem dX8_clear_10 : decode cX8_clear 10 = .ok (.iload_n 1, 1) := by decide +kernel
theorem dX8_clear_11 : decode cX8_clear 11 = .ok (.ireturn, 1) := by decide +kernel
theorem dX8_here_0 : decode cX8_here 0 = .ok (.aload_n 0, 1) := by decide +kernel
theorem dX8_here_1 : decode cX8_here 1 = .ok (.getfield 280, 3) := by decide +kernel
theorem dX8_here_4 : decode cX8_here 4 = .ok (.aload_n 0, 1) := by decide +kernel
theorem dX8_here_5 : decode cX8_here 5 = .ok (.getfield 277, 3) := by decide +kernel
theorem dX8_here_8 : decode cX8_here 8 = .ok (.if_icmp .ge 30, 3) := by decide +kernel
theorem dX8_here_11 : decode cX8_here 11 = .ok (.aload_n 0, 1) := by decide +kernel
theorem dX8_here_12 : decode cX8_here 12 = .ok (.getfield 25, 3) := by decide +kernel
theorem dX8_here_15 : decode cX8_here 15 = .ok (.aload_n 0, 1) := by decide +kernel
theorem dX8_here_16 : decode cX8_here 16 = .ok (.getfield 280, 3) := by decide +kernel
theorem dX8_here_19 : decode cX8_here 19 = .ok (.iaload, 1) := by decide +kernel
theorem dX8_here_20 : decode cX8_here 20 = .ok (.bipush 32, 2) := by decide +kernel
theorem dX8_here_22 : decode cX8_here 22 = .ok (.if_icmp .ne 16, 3) := by decide +kernel
theorem dX8_here_25 : decode cX8_here 25 = .ok (.aload_n 0, 1) := by decide +kernel
theorem dX8_here_26 : decode cX8_here 26 = .ok (.dup, 1) := by decide +kernel
theorem dX8_here_27 : decode cX8_here 27 = .ok (.getfield 280, 3) := by decide +kernel
theorem dX8_here_30 : decode cX8_here 30 = .ok (.iconst 1, 1) := by decide +kernel
theorem dX8_here_31 : decode cX8_here 31 = .ok (.iadd, 1) := by decide +kernel
theorem dX8_here_32 : decode cX8_here 32 = .ok (.putfield 280, 3) := by decide +kernel
theorem dX8_here_35 : decode cX8_here 35 = .ok (.goto (-35), 3) := by decide +kernel
theorem dX8_here_38 : decode cX8_here 38 = .ok (.aload_n 0, 1) := by decide +kernel
theorem dX8_here_39 : decode cX8_here 39 = .ok (.getfield 280, 3) := by decide +kernel
theorem dX8_here_42 : decode cX8_here 42 = .ok (.aload_n 0, 1) := by decide +kernel
theorem dX8_here_43 : decode cX8_here 43 = .ok (.getfield 277, 3) := by decide +kernel
theorem dX8_here_46 : decode cX8_here 46 = .ok (.if_icmp .ge 15, 3) := by decide +kernel
theorem dX8_here_49 : decode cX8_here 49 = .ok (.aload_n 0, 1) := by decide +kernel
theorem dX8_here_50 : decode cX8_here 50 = .ok (.getfield 25, 3) := by decide +kernel
theorem dX8_here_53 : decode cX8_here 53 = .ok (.aload_n 0, 1) := by decide +kernel
theorem dX8_here_54 : decode cX8_here 54 = .ok (.getfield 280, 3) := by decide +kernel
theorem dX8_here_57 : decode cX8_here 57 = .ok (.iaload, 1) := by decide +kernel
theorem dX8_here_58 : decode cX8_here 58 = .ok (.goto 4, 3) := by decide +kernel
theorem dX8_here_61 : decode cX8_here 61 = .ok (.iconst (-1), 1) := by decide +kernel
theorem dX8_here_62 : decode cX8_here 62 = .ok (.ireturn, 1) := by decide +kernel
set_option maxRecDepth 20000 in
theorem ggX8_isFigure_X8_in : GoodIn wsX8_isFigure wsX8_in := goodIn_r _ [9] (by decide +kernel) (by decide +kernel)
set_option maxRecDepth 20000 in
theorem gX8_isFigure_X8_in : GoodIn wsX8_isFigure (va_wsS RX8 38 yX8_in wsX8_in) := goodIn_app (goodIn_of _ (by decide +kernel)) ggX8_isFigure_X8_in
theorem dX8_isFigure_0 : decode cX8_isFigure 0 = .ok (.aload_n 0, 1) := by decide +kernel
theorem dX8_isFigure_1 : decode cX8_isFigure 1 = .ok (.getfield 280, 3) := by decide +kernel
theorem dX8_isFigure_4 : decode cX8_isFigure 4 = .ok (.aload_n 0, 1) := by decide +kernel
theorem dX8_isFigure_5 : decode cX8_isFigure 5 = .ok (.getfield 277, 3) := by decide +kernel
theorem dX8_isFigure_8 : decode cX8_isFigure 8 = .ok (.if_icmp .ge 29, 3) := by decide +kernel
theorem dX8_isFigure_11 : decode cX8_isFigure 11 = .ok (.aload_n 0, 1) := by decide +kernel
theorem dX8_isFigure_12 : decode cX8_isFigure 12 = .ok (.getfield 25, 3) := by decide +kernel
theorem dX8_isFigure_15 : decode cX8_isFigure 15 = .ok (.aload_n 0, 1) := by decide +kernel
theorem dX8_isFigure_16 : decode cX8_isFigure 16 = .ok (.getfield 280, 3) := by decide +kernel
theorem dX8_isFigure_19 : decode cX8_isFigure 19 = .ok (.iaload, 1) := by decide +kernel
theorem dX8_isFigure_20 : decode cX8_isFigure 20 = .ok (.i2l, 1) := by decide +kernel
theorem dX8_isFigure_21 : decode cX8_isFigure 21 = .ok (.ldc2_w 283, 3) := by decide +kernel
theorem dX8_isFigure_24 : decode cX8_isFigure 24 = .ok (.ldc2_w 285, 3) := by decide +kernel
theorem dX8_isFigure_27 : decode cX8_isFigure 27 = .ok (.invokestatic 38, 3) := by decide +kernel
theorem dX8_isFigure_30 : decode cX8_isFigure 30 = .ok (.ifCond .eq 7, 3) := by decide +kernel
theorem dX8_isFigure_33 : decode cX8_isFigure 33 = .ok (.iconst 1, 1) := by decide +kernel
theorem dX8_isFigure_34 : decode cX8_isFigure 34 = .ok (.goto 4, 3) := by decide +kernel
theorem dX8_isFigure_37 : decode cX8_isFigure 37 = .ok (.iconst 0, 1) := by decide +kernel
theorem dX8_isFigure_38 : decode cX8_isFigure 38 = .ok (.ireturn, 1) := by decide +kernel
set_option maxRecDepth 20000 in
theorem ggX8_takes_X8_here : GoodIn wsX8_takes wsX8_here := goodIn_r _ [8, 1, 9, 2, 19, 20, 21, 22, 23, 24, 25, 26, 27, 28, 29, 30, 31, 32, 33, 34, 35] (by decide +kernel) (by decide +kernel)
set_option maxRecDepth 20000 in
theorem gX8_takes_X8_here : GoodIn wsX8_takes (wsV RX8 287 RX8 yX8_here wsX8_here) := goodIn_app (goodIn_of _ (by decide +kernel)) ggX8_takes_X8_here
set_option maxRecDepth 20000 in
theorem ggX8_takes_X8_isFigure : GoodIn wsX8_takes wsX8_isFigure := goodIn_r _ [13, 1, 9, 2, 14, 15, 16, 17, 7, 18, 19, 20, 21, 22, 23, 24, 25, 26, 27, 28, 29, 30, 31, 32, 33, 34, 35] (by decide +kernel) (by decide +kernel)
set_option maxRecDepth 20000 in
theorem gX8_takes_X8_isFigure : GoodIn wsX8_takes (wsV RX8 290 RX8 yX8_isFigure wsX8_isFigure) := goodIn_app (goodIn_of _ (by decide +kernel)) ggX8_takes_X8_isFigure
theorem dX8_takes_0 : decode cX8_takes 0 = .ok (.aload_n 0, 1) := by decide +kernel
theorem dX8_takes_1 : decode cX8_takes 1 = .ok (.invokevirtual 287, 3) := by decide +kernel
theorem dX8_takes_4 : decode cX8_takes 4 = .ok (.istore_n 3, 1) := by decide +kernel
theorem dX8_takes_5 : decode cX8_takes 5 = .ok (.iload_n 3, 1) := by decide +kernel
theorem dX8_takes_6 : decode cX8_takes 6 = .ok (.bipush 45, 2) := by decide +kernel
theorem dX8_takes_8 : decode cX8_takes 8 = .ok (.if_icmp .ne 11, 3) := by decide +kernel
theorem dX8_takes_11 : decode cX8_takes 11 = .ok (.iload_n 2, 1) := by decide +kernel
theorem dX8_takes_12 : decode cX8_takes 12 = .ok (.ifCond .eq 7, 3) := by decide +kernel
theorem dX8_takes_15 : decode cX8_takes 15 = .ok (.iconst 1, 1) := by decide +kernel
theorem dX8_takes_16 : decode cX8_takes 16 = .ok (.goto 4, 3) := by decide +kernel
theorem dX8_takes_19 : decode cX8_takes 19 = .ok (.iconst 0, 1) := by decide +kernel
theorem dX8_takes_20 : decode cX8_takes 20 = .ok (.istore 4, 2) := by decide +kernel
theorem dX8_takes_22 : decode cX8_takes 22 = .ok (.aload_n 0, 1) := by decide +kernel
theorem dX8_takes_23 : decode cX8_takes 23 = .ok (.dup, 1) := by decide +kernel
theorem dX8_takes_24 : decode cX8_takes 24 = .ok (.getfield 280, 3) := by decide +kernel
theorem dX8_takes_27 : decode cX8_takes 27 = .ok (.iload 4, 2) := by decide +kernel
theorem dX8_takes_29 : decode cX8_takes 29 = .ok (.ifCond .eq 7, 3) := by decide +kernel
theorem dX8_takes_32 : decode cX8_takes 32 = .ok (.iconst 1, 1) := by decide +kernel
theorem dX8_takes_33 : decode cX8_takes 33 = .ok (.goto 4, 3) := by decide +kernel
theorem dX8_takes_36 : decode cX8_takes 36 = .ok (.iconst 0, 1) := by decide +kernel
theorem dX8_takes_37 : decode cX8_takes 37 = .ok (.iadd, 1) := by decide +kernel
theorem dX8_takes_38 : decode cX8_takes 38 = .ok (.putfield 280, 3) := by decide +kernel
theorem dX8_takes_41 : decode cX8_takes 41 = .ok (.iconst 0, 1) := by decide +kernel
theorem dX8_takes_42 : decode cX8_takes 42 = .ok (.istore 5, 2) := by decide +kernel
theorem dX8_takes_44 : decode cX8_takes 44 = .ok (.iconst 0, 1) := by decide +kernel
theorem dX8_takes_45 : decode cX8_takes 45 = .ok (.istore 6, 2) := by decide +kernel
theorem dX8_takes_47 : decode cX8_takes 47 = .ok (.aload_n 0, 1) := by decide +kernel
theorem dX8_takes_48 : decode cX8_takes 48 = .ok (.invokevirtual 290, 3) := by decide +kernel
theorem dX8_takes_51 : decode cX8_takes 51 = .ok (.ifCond .eq 46, 3) := by decide +kernel
theorem dX8_takes_54 : decode cX8_takes 54 = .ok (.iload 5, 2) := by decide +kernel
theorem dX8_takes_56 : decode cX8_takes 56 = .ok (.bipush 9, 2) := by decide +kernel
theorem dX8_takes_58 : decode cX8_takes 58 = .ok (.if_icmp .ge 39, 3) := by decide +kernel
theorem dX8_takes_61 : decode cX8_takes 61 = .ok (.bipush 10, 2) := by decide +kernel
theorem dX8_takes_63 : decode cX8_takes 63 = .ok (.iload 6, 2) := by decide +kernel
theorem dX8_takes_65 : decode cX8_takes 65 = .ok (.imul, 1) := by decide +kernel
theorem dX8_takes_66 : decode cX8_takes 66 = .ok (.aload_n 0, 1) := by decide +kernel
theorem dX8_takes_67 : decode cX8_takes 67 = .ok (.getfield 25, 3) := by decide +kernel
theorem dX8_takes_70 : decode cX8_takes 70 = .ok (.aload_n 0, 1) := by decide +kernel
theorem dX8_takes_71 : decode cX8_takes 71 = .ok (.getfield 280, 3) := by decide +kernel
theorem dX8_takes_74 : decode cX8_takes 74 = .ok (.iaload, 1) := by decide +kernel
theorem dX8_takes_75 : decode cX8_takes 75 = .ok (.iadd, 1) := by decide +kernel
theorem dX8_takes_76 : decode cX8_takes 76 = .ok (.bipush 48, 2) := by decide +kernel
theorem dX8_takes_78 : decode cX8_takes 78 = .ok (.isub, 1) := by decide +kernel
theorem dX8_takes_79 : decode cX8_takes 79 = .ok (.istore 6, 2) := by decide +kernel
theorem dX8_takes_81 : decode cX8_takes 81 = .ok (.aload_n 0, 1) := by decide +kernel
theorem dX8_takes_82 : decode cX8_takes 82 = .ok (.dup, 1) := by decide +kernel
theorem dX8_takes_83 : decode cX8_takes 83 = .ok (.getfield 280, 3) := by decide +kernel
theorem dX8_takes_86 : decode cX8_takes 86 = .ok (.iconst 1, 1) := by decide +kernel
theorem dX8_takes_87 : decode cX8_takes 87 = .ok (.iadd, 1) := by decide +kernel
theorem dX8_takes_88 : decode cX8_takes 88 = .ok (.putfield 280, 3) := by decide +kernel
theorem dX8_takes_91 : decode cX8_takes 91 = .ok (.iinc 5 1, 3) := by decide +kernel
theorem dX8_takes_94 : decode cX8_takes 94 = .ok (.goto (-47), 3) := by decide +kernel
theorem dX8_takes_97 : decode cX8_takes 97 = .ok (.aload_n 0, 1) := by decide +kernel
theorem dX8_takes_98 : decode cX8_takes 98 = .ok (.getfield 28, 3) := by decide +kernel
theorem dX8_takes_101 : decode cX8_takes 101 = .ok (.iload_n 1, 1) := by decide +kernel
theorem dX8_takes_102 : decode cX8_takes 102 = .ok (.iload 4, 2) := by decide +kernel
theorem dX8_takes_104 : decode cX8_takes 104 = .ok (.ifCond .eq 9, 3) := by decide +kernel
theorem dX8_takes_107 : decode cX8_takes 107 = .ok (.iload 6, 2) := by decide +kernel
theorem dX8_takes_109 : decode cX8_takes 109 = .ok (.ineg, 1) := by decide +kernel
theorem dX8_takes_110 : decode cX8_takes 110 = .ok (.goto 5, 3) := by decide +kernel
theorem dX8_takes_113 : decode cX8_takes 113 = .ok (.iload 6, 2) := by decide +kernel
theorem dX8_takes_115 : decode cX8_takes 115 = .ok (.iastore, 1) := by decide +kernel
theorem dX8_takes_116 : decode cX8_takes 116 = .ok (.iload 5, 2) := by decide +kernel
theorem dX8_takes_118 : decode cX8_takes 118 = .ok (.ifCond .le 14, 3) := by decide +kernel
theorem dX8_takes_121 : decode cX8_takes 121 = .ok (.aload_n 0, 1) := by decide +kernel
theorem dX8_takes_122 : decode cX8_takes 122 = .ok (.invokevirtual 290, 3) := by decide +kernel
theorem dX8_takes_125 : decode cX8_takes 125 = .ok (.ifCond .ne 7, 3) := by decide +kernel
theorem dX8_takes_128 : decode cX8_takes 128 = .ok (.iconst 1, 1) := by decide +kernel
theorem dX8_takes_129 : decode cX8_takes 129 = .ok (.goto 4, 3) := by decide +kernel
theorem dX8_takes_132 : decode cX8_takes 132 = .ok (.iconst 0, 1) := by decide +kernel
theorem dX8_takes_133 : decode cX8_takes 133 = .ok (.ireturn, 1) := by decide +kernel
theorem dX8_numbersOf_0 : decode cX8_numbersOf 0 = .ok (.iload_n 0, 1) := by decide +kernel
theorem dX8_numbersOf_1 : decode cX8_numbersOf 1 = .ok (.bipush 117, 2) := by decide +kernel
theorem dX8_numbersOf_3 : decode cX8_numbersOf 3 = .ok (.if_icmp .ne 7, 3) := by decide +kernel
theorem dX8_numbersOf_6 : decode cX8_numbersOf 6 = .ok (.iconst 2, 1) := by decide +kernel
theorem dX8_numbersOf_7 : decode cX8_numbersOf 7 = .ok (.goto 34, 3) := by decide +kernel
theorem dX8_numbersOf_10 : decode cX8_numbersOf 10 = .ok (.iload_n 0, 1) := by decide +kernel
theorem dX8_numbersOf_11 : decode cX8_numbersOf 11 = .ok (.bipush 107, 2) := by decide +kernel
theorem dX8_numbersOf_13 : decode cX8_numbersOf 13 = .ok (.if_icmp .ne 7, 3) := by decide +kernel
theorem dX8_numbersOf_16 : decode cX8_numbersOf 16 = .ok (.iconst 4, 1) := by decide +kernel
theorem dX8_numbersOf_17 : decode cX8_numbersOf 17 = .ok (.goto 24, 3) := by decide +kernel
theorem dX8_numbersOf_20 : decode cX8_numbersOf 20 = .ok (.iload_n 0, 1) := by decide +kernel
theorem dX8_numbersOf_21 : decode cX8_numbersOf 21 = .ok (.bipush 99, 2) := by decide +kernel
theorem dX8_numbersOf_23 : decode cX8_numbersOf 23 = .ok (.if_icmp .ne 7, 3) := by decide +kernel
theorem dX8_numbersOf_26 : decode cX8_numbersOf 26 = .ok (.iconst 0, 1) := by decide +kernel
theorem dX8_numbersOf_27 : decode cX8_numbersOf 27 = .ok (.goto 14, 3) := by decide +kernel
theorem dX8_numbersOf_30 : decode cX8_numbersOf 30 = .ok (.iload_n 0, 1) := by decide +kernel
theorem dX8_numbersOf_31 : decode cX8_numbersOf 31 = .ok (.bipush 120, 2) := by decide +kernel
theorem dX8_numbersOf_33 : decode cX8_numbersOf 33 = .ok (.if_icmp .ne 7, 3) := by decide +kernel
theorem dX8_numbersOf_36 : decode cX8_numbersOf 36 = .ok (.iconst 1, 1) := by decide +kernel
theorem dX8_numbersOf_37 : decode cX8_numbersOf 37 = .ok (.goto 4, 3) := by decide +kernel
theorem dX8_numbersOf_40 : decode cX8_numbersOf 40 = .ok (.iconst (-1), 1) := by decide +kernel
theorem dX8_numbersOf_41 : decode cX8_numbersOf 41 = .ok (.ireturn, 1) := by decide +kernel
set_option maxRecDepth 20000 in
theorem ggX8_does__X8_place : GoodIn wsX8_does_ wsX8_place := goodIn_r _ [6, 7, 8, 9, 10, 11, 12, 13, 14, 15, 16, 17, 18, 19] (by decide +kernel) (by decide +kernel)
set_option maxRecDepth 20000 in
theorem gX8_does__X8_place : GoodIn wsX8_does_ (va_wsS RX8 69 yX8_place wsX8_place) := goodIn_app (goodIn_of _ (by decide +kernel)) ggX8_does__X8_place
set_option maxRecDepth 20000 in
theorem ggX8_does__X8_canUnknown : GoodIn wsX8_does_ wsX8_canUnknown := goodIn_r _ [23, 24, 25, 26, 27, 5, 28, 29, 30, 31, 32, 33, 34, 35, 36, 37, 38, 192, 193, 194, 195, 196, 197, 198, 199, 200, 201, 202, 203, 204, 205, 206, 207, 208] (by decide +kernel) (by decide +kernel)
set_option maxRecDepth 20000 in
theorem gX8_does__X8_canUnknown : GoodIn wsX8_does_ (wsV RX8 84 RX8 yX8_canUnknown wsX8_canUnknown) := goodIn_app (goodIn_of _ (by decide +kernel)) ggX8_does__X8_canUnknown
set_option maxRecDepth 20000 in
theorem ggX8_does__X8_unknownNow : GoodIn wsX8_does_ wsX8_unknownNow := goodIn_r _ [42, 38, 34, 35, 36, 5, 37, 192, 193, 194, 195, 196, 197, 198, 199, 200, 201, 202, 203, 204, 205, 206, 207, 208] (by decide +kernel) (by decide +kernel)
set_option maxRecDepth 20000 in
theorem gX8_does__X8_unknownNow : GoodIn wsX8_does_ (wsV RX8 94 RX8 yX8_unknownNow wsX8_unknownNow) := goodIn_app (goodIn_of _ (by decide +kernel)) ggX8_does__X8_unknownNow
set_option maxRecDepth 20000 in
theorem ggX8_does__X8_canRule : GoodIn wsX8_does_ wsX8_canRule := goodIn_r _ [46, 47, 24, 25, 48, 49, 50, 5, 51, 34, 35, 36, 37, 38, 31, 32, 33, 52, 53, 54, 55, 192, 193, 194, 195, 196, 197, 198, 199, 200, 201, 202, 203, 204, 205, 206, 207, 208] (by decide +kernel) (by decide +kernel)
set_option maxRecDepth 20000 in
theorem gX8_does__X8_canRule : GoodIn wsX8_does_ (wsV RX8 105 RX8 yX8_canRule wsX8_canRule) := goodIn_app (goodIn_of _ (by decide +kernel)) ggX8_does__X8_canRule
set_option maxRecDepth 20000 in
theorem ggX8_does__X8_ruleNow : GoodIn wsX8_does_ wsX8_ruleNow := goodIn_r _ [59, 38, 52, 53, 54, 5, 55, 192, 193, 194, 195, 196, 197, 198, 199, 200, 201, 202, 203, 204, 205, 206, 207, 208] (by decide +kernel) (by decide +kernel)
set_option maxRecDepth 20000 in
theorem gX8_does__X8_ruleNow : GoodIn wsX8_does_ (wsV RX8 109 RX8 yX8_ruleNow wsX8_ruleNow) := goodIn_app (goodIn_of _ (by decide +kernel)) ggX8_does__X8_ruleNow
set_option maxRecDepth 20000 in
theorem ggX8_does__X8_isRule : GoodIn wsX8_does_ wsX8_isRule := goodIn_r _ [63, 52, 53, 54, 5, 55, 38, 31, 32, 33, 192, 193, 194, 195, 196, 197, 198, 199, 200, 201, 202, 203, 204, 205, 206, 207, 208] (by decide +kernel) (by decide +kernel)
set_option maxRecDepth 20000 in
theorem gX8_does__X8_isRule : GoodIn wsX8_does_ (wsV RX8 112 RX8 yX8_isRule wsX8_isRule) := goodIn_app (goodIn_of _ (by decide +kernel)) ggX8_does__X8_isRule
set_option maxRecDepth 20000 in
theorem ggX8_does__X8_dropNow : GoodIn wsX8_does_ wsX8_dropNow := goodIn_r _ [67, 38, 52, 53, 54, 5, 55, 192, 193, 194, 195, 196, 197, 198, 199, 200, 201, 202, 203, 204, 205, 206, 207, 208] (by decide +kernel) (by decide +kernel)
set_option maxRecDepth 20000 in
theorem gX8_does__X8_dropNow : GoodIn wsX8_does_ (wsV RX8 115 RX8 yX8_dropNow wsX8_dropNow) := goodIn_app (goodIn_of _ (by decide +kernel)) ggX8_does__X8_dropNow
set_option maxRecDepth 20000 in
theorem ggX8_does__X8_cutNow : GoodIn wsX8_does_ wsX8_cutNow := goodIn_r _ [71, 72, 73, 38, 74, 75, 76, 5, 77, 78, 34, 35, 36, 37, 79, 80, 81, 82, 83, 84, 85, 86, 87, 88, 89, 90, 91, 52, 53, 54, 55, 92, 93, 94, 95, 96, 97, 98, 99, 100, 101, 102, 103, 104, 105, 106, 107, 108, 109, 110, 111, 112, 113, 114, 115, 116, 117, 15, 3, 4, 6, 7, 8, 9, 10, 11, 12, 13, 14, 16, 17, 18, 19, 118, 119, 120, 121, 122, 123, 124, 125, 126, 127, 128, 129, 130, 131, 132, 133, 134, 135, 136, 137, 138, 139, 140, 141, 142, 143, 144, 145, 146, 147, 148, 149, 150, 151, 152, 153, 154, 155, 156, 157, 158, 159, 160, 161, 162, 163, 164, 165, 166, 167, 168, 169, 170, 171, 172, 173, 174, 29, 175, 176, 177, 178, 179, 30, 180, 181, 182, 183, 184, 185, 186, 187, 188, 189, 190, 191, 192, 193, 194, 195, 196, 197, 198, 199, 200, 201, 202, 203, 204, 205, 206, 207, 208] (by decide +kernel) (by decide +kernel)
set_option maxRecDepth 20000 in
theorem gX8_does__X8_cutNow : GoodIn wsX8_does_ (wsV RX8 222 RX8 yX8_cutNow wsX8_cutNow) := goodIn_app (goodIn_of _ (by decide +kernel)) ggX8_does__X8_cutNow
theorem dX8_does__0 : decode cX8_does_ 0 = .ok (.iload_n 1, 1) := by decide +kernel
theorem dX8_does__1 : decode cX8_does_ 1 = .ok (.bipush 117, 2) := by decide +kernel
theorem dX8_does__3 : decode cX8_does_ 3 = .ok (.if_icmp .ne 65, 3) := by decide +kernel
theorem dX8_does__6 : decode cX8_does_ 6 = .ok (.aload_n 0, 1) := by decide +kernel
theorem dX8_does__7 : decode cX8_does_ 7 = .ok (.getfield 28, 3) := by decide +kernel
theorem dX8_does__10 : decode cX8_does_ 10 = .ok (.iconst 0, 1) := by decide +kernel
theorem dX8_does__11 : decode cX8_does_ 11 = .ok (.iaload, 1) := by decide +kernel
theorem dX8_does__12 : decode cX8_does_ 12 = .ok (.i2f, 1) := by decide +kernel
theorem dX8_does__13 : decode cX8_does_ 13 = .ok (.invokestatic 69, 3) := by decide +kernel
theorem dX8_does__16 : decode cX8_does_ 16 = .ok (.istore_n 2, 1) := by decide +kernel
theorem dX8_does__17 : decode cX8_does_ 17 = .ok (.aload_n 0, 1) := by decide +kernel
theorem dX8_does__18 : decode cX8_does_ 18 = .ok (.getfield 28, 3) := by decide +kernel
theorem dX8_does__21 : decode cX8_does_ 21 = .ok (.iconst 1, 1) := by decide +kernel
theorem dX8_does__22 : decode cX8_does_ 22 = .ok (.iaload, 1) := by decide +kernel
theorem dX8_does__23 : decode cX8_does_ 23 = .ok (.i2f, 1) := by decide +kernel
theorem dX8_does__24 : decode cX8_does_ 24 = .ok (.invokestatic 69, 3) := by decide +kernel
theorem dX8_does__27 : decode cX8_does_ 27 = .ok (.istore_n 3, 1) := by decide +kernel
theorem dX8_does__28 : decode cX8_does_ 28 = .ok (.aload_n 0, 1) := by decide +kernel
theorem dX8_does__29 : decode cX8_does_ 29 = .ok (.aload_n 0, 1) := by decide +kernel
theorem dX8_does__30 : decode cX8_does_ 30 = .ok (.iload_n 2, 1) := by decide +kernel
theorem dX8_does__31 : decode cX8_does_ 31 = .ok (.iload_n 3, 1) := by decide +kernel
theorem dX8_does__32 : decode cX8_does_ 32 = .ok (.invokevirtual 84, 3) := by decide +kernel
theorem dX8_does__35 : decode cX8_does_ 35 = .ok (.ifCond .ge 7, 3) := by decide +kernel
theorem dX8_does__38 : decode cX8_does_ 38 = .ok (.iconst 1, 1) := by decide +kernel
theorem dX8_does__39 : decode cX8_does_ 39 = .ok (.goto 4, 3) := by decide +kernel
theorem dX8_does__42 : decode cX8_does_ 42 = .ok (.iconst 0, 1) := by decide +kernel
theorem dX8_does__43 : decode cX8_does_ 43 = .ok (.putfield 293, 3) := by decide +kernel
theorem dX8_does__46 : decode cX8_does_ 46 = .ok (.aload_n 0, 1) := by decide +kernel
theorem dX8_does__47 : decode cX8_does_ 47 = .ok (.getfield 293, 3) := by decide +kernel
theorem dX8_does__50 : decode cX8_does_ 50 = .ok (.ifCond .eq 7, 3) := by decide +kernel
theorem dX8_does__53 : decode cX8_does_ 53 = .ok (.iconst 0, 1) := by decide +kernel
theorem dX8_does__54 : decode cX8_does_ 54 = .ok (.goto 9, 3) := by decide +kernel
theorem dX8_does__57 : decode cX8_does_ 57 = .ok (.aload_n 0, 1) := by decide +kernel
theorem dX8_does__58 : decode cX8_does_ 58 = .ok (.iload_n 2, 1) := by decide +kernel
theorem dX8_does__59 : decode cX8_does_ 59 = .ok (.iload_n 3, 1) := by decide +kernel
theorem dX8_does__60 : decode cX8_does_ 60 = .ok (.invokevirtual 94, 3) := by decide +kernel
theorem dX8_does__63 : decode cX8_does_ 63 = .ok (.istore 4, 2) := by decide +kernel
theorem dX8_does__65 : decode cX8_does_ 65 = .ok (.goto 150, 3) := by decide +kernel
theorem dX8_does__68 : decode cX8_does_ 68 = .ok (.iload_n 1, 1) := by decide +kernel
theorem dX8_does__69 : decode cX8_does_ 69 = .ok (.bipush 107, 2) := by decide +kernel
theorem dX8_does__71 : decode cX8_does_ 71 = .ok (.if_icmp .ne 86, 3) := by decide +kernel
theorem dX8_does__74 : decode cX8_does_ 74 = .ok (.aload_n 0, 1) := by decide +kernel
theorem dX8_does__75 : decode cX8_does_ 75 = .ok (.aload_n 0, 1) := by decide +kernel
theorem dX8_does__76 : decode cX8_does_ 76 = .ok (.aload_n 0, 1) := by decide +kernel
theorem dX8_does__77 : decode cX8_does_ 77 = .ok (.getfield 28, 3) := by decide +kernel
theorem dX8_does__80 : decode cX8_does_ 80 = .ok (.iconst 0, 1) := by decide +kernel
theorem dX8_does__81 : decode cX8_does_ 81 = .ok (.iaload, 1) := by decide +kernel
theorem dX8_does__82 : decode cX8_does_ 82 = .ok (.aload_n 0, 1) := by decide +kernel
theorem dX8_does__83 : decode cX8_does_ 83 = .ok (.getfield 28, 3) := by decide +kernel
theorem dX8_does__86 : decode cX8_does_ 86 = .ok (.iconst 1, 1) := by decide +kernel
theorem dX8_does__87 : decode cX8_does_ 87 = .ok (.iaload, 1) := by decide +kernel
theorem dX8_does__88 : decode cX8_does_ 88 = .ok (.aload_n 0, 1) := by decide +kernel
theorem dX8_does__89 : decode cX8_does_ 89 = .ok (.getfield 28, 3) := by decide +kernel
theorem dX8_does__92 : decode cX8_does_ 92 = .ok (.iconst 2, 1) := by decide +kernel
theorem dX8_does__93 : decode cX8_does_ 93 = .ok (.iaload, 1) := by decide +kernel
theorem dX8_does__94 : decode cX8_does_ 94 = .ok (.aload_n 0, 1) := by decide +kernel
theorem dX8_does__95 : decode cX8_does_ 95 = .ok (.getfield 28, 3) := by decide +kernel
theorem dX8_does__98 : decode cX8_does_ 98 = .ok (.iconst 3, 1) := by decide +kernel
theorem dX8_does__99 : decode cX8_does_ 99 = .ok (.iaload, 1) := by decide +kernel
theorem dX8_does__100 : decode cX8_does_ 100 = .ok (.invokevirtual 105, 3) := by decide +kernel
theorem dX8_does__103 : decode cX8_does_ 103 = .ok (.ifCond .ge 7, 3) := by decide +kernel
theorem dX8_does__106 : decode cX8_does_ 106 = .ok (.iconst 1, 1) := by decide +kernel
theorem dX8_does__107 : decode cX8_does_ 107 = .ok (.goto 4, 3) := by decide +kernel
theorem dX8_does__110 : decode cX8_does_ 110 = .ok (.iconst 0, 1) := by decide +kernel
theorem dX8_does__111 : decode cX8_does_ 111 = .ok (.putfield 293, 3) := by decide +kernel
theorem dX8_does__114 : decode cX8_does_ 114 = .ok (.aload_n 0, 1) := by decide +kernel
theorem dX8_does__115 : decode cX8_does_ 115 = .ok (.getfield 293, 3) := by decide +kernel
theorem dX8_does__118 : decode cX8_does_ 118 = .ok (.ifCond .eq 7, 3) := by decide +kernel
theorem dX8_does__121 : decode cX8_does_ 121 = .ok (.iconst 0, 1) := by decide +kernel
theorem dX8_does__122 : decode cX8_does_ 122 = .ok (.goto 31, 3) := by decide +kernel
theorem dX8_does__125 : decode cX8_does_ 125 = .ok (.aload_n 0, 1) := by decide +kernel
theorem dX8_does__126 : decode cX8_does_ 126 = .ok (.aload_n 0, 1) := by decide +kernel
theorem dX8_does__127 : decode cX8_does_ 127 = .ok (.getfield 28, 3) := by decide +kernel
theorem dX8_does__130 : decode cX8_does_ 130 = .ok (.iconst 0, 1) := by decide +kernel
theorem dX8_does__131 : decode cX8_does_ 131 = .ok (.iaload, 1) := by decide +kernel
theorem dX8_does__132 : decode cX8_does_ 132 = .ok (.aload_n 0, 1) := by decide +kernel
theorem dX8_does__133 : decode cX8_does_ 133 = .ok (.getfield 28, 3) := by decide +kernel
theorem dX8_does__136 : decode cX8_does_ 136 = .ok (.iconst 1, 1) := by decide +kernel
theorem dX8_does__137 : decode cX8_does_ 137 = .ok (.iaload, 1) := by decide +kernel
theorem dX8_does__138 : decode cX8_does_ 138 = .ok (.aload_n 0, 1) := by decide +kernel
theorem dX8_does__139 : decode cX8_does_ 139 = .ok (.getfield 28, 3) := by decide +kernel
theorem dX8_does__142 : decode cX8_does_ 142 = .ok (.iconst 2, 1) := by decide +kernel
theorem dX8_does__143 : decode cX8_does_ 143 = .ok (.iaload, 1) := by decide +kernel
theorem dX8_does__144 : decode cX8_does_ 144 = .ok (.aload_n 0, 1) := by decide +kernel
theorem dX8_does__145 : decode cX8_does_ 145 = .ok (.getfield 28, 3) := by decide +kernel
theorem dX8_does__148 : decode cX8_does_ 148 = .ok (.iconst 3, 1) := by decide +kernel
theorem dX8_does__149 : decode cX8_does_ 149 = .ok (.iaload, 1) := by decide +kernel
theorem dX8_does__150 : decode cX8_does_ 150 = .ok (.invokevirtual 109, 3) := by decide +kernel
theorem dX8_does__153 : decode cX8_does_ 153 = .ok (.istore_n 2, 1) := by decide +kernel
theorem dX8_does__154 : decode cX8_does_ 154 = .ok (.goto 61, 3) := by decide +kernel
theorem dX8_does__157 : decode cX8_does_ 157 = .ok (.iload_n 1, 1) := by decide +kernel
theorem dX8_does__158 : decode cX8_does_ 158 = .ok (.bipush 120, 2) := by decide +kernel
theorem dX8_does__160 : decode cX8_does_ 160 = .ok (.if_icmp .ne 50, 3) := by decide +kernel
theorem dX8_does__163 : decode cX8_does_ 163 = .ok (.aload_n 0, 1) := by decide +kernel
theorem dX8_does__164 : decode cX8_does_ 164 = .ok (.aload_n 0, 1) := by decide +kernel
theorem dX8_does__165 : decode cX8_does_ 165 = .ok (.aload_n 0, 1) := by decide +kernel
theorem dX8_does__166 : decode cX8_does_ 166 = .ok (.getfield 28, 3) := by decide +kernel
theorem dX8_does__169 : decode cX8_does_ 169 = .ok (.iconst 0, 1) := by decide +kernel
theorem dX8_does__170 : decode cX8_does_ 170 = .ok (.iaload, 1) := by decide +kernel
theorem dX8_does__171 : decode cX8_does_ 171 = .ok (.invokevirtual 112, 3) := by decide +kernel
theorem dX8_does__174 : decode cX8_does_ 174 = .ok (.ifCond .ne 7, 3) := by decide +kernel
theorem dX8_does__177 : decode cX8_does_ 177 = .ok (.iconst 1, 1) := by decide +kernel
theorem dX8_does__178 : decode cX8_does_ 178 = .ok (.goto 4, 3) := by decide +kernel
theorem dX8_does__181 : decode cX8_does_ 181 = .ok (.iconst 0, 1) := by decide +kernel
theorem dX8_does__182 : decode cX8_does_ 182 = .ok (.putfield 293, 3) := by decide +kernel
theorem dX8_does__185 : decode cX8_does_ 185 = .ok (.aload_n 0, 1) := by decide +kernel
theorem dX8_does__186 : decode cX8_does_ 186 = .ok (.getfield 293, 3) := by decide +kernel
theorem dX8_does__189 : decode cX8_does_ 189 = .ok (.ifCond .eq 7, 3) := by decide +kernel
theorem dX8_does__192 : decode cX8_does_ 192 = .ok (.iconst 0, 1) := by decide +kernel
theorem dX8_does__193 : decode cX8_does_ 193 = .ok (.goto 13, 3) := by decide +kernel
theorem dX8_does__196 : decode cX8_does_ 196 = .ok (.aload_n 0, 1) := by decide +kernel
theorem dX8_does__197 : decode cX8_does_ 197 = .ok (.aload_n 0, 1) := by decide +kernel
theorem dX8_does__198 : decode cX8_does_ 198 = .ok (.getfield 28, 3) := by decide +kernel
theorem dX8_does__201 : decode cX8_does_ 201 = .ok (.iconst 0, 1) := by decide +kernel
theorem dX8_does__202 : decode cX8_does_ 202 = .ok (.iaload, 1) := by decide +kernel
theorem dX8_does__203 : decode cX8_does_ 203 = .ok (.invokevirtual 115, 3) := by decide +kernel
theorem dX8_does__206 : decode cX8_does_ 206 = .ok (.istore_n 2, 1) := by decide +kernel
theorem dX8_does__207 : decode cX8_does_ 207 = .ok (.goto 8, 3) := by decide +kernel
theorem dX8_does__210 : decode cX8_does_ 210 = .ok (.aload_n 0, 1) := by decide +kernel
theorem dX8_does__211 : decode cX8_does_ 211 = .ok (.invokevirtual 222, 3) := by decide +kernel
theorem dX8_does__214 : decode cX8_does_ 214 = .ok (.istore_n 2, 1) := by decide +kernel
theorem dX8_does__215 : decode cX8_does_ 215 = .ok (.return_, 1) := by decide +kernel
set_option maxRecDepth 20000 in
theorem ggX8_readsOrder_X8_here : GoodIn wsX8_readsOrder wsX8_here := goodIn_r _ [6, 1, 7, 8, 216, 217, 218, 219, 220, 221, 222, 223, 224, 225, 226, 227, 228, 229, 230, 231, 232] (by decide +kernel) (by decide +kernel)
set_option maxRecDepth 20000 in
theorem gX8_readsOrder_X8_here : GoodIn wsX8_readsOrder (wsV RX8 287 RX8 yX8_here wsX8_here) := goodIn_app (goodIn_of _ (by decide +kernel)) ggX8_readsOrder_X8_here
set_option maxRecDepth 20000 in
theorem ggX8_readsOrder_X8_numbersOf : GoodIn wsX8_readsOrder wsX8_numbersOf := goodIn_r _ [11] (by decide +kernel) (by decide +kernel)
set_option maxRecDepth 20000 in
theorem gX8_readsOrder_X8_numbersOf : GoodIn wsX8_readsOrder (va_wsS RX8 296 yX8_numbersOf wsX8_numbersOf) := goodIn_app (goodIn_of _ (by decide +kernel)) ggX8_readsOrder_X8_numbersOf
set_option maxRecDepth 20000 in
theorem ggX8_readsOrder_X8_takes : GoodIn wsX8_readsOrder wsX8_takes := goodIn_r _ [15, 1, 8, 16, 2, 3, 4, 5, 6, 7, 17, 18, 19, 20, 21, 22, 23, 24, 25, 216, 217, 218, 219, 220, 221, 222, 223, 224, 225, 226, 227, 228, 229, 230, 231, 232] (by decide +kernel) (by decide +kernel)
set_option maxRecDepth 20000 in
theorem gX8_readsOrder_X8_takes : GoodIn wsX8_readsOrder (wsV RX8 299 RX8 yX8_takes wsX8_takes) := goodIn_app (goodIn_of _ (by decide +kernel)) ggX8_readsOrder_X8_takes
set_option maxRecDepth 20000 in
theorem ggX8_readsOrder_X8_does_ : GoodIn wsX8_readsOrder wsX8_does_ := goodIn_r _ [29, 16, 30, 31, 32, 5, 33, 34, 35, 36, 37, 38, 39, 40, 41, 42, 43, 44, 45, 46, 47, 48, 49, 50, 51, 52, 53, 54, 55, 56, 57, 23, 24, 25, 58, 59, 60, 61, 62, 63, 64, 65, 66, 67, 68, 69, 70, 71, 72, 73, 74, 75, 76, 77, 78, 79, 80, 81, 82, 83, 84, 85, 86, 87, 88, 89, 90, 91, 92, 93, 94, 95, 96, 97, 98, 99, 100, 101, 102, 103, 104, 105, 106, 107, 108, 109, 110, 111, 112, 113, 114, 115, 116, 117, 118, 119, 120, 121, 122, 123, 124, 125, 126, 127, 128, 129, 130, 131, 132, 133, 134, 135, 136, 137, 138, 139, 140, 141, 142, 143, 144, 145, 146, 147, 148, 149, 150, 151, 152, 153, 154, 155, 156, 157, 158, 159, 160, 161, 162, 163, 164, 165, 166, 167, 168, 169, 170, 171, 172, 173, 174, 175, 176, 177, 178, 179, 180, 181, 182, 183, 184, 185, 186, 187, 188, 189, 190, 191, 192, 193, 194, 195, 196, 197, 198, 199, 200, 201, 202, 203, 204, 205, 206, 207, 208, 209, 210, 211, 212, 213, 214, 215, 216, 217, 218, 219, 220, 221, 222, 223, 224, 225, 226, 227, 228, 229, 230, 231, 232] (by decide +kernel) (by decide +kernel)
set_option maxRecDepth 20000 in
theorem gX8_readsOrder_X8_does_ : GoodIn wsX8_readsOrder (wsV RX8 303 RX8 yX8_does_ wsX8_does_) := goodIn_app (goodIn_of _ (by decide +kernel)) ggX8_readsOrder_X8_does_
theorem dX8_readsOrder_0 : decode cX8_readsOrder 0 = .ok (.aload_n 0, 1) := by decide +kernel
theorem dX8_readsOrder_1 : decode cX8_readsOrder 1 = .ok (.invokevirtual 287, 3) := by decide +kernel
theorem dX8_readsOrder_4 : decode cX8_readsOrder 4 = .ok (.istore_n 2, 1) := by decide +kernel
theorem dX8_readsOrder_5 : decode cX8_readsOrder 5 = .ok (.iload_n 2, 1) := by decide +kernel
theorem dX8_readsOrder_6 : decode cX8_readsOrder 6 = .ok (.invokestatic 296, 3) := by decide +kernel
theorem dX8_readsOrder_9 : decode cX8_readsOrder 9 = .ok (.istore_n 3, 1) := by decide +kernel
theorem dX8_readsOrder_10 : decode cX8_readsOrder 10 = .ok (.iload_n 3, 1) := by decide +kernel
theorem dX8_readsOrder_11 : decode cX8_readsOrder 11 = .ok (.ifCond .ge 5, 3) := by decide +kernel
theorem dX8_readsOrder_14 : decode cX8_readsOrder 14 = .ok (.iconst 0, 1) := by decide +kernel
theorem dX8_readsOrder_15 : decode cX8_readsOrder 15 = .ok (.ireturn, 1) := by decide +kernel
theorem dX8_readsOrder_16 : decode cX8_readsOrder 16 = .ok (.aload_n 0, 1) := by decide +kernel
theorem dX8_readsOrder_17 : decode cX8_readsOrder 17 = .ok (.dup, 1) := by decide +kernel
theorem dX8_readsOrder_18 : decode cX8_readsOrder 18 = .ok (.getfield 280, 3) := by decide +kernel
theorem dX8_readsOrder_21 : decode cX8_readsOrder 21 = .ok (.iconst 1, 1) := by decide +kernel
theorem dX8_readsOrder_22 : decode cX8_readsOrder 22 = .ok (.iadd, 1) := by decide +kernel
theorem dX8_readsOrder_23 : decode cX8_readsOrder 23 = .ok (.putfield 280, 3) := by decide +kernel
theorem dX8_readsOrder_26 : decode cX8_readsOrder 26 = .ok (.iconst 0, 1) := by decide +kernel
theorem dX8_readsOrder_27 : decode cX8_readsOrder 27 = .ok (.istore 4, 2) := by decide +kernel
theorem dX8_readsOrder_29 : decode cX8_readsOrder 29 = .ok (.iload 4, 2) := by decide +kernel
theorem dX8_readsOrder_31 : decode cX8_readsOrder 31 = .ok (.iload_n 3, 1) := by decide +kernel
theorem dX8_readsOrder_32 : decode cX8_readsOrder 32 = .ok (.if_icmp .ge 31, 3) := by decide +kernel
theorem dX8_readsOrder_35 : decode cX8_readsOrder 35 = .ok (.aload_n 0, 1) := by decide +kernel
theorem dX8_readsOrder_36 : decode cX8_readsOrder 36 = .ok (.iload 4, 2) := by decide +kernel
theorem dX8_readsOrder_38 : decode cX8_readsOrder 38 = .ok (.iload_n 2, 1) := by decide +kernel
theorem dX8_readsOrder_39 : decode cX8_readsOrder 39 = .ok (.bipush 117, 2) := by decide +kernel
theorem dX8_readsOrder_41 : decode cX8_readsOrder 41 = .ok (.if_icmp .ne 7, 3) := by decide +kernel
theorem dX8_readsOrder_44 : decode cX8_readsOrder 44 = .ok (.iconst 1, 1) := by decide +kernel
theorem dX8_readsOrder_45 : decode cX8_readsOrder 45 = .ok (.goto 4, 3) := by decide +kernel
theorem dX8_readsOrder_48 : decode cX8_readsOrder 48 = .ok (.iconst 0, 1) := by decide +kernel
theorem dX8_readsOrder_49 : decode cX8_readsOrder 49 = .ok (.invokevirtual 299, 3) := by decide +kernel
theorem dX8_readsOrder_52 : decode cX8_readsOrder 52 = .ok (.ifCond .ne 5, 3) := by decide +kernel
theorem dX8_readsOrder_55 : decode cX8_readsOrder 55 = .ok (.iconst 0, 1) := by decide +kernel
theorem dX8_readsOrder_56 : decode cX8_readsOrder 56 = .ok (.ireturn, 1) := by decide +kernel
theorem dX8_readsOrder_57 : decode cX8_readsOrder 57 = .ok (.iinc 4 1, 3) := by decide +kernel
theorem dX8_readsOrder_60 : decode cX8_readsOrder 60 = .ok (.goto (-31), 3) := by decide +kernel
theorem dX8_readsOrder_63 : decode cX8_readsOrder 63 = .ok (.aload_n 0, 1) := by decide +kernel
theorem dX8_readsOrder_64 : decode cX8_readsOrder 64 = .ok (.invokevirtual 287, 3) := by decide +kernel
theorem dX8_readsOrder_67 : decode cX8_readsOrder 67 = .ok (.bipush 59, 2) := by decide +kernel
theorem dX8_readsOrder_69 : decode cX8_readsOrder 69 = .ok (.if_icmp .eq 5, 3) := by decide +kernel
theorem dX8_readsOrder_72 : decode cX8_readsOrder 72 = .ok (.iconst 0, 1) := by decide +kernel
theorem dX8_readsOrder_73 : decode cX8_readsOrder 73 = .ok (.ireturn, 1) := by decide +kernel
theorem dX8_readsOrder_74 : decode cX8_readsOrder 74 = .ok (.aload_n 0, 1) := by decide +kernel
theorem dX8_readsOrder_75 : decode cX8_readsOrder 75 = .ok (.dup, 1) := by decide +kernel
theorem dX8_readsOrder_76 : decode cX8_readsOrder 76 = .ok (.getfield 280, 3) := by decide +kernel
theorem dX8_readsOrder_79 : decode cX8_readsOrder 79 = .ok (.iconst 1, 1) := by decide +kernel
theorem dX8_readsOrder_80 : decode cX8_readsOrder 80 = .ok (.iadd, 1) := by decide +kernel
theorem dX8_readsOrder_81 : decode cX8_readsOrder 81 = .ok (.putfield 280, 3) := by decide +kernel
theorem dX8_readsOrder_84 : decode cX8_readsOrder 84 = .ok (.iload_n 1, 1) := by decide +kernel
theorem dX8_readsOrder_85 : decode cX8_readsOrder 85 = .ok (.ifCond .eq 8, 3) := by decide +kernel
theorem dX8_readsOrder_88 : decode cX8_readsOrder 88 = .ok (.aload_n 0, 1) := by decide +kernel
theorem dX8_readsOrder_89 : decode cX8_readsOrder 89 = .ok (.iload_n 2, 1) := by decide +kernel
theorem dX8_readsOrder_90 : decode cX8_readsOrder 90 = .ok (.invokevirtual 303, 3) := by decide +kernel
theorem dX8_readsOrder_93 : decode cX8_readsOrder 93 = .ok (.iconst 1, 1) := by decide +kernel
theorem dX8_readsOrder_94 : decode cX8_readsOrder 94 = .ok (.ireturn, 1) := by decide +kernel
theorem dX8_swaps_0 : decode cX8_swaps 0 = .ok (.iconst 0, 1) := by decide +kernel
theorem dX8_swaps_1 : decode cX8_swaps 1 = .ok (.istore_n 1, 1) := by decide +kernel
theorem dX8_swaps_2 : decode cX8_swaps 2 = .ok (.iload_n 1, 1) := by decide +kernel
theorem dX8_swaps_3 : decode cX8_swaps 3 = .ok (.bipush 38, 2) := by decide +kernel
theorem dX8_swaps_5 : decode cX8_swaps 5 = .ok (.if_icmp .ge 35, 3) := by decide +kernel
theorem dX8_swaps_8 : decode cX8_swaps 8 = .ok (.aload_n 0, 1) := by decide +kernel
theorem dX8_swaps_9 : decode cX8_swaps 9 = .ok (.getfield 7, 3) := by decide +kernel
theorem dX8_swaps_12 : decode cX8_swaps 12 = .ok (.iload_n 1, 1) := by decide +kernel
theorem dX8_swaps_13 : decode cX8_swaps 13 = .ok (.iaload, 1) := by decide +kernel
theorem dX8_swaps_14 : decode cX8_swaps 14 = .ok (.istore_n 2, 1) := by decide +kernel
theorem dX8_swaps_15 : decode cX8_swaps 15 = .ok (.aload_n 0, 1) := by decide +kernel
theorem dX8_swaps_16 : decode cX8_swaps 16 = .ok (.getfield 7, 3) := by decide +kernel
theorem dX8_swaps_19 : decode cX8_swaps 19 = .ok (.iload_n 1, 1) := by decide +kernel
theorem dX8_swaps_20 : decode cX8_swaps 20 = .ok (.aload_n 0, 1) := by decide +kernel
theorem dX8_swaps_21 : decode cX8_swaps 21 = .ok (.getfield 31, 3) := by decide +kernel
theorem dX8_swaps_24 : decode cX8_swaps 24 = .ok (.iload_n 1, 1) := by decide +kernel
theorem dX8_swaps_25 : decode cX8_swaps 25 = .ok (.iaload, 1) := by decide +kernel
theorem dX8_swaps_26 : decode cX8_swaps 26 = .ok (.iastore, 1) := by decide +kernel
theorem dX8_swaps_27 : decode cX8_swaps 27 = .ok (.aload_n 0, 1) := by decide +kernel
theorem dX8_swaps_28 : decode cX8_swaps 28 = .ok (.getfield 31, 3) := by decide +kernel
theorem dX8_swaps_31 : decode cX8_swaps 31 = .ok (.iload_n 1, 1) := by decide +kernel
theorem dX8_swaps_32 : decode cX8_swaps 32 = .ok (.iload_n 2, 1) := by decide +kernel
theorem dX8_swaps_33 : decode cX8_swaps 33 = .ok (.iastore, 1) := by decide +kernel
theorem dX8_swaps_34 : decode cX8_swaps 34 = .ok (.iinc 1 1, 3) := by decide +kernel
theorem dX8_swaps_37 : decode cX8_swaps 37 = .ok (.goto (-35), 3) := by decide +kernel
theorem dX8_swaps_40 : decode cX8_swaps 40 = .ok (.return_, 1) := by decide +kernel
set_option maxRecDepth 20000 in
theorem ggX8_reads_X8_readsOrder : GoodIn wsX8_reads wsX8_readsOrder := goodIn_r _ [9, 1, 10, 11, 12, 8, 13, 14, 15, 16, 17, 18, 19, 20, 21, 22, 23, 24, 25, 26, 27, 28, 29, 30, 31, 32, 33, 34, 35, 36, 4, 37, 38, 39, 40, 41, 42, 43, 44, 45, 46, 47, 48, 49, 50, 51, 52, 53, 54, 55, 56, 57, 58, 59, 60, 61, 62, 63, 64, 65, 66, 67, 3, 68, 69, 70, 71, 72, 73, 74, 75, 76, 77, 78, 79, 80, 81, 82, 83, 84, 85, 86, 87, 88, 89, 90, 91, 92, 93, 94, 95, 96, 97, 98, 99, 100, 101, 102, 103, 104, 105, 106, 107, 108, 109, 110, 111, 112, 113, 114, 115, 116, 117, 118, 119, 120, 121, 122, 123, 124, 125, 126, 127, 128, 129, 130, 131, 132, 133, 134, 135, 136, 137, 138, 139, 140, 141, 142, 143, 144, 145, 146, 147, 148, 149, 150, 151, 152, 153, 154, 155, 156, 157, 158, 159, 160, 161, 162, 163, 164, 165, 166, 167, 168, 169, 170, 171, 172, 173, 174, 175, 176, 177, 178, 179, 180, 181, 182, 183, 184, 185, 186, 187, 188, 189, 190, 191, 192, 193, 194, 195, 196, 197, 198, 199, 200, 201, 202, 203, 204, 205, 206, 207, 208, 209, 210, 211, 212, 213, 214, 215, 216, 217, 218, 219, 220, 231, 232, 233, 234, 235, 236, 237, 238, 239, 240, 241, 242, 243, 244, 245, 246, 247] (by decide +kernel) (by decide +kernel)
set_option maxRecDepth 20000 in
theorem gX8_reads_X8_readsOrder : GoodIn wsX8_reads (wsV RX8 306 RX8 yX8_readsOrder wsX8_readsOrder) := goodIn_app (goodIn_of _ (by decide +kernel)) ggX8_reads_X8_readsOrder
set_option maxRecDepth 20000 in
theorem ggX8_reads_X8_here : GoodIn wsX8_reads wsX8_here := goodIn_r _ [13, 1, 14, 15, 231, 232, 233, 234, 235, 236, 237, 238, 239, 240, 241, 242, 243, 244, 245, 246, 247] (by decide +kernel) (by decide +kernel)
set_option maxRecDepth 20000 in
theorem gX8_reads_X8_here : GoodIn wsX8_reads (wsV RX8 287 RX8 yX8_here wsX8_here) := goodIn_app (goodIn_of _ (by decide +kernel)) ggX8_reads_X8_here
set_option maxRecDepth 20000 in
theorem ggX8_reads_X8_swaps : GoodIn wsX8_reads wsX8_swaps := goodIn_r _ [224, 3, 2, 231, 232, 233, 234, 235, 236, 237, 238, 239, 240, 241, 242, 243, 244, 245, 246, 247] (by decide +kernel) (by decide +kernel)
set_option maxRecDepth 20000 in
theorem gX8_reads_X8_swaps : GoodIn wsX8_reads (wsV RX8 310 RX8 yX8_swaps wsX8_swaps) := goodIn_app (goodIn_of _ (by decide +kernel)) ggX8_reads_X8_swaps
set_option maxRecDepth 20000 in
theorem ggX8_reads_X8_keep : GoodIn wsX8_reads wsX8_keep := goodIn_r _ [228, 229, 230, 3, 231, 232, 233, 234, 235, 236, 237, 238, 239, 240, 241, 242, 243, 244, 245, 246, 247] (by decide +kernel) (by decide +kernel)
set_option maxRecDepth 20000 in
theorem gX8_reads_X8_keep : GoodIn wsX8_reads (wsV RX8 91 RX8 yX8_keep wsX8_keep) := goodIn_app (goodIn_of _ (by decide +kernel)) ggX8_reads_X8_keep
theorem dX8_reads_0 : decode cX8_reads 0 = .ok (.aload_n 0, 1) := by decide +kernel
theorem dX8_reads_1 : decode cX8_reads 1 = .ok (.iconst 0, 1) := by decide +kernel
theorem dX8_reads_2 : decode cX8_reads 2 = .ok (.putfield 280, 3) := by decide +kernel
theorem dX8_reads_5 : decode cX8_reads 5 = .ok (.aload_n 0, 1) := by decide +kernel
theorem dX8_reads_6 : decode cX8_reads 6 = .ok (.iconst 0, 1) := by decide +kernel
theorem dX8_reads_7 : decode cX8_reads 7 = .ok (.invokevirtual 306, 3) := by decide +kernel
theorem dX8_reads_10 : decode cX8_reads 10 = .ok (.istore_n 1, 1) := by decide +kernel
theorem dX8_reads_11 : decode cX8_reads 11 = .ok (.iload_n 1, 1) := by decide +kernel
theorem dX8_reads_12 : decode cX8_reads 12 = .ok (.ifCond .eq 20, 3) := by decide +kernel
theorem dX8_reads_15 : decode cX8_reads 15 = .ok (.aload_n 0, 1) := by decide +kernel
theorem dX8_reads_16 : decode cX8_reads 16 = .ok (.invokevirtual 287, 3) := by decide +kernel
theorem dX8_reads_19 : decode cX8_reads 19 = .ok (.iconst (-1), 1) := by decide +kernel
theorem dX8_reads_20 : decode cX8_reads 20 = .ok (.if_icmp .eq 12, 3) := by decide +kernel
theorem dX8_reads_23 : decode cX8_reads 23 = .ok (.aload_n 0, 1) := by decide +kernel
theorem dX8_reads_24 : decode cX8_reads 24 = .ok (.iconst 0, 1) := by decide +kernel
theorem dX8_reads_25 : decode cX8_reads 25 = .ok (.invokevirtual 306, 3) := by decide +kernel
theorem dX8_reads_28 : decode cX8_reads 28 = .ok (.istore_n 1, 1) := by decide +kernel
theorem dX8_reads_29 : decode cX8_reads 29 = .ok (.goto (-18), 3) := by decide +kernel
theorem dX8_reads_32 : decode cX8_reads 32 = .ok (.iload_n 1, 1) := by decide +kernel
theorem dX8_reads_33 : decode cX8_reads 33 = .ok (.ifCond .ne 11, 3) := by decide +kernel
theorem dX8_reads_36 : decode cX8_reads 36 = .ok (.bipush (-10), 2) := by decide +kernel
theorem dX8_reads_38 : decode cX8_reads 38 = .ok (.aload_n 0, 1) := by decide +kernel
theorem dX8_reads_39 : decode cX8_reads 39 = .ok (.getfield 280, 3) := by decide +kernel
theorem dX8_reads_42 : decode cX8_reads 42 = .ok (.isub, 1) := by decide +kernel
theorem dX8_reads_43 : decode cX8_reads 43 = .ok (.ireturn, 1) := by decide +kernel
theorem dX8_reads_44 : decode cX8_reads 44 = .ok (.iconst 0, 1) := by decide +kernel
theorem dX8_reads_45 : decode cX8_reads 45 = .ok (.istore_n 2, 1) := by decide +kernel
theorem dX8_reads_46 : decode cX8_reads 46 = .ok (.iload_n 2, 1) := by decide +kernel
theorem dX8_reads_47 : decode cX8_reads 47 = .ok (.bipush 38, 2) := by decide +kernel
theorem dX8_reads_49 : decode cX8_reads 49 = .ok (.if_icmp .ge 21, 3) := by decide +kernel
theorem dX8_reads_52 : decode cX8_reads 52 = .ok (.aload_n 0, 1) := by decide +kernel
theorem dX8_reads_53 : decode cX8_reads 53 = .ok (.getfield 31, 3) := by decide +kernel
theorem dX8_reads_56 : decode cX8_reads 56 = .ok (.iload_n 2, 1) := by decide +kernel
theorem dX8_reads_57 : decode cX8_reads 57 = .ok (.aload_n 0, 1) := by decide +kernel
theorem dX8_reads_58 : decode cX8_reads 58 = .ok (.getfield 7, 3) := by decide +kernel
theorem dX8_reads_61 : decode cX8_reads 61 = .ok (.iload_n 2, 1) := by decide +kernel
theorem dX8_reads_62 : decode cX8_reads 62 = .ok (.iaload, 1) := by decide +kernel
theorem dX8_reads_63 : decode cX8_reads 63 = .ok (.iastore, 1) := by decide +kernel
theorem dX8_reads_64 : decode cX8_reads 64 = .ok (.iinc 2 1, 3) := by decide +kernel
theorem dX8_reads_67 : decode cX8_reads 67 = .ok (.goto (-21), 3) := by decide +kernel
theorem dX8_reads_70 : decode cX8_reads 70 = .ok (.iconst 0, 1) := by decide +kernel
theorem dX8_reads_71 : decode cX8_reads 71 = .ok (.istore_n 2, 1) := by decide +kernel
theorem dX8_reads_72 : decode cX8_reads 72 = .ok (.aload_n 0, 1) := by decide +kernel
theorem dX8_reads_73 : decode cX8_reads 73 = .ok (.iconst 0, 1) := by decide +kernel
theorem dX8_reads_74 : decode cX8_reads 74 = .ok (.putfield 280, 3) := by decide +kernel
theorem dX8_reads_77 : decode cX8_reads 77 = .ok (.aload_n 0, 1) := by decide +kernel
theorem dX8_reads_78 : decode cX8_reads 78 = .ok (.iconst 0, 1) := by decide +kernel
theorem dX8_reads_79 : decode cX8_reads 79 = .ok (.putfield 293, 3) := by decide +kernel
theorem dX8_reads_82 : decode cX8_reads 82 = .ok (.aload_n 0, 1) := by decide +kernel
theorem dX8_reads_83 : decode cX8_reads 83 = .ok (.invokevirtual 287, 3) := by decide +kernel
theorem dX8_reads_86 : decode cX8_reads 86 = .ok (.iconst (-1), 1) := by decide +kernel
theorem dX8_reads_87 : decode cX8_reads 87 = .ok (.if_icmp .eq 32, 3) := by decide +kernel
theorem dX8_reads_90 : decode cX8_reads 90 = .ok (.aload_n 0, 1) := by decide +kernel
theorem dX8_reads_91 : decode cX8_reads 91 = .ok (.iconst 1, 1) := by decide +kernel
theorem dX8_reads_92 : decode cX8_reads 92 = .ok (.invokevirtual 306, 3) := by decide +kernel
theorem dX8_reads_95 : decode cX8_reads 95 = .ok (.istore_n 1, 1) := by decide +kernel
theorem dX8_reads_96 : decode cX8_reads 96 = .ok (.aload_n 0, 1) := by decide +kernel
theorem dX8_reads_97 : decode cX8_reads 97 = .ok (.getfield 293, 3) := by decide +kernel
theorem dX8_reads_100 : decode cX8_reads 100 = .ok (.ifCond .eq 13, 3) := by decide +kernel
theorem dX8_reads_103 : decode cX8_reads 103 = .ok (.aload_n 0, 1) := by decide +kernel
theorem dX8_reads_104 : decode cX8_reads 104 = .ok (.invokevirtual 310, 3) := by decide +kernel
theorem dX8_reads_107 : decode cX8_reads 107 = .ok (.sipush (-1000), 3) := by decide +kernel
theorem dX8_reads_110 : decode cX8_reads 110 = .ok (.iload_n 2, 1) := by decide +kernel
theorem dX8_reads_111 : decode cX8_reads 111 = .ok (.isub, 1) := by decide +kernel
theorem dX8_reads_112 : decode cX8_reads 112 = .ok (.ireturn, 1) := by decide +kernel
theorem dX8_reads_113 : decode cX8_reads 113 = .ok (.iinc 2 1, 3) := by decide +kernel
theorem dX8_reads_116 : decode cX8_reads 116 = .ok (.goto (-34), 3) := by decide +kernel
theorem dX8_reads_119 : decode cX8_reads 119 = .ok (.aload_n 0, 1) := by decide +kernel
theorem dX8_reads_120 : decode cX8_reads 120 = .ok (.invokevirtual 310, 3) := by decide +kernel
theorem dX8_reads_123 : decode cX8_reads 123 = .ok (.aload_n 0, 1) := by decide +kernel
theorem dX8_reads_124 : decode cX8_reads 124 = .ok (.invokevirtual 91, 3) := by decide +kernel
theorem dX8_reads_127 : decode cX8_reads 127 = .ok (.aload_n 0, 1) := by decide +kernel
theorem dX8_reads_128 : decode cX8_reads 128 = .ok (.invokevirtual 310, 3) := by decide +kernel
theorem dX8_reads_131 : decode cX8_reads 131 = .ok (.iload_n 2, 1) := by decide +kernel
theorem dX8_reads_132 : decode cX8_reads 132 = .ok (.ireturn, 1) := by decide +kernel
set_option maxRecDepth 20000 in
theorem ggX8_back_X8_refuses : GoodIn wsX8_back wsX8_refuses := goodIn_r _ [9, 10, 11, 12, 13, 14, 15, 16, 17, 18, 19, 20, 21, 22, 23, 24, 25, 26, 27, 28] (by decide +kernel) (by decide +kernel)
set_option maxRecDepth 20000 in
theorem gX8_back_X8_refuses : GoodIn wsX8_back (wsV RX8 87 RX8 yX8_refuses wsX8_refuses) := goodIn_app (goodIn_of _ (by decide +kernel)) ggX8_back_X8_refuses
theorem dX8_back_0 : decode cX8_back 0 = .ok (.aload_n 0, 1) := by decide +kernel
theorem dX8_back_1 : decode cX8_back 1 = .ok (.getfield 43, 3) := by decide +kernel
theorem dX8_back_4 : decode cX8_back 4 = .ok (.ifCond .ne 11, 3) := by decide +kernel
theorem dX8_back_7 : decode cX8_back 7 = .ok (.aload_n 0, 1) := by decide +kernel
theorem dX8_back_8 : decode cX8_back 8 = .ok (.ldc_w 264, 3) := by decide +kernel
theorem dX8_back_11 : decode cX8_back 11 = .ok (.invokevirtual 87, 3) := by decide +kernel
theorem dX8_back_14 : decode cX8_back 14 = .ok (.ireturn, 1) := by decide +kernel
theorem dX8_back_15 : decode cX8_back 15 = .ok (.aload_n 0, 1) := by decide +kernel
theorem dX8_back_16 : decode cX8_back 16 = .ok (.dup, 1) := by decide +kernel
theorem dX8_back_17 : decode cX8_back 17 = .ok (.getfield 43, 3) := by decide +kernel
theorem dX8_back_20 : decode cX8_back 20 = .ok (.iconst 1, 1) := by decide +kernel
theorem dX8_back_21 : decode cX8_back 21 = .ok (.isub, 1) := by decide +kernel
theorem dX8_back_22 : decode cX8_back 22 = .ok (.putfield 43, 3) := by decide +kernel
theorem dX8_back_25 : decode cX8_back 25 = .ok (.iconst 0, 1) := by decide +kernel
theorem dX8_back_26 : decode cX8_back 26 = .ok (.istore_n 1, 1) := by decide +kernel
theorem dX8_back_27 : decode cX8_back 27 = .ok (.iload_n 1, 1) := by decide +kernel
theorem dX8_back_28 : decode cX8_back 28 = .ok (.bipush 38, 2) := by decide +kernel
theorem dX8_back_30 : decode cX8_back 30 = .ok (.if_icmp .ge 29, 3) := by decide +kernel
theorem dX8_back_33 : decode cX8_back 33 = .ok (.aload_n 0, 1) := by decide +kernel
theorem dX8_back_34 : decode cX8_back 34 = .ok (.getfield 7, 3) := by decide +kernel
theorem dX8_back_37 : decode cX8_back 37 = .ok (.iload_n 1, 1) := by decide +kernel
theorem dX8_back_38 : decode cX8_back 38 = .ok (.aload_n 0, 1) := by decide +kernel
theorem dX8_back_39 : decode cX8_back 39 = .ok (.getfield 13, 3) := by decide +kernel
theorem dX8_back_42 : decode cX8_back 42 = .ok (.bipush 38, 2) := by decide +kernel
theorem dX8_back_44 : decode cX8_back 44 = .ok (.aload_n 0, 1) := by decide +kernel
theorem dX8_back_45 : decode cX8_back 45 = .ok (.getfield 43, 3) := by decide +kernel
theorem dX8_back_48 : decode cX8_back 48 = .ok (.imul, 1) := by decide +kernel
theorem dX8_back_49 : decode cX8_back 49 = .ok (.iload_n 1, 1) := by decide +kernel
theorem dX8_back_50 : decode cX8_back 50 = .ok (.iadd, 1) := by decide +kernel
theorem dX8_back_51 : decode cX8_back 51 = .ok (.iaload, 1) := by decide +kernel
theorem dX8_back_52 : decode cX8_back 52 = .ok (.iastore, 1) := by decide +kernel
theorem dX8_back_53 : decode cX8_back 53 = .ok (.iinc 1 1, 3) := by decide +kernel
theorem dX8_back_56 : decode cX8_back 56 = .ok (.goto (-29), 3) := by decide +kernel
theorem dX8_back_59 : decode cX8_back 59 = .ok (.aload_n 0, 1) := by decide +kernel
theorem dX8_back_60 : decode cX8_back 60 = .ok (.getfield 43, 3) := by decide +kernel
theorem dX8_back_63 : decode cX8_back 63 = .ok (.ireturn, 1) := by decide +kernel
set_option maxRecDepth 20000 in
theorem ggX8_toldOf_X8_unknowns : GoodIn wsX8_toldOf wsX8_unknowns := goodIn_r _ [8, 9, 14, 15, 16, 17, 18, 19, 20, 21, 22, 23, 24, 25, 26, 27, 28, 29, 30] (by decide +kernel) (by decide +kernel)
set_option maxRecDepth 20000 in
theorem gX8_toldOf_X8_unknowns : GoodIn wsX8_toldOf (wsV RX8 47 RX8 yX8_unknowns wsX8_unknowns) := goodIn_app (goodIn_of _ (by decide +kernel)) ggX8_toldOf_X8_unknowns
set_option maxRecDepth 20000 in
theorem ggX8_toldOf_X8_rules : GoodIn wsX8_toldOf wsX8_rules := goodIn_r _ [13, 9, 14, 15, 16, 17, 18, 19, 20, 21, 22, 23, 24, 25, 26, 27, 28, 29, 30] (by decide +kernel) (by decide +kernel)
set_option maxRecDepth 20000 in
theorem gX8_toldOf_X8_rules : GoodIn wsX8_toldOf (wsV RX8 51 RX8 yX8_rules wsX8_rules) := goodIn_app (goodIn_of _ (by decide +kernel)) ggX8_toldOf_X8_rules
theorem dX8_toldOf_0 : decode cX8_toldOf 0 = .ok (.iload_n 1, 1) := by decide +kernel
theorem dX8_toldOf_1 : decode cX8_toldOf 1 = .ok (.iconst 3, 1) := by decide +kernel
theorem dX8_toldOf_2 : decode cX8_toldOf 2 = .ok (.if_icmp .ge 12, 3) := by decide +kernel
theorem dX8_toldOf_5 : decode cX8_toldOf 5 = .ok (.aload_n 0, 1) := by decide +kernel
theorem dX8_toldOf_6 : decode cX8_toldOf 6 = .ok (.getfield 16, 3) := by decide +kernel
theorem dX8_toldOf_9 : decode cX8_toldOf 9 = .ok (.iload_n 1, 1) := by decide +kernel
theorem dX8_toldOf_10 : decode cX8_toldOf 10 = .ok (.iaload, 1) := by decide +kernel
theorem dX8_toldOf_11 : decode cX8_toldOf 11 = .ok (.goto 43, 3) := by decide +kernel
theorem dX8_toldOf_14 : decode cX8_toldOf 14 = .ok (.iload_n 1, 1) := by decide +kernel
theorem dX8_toldOf_15 : decode cX8_toldOf 15 = .ok (.iconst 3, 1) := by decide +kernel
theorem dX8_toldOf_16 : decode cX8_toldOf 16 = .ok (.if_icmp .ne 10, 3) := by decide +kernel
theorem dX8_toldOf_19 : decode cX8_toldOf 19 = .ok (.aload_n 0, 1) := by decide +kernel
theorem dX8_toldOf_20 : decode cX8_toldOf 20 = .ok (.getfield 277, 3) := by decide +kernel
theorem dX8_toldOf_23 : decode cX8_toldOf 23 = .ok (.goto 31, 3) := by decide +kernel
theorem dX8_toldOf_26 : decode cX8_toldOf 26 = .ok (.iload_n 1, 1) := by decide +kernel
theorem dX8_toldOf_27 : decode cX8_toldOf 27 = .ok (.iconst 4, 1) := by decide +kernel
theorem dX8_toldOf_28 : decode cX8_toldOf 28 = .ok (.if_icmp .ne 10, 3) := by decide +kernel
theorem dX8_toldOf_31 : decode cX8_toldOf 31 = .ok (.aload_n 0, 1) := by decide +kernel
theorem dX8_toldOf_32 : decode cX8_toldOf 32 = .ok (.invokevirtual 47, 3) := by decide +kernel
theorem dX8_toldOf_35 : decode cX8_toldOf 35 = .ok (.goto 19, 3) := by decide +kernel
theorem dX8_toldOf_38 : decode cX8_toldOf 38 = .ok (.iload_n 1, 1) := by decide +kernel
theorem dX8_toldOf_39 : decode cX8_toldOf 39 = .ok (.iconst 5, 1) := by decide +kernel
theorem dX8_toldOf_40 : decode cX8_toldOf 40 = .ok (.if_icmp .ne 10, 3) := by decide +kernel
theorem dX8_toldOf_43 : decode cX8_toldOf 43 = .ok (.aload_n 0, 1) := by decide +kernel
theorem dX8_toldOf_44 : decode cX8_toldOf 44 = .ok (.invokevirtual 51, 3) := by decide +kernel
theorem dX8_toldOf_47 : decode cX8_toldOf 47 = .ok (.goto 7, 3) := by decide +kernel
theorem dX8_toldOf_50 : decode cX8_toldOf 50 = .ok (.aload_n 0, 1) := by decide +kernel
theorem dX8_toldOf_51 : decode cX8_toldOf 51 = .ok (.getfield 43, 3) := by decide +kernel
theorem dX8_toldOf_54 : decode cX8_toldOf 54 = .ok (.ireturn, 1) := by decide +kernel
set_option maxRecDepth 20000 in
theorem ggX8_told_X8_in : GoodIn wsX8_told wsX8_in := goodIn_r _ [6] (by decide +kernel) (by decide +kernel)
set_option maxRecDepth 20000 in
theorem gX8_told_X8_in : GoodIn wsX8_told (va_wsS RX8 38 yX8_in wsX8_in) := goodIn_app (goodIn_of _ (by decide +kernel)) ggX8_told_X8_in
set_option maxRecDepth 20000 in
theorem ggX8_told_X8_toldOf : GoodIn wsX8_told wsX8_toldOf := goodIn_r _ [10, 11, 12, 13, 14, 15, 16, 5, 17, 18, 19, 20, 21, 22, 27, 28, 29, 30, 31, 32, 33, 34, 35, 36, 37, 38, 39, 40, 41, 42, 43] (by decide +kernel) (by decide +kernel)
set_option maxRecDepth 20000 in
theorem gX8_told_X8_toldOf : GoodIn wsX8_told (wsV RX8 315 RX8 yX8_toldOf wsX8_toldOf) := goodIn_app (goodIn_of _ (by decide +kernel)) ggX8_told_X8_toldOf
set_option maxRecDepth 20000 in
theorem ggX8_told_X8_refuses : GoodIn wsX8_told wsX8_refuses := goodIn_r _ [26, 11, 2, 27, 28, 29, 30, 31, 32, 33, 34, 35, 36, 37, 38, 39, 40, 41, 42, 43] (by decide +kernel) (by decide +kernel)
set_option maxRecDepth 20000 in
theorem gX8_told_X8_refuses : GoodIn wsX8_told (wsV RX8 87 RX8 yX8_refuses wsX8_refuses) := goodIn_app (goodIn_of _ (by decide +kernel)) ggX8_told_X8_refuses
theorem dX8_told_0 : decode cX8_told 0 = .ok (.iload_n 1, 1) := by decide +kernel
theorem dX8_told_1 : decode cX8_told 1 = .ok (.i2l, 1) := by decide +kernel
theorem dX8_told_2 : decode cX8_told 2 = .ok (.lconst 0, 1) := by decide +kernel
theorem dX8_told_3 : decode cX8_told 3 = .ok (.ldc2_w 313, 3) := by decide +kernel
theorem dX8_told_6 : decode cX8_told 6 = .ok (.invokestatic 38, 3) := by decide +kernel
theorem dX8_told_9 : decode cX8_told 9 = .ok (.ifCond .eq 11, 3) := by decide +kernel
theorem dX8_told_12 : decode cX8_told 12 = .ok (.aload_n 0, 1) := by decide +kernel
theorem dX8_told_13 : decode cX8_told 13 = .ok (.iload_n 1, 1) := by decide +kernel
theorem dX8_told_14 : decode cX8_told 14 = .ok (.invokevirtual 315, 3) := by decide +kernel
theorem dX8_told_17 : decode cX8_told 17 = .ok (.goto 9, 3) := by decide +kernel
theorem dX8_told_20 : decode cX8_told 20 = .ok (.aload_n 0, 1) := by decide +kernel
theorem dX8_told_21 : decode cX8_told 21 = .ok (.ldc 42, 2) := by decide +kernel
theorem dX8_told_23 : decode cX8_told 23 = .ok (.invokevirtual 87, 3) := by decide +kernel
theorem dX8_told_26 : decode cX8_told 26 = .ok (.ireturn, 1) := by decide +kernel
set_option maxRecDepth 20000 in
theorem ggX8_digest_X8_toldOf : GoodIn wsX8_digest wsX8_toldOf := goodIn_r _ [8, 9, 10, 11, 12, 13, 14, 7, 15, 3, 16, 17, 18, 19, 78, 79, 80, 81, 82, 83, 84, 85, 86, 87, 88, 89, 90, 91, 92, 93, 94] (by decide +kernel) (by decide +kernel)
set_option maxRecDepth 20000 in
theorem gX8_digest_X8_toldOf : GoodIn wsX8_digest (wsV RX8 315 RX8 yX8_toldOf wsX8_toldOf) := goodIn_app (goodIn_of _ (by decide +kernel)) ggX8_digest_X8_toldOf
set_option maxRecDepth 20000 in
theorem ggX8_digest_X8_unknowns : GoodIn wsX8_digest wsX8_unknowns := goodIn_r _ [15, 3, 78, 79, 80, 81, 82, 83, 84, 85, 86, 87, 88, 89, 90, 91, 92, 93, 94] (by decide +kernel) (by decide +kernel)
set_option maxRecDepth 20000 in
theorem gX8_digest_X8_unknowns : GoodIn wsX8_digest (wsV RX8 47 RX8 yX8_unknowns wsX8_unknowns) := goodIn_app (goodIn_of _ (by decide +kernel)) ggX8_digest_X8_unknowns
set_option maxRecDepth 20000 in
theorem ggX8_digest_X8_rules : GoodIn wsX8_digest wsX8_rules := goodIn_r _ [19, 3, 78, 79, 80, 81, 82, 83, 84, 85, 86, 87, 88, 89, 90, 91, 92, 93, 94] (by decide +kernel) (by decide +kernel)
set_option maxRecDepth 20000 in
theorem gX8_digest_X8_rules : GoodIn wsX8_digest (wsV RX8 51 RX8 yX8_rules wsX8_rules) := goodIn_app (goodIn_of _ (by decide +kernel)) ggX8_digest_X8_rules
set_option maxRecDepth 20000 in
theorem ggX8_digest_X8_laysBox : GoodIn wsX8_digest wsX8_laysBox := goodIn_r _ [23, 24, 25, 12, 13, 14, 7, 15, 3, 26, 27, 28, 29, 30, 31, 32, 33, 78, 79, 80, 81, 82, 83, 84, 85, 86, 87, 88, 89, 90, 91, 92, 93, 94] (by decide +kernel) (by decide +kernel)
set_option maxRecDepth 20000 in
theorem gX8_digest_X8_laysBox : GoodIn wsX8_digest (wsV RX8 215 RX8 yX8_laysBox wsX8_laysBox) := goodIn_app (goodIn_of _ (by decide +kernel)) ggX8_digest_X8_laysBox
set_option maxRecDepth 20000 in
theorem ggX8_digest_X8_allHold : GoodIn wsX8_digest wsX8_allHold := goodIn_r _ [37, 16, 17, 18, 7, 19, 3, 38, 39, 40, 41, 42, 43, 44, 45, 24, 46, 47, 48, 49, 50, 51, 52, 53, 54, 55, 56, 57, 58, 59, 60, 61, 62, 63, 64, 65, 66, 67, 68, 69, 70, 71, 72, 73, 74, 75, 76, 77, 78, 79, 80, 81, 82, 83, 84, 85, 86, 87, 88, 89, 90, 91, 92, 93, 94] (by decide +kernel) (by decide +kernel)
set_option maxRecDepth 20000 in
theorem gX8_digest_X8_allHold : GoodIn wsX8_digest (wsV RX8 243 RX8 yX8_allHold wsX8_allHold) := goodIn_app (goodIn_of _ (by decide +kernel)) ggX8_digest_X8_allHold
theorem dX8_digest_0 : decode cX8_digest 0 = .ok (.ldc2_w 318, 3) := by decide +kernel
theorem dX8_digest_3 : decode cX8_digest 3 = .ok (.lstore_n 1, 1) := by decide +kernel
theorem dX8_digest_4 : decode cX8_digest 4 = .ok (.iconst 0, 1) := by decide +kernel
theorem dX8_digest_5 : decode cX8_digest 5 = .ok (.istore_n 3, 1) := by decide +kernel
theorem dX8_digest_6 : decode cX8_digest 6 = .ok (.iload_n 3, 1) := by decide +kernel
theorem dX8_digest_7 : decode cX8_digest 7 = .ok (.bipush 7, 2) := by decide +kernel
theorem dX8_digest_9 : decode cX8_digest 9 = .ok (.if_icmp .ge 22, 3) := by decide +kernel
theorem dX8_digest_12 : decode cX8_digest 12 = .ok (.ldc2_w 320, 3) := by decide +kernel
theorem dX8_digest_15 : decode cX8_digest 15 = .ok (.lload_n 1, 1) := by decide +kernel
theorem dX8_digest_16 : decode cX8_digest 16 = .ok (.lmul, 1) := by decide +kernel
theorem dX8_digest_17 : decode cX8_digest 17 = .ok (.aload_n 0, 1) := by decide +kernel
theorem dX8_digest_18 : decode cX8_digest 18 = .ok (.iload_n 3, 1) := by decide +kernel
theorem dX8_digest_19 : decode cX8_digest 19 = .ok (.invokevirtual 315, 3) := by decide +kernel
theorem dX8_digest_22 : decode cX8_digest 22 = .ok (.i2l, 1) := by decide +kernel
theorem dX8_digest_23 : decode cX8_digest 23 = .ok (.ladd, 1) := by decide +kernel
theorem dX8_digest_24 : decode cX8_digest 24 = .ok (.lstore_n 1, 1) := by decide +kernel
theorem dX8_digest_25 : decode cX8_digest 25 = .ok (.iinc 3 1, 3) := by decide +kernel
theorem dX8_digest_28 : decode cX8_digest 28 = .ok (.goto (-22), 3) := by decide +kernel
theorem dX8_digest_31 : decode cX8_digest 31 = .ok (.iconst 1, 1) := by decide +kernel
theorem dX8_digest_32 : decode cX8_digest 32 = .ok (.istore_n 3, 1) := by decide +kernel
theorem dX8_digest_33 : decode cX8_digest 33 = .ok (.iload_n 3, 1) := by decide +kernel
theorem dX8_digest_34 : decode cX8_digest 34 = .ok (.iconst 2, 1) := by decide +kernel
theorem dX8_digest_35 : decode cX8_digest 35 = .ok (.aload_n 0, 1) := by decide +kernel
theorem dX8_digest_36 : decode cX8_digest 36 = .ok (.invokevirtual 47, 3) := by decide +kernel
theorem dX8_digest_39 : decode cX8_digest 39 = .ok (.imul, 1) := by decide +kernel
theorem dX8_digest_40 : decode cX8_digest 40 = .ok (.if_icmp .gt 23, 3) := by decide +kernel
theorem dX8_digest_43 : decode cX8_digest 43 = .ok (.ldc2_w 320, 3) := by decide +kernel
theorem dX8_digest_46 : decode cX8_digest 46 = .ok (.lload_n 1, 1) := by decide +kernel
theorem dX8_digest_47 : decode cX8_digest 47 = .ok (.lmul, 1) := by decide +kernel
theorem dX8_digest_48 : decode cX8_digest 48 = .ok (.aload_n 0, 1) := by decide +kernel
theorem dX8_digest_49 : decode cX8_digest 49 = .ok (.getfield 7, 3) := by decide +kernel
theorem dX8_digest_52 : decode cX8_digest 52 = .ok (.iload_n 3, 1) := by decide +kernel
theorem dX8_digest_53 : decode cX8_digest 53 = .ok (.iaload, 1) := by decide +kernel
theorem dX8_digest_54 : decode cX8_digest 54 = .ok (.i2l, 1) := by decide +kernel
theorem dX8_digest_55 : decode cX8_digest 55 = .ok (.ladd, 1) := by decide +kernel
theorem dX8_digest_56 : decode cX8_digest 56 = .ok (.lstore_n 1, 1) := by decide +kernel
theorem dX8_digest_57 : decode cX8_digest 57 = .ok (.iinc 3 1, 3) := by decide +kernel
theorem dX8_digest_60 : decode cX8_digest 60 = .ok (.goto (-27), 3) := by decide +kernel
theorem dX8_digest_63 : decode cX8_digest 63 = .ok (.iconst 0, 1) := by decide +kernel
theorem dX8_digest_64 : decode cX8_digest 64 = .ok (.istore_n 3, 1) := by decide +kernel
theorem dX8_digest_65 : decode cX8_digest 65 = .ok (.iload_n 3, 1) := by decide +kernel
theorem dX8_digest_66 : decode cX8_digest 66 = .ok (.iconst 4, 1) := by decide +kernel
theorem dX8_digest_67 : decode cX8_digest 67 = .ok (.aload_n 0, 1) := by decide +kernel
theorem dX8_digest_68 : decode cX8_digest 68 = .ok (.invokevirtual 51, 3) := by decide +kernel
theorem dX8_digest_71 : decode cX8_digest 71 = .ok (.imul, 1) := by decide +kernel
theorem dX8_digest_72 : decode cX8_digest 72 = .ok (.if_icmp .ge 26, 3) := by decide +kernel
theorem dX8_digest_75 : decode cX8_digest 75 = .ok (.ldc2_w 320, 3) := by decide +kernel
theorem dX8_digest_78 : decode cX8_digest 78 = .ok (.lload_n 1, 1) := by decide +kernel
theorem dX8_digest_79 : decode cX8_digest 79 = .ok (.lmul, 1) := by decide +kernel
theorem dX8_digest_80 : decode cX8_digest 80 = .ok (.aload_n 0, 1) := by decide +kernel
theorem dX8_digest_81 : decode cX8_digest 81 = .ok (.getfield 7, 3) := by decide +kernel
theorem dX8_digest_84 : decode cX8_digest 84 = .ok (.bipush 14, 2) := by decide +kernel
theorem dX8_digest_86 : decode cX8_digest 86 = .ok (.iload_n 3, 1) := by decide +kernel
theorem dX8_digest_87 : decode cX8_digest 87 = .ok (.iadd, 1) := by decide +kernel
theorem dX8_digest_88 : decode cX8_digest 88 = .ok (.iaload, 1) := by decide +kernel
theorem dX8_digest_89 : decode cX8_digest 89 = .ok (.i2l, 1) := by decide +kernel
theorem dX8_digest_90 : decode cX8_digest 90 = .ok (.ladd, 1) := by decide +kernel
theorem dX8_digest_91 : decode cX8_digest 91 = .ok (.lstore_n 1, 1) := by decide +kernel
theorem dX8_digest_92 : decode cX8_digest 92 = .ok (.iinc 3 1, 3) := by decide +kernel
theorem dX8_digest_95 : decode cX8_digest 95 = .ok (.goto (-30), 3) := by decide +kernel
theorem dX8_digest_98 : decode cX8_digest 98 = .ok (.aload_n 0, 1) := by decide +kernel
theorem dX8_digest_99 : decode cX8_digest 99 = .ok (.invokevirtual 215, 3) := by decide +kernel
theorem dX8_digest_102 : decode cX8_digest 102 = .ok (.ldc2_w 320, 3) := by decide +kernel
theorem dX8_digest_105 : decode cX8_digest 105 = .ok (.lload_n 1, 1) := by decide +kernel
theorem dX8_digest_106 : decode cX8_digest 106 = .ok (.lmul, 1) := by decide +kernel
theorem dX8_digest_107 : decode cX8_digest 107 = .ok (.aload_n 0, 1) := by decide +kernel
theorem dX8_digest_108 : decode cX8_digest 108 = .ok (.invokevirtual 243, 3) := by decide +kernel
theorem dX8_digest_111 : decode cX8_digest 111 = .ok (.ifCond .eq 7, 3) := by decide +kernel
theorem dX8_digest_114 : decode cX8_digest 114 = .ok (.iconst 1, 1) := by decide +kernel
theorem dX8_digest_115 : decode cX8_digest 115 = .ok (.goto 4, 3) := by decide +kernel

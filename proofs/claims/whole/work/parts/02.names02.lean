theorem dX3_dropRule_20 : decode cX3_dropRule 20 = .ok (.aload_n 0, 1) := by decide +kernel
theorem dX3_dropRule_21 : decode cX3_dropRule 21 = .ok (.getfield 18, 3) := by decide +kernel
theorem dX3_dropRule_24 : decode cX3_dropRule 24 = .ok (.iload_n 2, 1) := by decide +kernel
theorem dX3_dropRule_25 : decode cX3_dropRule 25 = .ok (.aload_n 0, 1) := by decide +kernel
theorem dX3_dropRule_26 : decode cX3_dropRule 26 = .ok (.getfield 18, 3) := by decide +kernel
theorem dX3_dropRule_29 : decode cX3_dropRule 29 = .ok (.iload_n 2, 1) := by decide +kernel
theorem dX3_dropRule_30 : decode cX3_dropRule 30 = .ok (.iconst 1, 1) := by decide +kernel
theorem dX3_dropRule_31 : decode cX3_dropRule 31 = .ok (.iadd, 1) := by decide +kernel
theorem dX3_dropRule_32 : decode cX3_dropRule 32 = .ok (.iaload, 1) := by decide +kernel
theorem dX3_dropRule_33 : decode cX3_dropRule 33 = .ok (.iastore, 1) := by decide +kernel
theorem dX3_dropRule_34 : decode cX3_dropRule 34 = .ok (.aload_n 0, 1) := by decide +kernel
theorem dX3_dropRule_35 : decode cX3_dropRule 35 = .ok (.getfield 21, 3) := by decide +kernel
theorem dX3_dropRule_38 : decode cX3_dropRule 38 = .ok (.iload_n 2, 1) := by decide +kernel
theorem dX3_dropRule_39 : decode cX3_dropRule 39 = .ok (.aload_n 0, 1) := by decide +kernel
theorem dX3_dropRule_40 : decode cX3_dropRule 40 = .ok (.getfield 21, 3) := by decide +kernel
theorem dX3_dropRule_43 : decode cX3_dropRule 43 = .ok (.iload_n 2, 1) := by decide +kernel
theorem dX3_dropRule_44 : decode cX3_dropRule 44 = .ok (.iconst 1, 1) := by decide +kernel
theorem dX3_dropRule_45 : decode cX3_dropRule 45 = .ok (.iadd, 1) := by decide +kernel
theorem dX3_dropRule_46 : decode cX3_dropRule 46 = .ok (.iaload, 1) := by decide +kernel
theorem dX3_dropRule_47 : decode cX3_dropRule 47 = .ok (.iastore, 1) := by decide +kernel
theorem dX3_dropRule_48 : decode cX3_dropRule 48 = .ok (.aload_n 0, 1) := by decide +kernel
theorem dX3_dropRule_49 : decode cX3_dropRule 49 = .ok (.getfield 24, 3) := by decide +kernel
theorem dX3_dropRule_52 : decode cX3_dropRule 52 = .ok (.iload_n 2, 1) := by decide +kernel
theorem dX3_dropRule_53 : decode cX3_dropRule 53 = .ok (.aload_n 0, 1) := by decide +kernel
theorem dX3_dropRule_54 : decode cX3_dropRule 54 = .ok (.getfield 24, 3) := by decide +kernel
theorem dX3_dropRule_57 : decode cX3_dropRule 57 = .ok (.iload_n 2, 1) := by decide +kernel
theorem dX3_dropRule_58 : decode cX3_dropRule 58 = .ok (.iconst 1, 1) := by decide +kernel
theorem dX3_dropRule_59 : decode cX3_dropRule 59 = .ok (.iadd, 1) := by decide +kernel
theorem dX3_dropRule_60 : decode cX3_dropRule 60 = .ok (.iaload, 1) := by decide +kernel
theorem dX3_dropRule_61 : decode cX3_dropRule 61 = .ok (.iastore, 1) := by decide +kernel
theorem dX3_dropRule_62 : decode cX3_dropRule 62 = .ok (.aload_n 0, 1) := by decide +kernel
theorem dX3_dropRule_63 : decode cX3_dropRule 63 = .ok (.getfield 27, 3) := by decide +kernel
theorem dX3_dropRule_66 : decode cX3_dropRule 66 = .ok (.iload_n 2, 1) := by decide +kernel
theorem dX3_dropRule_67 : decode cX3_dropRule 67 = .ok (.aload_n 0, 1) := by decide +kernel
theorem dX3_dropRule_68 : decode cX3_dropRule 68 = .ok (.getfield 27, 3) := by decide +kernel
theorem dX3_dropRule_71 : decode cX3_dropRule 71 = .ok (.iload_n 2, 1) := by decide +kernel
theorem dX3_dropRule_72 : decode cX3_dropRule 72 = .ok (.iconst 1, 1) := by decide +kernel
theorem dX3_dropRule_73 : decode cX3_dropRule 73 = .ok (.iadd, 1) := by decide +kernel
theorem dX3_dropRule_74 : decode cX3_dropRule 74 = .ok (.iaload, 1) := by decide +kernel
theorem dX3_dropRule_75 : decode cX3_dropRule 75 = .ok (.iastore, 1) := by decide +kernel
theorem dX3_dropRule_76 : decode cX3_dropRule 76 = .ok (.iinc 2 1, 3) := by decide +kernel
theorem dX3_dropRule_79 : decode cX3_dropRule 79 = .ok (.goto (-67), 3) := by decide +kernel
theorem dX3_dropRule_82 : decode cX3_dropRule 82 = .ok (.aload_n 0, 1) := by decide +kernel
theorem dX3_dropRule_83 : decode cX3_dropRule 83 = .ok (.getfield 34, 3) := by decide +kernel
theorem dX3_dropRule_86 : decode cX3_dropRule 86 = .ok (.ireturn, 1) := by decide +kernel
theorem dX3_rulesOf_0 : decode cX3_rulesOf 0 = .ok (.iconst 0, 1) := by decide +kernel
theorem dX3_rulesOf_1 : decode cX3_rulesOf 1 = .ok (.istore_n 2, 1) := by decide +kernel
theorem dX3_rulesOf_2 : decode cX3_rulesOf 2 = .ok (.iconst 0, 1) := by decide +kernel
theorem dX3_rulesOf_3 : decode cX3_rulesOf 3 = .ok (.istore_n 3, 1) := by decide +kernel
theorem dX3_rulesOf_4 : decode cX3_rulesOf 4 = .ok (.iload_n 3, 1) := by decide +kernel
theorem dX3_rulesOf_5 : decode cX3_rulesOf 5 = .ok (.aload_n 0, 1) := by decide +kernel
theorem dX3_rulesOf_6 : decode cX3_rulesOf 6 = .ok (.getfield 34, 3) := by decide +kernel
theorem dX3_rulesOf_9 : decode cX3_rulesOf 9 = .ok (.if_icmp .ge 52, 3) := by decide +kernel
theorem dX3_rulesOf_12 : decode cX3_rulesOf 12 = .ok (.aload_n 0, 1) := by decide +kernel
theorem dX3_rulesOf_13 : decode cX3_rulesOf 13 = .ok (.getfield 21, 3) := by decide +kernel
theorem dX3_rulesOf_16 : decode cX3_rulesOf 16 = .ok (.iload_n 3, 1) := by decide +kernel
theorem dX3_rulesOf_17 : decode cX3_rulesOf 17 = .ok (.iaload, 1) := by decide +kernel
theorem dX3_rulesOf_18 : decode cX3_rulesOf 18 = .ok (.iload_n 1, 1) := by decide +kernel
theorem dX3_rulesOf_19 : decode cX3_rulesOf 19 = .ok (.if_icmp .eq 33, 3) := by decide +kernel
theorem dX3_rulesOf_22 : decode cX3_rulesOf 22 = .ok (.aload_n 0, 1) := by decide +kernel
theorem dX3_rulesOf_23 : decode cX3_rulesOf 23 = .ok (.getfield 24, 3) := by decide +kernel
theorem dX3_rulesOf_26 : decode cX3_rulesOf 26 = .ok (.iload_n 3, 1) := by decide +kernel
theorem dX3_rulesOf_27 : decode cX3_rulesOf 27 = .ok (.iaload, 1) := by decide +kernel
theorem dX3_rulesOf_28 : decode cX3_rulesOf 28 = .ok (.iload_n 1, 1) := by decide +kernel
theorem dX3_rulesOf_29 : decode cX3_rulesOf 29 = .ok (.if_icmp .eq 23, 3) := by decide +kernel
theorem dX3_rulesOf_32 : decode cX3_rulesOf 32 = .ok (.aload_n 0, 1) := by decide +kernel
theorem dX3_rulesOf_33 : decode cX3_rulesOf 33 = .ok (.getfield 18, 3) := by decide +kernel
theorem dX3_rulesOf_36 : decode cX3_rulesOf 36 = .ok (.iload_n 3, 1) := by decide +kernel
theorem dX3_rulesOf_37 : decode cX3_rulesOf 37 = .ok (.iaload, 1) := by decide +kernel
theorem dX3_rulesOf_38 : decode cX3_rulesOf 38 = .ok (.iconst 3, 1) := by decide +kernel
theorem dX3_rulesOf_39 : decode cX3_rulesOf 39 = .ok (.if_icmp .ge 16, 3) := by decide +kernel
theorem dX3_rulesOf_42 : decode cX3_rulesOf 42 = .ok (.aload_n 0, 1) := by decide +kernel
theorem dX3_rulesOf_43 : decode cX3_rulesOf 43 = .ok (.getfield 27, 3) := by decide +kernel
theorem dX3_rulesOf_46 : decode cX3_rulesOf 46 = .ok (.iload_n 3, 1) := by decide +kernel
theorem dX3_rulesOf_47 : decode cX3_rulesOf 47 = .ok (.iaload, 1) := by decide +kernel
theorem dX3_rulesOf_48 : decode cX3_rulesOf 48 = .ok (.iload_n 1, 1) := by decide +kernel
theorem dX3_rulesOf_49 : decode cX3_rulesOf 49 = .ok (.if_icmp .ne 6, 3) := by decide +kernel
theorem dX3_rulesOf_52 : decode cX3_rulesOf 52 = .ok (.iinc 2 1, 3) := by decide +kernel
theorem dX3_rulesOf_55 : decode cX3_rulesOf 55 = .ok (.iinc 3 1, 3) := by decide +kernel
theorem dX3_rulesOf_58 : decode cX3_rulesOf 58 = .ok (.goto (-54), 3) := by decide +kernel
theorem dX3_rulesOf_61 : decode cX3_rulesOf 61 = .ok (.iload_n 2, 1) := by decide +kernel
theorem dX3_rulesOf_62 : decode cX3_rulesOf 62 = .ok (.ireturn, 1) := by decide +kernel
set_option maxRecDepth 20000 in
theorem ggX3_allRulesHold_X4_ruleHolds : GoodIn wsX3_allRulesHold wsX4_ruleHolds := goodIn_r _ [9, 10, 11, 12, 13, 14, 15, 16, 17, 18, 19, 8, 20, 21, 22, 23, 24, 25, 26, 27, 28, 29, 30, 31, 32, 33, 34, 35, 36, 37, 38, 39, 40, 41, 42, 43, 44, 45, 46, 47] (by decide +kernel) (by decide +kernel)
set_option maxRecDepth 20000 in
theorem gX3_allRulesHold_X4_ruleHolds : GoodIn wsX3_allRulesHold (va_wsS RX3 55 yX4_ruleHolds wsX4_ruleHolds) := goodIn_app (goodIn_of _ (by decide +kernel)) ggX3_allRulesHold_X4_ruleHolds
theorem dX3_allRulesHold_0 : decode cX3_allRulesHold 0 = .ok (.iconst 0, 1) := by decide +kernel
theorem dX3_allRulesHold_1 : decode cX3_allRulesHold 1 = .ok (.istore_n 2, 1) := by decide +kernel
theorem dX3_allRulesHold_2 : decode cX3_allRulesHold 2 = .ok (.iload_n 2, 1) := by decide +kernel
theorem dX3_allRulesHold_3 : decode cX3_allRulesHold 3 = .ok (.aload_n 0, 1) := by decide +kernel
theorem dX3_allRulesHold_4 : decode cX3_allRulesHold 4 = .ok (.getfield 34, 3) := by decide +kernel
theorem dX3_allRulesHold_7 : decode cX3_allRulesHold 7 = .ok (.if_icmp .ge 47, 3) := by decide +kernel
theorem dX3_allRulesHold_10 : decode cX3_allRulesHold 10 = .ok (.aload_n 0, 1) := by decide +kernel
theorem dX3_allRulesHold_11 : decode cX3_allRulesHold 11 = .ok (.getfield 18, 3) := by decide +kernel
theorem dX3_allRulesHold_14 : decode cX3_allRulesHold 14 = .ok (.iload_n 2, 1) := by decide +kernel
theorem dX3_allRulesHold_15 : decode cX3_allRulesHold 15 = .ok (.iaload, 1) := by decide +kernel
theorem dX3_allRulesHold_16 : decode cX3_allRulesHold 16 = .ok (.aload_n 1, 1) := by decide +kernel
theorem dX3_allRulesHold_17 : decode cX3_allRulesHold 17 = .ok (.aload_n 0, 1) := by decide +kernel
theorem dX3_allRulesHold_18 : decode cX3_allRulesHold 18 = .ok (.getfield 21, 3) := by decide +kernel
theorem dX3_allRulesHold_21 : decode cX3_allRulesHold 21 = .ok (.iload_n 2, 1) := by decide +kernel
theorem dX3_allRulesHold_22 : decode cX3_allRulesHold 22 = .ok (.iaload, 1) := by decide +kernel
theorem dX3_allRulesHold_23 : decode cX3_allRulesHold 23 = .ok (.iaload, 1) := by decide +kernel
theorem dX3_allRulesHold_24 : decode cX3_allRulesHold 24 = .ok (.aload_n 1, 1) := by decide +kernel
theorem dX3_allRulesHold_25 : decode cX3_allRulesHold 25 = .ok (.aload_n 0, 1) := by decide +kernel
theorem dX3_allRulesHold_26 : decode cX3_allRulesHold 26 = .ok (.getfield 24, 3) := by decide +kernel
theorem dX3_allRulesHold_29 : decode cX3_allRulesHold 29 = .ok (.iload_n 2, 1) := by decide +kernel
theorem dX3_allRulesHold_30 : decode cX3_allRulesHold 30 = .ok (.iaload, 1) := by decide +kernel
theorem dX3_allRulesHold_31 : decode cX3_allRulesHold 31 = .ok (.iaload, 1) := by decide +kernel
theorem dX3_allRulesHold_32 : decode cX3_allRulesHold 32 = .ok (.aload_n 1, 1) := by decide +kernel
theorem dX3_allRulesHold_33 : decode cX3_allRulesHold 33 = .ok (.aload_n 0, 1) := by decide +kernel
theorem dX3_allRulesHold_34 : decode cX3_allRulesHold 34 = .ok (.getfield 27, 3) := by decide +kernel
theorem dX3_allRulesHold_37 : decode cX3_allRulesHold 37 = .ok (.iload_n 2, 1) := by decide +kernel
theorem dX3_allRulesHold_38 : decode cX3_allRulesHold 38 = .ok (.iaload, 1) := by decide +kernel
theorem dX3_allRulesHold_39 : decode cX3_allRulesHold 39 = .ok (.iaload, 1) := by decide +kernel
theorem dX3_allRulesHold_40 : decode cX3_allRulesHold 40 = .ok (.invokestatic 55, 3) := by decide +kernel
theorem dX3_allRulesHold_43 : decode cX3_allRulesHold 43 = .ok (.ifCond .ne 5, 3) := by decide +kernel
theorem dX3_allRulesHold_46 : decode cX3_allRulesHold 46 = .ok (.iconst 0, 1) := by decide +kernel
theorem dX3_allRulesHold_47 : decode cX3_allRulesHold 47 = .ok (.ireturn, 1) := by decide +kernel
theorem dX3_allRulesHold_48 : decode cX3_allRulesHold 48 = .ok (.iinc 2 1, 3) := by decide +kernel
theorem dX3_allRulesHold_51 : decode cX3_allRulesHold 51 = .ok (.goto (-49), 3) := by decide +kernel
theorem dX3_allRulesHold_54 : decode cX3_allRulesHold 54 = .ok (.iconst 1, 1) := by decide +kernel
theorem dX3_allRulesHold_55 : decode cX3_allRulesHold 55 = .ok (.ireturn, 1) := by decide +kernel
theorem dX4_isPlace_0 : decode cX4_isPlace 0 = .ok (.iload_n 0, 1) := by decide +kernel
theorem dX4_isPlace_1 : decode cX4_isPlace 1 = .ok (.ldc 9, 2) := by decide +kernel
theorem dX4_isPlace_3 : decode cX4_isPlace 3 = .ok (.if_icmp .lt 13, 3) := by decide +kernel
theorem dX4_isPlace_6 : decode cX4_isPlace 6 = .ok (.iload_n 0, 1) := by decide +kernel
theorem dX4_isPlace_7 : decode cX4_isPlace 7 = .ok (.ldc 10, 2) := by decide +kernel
theorem dX4_isPlace_9 : decode cX4_isPlace 9 = .ok (.if_icmp .gt 7, 3) := by decide +kernel
theorem dX4_isPlace_12 : decode cX4_isPlace 12 = .ok (.iconst 1, 1) := by decide +kernel
theorem dX4_isPlace_13 : decode cX4_isPlace 13 = .ok (.goto 4, 3) := by decide +kernel
theorem dX4_isPlace_16 : decode cX4_isPlace 16 = .ok (.iconst 0, 1) := by decide +kernel
theorem dX4_isPlace_17 : decode cX4_isPlace 17 = .ok (.ireturn, 1) := by decide +kernel
set_option maxRecDepth 20000 in
theorem ggX4_isRange_X4_isPlace : GoodIn wsX4_isRange wsX4_isPlace := goodIn_r _ [4, 5, 6] (by decide +kernel) (by decide +kernel)
set_option maxRecDepth 20000 in
theorem gX4_isRange_X4_isPlace : GoodIn wsX4_isRange (va_wsS RX4 11 yX4_isPlace wsX4_isPlace) := goodIn_app (goodIn_of _ (by decide +kernel)) ggX4_isRange_X4_isPlace
theorem dX4_isRange_0 : decode cX4_isRange 0 = .ok (.iload_n 0, 1) := by decide +kernel
theorem dX4_isRange_1 : decode cX4_isRange 1 = .ok (.invokestatic 11, 3) := by decide +kernel
theorem dX4_isRange_4 : decode cX4_isRange 4 = .ok (.ifCond .eq 19, 3) := by decide +kernel
theorem dX4_isRange_7 : decode cX4_isRange 7 = .ok (.iload_n 1, 1) := by decide +kernel
theorem dX4_isRange_8 : decode cX4_isRange 8 = .ok (.invokestatic 11, 3) := by decide +kernel
theorem dX4_isRange_11 : decode cX4_isRange 11 = .ok (.ifCond .eq 12, 3) := by decide +kernel
theorem dX4_isRange_14 : decode cX4_isRange 14 = .ok (.iload_n 0, 1) := by decide +kernel
theorem dX4_isRange_15 : decode cX4_isRange 15 = .ok (.iload_n 1, 1) := by decide +kernel
theorem dX4_isRange_16 : decode cX4_isRange 16 = .ok (.if_icmp .gt 7, 3) := by decide +kernel
theorem dX4_isRange_19 : decode cX4_isRange 19 = .ok (.iconst 1, 1) := by decide +kernel
theorem dX4_isRange_20 : decode cX4_isRange 20 = .ok (.goto 4, 3) := by decide +kernel
theorem dX4_isRange_23 : decode cX4_isRange 23 = .ok (.iconst 0, 1) := by decide +kernel
theorem dX4_isRange_24 : decode cX4_isRange 24 = .ok (.ireturn, 1) := by decide +kernel
theorem dX4_held_0 : decode cX4_held 0 = .ok (.iload_n 1, 1) := by decide +kernel
theorem dX4_held_1 : decode cX4_held 1 = .ok (.i2l, 1) := by decide +kernel
theorem dX4_held_2 : decode cX4_held 2 = .ok (.iload_n 0, 1) := by decide +kernel
theorem dX4_held_3 : decode cX4_held 3 = .ok (.i2l, 1) := by decide +kernel
theorem dX4_held_4 : decode cX4_held 4 = .ok (.lsub, 1) := by decide +kernel
theorem dX4_held_5 : decode cX4_held 5 = .ok (.lconst 1, 1) := by decide +kernel
theorem dX4_held_6 : decode cX4_held 6 = .ok (.ladd, 1) := by decide +kernel
theorem dX4_held_7 : decode cX4_held 7 = .ok (.lreturn, 1) := by decide +kernel
theorem dX4_middle_0 : decode cX4_middle 0 = .ok (.iload_n 0, 1) := by decide +kernel
theorem dX4_middle_1 : decode cX4_middle 1 = .ok (.i2l, 1) := by decide +kernel
theorem dX4_middle_2 : decode cX4_middle 2 = .ok (.iload_n 1, 1) := by decide +kernel
theorem dX4_middle_3 : decode cX4_middle 3 = .ok (.i2l, 1) := by decide +kernel
theorem dX4_middle_4 : decode cX4_middle 4 = .ok (.ladd, 1) := by decide +kernel
theorem dX4_middle_5 : decode cX4_middle 5 = .ok (.iconst 1, 1) := by decide +kernel
theorem dX4_middle_6 : decode cX4_middle 6 = .ok (.lshr, 1) := by decide +kernel
theorem dX4_middle_7 : decode cX4_middle 7 = .ok (.l2i, 1) := by decide +kernel
theorem dX4_middle_8 : decode cX4_middle 8 = .ok (.ireturn, 1) := by decide +kernel
theorem dX4_magnitude_0 : decode cX4_magnitude 0 = .ok (.iload_n 0, 1) := by decide +kernel
theorem dX4_magnitude_1 : decode cX4_magnitude 1 = .ok (.ifCond .ge 9, 3) := by decide +kernel
theorem dX4_magnitude_4 : decode cX4_magnitude 4 = .ok (.iconst (-1), 1) := by decide +kernel
theorem dX4_magnitude_5 : decode cX4_magnitude 5 = .ok (.iload_n 0, 1) := by decide +kernel
theorem dX4_magnitude_6 : decode cX4_magnitude 6 = .ok (.isub, 1) := by decide +kernel
theorem dX4_magnitude_7 : decode cX4_magnitude 7 = .ok (.goto 4, 3) := by decide +kernel
theorem dX4_magnitude_10 : decode cX4_magnitude 10 = .ok (.iload_n 0, 1) := by decide +kernel
theorem dX4_magnitude_11 : decode cX4_magnitude 11 = .ok (.ireturn, 1) := by decide +kernel
theorem dX4_rank_0 : decode cX4_rank 0 = .ok (.iload_n 0, 1) := by decide +kernel
theorem dX4_rank_1 : decode cX4_rank 1 = .ok (.ifCond .ge 9, 3) := by decide +kernel
theorem dX4_rank_4 : decode cX4_rank 4 = .ok (.iload_n 0, 1) := by decide +kernel
theorem dX4_rank_5 : decode cX4_rank 5 = .ok (.iconst 1, 1) := by decide +kernel
theorem dX4_rank_6 : decode cX4_rank 6 = .ok (.iadd, 1) := by decide +kernel
theorem dX4_rank_7 : decode cX4_rank 7 = .ok (.goto 4, 3) := by decide +kernel
theorem dX4_rank_10 : decode cX4_rank 10 = .ok (.iload_n 0, 1) := by decide +kernel
theorem dX4_rank_11 : decode cX4_rank 11 = .ok (.ireturn, 1) := by decide +kernel
theorem dX4_firstOfRank_0 : decode cX4_firstOfRank 0 = .ok (.iload_n 0, 1) := by decide +kernel
theorem dX4_firstOfRank_1 : decode cX4_firstOfRank 1 = .ok (.ifCond .gt 9, 3) := by decide +kernel
theorem dX4_firstOfRank_4 : decode cX4_firstOfRank 4 = .ok (.iload_n 0, 1) := by decide +kernel
theorem dX4_firstOfRank_5 : decode cX4_firstOfRank 5 = .ok (.iconst 1, 1) := by decide +kernel
theorem dX4_firstOfRank_6 : decode cX4_firstOfRank 6 = .ok (.isub, 1) := by decide +kernel
theorem dX4_firstOfRank_7 : decode cX4_firstOfRank 7 = .ok (.goto 4, 3) := by decide +kernel
theorem dX4_firstOfRank_10 : decode cX4_firstOfRank 10 = .ok (.iload_n 0, 1) := by decide +kernel
theorem dX4_firstOfRank_11 : decode cX4_firstOfRank 11 = .ok (.ireturn, 1) := by decide +kernel
theorem dX4_lastOfRank_0 : decode cX4_lastOfRank 0 = .ok (.iload_n 0, 1) := by decide +kernel
theorem dX4_lastOfRank_1 : decode cX4_lastOfRank 1 = .ok (.ifCond .ge 9, 3) := by decide +kernel
theorem dX4_lastOfRank_4 : decode cX4_lastOfRank 4 = .ok (.iload_n 0, 1) := by decide +kernel
theorem dX4_lastOfRank_5 : decode cX4_lastOfRank 5 = .ok (.iconst 1, 1) := by decide +kernel
theorem dX4_lastOfRank_6 : decode cX4_lastOfRank 6 = .ok (.isub, 1) := by decide +kernel
theorem dX4_lastOfRank_7 : decode cX4_lastOfRank 7 = .ok (.goto 4, 3) := by decide +kernel
theorem dX4_lastOfRank_10 : decode cX4_lastOfRank 10 = .ok (.iload_n 0, 1) := by decide +kernel
theorem dX4_lastOfRank_11 : decode cX4_lastOfRank 11 = .ok (.ireturn, 1) := by decide +kernel
set_option maxRecDepth 20000 in
theorem ggX4_ruleHolds_X1_sum : GoodIn wsX4_ruleHolds wsX1_sum := goodIn_r _ [8, 9, 10, 11, 12, 13, 14, 7, 15, 16, 2, 3, 4, 17, 18, 19, 20, 21, 22, 23, 24, 25, 26, 27, 28, 29, 30, 31, 32, 33] (by decide +kernel) (by decide +kernel)
set_option maxRecDepth 20000 in
theorem gX4_ruleHolds_X1_sum : GoodIn wsX4_ruleHolds (va_wsS RX4 17 yX1_sum wsX1_sum) := goodIn_app (goodIn_of _ (by decide +kernel)) ggX4_ruleHolds_X1_sum
set_option maxRecDepth 20000 in
theorem ggX4_ruleHolds_X1_product : GoodIn wsX4_ruleHolds wsX1_product := goodIn_r _ [36, 9, 10, 11, 12, 17, 18, 7, 19, 20, 13, 14, 15, 16, 2, 3, 4, 21, 22, 23, 24, 25, 26, 27, 28, 29, 30, 31, 32, 33] (by decide +kernel) (by decide +kernel)
set_option maxRecDepth 20000 in
theorem gX4_ruleHolds_X1_product : GoodIn wsX4_ruleHolds (va_wsS RX4 23 yX1_product wsX1_product) := goodIn_app (goodIn_of _ (by decide +kernel)) ggX4_ruleHolds_X1_product
set_option maxRecDepth 20000 in
theorem ggX4_ruleHolds_X4_rank : GoodIn wsX4_ruleHolds wsX4_rank := goodIn_r _ [39] (by decide +kernel) (by decide +kernel)
set_option maxRecDepth 20000 in
theorem gX4_ruleHolds_X4_rank : GoodIn wsX4_ruleHolds (va_wsS RX4 31 yX4_rank wsX4_rank) := goodIn_app (goodIn_of _ (by decide +kernel)) ggX4_ruleHolds_X4_rank
theorem dX4_ruleHolds_0 : decode cX4_ruleHolds 0 = .ok (.iload_n 0, 1) := by decide +kernel
theorem dX4_ruleHolds_1 : decode cX4_ruleHolds 1 = .ok (.tableswitch 114 0 4 #[35, 50, 65, 80, 97], 35) := by decide +kernel
theorem dX4_ruleHolds_36 : decode cX4_ruleHolds 36 = .ok (.iload_n 1, 1) := by decide +kernel
theorem dX4_ruleHolds_37 : decode cX4_ruleHolds 37 = .ok (.iload_n 2, 1) := by decide +kernel
theorem dX4_ruleHolds_38 : decode cX4_ruleHolds 38 = .ok (.invokestatic 17, 3) := by decide +kernel
theorem dX4_ruleHolds_41 : decode cX4_ruleHolds 41 = .ok (.iload_n 3, 1) := by decide +kernel
theorem dX4_ruleHolds_42 : decode cX4_ruleHolds 42 = .ok (.if_icmp .ne 7, 3) := by decide +kernel
theorem dX4_ruleHolds_45 : decode cX4_ruleHolds 45 = .ok (.iconst 1, 1) := by decide +kernel
theorem dX4_ruleHolds_46 : decode cX4_ruleHolds 46 = .ok (.goto 4, 3) := by decide +kernel
theorem dX4_ruleHolds_49 : decode cX4_ruleHolds 49 = .ok (.iconst 0, 1) := by decide +kernel
theorem dX4_ruleHolds_50 : decode cX4_ruleHolds 50 = .ok (.ireturn, 1) := by decide +kernel
theorem dX4_ruleHolds_51 : decode cX4_ruleHolds 51 = .ok (.iload_n 1, 1) := by decide +kernel
theorem dX4_ruleHolds_52 : decode cX4_ruleHolds 52 = .ok (.iload_n 2, 1) := by decide +kernel
theorem dX4_ruleHolds_53 : decode cX4_ruleHolds 53 = .ok (.invokestatic 23, 3) := by decide +kernel
theorem dX4_ruleHolds_56 : decode cX4_ruleHolds 56 = .ok (.iload_n 3, 1) := by decide +kernel
theorem dX4_ruleHolds_57 : decode cX4_ruleHolds 57 = .ok (.if_icmp .ne 7, 3) := by decide +kernel
theorem dX4_ruleHolds_60 : decode cX4_ruleHolds 60 = .ok (.iconst 1, 1) := by decide +kernel
theorem dX4_ruleHolds_61 : decode cX4_ruleHolds 61 = .ok (.goto 4, 3) := by decide +kernel
theorem dX4_ruleHolds_64 : decode cX4_ruleHolds 64 = .ok (.iconst 0, 1) := by decide +kernel
theorem dX4_ruleHolds_65 : decode cX4_ruleHolds 65 = .ok (.ireturn, 1) := by decide +kernel
theorem dX4_ruleHolds_66 : decode cX4_ruleHolds 66 = .ok (.iload_n 1, 1) := by decide +kernel
theorem dX4_ruleHolds_67 : decode cX4_ruleHolds 67 = .ok (.iload_n 2, 1) := by decide +kernel
theorem dX4_ruleHolds_68 : decode cX4_ruleHolds 68 = .ok (.invokestatic 26, 3) := by decide +kernel
theorem dX4_ruleHolds_71 : decode cX4_ruleHolds 71 = .ok (.iload_n 3, 1) := by decide +kernel
theorem dX4_ruleHolds_72 : decode cX4_ruleHolds 72 = .ok (.if_icmp .ne 7, 3) := by decide +kernel
theorem dX4_ruleHolds_75 : decode cX4_ruleHolds 75 = .ok (.iconst 1, 1) := by decide +kernel
theorem dX4_ruleHolds_76 : decode cX4_ruleHolds 76 = .ok (.goto 4, 3) := by decide +kernel
theorem dX4_ruleHolds_79 : decode cX4_ruleHolds 79 = .ok (.iconst 0, 1) := by decide +kernel
theorem dX4_ruleHolds_80 : decode cX4_ruleHolds 80 = .ok (.ireturn, 1) := by decide +kernel
theorem dX4_ruleHolds_81 : decode cX4_ruleHolds 81 = .ok (.iload_n 1, 1) := by decide +kernel
theorem dX4_ruleHolds_82 : decode cX4_ruleHolds 82 = .ok (.invokestatic 31, 3) := by decide +kernel
theorem dX4_ruleHolds_85 : decode cX4_ruleHolds 85 = .ok (.iload_n 2, 1) := by decide +kernel
theorem dX4_ruleHolds_86 : decode cX4_ruleHolds 86 = .ok (.invokestatic 31, 3) := by decide +kernel
theorem dX4_ruleHolds_89 : decode cX4_ruleHolds 89 = .ok (.if_icmp .ge 7, 3) := by decide +kernel
theorem dX4_ruleHolds_92 : decode cX4_ruleHolds 92 = .ok (.iconst 1, 1) := by decide +kernel
theorem dX4_ruleHolds_93 : decode cX4_ruleHolds 93 = .ok (.goto 4, 3) := by decide +kernel
theorem dX4_ruleHolds_96 : decode cX4_ruleHolds 96 = .ok (.iconst 0, 1) := by decide +kernel
theorem dX4_ruleHolds_97 : decode cX4_ruleHolds 97 = .ok (.ireturn, 1) := by decide +kernel
theorem dX4_ruleHolds_98 : decode cX4_ruleHolds 98 = .ok (.iload_n 1, 1) := by decide +kernel
theorem dX4_ruleHolds_99 : decode cX4_ruleHolds 99 = .ok (.invokestatic 31, 3) := by decide +kernel
theorem dX4_ruleHolds_102 : decode cX4_ruleHolds 102 = .ok (.iload_n 2, 1) := by decide +kernel
theorem dX4_ruleHolds_103 : decode cX4_ruleHolds 103 = .ok (.invokestatic 31, 3) := by decide +kernel
theorem dX4_ruleHolds_106 : decode cX4_ruleHolds 106 = .ok (.if_icmp .ne 7, 3) := by decide +kernel
theorem dX4_ruleHolds_109 : decode cX4_ruleHolds 109 = .ok (.iconst 1, 1) := by decide +kernel
theorem dX4_ruleHolds_110 : decode cX4_ruleHolds 110 = .ok (.goto 4, 3) := by decide +kernel
theorem dX4_ruleHolds_113 : decode cX4_ruleHolds 113 = .ok (.iconst 0, 1) := by decide +kernel
theorem dX4_ruleHolds_114 : decode cX4_ruleHolds 114 = .ok (.ireturn, 1) := by decide +kernel
theorem dX4_ruleHolds_115 : decode cX4_ruleHolds 115 = .ok (.iload_n 2, 1) := by decide +kernel
theorem dX4_ruleHolds_116 : decode cX4_ruleHolds 116 = .ok (.iconst (-1), 1) := by decide +kernel
theorem dX4_ruleHolds_117 : decode cX4_ruleHolds 117 = .ok (.iload_n 1, 1) := by decide +kernel
theorem dX4_ruleHolds_118 : decode cX4_ruleHolds 118 = .ok (.isub, 1) := by decide +kernel
theorem dX4_ruleHolds_119 : decode cX4_ruleHolds 119 = .ok (.if_icmp .ne 7, 3) := by decide +kernel
theorem dX4_ruleHolds_122 : decode cX4_ruleHolds 122 = .ok (.iconst 1, 1) := by decide +kernel
theorem dX4_ruleHolds_123 : decode cX4_ruleHolds 123 = .ok (.goto 4, 3) := by decide +kernel
theorem dX4_ruleHolds_126 : decode cX4_ruleHolds 126 = .ok (.iconst 0, 1) := by decide +kernel
theorem dX4_ruleHolds_127 : decode cX4_ruleHolds 127 = .ok (.ireturn, 1) := by decide +kernel
theorem dX5_init_0 : decode cX5_init 0 = .ok (.aload_n 0, 1) := by decide +kernel
theorem dX5_init_1 : decode cX5_init 1 = .ok (.invokespecial 3, 3) := by decide +kernel
theorem dX5_init_4 : decode cX5_init 4 = .ok (.aload_n 0, 1) := by decide +kernel
theorem dX5_init_5 : decode cX5_init 5 = .ok (.bipush 6, 2) := by decide +kernel
theorem dX5_init_7 : decode cX5_init 7 = .ok (.newarray .int, 2) := by decide +kernel
theorem dX5_init_9 : decode cX5_init 9 = .ok (.putfield 9, 3) := by decide +kernel
theorem dX5_init_12 : decode cX5_init 12 = .ok (.aload_n 0, 1) := by decide +kernel
theorem dX5_init_13 : decode cX5_init 13 = .ok (.sipush 366, 3) := by decide +kernel
theorem dX5_init_16 : decode cX5_init 16 = .ok (.newarray .int, 2) := by decide +kernel
theorem dX5_init_18 : decode cX5_init 18 = .ok (.putfield 15, 3) := by decide +kernel
theorem dX5_init_21 : decode cX5_init 21 = .ok (.aload_n 0, 1) := by decide +kernel
theorem dX5_init_22 : decode cX5_init 22 = .ok (.sipush 366, 3) := by decide +kernel
theorem dX5_init_25 : decode cX5_init 25 = .ok (.newarray .int, 2) := by decide +kernel
theorem dX5_init_27 : decode cX5_init 27 = .ok (.putfield 18, 3) := by decide +kernel
theorem dX5_init_30 : decode cX5_init 30 = .ok (.aload_n 0, 1) := by decide +kernel
theorem dX5_init_31 : decode cX5_init 31 = .ok (.aload_n 1, 1) := by decide +kernel
theorem dX5_init_32 : decode cX5_init 32 = .ok (.putfield 21, 3) := by decide +kernel
theorem dX5_init_35 : decode cX5_init 35 = .ok (.return_, 1) := by decide +kernel
theorem dX5_forget_0 : decode cX5_forget 0 = .ok (.aload_n 0, 1) := by decide +kernel
theorem dX5_forget_1 : decode cX5_forget 1 = .ok (.iconst 0, 1) := by decide +kernel
theorem dX5_forget_2 : decode cX5_forget 2 = .ok (.putfield 25, 3) := by decide +kernel
theorem dX5_forget_5 : decode cX5_forget 5 = .ok (.return_, 1) := by decide +kernel
set_option maxRecDepth 20000 in
theorem ggX5_solve_X0_load : GoodIn wsX5_solve wsX0_load := goodIn_r _ [23, 24, 25, 16, 17, 18, 26, 184, 185, 186, 187] (by decide +kernel) (by decide +kernel)
set_option maxRecDepth 20000 in
theorem gX5_solve_X0_load : GoodIn wsX5_solve (wsV RX5 43 RX0 yX0_load wsX0_load) := goodIn_app (goodIn_of _ (by decide +kernel)) ggX5_solve_X0_load
set_option maxRecDepth 20000 in
theorem ggX5_solve_X5_put : GoodIn wsX5_solve wsX5_put := goodIn_r _ [31, 3, 4, 7, 8, 32, 33, 34, 22, 35, 24, 25, 16, 17, 18, 26, 168, 169, 170, 171, 172, 173, 174, 175, 184, 185, 186, 187] (by decide +kernel) (by decide +kernel)
set_option maxRecDepth 20000 in
theorem gX5_solve_X5_put : GoodIn wsX5_solve (wsV RX5 49 RX5 yX5_put wsX5_put) := goodIn_app (goodIn_of _ (by decide +kernel)) ggX5_solve_X5_put
set_option maxRecDepth 20000 in
theorem ggX5_solve_X0_cutByRules : GoodIn wsX5_solve wsX0_cutByRules := goodIn_r _ [39, 40, 41, 42, 43, 44, 45, 46, 47, 48, 49, 22, 50, 24, 26, 51, 52, 53, 54, 55, 56, 57, 58, 59, 60, 61, 62, 63, 64, 65, 66, 67, 68, 69, 70, 71, 72, 73, 74, 75, 76, 77, 78, 79, 80, 81, 82, 83, 84, 85, 86, 87, 88, 89, 90, 91, 92, 93, 94, 95, 96, 97, 98, 99, 100, 101, 102, 103, 104, 105, 106, 107, 108, 109, 110, 111, 112, 113, 114, 115, 116, 117, 118, 119, 120, 121, 122, 123, 124, 125, 126, 127, 128, 129, 130, 131, 132, 133, 134, 135, 136, 137, 184, 185, 186, 187, 176, 177, 178, 179, 180, 181, 182, 183] (by decide +kernel) (by decide +kernel)
set_option maxRecDepth 20000 in
theorem gX5_solve_X0_cutByRules : GoodIn wsX5_solve (wsV RX5 55 RX0 yX0_cutByRules wsX0_cutByRules) := goodIn_app (goodIn_of _ (by decide +kernel)) ggX5_solve_X0_cutByRules
set_option maxRecDepth 20000 in
theorem ggX5_solve_X5_widestOf : GoodIn wsX5_solve wsX5_widestOf := goodIn_r _ [141, 4, 12, 142, 143, 144, 57, 145, 168, 169, 170, 171, 172, 173, 174, 175, 184, 185, 186, 187] (by decide +kernel) (by decide +kernel)
set_option maxRecDepth 20000 in
theorem gX5_solve_X5_widestOf : GoodIn wsX5_solve (wsV RX5 63 RX5 yX5_widestOf wsX5_widestOf) := goodIn_app (goodIn_of _ (by decide +kernel)) ggX5_solve_X5_widestOf
set_option maxRecDepth 20000 in
theorem ggX5_solve_X5_halve : GoodIn wsX5_solve wsX5_halve := goodIn_r _ [149, 4, 12, 142, 150, 96, 57, 97, 27, 28, 29, 30, 31, 3, 7, 8, 32, 33, 34, 22, 35, 24, 25, 16, 17, 18, 26, 168, 169, 170, 171, 172, 173, 174, 175, 184, 185, 186, 187] (by decide +kernel) (by decide +kernel)
set_option maxRecDepth 20000 in
theorem gX5_solve_X5_halve : GoodIn wsX5_solve (wsV RX5 67 RX5 yX5_halve wsX5_halve) := goodIn_app (goodIn_of _ (by decide +kernel)) ggX5_solve_X5_halve
set_option maxRecDepth 20000 in
theorem ggX5_solve_X3_allRulesHold : GoodIn wsX5_solve wsX3_allRulesHold := goodIn_r _ [155, 156, 157, 158, 159, 160, 161, 162, 57, 163, 164, 63, 64, 65, 165, 52, 53, 54, 55, 56, 58, 59, 60, 61, 62, 66, 67, 68, 69, 70, 71, 72, 73, 74, 75, 76, 77, 78, 79, 80, 81, 82, 166, 103, 104, 167, 122, 123, 176, 177, 178, 179, 180, 181, 182, 183] (by decide +kernel) (by decide +kernel)
set_option maxRecDepth 20000 in
theorem gX5_solve_X3_allRulesHold : GoodIn wsX5_solve (wsV RX5 72 RX3 yX3_allRulesHold wsX3_allRulesHold) := goodIn_app (goodIn_of _ (by decide +kernel)) ggX5_solve_X3_allRulesHold
theorem dX5_solve_0 : decode cX5_solve 0 = .ok (.aload_n 0, 1) := by decide +kernel
theorem dX5_solve_1 : decode cX5_solve 1 = .ok (.getfield 25, 3) := by decide +kernel
theorem dX5_solve_4 : decode cX5_solve 4 = .ok (.iload_n 2, 1) := by decide +kernel
theorem dX5_solve_5 : decode cX5_solve 5 = .ok (.if_icmp .ne 4, 3) := by decide +kernel
theorem dX5_solve_8 : decode cX5_solve 8 = .ok (.return_, 1) := by decide +kernel
theorem dX5_solve_9 : decode cX5_solve 9 = .ok (.aload_n 0, 1) := by decide +kernel
theorem dX5_solve_10 : decode cX5_solve 10 = .ok (.iload_n 2, 1) := by decide +kernel
theorem dX5_solve_11 : decode cX5_solve 11 = .ok (.putfield 25, 3) := by decide +kernel
theorem dX5_solve_14 : decode cX5_solve 14 = .ok (.aload_n 0, 1) := by decide +kernel
theorem dX5_solve_15 : decode cX5_solve 15 = .ok (.iconst 0, 1) := by decide +kernel
theorem dX5_solve_16 : decode cX5_solve 16 = .ok (.putfield 29, 3) := by decide +kernel
theorem dX5_solve_19 : decode cX5_solve 19 = .ok (.aload_n 0, 1) := by decide +kernel
theorem dX5_solve_20 : decode cX5_solve 20 = .ok (.iconst 0, 1) := by decide +kernel
theorem dX5_solve_21 : decode cX5_solve 21 = .ok (.putfield 32, 3) := by decide +kernel
theorem dX5_solve_24 : decode cX5_solve 24 = .ok (.aload_n 0, 1) := by decide +kernel
theorem dX5_solve_25 : decode cX5_solve 25 = .ok (.getfield 21, 3) := by decide +kernel
theorem dX5_solve_28 : decode cX5_solve 28 = .ok (.aload_n 1, 1) := by decide +kernel
theorem dX5_solve_29 : decode cX5_solve 29 = .ok (.getfield 35, 3) := by decide +kernel
theorem dX5_solve_32 : decode cX5_solve 32 = .ok (.aload_n 1, 1) := by decide +kernel
theorem dX5_solve_33 : decode cX5_solve 33 = .ok (.getfield 40, 3) := by decide +kernel
theorem dX5_solve_36 : decode cX5_solve 36 = .ok (.iconst 0, 1) := by decide +kernel
theorem dX5_solve_37 : decode cX5_solve 37 = .ok (.invokevirtual 43, 3) := by decide +kernel
theorem dX5_solve_40 : decode cX5_solve 40 = .ok (.aload_n 0, 1) := by decide +kernel
theorem dX5_solve_41 : decode cX5_solve 41 = .ok (.invokevirtual 49, 3) := by decide +kernel
theorem dX5_solve_44 : decode cX5_solve 44 = .ok (.iconst 0, 1) := by decide +kernel
theorem dX5_solve_45 : decode cX5_solve 45 = .ok (.istore_n 3, 1) := by decide +kernel
theorem dX5_solve_46 : decode cX5_solve 46 = .ok (.aload_n 0, 1) := by decide +kernel
theorem dX5_solve_47 : decode cX5_solve 47 = .ok (.getfield 32, 3) := by decide +kernel
theorem dX5_solve_50 : decode cX5_solve 50 = .ok (.ifCond .le 116, 3) := by decide +kernel
theorem dX5_solve_53 : decode cX5_solve 53 = .ok (.aload_n 0, 1) := by decide +kernel
theorem dX5_solve_54 : decode cX5_solve 54 = .ok (.getfield 29, 3) := by decide +kernel
theorem dX5_solve_57 : decode cX5_solve 57 = .ok (.iload_n 2, 1) := by decide +kernel
theorem dX5_solve_58 : decode cX5_solve 58 = .ok (.if_icmp .ge 108, 3) := by decide +kernel
theorem dX5_solve_61 : decode cX5_solve 61 = .ok (.iload_n 3, 1) := by decide +kernel
theorem dX5_solve_62 : decode cX5_solve 62 = .ok (.ifCond .ne 104, 3) := by decide +kernel
theorem dX5_solve_65 : decode cX5_solve 65 = .ok (.aload_n 0, 1) := by decide +kernel
theorem dX5_solve_66 : decode cX5_solve 66 = .ok (.dup, 1) := by decide +kernel
theorem dX5_solve_67 : decode cX5_solve 67 = .ok (.getfield 29, 3) := by decide +kernel
theorem dX5_solve_70 : decode cX5_solve 70 = .ok (.iconst 1, 1) := by decide +kernel
theorem dX5_solve_71 : decode cX5_solve 71 = .ok (.iadd, 1) := by decide +kernel
theorem dX5_solve_72 : decode cX5_solve 72 = .ok (.putfield 29, 3) := by decide +kernel
theorem dX5_solve_75 : decode cX5_solve 75 = .ok (.aload_n 0, 1) := by decide +kernel
theorem dX5_solve_76 : decode cX5_solve 76 = .ok (.dup, 1) := by decide +kernel
theorem dX5_solve_77 : decode cX5_solve 77 = .ok (.getfield 32, 3) := by decide +kernel
theorem dX5_solve_80 : decode cX5_solve 80 = .ok (.iconst 1, 1) := by decide +kernel
theorem dX5_solve_81 : decode cX5_solve 81 = .ok (.isub, 1) := by decide +kernel
theorem dX5_solve_82 : decode cX5_solve 82 = .ok (.putfield 32, 3) := by decide +kernel
theorem dX5_solve_85 : decode cX5_solve 85 = .ok (.aload_n 0, 1) := by decide +kernel
theorem dX5_solve_86 : decode cX5_solve 86 = .ok (.getfield 21, 3) := by decide +kernel
theorem dX5_solve_89 : decode cX5_solve 89 = .ok (.aload_n 0, 1) := by decide +kernel
theorem dX5_solve_90 : decode cX5_solve 90 = .ok (.getfield 15, 3) := by decide +kernel
theorem dX5_solve_93 : decode cX5_solve 93 = .ok (.aload_n 0, 1) := by decide +kernel
theorem dX5_solve_94 : decode cX5_solve 94 = .ok (.getfield 18, 3) := by decide +kernel
theorem dX5_solve_97 : decode cX5_solve 97 = .ok (.aload_n 0, 1) := by decide +kernel
theorem dX5_solve_98 : decode cX5_solve 98 = .ok (.getfield 32, 3) := by decide +kernel
theorem dX5_solve_101 : decode cX5_solve 101 = .ok (.bipush 6, 2) := by decide +kernel
theorem dX5_solve_103 : decode cX5_solve 103 = .ok (.imul, 1) := by decide +kernel
theorem dX5_solve_104 : decode cX5_solve 104 = .ok (.invokevirtual 43, 3) := by decide +kernel
theorem dX5_solve_107 : decode cX5_solve 107 = .ok (.aload_n 0, 1) := by decide +kernel
theorem dX5_solve_108 : decode cX5_solve 108 = .ok (.getfield 21, 3) := by decide +kernel
theorem dX5_solve_111 : decode cX5_solve 111 = .ok (.aload_n 1, 1) := by decide +kernel
theorem dX5_solve_112 : decode cX5_solve 112 = .ok (.iconst 0, 1) := by decide +kernel
theorem dX5_solve_113 : decode cX5_solve 113 = .ok (.aload_n 1, 1) := by decide +kernel
theorem dX5_solve_114 : decode cX5_solve 114 = .ok (.getfield 52, 3) := by decide +kernel
theorem dX5_solve_117 : decode cX5_solve 117 = .ok (.bipush 12, 2) := by decide +kernel
theorem dX5_solve_119 : decode cX5_solve 119 = .ok (.invokevirtual 55, 3) := by decide +kernel
theorem dX5_solve_122 : decode cX5_solve 122 = .ok (.ldc 59, 2) := by decide +kernel
theorem dX5_solve_124 : decode cX5_solve 124 = .ok (.if_icmp .eq (-78), 3) := by decide +kernel
theorem dX5_solve_127 : decode cX5_solve 127 = .ok (.aload_n 0, 1) := by decide +kernel
theorem dX5_solve_128 : decode cX5_solve 128 = .ok (.aload_n 1, 1) := by decide +kernel
theorem dX5_solve_129 : decode cX5_solve 129 = .ok (.getfield 60, 3) := by decide +kernel
theorem dX5_solve_132 : decode cX5_solve 132 = .ok (.invokevirtual 63, 3) := by decide +kernel
theorem dX5_solve_135 : decode cX5_solve 135 = .ok (.istore 4, 2) := by decide +kernel
theorem dX5_solve_137 : decode cX5_solve 137 = .ok (.iload 4, 2) := by decide +kernel
theorem dX5_solve_139 : decode cX5_solve 139 = .ok (.ifCond .lt 12, 3) := by decide +kernel
theorem dX5_solve_142 : decode cX5_solve 142 = .ok (.aload_n 0, 1) := by decide +kernel
theorem dX5_solve_143 : decode cX5_solve 143 = .ok (.iload 4, 2) := by decide +kernel
theorem dX5_solve_145 : decode cX5_solve 145 = .ok (.invokevirtual 67, 3) := by decide +kernel
theorem dX5_solve_148 : decode cX5_solve 148 = .ok (.goto 15, 3) := by decide +kernel
theorem dX5_solve_151 : decode cX5_solve 151 = .ok (.aload_n 1, 1) := by decide +kernel
theorem dX5_solve_152 : decode cX5_solve 152 = .ok (.aload_n 0, 1) := by decide +kernel
theorem dX5_solve_153 : decode cX5_solve 153 = .ok (.getfield 21, 3) := by decide +kernel
theorem dX5_solve_156 : decode cX5_solve 156 = .ok (.getfield 71, 3) := by decide +kernel
theorem dX5_solve_159 : decode cX5_solve 159 = .ok (.invokevirtual 72, 3) := by decide +kernel
theorem dX5_solve_162 : decode cX5_solve 162 = .ok (.istore_n 3, 1) := by decide +kernel
theorem dX5_solve_163 : decode cX5_solve 163 = .ok (.goto (-117), 3) := by decide +kernel
theorem dX5_solve_166 : decode cX5_solve 166 = .ok (.aload_n 0, 1) := by decide +kernel
theorem dX5_solve_167 : decode cX5_solve 167 = .ok (.iload_n 3, 1) := by decide +kernel
theorem dX5_solve_168 : decode cX5_solve 168 = .ok (.ifCond .eq 7, 3) := by decide +kernel
theorem dX5_solve_171 : decode cX5_solve 171 = .ok (.iconst 0, 1) := by decide +kernel
theorem dX5_solve_172 : decode cX5_solve 172 = .ok (.goto 15, 3) := by decide +kernel
theorem dX5_solve_175 : decode cX5_solve 175 = .ok (.aload_n 0, 1) := by decide +kernel
theorem dX5_solve_176 : decode cX5_solve 176 = .ok (.getfield 32, 3) := by decide +kernel
theorem dX5_solve_179 : decode cX5_solve 179 = .ok (.ifCond .ne 7, 3) := by decide +kernel
theorem dX5_solve_182 : decode cX5_solve 182 = .ok (.iconst 1, 1) := by decide +kernel
theorem dX5_solve_183 : decode cX5_solve 183 = .ok (.goto 4, 3) := by decide +kernel
theorem dX5_solve_186 : decode cX5_solve 186 = .ok (.iconst 2, 1) := by decide +kernel
theorem dX5_solve_187 : decode cX5_solve 187 = .ok (.putfield 76, 3) := by decide +kernel
theorem dX5_solve_190 : decode cX5_solve 190 = .ok (.aload_n 0, 1) := by decide +kernel
theorem dX5_solve_191 : decode cX5_solve 191 = .ok (.getfield 21, 3) := by decide +kernel
theorem dX5_solve_194 : decode cX5_solve 194 = .ok (.getfield 71, 3) := by decide +kernel
theorem dX5_solve_197 : decode cX5_solve 197 = .ok (.iconst 0, 1) := by decide +kernel
theorem dX5_solve_198 : decode cX5_solve 198 = .ok (.aload_n 0, 1) := by decide +kernel
theorem dX5_solve_199 : decode cX5_solve 199 = .ok (.getfield 9, 3) := by decide +kernel
theorem dX5_solve_202 : decode cX5_solve 202 = .ok (.iconst 0, 1) := by decide +kernel
theorem dX5_solve_203 : decode cX5_solve 203 = .ok (.bipush 6, 2) := by decide +kernel
theorem dX5_solve_205 : decode cX5_solve 205 = .ok (.invokestatic 79, 3) := by decide +kernel
theorem dX5_solve_208 : decode cX5_solve 208 = .ok (.return_, 1) := by decide +kernel
set_option maxRecDepth 20000 in
theorem ggX5_put_X0_store : GoodIn wsX5_put wsX0_store := goodIn_r _ [9, 10, 11, 12, 13, 14, 15, 24, 25, 26, 27] (by decide +kernel) (by decide +kernel)
set_option maxRecDepth 20000 in
theorem gX5_put_X0_store : GoodIn wsX5_put (wsV RX5 85 RX0 yX0_store wsX0_store) := goodIn_app (goodIn_of _ (by decide +kernel)) ggX5_put_X0_store
theorem dX5_put_0 : decode cX5_put 0 = .ok (.aload_n 0, 1) := by decide +kernel
theorem dX5_put_1 : decode cX5_put 1 = .ok (.getfield 32, 3) := by decide +kernel
theorem dX5_put_4 : decode cX5_put 4 = .ok (.bipush 61, 2) := by decide +kernel
theorem dX5_put_6 : decode cX5_put 6 = .ok (.if_icmp .ge 35, 3) := by decide +kernel
theorem dX5_put_9 : decode cX5_put 9 = .ok (.aload_n 0, 1) := by decide +kernel
theorem dX5_put_10 : decode cX5_put 10 = .ok (.getfield 21, 3) := by decide +kernel
theorem dX5_put_13 : decode cX5_put 13 = .ok (.aload_n 0, 1) := by decide +kernel
theorem dX5_put_14 : decode cX5_put 14 = .ok (.getfield 15, 3) := by decide +kernel
theorem dX5_put_17 : decode cX5_put 17 = .ok (.aload_n 0, 1) := by decide +kernel
theorem dX5_put_18 : decode cX5_put 18 = .ok (.getfield 18, 3) := by decide +kernel
theorem dX5_put_21 : decode cX5_put 21 = .ok (.aload_n 0, 1) := by decide +kernel
theorem dX5_put_22 : decode cX5_put 22 = .ok (.getfield 32, 3) := by decide +kernel
theorem dX5_put_25 : decode cX5_put 25 = .ok (.bipush 6, 2) := by decide +kernel
theorem dX5_put_27 : decode cX5_put 27 = .ok (.imul, 1) := by decide +kernel
theorem dX5_put_28 : decode cX5_put 28 = .ok (.invokevirtual 85, 3) := by decide +kernel
theorem dX5_put_31 : decode cX5_put 31 = .ok (.aload_n 0, 1) := by decide +kernel
theorem dX5_put_32 : decode cX5_put 32 = .ok (.dup, 1) := by decide +kernel
theorem dX5_put_33 : decode cX5_put 33 = .ok (.getfield 32, 3) := by decide +kernel
theorem dX5_put_36 : decode cX5_put 36 = .ok (.iconst 1, 1) := by decide +kernel
theorem dX5_put_37 : decode cX5_put 37 = .ok (.iadd, 1) := by decide +kernel
theorem dX5_put_38 : decode cX5_put 38 = .ok (.putfield 32, 3) := by decide +kernel
theorem dX5_put_41 : decode cX5_put 41 = .ok (.return_, 1) := by decide +kernel
set_option maxRecDepth 20000 in
theorem ggX5_widestOf_X4_held : GoodIn wsX5_widestOf wsX4_held := goodIn_r _ [7] (by decide +kernel) (by decide +kernel)
set_option maxRecDepth 20000 in
theorem gX5_widestOf_X4_held : GoodIn wsX5_widestOf (va_wsS RX5 89 yX4_held wsX4_held) := goodIn_app (goodIn_of _ (by decide +kernel)) ggX5_widestOf_X4_held
theorem dX5_widestOf_0 : decode cX5_widestOf 0 = .ok (.iconst (-1), 1) := by decide +kernel
theorem dX5_widestOf_1 : decode cX5_widestOf 1 = .ok (.istore_n 2, 1) := by decide +kernel
theorem dX5_widestOf_2 : decode cX5_widestOf 2 = .ok (.lconst 1, 1) := by decide +kernel
theorem dX5_widestOf_3 : decode cX5_widestOf 3 = .ok (.lstore_n 3, 1) := by decide +kernel
theorem dX5_widestOf_4 : decode cX5_widestOf 4 = .ok (.iconst 0, 1) := by decide +kernel
theorem dX5_widestOf_5 : decode cX5_widestOf 5 = .ok (.istore 5, 2) := by decide +kernel
theorem dX5_widestOf_7 : decode cX5_widestOf 7 = .ok (.iload 5, 2) := by decide +kernel
theorem dX5_widestOf_9 : decode cX5_widestOf 9 = .ok (.iload_n 1, 1) := by decide +kernel
theorem dX5_widestOf_10 : decode cX5_widestOf 10 = .ok (.if_icmp .ge 47, 3) := by decide +kernel
theorem dX5_widestOf_13 : decode cX5_widestOf 13 = .ok (.aload_n 0, 1) := by decide +kernel
theorem dX5_widestOf_14 : decode cX5_widestOf 14 = .ok (.getfield 21, 3) := by decide +kernel
theorem dX5_widestOf_17 : decode cX5_widestOf 17 = .ok (.getfield 71, 3) := by decide +kernel
theorem dX5_widestOf_20 : decode cX5_widestOf 20 = .ok (.iload 5, 2) := by decide +kernel
theorem dX5_widestOf_22 : decode cX5_widestOf 22 = .ok (.iaload, 1) := by decide +kernel
theorem dX5_widestOf_23 : decode cX5_widestOf 23 = .ok (.aload_n 0, 1) := by decide +kernel
theorem dX5_widestOf_24 : decode cX5_widestOf 24 = .ok (.getfield 21, 3) := by decide +kernel
theorem dX5_widestOf_27 : decode cX5_widestOf 27 = .ok (.getfield 88, 3) := by decide +kernel
theorem dX5_widestOf_30 : decode cX5_widestOf 30 = .ok (.iload 5, 2) := by decide +kernel
theorem dX5_widestOf_32 : decode cX5_widestOf 32 = .ok (.iaload, 1) := by decide +kernel
theorem dX5_widestOf_33 : decode cX5_widestOf 33 = .ok (.invokestatic 89, 3) := by decide +kernel
theorem dX5_widestOf_36 : decode cX5_widestOf 36 = .ok (.lstore 6, 2) := by decide +kernel
theorem dX5_widestOf_38 : decode cX5_widestOf 38 = .ok (.lload 6, 2) := by decide +kernel
theorem dX5_widestOf_40 : decode cX5_widestOf 40 = .ok (.lload_n 3, 1) := by decide +kernel
theorem dX5_widestOf_41 : decode cX5_widestOf 41 = .ok (.lcmp, 1) := by decide +kernel
theorem dX5_widestOf_42 : decode cX5_widestOf 42 = .ok (.ifCond .le 9, 3) := by decide +kernel
theorem dX5_widestOf_45 : decode cX5_widestOf 45 = .ok (.lload 6, 2) := by decide +kernel
theorem dX5_widestOf_47 : decode cX5_widestOf 47 = .ok (.lstore_n 3, 1) := by decide +kernel
theorem dX5_widestOf_48 : decode cX5_widestOf 48 = .ok (.iload 5, 2) := by decide +kernel
theorem dX5_widestOf_50 : decode cX5_widestOf 50 = .ok (.istore_n 2, 1) := by decide +kernel
theorem dX5_widestOf_51 : decode cX5_widestOf 51 = .ok (.iinc 5 1, 3) := by decide +kernel
theorem dX5_widestOf_54 : decode cX5_widestOf 54 = .ok (.goto (-47), 3) := by decide +kernel
theorem dX5_widestOf_57 : decode cX5_widestOf 57 = .ok (.iload_n 2, 1) := by decide +kernel
theorem dX5_widestOf_58 : decode cX5_widestOf 58 = .ok (.ireturn, 1) := by decide +kernel
set_option maxRecDepth 20000 in
theorem ggX5_halve_X4_middle : GoodIn wsX5_halve wsX4_middle := goodIn_r _ [7] (by decide +kernel) (by decide +kernel)
set_option maxRecDepth 20000 in
theorem gX5_halve_X4_middle : GoodIn wsX5_halve (va_wsS RX5 95 yX4_middle wsX4_middle) := goodIn_app (goodIn_of _ (by decide +kernel)) ggX5_halve_X4_middle
set_option maxRecDepth 20000 in
theorem ggX5_halve_X5_put : GoodIn wsX5_halve wsX5_put := goodIn_r _ [12, 13, 1, 14, 15, 16, 17, 18, 19, 20, 21, 22, 23, 24, 25, 26, 27, 28, 29, 30, 31, 32, 33, 34, 35, 36, 37, 38] (by decide +kernel) (by decide +kernel)
set_option maxRecDepth 20000 in
theorem gX5_halve_X5_put : GoodIn wsX5_halve (wsV RX5 49 RX5 yX5_put wsX5_put) := goodIn_app (goodIn_of _ (by decide +kernel)) ggX5_halve_X5_put
theorem dX5_halve_0 : decode cX5_halve 0 = .ok (.aload_n 0, 1) := by decide +kernel
theorem dX5_halve_1 : decode cX5_halve 1 = .ok (.getfield 21, 3) := by decide +kernel
theorem dX5_halve_4 : decode cX5_halve 4 = .ok (.getfield 71, 3) := by decide +kernel
theorem dX5_halve_7 : decode cX5_halve 7 = .ok (.iload_n 1, 1) := by decide +kernel
theorem dX5_halve_8 : decode cX5_halve 8 = .ok (.iaload, 1) := by decide +kernel
theorem dX5_halve_9 : decode cX5_halve 9 = .ok (.istore_n 2, 1) := by decide +kernel
theorem dX5_halve_10 : decode cX5_halve 10 = .ok (.iload_n 2, 1) := by decide +kernel
theorem dX5_halve_11 : decode cX5_halve 11 = .ok (.aload_n 0, 1) := by decide +kernel
theorem dX5_halve_12 : decode cX5_halve 12 = .ok (.getfield 21, 3) := by decide +kernel
theorem dX5_halve_15 : decode cX5_halve 15 = .ok (.getfield 88, 3) := by decide +kernel
theorem dX5_halve_18 : decode cX5_halve 18 = .ok (.iload_n 1, 1) := by decide +kernel
theorem dX5_halve_19 : decode cX5_halve 19 = .ok (.iaload, 1) := by decide +kernel
theorem dX5_halve_20 : decode cX5_halve 20 = .ok (.invokestatic 95, 3) := by decide +kernel
theorem dX5_halve_23 : decode cX5_halve 23 = .ok (.istore_n 3, 1) := by decide +kernel
theorem dX5_halve_24 : decode cX5_halve 24 = .ok (.aload_n 0, 1) := by decide +kernel
theorem dX5_halve_25 : decode cX5_halve 25 = .ok (.getfield 21, 3) := by decide +kernel
theorem dX5_halve_28 : decode cX5_halve 28 = .ok (.getfield 71, 3) := by decide +kernel
theorem dX5_halve_31 : decode cX5_halve 31 = .ok (.iload_n 1, 1) := by decide +kernel
theorem dX5_halve_32 : decode cX5_halve 32 = .ok (.iload_n 3, 1) := by decide +kernel
theorem dX5_halve_33 : decode cX5_halve 33 = .ok (.iconst 1, 1) := by decide +kernel
theorem dX5_halve_34 : decode cX5_halve 34 = .ok (.iadd, 1) := by decide +kernel
theorem dX5_halve_35 : decode cX5_halve 35 = .ok (.iastore, 1) := by decide +kernel
theorem dX5_halve_36 : decode cX5_halve 36 = .ok (.aload_n 0, 1) := by decide +kernel
theorem dX5_halve_37 : decode cX5_halve 37 = .ok (.invokevirtual 49, 3) := by decide +kernel
theorem dX5_halve_40 : decode cX5_halve 40 = .ok (.aload_n 0, 1) := by decide +kernel
theorem dX5_halve_41 : decode cX5_halve 41 = .ok (.getfield 21, 3) := by decide +kernel
theorem dX5_halve_44 : decode cX5_halve 44 = .ok (.getfield 71, 3) := by decide +kernel
theorem dX5_halve_47 : decode cX5_halve 47 = .ok (.iload_n 1, 1) := by decide +kernel
theorem dX5_halve_48 : decode cX5_halve 48 = .ok (.iload_n 2, 1) := by decide +kernel
theorem dX5_halve_49 : decode cX5_halve 49 = .ok (.iastore, 1) := by decide +kernel
theorem dX5_halve_50 : decode cX5_halve 50 = .ok (.aload_n 0, 1) := by decide +kernel
theorem dX5_halve_51 : decode cX5_halve 51 = .ok (.getfield 21, 3) := by decide +kernel
theorem dX5_halve_54 : decode cX5_halve 54 = .ok (.getfield 88, 3) := by decide +kernel
theorem dX5_halve_57 : decode cX5_halve 57 = .ok (.iload_n 1, 1) := by decide +kernel
theorem dX5_halve_58 : decode cX5_halve 58 = .ok (.iload_n 3, 1) := by decide +kernel
theorem dX5_halve_59 : decode cX5_halve 59 = .ok (.iastore, 1) := by decide +kernel
theorem dX5_halve_60 : decode cX5_halve 60 = .ok (.aload_n 0, 1) := by decide +kernel
theorem dX5_halve_61 : decode cX5_halve 61 = .ok (.invokevirtual 49, 3) := by decide +kernel
theorem dX5_halve_64 : decode cX5_halve 64 = .ok (.return_, 1) := by decide +kernel
theorem dX6_init_0 : decode cX6_init 0 = .ok (.aload_n 0, 1) := by decide +kernel
theorem dX6_init_1 : decode cX6_init 1 = .ok (.invokespecial 3, 3) := by decide +kernel
theorem dX6_init_4 : decode cX6_init 4 = .ok (.aload_n 0, 1) := by decide +kernel
theorem dX6_init_5 : decode cX6_init 5 = .ok (.bipush 120, 2) := by decide +kernel
theorem dX6_init_7 : decode cX6_init 7 = .ok (.newarray .int, 2) := by decide +kernel
theorem dX6_init_9 : decode cX6_init 9 = .ok (.putfield 9, 3) := by decide +kernel
theorem dX6_init_12 : decode cX6_init 12 = .ok (.aload_n 0, 1) := by decide +kernel
theorem dX6_init_13 : decode cX6_init 13 = .ok (.bipush 60, 2) := by decide +kernel
theorem dX6_init_15 : decode cX6_init 15 = .ok (.newarray .int, 2) := by decide +kernel
theorem dX6_init_17 : decode cX6_init 17 = .ok (.putfield 15, 3) := by decide +kernel
theorem dX6_init_20 : decode cX6_init 20 = .ok (.aload_n 0, 1) := by decide +kernel
theorem dX6_init_21 : decode cX6_init 21 = .ok (.sipush 240, 3) := by decide +kernel
theorem dX6_init_24 : decode cX6_init 24 = .ok (.newarray .int, 2) := by decide +kernel
theorem dX6_init_26 : decode cX6_init 26 = .ok (.putfield 18, 3) := by decide +kernel
theorem dX6_init_29 : decode cX6_init 29 = .ok (.return_, 1) := by decide +kernel
set_option maxRecDepth 20000 in
theorem ggX6_parse_X6_skipBlanks : GoodIn wsX6_parse wsX6_skipBlanks := goodIn_r _ [8, 1, 3, 9, 30, 31, 32, 33, 34, 35] (by decide +kernel) (by decide +kernel)
set_option maxRecDepth 20000 in
theorem gX6_parse_X6_skipBlanks : GoodIn wsX6_parse (wsV RX6 28 RX6 yX6_skipBlanks wsX6_skipBlanks) := goodIn_app (goodIn_of _ (by decide +kernel)) ggX6_parse_X6_skipBlanks
set_option maxRecDepth 20000 in
theorem ggX6_parse_X6_readOrder : GoodIn wsX6_parse wsX6_readOrder := goodIn_r _ [13, 1, 14, 2, 15, 16, 17, 7, 18, 3, 9, 19, 20, 21, 4, 5, 6, 8, 22, 23, 24, 25, 26, 27, 28, 29, 30, 31, 32, 33, 34, 35] (by decide +kernel) (by decide +kernel)
set_option maxRecDepth 20000 in
theorem gX6_parse_X6_readOrder : GoodIn wsX6_parse (wsV RX6 31 RX6 yX6_readOrder wsX6_readOrder) := goodIn_app (goodIn_of _ (by decide +kernel)) ggX6_parse_X6_readOrder
theorem dX6_parse_0 : decode cX6_parse 0 = .ok (.aload_n 0, 1) := by decide +kernel
theorem dX6_parse_1 : decode cX6_parse 1 = .ok (.iconst 0, 1) := by decide +kernel
theorem dX6_parse_2 : decode cX6_parse 2 = .ok (.putfield 21, 3) := by decide +kernel
theorem dX6_parse_5 : decode cX6_parse 5 = .ok (.aload_n 0, 1) := by decide +kernel
theorem dX6_parse_6 : decode cX6_parse 6 = .ok (.iconst 0, 1) := by decide +kernel
theorem dX6_parse_7 : decode cX6_parse 7 = .ok (.putfield 25, 3) := by decide +kernel
theorem dX6_parse_10 : decode cX6_parse 10 = .ok (.aload_n 0, 1) := by decide +kernel
theorem dX6_parse_11 : decode cX6_parse 11 = .ok (.invokevirtual 28, 3) := by decide +kernel
theorem dX6_parse_14 : decode cX6_parse 14 = .ok (.aload_n 0, 1) := by decide +kernel
theorem dX6_parse_15 : decode cX6_parse 15 = .ok (.getfield 25, 3) := by decide +kernel
theorem dX6_parse_18 : decode cX6_parse 18 = .ok (.bipush 60, 2) := by decide +kernel
theorem dX6_parse_20 : decode cX6_parse 20 = .ok (.if_icmp .ge 37, 3) := by decide +kernel
theorem dX6_parse_23 : decode cX6_parse 23 = .ok (.aload_n 0, 1) := by decide +kernel
theorem dX6_parse_24 : decode cX6_parse 24 = .ok (.invokevirtual 31, 3) := by decide +kernel
theorem dX6_parse_27 : decode cX6_parse 27 = .ok (.ifCond .eq 30, 3) := by decide +kernel
theorem dX6_parse_30 : decode cX6_parse 30 = .ok (.aload_n 0, 1) := by decide +kernel
theorem dX6_parse_31 : decode cX6_parse 31 = .ok (.dup, 1) := by decide +kernel
theorem dX6_parse_32 : decode cX6_parse 32 = .ok (.getfield 25, 3) := by decide +kernel
theorem dX6_parse_35 : decode cX6_parse 35 = .ok (.iconst 1, 1) := by decide +kernel
theorem dX6_parse_36 : decode cX6_parse 36 = .ok (.iadd, 1) := by decide +kernel
theorem dX6_parse_37 : decode cX6_parse 37 = .ok (.putfield 25, 3) := by decide +kernel
theorem dX6_parse_40 : decode cX6_parse 40 = .ok (.aload_n 0, 1) := by decide +kernel
theorem dX6_parse_41 : decode cX6_parse 41 = .ok (.invokevirtual 28, 3) := by decide +kernel
theorem dX6_parse_44 : decode cX6_parse 44 = .ok (.aload_n 0, 1) := by decide +kernel
theorem dX6_parse_45 : decode cX6_parse 45 = .ok (.getfield 21, 3) := by decide +kernel
theorem dX6_parse_48 : decode cX6_parse 48 = .ok (.aload_n 0, 1) := by decide +kernel
theorem dX6_parse_49 : decode cX6_parse 49 = .ok (.getfield 35, 3) := by decide +kernel
theorem dX6_parse_52 : decode cX6_parse 52 = .ok (.if_icmp .lt (-38), 3) := by decide +kernel
theorem dX6_parse_55 : decode cX6_parse 55 = .ok (.iconst 1, 1) := by decide +kernel
theorem dX6_parse_56 : decode cX6_parse 56 = .ok (.ireturn, 1) := by decide +kernel
theorem dX6_parse_57 : decode cX6_parse 57 = .ok (.iconst 0, 1) := by decide +kernel
theorem dX6_parse_58 : decode cX6_parse 58 = .ok (.ireturn, 1) := by decide +kernel
set_option maxRecDepth 20000 in
theorem ggX6_readOrder_X6_peek : GoodIn wsX6_readOrder wsX6_peek := goodIn_r _ [8, 1, 9, 10, 26, 27, 28, 29, 30, 31] (by decide +kernel) (by decide +kernel)
set_option maxRecDepth 20000 in
theorem gX6_readOrder_X6_peek : GoodIn wsX6_readOrder (wsV RX6 38 RX6 yX6_peek wsX6_peek) := goodIn_app (goodIn_of _ (by decide +kernel)) ggX6_readOrder_X6_peek
set_option maxRecDepth 20000 in
theorem ggX6_readOrder_X6_numbersOf : GoodIn wsX6_readOrder wsX6_numbersOf := goodIn_r _ [13] (by decide +kernel) (by decide +kernel)
set_option maxRecDepth 20000 in
theorem gX6_readOrder_X6_numbersOf : GoodIn wsX6_readOrder (va_wsS RX6 42 yX6_numbersOf wsX6_numbersOf) := goodIn_app (goodIn_of _ (by decide +kernel)) ggX6_readOrder_X6_numbersOf
set_option maxRecDepth 20000 in
theorem ggX6_readOrder_X6_skipBlanks : GoodIn wsX6_readOrder wsX6_skipBlanks := goodIn_r _ [17, 1, 9, 10, 26, 27, 28, 29, 30, 31] (by decide +kernel) (by decide +kernel)
set_option maxRecDepth 20000 in
theorem gX6_readOrder_X6_skipBlanks : GoodIn wsX6_readOrder (wsV RX6 28 RX6 yX6_skipBlanks wsX6_skipBlanks) := goodIn_app (goodIn_of _ (by decide +kernel)) ggX6_readOrder_X6_skipBlanks
set_option maxRecDepth 20000 in
theorem ggX6_readOrder_X6_readNumber : GoodIn wsX6_readOrder wsX6_readNumber := goodIn_r _ [21, 1, 22, 4, 5, 6, 7, 8, 9, 10, 23, 24, 25, 26, 27, 28, 29, 30, 31] (by decide +kernel) (by decide +kernel)
set_option maxRecDepth 20000 in
theorem gX6_readOrder_X6_readNumber : GoodIn wsX6_readOrder (wsV RX6 46 RX6 yX6_readNumber wsX6_readNumber) := goodIn_app (goodIn_of _ (by decide +kernel)) ggX6_readOrder_X6_readNumber
theorem dX6_readOrder_0 : decode cX6_readOrder 0 = .ok (.aload_n 0, 1) := by decide +kernel
theorem dX6_readOrder_1 : decode cX6_readOrder 1 = .ok (.invokevirtual 38, 3) := by decide +kernel
theorem dX6_readOrder_4 : decode cX6_readOrder 4 = .ok (.istore_n 1, 1) := by decide +kernel
theorem dX6_readOrder_5 : decode cX6_readOrder 5 = .ok (.iload_n 1, 1) := by decide +kernel
theorem dX6_readOrder_6 : decode cX6_readOrder 6 = .ok (.invokestatic 42, 3) := by decide +kernel
theorem dX6_readOrder_9 : decode cX6_readOrder 9 = .ok (.istore_n 2, 1) := by decide +kernel
theorem dX6_readOrder_10 : decode cX6_readOrder 10 = .ok (.iload_n 2, 1) := by decide +kernel
theorem dX6_readOrder_11 : decode cX6_readOrder 11 = .ok (.ifCond .ge 5, 3) := by decide +kernel
theorem dX6_readOrder_14 : decode cX6_readOrder 14 = .ok (.iconst 0, 1) := by decide +kernel
theorem dX6_readOrder_15 : decode cX6_readOrder 15 = .ok (.ireturn, 1) := by decide +kernel
theorem dX6_readOrder_16 : decode cX6_readOrder 16 = .ok (.aload_n 0, 1) := by decide +kernel
theorem dX6_readOrder_17 : decode cX6_readOrder 17 = .ok (.dup, 1) := by decide +kernel
theorem dX6_readOrder_18 : decode cX6_readOrder 18 = .ok (.getfield 21, 3) := by decide +kernel
theorem dX6_readOrder_21 : decode cX6_readOrder 21 = .ok (.iconst 1, 1) := by decide +kernel
theorem dX6_readOrder_22 : decode cX6_readOrder 22 = .ok (.iadd, 1) := by decide +kernel
theorem dX6_readOrder_23 : decode cX6_readOrder 23 = .ok (.putfield 21, 3) := by decide +kernel
theorem dX6_readOrder_26 : decode cX6_readOrder 26 = .ok (.aload_n 0, 1) := by decide +kernel
theorem dX6_readOrder_27 : decode cX6_readOrder 27 = .ok (.getfield 15, 3) := by decide +kernel
theorem dX6_readOrder_30 : decode cX6_readOrder 30 = .ok (.aload_n 0, 1) := by decide +kernel
theorem dX6_readOrder_31 : decode cX6_readOrder 31 = .ok (.getfield 25, 3) := by decide +kernel
theorem dX6_readOrder_34 : decode cX6_readOrder 34 = .ok (.iload_n 1, 1) := by decide +kernel
theorem dX6_readOrder_35 : decode cX6_readOrder 35 = .ok (.iastore, 1) := by decide +kernel
theorem dX6_readOrder_36 : decode cX6_readOrder 36 = .ok (.iconst 0, 1) := by decide +kernel
theorem dX6_readOrder_37 : decode cX6_readOrder 37 = .ok (.istore_n 3, 1) := by decide +kernel
theorem dX6_readOrder_38 : decode cX6_readOrder 38 = .ok (.iload_n 3, 1) := by decide +kernel
theorem dX6_readOrder_39 : decode cX6_readOrder 39 = .ok (.iload_n 2, 1) := by decide +kernel
theorem dX6_readOrder_40 : decode cX6_readOrder 40 = .ok (.if_icmp .ge 41, 3) := by decide +kernel
theorem dX6_readOrder_43 : decode cX6_readOrder 43 = .ok (.aload_n 0, 1) := by decide +kernel
theorem dX6_readOrder_44 : decode cX6_readOrder 44 = .ok (.invokevirtual 28, 3) := by decide +kernel
theorem dX6_readOrder_47 : decode cX6_readOrder 47 = .ok (.aload_n 0, 1) := by decide +kernel
theorem dX6_readOrder_48 : decode cX6_readOrder 48 = .ok (.aload_n 0, 1) := by decide +kernel
theorem dX6_readOrder_49 : decode cX6_readOrder 49 = .ok (.getfield 25, 3) := by decide +kernel
theorem dX6_readOrder_52 : decode cX6_readOrder 52 = .ok (.iconst 4, 1) := by decide +kernel
theorem dX6_readOrder_53 : decode cX6_readOrder 53 = .ok (.imul, 1) := by decide +kernel
theorem dX6_readOrder_54 : decode cX6_readOrder 54 = .ok (.iload_n 3, 1) := by decide +kernel
theorem dX6_readOrder_55 : decode cX6_readOrder 55 = .ok (.iadd, 1) := by decide +kernel
theorem dX6_readOrder_56 : decode cX6_readOrder 56 = .ok (.iload_n 1, 1) := by decide +kernel
theorem dX6_readOrder_57 : decode cX6_readOrder 57 = .ok (.bipush 117, 2) := by decide +kernel
theorem dX6_readOrder_59 : decode cX6_readOrder 59 = .ok (.if_icmp .ne 7, 3) := by decide +kernel
theorem dX6_readOrder_62 : decode cX6_readOrder 62 = .ok (.iconst 1, 1) := by decide +kernel
theorem dX6_readOrder_63 : decode cX6_readOrder 63 = .ok (.goto 4, 3) := by decide +kernel
theorem dX6_readOrder_66 : decode cX6_readOrder 66 = .ok (.iconst 0, 1) := by decide +kernel
theorem dX6_readOrder_67 : decode cX6_readOrder 67 = .ok (.invokevirtual 46, 3) := by decide +kernel
theorem dX6_readOrder_70 : decode cX6_readOrder 70 = .ok (.ifCond .ne 5, 3) := by decide +kernel
theorem dX6_readOrder_73 : decode cX6_readOrder 73 = .ok (.iconst 0, 1) := by decide +kernel
theorem dX6_readOrder_74 : decode cX6_readOrder 74 = .ok (.ireturn, 1) := by decide +kernel
theorem dX6_readOrder_75 : decode cX6_readOrder 75 = .ok (.iinc 3 1, 3) := by decide +kernel
theorem dX6_readOrder_78 : decode cX6_readOrder 78 = .ok (.goto (-40), 3) := by decide +kernel
theorem dX6_readOrder_81 : decode cX6_readOrder 81 = .ok (.aload_n 0, 1) := by decide +kernel
theorem dX6_readOrder_82 : decode cX6_readOrder 82 = .ok (.invokevirtual 28, 3) := by decide +kernel
theorem dX6_readOrder_85 : decode cX6_readOrder 85 = .ok (.aload_n 0, 1) := by decide +kernel
theorem dX6_readOrder_86 : decode cX6_readOrder 86 = .ok (.invokevirtual 38, 3) := by decide +kernel
theorem dX6_readOrder_89 : decode cX6_readOrder 89 = .ok (.bipush 59, 2) := by decide +kernel
theorem dX6_readOrder_91 : decode cX6_readOrder 91 = .ok (.if_icmp .eq 5, 3) := by decide +kernel
theorem dX6_readOrder_94 : decode cX6_readOrder 94 = .ok (.iconst 0, 1) := by decide +kernel
theorem dX6_readOrder_95 : decode cX6_readOrder 95 = .ok (.ireturn, 1) := by decide +kernel
theorem dX6_readOrder_96 : decode cX6_readOrder 96 = .ok (.aload_n 0, 1) := by decide +kernel
theorem dX6_readOrder_97 : decode cX6_readOrder 97 = .ok (.dup, 1) := by decide +kernel
theorem dX6_readOrder_98 : decode cX6_readOrder 98 = .ok (.getfield 21, 3) := by decide +kernel
theorem dX6_readOrder_101 : decode cX6_readOrder 101 = .ok (.iconst 1, 1) := by decide +kernel
theorem dX6_readOrder_102 : decode cX6_readOrder 102 = .ok (.iadd, 1) := by decide +kernel
theorem dX6_readOrder_103 : decode cX6_readOrder 103 = .ok (.putfield 21, 3) := by decide +kernel
theorem dX6_readOrder_106 : decode cX6_readOrder 106 = .ok (.iconst 1, 1) := by decide +kernel
theorem dX6_readOrder_107 : decode cX6_readOrder 107 = .ok (.ireturn, 1) := by decide +kernel
theorem dX6_numbersOf_0 : decode cX6_numbersOf 0 = .ok (.iload_n 0, 1) := by decide +kernel
theorem dX6_numbersOf_1 : decode cX6_numbersOf 1 = .ok (.lookupswitch 51 #[(99, 47), (107, 45), (117, 43), (120, 49)], 43) := by decide +kernel
theorem dX6_numbersOf_44 : decode cX6_numbersOf 44 = .ok (.iconst 2, 1) := by decide +kernel
theorem dX6_numbersOf_45 : decode cX6_numbersOf 45 = .ok (.ireturn, 1) := by decide +kernel
theorem dX6_numbersOf_46 : decode cX6_numbersOf 46 = .ok (.iconst 4, 1) := by decide +kernel
theorem dX6_numbersOf_47 : decode cX6_numbersOf 47 = .ok (.ireturn, 1) := by decide +kernel
theorem dX6_numbersOf_48 : decode cX6_numbersOf 48 = .ok (.iconst 0, 1) := by decide +kernel
theorem dX6_numbersOf_49 : decode cX6_numbersOf 49 = .ok (.ireturn, 1) := by decide +kernel
theorem dX6_numbersOf_50 : decode cX6_numbersOf 50 = .ok (.iconst 1, 1) := by decide +kernel
theorem dX6_numbersOf_51 : decode cX6_numbersOf 51 = .ok (.ireturn, 1) := by decide +kernel
theorem dX6_numbersOf_52 : decode cX6_numbersOf 52 = .ok (.iconst (-1), 1) := by decide +kernel
theorem dX6_numbersOf_53 : decode cX6_numbersOf 53 = .ok (.ireturn, 1) := by decide +kernel
set_option maxRecDepth 20000 in
theorem ggX6_readNumber_X6_peek : GoodIn wsX6_readNumber wsX6_peek := goodIn_r _ [7, 1, 8, 9, 13, 14, 15, 16, 17, 18] (by decide +kernel) (by decide +kernel)
set_option maxRecDepth 20000 in
theorem gX6_readNumber_X6_peek : GoodIn wsX6_readNumber (wsV RX6 38 RX6 yX6_peek wsX6_peek) := goodIn_app (goodIn_of _ (by decide +kernel)) ggX6_readNumber_X6_peek
set_option maxRecDepth 20000 in
theorem ggX6_readNumber_X6_isFigure : GoodIn wsX6_readNumber wsX6_isFigure := goodIn_r _ [12] (by decide +kernel) (by decide +kernel)
set_option maxRecDepth 20000 in
theorem gX6_readNumber_X6_isFigure : GoodIn wsX6_readNumber (va_wsS RX6 50 yX6_isFigure wsX6_isFigure) := goodIn_app (goodIn_of _ (by decide +kernel)) ggX6_readNumber_X6_isFigure
theorem dX6_readNumber_0 : decode cX6_readNumber 0 = .ok (.iload_n 2, 1) := by decide +kernel
theorem dX6_readNumber_1 : decode cX6_readNumber 1 = .ok (.ifCond .eq 16, 3) := by decide +kernel
theorem dX6_readNumber_4 : decode cX6_readNumber 4 = .ok (.aload_n 0, 1) := by decide +kernel
theorem dX6_readNumber_5 : decode cX6_readNumber 5 = .ok (.invokevirtual 38, 3) := by decide +kernel
theorem dX6_readNumber_8 : decode cX6_readNumber 8 = .ok (.bipush 45, 2) := by decide +kernel
theorem dX6_readNumber_10 : decode cX6_readNumber 10 = .ok (.if_icmp .ne 7, 3) := by decide +kernel
theorem dX6_readNumber_13 : decode cX6_readNumber 13 = .ok (.iconst 1, 1) := by decide +kernel
theorem dX6_readNumber_14 : decode cX6_readNumber 14 = .ok (.goto 4, 3) := by decide +kernel
theorem dX6_readNumber_17 : decode cX6_readNumber 17 = .ok (.iconst 0, 1) := by decide +kernel
theorem dX6_readNumber_18 : decode cX6_readNumber 18 = .ok (.istore_n 3, 1) := by decide +kernel
theorem dX6_readNumber_19 : decode cX6_readNumber 19 = .ok (.iload_n 3, 1) := by decide +kernel
theorem dX6_readNumber_20 : decode cX6_readNumber 20 = .ok (.ifCond .eq 13, 3) := by decide +kernel
theorem dX6_readNumber_23 : decode cX6_readNumber 23 = .ok (.aload_n 0, 1) := by decide +kernel
theorem dX6_readNumber_24 : decode cX6_readNumber 24 = .ok (.dup, 1) := by decide +kernel
theorem dX6_readNumber_25 : decode cX6_readNumber 25 = .ok (.getfield 21, 3) := by decide +kernel
theorem dX6_readNumber_28 : decode cX6_readNumber 28 = .ok (.iconst 1, 1) := by decide +kernel
theorem dX6_readNumber_29 : decode cX6_readNumber 29 = .ok (.iadd, 1) := by decide +kernel
theorem dX6_readNumber_30 : decode cX6_readNumber 30 = .ok (.putfield 21, 3) := by decide +kernel
theorem dX6_readNumber_33 : decode cX6_readNumber 33 = .ok (.iconst 0, 1) := by decide +kernel
theorem dX6_readNumber_34 : decode cX6_readNumber 34 = .ok (.istore 4, 2) := by decide +kernel
theorem dX6_readNumber_36 : decode cX6_readNumber 36 = .ok (.iconst 0, 1) := by decide +kernel
theorem dX6_readNumber_37 : decode cX6_readNumber 37 = .ok (.istore 5, 2) := by decide +kernel
theorem dX6_readNumber_39 : decode cX6_readNumber 39 = .ok (.iload 5, 2) := by decide +kernel
theorem dX6_readNumber_41 : decode cX6_readNumber 41 = .ok (.bipush 9, 2) := by decide +kernel
theorem dX6_readNumber_43 : decode cX6_readNumber 43 = .ok (.if_icmp .ge 44, 3) := by decide +kernel
theorem dX6_readNumber_46 : decode cX6_readNumber 46 = .ok (.aload_n 0, 1) := by decide +kernel
theorem dX6_readNumber_47 : decode cX6_readNumber 47 = .ok (.invokevirtual 38, 3) := by decide +kernel
theorem dX6_readNumber_50 : decode cX6_readNumber 50 = .ok (.invokestatic 50, 3) := by decide +kernel
theorem dX6_readNumber_53 : decode cX6_readNumber 53 = .ok (.ifCond .eq 34, 3) := by decide +kernel
theorem dX6_readNumber_56 : decode cX6_readNumber 56 = .ok (.iload 4, 2) := by decide +kernel
theorem dX6_readNumber_58 : decode cX6_readNumber 58 = .ok (.bipush 10, 2) := by decide +kernel
theorem dX6_readNumber_60 : decode cX6_readNumber 60 = .ok (.imul, 1) := by decide +kernel
theorem dX6_readNumber_61 : decode cX6_readNumber 61 = .ok (.aload_n 0, 1) := by decide +kernel
theorem dX6_readNumber_62 : decode cX6_readNumber 62 = .ok (.invokevirtual 38, 3) := by decide +kernel
theorem dX6_readNumber_65 : decode cX6_readNumber 65 = .ok (.iadd, 1) := by decide +kernel
theorem dX6_readNumber_66 : decode cX6_readNumber 66 = .ok (.bipush 48, 2) := by decide +kernel
theorem dX6_readNumber_68 : decode cX6_readNumber 68 = .ok (.isub, 1) := by decide +kernel
theorem dX6_readNumber_69 : decode cX6_readNumber 69 = .ok (.istore 4, 2) := by decide +kernel
theorem dX6_readNumber_71 : decode cX6_readNumber 71 = .ok (.iinc 5 1, 3) := by decide +kernel
theorem dX6_readNumber_74 : decode cX6_readNumber 74 = .ok (.aload_n 0, 1) := by decide +kernel
theorem dX6_readNumber_75 : decode cX6_readNumber 75 = .ok (.dup, 1) := by decide +kernel
theorem dX6_readNumber_76 : decode cX6_readNumber 76 = .ok (.getfield 21, 3) := by decide +kernel
theorem dX6_readNumber_79 : decode cX6_readNumber 79 = .ok (.iconst 1, 1) := by decide +kernel
theorem dX6_readNumber_80 : decode cX6_readNumber 80 = .ok (.iadd, 1) := by decide +kernel
theorem dX6_readNumber_81 : decode cX6_readNumber 81 = .ok (.putfield 21, 3) := by decide +kernel
theorem dX6_readNumber_84 : decode cX6_readNumber 84 = .ok (.goto (-45), 3) := by decide +kernel
theorem dX6_readNumber_87 : decode cX6_readNumber 87 = .ok (.aload_n 0, 1) := by decide +kernel
theorem dX6_readNumber_88 : decode cX6_readNumber 88 = .ok (.getfield 18, 3) := by decide +kernel
theorem dX6_readNumber_91 : decode cX6_readNumber 91 = .ok (.iload_n 1, 1) := by decide +kernel
theorem dX6_readNumber_92 : decode cX6_readNumber 92 = .ok (.iload_n 3, 1) := by decide +kernel
theorem dX6_readNumber_93 : decode cX6_readNumber 93 = .ok (.ifCond .eq 9, 3) := by decide +kernel
theorem dX6_readNumber_96 : decode cX6_readNumber 96 = .ok (.iload 4, 2) := by decide +kernel
theorem dX6_readNumber_98 : decode cX6_readNumber 98 = .ok (.ineg, 1) := by decide +kernel
theorem dX6_readNumber_99 : decode cX6_readNumber 99 = .ok (.goto 5, 3) := by decide +kernel
theorem dX6_readNumber_102 : decode cX6_readNumber 102 = .ok (.iload 4, 2) := by decide +kernel
theorem dX6_readNumber_104 : decode cX6_readNumber 104 = .ok (.iastore, 1) := by decide +kernel
theorem dX6_readNumber_105 : decode cX6_readNumber 105 = .ok (.iload 5, 2) := by decide +kernel
theorem dX6_readNumber_107 : decode cX6_readNumber 107 = .ok (.ifCond .le 17, 3) := by decide +kernel
theorem dX6_readNumber_110 : decode cX6_readNumber 110 = .ok (.aload_n 0, 1) := by decide +kernel
theorem dX6_readNumber_111 : decode cX6_readNumber 111 = .ok (.invokevirtual 38, 3) := by decide +kernel
theorem dX6_readNumber_114 : decode cX6_readNumber 114 = .ok (.invokestatic 50, 3) := by decide +kernel
theorem dX6_readNumber_117 : decode cX6_readNumber 117 = .ok (.ifCond .ne 7, 3) := by decide +kernel
theorem dX6_readNumber_120 : decode cX6_readNumber 120 = .ok (.iconst 1, 1) := by decide +kernel
theorem dX6_readNumber_121 : decode cX6_readNumber 121 = .ok (.goto 4, 3) := by decide +kernel
theorem dX6_readNumber_124 : decode cX6_readNumber 124 = .ok (.iconst 0, 1) := by decide +kernel
theorem dX6_readNumber_125 : decode cX6_readNumber 125 = .ok (.ireturn, 1) := by decide +kernel
theorem dX6_skipBlanks_0 : decode cX6_skipBlanks 0 = .ok (.aload_n 0, 1) := by decide +kernel
theorem dX6_skipBlanks_1 : decode cX6_skipBlanks 1 = .ok (.getfield 21, 3) := by decide +kernel
theorem dX6_skipBlanks_4 : decode cX6_skipBlanks 4 = .ok (.aload_n 0, 1) := by decide +kernel
theorem dX6_skipBlanks_5 : decode cX6_skipBlanks 5 = .ok (.getfield 35, 3) := by decide +kernel
theorem dX6_skipBlanks_8 : decode cX6_skipBlanks 8 = .ok (.if_icmp .ge 30, 3) := by decide +kernel
theorem dX6_skipBlanks_11 : decode cX6_skipBlanks 11 = .ok (.aload_n 0, 1) := by decide +kernel
theorem dX6_skipBlanks_12 : decode cX6_skipBlanks 12 = .ok (.getfield 9, 3) := by decide +kernel
theorem dX6_skipBlanks_15 : decode cX6_skipBlanks 15 = .ok (.aload_n 0, 1) := by decide +kernel
theorem dX6_skipBlanks_16 : decode cX6_skipBlanks 16 = .ok (.getfield 21, 3) := by decide +kernel
theorem dX6_skipBlanks_19 : decode cX6_skipBlanks 19 = .ok (.iaload, 1) := by decide +kernel
theorem dX6_skipBlanks_20 : decode cX6_skipBlanks 20 = .ok (.bipush 32, 2) := by decide +kernel
theorem dX6_skipBlanks_22 : decode cX6_skipBlanks 22 = .ok (.if_icmp .ne 16, 3) := by decide +kernel
theorem dX6_skipBlanks_25 : decode cX6_skipBlanks 25 = .ok (.aload_n 0, 1) := by decide +kernel
theorem dX6_skipBlanks_26 : decode cX6_skipBlanks 26 = .ok (.dup, 1) := by decide +kernel
theorem dX6_skipBlanks_27 : decode cX6_skipBlanks 27 = .ok (.getfield 21, 3) := by decide +kernel
theorem dX6_skipBlanks_30 : decode cX6_skipBlanks 30 = .ok (.iconst 1, 1) := by decide +kernel
theorem dX6_skipBlanks_31 : decode cX6_skipBlanks 31 = .ok (.iadd, 1) := by decide +kernel
theorem dX6_skipBlanks_32 : decode cX6_skipBlanks 32 = .ok (.putfield 21, 3) := by decide +kernel
theorem dX6_skipBlanks_35 : decode cX6_skipBlanks 35 = .ok (.goto (-35), 3) := by decide +kernel
theorem dX6_skipBlanks_38 : decode cX6_skipBlanks 38 = .ok (.return_, 1) := by decide +kernel
theorem dX6_peek_0 : decode cX6_peek 0 = .ok (.aload_n 0, 1) := by decide +kernel
theorem dX6_peek_1 : decode cX6_peek 1 = .ok (.getfield 21, 3) := by decide +kernel
theorem dX6_peek_4 : decode cX6_peek 4 = .ok (.aload_n 0, 1) := by decide +kernel
theorem dX6_peek_5 : decode cX6_peek 5 = .ok (.getfield 35, 3) := by decide +kernel
theorem dX6_peek_8 : decode cX6_peek 8 = .ok (.if_icmp .ge 15, 3) := by decide +kernel
theorem dX6_peek_11 : decode cX6_peek 11 = .ok (.aload_n 0, 1) := by decide +kernel
theorem dX6_peek_12 : decode cX6_peek 12 = .ok (.getfield 9, 3) := by decide +kernel
theorem dX6_peek_15 : decode cX6_peek 15 = .ok (.aload_n 0, 1) := by decide +kernel
theorem dX6_peek_16 : decode cX6_peek 16 = .ok (.getfield 21, 3) := by decide +kernel
theorem dX6_peek_19 : decode cX6_peek 19 = .ok (.iaload, 1) := by decide +kernel
theorem dX6_peek_20 : decode cX6_peek 20 = .ok (.goto 4, 3) := by decide +kernel
theorem dX6_peek_23 : decode cX6_peek 23 = .ok (.iconst (-1), 1) := by decide +kernel
theorem dX6_peek_24 : decode cX6_peek 24 = .ok (.ireturn, 1) := by decide +kernel
theorem dX6_isFigure_0 : decode cX6_isFigure 0 = .ok (.iload_n 0, 1) := by decide +kernel
theorem dX6_isFigure_1 : decode cX6_isFigure 1 = .ok (.bipush 48, 2) := by decide +kernel
theorem dX6_isFigure_3 : decode cX6_isFigure 3 = .ok (.if_icmp .lt 13, 3) := by decide +kernel
theorem dX6_isFigure_6 : decode cX6_isFigure 6 = .ok (.iload_n 0, 1) := by decide +kernel
theorem dX6_isFigure_7 : decode cX6_isFigure 7 = .ok (.bipush 57, 2) := by decide +kernel
theorem dX6_isFigure_9 : decode cX6_isFigure 9 = .ok (.if_icmp .gt 7, 3) := by decide +kernel
theorem dX6_isFigure_12 : decode cX6_isFigure 12 = .ok (.iconst 1, 1) := by decide +kernel
theorem dX6_isFigure_13 : decode cX6_isFigure 13 = .ok (.goto 4, 3) := by decide +kernel
theorem dX6_isFigure_16 : decode cX6_isFigure 16 = .ok (.iconst 0, 1) := by decide +kernel
theorem dX6_isFigure_17 : decode cX6_isFigure 17 = .ok (.ireturn, 1) := by decide +kernel
set_option maxRecDepth 20000 in
theorem ggX7_init_X3_init : GoodIn wsX7_init wsX3_init := goodIn_r _ [28, 29, 2, 3, 25, 30, 31, 32, 33, 34, 35, 61, 62, 63, 64, 65, 66, 67, 68] (by decide +kernel) (by decide +kernel)
set_option maxRecDepth 20000 in
theorem gX7_init_X3_init_n9 : GoodIn wsX7_init (wsX3_init) := ggX7_init_X3_init
set_option maxRecDepth 20000 in
theorem ggX7_init_X2_init : GoodIn wsX7_init wsX2_init := goodIn_r _ [38, 39, 2, 3, 40, 41, 5, 6, 27, 28, 29, 25, 30, 31, 32, 33, 34, 35, 76, 77, 78, 61, 62, 63, 64, 65, 66, 67, 68] (by decide +kernel) (by decide +kernel)
set_option maxRecDepth 20000 in
theorem gX7_init_X2_init : GoodIn wsX7_init (wsX2_init) := ggX7_init_X2_init
set_option maxRecDepth 20000 in
theorem ggX7_init_X0_init : GoodIn wsX7_init wsX0_init := goodIn_r _ [43, 44, 2, 3, 25, 45, 46, 79, 80, 81, 82] (by decide +kernel) (by decide +kernel)
set_option maxRecDepth 20000 in
theorem gX7_init_X0_init_n28 : GoodIn wsX7_init (wsX0_init) := ggX7_init_X0_init
set_option maxRecDepth 20000 in
theorem ggX7_init_X5_init : GoodIn wsX7_init wsX5_init := goodIn_r _ [49, 50, 2, 3, 25, 51, 52, 53, 54, 83, 84, 85, 86, 87, 88, 89, 90] (by decide +kernel) (by decide +kernel)
set_option maxRecDepth 20000 in
theorem gX7_init_X5_init : GoodIn wsX7_init (wsX5_init) := ggX7_init_X5_init
set_option maxRecDepth 20000 in
theorem ggX7_init_X6_init : GoodIn wsX7_init wsX6_init := goodIn_r _ [56, 57, 2, 3, 25, 58, 59, 60, 91, 92, 93, 94, 95, 96] (by decide +kernel) (by decide +kernel)
set_option maxRecDepth 20000 in
theorem gX7_init_X6_init_n44 : GoodIn wsX7_init (wsX6_init) := ggX7_init_X6_init
theorem dX7_init_0 : decode cX7_init 0 = .ok (.aload_n 0, 1) := by decide +kernel
theorem dX7_init_1 : decode cX7_init 1 = .ok (.invokespecial 1, 3) := by decide +kernel
theorem dX7_init_4 : decode cX7_init 4 = .ok (.aload_n 0, 1) := by decide +kernel
theorem dX7_init_5 : decode cX7_init 5 = .ok (.new 7, 3) := by decide +kernel
theorem dX7_init_8 : decode cX7_init 8 = .ok (.dup, 1) := by decide +kernel
theorem dX7_init_9 : decode cX7_init 9 = .ok (.invokespecial 9, 3) := by decide +kernel
theorem dX7_init_12 : decode cX7_init 12 = .ok (.putfield 10, 3) := by decide +kernel
theorem dX7_init_15 : decode cX7_init 15 = .ok (.aload_n 0, 1) := by decide +kernel
theorem dX7_init_16 : decode cX7_init 16 = .ok (.new 7, 3) := by decide +kernel
theorem dX7_init_19 : decode cX7_init 19 = .ok (.dup, 1) := by decide +kernel
theorem dX7_init_20 : decode cX7_init 20 = .ok (.invokespecial 9, 3) := by decide +kernel
theorem dX7_init_23 : decode cX7_init 23 = .ok (.putfield 16, 3) := by decide +kernel
theorem dX7_init_26 : decode cX7_init 26 = .ok (.aload_n 0, 1) := by decide +kernel
theorem dX7_init_27 : decode cX7_init 27 = .ok (.new 19, 3) := by decide +kernel
theorem dX7_init_30 : decode cX7_init 30 = .ok (.dup, 1) := by decide +kernel
theorem dX7_init_31 : decode cX7_init 31 = .ok (.invokespecial 21, 3) := by decide +kernel
theorem dX7_init_34 : decode cX7_init 34 = .ok (.putfield 22, 3) := by decide +kernel
theorem dX7_init_37 : decode cX7_init 37 = .ok (.aload_n 0, 1) := by decide +kernel
theorem dX7_init_38 : decode cX7_init 38 = .ok (.new 26, 3) := by decide +kernel
theorem dX7_init_41 : decode cX7_init 41 = .ok (.dup, 1) := by decide +kernel
theorem dX7_init_42 : decode cX7_init 42 = .ok (.invokespecial 28, 3) := by decide +kernel
theorem dX7_init_45 : decode cX7_init 45 = .ok (.putfield 29, 3) := by decide +kernel
theorem dX7_init_48 : decode cX7_init 48 = .ok (.aload_n 0, 1) := by decide +kernel
theorem dX7_init_49 : decode cX7_init 49 = .ok (.new 33, 3) := by decide +kernel
theorem dX7_init_52 : decode cX7_init 52 = .ok (.dup, 1) := by decide +kernel
theorem dX7_init_53 : decode cX7_init 53 = .ok (.aload_n 0, 1) := by decide +kernel
theorem dX7_init_54 : decode cX7_init 54 = .ok (.getfield 29, 3) := by decide +kernel
theorem dX7_init_57 : decode cX7_init 57 = .ok (.invokespecial 35, 3) := by decide +kernel
theorem dX7_init_60 : decode cX7_init 60 = .ok (.putfield 38, 3) := by decide +kernel
theorem dX7_init_63 : decode cX7_init 63 = .ok (.aload_n 0, 1) := by decide +kernel
theorem dX7_init_64 : decode cX7_init 64 = .ok (.new 42, 3) := by decide +kernel
theorem dX7_init_67 : decode cX7_init 67 = .ok (.dup, 1) := by decide +kernel
theorem dX7_init_68 : decode cX7_init 68 = .ok (.invokespecial 44, 3) := by decide +kernel
theorem dX7_init_71 : decode cX7_init 71 = .ok (.putfield 45, 3) := by decide +kernel
theorem dX7_init_74 : decode cX7_init 74 = .ok (.aload_n 0, 1) := by decide +kernel
theorem dX7_init_75 : decode cX7_init 75 = .ok (.iconst 3, 1) := by decide +kernel
theorem dX7_init_76 : decode cX7_init 76 = .ok (.newarray .int, 2) := by decide +kernel
theorem dX7_init_78 : decode cX7_init 78 = .ok (.putfield 49, 3) := by decide +kernel
theorem dX7_init_81 : decode cX7_init 81 = .ok (.return_, 1) := by decide +kernel
set_option maxRecDepth 20000 in
theorem ggX7_unknown_X3_refusalOfUnknown : GoodIn wsX7_unknown wsX3_refusalOfUnknown := goodIn_r _ [6, 7, 8, 9, 10, 11, 12, 13, 14, 15, 16, 17, 18, 76, 77, 78, 79, 80, 81, 82, 83] (by decide +kernel) (by decide +kernel)
set_option maxRecDepth 20000 in
theorem gX7_unknown_X3_refusalOfUnknown : GoodIn wsX7_unknown (wsV RX7 53 RX3 yX3_refusalOfUnknown wsX3_refusalOfUnknown) := goodIn_app (goodIn_of _ (by decide +kernel)) ggX7_unknown_X3_refusalOfUnknown
set_option maxRecDepth 20000 in
theorem ggX7_unknown_X7_refused : GoodIn wsX7_unknown wsX7_refused := goodIn_r _ [23, 24, 25, 69, 70, 71, 72, 73, 74, 75] (by decide +kernel) (by decide +kernel)
set_option maxRecDepth 20000 in
theorem gX7_unknown_X7_refused : GoodIn wsX7_unknown (wsV RX7 57 RX7 yX7_refused wsX7_refused) := goodIn_app (goodIn_of _ (by decide +kernel)) ggX7_unknown_X7_refused
set_option maxRecDepth 20000 in
theorem ggX7_unknown_X7_keepState : GoodIn wsX7_unknown wsX7_keepState := goodIn_r _ [29, 30, 1, 31, 32, 33, 34, 35, 36, 37, 38, 39, 40, 41, 42, 43, 44, 45, 46, 5, 47, 8, 48, 49, 50, 51, 52, 53, 54, 55, 56, 57, 58, 59, 60, 61, 62, 63, 64, 69, 70, 71, 72, 73, 74, 75, 84, 85, 86, 76, 77, 78, 79, 80, 81, 82, 83, 87, 88, 89, 90, 91, 92, 93, 94] (by decide +kernel) (by decide +kernel)
set_option maxRecDepth 20000 in
theorem gX7_unknown_X7_keepState : GoodIn wsX7_unknown (wsV RX7 61 RX7 yX7_keepState wsX7_keepState) := goodIn_app (goodIn_of _ (by decide +kernel)) ggX7_unknown_X7_keepState
set_option maxRecDepth 20000 in
theorem ggX7_unknown_X3_addUnknown : GoodIn wsX7_unknown wsX3_addUnknown := goodIn_r _ [68, 49, 8, 54, 76, 77, 78, 79, 80, 81, 82, 83] (by decide +kernel) (by decide +kernel)
set_option maxRecDepth 20000 in
theorem gX7_unknown_X3_addUnknown : GoodIn wsX7_unknown (wsV RX7 64 RX3 yX3_addUnknown wsX3_addUnknown) := goodIn_app (goodIn_of _ (by decide +kernel)) ggX7_unknown_X3_addUnknown
theorem dX7_unknown_0 : decode cX7_unknown 0 = .ok (.aload_n 0, 1) := by decide +kernel
theorem dX7_unknown_1 : decode cX7_unknown 1 = .ok (.getfield 10, 3) := by decide +kernel
theorem dX7_unknown_4 : decode cX7_unknown 4 = .ok (.iload_n 1, 1) := by decide +kernel
theorem dX7_unknown_5 : decode cX7_unknown 5 = .ok (.iload_n 2, 1) := by decide +kernel
theorem dX7_unknown_6 : decode cX7_unknown 6 = .ok (.invokevirtual 53, 3) := by decide +kernel
theorem dX7_unknown_9 : decode cX7_unknown 9 = .ok (.istore_n 3, 1) := by decide +kernel
theorem dX7_unknown_10 : decode cX7_unknown 10 = .ok (.iload_n 3, 1) := by decide +kernel
theorem dX7_unknown_11 : decode cX7_unknown 11 = .ok (.ifCond .eq 9, 3) := by decide +kernel
theorem dX7_unknown_14 : decode cX7_unknown 14 = .ok (.aload_n 0, 1) := by decide +kernel
theorem dX7_unknown_15 : decode cX7_unknown 15 = .ok (.iload_n 3, 1) := by decide +kernel
theorem dX7_unknown_16 : decode cX7_unknown 16 = .ok (.invokevirtual 57, 3) := by decide +kernel
theorem dX7_unknown_19 : decode cX7_unknown 19 = .ok (.ireturn, 1) := by decide +kernel
theorem dX7_unknown_20 : decode cX7_unknown 20 = .ok (.aload_n 0, 1) := by decide +kernel
theorem dX7_unknown_21 : decode cX7_unknown 21 = .ok (.invokevirtual 61, 3) := by decide +kernel
theorem dX7_unknown_24 : decode cX7_unknown 24 = .ok (.aload_n 0, 1) := by decide +kernel
theorem dX7_unknown_25 : decode cX7_unknown 25 = .ok (.getfield 10, 3) := by decide +kernel
theorem dX7_unknown_28 : decode cX7_unknown 28 = .ok (.iload_n 1, 1) := by decide +kernel
theorem dX7_unknown_29 : decode cX7_unknown 29 = .ok (.iload_n 2, 1) := by decide +kernel
theorem dX7_unknown_30 : decode cX7_unknown 30 = .ok (.invokevirtual 64, 3) := by decide +kernel
theorem dX7_unknown_33 : decode cX7_unknown 33 = .ok (.ireturn, 1) := by decide +kernel
set_option maxRecDepth 20000 in
theorem ggX7_range_X3_hasUnknown : GoodIn wsX7_range wsX3_hasUnknown := goodIn_r _ [9, 10, 76, 77, 78, 79, 80, 81, 82, 83] (by decide +kernel) (by decide +kernel)
set_option maxRecDepth 20000 in
theorem gX7_range_X3_hasUnknown : GoodIn wsX7_range (wsV RX7 67 RX3 yX3_hasUnknown wsX3_hasUnknown) := goodIn_app (goodIn_of _ (by decide +kernel)) ggX7_range_X3_hasUnknown
set_option maxRecDepth 20000 in
theorem ggX7_range_X4_isRange : GoodIn wsX7_range wsX4_isRange := goodIn_r _ [14, 15, 16, 13, 17, 18, 19] (by decide +kernel) (by decide +kernel)
set_option maxRecDepth 20000 in
theorem gX7_range_X4_isRange : GoodIn wsX7_range (va_wsS RX7 71 yX4_isRange wsX4_isRange) := goodIn_app (goodIn_of _ (by decide +kernel)) ggX7_range_X4_isRange
set_option maxRecDepth 20000 in
theorem ggX7_range_X7_refused : GoodIn wsX7_range wsX7_refused := goodIn_r _ [24, 25, 2, 69, 70, 71, 72, 73, 74, 75] (by decide +kernel) (by decide +kernel)
set_option maxRecDepth 20000 in
theorem gX7_range_X7_refused : GoodIn wsX7_range (wsV RX7 57 RX7 yX7_refused wsX7_refused) := goodIn_app (goodIn_of _ (by decide +kernel)) ggX7_range_X7_refused
set_option maxRecDepth 20000 in
theorem ggX7_range_X7_keepState : GoodIn wsX7_range wsX7_keepState := goodIn_r _ [29, 30, 1, 31, 32, 33, 34, 35, 36, 37, 38, 39, 40, 41, 42, 43, 44, 45, 46, 8, 47, 10, 48, 49, 50, 51, 52, 53, 54, 55, 56, 57, 58, 59, 60, 61, 62, 63, 64, 69, 70, 71, 72, 73, 74, 75, 84, 85, 86, 76, 77, 78, 79, 80, 81, 82, 83, 87, 88, 89, 90, 91, 92, 93, 94] (by decide +kernel) (by decide +kernel)
set_option maxRecDepth 20000 in
theorem gX7_range_X7_keepState : GoodIn wsX7_range (wsV RX7 61 RX7 yX7_keepState wsX7_keepState) := goodIn_app (goodIn_of _ (by decide +kernel)) ggX7_range_X7_keepState
set_option maxRecDepth 20000 in
theorem ggX7_range_X3_rulesOf : GoodIn wsX7_range wsX3_rulesOf := goodIn_r _ [68, 48, 56, 57, 55, 58, 76, 77, 78, 79, 80, 81, 82, 83] (by decide +kernel) (by decide +kernel)
set_option maxRecDepth 20000 in
theorem gX7_range_X3_rulesOf : GoodIn wsX7_range (wsV RX7 84 RX3 yX3_rulesOf wsX3_rulesOf) := goodIn_app (goodIn_of _ (by decide +kernel)) ggX7_range_X3_rulesOf
theorem dX7_range_0 : decode cX7_range 0 = .ok (.aload_n 0, 1) := by decide +kernel
theorem dX7_range_1 : decode cX7_range 1 = .ok (.getfield 10, 3) := by decide +kernel
theorem dX7_range_4 : decode cX7_range 4 = .ok (.iload_n 1, 1) := by decide +kernel
theorem dX7_range_5 : decode cX7_range 5 = .ok (.invokevirtual 67, 3) := by decide +kernel
theorem dX7_range_8 : decode cX7_range 8 = .ok (.ifCond .eq 11, 3) := by decide +kernel
theorem dX7_range_11 : decode cX7_range 11 = .ok (.iload_n 2, 1) := by decide +kernel
theorem dX7_range_12 : decode cX7_range 12 = .ok (.iload_n 3, 1) := by decide +kernel
theorem dX7_range_13 : decode cX7_range 13 = .ok (.invokestatic 71, 3) := by decide +kernel
theorem dX7_range_16 : decode cX7_range 16 = .ok (.ifCond .ne 10, 3) := by decide +kernel
theorem dX7_range_19 : decode cX7_range 19 = .ok (.aload_n 0, 1) := by decide +kernel
theorem dX7_range_20 : decode cX7_range 20 = .ok (.ldc 77, 2) := by decide +kernel
theorem dX7_range_22 : decode cX7_range 22 = .ok (.invokevirtual 57, 3) := by decide +kernel
theorem dX7_range_25 : decode cX7_range 25 = .ok (.ireturn, 1) := by decide +kernel
theorem dX7_range_26 : decode cX7_range 26 = .ok (.aload_n 0, 1) := by decide +kernel
theorem dX7_range_27 : decode cX7_range 27 = .ok (.invokevirtual 61, 3) := by decide +kernel
theorem dX7_range_30 : decode cX7_range 30 = .ok (.aload_n 0, 1) := by decide +kernel
theorem dX7_range_31 : decode cX7_range 31 = .ok (.getfield 10, 3) := by decide +kernel
theorem dX7_range_34 : decode cX7_range 34 = .ok (.getfield 78, 3) := by decide +kernel
theorem dX7_range_37 : decode cX7_range 37 = .ok (.iload_n 1, 1) := by decide +kernel
theorem dX7_range_38 : decode cX7_range 38 = .ok (.iload_n 2, 1) := by decide +kernel
theorem dX7_range_39 : decode cX7_range 39 = .ok (.iastore, 1) := by decide +kernel
theorem dX7_range_40 : decode cX7_range 40 = .ok (.aload_n 0, 1) := by decide +kernel
theorem dX7_range_41 : decode cX7_range 41 = .ok (.getfield 10, 3) := by decide +kernel
theorem dX7_range_44 : decode cX7_range 44 = .ok (.getfield 81, 3) := by decide +kernel
theorem dX7_range_47 : decode cX7_range 47 = .ok (.iload_n 1, 1) := by decide +kernel
theorem dX7_range_48 : decode cX7_range 48 = .ok (.iload_n 3, 1) := by decide +kernel
theorem dX7_range_49 : decode cX7_range 49 = .ok (.iastore, 1) := by decide +kernel
theorem dX7_range_50 : decode cX7_range 50 = .ok (.aload_n 0, 1) := by decide +kernel
theorem dX7_range_51 : decode cX7_range 51 = .ok (.getfield 10, 3) := by decide +kernel
theorem dX7_range_54 : decode cX7_range 54 = .ok (.iload_n 1, 1) := by decide +kernel
theorem dX7_range_55 : decode cX7_range 55 = .ok (.invokevirtual 84, 3) := by decide +kernel
theorem dX7_range_58 : decode cX7_range 58 = .ok (.ireturn, 1) := by decide +kernel
set_option maxRecDepth 20000 in
theorem ggX7_rule_X3_refusalOfRule : GoodIn wsX7_rule wsX3_refusalOfRule := goodIn_r _ [6, 7, 8, 9, 10, 11, 12, 5, 13, 14, 71, 72, 73, 74, 75, 76, 77, 78] (by decide +kernel) (by decide +kernel)
set_option maxRecDepth 20000 in
theorem gX7_rule_X3_refusalOfRule : GoodIn wsX7_rule (wsV RX7 87 RX3 yX3_refusalOfRule wsX3_refusalOfRule) := goodIn_app (goodIn_of _ (by decide +kernel)) ggX7_rule_X3_refusalOfRule
set_option maxRecDepth 20000 in
theorem ggX7_rule_X7_refused : GoodIn wsX7_rule wsX7_refused := goodIn_r _ [19, 20, 21, 64, 65, 66, 67, 68, 69, 70] (by decide +kernel) (by decide +kernel)
set_option maxRecDepth 20000 in
theorem gX7_rule_X7_refused : GoodIn wsX7_rule (wsV RX7 57 RX7 yX7_refused wsX7_refused) := goodIn_app (goodIn_of _ (by decide +kernel)) ggX7_rule_X7_refused
set_option maxRecDepth 20000 in
theorem ggX7_rule_X7_keepState : GoodIn wsX7_rule wsX7_keepState := goodIn_r _ [25, 26, 1, 27, 28, 29, 30, 31, 32, 33, 34, 35, 36, 37, 38, 39, 40, 41, 42, 5, 43, 14, 8, 44, 45, 46, 47, 48, 49, 50, 51, 52, 53, 54, 55, 56, 57, 58, 59, 64, 65, 66, 67, 68, 69, 70, 79, 80, 81, 71, 72, 73, 74, 75, 76, 77, 78, 82, 83, 84, 85, 86, 87, 88, 89] (by decide +kernel) (by decide +kernel)
set_option maxRecDepth 20000 in
theorem gX7_rule_X7_keepState : GoodIn wsX7_rule (wsV RX7 61 RX7 yX7_keepState wsX7_keepState) := goodIn_app (goodIn_of _ (by decide +kernel)) ggX7_rule_X7_keepState
set_option maxRecDepth 20000 in
theorem ggX7_rule_X3_addRule : GoodIn wsX7_rule wsX3_addRule := goodIn_r _ [63, 50, 8, 51, 52, 53, 71, 72, 73, 74, 75, 76, 77, 78] (by decide +kernel) (by decide +kernel)
set_option maxRecDepth 20000 in
theorem gX7_rule_X3_addRule : GoodIn wsX7_rule (wsV RX7 91 RX3 yX3_addRule wsX3_addRule) := goodIn_app (goodIn_of _ (by decide +kernel)) ggX7_rule_X3_addRule
theorem dX7_rule_0 : decode cX7_rule 0 = .ok (.aload_n 0, 1) := by decide +kernel
theorem dX7_rule_1 : decode cX7_rule 1 = .ok (.getfield 10, 3) := by decide +kernel
theorem dX7_rule_4 : decode cX7_rule 4 = .ok (.iload_n 1, 1) := by decide +kernel
theorem dX7_rule_5 : decode cX7_rule 5 = .ok (.iload_n 2, 1) := by decide +kernel
theorem dX7_rule_6 : decode cX7_rule 6 = .ok (.iload_n 3, 1) := by decide +kernel
theorem dX7_rule_7 : decode cX7_rule 7 = .ok (.iload 4, 2) := by decide +kernel
theorem dX7_rule_9 : decode cX7_rule 9 = .ok (.invokevirtual 87, 3) := by decide +kernel
theorem dX7_rule_12 : decode cX7_rule 12 = .ok (.istore 5, 2) := by decide +kernel
theorem dX7_rule_14 : decode cX7_rule 14 = .ok (.iload 5, 2) := by decide +kernel
theorem dX7_rule_16 : decode cX7_rule 16 = .ok (.ifCond .eq 10, 3) := by decide +kernel
theorem dX7_rule_19 : decode cX7_rule 19 = .ok (.aload_n 0, 1) := by decide +kernel
theorem dX7_rule_20 : decode cX7_rule 20 = .ok (.iload 5, 2) := by decide +kernel
theorem dX7_rule_22 : decode cX7_rule 22 = .ok (.invokevirtual 57, 3) := by decide +kernel
theorem dX7_rule_25 : decode cX7_rule 25 = .ok (.ireturn, 1) := by decide +kernel
theorem dX7_rule_26 : decode cX7_rule 26 = .ok (.aload_n 0, 1) := by decide +kernel
theorem dX7_rule_27 : decode cX7_rule 27 = .ok (.invokevirtual 61, 3) := by decide +kernel
theorem dX7_rule_30 : decode cX7_rule 30 = .ok (.aload_n 0, 1) := by decide +kernel
theorem dX7_rule_31 : decode cX7_rule 31 = .ok (.getfield 10, 3) := by decide +kernel
theorem dX7_rule_34 : decode cX7_rule 34 = .ok (.iload_n 1, 1) := by decide +kernel
theorem dX7_rule_35 : decode cX7_rule 35 = .ok (.iload_n 2, 1) := by decide +kernel
theorem dX7_rule_36 : decode cX7_rule 36 = .ok (.iload_n 3, 1) := by decide +kernel
theorem dX7_rule_37 : decode cX7_rule 37 = .ok (.iload 4, 2) := by decide +kernel
theorem dX7_rule_39 : decode cX7_rule 39 = .ok (.invokevirtual 91, 3) := by decide +kernel
theorem dX7_rule_42 : decode cX7_rule 42 = .ok (.ireturn, 1) := by decide +kernel
set_option maxRecDepth 20000 in
theorem ggX7_drops_X3_hasRule : GoodIn wsX7_drops wsX3_hasRule := goodIn_r _ [7, 8, 65, 66, 67, 68, 69, 70, 71, 72] (by decide +kernel) (by decide +kernel)
set_option maxRecDepth 20000 in
theorem gX7_drops_X3_hasRule : GoodIn wsX7_drops (wsV RX7 94 RX3 yX3_hasRule wsX3_hasRule) := goodIn_app (goodIn_of _ (by decide +kernel)) ggX7_drops_X3_hasRule
set_option maxRecDepth 20000 in
theorem ggX7_drops_X7_refused : GoodIn wsX7_drops wsX7_refused := goodIn_r _ [13, 14, 2, 58, 59, 60, 61, 62, 63, 64] (by decide +kernel) (by decide +kernel)
set_option maxRecDepth 20000 in
theorem gX7_drops_X7_refused : GoodIn wsX7_drops (wsV RX7 57 RX7 yX7_refused wsX7_refused) := goodIn_app (goodIn_of _ (by decide +kernel)) ggX7_drops_X7_refused
set_option maxRecDepth 20000 in
theorem ggX7_drops_X7_keepState : GoodIn wsX7_drops wsX7_keepState := goodIn_r _ [18, 19, 1, 20, 21, 22, 23, 24, 25, 26, 27, 28, 29, 30, 31, 32, 33, 34, 35, 6, 36, 37, 8, 38, 39, 40, 41, 42, 43, 44, 45, 46, 47, 48, 49, 50, 51, 52, 53, 58, 59, 60, 61, 62, 63, 64, 73, 74, 75, 65, 66, 67, 68, 69, 70, 71, 72, 76, 77, 78, 79, 80, 81, 82, 83] (by decide +kernel) (by decide +kernel)
set_option maxRecDepth 20000 in
theorem gX7_drops_X7_keepState : GoodIn wsX7_drops (wsV RX7 61 RX7 yX7_keepState wsX7_keepState) := goodIn_app (goodIn_of _ (by decide +kernel)) ggX7_drops_X7_keepState
set_option maxRecDepth 20000 in
theorem ggX7_drops_X3_dropRule : GoodIn wsX7_drops wsX3_dropRule := goodIn_r _ [57, 8, 44, 45, 46, 47, 65, 66, 67, 68, 69, 70, 71, 72] (by decide +kernel) (by decide +kernel)
set_option maxRecDepth 20000 in
theorem gX7_drops_X3_dropRule : GoodIn wsX7_drops (wsV RX7 97 RX3 yX3_dropRule wsX3_dropRule) := goodIn_app (goodIn_of _ (by decide +kernel)) ggX7_drops_X3_dropRule
theorem dX7_drops_0 : decode cX7_drops 0 = .ok (.aload_n 0, 1) := by decide +kernel
theorem dX7_drops_1 : decode cX7_drops 1 = .ok (.getfield 10, 3) := by decide +kernel
theorem dX7_drops_4 : decode cX7_drops 4 = .ok (.iload_n 1, 1) := by decide +kernel
theorem dX7_drops_5 : decode cX7_drops 5 = .ok (.invokevirtual 94, 3) := by decide +kernel
theorem dX7_drops_8 : decode cX7_drops 8 = .ok (.ifCond .ne 10, 3) := by decide +kernel
theorem dX7_drops_11 : decode cX7_drops 11 = .ok (.aload_n 0, 1) := by decide +kernel
theorem dX7_drops_12 : decode cX7_drops 12 = .ok (.ldc 77, 2) := by decide +kernel
theorem dX7_drops_14 : decode cX7_drops 14 = .ok (.invokevirtual 57, 3) := by decide +kernel
theorem dX7_drops_17 : decode cX7_drops 17 = .ok (.ireturn, 1) := by decide +kernel
theorem dX7_drops_18 : decode cX7_drops 18 = .ok (.aload_n 0, 1) := by decide +kernel
theorem dX7_drops_19 : decode cX7_drops 19 = .ok (.invokevirtual 61, 3) := by decide +kernel
theorem dX7_drops_22 : decode cX7_drops 22 = .ok (.aload_n 0, 1) := by decide +kernel
theorem dX7_drops_23 : decode cX7_drops 23 = .ok (.getfield 10, 3) := by decide +kernel
theorem dX7_drops_26 : decode cX7_drops 26 = .ok (.iload_n 1, 1) := by decide +kernel
theorem dX7_drops_27 : decode cX7_drops 27 = .ok (.invokevirtual 97, 3) := by decide +kernel
theorem dX7_drops_30 : decode cX7_drops 30 = .ok (.ireturn, 1) := by decide +kernel
set_option maxRecDepth 20000 in
theorem ggX7_cuts_X7_keepState : GoodIn wsX7_cuts wsX7_keepState := goodIn_r _ [6, 7, 1, 8, 9, 10, 11, 12, 13, 14, 15, 16, 17, 18, 19, 20, 21, 22, 23, 24, 25, 26, 27, 28, 29, 30, 31, 32, 33, 34, 35, 36, 37, 38, 39, 40, 41, 42, 43, 164, 165, 166, 167, 168, 169, 170, 171, 172, 173, 174, 175, 176, 177, 178, 179, 180, 181, 182, 183, 184, 185, 186, 187, 188, 189] (by decide +kernel) (by decide +kernel)
set_option maxRecDepth 20000 in
theorem gX7_cuts_X7_keepState : GoodIn wsX7_cuts (wsV RX7 61 RX7 yX7_keepState wsX7_keepState) := goodIn_app (goodIn_of _ (by decide +kernel)) ggX7_cuts_X7_keepState
set_option maxRecDepth 20000 in
theorem ggX7_cuts_X7_cutRanges : GoodIn wsX7_cuts wsX7_cutRanges := goodIn_r _ [47, 48, 49, 50, 51, 52, 53, 54, 55, 56, 57, 58, 59, 30, 31, 32, 60, 61, 62, 63, 64, 65, 66, 67, 68, 69, 70, 71, 72, 73, 74, 75, 76, 77, 78, 79, 80, 81, 82, 83, 84, 85, 86, 87, 88, 19, 89, 90, 91, 92, 93, 94, 95, 96, 97, 98, 99, 100, 101, 102, 103, 104, 105, 106, 107, 108, 109, 110, 111, 112, 18, 20, 113, 114, 115, 116, 117, 118, 119, 120, 121, 122, 123, 124, 125, 126, 127, 128, 129, 130, 131, 132, 133, 134, 135, 136, 137, 138, 139, 140, 141, 142, 143, 144, 145, 146, 147, 148, 149, 150, 151, 152, 153, 154, 155, 156, 157, 158, 159, 160, 161, 162, 163, 164, 165, 166, 167, 168, 169, 170, 174, 175, 176, 177, 178, 179, 180, 181, 190, 191, 192, 193] (by decide +kernel) (by decide +kernel)
set_option maxRecDepth 20000 in
theorem gX7_cuts_X7_cutRanges : GoodIn wsX7_cuts (wsV RX7 100 RX7 yX7_cutRanges wsX7_cutRanges) := goodIn_app (goodIn_of _ (by decide +kernel)) ggX7_cuts_X7_cutRanges
theorem dX7_cuts_0 : decode cX7_cuts 0 = .ok (.aload_n 0, 1) := by decide +kernel
theorem dX7_cuts_1 : decode cX7_cuts 1 = .ok (.invokevirtual 61, 3) := by decide +kernel
theorem dX7_cuts_4 : decode cX7_cuts 4 = .ok (.aload_n 0, 1) := by decide +kernel
theorem dX7_cuts_5 : decode cX7_cuts 5 = .ok (.aload_n 0, 1) := by decide +kernel
theorem dX7_cuts_6 : decode cX7_cuts 6 = .ok (.getfield 10, 3) := by decide +kernel
theorem dX7_cuts_9 : decode cX7_cuts 9 = .ok (.invokevirtual 100, 3) := by decide +kernel
theorem dX7_cuts_12 : decode cX7_cuts 12 = .ok (.ireturn, 1) := by decide +kernel
set_option maxRecDepth 20000 in
theorem ggX7_of_X3_hasUnknown : GoodIn wsX7_of wsX3_hasUnknown := goodIn_r _ [9, 10, 24, 25, 26, 27, 28, 29, 30, 31] (by decide +kernel) (by decide +kernel)
set_option maxRecDepth 20000 in
theorem gX7_of_X3_hasUnknown : GoodIn wsX7_of (wsV RX7 67 RX3 yX3_hasUnknown wsX3_hasUnknown) := goodIn_app (goodIn_of _ (by decide +kernel)) ggX7_of_X3_hasUnknown
set_option maxRecDepth 20000 in
theorem ggX7_of_X7_refused : GoodIn wsX7_of wsX7_refused := goodIn_r _ [15, 16, 2, 17, 18, 19, 20, 21, 22, 23] (by decide +kernel) (by decide +kernel)
set_option maxRecDepth 20000 in
theorem gX7_of_X7_refused : GoodIn wsX7_of (wsV RX7 57 RX7 yX7_refused wsX7_refused) := goodIn_app (goodIn_of _ (by decide +kernel)) ggX7_of_X7_refused
theorem dX7_of_0 : decode cX7_of 0 = .ok (.aload_n 0, 1) := by decide +kernel
theorem dX7_of_1 : decode cX7_of 1 = .ok (.getfield 10, 3) := by decide +kernel
theorem dX7_of_4 : decode cX7_of 4 = .ok (.iload_n 1, 1) := by decide +kernel
theorem dX7_of_5 : decode cX7_of 5 = .ok (.invokevirtual 67, 3) := by decide +kernel
theorem dX7_of_8 : decode cX7_of 8 = .ok (.ifCond .eq 12, 3) := by decide +kernel
theorem dX7_of_11 : decode cX7_of 11 = .ok (.iload_n 2, 1) := by decide +kernel
theorem dX7_of_12 : decode cX7_of 12 = .ok (.ifCond .lt 8, 3) := by decide +kernel
theorem dX7_of_15 : decode cX7_of 15 = .ok (.iload_n 2, 1) := by decide +kernel
theorem dX7_of_16 : decode cX7_of 16 = .ok (.iconst 1, 1) := by decide +kernel
theorem dX7_of_17 : decode cX7_of 17 = .ok (.if_icmp .le 10, 3) := by decide +kernel
theorem dX7_of_20 : decode cX7_of 20 = .ok (.aload_n 0, 1) := by decide +kernel
theorem dX7_of_21 : decode cX7_of 21 = .ok (.ldc 77, 2) := by decide +kernel
theorem dX7_of_23 : decode cX7_of 23 = .ok (.invokevirtual 57, 3) := by decide +kernel
theorem dX7_of_26 : decode cX7_of 26 = .ok (.ireturn, 1) := by decide +kernel
theorem dX7_of_27 : decode cX7_of 27 = .ok (.iload_n 2, 1) := by decide +kernel
theorem dX7_of_28 : decode cX7_of 28 = .ok (.ifCond .ne 15, 3) := by decide +kernel
theorem dX7_of_31 : decode cX7_of 31 = .ok (.aload_n 0, 1) := by decide +kernel
theorem dX7_of_32 : decode cX7_of 32 = .ok (.getfield 10, 3) := by decide +kernel
theorem dX7_of_35 : decode cX7_of 35 = .ok (.getfield 78, 3) := by decide +kernel
theorem dX7_of_38 : decode cX7_of 38 = .ok (.iload_n 1, 1) := by decide +kernel
theorem dX7_of_39 : decode cX7_of 39 = .ok (.iaload, 1) := by decide +kernel
theorem dX7_of_40 : decode cX7_of 40 = .ok (.goto 12, 3) := by decide +kernel
theorem dX7_of_43 : decode cX7_of 43 = .ok (.aload_n 0, 1) := by decide +kernel
theorem dX7_of_44 : decode cX7_of 44 = .ok (.getfield 10, 3) := by decide +kernel
theorem dX7_of_47 : decode cX7_of 47 = .ok (.getfield 81, 3) := by decide +kernel
theorem dX7_of_50 : decode cX7_of 50 = .ok (.iload_n 1, 1) := by decide +kernel
theorem dX7_of_51 : decode cX7_of 51 = .ok (.iaload, 1) := by decide +kernel
theorem dX7_of_52 : decode cX7_of 52 = .ok (.ireturn, 1) := by decide +kernel
set_option maxRecDepth 20000 in
theorem ggX7_holding_X3_hasUnknown : GoodIn wsX7_holding wsX3_hasUnknown := goodIn_r _ [9, 10, 28, 29, 30, 31, 32, 33, 34, 35] (by decide +kernel) (by decide +kernel)
set_option maxRecDepth 20000 in
theorem gX7_holding_X3_hasUnknown : GoodIn wsX7_holding (wsV RX7 67 RX3 yX3_hasUnknown wsX3_hasUnknown) := goodIn_app (goodIn_of _ (by decide +kernel)) ggX7_holding_X3_hasUnknown
set_option maxRecDepth 20000 in
theorem ggX7_holding_X7_refused : GoodIn wsX7_holding wsX7_refused := goodIn_r _ [15, 16, 2, 21, 22, 23, 24, 25, 26, 27] (by decide +kernel) (by decide +kernel)
set_option maxRecDepth 20000 in
theorem gX7_holding_X7_refused : GoodIn wsX7_holding (wsV RX7 57 RX7 yX7_refused wsX7_refused) := goodIn_app (goodIn_of _ (by decide +kernel)) ggX7_holding_X7_refused
set_option maxRecDepth 20000 in
theorem ggX7_holding_X4_held : GoodIn wsX7_holding wsX4_held := goodIn_r _ [20] (by decide +kernel) (by decide +kernel)
set_option maxRecDepth 20000 in
theorem gX7_holding_X4_held : GoodIn wsX7_holding (va_wsS RX7 104 yX4_held wsX4_held) := goodIn_app (goodIn_of _ (by decide +kernel)) ggX7_holding_X4_held
theorem dX7_holding_0 : decode cX7_holding 0 = .ok (.aload_n 0, 1) := by decide +kernel
theorem dX7_holding_1 : decode cX7_holding 1 = .ok (.getfield 10, 3) := by decide +kernel
theorem dX7_holding_4 : decode cX7_holding 4 = .ok (.iload_n 1, 1) := by decide +kernel
theorem dX7_holding_5 : decode cX7_holding 5 = .ok (.invokevirtual 67, 3) := by decide +kernel
theorem dX7_holding_8 : decode cX7_holding 8 = .ok (.ifCond .ne 11, 3) := by decide +kernel
theorem dX7_holding_11 : decode cX7_holding 11 = .ok (.aload_n 0, 1) := by decide +kernel
theorem dX7_holding_12 : decode cX7_holding 12 = .ok (.ldc 77, 2) := by decide +kernel
theorem dX7_holding_14 : decode cX7_holding 14 = .ok (.invokevirtual 57, 3) := by decide +kernel
theorem dX7_holding_17 : decode cX7_holding 17 = .ok (.i2l, 1) := by decide +kernel
theorem dX7_holding_18 : decode cX7_holding 18 = .ok (.lreturn, 1) := by decide +kernel
theorem dX7_holding_19 : decode cX7_holding 19 = .ok (.aload_n 0, 1) := by decide +kernel
theorem dX7_holding_20 : decode cX7_holding 20 = .ok (.getfield 10, 3) := by decide +kernel
theorem dX7_holding_23 : decode cX7_holding 23 = .ok (.getfield 78, 3) := by decide +kernel
theorem dX7_holding_26 : decode cX7_holding 26 = .ok (.iload_n 1, 1) := by decide +kernel
theorem dX7_holding_27 : decode cX7_holding 27 = .ok (.iaload, 1) := by decide +kernel
theorem dX7_holding_28 : decode cX7_holding 28 = .ok (.aload_n 0, 1) := by decide +kernel
theorem dX7_holding_29 : decode cX7_holding 29 = .ok (.getfield 10, 3) := by decide +kernel
theorem dX7_holding_32 : decode cX7_holding 32 = .ok (.getfield 81, 3) := by decide +kernel
theorem dX7_holding_35 : decode cX7_holding 35 = .ok (.iload_n 1, 1) := by decide +kernel
theorem dX7_holding_36 : decode cX7_holding 36 = .ok (.iaload, 1) := by decide +kernel
theorem dX7_holding_37 : decode cX7_holding 37 = .ok (.invokestatic 104, 3) := by decide +kernel
theorem dX7_holding_40 : decode cX7_holding 40 = .ok (.lreturn, 1) := by decide +kernel
set_option maxRecDepth 20000 in
theorem ggX7_about_X3_hasRule : GoodIn wsX7_about wsX3_hasRule := goodIn_r _ [11, 12, 26, 27, 28, 29, 30, 31, 32, 33] (by decide +kernel) (by decide +kernel)
set_option maxRecDepth 20000 in
theorem gX7_about_X3_hasRule : GoodIn wsX7_about (wsV RX7 94 RX3 yX3_hasRule wsX3_hasRule) := goodIn_app (goodIn_of _ (by decide +kernel)) ggX7_about_X3_hasRule
set_option maxRecDepth 20000 in
theorem ggX7_about_X7_refused : GoodIn wsX7_about wsX7_refused := goodIn_r _ [17, 18, 2, 19, 20, 21, 22, 23, 24, 25] (by decide +kernel) (by decide +kernel)
set_option maxRecDepth 20000 in
theorem gX7_about_X7_refused : GoodIn wsX7_about (wsV RX7 57 RX7 yX7_refused wsX7_refused) := goodIn_app (goodIn_of _ (by decide +kernel)) ggX7_about_X7_refused
theorem dX7_about_0 : decode cX7_about 0 = .ok (.aload_n 0, 1) := by decide +kernel
theorem dX7_about_1 : decode cX7_about 1 = .ok (.getfield 10, 3) := by decide +kernel
theorem dX7_about_4 : decode cX7_about 4 = .ok (.iload_n 1, 1) := by decide +kernel
theorem dX7_about_5 : decode cX7_about 5 = .ok (.invokevirtual 94, 3) := by decide +kernel
theorem dX7_about_8 : decode cX7_about 8 = .ok (.ifCond .eq 12, 3) := by decide +kernel
theorem dX7_about_11 : decode cX7_about 11 = .ok (.iload_n 2, 1) := by decide +kernel
theorem dX7_about_12 : decode cX7_about 12 = .ok (.ifCond .lt 8, 3) := by decide +kernel
theorem dX7_about_15 : decode cX7_about 15 = .ok (.iload_n 2, 1) := by decide +kernel
theorem dX7_about_16 : decode cX7_about 16 = .ok (.iconst 3, 1) := by decide +kernel
theorem dX7_about_17 : decode cX7_about 17 = .ok (.if_icmp .le 10, 3) := by decide +kernel
theorem dX7_about_20 : decode cX7_about 20 = .ok (.aload_n 0, 1) := by decide +kernel
theorem dX7_about_21 : decode cX7_about 21 = .ok (.ldc 77, 2) := by decide +kernel
theorem dX7_about_23 : decode cX7_about 23 = .ok (.invokevirtual 57, 3) := by decide +kernel
theorem dX7_about_26 : decode cX7_about 26 = .ok (.ireturn, 1) := by decide +kernel
theorem dX7_about_27 : decode cX7_about 27 = .ok (.iload_n 2, 1) := by decide +kernel
theorem dX7_about_28 : decode cX7_about 28 = .ok (.tableswitch 58 0 2 #[28, 38, 48], 28) := by decide +kernel
theorem dX7_about_56 : decode cX7_about 56 = .ok (.aload_n 0, 1) := by decide +kernel
theorem dX7_about_57 : decode cX7_about 57 = .ok (.getfield 10, 3) := by decide +kernel
theorem dX7_about_60 : decode cX7_about 60 = .ok (.getfield 108, 3) := by decide +kernel
theorem dX7_about_63 : decode cX7_about 63 = .ok (.iload_n 1, 1) := by decide +kernel
theorem dX7_about_64 : decode cX7_about 64 = .ok (.iaload, 1) := by decide +kernel
theorem dX7_about_65 : decode cX7_about 65 = .ok (.ireturn, 1) := by decide +kernel
theorem dX7_about_66 : decode cX7_about 66 = .ok (.aload_n 0, 1) := by decide +kernel
theorem dX7_about_67 : decode cX7_about 67 = .ok (.getfield 10, 3) := by decide +kernel
theorem dX7_about_70 : decode cX7_about 70 = .ok (.getfield 111, 3) := by decide +kernel
theorem dX7_about_73 : decode cX7_about 73 = .ok (.iload_n 1, 1) := by decide +kernel
theorem dX7_about_74 : decode cX7_about 74 = .ok (.iaload, 1) := by decide +kernel
theorem dX7_about_75 : decode cX7_about 75 = .ok (.ireturn, 1) := by decide +kernel
theorem dX7_about_76 : decode cX7_about 76 = .ok (.aload_n 0, 1) := by decide +kernel
theorem dX7_about_77 : decode cX7_about 77 = .ok (.getfield 10, 3) := by decide +kernel
theorem dX7_about_80 : decode cX7_about 80 = .ok (.getfield 114, 3) := by decide +kernel
theorem dX7_about_83 : decode cX7_about 83 = .ok (.iload_n 1, 1) := by decide +kernel
theorem dX7_about_84 : decode cX7_about 84 = .ok (.iaload, 1) := by decide +kernel
theorem dX7_about_85 : decode cX7_about 85 = .ok (.ireturn, 1) := by decide +kernel
theorem dX7_about_86 : decode cX7_about 86 = .ok (.aload_n 0, 1) := by decide +kernel
theorem dX7_about_87 : decode cX7_about 87 = .ok (.getfield 10, 3) := by decide +kernel
theorem dX7_about_90 : decode cX7_about 90 = .ok (.getfield 117, 3) := by decide +kernel
theorem dX7_about_93 : decode cX7_about 93 = .ok (.iload_n 1, 1) := by decide +kernel
theorem dX7_about_94 : decode cX7_about 94 = .ok (.iaload, 1) := by decide +kernel
theorem dX7_about_95 : decode cX7_about 95 = .ok (.ireturn, 1) := by decide +kernel
set_option maxRecDepth 20000 in
theorem ggX7_would_X3_hasRule : GoodIn wsX7_would wsX3_hasRule := goodIn_r _ [13, 14, 146, 147, 148, 149, 150, 151, 152, 153] (by decide +kernel) (by decide +kernel)
set_option maxRecDepth 20000 in
theorem gX7_would_X3_hasRule : GoodIn wsX7_would (wsV RX7 94 RX3 yX3_hasRule wsX3_hasRule) := goodIn_app (goodIn_of _ (by decide +kernel)) ggX7_would_X3_hasRule
set_option maxRecDepth 20000 in
theorem ggX7_would_X3_hasUnknown : GoodIn wsX7_would wsX3_hasUnknown := goodIn_r _ [18, 19, 146, 147, 148, 149, 150, 151, 152, 153] (by decide +kernel) (by decide +kernel)
set_option maxRecDepth 20000 in
theorem gX7_would_X3_hasUnknown : GoodIn wsX7_would (wsV RX7 67 RX3 yX3_hasUnknown wsX3_hasUnknown) := goodIn_app (goodIn_of _ (by decide +kernel)) ggX7_would_X3_hasUnknown
set_option maxRecDepth 20000 in
theorem ggX7_would_X7_refused : GoodIn wsX7_would wsX7_refused := goodIn_r _ [24, 25, 2, 139, 140, 141, 142, 143, 144, 145] (by decide +kernel) (by decide +kernel)
set_option maxRecDepth 20000 in
theorem gX7_would_X7_refused : GoodIn wsX7_would (wsV RX7 57 RX7 yX7_refused wsX7_refused) := goodIn_app (goodIn_of _ (by decide +kernel)) ggX7_would_X7_refused
set_option maxRecDepth 20000 in
theorem ggX7_would_X0_load : GoodIn wsX7_would wsX0_load := goodIn_r _ [30, 31, 32, 33, 34, 35, 36, 154, 155, 156, 157] (by decide +kernel) (by decide +kernel)
set_option maxRecDepth 20000 in
theorem gX7_would_X0_load : GoodIn wsX7_would (wsV RX7 120 RX0 yX0_load wsX0_load) := goodIn_app (goodIn_of _ (by decide +kernel)) ggX7_would_X0_load
set_option maxRecDepth 20000 in
theorem ggX7_would_X0_cutByRules : GoodIn wsX7_would wsX0_cutByRules := goodIn_r _ [40, 41, 42, 43, 44, 45, 46, 47, 48, 49, 50, 29, 51, 31, 36, 52, 53, 54, 55, 56, 57, 58, 59, 60, 61, 62, 63, 64, 65, 66, 67, 68, 69, 70, 71, 72, 73, 74, 75, 76, 77, 78, 79, 80, 81, 82, 83, 84, 85, 86, 87, 88, 89, 90, 91, 92, 93, 94, 95, 96, 97, 98, 99, 100, 101, 102, 103, 104, 105, 106, 107, 108, 109, 110, 111, 112, 113, 114, 115, 116, 117, 118, 119, 120, 121, 122, 123, 124, 125, 126, 127, 128, 129, 130, 131, 132, 133, 134, 135, 136, 137, 138, 154, 155, 156, 157, 146, 147, 148, 149, 150, 151, 152, 153] (by decide +kernel) (by decide +kernel)
set_option maxRecDepth 20000 in
theorem gX7_would_X0_cutByRules : GoodIn wsX7_would (wsV RX7 124 RX0 yX0_cutByRules wsX0_cutByRules) := goodIn_app (goodIn_of _ (by decide +kernel)) ggX7_would_X0_cutByRules
theorem dX7_would_0 : decode cX7_would 0 = .ok (.aload_n 0, 1) := by decide +kernel
theorem dX7_would_1 : decode cX7_would 1 = .ok (.getfield 10, 3) := by decide +kernel
theorem dX7_would_4 : decode cX7_would 4 = .ok (.iload_n 1, 1) := by decide +kernel
theorem dX7_would_5 : decode cX7_would 5 = .ok (.invokevirtual 94, 3) := by decide +kernel
theorem dX7_would_8 : decode cX7_would 8 = .ok (.ifCond .eq 23, 3) := by decide +kernel
theorem dX7_would_11 : decode cX7_would 11 = .ok (.aload_n 0, 1) := by decide +kernel
theorem dX7_would_12 : decode cX7_would 12 = .ok (.getfield 10, 3) := by decide +kernel
theorem dX7_would_15 : decode cX7_would 15 = .ok (.iload_n 2, 1) := by decide +kernel
theorem dX7_would_16 : decode cX7_would 16 = .ok (.invokevirtual 67, 3) := by decide +kernel
theorem dX7_would_19 : decode cX7_would 19 = .ok (.ifCond .eq 12, 3) := by decide +kernel
theorem dX7_would_22 : decode cX7_would 22 = .ok (.iload_n 3, 1) := by decide +kernel
theorem dX7_would_23 : decode cX7_would 23 = .ok (.ifCond .lt 8, 3) := by decide +kernel
theorem dX7_would_26 : decode cX7_would 26 = .ok (.iload_n 3, 1) := by decide +kernel
theorem dX7_would_27 : decode cX7_would 27 = .ok (.iconst 1, 1) := by decide +kernel
theorem dX7_would_28 : decode cX7_would 28 = .ok (.if_icmp .le 10, 3) := by decide +kernel
theorem dX7_would_31 : decode cX7_would 31 = .ok (.aload_n 0, 1) := by decide +kernel
theorem dX7_would_32 : decode cX7_would 32 = .ok (.ldc 77, 2) := by decide +kernel
theorem dX7_would_34 : decode cX7_would 34 = .ok (.invokevirtual 57, 3) := by decide +kernel
theorem dX7_would_37 : decode cX7_would 37 = .ok (.ireturn, 1) := by decide +kernel
theorem dX7_would_38 : decode cX7_would 38 = .ok (.aload_n 0, 1) := by decide +kernel
theorem dX7_would_39 : decode cX7_would 39 = .ok (.getfield 29, 3) := by decide +kernel
theorem dX7_would_42 : decode cX7_would 42 = .ok (.aload_n 0, 1) := by decide +kernel
theorem dX7_would_43 : decode cX7_would 43 = .ok (.getfield 10, 3) := by decide +kernel
theorem dX7_would_46 : decode cX7_would 46 = .ok (.getfield 78, 3) := by decide +kernel
theorem dX7_would_49 : decode cX7_would 49 = .ok (.aload_n 0, 1) := by decide +kernel
theorem dX7_would_50 : decode cX7_would 50 = .ok (.getfield 10, 3) := by decide +kernel
theorem dX7_would_53 : decode cX7_would 53 = .ok (.getfield 81, 3) := by decide +kernel
theorem dX7_would_56 : decode cX7_would 56 = .ok (.iconst 0, 1) := by decide +kernel
theorem dX7_would_57 : decode cX7_would 57 = .ok (.invokevirtual 120, 3) := by decide +kernel
theorem dX7_would_60 : decode cX7_would 60 = .ok (.aload_n 0, 1) := by decide +kernel
theorem dX7_would_61 : decode cX7_would 61 = .ok (.getfield 29, 3) := by decide +kernel
theorem dX7_would_64 : decode cX7_would 64 = .ok (.aload_n 0, 1) := by decide +kernel
theorem dX7_would_65 : decode cX7_would 65 = .ok (.getfield 10, 3) := by decide +kernel
theorem dX7_would_68 : decode cX7_would 68 = .ok (.iload_n 1, 1) := by decide +kernel
theorem dX7_would_69 : decode cX7_would 69 = .ok (.iload_n 1, 1) := by decide +kernel
theorem dX7_would_70 : decode cX7_would 70 = .ok (.iconst 1, 1) := by decide +kernel
theorem dX7_would_71 : decode cX7_would 71 = .ok (.iadd, 1) := by decide +kernel
theorem dX7_would_72 : decode cX7_would 72 = .ok (.iconst 1, 1) := by decide +kernel
theorem dX7_would_73 : decode cX7_would 73 = .ok (.invokevirtual 124, 3) := by decide +kernel
theorem dX7_would_76 : decode cX7_would 76 = .ok (.ldc 128, 2) := by decide +kernel
theorem dX7_would_78 : decode cX7_would 78 = .ok (.if_icmp .ne 6, 3) := by decide +kernel
theorem dX7_would_81 : decode cX7_would 81 = .ok (.ldc 128, 2) := by decide +kernel
theorem dX7_would_83 : decode cX7_would 83 = .ok (.ireturn, 1) := by decide +kernel
theorem dX7_would_84 : decode cX7_would 84 = .ok (.iload_n 3, 1) := by decide +kernel
theorem dX7_would_85 : decode cX7_would 85 = .ok (.ifCond .ne 15, 3) := by decide +kernel
theorem dX7_would_88 : decode cX7_would 88 = .ok (.aload_n 0, 1) := by decide +kernel
theorem dX7_would_89 : decode cX7_would 89 = .ok (.getfield 29, 3) := by decide +kernel
theorem dX7_would_92 : decode cX7_would 92 = .ok (.getfield 129, 3) := by decide +kernel
theorem dX7_would_95 : decode cX7_would 95 = .ok (.iload_n 2, 1) := by decide +kernel
theorem dX7_would_96 : decode cX7_would 96 = .ok (.iaload, 1) := by decide +kernel
theorem dX7_would_97 : decode cX7_would 97 = .ok (.goto 12, 3) := by decide +kernel
theorem dX7_would_100 : decode cX7_would 100 = .ok (.aload_n 0, 1) := by decide +kernel
theorem dX7_would_101 : decode cX7_would 101 = .ok (.getfield 29, 3) := by decide +kernel
theorem dX7_would_104 : decode cX7_would 104 = .ok (.getfield 130, 3) := by decide +kernel
theorem dX7_would_107 : decode cX7_would 107 = .ok (.iload_n 2, 1) := by decide +kernel
theorem dX7_would_108 : decode cX7_would 108 = .ok (.iaload, 1) := by decide +kernel
theorem dX7_would_109 : decode cX7_would 109 = .ok (.ireturn, 1) := by decide +kernel
set_option maxRecDepth 20000 in
theorem ggX7_does_X4_isPlace : GoodIn wsX7_does wsX4_isPlace := goodIn_r _ [5, 6, 7] (by decide +kernel) (by decide +kernel)
set_option maxRecDepth 20000 in
theorem gX7_does_X4_isPlace : GoodIn wsX7_does (va_wsS RX7 131 yX4_isPlace wsX4_isPlace) := goodIn_app (goodIn_of _ (by decide +kernel)) ggX7_does_X4_isPlace
set_option maxRecDepth 20000 in
theorem ggX7_does_X7_refused : GoodIn wsX7_does wsX7_refused := goodIn_r _ [12, 13, 1, 55, 56, 57, 58, 59, 60, 61] (by decide +kernel) (by decide +kernel)
set_option maxRecDepth 20000 in
theorem gX7_does_X7_refused : GoodIn wsX7_does (wsV RX7 57 RX7 yX7_refused wsX7_refused) := goodIn_app (goodIn_of _ (by decide +kernel)) ggX7_does_X7_refused
set_option maxRecDepth 20000 in
theorem ggX7_does_X4_ruleHolds : GoodIn wsX7_does wsX4_ruleHolds := goodIn_r _ [16, 17, 18, 19, 20, 21, 22, 23, 24, 25, 26, 4, 27, 28, 29, 30, 31, 32, 33, 34, 35, 36, 37, 38, 39, 40, 41, 42, 43, 44, 45, 46, 47, 48, 49, 50, 51, 52, 53, 54] (by decide +kernel) (by decide +kernel)
set_option maxRecDepth 20000 in
theorem gX7_does_X4_ruleHolds : GoodIn wsX7_does (va_wsS RX7 134 yX4_ruleHolds wsX4_ruleHolds) := goodIn_app (goodIn_of _ (by decide +kernel)) ggX7_does_X4_ruleHolds
theorem dX7_does_0 : decode cX7_does 0 = .ok (.iload_n 1, 1) := by decide +kernel
theorem dX7_does_1 : decode cX7_does 1 = .ok (.ifCond .lt 22, 3) := by decide +kernel
theorem dX7_does_4 : decode cX7_does 4 = .ok (.iload_n 1, 1) := by decide +kernel
theorem dX7_does_5 : decode cX7_does 5 = .ok (.iconst 5, 1) := by decide +kernel
theorem dX7_does_6 : decode cX7_does 6 = .ok (.if_icmp .gt 17, 3) := by decide +kernel
theorem dX7_does_9 : decode cX7_does 9 = .ok (.iload_n 2, 1) := by decide +kernel
theorem dX7_does_10 : decode cX7_does 10 = .ok (.invokestatic 131, 3) := by decide +kernel
theorem dX7_does_13 : decode cX7_does 13 = .ok (.ifCond .eq 10, 3) := by decide +kernel
theorem dX7_does_16 : decode cX7_does 16 = .ok (.iload_n 3, 1) := by decide +kernel
theorem dX7_does_17 : decode cX7_does 17 = .ok (.invokestatic 131, 3) := by decide +kernel
theorem dX7_does_20 : decode cX7_does 20 = .ok (.ifCond .ne 7, 3) := by decide +kernel
theorem dX7_does_23 : decode cX7_does 23 = .ok (.iconst 1, 1) := by decide +kernel
theorem dX7_does_24 : decode cX7_does 24 = .ok (.goto 4, 3) := by decide +kernel
theorem dX7_does_27 : decode cX7_does 27 = .ok (.iconst 0, 1) := by decide +kernel
theorem dX7_does_28 : decode cX7_does 28 = .ok (.istore 5, 2) := by decide +kernel
theorem dX7_does_30 : decode cX7_does 30 = .ok (.iload 5, 2) := by decide +kernel
theorem dX7_does_32 : decode cX7_does 32 = .ok (.ifCond .ne 16, 3) := by decide +kernel
theorem dX7_does_35 : decode cX7_does 35 = .ok (.iload_n 1, 1) := by decide +kernel
theorem dX7_does_36 : decode cX7_does 36 = .ok (.iconst 3, 1) := by decide +kernel
theorem dX7_does_37 : decode cX7_does 37 = .ok (.if_icmp .ge 18, 3) := by decide +kernel
theorem dX7_does_40 : decode cX7_does 40 = .ok (.iload 4, 2) := by decide +kernel
theorem dX7_does_42 : decode cX7_does 42 = .ok (.invokestatic 131, 3) := by decide +kernel
theorem dX7_does_45 : decode cX7_does 45 = .ok (.ifCond .ne 10, 3) := by decide +kernel
theorem dX7_does_48 : decode cX7_does 48 = .ok (.aload_n 0, 1) := by decide +kernel
theorem dX7_does_49 : decode cX7_does 49 = .ok (.ldc 77, 2) := by decide +kernel
theorem dX7_does_51 : decode cX7_does 51 = .ok (.invokevirtual 57, 3) := by decide +kernel
theorem dX7_does_54 : decode cX7_does 54 = .ok (.ireturn, 1) := by decide +kernel
theorem dX7_does_55 : decode cX7_does 55 = .ok (.iload_n 1, 1) := by decide +kernel
theorem dX7_does_56 : decode cX7_does 56 = .ok (.iload_n 2, 1) := by decide +kernel
theorem dX7_does_57 : decode cX7_does 57 = .ok (.iload_n 3, 1) := by decide +kernel
theorem dX7_does_58 : decode cX7_does 58 = .ok (.iload 4, 2) := by decide +kernel
theorem dX7_does_60 : decode cX7_does 60 = .ok (.invokestatic 134, 3) := by decide +kernel
theorem dX7_does_63 : decode cX7_does 63 = .ok (.ifCond .eq 7, 3) := by decide +kernel
theorem dX7_does_66 : decode cX7_does 66 = .ok (.iconst 1, 1) := by decide +kernel
theorem dX7_does_67 : decode cX7_does 67 = .ok (.goto 4, 3) := by decide +kernel
theorem dX7_does_70 : decode cX7_does 70 = .ok (.iconst 0, 1) := by decide +kernel
theorem dX7_does_71 : decode cX7_does 71 = .ok (.ireturn, 1) := by decide +kernel
set_option maxRecDepth 20000 in
theorem ggX7_solves_X7_refused : GoodIn wsX7_solves wsX7_refused := goodIn_r _ [11, 12, 1, 184, 185, 186, 187, 188, 189, 190] (by decide +kernel) (by decide +kernel)
set_option maxRecDepth 20000 in
theorem gX7_solves_X7_refused : GoodIn wsX7_solves (wsV RX7 57 RX7 yX7_refused wsX7_refused) := goodIn_app (goodIn_of _ (by decide +kernel)) ggX7_solves_X7_refused
set_option maxRecDepth 20000 in
theorem ggX7_solves_X5_solve : GoodIn wsX7_solves wsX5_solve := goodIn_r _ [17, 18, 19, 20, 21, 22, 23, 24, 25, 26, 27, 28, 29, 30, 31, 32, 33, 34, 35, 36, 37, 38, 39, 40, 41, 42, 43, 44, 45, 46, 16, 47, 48, 49, 50, 51, 52, 53, 54, 55, 56, 57, 58, 59, 60, 61, 62, 63, 64, 65, 66, 67, 68, 69, 70, 71, 72, 73, 74, 75, 76, 77, 78, 79, 80, 81, 82, 83, 84, 85, 86, 87, 88, 89, 90, 91, 92, 93, 94, 95, 96, 97, 98, 99, 100, 101, 102, 103, 104, 105, 106, 107, 108, 109, 110, 111, 112, 113, 114, 115, 116, 117, 118, 119, 120, 121, 122, 123, 124, 125, 126, 127, 128, 129, 130, 131, 132, 133, 134, 135, 136, 137, 138, 139, 140, 141, 142, 143, 144, 145, 146, 147, 148, 149, 150, 151, 152, 153, 154, 155, 156, 157, 158, 159, 160, 161, 162, 163, 164, 165, 166, 167, 168, 169, 170, 171, 172, 173, 174, 175, 176, 177, 178, 179, 180, 181, 182, 183, 191, 192, 193, 194, 195, 196, 197, 198, 199, 200, 201, 202, 203, 204, 205, 206, 207, 208, 209, 210] (by decide +kernel) (by decide +kernel)
set_option maxRecDepth 20000 in
theorem gX7_solves_X5_solve : GoodIn wsX7_solves (wsV RX7 138 RX5 yX5_solve wsX5_solve) := goodIn_app (goodIn_of _ (by decide +kernel)) ggX7_solves_X5_solve
theorem dX7_solves_0 : decode cX7_solves 0 = .ok (.iload_n 1, 1) := by decide +kernel
theorem dX7_solves_1 : decode cX7_solves 1 = .ok (.iconst 1, 1) := by decide +kernel
theorem dX7_solves_2 : decode cX7_solves 2 = .ok (.if_icmp .lt 18, 3) := by decide +kernel
theorem dX7_solves_5 : decode cX7_solves 5 = .ok (.iload_n 1, 1) := by decide +kernel
theorem dX7_solves_6 : decode cX7_solves 6 = .ok (.bipush 60, 2) := by decide +kernel
theorem dX7_solves_8 : decode cX7_solves 8 = .ok (.if_icmp .gt 12, 3) := by decide +kernel
theorem dX7_solves_11 : decode cX7_solves 11 = .ok (.iload_n 2, 1) := by decide +kernel
theorem dX7_solves_12 : decode cX7_solves 12 = .ok (.ifCond .lt 8, 3) := by decide +kernel
theorem dX7_solves_15 : decode cX7_solves 15 = .ok (.iload_n 2, 1) := by decide +kernel
theorem dX7_solves_16 : decode cX7_solves 16 = .ok (.iconst 2, 1) := by decide +kernel
theorem dX7_solves_17 : decode cX7_solves 17 = .ok (.if_icmp .le 10, 3) := by decide +kernel
theorem dX7_solves_20 : decode cX7_solves 20 = .ok (.aload_n 0, 1) := by decide +kernel
theorem dX7_solves_21 : decode cX7_solves 21 = .ok (.ldc 77, 2) := by decide +kernel
theorem dX7_solves_23 : decode cX7_solves 23 = .ok (.invokevirtual 57, 3) := by decide +kernel
theorem dX7_solves_26 : decode cX7_solves 26 = .ok (.ireturn, 1) := by decide +kernel
theorem dX7_solves_27 : decode cX7_solves 27 = .ok (.aload_n 0, 1) := by decide +kernel
theorem dX7_solves_28 : decode cX7_solves 28 = .ok (.getfield 38, 3) := by decide +kernel
theorem dX7_solves_31 : decode cX7_solves 31 = .ok (.aload_n 0, 1) := by decide +kernel
theorem dX7_solves_32 : decode cX7_solves 32 = .ok (.getfield 10, 3) := by decide +kernel
theorem dX7_solves_35 : decode cX7_solves 35 = .ok (.iload_n 1, 1) := by decide +kernel
theorem dX7_solves_36 : decode cX7_solves 36 = .ok (.invokevirtual 138, 3) := by decide +kernel
theorem dX7_solves_39 : decode cX7_solves 39 = .ok (.iload_n 2, 1) := by decide +kernel
theorem dX7_solves_40 : decode cX7_solves 40 = .ok (.ifCond .ne 11, 3) := by decide +kernel
theorem dX7_solves_43 : decode cX7_solves 43 = .ok (.aload_n 0, 1) := by decide +kernel
theorem dX7_solves_44 : decode cX7_solves 44 = .ok (.getfield 38, 3) := by decide +kernel
theorem dX7_solves_47 : decode cX7_solves 47 = .ok (.getfield 142, 3) := by decide +kernel
theorem dX7_solves_50 : decode cX7_solves 50 = .ok (.ireturn, 1) := by decide +kernel
theorem dX7_solves_51 : decode cX7_solves 51 = .ok (.iload_n 2, 1) := by decide +kernel
theorem dX7_solves_52 : decode cX7_solves 52 = .ok (.iconst 1, 1) := by decide +kernel
theorem dX7_solves_53 : decode cX7_solves 53 = .ok (.if_icmp .ne 13, 3) := by decide +kernel
theorem dX7_solves_56 : decode cX7_solves 56 = .ok (.aload_n 0, 1) := by decide +kernel
theorem dX7_solves_57 : decode cX7_solves 57 = .ok (.getfield 38, 3) := by decide +kernel
theorem dX7_solves_60 : decode cX7_solves 60 = .ok (.getfield 146, 3) := by decide +kernel
theorem dX7_solves_63 : decode cX7_solves 63 = .ok (.goto 10, 3) := by decide +kernel
theorem dX7_solves_66 : decode cX7_solves 66 = .ok (.aload_n 0, 1) := by decide +kernel
theorem dX7_solves_67 : decode cX7_solves 67 = .ok (.getfield 38, 3) := by decide +kernel
theorem dX7_solves_70 : decode cX7_solves 70 = .ok (.getfield 149, 3) := by decide +kernel
theorem dX7_solves_73 : decode cX7_solves 73 = .ok (.ireturn, 1) := by decide +kernel
set_option maxRecDepth 20000 in
theorem ggX7_point_X3_hasUnknown : GoodIn wsX7_point wsX3_hasUnknown := goodIn_r _ [11, 12, 204, 205, 206, 207, 208, 209, 210, 211] (by decide +kernel) (by decide +kernel)
set_option maxRecDepth 20000 in
theorem gX7_point_X3_hasUnknown : GoodIn wsX7_point (wsV RX7 67 RX3 yX3_hasUnknown wsX3_hasUnknown) := goodIn_app (goodIn_of _ (by decide +kernel)) ggX7_point_X3_hasUnknown
set_option maxRecDepth 20000 in
theorem ggX7_point_X7_refused : GoodIn wsX7_point wsX7_refused := goodIn_r _ [17, 18, 2, 189, 190, 191, 192, 193, 194, 195] (by decide +kernel) (by decide +kernel)
set_option maxRecDepth 20000 in
theorem gX7_point_X7_refused : GoodIn wsX7_point (wsV RX7 57 RX7 yX7_refused wsX7_refused) := goodIn_app (goodIn_of _ (by decide +kernel)) ggX7_point_X7_refused
set_option maxRecDepth 20000 in
theorem ggX7_point_X5_solve : GoodIn wsX7_point wsX5_solve := goodIn_r _ [23, 24, 25, 26, 27, 28, 29, 30, 31, 32, 33, 34, 35, 36, 37, 38, 39, 40, 41, 42, 43, 44, 45, 46, 47, 48, 49, 50, 51, 52, 22, 53, 54, 55, 56, 57, 58, 59, 60, 61, 62, 63, 64, 65, 66, 67, 68, 69, 70, 71, 72, 73, 74, 75, 76, 77, 78, 79, 80, 81, 82, 83, 84, 85, 86, 87, 88, 89, 90, 91, 92, 93, 94, 95, 96, 97, 98, 99, 100, 101, 102, 103, 104, 105, 106, 107, 108, 109, 110, 111, 112, 113, 114, 115, 116, 117, 118, 119, 120, 121, 122, 123, 124, 125, 126, 127, 128, 129, 130, 131, 132, 133, 134, 135, 136, 137, 138, 139, 140, 141, 142, 143, 144, 145, 146, 147, 148, 149, 150, 151, 152, 153, 154, 155, 156, 157, 158, 159, 160, 161, 162, 163, 164, 165, 166, 167, 168, 169, 170, 171, 172, 173, 174, 175, 10, 176, 177, 178, 179, 180, 181, 182, 183, 184, 185, 186, 187, 188, 196, 197, 198, 199, 200, 201, 202, 203, 204, 205, 206, 207, 208, 209, 210, 211, 212, 213, 214, 215] (by decide +kernel) (by decide +kernel)
set_option maxRecDepth 20000 in
theorem gX7_point_X5_solve : GoodIn wsX7_point (wsV RX7 138 RX5 yX5_solve wsX5_solve) := goodIn_app (goodIn_of _ (by decide +kernel)) ggX7_point_X5_solve
theorem dX7_point_0 : decode cX7_point 0 = .ok (.iload_n 1, 1) := by decide +kernel
theorem dX7_point_1 : decode cX7_point 1 = .ok (.iconst 1, 1) := by decide +kernel
theorem dX7_point_2 : decode cX7_point 2 = .ok (.if_icmp .lt 20, 3) := by decide +kernel
theorem dX7_point_5 : decode cX7_point 5 = .ok (.iload_n 1, 1) := by decide +kernel
theorem dX7_point_6 : decode cX7_point 6 = .ok (.bipush 60, 2) := by decide +kernel
theorem dX7_point_8 : decode cX7_point 8 = .ok (.if_icmp .gt 14, 3) := by decide +kernel
theorem dX7_point_11 : decode cX7_point 11 = .ok (.aload_n 0, 1) := by decide +kernel
theorem dX7_point_12 : decode cX7_point 12 = .ok (.getfield 10, 3) := by decide +kernel
theorem dX7_point_15 : decode cX7_point 15 = .ok (.iload_n 2, 1) := by decide +kernel
theorem dX7_point_16 : decode cX7_point 16 = .ok (.invokevirtual 67, 3) := by decide +kernel
theorem dX7_point_19 : decode cX7_point 19 = .ok (.ifCond .ne 10, 3) := by decide +kernel
theorem dX7_point_22 : decode cX7_point 22 = .ok (.aload_n 0, 1) := by decide +kernel
theorem dX7_point_23 : decode cX7_point 23 = .ok (.ldc 77, 2) := by decide +kernel
theorem dX7_point_25 : decode cX7_point 25 = .ok (.invokevirtual 57, 3) := by decide +kernel
theorem dX7_point_28 : decode cX7_point 28 = .ok (.ireturn, 1) := by decide +kernel
theorem dX7_point_29 : decode cX7_point 29 = .ok (.aload_n 0, 1) := by decide +kernel
theorem dX7_point_30 : decode cX7_point 30 = .ok (.getfield 38, 3) := by decide +kernel
theorem dX7_point_33 : decode cX7_point 33 = .ok (.aload_n 0, 1) := by decide +kernel
theorem dX7_point_34 : decode cX7_point 34 = .ok (.getfield 10, 3) := by decide +kernel
theorem dX7_point_37 : decode cX7_point 37 = .ok (.iload_n 1, 1) := by decide +kernel
theorem dX7_point_38 : decode cX7_point 38 = .ok (.invokevirtual 138, 3) := by decide +kernel
theorem dX7_point_41 : decode cX7_point 41 = .ok (.aload_n 0, 1) := by decide +kernel
theorem dX7_point_42 : decode cX7_point 42 = .ok (.getfield 38, 3) := by decide +kernel
theorem dX7_point_45 : decode cX7_point 45 = .ok (.getfield 142, 3) := by decide +kernel
theorem dX7_point_48 : decode cX7_point 48 = .ok (.ifCond .ne 15, 3) := by decide +kernel
theorem dX7_point_51 : decode cX7_point 51 = .ok (.aload_n 0, 1) := by decide +kernel
theorem dX7_point_52 : decode cX7_point 52 = .ok (.getfield 38, 3) := by decide +kernel
theorem dX7_point_55 : decode cX7_point 55 = .ok (.getfield 152, 3) := by decide +kernel
theorem dX7_point_58 : decode cX7_point 58 = .ok (.iload_n 2, 1) := by decide +kernel
theorem dX7_point_59 : decode cX7_point 59 = .ok (.iaload, 1) := by decide +kernel
theorem dX7_point_60 : decode cX7_point 60 = .ok (.goto 9, 3) := by decide +kernel
theorem dX7_point_63 : decode cX7_point 63 = .ok (.aload_n 0, 1) := by decide +kernel
theorem dX7_point_64 : decode cX7_point 64 = .ok (.ldc 155, 2) := by decide +kernel
theorem dX7_point_66 : decode cX7_point 66 = .ok (.invokevirtual 57, 3) := by decide +kernel
theorem dX7_point_69 : decode cX7_point 69 = .ok (.ireturn, 1) := by decide +kernel
set_option maxRecDepth 20000 in
theorem ggX7_whole_X1_ofWhole : GoodIn wsX7_whole wsX1_ofWhole := goodIn_r _ [4, 5, 6, 7, 8, 9, 10, 3, 11, 12, 13, 14, 15, 16, 17, 18, 19, 20, 21, 22, 23, 24] (by decide +kernel) (by decide +kernel)
set_option maxRecDepth 20000 in
theorem gX7_whole_X1_ofWhole : GoodIn wsX7_whole (va_wsS RX7 156 yX1_ofWhole wsX1_ofWhole) := goodIn_app (goodIn_of _ (by decide +kernel)) ggX7_whole_X1_ofWhole
theorem dX7_whole_0 : decode cX7_whole 0 = .ok (.iload_n 1, 1) := by decide +kernel
theorem dX7_whole_1 : decode cX7_whole 1 = .ok (.invokestatic 156, 3) := by decide +kernel
theorem dX7_whole_4 : decode cX7_whole 4 = .ok (.ireturn, 1) := by decide +kernel
set_option maxRecDepth 20000 in
theorem ggX7_narrow_X1_isNotANumber : GoodIn wsX7_narrow wsX1_isNotANumber := goodIn_r _ [6, 7, 8, 5, 9, 10, 11, 12, 13] (by decide +kernel) (by decide +kernel)
set_option maxRecDepth 20000 in
theorem gX7_narrow_X1_isNotANumber : GoodIn wsX7_narrow (va_wsS RX7 161 yX1_isNotANumber wsX1_isNotANumber) := goodIn_app (goodIn_of _ (by decide +kernel)) ggX7_narrow_X1_isNotANumber
set_option maxRecDepth 20000 in
theorem ggX7_narrow_X7_refused : GoodIn wsX7_narrow wsX7_refused := goodIn_r _ [18, 19, 1, 47, 48, 49, 50, 51, 52, 53] (by decide +kernel) (by decide +kernel)
set_option maxRecDepth 20000 in
theorem gX7_narrow_X7_refused : GoodIn wsX7_narrow (wsV RX7 57 RX7 yX7_refused wsX7_refused) := goodIn_app (goodIn_of _ (by decide +kernel)) ggX7_narrow_X7_refused
set_option maxRecDepth 20000 in
theorem ggX7_narrow_X1_ofDouble : GoodIn wsX7_narrow wsX1_ofDouble := goodIn_r _ [22, 23, 24, 25, 26, 27, 7, 8, 5, 9, 10, 11, 12, 13, 28, 29, 30, 31, 32, 33, 34, 35, 36, 37, 38, 39, 40] (by decide +kernel) (by decide +kernel)
set_option maxRecDepth 20000 in
theorem gX7_narrow_X1_ofDouble : GoodIn wsX7_narrow (va_wsS RX7 165 yX1_ofDouble wsX1_ofDouble) := goodIn_app (goodIn_of _ (by decide +kernel)) ggX7_narrow_X1_ofDouble
set_option maxRecDepth 20000 in
theorem ggX7_narrow_X4_isPlace : GoodIn wsX7_narrow wsX4_isPlace := goodIn_r _ [44, 45, 46] (by decide +kernel) (by decide +kernel)
set_option maxRecDepth 20000 in
theorem gX7_narrow_X4_isPlace : GoodIn wsX7_narrow (va_wsS RX7 131 yX4_isPlace wsX4_isPlace) := goodIn_app (goodIn_of _ (by decide +kernel)) ggX7_narrow_X4_isPlace
theorem dX7_narrow_0 : decode cX7_narrow 0 = .ok (.lload_n 1, 1) := by decide +kernel
theorem dX7_narrow_1 : decode cX7_narrow 1 = .ok (.invokestatic 161, 3) := by decide +kernel
theorem dX7_narrow_4 : decode cX7_narrow 4 = .ok (.ifCond .eq 10, 3) := by decide +kernel
theorem dX7_narrow_7 : decode cX7_narrow 7 = .ok (.aload_n 0, 1) := by decide +kernel
theorem dX7_narrow_8 : decode cX7_narrow 8 = .ok (.ldc 77, 2) := by decide +kernel
theorem dX7_narrow_10 : decode cX7_narrow 10 = .ok (.invokevirtual 57, 3) := by decide +kernel
theorem dX7_narrow_13 : decode cX7_narrow 13 = .ok (.ireturn, 1) := by decide +kernel
theorem dX7_narrow_14 : decode cX7_narrow 14 = .ok (.lload_n 1, 1) := by decide +kernel
theorem dX7_narrow_15 : decode cX7_narrow 15 = .ok (.invokestatic 165, 3) := by decide +kernel
theorem dX7_narrow_18 : decode cX7_narrow 18 = .ok (.istore_n 3, 1) := by decide +kernel
theorem dX7_narrow_19 : decode cX7_narrow 19 = .ok (.iload_n 3, 1) := by decide +kernel
theorem dX7_narrow_20 : decode cX7_narrow 20 = .ok (.invokestatic 131, 3) := by decide +kernel

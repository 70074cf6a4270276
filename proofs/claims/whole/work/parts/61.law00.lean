abbrev cL_law : ByteArray := code
def yL_law : MethodName := ⟨RL, "law", "([I)Z"⟩
def wsL_law_r1 : List Cond := [Cond.classLink RL 7 RX7, Cond.instantiable RX7 7, Cond.initialized RX7, Cond.classLink RL 10 RX8, Cond.instantiable RX8 17, Cond.initialized RX8, Cond.constantLong RL 71 (4294967295), Cond.methodLink RL 9 yX7_init, Cond.instanceMethod yX7_init, Cond.code yX7_init cX7_init 1 none, Cond.methodLink RX7 1 objectInit, Cond.instanceMethod objectInit, Cond.code objectInit ⟨#[0xb1]⟩ 1 none, Cond.classLink RX7 7 RX3, Cond.instantiable RX3 8, Cond.initialized RX3, Cond.fieldLink RX7 10 "FloatBoxes" "now" "LFloatBoxes$Model;", Cond.fieldLink RX7 16 "FloatBoxes" "trial" "LFloatBoxes$Model;", Cond.classLink RX7 19 RX2, Cond.instantiable RX2 3, Cond.initialized RX2, Cond.fieldLink RX7 22 "FloatBoxes" "history" "LFloatBoxes$History;", Cond.classLink RX7 26 RX0, Cond.instantiable RX0 4]
def wsL_law_r2 : List Cond := [Cond.initialized RX0, Cond.fieldLink RX7 29 "FloatBoxes" "cutter" "LFloatBoxes$Cutter;", Cond.classLink RX7 33 RX5, Cond.instantiable RX5 8, Cond.initialized RX5, Cond.fieldLink RX7 38 "FloatBoxes" "solver" "LFloatBoxes$Solver;", Cond.classLink RX7 42 RX6, Cond.instantiable RX6 6, Cond.initialized RX6, Cond.fieldLink RX7 45 "FloatBoxes" "text" "LFloatBoxes$Text;", Cond.arrayClass .int, Cond.fieldLink RX7 49 "FloatBoxes" "refusals" "[I", Cond.instanceMethod yX3_init, Cond.code yX3_init cX3_init 1 none, Cond.methodLink RX3 3 objectInit, Cond.fieldLink RX3 9 "FloatBoxes$Model" "low" "[I", Cond.fieldLink RX3 15 "FloatBoxes$Model" "high" "[I", Cond.fieldLink RX3 18 "FloatBoxes$Model" "kind" "[I", Cond.fieldLink RX3 21 "FloatBoxes$Model" "x" "[I", Cond.fieldLink RX3 24 "FloatBoxes$Model" "y" "[I", Cond.fieldLink RX3 27 "FloatBoxes$Model" "z" "[I", Cond.methodLink RX7 21 yX2_init, Cond.instanceMethod yX2_init, Cond.code yX2_init cX2_init 2 none]
def wsL_law_r3 : List Cond := [Cond.methodLink RX2 3 objectInit, Cond.classLink RX2 9 RX3, Cond.fieldLink RX2 11 "FloatBoxes$History" "ring" "[LFloatBoxes$Model;", Cond.instanceMethod yX0_init, Cond.code yX0_init cX0_init 1 none, Cond.methodLink RX0 3 objectInit, Cond.fieldLink RX0 9 "FloatBoxes$Cutter" "low" "[I", Cond.fieldLink RX0 15 "FloatBoxes$Cutter" "high" "[I", Cond.methodLink RX7 35 yX5_init, Cond.instanceMethod yX5_init, Cond.code yX5_init cX5_init 2 none, Cond.methodLink RX5 3 objectInit, Cond.fieldLink RX5 9 "FloatBoxes$Solver" "point" "[I", Cond.fieldLink RX5 15 "FloatBoxes$Solver" "lows" "[I", Cond.fieldLink RX5 18 "FloatBoxes$Solver" "highs" "[I", Cond.fieldLink RX5 21 "FloatBoxes$Solver" "box" "LFloatBoxes$Cutter;", Cond.instanceMethod yX6_init, Cond.code yX6_init cX6_init 1 none, Cond.methodLink RX6 3 objectInit, Cond.fieldLink RX6 9 "FloatBoxes$Text" "bytes" "[I", Cond.fieldLink RX6 15 "FloatBoxes$Text" "letter" "[I", Cond.fieldLink RX6 18 "FloatBoxes$Text" "number" "[I", Cond.methodLink RL 12 yX8_init, Cond.instanceMethod yX8_init]
def wsL_law_r4 : List Cond := [Cond.code yX8_init cX8_init 1 none, Cond.methodLink RX8 1 objectInit, Cond.fieldLink RX8 7 "FloatBoxesModel" "all" "[I", Cond.fieldLink RX8 13 "FloatBoxesModel" "past" "[I", Cond.fieldLink RX8 16 "FloatBoxesModel" "refused" "[I", Cond.fieldLink RX8 19 "FloatBoxesModel" "box" "[I", Cond.fieldLink RX8 22 "FloatBoxesModel" "row" "[I", Cond.fieldLink RX8 25 "FloatBoxesModel" "text" "[I", Cond.fieldLink RX8 28 "FloatBoxesModel" "numbers" "[I", Cond.fieldLink RX8 31 "FloatBoxesModel" "before" "[I", Cond.methodLink RL 13 yX7_unknown, Cond.instanceMethod yX7_unknown, Cond.selects RX7 yX7_unknown yX7_unknown, Cond.code yX7_unknown cX7_unknown 4 (some .int), Cond.methodLink RX7 53 yX3_refusalOfUnknown, Cond.instanceMethod yX3_refusalOfUnknown, Cond.selects RX3 yX3_refusalOfUnknown yX3_refusalOfUnknown, Cond.code yX3_refusalOfUnknown cX3_refusalOfUnknown 3 (some .int), Cond.constant RX3 49 (-2139095050), Cond.fieldLink RX3 30 "FloatBoxes$Model" "unknowns" "I", Cond.constant RX3 50 (-2139095052), Cond.methodLink RX3 43 yX4_isRange, Cond.static yX4_isRange, Cond.initialized RX4]
def wsL_law_r5 : List Cond := [Cond.code yX4_isRange cX4_isRange 2 (some .boolean), Cond.methodLink RX4 11 yX4_isPlace, Cond.static yX4_isPlace, Cond.code yX4_isPlace cX4_isPlace 1 (some .boolean), Cond.constant RX4 9 (-2139095040), Cond.constant RX4 10 (2139095039), Cond.methodLink RX7 57 yX7_refused, Cond.instanceMethod yX7_refused, Cond.selects RX7 yX7_refused yX7_refused, Cond.code yX7_refused cX7_refused 2 (some .int), Cond.constant RX7 77 (-2139095050), Cond.methodLink RX7 61 yX7_keepState, Cond.instanceMethod yX7_keepState, Cond.selects RX7 yX7_keepState yX7_keepState, Cond.code yX7_keepState cX7_keepState 1 none, Cond.methodLink RX7 241 yX2_keep, Cond.instanceMethod yX2_keep, Cond.selects RX2 yX2_keep yX2_keep, Cond.code yX2_keep cX2_keep 2 none, Cond.fieldLink RX2 18 "FloatBoxes$History" "next" "I", Cond.fieldLink RX2 26 "FloatBoxes$History" "count" "I", Cond.methodLink RX2 29 Lib.Math.min.name, Cond.static Lib.Math.min.name, Cond.initialized "java/lang/Math"]
def wsL_law_r6 : List Cond := [Cond.code Lib.Math.min.name Lib.Math.min.code 2 (some .int), Cond.methodLink RX2 22 yX3_copy, Cond.instanceMethod yX3_copy, Cond.selects RX3 yX3_copy yX3_copy, Cond.code yX3_copy cX3_copy 2 none, Cond.fieldLink RX3 34 "FloatBoxes$Model" "rules" "I", Cond.methodLink RX3 37 arraycopyName, Cond.native arraycopyName, Cond.static arraycopyName, Cond.initialized "java/lang/System", Cond.methodLink RX7 221 yX5_forget, Cond.instanceMethod yX5_forget, Cond.selects RX5 yX5_forget yX5_forget, Cond.code yX5_forget cX5_forget 1 none, Cond.fieldLink RX5 25 "FloatBoxes$Solver" "solvedBy" "I", Cond.methodLink RX7 64 yX3_addUnknown, Cond.instanceMethod yX3_addUnknown, Cond.selects RX3 yX3_addUnknown yX3_addUnknown, Cond.code yX3_addUnknown cX3_addUnknown 3 (some .int), Cond.methodLink RL 17 yX8_unknown, Cond.instanceMethod yX8_unknown, Cond.selects RX8 yX8_unknown yX8_unknown, Cond.code yX8_unknown cX8_unknown 4 (some .int), Cond.methodLink RX8 84 yX8_canUnknown]
def wsL_law_r7 : List Cond := [Cond.instanceMethod yX8_canUnknown, Cond.selects RX8 yX8_canUnknown yX8_canUnknown, Cond.code yX8_canUnknown cX8_canUnknown 3 (some .int), Cond.constant RX8 42 (-2139095050), Cond.constant RX8 83 (-2139095052), Cond.methodLink RX8 79 yX8_isPlace, Cond.static yX8_isPlace, Cond.code yX8_isPlace cX8_isPlace 1 (some .boolean), Cond.constantLong RX8 34 (-2139095040), Cond.constantLong RX8 36 (2139095039), Cond.methodLink RX8 38 yX8_in, Cond.static yX8_in, Cond.code yX8_in cX8_in 6 (some .boolean), Cond.methodLink RX8 47 yX8_unknowns, Cond.instanceMethod yX8_unknowns, Cond.selects RX8 yX8_unknowns yX8_unknowns, Cond.code yX8_unknowns cX8_unknowns 1 (some .int), Cond.methodLink RX8 87 yX8_refuses, Cond.instanceMethod yX8_refuses, Cond.selects RX8 yX8_refuses yX8_refuses, Cond.code yX8_refuses cX8_refuses 2 (some .int), Cond.methodLink RX8 91 yX8_keep, Cond.instanceMethod yX8_keep, Cond.selects RX8 yX8_keep yX8_keep]
def wsL_law_r8 : List Cond := [Cond.code yX8_keep cX8_keep 2 none, Cond.fieldLink RX8 43 "FloatBoxesModel" "states" "I", Cond.methodLink RX8 94 yX8_unknownNow, Cond.instanceMethod yX8_unknownNow, Cond.selects RX8 yX8_unknownNow yX8_unknownNow, Cond.code yX8_unknownNow cX8_unknownNow 4 (some .int), Cond.methodLink RL 18 yX7_range, Cond.instanceMethod yX7_range, Cond.selects RX7 yX7_range yX7_range, Cond.code yX7_range cX7_range 4 (some .int), Cond.fieldLink RX7 78 "FloatBoxes$Model" "low" "[I", Cond.fieldLink RX7 81 "FloatBoxes$Model" "high" "[I", Cond.methodLink RX7 67 yX3_hasUnknown, Cond.instanceMethod yX3_hasUnknown, Cond.selects RX3 yX3_hasUnknown yX3_hasUnknown, Cond.code yX3_hasUnknown cX3_hasUnknown 2 (some .boolean), Cond.methodLink RX7 71 yX4_isRange, Cond.methodLink RX7 84 yX3_rulesOf, Cond.instanceMethod yX3_rulesOf, Cond.selects RX3 yX3_rulesOf yX3_rulesOf, Cond.code yX3_rulesOf cX3_rulesOf 4 (some .int), Cond.methodLink RL 22 yX8_range, Cond.instanceMethod yX8_range, Cond.selects RX8 yX8_range yX8_range]
def wsL_law_r9 : List Cond := [Cond.code yX8_range cX8_range 7 (some .int), Cond.methodLink RX8 97 yX8_isUnknown, Cond.instanceMethod yX8_isUnknown, Cond.selects RX8 yX8_isUnknown yX8_isUnknown, Cond.code yX8_isUnknown cX8_isUnknown 2 (some .boolean), Cond.methodLink RX8 51 yX8_rules, Cond.instanceMethod yX8_rules, Cond.selects RX8 yX8_rules yX8_rules, Cond.code yX8_rules cX8_rules 1 (some .int), Cond.methodLink RX8 100 yX8_ruleAt, Cond.instanceMethod yX8_ruleAt, Cond.selects RX8 yX8_ruleAt yX8_ruleAt, Cond.code yX8_ruleAt cX8_ruleAt 3 (some .int), Cond.methodLink RL 23 yX7_rule, Cond.instanceMethod yX7_rule, Cond.selects RX7 yX7_rule yX7_rule, Cond.code yX7_rule cX7_rule 6 (some .int), Cond.methodLink RX7 87 yX3_refusalOfRule, Cond.instanceMethod yX3_refusalOfRule, Cond.selects RX3 yX3_refusalOfRule yX3_refusalOfRule, Cond.code yX3_refusalOfRule cX3_refusalOfRule 5 (some .int), Cond.methodLink RX3 51 yX3_hasUnknown, Cond.methodLink RX7 91 yX3_addRule, Cond.instanceMethod yX3_addRule]
def wsL_law_r10 : List Cond := [Cond.selects RX3 yX3_addRule yX3_addRule, Cond.code yX3_addRule cX3_addRule 5 (some .int), Cond.methodLink RL 27 yX8_rule, Cond.instanceMethod yX8_rule, Cond.selects RX8 yX8_rule yX8_rule, Cond.code yX8_rule cX8_rule 6 (some .int), Cond.methodLink RX8 105 yX8_canRule, Cond.instanceMethod yX8_canRule, Cond.selects RX8 yX8_canRule yX8_canRule, Cond.code yX8_canRule cX8_canRule 6 (some .int), Cond.constantLong RX8 103 (5), Cond.methodLink RX8 109 yX8_ruleNow, Cond.instanceMethod yX8_ruleNow, Cond.selects RX8 yX8_ruleNow yX8_ruleNow, Cond.code yX8_ruleNow cX8_ruleNow 6 (some .int), Cond.methodLink RL 28 yX7_drops, Cond.instanceMethod yX7_drops, Cond.selects RX7 yX7_drops yX7_drops, Cond.code yX7_drops cX7_drops 2 (some .int), Cond.methodLink RX7 94 yX3_hasRule, Cond.instanceMethod yX3_hasRule, Cond.selects RX3 yX3_hasRule yX3_hasRule, Cond.code yX3_hasRule cX3_hasRule 2 (some .boolean), Cond.methodLink RX7 97 yX3_dropRule]
def wsL_law_r11 : List Cond := [Cond.instanceMethod yX3_dropRule, Cond.selects RX3 yX3_dropRule yX3_dropRule, Cond.code yX3_dropRule cX3_dropRule 3 (some .int), Cond.methodLink RL 32 yX8_drops, Cond.instanceMethod yX8_drops, Cond.selects RX8 yX8_drops yX8_drops, Cond.code yX8_drops cX8_drops 2 (some .int), Cond.methodLink RX8 112 yX8_isRule, Cond.instanceMethod yX8_isRule, Cond.selects RX8 yX8_isRule yX8_isRule, Cond.code yX8_isRule cX8_isRule 2 (some .boolean), Cond.methodLink RX8 115 yX8_dropNow, Cond.instanceMethod yX8_dropNow, Cond.selects RX8 yX8_dropNow yX8_dropNow, Cond.code yX8_dropNow cX8_dropNow 3 (some .int), Cond.methodLink RL 33 yX7_cuts, Cond.instanceMethod yX7_cuts, Cond.selects RX7 yX7_cuts yX7_cuts, Cond.code yX7_cuts cX7_cuts 1 (some .int), Cond.methodLink RX7 100 yX7_cutRanges, Cond.instanceMethod yX7_cutRanges, Cond.selects RX7 yX7_cutRanges yX7_cutRanges, Cond.code yX7_cutRanges cX7_cutRanges 3 (some .int), Cond.fieldLink RX7 234 "FloatBoxes$Model" "rules" "I"]
def wsL_law_r12 : List Cond := [Cond.constant RX7 128 (-2139095049), Cond.methodLink RX7 120 yX0_load, Cond.instanceMethod yX0_load, Cond.selects RX0 yX0_load yX0_load, Cond.code yX0_load cX0_load 4 none, Cond.methodLink RX0 18 arraycopyName, Cond.methodLink RX7 124 yX0_cutByRules, Cond.instanceMethod yX0_cutByRules, Cond.selects RX0 yX0_cutByRules yX0_cutByRules, Cond.code yX0_cutByRules cX0_cutByRules 10 (some .int), Cond.fieldLink RX0 24 "FloatBoxes$Cutter" "empty" "Z", Cond.fieldLink RX0 28 "FloatBoxes$Cutter" "cut" "Z", Cond.fieldLink RX0 31 "FloatBoxes$Model" "x" "[I", Cond.fieldLink RX0 36 "FloatBoxes$Model" "y" "[I", Cond.fieldLink RX0 39 "FloatBoxes$Model" "z" "[I", Cond.fieldLink RX0 42 "FloatBoxes$Model" "kind" "[I", Cond.constant RX0 68 (-2139095049), Cond.methodLink RX0 45 yX0_cutSum, Cond.instanceMethod yX0_cutSum, Cond.selects RX0 yX0_cutSum yX0_cutSum, Cond.code yX0_cutSum cX0_cutSum 4 none, Cond.methodLink RX0 78 yX1_sum, Cond.static yX1_sum, Cond.initialized RX1]
def wsL_law_r13 : List Cond := [Cond.code yX1_sum cX1_sum 13 (some .int), Cond.methodLink RX1 32 yX4_magnitude, Cond.static yX4_magnitude, Cond.code yX4_magnitude cX4_magnitude 1 (some .int), Cond.methodLink RX1 48 yX1_exponent, Cond.static yX1_exponent, Cond.code yX1_exponent cX1_exponent 1 (some .int), Cond.methodLink RX1 28 Lib.Math.max.name, Cond.static Lib.Math.max.name, Cond.code Lib.Math.max.name Lib.Math.max.code 2 (some .int), Cond.methodLink RX1 40 yX1_significand, Cond.static yX1_significand, Cond.code yX1_significand cX1_significand 2 (some .int), Cond.constant RX1 55 (8388608), Cond.methodLink RX1 15 yX1_rounded, Cond.static yX1_rounded, Cond.code yX1_rounded cX1_rounded 12 (some .int), Cond.constant RX1 54 (2139095040), Cond.methodLink RX1 43 yJ13_numberOfLeadingZeros_95d88, Cond.static yJ13_numberOfLeadingZeros_95d88, Cond.initialized RJ13, Cond.code yJ13_numberOfLeadingZeros_95d88 cJ13_numberOfLeadingZeros_95d88 3 (some .int), Cond.methodLink RJ13 308 yJ6_numberOfLeadingZeros_0f7a4, Cond.static yJ6_numberOfLeadingZeros_0f7a4]
def wsL_law_r14 : List Cond := [Cond.initialized RJ6, Cond.code yJ6_numberOfLeadingZeros_0f7a4 cJ6_numberOfLeadingZeros_0f7a4 2 (some .int), Cond.constant RJ6 264 (65536), Cond.methodLink RX0 83 yX0_leave, Cond.instanceMethod yX0_leave, Cond.selects RX0 yX0_leave yX0_leave, Cond.code yX0_leave cX0_leave 6 none, Cond.methodLink RX0 69 Lib.Math.max.name, Cond.methodLink RX0 75 Lib.Math.min.name, Cond.methodLink RX0 86 yX0_firstSum, Cond.instanceMethod yX0_firstSum, Cond.selects RX0 yX0_firstSum yX0_firstSum, Cond.code yX0_firstSum cX0_firstSum 8 (some .int), Cond.methodLink RX0 90 yX4_middle, Cond.static yX4_middle, Cond.code yX4_middle cX4_middle 2 (some .int), Cond.methodLink RX0 49 yX0_cutProduct, Cond.instanceMethod yX0_cutProduct, Cond.selects RX0 yX0_cutProduct yX0_cutProduct, Cond.code yX0_cutProduct cX0_cutProduct 8 none, Cond.methodLink RX0 95 yX1_product, Cond.static yX1_product, Cond.code yX1_product cX1_product 6 (some .int), Cond.methodLink RX0 52 yX0_cutFactor]
def wsL_law_r15 : List Cond := [Cond.instanceMethod yX0_cutFactor, Cond.selects RX0 yX0_cutFactor yX0_cutFactor, Cond.code yX0_cutFactor cX0_cutFactor 14 none, Cond.methodLink RX0 98 yX0_firstProduct, Cond.instanceMethod yX0_firstProduct, Cond.selects RX0 yX0_firstProduct yX0_firstProduct, Cond.code yX0_firstProduct cX0_firstProduct 9 (some .int), Cond.methodLink RX0 55 yX0_cutMost, Cond.instanceMethod yX0_cutMost, Cond.selects RX0 yX0_cutMost yX0_cutMost, Cond.code yX0_cutMost cX0_cutMost 4 none, Cond.methodLink RX0 58 yX0_cutLess, Cond.instanceMethod yX0_cutLess, Cond.selects RX0 yX0_cutLess yX0_cutLess, Cond.code yX0_cutLess cX0_cutLess 3 none, Cond.methodLink RX0 102 yX4_rank, Cond.static yX4_rank, Cond.code yX4_rank cX4_rank 1 (some .int), Cond.methodLink RX0 106 yX4_lastOfRank, Cond.static yX4_lastOfRank, Cond.code yX4_lastOfRank cX4_lastOfRank 1 (some .int), Cond.methodLink RX0 109 yX4_firstOfRank, Cond.static yX4_firstOfRank, Cond.code yX4_firstOfRank cX4_firstOfRank 1 (some .int)]
def wsL_law_r16 : List Cond := [Cond.methodLink RX0 62 yX0_cutSame, Cond.instanceMethod yX0_cutSame, Cond.selects RX0 yX0_cutSame yX0_cutSame, Cond.code yX0_cutSame cX0_cutSame 3 none, Cond.methodLink RX0 65 yX0_cutTurned, Cond.instanceMethod yX0_cutTurned, Cond.selects RX0 yX0_cutTurned yX0_cutTurned, Cond.code yX0_cutTurned cX0_cutTurned 3 none, Cond.methodLink RX7 244 yX0_store, Cond.instanceMethod yX0_store, Cond.selects RX0 yX0_store yX0_store, Cond.code yX0_store cX0_store 4 none, Cond.methodLink RL 37 yX8_cuts, Cond.instanceMethod yX8_cuts, Cond.selects RX8 yX8_cuts yX8_cuts, Cond.code yX8_cuts cX8_cuts 1 (some .int), Cond.methodLink RX8 222 yX8_cutNow, Cond.instanceMethod yX8_cutNow, Cond.selects RX8 yX8_cutNow yX8_cutNow, Cond.code yX8_cutNow cX8_cutNow 3 (some .int), Cond.fieldLink RX8 124 "FloatBoxesModel" "empty" "Z", Cond.constant RX8 221 (-2139095049), Cond.methodLink RX8 215 yX8_laysBox, Cond.instanceMethod yX8_laysBox]
def wsL_law_r17 : List Cond := [Cond.selects RX8 yX8_laysBox yX8_laysBox, Cond.code yX8_laysBox cX8_laysBox 2 none, Cond.methodLink RX8 118 yX8_lowAt, Cond.instanceMethod yX8_lowAt, Cond.selects RX8 yX8_lowAt yX8_lowAt, Cond.code yX8_lowAt cX8_lowAt 2 (some .int), Cond.methodLink RX8 121 yX8_highAt, Cond.instanceMethod yX8_highAt, Cond.selects RX8 yX8_highAt yX8_highAt, Cond.code yX8_highAt cX8_highAt 2 (some .int), Cond.methodLink RX8 218 yX8_cutsAll, Cond.instanceMethod yX8_cutsAll, Cond.selects RX8 yX8_cutsAll yX8_cutsAll, Cond.code yX8_cutsAll cX8_cutsAll 3 (some .int), Cond.fieldLink RX8 134 "FloatBoxesModel" "cut" "Z", Cond.methodLink RX8 211 yX8_cutsBy, Cond.instanceMethod yX8_cutsBy, Cond.selects RX8 yX8_cutsBy yX8_cutsBy, Cond.code yX8_cutsBy cX8_cutsBy 5 none, Cond.methodLink RX8 192 yX8_cutsSum, Cond.instanceMethod yX8_cutsSum, Cond.selects RX8 yX8_cutsSum yX8_cutsSum, Cond.code yX8_cutsSum cX8_cutsSum 4 none, Cond.methodLink RX8 128 yX8_low]
def wsL_law_r18 : List Cond := [Cond.instanceMethod yX8_low, Cond.selects RX8 yX8_low yX8_low, Cond.code yX8_low cX8_low 2 (some .int), Cond.methodLink RX8 72 yX8_sum, Cond.static yX8_sum, Cond.code yX8_sum cX8_sum 2 (some .int), Cond.methodLink RX8 66 yX8_number, Cond.static yX8_number, Cond.code yX8_number cX8_number 1 (some .float), Cond.constant RX8 54 (-2147483648), Cond.methodLink RX8 55 ⟨"java/lang/Float", "intBitsToFloat", "(I)F"⟩, Cond.native ⟨"java/lang/Float", "intBitsToFloat", "(I)F"⟩, Cond.static ⟨"java/lang/Float", "intBitsToFloat", "(I)F"⟩, Cond.initialized "java/lang/Float", Cond.methodLink RX8 69 yX8_place, Cond.static yX8_place, Cond.code yX8_place cX8_place 2 (some .int), Cond.constant RX8 65 (2147483647), Cond.methodLink RX8 61 yJxf58ca_floatToIntBits_5c35a, Cond.static yJxf58ca_floatToIntBits_5c35a, Cond.initialized RJxf58ca, Cond.code yJxf58ca_floatToIntBits_5c35a cJxf58ca_floatToIntBits_5c35a 1 (some .int), Cond.methodLink RJxf58ca 74 ⟨"java/lang/Float", "floatToRawIntBits", "(F)I"⟩, Cond.native ⟨"java/lang/Float", "floatToRawIntBits", "(F)I"⟩]
def wsL_law_r19 : List Cond := [Cond.static ⟨"java/lang/Float", "floatToRawIntBits", "(F)I"⟩, Cond.constant RJxf58ca 77 (2143289344), Cond.methodLink RJxf58ca 59 yJxf58ca_isNaN_12338, Cond.static yJxf58ca_isNaN_12338, Cond.code yJxf58ca_isNaN_12338 cJxf58ca_isNaN_12338 1 (some .boolean), Cond.methodLink RX8 131 yX8_high, Cond.instanceMethod yX8_high, Cond.selects RX8 yX8_high yX8_high, Cond.code yX8_high cX8_high 2 (some .int), Cond.methodLink RX8 158 yX8_keeps, Cond.instanceMethod yX8_keeps, Cond.selects RX8 yX8_keeps yX8_keeps, Cond.code yX8_keeps cX8_keeps 10 none, Cond.methodLink RX8 162 yX8_keepsSummand, Cond.instanceMethod yX8_keepsSummand, Cond.selects RX8 yX8_keepsSummand yX8_keepsSummand, Cond.code yX8_keepsSummand cX8_keepsSummand 10 none, Cond.methodLink RX8 151 yX8_firstRising, Cond.static yX8_firstRising, Cond.code yX8_firstRising cX8_firstRising 13 (some .long), Cond.methodLink RX8 141 yX8_floorHalf, Cond.static yX8_floorHalf, Cond.code yX8_floorHalf cX8_floorHalf 2 (some .long), Cond.constantLong RX8 149 (2)]
def wsL_law_r20 : List Cond := [Cond.methodLink RX8 145 yX8_outer, Cond.static yX8_outer, Cond.code yX8_outer cX8_outer 7 (some .int), Cond.methodLink RX8 137 yX8_reckoned, Cond.static yX8_reckoned, Cond.code yX8_reckoned cX8_reckoned 3 (some .int), Cond.methodLink RX8 76 yX8_product, Cond.static yX8_product, Cond.code yX8_product cX8_product 2 (some .int), Cond.methodLink RX8 155 yX8_lastRising, Cond.static yX8_lastRising, Cond.code yX8_lastRising cX8_lastRising 13 (some .long), Cond.methodLink RX8 195 yX8_cutsProduct, Cond.instanceMethod yX8_cutsProduct, Cond.selects RX8 yX8_cutsProduct yX8_cutsProduct, Cond.code yX8_cutsProduct cX8_cutsProduct 8 none, Cond.constant RX8 177 (2139095040), Cond.constant RX8 178 (-2139095041), Cond.methodLink RX8 179 yX8_keepsFactor, Cond.instanceMethod yX8_keepsFactor, Cond.selects RX8 yX8_keepsFactor yX8_keepsFactor, Cond.code yX8_keepsFactor cX8_keepsFactor 13 none, Cond.constantLong RX8 166 (3000000000), Cond.constantLong RX8 168 (-3000000000)]
def wsL_law_r21 : List Cond := [Cond.methodLink RX8 170 yX8_firstFalling, Cond.static yX8_firstFalling, Cond.code yX8_firstFalling cX8_firstFalling 12 (some .long), Cond.methodLink RX8 174 yX8_lastFalling, Cond.static yX8_lastFalling, Cond.code yX8_lastFalling cX8_lastFalling 12 (some .long), Cond.methodLink RX8 198 yX8_cutsMost, Cond.instanceMethod yX8_cutsMost, Cond.selects RX8 yX8_cutsMost yX8_cutsMost, Cond.code yX8_cutsMost cX8_cutsMost 6 none, Cond.methodLink RX8 182 yX8_keepsAtMost, Cond.instanceMethod yX8_keepsAtMost, Cond.selects RX8 yX8_keepsAtMost yX8_keepsAtMost, Cond.code yX8_keepsAtMost cX8_keepsAtMost 4 none, Cond.methodLink RX8 201 yX8_cutsLess, Cond.instanceMethod yX8_cutsLess, Cond.selects RX8 yX8_cutsLess yX8_cutsLess, Cond.code yX8_cutsLess cX8_cutsLess 5 none, Cond.constantLong RX8 188 (-2), Cond.methodLink RX8 185 yX8_isZero, Cond.static yX8_isZero, Cond.code yX8_isZero cX8_isZero 1 (some .boolean), Cond.methodLink RX8 205 yX8_keepsSame, Cond.instanceMethod yX8_keepsSame]
def wsL_law_r22 : List Cond := [Cond.selects RX8 yX8_keepsSame yX8_keepsSame, Cond.code yX8_keepsSame cX8_keepsSame 5 none, Cond.constantLong RX8 190 (-1), Cond.methodLink RX8 208 yX8_keepsTurned, Cond.instanceMethod yX8_keepsTurned, Cond.selects RX8 yX8_keepsTurned yX8_keepsTurned, Cond.code yX8_keepsTurned cX8_keepsTurned 3 none, Cond.methodLink RL 38 yX7_of, Cond.instanceMethod yX7_of, Cond.selects RX7 yX7_of yX7_of, Cond.code yX7_of cX7_of 3 (some .int), Cond.methodLink RL 41 yX8_of, Cond.instanceMethod yX8_of, Cond.selects RX8 yX8_of yX8_of, Cond.code yX8_of cX8_of 3 (some .int), Cond.methodLink RL 42 yX7_holding, Cond.instanceMethod yX7_holding, Cond.selects RX7 yX7_holding yX7_holding, Cond.code yX7_holding cX7_holding 2 (some .long), Cond.methodLink RX7 104 yX4_held, Cond.static yX4_held, Cond.code yX4_held cX4_held 2 (some .long), Cond.methodLink RL 46 yX8_holding, Cond.instanceMethod yX8_holding]
def wsL_law_r23 : List Cond := [Cond.selects RX8 yX8_holding yX8_holding, Cond.code yX8_holding cX8_holding 2 (some .long), Cond.methodLink RL 47 yX7_about, Cond.instanceMethod yX7_about, Cond.selects RX7 yX7_about yX7_about, Cond.code yX7_about cX7_about 3 (some .int), Cond.fieldLink RX7 108 "FloatBoxes$Model" "kind" "[I", Cond.fieldLink RX7 111 "FloatBoxes$Model" "x" "[I", Cond.fieldLink RX7 114 "FloatBoxes$Model" "y" "[I", Cond.fieldLink RX7 117 "FloatBoxes$Model" "z" "[I", Cond.methodLink RL 50 yX8_about, Cond.instanceMethod yX8_about, Cond.selects RX8 yX8_about yX8_about, Cond.code yX8_about cX8_about 3 (some .int), Cond.constantLong RX8 225 (3), Cond.methodLink RL 51 yX7_would, Cond.instanceMethod yX7_would, Cond.selects RX7 yX7_would yX7_would, Cond.code yX7_would cX7_would 4 (some .int), Cond.fieldLink RX7 129 "FloatBoxes$Cutter" "low" "[I", Cond.fieldLink RX7 130 "FloatBoxes$Cutter" "high" "[I", Cond.methodLink RL 54 yX8_would, Cond.instanceMethod yX8_would, Cond.selects RX8 yX8_would yX8_would]
def wsL_law_r24 : List Cond := [Cond.code yX8_would cX8_would 4 (some .int), Cond.methodLink RX8 227 yX8_wouldBe, Cond.instanceMethod yX8_wouldBe, Cond.selects RX8 yX8_wouldBe yX8_wouldBe, Cond.code yX8_wouldBe cX8_wouldBe 4 (some .int), Cond.methodLink RL 55 yX7_does, Cond.instanceMethod yX7_does, Cond.selects RX7 yX7_does yX7_does, Cond.code yX7_does cX7_does 6 (some .int), Cond.methodLink RX7 131 yX4_isPlace, Cond.methodLink RX7 134 yX4_ruleHolds, Cond.static yX4_ruleHolds, Cond.code yX4_ruleHolds cX4_ruleHolds 4 (some .boolean), Cond.methodLink RX4 26 Lib.Math.max.name, Cond.methodLink RX4 17 yX1_sum, Cond.methodLink RX4 23 yX1_product, Cond.methodLink RX4 31 yX4_rank, Cond.methodLink RL 58 yX8_does, Cond.instanceMethod yX8_does, Cond.selects RX8 yX8_does yX8_does, Cond.code yX8_does cX8_does 6 (some .int), Cond.methodLink RX8 230 yX8_holds, Cond.static yX8_holds, Cond.code yX8_holds cX8_holds 4 (some .boolean)]
def wsL_law_r25 : List Cond := [Cond.methodLink RL 59 yX7_solves, Cond.instanceMethod yX7_solves, Cond.selects RX7 yX7_solves yX7_solves, Cond.code yX7_solves cX7_solves 3 (some .int), Cond.fieldLink RX7 142 "FloatBoxes$Solver" "verdict" "I", Cond.fieldLink RX7 146 "FloatBoxes$Solver" "taken" "I", Cond.fieldLink RX7 149 "FloatBoxes$Solver" "left" "I", Cond.methodLink RX7 138 yX5_solve, Cond.instanceMethod yX5_solve, Cond.selects RX5 yX5_solve yX5_solve, Cond.code yX5_solve cX5_solve 5 none, Cond.fieldLink RX5 29 "FloatBoxes$Solver" "taken" "I", Cond.fieldLink RX5 32 "FloatBoxes$Solver" "left" "I", Cond.fieldLink RX5 35 "FloatBoxes$Model" "low" "[I", Cond.fieldLink RX5 40 "FloatBoxes$Model" "high" "[I", Cond.fieldLink RX5 52 "FloatBoxes$Model" "rules" "I", Cond.constant RX5 59 (-2139095049), Cond.fieldLink RX5 60 "FloatBoxes$Model" "unknowns" "I", Cond.fieldLink RX5 71 "FloatBoxes$Cutter" "low" "[I", Cond.fieldLink RX5 76 "FloatBoxes$Solver" "verdict" "I", Cond.methodLink RX5 79 arraycopyName, Cond.methodLink RX5 43 yX0_load, Cond.methodLink RX5 49 yX5_put, Cond.instanceMethod yX5_put]
def wsL_law_r26 : List Cond := [Cond.selects RX5 yX5_put yX5_put, Cond.code yX5_put cX5_put 1 none, Cond.methodLink RX5 85 yX0_store, Cond.methodLink RX5 55 yX0_cutByRules, Cond.methodLink RX5 63 yX5_widestOf, Cond.instanceMethod yX5_widestOf, Cond.selects RX5 yX5_widestOf yX5_widestOf, Cond.code yX5_widestOf cX5_widestOf 8 (some .int), Cond.fieldLink RX5 88 "FloatBoxes$Cutter" "high" "[I", Cond.methodLink RX5 89 yX4_held, Cond.methodLink RX5 67 yX5_halve, Cond.instanceMethod yX5_halve, Cond.selects RX5 yX5_halve yX5_halve, Cond.code yX5_halve cX5_halve 4 none, Cond.methodLink RX5 95 yX4_middle, Cond.methodLink RX5 72 yX3_allRulesHold, Cond.instanceMethod yX3_allRulesHold, Cond.selects RX3 yX3_allRulesHold yX3_allRulesHold, Cond.code yX3_allRulesHold cX3_allRulesHold 3 (some .boolean), Cond.methodLink RX3 55 yX4_ruleHolds, Cond.methodLink RL 62 yX8_solves, Cond.instanceMethod yX8_solves, Cond.selects RX8 yX8_solves yX8_solves, Cond.code yX8_solves cX8_solves 3 (some .int)]
def wsL_law_r27 : List Cond := [Cond.constantLong RX8 259 (60), Cond.methodLink RX8 261 yX8_solved, Cond.instanceMethod yX8_solved, Cond.selects RX8 yX8_solved yX8_solved, Cond.code yX8_solved cX8_solved 3 (some .int), Cond.fieldLink RX8 247 "FloatBoxesModel" "found" "Z", Cond.fieldLink RX8 234 "FloatBoxesModel" "rowMany" "I", Cond.fieldLink RX8 237 "FloatBoxesModel" "taken" "I", Cond.methodLink RX8 256 yX8_solve, Cond.instanceMethod yX8_solve, Cond.selects RX8 yX8_solve yX8_solve, Cond.code yX8_solve cX8_solve 2 none, Cond.methodLink RX8 250 yX8_puts, Cond.instanceMethod yX8_puts, Cond.selects RX8 yX8_puts yX8_puts, Cond.code yX8_puts cX8_puts 5 none, Cond.methodLink RX8 253 yX8_takesBox, Cond.instanceMethod yX8_takesBox, Cond.selects RX8 yX8_takesBox yX8_takesBox, Cond.code yX8_takesBox cX8_takesBox 6 none, Cond.methodLink RX8 240 yX8_widest, Cond.instanceMethod yX8_widest, Cond.selects RX8 yX8_widest yX8_widest, Cond.code yX8_widest cX8_widest 7 (some .int)]
def wsL_law_r28 : List Cond := [Cond.methodLink RX8 243 yX8_allHold, Cond.instanceMethod yX8_allHold, Cond.selects RX8 yX8_allHold yX8_allHold, Cond.code yX8_allHold cX8_allHold 3 (some .boolean), Cond.methodLink RL 63 yX7_point, Cond.instanceMethod yX7_point, Cond.selects RX7 yX7_point yX7_point, Cond.code yX7_point cX7_point 3 (some .int), Cond.fieldLink RX7 152 "FloatBoxes$Solver" "point" "[I", Cond.constant RX7 155 (-2139095051), Cond.methodLink RL 66 yX8_point, Cond.instanceMethod yX8_point, Cond.selects RX8 yX8_point yX8_point, Cond.code yX8_point cX8_point 3 (some .int), Cond.constant RX8 264 (-2139095051), Cond.methodLink RL 67 yX7_whole, Cond.instanceMethod yX7_whole, Cond.selects RX7 yX7_whole yX7_whole, Cond.code yX7_whole cX7_whole 2 (some .int), Cond.methodLink RX7 156 yX1_ofWhole, Cond.static yX1_ofWhole, Cond.code yX1_ofWhole cX1_ofWhole 1 (some .int), Cond.methodLink RX1 7 Lib.MathLoose.abs_long.x, Cond.static Lib.MathLoose.abs_long.x]
def wsL_law_r29 : List Cond := [Cond.code Lib.MathLoose.abs_long.x Lib.MathLoose.abs_long.code 2 (some .long), Cond.methodLink RL 70 yX8_whole, Cond.instanceMethod yX8_whole, Cond.selects RX8 yX8_whole yX8_whole, Cond.code yX8_whole cX8_whole 2 (some .int), Cond.methodLink RL 73 yX7_narrow, Cond.instanceMethod yX7_narrow, Cond.selects RX7 yX7_narrow yX7_narrow, Cond.code yX7_narrow cX7_narrow 4 (some .int), Cond.methodLink RX7 161 yX1_isNotANumber, Cond.static yX1_isNotANumber, Cond.code yX1_isNotANumber cX1_isNotANumber 2 (some .boolean), Cond.methodLink RX1 19 yX1_doubleExponent, Cond.static yX1_doubleExponent, Cond.code yX1_doubleExponent cX1_doubleExponent 2 (some .int), Cond.methodLink RX1 23 yX1_doubleFraction, Cond.static yX1_doubleFraction, Cond.code yX1_doubleFraction cX1_doubleFraction 2 (some .long), Cond.constantLong RX1 56 (4503599627370495), Cond.methodLink RX7 165 yX1_ofDouble, Cond.static yX1_ofDouble, Cond.code yX1_ofDouble cX1_ofDouble 5 (some .int), Cond.constantLong RX1 26 (4503599627370496), Cond.methodLink RL 77 yX8_narrow]
def wsL_law_r30 : List Cond := [Cond.instanceMethod yX8_narrow, Cond.selects RX8 yX8_narrow yX8_narrow, Cond.code yX8_narrow cX8_narrow 6 (some .int), Cond.methodLink RX8 265 ⟨"java/lang/Double", "longBitsToDouble", "(J)D"⟩, Cond.native ⟨"java/lang/Double", "longBitsToDouble", "(J)D"⟩, Cond.static ⟨"java/lang/Double", "longBitsToDouble", "(J)D"⟩, Cond.initialized "java/lang/Double", Cond.methodLink RL 78 yX7_wide, Cond.instanceMethod yX7_wide, Cond.selects RX7 yX7_wide yX7_wide, Cond.code yX7_wide cX7_wide 2 (some .long), Cond.constantLong RX7 169 (-1), Cond.methodLink RX7 171 yX1_toDouble, Cond.static yX1_toDouble, Cond.code yX1_toDouble cX1_toDouble 9 (some .long), Cond.constantLong RX1 38 (-9223372036854775808), Cond.methodLink RL 81 yX8_wide, Cond.instanceMethod yX8_wide, Cond.selects RX8 yX8_wide yX8_wide, Cond.code yX8_wide cX8_wide 3 (some .long), Cond.methodLink RX8 271 yJxe99ae_doubleToLongBits_ccdee, Cond.static yJxe99ae_doubleToLongBits_ccdee, Cond.initialized RJxe99ae, Cond.code yJxe99ae_doubleToLongBits_ccdee cJxe99ae_doubleToLongBits_ccdee 2 (some .long)]
def wsL_law_r31 : List Cond := [Cond.methodLink RJxe99ae 134 ⟨"java/lang/Double", "doubleToRawLongBits", "(D)J"⟩, Cond.native ⟨"java/lang/Double", "doubleToRawLongBits", "(D)J"⟩, Cond.static ⟨"java/lang/Double", "doubleToRawLongBits", "(D)J"⟩, Cond.constantLong RJxe99ae 137 (9221120237041090560), Cond.methodLink RJxe99ae 122 yJxe99ae_isNaN_b9ae7, Cond.static yJxe99ae_isNaN_b9ae7, Cond.code yJxe99ae_isNaN_b9ae7 cJxe99ae_isNaN_b9ae7 2 (some .boolean), Cond.methodLink RL 82 yX7_reckons, Cond.instanceMethod yX7_reckons, Cond.selects RX7 yX7_reckons yX7_reckons, Cond.code yX7_reckons cX7_reckons 4 (some .int), Cond.methodLink RX7 175 yX1_sum, Cond.methodLink RX7 178 yX1_product, Cond.methodLink RL 85 yX8_reckons, Cond.instanceMethod yX8_reckons, Cond.selects RX8 yX8_reckons yX8_reckons, Cond.code yX8_reckons cX8_reckons 4 (some .int), Cond.methodLink RL 86 yX7_rest, Cond.instanceMethod yX7_rest, Cond.selects RX7 yX7_rest yX7_rest, Cond.code yX7_rest cX7_rest 3 (some .int), Cond.methodLink RX7 181 yX4_magnitude, Cond.methodLink RX7 184 yX1_remainder, Cond.static yX1_remainder]
def wsL_law_r32 : List Cond := [Cond.code yX1_remainder cX1_remainder 9 (some .int), Cond.methodLink RX1 51 Lib.Math.min.name, Cond.methodLink RL 89 yX8_rest, Cond.instanceMethod yX8_rest, Cond.selects RX8 yX8_rest yX8_rest, Cond.code yX8_rest cX8_rest 4 (some .int), Cond.methodLink RL 90 yX7_type, Cond.instanceMethod yX7_type, Cond.selects RX7 yX7_type yX7_type, Cond.code yX7_type cX7_type 2 (some .int), Cond.fieldLink RX7 187 "FloatBoxes$Text" "length" "I", Cond.constant RX7 190 (-2139095052), Cond.fieldLink RX7 191 "FloatBoxes$Text" "bytes" "[I", Cond.methodLink RL 93 yX8_type, Cond.instanceMethod yX8_type, Cond.selects RX8 yX8_type yX8_type, Cond.code yX8_type cX8_type 2 (some .int), Cond.constantLong RX8 275 (127), Cond.fieldLink RX8 277 "FloatBoxesModel" "textLong" "I", Cond.methodLink RL 94 yX7_clear, Cond.instanceMethod yX7_clear, Cond.selects RX7 yX7_clear yX7_clear, Cond.code yX7_clear cX7_clear 2 (some .int), Cond.methodLink RL 97 yX8_clear]
def wsL_law_r33 : List Cond := [Cond.instanceMethod yX8_clear, Cond.selects RX8 yX8_clear yX8_clear, Cond.code yX8_clear cX8_clear 2 (some .int), Cond.methodLink RL 98 yX7_reads, Cond.instanceMethod yX7_reads, Cond.selects RX7 yX7_reads yX7_reads, Cond.code yX7_reads cX7_reads 2 (some .int), Cond.fieldLink RX7 198 "FloatBoxes$Text" "at" "I", Cond.fieldLink RX7 205 "FloatBoxes$Text" "orders" "I", Cond.fieldLink RX7 208 "FloatBoxes$Text" "letter" "[I", Cond.methodLink RX7 194 yX6_parse, Cond.instanceMethod yX6_parse, Cond.selects RX6 yX6_parse yX6_parse, Cond.code yX6_parse cX6_parse 1 (some .boolean), Cond.fieldLink RX6 21 "FloatBoxes$Text" "at" "I", Cond.fieldLink RX6 25 "FloatBoxes$Text" "orders" "I", Cond.fieldLink RX6 35 "FloatBoxes$Text" "length" "I", Cond.methodLink RX6 28 yX6_skipBlanks, Cond.instanceMethod yX6_skipBlanks, Cond.selects RX6 yX6_skipBlanks yX6_skipBlanks, Cond.code yX6_skipBlanks cX6_skipBlanks 1 none, Cond.methodLink RX6 31 yX6_readOrder, Cond.instanceMethod yX6_readOrder, Cond.selects RX6 yX6_readOrder yX6_readOrder]
def wsL_law_r34 : List Cond := [Cond.code yX6_readOrder cX6_readOrder 4 (some .boolean), Cond.methodLink RX6 38 yX6_peek, Cond.instanceMethod yX6_peek, Cond.selects RX6 yX6_peek yX6_peek, Cond.code yX6_peek cX6_peek 1 (some .int), Cond.methodLink RX6 42 yX6_numbersOf, Cond.static yX6_numbersOf, Cond.code yX6_numbersOf cX6_numbersOf 1 (some .int), Cond.methodLink RX6 46 yX6_readNumber, Cond.instanceMethod yX6_readNumber, Cond.selects RX6 yX6_readNumber yX6_readNumber, Cond.code yX6_readNumber cX6_readNumber 6 (some .boolean), Cond.methodLink RX6 50 yX6_isFigure, Cond.static yX6_isFigure, Cond.code yX6_isFigure cX6_isFigure 1 (some .boolean), Cond.methodLink RX7 201 yX3_copy, Cond.methodLink RX7 211 yX7_obeys, Cond.instanceMethod yX7_obeys, Cond.selects RX7 yX7_obeys yX7_obeys, Cond.code yX7_obeys cX7_obeys 10 (some .boolean), Cond.fieldLink RX7 247 "FloatBoxes$Text" "number" "[I", Cond.methodLink RL 101 yX8_reads, Cond.instanceMethod yX8_reads, Cond.selects RX8 yX8_reads yX8_reads]
def wsL_law_r35 : List Cond := [Cond.code yX8_reads cX8_reads 3 (some .int), Cond.fieldLink RX8 280 "FloatBoxesModel" "at" "I", Cond.fieldLink RX8 293 "FloatBoxesModel" "stopped" "Z", Cond.methodLink RX8 306 yX8_readsOrder, Cond.instanceMethod yX8_readsOrder, Cond.selects RX8 yX8_readsOrder yX8_readsOrder, Cond.code yX8_readsOrder cX8_readsOrder 5 (some .boolean), Cond.methodLink RX8 287 yX8_here, Cond.instanceMethod yX8_here, Cond.selects RX8 yX8_here yX8_here, Cond.code yX8_here cX8_here 1 (some .int), Cond.methodLink RX8 296 yX8_numbersOf, Cond.static yX8_numbersOf, Cond.code yX8_numbersOf cX8_numbersOf 1 (some .int), Cond.methodLink RX8 299 yX8_takes, Cond.instanceMethod yX8_takes, Cond.selects RX8 yX8_takes yX8_takes, Cond.code yX8_takes cX8_takes 7 (some .boolean), Cond.methodLink RX8 290 yX8_isFigure, Cond.instanceMethod yX8_isFigure, Cond.selects RX8 yX8_isFigure yX8_isFigure, Cond.code yX8_isFigure cX8_isFigure 1 (some .boolean), Cond.constantLong RX8 283 (48), Cond.constantLong RX8 285 (57)]
def wsL_law_r36 : List Cond := [Cond.methodLink RX8 303 yX8_does_, Cond.instanceMethod yX8_does_, Cond.selects RX8 yX8_does_ yX8_does_, Cond.code yX8_does_ cX8_does_ 5 none, Cond.methodLink RX8 310 yX8_swaps, Cond.instanceMethod yX8_swaps, Cond.selects RX8 yX8_swaps yX8_swaps, Cond.code yX8_swaps cX8_swaps 3 none, Cond.methodLink RL 102 yX7_back, Cond.instanceMethod yX7_back, Cond.selects RX7 yX7_back yX7_back, Cond.code yX7_back cX7_back 1 (some .int), Cond.fieldLink RX7 215 "FloatBoxes$History" "count" "I", Cond.methodLink RX7 218 yX2_giveBack, Cond.instanceMethod yX2_giveBack, Cond.selects RX2 yX2_giveBack yX2_giveBack, Cond.code yX2_giveBack cX2_giveBack 2 none, Cond.methodLink RL 105 yX8_back, Cond.instanceMethod yX8_back, Cond.selects RX8 yX8_back yX8_back, Cond.code yX8_back cX8_back 2 (some .int), Cond.methodLink RL 106 yX7_told, Cond.instanceMethod yX7_told, Cond.selects RX7 yX7_told yX7_told]
def wsL_law_r37 : List Cond := [Cond.code yX7_told cX7_told 2 (some .int), Cond.methodLink RX7 224 yX7_tally, Cond.instanceMethod yX7_tally, Cond.selects RX7 yX7_tally yX7_tally, Cond.code yX7_tally cX7_tally 2 (some .int), Cond.fieldLink RX7 231 "FloatBoxes$Model" "unknowns" "I", Cond.methodLink RL 109 yX8_told, Cond.instanceMethod yX8_told, Cond.selects RX8 yX8_told yX8_told, Cond.code yX8_told cX8_told 2 (some .int), Cond.constantLong RX8 313 (6), Cond.methodLink RX8 315 yX8_toldOf, Cond.instanceMethod yX8_toldOf, Cond.selects RX8 yX8_toldOf yX8_toldOf, Cond.code yX8_toldOf cX8_toldOf 2 (some .int), Cond.methodLink RL 110 yX7_digest, Cond.instanceMethod yX7_digest, Cond.selects RX7 yX7_digest yX7_digest, Cond.code yX7_digest cX7_digest 4 (some .long), Cond.constantLong RX7 227 (2377), Cond.constantLong RX7 229 (31), Cond.methodLink RX7 237 yX3_allRulesHold, Cond.methodLink RL 114 yX8_digest, Cond.instanceMethod yX8_digest]
def wsL_law_r38 : List Cond := [Cond.selects RX8 yX8_digest yX8_digest, Cond.code yX8_digest cX8_digest 4 (some .long), Cond.constantLong RX8 318 (2377), Cond.constantLong RX8 320 (31)]
def wsL_law : List Cond := (wsL_law_r1 ++ (wsL_law_r2 ++ (wsL_law_r3 ++ (wsL_law_r4 ++ (wsL_law_r5 ++ (wsL_law_r6 ++ (wsL_law_r7 ++ (wsL_law_r8 ++ (wsL_law_r9 ++ (wsL_law_r10 ++ (wsL_law_r11 ++ (wsL_law_r12 ++ (wsL_law_r13 ++ (wsL_law_r14 ++ (wsL_law_r15 ++ (wsL_law_r16 ++ (wsL_law_r17 ++ (wsL_law_r18 ++ (wsL_law_r19 ++ (wsL_law_r20 ++ (wsL_law_r21 ++ (wsL_law_r22 ++ (wsL_law_r23 ++ (wsL_law_r24 ++ (wsL_law_r25 ++ (wsL_law_r26 ++ (wsL_law_r27 ++ (wsL_law_r28 ++ (wsL_law_r29 ++ (wsL_law_r30 ++ (wsL_law_r31 ++ (wsL_law_r32 ++ (wsL_law_r33 ++ (wsL_law_r34 ++ (wsL_law_r35 ++ (wsL_law_r36 ++ (wsL_law_r37 ++ wsL_law_r38))))))))))))))))))))))))))))))))))))) ++ wsX70 ++ wsX80 ++ wsX30 ++ wsX20 ++ wsX00 ++ wsX50 ++ wsX60 ++ ([] : List Cond)
set_option maxRecDepth 20000 in
theorem wL_in1 : ∀ w ∈ wsL_law_r1, w ∈ lw_tbl := sorry
set_option maxRecDepth 20000 in
theorem wL_in2 : ∀ w ∈ wsL_law_r2, w ∈ lw_tbl := sorry
set_option maxRecDepth 20000 in
theorem wL_in3 : ∀ w ∈ wsL_law_r3, w ∈ lw_tbl := sorry
set_option maxRecDepth 20000 in
theorem wL_in4 : ∀ w ∈ wsL_law_r4, w ∈ lw_tbl := sorry
set_option maxRecDepth 20000 in
theorem wL_in5 : ∀ w ∈ wsL_law_r5, w ∈ lw_tbl := sorry
set_option maxRecDepth 20000 in
theorem wL_in6 : ∀ w ∈ wsL_law_r6, w ∈ lw_tbl := sorry
set_option maxRecDepth 20000 in
theorem wL_in7 : ∀ w ∈ wsL_law_r7, w ∈ lw_tbl := sorry
set_option maxRecDepth 20000 in
theorem wL_in8 : ∀ w ∈ wsL_law_r8, w ∈ lw_tbl := sorry
set_option maxRecDepth 20000 in
theorem wL_in9 : ∀ w ∈ wsL_law_r9, w ∈ lw_tbl := sorry
set_option maxRecDepth 20000 in
theorem wL_in10 : ∀ w ∈ wsL_law_r10, w ∈ lw_tbl := sorry
set_option maxRecDepth 20000 in
theorem wL_in11 : ∀ w ∈ wsL_law_r11, w ∈ lw_tbl := sorry
set_option maxRecDepth 20000 in
theorem wL_in12 : ∀ w ∈ wsL_law_r12, w ∈ lw_tbl := sorry
set_option maxRecDepth 20000 in
theorem wL_in13 : ∀ w ∈ wsL_law_r13, w ∈ lw_tbl := sorry
set_option maxRecDepth 20000 in
theorem wL_in14 : ∀ w ∈ wsL_law_r14, w ∈ lw_tbl := sorry
set_option maxRecDepth 20000 in
theorem wL_in15 : ∀ w ∈ wsL_law_r15, w ∈ lw_tbl := sorry
set_option maxRecDepth 20000 in
theorem wL_in16 : ∀ w ∈ wsL_law_r16, w ∈ lw_tbl := sorry
set_option maxRecDepth 20000 in
theorem wL_in17 : ∀ w ∈ wsL_law_r17, w ∈ lw_tbl := sorry
set_option maxRecDepth 20000 in
theorem wL_in18 : ∀ w ∈ wsL_law_r18, w ∈ lw_tbl := sorry
set_option maxRecDepth 20000 in
theorem wL_in19 : ∀ w ∈ wsL_law_r19, w ∈ lw_tbl := sorry
set_option maxRecDepth 20000 in
theorem wL_in20 : ∀ w ∈ wsL_law_r20, w ∈ lw_tbl := sorry
set_option maxRecDepth 20000 in
theorem wL_in21 : ∀ w ∈ wsL_law_r21, w ∈ lw_tbl := sorry
set_option maxRecDepth 20000 in
theorem wL_in22 : ∀ w ∈ wsL_law_r22, w ∈ lw_tbl := sorry
set_option maxRecDepth 20000 in
theorem wL_in23 : ∀ w ∈ wsL_law_r23, w ∈ lw_tbl := sorry
set_option maxRecDepth 20000 in
theorem wL_in24 : ∀ w ∈ wsL_law_r24, w ∈ lw_tbl := sorry
set_option maxRecDepth 20000 in
theorem wL_in25 : ∀ w ∈ wsL_law_r25, w ∈ lw_tbl := sorry
set_option maxRecDepth 20000 in
theorem wL_in26 : ∀ w ∈ wsL_law_r26, w ∈ lw_tbl := sorry
set_option maxRecDepth 20000 in
theorem wL_in27 : ∀ w ∈ wsL_law_r27, w ∈ lw_tbl := sorry
set_option maxRecDepth 20000 in
theorem wL_in28 : ∀ w ∈ wsL_law_r28, w ∈ lw_tbl := sorry
set_option maxRecDepth 20000 in
theorem wL_in29 : ∀ w ∈ wsL_law_r29, w ∈ lw_tbl := sorry
set_option maxRecDepth 20000 in
theorem wL_in30 : ∀ w ∈ wsL_law_r30, w ∈ lw_tbl := sorry
set_option maxRecDepth 20000 in
theorem wL_in31 : ∀ w ∈ wsL_law_r31, w ∈ lw_tbl := sorry
set_option maxRecDepth 20000 in
theorem wL_in32 : ∀ w ∈ wsL_law_r32, w ∈ lw_tbl := sorry
set_option maxRecDepth 20000 in
theorem wL_in33 : ∀ w ∈ wsL_law_r33, w ∈ lw_tbl := sorry
set_option maxRecDepth 20000 in
theorem wL_in34 : ∀ w ∈ wsL_law_r34, w ∈ lw_tbl := sorry
set_option maxRecDepth 20000 in
theorem wL_in35 : ∀ w ∈ wsL_law_r35, w ∈ lw_tbl := sorry
set_option maxRecDepth 20000 in
theorem wL_in36 : ∀ w ∈ wsL_law_r36, w ∈ lw_tbl := sorry
set_option maxRecDepth 20000 in
theorem wL_in37 : ∀ w ∈ wsL_law_r37, w ∈ lw_tbl := sorry
set_option maxRecDepth 20000 in
theorem wL_in38 : ∀ w ∈ wsL_law_r38, w ∈ lw_tbl := sorry
set_option maxRecDepth 20000 in
theorem wL_in_wsX70 : ∀ w ∈ wsX70, w ∈ lw_tbl := sorry
set_option maxRecDepth 20000 in
theorem wL_in_wsX80 : ∀ w ∈ wsX80, w ∈ lw_tbl := sorry
set_option maxRecDepth 20000 in
theorem wL_in_wsX30 : ∀ w ∈ wsX30, w ∈ lw_tbl := sorry
set_option maxRecDepth 20000 in
theorem wL_in_wsX20 : ∀ w ∈ wsX20, w ∈ lw_tbl := sorry
set_option maxRecDepth 20000 in
theorem wL_in_wsX00 : ∀ w ∈ wsX00, w ∈ lw_tbl := sorry
set_option maxRecDepth 20000 in
theorem wL_in_wsX50 : ∀ w ∈ wsX50, w ∈ lw_tbl := sorry
set_option maxRecDepth 20000 in
theorem wL_in_wsX60 : ∀ w ∈ wsX60, w ∈ lw_tbl := sorry
theorem wsL_law_in : ∀ w ∈ wsL_law, w ∈ lw_tbl := fun w => (fun h => (List.mem_append.mp h).elim ((fun h => (List.mem_append.mp h).elim ((fun h => (List.mem_append.mp h).elim ((fun h => (List.mem_append.mp h).elim ((fun h => (List.mem_append.mp h).elim ((fun h => (List.mem_append.mp h).elim ((fun h => (List.mem_append.mp h).elim ((fun h => (List.mem_append.mp h).elim ((fun h => (List.mem_append.mp h).elim (wL_in1 w) ((fun h => (List.mem_append.mp h).elim (wL_in2 w) ((fun h => (List.mem_append.mp h).elim (wL_in3 w) ((fun h => (List.mem_append.mp h).elim (wL_in4 w) ((fun h => (List.mem_append.mp h).elim (wL_in5 w) ((fun h => (List.mem_append.mp h).elim (wL_in6 w) ((fun h => (List.mem_append.mp h).elim (wL_in7 w) ((fun h => (List.mem_append.mp h).elim (wL_in8 w) ((fun h => (List.mem_append.mp h).elim (wL_in9 w) ((fun h => (List.mem_append.mp h).elim (wL_in10 w) ((fun h => (List.mem_append.mp h).elim (wL_in11 w) ((fun h => (List.mem_append.mp h).elim (wL_in12 w) ((fun h => (List.mem_append.mp h).elim (wL_in13 w) ((fun h => (List.mem_append.mp h).elim (wL_in14 w) ((fun h => (List.mem_append.mp h).elim (wL_in15 w) ((fun h => (List.mem_append.mp h).elim (wL_in16 w) ((fun h => (List.mem_append.mp h).elim (wL_in17 w) ((fun h => (List.mem_append.mp h).elim (wL_in18 w) ((fun h => (List.mem_append.mp h).elim (wL_in19 w) ((fun h => (List.mem_append.mp h).elim (wL_in20 w) ((fun h => (List.mem_append.mp h).elim (wL_in21 w) ((fun h => (List.mem_append.mp h).elim (wL_in22 w) ((fun h => (List.mem_append.mp h).elim (wL_in23 w) ((fun h => (List.mem_append.mp h).elim (wL_in24 w) ((fun h => (List.mem_append.mp h).elim (wL_in25 w) ((fun h => (List.mem_append.mp h).elim (wL_in26 w) ((fun h => (List.mem_append.mp h).elim (wL_in27 w) ((fun h => (List.mem_append.mp h).elim (wL_in28 w) ((fun h => (List.mem_append.mp h).elim (wL_in29 w) ((fun h => (List.mem_append.mp h).elim (wL_in30 w) ((fun h => (List.mem_append.mp h).elim (wL_in31 w) ((fun h => (List.mem_append.mp h).elim (wL_in32 w) ((fun h => (List.mem_append.mp h).elim (wL_in33 w) ((fun h => (List.mem_append.mp h).elim (wL_in34 w) ((fun h => (List.mem_append.mp h).elim (wL_in35 w) ((fun h => (List.mem_append.mp h).elim (wL_in36 w) ((fun h => (List.mem_append.mp h).elim (wL_in37 w) (wL_in38 w))))))))))))))))))))))))))))))))))))))))))))))))))))))))))))))))))))))))))) (wL_in_wsX70 w))) (wL_in_wsX80 w))) (wL_in_wsX30 w))) (wL_in_wsX20 w))) (wL_in_wsX00 w))) (wL_in_wsX50 w))) (wL_in_wsX60 w))) (fun h => absurd h List.not_mem_nil))
theorem inlX0 : ∀ w ∈ wsX00, w ∈ wsL_law := fun _ h => List.mem_append_left _ (List.mem_append_left _ (List.mem_append_left _ (List.mem_append_right _ h)))
theorem inX0 : ∀ w ∈ wsX00, w ∈ lw_tbl := fun w h => wsL_law_in w (inlX0 w h)
theorem inX1 : ∀ w ∈ wsX10, w ∈ lw_tbl := by decide +kernel
theorem inlX2 : ∀ w ∈ wsX20, w ∈ wsL_law := fun _ h => List.mem_append_left _ (List.mem_append_left _ (List.mem_append_left _ (List.mem_append_left _ (List.mem_append_right _ h))))
theorem inX2 : ∀ w ∈ wsX20, w ∈ lw_tbl := fun w h => wsL_law_in w (inlX2 w h)
theorem inlX3 : ∀ w ∈ wsX30, w ∈ wsL_law := fun _ h => List.mem_append_left _ (List.mem_append_left _ (List.mem_append_left _ (List.mem_append_left _ (List.mem_append_left _ (List.mem_append_right _ h)))))
theorem inX3 : ∀ w ∈ wsX30, w ∈ lw_tbl := fun w h => wsL_law_in w (inlX3 w h)
theorem inX4 : ∀ w ∈ wsX40, w ∈ lw_tbl := by decide +kernel
theorem inlX5 : ∀ w ∈ wsX50, w ∈ wsL_law := fun _ h => List.mem_append_left _ (List.mem_append_left _ (List.mem_append_right _ h))
theorem inX5 : ∀ w ∈ wsX50, w ∈ lw_tbl := fun w h => wsL_law_in w (inlX5 w h)
theorem inlX6 : ∀ w ∈ wsX60, w ∈ wsL_law := fun _ h => List.mem_append_left _ (List.mem_append_right _ h)
theorem inX6 : ∀ w ∈ wsX60, w ∈ lw_tbl := fun w h => wsL_law_in w (inlX6 w h)
theorem inlX7 : ∀ w ∈ wsX70, w ∈ wsL_law := fun _ h => List.mem_append_left _ (List.mem_append_left _ (List.mem_append_left _ (List.mem_append_left _ (List.mem_append_left _ (List.mem_append_left _ (List.mem_append_left _ (List.mem_append_right _ h)))))))
theorem inX7 : ∀ w ∈ wsX70, w ∈ lw_tbl := fun w h => wsL_law_in w (inlX7 w h)
theorem inlX8 : ∀ w ∈ wsX80, w ∈ wsL_law := fun _ h => List.mem_append_left _ (List.mem_append_left _ (List.mem_append_left _ (List.mem_append_left _ (List.mem_append_left _ (List.mem_append_left _ (List.mem_append_right _ h))))))
theorem inX8 : ∀ w ∈ wsX80, w ∈ lw_tbl := fun w h => wsL_law_in w (inlX8 w h)
theorem inJxe99ae : ∀ w ∈ wsJxe99ae0, w ∈ lw_tbl := by decide +kernel
theorem inJxf58ca : ∀ w ∈ wsJxf58ca0, w ∈ lw_tbl := by decide +kernel
theorem inJ6 : ∀ w ∈ wsJ60, w ∈ lw_tbl := by decide +kernel
theorem inJ13 : ∀ w ∈ wsJ130, w ∈ lw_tbl := by decide +kernel
theorem inJ9 : ∀ w ∈ wsJ90, w ∈ lw_tbl := by decide +kernel
theorem inJ10 : ∀ w ∈ wsJ100, w ∈ lw_tbl := by decide +kernel
set_option maxRecDepth 20000 in
theorem ggL_law_X7_init : GoodIn wsL_law wsX7_init := sorry
set_option maxRecDepth 20000 in
theorem gL_law_X7_init : GoodIn wsL_law (wsX7_init) := sorry
set_option maxRecDepth 20000 in
theorem ggL_law_X8_init : GoodIn wsL_law wsX8_init := sorry
set_option maxRecDepth 20000 in
theorem gL_law_X8_init : GoodIn wsL_law (wsX8_init) := sorry
set_option maxRecDepth 20000 in
theorem ggL_law_X7_unknown : GoodIn wsL_law wsX7_unknown := sorry
set_option maxRecDepth 20000 in
theorem gL_law_X7_unknown : GoodIn wsL_law (wsV RL 13 RX7 yX7_unknown wsX7_unknown) := sorry
set_option maxRecDepth 20000 in
theorem ggL_law_X8_unknown : GoodIn wsL_law wsX8_unknown := sorry
set_option maxRecDepth 20000 in
theorem gL_law_X8_unknown : GoodIn wsL_law (wsV RL 17 RX8 yX8_unknown wsX8_unknown) := sorry
set_option maxRecDepth 20000 in
theorem ggL_law_X7_range : GoodIn wsL_law wsX7_range := sorry
set_option maxRecDepth 20000 in
theorem gL_law_X7_range : GoodIn wsL_law (wsV RL 18 RX7 yX7_range wsX7_range) := sorry
set_option maxRecDepth 20000 in
theorem ggL_law_X8_range : GoodIn wsL_law wsX8_range := sorry
set_option maxRecDepth 20000 in
theorem gL_law_X8_range : GoodIn wsL_law (wsV RL 22 RX8 yX8_range wsX8_range) := sorry
set_option maxRecDepth 20000 in
theorem ggL_law_X7_rule : GoodIn wsL_law wsX7_rule := sorry
set_option maxRecDepth 20000 in
theorem gL_law_X7_rule : GoodIn wsL_law (wsV RL 23 RX7 yX7_rule wsX7_rule) := sorry
set_option maxRecDepth 20000 in
theorem ggL_law_X8_rule : GoodIn wsL_law wsX8_rule := sorry
set_option maxRecDepth 20000 in
theorem gL_law_X8_rule : GoodIn wsL_law (wsV RL 27 RX8 yX8_rule wsX8_rule) := sorry
set_option maxRecDepth 20000 in
theorem ggL_law_X7_drops : GoodIn wsL_law wsX7_drops := sorry
set_option maxRecDepth 20000 in
theorem gL_law_X7_drops : GoodIn wsL_law (wsV RL 28 RX7 yX7_drops wsX7_drops) := sorry
set_option maxRecDepth 20000 in
theorem ggL_law_X8_drops : GoodIn wsL_law wsX8_drops := sorry
set_option maxRecDepth 20000 in
theorem gL_law_X8_drops : GoodIn wsL_law (wsV RL 32 RX8 yX8_drops wsX8_drops) := sorry
set_option maxRecDepth 20000 in
theorem ggL_law_X7_cuts : GoodIn wsL_law wsX7_cuts := sorry
set_option maxRecDepth 20000 in
theorem gL_law_X7_cuts : GoodIn wsL_law (wsV RL 33 RX7 yX7_cuts wsX7_cuts) := sorry
set_option maxRecDepth 20000 in
theorem ggL_law_X8_cuts : GoodIn wsL_law wsX8_cuts := sorry
set_option maxRecDepth 20000 in
theorem gL_law_X8_cuts : GoodIn wsL_law (wsV RL 37 RX8 yX8_cuts wsX8_cuts) := sorry
set_option maxRecDepth 20000 in
theorem ggL_law_X7_of : GoodIn wsL_law wsX7_of := sorry
set_option maxRecDepth 20000 in
theorem gL_law_X7_of : GoodIn wsL_law (wsV RL 38 RX7 yX7_of wsX7_of) := sorry
set_option maxRecDepth 20000 in
theorem ggL_law_X8_of : GoodIn wsL_law wsX8_of := sorry
set_option maxRecDepth 20000 in
theorem gL_law_X8_of : GoodIn wsL_law (wsV RL 41 RX8 yX8_of wsX8_of) := sorry
set_option maxRecDepth 20000 in
theorem ggL_law_X7_holding : GoodIn wsL_law wsX7_holding := sorry
set_option maxRecDepth 20000 in
theorem gL_law_X7_holding : GoodIn wsL_law (wsV RL 42 RX7 yX7_holding wsX7_holding) := sorry
set_option maxRecDepth 20000 in
theorem ggL_law_X8_holding : GoodIn wsL_law wsX8_holding := sorry
set_option maxRecDepth 20000 in
theorem gL_law_X8_holding : GoodIn wsL_law (wsV RL 46 RX8 yX8_holding wsX8_holding) := sorry
set_option maxRecDepth 20000 in
theorem ggL_law_X7_about : GoodIn wsL_law wsX7_about := sorry
set_option maxRecDepth 20000 in
theorem gL_law_X7_about : GoodIn wsL_law (wsV RL 47 RX7 yX7_about wsX7_about) := sorry
set_option maxRecDepth 20000 in
theorem ggL_law_X8_about : GoodIn wsL_law wsX8_about := sorry
set_option maxRecDepth 20000 in
theorem gL_law_X8_about : GoodIn wsL_law (wsV RL 50 RX8 yX8_about wsX8_about) := sorry
set_option maxRecDepth 20000 in
theorem ggL_law_X7_would : GoodIn wsL_law wsX7_would := sorry
set_option maxRecDepth 20000 in
theorem gL_law_X7_would : GoodIn wsL_law (wsV RL 51 RX7 yX7_would wsX7_would) := sorry
set_option maxRecDepth 20000 in
theorem ggL_law_X8_would : GoodIn wsL_law wsX8_would := sorry
set_option maxRecDepth 20000 in
theorem gL_law_X8_would : GoodIn wsL_law (wsV RL 54 RX8 yX8_would wsX8_would) := sorry
set_option maxRecDepth 20000 in
theorem ggL_law_X7_does : GoodIn wsL_law wsX7_does := sorry
set_option maxRecDepth 20000 in
theorem gL_law_X7_does : GoodIn wsL_law (wsV RL 55 RX7 yX7_does wsX7_does) := sorry
set_option maxRecDepth 20000 in
theorem ggL_law_X8_does : GoodIn wsL_law wsX8_does := sorry
set_option maxRecDepth 20000 in
theorem gL_law_X8_does : GoodIn wsL_law (wsV RL 58 RX8 yX8_does wsX8_does) := sorry
set_option maxRecDepth 20000 in
theorem ggL_law_X7_solves : GoodIn wsL_law wsX7_solves := sorry
set_option maxRecDepth 20000 in
theorem gL_law_X7_solves : GoodIn wsL_law (wsV RL 59 RX7 yX7_solves wsX7_solves) := sorry
set_option maxRecDepth 20000 in
theorem ggL_law_X8_solves : GoodIn wsL_law wsX8_solves := sorry
set_option maxRecDepth 20000 in
theorem gL_law_X8_solves : GoodIn wsL_law (wsV RL 62 RX8 yX8_solves wsX8_solves) := sorry
set_option maxRecDepth 20000 in
theorem ggL_law_X7_point : GoodIn wsL_law wsX7_point := sorry
set_option maxRecDepth 20000 in
theorem gL_law_X7_point : GoodIn wsL_law (wsV RL 63 RX7 yX7_point wsX7_point) := sorry
set_option maxRecDepth 20000 in
theorem ggL_law_X8_point : GoodIn wsL_law wsX8_point := sorry
set_option maxRecDepth 20000 in
theorem gL_law_X8_point : GoodIn wsL_law (wsV RL 66 RX8 yX8_point wsX8_point) := sorry
set_option maxRecDepth 20000 in
theorem ggL_law_X7_whole : GoodIn wsL_law wsX7_whole := sorry
set_option maxRecDepth 20000 in
theorem gL_law_X7_whole : GoodIn wsL_law (wsV RL 67 RX7 yX7_whole wsX7_whole) := sorry
set_option maxRecDepth 20000 in
theorem ggL_law_X8_whole : GoodIn wsL_law wsX8_whole := sorry
set_option maxRecDepth 20000 in
theorem gL_law_X8_whole : GoodIn wsL_law (wsV RL 70 RX8 yX8_whole wsX8_whole) := sorry
set_option maxRecDepth 20000 in
theorem ggL_law_X7_narrow : GoodIn wsL_law wsX7_narrow := sorry
set_option maxRecDepth 20000 in
theorem gL_law_X7_narrow : GoodIn wsL_law (wsV RL 73 RX7 yX7_narrow wsX7_narrow) := sorry
set_option maxRecDepth 20000 in
theorem ggL_law_X8_narrow : GoodIn wsL_law wsX8_narrow := sorry
set_option maxRecDepth 20000 in
theorem gL_law_X8_narrow : GoodIn wsL_law (wsV RL 77 RX8 yX8_narrow wsX8_narrow) := sorry
set_option maxRecDepth 20000 in
theorem ggL_law_X7_wide : GoodIn wsL_law wsX7_wide := sorry
set_option maxRecDepth 20000 in
theorem gL_law_X7_wide : GoodIn wsL_law (wsV RL 78 RX7 yX7_wide wsX7_wide) := sorry
set_option maxRecDepth 20000 in
theorem ggL_law_X8_wide : GoodIn wsL_law wsX8_wide := sorry
set_option maxRecDepth 20000 in
theorem gL_law_X8_wide : GoodIn wsL_law (wsV RL 81 RX8 yX8_wide wsX8_wide) := sorry
set_option maxRecDepth 20000 in
theorem ggL_law_X7_reckons : GoodIn wsL_law wsX7_reckons := sorry
set_option maxRecDepth 20000 in
theorem gL_law_X7_reckons : GoodIn wsL_law (wsV RL 82 RX7 yX7_reckons wsX7_reckons) := sorry
set_option maxRecDepth 20000 in
theorem ggL_law_X8_reckons : GoodIn wsL_law wsX8_reckons := sorry
set_option maxRecDepth 20000 in
theorem gL_law_X8_reckons : GoodIn wsL_law (wsV RL 85 RX8 yX8_reckons wsX8_reckons) := sorry
set_option maxRecDepth 20000 in
theorem ggL_law_X7_rest : GoodIn wsL_law wsX7_rest := sorry
set_option maxRecDepth 20000 in
theorem gL_law_X7_rest : GoodIn wsL_law (wsV RL 86 RX7 yX7_rest wsX7_rest) := sorry
set_option maxRecDepth 20000 in
theorem ggL_law_X8_rest : GoodIn wsL_law wsX8_rest := sorry
set_option maxRecDepth 20000 in
theorem gL_law_X8_rest : GoodIn wsL_law (wsV RL 89 RX8 yX8_rest wsX8_rest) := sorry
set_option maxRecDepth 20000 in
theorem ggL_law_X7_type : GoodIn wsL_law wsX7_type := sorry
set_option maxRecDepth 20000 in
theorem gL_law_X7_type : GoodIn wsL_law (wsV RL 90 RX7 yX7_type wsX7_type) := sorry
set_option maxRecDepth 20000 in
theorem ggL_law_X8_type : GoodIn wsL_law wsX8_type := sorry
set_option maxRecDepth 20000 in
theorem gL_law_X8_type : GoodIn wsL_law (wsV RL 93 RX8 yX8_type wsX8_type) := sorry
set_option maxRecDepth 20000 in
theorem ggL_law_X7_clear : GoodIn wsL_law wsX7_clear := sorry
set_option maxRecDepth 20000 in
theorem gL_law_X7_clear : GoodIn wsL_law (wsV RL 94 RX7 yX7_clear wsX7_clear) := sorry
set_option maxRecDepth 20000 in
theorem ggL_law_X8_clear : GoodIn wsL_law wsX8_clear := sorry
set_option maxRecDepth 20000 in
theorem gL_law_X8_clear : GoodIn wsL_law (wsV RL 97 RX8 yX8_clear wsX8_clear) := sorry
set_option maxRecDepth 20000 in
theorem ggL_law_X7_reads : GoodIn wsL_law wsX7_reads := sorry
set_option maxRecDepth 20000 in
theorem gL_law_X7_reads : GoodIn wsL_law (wsV RL 98 RX7 yX7_reads wsX7_reads) := sorry
set_option maxRecDepth 20000 in
theorem ggL_law_X8_reads : GoodIn wsL_law wsX8_reads := sorry
set_option maxRecDepth 20000 in
theorem gL_law_X8_reads : GoodIn wsL_law (wsV RL 101 RX8 yX8_reads wsX8_reads) := sorry
set_option maxRecDepth 20000 in
theorem ggL_law_X7_back : GoodIn wsL_law wsX7_back := sorry
set_option maxRecDepth 20000 in
theorem gL_law_X7_back : GoodIn wsL_law (wsV RL 102 RX7 yX7_back wsX7_back) := sorry
set_option maxRecDepth 20000 in
theorem ggL_law_X8_back : GoodIn wsL_law wsX8_back := sorry
set_option maxRecDepth 20000 in
theorem gL_law_X8_back : GoodIn wsL_law (wsV RL 105 RX8 yX8_back wsX8_back) := sorry
set_option maxRecDepth 20000 in
theorem ggL_law_X7_told : GoodIn wsL_law wsX7_told := sorry
set_option maxRecDepth 20000 in
theorem gL_law_X7_told : GoodIn wsL_law (wsV RL 106 RX7 yX7_told wsX7_told) := sorry
set_option maxRecDepth 20000 in
theorem ggL_law_X8_told : GoodIn wsL_law wsX8_told := sorry
set_option maxRecDepth 20000 in
theorem gL_law_X8_told : GoodIn wsL_law (wsV RL 109 RX8 yX8_told wsX8_told) := sorry
set_option maxRecDepth 20000 in
theorem ggL_law_X7_digest : GoodIn wsL_law wsX7_digest := sorry
set_option maxRecDepth 20000 in
theorem gL_law_X7_digest : GoodIn wsL_law (wsV RL 110 RX7 yX7_digest wsX7_digest) := sorry
set_option maxRecDepth 20000 in
theorem ggL_law_X8_digest : GoodIn wsL_law wsX8_digest := sorry
set_option maxRecDepth 20000 in
theorem gL_law_X8_digest : GoodIn wsL_law (wsV RL 114 RX8 yX8_digest wsX8_digest) := sorry
theorem dL_law_0 : decode cL_law 0 = .ok (.new 7, 3) := by decide +kernel
theorem dL_law_3 : decode cL_law 3 = .ok (.dup, 1) := by decide +kernel
theorem dL_law_4 : decode cL_law 4 = .ok (.invokespecial 9, 3) := by decide +kernel
theorem dL_law_7 : decode cL_law 7 = .ok (.astore_n 1, 1) := by decide +kernel

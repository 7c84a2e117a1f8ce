set_option maxRecDepth 100000 in
theorem lk_0_X7_begin : lk 0 25 M_X7_begin = true := by decide +kernel
set_option maxRecDepth 100000 in
theorem lk_0_X0_climb : lk 0 31 M_X0_climb = true := by decide +kernel
set_option maxRecDepth 100000 in
theorem lk_0_X7_latest : lk 0 35 M_X7_latest = true := by decide +kernel
set_option maxRecDepth 100000 in
theorem lm_0_min : inB (.methodLink (RN 0) 39 Lib.Math.min.name) = true := by decide +kernel
set_option maxRecDepth 100000 in
theorem lk_0_X0_priceOf : lk 0 45 M_X0_priceOf = true := by decide +kernel
set_option maxRecDepth 100000 in
theorem lk_0_X7_comes : lk 0 49 M_X7_comes = true := by decide +kernel
set_option maxRecDepth 100000 in
theorem lk_0_X0_inReach : lk 0 53 M_X0_inReach = true := by decide +kernel
set_option maxRecDepth 100000 in
theorem lk_0_X7_put : lk 0 56 M_X7_put = true := by decide +kernel
set_option maxRecDepth 100000 in
theorem lk_0_X7_takeBack : lk 0 59 M_X7_takeBack = true := by decide +kernel
set_option maxRecDepth 100000 in
theorem lk_0_X7_stands : lk 0 62 M_X7_stands = true := by decide +kernel
set_option maxRecDepth 100000 in
theorem lk_0_X7_waysTo : lk 0 65 M_X7_waysTo = true := by decide +kernel
set_option maxRecDepth 100000 in
theorem lm_0_max : inB (.methodLink (RN 0) 68 Lib.Math.max.name) = true := by decide +kernel
set_option maxRecDepth 100000 in
theorem lk_1_X1_append : lk 1 37 M_X1_append = true := by decide +kernel
set_option maxRecDepth 100000 in
theorem lk_1_X1_numberAt : lk 1 41 M_X1_numberAt = true := by decide +kernel
set_option maxRecDepth 100000 in
theorem lm_1_max : inB (.methodLink (RN 1) 45 Lib.Math.max.name) = true := by decide +kernel
set_option maxRecDepth 100000 in
theorem lk_1_X1_mayStandNext : lk 1 51 M_X1_mayStandNext = true := by decide +kernel
set_option maxRecDepth 100000 in
theorem lk_1_X1_findSum : lk 1 54 M_X1_findSum = true := by decide +kernel
set_option maxRecDepth 100000 in
theorem lk_1_X1_findDifference : lk 1 58 M_X1_findDifference = true := by decide +kernel
set_option maxRecDepth 100000 in
theorem lk_1_X1_useBoth : lk 1 61 M_X1_useBoth = true := by decide +kernel
set_option maxRecDepth 100000 in
theorem lk_1_X1_placeOf : lk 1 64 M_X1_placeOf = true := by decide +kernel
set_option maxRecDepth 100000 in
theorem lk_1_X1_latest : lk 1 67 M_X1_latest = true := by decide +kernel
set_option maxRecDepth 100000 in
theorem lk_1_X1_letsAdd : lk 1 71 M_X1_letsAdd = true := by decide +kernel
set_option maxRecDepth 100000 in
theorem lk_1_X1_wantedFrom : lk 1 75 M_X1_wantedFrom = true := by decide +kernel
set_option maxRecDepth 100000 in
theorem lk_2_X2_holds : lk 2 23 M_X2_holds = true := by decide +kernel
set_option maxRecDepth 100000 in
theorem lk_2_X7_begin : lk 2 27 M_X7_begin = true := by decide +kernel
set_option maxRecDepth 100000 in
theorem lk_2_X2_climb : lk 2 33 M_X2_climb = true := by decide +kernel
set_option maxRecDepth 100000 in
theorem lk_2_X7_latest : lk 2 37 M_X7_latest = true := by decide +kernel
set_option maxRecDepth 100000 in
theorem lm_2_min : inB (.methodLink (RN 2) 41 Lib.Math.min.name) = true := by decide +kernel
set_option maxRecDepth 100000 in
theorem lk_2_X2_lowest : lk 2 47 M_X2_lowest = true := by decide +kernel
set_option maxRecDepth 100000 in
theorem lk_2_X7_comes : lk 2 50 M_X7_comes = true := by decide +kernel
set_option maxRecDepth 100000 in
theorem lk_2_X7_put : lk 2 53 M_X7_put = true := by decide +kernel
set_option maxRecDepth 100000 in
theorem lk_2_X7_takeBack : lk 2 56 M_X7_takeBack = true := by decide +kernel
set_option maxRecDepth 100000 in
theorem lm_2_max : inB (.methodLink (RN 2) 59 Lib.Math.max.name) = true := by decide +kernel
set_option maxRecDepth 100000 in
theorem lk_3_X3_growBelow : lk 3 31 M_X3_growBelow = true := by decide +kernel
set_option maxRecDepth 100000 in
theorem lk_3_X3_findWay : lk 3 35 M_X3_findWay = true := by decide +kernel
set_option maxRecDepth 100000 in
theorem lk_4_X4_addHalves : lk 4 23 M_X4_addHalves = true := by decide +kernel
set_option maxRecDepth 100000 in
theorem lk_4_X4_addFigures : lk 4 27 M_X4_addFigures = true := by decide +kernel
set_option maxRecDepth 100000 in
theorem lk_4_X4_add : lk 4 31 M_X4_add = true := by decide +kernel
set_option maxRecDepth 100000 in
theorem lk_4_X4_addFactors : lk 4 34 M_X4_addFactors = true := by decide +kernel
set_option maxRecDepth 100000 in
theorem lk_4_X4_addWay : lk 4 38 M_X4_addWay = true := by decide +kernel
set_option maxRecDepth 100000 in
theorem lk_4_X4_addSigns : lk 4 41 M_X4_addSigns = true := by decide +kernel
set_option maxRecDepth 100000 in
theorem lk_4_X4_grownTree : lk 4 44 M_X4_grownTree = true := by decide +kernel
set_option maxRecDepth 100000 in
theorem lk_4_X3_sizeWithThousand : lk 4 48 M_X3_sizeWithThousand = true := by decide +kernel
set_option maxRecDepth 100000 in
theorem lk_4_X3_init : lk 4 54 M_X3_init = true := by decide +kernel
set_option maxRecDepth 100000 in
theorem lk_4_X4_addDoubledAndFigure : lk 4 55 M_X4_addDoubledAndFigure = true := by decide +kernel
set_option maxRecDepth 100000 in
theorem lm_4_min : inB (.methodLink (RN 4) 59 Lib.Math.min.name) = true := by decide +kernel
set_option maxRecDepth 100000 in
theorem lm_4_max : inB (.methodLink (RN 4) 64 Lib.Math.max.name) = true := by decide +kernel
set_option maxRecDepth 100000 in
theorem lk_4_X4_leastPrime : lk 4 67 M_X4_leastPrime = true := by decide +kernel
set_option maxRecDepth 100000 in
theorem lk_4_X3_findWay : lk 4 71 M_X3_findWay = true := by decide +kernel
set_option maxRecDepth 100000 in
theorem lk_4_X3_waySize : lk 4 74 M_X3_waySize = true := by decide +kernel
set_option maxRecDepth 100000 in
theorem lk_4_X3_wayAt : lk 4 77 M_X3_wayAt = true := by decide +kernel
set_option maxRecDepth 100000 in
theorem lk_4_X4_holds : lk 4 80 M_X4_holds = true := by decide +kernel
set_option maxRecDepth 100000 in
theorem lk_5_X5_search : lk 5 47 M_X5_search = true := by decide +kernel
set_option maxRecDepth 100000 in
theorem lk_5_X5_stepsTo : lk 5 51 M_X5_stepsTo = true := by decide +kernel
set_option maxRecDepth 100000 in
theorem lk_5_X7_begin : lk 5 55 M_X7_begin = true := by decide +kernel
set_option maxRecDepth 100000 in
theorem lk_5_X5_climb : lk 5 61 M_X5_climb = true := by decide +kernel
set_option maxRecDepth 100000 in
theorem lk_5_X7_comes : lk 5 65 M_X7_comes = true := by decide +kernel
set_option maxRecDepth 100000 in
theorem lk_5_X5_keep : lk 5 69 M_X5_keep = true := by decide +kernel
set_option maxRecDepth 100000 in
theorem lk_5_X5_lowest : lk 5 72 M_X5_lowest = true := by decide +kernel
set_option maxRecDepth 100000 in
theorem lk_5_X5_highest : lk 5 75 M_X5_highest = true := by decide +kernel
set_option maxRecDepth 100000 in
theorem lk_5_X7_leadsOn : lk 5 79 M_X7_leadsOn = true := by decide +kernel
set_option maxRecDepth 100000 in
theorem lk_5_X7_put : lk 5 83 M_X7_put = true := by decide +kernel
set_option maxRecDepth 100000 in
theorem lk_5_X7_takeBack : lk 5 86 M_X7_takeBack = true := by decide +kernel
set_option maxRecDepth 100000 in
theorem lk_5_X7_latest : lk 5 89 M_X7_latest = true := by decide +kernel
set_option maxRecDepth 100000 in
theorem lm_5_min : inB (.methodLink (RN 5) 92 Lib.Math.min.name) = true := by decide +kernel
set_option maxRecDepth 100000 in
theorem lm_5_max : inB (.methodLink (RN 5) 100 Lib.Math.max.name) = true := by decide +kernel
set_option maxRecDepth 100000 in
theorem lk_5_X7_size : lk 5 103 M_X7_size = true := by decide +kernel
set_option maxRecDepth 100000 in
theorem lk_5_X7_numberAt : lk 5 106 M_X7_numberAt = true := by decide +kernel
set_option maxRecDepth 100000 in
theorem lk_5_X5_keepNumber : lk 5 109 M_X5_keepNumber = true := by decide +kernel
set_option maxRecDepth 100000 in
theorem lm_6_min : inB (.methodLink (RN 6) 19 Lib.Math.min.name) = true := by decide +kernel
set_option maxRecDepth 100000 in
theorem lk_6_X1_clear : lk 6 25 M_X1_clear = true := by decide +kernel
set_option maxRecDepth 100000 in
theorem lk_6_X6_endOfFigures : lk 6 31 M_X6_endOfFigures = true := by decide +kernel
set_option maxRecDepth 100000 in
theorem lk_6_X6_valueOf : lk 6 35 M_X6_valueOf = true := by decide +kernel
set_option maxRecDepth 100000 in
theorem lk_6_X1_add : lk 6 38 M_X1_add = true := by decide +kernel
set_option maxRecDepth 100000 in
theorem lm_6_max : inB (.methodLink (RN 6) 42 Lib.Math.max.name) = true := by decide +kernel
set_option maxRecDepth 100000 in
theorem lk_7_X7_takeBack : lk 7 29 M_X7_takeBack = true := by decide +kernel
set_option maxRecDepth 100000 in
theorem lk_7_X7_put : lk 7 32 M_X7_put = true := by decide +kernel
set_option maxRecDepth 100000 in
theorem lk_7_X7_changePairs : lk 7 36 M_X7_changePairs = true := by decide +kernel
set_option maxRecDepth 100000 in
theorem lk_7_X7_latest : lk 7 40 M_X7_latest = true := by decide +kernel
set_option maxRecDepth 100000 in
theorem lk_7_X7_numberAt : lk 7 44 M_X7_numberAt = true := by decide +kernel
set_option maxRecDepth 100000 in
theorem lk_7_X7_stands : lk 7 48 M_X7_stands = true := by decide +kernel
set_option maxRecDepth 100000 in
theorem lk_7_X7_waysTo : lk 7 51 M_X7_waysTo = true := by decide +kernel
set_option maxRecDepth 100000 in
theorem lm_7_abs : inB (.methodLink (RN 7) 54 Lib.Math.abs.name) = true := by decide +kernel
set_option maxRecDepth 100000 in
theorem lk_8_X5_init : lk 8 14 M_X5_init = true := by decide +kernel
set_option maxRecDepth 100000 in
theorem lk_8_X2_init : lk 8 23 M_X2_init = true := by decide +kernel
set_option maxRecDepth 100000 in
theorem lk_8_X0_init : lk 8 33 M_X0_init = true := by decide +kernel
set_option maxRecDepth 100000 in
theorem lk_8_X1_init : lk 8 54 M_X1_init = true := by decide +kernel
set_option maxRecDepth 100000 in
theorem lk_8_X8_fewestMost : lk 8 62 M_X8_fewestMost = true := by decide +kernel
set_option maxRecDepth 100000 in
theorem lk_8_X5_stepsTo : lk 8 66 M_X5_stepsTo = true := by decide +kernel
set_option maxRecDepth 100000 in
theorem lk_8_X8_asFewMost : lk 8 70 M_X8_asFewMost = true := by decide +kernel
set_option maxRecDepth 100000 in
theorem lk_8_X5_rowsTo : lk 8 73 M_X5_rowsTo = true := by decide +kernel
set_option maxRecDepth 100000 in
theorem lk_8_X5_numberOfFirst : lk 8 76 M_X5_numberOfFirst = true := by decide +kernel
set_option maxRecDepth 100000 in
theorem lk_8_X8_isKind : lk 8 80 M_X8_isKind = true := by decide +kernel
set_option maxRecDepth 100000 in
theorem lk_8_X2_holds : lk 8 84 M_X2_holds = true := by decide +kernel
set_option maxRecDepth 100000 in
theorem lk_8_X2_size : lk 8 87 M_X2_size = true := by decide +kernel
set_option maxRecDepth 100000 in
theorem lk_8_X2_insert : lk 8 91 M_X2_insert = true := by decide +kernel
set_option maxRecDepth 100000 in
theorem lk_8_X2_clear : lk 8 95 M_X2_clear = true := by decide +kernel
set_option maxRecDepth 100000 in
theorem lk_8_X2_fewestSteps : lk 8 98 M_X2_fewestSteps = true := by decide +kernel
set_option maxRecDepth 100000 in
theorem lm_8_min : inB (.methodLink (RN 8) 101 Lib.Math.min.name) = true := by decide +kernel
set_option maxRecDepth 100000 in
theorem lm_8_max : inB (.methodLink (RN 8) 106 Lib.Math.max.name) = true := by decide +kernel
set_option maxRecDepth 100000 in
theorem lk_8_X8_isRoad : lk 8 109 M_X8_isRoad = true := by decide +kernel
set_option maxRecDepth 100000 in
theorem lk_8_X4_build : lk 8 113 M_X4_build = true := by decide +kernel
set_option maxRecDepth 100000 in
theorem lk_8_X4_steps : lk 8 117 M_X4_steps = true := by decide +kernel
set_option maxRecDepth 100000 in
theorem lk_8_X4_numberAt : lk 8 120 M_X4_numberAt = true := by decide +kernel
set_option maxRecDepth 100000 in
theorem lk_8_X0_changePrice : lk 8 124 M_X0_changePrice = true := by decide +kernel
set_option maxRecDepth 100000 in
theorem lk_8_X0_leastPrice : lk 8 128 M_X0_leastPrice = true := by decide +kernel
set_option maxRecDepth 100000 in
theorem lk_8_X6_size : lk 8 131 M_X6_size = true := by decide +kernel
set_option maxRecDepth 100000 in
theorem lk_8_X6_append : lk 8 132 M_X6_append = true := by decide +kernel
set_option maxRecDepth 100000 in
theorem lk_8_X6_clear : lk 8 136 M_X6_clear = true := by decide +kernel
set_option maxRecDepth 100000 in
theorem lk_8_X6_readInto : lk 8 137 M_X6_readInto = true := by decide +kernel
set_option maxRecDepth 100000 in
theorem lk_8_X1_steps : lk 8 141 M_X1_steps = true := by decide +kernel
set_option maxRecDepth 100000 in
theorem lk_8_X1_numberAt : lk 8 142 M_X1_numberAt = true := by decide +kernel
set_option maxRecDepth 100000 in
theorem lk_8_X1_usesAt : lk 8 143 M_X1_usesAt = true := by decide +kernel
set_option maxRecDepth 100000 in
theorem lk_8_X1_mostAtOnce : lk 8 146 M_X1_mostAtOnce = true := by decide +kernel
set_option maxRecDepth 100000 in
theorem lk_8_X1_latest : lk 8 150 M_X1_latest = true := by decide +kernel
set_option maxRecDepth 100000 in
theorem lk_8_X1_doublings : lk 8 153 M_X1_doublings = true := by decide +kernel
set_option maxRecDepth 100000 in
theorem lk_8_X4_treeSize : lk 8 156 M_X4_treeSize = true := by decide +kernel
set_option maxRecDepth 100000 in
theorem lk_9_X9_in : lk 9 79 M_X9_in = true := by decide +kernel
set_option maxRecDepth 100000 in
theorem lk_9_X9_isTold : lk 9 83 M_X9_isTold = true := by decide +kernel
set_option maxRecDepth 100000 in
theorem lk_9_X9_note : lk 9 87 M_X9_note = true := by decide +kernel
set_option maxRecDepth 100000 in
theorem lk_9_X9_layComes : lk 9 91 M_X9_layComes = true := by decide +kernel
set_option maxRecDepth 100000 in
theorem lk_9_X9_greatest : lk 9 94 M_X9_greatest = true := by decide +kernel
set_option maxRecDepth 100000 in
theorem lk_9_X9_search : lk 9 98 M_X9_search = true := by decide +kernel
set_option maxRecDepth 100000 in
theorem lk_9_X9_isAsked : lk 9 108 M_X9_isAsked = true := by decide +kernel
set_option maxRecDepth 100000 in
theorem lk_9_X9_fewestOf : lk 9 111 M_X9_fewestOf = true := by decide +kernel
set_option maxRecDepth 100000 in
theorem lk_9_X9_nextGoal : lk 9 128 M_X9_nextGoal = true := by decide +kernel
set_option maxRecDepth 100000 in
theorem lk_9_X9_reaches : lk 9 131 M_X9_reaches = true := by decide +kernel
set_option maxRecDepth 100000 in
theorem lk_9_X9_rankOf : lk 9 135 M_X9_rankOf = true := by decide +kernel
set_option maxRecDepth 100000 in
theorem lk_9_X9_layPairs : lk 9 138 M_X9_layPairs = true := by decide +kernel
set_option maxRecDepth 100000 in
theorem lk_9_X9_leads : lk 9 143 M_X9_leads = true := by decide +kernel
set_option maxRecDepth 100000 in
theorem lk_9_X9_isThere : lk 9 150 M_X9_isThere = true := by decide +kernel
set_option maxRecDepth 100000 in
theorem lk_9_X9_go : lk 9 153 M_X9_go = true := by decide +kernel
set_option maxRecDepth 100000 in
theorem lk_9_X9_leastPrime : lk 9 157 M_X9_leastPrime = true := by decide +kernel
set_option maxRecDepth 100000 in
theorem lk_9_X9_layTree : lk 9 163 M_X9_layTree = true := by decide +kernel
set_option maxRecDepth 100000 in
theorem lk_9_X9_halves : lk 9 172 M_X9_halves = true := by decide +kernel
set_option maxRecDepth 100000 in
theorem lk_9_X9_figures : lk 9 175 M_X9_figures = true := by decide +kernel
set_option maxRecDepth 100000 in
theorem lk_9_X9_factors : lk 9 179 M_X9_factors = true := by decide +kernel
set_option maxRecDepth 100000 in
theorem lk_9_X9_treeRoad : lk 9 182 M_X9_treeRoad = true := by decide +kernel
set_option maxRecDepth 100000 in
theorem lk_9_X9_signs : lk 9 185 M_X9_signs = true := by decide +kernel
set_option maxRecDepth 100000 in
theorem lk_9_X9_isRoad : lk 9 187 M_X9_isRoad = true := by decide +kernel
set_option maxRecDepth 100000 in
theorem lk_9_X9_layRoad : lk 9 190 M_X9_layRoad = true := by decide +kernel
set_option maxRecDepth 100000 in
theorem lk_9_X9_costOf : lk 9 195 M_X9_costOf = true := by decide +kernel
set_option maxRecDepth 100000 in
theorem lk_9_X9_costs : lk 9 198 M_X9_costs = true := by decide +kernel
set_option maxRecDepth 100000 in
theorem lk_9_X9_isRead : lk 9 211 M_X9_isRead = true := by decide +kernel
set_option maxRecDepth 100000 in
theorem lk_9_X9_may : lk 9 226 M_X9_may = true := by decide +kernel
set_option maxRecDepth 100000 in
theorem lk_9_X9_readAll : lk 9 229 M_X9_readAll = true := by decide +kernel
set_option maxRecDepth 100000 in
theorem lk_9_X9_layUses : lk 9 238 M_X9_layUses = true := by decide +kernel
set_option maxRecDepth 100000 in
theorem lk_10_X8_init : lk 10 9 M_X8_init = true := by decide +kernel
set_option maxRecDepth 100000 in
theorem lk_10_X9_init : lk 10 12 M_X9_init = true := by decide +kernel
set_option maxRecDepth 100000 in
theorem lk_10_X8_fewest : lk 10 13 M_X8_fewest = true := by decide +kernel
set_option maxRecDepth 100000 in
theorem lk_10_X9_fewest : lk 10 17 M_X9_fewest = true := by decide +kernel
set_option maxRecDepth 100000 in
theorem lk_10_X8_asFew : lk 10 18 M_X8_asFew = true := by decide +kernel
set_option maxRecDepth 100000 in
theorem lk_10_X9_asFew : lk 10 21 M_X9_asFew = true := by decide +kernel
set_option maxRecDepth 100000 in
theorem lk_10_X8_first : lk 10 22 M_X8_first = true := by decide +kernel
set_option maxRecDepth 100000 in
theorem lk_10_X9_first : lk 10 26 M_X9_first = true := by decide +kernel
set_option maxRecDepth 100000 in
theorem lk_10_X8_hardest : lk 10 27 M_X8_hardest = true := by decide +kernel
set_option maxRecDepth 100000 in
theorem lk_10_X9_hardest : lk 10 30 M_X9_hardest = true := by decide +kernel
set_option maxRecDepth 100000 in
theorem lk_10_X8_goal : lk 10 31 M_X8_goal = true := by decide +kernel
set_option maxRecDepth 100000 in
theorem lk_10_X9_goal : lk 10 35 M_X9_goal = true := by decide +kernel
set_option maxRecDepth 100000 in
theorem lk_10_X8_noGoals : lk 10 36 M_X8_noGoals = true := by decide +kernel
set_option maxRecDepth 100000 in
theorem lk_10_X9_noGoals : lk 10 40 M_X9_noGoals = true := by decide +kernel
set_option maxRecDepth 100000 in
theorem lk_10_X8_together : lk 10 41 M_X8_together = true := by decide +kernel
set_option maxRecDepth 100000 in
theorem lk_10_X9_together : lk 10 44 M_X9_together = true := by decide +kernel
set_option maxRecDepth 100000 in
theorem lk_10_X8_led : lk 10 45 M_X8_led = true := by decide +kernel
set_option maxRecDepth 100000 in
theorem lk_10_X9_led : lk 10 48 M_X9_led = true := by decide +kernel
set_option maxRecDepth 100000 in
theorem lk_10_X8_road : lk 10 49 M_X8_road = true := by decide +kernel
set_option maxRecDepth 100000 in
theorem lk_10_X9_road : lk 10 52 M_X9_road = true := by decide +kernel
set_option maxRecDepth 100000 in
theorem lk_10_X8_step : lk 10 53 M_X8_step = true := by decide +kernel
set_option maxRecDepth 100000 in
theorem lk_10_X9_step : lk 10 57 M_X9_step = true := by decide +kernel
set_option maxRecDepth 100000 in
theorem lk_10_X8_good : lk 10 58 M_X8_good = true := by decide +kernel
set_option maxRecDepth 100000 in
theorem lk_10_X9_good : lk 10 61 M_X9_good = true := by decide +kernel
set_option maxRecDepth 100000 in
theorem lk_10_X8_price : lk 10 62 M_X8_price = true := by decide +kernel
set_option maxRecDepth 100000 in
theorem lk_10_X9_price : lk 10 65 M_X9_price = true := by decide +kernel
set_option maxRecDepth 100000 in
theorem lk_10_X8_cheapest : lk 10 66 M_X8_cheapest = true := by decide +kernel
set_option maxRecDepth 100000 in
theorem lk_10_X9_cheapest : lk 10 69 M_X9_cheapest = true := by decide +kernel
set_option maxRecDepth 100000 in
theorem lk_10_X8_write : lk 10 72 M_X8_write = true := by decide +kernel
set_option maxRecDepth 100000 in
theorem lk_10_X9_write : lk 10 76 M_X9_write = true := by decide +kernel
set_option maxRecDepth 100000 in
theorem lk_10_X8_wipe : lk 10 77 M_X8_wipe = true := by decide +kernel
set_option maxRecDepth 100000 in
theorem lk_10_X9_wipe : lk 10 80 M_X9_wipe = true := by decide +kernel
set_option maxRecDepth 100000 in
theorem lk_10_X8_fault : lk 10 81 M_X8_fault = true := by decide +kernel
set_option maxRecDepth 100000 in
theorem lk_10_X9_fault : lk 10 84 M_X9_fault = true := by decide +kernel
set_option maxRecDepth 100000 in
theorem lk_10_X8_take : lk 10 85 M_X8_take = true := by decide +kernel
set_option maxRecDepth 100000 in
theorem lk_10_X9_take : lk 10 88 M_X9_take = true := by decide +kernel
set_option maxRecDepth 100000 in
theorem lk_10_X8_chain : lk 10 89 M_X8_chain = true := by decide +kernel
set_option maxRecDepth 100000 in
theorem lk_10_X9_chain : lk 10 92 M_X9_chain = true := by decide +kernel
set_option maxRecDepth 100000 in
theorem lk_10_X8_uses : lk 10 93 M_X8_uses = true := by decide +kernel
set_option maxRecDepth 100000 in
theorem lk_10_X9_uses : lk 10 96 M_X9_uses = true := by decide +kernel
set_option maxRecDepth 100000 in
theorem lk_10_X8_drawers : lk 10 97 M_X8_drawers = true := by decide +kernel
set_option maxRecDepth 100000 in
theorem lk_10_X9_drawers : lk 10 100 M_X9_drawers = true := by decide +kernel
set_option maxRecDepth 100000 in
theorem lk_10_X8_power : lk 10 101 M_X8_power = true := by decide +kernel
set_option maxRecDepth 100000 in
theorem lk_10_X9_power : lk 10 104 M_X9_power = true := by decide +kernel
set_option maxRecDepth 100000 in
theorem lk_10_X8_count : lk 10 105 M_X8_count = true := by decide +kernel
set_option maxRecDepth 100000 in
theorem lk_10_X9_count : lk 10 108 M_X9_count = true := by decide +kernel

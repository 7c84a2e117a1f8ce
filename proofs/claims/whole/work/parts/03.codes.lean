def tabOk (cc : ByteArray) (T : List (Nat × Instr × Nat)) : Bool := T.all (fun e => decide (decode cc e.1 = .ok e.2))
set_option maxRecDepth 100000 in
theorem tk_X0_init : tabOk cX0_init T_X0_init = true := by decide +kernel
set_option maxRecDepth 100000 in
theorem tk_X0_changePrice : tabOk cX0_changePrice T_X0_changePrice = true := by decide +kernel
set_option maxRecDepth 100000 in
theorem tk_X0_leastPrice : tabOk cX0_leastPrice T_X0_leastPrice = true := by decide +kernel
set_option maxRecDepth 100000 in
theorem tk_X0_climb : tabOk cX0_climb T_X0_climb = true := by decide +kernel
set_option maxRecDepth 100000 in
theorem tk_X0_priceOf : tabOk cX0_priceOf T_X0_priceOf = true := by decide +kernel
set_option maxRecDepth 100000 in
theorem tk_X0_inReach : tabOk cX0_inReach T_X0_inReach = true := by decide +kernel
set_option maxRecDepth 100000 in
theorem tk_X1_init : tabOk cX1_init T_X1_init = true := by decide +kernel
set_option maxRecDepth 100000 in
theorem tk_X1_clear : tabOk cX1_clear T_X1_clear = true := by decide +kernel
set_option maxRecDepth 100000 in
theorem tk_X1_steps : tabOk cX1_steps T_X1_steps = true := by decide +kernel
set_option maxRecDepth 100000 in
theorem tk_X1_doublings : tabOk cX1_doublings T_X1_doublings = true := by decide +kernel
set_option maxRecDepth 100000 in
theorem tk_X1_numberAt : tabOk cX1_numberAt T_X1_numberAt = true := by decide +kernel
set_option maxRecDepth 100000 in
theorem tk_X1_usesAt : tabOk cX1_usesAt T_X1_usesAt = true := by decide +kernel
set_option maxRecDepth 100000 in
theorem tk_X1_latest : tabOk cX1_latest T_X1_latest = true := by decide +kernel
set_option maxRecDepth 100000 in
theorem tk_X1_add : tabOk cX1_add T_X1_add = true := by decide +kernel
set_option maxRecDepth 100000 in
theorem tk_X1_append : tabOk cX1_append T_X1_append = true := by decide +kernel
set_option maxRecDepth 100000 in
theorem tk_X1_useBoth : tabOk cX1_useBoth T_X1_useBoth = true := by decide +kernel
set_option maxRecDepth 100000 in
theorem tk_X1_mayStandNext : tabOk cX1_mayStandNext T_X1_mayStandNext = true := by decide +kernel
set_option maxRecDepth 100000 in
theorem tk_X1_placeOf : tabOk cX1_placeOf T_X1_placeOf = true := by decide +kernel
set_option maxRecDepth 100000 in
theorem tk_X1_findSum : tabOk cX1_findSum T_X1_findSum = true := by decide +kernel
set_option maxRecDepth 100000 in
theorem tk_X1_letsAdd : tabOk cX1_letsAdd T_X1_letsAdd = true := by decide +kernel
set_option maxRecDepth 100000 in
theorem tk_X1_findDifference : tabOk cX1_findDifference T_X1_findDifference = true := by decide +kernel
set_option maxRecDepth 100000 in
theorem tk_X1_mostAtOnce : tabOk cX1_mostAtOnce T_X1_mostAtOnce = true := by decide +kernel
set_option maxRecDepth 100000 in
theorem tk_X1_wantedFrom : tabOk cX1_wantedFrom T_X1_wantedFrom = true := by decide +kernel
set_option maxRecDepth 100000 in
theorem tk_X2_init : tabOk cX2_init T_X2_init = true := by decide +kernel
set_option maxRecDepth 100000 in
theorem tk_X2_size : tabOk cX2_size T_X2_size = true := by decide +kernel
set_option maxRecDepth 100000 in
theorem tk_X2_clear : tabOk cX2_clear T_X2_clear = true := by decide +kernel
set_option maxRecDepth 100000 in
theorem tk_X2_holds : tabOk cX2_holds T_X2_holds = true := by decide +kernel
set_option maxRecDepth 100000 in
theorem tk_X2_insert : tabOk cX2_insert T_X2_insert = true := by decide +kernel
set_option maxRecDepth 100000 in
theorem tk_X2_fewestSteps : tabOk cX2_fewestSteps T_X2_fewestSteps = true := by decide +kernel
set_option maxRecDepth 100000 in
theorem tk_X2_climb : tabOk cX2_climb T_X2_climb = true := by decide +kernel
set_option maxRecDepth 100000 in
theorem tk_X2_lowest : tabOk cX2_lowest T_X2_lowest = true := by decide +kernel
set_option maxRecDepth 100000 in
theorem tk_X3_init : tabOk cX3_init T_X3_init = true := by decide +kernel
set_option maxRecDepth 100000 in
theorem tk_X3_sizeWithThousand : tabOk cX3_sizeWithThousand T_X3_sizeWithThousand = true := by decide +kernel
set_option maxRecDepth 100000 in
theorem tk_X3_waySize : tabOk cX3_waySize T_X3_waySize = true := by decide +kernel
set_option maxRecDepth 100000 in
theorem tk_X3_wayAt : tabOk cX3_wayAt T_X3_wayAt = true := by decide +kernel
set_option maxRecDepth 100000 in
theorem tk_X3_findWay : tabOk cX3_findWay T_X3_findWay = true := by decide +kernel
set_option maxRecDepth 100000 in
theorem tk_X3_growBelow : tabOk cX3_growBelow T_X3_growBelow = true := by decide +kernel
set_option maxRecDepth 100000 in
theorem tk_X4_init : tabOk cX4_init T_X4_init = true := by decide +kernel
set_option maxRecDepth 100000 in
theorem tk_X4_build : tabOk cX4_build T_X4_build = true := by decide +kernel
set_option maxRecDepth 100000 in
theorem tk_X4_steps : tabOk cX4_steps T_X4_steps = true := by decide +kernel
set_option maxRecDepth 100000 in
theorem tk_X4_numberAt : tabOk cX4_numberAt T_X4_numberAt = true := by decide +kernel
set_option maxRecDepth 100000 in
theorem tk_X4_treeSize : tabOk cX4_treeSize T_X4_treeSize = true := by decide +kernel
set_option maxRecDepth 100000 in
theorem tk_X4_grownTree : tabOk cX4_grownTree T_X4_grownTree = true := by decide +kernel
set_option maxRecDepth 100000 in
theorem tk_X4_addHalves : tabOk cX4_addHalves T_X4_addHalves = true := by decide +kernel
set_option maxRecDepth 100000 in
theorem tk_X4_addSigns : tabOk cX4_addSigns T_X4_addSigns = true := by decide +kernel
set_option maxRecDepth 100000 in
theorem tk_X4_addDoubledAndFigure : tabOk cX4_addDoubledAndFigure T_X4_addDoubledAndFigure = true := by decide +kernel
set_option maxRecDepth 100000 in
theorem tk_X4_addFigures : tabOk cX4_addFigures T_X4_addFigures = true := by decide +kernel
set_option maxRecDepth 100000 in
theorem tk_X4_addFactors : tabOk cX4_addFactors T_X4_addFactors = true := by decide +kernel
set_option maxRecDepth 100000 in
theorem tk_X4_leastPrime : tabOk cX4_leastPrime T_X4_leastPrime = true := by decide +kernel
set_option maxRecDepth 100000 in
theorem tk_X4_addWay : tabOk cX4_addWay T_X4_addWay = true := by decide +kernel
set_option maxRecDepth 100000 in
theorem tk_X4_holds : tabOk cX4_holds T_X4_holds = true := by decide +kernel
set_option maxRecDepth 100000 in
theorem tk_X4_add : tabOk cX4_add T_X4_add = true := by decide +kernel
set_option maxRecDepth 100000 in
theorem tk_X5_init : tabOk cX5_init T_X5_init = true := by decide +kernel
set_option maxRecDepth 100000 in
theorem tk_X5_stepsTo : tabOk cX5_stepsTo T_X5_stepsTo = true := by decide +kernel
set_option maxRecDepth 100000 in
theorem tk_X5_rowsTo : tabOk cX5_rowsTo T_X5_rowsTo = true := by decide +kernel
set_option maxRecDepth 100000 in
theorem tk_X5_numberOfFirst : tabOk cX5_numberOfFirst T_X5_numberOfFirst = true := by decide +kernel
set_option maxRecDepth 100000 in
theorem tk_X5_search : tabOk cX5_search T_X5_search = true := by decide +kernel
set_option maxRecDepth 100000 in
theorem tk_X5_climb : tabOk cX5_climb T_X5_climb = true := by decide +kernel
set_option maxRecDepth 100000 in
theorem tk_X5_highest : tabOk cX5_highest T_X5_highest = true := by decide +kernel
set_option maxRecDepth 100000 in
theorem tk_X5_lowest : tabOk cX5_lowest T_X5_lowest = true := by decide +kernel
set_option maxRecDepth 100000 in
theorem tk_X5_keep : tabOk cX5_keep T_X5_keep = true := by decide +kernel
set_option maxRecDepth 100000 in
theorem tk_X5_keepNumber : tabOk cX5_keepNumber T_X5_keepNumber = true := by decide +kernel
set_option maxRecDepth 100000 in
theorem tk_X6_init : tabOk cX6_init T_X6_init = true := by decide +kernel
set_option maxRecDepth 100000 in
theorem tk_X6_size : tabOk cX6_size T_X6_size = true := by decide +kernel
set_option maxRecDepth 100000 in
theorem tk_X6_clear : tabOk cX6_clear T_X6_clear = true := by decide +kernel
set_option maxRecDepth 100000 in
theorem tk_X6_append : tabOk cX6_append T_X6_append = true := by decide +kernel
set_option maxRecDepth 100000 in
theorem tk_X6_readInto : tabOk cX6_readInto T_X6_readInto = true := by decide +kernel
set_option maxRecDepth 100000 in
theorem tk_X6_endOfFigures : tabOk cX6_endOfFigures T_X6_endOfFigures = true := by decide +kernel
set_option maxRecDepth 100000 in
theorem tk_X6_valueOf : tabOk cX6_valueOf T_X6_valueOf = true := by decide +kernel
set_option maxRecDepth 100000 in
theorem tk_X7_init : tabOk cX7_init T_X7_init = true := by decide +kernel
set_option maxRecDepth 100000 in
theorem tk_X7_begin : tabOk cX7_begin T_X7_begin = true := by decide +kernel
set_option maxRecDepth 100000 in
theorem tk_X7_put : tabOk cX7_put T_X7_put = true := by decide +kernel
set_option maxRecDepth 100000 in
theorem tk_X7_takeBack : tabOk cX7_takeBack T_X7_takeBack = true := by decide +kernel
set_option maxRecDepth 100000 in
theorem tk_X7_size : tabOk cX7_size T_X7_size = true := by decide +kernel
set_option maxRecDepth 100000 in
theorem tk_X7_numberAt : tabOk cX7_numberAt T_X7_numberAt = true := by decide +kernel
set_option maxRecDepth 100000 in
theorem tk_X7_latest : tabOk cX7_latest T_X7_latest = true := by decide +kernel
set_option maxRecDepth 100000 in
theorem tk_X7_stands : tabOk cX7_stands T_X7_stands = true := by decide +kernel
set_option maxRecDepth 100000 in
theorem tk_X7_comes : tabOk cX7_comes T_X7_comes = true := by decide +kernel
set_option maxRecDepth 100000 in
theorem tk_X7_waysTo : tabOk cX7_waysTo T_X7_waysTo = true := by decide +kernel
set_option maxRecDepth 100000 in
theorem tk_X7_leadsOn : tabOk cX7_leadsOn T_X7_leadsOn = true := by decide +kernel
set_option maxRecDepth 100000 in
theorem tk_X7_changePairs : tabOk cX7_changePairs T_X7_changePairs = true := by decide +kernel
set_option maxRecDepth 100000 in
theorem tk_X8_init : tabOk cX8_init T_X8_init = true := by decide +kernel
set_option maxRecDepth 100000 in
theorem tk_X8_fewest : tabOk cX8_fewest T_X8_fewest = true := by decide +kernel
set_option maxRecDepth 100000 in
theorem tk_X8_asFew : tabOk cX8_asFew T_X8_asFew = true := by decide +kernel
set_option maxRecDepth 100000 in
theorem tk_X8_first : tabOk cX8_first T_X8_first = true := by decide +kernel
set_option maxRecDepth 100000 in
theorem tk_X8_hardest : tabOk cX8_hardest T_X8_hardest = true := by decide +kernel
set_option maxRecDepth 100000 in
theorem tk_X8_goal : tabOk cX8_goal T_X8_goal = true := by decide +kernel
set_option maxRecDepth 100000 in
theorem tk_X8_noGoals : tabOk cX8_noGoals T_X8_noGoals = true := by decide +kernel
set_option maxRecDepth 100000 in
theorem tk_X8_together : tabOk cX8_together T_X8_together = true := by decide +kernel
set_option maxRecDepth 100000 in
theorem tk_X8_led : tabOk cX8_led T_X8_led = true := by decide +kernel
set_option maxRecDepth 100000 in
theorem tk_X8_isKind : tabOk cX8_isKind T_X8_isKind = true := by decide +kernel
set_option maxRecDepth 100000 in
theorem tk_X8_fewestMost : tabOk cX8_fewestMost T_X8_fewestMost = true := by decide +kernel
set_option maxRecDepth 100000 in
theorem tk_X8_asFewMost : tabOk cX8_asFewMost T_X8_asFewMost = true := by decide +kernel
set_option maxRecDepth 100000 in
theorem tk_X8_leastToReach : tabOk cX8_leastToReach T_X8_leastToReach = true := by decide +kernel
set_option maxRecDepth 100000 in
theorem tk_X8_road : tabOk cX8_road T_X8_road = true := by decide +kernel
set_option maxRecDepth 100000 in
theorem tk_X8_step : tabOk cX8_step T_X8_step = true := by decide +kernel
set_option maxRecDepth 100000 in
theorem tk_X8_good : tabOk cX8_good T_X8_good = true := by decide +kernel
set_option maxRecDepth 100000 in
theorem tk_X8_isRoad : tabOk cX8_isRoad T_X8_isRoad = true := by decide +kernel
set_option maxRecDepth 100000 in
theorem tk_X8_price : tabOk cX8_price T_X8_price = true := by decide +kernel
set_option maxRecDepth 100000 in
theorem tk_X8_cheapest : tabOk cX8_cheapest T_X8_cheapest = true := by decide +kernel
set_option maxRecDepth 100000 in
theorem tk_X8_write : tabOk cX8_write T_X8_write = true := by decide +kernel
set_option maxRecDepth 100000 in
theorem tk_X8_wipe : tabOk cX8_wipe T_X8_wipe = true := by decide +kernel
set_option maxRecDepth 100000 in
theorem tk_X8_fault : tabOk cX8_fault T_X8_fault = true := by decide +kernel
set_option maxRecDepth 100000 in
theorem tk_X8_take : tabOk cX8_take T_X8_take = true := by decide +kernel
set_option maxRecDepth 100000 in
theorem tk_X8_chain : tabOk cX8_chain T_X8_chain = true := by decide +kernel
set_option maxRecDepth 100000 in
theorem tk_X8_uses : tabOk cX8_uses T_X8_uses = true := by decide +kernel
set_option maxRecDepth 100000 in
theorem tk_X8_drawers : tabOk cX8_drawers T_X8_drawers = true := by decide +kernel
set_option maxRecDepth 100000 in
theorem tk_X8_power : tabOk cX8_power T_X8_power = true := by decide +kernel
set_option maxRecDepth 100000 in
theorem tk_X8_count : tabOk cX8_count T_X8_count = true := by decide +kernel
set_option maxRecDepth 100000 in
theorem tk_X9_init : tabOk cX9_init T_X9_init = true := by decide +kernel
set_option maxRecDepth 100000 in
theorem tk_X9_in : tabOk cX9_in T_X9_in = true := by decide +kernel
set_option maxRecDepth 100000 in
theorem tk_X9_isTold : tabOk cX9_isTold T_X9_isTold = true := by decide +kernel
set_option maxRecDepth 100000 in
theorem tk_X9_note : tabOk cX9_note T_X9_note = true := by decide +kernel
set_option maxRecDepth 100000 in
theorem tk_X9_layComes : tabOk cX9_layComes T_X9_layComes = true := by decide +kernel
set_option maxRecDepth 100000 in
theorem tk_X9_greatest : tabOk cX9_greatest T_X9_greatest = true := by decide +kernel
set_option maxRecDepth 100000 in
theorem tk_X9_search : tabOk cX9_search T_X9_search = true := by decide +kernel
set_option maxRecDepth 100000 in
theorem tk_X9_fewestOf : tabOk cX9_fewestOf T_X9_fewestOf = true := by decide +kernel
set_option maxRecDepth 100000 in
theorem tk_X9_isAsked : tabOk cX9_isAsked T_X9_isAsked = true := by decide +kernel
set_option maxRecDepth 100000 in
theorem tk_X9_fewest : tabOk cX9_fewest T_X9_fewest = true := by decide +kernel
set_option maxRecDepth 100000 in
theorem tk_X9_asFew : tabOk cX9_asFew T_X9_asFew = true := by decide +kernel
set_option maxRecDepth 100000 in
theorem tk_X9_first : tabOk cX9_first T_X9_first = true := by decide +kernel
set_option maxRecDepth 100000 in
theorem tk_X9_hardest : tabOk cX9_hardest T_X9_hardest = true := by decide +kernel
set_option maxRecDepth 100000 in
theorem tk_X9_goal : tabOk cX9_goal T_X9_goal = true := by decide +kernel
set_option maxRecDepth 100000 in
theorem tk_X9_noGoals : tabOk cX9_noGoals T_X9_noGoals = true := by decide +kernel
set_option maxRecDepth 100000 in
theorem tk_X9_nextGoal : tabOk cX9_nextGoal T_X9_nextGoal = true := by decide +kernel
set_option maxRecDepth 100000 in
theorem tk_X9_reaches : tabOk cX9_reaches T_X9_reaches = true := by decide +kernel
set_option maxRecDepth 100000 in
theorem tk_X9_together : tabOk cX9_together T_X9_together = true := by decide +kernel
set_option maxRecDepth 100000 in
theorem tk_X9_rankOf : tabOk cX9_rankOf T_X9_rankOf = true := by decide +kernel
set_option maxRecDepth 100000 in
theorem tk_X9_layPairs : tabOk cX9_layPairs T_X9_layPairs = true := by decide +kernel
set_option maxRecDepth 100000 in
theorem tk_X9_leads : tabOk cX9_leads T_X9_leads = true := by decide +kernel
set_option maxRecDepth 100000 in
theorem tk_X9_led : tabOk cX9_led T_X9_led = true := by decide +kernel
set_option maxRecDepth 100000 in
theorem tk_X9_isThere : tabOk cX9_isThere T_X9_isThere = true := by decide +kernel
set_option maxRecDepth 100000 in
theorem tk_X9_go : tabOk cX9_go T_X9_go = true := by decide +kernel
set_option maxRecDepth 100000 in
theorem tk_X9_halves : tabOk cX9_halves T_X9_halves = true := by decide +kernel
set_option maxRecDepth 100000 in
theorem tk_X9_figures : tabOk cX9_figures T_X9_figures = true := by decide +kernel
set_option maxRecDepth 100000 in
theorem tk_X9_leastPrime : tabOk cX9_leastPrime T_X9_leastPrime = true := by decide +kernel
set_option maxRecDepth 100000 in
theorem tk_X9_factors : tabOk cX9_factors T_X9_factors = true := by decide +kernel
set_option maxRecDepth 100000 in
theorem tk_X9_layTree : tabOk cX9_layTree T_X9_layTree = true := by decide +kernel
set_option maxRecDepth 100000 in
theorem tk_X9_treeRoad : tabOk cX9_treeRoad T_X9_treeRoad = true := by decide +kernel
set_option maxRecDepth 100000 in
theorem tk_X9_signs : tabOk cX9_signs T_X9_signs = true := by decide +kernel
set_option maxRecDepth 100000 in
theorem tk_X9_isRoad : tabOk cX9_isRoad T_X9_isRoad = true := by decide +kernel
set_option maxRecDepth 100000 in
theorem tk_X9_layRoad : tabOk cX9_layRoad T_X9_layRoad = true := by decide +kernel
set_option maxRecDepth 100000 in
theorem tk_X9_road : tabOk cX9_road T_X9_road = true := by decide +kernel
set_option maxRecDepth 100000 in
theorem tk_X9_step : tabOk cX9_step T_X9_step = true := by decide +kernel
set_option maxRecDepth 100000 in
theorem tk_X9_good : tabOk cX9_good T_X9_good = true := by decide +kernel
set_option maxRecDepth 100000 in
theorem tk_X9_price : tabOk cX9_price T_X9_price = true := by decide +kernel
set_option maxRecDepth 100000 in
theorem tk_X9_costOf : tabOk cX9_costOf T_X9_costOf = true := by decide +kernel
set_option maxRecDepth 100000 in
theorem tk_X9_costs : tabOk cX9_costs T_X9_costs = true := by decide +kernel
set_option maxRecDepth 100000 in
theorem tk_X9_cheapest : tabOk cX9_cheapest T_X9_cheapest = true := by decide +kernel
set_option maxRecDepth 100000 in
theorem tk_X9_write : tabOk cX9_write T_X9_write = true := by decide +kernel
set_option maxRecDepth 100000 in
theorem tk_X9_wipe : tabOk cX9_wipe T_X9_wipe = true := by decide +kernel
set_option maxRecDepth 100000 in
theorem tk_X9_isRead : tabOk cX9_isRead T_X9_isRead = true := by decide +kernel
set_option maxRecDepth 100000 in
theorem tk_X9_may : tabOk cX9_may T_X9_may = true := by decide +kernel
set_option maxRecDepth 100000 in
theorem tk_X9_readAll : tabOk cX9_readAll T_X9_readAll = true := by decide +kernel
set_option maxRecDepth 100000 in
theorem tk_X9_fault : tabOk cX9_fault T_X9_fault = true := by decide +kernel
set_option maxRecDepth 100000 in
theorem tk_X9_take : tabOk cX9_take T_X9_take = true := by decide +kernel
set_option maxRecDepth 100000 in
theorem tk_X9_chain : tabOk cX9_chain T_X9_chain = true := by decide +kernel
set_option maxRecDepth 100000 in
theorem tk_X9_layUses : tabOk cX9_layUses T_X9_layUses = true := by decide +kernel
set_option maxRecDepth 100000 in
theorem tk_X9_uses : tabOk cX9_uses T_X9_uses = true := by decide +kernel
set_option maxRecDepth 100000 in
theorem tk_X9_drawers : tabOk cX9_drawers T_X9_drawers = true := by decide +kernel
set_option maxRecDepth 100000 in
theorem tk_X9_power : tabOk cX9_power T_X9_power = true := by decide +kernel
set_option maxRecDepth 100000 in
theorem tk_X9_count : tabOk cX9_count T_X9_count = true := by decide +kernel
set_option maxRecDepth 100000 in
theorem tk_J9_abs_0f7a4 : tabOk cJ9_abs_0f7a4 T_J9_abs_0f7a4 = true := by decide +kernel
set_option maxRecDepth 100000 in
theorem tk_J9_max_7cf53 : tabOk cJ9_max_7cf53 T_J9_max_7cf53 = true := by decide +kernel
set_option maxRecDepth 100000 in
theorem tk_J9_min_7cf53 : tabOk cJ9_min_7cf53 T_J9_min_7cf53 = true := by decide +kernel
set_option maxRecDepth 100000 in
theorem tk_L_law : tabOk cL_law T_L_law = true := by decide +kernel

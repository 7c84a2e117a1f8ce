def M_X0_init : MC := (yX0_init, 0, cX0_init, T_X0_init, 2, none)
set_option maxRecDepth 100000 in
theorem ok_X0_init : mkI M_X0_init 1 = true := by decide +kernel
def M_X0_changePrice : MC := (yX0_changePrice, 0, cX0_changePrice, T_X0_changePrice, 4, (some .int))
set_option maxRecDepth 100000 in
theorem ok_X0_changePrice : mkV M_X0_changePrice 2 = true := by decide +kernel
def M_X0_leastPrice : MC := (yX0_leastPrice, 0, cX0_leastPrice, T_X0_leastPrice, 3, (some .int))
set_option maxRecDepth 100000 in
theorem ok_X0_leastPrice : mkV M_X0_leastPrice 1 = true := by decide +kernel
def M_X0_climb : MC := (yX0_climb, 0, cX0_climb, T_X0_climb, 7, (some .boolean))
set_option maxRecDepth 100000 in
theorem ok_X0_climb : mkV M_X0_climb 2 = true := by decide +kernel
def M_X0_priceOf : MC := (yX0_priceOf, 0, cX0_priceOf, T_X0_priceOf, 4, (some .int))
set_option maxRecDepth 100000 in
theorem ok_X0_priceOf : mkV M_X0_priceOf 1 = true := by decide +kernel
def M_X0_inReach : MC := (yX0_inReach, 0, cX0_inReach, T_X0_inReach, 4, (some .boolean))
set_option maxRecDepth 100000 in
theorem ok_X0_inReach : mkV M_X0_inReach 2 = true := by decide +kernel
def M_X1_init : MC := (yX1_init, 1, cX1_init, T_X1_init, 1, none)
set_option maxRecDepth 100000 in
theorem ok_X1_init : mkI M_X1_init 0 = true := by decide +kernel
def M_X1_clear : MC := (yX1_clear, 1, cX1_clear, T_X1_clear, 2, none)
set_option maxRecDepth 100000 in
theorem ok_X1_clear : mkV M_X1_clear 1 = true := by decide +kernel
def M_X1_steps : MC := (yX1_steps, 1, cX1_steps, T_X1_steps, 1, (some .int))
set_option maxRecDepth 100000 in
theorem ok_X1_steps : mkV M_X1_steps 0 = true := by decide +kernel
def M_X1_doublings : MC := (yX1_doublings, 1, cX1_doublings, T_X1_doublings, 1, (some .int))
set_option maxRecDepth 100000 in
theorem ok_X1_doublings : mkV M_X1_doublings 0 = true := by decide +kernel
def M_X1_numberAt : MC := (yX1_numberAt, 1, cX1_numberAt, T_X1_numberAt, 2, (some .int))
set_option maxRecDepth 100000 in
theorem ok_X1_numberAt : mkV M_X1_numberAt 1 = true := by decide +kernel
def M_X1_usesAt : MC := (yX1_usesAt, 1, cX1_usesAt, T_X1_usesAt, 2, (some .int))
set_option maxRecDepth 100000 in
theorem ok_X1_usesAt : mkV M_X1_usesAt 1 = true := by decide +kernel
def M_X1_latest : MC := (yX1_latest, 1, cX1_latest, T_X1_latest, 1, (some .int))
set_option maxRecDepth 100000 in
theorem ok_X1_latest : mkV M_X1_latest 0 = true := by decide +kernel
def M_X1_add : MC := (yX1_add, 1, cX1_add, T_X1_add, 2, (some .boolean))
set_option maxRecDepth 100000 in
theorem ok_X1_add : mkV M_X1_add 1 = true := by decide +kernel
def M_X1_append : MC := (yX1_append, 1, cX1_append, T_X1_append, 2, (some .boolean))
set_option maxRecDepth 100000 in
theorem ok_X1_append : mkV M_X1_append 1 = true := by decide +kernel
def M_X1_useBoth : MC := (yX1_useBoth, 1, cX1_useBoth, T_X1_useBoth, 2, (some .boolean))
set_option maxRecDepth 100000 in
theorem ok_X1_useBoth : mkV M_X1_useBoth 1 = true := by decide +kernel
def M_X1_mayStandNext : MC := (yX1_mayStandNext, 1, cX1_mayStandNext, T_X1_mayStandNext, 2, (some .boolean))
set_option maxRecDepth 100000 in
theorem ok_X1_mayStandNext : mkV M_X1_mayStandNext 1 = true := by decide +kernel
def M_X1_placeOf : MC := (yX1_placeOf, 1, cX1_placeOf, T_X1_placeOf, 3, (some .int))
set_option maxRecDepth 100000 in
theorem ok_X1_placeOf : mkV M_X1_placeOf 1 = true := by decide +kernel
def M_X1_findSum : MC := (yX1_findSum, 1, cX1_findSum, T_X1_findSum, 6, none)
set_option maxRecDepth 100000 in
theorem ok_X1_findSum : mkV M_X1_findSum 1 = true := by decide +kernel
def M_X1_letsAdd : MC := (yX1_letsAdd, 1, cX1_letsAdd, T_X1_letsAdd, 3, (some .boolean))
set_option maxRecDepth 100000 in
theorem ok_X1_letsAdd : mkV M_X1_letsAdd 2 = true := by decide +kernel
def M_X1_findDifference : MC := (yX1_findDifference, 1, cX1_findDifference, T_X1_findDifference, 5, none)
set_option maxRecDepth 100000 in
theorem ok_X1_findDifference : mkV M_X1_findDifference 1 = true := by decide +kernel
def M_X1_mostAtOnce : MC := (yX1_mostAtOnce, 1, cX1_mostAtOnce, T_X1_mostAtOnce, 3, (some .int))
set_option maxRecDepth 100000 in
theorem ok_X1_mostAtOnce : mkV M_X1_mostAtOnce 0 = true := by decide +kernel
def M_X1_wantedFrom : MC := (yX1_wantedFrom, 1, cX1_wantedFrom, T_X1_wantedFrom, 5, (some .int))
set_option maxRecDepth 100000 in
theorem ok_X1_wantedFrom : mkV M_X1_wantedFrom 2 = true := by decide +kernel
def M_X2_init : MC := (yX2_init, 2, cX2_init, T_X2_init, 2, none)
set_option maxRecDepth 100000 in
theorem ok_X2_init : mkI M_X2_init 1 = true := by decide +kernel
def M_X2_size : MC := (yX2_size, 2, cX2_size, T_X2_size, 1, (some .int))
set_option maxRecDepth 100000 in
theorem ok_X2_size : mkV M_X2_size 0 = true := by decide +kernel
def M_X2_clear : MC := (yX2_clear, 2, cX2_clear, T_X2_clear, 1, none)
set_option maxRecDepth 100000 in
theorem ok_X2_clear : mkV M_X2_clear 0 = true := by decide +kernel
def M_X2_holds : MC := (yX2_holds, 2, cX2_holds, T_X2_holds, 3, (some .boolean))
set_option maxRecDepth 100000 in
theorem ok_X2_holds : mkV M_X2_holds 1 = true := by decide +kernel
def M_X2_insert : MC := (yX2_insert, 2, cX2_insert, T_X2_insert, 4, none)
set_option maxRecDepth 100000 in
theorem ok_X2_insert : mkV M_X2_insert 1 = true := by decide +kernel
def M_X2_fewestSteps : MC := (yX2_fewestSteps, 2, cX2_fewestSteps, T_X2_fewestSteps, 2, (some .int))
set_option maxRecDepth 100000 in
theorem ok_X2_fewestSteps : mkV M_X2_fewestSteps 0 = true := by decide +kernel
def M_X2_climb : MC := (yX2_climb, 2, cX2_climb, T_X2_climb, 9, (some .boolean))
set_option maxRecDepth 100000 in
theorem ok_X2_climb : mkV M_X2_climb 2 = true := by decide +kernel
def M_X2_lowest : MC := (yX2_lowest, 2, cX2_lowest, T_X2_lowest, 5, (some .int))
set_option maxRecDepth 100000 in
theorem ok_X2_lowest : mkV M_X2_lowest 2 = true := by decide +kernel
def M_X3_init : MC := (yX3_init, 3, cX3_init, T_X3_init, 6, none)
set_option maxRecDepth 100000 in
theorem ok_X3_init : mkI M_X3_init 0 = true := by decide +kernel
def M_X3_sizeWithThousand : MC := (yX3_sizeWithThousand, 3, cX3_sizeWithThousand, T_X3_sizeWithThousand, 1, (some .int))
set_option maxRecDepth 100000 in
theorem ok_X3_sizeWithThousand : mkV M_X3_sizeWithThousand 0 = true := by decide +kernel
def M_X3_waySize : MC := (yX3_waySize, 3, cX3_waySize, T_X3_waySize, 1, (some .int))
set_option maxRecDepth 100000 in
theorem ok_X3_waySize : mkV M_X3_waySize 0 = true := by decide +kernel
def M_X3_wayAt : MC := (yX3_wayAt, 3, cX3_wayAt, T_X3_wayAt, 2, (some .int))
set_option maxRecDepth 100000 in
theorem ok_X3_wayAt : mkV M_X3_wayAt 1 = true := by decide +kernel
def M_X3_findWay : MC := (yX3_findWay, 3, cX3_findWay, T_X3_findWay, 6, none)
set_option maxRecDepth 100000 in
theorem ok_X3_findWay : mkV M_X3_findWay 1 = true := by decide +kernel
def M_X3_growBelow : MC := (yX3_growBelow, 3, cX3_growBelow, T_X3_growBelow, 5, none)
set_option maxRecDepth 100000 in
theorem ok_X3_growBelow : mkV M_X3_growBelow 2 = true := by decide +kernel
def M_X4_init : MC := (yX4_init, 4, cX4_init, T_X4_init, 1, none)
set_option maxRecDepth 100000 in
theorem ok_X4_init : mkI M_X4_init 0 = true := by decide +kernel
def M_X4_build : MC := (yX4_build, 4, cX4_build, T_X4_build, 4, none)
set_option maxRecDepth 100000 in
theorem ok_X4_build : mkV M_X4_build 3 = true := by decide +kernel
def M_X4_steps : MC := (yX4_steps, 4, cX4_steps, T_X4_steps, 1, (some .int))
set_option maxRecDepth 100000 in
theorem ok_X4_steps : mkV M_X4_steps 0 = true := by decide +kernel
def M_X4_numberAt : MC := (yX4_numberAt, 4, cX4_numberAt, T_X4_numberAt, 2, (some .int))
set_option maxRecDepth 100000 in
theorem ok_X4_numberAt : mkV M_X4_numberAt 1 = true := by decide +kernel
def M_X4_treeSize : MC := (yX4_treeSize, 4, cX4_treeSize, T_X4_treeSize, 1, (some .int))
set_option maxRecDepth 100000 in
theorem ok_X4_treeSize : mkV M_X4_treeSize 0 = true := by decide +kernel
def M_X4_grownTree : MC := (yX4_grownTree, 4, cX4_grownTree, T_X4_grownTree, 1, (some (.object "SumChains$PowerTree")))
set_option maxRecDepth 100000 in
theorem ok_X4_grownTree : mkV M_X4_grownTree 0 = true := by decide +kernel
def M_X4_addHalves : MC := (yX4_addHalves, 4, cX4_addHalves, T_X4_addHalves, 4, none)
set_option maxRecDepth 100000 in
theorem ok_X4_addHalves : mkV M_X4_addHalves 1 = true := by decide +kernel
def M_X4_addSigns : MC := (yX4_addSigns, 4, cX4_addSigns, T_X4_addSigns, 5, none)
set_option maxRecDepth 100000 in
theorem ok_X4_addSigns : mkV M_X4_addSigns 1 = true := by decide +kernel
def M_X4_addDoubledAndFigure : MC := (yX4_addDoubledAndFigure, 4, cX4_addDoubledAndFigure, T_X4_addDoubledAndFigure, 3, (some .int))
set_option maxRecDepth 100000 in
theorem ok_X4_addDoubledAndFigure : mkV M_X4_addDoubledAndFigure 2 = true := by decide +kernel
def M_X4_addFigures : MC := (yX4_addFigures, 4, cX4_addFigures, T_X4_addFigures, 8, none)
set_option maxRecDepth 100000 in
theorem ok_X4_addFigures : mkV M_X4_addFigures 2 = true := by decide +kernel
def M_X4_addFactors : MC := (yX4_addFactors, 4, cX4_addFactors, T_X4_addFactors, 5, none)
set_option maxRecDepth 100000 in
theorem ok_X4_addFactors : mkV M_X4_addFactors 3 = true := by decide +kernel
def M_X4_leastPrime : MC := (yX4_leastPrime, 4, cX4_leastPrime, T_X4_leastPrime, 2, (some .int))
set_option maxRecDepth 100000 in
theorem ok_X4_leastPrime : mkS M_X4_leastPrime 1 = true := by decide +kernel
def M_X4_addWay : MC := (yX4_addWay, 4, cX4_addWay, T_X4_addWay, 4, none)
set_option maxRecDepth 100000 in
theorem ok_X4_addWay : mkV M_X4_addWay 1 = true := by decide +kernel
def M_X4_holds : MC := (yX4_holds, 4, cX4_holds, T_X4_holds, 3, (some .boolean))
set_option maxRecDepth 100000 in
theorem ok_X4_holds : mkV M_X4_holds 1 = true := by decide +kernel
def M_X4_add : MC := (yX4_add, 4, cX4_add, T_X4_add, 2, none)
set_option maxRecDepth 100000 in
theorem ok_X4_add : mkV M_X4_add 1 = true := by decide +kernel
def M_X5_init : MC := (yX5_init, 5, cX5_init, T_X5_init, 2, none)
set_option maxRecDepth 100000 in
theorem ok_X5_init : mkI M_X5_init 1 = true := by decide +kernel
def M_X5_stepsTo : MC := (yX5_stepsTo, 5, cX5_stepsTo, T_X5_stepsTo, 4, (some .int))
set_option maxRecDepth 100000 in
theorem ok_X5_stepsTo : mkV M_X5_stepsTo 2 = true := by decide +kernel
def M_X5_rowsTo : MC := (yX5_rowsTo, 5, cX5_rowsTo, T_X5_rowsTo, 3, (some .int))
set_option maxRecDepth 100000 in
theorem ok_X5_rowsTo : mkV M_X5_rowsTo 2 = true := by decide +kernel
def M_X5_numberOfFirst : MC := (yX5_numberOfFirst, 5, cX5_numberOfFirst, T_X5_numberOfFirst, 4, (some .int))
set_option maxRecDepth 100000 in
theorem ok_X5_numberOfFirst : mkV M_X5_numberOfFirst 3 = true := by decide +kernel
def M_X5_search : MC := (yX5_search, 5, cX5_search, T_X5_search, 5, (some .int))
set_option maxRecDepth 100000 in
theorem ok_X5_search : mkV M_X5_search 4 = true := by decide +kernel
def M_X5_climb : MC := (yX5_climb, 5, cX5_climb, T_X5_climb, 5, (some .int))
set_option maxRecDepth 100000 in
theorem ok_X5_climb : mkV M_X5_climb 1 = true := by decide +kernel
def M_X5_highest : MC := (yX5_highest, 5, cX5_highest, T_X5_highest, 1, (some .int))
set_option maxRecDepth 100000 in
theorem ok_X5_highest : mkV M_X5_highest 0 = true := by decide +kernel
def M_X5_lowest : MC := (yX5_lowest, 5, cX5_lowest, T_X5_lowest, 2, (some .int))
set_option maxRecDepth 100000 in
theorem ok_X5_lowest : mkV M_X5_lowest 1 = true := by decide +kernel
def M_X5_keep : MC := (yX5_keep, 5, cX5_keep, T_X5_keep, 3, (some .int))
set_option maxRecDepth 100000 in
theorem ok_X5_keep : mkV M_X5_keep 1 = true := by decide +kernel
def M_X5_keepNumber : MC := (yX5_keepNumber, 5, cX5_keepNumber, T_X5_keepNumber, 2, none)
set_option maxRecDepth 100000 in
theorem ok_X5_keepNumber : mkV M_X5_keepNumber 1 = true := by decide +kernel
def M_X6_init : MC := (yX6_init, 6, cX6_init, T_X6_init, 1, none)
set_option maxRecDepth 100000 in
theorem ok_X6_init : mkI M_X6_init 0 = true := by decide +kernel
def M_X6_size : MC := (yX6_size, 6, cX6_size, T_X6_size, 1, (some .int))
set_option maxRecDepth 100000 in
theorem ok_X6_size : mkV M_X6_size 0 = true := by decide +kernel
def M_X6_clear : MC := (yX6_clear, 6, cX6_clear, T_X6_clear, 1, none)
set_option maxRecDepth 100000 in
theorem ok_X6_clear : mkV M_X6_clear 0 = true := by decide +kernel
def M_X6_append : MC := (yX6_append, 6, cX6_append, T_X6_append, 5, none)
set_option maxRecDepth 100000 in
theorem ok_X6_append : mkV M_X6_append 2 = true := by decide +kernel
def M_X6_readInto : MC := (yX6_readInto, 6, cX6_readInto, T_X6_readInto, 6, (some .int))
set_option maxRecDepth 100000 in
theorem ok_X6_readInto : mkV M_X6_readInto 2 = true := by decide +kernel
def M_X6_endOfFigures : MC := (yX6_endOfFigures, 6, cX6_endOfFigures, T_X6_endOfFigures, 4, (some .int))
set_option maxRecDepth 100000 in
theorem ok_X6_endOfFigures : mkV M_X6_endOfFigures 1 = true := by decide +kernel
def M_X6_valueOf : MC := (yX6_valueOf, 6, cX6_valueOf, T_X6_valueOf, 5, (some .int))
set_option maxRecDepth 100000 in
theorem ok_X6_valueOf : mkV M_X6_valueOf 2 = true := by decide +kernel
def M_X7_init : MC := (yX7_init, 7, cX7_init, T_X7_init, 1, none)
set_option maxRecDepth 100000 in
theorem ok_X7_init : mkI M_X7_init 0 = true := by decide +kernel
def M_X7_begin : MC := (yX7_begin, 7, cX7_begin, T_X7_begin, 4, none)
set_option maxRecDepth 100000 in
theorem ok_X7_begin : mkV M_X7_begin 2 = true := by decide +kernel
def M_X7_put : MC := (yX7_put, 7, cX7_put, T_X7_put, 2, (some .boolean))
set_option maxRecDepth 100000 in
theorem ok_X7_put : mkV M_X7_put 1 = true := by decide +kernel
def M_X7_takeBack : MC := (yX7_takeBack, 7, cX7_takeBack, T_X7_takeBack, 2, none)
set_option maxRecDepth 100000 in
theorem ok_X7_takeBack : mkV M_X7_takeBack 0 = true := by decide +kernel
def M_X7_size : MC := (yX7_size, 7, cX7_size, T_X7_size, 1, (some .int))
set_option maxRecDepth 100000 in
theorem ok_X7_size : mkV M_X7_size 0 = true := by decide +kernel
def M_X7_numberAt : MC := (yX7_numberAt, 7, cX7_numberAt, T_X7_numberAt, 2, (some .int))
set_option maxRecDepth 100000 in
theorem ok_X7_numberAt : mkV M_X7_numberAt 1 = true := by decide +kernel
def M_X7_latest : MC := (yX7_latest, 7, cX7_latest, T_X7_latest, 1, (some .int))
set_option maxRecDepth 100000 in
theorem ok_X7_latest : mkV M_X7_latest 0 = true := by decide +kernel
def M_X7_stands : MC := (yX7_stands, 7, cX7_stands, T_X7_stands, 2, (some .boolean))
set_option maxRecDepth 100000 in
theorem ok_X7_stands : mkV M_X7_stands 1 = true := by decide +kernel
def M_X7_comes : MC := (yX7_comes, 7, cX7_comes, T_X7_comes, 2, (some .boolean))
set_option maxRecDepth 100000 in
theorem ok_X7_comes : mkV M_X7_comes 1 = true := by decide +kernel
def M_X7_waysTo : MC := (yX7_waysTo, 7, cX7_waysTo, T_X7_waysTo, 2, (some .int))
set_option maxRecDepth 100000 in
theorem ok_X7_waysTo : mkV M_X7_waysTo 1 = true := by decide +kernel
def M_X7_leadsOn : MC := (yX7_leadsOn, 7, cX7_leadsOn, T_X7_leadsOn, 4, (some .boolean))
set_option maxRecDepth 100000 in
theorem ok_X7_leadsOn : mkV M_X7_leadsOn 2 = true := by decide +kernel
def M_X7_changePairs : MC := (yX7_changePairs, 7, cX7_changePairs, T_X7_changePairs, 7, none)
set_option maxRecDepth 100000 in
theorem ok_X7_changePairs : mkV M_X7_changePairs 2 = true := by decide +kernel
def M_X8_init : MC := (yX8_init, 8, cX8_init, T_X8_init, 2, none)
set_option maxRecDepth 100000 in
theorem ok_X8_init : mkI M_X8_init 0 = true := by decide +kernel
def M_X8_fewest : MC := (yX8_fewest, 8, cX8_fewest, T_X8_fewest, 3, (some .int))
set_option maxRecDepth 100000 in
theorem ok_X8_fewest : mkV M_X8_fewest 2 = true := by decide +kernel
def M_X8_asFew : MC := (yX8_asFew, 8, cX8_asFew, T_X8_asFew, 3, (some .int))
set_option maxRecDepth 100000 in
theorem ok_X8_asFew : mkV M_X8_asFew 2 = true := by decide +kernel
def M_X8_first : MC := (yX8_first, 8, cX8_first, T_X8_first, 4, (some .int))
set_option maxRecDepth 100000 in
theorem ok_X8_first : mkV M_X8_first 3 = true := by decide +kernel
def M_X8_hardest : MC := (yX8_hardest, 8, cX8_hardest, T_X8_hardest, 4, (some .int))
set_option maxRecDepth 100000 in
theorem ok_X8_hardest : mkV M_X8_hardest 2 = true := by decide +kernel
def M_X8_goal : MC := (yX8_goal, 8, cX8_goal, T_X8_goal, 2, (some .int))
set_option maxRecDepth 100000 in
theorem ok_X8_goal : mkV M_X8_goal 1 = true := by decide +kernel
def M_X8_noGoals : MC := (yX8_noGoals, 8, cX8_noGoals, T_X8_noGoals, 2, (some .int))
set_option maxRecDepth 100000 in
theorem ok_X8_noGoals : mkV M_X8_noGoals 0 = true := by decide +kernel
def M_X8_together : MC := (yX8_together, 8, cX8_together, T_X8_together, 1, (some .int))
set_option maxRecDepth 100000 in
theorem ok_X8_together : mkV M_X8_together 0 = true := by decide +kernel
def M_X8_led : MC := (yX8_led, 8, cX8_led, T_X8_led, 3, (some .int))
set_option maxRecDepth 100000 in
theorem ok_X8_led : mkV M_X8_led 2 = true := by decide +kernel
def M_X8_isKind : MC := (yX8_isKind, 8, cX8_isKind, T_X8_isKind, 1, (some .boolean))
set_option maxRecDepth 100000 in
theorem ok_X8_isKind : mkS M_X8_isKind 1 = true := by decide +kernel
def M_X8_fewestMost : MC := (yX8_fewestMost, 8, cX8_fewestMost, T_X8_fewestMost, 1, (some .int))
set_option maxRecDepth 100000 in
theorem ok_X8_fewestMost : mkS M_X8_fewestMost 1 = true := by decide +kernel
def M_X8_asFewMost : MC := (yX8_asFewMost, 8, cX8_asFewMost, T_X8_asFewMost, 1, (some .int))
set_option maxRecDepth 100000 in
theorem ok_X8_asFewMost : mkS M_X8_asFewMost 1 = true := by decide +kernel
def M_X8_leastToReach : MC := (yX8_leastToReach, 8, cX8_leastToReach, T_X8_leastToReach, 3, (some .int))
set_option maxRecDepth 100000 in
theorem ok_X8_leastToReach : mkS M_X8_leastToReach 2 = true := by decide +kernel
def M_X8_road : MC := (yX8_road, 8, cX8_road, T_X8_road, 4, (some .int))
set_option maxRecDepth 100000 in
theorem ok_X8_road : mkV M_X8_road 3 = true := by decide +kernel
def M_X8_step : MC := (yX8_step, 8, cX8_step, T_X8_step, 5, (some .int))
set_option maxRecDepth 100000 in
theorem ok_X8_step : mkV M_X8_step 4 = true := by decide +kernel
def M_X8_good : MC := (yX8_good, 8, cX8_good, T_X8_good, 6, (some .int))
set_option maxRecDepth 100000 in
theorem ok_X8_good : mkV M_X8_good 3 = true := by decide +kernel
def M_X8_isRoad : MC := (yX8_isRoad, 8, cX8_isRoad, T_X8_isRoad, 3, (some .boolean))
set_option maxRecDepth 100000 in
theorem ok_X8_isRoad : mkS M_X8_isRoad 3 = true := by decide +kernel
def M_X8_price : MC := (yX8_price, 8, cX8_price, T_X8_price, 3, (some .int))
set_option maxRecDepth 100000 in
theorem ok_X8_price : mkV M_X8_price 2 = true := by decide +kernel
def M_X8_cheapest : MC := (yX8_cheapest, 8, cX8_cheapest, T_X8_cheapest, 2, (some .int))
set_option maxRecDepth 100000 in
theorem ok_X8_cheapest : mkV M_X8_cheapest 1 = true := by decide +kernel
def M_X8_write : MC := (yX8_write, 8, cX8_write, T_X8_write, 4, (some .int))
set_option maxRecDepth 100000 in
theorem ok_X8_write : mkV M_X8_write 2 = true := by decide +kernel
def M_X8_wipe : MC := (yX8_wipe, 8, cX8_wipe, T_X8_wipe, 2, (some .int))
set_option maxRecDepth 100000 in
theorem ok_X8_wipe : mkV M_X8_wipe 0 = true := by decide +kernel
def M_X8_fault : MC := (yX8_fault, 8, cX8_fault, T_X8_fault, 2, (some .int))
set_option maxRecDepth 100000 in
theorem ok_X8_fault : mkV M_X8_fault 1 = true := by decide +kernel
def M_X8_take : MC := (yX8_take, 8, cX8_take, T_X8_take, 3, (some .int))
set_option maxRecDepth 100000 in
theorem ok_X8_take : mkV M_X8_take 1 = true := by decide +kernel
def M_X8_chain : MC := (yX8_chain, 8, cX8_chain, T_X8_chain, 2, (some .int))
set_option maxRecDepth 100000 in
theorem ok_X8_chain : mkV M_X8_chain 1 = true := by decide +kernel
def M_X8_uses : MC := (yX8_uses, 8, cX8_uses, T_X8_uses, 2, (some .int))
set_option maxRecDepth 100000 in
theorem ok_X8_uses : mkV M_X8_uses 1 = true := by decide +kernel
def M_X8_drawers : MC := (yX8_drawers, 8, cX8_drawers, T_X8_drawers, 1, (some .int))
set_option maxRecDepth 100000 in
theorem ok_X8_drawers : mkV M_X8_drawers 0 = true := by decide +kernel
def M_X8_power : MC := (yX8_power, 8, cX8_power, T_X8_power, 7, (some .int))
set_option maxRecDepth 100000 in
theorem ok_X8_power : mkV M_X8_power 2 = true := by decide +kernel
def M_X8_count : MC := (yX8_count, 8, cX8_count, T_X8_count, 2, (some .int))
set_option maxRecDepth 100000 in
theorem ok_X8_count : mkV M_X8_count 1 = true := by decide +kernel
def M_X9_init : MC := (yX9_init, 9, cX9_init, T_X9_init, 1, none)
set_option maxRecDepth 100000 in
theorem ok_X9_init : mkI M_X9_init 0 = true := by decide +kernel
def M_X9_in : MC := (yX9_in, 9, cX9_in, T_X9_in, 6, (some .boolean))
set_option maxRecDepth 100000 in
theorem ok_X9_in : mkS M_X9_in 3 = true := by decide +kernel
def M_X9_isTold : MC := (yX9_isTold, 9, cX9_isTold, T_X9_isTold, 4, (some .boolean))
set_option maxRecDepth 100000 in
theorem ok_X9_isTold : mkV M_X9_isTold 2 = true := by decide +kernel
def M_X9_note : MC := (yX9_note, 9, cX9_note, T_X9_note, 4, none)
set_option maxRecDepth 100000 in
theorem ok_X9_note : mkV M_X9_note 3 = true := by decide +kernel
def M_X9_layComes : MC := (yX9_layComes, 9, cX9_layComes, T_X9_layComes, 9, none)
set_option maxRecDepth 100000 in
theorem ok_X9_layComes : mkV M_X9_layComes 3 = true := by decide +kernel
def M_X9_greatest : MC := (yX9_greatest, 9, cX9_greatest, T_X9_greatest, 4, (some .int))
set_option maxRecDepth 100000 in
theorem ok_X9_greatest : mkV M_X9_greatest 1 = true := by decide +kernel
def M_X9_search : MC := (yX9_search, 9, cX9_search, T_X9_search, 10, (some .int))
set_option maxRecDepth 100000 in
theorem ok_X9_search : mkV M_X9_search 4 = true := by decide +kernel
def M_X9_fewestOf : MC := (yX9_fewestOf, 9, cX9_fewestOf, T_X9_fewestOf, 4, (some .int))
set_option maxRecDepth 100000 in
theorem ok_X9_fewestOf : mkV M_X9_fewestOf 2 = true := by decide +kernel
def M_X9_isAsked : MC := (yX9_isAsked, 9, cX9_isAsked, T_X9_isAsked, 2, (some .boolean))
set_option maxRecDepth 100000 in
theorem ok_X9_isAsked : mkS M_X9_isAsked 2 = true := by decide +kernel
def M_X9_fewest : MC := (yX9_fewest, 9, cX9_fewest, T_X9_fewest, 3, (some .int))
set_option maxRecDepth 100000 in
theorem ok_X9_fewest : mkV M_X9_fewest 2 = true := by decide +kernel
def M_X9_asFew : MC := (yX9_asFew, 9, cX9_asFew, T_X9_asFew, 3, (some .int))
set_option maxRecDepth 100000 in
theorem ok_X9_asFew : mkV M_X9_asFew 2 = true := by decide +kernel
def M_X9_first : MC := (yX9_first, 9, cX9_first, T_X9_first, 5, (some .int))
set_option maxRecDepth 100000 in
theorem ok_X9_first : mkV M_X9_first 3 = true := by decide +kernel
def M_X9_hardest : MC := (yX9_hardest, 9, cX9_hardest, T_X9_hardest, 4, (some .int))
set_option maxRecDepth 100000 in
theorem ok_X9_hardest : mkV M_X9_hardest 2 = true := by decide +kernel
def M_X9_goal : MC := (yX9_goal, 9, cX9_goal, T_X9_goal, 3, (some .int))
set_option maxRecDepth 100000 in
theorem ok_X9_goal : mkV M_X9_goal 1 = true := by decide +kernel
def M_X9_noGoals : MC := (yX9_noGoals, 9, cX9_noGoals, T_X9_noGoals, 2, (some .int))
set_option maxRecDepth 100000 in
theorem ok_X9_noGoals : mkV M_X9_noGoals 0 = true := by decide +kernel
def M_X9_nextGoal : MC := (yX9_nextGoal, 9, cX9_nextGoal, T_X9_nextGoal, 4, (some .int))
set_option maxRecDepth 100000 in
theorem ok_X9_nextGoal : mkV M_X9_nextGoal 1 = true := by decide +kernel
def M_X9_reaches : MC := (yX9_reaches, 9, cX9_reaches, T_X9_reaches, 6, (some .boolean))
set_option maxRecDepth 100000 in
theorem ok_X9_reaches : mkV M_X9_reaches 1 = true := by decide +kernel
def M_X9_together : MC := (yX9_together, 9, cX9_together, T_X9_together, 2, (some .int))
set_option maxRecDepth 100000 in
theorem ok_X9_together : mkV M_X9_together 0 = true := by decide +kernel
def M_X9_rankOf : MC := (yX9_rankOf, 9, cX9_rankOf, T_X9_rankOf, 2, (some .int))
set_option maxRecDepth 100000 in
theorem ok_X9_rankOf : mkV M_X9_rankOf 1 = true := by decide +kernel
def M_X9_layPairs : MC := (yX9_layPairs, 9, cX9_layPairs, T_X9_layPairs, 12, none)
set_option maxRecDepth 100000 in
theorem ok_X9_layPairs : mkV M_X9_layPairs 3 = true := by decide +kernel
def M_X9_leads : MC := (yX9_leads, 9, cX9_leads, T_X9_leads, 7, (some .boolean))
set_option maxRecDepth 100000 in
theorem ok_X9_leads : mkV M_X9_leads 3 = true := by decide +kernel
def M_X9_led : MC := (yX9_led, 9, cX9_led, T_X9_led, 4, (some .int))
set_option maxRecDepth 100000 in
theorem ok_X9_led : mkV M_X9_led 2 = true := by decide +kernel
def M_X9_isThere : MC := (yX9_isThere, 9, cX9_isThere, T_X9_isThere, 3, (some .boolean))
set_option maxRecDepth 100000 in
theorem ok_X9_isThere : mkV M_X9_isThere 1 = true := by decide +kernel
def M_X9_go : MC := (yX9_go, 9, cX9_go, T_X9_go, 2, none)
set_option maxRecDepth 100000 in
theorem ok_X9_go : mkV M_X9_go 1 = true := by decide +kernel
def M_X9_halves : MC := (yX9_halves, 9, cX9_halves, T_X9_halves, 5, none)
set_option maxRecDepth 100000 in
theorem ok_X9_halves : mkV M_X9_halves 1 = true := by decide +kernel
def M_X9_figures : MC := (yX9_figures, 9, cX9_figures, T_X9_figures, 8, none)
set_option maxRecDepth 100000 in
theorem ok_X9_figures : mkV M_X9_figures 2 = true := by decide +kernel
def M_X9_leastPrime : MC := (yX9_leastPrime, 9, cX9_leastPrime, T_X9_leastPrime, 2, (some .int))
set_option maxRecDepth 100000 in
theorem ok_X9_leastPrime : mkS M_X9_leastPrime 1 = true := by decide +kernel
def M_X9_factors : MC := (yX9_factors, 9, cX9_factors, T_X9_factors, 6, none)
set_option maxRecDepth 100000 in
theorem ok_X9_factors : mkV M_X9_factors 1 = true := by decide +kernel
def M_X9_layTree : MC := (yX9_layTree, 9, cX9_layTree, T_X9_layTree, 8, none)
set_option maxRecDepth 100000 in
theorem ok_X9_layTree : mkV M_X9_layTree 1 = true := by decide +kernel
def M_X9_treeRoad : MC := (yX9_treeRoad, 9, cX9_treeRoad, T_X9_treeRoad, 4, none)
set_option maxRecDepth 100000 in
theorem ok_X9_treeRoad : mkV M_X9_treeRoad 1 = true := by decide +kernel
def M_X9_signs : MC := (yX9_signs, 9, cX9_signs, T_X9_signs, 5, none)
set_option maxRecDepth 100000 in
theorem ok_X9_signs : mkV M_X9_signs 1 = true := by decide +kernel
def M_X9_isRoad : MC := (yX9_isRoad, 9, cX9_isRoad, T_X9_isRoad, 3, (some .boolean))
set_option maxRecDepth 100000 in
theorem ok_X9_isRoad : mkS M_X9_isRoad 3 = true := by decide +kernel
def M_X9_layRoad : MC := (yX9_layRoad, 9, cX9_layRoad, T_X9_layRoad, 4, none)
set_option maxRecDepth 100000 in
theorem ok_X9_layRoad : mkV M_X9_layRoad 3 = true := by decide +kernel
def M_X9_road : MC := (yX9_road, 9, cX9_road, T_X9_road, 4, (some .int))
set_option maxRecDepth 100000 in
theorem ok_X9_road : mkV M_X9_road 3 = true := by decide +kernel
def M_X9_step : MC := (yX9_step, 9, cX9_step, T_X9_step, 5, (some .int))
set_option maxRecDepth 100000 in
theorem ok_X9_step : mkV M_X9_step 4 = true := by decide +kernel
def M_X9_good : MC := (yX9_good, 9, cX9_good, T_X9_good, 6, (some .int))
set_option maxRecDepth 100000 in
theorem ok_X9_good : mkV M_X9_good 3 = true := by decide +kernel
def M_X9_price : MC := (yX9_price, 9, cX9_price, T_X9_price, 4, (some .int))
set_option maxRecDepth 100000 in
theorem ok_X9_price : mkV M_X9_price 2 = true := by decide +kernel
def M_X9_costOf : MC := (yX9_costOf, 9, cX9_costOf, T_X9_costOf, 6, (some .int))
set_option maxRecDepth 100000 in
theorem ok_X9_costOf : mkV M_X9_costOf 2 = true := by decide +kernel
def M_X9_costs : MC := (yX9_costs, 9, cX9_costs, T_X9_costs, 8, (some .boolean))
set_option maxRecDepth 100000 in
theorem ok_X9_costs : mkV M_X9_costs 2 = true := by decide +kernel
def M_X9_cheapest : MC := (yX9_cheapest, 9, cX9_cheapest, T_X9_cheapest, 3, (some .int))
set_option maxRecDepth 100000 in
theorem ok_X9_cheapest : mkV M_X9_cheapest 1 = true := by decide +kernel
def M_X9_write : MC := (yX9_write, 9, cX9_write, T_X9_write, 5, (some .int))
set_option maxRecDepth 100000 in
theorem ok_X9_write : mkV M_X9_write 2 = true := by decide +kernel
def M_X9_wipe : MC := (yX9_wipe, 9, cX9_wipe, T_X9_wipe, 2, (some .int))
set_option maxRecDepth 100000 in
theorem ok_X9_wipe : mkV M_X9_wipe 0 = true := by decide +kernel
def M_X9_isRead : MC := (yX9_isRead, 9, cX9_isRead, T_X9_isRead, 3, (some .boolean))
set_option maxRecDepth 100000 in
theorem ok_X9_isRead : mkV M_X9_isRead 1 = true := by decide +kernel
def M_X9_may : MC := (yX9_may, 9, cX9_may, T_X9_may, 10, (some .boolean))
set_option maxRecDepth 100000 in
theorem ok_X9_may : mkV M_X9_may 2 = true := by decide +kernel
def M_X9_readAll : MC := (yX9_readAll, 9, cX9_readAll, T_X9_readAll, 5, (some .int))
set_option maxRecDepth 100000 in
theorem ok_X9_readAll : mkV M_X9_readAll 1 = true := by decide +kernel
def M_X9_fault : MC := (yX9_fault, 9, cX9_fault, T_X9_fault, 2, (some .int))
set_option maxRecDepth 100000 in
theorem ok_X9_fault : mkV M_X9_fault 1 = true := by decide +kernel
def M_X9_take : MC := (yX9_take, 9, cX9_take, T_X9_take, 3, (some .int))
set_option maxRecDepth 100000 in
theorem ok_X9_take : mkV M_X9_take 1 = true := by decide +kernel
def M_X9_chain : MC := (yX9_chain, 9, cX9_chain, T_X9_chain, 2, (some .int))
set_option maxRecDepth 100000 in
theorem ok_X9_chain : mkV M_X9_chain 1 = true := by decide +kernel
def M_X9_layUses : MC := (yX9_layUses, 9, cX9_layUses, T_X9_layUses, 3, none)
set_option maxRecDepth 100000 in
theorem ok_X9_layUses : mkV M_X9_layUses 0 = true := by decide +kernel
def M_X9_uses : MC := (yX9_uses, 9, cX9_uses, T_X9_uses, 2, (some .int))
set_option maxRecDepth 100000 in
theorem ok_X9_uses : mkV M_X9_uses 1 = true := by decide +kernel
def M_X9_drawers : MC := (yX9_drawers, 9, cX9_drawers, T_X9_drawers, 6, (some .int))
set_option maxRecDepth 100000 in
theorem ok_X9_drawers : mkV M_X9_drawers 0 = true := by decide +kernel
def M_X9_power : MC := (yX9_power, 9, cX9_power, T_X9_power, 8, (some .int))
set_option maxRecDepth 100000 in
theorem ok_X9_power : mkV M_X9_power 2 = true := by decide +kernel
def M_X9_count : MC := (yX9_count, 9, cX9_count, T_X9_count, 2, (some .int))
set_option maxRecDepth 100000 in
theorem ok_X9_count : mkV M_X9_count 1 = true := by decide +kernel
def M_J9_abs_0f7a4 : MC := (yJ9_abs_0f7a4, 11, cJ9_abs_0f7a4, T_J9_abs_0f7a4, 1, (some .int))
def M_J9_max_7cf53 : MC := (yJ9_max_7cf53, 11, cJ9_max_7cf53, T_J9_max_7cf53, 2, (some .int))
def M_J9_min_7cf53 : MC := (yJ9_min_7cf53, 11, cJ9_min_7cf53, T_J9_min_7cf53, 2, (some .int))
def M_L_law : MC := (yL_law, 10, cL_law, T_L_law, 4, (some .boolean))

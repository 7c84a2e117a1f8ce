set_option maxRecDepth 100000 in
theorem lk_0_X7_begin : lk 0 25 M_X7_begin = true := inB_at 570 (by decide +kernel) (by decide +kernel)
set_option maxRecDepth 100000 in
theorem lk_0_X0_climb : lk 0 31 M_X0_climb = true := inB_at 571 (by decide +kernel) (by decide +kernel)
set_option maxRecDepth 100000 in
theorem lk_0_X7_latest : lk 0 35 M_X7_latest = true := inB_at 575 (by decide +kernel) (by decide +kernel)
set_option maxRecDepth 100000 in
theorem lm_0_min : inB (.methodLink (RN 0) 39 Lib.Math.min.name) = true := inB_at 576 (by decide +kernel) (by decide +kernel)
set_option maxRecDepth 100000 in
theorem lk_0_X0_priceOf : lk 0 45 M_X0_priceOf = true := inB_at 577 (by decide +kernel) (by decide +kernel)
set_option maxRecDepth 100000 in
theorem lk_0_X7_comes : lk 0 49 M_X7_comes = true := inB_at 583 (by decide +kernel) (by decide +kernel)
set_option maxRecDepth 100000 in
theorem lk_0_X0_inReach : lk 0 53 M_X0_inReach = true := inB_at 584 (by decide +kernel) (by decide +kernel)
set_option maxRecDepth 100000 in
theorem lk_0_X7_put : lk 0 56 M_X7_put = true := inB_at 590 (by decide +kernel) (by decide +kernel)
set_option maxRecDepth 100000 in
theorem lk_0_X7_takeBack : lk 0 59 M_X7_takeBack = true := inB_at 591 (by decide +kernel) (by decide +kernel)
set_option maxRecDepth 100000 in
theorem lk_0_X7_stands : lk 0 62 M_X7_stands = true := inB_at 581 (by decide +kernel) (by decide +kernel)
set_option maxRecDepth 100000 in
theorem lk_0_X7_waysTo : lk 0 65 M_X7_waysTo = true := inB_at 582 (by decide +kernel) (by decide +kernel)
set_option maxRecDepth 100000 in
theorem lm_0_max : inB (.methodLink (RN 0) 68 Lib.Math.max.name) = true := inB_at 588 (by decide +kernel) (by decide +kernel)
set_option maxRecDepth 100000 in
theorem lk_1_X1_append : lk 1 37 M_X1_append = true := inB_at 212 (by decide +kernel) (by decide +kernel)
set_option maxRecDepth 100000 in
theorem lk_1_X1_numberAt : lk 1 41 M_X1_numberAt = true := inB_at 650 (by decide +kernel) (by decide +kernel)
set_option maxRecDepth 100000 in
theorem lm_1_max : inB (.methodLink (RN 1) 45 Lib.Math.max.name) = true := inB_at 654 (by decide +kernel) (by decide +kernel)
set_option maxRecDepth 100000 in
theorem lk_1_X1_mayStandNext : lk 1 51 M_X1_mayStandNext = true := inB_at 638 (by decide +kernel) (by decide +kernel)
set_option maxRecDepth 100000 in
theorem lk_1_X1_findSum : lk 1 54 M_X1_findSum = true := inB_at 655 (by decide +kernel) (by decide +kernel)
set_option maxRecDepth 100000 in
theorem lk_1_X1_findDifference : lk 1 58 M_X1_findDifference = true := inB_at 663 (by decide +kernel) (by decide +kernel)
set_option maxRecDepth 100000 in
theorem lk_1_X1_useBoth : lk 1 61 M_X1_useBoth = true := inB_at 667 (by decide +kernel) (by decide +kernel)
set_option maxRecDepth 100000 in
theorem lk_1_X1_placeOf : lk 1 64 M_X1_placeOf = true := inB_at 642 (by decide +kernel) (by decide +kernel)
set_option maxRecDepth 100000 in
theorem lk_1_X1_latest : lk 1 67 M_X1_latest = true := inB_at 646 (by decide +kernel) (by decide +kernel)
set_option maxRecDepth 100000 in
theorem lk_1_X1_letsAdd : lk 1 71 M_X1_letsAdd = true := inB_at 659 (by decide +kernel) (by decide +kernel)
set_option maxRecDepth 100000 in
theorem lk_1_X1_wantedFrom : lk 1 75 M_X1_wantedFrom = true := inB_at 700 (by decide +kernel) (by decide +kernel)
set_option maxRecDepth 100000 in
theorem lk_2_X2_holds : lk 2 23 M_X2_holds = true := inB_at 406 (by decide +kernel) (by decide +kernel)
set_option maxRecDepth 100000 in
theorem lk_2_X7_begin : lk 2 27 M_X7_begin = true := inB_at 423 (by decide +kernel) (by decide +kernel)
set_option maxRecDepth 100000 in
theorem lk_2_X2_climb : lk 2 33 M_X2_climb = true := inB_at 424 (by decide +kernel) (by decide +kernel)
set_option maxRecDepth 100000 in
theorem lk_2_X7_latest : lk 2 37 M_X7_latest = true := inB_at 428 (by decide +kernel) (by decide +kernel)
set_option maxRecDepth 100000 in
theorem lm_2_min : inB (.methodLink (RN 2) 41 Lib.Math.min.name) = true := inB_at 429 (by decide +kernel) (by decide +kernel)
set_option maxRecDepth 100000 in
theorem lk_2_X2_lowest : lk 2 47 M_X2_lowest = true := inB_at 430 (by decide +kernel) (by decide +kernel)
set_option maxRecDepth 100000 in
theorem lk_2_X7_comes : lk 2 50 M_X7_comes = true := inB_at 436 (by decide +kernel) (by decide +kernel)
set_option maxRecDepth 100000 in
theorem lk_2_X7_put : lk 2 53 M_X7_put = true := inB_at 437 (by decide +kernel) (by decide +kernel)
set_option maxRecDepth 100000 in
theorem lk_2_X7_takeBack : lk 2 56 M_X7_takeBack = true := inB_at 438 (by decide +kernel) (by decide +kernel)
set_option maxRecDepth 100000 in
theorem lm_2_max : inB (.methodLink (RN 2) 59 Lib.Math.max.name) = true := inB_at 434 (by decide +kernel) (by decide +kernel)
set_option maxRecDepth 100000 in
theorem lk_3_X3_growBelow : lk 3 31 M_X3_growBelow = true := inB_at 498 (by decide +kernel) (by decide +kernel)
set_option maxRecDepth 100000 in
theorem lk_3_X3_findWay : lk 3 35 M_X3_findWay = true := inB_at 502 (by decide +kernel) (by decide +kernel)
set_option maxRecDepth 100000 in
theorem lk_4_X4_addHalves : lk 4 23 M_X4_addHalves = true := inB_at 455 (by decide +kernel) (by decide +kernel)
set_option maxRecDepth 100000 in
theorem lk_4_X4_addFigures : lk 4 27 M_X4_addFigures = true := inB_at 471 (by decide +kernel) (by decide +kernel)
set_option maxRecDepth 100000 in
theorem lk_4_X4_add : lk 4 31 M_X4_add = true := inB_at 463 (by decide +kernel) (by decide +kernel)
set_option maxRecDepth 100000 in
theorem lk_4_X4_addFactors : lk 4 34 M_X4_addFactors = true := inB_at 477 (by decide +kernel) (by decide +kernel)
set_option maxRecDepth 100000 in
theorem lk_4_X4_addWay : lk 4 38 M_X4_addWay = true := inB_at 484 (by decide +kernel) (by decide +kernel)
set_option maxRecDepth 100000 in
theorem lk_4_X4_addSigns : lk 4 41 M_X4_addSigns = true := inB_at 534 (by decide +kernel) (by decide +kernel)
set_option maxRecDepth 100000 in
theorem lk_4_X4_grownTree : lk 4 44 M_X4_grownTree = true := inB_at 488 (by decide +kernel) (by decide +kernel)
set_option maxRecDepth 100000 in
theorem lk_4_X3_sizeWithThousand : lk 4 48 M_X3_sizeWithThousand = true := inB_at 722 (by decide +kernel) (by decide +kernel)
set_option maxRecDepth 100000 in
theorem lk_4_X3_init : lk 4 54 M_X3_init = true := inB_at 494 (by decide +kernel) (by decide +kernel)
set_option maxRecDepth 100000 in
theorem lk_4_X4_addDoubledAndFigure : lk 4 55 M_X4_addDoubledAndFigure = true := inB_at 459 (by decide +kernel) (by decide +kernel)
set_option maxRecDepth 100000 in
theorem lm_4_min : inB (.methodLink (RN 4) 59 Lib.Math.min.name) = true := inB_at 475 (by decide +kernel) (by decide +kernel)
set_option maxRecDepth 100000 in
theorem lm_4_max : inB (.methodLink (RN 4) 64 Lib.Math.max.name) = true := inB_at 476 (by decide +kernel) (by decide +kernel)
set_option maxRecDepth 100000 in
theorem lk_4_X4_leastPrime : lk 4 67 M_X4_leastPrime = true := inB_at 481 (by decide +kernel) (by decide +kernel)
set_option maxRecDepth 100000 in
theorem lk_4_X3_findWay : lk 4 71 M_X3_findWay = true := inB_at 525 (by decide +kernel) (by decide +kernel)
set_option maxRecDepth 100000 in
theorem lk_4_X3_waySize : lk 4 74 M_X3_waySize = true := inB_at 526 (by decide +kernel) (by decide +kernel)
set_option maxRecDepth 100000 in
theorem lk_4_X3_wayAt : lk 4 77 M_X3_wayAt = true := inB_at 530 (by decide +kernel) (by decide +kernel)
set_option maxRecDepth 100000 in
theorem lk_4_X4_holds : lk 4 80 M_X4_holds = true := inB_at 467 (by decide +kernel) (by decide +kernel)
set_option maxRecDepth 100000 in
theorem lk_5_X5_search : lk 5 47 M_X5_search = true := inB_at 280 (by decide +kernel) (by decide +kernel)
set_option maxRecDepth 100000 in
theorem lk_5_X5_stepsTo : lk 5 51 M_X5_stepsTo = true := inB_at 377 (by decide +kernel) (by decide +kernel)
set_option maxRecDepth 100000 in
theorem lk_5_X7_begin : lk 5 55 M_X7_begin = true := inB_at 284 (by decide +kernel) (by decide +kernel)
set_option maxRecDepth 100000 in
theorem lk_5_X5_climb : lk 5 61 M_X5_climb = true := inB_at 311 (by decide +kernel) (by decide +kernel)
set_option maxRecDepth 100000 in
theorem lk_5_X7_comes : lk 5 65 M_X7_comes = true := inB_at 315 (by decide +kernel) (by decide +kernel)
set_option maxRecDepth 100000 in
theorem lk_5_X5_keep : lk 5 69 M_X5_keep = true := inB_at 327 (by decide +kernel) (by decide +kernel)
set_option maxRecDepth 100000 in
theorem lk_5_X5_lowest : lk 5 72 M_X5_lowest = true := inB_at 340 (by decide +kernel) (by decide +kernel)
set_option maxRecDepth 100000 in
theorem lk_5_X5_highest : lk 5 75 M_X5_highest = true := inB_at 355 (by decide +kernel) (by decide +kernel)
set_option maxRecDepth 100000 in
theorem lk_5_X7_leadsOn : lk 5 79 M_X7_leadsOn = true := inB_at 360 (by decide +kernel) (by decide +kernel)
set_option maxRecDepth 100000 in
theorem lk_5_X7_put : lk 5 83 M_X7_put = true := inB_at 364 (by decide +kernel) (by decide +kernel)
set_option maxRecDepth 100000 in
theorem lk_5_X7_takeBack : lk 5 86 M_X7_takeBack = true := inB_at 365 (by decide +kernel) (by decide +kernel)
set_option maxRecDepth 100000 in
theorem lk_5_X7_latest : lk 5 89 M_X7_latest = true := inB_at 344 (by decide +kernel) (by decide +kernel)
set_option maxRecDepth 100000 in
theorem lm_5_min : inB (.methodLink (RN 5) 92 Lib.Math.min.name) = true := inB_at 359 (by decide +kernel) (by decide +kernel)
set_option maxRecDepth 100000 in
theorem lm_5_max : inB (.methodLink (RN 5) 100 Lib.Math.max.name) = true := inB_at 354 (by decide +kernel) (by decide +kernel)
set_option maxRecDepth 100000 in
theorem lk_5_X7_size : lk 5 103 M_X7_size = true := inB_at 331 (by decide +kernel) (by decide +kernel)
set_option maxRecDepth 100000 in
theorem lk_5_X7_numberAt : lk 5 106 M_X7_numberAt = true := inB_at 335 (by decide +kernel) (by decide +kernel)
set_option maxRecDepth 100000 in
theorem lk_5_X5_keepNumber : lk 5 109 M_X5_keepNumber = true := inB_at 336 (by decide +kernel) (by decide +kernel)
set_option maxRecDepth 100000 in
theorem lm_6_min : inB (.methodLink (RN 6) 19 Lib.Math.min.name) = true := inB_at 604 (by decide +kernel) (by decide +kernel)
set_option maxRecDepth 100000 in
theorem lk_6_X1_clear : lk 6 25 M_X1_clear = true := inB_at 621 (by decide +kernel) (by decide +kernel)
set_option maxRecDepth 100000 in
theorem lk_6_X6_endOfFigures : lk 6 31 M_X6_endOfFigures = true := inB_at 625 (by decide +kernel) (by decide +kernel)
set_option maxRecDepth 100000 in
theorem lk_6_X6_valueOf : lk 6 35 M_X6_valueOf = true := inB_at 630 (by decide +kernel) (by decide +kernel)
set_option maxRecDepth 100000 in
theorem lk_6_X1_add : lk 6 38 M_X1_add = true := inB_at 634 (by decide +kernel) (by decide +kernel)
set_option maxRecDepth 100000 in
theorem lm_6_max : inB (.methodLink (RN 6) 42 Lib.Math.max.name) = true := inB_at 629 (by decide +kernel) (by decide +kernel)
set_option maxRecDepth 100000 in
theorem lk_7_X7_takeBack : lk 7 29 M_X7_takeBack = true := inB_at 288 (by decide +kernel) (by decide +kernel)
set_option maxRecDepth 100000 in
theorem lk_7_X7_put : lk 7 32 M_X7_put = true := inB_at 307 (by decide +kernel) (by decide +kernel)
set_option maxRecDepth 100000 in
theorem lk_7_X7_changePairs : lk 7 36 M_X7_changePairs = true := inB_at 300 (by decide +kernel) (by decide +kernel)
set_option maxRecDepth 100000 in
theorem lk_7_X7_latest : lk 7 40 M_X7_latest = true := inB_at 292 (by decide +kernel) (by decide +kernel)
set_option maxRecDepth 100000 in
theorem lk_7_X7_numberAt : lk 7 44 M_X7_numberAt = true := inB_at 296 (by decide +kernel) (by decide +kernel)
set_option maxRecDepth 100000 in
theorem lk_7_X7_stands : lk 7 48 M_X7_stands = true := inB_at 319 (by decide +kernel) (by decide +kernel)
set_option maxRecDepth 100000 in
theorem lk_7_X7_waysTo : lk 7 51 M_X7_waysTo = true := inB_at 323 (by decide +kernel) (by decide +kernel)
set_option maxRecDepth 100000 in
theorem lm_7_abs : inB (.methodLink (RN 7) 54 Lib.Math.abs.name) = true := inB_at 304 (by decide +kernel) (by decide +kernel)
set_option maxRecDepth 100000 in
theorem lk_8_X5_init : lk 8 14 M_X5_init = true := inB_at 104 (by decide +kernel) (by decide +kernel)
set_option maxRecDepth 100000 in
theorem lk_8_X2_init : lk 8 23 M_X2_init = true := inB_at 143 (by decide +kernel) (by decide +kernel)
set_option maxRecDepth 100000 in
theorem lk_8_X0_init : lk 8 33 M_X0_init = true := inB_at 159 (by decide +kernel) (by decide +kernel)
set_option maxRecDepth 100000 in
theorem lk_8_X1_init : lk 8 54 M_X1_init = true := inB_at 208 (by decide +kernel) (by decide +kernel)
set_option maxRecDepth 100000 in
theorem lk_8_X8_fewestMost : lk 8 62 M_X8_fewestMost = true := inB_at 270 (by decide +kernel) (by decide +kernel)
set_option maxRecDepth 100000 in
theorem lk_8_X5_stepsTo : lk 8 66 M_X5_stepsTo = true := inB_at 276 (by decide +kernel) (by decide +kernel)
set_option maxRecDepth 100000 in
theorem lk_8_X8_asFewMost : lk 8 70 M_X8_asFewMost = true := inB_at 370 (by decide +kernel) (by decide +kernel)
set_option maxRecDepth 100000 in
theorem lk_8_X5_rowsTo : lk 8 73 M_X5_rowsTo = true := inB_at 373 (by decide +kernel) (by decide +kernel)
set_option maxRecDepth 100000 in
theorem lk_8_X5_numberOfFirst : lk 8 76 M_X5_numberOfFirst = true := inB_at 382 (by decide +kernel) (by decide +kernel)
set_option maxRecDepth 100000 in
theorem lk_8_X8_isKind : lk 8 80 M_X8_isKind = true := inB_at 273 (by decide +kernel) (by decide +kernel)
set_option maxRecDepth 100000 in
theorem lk_8_X2_holds : lk 8 84 M_X2_holds = true := inB_at 394 (by decide +kernel) (by decide +kernel)
set_option maxRecDepth 100000 in
theorem lk_8_X2_size : lk 8 87 M_X2_size = true := inB_at 398 (by decide +kernel) (by decide +kernel)
set_option maxRecDepth 100000 in
theorem lk_8_X2_insert : lk 8 91 M_X2_insert = true := inB_at 402 (by decide +kernel) (by decide +kernel)
set_option maxRecDepth 100000 in
theorem lk_8_X2_clear : lk 8 95 M_X2_clear = true := inB_at 411 (by decide +kernel) (by decide +kernel)
set_option maxRecDepth 100000 in
theorem lk_8_X2_fewestSteps : lk 8 98 M_X2_fewestSteps = true := inB_at 419 (by decide +kernel) (by decide +kernel)
set_option maxRecDepth 100000 in
theorem lm_8_min : inB (.methodLink (RN 8) 101 Lib.Math.min.name) = true := inB_at 348 (by decide +kernel) (by decide +kernel)
set_option maxRecDepth 100000 in
theorem lm_8_max : inB (.methodLink (RN 8) 106 Lib.Math.max.name) = true := inB_at 351 (by decide +kernel) (by decide +kernel)
set_option maxRecDepth 100000 in
theorem lk_8_X8_isRoad : lk 8 109 M_X8_isRoad = true := inB_at 447 (by decide +kernel) (by decide +kernel)
set_option maxRecDepth 100000 in
theorem lk_8_X4_build : lk 8 113 M_X4_build = true := inB_at 451 (by decide +kernel) (by decide +kernel)
set_option maxRecDepth 100000 in
theorem lk_8_X4_steps : lk 8 117 M_X4_steps = true := inB_at 538 (by decide +kernel) (by decide +kernel)
set_option maxRecDepth 100000 in
theorem lk_8_X4_numberAt : lk 8 120 M_X4_numberAt = true := inB_at 546 (by decide +kernel) (by decide +kernel)
set_option maxRecDepth 100000 in
theorem lk_8_X0_changePrice : lk 8 124 M_X0_changePrice = true := inB_at 558 (by decide +kernel) (by decide +kernel)
set_option maxRecDepth 100000 in
theorem lk_8_X0_leastPrice : lk 8 128 M_X0_leastPrice = true := inB_at 566 (by decide +kernel) (by decide +kernel)
set_option maxRecDepth 100000 in
theorem lk_8_X6_size : lk 8 131 M_X6_size = true := inB_at 596 (by decide +kernel) (by decide +kernel)
set_option maxRecDepth 100000 in
theorem lk_8_X6_append : lk 8 132 M_X6_append = true := inB_at 600 (by decide +kernel) (by decide +kernel)
set_option maxRecDepth 100000 in
theorem lk_8_X6_clear : lk 8 136 M_X6_clear = true := inB_at 609 (by decide +kernel) (by decide +kernel)
set_option maxRecDepth 100000 in
theorem lk_8_X6_readInto : lk 8 137 M_X6_readInto = true := inB_at 617 (by decide +kernel) (by decide +kernel)
set_option maxRecDepth 100000 in
theorem lk_8_X1_steps : lk 8 141 M_X1_steps = true := inB_at 675 (by decide +kernel) (by decide +kernel)
set_option maxRecDepth 100000 in
theorem lk_8_X1_numberAt : lk 8 142 M_X1_numberAt = true := inB_at 683 (by decide +kernel) (by decide +kernel)
set_option maxRecDepth 100000 in
theorem lk_8_X1_usesAt : lk 8 143 M_X1_usesAt = true := inB_at 688 (by decide +kernel) (by decide +kernel)
set_option maxRecDepth 100000 in
theorem lk_8_X1_mostAtOnce : lk 8 146 M_X1_mostAtOnce = true := inB_at 696 (by decide +kernel) (by decide +kernel)
set_option maxRecDepth 100000 in
theorem lk_8_X1_latest : lk 8 150 M_X1_latest = true := inB_at 709 (by decide +kernel) (by decide +kernel)
set_option maxRecDepth 100000 in
theorem lk_8_X1_doublings : lk 8 153 M_X1_doublings = true := inB_at 714 (by decide +kernel) (by decide +kernel)
set_option maxRecDepth 100000 in
theorem lk_8_X4_treeSize : lk 8 156 M_X4_treeSize = true := inB_at 718 (by decide +kernel) (by decide +kernel)
set_option maxRecDepth 100000 in
theorem lk_9_X9_in : lk 9 79 M_X9_in = true := inB_at 835 (by decide +kernel) (by decide +kernel)
set_option maxRecDepth 100000 in
theorem lk_9_X9_isTold : lk 9 83 M_X9_isTold = true := inB_at 852 (by decide +kernel) (by decide +kernel)
set_option maxRecDepth 100000 in
theorem lk_9_X9_note : lk 9 87 M_X9_note = true := inB_at 856 (by decide +kernel) (by decide +kernel)
set_option maxRecDepth 100000 in
theorem lk_9_X9_layComes : lk 9 91 M_X9_layComes = true := inB_at 848 (by decide +kernel) (by decide +kernel)
set_option maxRecDepth 100000 in
theorem lk_9_X9_greatest : lk 9 94 M_X9_greatest = true := inB_at 860 (by decide +kernel) (by decide +kernel)
set_option maxRecDepth 100000 in
theorem lk_9_X9_search : lk 9 98 M_X9_search = true := inB_at 844 (by decide +kernel) (by decide +kernel)
set_option maxRecDepth 100000 in
theorem lk_9_X9_isAsked : lk 9 108 M_X9_isAsked = true := inB_at 831 (by decide +kernel) (by decide +kernel)
set_option maxRecDepth 100000 in
theorem lk_9_X9_fewestOf : lk 9 111 M_X9_fewestOf = true := inB_at 840 (by decide +kernel) (by decide +kernel)
set_option maxRecDepth 100000 in
theorem lk_9_X9_nextGoal : lk 9 128 M_X9_nextGoal = true := inB_at 897 (by decide +kernel) (by decide +kernel)
set_option maxRecDepth 100000 in
theorem lk_9_X9_reaches : lk 9 131 M_X9_reaches = true := inB_at 893 (by decide +kernel) (by decide +kernel)
set_option maxRecDepth 100000 in
theorem lk_9_X9_rankOf : lk 9 135 M_X9_rankOf = true := inB_at 914 (by decide +kernel) (by decide +kernel)
set_option maxRecDepth 100000 in
theorem lk_9_X9_layPairs : lk 9 138 M_X9_layPairs = true := inB_at 910 (by decide +kernel) (by decide +kernel)
set_option maxRecDepth 100000 in
theorem lk_9_X9_leads : lk 9 143 M_X9_leads = true := inB_at 906 (by decide +kernel) (by decide +kernel)
set_option maxRecDepth 100000 in
theorem lk_9_X9_isThere : lk 9 150 M_X9_isThere = true := inB_at 940 (by decide +kernel) (by decide +kernel)
set_option maxRecDepth 100000 in
theorem lk_9_X9_go : lk 9 153 M_X9_go = true := inB_at 936 (by decide +kernel) (by decide +kernel)
set_option maxRecDepth 100000 in
theorem lk_9_X9_leastPrime : lk 9 157 M_X9_leastPrime = true := inB_at 952 (by decide +kernel) (by decide +kernel)
set_option maxRecDepth 100000 in
theorem lk_9_X9_layTree : lk 9 163 M_X9_layTree = true := inB_at 959 (by decide +kernel) (by decide +kernel)
set_option maxRecDepth 100000 in
theorem lk_9_X9_halves : lk 9 172 M_X9_halves = true := inB_at 932 (by decide +kernel) (by decide +kernel)
set_option maxRecDepth 100000 in
theorem lk_9_X9_figures : lk 9 175 M_X9_figures = true := inB_at 944 (by decide +kernel) (by decide +kernel)
set_option maxRecDepth 100000 in
theorem lk_9_X9_factors : lk 9 179 M_X9_factors = true := inB_at 948 (by decide +kernel) (by decide +kernel)
set_option maxRecDepth 100000 in
theorem lk_9_X9_treeRoad : lk 9 182 M_X9_treeRoad = true := inB_at 955 (by decide +kernel) (by decide +kernel)
set_option maxRecDepth 100000 in
theorem lk_9_X9_signs : lk 9 185 M_X9_signs = true := inB_at 963 (by decide +kernel) (by decide +kernel)
set_option maxRecDepth 100000 in
theorem lk_9_X9_isRoad : lk 9 187 M_X9_isRoad = true := inB_at 922 (by decide +kernel) (by decide +kernel)
set_option maxRecDepth 100000 in
theorem lk_9_X9_layRoad : lk 9 190 M_X9_layRoad = true := inB_at 928 (by decide +kernel) (by decide +kernel)
set_option maxRecDepth 100000 in
theorem lk_9_X9_costOf : lk 9 195 M_X9_costOf = true := inB_at 988 (by decide +kernel) (by decide +kernel)
set_option maxRecDepth 100000 in
theorem lk_9_X9_costs : lk 9 198 M_X9_costs = true := inB_at 984 (by decide +kernel) (by decide +kernel)
set_option maxRecDepth 100000 in
theorem lk_9_X9_isRead : lk 9 211 M_X9_isRead = true := inB_at 1018 (by decide +kernel) (by decide +kernel)
set_option maxRecDepth 100000 in
theorem lk_9_X9_may : lk 9 226 M_X9_may = true := inB_at 1014 (by decide +kernel) (by decide +kernel)
set_option maxRecDepth 100000 in
theorem lk_9_X9_readAll : lk 9 229 M_X9_readAll = true := inB_at 1006 (by decide +kernel) (by decide +kernel)
set_option maxRecDepth 100000 in
theorem lk_9_X9_layUses : lk 9 238 M_X9_layUses = true := inB_at 1034 (by decide +kernel) (by decide +kernel)
set_option maxRecDepth 100000 in
theorem lk_10_X8_init : lk 10 9 M_X8_init = true := inB_at 72 (by decide +kernel) (by decide +kernel)
set_option maxRecDepth 100000 in
theorem lk_10_X9_init : lk 10 12 M_X9_init = true := inB_at 728 (by decide +kernel) (by decide +kernel)
set_option maxRecDepth 100000 in
theorem lk_10_X8_fewest : lk 10 13 M_X8_fewest = true := inB_at 266 (by decide +kernel) (by decide +kernel)
set_option maxRecDepth 100000 in
theorem lk_10_X9_fewest : lk 10 17 M_X9_fewest = true := inB_at 827 (by decide +kernel) (by decide +kernel)
set_option maxRecDepth 100000 in
theorem lk_10_X8_asFew : lk 10 18 M_X8_asFew = true := inB_at 366 (by decide +kernel) (by decide +kernel)
set_option maxRecDepth 100000 in
theorem lk_10_X9_asFew : lk 10 21 M_X9_asFew = true := inB_at 864 (by decide +kernel) (by decide +kernel)
set_option maxRecDepth 100000 in
theorem lk_10_X8_first : lk 10 22 M_X8_first = true := inB_at 378 (by decide +kernel) (by decide +kernel)
set_option maxRecDepth 100000 in
theorem lk_10_X9_first : lk 10 26 M_X9_first = true := inB_at 870 (by decide +kernel) (by decide +kernel)
set_option maxRecDepth 100000 in
theorem lk_10_X8_hardest : lk 10 27 M_X8_hardest = true := inB_at 386 (by decide +kernel) (by decide +kernel)
set_option maxRecDepth 100000 in
theorem lk_10_X9_hardest : lk 10 30 M_X9_hardest = true := inB_at 874 (by decide +kernel) (by decide +kernel)
set_option maxRecDepth 100000 in
theorem lk_10_X8_goal : lk 10 31 M_X8_goal = true := inB_at 390 (by decide +kernel) (by decide +kernel)
set_option maxRecDepth 100000 in
theorem lk_10_X9_goal : lk 10 35 M_X9_goal = true := inB_at 879 (by decide +kernel) (by decide +kernel)
set_option maxRecDepth 100000 in
theorem lk_10_X8_noGoals : lk 10 36 M_X8_noGoals = true := inB_at 407 (by decide +kernel) (by decide +kernel)
set_option maxRecDepth 100000 in
theorem lk_10_X9_noGoals : lk 10 40 M_X9_noGoals = true := inB_at 885 (by decide +kernel) (by decide +kernel)
set_option maxRecDepth 100000 in
theorem lk_10_X8_together : lk 10 41 M_X8_together = true := inB_at 415 (by decide +kernel) (by decide +kernel)
set_option maxRecDepth 100000 in
theorem lk_10_X9_together : lk 10 44 M_X9_together = true := inB_at 889 (by decide +kernel) (by decide +kernel)
set_option maxRecDepth 100000 in
theorem lk_10_X8_led : lk 10 45 M_X8_led = true := inB_at 439 (by decide +kernel) (by decide +kernel)
set_option maxRecDepth 100000 in
theorem lk_10_X9_led : lk 10 48 M_X9_led = true := inB_at 901 (by decide +kernel) (by decide +kernel)
set_option maxRecDepth 100000 in
theorem lk_10_X8_road : lk 10 49 M_X8_road = true := inB_at 443 (by decide +kernel) (by decide +kernel)
set_option maxRecDepth 100000 in
theorem lk_10_X9_road : lk 10 52 M_X9_road = true := inB_at 918 (by decide +kernel) (by decide +kernel)
set_option maxRecDepth 100000 in
theorem lk_10_X8_step : lk 10 53 M_X8_step = true := inB_at 542 (by decide +kernel) (by decide +kernel)
set_option maxRecDepth 100000 in
theorem lk_10_X9_step : lk 10 57 M_X9_step = true := inB_at 967 (by decide +kernel) (by decide +kernel)
set_option maxRecDepth 100000 in
theorem lk_10_X8_good : lk 10 58 M_X8_good = true := inB_at 550 (by decide +kernel) (by decide +kernel)
set_option maxRecDepth 100000 in
theorem lk_10_X9_good : lk 10 61 M_X9_good = true := inB_at 971 (by decide +kernel) (by decide +kernel)
set_option maxRecDepth 100000 in
theorem lk_10_X8_price : lk 10 62 M_X8_price = true := inB_at 554 (by decide +kernel) (by decide +kernel)
set_option maxRecDepth 100000 in
theorem lk_10_X9_price : lk 10 65 M_X9_price = true := inB_at 976 (by decide +kernel) (by decide +kernel)
set_option maxRecDepth 100000 in
theorem lk_10_X8_cheapest : lk 10 66 M_X8_cheapest = true := inB_at 562 (by decide +kernel) (by decide +kernel)
set_option maxRecDepth 100000 in
theorem lk_10_X9_cheapest : lk 10 69 M_X9_cheapest = true := inB_at 980 (by decide +kernel) (by decide +kernel)
set_option maxRecDepth 100000 in
theorem lk_10_X8_write : lk 10 72 M_X8_write = true := inB_at 592 (by decide +kernel) (by decide +kernel)
set_option maxRecDepth 100000 in
theorem lk_10_X9_write : lk 10 76 M_X9_write = true := inB_at 992 (by decide +kernel) (by decide +kernel)
set_option maxRecDepth 100000 in
theorem lk_10_X8_wipe : lk 10 77 M_X8_wipe = true := inB_at 605 (by decide +kernel) (by decide +kernel)
set_option maxRecDepth 100000 in
theorem lk_10_X9_wipe : lk 10 80 M_X9_wipe = true := inB_at 998 (by decide +kernel) (by decide +kernel)
set_option maxRecDepth 100000 in
theorem lk_10_X8_fault : lk 10 81 M_X8_fault = true := inB_at 613 (by decide +kernel) (by decide +kernel)
set_option maxRecDepth 100000 in
theorem lk_10_X9_fault : lk 10 84 M_X9_fault = true := inB_at 1002 (by decide +kernel) (by decide +kernel)
set_option maxRecDepth 100000 in
theorem lk_10_X8_take : lk 10 85 M_X8_take = true := inB_at 671 (by decide +kernel) (by decide +kernel)
set_option maxRecDepth 100000 in
theorem lk_10_X9_take : lk 10 88 M_X9_take = true := inB_at 1022 (by decide +kernel) (by decide +kernel)
set_option maxRecDepth 100000 in
theorem lk_10_X8_chain : lk 10 89 M_X8_chain = true := inB_at 679 (by decide +kernel) (by decide +kernel)
set_option maxRecDepth 100000 in
theorem lk_10_X9_chain : lk 10 92 M_X9_chain = true := inB_at 1026 (by decide +kernel) (by decide +kernel)
set_option maxRecDepth 100000 in
theorem lk_10_X8_uses : lk 10 93 M_X8_uses = true := inB_at 684 (by decide +kernel) (by decide +kernel)
set_option maxRecDepth 100000 in
theorem lk_10_X9_uses : lk 10 96 M_X9_uses = true := inB_at 1030 (by decide +kernel) (by decide +kernel)
set_option maxRecDepth 100000 in
theorem lk_10_X8_drawers : lk 10 97 M_X8_drawers = true := inB_at 692 (by decide +kernel) (by decide +kernel)
set_option maxRecDepth 100000 in
theorem lk_10_X9_drawers : lk 10 100 M_X9_drawers = true := inB_at 1038 (by decide +kernel) (by decide +kernel)
set_option maxRecDepth 100000 in
theorem lk_10_X8_power : lk 10 101 M_X8_power = true := inB_at 704 (by decide +kernel) (by decide +kernel)
set_option maxRecDepth 100000 in
theorem lk_10_X9_power : lk 10 104 M_X9_power = true := inB_at 1042 (by decide +kernel) (by decide +kernel)
set_option maxRecDepth 100000 in
theorem lk_10_X8_count : lk 10 105 M_X8_count = true := inB_at 710 (by decide +kernel) (by decide +kernel)
set_option maxRecDepth 100000 in
theorem lk_10_X9_count : lk 10 108 M_X9_count = true := inB_at 1047 (by decide +kernel) (by decide +kernel)

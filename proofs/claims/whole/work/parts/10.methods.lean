theorem inB_at {w : Cond} (i : Nat) (h : lw_tbl[i]? = some w) (g : goodWord w = true) : inB w = true := by
  unfold inB
  rw [g, decide_eq_true (List.mem_of_getElem? h)]
  rfl
def mkB0 (M : MC) : Bool := decide (M.1.cls = RN M.2.1) && plainName M.1.cls && decide (M.1.cls ≠ "java/lang/invoke/MethodHandle") && decide (M.1.cls ≠ "java/lang/invoke/VarHandle") && decide (M.2.2.2.2.1 ≤ 40)
theorem mkB_of {M : MC} (h : mkB0 M = true) (h1 : inB (.code M.1 M.2.2.1 M.2.2.2.2.1 M.2.2.2.2.2) = true) (h2 : inB (.initialized M.1.cls) = true) : mkB M = true := by
  unfold mkB0 at h
  unfold mkB
  simp only [Bool.and_eq_true] at h ⊢
  exact ⟨⟨⟨⟨⟨⟨h.1.1.1.1, h.1.1.1.2⟩, h1⟩, h2⟩, h.1.1.2⟩, h.1.2⟩, h.2⟩
theorem mkV_of {M : MC} {k : Nat} (h : mkB0 M = true) (h1 : inB (.code M.1 M.2.2.1 M.2.2.2.2.1 M.2.2.2.2.2) = true) (h2 : inB (.initialized M.1.cls) = true) (h3 : mkN M k = true) (h4 : inB (.instanceMethod M.1) = true) (h5 : inB (.selects M.1.cls M.1 M.1) = true) : mkV M k = true := by
  unfold mkV
  rw [mkB_of h h1 h2, h3, h4, h5]
  rfl
theorem mkS_of {M : MC} {k : Nat} (h : mkB0 M = true) (h1 : inB (.code M.1 M.2.2.1 M.2.2.2.2.1 M.2.2.2.2.2) = true) (h2 : inB (.initialized M.1.cls) = true) (h3 : mkN M k = true) (h4 : inB (.static M.1) = true) : mkS M k = true := by
  unfold mkS
  rw [mkB_of h h1 h2, h3, h4]
  rfl
theorem mkI_of {M : MC} {k : Nat} (h : mkB0 M = true) (h1 : inB (.code M.1 M.2.2.1 M.2.2.2.2.1 M.2.2.2.2.2) = true) (h2 : inB (.initialized M.1.cls) = true) (h3 : mkN M k = true) (h4 : inB (.instanceMethod M.1) = true) (h5 : decide (M.1.name = "<init>") = true) (h6 : decide (M.2.2.2.2.2 = none) = true) : mkI M k = true := by
  unfold mkI
  rw [mkB_of h h1 h2, h3, h4, h5, h6]
  rfl
def M_X0_init : MC := (yX0_init, 0, cX0_init, T_X0_init, 2, none)
set_option maxRecDepth 100000 in
theorem ok_X0_init : mkI M_X0_init 1 = true := mkI_of (by decide +kernel) (inB_at 161 (by decide +kernel) (by decide +kernel)) (inB_at 63 (by decide +kernel) (by decide +kernel)) (by decide +kernel) (inB_at 160 (by decide +kernel) (by decide +kernel)) (by decide +kernel) (by decide +kernel)
def M_X0_changePrice : MC := (yX0_changePrice, 0, cX0_changePrice, T_X0_changePrice, 4, (some .int))
set_option maxRecDepth 100000 in
theorem ok_X0_changePrice : mkV M_X0_changePrice 2 = true := mkV_of (by decide +kernel) (inB_at 561 (by decide +kernel) (by decide +kernel)) (inB_at 63 (by decide +kernel) (by decide +kernel)) (by decide +kernel) (inB_at 559 (by decide +kernel) (by decide +kernel)) (inB_at 560 (by decide +kernel) (by decide +kernel))
def M_X0_leastPrice : MC := (yX0_leastPrice, 0, cX0_leastPrice, T_X0_leastPrice, 3, (some .int))
set_option maxRecDepth 100000 in
theorem ok_X0_leastPrice : mkV M_X0_leastPrice 1 = true := mkV_of (by decide +kernel) (inB_at 569 (by decide +kernel) (by decide +kernel)) (inB_at 63 (by decide +kernel) (by decide +kernel)) (by decide +kernel) (inB_at 567 (by decide +kernel) (by decide +kernel)) (inB_at 568 (by decide +kernel) (by decide +kernel))
def M_X0_climb : MC := (yX0_climb, 0, cX0_climb, T_X0_climb, 7, (some .boolean))
set_option maxRecDepth 100000 in
theorem ok_X0_climb : mkV M_X0_climb 2 = true := mkV_of (by decide +kernel) (inB_at 574 (by decide +kernel) (by decide +kernel)) (inB_at 63 (by decide +kernel) (by decide +kernel)) (by decide +kernel) (inB_at 573 (by decide +kernel) (by decide +kernel)) (inB_at 20 (by decide +kernel) (by decide +kernel))
def M_X0_priceOf : MC := (yX0_priceOf, 0, cX0_priceOf, T_X0_priceOf, 4, (some .int))
set_option maxRecDepth 100000 in
theorem ok_X0_priceOf : mkV M_X0_priceOf 1 = true := mkV_of (by decide +kernel) (inB_at 580 (by decide +kernel) (by decide +kernel)) (inB_at 63 (by decide +kernel) (by decide +kernel)) (by decide +kernel) (inB_at 579 (by decide +kernel) (by decide +kernel)) (inB_at 21 (by decide +kernel) (by decide +kernel))
def M_X0_inReach : MC := (yX0_inReach, 0, cX0_inReach, T_X0_inReach, 4, (some .boolean))
set_option maxRecDepth 100000 in
theorem ok_X0_inReach : mkV M_X0_inReach 2 = true := mkV_of (by decide +kernel) (inB_at 587 (by decide +kernel) (by decide +kernel)) (inB_at 63 (by decide +kernel) (by decide +kernel)) (by decide +kernel) (inB_at 586 (by decide +kernel) (by decide +kernel)) (inB_at 22 (by decide +kernel) (by decide +kernel))
def M_X1_init : MC := (yX1_init, 1, cX1_init, T_X1_init, 1, none)
set_option maxRecDepth 100000 in
theorem ok_X1_init : mkI M_X1_init 0 = true := mkI_of (by decide +kernel) (inB_at 210 (by decide +kernel) (by decide +kernel)) (inB_at 66 (by decide +kernel) (by decide +kernel)) (by decide +kernel) (inB_at 209 (by decide +kernel) (by decide +kernel)) (by decide +kernel) (by decide +kernel)
def M_X1_clear : MC := (yX1_clear, 1, cX1_clear, T_X1_clear, 2, none)
set_option maxRecDepth 100000 in
theorem ok_X1_clear : mkV M_X1_clear 1 = true := mkV_of (by decide +kernel) (inB_at 624 (by decide +kernel) (by decide +kernel)) (inB_at 66 (by decide +kernel) (by decide +kernel)) (by decide +kernel) (inB_at 622 (by decide +kernel) (by decide +kernel)) (inB_at 623 (by decide +kernel) (by decide +kernel))
def M_X1_steps : MC := (yX1_steps, 1, cX1_steps, T_X1_steps, 1, (some .int))
set_option maxRecDepth 100000 in
theorem ok_X1_steps : mkV M_X1_steps 0 = true := mkV_of (by decide +kernel) (inB_at 678 (by decide +kernel) (by decide +kernel)) (inB_at 66 (by decide +kernel) (by decide +kernel)) (by decide +kernel) (inB_at 676 (by decide +kernel) (by decide +kernel)) (inB_at 677 (by decide +kernel) (by decide +kernel))
def M_X1_doublings : MC := (yX1_doublings, 1, cX1_doublings, T_X1_doublings, 1, (some .int))
set_option maxRecDepth 100000 in
theorem ok_X1_doublings : mkV M_X1_doublings 0 = true := mkV_of (by decide +kernel) (inB_at 717 (by decide +kernel) (by decide +kernel)) (inB_at 66 (by decide +kernel) (by decide +kernel)) (by decide +kernel) (inB_at 715 (by decide +kernel) (by decide +kernel)) (inB_at 716 (by decide +kernel) (by decide +kernel))
def M_X1_numberAt : MC := (yX1_numberAt, 1, cX1_numberAt, T_X1_numberAt, 2, (some .int))
set_option maxRecDepth 100000 in
theorem ok_X1_numberAt : mkV M_X1_numberAt 1 = true := mkV_of (by decide +kernel) (inB_at 653 (by decide +kernel) (by decide +kernel)) (inB_at 66 (by decide +kernel) (by decide +kernel)) (by decide +kernel) (inB_at 651 (by decide +kernel) (by decide +kernel)) (inB_at 652 (by decide +kernel) (by decide +kernel))
def M_X1_usesAt : MC := (yX1_usesAt, 1, cX1_usesAt, T_X1_usesAt, 2, (some .int))
set_option maxRecDepth 100000 in
theorem ok_X1_usesAt : mkV M_X1_usesAt 1 = true := mkV_of (by decide +kernel) (inB_at 691 (by decide +kernel) (by decide +kernel)) (inB_at 66 (by decide +kernel) (by decide +kernel)) (by decide +kernel) (inB_at 689 (by decide +kernel) (by decide +kernel)) (inB_at 690 (by decide +kernel) (by decide +kernel))
def M_X1_latest : MC := (yX1_latest, 1, cX1_latest, T_X1_latest, 1, (some .int))
set_option maxRecDepth 100000 in
theorem ok_X1_latest : mkV M_X1_latest 0 = true := mkV_of (by decide +kernel) (inB_at 649 (by decide +kernel) (by decide +kernel)) (inB_at 66 (by decide +kernel) (by decide +kernel)) (by decide +kernel) (inB_at 647 (by decide +kernel) (by decide +kernel)) (inB_at 648 (by decide +kernel) (by decide +kernel))
def M_X1_add : MC := (yX1_add, 1, cX1_add, T_X1_add, 2, (some .boolean))
set_option maxRecDepth 100000 in
theorem ok_X1_add : mkV M_X1_add 1 = true := mkV_of (by decide +kernel) (inB_at 637 (by decide +kernel) (by decide +kernel)) (inB_at 66 (by decide +kernel) (by decide +kernel)) (by decide +kernel) (inB_at 635 (by decide +kernel) (by decide +kernel)) (inB_at 636 (by decide +kernel) (by decide +kernel))
def M_X1_append : MC := (yX1_append, 1, cX1_append, T_X1_append, 2, (some .boolean))
set_option maxRecDepth 100000 in
theorem ok_X1_append : mkV M_X1_append 1 = true := mkV_of (by decide +kernel) (inB_at 215 (by decide +kernel) (by decide +kernel)) (inB_at 66 (by decide +kernel) (by decide +kernel)) (by decide +kernel) (inB_at 214 (by decide +kernel) (by decide +kernel)) (inB_at 0 (by decide +kernel) (by decide +kernel))
def M_X1_useBoth : MC := (yX1_useBoth, 1, cX1_useBoth, T_X1_useBoth, 2, (some .boolean))
set_option maxRecDepth 100000 in
theorem ok_X1_useBoth : mkV M_X1_useBoth 1 = true := mkV_of (by decide +kernel) (inB_at 670 (by decide +kernel) (by decide +kernel)) (inB_at 66 (by decide +kernel) (by decide +kernel)) (by decide +kernel) (inB_at 669 (by decide +kernel) (by decide +kernel)) (inB_at 30 (by decide +kernel) (by decide +kernel))
def M_X1_mayStandNext : MC := (yX1_mayStandNext, 1, cX1_mayStandNext, T_X1_mayStandNext, 2, (some .boolean))
set_option maxRecDepth 100000 in
theorem ok_X1_mayStandNext : mkV M_X1_mayStandNext 1 = true := mkV_of (by decide +kernel) (inB_at 641 (by decide +kernel) (by decide +kernel)) (inB_at 66 (by decide +kernel) (by decide +kernel)) (by decide +kernel) (inB_at 640 (by decide +kernel) (by decide +kernel)) (inB_at 25 (by decide +kernel) (by decide +kernel))
def M_X1_placeOf : MC := (yX1_placeOf, 1, cX1_placeOf, T_X1_placeOf, 3, (some .int))
set_option maxRecDepth 100000 in
theorem ok_X1_placeOf : mkV M_X1_placeOf 1 = true := mkV_of (by decide +kernel) (inB_at 645 (by decide +kernel) (by decide +kernel)) (inB_at 66 (by decide +kernel) (by decide +kernel)) (by decide +kernel) (inB_at 644 (by decide +kernel) (by decide +kernel)) (inB_at 26 (by decide +kernel) (by decide +kernel))
def M_X1_findSum : MC := (yX1_findSum, 1, cX1_findSum, T_X1_findSum, 6, none)
set_option maxRecDepth 100000 in
theorem ok_X1_findSum : mkV M_X1_findSum 1 = true := mkV_of (by decide +kernel) (inB_at 658 (by decide +kernel) (by decide +kernel)) (inB_at 66 (by decide +kernel) (by decide +kernel)) (by decide +kernel) (inB_at 657 (by decide +kernel) (by decide +kernel)) (inB_at 27 (by decide +kernel) (by decide +kernel))
def M_X1_letsAdd : MC := (yX1_letsAdd, 1, cX1_letsAdd, T_X1_letsAdd, 3, (some .boolean))
set_option maxRecDepth 100000 in
theorem ok_X1_letsAdd : mkV M_X1_letsAdd 2 = true := mkV_of (by decide +kernel) (inB_at 662 (by decide +kernel) (by decide +kernel)) (inB_at 66 (by decide +kernel) (by decide +kernel)) (by decide +kernel) (inB_at 661 (by decide +kernel) (by decide +kernel)) (inB_at 28 (by decide +kernel) (by decide +kernel))
def M_X1_findDifference : MC := (yX1_findDifference, 1, cX1_findDifference, T_X1_findDifference, 5, none)
set_option maxRecDepth 100000 in
theorem ok_X1_findDifference : mkV M_X1_findDifference 1 = true := mkV_of (by decide +kernel) (inB_at 666 (by decide +kernel) (by decide +kernel)) (inB_at 66 (by decide +kernel) (by decide +kernel)) (by decide +kernel) (inB_at 665 (by decide +kernel) (by decide +kernel)) (inB_at 29 (by decide +kernel) (by decide +kernel))
def M_X1_mostAtOnce : MC := (yX1_mostAtOnce, 1, cX1_mostAtOnce, T_X1_mostAtOnce, 3, (some .int))
set_option maxRecDepth 100000 in
theorem ok_X1_mostAtOnce : mkV M_X1_mostAtOnce 0 = true := mkV_of (by decide +kernel) (inB_at 699 (by decide +kernel) (by decide +kernel)) (inB_at 66 (by decide +kernel) (by decide +kernel)) (by decide +kernel) (inB_at 697 (by decide +kernel) (by decide +kernel)) (inB_at 698 (by decide +kernel) (by decide +kernel))
def M_X1_wantedFrom : MC := (yX1_wantedFrom, 1, cX1_wantedFrom, T_X1_wantedFrom, 5, (some .int))
set_option maxRecDepth 100000 in
theorem ok_X1_wantedFrom : mkV M_X1_wantedFrom 2 = true := mkV_of (by decide +kernel) (inB_at 703 (by decide +kernel) (by decide +kernel)) (inB_at 66 (by decide +kernel) (by decide +kernel)) (by decide +kernel) (inB_at 702 (by decide +kernel) (by decide +kernel)) (inB_at 31 (by decide +kernel) (by decide +kernel))
def M_X2_init : MC := (yX2_init, 2, cX2_init, T_X2_init, 2, none)
set_option maxRecDepth 100000 in
theorem ok_X2_init : mkI M_X2_init 1 = true := mkI_of (by decide +kernel) (inB_at 145 (by decide +kernel) (by decide +kernel)) (inB_at 62 (by decide +kernel) (by decide +kernel)) (by decide +kernel) (inB_at 144 (by decide +kernel) (by decide +kernel)) (by decide +kernel) (by decide +kernel)
def M_X2_size : MC := (yX2_size, 2, cX2_size, T_X2_size, 1, (some .int))
set_option maxRecDepth 100000 in
theorem ok_X2_size : mkV M_X2_size 0 = true := mkV_of (by decide +kernel) (inB_at 401 (by decide +kernel) (by decide +kernel)) (inB_at 62 (by decide +kernel) (by decide +kernel)) (by decide +kernel) (inB_at 399 (by decide +kernel) (by decide +kernel)) (inB_at 400 (by decide +kernel) (by decide +kernel))
def M_X2_clear : MC := (yX2_clear, 2, cX2_clear, T_X2_clear, 1, none)
set_option maxRecDepth 100000 in
theorem ok_X2_clear : mkV M_X2_clear 0 = true := mkV_of (by decide +kernel) (inB_at 414 (by decide +kernel) (by decide +kernel)) (inB_at 62 (by decide +kernel) (by decide +kernel)) (by decide +kernel) (inB_at 412 (by decide +kernel) (by decide +kernel)) (inB_at 413 (by decide +kernel) (by decide +kernel))
def M_X2_holds : MC := (yX2_holds, 2, cX2_holds, T_X2_holds, 3, (some .boolean))
set_option maxRecDepth 100000 in
theorem ok_X2_holds : mkV M_X2_holds 1 = true := mkV_of (by decide +kernel) (inB_at 397 (by decide +kernel) (by decide +kernel)) (inB_at 62 (by decide +kernel) (by decide +kernel)) (by decide +kernel) (inB_at 395 (by decide +kernel) (by decide +kernel)) (inB_at 396 (by decide +kernel) (by decide +kernel))
def M_X2_insert : MC := (yX2_insert, 2, cX2_insert, T_X2_insert, 4, none)
set_option maxRecDepth 100000 in
theorem ok_X2_insert : mkV M_X2_insert 1 = true := mkV_of (by decide +kernel) (inB_at 405 (by decide +kernel) (by decide +kernel)) (inB_at 62 (by decide +kernel) (by decide +kernel)) (by decide +kernel) (inB_at 403 (by decide +kernel) (by decide +kernel)) (inB_at 404 (by decide +kernel) (by decide +kernel))
def M_X2_fewestSteps : MC := (yX2_fewestSteps, 2, cX2_fewestSteps, T_X2_fewestSteps, 2, (some .int))
set_option maxRecDepth 100000 in
theorem ok_X2_fewestSteps : mkV M_X2_fewestSteps 0 = true := mkV_of (by decide +kernel) (inB_at 422 (by decide +kernel) (by decide +kernel)) (inB_at 62 (by decide +kernel) (by decide +kernel)) (by decide +kernel) (inB_at 420 (by decide +kernel) (by decide +kernel)) (inB_at 421 (by decide +kernel) (by decide +kernel))
def M_X2_climb : MC := (yX2_climb, 2, cX2_climb, T_X2_climb, 9, (some .boolean))
set_option maxRecDepth 100000 in
theorem ok_X2_climb : mkV M_X2_climb 2 = true := mkV_of (by decide +kernel) (inB_at 427 (by decide +kernel) (by decide +kernel)) (inB_at 62 (by decide +kernel) (by decide +kernel)) (by decide +kernel) (inB_at 426 (by decide +kernel) (by decide +kernel)) (inB_at 8 (by decide +kernel) (by decide +kernel))
def M_X2_lowest : MC := (yX2_lowest, 2, cX2_lowest, T_X2_lowest, 5, (some .int))
set_option maxRecDepth 100000 in
theorem ok_X2_lowest : mkV M_X2_lowest 2 = true := mkV_of (by decide +kernel) (inB_at 433 (by decide +kernel) (by decide +kernel)) (inB_at 62 (by decide +kernel) (by decide +kernel)) (by decide +kernel) (inB_at 432 (by decide +kernel) (by decide +kernel)) (inB_at 9 (by decide +kernel) (by decide +kernel))
def M_X3_init : MC := (yX3_init, 3, cX3_init, T_X3_init, 6, none)
set_option maxRecDepth 100000 in
theorem ok_X3_init : mkI M_X3_init 0 = true := mkI_of (by decide +kernel) (inB_at 496 (by decide +kernel) (by decide +kernel)) (inB_at 69 (by decide +kernel) (by decide +kernel)) (by decide +kernel) (inB_at 495 (by decide +kernel) (by decide +kernel)) (by decide +kernel) (by decide +kernel)
def M_X3_sizeWithThousand : MC := (yX3_sizeWithThousand, 3, cX3_sizeWithThousand, T_X3_sizeWithThousand, 1, (some .int))
set_option maxRecDepth 100000 in
theorem ok_X3_sizeWithThousand : mkV M_X3_sizeWithThousand 0 = true := mkV_of (by decide +kernel) (inB_at 725 (by decide +kernel) (by decide +kernel)) (inB_at 69 (by decide +kernel) (by decide +kernel)) (by decide +kernel) (inB_at 723 (by decide +kernel) (by decide +kernel)) (inB_at 724 (by decide +kernel) (by decide +kernel))
def M_X3_waySize : MC := (yX3_waySize, 3, cX3_waySize, T_X3_waySize, 1, (some .int))
set_option maxRecDepth 100000 in
theorem ok_X3_waySize : mkV M_X3_waySize 0 = true := mkV_of (by decide +kernel) (inB_at 529 (by decide +kernel) (by decide +kernel)) (inB_at 69 (by decide +kernel) (by decide +kernel)) (by decide +kernel) (inB_at 527 (by decide +kernel) (by decide +kernel)) (inB_at 528 (by decide +kernel) (by decide +kernel))
def M_X3_wayAt : MC := (yX3_wayAt, 3, cX3_wayAt, T_X3_wayAt, 2, (some .int))
set_option maxRecDepth 100000 in
theorem ok_X3_wayAt : mkV M_X3_wayAt 1 = true := mkV_of (by decide +kernel) (inB_at 533 (by decide +kernel) (by decide +kernel)) (inB_at 69 (by decide +kernel) (by decide +kernel)) (by decide +kernel) (inB_at 531 (by decide +kernel) (by decide +kernel)) (inB_at 532 (by decide +kernel) (by decide +kernel))
def M_X3_findWay : MC := (yX3_findWay, 3, cX3_findWay, T_X3_findWay, 6, none)
set_option maxRecDepth 100000 in
theorem ok_X3_findWay : mkV M_X3_findWay 1 = true := mkV_of (by decide +kernel) (inB_at 505 (by decide +kernel) (by decide +kernel)) (inB_at 69 (by decide +kernel) (by decide +kernel)) (by decide +kernel) (inB_at 503 (by decide +kernel) (by decide +kernel)) (inB_at 504 (by decide +kernel) (by decide +kernel))
def M_X3_growBelow : MC := (yX3_growBelow, 3, cX3_growBelow, T_X3_growBelow, 5, none)
set_option maxRecDepth 100000 in
theorem ok_X3_growBelow : mkV M_X3_growBelow 2 = true := mkV_of (by decide +kernel) (inB_at 501 (by decide +kernel) (by decide +kernel)) (inB_at 69 (by decide +kernel) (by decide +kernel)) (by decide +kernel) (inB_at 500 (by decide +kernel) (by decide +kernel)) (inB_at 18 (by decide +kernel) (by decide +kernel))
def M_X4_init : MC := (yX4_init, 4, cX4_init, T_X4_init, 1, none)
set_option maxRecDepth 100000 in
theorem ok_X4_init : mkI M_X4_init 0 = true := mkI_of (by decide +kernel) (inB_at 180 (by decide +kernel) (by decide +kernel)) (inB_at 64 (by decide +kernel) (by decide +kernel)) (by decide +kernel) (inB_at 179 (by decide +kernel) (by decide +kernel)) (by decide +kernel) (by decide +kernel)
def M_X4_build : MC := (yX4_build, 4, cX4_build, T_X4_build, 4, none)
set_option maxRecDepth 100000 in
theorem ok_X4_build : mkV M_X4_build 3 = true := mkV_of (by decide +kernel) (inB_at 454 (by decide +kernel) (by decide +kernel)) (inB_at 64 (by decide +kernel) (by decide +kernel)) (by decide +kernel) (inB_at 452 (by decide +kernel) (by decide +kernel)) (inB_at 453 (by decide +kernel) (by decide +kernel))
def M_X4_steps : MC := (yX4_steps, 4, cX4_steps, T_X4_steps, 1, (some .int))
set_option maxRecDepth 100000 in
theorem ok_X4_steps : mkV M_X4_steps 0 = true := mkV_of (by decide +kernel) (inB_at 541 (by decide +kernel) (by decide +kernel)) (inB_at 64 (by decide +kernel) (by decide +kernel)) (by decide +kernel) (inB_at 539 (by decide +kernel) (by decide +kernel)) (inB_at 540 (by decide +kernel) (by decide +kernel))
def M_X4_numberAt : MC := (yX4_numberAt, 4, cX4_numberAt, T_X4_numberAt, 2, (some .int))
set_option maxRecDepth 100000 in
theorem ok_X4_numberAt : mkV M_X4_numberAt 1 = true := mkV_of (by decide +kernel) (inB_at 549 (by decide +kernel) (by decide +kernel)) (inB_at 64 (by decide +kernel) (by decide +kernel)) (by decide +kernel) (inB_at 547 (by decide +kernel) (by decide +kernel)) (inB_at 548 (by decide +kernel) (by decide +kernel))
def M_X4_treeSize : MC := (yX4_treeSize, 4, cX4_treeSize, T_X4_treeSize, 1, (some .int))
set_option maxRecDepth 100000 in
theorem ok_X4_treeSize : mkV M_X4_treeSize 0 = true := mkV_of (by decide +kernel) (inB_at 721 (by decide +kernel) (by decide +kernel)) (inB_at 64 (by decide +kernel) (by decide +kernel)) (by decide +kernel) (inB_at 719 (by decide +kernel) (by decide +kernel)) (inB_at 720 (by decide +kernel) (by decide +kernel))
def M_X4_grownTree : MC := (yX4_grownTree, 4, cX4_grownTree, T_X4_grownTree, 1, (some (.object "SumChains$PowerTree")))
set_option maxRecDepth 100000 in
theorem ok_X4_grownTree : mkV M_X4_grownTree 0 = true := mkV_of (by decide +kernel) (inB_at 491 (by decide +kernel) (by decide +kernel)) (inB_at 64 (by decide +kernel) (by decide +kernel)) (by decide +kernel) (inB_at 490 (by decide +kernel) (by decide +kernel)) (inB_at 17 (by decide +kernel) (by decide +kernel))
def M_X4_addHalves : MC := (yX4_addHalves, 4, cX4_addHalves, T_X4_addHalves, 4, none)
set_option maxRecDepth 100000 in
theorem ok_X4_addHalves : mkV M_X4_addHalves 1 = true := mkV_of (by decide +kernel) (inB_at 458 (by decide +kernel) (by decide +kernel)) (inB_at 64 (by decide +kernel) (by decide +kernel)) (by decide +kernel) (inB_at 457 (by decide +kernel) (by decide +kernel)) (inB_at 10 (by decide +kernel) (by decide +kernel))
def M_X4_addSigns : MC := (yX4_addSigns, 4, cX4_addSigns, T_X4_addSigns, 5, none)
set_option maxRecDepth 100000 in
theorem ok_X4_addSigns : mkV M_X4_addSigns 1 = true := mkV_of (by decide +kernel) (inB_at 537 (by decide +kernel) (by decide +kernel)) (inB_at 64 (by decide +kernel) (by decide +kernel)) (by decide +kernel) (inB_at 536 (by decide +kernel) (by decide +kernel)) (inB_at 19 (by decide +kernel) (by decide +kernel))
def M_X4_addDoubledAndFigure : MC := (yX4_addDoubledAndFigure, 4, cX4_addDoubledAndFigure, T_X4_addDoubledAndFigure, 3, (some .int))
set_option maxRecDepth 100000 in
theorem ok_X4_addDoubledAndFigure : mkV M_X4_addDoubledAndFigure 2 = true := mkV_of (by decide +kernel) (inB_at 462 (by decide +kernel) (by decide +kernel)) (inB_at 64 (by decide +kernel) (by decide +kernel)) (by decide +kernel) (inB_at 461 (by decide +kernel) (by decide +kernel)) (inB_at 11 (by decide +kernel) (by decide +kernel))
def M_X4_addFigures : MC := (yX4_addFigures, 4, cX4_addFigures, T_X4_addFigures, 8, none)
set_option maxRecDepth 100000 in
theorem ok_X4_addFigures : mkV M_X4_addFigures 2 = true := mkV_of (by decide +kernel) (inB_at 474 (by decide +kernel) (by decide +kernel)) (inB_at 64 (by decide +kernel) (by decide +kernel)) (by decide +kernel) (inB_at 473 (by decide +kernel) (by decide +kernel)) (inB_at 14 (by decide +kernel) (by decide +kernel))
def M_X4_addFactors : MC := (yX4_addFactors, 4, cX4_addFactors, T_X4_addFactors, 5, none)
set_option maxRecDepth 100000 in
theorem ok_X4_addFactors : mkV M_X4_addFactors 3 = true := mkV_of (by decide +kernel) (inB_at 480 (by decide +kernel) (by decide +kernel)) (inB_at 64 (by decide +kernel) (by decide +kernel)) (by decide +kernel) (inB_at 479 (by decide +kernel) (by decide +kernel)) (inB_at 15 (by decide +kernel) (by decide +kernel))
def M_X4_leastPrime : MC := (yX4_leastPrime, 4, cX4_leastPrime, T_X4_leastPrime, 2, (some .int))
set_option maxRecDepth 100000 in
theorem ok_X4_leastPrime : mkS M_X4_leastPrime 1 = true := mkS_of (by decide +kernel) (inB_at 483 (by decide +kernel) (by decide +kernel)) (inB_at 64 (by decide +kernel) (by decide +kernel)) (by decide +kernel) (inB_at 482 (by decide +kernel) (by decide +kernel))
def M_X4_addWay : MC := (yX4_addWay, 4, cX4_addWay, T_X4_addWay, 4, none)
set_option maxRecDepth 100000 in
theorem ok_X4_addWay : mkV M_X4_addWay 1 = true := mkV_of (by decide +kernel) (inB_at 487 (by decide +kernel) (by decide +kernel)) (inB_at 64 (by decide +kernel) (by decide +kernel)) (by decide +kernel) (inB_at 486 (by decide +kernel) (by decide +kernel)) (inB_at 16 (by decide +kernel) (by decide +kernel))
def M_X4_holds : MC := (yX4_holds, 4, cX4_holds, T_X4_holds, 3, (some .boolean))
set_option maxRecDepth 100000 in
theorem ok_X4_holds : mkV M_X4_holds 1 = true := mkV_of (by decide +kernel) (inB_at 470 (by decide +kernel) (by decide +kernel)) (inB_at 64 (by decide +kernel) (by decide +kernel)) (by decide +kernel) (inB_at 469 (by decide +kernel) (by decide +kernel)) (inB_at 13 (by decide +kernel) (by decide +kernel))
def M_X4_add : MC := (yX4_add, 4, cX4_add, T_X4_add, 2, none)
set_option maxRecDepth 100000 in
theorem ok_X4_add : mkV M_X4_add 1 = true := mkV_of (by decide +kernel) (inB_at 466 (by decide +kernel) (by decide +kernel)) (inB_at 64 (by decide +kernel) (by decide +kernel)) (by decide +kernel) (inB_at 465 (by decide +kernel) (by decide +kernel)) (inB_at 12 (by decide +kernel) (by decide +kernel))
def M_X5_init : MC := (yX5_init, 5, cX5_init, T_X5_init, 2, none)
set_option maxRecDepth 100000 in
theorem ok_X5_init : mkI M_X5_init 1 = true := mkI_of (by decide +kernel) (inB_at 106 (by decide +kernel) (by decide +kernel)) (inB_at 61 (by decide +kernel) (by decide +kernel)) (by decide +kernel) (inB_at 105 (by decide +kernel) (by decide +kernel)) (by decide +kernel) (by decide +kernel)
def M_X5_stepsTo : MC := (yX5_stepsTo, 5, cX5_stepsTo, T_X5_stepsTo, 4, (some .int))
set_option maxRecDepth 100000 in
theorem ok_X5_stepsTo : mkV M_X5_stepsTo 2 = true := mkV_of (by decide +kernel) (inB_at 279 (by decide +kernel) (by decide +kernel)) (inB_at 61 (by decide +kernel) (by decide +kernel)) (by decide +kernel) (inB_at 277 (by decide +kernel) (by decide +kernel)) (inB_at 278 (by decide +kernel) (by decide +kernel))
def M_X5_rowsTo : MC := (yX5_rowsTo, 5, cX5_rowsTo, T_X5_rowsTo, 3, (some .int))
set_option maxRecDepth 100000 in
theorem ok_X5_rowsTo : mkV M_X5_rowsTo 2 = true := mkV_of (by decide +kernel) (inB_at 376 (by decide +kernel) (by decide +kernel)) (inB_at 61 (by decide +kernel) (by decide +kernel)) (by decide +kernel) (inB_at 374 (by decide +kernel) (by decide +kernel)) (inB_at 375 (by decide +kernel) (by decide +kernel))
def M_X5_numberOfFirst : MC := (yX5_numberOfFirst, 5, cX5_numberOfFirst, T_X5_numberOfFirst, 4, (some .int))
set_option maxRecDepth 100000 in
theorem ok_X5_numberOfFirst : mkV M_X5_numberOfFirst 3 = true := mkV_of (by decide +kernel) (inB_at 385 (by decide +kernel) (by decide +kernel)) (inB_at 61 (by decide +kernel) (by decide +kernel)) (by decide +kernel) (inB_at 383 (by decide +kernel) (by decide +kernel)) (inB_at 384 (by decide +kernel) (by decide +kernel))
def M_X5_search : MC := (yX5_search, 5, cX5_search, T_X5_search, 5, (some .int))
set_option maxRecDepth 100000 in
theorem ok_X5_search : mkV M_X5_search 4 = true := mkV_of (by decide +kernel) (inB_at 283 (by decide +kernel) (by decide +kernel)) (inB_at 61 (by decide +kernel) (by decide +kernel)) (by decide +kernel) (inB_at 282 (by decide +kernel) (by decide +kernel)) (inB_at 1 (by decide +kernel) (by decide +kernel))
def M_X5_climb : MC := (yX5_climb, 5, cX5_climb, T_X5_climb, 5, (some .int))
set_option maxRecDepth 100000 in
theorem ok_X5_climb : mkV M_X5_climb 1 = true := mkV_of (by decide +kernel) (inB_at 314 (by decide +kernel) (by decide +kernel)) (inB_at 61 (by decide +kernel) (by decide +kernel)) (by decide +kernel) (inB_at 313 (by decide +kernel) (by decide +kernel)) (inB_at 3 (by decide +kernel) (by decide +kernel))
def M_X5_highest : MC := (yX5_highest, 5, cX5_highest, T_X5_highest, 1, (some .int))
set_option maxRecDepth 100000 in
theorem ok_X5_highest : mkV M_X5_highest 0 = true := mkV_of (by decide +kernel) (inB_at 358 (by decide +kernel) (by decide +kernel)) (inB_at 61 (by decide +kernel) (by decide +kernel)) (by decide +kernel) (inB_at 357 (by decide +kernel) (by decide +kernel)) (inB_at 7 (by decide +kernel) (by decide +kernel))
def M_X5_lowest : MC := (yX5_lowest, 5, cX5_lowest, T_X5_lowest, 2, (some .int))
set_option maxRecDepth 100000 in
theorem ok_X5_lowest : mkV M_X5_lowest 1 = true := mkV_of (by decide +kernel) (inB_at 343 (by decide +kernel) (by decide +kernel)) (inB_at 61 (by decide +kernel) (by decide +kernel)) (by decide +kernel) (inB_at 342 (by decide +kernel) (by decide +kernel)) (inB_at 6 (by decide +kernel) (by decide +kernel))
def M_X5_keep : MC := (yX5_keep, 5, cX5_keep, T_X5_keep, 3, (some .int))
set_option maxRecDepth 100000 in
theorem ok_X5_keep : mkV M_X5_keep 1 = true := mkV_of (by decide +kernel) (inB_at 330 (by decide +kernel) (by decide +kernel)) (inB_at 61 (by decide +kernel) (by decide +kernel)) (by decide +kernel) (inB_at 329 (by decide +kernel) (by decide +kernel)) (inB_at 4 (by decide +kernel) (by decide +kernel))
def M_X5_keepNumber : MC := (yX5_keepNumber, 5, cX5_keepNumber, T_X5_keepNumber, 2, none)
set_option maxRecDepth 100000 in
theorem ok_X5_keepNumber : mkV M_X5_keepNumber 1 = true := mkV_of (by decide +kernel) (inB_at 339 (by decide +kernel) (by decide +kernel)) (inB_at 61 (by decide +kernel) (by decide +kernel)) (by decide +kernel) (inB_at 338 (by decide +kernel) (by decide +kernel)) (inB_at 5 (by decide +kernel) (by decide +kernel))
def M_X6_init : MC := (yX6_init, 6, cX6_init, T_X6_init, 1, none)
set_option maxRecDepth 100000 in
theorem ok_X6_init : mkI M_X6_init 0 = true := mkI_of (by decide +kernel) (inB_at 196 (by decide +kernel) (by decide +kernel)) (inB_at 65 (by decide +kernel) (by decide +kernel)) (by decide +kernel) (inB_at 195 (by decide +kernel) (by decide +kernel)) (by decide +kernel) (by decide +kernel)
def M_X6_size : MC := (yX6_size, 6, cX6_size, T_X6_size, 1, (some .int))
set_option maxRecDepth 100000 in
theorem ok_X6_size : mkV M_X6_size 0 = true := mkV_of (by decide +kernel) (inB_at 599 (by decide +kernel) (by decide +kernel)) (inB_at 65 (by decide +kernel) (by decide +kernel)) (by decide +kernel) (inB_at 597 (by decide +kernel) (by decide +kernel)) (inB_at 598 (by decide +kernel) (by decide +kernel))
def M_X6_clear : MC := (yX6_clear, 6, cX6_clear, T_X6_clear, 1, none)
set_option maxRecDepth 100000 in
theorem ok_X6_clear : mkV M_X6_clear 0 = true := mkV_of (by decide +kernel) (inB_at 612 (by decide +kernel) (by decide +kernel)) (inB_at 65 (by decide +kernel) (by decide +kernel)) (by decide +kernel) (inB_at 610 (by decide +kernel) (by decide +kernel)) (inB_at 611 (by decide +kernel) (by decide +kernel))
def M_X6_append : MC := (yX6_append, 6, cX6_append, T_X6_append, 5, none)
set_option maxRecDepth 100000 in
theorem ok_X6_append : mkV M_X6_append 2 = true := mkV_of (by decide +kernel) (inB_at 603 (by decide +kernel) (by decide +kernel)) (inB_at 65 (by decide +kernel) (by decide +kernel)) (by decide +kernel) (inB_at 601 (by decide +kernel) (by decide +kernel)) (inB_at 602 (by decide +kernel) (by decide +kernel))
def M_X6_readInto : MC := (yX6_readInto, 6, cX6_readInto, T_X6_readInto, 6, (some .int))
set_option maxRecDepth 100000 in
theorem ok_X6_readInto : mkV M_X6_readInto 2 = true := mkV_of (by decide +kernel) (inB_at 620 (by decide +kernel) (by decide +kernel)) (inB_at 65 (by decide +kernel) (by decide +kernel)) (by decide +kernel) (inB_at 618 (by decide +kernel) (by decide +kernel)) (inB_at 619 (by decide +kernel) (by decide +kernel))
def M_X6_endOfFigures : MC := (yX6_endOfFigures, 6, cX6_endOfFigures, T_X6_endOfFigures, 4, (some .int))
set_option maxRecDepth 100000 in
theorem ok_X6_endOfFigures : mkV M_X6_endOfFigures 1 = true := mkV_of (by decide +kernel) (inB_at 628 (by decide +kernel) (by decide +kernel)) (inB_at 65 (by decide +kernel) (by decide +kernel)) (by decide +kernel) (inB_at 627 (by decide +kernel) (by decide +kernel)) (inB_at 23 (by decide +kernel) (by decide +kernel))
def M_X6_valueOf : MC := (yX6_valueOf, 6, cX6_valueOf, T_X6_valueOf, 5, (some .int))
set_option maxRecDepth 100000 in
theorem ok_X6_valueOf : mkV M_X6_valueOf 2 = true := mkV_of (by decide +kernel) (inB_at 633 (by decide +kernel) (by decide +kernel)) (inB_at 65 (by decide +kernel) (by decide +kernel)) (by decide +kernel) (inB_at 632 (by decide +kernel) (by decide +kernel)) (inB_at 24 (by decide +kernel) (by decide +kernel))
def M_X7_init : MC := (yX7_init, 7, cX7_init, T_X7_init, 1, none)
set_option maxRecDepth 100000 in
theorem ok_X7_init : mkI M_X7_init 0 = true := mkI_of (by decide +kernel) (inB_at 82 (by decide +kernel) (by decide +kernel)) (inB_at 60 (by decide +kernel) (by decide +kernel)) (by decide +kernel) (inB_at 81 (by decide +kernel) (by decide +kernel)) (by decide +kernel) (by decide +kernel)
def M_X7_begin : MC := (yX7_begin, 7, cX7_begin, T_X7_begin, 4, none)
set_option maxRecDepth 100000 in
theorem ok_X7_begin : mkV M_X7_begin 2 = true := mkV_of (by decide +kernel) (inB_at 287 (by decide +kernel) (by decide +kernel)) (inB_at 60 (by decide +kernel) (by decide +kernel)) (by decide +kernel) (inB_at 285 (by decide +kernel) (by decide +kernel)) (inB_at 286 (by decide +kernel) (by decide +kernel))
def M_X7_put : MC := (yX7_put, 7, cX7_put, T_X7_put, 2, (some .boolean))
set_option maxRecDepth 100000 in
theorem ok_X7_put : mkV M_X7_put 1 = true := mkV_of (by decide +kernel) (inB_at 310 (by decide +kernel) (by decide +kernel)) (inB_at 60 (by decide +kernel) (by decide +kernel)) (by decide +kernel) (inB_at 308 (by decide +kernel) (by decide +kernel)) (inB_at 309 (by decide +kernel) (by decide +kernel))
def M_X7_takeBack : MC := (yX7_takeBack, 7, cX7_takeBack, T_X7_takeBack, 2, none)
set_option maxRecDepth 100000 in
theorem ok_X7_takeBack : mkV M_X7_takeBack 0 = true := mkV_of (by decide +kernel) (inB_at 291 (by decide +kernel) (by decide +kernel)) (inB_at 60 (by decide +kernel) (by decide +kernel)) (by decide +kernel) (inB_at 289 (by decide +kernel) (by decide +kernel)) (inB_at 290 (by decide +kernel) (by decide +kernel))
def M_X7_size : MC := (yX7_size, 7, cX7_size, T_X7_size, 1, (some .int))
set_option maxRecDepth 100000 in
theorem ok_X7_size : mkV M_X7_size 0 = true := mkV_of (by decide +kernel) (inB_at 334 (by decide +kernel) (by decide +kernel)) (inB_at 60 (by decide +kernel) (by decide +kernel)) (by decide +kernel) (inB_at 332 (by decide +kernel) (by decide +kernel)) (inB_at 333 (by decide +kernel) (by decide +kernel))
def M_X7_numberAt : MC := (yX7_numberAt, 7, cX7_numberAt, T_X7_numberAt, 2, (some .int))
set_option maxRecDepth 100000 in
theorem ok_X7_numberAt : mkV M_X7_numberAt 1 = true := mkV_of (by decide +kernel) (inB_at 299 (by decide +kernel) (by decide +kernel)) (inB_at 60 (by decide +kernel) (by decide +kernel)) (by decide +kernel) (inB_at 297 (by decide +kernel) (by decide +kernel)) (inB_at 298 (by decide +kernel) (by decide +kernel))
def M_X7_latest : MC := (yX7_latest, 7, cX7_latest, T_X7_latest, 1, (some .int))
set_option maxRecDepth 100000 in
theorem ok_X7_latest : mkV M_X7_latest 0 = true := mkV_of (by decide +kernel) (inB_at 295 (by decide +kernel) (by decide +kernel)) (inB_at 60 (by decide +kernel) (by decide +kernel)) (by decide +kernel) (inB_at 293 (by decide +kernel) (by decide +kernel)) (inB_at 294 (by decide +kernel) (by decide +kernel))
def M_X7_stands : MC := (yX7_stands, 7, cX7_stands, T_X7_stands, 2, (some .boolean))
set_option maxRecDepth 100000 in
theorem ok_X7_stands : mkV M_X7_stands 1 = true := mkV_of (by decide +kernel) (inB_at 322 (by decide +kernel) (by decide +kernel)) (inB_at 60 (by decide +kernel) (by decide +kernel)) (by decide +kernel) (inB_at 320 (by decide +kernel) (by decide +kernel)) (inB_at 321 (by decide +kernel) (by decide +kernel))
def M_X7_comes : MC := (yX7_comes, 7, cX7_comes, T_X7_comes, 2, (some .boolean))
set_option maxRecDepth 100000 in
theorem ok_X7_comes : mkV M_X7_comes 1 = true := mkV_of (by decide +kernel) (inB_at 318 (by decide +kernel) (by decide +kernel)) (inB_at 60 (by decide +kernel) (by decide +kernel)) (by decide +kernel) (inB_at 316 (by decide +kernel) (by decide +kernel)) (inB_at 317 (by decide +kernel) (by decide +kernel))
def M_X7_waysTo : MC := (yX7_waysTo, 7, cX7_waysTo, T_X7_waysTo, 2, (some .int))
set_option maxRecDepth 100000 in
theorem ok_X7_waysTo : mkV M_X7_waysTo 1 = true := mkV_of (by decide +kernel) (inB_at 326 (by decide +kernel) (by decide +kernel)) (inB_at 60 (by decide +kernel) (by decide +kernel)) (by decide +kernel) (inB_at 324 (by decide +kernel) (by decide +kernel)) (inB_at 325 (by decide +kernel) (by decide +kernel))
def M_X7_leadsOn : MC := (yX7_leadsOn, 7, cX7_leadsOn, T_X7_leadsOn, 4, (some .boolean))
set_option maxRecDepth 100000 in
theorem ok_X7_leadsOn : mkV M_X7_leadsOn 2 = true := mkV_of (by decide +kernel) (inB_at 363 (by decide +kernel) (by decide +kernel)) (inB_at 60 (by decide +kernel) (by decide +kernel)) (by decide +kernel) (inB_at 361 (by decide +kernel) (by decide +kernel)) (inB_at 362 (by decide +kernel) (by decide +kernel))
def M_X7_changePairs : MC := (yX7_changePairs, 7, cX7_changePairs, T_X7_changePairs, 7, none)
set_option maxRecDepth 100000 in
theorem ok_X7_changePairs : mkV M_X7_changePairs 2 = true := mkV_of (by decide +kernel) (inB_at 303 (by decide +kernel) (by decide +kernel)) (inB_at 60 (by decide +kernel) (by decide +kernel)) (by decide +kernel) (inB_at 302 (by decide +kernel) (by decide +kernel)) (inB_at 2 (by decide +kernel) (by decide +kernel))
def M_X8_init : MC := (yX8_init, 8, cX8_init, T_X8_init, 2, none)
set_option maxRecDepth 100000 in
theorem ok_X8_init : mkI M_X8_init 0 = true := mkI_of (by decide +kernel) (inB_at 74 (by decide +kernel) (by decide +kernel)) (inB_at 59 (by decide +kernel) (by decide +kernel)) (by decide +kernel) (inB_at 73 (by decide +kernel) (by decide +kernel)) (by decide +kernel) (by decide +kernel)
def M_X8_fewest : MC := (yX8_fewest, 8, cX8_fewest, T_X8_fewest, 3, (some .int))
set_option maxRecDepth 100000 in
theorem ok_X8_fewest : mkV M_X8_fewest 2 = true := mkV_of (by decide +kernel) (inB_at 269 (by decide +kernel) (by decide +kernel)) (inB_at 59 (by decide +kernel) (by decide +kernel)) (by decide +kernel) (inB_at 267 (by decide +kernel) (by decide +kernel)) (inB_at 268 (by decide +kernel) (by decide +kernel))
def M_X8_asFew : MC := (yX8_asFew, 8, cX8_asFew, T_X8_asFew, 3, (some .int))
set_option maxRecDepth 100000 in
theorem ok_X8_asFew : mkV M_X8_asFew 2 = true := mkV_of (by decide +kernel) (inB_at 369 (by decide +kernel) (by decide +kernel)) (inB_at 59 (by decide +kernel) (by decide +kernel)) (by decide +kernel) (inB_at 367 (by decide +kernel) (by decide +kernel)) (inB_at 368 (by decide +kernel) (by decide +kernel))
def M_X8_first : MC := (yX8_first, 8, cX8_first, T_X8_first, 4, (some .int))
set_option maxRecDepth 100000 in
theorem ok_X8_first : mkV M_X8_first 3 = true := mkV_of (by decide +kernel) (inB_at 381 (by decide +kernel) (by decide +kernel)) (inB_at 59 (by decide +kernel) (by decide +kernel)) (by decide +kernel) (inB_at 379 (by decide +kernel) (by decide +kernel)) (inB_at 380 (by decide +kernel) (by decide +kernel))
def M_X8_hardest : MC := (yX8_hardest, 8, cX8_hardest, T_X8_hardest, 4, (some .int))
set_option maxRecDepth 100000 in
theorem ok_X8_hardest : mkV M_X8_hardest 2 = true := mkV_of (by decide +kernel) (inB_at 389 (by decide +kernel) (by decide +kernel)) (inB_at 59 (by decide +kernel) (by decide +kernel)) (by decide +kernel) (inB_at 387 (by decide +kernel) (by decide +kernel)) (inB_at 388 (by decide +kernel) (by decide +kernel))
def M_X8_goal : MC := (yX8_goal, 8, cX8_goal, T_X8_goal, 2, (some .int))
set_option maxRecDepth 100000 in
theorem ok_X8_goal : mkV M_X8_goal 1 = true := mkV_of (by decide +kernel) (inB_at 393 (by decide +kernel) (by decide +kernel)) (inB_at 59 (by decide +kernel) (by decide +kernel)) (by decide +kernel) (inB_at 391 (by decide +kernel) (by decide +kernel)) (inB_at 392 (by decide +kernel) (by decide +kernel))
def M_X8_noGoals : MC := (yX8_noGoals, 8, cX8_noGoals, T_X8_noGoals, 2, (some .int))
set_option maxRecDepth 100000 in
theorem ok_X8_noGoals : mkV M_X8_noGoals 0 = true := mkV_of (by decide +kernel) (inB_at 410 (by decide +kernel) (by decide +kernel)) (inB_at 59 (by decide +kernel) (by decide +kernel)) (by decide +kernel) (inB_at 408 (by decide +kernel) (by decide +kernel)) (inB_at 409 (by decide +kernel) (by decide +kernel))
def M_X8_together : MC := (yX8_together, 8, cX8_together, T_X8_together, 1, (some .int))
set_option maxRecDepth 100000 in
theorem ok_X8_together : mkV M_X8_together 0 = true := mkV_of (by decide +kernel) (inB_at 418 (by decide +kernel) (by decide +kernel)) (inB_at 59 (by decide +kernel) (by decide +kernel)) (by decide +kernel) (inB_at 416 (by decide +kernel) (by decide +kernel)) (inB_at 417 (by decide +kernel) (by decide +kernel))
def M_X8_led : MC := (yX8_led, 8, cX8_led, T_X8_led, 3, (some .int))
set_option maxRecDepth 100000 in
theorem ok_X8_led : mkV M_X8_led 2 = true := mkV_of (by decide +kernel) (inB_at 442 (by decide +kernel) (by decide +kernel)) (inB_at 59 (by decide +kernel) (by decide +kernel)) (by decide +kernel) (inB_at 440 (by decide +kernel) (by decide +kernel)) (inB_at 441 (by decide +kernel) (by decide +kernel))
def M_X8_isKind : MC := (yX8_isKind, 8, cX8_isKind, T_X8_isKind, 1, (some .boolean))
set_option maxRecDepth 100000 in
theorem ok_X8_isKind : mkS M_X8_isKind 1 = true := mkS_of (by decide +kernel) (inB_at 275 (by decide +kernel) (by decide +kernel)) (inB_at 59 (by decide +kernel) (by decide +kernel)) (by decide +kernel) (inB_at 274 (by decide +kernel) (by decide +kernel))
def M_X8_fewestMost : MC := (yX8_fewestMost, 8, cX8_fewestMost, T_X8_fewestMost, 1, (some .int))
set_option maxRecDepth 100000 in
theorem ok_X8_fewestMost : mkS M_X8_fewestMost 1 = true := mkS_of (by decide +kernel) (inB_at 272 (by decide +kernel) (by decide +kernel)) (inB_at 59 (by decide +kernel) (by decide +kernel)) (by decide +kernel) (inB_at 271 (by decide +kernel) (by decide +kernel))
def M_X8_asFewMost : MC := (yX8_asFewMost, 8, cX8_asFewMost, T_X8_asFewMost, 1, (some .int))
set_option maxRecDepth 100000 in
theorem ok_X8_asFewMost : mkS M_X8_asFewMost 1 = true := mkS_of (by decide +kernel) (inB_at 372 (by decide +kernel) (by decide +kernel)) (inB_at 59 (by decide +kernel) (by decide +kernel)) (by decide +kernel) (inB_at 371 (by decide +kernel) (by decide +kernel))
def M_X8_leastToReach : MC := (yX8_leastToReach, 8, cX8_leastToReach, T_X8_leastToReach, 3, (some .int))
set_option maxRecDepth 100000 in
theorem ok_X8_leastToReach : mkS M_X8_leastToReach 2 = true := mkS_of (by decide +kernel) (inB_at 347 (by decide +kernel) (by decide +kernel)) (inB_at 59 (by decide +kernel) (by decide +kernel)) (by decide +kernel) (inB_at 346 (by decide +kernel) (by decide +kernel))
def M_X8_road : MC := (yX8_road, 8, cX8_road, T_X8_road, 4, (some .int))
set_option maxRecDepth 100000 in
theorem ok_X8_road : mkV M_X8_road 3 = true := mkV_of (by decide +kernel) (inB_at 446 (by decide +kernel) (by decide +kernel)) (inB_at 59 (by decide +kernel) (by decide +kernel)) (by decide +kernel) (inB_at 444 (by decide +kernel) (by decide +kernel)) (inB_at 445 (by decide +kernel) (by decide +kernel))
def M_X8_step : MC := (yX8_step, 8, cX8_step, T_X8_step, 5, (some .int))
set_option maxRecDepth 100000 in
theorem ok_X8_step : mkV M_X8_step 4 = true := mkV_of (by decide +kernel) (inB_at 545 (by decide +kernel) (by decide +kernel)) (inB_at 59 (by decide +kernel) (by decide +kernel)) (by decide +kernel) (inB_at 543 (by decide +kernel) (by decide +kernel)) (inB_at 544 (by decide +kernel) (by decide +kernel))
def M_X8_good : MC := (yX8_good, 8, cX8_good, T_X8_good, 6, (some .int))
set_option maxRecDepth 100000 in
theorem ok_X8_good : mkV M_X8_good 3 = true := mkV_of (by decide +kernel) (inB_at 553 (by decide +kernel) (by decide +kernel)) (inB_at 59 (by decide +kernel) (by decide +kernel)) (by decide +kernel) (inB_at 551 (by decide +kernel) (by decide +kernel)) (inB_at 552 (by decide +kernel) (by decide +kernel))
def M_X8_isRoad : MC := (yX8_isRoad, 8, cX8_isRoad, T_X8_isRoad, 3, (some .boolean))
set_option maxRecDepth 100000 in
theorem ok_X8_isRoad : mkS M_X8_isRoad 3 = true := mkS_of (by decide +kernel) (inB_at 449 (by decide +kernel) (by decide +kernel)) (inB_at 59 (by decide +kernel) (by decide +kernel)) (by decide +kernel) (inB_at 448 (by decide +kernel) (by decide +kernel))
def M_X8_price : MC := (yX8_price, 8, cX8_price, T_X8_price, 3, (some .int))
set_option maxRecDepth 100000 in
theorem ok_X8_price : mkV M_X8_price 2 = true := mkV_of (by decide +kernel) (inB_at 557 (by decide +kernel) (by decide +kernel)) (inB_at 59 (by decide +kernel) (by decide +kernel)) (by decide +kernel) (inB_at 555 (by decide +kernel) (by decide +kernel)) (inB_at 556 (by decide +kernel) (by decide +kernel))
def M_X8_cheapest : MC := (yX8_cheapest, 8, cX8_cheapest, T_X8_cheapest, 2, (some .int))
set_option maxRecDepth 100000 in
theorem ok_X8_cheapest : mkV M_X8_cheapest 1 = true := mkV_of (by decide +kernel) (inB_at 565 (by decide +kernel) (by decide +kernel)) (inB_at 59 (by decide +kernel) (by decide +kernel)) (by decide +kernel) (inB_at 563 (by decide +kernel) (by decide +kernel)) (inB_at 564 (by decide +kernel) (by decide +kernel))
def M_X8_write : MC := (yX8_write, 8, cX8_write, T_X8_write, 4, (some .int))
set_option maxRecDepth 100000 in
theorem ok_X8_write : mkV M_X8_write 2 = true := mkV_of (by decide +kernel) (inB_at 595 (by decide +kernel) (by decide +kernel)) (inB_at 59 (by decide +kernel) (by decide +kernel)) (by decide +kernel) (inB_at 593 (by decide +kernel) (by decide +kernel)) (inB_at 594 (by decide +kernel) (by decide +kernel))
def M_X8_wipe : MC := (yX8_wipe, 8, cX8_wipe, T_X8_wipe, 2, (some .int))
set_option maxRecDepth 100000 in
theorem ok_X8_wipe : mkV M_X8_wipe 0 = true := mkV_of (by decide +kernel) (inB_at 608 (by decide +kernel) (by decide +kernel)) (inB_at 59 (by decide +kernel) (by decide +kernel)) (by decide +kernel) (inB_at 606 (by decide +kernel) (by decide +kernel)) (inB_at 607 (by decide +kernel) (by decide +kernel))
def M_X8_fault : MC := (yX8_fault, 8, cX8_fault, T_X8_fault, 2, (some .int))
set_option maxRecDepth 100000 in
theorem ok_X8_fault : mkV M_X8_fault 1 = true := mkV_of (by decide +kernel) (inB_at 616 (by decide +kernel) (by decide +kernel)) (inB_at 59 (by decide +kernel) (by decide +kernel)) (by decide +kernel) (inB_at 614 (by decide +kernel) (by decide +kernel)) (inB_at 615 (by decide +kernel) (by decide +kernel))
def M_X8_take : MC := (yX8_take, 8, cX8_take, T_X8_take, 3, (some .int))
set_option maxRecDepth 100000 in
theorem ok_X8_take : mkV M_X8_take 1 = true := mkV_of (by decide +kernel) (inB_at 674 (by decide +kernel) (by decide +kernel)) (inB_at 59 (by decide +kernel) (by decide +kernel)) (by decide +kernel) (inB_at 672 (by decide +kernel) (by decide +kernel)) (inB_at 673 (by decide +kernel) (by decide +kernel))
def M_X8_chain : MC := (yX8_chain, 8, cX8_chain, T_X8_chain, 2, (some .int))
set_option maxRecDepth 100000 in
theorem ok_X8_chain : mkV M_X8_chain 1 = true := mkV_of (by decide +kernel) (inB_at 682 (by decide +kernel) (by decide +kernel)) (inB_at 59 (by decide +kernel) (by decide +kernel)) (by decide +kernel) (inB_at 680 (by decide +kernel) (by decide +kernel)) (inB_at 681 (by decide +kernel) (by decide +kernel))
def M_X8_uses : MC := (yX8_uses, 8, cX8_uses, T_X8_uses, 2, (some .int))
set_option maxRecDepth 100000 in
theorem ok_X8_uses : mkV M_X8_uses 1 = true := mkV_of (by decide +kernel) (inB_at 687 (by decide +kernel) (by decide +kernel)) (inB_at 59 (by decide +kernel) (by decide +kernel)) (by decide +kernel) (inB_at 685 (by decide +kernel) (by decide +kernel)) (inB_at 686 (by decide +kernel) (by decide +kernel))
def M_X8_drawers : MC := (yX8_drawers, 8, cX8_drawers, T_X8_drawers, 1, (some .int))
set_option maxRecDepth 100000 in
theorem ok_X8_drawers : mkV M_X8_drawers 0 = true := mkV_of (by decide +kernel) (inB_at 695 (by decide +kernel) (by decide +kernel)) (inB_at 59 (by decide +kernel) (by decide +kernel)) (by decide +kernel) (inB_at 693 (by decide +kernel) (by decide +kernel)) (inB_at 694 (by decide +kernel) (by decide +kernel))
def M_X8_power : MC := (yX8_power, 8, cX8_power, T_X8_power, 7, (some .int))
set_option maxRecDepth 100000 in
theorem ok_X8_power : mkV M_X8_power 2 = true := mkV_of (by decide +kernel) (inB_at 707 (by decide +kernel) (by decide +kernel)) (inB_at 59 (by decide +kernel) (by decide +kernel)) (by decide +kernel) (inB_at 705 (by decide +kernel) (by decide +kernel)) (inB_at 706 (by decide +kernel) (by decide +kernel))
def M_X8_count : MC := (yX8_count, 8, cX8_count, T_X8_count, 2, (some .int))
set_option maxRecDepth 100000 in
theorem ok_X8_count : mkV M_X8_count 1 = true := mkV_of (by decide +kernel) (inB_at 713 (by decide +kernel) (by decide +kernel)) (inB_at 59 (by decide +kernel) (by decide +kernel)) (by decide +kernel) (inB_at 711 (by decide +kernel) (by decide +kernel)) (inB_at 712 (by decide +kernel) (by decide +kernel))
def M_X9_init : MC := (yX9_init, 9, cX9_init, T_X9_init, 1, none)
set_option maxRecDepth 100000 in
theorem ok_X9_init : mkI M_X9_init 0 = true := mkI_of (by decide +kernel) (inB_at 730 (by decide +kernel) (by decide +kernel)) (inB_at 67 (by decide +kernel) (by decide +kernel)) (by decide +kernel) (inB_at 729 (by decide +kernel) (by decide +kernel)) (by decide +kernel) (by decide +kernel)
def M_X9_in : MC := (yX9_in, 9, cX9_in, T_X9_in, 6, (some .boolean))
set_option maxRecDepth 100000 in
theorem ok_X9_in : mkS M_X9_in 3 = true := mkS_of (by decide +kernel) (inB_at 837 (by decide +kernel) (by decide +kernel)) (inB_at 67 (by decide +kernel) (by decide +kernel)) (by decide +kernel) (inB_at 836 (by decide +kernel) (by decide +kernel))
def M_X9_isTold : MC := (yX9_isTold, 9, cX9_isTold, T_X9_isTold, 4, (some .boolean))
set_option maxRecDepth 100000 in
theorem ok_X9_isTold : mkV M_X9_isTold 2 = true := mkV_of (by decide +kernel) (inB_at 855 (by decide +kernel) (by decide +kernel)) (inB_at 67 (by decide +kernel) (by decide +kernel)) (by decide +kernel) (inB_at 854 (by decide +kernel) (by decide +kernel)) (inB_at 35 (by decide +kernel) (by decide +kernel))
def M_X9_note : MC := (yX9_note, 9, cX9_note, T_X9_note, 4, none)
set_option maxRecDepth 100000 in
theorem ok_X9_note : mkV M_X9_note 3 = true := mkV_of (by decide +kernel) (inB_at 859 (by decide +kernel) (by decide +kernel)) (inB_at 67 (by decide +kernel) (by decide +kernel)) (by decide +kernel) (inB_at 858 (by decide +kernel) (by decide +kernel)) (inB_at 36 (by decide +kernel) (by decide +kernel))
def M_X9_layComes : MC := (yX9_layComes, 9, cX9_layComes, T_X9_layComes, 9, none)
set_option maxRecDepth 100000 in
theorem ok_X9_layComes : mkV M_X9_layComes 3 = true := mkV_of (by decide +kernel) (inB_at 851 (by decide +kernel) (by decide +kernel)) (inB_at 67 (by decide +kernel) (by decide +kernel)) (by decide +kernel) (inB_at 850 (by decide +kernel) (by decide +kernel)) (inB_at 34 (by decide +kernel) (by decide +kernel))
def M_X9_greatest : MC := (yX9_greatest, 9, cX9_greatest, T_X9_greatest, 4, (some .int))
set_option maxRecDepth 100000 in
theorem ok_X9_greatest : mkV M_X9_greatest 1 = true := mkV_of (by decide +kernel) (inB_at 863 (by decide +kernel) (by decide +kernel)) (inB_at 67 (by decide +kernel) (by decide +kernel)) (by decide +kernel) (inB_at 862 (by decide +kernel) (by decide +kernel)) (inB_at 37 (by decide +kernel) (by decide +kernel))
def M_X9_search : MC := (yX9_search, 9, cX9_search, T_X9_search, 10, (some .int))
set_option maxRecDepth 100000 in
theorem ok_X9_search : mkV M_X9_search 4 = true := mkV_of (by decide +kernel) (inB_at 847 (by decide +kernel) (by decide +kernel)) (inB_at 67 (by decide +kernel) (by decide +kernel)) (by decide +kernel) (inB_at 846 (by decide +kernel) (by decide +kernel)) (inB_at 33 (by decide +kernel) (by decide +kernel))
def M_X9_fewestOf : MC := (yX9_fewestOf, 9, cX9_fewestOf, T_X9_fewestOf, 4, (some .int))
set_option maxRecDepth 100000 in
theorem ok_X9_fewestOf : mkV M_X9_fewestOf 2 = true := mkV_of (by decide +kernel) (inB_at 843 (by decide +kernel) (by decide +kernel)) (inB_at 67 (by decide +kernel) (by decide +kernel)) (by decide +kernel) (inB_at 842 (by decide +kernel) (by decide +kernel)) (inB_at 32 (by decide +kernel) (by decide +kernel))
def M_X9_isAsked : MC := (yX9_isAsked, 9, cX9_isAsked, T_X9_isAsked, 2, (some .boolean))
set_option maxRecDepth 100000 in
theorem ok_X9_isAsked : mkS M_X9_isAsked 2 = true := mkS_of (by decide +kernel) (inB_at 833 (by decide +kernel) (by decide +kernel)) (inB_at 67 (by decide +kernel) (by decide +kernel)) (by decide +kernel) (inB_at 832 (by decide +kernel) (by decide +kernel))
def M_X9_fewest : MC := (yX9_fewest, 9, cX9_fewest, T_X9_fewest, 3, (some .int))
set_option maxRecDepth 100000 in
theorem ok_X9_fewest : mkV M_X9_fewest 2 = true := mkV_of (by decide +kernel) (inB_at 830 (by decide +kernel) (by decide +kernel)) (inB_at 67 (by decide +kernel) (by decide +kernel)) (by decide +kernel) (inB_at 828 (by decide +kernel) (by decide +kernel)) (inB_at 829 (by decide +kernel) (by decide +kernel))
def M_X9_asFew : MC := (yX9_asFew, 9, cX9_asFew, T_X9_asFew, 3, (some .int))
set_option maxRecDepth 100000 in
theorem ok_X9_asFew : mkV M_X9_asFew 2 = true := mkV_of (by decide +kernel) (inB_at 867 (by decide +kernel) (by decide +kernel)) (inB_at 67 (by decide +kernel) (by decide +kernel)) (by decide +kernel) (inB_at 865 (by decide +kernel) (by decide +kernel)) (inB_at 866 (by decide +kernel) (by decide +kernel))
def M_X9_first : MC := (yX9_first, 9, cX9_first, T_X9_first, 5, (some .int))
set_option maxRecDepth 100000 in
theorem ok_X9_first : mkV M_X9_first 3 = true := mkV_of (by decide +kernel) (inB_at 873 (by decide +kernel) (by decide +kernel)) (inB_at 67 (by decide +kernel) (by decide +kernel)) (by decide +kernel) (inB_at 871 (by decide +kernel) (by decide +kernel)) (inB_at 872 (by decide +kernel) (by decide +kernel))
def M_X9_hardest : MC := (yX9_hardest, 9, cX9_hardest, T_X9_hardest, 4, (some .int))
set_option maxRecDepth 100000 in
theorem ok_X9_hardest : mkV M_X9_hardest 2 = true := mkV_of (by decide +kernel) (inB_at 877 (by decide +kernel) (by decide +kernel)) (inB_at 67 (by decide +kernel) (by decide +kernel)) (by decide +kernel) (inB_at 875 (by decide +kernel) (by decide +kernel)) (inB_at 876 (by decide +kernel) (by decide +kernel))
def M_X9_goal : MC := (yX9_goal, 9, cX9_goal, T_X9_goal, 3, (some .int))
set_option maxRecDepth 100000 in
theorem ok_X9_goal : mkV M_X9_goal 1 = true := mkV_of (by decide +kernel) (inB_at 882 (by decide +kernel) (by decide +kernel)) (inB_at 67 (by decide +kernel) (by decide +kernel)) (by decide +kernel) (inB_at 880 (by decide +kernel) (by decide +kernel)) (inB_at 881 (by decide +kernel) (by decide +kernel))
def M_X9_noGoals : MC := (yX9_noGoals, 9, cX9_noGoals, T_X9_noGoals, 2, (some .int))
set_option maxRecDepth 100000 in
theorem ok_X9_noGoals : mkV M_X9_noGoals 0 = true := mkV_of (by decide +kernel) (inB_at 888 (by decide +kernel) (by decide +kernel)) (inB_at 67 (by decide +kernel) (by decide +kernel)) (by decide +kernel) (inB_at 886 (by decide +kernel) (by decide +kernel)) (inB_at 887 (by decide +kernel) (by decide +kernel))
def M_X9_nextGoal : MC := (yX9_nextGoal, 9, cX9_nextGoal, T_X9_nextGoal, 4, (some .int))
set_option maxRecDepth 100000 in
theorem ok_X9_nextGoal : mkV M_X9_nextGoal 1 = true := mkV_of (by decide +kernel) (inB_at 900 (by decide +kernel) (by decide +kernel)) (inB_at 67 (by decide +kernel) (by decide +kernel)) (by decide +kernel) (inB_at 899 (by decide +kernel) (by decide +kernel)) (inB_at 39 (by decide +kernel) (by decide +kernel))
def M_X9_reaches : MC := (yX9_reaches, 9, cX9_reaches, T_X9_reaches, 6, (some .boolean))
set_option maxRecDepth 100000 in
theorem ok_X9_reaches : mkV M_X9_reaches 1 = true := mkV_of (by decide +kernel) (inB_at 896 (by decide +kernel) (by decide +kernel)) (inB_at 67 (by decide +kernel) (by decide +kernel)) (by decide +kernel) (inB_at 895 (by decide +kernel) (by decide +kernel)) (inB_at 38 (by decide +kernel) (by decide +kernel))
def M_X9_together : MC := (yX9_together, 9, cX9_together, T_X9_together, 2, (some .int))
set_option maxRecDepth 100000 in
theorem ok_X9_together : mkV M_X9_together 0 = true := mkV_of (by decide +kernel) (inB_at 892 (by decide +kernel) (by decide +kernel)) (inB_at 67 (by decide +kernel) (by decide +kernel)) (by decide +kernel) (inB_at 890 (by decide +kernel) (by decide +kernel)) (inB_at 891 (by decide +kernel) (by decide +kernel))
def M_X9_rankOf : MC := (yX9_rankOf, 9, cX9_rankOf, T_X9_rankOf, 2, (some .int))
set_option maxRecDepth 100000 in
theorem ok_X9_rankOf : mkV M_X9_rankOf 1 = true := mkV_of (by decide +kernel) (inB_at 917 (by decide +kernel) (by decide +kernel)) (inB_at 67 (by decide +kernel) (by decide +kernel)) (by decide +kernel) (inB_at 916 (by decide +kernel) (by decide +kernel)) (inB_at 42 (by decide +kernel) (by decide +kernel))
def M_X9_layPairs : MC := (yX9_layPairs, 9, cX9_layPairs, T_X9_layPairs, 12, none)
set_option maxRecDepth 100000 in
theorem ok_X9_layPairs : mkV M_X9_layPairs 3 = true := mkV_of (by decide +kernel) (inB_at 913 (by decide +kernel) (by decide +kernel)) (inB_at 67 (by decide +kernel) (by decide +kernel)) (by decide +kernel) (inB_at 912 (by decide +kernel) (by decide +kernel)) (inB_at 41 (by decide +kernel) (by decide +kernel))
def M_X9_leads : MC := (yX9_leads, 9, cX9_leads, T_X9_leads, 7, (some .boolean))
set_option maxRecDepth 100000 in
theorem ok_X9_leads : mkV M_X9_leads 3 = true := mkV_of (by decide +kernel) (inB_at 909 (by decide +kernel) (by decide +kernel)) (inB_at 67 (by decide +kernel) (by decide +kernel)) (by decide +kernel) (inB_at 908 (by decide +kernel) (by decide +kernel)) (inB_at 40 (by decide +kernel) (by decide +kernel))
def M_X9_led : MC := (yX9_led, 9, cX9_led, T_X9_led, 4, (some .int))
set_option maxRecDepth 100000 in
theorem ok_X9_led : mkV M_X9_led 2 = true := mkV_of (by decide +kernel) (inB_at 904 (by decide +kernel) (by decide +kernel)) (inB_at 67 (by decide +kernel) (by decide +kernel)) (by decide +kernel) (inB_at 902 (by decide +kernel) (by decide +kernel)) (inB_at 903 (by decide +kernel) (by decide +kernel))
def M_X9_isThere : MC := (yX9_isThere, 9, cX9_isThere, T_X9_isThere, 3, (some .boolean))
set_option maxRecDepth 100000 in
theorem ok_X9_isThere : mkV M_X9_isThere 1 = true := mkV_of (by decide +kernel) (inB_at 943 (by decide +kernel) (by decide +kernel)) (inB_at 67 (by decide +kernel) (by decide +kernel)) (by decide +kernel) (inB_at 942 (by decide +kernel) (by decide +kernel)) (inB_at 46 (by decide +kernel) (by decide +kernel))
def M_X9_go : MC := (yX9_go, 9, cX9_go, T_X9_go, 2, none)
set_option maxRecDepth 100000 in
theorem ok_X9_go : mkV M_X9_go 1 = true := mkV_of (by decide +kernel) (inB_at 939 (by decide +kernel) (by decide +kernel)) (inB_at 67 (by decide +kernel) (by decide +kernel)) (by decide +kernel) (inB_at 938 (by decide +kernel) (by decide +kernel)) (inB_at 45 (by decide +kernel) (by decide +kernel))
def M_X9_halves : MC := (yX9_halves, 9, cX9_halves, T_X9_halves, 5, none)
set_option maxRecDepth 100000 in
theorem ok_X9_halves : mkV M_X9_halves 1 = true := mkV_of (by decide +kernel) (inB_at 935 (by decide +kernel) (by decide +kernel)) (inB_at 67 (by decide +kernel) (by decide +kernel)) (by decide +kernel) (inB_at 934 (by decide +kernel) (by decide +kernel)) (inB_at 44 (by decide +kernel) (by decide +kernel))
def M_X9_figures : MC := (yX9_figures, 9, cX9_figures, T_X9_figures, 8, none)
set_option maxRecDepth 100000 in
theorem ok_X9_figures : mkV M_X9_figures 2 = true := mkV_of (by decide +kernel) (inB_at 947 (by decide +kernel) (by decide +kernel)) (inB_at 67 (by decide +kernel) (by decide +kernel)) (by decide +kernel) (inB_at 946 (by decide +kernel) (by decide +kernel)) (inB_at 47 (by decide +kernel) (by decide +kernel))
def M_X9_leastPrime : MC := (yX9_leastPrime, 9, cX9_leastPrime, T_X9_leastPrime, 2, (some .int))
set_option maxRecDepth 100000 in
theorem ok_X9_leastPrime : mkS M_X9_leastPrime 1 = true := mkS_of (by decide +kernel) (inB_at 954 (by decide +kernel) (by decide +kernel)) (inB_at 67 (by decide +kernel) (by decide +kernel)) (by decide +kernel) (inB_at 953 (by decide +kernel) (by decide +kernel))
def M_X9_factors : MC := (yX9_factors, 9, cX9_factors, T_X9_factors, 6, none)
set_option maxRecDepth 100000 in
theorem ok_X9_factors : mkV M_X9_factors 1 = true := mkV_of (by decide +kernel) (inB_at 951 (by decide +kernel) (by decide +kernel)) (inB_at 67 (by decide +kernel) (by decide +kernel)) (by decide +kernel) (inB_at 950 (by decide +kernel) (by decide +kernel)) (inB_at 48 (by decide +kernel) (by decide +kernel))
def M_X9_layTree : MC := (yX9_layTree, 9, cX9_layTree, T_X9_layTree, 8, none)
set_option maxRecDepth 100000 in
theorem ok_X9_layTree : mkV M_X9_layTree 1 = true := mkV_of (by decide +kernel) (inB_at 962 (by decide +kernel) (by decide +kernel)) (inB_at 67 (by decide +kernel) (by decide +kernel)) (by decide +kernel) (inB_at 961 (by decide +kernel) (by decide +kernel)) (inB_at 50 (by decide +kernel) (by decide +kernel))
def M_X9_treeRoad : MC := (yX9_treeRoad, 9, cX9_treeRoad, T_X9_treeRoad, 4, none)
set_option maxRecDepth 100000 in
theorem ok_X9_treeRoad : mkV M_X9_treeRoad 1 = true := mkV_of (by decide +kernel) (inB_at 958 (by decide +kernel) (by decide +kernel)) (inB_at 67 (by decide +kernel) (by decide +kernel)) (by decide +kernel) (inB_at 957 (by decide +kernel) (by decide +kernel)) (inB_at 49 (by decide +kernel) (by decide +kernel))
def M_X9_signs : MC := (yX9_signs, 9, cX9_signs, T_X9_signs, 5, none)
set_option maxRecDepth 100000 in
theorem ok_X9_signs : mkV M_X9_signs 1 = true := mkV_of (by decide +kernel) (inB_at 966 (by decide +kernel) (by decide +kernel)) (inB_at 67 (by decide +kernel) (by decide +kernel)) (by decide +kernel) (inB_at 965 (by decide +kernel) (by decide +kernel)) (inB_at 51 (by decide +kernel) (by decide +kernel))
def M_X9_isRoad : MC := (yX9_isRoad, 9, cX9_isRoad, T_X9_isRoad, 3, (some .boolean))
set_option maxRecDepth 100000 in
theorem ok_X9_isRoad : mkS M_X9_isRoad 3 = true := mkS_of (by decide +kernel) (inB_at 924 (by decide +kernel) (by decide +kernel)) (inB_at 67 (by decide +kernel) (by decide +kernel)) (by decide +kernel) (inB_at 923 (by decide +kernel) (by decide +kernel))
def M_X9_layRoad : MC := (yX9_layRoad, 9, cX9_layRoad, T_X9_layRoad, 4, none)
set_option maxRecDepth 100000 in
theorem ok_X9_layRoad : mkV M_X9_layRoad 3 = true := mkV_of (by decide +kernel) (inB_at 931 (by decide +kernel) (by decide +kernel)) (inB_at 67 (by decide +kernel) (by decide +kernel)) (by decide +kernel) (inB_at 930 (by decide +kernel) (by decide +kernel)) (inB_at 43 (by decide +kernel) (by decide +kernel))
def M_X9_road : MC := (yX9_road, 9, cX9_road, T_X9_road, 4, (some .int))
set_option maxRecDepth 100000 in
theorem ok_X9_road : mkV M_X9_road 3 = true := mkV_of (by decide +kernel) (inB_at 921 (by decide +kernel) (by decide +kernel)) (inB_at 67 (by decide +kernel) (by decide +kernel)) (by decide +kernel) (inB_at 919 (by decide +kernel) (by decide +kernel)) (inB_at 920 (by decide +kernel) (by decide +kernel))
def M_X9_step : MC := (yX9_step, 9, cX9_step, T_X9_step, 5, (some .int))
set_option maxRecDepth 100000 in
theorem ok_X9_step : mkV M_X9_step 4 = true := mkV_of (by decide +kernel) (inB_at 970 (by decide +kernel) (by decide +kernel)) (inB_at 67 (by decide +kernel) (by decide +kernel)) (by decide +kernel) (inB_at 968 (by decide +kernel) (by decide +kernel)) (inB_at 969 (by decide +kernel) (by decide +kernel))
def M_X9_good : MC := (yX9_good, 9, cX9_good, T_X9_good, 6, (some .int))
set_option maxRecDepth 100000 in
theorem ok_X9_good : mkV M_X9_good 3 = true := mkV_of (by decide +kernel) (inB_at 974 (by decide +kernel) (by decide +kernel)) (inB_at 67 (by decide +kernel) (by decide +kernel)) (by decide +kernel) (inB_at 972 (by decide +kernel) (by decide +kernel)) (inB_at 973 (by decide +kernel) (by decide +kernel))
def M_X9_price : MC := (yX9_price, 9, cX9_price, T_X9_price, 4, (some .int))
set_option maxRecDepth 100000 in
theorem ok_X9_price : mkV M_X9_price 2 = true := mkV_of (by decide +kernel) (inB_at 979 (by decide +kernel) (by decide +kernel)) (inB_at 67 (by decide +kernel) (by decide +kernel)) (by decide +kernel) (inB_at 977 (by decide +kernel) (by decide +kernel)) (inB_at 978 (by decide +kernel) (by decide +kernel))
def M_X9_costOf : MC := (yX9_costOf, 9, cX9_costOf, T_X9_costOf, 6, (some .int))
set_option maxRecDepth 100000 in
theorem ok_X9_costOf : mkV M_X9_costOf 2 = true := mkV_of (by decide +kernel) (inB_at 991 (by decide +kernel) (by decide +kernel)) (inB_at 67 (by decide +kernel) (by decide +kernel)) (by decide +kernel) (inB_at 990 (by decide +kernel) (by decide +kernel)) (inB_at 53 (by decide +kernel) (by decide +kernel))
def M_X9_costs : MC := (yX9_costs, 9, cX9_costs, T_X9_costs, 8, (some .boolean))
set_option maxRecDepth 100000 in
theorem ok_X9_costs : mkV M_X9_costs 2 = true := mkV_of (by decide +kernel) (inB_at 987 (by decide +kernel) (by decide +kernel)) (inB_at 67 (by decide +kernel) (by decide +kernel)) (by decide +kernel) (inB_at 986 (by decide +kernel) (by decide +kernel)) (inB_at 52 (by decide +kernel) (by decide +kernel))
def M_X9_cheapest : MC := (yX9_cheapest, 9, cX9_cheapest, T_X9_cheapest, 3, (some .int))
set_option maxRecDepth 100000 in
theorem ok_X9_cheapest : mkV M_X9_cheapest 1 = true := mkV_of (by decide +kernel) (inB_at 983 (by decide +kernel) (by decide +kernel)) (inB_at 67 (by decide +kernel) (by decide +kernel)) (by decide +kernel) (inB_at 981 (by decide +kernel) (by decide +kernel)) (inB_at 982 (by decide +kernel) (by decide +kernel))
def M_X9_write : MC := (yX9_write, 9, cX9_write, T_X9_write, 5, (some .int))
set_option maxRecDepth 100000 in
theorem ok_X9_write : mkV M_X9_write 2 = true := mkV_of (by decide +kernel) (inB_at 995 (by decide +kernel) (by decide +kernel)) (inB_at 67 (by decide +kernel) (by decide +kernel)) (by decide +kernel) (inB_at 993 (by decide +kernel) (by decide +kernel)) (inB_at 994 (by decide +kernel) (by decide +kernel))
def M_X9_wipe : MC := (yX9_wipe, 9, cX9_wipe, T_X9_wipe, 2, (some .int))
set_option maxRecDepth 100000 in
theorem ok_X9_wipe : mkV M_X9_wipe 0 = true := mkV_of (by decide +kernel) (inB_at 1001 (by decide +kernel) (by decide +kernel)) (inB_at 67 (by decide +kernel) (by decide +kernel)) (by decide +kernel) (inB_at 999 (by decide +kernel) (by decide +kernel)) (inB_at 1000 (by decide +kernel) (by decide +kernel))
def M_X9_isRead : MC := (yX9_isRead, 9, cX9_isRead, T_X9_isRead, 3, (some .boolean))
set_option maxRecDepth 100000 in
theorem ok_X9_isRead : mkV M_X9_isRead 1 = true := mkV_of (by decide +kernel) (inB_at 1021 (by decide +kernel) (by decide +kernel)) (inB_at 67 (by decide +kernel) (by decide +kernel)) (by decide +kernel) (inB_at 1020 (by decide +kernel) (by decide +kernel)) (inB_at 56 (by decide +kernel) (by decide +kernel))
def M_X9_may : MC := (yX9_may, 9, cX9_may, T_X9_may, 10, (some .boolean))
set_option maxRecDepth 100000 in
theorem ok_X9_may : mkV M_X9_may 2 = true := mkV_of (by decide +kernel) (inB_at 1017 (by decide +kernel) (by decide +kernel)) (inB_at 67 (by decide +kernel) (by decide +kernel)) (by decide +kernel) (inB_at 1016 (by decide +kernel) (by decide +kernel)) (inB_at 55 (by decide +kernel) (by decide +kernel))
def M_X9_readAll : MC := (yX9_readAll, 9, cX9_readAll, T_X9_readAll, 5, (some .int))
set_option maxRecDepth 100000 in
theorem ok_X9_readAll : mkV M_X9_readAll 1 = true := mkV_of (by decide +kernel) (inB_at 1009 (by decide +kernel) (by decide +kernel)) (inB_at 67 (by decide +kernel) (by decide +kernel)) (by decide +kernel) (inB_at 1008 (by decide +kernel) (by decide +kernel)) (inB_at 54 (by decide +kernel) (by decide +kernel))
def M_X9_fault : MC := (yX9_fault, 9, cX9_fault, T_X9_fault, 2, (some .int))
set_option maxRecDepth 100000 in
theorem ok_X9_fault : mkV M_X9_fault 1 = true := mkV_of (by decide +kernel) (inB_at 1005 (by decide +kernel) (by decide +kernel)) (inB_at 67 (by decide +kernel) (by decide +kernel)) (by decide +kernel) (inB_at 1003 (by decide +kernel) (by decide +kernel)) (inB_at 1004 (by decide +kernel) (by decide +kernel))
def M_X9_take : MC := (yX9_take, 9, cX9_take, T_X9_take, 3, (some .int))
set_option maxRecDepth 100000 in
theorem ok_X9_take : mkV M_X9_take 1 = true := mkV_of (by decide +kernel) (inB_at 1025 (by decide +kernel) (by decide +kernel)) (inB_at 67 (by decide +kernel) (by decide +kernel)) (by decide +kernel) (inB_at 1023 (by decide +kernel) (by decide +kernel)) (inB_at 1024 (by decide +kernel) (by decide +kernel))
def M_X9_chain : MC := (yX9_chain, 9, cX9_chain, T_X9_chain, 2, (some .int))
set_option maxRecDepth 100000 in
theorem ok_X9_chain : mkV M_X9_chain 1 = true := mkV_of (by decide +kernel) (inB_at 1029 (by decide +kernel) (by decide +kernel)) (inB_at 67 (by decide +kernel) (by decide +kernel)) (by decide +kernel) (inB_at 1027 (by decide +kernel) (by decide +kernel)) (inB_at 1028 (by decide +kernel) (by decide +kernel))
def M_X9_layUses : MC := (yX9_layUses, 9, cX9_layUses, T_X9_layUses, 3, none)
set_option maxRecDepth 100000 in
theorem ok_X9_layUses : mkV M_X9_layUses 0 = true := mkV_of (by decide +kernel) (inB_at 1037 (by decide +kernel) (by decide +kernel)) (inB_at 67 (by decide +kernel) (by decide +kernel)) (by decide +kernel) (inB_at 1036 (by decide +kernel) (by decide +kernel)) (inB_at 57 (by decide +kernel) (by decide +kernel))
def M_X9_uses : MC := (yX9_uses, 9, cX9_uses, T_X9_uses, 2, (some .int))
set_option maxRecDepth 100000 in
theorem ok_X9_uses : mkV M_X9_uses 1 = true := mkV_of (by decide +kernel) (inB_at 1033 (by decide +kernel) (by decide +kernel)) (inB_at 67 (by decide +kernel) (by decide +kernel)) (by decide +kernel) (inB_at 1031 (by decide +kernel) (by decide +kernel)) (inB_at 1032 (by decide +kernel) (by decide +kernel))
def M_X9_drawers : MC := (yX9_drawers, 9, cX9_drawers, T_X9_drawers, 6, (some .int))
set_option maxRecDepth 100000 in
theorem ok_X9_drawers : mkV M_X9_drawers 0 = true := mkV_of (by decide +kernel) (inB_at 1041 (by decide +kernel) (by decide +kernel)) (inB_at 67 (by decide +kernel) (by decide +kernel)) (by decide +kernel) (inB_at 1039 (by decide +kernel) (by decide +kernel)) (inB_at 1040 (by decide +kernel) (by decide +kernel))
def M_X9_power : MC := (yX9_power, 9, cX9_power, T_X9_power, 8, (some .int))
set_option maxRecDepth 100000 in
theorem ok_X9_power : mkV M_X9_power 2 = true := mkV_of (by decide +kernel) (inB_at 1045 (by decide +kernel) (by decide +kernel)) (inB_at 67 (by decide +kernel) (by decide +kernel)) (by decide +kernel) (inB_at 1043 (by decide +kernel) (by decide +kernel)) (inB_at 1044 (by decide +kernel) (by decide +kernel))
def M_X9_count : MC := (yX9_count, 9, cX9_count, T_X9_count, 2, (some .int))
set_option maxRecDepth 100000 in
theorem ok_X9_count : mkV M_X9_count 1 = true := mkV_of (by decide +kernel) (inB_at 1050 (by decide +kernel) (by decide +kernel)) (inB_at 67 (by decide +kernel) (by decide +kernel)) (by decide +kernel) (inB_at 1048 (by decide +kernel) (by decide +kernel)) (inB_at 1049 (by decide +kernel) (by decide +kernel))
def M_J9_abs_0f7a4 : MC := (yJ9_abs_0f7a4, 11, cJ9_abs_0f7a4, T_J9_abs_0f7a4, 1, (some .int))
def M_J9_max_7cf53 : MC := (yJ9_max_7cf53, 11, cJ9_max_7cf53, T_J9_max_7cf53, 2, (some .int))
def M_J9_min_7cf53 : MC := (yJ9_min_7cf53, 11, cJ9_min_7cf53, T_J9_min_7cf53, 2, (some .int))
def M_L_law : MC := (yL_law, 10, cL_law, T_L_law, 4, (some .boolean))

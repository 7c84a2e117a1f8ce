-- ===== PART A: goes FIRST, ahead of the names: the tables' words, and 'selects' of the private methods out of them =====
/-- a private method of a class that the tables say can be made, by its rows of tables_1 -/
def lw_okq (q : MethodName × Nat) : Prop := (q.1.cls ≠ "java/lang/invoke/MethodHandle" ∧ q.1.cls ≠ "java/lang/invoke/VarHandle") ∧ Cond.instantiable q.1.cls q.2 ∈ tables_1 ∧ Cond.privateMethod q.1 ∈ tables_1 ∧ Cond.instanceMethod q.1 ∈ tables_1
theorem lw_p0 : lw_okq (⟨"SumChains$Chain", "append", "(I)Z"⟩, 8) := ⟨⟨by decide +kernel, by decide +kernel⟩, List.mem_of_getElem? (i := 149) (by decide +kernel), List.mem_of_getElem? (i := 155) (by decide +kernel), List.mem_of_getElem? (i := 156) (by decide +kernel)⟩
theorem lw_p1 : lw_okq (⟨"SumChains$Shortest", "search", "(IIIZ)I"⟩, 10) := ⟨⟨by decide +kernel, by decide +kernel⟩, List.mem_of_getElem? (i := 45) (by decide +kernel), List.mem_of_getElem? (i := 223) (by decide +kernel), List.mem_of_getElem? (i := 224) (by decide +kernel)⟩
theorem lw_p2 : lw_okq (⟨"SumChains$Trial", "changePairs", "(II)V"⟩, 5) := ⟨⟨by decide +kernel, by decide +kernel⟩, List.mem_of_getElem? (i := 21) (by decide +kernel), List.mem_of_getElem? (i := 243) (by decide +kernel), List.mem_of_getElem? (i := 244) (by decide +kernel)⟩
theorem lw_p3 : lw_okq (⟨"SumChains$Shortest", "climb", "(I)I"⟩, 10) := ⟨⟨by decide +kernel, by decide +kernel⟩, List.mem_of_getElem? (i := 45) (by decide +kernel), List.mem_of_getElem? (i := 254) (by decide +kernel), List.mem_of_getElem? (i := 255) (by decide +kernel)⟩
theorem lw_p4 : lw_okq (⟨"SumChains$Shortest", "keep", "(I)I"⟩, 10) := ⟨⟨by decide +kernel, by decide +kernel⟩, List.mem_of_getElem? (i := 45) (by decide +kernel), List.mem_of_getElem? (i := 270) (by decide +kernel), List.mem_of_getElem? (i := 271) (by decide +kernel)⟩
theorem lw_p5 : lw_okq (⟨"SumChains$Shortest", "keepNumber", "(I)V"⟩, 10) := ⟨⟨by decide +kernel, by decide +kernel⟩, List.mem_of_getElem? (i := 45) (by decide +kernel), List.mem_of_getElem? (i := 279) (by decide +kernel), List.mem_of_getElem? (i := 280) (by decide +kernel)⟩
theorem lw_p6 : lw_okq (⟨"SumChains$Shortest", "lowest", "(I)I"⟩, 10) := ⟨⟨by decide +kernel, by decide +kernel⟩, List.mem_of_getElem? (i := 45) (by decide +kernel), List.mem_of_getElem? (i := 283) (by decide +kernel), List.mem_of_getElem? (i := 284) (by decide +kernel)⟩
theorem lw_p7 : lw_okq (⟨"SumChains$Shortest", "highest", "()I"⟩, 10) := ⟨⟨by decide +kernel, by decide +kernel⟩, List.mem_of_getElem? (i := 45) (by decide +kernel), List.mem_of_getElem? (i := 298) (by decide +kernel), List.mem_of_getElem? (i := 299) (by decide +kernel)⟩
theorem lw_p8 : lw_okq (⟨"SumChains$Gathering", "climb", "(II)Z"⟩, 3) := ⟨⟨by decide +kernel, by decide +kernel⟩, List.mem_of_getElem? (i := 84) (by decide +kernel), List.mem_of_getElem? (i := 367) (by decide +kernel), List.mem_of_getElem? (i := 368) (by decide +kernel)⟩
theorem lw_p9 : lw_okq (⟨"SumChains$Gathering", "lowest", "(II)I"⟩, 3) := ⟨⟨by decide +kernel, by decide +kernel⟩, List.mem_of_getElem? (i := 84) (by decide +kernel), List.mem_of_getElem? (i := 373) (by decide +kernel), List.mem_of_getElem? (i := 374) (by decide +kernel)⟩
theorem lw_p10 : lw_okq (⟨"SumChains$Road", "addHalves", "(I)V"⟩, 3) := ⟨⟨by decide +kernel, by decide +kernel⟩, List.mem_of_getElem? (i := 119) (by decide +kernel), List.mem_of_getElem? (i := 398) (by decide +kernel), List.mem_of_getElem? (i := 399) (by decide +kernel)⟩
theorem lw_p11 : lw_okq (⟨"SumChains$Road", "addDoubledAndFigure", "(II)I"⟩, 3) := ⟨⟨by decide +kernel, by decide +kernel⟩, List.mem_of_getElem? (i := 119) (by decide +kernel), List.mem_of_getElem? (i := 402) (by decide +kernel), List.mem_of_getElem? (i := 403) (by decide +kernel)⟩
theorem lw_p12 : lw_okq (⟨"SumChains$Road", "add", "(I)V"⟩, 3) := ⟨⟨by decide +kernel, by decide +kernel⟩, List.mem_of_getElem? (i := 119) (by decide +kernel), List.mem_of_getElem? (i := 406) (by decide +kernel), List.mem_of_getElem? (i := 407) (by decide +kernel)⟩
theorem lw_p13 : lw_okq (⟨"SumChains$Road", "holds", "(I)Z"⟩, 3) := ⟨⟨by decide +kernel, by decide +kernel⟩, List.mem_of_getElem? (i := 119) (by decide +kernel), List.mem_of_getElem? (i := 410) (by decide +kernel), List.mem_of_getElem? (i := 411) (by decide +kernel)⟩
theorem lw_p14 : lw_okq (⟨"SumChains$Road", "addFigures", "(II)V"⟩, 3) := ⟨⟨by decide +kernel, by decide +kernel⟩, List.mem_of_getElem? (i := 119) (by decide +kernel), List.mem_of_getElem? (i := 414) (by decide +kernel), List.mem_of_getElem? (i := 415) (by decide +kernel)⟩
theorem lw_p15 : lw_okq (⟨"SumChains$Road", "addFactors", "(III)V"⟩, 3) := ⟨⟨by decide +kernel, by decide +kernel⟩, List.mem_of_getElem? (i := 119) (by decide +kernel), List.mem_of_getElem? (i := 420) (by decide +kernel), List.mem_of_getElem? (i := 421) (by decide +kernel)⟩
def lw_privs_1 : List (MethodName × Nat) := [(⟨"SumChains$Chain", "append", "(I)Z"⟩, 8), (⟨"SumChains$Shortest", "search", "(IIIZ)I"⟩, 10), (⟨"SumChains$Trial", "changePairs", "(II)V"⟩, 5), (⟨"SumChains$Shortest", "climb", "(I)I"⟩, 10), (⟨"SumChains$Shortest", "keep", "(I)I"⟩, 10), (⟨"SumChains$Shortest", "keepNumber", "(I)V"⟩, 10), (⟨"SumChains$Shortest", "lowest", "(I)I"⟩, 10), (⟨"SumChains$Shortest", "highest", "()I"⟩, 10), (⟨"SumChains$Gathering", "climb", "(II)Z"⟩, 3), (⟨"SumChains$Gathering", "lowest", "(II)I"⟩, 3), (⟨"SumChains$Road", "addHalves", "(I)V"⟩, 3), (⟨"SumChains$Road", "addDoubledAndFigure", "(II)I"⟩, 3), (⟨"SumChains$Road", "add", "(I)V"⟩, 3), (⟨"SumChains$Road", "holds", "(I)Z"⟩, 3), (⟨"SumChains$Road", "addFigures", "(II)V"⟩, 3), (⟨"SumChains$Road", "addFactors", "(III)V"⟩, 3)]
theorem lw_r1 : ∀ q ∈ lw_privs_1, lw_okq q := List.forall_mem_cons.mpr ⟨lw_p0, List.forall_mem_cons.mpr ⟨lw_p1, List.forall_mem_cons.mpr ⟨lw_p2, List.forall_mem_cons.mpr ⟨lw_p3, List.forall_mem_cons.mpr ⟨lw_p4, List.forall_mem_cons.mpr ⟨lw_p5, List.forall_mem_cons.mpr ⟨lw_p6, List.forall_mem_cons.mpr ⟨lw_p7, List.forall_mem_cons.mpr ⟨lw_p8, List.forall_mem_cons.mpr ⟨lw_p9, List.forall_mem_cons.mpr ⟨lw_p10, List.forall_mem_cons.mpr ⟨lw_p11, List.forall_mem_cons.mpr ⟨lw_p12, List.forall_mem_cons.mpr ⟨lw_p13, List.forall_mem_cons.mpr ⟨lw_p14, List.forall_mem_cons.mpr ⟨lw_p15, fun _ h => absurd h List.not_mem_nil⟩⟩⟩⟩⟩⟩⟩⟩⟩⟩⟩⟩⟩⟩⟩⟩
theorem lw_p16 : lw_okq (⟨"SumChains$Road", "addWay", "(I)V"⟩, 3) := ⟨⟨by decide +kernel, by decide +kernel⟩, List.mem_of_getElem? (i := 119) (by decide +kernel), List.mem_of_getElem? (i := 427) (by decide +kernel), List.mem_of_getElem? (i := 428) (by decide +kernel)⟩
theorem lw_p17 : lw_okq (⟨"SumChains$Road", "grownTree", "()LSumChains$PowerTree;"⟩, 3) := ⟨⟨by decide +kernel, by decide +kernel⟩, List.mem_of_getElem? (i := 119) (by decide +kernel), List.mem_of_getElem? (i := 431) (by decide +kernel), List.mem_of_getElem? (i := 432) (by decide +kernel)⟩
theorem lw_p18 : lw_okq (⟨"SumChains$PowerTree", "growBelow", "(II)V"⟩, 6) := ⟨⟨by decide +kernel, by decide +kernel⟩, List.mem_of_getElem? (i := 435) (by decide +kernel), List.mem_of_getElem? (i := 441) (by decide +kernel), List.mem_of_getElem? (i := 442) (by decide +kernel)⟩
theorem lw_p19 : lw_okq (⟨"SumChains$Road", "addSigns", "(I)V"⟩, 3) := ⟨⟨by decide +kernel, by decide +kernel⟩, List.mem_of_getElem? (i := 119) (by decide +kernel), List.mem_of_getElem? (i := 477) (by decide +kernel), List.mem_of_getElem? (i := 478) (by decide +kernel)⟩
theorem lw_p20 : lw_okq (⟨"SumChains$Bargain", "climb", "(II)Z"⟩, 4) := ⟨⟨by decide +kernel, by decide +kernel⟩, List.mem_of_getElem? (i := 100) (by decide +kernel), List.mem_of_getElem? (i := 514) (by decide +kernel), List.mem_of_getElem? (i := 515) (by decide +kernel)⟩
theorem lw_p21 : lw_okq (⟨"SumChains$Bargain", "priceOf", "(I)I"⟩, 4) := ⟨⟨by decide +kernel, by decide +kernel⟩, List.mem_of_getElem? (i := 100) (by decide +kernel), List.mem_of_getElem? (i := 520) (by decide +kernel), List.mem_of_getElem? (i := 521) (by decide +kernel)⟩
theorem lw_p22 : lw_okq (⟨"SumChains$Bargain", "inReach", "(II)Z"⟩, 4) := ⟨⟨by decide +kernel, by decide +kernel⟩, List.mem_of_getElem? (i := 100) (by decide +kernel), List.mem_of_getElem? (i := 527) (by decide +kernel), List.mem_of_getElem? (i := 528) (by decide +kernel)⟩
theorem lw_p23 : lw_okq (⟨"SumChains$Text", "endOfFigures", "(I)I"⟩, 2) := ⟨⟨by decide +kernel, by decide +kernel⟩, List.mem_of_getElem? (i := 135) (by decide +kernel), List.mem_of_getElem? (i := 568) (by decide +kernel), List.mem_of_getElem? (i := 569) (by decide +kernel)⟩
theorem lw_p24 : lw_okq (⟨"SumChains$Text", "valueOf", "(II)I"⟩, 2) := ⟨⟨by decide +kernel, by decide +kernel⟩, List.mem_of_getElem? (i := 135) (by decide +kernel), List.mem_of_getElem? (i := 573) (by decide +kernel), List.mem_of_getElem? (i := 574) (by decide +kernel)⟩
theorem lw_p25 : lw_okq (⟨"SumChains$Chain", "mayStandNext", "(I)Z"⟩, 8) := ⟨⟨by decide +kernel, by decide +kernel⟩, List.mem_of_getElem? (i := 149) (by decide +kernel), List.mem_of_getElem? (i := 581) (by decide +kernel), List.mem_of_getElem? (i := 582) (by decide +kernel)⟩
theorem lw_p26 : lw_okq (⟨"SumChains$Chain", "placeOf", "(I)I"⟩, 8) := ⟨⟨by decide +kernel, by decide +kernel⟩, List.mem_of_getElem? (i := 149) (by decide +kernel), List.mem_of_getElem? (i := 585) (by decide +kernel), List.mem_of_getElem? (i := 586) (by decide +kernel)⟩
theorem lw_p27 : lw_okq (⟨"SumChains$Chain", "findSum", "(I)V"⟩, 8) := ⟨⟨by decide +kernel, by decide +kernel⟩, List.mem_of_getElem? (i := 149) (by decide +kernel), List.mem_of_getElem? (i := 598) (by decide +kernel), List.mem_of_getElem? (i := 599) (by decide +kernel)⟩
theorem lw_p28 : lw_okq (⟨"SumChains$Chain", "letsAdd", "(II)Z"⟩, 8) := ⟨⟨by decide +kernel, by decide +kernel⟩, List.mem_of_getElem? (i := 149) (by decide +kernel), List.mem_of_getElem? (i := 602) (by decide +kernel), List.mem_of_getElem? (i := 603) (by decide +kernel)⟩
theorem lw_p29 : lw_okq (⟨"SumChains$Chain", "findDifference", "(I)V"⟩, 8) := ⟨⟨by decide +kernel, by decide +kernel⟩, List.mem_of_getElem? (i := 149) (by decide +kernel), List.mem_of_getElem? (i := 606) (by decide +kernel), List.mem_of_getElem? (i := 607) (by decide +kernel)⟩
theorem lw_p30 : lw_okq (⟨"SumChains$Chain", "useBoth", "(I)Z"⟩, 8) := ⟨⟨by decide +kernel, by decide +kernel⟩, List.mem_of_getElem? (i := 149) (by decide +kernel), List.mem_of_getElem? (i := 610) (by decide +kernel), List.mem_of_getElem? (i := 611) (by decide +kernel)⟩
theorem lw_p31 : lw_okq (⟨"SumChains$Chain", "wantedFrom", "(II)I"⟩, 8) := ⟨⟨by decide +kernel, by decide +kernel⟩, List.mem_of_getElem? (i := 149) (by decide +kernel), List.mem_of_getElem? (i := 643) (by decide +kernel), List.mem_of_getElem? (i := 644) (by decide +kernel)⟩
def lw_privs_2 : List (MethodName × Nat) := [(⟨"SumChains$Road", "addWay", "(I)V"⟩, 3), (⟨"SumChains$Road", "grownTree", "()LSumChains$PowerTree;"⟩, 3), (⟨"SumChains$PowerTree", "growBelow", "(II)V"⟩, 6), (⟨"SumChains$Road", "addSigns", "(I)V"⟩, 3), (⟨"SumChains$Bargain", "climb", "(II)Z"⟩, 4), (⟨"SumChains$Bargain", "priceOf", "(I)I"⟩, 4), (⟨"SumChains$Bargain", "inReach", "(II)Z"⟩, 4), (⟨"SumChains$Text", "endOfFigures", "(I)I"⟩, 2), (⟨"SumChains$Text", "valueOf", "(II)I"⟩, 2), (⟨"SumChains$Chain", "mayStandNext", "(I)Z"⟩, 8), (⟨"SumChains$Chain", "placeOf", "(I)I"⟩, 8), (⟨"SumChains$Chain", "findSum", "(I)V"⟩, 8), (⟨"SumChains$Chain", "letsAdd", "(II)Z"⟩, 8), (⟨"SumChains$Chain", "findDifference", "(I)V"⟩, 8), (⟨"SumChains$Chain", "useBoth", "(I)Z"⟩, 8), (⟨"SumChains$Chain", "wantedFrom", "(II)I"⟩, 8)]
theorem lw_r2 : ∀ q ∈ lw_privs_2, lw_okq q := List.forall_mem_cons.mpr ⟨lw_p16, List.forall_mem_cons.mpr ⟨lw_p17, List.forall_mem_cons.mpr ⟨lw_p18, List.forall_mem_cons.mpr ⟨lw_p19, List.forall_mem_cons.mpr ⟨lw_p20, List.forall_mem_cons.mpr ⟨lw_p21, List.forall_mem_cons.mpr ⟨lw_p22, List.forall_mem_cons.mpr ⟨lw_p23, List.forall_mem_cons.mpr ⟨lw_p24, List.forall_mem_cons.mpr ⟨lw_p25, List.forall_mem_cons.mpr ⟨lw_p26, List.forall_mem_cons.mpr ⟨lw_p27, List.forall_mem_cons.mpr ⟨lw_p28, List.forall_mem_cons.mpr ⟨lw_p29, List.forall_mem_cons.mpr ⟨lw_p30, List.forall_mem_cons.mpr ⟨lw_p31, fun _ h => absurd h List.not_mem_nil⟩⟩⟩⟩⟩⟩⟩⟩⟩⟩⟩⟩⟩⟩⟩⟩
theorem lw_p32 : lw_okq (⟨"SumChainsModel", "fewestOf", "(II)I"⟩, 31) := ⟨⟨by decide +kernel, by decide +kernel⟩, List.mem_of_getElem? (i := 669) (by decide +kernel), List.mem_of_getElem? (i := 783) (by decide +kernel), List.mem_of_getElem? (i := 784) (by decide +kernel)⟩
theorem lw_p33 : lw_okq (⟨"SumChainsModel", "search", "(IIIZ)I"⟩, 31) := ⟨⟨by decide +kernel, by decide +kernel⟩, List.mem_of_getElem? (i := 669) (by decide +kernel), List.mem_of_getElem? (i := 787) (by decide +kernel), List.mem_of_getElem? (i := 788) (by decide +kernel)⟩
theorem lw_p34 : lw_okq (⟨"SumChainsModel", "layComes", "(III)V"⟩, 31) := ⟨⟨by decide +kernel, by decide +kernel⟩, List.mem_of_getElem? (i := 669) (by decide +kernel), List.mem_of_getElem? (i := 791) (by decide +kernel), List.mem_of_getElem? (i := 792) (by decide +kernel)⟩
theorem lw_p35 : lw_okq (⟨"SumChainsModel", "isTold", "(II)Z"⟩, 31) := ⟨⟨by decide +kernel, by decide +kernel⟩, List.mem_of_getElem? (i := 669) (by decide +kernel), List.mem_of_getElem? (i := 795) (by decide +kernel), List.mem_of_getElem? (i := 796) (by decide +kernel)⟩
theorem lw_p36 : lw_okq (⟨"SumChainsModel", "note", "(III)V"⟩, 31) := ⟨⟨by decide +kernel, by decide +kernel⟩, List.mem_of_getElem? (i := 669) (by decide +kernel), List.mem_of_getElem? (i := 799) (by decide +kernel), List.mem_of_getElem? (i := 800) (by decide +kernel)⟩
theorem lw_p37 : lw_okq (⟨"SumChainsModel", "greatest", "(I)I"⟩, 31) := ⟨⟨by decide +kernel, by decide +kernel⟩, List.mem_of_getElem? (i := 669) (by decide +kernel), List.mem_of_getElem? (i := 803) (by decide +kernel), List.mem_of_getElem? (i := 804) (by decide +kernel)⟩
theorem lw_p38 : lw_okq (⟨"SumChainsModel", "reaches", "(I)Z"⟩, 31) := ⟨⟨by decide +kernel, by decide +kernel⟩, List.mem_of_getElem? (i := 669) (by decide +kernel), List.mem_of_getElem? (i := 836) (by decide +kernel), List.mem_of_getElem? (i := 837) (by decide +kernel)⟩
theorem lw_p39 : lw_okq (⟨"SumChainsModel", "nextGoal", "(I)I"⟩, 31) := ⟨⟨by decide +kernel, by decide +kernel⟩, List.mem_of_getElem? (i := 669) (by decide +kernel), List.mem_of_getElem? (i := 840) (by decide +kernel), List.mem_of_getElem? (i := 841) (by decide +kernel)⟩
theorem lw_p40 : lw_okq (⟨"SumChainsModel", "leads", "(III)Z"⟩, 31) := ⟨⟨by decide +kernel, by decide +kernel⟩, List.mem_of_getElem? (i := 669) (by decide +kernel), List.mem_of_getElem? (i := 849) (by decide +kernel), List.mem_of_getElem? (i := 850) (by decide +kernel)⟩
theorem lw_p41 : lw_okq (⟨"SumChainsModel", "layPairs", "(III)V"⟩, 31) := ⟨⟨by decide +kernel, by decide +kernel⟩, List.mem_of_getElem? (i := 669) (by decide +kernel), List.mem_of_getElem? (i := 853) (by decide +kernel), List.mem_of_getElem? (i := 854) (by decide +kernel)⟩
theorem lw_p42 : lw_okq (⟨"SumChainsModel", "rankOf", "(I)I"⟩, 31) := ⟨⟨by decide +kernel, by decide +kernel⟩, List.mem_of_getElem? (i := 669) (by decide +kernel), List.mem_of_getElem? (i := 857) (by decide +kernel), List.mem_of_getElem? (i := 858) (by decide +kernel)⟩
theorem lw_p43 : lw_okq (⟨"SumChainsModel", "layRoad", "(III)V"⟩, 31) := ⟨⟨by decide +kernel, by decide +kernel⟩, List.mem_of_getElem? (i := 669) (by decide +kernel), List.mem_of_getElem? (i := 871) (by decide +kernel), List.mem_of_getElem? (i := 872) (by decide +kernel)⟩
theorem lw_p44 : lw_okq (⟨"SumChainsModel", "halves", "(I)V"⟩, 31) := ⟨⟨by decide +kernel, by decide +kernel⟩, List.mem_of_getElem? (i := 669) (by decide +kernel), List.mem_of_getElem? (i := 875) (by decide +kernel), List.mem_of_getElem? (i := 876) (by decide +kernel)⟩
theorem lw_p45 : lw_okq (⟨"SumChainsModel", "go", "(I)V"⟩, 31) := ⟨⟨by decide +kernel, by decide +kernel⟩, List.mem_of_getElem? (i := 669) (by decide +kernel), List.mem_of_getElem? (i := 879) (by decide +kernel), List.mem_of_getElem? (i := 880) (by decide +kernel)⟩
theorem lw_p46 : lw_okq (⟨"SumChainsModel", "isThere", "(I)Z"⟩, 31) := ⟨⟨by decide +kernel, by decide +kernel⟩, List.mem_of_getElem? (i := 669) (by decide +kernel), List.mem_of_getElem? (i := 883) (by decide +kernel), List.mem_of_getElem? (i := 884) (by decide +kernel)⟩
theorem lw_p47 : lw_okq (⟨"SumChainsModel", "figures", "(II)V"⟩, 31) := ⟨⟨by decide +kernel, by decide +kernel⟩, List.mem_of_getElem? (i := 669) (by decide +kernel), List.mem_of_getElem? (i := 887) (by decide +kernel), List.mem_of_getElem? (i := 888) (by decide +kernel)⟩
def lw_privs_3 : List (MethodName × Nat) := [(⟨"SumChainsModel", "fewestOf", "(II)I"⟩, 31), (⟨"SumChainsModel", "search", "(IIIZ)I"⟩, 31), (⟨"SumChainsModel", "layComes", "(III)V"⟩, 31), (⟨"SumChainsModel", "isTold", "(II)Z"⟩, 31), (⟨"SumChainsModel", "note", "(III)V"⟩, 31), (⟨"SumChainsModel", "greatest", "(I)I"⟩, 31), (⟨"SumChainsModel", "reaches", "(I)Z"⟩, 31), (⟨"SumChainsModel", "nextGoal", "(I)I"⟩, 31), (⟨"SumChainsModel", "leads", "(III)Z"⟩, 31), (⟨"SumChainsModel", "layPairs", "(III)V"⟩, 31), (⟨"SumChainsModel", "rankOf", "(I)I"⟩, 31), (⟨"SumChainsModel", "layRoad", "(III)V"⟩, 31), (⟨"SumChainsModel", "halves", "(I)V"⟩, 31), (⟨"SumChainsModel", "go", "(I)V"⟩, 31), (⟨"SumChainsModel", "isThere", "(I)Z"⟩, 31), (⟨"SumChainsModel", "figures", "(II)V"⟩, 31)]
theorem lw_r3 : ∀ q ∈ lw_privs_3, lw_okq q := List.forall_mem_cons.mpr ⟨lw_p32, List.forall_mem_cons.mpr ⟨lw_p33, List.forall_mem_cons.mpr ⟨lw_p34, List.forall_mem_cons.mpr ⟨lw_p35, List.forall_mem_cons.mpr ⟨lw_p36, List.forall_mem_cons.mpr ⟨lw_p37, List.forall_mem_cons.mpr ⟨lw_p38, List.forall_mem_cons.mpr ⟨lw_p39, List.forall_mem_cons.mpr ⟨lw_p40, List.forall_mem_cons.mpr ⟨lw_p41, List.forall_mem_cons.mpr ⟨lw_p42, List.forall_mem_cons.mpr ⟨lw_p43, List.forall_mem_cons.mpr ⟨lw_p44, List.forall_mem_cons.mpr ⟨lw_p45, List.forall_mem_cons.mpr ⟨lw_p46, List.forall_mem_cons.mpr ⟨lw_p47, fun _ h => absurd h List.not_mem_nil⟩⟩⟩⟩⟩⟩⟩⟩⟩⟩⟩⟩⟩⟩⟩⟩
theorem lw_p48 : lw_okq (⟨"SumChainsModel", "factors", "(I)V"⟩, 31) := ⟨⟨by decide +kernel, by decide +kernel⟩, List.mem_of_getElem? (i := 669) (by decide +kernel), List.mem_of_getElem? (i := 891) (by decide +kernel), List.mem_of_getElem? (i := 892) (by decide +kernel)⟩
theorem lw_p49 : lw_okq (⟨"SumChainsModel", "treeRoad", "(I)V"⟩, 31) := ⟨⟨by decide +kernel, by decide +kernel⟩, List.mem_of_getElem? (i := 669) (by decide +kernel), List.mem_of_getElem? (i := 898) (by decide +kernel), List.mem_of_getElem? (i := 899) (by decide +kernel)⟩
theorem lw_p50 : lw_okq (⟨"SumChainsModel", "layTree", "(I)V"⟩, 31) := ⟨⟨by decide +kernel, by decide +kernel⟩, List.mem_of_getElem? (i := 669) (by decide +kernel), List.mem_of_getElem? (i := 902) (by decide +kernel), List.mem_of_getElem? (i := 903) (by decide +kernel)⟩
theorem lw_p51 : lw_okq (⟨"SumChainsModel", "signs", "(I)V"⟩, 31) := ⟨⟨by decide +kernel, by decide +kernel⟩, List.mem_of_getElem? (i := 669) (by decide +kernel), List.mem_of_getElem? (i := 906) (by decide +kernel), List.mem_of_getElem? (i := 907) (by decide +kernel)⟩
theorem lw_p52 : lw_okq (⟨"SumChainsModel", "costs", "(II)Z"⟩, 31) := ⟨⟨by decide +kernel, by decide +kernel⟩, List.mem_of_getElem? (i := 669) (by decide +kernel), List.mem_of_getElem? (i := 927) (by decide +kernel), List.mem_of_getElem? (i := 928) (by decide +kernel)⟩
theorem lw_p53 : lw_okq (⟨"SumChainsModel", "costOf", "(II)I"⟩, 31) := ⟨⟨by decide +kernel, by decide +kernel⟩, List.mem_of_getElem? (i := 669) (by decide +kernel), List.mem_of_getElem? (i := 931) (by decide +kernel), List.mem_of_getElem? (i := 932) (by decide +kernel)⟩
theorem lw_p54 : lw_okq (⟨"SumChainsModel", "readAll", "(I)I"⟩, 31) := ⟨⟨by decide +kernel, by decide +kernel⟩, List.mem_of_getElem? (i := 669) (by decide +kernel), List.mem_of_getElem? (i := 949) (by decide +kernel), List.mem_of_getElem? (i := 950) (by decide +kernel)⟩
theorem lw_p55 : lw_okq (⟨"SumChainsModel", "may", "(II)Z"⟩, 31) := ⟨⟨by decide +kernel, by decide +kernel⟩, List.mem_of_getElem? (i := 669) (by decide +kernel), List.mem_of_getElem? (i := 957) (by decide +kernel), List.mem_of_getElem? (i := 958) (by decide +kernel)⟩
theorem lw_p56 : lw_okq (⟨"SumChainsModel", "isRead", "(I)Z"⟩, 31) := ⟨⟨by decide +kernel, by decide +kernel⟩, List.mem_of_getElem? (i := 669) (by decide +kernel), List.mem_of_getElem? (i := 961) (by decide +kernel), List.mem_of_getElem? (i := 962) (by decide +kernel)⟩
theorem lw_p57 : lw_okq (⟨"SumChainsModel", "layUses", "()V"⟩, 31) := ⟨⟨by decide +kernel, by decide +kernel⟩, List.mem_of_getElem? (i := 669) (by decide +kernel), List.mem_of_getElem? (i := 977) (by decide +kernel), List.mem_of_getElem? (i := 978) (by decide +kernel)⟩
def lw_privs_4 : List (MethodName × Nat) := [(⟨"SumChainsModel", "factors", "(I)V"⟩, 31), (⟨"SumChainsModel", "treeRoad", "(I)V"⟩, 31), (⟨"SumChainsModel", "layTree", "(I)V"⟩, 31), (⟨"SumChainsModel", "signs", "(I)V"⟩, 31), (⟨"SumChainsModel", "costs", "(II)Z"⟩, 31), (⟨"SumChainsModel", "costOf", "(II)I"⟩, 31), (⟨"SumChainsModel", "readAll", "(I)I"⟩, 31), (⟨"SumChainsModel", "may", "(II)Z"⟩, 31), (⟨"SumChainsModel", "isRead", "(I)Z"⟩, 31), (⟨"SumChainsModel", "layUses", "()V"⟩, 31)]
theorem lw_r4 : ∀ q ∈ lw_privs_4, lw_okq q := List.forall_mem_cons.mpr ⟨lw_p48, List.forall_mem_cons.mpr ⟨lw_p49, List.forall_mem_cons.mpr ⟨lw_p50, List.forall_mem_cons.mpr ⟨lw_p51, List.forall_mem_cons.mpr ⟨lw_p52, List.forall_mem_cons.mpr ⟨lw_p53, List.forall_mem_cons.mpr ⟨lw_p54, List.forall_mem_cons.mpr ⟨lw_p55, List.forall_mem_cons.mpr ⟨lw_p56, List.forall_mem_cons.mpr ⟨lw_p57, fun _ h => absurd h List.not_mem_nil⟩⟩⟩⟩⟩⟩⟩⟩⟩⟩
def lw_privs : List (MethodName × Nat) := lw_privs_1 ++ (lw_privs_2 ++ (lw_privs_3 ++ (lw_privs_4)))
def lw_tbl : List Cond := k2_sels lw_privs ++ tables_1
theorem lw_privs_ok : ∀ q ∈ lw_privs, lw_okq q := by
  show ∀ q ∈ lw_privs_1 ++ (lw_privs_2 ++ (lw_privs_3 ++ (lw_privs_4))), lw_okq q
  exact List.forall_mem_append.mpr ⟨lw_r1, List.forall_mem_append.mpr ⟨lw_r2, List.forall_mem_append.mpr ⟨lw_r3, lw_r4⟩⟩⟩
def RX0 : String := "SumChains$Bargain"
def TX0 : u_T := fun k => match k with
  | 0 => ("SumChains$Bargain", "trial", "LSumChains$Trial;", true)
  | 1 => ("SumChains$Bargain", "ofDoubling", "I", false)
  | 2 => ("SumChains$Bargain", "ofSum", "I", false)
  | _ => ("SumChains$Bargain", "goal", "I", false)
def tyX0 : Nat → FieldType := fun k => match k with
  | 0 => .object "SumChains$Trial"
  | 1 => .int
  | 2 => .int
  | _ => .int
abbrev wsX00 : List Cond := u_ws RX0 TX0 4
theorem nmX0 : ∀ a, a < 4 → ∀ b, b < 4 → a ≠ b → (TX0 a).2.1 ≠ (TX0 b).2.1 := by decide +kernel
theorem tyX0_ok : ∀ k, k < 4 → parseFieldDescriptor (TX0 k).2.2.1 = some (tyX0 k) := by decide +kernel
abbrev cX0_init : ByteArray := prog_2_method_1_code
def yX0_init : MethodName := ⟨RX0, "<init>", "(LSumChains$Trial;)V"⟩
abbrev cX0_changePrice : ByteArray := prog_2_method_2_code
def yX0_changePrice : MethodName := ⟨RX0, "changePrice", "(ZI)I"⟩
abbrev cX0_leastPrice : ByteArray := prog_2_method_3_code
def yX0_leastPrice : MethodName := ⟨RX0, "leastPrice", "(I)I"⟩
abbrev cX0_climb : ByteArray := prog_2_method_4_code
def yX0_climb : MethodName := ⟨RX0, "climb", "(II)Z"⟩
abbrev cX0_priceOf : ByteArray := prog_2_method_5_code
def yX0_priceOf : MethodName := ⟨RX0, "priceOf", "(I)I"⟩
abbrev cX0_inReach : ByteArray := prog_2_method_6_code
def yX0_inReach : MethodName := ⟨RX0, "inReach", "(II)Z"⟩
def RX1 : String := "SumChains$Chain"
def TX1 : u_T := fun k => match k with
  | 0 => ("SumChains$Chain", "numbers", "[I", true)
  | 1 => ("SumChains$Chain", "lastUse", "[I", true)
  | 2 => ("SumChains$Chain", "useCount", "[I", true)
  | 3 => ("SumChains$Chain", "size", "I", false)
  | 4 => ("SumChains$Chain", "kind", "I", false)
  | 5 => ("SumChains$Chain", "doubled", "I", false)
  | 6 => ("SumChains$Chain", "onePlace", "I", false)
  | _ => ("SumChains$Chain", "otherPlace", "I", false)
def tyX1 : Nat → FieldType := fun k => match k with
  | 0 => .array .int
  | 1 => .array .int
  | 2 => .array .int
  | 3 => .int
  | 4 => .int
  | 5 => .int
  | 6 => .int
  | _ => .int
abbrev wsX10 : List Cond := u_ws RX1 TX1 8
theorem nmX1 : ∀ a, a < 8 → ∀ b, b < 8 → a ≠ b → (TX1 a).2.1 ≠ (TX1 b).2.1 := by decide +kernel
theorem tyX1_ok : ∀ k, k < 8 → parseFieldDescriptor (TX1 k).2.2.1 = some (tyX1 k) := by decide +kernel
abbrev cX1_init : ByteArray := prog_3_method_1_code
def yX1_init : MethodName := ⟨RX1, "<init>", "()V"⟩
abbrev cX1_clear : ByteArray := prog_3_method_2_code
def yX1_clear : MethodName := ⟨RX1, "clear", "(I)V"⟩
abbrev cX1_steps : ByteArray := prog_3_method_3_code
def yX1_steps : MethodName := ⟨RX1, "steps", "()I"⟩
abbrev cX1_doublings : ByteArray := prog_3_method_4_code
def yX1_doublings : MethodName := ⟨RX1, "doublings", "()I"⟩
abbrev cX1_numberAt : ByteArray := prog_3_method_5_code
def yX1_numberAt : MethodName := ⟨RX1, "numberAt", "(I)I"⟩
abbrev cX1_usesAt : ByteArray := prog_3_method_6_code
def yX1_usesAt : MethodName := ⟨RX1, "usesAt", "(I)I"⟩
abbrev cX1_latest : ByteArray := prog_3_method_7_code
def yX1_latest : MethodName := ⟨RX1, "latest", "()I"⟩
abbrev cX1_add : ByteArray := prog_3_method_8_code
def yX1_add : MethodName := ⟨RX1, "add", "(I)Z"⟩
abbrev cX1_append : ByteArray := prog_3_method_9_code
def yX1_append : MethodName := ⟨RX1, "append", "(I)Z"⟩
abbrev cX1_useBoth : ByteArray := prog_3_method_10_code
def yX1_useBoth : MethodName := ⟨RX1, "useBoth", "(I)Z"⟩
abbrev cX1_mayStandNext : ByteArray := prog_3_method_11_code
def yX1_mayStandNext : MethodName := ⟨RX1, "mayStandNext", "(I)Z"⟩
abbrev cX1_placeOf : ByteArray := prog_3_method_12_code
def yX1_placeOf : MethodName := ⟨RX1, "placeOf", "(I)I"⟩
abbrev cX1_findSum : ByteArray := prog_3_method_13_code
def yX1_findSum : MethodName := ⟨RX1, "findSum", "(I)V"⟩
abbrev cX1_letsAdd : ByteArray := prog_3_method_14_code
def yX1_letsAdd : MethodName := ⟨RX1, "letsAdd", "(II)Z"⟩
abbrev cX1_findDifference : ByteArray := prog_3_method_15_code
def yX1_findDifference : MethodName := ⟨RX1, "findDifference", "(I)V"⟩
abbrev cX1_mostAtOnce : ByteArray := prog_3_method_16_code
def yX1_mostAtOnce : MethodName := ⟨RX1, "mostAtOnce", "()I"⟩
abbrev cX1_wantedFrom : ByteArray := prog_3_method_17_code
def yX1_wantedFrom : MethodName := ⟨RX1, "wantedFrom", "(II)I"⟩
def RX2 : String := "SumChains$Gathering"
def TX2 : u_T := fun k => match k with
  | 0 => ("SumChains$Gathering", "trial", "LSumChains$Trial;", true)
  | 1 => ("SumChains$Gathering", "wanted", "[I", true)
  | _ => ("SumChains$Gathering", "size", "I", false)
def tyX2 : Nat → FieldType := fun k => match k with
  | 0 => .object "SumChains$Trial"
  | 1 => .array .int
  | _ => .int
abbrev wsX20 : List Cond := u_ws RX2 TX2 3
theorem nmX2 : ∀ a, a < 3 → ∀ b, b < 3 → a ≠ b → (TX2 a).2.1 ≠ (TX2 b).2.1 := by decide +kernel
theorem tyX2_ok : ∀ k, k < 3 → parseFieldDescriptor (TX2 k).2.2.1 = some (tyX2 k) := by decide +kernel
abbrev cX2_init : ByteArray := prog_4_method_1_code
def yX2_init : MethodName := ⟨RX2, "<init>", "(LSumChains$Trial;)V"⟩
abbrev cX2_size : ByteArray := prog_4_method_2_code
def yX2_size : MethodName := ⟨RX2, "size", "()I"⟩
abbrev cX2_clear : ByteArray := prog_4_method_3_code
def yX2_clear : MethodName := ⟨RX2, "clear", "()V"⟩
abbrev cX2_holds : ByteArray := prog_4_method_4_code
def yX2_holds : MethodName := ⟨RX2, "holds", "(I)Z"⟩
abbrev cX2_insert : ByteArray := prog_4_method_5_code
def yX2_insert : MethodName := ⟨RX2, "insert", "(I)V"⟩
abbrev cX2_fewestSteps : ByteArray := prog_4_method_6_code
def yX2_fewestSteps : MethodName := ⟨RX2, "fewestSteps", "()I"⟩
abbrev cX2_climb : ByteArray := prog_4_method_7_code
def yX2_climb : MethodName := ⟨RX2, "climb", "(II)Z"⟩
abbrev cX2_lowest : ByteArray := prog_4_method_8_code
def yX2_lowest : MethodName := ⟨RX2, "lowest", "(II)I"⟩
def RX3 : String := "SumChains$PowerTree"
def TX3 : u_T := fun k => match k with
  | 0 => ("SumChains$PowerTree", "above", "[I", true)
  | 1 => ("SumChains$PowerTree", "order", "[I", true)
  | 2 => ("SumChains$PowerTree", "way", "[I", true)
  | 3 => ("SumChains$PowerTree", "size", "I", false)
  | 4 => ("SumChains$PowerTree", "sizeWithThousand", "I", false)
  | _ => ("SumChains$PowerTree", "waySize", "I", false)
def tyX3 : Nat → FieldType := fun k => match k with
  | 0 => .array .int
  | 1 => .array .int
  | 2 => .array .int
  | 3 => .int
  | 4 => .int
  | _ => .int
abbrev wsX30 : List Cond := u_ws RX3 TX3 6
theorem nmX3 : ∀ a, a < 6 → ∀ b, b < 6 → a ≠ b → (TX3 a).2.1 ≠ (TX3 b).2.1 := by decide +kernel
theorem tyX3_ok : ∀ k, k < 6 → parseFieldDescriptor (TX3 k).2.2.1 = some (tyX3 k) := by decide +kernel
abbrev cX3_init : ByteArray := prog_5_method_1_code
def yX3_init : MethodName := ⟨RX3, "<init>", "()V"⟩
abbrev cX3_sizeWithThousand : ByteArray := prog_5_method_2_code
def yX3_sizeWithThousand : MethodName := ⟨RX3, "sizeWithThousand", "()I"⟩
abbrev cX3_waySize : ByteArray := prog_5_method_3_code
def yX3_waySize : MethodName := ⟨RX3, "waySize", "()I"⟩
abbrev cX3_wayAt : ByteArray := prog_5_method_4_code
def yX3_wayAt : MethodName := ⟨RX3, "wayAt", "(I)I"⟩
abbrev cX3_findWay : ByteArray := prog_5_method_5_code
def yX3_findWay : MethodName := ⟨RX3, "findWay", "(I)V"⟩
abbrev cX3_growBelow : ByteArray := prog_5_method_6_code
def yX3_growBelow : MethodName := ⟨RX3, "growBelow", "(II)V"⟩
def RX4 : String := "SumChains$Road"
def TX4 : u_T := fun k => match k with
  | 0 => ("SumChains$Road", "numbers", "[I", true)
  | 1 => ("SumChains$Road", "size", "I", false)
  | _ => ("SumChains$Road", "tree", "LSumChains$PowerTree;", false)
def tyX4 : Nat → FieldType := fun k => match k with
  | 0 => .array .int
  | 1 => .int
  | _ => .object "SumChains$PowerTree"
abbrev wsX40 : List Cond := u_ws RX4 TX4 3
theorem nmX4 : ∀ a, a < 3 → ∀ b, b < 3 → a ≠ b → (TX4 a).2.1 ≠ (TX4 b).2.1 := by decide +kernel
theorem tyX4_ok : ∀ k, k < 3 → parseFieldDescriptor (TX4 k).2.2.1 = some (tyX4 k) := by decide +kernel
abbrev cX4_init : ByteArray := prog_6_method_1_code
def yX4_init : MethodName := ⟨RX4, "<init>", "()V"⟩
abbrev cX4_build : ByteArray := prog_6_method_2_code
def yX4_build : MethodName := ⟨RX4, "build", "(III)V"⟩
abbrev cX4_steps : ByteArray := prog_6_method_3_code
def yX4_steps : MethodName := ⟨RX4, "steps", "()I"⟩
abbrev cX4_numberAt : ByteArray := prog_6_method_4_code
def yX4_numberAt : MethodName := ⟨RX4, "numberAt", "(I)I"⟩
abbrev cX4_treeSize : ByteArray := prog_6_method_5_code
def yX4_treeSize : MethodName := ⟨RX4, "treeSize", "()I"⟩
abbrev cX4_grownTree : ByteArray := prog_6_method_6_code
def yX4_grownTree : MethodName := ⟨RX4, "grownTree", "()LSumChains$PowerTree;"⟩
abbrev cX4_addHalves : ByteArray := prog_6_method_7_code
def yX4_addHalves : MethodName := ⟨RX4, "addHalves", "(I)V"⟩
abbrev cX4_addSigns : ByteArray := prog_6_method_8_code
def yX4_addSigns : MethodName := ⟨RX4, "addSigns", "(I)V"⟩
abbrev cX4_addDoubledAndFigure : ByteArray := prog_6_method_9_code
def yX4_addDoubledAndFigure : MethodName := ⟨RX4, "addDoubledAndFigure", "(II)I"⟩
abbrev cX4_addFigures : ByteArray := prog_6_method_10_code
def yX4_addFigures : MethodName := ⟨RX4, "addFigures", "(II)V"⟩
abbrev cX4_addFactors : ByteArray := prog_6_method_11_code
def yX4_addFactors : MethodName := ⟨RX4, "addFactors", "(III)V"⟩
abbrev cX4_leastPrime : ByteArray := prog_6_method_12_code
def yX4_leastPrime : MethodName := ⟨RX4, "leastPrime", "(I)I"⟩
abbrev cX4_addWay : ByteArray := prog_6_method_13_code
def yX4_addWay : MethodName := ⟨RX4, "addWay", "(I)V"⟩
abbrev cX4_holds : ByteArray := prog_6_method_14_code
def yX4_holds : MethodName := ⟨RX4, "holds", "(I)Z"⟩
abbrev cX4_add : ByteArray := prog_6_method_15_code
def yX4_add : MethodName := ⟨RX4, "add", "(I)V"⟩
def RX5 : String := "SumChains$Shortest"
def TX5 : u_T := fun k => match k with
  | 0 => ("SumChains$Shortest", "trial", "LSumChains$Trial;", true)
  | 1 => ("SumChains$Shortest", "steps", "[[I", true)
  | 2 => ("SumChains$Shortest", "rows", "[[I", true)
  | 3 => ("SumChains$Shortest", "found", "[I", true)
  | 4 => ("SumChains$Shortest", "foundSize", "I", false)
  | 5 => ("SumChains$Shortest", "foundKind", "I", false)
  | 6 => ("SumChains$Shortest", "foundGoal", "I", false)
  | 7 => ("SumChains$Shortest", "kind", "I", false)
  | 8 => ("SumChains$Shortest", "goal", "I", false)
  | _ => ("SumChains$Shortest", "all", "Z", false)
def tyX5 : Nat → FieldType := fun k => match k with
  | 0 => .object "SumChains$Trial"
  | 1 => .array (.array .int)
  | 2 => .array (.array .int)
  | 3 => .array .int
  | 4 => .int
  | 5 => .int
  | 6 => .int
  | 7 => .int
  | 8 => .int
  | _ => .boolean
abbrev wsX50 : List Cond := u_ws RX5 TX5 10
theorem nmX5 : ∀ a, a < 10 → ∀ b, b < 10 → a ≠ b → (TX5 a).2.1 ≠ (TX5 b).2.1 := by decide +kernel
theorem tyX5_ok : ∀ k, k < 10 → parseFieldDescriptor (TX5 k).2.2.1 = some (tyX5 k) := by decide +kernel
abbrev cX5_init : ByteArray := prog_7_method_1_code
def yX5_init : MethodName := ⟨RX5, "<init>", "(LSumChains$Trial;)V"⟩
abbrev cX5_stepsTo : ByteArray := prog_7_method_2_code
def yX5_stepsTo : MethodName := ⟨RX5, "stepsTo", "(II)I"⟩
abbrev cX5_rowsTo : ByteArray := prog_7_method_3_code
def yX5_rowsTo : MethodName := ⟨RX5, "rowsTo", "(II)I"⟩
abbrev cX5_numberOfFirst : ByteArray := prog_7_method_4_code
def yX5_numberOfFirst : MethodName := ⟨RX5, "numberOfFirst", "(III)I"⟩
abbrev cX5_search : ByteArray := prog_7_method_5_code
def yX5_search : MethodName := ⟨RX5, "search", "(IIIZ)I"⟩
abbrev cX5_climb : ByteArray := prog_7_method_6_code
def yX5_climb : MethodName := ⟨RX5, "climb", "(I)I"⟩
abbrev cX5_highest : ByteArray := prog_7_method_7_code
def yX5_highest : MethodName := ⟨RX5, "highest", "()I"⟩
abbrev cX5_lowest : ByteArray := prog_7_method_8_code
def yX5_lowest : MethodName := ⟨RX5, "lowest", "(I)I"⟩
abbrev cX5_keep : ByteArray := prog_7_method_9_code
def yX5_keep : MethodName := ⟨RX5, "keep", "(I)I"⟩
abbrev cX5_keepNumber : ByteArray := prog_7_method_10_code
def yX5_keepNumber : MethodName := ⟨RX5, "keepNumber", "(I)V"⟩
def RX6 : String := "SumChains$Text"
def TX6 : u_T := fun k => match k with
  | 0 => ("SumChains$Text", "bytes", "[B", true)
  | _ => ("SumChains$Text", "size", "I", false)
def tyX6 : Nat → FieldType := fun k => match k with
  | 0 => .array .byte
  | _ => .int
abbrev wsX60 : List Cond := u_ws RX6 TX6 2
theorem nmX6 : ∀ a, a < 2 → ∀ b, b < 2 → a ≠ b → (TX6 a).2.1 ≠ (TX6 b).2.1 := by decide +kernel
theorem tyX6_ok : ∀ k, k < 2 → parseFieldDescriptor (TX6 k).2.2.1 = some (tyX6 k) := by decide +kernel
abbrev cX6_init : ByteArray := prog_8_method_1_code
def yX6_init : MethodName := ⟨RX6, "<init>", "()V"⟩
abbrev cX6_size : ByteArray := prog_8_method_2_code
def yX6_size : MethodName := ⟨RX6, "size", "()I"⟩
abbrev cX6_clear : ByteArray := prog_8_method_3_code
def yX6_clear : MethodName := ⟨RX6, "clear", "()V"⟩
abbrev cX6_append : ByteArray := prog_8_method_4_code
def yX6_append : MethodName := ⟨RX6, "append", "(IJ)V"⟩
abbrev cX6_readInto : ByteArray := prog_8_method_5_code
def yX6_readInto : MethodName := ⟨RX6, "readInto", "(LSumChains$Chain;I)I"⟩
abbrev cX6_endOfFigures : ByteArray := prog_8_method_6_code
def yX6_endOfFigures : MethodName := ⟨RX6, "endOfFigures", "(I)I"⟩
abbrev cX6_valueOf : ByteArray := prog_8_method_7_code
def yX6_valueOf : MethodName := ⟨RX6, "valueOf", "(II)I"⟩
def RX7 : String := "SumChains$Trial"
def TX7 : u_T := fun k => match k with
  | 0 => ("SumChains$Trial", "numbers", "[I", true)
  | 1 => ("SumChains$Trial", "ways", "[I", true)
  | 2 => ("SumChains$Trial", "there", "[Z", true)
  | 3 => ("SumChains$Trial", "size", "I", false)
  | _ => ("SumChains$Trial", "kind", "I", false)
def tyX7 : Nat → FieldType := fun k => match k with
  | 0 => .array .int
  | 1 => .array .int
  | 2 => .array .boolean
  | 3 => .int
  | _ => .int
abbrev wsX70 : List Cond := u_ws RX7 TX7 5
theorem nmX7 : ∀ a, a < 5 → ∀ b, b < 5 → a ≠ b → (TX7 a).2.1 ≠ (TX7 b).2.1 := by decide +kernel
theorem tyX7_ok : ∀ k, k < 5 → parseFieldDescriptor (TX7 k).2.2.1 = some (tyX7 k) := by decide +kernel
abbrev cX7_init : ByteArray := prog_9_method_1_code
def yX7_init : MethodName := ⟨RX7, "<init>", "()V"⟩
abbrev cX7_begin : ByteArray := prog_9_method_2_code
def yX7_begin : MethodName := ⟨RX7, "begin", "(II)V"⟩
abbrev cX7_put : ByteArray := prog_9_method_3_code
def yX7_put : MethodName := ⟨RX7, "put", "(I)Z"⟩
abbrev cX7_takeBack : ByteArray := prog_9_method_4_code
def yX7_takeBack : MethodName := ⟨RX7, "takeBack", "()V"⟩
abbrev cX7_size : ByteArray := prog_9_method_5_code
def yX7_size : MethodName := ⟨RX7, "size", "()I"⟩
abbrev cX7_numberAt : ByteArray := prog_9_method_6_code
def yX7_numberAt : MethodName := ⟨RX7, "numberAt", "(I)I"⟩
abbrev cX7_latest : ByteArray := prog_9_method_7_code
def yX7_latest : MethodName := ⟨RX7, "latest", "()I"⟩
abbrev cX7_stands : ByteArray := prog_9_method_8_code
def yX7_stands : MethodName := ⟨RX7, "stands", "(I)Z"⟩
abbrev cX7_comes : ByteArray := prog_9_method_9_code
def yX7_comes : MethodName := ⟨RX7, "comes", "(I)Z"⟩
abbrev cX7_waysTo : ByteArray := prog_9_method_10_code
def yX7_waysTo : MethodName := ⟨RX7, "waysTo", "(I)I"⟩
abbrev cX7_leadsOn : ByteArray := prog_9_method_11_code
def yX7_leadsOn : MethodName := ⟨RX7, "leadsOn", "(II)Z"⟩
abbrev cX7_changePairs : ByteArray := prog_9_method_12_code
def yX7_changePairs : MethodName := ⟨RX7, "changePairs", "(II)V"⟩
def RX8 : String := "SumChains"
def TX8 : u_T := fun k => match k with
  | 0 => ("SumChains", "shortest", "LSumChains$Shortest;", true)
  | 1 => ("SumChains", "goals", "LSumChains$Gathering;", true)
  | 2 => ("SumChains", "pairs", "LSumChains$Gathering;", true)
  | 3 => ("SumChains", "bargain", "LSumChains$Bargain;", true)
  | 4 => ("SumChains", "roadRow", "LSumChains$Road;", true)
  | 5 => ("SumChains", "text", "LSumChains$Text;", true)
  | 6 => ("SumChains", "theChain", "LSumChains$Chain;", false)
  | _ => ("SumChains", "spareChain", "LSumChains$Chain;", false)
def tyX8 : Nat → FieldType := fun k => match k with
  | 0 => .object "SumChains$Shortest"
  | 1 => .object "SumChains$Gathering"
  | 2 => .object "SumChains$Gathering"
  | 3 => .object "SumChains$Bargain"
  | 4 => .object "SumChains$Road"
  | 5 => .object "SumChains$Text"
  | 6 => .object "SumChains$Chain"
  | _ => .object "SumChains$Chain"
abbrev wsX80 : List Cond := u_ws RX8 TX8 8
theorem nmX8 : ∀ a, a < 8 → ∀ b, b < 8 → a ≠ b → (TX8 a).2.1 ≠ (TX8 b).2.1 := by decide +kernel
theorem tyX8_ok : ∀ k, k < 8 → parseFieldDescriptor (TX8 k).2.2.1 = some (tyX8 k) := by decide +kernel
abbrev cX8_init : ByteArray := prog_1_method_1_code
def yX8_init : MethodName := ⟨RX8, "<init>", "()V"⟩
abbrev cX8_fewest : ByteArray := prog_1_method_2_code
def yX8_fewest : MethodName := ⟨RX8, "fewest", "(II)I"⟩
abbrev cX8_asFew : ByteArray := prog_1_method_3_code
def yX8_asFew : MethodName := ⟨RX8, "asFew", "(II)I"⟩
abbrev cX8_first : ByteArray := prog_1_method_4_code
def yX8_first : MethodName := ⟨RX8, "first", "(III)I"⟩
abbrev cX8_hardest : ByteArray := prog_1_method_5_code
def yX8_hardest : MethodName := ⟨RX8, "hardest", "(II)I"⟩
abbrev cX8_goal : ByteArray := prog_1_method_6_code
def yX8_goal : MethodName := ⟨RX8, "goal", "(I)I"⟩
abbrev cX8_noGoals : ByteArray := prog_1_method_7_code
def yX8_noGoals : MethodName := ⟨RX8, "noGoals", "()I"⟩
abbrev cX8_together : ByteArray := prog_1_method_8_code
def yX8_together : MethodName := ⟨RX8, "together", "()I"⟩
abbrev cX8_led : ByteArray := prog_1_method_9_code
def yX8_led : MethodName := ⟨RX8, "led", "(II)I"⟩
abbrev cX8_isKind : ByteArray := prog_1_method_10_code
def yX8_isKind : MethodName := ⟨RX8, "isKind", "(I)Z"⟩
abbrev cX8_fewestMost : ByteArray := prog_1_method_11_code
def yX8_fewestMost : MethodName := ⟨RX8, "fewestMost", "(I)I"⟩
abbrev cX8_asFewMost : ByteArray := prog_1_method_12_code
def yX8_asFewMost : MethodName := ⟨RX8, "asFewMost", "(I)I"⟩
abbrev cX8_leastToReach : ByteArray := prog_1_method_13_code
def yX8_leastToReach : MethodName := ⟨RX8, "leastToReach", "(II)I"⟩
abbrev cX8_road : ByteArray := prog_1_method_14_code
def yX8_road : MethodName := ⟨RX8, "road", "(III)I"⟩
abbrev cX8_step : ByteArray := prog_1_method_15_code
def yX8_step : MethodName := ⟨RX8, "step", "(IIII)I"⟩
abbrev cX8_good : ByteArray := prog_1_method_16_code
def yX8_good : MethodName := ⟨RX8, "good", "(III)I"⟩
abbrev cX8_isRoad : ByteArray := prog_1_method_17_code
def yX8_isRoad : MethodName := ⟨RX8, "isRoad", "(III)Z"⟩
abbrev cX8_price : ByteArray := prog_1_method_18_code
def yX8_price : MethodName := ⟨RX8, "price", "(II)I"⟩
abbrev cX8_cheapest : ByteArray := prog_1_method_19_code
def yX8_cheapest : MethodName := ⟨RX8, "cheapest", "(I)I"⟩
abbrev cX8_write : ByteArray := prog_1_method_20_code
def yX8_write : MethodName := ⟨RX8, "write", "(IJ)I"⟩
abbrev cX8_wipe : ByteArray := prog_1_method_21_code
def yX8_wipe : MethodName := ⟨RX8, "wipe", "()I"⟩
abbrev cX8_fault : ByteArray := prog_1_method_22_code
def yX8_fault : MethodName := ⟨RX8, "fault", "(I)I"⟩
abbrev cX8_take : ByteArray := prog_1_method_23_code
def yX8_take : MethodName := ⟨RX8, "take", "(I)I"⟩
abbrev cX8_chain : ByteArray := prog_1_method_24_code
def yX8_chain : MethodName := ⟨RX8, "chain", "(I)I"⟩
abbrev cX8_uses : ByteArray := prog_1_method_25_code
def yX8_uses : MethodName := ⟨RX8, "uses", "(I)I"⟩
abbrev cX8_drawers : ByteArray := prog_1_method_26_code
def yX8_drawers : MethodName := ⟨RX8, "drawers", "()I"⟩
abbrev cX8_power : ByteArray := prog_1_method_27_code
def yX8_power : MethodName := ⟨RX8, "power", "(II)I"⟩
abbrev cX8_count : ByteArray := prog_1_method_28_code
def yX8_count : MethodName := ⟨RX8, "count", "(I)I"⟩
def RX9 : String := "SumChainsModel"
def TX9 : u_T := fun k => match k with
  | 0 => ("SumChainsModel", "goalMany", "I", false)
  | 1 => ("SumChainsModel", "goals", "[I", true)
  | 2 => ("SumChainsModel", "doubling", "I", false)
  | 3 => ("SumChainsModel", "summing", "I", false)
  | 4 => ("SumChainsModel", "length", "I", false)
  | 5 => ("SumChainsModel", "text", "[I", true)
  | 6 => ("SumChainsModel", "takenMany", "I", false)
  | 7 => ("SumChainsModel", "takenKind", "I", false)
  | 8 => ("SumChainsModel", "taken", "[I", true)
  | 9 => ("SumChainsModel", "told", "[I", true)
  | 10 => ("SumChainsModel", "comes", "[I", true)
  | 11 => ("SumChainsModel", "comeMany", "[I", true)
  | 12 => ("SumChainsModel", "comeAt", "[I", true)
  | 13 => ("SumChainsModel", "isSeen", "[Z", true)
  | 14 => ("SumChainsModel", "roadMany", "I", false)
  | 15 => ("SumChainsModel", "roadRow", "[I", true)
  | 16 => ("SumChainsModel", "dueNumber", "[I", true)
  | 17 => ("SumChainsModel", "dueTimes", "[I", true)
  | 18 => ("SumChainsModel", "above", "[I", true)
  | 19 => ("SumChainsModel", "treeMany", "I", false)
  | 20 => ("SumChainsModel", "tree", "[I", true)
  | 21 => ("SumChainsModel", "way", "[I", true)
  | 22 => ("SumChainsModel", "signs", "[I", true)
  | 23 => ("SumChainsModel", "spent", "[I", true)
  | 24 => ("SumChainsModel", "readMany", "I", false)
  | 25 => ("SumChainsModel", "read", "[I", true)
  | 26 => ("SumChainsModel", "doneBy", "I", false)
  | 27 => ("SumChainsModel", "doneOther", "I", false)
  | 28 => ("SumChainsModel", "useMany", "[I", true)
  | 29 => ("SumChainsModel", "lastUse", "[I", true)
  | _ => ("SumChainsModel", "doublings", "I", false)
def tyX9 : Nat → FieldType := fun k => match k with
  | 0 => .int
  | 1 => .array .int
  | 2 => .int
  | 3 => .int
  | 4 => .int
  | 5 => .array .int
  | 6 => .int
  | 7 => .int
  | 8 => .array .int
  | 9 => .array .int
  | 10 => .array .int
  | 11 => .array .int
  | 12 => .array .int
  | 13 => .array .boolean
  | 14 => .int
  | 15 => .array .int
  | 16 => .array .int
  | 17 => .array .int
  | 18 => .array .int
  | 19 => .int
  | 20 => .array .int
  | 21 => .array .int
  | 22 => .array .int
  | 23 => .array .int
  | 24 => .int
  | 25 => .array .int
  | 26 => .int
  | 27 => .int
  | 28 => .array .int
  | 29 => .array .int
  | _ => .int
abbrev wsX90 : List Cond := u_ws RX9 TX9 31
theorem nmX9 : ∀ a, a < 31 → ∀ b, b < 31 → a ≠ b → (TX9 a).2.1 ≠ (TX9 b).2.1 := by decide +kernel
theorem tyX9_ok : ∀ k, k < 31 → parseFieldDescriptor (TX9 k).2.2.1 = some (tyX9 k) := by decide +kernel
abbrev cX9_init : ByteArray := prog_11_method_1_code
def yX9_init : MethodName := ⟨RX9, "<init>", "()V"⟩
abbrev cX9_in : ByteArray := prog_11_method_2_code
def yX9_in : MethodName := ⟨RX9, "in", "(JJJ)Z"⟩
abbrev cX9_isTold : ByteArray := prog_11_method_3_code
def yX9_isTold : MethodName := ⟨RX9, "isTold", "(II)Z"⟩
abbrev cX9_note : ByteArray := prog_11_method_4_code
def yX9_note : MethodName := ⟨RX9, "note", "(III)V"⟩
abbrev cX9_layComes : ByteArray := prog_11_method_5_code
def yX9_layComes : MethodName := ⟨RX9, "layComes", "(III)V"⟩
abbrev cX9_greatest : ByteArray := prog_11_method_6_code
def yX9_greatest : MethodName := ⟨RX9, "greatest", "(I)I"⟩
abbrev cX9_search : ByteArray := prog_11_method_7_code
def yX9_search : MethodName := ⟨RX9, "search", "(IIIZ)I"⟩
abbrev cX9_fewestOf : ByteArray := prog_11_method_8_code
def yX9_fewestOf : MethodName := ⟨RX9, "fewestOf", "(II)I"⟩
abbrev cX9_isAsked : ByteArray := prog_11_method_9_code
def yX9_isAsked : MethodName := ⟨RX9, "isAsked", "(II)Z"⟩
abbrev cX9_fewest : ByteArray := prog_11_method_10_code
def yX9_fewest : MethodName := ⟨RX9, "fewest", "(II)I"⟩
abbrev cX9_asFew : ByteArray := prog_11_method_11_code
def yX9_asFew : MethodName := ⟨RX9, "asFew", "(II)I"⟩
abbrev cX9_first : ByteArray := prog_11_method_12_code
def yX9_first : MethodName := ⟨RX9, "first", "(III)I"⟩
abbrev cX9_hardest : ByteArray := prog_11_method_13_code
def yX9_hardest : MethodName := ⟨RX9, "hardest", "(II)I"⟩
abbrev cX9_goal : ByteArray := prog_11_method_14_code
def yX9_goal : MethodName := ⟨RX9, "goal", "(I)I"⟩
abbrev cX9_noGoals : ByteArray := prog_11_method_15_code
def yX9_noGoals : MethodName := ⟨RX9, "noGoals", "()I"⟩
abbrev cX9_nextGoal : ByteArray := prog_11_method_16_code
def yX9_nextGoal : MethodName := ⟨RX9, "nextGoal", "(I)I"⟩
abbrev cX9_reaches : ByteArray := prog_11_method_17_code
def yX9_reaches : MethodName := ⟨RX9, "reaches", "(I)Z"⟩
abbrev cX9_together : ByteArray := prog_11_method_18_code
def yX9_together : MethodName := ⟨RX9, "together", "()I"⟩
abbrev cX9_rankOf : ByteArray := prog_11_method_19_code
def yX9_rankOf : MethodName := ⟨RX9, "rankOf", "(I)I"⟩
abbrev cX9_layPairs : ByteArray := prog_11_method_20_code
def yX9_layPairs : MethodName := ⟨RX9, "layPairs", "(III)V"⟩
abbrev cX9_leads : ByteArray := prog_11_method_21_code
def yX9_leads : MethodName := ⟨RX9, "leads", "(III)Z"⟩
abbrev cX9_led : ByteArray := prog_11_method_22_code
def yX9_led : MethodName := ⟨RX9, "led", "(II)I"⟩
abbrev cX9_isThere : ByteArray := prog_11_method_23_code
def yX9_isThere : MethodName := ⟨RX9, "isThere", "(I)Z"⟩
abbrev cX9_go : ByteArray := prog_11_method_24_code
def yX9_go : MethodName := ⟨RX9, "go", "(I)V"⟩
abbrev cX9_halves : ByteArray := prog_11_method_25_code
def yX9_halves : MethodName := ⟨RX9, "halves", "(I)V"⟩
abbrev cX9_figures : ByteArray := prog_11_method_26_code
def yX9_figures : MethodName := ⟨RX9, "figures", "(II)V"⟩
abbrev cX9_leastPrime : ByteArray := prog_11_method_27_code
def yX9_leastPrime : MethodName := ⟨RX9, "leastPrime", "(I)I"⟩
abbrev cX9_factors : ByteArray := prog_11_method_28_code
def yX9_factors : MethodName := ⟨RX9, "factors", "(I)V"⟩
abbrev cX9_layTree : ByteArray := prog_11_method_29_code
def yX9_layTree : MethodName := ⟨RX9, "layTree", "(I)V"⟩
abbrev cX9_treeRoad : ByteArray := prog_11_method_30_code
def yX9_treeRoad : MethodName := ⟨RX9, "treeRoad", "(I)V"⟩
abbrev cX9_signs : ByteArray := prog_11_method_31_code
def yX9_signs : MethodName := ⟨RX9, "signs", "(I)V"⟩
abbrev cX9_isRoad : ByteArray := prog_11_method_32_code
def yX9_isRoad : MethodName := ⟨RX9, "isRoad", "(III)Z"⟩
abbrev cX9_layRoad : ByteArray := prog_11_method_33_code
def yX9_layRoad : MethodName := ⟨RX9, "layRoad", "(III)V"⟩
abbrev cX9_road : ByteArray := prog_11_method_34_code
def yX9_road : MethodName := ⟨RX9, "road", "(III)I"⟩
abbrev cX9_step : ByteArray := prog_11_method_35_code
def yX9_step : MethodName := ⟨RX9, "step", "(IIII)I"⟩
abbrev cX9_good : ByteArray := prog_11_method_36_code
def yX9_good : MethodName := ⟨RX9, "good", "(III)I"⟩
abbrev cX9_price : ByteArray := prog_11_method_37_code
def yX9_price : MethodName := ⟨RX9, "price", "(II)I"⟩
abbrev cX9_costOf : ByteArray := prog_11_method_38_code
def yX9_costOf : MethodName := ⟨RX9, "costOf", "(II)I"⟩
abbrev cX9_costs : ByteArray := prog_11_method_39_code
def yX9_costs : MethodName := ⟨RX9, "costs", "(II)Z"⟩
abbrev cX9_cheapest : ByteArray := prog_11_method_40_code
def yX9_cheapest : MethodName := ⟨RX9, "cheapest", "(I)I"⟩
abbrev cX9_write : ByteArray := prog_11_method_41_code
def yX9_write : MethodName := ⟨RX9, "write", "(IJ)I"⟩
abbrev cX9_wipe : ByteArray := prog_11_method_42_code
def yX9_wipe : MethodName := ⟨RX9, "wipe", "()I"⟩
abbrev cX9_isRead : ByteArray := prog_11_method_43_code
def yX9_isRead : MethodName := ⟨RX9, "isRead", "(I)Z"⟩
abbrev cX9_may : ByteArray := prog_11_method_44_code
def yX9_may : MethodName := ⟨RX9, "may", "(II)Z"⟩
abbrev cX9_readAll : ByteArray := prog_11_method_45_code
def yX9_readAll : MethodName := ⟨RX9, "readAll", "(I)I"⟩
abbrev cX9_fault : ByteArray := prog_11_method_46_code
def yX9_fault : MethodName := ⟨RX9, "fault", "(I)I"⟩
abbrev cX9_take : ByteArray := prog_11_method_47_code
def yX9_take : MethodName := ⟨RX9, "take", "(I)I"⟩
abbrev cX9_chain : ByteArray := prog_11_method_48_code
def yX9_chain : MethodName := ⟨RX9, "chain", "(I)I"⟩
abbrev cX9_layUses : ByteArray := prog_11_method_49_code
def yX9_layUses : MethodName := ⟨RX9, "layUses", "()V"⟩
abbrev cX9_uses : ByteArray := prog_11_method_50_code
def yX9_uses : MethodName := ⟨RX9, "uses", "(I)I"⟩
abbrev cX9_drawers : ByteArray := prog_11_method_51_code
def yX9_drawers : MethodName := ⟨RX9, "drawers", "()I"⟩
abbrev cX9_power : ByteArray := prog_11_method_52_code
def yX9_power : MethodName := ⟨RX9, "power", "(II)I"⟩
abbrev cX9_count : ByteArray := prog_11_method_53_code
def yX9_count : MethodName := ⟨RX9, "count", "(I)I"⟩
def RJ9 : String := "java/lang/Math"
def TJ9 : u_T := fun k => match k with
  | _ => ("", "", "", false)
def tyJ9 : Nat → FieldType := fun k => match k with
  | _ => .int
abbrev wsJ90 : List Cond := u_ws RJ9 TJ9 0
theorem nmJ9 : ∀ a, a < 0 → ∀ b, b < 0 → a ≠ b → (TJ9 a).2.1 ≠ (TJ9 b).2.1 := by decide +kernel
theorem tyJ9_ok : ∀ k, k < 0 → parseFieldDescriptor (TJ9 k).2.2.1 = some (tyJ9 k) := by decide +kernel
abbrev cJ9_abs_0f7a4 : ByteArray := prog_12_method_59_code
def yJ9_abs_0f7a4 : MethodName := ⟨RJ9, "abs", "(I)I"⟩
abbrev cJ9_max_7cf53 : ByteArray := prog_12_method_65_code
def yJ9_max_7cf53 : MethodName := ⟨RJ9, "max", "(II)I"⟩
abbrev cJ9_min_7cf53 : ByteArray := prog_12_method_69_code
def yJ9_min_7cf53 : MethodName := ⟨RJ9, "min", "(II)I"⟩
def RL : String := "SumChainsLaw"
abbrev cL_law : ByteArray := code
def yL_law : MethodName := ⟨RL, "law", "([I)Z"⟩
abbrev vwCl : List vw_C := [(RX0, TX0, 4), (RX1, TX1, 8), (RX2, TX2, 3), (RX3, TX3, 6), (RX4, TX4, 3), (RX5, TX5, 10), (RX6, TX6, 2), (RX7, TX7, 5), (RX8, TX8, 8), (RX9, TX9, 31)]

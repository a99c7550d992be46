section
-- ===== PART A: goes FIRST, ahead of the names: the tables' words, and 'selects' of the private methods out of them =====
/-- a private method of a class that the tables say can be made, by its rows of tables_1 -/
def lw_okq (q : MethodName × Nat) : Prop := (q.1.cls ≠ "java/lang/invoke/MethodHandle" ∧ q.1.cls ≠ "java/lang/invoke/VarHandle") ∧ Cond.instantiable q.1.cls q.2 ∈ tables_1 ∧ Cond.privateMethod q.1 ∈ tables_1 ∧ Cond.instanceMethod q.1 ∈ tables_1
theorem lw_p0 : lw_okq (⟨"MarkovChainDistances", "greatestDepth", "()I"⟩, 11) := ⟨⟨by decide +kernel, by decide +kernel⟩, List.mem_of_getElem? (i := 15) (by decide +kernel), List.mem_of_getElem? (i := 382) (by decide +kernel), List.mem_of_getElem? (i := 383) (by decide +kernel)⟩
theorem lw_p1 : lw_okq (⟨"MarkovChainDistances", "hasDistance", "(III)Z"⟩, 11) := ⟨⟨by decide +kernel, by decide +kernel⟩, List.mem_of_getElem? (i := 15) (by decide +kernel), List.mem_of_getElem? (i := 391) (by decide +kernel), List.mem_of_getElem? (i := 392) (by decide +kernel)⟩
theorem lw_p2 : lw_okq (⟨"MarkovChainDistances$Distances", "fillLevel", "(I)V"⟩, 5) := ⟨⟨by decide +kernel, by decide +kernel⟩, List.mem_of_getElem? (i := 96) (by decide +kernel), List.mem_of_getElem? (i := 402) (by decide +kernel), List.mem_of_getElem? (i := 403) (by decide +kernel)⟩
theorem lw_p3 : lw_okq (⟨"MarkovChainDistances$Transport", "startOnDiagonal", "(LMarkovChainDistances$Chain;II)V"⟩, 9) := ⟨⟨by decide +kernel, by decide +kernel⟩, List.mem_of_getElem? (i := 104) (by decide +kernel), List.mem_of_getElem? (i := 415) (by decide +kernel), List.mem_of_getElem? (i := 416) (by decide +kernel)⟩
theorem lw_p4 : lw_okq (⟨"MarkovChainDistances$Transport", "sendFrom", "(I)V"⟩, 9) := ⟨⟨by decide +kernel, by decide +kernel⟩, List.mem_of_getElem? (i := 104) (by decide +kernel), List.mem_of_getElem? (i := 420) (by decide +kernel), List.mem_of_getElem? (i := 421) (by decide +kernel)⟩
theorem lw_p5 : lw_okq (⟨"MarkovChainDistances$Transport", "openColumn", "()I"⟩, 9) := ⟨⟨by decide +kernel, by decide +kernel⟩, List.mem_of_getElem? (i := 104) (by decide +kernel), List.mem_of_getElem? (i := 424) (by decide +kernel), List.mem_of_getElem? (i := 425) (by decide +kernel)⟩
theorem lw_p6 : lw_okq (⟨"MarkovChainDistances$Transport", "findPaths", "(II)V"⟩, 9) := ⟨⟨by decide +kernel, by decide +kernel⟩, List.mem_of_getElem? (i := 104) (by decide +kernel), List.mem_of_getElem? (i := 428) (by decide +kernel), List.mem_of_getElem? (i := 429) (by decide +kernel)⟩
theorem lw_p7 : lw_okq (⟨"MarkovChainDistances$Transport", "approachColumns", "(I)Z"⟩, 9) := ⟨⟨by decide +kernel, by decide +kernel⟩, List.mem_of_getElem? (i := 104) (by decide +kernel), List.mem_of_getElem? (i := 433) (by decide +kernel), List.mem_of_getElem? (i := 434) (by decide +kernel)⟩
theorem lw_p8 : lw_okq (⟨"MarkovChainDistances$Transport", "approachRows", "(I)Z"⟩, 9) := ⟨⟨by decide +kernel, by decide +kernel⟩, List.mem_of_getElem? (i := 104) (by decide +kernel), List.mem_of_getElem? (i := 437) (by decide +kernel), List.mem_of_getElem? (i := 438) (by decide +kernel)⟩
theorem lw_p9 : lw_okq (⟨"MarkovChainDistances$Transport", "slackOfPath", "(II)I"⟩, 9) := ⟨⟨by decide +kernel, by decide +kernel⟩, List.mem_of_getElem? (i := 104) (by decide +kernel), List.mem_of_getElem? (i := 441) (by decide +kernel), List.mem_of_getElem? (i := 442) (by decide +kernel)⟩
theorem lw_p10 : lw_okq (⟨"MarkovChainDistances$Transport", "shiftAlongPath", "(II)V"⟩, 9) := ⟨⟨by decide +kernel, by decide +kernel⟩, List.mem_of_getElem? (i := 104) (by decide +kernel), List.mem_of_getElem? (i := 445) (by decide +kernel), List.mem_of_getElem? (i := 446) (by decide +kernel)⟩
theorem lw_p11 : lw_okq (⟨"MarkovChainDistances", "isPair", "(I)Z"⟩, 11) := ⟨⟨by decide +kernel, by decide +kernel⟩, List.mem_of_getElem? (i := 15) (by decide +kernel), List.mem_of_getElem? (i := 464) (by decide +kernel), List.mem_of_getElem? (i := 465) (by decide +kernel)⟩
theorem lw_p12 : lw_okq (⟨"MarkovChainDistances$Transport", "reduceEntry", "(II)V"⟩, 9) := ⟨⟨by decide +kernel, by decide +kernel⟩, List.mem_of_getElem? (i := 104) (by decide +kernel), List.mem_of_getElem? (i := 488) (by decide +kernel), List.mem_of_getElem? (i := 489) (by decide +kernel)⟩
theorem lw_p13 : lw_okq (⟨"MarkovChainDistances", "totalVariation", "(II)I"⟩, 11) := ⟨⟨by decide +kernel, by decide +kernel⟩, List.mem_of_getElem? (i := 15) (by decide +kernel), List.mem_of_getElem? (i := 496) (by decide +kernel), List.mem_of_getElem? (i := 497) (by decide +kernel)⟩
theorem lw_p14 : lw_okq (⟨"MarkovChainDistances", "weightDifference", "(III)I"⟩, 11) := ⟨⟨by decide +kernel, by decide +kernel⟩, List.mem_of_getElem? (i := 15) (by decide +kernel), List.mem_of_getElem? (i := 500) (by decide +kernel), List.mem_of_getElem? (i := 501) (by decide +kernel)⟩
theorem lw_p15 : lw_okq (⟨"MarkovChainDistances", "largestDifference", "(II)I"⟩, 11) := ⟨⟨by decide +kernel, by decide +kernel⟩, List.mem_of_getElem? (i := 15) (by decide +kernel), List.mem_of_getElem? (i := 507) (by decide +kernel), List.mem_of_getElem? (i := 508) (by decide +kernel)⟩
def lw_privs_1 : List (MethodName × Nat) := [(⟨"MarkovChainDistances", "greatestDepth", "()I"⟩, 11), (⟨"MarkovChainDistances", "hasDistance", "(III)Z"⟩, 11), (⟨"MarkovChainDistances$Distances", "fillLevel", "(I)V"⟩, 5), (⟨"MarkovChainDistances$Transport", "startOnDiagonal", "(LMarkovChainDistances$Chain;II)V"⟩, 9), (⟨"MarkovChainDistances$Transport", "sendFrom", "(I)V"⟩, 9), (⟨"MarkovChainDistances$Transport", "openColumn", "()I"⟩, 9), (⟨"MarkovChainDistances$Transport", "findPaths", "(II)V"⟩, 9), (⟨"MarkovChainDistances$Transport", "approachColumns", "(I)Z"⟩, 9), (⟨"MarkovChainDistances$Transport", "approachRows", "(I)Z"⟩, 9), (⟨"MarkovChainDistances$Transport", "slackOfPath", "(II)I"⟩, 9), (⟨"MarkovChainDistances$Transport", "shiftAlongPath", "(II)V"⟩, 9), (⟨"MarkovChainDistances", "isPair", "(I)Z"⟩, 11), (⟨"MarkovChainDistances$Transport", "reduceEntry", "(II)V"⟩, 9), (⟨"MarkovChainDistances", "totalVariation", "(II)I"⟩, 11), (⟨"MarkovChainDistances", "weightDifference", "(III)I"⟩, 11), (⟨"MarkovChainDistances", "largestDifference", "(II)I"⟩, 11)]
theorem lw_r1 : ∀ q ∈ lw_privs_1, lw_okq q := List.forall_mem_cons.mpr ⟨lw_p0, List.forall_mem_cons.mpr ⟨lw_p1, List.forall_mem_cons.mpr ⟨lw_p2, List.forall_mem_cons.mpr ⟨lw_p3, List.forall_mem_cons.mpr ⟨lw_p4, List.forall_mem_cons.mpr ⟨lw_p5, List.forall_mem_cons.mpr ⟨lw_p6, List.forall_mem_cons.mpr ⟨lw_p7, List.forall_mem_cons.mpr ⟨lw_p8, List.forall_mem_cons.mpr ⟨lw_p9, List.forall_mem_cons.mpr ⟨lw_p10, List.forall_mem_cons.mpr ⟨lw_p11, List.forall_mem_cons.mpr ⟨lw_p12, List.forall_mem_cons.mpr ⟨lw_p13, List.forall_mem_cons.mpr ⟨lw_p14, List.forall_mem_cons.mpr ⟨lw_p15, fun _ h => absurd h List.not_mem_nil⟩⟩⟩⟩⟩⟩⟩⟩⟩⟩⟩⟩⟩⟩⟩⟩
theorem lw_p16 : lw_okq (⟨"MarkovChainDistances", "cumulativeDistance", "(II)I"⟩, 11) := ⟨⟨by decide +kernel, by decide +kernel⟩, List.mem_of_getElem? (i := 15) (by decide +kernel), List.mem_of_getElem? (i := 514) (by decide +kernel), List.mem_of_getElem? (i := 515) (by decide +kernel)⟩
theorem lw_p17 : lw_okq (⟨"MarkovChainDistances", "overlap", "(II)I"⟩, 11) := ⟨⟨by decide +kernel, by decide +kernel⟩, List.mem_of_getElem? (i := 15) (by decide +kernel), List.mem_of_getElem? (i := 518) (by decide +kernel), List.mem_of_getElem? (i := 519) (by decide +kernel)⟩
theorem lw_p18 : lw_okq (⟨"MarkovChainDistances$Partition", "refineOnce", "(LMarkovChainDistances$Chain;)V"⟩, 3) := ⟨⟨by decide +kernel, by decide +kernel⟩, List.mem_of_getElem? (i := 158) (by decide +kernel), List.mem_of_getElem? (i := 531) (by decide +kernel), List.mem_of_getElem? (i := 532) (by decide +kernel)⟩
theorem lw_p19 : lw_okq (⟨"MarkovChainDistances$Partition", "agree", "(LMarkovChainDistances$Chain;II)Z"⟩, 3) := ⟨⟨by decide +kernel, by decide +kernel⟩, List.mem_of_getElem? (i := 158) (by decide +kernel), List.mem_of_getElem? (i := 535) (by decide +kernel), List.mem_of_getElem? (i := 536) (by decide +kernel)⟩
theorem lw_p20 : lw_okq (⟨"MarkovChainDistances$Partition", "weightToClass", "(LMarkovChainDistances$Chain;II)I"⟩, 3) := ⟨⟨by decide +kernel, by decide +kernel⟩, List.mem_of_getElem? (i := 158) (by decide +kernel), List.mem_of_getElem? (i := 539) (by decide +kernel), List.mem_of_getElem? (i := 540) (by decide +kernel)⟩
theorem lw_p21 : lw_okq (⟨"MarkovChainDistances$PathCounter", "markTargets", "(LMarkovChainDistances$Chain;I)V"⟩, 2) := ⟨⟨by decide +kernel, by decide +kernel⟩, List.mem_of_getElem? (i := 176) (by decide +kernel), List.mem_of_getElem? (i := 566) (by decide +kernel), List.mem_of_getElem? (i := 567) (by decide +kernel)⟩
theorem lw_p22 : lw_okq (⟨"MarkovChainDistances$PathCounter", "stepBack", "(LMarkovChainDistances$Chain;)V"⟩, 2) := ⟨⟨by decide +kernel, by decide +kernel⟩, List.mem_of_getElem? (i := 176) (by decide +kernel), List.mem_of_getElem? (i := 573) (by decide +kernel), List.mem_of_getElem? (i := 574) (by decide +kernel)⟩
theorem lw_p23 : lw_okq (⟨"MarkovChainDistances$ChainReader", "clear", "()V"⟩, 8) := ⟨⟨by decide +kernel, by decide +kernel⟩, List.mem_of_getElem? (i := 189) (by decide +kernel), List.mem_of_getElem? (i := 646) (by decide +kernel), List.mem_of_getElem? (i := 647) (by decide +kernel)⟩
theorem lw_p24 : lw_okq (⟨"MarkovChainDistances$ChainReader", "takeNumber", "(I)I"⟩, 8) := ⟨⟨by decide +kernel, by decide +kernel⟩, List.mem_of_getElem? (i := 189) (by decide +kernel), List.mem_of_getElem? (i := 650) (by decide +kernel), List.mem_of_getElem? (i := 651) (by decide +kernel)⟩
theorem lw_p25 : lw_okq (⟨"MarkovChainDistances$ChainReader", "take", "(C)V"⟩, 8) := ⟨⟨by decide +kernel, by decide +kernel⟩, List.mem_of_getElem? (i := 189) (by decide +kernel), List.mem_of_getElem? (i := 655) (by decide +kernel), List.mem_of_getElem? (i := 656) (by decide +kernel)⟩
theorem lw_p26 : lw_okq (⟨"MarkovChainDistances$ChainReader", "takeIfPresent", "(C)Z"⟩, 8) := ⟨⟨by decide +kernel, by decide +kernel⟩, List.mem_of_getElem? (i := 189) (by decide +kernel), List.mem_of_getElem? (i := 659) (by decide +kernel), List.mem_of_getElem? (i := 660) (by decide +kernel)⟩
theorem lw_p27 : lw_okq (⟨"MarkovChainDistances$ChainReader", "readStates", "()V"⟩, 8) := ⟨⟨by decide +kernel, by decide +kernel⟩, List.mem_of_getElem? (i := 189) (by decide +kernel), List.mem_of_getElem? (i := 667) (by decide +kernel), List.mem_of_getElem? (i := 668) (by decide +kernel)⟩
theorem lw_p28 : lw_okq (⟨"MarkovChainDistances$ChainReader", "readState", "(I)V"⟩, 8) := ⟨⟨by decide +kernel, by decide +kernel⟩, List.mem_of_getElem? (i := 189) (by decide +kernel), List.mem_of_getElem? (i := 671) (by decide +kernel), List.mem_of_getElem? (i := 672) (by decide +kernel)⟩
theorem lw_p29 : lw_okq (⟨"MarkovChainDistances$ChainReader", "readEdge", "(I)V"⟩, 8) := ⟨⟨by decide +kernel, by decide +kernel⟩, List.mem_of_getElem? (i := 189) (by decide +kernel), List.mem_of_getElem? (i := 675) (by decide +kernel), List.mem_of_getElem? (i := 676) (by decide +kernel)⟩
theorem lw_p30 : lw_okq (⟨"MarkovChainDistances$ChainReader", "isConsistent", "()Z"⟩, 8) := ⟨⟨by decide +kernel, by decide +kernel⟩, List.mem_of_getElem? (i := 189) (by decide +kernel), List.mem_of_getElem? (i := 680) (by decide +kernel), List.mem_of_getElem? (i := 681) (by decide +kernel)⟩
theorem lw_p31 : lw_okq (⟨"MarkovChainDistancesModel", "\x69nitialize", "(II)V"⟩, 30) := ⟨⟨by decide +kernel, by decide +kernel⟩, List.mem_of_getElem? (i := 744) (by decide +kernel), List.mem_of_getElem? (i := 750) (by decide +kernel), List.mem_of_getElem? (i := 751) (by decide +kernel)⟩
def lw_privs_2 : List (MethodName × Nat) := [(⟨"MarkovChainDistances", "cumulativeDistance", "(II)I"⟩, 11), (⟨"MarkovChainDistances", "overlap", "(II)I"⟩, 11), (⟨"MarkovChainDistances$Partition", "refineOnce", "(LMarkovChainDistances$Chain;)V"⟩, 3), (⟨"MarkovChainDistances$Partition", "agree", "(LMarkovChainDistances$Chain;II)Z"⟩, 3), (⟨"MarkovChainDistances$Partition", "weightToClass", "(LMarkovChainDistances$Chain;II)I"⟩, 3), (⟨"MarkovChainDistances$PathCounter", "markTargets", "(LMarkovChainDistances$Chain;I)V"⟩, 2), (⟨"MarkovChainDistances$PathCounter", "stepBack", "(LMarkovChainDistances$Chain;)V"⟩, 2), (⟨"MarkovChainDistances$ChainReader", "clear", "()V"⟩, 8), (⟨"MarkovChainDistances$ChainReader", "takeNumber", "(I)I"⟩, 8), (⟨"MarkovChainDistances$ChainReader", "take", "(C)V"⟩, 8), (⟨"MarkovChainDistances$ChainReader", "takeIfPresent", "(C)Z"⟩, 8), (⟨"MarkovChainDistances$ChainReader", "readStates", "()V"⟩, 8), (⟨"MarkovChainDistances$ChainReader", "readState", "(I)V"⟩, 8), (⟨"MarkovChainDistances$ChainReader", "readEdge", "(I)V"⟩, 8), (⟨"MarkovChainDistances$ChainReader", "isConsistent", "()Z"⟩, 8), (⟨"MarkovChainDistancesModel", "\x69nitialize", "(II)V"⟩, 30)]
theorem lw_r2 : ∀ q ∈ lw_privs_2, lw_okq q := List.forall_mem_cons.mpr ⟨lw_p16, List.forall_mem_cons.mpr ⟨lw_p17, List.forall_mem_cons.mpr ⟨lw_p18, List.forall_mem_cons.mpr ⟨lw_p19, List.forall_mem_cons.mpr ⟨lw_p20, List.forall_mem_cons.mpr ⟨lw_p21, List.forall_mem_cons.mpr ⟨lw_p22, List.forall_mem_cons.mpr ⟨lw_p23, List.forall_mem_cons.mpr ⟨lw_p24, List.forall_mem_cons.mpr ⟨lw_p25, List.forall_mem_cons.mpr ⟨lw_p26, List.forall_mem_cons.mpr ⟨lw_p27, List.forall_mem_cons.mpr ⟨lw_p28, List.forall_mem_cons.mpr ⟨lw_p29, List.forall_mem_cons.mpr ⟨lw_p30, List.forall_mem_cons.mpr ⟨lw_p31, fun _ h => absurd h List.not_mem_nil⟩⟩⟩⟩⟩⟩⟩⟩⟩⟩⟩⟩⟩⟩⟩⟩
theorem lw_p32 : lw_okq (⟨"MarkovChainDistancesModel", "setWeight", "(III)V"⟩, 30) := ⟨⟨by decide +kernel, by decide +kernel⟩, List.mem_of_getElem? (i := 744) (by decide +kernel), List.mem_of_getElem? (i := 754) (by decide +kernel), List.mem_of_getElem? (i := 755) (by decide +kernel)⟩
theorem lw_p33 : lw_okq (⟨"MarkovChainDistancesModel", "isState", "(I)Z"⟩, 30) := ⟨⟨by decide +kernel, by decide +kernel⟩, List.mem_of_getElem? (i := 744) (by decide +kernel), List.mem_of_getElem? (i := 871) (by decide +kernel), List.mem_of_getElem? (i := 872) (by decide +kernel)⟩
theorem lw_p34 : lw_okq (⟨"MarkovChainDistancesModel", "begin", "()V"⟩, 30) := ⟨⟨by decide +kernel, by decide +kernel⟩, List.mem_of_getElem? (i := 744) (by decide +kernel), List.mem_of_getElem? (i := 876) (by decide +kernel), List.mem_of_getElem? (i := 877) (by decide +kernel)⟩
theorem lw_p35 : lw_okq (⟨"MarkovChainDistancesModel", "record", "()Z"⟩, 30) := ⟨⟨by decide +kernel, by decide +kernel⟩, List.mem_of_getElem? (i := 744) (by decide +kernel), List.mem_of_getElem? (i := 881) (by decide +kernel), List.mem_of_getElem? (i := 882) (by decide +kernel)⟩
theorem lw_p36 : lw_okq (⟨"MarkovChainDistancesModel", "w", "(II)I"⟩, 30) := ⟨⟨by decide +kernel, by decide +kernel⟩, List.mem_of_getElem? (i := 744) (by decide +kernel), List.mem_of_getElem? (i := 893) (by decide +kernel), List.mem_of_getElem? (i := 894) (by decide +kernel)⟩
theorem lw_p37 : lw_okq (⟨"MarkovChainDistancesModel", "unit", "()I"⟩, 30) := ⟨⟨by decide +kernel, by decide +kernel⟩, List.mem_of_getElem? (i := 744) (by decide +kernel), List.mem_of_getElem? (i := 922) (by decide +kernel), List.mem_of_getElem? (i := 923) (by decide +kernel)⟩
theorem lw_p38 : lw_okq (⟨"MarkovChainDistancesModel", "scale", "(I)J"⟩, 30) := ⟨⟨by decide +kernel, by decide +kernel⟩, List.mem_of_getElem? (i := 744) (by decide +kernel), List.mem_of_getElem? (i := 926) (by decide +kernel), List.mem_of_getElem? (i := 927) (by decide +kernel)⟩
theorem lw_p39 : lw_okq (⟨"MarkovChainDistancesModel", "fraction", "(IIIZ)J"⟩, 30) := ⟨⟨by decide +kernel, by decide +kernel⟩, List.mem_of_getElem? (i := 744) (by decide +kernel), List.mem_of_getElem? (i := 935) (by decide +kernel), List.mem_of_getElem? (i := 936) (by decide +kernel)⟩
theorem lw_p40 : lw_okq (⟨"MarkovChainDistancesModel", "computeDistances", "(I)V"⟩, 30) := ⟨⟨by decide +kernel, by decide +kernel⟩, List.mem_of_getElem? (i := 744) (by decide +kernel), List.mem_of_getElem? (i := 944) (by decide +kernel), List.mem_of_getElem? (i := 945) (by decide +kernel)⟩
theorem lw_p41 : lw_okq (⟨"MarkovChainDistancesModel", "minimumCost", "(II)J"⟩, 30) := ⟨⟨by decide +kernel, by decide +kernel⟩, List.mem_of_getElem? (i := 744) (by decide +kernel), List.mem_of_getElem? (i := 948) (by decide +kernel), List.mem_of_getElem? (i := 949) (by decide +kernel)⟩
theorem lw_p42 : lw_okq (⟨"MarkovChainDistancesModel", "optimize", "(II)V"⟩, 30) := ⟨⟨by decide +kernel, by decide +kernel⟩, List.mem_of_getElem? (i := 744) (by decide +kernel), List.mem_of_getElem? (i := 952) (by decide +kernel), List.mem_of_getElem? (i := 953) (by decide +kernel)⟩
theorem lw_p43 : lw_okq (⟨"MarkovChainDistancesModel", "fill", "(II)V"⟩, 30) := ⟨⟨by decide +kernel, by decide +kernel⟩, List.mem_of_getElem? (i := 744) (by decide +kernel), List.mem_of_getElem? (i := 956) (by decide +kernel), List.mem_of_getElem? (i := 957) (by decide +kernel)⟩
theorem lw_p44 : lw_okq (⟨"MarkovChainDistancesModel", "cancel", "()Z"⟩, 30) := ⟨⟨by decide +kernel, by decide +kernel⟩, List.mem_of_getElem? (i := 744) (by decide +kernel), List.mem_of_getElem? (i := 960) (by decide +kernel), List.mem_of_getElem? (i := 961) (by decide +kernel)⟩
theorem lw_p45 : lw_okq (⟨"MarkovChainDistancesModel", "relax", "()I"⟩, 30) := ⟨⟨by decide +kernel, by decide +kernel⟩, List.mem_of_getElem? (i := 744) (by decide +kernel), List.mem_of_getElem? (i := 964) (by decide +kernel), List.mem_of_getElem? (i := 965) (by decide +kernel)⟩
theorem lw_p46 : lw_okq (⟨"MarkovChainDistancesModel", "d", "(II)J"⟩, 30) := ⟨⟨by decide +kernel, by decide +kernel⟩, List.mem_of_getElem? (i := 744) (by decide +kernel), List.mem_of_getElem? (i := 969) (by decide +kernel), List.mem_of_getElem? (i := 970) (by decide +kernel)⟩
theorem lw_p47 : lw_okq (⟨"MarkovChainDistancesModel", "f", "(II)I"⟩, 30) := ⟨⟨by decide +kernel, by decide +kernel⟩, List.mem_of_getElem? (i := 744) (by decide +kernel), List.mem_of_getElem? (i := 973) (by decide +kernel), List.mem_of_getElem? (i := 974) (by decide +kernel)⟩
def lw_privs_3 : List (MethodName × Nat) := [(⟨"MarkovChainDistancesModel", "setWeight", "(III)V"⟩, 30), (⟨"MarkovChainDistancesModel", "isState", "(I)Z"⟩, 30), (⟨"MarkovChainDistancesModel", "begin", "()V"⟩, 30), (⟨"MarkovChainDistancesModel", "record", "()Z"⟩, 30), (⟨"MarkovChainDistancesModel", "w", "(II)I"⟩, 30), (⟨"MarkovChainDistancesModel", "unit", "()I"⟩, 30), (⟨"MarkovChainDistancesModel", "scale", "(I)J"⟩, 30), (⟨"MarkovChainDistancesModel", "fraction", "(IIIZ)J"⟩, 30), (⟨"MarkovChainDistancesModel", "computeDistances", "(I)V"⟩, 30), (⟨"MarkovChainDistancesModel", "minimumCost", "(II)J"⟩, 30), (⟨"MarkovChainDistancesModel", "optimize", "(II)V"⟩, 30), (⟨"MarkovChainDistancesModel", "fill", "(II)V"⟩, 30), (⟨"MarkovChainDistancesModel", "cancel", "()Z"⟩, 30), (⟨"MarkovChainDistancesModel", "relax", "()I"⟩, 30), (⟨"MarkovChainDistancesModel", "d", "(II)J"⟩, 30), (⟨"MarkovChainDistancesModel", "f", "(II)I"⟩, 30)]
theorem lw_r3 : ∀ q ∈ lw_privs_3, lw_okq q := List.forall_mem_cons.mpr ⟨lw_p32, List.forall_mem_cons.mpr ⟨lw_p33, List.forall_mem_cons.mpr ⟨lw_p34, List.forall_mem_cons.mpr ⟨lw_p35, List.forall_mem_cons.mpr ⟨lw_p36, List.forall_mem_cons.mpr ⟨lw_p37, List.forall_mem_cons.mpr ⟨lw_p38, List.forall_mem_cons.mpr ⟨lw_p39, List.forall_mem_cons.mpr ⟨lw_p40, List.forall_mem_cons.mpr ⟨lw_p41, List.forall_mem_cons.mpr ⟨lw_p42, List.forall_mem_cons.mpr ⟨lw_p43, List.forall_mem_cons.mpr ⟨lw_p44, List.forall_mem_cons.mpr ⟨lw_p45, List.forall_mem_cons.mpr ⟨lw_p46, List.forall_mem_cons.mpr ⟨lw_p47, fun _ h => absurd h List.not_mem_nil⟩⟩⟩⟩⟩⟩⟩⟩⟩⟩⟩⟩⟩⟩⟩⟩
theorem lw_p48 : lw_okq (⟨"MarkovChainDistancesModel", "shift", "(II)V"⟩, 30) := ⟨⟨by decide +kernel, by decide +kernel⟩, List.mem_of_getElem? (i := 744) (by decide +kernel), List.mem_of_getElem? (i := 977) (by decide +kernel), List.mem_of_getElem? (i := 978) (by decide +kernel)⟩
theorem lw_p49 : lw_okq (⟨"MarkovChainDistancesModel", "isPair", "(I)Z"⟩, 30) := ⟨⟨by decide +kernel, by decide +kernel⟩, List.mem_of_getElem? (i := 744) (by decide +kernel), List.mem_of_getElem? (i := 992) (by decide +kernel), List.mem_of_getElem? (i := 993) (by decide +kernel)⟩
theorem lw_p50 : lw_okq (⟨"MarkovChainDistancesModel", "canonicalCoupling", "(II)V"⟩, 30) := ⟨⟨by decide +kernel, by decide +kernel⟩, List.mem_of_getElem? (i := 744) (by decide +kernel), List.mem_of_getElem? (i := 1005) (by decide +kernel), List.mem_of_getElem? (i := 1006) (by decide +kernel)⟩
theorem lw_p51 : lw_okq (⟨"MarkovChainDistancesModel", "lower", "(II)Z"⟩, 30) := ⟨⟨by decide +kernel, by decide +kernel⟩, List.mem_of_getElem? (i := 744) (by decide +kernel), List.mem_of_getElem? (i := 1009) (by decide +kernel), List.mem_of_getElem? (i := 1010) (by decide +kernel)⟩
theorem lw_p52 : lw_okq (⟨"MarkovChainDistancesModel", "computeClasses", "()V"⟩, 30) := ⟨⟨by decide +kernel, by decide +kernel⟩, List.mem_of_getElem? (i := 744) (by decide +kernel), List.mem_of_getElem? (i := 1021) (by decide +kernel), List.mem_of_getElem? (i := 1022) (by decide +kernel)⟩
theorem lw_p53 : lw_okq (⟨"MarkovChainDistancesModel", "number", "(Z)I"⟩, 30) := ⟨⟨by decide +kernel, by decide +kernel⟩, List.mem_of_getElem? (i := 744) (by decide +kernel), List.mem_of_getElem? (i := 1025) (by decide +kernel), List.mem_of_getElem? (i := 1026) (by decide +kernel)⟩
theorem lw_p54 : lw_okq (⟨"MarkovChainDistancesModel", "areAlike", "(II)Z"⟩, 30) := ⟨⟨by decide +kernel, by decide +kernel⟩, List.mem_of_getElem? (i := 744) (by decide +kernel), List.mem_of_getElem? (i := 1029) (by decide +kernel), List.mem_of_getElem? (i := 1030) (by decide +kernel)⟩
theorem lw_p55 : lw_okq (⟨"MarkovChainDistancesModel", "weightToClass", "(II)I"⟩, 30) := ⟨⟨by decide +kernel, by decide +kernel⟩, List.mem_of_getElem? (i := 744) (by decide +kernel), List.mem_of_getElem? (i := 1033) (by decide +kernel), List.mem_of_getElem? (i := 1034) (by decide +kernel)⟩
theorem lw_p56 : lw_okq (⟨"MarkovChainDistancesModel", "isQuery", "(III)Z"⟩, 30) := ⟨⟨by decide +kernel, by decide +kernel⟩, List.mem_of_getElem? (i := 744) (by decide +kernel), List.mem_of_getElem? (i := 1049) (by decide +kernel), List.mem_of_getElem? (i := 1050) (by decide +kernel)⟩
theorem lw_p57 : lw_okq (⟨"MarkovChainDistancesModel", "isIn", "(II)Z"⟩, 30) := ⟨⟨by decide +kernel, by decide +kernel⟩, List.mem_of_getElem? (i := 744) (by decide +kernel), List.mem_of_getElem? (i := 1053) (by decide +kernel), List.mem_of_getElem? (i := 1054) (by decide +kernel)⟩
theorem lw_p58 : lw_okq (⟨"MarkovChainDistancesModel", "step", "()V"⟩, 30) := ⟨⟨by decide +kernel, by decide +kernel⟩, List.mem_of_getElem? (i := 744) (by decide +kernel), List.mem_of_getElem? (i := 1057) (by decide +kernel), List.mem_of_getElem? (i := 1058) (by decide +kernel)⟩
theorem lw_p59 : lw_okq (⟨"MarkovChainDistancesModel", "walk", "(IIII)I"⟩, 30) := ⟨⟨by decide +kernel, by decide +kernel⟩, List.mem_of_getElem? (i := 744) (by decide +kernel), List.mem_of_getElem? (i := 1077) (by decide +kernel), List.mem_of_getElem? (i := 1078) (by decide +kernel)⟩
theorem lw_p60 : lw_okq (⟨"MarkovChainDistancesModel", "parseChain", "()V"⟩, 30) := ⟨⟨by decide +kernel, by decide +kernel⟩, List.mem_of_getElem? (i := 744) (by decide +kernel), List.mem_of_getElem? (i := 1098) (by decide +kernel), List.mem_of_getElem? (i := 1099) (by decide +kernel)⟩
theorem lw_p61 : lw_okq (⟨"MarkovChainDistancesModel", "number", "(I)I"⟩, 30) := ⟨⟨by decide +kernel, by decide +kernel⟩, List.mem_of_getElem? (i := 744) (by decide +kernel), List.mem_of_getElem? (i := 1102) (by decide +kernel), List.mem_of_getElem? (i := 1103) (by decide +kernel)⟩
theorem lw_p62 : lw_okq (⟨"MarkovChainDistancesModel", "isNext", "(II)Z"⟩, 30) := ⟨⟨by decide +kernel, by decide +kernel⟩, List.mem_of_getElem? (i := 744) (by decide +kernel), List.mem_of_getElem? (i := 1106) (by decide +kernel), List.mem_of_getElem? (i := 1107) (by decide +kernel)⟩
theorem lw_p63 : lw_okq (⟨"MarkovChainDistancesModel", "expect", "(I)V"⟩, 30) := ⟨⟨by decide +kernel, by decide +kernel⟩, List.mem_of_getElem? (i := 744) (by decide +kernel), List.mem_of_getElem? (i := 1110) (by decide +kernel), List.mem_of_getElem? (i := 1111) (by decide +kernel)⟩
def lw_privs_4 : List (MethodName × Nat) := [(⟨"MarkovChainDistancesModel", "shift", "(II)V"⟩, 30), (⟨"MarkovChainDistancesModel", "isPair", "(I)Z"⟩, 30), (⟨"MarkovChainDistancesModel", "canonicalCoupling", "(II)V"⟩, 30), (⟨"MarkovChainDistancesModel", "lower", "(II)Z"⟩, 30), (⟨"MarkovChainDistancesModel", "computeClasses", "()V"⟩, 30), (⟨"MarkovChainDistancesModel", "number", "(Z)I"⟩, 30), (⟨"MarkovChainDistancesModel", "areAlike", "(II)Z"⟩, 30), (⟨"MarkovChainDistancesModel", "weightToClass", "(II)I"⟩, 30), (⟨"MarkovChainDistancesModel", "isQuery", "(III)Z"⟩, 30), (⟨"MarkovChainDistancesModel", "isIn", "(II)Z"⟩, 30), (⟨"MarkovChainDistancesModel", "step", "()V"⟩, 30), (⟨"MarkovChainDistancesModel", "walk", "(IIII)I"⟩, 30), (⟨"MarkovChainDistancesModel", "parseChain", "()V"⟩, 30), (⟨"MarkovChainDistancesModel", "number", "(I)I"⟩, 30), (⟨"MarkovChainDistancesModel", "isNext", "(II)Z"⟩, 30), (⟨"MarkovChainDistancesModel", "expect", "(I)V"⟩, 30)]
theorem lw_r4 : ∀ q ∈ lw_privs_4, lw_okq q := List.forall_mem_cons.mpr ⟨lw_p48, List.forall_mem_cons.mpr ⟨lw_p49, List.forall_mem_cons.mpr ⟨lw_p50, List.forall_mem_cons.mpr ⟨lw_p51, List.forall_mem_cons.mpr ⟨lw_p52, List.forall_mem_cons.mpr ⟨lw_p53, List.forall_mem_cons.mpr ⟨lw_p54, List.forall_mem_cons.mpr ⟨lw_p55, List.forall_mem_cons.mpr ⟨lw_p56, List.forall_mem_cons.mpr ⟨lw_p57, List.forall_mem_cons.mpr ⟨lw_p58, List.forall_mem_cons.mpr ⟨lw_p59, List.forall_mem_cons.mpr ⟨lw_p60, List.forall_mem_cons.mpr ⟨lw_p61, List.forall_mem_cons.mpr ⟨lw_p62, List.forall_mem_cons.mpr ⟨lw_p63, fun _ h => absurd h List.not_mem_nil⟩⟩⟩⟩⟩⟩⟩⟩⟩⟩⟩⟩⟩⟩⟩⟩
theorem lw_p64 : lw_okq (⟨"MarkovChainDistancesModel", "accept", "(I)Z"⟩, 30) := ⟨⟨by decide +kernel, by decide +kernel⟩, List.mem_of_getElem? (i := 744) (by decide +kernel), List.mem_of_getElem? (i := 1114) (by decide +kernel), List.mem_of_getElem? (i := 1115) (by decide +kernel)⟩
theorem lw_p65 : lw_okq (⟨"MarkovChainDistancesModel", "parseState", "()V"⟩, 30) := ⟨⟨by decide +kernel, by decide +kernel⟩, List.mem_of_getElem? (i := 744) (by decide +kernel), List.mem_of_getElem? (i := 1118) (by decide +kernel), List.mem_of_getElem? (i := 1119) (by decide +kernel)⟩
theorem lw_p66 : lw_okq (⟨"MarkovChainDistancesModel", "findWrongSuccessors", "()V"⟩, 30) := ⟨⟨by decide +kernel, by decide +kernel⟩, List.mem_of_getElem? (i := 744) (by decide +kernel), List.mem_of_getElem? (i := 1122) (by decide +kernel), List.mem_of_getElem? (i := 1123) (by decide +kernel)⟩
theorem lw_p67 : lw_okq (⟨"MarkovChainDistancesModel", "isConsistent", "()Z"⟩, 30) := ⟨⟨by decide +kernel, by decide +kernel⟩, List.mem_of_getElem? (i := 744) (by decide +kernel), List.mem_of_getElem? (i := 1126) (by decide +kernel), List.mem_of_getElem? (i := 1127) (by decide +kernel)⟩
theorem lw_p68 : lw_okq (⟨"MarkovChainDistancesModel", "hasWrongSuccessor", "(I)Z"⟩, 30) := ⟨⟨by decide +kernel, by decide +kernel⟩, List.mem_of_getElem? (i := 744) (by decide +kernel), List.mem_of_getElem? (i := 1130) (by decide +kernel), List.mem_of_getElem? (i := 1131) (by decide +kernel)⟩
def lw_privs_5 : List (MethodName × Nat) := [(⟨"MarkovChainDistancesModel", "accept", "(I)Z"⟩, 30), (⟨"MarkovChainDistancesModel", "parseState", "()V"⟩, 30), (⟨"MarkovChainDistancesModel", "findWrongSuccessors", "()V"⟩, 30), (⟨"MarkovChainDistancesModel", "isConsistent", "()Z"⟩, 30), (⟨"MarkovChainDistancesModel", "hasWrongSuccessor", "(I)Z"⟩, 30)]
theorem lw_r5 : ∀ q ∈ lw_privs_5, lw_okq q := List.forall_mem_cons.mpr ⟨lw_p64, List.forall_mem_cons.mpr ⟨lw_p65, List.forall_mem_cons.mpr ⟨lw_p66, List.forall_mem_cons.mpr ⟨lw_p67, List.forall_mem_cons.mpr ⟨lw_p68, fun _ h => absurd h List.not_mem_nil⟩⟩⟩⟩⟩
def lw_privs : List (MethodName × Nat) := lw_privs_1 ++ (lw_privs_2 ++ (lw_privs_3 ++ (lw_privs_4 ++ (lw_privs_5))))
def lw_tbl : List Cond := k2_sels lw_privs ++ tables_1
theorem lw_privs_ok : ∀ q ∈ lw_privs, lw_okq q := by
  show ∀ q ∈ lw_privs_1 ++ (lw_privs_2 ++ (lw_privs_3 ++ (lw_privs_4 ++ (lw_privs_5)))), lw_okq q
  exact List.forall_mem_append.mpr ⟨lw_r1, List.forall_mem_append.mpr ⟨lw_r2, List.forall_mem_append.mpr ⟨lw_r3, List.forall_mem_append.mpr ⟨lw_r4, lw_r5⟩⟩⟩⟩
/-- f, but v at every address of l -/
def vr_up {α : Type} (f : Nat → α) (l : List Nat) (v : α) : Nat → α := fun a => if a ∈ l then v else f a
theorem vr_up_in {α : Type} {f : Nat → α} {l : List Nat} {v : α} {a : Nat} (h : a ∈ l) : vr_up f l v a = v := if_pos h
theorem vr_up_ne {α : Type} {f : Nat → α} {l : List Nat} {v : α} {a : Nat} (h : a ∉ l) : vr_up f l v a = f a := if_neg h
theorem vr_rows {L l : List Nat} {f : Nat → va_E} {e : va_E} (h : ∀ a, a ∈ l → a ∉ L) : va_pl L f ++ l.map (fun a => (a, e)) = va_pl (L ++ l) (vr_up f l e) := by
  unfold va_pl
  rw [List.map_append]
  congr 1
  · apply List.map_congr_left
    intro a ha
    rw [vr_up_ne (fun q => h a q ha)]
  · apply List.map_congr_left
    intro a ha
    rw [vr_up_in ha]
theorem vr_lay {X rows : va_W} {x : Nat × va_E} {pl : va_W} {D : va_G} {cl : List vw_C} {H : Heap} (hP : va_P D cl (((X ++ pl) ++ [x]) ++ rows) H) : va_P D cl ((X ++ [x]) ++ (pl ++ rows)) H := by
  rw [List.append_assoc (X ++ pl)] at hP
  have h := va_P.swap hP
  rw [← List.append_assoc X] at h
  have h2 := va_P.swap h
  rw [List.append_assoc (X ++ [x])] at h2
  exact h2
theorem vr_layD {X rows : va_W} {x : Nat × va_E} {pl : va_W} {A : Nat → Prop} (hD : va_D A (((X ++ pl) ++ [x]) ++ rows)) : va_D A ((X ++ [x]) ++ (pl ++ rows)) := by
  rw [List.append_assoc (X ++ pl)] at hD
  have h := va_D.swap hD
  rw [← List.append_assoc X] at h
  have h2 := va_D.swap h
  rw [List.append_assoc (X ++ [x])] at h2
  exact h2
theorem vr_outer (c : ClassId) (N h0 : Nat) : ∀ i : Nat, Jvm.Free.Multi.outerC c N h0 i = arrV c N (fun j => va_rf (if j < i then some (h0 + 1 + j) else none))
  | 0 => by
    show ({ cls := c, slots := Array.replicate N .null, vm := .none } : Cell) = _
    rw [arrV_new]
    refine congrArg (arrV c N) (funext fun j => ?_)
    simp [va_rf]
  | i + 1 => by
    show (Jvm.Free.Multi.outerC c N h0 i).setSlot i (.ref (h0 + 1 + i)) = _
    rw [vr_outer c N h0 i, arrV_store]
    refine congrArg (arrV c N) (funext fun j => ?_)
    by_cases e : j = i
    · subst e
      simp [updV, va_rf]
    · by_cases h : j < i
      · simp [updV, e, h, Nat.lt_succ_of_lt h]
      · simp [updV, e, h, show ¬ j < i + 1 by omega]
def va_AOA (ty : FieldType) (U : State) : Prop := (Cond.arrayOver (.array ty)).before #[] U = true
theorem va_AOA.use {ty : FieldType} {A : Array Value} {U : State} (h : va_AOA ty U) : (Cond.arrayOver (.array ty)).before A U = true := h
section VGM
variable {p : Program} {l : Launch} {e : Env} {R : Room} {s : State} {m : MethodId} {args : Array Value} {below : List Frame} {meth : Method} {c : Code} {H : Heap} {locs : List Loc} {cells slots : Nat} {Q : State → Prop}
variable {cc : ByteArray} {pc : Nat} {ls : Array Slot} {rest : List Value} {D : va_G} {cl : List vw_C} {A : Nat → Prop} {a : Nat} {tys : List (ClassId × FieldType)} {ws : va_W} {H0 : Heap}
theorem va_mna {X : va_W} {L : List Nat} {f : Nat → va_E} {cc : ByteArray} (hexec : p.tables.exec = Jvm.exec) (hb : c.code = cc) {own : String} {index : Nat} {ty : FieldType} {cy : ClassId} (hown : s.vm.findClass own = some m.cls) (hclink : (Cond.classLink own index ("[" ++ (FieldType.array ty).toString)).before args s = true) (hover : va_AOA ty s) (harr : (Cond.arrayClass ty).before args s = true) (hcy : s.vm.findClass (FieldType.array ty).toString = some cy)
    (hK : va_K D cl tys s) (hP : va_P D cl (X ++ va_pl L f) H) (hD : va_D A (X ++ va_pl L f)) (hS : va_S A H0 H locs) (hA : ∀ q, H0.size ≤ q → A q) {n k : Int32} {N' K' : Nat} {z : vp_A} (hn : ¬ n < 0) (hk : ¬ k < 0) (hN : n.toNatClampNeg = N') (hM : k.toNatClampNeg = K')
    (hb1 : N' * 4 ≤ 536870912) (hb2 : K' * componentBytes ty ≤ 536870912) (hb3 : K' ≤ 536870912) (hdf : fits ty (defaultValue ty) = true) (hdd : (defaultValue ty).isDefault = true) (hcells : cells + (1 + N') ≤ R.cells) (hslots : slots + (N' + N' * K') ≤ R.slots) (hz : ∀ c : ClassId, Jvm.Free.Multi.innerC c K' (defaultValue ty) = vp_cell c z) (hdg : decode cc pc = .ok (.multianewarray index 2, 4))
    (kk : ∀ (q : Nat) (r : Nat → Nat) (cA : ClassId) (H1 : Heap), (∀ i j : Nat, i < N' → j < N' → r i = r j → i = j) → (∀ i : Nat, i < N' → r i ∉ L) → va_K D cl (tys ++ [(cA, .array ty)]) s →
      va_P D cl ((X ++ [(q, .inl (cA, N', .inr (.inr (.inr (.inr (fun i => if i < N' then some (r i) else none))))))]) ++ va_pl (L ++ (List.range N').map r) (vr_up f ((List.range N').map r) (.inl (cy, z)))) H1 → va_D A ((X ++ [(q, .inl (cA, N', .inr (.inr (.inr (.inr (fun i => if i < N' then some (r i) else none))))))]) ++ va_pl (L ++ (List.range N').map r) (vr_up f ((List.range N').map r) (.inl (cy, z)))) → va_S A H0 H1 locs →
      W p l e R s m args below meth c H1 locs (cells + 1 + N') (slots + N' + N' * K') Q (F0 m (pc + 4) ls (.ref q :: rest))) : W p l e R s m args below meth c H locs cells slots Q (F0 m pc ls (.int k :: .int n :: rest)) := by
  subst hN
  subst hM
  intro T hT Xs
  obtain ⟨vm₁, cA, comp, -, fA, fC, hO, -, X', step⟩ := Xs.multianewarray2F hexec hown hclink (va_AOA.use hover) harr (g := F0 m pc ls (.int k :: .int n :: rest)) rfl (by rw [hb]; exact hdg) rfl hn hk hb1 hb2 hb3 hdf hdd hcells hslots
  have ec : some cy = some comp := hcy.symm.trans fC
  cases ec
  generalize hF : Jvm.Free.Multi.fill (T.setVm vm₁) cA cy n.toNatClampNeg k.toNatClampNeg (defaultValue ty) n.toNatClampNeg = F at X' step
  have hTh : (T.setVm vm₁).heap = H := hT
  obtain ⟨f1, f2, -, -⟩ := Jvm.Free.Multi.fill_facts (T.setVm vm₁) cA cy n.toNatClampNeg k.toNatClampNeg (defaultValue ty) n.toNatClampNeg
  rw [hF, hTh] at f1 f2
  have hold : ∀ x : Nat, x < H.size → F.heap[x]? = H[x]? := fun x hx => by
    have := Jvm.Free.Multi.fill_old (T.setVm vm₁) cA cy n.toNatClampNeg k.toNatClampNeg (defaultValue ty) (a := x) (by rw [hTh]; exact hx) n.toNatClampNeg
    rw [hF, hTh] at this
    exact this
  have hrow : ∀ j : Nat, j < n.toNatClampNeg → F.heap[H.size + 1 + j]? = some (vp_cell cy z) := fun j hj => by
    have := Jvm.Free.Multi.fill_inner (T.setVm vm₁) cA cy n.toNatClampNeg k.toNatClampNeg (defaultValue ty) n.toNatClampNeg j hj
    rw [hF, hTh, hz] at this
    exact this
  have hout : Jvm.Free.Multi.outerC cA n.toNatClampNeg H.size n.toNatClampNeg = vp_cell cA (n.toNatClampNeg, .inr (.inr (.inr (.inr (fun i => if i < n.toNatClampNeg then some (H.size + 1 + i) else none))))) := by
    rw [vp_cell_q]
    exact vr_outer cA n.toNatClampNeg H.size n.toNatClampNeg
  rw [hout] at f2
  have hlt : ∀ a, a ∈ L → a < H.size := fun a ha => by
    obtain ⟨k9, hk9⟩ := va_pl_get (X := X) (f := f) ha
    exact (hP k9 _ hk9).lt
  have hnl : ∀ i : Nat, i < n.toNatClampNeg → H.size + 1 + i ∉ L := fun i _ h => by
    have := hlt _ h
    omega
  have hnm : ∀ a, a ∈ (List.range n.toNatClampNeg).map (fun i => H.size + 1 + i) → a ∉ L := fun a ha h => by
    obtain ⟨i, -, rfl⟩ := List.mem_map.mp ha
    have := hlt _ h
    omega
  have hP0 : va_P D cl (X ++ va_pl L f) F.heap := hP.kept (fun k9 x hx => hold x.1 ((hP k9 x hx).lt))
  have hP1 : va_P D cl ((X ++ va_pl L f) ++ [(H.size, .inl (cA, n.toNatClampNeg, .inr (.inr (.inr (.inr (fun i => if i < n.toNatClampNeg then some (H.size + 1 + i) else none))))))]) F.heap := hP0.app (fun k9 x hx => by
    have h0 : k9 < 1 := (List.getElem?_eq_some_iff.mp hx).1
    rw [show k9 = 0 by omega] at hx
    cases hx
    exact f2)
  have hP2 : va_P D cl (((X ++ va_pl L f) ++ [(H.size, .inl (cA, n.toNatClampNeg, .inr (.inr (.inr (.inr (fun i => if i < n.toNatClampNeg then some (H.size + 1 + i) else none))))))]) ++ ((List.range n.toNatClampNeg).map (fun i => H.size + 1 + i)).map (fun a => (a, .inl (cy, z)))) F.heap := hP1.app (fun k9 x hx => by
    obtain ⟨a, ha, rfl⟩ := List.mem_map.mp (List.mem_of_getElem? hx)
    obtain ⟨i, hi, rfl⟩ := List.mem_map.mp ha
    exact hrow i (List.mem_range.mp hi))
  have hD2 : va_D A (((X ++ va_pl L f) ++ [(H.size, .inl (cA, n.toNatClampNeg, .inr (.inr (.inr (.inr (fun i => if i < n.toNatClampNeg then some (H.size + 1 + i) else none))))))]) ++ ((List.range n.toNatClampNeg).map (fun i => H.size + 1 + i)).map (fun a => (a, .inl (cy, z)))) := by
    have hD1 := hD.push (e := .inl (cA, n.toNatClampNeg, .inr (.inr (.inr (.inr (fun i => if i < n.toNatClampNeg then some (H.size + 1 + i) else none)))))) hP rfl (hA _ hS.1)
    generalize hW1 : (X ++ va_pl L f) ++ [(H.size, .inl (cA, n.toNatClampNeg, .inr (.inr (.inr (.inr (fun i => if i < n.toNatClampNeg then some (H.size + 1 + i) else none))))))] = W1 at hD1 hP1 ⊢
    have hle : ∀ (k9 : Nat) (x : Nat × va_E), W1[k9]? = some x → x.1 ≤ H.size := fun k9 x hx => by
      rw [← hW1] at hx
      by_cases hl : k9 < (X ++ va_pl L f).length
      · rw [List.getElem?_append_left hl] at hx
        exact Nat.le_of_lt ((hP k9 x hx).lt)
      · rw [List.getElem?_append_right (by omega)] at hx
        have h0 : k9 - (X ++ va_pl L f).length < 1 := (List.getElem?_eq_some_iff.mp hx).1
        rw [show k9 - (X ++ va_pl L f).length = 0 by omega] at hx
        cases hx
        exact Nat.le_refl _
    have hr : ∀ (k9 : Nat) (x : Nat × va_E), (((List.range n.toNatClampNeg).map (fun i => H.size + 1 + i)).map (fun a => ((a, .inl (cy, z)) : Nat × va_E)))[k9]? = some x → x.1 = H.size + 1 + k9 := fun k9 x hx => by
      rw [List.getElem?_map, List.getElem?_map] at hx
      by_cases h9 : k9 < n.toNatClampNeg
      · rw [List.getElem?_range h9] at hx
        cases hx
        rfl
      · have hn0 : (List.range n.toNatClampNeg)[k9]? = none := List.getElem?_eq_none (by rw [List.length_range]; omega)
        rw [hn0] at hx
        cases hx
    refine ⟨fun i j x y hi hj hxy => ?_, fun k9 x hx => ?_⟩
    · by_cases h1 : i < W1.length <;> by_cases h2 : j < W1.length
      · rw [List.getElem?_append_left h1] at hi
        rw [List.getElem?_append_left h2] at hj
        exact hD1.1 i j x y hi hj hxy
      · rw [List.getElem?_append_left h1] at hi
        rw [List.getElem?_append_right (by omega)] at hj
        have := hle _ _ hi
        have := hr _ _ hj
        omega
      · rw [List.getElem?_append_right (by omega)] at hi
        rw [List.getElem?_append_left h2] at hj
        have := hle _ _ hj
        have := hr _ _ hi
        omega
      · rw [List.getElem?_append_right (by omega)] at hi hj
        have := hr _ _ hi
        have := hr _ _ hj
        omega
    · by_cases h1 : k9 < W1.length
      · rw [List.getElem?_append_left h1] at hx
        exact hD1.2 k9 x hx
      · rw [List.getElem?_append_right (by omega)] at hx
        have := hr _ _ hx
        exact hA _ (by have := hS.1; omega)
  have hAr : ArrOfT s cA (.array ty) := fun N9 z9 => by
    obtain ⟨-, k9, hk9, cm9, hkk9⟩ := (hO 0 0 0).1
    exact ⟨(fun q hq => by cases hq), k9, hk9, cm9, hkk9⟩
  have hK2 : va_K D cl (tys ++ [(cA, .array ty)]) s := ⟨hK.1, fun k9 x hx => by
    by_cases hl : k9 < tys.length
    · rw [List.getElem?_append_left hl] at hx
      exact hK.2 k9 x hx
    · rw [List.getElem?_append_right (by omega)] at hx
      have h0 : k9 - tys.length < 1 := (List.getElem?_eq_some_iff.mp hx).1
      rw [show k9 - tys.length = 0 by omega] at hx
      cases hx
      exact ⟨hAr, fA⟩⟩
  obtain ⟨t, a1, b1⟩ := kk H.size (fun i => H.size + 1 + i) cA F.heap (fun i j _ _ h => by have h9 : H.size + 1 + i = H.size + 1 + j := h; omega) hnl hK2 (by rw [← vr_rows hnm]; exact vr_lay hP2) (by rw [← vr_rows hnm]; exact vr_layD hD2) ⟨by rw [f1]; have := hS.1; omega, fun x h1 h2 => (hold x (Nat.lt_of_lt_of_le h1 hS.1)).trans (hS.2.1 x h1 h2), hS.2.2⟩ F rfl X'
  refine ⟨t, step t ?_, b1⟩
  have e : T.heap.size = H.size := by rw [hT]
  rw [e]
  exact a1
end VGM

def RX0 : String := "MarkovChainDistances$ArraySlots"
def TX0 : u_T := fun k => match k with
  | 0 => ("MarkovChainDistances$ArraySlots", "types", "[I", true)
  | 1 => ("MarkovChainDistances$ArraySlots", "sizes", "[I", true)
  | _ => ("MarkovChainDistances$ArraySlots", "elements", "[[J", true)
def tyX0 : Nat → FieldType := fun k => match k with
  | 0 => .array .int
  | 1 => .array .int
  | _ => .array (.array .long)
theorem nmX0 : ∀ a, a < 3 → ∀ b, b < 3 → a ≠ b → (TX0 a).2.1 ≠ (TX0 b).2.1 := by decide +kernel
theorem tyX0_ok : ∀ k, k < 3 → parseFieldDescriptor (TX0 k).2.2.1 = some (tyX0 k) := by decide +kernel
abbrev cX0_init : ByteArray := prog_2_method_1_code
def yX0_init : MethodName := ⟨RX0, "<init>", "()V"⟩
abbrev cX0_isEmpty : ByteArray := prog_2_method_2_code
def yX0_isEmpty : MethodName := ⟨RX0, "isEmpty", "(I)Z"⟩
abbrev cX0_hasIndex : ByteArray := prog_2_method_3_code
def yX0_hasIndex : MethodName := ⟨RX0, "hasIndex", "(II)Z"⟩
abbrev cX0_hasRange : ByteArray := prog_2_method_4_code
def yX0_hasRange : MethodName := ⟨RX0, "hasRange", "(III)Z"⟩
abbrev cX0_fillNew : ByteArray := prog_2_method_5_code
def yX0_fillNew : MethodName := ⟨RX0, "fillNew", "(III)V"⟩
abbrev cX0_narrowed : ByteArray := prog_2_method_6_code
def yX0_narrowed : MethodName := ⟨RX0, "narrowed", "(JI)J"⟩
def RX1 : String := "MarkovChainDistances$Chain"
def TX1 : u_T := fun k => match k with
  | 0 => ("MarkovChainDistances$Chain", "size", "I", false)
  | 1 => ("MarkovChainDistances$Chain", "total", "I", false)
  | 2 => ("MarkovChainDistances$Chain", "discountTop", "I", false)
  | 3 => ("MarkovChainDistances$Chain", "discountBottom", "I", false)
  | 4 => ("MarkovChainDistances$Chain", "labels", "[I", true)
  | _ => ("MarkovChainDistances$Chain", "weights", "[I", true)
def tyX1 : Nat → FieldType := fun k => match k with
  | 0 => .int
  | 1 => .int
  | 2 => .int
  | 3 => .int
  | 4 => .array .int
  | _ => .array .int
theorem nmX1 : ∀ a, a < 6 → ∀ b, b < 6 → a ≠ b → (TX1 a).2.1 ≠ (TX1 b).2.1 := by decide +kernel
theorem tyX1_ok : ∀ k, k < 6 → parseFieldDescriptor (TX1 k).2.2.1 = some (tyX1 k) := by decide +kernel
abbrev cX1_init : ByteArray := prog_3_method_1_code
def yX1_init : MethodName := ⟨RX1, "<init>", "()V"⟩
abbrev cX1_start : ByteArray := prog_3_method_2_code
def yX1_start : MethodName := ⟨RX1, "start", "(II)V"⟩
abbrev cX1_has : ByteArray := prog_3_method_3_code
def yX1_has : MethodName := ⟨RX1, "has", "(I)Z"⟩
abbrev cX1_copyFrom : ByteArray := prog_3_method_4_code
def yX1_copyFrom : MethodName := ⟨RX1, "copyFrom", "(LMarkovChainDistances$Chain;)V"⟩
abbrev cX1_copySwapped : ByteArray := prog_3_method_5_code
def yX1_copySwapped : MethodName := ⟨RX1, "copySwapped", "(LMarkovChainDistances$Chain;II)V"⟩
abbrev cX1_swapped : ByteArray := prog_3_method_6_code
def yX1_swapped : MethodName := ⟨RX1, "swapped", "(III)I"⟩
abbrev cX1_sameAs : ByteArray := prog_3_method_7_code
def yX1_sameAs : MethodName := ⟨RX1, "sameAs", "(LMarkovChainDistances$Chain;)Z"⟩
abbrev cX1_successorAt : ByteArray := prog_3_method_8_code
def yX1_successorAt : MethodName := ⟨RX1, "successorAt", "(II)I"⟩
def RX2 : String := "MarkovChainDistances$ChainReader"
def TX2 : u_T := fun k => match k with
  | 0 => ("MarkovChainDistances$ChainReader", "text", "LMarkovChainDistances$InputBuffer;", true)
  | 1 => ("MarkovChainDistances$ChainReader", "position", "I", false)
  | 2 => ("MarkovChainDistances$ChainReader", "malformed", "Z", false)
  | 3 => ("MarkovChainDistances$ChainReader", "size", "I", false)
  | 4 => ("MarkovChainDistances$ChainReader", "total", "I", false)
  | 5 => ("MarkovChainDistances$ChainReader", "highestSuccessor", "I", false)
  | 6 => ("MarkovChainDistances$ChainReader", "labels", "[I", true)
  | _ => ("MarkovChainDistances$ChainReader", "weights", "[I", true)
def tyX2 : Nat → FieldType := fun k => match k with
  | 0 => .object "MarkovChainDistances$InputBuffer"
  | 1 => .int
  | 2 => .boolean
  | 3 => .int
  | 4 => .int
  | 5 => .int
  | 6 => .array .int
  | _ => .array .int
theorem nmX2 : ∀ a, a < 8 → ∀ b, b < 8 → a ≠ b → (TX2 a).2.1 ≠ (TX2 b).2.1 := by decide +kernel
theorem tyX2_ok : ∀ k, k < 8 → parseFieldDescriptor (TX2 k).2.2.1 = some (tyX2 k) := by decide +kernel
abbrev cX2_init : ByteArray := prog_4_method_1_code
def yX2_init : MethodName := ⟨RX2, "<init>", "()V"⟩
abbrev cX2_readInput : ByteArray := prog_4_method_2_code
def yX2_readInput : MethodName := ⟨RX2, "readInput", "()I"⟩
abbrev cX2_clear : ByteArray := prog_4_method_3_code
def yX2_clear : MethodName := ⟨RX2, "clear", "()V"⟩
abbrev cX2_readStates : ByteArray := prog_4_method_4_code
def yX2_readStates : MethodName := ⟨RX2, "readStates", "()V"⟩
abbrev cX2_readState : ByteArray := prog_4_method_5_code
def yX2_readState : MethodName := ⟨RX2, "readState", "(I)V"⟩
abbrev cX2_readEdge : ByteArray := prog_4_method_6_code
def yX2_readEdge : MethodName := ⟨RX2, "readEdge", "(I)V"⟩
abbrev cX2_takeNumber : ByteArray := prog_4_method_7_code
def yX2_takeNumber : MethodName := ⟨RX2, "takeNumber", "(I)I"⟩
abbrev cX2_take : ByteArray := prog_4_method_8_code
def yX2_take : MethodName := ⟨RX2, "take", "(C)V"⟩
abbrev cX2_takeIfPresent : ByteArray := prog_4_method_9_code
def yX2_takeIfPresent : MethodName := ⟨RX2, "takeIfPresent", "(C)Z"⟩
abbrev cX2_isConsistent : ByteArray := prog_4_method_10_code
def yX2_isConsistent : MethodName := ⟨RX2, "isConsistent", "()Z"⟩
abbrev cX2_writeTo : ByteArray := prog_4_method_11_code
def yX2_writeTo : MethodName := ⟨RX2, "writeTo", "(LMarkovChainDistances$Chain;)V"⟩
def RX3 : String := "MarkovChainDistances$Distances"
def TX3 : u_T := fun k => match k with
  | 0 => ("MarkovChainDistances$Distances", "basis", "LMarkovChainDistances$Chain;", true)
  | 1 => ("MarkovChainDistances$Distances", "transport", "LMarkovChainDistances$Transport;", true)
  | 2 => ("MarkovChainDistances$Distances", "levels", "[[J", true)
  | 3 => ("MarkovChainDistances$Distances", "scales", "[J", true)
  | _ => ("MarkovChainDistances$Distances", "knownDepth", "I", false)
def tyX3 : Nat → FieldType := fun k => match k with
  | 0 => .object "MarkovChainDistances$Chain"
  | 1 => .object "MarkovChainDistances$Transport"
  | 2 => .array (.array .long)
  | 3 => .array .long
  | _ => .int
theorem nmX3 : ∀ a, a < 5 → ∀ b, b < 5 → a ≠ b → (TX3 a).2.1 ≠ (TX3 b).2.1 := by decide +kernel
theorem tyX3_ok : ∀ k, k < 5 → parseFieldDescriptor (TX3 k).2.2.1 = some (tyX3 k) := by decide +kernel
abbrev cX3_init : ByteArray := prog_5_method_1_code
def yX3_init : MethodName := ⟨RX3, "<init>", "()V"⟩
abbrev cX3_levelFor : ByteArray := prog_5_method_2_code
def yX3_levelFor : MethodName := ⟨RX3, "levelFor", "(LMarkovChainDistances$Chain;I)[J"⟩
abbrev cX3_fillLevel : ByteArray := prog_5_method_3_code
def yX3_fillLevel : MethodName := ⟨RX3, "fillLevel", "(I)V"⟩
abbrev cX3_canonicalCoupling : ByteArray := prog_5_method_4_code
def yX3_canonicalCoupling : MethodName := ⟨RX3, "canonicalCoupling", "([JII)[I"⟩
abbrev cX3_inLowestTerms : ByteArray := prog_5_method_5_code
def yX3_inLowestTerms : MethodName := ⟨RX3, "inLowestTerms", "(JIZ)J"⟩
abbrev cX3_greatestCommonDivisor : ByteArray := prog_5_method_6_code
def yX3_greatestCommonDivisor : MethodName := ⟨RX3, "greatestCommonDivisor", "(JJ)J"⟩
def RX4 : String := "MarkovChainDistances$EditHistory"
def TX4 : u_T := fun k => match k with
  | 0 => ("MarkovChainDistances$EditHistory", "count", "I", false)
  | 1 => ("MarkovChainDistances$EditHistory", "next", "I", false)
  | _ => ("MarkovChainDistances$EditHistory", "before", "[LMarkovChainDistances$Chain;", true)
def tyX4 : Nat → FieldType := fun k => match k with
  | 0 => .int
  | 1 => .int
  | _ => .array (.object "MarkovChainDistances$Chain")
theorem nmX4 : ∀ a, a < 3 → ∀ b, b < 3 → a ≠ b → (TX4 a).2.1 ≠ (TX4 b).2.1 := by decide +kernel
theorem tyX4_ok : ∀ k, k < 3 → parseFieldDescriptor (TX4 k).2.2.1 = some (tyX4 k) := by decide +kernel
abbrev cX4_init : ByteArray := prog_6_method_1_code
def yX4_init : MethodName := ⟨RX4, "<init>", "()V"⟩
abbrev cX4_remember : ByteArray := prog_6_method_2_code
def yX4_remember : MethodName := ⟨RX4, "remember", "(LMarkovChainDistances$Chain;)V"⟩
abbrev cX4_takeLast : ByteArray := prog_6_method_3_code
def yX4_takeLast : MethodName := ⟨RX4, "takeLast", "(LMarkovChainDistances$Chain;)V"⟩
abbrev cX4_forgetAll : ByteArray := prog_6_method_4_code
def yX4_forgetAll : MethodName := ⟨RX4, "forgetAll", "()V"⟩
def RX5 : String := "MarkovChainDistances$InputBuffer"
def TX5 : u_T := fun k => match k with
  | 0 => ("MarkovChainDistances$InputBuffer", "length", "I", false)
  | _ => ("MarkovChainDistances$InputBuffer", "signs", "[I", true)
def tyX5 : Nat → FieldType := fun k => match k with
  | 0 => .int
  | _ => .array .int
theorem nmX5 : ∀ a, a < 2 → ∀ b, b < 2 → a ≠ b → (TX5 a).2.1 ≠ (TX5 b).2.1 := by decide +kernel
theorem tyX5_ok : ∀ k, k < 2 → parseFieldDescriptor (TX5 k).2.2.1 = some (tyX5 k) := by decide +kernel
abbrev cX5_init : ByteArray := prog_7_method_1_code
def yX5_init : MethodName := ⟨RX5, "<init>", "()V"⟩
abbrev cX5_add : ByteArray := prog_7_method_2_code
def yX5_add : MethodName := ⟨RX5, "add", "(I)V"⟩
abbrev cX5_empty : ByteArray := prog_7_method_3_code
def yX5_empty : MethodName := ⟨RX5, "empty", "()V"⟩
abbrev cX5_holdsAt : ByteArray := prog_7_method_4_code
def yX5_holdsAt : MethodName := ⟨RX5, "holdsAt", "(IC)Z"⟩
abbrev cX5_digitAt : ByteArray := prog_7_method_5_code
def yX5_digitAt : MethodName := ⟨RX5, "digitAt", "(I)I"⟩
abbrev cX5_isLabelSequence : ByteArray := prog_7_method_6_code
def yX5_isLabelSequence : MethodName := ⟨RX5, "isLabelSequence", "()Z"⟩
def RX6 : String := "MarkovChainDistances$Partition"
def TX6 : u_T := fun k => match k with
  | 0 => ("MarkovChainDistances$Partition", "classCount", "I", false)
  | 1 => ("MarkovChainDistances$Partition", "classOf", "[I", true)
  | _ => ("MarkovChainDistances$Partition", "nextClassOf", "[I", true)
def tyX6 : Nat → FieldType := fun k => match k with
  | 0 => .int
  | 1 => .array .int
  | _ => .array .int
theorem nmX6 : ∀ a, a < 3 → ∀ b, b < 3 → a ≠ b → (TX6 a).2.1 ≠ (TX6 b).2.1 := by decide +kernel
theorem tyX6_ok : ∀ k, k < 3 → parseFieldDescriptor (TX6 k).2.2.1 = some (tyX6 k) := by decide +kernel
abbrev cX6_init : ByteArray := prog_8_method_1_code
def yX6_init : MethodName := ⟨RX6, "<init>", "()V"⟩
abbrev cX6_refineFully : ByteArray := prog_8_method_2_code
def yX6_refineFully : MethodName := ⟨RX6, "refineFully", "(LMarkovChainDistances$Chain;)V"⟩
abbrev cX6_refineOnce : ByteArray := prog_8_method_3_code
def yX6_refineOnce : MethodName := ⟨RX6, "refineOnce", "(LMarkovChainDistances$Chain;)V"⟩
abbrev cX6_agree : ByteArray := prog_8_method_4_code
def yX6_agree : MethodName := ⟨RX6, "agree", "(LMarkovChainDistances$Chain;II)Z"⟩
abbrev cX6_weightToClass : ByteArray := prog_8_method_5_code
def yX6_weightToClass : MethodName := ⟨RX6, "weightToClass", "(LMarkovChainDistances$Chain;II)I"⟩
abbrev cX6_writeQuotient : ByteArray := prog_8_method_6_code
def yX6_writeQuotient : MethodName := ⟨RX6, "writeQuotient", "(LMarkovChainDistances$Chain;LMarkovChainDistances$Chain;)V"⟩
def RX7 : String := "MarkovChainDistances$PathCounter"
def TX7 : u_T := fun k => match k with
  | 0 => ("MarkovChainDistances$PathCounter", "sums", "[J", true)
  | _ => ("MarkovChainDistances$PathCounter", "nextSums", "[J", true)
def tyX7 : Nat → FieldType := fun k => match k with
  | 0 => .array .long
  | _ => .array .long
theorem nmX7 : ∀ a, a < 2 → ∀ b, b < 2 → a ≠ b → (TX7 a).2.1 ≠ (TX7 b).2.1 := by decide +kernel
theorem tyX7_ok : ∀ k, k < 2 → parseFieldDescriptor (TX7 k).2.2.1 = some (tyX7 k) := by decide +kernel
abbrev cX7_init : ByteArray := prog_9_method_1_code
def yX7_init : MethodName := ⟨RX7, "<init>", "()V"⟩
abbrev cX7_countReaching : ByteArray := prog_9_method_2_code
def yX7_countReaching : MethodName := ⟨RX7, "countReaching", "(LMarkovChainDistances$Chain;III)J"⟩
abbrev cX7_countFirstReaching : ByteArray := prog_9_method_3_code
def yX7_countFirstReaching : MethodName := ⟨RX7, "countFirstReaching", "(LMarkovChainDistances$Chain;III)J"⟩
abbrev cX7_countSequence : ByteArray := prog_9_method_4_code
def yX7_countSequence : MethodName := ⟨RX7, "countSequence", "(LMarkovChainDistances$Chain;ILMarkovChainDistances$InputBuffer;)J"⟩
abbrev cX7_markTargets : ByteArray := prog_9_method_5_code
def yX7_markTargets : MethodName := ⟨RX7, "markTargets", "(LMarkovChainDistances$Chain;I)V"⟩
abbrev cX7_isTarget : ByteArray := prog_9_method_6_code
def yX7_isTarget : MethodName := ⟨RX7, "isTarget", "(LMarkovChainDistances$Chain;II)Z"⟩
abbrev cX7_stepBack : ByteArray := prog_9_method_7_code
def yX7_stepBack : MethodName := ⟨RX7, "stepBack", "(LMarkovChainDistances$Chain;)V"⟩
def RX8 : String := "MarkovChainDistances$Transport"
def TX8 : u_T := fun k => match k with
  | 0 => ("MarkovChainDistances$Transport", "flow", "[I", true)
  | 1 => ("MarkovChainDistances$Transport", "size", "I", false)
  | 2 => ("MarkovChainDistances$Transport", "costs", "[J", true)
  | 3 => ("MarkovChainDistances$Transport", "supply", "[I", true)
  | 4 => ("MarkovChainDistances$Transport", "demand", "[I", true)
  | 5 => ("MarkovChainDistances$Transport", "rowDistance", "[J", true)
  | 6 => ("MarkovChainDistances$Transport", "columnDistance", "[J", true)
  | 7 => ("MarkovChainDistances$Transport", "columnBefore", "[I", true)
  | _ => ("MarkovChainDistances$Transport", "rowBefore", "[I", true)
def tyX8 : Nat → FieldType := fun k => match k with
  | 0 => .array .int
  | 1 => .int
  | 2 => .array .long
  | 3 => .array .int
  | 4 => .array .int
  | 5 => .array .long
  | 6 => .array .long
  | 7 => .array .int
  | _ => .array .int
theorem nmX8 : ∀ a, a < 9 → ∀ b, b < 9 → a ≠ b → (TX8 a).2.1 ≠ (TX8 b).2.1 := by decide +kernel
theorem tyX8_ok : ∀ k, k < 9 → parseFieldDescriptor (TX8 k).2.2.1 = some (tyX8 k) := by decide +kernel
abbrev cX8_init : ByteArray := prog_10_method_1_code
def yX8_init : MethodName := ⟨RX8, "<init>", "()V"⟩
abbrev cX8_useCosts : ByteArray := prog_10_method_2_code
def yX8_useCosts : MethodName := ⟨RX8, "useCosts", "([J)V"⟩
abbrev cX8_solve : ByteArray := prog_10_method_3_code
def yX8_solve : MethodName := ⟨RX8, "solve", "(LMarkovChainDistances$Chain;II)J"⟩
abbrev cX8_startOnDiagonal : ByteArray := prog_10_method_4_code
def yX8_startOnDiagonal : MethodName := ⟨RX8, "startOnDiagonal", "(LMarkovChainDistances$Chain;II)V"⟩
abbrev cX8_sendFrom : ByteArray := prog_10_method_5_code
def yX8_sendFrom : MethodName := ⟨RX8, "sendFrom", "(I)V"⟩
abbrev cX8_openColumn : ByteArray := prog_10_method_6_code
def yX8_openColumn : MethodName := ⟨RX8, "openColumn", "()I"⟩
abbrev cX8_makeCanonical : ByteArray := prog_10_method_7_code
def yX8_makeCanonical : MethodName := ⟨RX8, "makeCanonical", "()V"⟩
abbrev cX8_reduceEntry : ByteArray := prog_10_method_8_code
def yX8_reduceEntry : MethodName := ⟨RX8, "reduceEntry", "(II)V"⟩
abbrev cX8_findPaths : ByteArray := prog_10_method_9_code
def yX8_findPaths : MethodName := ⟨RX8, "findPaths", "(II)V"⟩
abbrev cX8_approachColumns : ByteArray := prog_10_method_10_code
def yX8_approachColumns : MethodName := ⟨RX8, "approachColumns", "(I)Z"⟩
abbrev cX8_approachRows : ByteArray := prog_10_method_11_code
def yX8_approachRows : MethodName := ⟨RX8, "approachRows", "(I)Z"⟩
abbrev cX8_slackOfPath : ByteArray := prog_10_method_12_code
def yX8_slackOfPath : MethodName := ⟨RX8, "slackOfPath", "(II)I"⟩
abbrev cX8_shiftAlongPath : ByteArray := prog_10_method_13_code
def yX8_shiftAlongPath : MethodName := ⟨RX8, "shiftAlongPath", "(II)V"⟩
def RX9 : String := "MarkovChainDistances"
def TX9 : u_T := fun k => match k with
  | 0 => ("MarkovChainDistances", "chain", "LMarkovChainDistances$Chain;", true)
  | 1 => ("MarkovChainDistances", "draft", "LMarkovChainDistances$Chain;", true)
  | 2 => ("MarkovChainDistances", "saved", "LMarkovChainDistances$Chain;", true)
  | 3 => ("MarkovChainDistances", "hasSaved", "Z", false)
  | 4 => ("MarkovChainDistances", "edits", "LMarkovChainDistances$EditHistory;", true)
  | 5 => ("MarkovChainDistances", "distances", "LMarkovChainDistances$Distances;", true)
  | 6 => ("MarkovChainDistances", "partition", "LMarkovChainDistances$Partition;", true)
  | 7 => ("MarkovChainDistances", "paths", "LMarkovChainDistances$PathCounter;", true)
  | 8 => ("MarkovChainDistances", "reader", "LMarkovChainDistances$ChainReader;", true)
  | 9 => ("MarkovChainDistances", "input", "LMarkovChainDistances$InputBuffer;", true)
  | _ => ("MarkovChainDistances", "arrays", "LMarkovChainDistances$ArraySlots;", true)
def tyX9 : Nat → FieldType := fun k => match k with
  | 0 => .object "MarkovChainDistances$Chain"
  | 1 => .object "MarkovChainDistances$Chain"
  | 2 => .object "MarkovChainDistances$Chain"
  | 3 => .boolean
  | 4 => .object "MarkovChainDistances$EditHistory"
  | 5 => .object "MarkovChainDistances$Distances"
  | 6 => .object "MarkovChainDistances$Partition"
  | 7 => .object "MarkovChainDistances$PathCounter"
  | 8 => .object "MarkovChainDistances$ChainReader"
  | 9 => .object "MarkovChainDistances$InputBuffer"
  | _ => .object "MarkovChainDistances$ArraySlots"
theorem nmX9 : ∀ a, a < 11 → ∀ b, b < 11 → a ≠ b → (TX9 a).2.1 ≠ (TX9 b).2.1 := by decide +kernel
theorem tyX9_ok : ∀ k, k < 11 → parseFieldDescriptor (TX9 k).2.2.1 = some (tyX9 k) := by decide +kernel
abbrev cX9_init : ByteArray := prog_1_method_1_code
def yX9_init : MethodName := ⟨RX9, "<init>", "()V"⟩
abbrev cX9_reset : ByteArray := prog_1_method_2_code
def yX9_reset : MethodName := ⟨RX9, "reset", "(II)I"⟩
abbrev cX9_states : ByteArray := prog_1_method_3_code
def yX9_states : MethodName := ⟨RX9, "states", "()I"⟩
abbrev cX9_resolution : ByteArray := prog_1_method_4_code
def yX9_resolution : MethodName := ⟨RX9, "resolution", "()I"⟩
abbrev cX9_setLabel : ByteArray := prog_1_method_5_code
def yX9_setLabel : MethodName := ⟨RX9, "setLabel", "(II)I"⟩
abbrev cX9_label : ByteArray := prog_1_method_6_code
def yX9_label : MethodName := ⟨RX9, "label", "(I)I"⟩
abbrev cX9_moveWeight : ByteArray := prog_1_method_7_code
def yX9_moveWeight : MethodName := ⟨RX9, "moveWeight", "(IIII)I"⟩
abbrev cX9_weight : ByteArray := prog_1_method_8_code
def yX9_weight : MethodName := ⟨RX9, "weight", "(II)I"⟩
abbrev cX9_setDiscount : ByteArray := prog_1_method_9_code
def yX9_setDiscount : MethodName := ⟨RX9, "setDiscount", "(II)I"⟩
abbrev cX9_swapStates : ByteArray := prog_1_method_10_code
def yX9_swapStates : MethodName := ⟨RX9, "swapStates", "(II)I"⟩
abbrev cX9_undo : ByteArray := prog_1_method_11_code
def yX9_undo : MethodName := ⟨RX9, "undo", "()I"⟩
abbrev cX9_editCount : ByteArray := prog_1_method_12_code
def yX9_editCount : MethodName := ⟨RX9, "editCount", "()I"⟩
abbrev cX9_maximumDepth : ByteArray := prog_1_method_13_code
def yX9_maximumDepth : MethodName := ⟨RX9, "maximumDepth", "()I"⟩
abbrev cX9_distanceNumerator : ByteArray := prog_1_method_14_code
def yX9_distanceNumerator : MethodName := ⟨RX9, "distanceNumerator", "(III)J"⟩
abbrev cX9_distanceDenominator : ByteArray := prog_1_method_15_code
def yX9_distanceDenominator : MethodName := ⟨RX9, "distanceDenominator", "(III)J"⟩
abbrev cX9_compareDistances : ByteArray := prog_1_method_16_code
def yX9_compareDistances : MethodName := ⟨RX9, "compareDistances", "(III)I"⟩
abbrev cX9_farthestPair : ByteArray := prog_1_method_17_code
def yX9_farthestPair : MethodName := ⟨RX9, "farthestPair", "(I)I"⟩
abbrev cX9_coupling : ByteArray := prog_1_method_18_code
def yX9_coupling : MethodName := ⟨RX9, "coupling", "(IIII)I"⟩
abbrev cX9_distributionDistance : ByteArray := prog_1_method_19_code
def yX9_distributionDistance : MethodName := ⟨RX9, "distributionDistance", "(III)I"⟩
abbrev cX9_totalVariation : ByteArray := prog_1_method_20_code
def yX9_totalVariation : MethodName := ⟨RX9, "totalVariation", "(II)I"⟩
abbrev cX9_largestDifference : ByteArray := prog_1_method_21_code
def yX9_largestDifference : MethodName := ⟨RX9, "largestDifference", "(II)I"⟩
abbrev cX9_cumulativeDistance : ByteArray := prog_1_method_22_code
def yX9_cumulativeDistance : MethodName := ⟨RX9, "cumulativeDistance", "(II)I"⟩
abbrev cX9_overlap : ByteArray := prog_1_method_23_code
def yX9_overlap : MethodName := ⟨RX9, "overlap", "(II)I"⟩
abbrev cX9_weightDifference : ByteArray := prog_1_method_24_code
def yX9_weightDifference : MethodName := ⟨RX9, "weightDifference", "(III)I"⟩
abbrev cX9_greatestDepth : ByteArray := prog_1_method_25_code
def yX9_greatestDepth : MethodName := ⟨RX9, "greatestDepth", "()I"⟩
abbrev cX9_hasDistance : ByteArray := prog_1_method_26_code
def yX9_hasDistance : MethodName := ⟨RX9, "hasDistance", "(III)Z"⟩
abbrev cX9_isPair : ByteArray := prog_1_method_27_code
def yX9_isPair : MethodName := ⟨RX9, "isPair", "(I)Z"⟩
abbrev cX9_cellOfPair : ByteArray := prog_1_method_28_code
def yX9_cellOfPair : MethodName := ⟨RX9, "cellOfPair", "(I)I"⟩
abbrev cX9_isWithin : ByteArray := prog_1_method_29_code
def yX9_isWithin : MethodName := ⟨RX9, "isWithin", "(III)Z"⟩
abbrev cX9_bisimulationClass : ByteArray := prog_1_method_30_code
def yX9_bisimulationClass : MethodName := ⟨RX9, "bisimulationClass", "(I)I"⟩
abbrev cX9_bisimulationClassCount : ByteArray := prog_1_method_31_code
def yX9_bisimulationClassCount : MethodName := ⟨RX9, "bisimulationClassCount", "()I"⟩
abbrev cX9_minimize : ByteArray := prog_1_method_32_code
def yX9_minimize : MethodName := ⟨RX9, "minimize", "()I"⟩
abbrev cX9_reachWeight : ByteArray := prog_1_method_33_code
def yX9_reachWeight : MethodName := ⟨RX9, "reachWeight", "(III)J"⟩
abbrev cX9_firstReachWeight : ByteArray := prog_1_method_34_code
def yX9_firstReachWeight : MethodName := ⟨RX9, "firstReachWeight", "(III)J"⟩
abbrev cX9_sequenceWeight : ByteArray := prog_1_method_35_code
def yX9_sequenceWeight : MethodName := ⟨RX9, "sequenceWeight", "(I)J"⟩
abbrev cX9_sample : ByteArray := prog_1_method_36_code
def yX9_sample : MethodName := ⟨RX9, "sample", "(III)I"⟩
abbrev cX9_sampledVisits : ByteArray := prog_1_method_37_code
def yX9_sampledVisits : MethodName := ⟨RX9, "sampledVisits", "(IIII)I"⟩
abbrev cX9_nextSeed : ByteArray := prog_1_method_38_code
def yX9_nextSeed : MethodName := ⟨RX9, "nextSeed", "(I)I"⟩
abbrev cX9_append : ByteArray := prog_1_method_39_code
def yX9_append : MethodName := ⟨RX9, "append", "(II)I"⟩
abbrev cX9_byteAt : ByteArray := prog_1_method_40_code
def yX9_byteAt : MethodName := ⟨RX9, "byteAt", "(II)I"⟩
abbrev cX9_clearInput : ByteArray := prog_1_method_41_code
def yX9_clearInput : MethodName := ⟨RX9, "clearInput", "()I"⟩
abbrev cX9_parse : ByteArray := prog_1_method_42_code
def yX9_parse : MethodName := ⟨RX9, "parse", "()I"⟩
abbrev cX9_allocate : ByteArray := prog_1_method_43_code
def yX9_allocate : MethodName := ⟨RX9, "allocate", "(III)I"⟩
abbrev cX9_release : ByteArray := prog_1_method_44_code
def yX9_release : MethodName := ⟨RX9, "release", "(I)I"⟩
abbrev cX9_putElement : ByteArray := prog_1_method_45_code
def yX9_putElement : MethodName := ⟨RX9, "putElement", "(IIJ)I"⟩
abbrev cX9_element : ByteArray := prog_1_method_46_code
def yX9_element : MethodName := ⟨RX9, "element", "(II)J"⟩
abbrev cX9_copyElements : ByteArray := prog_1_method_47_code
def yX9_copyElements : MethodName := ⟨RX9, "copyElements", "(IIIII)I"⟩
abbrev cX9_compareWithArray : ByteArray := prog_1_method_48_code
def yX9_compareWithArray : MethodName := ⟨RX9, "compareWithArray", "(I)I"⟩
abbrev cX9_isSlot : ByteArray := prog_1_method_49_code
def yX9_isSlot : MethodName := ⟨RX9, "isSlot", "(I)Z"⟩
abbrev cX9_snapshot : ByteArray := prog_1_method_50_code
def yX9_snapshot : MethodName := ⟨RX9, "snapshot", "()I"⟩
abbrev cX9_restore : ByteArray := prog_1_method_51_code
def yX9_restore : MethodName := ⟨RX9, "restore", "()I"⟩
def RX10 : String := "MarkovChainDistancesModel"
def TX10 : u_T := fun k => match k with
  | 0 => ("MarkovChainDistancesModel", "now", "[I", true)
  | 1 => ("MarkovChainDistancesModel", "edits", "[I", true)
  | 2 => ("MarkovChainDistancesModel", "editCount", "I", false)
  | 3 => ("MarkovChainDistancesModel", "saved", "[I", true)
  | 4 => ("MarkovChainDistancesModel", "hasSnapshot", "Z", false)
  | 5 => ("MarkovChainDistancesModel", "before", "[I", true)
  | 6 => ("MarkovChainDistancesModel", "distance", "[J", true)
  | 7 => ("MarkovChainDistancesModel", "next", "[J", true)
  | 8 => ("MarkovChainDistancesModel", "flow", "[I", true)
  | 9 => ("MarkovChainDistancesModel", "fixed", "[Z", true)
  | 10 => ("MarkovChainDistancesModel", "reach", "[J", true)
  | 11 => ("MarkovChainDistancesModel", "cameFrom", "[I", true)
  | 12 => ("MarkovChainDistancesModel", "classOf", "[I", true)
  | 13 => ("MarkovChainDistancesModel", "refined", "[I", true)
  | 14 => ("MarkovChainDistancesModel", "classCount", "I", false)
  | 15 => ("MarkovChainDistancesModel", "paths", "[J", true)
  | 16 => ("MarkovChainDistancesModel", "longer", "[J", true)
  | 17 => ("MarkovChainDistancesModel", "buffer", "[I", true)
  | 18 => ("MarkovChainDistancesModel", "length", "I", false)
  | 19 => ("MarkovChainDistancesModel", "visits", "I", false)
  | 20 => ("MarkovChainDistancesModel", "position", "I", false)
  | 21 => ("MarkovChainDistancesModel", "isMalformed", "Z", false)
  | 22 => ("MarkovChainDistancesModel", "parsedResolution", "I", false)
  | 23 => ("MarkovChainDistancesModel", "parsedStates", "I", false)
  | 24 => ("MarkovChainDistancesModel", "parsedLabel", "[I", true)
  | 25 => ("MarkovChainDistancesModel", "parsedWeight", "[I", true)
  | 26 => ("MarkovChainDistancesModel", "wrongSuccessor", "[Z", true)
  | 27 => ("MarkovChainDistancesModel", "kinds", "[I", true)
  | 28 => ("MarkovChainDistancesModel", "sizes", "[I", true)
  | _ => ("MarkovChainDistancesModel", "elements", "[J", true)
def tyX10 : Nat → FieldType := fun k => match k with
  | 0 => .array .int
  | 1 => .array .int
  | 2 => .int
  | 3 => .array .int
  | 4 => .boolean
  | 5 => .array .int
  | 6 => .array .long
  | 7 => .array .long
  | 8 => .array .int
  | 9 => .array .boolean
  | 10 => .array .long
  | 11 => .array .int
  | 12 => .array .int
  | 13 => .array .int
  | 14 => .int
  | 15 => .array .long
  | 16 => .array .long
  | 17 => .array .int
  | 18 => .int
  | 19 => .int
  | 20 => .int
  | 21 => .boolean
  | 22 => .int
  | 23 => .int
  | 24 => .array .int
  | 25 => .array .int
  | 26 => .array .boolean
  | 27 => .array .int
  | 28 => .array .int
  | _ => .array .long
theorem nmX10 : ∀ a, a < 30 → ∀ b, b < 30 → a ≠ b → (TX10 a).2.1 ≠ (TX10 b).2.1 := by decide +kernel
theorem tyX10_ok : ∀ k, k < 30 → parseFieldDescriptor (TX10 k).2.2.1 = some (tyX10 k) := by decide +kernel
abbrev cX10_init : ByteArray := prog_12_method_1_code
def yX10_init : MethodName := ⟨RX10, "<init>", "()V"⟩
abbrev cX10_in : ByteArray := prog_12_method_2_code
def yX10_in : MethodName := ⟨RX10, "in", "(JJJ)Z"⟩
abbrev cX10_isState : ByteArray := prog_12_method_3_code
def yX10_isState : MethodName := ⟨RX10, "isState", "(I)Z"⟩
abbrev cX10_w : ByteArray := prog_12_method_4_code
def yX10_w : MethodName := ⟨RX10, "w", "(II)I"⟩
abbrev cX10_setWeight : ByteArray := prog_12_method_5_code
def yX10_setWeight : MethodName := ⟨RX10, "setWeight", "(III)V"⟩
abbrev cX10_initialize : ByteArray := prog_12_method_6_code
def yX10_initialize : MethodName := ⟨RX10, "\x69nitialize", "(II)V"⟩
abbrev cX10_reset : ByteArray := prog_12_method_7_code
def yX10_reset : MethodName := ⟨RX10, "reset", "(II)I"⟩
abbrev cX10_states : ByteArray := prog_12_method_8_code
def yX10_states : MethodName := ⟨RX10, "states", "()I"⟩
abbrev cX10_resolution : ByteArray := prog_12_method_9_code
def yX10_resolution : MethodName := ⟨RX10, "resolution", "()I"⟩
abbrev cX10_begin : ByteArray := prog_12_method_10_code
def yX10_begin : MethodName := ⟨RX10, "begin", "()V"⟩
abbrev cX10_record : ByteArray := prog_12_method_11_code
def yX10_record : MethodName := ⟨RX10, "record", "()Z"⟩
abbrev cX10_setLabel : ByteArray := prog_12_method_12_code
def yX10_setLabel : MethodName := ⟨RX10, "setLabel", "(II)I"⟩
abbrev cX10_label : ByteArray := prog_12_method_13_code
def yX10_label : MethodName := ⟨RX10, "label", "(I)I"⟩
abbrev cX10_moveWeight : ByteArray := prog_12_method_14_code
def yX10_moveWeight : MethodName := ⟨RX10, "moveWeight", "(IIII)I"⟩
abbrev cX10_weight : ByteArray := prog_12_method_15_code
def yX10_weight : MethodName := ⟨RX10, "weight", "(II)I"⟩
abbrev cX10_setDiscount : ByteArray := prog_12_method_16_code
def yX10_setDiscount : MethodName := ⟨RX10, "setDiscount", "(II)I"⟩
abbrev cX10_swapStates : ByteArray := prog_12_method_17_code
def yX10_swapStates : MethodName := ⟨RX10, "swapStates", "(II)I"⟩
abbrev cX10_undo : ByteArray := prog_12_method_18_code
def yX10_undo : MethodName := ⟨RX10, "undo", "()I"⟩
abbrev cX10_editCount : ByteArray := prog_12_method_19_code
def yX10_editCount : MethodName := ⟨RX10, "editCount", "()I"⟩
abbrev cX10_unit : ByteArray := prog_12_method_20_code
def yX10_unit : MethodName := ⟨RX10, "unit", "()I"⟩
abbrev cX10_scale : ByteArray := prog_12_method_21_code
def yX10_scale : MethodName := ⟨RX10, "scale", "(I)J"⟩
abbrev cX10_maximumDepth : ByteArray := prog_12_method_22_code
def yX10_maximumDepth : MethodName := ⟨RX10, "maximumDepth", "()I"⟩
abbrev cX10_d : ByteArray := prog_12_method_23_code
def yX10_d : MethodName := ⟨RX10, "d", "(II)J"⟩
abbrev cX10_computeDistances : ByteArray := prog_12_method_24_code
def yX10_computeDistances : MethodName := ⟨RX10, "computeDistances", "(I)V"⟩
abbrev cX10_f : ByteArray := prog_12_method_25_code
def yX10_f : MethodName := ⟨RX10, "f", "(II)I"⟩
abbrev cX10_fill : ByteArray := prog_12_method_26_code
def yX10_fill : MethodName := ⟨RX10, "fill", "(II)V"⟩
abbrev cX10_relax : ByteArray := prog_12_method_27_code
def yX10_relax : MethodName := ⟨RX10, "relax", "()I"⟩
abbrev cX10_shift : ByteArray := prog_12_method_28_code
def yX10_shift : MethodName := ⟨RX10, "shift", "(II)V"⟩
abbrev cX10_cancel : ByteArray := prog_12_method_29_code
def yX10_cancel : MethodName := ⟨RX10, "cancel", "()Z"⟩
abbrev cX10_optimize : ByteArray := prog_12_method_30_code
def yX10_optimize : MethodName := ⟨RX10, "optimize", "(II)V"⟩
abbrev cX10_minimumCost : ByteArray := prog_12_method_31_code
def yX10_minimumCost : MethodName := ⟨RX10, "minimumCost", "(II)J"⟩
abbrev cX10_lower : ByteArray := prog_12_method_32_code
def yX10_lower : MethodName := ⟨RX10, "lower", "(II)Z"⟩
abbrev cX10_canonicalCoupling : ByteArray := prog_12_method_33_code
def yX10_canonicalCoupling : MethodName := ⟨RX10, "canonicalCoupling", "(II)V"⟩
abbrev cX10_isDepth : ByteArray := prog_12_method_34_code
def yX10_isDepth : MethodName := ⟨RX10, "isDepth", "(I)Z"⟩
abbrev cX10_divisor : ByteArray := prog_12_method_35_code
def yX10_divisor : MethodName := ⟨RX10, "divisor", "(JJ)J"⟩
abbrev cX10_fraction : ByteArray := prog_12_method_36_code
def yX10_fraction : MethodName := ⟨RX10, "fraction", "(IIIZ)J"⟩
abbrev cX10_distanceNumerator : ByteArray := prog_12_method_37_code
def yX10_distanceNumerator : MethodName := ⟨RX10, "distanceNumerator", "(III)J"⟩
abbrev cX10_distanceDenominator : ByteArray := prog_12_method_38_code
def yX10_distanceDenominator : MethodName := ⟨RX10, "distanceDenominator", "(III)J"⟩
abbrev cX10_isPair : ByteArray := prog_12_method_39_code
def yX10_isPair : MethodName := ⟨RX10, "isPair", "(I)Z"⟩
abbrev cX10_compareDistances : ByteArray := prog_12_method_40_code
def yX10_compareDistances : MethodName := ⟨RX10, "compareDistances", "(III)I"⟩
abbrev cX10_farthestPair : ByteArray := prog_12_method_41_code
def yX10_farthestPair : MethodName := ⟨RX10, "farthestPair", "(I)I"⟩
abbrev cX10_coupling : ByteArray := prog_12_method_42_code
def yX10_coupling : MethodName := ⟨RX10, "coupling", "(IIII)I"⟩
abbrev cX10_distributionDistance : ByteArray := prog_12_method_43_code
def yX10_distributionDistance : MethodName := ⟨RX10, "distributionDistance", "(III)I"⟩
abbrev cX10_weightToClass : ByteArray := prog_12_method_44_code
def yX10_weightToClass : MethodName := ⟨RX10, "weightToClass", "(II)I"⟩
abbrev cX10_areAlike : ByteArray := prog_12_method_45_code
def yX10_areAlike : MethodName := ⟨RX10, "areAlike", "(II)Z"⟩
abbrev cX10_number : ByteArray := prog_12_method_46_code
def yX10_number : MethodName := ⟨RX10, "number", "(Z)I"⟩
abbrev cX10_computeClasses : ByteArray := prog_12_method_47_code
def yX10_computeClasses : MethodName := ⟨RX10, "computeClasses", "()V"⟩
abbrev cX10_bisimulationClass : ByteArray := prog_12_method_48_code
def yX10_bisimulationClass : MethodName := ⟨RX10, "bisimulationClass", "(I)I"⟩
abbrev cX10_bisimulationClassCount : ByteArray := prog_12_method_49_code
def yX10_bisimulationClassCount : MethodName := ⟨RX10, "bisimulationClassCount", "()I"⟩
abbrev cX10_minimize : ByteArray := prog_12_method_50_code
def yX10_minimize : MethodName := ⟨RX10, "minimize", "()I"⟩
abbrev cX10_isIn : ByteArray := prog_12_method_51_code
def yX10_isIn : MethodName := ⟨RX10, "isIn", "(II)Z"⟩
abbrev cX10_step : ByteArray := prog_12_method_52_code
def yX10_step : MethodName := ⟨RX10, "step", "()V"⟩
abbrev cX10_isQuery : ByteArray := prog_12_method_53_code
def yX10_isQuery : MethodName := ⟨RX10, "isQuery", "(III)Z"⟩
abbrev cX10_reachWeight : ByteArray := prog_12_method_54_code
def yX10_reachWeight : MethodName := ⟨RX10, "reachWeight", "(III)J"⟩
abbrev cX10_firstReachWeight : ByteArray := prog_12_method_55_code
def yX10_firstReachWeight : MethodName := ⟨RX10, "firstReachWeight", "(III)J"⟩
abbrev cX10_sequenceWeight : ByteArray := prog_12_method_56_code
def yX10_sequenceWeight : MethodName := ⟨RX10, "sequenceWeight", "(I)J"⟩
abbrev cX10_walk : ByteArray := prog_12_method_57_code
def yX10_walk : MethodName := ⟨RX10, "walk", "(IIII)I"⟩
abbrev cX10_sample : ByteArray := prog_12_method_58_code
def yX10_sample : MethodName := ⟨RX10, "sample", "(III)I"⟩
abbrev cX10_sampledVisits : ByteArray := prog_12_method_59_code
def yX10_sampledVisits : MethodName := ⟨RX10, "sampledVisits", "(IIII)I"⟩
abbrev cX10_append : ByteArray := prog_12_method_60_code
def yX10_append : MethodName := ⟨RX10, "append", "(II)I"⟩
abbrev cX10_clearInput : ByteArray := prog_12_method_61_code
def yX10_clearInput : MethodName := ⟨RX10, "clearInput", "()I"⟩
abbrev cX10_isNext : ByteArray := prog_12_method_62_code
def yX10_isNext : MethodName := ⟨RX10, "isNext", "(II)Z"⟩
abbrev cX10_accept : ByteArray := prog_12_method_63_code
def yX10_accept : MethodName := ⟨RX10, "accept", "(I)Z"⟩
abbrev cX10_expect : ByteArray := prog_12_method_64_code
def yX10_expect : MethodName := ⟨RX10, "expect", "(I)V"⟩
abbrev cX10_number_ : ByteArray := prog_12_method_65_code
def yX10_number_ : MethodName := ⟨RX10, "number", "(I)I"⟩
abbrev cX10_parseState : ByteArray := prog_12_method_66_code
def yX10_parseState : MethodName := ⟨RX10, "parseState", "()V"⟩
abbrev cX10_parseChain : ByteArray := prog_12_method_67_code
def yX10_parseChain : MethodName := ⟨RX10, "parseChain", "()V"⟩
abbrev cX10_isConsistent : ByteArray := prog_12_method_68_code
def yX10_isConsistent : MethodName := ⟨RX10, "isConsistent", "()Z"⟩
abbrev cX10_hasWrongSuccessor : ByteArray := prog_12_method_69_code
def yX10_hasWrongSuccessor : MethodName := ⟨RX10, "hasWrongSuccessor", "(I)Z"⟩
abbrev cX10_findWrongSuccessors : ByteArray := prog_12_method_70_code
def yX10_findWrongSuccessors : MethodName := ⟨RX10, "findWrongSuccessors", "()V"⟩
abbrev cX10_parse : ByteArray := prog_12_method_71_code
def yX10_parse : MethodName := ⟨RX10, "parse", "()I"⟩
abbrev cX10_isSlot : ByteArray := prog_12_method_72_code
def yX10_isSlot : MethodName := ⟨RX10, "isSlot", "(I)Z"⟩
abbrev cX10_allocate : ByteArray := prog_12_method_73_code
def yX10_allocate : MethodName := ⟨RX10, "allocate", "(III)I"⟩
abbrev cX10_release : ByteArray := prog_12_method_74_code
def yX10_release : MethodName := ⟨RX10, "release", "(I)I"⟩
abbrev cX10_narrow : ByteArray := prog_12_method_75_code
def yX10_narrow : MethodName := ⟨RX10, "narrow", "(IJ)J"⟩
abbrev cX10_putElement : ByteArray := prog_12_method_76_code
def yX10_putElement : MethodName := ⟨RX10, "putElement", "(IIJ)I"⟩
abbrev cX10_element : ByteArray := prog_12_method_77_code
def yX10_element : MethodName := ⟨RX10, "element", "(II)J"⟩
abbrev cX10_copyElements : ByteArray := prog_12_method_78_code
def yX10_copyElements : MethodName := ⟨RX10, "copyElements", "(IIIII)I"⟩
abbrev cX10_compareWithArray : ByteArray := prog_12_method_79_code
def yX10_compareWithArray : MethodName := ⟨RX10, "compareWithArray", "(I)I"⟩
abbrev cX10_snapshot : ByteArray := prog_12_method_80_code
def yX10_snapshot : MethodName := ⟨RX10, "snapshot", "()I"⟩
abbrev cX10_restore : ByteArray := prog_12_method_81_code
def yX10_restore : MethodName := ⟨RX10, "restore", "()I"⟩
def RJ9 : String := "java/lang/Math"
def TJ9 : u_T := fun k => match k with
  | _ => ("", "", "", false)
def tyJ9 : Nat → FieldType := fun k => match k with
  | _ => .int
abbrev wsJ90 : List Cond := u_ws RJ9 TJ9 0
theorem nmJ9 : ∀ a, a < 0 → ∀ b, b < 0 → a ≠ b → (TJ9 a).2.1 ≠ (TJ9 b).2.1 := by decide +kernel
theorem tyJ9_ok : ∀ k, k < 0 → parseFieldDescriptor (TJ9 k).2.2.1 = some (tyJ9 k) := by decide +kernel
abbrev cJ9_abs_0f7a4 : ByteArray := prog_13_method_59_code
def yJ9_abs_0f7a4 : MethodName := ⟨RJ9, "abs", "(I)I"⟩
abbrev cJ9_max_7cf53 : ByteArray := prog_13_method_65_code
def yJ9_max_7cf53 : MethodName := ⟨RJ9, "max", "(II)I"⟩
abbrev cJ9_min_7cf53 : ByteArray := prog_13_method_69_code
def yJ9_min_7cf53 : MethodName := ⟨RJ9, "min", "(II)I"⟩
def RJ10 : String := "java/lang/System"
def TJ10 : u_T := fun k => match k with
  | _ => ("", "", "", false)
def tyJ10 : Nat → FieldType := fun k => match k with
  | _ => .int
abbrev wsJ100 : List Cond := u_ws RJ10 TJ10 0
theorem nmJ10 : ∀ a, a < 0 → ∀ b, b < 0 → a ≠ b → (TJ10 a).2.1 ≠ (TJ10 b).2.1 := by decide +kernel
theorem tyJ10_ok : ∀ k, k < 0 → parseFieldDescriptor (TJ10 k).2.2.1 = some (tyJ10 k) := by decide +kernel
def RL : String := "MarkovChainDistancesLaw"
abbrev cL_law : ByteArray := code
def yL_law : MethodName := ⟨RL, "law", "([I)Z"⟩
def vwCl : List vw_C := [(RX0, TX0, 3), (RX1, TX1, 6), (RX2, TX2, 8), (RX3, TX3, 5), (RX4, TX4, 3), (RX5, TX5, 2), (RX6, TX6, 3), (RX7, TX7, 2), (RX8, TX8, 9), (RX9, TX9, 11), (RX10, TX10, 30)]
end
section
/-! THE ABSTRACT MACHINE: values with abstract addresses (0: the script; 1, 2, ..: the cells made since the law's start), a heap of typed rows, instructions as functions -/
abbrev aI : Type := Nat → Nat → Int32
abbrev aJ : Type := Nat → Nat → Int64
/-- how many cells; each cell's kind (0 object of a kind, 1 ints, 2 longs, 3 booleans, 4 chains, 5 rows of longs) and size; the references (0: null) -/
abbrev aE : Type := Nat × (Nat → Nat × Nat) × (Nat → Nat → Nat)
abbrev aLo : Type := List (Option Value)
abbrev aS : Type := aLo × List Value × aI × aJ
abbrev aOp : Type := aE → aS → Option (aS × List Prop)
/-- a method: its name, code, locals, answer; the script (the law's alone) -/
abbrev aM : Type := MethodName × ByteArray × Nat × Option FieldType × Option (Nat × (Nat → Int32))
def aUp (I : aI) (a k : Nat) (v : Int32) : aI := fun b j => if b = a ∧ j = k then v else I b j
def aUpJ (J : aJ) (a k : Nat) (v : Int64) : aJ := fun b j => if b = a ∧ j = k then v else J b j
def aRw (I : aI) (a : Nat) (f : Nat → Int32) : aI := fun b j => if b = a then f j else I b j
def aRwJ (J : aJ) (a : Nat) (f : Nat → Int64) : aJ := fun b j => if b = a then f j else J b j
def tv (ad : Nat → Nat) : Value → Value
  | .ref r => .ref (ad r)
  | v => v
theorem tv_cat (ad : Nat → Nat) (v : Value) : (tv ad v).category = v.category := by cases v <;> rfl
def aLs (ad : Nat → Nat) (lo : aLo) : List (Nat × Value) := (List.range lo.length).filterMap (fun i => match lo[i]? with
  | some (some v) => some (i, tv ad v)
  | _ => none)
theorem aLs_mem {ad : Nat → Nat} {lo : aLo} {q : Nat × Value} : q ∈ aLs ad lo ↔ ∃ v, lo[q.1]? = some (some v) ∧ q.2 = tv ad v := by
  unfold aLs
  rw [List.mem_filterMap]
  constructor
  · rintro ⟨i, -, h⟩
    split at h
    · rename_i v hv
      cases h
      exact ⟨v, hv, rfl⟩
    · cases h
  · rintro ⟨v, h1, h2⟩
    refine ⟨q.1, List.mem_range.mpr (List.getElem?_eq_some_iff.mp h1).1, ?_⟩
    rw [h1]
    show some (q.1, tv ad v) = some q
    rw [← h2]
def aL (ad : Nat → Nat) (ls : Array Slot) (nL : Nat) (lo : aLo) : Prop := lo.length = nL ∧ lv_has ls nL (aLs ad lo)
theorem aL_at {ad : Nat → Nat} {ls : Array Slot} {nL : Nat} {lo : aLo} (h : aL ad ls nL lo) {i : Nat} {v : Value} (hv : lo[i]? = some (some v)) : ls[i]? = some (.val (tv ad v)) := h.2.2.2 (i, tv ad v) (aLs_mem.mpr ⟨v, hv, rfl⟩)
def aOk1 (lo : aLo) : Nat → Bool
  | 0 => true
  | j + 1 => match lo[j]? with
    | some (some w) => !(w.category == 2)
    | _ => true
theorem aOk1_not {lo : aLo} {i j : Nat} {w : Value} (h : aOk1 lo i = true) (hj : j + 1 = i) (hw : lo[j]? = some (some w)) : ¬ w.category = 2 := by
  subst hj
  have h : (match lo[j]? with
    | some (some w) => !(w.category == 2)
    | _ => true) = true := h
  rw [hw] at h
  intro q
  simp [q] at h
theorem aL_st1 {ad : Nat → Nat} {ls ls' : Array Slot} {nL : Nat} {lo : aLo} {i : Nat} {v : Value} (h : aL ad ls nL lo) (hk : aOk1 lo i = true) (hn : lv_has ls' nL ((i, tv ad v) :: (aLs ad lo).filter (fun q => !(q.1 == i) && !(q.1 + 1 == i && q.2.category == 2)))) : aL ad ls' nL (lo.set i (some v)) := by
  refine ⟨by rw [List.length_set]; exact h.1, hn.1, hn.2.1, fun q hq => hn.2.2 q ?_⟩
  obtain ⟨w, h1, h2⟩ := aLs_mem.mp hq
  by_cases e : i = q.1
  · have hl : q.1 < (lo.set i (some v)).length := (List.getElem?_eq_some_iff.mp h1).1
    rw [List.length_set] at hl
    rw [e, List.getElem?_set_self hl] at h1
    cases h1
    have : q = (i, tv ad v) := by rw [e, ← h2]
    rw [this]
    exact List.mem_cons_self
  · rw [List.getElem?_set_ne e] at h1
    refine List.mem_cons_of_mem _ (List.mem_filter.mpr ⟨aLs_mem.mpr ⟨w, h1, h2⟩, ?_⟩)
    have e1 : (q.1 == i) = false := by simpa using fun z => e z.symm
    rw [e1, h2, tv_cat]
    by_cases e2 : q.1 + 1 = i
    · have := aOk1_not hk e2 h1
      simp [this]
    · simp [e2]
theorem aL_st2 {ad : Nat → Nat} {ls ls' : Array Slot} {nL : Nat} {lo : aLo} {i : Nat} {v : Value} (h : aL ad ls nL lo) (hk : aOk1 lo i = true) (hn : lv_has ls' nL ((i, tv ad v) :: (aLs ad lo).filter (fun q => !(q.1 == i) && (!(q.1 == i + 1) && !(q.1 + 1 == i && q.2.category == 2))))) : aL ad ls' nL ((lo.set i (some v)).set (i + 1) none) := by
  refine ⟨by rw [List.length_set, List.length_set]; exact h.1, hn.1, hn.2.1, fun q hq => hn.2.2 q ?_⟩
  obtain ⟨w, h1, h2⟩ := aLs_mem.mp hq
  have hl : q.1 < ((lo.set i (some v)).set (i + 1) none).length := (List.getElem?_eq_some_iff.mp h1).1
  rw [List.length_set, List.length_set] at hl
  by_cases e0 : i + 1 = q.1
  · rw [e0, List.getElem?_set_self (by rw [List.length_set]; exact hl)] at h1
    cases h1
  rw [List.getElem?_set_ne e0] at h1
  by_cases e : i = q.1
  · rw [e, List.getElem?_set_self hl] at h1
    cases h1
    have : q = (i, tv ad v) := by rw [e, ← h2]
    rw [this]
    exact List.mem_cons_self
  · rw [List.getElem?_set_ne e] at h1
    refine List.mem_cons_of_mem _ (List.mem_filter.mpr ⟨aLs_mem.mpr ⟨w, h1, h2⟩, ?_⟩)
    have e1 : (q.1 == i) = false := by simpa using fun z => e z.symm
    have e3 : (q.1 == i + 1) = false := by simpa using fun z => e0 z.symm
    rw [e1, e3, h2, tv_cat]
    by_cases e2 : q.1 + 1 = i
    · have := aOk1_not hk e2 h1
      simp [this]
    · simp [e2]
/-- which fields of a kind are numbers (true) or references (false) -/
def aKd : Nat → List Bool
  | 0 => [false, false, false]
  | 1 => [true, true, true, true, false, false]
  | 2 => [false, true, true, true, true, true, false, false]
  | 3 => [false, false, false, false, true]
  | 4 => [true, true, false]
  | 5 => [true, false]
  | 6 => [true, false, false]
  | 7 => [false, false]
  | 8 => [false, true, false, false, false, false, false, false, false]
  | 9 => [false, false, false, true, false, false, false, false, false, false, false]
  | 10 => [false, false, true, false, true, false, false, false, false, false, false, false, false, false, true, false, false, false, true, true, true, true, true, true, false, false, false, false, false, false]
  | _ => []
def aRef (ad : Nat → Nat) (r : Nat) : Option Nat := if r = 0 then none else some (ad r)
def aFs (ad : Nat → Nat) (E : aE) (I : aI) (a : Nat) (ks : List Bool) : List Value := (List.range ks.length).map (fun k => if ks.getD k true = true then .int (I a k) else va_rf (aRef ad (E.2.2 a k)))
def aEnt (cA : Nat → ClassId) (ad : Nat → Nat) (E : aE) (I : aI) (J : aJ) (a : Nat) : va_E := match (E.2.1 a).1 with
  | 0 => .inr ((E.2.1 a).2, aFs ad E I a (aKd (E.2.1 a).2))
  | 1 => .inl (cA 1, (E.2.1 a).2, .inl (I a))
  | 2 => .inl (cA 2, (E.2.1 a).2, .inr (.inl (J a)))
  | 3 => .inl (cA 3, (E.2.1 a).2, .inl (I a))
  | 4 => .inl (cA 4, (E.2.1 a).2, .inr (.inr (.inr (.inr (fun j => aRef ad (E.2.2 a j))))))
  | _ => .inl (cA 5, (E.2.1 a).2, .inr (.inr (.inr (.inr (fun j => aRef ad (E.2.2 a j))))))
def aWs (cA : Nat → ClassId) (ad : Nat → Nat) (E : aE) (I : aI) (J : aJ) : va_W := (List.range E.1).map (fun p => (ad (p + 1), aEnt cA ad E I J (p + 1)))
/-- the cell is there -/
abbrev aIs (E : aE) (a : Nat) : Prop := 1 ≤ a ∧ a ≤ E.1
theorem aWs_at {cA : Nat → ClassId} {ad : Nat → Nat} {E : aE} {I : aI} {J : aJ} {a : Nat} (h : aIs E a) : (aWs cA ad E I J)[a - 1]? = some (ad a, aEnt cA ad E I J a) := by
  unfold aWs
  rw [List.getElem?_map, List.getElem?_range (by omega)]
  show some (ad (a - 1 + 1), aEnt cA ad E I J (a - 1 + 1)) = _
  rw [show a - 1 + 1 = a by omega]
theorem aWs_set {cA : Nat → ClassId} {ad : Nat → Nat} {E E' : aE} {I I' : aI} {J J' : aJ} {a : Nat} {e' : va_E} (hE : E'.1 = E.1) (he : aEnt cA ad E' I' J' a = e') (ho : ∀ b, b ≠ a → aEnt cA ad E' I' J' b = aEnt cA ad E I J b) (h : aIs E a) : (aWs cA ad E I J).set (a - 1) (ad a, e') = aWs cA ad E' I' J' := by
  apply List.ext_getElem?
  intro k
  by_cases hk : a - 1 = k
  · subst hk
    rw [List.getElem?_set_self (by unfold aWs; simp; omega), aWs_at (E := E') ⟨h.1, by rw [hE]; exact h.2⟩, he]
  · rw [List.getElem?_set_ne hk]
    unfold aWs
    rw [List.getElem?_map, List.getElem?_map, hE]
    by_cases hl : k < E.1
    · rw [List.getElem?_range hl]
      show some (ad (k + 1), _) = some (ad (k + 1), _)
      rw [ho (k + 1) (by omega)]
    · rw [List.getElem?_eq_none (by rw [List.length_range]; omega)]
      rfl
theorem aWs_new {cA : Nat → ClassId} {ad ad' : Nat → Nat} {E E' : aE} {I I' : aI} {J J' : aJ} {q : Nat} {e' : va_E} (hE : E'.1 = E.1 + 1) (hq : ad' (E.1 + 1) = q) (he : aEnt cA ad' E' I' J' (E.1 + 1) = e') (ho : ∀ b, 1 ≤ b → b ≤ E.1 → ad' b = ad b ∧ aEnt cA ad' E' I' J' b = aEnt cA ad E I J b) : aWs cA ad E I J ++ [(q, e')] = aWs cA ad' E' I' J' := by
  unfold aWs
  rw [hE, List.range_succ, List.map_append]
  congr 1
  · apply List.map_congr_left
    intro p hp
    have h := ho (p + 1) (by omega) (by have := List.mem_range.mp hp; omega)
    rw [h.1, h.2]
  · simp [hq, he]
theorem aFs_at {ad : Nat → Nat} {E : aE} {I : aI} {a k : Nat} {ks : List Bool} (hk : k < ks.length) : (aFs ad E I a ks)[k]? = some (if ks.getD k true = true then .int (I a k) else va_rf (aRef ad (E.2.2 a k))) := by
  unfold aFs
  rw [List.getElem?_map, List.getElem?_range hk]
  rfl
theorem aFs_len {ad : Nat → Nat} {E : aE} {I : aI} {a : Nat} {ks : List Bool} : (aFs ad E I a ks).length = ks.length := by simp [aFs]
theorem aEnt_o {cA : Nat → ClassId} {ad : Nat → Nat} {E : aE} {I : aI} {J : aJ} {a ci : Nat} (h : E.2.1 a = (0, ci)) : aEnt cA ad E I J a = .inr (ci, aFs ad E I a (aKd ci)) := by
  unfold aEnt
  rw [h]
  rfl
theorem aEnt_1 {cA : Nat → ClassId} {ad : Nat → Nat} {E : aE} {I : aI} {J : aJ} {a : Nat} (h : (E.2.1 a).1 = 1) : aEnt cA ad E I J a = .inl (cA 1, (E.2.1 a).2, .inl (I a)) := by
  unfold aEnt
  rw [h]
  rfl
theorem aEnt_2 {cA : Nat → ClassId} {ad : Nat → Nat} {E : aE} {I : aI} {J : aJ} {a : Nat} (h : (E.2.1 a).1 = 2) : aEnt cA ad E I J a = .inl (cA 2, (E.2.1 a).2, .inr (.inl (J a))) := by
  unfold aEnt
  rw [h]
  rfl
theorem aEnt_3 {cA : Nat → ClassId} {ad : Nat → Nat} {E : aE} {I : aI} {J : aJ} {a : Nat} (h : (E.2.1 a).1 = 3) : aEnt cA ad E I J a = .inl (cA 3, (E.2.1 a).2, .inl (I a)) := by
  unfold aEnt
  rw [h]
  rfl
theorem aEnt_4 {cA : Nat → ClassId} {ad : Nat → Nat} {E : aE} {I : aI} {J : aJ} {a : Nat} (h : (E.2.1 a).1 = 4) : aEnt cA ad E I J a = .inl (cA 4, (E.2.1 a).2, .inr (.inr (.inr (.inr (fun j => aRef ad (E.2.2 a j)))))) := by
  unfold aEnt
  rw [h]
  rfl
theorem aEnt_5 {cA : Nat → ClassId} {ad : Nat → Nat} {E : aE} {I : aI} {J : aJ} {a : Nat} (h : (E.2.1 a).1 = 5) : aEnt cA ad E I J a = .inl (cA 5, (E.2.1 a).2, .inr (.inr (.inr (.inr (fun j => aRef ad (E.2.2 a j)))))) := by
  unfold aEnt
  rw [h]
  rfl
/-- an entry hangs on its own rows alone -/
theorem aEnt_eq {cA : Nat → ClassId} {ad ad' : Nat → Nat} {E E' : aE} {I I' : aI} {J J' : aJ} {b : Nat} (hs : E'.2.1 b = E.2.1 b) (hr : ∀ j, aRef ad' (E'.2.2 b j) = aRef ad (E.2.2 b j)) (hI : I' b = I b) (hJ : J' b = J b) : aEnt cA ad' E' I' J' b = aEnt cA ad E I J b := by
  have hf : ∀ ks, aFs ad' E' I' b ks = aFs ad E I b ks := fun ks => by
    unfold aFs
    apply List.map_congr_left
    intro k _
    rw [hI, hr k]
  unfold aEnt
  rw [hs, hI, hJ, hf]
  simp only [hr]
/-- the words that hold wherever the machine is -/
def lw_tbg : List Cond := lw_tbl.filter goodWord
theorem in_tbg {w : Cond} (i : Nat) (h : lw_tbl[i]? = some w) (hg : goodWord w = true) : w ∈ lw_tbg := List.mem_filter.mpr ⟨List.mem_of_getElem? h, hg⟩
theorem va_AOA.moved {ty : FieldType} {u U : State} (hvm : u.vm.Alike U.vm) (h : va_AOA ty u) : va_AOA ty U := (Cond.arrayOver_setVmC (args := #[]) hvm (.array ty)).trans h
/-- the array kinds of the tables -/
def aTys (cA : Nat → ClassId) : List (ClassId × FieldType) := [(cA 1, .int), (cA 2, .long), (cA 3, .boolean), (cA 4, .object "MarkovChainDistances$Chain"), (cA 5, .array .long)]
/-- what the tables say of classes and arrays -/
def aTb (D : va_G) (cA : Nat → ClassId) (U : State) : Prop := va_K D vwCl (aTys cA) U ∧ va_AO "MarkovChainDistances$Chain" U ∧ va_AOA .long U
theorem aTb.moved {D : va_G} {cA : Nat → ClassId} {u U : State} (hvm : u.vm.Alike U.vm) (h : aTb D cA u) : aTb D cA U := ⟨va_K.moved hvm h.1, va_AO.moved hvm h.2.1, va_AOA.moved hvm h.2.2⟩
def aCtx (γ : aM) (d mc ms : Nat) (p : Program) (R : Room) (s : State) (m : MethodId) (args : Array Value) (meth : Method) (c : Code) (D : va_G) (cA : Nat → ClassId) (A : Nat → Prop) (ad0 : Nat → Nat) : Prop :=
  p.tables.exec = Jvm.exec ∧ c.code = γ.2.1 ∧ c.maxLocals = γ.2.2.1 ∧ meth.sig.returnType = γ.2.2.2.1 ∧ s.vm.findClass γ.1.cls = some m.cls ∧ (∀ w ∈ lw_tbg, w.before args s = true) ∧ meth.locks = false ∧ meth.name = γ.1.name ∧ (R.frames = d ∧ R.locals = 39 * d ∧ R.cells = mc ∧ R.slots = ms) ∧ aTb D cA s ∧ (∀ q, s.heap.size ≤ q → A q) ∧ (∀ L xs, γ.2.2.2.2 = some (L, xs) → va_X (ad0 0) L xs s s.heap ∧ ad0 0 < s.heap.size ∧ ¬ A (ad0 0))
def aW (γ : aM) (mc ms : Nat) (al : Nat × Nat) (p : Program) (l : Launch) (e : Env) (R : Room) (s : State) (m : MethodId) (args : Array Value) (below : List Frame) (meth : Method) (c : Code) (Q : State → Prop) (D : va_G) (cA : Nat → ClassId) (A : Nat → Prop) (ad0 : Nat → Nat) (n0 pc : Nat) (lo : aLo) (st : List Value) (E : aE) (I : aI) (J : aJ) : Prop :=
  ∀ (ad : Nat → Nat) (H : Heap) (locs : List Loc) (ls : Array Slot) (cells slots : Nat), n0 ≤ E.1 → (∀ r, r ≤ n0 ∨ E.1 < r → ad r = ad0 r) → aL ad ls γ.2.2.1 lo → va_P D vwCl (aWs cA ad E I J) H → va_D A (aWs cA ad E I J) → va_S A s.heap H locs → cells + al.1 ≤ mc → slots + al.2 ≤ ms → W p l e R s m args below meth c H locs cells slots Q (F0 m pc ls (st.map (tv ad)))
def aAll : List Prop → Prop
  | [] => True
  | [p] => p
  | p :: q :: r => p ∧ aAll (q :: r)
theorem aAll_cons {p : Prop} {ps : List Prop} (h : aAll (p :: ps)) : p ∧ aAll ps := by
  cases ps with
  | nil => exact ⟨h, trivial⟩
  | cons q r => exact h
theorem aAll_app : ∀ {ps qs : List Prop}, aAll (ps ++ qs) → aAll ps ∧ aAll qs
  | [], _, h => ⟨trivial, h⟩
  | p :: ps, qs, h => by
    have h1 := aAll_cons (ps := ps ++ qs) h
    have h2 := aAll_app h1.2
    refine ⟨?_, h2.2⟩
    cases ps with
    | nil => exact h1.1
    | cons q r => exact ⟨h1.1, h2.1⟩
def OpOK (γ : aM) (pc : Nat) (op : aOp) (pc' : Nat) : Prop := ∀ (d mc ms : Nat) (al : Nat × Nat) (p : Program) (l : Launch) (e : Env) (R : Room) (s : State) (m : MethodId) (args : Array Value) (below : List Frame) (meth : Method) (c : Code) (Q : State → Prop) (D : va_G) (cA : Nat → ClassId) (A : Nat → Prop) (ad0 : Nat → Nat) (n0 : Nat), aCtx γ (d + 1) mc ms p R s m args meth c D cA A ad0 → ∀ (lo : aLo) (st : List Value) (E : aE) (I : aI) (J : aJ) (t : aS) (Ps : List Prop), op E (lo, st, I, J) = some (t, Ps) → aAll Ps → aW γ mc ms al p l e R s m args below meth c Q D cA A ad0 n0 pc' t.1 t.2.1 E t.2.2.1 t.2.2.2 → aW γ mc ms al p l e R s m args below meth c Q D cA A ad0 n0 pc lo st E I J
def aRun (E : aE) : List aOp → aS → Option (aS × List Prop)
  | [], s => some (s, [])
  | o :: os, s => match o E s with
    | none => none
    | some (s', ps) => match aRun E os s' with
      | none => none
      | some (s2, qs) => some (s2, ps ++ qs)
/-- a stretch of instructions -/
def Blk (γ : aM) : Nat → List aOp → Nat → Prop
  | pc, [], pc' => pc = pc'
  | pc, o :: os, pc' => ∃ pc1, OpOK γ pc o pc1 ∧ Blk γ pc1 os pc'
theorem Blk.nil {γ : aM} {pc : Nat} : Blk γ pc [] pc := rfl
theorem Blk.cons {γ : aM} {pc pc1 pc' : Nat} {o : aOp} {os : List aOp} (h : OpOK γ pc o pc1) (k : Blk γ pc1 os pc') : Blk γ pc (o :: os) pc' := ⟨pc1, h, k⟩
theorem Blk.ok {γ : aM} : ∀ {os : List aOp} {pc pc' : Nat}, Blk γ pc os pc' → OpOK γ pc (fun E s => aRun E os s) pc'
  | [], pc, pc', h => by
    intro d mc ms al p l e R s m args below meth c Q D cA A ad0 n0 C lo st E I J t Ps hop hps hw
    cases h
    cases hop
    exact hw
  | o :: os, pc, pc', h => by
    obtain ⟨pc1, h1, h2⟩ := h
    intro d mc ms al p l e R s m args below meth c Q D cA A ad0 n0 C lo st E I J t Ps hop hps hw
    simp only [aRun] at hop
    split at hop
    · cases hop
    · rename_i s1 ps e1
      split at hop
      · cases hop
      · rename_i s2 qs e2
        cases hop
        obtain ⟨ha, hb⟩ := aAll_app hps
        obtain ⟨lo1, st1, I1, J1⟩ := s1
        exact h1 d mc ms al p l e R s m args below meth c Q D cA A ad0 n0 C lo st E I J _ _ e1 ha (Blk.ok h2 d mc ms al p l e R s m args below meth c Q D cA A ad0 n0 C lo1 st1 E I1 J1 _ _ e2 hb hw)
/-- what a method answers and leaves -/
abbrev aPost : Type := Option Value → aE → aI → aJ → Prop
def aQc (Q : aPost) (D : va_G) (cA : Nat → ClassId) (A : Nat → Prop) (ad0 : Nat → Nat) (n0 : Nat) : Array Value → State → Outcome → State → Prop := fun _ st o t => (∃ (r : Option Value) (E' : aE) (I' : aI) (J' : aJ) (ad' : Nat → Nat), o = .returned (r.map (tv ad')) ∧ Q r E' I' J' ∧ n0 ≤ E'.1 ∧ (∀ r, r ≤ n0 ∨ E'.1 < r → ad' r = ad0 r) ∧ va_P D vwCl (aWs cA ad' E' I' J') t.heap ∧ va_D A (aWs cA ad' E' I' J')) ∧ va_F A st t
/-- from here the method comes to its end, and Q holds of its answer and of the heap -/
def Ex (γ : aM) (d mc ms n0 : Nat) (al : Nat × Nat) (pc : Nat) (lo : aLo) (st : List Value) (E : aE) (I : aI) (J : aJ) (Q : aPost) : Prop := ∀ (p : Program) (l : Launch) (e : Env) (R : Room) (s : State) (m : MethodId) (args : Array Value) (below : List Frame) (meth : Method) (c : Code) (D : va_G) (cA : Nat → ClassId) (A : Nat → Prop) (ad0 : Nat → Nat), aCtx γ d mc ms p R s m args meth c D cA A ad0 → aW γ mc ms al p l e R s m args below meth c (MQ below (aQc Q D cA A ad0 n0) args s mc ms A) D cA A ad0 n0 pc lo st E I J
theorem Ex.blk {γ : aM} {d mc ms n0 : Nat} {al : Nat × Nat} {pc pc' : Nat} {os : List aOp} (h : Blk γ pc os pc') {lo lo' : aLo} {st st' : List Value} {E : aE} {I I' : aI} {J J' : aJ} {Ps : List Prop} {Q : aPost} (hr : aRun E os (lo, st, I, J) = some ((lo', st', I', J'), Ps)) (hp : aAll Ps) (k : Ex γ (d + 1) mc ms n0 al pc' lo' st' E I' J' Q) : Ex γ (d + 1) mc ms n0 al pc lo st E I J Q :=
  fun p l e R s m args below meth c D cA A ad0 C => h.ok d mc ms al p l e R s m args below meth c _ D cA A ad0 n0 C lo st E I J _ Ps hr hp (k p l e R s m args below meth c D cA A ad0 C)
theorem Ex.conseq {γ : aM} {d mc ms n0 : Nat} {al : Nat × Nat} {pc : Nat} {lo : aLo} {st : List Value} {E : aE} {I : aI} {J : aJ} {Q Q' : aPost} (h : Ex γ d mc ms n0 al pc lo st E I J Q) (hq : ∀ r E' I' J', Q r E' I' J' → Q' r E' I' J') : Ex γ d mc ms n0 al pc lo st E I J Q' := by
  intro p l e R s m args below meth c D cA A ad0 C ad H locs ls cells slots h1 h2 hl hP hD hS hc hs T hT X
  obtain ⟨t, a1, o, b1, b2, ⟨⟨r, E', I', J', ad', c1, c2, c3⟩, b4⟩, b5⟩ := h p l e R s m args below meth c D cA A ad0 C ad H locs ls cells slots h1 h2 hl hP hD hS hc hs T hT X
  exact ⟨t, a1, o, b1, b2, ⟨⟨r, E', I', J', ad', c1, hq _ _ _ _ c2, c3⟩, b4⟩, b5⟩
end
section
/-! INSTRUCTIONS AS FUNCTIONS, and that the machine does them -/
def o_pure (g : List Value → Option (List Value)) : aOp := fun _ s => match g s.2.1 with
  | some st' => some ((s.1, st', s.2.2), [])
  | none => none
def PStep (γ : aM) (pc : Nat) (g : List Value → Option (List Value)) (pc' : Nat) : Prop := ∀ (p : Program) (l : Launch) (e : Env) (R : Room) (s : State) (m : MethodId) (args : Array Value) (below : List Frame) (meth : Method) (c : Code) (H : Heap) (locs : List Loc) (cells slots : Nat) (Q : State → Prop) (ls : Array Slot) (ad : Nat → Nat), p.tables.exec = Jvm.exec → c.code = γ.2.1 → s.vm.findClass γ.1.cls = some m.cls → (∀ w ∈ lw_tbg, w.before args s = true) → c.maxLocals = ls.size → 1 ≤ R.frames → 39 ≤ R.locals → cells ≤ R.cells → slots ≤ R.slots → ∀ st st', g st = some st' → W p l e R s m args below meth c H locs cells slots Q (F0 m pc' ls (st'.map (tv ad))) → W p l e R s m args below meth c H locs cells slots Q (F0 m pc ls (st.map (tv ad)))
theorem ok_pure {γ : aM} {pc pc' : Nat} {g : List Value → Option (List Value)} (h : PStep γ pc g pc') : OpOK γ pc (o_pure g) pc' := by
  intro d mc ms al p l e R s m args below meth c Q D cA A ad0 n0 C lo st E I J t Ps hop hps hw ad H locs ls cells slots h1 h2 hl hP hD hS hc hs
  obtain ⟨hx, hb, hml, hr, hown, hts, hlk, hnm, ⟨hf, hlo, hrc, hrs⟩, ⟨hK, hAO⟩, hA, hX⟩ := C
  unfold o_pure at hop
  split at hop
  · rename_i st' hg
    cases hop
    exact h p l e R s m args below meth c H locs cells slots _ ls ad hx hb hown hts (hml.trans hl.2.1.symm) (by omega) (by omega) (by omega) (by omega) st st' hg (hw ad H locs ls cells slots h1 h2 hl hP hD hS hc hs)
  · cases hop
def g_push (v : Value) : List Value → Option (List Value) := fun st => some (v :: st)
def g_ii (f : Int32 → Int32 → Int32) : List Value → Option (List Value) := fun st => match st with
  | .int y :: .int x :: r => some (.int (f x y) :: r)
  | _ => none
def g_ll (f : Int64 → Int64 → Int64) : List Value → Option (List Value) := fun st => match st with
  | .long y :: .long x :: r => some (.long (f x y) :: r)
  | _ => none
def g_lsh (f : Int64 → Int32 → Int64) : List Value → Option (List Value) := fun st => match st with
  | .int y :: .long x :: r => some (.long (f x y) :: r)
  | _ => none
def g_i (f : Int32 → Int32) : List Value → Option (List Value) := fun st => match st with
  | .int x :: r => some (.int (f x) :: r)
  | _ => none
def g_il (f : Int32 → Int64) : List Value → Option (List Value) := fun st => match st with
  | .int x :: r => some (.long (f x) :: r)
  | _ => none
def g_li (f : Int64 → Int32) : List Value → Option (List Value) := fun st => match st with
  | .long x :: r => some (.int (f x) :: r)
  | _ => none
def g_cmp : List Value → Option (List Value) := fun st => match st with
  | .long y :: .long x :: r => some (.int (lg_cmp x y) :: r)
  | _ => none
def g_dup : List Value → Option (List Value) := fun st => match st with
  | v :: r => if v.category = 1 then some (v :: v :: r) else none
  | _ => none
def g_dup2 : List Value → Option (List Value) := fun st => match st with
  | v :: w :: r => if v.category = 1 ∧ w.category = 1 then some (v :: w :: v :: w :: r) else none
  | _ => none
def g_pop : List Value → Option (List Value) := fun st => match st with
  | v :: r => if v.category = 1 then some r else none
  | _ => none
def g_pop2 : List Value → Option (List Value) := fun st => match st with
  | v :: r => if v.category = 2 then some r else none
  | _ => none
def g_id : List Value → Option (List Value) := fun st => some st
def aSm (st : List Value) : Nat := (st.map fun v => v.category).sum
theorem aSm_tv (ad : Nat → Nat) (st : List Value) : ((st.map (tv ad)).map fun v => v.category).sum = aSm st := by
  unfold aSm
  rw [List.map_map]
  congr 1
  apply List.map_congr_left
  intro v _
  exact tv_cat ad v
def g_m2 (f : Int32 → Int32 → Int32) : List Value → Option (List Value) := fun st => match st with
  | .int y :: .int x :: r => if aSm r ≤ 8 then some (.int (f x y) :: r) else none
  | _ => none
def g_m1 (f : Int32 → Int32) : List Value → Option (List Value) := fun st => match st with
  | .int x :: r => if aSm r ≤ 8 then some (.int (f x) :: r) else none
  | _ => none
def g_oi : List Value → Option (List Value) := fun st => match st with
  | .ref _ :: r => if aSm r ≤ 8 then some r else none
  | _ => none
theorem ok_iconst {γ : aM} {pc : Nat} {n : Int} {v : Int32} (hdg : decode γ.2.1 pc = .ok (.iconst n, 1)) (hv : Int32.ofInt n = v) : OpOK γ pc (o_pure (g_push (.int v))) (pc + 1) := ok_pure (by
  intro p l e R s m args below meth c H locs cells slots Q ls ad hx hb hown hts hml hf hlo hrc hrs st st' hg k
  cases hg
  exact lv_iconst hx hb hdg hv k)
theorem ok_bipush {γ : aM} {pc : Nat} {n : Int} {v : Int32} (hdg : decode γ.2.1 pc = .ok (.bipush n, 2)) (hv : (Int8.ofInt n).toInt32 = v) : OpOK γ pc (o_pure (g_push (.int v))) (pc + 2) := ok_pure (by
  intro p l e R s m args below meth c H locs cells slots Q ls ad hx hb hown hts hml hf hlo hrc hrs st st' hg k
  cases hg
  exact lv_bipush hx hb hdg hv k)
theorem ok_sipush {γ : aM} {pc : Nat} {n : Int} {v : Int32} (hdg : decode γ.2.1 pc = .ok (.sipush n, 3)) (hv : (Int16.ofInt n).toInt32 = v) : OpOK γ pc (o_pure (g_push (.int v))) (pc + 3) := ok_pure (by
  intro p l e R s m args below meth c H locs cells slots Q ls ad hx hb hown hts hml hf hlo hrc hrs st st' hg k
  cases hg
  exact lv_sipush hx hb hdg hv k)
theorem ok_lconst {γ : aM} {pc : Nat} {n : Fin 2} {v : Int64} (hdg : decode γ.2.1 pc = .ok (.lconst n, 1)) (hv : Int64.ofNat (n : Nat) = v) : OpOK γ pc (o_pure (g_push (.long v))) (pc + 1) := ok_pure (by
  intro p l e R s m args below meth c H locs cells slots Q ls ad hx hb hown hts hml hf hlo hrc hrs st st' hg k
  cases hg
  exact lv_lconst hx hb hdg hv k)
theorem ok_ldc {γ : aM} {pc : Nat} {i : Nat} {v : Int32} (hdg : decode γ.2.1 pc = .ok (.ldc i, 2)) (hw : Cond.constant γ.1.cls i v ∈ lw_tbg) : OpOK γ pc (o_pure (g_push (.int v))) (pc + 2) := ok_pure (by
  intro p l e R s m args below meth c H locs cells slots Q ls ad hx hb hown hts hml hf hlo hrc hrs st st' hg k
  cases hg
  exact lv_ldc hx hb hown (hts _ hw) hdg k)
theorem ok_ldc2 {γ : aM} {pc : Nat} {i : Nat} {v : Int64} (hdg : decode γ.2.1 pc = .ok (.ldc2_w i, 3)) (hw : Cond.constantLong γ.1.cls i v ∈ lw_tbg) : OpOK γ pc (o_pure (g_push (.long v))) (pc + 3) := ok_pure (by
  intro p l e R s m args below meth c H locs cells slots Q ls ad hx hb hown hts hml hf hlo hrc hrs st st' hg k
  cases hg
  exact lv_ldc2 hx hb hown (hts _ hw) hdg k)
theorem ok_iadd {γ : aM} {pc : Nat} (hdg : decode γ.2.1 pc = .ok (.iadd, 1)) : OpOK γ pc (o_pure (g_ii (fun x y => x + y))) (pc + 1) := ok_pure (by
  intro p l e R s m args below meth c H locs cells slots Q ls ad hx hb hown hts hml hf hlo hrc hrs st st' hg k
  unfold g_ii at hg
  split at hg
  · cases hg
    exact lv_iadd hx hb hdg k
  · cases hg)
theorem ok_isub {γ : aM} {pc : Nat} (hdg : decode γ.2.1 pc = .ok (.isub, 1)) : OpOK γ pc (o_pure (g_ii (fun x y => x - y))) (pc + 1) := ok_pure (by
  intro p l e R s m args below meth c H locs cells slots Q ls ad hx hb hown hts hml hf hlo hrc hrs st st' hg k
  unfold g_ii at hg
  split at hg
  · cases hg
    exact lv_isub hx hb hdg k
  · cases hg)
theorem ok_imul {γ : aM} {pc : Nat} (hdg : decode γ.2.1 pc = .ok (.imul, 1)) : OpOK γ pc (o_pure (g_ii (fun x y => x * y))) (pc + 1) := ok_pure (by
  intro p l e R s m args below meth c H locs cells slots Q ls ad hx hb hown hts hml hf hlo hrc hrs st st' hg k
  unfold g_ii at hg
  split at hg
  · cases hg
    exact lv_imul hx hb hdg k
  · cases hg)
theorem ok_iand {γ : aM} {pc : Nat} (hdg : decode γ.2.1 pc = .ok (.iand, 1)) : OpOK γ pc (o_pure (g_ii (fun x y => x &&& y))) (pc + 1) := ok_pure (by
  intro p l e R s m args below meth c H locs cells slots Q ls ad hx hb hown hts hml hf hlo hrc hrs st st' hg k
  unfold g_ii at hg
  split at hg
  · cases hg
    exact lv_iand hx hb hdg k
  · cases hg)
theorem ok_ishl {γ : aM} {pc : Nat} (hdg : decode γ.2.1 pc = .ok (.ishl, 1)) : OpOK γ pc (o_pure (g_ii (fun x y => x <<< (y &&& 31)))) (pc + 1) := ok_pure (by
  intro p l e R s m args below meth c H locs cells slots Q ls ad hx hb hown hts hml hf hlo hrc hrs st st' hg k
  unfold g_ii at hg
  split at hg
  · cases hg
    exact lv_ishl hx hb hdg k
  · cases hg)
theorem ok_ishr {γ : aM} {pc : Nat} (hdg : decode γ.2.1 pc = .ok (.ishr, 1)) : OpOK γ pc (o_pure (g_ii (fun x y => x >>> (y &&& 31)))) (pc + 1) := ok_pure (by
  intro p l e R s m args below meth c H locs cells slots Q ls ad hx hb hown hts hml hf hlo hrc hrs st st' hg k
  unfold g_ii at hg
  split at hg
  · cases hg
    exact lv_ishr hx hb hdg k
  · cases hg)
theorem ok_iushr {γ : aM} {pc : Nat} (hdg : decode γ.2.1 pc = .ok (.iushr, 1)) : OpOK γ pc (o_pure (g_ii (fun x y => (x.toUInt32 >>> (y.toUInt32 &&& Int32.toUInt32 31)).toInt32))) (pc + 1) := ok_pure (by
  intro p l e R s m args below meth c H locs cells slots Q ls ad hx hb hown hts hml hf hlo hrc hrs st st' hg k
  unfold g_ii at hg
  split at hg
  · cases hg
    exact lv_iushr hx hb hdg rfl k
  · cases hg)
theorem ok_ladd {γ : aM} {pc : Nat} (hdg : decode γ.2.1 pc = .ok (.ladd, 1)) : OpOK γ pc (o_pure (g_ll (fun x y => x + y))) (pc + 1) := ok_pure (by
  intro p l e R s m args below meth c H locs cells slots Q ls ad hx hb hown hts hml hf hlo hrc hrs st st' hg k
  unfold g_ll at hg
  split at hg
  · cases hg
    exact lv_ladd hx hb hdg k
  · cases hg)
theorem ok_lsub {γ : aM} {pc : Nat} (hdg : decode γ.2.1 pc = .ok (.lsub, 1)) : OpOK γ pc (o_pure (g_ll (fun x y => x - y))) (pc + 1) := ok_pure (by
  intro p l e R s m args below meth c H locs cells slots Q ls ad hx hb hown hts hml hf hlo hrc hrs st st' hg k
  unfold g_ll at hg
  split at hg
  · cases hg
    exact lv_lsub hx hb hdg k
  · cases hg)
theorem ok_lmul {γ : aM} {pc : Nat} (hdg : decode γ.2.1 pc = .ok (.lmul, 1)) : OpOK γ pc (o_pure (g_ll (fun x y => x * y))) (pc + 1) := ok_pure (by
  intro p l e R s m args below meth c H locs cells slots Q ls ad hx hb hown hts hml hf hlo hrc hrs st st' hg k
  unfold g_ll at hg
  split at hg
  · cases hg
    exact lv_lmul hx hb hdg k
  · cases hg)
theorem ok_land {γ : aM} {pc : Nat} (hdg : decode γ.2.1 pc = .ok (.land, 1)) : OpOK γ pc (o_pure (g_ll (fun x y => x &&& y))) (pc + 1) := ok_pure (by
  intro p l e R s m args below meth c H locs cells slots Q ls ad hx hb hown hts hml hf hlo hrc hrs st st' hg k
  unfold g_ll at hg
  split at hg
  · cases hg
    exact lv_land hx hb hdg k
  · cases hg)
theorem ok_lor {γ : aM} {pc : Nat} (hdg : decode γ.2.1 pc = .ok (.lor, 1)) : OpOK γ pc (o_pure (g_ll (fun x y => x ||| y))) (pc + 1) := ok_pure (by
  intro p l e R s m args below meth c H locs cells slots Q ls ad hx hb hown hts hml hf hlo hrc hrs st st' hg k
  unfold g_ll at hg
  split at hg
  · cases hg
    exact lv_lor hx hb hdg k
  · cases hg)
theorem ok_lshl {γ : aM} {pc : Nat} (hdg : decode γ.2.1 pc = .ok (.lshl, 1)) : OpOK γ pc (o_pure (g_lsh (fun x y => x <<< (y.toInt64 &&& 63)))) (pc + 1) := ok_pure (by
  intro p l e R s m args below meth c H locs cells slots Q ls ad hx hb hown hts hml hf hlo hrc hrs st st' hg k
  unfold g_lsh at hg
  split at hg
  · cases hg
    exact lv_lshl hx hb hdg rfl k
  · cases hg)
theorem ok_ineg {γ : aM} {pc : Nat} (hdg : decode γ.2.1 pc = .ok (.ineg, 1)) : OpOK γ pc (o_pure (g_i (fun x => -x))) (pc + 1) := ok_pure (by
  intro p l e R s m args below meth c H locs cells slots Q ls ad hx hb hown hts hml hf hlo hrc hrs st st' hg k
  unfold g_i at hg
  split at hg
  · cases hg
    exact lv_ineg hx hb hdg k
  · cases hg)
theorem ok_i2b {γ : aM} {pc : Nat} (hdg : decode γ.2.1 pc = .ok (.i2b, 1)) : OpOK γ pc (o_pure (g_i (fun x => x.toInt8.toInt32))) (pc + 1) := ok_pure (by
  intro p l e R s m args below meth c H locs cells slots Q ls ad hx hb hown hts hml hf hlo hrc hrs st st' hg k
  unfold g_i at hg
  split at hg
  · cases hg
    exact lv_i2b hx hb hdg rfl k
  · cases hg)
theorem ok_i2c {γ : aM} {pc : Nat} (hdg : decode γ.2.1 pc = .ok (.i2c, 1)) : OpOK γ pc (o_pure (g_i (fun x => (x.toUInt32 % 65536).toInt32))) (pc + 1) := ok_pure (by
  intro p l e R s m args below meth c H locs cells slots Q ls ad hx hb hown hts hml hf hlo hrc hrs st st' hg k
  unfold g_i at hg
  split at hg
  · cases hg
    exact lv_i2c hx hb hdg rfl k
  · cases hg)
theorem ok_i2l {γ : aM} {pc : Nat} (hdg : decode γ.2.1 pc = .ok (.i2l, 1)) : OpOK γ pc (o_pure (g_il (fun x => x.toInt64))) (pc + 1) := ok_pure (by
  intro p l e R s m args below meth c H locs cells slots Q ls ad hx hb hown hts hml hf hlo hrc hrs st st' hg k
  unfold g_il at hg
  split at hg
  · cases hg
    exact lv_i2l hx hb hdg rfl k
  · cases hg)
theorem ok_l2i {γ : aM} {pc : Nat} (hdg : decode γ.2.1 pc = .ok (.l2i, 1)) : OpOK γ pc (o_pure (g_li (fun x => x.toInt32))) (pc + 1) := ok_pure (by
  intro p l e R s m args below meth c H locs cells slots Q ls ad hx hb hown hts hml hf hlo hrc hrs st st' hg k
  unfold g_li at hg
  split at hg
  · cases hg
    exact lv_l2i hx hb hdg rfl k
  · cases hg)
theorem ok_lcmp {γ : aM} {pc : Nat} (hdg : decode γ.2.1 pc = .ok (.lcmp, 1)) : OpOK γ pc (o_pure g_cmp) (pc + 1) := ok_pure (by
  intro p l e R s m args below meth c H locs cells slots Q ls ad hx hb hown hts hml hf hlo hrc hrs st st' hg k
  unfold g_cmp at hg
  split at hg
  · cases hg
    exact W.lcmp hx hb hdg k
  · cases hg)
theorem ok_dup {γ : aM} {pc : Nat} (hdg : decode γ.2.1 pc = .ok (.dup, 1)) : OpOK γ pc (o_pure g_dup) (pc + 1) := ok_pure (by
  intro p l e R s m args below meth c H locs cells slots Q ls ad hx hb hown hts hml hf hlo hrc hrs st st' hg k
  unfold g_dup at hg
  split at hg
  · split at hg
    · rename_i hc
      cases hg
      exact lv_dup hx hb hdg (by rw [tv_cat]; exact hc) k
    · cases hg
  · cases hg)
theorem ok_dup2 {γ : aM} {pc : Nat} (hdg : decode γ.2.1 pc = .ok (.dup2, 1)) : OpOK γ pc (o_pure g_dup2) (pc + 1) := ok_pure (by
  intro p l e R s m args below meth c H locs cells slots Q ls ad hx hb hown hts hml hf hlo hrc hrs st st' hg k
  unfold g_dup2 at hg
  split at hg
  · split at hg
    · rename_i hc
      cases hg
      exact lv_dup2_11 hx hb hdg (by rw [tv_cat]; exact hc.1) (by rw [tv_cat]; exact hc.2) k
    · cases hg
  · cases hg)
theorem ok_pop {γ : aM} {pc : Nat} (hdg : decode γ.2.1 pc = .ok (.pop, 1)) : OpOK γ pc (o_pure g_pop) (pc + 1) := ok_pure (by
  intro p l e R s m args below meth c H locs cells slots Q ls ad hx hb hown hts hml hf hlo hrc hrs st st' hg k
  unfold g_pop at hg
  split at hg
  · split at hg
    · rename_i hc
      cases hg
      exact lv_pop hx hb hdg (by rw [tv_cat]; exact hc) k
    · cases hg
  · cases hg)
theorem ok_pop2 {γ : aM} {pc : Nat} (hdg : decode γ.2.1 pc = .ok (.pop2, 1)) : OpOK γ pc (o_pure g_pop2) (pc + 1) := ok_pure (by
  intro p l e R s m args below meth c H locs cells slots Q ls ad hx hb hown hts hml hf hlo hrc hrs st st' hg k
  unfold g_pop2 at hg
  split at hg
  · split at hg
    · rename_i hc
      cases hg
      exact lv_pop2_2 hx hb hdg (by rw [tv_cat]; exact hc) k
    · cases hg
  · cases hg)
theorem ok_goto {γ : aM} {pc : Nat} {off : Int} {tgt : Nat} (hdg : decode γ.2.1 pc = .ok (.goto off, 3)) (ht : (pc : Int) + off = (tgt : Int)) : OpOK γ pc (o_pure g_id) tgt := ok_pure (by
  intro p l e R s m args below meth c H locs cells slots Q ls ad hx hb hown hts hml hf hlo hrc hrs st st' hg k
  cases hg
  exact lv_goto hx hb hdg ht k)
theorem ok_mmin {γ : aM} {pc : Nat} {i : Nat} (hw : Cond.methodLink γ.1.cls i Lib.Math.min.name ∈ lw_tbg) (hw2 : Cond.static Lib.Math.min.name ∈ lw_tbg) (hw3 : Cond.initialized "java/lang/Math" ∈ lw_tbg) (hw4 : Cond.code Lib.Math.min.name Lib.Math.min.code 2 (some .int) ∈ lw_tbg) (hdg : decode γ.2.1 pc = .ok (.invokestatic i, 3)) : OpOK γ pc (o_pure (g_m2 (fun x y => if y < x then y else x))) (pc + 3) := ok_pure (by
  intro p l e R s m args below meth c H locs cells slots Q ls ad hx hb hown hts hml hf hlo hrc hrs st st' hg k
  unfold g_m2 at hg
  split at hg
  · split at hg
    · rename_i hc
      cases hg
      exact va_mmin hx hb hml hown (hts _ hw) (hts _ hw2) (hts _ hw3) (hts _ hw4) hf (by rw [aSm_tv]; omega) hrc hrs hdg k
    · cases hg
  · cases hg)
theorem ok_mmax {γ : aM} {pc : Nat} {i : Nat} (hw : Cond.methodLink γ.1.cls i Lib.Math.max.name ∈ lw_tbg) (hw2 : Cond.static Lib.Math.max.name ∈ lw_tbg) (hw3 : Cond.initialized "java/lang/Math" ∈ lw_tbg) (hw4 : Cond.code Lib.Math.max.name Lib.Math.max.code 2 (some .int) ∈ lw_tbg) (hdg : decode γ.2.1 pc = .ok (.invokestatic i, 3)) : OpOK γ pc (o_pure (g_m2 (fun x y => if x < y then y else x))) (pc + 3) := ok_pure (by
  intro p l e R s m args below meth c H locs cells slots Q ls ad hx hb hown hts hml hf hlo hrc hrs st st' hg k
  unfold g_m2 at hg
  split at hg
  · split at hg
    · rename_i hc
      cases hg
      exact va_mmax hx hb hml hown (hts _ hw) (hts _ hw2) (hts _ hw3) (hts _ hw4) hf (by rw [aSm_tv]; omega) hrc hrs hdg k
    · cases hg
  · cases hg)
theorem ok_mabs {γ : aM} {pc : Nat} {i : Nat} (hw : Cond.methodLink γ.1.cls i Lib.Math.abs.name ∈ lw_tbg) (hw2 : Cond.static Lib.Math.abs.name ∈ lw_tbg) (hw3 : Cond.initialized "java/lang/Math" ∈ lw_tbg) (hw4 : Cond.code Lib.Math.abs.name Lib.Math.abs.code 1 (some .int) ∈ lw_tbg) (hdg : decode γ.2.1 pc = .ok (.invokestatic i, 3)) : OpOK γ pc (o_pure (g_m1 (fun x => if 0 ≤ x then x else 0 - x))) (pc + 3) := ok_pure (by
  intro p l e R s m args below meth c H locs cells slots Q ls ad hx hb hown hts hml hf hlo hrc hrs st st' hg k
  unfold g_m1 at hg
  split at hg
  · split at hg
    · rename_i hc
      cases hg
      exact va_mabs hx hb hml hown (hts _ hw) (hts _ hw2) (hts _ hw3) (hts _ hw4) hf (by rw [aSm_tv]; omega) hrc hrs hdg k
    · cases hg
  · cases hg)
theorem ok_oi {γ : aM} {pc : Nat} {i : Nat} (hw : Cond.methodLink γ.1.cls i Lib.objectInit ∈ lw_tbg) (hw2 : Cond.instanceMethod Lib.objectInit ∈ lw_tbg) (hw3 : Cond.code Lib.objectInit ⟨#[0xb1]⟩ 1 none ∈ lw_tbg) (hdg : decode γ.2.1 pc = .ok (.invokespecial i, 3)) : OpOK γ pc (o_pure g_oi) (pc + 3) := ok_pure (by
  intro p l e R s m args below meth c H locs cells slots Q ls ad hx hb hown hts hml hf hlo hrc hrs st st' hg k
  unfold g_oi at hg
  split at hg
  · split at hg
    · rename_i hc
      cases hg
      exact W.objInit hx hb hown (hts _ hw) (hts _ hw2) (hts _ hw3) rfl hml.symm rfl hdg hf (by rw [aSm_tv]; show 2 * 0 + _ + 12 ≤ _; omega) k
    · cases hg
  · cases hg)
/-! divisions: the divisor isn't 0 -/
def o_dii (f : Int32 → Int32 → Int32) : aOp := fun _ s => match s.2.1 with
  | .int y :: .int x :: r => some ((s.1, .int (f x y) :: r, s.2.2), [¬ y = 0])
  | _ => none
def o_dll (f : Int64 → Int64 → Int64) : aOp := fun _ s => match s.2.1 with
  | .long y :: .long x :: r => some ((s.1, .long (f x y) :: r, s.2.2), [¬ y = 0])
  | _ => none
theorem ok_idiv {γ : aM} {pc : Nat} (hdg : decode γ.2.1 pc = .ok (.idiv, 1)) : OpOK γ pc (o_dii (fun x y => x / y)) (pc + 1) := by
  intro d mc ms al p l e R s m args below meth c Q D cA A ad0 n0 C lo st E I J t Ps hop hps hw ad H locs ls cells slots h1 h2 hl hP hD hS hc hs
  obtain ⟨hx, hb, hml, hr, hown, hts, hlk, hnm, ⟨hf, hlo, hrc, hrs⟩, ⟨hK, hAO⟩, hA, hX⟩ := C
  unfold o_dii at hop
  split at hop
  · rename_i y x r hst
    cases hop
    have hst : st = _ := hst
    subst hst
    exact lv_idiv hx hb hdg hps (hw ad H locs ls cells slots h1 h2 hl hP hD hS hc hs)
  · cases hop
theorem ok_irem {γ : aM} {pc : Nat} (hdg : decode γ.2.1 pc = .ok (.irem, 1)) : OpOK γ pc (o_dii (fun x y => x - x / y * y)) (pc + 1) := by
  intro d mc ms al p l e R s m args below meth c Q D cA A ad0 n0 C lo st E I J t Ps hop hps hw ad H locs ls cells slots h1 h2 hl hP hD hS hc hs
  obtain ⟨hx, hb, hml, hr, hown, hts, hlk, hnm, ⟨hf, hlo, hrc, hrs⟩, ⟨hK, hAO⟩, hA, hX⟩ := C
  unfold o_dii at hop
  split at hop
  · rename_i y x r hst
    cases hop
    have hst : st = _ := hst
    subst hst
    exact lv_irem hx hb hdg hps (hw ad H locs ls cells slots h1 h2 hl hP hD hS hc hs)
  · cases hop
theorem ok_ldiv {γ : aM} {pc : Nat} (hdg : decode γ.2.1 pc = .ok (.ldiv, 1)) : OpOK γ pc (o_dll (fun x y => x / y)) (pc + 1) := by
  intro d mc ms al p l e R s m args below meth c Q D cA A ad0 n0 C lo st E I J t Ps hop hps hw ad H locs ls cells slots h1 h2 hl hP hD hS hc hs
  obtain ⟨hx, hb, hml, hr, hown, hts, hlk, hnm, ⟨hf, hlo, hrc, hrs⟩, ⟨hK, hAO⟩, hA, hX⟩ := C
  unfold o_dll at hop
  split at hop
  · rename_i y x r hst
    cases hop
    have hst : st = _ := hst
    subst hst
    exact lv_ldiv hx hb hdg hps (hw ad H locs ls cells slots h1 h2 hl hP hD hS hc hs)
  · cases hop
theorem ok_lrem {γ : aM} {pc : Nat} (hdg : decode γ.2.1 pc = .ok (.lrem, 1)) : OpOK γ pc (o_dll (fun x y => x - x / y * y)) (pc + 1) := by
  intro d mc ms al p l e R s m args below meth c Q D cA A ad0 n0 C lo st E I J t Ps hop hps hw ad H locs ls cells slots h1 h2 hl hP hD hS hc hs
  obtain ⟨hx, hb, hml, hr, hown, hts, hlk, hnm, ⟨hf, hlo, hrc, hrs⟩, ⟨hK, hAO⟩, hA, hX⟩ := C
  unfold o_dll at hop
  split at hop
  · rename_i y x r hst
    cases hop
    have hst : st = _ := hst
    subst hst
    exact lv_lrem hx hb hdg hps (hw ad H locs ls cells slots h1 h2 hl hP hD hS hc hs)
  · cases hop
/-! locals -/
def o_ild (i : Nat) : aOp := fun _ s => match s.1[i]? with
  | some (some (.int x)) => some ((s.1, .int x :: s.2.1, s.2.2), [])
  | _ => none
theorem ok_iload_n {γ : aM} {pc : Nat} {k : Fin 4} {i : Nat} (hi : (k : Nat) = i) (hdg : decode γ.2.1 pc = .ok (.iload_n k, 1)) : OpOK γ pc (o_ild i) (pc + 1) := by
  intro d mc ms al p l e R s m args below meth c Q D cA A ad0 n0 C lo st E I J t Ps hop hps hw ad H locs ls cells slots h1 h2 hl hP hD hS hc hs
  obtain ⟨hx, hb, hml, hr, hown, hts, hlk, hnm, ⟨hf, hlo, hrc, hrs⟩, ⟨hK, hAO⟩, hA, hX⟩ := C
  unfold o_ild at hop
  split at hop
  · rename_i x hst
    cases hop
    exact lv_iload_n hx hb hdg hi (aL_at hl hst) (hw ad H locs ls cells slots h1 h2 hl hP hD hS hc hs)
  · cases hop
theorem ok_iload {γ : aM} {pc : Nat} {i : Nat} (hdg : decode γ.2.1 pc = .ok (.iload i, 2)) : OpOK γ pc (o_ild i) (pc + 2) := by
  intro d mc ms al p l e R s m args below meth c Q D cA A ad0 n0 C lo st E I J t Ps hop hps hw ad H locs ls cells slots h1 h2 hl hP hD hS hc hs
  obtain ⟨hx, hb, hml, hr, hown, hts, hlk, hnm, ⟨hf, hlo, hrc, hrs⟩, ⟨hK, hAO⟩, hA, hX⟩ := C
  unfold o_ild at hop
  split at hop
  · rename_i x hst
    cases hop
    exact lv_iload hx hb hdg (aL_at hl hst) (hw ad H locs ls cells slots h1 h2 hl hP hD hS hc hs)
  · cases hop
def o_lld (i : Nat) : aOp := fun _ s => match s.1[i]? with
  | some (some (.long x)) => some ((s.1, .long x :: s.2.1, s.2.2), [])
  | _ => none
theorem ok_lload_n {γ : aM} {pc : Nat} {k : Fin 4} {i : Nat} (hi : (k : Nat) = i) (hdg : decode γ.2.1 pc = .ok (.lload_n k, 1)) : OpOK γ pc (o_lld i) (pc + 1) := by
  intro d mc ms al p l e R s m args below meth c Q D cA A ad0 n0 C lo st E I J t Ps hop hps hw ad H locs ls cells slots h1 h2 hl hP hD hS hc hs
  obtain ⟨hx, hb, hml, hr, hown, hts, hlk, hnm, ⟨hf, hlo, hrc, hrs⟩, ⟨hK, hAO⟩, hA, hX⟩ := C
  unfold o_lld at hop
  split at hop
  · rename_i x hst
    cases hop
    exact lv_lload_n hx hb hdg hi (aL_at hl hst) (hw ad H locs ls cells slots h1 h2 hl hP hD hS hc hs)
  · cases hop
theorem ok_lload {γ : aM} {pc : Nat} {i : Nat} (hdg : decode γ.2.1 pc = .ok (.lload i, 2)) : OpOK γ pc (o_lld i) (pc + 2) := by
  intro d mc ms al p l e R s m args below meth c Q D cA A ad0 n0 C lo st E I J t Ps hop hps hw ad H locs ls cells slots h1 h2 hl hP hD hS hc hs
  obtain ⟨hx, hb, hml, hr, hown, hts, hlk, hnm, ⟨hf, hlo, hrc, hrs⟩, ⟨hK, hAO⟩, hA, hX⟩ := C
  unfold o_lld at hop
  split at hop
  · rename_i x hst
    cases hop
    exact lv_lload hx hb hdg (aL_at hl hst) (hw ad H locs ls cells slots h1 h2 hl hP hD hS hc hs)
  · cases hop
def o_ald (i : Nat) : aOp := fun _ s => match s.1[i]? with
  | some (some (.ref x)) => some ((s.1, .ref x :: s.2.1, s.2.2), [])
  | _ => none
theorem ok_aload_n {γ : aM} {pc : Nat} {k : Fin 4} {i : Nat} (hi : (k : Nat) = i) (hdg : decode γ.2.1 pc = .ok (.aload_n k, 1)) : OpOK γ pc (o_ald i) (pc + 1) := by
  intro d mc ms al p l e R s m args below meth c Q D cA A ad0 n0 C lo st E I J t Ps hop hps hw ad H locs ls cells slots h1 h2 hl hP hD hS hc hs
  obtain ⟨hx, hb, hml, hr, hown, hts, hlk, hnm, ⟨hf, hlo, hrc, hrs⟩, ⟨hK, hAO⟩, hA, hX⟩ := C
  unfold o_ald at hop
  split at hop
  · rename_i x hst
    cases hop
    exact lv_aload_n hx hb hdg hi (aL_at hl hst) (hw ad H locs ls cells slots h1 h2 hl hP hD hS hc hs)
  · cases hop
theorem ok_aload {γ : aM} {pc : Nat} {i : Nat} (hdg : decode γ.2.1 pc = .ok (.aload i, 2)) : OpOK γ pc (o_ald i) (pc + 2) := by
  intro d mc ms al p l e R s m args below meth c Q D cA A ad0 n0 C lo st E I J t Ps hop hps hw ad H locs ls cells slots h1 h2 hl hP hD hS hc hs
  obtain ⟨hx, hb, hml, hr, hown, hts, hlk, hnm, ⟨hf, hlo, hrc, hrs⟩, ⟨hK, hAO⟩, hA, hX⟩ := C
  unfold o_ald at hop
  split at hop
  · rename_i x hst
    cases hop
    exact lv_aload hx hb hdg (aL_at hl hst) (hw ad H locs ls cells slots h1 h2 hl hP hD hS hc hs)
  · cases hop
def o_ist (i : Nat) : aOp := fun _ s => match s.2.1 with
  | .int x :: r => if aOk1 s.1 i = true ∧ i < s.1.length then some ((s.1.set i (some (.int x)), r, s.2.2), []) else none
  | _ => none
theorem ok_istore_n {γ : aM} {pc : Nat} {k : Fin 4} {i : Nat} (hi : (k : Nat) = i) (hdg : decode γ.2.1 pc = .ok (.istore_n k, 1)) : OpOK γ pc (o_ist i) (pc + 1) := by
  intro d mc ms al p l e R s m args below meth c Q D cA A ad0 n0 C lo st E I J t Ps hop hps hw ad H locs ls cells slots h1 h2 hl hP hD hS hc hs
  obtain ⟨hx, hb, hml, hr, hown, hts, hlk, hnm, ⟨hf, hlo, hrc, hrs⟩, ⟨hK, hAO⟩, hA, hX⟩ := C
  unfold o_ist at hop
  split at hop
  · rename_i x r hst
    have hst : st = _ := hst
    subst hst
    split at hop
    · rename_i hq
      cases hop
      have hq : aOk1 lo i = true ∧ i < lo.length := hq
      exact lv_istore_n hx hb hdg hi hl.2 (by rw [← hl.1]; exact hq.2) rfl (fun ls' h' => hw ad H locs ls' cells slots h1 h2 (aL_st1 (v := .int x) hl hq.1 h') hP hD hS hc hs)
    · cases hop
  · cases hop
theorem ok_istore {γ : aM} {pc : Nat} {i : Nat} (hdg : decode γ.2.1 pc = .ok (.istore i, 2)) : OpOK γ pc (o_ist i) (pc + 2) := by
  intro d mc ms al p l e R s m args below meth c Q D cA A ad0 n0 C lo st E I J t Ps hop hps hw ad H locs ls cells slots h1 h2 hl hP hD hS hc hs
  obtain ⟨hx, hb, hml, hr, hown, hts, hlk, hnm, ⟨hf, hlo, hrc, hrs⟩, ⟨hK, hAO⟩, hA, hX⟩ := C
  unfold o_ist at hop
  split at hop
  · rename_i x r hst
    have hst : st = _ := hst
    subst hst
    split at hop
    · rename_i hq
      cases hop
      have hq : aOk1 lo i = true ∧ i < lo.length := hq
      exact lv_istore hx hb hdg hl.2 (by rw [← hl.1]; exact hq.2) rfl (fun ls' h' => hw ad H locs ls' cells slots h1 h2 (aL_st1 (v := .int x) hl hq.1 h') hP hD hS hc hs)
    · cases hop
  · cases hop
def o_lst (i : Nat) : aOp := fun _ s => match s.2.1 with
  | .long x :: r => if aOk1 s.1 i = true ∧ i + 1 < s.1.length then some (((s.1.set i (some (.long x))).set (i + 1) none, r, s.2.2), []) else none
  | _ => none
theorem ok_lstore_n {γ : aM} {pc : Nat} {k : Fin 4} {i : Nat} (hi : (k : Nat) = i) (hdg : decode γ.2.1 pc = .ok (.lstore_n k, 1)) : OpOK γ pc (o_lst i) (pc + 1) := by
  intro d mc ms al p l e R s m args below meth c Q D cA A ad0 n0 C lo st E I J t Ps hop hps hw ad H locs ls cells slots h1 h2 hl hP hD hS hc hs
  obtain ⟨hx, hb, hml, hr, hown, hts, hlk, hnm, ⟨hf, hlo, hrc, hrs⟩, ⟨hK, hAO⟩, hA, hX⟩ := C
  unfold o_lst at hop
  split at hop
  · rename_i x r hst
    have hst : st = _ := hst
    subst hst
    split at hop
    · rename_i hq
      cases hop
      have hq : aOk1 lo i = true ∧ i + 1 < lo.length := hq
      exact lv_lstore_n hx hb hdg hi hl.2 (by rw [← hl.1]; exact hq.2) rfl (fun ls' h' => hw ad H locs ls' cells slots h1 h2 (aL_st2 (v := .long x) hl hq.1 h') hP hD hS hc hs)
    · cases hop
  · cases hop
theorem ok_lstore {γ : aM} {pc : Nat} {i : Nat} (hdg : decode γ.2.1 pc = .ok (.lstore i, 2)) : OpOK γ pc (o_lst i) (pc + 2) := by
  intro d mc ms al p l e R s m args below meth c Q D cA A ad0 n0 C lo st E I J t Ps hop hps hw ad H locs ls cells slots h1 h2 hl hP hD hS hc hs
  obtain ⟨hx, hb, hml, hr, hown, hts, hlk, hnm, ⟨hf, hlo, hrc, hrs⟩, ⟨hK, hAO⟩, hA, hX⟩ := C
  unfold o_lst at hop
  split at hop
  · rename_i x r hst
    have hst : st = _ := hst
    subst hst
    split at hop
    · rename_i hq
      cases hop
      have hq : aOk1 lo i = true ∧ i + 1 < lo.length := hq
      exact lv_lstore hx hb hdg hl.2 (by rw [← hl.1]; exact hq.2) rfl (fun ls' h' => hw ad H locs ls' cells slots h1 h2 (aL_st2 (v := .long x) hl hq.1 h') hP hD hS hc hs)
    · cases hop
  · cases hop
def o_ast (i : Nat) : aOp := fun _ s => match s.2.1 with
  | .ref x :: r => if aOk1 s.1 i = true ∧ i < s.1.length then some ((s.1.set i (some (.ref x)), r, s.2.2), []) else none
  | _ => none
theorem ok_astore_n {γ : aM} {pc : Nat} {k : Fin 4} {i : Nat} (hi : (k : Nat) = i) (hdg : decode γ.2.1 pc = .ok (.astore_n k, 1)) : OpOK γ pc (o_ast i) (pc + 1) := by
  intro d mc ms al p l e R s m args below meth c Q D cA A ad0 n0 C lo st E I J t Ps hop hps hw ad H locs ls cells slots h1 h2 hl hP hD hS hc hs
  obtain ⟨hx, hb, hml, hr, hown, hts, hlk, hnm, ⟨hf, hlo, hrc, hrs⟩, ⟨hK, hAO⟩, hA, hX⟩ := C
  unfold o_ast at hop
  split at hop
  · rename_i x r hst
    have hst : st = _ := hst
    subst hst
    split at hop
    · rename_i hq
      cases hop
      have hq : aOk1 lo i = true ∧ i < lo.length := hq
      exact lv_astore_n hx hb hdg hi hl.2 (by rw [← hl.1]; exact hq.2) rfl (fun ls' h' => hw ad H locs ls' cells slots h1 h2 (aL_st1 (v := .ref x) hl hq.1 h') hP hD hS hc hs)
    · cases hop
  · cases hop
theorem ok_astore {γ : aM} {pc : Nat} {i : Nat} (hdg : decode γ.2.1 pc = .ok (.astore i, 2)) : OpOK γ pc (o_ast i) (pc + 2) := by
  intro d mc ms al p l e R s m args below meth c Q D cA A ad0 n0 C lo st E I J t Ps hop hps hw ad H locs ls cells slots h1 h2 hl hP hD hS hc hs
  obtain ⟨hx, hb, hml, hr, hown, hts, hlk, hnm, ⟨hf, hlo, hrc, hrs⟩, ⟨hK, hAO⟩, hA, hX⟩ := C
  unfold o_ast at hop
  split at hop
  · rename_i x r hst
    have hst : st = _ := hst
    subst hst
    split at hop
    · rename_i hq
      cases hop
      have hq : aOk1 lo i = true ∧ i < lo.length := hq
      exact lv_astore hx hb hdg hl.2 (by rw [← hl.1]; exact hq.2) rfl (fun ls' h' => hw ad H locs ls' cells slots h1 h2 (aL_st1 (v := .ref x) hl hq.1 h') hP hD hS hc hs)
    · cases hop
  · cases hop
def o_iinc (i : Nat) (n : Int32) : aOp := fun _ s => match s.1[i]? with
  | some (some (.int x)) => if aOk1 s.1 i = true ∧ i < s.1.length then some ((s.1.set i (some (.int (x + n))), s.2), []) else none
  | _ => none
theorem ok_iinc {γ : aM} {pc i : Nat} {z : Int} {n : Int32} (hdg : decode γ.2.1 pc = .ok (.iinc i z, 3)) (hz : Int32.ofInt z = n) : OpOK γ pc (o_iinc i n) (pc + 3) := by
  intro d mc ms al p l e R s m args below meth c Q D cA A ad0 n0 C lo st E I J t Ps hop hps hw ad H locs ls cells slots h1 h2 hl hP hD hS hc hs
  obtain ⟨hx, hb, hml, hr, hown, hts, hlk, hnm, ⟨hf, hlo, hrc, hrs⟩, ⟨hK, hAO⟩, hA, hX⟩ := C
  unfold o_iinc at hop
  split at hop
  · rename_i x hst
    split at hop
    · rename_i hq
      cases hop
      have hq : aOk1 lo i = true ∧ i < lo.length := hq
      obtain ⟨k, hk⟩ := List.getElem?_of_mem (aLs_mem (ad := ad) (q := (i, .int x)).mpr ⟨.int x, hst, rfl⟩)
      exact lv_iinc hx hb hdg hl.2 hk (by rw [hz]) (by rw [← hl.1]; exact hq.2) rfl (fun ls' h' => hw ad H locs ls' cells slots h1 h2 (aL_st1 (v := .int (x + n)) hl hq.1 h') hP hD hS hc hs)
    · cases hop
  · cases hop
/-! fields -/
abbrev aO (E : aE) (a ci : Nat) : Prop := aIs E a ∧ E.2.1 a = (0, ci)
def fOK (own : String) (idx ci k : Nat) (ty : FieldType) (fin : Bool) : Prop := ∃ (C : String) (T : u_T) (N : Nat) (ty0 : Nat → FieldType), vwCl[ci]? = some (C, T, N) ∧ (∀ w ∈ u_ws C T N, w ∈ lw_tbg) ∧ (∀ k, k < N → parseFieldDescriptor (T k).2.2.1 = some (ty0 k)) ∧ (∀ a, a < N → ∀ b, b < N → a ≠ b → (T a).2.1 ≠ (T b).2.1) ∧ k < N ∧ Cond.fieldLink own idx (T k).1 (T k).2.1 (T k).2.2.1 ∈ lw_tbg ∧ ty0 k = ty ∧ (aKd ci).length = N ∧ (T k).2.2.2 = fin ∧ (fin = true → (T k).1 = own)
def o_getI (ci k : Nat) : aOp := fun E s => match s.2.1 with
  | .ref a :: r => some ((s.1, .int (s.2.2.1 a k) :: r, s.2.2), [aO E a ci])
  | _ => none
theorem ok_getI {γ : aM} {pc idx ci k : Nat} {ty : FieldType} {fin : Bool} (hf0 : fOK γ.1.cls idx ci k ty fin) (hk : (aKd ci).getD k true = true) (hdg : decode γ.2.1 pc = .ok (.getfield idx, 3)) : OpOK γ pc (o_getI ci k) (pc + 3) := by
  intro d mc ms al p l e R s m args below meth c Q D cA A ad0 n0 C lo st E I J t Ps hop hps hw ad H locs ls cells slots h1 h2 hl hP hD hS hc hs
  obtain ⟨hx, hb, hml, hr, hown, hts, hlk, hnm, ⟨hf, hlo, hrc, hrs⟩, ⟨hK, hAO⟩, hA, hX⟩ := C
  unfold o_getI at hop
  split at hop
  · rename_i a r hst
    have hst : st = _ := hst
    subst hst
    cases hop
    obtain ⟨C, T, N, ty0, q1, q2, q3, q4, q5, q6, q7, q8, q9, q10⟩ := hf0
    have he := aWs_at (cA := cA) (ad := ad) (I := I) (J := J) hps.1
    rw [aEnt_o hps.2] at he
    have hv := aFs_at (ad := ad) (E := E) (I := I) (a := a) (ks := aKd ci) (k := k) (by rw [q8]; exact q5)
    rw [if_pos hk] at hv
    exact va_get hx hb hts q2 hown hK hP (a - 1) he q1 k q5 (hts _ q6) (fun _ h => h) hv hdg (hw ad H locs ls cells slots h1 h2 hl hP hD hS hc hs)
  · cases hop
def o_getR (ci k : Nat) : aOp := fun E s => match s.2.1 with
  | .ref a :: r => some ((s.1, .ref (E.2.2 a k) :: r, s.2.2), [aO E a ci ∧ E.2.2 a k ≠ 0])
  | _ => none
theorem ok_getR {γ : aM} {pc idx ci k : Nat} {ty : FieldType} {fin : Bool} (hf0 : fOK γ.1.cls idx ci k ty fin) (hk : (aKd ci).getD k true = false) (hdg : decode γ.2.1 pc = .ok (.getfield idx, 3)) : OpOK γ pc (o_getR ci k) (pc + 3) := by
  intro d mc ms al p l e R s m args below meth c Q D cA A ad0 n0 C lo st E I J t Ps hop hps hw ad H locs ls cells slots h1 h2 hl hP hD hS hc hs
  obtain ⟨hx, hb, hml, hr, hown, hts, hlk, hnm, ⟨hf, hlo, hrc, hrs⟩, ⟨hK, hAO⟩, hA, hX⟩ := C
  unfold o_getR at hop
  split at hop
  · rename_i a r hst
    have hst : st = _ := hst
    subst hst
    cases hop
    obtain ⟨C, T, N, ty0, q1, q2, q3, q4, q5, q6, q7, q8, q9, q10⟩ := hf0
    have he := aWs_at (cA := cA) (ad := ad) (I := I) (J := J) hps.1.1
    rw [aEnt_o hps.1.2] at he
    have hv := aFs_at (ad := ad) (E := E) (I := I) (a := a) (ks := aKd ci) (k := k) (by rw [q8]; exact q5)
    rw [hk, if_neg (by decide)] at hv
    unfold aRef at hv
    rw [if_neg hps.2] at hv
    exact va_get hx hb hts q2 hown hK hP (a - 1) he q1 k q5 (hts _ q6) (fun _ h => h) hv hdg (hw ad H locs ls cells slots h1 h2 hl hP hD hS hc hs)
  · cases hop
theorem aFs_set {ad : Nat → Nat} {E : aE} {I : aI} {a k : Nat} {ks : List Bool} {v : Int32} (hk : ks.getD k true = true) : (aFs ad E I a ks).set k (.int v) = aFs ad E (aUp I a k v) a ks := by
  apply List.ext_getElem?
  intro j
  by_cases hj : j < ks.length
  · rw [aFs_at hj]
    by_cases e : k = j
    · subst e
      rw [List.getElem?_set_self (by rw [aFs_len]; exact hj), if_pos hk]
      simp [aUp]
    · rw [List.getElem?_set_ne e, aFs_at hj]
      have : aUp I a k v a j = I a j := by unfold aUp; rw [if_neg (fun q => e q.2.symm)]
      rw [this]
  · rw [List.getElem?_eq_none (by rw [List.length_set, aFs_len]; omega), List.getElem?_eq_none (by rw [aFs_len]; omega)]
theorem aUp_ne {I : aI} {a k b : Nat} {v : Int32} (h : b ≠ a) : aUp I a k v b = I b := by
  funext j
  unfold aUp
  rw [if_neg (fun q => h q.1)]
theorem aUpJ_ne {J : aJ} {a k b : Nat} {v : Int64} (h : b ≠ a) : aUpJ J a k v b = J b := by
  funext j
  unfold aUpJ
  rw [if_neg (fun q => h q.1)]
theorem aRw_ne {I : aI} {a b : Nat} {f : Nat → Int32} (h : b ≠ a) : aRw I a f b = I b := by
  funext j
  unfold aRw
  rw [if_neg h]
theorem aRwJ_ne {J : aJ} {a b : Nat} {f : Nat → Int64} (h : b ≠ a) : aRwJ J a f b = J b := by
  funext j
  unfold aRwJ
  rw [if_neg h]
theorem aUp_at {I : aI} {a k : Nat} {v : Int32} : aUp I a k v a = upd (I a) k v := by
  funext j
  simp [aUp, upd]
theorem aUpJ_at {J : aJ} {a k : Nat} {v : Int64} : aUpJ J a k v a = vp_updL (J a) k v := by
  funext j
  simp [aUpJ, vp_updL]
theorem aRw_at {I : aI} {a : Nat} {f : Nat → Int32} : aRw I a f a = f := by
  funext j
  simp [aRw]
theorem aRwJ_at {J : aJ} {a : Nat} {f : Nat → Int64} : aRwJ J a f a = f := by
  funext j
  simp [aRwJ]
def o_putI (ci k : Nat) : aOp := fun E s => match s.2.1 with
  | .int v :: .ref a :: r => some ((s.1, r, aUp s.2.2.1 a k v, s.2.2.2), [aO E a ci])
  | _ => none
def o_putZ (ci k : Nat) : aOp := fun E s => match s.2.1 with
  | .int v :: .ref a :: r => some ((s.1, r, aUp s.2.2.1 a k v, s.2.2.2), [aO E a ci ∧ (v = 0 ∨ v = 1)])
  | _ => none
theorem ok_putI {γ : aM} {pc idx ci k : Nat} (hf0 : fOK γ.1.cls idx ci k .int false) (hk : (aKd ci).getD k true = true) (hdg : decode γ.2.1 pc = .ok (.putfield idx, 3)) : OpOK γ pc (o_putI ci k) (pc + 3) := by
  intro d mc ms al p l e R s m args below meth c Q D cA A ad0 n0 C lo st E I J t Ps hop hps hw ad H locs ls cells slots h1 h2 hl hP hD hS hc hs
  obtain ⟨hx, hb, hml, hr, hown, hts, hlk, hnm, ⟨hf, hlo, hrc, hrs⟩, ⟨hK, hAO⟩, hA, hX⟩ := C
  unfold o_putI at hop
  split at hop
  · rename_i v a r hst
    have hst : st = _ := hst
    subst hst
    cases hop
    obtain ⟨C, T, N, ty0, q1, q2, q3, q4, q5, q6, q7, q8, q9, q10⟩ := hf0
    have he := aWs_at (cA := cA) (ad := ad) (I := I) (J := J) hps.1
    rw [aEnt_o hps.2] at he
    refine va_put (ty := .int) (v := .int v) hx hb hts q2 ty0 q3 q4 hown hK hP hD hS (a - 1) he q1 k q5 (hts _ q6) (fun _ h => h) q9 (by rw [q3 k q5, q7]) rfl rfl (by rw [aFs_len, q8]; exact q5) hdg (fun H1 locs1 hP1 hD1 hS1 => ?_)
    rw [aFs_set hk, aWs_set (E' := E) (I' := aUp I a k v) (J' := J) rfl (aEnt_o hps.2) (fun b hb => aEnt_eq rfl (fun _ => rfl) (aUp_ne hb) rfl) hps.1] at hP1 hD1
    exact hw ad H1 locs1 ls cells slots h1 h2 hl hP1 hD1 hS1 hc hs
  · cases hop
theorem ok_putZ {γ : aM} {pc idx ci k : Nat} (hf0 : fOK γ.1.cls idx ci k .boolean false) (hk : (aKd ci).getD k true = true) (hdg : decode γ.2.1 pc = .ok (.putfield idx, 3)) : OpOK γ pc (o_putZ ci k) (pc + 3) := by
  intro d mc ms al p l e R s m args below meth c Q D cA A ad0 n0 C lo st E I J t Ps hop hps hw ad H locs ls cells slots h1 h2 hl hP hD hS hc hs
  obtain ⟨hx, hb, hml, hr, hown, hts, hlk, hnm, ⟨hf, hlo, hrc, hrs⟩, ⟨hK, hAO⟩, hA, hX⟩ := C
  unfold o_putZ at hop
  split at hop
  · rename_i v a r hst
    have hst : st = _ := hst
    subst hst
    cases hop
    obtain ⟨C, T, N, ty0, q1, q2, q3, q4, q5, q6, q7, q8, q9, q10⟩ := hf0
    have he := aWs_at (cA := cA) (ad := ad) (I := I) (J := J) hps.1.1
    rw [aEnt_o hps.1.2] at he
    refine va_put (ty := .boolean) (v := .int v) hx hb hts q2 ty0 q3 q4 hown hK hP hD hS (a - 1) he q1 k q5 (hts _ q6) (fun _ h => h) q9 (by rw [q3 k q5, q7]) (by rcases hps.2 with rfl | rfl <;> rfl) (by rcases hps.2 with rfl | rfl <;> rfl) (by rw [aFs_len, q8]; exact q5) hdg (fun H1 locs1 hP1 hD1 hS1 => ?_)
    rw [aFs_set hk, aWs_set (E' := E) (I' := aUp I a k v) (J' := J) rfl (aEnt_o hps.1.2) (fun b hb => aEnt_eq rfl (fun _ => rfl) (aUp_ne hb) rfl) hps.1.1] at hP1 hD1
    exact hw ad H1 locs1 ls cells slots h1 h2 hl hP1 hD1 hS1 hc hs
  · cases hop
/-! arrays -/
abbrev aAr (E : aE) (k a : Nat) (i : Int32) : Prop := aIs E a ∧ (E.2.1 a).1 = k ∧ vp_in i (E.2.1 a).2
abbrev aCp (E : aE) (k a0 a : Nat) (sp dp n : Int32) : Prop := aIs E a0 ∧ aIs E a ∧ (E.2.1 a0).1 = k ∧ (E.2.1 a).1 = k ∧ (¬ sp < 0 ∧ ¬ dp < 0 ∧ ¬ n < 0) ∧ sp.toNatClampNeg + n.toNatClampNeg ≤ (E.2.1 a0).2 ∧ dp.toNatClampNeg + n.toNatClampNeg ≤ (E.2.1 a).2
def o_iald : aOp := fun E s => match s.2.1 with
  | .int i :: .ref a :: r => some ((s.1, .int (s.2.2.1 a i.toNatClampNeg) :: r, s.2.2), [aAr E 1 a i])
  | _ => none
theorem ok_iaload {γ : aM} {pc : Nat} (hdg : decode γ.2.1 pc = .ok (.iaload, 1)) : OpOK γ pc o_iald (pc + 1) := by
  intro d mc ms al p l e R s m args below meth c Q D cA A ad0 n0 C lo st E I J t Ps hop hps hw ad H locs ls cells slots h1 h2 hl hP hD hS hc hs
  obtain ⟨hx, hb, hml, hr, hown, hts, hlk, hnm, ⟨hf, hlo, hrc, hrs⟩, ⟨hK, hAO⟩, hA, hX⟩ := C
  unfold o_iald at hop
  split at hop
  · rename_i i a r hst
    have hst : st = _ := hst
    subst hst
    cases hop
    have he := aWs_at (cA := cA) (ad := ad) (I := I) (J := J) hps.1
    rw [aEnt_1 hps.2.1] at he
    exact va_iald hx hb hK hP (a - 1) 0 he rfl hps.2.2 hdg (hw ad H locs ls cells slots h1 h2 hl hP hD hS hc hs)
  · cases hop
def o_lald : aOp := fun E s => match s.2.1 with
  | .int i :: .ref a :: r => some ((s.1, .long (s.2.2.2 a i.toNatClampNeg) :: r, s.2.2), [aAr E 2 a i])
  | _ => none
theorem ok_laload {γ : aM} {pc : Nat} (hdg : decode γ.2.1 pc = .ok (.laload, 1)) : OpOK γ pc o_lald (pc + 1) := by
  intro d mc ms al p l e R s m args below meth c Q D cA A ad0 n0 C lo st E I J t Ps hop hps hw ad H locs ls cells slots h1 h2 hl hP hD hS hc hs
  obtain ⟨hx, hb, hml, hr, hown, hts, hlk, hnm, ⟨hf, hlo, hrc, hrs⟩, ⟨hK, hAO⟩, hA, hX⟩ := C
  unfold o_lald at hop
  split at hop
  · rename_i i a r hst
    have hst : st = _ := hst
    subst hst
    cases hop
    have he := aWs_at (cA := cA) (ad := ad) (I := I) (J := J) hps.1
    rw [aEnt_2 hps.2.1] at he
    exact va_lald hx hb hK hP (a - 1) 1 he rfl hps.2.2 hdg (hw ad H locs ls cells slots h1 h2 hl hP hD hS hc hs)
  · cases hop
def o_zald : aOp := fun E s => match s.2.1 with
  | .int i :: .ref a :: r => some ((s.1, .int (s.2.2.1 a i.toNatClampNeg) :: r, s.2.2), [aAr E 3 a i])
  | _ => none
theorem ok_baload {γ : aM} {pc : Nat} (hdg : decode γ.2.1 pc = .ok (.baload, 1)) : OpOK γ pc o_zald (pc + 1) := by
  intro d mc ms al p l e R s m args below meth c Q D cA A ad0 n0 C lo st E I J t Ps hop hps hw ad H locs ls cells slots h1 h2 hl hP hD hS hc hs
  obtain ⟨hx, hb, hml, hr, hown, hts, hlk, hnm, ⟨hf, hlo, hrc, hrs⟩, ⟨hK, hAO⟩, hA, hX⟩ := C
  unfold o_zald at hop
  split at hop
  · rename_i i a r hst
    have hst : st = _ := hst
    subst hst
    cases hop
    have he := aWs_at (cA := cA) (ad := ad) (I := I) (J := J) hps.1
    rw [aEnt_3 hps.2.1] at he
    exact va_zald hx hb hK hP (a - 1) 2 he rfl hps.2.2 hdg (hw ad H locs ls cells slots h1 h2 hl hP hD hS hc hs)
  · cases hop
def o_iast : aOp := fun E s => match s.2.1 with
  | .int v :: .int i :: .ref a :: r => some ((s.1, r, aUp s.2.2.1 a i.toNatClampNeg v, s.2.2.2), [aAr E 1 a i])
  | _ => none
theorem ok_iastore {γ : aM} {pc : Nat} (hdg : decode γ.2.1 pc = .ok (.iastore, 1)) : OpOK γ pc o_iast (pc + 1) := by
  intro d mc ms al p l e R s m args below meth c Q D cA A ad0 n0 C lo st E I J t Ps hop hps hw ad H locs ls cells slots h1 h2 hl hP hD hS hc hs
  obtain ⟨hx, hb, hml, hr, hown, hts, hlk, hnm, ⟨hf, hlo, hrc, hrs⟩, ⟨hK, hAO⟩, hA, hX⟩ := C
  unfold o_iast at hop
  split at hop
  · rename_i v i a r hst
    have hst : st = _ := hst
    subst hst
    cases hop
    have he := aWs_at (cA := cA) (ad := ad) (I := I) (J := J) hps.1
    rw [aEnt_1 hps.2.1] at he
    refine va_iast hx hb hK hP hD hS (a - 1) 0 he rfl hps.2.2 hdg (fun H1 locs1 hP1 hD1 hS1 => ?_)
    rw [← aUp_at, aWs_set (E' := E) (I' := aUp I a i.toNatClampNeg v) (J' := J) rfl (aEnt_1 hps.2.1) (fun b hb => aEnt_eq rfl (fun _ => rfl) (aUp_ne hb) rfl) hps.1] at hP1 hD1
    exact hw ad H1 locs1 ls cells slots h1 h2 hl hP1 hD1 hS1 hc hs
  · cases hop
def o_last : aOp := fun E s => match s.2.1 with
  | .long v :: .int i :: .ref a :: r => some ((s.1, r, s.2.2.1, aUpJ s.2.2.2 a i.toNatClampNeg v), [aAr E 2 a i])
  | _ => none
theorem ok_lastore {γ : aM} {pc : Nat} (hdg : decode γ.2.1 pc = .ok (.lastore, 1)) : OpOK γ pc o_last (pc + 1) := by
  intro d mc ms al p l e R s m args below meth c Q D cA A ad0 n0 C lo st E I J t Ps hop hps hw ad H locs ls cells slots h1 h2 hl hP hD hS hc hs
  obtain ⟨hx, hb, hml, hr, hown, hts, hlk, hnm, ⟨hf, hlo, hrc, hrs⟩, ⟨hK, hAO⟩, hA, hX⟩ := C
  unfold o_last at hop
  split at hop
  · rename_i v i a r hst
    have hst : st = _ := hst
    subst hst
    cases hop
    have he := aWs_at (cA := cA) (ad := ad) (I := I) (J := J) hps.1
    rw [aEnt_2 hps.2.1] at he
    refine va_last hx hb hK hP hD hS (a - 1) 1 he rfl hps.2.2 hdg (fun H1 locs1 hP1 hD1 hS1 => ?_)
    rw [← aUpJ_at, aWs_set (E' := E) (I' := I) (J' := aUpJ J a i.toNatClampNeg v) rfl (aEnt_2 hps.2.1) (fun b hb => aEnt_eq rfl (fun _ => rfl) rfl (aUpJ_ne hb)) hps.1] at hP1 hD1
    exact hw ad H1 locs1 ls cells slots h1 h2 hl hP1 hD1 hS1 hc hs
  · cases hop
def o_zast : aOp := fun E s => match s.2.1 with
  | .int v :: .int i :: .ref a :: r => some ((s.1, r, aUp s.2.2.1 a i.toNatClampNeg v, s.2.2.2), [aAr E 3 a i ∧ (v = 0 ∨ v = 1)])
  | _ => none
theorem ok_bastore {γ : aM} {pc : Nat} (hdg : decode γ.2.1 pc = .ok (.bastore, 1)) : OpOK γ pc o_zast (pc + 1) := by
  intro d mc ms al p l e R s m args below meth c Q D cA A ad0 n0 C lo st E I J t Ps hop hps hw ad H locs ls cells slots h1 h2 hl hP hD hS hc hs
  obtain ⟨hx, hb, hml, hr, hown, hts, hlk, hnm, ⟨hf, hlo, hrc, hrs⟩, ⟨hK, hAO⟩, hA, hX⟩ := C
  unfold o_zast at hop
  split at hop
  · rename_i v i a r hst
    have hst : st = _ := hst
    subst hst
    cases hop
    have he := aWs_at (cA := cA) (ad := ad) (I := I) (J := J) hps.1.1
    rw [aEnt_3 hps.1.2.1] at he
    refine va_zast hx hb hK hP hD hS (a - 1) 2 he rfl hps.1.2.2 hdg (fun H1 locs1 hP1 hD1 hS1 => ?_)
    have hz : vp_nar .boolean v = v := by rcases hps.2 with rfl | rfl <;> rfl
    rw [hz] at hP1 hD1
    rw [← aUp_at, aWs_set (E' := E) (I' := aUp I a i.toNatClampNeg v) (J' := J) rfl (aEnt_3 hps.1.2.1) (fun b hb => aEnt_eq rfl (fun _ => rfl) (aUp_ne hb) rfl) hps.1.1] at hP1 hD1
    exact hw ad H1 locs1 ls cells slots h1 h2 hl hP1 hD1 hS1 hc hs
  · cases hop
def o_aald4 : aOp := fun E s => match s.2.1 with
  | .int i :: .ref a :: r => some ((s.1, .ref (E.2.2 a i.toNatClampNeg) :: r, s.2.2), [aAr E 4 a i ∧ E.2.2 a i.toNatClampNeg ≠ 0])
  | _ => none
theorem ok_aald4 {γ : aM} {pc : Nat} (hdg : decode γ.2.1 pc = .ok (.aaload, 1)) : OpOK γ pc o_aald4 (pc + 1) := by
  intro d mc ms al p l e R s m args below meth c Q D cA A ad0 n0 C lo st E I J t Ps hop hps hw ad H locs ls cells slots h1 h2 hl hP hD hS hc hs
  obtain ⟨hx, hb, hml, hr, hown, hts, hlk, hnm, ⟨hf, hlo, hrc, hrs⟩, ⟨hK, hAO⟩, hA, hX⟩ := C
  unfold o_aald4 at hop
  split at hop
  · rename_i i a r hst
    have hst : st = _ := hst
    subst hst
    cases hop
    have he := aWs_at (cA := cA) (ad := ad) (I := I) (J := J) hps.1.1
    rw [aEnt_4 hps.1.2.1] at he
    have hlt : i.toNatClampNeg < (E.2.1 a).2 := Nat.not_le.mp fun q => hps.1.2.2 (Or.inr q)
    have hcell := hP (a - 1) _ he
    have hrf : va_rf (aRef ad (E.2.2 a i.toNatClampNeg)) = .ref (ad (E.2.2 a i.toNatClampNeg)) := by
      unfold aRef
      rw [if_neg hps.2]
      rfl
    exact W.aald (v := .ref (ad (E.2.2 a i.toNatClampNeg))) (ty := .object "MarkovChainDistances$Chain") hx hb hcell ((hK.2 3 _ rfl).1 _ (fun j => va_rf (aRef ad (E.2.2 a j)))) rfl (fun q => by cases q) (by show ¬ (i < 0 ∨ (arrV _ _ _).slots.size ≤ _); rw [arrV_size]; exact hps.1.2.2) (by show (arrV _ _ _).slots[_]? = _; rw [arrV_read _ _ hlt, hrf]) rfl rfl hdg (hw ad H locs ls cells slots h1 h2 hl hP hD hS hc hs)
  · cases hop
def o_aald5 : aOp := fun E s => match s.2.1 with
  | .int i :: .ref a :: r => some ((s.1, .ref (E.2.2 a i.toNatClampNeg) :: r, s.2.2), [aAr E 5 a i ∧ E.2.2 a i.toNatClampNeg ≠ 0])
  | _ => none
theorem ok_aald5 {γ : aM} {pc : Nat} (hdg : decode γ.2.1 pc = .ok (.aaload, 1)) : OpOK γ pc o_aald5 (pc + 1) := by
  intro d mc ms al p l e R s m args below meth c Q D cA A ad0 n0 C lo st E I J t Ps hop hps hw ad H locs ls cells slots h1 h2 hl hP hD hS hc hs
  obtain ⟨hx, hb, hml, hr, hown, hts, hlk, hnm, ⟨hf, hlo, hrc, hrs⟩, ⟨hK, hAO⟩, hA, hX⟩ := C
  unfold o_aald5 at hop
  split at hop
  · rename_i i a r hst
    have hst : st = _ := hst
    subst hst
    cases hop
    have he := aWs_at (cA := cA) (ad := ad) (I := I) (J := J) hps.1.1
    rw [aEnt_5 hps.1.2.1] at he
    have hlt : i.toNatClampNeg < (E.2.1 a).2 := Nat.not_le.mp fun q => hps.1.2.2 (Or.inr q)
    have hcell := hP (a - 1) _ he
    have hrf : va_rf (aRef ad (E.2.2 a i.toNatClampNeg)) = .ref (ad (E.2.2 a i.toNatClampNeg)) := by
      unfold aRef
      rw [if_neg hps.2]
      rfl
    exact W.aald (v := .ref (ad (E.2.2 a i.toNatClampNeg))) (ty := .array .long) hx hb hcell ((hK.2 4 _ rfl).1 _ (fun j => va_rf (aRef ad (E.2.2 a j)))) rfl (fun q => by cases q) (by show ¬ (i < 0 ∨ (arrV _ _ _).slots.size ≤ _); rw [arrV_size]; exact hps.1.2.2) (by show (arrV _ _ _).slots[_]? = _; rw [arrV_read _ _ hlt, hrf]) rfl rfl hdg (hw ad H locs ls cells slots h1 h2 hl hP hD hS hc hs)
  · cases hop
def o_cpI : aOp := fun E s => match s.2.1 with
  | .int n :: .int dp :: .ref a :: .int sp :: .ref a0 :: r => if aSm r ≤ 8 then some ((s.1, r, aRw s.2.2.1 a (va_cpy (s.2.2.1 a0) (s.2.2.1 a) sp.toNatClampNeg dp.toNatClampNeg n.toNatClampNeg), s.2.2.2), [aCp E 1 a0 a sp dp n]) else none
  | _ => none
theorem ok_cpI {γ : aM} {pc idx : Nat} (hw1 : Cond.methodLink γ.1.cls idx arraycopyName ∈ lw_tbg) (hw2 : Cond.native arraycopyName ∈ lw_tbg) (hw3 : Cond.static arraycopyName ∈ lw_tbg) (hw4 : Cond.initialized "java/lang/System" ∈ lw_tbg) (hdg : decode γ.2.1 pc = .ok (.invokestatic idx, 3)) : OpOK γ pc o_cpI (pc + 3) := by
  intro d mc ms al p l e R s m args below meth c Q D cA A ad0 n0 C lo st E I J t Ps hop hps hw ad H locs ls cells slots h1 h2 hl hP hD hS hc hs
  obtain ⟨hx, hb, hml, hr, hown, hts, hlk, hnm, ⟨hf, hlo, hrc, hrs⟩, ⟨hK, hAO⟩, hA, hX⟩ := C
  unfold o_cpI at hop
  split at hop
  · rename_i n dp a sp a0 r hst
    have hst : st = _ := hst
    subst hst
    split at hop
    · rename_i hr8
      cases hop
      obtain ⟨b1, b2, b3, b4, ⟨b5, b6, b7⟩, b8, b9⟩ := hps
      have he0 := aWs_at (cA := cA) (ad := ad) (I := I) (J := J) b1
      rw [aEnt_1 b3] at he0
      have he := aWs_at (cA := cA) (ad := ad) (I := I) (J := J) b2
      rw [aEnt_1 b4] at he
      have hn : nativeFrameWords "java/lang/System" "arraycopy" 5 = 7 := by decide +kernel
      refine va_copyi (ty := .int) hx hb (hml.trans hl.2.1.symm) hown (hts _ hw1) (hts _ hw2) (hts _ hw3) (hts _ hw4) hK hP hD hS (a0 - 1) (a - 1) 0 0 he0 he rfl rfl rfl b5 b6 b7 b8 b9 (fun _ _ => rfl) (by omega) (by rw [aSm_tv, hn]; omega) hdg (fun H1 locs1 hP1 hD1 hS1 => ?_)
      rw [show (va_cpy (I a0) (I a) sp.toNatClampNeg dp.toNatClampNeg n.toNatClampNeg) = (aRw I a (va_cpy (I a0) (I a) sp.toNatClampNeg dp.toNatClampNeg n.toNatClampNeg)) a from aRw_at.symm, aWs_set (E' := E) (I' := aRw I a (va_cpy (I a0) (I a) sp.toNatClampNeg dp.toNatClampNeg n.toNatClampNeg)) (J' := J) rfl (aEnt_1 b4) (fun b hb => aEnt_eq rfl (fun _ => rfl) (aRw_ne hb) rfl) b2] at hP1 hD1
      exact hw ad H1 locs1 ls cells slots h1 h2 hl hP1 hD1 hS1 hc hs
    · cases hop
  · cases hop
def o_cpJ : aOp := fun E s => match s.2.1 with
  | .int n :: .int dp :: .ref a :: .int sp :: .ref a0 :: r => if aSm r ≤ 8 then some ((s.1, r, s.2.2.1, aRwJ s.2.2.2 a (va_cpy (s.2.2.2 a0) (s.2.2.2 a) sp.toNatClampNeg dp.toNatClampNeg n.toNatClampNeg)), [aCp E 2 a0 a sp dp n]) else none
  | _ => none
theorem ok_cpJ {γ : aM} {pc idx : Nat} (hw1 : Cond.methodLink γ.1.cls idx arraycopyName ∈ lw_tbg) (hw2 : Cond.native arraycopyName ∈ lw_tbg) (hw3 : Cond.static arraycopyName ∈ lw_tbg) (hw4 : Cond.initialized "java/lang/System" ∈ lw_tbg) (hdg : decode γ.2.1 pc = .ok (.invokestatic idx, 3)) : OpOK γ pc o_cpJ (pc + 3) := by
  intro d mc ms al p l e R s m args below meth c Q D cA A ad0 n0 C lo st E I J t Ps hop hps hw ad H locs ls cells slots h1 h2 hl hP hD hS hc hs
  obtain ⟨hx, hb, hml, hr, hown, hts, hlk, hnm, ⟨hf, hlo, hrc, hrs⟩, ⟨hK, hAO⟩, hA, hX⟩ := C
  unfold o_cpJ at hop
  split at hop
  · rename_i n dp a sp a0 r hst
    have hst : st = _ := hst
    subst hst
    split at hop
    · rename_i hr8
      cases hop
      obtain ⟨b1, b2, b3, b4, ⟨b5, b6, b7⟩, b8, b9⟩ := hps
      have he0 := aWs_at (cA := cA) (ad := ad) (I := I) (J := J) b1
      rw [aEnt_2 b3] at he0
      have he := aWs_at (cA := cA) (ad := ad) (I := I) (J := J) b2
      rw [aEnt_2 b4] at he
      have hn : nativeFrameWords "java/lang/System" "arraycopy" 5 = 7 := by decide +kernel
      refine va_copyl (ty := .long) hx hb (hml.trans hl.2.1.symm) hown (hts _ hw1) (hts _ hw2) (hts _ hw3) (hts _ hw4) hK hP hD hS (a0 - 1) (a - 1) 1 1 he0 he rfl rfl rfl b5 b6 b7 b8 b9 (fun _ _ => rfl) (by omega) (by rw [aSm_tv, hn]; omega) hdg (fun H1 locs1 hP1 hD1 hS1 => ?_)
      rw [show (va_cpy (J a0) (J a) sp.toNatClampNeg dp.toNatClampNeg n.toNatClampNeg) = (aRwJ J a (va_cpy (J a0) (J a) sp.toNatClampNeg dp.toNatClampNeg n.toNatClampNeg)) a from aRwJ_at.symm, aWs_set (E' := E) (I' := I) (J' := aRwJ J a (va_cpy (J a0) (J a) sp.toNatClampNeg dp.toNatClampNeg n.toNatClampNeg)) rfl (aEnt_2 b4) (fun b hb => aEnt_eq rfl (fun _ => rfl) rfl (aRwJ_ne hb)) b2] at hP1 hD1
      exact hw ad H1 locs1 ls cells slots h1 h2 hl hP1 hD1 hS1 hc hs
    · cases hop
  · cases hop
/-! the script (address 0) -/
def o_sld (L : Nat) (xs : Nat → Int32) : aOp := fun _ s => match s.2.1 with
  | .int i :: .ref 0 :: r => some ((s.1, .int (xs i.toNatClampNeg) :: r, s.2.2), [vp_in i L])
  | _ => none
theorem ok_sld {γ : aM} {pc L : Nat} {xs : Nat → Int32} (hγ : γ.2.2.2.2 = some (L, xs)) (hdg : decode γ.2.1 pc = .ok (.iaload, 1)) : OpOK γ pc (o_sld L xs) (pc + 1) := by
  intro d mc ms al p l e R s m args below meth c Q D cA A ad0 n0 C lo st E I J t Ps hop hps hw ad H locs ls cells slots h1 h2 hl hP hD hS hc hs
  obtain ⟨hx, hb, hml, hr, hown, hts, hlk, hnm, ⟨hf, hlo, hrc, hrs⟩, ⟨hK, hAO⟩, hA, hX⟩ := C
  unfold o_sld at hop
  split at hop
  · rename_i i r hst
    have hst : st = _ := hst
    subst hst
    cases hop
    obtain ⟨x1, x2, x3⟩ := hX L xs hγ
    have e0 : ad 0 = ad0 0 := h2 0 (Or.inl (Nat.zero_le _))
    show W p l e R s m args below meth c H locs cells slots Q (F0 m pc ls (.int i :: .ref (ad 0) :: r.map (tv ad)))
    rw [e0]
    exact va_sld hx hb x1 x2 x3 hS hps hdg (hw ad H locs ls cells slots h1 h2 hl hP hD hS hc hs)
  · cases hop
def o_slen (L : Nat) : aOp := fun _ s => match s.2.1 with
  | .ref 0 :: r => some ((s.1, .int (Int32.ofNat L) :: r, s.2.2), [])
  | _ => none
theorem ok_slen {γ : aM} {pc L : Nat} {xs : Nat → Int32} (hγ : γ.2.2.2.2 = some (L, xs)) (hdg : decode γ.2.1 pc = .ok (.arraylength, 1)) : OpOK γ pc (o_slen L) (pc + 1) := by
  intro d mc ms al p l e R s m args below meth c Q D cA A ad0 n0 C lo st E I J t Ps hop hps hw ad H locs ls cells slots h1 h2 hl hP hD hS hc hs
  obtain ⟨hx, hb, hml, hr, hown, hts, hlk, hnm, ⟨hf, hlo, hrc, hrs⟩, ⟨hK, hAO⟩, hA, hX⟩ := C
  unfold o_slen at hop
  split at hop
  · rename_i r hst
    have hst : st = _ := hst
    subst hst
    cases hop
    obtain ⟨x1, x2, x3⟩ := hX L xs hγ
    have e0 : ad 0 = ad0 0 := h2 0 (Or.inl (Nat.zero_le _))
    show W p l e R s m args below meth c H locs cells slots Q (F0 m pc ls (.ref (ad 0) :: r.map (tv ad)))
    rw [e0]
    exact va_slen hx hb x1 x2 x3 hS hdg (hw ad H locs ls cells slots h1 h2 hl hP hD hS hc hs)
  · cases hop
end
section
/-! RULES: branches -/
theorem Ex.icmp_eq {γ : aM} {d mc ms n0 : Nat} {al : Nat × Nat} {pc : Nat} {lo : aLo} {E : aE} {I : aI} {J : aJ} {Q : aPost} {x y : Int32} {r : List Value} {off : Int} {tgt : Nat} (hdg : decode γ.2.1 pc = .ok (.if_icmp .eq off, 3)) (ht : (pc : Int) + off = (tgt : Int)) (kt : x = y → Ex γ d mc ms n0 al tgt lo r E I J Q) (kf : ¬ (x = y) → Ex γ d mc ms n0 al (pc + 3) lo r E I J Q) : Ex γ d mc ms n0 al pc lo (.int y :: .int x :: r) E I J Q := by
  intro p l e R s m args below meth c D cA A ad0 C ad H locs ls cells slots h1 h2 hl hP hD hS hc hs
  have C0 := C
  obtain ⟨hx, hb, hml, hrt, hown, hts, hlk, hnm, ⟨hf, hlo, hrc, hrs⟩, ⟨hK, hAO⟩, hA, hX⟩ := C
  exact lv_icmp_eq hx hb hdg ht (fun q => kt q p l e R s m args below meth c D cA A ad0 C0 ad H locs ls cells slots h1 h2 hl hP hD hS hc hs) (fun q => kf q p l e R s m args below meth c D cA A ad0 C0 ad H locs ls cells slots h1 h2 hl hP hD hS hc hs)
theorem Ex.if_eq {γ : aM} {d mc ms n0 : Nat} {al : Nat × Nat} {pc : Nat} {lo : aLo} {E : aE} {I : aI} {J : aJ} {Q : aPost} {x : Int32} {r : List Value} {off : Int} {tgt : Nat} (hdg : decode γ.2.1 pc = .ok (.ifCond .eq off, 3)) (ht : (pc : Int) + off = (tgt : Int)) (kt : x = 0 → Ex γ d mc ms n0 al tgt lo r E I J Q) (kf : ¬ (x = 0) → Ex γ d mc ms n0 al (pc + 3) lo r E I J Q) : Ex γ d mc ms n0 al pc lo (.int x :: r) E I J Q := by
  intro p l e R s m args below meth c D cA A ad0 C ad H locs ls cells slots h1 h2 hl hP hD hS hc hs
  have C0 := C
  obtain ⟨hx, hb, hml, hrt, hown, hts, hlk, hnm, ⟨hf, hlo, hrc, hrs⟩, ⟨hK, hAO⟩, hA, hX⟩ := C
  exact lv_if_eq hx hb hdg ht (fun q => kt q p l e R s m args below meth c D cA A ad0 C0 ad H locs ls cells slots h1 h2 hl hP hD hS hc hs) (fun q => kf q p l e R s m args below meth c D cA A ad0 C0 ad H locs ls cells slots h1 h2 hl hP hD hS hc hs)
theorem Ex.icmp_ne {γ : aM} {d mc ms n0 : Nat} {al : Nat × Nat} {pc : Nat} {lo : aLo} {E : aE} {I : aI} {J : aJ} {Q : aPost} {x y : Int32} {r : List Value} {off : Int} {tgt : Nat} (hdg : decode γ.2.1 pc = .ok (.if_icmp .ne off, 3)) (ht : (pc : Int) + off = (tgt : Int)) (kt : ¬ x = y → Ex γ d mc ms n0 al tgt lo r E I J Q) (kf : x = y → Ex γ d mc ms n0 al (pc + 3) lo r E I J Q) : Ex γ d mc ms n0 al pc lo (.int y :: .int x :: r) E I J Q := by
  intro p l e R s m args below meth c D cA A ad0 C ad H locs ls cells slots h1 h2 hl hP hD hS hc hs
  have C0 := C
  obtain ⟨hx, hb, hml, hrt, hown, hts, hlk, hnm, ⟨hf, hlo, hrc, hrs⟩, ⟨hK, hAO⟩, hA, hX⟩ := C
  exact lv_icmp_ne hx hb hdg ht (fun q => kt q p l e R s m args below meth c D cA A ad0 C0 ad H locs ls cells slots h1 h2 hl hP hD hS hc hs) (fun q => kf q p l e R s m args below meth c D cA A ad0 C0 ad H locs ls cells slots h1 h2 hl hP hD hS hc hs)
theorem Ex.if_ne {γ : aM} {d mc ms n0 : Nat} {al : Nat × Nat} {pc : Nat} {lo : aLo} {E : aE} {I : aI} {J : aJ} {Q : aPost} {x : Int32} {r : List Value} {off : Int} {tgt : Nat} (hdg : decode γ.2.1 pc = .ok (.ifCond .ne off, 3)) (ht : (pc : Int) + off = (tgt : Int)) (kt : ¬ x = 0 → Ex γ d mc ms n0 al tgt lo r E I J Q) (kf : x = 0 → Ex γ d mc ms n0 al (pc + 3) lo r E I J Q) : Ex γ d mc ms n0 al pc lo (.int x :: r) E I J Q := by
  intro p l e R s m args below meth c D cA A ad0 C ad H locs ls cells slots h1 h2 hl hP hD hS hc hs
  have C0 := C
  obtain ⟨hx, hb, hml, hrt, hown, hts, hlk, hnm, ⟨hf, hlo, hrc, hrs⟩, ⟨hK, hAO⟩, hA, hX⟩ := C
  exact lv_if_ne hx hb hdg ht (fun q => kt q p l e R s m args below meth c D cA A ad0 C0 ad H locs ls cells slots h1 h2 hl hP hD hS hc hs) (fun q => kf q p l e R s m args below meth c D cA A ad0 C0 ad H locs ls cells slots h1 h2 hl hP hD hS hc hs)
theorem Ex.icmp_lt {γ : aM} {d mc ms n0 : Nat} {al : Nat × Nat} {pc : Nat} {lo : aLo} {E : aE} {I : aI} {J : aJ} {Q : aPost} {x y : Int32} {r : List Value} {off : Int} {tgt : Nat} (hdg : decode γ.2.1 pc = .ok (.if_icmp .lt off, 3)) (ht : (pc : Int) + off = (tgt : Int)) (kt : x < y → Ex γ d mc ms n0 al tgt lo r E I J Q) (kf : ¬ (x < y) → Ex γ d mc ms n0 al (pc + 3) lo r E I J Q) : Ex γ d mc ms n0 al pc lo (.int y :: .int x :: r) E I J Q := by
  intro p l e R s m args below meth c D cA A ad0 C ad H locs ls cells slots h1 h2 hl hP hD hS hc hs
  have C0 := C
  obtain ⟨hx, hb, hml, hrt, hown, hts, hlk, hnm, ⟨hf, hlo, hrc, hrs⟩, ⟨hK, hAO⟩, hA, hX⟩ := C
  exact lv_icmp_lt hx hb hdg ht (fun q => kt q p l e R s m args below meth c D cA A ad0 C0 ad H locs ls cells slots h1 h2 hl hP hD hS hc hs) (fun q => kf q p l e R s m args below meth c D cA A ad0 C0 ad H locs ls cells slots h1 h2 hl hP hD hS hc hs)
theorem Ex.if_lt {γ : aM} {d mc ms n0 : Nat} {al : Nat × Nat} {pc : Nat} {lo : aLo} {E : aE} {I : aI} {J : aJ} {Q : aPost} {x : Int32} {r : List Value} {off : Int} {tgt : Nat} (hdg : decode γ.2.1 pc = .ok (.ifCond .lt off, 3)) (ht : (pc : Int) + off = (tgt : Int)) (kt : x < 0 → Ex γ d mc ms n0 al tgt lo r E I J Q) (kf : ¬ (x < 0) → Ex γ d mc ms n0 al (pc + 3) lo r E I J Q) : Ex γ d mc ms n0 al pc lo (.int x :: r) E I J Q := by
  intro p l e R s m args below meth c D cA A ad0 C ad H locs ls cells slots h1 h2 hl hP hD hS hc hs
  have C0 := C
  obtain ⟨hx, hb, hml, hrt, hown, hts, hlk, hnm, ⟨hf, hlo, hrc, hrs⟩, ⟨hK, hAO⟩, hA, hX⟩ := C
  exact lv_if_lt hx hb hdg ht (fun q => kt q p l e R s m args below meth c D cA A ad0 C0 ad H locs ls cells slots h1 h2 hl hP hD hS hc hs) (fun q => kf q p l e R s m args below meth c D cA A ad0 C0 ad H locs ls cells slots h1 h2 hl hP hD hS hc hs)
theorem Ex.icmp_ge {γ : aM} {d mc ms n0 : Nat} {al : Nat × Nat} {pc : Nat} {lo : aLo} {E : aE} {I : aI} {J : aJ} {Q : aPost} {x y : Int32} {r : List Value} {off : Int} {tgt : Nat} (hdg : decode γ.2.1 pc = .ok (.if_icmp .ge off, 3)) (ht : (pc : Int) + off = (tgt : Int)) (kt : y ≤ x → Ex γ d mc ms n0 al tgt lo r E I J Q) (kf : ¬ (y ≤ x) → Ex γ d mc ms n0 al (pc + 3) lo r E I J Q) : Ex γ d mc ms n0 al pc lo (.int y :: .int x :: r) E I J Q := by
  intro p l e R s m args below meth c D cA A ad0 C ad H locs ls cells slots h1 h2 hl hP hD hS hc hs
  have C0 := C
  obtain ⟨hx, hb, hml, hrt, hown, hts, hlk, hnm, ⟨hf, hlo, hrc, hrs⟩, ⟨hK, hAO⟩, hA, hX⟩ := C
  exact lv_icmp_ge hx hb hdg ht (fun q => kt q p l e R s m args below meth c D cA A ad0 C0 ad H locs ls cells slots h1 h2 hl hP hD hS hc hs) (fun q => kf q p l e R s m args below meth c D cA A ad0 C0 ad H locs ls cells slots h1 h2 hl hP hD hS hc hs)
theorem Ex.if_ge {γ : aM} {d mc ms n0 : Nat} {al : Nat × Nat} {pc : Nat} {lo : aLo} {E : aE} {I : aI} {J : aJ} {Q : aPost} {x : Int32} {r : List Value} {off : Int} {tgt : Nat} (hdg : decode γ.2.1 pc = .ok (.ifCond .ge off, 3)) (ht : (pc : Int) + off = (tgt : Int)) (kt : 0 ≤ x → Ex γ d mc ms n0 al tgt lo r E I J Q) (kf : ¬ (0 ≤ x) → Ex γ d mc ms n0 al (pc + 3) lo r E I J Q) : Ex γ d mc ms n0 al pc lo (.int x :: r) E I J Q := by
  intro p l e R s m args below meth c D cA A ad0 C ad H locs ls cells slots h1 h2 hl hP hD hS hc hs
  have C0 := C
  obtain ⟨hx, hb, hml, hrt, hown, hts, hlk, hnm, ⟨hf, hlo, hrc, hrs⟩, ⟨hK, hAO⟩, hA, hX⟩ := C
  exact lv_if_ge hx hb hdg ht (fun q => kt q p l e R s m args below meth c D cA A ad0 C0 ad H locs ls cells slots h1 h2 hl hP hD hS hc hs) (fun q => kf q p l e R s m args below meth c D cA A ad0 C0 ad H locs ls cells slots h1 h2 hl hP hD hS hc hs)
theorem Ex.icmp_gt {γ : aM} {d mc ms n0 : Nat} {al : Nat × Nat} {pc : Nat} {lo : aLo} {E : aE} {I : aI} {J : aJ} {Q : aPost} {x y : Int32} {r : List Value} {off : Int} {tgt : Nat} (hdg : decode γ.2.1 pc = .ok (.if_icmp .gt off, 3)) (ht : (pc : Int) + off = (tgt : Int)) (kt : y < x → Ex γ d mc ms n0 al tgt lo r E I J Q) (kf : ¬ (y < x) → Ex γ d mc ms n0 al (pc + 3) lo r E I J Q) : Ex γ d mc ms n0 al pc lo (.int y :: .int x :: r) E I J Q := by
  intro p l e R s m args below meth c D cA A ad0 C ad H locs ls cells slots h1 h2 hl hP hD hS hc hs
  have C0 := C
  obtain ⟨hx, hb, hml, hrt, hown, hts, hlk, hnm, ⟨hf, hlo, hrc, hrs⟩, ⟨hK, hAO⟩, hA, hX⟩ := C
  exact lv_icmp_gt hx hb hdg ht (fun q => kt q p l e R s m args below meth c D cA A ad0 C0 ad H locs ls cells slots h1 h2 hl hP hD hS hc hs) (fun q => kf q p l e R s m args below meth c D cA A ad0 C0 ad H locs ls cells slots h1 h2 hl hP hD hS hc hs)
theorem Ex.if_gt {γ : aM} {d mc ms n0 : Nat} {al : Nat × Nat} {pc : Nat} {lo : aLo} {E : aE} {I : aI} {J : aJ} {Q : aPost} {x : Int32} {r : List Value} {off : Int} {tgt : Nat} (hdg : decode γ.2.1 pc = .ok (.ifCond .gt off, 3)) (ht : (pc : Int) + off = (tgt : Int)) (kt : 0 < x → Ex γ d mc ms n0 al tgt lo r E I J Q) (kf : ¬ (0 < x) → Ex γ d mc ms n0 al (pc + 3) lo r E I J Q) : Ex γ d mc ms n0 al pc lo (.int x :: r) E I J Q := by
  intro p l e R s m args below meth c D cA A ad0 C ad H locs ls cells slots h1 h2 hl hP hD hS hc hs
  have C0 := C
  obtain ⟨hx, hb, hml, hrt, hown, hts, hlk, hnm, ⟨hf, hlo, hrc, hrs⟩, ⟨hK, hAO⟩, hA, hX⟩ := C
  exact lv_if_gt hx hb hdg ht (fun q => kt q p l e R s m args below meth c D cA A ad0 C0 ad H locs ls cells slots h1 h2 hl hP hD hS hc hs) (fun q => kf q p l e R s m args below meth c D cA A ad0 C0 ad H locs ls cells slots h1 h2 hl hP hD hS hc hs)
theorem Ex.icmp_le {γ : aM} {d mc ms n0 : Nat} {al : Nat × Nat} {pc : Nat} {lo : aLo} {E : aE} {I : aI} {J : aJ} {Q : aPost} {x y : Int32} {r : List Value} {off : Int} {tgt : Nat} (hdg : decode γ.2.1 pc = .ok (.if_icmp .le off, 3)) (ht : (pc : Int) + off = (tgt : Int)) (kt : x ≤ y → Ex γ d mc ms n0 al tgt lo r E I J Q) (kf : ¬ (x ≤ y) → Ex γ d mc ms n0 al (pc + 3) lo r E I J Q) : Ex γ d mc ms n0 al pc lo (.int y :: .int x :: r) E I J Q := by
  intro p l e R s m args below meth c D cA A ad0 C ad H locs ls cells slots h1 h2 hl hP hD hS hc hs
  have C0 := C
  obtain ⟨hx, hb, hml, hrt, hown, hts, hlk, hnm, ⟨hf, hlo, hrc, hrs⟩, ⟨hK, hAO⟩, hA, hX⟩ := C
  exact lv_icmp_le hx hb hdg ht (fun q => kt q p l e R s m args below meth c D cA A ad0 C0 ad H locs ls cells slots h1 h2 hl hP hD hS hc hs) (fun q => kf q p l e R s m args below meth c D cA A ad0 C0 ad H locs ls cells slots h1 h2 hl hP hD hS hc hs)
theorem Ex.if_le {γ : aM} {d mc ms n0 : Nat} {al : Nat × Nat} {pc : Nat} {lo : aLo} {E : aE} {I : aI} {J : aJ} {Q : aPost} {x : Int32} {r : List Value} {off : Int} {tgt : Nat} (hdg : decode γ.2.1 pc = .ok (.ifCond .le off, 3)) (ht : (pc : Int) + off = (tgt : Int)) (kt : x ≤ 0 → Ex γ d mc ms n0 al tgt lo r E I J Q) (kf : ¬ (x ≤ 0) → Ex γ d mc ms n0 al (pc + 3) lo r E I J Q) : Ex γ d mc ms n0 al pc lo (.int x :: r) E I J Q := by
  intro p l e R s m args below meth c D cA A ad0 C ad H locs ls cells slots h1 h2 hl hP hD hS hc hs
  have C0 := C
  obtain ⟨hx, hb, hml, hrt, hown, hts, hlk, hnm, ⟨hf, hlo, hrc, hrs⟩, ⟨hK, hAO⟩, hA, hX⟩ := C
  exact lv_if_le hx hb hdg ht (fun q => kt q p l e R s m args below meth c D cA A ad0 C0 ad H locs ls cells slots h1 h2 hl hP hD hS hc hs) (fun q => kf q p l e R s m args below meth c D cA A ad0 C0 ad H locs ls cells slots h1 h2 hl hP hD hS hc hs)
theorem lgc_eq {x y : Int64} : lg_cmp x y = 0 ↔ x = y := by
  unfold lg_cmp
  by_cases h1 : x > y
  · rw [if_pos h1]
    exact ⟨fun q => absurd q (by decide), fun q => absurd h1 (by rw [q]; exact Int64.lt_irrefl)⟩
  · rw [if_neg h1]
    by_cases h2 : x = y
    · rw [if_pos h2]
      exact ⟨fun _ => h2, fun _ => rfl⟩
    · rw [if_neg h2]
      exact ⟨fun q => absurd q (by decide), fun q => absurd q h2⟩
theorem lgc_lt {x y : Int64} : lg_cmp x y < 0 ↔ x < y := by
  unfold lg_cmp
  by_cases h1 : x > y
  · rw [if_pos h1]
    refine ⟨fun q => absurd q (by decide), fun q => ?_⟩
    have h1 := Int64.lt_iff_toInt_lt.mp h1
    have q := Int64.lt_iff_toInt_lt.mp q
    omega
  · rw [if_neg h1]
    by_cases h2 : x = y
    · rw [if_pos h2]
      refine ⟨fun q => absurd q (by decide), fun q => ?_⟩
      have q := Int64.lt_iff_toInt_lt.mp q
      rw [h2] at q
      omega
    · rw [if_neg h2]
      refine ⟨fun _ => ?_, fun _ => by decide⟩
      have h3 : ¬ y.toInt < x.toInt := fun q => h1 (Int64.lt_iff_toInt_lt.mpr q)
      have h4 : ¬ x.toInt = y.toInt := fun q => h2 (Int64.toInt_inj.mp q)
      exact Int64.lt_iff_toInt_lt.mpr (by omega)
theorem lgc_gt {x y : Int64} : 0 < lg_cmp x y ↔ y < x := by
  unfold lg_cmp
  by_cases h1 : x > y
  · rw [if_pos h1]
    exact ⟨fun _ => h1, fun _ => by decide⟩
  · rw [if_neg h1]
    by_cases h2 : x = y
    · rw [if_pos h2]
      exact ⟨fun q => absurd q (by decide), fun q => absurd q h1⟩
    · rw [if_neg h2]
      exact ⟨fun q => absurd q (by decide), fun q => absurd q h1⟩
theorem i32_nlt {x y : Int32} : ¬ x < y ↔ y ≤ x := by
  rw [Int32.lt_iff_toInt_lt, Int32.le_iff_toInt_le]
  omega
theorem i64_nlt {x y : Int64} : ¬ x < y ↔ y ≤ x := by
  rw [Int64.lt_iff_toInt_lt, Int64.le_iff_toInt_le]
  omega
theorem lgc_ge {x y : Int64} : 0 ≤ lg_cmp x y ↔ y ≤ x := by
  rw [← i32_nlt, ← i64_nlt, lgc_lt]
theorem lgc_le {x y : Int64} : lg_cmp x y ≤ 0 ↔ x ≤ y := by
  rw [← i32_nlt, ← i64_nlt, lgc_gt]
theorem Ex.lif_eq {γ : aM} {d mc ms n0 : Nat} {al : Nat × Nat} {pc : Nat} {lo : aLo} {E : aE} {I : aI} {J : aJ} {Q : aPost} {x y : Int64} {r : List Value} {off : Int} {tgt : Nat} (hdg : decode γ.2.1 pc = .ok (.ifCond .eq off, 3)) (ht : (pc : Int) + off = (tgt : Int)) (kt : x = y → Ex γ d mc ms n0 al tgt lo r E I J Q) (kf : ¬ (x = y) → Ex γ d mc ms n0 al (pc + 3) lo r E I J Q) : Ex γ d mc ms n0 al pc lo (.int (lg_cmp x y) :: r) E I J Q :=
  Ex.if_eq hdg ht (fun q => kt (lgc_eq.mp q)) (fun q => kf (fun z => q (lgc_eq.mpr z)))
theorem Ex.lif_ne {γ : aM} {d mc ms n0 : Nat} {al : Nat × Nat} {pc : Nat} {lo : aLo} {E : aE} {I : aI} {J : aJ} {Q : aPost} {x y : Int64} {r : List Value} {off : Int} {tgt : Nat} (hdg : decode γ.2.1 pc = .ok (.ifCond .ne off, 3)) (ht : (pc : Int) + off = (tgt : Int)) (kt : ¬ x = y → Ex γ d mc ms n0 al tgt lo r E I J Q) (kf : x = y → Ex γ d mc ms n0 al (pc + 3) lo r E I J Q) : Ex γ d mc ms n0 al pc lo (.int (lg_cmp x y) :: r) E I J Q :=
  Ex.if_ne hdg ht (fun q => kt ((not_congr lgc_eq).mp q)) (fun q => kf (lgc_eq.mp q))
theorem Ex.lif_lt {γ : aM} {d mc ms n0 : Nat} {al : Nat × Nat} {pc : Nat} {lo : aLo} {E : aE} {I : aI} {J : aJ} {Q : aPost} {x y : Int64} {r : List Value} {off : Int} {tgt : Nat} (hdg : decode γ.2.1 pc = .ok (.ifCond .lt off, 3)) (ht : (pc : Int) + off = (tgt : Int)) (kt : x < y → Ex γ d mc ms n0 al tgt lo r E I J Q) (kf : ¬ (x < y) → Ex γ d mc ms n0 al (pc + 3) lo r E I J Q) : Ex γ d mc ms n0 al pc lo (.int (lg_cmp x y) :: r) E I J Q :=
  Ex.if_lt hdg ht (fun q => kt (lgc_lt.mp q)) (fun q => kf (fun z => q (lgc_lt.mpr z)))
theorem Ex.lif_ge {γ : aM} {d mc ms n0 : Nat} {al : Nat × Nat} {pc : Nat} {lo : aLo} {E : aE} {I : aI} {J : aJ} {Q : aPost} {x y : Int64} {r : List Value} {off : Int} {tgt : Nat} (hdg : decode γ.2.1 pc = .ok (.ifCond .ge off, 3)) (ht : (pc : Int) + off = (tgt : Int)) (kt : y ≤ x → Ex γ d mc ms n0 al tgt lo r E I J Q) (kf : ¬ (y ≤ x) → Ex γ d mc ms n0 al (pc + 3) lo r E I J Q) : Ex γ d mc ms n0 al pc lo (.int (lg_cmp x y) :: r) E I J Q :=
  Ex.if_ge hdg ht (fun q => kt (lgc_ge.mp q)) (fun q => kf (fun z => q (lgc_ge.mpr z)))
theorem Ex.lif_gt {γ : aM} {d mc ms n0 : Nat} {al : Nat × Nat} {pc : Nat} {lo : aLo} {E : aE} {I : aI} {J : aJ} {Q : aPost} {x y : Int64} {r : List Value} {off : Int} {tgt : Nat} (hdg : decode γ.2.1 pc = .ok (.ifCond .gt off, 3)) (ht : (pc : Int) + off = (tgt : Int)) (kt : y < x → Ex γ d mc ms n0 al tgt lo r E I J Q) (kf : ¬ (y < x) → Ex γ d mc ms n0 al (pc + 3) lo r E I J Q) : Ex γ d mc ms n0 al pc lo (.int (lg_cmp x y) :: r) E I J Q :=
  Ex.if_gt hdg ht (fun q => kt (lgc_gt.mp q)) (fun q => kf (fun z => q (lgc_gt.mpr z)))
theorem Ex.lif_le {γ : aM} {d mc ms n0 : Nat} {al : Nat × Nat} {pc : Nat} {lo : aLo} {E : aE} {I : aI} {J : aJ} {Q : aPost} {x y : Int64} {r : List Value} {off : Int} {tgt : Nat} (hdg : decode γ.2.1 pc = .ok (.ifCond .le off, 3)) (ht : (pc : Int) + off = (tgt : Int)) (kt : x ≤ y → Ex γ d mc ms n0 al tgt lo r E I J Q) (kf : ¬ (x ≤ y) → Ex γ d mc ms n0 al (pc + 3) lo r E I J Q) : Ex γ d mc ms n0 al pc lo (.int (lg_cmp x y) :: r) E I J Q :=
  Ex.if_le hdg ht (fun q => kt (lgc_le.mp q)) (fun q => kf (fun z => q (lgc_le.mpr z)))
theorem Ex.tabIn {γ : aM} {d mc ms n0 : Nat} {al : Nat × Nat} {pc : Nat} {lo : aLo} {E : aE} {I : aI} {J : aJ} {Q : aPost} {dflt lo1 hi1 : Int} {offs : Array Int} {len : Nat} {x : Int32} {off : Int} {tgt : Nat} {r : List Value} (hdg : decode γ.2.1 pc = .ok (.tableswitch dflt lo1 hi1 offs, len)) (q1 : ¬ x.toInt < lo1) (q2 : ¬ hi1 < x.toInt) (ho : offs[(x.toInt - lo1).toNat]? = some off) (ht : (pc : Int) + off = (tgt : Int)) (k : Ex γ d mc ms n0 al tgt lo r E I J Q) : Ex γ d mc ms n0 al pc lo (.int x :: r) E I J Q := by
  intro p l e R s m args below meth c D cA A ad0 C ad H locs ls cells slots h1 h2 hl hP hD hS hc hs
  have C0 := C
  obtain ⟨hx, hb, hml, hrt, hown, hts, hlk, hnm, ⟨hf, hlo, hrc, hrs⟩, ⟨hK, hAO⟩, hA, hX⟩ := C
  exact lv_tableIn hx hb hdg q1 q2 ho ht (k p l e R s m args below meth c D cA A ad0 C0 ad H locs ls cells slots h1 h2 hl hP hD hS hc hs)
theorem Ex.tabOut {γ : aM} {d mc ms n0 : Nat} {al : Nat × Nat} {pc : Nat} {lo : aLo} {E : aE} {I : aI} {J : aJ} {Q : aPost} {dflt lo1 hi1 : Int} {offs : Array Int} {len : Nat} {x : Int32} {tgt : Nat} {r : List Value} (hdg : decode γ.2.1 pc = .ok (.tableswitch dflt lo1 hi1 offs, len)) (q1 : x.toInt < lo1 ∨ hi1 < x.toInt) (ht : (pc : Int) + dflt = (tgt : Int)) (k : Ex γ d mc ms n0 al tgt lo r E I J Q) : Ex γ d mc ms n0 al pc lo (.int x :: r) E I J Q := by
  intro p l e R s m args below meth c D cA A ad0 C ad H locs ls cells slots h1 h2 hl hP hD hS hc hs
  have C0 := C
  obtain ⟨hx, hb, hml, hrt, hown, hts, hlk, hnm, ⟨hf, hlo, hrc, hrs⟩, ⟨hK, hAO⟩, hA, hX⟩ := C
  exact lv_tableOut hx hb hdg q1 ht (k p l e R s m args below meth c D cA A ad0 C0 ad H locs ls cells slots h1 h2 hl hP hD hS hc hs)
/-! RULES: ends -/
theorem Ex.iret {γ : aM} {d mc ms n0 : Nat} {al : Nat × Nat} {pc : Nat} {lo : aLo} {E : aE} {I : aI} {J : aJ} {Q : aPost} {v : Int32} (hr : γ.2.2.2.1 = some .int) (hdg : decode γ.2.1 pc = .ok (.ireturn, 1)) (hq : Q (some (.int v)) E I J) : Ex γ d mc ms n0 al pc lo [.int v] E I J Q := by
  intro p l e R s m args below meth c D cA A ad0 C ad H locs ls cells slots h1 h2 hl hP hD hS hc hs
  have C0 := C
  obtain ⟨hx, hb, hml, hrt, hown, hts, hlk, hnm, ⟨hf, hlo, hrc, hrs⟩, ⟨hK, hAO⟩, hA, hX⟩ := C
  refine W.widen (k := mc) (n := ms) (by omega) (by omega) ?_
  exact W.iret hx hb (hrt.trans hr) (fun t ht hW => ⟨⟨(some (.int v)), E, I, J, ad, rfl, hq, h1, h2, by rw [ht]; exact hP, hD⟩, hS.F ht⟩) hS.2.2 hdg hlk
theorem Ex.zret {γ : aM} {d mc ms n0 : Nat} {al : Nat × Nat} {pc : Nat} {lo : aLo} {E : aE} {I : aI} {J : aJ} {Q : aPost} {v : Int32} (hr : γ.2.2.2.1 = some .boolean) (hv : v = 0 ∨ v = 1) (hdg : decode γ.2.1 pc = .ok (.ireturn, 1)) (hq : Q (some (.int v)) E I J) : Ex γ d mc ms n0 al pc lo [.int v] E I J Q := by
  intro p l e R s m args below meth c D cA A ad0 C ad H locs ls cells slots h1 h2 hl hP hD hS hc hs
  have C0 := C
  obtain ⟨hx, hb, hml, hrt, hown, hts, hlk, hnm, ⟨hf, hlo, hrc, hrs⟩, ⟨hK, hAO⟩, hA, hX⟩ := C
  refine W.widen (k := mc) (n := ms) (by omega) (by omega) ?_
  exact W.zret hx hb (hrt.trans hr) (by rcases hv with rfl | rfl <;> rfl) (fun t ht hW => ⟨⟨(some (.int v)), E, I, J, ad, rfl, hq, h1, h2, by rw [ht]; exact hP, hD⟩, hS.F ht⟩) hS.2.2 hdg hlk
theorem Ex.lret {γ : aM} {d mc ms n0 : Nat} {al : Nat × Nat} {pc : Nat} {lo : aLo} {E : aE} {I : aI} {J : aJ} {Q : aPost} {v : Int64} (hr : γ.2.2.2.1 = some .long) (hdg : decode γ.2.1 pc = .ok (.lreturn, 1)) (hq : Q (some (.long v)) E I J) : Ex γ d mc ms n0 al pc lo [.long v] E I J Q := by
  intro p l e R s m args below meth c D cA A ad0 C ad H locs ls cells slots h1 h2 hl hP hD hS hc hs
  have C0 := C
  obtain ⟨hx, hb, hml, hrt, hown, hts, hlk, hnm, ⟨hf, hlo, hrc, hrs⟩, ⟨hK, hAO⟩, hA, hX⟩ := C
  refine W.widen (k := mc) (n := ms) (by omega) (by omega) ?_
  exact W.lret hx hb (hrt.trans hr) (fun t ht hW => ⟨⟨(some (.long v)), E, I, J, ad, rfl, hq, h1, h2, by rw [ht]; exact hP, hD⟩, hS.F ht⟩) hS.2.2 hdg hlk
theorem Ex.vret {γ : aM} {d mc ms n0 : Nat} {al : Nat × Nat} {pc : Nat} {lo : aLo} {E : aE} {I : aI} {J : aJ} {Q : aPost} (hr : γ.2.2.2.1 = none) (hdg : decode γ.2.1 pc = .ok (.return_, 1)) (hq : Q none E I J) : Ex γ d mc ms n0 al pc lo [] E I J Q := by
  intro p l e R s m args below meth c D cA A ad0 C ad H locs ls cells slots h1 h2 hl hP hD hS hc hs
  have C0 := C
  obtain ⟨hx, hb, hml, hrt, hown, hts, hlk, hnm, ⟨hf, hlo, hrc, hrs⟩, ⟨hK, hAO⟩, hA, hX⟩ := C
  refine W.widen (k := mc) (n := ms) (by omega) (by omega) ?_
  exact W.vret hx hb (hrt.trans hr) (fun t ht hW => ⟨⟨none, E, I, J, ad, rfl, hq, h1, h2, by rw [ht]; exact hP, hD⟩, hS.F ht⟩) hS.2.2 hdg hlk
theorem Ex.aret {γ : aM} {d mc ms n0 : Nat} {al : Nat × Nat} {pc : Nat} {lo : aLo} {E : aE} {I : aI} {J : aJ} {Q : aPost} {a : Nat} {rt : FieldType} (hr : γ.2.2.2.1 = some rt) (hv : (∃ n, rt = .object n) ∨ ∃ t, rt = .array t) (hdg : decode γ.2.1 pc = .ok (.areturn, 1)) (hq : Q (some (.ref a)) E I J) : Ex γ d mc ms n0 al pc lo [.ref a] E I J Q := by
  intro p l e R s m args below meth c D cA A ad0 C ad H locs ls cells slots h1 h2 hl hP hD hS hc hs
  have C0 := C
  obtain ⟨hx, hb, hml, hrt, hown, hts, hlk, hnm, ⟨hf, hlo, hrc, hrs⟩, ⟨hK, hAO⟩, hA, hX⟩ := C
  refine W.widen (k := mc) (n := ms) (by omega) (by omega) ?_
  exact W.aret hx hb (hrt.trans hr) hv (Or.inr ⟨_, rfl⟩) (fun t ht hW => ⟨⟨(some (.ref a)), E, I, J, ad, rfl, hq, h1, h2, by rw [ht]; exact hP, hD⟩, hS.F ht⟩) hS.2.2 hdg hlk
/-! RULES: calls -/
def aArgs : List Value → aLo
  | [] => []
  | v :: r => if v.category = 2 then some v :: none :: aArgs r else some v :: aArgs r
/-- the locals with which a method begins -/
def aEn (n : Nat) (As : List Value) : aLo := aArgs As ++ List.replicate (n - (aArgs As).length) none
theorem aArgs_len (ad : Nat → Nat) : ∀ As : List Value, (lg_sl (As.map (tv ad))).length = (aArgs As).length
  | [] => rfl
  | v :: r => by
    have ih := aArgs_len ad r
    unfold lg_sl at ih ⊢
    rw [List.map_cons, List.flatMap_cons, List.length_append, ih, tv_cat]
    show _ = (if v.category = 2 then some v :: none :: aArgs r else some v :: aArgs r).length
    by_cases h : v.category = 2
    · rw [if_pos h, if_pos h]
      simp
      omega
    · rw [if_neg h, if_neg h]
      simp
      omega
theorem aArgs_in (ad : Nat → Nat) : ∀ (As : List Value) (k j : Nat) (v : Value), (aArgs As)[j]? = some (some v) → (k + j, tv ad v) ∈ lv_args k (As.map (tv ad))
  | [], k, j, v, h => by simp [aArgs] at h
  | w :: r, k, j, v, h => by
    unfold aArgs at h
    show _ ∈ (k, tv ad w) :: lv_args (if (tv ad w).category = 2 then k + 2 else k + 1) (r.map (tv ad))
    rw [tv_cat]
    by_cases hc : w.category = 2
    · rw [if_pos hc] at h ⊢
      match j, h with
      | 0, h => cases h; exact List.mem_cons_self
      | 1, h => cases h
      | j + 2, h =>
        have := aArgs_in ad r (k + 2) j v h
        rw [show k + (j + 2) = k + 2 + j by omega]
        exact List.mem_cons_of_mem _ this
    · rw [if_neg hc] at h ⊢
      match j, h with
      | 0, h => cases h; exact List.mem_cons_self
      | j + 1, h =>
        have := aArgs_in ad r (k + 1) j v h
        rw [show k + (j + 1) = k + 1 + j by omega]
        exact List.mem_cons_of_mem _ this
theorem aL_entry (ad : Nat → Nat) {n : Nat} {As : List Value} (h : (aArgs As).length ≤ n) : aL ad ((lg_sl (As.map (tv ad)) ++ List.replicate (n - (lg_sl (As.map (tv ad))).length) Slot.unset).toArray) n (aEn n As) := by
  have hv := lv_entry (As.map (tv ad)) (n := n) (by rw [aArgs_len]; exact h)
  refine ⟨by unfold aEn; rw [List.length_append, List.length_replicate]; omega, hv.1, hv.2.1, fun q hq => hv.2.2 q ?_⟩
  obtain ⟨v, e1, e2⟩ := aLs_mem.mp hq
  unfold aEn at e1
  by_cases hl : q.1 < (aArgs As).length
  · rw [List.getElem?_append_left hl] at e1
    have := aArgs_in ad As 0 q.1 v e1
    rw [Nat.zero_add, ← e2] at this
    exact this
  · rw [List.getElem?_append_right (by omega), List.getElem?_replicate] at e1
    split at e1 <;> cases e1
def aWds (γ : aM) : List Cond := .code γ.1 γ.2.1 γ.2.2.1 γ.2.2.2.1 :: lw_tbg
def rmD (d mc ms : Nat) : Room := { frames := d, cells := mc, slots := ms, locals := 39 * d }
theorem Ex.met {γ : aM} {d mc ms : Nat} {E : aE} {I : aI} {J : aJ} {As : List Value} {Q : aPost} (hy : plainName γ.1.cls = true) (hγ : γ.2.2.2.2 = none) (hlen : (aArgs As).length ≤ γ.2.2.1) (h : Ex γ d mc ms E.1 (mc, ms) 0 (aEn γ.2.2.1 As) [] E I J Q) (l : Launch) (D : va_G) (cA : Nat → ClassId) (ad : Nat → Nat) (sz : Nat) :
    Met l γ.1 (aWds γ) (rmD d mc ms) (va_Pc (As.map (tv ad)) (fun U => U.heap.size = sz ∧ va_P D vwCl (aWs cA ad E I J) U.heap ∧ aTb D cA U ∧ va_D (fun _ => True) (aWs cA ad E I J))) (aQc Q D cA (va_A (aWs cA ad E I J) sz) ad E.1) mc ms (va_A (aWs cA ad E I J) sz) := by
  refine Met.ofW (cc := γ.2.1) (maxL := γ.2.2.1) (ret := γ.2.2.2.1) hy rfl ?_
  intro p e s m args below meth c s₁ B hml hv
  obtain ⟨rfl, hsz, hP, hK, hD0⟩ := hv
  have hts := atoms_spec (ws := aWds γ) B.pre
  have hown : s.vm.findClass γ.1.cls = some m.cls := findClass_of_methodNamed B.named
  have hnm : meth.name = γ.1.name := (name_of_methodNamed B.named B.method).1
  subst hsz
  have hD := hD0.self (sz := s.heap.size)
  have hA : ∀ q : Nat, s.heap.size ≤ q → va_A (aWs cA ad E I J) s.heap.size q := fun q h => Or.inr h
  rw [lg_entry_eq]
  exact h p l e (rmD d mc ms) s m _ below meth c D cA (va_A (aWs cA ad E I J) s.heap.size) ad ⟨B.exec, B.bytes, hml, B.returns, hown, fun w hw => hts w (List.mem_cons_of_mem _ hw), B.notSynchronized, hnm, ⟨rfl, rfl, rfl, rfl⟩, hK, hA, fun L xs q => by rw [hγ] at q; cases q⟩ ad s.heap [] _ 0 0 (Nat.le_refl _) (fun _ _ => rfl) (aL_entry ad hlen) hP hD va_S.rf (by show 0 + mc ≤ mc; omega) (by show 0 + ms ≤ ms; omega)
def aBdd (n : Nat) (st : List Value) : Prop := ∀ v ∈ st, ∀ r, v = .ref r → r ≤ n
def aBdl (n : Nat) (lo : aLo) : Prop := ∀ v, some v ∈ lo → ∀ r, v = .ref r → r ≤ n
theorem tv_bdd {ad ad' : Nat → Nat} {n : Nat} {v : Value} (h : ∀ r, r ≤ n → ad' r = ad r) (hv : ∀ r, v = .ref r → r ≤ n) : tv ad' v = tv ad v := by
  cases v with
  | ref r =>
    show Value.ref (ad' r) = Value.ref (ad r)
    rw [h r (hv r rfl)]
  | _ => rfl
theorem aBdd_map {ad ad' : Nat → Nat} {n : Nat} {st : List Value} (h : ∀ r, r ≤ n → ad' r = ad r) (hv : aBdd n st) : st.map (tv ad') = st.map (tv ad) := List.map_congr_left (fun v hm => tv_bdd h (hv v hm))
theorem aL_bdd {ad ad' : Nat → Nat} {n nL : Nat} {ls : Array Slot} {lo : aLo} (h : ∀ r, r ≤ n → ad' r = ad r) (hv : aBdl n lo) (hl : aL ad ls nL lo) : aL ad' ls nL lo := by
  refine ⟨hl.1, hl.2.1, hl.2.2.1, fun q hq => hl.2.2.2 q ?_⟩
  obtain ⟨v, e1, e2⟩ := aLs_mem.mp hq
  exact aLs_mem.mpr ⟨v, e1, by rw [e2]; exact tv_bdd h (fun r e => hv v (List.mem_of_getElem? e1) r e)⟩
/-- what stands behind every call -/
theorem Ex.after {γ : aM} {d mc ms n0 : Nat} {al : Nat × Nat} {pc : Nat} {lo : aLo} {st rest : List Value} {E : aE} {I : aI} {J : aJ} {Q Q' : aPost} {mc' ms' : Nat} (hal : mc' ≤ al.1 ∧ ms' ≤ al.2) (hbd : (∀ r E' I' J', Q' r E' I' J' → E' = E) ∨ (aBdd E.1 rest ∧ aBdl E.1 lo))
    (run : ∀ (p : Program) (l : Launch) (e : Env) (R : Room) (s : State) (m : MethodId) (args : Array Value) (below : List Frame) (meth : Method) (c : Code) (D : va_G) (cA : Nat → ClassId) (A : Nat → Prop) (ad0 : Nat → Nat), aCtx γ d mc ms p R s m args meth c D cA A ad0 → ∀ (ad : Nat → Nat) (H : Heap) (locs : List Loc) (ls : Array Slot) (cells slots : Nat), aL ad ls γ.2.2.1 lo → va_P D vwCl (aWs cA ad E I J) H → va_D A (aWs cA ad E I J) → cells + al.1 ≤ mc → slots + al.2 ≤ ms →
      va_Run p l e R s m args below meth c H locs cells slots mc' ms' (F0 m pc ls (st.map (tv ad))) (rest.map (tv ad)) (fun st o t => ∃ a, aQc Q' D cA (va_A (aWs cA ad E I J) H.size) ad E.1 a st o t) (va_A (aWs cA ad E I J) H.size))
    (k : ∀ r E' I' J', Q' r E' I' J' → Ex γ d mc ms n0 (al.1 - mc', al.2 - ms') (pc + 3) lo (r.toList ++ rest) E' I' J' Q) : Ex γ d mc ms n0 al pc lo st E I J Q := by
  intro p l e R s m args below meth c D cA A ad0 C ad H locs ls cells slots h1 h2 hl hP hD hS hc hs
  have C0 := C
  obtain ⟨hx, hb, hml, hrt, hown, hts, hlk, hnm, ⟨hf, hlo, hrc, hrs⟩, ⟨hK, hAO⟩, hA, hX⟩ := C
  intro T hT X
  obtain ⟨v, st₀, t, T', L, g1, X', hL, e1, e2, ⟨a, ⟨⟨r, E', I', J', ad', c1, c2, c3, c4, c5, c6⟩, hz, hk⟩⟩, stp⟩ := run p l e R s m args below meth c D cA A ad0 C0 ad H locs ls cells slots hl hP hD hc hs T hT X
  have hFc : ∀ q, va_A (aWs cA ad E I J) H.size q → A q := by
    intro q h
    rcases h with ⟨k9, e9, h⟩ | h
    · exact hD.2 k9 _ h
    · exact hA q (Nat.le_trans hS.1 h)
  rw [g1] at hz hk
  have hE : ∀ r, r ≤ E.1 → ad' r = ad r := fun r h => c4 r (Or.inl h)
  have hst : rest.map (tv ad') = rest.map (tv ad) ∧ aL ad' ls γ.2.2.1 lo := by
    rcases hbd with hbd | hbd
    · have e3 := hbd _ _ _ _ c2
      have : ad' = ad := funext fun r => c4 r (by rw [e3]; omega)
      rw [this]
      exact ⟨rfl, hl⟩
    · exact ⟨aBdd_map hE hbd.1, aL_bdd hE hbd.2 hl⟩
  have hv : v.toList ++ rest.map (tv ad) = (r.toList ++ rest).map (tv ad') := by
    cases c1
    rw [List.map_append, hst.1]
    cases r <;> rfl
  have hS1 : va_S A s.heap T'.heap (locs ++ L) := ⟨Nat.le_trans hS.1 (by rw [e1]; exact hz), fun q h3 h4 => by rw [e1, hk q (Nat.lt_of_lt_of_le h3 hS.1) (fun z => h4 (hFc q z))]; exact hS.2.1 q h3 h4, fun q hq => by
      rcases List.mem_append.mp hq with h | h
      · exact hS.2.2 q h
      · exact hFc _ (hL q h)⟩
  obtain ⟨t2, a1, b1⟩ := k r E' I' J' c2 p l e R s m args below meth c D cA A ad0 C0 ad' T'.heap (locs ++ L) ls (cells + mc') (slots + ms') (Nat.le_trans h1 c3) (fun r h => by
    rcases h with h | h
    · rw [hE r (Nat.le_trans h h1)]; exact h2 r (Or.inl h)
    · rw [c4 r (Or.inr h)]; exact h2 r (Or.inr (by omega))) hst.2 (by rw [e1]; exact c5) (c6.weaken (fun _ _ _ h => hFc _ h)) hS1 (by show cells + mc' + (al.1 - mc') ≤ mc; omega) (by show slots + ms' + (al.2 - ms') ≤ ms; omega) T' rfl X'
  have stp := stp t2
  dsimp only at stp
  rw [hv] at stp
  exact ⟨t2, stp a1, b1⟩
/-- the tables know the called method -/
def aKn (γ' : aM) (n : Nat) : Prop := plainName γ'.1.cls = true ∧ γ'.2.2.2.2 = none ∧ Cond.code γ'.1 γ'.2.1 γ'.2.2.1 γ'.2.2.2.1 ∈ lw_tbg ∧ Cond.initialized γ'.1.cls ∈ lw_tbg ∧ (γ'.1.cls ≠ "java/lang/invoke/MethodHandle" ∧ γ'.1.cls ≠ "java/lang/invoke/VarHandle" ∧ (parseMethodDescriptor γ'.1.desc).map (fun d => d.parameters.length) = some n) ∧ γ'.2.2.1 ≤ 20
theorem lw_good : ∀ w ∈ lw_tbg, (w.onTables && w.keeps) = true ∨ ∃ ty, w = .arrayClass ty := fun w hw => good_of_word (List.mem_filter.mp hw).2
theorem aKn_good {γ' : aM} {n : Nat} (h : aKn γ' n) : GoodIn lw_tbg (aWds γ') := by
  intro w hw
  rcases List.mem_cons.mp hw with rfl | hw
  · exact ⟨h.2.2.1, lw_good _ h.2.2.1⟩
  · exact ⟨hw, lw_good _ hw⟩
theorem aKn_call {γ' : aM} {n idx d d' mc' ms' : Nat} {own : String} {R : Room} {s : State} {args : Array Value} (h : aKn γ' n) (hts : ∀ w ∈ lw_tbg, w.before args s = true) (hf : R.frames = d' + 1) (hlo : R.locals = 39 * (d' + 1)) (hdd : d = d') (hl : Cond.methodLink own idx γ'.1 ∈ lw_tbg) : CallB R s args own idx γ'.1 γ'.2.1 γ'.2.2.1 γ'.2.2.2.1 (aWds γ') (rmD d mc' ms') mc' ms' n := by
  subst hdd
  refine callB_of n hts (aKn_good h) rfl rfl rfl (hts _ h.2.2.2.1) (hts _ hl) h.2.2.2.2.1 ⟨by rw [hf]; exact Nat.le_refl _, ?_⟩
  have := h.2.2.2.2.2
  show 8 + (γ'.2.2.1 + 11) + 39 * d ≤ R.locals
  omega
theorem aPre_blind {av : List Value} {sz : Nat} {D : va_G} {cA : Nat → ClassId} {ws : va_W} : FrameBlind (va_Pc av (fun U => U.heap.size = sz ∧ va_P D vwCl ws U.heap ∧ aTb D cA U ∧ va_D (fun _ => True) ws)) := fun a U g mk q => by
  obtain ⟨q0, q1, qP, qK, qD⟩ := q
  exact ⟨q0, q1, qP, aTb.moved (u := U) (U := U.calling g mk a) (Vm.Alike.refl U.vm) qK, qD⟩
def aNone : List Value → Prop := fun _ => True
theorem Ex.callV {γ γ' : aM} {d mc ms n0 : Nat} {al : Nat × Nat} {pc idx ci n : Nat} {lo : aLo} {st As rest : List Value} {b : Nat} {E : aE} {I : aI} {J : aJ} {Q : aPost} {Q' : Option Value → aI → aJ → Prop} {T : u_T} {N : Nat}
    (hkn : aKn γ' n) (hl : Cond.methodLink γ.1.cls idx γ'.1 ∈ lw_tbg) (hi : Cond.instanceMethod γ'.1 ∈ lw_tbg) (hsel : Cond.selects γ'.1.cls γ'.1 γ'.1 ∈ lw_tbg) (hcl : vwCl[ci]? = some (γ'.1.cls, T, N)) (hdg : decode γ.2.1 pc = .ok (.invokevirtual idx, 3))
    (hst : st = As.reverse ++ .ref b :: rest) (hn : As.length = n) (hle : (aArgs (.ref b :: As)).length ≤ γ'.2.2.1) (h8 : aSm rest ≤ 8) (hb : aO E b ci)
    (hc : Ex γ' d 0 0 E.1 (0, 0) 0 (aEn γ'.2.2.1 (.ref b :: As)) [] E I J (fun r E' I' J' => E' = E ∧ Q' r I' J'))
    (k : ∀ r I' J', Q' r I' J' → Ex γ (d + 1) mc ms n0 al (pc + 3) lo (r.toList ++ rest) E I' J' Q) : Ex γ (d + 1) mc ms n0 al pc lo st E I J Q := by
  refine Ex.after (mc' := 0) (ms' := 0) (rest := rest) (Q' := fun r E' I' J' => E' = E ∧ Q' r I' J') ⟨Nat.zero_le _, Nat.zero_le _⟩ (Or.inl fun r E' I' J' q => q.1) ?_ (fun r E' I' J' q => ?_)
  · intro p l e R s m args below meth c D cA A ad0 C ad H locs ls cells slots hl0 hP hD hc0 hs0
    obtain ⟨hx, hbb, hml, hrt, hown, hts, hlk, hnm, ⟨hf, hlo, hrc, hrs⟩, ⟨hK, hAO⟩, hA, hX⟩ := C
    have hM := Ex.met hkn.1 hkn.2.1 hle hc l D cA ad H.size
    have hcb := aKn_call (mc' := 0) (ms' := 0) (own := γ.1.cls) hkn hts hf hlo rfl hl
    have he := aWs_at (cA := cA) (ad := ad) (I := I) (J := J) hb.1
    rw [aEnt_o hb.2] at he
    subst hst
    have r := va_runV (As := As.map (tv ad)) (rest := rest.map (tv ad)) (b := ad b) (locs := locs) (cells := cells) (slots := slots) (H := H) (g := F0 m pc ls ((As.reverse ++ .ref b :: rest).map (tv ad))) (below := below) (meth := meth) (e := e) (l := l) (nL := γ.2.2.1) ⟨hx, hbb, hml, hown, hts⟩ hM ⟨hcb, hts _ hi, hts _ hsel⟩ ⟨aPre_blind, va_recv hK hP hcl he, fun U hU hW => ⟨rfl, by rw [hU], by rw [hU]; exact hP, aTb.moved hW.alike ⟨hK, hAO⟩, hD.weaken (fun _ _ _ _ => trivial)⟩⟩ rfl (by rw [List.length_map]; exact hn) hl0.2.1 (by show (As.reverse ++ Value.ref b :: rest).map (tv ad) = _; rw [List.map_append, List.map_reverse]; rfl) (lv_room (by rw [aSm_tv]; exact h8)) hdg ⟨by omega, by omega⟩
    intro T hT X
    obtain ⟨v, st₀, t, T', L, g1, X', hL, e1, e2, hq, stp⟩ := r T hT X
    exact ⟨v, st₀, t, T', L, g1, X', hL, e1, e2, ⟨_, hq⟩, stp⟩
  · obtain ⟨rfl, q⟩ := q
    exact k r I' J' q
theorem Ex.callS {γ γ' : aM} {d mc ms n0 : Nat} {al : Nat × Nat} {pc idx n : Nat} {lo : aLo} {st As rest : List Value} {E : aE} {I : aI} {J : aJ} {Q : aPost} {Q' : Option Value → aI → aJ → Prop}
    (hkn : aKn γ' n) (hl : Cond.methodLink γ.1.cls idx γ'.1 ∈ lw_tbg) (hi : Cond.static γ'.1 ∈ lw_tbg) (hdg : decode γ.2.1 pc = .ok (.invokestatic idx, 3))
    (hst : st = As.reverse ++ rest) (hn : As.length = n) (hle : (aArgs As).length ≤ γ'.2.2.1) (h8 : aSm rest ≤ 8)
    (hc : Ex γ' d 0 0 E.1 (0, 0) 0 (aEn γ'.2.2.1 As) [] E I J (fun r E' I' J' => E' = E ∧ Q' r I' J'))
    (k : ∀ r I' J', Q' r I' J' → Ex γ (d + 1) mc ms n0 al (pc + 3) lo (r.toList ++ rest) E I' J' Q) : Ex γ (d + 1) mc ms n0 al pc lo st E I J Q := by
  refine Ex.after (mc' := 0) (ms' := 0) (rest := rest) (Q' := fun r E' I' J' => E' = E ∧ Q' r I' J') ⟨Nat.zero_le _, Nat.zero_le _⟩ (Or.inl fun r E' I' J' q => q.1) ?_ (fun r E' I' J' q => ?_)
  · intro p l e R s m args below meth c D cA A ad0 C ad H locs ls cells slots hl0 hP hD hc0 hs0
    obtain ⟨hx, hbb, hml, hrt, hown, hts, hlk, hnm, ⟨hf, hlo, hrc, hrs⟩, ⟨hK, hAO⟩, hA, hX⟩ := C
    have hM := Ex.met hkn.1 hkn.2.1 hle hc l D cA ad H.size
    have hcb := aKn_call (mc' := 0) (ms' := 0) (own := γ.1.cls) hkn hts hf hlo rfl hl
    subst hst
    have r := va_runS (As := As.map (tv ad)) (rest := rest.map (tv ad)) (locs := locs) (cells := cells) (slots := slots) (H := H) (g := F0 m pc ls ((As.reverse ++ rest).map (tv ad))) (below := below) (meth := meth) (e := e) (l := l) (nL := γ.2.2.1) ⟨hx, hbb, hml, hown, hts⟩ hM ⟨hcb, hts _ hi⟩ ⟨aPre_blind, fun U hU hW => ⟨rfl, by rw [hU], by rw [hU]; exact hP, aTb.moved hW.alike ⟨hK, hAO⟩, hD.weaken (fun _ _ _ _ => trivial)⟩⟩ rfl (by rw [List.length_map]; exact hn) hl0.2.1 (by show (As.reverse ++ rest).map (tv ad) = _; rw [List.map_append, List.map_reverse]) (lv_room (by rw [aSm_tv]; exact h8)) hdg ⟨by omega, by omega⟩
    intro T hT X
    obtain ⟨v, st₀, t, T', L, g1, X', hL, e1, e2, hq, stp⟩ := r T hT X
    exact ⟨v, st₀, t, T', L, g1, X', hL, e1, e2, ⟨_, hq⟩, stp⟩
  · obtain ⟨rfl, q⟩ := q
    exact k r I' J' q
/-- a constructor's call: it may make cells -/
theorem Ex.callI {γ γ' : aM} {d mc ms n0 mc' ms' : Nat} {al : Nat × Nat} {pc idx n : Nat} {lo : aLo} {st As rest : List Value} {b : Nat} {E : aE} {I : aI} {J : aJ} {Q Q' : aPost}
    (hkn : aKn γ' n) (hret : γ'.2.2.2.1 = none) (hl : Cond.methodLink γ.1.cls idx γ'.1 ∈ lw_tbg) (hi : Cond.instanceMethod γ'.1 ∈ lw_tbg) (hy1 : γ'.1.name = "<init>") (hdg : decode γ.2.1 pc = .ok (.invokespecial idx, 3))
    (hst : st = As.reverse ++ .ref b :: rest) (hn : As.length = n) (hle : (aArgs (.ref b :: As)).length ≤ γ'.2.2.1) (h8 : aSm rest ≤ 8) (hal : mc' ≤ al.1 ∧ ms' ≤ al.2) (hbd : aBdd E.1 rest ∧ aBdl E.1 lo)
    (hc : Ex γ' d mc' ms' E.1 (mc', ms') 0 (aEn γ'.2.2.1 (.ref b :: As)) [] E I J Q')
    (k : ∀ r E' I' J', Q' r E' I' J' → Ex γ (d + 1) mc ms n0 (al.1 - mc', al.2 - ms') (pc + 3) lo (r.toList ++ rest) E' I' J' Q) : Ex γ (d + 1) mc ms n0 al pc lo st E I J Q := by
  refine Ex.after (mc' := mc') (ms' := ms') (rest := rest) (Q' := Q') hal (Or.inr hbd) ?_ k
  intro p l e R s m args below meth c D cA A ad0 C ad H locs ls cells slots hl0 hP hD hc0 hs0
  obtain ⟨hx, hbb, hml, hrt, hown, hts, hlk, hnm, ⟨hf, hlo, hrc, hrs⟩, ⟨hK, hAO⟩, hA, hX⟩ := C
  have hM := Ex.met hkn.1 hkn.2.1 hle hc l D cA ad H.size
  have hcb := aKn_call (mc' := mc') (ms' := ms') (own := γ.1.cls) hkn hts hf hlo rfl hl
  rw [hret] at hcb
  subst hst
  have r := va_runI (As := As.map (tv ad)) (rest := rest.map (tv ad)) (b := ad b) (locs := locs) (cells := cells) (slots := slots) (H := H) (g := F0 m pc ls ((As.reverse ++ .ref b :: rest).map (tv ad))) (below := below) (meth := meth) (e := e) (l := l) (nL := γ.2.2.1) ⟨hx, hbb, hml, hown, hts⟩ hM ⟨hcb, hy1, hts _ hi⟩ ⟨aPre_blind, fun U hU hW => ⟨rfl, by rw [hU], by rw [hU]; exact hP, aTb.moved hW.alike ⟨hK, hAO⟩, hD.weaken (fun _ _ _ _ => trivial)⟩⟩ rfl (by rw [List.length_map]; exact hn) hl0.2.1 (by show (As.reverse ++ Value.ref b :: rest).map (tv ad) = _; rw [List.map_append, List.map_reverse]; rfl) (lv_room (by rw [aSm_tv]; exact h8)) hdg ⟨by omega, by omega⟩
  intro T hT X
  obtain ⟨v, st₀, t, T', L, g1, X', hL, e1, e2, hq, stp⟩ := r T hT X
  exact ⟨v, st₀, t, T', L, g1, X', hL, e1, e2, ⟨_, hq⟩, stp⟩
end

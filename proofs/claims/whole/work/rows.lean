section
-- ===== PART A: goes FIRST, ahead of the names: the tables' words, and 'selects' of the private methods out of them =====
/-- a private method of a class that the tables say can be made, by its rows of tables_1 -/
def lw_okq (q : MethodName × Nat) : Prop := (q.1.cls ≠ "java/lang/invoke/MethodHandle" ∧ q.1.cls ≠ "java/lang/invoke/VarHandle") ∧ Cond.instantiable q.1.cls q.2 ∈ tables_1 ∧ Cond.privateMethod q.1 ∈ tables_1 ∧ Cond.instanceMethod q.1 ∈ tables_1
theorem lw_p0 : lw_okq (⟨"MarkovChainDistances", "greatestDepth", "()I"⟩, 11) := ⟨⟨by decide +kernel, by decide +kernel⟩, List.mem_of_getElem? (i := 15) (by decide +kernel), List.mem_of_getElem? (i := 382) (by decide +kernel), List.mem_of_getElem? (i := 383) (by decide +kernel)⟩
theorem lw_p1 : lw_okq (⟨"MarkovChainDistances", "hasDistance", "(III)Z"⟩, 11) := ⟨⟨by decide +kernel, by decide +kernel⟩, List.mem_of_getElem? (i := 15) (by decide +kernel), List.mem_of_getElem? (i := 391) (by decide +kernel), List.mem_of_getElem? (i := 392) (by decide +kernel)⟩
theorem lw_p2 : lw_okq (⟨"MarkovChainDistances$Distances", "fillLevel", "(I)V"⟩, 5) := ⟨⟨by decide +kernel, by decide +kernel⟩, List.mem_of_getElem? (i := 96) (by decide +kernel), List.mem_of_getElem? (i := 402) (by decide +kernel), List.mem_of_getElem? (i := 403) (by decide +kernel)⟩
theorem lw_p3 : lw_okq (⟨"MarkovChainDistances$Transport", "startOnDiagonal", "(LMarkovChainDistances$Chain;II)V"⟩, 9) := ⟨⟨by decide +kernel, by decide +kernel⟩, List.mem_of_getElem? (i := 104) (by decide +kernel), List.mem_of_getElem? (i := 415) (by decide +kernel), List.mem_of_getElem? (i := 416) (by decide +kernel)⟩
theorem lw_p4 : lw_okq (⟨"MarkovChainDistances$Transport", "sendFrom", "(I)V"⟩, 9) := ⟨⟨by decide +kernel, by decide +kernel⟩, List.mem_of_getElem? (i := 104) (by decide +kernel), List.mem_of_getElem? (i := 420) (by decide +kernel), List.mem_of_getElem? (i := 421) (by decide +kernel)⟩
theorem lw_p5 : lw_okq (⟨"MarkovChainDistances$Transport", "openColumn", "()I"⟩, 9) := ⟨⟨by decide +kernel, by decide +kernel⟩, List.mem_of_getElem? (i := 104) (by decide +kernel), List.mem_of_getElem? (i := 424) (by decide +kernel), List.mem_of_getElem? (i := 425) (by decide +kernel)⟩
theorem lw_p6 : lw_okq (⟨"MarkovChainDistances$Transport", "findPaths", "(II)V"⟩, 9) := ⟨⟨by decide +kernel, by decide +kernel⟩, List.mem_of_getElem? (i := 104) (by decide +kernel), List.mem_of_getElem? (i := 428) (by decide +kernel), List.mem_of_getElem? (i := 429) (by decide +kernel)⟩
theorem lw_p7 : lw_okq (⟨"MarkovChainDistances$Transport", "approachColumns", "(I)Z"⟩, 9) := ⟨⟨by decide +kernel, by decide +kernel⟩, List.mem_of_getElem? (i := 104) (by decide +kernel), List.mem_of_getElem? (i := 433) (by decide +kernel), List.mem_of_getElem? (i := 434) (by decide +kernel)⟩
theorem lw_p8 : lw_okq (⟨"MarkovChainDistances$Transport", "approachRows", "(I)Z"⟩, 9) := ⟨⟨by decide +kernel, by decide +kernel⟩, List.mem_of_getElem? (i := 104) (by decide +kernel), List.mem_of_getElem? (i := 437) (by decide +kernel), List.mem_of_getElem? (i := 438) (by decide +kernel)⟩
theorem lw_p9 : lw_okq (⟨"MarkovChainDistances$Transport", "slackOfPath", "(II)I"⟩, 9) := ⟨⟨by decide +kernel, by decide +kernel⟩, List.mem_of_getElem? (i := 104) (by decide +kernel), List.mem_of_getElem? (i := 441) (by decide +kernel), List.mem_of_getElem? (i := 442) (by decide +kernel)⟩
theorem lw_p10 : lw_okq (⟨"MarkovChainDistances$Transport", "shiftAlongPath", "(II)V"⟩, 9) := ⟨⟨by decide +kernel, by decide +kernel⟩, List.mem_of_getElem? (i := 104) (by decide +kernel), List.mem_of_getElem? (i := 445) (by decide +kernel), List.mem_of_getElem? (i := 446) (by decide +kernel)⟩
theorem lw_p11 : lw_okq (⟨"MarkovChainDistances", "isPair", "(I)Z"⟩, 11) := ⟨⟨by decide +kernel, by decide +kernel⟩, List.mem_of_getElem? (i := 15) (by decide +kernel), List.mem_of_getElem? (i := 464) (by decide +kernel), List.mem_of_getElem? (i := 465) (by decide +kernel)⟩
theorem lw_p12 : lw_okq (⟨"MarkovChainDistances$Transport", "reduceEntry", "(II)V"⟩, 9) := ⟨⟨by decide +kernel, by decide +kernel⟩, List.mem_of_getElem? (i := 104) (by decide +kernel), List.mem_of_getElem? (i := 488) (by decide +kernel), List.mem_of_getElem? (i := 489) (by decide +kernel)⟩
theorem lw_p13 : lw_okq (⟨"MarkovChainDistances", "totalVariation", "(II)I"⟩, 11) := ⟨⟨by decide +kernel, by decide +kernel⟩, List.mem_of_getElem? (i := 15) (by decide +kernel), List.mem_of_getElem? (i := 496) (by decide +kernel), List.mem_of_getElem? (i := 497) (by decide +kernel)⟩
theorem lw_p14 : lw_okq (⟨"MarkovChainDistances", "weightDifference", "(III)I"⟩, 11) := ⟨⟨by decide +kernel, by decide +kernel⟩, List.mem_of_getElem? (i := 15) (by decide +kernel), List.mem_of_getElem? (i := 500) (by decide +kernel), List.mem_of_getElem? (i := 501) (by decide +kernel)⟩
theorem lw_p15 : lw_okq (⟨"MarkovChainDistances", "largestDifference", "(II)I"⟩, 11) := ⟨⟨by decide +kernel, by decide +kernel⟩, List.mem_of_getElem? (i := 15) (by decide +kernel), List.mem_of_getElem? (i := 507) (by decide +kernel), List.mem_of_getElem? (i := 508) (by decide +kernel)⟩
def lw_privs_1 : List (MethodName × Nat) := [(⟨"MarkovChainDistances", "greatestDepth", "()I"⟩, 11), (⟨"MarkovChainDistances", "hasDistance", "(III)Z"⟩, 11), (⟨"MarkovChainDistances$Distances", "fillLevel", "(I)V"⟩, 5), (⟨"MarkovChainDistances$Transport", "startOnDiagonal", "(LMarkovChainDistances$Chain;II)V"⟩, 9), (⟨"MarkovChainDistances$Transport", "sendFrom", "(I)V"⟩, 9), (⟨"MarkovChainDistances$Transport", "openColumn", "()I"⟩, 9), (⟨"MarkovChainDistances$Transport", "findPaths", "(II)V"⟩, 9), (⟨"MarkovChainDistances$Transport", "approachColumns", "(I)Z"⟩, 9), (⟨"MarkovChainDistances$Transport", "approachRows", "(I)Z"⟩, 9), (⟨"MarkovChainDistances$Transport", "slackOfPath", "(II)I"⟩, 9), (⟨"MarkovChainDistances$Transport", "shiftAlongPath", "(II)V"⟩, 9), (⟨"MarkovChainDistances", "isPair", "(I)Z"⟩, 11), (⟨"MarkovChainDistances$Transport", "reduceEntry", "(II)V"⟩, 9), (⟨"MarkovChainDistances", "totalVariation", "(II)I"⟩, 11), (⟨"MarkovChainDistances", "weightDifference", "(III)I"⟩, 11), (⟨"MarkovChainDistances", "largestDifference", "(II)I"⟩, 11)]
theorem lw_r1 : ∀ q ∈ lw_privs_1, lw_okq q := List.forall_mem_cons.mpr ⟨lw_p0, List.forall_mem_cons.mpr ⟨lw_p1, List.forall_mem_cons.mpr ⟨lw_p2, List.forall_mem_cons.mpr ⟨lw_p3, List.forall_mem_cons.mpr ⟨lw_p4, List.forall_mem_cons.mpr ⟨lw_p5, List.forall_mem_cons.mpr ⟨lw_p6, List.forall_mem_cons.mpr ⟨lw_p7, List.forall_mem_cons.mpr ⟨lw_p8, List.forall_mem_cons.mpr ⟨lw_p9, List.forall_mem_cons.mpr ⟨lw_p10, List.forall_mem_cons.mpr ⟨lw_p11, List.forall_mem_cons.mpr ⟨lw_p12, List.forall_mem_cons.mpr ⟨lw_p13, List.forall_mem_cons.mpr ⟨lw_p14, List.forall_mem_cons.mpr ⟨lw_p15, fun _ h => absurd h List.not_mem_nil⟩⟩⟩⟩⟩⟩⟩⟩⟩⟩⟩⟩⟩⟩⟩⟩
theorem lw_p16 : lw_okq (⟨"MarkovChainDistances", "cumulativeDistance", "(II)I"⟩, 11) := ⟨⟨by decide +kernel, by decide +kernel⟩, List.mem_of_getElem? (i := 15) (by decide +kernel), List.mem_of_getElem? (i := 514) (by decide +kernel), List.mem_of_getElem? (i := 515) (by decide +kernel)⟩
theorem lw_p17 : lw_okq (⟨"MarkovChainDistances", "overlap", "(II)I"⟩, 11) := ⟨⟨by decide +kernel, by decide +kernel⟩, List.mem_of_getElem? (i := 15) (by decide +kernel), List.mem_of_getElem? (i := 518) (by decide +kernel), List.mem_of_getElem? (i := 519) (by decide +kernel)⟩
theorem lw_p18 : lw_okq (⟨"MarkovChainDistances$Partition", "refineOnce", "(LMarkovChainDistances$Chain;)V"⟩, 3) := ⟨⟨by decide +kernel, by decide +kernel⟩, List.mem_of_getElem? (i := 158) (by decide +kernel), List.mem_of_getElem? (i := 531) (by decide +kernel), List.mem_of_getElem? (i := 532) (by decide +kernel)⟩
theorem lw_p19 : lw_okq (⟨"MarkovChainDistances$Partition", "agree", "(LMarkovChainDistances$Chain;II)Z"⟩, 3) := ⟨⟨by decide +kernel, by decide +kernel⟩, List.mem_of_getElem? (i := 158) (by decide +kernel), List.mem_of_getElem? (i := 535) (by decide +kernel), List.mem_of_getElem? (i := 536) (by decide +kernel)⟩
theorem lw_p20 : lw_okq (⟨"MarkovChainDistances$Partition", "weightToClass", "(LMarkovChainDistances$Chain;II)I"⟩, 3) := ⟨⟨by decide +kernel, by decide +kernel⟩, List.mem_of_getElem? (i := 158) (by decide +kernel), List.mem_of_getElem? (i := 539) (by decide +kernel), List.mem_of_getElem? (i := 540) (by decide +kernel)⟩
theorem lw_p21 : lw_okq (⟨"MarkovChainDistances$PathCounter", "markTargets", "(LMarkovChainDistances$Chain;I)V"⟩, 2) := ⟨⟨by decide +kernel, by decide +kernel⟩, List.mem_of_getElem? (i := 176) (by decide +kernel), List.mem_of_getElem? (i := 566) (by decide +kernel), List.mem_of_getElem? (i := 567) (by decide +kernel)⟩
theorem lw_p22 : lw_okq (⟨"MarkovChainDistances$PathCounter", "stepBack", "(LMarkovChainDistances$Chain;)V"⟩, 2) := ⟨⟨by decide +kernel, by decide +kernel⟩, List.mem_of_getElem? (i := 176) (by decide +kernel), List.mem_of_getElem? (i := 573) (by decide +kernel), List.mem_of_getElem? (i := 574) (by decide +kernel)⟩
theorem lw_p23 : lw_okq (⟨"MarkovChainDistances$ChainReader", "clear", "()V"⟩, 8) := ⟨⟨by decide +kernel, by decide +kernel⟩, List.mem_of_getElem? (i := 189) (by decide +kernel), List.mem_of_getElem? (i := 646) (by decide +kernel), List.mem_of_getElem? (i := 647) (by decide +kernel)⟩
theorem lw_p24 : lw_okq (⟨"MarkovChainDistances$ChainReader", "takeNumber", "(I)I"⟩, 8) := ⟨⟨by decide +kernel, by decide +kernel⟩, List.mem_of_getElem? (i := 189) (by decide +kernel), List.mem_of_getElem? (i := 650) (by decide +kernel), List.mem_of_getElem? (i := 651) (by decide +kernel)⟩
theorem lw_p25 : lw_okq (⟨"MarkovChainDistances$ChainReader", "take", "(C)V"⟩, 8) := ⟨⟨by decide +kernel, by decide +kernel⟩, List.mem_of_getElem? (i := 189) (by decide +kernel), List.mem_of_getElem? (i := 655) (by decide +kernel), List.mem_of_getElem? (i := 656) (by decide +kernel)⟩
theorem lw_p26 : lw_okq (⟨"MarkovChainDistances$ChainReader", "takeIfPresent", "(C)Z"⟩, 8) := ⟨⟨by decide +kernel, by decide +kernel⟩, List.mem_of_getElem? (i := 189) (by decide +kernel), List.mem_of_getElem? (i := 659) (by decide +kernel), List.mem_of_getElem? (i := 660) (by decide +kernel)⟩
theorem lw_p27 : lw_okq (⟨"MarkovChainDistances$ChainReader", "readStates", "()V"⟩, 8) := ⟨⟨by decide +kernel, by decide +kernel⟩, List.mem_of_getElem? (i := 189) (by decide +kernel), List.mem_of_getElem? (i := 667) (by decide +kernel), List.mem_of_getElem? (i := 668) (by decide +kernel)⟩
theorem lw_p28 : lw_okq (⟨"MarkovChainDistances$ChainReader", "readState", "(I)V"⟩, 8) := ⟨⟨by decide +kernel, by decide +kernel⟩, List.mem_of_getElem? (i := 189) (by decide +kernel), List.mem_of_getElem? (i := 671) (by decide +kernel), List.mem_of_getElem? (i := 672) (by decide +kernel)⟩
theorem lw_p29 : lw_okq (⟨"MarkovChainDistances$ChainReader", "readEdge", "(I)V"⟩, 8) := ⟨⟨by decide +kernel, by decide +kernel⟩, List.mem_of_getElem? (i := 189) (by decide +kernel), List.mem_of_getElem? (i := 675) (by decide +kernel), List.mem_of_getElem? (i := 676) (by decide +kernel)⟩
theorem lw_p30 : lw_okq (⟨"MarkovChainDistances$ChainReader", "isConsistent", "()Z"⟩, 8) := ⟨⟨by decide +kernel, by decide +kernel⟩, List.mem_of_getElem? (i := 189) (by decide +kernel), List.mem_of_getElem? (i := 680) (by decide +kernel), List.mem_of_getElem? (i := 681) (by decide +kernel)⟩
theorem lw_p31 : lw_okq (⟨"MarkovChainDistancesModel", "\x69nitialize", "(II)V"⟩, 30) := ⟨⟨by decide +kernel, by decide +kernel⟩, List.mem_of_getElem? (i := 744) (by decide +kernel), List.mem_of_getElem? (i := 750) (by decide +kernel), List.mem_of_getElem? (i := 751) (by decide +kernel)⟩
def lw_privs_2 : List (MethodName × Nat) := [(⟨"MarkovChainDistances", "cumulativeDistance", "(II)I"⟩, 11), (⟨"MarkovChainDistances", "overlap", "(II)I"⟩, 11), (⟨"MarkovChainDistances$Partition", "refineOnce", "(LMarkovChainDistances$Chain;)V"⟩, 3), (⟨"MarkovChainDistances$Partition", "agree", "(LMarkovChainDistances$Chain;II)Z"⟩, 3), (⟨"MarkovChainDistances$Partition", "weightToClass", "(LMarkovChainDistances$Chain;II)I"⟩, 3), (⟨"MarkovChainDistances$PathCounter", "markTargets", "(LMarkovChainDistances$Chain;I)V"⟩, 2), (⟨"MarkovChainDistances$PathCounter", "stepBack", "(LMarkovChainDistances$Chain;)V"⟩, 2), (⟨"MarkovChainDistances$ChainReader", "clear", "()V"⟩, 8), (⟨"MarkovChainDistances$ChainReader", "takeNumber", "(I)I"⟩, 8), (⟨"MarkovChainDistances$ChainReader", "take", "(C)V"⟩, 8), (⟨"MarkovChainDistances$ChainReader", "takeIfPresent", "(C)Z"⟩, 8), (⟨"MarkovChainDistances$ChainReader", "readStates", "()V"⟩, 8), (⟨"MarkovChainDistances$ChainReader", "readState", "(I)V"⟩, 8), (⟨"MarkovChainDistances$ChainReader", "readEdge", "(I)V"⟩, 8), (⟨"MarkovChainDistances$ChainReader", "isConsistent", "()Z"⟩, 8), (⟨"MarkovChainDistancesModel", "\x69nitialize", "(II)V"⟩, 30)]
theorem lw_r2 : ∀ q ∈ lw_privs_2, lw_okq q := List.forall_mem_cons.mpr ⟨lw_p16, List.forall_mem_cons.mpr ⟨lw_p17, List.forall_mem_cons.mpr ⟨lw_p18, List.forall_mem_cons.mpr ⟨lw_p19, List.forall_mem_cons.mpr ⟨lw_p20, List.forall_mem_cons.mpr ⟨lw_p21, List.forall_mem_cons.mpr ⟨lw_p22, List.forall_mem_cons.mpr ⟨lw_p23, List.forall_mem_cons.mpr ⟨lw_p24, List.forall_mem_cons.mpr ⟨lw_p25, List.forall_mem_cons.mpr ⟨lw_p26, List.forall_mem_cons.mpr ⟨lw_p27, List.forall_mem_cons.mpr ⟨lw_p28, List.forall_mem_cons.mpr ⟨lw_p29, List.forall_mem_cons.mpr ⟨lw_p30, List.forall_mem_cons.mpr ⟨lw_p31, fun _ h => absurd h List.not_mem_nil⟩⟩⟩⟩⟩⟩⟩⟩⟩⟩⟩⟩⟩⟩⟩⟩
theorem lw_p32 : lw_okq (⟨"MarkovChainDistancesModel", "setWeight", "(III)V"⟩, 30) := ⟨⟨by decide +kernel, by decide +kernel⟩, List.mem_of_getElem? (i := 744) (by decide +kernel), List.mem_of_getElem? (i := 754) (by decide +kernel), List.mem_of_getElem? (i := 755) (by decide +kernel)⟩
theorem lw_p33 : lw_okq (⟨"MarkovChainDistancesModel", "isState", "(I)Z"⟩, 30) := ⟨⟨by decide +kernel, by decide +kernel⟩, List.mem_of_getElem? (i := 744) (by decide +kernel), List.mem_of_getElem? (i := 871) (by decide +kernel), List.mem_of_getElem? (i := 872) (by decide +kernel)⟩
theorem lw_p34 : lw_okq (⟨"MarkovChainDistancesModel", "begin", "()V"⟩, 30) := ⟨⟨by decide +kernel, by decide +kernel⟩, List.mem_of_getElem? (i := 744) (by decide +kernel), List.mem_of_getElem? (i := 876) (by decide +kernel), List.mem_of_getElem? (i := 877) (by decide +kernel)⟩
theorem lw_p35 : lw_okq (⟨"MarkovChainDistancesModel", "record", "()Z"⟩, 30) := ⟨⟨by decide +kernel, by decide +kernel⟩, List.mem_of_getElem? (i := 744) (by decide +kernel), List.mem_of_getElem? (i := 881) (by decide +kernel), List.mem_of_getElem? (i := 882) (by decide +kernel)⟩
theorem lw_p36 : lw_okq (⟨"MarkovChainDistancesModel", "w", "(II)I"⟩, 30) := ⟨⟨by decide +kernel, by decide +kernel⟩, List.mem_of_getElem? (i := 744) (by decide +kernel), List.mem_of_getElem? (i := 893) (by decide +kernel), List.mem_of_getElem? (i := 894) (by decide +kernel)⟩
theorem lw_p37 : lw_okq (⟨"MarkovChainDistancesModel", "unit", "()I"⟩, 30) := ⟨⟨by decide +kernel, by decide +kernel⟩, List.mem_of_getElem? (i := 744) (by decide +kernel), List.mem_of_getElem? (i := 922) (by decide +kernel), List.mem_of_getElem? (i := 923) (by decide +kernel)⟩
theorem lw_p38 : lw_okq (⟨"MarkovChainDistancesModel", "scale", "(I)J"⟩, 30) := ⟨⟨by decide +kernel, by decide +kernel⟩, List.mem_of_getElem? (i := 744) (by decide +kernel), List.mem_of_getElem? (i := 926) (by decide +kernel), List.mem_of_getElem? (i := 927) (by decide +kernel)⟩
theorem lw_p39 : lw_okq (⟨"MarkovChainDistancesModel", "fraction", "(IIIZ)J"⟩, 30) := ⟨⟨by decide +kernel, by decide +kernel⟩, List.mem_of_getElem? (i := 744) (by decide +kernel), List.mem_of_getElem? (i := 935) (by decide +kernel), List.mem_of_getElem? (i := 936) (by decide +kernel)⟩
theorem lw_p40 : lw_okq (⟨"MarkovChainDistancesModel", "computeDistances", "(I)V"⟩, 30) := ⟨⟨by decide +kernel, by decide +kernel⟩, List.mem_of_getElem? (i := 744) (by decide +kernel), List.mem_of_getElem? (i := 944) (by decide +kernel), List.mem_of_getElem? (i := 945) (by decide +kernel)⟩
theorem lw_p41 : lw_okq (⟨"MarkovChainDistancesModel", "minimumCost", "(II)J"⟩, 30) := ⟨⟨by decide +kernel, by decide +kernel⟩, List.mem_of_getElem? (i := 744) (by decide +kernel), List.mem_of_getElem? (i := 948) (by decide +kernel), List.mem_of_getElem? (i := 949) (by decide +kernel)⟩
theorem lw_p42 : lw_okq (⟨"MarkovChainDistancesModel", "optimize", "(II)V"⟩, 30) := ⟨⟨by decide +kernel, by decide +kernel⟩, List.mem_of_getElem? (i := 744) (by decide +kernel), List.mem_of_getElem? (i := 952) (by decide +kernel), List.mem_of_getElem? (i := 953) (by decide +kernel)⟩
theorem lw_p43 : lw_okq (⟨"MarkovChainDistancesModel", "fill", "(II)V"⟩, 30) := ⟨⟨by decide +kernel, by decide +kernel⟩, List.mem_of_getElem? (i := 744) (by decide +kernel), List.mem_of_getElem? (i := 956) (by decide +kernel), List.mem_of_getElem? (i := 957) (by decide +kernel)⟩
theorem lw_p44 : lw_okq (⟨"MarkovChainDistancesModel", "cancel", "()Z"⟩, 30) := ⟨⟨by decide +kernel, by decide +kernel⟩, List.mem_of_getElem? (i := 744) (by decide +kernel), List.mem_of_getElem? (i := 960) (by decide +kernel), List.mem_of_getElem? (i := 961) (by decide +kernel)⟩
theorem lw_p45 : lw_okq (⟨"MarkovChainDistancesModel", "relax", "()I"⟩, 30) := ⟨⟨by decide +kernel, by decide +kernel⟩, List.mem_of_getElem? (i := 744) (by decide +kernel), List.mem_of_getElem? (i := 964) (by decide +kernel), List.mem_of_getElem? (i := 965) (by decide +kernel)⟩
theorem lw_p46 : lw_okq (⟨"MarkovChainDistancesModel", "d", "(II)J"⟩, 30) := ⟨⟨by decide +kernel, by decide +kernel⟩, List.mem_of_getElem? (i := 744) (by decide +kernel), List.mem_of_getElem? (i := 969) (by decide +kernel), List.mem_of_getElem? (i := 970) (by decide +kernel)⟩
theorem lw_p47 : lw_okq (⟨"MarkovChainDistancesModel", "f", "(II)I"⟩, 30) := ⟨⟨by decide +kernel, by decide +kernel⟩, List.mem_of_getElem? (i := 744) (by decide +kernel), List.mem_of_getElem? (i := 973) (by decide +kernel), List.mem_of_getElem? (i := 974) (by decide +kernel)⟩
def lw_privs_3 : List (MethodName × Nat) := [(⟨"MarkovChainDistancesModel", "setWeight", "(III)V"⟩, 30), (⟨"MarkovChainDistancesModel", "isState", "(I)Z"⟩, 30), (⟨"MarkovChainDistancesModel", "begin", "()V"⟩, 30), (⟨"MarkovChainDistancesModel", "record", "()Z"⟩, 30), (⟨"MarkovChainDistancesModel", "w", "(II)I"⟩, 30), (⟨"MarkovChainDistancesModel", "unit", "()I"⟩, 30), (⟨"MarkovChainDistancesModel", "scale", "(I)J"⟩, 30), (⟨"MarkovChainDistancesModel", "fraction", "(IIIZ)J"⟩, 30), (⟨"MarkovChainDistancesModel", "computeDistances", "(I)V"⟩, 30), (⟨"MarkovChainDistancesModel", "minimumCost", "(II)J"⟩, 30), (⟨"MarkovChainDistancesModel", "optimize", "(II)V"⟩, 30), (⟨"MarkovChainDistancesModel", "fill", "(II)V"⟩, 30), (⟨"MarkovChainDistancesModel", "cancel", "()Z"⟩, 30), (⟨"MarkovChainDistancesModel", "relax", "()I"⟩, 30), (⟨"MarkovChainDistancesModel", "d", "(II)J"⟩, 30), (⟨"MarkovChainDistancesModel", "f", "(II)I"⟩, 30)]
theorem lw_r3 : ∀ q ∈ lw_privs_3, lw_okq q := List.forall_mem_cons.mpr ⟨lw_p32, List.forall_mem_cons.mpr ⟨lw_p33, List.forall_mem_cons.mpr ⟨lw_p34, List.forall_mem_cons.mpr ⟨lw_p35, List.forall_mem_cons.mpr ⟨lw_p36, List.forall_mem_cons.mpr ⟨lw_p37, List.forall_mem_cons.mpr ⟨lw_p38, List.forall_mem_cons.mpr ⟨lw_p39, List.forall_mem_cons.mpr ⟨lw_p40, List.forall_mem_cons.mpr ⟨lw_p41, List.forall_mem_cons.mpr ⟨lw_p42, List.forall_mem_cons.mpr ⟨lw_p43, List.forall_mem_cons.mpr ⟨lw_p44, List.forall_mem_cons.mpr ⟨lw_p45, List.forall_mem_cons.mpr ⟨lw_p46, List.forall_mem_cons.mpr ⟨lw_p47, fun _ h => absurd h List.not_mem_nil⟩⟩⟩⟩⟩⟩⟩⟩⟩⟩⟩⟩⟩⟩⟩⟩
theorem lw_p48 : lw_okq (⟨"MarkovChainDistancesModel", "shift", "(II)V"⟩, 30) := ⟨⟨by decide +kernel, by decide +kernel⟩, List.mem_of_getElem? (i := 744) (by decide +kernel), List.mem_of_getElem? (i := 977) (by decide +kernel), List.mem_of_getElem? (i := 978) (by decide +kernel)⟩
theorem lw_p49 : lw_okq (⟨"MarkovChainDistancesModel", "isPair", "(I)Z"⟩, 30) := ⟨⟨by decide +kernel, by decide +kernel⟩, List.mem_of_getElem? (i := 744) (by decide +kernel), List.mem_of_getElem? (i := 992) (by decide +kernel), List.mem_of_getElem? (i := 993) (by decide +kernel)⟩
theorem lw_p50 : lw_okq (⟨"MarkovChainDistancesModel", "canonicalCoupling", "(II)V"⟩, 30) := ⟨⟨by decide +kernel, by decide +kernel⟩, List.mem_of_getElem? (i := 744) (by decide +kernel), List.mem_of_getElem? (i := 1005) (by decide +kernel), List.mem_of_getElem? (i := 1006) (by decide +kernel)⟩
theorem lw_p51 : lw_okq (⟨"MarkovChainDistancesModel", "lower", "(II)Z"⟩, 30) := ⟨⟨by decide +kernel, by decide +kernel⟩, List.mem_of_getElem? (i := 744) (by decide +kernel), List.mem_of_getElem? (i := 1009) (by decide +kernel), List.mem_of_getElem? (i := 1010) (by decide +kernel)⟩
theorem lw_p52 : lw_okq (⟨"MarkovChainDistancesModel", "computeClasses", "()V"⟩, 30) := ⟨⟨by decide +kernel, by decide +kernel⟩, List.mem_of_getElem? (i := 744) (by decide +kernel), List.mem_of_getElem? (i := 1021) (by decide +kernel), List.mem_of_getElem? (i := 1022) (by decide +kernel)⟩
theorem lw_p53 : lw_okq (⟨"MarkovChainDistancesModel", "number", "(Z)I"⟩, 30) := ⟨⟨by decide +kernel, by decide +kernel⟩, List.mem_of_getElem? (i := 744) (by decide +kernel), List.mem_of_getElem? (i := 1025) (by decide +kernel), List.mem_of_getElem? (i := 1026) (by decide +kernel)⟩
theorem lw_p54 : lw_okq (⟨"MarkovChainDistancesModel", "areAlike", "(II)Z"⟩, 30) := ⟨⟨by decide +kernel, by decide +kernel⟩, List.mem_of_getElem? (i := 744) (by decide +kernel), List.mem_of_getElem? (i := 1029) (by decide +kernel), List.mem_of_getElem? (i := 1030) (by decide +kernel)⟩
theorem lw_p55 : lw_okq (⟨"MarkovChainDistancesModel", "weightToClass", "(II)I"⟩, 30) := ⟨⟨by decide +kernel, by decide +kernel⟩, List.mem_of_getElem? (i := 744) (by decide +kernel), List.mem_of_getElem? (i := 1033) (by decide +kernel), List.mem_of_getElem? (i := 1034) (by decide +kernel)⟩
theorem lw_p56 : lw_okq (⟨"MarkovChainDistancesModel", "isQuery", "(III)Z"⟩, 30) := ⟨⟨by decide +kernel, by decide +kernel⟩, List.mem_of_getElem? (i := 744) (by decide +kernel), List.mem_of_getElem? (i := 1049) (by decide +kernel), List.mem_of_getElem? (i := 1050) (by decide +kernel)⟩
theorem lw_p57 : lw_okq (⟨"MarkovChainDistancesModel", "isIn", "(II)Z"⟩, 30) := ⟨⟨by decide +kernel, by decide +kernel⟩, List.mem_of_getElem? (i := 744) (by decide +kernel), List.mem_of_getElem? (i := 1053) (by decide +kernel), List.mem_of_getElem? (i := 1054) (by decide +kernel)⟩
theorem lw_p58 : lw_okq (⟨"MarkovChainDistancesModel", "step", "()V"⟩, 30) := ⟨⟨by decide +kernel, by decide +kernel⟩, List.mem_of_getElem? (i := 744) (by decide +kernel), List.mem_of_getElem? (i := 1057) (by decide +kernel), List.mem_of_getElem? (i := 1058) (by decide +kernel)⟩
theorem lw_p59 : lw_okq (⟨"MarkovChainDistancesModel", "walk", "(IIII)I"⟩, 30) := ⟨⟨by decide +kernel, by decide +kernel⟩, List.mem_of_getElem? (i := 744) (by decide +kernel), List.mem_of_getElem? (i := 1077) (by decide +kernel), List.mem_of_getElem? (i := 1078) (by decide +kernel)⟩
theorem lw_p60 : lw_okq (⟨"MarkovChainDistancesModel", "parseChain", "()V"⟩, 30) := ⟨⟨by decide +kernel, by decide +kernel⟩, List.mem_of_getElem? (i := 744) (by decide +kernel), List.mem_of_getElem? (i := 1098) (by decide +kernel), List.mem_of_getElem? (i := 1099) (by decide +kernel)⟩
theorem lw_p61 : lw_okq (⟨"MarkovChainDistancesModel", "number", "(I)I"⟩, 30) := ⟨⟨by decide +kernel, by decide +kernel⟩, List.mem_of_getElem? (i := 744) (by decide +kernel), List.mem_of_getElem? (i := 1102) (by decide +kernel), List.mem_of_getElem? (i := 1103) (by decide +kernel)⟩
theorem lw_p62 : lw_okq (⟨"MarkovChainDistancesModel", "isNext", "(II)Z"⟩, 30) := ⟨⟨by decide +kernel, by decide +kernel⟩, List.mem_of_getElem? (i := 744) (by decide +kernel), List.mem_of_getElem? (i := 1106) (by decide +kernel), List.mem_of_getElem? (i := 1107) (by decide +kernel)⟩
theorem lw_p63 : lw_okq (⟨"MarkovChainDistancesModel", "expect", "(I)V"⟩, 30) := ⟨⟨by decide +kernel, by decide +kernel⟩, List.mem_of_getElem? (i := 744) (by decide +kernel), List.mem_of_getElem? (i := 1110) (by decide +kernel), List.mem_of_getElem? (i := 1111) (by decide +kernel)⟩
def lw_privs_4 : List (MethodName × Nat) := [(⟨"MarkovChainDistancesModel", "shift", "(II)V"⟩, 30), (⟨"MarkovChainDistancesModel", "isPair", "(I)Z"⟩, 30), (⟨"MarkovChainDistancesModel", "canonicalCoupling", "(II)V"⟩, 30), (⟨"MarkovChainDistancesModel", "lower", "(II)Z"⟩, 30), (⟨"MarkovChainDistancesModel", "computeClasses", "()V"⟩, 30), (⟨"MarkovChainDistancesModel", "number", "(Z)I"⟩, 30), (⟨"MarkovChainDistancesModel", "areAlike", "(II)Z"⟩, 30), (⟨"MarkovChainDistancesModel", "weightToClass", "(II)I"⟩, 30), (⟨"MarkovChainDistancesModel", "isQuery", "(III)Z"⟩, 30), (⟨"MarkovChainDistancesModel", "isIn", "(II)Z"⟩, 30), (⟨"MarkovChainDistancesModel", "step", "()V"⟩, 30), (⟨"MarkovChainDistancesModel", "walk", "(IIII)I"⟩, 30), (⟨"MarkovChainDistancesModel", "parseChain", "()V"⟩, 30), (⟨"MarkovChainDistancesModel", "number", "(I)I"⟩, 30), (⟨"MarkovChainDistancesModel", "isNext", "(II)Z"⟩, 30), (⟨"MarkovChainDistancesModel", "expect", "(I)V"⟩, 30)]
theorem lw_r4 : ∀ q ∈ lw_privs_4, lw_okq q := List.forall_mem_cons.mpr ⟨lw_p48, List.forall_mem_cons.mpr ⟨lw_p49, List.forall_mem_cons.mpr ⟨lw_p50, List.forall_mem_cons.mpr ⟨lw_p51, List.forall_mem_cons.mpr ⟨lw_p52, List.forall_mem_cons.mpr ⟨lw_p53, List.forall_mem_cons.mpr ⟨lw_p54, List.forall_mem_cons.mpr ⟨lw_p55, List.forall_mem_cons.mpr ⟨lw_p56, List.forall_mem_cons.mpr ⟨lw_p57, List.forall_mem_cons.mpr ⟨lw_p58, List.forall_mem_cons.mpr ⟨lw_p59, List.forall_mem_cons.mpr ⟨lw_p60, List.forall_mem_cons.mpr ⟨lw_p61, List.forall_mem_cons.mpr ⟨lw_p62, List.forall_mem_cons.mpr ⟨lw_p63, fun _ h => absurd h List.not_mem_nil⟩⟩⟩⟩⟩⟩⟩⟩⟩⟩⟩⟩⟩⟩⟩⟩
theorem lw_p64 : lw_okq (⟨"MarkovChainDistancesModel", "accept", "(I)Z"⟩, 30) := ⟨⟨by decide +kernel, by decide +kernel⟩, List.mem_of_getElem? (i := 744) (by decide +kernel), List.mem_of_getElem? (i := 1114) (by decide +kernel), List.mem_of_getElem? (i := 1115) (by decide +kernel)⟩
theorem lw_p65 : lw_okq (⟨"MarkovChainDistancesModel", "parseState", "()V"⟩, 30) := ⟨⟨by decide +kernel, by decide +kernel⟩, List.mem_of_getElem? (i := 744) (by decide +kernel), List.mem_of_getElem? (i := 1118) (by decide +kernel), List.mem_of_getElem? (i := 1119) (by decide +kernel)⟩
theorem lw_p66 : lw_okq (⟨"MarkovChainDistancesModel", "findWrongSuccessors", "()V"⟩, 30) := ⟨⟨by decide +kernel, by decide +kernel⟩, List.mem_of_getElem? (i := 744) (by decide +kernel), List.mem_of_getElem? (i := 1122) (by decide +kernel), List.mem_of_getElem? (i := 1123) (by decide +kernel)⟩
theorem lw_p67 : lw_okq (⟨"MarkovChainDistancesModel", "isConsistent", "()Z"⟩, 30) := ⟨⟨by decide +kernel, by decide +kernel⟩, List.mem_of_getElem? (i := 744) (by decide +kernel), List.mem_of_getElem? (i := 1126) (by decide +kernel), List.mem_of_getElem? (i := 1127) (by decide +kernel)⟩
theorem lw_p68 : lw_okq (⟨"MarkovChainDistancesModel", "hasWrongSuccessor", "(I)Z"⟩, 30) := ⟨⟨by decide +kernel, by decide +kernel⟩, List.mem_of_getElem? (i := 744) (by decide +kernel), List.mem_of_getElem? (i := 1130) (by decide +kernel), List.mem_of_getElem? (i := 1131) (by decide +kernel)⟩
def lw_privs_5 : List (MethodName × Nat) := [(⟨"MarkovChainDistancesModel", "accept", "(I)Z"⟩, 30), (⟨"MarkovChainDistancesModel", "parseState", "()V"⟩, 30), (⟨"MarkovChainDistancesModel", "findWrongSuccessors", "()V"⟩, 30), (⟨"MarkovChainDistancesModel", "isConsistent", "()Z"⟩, 30), (⟨"MarkovChainDistancesModel", "hasWrongSuccessor", "(I)Z"⟩, 30)]
theorem lw_r5 : ∀ q ∈ lw_privs_5, lw_okq q := List.forall_mem_cons.mpr ⟨lw_p64, List.forall_mem_cons.mpr ⟨lw_p65, List.forall_mem_cons.mpr ⟨lw_p66, List.forall_mem_cons.mpr ⟨lw_p67, List.forall_mem_cons.mpr ⟨lw_p68, fun _ h => absurd h List.not_mem_nil⟩⟩⟩⟩⟩
def lw_privs : List (MethodName × Nat) := lw_privs_1 ++ (lw_privs_2 ++ (lw_privs_3 ++ (lw_privs_4 ++ (lw_privs_5))))
def lw_tbl : List Cond := k2_sels lw_privs ++ tables_1
theorem lw_privs_ok : ∀ q ∈ lw_privs, lw_okq q := by
  show ∀ q ∈ lw_privs_1 ++ (lw_privs_2 ++ (lw_privs_3 ++ (lw_privs_4 ++ (lw_privs_5)))), lw_okq q
  exact List.forall_mem_append.mpr ⟨lw_r1, List.forall_mem_append.mpr ⟨lw_r2, List.forall_mem_append.mpr ⟨lw_r3, List.forall_mem_append.mpr ⟨lw_r4, lw_r5⟩⟩⟩⟩
/-- f, but v at every address of l -/
def vr_up {α : Type} (f : Nat → α) (l : List Nat) (v : α) : Nat → α := fun a => if a ∈ l then v else f a
theorem vr_up_in {α : Type} {f : Nat → α} {l : List Nat} {v : α} {a : Nat} (h : a ∈ l) : vr_up f l v a = v := if_pos h
theorem vr_up_ne {α : Type} {f : Nat → α} {l : List Nat} {v : α} {a : Nat} (h : a ∉ l) : vr_up f l v a = f a := if_neg h
theorem vr_rows {L l : List Nat} {f : Nat → va_E} {e : va_E} (h : ∀ a, a ∈ l → a ∉ L) : va_pl L f ++ l.map (fun a => (a, e)) = va_pl (L ++ l) (vr_up f l e) := by
  unfold va_pl
  rw [List.map_append]
  congr 1
  · apply List.map_congr_left
    intro a ha
    rw [vr_up_ne (fun q => h a q ha)]
  · apply List.map_congr_left
    intro a ha
    rw [vr_up_in ha]
theorem vr_lay {X rows : va_W} {x : Nat × va_E} {pl : va_W} {D : va_G} {cl : List vw_C} {H : Heap} (hP : va_P D cl (((X ++ pl) ++ [x]) ++ rows) H) : va_P D cl ((X ++ [x]) ++ (pl ++ rows)) H := by
  rw [List.append_assoc (X ++ pl)] at hP
  have h := va_P.swap hP
  rw [← List.append_assoc X] at h
  have h2 := va_P.swap h
  rw [List.append_assoc (X ++ [x])] at h2
  exact h2
theorem vr_layD {X rows : va_W} {x : Nat × va_E} {pl : va_W} {A : Nat → Prop} (hD : va_D A (((X ++ pl) ++ [x]) ++ rows)) : va_D A ((X ++ [x]) ++ (pl ++ rows)) := by
  rw [List.append_assoc (X ++ pl)] at hD
  have h := va_D.swap hD
  rw [← List.append_assoc X] at h
  have h2 := va_D.swap h
  rw [List.append_assoc (X ++ [x])] at h2
  exact h2
theorem vr_outer (c : ClassId) (N h0 : Nat) : ∀ i : Nat, Jvm.Free.Multi.outerC c N h0 i = arrV c N (fun j => va_rf (if j < i then some (h0 + 1 + j) else none))
  | 0 => by
    show ({ cls := c, slots := Array.replicate N .null, vm := .none } : Cell) = _
    rw [arrV_new]
    refine congrArg (arrV c N) (funext fun j => ?_)
    simp [va_rf]
  | i + 1 => by
    show (Jvm.Free.Multi.outerC c N h0 i).setSlot i (.ref (h0 + 1 + i)) = _
    rw [vr_outer c N h0 i, arrV_store]
    refine congrArg (arrV c N) (funext fun j => ?_)
    by_cases e : j = i
    · subst e
      simp [updV, va_rf]
    · by_cases h : j < i
      · simp [updV, e, h, Nat.lt_succ_of_lt h]
      · simp [updV, e, h, show ¬ j < i + 1 by omega]
def va_AOA (ty : FieldType) (U : State) : Prop := (Cond.arrayOver (.array ty)).before #[] U = true
theorem va_AOA.use {ty : FieldType} {A : Array Value} {U : State} (h : va_AOA ty U) : (Cond.arrayOver (.array ty)).before A U = true := h
section VGM
variable {p : Program} {l : Launch} {e : Env} {R : Room} {s : State} {m : MethodId} {args : Array Value} {below : List Frame} {meth : Method} {c : Code} {H : Heap} {locs : List Loc} {cells slots : Nat} {Q : State → Prop}
variable {cc : ByteArray} {pc : Nat} {ls : Array Slot} {rest : List Value} {D : va_G} {cl : List vw_C} {A : Nat → Prop} {a : Nat} {tys : List (ClassId × FieldType)} {ws : va_W} {H0 : Heap}
theorem va_mna {X : va_W} {L : List Nat} {f : Nat → va_E} {cc : ByteArray} (hexec : p.tables.exec = Jvm.exec) (hb : c.code = cc) {own : String} {index : Nat} {ty : FieldType} {cy : ClassId} (hown : s.vm.findClass own = some m.cls) (hclink : (Cond.classLink own index ("[" ++ (FieldType.array ty).toString)).before args s = true) (hover : va_AOA ty s) (harr : (Cond.arrayClass ty).before args s = true) (hcy : s.vm.findClass (FieldType.array ty).toString = some cy)
    (hK : va_K D cl tys s) (hP : va_P D cl (X ++ va_pl L f) H) (hD : va_D A (X ++ va_pl L f)) (hS : va_S A H0 H locs) (hA : ∀ q, H0.size ≤ q → A q) {n k : Int32} {N' K' : Nat} {z : vp_A} (hn : ¬ n < 0) (hk : ¬ k < 0) (hN : n.toNatClampNeg = N') (hM : k.toNatClampNeg = K')
    (hb1 : N' * 4 ≤ 536870912) (hb2 : K' * componentBytes ty ≤ 536870912) (hb3 : K' ≤ 536870912) (hdf : fits ty (defaultValue ty) = true) (hdd : (defaultValue ty).isDefault = true) (hcells : cells + (1 + N') ≤ R.cells) (hslots : slots + (N' + N' * K') ≤ R.slots) (hz : ∀ c : ClassId, Jvm.Free.Multi.innerC c K' (defaultValue ty) = vp_cell c z) (hdg : decode cc pc = .ok (.multianewarray index 2, 4))
    (kk : ∀ (q : Nat) (r : Nat → Nat) (cA : ClassId) (H1 : Heap), (∀ i j : Nat, i < N' → j < N' → r i = r j → i = j) → (∀ i : Nat, i < N' → r i ∉ L) → va_K D cl (tys ++ [(cA, .array ty)]) s →
      va_P D cl ((X ++ [(q, .inl (cA, N', .inr (.inr (.inr (.inr (fun i => if i < N' then some (r i) else none))))))]) ++ va_pl (L ++ (List.range N').map r) (vr_up f ((List.range N').map r) (.inl (cy, z)))) H1 → va_D A ((X ++ [(q, .inl (cA, N', .inr (.inr (.inr (.inr (fun i => if i < N' then some (r i) else none))))))]) ++ va_pl (L ++ (List.range N').map r) (vr_up f ((List.range N').map r) (.inl (cy, z)))) → va_S A H0 H1 locs →
      W p l e R s m args below meth c H1 locs (cells + 1 + N') (slots + N' + N' * K') Q (F0 m (pc + 4) ls (.ref q :: rest))) : W p l e R s m args below meth c H locs cells slots Q (F0 m pc ls (.int k :: .int n :: rest)) := by
  subst hN
  subst hM
  intro T hT Xs
  obtain ⟨vm₁, cA, comp, -, fA, fC, hO, -, X', step⟩ := Xs.multianewarray2F hexec hown hclink (va_AOA.use hover) harr (g := F0 m pc ls (.int k :: .int n :: rest)) rfl (by rw [hb]; exact hdg) rfl hn hk hb1 hb2 hb3 hdf hdd hcells hslots
  have ec : some cy = some comp := hcy.symm.trans fC
  cases ec
  generalize hF : Jvm.Free.Multi.fill (T.setVm vm₁) cA cy n.toNatClampNeg k.toNatClampNeg (defaultValue ty) n.toNatClampNeg = F at X' step
  have hTh : (T.setVm vm₁).heap = H := hT
  obtain ⟨f1, f2, -, -⟩ := Jvm.Free.Multi.fill_facts (T.setVm vm₁) cA cy n.toNatClampNeg k.toNatClampNeg (defaultValue ty) n.toNatClampNeg
  rw [hF, hTh] at f1 f2
  have hold : ∀ x : Nat, x < H.size → F.heap[x]? = H[x]? := fun x hx => by
    have := Jvm.Free.Multi.fill_old (T.setVm vm₁) cA cy n.toNatClampNeg k.toNatClampNeg (defaultValue ty) (a := x) (by rw [hTh]; exact hx) n.toNatClampNeg
    rw [hF, hTh] at this
    exact this
  have hrow : ∀ j : Nat, j < n.toNatClampNeg → F.heap[H.size + 1 + j]? = some (vp_cell cy z) := fun j hj => by
    have := Jvm.Free.Multi.fill_inner (T.setVm vm₁) cA cy n.toNatClampNeg k.toNatClampNeg (defaultValue ty) n.toNatClampNeg j hj
    rw [hF, hTh, hz] at this
    exact this
  have hout : Jvm.Free.Multi.outerC cA n.toNatClampNeg H.size n.toNatClampNeg = vp_cell cA (n.toNatClampNeg, .inr (.inr (.inr (.inr (fun i => if i < n.toNatClampNeg then some (H.size + 1 + i) else none))))) := by
    rw [vp_cell_q]
    exact vr_outer cA n.toNatClampNeg H.size n.toNatClampNeg
  rw [hout] at f2
  have hlt : ∀ a, a ∈ L → a < H.size := fun a ha => by
    obtain ⟨k9, hk9⟩ := va_pl_get (X := X) (f := f) ha
    exact (hP k9 _ hk9).lt
  have hnl : ∀ i : Nat, i < n.toNatClampNeg → H.size + 1 + i ∉ L := fun i _ h => by
    have := hlt _ h
    omega
  have hnm : ∀ a, a ∈ (List.range n.toNatClampNeg).map (fun i => H.size + 1 + i) → a ∉ L := fun a ha h => by
    obtain ⟨i, -, rfl⟩ := List.mem_map.mp ha
    have := hlt _ h
    omega
  have hP0 : va_P D cl (X ++ va_pl L f) F.heap := hP.kept (fun k9 x hx => hold x.1 ((hP k9 x hx).lt))
  have hP1 : va_P D cl ((X ++ va_pl L f) ++ [(H.size, .inl (cA, n.toNatClampNeg, .inr (.inr (.inr (.inr (fun i => if i < n.toNatClampNeg then some (H.size + 1 + i) else none))))))]) F.heap := hP0.app (fun k9 x hx => by
    have h0 : k9 < 1 := (List.getElem?_eq_some_iff.mp hx).1
    rw [show k9 = 0 by omega] at hx
    cases hx
    exact f2)
  have hP2 : va_P D cl (((X ++ va_pl L f) ++ [(H.size, .inl (cA, n.toNatClampNeg, .inr (.inr (.inr (.inr (fun i => if i < n.toNatClampNeg then some (H.size + 1 + i) else none))))))]) ++ ((List.range n.toNatClampNeg).map (fun i => H.size + 1 + i)).map (fun a => (a, .inl (cy, z)))) F.heap := hP1.app (fun k9 x hx => by
    obtain ⟨a, ha, rfl⟩ := List.mem_map.mp (List.mem_of_getElem? hx)
    obtain ⟨i, hi, rfl⟩ := List.mem_map.mp ha
    exact hrow i (List.mem_range.mp hi))
  have hD2 : va_D A (((X ++ va_pl L f) ++ [(H.size, .inl (cA, n.toNatClampNeg, .inr (.inr (.inr (.inr (fun i => if i < n.toNatClampNeg then some (H.size + 1 + i) else none))))))]) ++ ((List.range n.toNatClampNeg).map (fun i => H.size + 1 + i)).map (fun a => (a, .inl (cy, z)))) := by
    have hD1 := hD.push (e := .inl (cA, n.toNatClampNeg, .inr (.inr (.inr (.inr (fun i => if i < n.toNatClampNeg then some (H.size + 1 + i) else none)))))) hP rfl (hA _ hS.1)
    generalize hW1 : (X ++ va_pl L f) ++ [(H.size, .inl (cA, n.toNatClampNeg, .inr (.inr (.inr (.inr (fun i => if i < n.toNatClampNeg then some (H.size + 1 + i) else none))))))] = W1 at hD1 hP1 ⊢
    have hle : ∀ (k9 : Nat) (x : Nat × va_E), W1[k9]? = some x → x.1 ≤ H.size := fun k9 x hx => by
      rw [← hW1] at hx
      by_cases hl : k9 < (X ++ va_pl L f).length
      · rw [List.getElem?_append_left hl] at hx
        exact Nat.le_of_lt ((hP k9 x hx).lt)
      · rw [List.getElem?_append_right (by omega)] at hx
        have h0 : k9 - (X ++ va_pl L f).length < 1 := (List.getElem?_eq_some_iff.mp hx).1
        rw [show k9 - (X ++ va_pl L f).length = 0 by omega] at hx
        cases hx
        exact Nat.le_refl _
    have hr : ∀ (k9 : Nat) (x : Nat × va_E), (((List.range n.toNatClampNeg).map (fun i => H.size + 1 + i)).map (fun a => ((a, .inl (cy, z)) : Nat × va_E)))[k9]? = some x → x.1 = H.size + 1 + k9 := fun k9 x hx => by
      rw [List.getElem?_map, List.getElem?_map] at hx
      by_cases h9 : k9 < n.toNatClampNeg
      · rw [List.getElem?_range h9] at hx
        cases hx
        rfl
      · have hn0 : (List.range n.toNatClampNeg)[k9]? = none := List.getElem?_eq_none (by rw [List.length_range]; omega)
        rw [hn0] at hx
        cases hx
    refine ⟨fun i j x y hi hj hxy => ?_, fun k9 x hx => ?_⟩
    · by_cases h1 : i < W1.length <;> by_cases h2 : j < W1.length
      · rw [List.getElem?_append_left h1] at hi
        rw [List.getElem?_append_left h2] at hj
        exact hD1.1 i j x y hi hj hxy
      · rw [List.getElem?_append_left h1] at hi
        rw [List.getElem?_append_right (by omega)] at hj
        have := hle _ _ hi
        have := hr _ _ hj
        omega
      · rw [List.getElem?_append_right (by omega)] at hi
        rw [List.getElem?_append_left h2] at hj
        have := hle _ _ hj
        have := hr _ _ hi
        omega
      · rw [List.getElem?_append_right (by omega)] at hi hj
        have := hr _ _ hi
        have := hr _ _ hj
        omega
    · by_cases h1 : k9 < W1.length
      · rw [List.getElem?_append_left h1] at hx
        exact hD1.2 k9 x hx
      · rw [List.getElem?_append_right (by omega)] at hx
        have := hr _ _ hx
        exact hA _ (by have := hS.1; omega)
  have hAr : ArrOfT s cA (.array ty) := fun N9 z9 => by
    obtain ⟨-, k9, hk9, cm9, hkk9⟩ := (hO 0 0 0).1
    exact ⟨(fun q hq => by cases hq), k9, hk9, cm9, hkk9⟩
  have hK2 : va_K D cl (tys ++ [(cA, .array ty)]) s := ⟨hK.1, fun k9 x hx => by
    by_cases hl : k9 < tys.length
    · rw [List.getElem?_append_left hl] at hx
      exact hK.2 k9 x hx
    · rw [List.getElem?_append_right (by omega)] at hx
      have h0 : k9 - tys.length < 1 := (List.getElem?_eq_some_iff.mp hx).1
      rw [show k9 - tys.length = 0 by omega] at hx
      cases hx
      exact ⟨hAr, fA⟩⟩
  obtain ⟨t, a1, b1⟩ := kk H.size (fun i => H.size + 1 + i) cA F.heap (fun i j _ _ h => by have h9 : H.size + 1 + i = H.size + 1 + j := h; omega) hnl hK2 (by rw [← vr_rows hnm]; exact vr_lay hP2) (by rw [← vr_rows hnm]; exact vr_layD hD2) ⟨by rw [f1]; have := hS.1; omega, fun x h1 h2 => (hold x (Nat.lt_of_lt_of_le h1 hS.1)).trans (hS.2.1 x h1 h2), hS.2.2⟩ F rfl X'
  refine ⟨t, step t ?_, b1⟩
  have e : T.heap.size = H.size := by rw [hT]
  rw [e]
  exact a1
end VGM

def RX0 : String := "MarkovChainDistances$ArraySlots"
def TX0 : u_T := fun k => match k with
  | 0 => ("MarkovChainDistances$ArraySlots", "types", "[I", true)
  | 1 => ("MarkovChainDistances$ArraySlots", "sizes", "[I", true)
  | _ => ("MarkovChainDistances$ArraySlots", "elements", "[[J", true)
def tyX0 : Nat → FieldType := fun k => match k with
  | 0 => .array .int
  | 1 => .array .int
  | _ => .array (.array .long)
theorem nmX0 : ∀ a, a < 3 → ∀ b, b < 3 → a ≠ b → (TX0 a).2.1 ≠ (TX0 b).2.1 := by decide +kernel
theorem tyX0_ok : ∀ k, k < 3 → parseFieldDescriptor (TX0 k).2.2.1 = some (tyX0 k) := by decide +kernel
abbrev cX0_init : ByteArray := prog_2_method_1_code
def yX0_init : MethodName := ⟨RX0, "<init>", "()V"⟩
abbrev cX0_isEmpty : ByteArray := prog_2_method_2_code
def yX0_isEmpty : MethodName := ⟨RX0, "isEmpty", "(I)Z"⟩
abbrev cX0_hasIndex : ByteArray := prog_2_method_3_code
def yX0_hasIndex : MethodName := ⟨RX0, "hasIndex", "(II)Z"⟩
abbrev cX0_hasRange : ByteArray := prog_2_method_4_code
def yX0_hasRange : MethodName := ⟨RX0, "hasRange", "(III)Z"⟩
abbrev cX0_fillNew : ByteArray := prog_2_method_5_code
def yX0_fillNew : MethodName := ⟨RX0, "fillNew", "(III)V"⟩
abbrev cX0_narrowed : ByteArray := prog_2_method_6_code
def yX0_narrowed : MethodName := ⟨RX0, "narrowed", "(JI)J"⟩
def RX1 : String := "MarkovChainDistances$Chain"
def TX1 : u_T := fun k => match k with
  | 0 => ("MarkovChainDistances$Chain", "size", "I", false)
  | 1 => ("MarkovChainDistances$Chain", "total", "I", false)
  | 2 => ("MarkovChainDistances$Chain", "discountTop", "I", false)
  | 3 => ("MarkovChainDistances$Chain", "discountBottom", "I", false)
  | 4 => ("MarkovChainDistances$Chain", "labels", "[I", true)
  | _ => ("MarkovChainDistances$Chain", "weights", "[I", true)
def tyX1 : Nat → FieldType := fun k => match k with
  | 0 => .int
  | 1 => .int
  | 2 => .int
  | 3 => .int
  | 4 => .array .int
  | _ => .array .int
theorem nmX1 : ∀ a, a < 6 → ∀ b, b < 6 → a ≠ b → (TX1 a).2.1 ≠ (TX1 b).2.1 := by decide +kernel
theorem tyX1_ok : ∀ k, k < 6 → parseFieldDescriptor (TX1 k).2.2.1 = some (tyX1 k) := by decide +kernel
abbrev cX1_init : ByteArray := prog_3_method_1_code
def yX1_init : MethodName := ⟨RX1, "<init>", "()V"⟩
abbrev cX1_start : ByteArray := prog_3_method_2_code
def yX1_start : MethodName := ⟨RX1, "start", "(II)V"⟩
abbrev cX1_has : ByteArray := prog_3_method_3_code
def yX1_has : MethodName := ⟨RX1, "has", "(I)Z"⟩
abbrev cX1_copyFrom : ByteArray := prog_3_method_4_code
def yX1_copyFrom : MethodName := ⟨RX1, "copyFrom", "(LMarkovChainDistances$Chain;)V"⟩
abbrev cX1_copySwapped : ByteArray := prog_3_method_5_code
def yX1_copySwapped : MethodName := ⟨RX1, "copySwapped", "(LMarkovChainDistances$Chain;II)V"⟩
abbrev cX1_swapped : ByteArray := prog_3_method_6_code
def yX1_swapped : MethodName := ⟨RX1, "swapped", "(III)I"⟩
abbrev cX1_sameAs : ByteArray := prog_3_method_7_code
def yX1_sameAs : MethodName := ⟨RX1, "sameAs", "(LMarkovChainDistances$Chain;)Z"⟩
abbrev cX1_successorAt : ByteArray := prog_3_method_8_code
def yX1_successorAt : MethodName := ⟨RX1, "successorAt", "(II)I"⟩
def RX2 : String := "MarkovChainDistances$ChainReader"
def TX2 : u_T := fun k => match k with
  | 0 => ("MarkovChainDistances$ChainReader", "text", "LMarkovChainDistances$InputBuffer;", true)
  | 1 => ("MarkovChainDistances$ChainReader", "position", "I", false)
  | 2 => ("MarkovChainDistances$ChainReader", "malformed", "Z", false)
  | 3 => ("MarkovChainDistances$ChainReader", "size", "I", false)
  | 4 => ("MarkovChainDistances$ChainReader", "total", "I", false)
  | 5 => ("MarkovChainDistances$ChainReader", "highestSuccessor", "I", false)
  | 6 => ("MarkovChainDistances$ChainReader", "labels", "[I", true)
  | _ => ("MarkovChainDistances$ChainReader", "weights", "[I", true)
def tyX2 : Nat → FieldType := fun k => match k with
  | 0 => .object "MarkovChainDistances$InputBuffer"
  | 1 => .int
  | 2 => .boolean
  | 3 => .int
  | 4 => .int
  | 5 => .int
  | 6 => .array .int
  | _ => .array .int
theorem nmX2 : ∀ a, a < 8 → ∀ b, b < 8 → a ≠ b → (TX2 a).2.1 ≠ (TX2 b).2.1 := by decide +kernel
theorem tyX2_ok : ∀ k, k < 8 → parseFieldDescriptor (TX2 k).2.2.1 = some (tyX2 k) := by decide +kernel
abbrev cX2_init : ByteArray := prog_4_method_1_code
def yX2_init : MethodName := ⟨RX2, "<init>", "()V"⟩
abbrev cX2_readInput : ByteArray := prog_4_method_2_code
def yX2_readInput : MethodName := ⟨RX2, "readInput", "()I"⟩
abbrev cX2_clear : ByteArray := prog_4_method_3_code
def yX2_clear : MethodName := ⟨RX2, "clear", "()V"⟩
abbrev cX2_readStates : ByteArray := prog_4_method_4_code
def yX2_readStates : MethodName := ⟨RX2, "readStates", "()V"⟩
abbrev cX2_readState : ByteArray := prog_4_method_5_code
def yX2_readState : MethodName := ⟨RX2, "readState", "(I)V"⟩
abbrev cX2_readEdge : ByteArray := prog_4_method_6_code
def yX2_readEdge : MethodName := ⟨RX2, "readEdge", "(I)V"⟩
abbrev cX2_takeNumber : ByteArray := prog_4_method_7_code
def yX2_takeNumber : MethodName := ⟨RX2, "takeNumber", "(I)I"⟩
abbrev cX2_take : ByteArray := prog_4_method_8_code
def yX2_take : MethodName := ⟨RX2, "take", "(C)V"⟩
abbrev cX2_takeIfPresent : ByteArray := prog_4_method_9_code
def yX2_takeIfPresent : MethodName := ⟨RX2, "takeIfPresent", "(C)Z"⟩
abbrev cX2_isConsistent : ByteArray := prog_4_method_10_code
def yX2_isConsistent : MethodName := ⟨RX2, "isConsistent", "()Z"⟩
abbrev cX2_writeTo : ByteArray := prog_4_method_11_code
def yX2_writeTo : MethodName := ⟨RX2, "writeTo", "(LMarkovChainDistances$Chain;)V"⟩
def RX3 : String := "MarkovChainDistances$Distances"
def TX3 : u_T := fun k => match k with
  | 0 => ("MarkovChainDistances$Distances", "basis", "LMarkovChainDistances$Chain;", true)
  | 1 => ("MarkovChainDistances$Distances", "transport", "LMarkovChainDistances$Transport;", true)
  | 2 => ("MarkovChainDistances$Distances", "levels", "[[J", true)
  | 3 => ("MarkovChainDistances$Distances", "scales", "[J", true)
  | _ => ("MarkovChainDistances$Distances", "knownDepth", "I", false)
def tyX3 : Nat → FieldType := fun k => match k with
  | 0 => .object "MarkovChainDistances$Chain"
  | 1 => .object "MarkovChainDistances$Transport"
  | 2 => .array (.array .long)
  | 3 => .array .long
  | _ => .int
theorem nmX3 : ∀ a, a < 5 → ∀ b, b < 5 → a ≠ b → (TX3 a).2.1 ≠ (TX3 b).2.1 := by decide +kernel
theorem tyX3_ok : ∀ k, k < 5 → parseFieldDescriptor (TX3 k).2.2.1 = some (tyX3 k) := by decide +kernel
abbrev cX3_init : ByteArray := prog_5_method_1_code
def yX3_init : MethodName := ⟨RX3, "<init>", "()V"⟩
abbrev cX3_levelFor : ByteArray := prog_5_method_2_code
def yX3_levelFor : MethodName := ⟨RX3, "levelFor", "(LMarkovChainDistances$Chain;I)[J"⟩
abbrev cX3_fillLevel : ByteArray := prog_5_method_3_code
def yX3_fillLevel : MethodName := ⟨RX3, "fillLevel", "(I)V"⟩
abbrev cX3_canonicalCoupling : ByteArray := prog_5_method_4_code
def yX3_canonicalCoupling : MethodName := ⟨RX3, "canonicalCoupling", "([JII)[I"⟩
abbrev cX3_inLowestTerms : ByteArray := prog_5_method_5_code
def yX3_inLowestTerms : MethodName := ⟨RX3, "inLowestTerms", "(JIZ)J"⟩
abbrev cX3_greatestCommonDivisor : ByteArray := prog_5_method_6_code
def yX3_greatestCommonDivisor : MethodName := ⟨RX3, "greatestCommonDivisor", "(JJ)J"⟩
def RX4 : String := "MarkovChainDistances$EditHistory"
def TX4 : u_T := fun k => match k with
  | 0 => ("MarkovChainDistances$EditHistory", "count", "I", false)
  | 1 => ("MarkovChainDistances$EditHistory", "next", "I", false)
  | _ => ("MarkovChainDistances$EditHistory", "before", "[LMarkovChainDistances$Chain;", true)
def tyX4 : Nat → FieldType := fun k => match k with
  | 0 => .int
  | 1 => .int
  | _ => .array (.object "MarkovChainDistances$Chain")
theorem nmX4 : ∀ a, a < 3 → ∀ b, b < 3 → a ≠ b → (TX4 a).2.1 ≠ (TX4 b).2.1 := by decide +kernel
theorem tyX4_ok : ∀ k, k < 3 → parseFieldDescriptor (TX4 k).2.2.1 = some (tyX4 k) := by decide +kernel
abbrev cX4_init : ByteArray := prog_6_method_1_code
def yX4_init : MethodName := ⟨RX4, "<init>", "()V"⟩
abbrev cX4_remember : ByteArray := prog_6_method_2_code
def yX4_remember : MethodName := ⟨RX4, "remember", "(LMarkovChainDistances$Chain;)V"⟩
abbrev cX4_takeLast : ByteArray := prog_6_method_3_code
def yX4_takeLast : MethodName := ⟨RX4, "takeLast", "(LMarkovChainDistances$Chain;)V"⟩
abbrev cX4_forgetAll : ByteArray := prog_6_method_4_code
def yX4_forgetAll : MethodName := ⟨RX4, "forgetAll", "()V"⟩
def RX5 : String := "MarkovChainDistances$InputBuffer"
def TX5 : u_T := fun k => match k with
  | 0 => ("MarkovChainDistances$InputBuffer", "length", "I", false)
  | _ => ("MarkovChainDistances$InputBuffer", "signs", "[I", true)
def tyX5 : Nat → FieldType := fun k => match k with
  | 0 => .int
  | _ => .array .int
theorem nmX5 : ∀ a, a < 2 → ∀ b, b < 2 → a ≠ b → (TX5 a).2.1 ≠ (TX5 b).2.1 := by decide +kernel
theorem tyX5_ok : ∀ k, k < 2 → parseFieldDescriptor (TX5 k).2.2.1 = some (tyX5 k) := by decide +kernel
abbrev cX5_init : ByteArray := prog_7_method_1_code
def yX5_init : MethodName := ⟨RX5, "<init>", "()V"⟩
abbrev cX5_add : ByteArray := prog_7_method_2_code
def yX5_add : MethodName := ⟨RX5, "add", "(I)V"⟩
abbrev cX5_empty : ByteArray := prog_7_method_3_code
def yX5_empty : MethodName := ⟨RX5, "empty", "()V"⟩
abbrev cX5_holdsAt : ByteArray := prog_7_method_4_code
def yX5_holdsAt : MethodName := ⟨RX5, "holdsAt", "(IC)Z"⟩
abbrev cX5_digitAt : ByteArray := prog_7_method_5_code
def yX5_digitAt : MethodName := ⟨RX5, "digitAt", "(I)I"⟩
abbrev cX5_isLabelSequence : ByteArray := prog_7_method_6_code
def yX5_isLabelSequence : MethodName := ⟨RX5, "isLabelSequence", "()Z"⟩
def RX6 : String := "MarkovChainDistances$Partition"
def TX6 : u_T := fun k => match k with
  | 0 => ("MarkovChainDistances$Partition", "classCount", "I", false)
  | 1 => ("MarkovChainDistances$Partition", "classOf", "[I", true)
  | _ => ("MarkovChainDistances$Partition", "nextClassOf", "[I", true)
def tyX6 : Nat → FieldType := fun k => match k with
  | 0 => .int
  | 1 => .array .int
  | _ => .array .int
theorem nmX6 : ∀ a, a < 3 → ∀ b, b < 3 → a ≠ b → (TX6 a).2.1 ≠ (TX6 b).2.1 := by decide +kernel
theorem tyX6_ok : ∀ k, k < 3 → parseFieldDescriptor (TX6 k).2.2.1 = some (tyX6 k) := by decide +kernel
abbrev cX6_init : ByteArray := prog_8_method_1_code
def yX6_init : MethodName := ⟨RX6, "<init>", "()V"⟩
abbrev cX6_refineFully : ByteArray := prog_8_method_2_code
def yX6_refineFully : MethodName := ⟨RX6, "refineFully", "(LMarkovChainDistances$Chain;)V"⟩
abbrev cX6_refineOnce : ByteArray := prog_8_method_3_code
def yX6_refineOnce : MethodName := ⟨RX6, "refineOnce", "(LMarkovChainDistances$Chain;)V"⟩
abbrev cX6_agree : ByteArray := prog_8_method_4_code
def yX6_agree : MethodName := ⟨RX6, "agree", "(LMarkovChainDistances$Chain;II)Z"⟩
abbrev cX6_weightToClass : ByteArray := prog_8_method_5_code
def yX6_weightToClass : MethodName := ⟨RX6, "weightToClass", "(LMarkovChainDistances$Chain;II)I"⟩
abbrev cX6_writeQuotient : ByteArray := prog_8_method_6_code
def yX6_writeQuotient : MethodName := ⟨RX6, "writeQuotient", "(LMarkovChainDistances$Chain;LMarkovChainDistances$Chain;)V"⟩
def RX7 : String := "MarkovChainDistances$PathCounter"
def TX7 : u_T := fun k => match k with
  | 0 => ("MarkovChainDistances$PathCounter", "sums", "[J", true)
  | _ => ("MarkovChainDistances$PathCounter", "nextSums", "[J", true)
def tyX7 : Nat → FieldType := fun k => match k with
  | 0 => .array .long
  | _ => .array .long
theorem nmX7 : ∀ a, a < 2 → ∀ b, b < 2 → a ≠ b → (TX7 a).2.1 ≠ (TX7 b).2.1 := by decide +kernel
theorem tyX7_ok : ∀ k, k < 2 → parseFieldDescriptor (TX7 k).2.2.1 = some (tyX7 k) := by decide +kernel
abbrev cX7_init : ByteArray := prog_9_method_1_code
def yX7_init : MethodName := ⟨RX7, "<init>", "()V"⟩
abbrev cX7_countReaching : ByteArray := prog_9_method_2_code
def yX7_countReaching : MethodName := ⟨RX7, "countReaching", "(LMarkovChainDistances$Chain;III)J"⟩
abbrev cX7_countFirstReaching : ByteArray := prog_9_method_3_code
def yX7_countFirstReaching : MethodName := ⟨RX7, "countFirstReaching", "(LMarkovChainDistances$Chain;III)J"⟩
abbrev cX7_countSequence : ByteArray := prog_9_method_4_code
def yX7_countSequence : MethodName := ⟨RX7, "countSequence", "(LMarkovChainDistances$Chain;ILMarkovChainDistances$InputBuffer;)J"⟩
abbrev cX7_markTargets : ByteArray := prog_9_method_5_code
def yX7_markTargets : MethodName := ⟨RX7, "markTargets", "(LMarkovChainDistances$Chain;I)V"⟩
abbrev cX7_isTarget : ByteArray := prog_9_method_6_code
def yX7_isTarget : MethodName := ⟨RX7, "isTarget", "(LMarkovChainDistances$Chain;II)Z"⟩
abbrev cX7_stepBack : ByteArray := prog_9_method_7_code
def yX7_stepBack : MethodName := ⟨RX7, "stepBack", "(LMarkovChainDistances$Chain;)V"⟩
def RX8 : String := "MarkovChainDistances$Transport"
def TX8 : u_T := fun k => match k with
  | 0 => ("MarkovChainDistances$Transport", "flow", "[I", true)
  | 1 => ("MarkovChainDistances$Transport", "size", "I", false)
  | 2 => ("MarkovChainDistances$Transport", "costs", "[J", true)
  | 3 => ("MarkovChainDistances$Transport", "supply", "[I", true)
  | 4 => ("MarkovChainDistances$Transport", "demand", "[I", true)
  | 5 => ("MarkovChainDistances$Transport", "rowDistance", "[J", true)
  | 6 => ("MarkovChainDistances$Transport", "columnDistance", "[J", true)
  | 7 => ("MarkovChainDistances$Transport", "columnBefore", "[I", true)
  | _ => ("MarkovChainDistances$Transport", "rowBefore", "[I", true)
def tyX8 : Nat → FieldType := fun k => match k with
  | 0 => .array .int
  | 1 => .int
  | 2 => .array .long
  | 3 => .array .int
  | 4 => .array .int
  | 5 => .array .long
  | 6 => .array .long
  | 7 => .array .int
  | _ => .array .int
theorem nmX8 : ∀ a, a < 9 → ∀ b, b < 9 → a ≠ b → (TX8 a).2.1 ≠ (TX8 b).2.1 := by decide +kernel
theorem tyX8_ok : ∀ k, k < 9 → parseFieldDescriptor (TX8 k).2.2.1 = some (tyX8 k) := by decide +kernel
abbrev cX8_init : ByteArray := prog_10_method_1_code
def yX8_init : MethodName := ⟨RX8, "<init>", "()V"⟩
abbrev cX8_useCosts : ByteArray := prog_10_method_2_code
def yX8_useCosts : MethodName := ⟨RX8, "useCosts", "([J)V"⟩
abbrev cX8_solve : ByteArray := prog_10_method_3_code
def yX8_solve : MethodName := ⟨RX8, "solve", "(LMarkovChainDistances$Chain;II)J"⟩
abbrev cX8_startOnDiagonal : ByteArray := prog_10_method_4_code
def yX8_startOnDiagonal : MethodName := ⟨RX8, "startOnDiagonal", "(LMarkovChainDistances$Chain;II)V"⟩
abbrev cX8_sendFrom : ByteArray := prog_10_method_5_code
def yX8_sendFrom : MethodName := ⟨RX8, "sendFrom", "(I)V"⟩
abbrev cX8_openColumn : ByteArray := prog_10_method_6_code
def yX8_openColumn : MethodName := ⟨RX8, "openColumn", "()I"⟩
abbrev cX8_makeCanonical : ByteArray := prog_10_method_7_code
def yX8_makeCanonical : MethodName := ⟨RX8, "makeCanonical", "()V"⟩
abbrev cX8_reduceEntry : ByteArray := prog_10_method_8_code
def yX8_reduceEntry : MethodName := ⟨RX8, "reduceEntry", "(II)V"⟩
abbrev cX8_findPaths : ByteArray := prog_10_method_9_code
def yX8_findPaths : MethodName := ⟨RX8, "findPaths", "(II)V"⟩
abbrev cX8_approachColumns : ByteArray := prog_10_method_10_code
def yX8_approachColumns : MethodName := ⟨RX8, "approachColumns", "(I)Z"⟩
abbrev cX8_approachRows : ByteArray := prog_10_method_11_code
def yX8_approachRows : MethodName := ⟨RX8, "approachRows", "(I)Z"⟩
abbrev cX8_slackOfPath : ByteArray := prog_10_method_12_code
def yX8_slackOfPath : MethodName := ⟨RX8, "slackOfPath", "(II)I"⟩
abbrev cX8_shiftAlongPath : ByteArray := prog_10_method_13_code
def yX8_shiftAlongPath : MethodName := ⟨RX8, "shiftAlongPath", "(II)V"⟩
def RX9 : String := "MarkovChainDistances"
def TX9 : u_T := fun k => match k with
  | 0 => ("MarkovChainDistances", "chain", "LMarkovChainDistances$Chain;", true)
  | 1 => ("MarkovChainDistances", "draft", "LMarkovChainDistances$Chain;", true)
  | 2 => ("MarkovChainDistances", "saved", "LMarkovChainDistances$Chain;", true)
  | 3 => ("MarkovChainDistances", "hasSaved", "Z", false)
  | 4 => ("MarkovChainDistances", "edits", "LMarkovChainDistances$EditHistory;", true)
  | 5 => ("MarkovChainDistances", "distances", "LMarkovChainDistances$Distances;", true)
  | 6 => ("MarkovChainDistances", "partition", "LMarkovChainDistances$Partition;", true)
  | 7 => ("MarkovChainDistances", "paths", "LMarkovChainDistances$PathCounter;", true)
  | 8 => ("MarkovChainDistances", "reader", "LMarkovChainDistances$ChainReader;", true)
  | 9 => ("MarkovChainDistances", "input", "LMarkovChainDistances$InputBuffer;", true)
  | _ => ("MarkovChainDistances", "arrays", "LMarkovChainDistances$ArraySlots;", true)
def tyX9 : Nat → FieldType := fun k => match k with
  | 0 => .object "MarkovChainDistances$Chain"
  | 1 => .object "MarkovChainDistances$Chain"
  | 2 => .object "MarkovChainDistances$Chain"
  | 3 => .boolean
  | 4 => .object "MarkovChainDistances$EditHistory"
  | 5 => .object "MarkovChainDistances$Distances"
  | 6 => .object "MarkovChainDistances$Partition"
  | 7 => .object "MarkovChainDistances$PathCounter"
  | 8 => .object "MarkovChainDistances$ChainReader"
  | 9 => .object "MarkovChainDistances$InputBuffer"
  | _ => .object "MarkovChainDistances$ArraySlots"
theorem nmX9 : ∀ a, a < 11 → ∀ b, b < 11 → a ≠ b → (TX9 a).2.1 ≠ (TX9 b).2.1 := by decide +kernel
theorem tyX9_ok : ∀ k, k < 11 → parseFieldDescriptor (TX9 k).2.2.1 = some (tyX9 k) := by decide +kernel
abbrev cX9_init : ByteArray := prog_1_method_1_code
def yX9_init : MethodName := ⟨RX9, "<init>", "()V"⟩
abbrev cX9_reset : ByteArray := prog_1_method_2_code
def yX9_reset : MethodName := ⟨RX9, "reset", "(II)I"⟩
abbrev cX9_states : ByteArray := prog_1_method_3_code
def yX9_states : MethodName := ⟨RX9, "states", "()I"⟩
abbrev cX9_resolution : ByteArray := prog_1_method_4_code
def yX9_resolution : MethodName := ⟨RX9, "resolution", "()I"⟩
abbrev cX9_setLabel : ByteArray := prog_1_method_5_code
def yX9_setLabel : MethodName := ⟨RX9, "setLabel", "(II)I"⟩
abbrev cX9_label : ByteArray := prog_1_method_6_code
def yX9_label : MethodName := ⟨RX9, "label", "(I)I"⟩
abbrev cX9_moveWeight : ByteArray := prog_1_method_7_code
def yX9_moveWeight : MethodName := ⟨RX9, "moveWeight", "(IIII)I"⟩
abbrev cX9_weight : ByteArray := prog_1_method_8_code
def yX9_weight : MethodName := ⟨RX9, "weight", "(II)I"⟩
abbrev cX9_setDiscount : ByteArray := prog_1_method_9_code
def yX9_setDiscount : MethodName := ⟨RX9, "setDiscount", "(II)I"⟩
abbrev cX9_swapStates : ByteArray := prog_1_method_10_code
def yX9_swapStates : MethodName := ⟨RX9, "swapStates", "(II)I"⟩
abbrev cX9_undo : ByteArray := prog_1_method_11_code
def yX9_undo : MethodName := ⟨RX9, "undo", "()I"⟩
abbrev cX9_editCount : ByteArray := prog_1_method_12_code
def yX9_editCount : MethodName := ⟨RX9, "editCount", "()I"⟩
abbrev cX9_maximumDepth : ByteArray := prog_1_method_13_code
def yX9_maximumDepth : MethodName := ⟨RX9, "maximumDepth", "()I"⟩
abbrev cX9_distanceNumerator : ByteArray := prog_1_method_14_code
def yX9_distanceNumerator : MethodName := ⟨RX9, "distanceNumerator", "(III)J"⟩
abbrev cX9_distanceDenominator : ByteArray := prog_1_method_15_code
def yX9_distanceDenominator : MethodName := ⟨RX9, "distanceDenominator", "(III)J"⟩
abbrev cX9_compareDistances : ByteArray := prog_1_method_16_code
def yX9_compareDistances : MethodName := ⟨RX9, "compareDistances", "(III)I"⟩
abbrev cX9_farthestPair : ByteArray := prog_1_method_17_code
def yX9_farthestPair : MethodName := ⟨RX9, "farthestPair", "(I)I"⟩
abbrev cX9_coupling : ByteArray := prog_1_method_18_code
def yX9_coupling : MethodName := ⟨RX9, "coupling", "(IIII)I"⟩
abbrev cX9_distributionDistance : ByteArray := prog_1_method_19_code
def yX9_distributionDistance : MethodName := ⟨RX9, "distributionDistance", "(III)I"⟩
abbrev cX9_totalVariation : ByteArray := prog_1_method_20_code
def yX9_totalVariation : MethodName := ⟨RX9, "totalVariation", "(II)I"⟩
abbrev cX9_largestDifference : ByteArray := prog_1_method_21_code
def yX9_largestDifference : MethodName := ⟨RX9, "largestDifference", "(II)I"⟩
abbrev cX9_cumulativeDistance : ByteArray := prog_1_method_22_code
def yX9_cumulativeDistance : MethodName := ⟨RX9, "cumulativeDistance", "(II)I"⟩
abbrev cX9_overlap : ByteArray := prog_1_method_23_code
def yX9_overlap : MethodName := ⟨RX9, "overlap", "(II)I"⟩
abbrev cX9_weightDifference : ByteArray := prog_1_method_24_code
def yX9_weightDifference : MethodName := ⟨RX9, "weightDifference", "(III)I"⟩
abbrev cX9_greatestDepth : ByteArray := prog_1_method_25_code
def yX9_greatestDepth : MethodName := ⟨RX9, "greatestDepth", "()I"⟩
abbrev cX9_hasDistance : ByteArray := prog_1_method_26_code
def yX9_hasDistance : MethodName := ⟨RX9, "hasDistance", "(III)Z"⟩
abbrev cX9_isPair : ByteArray := prog_1_method_27_code
def yX9_isPair : MethodName := ⟨RX9, "isPair", "(I)Z"⟩
abbrev cX9_cellOfPair : ByteArray := prog_1_method_28_code
def yX9_cellOfPair : MethodName := ⟨RX9, "cellOfPair", "(I)I"⟩
abbrev cX9_isWithin : ByteArray := prog_1_method_29_code
def yX9_isWithin : MethodName := ⟨RX9, "isWithin", "(III)Z"⟩
abbrev cX9_bisimulationClass : ByteArray := prog_1_method_30_code
def yX9_bisimulationClass : MethodName := ⟨RX9, "bisimulationClass", "(I)I"⟩
abbrev cX9_bisimulationClassCount : ByteArray := prog_1_method_31_code
def yX9_bisimulationClassCount : MethodName := ⟨RX9, "bisimulationClassCount", "()I"⟩
abbrev cX9_minimize : ByteArray := prog_1_method_32_code
def yX9_minimize : MethodName := ⟨RX9, "minimize", "()I"⟩
abbrev cX9_reachWeight : ByteArray := prog_1_method_33_code
def yX9_reachWeight : MethodName := ⟨RX9, "reachWeight", "(III)J"⟩
abbrev cX9_firstReachWeight : ByteArray := prog_1_method_34_code
def yX9_firstReachWeight : MethodName := ⟨RX9, "firstReachWeight", "(III)J"⟩
abbrev cX9_sequenceWeight : ByteArray := prog_1_method_35_code
def yX9_sequenceWeight : MethodName := ⟨RX9, "sequenceWeight", "(I)J"⟩
abbrev cX9_sample : ByteArray := prog_1_method_36_code
def yX9_sample : MethodName := ⟨RX9, "sample", "(III)I"⟩
abbrev cX9_sampledVisits : ByteArray := prog_1_method_37_code
def yX9_sampledVisits : MethodName := ⟨RX9, "sampledVisits", "(IIII)I"⟩
abbrev cX9_nextSeed : ByteArray := prog_1_method_38_code
def yX9_nextSeed : MethodName := ⟨RX9, "nextSeed", "(I)I"⟩
abbrev cX9_append : ByteArray := prog_1_method_39_code
def yX9_append : MethodName := ⟨RX9, "append", "(II)I"⟩
abbrev cX9_byteAt : ByteArray := prog_1_method_40_code
def yX9_byteAt : MethodName := ⟨RX9, "byteAt", "(II)I"⟩
abbrev cX9_clearInput : ByteArray := prog_1_method_41_code
def yX9_clearInput : MethodName := ⟨RX9, "clearInput", "()I"⟩
abbrev cX9_parse : ByteArray := prog_1_method_42_code
def yX9_parse : MethodName := ⟨RX9, "parse", "()I"⟩
abbrev cX9_allocate : ByteArray := prog_1_method_43_code
def yX9_allocate : MethodName := ⟨RX9, "allocate", "(III)I"⟩
abbrev cX9_release : ByteArray := prog_1_method_44_code
def yX9_release : MethodName := ⟨RX9, "release", "(I)I"⟩
abbrev cX9_putElement : ByteArray := prog_1_method_45_code
def yX9_putElement : MethodName := ⟨RX9, "putElement", "(IIJ)I"⟩
abbrev cX9_element : ByteArray := prog_1_method_46_code
def yX9_element : MethodName := ⟨RX9, "element", "(II)J"⟩
abbrev cX9_copyElements : ByteArray := prog_1_method_47_code
def yX9_copyElements : MethodName := ⟨RX9, "copyElements", "(IIIII)I"⟩
abbrev cX9_compareWithArray : ByteArray := prog_1_method_48_code
def yX9_compareWithArray : MethodName := ⟨RX9, "compareWithArray", "(I)I"⟩
abbrev cX9_isSlot : ByteArray := prog_1_method_49_code
def yX9_isSlot : MethodName := ⟨RX9, "isSlot", "(I)Z"⟩
abbrev cX9_snapshot : ByteArray := prog_1_method_50_code
def yX9_snapshot : MethodName := ⟨RX9, "snapshot", "()I"⟩
abbrev cX9_restore : ByteArray := prog_1_method_51_code
def yX9_restore : MethodName := ⟨RX9, "restore", "()I"⟩
def RX10 : String := "MarkovChainDistancesModel"
def TX10 : u_T := fun k => match k with
  | 0 => ("MarkovChainDistancesModel", "now", "[I", true)
  | 1 => ("MarkovChainDistancesModel", "edits", "[I", true)
  | 2 => ("MarkovChainDistancesModel", "editCount", "I", false)
  | 3 => ("MarkovChainDistancesModel", "saved", "[I", true)
  | 4 => ("MarkovChainDistancesModel", "hasSnapshot", "Z", false)
  | 5 => ("MarkovChainDistancesModel", "before", "[I", true)
  | 6 => ("MarkovChainDistancesModel", "distance", "[J", true)
  | 7 => ("MarkovChainDistancesModel", "next", "[J", true)
  | 8 => ("MarkovChainDistancesModel", "flow", "[I", true)
  | 9 => ("MarkovChainDistancesModel", "fixed", "[Z", true)
  | 10 => ("MarkovChainDistancesModel", "reach", "[J", true)
  | 11 => ("MarkovChainDistancesModel", "cameFrom", "[I", true)
  | 12 => ("MarkovChainDistancesModel", "classOf", "[I", true)
  | 13 => ("MarkovChainDistancesModel", "refined", "[I", true)
  | 14 => ("MarkovChainDistancesModel", "classCount", "I", false)
  | 15 => ("MarkovChainDistancesModel", "paths", "[J", true)
  | 16 => ("MarkovChainDistancesModel", "longer", "[J", true)
  | 17 => ("MarkovChainDistancesModel", "buffer", "[I", true)
  | 18 => ("MarkovChainDistancesModel", "length", "I", false)
  | 19 => ("MarkovChainDistancesModel", "visits", "I", false)
  | 20 => ("MarkovChainDistancesModel", "position", "I", false)
  | 21 => ("MarkovChainDistancesModel", "isMalformed", "Z", false)
  | 22 => ("MarkovChainDistancesModel", "parsedResolution", "I", false)
  | 23 => ("MarkovChainDistancesModel", "parsedStates", "I", false)
  | 24 => ("MarkovChainDistancesModel", "parsedLabel", "[I", true)
  | 25 => ("MarkovChainDistancesModel", "parsedWeight", "[I", true)
  | 26 => ("MarkovChainDistancesModel", "wrongSuccessor", "[Z", true)
  | 27 => ("MarkovChainDistancesModel", "kinds", "[I", true)
  | 28 => ("MarkovChainDistancesModel", "sizes", "[I", true)
  | _ => ("MarkovChainDistancesModel", "elements", "[J", true)
def tyX10 : Nat → FieldType := fun k => match k with
  | 0 => .array .int
  | 1 => .array .int
  | 2 => .int
  | 3 => .array .int
  | 4 => .boolean
  | 5 => .array .int
  | 6 => .array .long
  | 7 => .array .long
  | 8 => .array .int
  | 9 => .array .boolean
  | 10 => .array .long
  | 11 => .array .int
  | 12 => .array .int
  | 13 => .array .int
  | 14 => .int
  | 15 => .array .long
  | 16 => .array .long
  | 17 => .array .int
  | 18 => .int
  | 19 => .int
  | 20 => .int
  | 21 => .boolean
  | 22 => .int
  | 23 => .int
  | 24 => .array .int
  | 25 => .array .int
  | 26 => .array .boolean
  | 27 => .array .int
  | 28 => .array .int
  | _ => .array .long
theorem nmX10 : ∀ a, a < 30 → ∀ b, b < 30 → a ≠ b → (TX10 a).2.1 ≠ (TX10 b).2.1 := by decide +kernel
theorem tyX10_ok : ∀ k, k < 30 → parseFieldDescriptor (TX10 k).2.2.1 = some (tyX10 k) := by decide +kernel
abbrev cX10_init : ByteArray := prog_12_method_1_code
def yX10_init : MethodName := ⟨RX10, "<init>", "()V"⟩
abbrev cX10_in : ByteArray := prog_12_method_2_code
def yX10_in : MethodName := ⟨RX10, "in", "(JJJ)Z"⟩
abbrev cX10_isState : ByteArray := prog_12_method_3_code
def yX10_isState : MethodName := ⟨RX10, "isState", "(I)Z"⟩
abbrev cX10_w : ByteArray := prog_12_method_4_code
def yX10_w : MethodName := ⟨RX10, "w", "(II)I"⟩
abbrev cX10_setWeight : ByteArray := prog_12_method_5_code
def yX10_setWeight : MethodName := ⟨RX10, "setWeight", "(III)V"⟩
abbrev cX10_initialize : ByteArray := prog_12_method_6_code
def yX10_initialize : MethodName := ⟨RX10, "\x69nitialize", "(II)V"⟩
abbrev cX10_reset : ByteArray := prog_12_method_7_code
def yX10_reset : MethodName := ⟨RX10, "reset", "(II)I"⟩
abbrev cX10_states : ByteArray := prog_12_method_8_code
def yX10_states : MethodName := ⟨RX10, "states", "()I"⟩
abbrev cX10_resolution : ByteArray := prog_12_method_9_code
def yX10_resolution : MethodName := ⟨RX10, "resolution", "()I"⟩
abbrev cX10_begin : ByteArray := prog_12_method_10_code
def yX10_begin : MethodName := ⟨RX10, "begin", "()V"⟩
abbrev cX10_record : ByteArray := prog_12_method_11_code
def yX10_record : MethodName := ⟨RX10, "record", "()Z"⟩
abbrev cX10_setLabel : ByteArray := prog_12_method_12_code
def yX10_setLabel : MethodName := ⟨RX10, "setLabel", "(II)I"⟩
abbrev cX10_label : ByteArray := prog_12_method_13_code
def yX10_label : MethodName := ⟨RX10, "label", "(I)I"⟩
abbrev cX10_moveWeight : ByteArray := prog_12_method_14_code
def yX10_moveWeight : MethodName := ⟨RX10, "moveWeight", "(IIII)I"⟩
abbrev cX10_weight : ByteArray := prog_12_method_15_code
def yX10_weight : MethodName := ⟨RX10, "weight", "(II)I"⟩
abbrev cX10_setDiscount : ByteArray := prog_12_method_16_code
def yX10_setDiscount : MethodName := ⟨RX10, "setDiscount", "(II)I"⟩
abbrev cX10_swapStates : ByteArray := prog_12_method_17_code
def yX10_swapStates : MethodName := ⟨RX10, "swapStates", "(II)I"⟩
abbrev cX10_undo : ByteArray := prog_12_method_18_code
def yX10_undo : MethodName := ⟨RX10, "undo", "()I"⟩
abbrev cX10_editCount : ByteArray := prog_12_method_19_code
def yX10_editCount : MethodName := ⟨RX10, "editCount", "()I"⟩
abbrev cX10_unit : ByteArray := prog_12_method_20_code
def yX10_unit : MethodName := ⟨RX10, "unit", "()I"⟩
abbrev cX10_scale : ByteArray := prog_12_method_21_code
def yX10_scale : MethodName := ⟨RX10, "scale", "(I)J"⟩
abbrev cX10_maximumDepth : ByteArray := prog_12_method_22_code
def yX10_maximumDepth : MethodName := ⟨RX10, "maximumDepth", "()I"⟩
abbrev cX10_d : ByteArray := prog_12_method_23_code
def yX10_d : MethodName := ⟨RX10, "d", "(II)J"⟩
abbrev cX10_computeDistances : ByteArray := prog_12_method_24_code
def yX10_computeDistances : MethodName := ⟨RX10, "computeDistances", "(I)V"⟩
abbrev cX10_f : ByteArray := prog_12_method_25_code
def yX10_f : MethodName := ⟨RX10, "f", "(II)I"⟩
abbrev cX10_fill : ByteArray := prog_12_method_26_code
def yX10_fill : MethodName := ⟨RX10, "fill", "(II)V"⟩
abbrev cX10_relax : ByteArray := prog_12_method_27_code
def yX10_relax : MethodName := ⟨RX10, "relax", "()I"⟩
abbrev cX10_shift : ByteArray := prog_12_method_28_code
def yX10_shift : MethodName := ⟨RX10, "shift", "(II)V"⟩
abbrev cX10_cancel : ByteArray := prog_12_method_29_code
def yX10_cancel : MethodName := ⟨RX10, "cancel", "()Z"⟩
abbrev cX10_optimize : ByteArray := prog_12_method_30_code
def yX10_optimize : MethodName := ⟨RX10, "optimize", "(II)V"⟩
abbrev cX10_minimumCost : ByteArray := prog_12_method_31_code
def yX10_minimumCost : MethodName := ⟨RX10, "minimumCost", "(II)J"⟩
abbrev cX10_lower : ByteArray := prog_12_method_32_code
def yX10_lower : MethodName := ⟨RX10, "lower", "(II)Z"⟩
abbrev cX10_canonicalCoupling : ByteArray := prog_12_method_33_code
def yX10_canonicalCoupling : MethodName := ⟨RX10, "canonicalCoupling", "(II)V"⟩
abbrev cX10_isDepth : ByteArray := prog_12_method_34_code
def yX10_isDepth : MethodName := ⟨RX10, "isDepth", "(I)Z"⟩
abbrev cX10_divisor : ByteArray := prog_12_method_35_code
def yX10_divisor : MethodName := ⟨RX10, "divisor", "(JJ)J"⟩
abbrev cX10_fraction : ByteArray := prog_12_method_36_code
def yX10_fraction : MethodName := ⟨RX10, "fraction", "(IIIZ)J"⟩
abbrev cX10_distanceNumerator : ByteArray := prog_12_method_37_code
def yX10_distanceNumerator : MethodName := ⟨RX10, "distanceNumerator", "(III)J"⟩
abbrev cX10_distanceDenominator : ByteArray := prog_12_method_38_code
def yX10_distanceDenominator : MethodName := ⟨RX10, "distanceDenominator", "(III)J"⟩
abbrev cX10_isPair : ByteArray := prog_12_method_39_code
def yX10_isPair : MethodName := ⟨RX10, "isPair", "(I)Z"⟩
abbrev cX10_compareDistances : ByteArray := prog_12_method_40_code
def yX10_compareDistances : MethodName := ⟨RX10, "compareDistances", "(III)I"⟩
abbrev cX10_farthestPair : ByteArray := prog_12_method_41_code
def yX10_farthestPair : MethodName := ⟨RX10, "farthestPair", "(I)I"⟩
abbrev cX10_coupling : ByteArray := prog_12_method_42_code
def yX10_coupling : MethodName := ⟨RX10, "coupling", "(IIII)I"⟩
abbrev cX10_distributionDistance : ByteArray := prog_12_method_43_code
def yX10_distributionDistance : MethodName := ⟨RX10, "distributionDistance", "(III)I"⟩
abbrev cX10_weightToClass : ByteArray := prog_12_method_44_code
def yX10_weightToClass : MethodName := ⟨RX10, "weightToClass", "(II)I"⟩
abbrev cX10_areAlike : ByteArray := prog_12_method_45_code
def yX10_areAlike : MethodName := ⟨RX10, "areAlike", "(II)Z"⟩
abbrev cX10_number : ByteArray := prog_12_method_46_code
def yX10_number : MethodName := ⟨RX10, "number", "(Z)I"⟩
abbrev cX10_computeClasses : ByteArray := prog_12_method_47_code
def yX10_computeClasses : MethodName := ⟨RX10, "computeClasses", "()V"⟩
abbrev cX10_bisimulationClass : ByteArray := prog_12_method_48_code
def yX10_bisimulationClass : MethodName := ⟨RX10, "bisimulationClass", "(I)I"⟩
abbrev cX10_bisimulationClassCount : ByteArray := prog_12_method_49_code
def yX10_bisimulationClassCount : MethodName := ⟨RX10, "bisimulationClassCount", "()I"⟩
abbrev cX10_minimize : ByteArray := prog_12_method_50_code
def yX10_minimize : MethodName := ⟨RX10, "minimize", "()I"⟩
abbrev cX10_isIn : ByteArray := prog_12_method_51_code
def yX10_isIn : MethodName := ⟨RX10, "isIn", "(II)Z"⟩
abbrev cX10_step : ByteArray := prog_12_method_52_code
def yX10_step : MethodName := ⟨RX10, "step", "()V"⟩
abbrev cX10_isQuery : ByteArray := prog_12_method_53_code
def yX10_isQuery : MethodName := ⟨RX10, "isQuery", "(III)Z"⟩
abbrev cX10_reachWeight : ByteArray := prog_12_method_54_code
def yX10_reachWeight : MethodName := ⟨RX10, "reachWeight", "(III)J"⟩
abbrev cX10_firstReachWeight : ByteArray := prog_12_method_55_code
def yX10_firstReachWeight : MethodName := ⟨RX10, "firstReachWeight", "(III)J"⟩
abbrev cX10_sequenceWeight : ByteArray := prog_12_method_56_code
def yX10_sequenceWeight : MethodName := ⟨RX10, "sequenceWeight", "(I)J"⟩
abbrev cX10_walk : ByteArray := prog_12_method_57_code
def yX10_walk : MethodName := ⟨RX10, "walk", "(IIII)I"⟩
abbrev cX10_sample : ByteArray := prog_12_method_58_code
def yX10_sample : MethodName := ⟨RX10, "sample", "(III)I"⟩
abbrev cX10_sampledVisits : ByteArray := prog_12_method_59_code
def yX10_sampledVisits : MethodName := ⟨RX10, "sampledVisits", "(IIII)I"⟩
abbrev cX10_append : ByteArray := prog_12_method_60_code
def yX10_append : MethodName := ⟨RX10, "append", "(II)I"⟩
abbrev cX10_clearInput : ByteArray := prog_12_method_61_code
def yX10_clearInput : MethodName := ⟨RX10, "clearInput", "()I"⟩
abbrev cX10_isNext : ByteArray := prog_12_method_62_code
def yX10_isNext : MethodName := ⟨RX10, "isNext", "(II)Z"⟩
abbrev cX10_accept : ByteArray := prog_12_method_63_code
def yX10_accept : MethodName := ⟨RX10, "accept", "(I)Z"⟩
abbrev cX10_expect : ByteArray := prog_12_method_64_code
def yX10_expect : MethodName := ⟨RX10, "expect", "(I)V"⟩
abbrev cX10_number_ : ByteArray := prog_12_method_65_code
def yX10_number_ : MethodName := ⟨RX10, "number", "(I)I"⟩
abbrev cX10_parseState : ByteArray := prog_12_method_66_code
def yX10_parseState : MethodName := ⟨RX10, "parseState", "()V"⟩
abbrev cX10_parseChain : ByteArray := prog_12_method_67_code
def yX10_parseChain : MethodName := ⟨RX10, "parseChain", "()V"⟩
abbrev cX10_isConsistent : ByteArray := prog_12_method_68_code
def yX10_isConsistent : MethodName := ⟨RX10, "isConsistent", "()Z"⟩
abbrev cX10_hasWrongSuccessor : ByteArray := prog_12_method_69_code
def yX10_hasWrongSuccessor : MethodName := ⟨RX10, "hasWrongSuccessor", "(I)Z"⟩
abbrev cX10_findWrongSuccessors : ByteArray := prog_12_method_70_code
def yX10_findWrongSuccessors : MethodName := ⟨RX10, "findWrongSuccessors", "()V"⟩
abbrev cX10_parse : ByteArray := prog_12_method_71_code
def yX10_parse : MethodName := ⟨RX10, "parse", "()I"⟩
abbrev cX10_isSlot : ByteArray := prog_12_method_72_code
def yX10_isSlot : MethodName := ⟨RX10, "isSlot", "(I)Z"⟩
abbrev cX10_allocate : ByteArray := prog_12_method_73_code
def yX10_allocate : MethodName := ⟨RX10, "allocate", "(III)I"⟩
abbrev cX10_release : ByteArray := prog_12_method_74_code
def yX10_release : MethodName := ⟨RX10, "release", "(I)I"⟩
abbrev cX10_narrow : ByteArray := prog_12_method_75_code
def yX10_narrow : MethodName := ⟨RX10, "narrow", "(IJ)J"⟩
abbrev cX10_putElement : ByteArray := prog_12_method_76_code
def yX10_putElement : MethodName := ⟨RX10, "putElement", "(IIJ)I"⟩
abbrev cX10_element : ByteArray := prog_12_method_77_code
def yX10_element : MethodName := ⟨RX10, "element", "(II)J"⟩
abbrev cX10_copyElements : ByteArray := prog_12_method_78_code
def yX10_copyElements : MethodName := ⟨RX10, "copyElements", "(IIIII)I"⟩
abbrev cX10_compareWithArray : ByteArray := prog_12_method_79_code
def yX10_compareWithArray : MethodName := ⟨RX10, "compareWithArray", "(I)I"⟩
abbrev cX10_snapshot : ByteArray := prog_12_method_80_code
def yX10_snapshot : MethodName := ⟨RX10, "snapshot", "()I"⟩
abbrev cX10_restore : ByteArray := prog_12_method_81_code
def yX10_restore : MethodName := ⟨RX10, "restore", "()I"⟩
def RJ9 : String := "java/lang/Math"
def TJ9 : u_T := fun k => match k with
  | _ => ("", "", "", false)
def tyJ9 : Nat → FieldType := fun k => match k with
  | _ => .int
abbrev wsJ90 : List Cond := u_ws RJ9 TJ9 0
theorem nmJ9 : ∀ a, a < 0 → ∀ b, b < 0 → a ≠ b → (TJ9 a).2.1 ≠ (TJ9 b).2.1 := by decide +kernel
theorem tyJ9_ok : ∀ k, k < 0 → parseFieldDescriptor (TJ9 k).2.2.1 = some (tyJ9 k) := by decide +kernel
abbrev cJ9_abs_0f7a4 : ByteArray := prog_13_method_59_code
def yJ9_abs_0f7a4 : MethodName := ⟨RJ9, "abs", "(I)I"⟩
abbrev cJ9_max_7cf53 : ByteArray := prog_13_method_65_code
def yJ9_max_7cf53 : MethodName := ⟨RJ9, "max", "(II)I"⟩
abbrev cJ9_min_7cf53 : ByteArray := prog_13_method_69_code
def yJ9_min_7cf53 : MethodName := ⟨RJ9, "min", "(II)I"⟩
def RJ10 : String := "java/lang/System"
def TJ10 : u_T := fun k => match k with
  | _ => ("", "", "", false)
def tyJ10 : Nat → FieldType := fun k => match k with
  | _ => .int
abbrev wsJ100 : List Cond := u_ws RJ10 TJ10 0
theorem nmJ10 : ∀ a, a < 0 → ∀ b, b < 0 → a ≠ b → (TJ10 a).2.1 ≠ (TJ10 b).2.1 := by decide +kernel
theorem tyJ10_ok : ∀ k, k < 0 → parseFieldDescriptor (TJ10 k).2.2.1 = some (tyJ10 k) := by decide +kernel
def RL : String := "MarkovChainDistancesLaw"
abbrev cL_law : ByteArray := code
def yL_law : MethodName := ⟨RL, "law", "([I)Z"⟩
def vwCl : List vw_C := [(RX0, TX0, 3), (RX1, TX1, 6), (RX2, TX2, 8), (RX3, TX3, 5), (RX4, TX4, 3), (RX5, TX5, 2), (RX6, TX6, 3), (RX7, TX7, 2), (RX8, TX8, 9), (RX9, TX9, 11), (RX10, TX10, 30)]
end
section
/-! THE ABSTRACT MACHINE: values with abstract addresses (0: the script; 1, 2, ..: the cells made since the law's start), a heap of typed rows, instructions as functions -/
abbrev aI : Type := Nat → Nat → Int32
abbrev aJ : Type := Nat → Nat → Int64
/-- how many cells; each cell's kind (0 object of a kind, 1 ints, 2 longs, 3 booleans, 4 chains, 5 rows of longs) and size; the references (0: null) -/
abbrev aE : Type := Nat × (Nat → Nat × Nat) × (Nat → Nat → Nat)
abbrev aLo : Type := List (Option Value)
abbrev aS : Type := aLo × List Value × aI × aJ
abbrev aOp : Type := aE → aS → Option (aS × List Prop)
/-- a method: its name, code, locals, answer; the script (the law's alone) -/
abbrev aM : Type := MethodName × ByteArray × Nat × Option FieldType × Option (Nat × (Nat → Int32))
def aUp (I : aI) (a k : Nat) (v : Int32) : aI := fun b j => if b = a ∧ j = k then v else I b j
def aUpJ (J : aJ) (a k : Nat) (v : Int64) : aJ := fun b j => if b = a ∧ j = k then v else J b j
def aRw (I : aI) (a : Nat) (f : Nat → Int32) : aI := fun b j => if b = a then f j else I b j
def aRwJ (J : aJ) (a : Nat) (f : Nat → Int64) : aJ := fun b j => if b = a then f j else J b j
def tv (ad : Nat → Nat) : Value → Value
  | .ref r => .ref (ad r)
  | v => v
theorem tv_cat (ad : Nat → Nat) (v : Value) : (tv ad v).category = v.category := by cases v <;> rfl
def aLs (ad : Nat → Nat) (lo : aLo) : List (Nat × Value) := (List.range lo.length).filterMap (fun i => match lo[i]? with
  | some (some v) => some (i, tv ad v)
  | _ => none)
theorem aLs_mem {ad : Nat → Nat} {lo : aLo} {q : Nat × Value} : q ∈ aLs ad lo ↔ ∃ v, lo[q.1]? = some (some v) ∧ q.2 = tv ad v := by
  unfold aLs
  rw [List.mem_filterMap]
  constructor
  · rintro ⟨i, -, h⟩
    split at h
    · rename_i v hv
      cases h
      exact ⟨v, hv, rfl⟩
    · cases h
  · rintro ⟨v, h1, h2⟩
    refine ⟨q.1, List.mem_range.mpr (List.getElem?_eq_some_iff.mp h1).1, ?_⟩
    rw [h1]
    show some (q.1, tv ad v) = some q
    rw [← h2]
def aL (ad : Nat → Nat) (ls : Array Slot) (nL : Nat) (lo : aLo) : Prop := lo.length = nL ∧ lv_has ls nL (aLs ad lo)
theorem aL_at {ad : Nat → Nat} {ls : Array Slot} {nL : Nat} {lo : aLo} (h : aL ad ls nL lo) {i : Nat} {v : Value} (hv : lo[i]? = some (some v)) : ls[i]? = some (.val (tv ad v)) := h.2.2.2 (i, tv ad v) (aLs_mem.mpr ⟨v, hv, rfl⟩)
def aOk1 (lo : aLo) : Nat → Bool
  | 0 => true
  | j + 1 => match lo[j]? with
    | some (some w) => !(w.category == 2)
    | _ => true
theorem aOk1_not {lo : aLo} {i j : Nat} {w : Value} (h : aOk1 lo i = true) (hj : j + 1 = i) (hw : lo[j]? = some (some w)) : ¬ w.category = 2 := by
  subst hj
  have h : (match lo[j]? with
    | some (some w) => !(w.category == 2)
    | _ => true) = true := h
  rw [hw] at h
  intro q
  simp [q] at h
theorem aL_st1 {ad : Nat → Nat} {ls ls' : Array Slot} {nL : Nat} {lo : aLo} {i : Nat} {v : Value} (h : aL ad ls nL lo) (hk : aOk1 lo i = true) (hn : lv_has ls' nL ((i, tv ad v) :: (aLs ad lo).filter (fun q => !(q.1 == i) && !(q.1 + 1 == i && q.2.category == 2)))) : aL ad ls' nL (lo.set i (some v)) := by
  refine ⟨by rw [List.length_set]; exact h.1, hn.1, hn.2.1, fun q hq => hn.2.2 q ?_⟩
  obtain ⟨w, h1, h2⟩ := aLs_mem.mp hq
  by_cases e : i = q.1
  · have hl : q.1 < (lo.set i (some v)).length := (List.getElem?_eq_some_iff.mp h1).1
    rw [List.length_set] at hl
    rw [e, List.getElem?_set_self hl] at h1
    cases h1
    have : q = (i, tv ad v) := by rw [e, ← h2]
    rw [this]
    exact List.mem_cons_self
  · rw [List.getElem?_set_ne e] at h1
    refine List.mem_cons_of_mem _ (List.mem_filter.mpr ⟨aLs_mem.mpr ⟨w, h1, h2⟩, ?_⟩)
    have e1 : (q.1 == i) = false := by simpa using fun z => e z.symm
    rw [e1, h2, tv_cat]
    by_cases e2 : q.1 + 1 = i
    · have := aOk1_not hk e2 h1
      simp [this]
    · simp [e2]
theorem aL_st2 {ad : Nat → Nat} {ls ls' : Array Slot} {nL : Nat} {lo : aLo} {i : Nat} {v : Value} (h : aL ad ls nL lo) (hk : aOk1 lo i = true) (hn : lv_has ls' nL ((i, tv ad v) :: (aLs ad lo).filter (fun q => !(q.1 == i) && (!(q.1 == i + 1) && !(q.1 + 1 == i && q.2.category == 2))))) : aL ad ls' nL ((lo.set i (some v)).set (i + 1) none) := by
  refine ⟨by rw [List.length_set, List.length_set]; exact h.1, hn.1, hn.2.1, fun q hq => hn.2.2 q ?_⟩
  obtain ⟨w, h1, h2⟩ := aLs_mem.mp hq
  have hl : q.1 < ((lo.set i (some v)).set (i + 1) none).length := (List.getElem?_eq_some_iff.mp h1).1
  rw [List.length_set, List.length_set] at hl
  by_cases e0 : i + 1 = q.1
  · rw [e0, List.getElem?_set_self (by rw [List.length_set]; exact hl)] at h1
    cases h1
  rw [List.getElem?_set_ne e0] at h1
  by_cases e : i = q.1
  · rw [e, List.getElem?_set_self hl] at h1
    cases h1
    have : q = (i, tv ad v) := by rw [e, ← h2]
    rw [this]
    exact List.mem_cons_self
  · rw [List.getElem?_set_ne e] at h1
    refine List.mem_cons_of_mem _ (List.mem_filter.mpr ⟨aLs_mem.mpr ⟨w, h1, h2⟩, ?_⟩)
    have e1 : (q.1 == i) = false := by simpa using fun z => e z.symm
    have e3 : (q.1 == i + 1) = false := by simpa using fun z => e0 z.symm
    rw [e1, e3, h2, tv_cat]
    by_cases e2 : q.1 + 1 = i
    · have := aOk1_not hk e2 h1
      simp [this]
    · simp [e2]
/-- which fields of a kind are numbers (true) or references (false) -/
def aKd : Nat → List Bool
  | 0 => [false, false, false]
  | 1 => [true, true, true, true, false, false]
  | 2 => [false, true, true, true, true, true, false, false]
  | 3 => [false, false, false, false, true]
  | 4 => [true, true, false]
  | 5 => [true, false]
  | 6 => [true, false, false]
  | 7 => [false, false]
  | 8 => [false, true, false, false, false, false, false, false, false]
  | 9 => [false, false, false, true, false, false, false, false, false, false, false]
  | 10 => [false, false, true, false, true, false, false, false, false, false, false, false, false, false, true, false, false, false, true, true, true, true, true, true, false, false, false, false, false, false]
  | _ => []
def aRef (ad : Nat → Nat) (r : Nat) : Option Nat := if r = 0 then none else some (ad r)
def aFs (ad : Nat → Nat) (E : aE) (I : aI) (a : Nat) (ks : List Bool) : List Value := (List.range ks.length).map (fun k => if ks.getD k true = true then .int (I a k) else va_rf (aRef ad (E.2.2 a k)))
def aEnt (cA : Nat → ClassId) (ad : Nat → Nat) (E : aE) (I : aI) (J : aJ) (a : Nat) : va_E := match (E.2.1 a).1 with
  | 0 => .inr ((E.2.1 a).2, aFs ad E I a (aKd (E.2.1 a).2))
  | 1 => .inl (cA 1, (E.2.1 a).2, .inl (I a))
  | 2 => .inl (cA 2, (E.2.1 a).2, .inr (.inl (J a)))
  | 3 => .inl (cA 3, (E.2.1 a).2, .inl (I a))
  | 4 => .inl (cA 4, (E.2.1 a).2, .inr (.inr (.inr (.inr (fun j => aRef ad (E.2.2 a j))))))
  | _ => .inl (cA 5, (E.2.1 a).2, .inr (.inr (.inr (.inr (fun j => aRef ad (E.2.2 a j))))))
def aWs (cA : Nat → ClassId) (ad : Nat → Nat) (E : aE) (I : aI) (J : aJ) : va_W := (List.range E.1).map (fun p => (ad (p + 1), aEnt cA ad E I J (p + 1)))
/-- the cell is there -/
abbrev aIs (E : aE) (a : Nat) : Prop := 1 ≤ a ∧ a ≤ E.1
theorem aWs_at {cA : Nat → ClassId} {ad : Nat → Nat} {E : aE} {I : aI} {J : aJ} {a : Nat} (h : aIs E a) : (aWs cA ad E I J)[a - 1]? = some (ad a, aEnt cA ad E I J a) := by
  unfold aWs
  rw [List.getElem?_map, List.getElem?_range (by omega)]
  show some (ad (a - 1 + 1), aEnt cA ad E I J (a - 1 + 1)) = _
  rw [show a - 1 + 1 = a by omega]
theorem aWs_set {cA : Nat → ClassId} {ad : Nat → Nat} {E E' : aE} {I I' : aI} {J J' : aJ} {a : Nat} {e' : va_E} (hE : E'.1 = E.1) (he : aEnt cA ad E' I' J' a = e') (ho : ∀ b, b ≠ a → aEnt cA ad E' I' J' b = aEnt cA ad E I J b) (h : aIs E a) : (aWs cA ad E I J).set (a - 1) (ad a, e') = aWs cA ad E' I' J' := by
  apply List.ext_getElem?
  intro k
  by_cases hk : a - 1 = k
  · subst hk
    rw [List.getElem?_set_self (by unfold aWs; simp; omega), aWs_at (E := E') ⟨h.1, by rw [hE]; exact h.2⟩, he]
  · rw [List.getElem?_set_ne hk]
    unfold aWs
    rw [List.getElem?_map, List.getElem?_map, hE]
    by_cases hl : k < E.1
    · rw [List.getElem?_range hl]
      show some (ad (k + 1), _) = some (ad (k + 1), _)
      rw [ho (k + 1) (by omega)]
    · rw [List.getElem?_eq_none (by rw [List.length_range]; omega)]
      rfl
theorem aWs_new {cA : Nat → ClassId} {ad ad' : Nat → Nat} {E E' : aE} {I I' : aI} {J J' : aJ} {q : Nat} {e' : va_E} (hE : E'.1 = E.1 + 1) (hq : ad' (E.1 + 1) = q) (he : aEnt cA ad' E' I' J' (E.1 + 1) = e') (ho : ∀ b, 1 ≤ b → b ≤ E.1 → ad' b = ad b ∧ aEnt cA ad' E' I' J' b = aEnt cA ad E I J b) : aWs cA ad E I J ++ [(q, e')] = aWs cA ad' E' I' J' := by
  unfold aWs
  rw [hE, List.range_succ, List.map_append]
  congr 1
  · apply List.map_congr_left
    intro p hp
    have h := ho (p + 1) (by omega) (by have := List.mem_range.mp hp; omega)
    rw [h.1, h.2]
  · simp [hq, he]
theorem aFs_at {ad : Nat → Nat} {E : aE} {I : aI} {a k : Nat} {ks : List Bool} (hk : k < ks.length) : (aFs ad E I a ks)[k]? = some (if ks.getD k true = true then .int (I a k) else va_rf (aRef ad (E.2.2 a k))) := by
  unfold aFs
  rw [List.getElem?_map, List.getElem?_range hk]
  rfl
theorem aFs_len {ad : Nat → Nat} {E : aE} {I : aI} {a : Nat} {ks : List Bool} : (aFs ad E I a ks).length = ks.length := by simp [aFs]
theorem aEnt_o {cA : Nat → ClassId} {ad : Nat → Nat} {E : aE} {I : aI} {J : aJ} {a ci : Nat} (h : E.2.1 a = (0, ci)) : aEnt cA ad E I J a = .inr (ci, aFs ad E I a (aKd ci)) := by
  unfold aEnt
  rw [h]
  rfl
theorem aEnt_1 {cA : Nat → ClassId} {ad : Nat → Nat} {E : aE} {I : aI} {J : aJ} {a : Nat} (h : (E.2.1 a).1 = 1) : aEnt cA ad E I J a = .inl (cA 1, (E.2.1 a).2, .inl (I a)) := by
  unfold aEnt
  rw [h]
  rfl
theorem aEnt_2 {cA : Nat → ClassId} {ad : Nat → Nat} {E : aE} {I : aI} {J : aJ} {a : Nat} (h : (E.2.1 a).1 = 2) : aEnt cA ad E I J a = .inl (cA 2, (E.2.1 a).2, .inr (.inl (J a))) := by
  unfold aEnt
  rw [h]
  rfl
theorem aEnt_3 {cA : Nat → ClassId} {ad : Nat → Nat} {E : aE} {I : aI} {J : aJ} {a : Nat} (h : (E.2.1 a).1 = 3) : aEnt cA ad E I J a = .inl (cA 3, (E.2.1 a).2, .inl (I a)) := by
  unfold aEnt
  rw [h]
  rfl
theorem aEnt_4 {cA : Nat → ClassId} {ad : Nat → Nat} {E : aE} {I : aI} {J : aJ} {a : Nat} (h : (E.2.1 a).1 = 4) : aEnt cA ad E I J a = .inl (cA 4, (E.2.1 a).2, .inr (.inr (.inr (.inr (fun j => aRef ad (E.2.2 a j)))))) := by
  unfold aEnt
  rw [h]
  rfl
theorem aEnt_5 {cA : Nat → ClassId} {ad : Nat → Nat} {E : aE} {I : aI} {J : aJ} {a : Nat} (h : (E.2.1 a).1 = 5) : aEnt cA ad E I J a = .inl (cA 5, (E.2.1 a).2, .inr (.inr (.inr (.inr (fun j => aRef ad (E.2.2 a j)))))) := by
  unfold aEnt
  rw [h]
  rfl
/-- an entry hangs on its own rows alone -/
theorem aEnt_eq {cA : Nat → ClassId} {ad ad' : Nat → Nat} {E E' : aE} {I I' : aI} {J J' : aJ} {b : Nat} (hs : E'.2.1 b = E.2.1 b) (hr : ∀ j, aRef ad' (E'.2.2 b j) = aRef ad (E.2.2 b j)) (hI : I' b = I b) (hJ : J' b = J b) : aEnt cA ad' E' I' J' b = aEnt cA ad E I J b := by
  have hf : ∀ ks, aFs ad' E' I' b ks = aFs ad E I b ks := fun ks => by
    unfold aFs
    apply List.map_congr_left
    intro k _
    rw [hI, hr k]
  unfold aEnt
  rw [hs, hI, hJ, hf]
  simp only [hr]
/-- the words that hold wherever the machine is -/
def lw_tbg : List Cond := lw_tbl.filter goodWord
theorem in_tbg {w : Cond} (i : Nat) (h : lw_tbl[i]? = some w) (hg : goodWord w = true) : w ∈ lw_tbg := List.mem_filter.mpr ⟨List.mem_of_getElem? h, hg⟩
theorem va_AOA.moved {ty : FieldType} {u U : State} (hvm : u.vm.Alike U.vm) (h : va_AOA ty u) : va_AOA ty U := (Cond.arrayOver_setVmC (args := #[]) hvm (.array ty)).trans h
/-- the array kinds of the tables -/
def aTys (cA : Nat → ClassId) : List (ClassId × FieldType) := [(cA 1, .int), (cA 2, .long), (cA 3, .boolean), (cA 4, .object "MarkovChainDistances$Chain"), (cA 5, .array .long)]
/-- what the tables say of classes and arrays -/
def aTb (D : va_G) (cA : Nat → ClassId) (U : State) : Prop := va_K D vwCl (aTys cA) U ∧ va_AO "MarkovChainDistances$Chain" U ∧ va_AOA .long U
theorem aTb.moved {D : va_G} {cA : Nat → ClassId} {u U : State} (hvm : u.vm.Alike U.vm) (h : aTb D cA u) : aTb D cA U := ⟨va_K.moved hvm h.1, va_AO.moved hvm h.2.1, va_AOA.moved hvm h.2.2⟩
def aCtx (γ : aM) (d mc ms : Nat) (p : Program) (R : Room) (s : State) (m : MethodId) (args : Array Value) (meth : Method) (c : Code) (D : va_G) (cA : Nat → ClassId) (A : Nat → Prop) (ad0 : Nat → Nat) : Prop :=
  p.tables.exec = Jvm.exec ∧ c.code = γ.2.1 ∧ c.maxLocals = γ.2.2.1 ∧ meth.sig.returnType = γ.2.2.2.1 ∧ s.vm.findClass γ.1.cls = some m.cls ∧ (∀ w ∈ lw_tbg, w.before args s = true) ∧ meth.locks = false ∧ meth.name = γ.1.name ∧ (R.frames = d ∧ R.locals = 39 * d ∧ R.cells = mc ∧ R.slots = ms) ∧ aTb D cA s ∧ (∀ q, s.heap.size ≤ q → A q) ∧ (∀ L xs, γ.2.2.2.2 = some (L, xs) → va_X (ad0 0) L xs s s.heap ∧ ad0 0 < s.heap.size ∧ ¬ A (ad0 0))
def aW (γ : aM) (mc ms : Nat) (al : Nat × Nat) (p : Program) (l : Launch) (e : Env) (R : Room) (s : State) (m : MethodId) (args : Array Value) (below : List Frame) (meth : Method) (c : Code) (Q : State → Prop) (D : va_G) (cA : Nat → ClassId) (A : Nat → Prop) (ad0 : Nat → Nat) (n0 pc : Nat) (lo : aLo) (st : List Value) (E : aE) (I : aI) (J : aJ) : Prop :=
  ∀ (ad : Nat → Nat) (H : Heap) (locs : List Loc) (ls : Array Slot) (cells slots : Nat), n0 ≤ E.1 → (∀ r, r ≤ n0 ∨ E.1 < r → ad r = ad0 r) → aL ad ls γ.2.2.1 lo → va_P D vwCl (aWs cA ad E I J) H → va_D A (aWs cA ad E I J) → va_S A s.heap H locs → cells + al.1 ≤ mc → slots + al.2 ≤ ms → W p l e R s m args below meth c H locs cells slots Q (F0 m pc ls (st.map (tv ad)))
def aAll : List Prop → Prop
  | [] => True
  | [p] => p
  | p :: q :: r => p ∧ aAll (q :: r)
theorem aAll_cons {p : Prop} {ps : List Prop} (h : aAll (p :: ps)) : p ∧ aAll ps := by
  cases ps with
  | nil => exact ⟨h, trivial⟩
  | cons q r => exact h
theorem aAll_app : ∀ {ps qs : List Prop}, aAll (ps ++ qs) → aAll ps ∧ aAll qs
  | [], _, h => ⟨trivial, h⟩
  | p :: ps, qs, h => by
    have h1 := aAll_cons (ps := ps ++ qs) h
    have h2 := aAll_app h1.2
    refine ⟨?_, h2.2⟩
    cases ps with
    | nil => exact h1.1
    | cons q r => exact ⟨h1.1, h2.1⟩
def OpOK (γ : aM) (pc : Nat) (op : aOp) (pc' : Nat) : Prop := ∀ (d mc ms : Nat) (al : Nat × Nat) (p : Program) (l : Launch) (e : Env) (R : Room) (s : State) (m : MethodId) (args : Array Value) (below : List Frame) (meth : Method) (c : Code) (Q : State → Prop) (D : va_G) (cA : Nat → ClassId) (A : Nat → Prop) (ad0 : Nat → Nat) (n0 : Nat), aCtx γ (d + 1) mc ms p R s m args meth c D cA A ad0 → ∀ (lo : aLo) (st : List Value) (E : aE) (I : aI) (J : aJ) (t : aS) (Ps : List Prop), op E (lo, st, I, J) = some (t, Ps) → aAll Ps → aW γ mc ms al p l e R s m args below meth c Q D cA A ad0 n0 pc' t.1 t.2.1 E t.2.2.1 t.2.2.2 → aW γ mc ms al p l e R s m args below meth c Q D cA A ad0 n0 pc lo st E I J
def aRun (E : aE) : List aOp → aS → Option (aS × List Prop)
  | [], s => some (s, [])
  | o :: os, s => match o E s with
    | none => none
    | some (s', ps) => match aRun E os s' with
      | none => none
      | some (s2, qs) => some (s2, ps ++ qs)
/-- a stretch of instructions -/
def Blk (γ : aM) : Nat → List aOp → Nat → Prop
  | pc, [], pc' => pc = pc'
  | pc, o :: os, pc' => ∃ pc1, OpOK γ pc o pc1 ∧ Blk γ pc1 os pc'
theorem Blk.nil {γ : aM} {pc : Nat} : Blk γ pc [] pc := rfl
theorem Blk.cons {γ : aM} {pc pc1 pc' : Nat} {o : aOp} {os : List aOp} (h : OpOK γ pc o pc1) (k : Blk γ pc1 os pc') : Blk γ pc (o :: os) pc' := ⟨pc1, h, k⟩
theorem Blk.ok {γ : aM} : ∀ {os : List aOp} {pc pc' : Nat}, Blk γ pc os pc' → OpOK γ pc (fun E s => aRun E os s) pc'
  | [], pc, pc', h => by
    intro d mc ms al p l e R s m args below meth c Q D cA A ad0 n0 C lo st E I J t Ps hop hps hw
    cases h
    cases hop
    exact hw
  | o :: os, pc, pc', h => by
    obtain ⟨pc1, h1, h2⟩ := h
    intro d mc ms al p l e R s m args below meth c Q D cA A ad0 n0 C lo st E I J t Ps hop hps hw
    simp only [aRun] at hop
    split at hop
    · cases hop
    · rename_i s1 ps e1
      split at hop
      · cases hop
      · rename_i s2 qs e2
        cases hop
        obtain ⟨ha, hb⟩ := aAll_app hps
        obtain ⟨lo1, st1, I1, J1⟩ := s1
        exact h1 d mc ms al p l e R s m args below meth c Q D cA A ad0 n0 C lo st E I J _ _ e1 ha (Blk.ok h2 d mc ms al p l e R s m args below meth c Q D cA A ad0 n0 C lo1 st1 E I1 J1 _ _ e2 hb hw)
/-- what a method answers and leaves -/
abbrev aPost : Type := Option Value → aE → aI → aJ → Prop
def aQc (Q : aPost) (D : va_G) (cA : Nat → ClassId) (A : Nat → Prop) (ad0 : Nat → Nat) (n0 : Nat) : Array Value → State → Outcome → State → Prop := fun _ st o t => (∃ (r : Option Value) (E' : aE) (I' : aI) (J' : aJ) (ad' : Nat → Nat), o = .returned (r.map (tv ad')) ∧ Q r E' I' J' ∧ n0 ≤ E'.1 ∧ (∀ r, r ≤ n0 ∨ E'.1 < r → ad' r = ad0 r) ∧ va_P D vwCl (aWs cA ad' E' I' J') t.heap ∧ va_D A (aWs cA ad' E' I' J')) ∧ va_F A st t
/-- from here the method comes to its end, and Q holds of its answer and of the heap -/
def Ex (γ : aM) (d mc ms n0 : Nat) (al : Nat × Nat) (pc : Nat) (lo : aLo) (st : List Value) (E : aE) (I : aI) (J : aJ) (Q : aPost) : Prop := ∀ (p : Program) (l : Launch) (e : Env) (R : Room) (s : State) (m : MethodId) (args : Array Value) (below : List Frame) (meth : Method) (c : Code) (D : va_G) (cA : Nat → ClassId) (A : Nat → Prop) (ad0 : Nat → Nat), aCtx γ d mc ms p R s m args meth c D cA A ad0 → aW γ mc ms al p l e R s m args below meth c (MQ below (aQc Q D cA A ad0 n0) args s mc ms A) D cA A ad0 n0 pc lo st E I J
theorem Ex.blk {γ : aM} {d mc ms n0 : Nat} {al : Nat × Nat} {pc pc' : Nat} {os : List aOp} (h : Blk γ pc os pc') {lo lo' : aLo} {st st' : List Value} {E : aE} {I I' : aI} {J J' : aJ} {Ps : List Prop} {Q : aPost} (hr : aRun E os (lo, st, I, J) = some ((lo', st', I', J'), Ps)) (hp : aAll Ps) (k : Ex γ (d + 1) mc ms n0 al pc' lo' st' E I' J' Q) : Ex γ (d + 1) mc ms n0 al pc lo st E I J Q :=
  fun p l e R s m args below meth c D cA A ad0 C => h.ok d mc ms al p l e R s m args below meth c _ D cA A ad0 n0 C lo st E I J _ Ps hr hp (k p l e R s m args below meth c D cA A ad0 C)
theorem Ex.conseq {γ : aM} {d mc ms n0 : Nat} {al : Nat × Nat} {pc : Nat} {lo : aLo} {st : List Value} {E : aE} {I : aI} {J : aJ} {Q Q' : aPost} (h : Ex γ d mc ms n0 al pc lo st E I J Q) (hq : ∀ r E' I' J', Q r E' I' J' → Q' r E' I' J') : Ex γ d mc ms n0 al pc lo st E I J Q' := by
  intro p l e R s m args below meth c D cA A ad0 C ad H locs ls cells slots h1 h2 hl hP hD hS hc hs T hT X
  obtain ⟨t, a1, o, b1, b2, ⟨⟨r, E', I', J', ad', c1, c2, c3⟩, b4⟩, b5⟩ := h p l e R s m args below meth c D cA A ad0 C ad H locs ls cells slots h1 h2 hl hP hD hS hc hs T hT X
  exact ⟨t, a1, o, b1, b2, ⟨⟨r, E', I', J', ad', c1, hq _ _ _ _ c2, c3⟩, b4⟩, b5⟩
end
section
/-! INSTRUCTIONS AS FUNCTIONS, and that the machine does them -/
def o_pure (g : List Value → Option (List Value)) : aOp := fun _ s => match g s.2.1 with
  | some st' => some ((s.1, st', s.2.2), [])
  | none => none
def PStep (γ : aM) (pc : Nat) (g : List Value → Option (List Value)) (pc' : Nat) : Prop := ∀ (p : Program) (l : Launch) (e : Env) (R : Room) (s : State) (m : MethodId) (args : Array Value) (below : List Frame) (meth : Method) (c : Code) (H : Heap) (locs : List Loc) (cells slots : Nat) (Q : State → Prop) (ls : Array Slot) (ad : Nat → Nat), p.tables.exec = Jvm.exec → c.code = γ.2.1 → s.vm.findClass γ.1.cls = some m.cls → (∀ w ∈ lw_tbg, w.before args s = true) → c.maxLocals = ls.size → 1 ≤ R.frames → 39 ≤ R.locals → cells ≤ R.cells → slots ≤ R.slots → ∀ st st', g st = some st' → W p l e R s m args below meth c H locs cells slots Q (F0 m pc' ls (st'.map (tv ad))) → W p l e R s m args below meth c H locs cells slots Q (F0 m pc ls (st.map (tv ad)))
theorem ok_pure {γ : aM} {pc pc' : Nat} {g : List Value → Option (List Value)} (h : PStep γ pc g pc') : OpOK γ pc (o_pure g) pc' := by
  intro d mc ms al p l e R s m args below meth c Q D cA A ad0 n0 C lo st E I J t Ps hop hps hw ad H locs ls cells slots h1 h2 hl hP hD hS hc hs
  obtain ⟨hx, hb, hml, hr, hown, hts, hlk, hnm, ⟨hf, hlo, hrc, hrs⟩, ⟨hK, hAO⟩, hA, hX⟩ := C
  unfold o_pure at hop
  split at hop
  · rename_i st' hg
    cases hop
    exact h p l e R s m args below meth c H locs cells slots _ ls ad hx hb hown hts (hml.trans hl.2.1.symm) (by omega) (by omega) (by omega) (by omega) st st' hg (hw ad H locs ls cells slots h1 h2 hl hP hD hS hc hs)
  · cases hop
def g_push (v : Value) : List Value → Option (List Value) := fun st => some (v :: st)
def g_ii (f : Int32 → Int32 → Int32) : List Value → Option (List Value) := fun st => match st with
  | .int y :: .int x :: r => some (.int (f x y) :: r)
  | _ => none
def g_ll (f : Int64 → Int64 → Int64) : List Value → Option (List Value) := fun st => match st with
  | .long y :: .long x :: r => some (.long (f x y) :: r)
  | _ => none
def g_lsh (f : Int64 → Int32 → Int64) : List Value → Option (List Value) := fun st => match st with
  | .int y :: .long x :: r => some (.long (f x y) :: r)
  | _ => none
def g_i (f : Int32 → Int32) : List Value → Option (List Value) := fun st => match st with
  | .int x :: r => some (.int (f x) :: r)
  | _ => none
def g_il (f : Int32 → Int64) : List Value → Option (List Value) := fun st => match st with
  | .int x :: r => some (.long (f x) :: r)
  | _ => none
def g_li (f : Int64 → Int32) : List Value → Option (List Value) := fun st => match st with
  | .long x :: r => some (.int (f x) :: r)
  | _ => none
def g_cmp : List Value → Option (List Value) := fun st => match st with
  | .long y :: .long x :: r => some (.int (lg_cmp x y) :: r)
  | _ => none
def g_dup : List Value → Option (List Value) := fun st => match st with
  | v :: r => if v.category = 1 then some (v :: v :: r) else none
  | _ => none
def g_dup2 : List Value → Option (List Value) := fun st => match st with
  | v :: w :: r => if v.category = 1 ∧ w.category = 1 then some (v :: w :: v :: w :: r) else none
  | _ => none
def g_pop : List Value → Option (List Value) := fun st => match st with
  | v :: r => if v.category = 1 then some r else none
  | _ => none
def g_pop2 : List Value → Option (List Value) := fun st => match st with
  | v :: r => if v.category = 2 then some r else none
  | _ => none
def g_id : List Value → Option (List Value) := fun st => some st
def aSm (st : List Value) : Nat := (st.map fun v => v.category).sum
theorem aSm_tv (ad : Nat → Nat) (st : List Value) : ((st.map (tv ad)).map fun v => v.category).sum = aSm st := by
  unfold aSm
  rw [List.map_map]
  congr 1
  apply List.map_congr_left
  intro v _
  exact tv_cat ad v
def g_m2 (f : Int32 → Int32 → Int32) : List Value → Option (List Value) := fun st => match st with
  | .int y :: .int x :: r => if aSm r ≤ 8 then some (.int (f x y) :: r) else none
  | _ => none
def g_m1 (f : Int32 → Int32) : List Value → Option (List Value) := fun st => match st with
  | .int x :: r => if aSm r ≤ 8 then some (.int (f x) :: r) else none
  | _ => none
def g_oi : List Value → Option (List Value) := fun st => match st with
  | .ref _ :: r => if aSm r ≤ 8 then some r else none
  | _ => none
theorem ok_iconst {γ : aM} {pc : Nat} {n : Int} {v : Int32} (hdg : decode γ.2.1 pc = .ok (.iconst n, 1)) (hv : Int32.ofInt n = v) : OpOK γ pc (o_pure (g_push (.int v))) (pc + 1) := ok_pure (by
  intro p l e R s m args below meth c H locs cells slots Q ls ad hx hb hown hts hml hf hlo hrc hrs st st' hg k
  cases hg
  exact lv_iconst hx hb hdg hv k)
theorem ok_bipush {γ : aM} {pc : Nat} {n : Int} {v : Int32} (hdg : decode γ.2.1 pc = .ok (.bipush n, 2)) (hv : (Int8.ofInt n).toInt32 = v) : OpOK γ pc (o_pure (g_push (.int v))) (pc + 2) := ok_pure (by
  intro p l e R s m args below meth c H locs cells slots Q ls ad hx hb hown hts hml hf hlo hrc hrs st st' hg k
  cases hg
  exact lv_bipush hx hb hdg hv k)
theorem ok_sipush {γ : aM} {pc : Nat} {n : Int} {v : Int32} (hdg : decode γ.2.1 pc = .ok (.sipush n, 3)) (hv : (Int16.ofInt n).toInt32 = v) : OpOK γ pc (o_pure (g_push (.int v))) (pc + 3) := ok_pure (by
  intro p l e R s m args below meth c H locs cells slots Q ls ad hx hb hown hts hml hf hlo hrc hrs st st' hg k
  cases hg
  exact lv_sipush hx hb hdg hv k)
theorem ok_lconst {γ : aM} {pc : Nat} {n : Fin 2} {v : Int64} (hdg : decode γ.2.1 pc = .ok (.lconst n, 1)) (hv : Int64.ofNat (n : Nat) = v) : OpOK γ pc (o_pure (g_push (.long v))) (pc + 1) := ok_pure (by
  intro p l e R s m args below meth c H locs cells slots Q ls ad hx hb hown hts hml hf hlo hrc hrs st st' hg k
  cases hg
  exact lv_lconst hx hb hdg hv k)
theorem ok_ldc {γ : aM} {pc : Nat} {i : Nat} {v : Int32} (hdg : decode γ.2.1 pc = .ok (.ldc i, 2)) (hw : Cond.constant γ.1.cls i v ∈ lw_tbg) : OpOK γ pc (o_pure (g_push (.int v))) (pc + 2) := ok_pure (by
  intro p l e R s m args below meth c H locs cells slots Q ls ad hx hb hown hts hml hf hlo hrc hrs st st' hg k
  cases hg
  exact lv_ldc hx hb hown (hts _ hw) hdg k)
theorem ok_ldc2 {γ : aM} {pc : Nat} {i : Nat} {v : Int64} (hdg : decode γ.2.1 pc = .ok (.ldc2_w i, 3)) (hw : Cond.constantLong γ.1.cls i v ∈ lw_tbg) : OpOK γ pc (o_pure (g_push (.long v))) (pc + 3) := ok_pure (by
  intro p l e R s m args below meth c H locs cells slots Q ls ad hx hb hown hts hml hf hlo hrc hrs st st' hg k
  cases hg
  exact lv_ldc2 hx hb hown (hts _ hw) hdg k)
theorem ok_iadd {γ : aM} {pc : Nat} (hdg : decode γ.2.1 pc = .ok (.iadd, 1)) : OpOK γ pc (o_pure (g_ii (fun x y => x + y))) (pc + 1) := ok_pure (by
  intro p l e R s m args below meth c H locs cells slots Q ls ad hx hb hown hts hml hf hlo hrc hrs st st' hg k
  unfold g_ii at hg
  split at hg
  · cases hg
    exact lv_iadd hx hb hdg k
  · cases hg)
theorem ok_isub {γ : aM} {pc : Nat} (hdg : decode γ.2.1 pc = .ok (.isub, 1)) : OpOK γ pc (o_pure (g_ii (fun x y => x - y))) (pc + 1) := ok_pure (by
  intro p l e R s m args below meth c H locs cells slots Q ls ad hx hb hown hts hml hf hlo hrc hrs st st' hg k
  unfold g_ii at hg
  split at hg
  · cases hg
    exact lv_isub hx hb hdg k
  · cases hg)
theorem ok_imul {γ : aM} {pc : Nat} (hdg : decode γ.2.1 pc = .ok (.imul, 1)) : OpOK γ pc (o_pure (g_ii (fun x y => x * y))) (pc + 1) := ok_pure (by
  intro p l e R s m args below meth c H locs cells slots Q ls ad hx hb hown hts hml hf hlo hrc hrs st st' hg k
  unfold g_ii at hg
  split at hg
  · cases hg
    exact lv_imul hx hb hdg k
  · cases hg)
theorem ok_iand {γ : aM} {pc : Nat} (hdg : decode γ.2.1 pc = .ok (.iand, 1)) : OpOK γ pc (o_pure (g_ii (fun x y => x &&& y))) (pc + 1) := ok_pure (by
  intro p l e R s m args below meth c H locs cells slots Q ls ad hx hb hown hts hml hf hlo hrc hrs st st' hg k
  unfold g_ii at hg
  split at hg
  · cases hg
    exact lv_iand hx hb hdg k
  · cases hg)
theorem ok_ishl {γ : aM} {pc : Nat} (hdg : decode γ.2.1 pc = .ok (.ishl, 1)) : OpOK γ pc (o_pure (g_ii (fun x y => x <<< (y &&& 31)))) (pc + 1) := ok_pure (by
  intro p l e R s m args below meth c H locs cells slots Q ls ad hx hb hown hts hml hf hlo hrc hrs st st' hg k
  unfold g_ii at hg
  split at hg
  · cases hg
    exact lv_ishl hx hb hdg k
  · cases hg)
theorem ok_ishr {γ : aM} {pc : Nat} (hdg : decode γ.2.1 pc = .ok (.ishr, 1)) : OpOK γ pc (o_pure (g_ii (fun x y => x >>> (y &&& 31)))) (pc + 1) := ok_pure (by
  intro p l e R s m args below meth c H locs cells slots Q ls ad hx hb hown hts hml hf hlo hrc hrs st st' hg k
  unfold g_ii at hg
  split at hg
  · cases hg
    exact lv_ishr hx hb hdg k
  · cases hg)
theorem ok_iushr {γ : aM} {pc : Nat} (hdg : decode γ.2.1 pc = .ok (.iushr, 1)) : OpOK γ pc (o_pure (g_ii (fun x y => (x.toUInt32 >>> (y.toUInt32 &&& Int32.toUInt32 31)).toInt32))) (pc + 1) := ok_pure (by
  intro p l e R s m args below meth c H locs cells slots Q ls ad hx hb hown hts hml hf hlo hrc hrs st st' hg k
  unfold g_ii at hg
  split at hg
  · cases hg
    exact lv_iushr hx hb hdg rfl k
  · cases hg)
theorem ok_ladd {γ : aM} {pc : Nat} (hdg : decode γ.2.1 pc = .ok (.ladd, 1)) : OpOK γ pc (o_pure (g_ll (fun x y => x + y))) (pc + 1) := ok_pure (by
  intro p l e R s m args below meth c H locs cells slots Q ls ad hx hb hown hts hml hf hlo hrc hrs st st' hg k
  unfold g_ll at hg
  split at hg
  · cases hg
    exact lv_ladd hx hb hdg k
  · cases hg)
theorem ok_lsub {γ : aM} {pc : Nat} (hdg : decode γ.2.1 pc = .ok (.lsub, 1)) : OpOK γ pc (o_pure (g_ll (fun x y => x - y))) (pc + 1) := ok_pure (by
  intro p l e R s m args below meth c H locs cells slots Q ls ad hx hb hown hts hml hf hlo hrc hrs st st' hg k
  unfold g_ll at hg
  split at hg
  · cases hg
    exact lv_lsub hx hb hdg k
  · cases hg)
theorem ok_lmul {γ : aM} {pc : Nat} (hdg : decode γ.2.1 pc = .ok (.lmul, 1)) : OpOK γ pc (o_pure (g_ll (fun x y => x * y))) (pc + 1) := ok_pure (by
  intro p l e R s m args below meth c H locs cells slots Q ls ad hx hb hown hts hml hf hlo hrc hrs st st' hg k
  unfold g_ll at hg
  split at hg
  · cases hg
    exact lv_lmul hx hb hdg k
  · cases hg)
theorem ok_land {γ : aM} {pc : Nat} (hdg : decode γ.2.1 pc = .ok (.land, 1)) : OpOK γ pc (o_pure (g_ll (fun x y => x &&& y))) (pc + 1) := ok_pure (by
  intro p l e R s m args below meth c H locs cells slots Q ls ad hx hb hown hts hml hf hlo hrc hrs st st' hg k
  unfold g_ll at hg
  split at hg
  · cases hg
    exact lv_land hx hb hdg k
  · cases hg)
theorem ok_lor {γ : aM} {pc : Nat} (hdg : decode γ.2.1 pc = .ok (.lor, 1)) : OpOK γ pc (o_pure (g_ll (fun x y => x ||| y))) (pc + 1) := ok_pure (by
  intro p l e R s m args below meth c H locs cells slots Q ls ad hx hb hown hts hml hf hlo hrc hrs st st' hg k
  unfold g_ll at hg
  split at hg
  · cases hg
    exact lv_lor hx hb hdg k
  · cases hg)
theorem ok_lshl {γ : aM} {pc : Nat} (hdg : decode γ.2.1 pc = .ok (.lshl, 1)) : OpOK γ pc (o_pure (g_lsh (fun x y => x <<< (y.toInt64 &&& 63)))) (pc + 1) := ok_pure (by
  intro p l e R s m args below meth c H locs cells slots Q ls ad hx hb hown hts hml hf hlo hrc hrs st st' hg k
  unfold g_lsh at hg
  split at hg
  · cases hg
    exact lv_lshl hx hb hdg rfl k
  · cases hg)
theorem ok_ineg {γ : aM} {pc : Nat} (hdg : decode γ.2.1 pc = .ok (.ineg, 1)) : OpOK γ pc (o_pure (g_i (fun x => -x))) (pc + 1) := ok_pure (by
  intro p l e R s m args below meth c H locs cells slots Q ls ad hx hb hown hts hml hf hlo hrc hrs st st' hg k
  unfold g_i at hg
  split at hg
  · cases hg
    exact lv_ineg hx hb hdg k
  · cases hg)
theorem ok_i2b {γ : aM} {pc : Nat} (hdg : decode γ.2.1 pc = .ok (.i2b, 1)) : OpOK γ pc (o_pure (g_i (fun x => x.toInt8.toInt32))) (pc + 1) := ok_pure (by
  intro p l e R s m args below meth c H locs cells slots Q ls ad hx hb hown hts hml hf hlo hrc hrs st st' hg k
  unfold g_i at hg
  split at hg
  · cases hg
    exact lv_i2b hx hb hdg rfl k
  · cases hg)
theorem ok_i2c {γ : aM} {pc : Nat} (hdg : decode γ.2.1 pc = .ok (.i2c, 1)) : OpOK γ pc (o_pure (g_i (fun x => (x.toUInt32 % 65536).toInt32))) (pc + 1) := ok_pure (by
  intro p l e R s m args below meth c H locs cells slots Q ls ad hx hb hown hts hml hf hlo hrc hrs st st' hg k
  unfold g_i at hg
  split at hg
  · cases hg
    exact lv_i2c hx hb hdg rfl k
  · cases hg)
theorem ok_i2l {γ : aM} {pc : Nat} (hdg : decode γ.2.1 pc = .ok (.i2l, 1)) : OpOK γ pc (o_pure (g_il (fun x => x.toInt64))) (pc + 1) := ok_pure (by
  intro p l e R s m args below meth c H locs cells slots Q ls ad hx hb hown hts hml hf hlo hrc hrs st st' hg k
  unfold g_il at hg
  split at hg
  · cases hg
    exact lv_i2l hx hb hdg rfl k
  · cases hg)
theorem ok_l2i {γ : aM} {pc : Nat} (hdg : decode γ.2.1 pc = .ok (.l2i, 1)) : OpOK γ pc (o_pure (g_li (fun x => x.toInt32))) (pc + 1) := ok_pure (by
  intro p l e R s m args below meth c H locs cells slots Q ls ad hx hb hown hts hml hf hlo hrc hrs st st' hg k
  unfold g_li at hg
  split at hg
  · cases hg
    exact lv_l2i hx hb hdg rfl k
  · cases hg)
theorem ok_lcmp {γ : aM} {pc : Nat} (hdg : decode γ.2.1 pc = .ok (.lcmp, 1)) : OpOK γ pc (o_pure g_cmp) (pc + 1) := ok_pure (by
  intro p l e R s m args below meth c H locs cells slots Q ls ad hx hb hown hts hml hf hlo hrc hrs st st' hg k
  unfold g_cmp at hg
  split at hg
  · cases hg
    exact W.lcmp hx hb hdg k
  · cases hg)
theorem ok_dup {γ : aM} {pc : Nat} (hdg : decode γ.2.1 pc = .ok (.dup, 1)) : OpOK γ pc (o_pure g_dup) (pc + 1) := ok_pure (by
  intro p l e R s m args below meth c H locs cells slots Q ls ad hx hb hown hts hml hf hlo hrc hrs st st' hg k
  unfold g_dup at hg
  split at hg
  · split at hg
    · rename_i hc
      cases hg
      exact lv_dup hx hb hdg (by rw [tv_cat]; exact hc) k
    · cases hg
  · cases hg)
theorem ok_dup2 {γ : aM} {pc : Nat} (hdg : decode γ.2.1 pc = .ok (.dup2, 1)) : OpOK γ pc (o_pure g_dup2) (pc + 1) := ok_pure (by
  intro p l e R s m args below meth c H locs cells slots Q ls ad hx hb hown hts hml hf hlo hrc hrs st st' hg k
  unfold g_dup2 at hg
  split at hg
  · split at hg
    · rename_i hc
      cases hg
      exact lv_dup2_11 hx hb hdg (by rw [tv_cat]; exact hc.1) (by rw [tv_cat]; exact hc.2) k
    · cases hg
  · cases hg)
theorem ok_pop {γ : aM} {pc : Nat} (hdg : decode γ.2.1 pc = .ok (.pop, 1)) : OpOK γ pc (o_pure g_pop) (pc + 1) := ok_pure (by
  intro p l e R s m args below meth c H locs cells slots Q ls ad hx hb hown hts hml hf hlo hrc hrs st st' hg k
  unfold g_pop at hg
  split at hg
  · split at hg
    · rename_i hc
      cases hg
      exact lv_pop hx hb hdg (by rw [tv_cat]; exact hc) k
    · cases hg
  · cases hg)
theorem ok_pop2 {γ : aM} {pc : Nat} (hdg : decode γ.2.1 pc = .ok (.pop2, 1)) : OpOK γ pc (o_pure g_pop2) (pc + 1) := ok_pure (by
  intro p l e R s m args below meth c H locs cells slots Q ls ad hx hb hown hts hml hf hlo hrc hrs st st' hg k
  unfold g_pop2 at hg
  split at hg
  · split at hg
    · rename_i hc
      cases hg
      exact lv_pop2_2 hx hb hdg (by rw [tv_cat]; exact hc) k
    · cases hg
  · cases hg)
theorem ok_goto {γ : aM} {pc : Nat} {off : Int} {tgt : Nat} (hdg : decode γ.2.1 pc = .ok (.goto off, 3)) (ht : (pc : Int) + off = (tgt : Int)) : OpOK γ pc (o_pure g_id) tgt := ok_pure (by
  intro p l e R s m args below meth c H locs cells slots Q ls ad hx hb hown hts hml hf hlo hrc hrs st st' hg k
  cases hg
  exact lv_goto hx hb hdg ht k)
theorem ok_mmin {γ : aM} {pc : Nat} {i : Nat} (hw : Cond.methodLink γ.1.cls i Lib.Math.min.name ∈ lw_tbg) (hw2 : Cond.static Lib.Math.min.name ∈ lw_tbg) (hw3 : Cond.initialized "java/lang/Math" ∈ lw_tbg) (hw4 : Cond.code Lib.Math.min.name Lib.Math.min.code 2 (some .int) ∈ lw_tbg) (hdg : decode γ.2.1 pc = .ok (.invokestatic i, 3)) : OpOK γ pc (o_pure (g_m2 (fun x y => if y < x then y else x))) (pc + 3) := ok_pure (by
  intro p l e R s m args below meth c H locs cells slots Q ls ad hx hb hown hts hml hf hlo hrc hrs st st' hg k
  unfold g_m2 at hg
  split at hg
  · split at hg
    · rename_i hc
      cases hg
      exact va_mmin hx hb hml hown (hts _ hw) (hts _ hw2) (hts _ hw3) (hts _ hw4) hf (by rw [aSm_tv]; omega) hrc hrs hdg k
    · cases hg
  · cases hg)
theorem ok_mmax {γ : aM} {pc : Nat} {i : Nat} (hw : Cond.methodLink γ.1.cls i Lib.Math.max.name ∈ lw_tbg) (hw2 : Cond.static Lib.Math.max.name ∈ lw_tbg) (hw3 : Cond.initialized "java/lang/Math" ∈ lw_tbg) (hw4 : Cond.code Lib.Math.max.name Lib.Math.max.code 2 (some .int) ∈ lw_tbg) (hdg : decode γ.2.1 pc = .ok (.invokestatic i, 3)) : OpOK γ pc (o_pure (g_m2 (fun x y => if x < y then y else x))) (pc + 3) := ok_pure (by
  intro p l e R s m args below meth c H locs cells slots Q ls ad hx hb hown hts hml hf hlo hrc hrs st st' hg k
  unfold g_m2 at hg
  split at hg
  · split at hg
    · rename_i hc
      cases hg
      exact va_mmax hx hb hml hown (hts _ hw) (hts _ hw2) (hts _ hw3) (hts _ hw4) hf (by rw [aSm_tv]; omega) hrc hrs hdg k
    · cases hg
  · cases hg)
theorem ok_mabs {γ : aM} {pc : Nat} {i : Nat} (hw : Cond.methodLink γ.1.cls i Lib.Math.abs.name ∈ lw_tbg) (hw2 : Cond.static Lib.Math.abs.name ∈ lw_tbg) (hw3 : Cond.initialized "java/lang/Math" ∈ lw_tbg) (hw4 : Cond.code Lib.Math.abs.name Lib.Math.abs.code 1 (some .int) ∈ lw_tbg) (hdg : decode γ.2.1 pc = .ok (.invokestatic i, 3)) : OpOK γ pc (o_pure (g_m1 (fun x => if 0 ≤ x then x else 0 - x))) (pc + 3) := ok_pure (by
  intro p l e R s m args below meth c H locs cells slots Q ls ad hx hb hown hts hml hf hlo hrc hrs st st' hg k
  unfold g_m1 at hg
  split at hg
  · split at hg
    · rename_i hc
      cases hg
      exact va_mabs hx hb hml hown (hts _ hw) (hts _ hw2) (hts _ hw3) (hts _ hw4) hf (by rw [aSm_tv]; omega) hrc hrs hdg k
    · cases hg
  · cases hg)
theorem ok_oi {γ : aM} {pc : Nat} {i : Nat} (hw : Cond.methodLink γ.1.cls i Lib.objectInit ∈ lw_tbg) (hw2 : Cond.instanceMethod Lib.objectInit ∈ lw_tbg) (hw3 : Cond.code Lib.objectInit ⟨#[0xb1]⟩ 1 none ∈ lw_tbg) (hdg : decode γ.2.1 pc = .ok (.invokespecial i, 3)) : OpOK γ pc (o_pure g_oi) (pc + 3) := ok_pure (by
  intro p l e R s m args below meth c H locs cells slots Q ls ad hx hb hown hts hml hf hlo hrc hrs st st' hg k
  unfold g_oi at hg
  split at hg
  · split at hg
    · rename_i hc
      cases hg
      exact W.objInit hx hb hown (hts _ hw) (hts _ hw2) (hts _ hw3) rfl hml.symm rfl hdg hf (by rw [aSm_tv]; show 2 * 0 + _ + 12 ≤ _; omega) k
    · cases hg
  · cases hg)
/-! divisions: the divisor isn't 0 -/
def o_dii (f : Int32 → Int32 → Int32) : aOp := fun _ s => match s.2.1 with
  | .int y :: .int x :: r => some ((s.1, .int (f x y) :: r, s.2.2), [¬ y = 0])
  | _ => none
def o_dll (f : Int64 → Int64 → Int64) : aOp := fun _ s => match s.2.1 with
  | .long y :: .long x :: r => some ((s.1, .long (f x y) :: r, s.2.2), [¬ y = 0])
  | _ => none
theorem ok_idiv {γ : aM} {pc : Nat} (hdg : decode γ.2.1 pc = .ok (.idiv, 1)) : OpOK γ pc (o_dii (fun x y => x / y)) (pc + 1) := by
  intro d mc ms al p l e R s m args below meth c Q D cA A ad0 n0 C lo st E I J t Ps hop hps hw ad H locs ls cells slots h1 h2 hl hP hD hS hc hs
  obtain ⟨hx, hb, hml, hr, hown, hts, hlk, hnm, ⟨hf, hlo, hrc, hrs⟩, ⟨hK, hAO⟩, hA, hX⟩ := C
  unfold o_dii at hop
  split at hop
  · rename_i y x r hst
    cases hop
    have hst : st = _ := hst
    subst hst
    exact lv_idiv hx hb hdg hps (hw ad H locs ls cells slots h1 h2 hl hP hD hS hc hs)
  · cases hop
theorem ok_irem {γ : aM} {pc : Nat} (hdg : decode γ.2.1 pc = .ok (.irem, 1)) : OpOK γ pc (o_dii (fun x y => x - x / y * y)) (pc + 1) := by
  intro d mc ms al p l e R s m args below meth c Q D cA A ad0 n0 C lo st E I J t Ps hop hps hw ad H locs ls cells slots h1 h2 hl hP hD hS hc hs
  obtain ⟨hx, hb, hml, hr, hown, hts, hlk, hnm, ⟨hf, hlo, hrc, hrs⟩, ⟨hK, hAO⟩, hA, hX⟩ := C
  unfold o_dii at hop
  split at hop
  · rename_i y x r hst
    cases hop
    have hst : st = _ := hst
    subst hst
    exact lv_irem hx hb hdg hps (hw ad H locs ls cells slots h1 h2 hl hP hD hS hc hs)
  · cases hop
theorem ok_ldiv {γ : aM} {pc : Nat} (hdg : decode γ.2.1 pc = .ok (.ldiv, 1)) : OpOK γ pc (o_dll (fun x y => x / y)) (pc + 1) := by
  intro d mc ms al p l e R s m args below meth c Q D cA A ad0 n0 C lo st E I J t Ps hop hps hw ad H locs ls cells slots h1 h2 hl hP hD hS hc hs
  obtain ⟨hx, hb, hml, hr, hown, hts, hlk, hnm, ⟨hf, hlo, hrc, hrs⟩, ⟨hK, hAO⟩, hA, hX⟩ := C
  unfold o_dll at hop
  split at hop
  · rename_i y x r hst
    cases hop
    have hst : st = _ := hst
    subst hst
    exact lv_ldiv hx hb hdg hps (hw ad H locs ls cells slots h1 h2 hl hP hD hS hc hs)
  · cases hop
theorem ok_lrem {γ : aM} {pc : Nat} (hdg : decode γ.2.1 pc = .ok (.lrem, 1)) : OpOK γ pc (o_dll (fun x y => x - x / y * y)) (pc + 1) := by
  intro d mc ms al p l e R s m args below meth c Q D cA A ad0 n0 C lo st E I J t Ps hop hps hw ad H locs ls cells slots h1 h2 hl hP hD hS hc hs
  obtain ⟨hx, hb, hml, hr, hown, hts, hlk, hnm, ⟨hf, hlo, hrc, hrs⟩, ⟨hK, hAO⟩, hA, hX⟩ := C
  unfold o_dll at hop
  split at hop
  · rename_i y x r hst
    cases hop
    have hst : st = _ := hst
    subst hst
    exact lv_lrem hx hb hdg hps (hw ad H locs ls cells slots h1 h2 hl hP hD hS hc hs)
  · cases hop
/-! locals -/
def o_ild (i : Nat) : aOp := fun _ s => match s.1[i]? with
  | some (some (.int x)) => some ((s.1, .int x :: s.2.1, s.2.2), [])
  | _ => none
theorem ok_iload_n {γ : aM} {pc : Nat} {k : Fin 4} {i : Nat} (hi : (k : Nat) = i) (hdg : decode γ.2.1 pc = .ok (.iload_n k, 1)) : OpOK γ pc (o_ild i) (pc + 1) := by
  intro d mc ms al p l e R s m args below meth c Q D cA A ad0 n0 C lo st E I J t Ps hop hps hw ad H locs ls cells slots h1 h2 hl hP hD hS hc hs
  obtain ⟨hx, hb, hml, hr, hown, hts, hlk, hnm, ⟨hf, hlo, hrc, hrs⟩, ⟨hK, hAO⟩, hA, hX⟩ := C
  unfold o_ild at hop
  split at hop
  · rename_i x hst
    cases hop
    exact lv_iload_n hx hb hdg hi (aL_at hl hst) (hw ad H locs ls cells slots h1 h2 hl hP hD hS hc hs)
  · cases hop
theorem ok_iload {γ : aM} {pc : Nat} {i : Nat} (hdg : decode γ.2.1 pc = .ok (.iload i, 2)) : OpOK γ pc (o_ild i) (pc + 2) := by
  intro d mc ms al p l e R s m args below meth c Q D cA A ad0 n0 C lo st E I J t Ps hop hps hw ad H locs ls cells slots h1 h2 hl hP hD hS hc hs
  obtain ⟨hx, hb, hml, hr, hown, hts, hlk, hnm, ⟨hf, hlo, hrc, hrs⟩, ⟨hK, hAO⟩, hA, hX⟩ := C
  unfold o_ild at hop
  split at hop
  · rename_i x hst
    cases hop
    exact lv_iload hx hb hdg (aL_at hl hst) (hw ad H locs ls cells slots h1 h2 hl hP hD hS hc hs)
  · cases hop
def o_lld (i : Nat) : aOp := fun _ s => match s.1[i]? with
  | some (some (.long x)) => some ((s.1, .long x :: s.2.1, s.2.2), [])
  | _ => none
theorem ok_lload_n {γ : aM} {pc : Nat} {k : Fin 4} {i : Nat} (hi : (k : Nat) = i) (hdg : decode γ.2.1 pc = .ok (.lload_n k, 1)) : OpOK γ pc (o_lld i) (pc + 1) := by
  intro d mc ms al p l e R s m args below meth c Q D cA A ad0 n0 C lo st E I J t Ps hop hps hw ad H locs ls cells slots h1 h2 hl hP hD hS hc hs
  obtain ⟨hx, hb, hml, hr, hown, hts, hlk, hnm, ⟨hf, hlo, hrc, hrs⟩, ⟨hK, hAO⟩, hA, hX⟩ := C
  unfold o_lld at hop
  split at hop
  · rename_i x hst
    cases hop
    exact lv_lload_n hx hb hdg hi (aL_at hl hst) (hw ad H locs ls cells slots h1 h2 hl hP hD hS hc hs)
  · cases hop
theorem ok_lload {γ : aM} {pc : Nat} {i : Nat} (hdg : decode γ.2.1 pc = .ok (.lload i, 2)) : OpOK γ pc (o_lld i) (pc + 2) := by
  intro d mc ms al p l e R s m args below meth c Q D cA A ad0 n0 C lo st E I J t Ps hop hps hw ad H locs ls cells slots h1 h2 hl hP hD hS hc hs
  obtain ⟨hx, hb, hml, hr, hown, hts, hlk, hnm, ⟨hf, hlo, hrc, hrs⟩, ⟨hK, hAO⟩, hA, hX⟩ := C
  unfold o_lld at hop
  split at hop
  · rename_i x hst
    cases hop
    exact lv_lload hx hb hdg (aL_at hl hst) (hw ad H locs ls cells slots h1 h2 hl hP hD hS hc hs)
  · cases hop
def o_ald (i : Nat) : aOp := fun _ s => match s.1[i]? with
  | some (some (.ref x)) => some ((s.1, .ref x :: s.2.1, s.2.2), [])
  | _ => none
theorem ok_aload_n {γ : aM} {pc : Nat} {k : Fin 4} {i : Nat} (hi : (k : Nat) = i) (hdg : decode γ.2.1 pc = .ok (.aload_n k, 1)) : OpOK γ pc (o_ald i) (pc + 1) := by
  intro d mc ms al p l e R s m args below meth c Q D cA A ad0 n0 C lo st E I J t Ps hop hps hw ad H locs ls cells slots h1 h2 hl hP hD hS hc hs
  obtain ⟨hx, hb, hml, hr, hown, hts, hlk, hnm, ⟨hf, hlo, hrc, hrs⟩, ⟨hK, hAO⟩, hA, hX⟩ := C
  unfold o_ald at hop
  split at hop
  · rename_i x hst
    cases hop
    exact lv_aload_n hx hb hdg hi (aL_at hl hst) (hw ad H locs ls cells slots h1 h2 hl hP hD hS hc hs)
  · cases hop
theorem ok_aload {γ : aM} {pc : Nat} {i : Nat} (hdg : decode γ.2.1 pc = .ok (.aload i, 2)) : OpOK γ pc (o_ald i) (pc + 2) := by
  intro d mc ms al p l e R s m args below meth c Q D cA A ad0 n0 C lo st E I J t Ps hop hps hw ad H locs ls cells slots h1 h2 hl hP hD hS hc hs
  obtain ⟨hx, hb, hml, hr, hown, hts, hlk, hnm, ⟨hf, hlo, hrc, hrs⟩, ⟨hK, hAO⟩, hA, hX⟩ := C
  unfold o_ald at hop
  split at hop
  · rename_i x hst
    cases hop
    exact lv_aload hx hb hdg (aL_at hl hst) (hw ad H locs ls cells slots h1 h2 hl hP hD hS hc hs)
  · cases hop
def o_ist (i : Nat) : aOp := fun _ s => match s.2.1 with
  | .int x :: r => if aOk1 s.1 i = true ∧ i < s.1.length then some ((s.1.set i (some (.int x)), r, s.2.2), []) else none
  | _ => none
theorem ok_istore_n {γ : aM} {pc : Nat} {k : Fin 4} {i : Nat} (hi : (k : Nat) = i) (hdg : decode γ.2.1 pc = .ok (.istore_n k, 1)) : OpOK γ pc (o_ist i) (pc + 1) := by
  intro d mc ms al p l e R s m args below meth c Q D cA A ad0 n0 C lo st E I J t Ps hop hps hw ad H locs ls cells slots h1 h2 hl hP hD hS hc hs
  obtain ⟨hx, hb, hml, hr, hown, hts, hlk, hnm, ⟨hf, hlo, hrc, hrs⟩, ⟨hK, hAO⟩, hA, hX⟩ := C
  unfold o_ist at hop
  split at hop
  · rename_i x r hst
    have hst : st = _ := hst
    subst hst
    split at hop
    · rename_i hq
      cases hop
      have hq : aOk1 lo i = true ∧ i < lo.length := hq
      exact lv_istore_n hx hb hdg hi hl.2 (by rw [← hl.1]; exact hq.2) rfl (fun ls' h' => hw ad H locs ls' cells slots h1 h2 (aL_st1 (v := .int x) hl hq.1 h') hP hD hS hc hs)
    · cases hop
  · cases hop
theorem ok_istore {γ : aM} {pc : Nat} {i : Nat} (hdg : decode γ.2.1 pc = .ok (.istore i, 2)) : OpOK γ pc (o_ist i) (pc + 2) := by
  intro d mc ms al p l e R s m args below meth c Q D cA A ad0 n0 C lo st E I J t Ps hop hps hw ad H locs ls cells slots h1 h2 hl hP hD hS hc hs
  obtain ⟨hx, hb, hml, hr, hown, hts, hlk, hnm, ⟨hf, hlo, hrc, hrs⟩, ⟨hK, hAO⟩, hA, hX⟩ := C
  unfold o_ist at hop
  split at hop
  · rename_i x r hst
    have hst : st = _ := hst
    subst hst
    split at hop
    · rename_i hq
      cases hop
      have hq : aOk1 lo i = true ∧ i < lo.length := hq
      exact lv_istore hx hb hdg hl.2 (by rw [← hl.1]; exact hq.2) rfl (fun ls' h' => hw ad H locs ls' cells slots h1 h2 (aL_st1 (v := .int x) hl hq.1 h') hP hD hS hc hs)
    · cases hop
  · cases hop
def o_lst (i : Nat) : aOp := fun _ s => match s.2.1 with
  | .long x :: r => if aOk1 s.1 i = true ∧ i + 1 < s.1.length then some (((s.1.set i (some (.long x))).set (i + 1) none, r, s.2.2), []) else none
  | _ => none
theorem ok_lstore_n {γ : aM} {pc : Nat} {k : Fin 4} {i : Nat} (hi : (k : Nat) = i) (hdg : decode γ.2.1 pc = .ok (.lstore_n k, 1)) : OpOK γ pc (o_lst i) (pc + 1) := by
  intro d mc ms al p l e R s m args below meth c Q D cA A ad0 n0 C lo st E I J t Ps hop hps hw ad H locs ls cells slots h1 h2 hl hP hD hS hc hs
  obtain ⟨hx, hb, hml, hr, hown, hts, hlk, hnm, ⟨hf, hlo, hrc, hrs⟩, ⟨hK, hAO⟩, hA, hX⟩ := C
  unfold o_lst at hop
  split at hop
  · rename_i x r hst
    have hst : st = _ := hst
    subst hst
    split at hop
    · rename_i hq
      cases hop
      have hq : aOk1 lo i = true ∧ i + 1 < lo.length := hq
      exact lv_lstore_n hx hb hdg hi hl.2 (by rw [← hl.1]; exact hq.2) rfl (fun ls' h' => hw ad H locs ls' cells slots h1 h2 (aL_st2 (v := .long x) hl hq.1 h') hP hD hS hc hs)
    · cases hop
  · cases hop
theorem ok_lstore {γ : aM} {pc : Nat} {i : Nat} (hdg : decode γ.2.1 pc = .ok (.lstore i, 2)) : OpOK γ pc (o_lst i) (pc + 2) := by
  intro d mc ms al p l e R s m args below meth c Q D cA A ad0 n0 C lo st E I J t Ps hop hps hw ad H locs ls cells slots h1 h2 hl hP hD hS hc hs
  obtain ⟨hx, hb, hml, hr, hown, hts, hlk, hnm, ⟨hf, hlo, hrc, hrs⟩, ⟨hK, hAO⟩, hA, hX⟩ := C
  unfold o_lst at hop
  split at hop
  · rename_i x r hst
    have hst : st = _ := hst
    subst hst
    split at hop
    · rename_i hq
      cases hop
      have hq : aOk1 lo i = true ∧ i + 1 < lo.length := hq
      exact lv_lstore hx hb hdg hl.2 (by rw [← hl.1]; exact hq.2) rfl (fun ls' h' => hw ad H locs ls' cells slots h1 h2 (aL_st2 (v := .long x) hl hq.1 h') hP hD hS hc hs)
    · cases hop
  · cases hop
def o_ast (i : Nat) : aOp := fun _ s => match s.2.1 with
  | .ref x :: r => if aOk1 s.1 i = true ∧ i < s.1.length then some ((s.1.set i (some (.ref x)), r, s.2.2), []) else none
  | _ => none
theorem ok_astore_n {γ : aM} {pc : Nat} {k : Fin 4} {i : Nat} (hi : (k : Nat) = i) (hdg : decode γ.2.1 pc = .ok (.astore_n k, 1)) : OpOK γ pc (o_ast i) (pc + 1) := by
  intro d mc ms al p l e R s m args below meth c Q D cA A ad0 n0 C lo st E I J t Ps hop hps hw ad H locs ls cells slots h1 h2 hl hP hD hS hc hs
  obtain ⟨hx, hb, hml, hr, hown, hts, hlk, hnm, ⟨hf, hlo, hrc, hrs⟩, ⟨hK, hAO⟩, hA, hX⟩ := C
  unfold o_ast at hop
  split at hop
  · rename_i x r hst
    have hst : st = _ := hst
    subst hst
    split at hop
    · rename_i hq
      cases hop
      have hq : aOk1 lo i = true ∧ i < lo.length := hq
      exact lv_astore_n hx hb hdg hi hl.2 (by rw [← hl.1]; exact hq.2) rfl (fun ls' h' => hw ad H locs ls' cells slots h1 h2 (aL_st1 (v := .ref x) hl hq.1 h') hP hD hS hc hs)
    · cases hop
  · cases hop
theorem ok_astore {γ : aM} {pc : Nat} {i : Nat} (hdg : decode γ.2.1 pc = .ok (.astore i, 2)) : OpOK γ pc (o_ast i) (pc + 2) := by
  intro d mc ms al p l e R s m args below meth c Q D cA A ad0 n0 C lo st E I J t Ps hop hps hw ad H locs ls cells slots h1 h2 hl hP hD hS hc hs
  obtain ⟨hx, hb, hml, hr, hown, hts, hlk, hnm, ⟨hf, hlo, hrc, hrs⟩, ⟨hK, hAO⟩, hA, hX⟩ := C
  unfold o_ast at hop
  split at hop
  · rename_i x r hst
    have hst : st = _ := hst
    subst hst
    split at hop
    · rename_i hq
      cases hop
      have hq : aOk1 lo i = true ∧ i < lo.length := hq
      exact lv_astore hx hb hdg hl.2 (by rw [← hl.1]; exact hq.2) rfl (fun ls' h' => hw ad H locs ls' cells slots h1 h2 (aL_st1 (v := .ref x) hl hq.1 h') hP hD hS hc hs)
    · cases hop
  · cases hop
def o_iinc (i : Nat) (n : Int32) : aOp := fun _ s => match s.1[i]? with
  | some (some (.int x)) => if aOk1 s.1 i = true ∧ i < s.1.length then some ((s.1.set i (some (.int (x + n))), s.2), []) else none
  | _ => none
theorem ok_iinc {γ : aM} {pc i : Nat} {z : Int} {n : Int32} (hdg : decode γ.2.1 pc = .ok (.iinc i z, 3)) (hz : Int32.ofInt z = n) : OpOK γ pc (o_iinc i n) (pc + 3) := by
  intro d mc ms al p l e R s m args below meth c Q D cA A ad0 n0 C lo st E I J t Ps hop hps hw ad H locs ls cells slots h1 h2 hl hP hD hS hc hs
  obtain ⟨hx, hb, hml, hr, hown, hts, hlk, hnm, ⟨hf, hlo, hrc, hrs⟩, ⟨hK, hAO⟩, hA, hX⟩ := C
  unfold o_iinc at hop
  split at hop
  · rename_i x hst
    split at hop
    · rename_i hq
      cases hop
      have hq : aOk1 lo i = true ∧ i < lo.length := hq
      obtain ⟨k, hk⟩ := List.getElem?_of_mem (aLs_mem (ad := ad) (q := (i, .int x)).mpr ⟨.int x, hst, rfl⟩)
      exact lv_iinc hx hb hdg hl.2 hk (by rw [hz]) (by rw [← hl.1]; exact hq.2) rfl (fun ls' h' => hw ad H locs ls' cells slots h1 h2 (aL_st1 (v := .int (x + n)) hl hq.1 h') hP hD hS hc hs)
    · cases hop
  · cases hop
/-! fields -/
abbrev aO (E : aE) (a ci : Nat) : Prop := aIs E a ∧ E.2.1 a = (0, ci)
def fOK (own : String) (idx ci k : Nat) (ty : FieldType) (fin : Bool) : Prop := ∃ (C : String) (T : u_T) (N : Nat) (ty0 : Nat → FieldType), vwCl[ci]? = some (C, T, N) ∧ (∀ w ∈ u_ws C T N, w ∈ lw_tbg) ∧ (∀ k, k < N → parseFieldDescriptor (T k).2.2.1 = some (ty0 k)) ∧ (∀ a, a < N → ∀ b, b < N → a ≠ b → (T a).2.1 ≠ (T b).2.1) ∧ k < N ∧ Cond.fieldLink own idx (T k).1 (T k).2.1 (T k).2.2.1 ∈ lw_tbg ∧ ty0 k = ty ∧ (aKd ci).length = N ∧ (T k).2.2.2 = fin
def o_getI (ci k : Nat) : aOp := fun E s => match s.2.1 with
  | .ref a :: r => some ((s.1, .int (s.2.2.1 a k) :: r, s.2.2), [aO E a ci])
  | _ => none
theorem ok_getI {γ : aM} {pc idx ci k : Nat} {ty : FieldType} {fin : Bool} (hf0 : fOK γ.1.cls idx ci k ty fin) (hk : (aKd ci).getD k true = true) (hdg : decode γ.2.1 pc = .ok (.getfield idx, 3)) : OpOK γ pc (o_getI ci k) (pc + 3) := by
  intro d mc ms al p l e R s m args below meth c Q D cA A ad0 n0 C lo st E I J t Ps hop hps hw ad H locs ls cells slots h1 h2 hl hP hD hS hc hs
  obtain ⟨hx, hb, hml, hr, hown, hts, hlk, hnm, ⟨hf, hlo, hrc, hrs⟩, ⟨hK, hAO⟩, hA, hX⟩ := C
  unfold o_getI at hop
  split at hop
  · rename_i a r hst
    have hst : st = _ := hst
    subst hst
    cases hop
    obtain ⟨C, T, N, ty0, q1, q2, q3, q4, q5, q6, q7, q8, q9⟩ := hf0
    have he := aWs_at (cA := cA) (ad := ad) (I := I) (J := J) hps.1
    rw [aEnt_o hps.2] at he
    have hv := aFs_at (ad := ad) (E := E) (I := I) (a := a) (ks := aKd ci) (k := k) (by rw [q8]; exact q5)
    rw [if_pos hk] at hv
    exact va_get hx hb hts q2 hown hK hP (a - 1) he q1 k q5 (hts _ q6) (fun _ h => h) hv hdg (hw ad H locs ls cells slots h1 h2 hl hP hD hS hc hs)
  · cases hop
def o_getR (ci k : Nat) : aOp := fun E s => match s.2.1 with
  | .ref a :: r => some ((s.1, .ref (E.2.2 a k) :: r, s.2.2), [aO E a ci ∧ E.2.2 a k ≠ 0])
  | _ => none
theorem ok_getR {γ : aM} {pc idx ci k : Nat} {ty : FieldType} {fin : Bool} (hf0 : fOK γ.1.cls idx ci k ty fin) (hk : (aKd ci).getD k true = false) (hdg : decode γ.2.1 pc = .ok (.getfield idx, 3)) : OpOK γ pc (o_getR ci k) (pc + 3) := by
  intro d mc ms al p l e R s m args below meth c Q D cA A ad0 n0 C lo st E I J t Ps hop hps hw ad H locs ls cells slots h1 h2 hl hP hD hS hc hs
  obtain ⟨hx, hb, hml, hr, hown, hts, hlk, hnm, ⟨hf, hlo, hrc, hrs⟩, ⟨hK, hAO⟩, hA, hX⟩ := C
  unfold o_getR at hop
  split at hop
  · rename_i a r hst
    have hst : st = _ := hst
    subst hst
    cases hop
    obtain ⟨C, T, N, ty0, q1, q2, q3, q4, q5, q6, q7, q8, q9⟩ := hf0
    have he := aWs_at (cA := cA) (ad := ad) (I := I) (J := J) hps.1.1
    rw [aEnt_o hps.1.2] at he
    have hv := aFs_at (ad := ad) (E := E) (I := I) (a := a) (ks := aKd ci) (k := k) (by rw [q8]; exact q5)
    rw [hk, if_neg (by decide)] at hv
    unfold aRef at hv
    rw [if_neg hps.2] at hv
    exact va_get hx hb hts q2 hown hK hP (a - 1) he q1 k q5 (hts _ q6) (fun _ h => h) hv hdg (hw ad H locs ls cells slots h1 h2 hl hP hD hS hc hs)
  · cases hop
theorem aFs_set {ad : Nat → Nat} {E : aE} {I : aI} {a k : Nat} {ks : List Bool} {v : Int32} (hk : ks.getD k true = true) : (aFs ad E I a ks).set k (.int v) = aFs ad E (aUp I a k v) a ks := by
  apply List.ext_getElem?
  intro j
  by_cases hj : j < ks.length
  · rw [aFs_at hj]
    by_cases e : k = j
    · subst e
      rw [List.getElem?_set_self (by rw [aFs_len]; exact hj), if_pos hk]
      simp [aUp]
    · rw [List.getElem?_set_ne e, aFs_at hj]
      have : aUp I a k v a j = I a j := by unfold aUp; rw [if_neg (fun q => e q.2.symm)]
      rw [this]
  · rw [List.getElem?_eq_none (by rw [List.length_set, aFs_len]; omega), List.getElem?_eq_none (by rw [aFs_len]; omega)]
theorem aUp_ne {I : aI} {a k b : Nat} {v : Int32} (h : b ≠ a) : aUp I a k v b = I b := by
  funext j
  unfold aUp
  rw [if_neg (fun q => h q.1)]
theorem aUpJ_ne {J : aJ} {a k b : Nat} {v : Int64} (h : b ≠ a) : aUpJ J a k v b = J b := by
  funext j
  unfold aUpJ
  rw [if_neg (fun q => h q.1)]
theorem aRw_ne {I : aI} {a b : Nat} {f : Nat → Int32} (h : b ≠ a) : aRw I a f b = I b := by
  funext j
  unfold aRw
  rw [if_neg h]
theorem aRwJ_ne {J : aJ} {a b : Nat} {f : Nat → Int64} (h : b ≠ a) : aRwJ J a f b = J b := by
  funext j
  unfold aRwJ
  rw [if_neg h]
theorem aUp_at {I : aI} {a k : Nat} {v : Int32} : aUp I a k v a = upd (I a) k v := by
  funext j
  simp [aUp, upd]
theorem aUpJ_at {J : aJ} {a k : Nat} {v : Int64} : aUpJ J a k v a = vp_updL (J a) k v := by
  funext j
  simp [aUpJ, vp_updL]
theorem aRw_at {I : aI} {a : Nat} {f : Nat → Int32} : aRw I a f a = f := by
  funext j
  simp [aRw]
theorem aRwJ_at {J : aJ} {a : Nat} {f : Nat → Int64} : aRwJ J a f a = f := by
  funext j
  simp [aRwJ]
def o_putI (ci k : Nat) : aOp := fun E s => match s.2.1 with
  | .int v :: .ref a :: r => some ((s.1, r, aUp s.2.2.1 a k v, s.2.2.2), [aO E a ci])
  | _ => none
def o_putZ (ci k : Nat) : aOp := fun E s => match s.2.1 with
  | .int v :: .ref a :: r => some ((s.1, r, aUp s.2.2.1 a k v, s.2.2.2), [aO E a ci ∧ (v = 0 ∨ v = 1)])
  | _ => none
theorem ok_putI {γ : aM} {pc idx ci k : Nat} (hf0 : fOK γ.1.cls idx ci k .int false) (hk : (aKd ci).getD k true = true) (hdg : decode γ.2.1 pc = .ok (.putfield idx, 3)) : OpOK γ pc (o_putI ci k) (pc + 3) := by
  intro d mc ms al p l e R s m args below meth c Q D cA A ad0 n0 C lo st E I J t Ps hop hps hw ad H locs ls cells slots h1 h2 hl hP hD hS hc hs
  obtain ⟨hx, hb, hml, hr, hown, hts, hlk, hnm, ⟨hf, hlo, hrc, hrs⟩, ⟨hK, hAO⟩, hA, hX⟩ := C
  unfold o_putI at hop
  split at hop
  · rename_i v a r hst
    have hst : st = _ := hst
    subst hst
    cases hop
    obtain ⟨C, T, N, ty0, q1, q2, q3, q4, q5, q6, q7, q8, q9⟩ := hf0
    have he := aWs_at (cA := cA) (ad := ad) (I := I) (J := J) hps.1
    rw [aEnt_o hps.2] at he
    refine va_put (ty := .int) (v := .int v) hx hb hts q2 ty0 q3 q4 hown hK hP hD hS (a - 1) he q1 k q5 (hts _ q6) (fun _ h => h) q9 (by rw [q3 k q5, q7]) rfl rfl (by rw [aFs_len, q8]; exact q5) hdg (fun H1 locs1 hP1 hD1 hS1 => ?_)
    rw [aFs_set hk, aWs_set (E' := E) (I' := aUp I a k v) (J' := J) rfl (aEnt_o hps.2) (fun b hb => aEnt_eq rfl (fun _ => rfl) (aUp_ne hb) rfl) hps.1] at hP1 hD1
    exact hw ad H1 locs1 ls cells slots h1 h2 hl hP1 hD1 hS1 hc hs
  · cases hop
theorem ok_putZ {γ : aM} {pc idx ci k : Nat} (hf0 : fOK γ.1.cls idx ci k .boolean false) (hk : (aKd ci).getD k true = true) (hdg : decode γ.2.1 pc = .ok (.putfield idx, 3)) : OpOK γ pc (o_putZ ci k) (pc + 3) := by
  intro d mc ms al p l e R s m args below meth c Q D cA A ad0 n0 C lo st E I J t Ps hop hps hw ad H locs ls cells slots h1 h2 hl hP hD hS hc hs
  obtain ⟨hx, hb, hml, hr, hown, hts, hlk, hnm, ⟨hf, hlo, hrc, hrs⟩, ⟨hK, hAO⟩, hA, hX⟩ := C
  unfold o_putZ at hop
  split at hop
  · rename_i v a r hst
    have hst : st = _ := hst
    subst hst
    cases hop
    obtain ⟨C, T, N, ty0, q1, q2, q3, q4, q5, q6, q7, q8, q9⟩ := hf0
    have he := aWs_at (cA := cA) (ad := ad) (I := I) (J := J) hps.1.1
    rw [aEnt_o hps.1.2] at he
    refine va_put (ty := .boolean) (v := .int v) hx hb hts q2 ty0 q3 q4 hown hK hP hD hS (a - 1) he q1 k q5 (hts _ q6) (fun _ h => h) q9 (by rw [q3 k q5, q7]) (by rcases hps.2 with rfl | rfl <;> rfl) (by rcases hps.2 with rfl | rfl <;> rfl) (by rw [aFs_len, q8]; exact q5) hdg (fun H1 locs1 hP1 hD1 hS1 => ?_)
    rw [aFs_set hk, aWs_set (E' := E) (I' := aUp I a k v) (J' := J) rfl (aEnt_o hps.1.2) (fun b hb => aEnt_eq rfl (fun _ => rfl) (aUp_ne hb) rfl) hps.1.1] at hP1 hD1
    exact hw ad H1 locs1 ls cells slots h1 h2 hl hP1 hD1 hS1 hc hs
  · cases hop
/-! arrays -/
abbrev aAr (E : aE) (k a : Nat) (i : Int32) : Prop := aIs E a ∧ (E.2.1 a).1 = k ∧ vp_in i (E.2.1 a).2
abbrev aCp (E : aE) (k a0 a : Nat) (sp dp n : Int32) : Prop := aIs E a0 ∧ aIs E a ∧ (E.2.1 a0).1 = k ∧ (E.2.1 a).1 = k ∧ (¬ sp < 0 ∧ ¬ dp < 0 ∧ ¬ n < 0) ∧ sp.toNatClampNeg + n.toNatClampNeg ≤ (E.2.1 a0).2 ∧ dp.toNatClampNeg + n.toNatClampNeg ≤ (E.2.1 a).2
def o_iald : aOp := fun E s => match s.2.1 with
  | .int i :: .ref a :: r => some ((s.1, .int (s.2.2.1 a i.toNatClampNeg) :: r, s.2.2), [aAr E 1 a i])
  | _ => none
theorem ok_iaload {γ : aM} {pc : Nat} (hdg : decode γ.2.1 pc = .ok (.iaload, 1)) : OpOK γ pc o_iald (pc + 1) := by
  intro d mc ms al p l e R s m args below meth c Q D cA A ad0 n0 C lo st E I J t Ps hop hps hw ad H locs ls cells slots h1 h2 hl hP hD hS hc hs
  obtain ⟨hx, hb, hml, hr, hown, hts, hlk, hnm, ⟨hf, hlo, hrc, hrs⟩, ⟨hK, hAO⟩, hA, hX⟩ := C
  unfold o_iald at hop
  split at hop
  · rename_i i a r hst
    have hst : st = _ := hst
    subst hst
    cases hop
    have he := aWs_at (cA := cA) (ad := ad) (I := I) (J := J) hps.1
    rw [aEnt_1 hps.2.1] at he
    exact va_iald hx hb hK hP (a - 1) 0 he rfl hps.2.2 hdg (hw ad H locs ls cells slots h1 h2 hl hP hD hS hc hs)
  · cases hop
def o_lald : aOp := fun E s => match s.2.1 with
  | .int i :: .ref a :: r => some ((s.1, .long (s.2.2.2 a i.toNatClampNeg) :: r, s.2.2), [aAr E 2 a i])
  | _ => none
theorem ok_laload {γ : aM} {pc : Nat} (hdg : decode γ.2.1 pc = .ok (.laload, 1)) : OpOK γ pc o_lald (pc + 1) := by
  intro d mc ms al p l e R s m args below meth c Q D cA A ad0 n0 C lo st E I J t Ps hop hps hw ad H locs ls cells slots h1 h2 hl hP hD hS hc hs
  obtain ⟨hx, hb, hml, hr, hown, hts, hlk, hnm, ⟨hf, hlo, hrc, hrs⟩, ⟨hK, hAO⟩, hA, hX⟩ := C
  unfold o_lald at hop
  split at hop
  · rename_i i a r hst
    have hst : st = _ := hst
    subst hst
    cases hop
    have he := aWs_at (cA := cA) (ad := ad) (I := I) (J := J) hps.1
    rw [aEnt_2 hps.2.1] at he
    exact va_lald hx hb hK hP (a - 1) 1 he rfl hps.2.2 hdg (hw ad H locs ls cells slots h1 h2 hl hP hD hS hc hs)
  · cases hop
def o_zald : aOp := fun E s => match s.2.1 with
  | .int i :: .ref a :: r => some ((s.1, .int (s.2.2.1 a i.toNatClampNeg) :: r, s.2.2), [aAr E 3 a i])
  | _ => none
theorem ok_baload {γ : aM} {pc : Nat} (hdg : decode γ.2.1 pc = .ok (.baload, 1)) : OpOK γ pc o_zald (pc + 1) := by
  intro d mc ms al p l e R s m args below meth c Q D cA A ad0 n0 C lo st E I J t Ps hop hps hw ad H locs ls cells slots h1 h2 hl hP hD hS hc hs
  obtain ⟨hx, hb, hml, hr, hown, hts, hlk, hnm, ⟨hf, hlo, hrc, hrs⟩, ⟨hK, hAO⟩, hA, hX⟩ := C
  unfold o_zald at hop
  split at hop
  · rename_i i a r hst
    have hst : st = _ := hst
    subst hst
    cases hop
    have he := aWs_at (cA := cA) (ad := ad) (I := I) (J := J) hps.1
    rw [aEnt_3 hps.2.1] at he
    exact va_zald hx hb hK hP (a - 1) 2 he rfl hps.2.2 hdg (hw ad H locs ls cells slots h1 h2 hl hP hD hS hc hs)
  · cases hop
def o_iast : aOp := fun E s => match s.2.1 with
  | .int v :: .int i :: .ref a :: r => some ((s.1, r, aUp s.2.2.1 a i.toNatClampNeg v, s.2.2.2), [aAr E 1 a i])
  | _ => none
theorem ok_iastore {γ : aM} {pc : Nat} (hdg : decode γ.2.1 pc = .ok (.iastore, 1)) : OpOK γ pc o_iast (pc + 1) := by
  intro d mc ms al p l e R s m args below meth c Q D cA A ad0 n0 C lo st E I J t Ps hop hps hw ad H locs ls cells slots h1 h2 hl hP hD hS hc hs
  obtain ⟨hx, hb, hml, hr, hown, hts, hlk, hnm, ⟨hf, hlo, hrc, hrs⟩, ⟨hK, hAO⟩, hA, hX⟩ := C
  unfold o_iast at hop
  split at hop
  · rename_i v i a r hst
    have hst : st = _ := hst
    subst hst
    cases hop
    have he := aWs_at (cA := cA) (ad := ad) (I := I) (J := J) hps.1
    rw [aEnt_1 hps.2.1] at he
    refine va_iast hx hb hK hP hD hS (a - 1) 0 he rfl hps.2.2 hdg (fun H1 locs1 hP1 hD1 hS1 => ?_)
    rw [← aUp_at, aWs_set (E' := E) (I' := aUp I a i.toNatClampNeg v) (J' := J) rfl (aEnt_1 hps.2.1) (fun b hb => aEnt_eq rfl (fun _ => rfl) (aUp_ne hb) rfl) hps.1] at hP1 hD1
    exact hw ad H1 locs1 ls cells slots h1 h2 hl hP1 hD1 hS1 hc hs
  · cases hop
def o_last : aOp := fun E s => match s.2.1 with
  | .long v :: .int i :: .ref a :: r => some ((s.1, r, s.2.2.1, aUpJ s.2.2.2 a i.toNatClampNeg v), [aAr E 2 a i])
  | _ => none
theorem ok_lastore {γ : aM} {pc : Nat} (hdg : decode γ.2.1 pc = .ok (.lastore, 1)) : OpOK γ pc o_last (pc + 1) := by
  intro d mc ms al p l e R s m args below meth c Q D cA A ad0 n0 C lo st E I J t Ps hop hps hw ad H locs ls cells slots h1 h2 hl hP hD hS hc hs
  obtain ⟨hx, hb, hml, hr, hown, hts, hlk, hnm, ⟨hf, hlo, hrc, hrs⟩, ⟨hK, hAO⟩, hA, hX⟩ := C
  unfold o_last at hop
  split at hop
  · rename_i v i a r hst
    have hst : st = _ := hst
    subst hst
    cases hop
    have he := aWs_at (cA := cA) (ad := ad) (I := I) (J := J) hps.1
    rw [aEnt_2 hps.2.1] at he
    refine va_last hx hb hK hP hD hS (a - 1) 1 he rfl hps.2.2 hdg (fun H1 locs1 hP1 hD1 hS1 => ?_)
    rw [← aUpJ_at, aWs_set (E' := E) (I' := I) (J' := aUpJ J a i.toNatClampNeg v) rfl (aEnt_2 hps.2.1) (fun b hb => aEnt_eq rfl (fun _ => rfl) rfl (aUpJ_ne hb)) hps.1] at hP1 hD1
    exact hw ad H1 locs1 ls cells slots h1 h2 hl hP1 hD1 hS1 hc hs
  · cases hop
def o_zast : aOp := fun E s => match s.2.1 with
  | .int v :: .int i :: .ref a :: r => some ((s.1, r, aUp s.2.2.1 a i.toNatClampNeg v, s.2.2.2), [aAr E 3 a i ∧ (v = 0 ∨ v = 1)])
  | _ => none
theorem ok_bastore {γ : aM} {pc : Nat} (hdg : decode γ.2.1 pc = .ok (.bastore, 1)) : OpOK γ pc o_zast (pc + 1) := by
  intro d mc ms al p l e R s m args below meth c Q D cA A ad0 n0 C lo st E I J t Ps hop hps hw ad H locs ls cells slots h1 h2 hl hP hD hS hc hs
  obtain ⟨hx, hb, hml, hr, hown, hts, hlk, hnm, ⟨hf, hlo, hrc, hrs⟩, ⟨hK, hAO⟩, hA, hX⟩ := C
  unfold o_zast at hop
  split at hop
  · rename_i v i a r hst
    have hst : st = _ := hst
    subst hst
    cases hop
    have he := aWs_at (cA := cA) (ad := ad) (I := I) (J := J) hps.1.1
    rw [aEnt_3 hps.1.2.1] at he
    refine va_zast hx hb hK hP hD hS (a - 1) 2 he rfl hps.1.2.2 hdg (fun H1 locs1 hP1 hD1 hS1 => ?_)
    have hz : vp_nar .boolean v = v := by rcases hps.2 with rfl | rfl <;> rfl
    rw [hz] at hP1 hD1
    rw [← aUp_at, aWs_set (E' := E) (I' := aUp I a i.toNatClampNeg v) (J' := J) rfl (aEnt_3 hps.1.2.1) (fun b hb => aEnt_eq rfl (fun _ => rfl) (aUp_ne hb) rfl) hps.1.1] at hP1 hD1
    exact hw ad H1 locs1 ls cells slots h1 h2 hl hP1 hD1 hS1 hc hs
  · cases hop
def o_aald4 : aOp := fun E s => match s.2.1 with
  | .int i :: .ref a :: r => some ((s.1, .ref (E.2.2 a i.toNatClampNeg) :: r, s.2.2), [aAr E 4 a i ∧ E.2.2 a i.toNatClampNeg ≠ 0])
  | _ => none
theorem ok_aald4 {γ : aM} {pc : Nat} (hdg : decode γ.2.1 pc = .ok (.aaload, 1)) : OpOK γ pc o_aald4 (pc + 1) := by
  intro d mc ms al p l e R s m args below meth c Q D cA A ad0 n0 C lo st E I J t Ps hop hps hw ad H locs ls cells slots h1 h2 hl hP hD hS hc hs
  obtain ⟨hx, hb, hml, hr, hown, hts, hlk, hnm, ⟨hf, hlo, hrc, hrs⟩, ⟨hK, hAO⟩, hA, hX⟩ := C
  unfold o_aald4 at hop
  split at hop
  · rename_i i a r hst
    have hst : st = _ := hst
    subst hst
    cases hop
    have he := aWs_at (cA := cA) (ad := ad) (I := I) (J := J) hps.1.1
    rw [aEnt_4 hps.1.2.1] at he
    have hlt : i.toNatClampNeg < (E.2.1 a).2 := Nat.not_le.mp fun q => hps.1.2.2 (Or.inr q)
    have hcell := hP (a - 1) _ he
    have hrf : va_rf (aRef ad (E.2.2 a i.toNatClampNeg)) = .ref (ad (E.2.2 a i.toNatClampNeg)) := by
      unfold aRef
      rw [if_neg hps.2]
      rfl
    exact W.aald (v := .ref (ad (E.2.2 a i.toNatClampNeg))) (ty := .object "MarkovChainDistances$Chain") hx hb hcell ((hK.2 3 _ rfl).1 _ (fun j => va_rf (aRef ad (E.2.2 a j)))) rfl (fun q => by cases q) (by show ¬ (i < 0 ∨ (arrV _ _ _).slots.size ≤ _); rw [arrV_size]; exact hps.1.2.2) (by show (arrV _ _ _).slots[_]? = _; rw [arrV_read _ _ hlt, hrf]) rfl rfl hdg (hw ad H locs ls cells slots h1 h2 hl hP hD hS hc hs)
  · cases hop
def o_aald5 : aOp := fun E s => match s.2.1 with
  | .int i :: .ref a :: r => some ((s.1, .ref (E.2.2 a i.toNatClampNeg) :: r, s.2.2), [aAr E 5 a i ∧ E.2.2 a i.toNatClampNeg ≠ 0])
  | _ => none
theorem ok_aald5 {γ : aM} {pc : Nat} (hdg : decode γ.2.1 pc = .ok (.aaload, 1)) : OpOK γ pc o_aald5 (pc + 1) := by
  intro d mc ms al p l e R s m args below meth c Q D cA A ad0 n0 C lo st E I J t Ps hop hps hw ad H locs ls cells slots h1 h2 hl hP hD hS hc hs
  obtain ⟨hx, hb, hml, hr, hown, hts, hlk, hnm, ⟨hf, hlo, hrc, hrs⟩, ⟨hK, hAO⟩, hA, hX⟩ := C
  unfold o_aald5 at hop
  split at hop
  · rename_i i a r hst
    have hst : st = _ := hst
    subst hst
    cases hop
    have he := aWs_at (cA := cA) (ad := ad) (I := I) (J := J) hps.1.1
    rw [aEnt_5 hps.1.2.1] at he
    have hlt : i.toNatClampNeg < (E.2.1 a).2 := Nat.not_le.mp fun q => hps.1.2.2 (Or.inr q)
    have hcell := hP (a - 1) _ he
    have hrf : va_rf (aRef ad (E.2.2 a i.toNatClampNeg)) = .ref (ad (E.2.2 a i.toNatClampNeg)) := by
      unfold aRef
      rw [if_neg hps.2]
      rfl
    exact W.aald (v := .ref (ad (E.2.2 a i.toNatClampNeg))) (ty := .array .long) hx hb hcell ((hK.2 4 _ rfl).1 _ (fun j => va_rf (aRef ad (E.2.2 a j)))) rfl (fun q => by cases q) (by show ¬ (i < 0 ∨ (arrV _ _ _).slots.size ≤ _); rw [arrV_size]; exact hps.1.2.2) (by show (arrV _ _ _).slots[_]? = _; rw [arrV_read _ _ hlt, hrf]) rfl rfl hdg (hw ad H locs ls cells slots h1 h2 hl hP hD hS hc hs)
  · cases hop
def o_cpI : aOp := fun E s => match s.2.1 with
  | .int n :: .int dp :: .ref a :: .int sp :: .ref a0 :: r => if aSm r ≤ 8 then some ((s.1, r, aRw s.2.2.1 a (va_cpy (s.2.2.1 a0) (s.2.2.1 a) sp.toNatClampNeg dp.toNatClampNeg n.toNatClampNeg), s.2.2.2), [aCp E 1 a0 a sp dp n]) else none
  | _ => none
theorem ok_cpI {γ : aM} {pc idx : Nat} (hw1 : Cond.methodLink γ.1.cls idx arraycopyName ∈ lw_tbg) (hw2 : Cond.native arraycopyName ∈ lw_tbg) (hw3 : Cond.static arraycopyName ∈ lw_tbg) (hw4 : Cond.initialized "java/lang/System" ∈ lw_tbg) (hdg : decode γ.2.1 pc = .ok (.invokestatic idx, 3)) : OpOK γ pc o_cpI (pc + 3) := by
  intro d mc ms al p l e R s m args below meth c Q D cA A ad0 n0 C lo st E I J t Ps hop hps hw ad H locs ls cells slots h1 h2 hl hP hD hS hc hs
  obtain ⟨hx, hb, hml, hr, hown, hts, hlk, hnm, ⟨hf, hlo, hrc, hrs⟩, ⟨hK, hAO⟩, hA, hX⟩ := C
  unfold o_cpI at hop
  split at hop
  · rename_i n dp a sp a0 r hst
    have hst : st = _ := hst
    subst hst
    split at hop
    · rename_i hr8
      cases hop
      obtain ⟨b1, b2, b3, b4, ⟨b5, b6, b7⟩, b8, b9⟩ := hps
      have he0 := aWs_at (cA := cA) (ad := ad) (I := I) (J := J) b1
      rw [aEnt_1 b3] at he0
      have he := aWs_at (cA := cA) (ad := ad) (I := I) (J := J) b2
      rw [aEnt_1 b4] at he
      have hn : nativeFrameWords "java/lang/System" "arraycopy" 5 = 7 := by decide +kernel
      refine va_copyi (ty := .int) hx hb (hml.trans hl.2.1.symm) hown (hts _ hw1) (hts _ hw2) (hts _ hw3) (hts _ hw4) hK hP hD hS (a0 - 1) (a - 1) 0 0 he0 he rfl rfl rfl b5 b6 b7 b8 b9 (fun _ _ => rfl) (by omega) (by rw [aSm_tv, hn]; omega) hdg (fun H1 locs1 hP1 hD1 hS1 => ?_)
      rw [show (va_cpy (I a0) (I a) sp.toNatClampNeg dp.toNatClampNeg n.toNatClampNeg) = (aRw I a (va_cpy (I a0) (I a) sp.toNatClampNeg dp.toNatClampNeg n.toNatClampNeg)) a from aRw_at.symm, aWs_set (E' := E) (I' := aRw I a (va_cpy (I a0) (I a) sp.toNatClampNeg dp.toNatClampNeg n.toNatClampNeg)) (J' := J) rfl (aEnt_1 b4) (fun b hb => aEnt_eq rfl (fun _ => rfl) (aRw_ne hb) rfl) b2] at hP1 hD1
      exact hw ad H1 locs1 ls cells slots h1 h2 hl hP1 hD1 hS1 hc hs
    · cases hop
  · cases hop
def o_cpJ : aOp := fun E s => match s.2.1 with
  | .int n :: .int dp :: .ref a :: .int sp :: .ref a0 :: r => if aSm r ≤ 8 then some ((s.1, r, s.2.2.1, aRwJ s.2.2.2 a (va_cpy (s.2.2.2 a0) (s.2.2.2 a) sp.toNatClampNeg dp.toNatClampNeg n.toNatClampNeg)), [aCp E 2 a0 a sp dp n]) else none
  | _ => none
theorem ok_cpJ {γ : aM} {pc idx : Nat} (hw1 : Cond.methodLink γ.1.cls idx arraycopyName ∈ lw_tbg) (hw2 : Cond.native arraycopyName ∈ lw_tbg) (hw3 : Cond.static arraycopyName ∈ lw_tbg) (hw4 : Cond.initialized "java/lang/System" ∈ lw_tbg) (hdg : decode γ.2.1 pc = .ok (.invokestatic idx, 3)) : OpOK γ pc o_cpJ (pc + 3) := by
  intro d mc ms al p l e R s m args below meth c Q D cA A ad0 n0 C lo st E I J t Ps hop hps hw ad H locs ls cells slots h1 h2 hl hP hD hS hc hs
  obtain ⟨hx, hb, hml, hr, hown, hts, hlk, hnm, ⟨hf, hlo, hrc, hrs⟩, ⟨hK, hAO⟩, hA, hX⟩ := C
  unfold o_cpJ at hop
  split at hop
  · rename_i n dp a sp a0 r hst
    have hst : st = _ := hst
    subst hst
    split at hop
    · rename_i hr8
      cases hop
      obtain ⟨b1, b2, b3, b4, ⟨b5, b6, b7⟩, b8, b9⟩ := hps
      have he0 := aWs_at (cA := cA) (ad := ad) (I := I) (J := J) b1
      rw [aEnt_2 b3] at he0
      have he := aWs_at (cA := cA) (ad := ad) (I := I) (J := J) b2
      rw [aEnt_2 b4] at he
      have hn : nativeFrameWords "java/lang/System" "arraycopy" 5 = 7 := by decide +kernel
      refine va_copyl (ty := .long) hx hb (hml.trans hl.2.1.symm) hown (hts _ hw1) (hts _ hw2) (hts _ hw3) (hts _ hw4) hK hP hD hS (a0 - 1) (a - 1) 1 1 he0 he rfl rfl rfl b5 b6 b7 b8 b9 (fun _ _ => rfl) (by omega) (by rw [aSm_tv, hn]; omega) hdg (fun H1 locs1 hP1 hD1 hS1 => ?_)
      rw [show (va_cpy (J a0) (J a) sp.toNatClampNeg dp.toNatClampNeg n.toNatClampNeg) = (aRwJ J a (va_cpy (J a0) (J a) sp.toNatClampNeg dp.toNatClampNeg n.toNatClampNeg)) a from aRwJ_at.symm, aWs_set (E' := E) (I' := I) (J' := aRwJ J a (va_cpy (J a0) (J a) sp.toNatClampNeg dp.toNatClampNeg n.toNatClampNeg)) rfl (aEnt_2 b4) (fun b hb => aEnt_eq rfl (fun _ => rfl) rfl (aRwJ_ne hb)) b2] at hP1 hD1
      exact hw ad H1 locs1 ls cells slots h1 h2 hl hP1 hD1 hS1 hc hs
    · cases hop
  · cases hop
/-! the script (address 0) -/
def o_sld (L : Nat) (xs : Nat → Int32) : aOp := fun _ s => match s.2.1 with
  | .int i :: .ref 0 :: r => some ((s.1, .int (xs i.toNatClampNeg) :: r, s.2.2), [vp_in i L])
  | _ => none
theorem ok_sld {γ : aM} {pc L : Nat} {xs : Nat → Int32} (hγ : γ.2.2.2.2 = some (L, xs)) (hdg : decode γ.2.1 pc = .ok (.iaload, 1)) : OpOK γ pc (o_sld L xs) (pc + 1) := by
  intro d mc ms al p l e R s m args below meth c Q D cA A ad0 n0 C lo st E I J t Ps hop hps hw ad H locs ls cells slots h1 h2 hl hP hD hS hc hs
  obtain ⟨hx, hb, hml, hr, hown, hts, hlk, hnm, ⟨hf, hlo, hrc, hrs⟩, ⟨hK, hAO⟩, hA, hX⟩ := C
  unfold o_sld at hop
  split at hop
  · rename_i i r hst
    have hst : st = _ := hst
    subst hst
    cases hop
    obtain ⟨x1, x2, x3⟩ := hX L xs hγ
    have e0 : ad 0 = ad0 0 := h2 0 (Or.inl (Nat.zero_le _))
    show W p l e R s m args below meth c H locs cells slots Q (F0 m pc ls (.int i :: .ref (ad 0) :: r.map (tv ad)))
    rw [e0]
    exact va_sld hx hb x1 x2 x3 hS hps hdg (hw ad H locs ls cells slots h1 h2 hl hP hD hS hc hs)
  · cases hop
def o_slen (L : Nat) : aOp := fun _ s => match s.2.1 with
  | .ref 0 :: r => some ((s.1, .int (Int32.ofNat L) :: r, s.2.2), [])
  | _ => none
theorem ok_slen {γ : aM} {pc L : Nat} {xs : Nat → Int32} (hγ : γ.2.2.2.2 = some (L, xs)) (hdg : decode γ.2.1 pc = .ok (.arraylength, 1)) : OpOK γ pc (o_slen L) (pc + 1) := by
  intro d mc ms al p l e R s m args below meth c Q D cA A ad0 n0 C lo st E I J t Ps hop hps hw ad H locs ls cells slots h1 h2 hl hP hD hS hc hs
  obtain ⟨hx, hb, hml, hr, hown, hts, hlk, hnm, ⟨hf, hlo, hrc, hrs⟩, ⟨hK, hAO⟩, hA, hX⟩ := C
  unfold o_slen at hop
  split at hop
  · rename_i r hst
    have hst : st = _ := hst
    subst hst
    cases hop
    obtain ⟨x1, x2, x3⟩ := hX L xs hγ
    have e0 : ad 0 = ad0 0 := h2 0 (Or.inl (Nat.zero_le _))
    show W p l e R s m args below meth c H locs cells slots Q (F0 m pc ls (.ref (ad 0) :: r.map (tv ad)))
    rw [e0]
    exact va_slen hx hb x1 x2 x3 hS hdg (hw ad H locs ls cells slots h1 h2 hl hP hD hS hc hs)
  · cases hop
end
section
/-! RULES: branches -/
theorem Ex.icmp_eq {γ : aM} {d mc ms n0 : Nat} {al : Nat × Nat} {pc : Nat} {lo : aLo} {E : aE} {I : aI} {J : aJ} {Q : aPost} {x y : Int32} {r : List Value} {off : Int} {tgt : Nat} (hdg : decode γ.2.1 pc = .ok (.if_icmp .eq off, 3)) (ht : (pc : Int) + off = (tgt : Int)) (kt : x = y → Ex γ d mc ms n0 al tgt lo r E I J Q) (kf : ¬ (x = y) → Ex γ d mc ms n0 al (pc + 3) lo r E I J Q) : Ex γ d mc ms n0 al pc lo (.int y :: .int x :: r) E I J Q := by
  intro p l e R s m args below meth c D cA A ad0 C ad H locs ls cells slots h1 h2 hl hP hD hS hc hs
  have C0 := C
  obtain ⟨hx, hb, hml, hrt, hown, hts, hlk, hnm, ⟨hf, hlo, hrc, hrs⟩, ⟨hK, hAO⟩, hA, hX⟩ := C
  exact lv_icmp_eq hx hb hdg ht (fun q => kt q p l e R s m args below meth c D cA A ad0 C0 ad H locs ls cells slots h1 h2 hl hP hD hS hc hs) (fun q => kf q p l e R s m args below meth c D cA A ad0 C0 ad H locs ls cells slots h1 h2 hl hP hD hS hc hs)
theorem Ex.if_eq {γ : aM} {d mc ms n0 : Nat} {al : Nat × Nat} {pc : Nat} {lo : aLo} {E : aE} {I : aI} {J : aJ} {Q : aPost} {x : Int32} {r : List Value} {off : Int} {tgt : Nat} (hdg : decode γ.2.1 pc = .ok (.ifCond .eq off, 3)) (ht : (pc : Int) + off = (tgt : Int)) (kt : x = 0 → Ex γ d mc ms n0 al tgt lo r E I J Q) (kf : ¬ (x = 0) → Ex γ d mc ms n0 al (pc + 3) lo r E I J Q) : Ex γ d mc ms n0 al pc lo (.int x :: r) E I J Q := by
  intro p l e R s m args below meth c D cA A ad0 C ad H locs ls cells slots h1 h2 hl hP hD hS hc hs
  have C0 := C
  obtain ⟨hx, hb, hml, hrt, hown, hts, hlk, hnm, ⟨hf, hlo, hrc, hrs⟩, ⟨hK, hAO⟩, hA, hX⟩ := C
  exact lv_if_eq hx hb hdg ht (fun q => kt q p l e R s m args below meth c D cA A ad0 C0 ad H locs ls cells slots h1 h2 hl hP hD hS hc hs) (fun q => kf q p l e R s m args below meth c D cA A ad0 C0 ad H locs ls cells slots h1 h2 hl hP hD hS hc hs)
theorem Ex.icmp_ne {γ : aM} {d mc ms n0 : Nat} {al : Nat × Nat} {pc : Nat} {lo : aLo} {E : aE} {I : aI} {J : aJ} {Q : aPost} {x y : Int32} {r : List Value} {off : Int} {tgt : Nat} (hdg : decode γ.2.1 pc = .ok (.if_icmp .ne off, 3)) (ht : (pc : Int) + off = (tgt : Int)) (kt : ¬ x = y → Ex γ d mc ms n0 al tgt lo r E I J Q) (kf : x = y → Ex γ d mc ms n0 al (pc + 3) lo r E I J Q) : Ex γ d mc ms n0 al pc lo (.int y :: .int x :: r) E I J Q := by
  intro p l e R s m args below meth c D cA A ad0 C ad H locs ls cells slots h1 h2 hl hP hD hS hc hs
  have C0 := C
  obtain ⟨hx, hb, hml, hrt, hown, hts, hlk, hnm, ⟨hf, hlo, hrc, hrs⟩, ⟨hK, hAO⟩, hA, hX⟩ := C
  exact lv_icmp_ne hx hb hdg ht (fun q => kt q p l e R s m args below meth c D cA A ad0 C0 ad H locs ls cells slots h1 h2 hl hP hD hS hc hs) (fun q => kf q p l e R s m args below meth c D cA A ad0 C0 ad H locs ls cells slots h1 h2 hl hP hD hS hc hs)
theorem Ex.if_ne {γ : aM} {d mc ms n0 : Nat} {al : Nat × Nat} {pc : Nat} {lo : aLo} {E : aE} {I : aI} {J : aJ} {Q : aPost} {x : Int32} {r : List Value} {off : Int} {tgt : Nat} (hdg : decode γ.2.1 pc = .ok (.ifCond .ne off, 3)) (ht : (pc : Int) + off = (tgt : Int)) (kt : ¬ x = 0 → Ex γ d mc ms n0 al tgt lo r E I J Q) (kf : x = 0 → Ex γ d mc ms n0 al (pc + 3) lo r E I J Q) : Ex γ d mc ms n0 al pc lo (.int x :: r) E I J Q := by
  intro p l e R s m args below meth c D cA A ad0 C ad H locs ls cells slots h1 h2 hl hP hD hS hc hs
  have C0 := C
  obtain ⟨hx, hb, hml, hrt, hown, hts, hlk, hnm, ⟨hf, hlo, hrc, hrs⟩, ⟨hK, hAO⟩, hA, hX⟩ := C
  exact lv_if_ne hx hb hdg ht (fun q => kt q p l e R s m args below meth c D cA A ad0 C0 ad H locs ls cells slots h1 h2 hl hP hD hS hc hs) (fun q => kf q p l e R s m args below meth c D cA A ad0 C0 ad H locs ls cells slots h1 h2 hl hP hD hS hc hs)
theorem Ex.icmp_lt {γ : aM} {d mc ms n0 : Nat} {al : Nat × Nat} {pc : Nat} {lo : aLo} {E : aE} {I : aI} {J : aJ} {Q : aPost} {x y : Int32} {r : List Value} {off : Int} {tgt : Nat} (hdg : decode γ.2.1 pc = .ok (.if_icmp .lt off, 3)) (ht : (pc : Int) + off = (tgt : Int)) (kt : x < y → Ex γ d mc ms n0 al tgt lo r E I J Q) (kf : ¬ (x < y) → Ex γ d mc ms n0 al (pc + 3) lo r E I J Q) : Ex γ d mc ms n0 al pc lo (.int y :: .int x :: r) E I J Q := by
  intro p l e R s m args below meth c D cA A ad0 C ad H locs ls cells slots h1 h2 hl hP hD hS hc hs
  have C0 := C
  obtain ⟨hx, hb, hml, hrt, hown, hts, hlk, hnm, ⟨hf, hlo, hrc, hrs⟩, ⟨hK, hAO⟩, hA, hX⟩ := C
  exact lv_icmp_lt hx hb hdg ht (fun q => kt q p l e R s m args below meth c D cA A ad0 C0 ad H locs ls cells slots h1 h2 hl hP hD hS hc hs) (fun q => kf q p l e R s m args below meth c D cA A ad0 C0 ad H locs ls cells slots h1 h2 hl hP hD hS hc hs)
theorem Ex.if_lt {γ : aM} {d mc ms n0 : Nat} {al : Nat × Nat} {pc : Nat} {lo : aLo} {E : aE} {I : aI} {J : aJ} {Q : aPost} {x : Int32} {r : List Value} {off : Int} {tgt : Nat} (hdg : decode γ.2.1 pc = .ok (.ifCond .lt off, 3)) (ht : (pc : Int) + off = (tgt : Int)) (kt : x < 0 → Ex γ d mc ms n0 al tgt lo r E I J Q) (kf : ¬ (x < 0) → Ex γ d mc ms n0 al (pc + 3) lo r E I J Q) : Ex γ d mc ms n0 al pc lo (.int x :: r) E I J Q := by
  intro p l e R s m args below meth c D cA A ad0 C ad H locs ls cells slots h1 h2 hl hP hD hS hc hs
  have C0 := C
  obtain ⟨hx, hb, hml, hrt, hown, hts, hlk, hnm, ⟨hf, hlo, hrc, hrs⟩, ⟨hK, hAO⟩, hA, hX⟩ := C
  exact lv_if_lt hx hb hdg ht (fun q => kt q p l e R s m args below meth c D cA A ad0 C0 ad H locs ls cells slots h1 h2 hl hP hD hS hc hs) (fun q => kf q p l e R s m args below meth c D cA A ad0 C0 ad H locs ls cells slots h1 h2 hl hP hD hS hc hs)
theorem Ex.icmp_ge {γ : aM} {d mc ms n0 : Nat} {al : Nat × Nat} {pc : Nat} {lo : aLo} {E : aE} {I : aI} {J : aJ} {Q : aPost} {x y : Int32} {r : List Value} {off : Int} {tgt : Nat} (hdg : decode γ.2.1 pc = .ok (.if_icmp .ge off, 3)) (ht : (pc : Int) + off = (tgt : Int)) (kt : y ≤ x → Ex γ d mc ms n0 al tgt lo r E I J Q) (kf : ¬ (y ≤ x) → Ex γ d mc ms n0 al (pc + 3) lo r E I J Q) : Ex γ d mc ms n0 al pc lo (.int y :: .int x :: r) E I J Q := by
  intro p l e R s m args below meth c D cA A ad0 C ad H locs ls cells slots h1 h2 hl hP hD hS hc hs
  have C0 := C
  obtain ⟨hx, hb, hml, hrt, hown, hts, hlk, hnm, ⟨hf, hlo, hrc, hrs⟩, ⟨hK, hAO⟩, hA, hX⟩ := C
  exact lv_icmp_ge hx hb hdg ht (fun q => kt q p l e R s m args below meth c D cA A ad0 C0 ad H locs ls cells slots h1 h2 hl hP hD hS hc hs) (fun q => kf q p l e R s m args below meth c D cA A ad0 C0 ad H locs ls cells slots h1 h2 hl hP hD hS hc hs)
theorem Ex.if_ge {γ : aM} {d mc ms n0 : Nat} {al : Nat × Nat} {pc : Nat} {lo : aLo} {E : aE} {I : aI} {J : aJ} {Q : aPost} {x : Int32} {r : List Value} {off : Int} {tgt : Nat} (hdg : decode γ.2.1 pc = .ok (.ifCond .ge off, 3)) (ht : (pc : Int) + off = (tgt : Int)) (kt : 0 ≤ x → Ex γ d mc ms n0 al tgt lo r E I J Q) (kf : ¬ (0 ≤ x) → Ex γ d mc ms n0 al (pc + 3) lo r E I J Q) : Ex γ d mc ms n0 al pc lo (.int x :: r) E I J Q := by
  intro p l e R s m args below meth c D cA A ad0 C ad H locs ls cells slots h1 h2 hl hP hD hS hc hs
  have C0 := C
  obtain ⟨hx, hb, hml, hrt, hown, hts, hlk, hnm, ⟨hf, hlo, hrc, hrs⟩, ⟨hK, hAO⟩, hA, hX⟩ := C
  exact lv_if_ge hx hb hdg ht (fun q => kt q p l e R s m args below meth c D cA A ad0 C0 ad H locs ls cells slots h1 h2 hl hP hD hS hc hs) (fun q => kf q p l e R s m args below meth c D cA A ad0 C0 ad H locs ls cells slots h1 h2 hl hP hD hS hc hs)
theorem Ex.icmp_gt {γ : aM} {d mc ms n0 : Nat} {al : Nat × Nat} {pc : Nat} {lo : aLo} {E : aE} {I : aI} {J : aJ} {Q : aPost} {x y : Int32} {r : List Value} {off : Int} {tgt : Nat} (hdg : decode γ.2.1 pc = .ok (.if_icmp .gt off, 3)) (ht : (pc : Int) + off = (tgt : Int)) (kt : y < x → Ex γ d mc ms n0 al tgt lo r E I J Q) (kf : ¬ (y < x) → Ex γ d mc ms n0 al (pc + 3) lo r E I J Q) : Ex γ d mc ms n0 al pc lo (.int y :: .int x :: r) E I J Q := by
  intro p l e R s m args below meth c D cA A ad0 C ad H locs ls cells slots h1 h2 hl hP hD hS hc hs
  have C0 := C
  obtain ⟨hx, hb, hml, hrt, hown, hts, hlk, hnm, ⟨hf, hlo, hrc, hrs⟩, ⟨hK, hAO⟩, hA, hX⟩ := C
  exact lv_icmp_gt hx hb hdg ht (fun q => kt q p l e R s m args below meth c D cA A ad0 C0 ad H locs ls cells slots h1 h2 hl hP hD hS hc hs) (fun q => kf q p l e R s m args below meth c D cA A ad0 C0 ad H locs ls cells slots h1 h2 hl hP hD hS hc hs)
theorem Ex.if_gt {γ : aM} {d mc ms n0 : Nat} {al : Nat × Nat} {pc : Nat} {lo : aLo} {E : aE} {I : aI} {J : aJ} {Q : aPost} {x : Int32} {r : List Value} {off : Int} {tgt : Nat} (hdg : decode γ.2.1 pc = .ok (.ifCond .gt off, 3)) (ht : (pc : Int) + off = (tgt : Int)) (kt : 0 < x → Ex γ d mc ms n0 al tgt lo r E I J Q) (kf : ¬ (0 < x) → Ex γ d mc ms n0 al (pc + 3) lo r E I J Q) : Ex γ d mc ms n0 al pc lo (.int x :: r) E I J Q := by
  intro p l e R s m args below meth c D cA A ad0 C ad H locs ls cells slots h1 h2 hl hP hD hS hc hs
  have C0 := C
  obtain ⟨hx, hb, hml, hrt, hown, hts, hlk, hnm, ⟨hf, hlo, hrc, hrs⟩, ⟨hK, hAO⟩, hA, hX⟩ := C
  exact lv_if_gt hx hb hdg ht (fun q => kt q p l e R s m args below meth c D cA A ad0 C0 ad H locs ls cells slots h1 h2 hl hP hD hS hc hs) (fun q => kf q p l e R s m args below meth c D cA A ad0 C0 ad H locs ls cells slots h1 h2 hl hP hD hS hc hs)
theorem Ex.icmp_le {γ : aM} {d mc ms n0 : Nat} {al : Nat × Nat} {pc : Nat} {lo : aLo} {E : aE} {I : aI} {J : aJ} {Q : aPost} {x y : Int32} {r : List Value} {off : Int} {tgt : Nat} (hdg : decode γ.2.1 pc = .ok (.if_icmp .le off, 3)) (ht : (pc : Int) + off = (tgt : Int)) (kt : x ≤ y → Ex γ d mc ms n0 al tgt lo r E I J Q) (kf : ¬ (x ≤ y) → Ex γ d mc ms n0 al (pc + 3) lo r E I J Q) : Ex γ d mc ms n0 al pc lo (.int y :: .int x :: r) E I J Q := by
  intro p l e R s m args below meth c D cA A ad0 C ad H locs ls cells slots h1 h2 hl hP hD hS hc hs
  have C0 := C
  obtain ⟨hx, hb, hml, hrt, hown, hts, hlk, hnm, ⟨hf, hlo, hrc, hrs⟩, ⟨hK, hAO⟩, hA, hX⟩ := C
  exact lv_icmp_le hx hb hdg ht (fun q => kt q p l e R s m args below meth c D cA A ad0 C0 ad H locs ls cells slots h1 h2 hl hP hD hS hc hs) (fun q => kf q p l e R s m args below meth c D cA A ad0 C0 ad H locs ls cells slots h1 h2 hl hP hD hS hc hs)
theorem Ex.if_le {γ : aM} {d mc ms n0 : Nat} {al : Nat × Nat} {pc : Nat} {lo : aLo} {E : aE} {I : aI} {J : aJ} {Q : aPost} {x : Int32} {r : List Value} {off : Int} {tgt : Nat} (hdg : decode γ.2.1 pc = .ok (.ifCond .le off, 3)) (ht : (pc : Int) + off = (tgt : Int)) (kt : x ≤ 0 → Ex γ d mc ms n0 al tgt lo r E I J Q) (kf : ¬ (x ≤ 0) → Ex γ d mc ms n0 al (pc + 3) lo r E I J Q) : Ex γ d mc ms n0 al pc lo (.int x :: r) E I J Q := by
  intro p l e R s m args below meth c D cA A ad0 C ad H locs ls cells slots h1 h2 hl hP hD hS hc hs
  have C0 := C
  obtain ⟨hx, hb, hml, hrt, hown, hts, hlk, hnm, ⟨hf, hlo, hrc, hrs⟩, ⟨hK, hAO⟩, hA, hX⟩ := C
  exact lv_if_le hx hb hdg ht (fun q => kt q p l e R s m args below meth c D cA A ad0 C0 ad H locs ls cells slots h1 h2 hl hP hD hS hc hs) (fun q => kf q p l e R s m args below meth c D cA A ad0 C0 ad H locs ls cells slots h1 h2 hl hP hD hS hc hs)
theorem lgc_eq {x y : Int64} : lg_cmp x y = 0 ↔ x = y := by
  unfold lg_cmp
  by_cases h1 : x > y
  · rw [if_pos h1]
    exact ⟨fun q => absurd q (by decide), fun q => absurd h1 (by rw [q]; exact Int64.lt_irrefl)⟩
  · rw [if_neg h1]
    by_cases h2 : x = y
    · rw [if_pos h2]
      exact ⟨fun _ => h2, fun _ => rfl⟩
    · rw [if_neg h2]
      exact ⟨fun q => absurd q (by decide), fun q => absurd q h2⟩
theorem lgc_lt {x y : Int64} : lg_cmp x y < 0 ↔ x < y := by
  unfold lg_cmp
  by_cases h1 : x > y
  · rw [if_pos h1]
    refine ⟨fun q => absurd q (by decide), fun q => ?_⟩
    have h1 := Int64.lt_iff_toInt_lt.mp h1
    have q := Int64.lt_iff_toInt_lt.mp q
    omega
  · rw [if_neg h1]
    by_cases h2 : x = y
    · rw [if_pos h2]
      refine ⟨fun q => absurd q (by decide), fun q => ?_⟩
      have q := Int64.lt_iff_toInt_lt.mp q
      rw [h2] at q
      omega
    · rw [if_neg h2]
      refine ⟨fun _ => ?_, fun _ => by decide⟩
      have h3 : ¬ y.toInt < x.toInt := fun q => h1 (Int64.lt_iff_toInt_lt.mpr q)
      have h4 : ¬ x.toInt = y.toInt := fun q => h2 (Int64.toInt_inj.mp q)
      exact Int64.lt_iff_toInt_lt.mpr (by omega)
theorem lgc_gt {x y : Int64} : 0 < lg_cmp x y ↔ y < x := by
  unfold lg_cmp
  by_cases h1 : x > y
  · rw [if_pos h1]
    exact ⟨fun _ => h1, fun _ => by decide⟩
  · rw [if_neg h1]
    by_cases h2 : x = y
    · rw [if_pos h2]
      exact ⟨fun q => absurd q (by decide), fun q => absurd q h1⟩
    · rw [if_neg h2]
      exact ⟨fun q => absurd q (by decide), fun q => absurd q h1⟩
theorem i32_nlt {x y : Int32} : ¬ x < y ↔ y ≤ x := by
  rw [Int32.lt_iff_toInt_lt, Int32.le_iff_toInt_le]
  omega
theorem i64_nlt {x y : Int64} : ¬ x < y ↔ y ≤ x := by
  rw [Int64.lt_iff_toInt_lt, Int64.le_iff_toInt_le]
  omega
theorem lgc_ge {x y : Int64} : 0 ≤ lg_cmp x y ↔ y ≤ x := by
  rw [← i32_nlt, ← i64_nlt, lgc_lt]
theorem lgc_le {x y : Int64} : lg_cmp x y ≤ 0 ↔ x ≤ y := by
  rw [← i32_nlt, ← i64_nlt, lgc_gt]
theorem Ex.lif_eq {γ : aM} {d mc ms n0 : Nat} {al : Nat × Nat} {pc : Nat} {lo : aLo} {E : aE} {I : aI} {J : aJ} {Q : aPost} {x y : Int64} {r : List Value} {off : Int} {tgt : Nat} (hdg : decode γ.2.1 pc = .ok (.ifCond .eq off, 3)) (ht : (pc : Int) + off = (tgt : Int)) (kt : x = y → Ex γ d mc ms n0 al tgt lo r E I J Q) (kf : ¬ (x = y) → Ex γ d mc ms n0 al (pc + 3) lo r E I J Q) : Ex γ d mc ms n0 al pc lo (.int (lg_cmp x y) :: r) E I J Q :=
  Ex.if_eq hdg ht (fun q => kt (lgc_eq.mp q)) (fun q => kf (fun z => q (lgc_eq.mpr z)))
theorem Ex.lif_ne {γ : aM} {d mc ms n0 : Nat} {al : Nat × Nat} {pc : Nat} {lo : aLo} {E : aE} {I : aI} {J : aJ} {Q : aPost} {x y : Int64} {r : List Value} {off : Int} {tgt : Nat} (hdg : decode γ.2.1 pc = .ok (.ifCond .ne off, 3)) (ht : (pc : Int) + off = (tgt : Int)) (kt : ¬ x = y → Ex γ d mc ms n0 al tgt lo r E I J Q) (kf : x = y → Ex γ d mc ms n0 al (pc + 3) lo r E I J Q) : Ex γ d mc ms n0 al pc lo (.int (lg_cmp x y) :: r) E I J Q :=
  Ex.if_ne hdg ht (fun q => kt ((not_congr lgc_eq).mp q)) (fun q => kf (lgc_eq.mp q))
theorem Ex.lif_lt {γ : aM} {d mc ms n0 : Nat} {al : Nat × Nat} {pc : Nat} {lo : aLo} {E : aE} {I : aI} {J : aJ} {Q : aPost} {x y : Int64} {r : List Value} {off : Int} {tgt : Nat} (hdg : decode γ.2.1 pc = .ok (.ifCond .lt off, 3)) (ht : (pc : Int) + off = (tgt : Int)) (kt : x < y → Ex γ d mc ms n0 al tgt lo r E I J Q) (kf : ¬ (x < y) → Ex γ d mc ms n0 al (pc + 3) lo r E I J Q) : Ex γ d mc ms n0 al pc lo (.int (lg_cmp x y) :: r) E I J Q :=
  Ex.if_lt hdg ht (fun q => kt (lgc_lt.mp q)) (fun q => kf (fun z => q (lgc_lt.mpr z)))
theorem Ex.lif_ge {γ : aM} {d mc ms n0 : Nat} {al : Nat × Nat} {pc : Nat} {lo : aLo} {E : aE} {I : aI} {J : aJ} {Q : aPost} {x y : Int64} {r : List Value} {off : Int} {tgt : Nat} (hdg : decode γ.2.1 pc = .ok (.ifCond .ge off, 3)) (ht : (pc : Int) + off = (tgt : Int)) (kt : y ≤ x → Ex γ d mc ms n0 al tgt lo r E I J Q) (kf : ¬ (y ≤ x) → Ex γ d mc ms n0 al (pc + 3) lo r E I J Q) : Ex γ d mc ms n0 al pc lo (.int (lg_cmp x y) :: r) E I J Q :=
  Ex.if_ge hdg ht (fun q => kt (lgc_ge.mp q)) (fun q => kf (fun z => q (lgc_ge.mpr z)))
theorem Ex.lif_gt {γ : aM} {d mc ms n0 : Nat} {al : Nat × Nat} {pc : Nat} {lo : aLo} {E : aE} {I : aI} {J : aJ} {Q : aPost} {x y : Int64} {r : List Value} {off : Int} {tgt : Nat} (hdg : decode γ.2.1 pc = .ok (.ifCond .gt off, 3)) (ht : (pc : Int) + off = (tgt : Int)) (kt : y < x → Ex γ d mc ms n0 al tgt lo r E I J Q) (kf : ¬ (y < x) → Ex γ d mc ms n0 al (pc + 3) lo r E I J Q) : Ex γ d mc ms n0 al pc lo (.int (lg_cmp x y) :: r) E I J Q :=
  Ex.if_gt hdg ht (fun q => kt (lgc_gt.mp q)) (fun q => kf (fun z => q (lgc_gt.mpr z)))
theorem Ex.lif_le {γ : aM} {d mc ms n0 : Nat} {al : Nat × Nat} {pc : Nat} {lo : aLo} {E : aE} {I : aI} {J : aJ} {Q : aPost} {x y : Int64} {r : List Value} {off : Int} {tgt : Nat} (hdg : decode γ.2.1 pc = .ok (.ifCond .le off, 3)) (ht : (pc : Int) + off = (tgt : Int)) (kt : x ≤ y → Ex γ d mc ms n0 al tgt lo r E I J Q) (kf : ¬ (x ≤ y) → Ex γ d mc ms n0 al (pc + 3) lo r E I J Q) : Ex γ d mc ms n0 al pc lo (.int (lg_cmp x y) :: r) E I J Q :=
  Ex.if_le hdg ht (fun q => kt (lgc_le.mp q)) (fun q => kf (fun z => q (lgc_le.mpr z)))
theorem Ex.tabIn {γ : aM} {d mc ms n0 : Nat} {al : Nat × Nat} {pc : Nat} {lo : aLo} {E : aE} {I : aI} {J : aJ} {Q : aPost} {dflt lo1 hi1 : Int} {offs : Array Int} {len : Nat} {x : Int32} {off : Int} {tgt : Nat} {r : List Value} (hdg : decode γ.2.1 pc = .ok (.tableswitch dflt lo1 hi1 offs, len)) (q1 : ¬ x.toInt < lo1) (q2 : ¬ hi1 < x.toInt) (ho : offs[(x.toInt - lo1).toNat]? = some off) (ht : (pc : Int) + off = (tgt : Int)) (k : Ex γ d mc ms n0 al tgt lo r E I J Q) : Ex γ d mc ms n0 al pc lo (.int x :: r) E I J Q := by
  intro p l e R s m args below meth c D cA A ad0 C ad H locs ls cells slots h1 h2 hl hP hD hS hc hs
  have C0 := C
  obtain ⟨hx, hb, hml, hrt, hown, hts, hlk, hnm, ⟨hf, hlo, hrc, hrs⟩, ⟨hK, hAO⟩, hA, hX⟩ := C
  exact lv_tableIn hx hb hdg q1 q2 ho ht (k p l e R s m args below meth c D cA A ad0 C0 ad H locs ls cells slots h1 h2 hl hP hD hS hc hs)
theorem Ex.tabOut {γ : aM} {d mc ms n0 : Nat} {al : Nat × Nat} {pc : Nat} {lo : aLo} {E : aE} {I : aI} {J : aJ} {Q : aPost} {dflt lo1 hi1 : Int} {offs : Array Int} {len : Nat} {x : Int32} {tgt : Nat} {r : List Value} (hdg : decode γ.2.1 pc = .ok (.tableswitch dflt lo1 hi1 offs, len)) (q1 : x.toInt < lo1 ∨ hi1 < x.toInt) (ht : (pc : Int) + dflt = (tgt : Int)) (k : Ex γ d mc ms n0 al tgt lo r E I J Q) : Ex γ d mc ms n0 al pc lo (.int x :: r) E I J Q := by
  intro p l e R s m args below meth c D cA A ad0 C ad H locs ls cells slots h1 h2 hl hP hD hS hc hs
  have C0 := C
  obtain ⟨hx, hb, hml, hrt, hown, hts, hlk, hnm, ⟨hf, hlo, hrc, hrs⟩, ⟨hK, hAO⟩, hA, hX⟩ := C
  exact lv_tableOut hx hb hdg q1 ht (k p l e R s m args below meth c D cA A ad0 C0 ad H locs ls cells slots h1 h2 hl hP hD hS hc hs)
/-! RULES: ends -/
theorem Ex.iret {γ : aM} {d mc ms n0 : Nat} {al : Nat × Nat} {pc : Nat} {lo : aLo} {E : aE} {I : aI} {J : aJ} {Q : aPost} {v : Int32} (hr : γ.2.2.2.1 = some .int) (hdg : decode γ.2.1 pc = .ok (.ireturn, 1)) (hq : Q (some (.int v)) E I J) : Ex γ d mc ms n0 al pc lo [.int v] E I J Q := by
  intro p l e R s m args below meth c D cA A ad0 C ad H locs ls cells slots h1 h2 hl hP hD hS hc hs
  have C0 := C
  obtain ⟨hx, hb, hml, hrt, hown, hts, hlk, hnm, ⟨hf, hlo, hrc, hrs⟩, ⟨hK, hAO⟩, hA, hX⟩ := C
  refine W.widen (k := mc) (n := ms) (by omega) (by omega) ?_
  exact W.iret hx hb (hrt.trans hr) (fun t ht hW => ⟨⟨(some (.int v)), E, I, J, ad, rfl, hq, h1, h2, by rw [ht]; exact hP, hD⟩, hS.F ht⟩) hS.2.2 hdg hlk
theorem Ex.zret {γ : aM} {d mc ms n0 : Nat} {al : Nat × Nat} {pc : Nat} {lo : aLo} {E : aE} {I : aI} {J : aJ} {Q : aPost} {v : Int32} (hr : γ.2.2.2.1 = some .boolean) (hv : v = 0 ∨ v = 1) (hdg : decode γ.2.1 pc = .ok (.ireturn, 1)) (hq : Q (some (.int v)) E I J) : Ex γ d mc ms n0 al pc lo [.int v] E I J Q := by
  intro p l e R s m args below meth c D cA A ad0 C ad H locs ls cells slots h1 h2 hl hP hD hS hc hs
  have C0 := C
  obtain ⟨hx, hb, hml, hrt, hown, hts, hlk, hnm, ⟨hf, hlo, hrc, hrs⟩, ⟨hK, hAO⟩, hA, hX⟩ := C
  refine W.widen (k := mc) (n := ms) (by omega) (by omega) ?_
  exact W.zret hx hb (hrt.trans hr) (by rcases hv with rfl | rfl <;> rfl) (fun t ht hW => ⟨⟨(some (.int v)), E, I, J, ad, rfl, hq, h1, h2, by rw [ht]; exact hP, hD⟩, hS.F ht⟩) hS.2.2 hdg hlk
theorem Ex.lret {γ : aM} {d mc ms n0 : Nat} {al : Nat × Nat} {pc : Nat} {lo : aLo} {E : aE} {I : aI} {J : aJ} {Q : aPost} {v : Int64} (hr : γ.2.2.2.1 = some .long) (hdg : decode γ.2.1 pc = .ok (.lreturn, 1)) (hq : Q (some (.long v)) E I J) : Ex γ d mc ms n0 al pc lo [.long v] E I J Q := by
  intro p l e R s m args below meth c D cA A ad0 C ad H locs ls cells slots h1 h2 hl hP hD hS hc hs
  have C0 := C
  obtain ⟨hx, hb, hml, hrt, hown, hts, hlk, hnm, ⟨hf, hlo, hrc, hrs⟩, ⟨hK, hAO⟩, hA, hX⟩ := C
  refine W.widen (k := mc) (n := ms) (by omega) (by omega) ?_
  exact W.lret hx hb (hrt.trans hr) (fun t ht hW => ⟨⟨(some (.long v)), E, I, J, ad, rfl, hq, h1, h2, by rw [ht]; exact hP, hD⟩, hS.F ht⟩) hS.2.2 hdg hlk
theorem Ex.vret {γ : aM} {d mc ms n0 : Nat} {al : Nat × Nat} {pc : Nat} {lo : aLo} {E : aE} {I : aI} {J : aJ} {Q : aPost} (hr : γ.2.2.2.1 = none) (hdg : decode γ.2.1 pc = .ok (.return_, 1)) (hq : Q none E I J) : Ex γ d mc ms n0 al pc lo [] E I J Q := by
  intro p l e R s m args below meth c D cA A ad0 C ad H locs ls cells slots h1 h2 hl hP hD hS hc hs
  have C0 := C
  obtain ⟨hx, hb, hml, hrt, hown, hts, hlk, hnm, ⟨hf, hlo, hrc, hrs⟩, ⟨hK, hAO⟩, hA, hX⟩ := C
  refine W.widen (k := mc) (n := ms) (by omega) (by omega) ?_
  exact W.vret hx hb (hrt.trans hr) (fun t ht hW => ⟨⟨none, E, I, J, ad, rfl, hq, h1, h2, by rw [ht]; exact hP, hD⟩, hS.F ht⟩) hS.2.2 hdg hlk
theorem Ex.aret {γ : aM} {d mc ms n0 : Nat} {al : Nat × Nat} {pc : Nat} {lo : aLo} {E : aE} {I : aI} {J : aJ} {Q : aPost} {a : Nat} {rt : FieldType} (hr : γ.2.2.2.1 = some rt) (hv : (∃ n, rt = .object n) ∨ ∃ t, rt = .array t) (hdg : decode γ.2.1 pc = .ok (.areturn, 1)) (hq : Q (some (.ref a)) E I J) : Ex γ d mc ms n0 al pc lo [.ref a] E I J Q := by
  intro p l e R s m args below meth c D cA A ad0 C ad H locs ls cells slots h1 h2 hl hP hD hS hc hs
  have C0 := C
  obtain ⟨hx, hb, hml, hrt, hown, hts, hlk, hnm, ⟨hf, hlo, hrc, hrs⟩, ⟨hK, hAO⟩, hA, hX⟩ := C
  refine W.widen (k := mc) (n := ms) (by omega) (by omega) ?_
  exact W.aret hx hb (hrt.trans hr) hv (Or.inr ⟨_, rfl⟩) (fun t ht hW => ⟨⟨(some (.ref a)), E, I, J, ad, rfl, hq, h1, h2, by rw [ht]; exact hP, hD⟩, hS.F ht⟩) hS.2.2 hdg hlk
/-! RULES: calls -/
def aArgs : List Value → aLo
  | [] => []
  | v :: r => if v.category = 2 then some v :: none :: aArgs r else some v :: aArgs r
/-- the locals with which a method begins -/
def aEn (n : Nat) (As : List Value) : aLo := aArgs As ++ List.replicate (n - (aArgs As).length) none
theorem aArgs_len (ad : Nat → Nat) : ∀ As : List Value, (lg_sl (As.map (tv ad))).length = (aArgs As).length
  | [] => rfl
  | v :: r => by
    have ih := aArgs_len ad r
    unfold lg_sl at ih ⊢
    rw [List.map_cons, List.flatMap_cons, List.length_append, ih, tv_cat]
    show _ = (if v.category = 2 then some v :: none :: aArgs r else some v :: aArgs r).length
    by_cases h : v.category = 2
    · rw [if_pos h, if_pos h]
      simp
      omega
    · rw [if_neg h, if_neg h]
      simp
      omega
theorem aArgs_in (ad : Nat → Nat) : ∀ (As : List Value) (k j : Nat) (v : Value), (aArgs As)[j]? = some (some v) → (k + j, tv ad v) ∈ lv_args k (As.map (tv ad))
  | [], k, j, v, h => by simp [aArgs] at h
  | w :: r, k, j, v, h => by
    unfold aArgs at h
    show _ ∈ (k, tv ad w) :: lv_args (if (tv ad w).category = 2 then k + 2 else k + 1) (r.map (tv ad))
    rw [tv_cat]
    by_cases hc : w.category = 2
    · rw [if_pos hc] at h ⊢
      match j, h with
      | 0, h => cases h; exact List.mem_cons_self
      | 1, h => cases h
      | j + 2, h =>
        have := aArgs_in ad r (k + 2) j v h
        rw [show k + (j + 2) = k + 2 + j by omega]
        exact List.mem_cons_of_mem _ this
    · rw [if_neg hc] at h ⊢
      match j, h with
      | 0, h => cases h; exact List.mem_cons_self
      | j + 1, h =>
        have := aArgs_in ad r (k + 1) j v h
        rw [show k + (j + 1) = k + 1 + j by omega]
        exact List.mem_cons_of_mem _ this
theorem aL_entry (ad : Nat → Nat) {n : Nat} {As : List Value} (h : (aArgs As).length ≤ n) : aL ad ((lg_sl (As.map (tv ad)) ++ List.replicate (n - (lg_sl (As.map (tv ad))).length) Slot.unset).toArray) n (aEn n As) := by
  have hv := lv_entry (As.map (tv ad)) (n := n) (by rw [aArgs_len]; exact h)
  refine ⟨by unfold aEn; rw [List.length_append, List.length_replicate]; omega, hv.1, hv.2.1, fun q hq => hv.2.2 q ?_⟩
  obtain ⟨v, e1, e2⟩ := aLs_mem.mp hq
  unfold aEn at e1
  by_cases hl : q.1 < (aArgs As).length
  · rw [List.getElem?_append_left hl] at e1
    have := aArgs_in ad As 0 q.1 v e1
    rw [Nat.zero_add, ← e2] at this
    exact this
  · rw [List.getElem?_append_right (by omega), List.getElem?_replicate] at e1
    split at e1 <;> cases e1
def aWds (γ : aM) : List Cond := .code γ.1 γ.2.1 γ.2.2.1 γ.2.2.2.1 :: lw_tbg
def rmD (d mc ms : Nat) : Room := { frames := d, cells := mc, slots := ms, locals := 39 * d }
theorem Ex.met {γ : aM} {d mc ms : Nat} {E : aE} {I : aI} {J : aJ} {As : List Value} {Q : aPost} (hy : plainName γ.1.cls = true) (hγ : γ.2.2.2.2 = none) (hlen : (aArgs As).length ≤ γ.2.2.1) (h : Ex γ d mc ms E.1 (mc, ms) 0 (aEn γ.2.2.1 As) [] E I J Q) (l : Launch) (D : va_G) (cA : Nat → ClassId) (ad : Nat → Nat) (sz : Nat) :
    Met l γ.1 (aWds γ) (rmD d mc ms) (va_Pc (As.map (tv ad)) (fun U => U.heap.size = sz ∧ va_P D vwCl (aWs cA ad E I J) U.heap ∧ aTb D cA U ∧ va_D (fun _ => True) (aWs cA ad E I J))) (aQc Q D cA (va_A (aWs cA ad E I J) sz) ad E.1) mc ms (va_A (aWs cA ad E I J) sz) := by
  refine Met.ofW (cc := γ.2.1) (maxL := γ.2.2.1) (ret := γ.2.2.2.1) hy rfl ?_
  intro p e s m args below meth c s₁ B hml hv
  obtain ⟨rfl, hsz, hP, hK, hD0⟩ := hv
  have hts := atoms_spec (ws := aWds γ) B.pre
  have hown : s.vm.findClass γ.1.cls = some m.cls := findClass_of_methodNamed B.named
  have hnm : meth.name = γ.1.name := (name_of_methodNamed B.named B.method).1
  subst hsz
  have hD := hD0.self (sz := s.heap.size)
  have hA : ∀ q : Nat, s.heap.size ≤ q → va_A (aWs cA ad E I J) s.heap.size q := fun q h => Or.inr h
  rw [lg_entry_eq]
  exact h p l e (rmD d mc ms) s m _ below meth c D cA (va_A (aWs cA ad E I J) s.heap.size) ad ⟨B.exec, B.bytes, hml, B.returns, hown, fun w hw => hts w (List.mem_cons_of_mem _ hw), B.notSynchronized, hnm, ⟨rfl, rfl, rfl, rfl⟩, hK, hA, fun L xs q => by rw [hγ] at q; cases q⟩ ad s.heap [] _ 0 0 (Nat.le_refl _) (fun _ _ => rfl) (aL_entry ad hlen) hP hD va_S.rf (by show 0 + mc ≤ mc; omega) (by show 0 + ms ≤ ms; omega)
def aBdd (n : Nat) (st : List Value) : Prop := ∀ v ∈ st, ∀ r, v = .ref r → r ≤ n
def aBdl (n : Nat) (lo : aLo) : Prop := ∀ v, some v ∈ lo → ∀ r, v = .ref r → r ≤ n
theorem tv_bdd {ad ad' : Nat → Nat} {n : Nat} {v : Value} (h : ∀ r, r ≤ n → ad' r = ad r) (hv : ∀ r, v = .ref r → r ≤ n) : tv ad' v = tv ad v := by
  cases v with
  | ref r =>
    show Value.ref (ad' r) = Value.ref (ad r)
    rw [h r (hv r rfl)]
  | _ => rfl
theorem aBdd_map {ad ad' : Nat → Nat} {n : Nat} {st : List Value} (h : ∀ r, r ≤ n → ad' r = ad r) (hv : aBdd n st) : st.map (tv ad') = st.map (tv ad) := List.map_congr_left (fun v hm => tv_bdd h (hv v hm))
theorem aL_bdd {ad ad' : Nat → Nat} {n nL : Nat} {ls : Array Slot} {lo : aLo} (h : ∀ r, r ≤ n → ad' r = ad r) (hv : aBdl n lo) (hl : aL ad ls nL lo) : aL ad' ls nL lo := by
  refine ⟨hl.1, hl.2.1, hl.2.2.1, fun q hq => hl.2.2.2 q ?_⟩
  obtain ⟨v, e1, e2⟩ := aLs_mem.mp hq
  exact aLs_mem.mpr ⟨v, e1, by rw [e2]; exact tv_bdd h (fun r e => hv v (List.mem_of_getElem? e1) r e)⟩
/-- what stands behind every call -/
theorem Ex.after {γ : aM} {d mc ms n0 : Nat} {al : Nat × Nat} {pc : Nat} {lo : aLo} {st rest : List Value} {E : aE} {I : aI} {J : aJ} {Q Q' : aPost} {mc' ms' : Nat} (hal : mc' ≤ al.1 ∧ ms' ≤ al.2) (hbd : (∀ r E' I' J', Q' r E' I' J' → E' = E) ∨ (aBdd E.1 rest ∧ aBdl E.1 lo))
    (run : ∀ (p : Program) (l : Launch) (e : Env) (R : Room) (s : State) (m : MethodId) (args : Array Value) (below : List Frame) (meth : Method) (c : Code) (D : va_G) (cA : Nat → ClassId) (A : Nat → Prop) (ad0 : Nat → Nat), aCtx γ d mc ms p R s m args meth c D cA A ad0 → ∀ (ad : Nat → Nat) (H : Heap) (locs : List Loc) (ls : Array Slot) (cells slots : Nat), aL ad ls γ.2.2.1 lo → va_P D vwCl (aWs cA ad E I J) H → va_D A (aWs cA ad E I J) → cells + al.1 ≤ mc → slots + al.2 ≤ ms →
      va_Run p l e R s m args below meth c H locs cells slots mc' ms' (F0 m pc ls (st.map (tv ad))) (rest.map (tv ad)) (fun st o t => ∃ a, aQc Q' D cA (va_A (aWs cA ad E I J) H.size) ad E.1 a st o t) (va_A (aWs cA ad E I J) H.size))
    (k : ∀ r E' I' J', Q' r E' I' J' → Ex γ d mc ms n0 (al.1 - mc', al.2 - ms') (pc + 3) lo (r.toList ++ rest) E' I' J' Q) : Ex γ d mc ms n0 al pc lo st E I J Q := by
  intro p l e R s m args below meth c D cA A ad0 C ad H locs ls cells slots h1 h2 hl hP hD hS hc hs
  have C0 := C
  obtain ⟨hx, hb, hml, hrt, hown, hts, hlk, hnm, ⟨hf, hlo, hrc, hrs⟩, ⟨hK, hAO⟩, hA, hX⟩ := C
  intro T hT X
  obtain ⟨v, st₀, t, T', L, g1, X', hL, e1, e2, ⟨a, ⟨⟨r, E', I', J', ad', c1, c2, c3, c4, c5, c6⟩, hz, hk⟩⟩, stp⟩ := run p l e R s m args below meth c D cA A ad0 C0 ad H locs ls cells slots hl hP hD hc hs T hT X
  have hFc : ∀ q, va_A (aWs cA ad E I J) H.size q → A q := by
    intro q h
    rcases h with ⟨k9, e9, h⟩ | h
    · exact hD.2 k9 _ h
    · exact hA q (Nat.le_trans hS.1 h)
  rw [g1] at hz hk
  have hE : ∀ r, r ≤ E.1 → ad' r = ad r := fun r h => c4 r (Or.inl h)
  have hst : rest.map (tv ad') = rest.map (tv ad) ∧ aL ad' ls γ.2.2.1 lo := by
    rcases hbd with hbd | hbd
    · have e3 := hbd _ _ _ _ c2
      have : ad' = ad := funext fun r => c4 r (by rw [e3]; omega)
      rw [this]
      exact ⟨rfl, hl⟩
    · exact ⟨aBdd_map hE hbd.1, aL_bdd hE hbd.2 hl⟩
  have hv : v.toList ++ rest.map (tv ad) = (r.toList ++ rest).map (tv ad') := by
    cases c1
    rw [List.map_append, hst.1]
    cases r <;> rfl
  have hS1 : va_S A s.heap T'.heap (locs ++ L) := ⟨Nat.le_trans hS.1 (by rw [e1]; exact hz), fun q h3 h4 => by rw [e1, hk q (Nat.lt_of_lt_of_le h3 hS.1) (fun z => h4 (hFc q z))]; exact hS.2.1 q h3 h4, fun q hq => by
      rcases List.mem_append.mp hq with h | h
      · exact hS.2.2 q h
      · exact hFc _ (hL q h)⟩
  obtain ⟨t2, a1, b1⟩ := k r E' I' J' c2 p l e R s m args below meth c D cA A ad0 C0 ad' T'.heap (locs ++ L) ls (cells + mc') (slots + ms') (Nat.le_trans h1 c3) (fun r h => by
    rcases h with h | h
    · rw [hE r (Nat.le_trans h h1)]; exact h2 r (Or.inl h)
    · rw [c4 r (Or.inr h)]; exact h2 r (Or.inr (by omega))) hst.2 (by rw [e1]; exact c5) (c6.weaken (fun _ _ _ h => hFc _ h)) hS1 (by show cells + mc' + (al.1 - mc') ≤ mc; omega) (by show slots + ms' + (al.2 - ms') ≤ ms; omega) T' rfl X'
  have stp := stp t2
  dsimp only at stp
  rw [hv] at stp
  exact ⟨t2, stp a1, b1⟩
/-- the tables know the called method -/
def aKn (γ' : aM) (n : Nat) : Prop := plainName γ'.1.cls = true ∧ γ'.2.2.2.2 = none ∧ Cond.code γ'.1 γ'.2.1 γ'.2.2.1 γ'.2.2.2.1 ∈ lw_tbg ∧ Cond.initialized γ'.1.cls ∈ lw_tbg ∧ (γ'.1.cls ≠ "java/lang/invoke/MethodHandle" ∧ γ'.1.cls ≠ "java/lang/invoke/VarHandle" ∧ (parseMethodDescriptor γ'.1.desc).map (fun d => d.parameters.length) = some n) ∧ γ'.2.2.1 ≤ 20
theorem lw_good : ∀ w ∈ lw_tbg, (w.onTables && w.keeps) = true ∨ ∃ ty, w = .arrayClass ty := fun w hw => good_of_word (List.mem_filter.mp hw).2
theorem aKn_good {γ' : aM} {n : Nat} (h : aKn γ' n) : GoodIn lw_tbg (aWds γ') := by
  intro w hw
  rcases List.mem_cons.mp hw with rfl | hw
  · exact ⟨h.2.2.1, lw_good _ h.2.2.1⟩
  · exact ⟨hw, lw_good _ hw⟩
theorem aKn_call {γ' : aM} {n idx d d' mc' ms' : Nat} {own : String} {R : Room} {s : State} {args : Array Value} (h : aKn γ' n) (hts : ∀ w ∈ lw_tbg, w.before args s = true) (hf : R.frames = d' + 1) (hlo : R.locals = 39 * (d' + 1)) (hdd : d = d') (hl : Cond.methodLink own idx γ'.1 ∈ lw_tbg) : CallB R s args own idx γ'.1 γ'.2.1 γ'.2.2.1 γ'.2.2.2.1 (aWds γ') (rmD d mc' ms') mc' ms' n := by
  subst hdd
  refine callB_of n hts (aKn_good h) rfl rfl rfl (hts _ h.2.2.2.1) (hts _ hl) h.2.2.2.2.1 ⟨by rw [hf]; exact Nat.le_refl _, ?_⟩
  have := h.2.2.2.2.2
  show 8 + (γ'.2.2.1 + 11) + 39 * d ≤ R.locals
  omega
theorem aPre_blind {av : List Value} {sz : Nat} {D : va_G} {cA : Nat → ClassId} {ws : va_W} : FrameBlind (va_Pc av (fun U => U.heap.size = sz ∧ va_P D vwCl ws U.heap ∧ aTb D cA U ∧ va_D (fun _ => True) ws)) := fun a U g mk q => by
  obtain ⟨q0, q1, qP, qK, qD⟩ := q
  exact ⟨q0, q1, qP, aTb.moved (u := U) (U := U.calling g mk a) (Vm.Alike.refl U.vm) qK, qD⟩
def aNone : List Value → Prop := fun _ => True
theorem Ex.callV {γ γ' : aM} {d mc ms n0 : Nat} {al : Nat × Nat} {pc idx ci n : Nat} {lo : aLo} {st As rest : List Value} {b : Nat} {E : aE} {I : aI} {J : aJ} {Q : aPost} {Q' : Option Value → aI → aJ → Prop} {T : u_T} {N : Nat}
    (hkn : aKn γ' n) (hl : Cond.methodLink γ.1.cls idx γ'.1 ∈ lw_tbg) (hi : Cond.instanceMethod γ'.1 ∈ lw_tbg) (hsel : Cond.selects γ'.1.cls γ'.1 γ'.1 ∈ lw_tbg) (hcl : vwCl[ci]? = some (γ'.1.cls, T, N)) (hdg : decode γ.2.1 pc = .ok (.invokevirtual idx, 3))
    (hst : st = As.reverse ++ .ref b :: rest) (hn : As.length = n) (hle : (aArgs (.ref b :: As)).length ≤ γ'.2.2.1) (h8 : aSm rest ≤ 8) (hb : aO E b ci)
    (hc : Ex γ' d 0 0 E.1 (0, 0) 0 (aEn γ'.2.2.1 (.ref b :: As)) [] E I J (fun r E' I' J' => E' = E ∧ Q' r I' J'))
    (k : ∀ r I' J', Q' r I' J' → Ex γ (d + 1) mc ms n0 al (pc + 3) lo (r.toList ++ rest) E I' J' Q) : Ex γ (d + 1) mc ms n0 al pc lo st E I J Q := by
  refine Ex.after (mc' := 0) (ms' := 0) (rest := rest) (Q' := fun r E' I' J' => E' = E ∧ Q' r I' J') ⟨Nat.zero_le _, Nat.zero_le _⟩ (Or.inl fun r E' I' J' q => q.1) ?_ (fun r E' I' J' q => ?_)
  · intro p l e R s m args below meth c D cA A ad0 C ad H locs ls cells slots hl0 hP hD hc0 hs0
    obtain ⟨hx, hbb, hml, hrt, hown, hts, hlk, hnm, ⟨hf, hlo, hrc, hrs⟩, ⟨hK, hAO⟩, hA, hX⟩ := C
    have hM := Ex.met hkn.1 hkn.2.1 hle hc l D cA ad H.size
    have hcb := aKn_call (mc' := 0) (ms' := 0) (own := γ.1.cls) hkn hts hf hlo rfl hl
    have he := aWs_at (cA := cA) (ad := ad) (I := I) (J := J) hb.1
    rw [aEnt_o hb.2] at he
    subst hst
    have r := va_runV (As := As.map (tv ad)) (rest := rest.map (tv ad)) (b := ad b) (locs := locs) (cells := cells) (slots := slots) (H := H) (g := F0 m pc ls ((As.reverse ++ .ref b :: rest).map (tv ad))) (below := below) (meth := meth) (e := e) (l := l) (nL := γ.2.2.1) ⟨hx, hbb, hml, hown, hts⟩ hM ⟨hcb, hts _ hi, hts _ hsel⟩ ⟨aPre_blind, va_recv hK hP hcl he, fun U hU hW => ⟨rfl, by rw [hU], by rw [hU]; exact hP, aTb.moved hW.alike ⟨hK, hAO⟩, hD.weaken (fun _ _ _ _ => trivial)⟩⟩ rfl (by rw [List.length_map]; exact hn) hl0.2.1 (by show (As.reverse ++ Value.ref b :: rest).map (tv ad) = _; rw [List.map_append, List.map_reverse]; rfl) (lv_room (by rw [aSm_tv]; exact h8)) hdg ⟨by omega, by omega⟩
    intro T hT X
    obtain ⟨v, st₀, t, T', L, g1, X', hL, e1, e2, hq, stp⟩ := r T hT X
    exact ⟨v, st₀, t, T', L, g1, X', hL, e1, e2, ⟨_, hq⟩, stp⟩
  · obtain ⟨rfl, q⟩ := q
    exact k r I' J' q
theorem Ex.callS {γ γ' : aM} {d mc ms n0 : Nat} {al : Nat × Nat} {pc idx n : Nat} {lo : aLo} {st As rest : List Value} {E : aE} {I : aI} {J : aJ} {Q : aPost} {Q' : Option Value → aI → aJ → Prop}
    (hkn : aKn γ' n) (hl : Cond.methodLink γ.1.cls idx γ'.1 ∈ lw_tbg) (hi : Cond.static γ'.1 ∈ lw_tbg) (hdg : decode γ.2.1 pc = .ok (.invokestatic idx, 3))
    (hst : st = As.reverse ++ rest) (hn : As.length = n) (hle : (aArgs As).length ≤ γ'.2.2.1) (h8 : aSm rest ≤ 8)
    (hc : Ex γ' d 0 0 E.1 (0, 0) 0 (aEn γ'.2.2.1 As) [] E I J (fun r E' I' J' => E' = E ∧ Q' r I' J'))
    (k : ∀ r I' J', Q' r I' J' → Ex γ (d + 1) mc ms n0 al (pc + 3) lo (r.toList ++ rest) E I' J' Q) : Ex γ (d + 1) mc ms n0 al pc lo st E I J Q := by
  refine Ex.after (mc' := 0) (ms' := 0) (rest := rest) (Q' := fun r E' I' J' => E' = E ∧ Q' r I' J') ⟨Nat.zero_le _, Nat.zero_le _⟩ (Or.inl fun r E' I' J' q => q.1) ?_ (fun r E' I' J' q => ?_)
  · intro p l e R s m args below meth c D cA A ad0 C ad H locs ls cells slots hl0 hP hD hc0 hs0
    obtain ⟨hx, hbb, hml, hrt, hown, hts, hlk, hnm, ⟨hf, hlo, hrc, hrs⟩, ⟨hK, hAO⟩, hA, hX⟩ := C
    have hM := Ex.met hkn.1 hkn.2.1 hle hc l D cA ad H.size
    have hcb := aKn_call (mc' := 0) (ms' := 0) (own := γ.1.cls) hkn hts hf hlo rfl hl
    subst hst
    have r := va_runS (As := As.map (tv ad)) (rest := rest.map (tv ad)) (locs := locs) (cells := cells) (slots := slots) (H := H) (g := F0 m pc ls ((As.reverse ++ rest).map (tv ad))) (below := below) (meth := meth) (e := e) (l := l) (nL := γ.2.2.1) ⟨hx, hbb, hml, hown, hts⟩ hM ⟨hcb, hts _ hi⟩ ⟨aPre_blind, fun U hU hW => ⟨rfl, by rw [hU], by rw [hU]; exact hP, aTb.moved hW.alike ⟨hK, hAO⟩, hD.weaken (fun _ _ _ _ => trivial)⟩⟩ rfl (by rw [List.length_map]; exact hn) hl0.2.1 (by show (As.reverse ++ rest).map (tv ad) = _; rw [List.map_append, List.map_reverse]) (lv_room (by rw [aSm_tv]; exact h8)) hdg ⟨by omega, by omega⟩
    intro T hT X
    obtain ⟨v, st₀, t, T', L, g1, X', hL, e1, e2, hq, stp⟩ := r T hT X
    exact ⟨v, st₀, t, T', L, g1, X', hL, e1, e2, ⟨_, hq⟩, stp⟩
  · obtain ⟨rfl, q⟩ := q
    exact k r I' J' q
/-- a constructor's call: it may make cells -/
theorem Ex.callI {γ γ' : aM} {d mc ms n0 mc' ms' : Nat} {al : Nat × Nat} {pc idx n : Nat} {lo : aLo} {st As rest : List Value} {b : Nat} {E : aE} {I : aI} {J : aJ} {Q Q' : aPost}
    (hkn : aKn γ' n) (hret : γ'.2.2.2.1 = none) (hl : Cond.methodLink γ.1.cls idx γ'.1 ∈ lw_tbg) (hi : Cond.instanceMethod γ'.1 ∈ lw_tbg) (hy1 : γ'.1.name = "<init>") (hdg : decode γ.2.1 pc = .ok (.invokespecial idx, 3))
    (hst : st = As.reverse ++ .ref b :: rest) (hn : As.length = n) (hle : (aArgs (.ref b :: As)).length ≤ γ'.2.2.1) (h8 : aSm rest ≤ 8) (hal : mc' ≤ al.1 ∧ ms' ≤ al.2) (hbd : aBdd E.1 rest ∧ aBdl E.1 lo)
    (hc : Ex γ' d mc' ms' E.1 (mc', ms') 0 (aEn γ'.2.2.1 (.ref b :: As)) [] E I J Q')
    (k : ∀ r E' I' J', Q' r E' I' J' → Ex γ (d + 1) mc ms n0 (al.1 - mc', al.2 - ms') (pc + 3) lo (r.toList ++ rest) E' I' J' Q) : Ex γ (d + 1) mc ms n0 al pc lo st E I J Q := by
  refine Ex.after (mc' := mc') (ms' := ms') (rest := rest) (Q' := Q') hal (Or.inr hbd) ?_ k
  intro p l e R s m args below meth c D cA A ad0 C ad H locs ls cells slots hl0 hP hD hc0 hs0
  obtain ⟨hx, hbb, hml, hrt, hown, hts, hlk, hnm, ⟨hf, hlo, hrc, hrs⟩, ⟨hK, hAO⟩, hA, hX⟩ := C
  have hM := Ex.met hkn.1 hkn.2.1 hle hc l D cA ad H.size
  have hcb := aKn_call (mc' := mc') (ms' := ms') (own := γ.1.cls) hkn hts hf hlo rfl hl
  rw [hret] at hcb
  subst hst
  have r := va_runI (As := As.map (tv ad)) (rest := rest.map (tv ad)) (b := ad b) (locs := locs) (cells := cells) (slots := slots) (H := H) (g := F0 m pc ls ((As.reverse ++ .ref b :: rest).map (tv ad))) (below := below) (meth := meth) (e := e) (l := l) (nL := γ.2.2.1) ⟨hx, hbb, hml, hown, hts⟩ hM ⟨hcb, hy1, hts _ hi⟩ ⟨aPre_blind, fun U hU hW => ⟨rfl, by rw [hU], by rw [hU]; exact hP, aTb.moved hW.alike ⟨hK, hAO⟩, hD.weaken (fun _ _ _ _ => trivial)⟩⟩ rfl (by rw [List.length_map]; exact hn) hl0.2.1 (by show (As.reverse ++ Value.ref b :: rest).map (tv ad) = _; rw [List.map_append, List.map_reverse]; rfl) (lv_room (by rw [aSm_tv]; exact h8)) hdg ⟨by omega, by omega⟩
  intro T hT X
  obtain ⟨v, st₀, t, T', L, g1, X', hL, e1, e2, hq, stp⟩ := r T hT X
  exact ⟨v, st₀, t, T', L, g1, X', hL, e1, e2, ⟨_, hq⟩, stp⟩
end
section
/-! WORDS: methods, fields, links -/
def R_law : String := "MarkovChainDistancesLaw"
theorem tbg_of (ws : List Cond) (ps : List Nat) (hp : ws = ps.filterMap (fun i => lw_tbl[i]?)) (hg : ws.all goodWord = true) : ∀ w ∈ ws, w ∈ lw_tbg := by
  intro w hw
  have h1 := List.all_eq_true.mp hg w hw
  rw [hp] at hw
  obtain ⟨i, -, hi⟩ := List.mem_filterMap.mp hw
  exact in_tbg i hi h1
theorem cK_0 : ∀ w ∈ u_ws RX0 TX0 3, w ∈ lw_tbg := tbg_of _ [318, 320, 322] (by decide +kernel) (by decide +kernel)
theorem cK_1 : ∀ w ∈ u_ws RX1 TX1 6, w ∈ lw_tbg := tbg_of _ [130, 132, 134, 136, 138, 140] (by decide +kernel) (by decide +kernel)
theorem cK_2 : ∀ w ∈ u_ws RX2 TX2 8, w ∈ lw_tbg := tbg_of _ [288, 290, 292, 294, 296, 298, 300, 302] (by decide +kernel) (by decide +kernel)
theorem cK_3 : ∀ w ∈ u_ws RX3 TX3 5, w ∈ lw_tbg := tbg_of _ [215, 217, 219, 221, 223] (by decide +kernel) (by decide +kernel)
theorem cK_4 : ∀ w ∈ u_ws RX4 TX4 3, w ∈ lw_tbg := tbg_of _ [157, 159, 161] (by decide +kernel) (by decide +kernel)
theorem cK_5 : ∀ w ∈ u_ws RX5 TX5 2, w ∈ lw_tbg := tbg_of _ [274, 276] (by decide +kernel) (by decide +kernel)
theorem cK_6 : ∀ w ∈ u_ws RX6 TX6 3, w ∈ lw_tbg := tbg_of _ [237, 239, 241] (by decide +kernel) (by decide +kernel)
theorem cK_7 : ∀ w ∈ u_ws RX7 TX7 2, w ∈ lw_tbg := tbg_of _ [252, 254] (by decide +kernel) (by decide +kernel)
theorem cK_8 : ∀ w ∈ u_ws RX8 TX8 9, w ∈ lw_tbg := tbg_of _ [188, 190, 192, 194, 196, 198, 200, 202, 204] (by decide +kernel) (by decide +kernel)
theorem cK_9 : ∀ w ∈ u_ws RX9 TX9 11, w ∈ lw_tbg := tbg_of _ [336, 338, 340, 342, 344, 346, 348, 350, 352, 354, 356] (by decide +kernel) (by decide +kernel)
theorem cK_10 : ∀ w ∈ u_ws RX10 TX10 30, w ∈ lw_tbg := tbg_of _ [856, 858, 860, 862, 864, 866, 868, 870, 872, 874, 876, 878, 880, 882, 884, 886, 888, 890, 892, 894, 896, 898, 900, 902, 904, 906, 908, 910, 912, 914] (by decide +kernel) (by decide +kernel)
def m_X0_init : aM := (yX0_init, cX0_init, 2, none, none)
theorem kn_X0_init : aKn m_X0_init 0 := ⟨(by decide +kernel), rfl, (in_tbg 309 (by decide +kernel) (by decide +kernel)), (in_tbg 79 (by decide +kernel) (by decide +kernel)), ⟨(by decide +kernel), (by decide +kernel), (by decide +kernel)⟩, by decide⟩
theorem im_X0_init : Cond.instanceMethod yX0_init ∈ lw_tbg := (in_tbg 308 (by decide +kernel) (by decide +kernel))
def m_X0_isEmpty : aM := (yX0_isEmpty, cX0_isEmpty, 2, some .boolean, none)
theorem kn_X0_isEmpty : aKn m_X0_isEmpty 1 := ⟨(by decide +kernel), rfl, (in_tbg 775 (by decide +kernel) (by decide +kernel)), (in_tbg 79 (by decide +kernel) (by decide +kernel)), ⟨(by decide +kernel), (by decide +kernel), (by decide +kernel)⟩, by decide⟩
theorem im_X0_isEmpty : Cond.instanceMethod yX0_isEmpty ∈ lw_tbg := (in_tbg 773 (by decide +kernel) (by decide +kernel))
theorem se_X0_isEmpty : Cond.selects RX0 yX0_isEmpty yX0_isEmpty ∈ lw_tbg := (in_tbg 774 (by decide +kernel) (by decide +kernel))
def m_X0_hasIndex : aM := (yX0_hasIndex, cX0_hasIndex, 3, some .boolean, none)
theorem kn_X0_hasIndex : aKn m_X0_hasIndex 2 := ⟨(by decide +kernel), rfl, (in_tbg 783 (by decide +kernel) (by decide +kernel)), (in_tbg 79 (by decide +kernel) (by decide +kernel)), ⟨(by decide +kernel), (by decide +kernel), (by decide +kernel)⟩, by decide⟩
theorem im_X0_hasIndex : Cond.instanceMethod yX0_hasIndex ∈ lw_tbg := (in_tbg 781 (by decide +kernel) (by decide +kernel))
theorem se_X0_hasIndex : Cond.selects RX0 yX0_hasIndex yX0_hasIndex ∈ lw_tbg := (in_tbg 782 (by decide +kernel) (by decide +kernel))
def m_X0_hasRange : aM := (yX0_hasRange, cX0_hasRange, 4, some .boolean, none)
theorem kn_X0_hasRange : aKn m_X0_hasRange 3 := ⟨(by decide +kernel), rfl, (in_tbg 798 (by decide +kernel) (by decide +kernel)), (in_tbg 79 (by decide +kernel) (by decide +kernel)), ⟨(by decide +kernel), (by decide +kernel), (by decide +kernel)⟩, by decide⟩
theorem im_X0_hasRange : Cond.instanceMethod yX0_hasRange ∈ lw_tbg := (in_tbg 796 (by decide +kernel) (by decide +kernel))
theorem se_X0_hasRange : Cond.selects RX0 yX0_hasRange yX0_hasRange ∈ lw_tbg := (in_tbg 797 (by decide +kernel) (by decide +kernel))
def m_X0_fillNew : aM := (yX0_fillNew, cX0_fillNew, 5, none, none)
theorem kn_X0_fillNew : aKn m_X0_fillNew 3 := ⟨(by decide +kernel), rfl, (in_tbg 767 (by decide +kernel) (by decide +kernel)), (in_tbg 79 (by decide +kernel) (by decide +kernel)), ⟨(by decide +kernel), (by decide +kernel), (by decide +kernel)⟩, by decide⟩
theorem im_X0_fillNew : Cond.instanceMethod yX0_fillNew ∈ lw_tbg := (in_tbg 765 (by decide +kernel) (by decide +kernel))
theorem se_X0_fillNew : Cond.selects RX0 yX0_fillNew yX0_fillNew ∈ lw_tbg := (in_tbg 766 (by decide +kernel) (by decide +kernel))
def m_X0_narrowed : aM := (yX0_narrowed, cX0_narrowed, 3, some .long, none)
theorem kn_X0_narrowed : aKn m_X0_narrowed 2 := ⟨(by decide +kernel), rfl, (in_tbg 786 (by decide +kernel) (by decide +kernel)), (in_tbg 79 (by decide +kernel) (by decide +kernel)), ⟨(by decide +kernel), (by decide +kernel), (by decide +kernel)⟩, by decide⟩
theorem sm_X0_narrowed : Cond.static yX0_narrowed ∈ lw_tbg := (in_tbg 785 (by decide +kernel) (by decide +kernel))
def m_X1_init : aM := (yX1_init, cX1_init, 1, none, none)
theorem kn_X1_init : aKn m_X1_init 0 := ⟨(by decide +kernel), rfl, (in_tbg 95 (by decide +kernel) (by decide +kernel)), (in_tbg 71 (by decide +kernel) (by decide +kernel)), ⟨(by decide +kernel), (by decide +kernel), (by decide +kernel)⟩, by decide⟩
theorem im_X1_init : Cond.instanceMethod yX1_init ∈ lw_tbg := (in_tbg 94 (by decide +kernel) (by decide +kernel))
def m_X1_start : aM := (yX1_start, cX1_start, 4, none, none)
theorem kn_X1_start : aKn m_X1_start 2 := ⟨(by decide +kernel), rfl, (in_tbg 100 (by decide +kernel) (by decide +kernel)), (in_tbg 71 (by decide +kernel) (by decide +kernel)), ⟨(by decide +kernel), (by decide +kernel), (by decide +kernel)⟩, by decide⟩
theorem im_X1_start : Cond.instanceMethod yX1_start ∈ lw_tbg := (in_tbg 98 (by decide +kernel) (by decide +kernel))
theorem se_X1_start : Cond.selects RX1 yX1_start yX1_start ∈ lw_tbg := (in_tbg 99 (by decide +kernel) (by decide +kernel))
def m_X1_has : aM := (yX1_has, cX1_has, 2, some .boolean, none)
theorem kn_X1_has : aKn m_X1_has 1 := ⟨(by decide +kernel), rfl, (in_tbg 386 (by decide +kernel) (by decide +kernel)), (in_tbg 71 (by decide +kernel) (by decide +kernel)), ⟨(by decide +kernel), (by decide +kernel), (by decide +kernel)⟩, by decide⟩
theorem im_X1_has : Cond.instanceMethod yX1_has ∈ lw_tbg := (in_tbg 384 (by decide +kernel) (by decide +kernel))
theorem se_X1_has : Cond.selects RX1 yX1_has yX1_has ∈ lw_tbg := (in_tbg 385 (by decide +kernel) (by decide +kernel))
def m_X1_copyFrom : aM := (yX1_copyFrom, cX1_copyFrom, 2, none, none)
theorem kn_X1_copyFrom : aKn m_X1_copyFrom 1 := ⟨(by decide +kernel), rfl, (in_tbg 394 (by decide +kernel) (by decide +kernel)), (in_tbg 71 (by decide +kernel) (by decide +kernel)), ⟨(by decide +kernel), (by decide +kernel), (by decide +kernel)⟩, by decide⟩
theorem im_X1_copyFrom : Cond.instanceMethod yX1_copyFrom ∈ lw_tbg := (in_tbg 392 (by decide +kernel) (by decide +kernel))
theorem se_X1_copyFrom : Cond.selects RX1 yX1_copyFrom yX1_copyFrom ∈ lw_tbg := (in_tbg 393 (by decide +kernel) (by decide +kernel))
def m_X1_copySwapped : aM := (yX1_copySwapped, cX1_copySwapped, 8, none, none)
theorem kn_X1_copySwapped : aKn m_X1_copySwapped 3 := ⟨(by decide +kernel), rfl, (in_tbg 424 (by decide +kernel) (by decide +kernel)), (in_tbg 71 (by decide +kernel) (by decide +kernel)), ⟨(by decide +kernel), (by decide +kernel), (by decide +kernel)⟩, by decide⟩
theorem im_X1_copySwapped : Cond.instanceMethod yX1_copySwapped ∈ lw_tbg := (in_tbg 422 (by decide +kernel) (by decide +kernel))
theorem se_X1_copySwapped : Cond.selects RX1 yX1_copySwapped yX1_copySwapped ∈ lw_tbg := (in_tbg 423 (by decide +kernel) (by decide +kernel))
def m_X1_swapped : aM := (yX1_swapped, cX1_swapped, 3, some .int, none)
theorem kn_X1_swapped : aKn m_X1_swapped 3 := ⟨(by decide +kernel), rfl, (in_tbg 428 (by decide +kernel) (by decide +kernel)), (in_tbg 71 (by decide +kernel) (by decide +kernel)), ⟨(by decide +kernel), (by decide +kernel), (by decide +kernel)⟩, by decide⟩
theorem sm_X1_swapped : Cond.static yX1_swapped ∈ lw_tbg := (in_tbg 427 (by decide +kernel) (by decide +kernel))
def m_X1_sameAs : aM := (yX1_sameAs, cX1_sameAs, 3, some .boolean, none)
theorem kn_X1_sameAs : aKn m_X1_sameAs 1 := ⟨(by decide +kernel), rfl, (in_tbg 432 (by decide +kernel) (by decide +kernel)), (in_tbg 71 (by decide +kernel) (by decide +kernel)), ⟨(by decide +kernel), (by decide +kernel), (by decide +kernel)⟩, by decide⟩
theorem im_X1_sameAs : Cond.instanceMethod yX1_sameAs ∈ lw_tbg := (in_tbg 430 (by decide +kernel) (by decide +kernel))
theorem se_X1_sameAs : Cond.selects RX1 yX1_sameAs yX1_sameAs ∈ lw_tbg := (in_tbg 431 (by decide +kernel) (by decide +kernel))
def m_X1_successorAt : aM := (yX1_successorAt, cX1_successorAt, 5, some .int, none)
theorem kn_X1_successorAt : aKn m_X1_successorAt 2 := ⟨(by decide +kernel), rfl, (in_tbg 686 (by decide +kernel) (by decide +kernel)), (in_tbg 71 (by decide +kernel) (by decide +kernel)), ⟨(by decide +kernel), (by decide +kernel), (by decide +kernel)⟩, by decide⟩
theorem im_X1_successorAt : Cond.instanceMethod yX1_successorAt ∈ lw_tbg := (in_tbg 684 (by decide +kernel) (by decide +kernel))
theorem se_X1_successorAt : Cond.selects RX1 yX1_successorAt yX1_successorAt ∈ lw_tbg := (in_tbg 685 (by decide +kernel) (by decide +kernel))
def m_X2_init : aM := (yX2_init, cX2_init, 1, none, none)
theorem kn_X2_init : aKn m_X2_init 0 := ⟨(by decide +kernel), rfl, (in_tbg 261 (by decide +kernel) (by decide +kernel)), (in_tbg 77 (by decide +kernel) (by decide +kernel)), ⟨(by decide +kernel), (by decide +kernel), (by decide +kernel)⟩, by decide⟩
theorem im_X2_init : Cond.instanceMethod yX2_init ∈ lw_tbg := (in_tbg 260 (by decide +kernel) (by decide +kernel))
def m_X2_readInput : aM := (yX2_readInput, cX2_readInput, 1, some .int, none)
theorem kn_X2_readInput : aKn m_X2_readInput 0 := ⟨(by decide +kernel), rfl, (in_tbg 713 (by decide +kernel) (by decide +kernel)), (in_tbg 77 (by decide +kernel) (by decide +kernel)), ⟨(by decide +kernel), (by decide +kernel), (by decide +kernel)⟩, by decide⟩
theorem im_X2_readInput : Cond.instanceMethod yX2_readInput ∈ lw_tbg := (in_tbg 711 (by decide +kernel) (by decide +kernel))
theorem se_X2_readInput : Cond.selects RX2 yX2_readInput yX2_readInput ∈ lw_tbg := (in_tbg 712 (by decide +kernel) (by decide +kernel))
def m_X2_clear : aM := (yX2_clear, cX2_clear, 2, none, none)
theorem kn_X2_clear : aKn m_X2_clear 0 := ⟨(by decide +kernel), rfl, (in_tbg 717 (by decide +kernel) (by decide +kernel)), (in_tbg 77 (by decide +kernel) (by decide +kernel)), ⟨(by decide +kernel), (by decide +kernel), (by decide +kernel)⟩, by decide⟩
theorem im_X2_clear : Cond.instanceMethod yX2_clear ∈ lw_tbg := (in_tbg 716 (by decide +kernel) (by decide +kernel))
theorem se_X2_clear : Cond.selects RX2 yX2_clear yX2_clear ∈ lw_tbg := (in_tbg 23 (by decide +kernel) (by decide +kernel))
def m_X2_readStates : aM := (yX2_readStates, cX2_readStates, 2, none, none)
theorem kn_X2_readStates : aKn m_X2_readStates 0 := ⟨(by decide +kernel), rfl, (in_tbg 738 (by decide +kernel) (by decide +kernel)), (in_tbg 77 (by decide +kernel) (by decide +kernel)), ⟨(by decide +kernel), (by decide +kernel), (by decide +kernel)⟩, by decide⟩
theorem im_X2_readStates : Cond.instanceMethod yX2_readStates ∈ lw_tbg := (in_tbg 737 (by decide +kernel) (by decide +kernel))
theorem se_X2_readStates : Cond.selects RX2 yX2_readStates yX2_readStates ∈ lw_tbg := (in_tbg 27 (by decide +kernel) (by decide +kernel))
def m_X2_readState : aM := (yX2_readState, cX2_readState, 3, none, none)
theorem kn_X2_readState : aKn m_X2_readState 1 := ⟨(by decide +kernel), rfl, (in_tbg 742 (by decide +kernel) (by decide +kernel)), (in_tbg 77 (by decide +kernel) (by decide +kernel)), ⟨(by decide +kernel), (by decide +kernel), (by decide +kernel)⟩, by decide⟩
theorem im_X2_readState : Cond.instanceMethod yX2_readState ∈ lw_tbg := (in_tbg 741 (by decide +kernel) (by decide +kernel))
theorem se_X2_readState : Cond.selects RX2 yX2_readState yX2_readState ∈ lw_tbg := (in_tbg 28 (by decide +kernel) (by decide +kernel))
def m_X2_readEdge : aM := (yX2_readEdge, cX2_readEdge, 4, none, none)
theorem kn_X2_readEdge : aKn m_X2_readEdge 1 := ⟨(by decide +kernel), rfl, (in_tbg 746 (by decide +kernel) (by decide +kernel)), (in_tbg 77 (by decide +kernel) (by decide +kernel)), ⟨(by decide +kernel), (by decide +kernel), (by decide +kernel)⟩, by decide⟩
theorem im_X2_readEdge : Cond.instanceMethod yX2_readEdge ∈ lw_tbg := (in_tbg 745 (by decide +kernel) (by decide +kernel))
theorem se_X2_readEdge : Cond.selects RX2 yX2_readEdge yX2_readEdge ∈ lw_tbg := (in_tbg 29 (by decide +kernel) (by decide +kernel))
def m_X2_takeNumber : aM := (yX2_takeNumber, cX2_takeNumber, 4, some .int, none)
theorem kn_X2_takeNumber : aKn m_X2_takeNumber 1 := ⟨(by decide +kernel), rfl, (in_tbg 721 (by decide +kernel) (by decide +kernel)), (in_tbg 77 (by decide +kernel) (by decide +kernel)), ⟨(by decide +kernel), (by decide +kernel), (by decide +kernel)⟩, by decide⟩
theorem im_X2_takeNumber : Cond.instanceMethod yX2_takeNumber ∈ lw_tbg := (in_tbg 720 (by decide +kernel) (by decide +kernel))
theorem se_X2_takeNumber : Cond.selects RX2 yX2_takeNumber yX2_takeNumber ∈ lw_tbg := (in_tbg 24 (by decide +kernel) (by decide +kernel))
def m_X2_take : aM := (yX2_take, cX2_take, 2, none, none)
theorem kn_X2_take : aKn m_X2_take 1 := ⟨(by decide +kernel), rfl, (in_tbg 726 (by decide +kernel) (by decide +kernel)), (in_tbg 77 (by decide +kernel) (by decide +kernel)), ⟨(by decide +kernel), (by decide +kernel), (by decide +kernel)⟩, by decide⟩
theorem im_X2_take : Cond.instanceMethod yX2_take ∈ lw_tbg := (in_tbg 725 (by decide +kernel) (by decide +kernel))
theorem se_X2_take : Cond.selects RX2 yX2_take yX2_take ∈ lw_tbg := (in_tbg 25 (by decide +kernel) (by decide +kernel))
def m_X2_takeIfPresent : aM := (yX2_takeIfPresent, cX2_takeIfPresent, 2, some .boolean, none)
theorem kn_X2_takeIfPresent : aKn m_X2_takeIfPresent 1 := ⟨(by decide +kernel), rfl, (in_tbg 730 (by decide +kernel) (by decide +kernel)), (in_tbg 77 (by decide +kernel) (by decide +kernel)), ⟨(by decide +kernel), (by decide +kernel), (by decide +kernel)⟩, by decide⟩
theorem im_X2_takeIfPresent : Cond.instanceMethod yX2_takeIfPresent ∈ lw_tbg := (in_tbg 729 (by decide +kernel) (by decide +kernel))
theorem se_X2_takeIfPresent : Cond.selects RX2 yX2_takeIfPresent yX2_takeIfPresent ∈ lw_tbg := (in_tbg 26 (by decide +kernel) (by decide +kernel))
def m_X2_isConsistent : aM := (yX2_isConsistent, cX2_isConsistent, 4, some .boolean, none)
theorem kn_X2_isConsistent : aKn m_X2_isConsistent 0 := ⟨(by decide +kernel), rfl, (in_tbg 751 (by decide +kernel) (by decide +kernel)), (in_tbg 77 (by decide +kernel) (by decide +kernel)), ⟨(by decide +kernel), (by decide +kernel), (by decide +kernel)⟩, by decide⟩
theorem im_X2_isConsistent : Cond.instanceMethod yX2_isConsistent ∈ lw_tbg := (in_tbg 750 (by decide +kernel) (by decide +kernel))
theorem se_X2_isConsistent : Cond.selects RX2 yX2_isConsistent yX2_isConsistent ∈ lw_tbg := (in_tbg 30 (by decide +kernel) (by decide +kernel))
def m_X2_writeTo : aM := (yX2_writeTo, cX2_writeTo, 4, none, none)
theorem kn_X2_writeTo : aKn m_X2_writeTo 1 := ⟨(by decide +kernel), rfl, (in_tbg 755 (by decide +kernel) (by decide +kernel)), (in_tbg 77 (by decide +kernel) (by decide +kernel)), ⟨(by decide +kernel), (by decide +kernel), (by decide +kernel)⟩, by decide⟩
theorem im_X2_writeTo : Cond.instanceMethod yX2_writeTo ∈ lw_tbg := (in_tbg 753 (by decide +kernel) (by decide +kernel))
theorem se_X2_writeTo : Cond.selects RX2 yX2_writeTo yX2_writeTo ∈ lw_tbg := (in_tbg 754 (by decide +kernel) (by decide +kernel))
def m_X3_init : aM := (yX3_init, cX3_init, 1, none, none)
theorem kn_X3_init : aKn m_X3_init 0 := ⟨(by decide +kernel), rfl, (in_tbg 168 (by decide +kernel) (by decide +kernel)), (in_tbg 73 (by decide +kernel) (by decide +kernel)), ⟨(by decide +kernel), (by decide +kernel), (by decide +kernel)⟩, by decide⟩
theorem im_X3_init : Cond.instanceMethod yX3_init ∈ lw_tbg := (in_tbg 167 (by decide +kernel) (by decide +kernel))
def m_X3_levelFor : aM := (yX3_levelFor, cX3_levelFor, 4, some (.array .long), none)
theorem kn_X3_levelFor : aKn m_X3_levelFor 2 := ⟨(by decide +kernel), rfl, (in_tbg 467 (by decide +kernel) (by decide +kernel)), (in_tbg 73 (by decide +kernel) (by decide +kernel)), ⟨(by decide +kernel), (by decide +kernel), (by decide +kernel)⟩, by decide⟩
theorem im_X3_levelFor : Cond.instanceMethod yX3_levelFor ∈ lw_tbg := (in_tbg 465 (by decide +kernel) (by decide +kernel))
theorem se_X3_levelFor : Cond.selects RX3 yX3_levelFor yX3_levelFor ∈ lw_tbg := (in_tbg 466 (by decide +kernel) (by decide +kernel))
def m_X3_fillLevel : aM := (yX3_fillLevel, cX3_fillLevel, 6, none, none)
theorem kn_X3_fillLevel : aKn m_X3_fillLevel 1 := ⟨(by decide +kernel), rfl, (in_tbg 473 (by decide +kernel) (by decide +kernel)), (in_tbg 73 (by decide +kernel) (by decide +kernel)), ⟨(by decide +kernel), (by decide +kernel), (by decide +kernel)⟩, by decide⟩
theorem im_X3_fillLevel : Cond.instanceMethod yX3_fillLevel ∈ lw_tbg := (in_tbg 472 (by decide +kernel) (by decide +kernel))
theorem se_X3_fillLevel : Cond.selects RX3 yX3_fillLevel yX3_fillLevel ∈ lw_tbg := (in_tbg 2 (by decide +kernel) (by decide +kernel))
def m_X3_canonicalCoupling : aM := (yX3_canonicalCoupling, cX3_canonicalCoupling, 4, some (.array .int), none)
theorem kn_X3_canonicalCoupling : aKn m_X3_canonicalCoupling 3 := ⟨(by decide +kernel), rfl, (in_tbg 551 (by decide +kernel) (by decide +kernel)), (in_tbg 73 (by decide +kernel) (by decide +kernel)), ⟨(by decide +kernel), (by decide +kernel), (by decide +kernel)⟩, by decide⟩
theorem im_X3_canonicalCoupling : Cond.instanceMethod yX3_canonicalCoupling ∈ lw_tbg := (in_tbg 549 (by decide +kernel) (by decide +kernel))
theorem se_X3_canonicalCoupling : Cond.selects RX3 yX3_canonicalCoupling yX3_canonicalCoupling ∈ lw_tbg := (in_tbg 550 (by decide +kernel) (by decide +kernel))
def m_X3_inLowestTerms : aM := (yX3_inLowestTerms, cX3_inLowestTerms, 9, some .long, none)
theorem kn_X3_inLowestTerms : aKn m_X3_inLowestTerms 3 := ⟨(by decide +kernel), rfl, (in_tbg 520 (by decide +kernel) (by decide +kernel)), (in_tbg 73 (by decide +kernel) (by decide +kernel)), ⟨(by decide +kernel), (by decide +kernel), (by decide +kernel)⟩, by decide⟩
theorem im_X3_inLowestTerms : Cond.instanceMethod yX3_inLowestTerms ∈ lw_tbg := (in_tbg 518 (by decide +kernel) (by decide +kernel))
theorem se_X3_inLowestTerms : Cond.selects RX3 yX3_inLowestTerms yX3_inLowestTerms ∈ lw_tbg := (in_tbg 519 (by decide +kernel) (by decide +kernel))
def m_X3_greatestCommonDivisor : aM := (yX3_greatestCommonDivisor, cX3_greatestCommonDivisor, 11, some .long, none)
theorem kn_X3_greatestCommonDivisor : aKn m_X3_greatestCommonDivisor 2 := ⟨(by decide +kernel), rfl, (in_tbg 523 (by decide +kernel) (by decide +kernel)), (in_tbg 73 (by decide +kernel) (by decide +kernel)), ⟨(by decide +kernel), (by decide +kernel), (by decide +kernel)⟩, by decide⟩
theorem sm_X3_greatestCommonDivisor : Cond.static yX3_greatestCommonDivisor ∈ lw_tbg := (in_tbg 522 (by decide +kernel) (by decide +kernel))
def m_X4_init : aM := (yX4_init, cX4_init, 2, none, none)
theorem kn_X4_init : aKn m_X4_init 0 := ⟨(by decide +kernel), rfl, (in_tbg 148 (by decide +kernel) (by decide +kernel)), (in_tbg 72 (by decide +kernel) (by decide +kernel)), ⟨(by decide +kernel), (by decide +kernel), (by decide +kernel)⟩, by decide⟩
theorem im_X4_init : Cond.instanceMethod yX4_init ∈ lw_tbg := (in_tbg 147 (by decide +kernel) (by decide +kernel))
def m_X4_remember : aM := (yX4_remember, cX4_remember, 2, none, none)
theorem kn_X4_remember : aKn m_X4_remember 1 := ⟨(by decide +kernel), rfl, (in_tbg 390 (by decide +kernel) (by decide +kernel)), (in_tbg 72 (by decide +kernel) (by decide +kernel)), ⟨(by decide +kernel), (by decide +kernel), (by decide +kernel)⟩, by decide⟩
theorem im_X4_remember : Cond.instanceMethod yX4_remember ∈ lw_tbg := (in_tbg 388 (by decide +kernel) (by decide +kernel))
theorem se_X4_remember : Cond.selects RX4 yX4_remember yX4_remember ∈ lw_tbg := (in_tbg 389 (by decide +kernel) (by decide +kernel))
def m_X4_takeLast : aM := (yX4_takeLast, cX4_takeLast, 2, none, none)
theorem kn_X4_takeLast : aKn m_X4_takeLast 1 := ⟨(by decide +kernel), rfl, (in_tbg 441 (by decide +kernel) (by decide +kernel)), (in_tbg 72 (by decide +kernel) (by decide +kernel)), ⟨(by decide +kernel), (by decide +kernel), (by decide +kernel)⟩, by decide⟩
theorem im_X4_takeLast : Cond.instanceMethod yX4_takeLast ∈ lw_tbg := (in_tbg 439 (by decide +kernel) (by decide +kernel))
theorem se_X4_takeLast : Cond.selects RX4 yX4_takeLast yX4_takeLast ∈ lw_tbg := (in_tbg 440 (by decide +kernel) (by decide +kernel))
def m_X4_forgetAll : aM := (yX4_forgetAll, cX4_forgetAll, 1, none, none)
theorem kn_X4_forgetAll : aKn m_X4_forgetAll 0 := ⟨(by decide +kernel), rfl, (in_tbg 370 (by decide +kernel) (by decide +kernel)), (in_tbg 72 (by decide +kernel) (by decide +kernel)), ⟨(by decide +kernel), (by decide +kernel), (by decide +kernel)⟩, by decide⟩
theorem im_X4_forgetAll : Cond.instanceMethod yX4_forgetAll ∈ lw_tbg := (in_tbg 368 (by decide +kernel) (by decide +kernel))
theorem se_X4_forgetAll : Cond.selects RX4 yX4_forgetAll yX4_forgetAll ∈ lw_tbg := (in_tbg 369 (by decide +kernel) (by decide +kernel))
def m_X5_init : aM := (yX5_init, cX5_init, 1, none, none)
theorem kn_X5_init : aKn m_X5_init 0 := ⟨(by decide +kernel), rfl, (in_tbg 267 (by decide +kernel) (by decide +kernel)), (in_tbg 78 (by decide +kernel) (by decide +kernel)), ⟨(by decide +kernel), (by decide +kernel), (by decide +kernel)⟩, by decide⟩
theorem im_X5_init : Cond.instanceMethod yX5_init ∈ lw_tbg := (in_tbg 266 (by decide +kernel) (by decide +kernel))
def m_X5_add : aM := (yX5_add, cX5_add, 2, none, none)
theorem kn_X5_add : aKn m_X5_add 1 := ⟨(by decide +kernel), rfl, (in_tbg 701 (by decide +kernel) (by decide +kernel)), (in_tbg 78 (by decide +kernel) (by decide +kernel)), ⟨(by decide +kernel), (by decide +kernel), (by decide +kernel)⟩, by decide⟩
theorem im_X5_add : Cond.instanceMethod yX5_add ∈ lw_tbg := (in_tbg 699 (by decide +kernel) (by decide +kernel))
theorem se_X5_add : Cond.selects RX5 yX5_add yX5_add ∈ lw_tbg := (in_tbg 700 (by decide +kernel) (by decide +kernel))
def m_X5_empty : aM := (yX5_empty, cX5_empty, 1, none, none)
theorem kn_X5_empty : aKn m_X5_empty 0 := ⟨(by decide +kernel), rfl, (in_tbg 674 (by decide +kernel) (by decide +kernel)), (in_tbg 78 (by decide +kernel) (by decide +kernel)), ⟨(by decide +kernel), (by decide +kernel), (by decide +kernel)⟩, by decide⟩
theorem im_X5_empty : Cond.instanceMethod yX5_empty ∈ lw_tbg := (in_tbg 672 (by decide +kernel) (by decide +kernel))
theorem se_X5_empty : Cond.selects RX5 yX5_empty yX5_empty ∈ lw_tbg := (in_tbg 673 (by decide +kernel) (by decide +kernel))
def m_X5_holdsAt : aM := (yX5_holdsAt, cX5_holdsAt, 3, some .boolean, none)
theorem kn_X5_holdsAt : aKn m_X5_holdsAt 2 := ⟨(by decide +kernel), rfl, (in_tbg 734 (by decide +kernel) (by decide +kernel)), (in_tbg 78 (by decide +kernel) (by decide +kernel)), ⟨(by decide +kernel), (by decide +kernel), (by decide +kernel)⟩, by decide⟩
theorem im_X5_holdsAt : Cond.instanceMethod yX5_holdsAt ∈ lw_tbg := (in_tbg 732 (by decide +kernel) (by decide +kernel))
theorem se_X5_holdsAt : Cond.selects RX5 yX5_holdsAt yX5_holdsAt ∈ lw_tbg := (in_tbg 733 (by decide +kernel) (by decide +kernel))
def m_X5_digitAt : aM := (yX5_digitAt, cX5_digitAt, 2, some .int, none)
theorem kn_X5_digitAt : aKn m_X5_digitAt 1 := ⟨(by decide +kernel), rfl, (in_tbg 665 (by decide +kernel) (by decide +kernel)), (in_tbg 78 (by decide +kernel) (by decide +kernel)), ⟨(by decide +kernel), (by decide +kernel), (by decide +kernel)⟩, by decide⟩
theorem im_X5_digitAt : Cond.instanceMethod yX5_digitAt ∈ lw_tbg := (in_tbg 663 (by decide +kernel) (by decide +kernel))
theorem se_X5_digitAt : Cond.selects RX5 yX5_digitAt yX5_digitAt ∈ lw_tbg := (in_tbg 664 (by decide +kernel) (by decide +kernel))
def m_X5_isLabelSequence : aM := (yX5_isLabelSequence, cX5_isLabelSequence, 3, some .boolean, none)
theorem kn_X5_isLabelSequence : aKn m_X5_isLabelSequence 0 := ⟨(by decide +kernel), rfl, (in_tbg 661 (by decide +kernel) (by decide +kernel)), (in_tbg 78 (by decide +kernel) (by decide +kernel)), ⟨(by decide +kernel), (by decide +kernel), (by decide +kernel)⟩, by decide⟩
theorem im_X5_isLabelSequence : Cond.instanceMethod yX5_isLabelSequence ∈ lw_tbg := (in_tbg 659 (by decide +kernel) (by decide +kernel))
theorem se_X5_isLabelSequence : Cond.selects RX5 yX5_isLabelSequence yX5_isLabelSequence ∈ lw_tbg := (in_tbg 660 (by decide +kernel) (by decide +kernel))
def m_X6_init : aM := (yX6_init, cX6_init, 1, none, none)
theorem kn_X6_init : aKn m_X6_init 0 := ⟨(by decide +kernel), rfl, (in_tbg 230 (by decide +kernel) (by decide +kernel)), (in_tbg 75 (by decide +kernel) (by decide +kernel)), ⟨(by decide +kernel), (by decide +kernel), (by decide +kernel)⟩, by decide⟩
theorem im_X6_init : Cond.instanceMethod yX6_init ∈ lw_tbg := (in_tbg 229 (by decide +kernel) (by decide +kernel))
def m_X6_refineFully : aM := (yX6_refineFully, cX6_refineFully, 3, none, none)
theorem kn_X6_refineFully : aKn m_X6_refineFully 1 := ⟨(by decide +kernel), rfl, (in_tbg 598 (by decide +kernel) (by decide +kernel)), (in_tbg 75 (by decide +kernel) (by decide +kernel)), ⟨(by decide +kernel), (by decide +kernel), (by decide +kernel)⟩, by decide⟩
theorem im_X6_refineFully : Cond.instanceMethod yX6_refineFully ∈ lw_tbg := (in_tbg 596 (by decide +kernel) (by decide +kernel))
theorem se_X6_refineFully : Cond.selects RX6 yX6_refineFully yX6_refineFully ∈ lw_tbg := (in_tbg 597 (by decide +kernel) (by decide +kernel))
def m_X6_refineOnce : aM := (yX6_refineOnce, cX6_refineOnce, 5, none, none)
theorem kn_X6_refineOnce : aKn m_X6_refineOnce 1 := ⟨(by decide +kernel), rfl, (in_tbg 602 (by decide +kernel) (by decide +kernel)), (in_tbg 75 (by decide +kernel) (by decide +kernel)), ⟨(by decide +kernel), (by decide +kernel), (by decide +kernel)⟩, by decide⟩
theorem im_X6_refineOnce : Cond.instanceMethod yX6_refineOnce ∈ lw_tbg := (in_tbg 601 (by decide +kernel) (by decide +kernel))
theorem se_X6_refineOnce : Cond.selects RX6 yX6_refineOnce yX6_refineOnce ∈ lw_tbg := (in_tbg 18 (by decide +kernel) (by decide +kernel))
def m_X6_agree : aM := (yX6_agree, cX6_agree, 5, some .boolean, none)
theorem kn_X6_agree : aKn m_X6_agree 3 := ⟨(by decide +kernel), rfl, (in_tbg 606 (by decide +kernel) (by decide +kernel)), (in_tbg 75 (by decide +kernel) (by decide +kernel)), ⟨(by decide +kernel), (by decide +kernel), (by decide +kernel)⟩, by decide⟩
theorem im_X6_agree : Cond.instanceMethod yX6_agree ∈ lw_tbg := (in_tbg 605 (by decide +kernel) (by decide +kernel))
theorem se_X6_agree : Cond.selects RX6 yX6_agree yX6_agree ∈ lw_tbg := (in_tbg 19 (by decide +kernel) (by decide +kernel))
def m_X6_weightToClass : aM := (yX6_weightToClass, cX6_weightToClass, 6, some .int, none)
theorem kn_X6_weightToClass : aKn m_X6_weightToClass 3 := ⟨(by decide +kernel), rfl, (in_tbg 610 (by decide +kernel) (by decide +kernel)), (in_tbg 75 (by decide +kernel) (by decide +kernel)), ⟨(by decide +kernel), (by decide +kernel), (by decide +kernel)⟩, by decide⟩
theorem im_X6_weightToClass : Cond.instanceMethod yX6_weightToClass ∈ lw_tbg := (in_tbg 609 (by decide +kernel) (by decide +kernel))
theorem se_X6_weightToClass : Cond.selects RX6 yX6_weightToClass yX6_weightToClass ∈ lw_tbg := (in_tbg 20 (by decide +kernel) (by decide +kernel))
def m_X6_writeQuotient : aM := (yX6_writeQuotient, cX6_writeQuotient, 6, none, none)
theorem kn_X6_writeQuotient : aKn m_X6_writeQuotient 2 := ⟨(by decide +kernel), rfl, (in_tbg 623 (by decide +kernel) (by decide +kernel)), (in_tbg 75 (by decide +kernel) (by decide +kernel)), ⟨(by decide +kernel), (by decide +kernel), (by decide +kernel)⟩, by decide⟩
theorem im_X6_writeQuotient : Cond.instanceMethod yX6_writeQuotient ∈ lw_tbg := (in_tbg 621 (by decide +kernel) (by decide +kernel))
theorem se_X6_writeQuotient : Cond.selects RX6 yX6_writeQuotient yX6_writeQuotient ∈ lw_tbg := (in_tbg 622 (by decide +kernel) (by decide +kernel))
def m_X7_init : aM := (yX7_init, cX7_init, 1, none, none)
theorem kn_X7_init : aKn m_X7_init 0 := ⟨(by decide +kernel), rfl, (in_tbg 248 (by decide +kernel) (by decide +kernel)), (in_tbg 76 (by decide +kernel) (by decide +kernel)), ⟨(by decide +kernel), (by decide +kernel), (by decide +kernel)⟩, by decide⟩
theorem im_X7_init : Cond.instanceMethod yX7_init ∈ lw_tbg := (in_tbg 247 (by decide +kernel) (by decide +kernel))
def m_X7_countReaching : aM := (yX7_countReaching, cX7_countReaching, 6, some .long, none)
theorem kn_X7_countReaching : aKn m_X7_countReaching 4 := ⟨(by decide +kernel), rfl, (in_tbg 633 (by decide +kernel) (by decide +kernel)), (in_tbg 76 (by decide +kernel) (by decide +kernel)), ⟨(by decide +kernel), (by decide +kernel), (by decide +kernel)⟩, by decide⟩
theorem im_X7_countReaching : Cond.instanceMethod yX7_countReaching ∈ lw_tbg := (in_tbg 631 (by decide +kernel) (by decide +kernel))
theorem se_X7_countReaching : Cond.selects RX7 yX7_countReaching yX7_countReaching ∈ lw_tbg := (in_tbg 632 (by decide +kernel) (by decide +kernel))
def m_X7_countFirstReaching : aM := (yX7_countFirstReaching, cX7_countFirstReaching, 9, some .long, none)
theorem kn_X7_countFirstReaching : aKn m_X7_countFirstReaching 4 := ⟨(by decide +kernel), rfl, (in_tbg 653 (by decide +kernel) (by decide +kernel)), (in_tbg 76 (by decide +kernel) (by decide +kernel)), ⟨(by decide +kernel), (by decide +kernel), (by decide +kernel)⟩, by decide⟩
theorem im_X7_countFirstReaching : Cond.instanceMethod yX7_countFirstReaching ∈ lw_tbg := (in_tbg 651 (by decide +kernel) (by decide +kernel))
theorem se_X7_countFirstReaching : Cond.selects RX7 yX7_countFirstReaching yX7_countFirstReaching ∈ lw_tbg := (in_tbg 652 (by decide +kernel) (by decide +kernel))
def m_X7_countSequence : aM := (yX7_countSequence, cX7_countSequence, 8, some .long, none)
theorem kn_X7_countSequence : aKn m_X7_countSequence 3 := ⟨(by decide +kernel), rfl, (in_tbg 669 (by decide +kernel) (by decide +kernel)), (in_tbg 76 (by decide +kernel) (by decide +kernel)), ⟨(by decide +kernel), (by decide +kernel), (by decide +kernel)⟩, by decide⟩
theorem im_X7_countSequence : Cond.instanceMethod yX7_countSequence ∈ lw_tbg := (in_tbg 667 (by decide +kernel) (by decide +kernel))
theorem se_X7_countSequence : Cond.selects RX7 yX7_countSequence yX7_countSequence ∈ lw_tbg := (in_tbg 668 (by decide +kernel) (by decide +kernel))
def m_X7_markTargets : aM := (yX7_markTargets, cX7_markTargets, 4, none, none)
theorem kn_X7_markTargets : aKn m_X7_markTargets 2 := ⟨(by decide +kernel), rfl, (in_tbg 637 (by decide +kernel) (by decide +kernel)), (in_tbg 76 (by decide +kernel) (by decide +kernel)), ⟨(by decide +kernel), (by decide +kernel), (by decide +kernel)⟩, by decide⟩
theorem im_X7_markTargets : Cond.instanceMethod yX7_markTargets ∈ lw_tbg := (in_tbg 636 (by decide +kernel) (by decide +kernel))
theorem se_X7_markTargets : Cond.selects RX7 yX7_markTargets yX7_markTargets ∈ lw_tbg := (in_tbg 21 (by decide +kernel) (by decide +kernel))
def m_X7_isTarget : aM := (yX7_isTarget, cX7_isTarget, 3, some .boolean, none)
theorem kn_X7_isTarget : aKn m_X7_isTarget 3 := ⟨(by decide +kernel), rfl, (in_tbg 640 (by decide +kernel) (by decide +kernel)), (in_tbg 76 (by decide +kernel) (by decide +kernel)), ⟨(by decide +kernel), (by decide +kernel), (by decide +kernel)⟩, by decide⟩
theorem sm_X7_isTarget : Cond.static yX7_isTarget ∈ lw_tbg := (in_tbg 639 (by decide +kernel) (by decide +kernel))
def m_X7_stepBack : aM := (yX7_stepBack, cX7_stepBack, 6, none, none)
theorem kn_X7_stepBack : aKn m_X7_stepBack 1 := ⟨(by decide +kernel), rfl, (in_tbg 644 (by decide +kernel) (by decide +kernel)), (in_tbg 76 (by decide +kernel) (by decide +kernel)), ⟨(by decide +kernel), (by decide +kernel), (by decide +kernel)⟩, by decide⟩
theorem im_X7_stepBack : Cond.instanceMethod yX7_stepBack ∈ lw_tbg := (in_tbg 643 (by decide +kernel) (by decide +kernel))
theorem se_X7_stepBack : Cond.selects RX7 yX7_stepBack yX7_stepBack ∈ lw_tbg := (in_tbg 22 (by decide +kernel) (by decide +kernel))
def m_X8_init : aM := (yX8_init, cX8_init, 1, none, none)
theorem kn_X8_init : aKn m_X8_init 0 := ⟨(by decide +kernel), rfl, (in_tbg 176 (by decide +kernel) (by decide +kernel)), (in_tbg 74 (by decide +kernel) (by decide +kernel)), ⟨(by decide +kernel), (by decide +kernel), (by decide +kernel)⟩, by decide⟩
theorem im_X8_init : Cond.instanceMethod yX8_init ∈ lw_tbg := (in_tbg 175 (by decide +kernel) (by decide +kernel))
def m_X8_useCosts : aM := (yX8_useCosts, cX8_useCosts, 2, none, none)
theorem kn_X8_useCosts : aKn m_X8_useCosts 1 := ⟨(by decide +kernel), rfl, (in_tbg 477 (by decide +kernel) (by decide +kernel)), (in_tbg 74 (by decide +kernel) (by decide +kernel)), ⟨(by decide +kernel), (by decide +kernel), (by decide +kernel)⟩, by decide⟩
theorem im_X8_useCosts : Cond.instanceMethod yX8_useCosts ∈ lw_tbg := (in_tbg 475 (by decide +kernel) (by decide +kernel))
theorem se_X8_useCosts : Cond.selects RX8 yX8_useCosts yX8_useCosts ∈ lw_tbg := (in_tbg 476 (by decide +kernel) (by decide +kernel))
def m_X8_solve : aM := (yX8_solve, cX8_solve, 7, some .long, none)
theorem kn_X8_solve : aKn m_X8_solve 3 := ⟨(by decide +kernel), rfl, (in_tbg 482 (by decide +kernel) (by decide +kernel)), (in_tbg 74 (by decide +kernel) (by decide +kernel)), ⟨(by decide +kernel), (by decide +kernel), (by decide +kernel)⟩, by decide⟩
theorem im_X8_solve : Cond.instanceMethod yX8_solve ∈ lw_tbg := (in_tbg 480 (by decide +kernel) (by decide +kernel))
theorem se_X8_solve : Cond.selects RX8 yX8_solve yX8_solve ∈ lw_tbg := (in_tbg 481 (by decide +kernel) (by decide +kernel))
def m_X8_startOnDiagonal : aM := (yX8_startOnDiagonal, cX8_startOnDiagonal, 8, none, none)
theorem kn_X8_startOnDiagonal : aKn m_X8_startOnDiagonal 3 := ⟨(by decide +kernel), rfl, (in_tbg 486 (by decide +kernel) (by decide +kernel)), (in_tbg 74 (by decide +kernel) (by decide +kernel)), ⟨(by decide +kernel), (by decide +kernel), (by decide +kernel)⟩, by decide⟩
theorem im_X8_startOnDiagonal : Cond.instanceMethod yX8_startOnDiagonal ∈ lw_tbg := (in_tbg 485 (by decide +kernel) (by decide +kernel))
theorem se_X8_startOnDiagonal : Cond.selects RX8 yX8_startOnDiagonal yX8_startOnDiagonal ∈ lw_tbg := (in_tbg 3 (by decide +kernel) (by decide +kernel))
def m_X8_sendFrom : aM := (yX8_sendFrom, cX8_sendFrom, 5, none, none)
theorem kn_X8_sendFrom : aKn m_X8_sendFrom 1 := ⟨(by decide +kernel), rfl, (in_tbg 491 (by decide +kernel) (by decide +kernel)), (in_tbg 74 (by decide +kernel) (by decide +kernel)), ⟨(by decide +kernel), (by decide +kernel), (by decide +kernel)⟩, by decide⟩
theorem im_X8_sendFrom : Cond.instanceMethod yX8_sendFrom ∈ lw_tbg := (in_tbg 490 (by decide +kernel) (by decide +kernel))
theorem se_X8_sendFrom : Cond.selects RX8 yX8_sendFrom yX8_sendFrom ∈ lw_tbg := (in_tbg 4 (by decide +kernel) (by decide +kernel))
def m_X8_openColumn : aM := (yX8_openColumn, cX8_openColumn, 2, some .int, none)
theorem kn_X8_openColumn : aKn m_X8_openColumn 0 := ⟨(by decide +kernel), rfl, (in_tbg 495 (by decide +kernel) (by decide +kernel)), (in_tbg 74 (by decide +kernel) (by decide +kernel)), ⟨(by decide +kernel), (by decide +kernel), (by decide +kernel)⟩, by decide⟩
theorem im_X8_openColumn : Cond.instanceMethod yX8_openColumn ∈ lw_tbg := (in_tbg 494 (by decide +kernel) (by decide +kernel))
theorem se_X8_openColumn : Cond.selects RX8 yX8_openColumn yX8_openColumn ∈ lw_tbg := (in_tbg 5 (by decide +kernel) (by decide +kernel))
def m_X8_makeCanonical : aM := (yX8_makeCanonical, cX8_makeCanonical, 3, none, none)
theorem kn_X8_makeCanonical : aKn m_X8_makeCanonical 0 := ⟨(by decide +kernel), rfl, (in_tbg 555 (by decide +kernel) (by decide +kernel)), (in_tbg 74 (by decide +kernel) (by decide +kernel)), ⟨(by decide +kernel), (by decide +kernel), (by decide +kernel)⟩, by decide⟩
theorem im_X8_makeCanonical : Cond.instanceMethod yX8_makeCanonical ∈ lw_tbg := (in_tbg 553 (by decide +kernel) (by decide +kernel))
theorem se_X8_makeCanonical : Cond.selects RX8 yX8_makeCanonical yX8_makeCanonical ∈ lw_tbg := (in_tbg 554 (by decide +kernel) (by decide +kernel))
def m_X8_reduceEntry : aM := (yX8_reduceEntry, cX8_reduceEntry, 6, none, none)
theorem kn_X8_reduceEntry : aKn m_X8_reduceEntry 2 := ⟨(by decide +kernel), rfl, (in_tbg 559 (by decide +kernel) (by decide +kernel)), (in_tbg 74 (by decide +kernel) (by decide +kernel)), ⟨(by decide +kernel), (by decide +kernel), (by decide +kernel)⟩, by decide⟩
theorem im_X8_reduceEntry : Cond.instanceMethod yX8_reduceEntry ∈ lw_tbg := (in_tbg 558 (by decide +kernel) (by decide +kernel))
theorem se_X8_reduceEntry : Cond.selects RX8 yX8_reduceEntry yX8_reduceEntry ∈ lw_tbg := (in_tbg 12 (by decide +kernel) (by decide +kernel))
def m_X8_findPaths : aM := (yX8_findPaths, cX8_findPaths, 5, none, none)
theorem kn_X8_findPaths : aKn m_X8_findPaths 2 := ⟨(by decide +kernel), rfl, (in_tbg 499 (by decide +kernel) (by decide +kernel)), (in_tbg 74 (by decide +kernel) (by decide +kernel)), ⟨(by decide +kernel), (by decide +kernel), (by decide +kernel)⟩, by decide⟩
theorem im_X8_findPaths : Cond.instanceMethod yX8_findPaths ∈ lw_tbg := (in_tbg 498 (by decide +kernel) (by decide +kernel))
theorem se_X8_findPaths : Cond.selects RX8 yX8_findPaths yX8_findPaths ∈ lw_tbg := (in_tbg 6 (by decide +kernel) (by decide +kernel))
def m_X8_approachColumns : aM := (yX8_approachColumns, cX8_approachColumns, 8, some .boolean, none)
theorem kn_X8_approachColumns : aKn m_X8_approachColumns 1 := ⟨(by decide +kernel), rfl, (in_tbg 504 (by decide +kernel) (by decide +kernel)), (in_tbg 74 (by decide +kernel) (by decide +kernel)), ⟨(by decide +kernel), (by decide +kernel), (by decide +kernel)⟩, by decide⟩
theorem im_X8_approachColumns : Cond.instanceMethod yX8_approachColumns ∈ lw_tbg := (in_tbg 503 (by decide +kernel) (by decide +kernel))
theorem se_X8_approachColumns : Cond.selects RX8 yX8_approachColumns yX8_approachColumns ∈ lw_tbg := (in_tbg 7 (by decide +kernel) (by decide +kernel))
def m_X8_approachRows : aM := (yX8_approachRows, cX8_approachRows, 8, some .boolean, none)
theorem kn_X8_approachRows : aKn m_X8_approachRows 1 := ⟨(by decide +kernel), rfl, (in_tbg 508 (by decide +kernel) (by decide +kernel)), (in_tbg 74 (by decide +kernel) (by decide +kernel)), ⟨(by decide +kernel), (by decide +kernel), (by decide +kernel)⟩, by decide⟩
theorem im_X8_approachRows : Cond.instanceMethod yX8_approachRows ∈ lw_tbg := (in_tbg 507 (by decide +kernel) (by decide +kernel))
theorem se_X8_approachRows : Cond.selects RX8 yX8_approachRows yX8_approachRows ∈ lw_tbg := (in_tbg 8 (by decide +kernel) (by decide +kernel))
def m_X8_slackOfPath : aM := (yX8_slackOfPath, cX8_slackOfPath, 7, some .int, none)
theorem kn_X8_slackOfPath : aKn m_X8_slackOfPath 2 := ⟨(by decide +kernel), rfl, (in_tbg 512 (by decide +kernel) (by decide +kernel)), (in_tbg 74 (by decide +kernel) (by decide +kernel)), ⟨(by decide +kernel), (by decide +kernel), (by decide +kernel)⟩, by decide⟩
theorem im_X8_slackOfPath : Cond.instanceMethod yX8_slackOfPath ∈ lw_tbg := (in_tbg 511 (by decide +kernel) (by decide +kernel))
theorem se_X8_slackOfPath : Cond.selects RX8 yX8_slackOfPath yX8_slackOfPath ∈ lw_tbg := (in_tbg 9 (by decide +kernel) (by decide +kernel))
def m_X8_shiftAlongPath : aM := (yX8_shiftAlongPath, cX8_shiftAlongPath, 6, none, none)
theorem kn_X8_shiftAlongPath : aKn m_X8_shiftAlongPath 2 := ⟨(by decide +kernel), rfl, (in_tbg 516 (by decide +kernel) (by decide +kernel)), (in_tbg 74 (by decide +kernel) (by decide +kernel)), ⟨(by decide +kernel), (by decide +kernel), (by decide +kernel)⟩, by decide⟩
theorem im_X8_shiftAlongPath : Cond.instanceMethod yX8_shiftAlongPath ∈ lw_tbg := (in_tbg 515 (by decide +kernel) (by decide +kernel))
theorem se_X8_shiftAlongPath : Cond.selects RX8 yX8_shiftAlongPath yX8_shiftAlongPath ∈ lw_tbg := (in_tbg 10 (by decide +kernel) (by decide +kernel))
def m_X9_init : aM := (yX9_init, cX9_init, 1, none, none)
theorem kn_X9_init : aKn m_X9_init 0 := ⟨(by decide +kernel), rfl, (in_tbg 87 (by decide +kernel) (by decide +kernel)), (in_tbg 70 (by decide +kernel) (by decide +kernel)), ⟨(by decide +kernel), (by decide +kernel), (by decide +kernel)⟩, by decide⟩
theorem im_X9_init : Cond.instanceMethod yX9_init ∈ lw_tbg := (in_tbg 86 (by decide +kernel) (by decide +kernel))
def m_X9_reset : aM := (yX9_reset, cX9_reset, 4, some .int, none)
theorem kn_X9_reset : aKn m_X9_reset 2 := ⟨(by decide +kernel), rfl, (in_tbg 362 (by decide +kernel) (by decide +kernel)), (in_tbg 70 (by decide +kernel) (by decide +kernel)), ⟨(by decide +kernel), (by decide +kernel), (by decide +kernel)⟩, by decide⟩
theorem im_X9_reset : Cond.instanceMethod yX9_reset ∈ lw_tbg := (in_tbg 360 (by decide +kernel) (by decide +kernel))
theorem se_X9_reset : Cond.selects RX9 yX9_reset yX9_reset ∈ lw_tbg := (in_tbg 361 (by decide +kernel) (by decide +kernel))
def m_X9_states : aM := (yX9_states, cX9_states, 1, some .int, none)
theorem kn_X9_states : aKn m_X9_states 0 := ⟨(by decide +kernel), rfl, (in_tbg 374 (by decide +kernel) (by decide +kernel)), (in_tbg 70 (by decide +kernel) (by decide +kernel)), ⟨(by decide +kernel), (by decide +kernel), (by decide +kernel)⟩, by decide⟩
theorem im_X9_states : Cond.instanceMethod yX9_states ∈ lw_tbg := (in_tbg 372 (by decide +kernel) (by decide +kernel))
theorem se_X9_states : Cond.selects RX9 yX9_states yX9_states ∈ lw_tbg := (in_tbg 373 (by decide +kernel) (by decide +kernel))
def m_X9_resolution : aM := (yX9_resolution, cX9_resolution, 1, some .int, none)
theorem kn_X9_resolution : aKn m_X9_resolution 0 := ⟨(by decide +kernel), rfl, (in_tbg 378 (by decide +kernel) (by decide +kernel)), (in_tbg 70 (by decide +kernel) (by decide +kernel)), ⟨(by decide +kernel), (by decide +kernel), (by decide +kernel)⟩, by decide⟩
theorem im_X9_resolution : Cond.instanceMethod yX9_resolution ∈ lw_tbg := (in_tbg 376 (by decide +kernel) (by decide +kernel))
theorem se_X9_resolution : Cond.selects RX9 yX9_resolution yX9_resolution ∈ lw_tbg := (in_tbg 377 (by decide +kernel) (by decide +kernel))
def m_X9_setLabel : aM := (yX9_setLabel, cX9_setLabel, 4, some .int, none)
theorem kn_X9_setLabel : aKn m_X9_setLabel 2 := ⟨(by decide +kernel), rfl, (in_tbg 382 (by decide +kernel) (by decide +kernel)), (in_tbg 70 (by decide +kernel) (by decide +kernel)), ⟨(by decide +kernel), (by decide +kernel), (by decide +kernel)⟩, by decide⟩
theorem im_X9_setLabel : Cond.instanceMethod yX9_setLabel ∈ lw_tbg := (in_tbg 380 (by decide +kernel) (by decide +kernel))
theorem se_X9_setLabel : Cond.selects RX9 yX9_setLabel yX9_setLabel ∈ lw_tbg := (in_tbg 381 (by decide +kernel) (by decide +kernel))
def m_X9_label : aM := (yX9_label, cX9_label, 2, some .int, none)
theorem kn_X9_label : aKn m_X9_label 1 := ⟨(by decide +kernel), rfl, (in_tbg 404 (by decide +kernel) (by decide +kernel)), (in_tbg 70 (by decide +kernel) (by decide +kernel)), ⟨(by decide +kernel), (by decide +kernel), (by decide +kernel)⟩, by decide⟩
theorem im_X9_label : Cond.instanceMethod yX9_label ∈ lw_tbg := (in_tbg 402 (by decide +kernel) (by decide +kernel))
theorem se_X9_label : Cond.selects RX9 yX9_label yX9_label ∈ lw_tbg := (in_tbg 403 (by decide +kernel) (by decide +kernel))
def m_X9_moveWeight : aM := (yX9_moveWeight, cX9_moveWeight, 7, some .int, none)
theorem kn_X9_moveWeight : aKn m_X9_moveWeight 4 := ⟨(by decide +kernel), rfl, (in_tbg 408 (by decide +kernel) (by decide +kernel)), (in_tbg 70 (by decide +kernel) (by decide +kernel)), ⟨(by decide +kernel), (by decide +kernel), (by decide +kernel)⟩, by decide⟩
theorem im_X9_moveWeight : Cond.instanceMethod yX9_moveWeight ∈ lw_tbg := (in_tbg 406 (by decide +kernel) (by decide +kernel))
theorem se_X9_moveWeight : Cond.selects RX9 yX9_moveWeight yX9_moveWeight ∈ lw_tbg := (in_tbg 407 (by decide +kernel) (by decide +kernel))
def m_X9_weight : aM := (yX9_weight, cX9_weight, 3, some .int, none)
theorem kn_X9_weight : aKn m_X9_weight 2 := ⟨(by decide +kernel), rfl, (in_tbg 412 (by decide +kernel) (by decide +kernel)), (in_tbg 70 (by decide +kernel) (by decide +kernel)), ⟨(by decide +kernel), (by decide +kernel), (by decide +kernel)⟩, by decide⟩
theorem im_X9_weight : Cond.instanceMethod yX9_weight ∈ lw_tbg := (in_tbg 410 (by decide +kernel) (by decide +kernel))
theorem se_X9_weight : Cond.selects RX9 yX9_weight yX9_weight ∈ lw_tbg := (in_tbg 411 (by decide +kernel) (by decide +kernel))
def m_X9_setDiscount : aM := (yX9_setDiscount, cX9_setDiscount, 3, some .int, none)
theorem kn_X9_setDiscount : aKn m_X9_setDiscount 2 := ⟨(by decide +kernel), rfl, (in_tbg 416 (by decide +kernel) (by decide +kernel)), (in_tbg 70 (by decide +kernel) (by decide +kernel)), ⟨(by decide +kernel), (by decide +kernel), (by decide +kernel)⟩, by decide⟩
theorem im_X9_setDiscount : Cond.instanceMethod yX9_setDiscount ∈ lw_tbg := (in_tbg 414 (by decide +kernel) (by decide +kernel))
theorem se_X9_setDiscount : Cond.selects RX9 yX9_setDiscount yX9_setDiscount ∈ lw_tbg := (in_tbg 415 (by decide +kernel) (by decide +kernel))
def m_X9_swapStates : aM := (yX9_swapStates, cX9_swapStates, 3, some .int, none)
theorem kn_X9_swapStates : aKn m_X9_swapStates 2 := ⟨(by decide +kernel), rfl, (in_tbg 420 (by decide +kernel) (by decide +kernel)), (in_tbg 70 (by decide +kernel) (by decide +kernel)), ⟨(by decide +kernel), (by decide +kernel), (by decide +kernel)⟩, by decide⟩
theorem im_X9_swapStates : Cond.instanceMethod yX9_swapStates ∈ lw_tbg := (in_tbg 418 (by decide +kernel) (by decide +kernel))
theorem se_X9_swapStates : Cond.selects RX9 yX9_swapStates yX9_swapStates ∈ lw_tbg := (in_tbg 419 (by decide +kernel) (by decide +kernel))
def m_X9_undo : aM := (yX9_undo, cX9_undo, 1, some .int, none)
theorem kn_X9_undo : aKn m_X9_undo 0 := ⟨(by decide +kernel), rfl, (in_tbg 437 (by decide +kernel) (by decide +kernel)), (in_tbg 70 (by decide +kernel) (by decide +kernel)), ⟨(by decide +kernel), (by decide +kernel), (by decide +kernel)⟩, by decide⟩
theorem im_X9_undo : Cond.instanceMethod yX9_undo ∈ lw_tbg := (in_tbg 435 (by decide +kernel) (by decide +kernel))
theorem se_X9_undo : Cond.selects RX9 yX9_undo yX9_undo ∈ lw_tbg := (in_tbg 436 (by decide +kernel) (by decide +kernel))
def m_X9_editCount : aM := (yX9_editCount, cX9_editCount, 1, some .int, none)
theorem kn_X9_editCount : aKn m_X9_editCount 0 := ⟨(by decide +kernel), rfl, (in_tbg 445 (by decide +kernel) (by decide +kernel)), (in_tbg 70 (by decide +kernel) (by decide +kernel)), ⟨(by decide +kernel), (by decide +kernel), (by decide +kernel)⟩, by decide⟩
theorem im_X9_editCount : Cond.instanceMethod yX9_editCount ∈ lw_tbg := (in_tbg 443 (by decide +kernel) (by decide +kernel))
theorem se_X9_editCount : Cond.selects RX9 yX9_editCount yX9_editCount ∈ lw_tbg := (in_tbg 444 (by decide +kernel) (by decide +kernel))
def m_X9_maximumDepth : aM := (yX9_maximumDepth, cX9_maximumDepth, 1, some .int, none)
theorem kn_X9_maximumDepth : aKn m_X9_maximumDepth 0 := ⟨(by decide +kernel), rfl, (in_tbg 449 (by decide +kernel) (by decide +kernel)), (in_tbg 70 (by decide +kernel) (by decide +kernel)), ⟨(by decide +kernel), (by decide +kernel), (by decide +kernel)⟩, by decide⟩
theorem im_X9_maximumDepth : Cond.instanceMethod yX9_maximumDepth ∈ lw_tbg := (in_tbg 447 (by decide +kernel) (by decide +kernel))
theorem se_X9_maximumDepth : Cond.selects RX9 yX9_maximumDepth yX9_maximumDepth ∈ lw_tbg := (in_tbg 448 (by decide +kernel) (by decide +kernel))
def m_X9_distanceNumerator : aM := (yX9_distanceNumerator, cX9_distanceNumerator, 5, some .long, none)
theorem kn_X9_distanceNumerator : aKn m_X9_distanceNumerator 3 := ⟨(by decide +kernel), rfl, (in_tbg 458 (by decide +kernel) (by decide +kernel)), (in_tbg 70 (by decide +kernel) (by decide +kernel)), ⟨(by decide +kernel), (by decide +kernel), (by decide +kernel)⟩, by decide⟩
theorem im_X9_distanceNumerator : Cond.instanceMethod yX9_distanceNumerator ∈ lw_tbg := (in_tbg 456 (by decide +kernel) (by decide +kernel))
theorem se_X9_distanceNumerator : Cond.selects RX9 yX9_distanceNumerator yX9_distanceNumerator ∈ lw_tbg := (in_tbg 457 (by decide +kernel) (by decide +kernel))
def m_X9_distanceDenominator : aM := (yX9_distanceDenominator, cX9_distanceDenominator, 5, some .long, none)
theorem kn_X9_distanceDenominator : aKn m_X9_distanceDenominator 3 := ⟨(by decide +kernel), rfl, (in_tbg 527 (by decide +kernel) (by decide +kernel)), (in_tbg 70 (by decide +kernel) (by decide +kernel)), ⟨(by decide +kernel), (by decide +kernel), (by decide +kernel)⟩, by decide⟩
theorem im_X9_distanceDenominator : Cond.instanceMethod yX9_distanceDenominator ∈ lw_tbg := (in_tbg 525 (by decide +kernel) (by decide +kernel))
theorem se_X9_distanceDenominator : Cond.selects RX9 yX9_distanceDenominator yX9_distanceDenominator ∈ lw_tbg := (in_tbg 526 (by decide +kernel) (by decide +kernel))
def m_X9_compareDistances : aM := (yX9_compareDistances, cX9_compareDistances, 9, some .int, none)
theorem kn_X9_compareDistances : aKn m_X9_compareDistances 3 := ⟨(by decide +kernel), rfl, (in_tbg 531 (by decide +kernel) (by decide +kernel)), (in_tbg 70 (by decide +kernel) (by decide +kernel)), ⟨(by decide +kernel), (by decide +kernel), (by decide +kernel)⟩, by decide⟩
theorem im_X9_compareDistances : Cond.instanceMethod yX9_compareDistances ∈ lw_tbg := (in_tbg 529 (by decide +kernel) (by decide +kernel))
theorem se_X9_compareDistances : Cond.selects RX9 yX9_compareDistances yX9_compareDistances ∈ lw_tbg := (in_tbg 530 (by decide +kernel) (by decide +kernel))
def m_X9_farthestPair : aM := (yX9_farthestPair, cX9_farthestPair, 10, some .int, none)
theorem kn_X9_farthestPair : aKn m_X9_farthestPair 1 := ⟨(by decide +kernel), rfl, (in_tbg 542 (by decide +kernel) (by decide +kernel)), (in_tbg 70 (by decide +kernel) (by decide +kernel)), ⟨(by decide +kernel), (by decide +kernel), (by decide +kernel)⟩, by decide⟩
theorem im_X9_farthestPair : Cond.instanceMethod yX9_farthestPair ∈ lw_tbg := (in_tbg 540 (by decide +kernel) (by decide +kernel))
theorem se_X9_farthestPair : Cond.selects RX9 yX9_farthestPair yX9_farthestPair ∈ lw_tbg := (in_tbg 541 (by decide +kernel) (by decide +kernel))
def m_X9_coupling : aM := (yX9_coupling, cX9_coupling, 7, some .int, none)
theorem kn_X9_coupling : aKn m_X9_coupling 4 := ⟨(by decide +kernel), rfl, (in_tbg 547 (by decide +kernel) (by decide +kernel)), (in_tbg 70 (by decide +kernel) (by decide +kernel)), ⟨(by decide +kernel), (by decide +kernel), (by decide +kernel)⟩, by decide⟩
theorem im_X9_coupling : Cond.instanceMethod yX9_coupling ∈ lw_tbg := (in_tbg 545 (by decide +kernel) (by decide +kernel))
theorem se_X9_coupling : Cond.selects RX9 yX9_coupling yX9_coupling ∈ lw_tbg := (in_tbg 546 (by decide +kernel) (by decide +kernel))
def m_X9_distributionDistance : aM := (yX9_distributionDistance, cX9_distributionDistance, 4, some .int, none)
theorem kn_X9_distributionDistance : aKn m_X9_distributionDistance 3 := ⟨(by decide +kernel), rfl, (in_tbg 563 (by decide +kernel) (by decide +kernel)), (in_tbg 70 (by decide +kernel) (by decide +kernel)), ⟨(by decide +kernel), (by decide +kernel), (by decide +kernel)⟩, by decide⟩
theorem im_X9_distributionDistance : Cond.instanceMethod yX9_distributionDistance ∈ lw_tbg := (in_tbg 561 (by decide +kernel) (by decide +kernel))
theorem se_X9_distributionDistance : Cond.selects RX9 yX9_distributionDistance yX9_distributionDistance ∈ lw_tbg := (in_tbg 562 (by decide +kernel) (by decide +kernel))
def m_X9_totalVariation : aM := (yX9_totalVariation, cX9_totalVariation, 5, some .int, none)
theorem kn_X9_totalVariation : aKn m_X9_totalVariation 2 := ⟨(by decide +kernel), rfl, (in_tbg 567 (by decide +kernel) (by decide +kernel)), (in_tbg 70 (by decide +kernel) (by decide +kernel)), ⟨(by decide +kernel), (by decide +kernel), (by decide +kernel)⟩, by decide⟩
theorem im_X9_totalVariation : Cond.instanceMethod yX9_totalVariation ∈ lw_tbg := (in_tbg 566 (by decide +kernel) (by decide +kernel))
theorem se_X9_totalVariation : Cond.selects RX9 yX9_totalVariation yX9_totalVariation ∈ lw_tbg := (in_tbg 13 (by decide +kernel) (by decide +kernel))
def m_X9_largestDifference : aM := (yX9_largestDifference, cX9_largestDifference, 5, some .int, none)
theorem kn_X9_largestDifference : aKn m_X9_largestDifference 2 := ⟨(by decide +kernel), rfl, (in_tbg 578 (by decide +kernel) (by decide +kernel)), (in_tbg 70 (by decide +kernel) (by decide +kernel)), ⟨(by decide +kernel), (by decide +kernel), (by decide +kernel)⟩, by decide⟩
theorem im_X9_largestDifference : Cond.instanceMethod yX9_largestDifference ∈ lw_tbg := (in_tbg 577 (by decide +kernel) (by decide +kernel))
theorem se_X9_largestDifference : Cond.selects RX9 yX9_largestDifference yX9_largestDifference ∈ lw_tbg := (in_tbg 15 (by decide +kernel) (by decide +kernel))
def m_X9_cumulativeDistance : aM := (yX9_cumulativeDistance, cX9_cumulativeDistance, 6, some .int, none)
theorem kn_X9_cumulativeDistance : aKn m_X9_cumulativeDistance 2 := ⟨(by decide +kernel), rfl, (in_tbg 585 (by decide +kernel) (by decide +kernel)), (in_tbg 70 (by decide +kernel) (by decide +kernel)), ⟨(by decide +kernel), (by decide +kernel), (by decide +kernel)⟩, by decide⟩
theorem im_X9_cumulativeDistance : Cond.instanceMethod yX9_cumulativeDistance ∈ lw_tbg := (in_tbg 584 (by decide +kernel) (by decide +kernel))
theorem se_X9_cumulativeDistance : Cond.selects RX9 yX9_cumulativeDistance yX9_cumulativeDistance ∈ lw_tbg := (in_tbg 16 (by decide +kernel) (by decide +kernel))
def m_X9_overlap : aM := (yX9_overlap, cX9_overlap, 5, some .int, none)
theorem kn_X9_overlap : aKn m_X9_overlap 2 := ⟨(by decide +kernel), rfl, (in_tbg 589 (by decide +kernel) (by decide +kernel)), (in_tbg 70 (by decide +kernel) (by decide +kernel)), ⟨(by decide +kernel), (by decide +kernel), (by decide +kernel)⟩, by decide⟩
theorem im_X9_overlap : Cond.instanceMethod yX9_overlap ∈ lw_tbg := (in_tbg 588 (by decide +kernel) (by decide +kernel))
theorem se_X9_overlap : Cond.selects RX9 yX9_overlap yX9_overlap ∈ lw_tbg := (in_tbg 17 (by decide +kernel) (by decide +kernel))
def m_X9_weightDifference : aM := (yX9_weightDifference, cX9_weightDifference, 4, some .int, none)
theorem kn_X9_weightDifference : aKn m_X9_weightDifference 3 := ⟨(by decide +kernel), rfl, (in_tbg 571 (by decide +kernel) (by decide +kernel)), (in_tbg 70 (by decide +kernel) (by decide +kernel)), ⟨(by decide +kernel), (by decide +kernel), (by decide +kernel)⟩, by decide⟩
theorem im_X9_weightDifference : Cond.instanceMethod yX9_weightDifference ∈ lw_tbg := (in_tbg 570 (by decide +kernel) (by decide +kernel))
theorem se_X9_weightDifference : Cond.selects RX9 yX9_weightDifference yX9_weightDifference ∈ lw_tbg := (in_tbg 14 (by decide +kernel) (by decide +kernel))
def m_X9_greatestDepth : aM := (yX9_greatestDepth, cX9_greatestDepth, 6, some .int, none)
theorem kn_X9_greatestDepth : aKn m_X9_greatestDepth 0 := ⟨(by decide +kernel), rfl, (in_tbg 453 (by decide +kernel) (by decide +kernel)), (in_tbg 70 (by decide +kernel) (by decide +kernel)), ⟨(by decide +kernel), (by decide +kernel), (by decide +kernel)⟩, by decide⟩
theorem im_X9_greatestDepth : Cond.instanceMethod yX9_greatestDepth ∈ lw_tbg := (in_tbg 452 (by decide +kernel) (by decide +kernel))
theorem se_X9_greatestDepth : Cond.selects RX9 yX9_greatestDepth yX9_greatestDepth ∈ lw_tbg := (in_tbg 0 (by decide +kernel) (by decide +kernel))
def m_X9_hasDistance : aM := (yX9_hasDistance, cX9_hasDistance, 4, some .boolean, none)
theorem kn_X9_hasDistance : aKn m_X9_hasDistance 3 := ⟨(by decide +kernel), rfl, (in_tbg 462 (by decide +kernel) (by decide +kernel)), (in_tbg 70 (by decide +kernel) (by decide +kernel)), ⟨(by decide +kernel), (by decide +kernel), (by decide +kernel)⟩, by decide⟩
theorem im_X9_hasDistance : Cond.instanceMethod yX9_hasDistance ∈ lw_tbg := (in_tbg 461 (by decide +kernel) (by decide +kernel))
theorem se_X9_hasDistance : Cond.selects RX9 yX9_hasDistance yX9_hasDistance ∈ lw_tbg := (in_tbg 1 (by decide +kernel) (by decide +kernel))
def m_X9_isPair : aM := (yX9_isPair, cX9_isPair, 2, some .boolean, none)
theorem kn_X9_isPair : aKn m_X9_isPair 1 := ⟨(by decide +kernel), rfl, (in_tbg 535 (by decide +kernel) (by decide +kernel)), (in_tbg 70 (by decide +kernel) (by decide +kernel)), ⟨(by decide +kernel), (by decide +kernel), (by decide +kernel)⟩, by decide⟩
theorem im_X9_isPair : Cond.instanceMethod yX9_isPair ∈ lw_tbg := (in_tbg 534 (by decide +kernel) (by decide +kernel))
theorem se_X9_isPair : Cond.selects RX9 yX9_isPair yX9_isPair ∈ lw_tbg := (in_tbg 11 (by decide +kernel) (by decide +kernel))
def m_X9_cellOfPair : aM := (yX9_cellOfPair, cX9_cellOfPair, 1, some .int, none)
theorem kn_X9_cellOfPair : aKn m_X9_cellOfPair 1 := ⟨(by decide +kernel), rfl, (in_tbg 538 (by decide +kernel) (by decide +kernel)), (in_tbg 70 (by decide +kernel) (by decide +kernel)), ⟨(by decide +kernel), (by decide +kernel), (by decide +kernel)⟩, by decide⟩
theorem sm_X9_cellOfPair : Cond.static yX9_cellOfPair ∈ lw_tbg := (in_tbg 537 (by decide +kernel) (by decide +kernel))
def m_X9_isWithin : aM := (yX9_isWithin, cX9_isWithin, 3, some .boolean, none)
theorem kn_X9_isWithin : aKn m_X9_isWithin 3 := ⟨(by decide +kernel), rfl, (in_tbg 365 (by decide +kernel) (by decide +kernel)), (in_tbg 70 (by decide +kernel) (by decide +kernel)), ⟨(by decide +kernel), (by decide +kernel), (by decide +kernel)⟩, by decide⟩
theorem sm_X9_isWithin : Cond.static yX9_isWithin ∈ lw_tbg := (in_tbg 364 (by decide +kernel) (by decide +kernel))
def m_X9_bisimulationClass : aM := (yX9_bisimulationClass, cX9_bisimulationClass, 2, some .int, none)
theorem kn_X9_bisimulationClass : aKn m_X9_bisimulationClass 1 := ⟨(by decide +kernel), rfl, (in_tbg 594 (by decide +kernel) (by decide +kernel)), (in_tbg 70 (by decide +kernel) (by decide +kernel)), ⟨(by decide +kernel), (by decide +kernel), (by decide +kernel)⟩, by decide⟩
theorem im_X9_bisimulationClass : Cond.instanceMethod yX9_bisimulationClass ∈ lw_tbg := (in_tbg 592 (by decide +kernel) (by decide +kernel))
theorem se_X9_bisimulationClass : Cond.selects RX9 yX9_bisimulationClass yX9_bisimulationClass ∈ lw_tbg := (in_tbg 593 (by decide +kernel) (by decide +kernel))
def m_X9_bisimulationClassCount : aM := (yX9_bisimulationClassCount, cX9_bisimulationClassCount, 1, some .int, none)
theorem kn_X9_bisimulationClassCount : aKn m_X9_bisimulationClassCount 0 := ⟨(by decide +kernel), rfl, (in_tbg 615 (by decide +kernel) (by decide +kernel)), (in_tbg 70 (by decide +kernel) (by decide +kernel)), ⟨(by decide +kernel), (by decide +kernel), (by decide +kernel)⟩, by decide⟩
theorem im_X9_bisimulationClassCount : Cond.instanceMethod yX9_bisimulationClassCount ∈ lw_tbg := (in_tbg 613 (by decide +kernel) (by decide +kernel))
theorem se_X9_bisimulationClassCount : Cond.selects RX9 yX9_bisimulationClassCount yX9_bisimulationClassCount ∈ lw_tbg := (in_tbg 614 (by decide +kernel) (by decide +kernel))
def m_X9_minimize : aM := (yX9_minimize, cX9_minimize, 1, some .int, none)
theorem kn_X9_minimize : aKn m_X9_minimize 0 := ⟨(by decide +kernel), rfl, (in_tbg 619 (by decide +kernel) (by decide +kernel)), (in_tbg 70 (by decide +kernel) (by decide +kernel)), ⟨(by decide +kernel), (by decide +kernel), (by decide +kernel)⟩, by decide⟩
theorem im_X9_minimize : Cond.instanceMethod yX9_minimize ∈ lw_tbg := (in_tbg 617 (by decide +kernel) (by decide +kernel))
theorem se_X9_minimize : Cond.selects RX9 yX9_minimize yX9_minimize ∈ lw_tbg := (in_tbg 618 (by decide +kernel) (by decide +kernel))
def m_X9_reachWeight : aM := (yX9_reachWeight, cX9_reachWeight, 4, some .long, none)
theorem kn_X9_reachWeight : aKn m_X9_reachWeight 3 := ⟨(by decide +kernel), rfl, (in_tbg 629 (by decide +kernel) (by decide +kernel)), (in_tbg 70 (by decide +kernel) (by decide +kernel)), ⟨(by decide +kernel), (by decide +kernel), (by decide +kernel)⟩, by decide⟩
theorem im_X9_reachWeight : Cond.instanceMethod yX9_reachWeight ∈ lw_tbg := (in_tbg 627 (by decide +kernel) (by decide +kernel))
theorem se_X9_reachWeight : Cond.selects RX9 yX9_reachWeight yX9_reachWeight ∈ lw_tbg := (in_tbg 628 (by decide +kernel) (by decide +kernel))
def m_X9_firstReachWeight : aM := (yX9_firstReachWeight, cX9_firstReachWeight, 4, some .long, none)
theorem kn_X9_firstReachWeight : aKn m_X9_firstReachWeight 3 := ⟨(by decide +kernel), rfl, (in_tbg 649 (by decide +kernel) (by decide +kernel)), (in_tbg 70 (by decide +kernel) (by decide +kernel)), ⟨(by decide +kernel), (by decide +kernel), (by decide +kernel)⟩, by decide⟩
theorem im_X9_firstReachWeight : Cond.instanceMethod yX9_firstReachWeight ∈ lw_tbg := (in_tbg 647 (by decide +kernel) (by decide +kernel))
theorem se_X9_firstReachWeight : Cond.selects RX9 yX9_firstReachWeight yX9_firstReachWeight ∈ lw_tbg := (in_tbg 648 (by decide +kernel) (by decide +kernel))
def m_X9_sequenceWeight : aM := (yX9_sequenceWeight, cX9_sequenceWeight, 4, some .long, none)
theorem kn_X9_sequenceWeight : aKn m_X9_sequenceWeight 1 := ⟨(by decide +kernel), rfl, (in_tbg 657 (by decide +kernel) (by decide +kernel)), (in_tbg 70 (by decide +kernel) (by decide +kernel)), ⟨(by decide +kernel), (by decide +kernel), (by decide +kernel)⟩, by decide⟩
theorem im_X9_sequenceWeight : Cond.instanceMethod yX9_sequenceWeight ∈ lw_tbg := (in_tbg 655 (by decide +kernel) (by decide +kernel))
theorem se_X9_sequenceWeight : Cond.selects RX9 yX9_sequenceWeight yX9_sequenceWeight ∈ lw_tbg := (in_tbg 656 (by decide +kernel) (by decide +kernel))
def m_X9_sample : aM := (yX9_sample, cX9_sample, 7, some .int, none)
theorem kn_X9_sample : aKn m_X9_sample 3 := ⟨(by decide +kernel), rfl, (in_tbg 678 (by decide +kernel) (by decide +kernel)), (in_tbg 70 (by decide +kernel) (by decide +kernel)), ⟨(by decide +kernel), (by decide +kernel), (by decide +kernel)⟩, by decide⟩
theorem im_X9_sample : Cond.instanceMethod yX9_sample ∈ lw_tbg := (in_tbg 676 (by decide +kernel) (by decide +kernel))
theorem se_X9_sample : Cond.selects RX9 yX9_sample yX9_sample ∈ lw_tbg := (in_tbg 677 (by decide +kernel) (by decide +kernel))
def m_X9_sampledVisits : aM := (yX9_sampledVisits, cX9_sampledVisits, 9, some .int, none)
theorem kn_X9_sampledVisits : aKn m_X9_sampledVisits 4 := ⟨(by decide +kernel), rfl, (in_tbg 690 (by decide +kernel) (by decide +kernel)), (in_tbg 70 (by decide +kernel) (by decide +kernel)), ⟨(by decide +kernel), (by decide +kernel), (by decide +kernel)⟩, by decide⟩
theorem im_X9_sampledVisits : Cond.instanceMethod yX9_sampledVisits ∈ lw_tbg := (in_tbg 688 (by decide +kernel) (by decide +kernel))
theorem se_X9_sampledVisits : Cond.selects RX9 yX9_sampledVisits yX9_sampledVisits ∈ lw_tbg := (in_tbg 689 (by decide +kernel) (by decide +kernel))
def m_X9_nextSeed : aM := (yX9_nextSeed, cX9_nextSeed, 1, some .int, none)
theorem kn_X9_nextSeed : aKn m_X9_nextSeed 1 := ⟨(by decide +kernel), rfl, (in_tbg 681 (by decide +kernel) (by decide +kernel)), (in_tbg 70 (by decide +kernel) (by decide +kernel)), ⟨(by decide +kernel), (by decide +kernel), (by decide +kernel)⟩, by decide⟩
theorem sm_X9_nextSeed : Cond.static yX9_nextSeed ∈ lw_tbg := (in_tbg 680 (by decide +kernel) (by decide +kernel))
def m_X9_append : aM := (yX9_append, cX9_append, 4, some .int, none)
theorem kn_X9_append : aKn m_X9_append 2 := ⟨(by decide +kernel), rfl, (in_tbg 694 (by decide +kernel) (by decide +kernel)), (in_tbg 70 (by decide +kernel) (by decide +kernel)), ⟨(by decide +kernel), (by decide +kernel), (by decide +kernel)⟩, by decide⟩
theorem im_X9_append : Cond.instanceMethod yX9_append ∈ lw_tbg := (in_tbg 692 (by decide +kernel) (by decide +kernel))
theorem se_X9_append : Cond.selects RX9 yX9_append yX9_append ∈ lw_tbg := (in_tbg 693 (by decide +kernel) (by decide +kernel))
def m_X9_byteAt : aM := (yX9_byteAt, cX9_byteAt, 2, some .int, none)
theorem kn_X9_byteAt : aKn m_X9_byteAt 2 := ⟨(by decide +kernel), rfl, (in_tbg 697 (by decide +kernel) (by decide +kernel)), (in_tbg 70 (by decide +kernel) (by decide +kernel)), ⟨(by decide +kernel), (by decide +kernel), (by decide +kernel)⟩, by decide⟩
theorem sm_X9_byteAt : Cond.static yX9_byteAt ∈ lw_tbg := (in_tbg 696 (by decide +kernel) (by decide +kernel))
def m_X9_clearInput : aM := (yX9_clearInput, cX9_clearInput, 2, some .int, none)
theorem kn_X9_clearInput : aKn m_X9_clearInput 0 := ⟨(by decide +kernel), rfl, (in_tbg 705 (by decide +kernel) (by decide +kernel)), (in_tbg 70 (by decide +kernel) (by decide +kernel)), ⟨(by decide +kernel), (by decide +kernel), (by decide +kernel)⟩, by decide⟩
theorem im_X9_clearInput : Cond.instanceMethod yX9_clearInput ∈ lw_tbg := (in_tbg 703 (by decide +kernel) (by decide +kernel))
theorem se_X9_clearInput : Cond.selects RX9 yX9_clearInput yX9_clearInput ∈ lw_tbg := (in_tbg 704 (by decide +kernel) (by decide +kernel))
def m_X9_parse : aM := (yX9_parse, cX9_parse, 2, some .int, none)
theorem kn_X9_parse : aKn m_X9_parse 0 := ⟨(by decide +kernel), rfl, (in_tbg 709 (by decide +kernel) (by decide +kernel)), (in_tbg 70 (by decide +kernel) (by decide +kernel)), ⟨(by decide +kernel), (by decide +kernel), (by decide +kernel)⟩, by decide⟩
theorem im_X9_parse : Cond.instanceMethod yX9_parse ∈ lw_tbg := (in_tbg 707 (by decide +kernel) (by decide +kernel))
theorem se_X9_parse : Cond.selects RX9 yX9_parse yX9_parse ∈ lw_tbg := (in_tbg 708 (by decide +kernel) (by decide +kernel))
def m_X9_allocate : aM := (yX9_allocate, cX9_allocate, 4, some .int, none)
theorem kn_X9_allocate : aKn m_X9_allocate 3 := ⟨(by decide +kernel), rfl, (in_tbg 760 (by decide +kernel) (by decide +kernel)), (in_tbg 70 (by decide +kernel) (by decide +kernel)), ⟨(by decide +kernel), (by decide +kernel), (by decide +kernel)⟩, by decide⟩
theorem im_X9_allocate : Cond.instanceMethod yX9_allocate ∈ lw_tbg := (in_tbg 758 (by decide +kernel) (by decide +kernel))
theorem se_X9_allocate : Cond.selects RX9 yX9_allocate yX9_allocate ∈ lw_tbg := (in_tbg 759 (by decide +kernel) (by decide +kernel))
def m_X9_release : aM := (yX9_release, cX9_release, 2, some .int, none)
theorem kn_X9_release : aKn m_X9_release 1 := ⟨(by decide +kernel), rfl, (in_tbg 771 (by decide +kernel) (by decide +kernel)), (in_tbg 70 (by decide +kernel) (by decide +kernel)), ⟨(by decide +kernel), (by decide +kernel), (by decide +kernel)⟩, by decide⟩
theorem im_X9_release : Cond.instanceMethod yX9_release ∈ lw_tbg := (in_tbg 769 (by decide +kernel) (by decide +kernel))
theorem se_X9_release : Cond.selects RX9 yX9_release yX9_release ∈ lw_tbg := (in_tbg 770 (by decide +kernel) (by decide +kernel))
def m_X9_putElement : aM := (yX9_putElement, cX9_putElement, 5, some .int, none)
theorem kn_X9_putElement : aKn m_X9_putElement 3 := ⟨(by decide +kernel), rfl, (in_tbg 779 (by decide +kernel) (by decide +kernel)), (in_tbg 70 (by decide +kernel) (by decide +kernel)), ⟨(by decide +kernel), (by decide +kernel), (by decide +kernel)⟩, by decide⟩
theorem im_X9_putElement : Cond.instanceMethod yX9_putElement ∈ lw_tbg := (in_tbg 777 (by decide +kernel) (by decide +kernel))
theorem se_X9_putElement : Cond.selects RX9 yX9_putElement yX9_putElement ∈ lw_tbg := (in_tbg 778 (by decide +kernel) (by decide +kernel))
def m_X9_element : aM := (yX9_element, cX9_element, 3, some .long, none)
theorem kn_X9_element : aKn m_X9_element 2 := ⟨(by decide +kernel), rfl, (in_tbg 790 (by decide +kernel) (by decide +kernel)), (in_tbg 70 (by decide +kernel) (by decide +kernel)), ⟨(by decide +kernel), (by decide +kernel), (by decide +kernel)⟩, by decide⟩
theorem im_X9_element : Cond.instanceMethod yX9_element ∈ lw_tbg := (in_tbg 788 (by decide +kernel) (by decide +kernel))
theorem se_X9_element : Cond.selects RX9 yX9_element yX9_element ∈ lw_tbg := (in_tbg 789 (by decide +kernel) (by decide +kernel))
def m_X9_copyElements : aM := (yX9_copyElements, cX9_copyElements, 6, some .int, none)
theorem kn_X9_copyElements : aKn m_X9_copyElements 5 := ⟨(by decide +kernel), rfl, (in_tbg 794 (by decide +kernel) (by decide +kernel)), (in_tbg 70 (by decide +kernel) (by decide +kernel)), ⟨(by decide +kernel), (by decide +kernel), (by decide +kernel)⟩, by decide⟩
theorem im_X9_copyElements : Cond.instanceMethod yX9_copyElements ∈ lw_tbg := (in_tbg 792 (by decide +kernel) (by decide +kernel))
theorem se_X9_copyElements : Cond.selects RX9 yX9_copyElements yX9_copyElements ∈ lw_tbg := (in_tbg 793 (by decide +kernel) (by decide +kernel))
def m_X9_compareWithArray : aM := (yX9_compareWithArray, cX9_compareWithArray, 6, some .int, none)
theorem kn_X9_compareWithArray : aKn m_X9_compareWithArray 1 := ⟨(by decide +kernel), rfl, (in_tbg 803 (by decide +kernel) (by decide +kernel)), (in_tbg 70 (by decide +kernel) (by decide +kernel)), ⟨(by decide +kernel), (by decide +kernel), (by decide +kernel)⟩, by decide⟩
theorem im_X9_compareWithArray : Cond.instanceMethod yX9_compareWithArray ∈ lw_tbg := (in_tbg 801 (by decide +kernel) (by decide +kernel))
theorem se_X9_compareWithArray : Cond.selects RX9 yX9_compareWithArray yX9_compareWithArray ∈ lw_tbg := (in_tbg 802 (by decide +kernel) (by decide +kernel))
def m_X9_isSlot : aM := (yX9_isSlot, cX9_isSlot, 1, some .boolean, none)
theorem kn_X9_isSlot : aKn m_X9_isSlot 1 := ⟨(by decide +kernel), rfl, (in_tbg 763 (by decide +kernel) (by decide +kernel)), (in_tbg 70 (by decide +kernel) (by decide +kernel)), ⟨(by decide +kernel), (by decide +kernel), (by decide +kernel)⟩, by decide⟩
theorem sm_X9_isSlot : Cond.static yX9_isSlot ∈ lw_tbg := (in_tbg 762 (by decide +kernel) (by decide +kernel))
def m_X9_snapshot : aM := (yX9_snapshot, cX9_snapshot, 1, some .int, none)
theorem kn_X9_snapshot : aKn m_X9_snapshot 0 := ⟨(by decide +kernel), rfl, (in_tbg 807 (by decide +kernel) (by decide +kernel)), (in_tbg 70 (by decide +kernel) (by decide +kernel)), ⟨(by decide +kernel), (by decide +kernel), (by decide +kernel)⟩, by decide⟩
theorem im_X9_snapshot : Cond.instanceMethod yX9_snapshot ∈ lw_tbg := (in_tbg 805 (by decide +kernel) (by decide +kernel))
theorem se_X9_snapshot : Cond.selects RX9 yX9_snapshot yX9_snapshot ∈ lw_tbg := (in_tbg 806 (by decide +kernel) (by decide +kernel))
def m_X9_restore : aM := (yX9_restore, cX9_restore, 1, some .int, none)
theorem kn_X9_restore : aKn m_X9_restore 0 := ⟨(by decide +kernel), rfl, (in_tbg 811 (by decide +kernel) (by decide +kernel)), (in_tbg 70 (by decide +kernel) (by decide +kernel)), ⟨(by decide +kernel), (by decide +kernel), (by decide +kernel)⟩, by decide⟩
theorem im_X9_restore : Cond.instanceMethod yX9_restore ∈ lw_tbg := (in_tbg 809 (by decide +kernel) (by decide +kernel))
theorem se_X9_restore : Cond.selects RX9 yX9_restore yX9_restore ∈ lw_tbg := (in_tbg 810 (by decide +kernel) (by decide +kernel))
def m_X10_init : aM := (yX10_init, cX10_init, 1, none, none)
theorem kn_X10_init : aKn m_X10_init 0 := ⟨(by decide +kernel), rfl, (in_tbg 816 (by decide +kernel) (by decide +kernel)), (in_tbg 80 (by decide +kernel) (by decide +kernel)), ⟨(by decide +kernel), (by decide +kernel), (by decide +kernel)⟩, by decide⟩
theorem im_X10_init : Cond.instanceMethod yX10_init ∈ lw_tbg := (in_tbg 815 (by decide +kernel) (by decide +kernel))
def m_X10_in : aM := (yX10_in, cX10_in, 6, some .boolean, none)
theorem kn_X10_in : aKn m_X10_in 3 := ⟨(by decide +kernel), rfl, (in_tbg 925 (by decide +kernel) (by decide +kernel)), (in_tbg 80 (by decide +kernel) (by decide +kernel)), ⟨(by decide +kernel), (by decide +kernel), (by decide +kernel)⟩, by decide⟩
theorem sm_X10_in : Cond.static yX10_in ∈ lw_tbg := (in_tbg 924 (by decide +kernel) (by decide +kernel))
def m_X10_isState : aM := (yX10_isState, cX10_isState, 2, some .boolean, none)
theorem kn_X10_isState : aKn m_X10_isState 1 := ⟨(by decide +kernel), rfl, (in_tbg 942 (by decide +kernel) (by decide +kernel)), (in_tbg 80 (by decide +kernel) (by decide +kernel)), ⟨(by decide +kernel), (by decide +kernel), (by decide +kernel)⟩, by decide⟩
theorem im_X10_isState : Cond.instanceMethod yX10_isState ∈ lw_tbg := (in_tbg 941 (by decide +kernel) (by decide +kernel))
theorem se_X10_isState : Cond.selects RX10 yX10_isState yX10_isState ∈ lw_tbg := (in_tbg 33 (by decide +kernel) (by decide +kernel))
def m_X10_w : aM := (yX10_w, cX10_w, 3, some .int, none)
theorem kn_X10_w : aKn m_X10_w 2 := ⟨(by decide +kernel), rfl, (in_tbg 964 (by decide +kernel) (by decide +kernel)), (in_tbg 80 (by decide +kernel) (by decide +kernel)), ⟨(by decide +kernel), (by decide +kernel), (by decide +kernel)⟩, by decide⟩
theorem im_X10_w : Cond.instanceMethod yX10_w ∈ lw_tbg := (in_tbg 963 (by decide +kernel) (by decide +kernel))
theorem se_X10_w : Cond.selects RX10 yX10_w yX10_w ∈ lw_tbg := (in_tbg 36 (by decide +kernel) (by decide +kernel))
def m_X10_setWeight : aM := (yX10_setWeight, cX10_setWeight, 4, none, none)
theorem kn_X10_setWeight : aKn m_X10_setWeight 3 := ⟨(by decide +kernel), rfl, (in_tbg 825 (by decide +kernel) (by decide +kernel)), (in_tbg 80 (by decide +kernel) (by decide +kernel)), ⟨(by decide +kernel), (by decide +kernel), (by decide +kernel)⟩, by decide⟩
theorem im_X10_setWeight : Cond.instanceMethod yX10_setWeight ∈ lw_tbg := (in_tbg 824 (by decide +kernel) (by decide +kernel))
theorem se_X10_setWeight : Cond.selects RX10 yX10_setWeight yX10_setWeight ∈ lw_tbg := (in_tbg 32 (by decide +kernel) (by decide +kernel))
def m_X10_initialize : aM := (yX10_initialize, cX10_initialize, 4, none, none)
theorem kn_X10_initialize : aKn m_X10_initialize 2 := ⟨(by decide +kernel), rfl, (in_tbg 821 (by decide +kernel) (by decide +kernel)), (in_tbg 80 (by decide +kernel) (by decide +kernel)), ⟨(by decide +kernel), (by decide +kernel), (by decide +kernel)⟩, by decide⟩
theorem im_X10_initialize : Cond.instanceMethod yX10_initialize ∈ lw_tbg := (in_tbg 820 (by decide +kernel) (by decide +kernel))
theorem se_X10_initialize : Cond.selects RX10 yX10_initialize yX10_initialize ∈ lw_tbg := (in_tbg 31 (by decide +kernel) (by decide +kernel))
def m_X10_reset : aM := (yX10_reset, cX10_reset, 4, some .int, none)
theorem kn_X10_reset : aKn m_X10_reset 2 := ⟨(by decide +kernel), rfl, (in_tbg 921 (by decide +kernel) (by decide +kernel)), (in_tbg 80 (by decide +kernel) (by decide +kernel)), ⟨(by decide +kernel), (by decide +kernel), (by decide +kernel)⟩, by decide⟩
theorem im_X10_reset : Cond.instanceMethod yX10_reset ∈ lw_tbg := (in_tbg 919 (by decide +kernel) (by decide +kernel))
theorem se_X10_reset : Cond.selects RX10 yX10_reset yX10_reset ∈ lw_tbg := (in_tbg 920 (by decide +kernel) (by decide +kernel))
def m_X10_states : aM := (yX10_states, cX10_states, 1, some .int, none)
theorem kn_X10_states : aKn m_X10_states 0 := ⟨(by decide +kernel), rfl, (in_tbg 930 (by decide +kernel) (by decide +kernel)), (in_tbg 80 (by decide +kernel) (by decide +kernel)), ⟨(by decide +kernel), (by decide +kernel), (by decide +kernel)⟩, by decide⟩
theorem im_X10_states : Cond.instanceMethod yX10_states ∈ lw_tbg := (in_tbg 928 (by decide +kernel) (by decide +kernel))
theorem se_X10_states : Cond.selects RX10 yX10_states yX10_states ∈ lw_tbg := (in_tbg 929 (by decide +kernel) (by decide +kernel))
def m_X10_resolution : aM := (yX10_resolution, cX10_resolution, 1, some .int, none)
theorem kn_X10_resolution : aKn m_X10_resolution 0 := ⟨(by decide +kernel), rfl, (in_tbg 934 (by decide +kernel) (by decide +kernel)), (in_tbg 80 (by decide +kernel) (by decide +kernel)), ⟨(by decide +kernel), (by decide +kernel), (by decide +kernel)⟩, by decide⟩
theorem im_X10_resolution : Cond.instanceMethod yX10_resolution ∈ lw_tbg := (in_tbg 932 (by decide +kernel) (by decide +kernel))
theorem se_X10_resolution : Cond.selects RX10 yX10_resolution yX10_resolution ∈ lw_tbg := (in_tbg 933 (by decide +kernel) (by decide +kernel))
def m_X10_begin : aM := (yX10_begin, cX10_begin, 1, none, none)
theorem kn_X10_begin : aKn m_X10_begin 0 := ⟨(by decide +kernel), rfl, (in_tbg 947 (by decide +kernel) (by decide +kernel)), (in_tbg 80 (by decide +kernel) (by decide +kernel)), ⟨(by decide +kernel), (by decide +kernel), (by decide +kernel)⟩, by decide⟩
theorem im_X10_begin : Cond.instanceMethod yX10_begin ∈ lw_tbg := (in_tbg 946 (by decide +kernel) (by decide +kernel))
theorem se_X10_begin : Cond.selects RX10 yX10_begin yX10_begin ∈ lw_tbg := (in_tbg 34 (by decide +kernel) (by decide +kernel))
def m_X10_record : aM := (yX10_record, cX10_record, 3, some .boolean, none)
theorem kn_X10_record : aKn m_X10_record 0 := ⟨(by decide +kernel), rfl, (in_tbg 952 (by decide +kernel) (by decide +kernel)), (in_tbg 80 (by decide +kernel) (by decide +kernel)), ⟨(by decide +kernel), (by decide +kernel), (by decide +kernel)⟩, by decide⟩
theorem im_X10_record : Cond.instanceMethod yX10_record ∈ lw_tbg := (in_tbg 951 (by decide +kernel) (by decide +kernel))
theorem se_X10_record : Cond.selects RX10 yX10_record yX10_record ∈ lw_tbg := (in_tbg 35 (by decide +kernel) (by decide +kernel))
def m_X10_setLabel : aM := (yX10_setLabel, cX10_setLabel, 4, some .int, none)
theorem kn_X10_setLabel : aKn m_X10_setLabel 2 := ⟨(by decide +kernel), rfl, (in_tbg 938 (by decide +kernel) (by decide +kernel)), (in_tbg 80 (by decide +kernel) (by decide +kernel)), ⟨(by decide +kernel), (by decide +kernel), (by decide +kernel)⟩, by decide⟩
theorem im_X10_setLabel : Cond.instanceMethod yX10_setLabel ∈ lw_tbg := (in_tbg 936 (by decide +kernel) (by decide +kernel))
theorem se_X10_setLabel : Cond.selects RX10 yX10_setLabel yX10_setLabel ∈ lw_tbg := (in_tbg 937 (by decide +kernel) (by decide +kernel))
def m_X10_label : aM := (yX10_label, cX10_label, 2, some .int, none)
theorem kn_X10_label : aKn m_X10_label 1 := ⟨(by decide +kernel), rfl, (in_tbg 956 (by decide +kernel) (by decide +kernel)), (in_tbg 80 (by decide +kernel) (by decide +kernel)), ⟨(by decide +kernel), (by decide +kernel), (by decide +kernel)⟩, by decide⟩
theorem im_X10_label : Cond.instanceMethod yX10_label ∈ lw_tbg := (in_tbg 954 (by decide +kernel) (by decide +kernel))
theorem se_X10_label : Cond.selects RX10 yX10_label yX10_label ∈ lw_tbg := (in_tbg 955 (by decide +kernel) (by decide +kernel))
def m_X10_moveWeight : aM := (yX10_moveWeight, cX10_moveWeight, 5, some .int, none)
theorem kn_X10_moveWeight : aKn m_X10_moveWeight 4 := ⟨(by decide +kernel), rfl, (in_tbg 960 (by decide +kernel) (by decide +kernel)), (in_tbg 80 (by decide +kernel) (by decide +kernel)), ⟨(by decide +kernel), (by decide +kernel), (by decide +kernel)⟩, by decide⟩
theorem im_X10_moveWeight : Cond.instanceMethod yX10_moveWeight ∈ lw_tbg := (in_tbg 958 (by decide +kernel) (by decide +kernel))
theorem se_X10_moveWeight : Cond.selects RX10 yX10_moveWeight yX10_moveWeight ∈ lw_tbg := (in_tbg 959 (by decide +kernel) (by decide +kernel))
def m_X10_weight : aM := (yX10_weight, cX10_weight, 3, some .int, none)
theorem kn_X10_weight : aKn m_X10_weight 2 := ⟨(by decide +kernel), rfl, (in_tbg 968 (by decide +kernel) (by decide +kernel)), (in_tbg 80 (by decide +kernel) (by decide +kernel)), ⟨(by decide +kernel), (by decide +kernel), (by decide +kernel)⟩, by decide⟩
theorem im_X10_weight : Cond.instanceMethod yX10_weight ∈ lw_tbg := (in_tbg 966 (by decide +kernel) (by decide +kernel))
theorem se_X10_weight : Cond.selects RX10 yX10_weight yX10_weight ∈ lw_tbg := (in_tbg 967 (by decide +kernel) (by decide +kernel))
def m_X10_setDiscount : aM := (yX10_setDiscount, cX10_setDiscount, 3, some .int, none)
theorem kn_X10_setDiscount : aKn m_X10_setDiscount 2 := ⟨(by decide +kernel), rfl, (in_tbg 972 (by decide +kernel) (by decide +kernel)), (in_tbg 80 (by decide +kernel) (by decide +kernel)), ⟨(by decide +kernel), (by decide +kernel), (by decide +kernel)⟩, by decide⟩
theorem im_X10_setDiscount : Cond.instanceMethod yX10_setDiscount ∈ lw_tbg := (in_tbg 970 (by decide +kernel) (by decide +kernel))
theorem se_X10_setDiscount : Cond.selects RX10 yX10_setDiscount yX10_setDiscount ∈ lw_tbg := (in_tbg 971 (by decide +kernel) (by decide +kernel))
def m_X10_swapStates : aM := (yX10_swapStates, cX10_swapStates, 7, some .int, none)
theorem kn_X10_swapStates : aKn m_X10_swapStates 2 := ⟨(by decide +kernel), rfl, (in_tbg 977 (by decide +kernel) (by decide +kernel)), (in_tbg 80 (by decide +kernel) (by decide +kernel)), ⟨(by decide +kernel), (by decide +kernel), (by decide +kernel)⟩, by decide⟩
theorem im_X10_swapStates : Cond.instanceMethod yX10_swapStates ∈ lw_tbg := (in_tbg 975 (by decide +kernel) (by decide +kernel))
theorem se_X10_swapStates : Cond.selects RX10 yX10_swapStates yX10_swapStates ∈ lw_tbg := (in_tbg 976 (by decide +kernel) (by decide +kernel))
def m_X10_undo : aM := (yX10_undo, cX10_undo, 1, some .int, none)
theorem kn_X10_undo : aKn m_X10_undo 0 := ⟨(by decide +kernel), rfl, (in_tbg 981 (by decide +kernel) (by decide +kernel)), (in_tbg 80 (by decide +kernel) (by decide +kernel)), ⟨(by decide +kernel), (by decide +kernel), (by decide +kernel)⟩, by decide⟩
theorem im_X10_undo : Cond.instanceMethod yX10_undo ∈ lw_tbg := (in_tbg 979 (by decide +kernel) (by decide +kernel))
theorem se_X10_undo : Cond.selects RX10 yX10_undo yX10_undo ∈ lw_tbg := (in_tbg 980 (by decide +kernel) (by decide +kernel))
def m_X10_editCount : aM := (yX10_editCount, cX10_editCount, 1, some .int, none)
theorem kn_X10_editCount : aKn m_X10_editCount 0 := ⟨(by decide +kernel), rfl, (in_tbg 985 (by decide +kernel) (by decide +kernel)), (in_tbg 80 (by decide +kernel) (by decide +kernel)), ⟨(by decide +kernel), (by decide +kernel), (by decide +kernel)⟩, by decide⟩
theorem im_X10_editCount : Cond.instanceMethod yX10_editCount ∈ lw_tbg := (in_tbg 983 (by decide +kernel) (by decide +kernel))
theorem se_X10_editCount : Cond.selects RX10 yX10_editCount yX10_editCount ∈ lw_tbg := (in_tbg 984 (by decide +kernel) (by decide +kernel))
def m_X10_unit : aM := (yX10_unit, cX10_unit, 1, some .int, none)
theorem kn_X10_unit : aKn m_X10_unit 0 := ⟨(by decide +kernel), rfl, (in_tbg 993 (by decide +kernel) (by decide +kernel)), (in_tbg 80 (by decide +kernel) (by decide +kernel)), ⟨(by decide +kernel), (by decide +kernel), (by decide +kernel)⟩, by decide⟩
theorem im_X10_unit : Cond.instanceMethod yX10_unit ∈ lw_tbg := (in_tbg 992 (by decide +kernel) (by decide +kernel))
theorem se_X10_unit : Cond.selects RX10 yX10_unit yX10_unit ∈ lw_tbg := (in_tbg 37 (by decide +kernel) (by decide +kernel))
def m_X10_scale : aM := (yX10_scale, cX10_scale, 5, some .long, none)
theorem kn_X10_scale : aKn m_X10_scale 1 := ⟨(by decide +kernel), rfl, (in_tbg 997 (by decide +kernel) (by decide +kernel)), (in_tbg 80 (by decide +kernel) (by decide +kernel)), ⟨(by decide +kernel), (by decide +kernel), (by decide +kernel)⟩, by decide⟩
theorem im_X10_scale : Cond.instanceMethod yX10_scale ∈ lw_tbg := (in_tbg 996 (by decide +kernel) (by decide +kernel))
theorem se_X10_scale : Cond.selects RX10 yX10_scale yX10_scale ∈ lw_tbg := (in_tbg 38 (by decide +kernel) (by decide +kernel))
def m_X10_maximumDepth : aM := (yX10_maximumDepth, cX10_maximumDepth, 2, some .int, none)
theorem kn_X10_maximumDepth : aKn m_X10_maximumDepth 0 := ⟨(by decide +kernel), rfl, (in_tbg 989 (by decide +kernel) (by decide +kernel)), (in_tbg 80 (by decide +kernel) (by decide +kernel)), ⟨(by decide +kernel), (by decide +kernel), (by decide +kernel)⟩, by decide⟩
theorem im_X10_maximumDepth : Cond.instanceMethod yX10_maximumDepth ∈ lw_tbg := (in_tbg 987 (by decide +kernel) (by decide +kernel))
theorem se_X10_maximumDepth : Cond.selects RX10 yX10_maximumDepth yX10_maximumDepth ∈ lw_tbg := (in_tbg 988 (by decide +kernel) (by decide +kernel))
def m_X10_d : aM := (yX10_d, cX10_d, 3, some .long, none)
theorem kn_X10_d : aKn m_X10_d 2 := ⟨(by decide +kernel), rfl, (in_tbg 1040 (by decide +kernel) (by decide +kernel)), (in_tbg 80 (by decide +kernel) (by decide +kernel)), ⟨(by decide +kernel), (by decide +kernel), (by decide +kernel)⟩, by decide⟩
theorem im_X10_d : Cond.instanceMethod yX10_d ∈ lw_tbg := (in_tbg 1039 (by decide +kernel) (by decide +kernel))
theorem se_X10_d : Cond.selects RX10 yX10_d yX10_d ∈ lw_tbg := (in_tbg 46 (by decide +kernel) (by decide +kernel))
def m_X10_computeDistances : aM := (yX10_computeDistances, cX10_computeDistances, 6, none, none)
theorem kn_X10_computeDistances : aKn m_X10_computeDistances 1 := ⟨(by decide +kernel), rfl, (in_tbg 1015 (by decide +kernel) (by decide +kernel)), (in_tbg 80 (by decide +kernel) (by decide +kernel)), ⟨(by decide +kernel), (by decide +kernel), (by decide +kernel)⟩, by decide⟩
theorem im_X10_computeDistances : Cond.instanceMethod yX10_computeDistances ∈ lw_tbg := (in_tbg 1014 (by decide +kernel) (by decide +kernel))
theorem se_X10_computeDistances : Cond.selects RX10 yX10_computeDistances yX10_computeDistances ∈ lw_tbg := (in_tbg 40 (by decide +kernel) (by decide +kernel))
def m_X10_f : aM := (yX10_f, cX10_f, 3, some .int, none)
theorem kn_X10_f : aKn m_X10_f 2 := ⟨(by decide +kernel), rfl, (in_tbg 1044 (by decide +kernel) (by decide +kernel)), (in_tbg 80 (by decide +kernel) (by decide +kernel)), ⟨(by decide +kernel), (by decide +kernel), (by decide +kernel)⟩, by decide⟩
theorem im_X10_f : Cond.instanceMethod yX10_f ∈ lw_tbg := (in_tbg 1043 (by decide +kernel) (by decide +kernel))
theorem se_X10_f : Cond.selects RX10 yX10_f yX10_f ∈ lw_tbg := (in_tbg 47 (by decide +kernel) (by decide +kernel))
def m_X10_fill : aM := (yX10_fill, cX10_fill, 8, none, none)
theorem kn_X10_fill : aKn m_X10_fill 2 := ⟨(by decide +kernel), rfl, (in_tbg 1027 (by decide +kernel) (by decide +kernel)), (in_tbg 80 (by decide +kernel) (by decide +kernel)), ⟨(by decide +kernel), (by decide +kernel), (by decide +kernel)⟩, by decide⟩
theorem im_X10_fill : Cond.instanceMethod yX10_fill ∈ lw_tbg := (in_tbg 1026 (by decide +kernel) (by decide +kernel))
theorem se_X10_fill : Cond.selects RX10 yX10_fill yX10_fill ∈ lw_tbg := (in_tbg 43 (by decide +kernel) (by decide +kernel))
def m_X10_relax : aM := (yX10_relax, cX10_relax, 5, some .int, none)
theorem kn_X10_relax : aKn m_X10_relax 0 := ⟨(by decide +kernel), rfl, (in_tbg 1035 (by decide +kernel) (by decide +kernel)), (in_tbg 80 (by decide +kernel) (by decide +kernel)), ⟨(by decide +kernel), (by decide +kernel), (by decide +kernel)⟩, by decide⟩
theorem im_X10_relax : Cond.instanceMethod yX10_relax ∈ lw_tbg := (in_tbg 1034 (by decide +kernel) (by decide +kernel))
theorem se_X10_relax : Cond.selects RX10 yX10_relax yX10_relax ∈ lw_tbg := (in_tbg 45 (by decide +kernel) (by decide +kernel))
def m_X10_shift : aM := (yX10_shift, cX10_shift, 4, none, none)
theorem kn_X10_shift : aKn m_X10_shift 2 := ⟨(by decide +kernel), rfl, (in_tbg 1048 (by decide +kernel) (by decide +kernel)), (in_tbg 80 (by decide +kernel) (by decide +kernel)), ⟨(by decide +kernel), (by decide +kernel), (by decide +kernel)⟩, by decide⟩
theorem im_X10_shift : Cond.instanceMethod yX10_shift ∈ lw_tbg := (in_tbg 1047 (by decide +kernel) (by decide +kernel))
theorem se_X10_shift : Cond.selects RX10 yX10_shift yX10_shift ∈ lw_tbg := (in_tbg 48 (by decide +kernel) (by decide +kernel))
def m_X10_cancel : aM := (yX10_cancel, cX10_cancel, 5, some .boolean, none)
theorem kn_X10_cancel : aKn m_X10_cancel 0 := ⟨(by decide +kernel), rfl, (in_tbg 1031 (by decide +kernel) (by decide +kernel)), (in_tbg 80 (by decide +kernel) (by decide +kernel)), ⟨(by decide +kernel), (by decide +kernel), (by decide +kernel)⟩, by decide⟩
theorem im_X10_cancel : Cond.instanceMethod yX10_cancel ∈ lw_tbg := (in_tbg 1030 (by decide +kernel) (by decide +kernel))
theorem se_X10_cancel : Cond.selects RX10 yX10_cancel yX10_cancel ∈ lw_tbg := (in_tbg 44 (by decide +kernel) (by decide +kernel))
def m_X10_optimize : aM := (yX10_optimize, cX10_optimize, 4, none, none)
theorem kn_X10_optimize : aKn m_X10_optimize 2 := ⟨(by decide +kernel), rfl, (in_tbg 1023 (by decide +kernel) (by decide +kernel)), (in_tbg 80 (by decide +kernel) (by decide +kernel)), ⟨(by decide +kernel), (by decide +kernel), (by decide +kernel)⟩, by decide⟩
theorem im_X10_optimize : Cond.instanceMethod yX10_optimize ∈ lw_tbg := (in_tbg 1022 (by decide +kernel) (by decide +kernel))
theorem se_X10_optimize : Cond.selects RX10 yX10_optimize yX10_optimize ∈ lw_tbg := (in_tbg 42 (by decide +kernel) (by decide +kernel))
def m_X10_minimumCost : aM := (yX10_minimumCost, cX10_minimumCost, 7, some .long, none)
theorem kn_X10_minimumCost : aKn m_X10_minimumCost 2 := ⟨(by decide +kernel), rfl, (in_tbg 1019 (by decide +kernel) (by decide +kernel)), (in_tbg 80 (by decide +kernel) (by decide +kernel)), ⟨(by decide +kernel), (by decide +kernel), (by decide +kernel)⟩, by decide⟩
theorem im_X10_minimumCost : Cond.instanceMethod yX10_minimumCost ∈ lw_tbg := (in_tbg 1018 (by decide +kernel) (by decide +kernel))
theorem se_X10_minimumCost : Cond.selects RX10 yX10_minimumCost yX10_minimumCost ∈ lw_tbg := (in_tbg 41 (by decide +kernel) (by decide +kernel))
def m_X10_lower : aM := (yX10_lower, cX10_lower, 6, some .boolean, none)
theorem kn_X10_lower : aKn m_X10_lower 2 := ⟨(by decide +kernel), rfl, (in_tbg 1080 (by decide +kernel) (by decide +kernel)), (in_tbg 80 (by decide +kernel) (by decide +kernel)), ⟨(by decide +kernel), (by decide +kernel), (by decide +kernel)⟩, by decide⟩
theorem im_X10_lower : Cond.instanceMethod yX10_lower ∈ lw_tbg := (in_tbg 1079 (by decide +kernel) (by decide +kernel))
theorem se_X10_lower : Cond.selects RX10 yX10_lower yX10_lower ∈ lw_tbg := (in_tbg 51 (by decide +kernel) (by decide +kernel))
def m_X10_canonicalCoupling : aM := (yX10_canonicalCoupling, cX10_canonicalCoupling, 6, none, none)
theorem kn_X10_canonicalCoupling : aKn m_X10_canonicalCoupling 2 := ⟨(by decide +kernel), rfl, (in_tbg 1076 (by decide +kernel) (by decide +kernel)), (in_tbg 80 (by decide +kernel) (by decide +kernel)), ⟨(by decide +kernel), (by decide +kernel), (by decide +kernel)⟩, by decide⟩
theorem im_X10_canonicalCoupling : Cond.instanceMethod yX10_canonicalCoupling ∈ lw_tbg := (in_tbg 1075 (by decide +kernel) (by decide +kernel))
theorem se_X10_canonicalCoupling : Cond.selects RX10 yX10_canonicalCoupling yX10_canonicalCoupling ∈ lw_tbg := (in_tbg 50 (by decide +kernel) (by decide +kernel))
def m_X10_isDepth : aM := (yX10_isDepth, cX10_isDepth, 1, some .boolean, none)
theorem kn_X10_isDepth : aKn m_X10_isDepth 1 := ⟨(by decide +kernel), rfl, (in_tbg 1009 (by decide +kernel) (by decide +kernel)), (in_tbg 80 (by decide +kernel) (by decide +kernel)), ⟨(by decide +kernel), (by decide +kernel), (by decide +kernel)⟩, by decide⟩
theorem sm_X10_isDepth : Cond.static yX10_isDepth ∈ lw_tbg := (in_tbg 1008 (by decide +kernel) (by decide +kernel))
def m_X10_divisor : aM := (yX10_divisor, cX10_divisor, 10, some .long, none)
theorem kn_X10_divisor : aKn m_X10_divisor 2 := ⟨(by decide +kernel), rfl, (in_tbg 1051 (by decide +kernel) (by decide +kernel)), (in_tbg 80 (by decide +kernel) (by decide +kernel)), ⟨(by decide +kernel), (by decide +kernel), (by decide +kernel)⟩, by decide⟩
theorem sm_X10_divisor : Cond.static yX10_divisor ∈ lw_tbg := (in_tbg 1050 (by decide +kernel) (by decide +kernel))
def m_X10_fraction : aM := (yX10_fraction, cX10_fraction, 7, some .long, none)
theorem kn_X10_fraction : aKn m_X10_fraction 4 := ⟨(by decide +kernel), rfl, (in_tbg 1006 (by decide +kernel) (by decide +kernel)), (in_tbg 80 (by decide +kernel) (by decide +kernel)), ⟨(by decide +kernel), (by decide +kernel), (by decide +kernel)⟩, by decide⟩
theorem im_X10_fraction : Cond.instanceMethod yX10_fraction ∈ lw_tbg := (in_tbg 1005 (by decide +kernel) (by decide +kernel))
theorem se_X10_fraction : Cond.selects RX10 yX10_fraction yX10_fraction ∈ lw_tbg := (in_tbg 39 (by decide +kernel) (by decide +kernel))
def m_X10_distanceNumerator : aM := (yX10_distanceNumerator, cX10_distanceNumerator, 4, some .long, none)
theorem kn_X10_distanceNumerator : aKn m_X10_distanceNumerator 3 := ⟨(by decide +kernel), rfl, (in_tbg 1002 (by decide +kernel) (by decide +kernel)), (in_tbg 80 (by decide +kernel) (by decide +kernel)), ⟨(by decide +kernel), (by decide +kernel), (by decide +kernel)⟩, by decide⟩
theorem im_X10_distanceNumerator : Cond.instanceMethod yX10_distanceNumerator ∈ lw_tbg := (in_tbg 1000 (by decide +kernel) (by decide +kernel))
theorem se_X10_distanceNumerator : Cond.selects RX10 yX10_distanceNumerator yX10_distanceNumerator ∈ lw_tbg := (in_tbg 1001 (by decide +kernel) (by decide +kernel))
def m_X10_distanceDenominator : aM := (yX10_distanceDenominator, cX10_distanceDenominator, 4, some .long, none)
theorem kn_X10_distanceDenominator : aKn m_X10_distanceDenominator 3 := ⟨(by decide +kernel), rfl, (in_tbg 1055 (by decide +kernel) (by decide +kernel)), (in_tbg 80 (by decide +kernel) (by decide +kernel)), ⟨(by decide +kernel), (by decide +kernel), (by decide +kernel)⟩, by decide⟩
theorem im_X10_distanceDenominator : Cond.instanceMethod yX10_distanceDenominator ∈ lw_tbg := (in_tbg 1053 (by decide +kernel) (by decide +kernel))
theorem se_X10_distanceDenominator : Cond.selects RX10 yX10_distanceDenominator yX10_distanceDenominator ∈ lw_tbg := (in_tbg 1054 (by decide +kernel) (by decide +kernel))
def m_X10_isPair : aM := (yX10_isPair, cX10_isPair, 2, some .boolean, none)
theorem kn_X10_isPair : aKn m_X10_isPair 1 := ⟨(by decide +kernel), rfl, (in_tbg 1063 (by decide +kernel) (by decide +kernel)), (in_tbg 80 (by decide +kernel) (by decide +kernel)), ⟨(by decide +kernel), (by decide +kernel), (by decide +kernel)⟩, by decide⟩
theorem im_X10_isPair : Cond.instanceMethod yX10_isPair ∈ lw_tbg := (in_tbg 1062 (by decide +kernel) (by decide +kernel))
theorem se_X10_isPair : Cond.selects RX10 yX10_isPair yX10_isPair ∈ lw_tbg := (in_tbg 49 (by decide +kernel) (by decide +kernel))
def m_X10_compareDistances : aM := (yX10_compareDistances, cX10_compareDistances, 8, some .int, none)
theorem kn_X10_compareDistances : aKn m_X10_compareDistances 3 := ⟨(by decide +kernel), rfl, (in_tbg 1059 (by decide +kernel) (by decide +kernel)), (in_tbg 80 (by decide +kernel) (by decide +kernel)), ⟨(by decide +kernel), (by decide +kernel), (by decide +kernel)⟩, by decide⟩
theorem im_X10_compareDistances : Cond.instanceMethod yX10_compareDistances ∈ lw_tbg := (in_tbg 1057 (by decide +kernel) (by decide +kernel))
theorem se_X10_compareDistances : Cond.selects RX10 yX10_compareDistances yX10_compareDistances ∈ lw_tbg := (in_tbg 1058 (by decide +kernel) (by decide +kernel))
def m_X10_farthestPair : aM := (yX10_farthestPair, cX10_farthestPair, 7, some .int, none)
theorem kn_X10_farthestPair : aKn m_X10_farthestPair 1 := ⟨(by decide +kernel), rfl, (in_tbg 1067 (by decide +kernel) (by decide +kernel)), (in_tbg 80 (by decide +kernel) (by decide +kernel)), ⟨(by decide +kernel), (by decide +kernel), (by decide +kernel)⟩, by decide⟩
theorem im_X10_farthestPair : Cond.instanceMethod yX10_farthestPair ∈ lw_tbg := (in_tbg 1065 (by decide +kernel) (by decide +kernel))
theorem se_X10_farthestPair : Cond.selects RX10 yX10_farthestPair yX10_farthestPair ∈ lw_tbg := (in_tbg 1066 (by decide +kernel) (by decide +kernel))
def m_X10_coupling : aM := (yX10_coupling, cX10_coupling, 5, some .int, none)
theorem kn_X10_coupling : aKn m_X10_coupling 4 := ⟨(by decide +kernel), rfl, (in_tbg 1072 (by decide +kernel) (by decide +kernel)), (in_tbg 80 (by decide +kernel) (by decide +kernel)), ⟨(by decide +kernel), (by decide +kernel), (by decide +kernel)⟩, by decide⟩
theorem im_X10_coupling : Cond.instanceMethod yX10_coupling ∈ lw_tbg := (in_tbg 1070 (by decide +kernel) (by decide +kernel))
theorem se_X10_coupling : Cond.selects RX10 yX10_coupling yX10_coupling ∈ lw_tbg := (in_tbg 1071 (by decide +kernel) (by decide +kernel))
def m_X10_distributionDistance : aM := (yX10_distributionDistance, cX10_distributionDistance, 12, some .int, none)
theorem kn_X10_distributionDistance : aKn m_X10_distributionDistance 3 := ⟨(by decide +kernel), rfl, (in_tbg 1084 (by decide +kernel) (by decide +kernel)), (in_tbg 80 (by decide +kernel) (by decide +kernel)), ⟨(by decide +kernel), (by decide +kernel), (by decide +kernel)⟩, by decide⟩
theorem im_X10_distributionDistance : Cond.instanceMethod yX10_distributionDistance ∈ lw_tbg := (in_tbg 1082 (by decide +kernel) (by decide +kernel))
theorem se_X10_distributionDistance : Cond.selects RX10 yX10_distributionDistance yX10_distributionDistance ∈ lw_tbg := (in_tbg 1083 (by decide +kernel) (by decide +kernel))
def m_X10_weightToClass : aM := (yX10_weightToClass, cX10_weightToClass, 5, some .int, none)
theorem kn_X10_weightToClass : aKn m_X10_weightToClass 2 := ⟨(by decide +kernel), rfl, (in_tbg 1104 (by decide +kernel) (by decide +kernel)), (in_tbg 80 (by decide +kernel) (by decide +kernel)), ⟨(by decide +kernel), (by decide +kernel), (by decide +kernel)⟩, by decide⟩
theorem im_X10_weightToClass : Cond.instanceMethod yX10_weightToClass ∈ lw_tbg := (in_tbg 1103 (by decide +kernel) (by decide +kernel))
theorem se_X10_weightToClass : Cond.selects RX10 yX10_weightToClass yX10_weightToClass ∈ lw_tbg := (in_tbg 55 (by decide +kernel) (by decide +kernel))
def m_X10_areAlike : aM := (yX10_areAlike, cX10_areAlike, 5, some .boolean, none)
theorem kn_X10_areAlike : aKn m_X10_areAlike 2 := ⟨(by decide +kernel), rfl, (in_tbg 1100 (by decide +kernel) (by decide +kernel)), (in_tbg 80 (by decide +kernel) (by decide +kernel)), ⟨(by decide +kernel), (by decide +kernel), (by decide +kernel)⟩, by decide⟩
theorem im_X10_areAlike : Cond.instanceMethod yX10_areAlike ∈ lw_tbg := (in_tbg 1099 (by decide +kernel) (by decide +kernel))
theorem se_X10_areAlike : Cond.selects RX10 yX10_areAlike yX10_areAlike ∈ lw_tbg := (in_tbg 54 (by decide +kernel) (by decide +kernel))
def m_X10_number : aM := (yX10_number, cX10_number, 5, some .int, none)
theorem kn_X10_number : aKn m_X10_number 1 := ⟨(by decide +kernel), rfl, (in_tbg 1096 (by decide +kernel) (by decide +kernel)), (in_tbg 80 (by decide +kernel) (by decide +kernel)), ⟨(by decide +kernel), (by decide +kernel), (by decide +kernel)⟩, by decide⟩
theorem im_X10_number : Cond.instanceMethod yX10_number ∈ lw_tbg := (in_tbg 1095 (by decide +kernel) (by decide +kernel))
theorem se_X10_number : Cond.selects RX10 yX10_number yX10_number ∈ lw_tbg := (in_tbg 53 (by decide +kernel) (by decide +kernel))
def m_X10_computeClasses : aM := (yX10_computeClasses, cX10_computeClasses, 2, none, none)
theorem kn_X10_computeClasses : aKn m_X10_computeClasses 0 := ⟨(by decide +kernel), rfl, (in_tbg 1092 (by decide +kernel) (by decide +kernel)), (in_tbg 80 (by decide +kernel) (by decide +kernel)), ⟨(by decide +kernel), (by decide +kernel), (by decide +kernel)⟩, by decide⟩
theorem im_X10_computeClasses : Cond.instanceMethod yX10_computeClasses ∈ lw_tbg := (in_tbg 1091 (by decide +kernel) (by decide +kernel))
theorem se_X10_computeClasses : Cond.selects RX10 yX10_computeClasses yX10_computeClasses ∈ lw_tbg := (in_tbg 52 (by decide +kernel) (by decide +kernel))
def m_X10_bisimulationClass : aM := (yX10_bisimulationClass, cX10_bisimulationClass, 2, some .int, none)
theorem kn_X10_bisimulationClass : aKn m_X10_bisimulationClass 1 := ⟨(by decide +kernel), rfl, (in_tbg 1088 (by decide +kernel) (by decide +kernel)), (in_tbg 80 (by decide +kernel) (by decide +kernel)), ⟨(by decide +kernel), (by decide +kernel), (by decide +kernel)⟩, by decide⟩
theorem im_X10_bisimulationClass : Cond.instanceMethod yX10_bisimulationClass ∈ lw_tbg := (in_tbg 1086 (by decide +kernel) (by decide +kernel))
theorem se_X10_bisimulationClass : Cond.selects RX10 yX10_bisimulationClass yX10_bisimulationClass ∈ lw_tbg := (in_tbg 1087 (by decide +kernel) (by decide +kernel))
def m_X10_bisimulationClassCount : aM := (yX10_bisimulationClassCount, cX10_bisimulationClassCount, 1, some .int, none)
theorem kn_X10_bisimulationClassCount : aKn m_X10_bisimulationClassCount 0 := ⟨(by decide +kernel), rfl, (in_tbg 1108 (by decide +kernel) (by decide +kernel)), (in_tbg 80 (by decide +kernel) (by decide +kernel)), ⟨(by decide +kernel), (by decide +kernel), (by decide +kernel)⟩, by decide⟩
theorem im_X10_bisimulationClassCount : Cond.instanceMethod yX10_bisimulationClassCount ∈ lw_tbg := (in_tbg 1106 (by decide +kernel) (by decide +kernel))
theorem se_X10_bisimulationClassCount : Cond.selects RX10 yX10_bisimulationClassCount yX10_bisimulationClassCount ∈ lw_tbg := (in_tbg 1107 (by decide +kernel) (by decide +kernel))
def m_X10_minimize : aM := (yX10_minimize, cX10_minimize, 7, some .int, none)
theorem kn_X10_minimize : aKn m_X10_minimize 0 := ⟨(by decide +kernel), rfl, (in_tbg 1112 (by decide +kernel) (by decide +kernel)), (in_tbg 80 (by decide +kernel) (by decide +kernel)), ⟨(by decide +kernel), (by decide +kernel), (by decide +kernel)⟩, by decide⟩
theorem im_X10_minimize : Cond.instanceMethod yX10_minimize ∈ lw_tbg := (in_tbg 1110 (by decide +kernel) (by decide +kernel))
theorem se_X10_minimize : Cond.selects RX10 yX10_minimize yX10_minimize ∈ lw_tbg := (in_tbg 1111 (by decide +kernel) (by decide +kernel))
def m_X10_isIn : aM := (yX10_isIn, cX10_isIn, 3, some .boolean, none)
theorem kn_X10_isIn : aKn m_X10_isIn 2 := ⟨(by decide +kernel), rfl, (in_tbg 1124 (by decide +kernel) (by decide +kernel)), (in_tbg 80 (by decide +kernel) (by decide +kernel)), ⟨(by decide +kernel), (by decide +kernel), (by decide +kernel)⟩, by decide⟩
theorem im_X10_isIn : Cond.instanceMethod yX10_isIn ∈ lw_tbg := (in_tbg 1123 (by decide +kernel) (by decide +kernel))
theorem se_X10_isIn : Cond.selects RX10 yX10_isIn yX10_isIn ∈ lw_tbg := (in_tbg 57 (by decide +kernel) (by decide +kernel))
def m_X10_step : aM := (yX10_step, cX10_step, 3, none, none)
theorem kn_X10_step : aKn m_X10_step 0 := ⟨(by decide +kernel), rfl, (in_tbg 1128 (by decide +kernel) (by decide +kernel)), (in_tbg 80 (by decide +kernel) (by decide +kernel)), ⟨(by decide +kernel), (by decide +kernel), (by decide +kernel)⟩, by decide⟩
theorem im_X10_step : Cond.instanceMethod yX10_step ∈ lw_tbg := (in_tbg 1127 (by decide +kernel) (by decide +kernel))
theorem se_X10_step : Cond.selects RX10 yX10_step yX10_step ∈ lw_tbg := (in_tbg 58 (by decide +kernel) (by decide +kernel))
def m_X10_isQuery : aM := (yX10_isQuery, cX10_isQuery, 4, some .boolean, none)
theorem kn_X10_isQuery : aKn m_X10_isQuery 3 := ⟨(by decide +kernel), rfl, (in_tbg 1120 (by decide +kernel) (by decide +kernel)), (in_tbg 80 (by decide +kernel) (by decide +kernel)), ⟨(by decide +kernel), (by decide +kernel), (by decide +kernel)⟩, by decide⟩
theorem im_X10_isQuery : Cond.instanceMethod yX10_isQuery ∈ lw_tbg := (in_tbg 1119 (by decide +kernel) (by decide +kernel))
theorem se_X10_isQuery : Cond.selects RX10 yX10_isQuery yX10_isQuery ∈ lw_tbg := (in_tbg 56 (by decide +kernel) (by decide +kernel))
def m_X10_reachWeight : aM := (yX10_reachWeight, cX10_reachWeight, 5, some .long, none)
theorem kn_X10_reachWeight : aKn m_X10_reachWeight 3 := ⟨(by decide +kernel), rfl, (in_tbg 1116 (by decide +kernel) (by decide +kernel)), (in_tbg 80 (by decide +kernel) (by decide +kernel)), ⟨(by decide +kernel), (by decide +kernel), (by decide +kernel)⟩, by decide⟩
theorem im_X10_reachWeight : Cond.instanceMethod yX10_reachWeight ∈ lw_tbg := (in_tbg 1114 (by decide +kernel) (by decide +kernel))
theorem se_X10_reachWeight : Cond.selects RX10 yX10_reachWeight yX10_reachWeight ∈ lw_tbg := (in_tbg 1115 (by decide +kernel) (by decide +kernel))
def m_X10_firstReachWeight : aM := (yX10_firstReachWeight, cX10_firstReachWeight, 8, some .long, none)
theorem kn_X10_firstReachWeight : aKn m_X10_firstReachWeight 3 := ⟨(by decide +kernel), rfl, (in_tbg 1132 (by decide +kernel) (by decide +kernel)), (in_tbg 80 (by decide +kernel) (by decide +kernel)), ⟨(by decide +kernel), (by decide +kernel), (by decide +kernel)⟩, by decide⟩
theorem im_X10_firstReachWeight : Cond.instanceMethod yX10_firstReachWeight ∈ lw_tbg := (in_tbg 1130 (by decide +kernel) (by decide +kernel))
theorem se_X10_firstReachWeight : Cond.selects RX10 yX10_firstReachWeight yX10_firstReachWeight ∈ lw_tbg := (in_tbg 1131 (by decide +kernel) (by decide +kernel))
def m_X10_sequenceWeight : aM := (yX10_sequenceWeight, cX10_sequenceWeight, 5, some .long, none)
theorem kn_X10_sequenceWeight : aKn m_X10_sequenceWeight 1 := ⟨(by decide +kernel), rfl, (in_tbg 1136 (by decide +kernel) (by decide +kernel)), (in_tbg 80 (by decide +kernel) (by decide +kernel)), ⟨(by decide +kernel), (by decide +kernel), (by decide +kernel)⟩, by decide⟩
theorem im_X10_sequenceWeight : Cond.instanceMethod yX10_sequenceWeight ∈ lw_tbg := (in_tbg 1134 (by decide +kernel) (by decide +kernel))
theorem se_X10_sequenceWeight : Cond.selects RX10 yX10_sequenceWeight yX10_sequenceWeight ∈ lw_tbg := (in_tbg 1135 (by decide +kernel) (by decide +kernel))
def m_X10_walk : aM := (yX10_walk, cX10_walk, 11, some .int, none)
theorem kn_X10_walk : aKn m_X10_walk 4 := ⟨(by decide +kernel), rfl, (in_tbg 1148 (by decide +kernel) (by decide +kernel)), (in_tbg 80 (by decide +kernel) (by decide +kernel)), ⟨(by decide +kernel), (by decide +kernel), (by decide +kernel)⟩, by decide⟩
theorem im_X10_walk : Cond.instanceMethod yX10_walk ∈ lw_tbg := (in_tbg 1147 (by decide +kernel) (by decide +kernel))
theorem se_X10_walk : Cond.selects RX10 yX10_walk yX10_walk ∈ lw_tbg := (in_tbg 59 (by decide +kernel) (by decide +kernel))
def m_X10_sample : aM := (yX10_sample, cX10_sample, 4, some .int, none)
theorem kn_X10_sample : aKn m_X10_sample 3 := ⟨(by decide +kernel), rfl, (in_tbg 1143 (by decide +kernel) (by decide +kernel)), (in_tbg 80 (by decide +kernel) (by decide +kernel)), ⟨(by decide +kernel), (by decide +kernel), (by decide +kernel)⟩, by decide⟩
theorem im_X10_sample : Cond.instanceMethod yX10_sample ∈ lw_tbg := (in_tbg 1141 (by decide +kernel) (by decide +kernel))
theorem se_X10_sample : Cond.selects RX10 yX10_sample yX10_sample ∈ lw_tbg := (in_tbg 1142 (by decide +kernel) (by decide +kernel))
def m_X10_sampledVisits : aM := (yX10_sampledVisits, cX10_sampledVisits, 6, some .int, none)
theorem kn_X10_sampledVisits : aKn m_X10_sampledVisits 4 := ⟨(by decide +kernel), rfl, (in_tbg 1153 (by decide +kernel) (by decide +kernel)), (in_tbg 80 (by decide +kernel) (by decide +kernel)), ⟨(by decide +kernel), (by decide +kernel), (by decide +kernel)⟩, by decide⟩
theorem im_X10_sampledVisits : Cond.instanceMethod yX10_sampledVisits ∈ lw_tbg := (in_tbg 1151 (by decide +kernel) (by decide +kernel))
theorem se_X10_sampledVisits : Cond.selects RX10 yX10_sampledVisits yX10_sampledVisits ∈ lw_tbg := (in_tbg 1152 (by decide +kernel) (by decide +kernel))
def m_X10_append : aM := (yX10_append, cX10_append, 4, some .int, none)
theorem kn_X10_append : aKn m_X10_append 2 := ⟨(by decide +kernel), rfl, (in_tbg 1157 (by decide +kernel) (by decide +kernel)), (in_tbg 80 (by decide +kernel) (by decide +kernel)), ⟨(by decide +kernel), (by decide +kernel), (by decide +kernel)⟩, by decide⟩
theorem im_X10_append : Cond.instanceMethod yX10_append ∈ lw_tbg := (in_tbg 1155 (by decide +kernel) (by decide +kernel))
theorem se_X10_append : Cond.selects RX10 yX10_append yX10_append ∈ lw_tbg := (in_tbg 1156 (by decide +kernel) (by decide +kernel))
def m_X10_clearInput : aM := (yX10_clearInput, cX10_clearInput, 2, some .int, none)
theorem kn_X10_clearInput : aKn m_X10_clearInput 0 := ⟨(by decide +kernel), rfl, (in_tbg 1161 (by decide +kernel) (by decide +kernel)), (in_tbg 80 (by decide +kernel) (by decide +kernel)), ⟨(by decide +kernel), (by decide +kernel), (by decide +kernel)⟩, by decide⟩
theorem im_X10_clearInput : Cond.instanceMethod yX10_clearInput ∈ lw_tbg := (in_tbg 1159 (by decide +kernel) (by decide +kernel))
theorem se_X10_clearInput : Cond.selects RX10 yX10_clearInput yX10_clearInput ∈ lw_tbg := (in_tbg 1160 (by decide +kernel) (by decide +kernel))
def m_X10_isNext : aM := (yX10_isNext, cX10_isNext, 3, some .boolean, none)
theorem kn_X10_isNext : aKn m_X10_isNext 2 := ⟨(by decide +kernel), rfl, (in_tbg 1177 (by decide +kernel) (by decide +kernel)), (in_tbg 80 (by decide +kernel) (by decide +kernel)), ⟨(by decide +kernel), (by decide +kernel), (by decide +kernel)⟩, by decide⟩
theorem im_X10_isNext : Cond.instanceMethod yX10_isNext ∈ lw_tbg := (in_tbg 1176 (by decide +kernel) (by decide +kernel))
theorem se_X10_isNext : Cond.selects RX10 yX10_isNext yX10_isNext ∈ lw_tbg := (in_tbg 62 (by decide +kernel) (by decide +kernel))
def m_X10_accept : aM := (yX10_accept, cX10_accept, 2, some .boolean, none)
theorem kn_X10_accept : aKn m_X10_accept 1 := ⟨(by decide +kernel), rfl, (in_tbg 1185 (by decide +kernel) (by decide +kernel)), (in_tbg 80 (by decide +kernel) (by decide +kernel)), ⟨(by decide +kernel), (by decide +kernel), (by decide +kernel)⟩, by decide⟩
theorem im_X10_accept : Cond.instanceMethod yX10_accept ∈ lw_tbg := (in_tbg 1184 (by decide +kernel) (by decide +kernel))
theorem se_X10_accept : Cond.selects RX10 yX10_accept yX10_accept ∈ lw_tbg := (in_tbg 64 (by decide +kernel) (by decide +kernel))
def m_X10_expect : aM := (yX10_expect, cX10_expect, 2, none, none)
theorem kn_X10_expect : aKn m_X10_expect 1 := ⟨(by decide +kernel), rfl, (in_tbg 1181 (by decide +kernel) (by decide +kernel)), (in_tbg 80 (by decide +kernel) (by decide +kernel)), ⟨(by decide +kernel), (by decide +kernel), (by decide +kernel)⟩, by decide⟩
theorem im_X10_expect : Cond.instanceMethod yX10_expect ∈ lw_tbg := (in_tbg 1180 (by decide +kernel) (by decide +kernel))
theorem se_X10_expect : Cond.selects RX10 yX10_expect yX10_expect ∈ lw_tbg := (in_tbg 63 (by decide +kernel) (by decide +kernel))
def m_X10_number_ : aM := (yX10_number_, cX10_number_, 4, some .int, none)
theorem kn_X10_number_ : aKn m_X10_number_ 1 := ⟨(by decide +kernel), rfl, (in_tbg 1173 (by decide +kernel) (by decide +kernel)), (in_tbg 80 (by decide +kernel) (by decide +kernel)), ⟨(by decide +kernel), (by decide +kernel), (by decide +kernel)⟩, by decide⟩
theorem im_X10_number_ : Cond.instanceMethod yX10_number_ ∈ lw_tbg := (in_tbg 1172 (by decide +kernel) (by decide +kernel))
theorem se_X10_number_ : Cond.selects RX10 yX10_number_ yX10_number_ ∈ lw_tbg := (in_tbg 61 (by decide +kernel) (by decide +kernel))
def m_X10_parseState : aM := (yX10_parseState, cX10_parseState, 5, none, none)
theorem kn_X10_parseState : aKn m_X10_parseState 0 := ⟨(by decide +kernel), rfl, (in_tbg 1189 (by decide +kernel) (by decide +kernel)), (in_tbg 80 (by decide +kernel) (by decide +kernel)), ⟨(by decide +kernel), (by decide +kernel), (by decide +kernel)⟩, by decide⟩
theorem im_X10_parseState : Cond.instanceMethod yX10_parseState ∈ lw_tbg := (in_tbg 1188 (by decide +kernel) (by decide +kernel))
theorem se_X10_parseState : Cond.selects RX10 yX10_parseState yX10_parseState ∈ lw_tbg := (in_tbg 65 (by decide +kernel) (by decide +kernel))
def m_X10_parseChain : aM := (yX10_parseChain, cX10_parseChain, 2, none, none)
theorem kn_X10_parseChain : aKn m_X10_parseChain 0 := ⟨(by decide +kernel), rfl, (in_tbg 1169 (by decide +kernel) (by decide +kernel)), (in_tbg 80 (by decide +kernel) (by decide +kernel)), ⟨(by decide +kernel), (by decide +kernel), (by decide +kernel)⟩, by decide⟩
theorem im_X10_parseChain : Cond.instanceMethod yX10_parseChain ∈ lw_tbg := (in_tbg 1168 (by decide +kernel) (by decide +kernel))
theorem se_X10_parseChain : Cond.selects RX10 yX10_parseChain yX10_parseChain ∈ lw_tbg := (in_tbg 60 (by decide +kernel) (by decide +kernel))
def m_X10_isConsistent : aM := (yX10_isConsistent, cX10_isConsistent, 5, some .boolean, none)
theorem kn_X10_isConsistent : aKn m_X10_isConsistent 0 := ⟨(by decide +kernel), rfl, (in_tbg 1197 (by decide +kernel) (by decide +kernel)), (in_tbg 80 (by decide +kernel) (by decide +kernel)), ⟨(by decide +kernel), (by decide +kernel), (by decide +kernel)⟩, by decide⟩
theorem im_X10_isConsistent : Cond.instanceMethod yX10_isConsistent ∈ lw_tbg := (in_tbg 1196 (by decide +kernel) (by decide +kernel))
theorem se_X10_isConsistent : Cond.selects RX10 yX10_isConsistent yX10_isConsistent ∈ lw_tbg := (in_tbg 67 (by decide +kernel) (by decide +kernel))
def m_X10_hasWrongSuccessor : aM := (yX10_hasWrongSuccessor, cX10_hasWrongSuccessor, 2, some .boolean, none)
theorem kn_X10_hasWrongSuccessor : aKn m_X10_hasWrongSuccessor 1 := ⟨(by decide +kernel), rfl, (in_tbg 1201 (by decide +kernel) (by decide +kernel)), (in_tbg 80 (by decide +kernel) (by decide +kernel)), ⟨(by decide +kernel), (by decide +kernel), (by decide +kernel)⟩, by decide⟩
theorem im_X10_hasWrongSuccessor : Cond.instanceMethod yX10_hasWrongSuccessor ∈ lw_tbg := (in_tbg 1200 (by decide +kernel) (by decide +kernel))
theorem se_X10_hasWrongSuccessor : Cond.selects RX10 yX10_hasWrongSuccessor yX10_hasWrongSuccessor ∈ lw_tbg := (in_tbg 68 (by decide +kernel) (by decide +kernel))
def m_X10_findWrongSuccessors : aM := (yX10_findWrongSuccessors, cX10_findWrongSuccessors, 3, none, none)
theorem kn_X10_findWrongSuccessors : aKn m_X10_findWrongSuccessors 0 := ⟨(by decide +kernel), rfl, (in_tbg 1193 (by decide +kernel) (by decide +kernel)), (in_tbg 80 (by decide +kernel) (by decide +kernel)), ⟨(by decide +kernel), (by decide +kernel), (by decide +kernel)⟩, by decide⟩
theorem im_X10_findWrongSuccessors : Cond.instanceMethod yX10_findWrongSuccessors ∈ lw_tbg := (in_tbg 1192 (by decide +kernel) (by decide +kernel))
theorem se_X10_findWrongSuccessors : Cond.selects RX10 yX10_findWrongSuccessors yX10_findWrongSuccessors ∈ lw_tbg := (in_tbg 66 (by decide +kernel) (by decide +kernel))
def m_X10_parse : aM := (yX10_parse, cX10_parse, 3, some .int, none)
theorem kn_X10_parse : aKn m_X10_parse 0 := ⟨(by decide +kernel), rfl, (in_tbg 1165 (by decide +kernel) (by decide +kernel)), (in_tbg 80 (by decide +kernel) (by decide +kernel)), ⟨(by decide +kernel), (by decide +kernel), (by decide +kernel)⟩, by decide⟩
theorem im_X10_parse : Cond.instanceMethod yX10_parse ∈ lw_tbg := (in_tbg 1163 (by decide +kernel) (by decide +kernel))
theorem se_X10_parse : Cond.selects RX10 yX10_parse yX10_parse ∈ lw_tbg := (in_tbg 1164 (by decide +kernel) (by decide +kernel))
def m_X10_isSlot : aM := (yX10_isSlot, cX10_isSlot, 1, some .boolean, none)
theorem kn_X10_isSlot : aKn m_X10_isSlot 1 := ⟨(by decide +kernel), rfl, (in_tbg 1208 (by decide +kernel) (by decide +kernel)), (in_tbg 80 (by decide +kernel) (by decide +kernel)), ⟨(by decide +kernel), (by decide +kernel), (by decide +kernel)⟩, by decide⟩
theorem sm_X10_isSlot : Cond.static yX10_isSlot ∈ lw_tbg := (in_tbg 1207 (by decide +kernel) (by decide +kernel))
def m_X10_allocate : aM := (yX10_allocate, cX10_allocate, 5, some .int, none)
theorem kn_X10_allocate : aKn m_X10_allocate 3 := ⟨(by decide +kernel), rfl, (in_tbg 1205 (by decide +kernel) (by decide +kernel)), (in_tbg 80 (by decide +kernel) (by decide +kernel)), ⟨(by decide +kernel), (by decide +kernel), (by decide +kernel)⟩, by decide⟩
theorem im_X10_allocate : Cond.instanceMethod yX10_allocate ∈ lw_tbg := (in_tbg 1203 (by decide +kernel) (by decide +kernel))
theorem se_X10_allocate : Cond.selects RX10 yX10_allocate yX10_allocate ∈ lw_tbg := (in_tbg 1204 (by decide +kernel) (by decide +kernel))
def m_X10_release : aM := (yX10_release, cX10_release, 3, some .int, none)
theorem kn_X10_release : aKn m_X10_release 1 := ⟨(by decide +kernel), rfl, (in_tbg 1212 (by decide +kernel) (by decide +kernel)), (in_tbg 80 (by decide +kernel) (by decide +kernel)), ⟨(by decide +kernel), (by decide +kernel), (by decide +kernel)⟩, by decide⟩
theorem im_X10_release : Cond.instanceMethod yX10_release ∈ lw_tbg := (in_tbg 1210 (by decide +kernel) (by decide +kernel))
theorem se_X10_release : Cond.selects RX10 yX10_release yX10_release ∈ lw_tbg := (in_tbg 1211 (by decide +kernel) (by decide +kernel))
def m_X10_narrow : aM := (yX10_narrow, cX10_narrow, 3, some .long, none)
theorem kn_X10_narrow : aKn m_X10_narrow 2 := ⟨(by decide +kernel), rfl, (in_tbg 1219 (by decide +kernel) (by decide +kernel)), (in_tbg 80 (by decide +kernel) (by decide +kernel)), ⟨(by decide +kernel), (by decide +kernel), (by decide +kernel)⟩, by decide⟩
theorem sm_X10_narrow : Cond.static yX10_narrow ∈ lw_tbg := (in_tbg 1218 (by decide +kernel) (by decide +kernel))
def m_X10_putElement : aM := (yX10_putElement, cX10_putElement, 5, some .int, none)
theorem kn_X10_putElement : aKn m_X10_putElement 3 := ⟨(by decide +kernel), rfl, (in_tbg 1216 (by decide +kernel) (by decide +kernel)), (in_tbg 80 (by decide +kernel) (by decide +kernel)), ⟨(by decide +kernel), (by decide +kernel), (by decide +kernel)⟩, by decide⟩
theorem im_X10_putElement : Cond.instanceMethod yX10_putElement ∈ lw_tbg := (in_tbg 1214 (by decide +kernel) (by decide +kernel))
theorem se_X10_putElement : Cond.selects RX10 yX10_putElement yX10_putElement ∈ lw_tbg := (in_tbg 1215 (by decide +kernel) (by decide +kernel))
def m_X10_element : aM := (yX10_element, cX10_element, 4, some .long, none)
theorem kn_X10_element : aKn m_X10_element 2 := ⟨(by decide +kernel), rfl, (in_tbg 1223 (by decide +kernel) (by decide +kernel)), (in_tbg 80 (by decide +kernel) (by decide +kernel)), ⟨(by decide +kernel), (by decide +kernel), (by decide +kernel)⟩, by decide⟩
theorem im_X10_element : Cond.instanceMethod yX10_element ∈ lw_tbg := (in_tbg 1221 (by decide +kernel) (by decide +kernel))
theorem se_X10_element : Cond.selects RX10 yX10_element yX10_element ∈ lw_tbg := (in_tbg 1222 (by decide +kernel) (by decide +kernel))
def m_X10_copyElements : aM := (yX10_copyElements, cX10_copyElements, 6, some .int, none)
theorem kn_X10_copyElements : aKn m_X10_copyElements 5 := ⟨(by decide +kernel), rfl, (in_tbg 1227 (by decide +kernel) (by decide +kernel)), (in_tbg 80 (by decide +kernel) (by decide +kernel)), ⟨(by decide +kernel), (by decide +kernel), (by decide +kernel)⟩, by decide⟩
theorem im_X10_copyElements : Cond.instanceMethod yX10_copyElements ∈ lw_tbg := (in_tbg 1225 (by decide +kernel) (by decide +kernel))
theorem se_X10_copyElements : Cond.selects RX10 yX10_copyElements yX10_copyElements ∈ lw_tbg := (in_tbg 1226 (by decide +kernel) (by decide +kernel))
def m_X10_compareWithArray : aM := (yX10_compareWithArray, cX10_compareWithArray, 4, some .int, none)
theorem kn_X10_compareWithArray : aKn m_X10_compareWithArray 1 := ⟨(by decide +kernel), rfl, (in_tbg 1231 (by decide +kernel) (by decide +kernel)), (in_tbg 80 (by decide +kernel) (by decide +kernel)), ⟨(by decide +kernel), (by decide +kernel), (by decide +kernel)⟩, by decide⟩
theorem im_X10_compareWithArray : Cond.instanceMethod yX10_compareWithArray ∈ lw_tbg := (in_tbg 1229 (by decide +kernel) (by decide +kernel))
theorem se_X10_compareWithArray : Cond.selects RX10 yX10_compareWithArray yX10_compareWithArray ∈ lw_tbg := (in_tbg 1230 (by decide +kernel) (by decide +kernel))
def m_X10_snapshot : aM := (yX10_snapshot, cX10_snapshot, 1, some .int, none)
theorem kn_X10_snapshot : aKn m_X10_snapshot 0 := ⟨(by decide +kernel), rfl, (in_tbg 1235 (by decide +kernel) (by decide +kernel)), (in_tbg 80 (by decide +kernel) (by decide +kernel)), ⟨(by decide +kernel), (by decide +kernel), (by decide +kernel)⟩, by decide⟩
theorem im_X10_snapshot : Cond.instanceMethod yX10_snapshot ∈ lw_tbg := (in_tbg 1233 (by decide +kernel) (by decide +kernel))
theorem se_X10_snapshot : Cond.selects RX10 yX10_snapshot yX10_snapshot ∈ lw_tbg := (in_tbg 1234 (by decide +kernel) (by decide +kernel))
def m_X10_restore : aM := (yX10_restore, cX10_restore, 1, some .int, none)
theorem kn_X10_restore : aKn m_X10_restore 0 := ⟨(by decide +kernel), rfl, (in_tbg 1239 (by decide +kernel) (by decide +kernel)), (in_tbg 80 (by decide +kernel) (by decide +kernel)), ⟨(by decide +kernel), (by decide +kernel), (by decide +kernel)⟩, by decide⟩
theorem im_X10_restore : Cond.instanceMethod yX10_restore ∈ lw_tbg := (in_tbg 1237 (by decide +kernel) (by decide +kernel))
theorem se_X10_restore : Cond.selects RX10 yX10_restore yX10_restore ∈ lw_tbg := (in_tbg 1238 (by decide +kernel) (by decide +kernel))
def m_L_law (L : Nat) (xs : Nat → Int32) : aM := (x, code, 4, ret, some (L, xs))
theorem in_9 : Cond.initialized RX9 ∈ lw_tbg := (in_tbg 70 (by decide +kernel) (by decide +kernel))
theorem in_1 : Cond.initialized RX1 ∈ lw_tbg := (in_tbg 71 (by decide +kernel) (by decide +kernel))
theorem in_4 : Cond.initialized RX4 ∈ lw_tbg := (in_tbg 72 (by decide +kernel) (by decide +kernel))
theorem in_3 : Cond.initialized RX3 ∈ lw_tbg := (in_tbg 73 (by decide +kernel) (by decide +kernel))
theorem in_8 : Cond.initialized RX8 ∈ lw_tbg := (in_tbg 74 (by decide +kernel) (by decide +kernel))
theorem in_6 : Cond.initialized RX6 ∈ lw_tbg := (in_tbg 75 (by decide +kernel) (by decide +kernel))
theorem in_7 : Cond.initialized RX7 ∈ lw_tbg := (in_tbg 76 (by decide +kernel) (by decide +kernel))
theorem in_2 : Cond.initialized RX2 ∈ lw_tbg := (in_tbg 77 (by decide +kernel) (by decide +kernel))
theorem in_5 : Cond.initialized RX5 ∈ lw_tbg := (in_tbg 78 (by decide +kernel) (by decide +kernel))
theorem in_0 : Cond.initialized RX0 ∈ lw_tbg := (in_tbg 79 (by decide +kernel) (by decide +kernel))
theorem in_10 : Cond.initialized RX10 ∈ lw_tbg := (in_tbg 80 (by decide +kernel) (by decide +kernel))
theorem cl_L_7 : Cond.classLink R_law 7 "MarkovChainDistances" ∈ lw_tbg := (in_tbg 83 (by decide +kernel) (by decide +kernel))
theorem it_9 : Cond.instantiable RX9 11 ∈ lw_tbg := (in_tbg 84 (by decide +kernel) (by decide +kernel))
theorem ml_L_9 : Cond.methodLink R_law 9 yX9_init ∈ lw_tbg := (in_tbg 85 (by decide +kernel) (by decide +kernel))
theorem ml_9_3 : Cond.methodLink RX9 3 Lib.objectInit ∈ lw_tbg := (in_tbg 88 (by decide +kernel) (by decide +kernel))
theorem cl_9_9 : Cond.classLink RX9 9 "MarkovChainDistances$Chain" ∈ lw_tbg := (in_tbg 91 (by decide +kernel) (by decide +kernel))
theorem it_1 : Cond.instantiable RX1 6 ∈ lw_tbg := (in_tbg 92 (by decide +kernel) (by decide +kernel))
theorem ml_9_11 : Cond.methodLink RX9 11 yX1_init ∈ lw_tbg := (in_tbg 93 (by decide +kernel) (by decide +kernel))
theorem ml_1_3 : Cond.methodLink RX1 3 Lib.objectInit ∈ lw_tbg := (in_tbg 96 (by decide +kernel) (by decide +kernel))
theorem ml_1_25 : Cond.methodLink RX1 25 yX1_start ∈ lw_tbg := (in_tbg 97 (by decide +kernel) (by decide +kernel))
theorem fl_1_29 : fOK RX1 29 1 0 .int false := ⟨RX1, TX1, 6, tyX1, rfl, cK_1, tyX1_ok, nmX1, by decide, (in_tbg 101 (by decide +kernel) (by decide +kernel)), rfl, rfl, rfl⟩
theorem fl_9_81 : fOK RX9 81 1 0 .int false := ⟨RX1, TX1, 6, tyX1, rfl, cK_1, tyX1_ok, nmX1, by decide, (in_tbg 102 (by decide +kernel) (by decide +kernel)), rfl, rfl, rfl⟩
theorem fl_6_22 : fOK RX6 22 1 0 .int false := ⟨RX1, TX1, 6, tyX1, rfl, cK_1, tyX1_ok, nmX1, by decide, (in_tbg 103 (by decide +kernel) (by decide +kernel)), rfl, rfl, rfl⟩
theorem fl_7_38 : fOK RX7 38 1 0 .int false := ⟨RX1, TX1, 6, tyX1, rfl, cK_1, tyX1_ok, nmX1, by decide, (in_tbg 104 (by decide +kernel) (by decide +kernel)), rfl, rfl, rfl⟩
theorem fl_3_60 : fOK RX3 60 1 0 .int false := ⟨RX1, TX1, 6, tyX1, rfl, cK_1, tyX1_ok, nmX1, by decide, (in_tbg 105 (by decide +kernel) (by decide +kernel)), rfl, rfl, rfl⟩
theorem fl_8_57 : fOK RX8 57 1 0 .int false := ⟨RX1, TX1, 6, tyX1, rfl, cK_1, tyX1_ok, nmX1, by decide, (in_tbg 106 (by decide +kernel) (by decide +kernel)), rfl, rfl, rfl⟩
theorem fl_1_32 : fOK RX1 32 1 1 .int false := ⟨RX1, TX1, 6, tyX1, rfl, cK_1, tyX1_ok, nmX1, by decide, (in_tbg 107 (by decide +kernel) (by decide +kernel)), rfl, rfl, rfl⟩
theorem fl_3_53 : fOK RX3 53 1 1 .int false := ⟨RX1, TX1, 6, tyX1, rfl, cK_1, tyX1_ok, nmX1, by decide, (in_tbg 108 (by decide +kernel) (by decide +kernel)), rfl, rfl, rfl⟩
theorem fl_7_32 : fOK RX7 32 1 1 .int false := ⟨RX1, TX1, 6, tyX1, rfl, cK_1, tyX1_ok, nmX1, by decide, (in_tbg 109 (by decide +kernel) (by decide +kernel)), rfl, rfl, rfl⟩
theorem fl_9_92 : fOK RX9 92 1 1 .int false := ⟨RX1, TX1, 6, tyX1, rfl, cK_1, tyX1_ok, nmX1, by decide, (in_tbg 110 (by decide +kernel) (by decide +kernel)), rfl, rfl, rfl⟩
theorem fl_6_54 : fOK RX6 54 1 1 .int false := ⟨RX1, TX1, 6, tyX1, rfl, cK_1, tyX1_ok, nmX1, by decide, (in_tbg 111 (by decide +kernel) (by decide +kernel)), rfl, rfl, rfl⟩
theorem fl_1_18 : fOK RX1 18 1 2 .int false := ⟨RX1, TX1, 6, tyX1, rfl, cK_1, tyX1_ok, nmX1, by decide, (in_tbg 112 (by decide +kernel) (by decide +kernel)), rfl, rfl, rfl⟩
theorem fl_3_67 : fOK RX3 67 1 2 .int false := ⟨RX1, TX1, 6, tyX1, rfl, cK_1, tyX1_ok, nmX1, by decide, (in_tbg 113 (by decide +kernel) (by decide +kernel)), rfl, rfl, rfl⟩
theorem fl_9_110 : fOK RX9 110 1 2 .int false := ⟨RX1, TX1, 6, tyX1, rfl, cK_1, tyX1_ok, nmX1, by decide, (in_tbg 114 (by decide +kernel) (by decide +kernel)), rfl, rfl, rfl⟩
theorem fl_1_22 : fOK RX1 22 1 3 .int false := ⟨RX1, TX1, 6, tyX1, rfl, cK_1, tyX1_ok, nmX1, by decide, (in_tbg 115 (by decide +kernel) (by decide +kernel)), rfl, rfl, rfl⟩
theorem fl_3_50 : fOK RX3 50 1 3 .int false := ⟨RX1, TX1, 6, tyX1, rfl, cK_1, tyX1_ok, nmX1, by decide, (in_tbg 116 (by decide +kernel) (by decide +kernel)), rfl, rfl, rfl⟩
theorem fl_9_113 : fOK RX9 113 1 3 .int false := ⟨RX1, TX1, 6, tyX1, rfl, cK_1, tyX1_ok, nmX1, by decide, (in_tbg 117 (by decide +kernel) (by decide +kernel)), rfl, rfl, rfl⟩
theorem fl_1_9 : fOK RX1 9 1 4 (.array .int) true := ⟨RX1, TX1, 6, tyX1, rfl, cK_1, tyX1_ok, nmX1, by decide, (in_tbg 118 (by decide +kernel) (by decide +kernel)), rfl, rfl, rfl⟩
theorem fl_3_63 : fOK RX3 63 1 4 (.array .int) true := ⟨RX1, TX1, 6, tyX1, rfl, cK_1, tyX1_ok, nmX1, by decide, (in_tbg 119 (by decide +kernel) (by decide +kernel)), rfl, rfl, rfl⟩
theorem fl_6_41 : fOK RX6 41 1 4 (.array .int) true := ⟨RX1, TX1, 6, tyX1, rfl, cK_1, tyX1_ok, nmX1, by decide, (in_tbg 120 (by decide +kernel) (by decide +kernel)), rfl, rfl, rfl⟩
theorem fl_9_99 : fOK RX9 99 1 4 (.array .int) true := ⟨RX1, TX1, 6, tyX1, rfl, cK_1, tyX1_ok, nmX1, by decide, (in_tbg 121 (by decide +kernel) (by decide +kernel)), rfl, rfl, rfl⟩
theorem fl_7_54 : fOK RX7 54 1 4 (.array .int) true := ⟨RX1, TX1, 6, tyX1, rfl, cK_1, tyX1_ok, nmX1, by decide, (in_tbg 122 (by decide +kernel) (by decide +kernel)), rfl, rfl, rfl⟩
theorem fl_2_93 : fOK RX2 93 1 4 (.array .int) true := ⟨RX1, TX1, 6, tyX1, rfl, cK_1, tyX1_ok, nmX1, by decide, (in_tbg 123 (by decide +kernel) (by decide +kernel)), rfl, rfl, rfl⟩
theorem fl_1_15 : fOK RX1 15 1 5 (.array .int) true := ⟨RX1, TX1, 6, tyX1, rfl, cK_1, tyX1_ok, nmX1, by decide, (in_tbg 124 (by decide +kernel) (by decide +kernel)), rfl, rfl, rfl⟩
theorem fl_8_60 : fOK RX8 60 1 5 (.array .int) true := ⟨RX1, TX1, 6, tyX1, rfl, cK_1, tyX1_ok, nmX1, by decide, (in_tbg 125 (by decide +kernel) (by decide +kernel)), rfl, rfl, rfl⟩
theorem fl_6_48 : fOK RX6 48 1 5 (.array .int) true := ⟨RX1, TX1, 6, tyX1, rfl, cK_1, tyX1_ok, nmX1, by decide, (in_tbg 126 (by decide +kernel) (by decide +kernel)), rfl, rfl, rfl⟩
theorem fl_7_58 : fOK RX7 58 1 5 (.array .int) true := ⟨RX1, TX1, 6, tyX1, rfl, cK_1, tyX1_ok, nmX1, by decide, (in_tbg 127 (by decide +kernel) (by decide +kernel)), rfl, rfl, rfl⟩
theorem fl_9_107 : fOK RX9 107 1 5 (.array .int) true := ⟨RX1, TX1, 6, tyX1, rfl, cK_1, tyX1_ok, nmX1, by decide, (in_tbg 128 (by decide +kernel) (by decide +kernel)), rfl, rfl, rfl⟩
theorem fl_2_94 : fOK RX2 94 1 5 (.array .int) true := ⟨RX1, TX1, 6, tyX1, rfl, cK_1, tyX1_ok, nmX1, by decide, (in_tbg 129 (by decide +kernel) (by decide +kernel)), rfl, rfl, rfl⟩
theorem ak_int : Cond.arrayClass .int ∈ lw_tbg := (in_tbg 143 (by decide +kernel) (by decide +kernel))
theorem cl_9_28 : Cond.classLink RX9 28 "MarkovChainDistances$EditHistory" ∈ lw_tbg := (in_tbg 144 (by decide +kernel) (by decide +kernel))
theorem it_4 : Cond.instantiable RX4 3 ∈ lw_tbg := (in_tbg 145 (by decide +kernel) (by decide +kernel))
theorem ml_9_30 : Cond.methodLink RX9 30 yX4_init ∈ lw_tbg := (in_tbg 146 (by decide +kernel) (by decide +kernel))
theorem ml_4_3 : Cond.methodLink RX4 3 Lib.objectInit ∈ lw_tbg := (in_tbg 149 (by decide +kernel) (by decide +kernel))
theorem cl_4_9 : Cond.classLink RX4 9 "MarkovChainDistances$Chain" ∈ lw_tbg := (in_tbg 150 (by decide +kernel) (by decide +kernel))
theorem ml_4_17 : Cond.methodLink RX4 17 yX1_init ∈ lw_tbg := (in_tbg 152 (by decide +kernel) (by decide +kernel))
theorem fl_4_26 : fOK RX4 26 4 0 .int false := ⟨RX4, TX4, 3, tyX4, rfl, cK_4, tyX4_ok, nmX4, by decide, (in_tbg 153 (by decide +kernel) (by decide +kernel)), rfl, rfl, rfl⟩
theorem fl_9_127 : fOK RX9 127 4 0 .int false := ⟨RX4, TX4, 3, tyX4, rfl, cK_4, tyX4_ok, nmX4, by decide, (in_tbg 154 (by decide +kernel) (by decide +kernel)), rfl, rfl, rfl⟩
theorem fl_4_18 : fOK RX4 18 4 1 .int false := ⟨RX4, TX4, 3, tyX4, rfl, cK_4, tyX4_ok, nmX4, by decide, (in_tbg 155 (by decide +kernel) (by decide +kernel)), rfl, rfl, rfl⟩
theorem fl_4_11 : fOK RX4 11 4 2 (.array (.object "MarkovChainDistances$Chain")) true := ⟨RX4, TX4, 3, tyX4, rfl, cK_4, tyX4_ok, nmX4, by decide, (in_tbg 156 (by decide +kernel) (by decide +kernel)), rfl, rfl, rfl⟩
theorem cl_9_35 : Cond.classLink RX9 35 "MarkovChainDistances$Distances" ∈ lw_tbg := (in_tbg 164 (by decide +kernel) (by decide +kernel))
theorem it_3 : Cond.instantiable RX3 5 ∈ lw_tbg := (in_tbg 165 (by decide +kernel) (by decide +kernel))
theorem ml_9_37 : Cond.methodLink RX9 37 yX3_init ∈ lw_tbg := (in_tbg 166 (by decide +kernel) (by decide +kernel))
theorem ml_3_3 : Cond.methodLink RX3 3 Lib.objectInit ∈ lw_tbg := (in_tbg 169 (by decide +kernel) (by decide +kernel))
theorem cl_3_9 : Cond.classLink RX3 9 "MarkovChainDistances$Chain" ∈ lw_tbg := (in_tbg 170 (by decide +kernel) (by decide +kernel))
theorem ml_3_11 : Cond.methodLink RX3 11 yX1_init ∈ lw_tbg := (in_tbg 171 (by decide +kernel) (by decide +kernel))
theorem cl_3_18 : Cond.classLink RX3 18 "MarkovChainDistances$Transport" ∈ lw_tbg := (in_tbg 172 (by decide +kernel) (by decide +kernel))
theorem it_8 : Cond.instantiable RX8 9 ∈ lw_tbg := (in_tbg 173 (by decide +kernel) (by decide +kernel))
theorem ml_3_20 : Cond.methodLink RX3 20 yX8_init ∈ lw_tbg := (in_tbg 174 (by decide +kernel) (by decide +kernel))
theorem ml_8_5 : Cond.methodLink RX8 5 Lib.objectInit ∈ lw_tbg := (in_tbg 177 (by decide +kernel) (by decide +kernel))
theorem fl_8_11 : fOK RX8 11 8 0 (.array .int) true := ⟨RX8, TX8, 9, tyX8, rfl, cK_8, tyX8_ok, nmX8, by decide, (in_tbg 178 (by decide +kernel) (by decide +kernel)), rfl, rfl, rfl⟩
theorem fl_3_77 : fOK RX3 77 8 0 (.array .int) true := ⟨RX8, TX8, 9, tyX8, rfl, cK_8, tyX8_ok, nmX8, by decide, (in_tbg 179 (by decide +kernel) (by decide +kernel)), rfl, rfl, rfl⟩
theorem fl_8_49 : fOK RX8 49 8 1 .int false := ⟨RX8, TX8, 9, tyX8, rfl, cK_8, tyX8_ok, nmX8, by decide, (in_tbg 180 (by decide +kernel) (by decide +kernel)), rfl, rfl, rfl⟩
theorem fl_8_17 : fOK RX8 17 8 2 (.array .long) true := ⟨RX8, TX8, 9, tyX8, rfl, cK_8, tyX8_ok, nmX8, by decide, (in_tbg 181 (by decide +kernel) (by decide +kernel)), rfl, rfl, rfl⟩
theorem fl_8_21 : fOK RX8 21 8 3 (.array .int) true := ⟨RX8, TX8, 9, tyX8, rfl, cK_8, tyX8_ok, nmX8, by decide, (in_tbg 182 (by decide +kernel) (by decide +kernel)), rfl, rfl, rfl⟩
theorem fl_8_24 : fOK RX8 24 8 4 (.array .int) true := ⟨RX8, TX8, 9, tyX8, rfl, cK_8, tyX8_ok, nmX8, by decide, (in_tbg 183 (by decide +kernel) (by decide +kernel)), rfl, rfl, rfl⟩
theorem fl_8_27 : fOK RX8 27 8 5 (.array .long) true := ⟨RX8, TX8, 9, tyX8, rfl, cK_8, tyX8_ok, nmX8, by decide, (in_tbg 184 (by decide +kernel) (by decide +kernel)), rfl, rfl, rfl⟩
theorem fl_8_30 : fOK RX8 30 8 6 (.array .long) true := ⟨RX8, TX8, 9, tyX8, rfl, cK_8, tyX8_ok, nmX8, by decide, (in_tbg 185 (by decide +kernel) (by decide +kernel)), rfl, rfl, rfl⟩
theorem fl_8_33 : fOK RX8 33 8 7 (.array .int) true := ⟨RX8, TX8, 9, tyX8, rfl, cK_8, tyX8_ok, nmX8, by decide, (in_tbg 186 (by decide +kernel) (by decide +kernel)), rfl, rfl, rfl⟩
theorem fl_8_36 : fOK RX8 36 8 8 (.array .int) true := ⟨RX8, TX8, 9, tyX8, rfl, cK_8, tyX8_ok, nmX8, by decide, (in_tbg 187 (by decide +kernel) (by decide +kernel)), rfl, rfl, rfl⟩
theorem ak_long : Cond.arrayClass .long ∈ lw_tbg := (in_tbg 207 (by decide +kernel) (by decide +kernel))
theorem cl_3_25 : Cond.classLink RX3 25 "[[J" ∈ lw_tbg := (in_tbg 208 (by decide +kernel) (by decide +kernel))
theorem fl_3_12 : fOK RX3 12 3 0 (.object "MarkovChainDistances$Chain") true := ⟨RX3, TX3, 5, tyX3, rfl, cK_3, tyX3_ok, nmX3, by decide, (in_tbg 210 (by decide +kernel) (by decide +kernel)), rfl, rfl, rfl⟩
theorem fl_3_21 : fOK RX3 21 3 1 (.object "MarkovChainDistances$Transport") true := ⟨RX3, TX3, 5, tyX3, rfl, cK_3, tyX3_ok, nmX3, by decide, (in_tbg 211 (by decide +kernel) (by decide +kernel)), rfl, rfl, rfl⟩
theorem fl_3_27 : fOK RX3 27 3 2 (.array (.array .long)) true := ⟨RX3, TX3, 5, tyX3, rfl, cK_3, tyX3_ok, nmX3, by decide, (in_tbg 212 (by decide +kernel) (by decide +kernel)), rfl, rfl, rfl⟩
theorem fl_3_30 : fOK RX3 30 3 3 (.array .long) true := ⟨RX3, TX3, 5, tyX3, rfl, cK_3, tyX3_ok, nmX3, by decide, (in_tbg 213 (by decide +kernel) (by decide +kernel)), rfl, rfl, rfl⟩
theorem fl_3_42 : fOK RX3 42 3 4 .int false := ⟨RX3, TX3, 5, tyX3, rfl, cK_3, tyX3_ok, nmX3, by decide, (in_tbg 214 (by decide +kernel) (by decide +kernel)), rfl, rfl, rfl⟩
theorem cl_9_42 : Cond.classLink RX9 42 "MarkovChainDistances$Partition" ∈ lw_tbg := (in_tbg 226 (by decide +kernel) (by decide +kernel))
theorem it_6 : Cond.instantiable RX6 3 ∈ lw_tbg := (in_tbg 227 (by decide +kernel) (by decide +kernel))
theorem ml_9_44 : Cond.methodLink RX9 44 yX6_init ∈ lw_tbg := (in_tbg 228 (by decide +kernel) (by decide +kernel))
theorem ml_6_3 : Cond.methodLink RX6 3 Lib.objectInit ∈ lw_tbg := (in_tbg 231 (by decide +kernel) (by decide +kernel))
theorem fl_6_18 : fOK RX6 18 6 0 .int false := ⟨RX6, TX6, 3, tyX6, rfl, cK_6, tyX6_ok, nmX6, by decide, (in_tbg 232 (by decide +kernel) (by decide +kernel)), rfl, rfl, rfl⟩
theorem fl_9_199 : fOK RX9 199 6 0 .int false := ⟨RX6, TX6, 3, tyX6, rfl, cK_6, tyX6_ok, nmX6, by decide, (in_tbg 233 (by decide +kernel) (by decide +kernel)), rfl, rfl, rfl⟩
theorem fl_6_9 : fOK RX6 9 6 1 (.array .int) true := ⟨RX6, TX6, 3, tyX6, rfl, cK_6, tyX6_ok, nmX6, by decide, (in_tbg 234 (by decide +kernel) (by decide +kernel)), rfl, rfl, rfl⟩
theorem fl_9_196 : fOK RX9 196 6 1 (.array .int) true := ⟨RX6, TX6, 3, tyX6, rfl, cK_6, tyX6_ok, nmX6, by decide, (in_tbg 235 (by decide +kernel) (by decide +kernel)), rfl, rfl, rfl⟩
theorem fl_6_15 : fOK RX6 15 6 2 (.array .int) true := ⟨RX6, TX6, 3, tyX6, rfl, cK_6, tyX6_ok, nmX6, by decide, (in_tbg 236 (by decide +kernel) (by decide +kernel)), rfl, rfl, rfl⟩
theorem cl_9_49 : Cond.classLink RX9 49 "MarkovChainDistances$PathCounter" ∈ lw_tbg := (in_tbg 244 (by decide +kernel) (by decide +kernel))
theorem it_7 : Cond.instantiable RX7 2 ∈ lw_tbg := (in_tbg 245 (by decide +kernel) (by decide +kernel))
theorem ml_9_51 : Cond.methodLink RX9 51 yX7_init ∈ lw_tbg := (in_tbg 246 (by decide +kernel) (by decide +kernel))
theorem ml_7_3 : Cond.methodLink RX7 3 Lib.objectInit ∈ lw_tbg := (in_tbg 249 (by decide +kernel) (by decide +kernel))
theorem fl_7_9 : fOK RX7 9 7 0 (.array .long) true := ⟨RX7, TX7, 2, tyX7, rfl, cK_7, tyX7_ok, nmX7, by decide, (in_tbg 250 (by decide +kernel) (by decide +kernel)), rfl, rfl, rfl⟩
theorem fl_7_15 : fOK RX7 15 7 1 (.array .long) true := ⟨RX7, TX7, 2, tyX7, rfl, cK_7, tyX7_ok, nmX7, by decide, (in_tbg 251 (by decide +kernel) (by decide +kernel)), rfl, rfl, rfl⟩
theorem cl_9_56 : Cond.classLink RX9 56 "MarkovChainDistances$ChainReader" ∈ lw_tbg := (in_tbg 257 (by decide +kernel) (by decide +kernel))
theorem it_2 : Cond.instantiable RX2 8 ∈ lw_tbg := (in_tbg 258 (by decide +kernel) (by decide +kernel))
theorem ml_9_58 : Cond.methodLink RX9 58 yX2_init ∈ lw_tbg := (in_tbg 259 (by decide +kernel) (by decide +kernel))
theorem ml_2_3 : Cond.methodLink RX2 3 Lib.objectInit ∈ lw_tbg := (in_tbg 262 (by decide +kernel) (by decide +kernel))
theorem cl_2_9 : Cond.classLink RX2 9 "MarkovChainDistances$InputBuffer" ∈ lw_tbg := (in_tbg 263 (by decide +kernel) (by decide +kernel))
theorem it_5 : Cond.instantiable RX5 2 ∈ lw_tbg := (in_tbg 264 (by decide +kernel) (by decide +kernel))
theorem ml_2_11 : Cond.methodLink RX2 11 yX5_init ∈ lw_tbg := (in_tbg 265 (by decide +kernel) (by decide +kernel))
theorem ml_5_3 : Cond.methodLink RX5 3 Lib.objectInit ∈ lw_tbg := (in_tbg 268 (by decide +kernel) (by decide +kernel))
theorem fl_5_15 : fOK RX5 15 5 0 .int false := ⟨RX5, TX5, 2, tyX5, rfl, cK_5, tyX5_ok, nmX5, by decide, (in_tbg 269 (by decide +kernel) (by decide +kernel)), rfl, rfl, rfl⟩
theorem fl_2_50 : fOK RX2 50 5 0 .int false := ⟨RX5, TX5, 2, tyX5, rfl, cK_5, tyX5_ok, nmX5, by decide, (in_tbg 270 (by decide +kernel) (by decide +kernel)), rfl, rfl, rfl⟩
theorem fl_7_45 : fOK RX7 45 5 0 .int false := ⟨RX5, TX5, 2, tyX5, rfl, cK_5, tyX5_ok, nmX5, by decide, (in_tbg 271 (by decide +kernel) (by decide +kernel)), rfl, rfl, rfl⟩
theorem fl_9_236 : fOK RX9 236 5 0 .int false := ⟨RX5, TX5, 2, tyX5, rfl, cK_5, tyX5_ok, nmX5, by decide, (in_tbg 272 (by decide +kernel) (by decide +kernel)), rfl, rfl, rfl⟩
theorem fl_5_9 : fOK RX5 9 5 1 (.array .int) true := ⟨RX5, TX5, 2, tyX5, rfl, cK_5, tyX5_ok, nmX5, by decide, (in_tbg 273 (by decide +kernel) (by decide +kernel)), rfl, rfl, rfl⟩
theorem fl_2_12 : fOK RX2 12 2 0 (.object "MarkovChainDistances$InputBuffer") true := ⟨RX2, TX2, 8, tyX2, rfl, cK_2, tyX2_ok, nmX2, by decide, (in_tbg 279 (by decide +kernel) (by decide +kernel)), rfl, rfl, rfl⟩
theorem fl_9_63 : fOK RX9 63 2 0 (.object "MarkovChainDistances$InputBuffer") true := ⟨RX2, TX2, 8, tyX2, rfl, cK_2, tyX2_ok, nmX2, by decide, (in_tbg 280 (by decide +kernel) (by decide +kernel)), rfl, rfl, rfl⟩
theorem fl_2_47 : fOK RX2 47 2 1 .int false := ⟨RX2, TX2, 8, tyX2, rfl, cK_2, tyX2_ok, nmX2, by decide, (in_tbg 281 (by decide +kernel) (by decide +kernel)), rfl, rfl, rfl⟩
theorem fl_2_43 : fOK RX2 43 2 2 .boolean false := ⟨RX2, TX2, 8, tyX2, rfl, cK_2, tyX2_ok, nmX2, by decide, (in_tbg 282 (by decide +kernel) (by decide +kernel)), rfl, rfl, rfl⟩
theorem fl_2_57 : fOK RX2 57 2 3 .int false := ⟨RX2, TX2, 8, tyX2, rfl, cK_2, tyX2_ok, nmX2, by decide, (in_tbg 283 (by decide +kernel) (by decide +kernel)), rfl, rfl, rfl⟩
theorem fl_2_32 : fOK RX2 32 2 4 .int false := ⟨RX2, TX2, 8, tyX2, rfl, cK_2, tyX2_ok, nmX2, by decide, (in_tbg 284 (by decide +kernel) (by decide +kernel)), rfl, rfl, rfl⟩
theorem fl_2_60 : fOK RX2 60 2 5 .int false := ⟨RX2, TX2, 8, tyX2, rfl, cK_2, tyX2_ok, nmX2, by decide, (in_tbg 285 (by decide +kernel) (by decide +kernel)), rfl, rfl, rfl⟩
theorem fl_2_18 : fOK RX2 18 2 6 (.array .int) true := ⟨RX2, TX2, 8, tyX2, rfl, cK_2, tyX2_ok, nmX2, by decide, (in_tbg 286 (by decide +kernel) (by decide +kernel)), rfl, rfl, rfl⟩
theorem fl_2_22 : fOK RX2 22 2 7 (.array .int) true := ⟨RX2, TX2, 8, tyX2, rfl, cK_2, tyX2_ok, nmX2, by decide, (in_tbg 287 (by decide +kernel) (by decide +kernel)), rfl, rfl, rfl⟩
theorem cl_9_70 : Cond.classLink RX9 70 "MarkovChainDistances$ArraySlots" ∈ lw_tbg := (in_tbg 305 (by decide +kernel) (by decide +kernel))
theorem it_0 : Cond.instantiable RX0 3 ∈ lw_tbg := (in_tbg 306 (by decide +kernel) (by decide +kernel))
theorem ml_9_72 : Cond.methodLink RX9 72 yX0_init ∈ lw_tbg := (in_tbg 307 (by decide +kernel) (by decide +kernel))
theorem ml_0_3 : Cond.methodLink RX0 3 Lib.objectInit ∈ lw_tbg := (in_tbg 310 (by decide +kernel) (by decide +kernel))
theorem cl_0_18 : Cond.classLink RX0 18 "[[J" ∈ lw_tbg := (in_tbg 311 (by decide +kernel) (by decide +kernel))
theorem fl_0_9 : fOK RX0 9 0 0 (.array .int) true := ⟨RX0, TX0, 3, tyX0, rfl, cK_0, tyX0_ok, nmX0, by decide, (in_tbg 312 (by decide +kernel) (by decide +kernel)), rfl, rfl, rfl⟩
theorem fl_9_259 : fOK RX9 259 0 0 (.array .int) true := ⟨RX0, TX0, 3, tyX0, rfl, cK_0, tyX0_ok, nmX0, by decide, (in_tbg 313 (by decide +kernel) (by decide +kernel)), rfl, rfl, rfl⟩
theorem fl_0_15 : fOK RX0 15 0 1 (.array .int) true := ⟨RX0, TX0, 3, tyX0, rfl, cK_0, tyX0_ok, nmX0, by decide, (in_tbg 314 (by decide +kernel) (by decide +kernel)), rfl, rfl, rfl⟩
theorem fl_9_283 : fOK RX9 283 0 1 (.array .int) true := ⟨RX0, TX0, 3, tyX0, rfl, cK_0, tyX0_ok, nmX0, by decide, (in_tbg 315 (by decide +kernel) (by decide +kernel)), rfl, rfl, rfl⟩
theorem fl_0_20 : fOK RX0 20 0 2 (.array (.array .long)) true := ⟨RX0, TX0, 3, tyX0, rfl, cK_0, tyX0_ok, nmX0, by decide, (in_tbg 316 (by decide +kernel) (by decide +kernel)), rfl, rfl, rfl⟩
theorem fl_9_266 : fOK RX9 266 0 2 (.array (.array .long)) true := ⟨RX0, TX0, 3, tyX0, rfl, cK_0, tyX0_ok, nmX0, by decide, (in_tbg 317 (by decide +kernel) (by decide +kernel)), rfl, rfl, rfl⟩
theorem fl_9_12 : fOK RX9 12 9 0 (.object "MarkovChainDistances$Chain") true := ⟨RX9, TX9, 11, tyX9, rfl, cK_9, tyX9_ok, nmX9, by decide, (in_tbg 325 (by decide +kernel) (by decide +kernel)), rfl, rfl, rfl⟩
theorem fl_9_18 : fOK RX9 18 9 1 (.object "MarkovChainDistances$Chain") true := ⟨RX9, TX9, 11, tyX9, rfl, cK_9, tyX9_ok, nmX9, by decide, (in_tbg 326 (by decide +kernel) (by decide +kernel)), rfl, rfl, rfl⟩
theorem fl_9_21 : fOK RX9 21 9 2 (.object "MarkovChainDistances$Chain") true := ⟨RX9, TX9, 11, tyX9, rfl, cK_9, tyX9_ok, nmX9, by decide, (in_tbg 327 (by decide +kernel) (by decide +kernel)), rfl, rfl, rfl⟩
theorem fl_9_24 : fOK RX9 24 9 3 .boolean false := ⟨RX9, TX9, 11, tyX9, rfl, cK_9, tyX9_ok, nmX9, by decide, (in_tbg 328 (by decide +kernel) (by decide +kernel)), rfl, rfl, rfl⟩
theorem fl_9_31 : fOK RX9 31 9 4 (.object "MarkovChainDistances$EditHistory") true := ⟨RX9, TX9, 11, tyX9, rfl, cK_9, tyX9_ok, nmX9, by decide, (in_tbg 329 (by decide +kernel) (by decide +kernel)), rfl, rfl, rfl⟩
theorem fl_9_38 : fOK RX9 38 9 5 (.object "MarkovChainDistances$Distances") true := ⟨RX9, TX9, 11, tyX9, rfl, cK_9, tyX9_ok, nmX9, by decide, (in_tbg 330 (by decide +kernel) (by decide +kernel)), rfl, rfl, rfl⟩
theorem fl_9_45 : fOK RX9 45 9 6 (.object "MarkovChainDistances$Partition") true := ⟨RX9, TX9, 11, tyX9, rfl, cK_9, tyX9_ok, nmX9, by decide, (in_tbg 331 (by decide +kernel) (by decide +kernel)), rfl, rfl, rfl⟩
theorem fl_9_52 : fOK RX9 52 9 7 (.object "MarkovChainDistances$PathCounter") true := ⟨RX9, TX9, 11, tyX9, rfl, cK_9, tyX9_ok, nmX9, by decide, (in_tbg 332 (by decide +kernel) (by decide +kernel)), rfl, rfl, rfl⟩
theorem fl_9_59 : fOK RX9 59 9 8 (.object "MarkovChainDistances$ChainReader") true := ⟨RX9, TX9, 11, tyX9, rfl, cK_9, tyX9_ok, nmX9, by decide, (in_tbg 333 (by decide +kernel) (by decide +kernel)), rfl, rfl, rfl⟩
theorem fl_9_67 : fOK RX9 67 9 9 (.object "MarkovChainDistances$InputBuffer") true := ⟨RX9, TX9, 11, tyX9, rfl, cK_9, tyX9_ok, nmX9, by decide, (in_tbg 334 (by decide +kernel) (by decide +kernel)), rfl, rfl, rfl⟩
theorem fl_9_73 : fOK RX9 73 9 10 (.object "MarkovChainDistances$ArraySlots") true := ⟨RX9, TX9, 11, tyX9, rfl, cK_9, tyX9_ok, nmX9, by decide, (in_tbg 335 (by decide +kernel) (by decide +kernel)), rfl, rfl, rfl⟩
theorem ml_L_13 : Cond.methodLink R_law 13 yX9_reset ∈ lw_tbg := (in_tbg 359 (by decide +kernel) (by decide +kernel))
theorem ml_9_77 : Cond.methodLink RX9 77 yX9_isWithin ∈ lw_tbg := (in_tbg 363 (by decide +kernel) (by decide +kernel))
theorem ml_9_85 : Cond.methodLink RX9 85 yX1_start ∈ lw_tbg := (in_tbg 366 (by decide +kernel) (by decide +kernel))
theorem ml_9_89 : Cond.methodLink RX9 89 yX4_forgetAll ∈ lw_tbg := (in_tbg 367 (by decide +kernel) (by decide +kernel))
theorem ml_L_18 : Cond.methodLink R_law 18 yX9_states ∈ lw_tbg := (in_tbg 371 (by decide +kernel) (by decide +kernel))
theorem ml_L_23 : Cond.methodLink R_law 23 yX9_resolution ∈ lw_tbg := (in_tbg 375 (by decide +kernel) (by decide +kernel))
theorem ml_L_27 : Cond.methodLink R_law 27 yX9_setLabel ∈ lw_tbg := (in_tbg 379 (by decide +kernel) (by decide +kernel))
theorem ml_9_95 : Cond.methodLink RX9 95 yX1_has ∈ lw_tbg := (in_tbg 383 (by decide +kernel) (by decide +kernel))
theorem ml_9_103 : Cond.methodLink RX9 103 yX4_remember ∈ lw_tbg := (in_tbg 387 (by decide +kernel) (by decide +kernel))
theorem ml_4_22 : Cond.methodLink RX4 22 yX1_copyFrom ∈ lw_tbg := (in_tbg 391 (by decide +kernel) (by decide +kernel))
theorem ml_1_35 : Cond.methodLink RX1 35 arraycopyName ∈ lw_tbg := (in_tbg 395 (by decide +kernel) (by decide +kernel))
theorem ml_4_29 : Cond.methodLink RX4 29 Lib.Math.min.name ∈ lw_tbg := (in_tbg 398 (by decide +kernel) (by decide +kernel))
theorem ml_L_31 : Cond.methodLink R_law 31 yX9_label ∈ lw_tbg := (in_tbg 401 (by decide +kernel) (by decide +kernel))
theorem ml_L_36 : Cond.methodLink R_law 36 yX9_moveWeight ∈ lw_tbg := (in_tbg 405 (by decide +kernel) (by decide +kernel))
theorem ml_L_41 : Cond.methodLink R_law 41 yX9_weight ∈ lw_tbg := (in_tbg 409 (by decide +kernel) (by decide +kernel))
theorem ml_L_45 : Cond.methodLink R_law 45 yX9_setDiscount ∈ lw_tbg := (in_tbg 413 (by decide +kernel) (by decide +kernel))
theorem ml_L_49 : Cond.methodLink R_law 49 yX9_swapStates ∈ lw_tbg := (in_tbg 417 (by decide +kernel) (by decide +kernel))
theorem ml_9_116 : Cond.methodLink RX9 116 yX1_copySwapped ∈ lw_tbg := (in_tbg 421 (by decide +kernel) (by decide +kernel))
theorem ml_1_41 : Cond.methodLink RX1 41 yX1_copyFrom ∈ lw_tbg := (in_tbg 425 (by decide +kernel) (by decide +kernel))
theorem ml_1_45 : Cond.methodLink RX1 45 yX1_swapped ∈ lw_tbg := (in_tbg 426 (by decide +kernel) (by decide +kernel))
theorem ml_9_120 : Cond.methodLink RX9 120 yX1_sameAs ∈ lw_tbg := (in_tbg 429 (by decide +kernel) (by decide +kernel))
theorem ml_9_124 : Cond.methodLink RX9 124 yX1_copyFrom ∈ lw_tbg := (in_tbg 433 (by decide +kernel) (by decide +kernel))
theorem ml_L_53 : Cond.methodLink R_law 53 yX9_undo ∈ lw_tbg := (in_tbg 434 (by decide +kernel) (by decide +kernel))
theorem ml_9_130 : Cond.methodLink RX9 130 yX4_takeLast ∈ lw_tbg := (in_tbg 438 (by decide +kernel) (by decide +kernel))
theorem ml_L_57 : Cond.methodLink R_law 57 yX9_editCount ∈ lw_tbg := (in_tbg 442 (by decide +kernel) (by decide +kernel))
theorem ml_L_61 : Cond.methodLink R_law 61 yX9_maximumDepth ∈ lw_tbg := (in_tbg 446 (by decide +kernel) (by decide +kernel))
theorem ml_9_133 : Cond.methodLink RX9 133 yX9_greatestDepth ∈ lw_tbg := (in_tbg 450 (by decide +kernel) (by decide +kernel))
theorem co_9_191 : Cond.constantLong RX9 191 1000000000000000 ∈ lw_tbg := (in_tbg 454 (by decide +kernel) (by decide +kernel))
theorem ml_L_65 : Cond.methodLink R_law 65 yX9_distanceNumerator ∈ lw_tbg := (in_tbg 455 (by decide +kernel) (by decide +kernel))
theorem ml_9_137 : Cond.methodLink RX9 137 yX9_hasDistance ∈ lw_tbg := (in_tbg 459 (by decide +kernel) (by decide +kernel))
theorem co_9_140 : Cond.constantLong RX9 140 (-9223372036854775808) ∈ lw_tbg := (in_tbg 463 (by decide +kernel) (by decide +kernel))
theorem ml_9_142 : Cond.methodLink RX9 142 yX3_levelFor ∈ lw_tbg := (in_tbg 464 (by decide +kernel) (by decide +kernel))
theorem ml_3_34 : Cond.methodLink RX3 34 yX1_sameAs ∈ lw_tbg := (in_tbg 468 (by decide +kernel) (by decide +kernel))
theorem ml_3_38 : Cond.methodLink RX3 38 yX1_copyFrom ∈ lw_tbg := (in_tbg 469 (by decide +kernel) (by decide +kernel))
theorem ml_3_46 : Cond.methodLink RX3 46 yX3_fillLevel ∈ lw_tbg := (in_tbg 470 (by decide +kernel) (by decide +kernel))
theorem ml_3_56 : Cond.methodLink RX3 56 yX8_useCosts ∈ lw_tbg := (in_tbg 474 (by decide +kernel) (by decide +kernel))
theorem ml_8_39 : Cond.methodLink RX8 39 arraycopyName ∈ lw_tbg := (in_tbg 478 (by decide +kernel) (by decide +kernel))
theorem ml_3_70 : Cond.methodLink RX3 70 yX8_solve ∈ lw_tbg := (in_tbg 479 (by decide +kernel) (by decide +kernel))
theorem ml_8_45 : Cond.methodLink RX8 45 yX8_startOnDiagonal ∈ lw_tbg := (in_tbg 483 (by decide +kernel) (by decide +kernel))
theorem ml_8_63 : Cond.methodLink RX8 63 Lib.Math.min.name ∈ lw_tbg := (in_tbg 487 (by decide +kernel) (by decide +kernel))
theorem ml_8_53 : Cond.methodLink RX8 53 yX8_sendFrom ∈ lw_tbg := (in_tbg 488 (by decide +kernel) (by decide +kernel))
theorem ml_8_69 : Cond.methodLink RX8 69 yX8_openColumn ∈ lw_tbg := (in_tbg 492 (by decide +kernel) (by decide +kernel))
theorem ml_8_73 : Cond.methodLink RX8 73 yX8_findPaths ∈ lw_tbg := (in_tbg 496 (by decide +kernel) (by decide +kernel))
theorem co_8_86 : Cond.constantLong RX8 86 9223372036854775807 ∈ lw_tbg := (in_tbg 500 (by decide +kernel) (by decide +kernel))
theorem ml_8_88 : Cond.methodLink RX8 88 yX8_approachColumns ∈ lw_tbg := (in_tbg 501 (by decide +kernel) (by decide +kernel))
theorem ml_8_92 : Cond.methodLink RX8 92 yX8_approachRows ∈ lw_tbg := (in_tbg 505 (by decide +kernel) (by decide +kernel))
theorem ml_8_77 : Cond.methodLink RX8 77 yX8_slackOfPath ∈ lw_tbg := (in_tbg 509 (by decide +kernel) (by decide +kernel))
theorem ml_8_80 : Cond.methodLink RX8 80 yX8_shiftAlongPath ∈ lw_tbg := (in_tbg 513 (by decide +kernel) (by decide +kernel))
theorem ml_9_146 : Cond.methodLink RX9 146 yX3_inLowestTerms ∈ lw_tbg := (in_tbg 517 (by decide +kernel) (by decide +kernel))
theorem ml_3_80 : Cond.methodLink RX3 80 yX3_greatestCommonDivisor ∈ lw_tbg := (in_tbg 521 (by decide +kernel) (by decide +kernel))
theorem ml_L_70 : Cond.methodLink R_law 70 yX9_distanceDenominator ∈ lw_tbg := (in_tbg 524 (by decide +kernel) (by decide +kernel))
theorem ml_L_74 : Cond.methodLink R_law 74 yX9_compareDistances ∈ lw_tbg := (in_tbg 528 (by decide +kernel) (by decide +kernel))
theorem ml_9_150 : Cond.methodLink RX9 150 yX9_isPair ∈ lw_tbg := (in_tbg 532 (by decide +kernel) (by decide +kernel))
theorem ml_9_153 : Cond.methodLink RX9 153 yX9_cellOfPair ∈ lw_tbg := (in_tbg 536 (by decide +kernel) (by decide +kernel))
theorem ml_L_79 : Cond.methodLink R_law 79 yX9_farthestPair ∈ lw_tbg := (in_tbg 539 (by decide +kernel) (by decide +kernel))
theorem co_9_157 : Cond.constantLong RX9 157 (-1) ∈ lw_tbg := (in_tbg 543 (by decide +kernel) (by decide +kernel))
theorem ml_L_83 : Cond.methodLink R_law 83 yX9_coupling ∈ lw_tbg := (in_tbg 544 (by decide +kernel) (by decide +kernel))
theorem ml_9_159 : Cond.methodLink RX9 159 yX3_canonicalCoupling ∈ lw_tbg := (in_tbg 548 (by decide +kernel) (by decide +kernel))
theorem ml_3_74 : Cond.methodLink RX3 74 yX8_makeCanonical ∈ lw_tbg := (in_tbg 552 (by decide +kernel) (by decide +kernel))
theorem ml_8_83 : Cond.methodLink RX8 83 yX8_reduceEntry ∈ lw_tbg := (in_tbg 556 (by decide +kernel) (by decide +kernel))
theorem ml_L_87 : Cond.methodLink R_law 87 yX9_distributionDistance ∈ lw_tbg := (in_tbg 560 (by decide +kernel) (by decide +kernel))
theorem ml_9_163 : Cond.methodLink RX9 163 yX9_totalVariation ∈ lw_tbg := (in_tbg 564 (by decide +kernel) (by decide +kernel))
theorem ml_9_176 : Cond.methodLink RX9 176 yX9_weightDifference ∈ lw_tbg := (in_tbg 568 (by decide +kernel) (by decide +kernel))
theorem ml_9_180 : Cond.methodLink RX9 180 Lib.Math.abs.name ∈ lw_tbg := (in_tbg 572 (by decide +kernel) (by decide +kernel))
theorem ml_9_167 : Cond.methodLink RX9 167 yX9_largestDifference ∈ lw_tbg := (in_tbg 575 (by decide +kernel) (by decide +kernel))
theorem ml_9_185 : Cond.methodLink RX9 185 Lib.Math.max.name ∈ lw_tbg := (in_tbg 579 (by decide +kernel) (by decide +kernel))
theorem ml_9_170 : Cond.methodLink RX9 170 yX9_cumulativeDistance ∈ lw_tbg := (in_tbg 582 (by decide +kernel) (by decide +kernel))
theorem ml_9_173 : Cond.methodLink RX9 173 yX9_overlap ∈ lw_tbg := (in_tbg 586 (by decide +kernel) (by decide +kernel))
theorem ml_9_188 : Cond.methodLink RX9 188 Lib.Math.min.name ∈ lw_tbg := (in_tbg 590 (by decide +kernel) (by decide +kernel))
theorem ml_L_91 : Cond.methodLink R_law 91 yX9_bisimulationClass ∈ lw_tbg := (in_tbg 591 (by decide +kernel) (by decide +kernel))
theorem ml_9_193 : Cond.methodLink RX9 193 yX6_refineFully ∈ lw_tbg := (in_tbg 595 (by decide +kernel) (by decide +kernel))
theorem ml_6_27 : Cond.methodLink RX6 27 yX6_refineOnce ∈ lw_tbg := (in_tbg 599 (by decide +kernel) (by decide +kernel))
theorem ml_6_31 : Cond.methodLink RX6 31 yX6_agree ∈ lw_tbg := (in_tbg 603 (by decide +kernel) (by decide +kernel))
theorem ml_6_44 : Cond.methodLink RX6 44 yX6_weightToClass ∈ lw_tbg := (in_tbg 607 (by decide +kernel) (by decide +kernel))
theorem ml_6_35 : Cond.methodLink RX6 35 arraycopyName ∈ lw_tbg := (in_tbg 611 (by decide +kernel) (by decide +kernel))
theorem ml_L_95 : Cond.methodLink R_law 95 yX9_bisimulationClassCount ∈ lw_tbg := (in_tbg 612 (by decide +kernel) (by decide +kernel))
theorem ml_L_99 : Cond.methodLink R_law 99 yX9_minimize ∈ lw_tbg := (in_tbg 616 (by decide +kernel) (by decide +kernel))
theorem ml_9_202 : Cond.methodLink RX9 202 yX6_writeQuotient ∈ lw_tbg := (in_tbg 620 (by decide +kernel) (by decide +kernel))
theorem ml_6_51 : Cond.methodLink RX6 51 yX1_copyFrom ∈ lw_tbg := (in_tbg 624 (by decide +kernel) (by decide +kernel))
theorem ml_6_57 : Cond.methodLink RX6 57 yX1_start ∈ lw_tbg := (in_tbg 625 (by decide +kernel) (by decide +kernel))
theorem ml_L_103 : Cond.methodLink R_law 103 yX9_reachWeight ∈ lw_tbg := (in_tbg 626 (by decide +kernel) (by decide +kernel))
theorem ml_9_206 : Cond.methodLink RX9 206 yX7_countReaching ∈ lw_tbg := (in_tbg 630 (by decide +kernel) (by decide +kernel))
theorem ml_7_18 : Cond.methodLink RX7 18 yX7_markTargets ∈ lw_tbg := (in_tbg 634 (by decide +kernel) (by decide +kernel))
theorem ml_7_41 : Cond.methodLink RX7 41 yX7_isTarget ∈ lw_tbg := (in_tbg 638 (by decide +kernel) (by decide +kernel))
theorem ml_7_22 : Cond.methodLink RX7 22 yX7_stepBack ∈ lw_tbg := (in_tbg 641 (by decide +kernel) (by decide +kernel))
theorem ml_7_26 : Cond.methodLink RX7 26 arraycopyName ∈ lw_tbg := (in_tbg 645 (by decide +kernel) (by decide +kernel))
theorem ml_L_107 : Cond.methodLink R_law 107 yX9_firstReachWeight ∈ lw_tbg := (in_tbg 646 (by decide +kernel) (by decide +kernel))
theorem ml_9_210 : Cond.methodLink RX9 210 yX7_countFirstReaching ∈ lw_tbg := (in_tbg 650 (by decide +kernel) (by decide +kernel))
theorem ml_L_111 : Cond.methodLink R_law 111 yX9_sequenceWeight ∈ lw_tbg := (in_tbg 654 (by decide +kernel) (by decide +kernel))
theorem ml_9_213 : Cond.methodLink RX9 213 yX5_isLabelSequence ∈ lw_tbg := (in_tbg 658 (by decide +kernel) (by decide +kernel))
theorem ml_5_19 : Cond.methodLink RX5 19 yX5_digitAt ∈ lw_tbg := (in_tbg 662 (by decide +kernel) (by decide +kernel))
theorem ml_9_219 : Cond.methodLink RX9 219 yX7_countSequence ∈ lw_tbg := (in_tbg 666 (by decide +kernel) (by decide +kernel))
theorem ml_7_50 : Cond.methodLink RX7 50 yX5_digitAt ∈ lw_tbg := (in_tbg 670 (by decide +kernel) (by decide +kernel))
theorem ml_9_223 : Cond.methodLink RX9 223 yX5_empty ∈ lw_tbg := (in_tbg 671 (by decide +kernel) (by decide +kernel))
theorem ml_L_116 : Cond.methodLink R_law 116 yX9_sample ∈ lw_tbg := (in_tbg 675 (by decide +kernel) (by decide +kernel))
theorem ml_9_226 : Cond.methodLink RX9 226 yX9_nextSeed ∈ lw_tbg := (in_tbg 679 (by decide +kernel) (by decide +kernel))
theorem co_9_232 : Cond.constant RX9 232 1103515245 ∈ lw_tbg := (in_tbg 682 (by decide +kernel) (by decide +kernel))
theorem ml_9_229 : Cond.methodLink RX9 229 yX1_successorAt ∈ lw_tbg := (in_tbg 683 (by decide +kernel) (by decide +kernel))
theorem ml_L_120 : Cond.methodLink R_law 120 yX9_sampledVisits ∈ lw_tbg := (in_tbg 687 (by decide +kernel) (by decide +kernel))
theorem ml_L_124 : Cond.methodLink R_law 124 yX9_append ∈ lw_tbg := (in_tbg 691 (by decide +kernel) (by decide +kernel))
theorem ml_9_233 : Cond.methodLink RX9 233 yX9_byteAt ∈ lw_tbg := (in_tbg 695 (by decide +kernel) (by decide +kernel))
theorem ml_9_239 : Cond.methodLink RX9 239 yX5_add ∈ lw_tbg := (in_tbg 698 (by decide +kernel) (by decide +kernel))
theorem ml_L_128 : Cond.methodLink R_law 128 yX9_clearInput ∈ lw_tbg := (in_tbg 702 (by decide +kernel) (by decide +kernel))
theorem ml_L_132 : Cond.methodLink R_law 132 yX9_parse ∈ lw_tbg := (in_tbg 706 (by decide +kernel) (by decide +kernel))
theorem ml_9_243 : Cond.methodLink RX9 243 yX2_readInput ∈ lw_tbg := (in_tbg 710 (by decide +kernel) (by decide +kernel))
theorem ml_2_25 : Cond.methodLink RX2 25 yX2_clear ∈ lw_tbg := (in_tbg 714 (by decide +kernel) (by decide +kernel))
theorem ml_2_28 : Cond.methodLink RX2 28 yX2_takeNumber ∈ lw_tbg := (in_tbg 718 (by decide +kernel) (by decide +kernel))
theorem ml_2_80 : Cond.methodLink RX2 80 yX5_digitAt ∈ lw_tbg := (in_tbg 722 (by decide +kernel) (by decide +kernel))
theorem ml_2_36 : Cond.methodLink RX2 36 yX2_take ∈ lw_tbg := (in_tbg 723 (by decide +kernel) (by decide +kernel))
theorem ml_2_67 : Cond.methodLink RX2 67 yX2_takeIfPresent ∈ lw_tbg := (in_tbg 727 (by decide +kernel) (by decide +kernel))
theorem ml_2_83 : Cond.methodLink RX2 83 yX5_holdsAt ∈ lw_tbg := (in_tbg 731 (by decide +kernel) (by decide +kernel))
theorem ml_2_40 : Cond.methodLink RX2 40 yX2_readStates ∈ lw_tbg := (in_tbg 735 (by decide +kernel) (by decide +kernel))
theorem ml_2_63 : Cond.methodLink RX2 63 yX2_readState ∈ lw_tbg := (in_tbg 739 (by decide +kernel) (by decide +kernel))
theorem ml_2_71 : Cond.methodLink RX2 71 yX2_readEdge ∈ lw_tbg := (in_tbg 743 (by decide +kernel) (by decide +kernel))
theorem ml_2_74 : Cond.methodLink RX2 74 Lib.Math.max.name ∈ lw_tbg := (in_tbg 747 (by decide +kernel) (by decide +kernel))
theorem ml_2_53 : Cond.methodLink RX2 53 yX2_isConsistent ∈ lw_tbg := (in_tbg 748 (by decide +kernel) (by decide +kernel))
theorem ml_9_246 : Cond.methodLink RX9 246 yX2_writeTo ∈ lw_tbg := (in_tbg 752 (by decide +kernel) (by decide +kernel))
theorem ml_2_87 : Cond.methodLink RX2 87 yX1_start ∈ lw_tbg := (in_tbg 756 (by decide +kernel) (by decide +kernel))
theorem ml_L_136 : Cond.methodLink R_law 136 yX9_allocate ∈ lw_tbg := (in_tbg 757 (by decide +kernel) (by decide +kernel))
theorem ml_9_249 : Cond.methodLink RX9 249 yX9_isSlot ∈ lw_tbg := (in_tbg 761 (by decide +kernel) (by decide +kernel))
theorem ml_9_252 : Cond.methodLink RX9 252 yX0_fillNew ∈ lw_tbg := (in_tbg 764 (by decide +kernel) (by decide +kernel))
theorem ml_L_140 : Cond.methodLink R_law 140 yX9_release ∈ lw_tbg := (in_tbg 768 (by decide +kernel) (by decide +kernel))
theorem ml_9_256 : Cond.methodLink RX9 256 yX0_isEmpty ∈ lw_tbg := (in_tbg 772 (by decide +kernel) (by decide +kernel))
theorem ml_L_146 : Cond.methodLink R_law 146 yX9_putElement ∈ lw_tbg := (in_tbg 776 (by decide +kernel) (by decide +kernel))
theorem ml_9_262 : Cond.methodLink RX9 262 yX0_hasIndex ∈ lw_tbg := (in_tbg 780 (by decide +kernel) (by decide +kernel))
theorem ml_9_270 : Cond.methodLink RX9 270 yX0_narrowed ∈ lw_tbg := (in_tbg 784 (by decide +kernel) (by decide +kernel))
theorem ml_L_151 : Cond.methodLink R_law 151 yX9_element ∈ lw_tbg := (in_tbg 787 (by decide +kernel) (by decide +kernel))
theorem ml_L_156 : Cond.methodLink R_law 156 yX9_copyElements ∈ lw_tbg := (in_tbg 791 (by decide +kernel) (by decide +kernel))
theorem ml_9_274 : Cond.methodLink RX9 274 yX0_hasRange ∈ lw_tbg := (in_tbg 795 (by decide +kernel) (by decide +kernel))
theorem ml_9_277 : Cond.methodLink RX9 277 arraycopyName ∈ lw_tbg := (in_tbg 799 (by decide +kernel) (by decide +kernel))
theorem ml_L_161 : Cond.methodLink R_law 161 yX9_compareWithArray ∈ lw_tbg := (in_tbg 800 (by decide +kernel) (by decide +kernel))
theorem ml_L_165 : Cond.methodLink R_law 165 yX9_snapshot ∈ lw_tbg := (in_tbg 804 (by decide +kernel) (by decide +kernel))
theorem ml_L_169 : Cond.methodLink R_law 169 yX9_restore ∈ lw_tbg := (in_tbg 808 (by decide +kernel) (by decide +kernel))
theorem cl_L_10 : Cond.classLink R_law 10 "MarkovChainDistancesModel" ∈ lw_tbg := (in_tbg 812 (by decide +kernel) (by decide +kernel))
theorem it_10 : Cond.instantiable RX10 30 ∈ lw_tbg := (in_tbg 813 (by decide +kernel) (by decide +kernel))
theorem ml_L_12 : Cond.methodLink R_law 12 yX10_init ∈ lw_tbg := (in_tbg 814 (by decide +kernel) (by decide +kernel))
theorem ml_10_5 : Cond.methodLink RX10 5 Lib.objectInit ∈ lw_tbg := (in_tbg 817 (by decide +kernel) (by decide +kernel))
theorem ml_10_77 : Cond.methodLink RX10 77 yX10_initialize ∈ lw_tbg := (in_tbg 818 (by decide +kernel) (by decide +kernel))
theorem ml_10_85 : Cond.methodLink RX10 85 yX10_setWeight ∈ lw_tbg := (in_tbg 822 (by decide +kernel) (by decide +kernel))
theorem fl_10_11 : fOK RX10 11 10 0 (.array .int) true := ⟨RX10, TX10, 30, tyX10, rfl, cK_10, tyX10_ok, nmX10, by decide, (in_tbg 826 (by decide +kernel) (by decide +kernel)), rfl, rfl, rfl⟩
theorem fl_10_15 : fOK RX10 15 10 1 (.array .int) true := ⟨RX10, TX10, 30, tyX10, rfl, cK_10, tyX10_ok, nmX10, by decide, (in_tbg 827 (by decide +kernel) (by decide +kernel)), rfl, rfl, rfl⟩
theorem fl_10_89 : fOK RX10 89 10 2 .int false := ⟨RX10, TX10, 30, tyX10, rfl, cK_10, tyX10_ok, nmX10, by decide, (in_tbg 828 (by decide +kernel) (by decide +kernel)), rfl, rfl, rfl⟩
theorem fl_10_18 : fOK RX10 18 10 3 (.array .int) true := ⟨RX10, TX10, 30, tyX10, rfl, cK_10, tyX10_ok, nmX10, by decide, (in_tbg 829 (by decide +kernel) (by decide +kernel)), rfl, rfl, rfl⟩
theorem fl_10_282 : fOK RX10 282 10 4 .boolean false := ⟨RX10, TX10, 30, tyX10, rfl, cK_10, tyX10_ok, nmX10, by decide, (in_tbg 830 (by decide +kernel) (by decide +kernel)), rfl, rfl, rfl⟩
theorem fl_10_21 : fOK RX10 21 10 5 (.array .int) true := ⟨RX10, TX10, 30, tyX10, rfl, cK_10, tyX10_ok, nmX10, by decide, (in_tbg 831 (by decide +kernel) (by decide +kernel)), rfl, rfl, rfl⟩
theorem fl_10_24 : fOK RX10 24 10 6 (.array .long) true := ⟨RX10, TX10, 30, tyX10, rfl, cK_10, tyX10_ok, nmX10, by decide, (in_tbg 832 (by decide +kernel) (by decide +kernel)), rfl, rfl, rfl⟩
theorem fl_10_28 : fOK RX10 28 10 7 (.array .long) true := ⟨RX10, TX10, 30, tyX10, rfl, cK_10, tyX10_ok, nmX10, by decide, (in_tbg 833 (by decide +kernel) (by decide +kernel)), rfl, rfl, rfl⟩
theorem fl_10_31 : fOK RX10 31 10 8 (.array .int) true := ⟨RX10, TX10, 30, tyX10, rfl, cK_10, tyX10_ok, nmX10, by decide, (in_tbg 834 (by decide +kernel) (by decide +kernel)), rfl, rfl, rfl⟩
theorem fl_10_34 : fOK RX10 34 10 9 (.array .boolean) true := ⟨RX10, TX10, 30, tyX10, rfl, cK_10, tyX10_ok, nmX10, by decide, (in_tbg 835 (by decide +kernel) (by decide +kernel)), rfl, rfl, rfl⟩
theorem fl_10_38 : fOK RX10 38 10 10 (.array .long) true := ⟨RX10, TX10, 30, tyX10, rfl, cK_10, tyX10_ok, nmX10, by decide, (in_tbg 836 (by decide +kernel) (by decide +kernel)), rfl, rfl, rfl⟩
theorem fl_10_41 : fOK RX10 41 10 11 (.array .int) true := ⟨RX10, TX10, 30, tyX10, rfl, cK_10, tyX10_ok, nmX10, by decide, (in_tbg 837 (by decide +kernel) (by decide +kernel)), rfl, rfl, rfl⟩
theorem fl_10_44 : fOK RX10 44 10 12 (.array .int) true := ⟨RX10, TX10, 30, tyX10, rfl, cK_10, tyX10_ok, nmX10, by decide, (in_tbg 838 (by decide +kernel) (by decide +kernel)), rfl, rfl, rfl⟩
theorem fl_10_47 : fOK RX10 47 10 13 (.array .int) true := ⟨RX10, TX10, 30, tyX10, rfl, cK_10, tyX10_ok, nmX10, by decide, (in_tbg 839 (by decide +kernel) (by decide +kernel)), rfl, rfl, rfl⟩
theorem fl_10_190 : fOK RX10 190 10 14 .int false := ⟨RX10, TX10, 30, tyX10, rfl, cK_10, tyX10_ok, nmX10, by decide, (in_tbg 840 (by decide +kernel) (by decide +kernel)), rfl, rfl, rfl⟩
theorem fl_10_50 : fOK RX10 50 10 15 (.array .long) true := ⟨RX10, TX10, 30, tyX10, rfl, cK_10, tyX10_ok, nmX10, by decide, (in_tbg 841 (by decide +kernel) (by decide +kernel)), rfl, rfl, rfl⟩
theorem fl_10_53 : fOK RX10 53 10 16 (.array .long) true := ⟨RX10, TX10, 30, tyX10, rfl, cK_10, tyX10_ok, nmX10, by decide, (in_tbg 842 (by decide +kernel) (by decide +kernel)), rfl, rfl, rfl⟩
theorem fl_10_56 : fOK RX10 56 10 17 (.array .int) true := ⟨RX10, TX10, 30, tyX10, rfl, cK_10, tyX10_ok, nmX10, by decide, (in_tbg 843 (by decide +kernel) (by decide +kernel)), rfl, rfl, rfl⟩
theorem fl_10_216 : fOK RX10 216 10 18 .int false := ⟨RX10, TX10, 30, tyX10, rfl, cK_10, tyX10_ok, nmX10, by decide, (in_tbg 844 (by decide +kernel) (by decide +kernel)), rfl, rfl, rfl⟩
theorem fl_10_225 : fOK RX10 225 10 19 .int false := ⟨RX10, TX10, 30, tyX10, rfl, cK_10, tyX10_ok, nmX10, by decide, (in_tbg 845 (by decide +kernel) (by decide +kernel)), rfl, rfl, rfl⟩
theorem fl_10_235 : fOK RX10 235 10 20 .int false := ⟨RX10, TX10, 30, tyX10, rfl, cK_10, tyX10_ok, nmX10, by decide, (in_tbg 846 (by decide +kernel) (by decide +kernel)), rfl, rfl, rfl⟩
theorem fl_10_238 : fOK RX10 238 10 21 .boolean false := ⟨RX10, TX10, 30, tyX10, rfl, cK_10, tyX10_ok, nmX10, by decide, (in_tbg 847 (by decide +kernel) (by decide +kernel)), rfl, rfl, rfl⟩
theorem fl_10_257 : fOK RX10 257 10 22 .int false := ⟨RX10, TX10, 30, tyX10, rfl, cK_10, tyX10_ok, nmX10, by decide, (in_tbg 848 (by decide +kernel) (by decide +kernel)), rfl, rfl, rfl⟩
theorem fl_10_248 : fOK RX10 248 10 23 .int false := ⟨RX10, TX10, 30, tyX10, rfl, cK_10, tyX10_ok, nmX10, by decide, (in_tbg 849 (by decide +kernel) (by decide +kernel)), rfl, rfl, rfl⟩
theorem fl_10_59 : fOK RX10 59 10 24 (.array .int) true := ⟨RX10, TX10, 30, tyX10, rfl, cK_10, tyX10_ok, nmX10, by decide, (in_tbg 850 (by decide +kernel) (by decide +kernel)), rfl, rfl, rfl⟩
theorem fl_10_62 : fOK RX10 62 10 25 (.array .int) true := ⟨RX10, TX10, 30, tyX10, rfl, cK_10, tyX10_ok, nmX10, by decide, (in_tbg 851 (by decide +kernel) (by decide +kernel)), rfl, rfl, rfl⟩
theorem fl_10_65 : fOK RX10 65 10 26 (.array .boolean) true := ⟨RX10, TX10, 30, tyX10, rfl, cK_10, tyX10_ok, nmX10, by decide, (in_tbg 852 (by decide +kernel) (by decide +kernel)), rfl, rfl, rfl⟩
theorem fl_10_68 : fOK RX10 68 10 27 (.array .int) true := ⟨RX10, TX10, 30, tyX10, rfl, cK_10, tyX10_ok, nmX10, by decide, (in_tbg 853 (by decide +kernel) (by decide +kernel)), rfl, rfl, rfl⟩
theorem fl_10_71 : fOK RX10 71 10 28 (.array .int) true := ⟨RX10, TX10, 30, tyX10, rfl, cK_10, tyX10_ok, nmX10, by decide, (in_tbg 854 (by decide +kernel) (by decide +kernel)), rfl, rfl, rfl⟩
theorem fl_10_74 : fOK RX10 74 10 29 (.array .long) true := ⟨RX10, TX10, 30, tyX10, rfl, cK_10, tyX10_ok, nmX10, by decide, (in_tbg 855 (by decide +kernel) (by decide +kernel)), rfl, rfl, rfl⟩
theorem ak_boolean : Cond.arrayClass .boolean ∈ lw_tbg := (in_tbg 917 (by decide +kernel) (by decide +kernel))
theorem ml_L_17 : Cond.methodLink R_law 17 yX10_reset ∈ lw_tbg := (in_tbg 918 (by decide +kernel) (by decide +kernel))
theorem co_10_93 : Cond.constantLong RX10 93 6 ∈ lw_tbg := (in_tbg 922 (by decide +kernel) (by decide +kernel))
theorem ml_10_81 : Cond.methodLink RX10 81 yX10_in ∈ lw_tbg := (in_tbg 923 (by decide +kernel) (by decide +kernel))
theorem co_10_95 : Cond.constantLong RX10 95 12 ∈ lw_tbg := (in_tbg 926 (by decide +kernel) (by decide +kernel))
theorem ml_L_22 : Cond.methodLink R_law 22 yX10_states ∈ lw_tbg := (in_tbg 927 (by decide +kernel) (by decide +kernel))
theorem ml_L_26 : Cond.methodLink R_law 26 yX10_resolution ∈ lw_tbg := (in_tbg 931 (by decide +kernel) (by decide +kernel))
theorem ml_L_30 : Cond.methodLink R_law 30 yX10_setLabel ∈ lw_tbg := (in_tbg 935 (by decide +kernel) (by decide +kernel))
theorem ml_10_103 : Cond.methodLink RX10 103 yX10_isState ∈ lw_tbg := (in_tbg 939 (by decide +kernel) (by decide +kernel))
theorem co_10_107 : Cond.constantLong RX10 107 3 ∈ lw_tbg := (in_tbg 943 (by decide +kernel) (by decide +kernel))
theorem ml_10_109 : Cond.methodLink RX10 109 yX10_begin ∈ lw_tbg := (in_tbg 944 (by decide +kernel) (by decide +kernel))
theorem ml_10_97 : Cond.methodLink RX10 97 arraycopyName ∈ lw_tbg := (in_tbg 948 (by decide +kernel) (by decide +kernel))
theorem ml_10_112 : Cond.methodLink RX10 112 yX10_record ∈ lw_tbg := (in_tbg 949 (by decide +kernel) (by decide +kernel))
theorem ml_L_35 : Cond.methodLink R_law 35 yX10_label ∈ lw_tbg := (in_tbg 953 (by decide +kernel) (by decide +kernel))
theorem ml_L_40 : Cond.methodLink R_law 40 yX10_moveWeight ∈ lw_tbg := (in_tbg 957 (by decide +kernel) (by decide +kernel))
theorem ml_10_116 : Cond.methodLink RX10 116 yX10_w ∈ lw_tbg := (in_tbg 961 (by decide +kernel) (by decide +kernel))
theorem ml_L_44 : Cond.methodLink R_law 44 yX10_weight ∈ lw_tbg := (in_tbg 965 (by decide +kernel) (by decide +kernel))
theorem ml_L_48 : Cond.methodLink R_law 48 yX10_setDiscount ∈ lw_tbg := (in_tbg 969 (by decide +kernel) (by decide +kernel))
theorem co_10_120 : Cond.constantLong RX10 120 4 ∈ lw_tbg := (in_tbg 973 (by decide +kernel) (by decide +kernel))
theorem ml_L_52 : Cond.methodLink R_law 52 yX10_swapStates ∈ lw_tbg := (in_tbg 974 (by decide +kernel) (by decide +kernel))
theorem ml_L_56 : Cond.methodLink R_law 56 yX10_undo ∈ lw_tbg := (in_tbg 978 (by decide +kernel) (by decide +kernel))
theorem ml_L_60 : Cond.methodLink R_law 60 yX10_editCount ∈ lw_tbg := (in_tbg 982 (by decide +kernel) (by decide +kernel))
theorem ml_L_64 : Cond.methodLink R_law 64 yX10_maximumDepth ∈ lw_tbg := (in_tbg 986 (by decide +kernel) (by decide +kernel))
theorem ml_10_124 : Cond.methodLink RX10 124 yX10_unit ∈ lw_tbg := (in_tbg 990 (by decide +kernel) (by decide +kernel))
theorem ml_10_128 : Cond.methodLink RX10 128 yX10_scale ∈ lw_tbg := (in_tbg 994 (by decide +kernel) (by decide +kernel))
theorem co_10_122 : Cond.constantLong RX10 122 1000000000000000 ∈ lw_tbg := (in_tbg 998 (by decide +kernel) (by decide +kernel))
theorem ml_L_69 : Cond.methodLink R_law 69 yX10_distanceNumerator ∈ lw_tbg := (in_tbg 999 (by decide +kernel) (by decide +kernel))
theorem ml_10_178 : Cond.methodLink RX10 178 yX10_fraction ∈ lw_tbg := (in_tbg 1003 (by decide +kernel) (by decide +kernel))
theorem ml_10_165 : Cond.methodLink RX10 165 yX10_isDepth ∈ lw_tbg := (in_tbg 1007 (by decide +kernel) (by decide +kernel))
theorem co_10_163 : Cond.constantLong RX10 163 15 ∈ lw_tbg := (in_tbg 1010 (by decide +kernel) (by decide +kernel))
theorem co_10_168 : Cond.constantLong RX10 168 (-9223372036854775808) ∈ lw_tbg := (in_tbg 1011 (by decide +kernel) (by decide +kernel))
theorem ml_10_170 : Cond.methodLink RX10 170 yX10_computeDistances ∈ lw_tbg := (in_tbg 1012 (by decide +kernel) (by decide +kernel))
theorem ml_10_132 : Cond.methodLink RX10 132 yX10_minimumCost ∈ lw_tbg := (in_tbg 1016 (by decide +kernel) (by decide +kernel))
theorem ml_10_156 : Cond.methodLink RX10 156 yX10_optimize ∈ lw_tbg := (in_tbg 1020 (by decide +kernel) (by decide +kernel))
theorem ml_10_150 : Cond.methodLink RX10 150 yX10_fill ∈ lw_tbg := (in_tbg 1024 (by decide +kernel) (by decide +kernel))
theorem ml_10_153 : Cond.methodLink RX10 153 yX10_cancel ∈ lw_tbg := (in_tbg 1028 (by decide +kernel) (by decide +kernel))
theorem ml_10_144 : Cond.methodLink RX10 144 yX10_relax ∈ lw_tbg := (in_tbg 1032 (by decide +kernel) (by decide +kernel))
theorem co_10_136 : Cond.constantLong RX10 136 2305843009213693951 ∈ lw_tbg := (in_tbg 1036 (by decide +kernel) (by decide +kernel))
theorem ml_10_138 : Cond.methodLink RX10 138 yX10_d ∈ lw_tbg := (in_tbg 1037 (by decide +kernel) (by decide +kernel))
theorem ml_10_141 : Cond.methodLink RX10 141 yX10_f ∈ lw_tbg := (in_tbg 1041 (by decide +kernel) (by decide +kernel))
theorem ml_10_147 : Cond.methodLink RX10 147 yX10_shift ∈ lw_tbg := (in_tbg 1045 (by decide +kernel) (by decide +kernel))
theorem ml_10_174 : Cond.methodLink RX10 174 yX10_divisor ∈ lw_tbg := (in_tbg 1049 (by decide +kernel) (by decide +kernel))
theorem ml_L_73 : Cond.methodLink R_law 73 yX10_distanceDenominator ∈ lw_tbg := (in_tbg 1052 (by decide +kernel) (by decide +kernel))
theorem ml_L_78 : Cond.methodLink R_law 78 yX10_compareDistances ∈ lw_tbg := (in_tbg 1056 (by decide +kernel) (by decide +kernel))
theorem ml_10_182 : Cond.methodLink RX10 182 yX10_isPair ∈ lw_tbg := (in_tbg 1060 (by decide +kernel) (by decide +kernel))
theorem ml_L_82 : Cond.methodLink R_law 82 yX10_farthestPair ∈ lw_tbg := (in_tbg 1064 (by decide +kernel) (by decide +kernel))
theorem co_10_185 : Cond.constantLong RX10 185 (-1) ∈ lw_tbg := (in_tbg 1068 (by decide +kernel) (by decide +kernel))
theorem ml_L_86 : Cond.methodLink R_law 86 yX10_coupling ∈ lw_tbg := (in_tbg 1069 (by decide +kernel) (by decide +kernel))
theorem ml_10_187 : Cond.methodLink RX10 187 yX10_canonicalCoupling ∈ lw_tbg := (in_tbg 1073 (by decide +kernel) (by decide +kernel))
theorem ml_10_159 : Cond.methodLink RX10 159 yX10_lower ∈ lw_tbg := (in_tbg 1077 (by decide +kernel) (by decide +kernel))
theorem ml_L_90 : Cond.methodLink R_law 90 yX10_distributionDistance ∈ lw_tbg := (in_tbg 1081 (by decide +kernel) (by decide +kernel))
theorem ml_L_94 : Cond.methodLink R_law 94 yX10_bisimulationClass ∈ lw_tbg := (in_tbg 1085 (by decide +kernel) (by decide +kernel))
theorem ml_10_203 : Cond.methodLink RX10 203 yX10_computeClasses ∈ lw_tbg := (in_tbg 1089 (by decide +kernel) (by decide +kernel))
theorem ml_10_199 : Cond.methodLink RX10 199 yX10_number ∈ lw_tbg := (in_tbg 1093 (by decide +kernel) (by decide +kernel))
theorem ml_10_196 : Cond.methodLink RX10 196 yX10_areAlike ∈ lw_tbg := (in_tbg 1097 (by decide +kernel) (by decide +kernel))
theorem ml_10_193 : Cond.methodLink RX10 193 yX10_weightToClass ∈ lw_tbg := (in_tbg 1101 (by decide +kernel) (by decide +kernel))
theorem ml_L_98 : Cond.methodLink R_law 98 yX10_bisimulationClassCount ∈ lw_tbg := (in_tbg 1105 (by decide +kernel) (by decide +kernel))
theorem ml_L_102 : Cond.methodLink R_law 102 yX10_minimize ∈ lw_tbg := (in_tbg 1109 (by decide +kernel) (by decide +kernel))
theorem ml_L_106 : Cond.methodLink R_law 106 yX10_reachWeight ∈ lw_tbg := (in_tbg 1113 (by decide +kernel) (by decide +kernel))
theorem ml_10_206 : Cond.methodLink RX10 206 yX10_isQuery ∈ lw_tbg := (in_tbg 1117 (by decide +kernel) (by decide +kernel))
theorem ml_10_210 : Cond.methodLink RX10 210 yX10_isIn ∈ lw_tbg := (in_tbg 1121 (by decide +kernel) (by decide +kernel))
theorem ml_10_213 : Cond.methodLink RX10 213 yX10_step ∈ lw_tbg := (in_tbg 1125 (by decide +kernel) (by decide +kernel))
theorem ml_L_110 : Cond.methodLink R_law 110 yX10_firstReachWeight ∈ lw_tbg := (in_tbg 1129 (by decide +kernel) (by decide +kernel))
theorem ml_L_115 : Cond.methodLink R_law 115 yX10_sequenceWeight ∈ lw_tbg := (in_tbg 1133 (by decide +kernel) (by decide +kernel))
theorem co_10_219 : Cond.constantLong RX10 219 13 ∈ lw_tbg := (in_tbg 1137 (by decide +kernel) (by decide +kernel))
theorem co_10_221 : Cond.constantLong RX10 221 48 ∈ lw_tbg := (in_tbg 1138 (by decide +kernel) (by decide +kernel))
theorem co_10_223 : Cond.constantLong RX10 223 51 ∈ lw_tbg := (in_tbg 1139 (by decide +kernel) (by decide +kernel))
theorem ml_L_119 : Cond.methodLink R_law 119 yX10_sample ∈ lw_tbg := (in_tbg 1140 (by decide +kernel) (by decide +kernel))
theorem co_10_229 : Cond.constantLong RX10 229 1000 ∈ lw_tbg := (in_tbg 1144 (by decide +kernel) (by decide +kernel))
theorem ml_10_231 : Cond.methodLink RX10 231 yX10_walk ∈ lw_tbg := (in_tbg 1145 (by decide +kernel) (by decide +kernel))
theorem co_10_228 : Cond.constant RX10 228 1103515245 ∈ lw_tbg := (in_tbg 1149 (by decide +kernel) (by decide +kernel))
theorem ml_L_123 : Cond.methodLink R_law 123 yX10_sampledVisits ∈ lw_tbg := (in_tbg 1150 (by decide +kernel) (by decide +kernel))
theorem ml_L_127 : Cond.methodLink R_law 127 yX10_append ∈ lw_tbg := (in_tbg 1154 (by decide +kernel) (by decide +kernel))
theorem ml_L_131 : Cond.methodLink R_law 131 yX10_clearInput ∈ lw_tbg := (in_tbg 1158 (by decide +kernel) (by decide +kernel))
theorem ml_L_135 : Cond.methodLink R_law 135 yX10_parse ∈ lw_tbg := (in_tbg 1162 (by decide +kernel) (by decide +kernel))
theorem ml_10_266 : Cond.methodLink RX10 266 yX10_parseChain ∈ lw_tbg := (in_tbg 1166 (by decide +kernel) (by decide +kernel))
theorem ml_10_251 : Cond.methodLink RX10 251 yX10_number_ ∈ lw_tbg := (in_tbg 1170 (by decide +kernel) (by decide +kernel))
theorem ml_10_242 : Cond.methodLink RX10 242 yX10_isNext ∈ lw_tbg := (in_tbg 1174 (by decide +kernel) (by decide +kernel))
theorem ml_10_254 : Cond.methodLink RX10 254 yX10_expect ∈ lw_tbg := (in_tbg 1178 (by decide +kernel) (by decide +kernel))
theorem ml_10_245 : Cond.methodLink RX10 245 yX10_accept ∈ lw_tbg := (in_tbg 1182 (by decide +kernel) (by decide +kernel))
theorem ml_10_260 : Cond.methodLink RX10 260 yX10_parseState ∈ lw_tbg := (in_tbg 1186 (by decide +kernel) (by decide +kernel))
theorem ml_10_269 : Cond.methodLink RX10 269 yX10_findWrongSuccessors ∈ lw_tbg := (in_tbg 1190 (by decide +kernel) (by decide +kernel))
theorem ml_10_272 : Cond.methodLink RX10 272 yX10_isConsistent ∈ lw_tbg := (in_tbg 1194 (by decide +kernel) (by decide +kernel))
theorem ml_10_263 : Cond.methodLink RX10 263 yX10_hasWrongSuccessor ∈ lw_tbg := (in_tbg 1198 (by decide +kernel) (by decide +kernel))
theorem ml_L_139 : Cond.methodLink R_law 139 yX10_allocate ∈ lw_tbg := (in_tbg 1202 (by decide +kernel) (by decide +kernel))
theorem ml_10_275 : Cond.methodLink RX10 275 yX10_isSlot ∈ lw_tbg := (in_tbg 1206 (by decide +kernel) (by decide +kernel))
theorem ml_L_143 : Cond.methodLink R_law 143 yX10_release ∈ lw_tbg := (in_tbg 1209 (by decide +kernel) (by decide +kernel))
theorem ml_L_150 : Cond.methodLink R_law 150 yX10_putElement ∈ lw_tbg := (in_tbg 1213 (by decide +kernel) (by decide +kernel))
theorem ml_10_278 : Cond.methodLink RX10 278 yX10_narrow ∈ lw_tbg := (in_tbg 1217 (by decide +kernel) (by decide +kernel))
theorem ml_L_155 : Cond.methodLink R_law 155 yX10_element ∈ lw_tbg := (in_tbg 1220 (by decide +kernel) (by decide +kernel))
theorem ml_L_160 : Cond.methodLink R_law 160 yX10_copyElements ∈ lw_tbg := (in_tbg 1224 (by decide +kernel) (by decide +kernel))
theorem ml_L_164 : Cond.methodLink R_law 164 yX10_compareWithArray ∈ lw_tbg := (in_tbg 1228 (by decide +kernel) (by decide +kernel))
theorem ml_L_168 : Cond.methodLink R_law 168 yX10_snapshot ∈ lw_tbg := (in_tbg 1232 (by decide +kernel) (by decide +kernel))
theorem ml_L_172 : Cond.methodLink R_law 172 yX10_restore ∈ lw_tbg := (in_tbg 1236 (by decide +kernel) (by decide +kernel))
theorem co_L_144 : Cond.constantLong R_law 144 4294967295 ∈ lw_tbg := (in_tbg 1240 (by decide +kernel) (by decide +kernel))
theorem jw_acn : Cond.native arraycopyName ∈ lw_tbg := (in_tbg 397 (by decide +kernel) (by decide +kernel))
theorem jw_acs : Cond.static arraycopyName ∈ lw_tbg := (in_tbg 396 (by decide +kernel) (by decide +kernel))
theorem jw_sys : Cond.initialized "java/lang/System" ∈ lw_tbg := (in_tbg 81 (by decide +kernel) (by decide +kernel))
theorem jw_math : Cond.initialized "java/lang/Math" ∈ lw_tbg := (in_tbg 82 (by decide +kernel) (by decide +kernel))
theorem jw_mins : Cond.static Lib.Math.min.name ∈ lw_tbg := (in_tbg 399 (by decide +kernel) (by decide +kernel))
theorem jw_minc : Cond.code Lib.Math.min.name Lib.Math.min.code 2 (some .int) ∈ lw_tbg := (in_tbg 400 (by decide +kernel) (by decide +kernel))
theorem jw_maxs : Cond.static Lib.Math.max.name ∈ lw_tbg := (in_tbg 580 (by decide +kernel) (by decide +kernel))
theorem jw_maxc : Cond.code Lib.Math.max.name Lib.Math.max.code 2 (some .int) ∈ lw_tbg := (in_tbg 581 (by decide +kernel) (by decide +kernel))
theorem jw_abss : Cond.static Lib.Math.abs.name ∈ lw_tbg := (in_tbg 573 (by decide +kernel) (by decide +kernel))
theorem jw_absc : Cond.code Lib.Math.abs.name Lib.Math.abs.code 1 (some .int) ∈ lw_tbg := (in_tbg 574 (by decide +kernel) (by decide +kernel))
theorem jw_oii : Cond.instanceMethod Lib.objectInit ∈ lw_tbg := (in_tbg 89 (by decide +kernel) (by decide +kernel))
theorem jw_oic : Cond.code Lib.objectInit ⟨#[0xb1]⟩ 1 none ∈ lw_tbg := (in_tbg 90 (by decide +kernel) (by decide +kernel))
end
section
/-! the stretches of instructions of each method: printed by program -/
theorem B_X0_init_0 : Blk m_X0_init 0 [o_ald 0, o_pure g_oi, o_ald 0, o_pure (g_push (.int 4))] 6 := .cons (ok_aload_n (k := 0) rfl (by decide +kernel)) (.cons (ok_oi ml_0_3 jw_oii jw_oic (by decide +kernel)) (.cons (ok_aload_n (k := 0) rfl (by decide +kernel)) (.cons (ok_iconst (n := 4) (by decide +kernel) (by decide)) .nil)))
theorem B_X0_init_11 : Blk m_X0_init 11 [o_ald 0, o_pure (g_push (.int 4))] 13 := .cons (ok_aload_n (k := 0) rfl (by decide +kernel)) (.cons (ok_iconst (n := 4) (by decide +kernel) (by decide)) .nil)
theorem B_X0_init_18 : Blk m_X0_init 18 [o_ald 0, o_pure (g_push (.int 4)), o_pure (g_push (.int 40))] 22 := .cons (ok_aload_n (k := 0) rfl (by decide +kernel)) (.cons (ok_iconst (n := 4) (by decide +kernel) (by decide)) (.cons (ok_bipush (n := 40) (by decide +kernel) (by decide)) .nil))
theorem B_X0_init_29 : Blk m_X0_init 29 [o_pure (g_push (.int 0)), o_ist 1] 31 := .cons (ok_iconst (n := 0) (by decide +kernel) (by decide)) (.cons (ok_istore_n (k := 1) rfl (by decide +kernel)) .nil)
theorem B_X0_init_31 : Blk m_X0_init 31 [o_ild 1, o_pure (g_push (.int 4))] 33 := .cons (ok_iload_n (k := 1) rfl (by decide +kernel)) (.cons (ok_iconst (n := 4) (by decide +kernel) (by decide)) .nil)
theorem B_X0_init_36 : Blk m_X0_init 36 [o_ald 0, o_getR 0 0, o_ild 1, o_pure (g_push (.int (-1))), o_iast, o_iinc 1 1, o_pure g_id] 31 := .cons (ok_aload_n (k := 0) rfl (by decide +kernel)) (.cons (ok_getR fl_0_9 rfl (by decide +kernel)) (.cons (ok_iload_n (k := 1) rfl (by decide +kernel)) (.cons (ok_iconst (n := (-1)) (by decide +kernel) (by decide)) (.cons (ok_iastore (by decide +kernel)) (.cons (ok_iinc (z := 1) (by decide +kernel) (by decide)) (.cons (ok_goto (off := (-15)) (tgt := 31) (by decide +kernel) (by decide)) .nil))))))
theorem B_X0_isEmpty_0 : Blk m_X0_isEmpty 0 [o_ald 0, o_getR 0 0, o_ild 1, o_iald, o_pure (g_push (.int (-1)))] 7 := .cons (ok_aload_n (k := 0) rfl (by decide +kernel)) (.cons (ok_getR fl_0_9 rfl (by decide +kernel)) (.cons (ok_iload_n (k := 1) rfl (by decide +kernel)) (.cons (ok_iaload (by decide +kernel)) (.cons (ok_iconst (n := (-1)) (by decide +kernel) (by decide)) .nil))))
theorem B_X0_isEmpty_10 : Blk m_X0_isEmpty 10 [o_pure (g_push (.int 1)), o_pure g_id] 15 := .cons (ok_iconst (n := 1) (by decide +kernel) (by decide)) (.cons (ok_goto (off := 4) (tgt := 15) (by decide +kernel) (by decide)) .nil)
theorem B_X0_isEmpty_14 : Blk m_X0_isEmpty 14 [o_pure (g_push (.int 0))] 15 := .cons (ok_iconst (n := 0) (by decide +kernel) (by decide)) .nil
theorem B_X0_hasIndex_0 : Blk m_X0_hasIndex 0 [o_ild 2] 1 := .cons (ok_iload_n (k := 2) rfl (by decide +kernel)) .nil
theorem B_X0_hasIndex_4 : Blk m_X0_hasIndex 4 [o_ild 2, o_ald 0, o_getR 0 1, o_ild 1, o_iald] 11 := .cons (ok_iload_n (k := 2) rfl (by decide +kernel)) (.cons (ok_aload_n (k := 0) rfl (by decide +kernel)) (.cons (ok_getR fl_0_15 rfl (by decide +kernel)) (.cons (ok_iload_n (k := 1) rfl (by decide +kernel)) (.cons (ok_iaload (by decide +kernel)) .nil))))
theorem B_X0_hasIndex_14 : Blk m_X0_hasIndex 14 [o_pure (g_push (.int 1)), o_pure g_id] 19 := .cons (ok_iconst (n := 1) (by decide +kernel) (by decide)) (.cons (ok_goto (off := 4) (tgt := 19) (by decide +kernel) (by decide)) .nil)
theorem B_X0_hasIndex_18 : Blk m_X0_hasIndex 18 [o_pure (g_push (.int 0))] 19 := .cons (ok_iconst (n := 0) (by decide +kernel) (by decide)) .nil
theorem B_X0_hasRange_0 : Blk m_X0_hasRange 0 [o_ild 2] 1 := .cons (ok_iload_n (k := 2) rfl (by decide +kernel)) .nil
theorem B_X0_hasRange_4 : Blk m_X0_hasRange 4 [o_ild 3] 5 := .cons (ok_iload_n (k := 3) rfl (by decide +kernel)) .nil
theorem B_X0_hasRange_8 : Blk m_X0_hasRange 8 [o_ild 2, o_ald 0, o_getR 0 1, o_ild 1, o_iald, o_ild 3, o_pure (g_ii (fun x y => x - y))] 17 := .cons (ok_iload_n (k := 2) rfl (by decide +kernel)) (.cons (ok_aload_n (k := 0) rfl (by decide +kernel)) (.cons (ok_getR fl_0_15 rfl (by decide +kernel)) (.cons (ok_iload_n (k := 1) rfl (by decide +kernel)) (.cons (ok_iaload (by decide +kernel)) (.cons (ok_iload_n (k := 3) rfl (by decide +kernel)) (.cons (ok_isub (by decide +kernel)) .nil))))))
theorem B_X0_hasRange_20 : Blk m_X0_hasRange 20 [o_pure (g_push (.int 1)), o_pure g_id] 25 := .cons (ok_iconst (n := 1) (by decide +kernel) (by decide)) (.cons (ok_goto (off := 4) (tgt := 25) (by decide +kernel) (by decide)) .nil)
theorem B_X0_hasRange_24 : Blk m_X0_hasRange 24 [o_pure (g_push (.int 0))] 25 := .cons (ok_iconst (n := 0) (by decide +kernel) (by decide)) .nil
theorem B_X0_fillNew_0 : Blk m_X0_fillNew 0 [o_ald 0, o_getR 0 0, o_ild 1, o_ild 2, o_iast, o_ald 0, o_getR 0 1, o_ild 1, o_ild 3, o_iast, o_pure (g_push (.int 0)), o_ist 4] 17 := .cons (ok_aload_n (k := 0) rfl (by decide +kernel)) (.cons (ok_getR fl_0_9 rfl (by decide +kernel)) (.cons (ok_iload_n (k := 1) rfl (by decide +kernel)) (.cons (ok_iload_n (k := 2) rfl (by decide +kernel)) (.cons (ok_iastore (by decide +kernel)) (.cons (ok_aload_n (k := 0) rfl (by decide +kernel)) (.cons (ok_getR fl_0_15 rfl (by decide +kernel)) (.cons (ok_iload_n (k := 1) rfl (by decide +kernel)) (.cons (ok_iload_n (k := 3) rfl (by decide +kernel)) (.cons (ok_iastore (by decide +kernel)) (.cons (ok_iconst (n := 0) (by decide +kernel) (by decide)) (.cons (ok_istore (by decide +kernel)) .nil)))))))))))
theorem B_X0_fillNew_17 : Blk m_X0_fillNew 17 [o_ild 4, o_pure (g_push (.int 40))] 21 := .cons (ok_iload (by decide +kernel)) (.cons (ok_bipush (n := 40) (by decide +kernel) (by decide)) .nil)
theorem B_X0_fillNew_24 : Blk m_X0_fillNew 24 [o_ald 0, o_getR 0 2, o_ild 1, o_aald5, o_ild 4, o_pure (g_push (.long 0)), o_last, o_iinc 4 1, o_pure g_id] 17 := .cons (ok_aload_n (k := 0) rfl (by decide +kernel)) (.cons (ok_getR fl_0_20 rfl (by decide +kernel)) (.cons (ok_iload_n (k := 1) rfl (by decide +kernel)) (.cons (ok_aald5 (by decide +kernel)) (.cons (ok_iload (by decide +kernel)) (.cons (ok_lconst (n := 0) (by decide +kernel) (by decide)) (.cons (ok_lastore (by decide +kernel)) (.cons (ok_iinc (z := 1) (by decide +kernel) (by decide)) (.cons (ok_goto (off := (-20)) (tgt := 17) (by decide +kernel) (by decide)) .nil))))))))
theorem B_X0_narrowed_0 : Blk m_X0_narrowed 0 [o_ild 2] 1 := .cons (ok_iload_n (k := 2) rfl (by decide +kernel)) .nil
theorem B_X0_narrowed_28 : Blk m_X0_narrowed 28 [o_lld 0, o_pure (g_li (fun x => x.toInt32)), o_pure (g_i (fun x => x.toInt8.toInt32)), o_pure (g_il (fun x => x.toInt64))] 32 := .cons (ok_lload_n (k := 0) rfl (by decide +kernel)) (.cons (ok_l2i (by decide +kernel)) (.cons (ok_i2b (by decide +kernel)) (.cons (ok_i2l (by decide +kernel)) .nil)))
theorem B_X0_narrowed_33 : Blk m_X0_narrowed 33 [o_lld 0, o_pure (g_li (fun x => x.toInt32)), o_pure (g_i (fun x => (x.toUInt32 % 65536).toInt32)), o_pure (g_il (fun x => x.toInt64))] 37 := .cons (ok_lload_n (k := 0) rfl (by decide +kernel)) (.cons (ok_l2i (by decide +kernel)) (.cons (ok_i2c (by decide +kernel)) (.cons (ok_i2l (by decide +kernel)) .nil)))
theorem B_X0_narrowed_38 : Blk m_X0_narrowed 38 [o_lld 0, o_pure (g_li (fun x => x.toInt32)), o_pure (g_il (fun x => x.toInt64))] 41 := .cons (ok_lload_n (k := 0) rfl (by decide +kernel)) (.cons (ok_l2i (by decide +kernel)) (.cons (ok_i2l (by decide +kernel)) .nil))
theorem B_X0_narrowed_42 : Blk m_X0_narrowed 42 [o_lld 0] 43 := .cons (ok_lload_n (k := 0) rfl (by decide +kernel)) .nil
theorem B_X1_init_0 : Blk m_X1_init 0 [o_ald 0, o_pure g_oi, o_ald 0, o_pure (g_push (.int 6))] 7 := .cons (ok_aload_n (k := 0) rfl (by decide +kernel)) (.cons (ok_oi ml_1_3 jw_oii jw_oic (by decide +kernel)) (.cons (ok_aload_n (k := 0) rfl (by decide +kernel)) (.cons (ok_bipush (n := 6) (by decide +kernel) (by decide)) .nil)))
theorem B_X1_init_12 : Blk m_X1_init 12 [o_ald 0, o_pure (g_push (.int 36))] 15 := .cons (ok_aload_n (k := 0) rfl (by decide +kernel)) (.cons (ok_bipush (n := 36) (by decide +kernel) (by decide)) .nil)
theorem B_X1_init_20 : Blk m_X1_init 20 [o_ald 0, o_pure (g_push (.int 1)), o_putI 1 2, o_ald 0, o_pure (g_push (.int 1)), o_putI 1 3, o_ald 0, o_pure (g_push (.int 2)), o_pure (g_push (.int 1))] 33 := .cons (ok_aload_n (k := 0) rfl (by decide +kernel)) (.cons (ok_iconst (n := 1) (by decide +kernel) (by decide)) (.cons (ok_putI fl_1_18 rfl (by decide +kernel)) (.cons (ok_aload_n (k := 0) rfl (by decide +kernel)) (.cons (ok_iconst (n := 1) (by decide +kernel) (by decide)) (.cons (ok_putI fl_1_22 rfl (by decide +kernel)) (.cons (ok_aload_n (k := 0) rfl (by decide +kernel)) (.cons (ok_iconst (n := 2) (by decide +kernel) (by decide)) (.cons (ok_iconst (n := 1) (by decide +kernel) (by decide)) .nil))))))))
theorem B_X1_start_0 : Blk m_X1_start 0 [o_ald 0, o_ild 1, o_putI 1 0, o_ald 0, o_ild 2, o_putI 1 1, o_pure (g_push (.int 0)), o_ist 3] 12 := .cons (ok_aload_n (k := 0) rfl (by decide +kernel)) (.cons (ok_iload_n (k := 1) rfl (by decide +kernel)) (.cons (ok_putI fl_1_29 rfl (by decide +kernel)) (.cons (ok_aload_n (k := 0) rfl (by decide +kernel)) (.cons (ok_iload_n (k := 2) rfl (by decide +kernel)) (.cons (ok_putI fl_1_32 rfl (by decide +kernel)) (.cons (ok_iconst (n := 0) (by decide +kernel) (by decide)) (.cons (ok_istore_n (k := 3) rfl (by decide +kernel)) .nil)))))))
theorem B_X1_start_12 : Blk m_X1_start 12 [o_ild 3, o_pure (g_push (.int 6))] 15 := .cons (ok_iload_n (k := 3) rfl (by decide +kernel)) (.cons (ok_bipush (n := 6) (by decide +kernel) (by decide)) .nil)
theorem B_X1_start_18 : Blk m_X1_start 18 [o_ald 0, o_getR 1 4, o_ild 3, o_pure (g_push (.int 0)), o_iast, o_iinc 3 1, o_pure g_id] 12 := .cons (ok_aload_n (k := 0) rfl (by decide +kernel)) (.cons (ok_getR fl_1_9 rfl (by decide +kernel)) (.cons (ok_iload_n (k := 3) rfl (by decide +kernel)) (.cons (ok_iconst (n := 0) (by decide +kernel) (by decide)) (.cons (ok_iastore (by decide +kernel)) (.cons (ok_iinc (z := 1) (by decide +kernel) (by decide)) (.cons (ok_goto (off := (-16)) (tgt := 12) (by decide +kernel) (by decide)) .nil))))))
theorem B_X1_start_31 : Blk m_X1_start 31 [o_pure (g_push (.int 0)), o_ist 3] 33 := .cons (ok_iconst (n := 0) (by decide +kernel) (by decide)) (.cons (ok_istore_n (k := 3) rfl (by decide +kernel)) .nil)
theorem B_X1_start_33 : Blk m_X1_start 33 [o_ild 3, o_pure (g_push (.int 36))] 36 := .cons (ok_iload_n (k := 3) rfl (by decide +kernel)) (.cons (ok_bipush (n := 36) (by decide +kernel) (by decide)) .nil)
theorem B_X1_start_39 : Blk m_X1_start 39 [o_ald 0, o_getR 1 5, o_ild 3, o_pure (g_push (.int 0)), o_iast, o_iinc 3 1, o_pure g_id] 33 := .cons (ok_aload_n (k := 0) rfl (by decide +kernel)) (.cons (ok_getR fl_1_15 rfl (by decide +kernel)) (.cons (ok_iload_n (k := 3) rfl (by decide +kernel)) (.cons (ok_iconst (n := 0) (by decide +kernel) (by decide)) (.cons (ok_iastore (by decide +kernel)) (.cons (ok_iinc (z := 1) (by decide +kernel) (by decide)) (.cons (ok_goto (off := (-16)) (tgt := 33) (by decide +kernel) (by decide)) .nil))))))
theorem B_X1_start_52 : Blk m_X1_start 52 [o_pure (g_push (.int 0)), o_ist 3] 54 := .cons (ok_iconst (n := 0) (by decide +kernel) (by decide)) (.cons (ok_istore_n (k := 3) rfl (by decide +kernel)) .nil)
theorem B_X1_start_54 : Blk m_X1_start 54 [o_ild 3, o_ild 1] 56 := .cons (ok_iload_n (k := 3) rfl (by decide +kernel)) (.cons (ok_iload_n (k := 1) rfl (by decide +kernel)) .nil)
theorem B_X1_start_59 : Blk m_X1_start 59 [o_ald 0, o_getR 1 5, o_ild 3, o_pure (g_push (.int 6)), o_pure (g_ii (fun x y => x * y)), o_ild 3, o_pure (g_ii (fun x y => x + y)), o_ild 2, o_iast, o_iinc 3 1, o_pure g_id] 54 := .cons (ok_aload_n (k := 0) rfl (by decide +kernel)) (.cons (ok_getR fl_1_15 rfl (by decide +kernel)) (.cons (ok_iload_n (k := 3) rfl (by decide +kernel)) (.cons (ok_bipush (n := 6) (by decide +kernel) (by decide)) (.cons (ok_imul (by decide +kernel)) (.cons (ok_iload_n (k := 3) rfl (by decide +kernel)) (.cons (ok_iadd (by decide +kernel)) (.cons (ok_iload_n (k := 2) rfl (by decide +kernel)) (.cons (ok_iastore (by decide +kernel)) (.cons (ok_iinc (z := 1) (by decide +kernel) (by decide)) (.cons (ok_goto (off := (-20)) (tgt := 54) (by decide +kernel) (by decide)) .nil))))))))))
theorem B_X1_has_0 : Blk m_X1_has 0 [o_ild 1] 1 := .cons (ok_iload_n (k := 1) rfl (by decide +kernel)) .nil
theorem B_X1_has_4 : Blk m_X1_has 4 [o_ild 1, o_ald 0, o_getI 1 0] 9 := .cons (ok_iload_n (k := 1) rfl (by decide +kernel)) (.cons (ok_aload_n (k := 0) rfl (by decide +kernel)) (.cons (ok_getI fl_1_29 rfl (by decide +kernel)) .nil))
theorem B_X1_has_12 : Blk m_X1_has 12 [o_pure (g_push (.int 1)), o_pure g_id] 17 := .cons (ok_iconst (n := 1) (by decide +kernel) (by decide)) (.cons (ok_goto (off := 4) (tgt := 17) (by decide +kernel) (by decide)) .nil)
theorem B_X1_has_16 : Blk m_X1_has 16 [o_pure (g_push (.int 0))] 17 := .cons (ok_iconst (n := 0) (by decide +kernel) (by decide)) .nil
theorem B_X1_copyFrom_0 : Blk m_X1_copyFrom 0 [o_ald 0, o_ald 1, o_getI 1 0, o_putI 1 0, o_ald 0, o_ald 1, o_getI 1 1, o_putI 1 1, o_ald 0, o_ald 1, o_getI 1 2, o_putI 1 2, o_ald 0, o_ald 1, o_getI 1 3, o_putI 1 3, o_ald 1, o_getR 1 4, o_pure (g_push (.int 0)), o_ald 0, o_getR 1 4, o_pure (g_push (.int 0)), o_pure (g_push (.int 6)), o_cpI, o_ald 1, o_getR 1 5, o_pure (g_push (.int 0)), o_ald 0, o_getR 1 5, o_pure (g_push (.int 0)), o_pure (g_push (.int 36)), o_cpI] 62 := .cons (ok_aload_n (k := 0) rfl (by decide +kernel)) (.cons (ok_aload_n (k := 1) rfl (by decide +kernel)) (.cons (ok_getI fl_1_29 rfl (by decide +kernel)) (.cons (ok_putI fl_1_29 rfl (by decide +kernel)) (.cons (ok_aload_n (k := 0) rfl (by decide +kernel)) (.cons (ok_aload_n (k := 1) rfl (by decide +kernel)) (.cons (ok_getI fl_1_32 rfl (by decide +kernel)) (.cons (ok_putI fl_1_32 rfl (by decide +kernel)) (.cons (ok_aload_n (k := 0) rfl (by decide +kernel)) (.cons (ok_aload_n (k := 1) rfl (by decide +kernel)) (.cons (ok_getI fl_1_18 rfl (by decide +kernel)) (.cons (ok_putI fl_1_18 rfl (by decide +kernel)) (.cons (ok_aload_n (k := 0) rfl (by decide +kernel)) (.cons (ok_aload_n (k := 1) rfl (by decide +kernel)) (.cons (ok_getI fl_1_22 rfl (by decide +kernel)) (.cons (ok_putI fl_1_22 rfl (by decide +kernel)) (.cons (ok_aload_n (k := 1) rfl (by decide +kernel)) (.cons (ok_getR fl_1_9 rfl (by decide +kernel)) (.cons (ok_iconst (n := 0) (by decide +kernel) (by decide)) (.cons (ok_aload_n (k := 0) rfl (by decide +kernel)) (.cons (ok_getR fl_1_9 rfl (by decide +kernel)) (.cons (ok_iconst (n := 0) (by decide +kernel) (by decide)) (.cons (ok_bipush (n := 6) (by decide +kernel) (by decide)) (.cons (ok_cpI ml_1_35 jw_acn jw_acs jw_sys (by decide +kernel)) (.cons (ok_aload_n (k := 1) rfl (by decide +kernel)) (.cons (ok_getR fl_1_15 rfl (by decide +kernel)) (.cons (ok_iconst (n := 0) (by decide +kernel) (by decide)) (.cons (ok_aload_n (k := 0) rfl (by decide +kernel)) (.cons (ok_getR fl_1_15 rfl (by decide +kernel)) (.cons (ok_iconst (n := 0) (by decide +kernel) (by decide)) (.cons (ok_bipush (n := 36) (by decide +kernel) (by decide)) (.cons (ok_cpI ml_1_35 jw_acn jw_acs jw_sys (by decide +kernel)) .nil)))))))))))))))))))))))))))))))
theorem B_X1_copySwapped_0 : Blk m_X1_copySwapped 0 [o_ald 0, o_ald 1] 2 := .cons (ok_aload_n (k := 0) rfl (by decide +kernel)) (.cons (ok_aload_n (k := 1) rfl (by decide +kernel)) .nil)
theorem B_X1_copySwapped_5 : Blk m_X1_copySwapped 5 [o_pure (g_push (.int 0)), o_ist 4] 8 := .cons (ok_iconst (n := 0) (by decide +kernel) (by decide)) (.cons (ok_istore (by decide +kernel)) .nil)
theorem B_X1_copySwapped_8 : Blk m_X1_copySwapped 8 [o_ild 4, o_ald 0, o_getI 1 0] 14 := .cons (ok_iload (by decide +kernel)) (.cons (ok_aload_n (k := 0) rfl (by decide +kernel)) (.cons (ok_getI fl_1_29 rfl (by decide +kernel)) .nil))
theorem B_X1_copySwapped_17 : Blk m_X1_copySwapped 17 [o_ild 4, o_ild 2, o_ild 3] 21 := .cons (ok_iload (by decide +kernel)) (.cons (ok_iload_n (k := 2) rfl (by decide +kernel)) (.cons (ok_iload_n (k := 3) rfl (by decide +kernel)) .nil))
theorem B_X1_copySwapped_24 : Blk m_X1_copySwapped 24 [o_ist 5, o_ald 0, o_getR 1 4, o_ild 4, o_ald 1, o_getR 1 4, o_ild 5, o_iald, o_iast, o_pure (g_push (.int 0)), o_ist 6] 43 := .cons (ok_istore (by decide +kernel)) (.cons (ok_aload_n (k := 0) rfl (by decide +kernel)) (.cons (ok_getR fl_1_9 rfl (by decide +kernel)) (.cons (ok_iload (by decide +kernel)) (.cons (ok_aload_n (k := 1) rfl (by decide +kernel)) (.cons (ok_getR fl_1_9 rfl (by decide +kernel)) (.cons (ok_iload (by decide +kernel)) (.cons (ok_iaload (by decide +kernel)) (.cons (ok_iastore (by decide +kernel)) (.cons (ok_iconst (n := 0) (by decide +kernel) (by decide)) (.cons (ok_istore (by decide +kernel)) .nil))))))))))
theorem B_X1_copySwapped_43 : Blk m_X1_copySwapped 43 [o_ild 6, o_ald 0, o_getI 1 0] 49 := .cons (ok_iload (by decide +kernel)) (.cons (ok_aload_n (k := 0) rfl (by decide +kernel)) (.cons (ok_getI fl_1_29 rfl (by decide +kernel)) .nil))
theorem B_X1_copySwapped_52 : Blk m_X1_copySwapped 52 [o_ild 6, o_ild 2, o_ild 3] 56 := .cons (ok_iload (by decide +kernel)) (.cons (ok_iload_n (k := 2) rfl (by decide +kernel)) (.cons (ok_iload_n (k := 3) rfl (by decide +kernel)) .nil))
theorem B_X1_copySwapped_59 : Blk m_X1_copySwapped 59 [o_ist 7, o_ald 0, o_getR 1 5, o_ild 4, o_pure (g_push (.int 6)), o_pure (g_ii (fun x y => x * y)), o_ild 6, o_pure (g_ii (fun x y => x + y)), o_ald 1, o_getR 1 5, o_ild 5, o_pure (g_push (.int 6)), o_pure (g_ii (fun x y => x * y)), o_ild 7, o_pure (g_ii (fun x y => x + y)), o_iald, o_iast, o_iinc 6 1, o_pure g_id] 43 := .cons (ok_istore (by decide +kernel)) (.cons (ok_aload_n (k := 0) rfl (by decide +kernel)) (.cons (ok_getR fl_1_15 rfl (by decide +kernel)) (.cons (ok_iload (by decide +kernel)) (.cons (ok_bipush (n := 6) (by decide +kernel) (by decide)) (.cons (ok_imul (by decide +kernel)) (.cons (ok_iload (by decide +kernel)) (.cons (ok_iadd (by decide +kernel)) (.cons (ok_aload_n (k := 1) rfl (by decide +kernel)) (.cons (ok_getR fl_1_15 rfl (by decide +kernel)) (.cons (ok_iload (by decide +kernel)) (.cons (ok_bipush (n := 6) (by decide +kernel) (by decide)) (.cons (ok_imul (by decide +kernel)) (.cons (ok_iload (by decide +kernel)) (.cons (ok_iadd (by decide +kernel)) (.cons (ok_iaload (by decide +kernel)) (.cons (ok_iastore (by decide +kernel)) (.cons (ok_iinc (z := 1) (by decide +kernel) (by decide)) (.cons (ok_goto (off := (-47)) (tgt := 43) (by decide +kernel) (by decide)) .nil))))))))))))))))))
theorem B_X1_copySwapped_93 : Blk m_X1_copySwapped 93 [o_iinc 4 1, o_pure g_id] 8 := .cons (ok_iinc (z := 1) (by decide +kernel) (by decide)) (.cons (ok_goto (off := (-88)) (tgt := 8) (by decide +kernel) (by decide)) .nil)
theorem B_X1_swapped_0 : Blk m_X1_swapped 0 [o_ild 0, o_ild 1] 2 := .cons (ok_iload_n (k := 0) rfl (by decide +kernel)) (.cons (ok_iload_n (k := 1) rfl (by decide +kernel)) .nil)
theorem B_X1_swapped_5 : Blk m_X1_swapped 5 [o_ild 2] 6 := .cons (ok_iload_n (k := 2) rfl (by decide +kernel)) .nil
theorem B_X1_swapped_7 : Blk m_X1_swapped 7 [o_ild 0, o_ild 2] 9 := .cons (ok_iload_n (k := 0) rfl (by decide +kernel)) (.cons (ok_iload_n (k := 2) rfl (by decide +kernel)) .nil)
theorem B_X1_swapped_12 : Blk m_X1_swapped 12 [o_ild 1, o_pure g_id] 17 := .cons (ok_iload_n (k := 1) rfl (by decide +kernel)) (.cons (ok_goto (off := 4) (tgt := 17) (by decide +kernel) (by decide)) .nil)
theorem B_X1_swapped_16 : Blk m_X1_swapped 16 [o_ild 0] 17 := .cons (ok_iload_n (k := 0) rfl (by decide +kernel)) .nil
theorem B_X1_sameAs_0 : Blk m_X1_sameAs 0 [o_ald 0, o_getI 1 0, o_ald 1, o_getI 1 0] 8 := .cons (ok_aload_n (k := 0) rfl (by decide +kernel)) (.cons (ok_getI fl_1_29 rfl (by decide +kernel)) (.cons (ok_aload_n (k := 1) rfl (by decide +kernel)) (.cons (ok_getI fl_1_29 rfl (by decide +kernel)) .nil)))
theorem B_X1_sameAs_11 : Blk m_X1_sameAs 11 [o_ald 0, o_getI 1 1, o_ald 1, o_getI 1 1] 19 := .cons (ok_aload_n (k := 0) rfl (by decide +kernel)) (.cons (ok_getI fl_1_32 rfl (by decide +kernel)) (.cons (ok_aload_n (k := 1) rfl (by decide +kernel)) (.cons (ok_getI fl_1_32 rfl (by decide +kernel)) .nil)))
theorem B_X1_sameAs_22 : Blk m_X1_sameAs 22 [o_pure (g_push (.int 0))] 23 := .cons (ok_iconst (n := 0) (by decide +kernel) (by decide)) .nil
theorem B_X1_sameAs_24 : Blk m_X1_sameAs 24 [o_ald 0, o_getI 1 2, o_ald 1, o_getI 1 2] 32 := .cons (ok_aload_n (k := 0) rfl (by decide +kernel)) (.cons (ok_getI fl_1_18 rfl (by decide +kernel)) (.cons (ok_aload_n (k := 1) rfl (by decide +kernel)) (.cons (ok_getI fl_1_18 rfl (by decide +kernel)) .nil)))
theorem B_X1_sameAs_35 : Blk m_X1_sameAs 35 [o_ald 0, o_getI 1 3, o_ald 1, o_getI 1 3] 43 := .cons (ok_aload_n (k := 0) rfl (by decide +kernel)) (.cons (ok_getI fl_1_22 rfl (by decide +kernel)) (.cons (ok_aload_n (k := 1) rfl (by decide +kernel)) (.cons (ok_getI fl_1_22 rfl (by decide +kernel)) .nil)))
theorem B_X1_sameAs_46 : Blk m_X1_sameAs 46 [o_pure (g_push (.int 0))] 47 := .cons (ok_iconst (n := 0) (by decide +kernel) (by decide)) .nil
theorem B_X1_sameAs_48 : Blk m_X1_sameAs 48 [o_pure (g_push (.int 0)), o_ist 2] 50 := .cons (ok_iconst (n := 0) (by decide +kernel) (by decide)) (.cons (ok_istore_n (k := 2) rfl (by decide +kernel)) .nil)
theorem B_X1_sameAs_50 : Blk m_X1_sameAs 50 [o_ild 2, o_pure (g_push (.int 6))] 53 := .cons (ok_iload_n (k := 2) rfl (by decide +kernel)) (.cons (ok_bipush (n := 6) (by decide +kernel) (by decide)) .nil)
theorem B_X1_sameAs_56 : Blk m_X1_sameAs 56 [o_ald 0, o_getR 1 4, o_ild 2, o_iald, o_ald 1, o_getR 1 4, o_ild 2, o_iald] 68 := .cons (ok_aload_n (k := 0) rfl (by decide +kernel)) (.cons (ok_getR fl_1_9 rfl (by decide +kernel)) (.cons (ok_iload_n (k := 2) rfl (by decide +kernel)) (.cons (ok_iaload (by decide +kernel)) (.cons (ok_aload_n (k := 1) rfl (by decide +kernel)) (.cons (ok_getR fl_1_9 rfl (by decide +kernel)) (.cons (ok_iload_n (k := 2) rfl (by decide +kernel)) (.cons (ok_iaload (by decide +kernel)) .nil)))))))
theorem B_X1_sameAs_71 : Blk m_X1_sameAs 71 [o_pure (g_push (.int 0))] 72 := .cons (ok_iconst (n := 0) (by decide +kernel) (by decide)) .nil
theorem B_X1_sameAs_73 : Blk m_X1_sameAs 73 [o_iinc 2 1, o_pure g_id] 50 := .cons (ok_iinc (z := 1) (by decide +kernel) (by decide)) (.cons (ok_goto (off := (-26)) (tgt := 50) (by decide +kernel) (by decide)) .nil)
theorem B_X1_sameAs_79 : Blk m_X1_sameAs 79 [o_pure (g_push (.int 0)), o_ist 2] 81 := .cons (ok_iconst (n := 0) (by decide +kernel) (by decide)) (.cons (ok_istore_n (k := 2) rfl (by decide +kernel)) .nil)
theorem B_X1_sameAs_81 : Blk m_X1_sameAs 81 [o_ild 2, o_pure (g_push (.int 36))] 84 := .cons (ok_iload_n (k := 2) rfl (by decide +kernel)) (.cons (ok_bipush (n := 36) (by decide +kernel) (by decide)) .nil)
theorem B_X1_sameAs_87 : Blk m_X1_sameAs 87 [o_ald 0, o_getR 1 5, o_ild 2, o_iald, o_ald 1, o_getR 1 5, o_ild 2, o_iald] 99 := .cons (ok_aload_n (k := 0) rfl (by decide +kernel)) (.cons (ok_getR fl_1_15 rfl (by decide +kernel)) (.cons (ok_iload_n (k := 2) rfl (by decide +kernel)) (.cons (ok_iaload (by decide +kernel)) (.cons (ok_aload_n (k := 1) rfl (by decide +kernel)) (.cons (ok_getR fl_1_15 rfl (by decide +kernel)) (.cons (ok_iload_n (k := 2) rfl (by decide +kernel)) (.cons (ok_iaload (by decide +kernel)) .nil)))))))
theorem B_X1_sameAs_102 : Blk m_X1_sameAs 102 [o_pure (g_push (.int 0))] 103 := .cons (ok_iconst (n := 0) (by decide +kernel) (by decide)) .nil
theorem B_X1_sameAs_104 : Blk m_X1_sameAs 104 [o_iinc 2 1, o_pure g_id] 81 := .cons (ok_iinc (z := 1) (by decide +kernel) (by decide)) (.cons (ok_goto (off := (-26)) (tgt := 81) (by decide +kernel) (by decide)) .nil)
theorem B_X1_sameAs_110 : Blk m_X1_sameAs 110 [o_pure (g_push (.int 1))] 111 := .cons (ok_iconst (n := 1) (by decide +kernel) (by decide)) .nil
theorem B_X1_successorAt_0 : Blk m_X1_successorAt 0 [o_ald 0, o_getI 1 1] 4 := .cons (ok_aload_n (k := 0) rfl (by decide +kernel)) (.cons (ok_getI fl_1_32 rfl (by decide +kernel)) .nil)
theorem B_X1_successorAt_7 : Blk m_X1_successorAt 7 [o_ild 2, o_ald 0, o_getI 1 1, o_dii (fun x y => x - x / y * y), o_pure g_id] 17 := .cons (ok_iload_n (k := 2) rfl (by decide +kernel)) (.cons (ok_aload_n (k := 0) rfl (by decide +kernel)) (.cons (ok_getI fl_1_32 rfl (by decide +kernel)) (.cons (ok_irem (by decide +kernel)) (.cons (ok_goto (off := 4) (tgt := 17) (by decide +kernel) (by decide)) .nil))))
theorem B_X1_successorAt_16 : Blk m_X1_successorAt 16 [o_pure (g_push (.int 0)), o_ist 3, o_pure (g_push (.int 0)), o_ist 4] 21 := .cons (ok_iconst (n := 0) (by decide +kernel) (by decide)) (.cons (ok_istore_n (k := 3) rfl (by decide +kernel)) (.cons (ok_iconst (n := 0) (by decide +kernel) (by decide)) (.cons (ok_istore (by decide +kernel)) .nil)))
theorem B_X1_successorAt_17 : Blk m_X1_successorAt 17 [o_ist 3, o_pure (g_push (.int 0)), o_ist 4] 21 := .cons (ok_istore_n (k := 3) rfl (by decide +kernel)) (.cons (ok_iconst (n := 0) (by decide +kernel) (by decide)) (.cons (ok_istore (by decide +kernel)) .nil))
theorem B_X1_successorAt_21 : Blk m_X1_successorAt 21 [o_ild 4, o_ald 0, o_getI 1 0] 27 := .cons (ok_iload (by decide +kernel)) (.cons (ok_aload_n (k := 0) rfl (by decide +kernel)) (.cons (ok_getI fl_1_29 rfl (by decide +kernel)) .nil))
theorem B_X1_successorAt_30 : Blk m_X1_successorAt 30 [o_ild 3, o_ald 0, o_getR 1 5, o_ild 1, o_pure (g_push (.int 6)), o_pure (g_ii (fun x y => x * y)), o_ild 4, o_pure (g_ii (fun x y => x + y)), o_iald, o_pure (g_ii (fun x y => x - y)), o_ist 3, o_ild 3] 46 := .cons (ok_iload_n (k := 3) rfl (by decide +kernel)) (.cons (ok_aload_n (k := 0) rfl (by decide +kernel)) (.cons (ok_getR fl_1_15 rfl (by decide +kernel)) (.cons (ok_iload_n (k := 1) rfl (by decide +kernel)) (.cons (ok_bipush (n := 6) (by decide +kernel) (by decide)) (.cons (ok_imul (by decide +kernel)) (.cons (ok_iload (by decide +kernel)) (.cons (ok_iadd (by decide +kernel)) (.cons (ok_iaload (by decide +kernel)) (.cons (ok_isub (by decide +kernel)) (.cons (ok_istore_n (k := 3) rfl (by decide +kernel)) (.cons (ok_iload_n (k := 3) rfl (by decide +kernel)) .nil)))))))))))
theorem B_X1_successorAt_49 : Blk m_X1_successorAt 49 [o_ild 4] 51 := .cons (ok_iload (by decide +kernel)) .nil
theorem B_X1_successorAt_52 : Blk m_X1_successorAt 52 [o_iinc 4 1, o_pure g_id] 21 := .cons (ok_iinc (z := 1) (by decide +kernel) (by decide)) (.cons (ok_goto (off := (-34)) (tgt := 21) (by decide +kernel) (by decide)) .nil)
theorem B_X1_successorAt_58 : Blk m_X1_successorAt 58 [o_ild 1] 59 := .cons (ok_iload_n (k := 1) rfl (by decide +kernel)) .nil
theorem B_X2_init_0 : Blk m_X2_init 0 [o_ald 0, o_pure g_oi, o_ald 0] 5 := .cons (ok_aload_n (k := 0) rfl (by decide +kernel)) (.cons (ok_oi ml_2_3 jw_oii jw_oic (by decide +kernel)) (.cons (ok_aload_n (k := 0) rfl (by decide +kernel)) .nil))
theorem B_X2_init_8 : Blk m_X2_init 8 [o_pure (g_dup)] 9 := .cons (ok_dup (by decide +kernel)) .nil
theorem B_X2_init_15 : Blk m_X2_init 15 [o_ald 0, o_pure (g_push (.int 6))] 18 := .cons (ok_aload_n (k := 0) rfl (by decide +kernel)) (.cons (ok_bipush (n := 6) (by decide +kernel) (by decide)) .nil)
theorem B_X2_init_23 : Blk m_X2_init 23 [o_ald 0, o_pure (g_push (.int 60))] 26 := .cons (ok_aload_n (k := 0) rfl (by decide +kernel)) (.cons (ok_bipush (n := 60) (by decide +kernel) (by decide)) .nil)
theorem B_X2_readInput_0 : Blk m_X2_readInput 0 [o_ald 0] 1 := .cons (ok_aload_n (k := 0) rfl (by decide +kernel)) .nil
theorem B_X2_readInput_4 : Blk m_X2_readInput 4 [o_ald 0, o_ald 0, o_pure (g_push (.int 2))] 7 := .cons (ok_aload_n (k := 0) rfl (by decide +kernel)) (.cons (ok_aload_n (k := 0) rfl (by decide +kernel)) (.cons (ok_iconst (n := 2) (by decide +kernel) (by decide)) .nil))
theorem B_X2_readInput_10 : Blk m_X2_readInput 10 [o_putI 2 4, o_ald 0, o_pure (g_push (.int 58))] 16 := .cons (ok_putI fl_2_32 rfl (by decide +kernel)) (.cons (ok_aload_n (k := 0) rfl (by decide +kernel)) (.cons (ok_bipush (n := 58) (by decide +kernel) (by decide)) .nil))
theorem B_X2_readInput_19 : Blk m_X2_readInput 19 [o_ald 0] 20 := .cons (ok_aload_n (k := 0) rfl (by decide +kernel)) .nil
theorem B_X2_readInput_23 : Blk m_X2_readInput 23 [o_ald 0, o_getI 2 2] 27 := .cons (ok_aload_n (k := 0) rfl (by decide +kernel)) (.cons (ok_getI fl_2_43 rfl (by decide +kernel)) .nil)
theorem B_X2_readInput_30 : Blk m_X2_readInput 30 [o_ald 0, o_getI 2 1, o_ald 0, o_getR 2 0, o_getI 5 0] 41 := .cons (ok_aload_n (k := 0) rfl (by decide +kernel)) (.cons (ok_getI fl_2_47 rfl (by decide +kernel)) (.cons (ok_aload_n (k := 0) rfl (by decide +kernel)) (.cons (ok_getR fl_2_12 rfl (by decide +kernel)) (.cons (ok_getI fl_2_50 rfl (by decide +kernel)) .nil))))
theorem B_X2_readInput_44 : Blk m_X2_readInput 44 [o_pure (g_push (.int (-1000))), o_ald 0, o_getI 2 1, o_pure (g_ii (fun x y => x - y))] 52 := .cons (ok_sipush (n := (-1000)) (by decide +kernel) (by decide)) (.cons (ok_aload_n (k := 0) rfl (by decide +kernel)) (.cons (ok_getI fl_2_47 rfl (by decide +kernel)) (.cons (ok_isub (by decide +kernel)) .nil)))
theorem B_X2_readInput_53 : Blk m_X2_readInput 53 [o_ald 0] 54 := .cons (ok_aload_n (k := 0) rfl (by decide +kernel)) .nil
theorem B_X2_readInput_60 : Blk m_X2_readInput 60 [o_ald 0, o_getI 2 3, o_pure g_id] 69 := .cons (ok_aload_n (k := 0) rfl (by decide +kernel)) (.cons (ok_getI fl_2_57 rfl (by decide +kernel)) (.cons (ok_goto (off := 5) (tgt := 69) (by decide +kernel) (by decide)) .nil))
theorem B_X2_readInput_67 : Blk m_X2_readInput 67 [o_pure (g_push (.int (-8)))] 69 := .cons (ok_bipush (n := (-8)) (by decide +kernel) (by decide)) .nil
theorem B_X2_clear_0 : Blk m_X2_clear 0 [o_ald 0, o_pure (g_push (.int 0)), o_putI 2 1, o_ald 0, o_pure (g_push (.int 0)), o_putZ 2 2, o_ald 0, o_pure (g_push (.int 0)), o_putI 2 5, o_pure (g_push (.int 0)), o_ist 1] 17 := .cons (ok_aload_n (k := 0) rfl (by decide +kernel)) (.cons (ok_iconst (n := 0) (by decide +kernel) (by decide)) (.cons (ok_putI fl_2_47 rfl (by decide +kernel)) (.cons (ok_aload_n (k := 0) rfl (by decide +kernel)) (.cons (ok_iconst (n := 0) (by decide +kernel) (by decide)) (.cons (ok_putZ fl_2_43 rfl (by decide +kernel)) (.cons (ok_aload_n (k := 0) rfl (by decide +kernel)) (.cons (ok_iconst (n := 0) (by decide +kernel) (by decide)) (.cons (ok_putI fl_2_60 rfl (by decide +kernel)) (.cons (ok_iconst (n := 0) (by decide +kernel) (by decide)) (.cons (ok_istore_n (k := 1) rfl (by decide +kernel)) .nil))))))))))
theorem B_X2_clear_17 : Blk m_X2_clear 17 [o_ild 1, o_pure (g_push (.int 60))] 20 := .cons (ok_iload_n (k := 1) rfl (by decide +kernel)) (.cons (ok_bipush (n := 60) (by decide +kernel) (by decide)) .nil)
theorem B_X2_clear_23 : Blk m_X2_clear 23 [o_ald 0, o_getR 2 7, o_ild 1, o_pure (g_push (.int 0)), o_iast, o_iinc 1 1, o_pure g_id] 17 := .cons (ok_aload_n (k := 0) rfl (by decide +kernel)) (.cons (ok_getR fl_2_22 rfl (by decide +kernel)) (.cons (ok_iload_n (k := 1) rfl (by decide +kernel)) (.cons (ok_iconst (n := 0) (by decide +kernel) (by decide)) (.cons (ok_iastore (by decide +kernel)) (.cons (ok_iinc (z := 1) (by decide +kernel) (by decide)) (.cons (ok_goto (off := (-16)) (tgt := 17) (by decide +kernel) (by decide)) .nil))))))
theorem B_X2_readStates_0 : Blk m_X2_readStates 0 [o_ald 0, o_pure (g_push (.int 0)), o_putI 2 3, o_pure (g_push (.int 1)), o_ist 1] 7 := .cons (ok_aload_n (k := 0) rfl (by decide +kernel)) (.cons (ok_iconst (n := 0) (by decide +kernel) (by decide)) (.cons (ok_putI fl_2_57 rfl (by decide +kernel)) (.cons (ok_iconst (n := 1) (by decide +kernel) (by decide)) (.cons (ok_istore_n (k := 1) rfl (by decide +kernel)) .nil))))
theorem B_X2_readStates_7 : Blk m_X2_readStates 7 [o_ild 1] 8 := .cons (ok_iload_n (k := 1) rfl (by decide +kernel)) .nil
theorem B_X2_readStates_11 : Blk m_X2_readStates 11 [o_ald 0, o_getI 2 3, o_pure (g_push (.int 6))] 17 := .cons (ok_aload_n (k := 0) rfl (by decide +kernel)) (.cons (ok_getI fl_2_57 rfl (by decide +kernel)) (.cons (ok_bipush (n := 6) (by decide +kernel) (by decide)) .nil))
theorem B_X2_readStates_20 : Blk m_X2_readStates 20 [o_ald 0, o_ald 0, o_getI 2 3] 25 := .cons (ok_aload_n (k := 0) rfl (by decide +kernel)) (.cons (ok_aload_n (k := 0) rfl (by decide +kernel)) (.cons (ok_getI fl_2_57 rfl (by decide +kernel)) .nil))
theorem B_X2_readStates_28 : Blk m_X2_readStates 28 [o_ald 0, o_pure (g_dup), o_getI 2 3, o_pure (g_push (.int 1)), o_pure (g_ii (fun x y => x + y)), o_putI 2 3, o_ald 0, o_getI 2 3, o_pure (g_push (.int 6))] 44 := .cons (ok_aload_n (k := 0) rfl (by decide +kernel)) (.cons (ok_dup (by decide +kernel)) (.cons (ok_getI fl_2_57 rfl (by decide +kernel)) (.cons (ok_iconst (n := 1) (by decide +kernel) (by decide)) (.cons (ok_iadd (by decide +kernel)) (.cons (ok_putI fl_2_57 rfl (by decide +kernel)) (.cons (ok_aload_n (k := 0) rfl (by decide +kernel)) (.cons (ok_getI fl_2_57 rfl (by decide +kernel)) (.cons (ok_bipush (n := 6) (by decide +kernel) (by decide)) .nil))))))))
theorem B_X2_readStates_47 : Blk m_X2_readStates 47 [o_ald 0, o_pure (g_push (.int 59))] 50 := .cons (ok_aload_n (k := 0) rfl (by decide +kernel)) (.cons (ok_bipush (n := 59) (by decide +kernel) (by decide)) .nil)
theorem B_X2_readStates_56 : Blk m_X2_readStates 56 [o_pure (g_push (.int 1)), o_pure g_id] 61 := .cons (ok_iconst (n := 1) (by decide +kernel) (by decide)) (.cons (ok_goto (off := 4) (tgt := 61) (by decide +kernel) (by decide)) .nil)
theorem B_X2_readStates_60 : Blk m_X2_readStates 60 [o_pure (g_push (.int 0)), o_ist 1, o_pure g_id] 7 := .cons (ok_iconst (n := 0) (by decide +kernel) (by decide)) (.cons (ok_istore_n (k := 1) rfl (by decide +kernel)) (.cons (ok_goto (off := (-55)) (tgt := 7) (by decide +kernel) (by decide)) .nil))
theorem B_X2_readStates_61 : Blk m_X2_readStates 61 [o_ist 1, o_pure g_id] 7 := .cons (ok_istore_n (k := 1) rfl (by decide +kernel)) (.cons (ok_goto (off := (-55)) (tgt := 7) (by decide +kernel) (by decide)) .nil)
theorem B_X2_readState_0 : Blk m_X2_readState 0 [o_ald 0, o_getR 2 6, o_ild 1, o_ald 0, o_pure (g_push (.int 1))] 7 := .cons (ok_aload_n (k := 0) rfl (by decide +kernel)) (.cons (ok_getR fl_2_18 rfl (by decide +kernel)) (.cons (ok_iload_n (k := 1) rfl (by decide +kernel)) (.cons (ok_aload_n (k := 0) rfl (by decide +kernel)) (.cons (ok_iconst (n := 1) (by decide +kernel) (by decide)) .nil))))
theorem B_X2_readState_10 : Blk m_X2_readState 10 [o_iast, o_ald 0, o_pure (g_push (.int 44))] 14 := .cons (ok_iastore (by decide +kernel)) (.cons (ok_aload_n (k := 0) rfl (by decide +kernel)) (.cons (ok_bipush (n := 44) (by decide +kernel) (by decide)) .nil))
theorem B_X2_readState_17 : Blk m_X2_readState 17 [o_ald 0, o_ild 1] 19 := .cons (ok_aload_n (k := 0) rfl (by decide +kernel)) (.cons (ok_iload_n (k := 1) rfl (by decide +kernel)) .nil)
theorem B_X2_readState_22 : Blk m_X2_readState 22 [o_pure (g_push (.int 1)), o_ist 2] 24 := .cons (ok_iconst (n := 1) (by decide +kernel) (by decide)) (.cons (ok_istore_n (k := 2) rfl (by decide +kernel)) .nil)
theorem B_X2_readState_24 : Blk m_X2_readState 24 [o_ild 2, o_pure (g_push (.int 80))] 27 := .cons (ok_iload_n (k := 2) rfl (by decide +kernel)) (.cons (ok_bipush (n := 80) (by decide +kernel) (by decide)) .nil)
theorem B_X2_readState_30 : Blk m_X2_readState 30 [o_ald 0, o_pure (g_push (.int 44))] 33 := .cons (ok_aload_n (k := 0) rfl (by decide +kernel)) (.cons (ok_bipush (n := 44) (by decide +kernel) (by decide)) .nil)
theorem B_X2_readState_39 : Blk m_X2_readState 39 [o_ald 0, o_ild 1] 41 := .cons (ok_aload_n (k := 0) rfl (by decide +kernel)) (.cons (ok_iload_n (k := 1) rfl (by decide +kernel)) .nil)
theorem B_X2_readState_44 : Blk m_X2_readState 44 [o_iinc 2 1, o_pure g_id] 24 := .cons (ok_iinc (z := 1) (by decide +kernel) (by decide)) (.cons (ok_goto (off := (-23)) (tgt := 24) (by decide +kernel) (by decide)) .nil)
theorem B_X2_readEdge_0 : Blk m_X2_readEdge 0 [o_ald 0, o_pure (g_push (.int 2))] 2 := .cons (ok_aload_n (k := 0) rfl (by decide +kernel)) (.cons (ok_iconst (n := 2) (by decide +kernel) (by decide)) .nil)
theorem B_X2_readEdge_5 : Blk m_X2_readEdge 5 [o_ist 2, o_ald 0, o_pure (g_push (.int 62))] 9 := .cons (ok_istore_n (k := 2) rfl (by decide +kernel)) (.cons (ok_aload_n (k := 0) rfl (by decide +kernel)) (.cons (ok_bipush (n := 62) (by decide +kernel) (by decide)) .nil))
theorem B_X2_readEdge_12 : Blk m_X2_readEdge 12 [o_ald 0, o_pure (g_push (.int 1))] 14 := .cons (ok_aload_n (k := 0) rfl (by decide +kernel)) (.cons (ok_iconst (n := 1) (by decide +kernel) (by decide)) .nil)
theorem B_X2_readEdge_17 : Blk m_X2_readEdge 17 [o_ist 3, o_ald 0, o_getI 2 2] 22 := .cons (ok_istore_n (k := 3) rfl (by decide +kernel)) (.cons (ok_aload_n (k := 0) rfl (by decide +kernel)) (.cons (ok_getI fl_2_43 rfl (by decide +kernel)) .nil))
theorem B_X2_readEdge_25 : Blk m_X2_readEdge 25 [o_ald 0, o_getR 2 7, o_ild 1, o_pure (g_push (.int 10)), o_pure (g_ii (fun x y => x * y)), o_ild 3, o_pure (g_ii (fun x y => x + y)), o_pure (g_dup2), o_iald, o_ild 2, o_pure (g_ii (fun x y => x + y)), o_iast, o_ald 0, o_ald 0, o_getI 2 5, o_ild 3, o_pure (g_m2 (fun x y => if x < y then y else x)), o_putI 2 5] 52 := .cons (ok_aload_n (k := 0) rfl (by decide +kernel)) (.cons (ok_getR fl_2_22 rfl (by decide +kernel)) (.cons (ok_iload_n (k := 1) rfl (by decide +kernel)) (.cons (ok_bipush (n := 10) (by decide +kernel) (by decide)) (.cons (ok_imul (by decide +kernel)) (.cons (ok_iload_n (k := 3) rfl (by decide +kernel)) (.cons (ok_iadd (by decide +kernel)) (.cons (ok_dup2 (by decide +kernel)) (.cons (ok_iaload (by decide +kernel)) (.cons (ok_iload_n (k := 2) rfl (by decide +kernel)) (.cons (ok_iadd (by decide +kernel)) (.cons (ok_iastore (by decide +kernel)) (.cons (ok_aload_n (k := 0) rfl (by decide +kernel)) (.cons (ok_aload_n (k := 0) rfl (by decide +kernel)) (.cons (ok_getI fl_2_60 rfl (by decide +kernel)) (.cons (ok_iload_n (k := 3) rfl (by decide +kernel)) (.cons (ok_mmax ml_2_74 jw_maxs jw_math jw_maxc (by decide +kernel)) (.cons (ok_putI fl_2_60 rfl (by decide +kernel)) .nil)))))))))))))))))
theorem B_X2_takeNumber_0 : Blk m_X2_takeNumber 0 [o_ald 0, o_getR 2 0, o_ald 0, o_getI 2 1] 8 := .cons (ok_aload_n (k := 0) rfl (by decide +kernel)) (.cons (ok_getR fl_2_12 rfl (by decide +kernel)) (.cons (ok_aload_n (k := 0) rfl (by decide +kernel)) (.cons (ok_getI fl_2_47 rfl (by decide +kernel)) .nil)))
theorem B_X2_takeNumber_14 : Blk m_X2_takeNumber 14 [o_ald 0, o_pure (g_push (.int 1)), o_putZ 2 2, o_pure (g_push (.int 0)), o_ist 2, o_pure (g_push (.int 0)), o_ist 3] 23 := .cons (ok_aload_n (k := 0) rfl (by decide +kernel)) (.cons (ok_iconst (n := 1) (by decide +kernel) (by decide)) (.cons (ok_putZ fl_2_43 rfl (by decide +kernel)) (.cons (ok_iconst (n := 0) (by decide +kernel) (by decide)) (.cons (ok_istore_n (k := 2) rfl (by decide +kernel)) (.cons (ok_iconst (n := 0) (by decide +kernel) (by decide)) (.cons (ok_istore_n (k := 3) rfl (by decide +kernel)) .nil))))))
theorem B_X2_takeNumber_19 : Blk m_X2_takeNumber 19 [o_pure (g_push (.int 0)), o_ist 2, o_pure (g_push (.int 0)), o_ist 3] 23 := .cons (ok_iconst (n := 0) (by decide +kernel) (by decide)) (.cons (ok_istore_n (k := 2) rfl (by decide +kernel)) (.cons (ok_iconst (n := 0) (by decide +kernel) (by decide)) (.cons (ok_istore_n (k := 3) rfl (by decide +kernel)) .nil)))
theorem B_X2_takeNumber_23 : Blk m_X2_takeNumber 23 [o_ald 0, o_getI 2 2] 27 := .cons (ok_aload_n (k := 0) rfl (by decide +kernel)) (.cons (ok_getI fl_2_43 rfl (by decide +kernel)) .nil)
theorem B_X2_takeNumber_30 : Blk m_X2_takeNumber 30 [o_ild 3, o_ild 1] 32 := .cons (ok_iload_n (k := 3) rfl (by decide +kernel)) (.cons (ok_iload_n (k := 1) rfl (by decide +kernel)) .nil)
theorem B_X2_takeNumber_35 : Blk m_X2_takeNumber 35 [o_ald 0, o_getR 2 0, o_ald 0, o_getI 2 1] 43 := .cons (ok_aload_n (k := 0) rfl (by decide +kernel)) (.cons (ok_getR fl_2_12 rfl (by decide +kernel)) (.cons (ok_aload_n (k := 0) rfl (by decide +kernel)) (.cons (ok_getI fl_2_47 rfl (by decide +kernel)) .nil)))
theorem B_X2_takeNumber_49 : Blk m_X2_takeNumber 49 [o_pure (g_push (.int 10)), o_ild 2, o_pure (g_ii (fun x y => x * y)), o_ald 0, o_getR 2 0, o_ald 0, o_getI 2 1] 61 := .cons (ok_bipush (n := 10) (by decide +kernel) (by decide)) (.cons (ok_iload_n (k := 2) rfl (by decide +kernel)) (.cons (ok_imul (by decide +kernel)) (.cons (ok_aload_n (k := 0) rfl (by decide +kernel)) (.cons (ok_getR fl_2_12 rfl (by decide +kernel)) (.cons (ok_aload_n (k := 0) rfl (by decide +kernel)) (.cons (ok_getI fl_2_47 rfl (by decide +kernel)) .nil))))))
theorem B_X2_takeNumber_64 : Blk m_X2_takeNumber 64 [o_pure (g_ii (fun x y => x + y)), o_ist 2, o_ald 0, o_pure (g_dup), o_getI 2 1, o_pure (g_push (.int 1)), o_pure (g_ii (fun x y => x + y)), o_putI 2 1, o_iinc 3 1, o_pure g_id] 23 := .cons (ok_iadd (by decide +kernel)) (.cons (ok_istore_n (k := 2) rfl (by decide +kernel)) (.cons (ok_aload_n (k := 0) rfl (by decide +kernel)) (.cons (ok_dup (by decide +kernel)) (.cons (ok_getI fl_2_47 rfl (by decide +kernel)) (.cons (ok_iconst (n := 1) (by decide +kernel) (by decide)) (.cons (ok_iadd (by decide +kernel)) (.cons (ok_putI fl_2_47 rfl (by decide +kernel)) (.cons (ok_iinc (z := 1) (by decide +kernel) (by decide)) (.cons (ok_goto (off := (-56)) (tgt := 23) (by decide +kernel) (by decide)) .nil)))))))))
theorem B_X2_takeNumber_82 : Blk m_X2_takeNumber 82 [o_ild 2] 83 := .cons (ok_iload_n (k := 2) rfl (by decide +kernel)) .nil
theorem B_X2_take_0 : Blk m_X2_take 0 [o_ald 0, o_ild 1] 2 := .cons (ok_aload_n (k := 0) rfl (by decide +kernel)) (.cons (ok_iload_n (k := 1) rfl (by decide +kernel)) .nil)
theorem B_X2_take_8 : Blk m_X2_take 8 [o_ald 0, o_pure (g_push (.int 1)), o_putZ 2 2] 13 := .cons (ok_aload_n (k := 0) rfl (by decide +kernel)) (.cons (ok_iconst (n := 1) (by decide +kernel) (by decide)) (.cons (ok_putZ fl_2_43 rfl (by decide +kernel)) .nil))
theorem B_X2_takeIfPresent_0 : Blk m_X2_takeIfPresent 0 [o_ald 0, o_getI 2 2] 4 := .cons (ok_aload_n (k := 0) rfl (by decide +kernel)) (.cons (ok_getI fl_2_43 rfl (by decide +kernel)) .nil)
theorem B_X2_takeIfPresent_7 : Blk m_X2_takeIfPresent 7 [o_ald 0, o_getR 2 0, o_ald 0, o_getI 2 1, o_ild 1] 16 := .cons (ok_aload_n (k := 0) rfl (by decide +kernel)) (.cons (ok_getR fl_2_12 rfl (by decide +kernel)) (.cons (ok_aload_n (k := 0) rfl (by decide +kernel)) (.cons (ok_getI fl_2_47 rfl (by decide +kernel)) (.cons (ok_iload_n (k := 1) rfl (by decide +kernel)) .nil))))
theorem B_X2_takeIfPresent_22 : Blk m_X2_takeIfPresent 22 [o_pure (g_push (.int 0))] 23 := .cons (ok_iconst (n := 0) (by decide +kernel) (by decide)) .nil
theorem B_X2_takeIfPresent_24 : Blk m_X2_takeIfPresent 24 [o_ald 0, o_pure (g_dup), o_getI 2 1, o_pure (g_push (.int 1)), o_pure (g_ii (fun x y => x + y)), o_putI 2 1, o_pure (g_push (.int 1))] 35 := .cons (ok_aload_n (k := 0) rfl (by decide +kernel)) (.cons (ok_dup (by decide +kernel)) (.cons (ok_getI fl_2_47 rfl (by decide +kernel)) (.cons (ok_iconst (n := 1) (by decide +kernel) (by decide)) (.cons (ok_iadd (by decide +kernel)) (.cons (ok_putI fl_2_47 rfl (by decide +kernel)) (.cons (ok_iconst (n := 1) (by decide +kernel) (by decide)) .nil))))))
theorem B_X2_isConsistent_0 : Blk m_X2_isConsistent 0 [o_ald 0, o_getI 2 4, o_pure (g_push (.int 1))] 5 := .cons (ok_aload_n (k := 0) rfl (by decide +kernel)) (.cons (ok_getI fl_2_32 rfl (by decide +kernel)) (.cons (ok_iconst (n := 1) (by decide +kernel) (by decide)) .nil))
theorem B_X2_isConsistent_8 : Blk m_X2_isConsistent 8 [o_ald 0, o_getI 2 4, o_pure (g_push (.int 12))] 14 := .cons (ok_aload_n (k := 0) rfl (by decide +kernel)) (.cons (ok_getI fl_2_32 rfl (by decide +kernel)) (.cons (ok_bipush (n := 12) (by decide +kernel) (by decide)) .nil))
theorem B_X2_isConsistent_17 : Blk m_X2_isConsistent 17 [o_ald 0, o_getI 2 5, o_ald 0, o_getI 2 3] 25 := .cons (ok_aload_n (k := 0) rfl (by decide +kernel)) (.cons (ok_getI fl_2_60 rfl (by decide +kernel)) (.cons (ok_aload_n (k := 0) rfl (by decide +kernel)) (.cons (ok_getI fl_2_57 rfl (by decide +kernel)) .nil)))
theorem B_X2_isConsistent_28 : Blk m_X2_isConsistent 28 [o_pure (g_push (.int 0))] 29 := .cons (ok_iconst (n := 0) (by decide +kernel) (by decide)) .nil
theorem B_X2_isConsistent_30 : Blk m_X2_isConsistent 30 [o_pure (g_push (.int 0)), o_ist 1] 32 := .cons (ok_iconst (n := 0) (by decide +kernel) (by decide)) (.cons (ok_istore_n (k := 1) rfl (by decide +kernel)) .nil)
theorem B_X2_isConsistent_32 : Blk m_X2_isConsistent 32 [o_ild 1, o_ald 0, o_getI 2 3] 37 := .cons (ok_iload_n (k := 1) rfl (by decide +kernel)) (.cons (ok_aload_n (k := 0) rfl (by decide +kernel)) (.cons (ok_getI fl_2_57 rfl (by decide +kernel)) .nil))
theorem B_X2_isConsistent_40 : Blk m_X2_isConsistent 40 [o_pure (g_push (.int 0)), o_ist 2, o_pure (g_push (.int 0)), o_ist 3] 44 := .cons (ok_iconst (n := 0) (by decide +kernel) (by decide)) (.cons (ok_istore_n (k := 2) rfl (by decide +kernel)) (.cons (ok_iconst (n := 0) (by decide +kernel) (by decide)) (.cons (ok_istore_n (k := 3) rfl (by decide +kernel)) .nil)))
theorem B_X2_isConsistent_44 : Blk m_X2_isConsistent 44 [o_ild 3, o_ald 0, o_getI 2 3] 49 := .cons (ok_iload_n (k := 3) rfl (by decide +kernel)) (.cons (ok_aload_n (k := 0) rfl (by decide +kernel)) (.cons (ok_getI fl_2_57 rfl (by decide +kernel)) .nil))
theorem B_X2_isConsistent_52 : Blk m_X2_isConsistent 52 [o_ild 2, o_ald 0, o_getR 2 7, o_ild 1, o_pure (g_push (.int 10)), o_pure (g_ii (fun x y => x * y)), o_ild 3, o_pure (g_ii (fun x y => x + y)), o_iald, o_pure (g_ii (fun x y => x + y)), o_ist 2, o_iinc 3 1, o_pure g_id] 44 := .cons (ok_iload_n (k := 2) rfl (by decide +kernel)) (.cons (ok_aload_n (k := 0) rfl (by decide +kernel)) (.cons (ok_getR fl_2_22 rfl (by decide +kernel)) (.cons (ok_iload_n (k := 1) rfl (by decide +kernel)) (.cons (ok_bipush (n := 10) (by decide +kernel) (by decide)) (.cons (ok_imul (by decide +kernel)) (.cons (ok_iload_n (k := 3) rfl (by decide +kernel)) (.cons (ok_iadd (by decide +kernel)) (.cons (ok_iaload (by decide +kernel)) (.cons (ok_iadd (by decide +kernel)) (.cons (ok_istore_n (k := 2) rfl (by decide +kernel)) (.cons (ok_iinc (z := 1) (by decide +kernel) (by decide)) (.cons (ok_goto (off := (-25)) (tgt := 44) (by decide +kernel) (by decide)) .nil))))))))))))
theorem B_X2_isConsistent_72 : Blk m_X2_isConsistent 72 [o_ild 2, o_ald 0, o_getI 2 4] 77 := .cons (ok_iload_n (k := 2) rfl (by decide +kernel)) (.cons (ok_aload_n (k := 0) rfl (by decide +kernel)) (.cons (ok_getI fl_2_32 rfl (by decide +kernel)) .nil))
theorem B_X2_isConsistent_80 : Blk m_X2_isConsistent 80 [o_ald 0, o_getR 2 6, o_ild 1, o_iald, o_pure (g_push (.int 3))] 87 := .cons (ok_aload_n (k := 0) rfl (by decide +kernel)) (.cons (ok_getR fl_2_18 rfl (by decide +kernel)) (.cons (ok_iload_n (k := 1) rfl (by decide +kernel)) (.cons (ok_iaload (by decide +kernel)) (.cons (ok_iconst (n := 3) (by decide +kernel) (by decide)) .nil))))
theorem B_X2_isConsistent_90 : Blk m_X2_isConsistent 90 [o_pure (g_push (.int 0))] 91 := .cons (ok_iconst (n := 0) (by decide +kernel) (by decide)) .nil
theorem B_X2_isConsistent_92 : Blk m_X2_isConsistent 92 [o_iinc 1 1, o_pure g_id] 32 := .cons (ok_iinc (z := 1) (by decide +kernel) (by decide)) (.cons (ok_goto (off := (-63)) (tgt := 32) (by decide +kernel) (by decide)) .nil)
theorem B_X2_isConsistent_98 : Blk m_X2_isConsistent 98 [o_pure (g_push (.int 1))] 99 := .cons (ok_iconst (n := 1) (by decide +kernel) (by decide)) .nil
theorem B_X2_writeTo_0 : Blk m_X2_writeTo 0 [o_ald 1, o_ald 0, o_getI 2 3, o_ald 0, o_getI 2 4] 9 := .cons (ok_aload_n (k := 1) rfl (by decide +kernel)) (.cons (ok_aload_n (k := 0) rfl (by decide +kernel)) (.cons (ok_getI fl_2_57 rfl (by decide +kernel)) (.cons (ok_aload_n (k := 0) rfl (by decide +kernel)) (.cons (ok_getI fl_2_32 rfl (by decide +kernel)) .nil))))
theorem B_X2_writeTo_12 : Blk m_X2_writeTo 12 [o_pure (g_push (.int 0)), o_ist 2] 14 := .cons (ok_iconst (n := 0) (by decide +kernel) (by decide)) (.cons (ok_istore_n (k := 2) rfl (by decide +kernel)) .nil)
theorem B_X2_writeTo_14 : Blk m_X2_writeTo 14 [o_ild 2, o_ald 0, o_getI 2 3] 19 := .cons (ok_iload_n (k := 2) rfl (by decide +kernel)) (.cons (ok_aload_n (k := 0) rfl (by decide +kernel)) (.cons (ok_getI fl_2_57 rfl (by decide +kernel)) .nil))
theorem B_X2_writeTo_22 : Blk m_X2_writeTo 22 [o_ald 1, o_getR 1 4, o_ild 2, o_ald 0, o_getR 2 6, o_ild 2, o_iald, o_iast, o_pure (g_push (.int 0)), o_ist 3] 36 := .cons (ok_aload_n (k := 1) rfl (by decide +kernel)) (.cons (ok_getR fl_2_93 rfl (by decide +kernel)) (.cons (ok_iload_n (k := 2) rfl (by decide +kernel)) (.cons (ok_aload_n (k := 0) rfl (by decide +kernel)) (.cons (ok_getR fl_2_18 rfl (by decide +kernel)) (.cons (ok_iload_n (k := 2) rfl (by decide +kernel)) (.cons (ok_iaload (by decide +kernel)) (.cons (ok_iastore (by decide +kernel)) (.cons (ok_iconst (n := 0) (by decide +kernel) (by decide)) (.cons (ok_istore_n (k := 3) rfl (by decide +kernel)) .nil)))))))))
theorem B_X2_writeTo_36 : Blk m_X2_writeTo 36 [o_ild 3, o_ald 0, o_getI 2 3] 41 := .cons (ok_iload_n (k := 3) rfl (by decide +kernel)) (.cons (ok_aload_n (k := 0) rfl (by decide +kernel)) (.cons (ok_getI fl_2_57 rfl (by decide +kernel)) .nil))
theorem B_X2_writeTo_44 : Blk m_X2_writeTo 44 [o_ald 1, o_getR 1 5, o_ild 2, o_pure (g_push (.int 6)), o_pure (g_ii (fun x y => x * y)), o_ild 3, o_pure (g_ii (fun x y => x + y)), o_ald 0, o_getR 2 7, o_ild 2, o_pure (g_push (.int 10)), o_pure (g_ii (fun x y => x * y)), o_ild 3, o_pure (g_ii (fun x y => x + y)), o_iald, o_iast, o_iinc 3 1, o_pure g_id] 36 := .cons (ok_aload_n (k := 1) rfl (by decide +kernel)) (.cons (ok_getR fl_2_94 rfl (by decide +kernel)) (.cons (ok_iload_n (k := 2) rfl (by decide +kernel)) (.cons (ok_bipush (n := 6) (by decide +kernel) (by decide)) (.cons (ok_imul (by decide +kernel)) (.cons (ok_iload_n (k := 3) rfl (by decide +kernel)) (.cons (ok_iadd (by decide +kernel)) (.cons (ok_aload_n (k := 0) rfl (by decide +kernel)) (.cons (ok_getR fl_2_22 rfl (by decide +kernel)) (.cons (ok_iload_n (k := 2) rfl (by decide +kernel)) (.cons (ok_bipush (n := 10) (by decide +kernel) (by decide)) (.cons (ok_imul (by decide +kernel)) (.cons (ok_iload_n (k := 3) rfl (by decide +kernel)) (.cons (ok_iadd (by decide +kernel)) (.cons (ok_iaload (by decide +kernel)) (.cons (ok_iastore (by decide +kernel)) (.cons (ok_iinc (z := 1) (by decide +kernel) (by decide)) (.cons (ok_goto (off := (-33)) (tgt := 36) (by decide +kernel) (by decide)) .nil)))))))))))))))))
theorem B_X2_writeTo_72 : Blk m_X2_writeTo 72 [o_iinc 2 1, o_pure g_id] 14 := .cons (ok_iinc (z := 1) (by decide +kernel) (by decide)) (.cons (ok_goto (off := (-61)) (tgt := 14) (by decide +kernel) (by decide)) .nil)
theorem B_X3_init_0 : Blk m_X3_init 0 [o_ald 0, o_pure g_oi, o_ald 0] 5 := .cons (ok_aload_n (k := 0) rfl (by decide +kernel)) (.cons (ok_oi ml_3_3 jw_oii jw_oic (by decide +kernel)) (.cons (ok_aload_n (k := 0) rfl (by decide +kernel)) .nil))
theorem B_X3_init_8 : Blk m_X3_init 8 [o_pure (g_dup)] 9 := .cons (ok_dup (by decide +kernel)) .nil
theorem B_X3_init_15 : Blk m_X3_init 15 [o_ald 0] 16 := .cons (ok_aload_n (k := 0) rfl (by decide +kernel)) .nil
theorem B_X3_init_19 : Blk m_X3_init 19 [o_pure (g_dup)] 20 := .cons (ok_dup (by decide +kernel)) .nil
theorem B_X3_init_26 : Blk m_X3_init 26 [o_ald 0, o_pure (g_push (.int 16)), o_pure (g_push (.int 36))] 31 := .cons (ok_aload_n (k := 0) rfl (by decide +kernel)) (.cons (ok_bipush (n := 16) (by decide +kernel) (by decide)) (.cons (ok_bipush (n := 36) (by decide +kernel) (by decide)) .nil))
theorem B_X3_init_38 : Blk m_X3_init 38 [o_ald 0, o_pure (g_push (.int 16))] 41 := .cons (ok_aload_n (k := 0) rfl (by decide +kernel)) (.cons (ok_bipush (n := 16) (by decide +kernel) (by decide)) .nil)
theorem B_X3_init_46 : Blk m_X3_init 46 [o_ald 0, o_getR 3 3, o_pure (g_push (.int 0)), o_pure (g_push (.long 1)), o_last] 53 := .cons (ok_aload_n (k := 0) rfl (by decide +kernel)) (.cons (ok_getR fl_3_30 rfl (by decide +kernel)) (.cons (ok_iconst (n := 0) (by decide +kernel) (by decide)) (.cons (ok_lconst (n := 1) (by decide +kernel) (by decide)) (.cons (ok_lastore (by decide +kernel)) .nil))))
theorem B_X3_levelFor_0 : Blk m_X3_levelFor 0 [o_ald 0, o_getR 3 0, o_ald 1] 5 := .cons (ok_aload_n (k := 0) rfl (by decide +kernel)) (.cons (ok_getR fl_3_12 rfl (by decide +kernel)) (.cons (ok_aload_n (k := 1) rfl (by decide +kernel)) .nil))
theorem B_X3_levelFor_11 : Blk m_X3_levelFor 11 [o_ald 0, o_getR 3 0, o_ald 1] 16 := .cons (ok_aload_n (k := 0) rfl (by decide +kernel)) (.cons (ok_getR fl_3_12 rfl (by decide +kernel)) (.cons (ok_aload_n (k := 1) rfl (by decide +kernel)) .nil))
theorem B_X3_levelFor_19 : Blk m_X3_levelFor 19 [o_ald 0, o_pure (g_push (.int 0)), o_putI 3 4, o_ald 0, o_getI 3 4, o_pure (g_push (.int 1)), o_pure (g_ii (fun x y => x + y)), o_ist 3] 31 := .cons (ok_aload_n (k := 0) rfl (by decide +kernel)) (.cons (ok_iconst (n := 0) (by decide +kernel) (by decide)) (.cons (ok_putI fl_3_42 rfl (by decide +kernel)) (.cons (ok_aload_n (k := 0) rfl (by decide +kernel)) (.cons (ok_getI fl_3_42 rfl (by decide +kernel)) (.cons (ok_iconst (n := 1) (by decide +kernel) (by decide)) (.cons (ok_iadd (by decide +kernel)) (.cons (ok_istore_n (k := 3) rfl (by decide +kernel)) .nil)))))))
theorem B_X3_levelFor_24 : Blk m_X3_levelFor 24 [o_ald 0, o_getI 3 4, o_pure (g_push (.int 1)), o_pure (g_ii (fun x y => x + y)), o_ist 3] 31 := .cons (ok_aload_n (k := 0) rfl (by decide +kernel)) (.cons (ok_getI fl_3_42 rfl (by decide +kernel)) (.cons (ok_iconst (n := 1) (by decide +kernel) (by decide)) (.cons (ok_iadd (by decide +kernel)) (.cons (ok_istore_n (k := 3) rfl (by decide +kernel)) .nil))))
theorem B_X3_levelFor_31 : Blk m_X3_levelFor 31 [o_ild 3, o_ild 2] 33 := .cons (ok_iload_n (k := 3) rfl (by decide +kernel)) (.cons (ok_iload_n (k := 2) rfl (by decide +kernel)) .nil)
theorem B_X3_levelFor_36 : Blk m_X3_levelFor 36 [o_ald 0, o_ild 3] 38 := .cons (ok_aload_n (k := 0) rfl (by decide +kernel)) (.cons (ok_iload_n (k := 3) rfl (by decide +kernel)) .nil)
theorem B_X3_levelFor_41 : Blk m_X3_levelFor 41 [o_ald 0, o_ild 3, o_putI 3 4, o_iinc 3 1, o_pure g_id] 31 := .cons (ok_aload_n (k := 0) rfl (by decide +kernel)) (.cons (ok_iload_n (k := 3) rfl (by decide +kernel)) (.cons (ok_putI fl_3_42 rfl (by decide +kernel)) (.cons (ok_iinc (z := 1) (by decide +kernel) (by decide)) (.cons (ok_goto (off := (-18)) (tgt := 31) (by decide +kernel) (by decide)) .nil))))
theorem B_X3_levelFor_52 : Blk m_X3_levelFor 52 [o_ald 0, o_getR 3 2, o_ild 2, o_aald5] 58 := .cons (ok_aload_n (k := 0) rfl (by decide +kernel)) (.cons (ok_getR fl_3_27 rfl (by decide +kernel)) (.cons (ok_iload_n (k := 2) rfl (by decide +kernel)) (.cons (ok_aald5 (by decide +kernel)) .nil)))
theorem B_X3_fillLevel_0 : Blk m_X3_fillLevel 0 [o_ald 0, o_getR 3 3, o_ild 1, o_ald 0, o_getR 3 3, o_ild 1, o_pure (g_push (.int 1)), o_pure (g_ii (fun x y => x - y)), o_lald, o_ald 0, o_getR 3 0, o_getI 1 3, o_pure (g_il (fun x => x.toInt64)), o_pure (g_ll (fun x y => x * y)), o_ald 0, o_getR 3 0, o_getI 1 1, o_pure (g_il (fun x => x.toInt64)), o_pure (g_ll (fun x y => x * y)), o_last, o_ald 0, o_getR 3 1, o_ald 0, o_getR 3 2, o_ild 1, o_pure (g_push (.int 1)), o_pure (g_ii (fun x y => x - y)), o_aald5] 44 := .cons (ok_aload_n (k := 0) rfl (by decide +kernel)) (.cons (ok_getR fl_3_30 rfl (by decide +kernel)) (.cons (ok_iload_n (k := 1) rfl (by decide +kernel)) (.cons (ok_aload_n (k := 0) rfl (by decide +kernel)) (.cons (ok_getR fl_3_30 rfl (by decide +kernel)) (.cons (ok_iload_n (k := 1) rfl (by decide +kernel)) (.cons (ok_iconst (n := 1) (by decide +kernel) (by decide)) (.cons (ok_isub (by decide +kernel)) (.cons (ok_laload (by decide +kernel)) (.cons (ok_aload_n (k := 0) rfl (by decide +kernel)) (.cons (ok_getR fl_3_12 rfl (by decide +kernel)) (.cons (ok_getI fl_3_50 rfl (by decide +kernel)) (.cons (ok_i2l (by decide +kernel)) (.cons (ok_lmul (by decide +kernel)) (.cons (ok_aload_n (k := 0) rfl (by decide +kernel)) (.cons (ok_getR fl_3_12 rfl (by decide +kernel)) (.cons (ok_getI fl_3_53 rfl (by decide +kernel)) (.cons (ok_i2l (by decide +kernel)) (.cons (ok_lmul (by decide +kernel)) (.cons (ok_lastore (by decide +kernel)) (.cons (ok_aload_n (k := 0) rfl (by decide +kernel)) (.cons (ok_getR fl_3_21 rfl (by decide +kernel)) (.cons (ok_aload_n (k := 0) rfl (by decide +kernel)) (.cons (ok_getR fl_3_27 rfl (by decide +kernel)) (.cons (ok_iload_n (k := 1) rfl (by decide +kernel)) (.cons (ok_iconst (n := 1) (by decide +kernel) (by decide)) (.cons (ok_isub (by decide +kernel)) (.cons (ok_aald5 (by decide +kernel)) .nil)))))))))))))))))))))))))))
theorem B_X3_fillLevel_47 : Blk m_X3_fillLevel 47 [o_pure (g_push (.int 0)), o_ist 2] 49 := .cons (ok_iconst (n := 0) (by decide +kernel) (by decide)) (.cons (ok_istore_n (k := 2) rfl (by decide +kernel)) .nil)
theorem B_X3_fillLevel_49 : Blk m_X3_fillLevel 49 [o_ild 2, o_ald 0, o_getR 3 0, o_getI 1 0] 57 := .cons (ok_iload_n (k := 2) rfl (by decide +kernel)) (.cons (ok_aload_n (k := 0) rfl (by decide +kernel)) (.cons (ok_getR fl_3_12 rfl (by decide +kernel)) (.cons (ok_getI fl_3_60 rfl (by decide +kernel)) .nil)))
theorem B_X3_fillLevel_60 : Blk m_X3_fillLevel 60 [o_ild 2, o_pure (g_push (.int 1)), o_pure (g_ii (fun x y => x + y)), o_ist 3] 64 := .cons (ok_iload_n (k := 2) rfl (by decide +kernel)) (.cons (ok_iconst (n := 1) (by decide +kernel) (by decide)) (.cons (ok_iadd (by decide +kernel)) (.cons (ok_istore_n (k := 3) rfl (by decide +kernel)) .nil)))
theorem B_X3_fillLevel_64 : Blk m_X3_fillLevel 64 [o_ild 3, o_ald 0, o_getR 3 0, o_getI 1 0] 72 := .cons (ok_iload_n (k := 3) rfl (by decide +kernel)) (.cons (ok_aload_n (k := 0) rfl (by decide +kernel)) (.cons (ok_getR fl_3_12 rfl (by decide +kernel)) (.cons (ok_getI fl_3_60 rfl (by decide +kernel)) .nil)))
theorem B_X3_fillLevel_75 : Blk m_X3_fillLevel 75 [o_ald 0, o_getR 3 3, o_ild 1, o_lald, o_lst 4, o_ald 0, o_getR 3 0, o_getR 1 4, o_ild 2, o_iald, o_ald 0, o_getR 3 0, o_getR 1 4, o_ild 3, o_iald] 101 := .cons (ok_aload_n (k := 0) rfl (by decide +kernel)) (.cons (ok_getR fl_3_30 rfl (by decide +kernel)) (.cons (ok_iload_n (k := 1) rfl (by decide +kernel)) (.cons (ok_laload (by decide +kernel)) (.cons (ok_lstore (by decide +kernel)) (.cons (ok_aload_n (k := 0) rfl (by decide +kernel)) (.cons (ok_getR fl_3_12 rfl (by decide +kernel)) (.cons (ok_getR fl_3_63 rfl (by decide +kernel)) (.cons (ok_iload_n (k := 2) rfl (by decide +kernel)) (.cons (ok_iaload (by decide +kernel)) (.cons (ok_aload_n (k := 0) rfl (by decide +kernel)) (.cons (ok_getR fl_3_12 rfl (by decide +kernel)) (.cons (ok_getR fl_3_63 rfl (by decide +kernel)) (.cons (ok_iload_n (k := 3) rfl (by decide +kernel)) (.cons (ok_iaload (by decide +kernel)) .nil))))))))))))))
theorem B_X3_fillLevel_104 : Blk m_X3_fillLevel 104 [o_ald 0, o_getR 3 0, o_getI 1 2, o_pure (g_il (fun x => x.toInt64)), o_ald 0, o_getR 3 1, o_ald 0, o_getR 3 0, o_ild 2, o_ild 3] 122 := .cons (ok_aload_n (k := 0) rfl (by decide +kernel)) (.cons (ok_getR fl_3_12 rfl (by decide +kernel)) (.cons (ok_getI fl_3_67 rfl (by decide +kernel)) (.cons (ok_i2l (by decide +kernel)) (.cons (ok_aload_n (k := 0) rfl (by decide +kernel)) (.cons (ok_getR fl_3_21 rfl (by decide +kernel)) (.cons (ok_aload_n (k := 0) rfl (by decide +kernel)) (.cons (ok_getR fl_3_12 rfl (by decide +kernel)) (.cons (ok_iload_n (k := 2) rfl (by decide +kernel)) (.cons (ok_iload_n (k := 3) rfl (by decide +kernel)) .nil)))))))))
theorem B_X3_fillLevel_125 : Blk m_X3_fillLevel 125 [o_pure (g_ll (fun x y => x * y)), o_lst 4, o_ald 0, o_getR 3 2, o_ild 1, o_aald5, o_ild 2, o_pure (g_push (.int 6)), o_pure (g_ii (fun x y => x * y)), o_ild 3, o_pure (g_ii (fun x y => x + y)), o_lld 4, o_last, o_ald 0, o_getR 3 2, o_ild 1, o_aald5, o_ild 3, o_pure (g_push (.int 6)), o_pure (g_ii (fun x y => x * y)), o_ild 2, o_pure (g_ii (fun x y => x + y)), o_lld 4, o_last, o_iinc 3 1, o_pure g_id] 64 := .cons (ok_lmul (by decide +kernel)) (.cons (ok_lstore (by decide +kernel)) (.cons (ok_aload_n (k := 0) rfl (by decide +kernel)) (.cons (ok_getR fl_3_27 rfl (by decide +kernel)) (.cons (ok_iload_n (k := 1) rfl (by decide +kernel)) (.cons (ok_aald5 (by decide +kernel)) (.cons (ok_iload_n (k := 2) rfl (by decide +kernel)) (.cons (ok_bipush (n := 6) (by decide +kernel) (by decide)) (.cons (ok_imul (by decide +kernel)) (.cons (ok_iload_n (k := 3) rfl (by decide +kernel)) (.cons (ok_iadd (by decide +kernel)) (.cons (ok_lload (by decide +kernel)) (.cons (ok_lastore (by decide +kernel)) (.cons (ok_aload_n (k := 0) rfl (by decide +kernel)) (.cons (ok_getR fl_3_27 rfl (by decide +kernel)) (.cons (ok_iload_n (k := 1) rfl (by decide +kernel)) (.cons (ok_aald5 (by decide +kernel)) (.cons (ok_iload_n (k := 3) rfl (by decide +kernel)) (.cons (ok_bipush (n := 6) (by decide +kernel) (by decide)) (.cons (ok_imul (by decide +kernel)) (.cons (ok_iload_n (k := 2) rfl (by decide +kernel)) (.cons (ok_iadd (by decide +kernel)) (.cons (ok_lload (by decide +kernel)) (.cons (ok_lastore (by decide +kernel)) (.cons (ok_iinc (z := 1) (by decide +kernel) (by decide)) (.cons (ok_goto (off := (-97)) (tgt := 64) (by decide +kernel) (by decide)) .nil)))))))))))))))))))))))))
theorem B_X3_fillLevel_128 : Blk m_X3_fillLevel 128 [o_ald 0, o_getR 3 2, o_ild 1, o_aald5, o_ild 2, o_pure (g_push (.int 6)), o_pure (g_ii (fun x y => x * y)), o_ild 3, o_pure (g_ii (fun x y => x + y)), o_lld 4, o_last, o_ald 0, o_getR 3 2, o_ild 1, o_aald5, o_ild 3, o_pure (g_push (.int 6)), o_pure (g_ii (fun x y => x * y)), o_ild 2, o_pure (g_ii (fun x y => x + y)), o_lld 4, o_last, o_iinc 3 1, o_pure g_id] 64 := .cons (ok_aload_n (k := 0) rfl (by decide +kernel)) (.cons (ok_getR fl_3_27 rfl (by decide +kernel)) (.cons (ok_iload_n (k := 1) rfl (by decide +kernel)) (.cons (ok_aald5 (by decide +kernel)) (.cons (ok_iload_n (k := 2) rfl (by decide +kernel)) (.cons (ok_bipush (n := 6) (by decide +kernel) (by decide)) (.cons (ok_imul (by decide +kernel)) (.cons (ok_iload_n (k := 3) rfl (by decide +kernel)) (.cons (ok_iadd (by decide +kernel)) (.cons (ok_lload (by decide +kernel)) (.cons (ok_lastore (by decide +kernel)) (.cons (ok_aload_n (k := 0) rfl (by decide +kernel)) (.cons (ok_getR fl_3_27 rfl (by decide +kernel)) (.cons (ok_iload_n (k := 1) rfl (by decide +kernel)) (.cons (ok_aald5 (by decide +kernel)) (.cons (ok_iload_n (k := 3) rfl (by decide +kernel)) (.cons (ok_bipush (n := 6) (by decide +kernel) (by decide)) (.cons (ok_imul (by decide +kernel)) (.cons (ok_iload_n (k := 2) rfl (by decide +kernel)) (.cons (ok_iadd (by decide +kernel)) (.cons (ok_lload (by decide +kernel)) (.cons (ok_lastore (by decide +kernel)) (.cons (ok_iinc (z := 1) (by decide +kernel) (by decide)) (.cons (ok_goto (off := (-97)) (tgt := 64) (by decide +kernel) (by decide)) .nil)))))))))))))))))))))))
theorem B_X3_fillLevel_164 : Blk m_X3_fillLevel 164 [o_iinc 2 1, o_pure g_id] 49 := .cons (ok_iinc (z := 1) (by decide +kernel) (by decide)) (.cons (ok_goto (off := (-118)) (tgt := 49) (by decide +kernel) (by decide)) .nil)
theorem B_X3_canonicalCoupling_0 : Blk m_X3_canonicalCoupling 0 [o_ald 0, o_getR 3 1, o_ald 1] 5 := .cons (ok_aload_n (k := 0) rfl (by decide +kernel)) (.cons (ok_getR fl_3_21 rfl (by decide +kernel)) (.cons (ok_aload_n (k := 1) rfl (by decide +kernel)) .nil))
theorem B_X3_canonicalCoupling_8 : Blk m_X3_canonicalCoupling 8 [o_ald 0, o_getR 3 1, o_ald 0, o_getR 3 0, o_ild 2, o_ild 3] 18 := .cons (ok_aload_n (k := 0) rfl (by decide +kernel)) (.cons (ok_getR fl_3_21 rfl (by decide +kernel)) (.cons (ok_aload_n (k := 0) rfl (by decide +kernel)) (.cons (ok_getR fl_3_12 rfl (by decide +kernel)) (.cons (ok_iload_n (k := 2) rfl (by decide +kernel)) (.cons (ok_iload_n (k := 3) rfl (by decide +kernel)) .nil)))))
theorem B_X3_canonicalCoupling_21 : Blk m_X3_canonicalCoupling 21 [o_pure (g_pop2), o_ald 0, o_getR 3 1] 26 := .cons (ok_pop2 (by decide +kernel)) (.cons (ok_aload_n (k := 0) rfl (by decide +kernel)) (.cons (ok_getR fl_3_21 rfl (by decide +kernel)) .nil))
theorem B_X3_canonicalCoupling_29 : Blk m_X3_canonicalCoupling 29 [o_ald 0, o_getR 3 1, o_getR 8 0] 36 := .cons (ok_aload_n (k := 0) rfl (by decide +kernel)) (.cons (ok_getR fl_3_21 rfl (by decide +kernel)) (.cons (ok_getR fl_3_77 rfl (by decide +kernel)) .nil))
theorem B_X3_inLowestTerms_0 : Blk m_X3_inLowestTerms 0 [o_lld 1, o_ald 0, o_getR 3 3, o_ild 3, o_lald] 7 := .cons (ok_lload_n (k := 1) rfl (by decide +kernel)) (.cons (ok_aload_n (k := 0) rfl (by decide +kernel)) (.cons (ok_getR fl_3_30 rfl (by decide +kernel)) (.cons (ok_iload_n (k := 3) rfl (by decide +kernel)) (.cons (ok_laload (by decide +kernel)) .nil))))
theorem B_X3_inLowestTerms_10 : Blk m_X3_inLowestTerms 10 [o_lst 5, o_ild 4] 14 := .cons (ok_lstore (by decide +kernel)) (.cons (ok_iload (by decide +kernel)) .nil)
theorem B_X3_inLowestTerms_17 : Blk m_X3_inLowestTerms 17 [o_lld 1, o_pure g_id] 27 := .cons (ok_lload_n (k := 1) rfl (by decide +kernel)) (.cons (ok_goto (off := 9) (tgt := 27) (by decide +kernel) (by decide)) .nil)
theorem B_X3_inLowestTerms_21 : Blk m_X3_inLowestTerms 21 [o_ald 0, o_getR 3 3, o_ild 3, o_lald, o_lst 7, o_lld 5, o_pure (g_push (.long 1)), o_pure (g_cmp)] 33 := .cons (ok_aload_n (k := 0) rfl (by decide +kernel)) (.cons (ok_getR fl_3_30 rfl (by decide +kernel)) (.cons (ok_iload_n (k := 3) rfl (by decide +kernel)) (.cons (ok_laload (by decide +kernel)) (.cons (ok_lstore (by decide +kernel)) (.cons (ok_lload (by decide +kernel)) (.cons (ok_lconst (n := 1) (by decide +kernel) (by decide)) (.cons (ok_lcmp (by decide +kernel)) .nil)))))))
theorem B_X3_inLowestTerms_27 : Blk m_X3_inLowestTerms 27 [o_lst 7, o_lld 5, o_pure (g_push (.long 1)), o_pure (g_cmp)] 33 := .cons (ok_lstore (by decide +kernel)) (.cons (ok_lload (by decide +kernel)) (.cons (ok_lconst (n := 1) (by decide +kernel) (by decide)) (.cons (ok_lcmp (by decide +kernel)) .nil)))
theorem B_X3_inLowestTerms_36 : Blk m_X3_inLowestTerms 36 [o_lld 7, o_lld 5, o_dll (fun x y => x / y), o_pure g_id] 46 := .cons (ok_lload (by decide +kernel)) (.cons (ok_lload (by decide +kernel)) (.cons (ok_ldiv (by decide +kernel)) (.cons (ok_goto (off := 5) (tgt := 46) (by decide +kernel) (by decide)) .nil)))
theorem B_X3_inLowestTerms_44 : Blk m_X3_inLowestTerms 44 [o_lld 7] 46 := .cons (ok_lload (by decide +kernel)) .nil
theorem B_X3_greatestCommonDivisor_0 : Blk m_X3_greatestCommonDivisor 0 [o_lld 0, o_lst 4, o_lld 2, o_lst 6, o_pure (g_push (.int 0)), o_ist 8] 9 := .cons (ok_lload_n (k := 0) rfl (by decide +kernel)) (.cons (ok_lstore (by decide +kernel)) (.cons (ok_lload_n (k := 2) rfl (by decide +kernel)) (.cons (ok_lstore (by decide +kernel)) (.cons (ok_iconst (n := 0) (by decide +kernel) (by decide)) (.cons (ok_istore (by decide +kernel)) .nil)))))
theorem B_X3_greatestCommonDivisor_9 : Blk m_X3_greatestCommonDivisor 9 [o_ild 8, o_pure (g_push (.int 100))] 13 := .cons (ok_iload (by decide +kernel)) (.cons (ok_bipush (n := 100) (by decide +kernel) (by decide)) .nil)
theorem B_X3_greatestCommonDivisor_16 : Blk m_X3_greatestCommonDivisor 16 [o_lld 6, o_pure (g_push (.long 0)), o_pure (g_cmp)] 20 := .cons (ok_lload (by decide +kernel)) (.cons (ok_lconst (n := 0) (by decide +kernel) (by decide)) (.cons (ok_lcmp (by decide +kernel)) .nil))
theorem B_X3_greatestCommonDivisor_23 : Blk m_X3_greatestCommonDivisor 23 [o_lld 4, o_lld 6, o_dll (fun x y => x - x / y * y), o_lst 9, o_lld 6, o_lst 4, o_lld 9, o_lst 6, o_iinc 8 1, o_pure g_id] 9 := .cons (ok_lload (by decide +kernel)) (.cons (ok_lload (by decide +kernel)) (.cons (ok_lrem (by decide +kernel)) (.cons (ok_lstore (by decide +kernel)) (.cons (ok_lload (by decide +kernel)) (.cons (ok_lstore (by decide +kernel)) (.cons (ok_lload (by decide +kernel)) (.cons (ok_lstore (by decide +kernel)) (.cons (ok_iinc (z := 1) (by decide +kernel) (by decide)) (.cons (ok_goto (off := (-32)) (tgt := 9) (by decide +kernel) (by decide)) .nil)))))))))
theorem B_X3_greatestCommonDivisor_44 : Blk m_X3_greatestCommonDivisor 44 [o_lld 4] 46 := .cons (ok_lload (by decide +kernel)) .nil
theorem B_X4_init_0 : Blk m_X4_init 0 [o_ald 0, o_pure g_oi, o_ald 0, o_pure (g_push (.int 10))] 7 := .cons (ok_aload_n (k := 0) rfl (by decide +kernel)) (.cons (ok_oi ml_4_3 jw_oii jw_oic (by decide +kernel)) (.cons (ok_aload_n (k := 0) rfl (by decide +kernel)) (.cons (ok_bipush (n := 10) (by decide +kernel) (by decide)) .nil)))
theorem B_X4_init_13 : Blk m_X4_init 13 [o_pure (g_push (.int 0)), o_ist 1] 15 := .cons (ok_iconst (n := 0) (by decide +kernel) (by decide)) (.cons (ok_istore_n (k := 1) rfl (by decide +kernel)) .nil)
theorem B_X4_init_15 : Blk m_X4_init 15 [o_ild 1, o_pure (g_push (.int 10))] 18 := .cons (ok_iload_n (k := 1) rfl (by decide +kernel)) (.cons (ok_bipush (n := 10) (by decide +kernel) (by decide)) .nil)
theorem B_X4_init_21 : Blk m_X4_init 21 [o_ald 0, o_getR 4 2, o_ild 1] 26 := .cons (ok_aload_n (k := 0) rfl (by decide +kernel)) (.cons (ok_getR fl_4_11 rfl (by decide +kernel)) (.cons (ok_iload_n (k := 1) rfl (by decide +kernel)) .nil))
theorem B_X4_init_29 : Blk m_X4_init 29 [o_pure (g_dup)] 30 := .cons (ok_dup (by decide +kernel)) .nil
theorem B_X4_init_34 : Blk m_X4_init 34 [o_iinc 1 1, o_pure g_id] 15 := .cons (ok_iinc (z := 1) (by decide +kernel) (by decide)) (.cons (ok_goto (off := (-22)) (tgt := 15) (by decide +kernel) (by decide)) .nil)
theorem B_X4_remember_0 : Blk m_X4_remember 0 [o_ald 0, o_getR 4 2, o_ald 0, o_getI 4 1, o_aald4, o_ald 1] 10 := .cons (ok_aload_n (k := 0) rfl (by decide +kernel)) (.cons (ok_getR fl_4_11 rfl (by decide +kernel)) (.cons (ok_aload_n (k := 0) rfl (by decide +kernel)) (.cons (ok_getI fl_4_18 rfl (by decide +kernel)) (.cons (ok_aald4 (by decide +kernel)) (.cons (ok_aload_n (k := 1) rfl (by decide +kernel)) .nil)))))
theorem B_X4_remember_13 : Blk m_X4_remember 13 [o_ald 0, o_ald 0, o_getI 4 1, o_pure (g_push (.int 9))] 20 := .cons (ok_aload_n (k := 0) rfl (by decide +kernel)) (.cons (ok_aload_n (k := 0) rfl (by decide +kernel)) (.cons (ok_getI fl_4_18 rfl (by decide +kernel)) (.cons (ok_bipush (n := 9) (by decide +kernel) (by decide)) .nil)))
theorem B_X4_remember_23 : Blk m_X4_remember 23 [o_pure (g_push (.int 0)), o_pure g_id] 33 := .cons (ok_iconst (n := 0) (by decide +kernel) (by decide)) (.cons (ok_goto (off := 9) (tgt := 33) (by decide +kernel) (by decide)) .nil)
theorem B_X4_remember_27 : Blk m_X4_remember 27 [o_ald 0, o_getI 4 1, o_pure (g_push (.int 1)), o_pure (g_ii (fun x y => x + y)), o_putI 4 1, o_ald 0, o_ald 0, o_getI 4 0, o_pure (g_push (.int 1)), o_pure (g_ii (fun x y => x + y)), o_pure (g_push (.int 10)), o_pure (g_m2 (fun x y => if y < x then y else x)), o_putI 4 0] 51 := .cons (ok_aload_n (k := 0) rfl (by decide +kernel)) (.cons (ok_getI fl_4_18 rfl (by decide +kernel)) (.cons (ok_iconst (n := 1) (by decide +kernel) (by decide)) (.cons (ok_iadd (by decide +kernel)) (.cons (ok_putI fl_4_18 rfl (by decide +kernel)) (.cons (ok_aload_n (k := 0) rfl (by decide +kernel)) (.cons (ok_aload_n (k := 0) rfl (by decide +kernel)) (.cons (ok_getI fl_4_26 rfl (by decide +kernel)) (.cons (ok_iconst (n := 1) (by decide +kernel) (by decide)) (.cons (ok_iadd (by decide +kernel)) (.cons (ok_bipush (n := 10) (by decide +kernel) (by decide)) (.cons (ok_mmin ml_4_29 jw_mins jw_math jw_minc (by decide +kernel)) (.cons (ok_putI fl_4_26 rfl (by decide +kernel)) .nil))))))))))))
theorem B_X4_remember_33 : Blk m_X4_remember 33 [o_putI 4 1, o_ald 0, o_ald 0, o_getI 4 0, o_pure (g_push (.int 1)), o_pure (g_ii (fun x y => x + y)), o_pure (g_push (.int 10)), o_pure (g_m2 (fun x y => if y < x then y else x)), o_putI 4 0] 51 := .cons (ok_putI fl_4_18 rfl (by decide +kernel)) (.cons (ok_aload_n (k := 0) rfl (by decide +kernel)) (.cons (ok_aload_n (k := 0) rfl (by decide +kernel)) (.cons (ok_getI fl_4_26 rfl (by decide +kernel)) (.cons (ok_iconst (n := 1) (by decide +kernel) (by decide)) (.cons (ok_iadd (by decide +kernel)) (.cons (ok_bipush (n := 10) (by decide +kernel) (by decide)) (.cons (ok_mmin ml_4_29 jw_mins jw_math jw_minc (by decide +kernel)) (.cons (ok_putI fl_4_26 rfl (by decide +kernel)) .nil))))))))
theorem B_X4_takeLast_0 : Blk m_X4_takeLast 0 [o_ald 0, o_ald 0, o_getI 4 1] 5 := .cons (ok_aload_n (k := 0) rfl (by decide +kernel)) (.cons (ok_aload_n (k := 0) rfl (by decide +kernel)) (.cons (ok_getI fl_4_18 rfl (by decide +kernel)) .nil))
theorem B_X4_takeLast_8 : Blk m_X4_takeLast 8 [o_pure (g_push (.int 9)), o_pure g_id] 19 := .cons (ok_bipush (n := 9) (by decide +kernel) (by decide)) (.cons (ok_goto (off := 9) (tgt := 19) (by decide +kernel) (by decide)) .nil)
theorem B_X4_takeLast_13 : Blk m_X4_takeLast 13 [o_ald 0, o_getI 4 1, o_pure (g_push (.int 1)), o_pure (g_ii (fun x y => x - y)), o_putI 4 1, o_ald 0, o_pure (g_dup), o_getI 4 0, o_pure (g_push (.int 1)), o_pure (g_ii (fun x y => x - y)), o_putI 4 0, o_ald 1, o_ald 0, o_getR 4 2, o_ald 0, o_getI 4 1, o_aald4] 42 := .cons (ok_aload_n (k := 0) rfl (by decide +kernel)) (.cons (ok_getI fl_4_18 rfl (by decide +kernel)) (.cons (ok_iconst (n := 1) (by decide +kernel) (by decide)) (.cons (ok_isub (by decide +kernel)) (.cons (ok_putI fl_4_18 rfl (by decide +kernel)) (.cons (ok_aload_n (k := 0) rfl (by decide +kernel)) (.cons (ok_dup (by decide +kernel)) (.cons (ok_getI fl_4_26 rfl (by decide +kernel)) (.cons (ok_iconst (n := 1) (by decide +kernel) (by decide)) (.cons (ok_isub (by decide +kernel)) (.cons (ok_putI fl_4_26 rfl (by decide +kernel)) (.cons (ok_aload_n (k := 1) rfl (by decide +kernel)) (.cons (ok_aload_n (k := 0) rfl (by decide +kernel)) (.cons (ok_getR fl_4_11 rfl (by decide +kernel)) (.cons (ok_aload_n (k := 0) rfl (by decide +kernel)) (.cons (ok_getI fl_4_18 rfl (by decide +kernel)) (.cons (ok_aald4 (by decide +kernel)) .nil))))))))))))))))
theorem B_X4_takeLast_19 : Blk m_X4_takeLast 19 [o_putI 4 1, o_ald 0, o_pure (g_dup), o_getI 4 0, o_pure (g_push (.int 1)), o_pure (g_ii (fun x y => x - y)), o_putI 4 0, o_ald 1, o_ald 0, o_getR 4 2, o_ald 0, o_getI 4 1, o_aald4] 42 := .cons (ok_putI fl_4_18 rfl (by decide +kernel)) (.cons (ok_aload_n (k := 0) rfl (by decide +kernel)) (.cons (ok_dup (by decide +kernel)) (.cons (ok_getI fl_4_26 rfl (by decide +kernel)) (.cons (ok_iconst (n := 1) (by decide +kernel) (by decide)) (.cons (ok_isub (by decide +kernel)) (.cons (ok_putI fl_4_26 rfl (by decide +kernel)) (.cons (ok_aload_n (k := 1) rfl (by decide +kernel)) (.cons (ok_aload_n (k := 0) rfl (by decide +kernel)) (.cons (ok_getR fl_4_11 rfl (by decide +kernel)) (.cons (ok_aload_n (k := 0) rfl (by decide +kernel)) (.cons (ok_getI fl_4_18 rfl (by decide +kernel)) (.cons (ok_aald4 (by decide +kernel)) .nil))))))))))))
theorem B_X4_forgetAll_0 : Blk m_X4_forgetAll 0 [o_ald 0, o_pure (g_push (.int 0)), o_putI 4 0] 5 := .cons (ok_aload_n (k := 0) rfl (by decide +kernel)) (.cons (ok_iconst (n := 0) (by decide +kernel) (by decide)) (.cons (ok_putI fl_4_26 rfl (by decide +kernel)) .nil))
theorem B_X5_init_0 : Blk m_X5_init 0 [o_ald 0, o_pure g_oi, o_ald 0, o_pure (g_push (.int 80))] 7 := .cons (ok_aload_n (k := 0) rfl (by decide +kernel)) (.cons (ok_oi ml_5_3 jw_oii jw_oic (by decide +kernel)) (.cons (ok_aload_n (k := 0) rfl (by decide +kernel)) (.cons (ok_bipush (n := 80) (by decide +kernel) (by decide)) .nil)))
theorem B_X5_add_0 : Blk m_X5_add 0 [o_ald 0, o_getI 5 0, o_pure (g_push (.int 80))] 6 := .cons (ok_aload_n (k := 0) rfl (by decide +kernel)) (.cons (ok_getI fl_5_15 rfl (by decide +kernel)) (.cons (ok_bipush (n := 80) (by decide +kernel) (by decide)) .nil))
theorem B_X5_add_9 : Blk m_X5_add 9 [o_ald 0, o_getR 5 1, o_ald 0, o_getI 5 0, o_ild 1, o_iast, o_ald 0, o_pure (g_dup), o_getI 5 0, o_pure (g_push (.int 1)), o_pure (g_ii (fun x y => x + y)), o_putI 5 0] 29 := .cons (ok_aload_n (k := 0) rfl (by decide +kernel)) (.cons (ok_getR fl_5_9 rfl (by decide +kernel)) (.cons (ok_aload_n (k := 0) rfl (by decide +kernel)) (.cons (ok_getI fl_5_15 rfl (by decide +kernel)) (.cons (ok_iload_n (k := 1) rfl (by decide +kernel)) (.cons (ok_iastore (by decide +kernel)) (.cons (ok_aload_n (k := 0) rfl (by decide +kernel)) (.cons (ok_dup (by decide +kernel)) (.cons (ok_getI fl_5_15 rfl (by decide +kernel)) (.cons (ok_iconst (n := 1) (by decide +kernel) (by decide)) (.cons (ok_iadd (by decide +kernel)) (.cons (ok_putI fl_5_15 rfl (by decide +kernel)) .nil)))))))))))
theorem B_X5_empty_0 : Blk m_X5_empty 0 [o_ald 0, o_pure (g_push (.int 0)), o_putI 5 0] 5 := .cons (ok_aload_n (k := 0) rfl (by decide +kernel)) (.cons (ok_iconst (n := 0) (by decide +kernel) (by decide)) (.cons (ok_putI fl_5_15 rfl (by decide +kernel)) .nil))
theorem B_X5_holdsAt_0 : Blk m_X5_holdsAt 0 [o_ild 1] 1 := .cons (ok_iload_n (k := 1) rfl (by decide +kernel)) .nil
theorem B_X5_holdsAt_4 : Blk m_X5_holdsAt 4 [o_ild 1, o_ald 0, o_getI 5 0] 9 := .cons (ok_iload_n (k := 1) rfl (by decide +kernel)) (.cons (ok_aload_n (k := 0) rfl (by decide +kernel)) (.cons (ok_getI fl_5_15 rfl (by decide +kernel)) .nil))
theorem B_X5_holdsAt_12 : Blk m_X5_holdsAt 12 [o_ald 0, o_getR 5 1, o_ild 1, o_iald, o_ild 2] 19 := .cons (ok_aload_n (k := 0) rfl (by decide +kernel)) (.cons (ok_getR fl_5_9 rfl (by decide +kernel)) (.cons (ok_iload_n (k := 1) rfl (by decide +kernel)) (.cons (ok_iaload (by decide +kernel)) (.cons (ok_iload_n (k := 2) rfl (by decide +kernel)) .nil))))
theorem B_X5_holdsAt_22 : Blk m_X5_holdsAt 22 [o_pure (g_push (.int 1)), o_pure g_id] 27 := .cons (ok_iconst (n := 1) (by decide +kernel) (by decide)) (.cons (ok_goto (off := 4) (tgt := 27) (by decide +kernel) (by decide)) .nil)
theorem B_X5_holdsAt_26 : Blk m_X5_holdsAt 26 [o_pure (g_push (.int 0))] 27 := .cons (ok_iconst (n := 0) (by decide +kernel) (by decide)) .nil
theorem B_X5_digitAt_0 : Blk m_X5_digitAt 0 [o_ild 1] 1 := .cons (ok_iload_n (k := 1) rfl (by decide +kernel)) .nil
theorem B_X5_digitAt_4 : Blk m_X5_digitAt 4 [o_ild 1, o_ald 0, o_getI 5 0] 9 := .cons (ok_iload_n (k := 1) rfl (by decide +kernel)) (.cons (ok_aload_n (k := 0) rfl (by decide +kernel)) (.cons (ok_getI fl_5_15 rfl (by decide +kernel)) .nil))
theorem B_X5_digitAt_12 : Blk m_X5_digitAt 12 [o_ald 0, o_getR 5 1, o_ild 1, o_iald, o_pure (g_push (.int 48))] 20 := .cons (ok_aload_n (k := 0) rfl (by decide +kernel)) (.cons (ok_getR fl_5_9 rfl (by decide +kernel)) (.cons (ok_iload_n (k := 1) rfl (by decide +kernel)) (.cons (ok_iaload (by decide +kernel)) (.cons (ok_bipush (n := 48) (by decide +kernel) (by decide)) .nil))))
theorem B_X5_digitAt_23 : Blk m_X5_digitAt 23 [o_ald 0, o_getR 5 1, o_ild 1, o_iald, o_pure (g_push (.int 57))] 31 := .cons (ok_aload_n (k := 0) rfl (by decide +kernel)) (.cons (ok_getR fl_5_9 rfl (by decide +kernel)) (.cons (ok_iload_n (k := 1) rfl (by decide +kernel)) (.cons (ok_iaload (by decide +kernel)) (.cons (ok_bipush (n := 57) (by decide +kernel) (by decide)) .nil))))
theorem B_X5_digitAt_34 : Blk m_X5_digitAt 34 [o_pure (g_push (.int (-1)))] 35 := .cons (ok_iconst (n := (-1)) (by decide +kernel) (by decide)) .nil
theorem B_X5_digitAt_36 : Blk m_X5_digitAt 36 [o_ald 0, o_getR 5 1, o_ild 1, o_iald, o_pure (g_push (.int 48)), o_pure (g_ii (fun x y => x - y))] 45 := .cons (ok_aload_n (k := 0) rfl (by decide +kernel)) (.cons (ok_getR fl_5_9 rfl (by decide +kernel)) (.cons (ok_iload_n (k := 1) rfl (by decide +kernel)) (.cons (ok_iaload (by decide +kernel)) (.cons (ok_bipush (n := 48) (by decide +kernel) (by decide)) (.cons (ok_isub (by decide +kernel)) .nil)))))
theorem B_X5_isLabelSequence_0 : Blk m_X5_isLabelSequence 0 [o_ald 0, o_getI 5 0, o_pure (g_push (.int 1))] 5 := .cons (ok_aload_n (k := 0) rfl (by decide +kernel)) (.cons (ok_getI fl_5_15 rfl (by decide +kernel)) (.cons (ok_iconst (n := 1) (by decide +kernel) (by decide)) .nil))
theorem B_X5_isLabelSequence_8 : Blk m_X5_isLabelSequence 8 [o_ald 0, o_getI 5 0, o_pure (g_push (.int 13))] 14 := .cons (ok_aload_n (k := 0) rfl (by decide +kernel)) (.cons (ok_getI fl_5_15 rfl (by decide +kernel)) (.cons (ok_bipush (n := 13) (by decide +kernel) (by decide)) .nil))
theorem B_X5_isLabelSequence_17 : Blk m_X5_isLabelSequence 17 [o_pure (g_push (.int 0))] 18 := .cons (ok_iconst (n := 0) (by decide +kernel) (by decide)) .nil
theorem B_X5_isLabelSequence_19 : Blk m_X5_isLabelSequence 19 [o_pure (g_push (.int 0)), o_ist 1] 21 := .cons (ok_iconst (n := 0) (by decide +kernel) (by decide)) (.cons (ok_istore_n (k := 1) rfl (by decide +kernel)) .nil)
theorem B_X5_isLabelSequence_21 : Blk m_X5_isLabelSequence 21 [o_ild 1, o_ald 0, o_getI 5 0] 26 := .cons (ok_iload_n (k := 1) rfl (by decide +kernel)) (.cons (ok_aload_n (k := 0) rfl (by decide +kernel)) (.cons (ok_getI fl_5_15 rfl (by decide +kernel)) .nil))
theorem B_X5_isLabelSequence_29 : Blk m_X5_isLabelSequence 29 [o_ald 0, o_ild 1] 31 := .cons (ok_aload_n (k := 0) rfl (by decide +kernel)) (.cons (ok_iload_n (k := 1) rfl (by decide +kernel)) .nil)
theorem B_X5_isLabelSequence_34 : Blk m_X5_isLabelSequence 34 [o_ist 2, o_ild 2] 36 := .cons (ok_istore_n (k := 2) rfl (by decide +kernel)) (.cons (ok_iload_n (k := 2) rfl (by decide +kernel)) .nil)
theorem B_X5_isLabelSequence_39 : Blk m_X5_isLabelSequence 39 [o_ild 2, o_pure (g_push (.int 3))] 41 := .cons (ok_iload_n (k := 2) rfl (by decide +kernel)) (.cons (ok_iconst (n := 3) (by decide +kernel) (by decide)) .nil)
theorem B_X5_isLabelSequence_44 : Blk m_X5_isLabelSequence 44 [o_pure (g_push (.int 0))] 45 := .cons (ok_iconst (n := 0) (by decide +kernel) (by decide)) .nil
theorem B_X5_isLabelSequence_46 : Blk m_X5_isLabelSequence 46 [o_iinc 1 1, o_pure g_id] 21 := .cons (ok_iinc (z := 1) (by decide +kernel) (by decide)) (.cons (ok_goto (off := (-28)) (tgt := 21) (by decide +kernel) (by decide)) .nil)
theorem B_X5_isLabelSequence_52 : Blk m_X5_isLabelSequence 52 [o_pure (g_push (.int 1))] 53 := .cons (ok_iconst (n := 1) (by decide +kernel) (by decide)) .nil
theorem B_X6_init_0 : Blk m_X6_init 0 [o_ald 0, o_pure g_oi, o_ald 0, o_pure (g_push (.int 6))] 7 := .cons (ok_aload_n (k := 0) rfl (by decide +kernel)) (.cons (ok_oi ml_6_3 jw_oii jw_oic (by decide +kernel)) (.cons (ok_aload_n (k := 0) rfl (by decide +kernel)) (.cons (ok_bipush (n := 6) (by decide +kernel) (by decide)) .nil)))
theorem B_X6_init_12 : Blk m_X6_init 12 [o_ald 0, o_pure (g_push (.int 6))] 15 := .cons (ok_aload_n (k := 0) rfl (by decide +kernel)) (.cons (ok_bipush (n := 6) (by decide +kernel) (by decide)) .nil)
theorem B_X6_refineFully_0 : Blk m_X6_refineFully 0 [o_pure (g_push (.int 0)), o_ist 2] 2 := .cons (ok_iconst (n := 0) (by decide +kernel) (by decide)) (.cons (ok_istore_n (k := 2) rfl (by decide +kernel)) .nil)
theorem B_X6_refineFully_2 : Blk m_X6_refineFully 2 [o_ild 2, o_pure (g_push (.int 6))] 5 := .cons (ok_iload_n (k := 2) rfl (by decide +kernel)) (.cons (ok_bipush (n := 6) (by decide +kernel) (by decide)) .nil)
theorem B_X6_refineFully_8 : Blk m_X6_refineFully 8 [o_ald 0, o_getR 6 1, o_ild 2, o_pure (g_push (.int 0)), o_iast, o_iinc 2 1, o_pure g_id] 2 := .cons (ok_aload_n (k := 0) rfl (by decide +kernel)) (.cons (ok_getR fl_6_9 rfl (by decide +kernel)) (.cons (ok_iload_n (k := 2) rfl (by decide +kernel)) (.cons (ok_iconst (n := 0) (by decide +kernel) (by decide)) (.cons (ok_iastore (by decide +kernel)) (.cons (ok_iinc (z := 1) (by decide +kernel) (by decide)) (.cons (ok_goto (off := (-16)) (tgt := 2) (by decide +kernel) (by decide)) .nil))))))
theorem B_X6_refineFully_21 : Blk m_X6_refineFully 21 [o_ald 0, o_pure (g_push (.int 1)), o_putI 6 0, o_pure (g_push (.int 0)), o_ist 2] 28 := .cons (ok_aload_n (k := 0) rfl (by decide +kernel)) (.cons (ok_iconst (n := 1) (by decide +kernel) (by decide)) (.cons (ok_putI fl_6_18 rfl (by decide +kernel)) (.cons (ok_iconst (n := 0) (by decide +kernel) (by decide)) (.cons (ok_istore_n (k := 2) rfl (by decide +kernel)) .nil))))
theorem B_X6_refineFully_28 : Blk m_X6_refineFully 28 [o_ild 2, o_ald 1, o_getI 1 0] 33 := .cons (ok_iload_n (k := 2) rfl (by decide +kernel)) (.cons (ok_aload_n (k := 1) rfl (by decide +kernel)) (.cons (ok_getI fl_6_22 rfl (by decide +kernel)) .nil))
theorem B_X6_refineFully_36 : Blk m_X6_refineFully 36 [o_ald 0, o_ald 1] 38 := .cons (ok_aload_n (k := 0) rfl (by decide +kernel)) (.cons (ok_aload_n (k := 1) rfl (by decide +kernel)) .nil)
theorem B_X6_refineFully_41 : Blk m_X6_refineFully 41 [o_iinc 2 1, o_pure g_id] 28 := .cons (ok_iinc (z := 1) (by decide +kernel) (by decide)) (.cons (ok_goto (off := (-16)) (tgt := 28) (by decide +kernel) (by decide)) .nil)
theorem B_X6_refineOnce_0 : Blk m_X6_refineOnce 0 [o_pure (g_push (.int 0)), o_ist 2, o_pure (g_push (.int 0)), o_ist 3] 4 := .cons (ok_iconst (n := 0) (by decide +kernel) (by decide)) (.cons (ok_istore_n (k := 2) rfl (by decide +kernel)) (.cons (ok_iconst (n := 0) (by decide +kernel) (by decide)) (.cons (ok_istore_n (k := 3) rfl (by decide +kernel)) .nil)))
theorem B_X6_refineOnce_4 : Blk m_X6_refineOnce 4 [o_ild 3, o_ald 1, o_getI 1 0] 9 := .cons (ok_iload_n (k := 3) rfl (by decide +kernel)) (.cons (ok_aload_n (k := 1) rfl (by decide +kernel)) (.cons (ok_getI fl_6_22 rfl (by decide +kernel)) .nil))
theorem B_X6_refineOnce_12 : Blk m_X6_refineOnce 12 [o_pure (g_push (.int 0)), o_ist 4] 15 := .cons (ok_iconst (n := 0) (by decide +kernel) (by decide)) (.cons (ok_istore (by decide +kernel)) .nil)
theorem B_X6_refineOnce_15 : Blk m_X6_refineOnce 15 [o_ild 4, o_ild 3] 18 := .cons (ok_iload (by decide +kernel)) (.cons (ok_iload_n (k := 3) rfl (by decide +kernel)) .nil)
theorem B_X6_refineOnce_21 : Blk m_X6_refineOnce 21 [o_ald 0, o_ald 1, o_ild 4, o_ild 3] 26 := .cons (ok_aload_n (k := 0) rfl (by decide +kernel)) (.cons (ok_aload_n (k := 1) rfl (by decide +kernel)) (.cons (ok_iload (by decide +kernel)) (.cons (ok_iload_n (k := 3) rfl (by decide +kernel)) .nil)))
theorem B_X6_refineOnce_32 : Blk m_X6_refineOnce 32 [o_iinc 4 1, o_pure g_id] 15 := .cons (ok_iinc (z := 1) (by decide +kernel) (by decide)) (.cons (ok_goto (off := (-20)) (tgt := 15) (by decide +kernel) (by decide)) .nil)
theorem B_X6_refineOnce_38 : Blk m_X6_refineOnce 38 [o_ild 4, o_ild 3] 41 := .cons (ok_iload (by decide +kernel)) (.cons (ok_iload_n (k := 3) rfl (by decide +kernel)) .nil)
theorem B_X6_refineOnce_44 : Blk m_X6_refineOnce 44 [o_ald 0, o_getR 6 2, o_ild 3, o_ald 0, o_getR 6 2, o_ild 4, o_iald, o_iast, o_pure g_id] 70 := .cons (ok_aload_n (k := 0) rfl (by decide +kernel)) (.cons (ok_getR fl_6_15 rfl (by decide +kernel)) (.cons (ok_iload_n (k := 3) rfl (by decide +kernel)) (.cons (ok_aload_n (k := 0) rfl (by decide +kernel)) (.cons (ok_getR fl_6_15 rfl (by decide +kernel)) (.cons (ok_iload (by decide +kernel)) (.cons (ok_iaload (by decide +kernel)) (.cons (ok_iastore (by decide +kernel)) (.cons (ok_goto (off := 13) (tgt := 70) (by decide +kernel) (by decide)) .nil))))))))
theorem B_X6_refineOnce_60 : Blk m_X6_refineOnce 60 [o_ald 0, o_getR 6 2, o_ild 3, o_ild 2, o_iast, o_iinc 2 1, o_iinc 3 1, o_pure g_id] 4 := .cons (ok_aload_n (k := 0) rfl (by decide +kernel)) (.cons (ok_getR fl_6_15 rfl (by decide +kernel)) (.cons (ok_iload_n (k := 3) rfl (by decide +kernel)) (.cons (ok_iload_n (k := 2) rfl (by decide +kernel)) (.cons (ok_iastore (by decide +kernel)) (.cons (ok_iinc (z := 1) (by decide +kernel) (by decide)) (.cons (ok_iinc (z := 1) (by decide +kernel) (by decide)) (.cons (ok_goto (off := (-69)) (tgt := 4) (by decide +kernel) (by decide)) .nil)))))))
theorem B_X6_refineOnce_70 : Blk m_X6_refineOnce 70 [o_iinc 3 1, o_pure g_id] 4 := .cons (ok_iinc (z := 1) (by decide +kernel) (by decide)) (.cons (ok_goto (off := (-69)) (tgt := 4) (by decide +kernel) (by decide)) .nil)
theorem B_X6_refineOnce_76 : Blk m_X6_refineOnce 76 [o_ald 0, o_getR 6 2, o_pure (g_push (.int 0)), o_ald 0, o_getR 6 1, o_pure (g_push (.int 0)), o_pure (g_push (.int 6)), o_cpI, o_ald 0, o_ild 2, o_putI 6 0] 96 := .cons (ok_aload_n (k := 0) rfl (by decide +kernel)) (.cons (ok_getR fl_6_15 rfl (by decide +kernel)) (.cons (ok_iconst (n := 0) (by decide +kernel) (by decide)) (.cons (ok_aload_n (k := 0) rfl (by decide +kernel)) (.cons (ok_getR fl_6_9 rfl (by decide +kernel)) (.cons (ok_iconst (n := 0) (by decide +kernel) (by decide)) (.cons (ok_bipush (n := 6) (by decide +kernel) (by decide)) (.cons (ok_cpI ml_6_35 jw_acn jw_acs jw_sys (by decide +kernel)) (.cons (ok_aload_n (k := 0) rfl (by decide +kernel)) (.cons (ok_iload_n (k := 2) rfl (by decide +kernel)) (.cons (ok_putI fl_6_18 rfl (by decide +kernel)) .nil))))))))))
theorem B_X6_agree_0 : Blk m_X6_agree 0 [o_ald 0, o_getR 6 1, o_ild 2, o_iald, o_ald 0, o_getR 6 1, o_ild 3, o_iald] 12 := .cons (ok_aload_n (k := 0) rfl (by decide +kernel)) (.cons (ok_getR fl_6_9 rfl (by decide +kernel)) (.cons (ok_iload_n (k := 2) rfl (by decide +kernel)) (.cons (ok_iaload (by decide +kernel)) (.cons (ok_aload_n (k := 0) rfl (by decide +kernel)) (.cons (ok_getR fl_6_9 rfl (by decide +kernel)) (.cons (ok_iload_n (k := 3) rfl (by decide +kernel)) (.cons (ok_iaload (by decide +kernel)) .nil)))))))
theorem B_X6_agree_15 : Blk m_X6_agree 15 [o_ald 1, o_getR 1 4, o_ild 2, o_iald, o_ald 1, o_getR 1 4, o_ild 3, o_iald] 27 := .cons (ok_aload_n (k := 1) rfl (by decide +kernel)) (.cons (ok_getR fl_6_41 rfl (by decide +kernel)) (.cons (ok_iload_n (k := 2) rfl (by decide +kernel)) (.cons (ok_iaload (by decide +kernel)) (.cons (ok_aload_n (k := 1) rfl (by decide +kernel)) (.cons (ok_getR fl_6_41 rfl (by decide +kernel)) (.cons (ok_iload_n (k := 3) rfl (by decide +kernel)) (.cons (ok_iaload (by decide +kernel)) .nil)))))))
theorem B_X6_agree_30 : Blk m_X6_agree 30 [o_pure (g_push (.int 0))] 31 := .cons (ok_iconst (n := 0) (by decide +kernel) (by decide)) .nil
theorem B_X6_agree_32 : Blk m_X6_agree 32 [o_pure (g_push (.int 0)), o_ist 4] 35 := .cons (ok_iconst (n := 0) (by decide +kernel) (by decide)) (.cons (ok_istore (by decide +kernel)) .nil)
theorem B_X6_agree_35 : Blk m_X6_agree 35 [o_ild 4, o_ald 0, o_getI 6 0] 41 := .cons (ok_iload (by decide +kernel)) (.cons (ok_aload_n (k := 0) rfl (by decide +kernel)) (.cons (ok_getI fl_6_18 rfl (by decide +kernel)) .nil))
theorem B_X6_agree_44 : Blk m_X6_agree 44 [o_ald 0, o_ald 1, o_ild 2, o_ild 4] 49 := .cons (ok_aload_n (k := 0) rfl (by decide +kernel)) (.cons (ok_aload_n (k := 1) rfl (by decide +kernel)) (.cons (ok_iload_n (k := 2) rfl (by decide +kernel)) (.cons (ok_iload (by decide +kernel)) .nil)))
theorem B_X6_agree_52 : Blk m_X6_agree 52 [o_ald 0, o_ald 1, o_ild 3, o_ild 4] 57 := .cons (ok_aload_n (k := 0) rfl (by decide +kernel)) (.cons (ok_aload_n (k := 1) rfl (by decide +kernel)) (.cons (ok_iload_n (k := 3) rfl (by decide +kernel)) (.cons (ok_iload (by decide +kernel)) .nil)))
theorem B_X6_agree_63 : Blk m_X6_agree 63 [o_pure (g_push (.int 0))] 64 := .cons (ok_iconst (n := 0) (by decide +kernel) (by decide)) .nil
theorem B_X6_agree_65 : Blk m_X6_agree 65 [o_iinc 4 1, o_pure g_id] 35 := .cons (ok_iinc (z := 1) (by decide +kernel) (by decide)) (.cons (ok_goto (off := (-33)) (tgt := 35) (by decide +kernel) (by decide)) .nil)
theorem B_X6_agree_71 : Blk m_X6_agree 71 [o_pure (g_push (.int 1))] 72 := .cons (ok_iconst (n := 1) (by decide +kernel) (by decide)) .nil
theorem B_X6_weightToClass_0 : Blk m_X6_weightToClass 0 [o_pure (g_push (.int 0)), o_ist 4, o_pure (g_push (.int 0)), o_ist 5] 6 := .cons (ok_iconst (n := 0) (by decide +kernel) (by decide)) (.cons (ok_istore (by decide +kernel)) (.cons (ok_iconst (n := 0) (by decide +kernel) (by decide)) (.cons (ok_istore (by decide +kernel)) .nil)))
theorem B_X6_weightToClass_6 : Blk m_X6_weightToClass 6 [o_ild 5, o_ald 1, o_getI 1 0] 12 := .cons (ok_iload (by decide +kernel)) (.cons (ok_aload_n (k := 1) rfl (by decide +kernel)) (.cons (ok_getI fl_6_22 rfl (by decide +kernel)) .nil))
theorem B_X6_weightToClass_15 : Blk m_X6_weightToClass 15 [o_ald 0, o_getR 6 1, o_ild 5, o_iald, o_ild 3] 23 := .cons (ok_aload_n (k := 0) rfl (by decide +kernel)) (.cons (ok_getR fl_6_9 rfl (by decide +kernel)) (.cons (ok_iload (by decide +kernel)) (.cons (ok_iaload (by decide +kernel)) (.cons (ok_iload_n (k := 3) rfl (by decide +kernel)) .nil))))
theorem B_X6_weightToClass_26 : Blk m_X6_weightToClass 26 [o_ild 4, o_ald 1, o_getR 1 5, o_ild 2, o_pure (g_push (.int 6)), o_pure (g_ii (fun x y => x * y)), o_ild 5, o_pure (g_ii (fun x y => x + y)), o_iald, o_pure (g_ii (fun x y => x + y)), o_ist 4, o_iinc 5 1, o_pure g_id] 6 := .cons (ok_iload (by decide +kernel)) (.cons (ok_aload_n (k := 1) rfl (by decide +kernel)) (.cons (ok_getR fl_6_48 rfl (by decide +kernel)) (.cons (ok_iload_n (k := 2) rfl (by decide +kernel)) (.cons (ok_bipush (n := 6) (by decide +kernel) (by decide)) (.cons (ok_imul (by decide +kernel)) (.cons (ok_iload (by decide +kernel)) (.cons (ok_iadd (by decide +kernel)) (.cons (ok_iaload (by decide +kernel)) (.cons (ok_iadd (by decide +kernel)) (.cons (ok_istore (by decide +kernel)) (.cons (ok_iinc (z := 1) (by decide +kernel) (by decide)) (.cons (ok_goto (off := (-40)) (tgt := 6) (by decide +kernel) (by decide)) .nil))))))))))))
theorem B_X6_weightToClass_43 : Blk m_X6_weightToClass 43 [o_iinc 5 1, o_pure g_id] 6 := .cons (ok_iinc (z := 1) (by decide +kernel) (by decide)) (.cons (ok_goto (off := (-40)) (tgt := 6) (by decide +kernel) (by decide)) .nil)
theorem B_X6_weightToClass_49 : Blk m_X6_weightToClass 49 [o_ild 4] 51 := .cons (ok_iload (by decide +kernel)) .nil
theorem B_X6_writeQuotient_0 : Blk m_X6_writeQuotient 0 [o_ald 2, o_ald 1] 2 := .cons (ok_aload_n (k := 2) rfl (by decide +kernel)) (.cons (ok_aload_n (k := 1) rfl (by decide +kernel)) .nil)
theorem B_X6_writeQuotient_5 : Blk m_X6_writeQuotient 5 [o_ald 2, o_ald 0, o_getI 6 0, o_ald 1, o_getI 1 1] 14 := .cons (ok_aload_n (k := 2) rfl (by decide +kernel)) (.cons (ok_aload_n (k := 0) rfl (by decide +kernel)) (.cons (ok_getI fl_6_18 rfl (by decide +kernel)) (.cons (ok_aload_n (k := 1) rfl (by decide +kernel)) (.cons (ok_getI fl_6_54 rfl (by decide +kernel)) .nil))))
theorem B_X6_writeQuotient_17 : Blk m_X6_writeQuotient 17 [o_pure (g_push (.int 0)), o_ist 3] 19 := .cons (ok_iconst (n := 0) (by decide +kernel) (by decide)) (.cons (ok_istore_n (k := 3) rfl (by decide +kernel)) .nil)
theorem B_X6_writeQuotient_19 : Blk m_X6_writeQuotient 19 [o_ild 3, o_ald 1, o_getI 1 0] 24 := .cons (ok_iload_n (k := 3) rfl (by decide +kernel)) (.cons (ok_aload_n (k := 1) rfl (by decide +kernel)) (.cons (ok_getI fl_6_22 rfl (by decide +kernel)) .nil))
theorem B_X6_writeQuotient_27 : Blk m_X6_writeQuotient 27 [o_ald 0, o_getR 6 1, o_ild 3, o_iald, o_ist 4, o_ald 2, o_getR 1 4, o_ild 4, o_ald 1, o_getR 1 4, o_ild 3, o_iald, o_iast, o_pure (g_push (.int 0)), o_ist 5] 51 := .cons (ok_aload_n (k := 0) rfl (by decide +kernel)) (.cons (ok_getR fl_6_9 rfl (by decide +kernel)) (.cons (ok_iload_n (k := 3) rfl (by decide +kernel)) (.cons (ok_iaload (by decide +kernel)) (.cons (ok_istore (by decide +kernel)) (.cons (ok_aload_n (k := 2) rfl (by decide +kernel)) (.cons (ok_getR fl_6_41 rfl (by decide +kernel)) (.cons (ok_iload (by decide +kernel)) (.cons (ok_aload_n (k := 1) rfl (by decide +kernel)) (.cons (ok_getR fl_6_41 rfl (by decide +kernel)) (.cons (ok_iload_n (k := 3) rfl (by decide +kernel)) (.cons (ok_iaload (by decide +kernel)) (.cons (ok_iastore (by decide +kernel)) (.cons (ok_iconst (n := 0) (by decide +kernel) (by decide)) (.cons (ok_istore (by decide +kernel)) .nil))))))))))))))
theorem B_X6_writeQuotient_51 : Blk m_X6_writeQuotient 51 [o_ild 5, o_ald 0, o_getI 6 0] 57 := .cons (ok_iload (by decide +kernel)) (.cons (ok_aload_n (k := 0) rfl (by decide +kernel)) (.cons (ok_getI fl_6_18 rfl (by decide +kernel)) .nil))
theorem B_X6_writeQuotient_60 : Blk m_X6_writeQuotient 60 [o_ald 2, o_getR 1 5, o_ild 4, o_pure (g_push (.int 6)), o_pure (g_ii (fun x y => x * y)), o_ild 5, o_pure (g_ii (fun x y => x + y)), o_ald 0, o_ald 1, o_ild 3, o_ild 5] 77 := .cons (ok_aload_n (k := 2) rfl (by decide +kernel)) (.cons (ok_getR fl_6_48 rfl (by decide +kernel)) (.cons (ok_iload (by decide +kernel)) (.cons (ok_bipush (n := 6) (by decide +kernel) (by decide)) (.cons (ok_imul (by decide +kernel)) (.cons (ok_iload (by decide +kernel)) (.cons (ok_iadd (by decide +kernel)) (.cons (ok_aload_n (k := 0) rfl (by decide +kernel)) (.cons (ok_aload_n (k := 1) rfl (by decide +kernel)) (.cons (ok_iload_n (k := 3) rfl (by decide +kernel)) (.cons (ok_iload (by decide +kernel)) .nil))))))))))
theorem B_X6_writeQuotient_80 : Blk m_X6_writeQuotient 80 [o_iast, o_iinc 5 1, o_pure g_id] 51 := .cons (ok_iastore (by decide +kernel)) (.cons (ok_iinc (z := 1) (by decide +kernel) (by decide)) (.cons (ok_goto (off := (-33)) (tgt := 51) (by decide +kernel) (by decide)) .nil))
theorem B_X6_writeQuotient_87 : Blk m_X6_writeQuotient 87 [o_iinc 3 1, o_pure g_id] 19 := .cons (ok_iinc (z := 1) (by decide +kernel) (by decide)) (.cons (ok_goto (off := (-71)) (tgt := 19) (by decide +kernel) (by decide)) .nil)
theorem B_X7_init_0 : Blk m_X7_init 0 [o_ald 0, o_pure g_oi, o_ald 0, o_pure (g_push (.int 6))] 7 := .cons (ok_aload_n (k := 0) rfl (by decide +kernel)) (.cons (ok_oi ml_7_3 jw_oii jw_oic (by decide +kernel)) (.cons (ok_aload_n (k := 0) rfl (by decide +kernel)) (.cons (ok_bipush (n := 6) (by decide +kernel) (by decide)) .nil)))
theorem B_X7_init_12 : Blk m_X7_init 12 [o_ald 0, o_pure (g_push (.int 6))] 15 := .cons (ok_aload_n (k := 0) rfl (by decide +kernel)) (.cons (ok_bipush (n := 6) (by decide +kernel) (by decide)) .nil)
theorem B_X7_countReaching_0 : Blk m_X7_countReaching 0 [o_ald 0, o_ald 1, o_ild 3] 3 := .cons (ok_aload_n (k := 0) rfl (by decide +kernel)) (.cons (ok_aload_n (k := 1) rfl (by decide +kernel)) (.cons (ok_iload_n (k := 3) rfl (by decide +kernel)) .nil))
theorem B_X7_countReaching_6 : Blk m_X7_countReaching 6 [o_pure (g_push (.int 0)), o_ist 5] 9 := .cons (ok_iconst (n := 0) (by decide +kernel) (by decide)) (.cons (ok_istore (by decide +kernel)) .nil)
theorem B_X7_countReaching_9 : Blk m_X7_countReaching 9 [o_ild 5, o_ild 4] 13 := .cons (ok_iload (by decide +kernel)) (.cons (ok_iload (by decide +kernel)) .nil)
theorem B_X7_countReaching_16 : Blk m_X7_countReaching 16 [o_ald 0, o_ald 1] 18 := .cons (ok_aload_n (k := 0) rfl (by decide +kernel)) (.cons (ok_aload_n (k := 1) rfl (by decide +kernel)) .nil)
theorem B_X7_countReaching_21 : Blk m_X7_countReaching 21 [o_ald 0, o_getR 7 1, o_pure (g_push (.int 0)), o_ald 0, o_getR 7 0, o_pure (g_push (.int 0)), o_pure (g_push (.int 6)), o_cpJ, o_iinc 5 1, o_pure g_id] 9 := .cons (ok_aload_n (k := 0) rfl (by decide +kernel)) (.cons (ok_getR fl_7_15 rfl (by decide +kernel)) (.cons (ok_iconst (n := 0) (by decide +kernel) (by decide)) (.cons (ok_aload_n (k := 0) rfl (by decide +kernel)) (.cons (ok_getR fl_7_9 rfl (by decide +kernel)) (.cons (ok_iconst (n := 0) (by decide +kernel) (by decide)) (.cons (ok_bipush (n := 6) (by decide +kernel) (by decide)) (.cons (ok_cpJ ml_7_26 jw_acn jw_acs jw_sys (by decide +kernel)) (.cons (ok_iinc (z := 1) (by decide +kernel) (by decide)) (.cons (ok_goto (off := (-30)) (tgt := 9) (by decide +kernel) (by decide)) .nil)))))))))
theorem B_X7_countReaching_42 : Blk m_X7_countReaching 42 [o_ald 0, o_getR 7 0, o_ild 2, o_lald] 48 := .cons (ok_aload_n (k := 0) rfl (by decide +kernel)) (.cons (ok_getR fl_7_9 rfl (by decide +kernel)) (.cons (ok_iload_n (k := 2) rfl (by decide +kernel)) (.cons (ok_laload (by decide +kernel)) .nil)))
theorem B_X7_countFirstReaching_0 : Blk m_X7_countFirstReaching 0 [o_ald 0, o_ald 1, o_ild 3] 3 := .cons (ok_aload_n (k := 0) rfl (by decide +kernel)) (.cons (ok_aload_n (k := 1) rfl (by decide +kernel)) (.cons (ok_iload_n (k := 3) rfl (by decide +kernel)) .nil))
theorem B_X7_countFirstReaching_6 : Blk m_X7_countFirstReaching 6 [o_pure (g_push (.long 1)), o_lst 5, o_pure (g_push (.int 0)), o_ist 7] 12 := .cons (ok_lconst (n := 1) (by decide +kernel) (by decide)) (.cons (ok_lstore (by decide +kernel)) (.cons (ok_iconst (n := 0) (by decide +kernel) (by decide)) (.cons (ok_istore (by decide +kernel)) .nil)))
theorem B_X7_countFirstReaching_12 : Blk m_X7_countFirstReaching 12 [o_ild 7, o_ild 4] 16 := .cons (ok_iload (by decide +kernel)) (.cons (ok_iload (by decide +kernel)) .nil)
theorem B_X7_countFirstReaching_19 : Blk m_X7_countFirstReaching 19 [o_ald 0, o_ald 1] 21 := .cons (ok_aload_n (k := 0) rfl (by decide +kernel)) (.cons (ok_aload_n (k := 1) rfl (by decide +kernel)) .nil)
theorem B_X7_countFirstReaching_24 : Blk m_X7_countFirstReaching 24 [o_lld 5, o_ald 1, o_getI 1 1, o_pure (g_il (fun x => x.toInt64)), o_pure (g_ll (fun x y => x * y)), o_lst 5, o_pure (g_push (.int 0)), o_ist 8] 37 := .cons (ok_lload (by decide +kernel)) (.cons (ok_aload_n (k := 1) rfl (by decide +kernel)) (.cons (ok_getI fl_7_32 rfl (by decide +kernel)) (.cons (ok_i2l (by decide +kernel)) (.cons (ok_lmul (by decide +kernel)) (.cons (ok_lstore (by decide +kernel)) (.cons (ok_iconst (n := 0) (by decide +kernel) (by decide)) (.cons (ok_istore (by decide +kernel)) .nil)))))))
theorem B_X7_countFirstReaching_37 : Blk m_X7_countFirstReaching 37 [o_ild 8, o_ald 1, o_getI 1 0] 43 := .cons (ok_iload (by decide +kernel)) (.cons (ok_aload_n (k := 1) rfl (by decide +kernel)) (.cons (ok_getI fl_7_38 rfl (by decide +kernel)) .nil))
theorem B_X7_countFirstReaching_46 : Blk m_X7_countFirstReaching 46 [o_ald 0, o_getR 7 0, o_ild 8, o_ald 1, o_ild 8, o_ild 3] 56 := .cons (ok_aload_n (k := 0) rfl (by decide +kernel)) (.cons (ok_getR fl_7_9 rfl (by decide +kernel)) (.cons (ok_iload (by decide +kernel)) (.cons (ok_aload_n (k := 1) rfl (by decide +kernel)) (.cons (ok_iload (by decide +kernel)) (.cons (ok_iload_n (k := 3) rfl (by decide +kernel)) .nil)))))
theorem B_X7_countFirstReaching_62 : Blk m_X7_countFirstReaching 62 [o_lld 5, o_pure g_id] 74 := .cons (ok_lload (by decide +kernel)) (.cons (ok_goto (off := 10) (tgt := 74) (by decide +kernel) (by decide)) .nil)
theorem B_X7_countFirstReaching_67 : Blk m_X7_countFirstReaching 67 [o_ald 0, o_getR 7 1, o_ild 8, o_lald, o_last, o_iinc 8 1, o_pure g_id] 37 := .cons (ok_aload_n (k := 0) rfl (by decide +kernel)) (.cons (ok_getR fl_7_15 rfl (by decide +kernel)) (.cons (ok_iload (by decide +kernel)) (.cons (ok_laload (by decide +kernel)) (.cons (ok_lastore (by decide +kernel)) (.cons (ok_iinc (z := 1) (by decide +kernel) (by decide)) (.cons (ok_goto (off := (-41)) (tgt := 37) (by decide +kernel) (by decide)) .nil))))))
theorem B_X7_countFirstReaching_74 : Blk m_X7_countFirstReaching 74 [o_last, o_iinc 8 1, o_pure g_id] 37 := .cons (ok_lastore (by decide +kernel)) (.cons (ok_iinc (z := 1) (by decide +kernel) (by decide)) (.cons (ok_goto (off := (-41)) (tgt := 37) (by decide +kernel) (by decide)) .nil))
theorem B_X7_countFirstReaching_81 : Blk m_X7_countFirstReaching 81 [o_iinc 7 1, o_pure g_id] 12 := .cons (ok_iinc (z := 1) (by decide +kernel) (by decide)) (.cons (ok_goto (off := (-72)) (tgt := 12) (by decide +kernel) (by decide)) .nil)
theorem B_X7_countFirstReaching_87 : Blk m_X7_countFirstReaching 87 [o_ald 0, o_getR 7 0, o_ild 2, o_lald] 93 := .cons (ok_aload_n (k := 0) rfl (by decide +kernel)) (.cons (ok_getR fl_7_9 rfl (by decide +kernel)) (.cons (ok_iload_n (k := 2) rfl (by decide +kernel)) (.cons (ok_laload (by decide +kernel)) .nil)))
theorem B_X7_countSequence_0 : Blk m_X7_countSequence 0 [o_ald 3, o_getI 5 0, o_pure (g_push (.int 1)), o_pure (g_ii (fun x y => x - y)), o_ist 4, o_ald 0, o_ald 1, o_pure (g_push (.int 1)), o_ald 3, o_ild 4] 14 := .cons (ok_aload_n (k := 3) rfl (by decide +kernel)) (.cons (ok_getI fl_7_45 rfl (by decide +kernel)) (.cons (ok_iconst (n := 1) (by decide +kernel) (by decide)) (.cons (ok_isub (by decide +kernel)) (.cons (ok_istore (by decide +kernel)) (.cons (ok_aload_n (k := 0) rfl (by decide +kernel)) (.cons (ok_aload_n (k := 1) rfl (by decide +kernel)) (.cons (ok_iconst (n := 1) (by decide +kernel) (by decide)) (.cons (ok_aload_n (k := 3) rfl (by decide +kernel)) (.cons (ok_iload (by decide +kernel)) .nil)))))))))
theorem B_X7_countSequence_17 : Blk m_X7_countSequence 17 [o_pure (g_ii (fun x y => x <<< (y &&& 31)))] 18 := .cons (ok_ishl (by decide +kernel)) .nil
theorem B_X7_countSequence_21 : Blk m_X7_countSequence 21 [o_ild 4, o_pure (g_push (.int 1)), o_pure (g_ii (fun x y => x - y)), o_ist 5] 27 := .cons (ok_iload (by decide +kernel)) (.cons (ok_iconst (n := 1) (by decide +kernel) (by decide)) (.cons (ok_isub (by decide +kernel)) (.cons (ok_istore (by decide +kernel)) .nil)))
theorem B_X7_countSequence_27 : Blk m_X7_countSequence 27 [o_ild 5] 29 := .cons (ok_iload (by decide +kernel)) .nil
theorem B_X7_countSequence_32 : Blk m_X7_countSequence 32 [o_ald 0, o_ald 1] 34 := .cons (ok_aload_n (k := 0) rfl (by decide +kernel)) (.cons (ok_aload_n (k := 1) rfl (by decide +kernel)) .nil)
theorem B_X7_countSequence_37 : Blk m_X7_countSequence 37 [o_pure (g_push (.int 1)), o_ald 3, o_ild 5] 41 := .cons (ok_iconst (n := 1) (by decide +kernel) (by decide)) (.cons (ok_aload_n (k := 3) rfl (by decide +kernel)) (.cons (ok_iload (by decide +kernel)) .nil))
theorem B_X7_countSequence_44 : Blk m_X7_countSequence 44 [o_pure (g_ii (fun x y => x <<< (y &&& 31))), o_ist 6, o_pure (g_push (.int 0)), o_ist 7] 50 := .cons (ok_ishl (by decide +kernel)) (.cons (ok_istore (by decide +kernel)) (.cons (ok_iconst (n := 0) (by decide +kernel) (by decide)) (.cons (ok_istore (by decide +kernel)) .nil)))
theorem B_X7_countSequence_50 : Blk m_X7_countSequence 50 [o_ild 7, o_ald 1, o_getI 1 0] 56 := .cons (ok_iload (by decide +kernel)) (.cons (ok_aload_n (k := 1) rfl (by decide +kernel)) (.cons (ok_getI fl_7_38 rfl (by decide +kernel)) .nil))
theorem B_X7_countSequence_59 : Blk m_X7_countSequence 59 [o_ald 0, o_getR 7 0, o_ild 7, o_ald 1, o_ild 7, o_ild 6] 70 := .cons (ok_aload_n (k := 0) rfl (by decide +kernel)) (.cons (ok_getR fl_7_9 rfl (by decide +kernel)) (.cons (ok_iload (by decide +kernel)) (.cons (ok_aload_n (k := 1) rfl (by decide +kernel)) (.cons (ok_iload (by decide +kernel)) (.cons (ok_iload (by decide +kernel)) .nil)))))
theorem B_X7_countSequence_76 : Blk m_X7_countSequence 76 [o_ald 0, o_getR 7 1, o_ild 7, o_lald, o_pure g_id] 87 := .cons (ok_aload_n (k := 0) rfl (by decide +kernel)) (.cons (ok_getR fl_7_15 rfl (by decide +kernel)) (.cons (ok_iload (by decide +kernel)) (.cons (ok_laload (by decide +kernel)) (.cons (ok_goto (off := 4) (tgt := 87) (by decide +kernel) (by decide)) .nil))))
theorem B_X7_countSequence_86 : Blk m_X7_countSequence 86 [o_pure (g_push (.long 0)), o_last, o_iinc 7 1, o_pure g_id] 50 := .cons (ok_lconst (n := 0) (by decide +kernel) (by decide)) (.cons (ok_lastore (by decide +kernel)) (.cons (ok_iinc (z := 1) (by decide +kernel) (by decide)) (.cons (ok_goto (off := (-41)) (tgt := 50) (by decide +kernel) (by decide)) .nil)))
theorem B_X7_countSequence_87 : Blk m_X7_countSequence 87 [o_last, o_iinc 7 1, o_pure g_id] 50 := .cons (ok_lastore (by decide +kernel)) (.cons (ok_iinc (z := 1) (by decide +kernel) (by decide)) (.cons (ok_goto (off := (-41)) (tgt := 50) (by decide +kernel) (by decide)) .nil))
theorem B_X7_countSequence_94 : Blk m_X7_countSequence 94 [o_iinc 5 (-1), o_pure g_id] 27 := .cons (ok_iinc (z := (-1)) (by decide +kernel) (by decide)) (.cons (ok_goto (off := (-70)) (tgt := 27) (by decide +kernel) (by decide)) .nil)
theorem B_X7_countSequence_100 : Blk m_X7_countSequence 100 [o_ald 0, o_getR 7 0, o_ild 2, o_lald] 106 := .cons (ok_aload_n (k := 0) rfl (by decide +kernel)) (.cons (ok_getR fl_7_9 rfl (by decide +kernel)) (.cons (ok_iload_n (k := 2) rfl (by decide +kernel)) (.cons (ok_laload (by decide +kernel)) .nil)))
theorem B_X7_markTargets_0 : Blk m_X7_markTargets 0 [o_pure (g_push (.int 0)), o_ist 3] 2 := .cons (ok_iconst (n := 0) (by decide +kernel) (by decide)) (.cons (ok_istore_n (k := 3) rfl (by decide +kernel)) .nil)
theorem B_X7_markTargets_2 : Blk m_X7_markTargets 2 [o_ild 3, o_ald 1, o_getI 1 0] 7 := .cons (ok_iload_n (k := 3) rfl (by decide +kernel)) (.cons (ok_aload_n (k := 1) rfl (by decide +kernel)) (.cons (ok_getI fl_7_38 rfl (by decide +kernel)) .nil))
theorem B_X7_markTargets_10 : Blk m_X7_markTargets 10 [o_ald 0, o_getR 7 0, o_ild 3, o_ald 1, o_ild 3, o_ild 2] 18 := .cons (ok_aload_n (k := 0) rfl (by decide +kernel)) (.cons (ok_getR fl_7_9 rfl (by decide +kernel)) (.cons (ok_iload_n (k := 3) rfl (by decide +kernel)) (.cons (ok_aload_n (k := 1) rfl (by decide +kernel)) (.cons (ok_iload_n (k := 3) rfl (by decide +kernel)) (.cons (ok_iload_n (k := 2) rfl (by decide +kernel)) .nil)))))
theorem B_X7_markTargets_24 : Blk m_X7_markTargets 24 [o_pure (g_push (.long 1)), o_pure g_id] 29 := .cons (ok_lconst (n := 1) (by decide +kernel) (by decide)) (.cons (ok_goto (off := 4) (tgt := 29) (by decide +kernel) (by decide)) .nil)
theorem B_X7_markTargets_28 : Blk m_X7_markTargets 28 [o_pure (g_push (.long 0)), o_last, o_iinc 3 1, o_pure g_id] 2 := .cons (ok_lconst (n := 0) (by decide +kernel) (by decide)) (.cons (ok_lastore (by decide +kernel)) (.cons (ok_iinc (z := 1) (by decide +kernel) (by decide)) (.cons (ok_goto (off := (-31)) (tgt := 2) (by decide +kernel) (by decide)) .nil)))
theorem B_X7_markTargets_29 : Blk m_X7_markTargets 29 [o_last, o_iinc 3 1, o_pure g_id] 2 := .cons (ok_lastore (by decide +kernel)) (.cons (ok_iinc (z := 1) (by decide +kernel) (by decide)) (.cons (ok_goto (off := (-31)) (tgt := 2) (by decide +kernel) (by decide)) .nil))
theorem B_X7_isTarget_0 : Blk m_X7_isTarget 0 [o_ild 2, o_ald 0, o_getR 1 4, o_ild 1, o_iald, o_pure (g_ii (fun x y => (x.toUInt32 >>> (y.toUInt32 &&& Int32.toUInt32 31)).toInt32)), o_pure (g_push (.int 1)), o_pure (g_ii (fun x y => x &&& y)), o_pure (g_push (.int 1))] 11 := .cons (ok_iload_n (k := 2) rfl (by decide +kernel)) (.cons (ok_aload_n (k := 0) rfl (by decide +kernel)) (.cons (ok_getR fl_7_54 rfl (by decide +kernel)) (.cons (ok_iload_n (k := 1) rfl (by decide +kernel)) (.cons (ok_iaload (by decide +kernel)) (.cons (ok_iushr (by decide +kernel)) (.cons (ok_iconst (n := 1) (by decide +kernel) (by decide)) (.cons (ok_iand (by decide +kernel)) (.cons (ok_iconst (n := 1) (by decide +kernel) (by decide)) .nil))))))))
theorem B_X7_isTarget_14 : Blk m_X7_isTarget 14 [o_pure (g_push (.int 1)), o_pure g_id] 19 := .cons (ok_iconst (n := 1) (by decide +kernel) (by decide)) (.cons (ok_goto (off := 4) (tgt := 19) (by decide +kernel) (by decide)) .nil)
theorem B_X7_isTarget_18 : Blk m_X7_isTarget 18 [o_pure (g_push (.int 0))] 19 := .cons (ok_iconst (n := 0) (by decide +kernel) (by decide)) .nil
theorem B_X7_stepBack_0 : Blk m_X7_stepBack 0 [o_pure (g_push (.int 0)), o_ist 2] 2 := .cons (ok_iconst (n := 0) (by decide +kernel) (by decide)) (.cons (ok_istore_n (k := 2) rfl (by decide +kernel)) .nil)
theorem B_X7_stepBack_2 : Blk m_X7_stepBack 2 [o_ild 2, o_ald 1, o_getI 1 0] 7 := .cons (ok_iload_n (k := 2) rfl (by decide +kernel)) (.cons (ok_aload_n (k := 1) rfl (by decide +kernel)) (.cons (ok_getI fl_7_38 rfl (by decide +kernel)) .nil))
theorem B_X7_stepBack_10 : Blk m_X7_stepBack 10 [o_pure (g_push (.long 0)), o_lst 3, o_pure (g_push (.int 0)), o_ist 5] 15 := .cons (ok_lconst (n := 0) (by decide +kernel) (by decide)) (.cons (ok_lstore_n (k := 3) rfl (by decide +kernel)) (.cons (ok_iconst (n := 0) (by decide +kernel) (by decide)) (.cons (ok_istore (by decide +kernel)) .nil)))
theorem B_X7_stepBack_15 : Blk m_X7_stepBack 15 [o_ild 5, o_ald 1, o_getI 1 0] 21 := .cons (ok_iload (by decide +kernel)) (.cons (ok_aload_n (k := 1) rfl (by decide +kernel)) (.cons (ok_getI fl_7_38 rfl (by decide +kernel)) .nil))
theorem B_X7_stepBack_24 : Blk m_X7_stepBack 24 [o_lld 3, o_ald 1, o_getR 1 5, o_ild 2, o_pure (g_push (.int 6)), o_pure (g_ii (fun x y => x * y)), o_ild 5, o_pure (g_ii (fun x y => x + y)), o_iald, o_pure (g_il (fun x => x.toInt64)), o_ald 0, o_getR 7 0, o_ild 5, o_lald, o_pure (g_ll (fun x y => x * y)), o_pure (g_ll (fun x y => x + y)), o_lst 3, o_iinc 5 1, o_pure g_id] 15 := .cons (ok_lload_n (k := 3) rfl (by decide +kernel)) (.cons (ok_aload_n (k := 1) rfl (by decide +kernel)) (.cons (ok_getR fl_7_58 rfl (by decide +kernel)) (.cons (ok_iload_n (k := 2) rfl (by decide +kernel)) (.cons (ok_bipush (n := 6) (by decide +kernel) (by decide)) (.cons (ok_imul (by decide +kernel)) (.cons (ok_iload (by decide +kernel)) (.cons (ok_iadd (by decide +kernel)) (.cons (ok_iaload (by decide +kernel)) (.cons (ok_i2l (by decide +kernel)) (.cons (ok_aload_n (k := 0) rfl (by decide +kernel)) (.cons (ok_getR fl_7_9 rfl (by decide +kernel)) (.cons (ok_iload (by decide +kernel)) (.cons (ok_laload (by decide +kernel)) (.cons (ok_lmul (by decide +kernel)) (.cons (ok_ladd (by decide +kernel)) (.cons (ok_lstore_n (k := 3) rfl (by decide +kernel)) (.cons (ok_iinc (z := 1) (by decide +kernel) (by decide)) (.cons (ok_goto (off := (-36)) (tgt := 15) (by decide +kernel) (by decide)) .nil))))))))))))))))))
theorem B_X7_stepBack_54 : Blk m_X7_stepBack 54 [o_ald 0, o_getR 7 1, o_ild 2, o_lld 3, o_last, o_iinc 2 1, o_pure g_id] 2 := .cons (ok_aload_n (k := 0) rfl (by decide +kernel)) (.cons (ok_getR fl_7_15 rfl (by decide +kernel)) (.cons (ok_iload_n (k := 2) rfl (by decide +kernel)) (.cons (ok_lload_n (k := 3) rfl (by decide +kernel)) (.cons (ok_lastore (by decide +kernel)) (.cons (ok_iinc (z := 1) (by decide +kernel) (by decide)) (.cons (ok_goto (off := (-62)) (tgt := 2) (by decide +kernel) (by decide)) .nil))))))
theorem B_X8_init_0 : Blk m_X8_init 0 [o_ald 0, o_pure g_oi, o_ald 0, o_pure (g_push (.int 36))] 7 := .cons (ok_aload_n (k := 0) rfl (by decide +kernel)) (.cons (ok_oi ml_8_5 jw_oii jw_oic (by decide +kernel)) (.cons (ok_aload_n (k := 0) rfl (by decide +kernel)) (.cons (ok_bipush (n := 36) (by decide +kernel) (by decide)) .nil)))
theorem B_X8_init_12 : Blk m_X8_init 12 [o_ald 0, o_pure (g_push (.int 36))] 15 := .cons (ok_aload_n (k := 0) rfl (by decide +kernel)) (.cons (ok_bipush (n := 36) (by decide +kernel) (by decide)) .nil)
theorem B_X8_init_20 : Blk m_X8_init 20 [o_ald 0, o_pure (g_push (.int 6))] 23 := .cons (ok_aload_n (k := 0) rfl (by decide +kernel)) (.cons (ok_bipush (n := 6) (by decide +kernel) (by decide)) .nil)
theorem B_X8_init_28 : Blk m_X8_init 28 [o_ald 0, o_pure (g_push (.int 6))] 31 := .cons (ok_aload_n (k := 0) rfl (by decide +kernel)) (.cons (ok_bipush (n := 6) (by decide +kernel) (by decide)) .nil)
theorem B_X8_init_36 : Blk m_X8_init 36 [o_ald 0, o_pure (g_push (.int 6))] 39 := .cons (ok_aload_n (k := 0) rfl (by decide +kernel)) (.cons (ok_bipush (n := 6) (by decide +kernel) (by decide)) .nil)
theorem B_X8_init_44 : Blk m_X8_init 44 [o_ald 0, o_pure (g_push (.int 6))] 47 := .cons (ok_aload_n (k := 0) rfl (by decide +kernel)) (.cons (ok_bipush (n := 6) (by decide +kernel) (by decide)) .nil)
theorem B_X8_init_52 : Blk m_X8_init 52 [o_ald 0, o_pure (g_push (.int 6))] 55 := .cons (ok_aload_n (k := 0) rfl (by decide +kernel)) (.cons (ok_bipush (n := 6) (by decide +kernel) (by decide)) .nil)
theorem B_X8_init_60 : Blk m_X8_init 60 [o_ald 0, o_pure (g_push (.int 6))] 63 := .cons (ok_aload_n (k := 0) rfl (by decide +kernel)) (.cons (ok_bipush (n := 6) (by decide +kernel) (by decide)) .nil)
theorem B_X8_useCosts_0 : Blk m_X8_useCosts 0 [o_ald 1, o_pure (g_push (.int 0)), o_ald 0, o_getR 8 2, o_pure (g_push (.int 0)), o_pure (g_push (.int 36)), o_cpJ] 12 := .cons (ok_aload_n (k := 1) rfl (by decide +kernel)) (.cons (ok_iconst (n := 0) (by decide +kernel) (by decide)) (.cons (ok_aload_n (k := 0) rfl (by decide +kernel)) (.cons (ok_getR fl_8_17 rfl (by decide +kernel)) (.cons (ok_iconst (n := 0) (by decide +kernel) (by decide)) (.cons (ok_bipush (n := 36) (by decide +kernel) (by decide)) (.cons (ok_cpJ ml_8_39 jw_acn jw_acs jw_sys (by decide +kernel)) .nil))))))
theorem B_X8_solve_0 : Blk m_X8_solve 0 [o_ald 0, o_ald 1, o_ild 2, o_ild 3] 4 := .cons (ok_aload_n (k := 0) rfl (by decide +kernel)) (.cons (ok_aload_n (k := 1) rfl (by decide +kernel)) (.cons (ok_iload_n (k := 2) rfl (by decide +kernel)) (.cons (ok_iload_n (k := 3) rfl (by decide +kernel)) .nil)))
theorem B_X8_solve_7 : Blk m_X8_solve 7 [o_pure (g_push (.int 0)), o_ist 4] 10 := .cons (ok_iconst (n := 0) (by decide +kernel) (by decide)) (.cons (ok_istore (by decide +kernel)) .nil)
theorem B_X8_solve_10 : Blk m_X8_solve 10 [o_ild 4, o_ald 0, o_getI 8 1] 16 := .cons (ok_iload (by decide +kernel)) (.cons (ok_aload_n (k := 0) rfl (by decide +kernel)) (.cons (ok_getI fl_8_49 rfl (by decide +kernel)) .nil))
theorem B_X8_solve_19 : Blk m_X8_solve 19 [o_ald 0, o_ild 4] 22 := .cons (ok_aload_n (k := 0) rfl (by decide +kernel)) (.cons (ok_iload (by decide +kernel)) .nil)
theorem B_X8_solve_25 : Blk m_X8_solve 25 [o_iinc 4 1, o_pure g_id] 10 := .cons (ok_iinc (z := 1) (by decide +kernel) (by decide)) (.cons (ok_goto (off := (-18)) (tgt := 10) (by decide +kernel) (by decide)) .nil)
theorem B_X8_solve_31 : Blk m_X8_solve 31 [o_pure (g_push (.long 0)), o_lst 4, o_pure (g_push (.int 0)), o_ist 6] 37 := .cons (ok_lconst (n := 0) (by decide +kernel) (by decide)) (.cons (ok_lstore (by decide +kernel)) (.cons (ok_iconst (n := 0) (by decide +kernel) (by decide)) (.cons (ok_istore (by decide +kernel)) .nil)))
theorem B_X8_solve_37 : Blk m_X8_solve 37 [o_ild 6, o_pure (g_push (.int 36))] 41 := .cons (ok_iload (by decide +kernel)) (.cons (ok_bipush (n := 36) (by decide +kernel) (by decide)) .nil)
theorem B_X8_solve_44 : Blk m_X8_solve 44 [o_lld 4, o_ald 0, o_getR 8 0, o_ild 6, o_iald, o_pure (g_il (fun x => x.toInt64)), o_ald 0, o_getR 8 2, o_ild 6, o_lald, o_pure (g_ll (fun x y => x * y)), o_pure (g_ll (fun x y => x + y)), o_lst 4, o_iinc 6 1, o_pure g_id] 37 := .cons (ok_lload (by decide +kernel)) (.cons (ok_aload_n (k := 0) rfl (by decide +kernel)) (.cons (ok_getR fl_8_11 rfl (by decide +kernel)) (.cons (ok_iload (by decide +kernel)) (.cons (ok_iaload (by decide +kernel)) (.cons (ok_i2l (by decide +kernel)) (.cons (ok_aload_n (k := 0) rfl (by decide +kernel)) (.cons (ok_getR fl_8_17 rfl (by decide +kernel)) (.cons (ok_iload (by decide +kernel)) (.cons (ok_laload (by decide +kernel)) (.cons (ok_lmul (by decide +kernel)) (.cons (ok_ladd (by decide +kernel)) (.cons (ok_lstore (by decide +kernel)) (.cons (ok_iinc (z := 1) (by decide +kernel) (by decide)) (.cons (ok_goto (off := (-31)) (tgt := 37) (by decide +kernel) (by decide)) .nil))))))))))))))
theorem B_X8_solve_71 : Blk m_X8_solve 71 [o_lld 4] 73 := .cons (ok_lload (by decide +kernel)) .nil
theorem B_X8_startOnDiagonal_0 : Blk m_X8_startOnDiagonal 0 [o_ald 0, o_ald 1, o_getI 1 0, o_putI 8 1, o_pure (g_push (.int 0)), o_ist 4] 11 := .cons (ok_aload_n (k := 0) rfl (by decide +kernel)) (.cons (ok_aload_n (k := 1) rfl (by decide +kernel)) (.cons (ok_getI fl_8_57 rfl (by decide +kernel)) (.cons (ok_putI fl_8_49 rfl (by decide +kernel)) (.cons (ok_iconst (n := 0) (by decide +kernel) (by decide)) (.cons (ok_istore (by decide +kernel)) .nil)))))
theorem B_X8_startOnDiagonal_11 : Blk m_X8_startOnDiagonal 11 [o_ild 4, o_pure (g_push (.int 36))] 15 := .cons (ok_iload (by decide +kernel)) (.cons (ok_bipush (n := 36) (by decide +kernel) (by decide)) .nil)
theorem B_X8_startOnDiagonal_18 : Blk m_X8_startOnDiagonal 18 [o_ald 0, o_getR 8 0, o_ild 4, o_pure (g_push (.int 0)), o_iast, o_iinc 4 1, o_pure g_id] 11 := .cons (ok_aload_n (k := 0) rfl (by decide +kernel)) (.cons (ok_getR fl_8_11 rfl (by decide +kernel)) (.cons (ok_iload (by decide +kernel)) (.cons (ok_iconst (n := 0) (by decide +kernel) (by decide)) (.cons (ok_iastore (by decide +kernel)) (.cons (ok_iinc (z := 1) (by decide +kernel) (by decide)) (.cons (ok_goto (off := (-18)) (tgt := 11) (by decide +kernel) (by decide)) .nil))))))
theorem B_X8_startOnDiagonal_32 : Blk m_X8_startOnDiagonal 32 [o_pure (g_push (.int 0)), o_ist 4] 35 := .cons (ok_iconst (n := 0) (by decide +kernel) (by decide)) (.cons (ok_istore (by decide +kernel)) .nil)
theorem B_X8_startOnDiagonal_35 : Blk m_X8_startOnDiagonal 35 [o_ild 4, o_ald 0, o_getI 8 1] 41 := .cons (ok_iload (by decide +kernel)) (.cons (ok_aload_n (k := 0) rfl (by decide +kernel)) (.cons (ok_getI fl_8_49 rfl (by decide +kernel)) .nil))
theorem B_X8_startOnDiagonal_44 : Blk m_X8_startOnDiagonal 44 [o_ald 1, o_getR 1 5, o_ild 2, o_pure (g_push (.int 6)), o_pure (g_ii (fun x y => x * y)), o_ild 4, o_pure (g_ii (fun x y => x + y)), o_iald, o_ist 5, o_ald 1, o_getR 1 5, o_ild 3, o_pure (g_push (.int 6)), o_pure (g_ii (fun x y => x * y)), o_ild 4, o_pure (g_ii (fun x y => x + y)), o_iald, o_ist 6, o_ild 5, o_ild 6, o_pure (g_m2 (fun x y => if y < x then y else x)), o_ist 7, o_ald 0, o_getR 8 0, o_ild 4, o_pure (g_push (.int 6)), o_pure (g_ii (fun x y => x * y)), o_ild 4, o_pure (g_ii (fun x y => x + y)), o_ild 7, o_iast, o_ald 0, o_getR 8 3, o_ild 4, o_ild 5, o_ild 7, o_pure (g_ii (fun x y => x - y)), o_iast, o_ald 0, o_getR 8 4, o_ild 4, o_ild 6, o_ild 7, o_pure (g_ii (fun x y => x - y)), o_iast, o_iinc 4 1, o_pure g_id] 35 := .cons (ok_aload_n (k := 1) rfl (by decide +kernel)) (.cons (ok_getR fl_8_60 rfl (by decide +kernel)) (.cons (ok_iload_n (k := 2) rfl (by decide +kernel)) (.cons (ok_bipush (n := 6) (by decide +kernel) (by decide)) (.cons (ok_imul (by decide +kernel)) (.cons (ok_iload (by decide +kernel)) (.cons (ok_iadd (by decide +kernel)) (.cons (ok_iaload (by decide +kernel)) (.cons (ok_istore (by decide +kernel)) (.cons (ok_aload_n (k := 1) rfl (by decide +kernel)) (.cons (ok_getR fl_8_60 rfl (by decide +kernel)) (.cons (ok_iload_n (k := 3) rfl (by decide +kernel)) (.cons (ok_bipush (n := 6) (by decide +kernel) (by decide)) (.cons (ok_imul (by decide +kernel)) (.cons (ok_iload (by decide +kernel)) (.cons (ok_iadd (by decide +kernel)) (.cons (ok_iaload (by decide +kernel)) (.cons (ok_istore (by decide +kernel)) (.cons (ok_iload (by decide +kernel)) (.cons (ok_iload (by decide +kernel)) (.cons (ok_mmin ml_8_63 jw_mins jw_math jw_minc (by decide +kernel)) (.cons (ok_istore (by decide +kernel)) (.cons (ok_aload_n (k := 0) rfl (by decide +kernel)) (.cons (ok_getR fl_8_11 rfl (by decide +kernel)) (.cons (ok_iload (by decide +kernel)) (.cons (ok_bipush (n := 6) (by decide +kernel) (by decide)) (.cons (ok_imul (by decide +kernel)) (.cons (ok_iload (by decide +kernel)) (.cons (ok_iadd (by decide +kernel)) (.cons (ok_iload (by decide +kernel)) (.cons (ok_iastore (by decide +kernel)) (.cons (ok_aload_n (k := 0) rfl (by decide +kernel)) (.cons (ok_getR fl_8_21 rfl (by decide +kernel)) (.cons (ok_iload (by decide +kernel)) (.cons (ok_iload (by decide +kernel)) (.cons (ok_iload (by decide +kernel)) (.cons (ok_isub (by decide +kernel)) (.cons (ok_iastore (by decide +kernel)) (.cons (ok_aload_n (k := 0) rfl (by decide +kernel)) (.cons (ok_getR fl_8_24 rfl (by decide +kernel)) (.cons (ok_iload (by decide +kernel)) (.cons (ok_iload (by decide +kernel)) (.cons (ok_iload (by decide +kernel)) (.cons (ok_isub (by decide +kernel)) (.cons (ok_iastore (by decide +kernel)) (.cons (ok_iinc (z := 1) (by decide +kernel) (by decide)) (.cons (ok_goto (off := (-88)) (tgt := 35) (by decide +kernel) (by decide)) .nil))))))))))))))))))))))))))))))))))))))))))))))
theorem B_X8_sendFrom_0 : Blk m_X8_sendFrom 0 [o_pure (g_push (.int 0)), o_ist 2] 2 := .cons (ok_iconst (n := 0) (by decide +kernel) (by decide)) (.cons (ok_istore_n (k := 2) rfl (by decide +kernel)) .nil)
theorem B_X8_sendFrom_2 : Blk m_X8_sendFrom 2 [o_ild 2, o_pure (g_push (.int 12))] 5 := .cons (ok_iload_n (k := 2) rfl (by decide +kernel)) (.cons (ok_bipush (n := 12) (by decide +kernel) (by decide)) .nil)
theorem B_X8_sendFrom_8 : Blk m_X8_sendFrom 8 [o_ald 0, o_getR 8 3, o_ild 1, o_iald] 14 := .cons (ok_aload_n (k := 0) rfl (by decide +kernel)) (.cons (ok_getR fl_8_21 rfl (by decide +kernel)) (.cons (ok_iload_n (k := 1) rfl (by decide +kernel)) (.cons (ok_iaload (by decide +kernel)) .nil)))
theorem B_X8_sendFrom_17 : Blk m_X8_sendFrom 17 [o_ald 0] 18 := .cons (ok_aload_n (k := 0) rfl (by decide +kernel)) .nil
theorem B_X8_sendFrom_21 : Blk m_X8_sendFrom 21 [o_ist 3, o_ild 3] 23 := .cons (ok_istore_n (k := 3) rfl (by decide +kernel)) (.cons (ok_iload_n (k := 3) rfl (by decide +kernel)) .nil)
theorem B_X8_sendFrom_27 : Blk m_X8_sendFrom 27 [o_ald 0, o_ild 1, o_pure (g_push (.int 0))] 30 := .cons (ok_aload_n (k := 0) rfl (by decide +kernel)) (.cons (ok_iload_n (k := 1) rfl (by decide +kernel)) (.cons (ok_iconst (n := 0) (by decide +kernel) (by decide)) .nil))
theorem B_X8_sendFrom_33 : Blk m_X8_sendFrom 33 [o_ald 0, o_ild 3, o_ald 0, o_getR 8 3, o_ild 1, o_iald, o_ald 0, o_getR 8 4, o_ild 3, o_iald, o_pure (g_m2 (fun x y => if y < x then y else x))] 50 := .cons (ok_aload_n (k := 0) rfl (by decide +kernel)) (.cons (ok_iload_n (k := 3) rfl (by decide +kernel)) (.cons (ok_aload_n (k := 0) rfl (by decide +kernel)) (.cons (ok_getR fl_8_21 rfl (by decide +kernel)) (.cons (ok_iload_n (k := 1) rfl (by decide +kernel)) (.cons (ok_iaload (by decide +kernel)) (.cons (ok_aload_n (k := 0) rfl (by decide +kernel)) (.cons (ok_getR fl_8_24 rfl (by decide +kernel)) (.cons (ok_iload_n (k := 3) rfl (by decide +kernel)) (.cons (ok_iaload (by decide +kernel)) (.cons (ok_mmin ml_8_63 jw_mins jw_math jw_minc (by decide +kernel)) .nil))))))))))
theorem B_X8_sendFrom_53 : Blk m_X8_sendFrom 53 [o_ist 4, o_ald 0, o_ild 3, o_ild 4] 59 := .cons (ok_istore (by decide +kernel)) (.cons (ok_aload_n (k := 0) rfl (by decide +kernel)) (.cons (ok_iload_n (k := 3) rfl (by decide +kernel)) (.cons (ok_iload (by decide +kernel)) .nil)))
theorem B_X8_sendFrom_62 : Blk m_X8_sendFrom 62 [o_ald 0, o_getR 8 3, o_ild 1, o_pure (g_dup2), o_iald, o_ild 4, o_pure (g_ii (fun x y => x - y)), o_iast, o_ald 0, o_getR 8 4, o_ild 3, o_pure (g_dup2), o_iald, o_ild 4, o_pure (g_ii (fun x y => x - y)), o_iast, o_iinc 2 1, o_pure g_id] 2 := .cons (ok_aload_n (k := 0) rfl (by decide +kernel)) (.cons (ok_getR fl_8_21 rfl (by decide +kernel)) (.cons (ok_iload_n (k := 1) rfl (by decide +kernel)) (.cons (ok_dup2 (by decide +kernel)) (.cons (ok_iaload (by decide +kernel)) (.cons (ok_iload (by decide +kernel)) (.cons (ok_isub (by decide +kernel)) (.cons (ok_iastore (by decide +kernel)) (.cons (ok_aload_n (k := 0) rfl (by decide +kernel)) (.cons (ok_getR fl_8_24 rfl (by decide +kernel)) (.cons (ok_iload_n (k := 3) rfl (by decide +kernel)) (.cons (ok_dup2 (by decide +kernel)) (.cons (ok_iaload (by decide +kernel)) (.cons (ok_iload (by decide +kernel)) (.cons (ok_isub (by decide +kernel)) (.cons (ok_iastore (by decide +kernel)) (.cons (ok_iinc (z := 1) (by decide +kernel) (by decide)) (.cons (ok_goto (off := (-85)) (tgt := 2) (by decide +kernel) (by decide)) .nil)))))))))))))))))
theorem B_X8_openColumn_0 : Blk m_X8_openColumn 0 [o_pure (g_push (.int 0)), o_ist 1] 2 := .cons (ok_iconst (n := 0) (by decide +kernel) (by decide)) (.cons (ok_istore_n (k := 1) rfl (by decide +kernel)) .nil)
theorem B_X8_openColumn_2 : Blk m_X8_openColumn 2 [o_ild 1, o_ald 0, o_getI 8 1] 7 := .cons (ok_iload_n (k := 1) rfl (by decide +kernel)) (.cons (ok_aload_n (k := 0) rfl (by decide +kernel)) (.cons (ok_getI fl_8_49 rfl (by decide +kernel)) .nil))
theorem B_X8_openColumn_10 : Blk m_X8_openColumn 10 [o_ald 0, o_getR 8 4, o_ild 1, o_iald] 16 := .cons (ok_aload_n (k := 0) rfl (by decide +kernel)) (.cons (ok_getR fl_8_24 rfl (by decide +kernel)) (.cons (ok_iload_n (k := 1) rfl (by decide +kernel)) (.cons (ok_iaload (by decide +kernel)) .nil)))
theorem B_X8_openColumn_19 : Blk m_X8_openColumn 19 [o_ild 1] 20 := .cons (ok_iload_n (k := 1) rfl (by decide +kernel)) .nil
theorem B_X8_openColumn_21 : Blk m_X8_openColumn 21 [o_iinc 1 1, o_pure g_id] 2 := .cons (ok_iinc (z := 1) (by decide +kernel) (by decide)) (.cons (ok_goto (off := (-22)) (tgt := 2) (by decide +kernel) (by decide)) .nil)
theorem B_X8_openColumn_27 : Blk m_X8_openColumn 27 [o_pure (g_push (.int (-1)))] 28 := .cons (ok_iconst (n := (-1)) (by decide +kernel) (by decide)) .nil
theorem B_X8_makeCanonical_0 : Blk m_X8_makeCanonical 0 [o_pure (g_push (.int 0)), o_ist 1] 2 := .cons (ok_iconst (n := 0) (by decide +kernel) (by decide)) (.cons (ok_istore_n (k := 1) rfl (by decide +kernel)) .nil)
theorem B_X8_makeCanonical_2 : Blk m_X8_makeCanonical 2 [o_ild 1, o_ald 0, o_getI 8 1] 7 := .cons (ok_iload_n (k := 1) rfl (by decide +kernel)) (.cons (ok_aload_n (k := 0) rfl (by decide +kernel)) (.cons (ok_getI fl_8_49 rfl (by decide +kernel)) .nil))
theorem B_X8_makeCanonical_10 : Blk m_X8_makeCanonical 10 [o_pure (g_push (.int 0)), o_ist 2] 12 := .cons (ok_iconst (n := 0) (by decide +kernel) (by decide)) (.cons (ok_istore_n (k := 2) rfl (by decide +kernel)) .nil)
theorem B_X8_makeCanonical_12 : Blk m_X8_makeCanonical 12 [o_ild 2, o_ald 0, o_getI 8 1] 17 := .cons (ok_iload_n (k := 2) rfl (by decide +kernel)) (.cons (ok_aload_n (k := 0) rfl (by decide +kernel)) (.cons (ok_getI fl_8_49 rfl (by decide +kernel)) .nil))
theorem B_X8_makeCanonical_20 : Blk m_X8_makeCanonical 20 [o_ald 0, o_ild 1, o_ild 2] 23 := .cons (ok_aload_n (k := 0) rfl (by decide +kernel)) (.cons (ok_iload_n (k := 1) rfl (by decide +kernel)) (.cons (ok_iload_n (k := 2) rfl (by decide +kernel)) .nil))
theorem B_X8_makeCanonical_26 : Blk m_X8_makeCanonical 26 [o_iinc 2 1, o_pure g_id] 12 := .cons (ok_iinc (z := 1) (by decide +kernel) (by decide)) (.cons (ok_goto (off := (-17)) (tgt := 12) (by decide +kernel) (by decide)) .nil)
theorem B_X8_makeCanonical_32 : Blk m_X8_makeCanonical 32 [o_iinc 1 1, o_pure g_id] 2 := .cons (ok_iinc (z := 1) (by decide +kernel) (by decide)) (.cons (ok_goto (off := (-33)) (tgt := 2) (by decide +kernel) (by decide)) .nil)
theorem B_X8_reduceEntry_0 : Blk m_X8_reduceEntry 0 [o_ild 1, o_pure (g_push (.int 6)), o_pure (g_ii (fun x y => x * y)), o_ild 2, o_pure (g_ii (fun x y => x + y)), o_ist 3, o_pure (g_push (.int 0)), o_ist 4] 10 := .cons (ok_iload_n (k := 1) rfl (by decide +kernel)) (.cons (ok_bipush (n := 6) (by decide +kernel) (by decide)) (.cons (ok_imul (by decide +kernel)) (.cons (ok_iload_n (k := 2) rfl (by decide +kernel)) (.cons (ok_iadd (by decide +kernel)) (.cons (ok_istore_n (k := 3) rfl (by decide +kernel)) (.cons (ok_iconst (n := 0) (by decide +kernel) (by decide)) (.cons (ok_istore (by decide +kernel)) .nil)))))))
theorem B_X8_reduceEntry_10 : Blk m_X8_reduceEntry 10 [o_ild 4, o_pure (g_push (.int 12))] 14 := .cons (ok_iload (by decide +kernel)) (.cons (ok_bipush (n := 12) (by decide +kernel) (by decide)) .nil)
theorem B_X8_reduceEntry_17 : Blk m_X8_reduceEntry 17 [o_ald 0, o_getR 8 0, o_ild 3, o_iald] 23 := .cons (ok_aload_n (k := 0) rfl (by decide +kernel)) (.cons (ok_getR fl_8_11 rfl (by decide +kernel)) (.cons (ok_iload_n (k := 3) rfl (by decide +kernel)) (.cons (ok_iaload (by decide +kernel)) .nil)))
theorem B_X8_reduceEntry_26 : Blk m_X8_reduceEntry 26 [o_ald 0, o_ild 1, o_ild 3, o_pure (g_push (.int 1)), o_pure (g_ii (fun x y => x + y))] 31 := .cons (ok_aload_n (k := 0) rfl (by decide +kernel)) (.cons (ok_iload_n (k := 1) rfl (by decide +kernel)) (.cons (ok_iload_n (k := 3) rfl (by decide +kernel)) (.cons (ok_iconst (n := 1) (by decide +kernel) (by decide)) (.cons (ok_iadd (by decide +kernel)) .nil))))
theorem B_X8_reduceEntry_34 : Blk m_X8_reduceEntry 34 [o_ald 0, o_getR 8 6, o_ild 2, o_lald, o_ald 0, o_getR 8 2, o_ild 3, o_lald, o_pure (g_cmp)] 47 := .cons (ok_aload_n (k := 0) rfl (by decide +kernel)) (.cons (ok_getR fl_8_30 rfl (by decide +kernel)) (.cons (ok_iload_n (k := 2) rfl (by decide +kernel)) (.cons (ok_laload (by decide +kernel)) (.cons (ok_aload_n (k := 0) rfl (by decide +kernel)) (.cons (ok_getR fl_8_17 rfl (by decide +kernel)) (.cons (ok_iload_n (k := 3) rfl (by decide +kernel)) (.cons (ok_laload (by decide +kernel)) (.cons (ok_lcmp (by decide +kernel)) .nil))))))))
theorem B_X8_reduceEntry_51 : Blk m_X8_reduceEntry 51 [o_ald 0, o_ild 2, o_ald 0, o_getR 8 0, o_ild 3, o_iald] 59 := .cons (ok_aload_n (k := 0) rfl (by decide +kernel)) (.cons (ok_iload_n (k := 2) rfl (by decide +kernel)) (.cons (ok_aload_n (k := 0) rfl (by decide +kernel)) (.cons (ok_getR fl_8_11 rfl (by decide +kernel)) (.cons (ok_iload_n (k := 3) rfl (by decide +kernel)) (.cons (ok_iaload (by decide +kernel)) .nil)))))
theorem B_X8_reduceEntry_62 : Blk m_X8_reduceEntry 62 [o_ist 5, o_ald 0, o_ild 2, o_ild 5] 68 := .cons (ok_istore (by decide +kernel)) (.cons (ok_aload_n (k := 0) rfl (by decide +kernel)) (.cons (ok_iload_n (k := 2) rfl (by decide +kernel)) (.cons (ok_iload (by decide +kernel)) .nil)))
theorem B_X8_reduceEntry_71 : Blk m_X8_reduceEntry 71 [o_ald 0, o_getR 8 0, o_ild 3, o_pure (g_dup2), o_iald, o_ild 5, o_pure (g_ii (fun x y => x - y)), o_iast, o_iinc 4 1, o_pure g_id] 10 := .cons (ok_aload_n (k := 0) rfl (by decide +kernel)) (.cons (ok_getR fl_8_11 rfl (by decide +kernel)) (.cons (ok_iload_n (k := 3) rfl (by decide +kernel)) (.cons (ok_dup2 (by decide +kernel)) (.cons (ok_iaload (by decide +kernel)) (.cons (ok_iload (by decide +kernel)) (.cons (ok_isub (by decide +kernel)) (.cons (ok_iastore (by decide +kernel)) (.cons (ok_iinc (z := 1) (by decide +kernel) (by decide)) (.cons (ok_goto (off := (-75)) (tgt := 10) (by decide +kernel) (by decide)) .nil)))))))))
theorem B_X8_findPaths_0 : Blk m_X8_findPaths 0 [o_pure (g_push (.int 0)), o_ist 3] 2 := .cons (ok_iconst (n := 0) (by decide +kernel) (by decide)) (.cons (ok_istore_n (k := 3) rfl (by decide +kernel)) .nil)
theorem B_X8_findPaths_2 : Blk m_X8_findPaths 2 [o_ild 3, o_ald 0, o_getI 8 1] 7 := .cons (ok_iload_n (k := 3) rfl (by decide +kernel)) (.cons (ok_aload_n (k := 0) rfl (by decide +kernel)) (.cons (ok_getI fl_8_49 rfl (by decide +kernel)) .nil))
theorem B_X8_findPaths_10 : Blk m_X8_findPaths 10 [o_ald 0, o_getR 8 5, o_ild 3, o_pure (g_push (.long 9223372036854775807)), o_last, o_ald 0, o_getR 8 6, o_ild 3, o_pure (g_push (.long 9223372036854775807)), o_last, o_ald 0, o_getR 8 7, o_ild 3, o_pure (g_push (.int (-1))), o_iast, o_ald 0, o_getR 8 8, o_ild 3, o_pure (g_push (.int (-1))), o_iast, o_iinc 3 1, o_pure g_id] 2 := .cons (ok_aload_n (k := 0) rfl (by decide +kernel)) (.cons (ok_getR fl_8_27 rfl (by decide +kernel)) (.cons (ok_iload_n (k := 3) rfl (by decide +kernel)) (.cons (ok_ldc2 (by decide +kernel) co_8_86) (.cons (ok_lastore (by decide +kernel)) (.cons (ok_aload_n (k := 0) rfl (by decide +kernel)) (.cons (ok_getR fl_8_30 rfl (by decide +kernel)) (.cons (ok_iload_n (k := 3) rfl (by decide +kernel)) (.cons (ok_ldc2 (by decide +kernel) co_8_86) (.cons (ok_lastore (by decide +kernel)) (.cons (ok_aload_n (k := 0) rfl (by decide +kernel)) (.cons (ok_getR fl_8_33 rfl (by decide +kernel)) (.cons (ok_iload_n (k := 3) rfl (by decide +kernel)) (.cons (ok_iconst (n := (-1)) (by decide +kernel) (by decide)) (.cons (ok_iastore (by decide +kernel)) (.cons (ok_aload_n (k := 0) rfl (by decide +kernel)) (.cons (ok_getR fl_8_36 rfl (by decide +kernel)) (.cons (ok_iload_n (k := 3) rfl (by decide +kernel)) (.cons (ok_iconst (n := (-1)) (by decide +kernel) (by decide)) (.cons (ok_iastore (by decide +kernel)) (.cons (ok_iinc (z := 1) (by decide +kernel) (by decide)) (.cons (ok_goto (off := (-43)) (tgt := 2) (by decide +kernel) (by decide)) .nil)))))))))))))))))))))
theorem B_X8_findPaths_48 : Blk m_X8_findPaths 48 [o_ald 0, o_getR 8 5, o_ild 1, o_pure (g_push (.long 0)), o_last, o_pure (g_push (.int 1)), o_ist 3, o_pure (g_push (.int 0)), o_ist 4] 60 := .cons (ok_aload_n (k := 0) rfl (by decide +kernel)) (.cons (ok_getR fl_8_27 rfl (by decide +kernel)) (.cons (ok_iload_n (k := 1) rfl (by decide +kernel)) (.cons (ok_lconst (n := 0) (by decide +kernel) (by decide)) (.cons (ok_lastore (by decide +kernel)) (.cons (ok_iconst (n := 1) (by decide +kernel) (by decide)) (.cons (ok_istore_n (k := 3) rfl (by decide +kernel)) (.cons (ok_iconst (n := 0) (by decide +kernel) (by decide)) (.cons (ok_istore (by decide +kernel)) .nil))))))))
theorem B_X8_findPaths_60 : Blk m_X8_findPaths 60 [o_ild 4, o_ald 0, o_getI 8 1] 66 := .cons (ok_iload (by decide +kernel)) (.cons (ok_aload_n (k := 0) rfl (by decide +kernel)) (.cons (ok_getI fl_8_49 rfl (by decide +kernel)) .nil))
theorem B_X8_findPaths_69 : Blk m_X8_findPaths 69 [o_ild 3] 70 := .cons (ok_iload_n (k := 3) rfl (by decide +kernel)) .nil
theorem B_X8_findPaths_73 : Blk m_X8_findPaths 73 [o_ald 0, o_ild 2] 75 := .cons (ok_aload_n (k := 0) rfl (by decide +kernel)) (.cons (ok_iload_n (k := 2) rfl (by decide +kernel)) .nil)
theorem B_X8_findPaths_81 : Blk m_X8_findPaths 81 [o_ald 0, o_ild 2] 83 := .cons (ok_aload_n (k := 0) rfl (by decide +kernel)) (.cons (ok_iload_n (k := 2) rfl (by decide +kernel)) .nil)
theorem B_X8_findPaths_89 : Blk m_X8_findPaths 89 [o_pure (g_push (.int 1)), o_pure g_id] 94 := .cons (ok_iconst (n := 1) (by decide +kernel) (by decide)) (.cons (ok_goto (off := 4) (tgt := 94) (by decide +kernel) (by decide)) .nil)
theorem B_X8_findPaths_93 : Blk m_X8_findPaths 93 [o_pure (g_push (.int 0)), o_ist 3, o_iinc 4 1, o_pure g_id] 60 := .cons (ok_iconst (n := 0) (by decide +kernel) (by decide)) (.cons (ok_istore_n (k := 3) rfl (by decide +kernel)) (.cons (ok_iinc (z := 1) (by decide +kernel) (by decide)) (.cons (ok_goto (off := (-38)) (tgt := 60) (by decide +kernel) (by decide)) .nil)))
theorem B_X8_findPaths_94 : Blk m_X8_findPaths 94 [o_ist 3, o_iinc 4 1, o_pure g_id] 60 := .cons (ok_istore_n (k := 3) rfl (by decide +kernel)) (.cons (ok_iinc (z := 1) (by decide +kernel) (by decide)) (.cons (ok_goto (off := (-38)) (tgt := 60) (by decide +kernel) (by decide)) .nil))
theorem B_X8_approachColumns_0 : Blk m_X8_approachColumns 0 [o_pure (g_push (.int 0)), o_ist 2, o_pure (g_push (.int 0)), o_ist 3] 4 := .cons (ok_iconst (n := 0) (by decide +kernel) (by decide)) (.cons (ok_istore_n (k := 2) rfl (by decide +kernel)) (.cons (ok_iconst (n := 0) (by decide +kernel) (by decide)) (.cons (ok_istore_n (k := 3) rfl (by decide +kernel)) .nil)))
theorem B_X8_approachColumns_4 : Blk m_X8_approachColumns 4 [o_ild 3, o_ald 0, o_getI 8 1] 9 := .cons (ok_iload_n (k := 3) rfl (by decide +kernel)) (.cons (ok_aload_n (k := 0) rfl (by decide +kernel)) (.cons (ok_getI fl_8_49 rfl (by decide +kernel)) .nil))
theorem B_X8_approachColumns_12 : Blk m_X8_approachColumns 12 [o_ald 0, o_getR 8 5, o_ild 3, o_lald, o_pure (g_push (.long 9223372036854775807)), o_pure (g_cmp)] 22 := .cons (ok_aload_n (k := 0) rfl (by decide +kernel)) (.cons (ok_getR fl_8_27 rfl (by decide +kernel)) (.cons (ok_iload_n (k := 3) rfl (by decide +kernel)) (.cons (ok_laload (by decide +kernel)) (.cons (ok_ldc2 (by decide +kernel) co_8_86) (.cons (ok_lcmp (by decide +kernel)) .nil)))))
theorem B_X8_approachColumns_25 : Blk m_X8_approachColumns 25 [o_pure g_id] 109 := .cons (ok_goto (off := 84) (tgt := 109) (by decide +kernel) (by decide)) .nil
theorem B_X8_approachColumns_28 : Blk m_X8_approachColumns 28 [o_pure (g_push (.int 0)), o_ist 4] 31 := .cons (ok_iconst (n := 0) (by decide +kernel) (by decide)) (.cons (ok_istore (by decide +kernel)) .nil)
theorem B_X8_approachColumns_31 : Blk m_X8_approachColumns 31 [o_ild 4, o_ald 0, o_getI 8 1] 37 := .cons (ok_iload (by decide +kernel)) (.cons (ok_aload_n (k := 0) rfl (by decide +kernel)) (.cons (ok_getI fl_8_49 rfl (by decide +kernel)) .nil))
theorem B_X8_approachColumns_40 : Blk m_X8_approachColumns 40 [o_ild 3, o_pure (g_push (.int 6)), o_pure (g_ii (fun x y => x * y)), o_ild 4, o_pure (g_ii (fun x y => x + y)), o_ist 5, o_ald 0, o_getR 8 5, o_ild 3, o_lald, o_ald 0, o_getR 8 2, o_ild 5, o_lald, o_pure (g_ll (fun x y => x + y)), o_lst 6, o_ild 5, o_ild 1] 68 := .cons (ok_iload_n (k := 3) rfl (by decide +kernel)) (.cons (ok_bipush (n := 6) (by decide +kernel) (by decide)) (.cons (ok_imul (by decide +kernel)) (.cons (ok_iload (by decide +kernel)) (.cons (ok_iadd (by decide +kernel)) (.cons (ok_istore (by decide +kernel)) (.cons (ok_aload_n (k := 0) rfl (by decide +kernel)) (.cons (ok_getR fl_8_27 rfl (by decide +kernel)) (.cons (ok_iload_n (k := 3) rfl (by decide +kernel)) (.cons (ok_laload (by decide +kernel)) (.cons (ok_aload_n (k := 0) rfl (by decide +kernel)) (.cons (ok_getR fl_8_17 rfl (by decide +kernel)) (.cons (ok_iload (by decide +kernel)) (.cons (ok_laload (by decide +kernel)) (.cons (ok_ladd (by decide +kernel)) (.cons (ok_lstore (by decide +kernel)) (.cons (ok_iload (by decide +kernel)) (.cons (ok_iload_n (k := 1) rfl (by decide +kernel)) .nil)))))))))))))))))
theorem B_X8_approachColumns_71 : Blk m_X8_approachColumns 71 [o_lld 6, o_ald 0, o_getR 8 6, o_ild 4, o_lald, o_pure (g_cmp)] 81 := .cons (ok_lload (by decide +kernel)) (.cons (ok_aload_n (k := 0) rfl (by decide +kernel)) (.cons (ok_getR fl_8_30 rfl (by decide +kernel)) (.cons (ok_iload (by decide +kernel)) (.cons (ok_laload (by decide +kernel)) (.cons (ok_lcmp (by decide +kernel)) .nil)))))
theorem B_X8_approachColumns_84 : Blk m_X8_approachColumns 84 [o_ald 0, o_getR 8 6, o_ild 4, o_lld 6, o_last, o_ald 0, o_getR 8 8, o_ild 4, o_ild 3, o_iast, o_pure (g_push (.int 1)), o_ist 2, o_iinc 4 1, o_pure g_id] 31 := .cons (ok_aload_n (k := 0) rfl (by decide +kernel)) (.cons (ok_getR fl_8_30 rfl (by decide +kernel)) (.cons (ok_iload (by decide +kernel)) (.cons (ok_lload (by decide +kernel)) (.cons (ok_lastore (by decide +kernel)) (.cons (ok_aload_n (k := 0) rfl (by decide +kernel)) (.cons (ok_getR fl_8_36 rfl (by decide +kernel)) (.cons (ok_iload (by decide +kernel)) (.cons (ok_iload_n (k := 3) rfl (by decide +kernel)) (.cons (ok_iastore (by decide +kernel)) (.cons (ok_iconst (n := 1) (by decide +kernel) (by decide)) (.cons (ok_istore_n (k := 2) rfl (by decide +kernel)) (.cons (ok_iinc (z := 1) (by decide +kernel) (by decide)) (.cons (ok_goto (off := (-75)) (tgt := 31) (by decide +kernel) (by decide)) .nil)))))))))))))
theorem B_X8_approachColumns_103 : Blk m_X8_approachColumns 103 [o_iinc 4 1, o_pure g_id] 31 := .cons (ok_iinc (z := 1) (by decide +kernel) (by decide)) (.cons (ok_goto (off := (-75)) (tgt := 31) (by decide +kernel) (by decide)) .nil)
theorem B_X8_approachColumns_109 : Blk m_X8_approachColumns 109 [o_iinc 3 1, o_pure g_id] 4 := .cons (ok_iinc (z := 1) (by decide +kernel) (by decide)) (.cons (ok_goto (off := (-108)) (tgt := 4) (by decide +kernel) (by decide)) .nil)
theorem B_X8_approachColumns_115 : Blk m_X8_approachColumns 115 [o_ild 2] 116 := .cons (ok_iload_n (k := 2) rfl (by decide +kernel)) .nil
theorem B_X8_approachRows_0 : Blk m_X8_approachRows 0 [o_pure (g_push (.int 0)), o_ist 2, o_pure (g_push (.int 0)), o_ist 3] 4 := .cons (ok_iconst (n := 0) (by decide +kernel) (by decide)) (.cons (ok_istore_n (k := 2) rfl (by decide +kernel)) (.cons (ok_iconst (n := 0) (by decide +kernel) (by decide)) (.cons (ok_istore_n (k := 3) rfl (by decide +kernel)) .nil)))
theorem B_X8_approachRows_4 : Blk m_X8_approachRows 4 [o_ild 3, o_ald 0, o_getI 8 1] 9 := .cons (ok_iload_n (k := 3) rfl (by decide +kernel)) (.cons (ok_aload_n (k := 0) rfl (by decide +kernel)) (.cons (ok_getI fl_8_49 rfl (by decide +kernel)) .nil))
theorem B_X8_approachRows_12 : Blk m_X8_approachRows 12 [o_ald 0, o_getR 8 6, o_ild 3, o_lald, o_pure (g_push (.long 9223372036854775807)), o_pure (g_cmp)] 22 := .cons (ok_aload_n (k := 0) rfl (by decide +kernel)) (.cons (ok_getR fl_8_30 rfl (by decide +kernel)) (.cons (ok_iload_n (k := 3) rfl (by decide +kernel)) (.cons (ok_laload (by decide +kernel)) (.cons (ok_ldc2 (by decide +kernel) co_8_86) (.cons (ok_lcmp (by decide +kernel)) .nil)))))
theorem B_X8_approachRows_25 : Blk m_X8_approachRows 25 [o_pure g_id] 119 := .cons (ok_goto (off := 94) (tgt := 119) (by decide +kernel) (by decide)) .nil
theorem B_X8_approachRows_28 : Blk m_X8_approachRows 28 [o_pure (g_push (.int 0)), o_ist 4] 31 := .cons (ok_iconst (n := 0) (by decide +kernel) (by decide)) (.cons (ok_istore (by decide +kernel)) .nil)
theorem B_X8_approachRows_31 : Blk m_X8_approachRows 31 [o_ild 4, o_ald 0, o_getI 8 1] 37 := .cons (ok_iload (by decide +kernel)) (.cons (ok_aload_n (k := 0) rfl (by decide +kernel)) (.cons (ok_getI fl_8_49 rfl (by decide +kernel)) .nil))
theorem B_X8_approachRows_40 : Blk m_X8_approachRows 40 [o_ild 4, o_pure (g_push (.int 6)), o_pure (g_ii (fun x y => x * y)), o_ild 3, o_pure (g_ii (fun x y => x + y)), o_ist 5, o_ald 0, o_getR 8 6, o_ild 3, o_lald, o_ald 0, o_getR 8 2, o_ild 5, o_lald, o_pure (g_ll (fun x y => x - y)), o_lst 6, o_ild 5, o_ild 1] 68 := .cons (ok_iload (by decide +kernel)) (.cons (ok_bipush (n := 6) (by decide +kernel) (by decide)) (.cons (ok_imul (by decide +kernel)) (.cons (ok_iload_n (k := 3) rfl (by decide +kernel)) (.cons (ok_iadd (by decide +kernel)) (.cons (ok_istore (by decide +kernel)) (.cons (ok_aload_n (k := 0) rfl (by decide +kernel)) (.cons (ok_getR fl_8_30 rfl (by decide +kernel)) (.cons (ok_iload_n (k := 3) rfl (by decide +kernel)) (.cons (ok_laload (by decide +kernel)) (.cons (ok_aload_n (k := 0) rfl (by decide +kernel)) (.cons (ok_getR fl_8_17 rfl (by decide +kernel)) (.cons (ok_iload (by decide +kernel)) (.cons (ok_laload (by decide +kernel)) (.cons (ok_lsub (by decide +kernel)) (.cons (ok_lstore (by decide +kernel)) (.cons (ok_iload (by decide +kernel)) (.cons (ok_iload_n (k := 1) rfl (by decide +kernel)) .nil)))))))))))))))))
theorem B_X8_approachRows_71 : Blk m_X8_approachRows 71 [o_ald 0, o_getR 8 0, o_ild 5, o_iald] 78 := .cons (ok_aload_n (k := 0) rfl (by decide +kernel)) (.cons (ok_getR fl_8_11 rfl (by decide +kernel)) (.cons (ok_iload (by decide +kernel)) (.cons (ok_iaload (by decide +kernel)) .nil)))
theorem B_X8_approachRows_81 : Blk m_X8_approachRows 81 [o_lld 6, o_ald 0, o_getR 8 5, o_ild 4, o_lald, o_pure (g_cmp)] 91 := .cons (ok_lload (by decide +kernel)) (.cons (ok_aload_n (k := 0) rfl (by decide +kernel)) (.cons (ok_getR fl_8_27 rfl (by decide +kernel)) (.cons (ok_iload (by decide +kernel)) (.cons (ok_laload (by decide +kernel)) (.cons (ok_lcmp (by decide +kernel)) .nil)))))
theorem B_X8_approachRows_94 : Blk m_X8_approachRows 94 [o_ald 0, o_getR 8 5, o_ild 4, o_lld 6, o_last, o_ald 0, o_getR 8 7, o_ild 4, o_ild 3, o_iast, o_pure (g_push (.int 1)), o_ist 2, o_iinc 4 1, o_pure g_id] 31 := .cons (ok_aload_n (k := 0) rfl (by decide +kernel)) (.cons (ok_getR fl_8_27 rfl (by decide +kernel)) (.cons (ok_iload (by decide +kernel)) (.cons (ok_lload (by decide +kernel)) (.cons (ok_lastore (by decide +kernel)) (.cons (ok_aload_n (k := 0) rfl (by decide +kernel)) (.cons (ok_getR fl_8_33 rfl (by decide +kernel)) (.cons (ok_iload (by decide +kernel)) (.cons (ok_iload_n (k := 3) rfl (by decide +kernel)) (.cons (ok_iastore (by decide +kernel)) (.cons (ok_iconst (n := 1) (by decide +kernel) (by decide)) (.cons (ok_istore_n (k := 2) rfl (by decide +kernel)) (.cons (ok_iinc (z := 1) (by decide +kernel) (by decide)) (.cons (ok_goto (off := (-85)) (tgt := 31) (by decide +kernel) (by decide)) .nil)))))))))))))
theorem B_X8_approachRows_113 : Blk m_X8_approachRows 113 [o_iinc 4 1, o_pure g_id] 31 := .cons (ok_iinc (z := 1) (by decide +kernel) (by decide)) (.cons (ok_goto (off := (-85)) (tgt := 31) (by decide +kernel) (by decide)) .nil)
theorem B_X8_approachRows_119 : Blk m_X8_approachRows 119 [o_iinc 3 1, o_pure g_id] 4 := .cons (ok_iinc (z := 1) (by decide +kernel) (by decide)) (.cons (ok_goto (off := (-118)) (tgt := 4) (by decide +kernel) (by decide)) .nil)
theorem B_X8_approachRows_125 : Blk m_X8_approachRows 125 [o_ild 2] 126 := .cons (ok_iload_n (k := 2) rfl (by decide +kernel)) .nil
theorem B_X8_slackOfPath_0 : Blk m_X8_slackOfPath 0 [o_ild 2, o_ist 3, o_ald 0, o_getR 8 8, o_ild 1, o_iald, o_ist 4, o_pure (g_push (.int 0)), o_ist 5] 13 := .cons (ok_iload_n (k := 2) rfl (by decide +kernel)) (.cons (ok_istore_n (k := 3) rfl (by decide +kernel)) (.cons (ok_aload_n (k := 0) rfl (by decide +kernel)) (.cons (ok_getR fl_8_36 rfl (by decide +kernel)) (.cons (ok_iload_n (k := 1) rfl (by decide +kernel)) (.cons (ok_iaload (by decide +kernel)) (.cons (ok_istore (by decide +kernel)) (.cons (ok_iconst (n := 0) (by decide +kernel) (by decide)) (.cons (ok_istore (by decide +kernel)) .nil))))))))
theorem B_X8_slackOfPath_13 : Blk m_X8_slackOfPath 13 [o_ild 5, o_ald 0, o_getI 8 1] 19 := .cons (ok_iload (by decide +kernel)) (.cons (ok_aload_n (k := 0) rfl (by decide +kernel)) (.cons (ok_getI fl_8_49 rfl (by decide +kernel)) .nil))
theorem B_X8_slackOfPath_22 : Blk m_X8_slackOfPath 22 [o_ild 4] 24 := .cons (ok_iload (by decide +kernel)) .nil
theorem B_X8_slackOfPath_27 : Blk m_X8_slackOfPath 27 [o_ald 0, o_getR 8 7, o_ild 4, o_iald] 34 := .cons (ok_aload_n (k := 0) rfl (by decide +kernel)) (.cons (ok_getR fl_8_33 rfl (by decide +kernel)) (.cons (ok_iload (by decide +kernel)) (.cons (ok_iaload (by decide +kernel)) .nil)))
theorem B_X8_slackOfPath_37 : Blk m_X8_slackOfPath 37 [o_ald 0, o_getR 8 7, o_ild 4, o_iald, o_ist 6, o_ild 3, o_ald 0, o_getR 8 0, o_ild 4, o_pure (g_push (.int 6)), o_pure (g_ii (fun x y => x * y)), o_ild 6, o_pure (g_ii (fun x y => x + y)), o_iald, o_pure (g_m2 (fun x y => if y < x then y else x)), o_ist 3, o_ald 0, o_getR 8 8, o_ild 6, o_iald, o_ist 4, o_iinc 5 1, o_pure g_id] 13 := .cons (ok_aload_n (k := 0) rfl (by decide +kernel)) (.cons (ok_getR fl_8_33 rfl (by decide +kernel)) (.cons (ok_iload (by decide +kernel)) (.cons (ok_iaload (by decide +kernel)) (.cons (ok_istore (by decide +kernel)) (.cons (ok_iload_n (k := 3) rfl (by decide +kernel)) (.cons (ok_aload_n (k := 0) rfl (by decide +kernel)) (.cons (ok_getR fl_8_11 rfl (by decide +kernel)) (.cons (ok_iload (by decide +kernel)) (.cons (ok_bipush (n := 6) (by decide +kernel) (by decide)) (.cons (ok_imul (by decide +kernel)) (.cons (ok_iload (by decide +kernel)) (.cons (ok_iadd (by decide +kernel)) (.cons (ok_iaload (by decide +kernel)) (.cons (ok_mmin ml_8_63 jw_mins jw_math jw_minc (by decide +kernel)) (.cons (ok_istore_n (k := 3) rfl (by decide +kernel)) (.cons (ok_aload_n (k := 0) rfl (by decide +kernel)) (.cons (ok_getR fl_8_36 rfl (by decide +kernel)) (.cons (ok_iload (by decide +kernel)) (.cons (ok_iaload (by decide +kernel)) (.cons (ok_istore (by decide +kernel)) (.cons (ok_iinc (z := 1) (by decide +kernel) (by decide)) (.cons (ok_goto (off := (-63)) (tgt := 13) (by decide +kernel) (by decide)) .nil))))))))))))))))))))))
theorem B_X8_slackOfPath_79 : Blk m_X8_slackOfPath 79 [o_ild 3] 80 := .cons (ok_iload_n (k := 3) rfl (by decide +kernel)) .nil
theorem B_X8_shiftAlongPath_0 : Blk m_X8_shiftAlongPath 0 [o_ild 1, o_ist 3, o_pure (g_push (.int 0)), o_ist 4] 5 := .cons (ok_iload_n (k := 1) rfl (by decide +kernel)) (.cons (ok_istore_n (k := 3) rfl (by decide +kernel)) (.cons (ok_iconst (n := 0) (by decide +kernel) (by decide)) (.cons (ok_istore (by decide +kernel)) .nil)))
theorem B_X8_shiftAlongPath_5 : Blk m_X8_shiftAlongPath 5 [o_ild 4, o_ald 0, o_getI 8 1] 11 := .cons (ok_iload (by decide +kernel)) (.cons (ok_aload_n (k := 0) rfl (by decide +kernel)) (.cons (ok_getI fl_8_49 rfl (by decide +kernel)) .nil))
theorem B_X8_shiftAlongPath_14 : Blk m_X8_shiftAlongPath 14 [o_ild 3] 15 := .cons (ok_iload_n (k := 3) rfl (by decide +kernel)) .nil
theorem B_X8_shiftAlongPath_18 : Blk m_X8_shiftAlongPath 18 [o_ald 0, o_getR 8 8, o_ild 3, o_iald, o_ist 5, o_ild 5] 28 := .cons (ok_aload_n (k := 0) rfl (by decide +kernel)) (.cons (ok_getR fl_8_36 rfl (by decide +kernel)) (.cons (ok_iload_n (k := 3) rfl (by decide +kernel)) (.cons (ok_iaload (by decide +kernel)) (.cons (ok_istore (by decide +kernel)) (.cons (ok_iload (by decide +kernel)) .nil)))))
theorem B_X8_shiftAlongPath_32 : Blk m_X8_shiftAlongPath 32 [o_ald 0, o_getR 8 0, o_ild 5, o_pure (g_push (.int 6)), o_pure (g_ii (fun x y => x * y)), o_ild 3, o_pure (g_ii (fun x y => x + y)), o_pure (g_dup2), o_iald, o_ild 2, o_pure (g_ii (fun x y => x + y)), o_iast, o_ald 0, o_getR 8 7, o_ild 5, o_iald, o_ist 3, o_ild 3] 57 := .cons (ok_aload_n (k := 0) rfl (by decide +kernel)) (.cons (ok_getR fl_8_11 rfl (by decide +kernel)) (.cons (ok_iload (by decide +kernel)) (.cons (ok_bipush (n := 6) (by decide +kernel) (by decide)) (.cons (ok_imul (by decide +kernel)) (.cons (ok_iload_n (k := 3) rfl (by decide +kernel)) (.cons (ok_iadd (by decide +kernel)) (.cons (ok_dup2 (by decide +kernel)) (.cons (ok_iaload (by decide +kernel)) (.cons (ok_iload_n (k := 2) rfl (by decide +kernel)) (.cons (ok_iadd (by decide +kernel)) (.cons (ok_iastore (by decide +kernel)) (.cons (ok_aload_n (k := 0) rfl (by decide +kernel)) (.cons (ok_getR fl_8_33 rfl (by decide +kernel)) (.cons (ok_iload (by decide +kernel)) (.cons (ok_iaload (by decide +kernel)) (.cons (ok_istore_n (k := 3) rfl (by decide +kernel)) (.cons (ok_iload_n (k := 3) rfl (by decide +kernel)) .nil)))))))))))))))))
theorem B_X8_shiftAlongPath_60 : Blk m_X8_shiftAlongPath 60 [o_ald 0, o_getR 8 0, o_ild 5, o_pure (g_push (.int 6)), o_pure (g_ii (fun x y => x * y)), o_ild 3, o_pure (g_ii (fun x y => x + y)), o_pure (g_dup2), o_iald, o_ild 2, o_pure (g_ii (fun x y => x - y)), o_iast, o_iinc 4 1, o_pure g_id] 5 := .cons (ok_aload_n (k := 0) rfl (by decide +kernel)) (.cons (ok_getR fl_8_11 rfl (by decide +kernel)) (.cons (ok_iload (by decide +kernel)) (.cons (ok_bipush (n := 6) (by decide +kernel) (by decide)) (.cons (ok_imul (by decide +kernel)) (.cons (ok_iload_n (k := 3) rfl (by decide +kernel)) (.cons (ok_iadd (by decide +kernel)) (.cons (ok_dup2 (by decide +kernel)) (.cons (ok_iaload (by decide +kernel)) (.cons (ok_iload_n (k := 2) rfl (by decide +kernel)) (.cons (ok_isub (by decide +kernel)) (.cons (ok_iastore (by decide +kernel)) (.cons (ok_iinc (z := 1) (by decide +kernel) (by decide)) (.cons (ok_goto (off := (-74)) (tgt := 5) (by decide +kernel) (by decide)) .nil)))))))))))))
theorem B_X8_shiftAlongPath_76 : Blk m_X8_shiftAlongPath 76 [o_iinc 4 1, o_pure g_id] 5 := .cons (ok_iinc (z := 1) (by decide +kernel) (by decide)) (.cons (ok_goto (off := (-74)) (tgt := 5) (by decide +kernel) (by decide)) .nil)
end
section
/-! the stretches of instructions of each method: printed by program -/
theorem B_X9_init_0 : Blk m_X9_init 0 [o_ald 0, o_pure g_oi, o_ald 0] 5 := .cons (ok_aload_n (k := 0) rfl (by decide +kernel)) (.cons (ok_oi ml_9_3 jw_oii jw_oic (by decide +kernel)) (.cons (ok_aload_n (k := 0) rfl (by decide +kernel)) .nil))
theorem B_X9_init_8 : Blk m_X9_init 8 [o_pure (g_dup)] 9 := .cons (ok_dup (by decide +kernel)) .nil
theorem B_X9_init_15 : Blk m_X9_init 15 [o_ald 0] 16 := .cons (ok_aload_n (k := 0) rfl (by decide +kernel)) .nil
theorem B_X9_init_19 : Blk m_X9_init 19 [o_pure (g_dup)] 20 := .cons (ok_dup (by decide +kernel)) .nil
theorem B_X9_init_26 : Blk m_X9_init 26 [o_ald 0] 27 := .cons (ok_aload_n (k := 0) rfl (by decide +kernel)) .nil
theorem B_X9_init_30 : Blk m_X9_init 30 [o_pure (g_dup)] 31 := .cons (ok_dup (by decide +kernel)) .nil
theorem B_X9_init_37 : Blk m_X9_init 37 [o_ald 0, o_pure (g_push (.int 0)), o_putZ 9 3, o_ald 0] 43 := .cons (ok_aload_n (k := 0) rfl (by decide +kernel)) (.cons (ok_iconst (n := 0) (by decide +kernel) (by decide)) (.cons (ok_putZ fl_9_24 rfl (by decide +kernel)) (.cons (ok_aload_n (k := 0) rfl (by decide +kernel)) .nil)))
theorem B_X9_init_46 : Blk m_X9_init 46 [o_pure (g_dup)] 47 := .cons (ok_dup (by decide +kernel)) .nil
theorem B_X9_init_53 : Blk m_X9_init 53 [o_ald 0] 54 := .cons (ok_aload_n (k := 0) rfl (by decide +kernel)) .nil
theorem B_X9_init_57 : Blk m_X9_init 57 [o_pure (g_dup)] 58 := .cons (ok_dup (by decide +kernel)) .nil
theorem B_X9_init_64 : Blk m_X9_init 64 [o_ald 0] 65 := .cons (ok_aload_n (k := 0) rfl (by decide +kernel)) .nil
theorem B_X9_init_68 : Blk m_X9_init 68 [o_pure (g_dup)] 69 := .cons (ok_dup (by decide +kernel)) .nil
theorem B_X9_init_75 : Blk m_X9_init 75 [o_ald 0] 76 := .cons (ok_aload_n (k := 0) rfl (by decide +kernel)) .nil
theorem B_X9_init_79 : Blk m_X9_init 79 [o_pure (g_dup)] 80 := .cons (ok_dup (by decide +kernel)) .nil
theorem B_X9_init_86 : Blk m_X9_init 86 [o_ald 0] 87 := .cons (ok_aload_n (k := 0) rfl (by decide +kernel)) .nil
theorem B_X9_init_90 : Blk m_X9_init 90 [o_pure (g_dup)] 91 := .cons (ok_dup (by decide +kernel)) .nil
theorem B_X9_init_97 : Blk m_X9_init 97 [o_ald 0, o_ald 0, o_getR 9 8, o_getR 2 0] 105 := .cons (ok_aload_n (k := 0) rfl (by decide +kernel)) (.cons (ok_aload_n (k := 0) rfl (by decide +kernel)) (.cons (ok_getR fl_9_59 rfl (by decide +kernel)) (.cons (ok_getR fl_9_63 rfl (by decide +kernel)) .nil)))
theorem B_X9_init_108 : Blk m_X9_init 108 [o_ald 0] 109 := .cons (ok_aload_n (k := 0) rfl (by decide +kernel)) .nil
theorem B_X9_init_112 : Blk m_X9_init 112 [o_pure (g_dup)] 113 := .cons (ok_dup (by decide +kernel)) .nil
theorem B_X9_reset_0 : Blk m_X9_reset 0 [o_ild 1, o_pure (g_push (.int 1)), o_pure (g_push (.int 6))] 4 := .cons (ok_iload_n (k := 1) rfl (by decide +kernel)) (.cons (ok_iconst (n := 1) (by decide +kernel) (by decide)) (.cons (ok_bipush (n := 6) (by decide +kernel) (by decide)) .nil))
theorem B_X9_reset_10 : Blk m_X9_reset 10 [o_ild 2, o_pure (g_push (.int 1)), o_pure (g_push (.int 12))] 14 := .cons (ok_iload_n (k := 2) rfl (by decide +kernel)) (.cons (ok_iconst (n := 1) (by decide +kernel) (by decide)) (.cons (ok_bipush (n := 12) (by decide +kernel) (by decide)) .nil))
theorem B_X9_reset_20 : Blk m_X9_reset 20 [o_pure (g_push (.int (-1)))] 21 := .cons (ok_iconst (n := (-1)) (by decide +kernel) (by decide)) .nil
theorem B_X9_reset_22 : Blk m_X9_reset 22 [o_ald 0, o_getR 9 0, o_getI 1 0, o_ist 3, o_ald 0, o_getR 9 0, o_ild 1, o_ild 2] 36 := .cons (ok_aload_n (k := 0) rfl (by decide +kernel)) (.cons (ok_getR fl_9_12 rfl (by decide +kernel)) (.cons (ok_getI fl_9_81 rfl (by decide +kernel)) (.cons (ok_istore_n (k := 3) rfl (by decide +kernel)) (.cons (ok_aload_n (k := 0) rfl (by decide +kernel)) (.cons (ok_getR fl_9_12 rfl (by decide +kernel)) (.cons (ok_iload_n (k := 1) rfl (by decide +kernel)) (.cons (ok_iload_n (k := 2) rfl (by decide +kernel)) .nil)))))))
theorem B_X9_reset_39 : Blk m_X9_reset 39 [o_ald 0, o_getR 9 4] 43 := .cons (ok_aload_n (k := 0) rfl (by decide +kernel)) (.cons (ok_getR fl_9_31 rfl (by decide +kernel)) .nil)
theorem B_X9_reset_46 : Blk m_X9_reset 46 [o_ild 3] 47 := .cons (ok_iload_n (k := 3) rfl (by decide +kernel)) .nil
theorem B_X9_states_0 : Blk m_X9_states 0 [o_ald 0, o_getR 9 0, o_getI 1 0] 7 := .cons (ok_aload_n (k := 0) rfl (by decide +kernel)) (.cons (ok_getR fl_9_12 rfl (by decide +kernel)) (.cons (ok_getI fl_9_81 rfl (by decide +kernel)) .nil))
theorem B_X9_resolution_0 : Blk m_X9_resolution 0 [o_ald 0, o_getR 9 0, o_getI 1 1] 7 := .cons (ok_aload_n (k := 0) rfl (by decide +kernel)) (.cons (ok_getR fl_9_12 rfl (by decide +kernel)) (.cons (ok_getI fl_9_92 rfl (by decide +kernel)) .nil))
theorem B_X9_setLabel_0 : Blk m_X9_setLabel 0 [o_ald 0, o_getR 9 0, o_ild 1] 5 := .cons (ok_aload_n (k := 0) rfl (by decide +kernel)) (.cons (ok_getR fl_9_12 rfl (by decide +kernel)) (.cons (ok_iload_n (k := 1) rfl (by decide +kernel)) .nil))
theorem B_X9_setLabel_11 : Blk m_X9_setLabel 11 [o_pure (g_push (.int (-2)))] 13 := .cons (ok_bipush (n := (-2)) (by decide +kernel) (by decide)) .nil
theorem B_X9_setLabel_14 : Blk m_X9_setLabel 14 [o_ild 2, o_pure (g_push (.int 0)), o_pure (g_push (.int 3))] 17 := .cons (ok_iload_n (k := 2) rfl (by decide +kernel)) (.cons (ok_iconst (n := 0) (by decide +kernel) (by decide)) (.cons (ok_iconst (n := 3) (by decide +kernel) (by decide)) .nil))
theorem B_X9_setLabel_23 : Blk m_X9_setLabel 23 [o_pure (g_push (.int (-1)))] 24 := .cons (ok_iconst (n := (-1)) (by decide +kernel) (by decide)) .nil
theorem B_X9_setLabel_25 : Blk m_X9_setLabel 25 [o_ald 0, o_getR 9 0, o_getR 1 4, o_ild 1, o_iald, o_ist 3, o_ild 3, o_ild 2] 37 := .cons (ok_aload_n (k := 0) rfl (by decide +kernel)) (.cons (ok_getR fl_9_12 rfl (by decide +kernel)) (.cons (ok_getR fl_9_99 rfl (by decide +kernel)) (.cons (ok_iload_n (k := 1) rfl (by decide +kernel)) (.cons (ok_iaload (by decide +kernel)) (.cons (ok_istore_n (k := 3) rfl (by decide +kernel)) (.cons (ok_iload_n (k := 3) rfl (by decide +kernel)) (.cons (ok_iload_n (k := 2) rfl (by decide +kernel)) .nil)))))))
theorem B_X9_setLabel_40 : Blk m_X9_setLabel 40 [o_ald 0, o_getR 9 4, o_ald 0, o_getR 9 0] 48 := .cons (ok_aload_n (k := 0) rfl (by decide +kernel)) (.cons (ok_getR fl_9_31 rfl (by decide +kernel)) (.cons (ok_aload_n (k := 0) rfl (by decide +kernel)) (.cons (ok_getR fl_9_12 rfl (by decide +kernel)) .nil)))
theorem B_X9_setLabel_51 : Blk m_X9_setLabel 51 [o_ald 0, o_getR 9 0, o_getR 1 4, o_ild 1, o_ild 2, o_iast, o_ild 3] 62 := .cons (ok_aload_n (k := 0) rfl (by decide +kernel)) (.cons (ok_getR fl_9_12 rfl (by decide +kernel)) (.cons (ok_getR fl_9_99 rfl (by decide +kernel)) (.cons (ok_iload_n (k := 1) rfl (by decide +kernel)) (.cons (ok_iload_n (k := 2) rfl (by decide +kernel)) (.cons (ok_iastore (by decide +kernel)) (.cons (ok_iload_n (k := 3) rfl (by decide +kernel)) .nil))))))
theorem B_X9_setLabel_61 : Blk m_X9_setLabel 61 [o_ild 3] 62 := .cons (ok_iload_n (k := 3) rfl (by decide +kernel)) .nil
theorem B_X9_label_0 : Blk m_X9_label 0 [o_ald 0, o_getR 9 0, o_ild 1] 5 := .cons (ok_aload_n (k := 0) rfl (by decide +kernel)) (.cons (ok_getR fl_9_12 rfl (by decide +kernel)) (.cons (ok_iload_n (k := 1) rfl (by decide +kernel)) .nil))
theorem B_X9_label_11 : Blk m_X9_label 11 [o_pure (g_push (.int (-2)))] 13 := .cons (ok_bipush (n := (-2)) (by decide +kernel) (by decide)) .nil
theorem B_X9_label_14 : Blk m_X9_label 14 [o_ald 0, o_getR 9 0, o_getR 1 4, o_ild 1, o_iald] 23 := .cons (ok_aload_n (k := 0) rfl (by decide +kernel)) (.cons (ok_getR fl_9_12 rfl (by decide +kernel)) (.cons (ok_getR fl_9_99 rfl (by decide +kernel)) (.cons (ok_iload_n (k := 1) rfl (by decide +kernel)) (.cons (ok_iaload (by decide +kernel)) .nil))))
theorem B_X9_moveWeight_0 : Blk m_X9_moveWeight 0 [o_ald 0, o_getR 9 0, o_ild 1] 5 := .cons (ok_aload_n (k := 0) rfl (by decide +kernel)) (.cons (ok_getR fl_9_12 rfl (by decide +kernel)) (.cons (ok_iload_n (k := 1) rfl (by decide +kernel)) .nil))
theorem B_X9_moveWeight_11 : Blk m_X9_moveWeight 11 [o_ald 0, o_getR 9 0, o_ild 2] 16 := .cons (ok_aload_n (k := 0) rfl (by decide +kernel)) (.cons (ok_getR fl_9_12 rfl (by decide +kernel)) (.cons (ok_iload_n (k := 2) rfl (by decide +kernel)) .nil))
theorem B_X9_moveWeight_22 : Blk m_X9_moveWeight 22 [o_ald 0, o_getR 9 0, o_ild 3] 27 := .cons (ok_aload_n (k := 0) rfl (by decide +kernel)) (.cons (ok_getR fl_9_12 rfl (by decide +kernel)) (.cons (ok_iload_n (k := 3) rfl (by decide +kernel)) .nil))
theorem B_X9_moveWeight_33 : Blk m_X9_moveWeight 33 [o_pure (g_push (.int (-2)))] 35 := .cons (ok_bipush (n := (-2)) (by decide +kernel) (by decide)) .nil
theorem B_X9_moveWeight_36 : Blk m_X9_moveWeight 36 [o_ild 4, o_pure (g_push (.int 0)), o_pure (g_push (.int 12))] 41 := .cons (ok_iload (by decide +kernel)) (.cons (ok_iconst (n := 0) (by decide +kernel) (by decide)) (.cons (ok_bipush (n := 12) (by decide +kernel) (by decide)) .nil))
theorem B_X9_moveWeight_47 : Blk m_X9_moveWeight 47 [o_pure (g_push (.int (-1)))] 48 := .cons (ok_iconst (n := (-1)) (by decide +kernel) (by decide)) .nil
theorem B_X9_moveWeight_49 : Blk m_X9_moveWeight 49 [o_ild 1, o_pure (g_push (.int 6)), o_pure (g_ii (fun x y => x * y)), o_ild 2, o_pure (g_ii (fun x y => x + y)), o_ist 5, o_ild 1, o_pure (g_push (.int 6)), o_pure (g_ii (fun x y => x * y)), o_ild 3, o_pure (g_ii (fun x y => x + y)), o_ist 6, o_ild 4, o_ald 0, o_getR 9 0, o_getR 1 5, o_ild 5, o_iald] 77 := .cons (ok_iload_n (k := 1) rfl (by decide +kernel)) (.cons (ok_bipush (n := 6) (by decide +kernel) (by decide)) (.cons (ok_imul (by decide +kernel)) (.cons (ok_iload_n (k := 2) rfl (by decide +kernel)) (.cons (ok_iadd (by decide +kernel)) (.cons (ok_istore (by decide +kernel)) (.cons (ok_iload_n (k := 1) rfl (by decide +kernel)) (.cons (ok_bipush (n := 6) (by decide +kernel) (by decide)) (.cons (ok_imul (by decide +kernel)) (.cons (ok_iload_n (k := 3) rfl (by decide +kernel)) (.cons (ok_iadd (by decide +kernel)) (.cons (ok_istore (by decide +kernel)) (.cons (ok_iload (by decide +kernel)) (.cons (ok_aload_n (k := 0) rfl (by decide +kernel)) (.cons (ok_getR fl_9_12 rfl (by decide +kernel)) (.cons (ok_getR fl_9_107 rfl (by decide +kernel)) (.cons (ok_iload (by decide +kernel)) (.cons (ok_iaload (by decide +kernel)) .nil)))))))))))))))))
theorem B_X9_moveWeight_80 : Blk m_X9_moveWeight 80 [o_pure (g_push (.int (-3)))] 82 := .cons (ok_bipush (n := (-3)) (by decide +kernel) (by decide)) .nil
theorem B_X9_moveWeight_83 : Blk m_X9_moveWeight 83 [o_ild 2, o_ild 3] 85 := .cons (ok_iload_n (k := 2) rfl (by decide +kernel)) (.cons (ok_iload_n (k := 3) rfl (by decide +kernel)) .nil)
theorem B_X9_moveWeight_88 : Blk m_X9_moveWeight 88 [o_ild 4] 90 := .cons (ok_iload (by decide +kernel)) .nil
theorem B_X9_moveWeight_93 : Blk m_X9_moveWeight 93 [o_ald 0, o_getR 9 4, o_ald 0, o_getR 9 0] 101 := .cons (ok_aload_n (k := 0) rfl (by decide +kernel)) (.cons (ok_getR fl_9_31 rfl (by decide +kernel)) (.cons (ok_aload_n (k := 0) rfl (by decide +kernel)) (.cons (ok_getR fl_9_12 rfl (by decide +kernel)) .nil)))
theorem B_X9_moveWeight_104 : Blk m_X9_moveWeight 104 [o_ald 0, o_getR 9 0, o_getR 1 5, o_ild 5, o_pure (g_dup2), o_iald, o_ild 4, o_pure (g_ii (fun x y => x - y)), o_iast, o_ald 0, o_getR 9 0, o_getR 1 5, o_ild 6, o_pure (g_dup2), o_iald, o_ild 4, o_pure (g_ii (fun x y => x + y)), o_iast, o_ald 0, o_getR 9 0, o_getR 1 5, o_ild 6, o_iald] 144 := .cons (ok_aload_n (k := 0) rfl (by decide +kernel)) (.cons (ok_getR fl_9_12 rfl (by decide +kernel)) (.cons (ok_getR fl_9_107 rfl (by decide +kernel)) (.cons (ok_iload (by decide +kernel)) (.cons (ok_dup2 (by decide +kernel)) (.cons (ok_iaload (by decide +kernel)) (.cons (ok_iload (by decide +kernel)) (.cons (ok_isub (by decide +kernel)) (.cons (ok_iastore (by decide +kernel)) (.cons (ok_aload_n (k := 0) rfl (by decide +kernel)) (.cons (ok_getR fl_9_12 rfl (by decide +kernel)) (.cons (ok_getR fl_9_107 rfl (by decide +kernel)) (.cons (ok_iload (by decide +kernel)) (.cons (ok_dup2 (by decide +kernel)) (.cons (ok_iaload (by decide +kernel)) (.cons (ok_iload (by decide +kernel)) (.cons (ok_iadd (by decide +kernel)) (.cons (ok_iastore (by decide +kernel)) (.cons (ok_aload_n (k := 0) rfl (by decide +kernel)) (.cons (ok_getR fl_9_12 rfl (by decide +kernel)) (.cons (ok_getR fl_9_107 rfl (by decide +kernel)) (.cons (ok_iload (by decide +kernel)) (.cons (ok_iaload (by decide +kernel)) .nil))))))))))))))))))))))
theorem B_X9_moveWeight_134 : Blk m_X9_moveWeight 134 [o_ald 0, o_getR 9 0, o_getR 1 5, o_ild 6, o_iald] 144 := .cons (ok_aload_n (k := 0) rfl (by decide +kernel)) (.cons (ok_getR fl_9_12 rfl (by decide +kernel)) (.cons (ok_getR fl_9_107 rfl (by decide +kernel)) (.cons (ok_iload (by decide +kernel)) (.cons (ok_iaload (by decide +kernel)) .nil))))
theorem B_X9_weight_0 : Blk m_X9_weight 0 [o_ald 0, o_getR 9 0, o_ild 1] 5 := .cons (ok_aload_n (k := 0) rfl (by decide +kernel)) (.cons (ok_getR fl_9_12 rfl (by decide +kernel)) (.cons (ok_iload_n (k := 1) rfl (by decide +kernel)) .nil))
theorem B_X9_weight_11 : Blk m_X9_weight 11 [o_ald 0, o_getR 9 0, o_ild 2] 16 := .cons (ok_aload_n (k := 0) rfl (by decide +kernel)) (.cons (ok_getR fl_9_12 rfl (by decide +kernel)) (.cons (ok_iload_n (k := 2) rfl (by decide +kernel)) .nil))
theorem B_X9_weight_22 : Blk m_X9_weight 22 [o_pure (g_push (.int (-2)))] 24 := .cons (ok_bipush (n := (-2)) (by decide +kernel) (by decide)) .nil
theorem B_X9_weight_25 : Blk m_X9_weight 25 [o_ald 0, o_getR 9 0, o_getR 1 5, o_ild 1, o_pure (g_push (.int 6)), o_pure (g_ii (fun x y => x * y)), o_ild 2, o_pure (g_ii (fun x y => x + y)), o_iald] 39 := .cons (ok_aload_n (k := 0) rfl (by decide +kernel)) (.cons (ok_getR fl_9_12 rfl (by decide +kernel)) (.cons (ok_getR fl_9_107 rfl (by decide +kernel)) (.cons (ok_iload_n (k := 1) rfl (by decide +kernel)) (.cons (ok_bipush (n := 6) (by decide +kernel) (by decide)) (.cons (ok_imul (by decide +kernel)) (.cons (ok_iload_n (k := 2) rfl (by decide +kernel)) (.cons (ok_iadd (by decide +kernel)) (.cons (ok_iaload (by decide +kernel)) .nil))))))))
theorem B_X9_setDiscount_0 : Blk m_X9_setDiscount 0 [o_ild 2, o_pure (g_push (.int 1)), o_pure (g_push (.int 4))] 3 := .cons (ok_iload_n (k := 2) rfl (by decide +kernel)) (.cons (ok_iconst (n := 1) (by decide +kernel) (by decide)) (.cons (ok_iconst (n := 4) (by decide +kernel) (by decide)) .nil))
theorem B_X9_setDiscount_9 : Blk m_X9_setDiscount 9 [o_ild 1, o_pure (g_push (.int 0)), o_ild 2] 12 := .cons (ok_iload_n (k := 1) rfl (by decide +kernel)) (.cons (ok_iconst (n := 0) (by decide +kernel) (by decide)) (.cons (ok_iload_n (k := 2) rfl (by decide +kernel)) .nil))
theorem B_X9_setDiscount_18 : Blk m_X9_setDiscount 18 [o_pure (g_push (.int (-1)))] 19 := .cons (ok_iconst (n := (-1)) (by decide +kernel) (by decide)) .nil
theorem B_X9_setDiscount_20 : Blk m_X9_setDiscount 20 [o_ild 1, o_ald 0, o_getR 9 0, o_getI 1 2] 28 := .cons (ok_iload_n (k := 1) rfl (by decide +kernel)) (.cons (ok_aload_n (k := 0) rfl (by decide +kernel)) (.cons (ok_getR fl_9_12 rfl (by decide +kernel)) (.cons (ok_getI fl_9_110 rfl (by decide +kernel)) .nil)))
theorem B_X9_setDiscount_31 : Blk m_X9_setDiscount 31 [o_ild 2, o_ald 0, o_getR 9 0, o_getI 1 3] 39 := .cons (ok_iload_n (k := 2) rfl (by decide +kernel)) (.cons (ok_aload_n (k := 0) rfl (by decide +kernel)) (.cons (ok_getR fl_9_12 rfl (by decide +kernel)) (.cons (ok_getI fl_9_113 rfl (by decide +kernel)) .nil)))
theorem B_X9_setDiscount_42 : Blk m_X9_setDiscount 42 [o_pure (g_push (.int 0))] 43 := .cons (ok_iconst (n := 0) (by decide +kernel) (by decide)) .nil
theorem B_X9_setDiscount_44 : Blk m_X9_setDiscount 44 [o_ald 0, o_getR 9 4, o_ald 0, o_getR 9 0] 52 := .cons (ok_aload_n (k := 0) rfl (by decide +kernel)) (.cons (ok_getR fl_9_31 rfl (by decide +kernel)) (.cons (ok_aload_n (k := 0) rfl (by decide +kernel)) (.cons (ok_getR fl_9_12 rfl (by decide +kernel)) .nil)))
theorem B_X9_setDiscount_55 : Blk m_X9_setDiscount 55 [o_ald 0, o_getR 9 0, o_ild 1, o_putI 1 2, o_ald 0, o_getR 9 0, o_ild 2, o_putI 1 3, o_pure (g_push (.int 1))] 72 := .cons (ok_aload_n (k := 0) rfl (by decide +kernel)) (.cons (ok_getR fl_9_12 rfl (by decide +kernel)) (.cons (ok_iload_n (k := 1) rfl (by decide +kernel)) (.cons (ok_putI fl_9_110 rfl (by decide +kernel)) (.cons (ok_aload_n (k := 0) rfl (by decide +kernel)) (.cons (ok_getR fl_9_12 rfl (by decide +kernel)) (.cons (ok_iload_n (k := 2) rfl (by decide +kernel)) (.cons (ok_putI fl_9_113 rfl (by decide +kernel)) (.cons (ok_iconst (n := 1) (by decide +kernel) (by decide)) .nil))))))))
theorem B_X9_swapStates_0 : Blk m_X9_swapStates 0 [o_ald 0, o_getR 9 0, o_ild 1] 5 := .cons (ok_aload_n (k := 0) rfl (by decide +kernel)) (.cons (ok_getR fl_9_12 rfl (by decide +kernel)) (.cons (ok_iload_n (k := 1) rfl (by decide +kernel)) .nil))
theorem B_X9_swapStates_11 : Blk m_X9_swapStates 11 [o_ald 0, o_getR 9 0, o_ild 2] 16 := .cons (ok_aload_n (k := 0) rfl (by decide +kernel)) (.cons (ok_getR fl_9_12 rfl (by decide +kernel)) (.cons (ok_iload_n (k := 2) rfl (by decide +kernel)) .nil))
theorem B_X9_swapStates_22 : Blk m_X9_swapStates 22 [o_pure (g_push (.int (-2)))] 24 := .cons (ok_bipush (n := (-2)) (by decide +kernel) (by decide)) .nil
theorem B_X9_swapStates_25 : Blk m_X9_swapStates 25 [o_ald 0, o_getR 9 1, o_ald 0, o_getR 9 0, o_ild 1, o_ild 2] 35 := .cons (ok_aload_n (k := 0) rfl (by decide +kernel)) (.cons (ok_getR fl_9_18 rfl (by decide +kernel)) (.cons (ok_aload_n (k := 0) rfl (by decide +kernel)) (.cons (ok_getR fl_9_12 rfl (by decide +kernel)) (.cons (ok_iload_n (k := 1) rfl (by decide +kernel)) (.cons (ok_iload_n (k := 2) rfl (by decide +kernel)) .nil)))))
theorem B_X9_swapStates_38 : Blk m_X9_swapStates 38 [o_ald 0, o_getR 9 1, o_ald 0, o_getR 9 0] 46 := .cons (ok_aload_n (k := 0) rfl (by decide +kernel)) (.cons (ok_getR fl_9_18 rfl (by decide +kernel)) (.cons (ok_aload_n (k := 0) rfl (by decide +kernel)) (.cons (ok_getR fl_9_12 rfl (by decide +kernel)) .nil)))
theorem B_X9_swapStates_52 : Blk m_X9_swapStates 52 [o_pure (g_push (.int 0))] 53 := .cons (ok_iconst (n := 0) (by decide +kernel) (by decide)) .nil
theorem B_X9_swapStates_54 : Blk m_X9_swapStates 54 [o_ald 0, o_getR 9 4, o_ald 0, o_getR 9 0] 62 := .cons (ok_aload_n (k := 0) rfl (by decide +kernel)) (.cons (ok_getR fl_9_31 rfl (by decide +kernel)) (.cons (ok_aload_n (k := 0) rfl (by decide +kernel)) (.cons (ok_getR fl_9_12 rfl (by decide +kernel)) .nil)))
theorem B_X9_swapStates_65 : Blk m_X9_swapStates 65 [o_ald 0, o_getR 9 0, o_ald 0, o_getR 9 1] 73 := .cons (ok_aload_n (k := 0) rfl (by decide +kernel)) (.cons (ok_getR fl_9_12 rfl (by decide +kernel)) (.cons (ok_aload_n (k := 0) rfl (by decide +kernel)) (.cons (ok_getR fl_9_18 rfl (by decide +kernel)) .nil)))
theorem B_X9_swapStates_76 : Blk m_X9_swapStates 76 [o_pure (g_push (.int 1))] 77 := .cons (ok_iconst (n := 1) (by decide +kernel) (by decide)) .nil
theorem B_X9_undo_0 : Blk m_X9_undo 0 [o_ald 0, o_getR 9 4, o_getI 4 0] 7 := .cons (ok_aload_n (k := 0) rfl (by decide +kernel)) (.cons (ok_getR fl_9_31 rfl (by decide +kernel)) (.cons (ok_getI fl_9_127 rfl (by decide +kernel)) .nil))
theorem B_X9_undo_10 : Blk m_X9_undo 10 [o_pure (g_push (.int (-5)))] 12 := .cons (ok_bipush (n := (-5)) (by decide +kernel) (by decide)) .nil
theorem B_X9_undo_13 : Blk m_X9_undo 13 [o_ald 0, o_getR 9 4, o_ald 0, o_getR 9 0] 21 := .cons (ok_aload_n (k := 0) rfl (by decide +kernel)) (.cons (ok_getR fl_9_31 rfl (by decide +kernel)) (.cons (ok_aload_n (k := 0) rfl (by decide +kernel)) (.cons (ok_getR fl_9_12 rfl (by decide +kernel)) .nil)))
theorem B_X9_undo_24 : Blk m_X9_undo 24 [o_ald 0, o_getR 9 4, o_getI 4 0] 31 := .cons (ok_aload_n (k := 0) rfl (by decide +kernel)) (.cons (ok_getR fl_9_31 rfl (by decide +kernel)) (.cons (ok_getI fl_9_127 rfl (by decide +kernel)) .nil))
theorem B_X9_editCount_0 : Blk m_X9_editCount 0 [o_ald 0, o_getR 9 4, o_getI 4 0] 7 := .cons (ok_aload_n (k := 0) rfl (by decide +kernel)) (.cons (ok_getR fl_9_31 rfl (by decide +kernel)) (.cons (ok_getI fl_9_127 rfl (by decide +kernel)) .nil))
theorem B_X9_maximumDepth_0 : Blk m_X9_maximumDepth 0 [o_ald 0] 1 := .cons (ok_aload_n (k := 0) rfl (by decide +kernel)) .nil
theorem B_X9_distanceNumerator_0 : Blk m_X9_distanceNumerator 0 [o_ald 0, o_ild 1, o_ild 2, o_ild 3] 4 := .cons (ok_aload_n (k := 0) rfl (by decide +kernel)) (.cons (ok_iload_n (k := 1) rfl (by decide +kernel)) (.cons (ok_iload_n (k := 2) rfl (by decide +kernel)) (.cons (ok_iload_n (k := 3) rfl (by decide +kernel)) .nil)))
theorem B_X9_distanceNumerator_10 : Blk m_X9_distanceNumerator 10 [o_pure (g_push (.long (-9223372036854775808)))] 13 := .cons (ok_ldc2 (by decide +kernel) co_9_140) .nil
theorem B_X9_distanceNumerator_14 : Blk m_X9_distanceNumerator 14 [o_ald 0, o_getR 9 5, o_ald 0, o_getR 9 0, o_ild 1] 23 := .cons (ok_aload_n (k := 0) rfl (by decide +kernel)) (.cons (ok_getR fl_9_38 rfl (by decide +kernel)) (.cons (ok_aload_n (k := 0) rfl (by decide +kernel)) (.cons (ok_getR fl_9_12 rfl (by decide +kernel)) (.cons (ok_iload_n (k := 1) rfl (by decide +kernel)) .nil))))
theorem B_X9_distanceNumerator_26 : Blk m_X9_distanceNumerator 26 [o_ast 4, o_ald 0, o_getR 9 5, o_ald 4, o_ild 2, o_pure (g_push (.int 6)), o_pure (g_ii (fun x y => x * y)), o_ild 3, o_pure (g_ii (fun x y => x + y)), o_lald, o_ild 1, o_pure (g_push (.int 1))] 43 := .cons (ok_astore (by decide +kernel)) (.cons (ok_aload_n (k := 0) rfl (by decide +kernel)) (.cons (ok_getR fl_9_38 rfl (by decide +kernel)) (.cons (ok_aload (by decide +kernel)) (.cons (ok_iload_n (k := 2) rfl (by decide +kernel)) (.cons (ok_bipush (n := 6) (by decide +kernel) (by decide)) (.cons (ok_imul (by decide +kernel)) (.cons (ok_iload_n (k := 3) rfl (by decide +kernel)) (.cons (ok_iadd (by decide +kernel)) (.cons (ok_laload (by decide +kernel)) (.cons (ok_iload_n (k := 1) rfl (by decide +kernel)) (.cons (ok_iconst (n := 1) (by decide +kernel) (by decide)) .nil)))))))))))
theorem B_X9_distanceDenominator_0 : Blk m_X9_distanceDenominator 0 [o_ald 0, o_ild 1, o_ild 2, o_ild 3] 4 := .cons (ok_aload_n (k := 0) rfl (by decide +kernel)) (.cons (ok_iload_n (k := 1) rfl (by decide +kernel)) (.cons (ok_iload_n (k := 2) rfl (by decide +kernel)) (.cons (ok_iload_n (k := 3) rfl (by decide +kernel)) .nil)))
theorem B_X9_distanceDenominator_10 : Blk m_X9_distanceDenominator 10 [o_pure (g_push (.long (-9223372036854775808)))] 13 := .cons (ok_ldc2 (by decide +kernel) co_9_140) .nil
theorem B_X9_distanceDenominator_14 : Blk m_X9_distanceDenominator 14 [o_ald 0, o_getR 9 5, o_ald 0, o_getR 9 0, o_ild 1] 23 := .cons (ok_aload_n (k := 0) rfl (by decide +kernel)) (.cons (ok_getR fl_9_38 rfl (by decide +kernel)) (.cons (ok_aload_n (k := 0) rfl (by decide +kernel)) (.cons (ok_getR fl_9_12 rfl (by decide +kernel)) (.cons (ok_iload_n (k := 1) rfl (by decide +kernel)) .nil))))
theorem B_X9_distanceDenominator_26 : Blk m_X9_distanceDenominator 26 [o_ast 4, o_ald 0, o_getR 9 5, o_ald 4, o_ild 2, o_pure (g_push (.int 6)), o_pure (g_ii (fun x y => x * y)), o_ild 3, o_pure (g_ii (fun x y => x + y)), o_lald, o_ild 1, o_pure (g_push (.int 0))] 43 := .cons (ok_astore (by decide +kernel)) (.cons (ok_aload_n (k := 0) rfl (by decide +kernel)) (.cons (ok_getR fl_9_38 rfl (by decide +kernel)) (.cons (ok_aload (by decide +kernel)) (.cons (ok_iload_n (k := 2) rfl (by decide +kernel)) (.cons (ok_bipush (n := 6) (by decide +kernel) (by decide)) (.cons (ok_imul (by decide +kernel)) (.cons (ok_iload_n (k := 3) rfl (by decide +kernel)) (.cons (ok_iadd (by decide +kernel)) (.cons (ok_laload (by decide +kernel)) (.cons (ok_iload_n (k := 1) rfl (by decide +kernel)) (.cons (ok_iconst (n := 0) (by decide +kernel) (by decide)) .nil)))))))))))
theorem B_X9_compareDistances_0 : Blk m_X9_compareDistances 0 [o_ild 1, o_pure (g_push (.int 0)), o_pure (g_push (.int 15))] 4 := .cons (ok_iload_n (k := 1) rfl (by decide +kernel)) (.cons (ok_iconst (n := 0) (by decide +kernel) (by decide)) (.cons (ok_bipush (n := 15) (by decide +kernel) (by decide)) .nil))
theorem B_X9_compareDistances_10 : Blk m_X9_compareDistances 10 [o_pure (g_push (.int (-1)))] 11 := .cons (ok_iconst (n := (-1)) (by decide +kernel) (by decide)) .nil
theorem B_X9_compareDistances_12 : Blk m_X9_compareDistances 12 [o_ald 0, o_ild 2] 14 := .cons (ok_aload_n (k := 0) rfl (by decide +kernel)) (.cons (ok_iload_n (k := 2) rfl (by decide +kernel)) .nil)
theorem B_X9_compareDistances_20 : Blk m_X9_compareDistances 20 [o_ald 0, o_ild 3] 22 := .cons (ok_aload_n (k := 0) rfl (by decide +kernel)) (.cons (ok_iload_n (k := 3) rfl (by decide +kernel)) .nil)
theorem B_X9_compareDistances_28 : Blk m_X9_compareDistances 28 [o_pure (g_push (.int (-2)))] 30 := .cons (ok_bipush (n := (-2)) (by decide +kernel) (by decide)) .nil
theorem B_X9_compareDistances_31 : Blk m_X9_compareDistances 31 [o_ild 1, o_ald 0] 33 := .cons (ok_iload_n (k := 1) rfl (by decide +kernel)) (.cons (ok_aload_n (k := 0) rfl (by decide +kernel)) .nil)
theorem B_X9_compareDistances_39 : Blk m_X9_compareDistances 39 [o_pure (g_push (.int (-4)))] 41 := .cons (ok_bipush (n := (-4)) (by decide +kernel) (by decide)) .nil
theorem B_X9_compareDistances_42 : Blk m_X9_compareDistances 42 [o_ald 0, o_getR 9 5, o_ald 0, o_getR 9 0, o_ild 1] 51 := .cons (ok_aload_n (k := 0) rfl (by decide +kernel)) (.cons (ok_getR fl_9_38 rfl (by decide +kernel)) (.cons (ok_aload_n (k := 0) rfl (by decide +kernel)) (.cons (ok_getR fl_9_12 rfl (by decide +kernel)) (.cons (ok_iload_n (k := 1) rfl (by decide +kernel)) .nil))))
theorem B_X9_compareDistances_54 : Blk m_X9_compareDistances 54 [o_ast 4, o_ald 4, o_ild 2] 59 := .cons (ok_astore (by decide +kernel)) (.cons (ok_aload (by decide +kernel)) (.cons (ok_iload_n (k := 2) rfl (by decide +kernel)) .nil))
theorem B_X9_compareDistances_62 : Blk m_X9_compareDistances 62 [o_lald, o_lst 5, o_ald 4, o_ild 3] 68 := .cons (ok_laload (by decide +kernel)) (.cons (ok_lstore (by decide +kernel)) (.cons (ok_aload (by decide +kernel)) (.cons (ok_iload_n (k := 3) rfl (by decide +kernel)) .nil)))
theorem B_X9_compareDistances_71 : Blk m_X9_compareDistances 71 [o_lald, o_lst 7, o_lld 5, o_lld 7, o_pure (g_cmp)] 79 := .cons (ok_laload (by decide +kernel)) (.cons (ok_lstore (by decide +kernel)) (.cons (ok_lload (by decide +kernel)) (.cons (ok_lload (by decide +kernel)) (.cons (ok_lcmp (by decide +kernel)) .nil))))
theorem B_X9_compareDistances_82 : Blk m_X9_compareDistances 82 [o_pure (g_push (.int 1))] 83 := .cons (ok_iconst (n := 1) (by decide +kernel) (by decide)) .nil
theorem B_X9_compareDistances_84 : Blk m_X9_compareDistances 84 [o_lld 5, o_lld 7, o_pure (g_cmp)] 89 := .cons (ok_lload (by decide +kernel)) (.cons (ok_lload (by decide +kernel)) (.cons (ok_lcmp (by decide +kernel)) .nil))
theorem B_X9_compareDistances_92 : Blk m_X9_compareDistances 92 [o_pure (g_push (.int 0)), o_pure g_id] 97 := .cons (ok_iconst (n := 0) (by decide +kernel) (by decide)) (.cons (ok_goto (off := 4) (tgt := 97) (by decide +kernel) (by decide)) .nil)
theorem B_X9_compareDistances_96 : Blk m_X9_compareDistances 96 [o_pure (g_push (.int 2))] 97 := .cons (ok_iconst (n := 2) (by decide +kernel) (by decide)) .nil
theorem B_X9_farthestPair_0 : Blk m_X9_farthestPair 0 [o_ild 1, o_pure (g_push (.int 0)), o_pure (g_push (.int 15))] 4 := .cons (ok_iload_n (k := 1) rfl (by decide +kernel)) (.cons (ok_iconst (n := 0) (by decide +kernel) (by decide)) (.cons (ok_bipush (n := 15) (by decide +kernel) (by decide)) .nil))
theorem B_X9_farthestPair_10 : Blk m_X9_farthestPair 10 [o_pure (g_push (.int (-1)))] 11 := .cons (ok_iconst (n := (-1)) (by decide +kernel) (by decide)) .nil
theorem B_X9_farthestPair_12 : Blk m_X9_farthestPair 12 [o_ild 1, o_ald 0] 14 := .cons (ok_iload_n (k := 1) rfl (by decide +kernel)) (.cons (ok_aload_n (k := 0) rfl (by decide +kernel)) .nil)
theorem B_X9_farthestPair_20 : Blk m_X9_farthestPair 20 [o_pure (g_push (.int (-4)))] 22 := .cons (ok_bipush (n := (-4)) (by decide +kernel) (by decide)) .nil
theorem B_X9_farthestPair_23 : Blk m_X9_farthestPair 23 [o_ald 0, o_getR 9 5, o_ald 0, o_getR 9 0, o_ild 1] 32 := .cons (ok_aload_n (k := 0) rfl (by decide +kernel)) (.cons (ok_getR fl_9_38 rfl (by decide +kernel)) (.cons (ok_aload_n (k := 0) rfl (by decide +kernel)) (.cons (ok_getR fl_9_12 rfl (by decide +kernel)) (.cons (ok_iload_n (k := 1) rfl (by decide +kernel)) .nil))))
theorem B_X9_farthestPair_35 : Blk m_X9_farthestPair 35 [o_ast 2, o_pure (g_push (.int (-7))), o_ist 3, o_pure (g_push (.long (-1))), o_lst 4, o_pure (g_push (.int 0)), o_ist 6] 47 := .cons (ok_astore_n (k := 2) rfl (by decide +kernel)) (.cons (ok_bipush (n := (-7)) (by decide +kernel) (by decide)) (.cons (ok_istore_n (k := 3) rfl (by decide +kernel)) (.cons (ok_ldc2 (by decide +kernel) co_9_157) (.cons (ok_lstore (by decide +kernel)) (.cons (ok_iconst (n := 0) (by decide +kernel) (by decide)) (.cons (ok_istore (by decide +kernel)) .nil))))))
theorem B_X9_farthestPair_47 : Blk m_X9_farthestPair 47 [o_ild 6, o_ald 0, o_getR 9 0, o_getI 1 0] 56 := .cons (ok_iload (by decide +kernel)) (.cons (ok_aload_n (k := 0) rfl (by decide +kernel)) (.cons (ok_getR fl_9_12 rfl (by decide +kernel)) (.cons (ok_getI fl_9_81 rfl (by decide +kernel)) .nil)))
theorem B_X9_farthestPair_59 : Blk m_X9_farthestPair 59 [o_ild 6, o_pure (g_push (.int 1)), o_pure (g_ii (fun x y => x + y)), o_ist 7] 65 := .cons (ok_iload (by decide +kernel)) (.cons (ok_iconst (n := 1) (by decide +kernel) (by decide)) (.cons (ok_iadd (by decide +kernel)) (.cons (ok_istore (by decide +kernel)) .nil)))
theorem B_X9_farthestPair_65 : Blk m_X9_farthestPair 65 [o_ild 7, o_ald 0, o_getR 9 0, o_getI 1 0] 74 := .cons (ok_iload (by decide +kernel)) (.cons (ok_aload_n (k := 0) rfl (by decide +kernel)) (.cons (ok_getR fl_9_12 rfl (by decide +kernel)) (.cons (ok_getI fl_9_81 rfl (by decide +kernel)) .nil)))
theorem B_X9_farthestPair_77 : Blk m_X9_farthestPair 77 [o_ald 2, o_ild 6, o_pure (g_push (.int 6)), o_pure (g_ii (fun x y => x * y)), o_ild 7, o_pure (g_ii (fun x y => x + y)), o_lald, o_lst 8, o_lld 8, o_lld 4, o_pure (g_cmp)] 94 := .cons (ok_aload_n (k := 2) rfl (by decide +kernel)) (.cons (ok_iload (by decide +kernel)) (.cons (ok_bipush (n := 6) (by decide +kernel) (by decide)) (.cons (ok_imul (by decide +kernel)) (.cons (ok_iload (by decide +kernel)) (.cons (ok_iadd (by decide +kernel)) (.cons (ok_laload (by decide +kernel)) (.cons (ok_lstore (by decide +kernel)) (.cons (ok_lload (by decide +kernel)) (.cons (ok_lload (by decide +kernel)) (.cons (ok_lcmp (by decide +kernel)) .nil))))))))))
theorem B_X9_farthestPair_97 : Blk m_X9_farthestPair 97 [o_lld 8, o_lst 4, o_pure (g_push (.int 10)), o_ild 6, o_pure (g_ii (fun x y => x * y)), o_ild 7, o_pure (g_ii (fun x y => x + y)), o_ist 3, o_iinc 7 1, o_pure g_id] 65 := .cons (ok_lload (by decide +kernel)) (.cons (ok_lstore (by decide +kernel)) (.cons (ok_bipush (n := 10) (by decide +kernel) (by decide)) (.cons (ok_iload (by decide +kernel)) (.cons (ok_imul (by decide +kernel)) (.cons (ok_iload (by decide +kernel)) (.cons (ok_iadd (by decide +kernel)) (.cons (ok_istore_n (k := 3) rfl (by decide +kernel)) (.cons (ok_iinc (z := 1) (by decide +kernel) (by decide)) (.cons (ok_goto (off := (-48)) (tgt := 65) (by decide +kernel) (by decide)) .nil)))))))))
theorem B_X9_farthestPair_110 : Blk m_X9_farthestPair 110 [o_iinc 7 1, o_pure g_id] 65 := .cons (ok_iinc (z := 1) (by decide +kernel) (by decide)) (.cons (ok_goto (off := (-48)) (tgt := 65) (by decide +kernel) (by decide)) .nil)
theorem B_X9_farthestPair_116 : Blk m_X9_farthestPair 116 [o_iinc 6 1, o_pure g_id] 47 := .cons (ok_iinc (z := 1) (by decide +kernel) (by decide)) (.cons (ok_goto (off := (-72)) (tgt := 47) (by decide +kernel) (by decide)) .nil)
theorem B_X9_farthestPair_122 : Blk m_X9_farthestPair 122 [o_ild 3] 123 := .cons (ok_iload_n (k := 3) rfl (by decide +kernel)) .nil
theorem B_X9_coupling_0 : Blk m_X9_coupling 0 [o_ild 1, o_pure (g_push (.int 0)), o_pure (g_push (.int 15))] 4 := .cons (ok_iload_n (k := 1) rfl (by decide +kernel)) (.cons (ok_iconst (n := 0) (by decide +kernel) (by decide)) (.cons (ok_bipush (n := 15) (by decide +kernel) (by decide)) .nil))
theorem B_X9_coupling_10 : Blk m_X9_coupling 10 [o_pure (g_push (.int (-1)))] 11 := .cons (ok_iconst (n := (-1)) (by decide +kernel) (by decide)) .nil
theorem B_X9_coupling_12 : Blk m_X9_coupling 12 [o_ald 0, o_ild 2] 14 := .cons (ok_aload_n (k := 0) rfl (by decide +kernel)) (.cons (ok_iload_n (k := 2) rfl (by decide +kernel)) .nil)
theorem B_X9_coupling_20 : Blk m_X9_coupling 20 [o_ald 0, o_getR 9 0, o_ild 3] 25 := .cons (ok_aload_n (k := 0) rfl (by decide +kernel)) (.cons (ok_getR fl_9_12 rfl (by decide +kernel)) (.cons (ok_iload_n (k := 3) rfl (by decide +kernel)) .nil))
theorem B_X9_coupling_31 : Blk m_X9_coupling 31 [o_ald 0, o_getR 9 0, o_ild 4] 37 := .cons (ok_aload_n (k := 0) rfl (by decide +kernel)) (.cons (ok_getR fl_9_12 rfl (by decide +kernel)) (.cons (ok_iload (by decide +kernel)) .nil))
theorem B_X9_coupling_43 : Blk m_X9_coupling 43 [o_pure (g_push (.int (-2)))] 45 := .cons (ok_bipush (n := (-2)) (by decide +kernel) (by decide)) .nil
theorem B_X9_coupling_46 : Blk m_X9_coupling 46 [o_ild 1, o_ald 0] 48 := .cons (ok_iload_n (k := 1) rfl (by decide +kernel)) (.cons (ok_aload_n (k := 0) rfl (by decide +kernel)) .nil)
theorem B_X9_coupling_54 : Blk m_X9_coupling 54 [o_pure (g_push (.int (-4)))] 56 := .cons (ok_bipush (n := (-4)) (by decide +kernel) (by decide)) .nil
theorem B_X9_coupling_57 : Blk m_X9_coupling 57 [o_ald 0, o_getR 9 5, o_ald 0, o_getR 9 0, o_ild 1] 66 := .cons (ok_aload_n (k := 0) rfl (by decide +kernel)) (.cons (ok_getR fl_9_38 rfl (by decide +kernel)) (.cons (ok_aload_n (k := 0) rfl (by decide +kernel)) (.cons (ok_getR fl_9_12 rfl (by decide +kernel)) (.cons (ok_iload_n (k := 1) rfl (by decide +kernel)) .nil))))
theorem B_X9_coupling_69 : Blk m_X9_coupling 69 [o_ast 5, o_ald 0, o_getR 9 5, o_ald 5, o_ild 2, o_pure (g_push (.int 10)), o_dii (fun x y => x / y), o_ild 2, o_pure (g_push (.int 10)), o_dii (fun x y => x - x / y * y)] 85 := .cons (ok_astore (by decide +kernel)) (.cons (ok_aload_n (k := 0) rfl (by decide +kernel)) (.cons (ok_getR fl_9_38 rfl (by decide +kernel)) (.cons (ok_aload (by decide +kernel)) (.cons (ok_iload_n (k := 2) rfl (by decide +kernel)) (.cons (ok_bipush (n := 10) (by decide +kernel) (by decide)) (.cons (ok_idiv (by decide +kernel)) (.cons (ok_iload_n (k := 2) rfl (by decide +kernel)) (.cons (ok_bipush (n := 10) (by decide +kernel) (by decide)) (.cons (ok_irem (by decide +kernel)) .nil)))))))))
theorem B_X9_coupling_88 : Blk m_X9_coupling 88 [o_ast 6, o_ald 6, o_ild 3, o_pure (g_push (.int 6)), o_pure (g_ii (fun x y => x * y)), o_ild 4, o_pure (g_ii (fun x y => x + y)), o_iald] 100 := .cons (ok_astore (by decide +kernel)) (.cons (ok_aload (by decide +kernel)) (.cons (ok_iload_n (k := 3) rfl (by decide +kernel)) (.cons (ok_bipush (n := 6) (by decide +kernel) (by decide)) (.cons (ok_imul (by decide +kernel)) (.cons (ok_iload (by decide +kernel)) (.cons (ok_iadd (by decide +kernel)) (.cons (ok_iaload (by decide +kernel)) .nil)))))))
theorem B_X9_distributionDistance_0 : Blk m_X9_distributionDistance 0 [o_ald 0, o_getR 9 0, o_ild 1] 5 := .cons (ok_aload_n (k := 0) rfl (by decide +kernel)) (.cons (ok_getR fl_9_12 rfl (by decide +kernel)) (.cons (ok_iload_n (k := 1) rfl (by decide +kernel)) .nil))
theorem B_X9_distributionDistance_11 : Blk m_X9_distributionDistance 11 [o_ald 0, o_getR 9 0, o_ild 2] 16 := .cons (ok_aload_n (k := 0) rfl (by decide +kernel)) (.cons (ok_getR fl_9_12 rfl (by decide +kernel)) (.cons (ok_iload_n (k := 2) rfl (by decide +kernel)) .nil))
theorem B_X9_distributionDistance_22 : Blk m_X9_distributionDistance 22 [o_pure (g_push (.int (-2)))] 24 := .cons (ok_bipush (n := (-2)) (by decide +kernel) (by decide)) .nil
theorem B_X9_distributionDistance_25 : Blk m_X9_distributionDistance 25 [o_ild 3] 26 := .cons (ok_iload_n (k := 3) rfl (by decide +kernel)) .nil
theorem B_X9_distributionDistance_56 : Blk m_X9_distributionDistance 56 [o_ald 0, o_ild 1, o_ild 2] 59 := .cons (ok_aload_n (k := 0) rfl (by decide +kernel)) (.cons (ok_iload_n (k := 1) rfl (by decide +kernel)) (.cons (ok_iload_n (k := 2) rfl (by decide +kernel)) .nil))
theorem B_X9_distributionDistance_63 : Blk m_X9_distributionDistance 63 [o_ald 0, o_ild 1, o_ild 2] 66 := .cons (ok_aload_n (k := 0) rfl (by decide +kernel)) (.cons (ok_iload_n (k := 1) rfl (by decide +kernel)) (.cons (ok_iload_n (k := 2) rfl (by decide +kernel)) .nil))
theorem B_X9_distributionDistance_70 : Blk m_X9_distributionDistance 70 [o_ald 0, o_ild 1, o_ild 2] 73 := .cons (ok_aload_n (k := 0) rfl (by decide +kernel)) (.cons (ok_iload_n (k := 1) rfl (by decide +kernel)) (.cons (ok_iload_n (k := 2) rfl (by decide +kernel)) .nil))
theorem B_X9_distributionDistance_77 : Blk m_X9_distributionDistance 77 [o_ald 0, o_ild 1, o_ild 2] 80 := .cons (ok_aload_n (k := 0) rfl (by decide +kernel)) (.cons (ok_iload_n (k := 1) rfl (by decide +kernel)) (.cons (ok_iload_n (k := 2) rfl (by decide +kernel)) .nil))
theorem B_X9_distributionDistance_84 : Blk m_X9_distributionDistance 84 [o_pure (g_push (.int (-1)))] 85 := .cons (ok_iconst (n := (-1)) (by decide +kernel) (by decide)) .nil
theorem B_X9_totalVariation_0 : Blk m_X9_totalVariation 0 [o_pure (g_push (.int 0)), o_ist 3, o_pure (g_push (.int 0)), o_ist 4] 5 := .cons (ok_iconst (n := 0) (by decide +kernel) (by decide)) (.cons (ok_istore_n (k := 3) rfl (by decide +kernel)) (.cons (ok_iconst (n := 0) (by decide +kernel) (by decide)) (.cons (ok_istore (by decide +kernel)) .nil)))
theorem B_X9_totalVariation_5 : Blk m_X9_totalVariation 5 [o_ild 4, o_ald 0, o_getR 9 0, o_getI 1 0] 14 := .cons (ok_iload (by decide +kernel)) (.cons (ok_aload_n (k := 0) rfl (by decide +kernel)) (.cons (ok_getR fl_9_12 rfl (by decide +kernel)) (.cons (ok_getI fl_9_81 rfl (by decide +kernel)) .nil)))
theorem B_X9_totalVariation_17 : Blk m_X9_totalVariation 17 [o_ild 3, o_ald 0, o_ild 1, o_ild 2, o_ild 4] 23 := .cons (ok_iload_n (k := 3) rfl (by decide +kernel)) (.cons (ok_aload_n (k := 0) rfl (by decide +kernel)) (.cons (ok_iload_n (k := 1) rfl (by decide +kernel)) (.cons (ok_iload_n (k := 2) rfl (by decide +kernel)) (.cons (ok_iload (by decide +kernel)) .nil))))
theorem B_X9_totalVariation_26 : Blk m_X9_totalVariation 26 [o_pure (g_m1 (fun x => if 0 ≤ x then x else 0 - x)), o_pure (g_ii (fun x y => x + y)), o_ist 3, o_iinc 4 1, o_pure g_id] 5 := .cons (ok_mabs ml_9_180 jw_abss jw_math jw_absc (by decide +kernel)) (.cons (ok_iadd (by decide +kernel)) (.cons (ok_istore_n (k := 3) rfl (by decide +kernel)) (.cons (ok_iinc (z := 1) (by decide +kernel) (by decide)) (.cons (ok_goto (off := (-29)) (tgt := 5) (by decide +kernel) (by decide)) .nil))))
theorem B_X9_totalVariation_37 : Blk m_X9_totalVariation 37 [o_ild 3, o_pure (g_push (.int 2)), o_dii (fun x y => x / y)] 40 := .cons (ok_iload_n (k := 3) rfl (by decide +kernel)) (.cons (ok_iconst (n := 2) (by decide +kernel) (by decide)) (.cons (ok_idiv (by decide +kernel)) .nil))
theorem B_X9_largestDifference_0 : Blk m_X9_largestDifference 0 [o_pure (g_push (.int 0)), o_ist 3, o_pure (g_push (.int 0)), o_ist 4] 5 := .cons (ok_iconst (n := 0) (by decide +kernel) (by decide)) (.cons (ok_istore_n (k := 3) rfl (by decide +kernel)) (.cons (ok_iconst (n := 0) (by decide +kernel) (by decide)) (.cons (ok_istore (by decide +kernel)) .nil)))
theorem B_X9_largestDifference_5 : Blk m_X9_largestDifference 5 [o_ild 4, o_ald 0, o_getR 9 0, o_getI 1 0] 14 := .cons (ok_iload (by decide +kernel)) (.cons (ok_aload_n (k := 0) rfl (by decide +kernel)) (.cons (ok_getR fl_9_12 rfl (by decide +kernel)) (.cons (ok_getI fl_9_81 rfl (by decide +kernel)) .nil)))
theorem B_X9_largestDifference_17 : Blk m_X9_largestDifference 17 [o_ild 3, o_ald 0, o_ild 1, o_ild 2, o_ild 4] 23 := .cons (ok_iload_n (k := 3) rfl (by decide +kernel)) (.cons (ok_aload_n (k := 0) rfl (by decide +kernel)) (.cons (ok_iload_n (k := 1) rfl (by decide +kernel)) (.cons (ok_iload_n (k := 2) rfl (by decide +kernel)) (.cons (ok_iload (by decide +kernel)) .nil))))
theorem B_X9_largestDifference_26 : Blk m_X9_largestDifference 26 [o_pure (g_m1 (fun x => if 0 ≤ x then x else 0 - x)), o_pure (g_m2 (fun x y => if x < y then y else x)), o_ist 3, o_iinc 4 1, o_pure g_id] 5 := .cons (ok_mabs ml_9_180 jw_abss jw_math jw_absc (by decide +kernel)) (.cons (ok_mmax ml_9_185 jw_maxs jw_math jw_maxc (by decide +kernel)) (.cons (ok_istore_n (k := 3) rfl (by decide +kernel)) (.cons (ok_iinc (z := 1) (by decide +kernel) (by decide)) (.cons (ok_goto (off := (-31)) (tgt := 5) (by decide +kernel) (by decide)) .nil))))
theorem B_X9_largestDifference_39 : Blk m_X9_largestDifference 39 [o_ild 3] 40 := .cons (ok_iload_n (k := 3) rfl (by decide +kernel)) .nil
theorem B_X9_cumulativeDistance_0 : Blk m_X9_cumulativeDistance 0 [o_pure (g_push (.int 0)), o_ist 3, o_pure (g_push (.int 0)), o_ist 4, o_pure (g_push (.int 0)), o_ist 5] 8 := .cons (ok_iconst (n := 0) (by decide +kernel) (by decide)) (.cons (ok_istore_n (k := 3) rfl (by decide +kernel)) (.cons (ok_iconst (n := 0) (by decide +kernel) (by decide)) (.cons (ok_istore (by decide +kernel)) (.cons (ok_iconst (n := 0) (by decide +kernel) (by decide)) (.cons (ok_istore (by decide +kernel)) .nil)))))
theorem B_X9_cumulativeDistance_8 : Blk m_X9_cumulativeDistance 8 [o_ild 5, o_ald 0, o_getR 9 0, o_getI 1 0, o_pure (g_push (.int 1)), o_pure (g_ii (fun x y => x - y))] 19 := .cons (ok_iload (by decide +kernel)) (.cons (ok_aload_n (k := 0) rfl (by decide +kernel)) (.cons (ok_getR fl_9_12 rfl (by decide +kernel)) (.cons (ok_getI fl_9_81 rfl (by decide +kernel)) (.cons (ok_iconst (n := 1) (by decide +kernel) (by decide)) (.cons (ok_isub (by decide +kernel)) .nil)))))
theorem B_X9_cumulativeDistance_22 : Blk m_X9_cumulativeDistance 22 [o_ild 4, o_ald 0, o_ild 1, o_ild 2, o_ild 5] 29 := .cons (ok_iload (by decide +kernel)) (.cons (ok_aload_n (k := 0) rfl (by decide +kernel)) (.cons (ok_iload_n (k := 1) rfl (by decide +kernel)) (.cons (ok_iload_n (k := 2) rfl (by decide +kernel)) (.cons (ok_iload (by decide +kernel)) .nil))))
theorem B_X9_cumulativeDistance_32 : Blk m_X9_cumulativeDistance 32 [o_pure (g_ii (fun x y => x + y)), o_ist 4, o_ild 3, o_ild 4, o_pure (g_m1 (fun x => if 0 ≤ x then x else 0 - x)), o_pure (g_ii (fun x y => x + y)), o_ist 3, o_iinc 5 1, o_pure g_id] 8 := .cons (ok_iadd (by decide +kernel)) (.cons (ok_istore (by decide +kernel)) (.cons (ok_iload_n (k := 3) rfl (by decide +kernel)) (.cons (ok_iload (by decide +kernel)) (.cons (ok_mabs ml_9_180 jw_abss jw_math jw_absc (by decide +kernel)) (.cons (ok_iadd (by decide +kernel)) (.cons (ok_istore_n (k := 3) rfl (by decide +kernel)) (.cons (ok_iinc (z := 1) (by decide +kernel) (by decide)) (.cons (ok_goto (off := (-38)) (tgt := 8) (by decide +kernel) (by decide)) .nil))))))))
theorem B_X9_cumulativeDistance_49 : Blk m_X9_cumulativeDistance 49 [o_ild 3] 50 := .cons (ok_iload_n (k := 3) rfl (by decide +kernel)) .nil
theorem B_X9_overlap_0 : Blk m_X9_overlap 0 [o_pure (g_push (.int 0)), o_ist 3, o_pure (g_push (.int 0)), o_ist 4] 5 := .cons (ok_iconst (n := 0) (by decide +kernel) (by decide)) (.cons (ok_istore_n (k := 3) rfl (by decide +kernel)) (.cons (ok_iconst (n := 0) (by decide +kernel) (by decide)) (.cons (ok_istore (by decide +kernel)) .nil)))
theorem B_X9_overlap_5 : Blk m_X9_overlap 5 [o_ild 4, o_ald 0, o_getR 9 0, o_getI 1 0] 14 := .cons (ok_iload (by decide +kernel)) (.cons (ok_aload_n (k := 0) rfl (by decide +kernel)) (.cons (ok_getR fl_9_12 rfl (by decide +kernel)) (.cons (ok_getI fl_9_81 rfl (by decide +kernel)) .nil)))
theorem B_X9_overlap_17 : Blk m_X9_overlap 17 [o_ild 3, o_ald 0, o_getR 9 0, o_getR 1 5, o_ild 1, o_pure (g_push (.int 6)), o_pure (g_ii (fun x y => x * y)), o_ild 4, o_pure (g_ii (fun x y => x + y)), o_iald, o_ald 0, o_getR 9 0, o_getR 1 5, o_ild 2, o_pure (g_push (.int 6)), o_pure (g_ii (fun x y => x * y)), o_ild 4, o_pure (g_ii (fun x y => x + y)), o_iald, o_pure (g_m2 (fun x y => if y < x then y else x)), o_pure (g_ii (fun x y => x + y)), o_ist 3, o_iinc 4 1, o_pure g_id] 5 := .cons (ok_iload_n (k := 3) rfl (by decide +kernel)) (.cons (ok_aload_n (k := 0) rfl (by decide +kernel)) (.cons (ok_getR fl_9_12 rfl (by decide +kernel)) (.cons (ok_getR fl_9_107 rfl (by decide +kernel)) (.cons (ok_iload_n (k := 1) rfl (by decide +kernel)) (.cons (ok_bipush (n := 6) (by decide +kernel) (by decide)) (.cons (ok_imul (by decide +kernel)) (.cons (ok_iload (by decide +kernel)) (.cons (ok_iadd (by decide +kernel)) (.cons (ok_iaload (by decide +kernel)) (.cons (ok_aload_n (k := 0) rfl (by decide +kernel)) (.cons (ok_getR fl_9_12 rfl (by decide +kernel)) (.cons (ok_getR fl_9_107 rfl (by decide +kernel)) (.cons (ok_iload_n (k := 2) rfl (by decide +kernel)) (.cons (ok_bipush (n := 6) (by decide +kernel) (by decide)) (.cons (ok_imul (by decide +kernel)) (.cons (ok_iload (by decide +kernel)) (.cons (ok_iadd (by decide +kernel)) (.cons (ok_iaload (by decide +kernel)) (.cons (ok_mmin ml_9_188 jw_mins jw_math jw_minc (by decide +kernel)) (.cons (ok_iadd (by decide +kernel)) (.cons (ok_istore_n (k := 3) rfl (by decide +kernel)) (.cons (ok_iinc (z := 1) (by decide +kernel) (by decide)) (.cons (ok_goto (off := (-51)) (tgt := 5) (by decide +kernel) (by decide)) .nil)))))))))))))))))))))))
theorem B_X9_overlap_59 : Blk m_X9_overlap 59 [o_ild 3] 60 := .cons (ok_iload_n (k := 3) rfl (by decide +kernel)) .nil
theorem B_X9_weightDifference_0 : Blk m_X9_weightDifference 0 [o_ald 0, o_getR 9 0, o_getR 1 5, o_ild 1, o_pure (g_push (.int 6)), o_pure (g_ii (fun x y => x * y)), o_ild 3, o_pure (g_ii (fun x y => x + y)), o_iald, o_ald 0, o_getR 9 0, o_getR 1 5, o_ild 2, o_pure (g_push (.int 6)), o_pure (g_ii (fun x y => x * y)), o_ild 3, o_pure (g_ii (fun x y => x + y)), o_iald, o_pure (g_ii (fun x y => x - y))] 29 := .cons (ok_aload_n (k := 0) rfl (by decide +kernel)) (.cons (ok_getR fl_9_12 rfl (by decide +kernel)) (.cons (ok_getR fl_9_107 rfl (by decide +kernel)) (.cons (ok_iload_n (k := 1) rfl (by decide +kernel)) (.cons (ok_bipush (n := 6) (by decide +kernel) (by decide)) (.cons (ok_imul (by decide +kernel)) (.cons (ok_iload_n (k := 3) rfl (by decide +kernel)) (.cons (ok_iadd (by decide +kernel)) (.cons (ok_iaload (by decide +kernel)) (.cons (ok_aload_n (k := 0) rfl (by decide +kernel)) (.cons (ok_getR fl_9_12 rfl (by decide +kernel)) (.cons (ok_getR fl_9_107 rfl (by decide +kernel)) (.cons (ok_iload_n (k := 2) rfl (by decide +kernel)) (.cons (ok_bipush (n := 6) (by decide +kernel) (by decide)) (.cons (ok_imul (by decide +kernel)) (.cons (ok_iload_n (k := 3) rfl (by decide +kernel)) (.cons (ok_iadd (by decide +kernel)) (.cons (ok_iaload (by decide +kernel)) (.cons (ok_isub (by decide +kernel)) .nil))))))))))))))))))
theorem B_X9_greatestDepth_0 : Blk m_X9_greatestDepth 0 [o_ald 0, o_getR 9 0, o_getI 1 3, o_pure (g_il (fun x => x.toInt64)), o_ald 0, o_getR 9 0, o_getI 1 1, o_pure (g_il (fun x => x.toInt64)), o_pure (g_ll (fun x y => x * y)), o_lst 1, o_lld 1, o_pure (g_push (.long 1)), o_pure (g_cmp)] 21 := .cons (ok_aload_n (k := 0) rfl (by decide +kernel)) (.cons (ok_getR fl_9_12 rfl (by decide +kernel)) (.cons (ok_getI fl_9_113 rfl (by decide +kernel)) (.cons (ok_i2l (by decide +kernel)) (.cons (ok_aload_n (k := 0) rfl (by decide +kernel)) (.cons (ok_getR fl_9_12 rfl (by decide +kernel)) (.cons (ok_getI fl_9_92 rfl (by decide +kernel)) (.cons (ok_i2l (by decide +kernel)) (.cons (ok_lmul (by decide +kernel)) (.cons (ok_lstore_n (k := 1) rfl (by decide +kernel)) (.cons (ok_lload_n (k := 1) rfl (by decide +kernel)) (.cons (ok_lconst (n := 1) (by decide +kernel) (by decide)) (.cons (ok_lcmp (by decide +kernel)) .nil))))))))))))
theorem B_X9_greatestDepth_24 : Blk m_X9_greatestDepth 24 [o_pure (g_push (.int 99))] 26 := .cons (ok_bipush (n := 99) (by decide +kernel) (by decide)) .nil
theorem B_X9_greatestDepth_27 : Blk m_X9_greatestDepth 27 [o_pure (g_push (.int 0)), o_ist 3, o_lld 1, o_lst 4] 32 := .cons (ok_iconst (n := 0) (by decide +kernel) (by decide)) (.cons (ok_istore_n (k := 3) rfl (by decide +kernel)) (.cons (ok_lload_n (k := 1) rfl (by decide +kernel)) (.cons (ok_lstore (by decide +kernel)) .nil)))
theorem B_X9_greatestDepth_32 : Blk m_X9_greatestDepth 32 [o_lld 4, o_pure (g_push (.long 1000000000000000)), o_pure (g_cmp)] 38 := .cons (ok_lload (by decide +kernel)) (.cons (ok_ldc2 (by decide +kernel) co_9_191) (.cons (ok_lcmp (by decide +kernel)) .nil))
theorem B_X9_greatestDepth_41 : Blk m_X9_greatestDepth 41 [o_ild 3, o_pure (g_push (.int 99))] 44 := .cons (ok_iload_n (k := 3) rfl (by decide +kernel)) (.cons (ok_bipush (n := 99) (by decide +kernel) (by decide)) .nil)
theorem B_X9_greatestDepth_47 : Blk m_X9_greatestDepth 47 [o_iinc 3 1, o_lld 4, o_lld 1, o_pure (g_ll (fun x y => x * y)), o_lst 4, o_pure g_id] 32 := .cons (ok_iinc (z := 1) (by decide +kernel) (by decide)) (.cons (ok_lload (by decide +kernel)) (.cons (ok_lload_n (k := 1) rfl (by decide +kernel)) (.cons (ok_lmul (by decide +kernel)) (.cons (ok_lstore (by decide +kernel)) (.cons (ok_goto (off := (-24)) (tgt := 32) (by decide +kernel) (by decide)) .nil)))))
theorem B_X9_greatestDepth_59 : Blk m_X9_greatestDepth 59 [o_ild 3] 60 := .cons (ok_iload_n (k := 3) rfl (by decide +kernel)) .nil
theorem B_X9_hasDistance_0 : Blk m_X9_hasDistance 0 [o_ild 1, o_pure (g_push (.int 0)), o_pure (g_push (.int 15))] 4 := .cons (ok_iload_n (k := 1) rfl (by decide +kernel)) (.cons (ok_iconst (n := 0) (by decide +kernel) (by decide)) (.cons (ok_bipush (n := 15) (by decide +kernel) (by decide)) .nil))
theorem B_X9_hasDistance_10 : Blk m_X9_hasDistance 10 [o_ild 1, o_ald 0] 12 := .cons (ok_iload_n (k := 1) rfl (by decide +kernel)) (.cons (ok_aload_n (k := 0) rfl (by decide +kernel)) .nil)
theorem B_X9_hasDistance_18 : Blk m_X9_hasDistance 18 [o_ald 0, o_getR 9 0, o_ild 2] 23 := .cons (ok_aload_n (k := 0) rfl (by decide +kernel)) (.cons (ok_getR fl_9_12 rfl (by decide +kernel)) (.cons (ok_iload_n (k := 2) rfl (by decide +kernel)) .nil))
theorem B_X9_hasDistance_29 : Blk m_X9_hasDistance 29 [o_ald 0, o_getR 9 0, o_ild 3] 34 := .cons (ok_aload_n (k := 0) rfl (by decide +kernel)) (.cons (ok_getR fl_9_12 rfl (by decide +kernel)) (.cons (ok_iload_n (k := 3) rfl (by decide +kernel)) .nil))
theorem B_X9_hasDistance_40 : Blk m_X9_hasDistance 40 [o_pure (g_push (.int 1)), o_pure g_id] 45 := .cons (ok_iconst (n := 1) (by decide +kernel) (by decide)) (.cons (ok_goto (off := 4) (tgt := 45) (by decide +kernel) (by decide)) .nil)
theorem B_X9_hasDistance_44 : Blk m_X9_hasDistance 44 [o_pure (g_push (.int 0))] 45 := .cons (ok_iconst (n := 0) (by decide +kernel) (by decide)) .nil
theorem B_X9_isPair_0 : Blk m_X9_isPair 0 [o_ild 1] 1 := .cons (ok_iload_n (k := 1) rfl (by decide +kernel)) .nil
theorem B_X9_isPair_4 : Blk m_X9_isPair 4 [o_ald 0, o_getR 9 0, o_ild 1, o_pure (g_push (.int 10)), o_dii (fun x y => x / y)] 12 := .cons (ok_aload_n (k := 0) rfl (by decide +kernel)) (.cons (ok_getR fl_9_12 rfl (by decide +kernel)) (.cons (ok_iload_n (k := 1) rfl (by decide +kernel)) (.cons (ok_bipush (n := 10) (by decide +kernel) (by decide)) (.cons (ok_idiv (by decide +kernel)) .nil))))
theorem B_X9_isPair_18 : Blk m_X9_isPair 18 [o_ald 0, o_getR 9 0, o_ild 1, o_pure (g_push (.int 10)), o_dii (fun x y => x - x / y * y)] 26 := .cons (ok_aload_n (k := 0) rfl (by decide +kernel)) (.cons (ok_getR fl_9_12 rfl (by decide +kernel)) (.cons (ok_iload_n (k := 1) rfl (by decide +kernel)) (.cons (ok_bipush (n := 10) (by decide +kernel) (by decide)) (.cons (ok_irem (by decide +kernel)) .nil))))
theorem B_X9_isPair_32 : Blk m_X9_isPair 32 [o_pure (g_push (.int 1)), o_pure g_id] 37 := .cons (ok_iconst (n := 1) (by decide +kernel) (by decide)) (.cons (ok_goto (off := 4) (tgt := 37) (by decide +kernel) (by decide)) .nil)
theorem B_X9_isPair_36 : Blk m_X9_isPair 36 [o_pure (g_push (.int 0))] 37 := .cons (ok_iconst (n := 0) (by decide +kernel) (by decide)) .nil
theorem B_X9_cellOfPair_0 : Blk m_X9_cellOfPair 0 [o_ild 0, o_pure (g_push (.int 10)), o_dii (fun x y => x / y), o_pure (g_push (.int 6)), o_pure (g_ii (fun x y => x * y)), o_ild 0, o_pure (g_push (.int 10)), o_dii (fun x y => x - x / y * y), o_pure (g_ii (fun x y => x + y))] 12 := .cons (ok_iload_n (k := 0) rfl (by decide +kernel)) (.cons (ok_bipush (n := 10) (by decide +kernel) (by decide)) (.cons (ok_idiv (by decide +kernel)) (.cons (ok_bipush (n := 6) (by decide +kernel) (by decide)) (.cons (ok_imul (by decide +kernel)) (.cons (ok_iload_n (k := 0) rfl (by decide +kernel)) (.cons (ok_bipush (n := 10) (by decide +kernel) (by decide)) (.cons (ok_irem (by decide +kernel)) (.cons (ok_iadd (by decide +kernel)) .nil))))))))
theorem B_X9_isWithin_0 : Blk m_X9_isWithin 0 [o_ild 0, o_ild 1] 2 := .cons (ok_iload_n (k := 0) rfl (by decide +kernel)) (.cons (ok_iload_n (k := 1) rfl (by decide +kernel)) .nil)
theorem B_X9_isWithin_5 : Blk m_X9_isWithin 5 [o_ild 0, o_ild 2] 7 := .cons (ok_iload_n (k := 0) rfl (by decide +kernel)) (.cons (ok_iload_n (k := 2) rfl (by decide +kernel)) .nil)
theorem B_X9_isWithin_10 : Blk m_X9_isWithin 10 [o_pure (g_push (.int 1)), o_pure g_id] 15 := .cons (ok_iconst (n := 1) (by decide +kernel) (by decide)) (.cons (ok_goto (off := 4) (tgt := 15) (by decide +kernel) (by decide)) .nil)
theorem B_X9_isWithin_14 : Blk m_X9_isWithin 14 [o_pure (g_push (.int 0))] 15 := .cons (ok_iconst (n := 0) (by decide +kernel) (by decide)) .nil
theorem B_X9_bisimulationClass_0 : Blk m_X9_bisimulationClass 0 [o_ald 0, o_getR 9 0, o_ild 1] 5 := .cons (ok_aload_n (k := 0) rfl (by decide +kernel)) (.cons (ok_getR fl_9_12 rfl (by decide +kernel)) (.cons (ok_iload_n (k := 1) rfl (by decide +kernel)) .nil))
theorem B_X9_bisimulationClass_11 : Blk m_X9_bisimulationClass 11 [o_pure (g_push (.int (-2)))] 13 := .cons (ok_bipush (n := (-2)) (by decide +kernel) (by decide)) .nil
theorem B_X9_bisimulationClass_14 : Blk m_X9_bisimulationClass 14 [o_ald 0, o_getR 9 6, o_ald 0, o_getR 9 0] 22 := .cons (ok_aload_n (k := 0) rfl (by decide +kernel)) (.cons (ok_getR fl_9_45 rfl (by decide +kernel)) (.cons (ok_aload_n (k := 0) rfl (by decide +kernel)) (.cons (ok_getR fl_9_12 rfl (by decide +kernel)) .nil)))
theorem B_X9_bisimulationClass_25 : Blk m_X9_bisimulationClass 25 [o_ald 0, o_getR 9 6, o_getR 6 1, o_ild 1, o_iald] 34 := .cons (ok_aload_n (k := 0) rfl (by decide +kernel)) (.cons (ok_getR fl_9_45 rfl (by decide +kernel)) (.cons (ok_getR fl_9_196 rfl (by decide +kernel)) (.cons (ok_iload_n (k := 1) rfl (by decide +kernel)) (.cons (ok_iaload (by decide +kernel)) .nil))))
theorem B_X9_bisimulationClassCount_0 : Blk m_X9_bisimulationClassCount 0 [o_ald 0, o_getR 9 6, o_ald 0, o_getR 9 0] 8 := .cons (ok_aload_n (k := 0) rfl (by decide +kernel)) (.cons (ok_getR fl_9_45 rfl (by decide +kernel)) (.cons (ok_aload_n (k := 0) rfl (by decide +kernel)) (.cons (ok_getR fl_9_12 rfl (by decide +kernel)) .nil)))
theorem B_X9_bisimulationClassCount_11 : Blk m_X9_bisimulationClassCount 11 [o_ald 0, o_getR 9 6, o_getI 6 0] 18 := .cons (ok_aload_n (k := 0) rfl (by decide +kernel)) (.cons (ok_getR fl_9_45 rfl (by decide +kernel)) (.cons (ok_getI fl_9_199 rfl (by decide +kernel)) .nil))
theorem B_X9_minimize_0 : Blk m_X9_minimize 0 [o_ald 0, o_getR 9 6, o_ald 0, o_getR 9 0] 8 := .cons (ok_aload_n (k := 0) rfl (by decide +kernel)) (.cons (ok_getR fl_9_45 rfl (by decide +kernel)) (.cons (ok_aload_n (k := 0) rfl (by decide +kernel)) (.cons (ok_getR fl_9_12 rfl (by decide +kernel)) .nil)))
theorem B_X9_minimize_11 : Blk m_X9_minimize 11 [o_ald 0, o_getR 9 6, o_ald 0, o_getR 9 0, o_ald 0, o_getR 9 1] 23 := .cons (ok_aload_n (k := 0) rfl (by decide +kernel)) (.cons (ok_getR fl_9_45 rfl (by decide +kernel)) (.cons (ok_aload_n (k := 0) rfl (by decide +kernel)) (.cons (ok_getR fl_9_12 rfl (by decide +kernel)) (.cons (ok_aload_n (k := 0) rfl (by decide +kernel)) (.cons (ok_getR fl_9_18 rfl (by decide +kernel)) .nil)))))
theorem B_X9_minimize_26 : Blk m_X9_minimize 26 [o_ald 0, o_getR 9 0, o_ald 0, o_getR 9 1] 34 := .cons (ok_aload_n (k := 0) rfl (by decide +kernel)) (.cons (ok_getR fl_9_12 rfl (by decide +kernel)) (.cons (ok_aload_n (k := 0) rfl (by decide +kernel)) (.cons (ok_getR fl_9_18 rfl (by decide +kernel)) .nil)))
theorem B_X9_minimize_37 : Blk m_X9_minimize 37 [o_ald 0, o_getR 9 4] 41 := .cons (ok_aload_n (k := 0) rfl (by decide +kernel)) (.cons (ok_getR fl_9_31 rfl (by decide +kernel)) .nil)
theorem B_X9_minimize_44 : Blk m_X9_minimize 44 [o_ald 0, o_getR 9 0, o_getI 1 0] 51 := .cons (ok_aload_n (k := 0) rfl (by decide +kernel)) (.cons (ok_getR fl_9_12 rfl (by decide +kernel)) (.cons (ok_getI fl_9_81 rfl (by decide +kernel)) .nil))
theorem B_X9_reachWeight_0 : Blk m_X9_reachWeight 0 [o_ald 0, o_getR 9 0, o_ild 1] 5 := .cons (ok_aload_n (k := 0) rfl (by decide +kernel)) (.cons (ok_getR fl_9_12 rfl (by decide +kernel)) (.cons (ok_iload_n (k := 1) rfl (by decide +kernel)) .nil))
theorem B_X9_reachWeight_11 : Blk m_X9_reachWeight 11 [o_ild 2, o_pure (g_push (.int 0)), o_pure (g_push (.int 15))] 15 := .cons (ok_iload_n (k := 2) rfl (by decide +kernel)) (.cons (ok_iconst (n := 0) (by decide +kernel) (by decide)) (.cons (ok_bipush (n := 15) (by decide +kernel) (by decide)) .nil))
theorem B_X9_reachWeight_21 : Blk m_X9_reachWeight 21 [o_ild 3, o_pure (g_push (.int 0)), o_pure (g_push (.int 12))] 25 := .cons (ok_iload_n (k := 3) rfl (by decide +kernel)) (.cons (ok_iconst (n := 0) (by decide +kernel) (by decide)) (.cons (ok_bipush (n := 12) (by decide +kernel) (by decide)) .nil))
theorem B_X9_reachWeight_31 : Blk m_X9_reachWeight 31 [o_pure (g_push (.long (-9223372036854775808)))] 34 := .cons (ok_ldc2 (by decide +kernel) co_9_140) .nil
theorem B_X9_reachWeight_35 : Blk m_X9_reachWeight 35 [o_ald 0, o_getR 9 7, o_ald 0, o_getR 9 0, o_ild 1, o_ild 2, o_ild 3] 46 := .cons (ok_aload_n (k := 0) rfl (by decide +kernel)) (.cons (ok_getR fl_9_52 rfl (by decide +kernel)) (.cons (ok_aload_n (k := 0) rfl (by decide +kernel)) (.cons (ok_getR fl_9_12 rfl (by decide +kernel)) (.cons (ok_iload_n (k := 1) rfl (by decide +kernel)) (.cons (ok_iload_n (k := 2) rfl (by decide +kernel)) (.cons (ok_iload_n (k := 3) rfl (by decide +kernel)) .nil))))))
theorem B_X9_firstReachWeight_0 : Blk m_X9_firstReachWeight 0 [o_ald 0, o_getR 9 0, o_ild 1] 5 := .cons (ok_aload_n (k := 0) rfl (by decide +kernel)) (.cons (ok_getR fl_9_12 rfl (by decide +kernel)) (.cons (ok_iload_n (k := 1) rfl (by decide +kernel)) .nil))
theorem B_X9_firstReachWeight_11 : Blk m_X9_firstReachWeight 11 [o_ild 2, o_pure (g_push (.int 0)), o_pure (g_push (.int 15))] 15 := .cons (ok_iload_n (k := 2) rfl (by decide +kernel)) (.cons (ok_iconst (n := 0) (by decide +kernel) (by decide)) (.cons (ok_bipush (n := 15) (by decide +kernel) (by decide)) .nil))
theorem B_X9_firstReachWeight_21 : Blk m_X9_firstReachWeight 21 [o_ild 3, o_pure (g_push (.int 0)), o_pure (g_push (.int 12))] 25 := .cons (ok_iload_n (k := 3) rfl (by decide +kernel)) (.cons (ok_iconst (n := 0) (by decide +kernel) (by decide)) (.cons (ok_bipush (n := 12) (by decide +kernel) (by decide)) .nil))
theorem B_X9_firstReachWeight_31 : Blk m_X9_firstReachWeight 31 [o_pure (g_push (.long (-9223372036854775808)))] 34 := .cons (ok_ldc2 (by decide +kernel) co_9_140) .nil
theorem B_X9_firstReachWeight_35 : Blk m_X9_firstReachWeight 35 [o_ald 0, o_getR 9 7, o_ald 0, o_getR 9 0, o_ild 1, o_ild 2, o_ild 3] 46 := .cons (ok_aload_n (k := 0) rfl (by decide +kernel)) (.cons (ok_getR fl_9_52 rfl (by decide +kernel)) (.cons (ok_aload_n (k := 0) rfl (by decide +kernel)) (.cons (ok_getR fl_9_12 rfl (by decide +kernel)) (.cons (ok_iload_n (k := 1) rfl (by decide +kernel)) (.cons (ok_iload_n (k := 2) rfl (by decide +kernel)) (.cons (ok_iload_n (k := 3) rfl (by decide +kernel)) .nil))))))
theorem B_X9_sequenceWeight_0 : Blk m_X9_sequenceWeight 0 [o_pure (g_push (.long (-9223372036854775808))), o_lst 2, o_ald 0, o_getR 9 0, o_ild 1] 9 := .cons (ok_ldc2 (by decide +kernel) co_9_140) (.cons (ok_lstore_n (k := 2) rfl (by decide +kernel)) (.cons (ok_aload_n (k := 0) rfl (by decide +kernel)) (.cons (ok_getR fl_9_12 rfl (by decide +kernel)) (.cons (ok_iload_n (k := 1) rfl (by decide +kernel)) .nil))))
theorem B_X9_sequenceWeight_15 : Blk m_X9_sequenceWeight 15 [o_ald 0, o_getR 9 9] 19 := .cons (ok_aload_n (k := 0) rfl (by decide +kernel)) (.cons (ok_getR fl_9_67 rfl (by decide +kernel)) .nil)
theorem B_X9_sequenceWeight_25 : Blk m_X9_sequenceWeight 25 [o_ald 0, o_getR 9 7, o_ald 0, o_getR 9 0, o_ild 1, o_ald 0, o_getR 9 9] 38 := .cons (ok_aload_n (k := 0) rfl (by decide +kernel)) (.cons (ok_getR fl_9_52 rfl (by decide +kernel)) (.cons (ok_aload_n (k := 0) rfl (by decide +kernel)) (.cons (ok_getR fl_9_12 rfl (by decide +kernel)) (.cons (ok_iload_n (k := 1) rfl (by decide +kernel)) (.cons (ok_aload_n (k := 0) rfl (by decide +kernel)) (.cons (ok_getR fl_9_67 rfl (by decide +kernel)) .nil))))))
theorem B_X9_sequenceWeight_41 : Blk m_X9_sequenceWeight 41 [o_lst 2, o_ald 0, o_getR 9 9] 46 := .cons (ok_lstore_n (k := 2) rfl (by decide +kernel)) (.cons (ok_aload_n (k := 0) rfl (by decide +kernel)) (.cons (ok_getR fl_9_67 rfl (by decide +kernel)) .nil))
theorem B_X9_sequenceWeight_42 : Blk m_X9_sequenceWeight 42 [o_ald 0, o_getR 9 9] 46 := .cons (ok_aload_n (k := 0) rfl (by decide +kernel)) (.cons (ok_getR fl_9_67 rfl (by decide +kernel)) .nil)
theorem B_X9_sequenceWeight_49 : Blk m_X9_sequenceWeight 49 [o_lld 2] 50 := .cons (ok_lload_n (k := 2) rfl (by decide +kernel)) .nil
theorem B_X9_sample_0 : Blk m_X9_sample 0 [o_ald 0, o_getR 9 0, o_ild 1] 5 := .cons (ok_aload_n (k := 0) rfl (by decide +kernel)) (.cons (ok_getR fl_9_12 rfl (by decide +kernel)) (.cons (ok_iload_n (k := 1) rfl (by decide +kernel)) .nil))
theorem B_X9_sample_11 : Blk m_X9_sample 11 [o_pure (g_push (.int (-2)))] 13 := .cons (ok_bipush (n := (-2)) (by decide +kernel) (by decide)) .nil
theorem B_X9_sample_14 : Blk m_X9_sample 14 [o_ild 3, o_pure (g_push (.int 0)), o_pure (g_push (.int 1000))] 19 := .cons (ok_iload_n (k := 3) rfl (by decide +kernel)) (.cons (ok_iconst (n := 0) (by decide +kernel) (by decide)) (.cons (ok_sipush (n := 1000) (by decide +kernel) (by decide)) .nil))
theorem B_X9_sample_25 : Blk m_X9_sample 25 [o_pure (g_push (.int (-1)))] 26 := .cons (ok_iconst (n := (-1)) (by decide +kernel) (by decide)) .nil
theorem B_X9_sample_27 : Blk m_X9_sample 27 [o_ild 1, o_ist 4, o_ild 2, o_ist 5, o_pure (g_push (.int 0)), o_ist 6] 36 := .cons (ok_iload_n (k := 1) rfl (by decide +kernel)) (.cons (ok_istore (by decide +kernel)) (.cons (ok_iload_n (k := 2) rfl (by decide +kernel)) (.cons (ok_istore (by decide +kernel)) (.cons (ok_iconst (n := 0) (by decide +kernel) (by decide)) (.cons (ok_istore (by decide +kernel)) .nil)))))
theorem B_X9_sample_36 : Blk m_X9_sample 36 [o_ild 6, o_ild 3] 39 := .cons (ok_iload (by decide +kernel)) (.cons (ok_iload_n (k := 3) rfl (by decide +kernel)) .nil)
theorem B_X9_sample_42 : Blk m_X9_sample 42 [o_ild 5] 44 := .cons (ok_iload (by decide +kernel)) .nil
theorem B_X9_sample_47 : Blk m_X9_sample 47 [o_ist 5, o_ald 0, o_getR 9 0, o_ild 4, o_ild 5, o_pure (g_push (.int 16)), o_pure (g_ii (fun x y => (x.toUInt32 >>> (y.toUInt32 &&& Int32.toUInt32 31)).toInt32))] 60 := .cons (ok_istore (by decide +kernel)) (.cons (ok_aload_n (k := 0) rfl (by decide +kernel)) (.cons (ok_getR fl_9_12 rfl (by decide +kernel)) (.cons (ok_iload (by decide +kernel)) (.cons (ok_iload (by decide +kernel)) (.cons (ok_bipush (n := 16) (by decide +kernel) (by decide)) (.cons (ok_iushr (by decide +kernel)) .nil))))))
theorem B_X9_sample_63 : Blk m_X9_sample 63 [o_ist 4, o_iinc 6 1, o_pure g_id] 36 := .cons (ok_istore (by decide +kernel)) (.cons (ok_iinc (z := 1) (by decide +kernel) (by decide)) (.cons (ok_goto (off := (-32)) (tgt := 36) (by decide +kernel) (by decide)) .nil))
theorem B_X9_sample_71 : Blk m_X9_sample 71 [o_ild 4] 73 := .cons (ok_iload (by decide +kernel)) .nil
theorem B_X9_sampledVisits_0 : Blk m_X9_sampledVisits 0 [o_ald 0, o_getR 9 0, o_ild 1] 5 := .cons (ok_aload_n (k := 0) rfl (by decide +kernel)) (.cons (ok_getR fl_9_12 rfl (by decide +kernel)) (.cons (ok_iload_n (k := 1) rfl (by decide +kernel)) .nil))
theorem B_X9_sampledVisits_11 : Blk m_X9_sampledVisits 11 [o_pure (g_push (.int (-2)))] 13 := .cons (ok_bipush (n := (-2)) (by decide +kernel) (by decide)) .nil
theorem B_X9_sampledVisits_14 : Blk m_X9_sampledVisits 14 [o_ild 3, o_pure (g_push (.int 0)), o_pure (g_push (.int 1000))] 19 := .cons (ok_iload_n (k := 3) rfl (by decide +kernel)) (.cons (ok_iconst (n := 0) (by decide +kernel) (by decide)) (.cons (ok_sipush (n := 1000) (by decide +kernel) (by decide)) .nil))
theorem B_X9_sampledVisits_25 : Blk m_X9_sampledVisits 25 [o_ild 4, o_pure (g_push (.int 0)), o_pure (g_push (.int 3))] 29 := .cons (ok_iload (by decide +kernel)) (.cons (ok_iconst (n := 0) (by decide +kernel) (by decide)) (.cons (ok_iconst (n := 3) (by decide +kernel) (by decide)) .nil))
theorem B_X9_sampledVisits_35 : Blk m_X9_sampledVisits 35 [o_pure (g_push (.int (-1)))] 36 := .cons (ok_iconst (n := (-1)) (by decide +kernel) (by decide)) .nil
theorem B_X9_sampledVisits_37 : Blk m_X9_sampledVisits 37 [o_ild 1, o_ist 5, o_ild 2, o_ist 6, o_ald 0, o_getR 9 0, o_getR 1 4, o_ild 5, o_iald, o_ild 4] 55 := .cons (ok_iload_n (k := 1) rfl (by decide +kernel)) (.cons (ok_istore (by decide +kernel)) (.cons (ok_iload_n (k := 2) rfl (by decide +kernel)) (.cons (ok_istore (by decide +kernel)) (.cons (ok_aload_n (k := 0) rfl (by decide +kernel)) (.cons (ok_getR fl_9_12 rfl (by decide +kernel)) (.cons (ok_getR fl_9_99 rfl (by decide +kernel)) (.cons (ok_iload (by decide +kernel)) (.cons (ok_iaload (by decide +kernel)) (.cons (ok_iload (by decide +kernel)) .nil)))))))))
theorem B_X9_sampledVisits_58 : Blk m_X9_sampledVisits 58 [o_pure (g_push (.int 1)), o_pure g_id] 63 := .cons (ok_iconst (n := 1) (by decide +kernel) (by decide)) (.cons (ok_goto (off := 4) (tgt := 63) (by decide +kernel) (by decide)) .nil)
theorem B_X9_sampledVisits_62 : Blk m_X9_sampledVisits 62 [o_pure (g_push (.int 0)), o_ist 7, o_pure (g_push (.int 0)), o_ist 8] 68 := .cons (ok_iconst (n := 0) (by decide +kernel) (by decide)) (.cons (ok_istore (by decide +kernel)) (.cons (ok_iconst (n := 0) (by decide +kernel) (by decide)) (.cons (ok_istore (by decide +kernel)) .nil)))
theorem B_X9_sampledVisits_63 : Blk m_X9_sampledVisits 63 [o_ist 7, o_pure (g_push (.int 0)), o_ist 8] 68 := .cons (ok_istore (by decide +kernel)) (.cons (ok_iconst (n := 0) (by decide +kernel) (by decide)) (.cons (ok_istore (by decide +kernel)) .nil))
theorem B_X9_sampledVisits_68 : Blk m_X9_sampledVisits 68 [o_ild 8, o_ild 3] 71 := .cons (ok_iload (by decide +kernel)) (.cons (ok_iload_n (k := 3) rfl (by decide +kernel)) .nil)
theorem B_X9_sampledVisits_74 : Blk m_X9_sampledVisits 74 [o_ild 6] 76 := .cons (ok_iload (by decide +kernel)) .nil
theorem B_X9_sampledVisits_79 : Blk m_X9_sampledVisits 79 [o_ist 6, o_ald 0, o_getR 9 0, o_ild 5, o_ild 6, o_pure (g_push (.int 16)), o_pure (g_ii (fun x y => (x.toUInt32 >>> (y.toUInt32 &&& Int32.toUInt32 31)).toInt32))] 92 := .cons (ok_istore (by decide +kernel)) (.cons (ok_aload_n (k := 0) rfl (by decide +kernel)) (.cons (ok_getR fl_9_12 rfl (by decide +kernel)) (.cons (ok_iload (by decide +kernel)) (.cons (ok_iload (by decide +kernel)) (.cons (ok_bipush (n := 16) (by decide +kernel) (by decide)) (.cons (ok_iushr (by decide +kernel)) .nil))))))
theorem B_X9_sampledVisits_95 : Blk m_X9_sampledVisits 95 [o_ist 5, o_ald 0, o_getR 9 0, o_getR 1 4, o_ild 5, o_iald, o_ild 4] 109 := .cons (ok_istore (by decide +kernel)) (.cons (ok_aload_n (k := 0) rfl (by decide +kernel)) (.cons (ok_getR fl_9_12 rfl (by decide +kernel)) (.cons (ok_getR fl_9_99 rfl (by decide +kernel)) (.cons (ok_iload (by decide +kernel)) (.cons (ok_iaload (by decide +kernel)) (.cons (ok_iload (by decide +kernel)) .nil))))))
theorem B_X9_sampledVisits_112 : Blk m_X9_sampledVisits 112 [o_iinc 7 1, o_iinc 8 1, o_pure g_id] 68 := .cons (ok_iinc (z := 1) (by decide +kernel) (by decide)) (.cons (ok_iinc (z := 1) (by decide +kernel) (by decide)) (.cons (ok_goto (off := (-50)) (tgt := 68) (by decide +kernel) (by decide)) .nil))
theorem B_X9_sampledVisits_115 : Blk m_X9_sampledVisits 115 [o_iinc 8 1, o_pure g_id] 68 := .cons (ok_iinc (z := 1) (by decide +kernel) (by decide)) (.cons (ok_goto (off := (-50)) (tgt := 68) (by decide +kernel) (by decide)) .nil)
theorem B_X9_sampledVisits_121 : Blk m_X9_sampledVisits 121 [o_ild 7] 123 := .cons (ok_iload (by decide +kernel)) .nil
theorem B_X9_nextSeed_0 : Blk m_X9_nextSeed 0 [o_ild 0, o_pure (g_push (.int 1103515245)), o_pure (g_ii (fun x y => x * y)), o_pure (g_push (.int 12345)), o_pure (g_ii (fun x y => x + y))] 8 := .cons (ok_iload_n (k := 0) rfl (by decide +kernel)) (.cons (ok_ldc (by decide +kernel) co_9_232) (.cons (ok_imul (by decide +kernel)) (.cons (ok_sipush (n := 12345) (by decide +kernel) (by decide)) (.cons (ok_iadd (by decide +kernel)) .nil))))
theorem B_X9_append_0 : Blk m_X9_append 0 [o_ild 2, o_pure (g_push (.int 1)), o_pure (g_push (.int 4))] 3 := .cons (ok_iload_n (k := 2) rfl (by decide +kernel)) (.cons (ok_iconst (n := 1) (by decide +kernel) (by decide)) (.cons (ok_iconst (n := 4) (by decide +kernel) (by decide)) .nil))
theorem B_X9_append_9 : Blk m_X9_append 9 [o_pure (g_push (.int (-1)))] 10 := .cons (ok_iconst (n := (-1)) (by decide +kernel) (by decide)) .nil
theorem B_X9_append_11 : Blk m_X9_append 11 [o_pure (g_push (.int 0)), o_ist 3] 13 := .cons (ok_iconst (n := 0) (by decide +kernel) (by decide)) (.cons (ok_istore_n (k := 3) rfl (by decide +kernel)) .nil)
theorem B_X9_append_13 : Blk m_X9_append 13 [o_ild 3, o_ild 2] 15 := .cons (ok_iload_n (k := 3) rfl (by decide +kernel)) (.cons (ok_iload_n (k := 2) rfl (by decide +kernel)) .nil)
theorem B_X9_append_18 : Blk m_X9_append 18 [o_ild 1, o_ild 3] 20 := .cons (ok_iload_n (k := 1) rfl (by decide +kernel)) (.cons (ok_iload_n (k := 3) rfl (by decide +kernel)) .nil)
theorem B_X9_append_23 : Blk m_X9_append 23 [o_pure (g_push (.int 127))] 25 := .cons (ok_bipush (n := 127) (by decide +kernel) (by decide)) .nil
theorem B_X9_append_28 : Blk m_X9_append 28 [o_pure (g_push (.int (-1)))] 29 := .cons (ok_iconst (n := (-1)) (by decide +kernel) (by decide)) .nil
theorem B_X9_append_30 : Blk m_X9_append 30 [o_iinc 3 1, o_pure g_id] 13 := .cons (ok_iinc (z := 1) (by decide +kernel) (by decide)) (.cons (ok_goto (off := (-20)) (tgt := 13) (by decide +kernel) (by decide)) .nil)
theorem B_X9_append_36 : Blk m_X9_append 36 [o_ald 0, o_getR 9 9, o_getI 5 0, o_ild 2, o_pure (g_ii (fun x y => x + y)), o_pure (g_push (.int 80))] 47 := .cons (ok_aload_n (k := 0) rfl (by decide +kernel)) (.cons (ok_getR fl_9_67 rfl (by decide +kernel)) (.cons (ok_getI fl_9_236 rfl (by decide +kernel)) (.cons (ok_iload_n (k := 2) rfl (by decide +kernel)) (.cons (ok_iadd (by decide +kernel)) (.cons (ok_bipush (n := 80) (by decide +kernel) (by decide)) .nil)))))
theorem B_X9_append_50 : Blk m_X9_append 50 [o_pure (g_push (.int (-6)))] 52 := .cons (ok_bipush (n := (-6)) (by decide +kernel) (by decide)) .nil
theorem B_X9_append_53 : Blk m_X9_append 53 [o_ild 2, o_pure (g_push (.int 1)), o_pure (g_ii (fun x y => x - y)), o_ist 3] 57 := .cons (ok_iload_n (k := 2) rfl (by decide +kernel)) (.cons (ok_iconst (n := 1) (by decide +kernel) (by decide)) (.cons (ok_isub (by decide +kernel)) (.cons (ok_istore_n (k := 3) rfl (by decide +kernel)) .nil)))
theorem B_X9_append_57 : Blk m_X9_append 57 [o_ild 3] 58 := .cons (ok_iload_n (k := 3) rfl (by decide +kernel)) .nil
theorem B_X9_append_61 : Blk m_X9_append 61 [o_ald 0, o_getR 9 9, o_ild 1, o_ild 3] 67 := .cons (ok_aload_n (k := 0) rfl (by decide +kernel)) (.cons (ok_getR fl_9_67 rfl (by decide +kernel)) (.cons (ok_iload_n (k := 1) rfl (by decide +kernel)) (.cons (ok_iload_n (k := 3) rfl (by decide +kernel)) .nil)))
theorem B_X9_append_73 : Blk m_X9_append 73 [o_iinc 3 (-1), o_pure g_id] 57 := .cons (ok_iinc (z := (-1)) (by decide +kernel) (by decide)) (.cons (ok_goto (off := (-19)) (tgt := 57) (by decide +kernel) (by decide)) .nil)
theorem B_X9_append_79 : Blk m_X9_append 79 [o_ald 0, o_getR 9 9, o_getI 5 0] 86 := .cons (ok_aload_n (k := 0) rfl (by decide +kernel)) (.cons (ok_getR fl_9_67 rfl (by decide +kernel)) (.cons (ok_getI fl_9_236 rfl (by decide +kernel)) .nil))
theorem B_X9_byteAt_0 : Blk m_X9_byteAt 0 [o_ild 0, o_pure (g_push (.int 8)), o_ild 1, o_pure (g_ii (fun x y => x * y)), o_pure (g_ii (fun x y => (x.toUInt32 >>> (y.toUInt32 &&& Int32.toUInt32 31)).toInt32)), o_pure (g_push (.int 255)), o_pure (g_ii (fun x y => x &&& y))] 10 := .cons (ok_iload_n (k := 0) rfl (by decide +kernel)) (.cons (ok_bipush (n := 8) (by decide +kernel) (by decide)) (.cons (ok_iload_n (k := 1) rfl (by decide +kernel)) (.cons (ok_imul (by decide +kernel)) (.cons (ok_iushr (by decide +kernel)) (.cons (ok_sipush (n := 255) (by decide +kernel) (by decide)) (.cons (ok_iand (by decide +kernel)) .nil))))))
theorem B_X9_clearInput_0 : Blk m_X9_clearInput 0 [o_ald 0, o_getR 9 9, o_getI 5 0, o_ist 1, o_ald 0, o_getR 9 9] 12 := .cons (ok_aload_n (k := 0) rfl (by decide +kernel)) (.cons (ok_getR fl_9_67 rfl (by decide +kernel)) (.cons (ok_getI fl_9_236 rfl (by decide +kernel)) (.cons (ok_istore_n (k := 1) rfl (by decide +kernel)) (.cons (ok_aload_n (k := 0) rfl (by decide +kernel)) (.cons (ok_getR fl_9_67 rfl (by decide +kernel)) .nil)))))
theorem B_X9_clearInput_15 : Blk m_X9_clearInput 15 [o_ild 1] 16 := .cons (ok_iload_n (k := 1) rfl (by decide +kernel)) .nil
theorem B_X9_parse_0 : Blk m_X9_parse 0 [o_ald 0, o_getR 9 8] 4 := .cons (ok_aload_n (k := 0) rfl (by decide +kernel)) (.cons (ok_getR fl_9_59 rfl (by decide +kernel)) .nil)
theorem B_X9_parse_7 : Blk m_X9_parse 7 [o_ist 1, o_ild 1] 9 := .cons (ok_istore_n (k := 1) rfl (by decide +kernel)) (.cons (ok_iload_n (k := 1) rfl (by decide +kernel)) .nil)
theorem B_X9_parse_12 : Blk m_X9_parse 12 [o_ald 0, o_getR 9 8, o_ald 0, o_getR 9 0] 20 := .cons (ok_aload_n (k := 0) rfl (by decide +kernel)) (.cons (ok_getR fl_9_59 rfl (by decide +kernel)) (.cons (ok_aload_n (k := 0) rfl (by decide +kernel)) (.cons (ok_getR fl_9_12 rfl (by decide +kernel)) .nil)))
theorem B_X9_parse_23 : Blk m_X9_parse 23 [o_ald 0, o_getR 9 4] 27 := .cons (ok_aload_n (k := 0) rfl (by decide +kernel)) (.cons (ok_getR fl_9_31 rfl (by decide +kernel)) .nil)
theorem B_X9_parse_30 : Blk m_X9_parse 30 [o_ald 0, o_getR 9 9] 34 := .cons (ok_aload_n (k := 0) rfl (by decide +kernel)) (.cons (ok_getR fl_9_67 rfl (by decide +kernel)) .nil)
theorem B_X9_parse_37 : Blk m_X9_parse 37 [o_ild 1] 38 := .cons (ok_iload_n (k := 1) rfl (by decide +kernel)) .nil
theorem B_X9_allocate_0 : Blk m_X9_allocate 0 [o_ild 1] 1 := .cons (ok_iload_n (k := 1) rfl (by decide +kernel)) .nil
theorem B_X9_allocate_7 : Blk m_X9_allocate 7 [o_ild 2, o_pure (g_push (.int 0)), o_pure (g_push (.int 3))] 10 := .cons (ok_iload_n (k := 2) rfl (by decide +kernel)) (.cons (ok_iconst (n := 0) (by decide +kernel) (by decide)) (.cons (ok_iconst (n := 3) (by decide +kernel) (by decide)) .nil))
theorem B_X9_allocate_16 : Blk m_X9_allocate 16 [o_ild 3, o_pure (g_push (.int 40))] 19 := .cons (ok_iload_n (k := 3) rfl (by decide +kernel)) (.cons (ok_bipush (n := 40) (by decide +kernel) (by decide)) .nil)
theorem B_X9_allocate_22 : Blk m_X9_allocate 22 [o_pure (g_push (.int (-1)))] 23 := .cons (ok_iconst (n := (-1)) (by decide +kernel) (by decide)) .nil
theorem B_X9_allocate_24 : Blk m_X9_allocate 24 [o_ild 3] 25 := .cons (ok_iload_n (k := 3) rfl (by decide +kernel)) .nil
theorem B_X9_allocate_28 : Blk m_X9_allocate 28 [o_pure (g_push (.int (-14)))] 30 := .cons (ok_bipush (n := (-14)) (by decide +kernel) (by decide)) .nil
theorem B_X9_allocate_31 : Blk m_X9_allocate 31 [o_ald 0, o_getR 9 10, o_ild 1, o_ild 2, o_ild 3] 38 := .cons (ok_aload_n (k := 0) rfl (by decide +kernel)) (.cons (ok_getR fl_9_73 rfl (by decide +kernel)) (.cons (ok_iload_n (k := 1) rfl (by decide +kernel)) (.cons (ok_iload_n (k := 2) rfl (by decide +kernel)) (.cons (ok_iload_n (k := 3) rfl (by decide +kernel)) .nil))))
theorem B_X9_allocate_41 : Blk m_X9_allocate 41 [o_ild 3] 42 := .cons (ok_iload_n (k := 3) rfl (by decide +kernel)) .nil
theorem B_X9_release_0 : Blk m_X9_release 0 [o_ild 1] 1 := .cons (ok_iload_n (k := 1) rfl (by decide +kernel)) .nil
theorem B_X9_release_7 : Blk m_X9_release 7 [o_pure (g_push (.int (-1)))] 8 := .cons (ok_iconst (n := (-1)) (by decide +kernel) (by decide)) .nil
theorem B_X9_release_9 : Blk m_X9_release 9 [o_ald 0, o_getR 9 10, o_ild 1] 14 := .cons (ok_aload_n (k := 0) rfl (by decide +kernel)) (.cons (ok_getR fl_9_73 rfl (by decide +kernel)) (.cons (ok_iload_n (k := 1) rfl (by decide +kernel)) .nil))
theorem B_X9_release_20 : Blk m_X9_release 20 [o_pure (g_push (.int 0))] 21 := .cons (ok_iconst (n := 0) (by decide +kernel) (by decide)) .nil
theorem B_X9_release_22 : Blk m_X9_release 22 [o_ald 0, o_getR 9 10, o_getR 0 0, o_ild 1, o_pure (g_push (.int (-1))), o_iast, o_pure (g_push (.int 1))] 33 := .cons (ok_aload_n (k := 0) rfl (by decide +kernel)) (.cons (ok_getR fl_9_73 rfl (by decide +kernel)) (.cons (ok_getR fl_9_259 rfl (by decide +kernel)) (.cons (ok_iload_n (k := 1) rfl (by decide +kernel)) (.cons (ok_iconst (n := (-1)) (by decide +kernel) (by decide)) (.cons (ok_iastore (by decide +kernel)) (.cons (ok_iconst (n := 1) (by decide +kernel) (by decide)) .nil))))))
theorem B_X9_putElement_0 : Blk m_X9_putElement 0 [o_ild 1] 1 := .cons (ok_iload_n (k := 1) rfl (by decide +kernel)) .nil
theorem B_X9_putElement_7 : Blk m_X9_putElement 7 [o_pure (g_push (.int (-1)))] 8 := .cons (ok_iconst (n := (-1)) (by decide +kernel) (by decide)) .nil
theorem B_X9_putElement_9 : Blk m_X9_putElement 9 [o_ald 0, o_getR 9 10, o_ild 1] 14 := .cons (ok_aload_n (k := 0) rfl (by decide +kernel)) (.cons (ok_getR fl_9_73 rfl (by decide +kernel)) (.cons (ok_iload_n (k := 1) rfl (by decide +kernel)) .nil))
theorem B_X9_putElement_20 : Blk m_X9_putElement 20 [o_pure (g_push (.int (-11)))] 22 := .cons (ok_bipush (n := (-11)) (by decide +kernel) (by decide)) .nil
theorem B_X9_putElement_23 : Blk m_X9_putElement 23 [o_ald 0, o_getR 9 10, o_ild 1, o_ild 2] 29 := .cons (ok_aload_n (k := 0) rfl (by decide +kernel)) (.cons (ok_getR fl_9_73 rfl (by decide +kernel)) (.cons (ok_iload_n (k := 1) rfl (by decide +kernel)) (.cons (ok_iload_n (k := 2) rfl (by decide +kernel)) .nil)))
theorem B_X9_putElement_35 : Blk m_X9_putElement 35 [o_pure (g_push (.int (-13)))] 37 := .cons (ok_bipush (n := (-13)) (by decide +kernel) (by decide)) .nil
theorem B_X9_putElement_38 : Blk m_X9_putElement 38 [o_ald 0, o_getR 9 10, o_getR 0 2, o_ild 1, o_aald5, o_ild 2, o_lld 3, o_ald 0, o_getR 9 10, o_getR 0 0, o_ild 1, o_iald] 58 := .cons (ok_aload_n (k := 0) rfl (by decide +kernel)) (.cons (ok_getR fl_9_73 rfl (by decide +kernel)) (.cons (ok_getR fl_9_266 rfl (by decide +kernel)) (.cons (ok_iload_n (k := 1) rfl (by decide +kernel)) (.cons (ok_aald5 (by decide +kernel)) (.cons (ok_iload_n (k := 2) rfl (by decide +kernel)) (.cons (ok_lload_n (k := 3) rfl (by decide +kernel)) (.cons (ok_aload_n (k := 0) rfl (by decide +kernel)) (.cons (ok_getR fl_9_73 rfl (by decide +kernel)) (.cons (ok_getR fl_9_259 rfl (by decide +kernel)) (.cons (ok_iload_n (k := 1) rfl (by decide +kernel)) (.cons (ok_iaload (by decide +kernel)) .nil)))))))))))
theorem B_X9_putElement_61 : Blk m_X9_putElement 61 [o_last, o_pure (g_push (.int 1))] 63 := .cons (ok_lastore (by decide +kernel)) (.cons (ok_iconst (n := 1) (by decide +kernel) (by decide)) .nil)
theorem B_X9_element_0 : Blk m_X9_element 0 [o_ild 1] 1 := .cons (ok_iload_n (k := 1) rfl (by decide +kernel)) .nil
theorem B_X9_element_7 : Blk m_X9_element 7 [o_ald 0, o_getR 9 10, o_ild 1] 12 := .cons (ok_aload_n (k := 0) rfl (by decide +kernel)) (.cons (ok_getR fl_9_73 rfl (by decide +kernel)) (.cons (ok_iload_n (k := 1) rfl (by decide +kernel)) .nil))
theorem B_X9_element_18 : Blk m_X9_element 18 [o_ald 0, o_getR 9 10, o_ild 1, o_ild 2] 24 := .cons (ok_aload_n (k := 0) rfl (by decide +kernel)) (.cons (ok_getR fl_9_73 rfl (by decide +kernel)) (.cons (ok_iload_n (k := 1) rfl (by decide +kernel)) (.cons (ok_iload_n (k := 2) rfl (by decide +kernel)) .nil)))
theorem B_X9_element_30 : Blk m_X9_element 30 [o_pure (g_push (.long (-9223372036854775808)))] 33 := .cons (ok_ldc2 (by decide +kernel) co_9_140) .nil
theorem B_X9_element_34 : Blk m_X9_element 34 [o_ald 0, o_getR 9 10, o_getR 0 2, o_ild 1, o_aald5, o_ild 2, o_lald] 45 := .cons (ok_aload_n (k := 0) rfl (by decide +kernel)) (.cons (ok_getR fl_9_73 rfl (by decide +kernel)) (.cons (ok_getR fl_9_266 rfl (by decide +kernel)) (.cons (ok_iload_n (k := 1) rfl (by decide +kernel)) (.cons (ok_aald5 (by decide +kernel)) (.cons (ok_iload_n (k := 2) rfl (by decide +kernel)) (.cons (ok_laload (by decide +kernel)) .nil))))))
theorem B_X9_copyElements_0 : Blk m_X9_copyElements 0 [o_ild 1] 1 := .cons (ok_iload_n (k := 1) rfl (by decide +kernel)) .nil
theorem B_X9_copyElements_7 : Blk m_X9_copyElements 7 [o_ild 3] 8 := .cons (ok_iload_n (k := 3) rfl (by decide +kernel)) .nil
theorem B_X9_copyElements_14 : Blk m_X9_copyElements 14 [o_pure (g_push (.int (-1)))] 15 := .cons (ok_iconst (n := (-1)) (by decide +kernel) (by decide)) .nil
theorem B_X9_copyElements_16 : Blk m_X9_copyElements 16 [o_ald 0, o_getR 9 10, o_ild 1] 21 := .cons (ok_aload_n (k := 0) rfl (by decide +kernel)) (.cons (ok_getR fl_9_73 rfl (by decide +kernel)) (.cons (ok_iload_n (k := 1) rfl (by decide +kernel)) .nil))
theorem B_X9_copyElements_27 : Blk m_X9_copyElements 27 [o_ald 0, o_getR 9 10, o_ild 3] 32 := .cons (ok_aload_n (k := 0) rfl (by decide +kernel)) (.cons (ok_getR fl_9_73 rfl (by decide +kernel)) (.cons (ok_iload_n (k := 3) rfl (by decide +kernel)) .nil))
theorem B_X9_copyElements_38 : Blk m_X9_copyElements 38 [o_pure (g_push (.int (-11)))] 40 := .cons (ok_bipush (n := (-11)) (by decide +kernel) (by decide)) .nil
theorem B_X9_copyElements_41 : Blk m_X9_copyElements 41 [o_ald 0, o_getR 9 10, o_getR 0 0, o_ild 1, o_iald, o_ald 0, o_getR 9 10, o_getR 0 0, o_ild 3, o_iald] 59 := .cons (ok_aload_n (k := 0) rfl (by decide +kernel)) (.cons (ok_getR fl_9_73 rfl (by decide +kernel)) (.cons (ok_getR fl_9_259 rfl (by decide +kernel)) (.cons (ok_iload_n (k := 1) rfl (by decide +kernel)) (.cons (ok_iaload (by decide +kernel)) (.cons (ok_aload_n (k := 0) rfl (by decide +kernel)) (.cons (ok_getR fl_9_73 rfl (by decide +kernel)) (.cons (ok_getR fl_9_259 rfl (by decide +kernel)) (.cons (ok_iload_n (k := 3) rfl (by decide +kernel)) (.cons (ok_iaload (by decide +kernel)) .nil)))))))))
theorem B_X9_copyElements_62 : Blk m_X9_copyElements 62 [o_pure (g_push (.int (-12)))] 64 := .cons (ok_bipush (n := (-12)) (by decide +kernel) (by decide)) .nil
theorem B_X9_copyElements_65 : Blk m_X9_copyElements 65 [o_ald 0, o_getR 9 10, o_ild 1, o_ild 2, o_ild 5] 73 := .cons (ok_aload_n (k := 0) rfl (by decide +kernel)) (.cons (ok_getR fl_9_73 rfl (by decide +kernel)) (.cons (ok_iload_n (k := 1) rfl (by decide +kernel)) (.cons (ok_iload_n (k := 2) rfl (by decide +kernel)) (.cons (ok_iload (by decide +kernel)) .nil))))
theorem B_X9_copyElements_79 : Blk m_X9_copyElements 79 [o_ald 0, o_getR 9 10, o_ild 3, o_ild 4, o_ild 5] 88 := .cons (ok_aload_n (k := 0) rfl (by decide +kernel)) (.cons (ok_getR fl_9_73 rfl (by decide +kernel)) (.cons (ok_iload_n (k := 3) rfl (by decide +kernel)) (.cons (ok_iload (by decide +kernel)) (.cons (ok_iload (by decide +kernel)) .nil))))
theorem B_X9_copyElements_94 : Blk m_X9_copyElements 94 [o_pure (g_push (.int (-13)))] 96 := .cons (ok_bipush (n := (-13)) (by decide +kernel) (by decide)) .nil
theorem B_X9_copyElements_97 : Blk m_X9_copyElements 97 [o_ald 0, o_getR 9 10, o_getR 0 2, o_ild 1, o_aald5, o_ild 2, o_ald 0, o_getR 9 10, o_getR 0 2, o_ild 3, o_aald5, o_ild 4, o_ild 5, o_cpJ, o_ild 5] 125 := .cons (ok_aload_n (k := 0) rfl (by decide +kernel)) (.cons (ok_getR fl_9_73 rfl (by decide +kernel)) (.cons (ok_getR fl_9_266 rfl (by decide +kernel)) (.cons (ok_iload_n (k := 1) rfl (by decide +kernel)) (.cons (ok_aald5 (by decide +kernel)) (.cons (ok_iload_n (k := 2) rfl (by decide +kernel)) (.cons (ok_aload_n (k := 0) rfl (by decide +kernel)) (.cons (ok_getR fl_9_73 rfl (by decide +kernel)) (.cons (ok_getR fl_9_266 rfl (by decide +kernel)) (.cons (ok_iload_n (k := 3) rfl (by decide +kernel)) (.cons (ok_aald5 (by decide +kernel)) (.cons (ok_iload (by decide +kernel)) (.cons (ok_iload (by decide +kernel)) (.cons (ok_cpJ ml_9_277 jw_acn jw_acs jw_sys (by decide +kernel)) (.cons (ok_iload (by decide +kernel)) .nil))))))))))))))
theorem B_X9_compareWithArray_0 : Blk m_X9_compareWithArray 0 [o_ild 1] 1 := .cons (ok_iload_n (k := 1) rfl (by decide +kernel)) .nil
theorem B_X9_compareWithArray_7 : Blk m_X9_compareWithArray 7 [o_pure (g_push (.int (-1)))] 8 := .cons (ok_iconst (n := (-1)) (by decide +kernel) (by decide)) .nil
theorem B_X9_compareWithArray_9 : Blk m_X9_compareWithArray 9 [o_ald 0, o_getR 9 10, o_ild 1] 14 := .cons (ok_aload_n (k := 0) rfl (by decide +kernel)) (.cons (ok_getR fl_9_73 rfl (by decide +kernel)) (.cons (ok_iload_n (k := 1) rfl (by decide +kernel)) .nil))
theorem B_X9_compareWithArray_20 : Blk m_X9_compareWithArray 20 [o_pure (g_push (.int (-11)))] 22 := .cons (ok_bipush (n := (-11)) (by decide +kernel) (by decide)) .nil
theorem B_X9_compareWithArray_23 : Blk m_X9_compareWithArray 23 [o_ald 0, o_getR 9 10, o_getR 0 0, o_ild 1, o_iald] 32 := .cons (ok_aload_n (k := 0) rfl (by decide +kernel)) (.cons (ok_getR fl_9_73 rfl (by decide +kernel)) (.cons (ok_getR fl_9_259 rfl (by decide +kernel)) (.cons (ok_iload_n (k := 1) rfl (by decide +kernel)) (.cons (ok_iaload (by decide +kernel)) .nil))))
theorem B_X9_compareWithArray_35 : Blk m_X9_compareWithArray 35 [o_pure (g_push (.int (-12)))] 37 := .cons (ok_bipush (n := (-12)) (by decide +kernel) (by decide)) .nil
theorem B_X9_compareWithArray_38 : Blk m_X9_compareWithArray 38 [o_ald 0, o_getR 9 10, o_getR 0 1, o_ild 1, o_iald, o_ist 2, o_pure (g_push (.int 0)), o_ist 3, o_pure (g_push (.int 0)), o_ist 4] 53 := .cons (ok_aload_n (k := 0) rfl (by decide +kernel)) (.cons (ok_getR fl_9_73 rfl (by decide +kernel)) (.cons (ok_getR fl_9_283 rfl (by decide +kernel)) (.cons (ok_iload_n (k := 1) rfl (by decide +kernel)) (.cons (ok_iaload (by decide +kernel)) (.cons (ok_istore_n (k := 2) rfl (by decide +kernel)) (.cons (ok_iconst (n := 0) (by decide +kernel) (by decide)) (.cons (ok_istore_n (k := 3) rfl (by decide +kernel)) (.cons (ok_iconst (n := 0) (by decide +kernel) (by decide)) (.cons (ok_istore (by decide +kernel)) .nil)))))))))
theorem B_X9_compareWithArray_53 : Blk m_X9_compareWithArray 53 [o_ild 4, o_ald 0, o_getR 9 0, o_getI 1 0] 62 := .cons (ok_iload (by decide +kernel)) (.cons (ok_aload_n (k := 0) rfl (by decide +kernel)) (.cons (ok_getR fl_9_12 rfl (by decide +kernel)) (.cons (ok_getI fl_9_81 rfl (by decide +kernel)) .nil)))
theorem B_X9_compareWithArray_65 : Blk m_X9_compareWithArray 65 [o_pure (g_push (.int 0)), o_ist 5] 68 := .cons (ok_iconst (n := 0) (by decide +kernel) (by decide)) (.cons (ok_istore (by decide +kernel)) .nil)
theorem B_X9_compareWithArray_68 : Blk m_X9_compareWithArray 68 [o_ild 5, o_ald 0, o_getR 9 0, o_getI 1 0] 77 := .cons (ok_iload (by decide +kernel)) (.cons (ok_aload_n (k := 0) rfl (by decide +kernel)) (.cons (ok_getR fl_9_12 rfl (by decide +kernel)) (.cons (ok_getI fl_9_81 rfl (by decide +kernel)) .nil)))
theorem B_X9_compareWithArray_80 : Blk m_X9_compareWithArray 80 [o_ild 3, o_ild 2] 82 := .cons (ok_iload_n (k := 3) rfl (by decide +kernel)) (.cons (ok_iload_n (k := 2) rfl (by decide +kernel)) .nil)
theorem B_X9_compareWithArray_85 : Blk m_X9_compareWithArray 85 [o_ald 0, o_getR 9 10, o_getR 0 2, o_ild 1, o_aald5, o_ild 3, o_lald, o_ald 0, o_getR 9 0, o_getR 1 5, o_ild 4, o_pure (g_push (.int 6)), o_pure (g_ii (fun x y => x * y)), o_ild 5, o_pure (g_ii (fun x y => x + y)), o_iald, o_pure (g_il (fun x => x.toInt64)), o_pure (g_cmp)] 114 := .cons (ok_aload_n (k := 0) rfl (by decide +kernel)) (.cons (ok_getR fl_9_73 rfl (by decide +kernel)) (.cons (ok_getR fl_9_266 rfl (by decide +kernel)) (.cons (ok_iload_n (k := 1) rfl (by decide +kernel)) (.cons (ok_aald5 (by decide +kernel)) (.cons (ok_iload_n (k := 3) rfl (by decide +kernel)) (.cons (ok_laload (by decide +kernel)) (.cons (ok_aload_n (k := 0) rfl (by decide +kernel)) (.cons (ok_getR fl_9_12 rfl (by decide +kernel)) (.cons (ok_getR fl_9_107 rfl (by decide +kernel)) (.cons (ok_iload (by decide +kernel)) (.cons (ok_bipush (n := 6) (by decide +kernel) (by decide)) (.cons (ok_imul (by decide +kernel)) (.cons (ok_iload (by decide +kernel)) (.cons (ok_iadd (by decide +kernel)) (.cons (ok_iaload (by decide +kernel)) (.cons (ok_i2l (by decide +kernel)) (.cons (ok_lcmp (by decide +kernel)) .nil)))))))))))))))))
theorem B_X9_compareWithArray_117 : Blk m_X9_compareWithArray 117 [o_ild 3] 118 := .cons (ok_iload_n (k := 3) rfl (by decide +kernel)) .nil
theorem B_X9_compareWithArray_119 : Blk m_X9_compareWithArray 119 [o_iinc 3 1, o_iinc 5 1, o_pure g_id] 68 := .cons (ok_iinc (z := 1) (by decide +kernel) (by decide)) (.cons (ok_iinc (z := 1) (by decide +kernel) (by decide)) (.cons (ok_goto (off := (-57)) (tgt := 68) (by decide +kernel) (by decide)) .nil))
theorem B_X9_compareWithArray_128 : Blk m_X9_compareWithArray 128 [o_iinc 4 1, o_pure g_id] 53 := .cons (ok_iinc (z := 1) (by decide +kernel) (by decide)) (.cons (ok_goto (off := (-78)) (tgt := 53) (by decide +kernel) (by decide)) .nil)
theorem B_X9_compareWithArray_134 : Blk m_X9_compareWithArray 134 [o_ild 3, o_ild 2] 136 := .cons (ok_iload_n (k := 3) rfl (by decide +kernel)) (.cons (ok_iload_n (k := 2) rfl (by decide +kernel)) .nil)
theorem B_X9_compareWithArray_139 : Blk m_X9_compareWithArray 139 [o_ild 3, o_pure g_id] 145 := .cons (ok_iload_n (k := 3) rfl (by decide +kernel)) (.cons (ok_goto (off := 5) (tgt := 145) (by decide +kernel) (by decide)) .nil)
theorem B_X9_compareWithArray_143 : Blk m_X9_compareWithArray 143 [o_pure (g_push (.int (-7)))] 145 := .cons (ok_bipush (n := (-7)) (by decide +kernel) (by decide)) .nil
theorem B_X9_isSlot_0 : Blk m_X9_isSlot 0 [o_ild 0, o_pure (g_push (.int 0)), o_pure (g_push (.int 3))] 3 := .cons (ok_iload_n (k := 0) rfl (by decide +kernel)) (.cons (ok_iconst (n := 0) (by decide +kernel) (by decide)) (.cons (ok_iconst (n := 3) (by decide +kernel) (by decide)) .nil))
theorem B_X9_snapshot_0 : Blk m_X9_snapshot 0 [o_ald 0, o_getR 9 2, o_ald 0, o_getR 9 0] 8 := .cons (ok_aload_n (k := 0) rfl (by decide +kernel)) (.cons (ok_getR fl_9_21 rfl (by decide +kernel)) (.cons (ok_aload_n (k := 0) rfl (by decide +kernel)) (.cons (ok_getR fl_9_12 rfl (by decide +kernel)) .nil)))
theorem B_X9_snapshot_11 : Blk m_X9_snapshot 11 [o_ald 0, o_pure (g_push (.int 1)), o_putZ 9 3, o_ald 0, o_getR 9 0, o_getI 1 0] 23 := .cons (ok_aload_n (k := 0) rfl (by decide +kernel)) (.cons (ok_iconst (n := 1) (by decide +kernel) (by decide)) (.cons (ok_putZ fl_9_24 rfl (by decide +kernel)) (.cons (ok_aload_n (k := 0) rfl (by decide +kernel)) (.cons (ok_getR fl_9_12 rfl (by decide +kernel)) (.cons (ok_getI fl_9_81 rfl (by decide +kernel)) .nil)))))
theorem B_X9_restore_0 : Blk m_X9_restore 0 [o_ald 0, o_getI 9 3] 4 := .cons (ok_aload_n (k := 0) rfl (by decide +kernel)) (.cons (ok_getI fl_9_24 rfl (by decide +kernel)) .nil)
theorem B_X9_restore_7 : Blk m_X9_restore 7 [o_pure (g_push (.int (-5)))] 9 := .cons (ok_bipush (n := (-5)) (by decide +kernel) (by decide)) .nil
theorem B_X9_restore_10 : Blk m_X9_restore 10 [o_ald 0, o_getR 9 0, o_ald 0, o_getR 9 2] 18 := .cons (ok_aload_n (k := 0) rfl (by decide +kernel)) (.cons (ok_getR fl_9_12 rfl (by decide +kernel)) (.cons (ok_aload_n (k := 0) rfl (by decide +kernel)) (.cons (ok_getR fl_9_21 rfl (by decide +kernel)) .nil)))
theorem B_X9_restore_21 : Blk m_X9_restore 21 [o_ald 0, o_getR 9 4] 25 := .cons (ok_aload_n (k := 0) rfl (by decide +kernel)) (.cons (ok_getR fl_9_31 rfl (by decide +kernel)) .nil)
theorem B_X9_restore_28 : Blk m_X9_restore 28 [o_ald 0, o_getR 9 0, o_getI 1 0] 35 := .cons (ok_aload_n (k := 0) rfl (by decide +kernel)) (.cons (ok_getR fl_9_12 rfl (by decide +kernel)) (.cons (ok_getI fl_9_81 rfl (by decide +kernel)) .nil))
end
section
/-! the stretches of instructions of each method: printed by program -/
theorem B_X10_init_0 : Blk m_X10_init 0 [o_ald 0, o_pure g_oi, o_ald 0, o_pure (g_push (.int 46))] 7 := .cons (ok_aload_n (k := 0) rfl (by decide +kernel)) (.cons (ok_oi ml_10_5 jw_oii jw_oic (by decide +kernel)) (.cons (ok_aload_n (k := 0) rfl (by decide +kernel)) (.cons (ok_bipush (n := 46) (by decide +kernel) (by decide)) .nil)))
theorem B_X10_init_12 : Blk m_X10_init 12 [o_ald 0, o_pure (g_push (.int 460))] 16 := .cons (ok_aload_n (k := 0) rfl (by decide +kernel)) (.cons (ok_sipush (n := 460) (by decide +kernel) (by decide)) .nil)
theorem B_X10_init_21 : Blk m_X10_init 21 [o_ald 0, o_pure (g_push (.int 46))] 24 := .cons (ok_aload_n (k := 0) rfl (by decide +kernel)) (.cons (ok_bipush (n := 46) (by decide +kernel) (by decide)) .nil)
theorem B_X10_init_29 : Blk m_X10_init 29 [o_ald 0, o_pure (g_push (.int 46))] 32 := .cons (ok_aload_n (k := 0) rfl (by decide +kernel)) (.cons (ok_bipush (n := 46) (by decide +kernel) (by decide)) .nil)
theorem B_X10_init_37 : Blk m_X10_init 37 [o_ald 0, o_pure (g_push (.int 36))] 40 := .cons (ok_aload_n (k := 0) rfl (by decide +kernel)) (.cons (ok_bipush (n := 36) (by decide +kernel) (by decide)) .nil)
theorem B_X10_init_45 : Blk m_X10_init 45 [o_ald 0, o_pure (g_push (.int 36))] 48 := .cons (ok_aload_n (k := 0) rfl (by decide +kernel)) (.cons (ok_bipush (n := 36) (by decide +kernel) (by decide)) .nil)
theorem B_X10_init_53 : Blk m_X10_init 53 [o_ald 0, o_pure (g_push (.int 36))] 56 := .cons (ok_aload_n (k := 0) rfl (by decide +kernel)) (.cons (ok_bipush (n := 36) (by decide +kernel) (by decide)) .nil)
theorem B_X10_init_61 : Blk m_X10_init 61 [o_ald 0, o_pure (g_push (.int 36))] 64 := .cons (ok_aload_n (k := 0) rfl (by decide +kernel)) (.cons (ok_bipush (n := 36) (by decide +kernel) (by decide)) .nil)
theorem B_X10_init_69 : Blk m_X10_init 69 [o_ald 0, o_pure (g_push (.int 12))] 72 := .cons (ok_aload_n (k := 0) rfl (by decide +kernel)) (.cons (ok_bipush (n := 12) (by decide +kernel) (by decide)) .nil)
theorem B_X10_init_77 : Blk m_X10_init 77 [o_ald 0, o_pure (g_push (.int 12))] 80 := .cons (ok_aload_n (k := 0) rfl (by decide +kernel)) (.cons (ok_bipush (n := 12) (by decide +kernel) (by decide)) .nil)
theorem B_X10_init_85 : Blk m_X10_init 85 [o_ald 0, o_pure (g_push (.int 6))] 88 := .cons (ok_aload_n (k := 0) rfl (by decide +kernel)) (.cons (ok_bipush (n := 6) (by decide +kernel) (by decide)) .nil)
theorem B_X10_init_93 : Blk m_X10_init 93 [o_ald 0, o_pure (g_push (.int 6))] 96 := .cons (ok_aload_n (k := 0) rfl (by decide +kernel)) (.cons (ok_bipush (n := 6) (by decide +kernel) (by decide)) .nil)
theorem B_X10_init_101 : Blk m_X10_init 101 [o_ald 0, o_pure (g_push (.int 6))] 104 := .cons (ok_aload_n (k := 0) rfl (by decide +kernel)) (.cons (ok_bipush (n := 6) (by decide +kernel) (by decide)) .nil)
theorem B_X10_init_109 : Blk m_X10_init 109 [o_ald 0, o_pure (g_push (.int 6))] 112 := .cons (ok_aload_n (k := 0) rfl (by decide +kernel)) (.cons (ok_bipush (n := 6) (by decide +kernel) (by decide)) .nil)
theorem B_X10_init_117 : Blk m_X10_init 117 [o_ald 0, o_pure (g_push (.int 80))] 120 := .cons (ok_aload_n (k := 0) rfl (by decide +kernel)) (.cons (ok_bipush (n := 80) (by decide +kernel) (by decide)) .nil)
theorem B_X10_init_125 : Blk m_X10_init 125 [o_ald 0, o_pure (g_push (.int 6))] 128 := .cons (ok_aload_n (k := 0) rfl (by decide +kernel)) (.cons (ok_bipush (n := 6) (by decide +kernel) (by decide)) .nil)
theorem B_X10_init_133 : Blk m_X10_init 133 [o_ald 0, o_pure (g_push (.int 60))] 136 := .cons (ok_aload_n (k := 0) rfl (by decide +kernel)) (.cons (ok_bipush (n := 60) (by decide +kernel) (by decide)) .nil)
theorem B_X10_init_141 : Blk m_X10_init 141 [o_ald 0, o_pure (g_push (.int 6))] 144 := .cons (ok_aload_n (k := 0) rfl (by decide +kernel)) (.cons (ok_bipush (n := 6) (by decide +kernel) (by decide)) .nil)
theorem B_X10_init_149 : Blk m_X10_init 149 [o_ald 0, o_pure (g_push (.int 4))] 151 := .cons (ok_aload_n (k := 0) rfl (by decide +kernel)) (.cons (ok_iconst (n := 4) (by decide +kernel) (by decide)) .nil)
theorem B_X10_init_156 : Blk m_X10_init 156 [o_ald 0, o_pure (g_push (.int 4))] 158 := .cons (ok_aload_n (k := 0) rfl (by decide +kernel)) (.cons (ok_iconst (n := 4) (by decide +kernel) (by decide)) .nil)
theorem B_X10_init_163 : Blk m_X10_init 163 [o_ald 0, o_pure (g_push (.int 160))] 167 := .cons (ok_aload_n (k := 0) rfl (by decide +kernel)) (.cons (ok_sipush (n := 160) (by decide +kernel) (by decide)) .nil)
theorem B_X10_init_172 : Blk m_X10_init 172 [o_ald 0, o_getR 10 0, o_pure (g_push (.int 2)), o_pure (g_push (.int 1)), o_iast, o_ald 0, o_getR 10 0, o_pure (g_push (.int 3)), o_pure (g_push (.int 1)), o_iast, o_ald 0, o_pure (g_push (.int 2)), o_pure (g_push (.int 1))] 189 := .cons (ok_aload_n (k := 0) rfl (by decide +kernel)) (.cons (ok_getR fl_10_11 rfl (by decide +kernel)) (.cons (ok_iconst (n := 2) (by decide +kernel) (by decide)) (.cons (ok_iconst (n := 1) (by decide +kernel) (by decide)) (.cons (ok_iastore (by decide +kernel)) (.cons (ok_aload_n (k := 0) rfl (by decide +kernel)) (.cons (ok_getR fl_10_11 rfl (by decide +kernel)) (.cons (ok_iconst (n := 3) (by decide +kernel) (by decide)) (.cons (ok_iconst (n := 1) (by decide +kernel) (by decide)) (.cons (ok_iastore (by decide +kernel)) (.cons (ok_aload_n (k := 0) rfl (by decide +kernel)) (.cons (ok_iconst (n := 2) (by decide +kernel) (by decide)) (.cons (ok_iconst (n := 1) (by decide +kernel) (by decide)) .nil))))))))))))
theorem B_X10_in_0 : Blk m_X10_in 0 [o_lld 0, o_lld 2, o_pure (g_cmp)] 3 := .cons (ok_lload_n (k := 0) rfl (by decide +kernel)) (.cons (ok_lload_n (k := 2) rfl (by decide +kernel)) (.cons (ok_lcmp (by decide +kernel)) .nil))
theorem B_X10_in_6 : Blk m_X10_in 6 [o_lld 0, o_lld 4, o_pure (g_cmp)] 10 := .cons (ok_lload_n (k := 0) rfl (by decide +kernel)) (.cons (ok_lload (by decide +kernel)) (.cons (ok_lcmp (by decide +kernel)) .nil))
theorem B_X10_in_13 : Blk m_X10_in 13 [o_pure (g_push (.int 1)), o_pure g_id] 18 := .cons (ok_iconst (n := 1) (by decide +kernel) (by decide)) (.cons (ok_goto (off := 4) (tgt := 18) (by decide +kernel) (by decide)) .nil)
theorem B_X10_in_17 : Blk m_X10_in 17 [o_pure (g_push (.int 0))] 18 := .cons (ok_iconst (n := 0) (by decide +kernel) (by decide)) .nil
theorem B_X10_isState_0 : Blk m_X10_isState 0 [o_ild 1, o_pure (g_il (fun x => x.toInt64)), o_pure (g_push (.long 0)), o_ald 0, o_getR 10 0, o_pure (g_push (.int 0)), o_iald, o_pure (g_push (.int 1)), o_pure (g_ii (fun x y => x - y)), o_pure (g_il (fun x => x.toInt64))] 12 := .cons (ok_iload_n (k := 1) rfl (by decide +kernel)) (.cons (ok_i2l (by decide +kernel)) (.cons (ok_lconst (n := 0) (by decide +kernel) (by decide)) (.cons (ok_aload_n (k := 0) rfl (by decide +kernel)) (.cons (ok_getR fl_10_11 rfl (by decide +kernel)) (.cons (ok_iconst (n := 0) (by decide +kernel) (by decide)) (.cons (ok_iaload (by decide +kernel)) (.cons (ok_iconst (n := 1) (by decide +kernel) (by decide)) (.cons (ok_isub (by decide +kernel)) (.cons (ok_i2l (by decide +kernel)) .nil)))))))))
theorem B_X10_w_0 : Blk m_X10_w 0 [o_ald 0, o_getR 10 0, o_pure (g_push (.int 10)), o_pure (g_push (.int 6)), o_ild 1, o_pure (g_ii (fun x y => x * y)), o_pure (g_ii (fun x y => x + y)), o_ild 2, o_pure (g_ii (fun x y => x + y)), o_iald] 14 := .cons (ok_aload_n (k := 0) rfl (by decide +kernel)) (.cons (ok_getR fl_10_11 rfl (by decide +kernel)) (.cons (ok_bipush (n := 10) (by decide +kernel) (by decide)) (.cons (ok_bipush (n := 6) (by decide +kernel) (by decide)) (.cons (ok_iload_n (k := 1) rfl (by decide +kernel)) (.cons (ok_imul (by decide +kernel)) (.cons (ok_iadd (by decide +kernel)) (.cons (ok_iload_n (k := 2) rfl (by decide +kernel)) (.cons (ok_iadd (by decide +kernel)) (.cons (ok_iaload (by decide +kernel)) .nil)))))))))
theorem B_X10_setWeight_0 : Blk m_X10_setWeight 0 [o_ald 0, o_getR 10 0, o_pure (g_push (.int 10)), o_pure (g_push (.int 6)), o_ild 1, o_pure (g_ii (fun x y => x * y)), o_pure (g_ii (fun x y => x + y)), o_ild 2, o_pure (g_ii (fun x y => x + y)), o_ild 3, o_iast] 15 := .cons (ok_aload_n (k := 0) rfl (by decide +kernel)) (.cons (ok_getR fl_10_11 rfl (by decide +kernel)) (.cons (ok_bipush (n := 10) (by decide +kernel) (by decide)) (.cons (ok_bipush (n := 6) (by decide +kernel) (by decide)) (.cons (ok_iload_n (k := 1) rfl (by decide +kernel)) (.cons (ok_imul (by decide +kernel)) (.cons (ok_iadd (by decide +kernel)) (.cons (ok_iload_n (k := 2) rfl (by decide +kernel)) (.cons (ok_iadd (by decide +kernel)) (.cons (ok_iload_n (k := 3) rfl (by decide +kernel)) (.cons (ok_iastore (by decide +kernel)) .nil))))))))))
theorem B_X10_initialize_0 : Blk m_X10_initialize 0 [o_ald 0, o_getR 10 0, o_pure (g_push (.int 0)), o_ild 1, o_iast, o_ald 0, o_getR 10 0, o_pure (g_push (.int 1)), o_ild 2, o_iast, o_pure (g_push (.int 4)), o_ist 3] 16 := .cons (ok_aload_n (k := 0) rfl (by decide +kernel)) (.cons (ok_getR fl_10_11 rfl (by decide +kernel)) (.cons (ok_iconst (n := 0) (by decide +kernel) (by decide)) (.cons (ok_iload_n (k := 1) rfl (by decide +kernel)) (.cons (ok_iastore (by decide +kernel)) (.cons (ok_aload_n (k := 0) rfl (by decide +kernel)) (.cons (ok_getR fl_10_11 rfl (by decide +kernel)) (.cons (ok_iconst (n := 1) (by decide +kernel) (by decide)) (.cons (ok_iload_n (k := 2) rfl (by decide +kernel)) (.cons (ok_iastore (by decide +kernel)) (.cons (ok_iconst (n := 4) (by decide +kernel) (by decide)) (.cons (ok_istore_n (k := 3) rfl (by decide +kernel)) .nil)))))))))))
theorem B_X10_initialize_16 : Blk m_X10_initialize 16 [o_ild 3, o_pure (g_push (.int 46))] 19 := .cons (ok_iload_n (k := 3) rfl (by decide +kernel)) (.cons (ok_bipush (n := 46) (by decide +kernel) (by decide)) .nil)
theorem B_X10_initialize_22 : Blk m_X10_initialize 22 [o_ald 0, o_getR 10 0, o_ild 3, o_pure (g_push (.int 0)), o_iast, o_iinc 3 1, o_pure g_id] 16 := .cons (ok_aload_n (k := 0) rfl (by decide +kernel)) (.cons (ok_getR fl_10_11 rfl (by decide +kernel)) (.cons (ok_iload_n (k := 3) rfl (by decide +kernel)) (.cons (ok_iconst (n := 0) (by decide +kernel) (by decide)) (.cons (ok_iastore (by decide +kernel)) (.cons (ok_iinc (z := 1) (by decide +kernel) (by decide)) (.cons (ok_goto (off := (-16)) (tgt := 16) (by decide +kernel) (by decide)) .nil))))))
theorem B_X10_initialize_35 : Blk m_X10_initialize 35 [o_pure (g_push (.int 0)), o_ist 3] 37 := .cons (ok_iconst (n := 0) (by decide +kernel) (by decide)) (.cons (ok_istore_n (k := 3) rfl (by decide +kernel)) .nil)
theorem B_X10_initialize_37 : Blk m_X10_initialize 37 [o_ild 3, o_ild 1] 39 := .cons (ok_iload_n (k := 3) rfl (by decide +kernel)) (.cons (ok_iload_n (k := 1) rfl (by decide +kernel)) .nil)
theorem B_X10_initialize_42 : Blk m_X10_initialize 42 [o_ald 0, o_ild 3, o_ild 3, o_ild 2] 46 := .cons (ok_aload_n (k := 0) rfl (by decide +kernel)) (.cons (ok_iload_n (k := 3) rfl (by decide +kernel)) (.cons (ok_iload_n (k := 3) rfl (by decide +kernel)) (.cons (ok_iload_n (k := 2) rfl (by decide +kernel)) .nil)))
theorem B_X10_initialize_49 : Blk m_X10_initialize 49 [o_iinc 3 1, o_pure g_id] 37 := .cons (ok_iinc (z := 1) (by decide +kernel) (by decide)) (.cons (ok_goto (off := (-15)) (tgt := 37) (by decide +kernel) (by decide)) .nil)
theorem B_X10_initialize_55 : Blk m_X10_initialize 55 [o_ald 0, o_pure (g_push (.int 0)), o_putI 10 2] 60 := .cons (ok_aload_n (k := 0) rfl (by decide +kernel)) (.cons (ok_iconst (n := 0) (by decide +kernel) (by decide)) (.cons (ok_putI fl_10_89 rfl (by decide +kernel)) .nil))
theorem B_X10_reset_0 : Blk m_X10_reset 0 [o_ild 1, o_pure (g_il (fun x => x.toInt64)), o_pure (g_push (.long 1)), o_pure (g_push (.long 6))] 6 := .cons (ok_iload_n (k := 1) rfl (by decide +kernel)) (.cons (ok_i2l (by decide +kernel)) (.cons (ok_lconst (n := 1) (by decide +kernel) (by decide)) (.cons (ok_ldc2 (by decide +kernel) co_10_93) .nil)))
theorem B_X10_reset_12 : Blk m_X10_reset 12 [o_ild 2, o_pure (g_il (fun x => x.toInt64)), o_pure (g_push (.long 1)), o_pure (g_push (.long 12))] 18 := .cons (ok_iload_n (k := 2) rfl (by decide +kernel)) (.cons (ok_i2l (by decide +kernel)) (.cons (ok_lconst (n := 1) (by decide +kernel) (by decide)) (.cons (ok_ldc2 (by decide +kernel) co_10_95) .nil)))
theorem B_X10_reset_24 : Blk m_X10_reset 24 [o_pure (g_push (.int (-1)))] 25 := .cons (ok_iconst (n := (-1)) (by decide +kernel) (by decide)) .nil
theorem B_X10_reset_26 : Blk m_X10_reset 26 [o_ald 0, o_getR 10 0, o_pure (g_push (.int 0)), o_iald, o_ist 3, o_ald 0, o_ild 1, o_ild 2] 36 := .cons (ok_aload_n (k := 0) rfl (by decide +kernel)) (.cons (ok_getR fl_10_11 rfl (by decide +kernel)) (.cons (ok_iconst (n := 0) (by decide +kernel) (by decide)) (.cons (ok_iaload (by decide +kernel)) (.cons (ok_istore_n (k := 3) rfl (by decide +kernel)) (.cons (ok_aload_n (k := 0) rfl (by decide +kernel)) (.cons (ok_iload_n (k := 1) rfl (by decide +kernel)) (.cons (ok_iload_n (k := 2) rfl (by decide +kernel)) .nil)))))))
theorem B_X10_reset_39 : Blk m_X10_reset 39 [o_ild 3] 40 := .cons (ok_iload_n (k := 3) rfl (by decide +kernel)) .nil
theorem B_X10_states_0 : Blk m_X10_states 0 [o_ald 0, o_getR 10 0, o_pure (g_push (.int 0)), o_iald] 6 := .cons (ok_aload_n (k := 0) rfl (by decide +kernel)) (.cons (ok_getR fl_10_11 rfl (by decide +kernel)) (.cons (ok_iconst (n := 0) (by decide +kernel) (by decide)) (.cons (ok_iaload (by decide +kernel)) .nil)))
theorem B_X10_resolution_0 : Blk m_X10_resolution 0 [o_ald 0, o_getR 10 0, o_pure (g_push (.int 1)), o_iald] 6 := .cons (ok_aload_n (k := 0) rfl (by decide +kernel)) (.cons (ok_getR fl_10_11 rfl (by decide +kernel)) (.cons (ok_iconst (n := 1) (by decide +kernel) (by decide)) (.cons (ok_iaload (by decide +kernel)) .nil)))
theorem B_X10_begin_0 : Blk m_X10_begin 0 [o_ald 0, o_getR 10 0, o_pure (g_push (.int 0)), o_ald 0, o_getR 10 5, o_pure (g_push (.int 0)), o_pure (g_push (.int 46)), o_cpI] 15 := .cons (ok_aload_n (k := 0) rfl (by decide +kernel)) (.cons (ok_getR fl_10_11 rfl (by decide +kernel)) (.cons (ok_iconst (n := 0) (by decide +kernel) (by decide)) (.cons (ok_aload_n (k := 0) rfl (by decide +kernel)) (.cons (ok_getR fl_10_21 rfl (by decide +kernel)) (.cons (ok_iconst (n := 0) (by decide +kernel) (by decide)) (.cons (ok_bipush (n := 46) (by decide +kernel) (by decide)) (.cons (ok_cpI ml_10_97 jw_acn jw_acs jw_sys (by decide +kernel)) .nil)))))))
theorem B_X10_record_0 : Blk m_X10_record 0 [o_pure (g_push (.int 0)), o_ist 1, o_pure (g_push (.int 0)), o_ist 2] 4 := .cons (ok_iconst (n := 0) (by decide +kernel) (by decide)) (.cons (ok_istore_n (k := 1) rfl (by decide +kernel)) (.cons (ok_iconst (n := 0) (by decide +kernel) (by decide)) (.cons (ok_istore_n (k := 2) rfl (by decide +kernel)) .nil)))
theorem B_X10_record_4 : Blk m_X10_record 4 [o_ild 2, o_pure (g_push (.int 46))] 7 := .cons (ok_iload_n (k := 2) rfl (by decide +kernel)) (.cons (ok_bipush (n := 46) (by decide +kernel) (by decide)) .nil)
theorem B_X10_record_10 : Blk m_X10_record 10 [o_ild 1] 11 := .cons (ok_iload_n (k := 1) rfl (by decide +kernel)) .nil
theorem B_X10_record_14 : Blk m_X10_record 14 [o_ald 0, o_getR 10 0, o_ild 2, o_iald, o_ald 0, o_getR 10 5, o_ild 2, o_iald] 26 := .cons (ok_aload_n (k := 0) rfl (by decide +kernel)) (.cons (ok_getR fl_10_11 rfl (by decide +kernel)) (.cons (ok_iload_n (k := 2) rfl (by decide +kernel)) (.cons (ok_iaload (by decide +kernel)) (.cons (ok_aload_n (k := 0) rfl (by decide +kernel)) (.cons (ok_getR fl_10_21 rfl (by decide +kernel)) (.cons (ok_iload_n (k := 2) rfl (by decide +kernel)) (.cons (ok_iaload (by decide +kernel)) .nil)))))))
theorem B_X10_record_29 : Blk m_X10_record 29 [o_pure (g_push (.int 1)), o_pure g_id] 34 := .cons (ok_iconst (n := 1) (by decide +kernel) (by decide)) (.cons (ok_goto (off := 4) (tgt := 34) (by decide +kernel) (by decide)) .nil)
theorem B_X10_record_33 : Blk m_X10_record 33 [o_pure (g_push (.int 0)), o_ist 1, o_iinc 2 1, o_pure g_id] 4 := .cons (ok_iconst (n := 0) (by decide +kernel) (by decide)) (.cons (ok_istore_n (k := 1) rfl (by decide +kernel)) (.cons (ok_iinc (z := 1) (by decide +kernel) (by decide)) (.cons (ok_goto (off := (-34)) (tgt := 4) (by decide +kernel) (by decide)) .nil)))
theorem B_X10_record_34 : Blk m_X10_record 34 [o_ist 1, o_iinc 2 1, o_pure g_id] 4 := .cons (ok_istore_n (k := 1) rfl (by decide +kernel)) (.cons (ok_iinc (z := 1) (by decide +kernel) (by decide)) (.cons (ok_goto (off := (-34)) (tgt := 4) (by decide +kernel) (by decide)) .nil))
theorem B_X10_record_41 : Blk m_X10_record 41 [o_ild 1] 42 := .cons (ok_iload_n (k := 1) rfl (by decide +kernel)) .nil
theorem B_X10_record_45 : Blk m_X10_record 45 [o_pure (g_push (.int 0))] 46 := .cons (ok_iconst (n := 0) (by decide +kernel) (by decide)) .nil
theorem B_X10_record_47 : Blk m_X10_record 47 [o_ald 0, o_getI 10 2, o_pure (g_push (.int 10))] 53 := .cons (ok_aload_n (k := 0) rfl (by decide +kernel)) (.cons (ok_getI fl_10_89 rfl (by decide +kernel)) (.cons (ok_bipush (n := 10) (by decide +kernel) (by decide)) .nil))
theorem B_X10_record_56 : Blk m_X10_record 56 [o_ald 0, o_getR 10 1, o_pure (g_push (.int 46)), o_ald 0, o_getR 10 1, o_pure (g_push (.int 0)), o_pure (g_push (.int 414)), o_cpI, o_ald 0, o_pure (g_dup), o_getI 10 2, o_pure (g_push (.int 1)), o_pure (g_ii (fun x y => x - y)), o_putI 10 2, o_ald 0, o_getR 10 5, o_pure (g_push (.int 0)), o_ald 0, o_getR 10 1, o_pure (g_push (.int 46)), o_ald 0, o_getI 10 2, o_pure (g_ii (fun x y => x * y)), o_pure (g_push (.int 46)), o_cpI, o_ald 0, o_pure (g_dup), o_getI 10 2, o_pure (g_push (.int 1)), o_pure (g_ii (fun x y => x + y)), o_putI 10 2, o_pure (g_push (.int 1))] 115 := .cons (ok_aload_n (k := 0) rfl (by decide +kernel)) (.cons (ok_getR fl_10_15 rfl (by decide +kernel)) (.cons (ok_bipush (n := 46) (by decide +kernel) (by decide)) (.cons (ok_aload_n (k := 0) rfl (by decide +kernel)) (.cons (ok_getR fl_10_15 rfl (by decide +kernel)) (.cons (ok_iconst (n := 0) (by decide +kernel) (by decide)) (.cons (ok_sipush (n := 414) (by decide +kernel) (by decide)) (.cons (ok_cpI ml_10_97 jw_acn jw_acs jw_sys (by decide +kernel)) (.cons (ok_aload_n (k := 0) rfl (by decide +kernel)) (.cons (ok_dup (by decide +kernel)) (.cons (ok_getI fl_10_89 rfl (by decide +kernel)) (.cons (ok_iconst (n := 1) (by decide +kernel) (by decide)) (.cons (ok_isub (by decide +kernel)) (.cons (ok_putI fl_10_89 rfl (by decide +kernel)) (.cons (ok_aload_n (k := 0) rfl (by decide +kernel)) (.cons (ok_getR fl_10_21 rfl (by decide +kernel)) (.cons (ok_iconst (n := 0) (by decide +kernel) (by decide)) (.cons (ok_aload_n (k := 0) rfl (by decide +kernel)) (.cons (ok_getR fl_10_15 rfl (by decide +kernel)) (.cons (ok_bipush (n := 46) (by decide +kernel) (by decide)) (.cons (ok_aload_n (k := 0) rfl (by decide +kernel)) (.cons (ok_getI fl_10_89 rfl (by decide +kernel)) (.cons (ok_imul (by decide +kernel)) (.cons (ok_bipush (n := 46) (by decide +kernel) (by decide)) (.cons (ok_cpI ml_10_97 jw_acn jw_acs jw_sys (by decide +kernel)) (.cons (ok_aload_n (k := 0) rfl (by decide +kernel)) (.cons (ok_dup (by decide +kernel)) (.cons (ok_getI fl_10_89 rfl (by decide +kernel)) (.cons (ok_iconst (n := 1) (by decide +kernel) (by decide)) (.cons (ok_iadd (by decide +kernel)) (.cons (ok_putI fl_10_89 rfl (by decide +kernel)) (.cons (ok_iconst (n := 1) (by decide +kernel) (by decide)) .nil)))))))))))))))))))))))))))))))
theorem B_X10_record_83 : Blk m_X10_record 83 [o_ald 0, o_getR 10 5, o_pure (g_push (.int 0)), o_ald 0, o_getR 10 1, o_pure (g_push (.int 46)), o_ald 0, o_getI 10 2, o_pure (g_ii (fun x y => x * y)), o_pure (g_push (.int 46)), o_cpI, o_ald 0, o_pure (g_dup), o_getI 10 2, o_pure (g_push (.int 1)), o_pure (g_ii (fun x y => x + y)), o_putI 10 2, o_pure (g_push (.int 1))] 115 := .cons (ok_aload_n (k := 0) rfl (by decide +kernel)) (.cons (ok_getR fl_10_21 rfl (by decide +kernel)) (.cons (ok_iconst (n := 0) (by decide +kernel) (by decide)) (.cons (ok_aload_n (k := 0) rfl (by decide +kernel)) (.cons (ok_getR fl_10_15 rfl (by decide +kernel)) (.cons (ok_bipush (n := 46) (by decide +kernel) (by decide)) (.cons (ok_aload_n (k := 0) rfl (by decide +kernel)) (.cons (ok_getI fl_10_89 rfl (by decide +kernel)) (.cons (ok_imul (by decide +kernel)) (.cons (ok_bipush (n := 46) (by decide +kernel) (by decide)) (.cons (ok_cpI ml_10_97 jw_acn jw_acs jw_sys (by decide +kernel)) (.cons (ok_aload_n (k := 0) rfl (by decide +kernel)) (.cons (ok_dup (by decide +kernel)) (.cons (ok_getI fl_10_89 rfl (by decide +kernel)) (.cons (ok_iconst (n := 1) (by decide +kernel) (by decide)) (.cons (ok_iadd (by decide +kernel)) (.cons (ok_putI fl_10_89 rfl (by decide +kernel)) (.cons (ok_iconst (n := 1) (by decide +kernel) (by decide)) .nil)))))))))))))))))
theorem B_X10_setLabel_0 : Blk m_X10_setLabel 0 [o_ald 0, o_ild 1] 2 := .cons (ok_aload_n (k := 0) rfl (by decide +kernel)) (.cons (ok_iload_n (k := 1) rfl (by decide +kernel)) .nil)
theorem B_X10_setLabel_8 : Blk m_X10_setLabel 8 [o_pure (g_push (.int (-2)))] 10 := .cons (ok_bipush (n := (-2)) (by decide +kernel) (by decide)) .nil
theorem B_X10_setLabel_11 : Blk m_X10_setLabel 11 [o_ild 2, o_pure (g_il (fun x => x.toInt64)), o_pure (g_push (.long 0)), o_pure (g_push (.long 3))] 17 := .cons (ok_iload_n (k := 2) rfl (by decide +kernel)) (.cons (ok_i2l (by decide +kernel)) (.cons (ok_lconst (n := 0) (by decide +kernel) (by decide)) (.cons (ok_ldc2 (by decide +kernel) co_10_107) .nil)))
theorem B_X10_setLabel_23 : Blk m_X10_setLabel 23 [o_pure (g_push (.int (-1)))] 24 := .cons (ok_iconst (n := (-1)) (by decide +kernel) (by decide)) .nil
theorem B_X10_setLabel_25 : Blk m_X10_setLabel 25 [o_ald 0] 26 := .cons (ok_aload_n (k := 0) rfl (by decide +kernel)) .nil
theorem B_X10_setLabel_29 : Blk m_X10_setLabel 29 [o_ald 0, o_getR 10 0, o_pure (g_push (.int 4)), o_ild 1, o_pure (g_ii (fun x y => x + y)), o_iald, o_ist 3, o_ald 0, o_getR 10 0, o_pure (g_push (.int 4)), o_ild 1, o_pure (g_ii (fun x y => x + y)), o_ild 2, o_iast, o_ald 0] 48 := .cons (ok_aload_n (k := 0) rfl (by decide +kernel)) (.cons (ok_getR fl_10_11 rfl (by decide +kernel)) (.cons (ok_iconst (n := 4) (by decide +kernel) (by decide)) (.cons (ok_iload_n (k := 1) rfl (by decide +kernel)) (.cons (ok_iadd (by decide +kernel)) (.cons (ok_iaload (by decide +kernel)) (.cons (ok_istore_n (k := 3) rfl (by decide +kernel)) (.cons (ok_aload_n (k := 0) rfl (by decide +kernel)) (.cons (ok_getR fl_10_11 rfl (by decide +kernel)) (.cons (ok_iconst (n := 4) (by decide +kernel) (by decide)) (.cons (ok_iload_n (k := 1) rfl (by decide +kernel)) (.cons (ok_iadd (by decide +kernel)) (.cons (ok_iload_n (k := 2) rfl (by decide +kernel)) (.cons (ok_iastore (by decide +kernel)) (.cons (ok_aload_n (k := 0) rfl (by decide +kernel)) .nil))))))))))))))
theorem B_X10_setLabel_51 : Blk m_X10_setLabel 51 [o_pure (g_pop), o_ild 3] 53 := .cons (ok_pop (by decide +kernel)) (.cons (ok_iload_n (k := 3) rfl (by decide +kernel)) .nil)
theorem B_X10_label_0 : Blk m_X10_label 0 [o_ald 0, o_ild 1] 2 := .cons (ok_aload_n (k := 0) rfl (by decide +kernel)) (.cons (ok_iload_n (k := 1) rfl (by decide +kernel)) .nil)
theorem B_X10_label_8 : Blk m_X10_label 8 [o_ald 0, o_getR 10 0, o_pure (g_push (.int 4)), o_ild 1, o_pure (g_ii (fun x y => x + y)), o_iald, o_pure g_id] 21 := .cons (ok_aload_n (k := 0) rfl (by decide +kernel)) (.cons (ok_getR fl_10_11 rfl (by decide +kernel)) (.cons (ok_iconst (n := 4) (by decide +kernel) (by decide)) (.cons (ok_iload_n (k := 1) rfl (by decide +kernel)) (.cons (ok_iadd (by decide +kernel)) (.cons (ok_iaload (by decide +kernel)) (.cons (ok_goto (off := 5) (tgt := 21) (by decide +kernel) (by decide)) .nil))))))
theorem B_X10_label_19 : Blk m_X10_label 19 [o_pure (g_push (.int (-2)))] 21 := .cons (ok_bipush (n := (-2)) (by decide +kernel) (by decide)) .nil
theorem B_X10_moveWeight_0 : Blk m_X10_moveWeight 0 [o_ald 0, o_ild 1] 2 := .cons (ok_aload_n (k := 0) rfl (by decide +kernel)) (.cons (ok_iload_n (k := 1) rfl (by decide +kernel)) .nil)
theorem B_X10_moveWeight_8 : Blk m_X10_moveWeight 8 [o_ald 0, o_ild 2] 10 := .cons (ok_aload_n (k := 0) rfl (by decide +kernel)) (.cons (ok_iload_n (k := 2) rfl (by decide +kernel)) .nil)
theorem B_X10_moveWeight_16 : Blk m_X10_moveWeight 16 [o_ald 0, o_ild 3] 18 := .cons (ok_aload_n (k := 0) rfl (by decide +kernel)) (.cons (ok_iload_n (k := 3) rfl (by decide +kernel)) .nil)
theorem B_X10_moveWeight_24 : Blk m_X10_moveWeight 24 [o_pure (g_push (.int (-2)))] 26 := .cons (ok_bipush (n := (-2)) (by decide +kernel) (by decide)) .nil
theorem B_X10_moveWeight_27 : Blk m_X10_moveWeight 27 [o_ild 4, o_pure (g_il (fun x => x.toInt64)), o_pure (g_push (.long 0)), o_pure (g_push (.long 12))] 34 := .cons (ok_iload (by decide +kernel)) (.cons (ok_i2l (by decide +kernel)) (.cons (ok_lconst (n := 0) (by decide +kernel) (by decide)) (.cons (ok_ldc2 (by decide +kernel) co_10_95) .nil)))
theorem B_X10_moveWeight_40 : Blk m_X10_moveWeight 40 [o_pure (g_push (.int (-1)))] 41 := .cons (ok_iconst (n := (-1)) (by decide +kernel) (by decide)) .nil
theorem B_X10_moveWeight_42 : Blk m_X10_moveWeight 42 [o_ild 4, o_ald 0, o_ild 1, o_ild 2] 47 := .cons (ok_iload (by decide +kernel)) (.cons (ok_aload_n (k := 0) rfl (by decide +kernel)) (.cons (ok_iload_n (k := 1) rfl (by decide +kernel)) (.cons (ok_iload_n (k := 2) rfl (by decide +kernel)) .nil)))
theorem B_X10_moveWeight_53 : Blk m_X10_moveWeight 53 [o_pure (g_push (.int (-3)))] 55 := .cons (ok_bipush (n := (-3)) (by decide +kernel) (by decide)) .nil
theorem B_X10_moveWeight_56 : Blk m_X10_moveWeight 56 [o_ald 0] 57 := .cons (ok_aload_n (k := 0) rfl (by decide +kernel)) .nil
theorem B_X10_moveWeight_60 : Blk m_X10_moveWeight 60 [o_ald 0, o_ild 1, o_ild 2, o_ald 0, o_ild 1, o_ild 2] 66 := .cons (ok_aload_n (k := 0) rfl (by decide +kernel)) (.cons (ok_iload_n (k := 1) rfl (by decide +kernel)) (.cons (ok_iload_n (k := 2) rfl (by decide +kernel)) (.cons (ok_aload_n (k := 0) rfl (by decide +kernel)) (.cons (ok_iload_n (k := 1) rfl (by decide +kernel)) (.cons (ok_iload_n (k := 2) rfl (by decide +kernel)) .nil)))))
theorem B_X10_moveWeight_69 : Blk m_X10_moveWeight 69 [o_ild 4, o_pure (g_ii (fun x y => x - y))] 72 := .cons (ok_iload (by decide +kernel)) (.cons (ok_isub (by decide +kernel)) .nil)
theorem B_X10_moveWeight_75 : Blk m_X10_moveWeight 75 [o_ald 0, o_ild 1, o_ild 3, o_ald 0, o_ild 1, o_ild 3] 81 := .cons (ok_aload_n (k := 0) rfl (by decide +kernel)) (.cons (ok_iload_n (k := 1) rfl (by decide +kernel)) (.cons (ok_iload_n (k := 3) rfl (by decide +kernel)) (.cons (ok_aload_n (k := 0) rfl (by decide +kernel)) (.cons (ok_iload_n (k := 1) rfl (by decide +kernel)) (.cons (ok_iload_n (k := 3) rfl (by decide +kernel)) .nil)))))
theorem B_X10_moveWeight_84 : Blk m_X10_moveWeight 84 [o_ild 4, o_pure (g_ii (fun x y => x + y))] 87 := .cons (ok_iload (by decide +kernel)) (.cons (ok_iadd (by decide +kernel)) .nil)
theorem B_X10_moveWeight_90 : Blk m_X10_moveWeight 90 [o_ald 0] 91 := .cons (ok_aload_n (k := 0) rfl (by decide +kernel)) .nil
theorem B_X10_moveWeight_94 : Blk m_X10_moveWeight 94 [o_pure (g_pop), o_ald 0, o_ild 1, o_ild 3] 98 := .cons (ok_pop (by decide +kernel)) (.cons (ok_aload_n (k := 0) rfl (by decide +kernel)) (.cons (ok_iload_n (k := 1) rfl (by decide +kernel)) (.cons (ok_iload_n (k := 3) rfl (by decide +kernel)) .nil)))
theorem B_X10_weight_0 : Blk m_X10_weight 0 [o_ald 0, o_ild 1] 2 := .cons (ok_aload_n (k := 0) rfl (by decide +kernel)) (.cons (ok_iload_n (k := 1) rfl (by decide +kernel)) .nil)
theorem B_X10_weight_8 : Blk m_X10_weight 8 [o_ald 0, o_ild 2] 10 := .cons (ok_aload_n (k := 0) rfl (by decide +kernel)) (.cons (ok_iload_n (k := 2) rfl (by decide +kernel)) .nil)
theorem B_X10_weight_16 : Blk m_X10_weight 16 [o_ald 0, o_ild 1, o_ild 2] 19 := .cons (ok_aload_n (k := 0) rfl (by decide +kernel)) (.cons (ok_iload_n (k := 1) rfl (by decide +kernel)) (.cons (ok_iload_n (k := 2) rfl (by decide +kernel)) .nil))
theorem B_X10_weight_22 : Blk m_X10_weight 22 [o_pure g_id] 27 := .cons (ok_goto (off := 5) (tgt := 27) (by decide +kernel) (by decide)) .nil
theorem B_X10_weight_25 : Blk m_X10_weight 25 [o_pure (g_push (.int (-2)))] 27 := .cons (ok_bipush (n := (-2)) (by decide +kernel) (by decide)) .nil
theorem B_X10_setDiscount_0 : Blk m_X10_setDiscount 0 [o_ild 2, o_pure (g_il (fun x => x.toInt64)), o_pure (g_push (.long 1)), o_pure (g_push (.long 4))] 6 := .cons (ok_iload_n (k := 2) rfl (by decide +kernel)) (.cons (ok_i2l (by decide +kernel)) (.cons (ok_lconst (n := 1) (by decide +kernel) (by decide)) (.cons (ok_ldc2 (by decide +kernel) co_10_120) .nil)))
theorem B_X10_setDiscount_12 : Blk m_X10_setDiscount 12 [o_ild 1, o_pure (g_il (fun x => x.toInt64)), o_pure (g_push (.long 0)), o_ild 2, o_pure (g_il (fun x => x.toInt64))] 17 := .cons (ok_iload_n (k := 1) rfl (by decide +kernel)) (.cons (ok_i2l (by decide +kernel)) (.cons (ok_lconst (n := 0) (by decide +kernel) (by decide)) (.cons (ok_iload_n (k := 2) rfl (by decide +kernel)) (.cons (ok_i2l (by decide +kernel)) .nil))))
theorem B_X10_setDiscount_23 : Blk m_X10_setDiscount 23 [o_pure (g_push (.int (-1)))] 24 := .cons (ok_iconst (n := (-1)) (by decide +kernel) (by decide)) .nil
theorem B_X10_setDiscount_25 : Blk m_X10_setDiscount 25 [o_ald 0] 26 := .cons (ok_aload_n (k := 0) rfl (by decide +kernel)) .nil
theorem B_X10_setDiscount_29 : Blk m_X10_setDiscount 29 [o_ald 0, o_getR 10 0, o_pure (g_push (.int 2)), o_ild 1, o_iast, o_ald 0, o_getR 10 0, o_pure (g_push (.int 3)), o_ild 2, o_iast, o_ald 0] 44 := .cons (ok_aload_n (k := 0) rfl (by decide +kernel)) (.cons (ok_getR fl_10_11 rfl (by decide +kernel)) (.cons (ok_iconst (n := 2) (by decide +kernel) (by decide)) (.cons (ok_iload_n (k := 1) rfl (by decide +kernel)) (.cons (ok_iastore (by decide +kernel)) (.cons (ok_aload_n (k := 0) rfl (by decide +kernel)) (.cons (ok_getR fl_10_11 rfl (by decide +kernel)) (.cons (ok_iconst (n := 3) (by decide +kernel) (by decide)) (.cons (ok_iload_n (k := 2) rfl (by decide +kernel)) (.cons (ok_iastore (by decide +kernel)) (.cons (ok_aload_n (k := 0) rfl (by decide +kernel)) .nil))))))))))
theorem B_X10_setDiscount_50 : Blk m_X10_setDiscount 50 [o_pure (g_push (.int 1)), o_pure g_id] 55 := .cons (ok_iconst (n := 1) (by decide +kernel) (by decide)) (.cons (ok_goto (off := 4) (tgt := 55) (by decide +kernel) (by decide)) .nil)
theorem B_X10_setDiscount_54 : Blk m_X10_setDiscount 54 [o_pure (g_push (.int 0))] 55 := .cons (ok_iconst (n := 0) (by decide +kernel) (by decide)) .nil
theorem B_X10_swapStates_0 : Blk m_X10_swapStates 0 [o_ald 0, o_ild 1] 2 := .cons (ok_aload_n (k := 0) rfl (by decide +kernel)) (.cons (ok_iload_n (k := 1) rfl (by decide +kernel)) .nil)
theorem B_X10_swapStates_8 : Blk m_X10_swapStates 8 [o_ald 0, o_ild 2] 10 := .cons (ok_aload_n (k := 0) rfl (by decide +kernel)) (.cons (ok_iload_n (k := 2) rfl (by decide +kernel)) .nil)
theorem B_X10_swapStates_16 : Blk m_X10_swapStates 16 [o_pure (g_push (.int (-2)))] 18 := .cons (ok_bipush (n := (-2)) (by decide +kernel) (by decide)) .nil
theorem B_X10_swapStates_19 : Blk m_X10_swapStates 19 [o_ald 0] 20 := .cons (ok_aload_n (k := 0) rfl (by decide +kernel)) .nil
theorem B_X10_swapStates_23 : Blk m_X10_swapStates 23 [o_pure (g_push (.int 0)), o_ist 3] 25 := .cons (ok_iconst (n := 0) (by decide +kernel) (by decide)) (.cons (ok_istore_n (k := 3) rfl (by decide +kernel)) .nil)
theorem B_X10_swapStates_25 : Blk m_X10_swapStates 25 [o_ild 3, o_ald 0, o_getR 10 0, o_pure (g_push (.int 0)), o_iald] 32 := .cons (ok_iload_n (k := 3) rfl (by decide +kernel)) (.cons (ok_aload_n (k := 0) rfl (by decide +kernel)) (.cons (ok_getR fl_10_11 rfl (by decide +kernel)) (.cons (ok_iconst (n := 0) (by decide +kernel) (by decide)) (.cons (ok_iaload (by decide +kernel)) .nil))))
theorem B_X10_swapStates_35 : Blk m_X10_swapStates 35 [o_ild 3, o_ild 1] 37 := .cons (ok_iload_n (k := 3) rfl (by decide +kernel)) (.cons (ok_iload_n (k := 1) rfl (by decide +kernel)) .nil)
theorem B_X10_swapStates_40 : Blk m_X10_swapStates 40 [o_ild 2, o_pure g_id] 54 := .cons (ok_iload_n (k := 2) rfl (by decide +kernel)) (.cons (ok_goto (off := 13) (tgt := 54) (by decide +kernel) (by decide)) .nil)
theorem B_X10_swapStates_44 : Blk m_X10_swapStates 44 [o_ild 3, o_ild 2] 46 := .cons (ok_iload_n (k := 3) rfl (by decide +kernel)) (.cons (ok_iload_n (k := 2) rfl (by decide +kernel)) .nil)
theorem B_X10_swapStates_49 : Blk m_X10_swapStates 49 [o_ild 1, o_pure g_id] 54 := .cons (ok_iload_n (k := 1) rfl (by decide +kernel)) (.cons (ok_goto (off := 4) (tgt := 54) (by decide +kernel) (by decide)) .nil)
theorem B_X10_swapStates_53 : Blk m_X10_swapStates 53 [o_ild 3, o_ist 4, o_ald 0, o_getR 10 0, o_pure (g_push (.int 4)), o_ild 3, o_pure (g_ii (fun x y => x + y)), o_ald 0, o_getR 10 5, o_pure (g_push (.int 4)), o_ild 4, o_pure (g_ii (fun x y => x + y)), o_iald, o_iast, o_pure (g_push (.int 0)), o_ist 5] 76 := .cons (ok_iload_n (k := 3) rfl (by decide +kernel)) (.cons (ok_istore (by decide +kernel)) (.cons (ok_aload_n (k := 0) rfl (by decide +kernel)) (.cons (ok_getR fl_10_11 rfl (by decide +kernel)) (.cons (ok_iconst (n := 4) (by decide +kernel) (by decide)) (.cons (ok_iload_n (k := 3) rfl (by decide +kernel)) (.cons (ok_iadd (by decide +kernel)) (.cons (ok_aload_n (k := 0) rfl (by decide +kernel)) (.cons (ok_getR fl_10_21 rfl (by decide +kernel)) (.cons (ok_iconst (n := 4) (by decide +kernel) (by decide)) (.cons (ok_iload (by decide +kernel)) (.cons (ok_iadd (by decide +kernel)) (.cons (ok_iaload (by decide +kernel)) (.cons (ok_iastore (by decide +kernel)) (.cons (ok_iconst (n := 0) (by decide +kernel) (by decide)) (.cons (ok_istore (by decide +kernel)) .nil)))))))))))))))
theorem B_X10_swapStates_54 : Blk m_X10_swapStates 54 [o_ist 4, o_ald 0, o_getR 10 0, o_pure (g_push (.int 4)), o_ild 3, o_pure (g_ii (fun x y => x + y)), o_ald 0, o_getR 10 5, o_pure (g_push (.int 4)), o_ild 4, o_pure (g_ii (fun x y => x + y)), o_iald, o_iast, o_pure (g_push (.int 0)), o_ist 5] 76 := .cons (ok_istore (by decide +kernel)) (.cons (ok_aload_n (k := 0) rfl (by decide +kernel)) (.cons (ok_getR fl_10_11 rfl (by decide +kernel)) (.cons (ok_iconst (n := 4) (by decide +kernel) (by decide)) (.cons (ok_iload_n (k := 3) rfl (by decide +kernel)) (.cons (ok_iadd (by decide +kernel)) (.cons (ok_aload_n (k := 0) rfl (by decide +kernel)) (.cons (ok_getR fl_10_21 rfl (by decide +kernel)) (.cons (ok_iconst (n := 4) (by decide +kernel) (by decide)) (.cons (ok_iload (by decide +kernel)) (.cons (ok_iadd (by decide +kernel)) (.cons (ok_iaload (by decide +kernel)) (.cons (ok_iastore (by decide +kernel)) (.cons (ok_iconst (n := 0) (by decide +kernel) (by decide)) (.cons (ok_istore (by decide +kernel)) .nil))))))))))))))
theorem B_X10_swapStates_76 : Blk m_X10_swapStates 76 [o_ild 5, o_ald 0, o_getR 10 0, o_pure (g_push (.int 0)), o_iald] 84 := .cons (ok_iload (by decide +kernel)) (.cons (ok_aload_n (k := 0) rfl (by decide +kernel)) (.cons (ok_getR fl_10_11 rfl (by decide +kernel)) (.cons (ok_iconst (n := 0) (by decide +kernel) (by decide)) (.cons (ok_iaload (by decide +kernel)) .nil))))
theorem B_X10_swapStates_87 : Blk m_X10_swapStates 87 [o_ild 5, o_ild 1] 90 := .cons (ok_iload (by decide +kernel)) (.cons (ok_iload_n (k := 1) rfl (by decide +kernel)) .nil)
theorem B_X10_swapStates_93 : Blk m_X10_swapStates 93 [o_ild 2, o_pure g_id] 109 := .cons (ok_iload_n (k := 2) rfl (by decide +kernel)) (.cons (ok_goto (off := 15) (tgt := 109) (by decide +kernel) (by decide)) .nil)
theorem B_X10_swapStates_97 : Blk m_X10_swapStates 97 [o_ild 5, o_ild 2] 100 := .cons (ok_iload (by decide +kernel)) (.cons (ok_iload_n (k := 2) rfl (by decide +kernel)) .nil)
theorem B_X10_swapStates_103 : Blk m_X10_swapStates 103 [o_ild 1, o_pure g_id] 109 := .cons (ok_iload_n (k := 1) rfl (by decide +kernel)) (.cons (ok_goto (off := 5) (tgt := 109) (by decide +kernel) (by decide)) .nil)
theorem B_X10_swapStates_107 : Blk m_X10_swapStates 107 [o_ild 5, o_ist 6, o_ald 0, o_ild 3, o_ild 5, o_ald 0, o_getR 10 5, o_pure (g_push (.int 10)), o_pure (g_push (.int 6)), o_ild 4, o_pure (g_ii (fun x y => x * y)), o_pure (g_ii (fun x y => x + y)), o_ild 6, o_pure (g_ii (fun x y => x + y)), o_iald] 131 := .cons (ok_iload (by decide +kernel)) (.cons (ok_istore (by decide +kernel)) (.cons (ok_aload_n (k := 0) rfl (by decide +kernel)) (.cons (ok_iload_n (k := 3) rfl (by decide +kernel)) (.cons (ok_iload (by decide +kernel)) (.cons (ok_aload_n (k := 0) rfl (by decide +kernel)) (.cons (ok_getR fl_10_21 rfl (by decide +kernel)) (.cons (ok_bipush (n := 10) (by decide +kernel) (by decide)) (.cons (ok_bipush (n := 6) (by decide +kernel) (by decide)) (.cons (ok_iload (by decide +kernel)) (.cons (ok_imul (by decide +kernel)) (.cons (ok_iadd (by decide +kernel)) (.cons (ok_iload (by decide +kernel)) (.cons (ok_iadd (by decide +kernel)) (.cons (ok_iaload (by decide +kernel)) .nil))))))))))))))
theorem B_X10_swapStates_109 : Blk m_X10_swapStates 109 [o_ist 6, o_ald 0, o_ild 3, o_ild 5, o_ald 0, o_getR 10 5, o_pure (g_push (.int 10)), o_pure (g_push (.int 6)), o_ild 4, o_pure (g_ii (fun x y => x * y)), o_pure (g_ii (fun x y => x + y)), o_ild 6, o_pure (g_ii (fun x y => x + y)), o_iald] 131 := .cons (ok_istore (by decide +kernel)) (.cons (ok_aload_n (k := 0) rfl (by decide +kernel)) (.cons (ok_iload_n (k := 3) rfl (by decide +kernel)) (.cons (ok_iload (by decide +kernel)) (.cons (ok_aload_n (k := 0) rfl (by decide +kernel)) (.cons (ok_getR fl_10_21 rfl (by decide +kernel)) (.cons (ok_bipush (n := 10) (by decide +kernel) (by decide)) (.cons (ok_bipush (n := 6) (by decide +kernel) (by decide)) (.cons (ok_iload (by decide +kernel)) (.cons (ok_imul (by decide +kernel)) (.cons (ok_iadd (by decide +kernel)) (.cons (ok_iload (by decide +kernel)) (.cons (ok_iadd (by decide +kernel)) (.cons (ok_iaload (by decide +kernel)) .nil)))))))))))))
theorem B_X10_swapStates_134 : Blk m_X10_swapStates 134 [o_iinc 5 1, o_pure g_id] 76 := .cons (ok_iinc (z := 1) (by decide +kernel) (by decide)) (.cons (ok_goto (off := (-61)) (tgt := 76) (by decide +kernel) (by decide)) .nil)
theorem B_X10_swapStates_140 : Blk m_X10_swapStates 140 [o_iinc 3 1, o_pure g_id] 25 := .cons (ok_iinc (z := 1) (by decide +kernel) (by decide)) (.cons (ok_goto (off := (-118)) (tgt := 25) (by decide +kernel) (by decide)) .nil)
theorem B_X10_swapStates_146 : Blk m_X10_swapStates 146 [o_ald 0] 147 := .cons (ok_aload_n (k := 0) rfl (by decide +kernel)) .nil
theorem B_X10_swapStates_153 : Blk m_X10_swapStates 153 [o_pure (g_push (.int 1)), o_pure g_id] 158 := .cons (ok_iconst (n := 1) (by decide +kernel) (by decide)) (.cons (ok_goto (off := 4) (tgt := 158) (by decide +kernel) (by decide)) .nil)
theorem B_X10_swapStates_157 : Blk m_X10_swapStates 157 [o_pure (g_push (.int 0))] 158 := .cons (ok_iconst (n := 0) (by decide +kernel) (by decide)) .nil
theorem B_X10_undo_0 : Blk m_X10_undo 0 [o_ald 0, o_getI 10 2] 4 := .cons (ok_aload_n (k := 0) rfl (by decide +kernel)) (.cons (ok_getI fl_10_89 rfl (by decide +kernel)) .nil)
theorem B_X10_undo_7 : Blk m_X10_undo 7 [o_pure (g_push (.int (-5)))] 9 := .cons (ok_bipush (n := (-5)) (by decide +kernel) (by decide)) .nil
theorem B_X10_undo_10 : Blk m_X10_undo 10 [o_ald 0, o_pure (g_dup), o_getI 10 2, o_pure (g_push (.int 1)), o_pure (g_ii (fun x y => x - y)), o_putI 10 2, o_ald 0, o_getR 10 1, o_pure (g_push (.int 46)), o_ald 0, o_getI 10 2, o_pure (g_ii (fun x y => x * y)), o_ald 0, o_getR 10 0, o_pure (g_push (.int 0)), o_pure (g_push (.int 46)), o_cpI, o_ald 0, o_getI 10 2] 45 := .cons (ok_aload_n (k := 0) rfl (by decide +kernel)) (.cons (ok_dup (by decide +kernel)) (.cons (ok_getI fl_10_89 rfl (by decide +kernel)) (.cons (ok_iconst (n := 1) (by decide +kernel) (by decide)) (.cons (ok_isub (by decide +kernel)) (.cons (ok_putI fl_10_89 rfl (by decide +kernel)) (.cons (ok_aload_n (k := 0) rfl (by decide +kernel)) (.cons (ok_getR fl_10_15 rfl (by decide +kernel)) (.cons (ok_bipush (n := 46) (by decide +kernel) (by decide)) (.cons (ok_aload_n (k := 0) rfl (by decide +kernel)) (.cons (ok_getI fl_10_89 rfl (by decide +kernel)) (.cons (ok_imul (by decide +kernel)) (.cons (ok_aload_n (k := 0) rfl (by decide +kernel)) (.cons (ok_getR fl_10_11 rfl (by decide +kernel)) (.cons (ok_iconst (n := 0) (by decide +kernel) (by decide)) (.cons (ok_bipush (n := 46) (by decide +kernel) (by decide)) (.cons (ok_cpI ml_10_97 jw_acn jw_acs jw_sys (by decide +kernel)) (.cons (ok_aload_n (k := 0) rfl (by decide +kernel)) (.cons (ok_getI fl_10_89 rfl (by decide +kernel)) .nil))))))))))))))))))
theorem B_X10_editCount_0 : Blk m_X10_editCount 0 [o_ald 0, o_getI 10 2] 4 := .cons (ok_aload_n (k := 0) rfl (by decide +kernel)) (.cons (ok_getI fl_10_89 rfl (by decide +kernel)) .nil)
theorem B_X10_unit_0 : Blk m_X10_unit 0 [o_ald 0, o_getR 10 0, o_pure (g_push (.int 3)), o_iald, o_ald 0, o_getR 10 0, o_pure (g_push (.int 1)), o_iald, o_pure (g_ii (fun x y => x * y))] 13 := .cons (ok_aload_n (k := 0) rfl (by decide +kernel)) (.cons (ok_getR fl_10_11 rfl (by decide +kernel)) (.cons (ok_iconst (n := 3) (by decide +kernel) (by decide)) (.cons (ok_iaload (by decide +kernel)) (.cons (ok_aload_n (k := 0) rfl (by decide +kernel)) (.cons (ok_getR fl_10_11 rfl (by decide +kernel)) (.cons (ok_iconst (n := 1) (by decide +kernel) (by decide)) (.cons (ok_iaload (by decide +kernel)) (.cons (ok_imul (by decide +kernel)) .nil))))))))
theorem B_X10_scale_0 : Blk m_X10_scale 0 [o_pure (g_push (.long 1)), o_lst 2, o_pure (g_push (.int 0)), o_ist 4] 5 := .cons (ok_lconst (n := 1) (by decide +kernel) (by decide)) (.cons (ok_lstore_n (k := 2) rfl (by decide +kernel)) (.cons (ok_iconst (n := 0) (by decide +kernel) (by decide)) (.cons (ok_istore (by decide +kernel)) .nil)))
theorem B_X10_scale_5 : Blk m_X10_scale 5 [o_ild 4, o_ild 1] 8 := .cons (ok_iload (by decide +kernel)) (.cons (ok_iload_n (k := 1) rfl (by decide +kernel)) .nil)
theorem B_X10_scale_11 : Blk m_X10_scale 11 [o_lld 2, o_pure (g_push (.long 1000000000000000)), o_ald 0] 16 := .cons (ok_lload_n (k := 2) rfl (by decide +kernel)) (.cons (ok_ldc2 (by decide +kernel) co_10_122) (.cons (ok_aload_n (k := 0) rfl (by decide +kernel)) .nil))
theorem B_X10_scale_19 : Blk m_X10_scale 19 [o_pure (g_il (fun x => x.toInt64)), o_dll (fun x y => x / y), o_pure (g_cmp)] 22 := .cons (ok_i2l (by decide +kernel)) (.cons (ok_ldiv (by decide +kernel)) (.cons (ok_lcmp (by decide +kernel)) .nil))
theorem B_X10_scale_25 : Blk m_X10_scale 25 [o_pure (g_push (.long 0))] 26 := .cons (ok_lconst (n := 0) (by decide +kernel) (by decide)) .nil
theorem B_X10_scale_27 : Blk m_X10_scale 27 [o_lld 2, o_ald 0] 29 := .cons (ok_lload_n (k := 2) rfl (by decide +kernel)) (.cons (ok_aload_n (k := 0) rfl (by decide +kernel)) .nil)
theorem B_X10_scale_32 : Blk m_X10_scale 32 [o_pure (g_il (fun x => x.toInt64)), o_pure (g_ll (fun x y => x * y)), o_lst 2, o_iinc 4 1, o_pure g_id] 5 := .cons (ok_i2l (by decide +kernel)) (.cons (ok_lmul (by decide +kernel)) (.cons (ok_lstore_n (k := 2) rfl (by decide +kernel)) (.cons (ok_iinc (z := 1) (by decide +kernel) (by decide)) (.cons (ok_goto (off := (-33)) (tgt := 5) (by decide +kernel) (by decide)) .nil))))
theorem B_X10_scale_41 : Blk m_X10_scale 41 [o_lld 2] 42 := .cons (ok_lload_n (k := 2) rfl (by decide +kernel)) .nil
theorem B_X10_maximumDepth_0 : Blk m_X10_maximumDepth 0 [o_ald 0] 1 := .cons (ok_aload_n (k := 0) rfl (by decide +kernel)) .nil
theorem B_X10_maximumDepth_4 : Blk m_X10_maximumDepth 4 [o_pure (g_push (.int 1))] 5 := .cons (ok_iconst (n := 1) (by decide +kernel) (by decide)) .nil
theorem B_X10_maximumDepth_8 : Blk m_X10_maximumDepth 8 [o_pure (g_push (.int 99))] 10 := .cons (ok_bipush (n := 99) (by decide +kernel) (by decide)) .nil
theorem B_X10_maximumDepth_11 : Blk m_X10_maximumDepth 11 [o_pure (g_push (.int 0)), o_ist 1] 13 := .cons (ok_iconst (n := 0) (by decide +kernel) (by decide)) (.cons (ok_istore_n (k := 1) rfl (by decide +kernel)) .nil)
theorem B_X10_maximumDepth_13 : Blk m_X10_maximumDepth 13 [o_ald 0, o_ild 1, o_pure (g_push (.int 1)), o_pure (g_ii (fun x y => x + y))] 17 := .cons (ok_aload_n (k := 0) rfl (by decide +kernel)) (.cons (ok_iload_n (k := 1) rfl (by decide +kernel)) (.cons (ok_iconst (n := 1) (by decide +kernel) (by decide)) (.cons (ok_iadd (by decide +kernel)) .nil)))
theorem B_X10_maximumDepth_20 : Blk m_X10_maximumDepth 20 [o_pure (g_push (.long 0)), o_pure (g_cmp)] 22 := .cons (ok_lconst (n := 0) (by decide +kernel) (by decide)) (.cons (ok_lcmp (by decide +kernel)) .nil)
theorem B_X10_maximumDepth_25 : Blk m_X10_maximumDepth 25 [o_iinc 1 1, o_pure g_id] 13 := .cons (ok_iinc (z := 1) (by decide +kernel) (by decide)) (.cons (ok_goto (off := (-15)) (tgt := 13) (by decide +kernel) (by decide)) .nil)
theorem B_X10_maximumDepth_31 : Blk m_X10_maximumDepth 31 [o_ild 1] 32 := .cons (ok_iload_n (k := 1) rfl (by decide +kernel)) .nil
theorem B_X10_d_0 : Blk m_X10_d 0 [o_ald 0, o_getR 10 6, o_pure (g_push (.int 6)), o_ild 1, o_pure (g_ii (fun x y => x * y)), o_ild 2, o_pure (g_ii (fun x y => x + y)), o_lald] 11 := .cons (ok_aload_n (k := 0) rfl (by decide +kernel)) (.cons (ok_getR fl_10_24 rfl (by decide +kernel)) (.cons (ok_bipush (n := 6) (by decide +kernel) (by decide)) (.cons (ok_iload_n (k := 1) rfl (by decide +kernel)) (.cons (ok_imul (by decide +kernel)) (.cons (ok_iload_n (k := 2) rfl (by decide +kernel)) (.cons (ok_iadd (by decide +kernel)) (.cons (ok_laload (by decide +kernel)) .nil)))))))
theorem B_X10_computeDistances_0 : Blk m_X10_computeDistances 0 [o_pure (g_push (.int 0)), o_ist 2] 2 := .cons (ok_iconst (n := 0) (by decide +kernel) (by decide)) (.cons (ok_istore_n (k := 2) rfl (by decide +kernel)) .nil)
theorem B_X10_computeDistances_2 : Blk m_X10_computeDistances 2 [o_ild 2, o_pure (g_push (.int 36))] 5 := .cons (ok_iload_n (k := 2) rfl (by decide +kernel)) (.cons (ok_bipush (n := 36) (by decide +kernel) (by decide)) .nil)
theorem B_X10_computeDistances_8 : Blk m_X10_computeDistances 8 [o_ald 0, o_getR 10 6, o_ild 2, o_pure (g_push (.long 0)), o_last, o_iinc 2 1, o_pure g_id] 2 := .cons (ok_aload_n (k := 0) rfl (by decide +kernel)) (.cons (ok_getR fl_10_24 rfl (by decide +kernel)) (.cons (ok_iload_n (k := 2) rfl (by decide +kernel)) (.cons (ok_lconst (n := 0) (by decide +kernel) (by decide)) (.cons (ok_lastore (by decide +kernel)) (.cons (ok_iinc (z := 1) (by decide +kernel) (by decide)) (.cons (ok_goto (off := (-16)) (tgt := 2) (by decide +kernel) (by decide)) .nil))))))
theorem B_X10_computeDistances_21 : Blk m_X10_computeDistances 21 [o_pure (g_push (.int 1)), o_ist 2] 23 := .cons (ok_iconst (n := 1) (by decide +kernel) (by decide)) (.cons (ok_istore_n (k := 2) rfl (by decide +kernel)) .nil)
theorem B_X10_computeDistances_23 : Blk m_X10_computeDistances 23 [o_ild 2, o_ild 1] 25 := .cons (ok_iload_n (k := 2) rfl (by decide +kernel)) (.cons (ok_iload_n (k := 1) rfl (by decide +kernel)) .nil)
theorem B_X10_computeDistances_28 : Blk m_X10_computeDistances 28 [o_pure (g_push (.int 0)), o_ist 3] 30 := .cons (ok_iconst (n := 0) (by decide +kernel) (by decide)) (.cons (ok_istore_n (k := 3) rfl (by decide +kernel)) .nil)
theorem B_X10_computeDistances_30 : Blk m_X10_computeDistances 30 [o_ild 3, o_ald 0, o_getR 10 0, o_pure (g_push (.int 0)), o_iald] 37 := .cons (ok_iload_n (k := 3) rfl (by decide +kernel)) (.cons (ok_aload_n (k := 0) rfl (by decide +kernel)) (.cons (ok_getR fl_10_11 rfl (by decide +kernel)) (.cons (ok_iconst (n := 0) (by decide +kernel) (by decide)) (.cons (ok_iaload (by decide +kernel)) .nil))))
theorem B_X10_computeDistances_40 : Blk m_X10_computeDistances 40 [o_pure (g_push (.int 0)), o_ist 4] 43 := .cons (ok_iconst (n := 0) (by decide +kernel) (by decide)) (.cons (ok_istore (by decide +kernel)) .nil)
theorem B_X10_computeDistances_43 : Blk m_X10_computeDistances 43 [o_ild 4, o_ald 0, o_getR 10 0, o_pure (g_push (.int 0)), o_iald] 51 := .cons (ok_iload (by decide +kernel)) (.cons (ok_aload_n (k := 0) rfl (by decide +kernel)) (.cons (ok_getR fl_10_11 rfl (by decide +kernel)) (.cons (ok_iconst (n := 0) (by decide +kernel) (by decide)) (.cons (ok_iaload (by decide +kernel)) .nil))))
theorem B_X10_computeDistances_54 : Blk m_X10_computeDistances 54 [o_ald 0, o_getR 10 0, o_pure (g_push (.int 4)), o_ild 3, o_pure (g_ii (fun x y => x + y)), o_iald, o_ald 0, o_getR 10 0, o_pure (g_push (.int 4)), o_ild 4, o_pure (g_ii (fun x y => x + y)), o_iald] 71 := .cons (ok_aload_n (k := 0) rfl (by decide +kernel)) (.cons (ok_getR fl_10_11 rfl (by decide +kernel)) (.cons (ok_iconst (n := 4) (by decide +kernel) (by decide)) (.cons (ok_iload_n (k := 3) rfl (by decide +kernel)) (.cons (ok_iadd (by decide +kernel)) (.cons (ok_iaload (by decide +kernel)) (.cons (ok_aload_n (k := 0) rfl (by decide +kernel)) (.cons (ok_getR fl_10_11 rfl (by decide +kernel)) (.cons (ok_iconst (n := 4) (by decide +kernel) (by decide)) (.cons (ok_iload (by decide +kernel)) (.cons (ok_iadd (by decide +kernel)) (.cons (ok_iaload (by decide +kernel)) .nil)))))))))))
theorem B_X10_computeDistances_74 : Blk m_X10_computeDistances 74 [o_pure (g_push (.int 1)), o_pure g_id] 79 := .cons (ok_iconst (n := 1) (by decide +kernel) (by decide)) (.cons (ok_goto (off := 4) (tgt := 79) (by decide +kernel) (by decide)) .nil)
theorem B_X10_computeDistances_78 : Blk m_X10_computeDistances 78 [o_pure (g_push (.int 0)), o_ist 5, o_ald 0, o_getR 10 7, o_pure (g_push (.int 6)), o_ild 3, o_pure (g_ii (fun x y => x * y)), o_ild 4, o_pure (g_ii (fun x y => x + y)), o_ild 5] 94 := .cons (ok_iconst (n := 0) (by decide +kernel) (by decide)) (.cons (ok_istore (by decide +kernel)) (.cons (ok_aload_n (k := 0) rfl (by decide +kernel)) (.cons (ok_getR fl_10_28 rfl (by decide +kernel)) (.cons (ok_bipush (n := 6) (by decide +kernel) (by decide)) (.cons (ok_iload_n (k := 3) rfl (by decide +kernel)) (.cons (ok_imul (by decide +kernel)) (.cons (ok_iload (by decide +kernel)) (.cons (ok_iadd (by decide +kernel)) (.cons (ok_iload (by decide +kernel)) .nil)))))))))
theorem B_X10_computeDistances_79 : Blk m_X10_computeDistances 79 [o_ist 5, o_ald 0, o_getR 10 7, o_pure (g_push (.int 6)), o_ild 3, o_pure (g_ii (fun x y => x * y)), o_ild 4, o_pure (g_ii (fun x y => x + y)), o_ild 5] 94 := .cons (ok_istore (by decide +kernel)) (.cons (ok_aload_n (k := 0) rfl (by decide +kernel)) (.cons (ok_getR fl_10_28 rfl (by decide +kernel)) (.cons (ok_bipush (n := 6) (by decide +kernel) (by decide)) (.cons (ok_iload_n (k := 3) rfl (by decide +kernel)) (.cons (ok_imul (by decide +kernel)) (.cons (ok_iload (by decide +kernel)) (.cons (ok_iadd (by decide +kernel)) (.cons (ok_iload (by decide +kernel)) .nil))))))))
theorem B_X10_computeDistances_97 : Blk m_X10_computeDistances 97 [o_ald 0, o_getR 10 0, o_pure (g_push (.int 2)), o_iald, o_pure (g_il (fun x => x.toInt64)), o_ald 0, o_ild 3, o_ild 4] 108 := .cons (ok_aload_n (k := 0) rfl (by decide +kernel)) (.cons (ok_getR fl_10_11 rfl (by decide +kernel)) (.cons (ok_iconst (n := 2) (by decide +kernel) (by decide)) (.cons (ok_iaload (by decide +kernel)) (.cons (ok_i2l (by decide +kernel)) (.cons (ok_aload_n (k := 0) rfl (by decide +kernel)) (.cons (ok_iload_n (k := 3) rfl (by decide +kernel)) (.cons (ok_iload (by decide +kernel)) .nil)))))))
theorem B_X10_computeDistances_111 : Blk m_X10_computeDistances 111 [o_pure (g_ll (fun x y => x * y)), o_pure g_id] 120 := .cons (ok_lmul (by decide +kernel)) (.cons (ok_goto (off := 8) (tgt := 120) (by decide +kernel) (by decide)) .nil)
theorem B_X10_computeDistances_115 : Blk m_X10_computeDistances 115 [o_ald 0, o_ild 2] 117 := .cons (ok_aload_n (k := 0) rfl (by decide +kernel)) (.cons (ok_iload_n (k := 2) rfl (by decide +kernel)) .nil)
theorem B_X10_computeDistances_120 : Blk m_X10_computeDistances 120 [o_last, o_iinc 4 1, o_pure g_id] 43 := .cons (ok_lastore (by decide +kernel)) (.cons (ok_iinc (z := 1) (by decide +kernel) (by decide)) (.cons (ok_goto (off := (-81)) (tgt := 43) (by decide +kernel) (by decide)) .nil))
theorem B_X10_computeDistances_127 : Blk m_X10_computeDistances 127 [o_iinc 3 1, o_pure g_id] 30 := .cons (ok_iinc (z := 1) (by decide +kernel) (by decide)) (.cons (ok_goto (off := (-100)) (tgt := 30) (by decide +kernel) (by decide)) .nil)
theorem B_X10_computeDistances_133 : Blk m_X10_computeDistances 133 [o_ald 0, o_getR 10 7, o_pure (g_push (.int 0)), o_ald 0, o_getR 10 6, o_pure (g_push (.int 0)), o_pure (g_push (.int 36)), o_cpJ, o_iinc 2 1, o_pure g_id] 23 := .cons (ok_aload_n (k := 0) rfl (by decide +kernel)) (.cons (ok_getR fl_10_28 rfl (by decide +kernel)) (.cons (ok_iconst (n := 0) (by decide +kernel) (by decide)) (.cons (ok_aload_n (k := 0) rfl (by decide +kernel)) (.cons (ok_getR fl_10_24 rfl (by decide +kernel)) (.cons (ok_iconst (n := 0) (by decide +kernel) (by decide)) (.cons (ok_bipush (n := 36) (by decide +kernel) (by decide)) (.cons (ok_cpJ ml_10_97 jw_acn jw_acs jw_sys (by decide +kernel)) (.cons (ok_iinc (z := 1) (by decide +kernel) (by decide)) (.cons (ok_goto (off := (-128)) (tgt := 23) (by decide +kernel) (by decide)) .nil)))))))))
theorem B_X10_f_0 : Blk m_X10_f 0 [o_ald 0, o_getR 10 8, o_pure (g_push (.int 6)), o_ild 1, o_pure (g_ii (fun x y => x * y)), o_ild 2, o_pure (g_ii (fun x y => x + y)), o_iald] 11 := .cons (ok_aload_n (k := 0) rfl (by decide +kernel)) (.cons (ok_getR fl_10_31 rfl (by decide +kernel)) (.cons (ok_bipush (n := 6) (by decide +kernel) (by decide)) (.cons (ok_iload_n (k := 1) rfl (by decide +kernel)) (.cons (ok_imul (by decide +kernel)) (.cons (ok_iload_n (k := 2) rfl (by decide +kernel)) (.cons (ok_iadd (by decide +kernel)) (.cons (ok_iaload (by decide +kernel)) .nil)))))))
theorem B_X10_fill_0 : Blk m_X10_fill 0 [o_pure (g_push (.int 0)), o_ist 3, o_pure (g_push (.int 0)), o_ist 4, o_ald 0, o_ild 1, o_pure (g_push (.int 0))] 8 := .cons (ok_iconst (n := 0) (by decide +kernel) (by decide)) (.cons (ok_istore_n (k := 3) rfl (by decide +kernel)) (.cons (ok_iconst (n := 0) (by decide +kernel) (by decide)) (.cons (ok_istore (by decide +kernel)) (.cons (ok_aload_n (k := 0) rfl (by decide +kernel)) (.cons (ok_iload_n (k := 1) rfl (by decide +kernel)) (.cons (ok_iconst (n := 0) (by decide +kernel) (by decide)) .nil))))))
theorem B_X10_fill_11 : Blk m_X10_fill 11 [o_ist 5, o_ald 0, o_ild 2, o_pure (g_push (.int 0))] 16 := .cons (ok_istore (by decide +kernel)) (.cons (ok_aload_n (k := 0) rfl (by decide +kernel)) (.cons (ok_iload_n (k := 2) rfl (by decide +kernel)) (.cons (ok_iconst (n := 0) (by decide +kernel) (by decide)) .nil)))
theorem B_X10_fill_19 : Blk m_X10_fill 19 [o_ist 6, o_pure (g_push (.int 0)), o_ist 7] 24 := .cons (ok_istore (by decide +kernel)) (.cons (ok_iconst (n := 0) (by decide +kernel) (by decide)) (.cons (ok_istore (by decide +kernel)) .nil))
theorem B_X10_fill_24 : Blk m_X10_fill 24 [o_ild 7, o_pure (g_push (.int 36))] 28 := .cons (ok_iload (by decide +kernel)) (.cons (ok_bipush (n := 36) (by decide +kernel) (by decide)) .nil)
theorem B_X10_fill_31 : Blk m_X10_fill 31 [o_ald 0, o_getR 10 8, o_ild 7, o_pure (g_push (.int 0)), o_iast, o_ald 0, o_getR 10 9, o_ild 7, o_pure (g_push (.int 0)), o_zast, o_iinc 7 1, o_pure g_id] 24 := .cons (ok_aload_n (k := 0) rfl (by decide +kernel)) (.cons (ok_getR fl_10_31 rfl (by decide +kernel)) (.cons (ok_iload (by decide +kernel)) (.cons (ok_iconst (n := 0) (by decide +kernel) (by decide)) (.cons (ok_iastore (by decide +kernel)) (.cons (ok_aload_n (k := 0) rfl (by decide +kernel)) (.cons (ok_getR fl_10_34 rfl (by decide +kernel)) (.cons (ok_iload (by decide +kernel)) (.cons (ok_iconst (n := 0) (by decide +kernel) (by decide)) (.cons (ok_bastore (by decide +kernel)) (.cons (ok_iinc (z := 1) (by decide +kernel) (by decide)) (.cons (ok_goto (off := (-26)) (tgt := 24) (by decide +kernel) (by decide)) .nil)))))))))))
theorem B_X10_fill_53 : Blk m_X10_fill 53 [o_ild 3, o_ald 0, o_getR 10 0, o_pure (g_push (.int 0)), o_iald] 60 := .cons (ok_iload_n (k := 3) rfl (by decide +kernel)) (.cons (ok_aload_n (k := 0) rfl (by decide +kernel)) (.cons (ok_getR fl_10_11 rfl (by decide +kernel)) (.cons (ok_iconst (n := 0) (by decide +kernel) (by decide)) (.cons (ok_iaload (by decide +kernel)) .nil))))
theorem B_X10_fill_63 : Blk m_X10_fill 63 [o_ild 4, o_ald 0, o_getR 10 0, o_pure (g_push (.int 0)), o_iald] 71 := .cons (ok_iload (by decide +kernel)) (.cons (ok_aload_n (k := 0) rfl (by decide +kernel)) (.cons (ok_getR fl_10_11 rfl (by decide +kernel)) (.cons (ok_iconst (n := 0) (by decide +kernel) (by decide)) (.cons (ok_iaload (by decide +kernel)) .nil))))
theorem B_X10_fill_74 : Blk m_X10_fill 74 [o_ild 5, o_ild 6] 78 := .cons (ok_iload (by decide +kernel)) (.cons (ok_iload (by decide +kernel)) .nil)
theorem B_X10_fill_81 : Blk m_X10_fill 81 [o_ild 5, o_pure g_id] 88 := .cons (ok_iload (by decide +kernel)) (.cons (ok_goto (off := 5) (tgt := 88) (by decide +kernel) (by decide)) .nil)
theorem B_X10_fill_86 : Blk m_X10_fill 86 [o_ild 6, o_ist 7, o_ald 0, o_getR 10 8, o_pure (g_push (.int 6)), o_ild 3, o_pure (g_ii (fun x y => x * y)), o_ild 4, o_pure (g_ii (fun x y => x + y)), o_pure (g_dup2), o_iald, o_ild 7, o_pure (g_ii (fun x y => x + y)), o_iast, o_ild 5, o_ild 7, o_pure (g_ii (fun x y => x - y)), o_ist 5, o_ild 6, o_ild 7, o_pure (g_ii (fun x y => x - y)), o_ist 6, o_ild 5] 123 := .cons (ok_iload (by decide +kernel)) (.cons (ok_istore (by decide +kernel)) (.cons (ok_aload_n (k := 0) rfl (by decide +kernel)) (.cons (ok_getR fl_10_31 rfl (by decide +kernel)) (.cons (ok_bipush (n := 6) (by decide +kernel) (by decide)) (.cons (ok_iload_n (k := 3) rfl (by decide +kernel)) (.cons (ok_imul (by decide +kernel)) (.cons (ok_iload (by decide +kernel)) (.cons (ok_iadd (by decide +kernel)) (.cons (ok_dup2 (by decide +kernel)) (.cons (ok_iaload (by decide +kernel)) (.cons (ok_iload (by decide +kernel)) (.cons (ok_iadd (by decide +kernel)) (.cons (ok_iastore (by decide +kernel)) (.cons (ok_iload (by decide +kernel)) (.cons (ok_iload (by decide +kernel)) (.cons (ok_isub (by decide +kernel)) (.cons (ok_istore (by decide +kernel)) (.cons (ok_iload (by decide +kernel)) (.cons (ok_iload (by decide +kernel)) (.cons (ok_isub (by decide +kernel)) (.cons (ok_istore (by decide +kernel)) (.cons (ok_iload (by decide +kernel)) .nil))))))))))))))))))))))
theorem B_X10_fill_88 : Blk m_X10_fill 88 [o_ist 7, o_ald 0, o_getR 10 8, o_pure (g_push (.int 6)), o_ild 3, o_pure (g_ii (fun x y => x * y)), o_ild 4, o_pure (g_ii (fun x y => x + y)), o_pure (g_dup2), o_iald, o_ild 7, o_pure (g_ii (fun x y => x + y)), o_iast, o_ild 5, o_ild 7, o_pure (g_ii (fun x y => x - y)), o_ist 5, o_ild 6, o_ild 7, o_pure (g_ii (fun x y => x - y)), o_ist 6, o_ild 5] 123 := .cons (ok_istore (by decide +kernel)) (.cons (ok_aload_n (k := 0) rfl (by decide +kernel)) (.cons (ok_getR fl_10_31 rfl (by decide +kernel)) (.cons (ok_bipush (n := 6) (by decide +kernel) (by decide)) (.cons (ok_iload_n (k := 3) rfl (by decide +kernel)) (.cons (ok_imul (by decide +kernel)) (.cons (ok_iload (by decide +kernel)) (.cons (ok_iadd (by decide +kernel)) (.cons (ok_dup2 (by decide +kernel)) (.cons (ok_iaload (by decide +kernel)) (.cons (ok_iload (by decide +kernel)) (.cons (ok_iadd (by decide +kernel)) (.cons (ok_iastore (by decide +kernel)) (.cons (ok_iload (by decide +kernel)) (.cons (ok_iload (by decide +kernel)) (.cons (ok_isub (by decide +kernel)) (.cons (ok_istore (by decide +kernel)) (.cons (ok_iload (by decide +kernel)) (.cons (ok_iload (by decide +kernel)) (.cons (ok_isub (by decide +kernel)) (.cons (ok_istore (by decide +kernel)) (.cons (ok_iload (by decide +kernel)) .nil)))))))))))))))))))))
theorem B_X10_fill_126 : Blk m_X10_fill 126 [o_iinc 3 1, o_ild 3, o_ald 0, o_getR 10 0, o_pure (g_push (.int 0)), o_iald] 136 := .cons (ok_iinc (z := 1) (by decide +kernel) (by decide)) (.cons (ok_iload_n (k := 3) rfl (by decide +kernel)) (.cons (ok_aload_n (k := 0) rfl (by decide +kernel)) (.cons (ok_getR fl_10_11 rfl (by decide +kernel)) (.cons (ok_iconst (n := 0) (by decide +kernel) (by decide)) (.cons (ok_iaload (by decide +kernel)) .nil)))))
theorem B_X10_fill_139 : Blk m_X10_fill 139 [o_ald 0, o_ild 1, o_ild 3] 142 := .cons (ok_aload_n (k := 0) rfl (by decide +kernel)) (.cons (ok_iload_n (k := 1) rfl (by decide +kernel)) (.cons (ok_iload_n (k := 3) rfl (by decide +kernel)) .nil))
theorem B_X10_fill_145 : Blk m_X10_fill 145 [o_pure g_id] 149 := .cons (ok_goto (off := 4) (tgt := 149) (by decide +kernel) (by decide)) .nil
theorem B_X10_fill_148 : Blk m_X10_fill 148 [o_pure (g_push (.int 0)), o_ist 5, o_pure g_id] 181 := .cons (ok_iconst (n := 0) (by decide +kernel) (by decide)) (.cons (ok_istore (by decide +kernel)) (.cons (ok_goto (off := 30) (tgt := 181) (by decide +kernel) (by decide)) .nil))
theorem B_X10_fill_149 : Blk m_X10_fill 149 [o_ist 5, o_pure g_id] 181 := .cons (ok_istore (by decide +kernel)) (.cons (ok_goto (off := 30) (tgt := 181) (by decide +kernel) (by decide)) .nil)
theorem B_X10_fill_154 : Blk m_X10_fill 154 [o_iinc 4 1, o_ild 4, o_ald 0, o_getR 10 0, o_pure (g_push (.int 0)), o_iald] 165 := .cons (ok_iinc (z := 1) (by decide +kernel) (by decide)) (.cons (ok_iload (by decide +kernel)) (.cons (ok_aload_n (k := 0) rfl (by decide +kernel)) (.cons (ok_getR fl_10_11 rfl (by decide +kernel)) (.cons (ok_iconst (n := 0) (by decide +kernel) (by decide)) (.cons (ok_iaload (by decide +kernel)) .nil)))))
theorem B_X10_fill_168 : Blk m_X10_fill 168 [o_ald 0, o_ild 2, o_ild 4] 172 := .cons (ok_aload_n (k := 0) rfl (by decide +kernel)) (.cons (ok_iload_n (k := 2) rfl (by decide +kernel)) (.cons (ok_iload (by decide +kernel)) .nil))
theorem B_X10_fill_175 : Blk m_X10_fill 175 [o_pure g_id] 179 := .cons (ok_goto (off := 4) (tgt := 179) (by decide +kernel) (by decide)) .nil
theorem B_X10_fill_178 : Blk m_X10_fill 178 [o_pure (g_push (.int 0)), o_ist 6, o_pure g_id] 53 := .cons (ok_iconst (n := 0) (by decide +kernel) (by decide)) (.cons (ok_istore (by decide +kernel)) (.cons (ok_goto (off := (-128)) (tgt := 53) (by decide +kernel) (by decide)) .nil))
theorem B_X10_fill_179 : Blk m_X10_fill 179 [o_ist 6, o_pure g_id] 53 := .cons (ok_istore (by decide +kernel)) (.cons (ok_goto (off := (-128)) (tgt := 53) (by decide +kernel) (by decide)) .nil)
theorem B_X10_fill_181 : Blk m_X10_fill 181 [o_pure g_id] 53 := .cons (ok_goto (off := (-128)) (tgt := 53) (by decide +kernel) (by decide)) .nil
theorem B_X10_relax_0 : Blk m_X10_relax 0 [o_ald 0, o_getR 10 0, o_pure (g_push (.int 0)), o_iald, o_ist 1, o_pure (g_push (.int (-7))), o_ist 2, o_pure (g_push (.int 0)), o_ist 3] 12 := .cons (ok_aload_n (k := 0) rfl (by decide +kernel)) (.cons (ok_getR fl_10_11 rfl (by decide +kernel)) (.cons (ok_iconst (n := 0) (by decide +kernel) (by decide)) (.cons (ok_iaload (by decide +kernel)) (.cons (ok_istore_n (k := 1) rfl (by decide +kernel)) (.cons (ok_bipush (n := (-7)) (by decide +kernel) (by decide)) (.cons (ok_istore_n (k := 2) rfl (by decide +kernel)) (.cons (ok_iconst (n := 0) (by decide +kernel) (by decide)) (.cons (ok_istore_n (k := 3) rfl (by decide +kernel)) .nil))))))))
theorem B_X10_relax_12 : Blk m_X10_relax 12 [o_ild 3, o_ild 1] 14 := .cons (ok_iload_n (k := 3) rfl (by decide +kernel)) (.cons (ok_iload_n (k := 1) rfl (by decide +kernel)) .nil)
theorem B_X10_relax_17 : Blk m_X10_relax 17 [o_pure (g_push (.int 0)), o_ist 4] 20 := .cons (ok_iconst (n := 0) (by decide +kernel) (by decide)) (.cons (ok_istore (by decide +kernel)) .nil)
theorem B_X10_relax_20 : Blk m_X10_relax 20 [o_ild 4, o_ild 1] 23 := .cons (ok_iload (by decide +kernel)) (.cons (ok_iload_n (k := 1) rfl (by decide +kernel)) .nil)
theorem B_X10_relax_26 : Blk m_X10_relax 26 [o_ald 0, o_getR 10 9, o_pure (g_push (.int 6)), o_ild 3, o_pure (g_ii (fun x y => x * y)), o_ild 4, o_pure (g_ii (fun x y => x + y)), o_zald] 38 := .cons (ok_aload_n (k := 0) rfl (by decide +kernel)) (.cons (ok_getR fl_10_34 rfl (by decide +kernel)) (.cons (ok_bipush (n := 6) (by decide +kernel) (by decide)) (.cons (ok_iload_n (k := 3) rfl (by decide +kernel)) (.cons (ok_imul (by decide +kernel)) (.cons (ok_iload (by decide +kernel)) (.cons (ok_iadd (by decide +kernel)) (.cons (ok_baload (by decide +kernel)) .nil)))))))
theorem B_X10_relax_41 : Blk m_X10_relax 41 [o_pure g_id] 210 := .cons (ok_goto (off := 169) (tgt := 210) (by decide +kernel) (by decide)) .nil
theorem B_X10_relax_44 : Blk m_X10_relax 44 [o_ald 0, o_getR 10 10, o_ild 3, o_lald, o_pure (g_push (.long 2305843009213693951)), o_pure (g_cmp)] 54 := .cons (ok_aload_n (k := 0) rfl (by decide +kernel)) (.cons (ok_getR fl_10_38 rfl (by decide +kernel)) (.cons (ok_iload_n (k := 3) rfl (by decide +kernel)) (.cons (ok_laload (by decide +kernel)) (.cons (ok_ldc2 (by decide +kernel) co_10_136) (.cons (ok_lcmp (by decide +kernel)) .nil)))))
theorem B_X10_relax_57 : Blk m_X10_relax 57 [o_ald 0, o_getR 10 10, o_ild 3, o_lald, o_ald 0, o_ild 3, o_ild 4] 67 := .cons (ok_aload_n (k := 0) rfl (by decide +kernel)) (.cons (ok_getR fl_10_38 rfl (by decide +kernel)) (.cons (ok_iload_n (k := 3) rfl (by decide +kernel)) (.cons (ok_laload (by decide +kernel)) (.cons (ok_aload_n (k := 0) rfl (by decide +kernel)) (.cons (ok_iload_n (k := 3) rfl (by decide +kernel)) (.cons (ok_iload (by decide +kernel)) .nil))))))
theorem B_X10_relax_70 : Blk m_X10_relax 70 [o_pure (g_ll (fun x y => x + y)), o_ald 0, o_getR 10 10, o_ild 1, o_ild 4, o_pure (g_ii (fun x y => x + y)), o_lald, o_pure (g_cmp)] 81 := .cons (ok_ladd (by decide +kernel)) (.cons (ok_aload_n (k := 0) rfl (by decide +kernel)) (.cons (ok_getR fl_10_38 rfl (by decide +kernel)) (.cons (ok_iload_n (k := 1) rfl (by decide +kernel)) (.cons (ok_iload (by decide +kernel)) (.cons (ok_iadd (by decide +kernel)) (.cons (ok_laload (by decide +kernel)) (.cons (ok_lcmp (by decide +kernel)) .nil)))))))
theorem B_X10_relax_84 : Blk m_X10_relax 84 [o_ald 0, o_getR 10 10, o_ild 1, o_ild 4, o_pure (g_ii (fun x y => x + y)), o_ald 0, o_getR 10 10, o_ild 3, o_lald, o_ald 0, o_ild 3, o_ild 4] 102 := .cons (ok_aload_n (k := 0) rfl (by decide +kernel)) (.cons (ok_getR fl_10_38 rfl (by decide +kernel)) (.cons (ok_iload_n (k := 1) rfl (by decide +kernel)) (.cons (ok_iload (by decide +kernel)) (.cons (ok_iadd (by decide +kernel)) (.cons (ok_aload_n (k := 0) rfl (by decide +kernel)) (.cons (ok_getR fl_10_38 rfl (by decide +kernel)) (.cons (ok_iload_n (k := 3) rfl (by decide +kernel)) (.cons (ok_laload (by decide +kernel)) (.cons (ok_aload_n (k := 0) rfl (by decide +kernel)) (.cons (ok_iload_n (k := 3) rfl (by decide +kernel)) (.cons (ok_iload (by decide +kernel)) .nil)))))))))))
theorem B_X10_relax_105 : Blk m_X10_relax 105 [o_pure (g_ll (fun x y => x + y)), o_last, o_ald 0, o_getR 10 11, o_ild 1, o_ild 4, o_pure (g_ii (fun x y => x + y)), o_ild 3, o_iast, o_ild 1, o_ild 4, o_pure (g_ii (fun x y => x + y)), o_ist 2, o_ald 0, o_ild 3, o_ild 4] 126 := .cons (ok_ladd (by decide +kernel)) (.cons (ok_lastore (by decide +kernel)) (.cons (ok_aload_n (k := 0) rfl (by decide +kernel)) (.cons (ok_getR fl_10_41 rfl (by decide +kernel)) (.cons (ok_iload_n (k := 1) rfl (by decide +kernel)) (.cons (ok_iload (by decide +kernel)) (.cons (ok_iadd (by decide +kernel)) (.cons (ok_iload_n (k := 3) rfl (by decide +kernel)) (.cons (ok_iastore (by decide +kernel)) (.cons (ok_iload_n (k := 1) rfl (by decide +kernel)) (.cons (ok_iload (by decide +kernel)) (.cons (ok_iadd (by decide +kernel)) (.cons (ok_istore_n (k := 2) rfl (by decide +kernel)) (.cons (ok_aload_n (k := 0) rfl (by decide +kernel)) (.cons (ok_iload_n (k := 3) rfl (by decide +kernel)) (.cons (ok_iload (by decide +kernel)) .nil)))))))))))))))
theorem B_X10_relax_122 : Blk m_X10_relax 122 [o_ald 0, o_ild 3, o_ild 4] 126 := .cons (ok_aload_n (k := 0) rfl (by decide +kernel)) (.cons (ok_iload_n (k := 3) rfl (by decide +kernel)) (.cons (ok_iload (by decide +kernel)) .nil))
theorem B_X10_relax_132 : Blk m_X10_relax 132 [o_ald 0, o_getR 10 10, o_ild 1, o_ild 4, o_pure (g_ii (fun x y => x + y)), o_lald, o_pure (g_push (.long 2305843009213693951)), o_pure (g_cmp)] 145 := .cons (ok_aload_n (k := 0) rfl (by decide +kernel)) (.cons (ok_getR fl_10_38 rfl (by decide +kernel)) (.cons (ok_iload_n (k := 1) rfl (by decide +kernel)) (.cons (ok_iload (by decide +kernel)) (.cons (ok_iadd (by decide +kernel)) (.cons (ok_laload (by decide +kernel)) (.cons (ok_ldc2 (by decide +kernel) co_10_136) (.cons (ok_lcmp (by decide +kernel)) .nil)))))))
theorem B_X10_relax_148 : Blk m_X10_relax 148 [o_ald 0, o_getR 10 10, o_ild 1, o_ild 4, o_pure (g_ii (fun x y => x + y)), o_lald, o_ald 0, o_ild 3, o_ild 4] 161 := .cons (ok_aload_n (k := 0) rfl (by decide +kernel)) (.cons (ok_getR fl_10_38 rfl (by decide +kernel)) (.cons (ok_iload_n (k := 1) rfl (by decide +kernel)) (.cons (ok_iload (by decide +kernel)) (.cons (ok_iadd (by decide +kernel)) (.cons (ok_laload (by decide +kernel)) (.cons (ok_aload_n (k := 0) rfl (by decide +kernel)) (.cons (ok_iload_n (k := 3) rfl (by decide +kernel)) (.cons (ok_iload (by decide +kernel)) .nil))))))))
theorem B_X10_relax_164 : Blk m_X10_relax 164 [o_pure (g_ll (fun x y => x - y)), o_ald 0, o_getR 10 10, o_ild 3, o_lald, o_pure (g_cmp)] 172 := .cons (ok_lsub (by decide +kernel)) (.cons (ok_aload_n (k := 0) rfl (by decide +kernel)) (.cons (ok_getR fl_10_38 rfl (by decide +kernel)) (.cons (ok_iload_n (k := 3) rfl (by decide +kernel)) (.cons (ok_laload (by decide +kernel)) (.cons (ok_lcmp (by decide +kernel)) .nil)))))
theorem B_X10_relax_175 : Blk m_X10_relax 175 [o_ald 0, o_getR 10 10, o_ild 3, o_ald 0, o_getR 10 10, o_ild 1, o_ild 4, o_pure (g_ii (fun x y => x + y)), o_lald, o_ald 0, o_ild 3, o_ild 4] 193 := .cons (ok_aload_n (k := 0) rfl (by decide +kernel)) (.cons (ok_getR fl_10_38 rfl (by decide +kernel)) (.cons (ok_iload_n (k := 3) rfl (by decide +kernel)) (.cons (ok_aload_n (k := 0) rfl (by decide +kernel)) (.cons (ok_getR fl_10_38 rfl (by decide +kernel)) (.cons (ok_iload_n (k := 1) rfl (by decide +kernel)) (.cons (ok_iload (by decide +kernel)) (.cons (ok_iadd (by decide +kernel)) (.cons (ok_laload (by decide +kernel)) (.cons (ok_aload_n (k := 0) rfl (by decide +kernel)) (.cons (ok_iload_n (k := 3) rfl (by decide +kernel)) (.cons (ok_iload (by decide +kernel)) .nil)))))))))))
theorem B_X10_relax_196 : Blk m_X10_relax 196 [o_pure (g_ll (fun x y => x - y)), o_last, o_ald 0, o_getR 10 11, o_ild 3, o_ild 1, o_ild 4, o_pure (g_ii (fun x y => x + y)), o_iast, o_ild 3, o_ist 2, o_iinc 4 1, o_pure g_id] 20 := .cons (ok_lsub (by decide +kernel)) (.cons (ok_lastore (by decide +kernel)) (.cons (ok_aload_n (k := 0) rfl (by decide +kernel)) (.cons (ok_getR fl_10_41 rfl (by decide +kernel)) (.cons (ok_iload_n (k := 3) rfl (by decide +kernel)) (.cons (ok_iload_n (k := 1) rfl (by decide +kernel)) (.cons (ok_iload (by decide +kernel)) (.cons (ok_iadd (by decide +kernel)) (.cons (ok_iastore (by decide +kernel)) (.cons (ok_iload_n (k := 3) rfl (by decide +kernel)) (.cons (ok_istore_n (k := 2) rfl (by decide +kernel)) (.cons (ok_iinc (z := 1) (by decide +kernel) (by decide)) (.cons (ok_goto (off := (-193)) (tgt := 20) (by decide +kernel) (by decide)) .nil))))))))))))
theorem B_X10_relax_210 : Blk m_X10_relax 210 [o_iinc 4 1, o_pure g_id] 20 := .cons (ok_iinc (z := 1) (by decide +kernel) (by decide)) (.cons (ok_goto (off := (-193)) (tgt := 20) (by decide +kernel) (by decide)) .nil)
theorem B_X10_relax_216 : Blk m_X10_relax 216 [o_iinc 3 1, o_pure g_id] 12 := .cons (ok_iinc (z := 1) (by decide +kernel) (by decide)) (.cons (ok_goto (off := (-207)) (tgt := 12) (by decide +kernel) (by decide)) .nil)
theorem B_X10_relax_222 : Blk m_X10_relax 222 [o_ild 2] 223 := .cons (ok_iload_n (k := 2) rfl (by decide +kernel)) .nil
theorem B_X10_shift_0 : Blk m_X10_shift 0 [o_ald 0, o_getR 10 0, o_pure (g_push (.int 0)), o_iald, o_ist 3, o_ild 1, o_ild 3] 9 := .cons (ok_aload_n (k := 0) rfl (by decide +kernel)) (.cons (ok_getR fl_10_11 rfl (by decide +kernel)) (.cons (ok_iconst (n := 0) (by decide +kernel) (by decide)) (.cons (ok_iaload (by decide +kernel)) (.cons (ok_istore_n (k := 3) rfl (by decide +kernel)) (.cons (ok_iload_n (k := 1) rfl (by decide +kernel)) (.cons (ok_iload_n (k := 3) rfl (by decide +kernel)) .nil))))))
theorem B_X10_shift_12 : Blk m_X10_shift 12 [o_ald 0, o_getR 10 8, o_pure (g_push (.int 6)), o_ild 1, o_pure (g_ii (fun x y => x * y)), o_ild 2, o_pure (g_ii (fun x y => x + y)), o_ild 3, o_pure (g_ii (fun x y => x - y)), o_pure (g_dup2), o_iald, o_pure (g_push (.int 1)), o_pure (g_ii (fun x y => x + y)), o_iast, o_pure g_id] 49 := .cons (ok_aload_n (k := 0) rfl (by decide +kernel)) (.cons (ok_getR fl_10_31 rfl (by decide +kernel)) (.cons (ok_bipush (n := 6) (by decide +kernel) (by decide)) (.cons (ok_iload_n (k := 1) rfl (by decide +kernel)) (.cons (ok_imul (by decide +kernel)) (.cons (ok_iload_n (k := 2) rfl (by decide +kernel)) (.cons (ok_iadd (by decide +kernel)) (.cons (ok_iload_n (k := 3) rfl (by decide +kernel)) (.cons (ok_isub (by decide +kernel)) (.cons (ok_dup2 (by decide +kernel)) (.cons (ok_iaload (by decide +kernel)) (.cons (ok_iconst (n := 1) (by decide +kernel) (by decide)) (.cons (ok_iadd (by decide +kernel)) (.cons (ok_iastore (by decide +kernel)) (.cons (ok_goto (off := 20) (tgt := 49) (by decide +kernel) (by decide)) .nil))))))))))))))
theorem B_X10_shift_32 : Blk m_X10_shift 32 [o_ald 0, o_getR 10 8, o_pure (g_push (.int 6)), o_ild 2, o_pure (g_ii (fun x y => x * y)), o_ild 1, o_pure (g_ii (fun x y => x + y)), o_ild 3, o_pure (g_ii (fun x y => x - y)), o_pure (g_dup2), o_iald, o_pure (g_push (.int 1)), o_pure (g_ii (fun x y => x - y)), o_iast] 49 := .cons (ok_aload_n (k := 0) rfl (by decide +kernel)) (.cons (ok_getR fl_10_31 rfl (by decide +kernel)) (.cons (ok_bipush (n := 6) (by decide +kernel) (by decide)) (.cons (ok_iload_n (k := 2) rfl (by decide +kernel)) (.cons (ok_imul (by decide +kernel)) (.cons (ok_iload_n (k := 1) rfl (by decide +kernel)) (.cons (ok_iadd (by decide +kernel)) (.cons (ok_iload_n (k := 3) rfl (by decide +kernel)) (.cons (ok_isub (by decide +kernel)) (.cons (ok_dup2 (by decide +kernel)) (.cons (ok_iaload (by decide +kernel)) (.cons (ok_iconst (n := 1) (by decide +kernel) (by decide)) (.cons (ok_isub (by decide +kernel)) (.cons (ok_iastore (by decide +kernel)) .nil)))))))))))))
theorem B_X10_cancel_0 : Blk m_X10_cancel 0 [o_pure (g_push (.int 2)), o_ald 0, o_getR 10 0, o_pure (g_push (.int 0)), o_iald, o_pure (g_ii (fun x y => x * y)), o_ist 1, o_pure (g_push (.int 0)), o_ist 2] 11 := .cons (ok_iconst (n := 2) (by decide +kernel) (by decide)) (.cons (ok_aload_n (k := 0) rfl (by decide +kernel)) (.cons (ok_getR fl_10_11 rfl (by decide +kernel)) (.cons (ok_iconst (n := 0) (by decide +kernel) (by decide)) (.cons (ok_iaload (by decide +kernel)) (.cons (ok_imul (by decide +kernel)) (.cons (ok_istore_n (k := 1) rfl (by decide +kernel)) (.cons (ok_iconst (n := 0) (by decide +kernel) (by decide)) (.cons (ok_istore_n (k := 2) rfl (by decide +kernel)) .nil))))))))
theorem B_X10_cancel_11 : Blk m_X10_cancel 11 [o_ild 2, o_ild 1] 13 := .cons (ok_iload_n (k := 2) rfl (by decide +kernel)) (.cons (ok_iload_n (k := 1) rfl (by decide +kernel)) .nil)
theorem B_X10_cancel_16 : Blk m_X10_cancel 16 [o_ald 0, o_getR 10 10, o_ild 2, o_pure (g_push (.long 0)), o_last, o_ald 0, o_getR 10 11, o_ild 2, o_pure (g_push (.int (-7))), o_iast, o_iinc 2 1, o_pure g_id] 11 := .cons (ok_aload_n (k := 0) rfl (by decide +kernel)) (.cons (ok_getR fl_10_38 rfl (by decide +kernel)) (.cons (ok_iload_n (k := 2) rfl (by decide +kernel)) (.cons (ok_lconst (n := 0) (by decide +kernel) (by decide)) (.cons (ok_lastore (by decide +kernel)) (.cons (ok_aload_n (k := 0) rfl (by decide +kernel)) (.cons (ok_getR fl_10_41 rfl (by decide +kernel)) (.cons (ok_iload_n (k := 2) rfl (by decide +kernel)) (.cons (ok_bipush (n := (-7)) (by decide +kernel) (by decide)) (.cons (ok_iastore (by decide +kernel)) (.cons (ok_iinc (z := 1) (by decide +kernel) (by decide)) (.cons (ok_goto (off := (-23)) (tgt := 11) (by decide +kernel) (by decide)) .nil)))))))))))
theorem B_X10_cancel_37 : Blk m_X10_cancel 37 [o_pure (g_push (.int 0)), o_ist 2, o_pure (g_push (.int 0)), o_ist 3] 41 := .cons (ok_iconst (n := 0) (by decide +kernel) (by decide)) (.cons (ok_istore_n (k := 2) rfl (by decide +kernel)) (.cons (ok_iconst (n := 0) (by decide +kernel) (by decide)) (.cons (ok_istore_n (k := 3) rfl (by decide +kernel)) .nil)))
theorem B_X10_cancel_41 : Blk m_X10_cancel 41 [o_ild 3, o_ild 1] 43 := .cons (ok_iload_n (k := 3) rfl (by decide +kernel)) (.cons (ok_iload_n (k := 1) rfl (by decide +kernel)) .nil)
theorem B_X10_cancel_46 : Blk m_X10_cancel 46 [o_ild 2, o_pure (g_push (.int (-7)))] 49 := .cons (ok_iload_n (k := 2) rfl (by decide +kernel)) (.cons (ok_bipush (n := (-7)) (by decide +kernel) (by decide)) .nil)
theorem B_X10_cancel_52 : Blk m_X10_cancel 52 [o_ald 0] 53 := .cons (ok_aload_n (k := 0) rfl (by decide +kernel)) .nil
theorem B_X10_cancel_56 : Blk m_X10_cancel 56 [o_ist 2, o_iinc 3 1, o_pure g_id] 41 := .cons (ok_istore_n (k := 2) rfl (by decide +kernel)) (.cons (ok_iinc (z := 1) (by decide +kernel) (by decide)) (.cons (ok_goto (off := (-19)) (tgt := 41) (by decide +kernel) (by decide)) .nil))
theorem B_X10_cancel_63 : Blk m_X10_cancel 63 [o_ild 2, o_pure (g_push (.int (-7)))] 66 := .cons (ok_iload_n (k := 2) rfl (by decide +kernel)) (.cons (ok_bipush (n := (-7)) (by decide +kernel) (by decide)) .nil)
theorem B_X10_cancel_69 : Blk m_X10_cancel 69 [o_pure (g_push (.int 0))] 70 := .cons (ok_iconst (n := 0) (by decide +kernel) (by decide)) .nil
theorem B_X10_cancel_71 : Blk m_X10_cancel 71 [o_ild 2, o_ist 3, o_pure (g_push (.int 0)), o_ist 4] 76 := .cons (ok_iload_n (k := 2) rfl (by decide +kernel)) (.cons (ok_istore_n (k := 3) rfl (by decide +kernel)) (.cons (ok_iconst (n := 0) (by decide +kernel) (by decide)) (.cons (ok_istore (by decide +kernel)) .nil)))
theorem B_X10_cancel_76 : Blk m_X10_cancel 76 [o_ild 4, o_ild 1] 79 := .cons (ok_iload (by decide +kernel)) (.cons (ok_iload_n (k := 1) rfl (by decide +kernel)) .nil)
theorem B_X10_cancel_82 : Blk m_X10_cancel 82 [o_ald 0, o_getR 10 11, o_ild 3, o_iald, o_ist 3, o_iinc 4 1, o_pure g_id] 76 := .cons (ok_aload_n (k := 0) rfl (by decide +kernel)) (.cons (ok_getR fl_10_41 rfl (by decide +kernel)) (.cons (ok_iload_n (k := 3) rfl (by decide +kernel)) (.cons (ok_iaload (by decide +kernel)) (.cons (ok_istore_n (k := 3) rfl (by decide +kernel)) (.cons (ok_iinc (z := 1) (by decide +kernel) (by decide)) (.cons (ok_goto (off := (-16)) (tgt := 76) (by decide +kernel) (by decide)) .nil))))))
theorem B_X10_cancel_95 : Blk m_X10_cancel 95 [o_ild 3, o_ist 4] 98 := .cons (ok_iload_n (k := 3) rfl (by decide +kernel)) (.cons (ok_istore (by decide +kernel)) .nil)
theorem B_X10_cancel_98 : Blk m_X10_cancel 98 [o_ald 0, o_ald 0, o_getR 10 11, o_ild 3, o_iald, o_ild 3] 106 := .cons (ok_aload_n (k := 0) rfl (by decide +kernel)) (.cons (ok_aload_n (k := 0) rfl (by decide +kernel)) (.cons (ok_getR fl_10_41 rfl (by decide +kernel)) (.cons (ok_iload_n (k := 3) rfl (by decide +kernel)) (.cons (ok_iaload (by decide +kernel)) (.cons (ok_iload_n (k := 3) rfl (by decide +kernel)) .nil)))))
theorem B_X10_cancel_109 : Blk m_X10_cancel 109 [o_ald 0, o_getR 10 11, o_ild 3, o_iald, o_ist 3, o_ild 3, o_ild 4] 119 := .cons (ok_aload_n (k := 0) rfl (by decide +kernel)) (.cons (ok_getR fl_10_41 rfl (by decide +kernel)) (.cons (ok_iload_n (k := 3) rfl (by decide +kernel)) (.cons (ok_iaload (by decide +kernel)) (.cons (ok_istore_n (k := 3) rfl (by decide +kernel)) (.cons (ok_iload_n (k := 3) rfl (by decide +kernel)) (.cons (ok_iload (by decide +kernel)) .nil))))))
theorem B_X10_cancel_122 : Blk m_X10_cancel 122 [o_pure (g_push (.int 1))] 123 := .cons (ok_iconst (n := 1) (by decide +kernel) (by decide)) .nil
theorem B_X10_optimize_0 : Blk m_X10_optimize 0 [o_ald 0, o_ild 1, o_ild 2] 3 := .cons (ok_aload_n (k := 0) rfl (by decide +kernel)) (.cons (ok_iload_n (k := 1) rfl (by decide +kernel)) (.cons (ok_iload_n (k := 2) rfl (by decide +kernel)) .nil))
theorem B_X10_optimize_6 : Blk m_X10_optimize 6 [o_pure (g_push (.int 1)), o_ist 3] 8 := .cons (ok_iconst (n := 1) (by decide +kernel) (by decide)) (.cons (ok_istore_n (k := 3) rfl (by decide +kernel)) .nil)
theorem B_X10_optimize_8 : Blk m_X10_optimize 8 [o_ild 3] 9 := .cons (ok_iload_n (k := 3) rfl (by decide +kernel)) .nil
theorem B_X10_optimize_12 : Blk m_X10_optimize 12 [o_ald 0] 13 := .cons (ok_aload_n (k := 0) rfl (by decide +kernel)) .nil
theorem B_X10_optimize_16 : Blk m_X10_optimize 16 [o_ist 3, o_pure g_id] 8 := .cons (ok_istore_n (k := 3) rfl (by decide +kernel)) (.cons (ok_goto (off := (-9)) (tgt := 8) (by decide +kernel) (by decide)) .nil)
theorem B_X10_minimumCost_0 : Blk m_X10_minimumCost 0 [o_ald 0, o_ild 1, o_ild 2] 3 := .cons (ok_aload_n (k := 0) rfl (by decide +kernel)) (.cons (ok_iload_n (k := 1) rfl (by decide +kernel)) (.cons (ok_iload_n (k := 2) rfl (by decide +kernel)) .nil))
theorem B_X10_minimumCost_6 : Blk m_X10_minimumCost 6 [o_pure (g_push (.long 0)), o_lst 3, o_pure (g_push (.int 0)), o_ist 5] 11 := .cons (ok_lconst (n := 0) (by decide +kernel) (by decide)) (.cons (ok_lstore_n (k := 3) rfl (by decide +kernel)) (.cons (ok_iconst (n := 0) (by decide +kernel) (by decide)) (.cons (ok_istore (by decide +kernel)) .nil)))
theorem B_X10_minimumCost_11 : Blk m_X10_minimumCost 11 [o_ild 5, o_ald 0, o_getR 10 0, o_pure (g_push (.int 0)), o_iald] 19 := .cons (ok_iload (by decide +kernel)) (.cons (ok_aload_n (k := 0) rfl (by decide +kernel)) (.cons (ok_getR fl_10_11 rfl (by decide +kernel)) (.cons (ok_iconst (n := 0) (by decide +kernel) (by decide)) (.cons (ok_iaload (by decide +kernel)) .nil))))
theorem B_X10_minimumCost_22 : Blk m_X10_minimumCost 22 [o_pure (g_push (.int 0)), o_ist 6] 25 := .cons (ok_iconst (n := 0) (by decide +kernel) (by decide)) (.cons (ok_istore (by decide +kernel)) .nil)
theorem B_X10_minimumCost_25 : Blk m_X10_minimumCost 25 [o_ild 6, o_ald 0, o_getR 10 0, o_pure (g_push (.int 0)), o_iald] 33 := .cons (ok_iload (by decide +kernel)) (.cons (ok_aload_n (k := 0) rfl (by decide +kernel)) (.cons (ok_getR fl_10_11 rfl (by decide +kernel)) (.cons (ok_iconst (n := 0) (by decide +kernel) (by decide)) (.cons (ok_iaload (by decide +kernel)) .nil))))
theorem B_X10_minimumCost_36 : Blk m_X10_minimumCost 36 [o_lld 3, o_ald 0, o_ild 5, o_ild 6] 42 := .cons (ok_lload_n (k := 3) rfl (by decide +kernel)) (.cons (ok_aload_n (k := 0) rfl (by decide +kernel)) (.cons (ok_iload (by decide +kernel)) (.cons (ok_iload (by decide +kernel)) .nil)))
theorem B_X10_minimumCost_45 : Blk m_X10_minimumCost 45 [o_pure (g_il (fun x => x.toInt64)), o_ald 0, o_ild 5, o_ild 6] 51 := .cons (ok_i2l (by decide +kernel)) (.cons (ok_aload_n (k := 0) rfl (by decide +kernel)) (.cons (ok_iload (by decide +kernel)) (.cons (ok_iload (by decide +kernel)) .nil)))
theorem B_X10_minimumCost_54 : Blk m_X10_minimumCost 54 [o_pure (g_ll (fun x y => x * y)), o_pure (g_ll (fun x y => x + y)), o_lst 3, o_iinc 6 1, o_pure g_id] 25 := .cons (ok_lmul (by decide +kernel)) (.cons (ok_ladd (by decide +kernel)) (.cons (ok_lstore_n (k := 3) rfl (by decide +kernel)) (.cons (ok_iinc (z := 1) (by decide +kernel) (by decide)) (.cons (ok_goto (off := (-35)) (tgt := 25) (by decide +kernel) (by decide)) .nil))))
theorem B_X10_minimumCost_63 : Blk m_X10_minimumCost 63 [o_iinc 5 1, o_pure g_id] 11 := .cons (ok_iinc (z := 1) (by decide +kernel) (by decide)) (.cons (ok_goto (off := (-55)) (tgt := 11) (by decide +kernel) (by decide)) .nil)
theorem B_X10_minimumCost_69 : Blk m_X10_minimumCost 69 [o_lld 3] 70 := .cons (ok_lload_n (k := 3) rfl (by decide +kernel)) .nil
theorem B_X10_lower_0 : Blk m_X10_lower 0 [o_ald 0, o_getR 10 0, o_pure (g_push (.int 0)), o_iald, o_ist 3, o_ald 0, o_ild 1, o_ild 2] 10 := .cons (ok_aload_n (k := 0) rfl (by decide +kernel)) (.cons (ok_getR fl_10_11 rfl (by decide +kernel)) (.cons (ok_iconst (n := 0) (by decide +kernel) (by decide)) (.cons (ok_iaload (by decide +kernel)) (.cons (ok_istore_n (k := 3) rfl (by decide +kernel)) (.cons (ok_aload_n (k := 0) rfl (by decide +kernel)) (.cons (ok_iload_n (k := 1) rfl (by decide +kernel)) (.cons (ok_iload_n (k := 2) rfl (by decide +kernel)) .nil)))))))
theorem B_X10_lower_16 : Blk m_X10_lower 16 [o_pure (g_push (.int 0))] 17 := .cons (ok_iconst (n := 0) (by decide +kernel) (by decide)) .nil
theorem B_X10_lower_18 : Blk m_X10_lower 18 [o_pure (g_push (.int 6)), o_ild 1, o_pure (g_ii (fun x y => x * y)), o_ild 2, o_pure (g_ii (fun x y => x + y)), o_ist 4, o_ald 0, o_getR 10 9, o_ild 4, o_pure (g_push (.int 1)), o_zast, o_pure (g_push (.int 0)), o_ist 5] 37 := .cons (ok_bipush (n := 6) (by decide +kernel) (by decide)) (.cons (ok_iload_n (k := 1) rfl (by decide +kernel)) (.cons (ok_imul (by decide +kernel)) (.cons (ok_iload_n (k := 2) rfl (by decide +kernel)) (.cons (ok_iadd (by decide +kernel)) (.cons (ok_istore (by decide +kernel)) (.cons (ok_aload_n (k := 0) rfl (by decide +kernel)) (.cons (ok_getR fl_10_34 rfl (by decide +kernel)) (.cons (ok_iload (by decide +kernel)) (.cons (ok_iconst (n := 1) (by decide +kernel) (by decide)) (.cons (ok_bastore (by decide +kernel)) (.cons (ok_iconst (n := 0) (by decide +kernel) (by decide)) (.cons (ok_istore (by decide +kernel)) .nil))))))))))))
theorem B_X10_lower_37 : Blk m_X10_lower 37 [o_ild 5, o_pure (g_push (.int 2)), o_ild 3, o_pure (g_ii (fun x y => x * y))] 42 := .cons (ok_iload (by decide +kernel)) (.cons (ok_iconst (n := 2) (by decide +kernel) (by decide)) (.cons (ok_iload_n (k := 3) rfl (by decide +kernel)) (.cons (ok_imul (by decide +kernel)) .nil)))
theorem B_X10_lower_45 : Blk m_X10_lower 45 [o_ald 0, o_getR 10 10, o_ild 5, o_pure (g_push (.long 2305843009213693951)), o_last, o_ald 0, o_getR 10 11, o_ild 5, o_pure (g_push (.int (-7))), o_iast, o_iinc 5 1, o_pure g_id] 37 := .cons (ok_aload_n (k := 0) rfl (by decide +kernel)) (.cons (ok_getR fl_10_38 rfl (by decide +kernel)) (.cons (ok_iload (by decide +kernel)) (.cons (ok_ldc2 (by decide +kernel) co_10_136) (.cons (ok_lastore (by decide +kernel)) (.cons (ok_aload_n (k := 0) rfl (by decide +kernel)) (.cons (ok_getR fl_10_41 rfl (by decide +kernel)) (.cons (ok_iload (by decide +kernel)) (.cons (ok_bipush (n := (-7)) (by decide +kernel) (by decide)) (.cons (ok_iastore (by decide +kernel)) (.cons (ok_iinc (z := 1) (by decide +kernel) (by decide)) (.cons (ok_goto (off := (-30)) (tgt := 37) (by decide +kernel) (by decide)) .nil)))))))))))
theorem B_X10_lower_70 : Blk m_X10_lower 70 [o_ald 0, o_getR 10 10, o_ild 1, o_pure (g_push (.long 0)), o_last] 77 := .cons (ok_aload_n (k := 0) rfl (by decide +kernel)) (.cons (ok_getR fl_10_38 rfl (by decide +kernel)) (.cons (ok_iload_n (k := 1) rfl (by decide +kernel)) (.cons (ok_lconst (n := 0) (by decide +kernel) (by decide)) (.cons (ok_lastore (by decide +kernel)) .nil))))
theorem B_X10_lower_77 : Blk m_X10_lower 77 [o_ald 0] 78 := .cons (ok_aload_n (k := 0) rfl (by decide +kernel)) .nil
theorem B_X10_lower_81 : Blk m_X10_lower 81 [o_pure (g_push (.int (-7)))] 83 := .cons (ok_bipush (n := (-7)) (by decide +kernel) (by decide)) .nil
theorem B_X10_lower_86 : Blk m_X10_lower 86 [o_ald 0, o_getR 10 11, o_ild 1, o_pure (g_push (.int (-7))), o_iast, o_pure g_id] 77 := .cons (ok_aload_n (k := 0) rfl (by decide +kernel)) (.cons (ok_getR fl_10_41 rfl (by decide +kernel)) (.cons (ok_iload_n (k := 1) rfl (by decide +kernel)) (.cons (ok_bipush (n := (-7)) (by decide +kernel) (by decide)) (.cons (ok_iastore (by decide +kernel)) (.cons (ok_goto (off := (-17)) (tgt := 77) (by decide +kernel) (by decide)) .nil)))))
theorem B_X10_lower_97 : Blk m_X10_lower 97 [o_ald 0, o_getR 10 9, o_ild 4, o_pure (g_push (.int 0)), o_zast, o_ald 0, o_getR 10 10, o_ild 3, o_ild 2, o_pure (g_ii (fun x y => x + y)), o_lald, o_ald 0, o_ild 1, o_ild 2] 116 := .cons (ok_aload_n (k := 0) rfl (by decide +kernel)) (.cons (ok_getR fl_10_34 rfl (by decide +kernel)) (.cons (ok_iload (by decide +kernel)) (.cons (ok_iconst (n := 0) (by decide +kernel) (by decide)) (.cons (ok_bastore (by decide +kernel)) (.cons (ok_aload_n (k := 0) rfl (by decide +kernel)) (.cons (ok_getR fl_10_38 rfl (by decide +kernel)) (.cons (ok_iload_n (k := 3) rfl (by decide +kernel)) (.cons (ok_iload_n (k := 2) rfl (by decide +kernel)) (.cons (ok_iadd (by decide +kernel)) (.cons (ok_laload (by decide +kernel)) (.cons (ok_aload_n (k := 0) rfl (by decide +kernel)) (.cons (ok_iload_n (k := 1) rfl (by decide +kernel)) (.cons (ok_iload_n (k := 2) rfl (by decide +kernel)) .nil)))))))))))))
theorem B_X10_lower_119 : Blk m_X10_lower 119 [o_pure (g_cmp)] 120 := .cons (ok_lcmp (by decide +kernel)) .nil
theorem B_X10_lower_123 : Blk m_X10_lower 123 [o_pure (g_push (.int 0))] 124 := .cons (ok_iconst (n := 0) (by decide +kernel) (by decide)) .nil
theorem B_X10_lower_125 : Blk m_X10_lower 125 [o_ald 0, o_getR 10 8, o_ild 4, o_pure (g_dup2), o_iald, o_pure (g_push (.int 1)), o_pure (g_ii (fun x y => x - y)), o_iast, o_ild 3, o_ild 2, o_pure (g_ii (fun x y => x + y)), o_ist 5] 141 := .cons (ok_aload_n (k := 0) rfl (by decide +kernel)) (.cons (ok_getR fl_10_31 rfl (by decide +kernel)) (.cons (ok_iload (by decide +kernel)) (.cons (ok_dup2 (by decide +kernel)) (.cons (ok_iaload (by decide +kernel)) (.cons (ok_iconst (n := 1) (by decide +kernel) (by decide)) (.cons (ok_isub (by decide +kernel)) (.cons (ok_iastore (by decide +kernel)) (.cons (ok_iload_n (k := 3) rfl (by decide +kernel)) (.cons (ok_iload_n (k := 2) rfl (by decide +kernel)) (.cons (ok_iadd (by decide +kernel)) (.cons (ok_istore (by decide +kernel)) .nil)))))))))))
theorem B_X10_lower_141 : Blk m_X10_lower 141 [o_ild 5, o_ild 1] 144 := .cons (ok_iload (by decide +kernel)) (.cons (ok_iload_n (k := 1) rfl (by decide +kernel)) .nil)
theorem B_X10_lower_147 : Blk m_X10_lower 147 [o_ald 0, o_ald 0, o_getR 10 11, o_ild 5, o_iald, o_ild 5] 157 := .cons (ok_aload_n (k := 0) rfl (by decide +kernel)) (.cons (ok_aload_n (k := 0) rfl (by decide +kernel)) (.cons (ok_getR fl_10_41 rfl (by decide +kernel)) (.cons (ok_iload (by decide +kernel)) (.cons (ok_iaload (by decide +kernel)) (.cons (ok_iload (by decide +kernel)) .nil)))))
theorem B_X10_lower_160 : Blk m_X10_lower 160 [o_ald 0, o_getR 10 11, o_ild 5, o_iald, o_ist 5, o_pure g_id] 141 := .cons (ok_aload_n (k := 0) rfl (by decide +kernel)) (.cons (ok_getR fl_10_41 rfl (by decide +kernel)) (.cons (ok_iload (by decide +kernel)) (.cons (ok_iaload (by decide +kernel)) (.cons (ok_istore (by decide +kernel)) (.cons (ok_goto (off := (-28)) (tgt := 141) (by decide +kernel) (by decide)) .nil)))))
theorem B_X10_lower_172 : Blk m_X10_lower 172 [o_pure (g_push (.int 1))] 173 := .cons (ok_iconst (n := 1) (by decide +kernel) (by decide)) .nil
theorem B_X10_canonicalCoupling_0 : Blk m_X10_canonicalCoupling 0 [o_ald 0, o_ild 1, o_ild 2] 3 := .cons (ok_aload_n (k := 0) rfl (by decide +kernel)) (.cons (ok_iload_n (k := 1) rfl (by decide +kernel)) (.cons (ok_iload_n (k := 2) rfl (by decide +kernel)) .nil))
theorem B_X10_canonicalCoupling_6 : Blk m_X10_canonicalCoupling 6 [o_pure (g_push (.int 0)), o_ist 3] 8 := .cons (ok_iconst (n := 0) (by decide +kernel) (by decide)) (.cons (ok_istore_n (k := 3) rfl (by decide +kernel)) .nil)
theorem B_X10_canonicalCoupling_8 : Blk m_X10_canonicalCoupling 8 [o_ild 3, o_ald 0, o_getR 10 0, o_pure (g_push (.int 0)), o_iald] 15 := .cons (ok_iload_n (k := 3) rfl (by decide +kernel)) (.cons (ok_aload_n (k := 0) rfl (by decide +kernel)) (.cons (ok_getR fl_10_11 rfl (by decide +kernel)) (.cons (ok_iconst (n := 0) (by decide +kernel) (by decide)) (.cons (ok_iaload (by decide +kernel)) .nil))))
theorem B_X10_canonicalCoupling_18 : Blk m_X10_canonicalCoupling 18 [o_pure (g_push (.int 0)), o_ist 4] 21 := .cons (ok_iconst (n := 0) (by decide +kernel) (by decide)) (.cons (ok_istore (by decide +kernel)) .nil)
theorem B_X10_canonicalCoupling_21 : Blk m_X10_canonicalCoupling 21 [o_ild 4, o_ald 0, o_getR 10 0, o_pure (g_push (.int 0)), o_iald] 29 := .cons (ok_iload (by decide +kernel)) (.cons (ok_aload_n (k := 0) rfl (by decide +kernel)) (.cons (ok_getR fl_10_11 rfl (by decide +kernel)) (.cons (ok_iconst (n := 0) (by decide +kernel) (by decide)) (.cons (ok_iaload (by decide +kernel)) .nil))))
theorem B_X10_canonicalCoupling_32 : Blk m_X10_canonicalCoupling 32 [o_pure (g_push (.int 1)), o_ist 5] 35 := .cons (ok_iconst (n := 1) (by decide +kernel) (by decide)) (.cons (ok_istore (by decide +kernel)) .nil)
theorem B_X10_canonicalCoupling_35 : Blk m_X10_canonicalCoupling 35 [o_ild 5] 37 := .cons (ok_iload (by decide +kernel)) .nil
theorem B_X10_canonicalCoupling_40 : Blk m_X10_canonicalCoupling 40 [o_ald 0, o_ild 3, o_ild 4] 44 := .cons (ok_aload_n (k := 0) rfl (by decide +kernel)) (.cons (ok_iload_n (k := 3) rfl (by decide +kernel)) (.cons (ok_iload (by decide +kernel)) .nil))
theorem B_X10_canonicalCoupling_47 : Blk m_X10_canonicalCoupling 47 [o_ist 5, o_pure g_id] 35 := .cons (ok_istore (by decide +kernel)) (.cons (ok_goto (off := (-14)) (tgt := 35) (by decide +kernel) (by decide)) .nil)
theorem B_X10_canonicalCoupling_52 : Blk m_X10_canonicalCoupling 52 [o_ald 0, o_getR 10 9, o_pure (g_push (.int 6)), o_ild 3, o_pure (g_ii (fun x y => x * y)), o_ild 4, o_pure (g_ii (fun x y => x + y)), o_pure (g_push (.int 1)), o_zast, o_iinc 4 1, o_pure g_id] 21 := .cons (ok_aload_n (k := 0) rfl (by decide +kernel)) (.cons (ok_getR fl_10_34 rfl (by decide +kernel)) (.cons (ok_bipush (n := 6) (by decide +kernel) (by decide)) (.cons (ok_iload_n (k := 3) rfl (by decide +kernel)) (.cons (ok_imul (by decide +kernel)) (.cons (ok_iload (by decide +kernel)) (.cons (ok_iadd (by decide +kernel)) (.cons (ok_iconst (n := 1) (by decide +kernel) (by decide)) (.cons (ok_bastore (by decide +kernel)) (.cons (ok_iinc (z := 1) (by decide +kernel) (by decide)) (.cons (ok_goto (off := (-47)) (tgt := 21) (by decide +kernel) (by decide)) .nil))))))))))
theorem B_X10_canonicalCoupling_71 : Blk m_X10_canonicalCoupling 71 [o_iinc 3 1, o_pure g_id] 8 := .cons (ok_iinc (z := 1) (by decide +kernel) (by decide)) (.cons (ok_goto (off := (-66)) (tgt := 8) (by decide +kernel) (by decide)) .nil)
theorem B_X10_isDepth_0 : Blk m_X10_isDepth 0 [o_ild 0, o_pure (g_il (fun x => x.toInt64)), o_pure (g_push (.long 0)), o_pure (g_push (.long 15))] 6 := .cons (ok_iload_n (k := 0) rfl (by decide +kernel)) (.cons (ok_i2l (by decide +kernel)) (.cons (ok_lconst (n := 0) (by decide +kernel) (by decide)) (.cons (ok_ldc2 (by decide +kernel) co_10_163) .nil)))
theorem B_X10_divisor_0 : Blk m_X10_divisor 0 [o_lld 0, o_lst 4, o_lld 2, o_lst 6] 6 := .cons (ok_lload_n (k := 0) rfl (by decide +kernel)) (.cons (ok_lstore (by decide +kernel)) (.cons (ok_lload_n (k := 2) rfl (by decide +kernel)) (.cons (ok_lstore (by decide +kernel)) .nil)))
theorem B_X10_divisor_6 : Blk m_X10_divisor 6 [o_lld 6, o_pure (g_push (.long 0)), o_pure (g_cmp)] 10 := .cons (ok_lload (by decide +kernel)) (.cons (ok_lconst (n := 0) (by decide +kernel) (by decide)) (.cons (ok_lcmp (by decide +kernel)) .nil))
theorem B_X10_divisor_13 : Blk m_X10_divisor 13 [o_lld 4, o_lld 6, o_dll (fun x y => x - x / y * y), o_lst 8, o_lld 6, o_lst 4, o_lld 8, o_lst 6, o_pure g_id] 6 := .cons (ok_lload (by decide +kernel)) (.cons (ok_lload (by decide +kernel)) (.cons (ok_lrem (by decide +kernel)) (.cons (ok_lstore (by decide +kernel)) (.cons (ok_lload (by decide +kernel)) (.cons (ok_lstore (by decide +kernel)) (.cons (ok_lload (by decide +kernel)) (.cons (ok_lstore (by decide +kernel)) (.cons (ok_goto (off := (-22)) (tgt := 6) (by decide +kernel) (by decide)) .nil))))))))
theorem B_X10_divisor_31 : Blk m_X10_divisor 31 [o_lld 4] 33 := .cons (ok_lload (by decide +kernel)) .nil
theorem B_X10_fraction_0 : Blk m_X10_fraction 0 [o_ild 1] 1 := .cons (ok_iload_n (k := 1) rfl (by decide +kernel)) .nil
theorem B_X10_fraction_7 : Blk m_X10_fraction 7 [o_ald 0, o_ild 1] 9 := .cons (ok_aload_n (k := 0) rfl (by decide +kernel)) (.cons (ok_iload_n (k := 1) rfl (by decide +kernel)) .nil)
theorem B_X10_fraction_12 : Blk m_X10_fraction 12 [o_pure (g_push (.long 0)), o_pure (g_cmp)] 14 := .cons (ok_lconst (n := 0) (by decide +kernel) (by decide)) (.cons (ok_lcmp (by decide +kernel)) .nil)
theorem B_X10_fraction_17 : Blk m_X10_fraction 17 [o_ald 0, o_ild 2] 19 := .cons (ok_aload_n (k := 0) rfl (by decide +kernel)) (.cons (ok_iload_n (k := 2) rfl (by decide +kernel)) .nil)
theorem B_X10_fraction_25 : Blk m_X10_fraction 25 [o_ald 0, o_ild 3] 27 := .cons (ok_aload_n (k := 0) rfl (by decide +kernel)) (.cons (ok_iload_n (k := 3) rfl (by decide +kernel)) .nil)
theorem B_X10_fraction_33 : Blk m_X10_fraction 33 [o_pure (g_push (.long (-9223372036854775808)))] 36 := .cons (ok_ldc2 (by decide +kernel) co_10_168) .nil
theorem B_X10_fraction_37 : Blk m_X10_fraction 37 [o_ald 0, o_ild 1] 39 := .cons (ok_aload_n (k := 0) rfl (by decide +kernel)) (.cons (ok_iload_n (k := 1) rfl (by decide +kernel)) .nil)
theorem B_X10_fraction_42 : Blk m_X10_fraction 42 [o_ald 0, o_ild 2, o_ild 3] 45 := .cons (ok_aload_n (k := 0) rfl (by decide +kernel)) (.cons (ok_iload_n (k := 2) rfl (by decide +kernel)) (.cons (ok_iload_n (k := 3) rfl (by decide +kernel)) .nil))
theorem B_X10_fraction_48 : Blk m_X10_fraction 48 [o_ald 0, o_ild 1] 50 := .cons (ok_aload_n (k := 0) rfl (by decide +kernel)) (.cons (ok_iload_n (k := 1) rfl (by decide +kernel)) .nil)
theorem B_X10_fraction_56 : Blk m_X10_fraction 56 [o_lst 5, o_ild 4] 60 := .cons (ok_lstore (by decide +kernel)) (.cons (ok_iload (by decide +kernel)) .nil)
theorem B_X10_fraction_63 : Blk m_X10_fraction 63 [o_ald 0, o_ild 2, o_ild 3] 66 := .cons (ok_aload_n (k := 0) rfl (by decide +kernel)) (.cons (ok_iload_n (k := 2) rfl (by decide +kernel)) (.cons (ok_iload_n (k := 3) rfl (by decide +kernel)) .nil))
theorem B_X10_fraction_69 : Blk m_X10_fraction 69 [o_pure g_id] 77 := .cons (ok_goto (off := 8) (tgt := 77) (by decide +kernel) (by decide)) .nil
theorem B_X10_fraction_72 : Blk m_X10_fraction 72 [o_ald 0, o_ild 1] 74 := .cons (ok_aload_n (k := 0) rfl (by decide +kernel)) (.cons (ok_iload_n (k := 1) rfl (by decide +kernel)) .nil)
theorem B_X10_fraction_77 : Blk m_X10_fraction 77 [o_lld 5, o_dll (fun x y => x / y)] 80 := .cons (ok_lload (by decide +kernel)) (.cons (ok_ldiv (by decide +kernel)) .nil)
theorem B_X10_distanceNumerator_0 : Blk m_X10_distanceNumerator 0 [o_ald 0, o_ild 1, o_ild 2, o_ild 3, o_pure (g_push (.int 1))] 5 := .cons (ok_aload_n (k := 0) rfl (by decide +kernel)) (.cons (ok_iload_n (k := 1) rfl (by decide +kernel)) (.cons (ok_iload_n (k := 2) rfl (by decide +kernel)) (.cons (ok_iload_n (k := 3) rfl (by decide +kernel)) (.cons (ok_iconst (n := 1) (by decide +kernel) (by decide)) .nil))))
theorem B_X10_distanceDenominator_0 : Blk m_X10_distanceDenominator 0 [o_ald 0, o_ild 1, o_ild 2, o_ild 3, o_pure (g_push (.int 0))] 5 := .cons (ok_aload_n (k := 0) rfl (by decide +kernel)) (.cons (ok_iload_n (k := 1) rfl (by decide +kernel)) (.cons (ok_iload_n (k := 2) rfl (by decide +kernel)) (.cons (ok_iload_n (k := 3) rfl (by decide +kernel)) (.cons (ok_iconst (n := 0) (by decide +kernel) (by decide)) .nil))))
theorem B_X10_isPair_0 : Blk m_X10_isPair 0 [o_ild 1] 1 := .cons (ok_iload_n (k := 1) rfl (by decide +kernel)) .nil
theorem B_X10_isPair_4 : Blk m_X10_isPair 4 [o_ald 0, o_ild 1, o_pure (g_push (.int 10)), o_dii (fun x y => x / y)] 9 := .cons (ok_aload_n (k := 0) rfl (by decide +kernel)) (.cons (ok_iload_n (k := 1) rfl (by decide +kernel)) (.cons (ok_bipush (n := 10) (by decide +kernel) (by decide)) (.cons (ok_idiv (by decide +kernel)) .nil)))
theorem B_X10_isPair_15 : Blk m_X10_isPair 15 [o_ald 0, o_ild 1, o_pure (g_push (.int 10)), o_dii (fun x y => x - x / y * y)] 20 := .cons (ok_aload_n (k := 0) rfl (by decide +kernel)) (.cons (ok_iload_n (k := 1) rfl (by decide +kernel)) (.cons (ok_bipush (n := 10) (by decide +kernel) (by decide)) (.cons (ok_irem (by decide +kernel)) .nil)))
theorem B_X10_isPair_26 : Blk m_X10_isPair 26 [o_pure (g_push (.int 1)), o_pure g_id] 31 := .cons (ok_iconst (n := 1) (by decide +kernel) (by decide)) (.cons (ok_goto (off := 4) (tgt := 31) (by decide +kernel) (by decide)) .nil)
theorem B_X10_isPair_30 : Blk m_X10_isPair 30 [o_pure (g_push (.int 0))] 31 := .cons (ok_iconst (n := 0) (by decide +kernel) (by decide)) .nil
theorem B_X10_compareDistances_0 : Blk m_X10_compareDistances 0 [o_ild 1] 1 := .cons (ok_iload_n (k := 1) rfl (by decide +kernel)) .nil
theorem B_X10_compareDistances_7 : Blk m_X10_compareDistances 7 [o_pure (g_push (.int (-1)))] 8 := .cons (ok_iconst (n := (-1)) (by decide +kernel) (by decide)) .nil
theorem B_X10_compareDistances_9 : Blk m_X10_compareDistances 9 [o_ald 0, o_ild 2] 11 := .cons (ok_aload_n (k := 0) rfl (by decide +kernel)) (.cons (ok_iload_n (k := 2) rfl (by decide +kernel)) .nil)
theorem B_X10_compareDistances_17 : Blk m_X10_compareDistances 17 [o_ald 0, o_ild 3] 19 := .cons (ok_aload_n (k := 0) rfl (by decide +kernel)) (.cons (ok_iload_n (k := 3) rfl (by decide +kernel)) .nil)
theorem B_X10_compareDistances_25 : Blk m_X10_compareDistances 25 [o_pure (g_push (.int (-2)))] 27 := .cons (ok_bipush (n := (-2)) (by decide +kernel) (by decide)) .nil
theorem B_X10_compareDistances_28 : Blk m_X10_compareDistances 28 [o_ald 0, o_ild 1] 30 := .cons (ok_aload_n (k := 0) rfl (by decide +kernel)) (.cons (ok_iload_n (k := 1) rfl (by decide +kernel)) .nil)
theorem B_X10_compareDistances_33 : Blk m_X10_compareDistances 33 [o_pure (g_push (.long 0)), o_pure (g_cmp)] 35 := .cons (ok_lconst (n := 0) (by decide +kernel) (by decide)) (.cons (ok_lcmp (by decide +kernel)) .nil)
theorem B_X10_compareDistances_38 : Blk m_X10_compareDistances 38 [o_pure (g_push (.int (-4)))] 40 := .cons (ok_bipush (n := (-4)) (by decide +kernel) (by decide)) .nil
theorem B_X10_compareDistances_41 : Blk m_X10_compareDistances 41 [o_ald 0, o_ild 1] 43 := .cons (ok_aload_n (k := 0) rfl (by decide +kernel)) (.cons (ok_iload_n (k := 1) rfl (by decide +kernel)) .nil)
theorem B_X10_compareDistances_46 : Blk m_X10_compareDistances 46 [o_ald 0, o_ild 2, o_pure (g_push (.int 10)), o_dii (fun x y => x / y), o_ild 2, o_pure (g_push (.int 10)), o_dii (fun x y => x - x / y * y)] 55 := .cons (ok_aload_n (k := 0) rfl (by decide +kernel)) (.cons (ok_iload_n (k := 2) rfl (by decide +kernel)) (.cons (ok_bipush (n := 10) (by decide +kernel) (by decide)) (.cons (ok_idiv (by decide +kernel)) (.cons (ok_iload_n (k := 2) rfl (by decide +kernel)) (.cons (ok_bipush (n := 10) (by decide +kernel) (by decide)) (.cons (ok_irem (by decide +kernel)) .nil))))))
theorem B_X10_compareDistances_58 : Blk m_X10_compareDistances 58 [o_lst 4, o_ald 0, o_ild 3, o_pure (g_push (.int 10)), o_dii (fun x y => x / y), o_ild 3, o_pure (g_push (.int 10)), o_dii (fun x y => x - x / y * y)] 69 := .cons (ok_lstore (by decide +kernel)) (.cons (ok_aload_n (k := 0) rfl (by decide +kernel)) (.cons (ok_iload_n (k := 3) rfl (by decide +kernel)) (.cons (ok_bipush (n := 10) (by decide +kernel) (by decide)) (.cons (ok_idiv (by decide +kernel)) (.cons (ok_iload_n (k := 3) rfl (by decide +kernel)) (.cons (ok_bipush (n := 10) (by decide +kernel) (by decide)) (.cons (ok_irem (by decide +kernel)) .nil)))))))
theorem B_X10_compareDistances_72 : Blk m_X10_compareDistances 72 [o_lst 6, o_lld 4, o_lld 6, o_pure (g_cmp)] 79 := .cons (ok_lstore (by decide +kernel)) (.cons (ok_lload (by decide +kernel)) (.cons (ok_lload (by decide +kernel)) (.cons (ok_lcmp (by decide +kernel)) .nil)))
theorem B_X10_compareDistances_82 : Blk m_X10_compareDistances 82 [o_pure (g_push (.int 0)), o_pure g_id] 99 := .cons (ok_iconst (n := 0) (by decide +kernel) (by decide)) (.cons (ok_goto (off := 16) (tgt := 99) (by decide +kernel) (by decide)) .nil)
theorem B_X10_compareDistances_86 : Blk m_X10_compareDistances 86 [o_lld 4, o_lld 6, o_pure (g_cmp)] 91 := .cons (ok_lload (by decide +kernel)) (.cons (ok_lload (by decide +kernel)) (.cons (ok_lcmp (by decide +kernel)) .nil))
theorem B_X10_compareDistances_94 : Blk m_X10_compareDistances 94 [o_pure (g_push (.int 1)), o_pure g_id] 99 := .cons (ok_iconst (n := 1) (by decide +kernel) (by decide)) (.cons (ok_goto (off := 4) (tgt := 99) (by decide +kernel) (by decide)) .nil)
theorem B_X10_compareDistances_98 : Blk m_X10_compareDistances 98 [o_pure (g_push (.int 2))] 99 := .cons (ok_iconst (n := 2) (by decide +kernel) (by decide)) .nil
theorem B_X10_farthestPair_0 : Blk m_X10_farthestPair 0 [o_ild 1] 1 := .cons (ok_iload_n (k := 1) rfl (by decide +kernel)) .nil
theorem B_X10_farthestPair_7 : Blk m_X10_farthestPair 7 [o_pure (g_push (.int (-1)))] 8 := .cons (ok_iconst (n := (-1)) (by decide +kernel) (by decide)) .nil
theorem B_X10_farthestPair_9 : Blk m_X10_farthestPair 9 [o_ald 0, o_ild 1] 11 := .cons (ok_aload_n (k := 0) rfl (by decide +kernel)) (.cons (ok_iload_n (k := 1) rfl (by decide +kernel)) .nil)
theorem B_X10_farthestPair_14 : Blk m_X10_farthestPair 14 [o_pure (g_push (.long 0)), o_pure (g_cmp)] 16 := .cons (ok_lconst (n := 0) (by decide +kernel) (by decide)) (.cons (ok_lcmp (by decide +kernel)) .nil)
theorem B_X10_farthestPair_19 : Blk m_X10_farthestPair 19 [o_pure (g_push (.int (-4)))] 21 := .cons (ok_bipush (n := (-4)) (by decide +kernel) (by decide)) .nil
theorem B_X10_farthestPair_22 : Blk m_X10_farthestPair 22 [o_ald 0, o_ild 1] 24 := .cons (ok_aload_n (k := 0) rfl (by decide +kernel)) (.cons (ok_iload_n (k := 1) rfl (by decide +kernel)) .nil)
theorem B_X10_farthestPair_27 : Blk m_X10_farthestPair 27 [o_pure (g_push (.int (-7))), o_ist 2, o_pure (g_push (.long (-1))), o_lst 3, o_pure (g_push (.int 0)), o_ist 5] 37 := .cons (ok_bipush (n := (-7)) (by decide +kernel) (by decide)) (.cons (ok_istore_n (k := 2) rfl (by decide +kernel)) (.cons (ok_ldc2 (by decide +kernel) co_10_185) (.cons (ok_lstore_n (k := 3) rfl (by decide +kernel)) (.cons (ok_iconst (n := 0) (by decide +kernel) (by decide)) (.cons (ok_istore (by decide +kernel)) .nil)))))
theorem B_X10_farthestPair_37 : Blk m_X10_farthestPair 37 [o_ild 5, o_ald 0, o_getR 10 0, o_pure (g_push (.int 0)), o_iald] 45 := .cons (ok_iload (by decide +kernel)) (.cons (ok_aload_n (k := 0) rfl (by decide +kernel)) (.cons (ok_getR fl_10_11 rfl (by decide +kernel)) (.cons (ok_iconst (n := 0) (by decide +kernel) (by decide)) (.cons (ok_iaload (by decide +kernel)) .nil))))
theorem B_X10_farthestPair_48 : Blk m_X10_farthestPair 48 [o_ild 5, o_pure (g_push (.int 1)), o_pure (g_ii (fun x y => x + y)), o_ist 6] 54 := .cons (ok_iload (by decide +kernel)) (.cons (ok_iconst (n := 1) (by decide +kernel) (by decide)) (.cons (ok_iadd (by decide +kernel)) (.cons (ok_istore (by decide +kernel)) .nil)))
theorem B_X10_farthestPair_54 : Blk m_X10_farthestPair 54 [o_ild 6, o_ald 0, o_getR 10 0, o_pure (g_push (.int 0)), o_iald] 62 := .cons (ok_iload (by decide +kernel)) (.cons (ok_aload_n (k := 0) rfl (by decide +kernel)) (.cons (ok_getR fl_10_11 rfl (by decide +kernel)) (.cons (ok_iconst (n := 0) (by decide +kernel) (by decide)) (.cons (ok_iaload (by decide +kernel)) .nil))))
theorem B_X10_farthestPair_65 : Blk m_X10_farthestPair 65 [o_ald 0, o_ild 5, o_ild 6] 70 := .cons (ok_aload_n (k := 0) rfl (by decide +kernel)) (.cons (ok_iload (by decide +kernel)) (.cons (ok_iload (by decide +kernel)) .nil))
theorem B_X10_farthestPair_73 : Blk m_X10_farthestPair 73 [o_lld 3, o_pure (g_cmp)] 75 := .cons (ok_lload_n (k := 3) rfl (by decide +kernel)) (.cons (ok_lcmp (by decide +kernel)) .nil)
theorem B_X10_farthestPair_78 : Blk m_X10_farthestPair 78 [o_pure (g_push (.int 10)), o_ild 5, o_pure (g_ii (fun x y => x * y)), o_ild 6, o_pure (g_ii (fun x y => x + y)), o_pure g_id] 90 := .cons (ok_bipush (n := 10) (by decide +kernel) (by decide)) (.cons (ok_iload (by decide +kernel)) (.cons (ok_imul (by decide +kernel)) (.cons (ok_iload (by decide +kernel)) (.cons (ok_iadd (by decide +kernel)) (.cons (ok_goto (off := 4) (tgt := 90) (by decide +kernel) (by decide)) .nil)))))
theorem B_X10_farthestPair_89 : Blk m_X10_farthestPair 89 [o_ild 2, o_ist 2, o_ald 0, o_ild 5, o_ild 6] 96 := .cons (ok_iload_n (k := 2) rfl (by decide +kernel)) (.cons (ok_istore_n (k := 2) rfl (by decide +kernel)) (.cons (ok_aload_n (k := 0) rfl (by decide +kernel)) (.cons (ok_iload (by decide +kernel)) (.cons (ok_iload (by decide +kernel)) .nil))))
theorem B_X10_farthestPair_90 : Blk m_X10_farthestPair 90 [o_ist 2, o_ald 0, o_ild 5, o_ild 6] 96 := .cons (ok_istore_n (k := 2) rfl (by decide +kernel)) (.cons (ok_aload_n (k := 0) rfl (by decide +kernel)) (.cons (ok_iload (by decide +kernel)) (.cons (ok_iload (by decide +kernel)) .nil)))
theorem B_X10_farthestPair_99 : Blk m_X10_farthestPair 99 [o_lld 3, o_pure (g_cmp)] 101 := .cons (ok_lload_n (k := 3) rfl (by decide +kernel)) (.cons (ok_lcmp (by decide +kernel)) .nil)
theorem B_X10_farthestPair_104 : Blk m_X10_farthestPair 104 [o_ald 0, o_ild 5, o_ild 6] 109 := .cons (ok_aload_n (k := 0) rfl (by decide +kernel)) (.cons (ok_iload (by decide +kernel)) (.cons (ok_iload (by decide +kernel)) .nil))
theorem B_X10_farthestPair_112 : Blk m_X10_farthestPair 112 [o_pure g_id] 116 := .cons (ok_goto (off := 4) (tgt := 116) (by decide +kernel) (by decide)) .nil
theorem B_X10_farthestPair_115 : Blk m_X10_farthestPair 115 [o_lld 3, o_lst 3, o_iinc 6 1, o_pure g_id] 54 := .cons (ok_lload_n (k := 3) rfl (by decide +kernel)) (.cons (ok_lstore_n (k := 3) rfl (by decide +kernel)) (.cons (ok_iinc (z := 1) (by decide +kernel) (by decide)) (.cons (ok_goto (off := (-66)) (tgt := 54) (by decide +kernel) (by decide)) .nil)))
theorem B_X10_farthestPair_116 : Blk m_X10_farthestPair 116 [o_lst 3, o_iinc 6 1, o_pure g_id] 54 := .cons (ok_lstore_n (k := 3) rfl (by decide +kernel)) (.cons (ok_iinc (z := 1) (by decide +kernel) (by decide)) (.cons (ok_goto (off := (-66)) (tgt := 54) (by decide +kernel) (by decide)) .nil))
theorem B_X10_farthestPair_123 : Blk m_X10_farthestPair 123 [o_iinc 5 1, o_pure g_id] 37 := .cons (ok_iinc (z := 1) (by decide +kernel) (by decide)) (.cons (ok_goto (off := (-89)) (tgt := 37) (by decide +kernel) (by decide)) .nil)
theorem B_X10_farthestPair_129 : Blk m_X10_farthestPair 129 [o_ild 2] 130 := .cons (ok_iload_n (k := 2) rfl (by decide +kernel)) .nil
theorem B_X10_coupling_0 : Blk m_X10_coupling 0 [o_ild 1] 1 := .cons (ok_iload_n (k := 1) rfl (by decide +kernel)) .nil
theorem B_X10_coupling_7 : Blk m_X10_coupling 7 [o_pure (g_push (.int (-1)))] 8 := .cons (ok_iconst (n := (-1)) (by decide +kernel) (by decide)) .nil
theorem B_X10_coupling_9 : Blk m_X10_coupling 9 [o_ald 0, o_ild 2] 11 := .cons (ok_aload_n (k := 0) rfl (by decide +kernel)) (.cons (ok_iload_n (k := 2) rfl (by decide +kernel)) .nil)
theorem B_X10_coupling_17 : Blk m_X10_coupling 17 [o_ald 0, o_ild 3] 19 := .cons (ok_aload_n (k := 0) rfl (by decide +kernel)) (.cons (ok_iload_n (k := 3) rfl (by decide +kernel)) .nil)
theorem B_X10_coupling_25 : Blk m_X10_coupling 25 [o_ald 0, o_ild 4] 28 := .cons (ok_aload_n (k := 0) rfl (by decide +kernel)) (.cons (ok_iload (by decide +kernel)) .nil)
theorem B_X10_coupling_34 : Blk m_X10_coupling 34 [o_pure (g_push (.int (-2)))] 36 := .cons (ok_bipush (n := (-2)) (by decide +kernel) (by decide)) .nil
theorem B_X10_coupling_37 : Blk m_X10_coupling 37 [o_ald 0, o_ild 1] 39 := .cons (ok_aload_n (k := 0) rfl (by decide +kernel)) (.cons (ok_iload_n (k := 1) rfl (by decide +kernel)) .nil)
theorem B_X10_coupling_42 : Blk m_X10_coupling 42 [o_pure (g_push (.long 0)), o_pure (g_cmp)] 44 := .cons (ok_lconst (n := 0) (by decide +kernel) (by decide)) (.cons (ok_lcmp (by decide +kernel)) .nil)
theorem B_X10_coupling_47 : Blk m_X10_coupling 47 [o_pure (g_push (.int (-4)))] 49 := .cons (ok_bipush (n := (-4)) (by decide +kernel) (by decide)) .nil
theorem B_X10_coupling_50 : Blk m_X10_coupling 50 [o_ald 0, o_ild 1] 52 := .cons (ok_aload_n (k := 0) rfl (by decide +kernel)) (.cons (ok_iload_n (k := 1) rfl (by decide +kernel)) .nil)
theorem B_X10_coupling_55 : Blk m_X10_coupling 55 [o_ald 0, o_ild 2, o_pure (g_push (.int 10)), o_dii (fun x y => x / y), o_ild 2, o_pure (g_push (.int 10)), o_dii (fun x y => x - x / y * y)] 64 := .cons (ok_aload_n (k := 0) rfl (by decide +kernel)) (.cons (ok_iload_n (k := 2) rfl (by decide +kernel)) (.cons (ok_bipush (n := 10) (by decide +kernel) (by decide)) (.cons (ok_idiv (by decide +kernel)) (.cons (ok_iload_n (k := 2) rfl (by decide +kernel)) (.cons (ok_bipush (n := 10) (by decide +kernel) (by decide)) (.cons (ok_irem (by decide +kernel)) .nil))))))
theorem B_X10_coupling_67 : Blk m_X10_coupling 67 [o_ald 0, o_ild 3, o_ild 4] 71 := .cons (ok_aload_n (k := 0) rfl (by decide +kernel)) (.cons (ok_iload_n (k := 3) rfl (by decide +kernel)) (.cons (ok_iload (by decide +kernel)) .nil))
theorem B_X10_distributionDistance_0 : Blk m_X10_distributionDistance 0 [o_ald 0, o_ild 1] 2 := .cons (ok_aload_n (k := 0) rfl (by decide +kernel)) (.cons (ok_iload_n (k := 1) rfl (by decide +kernel)) .nil)
theorem B_X10_distributionDistance_8 : Blk m_X10_distributionDistance 8 [o_ald 0, o_ild 2] 10 := .cons (ok_aload_n (k := 0) rfl (by decide +kernel)) (.cons (ok_iload_n (k := 2) rfl (by decide +kernel)) .nil)
theorem B_X10_distributionDistance_16 : Blk m_X10_distributionDistance 16 [o_pure (g_push (.int (-2)))] 18 := .cons (ok_bipush (n := (-2)) (by decide +kernel) (by decide)) .nil
theorem B_X10_distributionDistance_19 : Blk m_X10_distributionDistance 19 [o_ild 3, o_pure (g_il (fun x => x.toInt64)), o_pure (g_push (.long 0)), o_pure (g_push (.long 3))] 25 := .cons (ok_iload_n (k := 3) rfl (by decide +kernel)) (.cons (ok_i2l (by decide +kernel)) (.cons (ok_lconst (n := 0) (by decide +kernel) (by decide)) (.cons (ok_ldc2 (by decide +kernel) co_10_107) .nil)))
theorem B_X10_distributionDistance_31 : Blk m_X10_distributionDistance 31 [o_pure (g_push (.int (-1)))] 32 := .cons (ok_iconst (n := (-1)) (by decide +kernel) (by decide)) .nil
theorem B_X10_distributionDistance_33 : Blk m_X10_distributionDistance 33 [o_pure (g_push (.int 0)), o_ist 4, o_pure (g_push (.int 0)), o_ist 5, o_pure (g_push (.int 0)), o_ist 6, o_pure (g_push (.int 0)), o_ist 7, o_pure (g_push (.int 0)), o_ist 8, o_pure (g_push (.int 0)), o_ist 9] 51 := .cons (ok_iconst (n := 0) (by decide +kernel) (by decide)) (.cons (ok_istore (by decide +kernel)) (.cons (ok_iconst (n := 0) (by decide +kernel) (by decide)) (.cons (ok_istore (by decide +kernel)) (.cons (ok_iconst (n := 0) (by decide +kernel) (by decide)) (.cons (ok_istore (by decide +kernel)) (.cons (ok_iconst (n := 0) (by decide +kernel) (by decide)) (.cons (ok_istore (by decide +kernel)) (.cons (ok_iconst (n := 0) (by decide +kernel) (by decide)) (.cons (ok_istore (by decide +kernel)) (.cons (ok_iconst (n := 0) (by decide +kernel) (by decide)) (.cons (ok_istore (by decide +kernel)) .nil)))))))))))
theorem B_X10_distributionDistance_51 : Blk m_X10_distributionDistance 51 [o_ild 9, o_ald 0, o_getR 10 0, o_pure (g_push (.int 0)), o_iald] 59 := .cons (ok_iload (by decide +kernel)) (.cons (ok_aload_n (k := 0) rfl (by decide +kernel)) (.cons (ok_getR fl_10_11 rfl (by decide +kernel)) (.cons (ok_iconst (n := 0) (by decide +kernel) (by decide)) (.cons (ok_iaload (by decide +kernel)) .nil))))
theorem B_X10_distributionDistance_62 : Blk m_X10_distributionDistance 62 [o_ald 0, o_ild 1, o_ild 9] 66 := .cons (ok_aload_n (k := 0) rfl (by decide +kernel)) (.cons (ok_iload_n (k := 1) rfl (by decide +kernel)) (.cons (ok_iload (by decide +kernel)) .nil))
theorem B_X10_distributionDistance_69 : Blk m_X10_distributionDistance 69 [o_ald 0, o_ild 2, o_ild 9] 73 := .cons (ok_aload_n (k := 0) rfl (by decide +kernel)) (.cons (ok_iload_n (k := 2) rfl (by decide +kernel)) (.cons (ok_iload (by decide +kernel)) .nil))
theorem B_X10_distributionDistance_76 : Blk m_X10_distributionDistance 76 [o_pure (g_ii (fun x y => x - y)), o_ist 10, o_ild 10] 81 := .cons (ok_isub (by decide +kernel)) (.cons (ok_istore (by decide +kernel)) (.cons (ok_iload (by decide +kernel)) .nil))
theorem B_X10_distributionDistance_84 : Blk m_X10_distributionDistance 84 [o_ild 10, o_pure (g_i (fun x => -x)), o_pure g_id] 92 := .cons (ok_iload (by decide +kernel)) (.cons (ok_ineg (by decide +kernel)) (.cons (ok_goto (off := 5) (tgt := 92) (by decide +kernel) (by decide)) .nil))
theorem B_X10_distributionDistance_90 : Blk m_X10_distributionDistance 90 [o_ild 10, o_ist 11, o_ild 4, o_ild 11, o_pure (g_ii (fun x y => x + y)), o_ist 4, o_ild 11, o_ild 5] 105 := .cons (ok_iload (by decide +kernel)) (.cons (ok_istore (by decide +kernel)) (.cons (ok_iload (by decide +kernel)) (.cons (ok_iload (by decide +kernel)) (.cons (ok_iadd (by decide +kernel)) (.cons (ok_istore (by decide +kernel)) (.cons (ok_iload (by decide +kernel)) (.cons (ok_iload (by decide +kernel)) .nil)))))))
theorem B_X10_distributionDistance_92 : Blk m_X10_distributionDistance 92 [o_ist 11, o_ild 4, o_ild 11, o_pure (g_ii (fun x y => x + y)), o_ist 4, o_ild 11, o_ild 5] 105 := .cons (ok_istore (by decide +kernel)) (.cons (ok_iload (by decide +kernel)) (.cons (ok_iload (by decide +kernel)) (.cons (ok_iadd (by decide +kernel)) (.cons (ok_istore (by decide +kernel)) (.cons (ok_iload (by decide +kernel)) (.cons (ok_iload (by decide +kernel)) .nil))))))
theorem B_X10_distributionDistance_108 : Blk m_X10_distributionDistance 108 [o_ild 11, o_pure g_id] 115 := .cons (ok_iload (by decide +kernel)) (.cons (ok_goto (off := 5) (tgt := 115) (by decide +kernel) (by decide)) .nil)
theorem B_X10_distributionDistance_113 : Blk m_X10_distributionDistance 113 [o_ild 5, o_ist 5, o_ild 8, o_ild 10, o_pure (g_ii (fun x y => x + y)), o_ist 8, o_ild 6, o_ild 9, o_pure (g_push (.int 1)), o_pure (g_ii (fun x y => x + y)), o_ald 0, o_getR 10 0, o_pure (g_push (.int 0)), o_iald] 136 := .cons (ok_iload (by decide +kernel)) (.cons (ok_istore (by decide +kernel)) (.cons (ok_iload (by decide +kernel)) (.cons (ok_iload (by decide +kernel)) (.cons (ok_iadd (by decide +kernel)) (.cons (ok_istore (by decide +kernel)) (.cons (ok_iload (by decide +kernel)) (.cons (ok_iload (by decide +kernel)) (.cons (ok_iconst (n := 1) (by decide +kernel) (by decide)) (.cons (ok_iadd (by decide +kernel)) (.cons (ok_aload_n (k := 0) rfl (by decide +kernel)) (.cons (ok_getR fl_10_11 rfl (by decide +kernel)) (.cons (ok_iconst (n := 0) (by decide +kernel) (by decide)) (.cons (ok_iaload (by decide +kernel)) .nil)))))))))))))
theorem B_X10_distributionDistance_115 : Blk m_X10_distributionDistance 115 [o_ist 5, o_ild 8, o_ild 10, o_pure (g_ii (fun x y => x + y)), o_ist 8, o_ild 6, o_ild 9, o_pure (g_push (.int 1)), o_pure (g_ii (fun x y => x + y)), o_ald 0, o_getR 10 0, o_pure (g_push (.int 0)), o_iald] 136 := .cons (ok_istore (by decide +kernel)) (.cons (ok_iload (by decide +kernel)) (.cons (ok_iload (by decide +kernel)) (.cons (ok_iadd (by decide +kernel)) (.cons (ok_istore (by decide +kernel)) (.cons (ok_iload (by decide +kernel)) (.cons (ok_iload (by decide +kernel)) (.cons (ok_iconst (n := 1) (by decide +kernel) (by decide)) (.cons (ok_iadd (by decide +kernel)) (.cons (ok_aload_n (k := 0) rfl (by decide +kernel)) (.cons (ok_getR fl_10_11 rfl (by decide +kernel)) (.cons (ok_iconst (n := 0) (by decide +kernel) (by decide)) (.cons (ok_iaload (by decide +kernel)) .nil))))))))))))
theorem B_X10_distributionDistance_139 : Blk m_X10_distributionDistance 139 [o_ild 8] 141 := .cons (ok_iload (by decide +kernel)) .nil
theorem B_X10_distributionDistance_144 : Blk m_X10_distributionDistance 144 [o_ild 8, o_pure (g_i (fun x => -x)), o_pure g_id] 156 := .cons (ok_iload (by decide +kernel)) (.cons (ok_ineg (by decide +kernel)) (.cons (ok_goto (off := 9) (tgt := 156) (by decide +kernel) (by decide)) .nil))
theorem B_X10_distributionDistance_150 : Blk m_X10_distributionDistance 150 [o_ild 8, o_pure g_id] 156 := .cons (ok_iload (by decide +kernel)) (.cons (ok_goto (off := 4) (tgt := 156) (by decide +kernel) (by decide)) .nil)
theorem B_X10_distributionDistance_155 : Blk m_X10_distributionDistance 155 [o_pure (g_push (.int 0)), o_pure (g_ii (fun x y => x + y)), o_ist 6, o_ild 7, o_ild 10] 163 := .cons (ok_iconst (n := 0) (by decide +kernel) (by decide)) (.cons (ok_iadd (by decide +kernel)) (.cons (ok_istore (by decide +kernel)) (.cons (ok_iload (by decide +kernel)) (.cons (ok_iload (by decide +kernel)) .nil))))
theorem B_X10_distributionDistance_156 : Blk m_X10_distributionDistance 156 [o_pure (g_ii (fun x y => x + y)), o_ist 6, o_ild 7, o_ild 10] 163 := .cons (ok_iadd (by decide +kernel)) (.cons (ok_istore (by decide +kernel)) (.cons (ok_iload (by decide +kernel)) (.cons (ok_iload (by decide +kernel)) .nil)))
theorem B_X10_distributionDistance_166 : Blk m_X10_distributionDistance 166 [o_ald 0, o_ild 1, o_ild 9] 170 := .cons (ok_aload_n (k := 0) rfl (by decide +kernel)) (.cons (ok_iload_n (k := 1) rfl (by decide +kernel)) (.cons (ok_iload (by decide +kernel)) .nil))
theorem B_X10_distributionDistance_173 : Blk m_X10_distributionDistance 173 [o_pure g_id] 183 := .cons (ok_goto (off := 10) (tgt := 183) (by decide +kernel) (by decide)) .nil
theorem B_X10_distributionDistance_176 : Blk m_X10_distributionDistance 176 [o_ald 0, o_ild 2, o_ild 9] 180 := .cons (ok_aload_n (k := 0) rfl (by decide +kernel)) (.cons (ok_iload_n (k := 2) rfl (by decide +kernel)) (.cons (ok_iload (by decide +kernel)) .nil))
theorem B_X10_distributionDistance_183 : Blk m_X10_distributionDistance 183 [o_pure (g_ii (fun x y => x + y)), o_ist 7, o_iinc 9 1, o_pure g_id] 51 := .cons (ok_iadd (by decide +kernel)) (.cons (ok_istore (by decide +kernel)) (.cons (ok_iinc (z := 1) (by decide +kernel) (by decide)) (.cons (ok_goto (off := (-138)) (tgt := 51) (by decide +kernel) (by decide)) .nil)))
theorem B_X10_distributionDistance_192 : Blk m_X10_distributionDistance 192 [o_ild 3] 193 := .cons (ok_iload_n (k := 3) rfl (by decide +kernel)) .nil
theorem B_X10_distributionDistance_196 : Blk m_X10_distributionDistance 196 [o_ild 4, o_pure (g_push (.int 2)), o_dii (fun x y => x / y), o_pure g_id] 225 := .cons (ok_iload (by decide +kernel)) (.cons (ok_iconst (n := 2) (by decide +kernel) (by decide)) (.cons (ok_idiv (by decide +kernel)) (.cons (ok_goto (off := 25) (tgt := 225) (by decide +kernel) (by decide)) .nil)))
theorem B_X10_distributionDistance_203 : Blk m_X10_distributionDistance 203 [o_ild 3, o_pure (g_push (.int 1))] 205 := .cons (ok_iload_n (k := 3) rfl (by decide +kernel)) (.cons (ok_iconst (n := 1) (by decide +kernel) (by decide)) .nil)
theorem B_X10_distributionDistance_208 : Blk m_X10_distributionDistance 208 [o_ild 5, o_pure g_id] 225 := .cons (ok_iload (by decide +kernel)) (.cons (ok_goto (off := 15) (tgt := 225) (by decide +kernel) (by decide)) .nil)
theorem B_X10_distributionDistance_213 : Blk m_X10_distributionDistance 213 [o_ild 3, o_pure (g_push (.int 2))] 215 := .cons (ok_iload_n (k := 3) rfl (by decide +kernel)) (.cons (ok_iconst (n := 2) (by decide +kernel) (by decide)) .nil)
theorem B_X10_distributionDistance_218 : Blk m_X10_distributionDistance 218 [o_ild 6, o_pure g_id] 225 := .cons (ok_iload (by decide +kernel)) (.cons (ok_goto (off := 5) (tgt := 225) (by decide +kernel) (by decide)) .nil)
theorem B_X10_distributionDistance_223 : Blk m_X10_distributionDistance 223 [o_ild 7] 225 := .cons (ok_iload (by decide +kernel)) .nil
theorem B_X10_weightToClass_0 : Blk m_X10_weightToClass 0 [o_pure (g_push (.int 0)), o_ist 3, o_pure (g_push (.int 0)), o_ist 4] 5 := .cons (ok_iconst (n := 0) (by decide +kernel) (by decide)) (.cons (ok_istore_n (k := 3) rfl (by decide +kernel)) (.cons (ok_iconst (n := 0) (by decide +kernel) (by decide)) (.cons (ok_istore (by decide +kernel)) .nil)))
theorem B_X10_weightToClass_5 : Blk m_X10_weightToClass 5 [o_ild 4, o_ald 0, o_getR 10 0, o_pure (g_push (.int 0)), o_iald] 13 := .cons (ok_iload (by decide +kernel)) (.cons (ok_aload_n (k := 0) rfl (by decide +kernel)) (.cons (ok_getR fl_10_11 rfl (by decide +kernel)) (.cons (ok_iconst (n := 0) (by decide +kernel) (by decide)) (.cons (ok_iaload (by decide +kernel)) .nil))))
theorem B_X10_weightToClass_16 : Blk m_X10_weightToClass 16 [o_ild 3, o_ald 0, o_getR 10 12, o_ild 4, o_iald, o_ild 2] 25 := .cons (ok_iload_n (k := 3) rfl (by decide +kernel)) (.cons (ok_aload_n (k := 0) rfl (by decide +kernel)) (.cons (ok_getR fl_10_44 rfl (by decide +kernel)) (.cons (ok_iload (by decide +kernel)) (.cons (ok_iaload (by decide +kernel)) (.cons (ok_iload_n (k := 2) rfl (by decide +kernel)) .nil)))))
theorem B_X10_weightToClass_28 : Blk m_X10_weightToClass 28 [o_ald 0, o_ild 1, o_ild 4] 32 := .cons (ok_aload_n (k := 0) rfl (by decide +kernel)) (.cons (ok_iload_n (k := 1) rfl (by decide +kernel)) (.cons (ok_iload (by decide +kernel)) .nil))
theorem B_X10_weightToClass_35 : Blk m_X10_weightToClass 35 [o_pure g_id] 39 := .cons (ok_goto (off := 4) (tgt := 39) (by decide +kernel) (by decide)) .nil
theorem B_X10_weightToClass_38 : Blk m_X10_weightToClass 38 [o_pure (g_push (.int 0)), o_pure (g_ii (fun x y => x + y)), o_ist 3, o_iinc 4 1, o_pure g_id] 5 := .cons (ok_iconst (n := 0) (by decide +kernel) (by decide)) (.cons (ok_iadd (by decide +kernel)) (.cons (ok_istore_n (k := 3) rfl (by decide +kernel)) (.cons (ok_iinc (z := 1) (by decide +kernel) (by decide)) (.cons (ok_goto (off := (-39)) (tgt := 5) (by decide +kernel) (by decide)) .nil))))
theorem B_X10_weightToClass_39 : Blk m_X10_weightToClass 39 [o_pure (g_ii (fun x y => x + y)), o_ist 3, o_iinc 4 1, o_pure g_id] 5 := .cons (ok_iadd (by decide +kernel)) (.cons (ok_istore_n (k := 3) rfl (by decide +kernel)) (.cons (ok_iinc (z := 1) (by decide +kernel) (by decide)) (.cons (ok_goto (off := (-39)) (tgt := 5) (by decide +kernel) (by decide)) .nil)))
theorem B_X10_weightToClass_47 : Blk m_X10_weightToClass 47 [o_ild 3] 48 := .cons (ok_iload_n (k := 3) rfl (by decide +kernel)) .nil
theorem B_X10_areAlike_0 : Blk m_X10_areAlike 0 [o_ald 0, o_getR 10 12, o_ild 1, o_iald, o_ald 0, o_getR 10 12, o_ild 2, o_iald] 12 := .cons (ok_aload_n (k := 0) rfl (by decide +kernel)) (.cons (ok_getR fl_10_44 rfl (by decide +kernel)) (.cons (ok_iload_n (k := 1) rfl (by decide +kernel)) (.cons (ok_iaload (by decide +kernel)) (.cons (ok_aload_n (k := 0) rfl (by decide +kernel)) (.cons (ok_getR fl_10_44 rfl (by decide +kernel)) (.cons (ok_iload_n (k := 2) rfl (by decide +kernel)) (.cons (ok_iaload (by decide +kernel)) .nil)))))))
theorem B_X10_areAlike_15 : Blk m_X10_areAlike 15 [o_pure (g_push (.int 1)), o_pure g_id] 20 := .cons (ok_iconst (n := 1) (by decide +kernel) (by decide)) (.cons (ok_goto (off := 4) (tgt := 20) (by decide +kernel) (by decide)) .nil)
theorem B_X10_areAlike_19 : Blk m_X10_areAlike 19 [o_pure (g_push (.int 0)), o_ist 3, o_pure (g_push (.int 0)), o_ist 4] 24 := .cons (ok_iconst (n := 0) (by decide +kernel) (by decide)) (.cons (ok_istore_n (k := 3) rfl (by decide +kernel)) (.cons (ok_iconst (n := 0) (by decide +kernel) (by decide)) (.cons (ok_istore (by decide +kernel)) .nil)))
theorem B_X10_areAlike_20 : Blk m_X10_areAlike 20 [o_ist 3, o_pure (g_push (.int 0)), o_ist 4] 24 := .cons (ok_istore_n (k := 3) rfl (by decide +kernel)) (.cons (ok_iconst (n := 0) (by decide +kernel) (by decide)) (.cons (ok_istore (by decide +kernel)) .nil))
theorem B_X10_areAlike_24 : Blk m_X10_areAlike 24 [o_ild 4, o_ald 0, o_getI 10 14] 30 := .cons (ok_iload (by decide +kernel)) (.cons (ok_aload_n (k := 0) rfl (by decide +kernel)) (.cons (ok_getI fl_10_190 rfl (by decide +kernel)) .nil))
theorem B_X10_areAlike_33 : Blk m_X10_areAlike 33 [o_ild 3] 34 := .cons (ok_iload_n (k := 3) rfl (by decide +kernel)) .nil
theorem B_X10_areAlike_37 : Blk m_X10_areAlike 37 [o_ald 0, o_ild 1, o_ild 4] 41 := .cons (ok_aload_n (k := 0) rfl (by decide +kernel)) (.cons (ok_iload_n (k := 1) rfl (by decide +kernel)) (.cons (ok_iload (by decide +kernel)) .nil))
theorem B_X10_areAlike_44 : Blk m_X10_areAlike 44 [o_ald 0, o_ild 2, o_ild 4] 48 := .cons (ok_aload_n (k := 0) rfl (by decide +kernel)) (.cons (ok_iload_n (k := 2) rfl (by decide +kernel)) (.cons (ok_iload (by decide +kernel)) .nil))
theorem B_X10_areAlike_54 : Blk m_X10_areAlike 54 [o_pure (g_push (.int 1)), o_pure g_id] 59 := .cons (ok_iconst (n := 1) (by decide +kernel) (by decide)) (.cons (ok_goto (off := 4) (tgt := 59) (by decide +kernel) (by decide)) .nil)
theorem B_X10_areAlike_58 : Blk m_X10_areAlike 58 [o_pure (g_push (.int 0)), o_ist 3, o_iinc 4 1, o_pure g_id] 24 := .cons (ok_iconst (n := 0) (by decide +kernel) (by decide)) (.cons (ok_istore_n (k := 3) rfl (by decide +kernel)) (.cons (ok_iinc (z := 1) (by decide +kernel) (by decide)) (.cons (ok_goto (off := (-39)) (tgt := 24) (by decide +kernel) (by decide)) .nil)))
theorem B_X10_areAlike_59 : Blk m_X10_areAlike 59 [o_ist 3, o_iinc 4 1, o_pure g_id] 24 := .cons (ok_istore_n (k := 3) rfl (by decide +kernel)) (.cons (ok_iinc (z := 1) (by decide +kernel) (by decide)) (.cons (ok_goto (off := (-39)) (tgt := 24) (by decide +kernel) (by decide)) .nil))
theorem B_X10_areAlike_66 : Blk m_X10_areAlike 66 [o_ild 3] 67 := .cons (ok_iload_n (k := 3) rfl (by decide +kernel)) .nil
theorem B_X10_number_0 : Blk m_X10_number 0 [o_pure (g_push (.int 0)), o_ist 2, o_pure (g_push (.int 0)), o_ist 3] 4 := .cons (ok_iconst (n := 0) (by decide +kernel) (by decide)) (.cons (ok_istore_n (k := 2) rfl (by decide +kernel)) (.cons (ok_iconst (n := 0) (by decide +kernel) (by decide)) (.cons (ok_istore_n (k := 3) rfl (by decide +kernel)) .nil)))
theorem B_X10_number_4 : Blk m_X10_number 4 [o_ild 3, o_ald 0, o_getR 10 0, o_pure (g_push (.int 0)), o_iald] 11 := .cons (ok_iload_n (k := 3) rfl (by decide +kernel)) (.cons (ok_aload_n (k := 0) rfl (by decide +kernel)) (.cons (ok_getR fl_10_11 rfl (by decide +kernel)) (.cons (ok_iconst (n := 0) (by decide +kernel) (by decide)) (.cons (ok_iaload (by decide +kernel)) .nil))))
theorem B_X10_number_14 : Blk m_X10_number 14 [o_pure (g_push (.int 0)), o_ist 4] 17 := .cons (ok_iconst (n := 0) (by decide +kernel) (by decide)) (.cons (ok_istore (by decide +kernel)) .nil)
theorem B_X10_number_17 : Blk m_X10_number 17 [o_ild 1] 18 := .cons (ok_iload_n (k := 1) rfl (by decide +kernel)) .nil
theorem B_X10_number_21 : Blk m_X10_number 21 [o_ald 0, o_getR 10 0, o_pure (g_push (.int 4)), o_ild 4, o_pure (g_ii (fun x y => x + y)), o_iald, o_ald 0, o_getR 10 0, o_pure (g_push (.int 4)), o_ild 3, o_pure (g_ii (fun x y => x + y)), o_iald] 38 := .cons (ok_aload_n (k := 0) rfl (by decide +kernel)) (.cons (ok_getR fl_10_11 rfl (by decide +kernel)) (.cons (ok_iconst (n := 4) (by decide +kernel) (by decide)) (.cons (ok_iload (by decide +kernel)) (.cons (ok_iadd (by decide +kernel)) (.cons (ok_iaload (by decide +kernel)) (.cons (ok_aload_n (k := 0) rfl (by decide +kernel)) (.cons (ok_getR fl_10_11 rfl (by decide +kernel)) (.cons (ok_iconst (n := 4) (by decide +kernel) (by decide)) (.cons (ok_iload_n (k := 3) rfl (by decide +kernel)) (.cons (ok_iadd (by decide +kernel)) (.cons (ok_iaload (by decide +kernel)) .nil)))))))))))
theorem B_X10_number_41 : Blk m_X10_number 41 [o_pure g_id] 54 := .cons (ok_goto (off := 13) (tgt := 54) (by decide +kernel) (by decide)) .nil
theorem B_X10_number_44 : Blk m_X10_number 44 [o_ald 0, o_ild 4, o_ild 3] 48 := .cons (ok_aload_n (k := 0) rfl (by decide +kernel)) (.cons (ok_iload (by decide +kernel)) (.cons (ok_iload_n (k := 3) rfl (by decide +kernel)) .nil))
theorem B_X10_number_54 : Blk m_X10_number 54 [o_iinc 4 1, o_pure g_id] 17 := .cons (ok_iinc (z := 1) (by decide +kernel) (by decide)) (.cons (ok_goto (off := (-40)) (tgt := 17) (by decide +kernel) (by decide)) .nil)
theorem B_X10_number_60 : Blk m_X10_number 60 [o_ald 0, o_getR 10 13, o_ild 3, o_ild 4, o_ild 3] 68 := .cons (ok_aload_n (k := 0) rfl (by decide +kernel)) (.cons (ok_getR fl_10_47 rfl (by decide +kernel)) (.cons (ok_iload_n (k := 3) rfl (by decide +kernel)) (.cons (ok_iload (by decide +kernel)) (.cons (ok_iload_n (k := 3) rfl (by decide +kernel)) .nil))))
theorem B_X10_number_71 : Blk m_X10_number 71 [o_ald 0, o_getR 10 13, o_ild 4, o_iald, o_pure g_id] 82 := .cons (ok_aload_n (k := 0) rfl (by decide +kernel)) (.cons (ok_getR fl_10_47 rfl (by decide +kernel)) (.cons (ok_iload (by decide +kernel)) (.cons (ok_iaload (by decide +kernel)) (.cons (ok_goto (off := 4) (tgt := 82) (by decide +kernel) (by decide)) .nil))))
theorem B_X10_number_81 : Blk m_X10_number 81 [o_ild 2, o_iast, o_ild 2, o_ild 4, o_ild 3] 87 := .cons (ok_iload_n (k := 2) rfl (by decide +kernel)) (.cons (ok_iastore (by decide +kernel)) (.cons (ok_iload_n (k := 2) rfl (by decide +kernel)) (.cons (ok_iload (by decide +kernel)) (.cons (ok_iload_n (k := 3) rfl (by decide +kernel)) .nil))))
theorem B_X10_number_82 : Blk m_X10_number 82 [o_iast, o_ild 2, o_ild 4, o_ild 3] 87 := .cons (ok_iastore (by decide +kernel)) (.cons (ok_iload_n (k := 2) rfl (by decide +kernel)) (.cons (ok_iload (by decide +kernel)) (.cons (ok_iload_n (k := 3) rfl (by decide +kernel)) .nil)))
theorem B_X10_number_90 : Blk m_X10_number 90 [o_pure (g_push (.int 0)), o_pure g_id] 95 := .cons (ok_iconst (n := 0) (by decide +kernel) (by decide)) (.cons (ok_goto (off := 4) (tgt := 95) (by decide +kernel) (by decide)) .nil)
theorem B_X10_number_94 : Blk m_X10_number 94 [o_pure (g_push (.int 1)), o_pure (g_ii (fun x y => x + y)), o_ist 2, o_iinc 3 1, o_pure g_id] 4 := .cons (ok_iconst (n := 1) (by decide +kernel) (by decide)) (.cons (ok_iadd (by decide +kernel)) (.cons (ok_istore_n (k := 2) rfl (by decide +kernel)) (.cons (ok_iinc (z := 1) (by decide +kernel) (by decide)) (.cons (ok_goto (off := (-96)) (tgt := 4) (by decide +kernel) (by decide)) .nil))))
theorem B_X10_number_95 : Blk m_X10_number 95 [o_pure (g_ii (fun x y => x + y)), o_ist 2, o_iinc 3 1, o_pure g_id] 4 := .cons (ok_iadd (by decide +kernel)) (.cons (ok_istore_n (k := 2) rfl (by decide +kernel)) (.cons (ok_iinc (z := 1) (by decide +kernel) (by decide)) (.cons (ok_goto (off := (-96)) (tgt := 4) (by decide +kernel) (by decide)) .nil)))
theorem B_X10_number_103 : Blk m_X10_number 103 [o_ald 0, o_getR 10 13, o_pure (g_push (.int 0)), o_ald 0, o_getR 10 12, o_pure (g_push (.int 0)), o_pure (g_push (.int 6)), o_cpI, o_ild 2] 119 := .cons (ok_aload_n (k := 0) rfl (by decide +kernel)) (.cons (ok_getR fl_10_47 rfl (by decide +kernel)) (.cons (ok_iconst (n := 0) (by decide +kernel) (by decide)) (.cons (ok_aload_n (k := 0) rfl (by decide +kernel)) (.cons (ok_getR fl_10_44 rfl (by decide +kernel)) (.cons (ok_iconst (n := 0) (by decide +kernel) (by decide)) (.cons (ok_bipush (n := 6) (by decide +kernel) (by decide)) (.cons (ok_cpI ml_10_97 jw_acn jw_acs jw_sys (by decide +kernel)) (.cons (ok_iload_n (k := 2) rfl (by decide +kernel)) .nil))))))))
theorem B_X10_computeClasses_0 : Blk m_X10_computeClasses 0 [o_ald 0, o_ald 0, o_pure (g_push (.int 1))] 3 := .cons (ok_aload_n (k := 0) rfl (by decide +kernel)) (.cons (ok_aload_n (k := 0) rfl (by decide +kernel)) (.cons (ok_iconst (n := 1) (by decide +kernel) (by decide)) .nil))
theorem B_X10_computeClasses_6 : Blk m_X10_computeClasses 6 [o_putI 10 14, o_pure (g_push (.int 0)), o_ist 1] 11 := .cons (ok_putI fl_10_190 rfl (by decide +kernel)) (.cons (ok_iconst (n := 0) (by decide +kernel) (by decide)) (.cons (ok_istore_n (k := 1) rfl (by decide +kernel)) .nil))
theorem B_X10_computeClasses_11 : Blk m_X10_computeClasses 11 [o_ild 1, o_ald 0, o_getI 10 14] 16 := .cons (ok_iload_n (k := 1) rfl (by decide +kernel)) (.cons (ok_aload_n (k := 0) rfl (by decide +kernel)) (.cons (ok_getI fl_10_190 rfl (by decide +kernel)) .nil))
theorem B_X10_computeClasses_19 : Blk m_X10_computeClasses 19 [o_ald 0, o_getI 10 14, o_ist 1, o_ald 0, o_ald 0, o_pure (g_push (.int 0))] 27 := .cons (ok_aload_n (k := 0) rfl (by decide +kernel)) (.cons (ok_getI fl_10_190 rfl (by decide +kernel)) (.cons (ok_istore_n (k := 1) rfl (by decide +kernel)) (.cons (ok_aload_n (k := 0) rfl (by decide +kernel)) (.cons (ok_aload_n (k := 0) rfl (by decide +kernel)) (.cons (ok_iconst (n := 0) (by decide +kernel) (by decide)) .nil)))))
theorem B_X10_computeClasses_30 : Blk m_X10_computeClasses 30 [o_putI 10 14, o_pure g_id] 11 := .cons (ok_putI fl_10_190 rfl (by decide +kernel)) (.cons (ok_goto (off := (-22)) (tgt := 11) (by decide +kernel) (by decide)) .nil)
theorem B_X10_bisimulationClass_0 : Blk m_X10_bisimulationClass 0 [o_ald 0, o_ild 1] 2 := .cons (ok_aload_n (k := 0) rfl (by decide +kernel)) (.cons (ok_iload_n (k := 1) rfl (by decide +kernel)) .nil)
theorem B_X10_bisimulationClass_8 : Blk m_X10_bisimulationClass 8 [o_pure (g_push (.int (-2)))] 10 := .cons (ok_bipush (n := (-2)) (by decide +kernel) (by decide)) .nil
theorem B_X10_bisimulationClass_11 : Blk m_X10_bisimulationClass 11 [o_ald 0] 12 := .cons (ok_aload_n (k := 0) rfl (by decide +kernel)) .nil
theorem B_X10_bisimulationClass_15 : Blk m_X10_bisimulationClass 15 [o_ald 0, o_getR 10 12, o_ild 1, o_iald] 21 := .cons (ok_aload_n (k := 0) rfl (by decide +kernel)) (.cons (ok_getR fl_10_44 rfl (by decide +kernel)) (.cons (ok_iload_n (k := 1) rfl (by decide +kernel)) (.cons (ok_iaload (by decide +kernel)) .nil)))
theorem B_X10_bisimulationClassCount_0 : Blk m_X10_bisimulationClassCount 0 [o_ald 0] 1 := .cons (ok_aload_n (k := 0) rfl (by decide +kernel)) .nil
theorem B_X10_bisimulationClassCount_4 : Blk m_X10_bisimulationClassCount 4 [o_ald 0, o_getI 10 14] 8 := .cons (ok_aload_n (k := 0) rfl (by decide +kernel)) (.cons (ok_getI fl_10_190 rfl (by decide +kernel)) .nil)
theorem B_X10_minimize_0 : Blk m_X10_minimize 0 [o_ald 0] 1 := .cons (ok_aload_n (k := 0) rfl (by decide +kernel)) .nil
theorem B_X10_minimize_4 : Blk m_X10_minimize 4 [o_ald 0] 5 := .cons (ok_aload_n (k := 0) rfl (by decide +kernel)) .nil
theorem B_X10_minimize_8 : Blk m_X10_minimize 8 [o_ald 0, o_getR 10 0, o_pure (g_push (.int 0)), o_iald, o_ist 1, o_ald 0, o_getI 10 14, o_ist 2, o_ild 1, o_pure (g_push (.int 1)), o_pure (g_ii (fun x y => x - y)), o_ist 3] 24 := .cons (ok_aload_n (k := 0) rfl (by decide +kernel)) (.cons (ok_getR fl_10_11 rfl (by decide +kernel)) (.cons (ok_iconst (n := 0) (by decide +kernel) (by decide)) (.cons (ok_iaload (by decide +kernel)) (.cons (ok_istore_n (k := 1) rfl (by decide +kernel)) (.cons (ok_aload_n (k := 0) rfl (by decide +kernel)) (.cons (ok_getI fl_10_190 rfl (by decide +kernel)) (.cons (ok_istore_n (k := 2) rfl (by decide +kernel)) (.cons (ok_iload_n (k := 1) rfl (by decide +kernel)) (.cons (ok_iconst (n := 1) (by decide +kernel) (by decide)) (.cons (ok_isub (by decide +kernel)) (.cons (ok_istore_n (k := 3) rfl (by decide +kernel)) .nil)))))))))))
theorem B_X10_minimize_24 : Blk m_X10_minimize 24 [o_ild 3] 25 := .cons (ok_iload_n (k := 3) rfl (by decide +kernel)) .nil
theorem B_X10_minimize_28 : Blk m_X10_minimize 28 [o_pure (g_push (.int 0)), o_ist 4] 31 := .cons (ok_iconst (n := 0) (by decide +kernel) (by decide)) (.cons (ok_istore (by decide +kernel)) .nil)
theorem B_X10_minimize_31 : Blk m_X10_minimize 31 [o_ild 4, o_ild 2] 34 := .cons (ok_iload (by decide +kernel)) (.cons (ok_iload_n (k := 2) rfl (by decide +kernel)) .nil)
theorem B_X10_minimize_37 : Blk m_X10_minimize 37 [o_ald 0, o_getR 10 13, o_ild 4, o_ald 0, o_getR 10 12, o_ild 3, o_iald, o_ild 4] 51 := .cons (ok_aload_n (k := 0) rfl (by decide +kernel)) (.cons (ok_getR fl_10_47 rfl (by decide +kernel)) (.cons (ok_iload (by decide +kernel)) (.cons (ok_aload_n (k := 0) rfl (by decide +kernel)) (.cons (ok_getR fl_10_44 rfl (by decide +kernel)) (.cons (ok_iload_n (k := 3) rfl (by decide +kernel)) (.cons (ok_iaload (by decide +kernel)) (.cons (ok_iload (by decide +kernel)) .nil)))))))
theorem B_X10_minimize_54 : Blk m_X10_minimize 54 [o_ild 3, o_pure g_id] 65 := .cons (ok_iload_n (k := 3) rfl (by decide +kernel)) (.cons (ok_goto (off := 10) (tgt := 65) (by decide +kernel) (by decide)) .nil)
theorem B_X10_minimize_58 : Blk m_X10_minimize 58 [o_ald 0, o_getR 10 13, o_ild 4, o_iald, o_iast, o_iinc 4 1, o_pure g_id] 31 := .cons (ok_aload_n (k := 0) rfl (by decide +kernel)) (.cons (ok_getR fl_10_47 rfl (by decide +kernel)) (.cons (ok_iload (by decide +kernel)) (.cons (ok_iaload (by decide +kernel)) (.cons (ok_iastore (by decide +kernel)) (.cons (ok_iinc (z := 1) (by decide +kernel) (by decide)) (.cons (ok_goto (off := (-38)) (tgt := 31) (by decide +kernel) (by decide)) .nil))))))
theorem B_X10_minimize_65 : Blk m_X10_minimize 65 [o_iast, o_iinc 4 1, o_pure g_id] 31 := .cons (ok_iastore (by decide +kernel)) (.cons (ok_iinc (z := 1) (by decide +kernel) (by decide)) (.cons (ok_goto (off := (-38)) (tgt := 31) (by decide +kernel) (by decide)) .nil))
theorem B_X10_minimize_72 : Blk m_X10_minimize 72 [o_iinc 3 (-1), o_pure g_id] 24 := .cons (ok_iinc (z := (-1)) (by decide +kernel) (by decide)) (.cons (ok_goto (off := (-51)) (tgt := 24) (by decide +kernel) (by decide)) .nil)
theorem B_X10_minimize_78 : Blk m_X10_minimize 78 [o_ald 0, o_ild 2, o_ald 0, o_getR 10 0, o_pure (g_push (.int 1)), o_iald] 86 := .cons (ok_aload_n (k := 0) rfl (by decide +kernel)) (.cons (ok_iload_n (k := 2) rfl (by decide +kernel)) (.cons (ok_aload_n (k := 0) rfl (by decide +kernel)) (.cons (ok_getR fl_10_11 rfl (by decide +kernel)) (.cons (ok_iconst (n := 1) (by decide +kernel) (by decide)) (.cons (ok_iaload (by decide +kernel)) .nil)))))
theorem B_X10_minimize_89 : Blk m_X10_minimize 89 [o_pure (g_push (.int 0)), o_ist 3] 91 := .cons (ok_iconst (n := 0) (by decide +kernel) (by decide)) (.cons (ok_istore_n (k := 3) rfl (by decide +kernel)) .nil)
theorem B_X10_minimize_91 : Blk m_X10_minimize 91 [o_ild 3, o_ild 2] 93 := .cons (ok_iload_n (k := 3) rfl (by decide +kernel)) (.cons (ok_iload_n (k := 2) rfl (by decide +kernel)) .nil)
theorem B_X10_minimize_96 : Blk m_X10_minimize 96 [o_ald 0, o_getR 10 0, o_pure (g_push (.int 4)), o_ild 3, o_pure (g_ii (fun x y => x + y)), o_ald 0, o_getR 10 5, o_pure (g_push (.int 4)), o_ald 0, o_getR 10 13, o_ild 3, o_iald, o_pure (g_ii (fun x y => x + y)), o_iald, o_iast, o_pure (g_push (.int 0)), o_ist 4] 120 := .cons (ok_aload_n (k := 0) rfl (by decide +kernel)) (.cons (ok_getR fl_10_11 rfl (by decide +kernel)) (.cons (ok_iconst (n := 4) (by decide +kernel) (by decide)) (.cons (ok_iload_n (k := 3) rfl (by decide +kernel)) (.cons (ok_iadd (by decide +kernel)) (.cons (ok_aload_n (k := 0) rfl (by decide +kernel)) (.cons (ok_getR fl_10_21 rfl (by decide +kernel)) (.cons (ok_iconst (n := 4) (by decide +kernel) (by decide)) (.cons (ok_aload_n (k := 0) rfl (by decide +kernel)) (.cons (ok_getR fl_10_47 rfl (by decide +kernel)) (.cons (ok_iload_n (k := 3) rfl (by decide +kernel)) (.cons (ok_iaload (by decide +kernel)) (.cons (ok_iadd (by decide +kernel)) (.cons (ok_iaload (by decide +kernel)) (.cons (ok_iastore (by decide +kernel)) (.cons (ok_iconst (n := 0) (by decide +kernel) (by decide)) (.cons (ok_istore (by decide +kernel)) .nil))))))))))))))))
theorem B_X10_minimize_120 : Blk m_X10_minimize 120 [o_ild 4, o_ild 2] 123 := .cons (ok_iload (by decide +kernel)) (.cons (ok_iload_n (k := 2) rfl (by decide +kernel)) .nil)
theorem B_X10_minimize_126 : Blk m_X10_minimize 126 [o_pure (g_push (.int 0)), o_ist 5, o_pure (g_push (.int 0)), o_ist 6] 132 := .cons (ok_iconst (n := 0) (by decide +kernel) (by decide)) (.cons (ok_istore (by decide +kernel)) (.cons (ok_iconst (n := 0) (by decide +kernel) (by decide)) (.cons (ok_istore (by decide +kernel)) .nil)))
theorem B_X10_minimize_132 : Blk m_X10_minimize 132 [o_ild 6, o_ild 1] 135 := .cons (ok_iload (by decide +kernel)) (.cons (ok_iload_n (k := 1) rfl (by decide +kernel)) .nil)
theorem B_X10_minimize_138 : Blk m_X10_minimize 138 [o_ild 5, o_ald 0, o_getR 10 12, o_ild 6, o_iald, o_ild 4] 149 := .cons (ok_iload (by decide +kernel)) (.cons (ok_aload_n (k := 0) rfl (by decide +kernel)) (.cons (ok_getR fl_10_44 rfl (by decide +kernel)) (.cons (ok_iload (by decide +kernel)) (.cons (ok_iaload (by decide +kernel)) (.cons (ok_iload (by decide +kernel)) .nil)))))
theorem B_X10_minimize_152 : Blk m_X10_minimize 152 [o_ald 0, o_getR 10 5, o_pure (g_push (.int 10)), o_pure (g_push (.int 6)), o_ald 0, o_getR 10 13, o_ild 3, o_iald, o_pure (g_ii (fun x y => x * y)), o_pure (g_ii (fun x y => x + y)), o_ild 6, o_pure (g_ii (fun x y => x + y)), o_iald, o_pure g_id] 176 := .cons (ok_aload_n (k := 0) rfl (by decide +kernel)) (.cons (ok_getR fl_10_21 rfl (by decide +kernel)) (.cons (ok_bipush (n := 10) (by decide +kernel) (by decide)) (.cons (ok_bipush (n := 6) (by decide +kernel) (by decide)) (.cons (ok_aload_n (k := 0) rfl (by decide +kernel)) (.cons (ok_getR fl_10_47 rfl (by decide +kernel)) (.cons (ok_iload_n (k := 3) rfl (by decide +kernel)) (.cons (ok_iaload (by decide +kernel)) (.cons (ok_imul (by decide +kernel)) (.cons (ok_iadd (by decide +kernel)) (.cons (ok_iload (by decide +kernel)) (.cons (ok_iadd (by decide +kernel)) (.cons (ok_iaload (by decide +kernel)) (.cons (ok_goto (off := 4) (tgt := 176) (by decide +kernel) (by decide)) .nil)))))))))))))
theorem B_X10_minimize_175 : Blk m_X10_minimize 175 [o_pure (g_push (.int 0)), o_pure (g_ii (fun x y => x + y)), o_ist 5, o_iinc 6 1, o_pure g_id] 132 := .cons (ok_iconst (n := 0) (by decide +kernel) (by decide)) (.cons (ok_iadd (by decide +kernel)) (.cons (ok_istore (by decide +kernel)) (.cons (ok_iinc (z := 1) (by decide +kernel) (by decide)) (.cons (ok_goto (off := (-50)) (tgt := 132) (by decide +kernel) (by decide)) .nil))))
theorem B_X10_minimize_176 : Blk m_X10_minimize 176 [o_pure (g_ii (fun x y => x + y)), o_ist 5, o_iinc 6 1, o_pure g_id] 132 := .cons (ok_iadd (by decide +kernel)) (.cons (ok_istore (by decide +kernel)) (.cons (ok_iinc (z := 1) (by decide +kernel) (by decide)) (.cons (ok_goto (off := (-50)) (tgt := 132) (by decide +kernel) (by decide)) .nil)))
theorem B_X10_minimize_185 : Blk m_X10_minimize 185 [o_ald 0, o_ild 3, o_ild 4, o_ild 5] 191 := .cons (ok_aload_n (k := 0) rfl (by decide +kernel)) (.cons (ok_iload_n (k := 3) rfl (by decide +kernel)) (.cons (ok_iload (by decide +kernel)) (.cons (ok_iload (by decide +kernel)) .nil)))
theorem B_X10_minimize_194 : Blk m_X10_minimize 194 [o_iinc 4 1, o_pure g_id] 120 := .cons (ok_iinc (z := 1) (by decide +kernel) (by decide)) (.cons (ok_goto (off := (-77)) (tgt := 120) (by decide +kernel) (by decide)) .nil)
theorem B_X10_minimize_200 : Blk m_X10_minimize 200 [o_iinc 3 1, o_pure g_id] 91 := .cons (ok_iinc (z := 1) (by decide +kernel) (by decide)) (.cons (ok_goto (off := (-112)) (tgt := 91) (by decide +kernel) (by decide)) .nil)
theorem B_X10_minimize_206 : Blk m_X10_minimize 206 [o_ild 2] 207 := .cons (ok_iload_n (k := 2) rfl (by decide +kernel)) .nil
theorem B_X10_isIn_0 : Blk m_X10_isIn 0 [o_ild 2, o_ald 0, o_getR 10 0, o_pure (g_push (.int 4)), o_ild 1, o_pure (g_ii (fun x y => x + y)), o_iald, o_pure (g_ii (fun x y => x >>> (y &&& 31))), o_pure (g_push (.int 1)), o_pure (g_ii (fun x y => x &&& y)), o_pure (g_push (.int 1))] 13 := .cons (ok_iload_n (k := 2) rfl (by decide +kernel)) (.cons (ok_aload_n (k := 0) rfl (by decide +kernel)) (.cons (ok_getR fl_10_11 rfl (by decide +kernel)) (.cons (ok_iconst (n := 4) (by decide +kernel) (by decide)) (.cons (ok_iload_n (k := 1) rfl (by decide +kernel)) (.cons (ok_iadd (by decide +kernel)) (.cons (ok_iaload (by decide +kernel)) (.cons (ok_ishr (by decide +kernel)) (.cons (ok_iconst (n := 1) (by decide +kernel) (by decide)) (.cons (ok_iand (by decide +kernel)) (.cons (ok_iconst (n := 1) (by decide +kernel) (by decide)) .nil))))))))))
theorem B_X10_isIn_16 : Blk m_X10_isIn 16 [o_pure (g_push (.int 1)), o_pure g_id] 21 := .cons (ok_iconst (n := 1) (by decide +kernel) (by decide)) (.cons (ok_goto (off := 4) (tgt := 21) (by decide +kernel) (by decide)) .nil)
theorem B_X10_isIn_20 : Blk m_X10_isIn 20 [o_pure (g_push (.int 0))] 21 := .cons (ok_iconst (n := 0) (by decide +kernel) (by decide)) .nil
theorem B_X10_step_0 : Blk m_X10_step 0 [o_pure (g_push (.int 0)), o_ist 1] 2 := .cons (ok_iconst (n := 0) (by decide +kernel) (by decide)) (.cons (ok_istore_n (k := 1) rfl (by decide +kernel)) .nil)
theorem B_X10_step_2 : Blk m_X10_step 2 [o_ild 1, o_ald 0, o_getR 10 0, o_pure (g_push (.int 0)), o_iald] 9 := .cons (ok_iload_n (k := 1) rfl (by decide +kernel)) (.cons (ok_aload_n (k := 0) rfl (by decide +kernel)) (.cons (ok_getR fl_10_11 rfl (by decide +kernel)) (.cons (ok_iconst (n := 0) (by decide +kernel) (by decide)) (.cons (ok_iaload (by decide +kernel)) .nil))))
theorem B_X10_step_12 : Blk m_X10_step 12 [o_ald 0, o_getR 10 16, o_ild 1, o_pure (g_push (.long 0)), o_last, o_pure (g_push (.int 0)), o_ist 2] 21 := .cons (ok_aload_n (k := 0) rfl (by decide +kernel)) (.cons (ok_getR fl_10_53 rfl (by decide +kernel)) (.cons (ok_iload_n (k := 1) rfl (by decide +kernel)) (.cons (ok_lconst (n := 0) (by decide +kernel) (by decide)) (.cons (ok_lastore (by decide +kernel)) (.cons (ok_iconst (n := 0) (by decide +kernel) (by decide)) (.cons (ok_istore_n (k := 2) rfl (by decide +kernel)) .nil))))))
theorem B_X10_step_21 : Blk m_X10_step 21 [o_ild 2, o_ald 0, o_getR 10 0, o_pure (g_push (.int 0)), o_iald] 28 := .cons (ok_iload_n (k := 2) rfl (by decide +kernel)) (.cons (ok_aload_n (k := 0) rfl (by decide +kernel)) (.cons (ok_getR fl_10_11 rfl (by decide +kernel)) (.cons (ok_iconst (n := 0) (by decide +kernel) (by decide)) (.cons (ok_iaload (by decide +kernel)) .nil))))
theorem B_X10_step_31 : Blk m_X10_step 31 [o_ald 0, o_getR 10 16, o_ild 1, o_pure (g_dup2), o_lald, o_ald 0, o_ild 1, o_ild 2] 41 := .cons (ok_aload_n (k := 0) rfl (by decide +kernel)) (.cons (ok_getR fl_10_53 rfl (by decide +kernel)) (.cons (ok_iload_n (k := 1) rfl (by decide +kernel)) (.cons (ok_dup2 (by decide +kernel)) (.cons (ok_laload (by decide +kernel)) (.cons (ok_aload_n (k := 0) rfl (by decide +kernel)) (.cons (ok_iload_n (k := 1) rfl (by decide +kernel)) (.cons (ok_iload_n (k := 2) rfl (by decide +kernel)) .nil)))))))
theorem B_X10_step_44 : Blk m_X10_step 44 [o_pure (g_il (fun x => x.toInt64)), o_ald 0, o_getR 10 15, o_ild 2, o_lald, o_pure (g_ll (fun x y => x * y)), o_pure (g_ll (fun x y => x + y)), o_last, o_iinc 2 1, o_pure g_id] 21 := .cons (ok_i2l (by decide +kernel)) (.cons (ok_aload_n (k := 0) rfl (by decide +kernel)) (.cons (ok_getR fl_10_50 rfl (by decide +kernel)) (.cons (ok_iload_n (k := 2) rfl (by decide +kernel)) (.cons (ok_laload (by decide +kernel)) (.cons (ok_lmul (by decide +kernel)) (.cons (ok_ladd (by decide +kernel)) (.cons (ok_lastore (by decide +kernel)) (.cons (ok_iinc (z := 1) (by decide +kernel) (by decide)) (.cons (ok_goto (off := (-36)) (tgt := 21) (by decide +kernel) (by decide)) .nil)))))))))
theorem B_X10_step_60 : Blk m_X10_step 60 [o_iinc 1 1, o_pure g_id] 2 := .cons (ok_iinc (z := 1) (by decide +kernel) (by decide)) (.cons (ok_goto (off := (-61)) (tgt := 2) (by decide +kernel) (by decide)) .nil)
theorem B_X10_step_66 : Blk m_X10_step 66 [o_ald 0, o_getR 10 16, o_pure (g_push (.int 0)), o_ald 0, o_getR 10 15, o_pure (g_push (.int 0)), o_pure (g_push (.int 6)), o_cpJ] 81 := .cons (ok_aload_n (k := 0) rfl (by decide +kernel)) (.cons (ok_getR fl_10_53 rfl (by decide +kernel)) (.cons (ok_iconst (n := 0) (by decide +kernel) (by decide)) (.cons (ok_aload_n (k := 0) rfl (by decide +kernel)) (.cons (ok_getR fl_10_50 rfl (by decide +kernel)) (.cons (ok_iconst (n := 0) (by decide +kernel) (by decide)) (.cons (ok_bipush (n := 6) (by decide +kernel) (by decide)) (.cons (ok_cpJ ml_10_97 jw_acn jw_acs jw_sys (by decide +kernel)) .nil)))))))
theorem B_X10_isQuery_0 : Blk m_X10_isQuery 0 [o_ald 0, o_ild 1] 2 := .cons (ok_aload_n (k := 0) rfl (by decide +kernel)) (.cons (ok_iload_n (k := 1) rfl (by decide +kernel)) .nil)
theorem B_X10_isQuery_8 : Blk m_X10_isQuery 8 [o_ild 2, o_pure (g_il (fun x => x.toInt64)), o_pure (g_push (.long 0)), o_pure (g_push (.long 15))] 14 := .cons (ok_iload_n (k := 2) rfl (by decide +kernel)) (.cons (ok_i2l (by decide +kernel)) (.cons (ok_lconst (n := 0) (by decide +kernel) (by decide)) (.cons (ok_ldc2 (by decide +kernel) co_10_163) .nil)))
theorem B_X10_isQuery_20 : Blk m_X10_isQuery 20 [o_ild 3, o_pure (g_il (fun x => x.toInt64)), o_pure (g_push (.long 0)), o_pure (g_push (.long 12))] 26 := .cons (ok_iload_n (k := 3) rfl (by decide +kernel)) (.cons (ok_i2l (by decide +kernel)) (.cons (ok_lconst (n := 0) (by decide +kernel) (by decide)) (.cons (ok_ldc2 (by decide +kernel) co_10_95) .nil)))
theorem B_X10_isQuery_32 : Blk m_X10_isQuery 32 [o_pure (g_push (.int 1)), o_pure g_id] 37 := .cons (ok_iconst (n := 1) (by decide +kernel) (by decide)) (.cons (ok_goto (off := 4) (tgt := 37) (by decide +kernel) (by decide)) .nil)
theorem B_X10_isQuery_36 : Blk m_X10_isQuery 36 [o_pure (g_push (.int 0))] 37 := .cons (ok_iconst (n := 0) (by decide +kernel) (by decide)) .nil
theorem B_X10_reachWeight_0 : Blk m_X10_reachWeight 0 [o_ald 0, o_ild 1, o_ild 2, o_ild 3] 4 := .cons (ok_aload_n (k := 0) rfl (by decide +kernel)) (.cons (ok_iload_n (k := 1) rfl (by decide +kernel)) (.cons (ok_iload_n (k := 2) rfl (by decide +kernel)) (.cons (ok_iload_n (k := 3) rfl (by decide +kernel)) .nil)))
theorem B_X10_reachWeight_10 : Blk m_X10_reachWeight 10 [o_pure (g_push (.long (-9223372036854775808)))] 13 := .cons (ok_ldc2 (by decide +kernel) co_10_168) .nil
theorem B_X10_reachWeight_14 : Blk m_X10_reachWeight 14 [o_pure (g_push (.int 0)), o_ist 4] 17 := .cons (ok_iconst (n := 0) (by decide +kernel) (by decide)) (.cons (ok_istore (by decide +kernel)) .nil)
theorem B_X10_reachWeight_17 : Blk m_X10_reachWeight 17 [o_ild 4, o_ald 0, o_getR 10 0, o_pure (g_push (.int 0)), o_iald] 25 := .cons (ok_iload (by decide +kernel)) (.cons (ok_aload_n (k := 0) rfl (by decide +kernel)) (.cons (ok_getR fl_10_11 rfl (by decide +kernel)) (.cons (ok_iconst (n := 0) (by decide +kernel) (by decide)) (.cons (ok_iaload (by decide +kernel)) .nil))))
theorem B_X10_reachWeight_28 : Blk m_X10_reachWeight 28 [o_ald 0, o_getR 10 15, o_ild 4, o_ald 0, o_ild 4, o_ild 2] 38 := .cons (ok_aload_n (k := 0) rfl (by decide +kernel)) (.cons (ok_getR fl_10_50 rfl (by decide +kernel)) (.cons (ok_iload (by decide +kernel)) (.cons (ok_aload_n (k := 0) rfl (by decide +kernel)) (.cons (ok_iload (by decide +kernel)) (.cons (ok_iload_n (k := 2) rfl (by decide +kernel)) .nil)))))
theorem B_X10_reachWeight_44 : Blk m_X10_reachWeight 44 [o_pure (g_push (.long 1)), o_pure g_id] 49 := .cons (ok_lconst (n := 1) (by decide +kernel) (by decide)) (.cons (ok_goto (off := 4) (tgt := 49) (by decide +kernel) (by decide)) .nil)
theorem B_X10_reachWeight_48 : Blk m_X10_reachWeight 48 [o_pure (g_push (.long 0)), o_last, o_iinc 4 1, o_pure g_id] 17 := .cons (ok_lconst (n := 0) (by decide +kernel) (by decide)) (.cons (ok_lastore (by decide +kernel)) (.cons (ok_iinc (z := 1) (by decide +kernel) (by decide)) (.cons (ok_goto (off := (-36)) (tgt := 17) (by decide +kernel) (by decide)) .nil)))
theorem B_X10_reachWeight_49 : Blk m_X10_reachWeight 49 [o_last, o_iinc 4 1, o_pure g_id] 17 := .cons (ok_lastore (by decide +kernel)) (.cons (ok_iinc (z := 1) (by decide +kernel) (by decide)) (.cons (ok_goto (off := (-36)) (tgt := 17) (by decide +kernel) (by decide)) .nil))
theorem B_X10_reachWeight_56 : Blk m_X10_reachWeight 56 [o_pure (g_push (.int 0)), o_ist 4] 59 := .cons (ok_iconst (n := 0) (by decide +kernel) (by decide)) (.cons (ok_istore (by decide +kernel)) .nil)
theorem B_X10_reachWeight_59 : Blk m_X10_reachWeight 59 [o_ild 4, o_ild 3] 62 := .cons (ok_iload (by decide +kernel)) (.cons (ok_iload_n (k := 3) rfl (by decide +kernel)) .nil)
theorem B_X10_reachWeight_65 : Blk m_X10_reachWeight 65 [o_ald 0] 66 := .cons (ok_aload_n (k := 0) rfl (by decide +kernel)) .nil
theorem B_X10_reachWeight_69 : Blk m_X10_reachWeight 69 [o_iinc 4 1, o_pure g_id] 59 := .cons (ok_iinc (z := 1) (by decide +kernel) (by decide)) (.cons (ok_goto (off := (-13)) (tgt := 59) (by decide +kernel) (by decide)) .nil)
theorem B_X10_reachWeight_75 : Blk m_X10_reachWeight 75 [o_ald 0, o_getR 10 15, o_ild 1, o_lald] 81 := .cons (ok_aload_n (k := 0) rfl (by decide +kernel)) (.cons (ok_getR fl_10_50 rfl (by decide +kernel)) (.cons (ok_iload_n (k := 1) rfl (by decide +kernel)) (.cons (ok_laload (by decide +kernel)) .nil)))
theorem B_X10_firstReachWeight_0 : Blk m_X10_firstReachWeight 0 [o_ald 0, o_ild 1, o_ild 2, o_ild 3] 4 := .cons (ok_aload_n (k := 0) rfl (by decide +kernel)) (.cons (ok_iload_n (k := 1) rfl (by decide +kernel)) (.cons (ok_iload_n (k := 2) rfl (by decide +kernel)) (.cons (ok_iload_n (k := 3) rfl (by decide +kernel)) .nil)))
theorem B_X10_firstReachWeight_10 : Blk m_X10_firstReachWeight 10 [o_pure (g_push (.long (-9223372036854775808)))] 13 := .cons (ok_ldc2 (by decide +kernel) co_10_168) .nil
theorem B_X10_firstReachWeight_14 : Blk m_X10_firstReachWeight 14 [o_pure (g_push (.long 1)), o_lst 4, o_pure (g_push (.int 0)), o_ist 6] 20 := .cons (ok_lconst (n := 1) (by decide +kernel) (by decide)) (.cons (ok_lstore (by decide +kernel)) (.cons (ok_iconst (n := 0) (by decide +kernel) (by decide)) (.cons (ok_istore (by decide +kernel)) .nil)))
theorem B_X10_firstReachWeight_20 : Blk m_X10_firstReachWeight 20 [o_ild 6, o_ald 0, o_getR 10 0, o_pure (g_push (.int 0)), o_iald] 28 := .cons (ok_iload (by decide +kernel)) (.cons (ok_aload_n (k := 0) rfl (by decide +kernel)) (.cons (ok_getR fl_10_11 rfl (by decide +kernel)) (.cons (ok_iconst (n := 0) (by decide +kernel) (by decide)) (.cons (ok_iaload (by decide +kernel)) .nil))))
theorem B_X10_firstReachWeight_31 : Blk m_X10_firstReachWeight 31 [o_ald 0, o_getR 10 15, o_ild 6, o_ald 0, o_ild 6, o_ild 2] 41 := .cons (ok_aload_n (k := 0) rfl (by decide +kernel)) (.cons (ok_getR fl_10_50 rfl (by decide +kernel)) (.cons (ok_iload (by decide +kernel)) (.cons (ok_aload_n (k := 0) rfl (by decide +kernel)) (.cons (ok_iload (by decide +kernel)) (.cons (ok_iload_n (k := 2) rfl (by decide +kernel)) .nil)))))
theorem B_X10_firstReachWeight_47 : Blk m_X10_firstReachWeight 47 [o_pure (g_push (.long 1)), o_pure g_id] 52 := .cons (ok_lconst (n := 1) (by decide +kernel) (by decide)) (.cons (ok_goto (off := 4) (tgt := 52) (by decide +kernel) (by decide)) .nil)
theorem B_X10_firstReachWeight_51 : Blk m_X10_firstReachWeight 51 [o_pure (g_push (.long 0)), o_last, o_iinc 6 1, o_pure g_id] 20 := .cons (ok_lconst (n := 0) (by decide +kernel) (by decide)) (.cons (ok_lastore (by decide +kernel)) (.cons (ok_iinc (z := 1) (by decide +kernel) (by decide)) (.cons (ok_goto (off := (-36)) (tgt := 20) (by decide +kernel) (by decide)) .nil)))
theorem B_X10_firstReachWeight_52 : Blk m_X10_firstReachWeight 52 [o_last, o_iinc 6 1, o_pure g_id] 20 := .cons (ok_lastore (by decide +kernel)) (.cons (ok_iinc (z := 1) (by decide +kernel) (by decide)) (.cons (ok_goto (off := (-36)) (tgt := 20) (by decide +kernel) (by decide)) .nil))
theorem B_X10_firstReachWeight_59 : Blk m_X10_firstReachWeight 59 [o_pure (g_push (.int 0)), o_ist 6] 62 := .cons (ok_iconst (n := 0) (by decide +kernel) (by decide)) (.cons (ok_istore (by decide +kernel)) .nil)
theorem B_X10_firstReachWeight_62 : Blk m_X10_firstReachWeight 62 [o_ild 6, o_ild 3] 65 := .cons (ok_iload (by decide +kernel)) (.cons (ok_iload_n (k := 3) rfl (by decide +kernel)) .nil)
theorem B_X10_firstReachWeight_68 : Blk m_X10_firstReachWeight 68 [o_ald 0] 69 := .cons (ok_aload_n (k := 0) rfl (by decide +kernel)) .nil
theorem B_X10_firstReachWeight_72 : Blk m_X10_firstReachWeight 72 [o_lld 4, o_ald 0, o_getR 10 0, o_pure (g_push (.int 1)), o_iald, o_pure (g_il (fun x => x.toInt64)), o_pure (g_ll (fun x y => x * y)), o_lst 4, o_pure (g_push (.int 0)), o_ist 7] 87 := .cons (ok_lload (by decide +kernel)) (.cons (ok_aload_n (k := 0) rfl (by decide +kernel)) (.cons (ok_getR fl_10_11 rfl (by decide +kernel)) (.cons (ok_iconst (n := 1) (by decide +kernel) (by decide)) (.cons (ok_iaload (by decide +kernel)) (.cons (ok_i2l (by decide +kernel)) (.cons (ok_lmul (by decide +kernel)) (.cons (ok_lstore (by decide +kernel)) (.cons (ok_iconst (n := 0) (by decide +kernel) (by decide)) (.cons (ok_istore (by decide +kernel)) .nil)))))))))
theorem B_X10_firstReachWeight_87 : Blk m_X10_firstReachWeight 87 [o_ild 7, o_ald 0, o_getR 10 0, o_pure (g_push (.int 0)), o_iald] 95 := .cons (ok_iload (by decide +kernel)) (.cons (ok_aload_n (k := 0) rfl (by decide +kernel)) (.cons (ok_getR fl_10_11 rfl (by decide +kernel)) (.cons (ok_iconst (n := 0) (by decide +kernel) (by decide)) (.cons (ok_iaload (by decide +kernel)) .nil))))
theorem B_X10_firstReachWeight_98 : Blk m_X10_firstReachWeight 98 [o_ald 0, o_getR 10 15, o_ild 7, o_ald 0, o_ild 7, o_ild 2] 108 := .cons (ok_aload_n (k := 0) rfl (by decide +kernel)) (.cons (ok_getR fl_10_50 rfl (by decide +kernel)) (.cons (ok_iload (by decide +kernel)) (.cons (ok_aload_n (k := 0) rfl (by decide +kernel)) (.cons (ok_iload (by decide +kernel)) (.cons (ok_iload_n (k := 2) rfl (by decide +kernel)) .nil)))))
theorem B_X10_firstReachWeight_114 : Blk m_X10_firstReachWeight 114 [o_lld 4, o_pure g_id] 126 := .cons (ok_lload (by decide +kernel)) (.cons (ok_goto (off := 10) (tgt := 126) (by decide +kernel) (by decide)) .nil)
theorem B_X10_firstReachWeight_119 : Blk m_X10_firstReachWeight 119 [o_ald 0, o_getR 10 15, o_ild 7, o_lald, o_last, o_iinc 7 1, o_pure g_id] 87 := .cons (ok_aload_n (k := 0) rfl (by decide +kernel)) (.cons (ok_getR fl_10_50 rfl (by decide +kernel)) (.cons (ok_iload (by decide +kernel)) (.cons (ok_laload (by decide +kernel)) (.cons (ok_lastore (by decide +kernel)) (.cons (ok_iinc (z := 1) (by decide +kernel) (by decide)) (.cons (ok_goto (off := (-43)) (tgt := 87) (by decide +kernel) (by decide)) .nil))))))
theorem B_X10_firstReachWeight_126 : Blk m_X10_firstReachWeight 126 [o_last, o_iinc 7 1, o_pure g_id] 87 := .cons (ok_lastore (by decide +kernel)) (.cons (ok_iinc (z := 1) (by decide +kernel) (by decide)) (.cons (ok_goto (off := (-43)) (tgt := 87) (by decide +kernel) (by decide)) .nil))
theorem B_X10_firstReachWeight_133 : Blk m_X10_firstReachWeight 133 [o_iinc 6 1, o_pure g_id] 62 := .cons (ok_iinc (z := 1) (by decide +kernel) (by decide)) (.cons (ok_goto (off := (-74)) (tgt := 62) (by decide +kernel) (by decide)) .nil)
theorem B_X10_firstReachWeight_139 : Blk m_X10_firstReachWeight 139 [o_ald 0, o_getR 10 15, o_ild 1, o_lald] 145 := .cons (ok_aload_n (k := 0) rfl (by decide +kernel)) (.cons (ok_getR fl_10_50 rfl (by decide +kernel)) (.cons (ok_iload_n (k := 1) rfl (by decide +kernel)) (.cons (ok_laload (by decide +kernel)) .nil)))
theorem B_X10_sequenceWeight_0 : Blk m_X10_sequenceWeight 0 [o_ald 0, o_getI 10 18, o_ist 2, o_ald 0, o_pure (g_push (.int 0)), o_putI 10 18, o_ald 0, o_ild 1] 12 := .cons (ok_aload_n (k := 0) rfl (by decide +kernel)) (.cons (ok_getI fl_10_216 rfl (by decide +kernel)) (.cons (ok_istore_n (k := 2) rfl (by decide +kernel)) (.cons (ok_aload_n (k := 0) rfl (by decide +kernel)) (.cons (ok_iconst (n := 0) (by decide +kernel) (by decide)) (.cons (ok_putI fl_10_216 rfl (by decide +kernel)) (.cons (ok_aload_n (k := 0) rfl (by decide +kernel)) (.cons (ok_iload_n (k := 1) rfl (by decide +kernel)) .nil)))))))
theorem B_X10_sequenceWeight_18 : Blk m_X10_sequenceWeight 18 [o_ild 2, o_pure (g_il (fun x => x.toInt64)), o_pure (g_push (.long 1)), o_pure (g_push (.long 13))] 24 := .cons (ok_iload_n (k := 2) rfl (by decide +kernel)) (.cons (ok_i2l (by decide +kernel)) (.cons (ok_lconst (n := 1) (by decide +kernel) (by decide)) (.cons (ok_ldc2 (by decide +kernel) co_10_219) .nil)))
theorem B_X10_sequenceWeight_30 : Blk m_X10_sequenceWeight 30 [o_pure (g_push (.long (-9223372036854775808)))] 33 := .cons (ok_ldc2 (by decide +kernel) co_10_168) .nil
theorem B_X10_sequenceWeight_34 : Blk m_X10_sequenceWeight 34 [o_pure (g_push (.int 0)), o_ist 3] 36 := .cons (ok_iconst (n := 0) (by decide +kernel) (by decide)) (.cons (ok_istore_n (k := 3) rfl (by decide +kernel)) .nil)
theorem B_X10_sequenceWeight_36 : Blk m_X10_sequenceWeight 36 [o_ild 3, o_ild 2] 38 := .cons (ok_iload_n (k := 3) rfl (by decide +kernel)) (.cons (ok_iload_n (k := 2) rfl (by decide +kernel)) .nil)
theorem B_X10_sequenceWeight_41 : Blk m_X10_sequenceWeight 41 [o_ald 0, o_getR 10 17, o_ild 3, o_iald, o_pure (g_il (fun x => x.toInt64)), o_pure (g_push (.long 48)), o_pure (g_push (.long 51))] 54 := .cons (ok_aload_n (k := 0) rfl (by decide +kernel)) (.cons (ok_getR fl_10_56 rfl (by decide +kernel)) (.cons (ok_iload_n (k := 3) rfl (by decide +kernel)) (.cons (ok_iaload (by decide +kernel)) (.cons (ok_i2l (by decide +kernel)) (.cons (ok_ldc2 (by decide +kernel) co_10_221) (.cons (ok_ldc2 (by decide +kernel) co_10_223) .nil))))))
theorem B_X10_sequenceWeight_60 : Blk m_X10_sequenceWeight 60 [o_pure (g_push (.long (-9223372036854775808)))] 63 := .cons (ok_ldc2 (by decide +kernel) co_10_168) .nil
theorem B_X10_sequenceWeight_64 : Blk m_X10_sequenceWeight 64 [o_iinc 3 1, o_pure g_id] 36 := .cons (ok_iinc (z := 1) (by decide +kernel) (by decide)) (.cons (ok_goto (off := (-31)) (tgt := 36) (by decide +kernel) (by decide)) .nil)
theorem B_X10_sequenceWeight_70 : Blk m_X10_sequenceWeight 70 [o_pure (g_push (.int 0)), o_ist 3] 72 := .cons (ok_iconst (n := 0) (by decide +kernel) (by decide)) (.cons (ok_istore_n (k := 3) rfl (by decide +kernel)) .nil)
theorem B_X10_sequenceWeight_72 : Blk m_X10_sequenceWeight 72 [o_ild 3, o_ald 0, o_getR 10 0, o_pure (g_push (.int 0)), o_iald] 79 := .cons (ok_iload_n (k := 3) rfl (by decide +kernel)) (.cons (ok_aload_n (k := 0) rfl (by decide +kernel)) (.cons (ok_getR fl_10_11 rfl (by decide +kernel)) (.cons (ok_iconst (n := 0) (by decide +kernel) (by decide)) (.cons (ok_iaload (by decide +kernel)) .nil))))
theorem B_X10_sequenceWeight_82 : Blk m_X10_sequenceWeight 82 [o_ald 0, o_getR 10 15, o_ild 3, o_pure (g_push (.long 1)), o_last, o_iinc 3 1, o_pure g_id] 72 := .cons (ok_aload_n (k := 0) rfl (by decide +kernel)) (.cons (ok_getR fl_10_50 rfl (by decide +kernel)) (.cons (ok_iload_n (k := 3) rfl (by decide +kernel)) (.cons (ok_lconst (n := 1) (by decide +kernel) (by decide)) (.cons (ok_lastore (by decide +kernel)) (.cons (ok_iinc (z := 1) (by decide +kernel) (by decide)) (.cons (ok_goto (off := (-20)) (tgt := 72) (by decide +kernel) (by decide)) .nil))))))
theorem B_X10_sequenceWeight_95 : Blk m_X10_sequenceWeight 95 [o_ild 2, o_pure (g_push (.int 1)), o_pure (g_ii (fun x y => x - y)), o_ist 3] 99 := .cons (ok_iload_n (k := 2) rfl (by decide +kernel)) (.cons (ok_iconst (n := 1) (by decide +kernel) (by decide)) (.cons (ok_isub (by decide +kernel)) (.cons (ok_istore_n (k := 3) rfl (by decide +kernel)) .nil)))
theorem B_X10_sequenceWeight_99 : Blk m_X10_sequenceWeight 99 [o_ild 3] 100 := .cons (ok_iload_n (k := 3) rfl (by decide +kernel)) .nil
theorem B_X10_sequenceWeight_103 : Blk m_X10_sequenceWeight 103 [o_ild 3, o_ild 2, o_pure (g_push (.int 1)), o_pure (g_ii (fun x y => x - y))] 107 := .cons (ok_iload_n (k := 3) rfl (by decide +kernel)) (.cons (ok_iload_n (k := 2) rfl (by decide +kernel)) (.cons (ok_iconst (n := 1) (by decide +kernel) (by decide)) (.cons (ok_isub (by decide +kernel)) .nil)))
theorem B_X10_sequenceWeight_110 : Blk m_X10_sequenceWeight 110 [o_ald 0] 111 := .cons (ok_aload_n (k := 0) rfl (by decide +kernel)) .nil
theorem B_X10_sequenceWeight_114 : Blk m_X10_sequenceWeight 114 [o_pure (g_push (.int 0)), o_ist 4] 117 := .cons (ok_iconst (n := 0) (by decide +kernel) (by decide)) (.cons (ok_istore (by decide +kernel)) .nil)
theorem B_X10_sequenceWeight_117 : Blk m_X10_sequenceWeight 117 [o_ild 4, o_ald 0, o_getR 10 0, o_pure (g_push (.int 0)), o_iald] 125 := .cons (ok_iload (by decide +kernel)) (.cons (ok_aload_n (k := 0) rfl (by decide +kernel)) (.cons (ok_getR fl_10_11 rfl (by decide +kernel)) (.cons (ok_iconst (n := 0) (by decide +kernel) (by decide)) (.cons (ok_iaload (by decide +kernel)) .nil))))
theorem B_X10_sequenceWeight_128 : Blk m_X10_sequenceWeight 128 [o_ald 0, o_getR 10 15, o_ild 4, o_ald 0, o_getR 10 0, o_pure (g_push (.int 4)), o_ild 4, o_pure (g_ii (fun x y => x + y)), o_iald, o_ald 0, o_getR 10 17, o_ild 3, o_iald, o_pure (g_push (.int 48)), o_pure (g_ii (fun x y => x - y))] 152 := .cons (ok_aload_n (k := 0) rfl (by decide +kernel)) (.cons (ok_getR fl_10_50 rfl (by decide +kernel)) (.cons (ok_iload (by decide +kernel)) (.cons (ok_aload_n (k := 0) rfl (by decide +kernel)) (.cons (ok_getR fl_10_11 rfl (by decide +kernel)) (.cons (ok_iconst (n := 4) (by decide +kernel) (by decide)) (.cons (ok_iload (by decide +kernel)) (.cons (ok_iadd (by decide +kernel)) (.cons (ok_iaload (by decide +kernel)) (.cons (ok_aload_n (k := 0) rfl (by decide +kernel)) (.cons (ok_getR fl_10_56 rfl (by decide +kernel)) (.cons (ok_iload_n (k := 3) rfl (by decide +kernel)) (.cons (ok_iaload (by decide +kernel)) (.cons (ok_bipush (n := 48) (by decide +kernel) (by decide)) (.cons (ok_isub (by decide +kernel)) .nil))))))))))))))
theorem B_X10_sequenceWeight_155 : Blk m_X10_sequenceWeight 155 [o_ald 0, o_getR 10 15, o_ild 4, o_lald, o_pure g_id] 166 := .cons (ok_aload_n (k := 0) rfl (by decide +kernel)) (.cons (ok_getR fl_10_50 rfl (by decide +kernel)) (.cons (ok_iload (by decide +kernel)) (.cons (ok_laload (by decide +kernel)) (.cons (ok_goto (off := 4) (tgt := 166) (by decide +kernel) (by decide)) .nil))))
theorem B_X10_sequenceWeight_165 : Blk m_X10_sequenceWeight 165 [o_pure (g_push (.long 0)), o_last, o_iinc 4 1, o_pure g_id] 117 := .cons (ok_lconst (n := 0) (by decide +kernel) (by decide)) (.cons (ok_lastore (by decide +kernel)) (.cons (ok_iinc (z := 1) (by decide +kernel) (by decide)) (.cons (ok_goto (off := (-53)) (tgt := 117) (by decide +kernel) (by decide)) .nil)))
theorem B_X10_sequenceWeight_166 : Blk m_X10_sequenceWeight 166 [o_last, o_iinc 4 1, o_pure g_id] 117 := .cons (ok_lastore (by decide +kernel)) (.cons (ok_iinc (z := 1) (by decide +kernel) (by decide)) (.cons (ok_goto (off := (-53)) (tgt := 117) (by decide +kernel) (by decide)) .nil))
theorem B_X10_sequenceWeight_173 : Blk m_X10_sequenceWeight 173 [o_iinc 3 (-1), o_pure g_id] 99 := .cons (ok_iinc (z := (-1)) (by decide +kernel) (by decide)) (.cons (ok_goto (off := (-77)) (tgt := 99) (by decide +kernel) (by decide)) .nil)
theorem B_X10_sequenceWeight_179 : Blk m_X10_sequenceWeight 179 [o_ald 0, o_getR 10 15, o_ild 1, o_lald] 185 := .cons (ok_aload_n (k := 0) rfl (by decide +kernel)) (.cons (ok_getR fl_10_50 rfl (by decide +kernel)) (.cons (ok_iload_n (k := 1) rfl (by decide +kernel)) (.cons (ok_laload (by decide +kernel)) .nil)))
theorem B_X10_walk_0 : Blk m_X10_walk 0 [o_ild 1, o_ist 5, o_ild 2, o_ist 6, o_ald 0, o_ald 0, o_getR 10 0, o_pure (g_push (.int 4)), o_ild 5, o_pure (g_ii (fun x y => x + y)), o_iald, o_ild 4] 18 := .cons (ok_iload_n (k := 1) rfl (by decide +kernel)) (.cons (ok_istore (by decide +kernel)) (.cons (ok_iload_n (k := 2) rfl (by decide +kernel)) (.cons (ok_istore (by decide +kernel)) (.cons (ok_aload_n (k := 0) rfl (by decide +kernel)) (.cons (ok_aload_n (k := 0) rfl (by decide +kernel)) (.cons (ok_getR fl_10_11 rfl (by decide +kernel)) (.cons (ok_iconst (n := 4) (by decide +kernel) (by decide)) (.cons (ok_iload (by decide +kernel)) (.cons (ok_iadd (by decide +kernel)) (.cons (ok_iaload (by decide +kernel)) (.cons (ok_iload (by decide +kernel)) .nil)))))))))))
theorem B_X10_walk_21 : Blk m_X10_walk 21 [o_pure (g_push (.int 1)), o_pure g_id] 26 := .cons (ok_iconst (n := 1) (by decide +kernel) (by decide)) (.cons (ok_goto (off := 4) (tgt := 26) (by decide +kernel) (by decide)) .nil)
theorem B_X10_walk_25 : Blk m_X10_walk 25 [o_pure (g_push (.int 0)), o_putI 10 19, o_pure (g_push (.int 0)), o_ist 7] 32 := .cons (ok_iconst (n := 0) (by decide +kernel) (by decide)) (.cons (ok_putI fl_10_225 rfl (by decide +kernel)) (.cons (ok_iconst (n := 0) (by decide +kernel) (by decide)) (.cons (ok_istore (by decide +kernel)) .nil)))
theorem B_X10_walk_26 : Blk m_X10_walk 26 [o_putI 10 19, o_pure (g_push (.int 0)), o_ist 7] 32 := .cons (ok_putI fl_10_225 rfl (by decide +kernel)) (.cons (ok_iconst (n := 0) (by decide +kernel) (by decide)) (.cons (ok_istore (by decide +kernel)) .nil))
theorem B_X10_walk_32 : Blk m_X10_walk 32 [o_ild 7, o_ild 3] 35 := .cons (ok_iload (by decide +kernel)) (.cons (ok_iload_n (k := 3) rfl (by decide +kernel)) .nil)
theorem B_X10_walk_38 : Blk m_X10_walk 38 [o_ild 6, o_pure (g_push (.int 1103515245)), o_pure (g_ii (fun x y => x * y)), o_pure (g_push (.int 12345)), o_pure (g_ii (fun x y => x + y)), o_ist 6, o_ild 6, o_pure (g_push (.int 16)), o_pure (g_ii (fun x y => (x.toUInt32 >>> (y.toUInt32 &&& Int32.toUInt32 31)).toInt32)), o_ald 0, o_getR 10 0, o_pure (g_push (.int 1)), o_iald, o_dii (fun x y => x - x / y * y), o_ist 8, o_pure (g_push (.int 0)), o_ist 9, o_ald 0, o_ild 5, o_pure (g_push (.int 0))] 70 := .cons (ok_iload (by decide +kernel)) (.cons (ok_ldc (by decide +kernel) co_10_228) (.cons (ok_imul (by decide +kernel)) (.cons (ok_sipush (n := 12345) (by decide +kernel) (by decide)) (.cons (ok_iadd (by decide +kernel)) (.cons (ok_istore (by decide +kernel)) (.cons (ok_iload (by decide +kernel)) (.cons (ok_bipush (n := 16) (by decide +kernel) (by decide)) (.cons (ok_iushr (by decide +kernel)) (.cons (ok_aload_n (k := 0) rfl (by decide +kernel)) (.cons (ok_getR fl_10_11 rfl (by decide +kernel)) (.cons (ok_iconst (n := 1) (by decide +kernel) (by decide)) (.cons (ok_iaload (by decide +kernel)) (.cons (ok_irem (by decide +kernel)) (.cons (ok_istore (by decide +kernel)) (.cons (ok_iconst (n := 0) (by decide +kernel) (by decide)) (.cons (ok_istore (by decide +kernel)) (.cons (ok_aload_n (k := 0) rfl (by decide +kernel)) (.cons (ok_iload (by decide +kernel)) (.cons (ok_iconst (n := 0) (by decide +kernel) (by decide)) .nil)))))))))))))))))))
theorem B_X10_walk_73 : Blk m_X10_walk 73 [o_ist 10] 75 := .cons (ok_istore (by decide +kernel)) .nil
theorem B_X10_walk_75 : Blk m_X10_walk 75 [o_ild 10, o_ild 8] 79 := .cons (ok_iload (by decide +kernel)) (.cons (ok_iload (by decide +kernel)) .nil)
theorem B_X10_walk_82 : Blk m_X10_walk 82 [o_iinc 9 1, o_ild 10, o_ald 0, o_ild 5, o_ild 9] 92 := .cons (ok_iinc (z := 1) (by decide +kernel) (by decide)) (.cons (ok_iload (by decide +kernel)) (.cons (ok_aload_n (k := 0) rfl (by decide +kernel)) (.cons (ok_iload (by decide +kernel)) (.cons (ok_iload (by decide +kernel)) .nil))))
theorem B_X10_walk_95 : Blk m_X10_walk 95 [o_pure (g_ii (fun x y => x + y)), o_ist 10, o_pure g_id] 75 := .cons (ok_iadd (by decide +kernel)) (.cons (ok_istore (by decide +kernel)) (.cons (ok_goto (off := (-23)) (tgt := 75) (by decide +kernel) (by decide)) .nil))
theorem B_X10_walk_101 : Blk m_X10_walk 101 [o_ild 9, o_ist 5, o_ald 0, o_pure (g_dup), o_getI 10 19, o_ald 0, o_getR 10 0, o_pure (g_push (.int 4)), o_ild 5, o_pure (g_ii (fun x y => x + y)), o_iald, o_ild 4] 121 := .cons (ok_iload (by decide +kernel)) (.cons (ok_istore (by decide +kernel)) (.cons (ok_aload_n (k := 0) rfl (by decide +kernel)) (.cons (ok_dup (by decide +kernel)) (.cons (ok_getI fl_10_225 rfl (by decide +kernel)) (.cons (ok_aload_n (k := 0) rfl (by decide +kernel)) (.cons (ok_getR fl_10_11 rfl (by decide +kernel)) (.cons (ok_iconst (n := 4) (by decide +kernel) (by decide)) (.cons (ok_iload (by decide +kernel)) (.cons (ok_iadd (by decide +kernel)) (.cons (ok_iaload (by decide +kernel)) (.cons (ok_iload (by decide +kernel)) .nil)))))))))))
theorem B_X10_walk_124 : Blk m_X10_walk 124 [o_pure (g_push (.int 1)), o_pure g_id] 129 := .cons (ok_iconst (n := 1) (by decide +kernel) (by decide)) (.cons (ok_goto (off := 4) (tgt := 129) (by decide +kernel) (by decide)) .nil)
theorem B_X10_walk_128 : Blk m_X10_walk 128 [o_pure (g_push (.int 0)), o_pure (g_ii (fun x y => x + y)), o_putI 10 19, o_iinc 7 1, o_pure g_id] 32 := .cons (ok_iconst (n := 0) (by decide +kernel) (by decide)) (.cons (ok_iadd (by decide +kernel)) (.cons (ok_putI fl_10_225 rfl (by decide +kernel)) (.cons (ok_iinc (z := 1) (by decide +kernel) (by decide)) (.cons (ok_goto (off := (-104)) (tgt := 32) (by decide +kernel) (by decide)) .nil))))
theorem B_X10_walk_129 : Blk m_X10_walk 129 [o_pure (g_ii (fun x y => x + y)), o_putI 10 19, o_iinc 7 1, o_pure g_id] 32 := .cons (ok_iadd (by decide +kernel)) (.cons (ok_putI fl_10_225 rfl (by decide +kernel)) (.cons (ok_iinc (z := 1) (by decide +kernel) (by decide)) (.cons (ok_goto (off := (-104)) (tgt := 32) (by decide +kernel) (by decide)) .nil)))
theorem B_X10_walk_139 : Blk m_X10_walk 139 [o_ild 5] 141 := .cons (ok_iload (by decide +kernel)) .nil
theorem B_X10_sample_0 : Blk m_X10_sample 0 [o_ald 0, o_ild 1] 2 := .cons (ok_aload_n (k := 0) rfl (by decide +kernel)) (.cons (ok_iload_n (k := 1) rfl (by decide +kernel)) .nil)
theorem B_X10_sample_8 : Blk m_X10_sample 8 [o_pure (g_push (.int (-2)))] 10 := .cons (ok_bipush (n := (-2)) (by decide +kernel) (by decide)) .nil
theorem B_X10_sample_11 : Blk m_X10_sample 11 [o_ild 3, o_pure (g_il (fun x => x.toInt64)), o_pure (g_push (.long 0)), o_pure (g_push (.long 1000))] 17 := .cons (ok_iload_n (k := 3) rfl (by decide +kernel)) (.cons (ok_i2l (by decide +kernel)) (.cons (ok_lconst (n := 0) (by decide +kernel) (by decide)) (.cons (ok_ldc2 (by decide +kernel) co_10_229) .nil)))
theorem B_X10_sample_23 : Blk m_X10_sample 23 [o_ald 0, o_ild 1, o_ild 2, o_ild 3, o_pure (g_push (.int 0))] 28 := .cons (ok_aload_n (k := 0) rfl (by decide +kernel)) (.cons (ok_iload_n (k := 1) rfl (by decide +kernel)) (.cons (ok_iload_n (k := 2) rfl (by decide +kernel)) (.cons (ok_iload_n (k := 3) rfl (by decide +kernel)) (.cons (ok_iconst (n := 0) (by decide +kernel) (by decide)) .nil))))
theorem B_X10_sample_31 : Blk m_X10_sample 31 [o_pure g_id] 35 := .cons (ok_goto (off := 4) (tgt := 35) (by decide +kernel) (by decide)) .nil
theorem B_X10_sample_34 : Blk m_X10_sample 34 [o_pure (g_push (.int (-1)))] 35 := .cons (ok_iconst (n := (-1)) (by decide +kernel) (by decide)) .nil
theorem B_X10_sampledVisits_0 : Blk m_X10_sampledVisits 0 [o_ald 0, o_ild 1] 2 := .cons (ok_aload_n (k := 0) rfl (by decide +kernel)) (.cons (ok_iload_n (k := 1) rfl (by decide +kernel)) .nil)
theorem B_X10_sampledVisits_8 : Blk m_X10_sampledVisits 8 [o_pure (g_push (.int (-2)))] 10 := .cons (ok_bipush (n := (-2)) (by decide +kernel) (by decide)) .nil
theorem B_X10_sampledVisits_11 : Blk m_X10_sampledVisits 11 [o_ild 3, o_pure (g_il (fun x => x.toInt64)), o_pure (g_push (.long 0)), o_pure (g_push (.long 1000))] 17 := .cons (ok_iload_n (k := 3) rfl (by decide +kernel)) (.cons (ok_i2l (by decide +kernel)) (.cons (ok_lconst (n := 0) (by decide +kernel) (by decide)) (.cons (ok_ldc2 (by decide +kernel) co_10_229) .nil)))
theorem B_X10_sampledVisits_23 : Blk m_X10_sampledVisits 23 [o_ild 4, o_pure (g_il (fun x => x.toInt64)), o_pure (g_push (.long 0)), o_pure (g_push (.long 3))] 30 := .cons (ok_iload (by decide +kernel)) (.cons (ok_i2l (by decide +kernel)) (.cons (ok_lconst (n := 0) (by decide +kernel) (by decide)) (.cons (ok_ldc2 (by decide +kernel) co_10_107) .nil)))
theorem B_X10_sampledVisits_36 : Blk m_X10_sampledVisits 36 [o_pure (g_push (.int (-1)))] 37 := .cons (ok_iconst (n := (-1)) (by decide +kernel) (by decide)) .nil
theorem B_X10_sampledVisits_38 : Blk m_X10_sampledVisits 38 [o_ald 0, o_ild 1, o_ild 2, o_ild 3, o_ild 4] 44 := .cons (ok_aload_n (k := 0) rfl (by decide +kernel)) (.cons (ok_iload_n (k := 1) rfl (by decide +kernel)) (.cons (ok_iload_n (k := 2) rfl (by decide +kernel)) (.cons (ok_iload_n (k := 3) rfl (by decide +kernel)) (.cons (ok_iload (by decide +kernel)) .nil))))
theorem B_X10_sampledVisits_47 : Blk m_X10_sampledVisits 47 [o_ist 5, o_ald 0, o_getI 10 19] 53 := .cons (ok_istore (by decide +kernel)) (.cons (ok_aload_n (k := 0) rfl (by decide +kernel)) (.cons (ok_getI fl_10_225 rfl (by decide +kernel)) .nil))
theorem B_X10_append_0 : Blk m_X10_append 0 [o_ild 2, o_pure (g_il (fun x => x.toInt64)), o_pure (g_push (.long 1)), o_pure (g_push (.long 4))] 6 := .cons (ok_iload_n (k := 2) rfl (by decide +kernel)) (.cons (ok_i2l (by decide +kernel)) (.cons (ok_lconst (n := 1) (by decide +kernel) (by decide)) (.cons (ok_ldc2 (by decide +kernel) co_10_120) .nil)))
theorem B_X10_append_12 : Blk m_X10_append 12 [o_pure (g_push (.int (-1)))] 13 := .cons (ok_iconst (n := (-1)) (by decide +kernel) (by decide)) .nil
theorem B_X10_append_14 : Blk m_X10_append 14 [o_pure (g_push (.int 0)), o_ist 3] 16 := .cons (ok_iconst (n := 0) (by decide +kernel) (by decide)) (.cons (ok_istore_n (k := 3) rfl (by decide +kernel)) .nil)
theorem B_X10_append_16 : Blk m_X10_append 16 [o_ild 3, o_ild 2] 18 := .cons (ok_iload_n (k := 3) rfl (by decide +kernel)) (.cons (ok_iload_n (k := 2) rfl (by decide +kernel)) .nil)
theorem B_X10_append_21 : Blk m_X10_append 21 [o_ild 1, o_pure (g_push (.int 8)), o_ild 3, o_pure (g_ii (fun x y => x * y)), o_pure (g_ii (fun x y => x >>> (y &&& 31))), o_pure (g_push (.int 255)), o_pure (g_ii (fun x y => x &&& y)), o_pure (g_push (.int 127))] 33 := .cons (ok_iload_n (k := 1) rfl (by decide +kernel)) (.cons (ok_bipush (n := 8) (by decide +kernel) (by decide)) (.cons (ok_iload_n (k := 3) rfl (by decide +kernel)) (.cons (ok_imul (by decide +kernel)) (.cons (ok_ishr (by decide +kernel)) (.cons (ok_sipush (n := 255) (by decide +kernel) (by decide)) (.cons (ok_iand (by decide +kernel)) (.cons (ok_bipush (n := 127) (by decide +kernel) (by decide)) .nil)))))))
theorem B_X10_append_36 : Blk m_X10_append 36 [o_pure (g_push (.int (-1)))] 37 := .cons (ok_iconst (n := (-1)) (by decide +kernel) (by decide)) .nil
theorem B_X10_append_38 : Blk m_X10_append 38 [o_iinc 3 1, o_pure g_id] 16 := .cons (ok_iinc (z := 1) (by decide +kernel) (by decide)) (.cons (ok_goto (off := (-25)) (tgt := 16) (by decide +kernel) (by decide)) .nil)
theorem B_X10_append_44 : Blk m_X10_append 44 [o_ald 0, o_getI 10 18, o_ild 2, o_pure (g_ii (fun x y => x + y)), o_pure (g_push (.int 80))] 52 := .cons (ok_aload_n (k := 0) rfl (by decide +kernel)) (.cons (ok_getI fl_10_216 rfl (by decide +kernel)) (.cons (ok_iload_n (k := 2) rfl (by decide +kernel)) (.cons (ok_iadd (by decide +kernel)) (.cons (ok_bipush (n := 80) (by decide +kernel) (by decide)) .nil))))
theorem B_X10_append_55 : Blk m_X10_append 55 [o_pure (g_push (.int (-6)))] 57 := .cons (ok_bipush (n := (-6)) (by decide +kernel) (by decide)) .nil
theorem B_X10_append_58 : Blk m_X10_append 58 [o_ild 2, o_pure (g_push (.int 1)), o_pure (g_ii (fun x y => x - y)), o_ist 3] 62 := .cons (ok_iload_n (k := 2) rfl (by decide +kernel)) (.cons (ok_iconst (n := 1) (by decide +kernel) (by decide)) (.cons (ok_isub (by decide +kernel)) (.cons (ok_istore_n (k := 3) rfl (by decide +kernel)) .nil)))
theorem B_X10_append_62 : Blk m_X10_append 62 [o_ild 3] 63 := .cons (ok_iload_n (k := 3) rfl (by decide +kernel)) .nil
theorem B_X10_append_66 : Blk m_X10_append 66 [o_ald 0, o_getR 10 17, o_ald 0, o_getI 10 18, o_ild 1, o_pure (g_push (.int 8)), o_ild 3, o_pure (g_ii (fun x y => x * y)), o_pure (g_ii (fun x y => x >>> (y &&& 31))), o_pure (g_push (.int 255)), o_pure (g_ii (fun x y => x &&& y)), o_iast, o_ald 0, o_pure (g_dup), o_getI 10 18, o_pure (g_push (.int 1)), o_pure (g_ii (fun x y => x + y)), o_putI 10 18, o_iinc 3 (-1), o_pure g_id] 62 := .cons (ok_aload_n (k := 0) rfl (by decide +kernel)) (.cons (ok_getR fl_10_56 rfl (by decide +kernel)) (.cons (ok_aload_n (k := 0) rfl (by decide +kernel)) (.cons (ok_getI fl_10_216 rfl (by decide +kernel)) (.cons (ok_iload_n (k := 1) rfl (by decide +kernel)) (.cons (ok_bipush (n := 8) (by decide +kernel) (by decide)) (.cons (ok_iload_n (k := 3) rfl (by decide +kernel)) (.cons (ok_imul (by decide +kernel)) (.cons (ok_ishr (by decide +kernel)) (.cons (ok_sipush (n := 255) (by decide +kernel) (by decide)) (.cons (ok_iand (by decide +kernel)) (.cons (ok_iastore (by decide +kernel)) (.cons (ok_aload_n (k := 0) rfl (by decide +kernel)) (.cons (ok_dup (by decide +kernel)) (.cons (ok_getI fl_10_216 rfl (by decide +kernel)) (.cons (ok_iconst (n := 1) (by decide +kernel) (by decide)) (.cons (ok_iadd (by decide +kernel)) (.cons (ok_putI fl_10_216 rfl (by decide +kernel)) (.cons (ok_iinc (z := (-1)) (by decide +kernel) (by decide)) (.cons (ok_goto (off := (-36)) (tgt := 62) (by decide +kernel) (by decide)) .nil)))))))))))))))))))
theorem B_X10_append_101 : Blk m_X10_append 101 [o_ald 0, o_getI 10 18] 105 := .cons (ok_aload_n (k := 0) rfl (by decide +kernel)) (.cons (ok_getI fl_10_216 rfl (by decide +kernel)) .nil)
theorem B_X10_clearInput_0 : Blk m_X10_clearInput 0 [o_ald 0, o_getI 10 18, o_ist 1, o_ald 0, o_pure (g_push (.int 0)), o_putI 10 18, o_ild 1] 11 := .cons (ok_aload_n (k := 0) rfl (by decide +kernel)) (.cons (ok_getI fl_10_216 rfl (by decide +kernel)) (.cons (ok_istore_n (k := 1) rfl (by decide +kernel)) (.cons (ok_aload_n (k := 0) rfl (by decide +kernel)) (.cons (ok_iconst (n := 0) (by decide +kernel) (by decide)) (.cons (ok_putI fl_10_216 rfl (by decide +kernel)) (.cons (ok_iload_n (k := 1) rfl (by decide +kernel)) .nil))))))
theorem B_X10_isNext_0 : Blk m_X10_isNext 0 [o_ald 0, o_getI 10 20, o_ald 0, o_getI 10 18] 8 := .cons (ok_aload_n (k := 0) rfl (by decide +kernel)) (.cons (ok_getI fl_10_235 rfl (by decide +kernel)) (.cons (ok_aload_n (k := 0) rfl (by decide +kernel)) (.cons (ok_getI fl_10_216 rfl (by decide +kernel)) .nil)))
theorem B_X10_isNext_11 : Blk m_X10_isNext 11 [o_ald 0, o_getR 10 17, o_ald 0, o_getI 10 20, o_iald, o_pure (g_il (fun x => x.toInt64)), o_ild 1, o_pure (g_il (fun x => x.toInt64)), o_ild 2, o_pure (g_il (fun x => x.toInt64))] 25 := .cons (ok_aload_n (k := 0) rfl (by decide +kernel)) (.cons (ok_getR fl_10_56 rfl (by decide +kernel)) (.cons (ok_aload_n (k := 0) rfl (by decide +kernel)) (.cons (ok_getI fl_10_235 rfl (by decide +kernel)) (.cons (ok_iaload (by decide +kernel)) (.cons (ok_i2l (by decide +kernel)) (.cons (ok_iload_n (k := 1) rfl (by decide +kernel)) (.cons (ok_i2l (by decide +kernel)) (.cons (ok_iload_n (k := 2) rfl (by decide +kernel)) (.cons (ok_i2l (by decide +kernel)) .nil)))))))))
theorem B_X10_isNext_31 : Blk m_X10_isNext 31 [o_pure (g_push (.int 1)), o_pure g_id] 36 := .cons (ok_iconst (n := 1) (by decide +kernel) (by decide)) (.cons (ok_goto (off := 4) (tgt := 36) (by decide +kernel) (by decide)) .nil)
theorem B_X10_isNext_35 : Blk m_X10_isNext 35 [o_pure (g_push (.int 0))] 36 := .cons (ok_iconst (n := 0) (by decide +kernel) (by decide)) .nil
theorem B_X10_accept_0 : Blk m_X10_accept 0 [o_ald 0, o_getI 10 21] 4 := .cons (ok_aload_n (k := 0) rfl (by decide +kernel)) (.cons (ok_getI fl_10_238 rfl (by decide +kernel)) .nil)
theorem B_X10_accept_7 : Blk m_X10_accept 7 [o_ald 0, o_ild 1, o_ild 1] 10 := .cons (ok_aload_n (k := 0) rfl (by decide +kernel)) (.cons (ok_iload_n (k := 1) rfl (by decide +kernel)) (.cons (ok_iload_n (k := 1) rfl (by decide +kernel)) .nil))
theorem B_X10_accept_16 : Blk m_X10_accept 16 [o_pure (g_push (.int 0))] 17 := .cons (ok_iconst (n := 0) (by decide +kernel) (by decide)) .nil
theorem B_X10_accept_18 : Blk m_X10_accept 18 [o_ald 0, o_pure (g_dup), o_getI 10 20, o_pure (g_push (.int 1)), o_pure (g_ii (fun x y => x + y)), o_putI 10 20, o_pure (g_push (.int 1))] 29 := .cons (ok_aload_n (k := 0) rfl (by decide +kernel)) (.cons (ok_dup (by decide +kernel)) (.cons (ok_getI fl_10_235 rfl (by decide +kernel)) (.cons (ok_iconst (n := 1) (by decide +kernel) (by decide)) (.cons (ok_iadd (by decide +kernel)) (.cons (ok_putI fl_10_235 rfl (by decide +kernel)) (.cons (ok_iconst (n := 1) (by decide +kernel) (by decide)) .nil))))))
theorem B_X10_expect_0 : Blk m_X10_expect 0 [o_ald 0, o_ald 0, o_ild 1] 3 := .cons (ok_aload_n (k := 0) rfl (by decide +kernel)) (.cons (ok_aload_n (k := 0) rfl (by decide +kernel)) (.cons (ok_iload_n (k := 1) rfl (by decide +kernel)) .nil))
theorem B_X10_expect_9 : Blk m_X10_expect 9 [o_pure (g_push (.int 1)), o_pure g_id] 14 := .cons (ok_iconst (n := 1) (by decide +kernel) (by decide)) (.cons (ok_goto (off := 4) (tgt := 14) (by decide +kernel) (by decide)) .nil)
theorem B_X10_expect_13 : Blk m_X10_expect 13 [o_pure (g_push (.int 0)), o_putZ 10 21] 17 := .cons (ok_iconst (n := 0) (by decide +kernel) (by decide)) (.cons (ok_putZ fl_10_238 rfl (by decide +kernel)) .nil)
theorem B_X10_expect_14 : Blk m_X10_expect 14 [o_putZ 10 21] 17 := .cons (ok_putZ fl_10_238 rfl (by decide +kernel)) .nil
theorem B_X10_number__0 : Blk m_X10_number_ 0 [o_ald 0, o_getI 10 21] 4 := .cons (ok_aload_n (k := 0) rfl (by decide +kernel)) (.cons (ok_getI fl_10_238 rfl (by decide +kernel)) .nil)
theorem B_X10_number__7 : Blk m_X10_number_ 7 [o_ald 0, o_pure (g_push (.int 48)), o_pure (g_push (.int 57))] 12 := .cons (ok_aload_n (k := 0) rfl (by decide +kernel)) (.cons (ok_bipush (n := 48) (by decide +kernel) (by decide)) (.cons (ok_bipush (n := 57) (by decide +kernel) (by decide)) .nil))
theorem B_X10_number__18 : Blk m_X10_number_ 18 [o_ald 0, o_pure (g_push (.int 1)), o_putZ 10 21, o_pure (g_push (.int 0))] 24 := .cons (ok_aload_n (k := 0) rfl (by decide +kernel)) (.cons (ok_iconst (n := 1) (by decide +kernel) (by decide)) (.cons (ok_putZ fl_10_238 rfl (by decide +kernel)) (.cons (ok_iconst (n := 0) (by decide +kernel) (by decide)) .nil)))
theorem B_X10_number__25 : Blk m_X10_number_ 25 [o_pure (g_push (.int 0)), o_ist 2, o_pure (g_push (.int 0)), o_ist 3] 29 := .cons (ok_iconst (n := 0) (by decide +kernel) (by decide)) (.cons (ok_istore_n (k := 2) rfl (by decide +kernel)) (.cons (ok_iconst (n := 0) (by decide +kernel) (by decide)) (.cons (ok_istore_n (k := 3) rfl (by decide +kernel)) .nil)))
theorem B_X10_number__29 : Blk m_X10_number_ 29 [o_ild 3, o_ild 1] 31 := .cons (ok_iload_n (k := 3) rfl (by decide +kernel)) (.cons (ok_iload_n (k := 1) rfl (by decide +kernel)) .nil)
theorem B_X10_number__34 : Blk m_X10_number_ 34 [o_ald 0, o_pure (g_push (.int 48)), o_pure (g_push (.int 57))] 39 := .cons (ok_aload_n (k := 0) rfl (by decide +kernel)) (.cons (ok_bipush (n := 48) (by decide +kernel) (by decide)) (.cons (ok_bipush (n := 57) (by decide +kernel) (by decide)) .nil))
theorem B_X10_number__45 : Blk m_X10_number_ 45 [o_pure (g_push (.int 10)), o_ild 2, o_pure (g_ii (fun x y => x * y)), o_ald 0, o_getR 10 17, o_ald 0, o_getI 10 20, o_iald, o_pure (g_ii (fun x y => x + y)), o_pure (g_push (.int 48)), o_pure (g_ii (fun x y => x - y)), o_ist 2, o_ald 0, o_pure (g_dup), o_getI 10 20, o_pure (g_push (.int 1)), o_pure (g_ii (fun x y => x + y)), o_putI 10 20, o_iinc 3 1, o_pure g_id] 29 := .cons (ok_bipush (n := 10) (by decide +kernel) (by decide)) (.cons (ok_iload_n (k := 2) rfl (by decide +kernel)) (.cons (ok_imul (by decide +kernel)) (.cons (ok_aload_n (k := 0) rfl (by decide +kernel)) (.cons (ok_getR fl_10_56 rfl (by decide +kernel)) (.cons (ok_aload_n (k := 0) rfl (by decide +kernel)) (.cons (ok_getI fl_10_235 rfl (by decide +kernel)) (.cons (ok_iaload (by decide +kernel)) (.cons (ok_iadd (by decide +kernel)) (.cons (ok_bipush (n := 48) (by decide +kernel) (by decide)) (.cons (ok_isub (by decide +kernel)) (.cons (ok_istore_n (k := 2) rfl (by decide +kernel)) (.cons (ok_aload_n (k := 0) rfl (by decide +kernel)) (.cons (ok_dup (by decide +kernel)) (.cons (ok_getI fl_10_235 rfl (by decide +kernel)) (.cons (ok_iconst (n := 1) (by decide +kernel) (by decide)) (.cons (ok_iadd (by decide +kernel)) (.cons (ok_putI fl_10_235 rfl (by decide +kernel)) (.cons (ok_iinc (z := 1) (by decide +kernel) (by decide)) (.cons (ok_goto (off := (-47)) (tgt := 29) (by decide +kernel) (by decide)) .nil)))))))))))))))))))
theorem B_X10_number__79 : Blk m_X10_number_ 79 [o_ild 2] 80 := .cons (ok_iload_n (k := 2) rfl (by decide +kernel)) .nil
theorem B_X10_parseState_0 : Blk m_X10_parseState 0 [o_ald 0, o_getI 10 23, o_ist 1, o_ald 0, o_getR 10 24, o_ild 1, o_ald 0, o_pure (g_push (.int 1))] 12 := .cons (ok_aload_n (k := 0) rfl (by decide +kernel)) (.cons (ok_getI fl_10_248 rfl (by decide +kernel)) (.cons (ok_istore_n (k := 1) rfl (by decide +kernel)) (.cons (ok_aload_n (k := 0) rfl (by decide +kernel)) (.cons (ok_getR fl_10_59 rfl (by decide +kernel)) (.cons (ok_iload_n (k := 1) rfl (by decide +kernel)) (.cons (ok_aload_n (k := 0) rfl (by decide +kernel)) (.cons (ok_iconst (n := 1) (by decide +kernel) (by decide)) .nil)))))))
theorem B_X10_parseState_15 : Blk m_X10_parseState 15 [o_iast, o_pure (g_push (.int 0)), o_ist 2] 18 := .cons (ok_iastore (by decide +kernel)) (.cons (ok_iconst (n := 0) (by decide +kernel) (by decide)) (.cons (ok_istore_n (k := 2) rfl (by decide +kernel)) .nil))
theorem B_X10_parseState_18 : Blk m_X10_parseState 18 [o_ild 2, o_pure (g_push (.int 10))] 21 := .cons (ok_iload_n (k := 2) rfl (by decide +kernel)) (.cons (ok_bipush (n := 10) (by decide +kernel) (by decide)) .nil)
theorem B_X10_parseState_24 : Blk m_X10_parseState 24 [o_ald 0, o_getR 10 25, o_pure (g_push (.int 10)), o_ild 1, o_pure (g_ii (fun x y => x * y)), o_ild 2, o_pure (g_ii (fun x y => x + y)), o_pure (g_push (.int 0)), o_iast, o_iinc 2 1, o_pure g_id] 18 := .cons (ok_aload_n (k := 0) rfl (by decide +kernel)) (.cons (ok_getR fl_10_62 rfl (by decide +kernel)) (.cons (ok_bipush (n := 10) (by decide +kernel) (by decide)) (.cons (ok_iload_n (k := 1) rfl (by decide +kernel)) (.cons (ok_imul (by decide +kernel)) (.cons (ok_iload_n (k := 2) rfl (by decide +kernel)) (.cons (ok_iadd (by decide +kernel)) (.cons (ok_iconst (n := 0) (by decide +kernel) (by decide)) (.cons (ok_iastore (by decide +kernel)) (.cons (ok_iinc (z := 1) (by decide +kernel) (by decide)) (.cons (ok_goto (off := (-21)) (tgt := 18) (by decide +kernel) (by decide)) .nil))))))))))
theorem B_X10_parseState_42 : Blk m_X10_parseState 42 [o_pure (g_push (.int 1)), o_ist 2] 44 := .cons (ok_iconst (n := 1) (by decide +kernel) (by decide)) (.cons (ok_istore_n (k := 2) rfl (by decide +kernel)) .nil)
theorem B_X10_parseState_44 : Blk m_X10_parseState 44 [o_ald 0, o_getI 10 21] 48 := .cons (ok_aload_n (k := 0) rfl (by decide +kernel)) (.cons (ok_getI fl_10_238 rfl (by decide +kernel)) .nil)
theorem B_X10_parseState_51 : Blk m_X10_parseState 51 [o_ild 2] 52 := .cons (ok_iload_n (k := 2) rfl (by decide +kernel)) .nil
theorem B_X10_parseState_55 : Blk m_X10_parseState 55 [o_ald 0, o_pure (g_push (.int 44)), o_pure (g_push (.int 44))] 60 := .cons (ok_aload_n (k := 0) rfl (by decide +kernel)) (.cons (ok_bipush (n := 44) (by decide +kernel) (by decide)) (.cons (ok_bipush (n := 44) (by decide +kernel) (by decide)) .nil))
theorem B_X10_parseState_66 : Blk m_X10_parseState 66 [o_pure (g_push (.int 0)), o_ist 2, o_ald 0, o_pure (g_push (.int 44))] 71 := .cons (ok_iconst (n := 0) (by decide +kernel) (by decide)) (.cons (ok_istore_n (k := 2) rfl (by decide +kernel)) (.cons (ok_aload_n (k := 0) rfl (by decide +kernel)) (.cons (ok_bipush (n := 44) (by decide +kernel) (by decide)) .nil)))
theorem B_X10_parseState_74 : Blk m_X10_parseState 74 [o_ald 0, o_pure (g_push (.int 2))] 76 := .cons (ok_aload_n (k := 0) rfl (by decide +kernel)) (.cons (ok_iconst (n := 2) (by decide +kernel) (by decide)) .nil)
theorem B_X10_parseState_79 : Blk m_X10_parseState 79 [o_ist 3, o_ald 0, o_getI 10 21] 84 := .cons (ok_istore_n (k := 3) rfl (by decide +kernel)) (.cons (ok_aload_n (k := 0) rfl (by decide +kernel)) (.cons (ok_getI fl_10_238 rfl (by decide +kernel)) .nil))
theorem B_X10_parseState_87 : Blk m_X10_parseState 87 [o_ald 0, o_pure (g_push (.int 62))] 90 := .cons (ok_aload_n (k := 0) rfl (by decide +kernel)) (.cons (ok_bipush (n := 62) (by decide +kernel) (by decide)) .nil)
theorem B_X10_parseState_93 : Blk m_X10_parseState 93 [o_ald 0, o_pure (g_push (.int 1))] 95 := .cons (ok_aload_n (k := 0) rfl (by decide +kernel)) (.cons (ok_iconst (n := 1) (by decide +kernel) (by decide)) .nil)
theorem B_X10_parseState_98 : Blk m_X10_parseState 98 [o_ist 4, o_ald 0, o_getR 10 25, o_pure (g_push (.int 10)), o_ild 1, o_pure (g_ii (fun x y => x * y)), o_ild 4, o_pure (g_ii (fun x y => x + y)), o_pure (g_dup2), o_iald, o_ild 3, o_pure (g_ii (fun x y => x + y)), o_iast, o_pure g_id] 44 := .cons (ok_istore (by decide +kernel)) (.cons (ok_aload_n (k := 0) rfl (by decide +kernel)) (.cons (ok_getR fl_10_62 rfl (by decide +kernel)) (.cons (ok_bipush (n := 10) (by decide +kernel) (by decide)) (.cons (ok_iload_n (k := 1) rfl (by decide +kernel)) (.cons (ok_imul (by decide +kernel)) (.cons (ok_iload (by decide +kernel)) (.cons (ok_iadd (by decide +kernel)) (.cons (ok_dup2 (by decide +kernel)) (.cons (ok_iaload (by decide +kernel)) (.cons (ok_iload_n (k := 3) rfl (by decide +kernel)) (.cons (ok_iadd (by decide +kernel)) (.cons (ok_iastore (by decide +kernel)) (.cons (ok_goto (off := (-72)) (tgt := 44) (by decide +kernel) (by decide)) .nil)))))))))))))
theorem B_X10_parseState_119 : Blk m_X10_parseState 119 [o_ald 0, o_pure (g_dup), o_getI 10 23, o_pure (g_push (.int 1)), o_pure (g_ii (fun x y => x + y)), o_putI 10 23] 129 := .cons (ok_aload_n (k := 0) rfl (by decide +kernel)) (.cons (ok_dup (by decide +kernel)) (.cons (ok_getI fl_10_248 rfl (by decide +kernel)) (.cons (ok_iconst (n := 1) (by decide +kernel) (by decide)) (.cons (ok_iadd (by decide +kernel)) (.cons (ok_putI fl_10_248 rfl (by decide +kernel)) .nil)))))
theorem B_X10_parseChain_0 : Blk m_X10_parseChain 0 [o_ald 0, o_pure (g_push (.int 0)), o_putI 10 20, o_ald 0, o_pure (g_push (.int 0)), o_putZ 10 21, o_ald 0, o_pure (g_push (.int 0)), o_putI 10 23, o_ald 0, o_ald 0, o_pure (g_push (.int 2))] 18 := .cons (ok_aload_n (k := 0) rfl (by decide +kernel)) (.cons (ok_iconst (n := 0) (by decide +kernel) (by decide)) (.cons (ok_putI fl_10_235 rfl (by decide +kernel)) (.cons (ok_aload_n (k := 0) rfl (by decide +kernel)) (.cons (ok_iconst (n := 0) (by decide +kernel) (by decide)) (.cons (ok_putZ fl_10_238 rfl (by decide +kernel)) (.cons (ok_aload_n (k := 0) rfl (by decide +kernel)) (.cons (ok_iconst (n := 0) (by decide +kernel) (by decide)) (.cons (ok_putI fl_10_248 rfl (by decide +kernel)) (.cons (ok_aload_n (k := 0) rfl (by decide +kernel)) (.cons (ok_aload_n (k := 0) rfl (by decide +kernel)) (.cons (ok_iconst (n := 2) (by decide +kernel) (by decide)) .nil)))))))))))
theorem B_X10_parseChain_21 : Blk m_X10_parseChain 21 [o_putI 10 22, o_ald 0, o_getI 10 21] 28 := .cons (ok_putI fl_10_257 rfl (by decide +kernel)) (.cons (ok_aload_n (k := 0) rfl (by decide +kernel)) (.cons (ok_getI fl_10_238 rfl (by decide +kernel)) .nil))
theorem B_X10_parseChain_31 : Blk m_X10_parseChain 31 [o_ald 0, o_pure (g_push (.int 58))] 34 := .cons (ok_aload_n (k := 0) rfl (by decide +kernel)) (.cons (ok_bipush (n := 58) (by decide +kernel) (by decide)) .nil)
theorem B_X10_parseChain_37 : Blk m_X10_parseChain 37 [o_ald 0, o_getI 10 21] 41 := .cons (ok_aload_n (k := 0) rfl (by decide +kernel)) (.cons (ok_getI fl_10_238 rfl (by decide +kernel)) .nil)
theorem B_X10_parseChain_44 : Blk m_X10_parseChain 44 [o_pure (g_push (.int 1)), o_pure g_id] 49 := .cons (ok_iconst (n := 1) (by decide +kernel) (by decide)) (.cons (ok_goto (off := 4) (tgt := 49) (by decide +kernel) (by decide)) .nil)
theorem B_X10_parseChain_48 : Blk m_X10_parseChain 48 [o_pure (g_push (.int 0)), o_ist 1] 50 := .cons (ok_iconst (n := 0) (by decide +kernel) (by decide)) (.cons (ok_istore_n (k := 1) rfl (by decide +kernel)) .nil)
theorem B_X10_parseChain_49 : Blk m_X10_parseChain 49 [o_ist 1] 50 := .cons (ok_istore_n (k := 1) rfl (by decide +kernel)) .nil
theorem B_X10_parseChain_50 : Blk m_X10_parseChain 50 [o_ild 1] 51 := .cons (ok_iload_n (k := 1) rfl (by decide +kernel)) .nil
theorem B_X10_parseChain_54 : Blk m_X10_parseChain 54 [o_ald 0] 55 := .cons (ok_aload_n (k := 0) rfl (by decide +kernel)) .nil
theorem B_X10_parseChain_58 : Blk m_X10_parseChain 58 [o_ald 0, o_getI 10 21] 62 := .cons (ok_aload_n (k := 0) rfl (by decide +kernel)) (.cons (ok_getI fl_10_238 rfl (by decide +kernel)) .nil)
theorem B_X10_parseChain_65 : Blk m_X10_parseChain 65 [o_ald 0, o_getI 10 23, o_pure (g_push (.int 6))] 71 := .cons (ok_aload_n (k := 0) rfl (by decide +kernel)) (.cons (ok_getI fl_10_248 rfl (by decide +kernel)) (.cons (ok_bipush (n := 6) (by decide +kernel) (by decide)) .nil))
theorem B_X10_parseChain_74 : Blk m_X10_parseChain 74 [o_ald 0, o_pure (g_push (.int 59))] 77 := .cons (ok_aload_n (k := 0) rfl (by decide +kernel)) (.cons (ok_bipush (n := 59) (by decide +kernel) (by decide)) .nil)
theorem B_X10_parseChain_83 : Blk m_X10_parseChain 83 [o_pure (g_push (.int 1)), o_pure g_id] 88 := .cons (ok_iconst (n := 1) (by decide +kernel) (by decide)) (.cons (ok_goto (off := 4) (tgt := 88) (by decide +kernel) (by decide)) .nil)
theorem B_X10_parseChain_87 : Blk m_X10_parseChain 87 [o_pure (g_push (.int 0)), o_ist 1, o_pure g_id] 50 := .cons (ok_iconst (n := 0) (by decide +kernel) (by decide)) (.cons (ok_istore_n (k := 1) rfl (by decide +kernel)) (.cons (ok_goto (off := (-39)) (tgt := 50) (by decide +kernel) (by decide)) .nil))
theorem B_X10_parseChain_88 : Blk m_X10_parseChain 88 [o_ist 1, o_pure g_id] 50 := .cons (ok_istore_n (k := 1) rfl (by decide +kernel)) (.cons (ok_goto (off := (-39)) (tgt := 50) (by decide +kernel) (by decide)) .nil)
theorem B_X10_parseChain_92 : Blk m_X10_parseChain 92 [o_ald 0, o_ald 0, o_getI 10 21] 97 := .cons (ok_aload_n (k := 0) rfl (by decide +kernel)) (.cons (ok_aload_n (k := 0) rfl (by decide +kernel)) (.cons (ok_getI fl_10_238 rfl (by decide +kernel)) .nil))
theorem B_X10_parseChain_100 : Blk m_X10_parseChain 100 [o_ald 0, o_getI 10 20, o_ald 0, o_getI 10 18] 108 := .cons (ok_aload_n (k := 0) rfl (by decide +kernel)) (.cons (ok_getI fl_10_235 rfl (by decide +kernel)) (.cons (ok_aload_n (k := 0) rfl (by decide +kernel)) (.cons (ok_getI fl_10_216 rfl (by decide +kernel)) .nil)))
theorem B_X10_parseChain_111 : Blk m_X10_parseChain 111 [o_pure (g_push (.int 1)), o_pure g_id] 116 := .cons (ok_iconst (n := 1) (by decide +kernel) (by decide)) (.cons (ok_goto (off := 4) (tgt := 116) (by decide +kernel) (by decide)) .nil)
theorem B_X10_parseChain_115 : Blk m_X10_parseChain 115 [o_pure (g_push (.int 0)), o_putZ 10 21] 119 := .cons (ok_iconst (n := 0) (by decide +kernel) (by decide)) (.cons (ok_putZ fl_10_238 rfl (by decide +kernel)) .nil)
theorem B_X10_parseChain_116 : Blk m_X10_parseChain 116 [o_putZ 10 21] 119 := .cons (ok_putZ fl_10_238 rfl (by decide +kernel)) .nil
theorem B_X10_isConsistent_0 : Blk m_X10_isConsistent 0 [o_ald 0, o_getI 10 22, o_pure (g_il (fun x => x.toInt64)), o_pure (g_push (.long 1)), o_pure (g_push (.long 12))] 9 := .cons (ok_aload_n (k := 0) rfl (by decide +kernel)) (.cons (ok_getI fl_10_257 rfl (by decide +kernel)) (.cons (ok_i2l (by decide +kernel)) (.cons (ok_lconst (n := 1) (by decide +kernel) (by decide)) (.cons (ok_ldc2 (by decide +kernel) co_10_95) .nil))))
theorem B_X10_isConsistent_12 : Blk m_X10_isConsistent 12 [o_ist 1, o_pure (g_push (.int 0)), o_ist 2] 15 := .cons (ok_istore_n (k := 1) rfl (by decide +kernel)) (.cons (ok_iconst (n := 0) (by decide +kernel) (by decide)) (.cons (ok_istore_n (k := 2) rfl (by decide +kernel)) .nil))
theorem B_X10_isConsistent_15 : Blk m_X10_isConsistent 15 [o_ild 2, o_ald 0, o_getI 10 23] 20 := .cons (ok_iload_n (k := 2) rfl (by decide +kernel)) (.cons (ok_aload_n (k := 0) rfl (by decide +kernel)) (.cons (ok_getI fl_10_248 rfl (by decide +kernel)) .nil))
theorem B_X10_isConsistent_23 : Blk m_X10_isConsistent 23 [o_pure (g_push (.int 0)), o_ist 3, o_pure (g_push (.int 0)), o_ist 4] 28 := .cons (ok_iconst (n := 0) (by decide +kernel) (by decide)) (.cons (ok_istore_n (k := 3) rfl (by decide +kernel)) (.cons (ok_iconst (n := 0) (by decide +kernel) (by decide)) (.cons (ok_istore (by decide +kernel)) .nil)))
theorem B_X10_isConsistent_28 : Blk m_X10_isConsistent 28 [o_ild 4, o_ald 0, o_getI 10 23] 34 := .cons (ok_iload (by decide +kernel)) (.cons (ok_aload_n (k := 0) rfl (by decide +kernel)) (.cons (ok_getI fl_10_248 rfl (by decide +kernel)) .nil))
theorem B_X10_isConsistent_37 : Blk m_X10_isConsistent 37 [o_ild 3, o_ald 0, o_getR 10 25, o_pure (g_push (.int 10)), o_ild 2, o_pure (g_ii (fun x y => x * y)), o_ild 4, o_pure (g_ii (fun x y => x + y)), o_iald, o_pure (g_ii (fun x y => x + y)), o_ist 3, o_iinc 4 1, o_pure g_id] 28 := .cons (ok_iload_n (k := 3) rfl (by decide +kernel)) (.cons (ok_aload_n (k := 0) rfl (by decide +kernel)) (.cons (ok_getR fl_10_62 rfl (by decide +kernel)) (.cons (ok_bipush (n := 10) (by decide +kernel) (by decide)) (.cons (ok_iload_n (k := 2) rfl (by decide +kernel)) (.cons (ok_imul (by decide +kernel)) (.cons (ok_iload (by decide +kernel)) (.cons (ok_iadd (by decide +kernel)) (.cons (ok_iaload (by decide +kernel)) (.cons (ok_iadd (by decide +kernel)) (.cons (ok_istore_n (k := 3) rfl (by decide +kernel)) (.cons (ok_iinc (z := 1) (by decide +kernel) (by decide)) (.cons (ok_goto (off := (-27)) (tgt := 28) (by decide +kernel) (by decide)) .nil))))))))))))
theorem B_X10_isConsistent_58 : Blk m_X10_isConsistent 58 [o_ild 1] 59 := .cons (ok_iload_n (k := 1) rfl (by decide +kernel)) .nil
theorem B_X10_isConsistent_62 : Blk m_X10_isConsistent 62 [o_ald 0, o_getR 10 24, o_ild 2, o_iald, o_pure (g_push (.int 3))] 69 := .cons (ok_aload_n (k := 0) rfl (by decide +kernel)) (.cons (ok_getR fl_10_59 rfl (by decide +kernel)) (.cons (ok_iload_n (k := 2) rfl (by decide +kernel)) (.cons (ok_iaload (by decide +kernel)) (.cons (ok_iconst (n := 3) (by decide +kernel) (by decide)) .nil))))
theorem B_X10_isConsistent_72 : Blk m_X10_isConsistent 72 [o_ild 3, o_ald 0, o_getI 10 22] 77 := .cons (ok_iload_n (k := 3) rfl (by decide +kernel)) (.cons (ok_aload_n (k := 0) rfl (by decide +kernel)) (.cons (ok_getI fl_10_257 rfl (by decide +kernel)) .nil))
theorem B_X10_isConsistent_80 : Blk m_X10_isConsistent 80 [o_ald 0, o_ild 2] 82 := .cons (ok_aload_n (k := 0) rfl (by decide +kernel)) (.cons (ok_iload_n (k := 2) rfl (by decide +kernel)) .nil)
theorem B_X10_isConsistent_88 : Blk m_X10_isConsistent 88 [o_pure (g_push (.int 1)), o_pure g_id] 93 := .cons (ok_iconst (n := 1) (by decide +kernel) (by decide)) (.cons (ok_goto (off := 4) (tgt := 93) (by decide +kernel) (by decide)) .nil)
theorem B_X10_isConsistent_92 : Blk m_X10_isConsistent 92 [o_pure (g_push (.int 0)), o_ist 1, o_iinc 2 1, o_pure g_id] 15 := .cons (ok_iconst (n := 0) (by decide +kernel) (by decide)) (.cons (ok_istore_n (k := 1) rfl (by decide +kernel)) (.cons (ok_iinc (z := 1) (by decide +kernel) (by decide)) (.cons (ok_goto (off := (-82)) (tgt := 15) (by decide +kernel) (by decide)) .nil)))
theorem B_X10_isConsistent_93 : Blk m_X10_isConsistent 93 [o_ist 1, o_iinc 2 1, o_pure g_id] 15 := .cons (ok_istore_n (k := 1) rfl (by decide +kernel)) (.cons (ok_iinc (z := 1) (by decide +kernel) (by decide)) (.cons (ok_goto (off := (-82)) (tgt := 15) (by decide +kernel) (by decide)) .nil))
theorem B_X10_isConsistent_100 : Blk m_X10_isConsistent 100 [o_ild 1] 101 := .cons (ok_iload_n (k := 1) rfl (by decide +kernel)) .nil
theorem B_X10_hasWrongSuccessor_0 : Blk m_X10_hasWrongSuccessor 0 [o_ald 0, o_getR 10 26, o_ild 1, o_zald] 6 := .cons (ok_aload_n (k := 0) rfl (by decide +kernel)) (.cons (ok_getR fl_10_65 rfl (by decide +kernel)) (.cons (ok_iload_n (k := 1) rfl (by decide +kernel)) (.cons (ok_baload (by decide +kernel)) .nil)))
theorem B_X10_findWrongSuccessors_0 : Blk m_X10_findWrongSuccessors 0 [o_pure (g_push (.int 0)), o_ist 1, o_pure (g_push (.int 0)), o_ist 2] 4 := .cons (ok_iconst (n := 0) (by decide +kernel) (by decide)) (.cons (ok_istore_n (k := 1) rfl (by decide +kernel)) (.cons (ok_iconst (n := 0) (by decide +kernel) (by decide)) (.cons (ok_istore_n (k := 2) rfl (by decide +kernel)) .nil)))
theorem B_X10_findWrongSuccessors_4 : Blk m_X10_findWrongSuccessors 4 [o_ild 2, o_pure (g_push (.int 6))] 7 := .cons (ok_iload_n (k := 2) rfl (by decide +kernel)) (.cons (ok_bipush (n := 6) (by decide +kernel) (by decide)) .nil)
theorem B_X10_findWrongSuccessors_10 : Blk m_X10_findWrongSuccessors 10 [o_ald 0, o_getR 10 26, o_ild 2, o_pure (g_push (.int 0)), o_zast, o_iinc 2 1, o_pure g_id] 4 := .cons (ok_aload_n (k := 0) rfl (by decide +kernel)) (.cons (ok_getR fl_10_65 rfl (by decide +kernel)) (.cons (ok_iload_n (k := 2) rfl (by decide +kernel)) (.cons (ok_iconst (n := 0) (by decide +kernel) (by decide)) (.cons (ok_bastore (by decide +kernel)) (.cons (ok_iinc (z := 1) (by decide +kernel) (by decide)) (.cons (ok_goto (off := (-16)) (tgt := 4) (by decide +kernel) (by decide)) .nil))))))
theorem B_X10_findWrongSuccessors_23 : Blk m_X10_findWrongSuccessors 23 [o_pure (g_push (.int 0)), o_ist 2] 25 := .cons (ok_iconst (n := 0) (by decide +kernel) (by decide)) (.cons (ok_istore_n (k := 2) rfl (by decide +kernel)) .nil)
theorem B_X10_findWrongSuccessors_25 : Blk m_X10_findWrongSuccessors 25 [o_ild 2, o_ald 0, o_getI 10 18] 30 := .cons (ok_iload_n (k := 2) rfl (by decide +kernel)) (.cons (ok_aload_n (k := 0) rfl (by decide +kernel)) (.cons (ok_getI fl_10_216 rfl (by decide +kernel)) .nil))
theorem B_X10_findWrongSuccessors_33 : Blk m_X10_findWrongSuccessors 33 [o_ild 1, o_ald 0, o_getR 10 17, o_ild 2, o_iald, o_pure (g_push (.int 59))] 42 := .cons (ok_iload_n (k := 1) rfl (by decide +kernel)) (.cons (ok_aload_n (k := 0) rfl (by decide +kernel)) (.cons (ok_getR fl_10_56 rfl (by decide +kernel)) (.cons (ok_iload_n (k := 2) rfl (by decide +kernel)) (.cons (ok_iaload (by decide +kernel)) (.cons (ok_bipush (n := 59) (by decide +kernel) (by decide)) .nil)))))
theorem B_X10_findWrongSuccessors_45 : Blk m_X10_findWrongSuccessors 45 [o_pure (g_push (.int 1)), o_pure g_id] 50 := .cons (ok_iconst (n := 1) (by decide +kernel) (by decide)) (.cons (ok_goto (off := 4) (tgt := 50) (by decide +kernel) (by decide)) .nil)
theorem B_X10_findWrongSuccessors_49 : Blk m_X10_findWrongSuccessors 49 [o_pure (g_push (.int 0)), o_pure (g_ii (fun x y => x + y)), o_ist 1, o_ald 0, o_getR 10 17, o_ild 2, o_iald, o_pure (g_push (.int 62))] 60 := .cons (ok_iconst (n := 0) (by decide +kernel) (by decide)) (.cons (ok_iadd (by decide +kernel)) (.cons (ok_istore_n (k := 1) rfl (by decide +kernel)) (.cons (ok_aload_n (k := 0) rfl (by decide +kernel)) (.cons (ok_getR fl_10_56 rfl (by decide +kernel)) (.cons (ok_iload_n (k := 2) rfl (by decide +kernel)) (.cons (ok_iaload (by decide +kernel)) (.cons (ok_bipush (n := 62) (by decide +kernel) (by decide)) .nil)))))))
theorem B_X10_findWrongSuccessors_50 : Blk m_X10_findWrongSuccessors 50 [o_pure (g_ii (fun x y => x + y)), o_ist 1, o_ald 0, o_getR 10 17, o_ild 2, o_iald, o_pure (g_push (.int 62))] 60 := .cons (ok_iadd (by decide +kernel)) (.cons (ok_istore_n (k := 1) rfl (by decide +kernel)) (.cons (ok_aload_n (k := 0) rfl (by decide +kernel)) (.cons (ok_getR fl_10_56 rfl (by decide +kernel)) (.cons (ok_iload_n (k := 2) rfl (by decide +kernel)) (.cons (ok_iaload (by decide +kernel)) (.cons (ok_bipush (n := 62) (by decide +kernel) (by decide)) .nil))))))
theorem B_X10_findWrongSuccessors_63 : Blk m_X10_findWrongSuccessors 63 [o_ald 0, o_getR 10 26, o_ild 1, o_ald 0, o_getR 10 26, o_ild 1, o_zald] 74 := .cons (ok_aload_n (k := 0) rfl (by decide +kernel)) (.cons (ok_getR fl_10_65 rfl (by decide +kernel)) (.cons (ok_iload_n (k := 1) rfl (by decide +kernel)) (.cons (ok_aload_n (k := 0) rfl (by decide +kernel)) (.cons (ok_getR fl_10_65 rfl (by decide +kernel)) (.cons (ok_iload_n (k := 1) rfl (by decide +kernel)) (.cons (ok_baload (by decide +kernel)) .nil))))))
theorem B_X10_findWrongSuccessors_77 : Blk m_X10_findWrongSuccessors 77 [o_ald 0, o_getR 10 17, o_ild 2, o_pure (g_push (.int 1)), o_pure (g_ii (fun x y => x + y)), o_iald, o_pure (g_push (.int 48)), o_pure (g_ii (fun x y => x - y)), o_ald 0, o_getI 10 23] 92 := .cons (ok_aload_n (k := 0) rfl (by decide +kernel)) (.cons (ok_getR fl_10_56 rfl (by decide +kernel)) (.cons (ok_iload_n (k := 2) rfl (by decide +kernel)) (.cons (ok_iconst (n := 1) (by decide +kernel) (by decide)) (.cons (ok_iadd (by decide +kernel)) (.cons (ok_iaload (by decide +kernel)) (.cons (ok_bipush (n := 48) (by decide +kernel) (by decide)) (.cons (ok_isub (by decide +kernel)) (.cons (ok_aload_n (k := 0) rfl (by decide +kernel)) (.cons (ok_getI fl_10_248 rfl (by decide +kernel)) .nil)))))))))
theorem B_X10_findWrongSuccessors_95 : Blk m_X10_findWrongSuccessors 95 [o_pure (g_push (.int 1)), o_pure g_id] 100 := .cons (ok_iconst (n := 1) (by decide +kernel) (by decide)) (.cons (ok_goto (off := 4) (tgt := 100) (by decide +kernel) (by decide)) .nil)
theorem B_X10_findWrongSuccessors_99 : Blk m_X10_findWrongSuccessors 99 [o_pure (g_push (.int 0)), o_zast, o_iinc 2 1, o_pure g_id] 25 := .cons (ok_iconst (n := 0) (by decide +kernel) (by decide)) (.cons (ok_bastore (by decide +kernel)) (.cons (ok_iinc (z := 1) (by decide +kernel) (by decide)) (.cons (ok_goto (off := (-79)) (tgt := 25) (by decide +kernel) (by decide)) .nil)))
theorem B_X10_findWrongSuccessors_100 : Blk m_X10_findWrongSuccessors 100 [o_zast, o_iinc 2 1, o_pure g_id] 25 := .cons (ok_bastore (by decide +kernel)) (.cons (ok_iinc (z := 1) (by decide +kernel) (by decide)) (.cons (ok_goto (off := (-79)) (tgt := 25) (by decide +kernel) (by decide)) .nil))
theorem B_X10_findWrongSuccessors_101 : Blk m_X10_findWrongSuccessors 101 [o_iinc 2 1, o_pure g_id] 25 := .cons (ok_iinc (z := 1) (by decide +kernel) (by decide)) (.cons (ok_goto (off := (-79)) (tgt := 25) (by decide +kernel) (by decide)) .nil)
theorem B_X10_parse_0 : Blk m_X10_parse 0 [o_ald 0] 1 := .cons (ok_aload_n (k := 0) rfl (by decide +kernel)) .nil
theorem B_X10_parse_4 : Blk m_X10_parse 4 [o_ald 0, o_getI 10 21] 8 := .cons (ok_aload_n (k := 0) rfl (by decide +kernel)) (.cons (ok_getI fl_10_238 rfl (by decide +kernel)) .nil)
theorem B_X10_parse_11 : Blk m_X10_parse 11 [o_ald 0, o_pure (g_push (.int 0)), o_putI 10 18, o_pure (g_push (.int (-1000))), o_ald 0, o_getI 10 20, o_pure (g_ii (fun x y => x - y))] 24 := .cons (ok_aload_n (k := 0) rfl (by decide +kernel)) (.cons (ok_iconst (n := 0) (by decide +kernel) (by decide)) (.cons (ok_putI fl_10_216 rfl (by decide +kernel)) (.cons (ok_sipush (n := (-1000)) (by decide +kernel) (by decide)) (.cons (ok_aload_n (k := 0) rfl (by decide +kernel)) (.cons (ok_getI fl_10_235 rfl (by decide +kernel)) (.cons (ok_isub (by decide +kernel)) .nil))))))
theorem B_X10_parse_25 : Blk m_X10_parse 25 [o_ald 0] 26 := .cons (ok_aload_n (k := 0) rfl (by decide +kernel)) .nil
theorem B_X10_parse_29 : Blk m_X10_parse 29 [o_ald 0, o_pure (g_push (.int 0)), o_putI 10 18, o_ald 0] 35 := .cons (ok_aload_n (k := 0) rfl (by decide +kernel)) (.cons (ok_iconst (n := 0) (by decide +kernel) (by decide)) (.cons (ok_putI fl_10_216 rfl (by decide +kernel)) (.cons (ok_aload_n (k := 0) rfl (by decide +kernel)) .nil)))
theorem B_X10_parse_41 : Blk m_X10_parse 41 [o_pure (g_push (.int (-8)))] 43 := .cons (ok_bipush (n := (-8)) (by decide +kernel) (by decide)) .nil
theorem B_X10_parse_44 : Blk m_X10_parse 44 [o_ald 0, o_ald 0, o_getI 10 23, o_ald 0, o_getI 10 22] 53 := .cons (ok_aload_n (k := 0) rfl (by decide +kernel)) (.cons (ok_aload_n (k := 0) rfl (by decide +kernel)) (.cons (ok_getI fl_10_248 rfl (by decide +kernel)) (.cons (ok_aload_n (k := 0) rfl (by decide +kernel)) (.cons (ok_getI fl_10_257 rfl (by decide +kernel)) .nil))))
theorem B_X10_parse_56 : Blk m_X10_parse 56 [o_pure (g_push (.int 0)), o_ist 1] 58 := .cons (ok_iconst (n := 0) (by decide +kernel) (by decide)) (.cons (ok_istore_n (k := 1) rfl (by decide +kernel)) .nil)
theorem B_X10_parse_58 : Blk m_X10_parse 58 [o_ild 1, o_ald 0, o_getI 10 23] 63 := .cons (ok_iload_n (k := 1) rfl (by decide +kernel)) (.cons (ok_aload_n (k := 0) rfl (by decide +kernel)) (.cons (ok_getI fl_10_248 rfl (by decide +kernel)) .nil))
theorem B_X10_parse_66 : Blk m_X10_parse 66 [o_ald 0, o_getR 10 0, o_pure (g_push (.int 4)), o_ild 1, o_pure (g_ii (fun x y => x + y)), o_ald 0, o_getR 10 24, o_ild 1, o_iald, o_iast, o_pure (g_push (.int 0)), o_ist 2] 82 := .cons (ok_aload_n (k := 0) rfl (by decide +kernel)) (.cons (ok_getR fl_10_11 rfl (by decide +kernel)) (.cons (ok_iconst (n := 4) (by decide +kernel) (by decide)) (.cons (ok_iload_n (k := 1) rfl (by decide +kernel)) (.cons (ok_iadd (by decide +kernel)) (.cons (ok_aload_n (k := 0) rfl (by decide +kernel)) (.cons (ok_getR fl_10_59 rfl (by decide +kernel)) (.cons (ok_iload_n (k := 1) rfl (by decide +kernel)) (.cons (ok_iaload (by decide +kernel)) (.cons (ok_iastore (by decide +kernel)) (.cons (ok_iconst (n := 0) (by decide +kernel) (by decide)) (.cons (ok_istore_n (k := 2) rfl (by decide +kernel)) .nil)))))))))))
theorem B_X10_parse_82 : Blk m_X10_parse 82 [o_ild 2, o_ald 0, o_getI 10 23] 87 := .cons (ok_iload_n (k := 2) rfl (by decide +kernel)) (.cons (ok_aload_n (k := 0) rfl (by decide +kernel)) (.cons (ok_getI fl_10_248 rfl (by decide +kernel)) .nil))
theorem B_X10_parse_90 : Blk m_X10_parse 90 [o_ald 0, o_ild 1, o_ild 2, o_ald 0, o_getR 10 25, o_pure (g_push (.int 10)), o_ild 1, o_pure (g_ii (fun x y => x * y)), o_ild 2, o_pure (g_ii (fun x y => x + y)), o_iald] 104 := .cons (ok_aload_n (k := 0) rfl (by decide +kernel)) (.cons (ok_iload_n (k := 1) rfl (by decide +kernel)) (.cons (ok_iload_n (k := 2) rfl (by decide +kernel)) (.cons (ok_aload_n (k := 0) rfl (by decide +kernel)) (.cons (ok_getR fl_10_62 rfl (by decide +kernel)) (.cons (ok_bipush (n := 10) (by decide +kernel) (by decide)) (.cons (ok_iload_n (k := 1) rfl (by decide +kernel)) (.cons (ok_imul (by decide +kernel)) (.cons (ok_iload_n (k := 2) rfl (by decide +kernel)) (.cons (ok_iadd (by decide +kernel)) (.cons (ok_iaload (by decide +kernel)) .nil))))))))))
theorem B_X10_parse_107 : Blk m_X10_parse 107 [o_iinc 2 1, o_pure g_id] 82 := .cons (ok_iinc (z := 1) (by decide +kernel) (by decide)) (.cons (ok_goto (off := (-28)) (tgt := 82) (by decide +kernel) (by decide)) .nil)
theorem B_X10_parse_113 : Blk m_X10_parse 113 [o_iinc 1 1, o_pure g_id] 58 := .cons (ok_iinc (z := 1) (by decide +kernel) (by decide)) (.cons (ok_goto (off := (-58)) (tgt := 58) (by decide +kernel) (by decide)) .nil)
theorem B_X10_parse_119 : Blk m_X10_parse 119 [o_ald 0, o_getI 10 23] 123 := .cons (ok_aload_n (k := 0) rfl (by decide +kernel)) (.cons (ok_getI fl_10_248 rfl (by decide +kernel)) .nil)
theorem B_X10_isSlot_0 : Blk m_X10_isSlot 0 [o_ild 0, o_pure (g_il (fun x => x.toInt64)), o_pure (g_push (.long 0)), o_pure (g_push (.long 3))] 6 := .cons (ok_iload_n (k := 0) rfl (by decide +kernel)) (.cons (ok_i2l (by decide +kernel)) (.cons (ok_lconst (n := 0) (by decide +kernel) (by decide)) (.cons (ok_ldc2 (by decide +kernel) co_10_107) .nil)))
theorem B_X10_allocate_0 : Blk m_X10_allocate 0 [o_ild 1] 1 := .cons (ok_iload_n (k := 1) rfl (by decide +kernel)) .nil
theorem B_X10_allocate_7 : Blk m_X10_allocate 7 [o_ild 2, o_pure (g_il (fun x => x.toInt64)), o_pure (g_push (.long 0)), o_pure (g_push (.long 3))] 13 := .cons (ok_iload_n (k := 2) rfl (by decide +kernel)) (.cons (ok_i2l (by decide +kernel)) (.cons (ok_lconst (n := 0) (by decide +kernel) (by decide)) (.cons (ok_ldc2 (by decide +kernel) co_10_107) .nil)))
theorem B_X10_allocate_19 : Blk m_X10_allocate 19 [o_ild 3, o_pure (g_push (.int 40))] 22 := .cons (ok_iload_n (k := 3) rfl (by decide +kernel)) (.cons (ok_bipush (n := 40) (by decide +kernel) (by decide)) .nil)
theorem B_X10_allocate_25 : Blk m_X10_allocate 25 [o_pure (g_push (.int (-1)))] 26 := .cons (ok_iconst (n := (-1)) (by decide +kernel) (by decide)) .nil
theorem B_X10_allocate_27 : Blk m_X10_allocate 27 [o_ild 3] 28 := .cons (ok_iload_n (k := 3) rfl (by decide +kernel)) .nil
theorem B_X10_allocate_31 : Blk m_X10_allocate 31 [o_pure (g_push (.int (-14)))] 33 := .cons (ok_bipush (n := (-14)) (by decide +kernel) (by decide)) .nil
theorem B_X10_allocate_34 : Blk m_X10_allocate 34 [o_ald 0, o_getR 10 27, o_ild 1, o_ild 2, o_pure (g_push (.int 1)), o_pure (g_ii (fun x y => x + y)), o_iast, o_ald 0, o_getR 10 28, o_ild 1, o_ild 3, o_iast, o_pure (g_push (.int 0)), o_ist 4] 53 := .cons (ok_aload_n (k := 0) rfl (by decide +kernel)) (.cons (ok_getR fl_10_68 rfl (by decide +kernel)) (.cons (ok_iload_n (k := 1) rfl (by decide +kernel)) (.cons (ok_iload_n (k := 2) rfl (by decide +kernel)) (.cons (ok_iconst (n := 1) (by decide +kernel) (by decide)) (.cons (ok_iadd (by decide +kernel)) (.cons (ok_iastore (by decide +kernel)) (.cons (ok_aload_n (k := 0) rfl (by decide +kernel)) (.cons (ok_getR fl_10_71 rfl (by decide +kernel)) (.cons (ok_iload_n (k := 1) rfl (by decide +kernel)) (.cons (ok_iload_n (k := 3) rfl (by decide +kernel)) (.cons (ok_iastore (by decide +kernel)) (.cons (ok_iconst (n := 0) (by decide +kernel) (by decide)) (.cons (ok_istore (by decide +kernel)) .nil)))))))))))))
theorem B_X10_allocate_53 : Blk m_X10_allocate 53 [o_ild 4, o_pure (g_push (.int 40))] 57 := .cons (ok_iload (by decide +kernel)) (.cons (ok_bipush (n := 40) (by decide +kernel) (by decide)) .nil)
theorem B_X10_allocate_60 : Blk m_X10_allocate 60 [o_ald 0, o_getR 10 29, o_pure (g_push (.int 40)), o_ild 1, o_pure (g_ii (fun x y => x * y)), o_ild 4, o_pure (g_ii (fun x y => x + y)), o_pure (g_push (.long 0)), o_last, o_iinc 4 1, o_pure g_id] 53 := .cons (ok_aload_n (k := 0) rfl (by decide +kernel)) (.cons (ok_getR fl_10_74 rfl (by decide +kernel)) (.cons (ok_bipush (n := 40) (by decide +kernel) (by decide)) (.cons (ok_iload_n (k := 1) rfl (by decide +kernel)) (.cons (ok_imul (by decide +kernel)) (.cons (ok_iload (by decide +kernel)) (.cons (ok_iadd (by decide +kernel)) (.cons (ok_lconst (n := 0) (by decide +kernel) (by decide)) (.cons (ok_lastore (by decide +kernel)) (.cons (ok_iinc (z := 1) (by decide +kernel) (by decide)) (.cons (ok_goto (off := (-23)) (tgt := 53) (by decide +kernel) (by decide)) .nil))))))))))
theorem B_X10_allocate_79 : Blk m_X10_allocate 79 [o_ild 3] 80 := .cons (ok_iload_n (k := 3) rfl (by decide +kernel)) .nil
theorem B_X10_release_0 : Blk m_X10_release 0 [o_ild 1] 1 := .cons (ok_iload_n (k := 1) rfl (by decide +kernel)) .nil
theorem B_X10_release_7 : Blk m_X10_release 7 [o_pure (g_push (.int (-1)))] 8 := .cons (ok_iconst (n := (-1)) (by decide +kernel) (by decide)) .nil
theorem B_X10_release_9 : Blk m_X10_release 9 [o_ald 0, o_getR 10 27, o_ild 1, o_iald] 15 := .cons (ok_aload_n (k := 0) rfl (by decide +kernel)) (.cons (ok_getR fl_10_68 rfl (by decide +kernel)) (.cons (ok_iload_n (k := 1) rfl (by decide +kernel)) (.cons (ok_iaload (by decide +kernel)) .nil)))
theorem B_X10_release_18 : Blk m_X10_release 18 [o_pure (g_push (.int 0)), o_pure g_id] 23 := .cons (ok_iconst (n := 0) (by decide +kernel) (by decide)) (.cons (ok_goto (off := 4) (tgt := 23) (by decide +kernel) (by decide)) .nil)
theorem B_X10_release_22 : Blk m_X10_release 22 [o_pure (g_push (.int 1)), o_ist 2, o_ald 0, o_getR 10 27, o_ild 1, o_pure (g_push (.int 0)), o_iast, o_ild 2] 32 := .cons (ok_iconst (n := 1) (by decide +kernel) (by decide)) (.cons (ok_istore_n (k := 2) rfl (by decide +kernel)) (.cons (ok_aload_n (k := 0) rfl (by decide +kernel)) (.cons (ok_getR fl_10_68 rfl (by decide +kernel)) (.cons (ok_iload_n (k := 1) rfl (by decide +kernel)) (.cons (ok_iconst (n := 0) (by decide +kernel) (by decide)) (.cons (ok_iastore (by decide +kernel)) (.cons (ok_iload_n (k := 2) rfl (by decide +kernel)) .nil)))))))
theorem B_X10_release_23 : Blk m_X10_release 23 [o_ist 2, o_ald 0, o_getR 10 27, o_ild 1, o_pure (g_push (.int 0)), o_iast, o_ild 2] 32 := .cons (ok_istore_n (k := 2) rfl (by decide +kernel)) (.cons (ok_aload_n (k := 0) rfl (by decide +kernel)) (.cons (ok_getR fl_10_68 rfl (by decide +kernel)) (.cons (ok_iload_n (k := 1) rfl (by decide +kernel)) (.cons (ok_iconst (n := 0) (by decide +kernel) (by decide)) (.cons (ok_iastore (by decide +kernel)) (.cons (ok_iload_n (k := 2) rfl (by decide +kernel)) .nil))))))
theorem B_X10_narrow_0 : Blk m_X10_narrow 0 [o_ild 0, o_pure (g_push (.int 1))] 2 := .cons (ok_iload_n (k := 0) rfl (by decide +kernel)) (.cons (ok_iconst (n := 1) (by decide +kernel) (by decide)) .nil)
theorem B_X10_narrow_5 : Blk m_X10_narrow 5 [o_lld 1, o_pure (g_li (fun x => x.toInt32)), o_pure (g_i (fun x => x.toInt8.toInt32)), o_pure (g_il (fun x => x.toInt64)), o_pure g_id] 36 := .cons (ok_lload_n (k := 1) rfl (by decide +kernel)) (.cons (ok_l2i (by decide +kernel)) (.cons (ok_i2b (by decide +kernel)) (.cons (ok_i2l (by decide +kernel)) (.cons (ok_goto (off := 27) (tgt := 36) (by decide +kernel) (by decide)) .nil))))
theorem B_X10_narrow_12 : Blk m_X10_narrow 12 [o_ild 0, o_pure (g_push (.int 2))] 14 := .cons (ok_iload_n (k := 0) rfl (by decide +kernel)) (.cons (ok_iconst (n := 2) (by decide +kernel) (by decide)) .nil)
theorem B_X10_narrow_17 : Blk m_X10_narrow 17 [o_lld 1, o_pure (g_li (fun x => x.toInt32)), o_pure (g_i (fun x => (x.toUInt32 % 65536).toInt32)), o_pure (g_il (fun x => x.toInt64)), o_pure g_id] 36 := .cons (ok_lload_n (k := 1) rfl (by decide +kernel)) (.cons (ok_l2i (by decide +kernel)) (.cons (ok_i2c (by decide +kernel)) (.cons (ok_i2l (by decide +kernel)) (.cons (ok_goto (off := 15) (tgt := 36) (by decide +kernel) (by decide)) .nil))))
theorem B_X10_narrow_24 : Blk m_X10_narrow 24 [o_ild 0, o_pure (g_push (.int 3))] 26 := .cons (ok_iload_n (k := 0) rfl (by decide +kernel)) (.cons (ok_iconst (n := 3) (by decide +kernel) (by decide)) .nil)
theorem B_X10_narrow_29 : Blk m_X10_narrow 29 [o_lld 1, o_pure (g_li (fun x => x.toInt32)), o_pure (g_il (fun x => x.toInt64)), o_pure g_id] 36 := .cons (ok_lload_n (k := 1) rfl (by decide +kernel)) (.cons (ok_l2i (by decide +kernel)) (.cons (ok_i2l (by decide +kernel)) (.cons (ok_goto (off := 4) (tgt := 36) (by decide +kernel) (by decide)) .nil)))
theorem B_X10_narrow_35 : Blk m_X10_narrow 35 [o_lld 1] 36 := .cons (ok_lload_n (k := 1) rfl (by decide +kernel)) .nil
theorem B_X10_putElement_0 : Blk m_X10_putElement 0 [o_ild 1] 1 := .cons (ok_iload_n (k := 1) rfl (by decide +kernel)) .nil
theorem B_X10_putElement_7 : Blk m_X10_putElement 7 [o_pure (g_push (.int (-1)))] 8 := .cons (ok_iconst (n := (-1)) (by decide +kernel) (by decide)) .nil
theorem B_X10_putElement_9 : Blk m_X10_putElement 9 [o_ald 0, o_getR 10 27, o_ild 1, o_iald] 15 := .cons (ok_aload_n (k := 0) rfl (by decide +kernel)) (.cons (ok_getR fl_10_68 rfl (by decide +kernel)) (.cons (ok_iload_n (k := 1) rfl (by decide +kernel)) (.cons (ok_iaload (by decide +kernel)) .nil)))
theorem B_X10_putElement_18 : Blk m_X10_putElement 18 [o_pure (g_push (.int (-11)))] 20 := .cons (ok_bipush (n := (-11)) (by decide +kernel) (by decide)) .nil
theorem B_X10_putElement_21 : Blk m_X10_putElement 21 [o_ild 2, o_pure (g_il (fun x => x.toInt64)), o_pure (g_push (.long 0)), o_ald 0, o_getR 10 28, o_ild 1, o_iald, o_pure (g_push (.int 1)), o_pure (g_ii (fun x y => x - y)), o_pure (g_il (fun x => x.toInt64))] 33 := .cons (ok_iload_n (k := 2) rfl (by decide +kernel)) (.cons (ok_i2l (by decide +kernel)) (.cons (ok_lconst (n := 0) (by decide +kernel) (by decide)) (.cons (ok_aload_n (k := 0) rfl (by decide +kernel)) (.cons (ok_getR fl_10_71 rfl (by decide +kernel)) (.cons (ok_iload_n (k := 1) rfl (by decide +kernel)) (.cons (ok_iaload (by decide +kernel)) (.cons (ok_iconst (n := 1) (by decide +kernel) (by decide)) (.cons (ok_isub (by decide +kernel)) (.cons (ok_i2l (by decide +kernel)) .nil)))))))))
theorem B_X10_putElement_39 : Blk m_X10_putElement 39 [o_pure (g_push (.int (-13)))] 41 := .cons (ok_bipush (n := (-13)) (by decide +kernel) (by decide)) .nil
theorem B_X10_putElement_42 : Blk m_X10_putElement 42 [o_ald 0, o_getR 10 29, o_pure (g_push (.int 40)), o_ild 1, o_pure (g_ii (fun x y => x * y)), o_ild 2, o_pure (g_ii (fun x y => x + y)), o_ald 0, o_getR 10 27, o_ild 1, o_iald, o_lld 3] 59 := .cons (ok_aload_n (k := 0) rfl (by decide +kernel)) (.cons (ok_getR fl_10_74 rfl (by decide +kernel)) (.cons (ok_bipush (n := 40) (by decide +kernel) (by decide)) (.cons (ok_iload_n (k := 1) rfl (by decide +kernel)) (.cons (ok_imul (by decide +kernel)) (.cons (ok_iload_n (k := 2) rfl (by decide +kernel)) (.cons (ok_iadd (by decide +kernel)) (.cons (ok_aload_n (k := 0) rfl (by decide +kernel)) (.cons (ok_getR fl_10_68 rfl (by decide +kernel)) (.cons (ok_iload_n (k := 1) rfl (by decide +kernel)) (.cons (ok_iaload (by decide +kernel)) (.cons (ok_lload_n (k := 3) rfl (by decide +kernel)) .nil)))))))))))
theorem B_X10_putElement_62 : Blk m_X10_putElement 62 [o_last, o_pure (g_push (.int 1))] 64 := .cons (ok_lastore (by decide +kernel)) (.cons (ok_iconst (n := 1) (by decide +kernel) (by decide)) .nil)
theorem B_X10_element_0 : Blk m_X10_element 0 [o_ild 1] 1 := .cons (ok_iload_n (k := 1) rfl (by decide +kernel)) .nil
theorem B_X10_element_7 : Blk m_X10_element 7 [o_ald 0, o_getR 10 27, o_ild 1, o_iald] 13 := .cons (ok_aload_n (k := 0) rfl (by decide +kernel)) (.cons (ok_getR fl_10_68 rfl (by decide +kernel)) (.cons (ok_iload_n (k := 1) rfl (by decide +kernel)) (.cons (ok_iaload (by decide +kernel)) .nil)))
theorem B_X10_element_16 : Blk m_X10_element 16 [o_ild 2, o_pure (g_il (fun x => x.toInt64)), o_pure (g_push (.long 0)), o_ald 0, o_getR 10 28, o_ild 1, o_iald, o_pure (g_push (.int 1)), o_pure (g_ii (fun x y => x - y)), o_pure (g_il (fun x => x.toInt64))] 28 := .cons (ok_iload_n (k := 2) rfl (by decide +kernel)) (.cons (ok_i2l (by decide +kernel)) (.cons (ok_lconst (n := 0) (by decide +kernel) (by decide)) (.cons (ok_aload_n (k := 0) rfl (by decide +kernel)) (.cons (ok_getR fl_10_71 rfl (by decide +kernel)) (.cons (ok_iload_n (k := 1) rfl (by decide +kernel)) (.cons (ok_iaload (by decide +kernel)) (.cons (ok_iconst (n := 1) (by decide +kernel) (by decide)) (.cons (ok_isub (by decide +kernel)) (.cons (ok_i2l (by decide +kernel)) .nil)))))))))
theorem B_X10_element_34 : Blk m_X10_element 34 [o_pure (g_push (.int 1)), o_pure g_id] 39 := .cons (ok_iconst (n := 1) (by decide +kernel) (by decide)) (.cons (ok_goto (off := 4) (tgt := 39) (by decide +kernel) (by decide)) .nil)
theorem B_X10_element_38 : Blk m_X10_element 38 [o_pure (g_push (.int 0)), o_ist 3, o_ild 3] 41 := .cons (ok_iconst (n := 0) (by decide +kernel) (by decide)) (.cons (ok_istore_n (k := 3) rfl (by decide +kernel)) (.cons (ok_iload_n (k := 3) rfl (by decide +kernel)) .nil))
theorem B_X10_element_39 : Blk m_X10_element 39 [o_ist 3, o_ild 3] 41 := .cons (ok_istore_n (k := 3) rfl (by decide +kernel)) (.cons (ok_iload_n (k := 3) rfl (by decide +kernel)) .nil)
theorem B_X10_element_44 : Blk m_X10_element 44 [o_ald 0, o_getR 10 29, o_pure (g_push (.int 40)), o_ild 1, o_pure (g_ii (fun x y => x * y)), o_ild 2, o_pure (g_ii (fun x y => x + y)), o_lald, o_pure g_id] 61 := .cons (ok_aload_n (k := 0) rfl (by decide +kernel)) (.cons (ok_getR fl_10_74 rfl (by decide +kernel)) (.cons (ok_bipush (n := 40) (by decide +kernel) (by decide)) (.cons (ok_iload_n (k := 1) rfl (by decide +kernel)) (.cons (ok_imul (by decide +kernel)) (.cons (ok_iload_n (k := 2) rfl (by decide +kernel)) (.cons (ok_iadd (by decide +kernel)) (.cons (ok_laload (by decide +kernel)) (.cons (ok_goto (off := 6) (tgt := 61) (by decide +kernel) (by decide)) .nil))))))))
theorem B_X10_element_58 : Blk m_X10_element 58 [o_pure (g_push (.long (-9223372036854775808)))] 61 := .cons (ok_ldc2 (by decide +kernel) co_10_168) .nil
theorem B_X10_copyElements_0 : Blk m_X10_copyElements 0 [o_ild 1] 1 := .cons (ok_iload_n (k := 1) rfl (by decide +kernel)) .nil
theorem B_X10_copyElements_7 : Blk m_X10_copyElements 7 [o_ild 3] 8 := .cons (ok_iload_n (k := 3) rfl (by decide +kernel)) .nil
theorem B_X10_copyElements_14 : Blk m_X10_copyElements 14 [o_pure (g_push (.int (-1)))] 15 := .cons (ok_iconst (n := (-1)) (by decide +kernel) (by decide)) .nil
theorem B_X10_copyElements_16 : Blk m_X10_copyElements 16 [o_ald 0, o_getR 10 27, o_ild 1, o_iald] 22 := .cons (ok_aload_n (k := 0) rfl (by decide +kernel)) (.cons (ok_getR fl_10_68 rfl (by decide +kernel)) (.cons (ok_iload_n (k := 1) rfl (by decide +kernel)) (.cons (ok_iaload (by decide +kernel)) .nil)))
theorem B_X10_copyElements_25 : Blk m_X10_copyElements 25 [o_ald 0, o_getR 10 27, o_ild 3, o_iald] 31 := .cons (ok_aload_n (k := 0) rfl (by decide +kernel)) (.cons (ok_getR fl_10_68 rfl (by decide +kernel)) (.cons (ok_iload_n (k := 3) rfl (by decide +kernel)) (.cons (ok_iaload (by decide +kernel)) .nil)))
theorem B_X10_copyElements_34 : Blk m_X10_copyElements 34 [o_pure (g_push (.int (-11)))] 36 := .cons (ok_bipush (n := (-11)) (by decide +kernel) (by decide)) .nil
theorem B_X10_copyElements_37 : Blk m_X10_copyElements 37 [o_ald 0, o_getR 10 27, o_ild 1, o_iald, o_ald 0, o_getR 10 27, o_ild 3, o_iald] 49 := .cons (ok_aload_n (k := 0) rfl (by decide +kernel)) (.cons (ok_getR fl_10_68 rfl (by decide +kernel)) (.cons (ok_iload_n (k := 1) rfl (by decide +kernel)) (.cons (ok_iaload (by decide +kernel)) (.cons (ok_aload_n (k := 0) rfl (by decide +kernel)) (.cons (ok_getR fl_10_68 rfl (by decide +kernel)) (.cons (ok_iload_n (k := 3) rfl (by decide +kernel)) (.cons (ok_iaload (by decide +kernel)) .nil)))))))
theorem B_X10_copyElements_52 : Blk m_X10_copyElements 52 [o_pure (g_push (.int (-12)))] 54 := .cons (ok_bipush (n := (-12)) (by decide +kernel) (by decide)) .nil
theorem B_X10_copyElements_55 : Blk m_X10_copyElements 55 [o_ild 5] 57 := .cons (ok_iload (by decide +kernel)) .nil
theorem B_X10_copyElements_60 : Blk m_X10_copyElements 60 [o_ild 2] 61 := .cons (ok_iload_n (k := 2) rfl (by decide +kernel)) .nil
theorem B_X10_copyElements_64 : Blk m_X10_copyElements 64 [o_ild 4] 66 := .cons (ok_iload (by decide +kernel)) .nil
theorem B_X10_copyElements_69 : Blk m_X10_copyElements 69 [o_ild 2, o_ald 0, o_getR 10 28, o_ild 1, o_iald, o_ild 5, o_pure (g_ii (fun x y => x - y))] 79 := .cons (ok_iload_n (k := 2) rfl (by decide +kernel)) (.cons (ok_aload_n (k := 0) rfl (by decide +kernel)) (.cons (ok_getR fl_10_71 rfl (by decide +kernel)) (.cons (ok_iload_n (k := 1) rfl (by decide +kernel)) (.cons (ok_iaload (by decide +kernel)) (.cons (ok_iload (by decide +kernel)) (.cons (ok_isub (by decide +kernel)) .nil))))))
theorem B_X10_copyElements_82 : Blk m_X10_copyElements 82 [o_ild 4, o_ald 0, o_getR 10 28, o_ild 3, o_iald, o_ild 5, o_pure (g_ii (fun x y => x - y))] 93 := .cons (ok_iload (by decide +kernel)) (.cons (ok_aload_n (k := 0) rfl (by decide +kernel)) (.cons (ok_getR fl_10_71 rfl (by decide +kernel)) (.cons (ok_iload_n (k := 3) rfl (by decide +kernel)) (.cons (ok_iaload (by decide +kernel)) (.cons (ok_iload (by decide +kernel)) (.cons (ok_isub (by decide +kernel)) .nil))))))
theorem B_X10_copyElements_96 : Blk m_X10_copyElements 96 [o_pure (g_push (.int (-13)))] 98 := .cons (ok_bipush (n := (-13)) (by decide +kernel) (by decide)) .nil
theorem B_X10_copyElements_99 : Blk m_X10_copyElements 99 [o_ald 0, o_getR 10 29, o_pure (g_push (.int 40)), o_ild 1, o_pure (g_ii (fun x y => x * y)), o_ild 2, o_pure (g_ii (fun x y => x + y)), o_ald 0, o_getR 10 29, o_pure (g_push (.int 40)), o_ild 3, o_pure (g_ii (fun x y => x * y)), o_ild 4, o_pure (g_ii (fun x y => x + y)), o_ild 5, o_cpJ, o_ild 5] 127 := .cons (ok_aload_n (k := 0) rfl (by decide +kernel)) (.cons (ok_getR fl_10_74 rfl (by decide +kernel)) (.cons (ok_bipush (n := 40) (by decide +kernel) (by decide)) (.cons (ok_iload_n (k := 1) rfl (by decide +kernel)) (.cons (ok_imul (by decide +kernel)) (.cons (ok_iload_n (k := 2) rfl (by decide +kernel)) (.cons (ok_iadd (by decide +kernel)) (.cons (ok_aload_n (k := 0) rfl (by decide +kernel)) (.cons (ok_getR fl_10_74 rfl (by decide +kernel)) (.cons (ok_bipush (n := 40) (by decide +kernel) (by decide)) (.cons (ok_iload_n (k := 3) rfl (by decide +kernel)) (.cons (ok_imul (by decide +kernel)) (.cons (ok_iload (by decide +kernel)) (.cons (ok_iadd (by decide +kernel)) (.cons (ok_iload (by decide +kernel)) (.cons (ok_cpJ ml_10_97 jw_acn jw_acs jw_sys (by decide +kernel)) (.cons (ok_iload (by decide +kernel)) .nil))))))))))))))))
theorem B_X10_compareWithArray_0 : Blk m_X10_compareWithArray 0 [o_ild 1] 1 := .cons (ok_iload_n (k := 1) rfl (by decide +kernel)) .nil
theorem B_X10_compareWithArray_7 : Blk m_X10_compareWithArray 7 [o_pure (g_push (.int (-1)))] 8 := .cons (ok_iconst (n := (-1)) (by decide +kernel) (by decide)) .nil
theorem B_X10_compareWithArray_9 : Blk m_X10_compareWithArray 9 [o_ald 0, o_getR 10 27, o_ild 1, o_iald] 15 := .cons (ok_aload_n (k := 0) rfl (by decide +kernel)) (.cons (ok_getR fl_10_68 rfl (by decide +kernel)) (.cons (ok_iload_n (k := 1) rfl (by decide +kernel)) (.cons (ok_iaload (by decide +kernel)) .nil)))
theorem B_X10_compareWithArray_18 : Blk m_X10_compareWithArray 18 [o_pure (g_push (.int (-11)))] 20 := .cons (ok_bipush (n := (-11)) (by decide +kernel) (by decide)) .nil
theorem B_X10_compareWithArray_21 : Blk m_X10_compareWithArray 21 [o_ald 0, o_getR 10 27, o_ild 1, o_iald, o_pure (g_push (.int 1))] 28 := .cons (ok_aload_n (k := 0) rfl (by decide +kernel)) (.cons (ok_getR fl_10_68 rfl (by decide +kernel)) (.cons (ok_iload_n (k := 1) rfl (by decide +kernel)) (.cons (ok_iaload (by decide +kernel)) (.cons (ok_iconst (n := 1) (by decide +kernel) (by decide)) .nil))))
theorem B_X10_compareWithArray_31 : Blk m_X10_compareWithArray 31 [o_pure (g_push (.int (-12)))] 33 := .cons (ok_bipush (n := (-12)) (by decide +kernel) (by decide)) .nil
theorem B_X10_compareWithArray_34 : Blk m_X10_compareWithArray 34 [o_ald 0, o_getR 10 0, o_pure (g_push (.int 0)), o_iald, o_ist 2, o_pure (g_push (.int 0)), o_ist 3] 43 := .cons (ok_aload_n (k := 0) rfl (by decide +kernel)) (.cons (ok_getR fl_10_11 rfl (by decide +kernel)) (.cons (ok_iconst (n := 0) (by decide +kernel) (by decide)) (.cons (ok_iaload (by decide +kernel)) (.cons (ok_istore_n (k := 2) rfl (by decide +kernel)) (.cons (ok_iconst (n := 0) (by decide +kernel) (by decide)) (.cons (ok_istore_n (k := 3) rfl (by decide +kernel)) .nil))))))
theorem B_X10_compareWithArray_43 : Blk m_X10_compareWithArray 43 [o_ild 3, o_ild 2, o_ild 2, o_pure (g_ii (fun x y => x * y))] 47 := .cons (ok_iload_n (k := 3) rfl (by decide +kernel)) (.cons (ok_iload_n (k := 2) rfl (by decide +kernel)) (.cons (ok_iload_n (k := 2) rfl (by decide +kernel)) (.cons (ok_imul (by decide +kernel)) .nil)))
theorem B_X10_compareWithArray_50 : Blk m_X10_compareWithArray 50 [o_ild 3, o_ald 0, o_getR 10 28, o_ild 1, o_iald] 57 := .cons (ok_iload_n (k := 3) rfl (by decide +kernel)) (.cons (ok_aload_n (k := 0) rfl (by decide +kernel)) (.cons (ok_getR fl_10_71 rfl (by decide +kernel)) (.cons (ok_iload_n (k := 1) rfl (by decide +kernel)) (.cons (ok_iaload (by decide +kernel)) .nil))))
theorem B_X10_compareWithArray_60 : Blk m_X10_compareWithArray 60 [o_ild 3, o_ild 2, o_ild 2, o_pure (g_ii (fun x y => x * y))] 64 := .cons (ok_iload_n (k := 3) rfl (by decide +kernel)) (.cons (ok_iload_n (k := 2) rfl (by decide +kernel)) (.cons (ok_iload_n (k := 2) rfl (by decide +kernel)) (.cons (ok_imul (by decide +kernel)) .nil)))
theorem B_X10_compareWithArray_67 : Blk m_X10_compareWithArray 67 [o_ild 3, o_ald 0, o_getR 10 28, o_ild 1, o_iald] 74 := .cons (ok_iload_n (k := 3) rfl (by decide +kernel)) (.cons (ok_aload_n (k := 0) rfl (by decide +kernel)) (.cons (ok_getR fl_10_71 rfl (by decide +kernel)) (.cons (ok_iload_n (k := 1) rfl (by decide +kernel)) (.cons (ok_iaload (by decide +kernel)) .nil))))
theorem B_X10_compareWithArray_77 : Blk m_X10_compareWithArray 77 [o_ald 0, o_getR 10 29, o_pure (g_push (.int 40)), o_ild 1, o_pure (g_ii (fun x y => x * y)), o_ild 3, o_pure (g_ii (fun x y => x + y)), o_lald, o_ald 0, o_ild 3, o_ild 2, o_dii (fun x y => x / y), o_ild 3, o_ild 2, o_dii (fun x y => x - x / y * y)] 95 := .cons (ok_aload_n (k := 0) rfl (by decide +kernel)) (.cons (ok_getR fl_10_74 rfl (by decide +kernel)) (.cons (ok_bipush (n := 40) (by decide +kernel) (by decide)) (.cons (ok_iload_n (k := 1) rfl (by decide +kernel)) (.cons (ok_imul (by decide +kernel)) (.cons (ok_iload_n (k := 3) rfl (by decide +kernel)) (.cons (ok_iadd (by decide +kernel)) (.cons (ok_laload (by decide +kernel)) (.cons (ok_aload_n (k := 0) rfl (by decide +kernel)) (.cons (ok_iload_n (k := 3) rfl (by decide +kernel)) (.cons (ok_iload_n (k := 2) rfl (by decide +kernel)) (.cons (ok_idiv (by decide +kernel)) (.cons (ok_iload_n (k := 3) rfl (by decide +kernel)) (.cons (ok_iload_n (k := 2) rfl (by decide +kernel)) (.cons (ok_irem (by decide +kernel)) .nil))))))))))))))
theorem B_X10_compareWithArray_98 : Blk m_X10_compareWithArray 98 [o_pure (g_il (fun x => x.toInt64)), o_pure (g_cmp)] 100 := .cons (ok_i2l (by decide +kernel)) (.cons (ok_lcmp (by decide +kernel)) .nil)
theorem B_X10_compareWithArray_103 : Blk m_X10_compareWithArray 103 [o_ild 3] 104 := .cons (ok_iload_n (k := 3) rfl (by decide +kernel)) .nil
theorem B_X10_compareWithArray_105 : Blk m_X10_compareWithArray 105 [o_iinc 3 1, o_pure g_id] 43 := .cons (ok_iinc (z := 1) (by decide +kernel) (by decide)) (.cons (ok_goto (off := (-65)) (tgt := 43) (by decide +kernel) (by decide)) .nil)
theorem B_X10_compareWithArray_111 : Blk m_X10_compareWithArray 111 [o_pure (g_push (.int (-7)))] 113 := .cons (ok_bipush (n := (-7)) (by decide +kernel) (by decide)) .nil
theorem B_X10_snapshot_0 : Blk m_X10_snapshot 0 [o_ald 0, o_getR 10 0, o_pure (g_push (.int 0)), o_ald 0, o_getR 10 3, o_pure (g_push (.int 0)), o_pure (g_push (.int 46)), o_cpI, o_ald 0, o_pure (g_push (.int 1)), o_putZ 10 4, o_ald 0, o_getR 10 0, o_pure (g_push (.int 0)), o_iald] 26 := .cons (ok_aload_n (k := 0) rfl (by decide +kernel)) (.cons (ok_getR fl_10_11 rfl (by decide +kernel)) (.cons (ok_iconst (n := 0) (by decide +kernel) (by decide)) (.cons (ok_aload_n (k := 0) rfl (by decide +kernel)) (.cons (ok_getR fl_10_18 rfl (by decide +kernel)) (.cons (ok_iconst (n := 0) (by decide +kernel) (by decide)) (.cons (ok_bipush (n := 46) (by decide +kernel) (by decide)) (.cons (ok_cpI ml_10_97 jw_acn jw_acs jw_sys (by decide +kernel)) (.cons (ok_aload_n (k := 0) rfl (by decide +kernel)) (.cons (ok_iconst (n := 1) (by decide +kernel) (by decide)) (.cons (ok_putZ fl_10_282 rfl (by decide +kernel)) (.cons (ok_aload_n (k := 0) rfl (by decide +kernel)) (.cons (ok_getR fl_10_11 rfl (by decide +kernel)) (.cons (ok_iconst (n := 0) (by decide +kernel) (by decide)) (.cons (ok_iaload (by decide +kernel)) .nil))))))))))))))
theorem B_X10_restore_0 : Blk m_X10_restore 0 [o_ald 0, o_getI 10 4] 4 := .cons (ok_aload_n (k := 0) rfl (by decide +kernel)) (.cons (ok_getI fl_10_282 rfl (by decide +kernel)) .nil)
theorem B_X10_restore_7 : Blk m_X10_restore 7 [o_pure (g_push (.int (-5)))] 9 := .cons (ok_bipush (n := (-5)) (by decide +kernel) (by decide)) .nil
theorem B_X10_restore_10 : Blk m_X10_restore 10 [o_ald 0, o_getR 10 3, o_pure (g_push (.int 0)), o_ald 0, o_getR 10 0, o_pure (g_push (.int 0)), o_pure (g_push (.int 46)), o_cpI, o_ald 0, o_pure (g_push (.int 0)), o_putI 10 2, o_ald 0, o_getR 10 0, o_pure (g_push (.int 0)), o_iald] 36 := .cons (ok_aload_n (k := 0) rfl (by decide +kernel)) (.cons (ok_getR fl_10_18 rfl (by decide +kernel)) (.cons (ok_iconst (n := 0) (by decide +kernel) (by decide)) (.cons (ok_aload_n (k := 0) rfl (by decide +kernel)) (.cons (ok_getR fl_10_11 rfl (by decide +kernel)) (.cons (ok_iconst (n := 0) (by decide +kernel) (by decide)) (.cons (ok_bipush (n := 46) (by decide +kernel) (by decide)) (.cons (ok_cpI ml_10_97 jw_acn jw_acs jw_sys (by decide +kernel)) (.cons (ok_aload_n (k := 0) rfl (by decide +kernel)) (.cons (ok_iconst (n := 0) (by decide +kernel) (by decide)) (.cons (ok_putI fl_10_89 rfl (by decide +kernel)) (.cons (ok_aload_n (k := 0) rfl (by decide +kernel)) (.cons (ok_getR fl_10_11 rfl (by decide +kernel)) (.cons (ok_iconst (n := 0) (by decide +kernel) (by decide)) (.cons (ok_iaload (by decide +kernel)) .nil))))))))))))))
end
section
/-! the stretches of instructions of each method: printed by program -/
theorem B_L_law_3 (L : Nat) (xs : Nat → Int32) : Blk (m_L_law L xs) 3 [o_pure (g_dup)] 4 := .cons (ok_dup (show decode code 3 = .ok (.dup, 1) by decide +kernel)) .nil
theorem B_L_law_7 (L : Nat) (xs : Nat → Int32) : Blk (m_L_law L xs) 7 [o_ast 1] 8 := .cons (ok_astore_n (k := 1) rfl (show decode code 7 = .ok (.astore_n 1, 1) by decide +kernel)) .nil
theorem B_L_law_11 (L : Nat) (xs : Nat → Int32) : Blk (m_L_law L xs) 11 [o_pure (g_dup)] 12 := .cons (ok_dup (show decode code 11 = .ok (.dup, 1) by decide +kernel)) .nil
theorem B_L_law_15 (L : Nat) (xs : Nat → Int32) : Blk (m_L_law L xs) 15 [o_ast 2, o_pure (g_push (.int 0)), o_ist 3] 18 := .cons (ok_astore_n (k := 2) rfl (show decode code 15 = .ok (.astore_n 2, 1) by decide +kernel)) (.cons (ok_iconst (n := 0) (show decode code 16 = .ok (.iconst 0, 1) by decide +kernel) (by decide)) (.cons (ok_istore_n (k := 3) rfl (show decode code 17 = .ok (.istore_n 3, 1) by decide +kernel)) .nil))
theorem B_L_law_18 (L : Nat) (xs : Nat → Int32) : Blk (m_L_law L xs) 18 [o_ild 3, o_ald 0, o_slen L, o_pure (g_push (.int 6)), o_pure (g_ii (fun x y => x - y))] 24 := .cons (ok_iload_n (k := 3) rfl (show decode code 18 = .ok (.iload_n 3, 1) by decide +kernel)) (.cons (ok_aload_n (k := 0) rfl (show decode code 19 = .ok (.aload_n 0, 1) by decide +kernel)) (.cons (ok_slen (xs := xs) rfl (show decode code 20 = .ok (.arraylength, 1) by decide +kernel)) (.cons (ok_bipush (n := 6) (show decode code 21 = .ok (.bipush 6, 2) by decide +kernel) (by decide)) (.cons (ok_isub (show decode code 23 = .ok (.isub, 1) by decide +kernel)) .nil))))
theorem B_L_law_27 (L : Nat) (xs : Nat → Int32) : Blk (m_L_law L xs) 27 [o_ald 0, o_ild 3, o_sld L xs, o_pure (g_push (.int 63)), o_pure (g_ii (fun x y => x &&& y))] 33 := .cons (ok_aload_n (k := 0) rfl (show decode code 27 = .ok (.aload_n 0, 1) by decide +kernel)) (.cons (ok_iload_n (k := 3) rfl (show decode code 28 = .ok (.iload_n 3, 1) by decide +kernel)) (.cons (ok_sld rfl (show decode code 29 = .ok (.iaload, 1) by decide +kernel)) (.cons (ok_bipush (n := 63) (show decode code 30 = .ok (.bipush 63, 2) by decide +kernel) (by decide)) (.cons (ok_iand (show decode code 32 = .ok (.iand, 1) by decide +kernel)) .nil))))
theorem B_L_law_196 (L : Nat) (xs : Nat → Int32) : Blk (m_L_law L xs) 196 [o_ald 1, o_ald 0, o_ild 3, o_pure (g_push (.int 1)), o_pure (g_ii (fun x y => x + y)), o_sld L xs, o_ald 0, o_ild 3, o_pure (g_push (.int 2)), o_pure (g_ii (fun x y => x + y)), o_sld L xs] 207 := .cons (ok_aload_n (k := 1) rfl (show decode code 196 = .ok (.aload_n 1, 1) by decide +kernel)) (.cons (ok_aload_n (k := 0) rfl (show decode code 197 = .ok (.aload_n 0, 1) by decide +kernel)) (.cons (ok_iload_n (k := 3) rfl (show decode code 198 = .ok (.iload_n 3, 1) by decide +kernel)) (.cons (ok_iconst (n := 1) (show decode code 199 = .ok (.iconst 1, 1) by decide +kernel) (by decide)) (.cons (ok_iadd (show decode code 200 = .ok (.iadd, 1) by decide +kernel)) (.cons (ok_sld rfl (show decode code 201 = .ok (.iaload, 1) by decide +kernel)) (.cons (ok_aload_n (k := 0) rfl (show decode code 202 = .ok (.aload_n 0, 1) by decide +kernel)) (.cons (ok_iload_n (k := 3) rfl (show decode code 203 = .ok (.iload_n 3, 1) by decide +kernel)) (.cons (ok_iconst (n := 2) (show decode code 204 = .ok (.iconst 2, 1) by decide +kernel) (by decide)) (.cons (ok_iadd (show decode code 205 = .ok (.iadd, 1) by decide +kernel)) (.cons (ok_sld rfl (show decode code 206 = .ok (.iaload, 1) by decide +kernel)) .nil))))))))))
theorem B_L_law_210 (L : Nat) (xs : Nat → Int32) : Blk (m_L_law L xs) 210 [o_ald 2, o_ald 0, o_ild 3, o_pure (g_push (.int 1)), o_pure (g_ii (fun x y => x + y)), o_sld L xs, o_ald 0, o_ild 3, o_pure (g_push (.int 2)), o_pure (g_ii (fun x y => x + y)), o_sld L xs] 221 := .cons (ok_aload_n (k := 2) rfl (show decode code 210 = .ok (.aload_n 2, 1) by decide +kernel)) (.cons (ok_aload_n (k := 0) rfl (show decode code 211 = .ok (.aload_n 0, 1) by decide +kernel)) (.cons (ok_iload_n (k := 3) rfl (show decode code 212 = .ok (.iload_n 3, 1) by decide +kernel)) (.cons (ok_iconst (n := 1) (show decode code 213 = .ok (.iconst 1, 1) by decide +kernel) (by decide)) (.cons (ok_iadd (show decode code 214 = .ok (.iadd, 1) by decide +kernel)) (.cons (ok_sld rfl (show decode code 215 = .ok (.iaload, 1) by decide +kernel)) (.cons (ok_aload_n (k := 0) rfl (show decode code 216 = .ok (.aload_n 0, 1) by decide +kernel)) (.cons (ok_iload_n (k := 3) rfl (show decode code 217 = .ok (.iload_n 3, 1) by decide +kernel)) (.cons (ok_iconst (n := 2) (show decode code 218 = .ok (.iconst 2, 1) by decide +kernel) (by decide)) (.cons (ok_iadd (show decode code 219 = .ok (.iadd, 1) by decide +kernel)) (.cons (ok_sld rfl (show decode code 220 = .ok (.iaload, 1) by decide +kernel)) .nil))))))))))
theorem B_L_law_227 (L : Nat) (xs : Nat → Int32) : Blk (m_L_law L xs) 227 [o_pure (g_push (.int 0))] 228 := .cons (ok_iconst (n := 0) (show decode code 227 = .ok (.iconst 0, 1) by decide +kernel) (by decide)) .nil
theorem B_L_law_229 (L : Nat) (xs : Nat → Int32) : Blk (m_L_law L xs) 229 [o_ald 1] 230 := .cons (ok_aload_n (k := 1) rfl (show decode code 229 = .ok (.aload_n 1, 1) by decide +kernel)) .nil
theorem B_L_law_233 (L : Nat) (xs : Nat → Int32) : Blk (m_L_law L xs) 233 [o_ald 2] 234 := .cons (ok_aload_n (k := 2) rfl (show decode code 233 = .ok (.aload_n 2, 1) by decide +kernel)) .nil
theorem B_L_law_240 (L : Nat) (xs : Nat → Int32) : Blk (m_L_law L xs) 240 [o_pure (g_push (.int 0))] 241 := .cons (ok_iconst (n := 0) (show decode code 240 = .ok (.iconst 0, 1) by decide +kernel) (by decide)) .nil
theorem B_L_law_242 (L : Nat) (xs : Nat → Int32) : Blk (m_L_law L xs) 242 [o_ald 1] 243 := .cons (ok_aload_n (k := 1) rfl (show decode code 242 = .ok (.aload_n 1, 1) by decide +kernel)) .nil
theorem B_L_law_246 (L : Nat) (xs : Nat → Int32) : Blk (m_L_law L xs) 246 [o_ald 2] 247 := .cons (ok_aload_n (k := 2) rfl (show decode code 246 = .ok (.aload_n 2, 1) by decide +kernel)) .nil
theorem B_L_law_253 (L : Nat) (xs : Nat → Int32) : Blk (m_L_law L xs) 253 [o_pure (g_push (.int 0))] 254 := .cons (ok_iconst (n := 0) (show decode code 253 = .ok (.iconst 0, 1) by decide +kernel) (by decide)) .nil
theorem B_L_law_255 (L : Nat) (xs : Nat → Int32) : Blk (m_L_law L xs) 255 [o_ald 1, o_ald 0, o_ild 3, o_pure (g_push (.int 1)), o_pure (g_ii (fun x y => x + y)), o_sld L xs, o_ald 0, o_ild 3, o_pure (g_push (.int 2)), o_pure (g_ii (fun x y => x + y)), o_sld L xs] 266 := .cons (ok_aload_n (k := 1) rfl (show decode code 255 = .ok (.aload_n 1, 1) by decide +kernel)) (.cons (ok_aload_n (k := 0) rfl (show decode code 256 = .ok (.aload_n 0, 1) by decide +kernel)) (.cons (ok_iload_n (k := 3) rfl (show decode code 257 = .ok (.iload_n 3, 1) by decide +kernel)) (.cons (ok_iconst (n := 1) (show decode code 258 = .ok (.iconst 1, 1) by decide +kernel) (by decide)) (.cons (ok_iadd (show decode code 259 = .ok (.iadd, 1) by decide +kernel)) (.cons (ok_sld rfl (show decode code 260 = .ok (.iaload, 1) by decide +kernel)) (.cons (ok_aload_n (k := 0) rfl (show decode code 261 = .ok (.aload_n 0, 1) by decide +kernel)) (.cons (ok_iload_n (k := 3) rfl (show decode code 262 = .ok (.iload_n 3, 1) by decide +kernel)) (.cons (ok_iconst (n := 2) (show decode code 263 = .ok (.iconst 2, 1) by decide +kernel) (by decide)) (.cons (ok_iadd (show decode code 264 = .ok (.iadd, 1) by decide +kernel)) (.cons (ok_sld rfl (show decode code 265 = .ok (.iaload, 1) by decide +kernel)) .nil))))))))))
theorem B_L_law_269 (L : Nat) (xs : Nat → Int32) : Blk (m_L_law L xs) 269 [o_ald 2, o_ald 0, o_ild 3, o_pure (g_push (.int 1)), o_pure (g_ii (fun x y => x + y)), o_sld L xs, o_ald 0, o_ild 3, o_pure (g_push (.int 2)), o_pure (g_ii (fun x y => x + y)), o_sld L xs] 280 := .cons (ok_aload_n (k := 2) rfl (show decode code 269 = .ok (.aload_n 2, 1) by decide +kernel)) (.cons (ok_aload_n (k := 0) rfl (show decode code 270 = .ok (.aload_n 0, 1) by decide +kernel)) (.cons (ok_iload_n (k := 3) rfl (show decode code 271 = .ok (.iload_n 3, 1) by decide +kernel)) (.cons (ok_iconst (n := 1) (show decode code 272 = .ok (.iconst 1, 1) by decide +kernel) (by decide)) (.cons (ok_iadd (show decode code 273 = .ok (.iadd, 1) by decide +kernel)) (.cons (ok_sld rfl (show decode code 274 = .ok (.iaload, 1) by decide +kernel)) (.cons (ok_aload_n (k := 0) rfl (show decode code 275 = .ok (.aload_n 0, 1) by decide +kernel)) (.cons (ok_iload_n (k := 3) rfl (show decode code 276 = .ok (.iload_n 3, 1) by decide +kernel)) (.cons (ok_iconst (n := 2) (show decode code 277 = .ok (.iconst 2, 1) by decide +kernel) (by decide)) (.cons (ok_iadd (show decode code 278 = .ok (.iadd, 1) by decide +kernel)) (.cons (ok_sld rfl (show decode code 279 = .ok (.iaload, 1) by decide +kernel)) .nil))))))))))
theorem B_L_law_286 (L : Nat) (xs : Nat → Int32) : Blk (m_L_law L xs) 286 [o_pure (g_push (.int 0))] 287 := .cons (ok_iconst (n := 0) (show decode code 286 = .ok (.iconst 0, 1) by decide +kernel) (by decide)) .nil
theorem B_L_law_288 (L : Nat) (xs : Nat → Int32) : Blk (m_L_law L xs) 288 [o_ald 1, o_ald 0, o_ild 3, o_pure (g_push (.int 1)), o_pure (g_ii (fun x y => x + y)), o_sld L xs] 294 := .cons (ok_aload_n (k := 1) rfl (show decode code 288 = .ok (.aload_n 1, 1) by decide +kernel)) (.cons (ok_aload_n (k := 0) rfl (show decode code 289 = .ok (.aload_n 0, 1) by decide +kernel)) (.cons (ok_iload_n (k := 3) rfl (show decode code 290 = .ok (.iload_n 3, 1) by decide +kernel)) (.cons (ok_iconst (n := 1) (show decode code 291 = .ok (.iconst 1, 1) by decide +kernel) (by decide)) (.cons (ok_iadd (show decode code 292 = .ok (.iadd, 1) by decide +kernel)) (.cons (ok_sld rfl (show decode code 293 = .ok (.iaload, 1) by decide +kernel)) .nil)))))
theorem B_L_law_297 (L : Nat) (xs : Nat → Int32) : Blk (m_L_law L xs) 297 [o_ald 2, o_ald 0, o_ild 3, o_pure (g_push (.int 1)), o_pure (g_ii (fun x y => x + y)), o_sld L xs] 303 := .cons (ok_aload_n (k := 2) rfl (show decode code 297 = .ok (.aload_n 2, 1) by decide +kernel)) (.cons (ok_aload_n (k := 0) rfl (show decode code 298 = .ok (.aload_n 0, 1) by decide +kernel)) (.cons (ok_iload_n (k := 3) rfl (show decode code 299 = .ok (.iload_n 3, 1) by decide +kernel)) (.cons (ok_iconst (n := 1) (show decode code 300 = .ok (.iconst 1, 1) by decide +kernel) (by decide)) (.cons (ok_iadd (show decode code 301 = .ok (.iadd, 1) by decide +kernel)) (.cons (ok_sld rfl (show decode code 302 = .ok (.iaload, 1) by decide +kernel)) .nil)))))
theorem B_L_law_309 (L : Nat) (xs : Nat → Int32) : Blk (m_L_law L xs) 309 [o_pure (g_push (.int 0))] 310 := .cons (ok_iconst (n := 0) (show decode code 309 = .ok (.iconst 0, 1) by decide +kernel) (by decide)) .nil
theorem B_L_law_311 (L : Nat) (xs : Nat → Int32) : Blk (m_L_law L xs) 311 [o_ald 1, o_ald 0, o_ild 3, o_pure (g_push (.int 1)), o_pure (g_ii (fun x y => x + y)), o_sld L xs, o_ald 0, o_ild 3, o_pure (g_push (.int 2)), o_pure (g_ii (fun x y => x + y)), o_sld L xs, o_ald 0, o_ild 3, o_pure (g_push (.int 3)), o_pure (g_ii (fun x y => x + y)), o_sld L xs, o_ald 0, o_ild 3, o_pure (g_push (.int 4)), o_pure (g_ii (fun x y => x + y)), o_sld L xs] 332 := .cons (ok_aload_n (k := 1) rfl (show decode code 311 = .ok (.aload_n 1, 1) by decide +kernel)) (.cons (ok_aload_n (k := 0) rfl (show decode code 312 = .ok (.aload_n 0, 1) by decide +kernel)) (.cons (ok_iload_n (k := 3) rfl (show decode code 313 = .ok (.iload_n 3, 1) by decide +kernel)) (.cons (ok_iconst (n := 1) (show decode code 314 = .ok (.iconst 1, 1) by decide +kernel) (by decide)) (.cons (ok_iadd (show decode code 315 = .ok (.iadd, 1) by decide +kernel)) (.cons (ok_sld rfl (show decode code 316 = .ok (.iaload, 1) by decide +kernel)) (.cons (ok_aload_n (k := 0) rfl (show decode code 317 = .ok (.aload_n 0, 1) by decide +kernel)) (.cons (ok_iload_n (k := 3) rfl (show decode code 318 = .ok (.iload_n 3, 1) by decide +kernel)) (.cons (ok_iconst (n := 2) (show decode code 319 = .ok (.iconst 2, 1) by decide +kernel) (by decide)) (.cons (ok_iadd (show decode code 320 = .ok (.iadd, 1) by decide +kernel)) (.cons (ok_sld rfl (show decode code 321 = .ok (.iaload, 1) by decide +kernel)) (.cons (ok_aload_n (k := 0) rfl (show decode code 322 = .ok (.aload_n 0, 1) by decide +kernel)) (.cons (ok_iload_n (k := 3) rfl (show decode code 323 = .ok (.iload_n 3, 1) by decide +kernel)) (.cons (ok_iconst (n := 3) (show decode code 324 = .ok (.iconst 3, 1) by decide +kernel) (by decide)) (.cons (ok_iadd (show decode code 325 = .ok (.iadd, 1) by decide +kernel)) (.cons (ok_sld rfl (show decode code 326 = .ok (.iaload, 1) by decide +kernel)) (.cons (ok_aload_n (k := 0) rfl (show decode code 327 = .ok (.aload_n 0, 1) by decide +kernel)) (.cons (ok_iload_n (k := 3) rfl (show decode code 328 = .ok (.iload_n 3, 1) by decide +kernel)) (.cons (ok_iconst (n := 4) (show decode code 329 = .ok (.iconst 4, 1) by decide +kernel) (by decide)) (.cons (ok_iadd (show decode code 330 = .ok (.iadd, 1) by decide +kernel)) (.cons (ok_sld rfl (show decode code 331 = .ok (.iaload, 1) by decide +kernel)) .nil))))))))))))))))))))
theorem B_L_law_335 (L : Nat) (xs : Nat → Int32) : Blk (m_L_law L xs) 335 [o_ald 2, o_ald 0, o_ild 3, o_pure (g_push (.int 1)), o_pure (g_ii (fun x y => x + y)), o_sld L xs, o_ald 0, o_ild 3, o_pure (g_push (.int 2)), o_pure (g_ii (fun x y => x + y)), o_sld L xs, o_ald 0, o_ild 3, o_pure (g_push (.int 3)), o_pure (g_ii (fun x y => x + y)), o_sld L xs, o_ald 0, o_ild 3, o_pure (g_push (.int 4)), o_pure (g_ii (fun x y => x + y)), o_sld L xs] 356 := .cons (ok_aload_n (k := 2) rfl (show decode code 335 = .ok (.aload_n 2, 1) by decide +kernel)) (.cons (ok_aload_n (k := 0) rfl (show decode code 336 = .ok (.aload_n 0, 1) by decide +kernel)) (.cons (ok_iload_n (k := 3) rfl (show decode code 337 = .ok (.iload_n 3, 1) by decide +kernel)) (.cons (ok_iconst (n := 1) (show decode code 338 = .ok (.iconst 1, 1) by decide +kernel) (by decide)) (.cons (ok_iadd (show decode code 339 = .ok (.iadd, 1) by decide +kernel)) (.cons (ok_sld rfl (show decode code 340 = .ok (.iaload, 1) by decide +kernel)) (.cons (ok_aload_n (k := 0) rfl (show decode code 341 = .ok (.aload_n 0, 1) by decide +kernel)) (.cons (ok_iload_n (k := 3) rfl (show decode code 342 = .ok (.iload_n 3, 1) by decide +kernel)) (.cons (ok_iconst (n := 2) (show decode code 343 = .ok (.iconst 2, 1) by decide +kernel) (by decide)) (.cons (ok_iadd (show decode code 344 = .ok (.iadd, 1) by decide +kernel)) (.cons (ok_sld rfl (show decode code 345 = .ok (.iaload, 1) by decide +kernel)) (.cons (ok_aload_n (k := 0) rfl (show decode code 346 = .ok (.aload_n 0, 1) by decide +kernel)) (.cons (ok_iload_n (k := 3) rfl (show decode code 347 = .ok (.iload_n 3, 1) by decide +kernel)) (.cons (ok_iconst (n := 3) (show decode code 348 = .ok (.iconst 3, 1) by decide +kernel) (by decide)) (.cons (ok_iadd (show decode code 349 = .ok (.iadd, 1) by decide +kernel)) (.cons (ok_sld rfl (show decode code 350 = .ok (.iaload, 1) by decide +kernel)) (.cons (ok_aload_n (k := 0) rfl (show decode code 351 = .ok (.aload_n 0, 1) by decide +kernel)) (.cons (ok_iload_n (k := 3) rfl (show decode code 352 = .ok (.iload_n 3, 1) by decide +kernel)) (.cons (ok_iconst (n := 4) (show decode code 353 = .ok (.iconst 4, 1) by decide +kernel) (by decide)) (.cons (ok_iadd (show decode code 354 = .ok (.iadd, 1) by decide +kernel)) (.cons (ok_sld rfl (show decode code 355 = .ok (.iaload, 1) by decide +kernel)) .nil))))))))))))))))))))
theorem B_L_law_362 (L : Nat) (xs : Nat → Int32) : Blk (m_L_law L xs) 362 [o_pure (g_push (.int 0))] 363 := .cons (ok_iconst (n := 0) (show decode code 362 = .ok (.iconst 0, 1) by decide +kernel) (by decide)) .nil
theorem B_L_law_364 (L : Nat) (xs : Nat → Int32) : Blk (m_L_law L xs) 364 [o_ald 1, o_ald 0, o_ild 3, o_pure (g_push (.int 1)), o_pure (g_ii (fun x y => x + y)), o_sld L xs, o_ald 0, o_ild 3, o_pure (g_push (.int 2)), o_pure (g_ii (fun x y => x + y)), o_sld L xs] 375 := .cons (ok_aload_n (k := 1) rfl (show decode code 364 = .ok (.aload_n 1, 1) by decide +kernel)) (.cons (ok_aload_n (k := 0) rfl (show decode code 365 = .ok (.aload_n 0, 1) by decide +kernel)) (.cons (ok_iload_n (k := 3) rfl (show decode code 366 = .ok (.iload_n 3, 1) by decide +kernel)) (.cons (ok_iconst (n := 1) (show decode code 367 = .ok (.iconst 1, 1) by decide +kernel) (by decide)) (.cons (ok_iadd (show decode code 368 = .ok (.iadd, 1) by decide +kernel)) (.cons (ok_sld rfl (show decode code 369 = .ok (.iaload, 1) by decide +kernel)) (.cons (ok_aload_n (k := 0) rfl (show decode code 370 = .ok (.aload_n 0, 1) by decide +kernel)) (.cons (ok_iload_n (k := 3) rfl (show decode code 371 = .ok (.iload_n 3, 1) by decide +kernel)) (.cons (ok_iconst (n := 2) (show decode code 372 = .ok (.iconst 2, 1) by decide +kernel) (by decide)) (.cons (ok_iadd (show decode code 373 = .ok (.iadd, 1) by decide +kernel)) (.cons (ok_sld rfl (show decode code 374 = .ok (.iaload, 1) by decide +kernel)) .nil))))))))))
theorem B_L_law_378 (L : Nat) (xs : Nat → Int32) : Blk (m_L_law L xs) 378 [o_ald 2, o_ald 0, o_ild 3, o_pure (g_push (.int 1)), o_pure (g_ii (fun x y => x + y)), o_sld L xs, o_ald 0, o_ild 3, o_pure (g_push (.int 2)), o_pure (g_ii (fun x y => x + y)), o_sld L xs] 389 := .cons (ok_aload_n (k := 2) rfl (show decode code 378 = .ok (.aload_n 2, 1) by decide +kernel)) (.cons (ok_aload_n (k := 0) rfl (show decode code 379 = .ok (.aload_n 0, 1) by decide +kernel)) (.cons (ok_iload_n (k := 3) rfl (show decode code 380 = .ok (.iload_n 3, 1) by decide +kernel)) (.cons (ok_iconst (n := 1) (show decode code 381 = .ok (.iconst 1, 1) by decide +kernel) (by decide)) (.cons (ok_iadd (show decode code 382 = .ok (.iadd, 1) by decide +kernel)) (.cons (ok_sld rfl (show decode code 383 = .ok (.iaload, 1) by decide +kernel)) (.cons (ok_aload_n (k := 0) rfl (show decode code 384 = .ok (.aload_n 0, 1) by decide +kernel)) (.cons (ok_iload_n (k := 3) rfl (show decode code 385 = .ok (.iload_n 3, 1) by decide +kernel)) (.cons (ok_iconst (n := 2) (show decode code 386 = .ok (.iconst 2, 1) by decide +kernel) (by decide)) (.cons (ok_iadd (show decode code 387 = .ok (.iadd, 1) by decide +kernel)) (.cons (ok_sld rfl (show decode code 388 = .ok (.iaload, 1) by decide +kernel)) .nil))))))))))
theorem B_L_law_395 (L : Nat) (xs : Nat → Int32) : Blk (m_L_law L xs) 395 [o_pure (g_push (.int 0))] 396 := .cons (ok_iconst (n := 0) (show decode code 395 = .ok (.iconst 0, 1) by decide +kernel) (by decide)) .nil
theorem B_L_law_397 (L : Nat) (xs : Nat → Int32) : Blk (m_L_law L xs) 397 [o_ald 1, o_ald 0, o_ild 3, o_pure (g_push (.int 1)), o_pure (g_ii (fun x y => x + y)), o_sld L xs, o_ald 0, o_ild 3, o_pure (g_push (.int 2)), o_pure (g_ii (fun x y => x + y)), o_sld L xs] 408 := .cons (ok_aload_n (k := 1) rfl (show decode code 397 = .ok (.aload_n 1, 1) by decide +kernel)) (.cons (ok_aload_n (k := 0) rfl (show decode code 398 = .ok (.aload_n 0, 1) by decide +kernel)) (.cons (ok_iload_n (k := 3) rfl (show decode code 399 = .ok (.iload_n 3, 1) by decide +kernel)) (.cons (ok_iconst (n := 1) (show decode code 400 = .ok (.iconst 1, 1) by decide +kernel) (by decide)) (.cons (ok_iadd (show decode code 401 = .ok (.iadd, 1) by decide +kernel)) (.cons (ok_sld rfl (show decode code 402 = .ok (.iaload, 1) by decide +kernel)) (.cons (ok_aload_n (k := 0) rfl (show decode code 403 = .ok (.aload_n 0, 1) by decide +kernel)) (.cons (ok_iload_n (k := 3) rfl (show decode code 404 = .ok (.iload_n 3, 1) by decide +kernel)) (.cons (ok_iconst (n := 2) (show decode code 405 = .ok (.iconst 2, 1) by decide +kernel) (by decide)) (.cons (ok_iadd (show decode code 406 = .ok (.iadd, 1) by decide +kernel)) (.cons (ok_sld rfl (show decode code 407 = .ok (.iaload, 1) by decide +kernel)) .nil))))))))))
theorem B_L_law_411 (L : Nat) (xs : Nat → Int32) : Blk (m_L_law L xs) 411 [o_ald 2, o_ald 0, o_ild 3, o_pure (g_push (.int 1)), o_pure (g_ii (fun x y => x + y)), o_sld L xs, o_ald 0, o_ild 3, o_pure (g_push (.int 2)), o_pure (g_ii (fun x y => x + y)), o_sld L xs] 422 := .cons (ok_aload_n (k := 2) rfl (show decode code 411 = .ok (.aload_n 2, 1) by decide +kernel)) (.cons (ok_aload_n (k := 0) rfl (show decode code 412 = .ok (.aload_n 0, 1) by decide +kernel)) (.cons (ok_iload_n (k := 3) rfl (show decode code 413 = .ok (.iload_n 3, 1) by decide +kernel)) (.cons (ok_iconst (n := 1) (show decode code 414 = .ok (.iconst 1, 1) by decide +kernel) (by decide)) (.cons (ok_iadd (show decode code 415 = .ok (.iadd, 1) by decide +kernel)) (.cons (ok_sld rfl (show decode code 416 = .ok (.iaload, 1) by decide +kernel)) (.cons (ok_aload_n (k := 0) rfl (show decode code 417 = .ok (.aload_n 0, 1) by decide +kernel)) (.cons (ok_iload_n (k := 3) rfl (show decode code 418 = .ok (.iload_n 3, 1) by decide +kernel)) (.cons (ok_iconst (n := 2) (show decode code 419 = .ok (.iconst 2, 1) by decide +kernel) (by decide)) (.cons (ok_iadd (show decode code 420 = .ok (.iadd, 1) by decide +kernel)) (.cons (ok_sld rfl (show decode code 421 = .ok (.iaload, 1) by decide +kernel)) .nil))))))))))
theorem B_L_law_428 (L : Nat) (xs : Nat → Int32) : Blk (m_L_law L xs) 428 [o_pure (g_push (.int 0))] 429 := .cons (ok_iconst (n := 0) (show decode code 428 = .ok (.iconst 0, 1) by decide +kernel) (by decide)) .nil
theorem B_L_law_430 (L : Nat) (xs : Nat → Int32) : Blk (m_L_law L xs) 430 [o_ald 1, o_ald 0, o_ild 3, o_pure (g_push (.int 1)), o_pure (g_ii (fun x y => x + y)), o_sld L xs, o_ald 0, o_ild 3, o_pure (g_push (.int 2)), o_pure (g_ii (fun x y => x + y)), o_sld L xs] 441 := .cons (ok_aload_n (k := 1) rfl (show decode code 430 = .ok (.aload_n 1, 1) by decide +kernel)) (.cons (ok_aload_n (k := 0) rfl (show decode code 431 = .ok (.aload_n 0, 1) by decide +kernel)) (.cons (ok_iload_n (k := 3) rfl (show decode code 432 = .ok (.iload_n 3, 1) by decide +kernel)) (.cons (ok_iconst (n := 1) (show decode code 433 = .ok (.iconst 1, 1) by decide +kernel) (by decide)) (.cons (ok_iadd (show decode code 434 = .ok (.iadd, 1) by decide +kernel)) (.cons (ok_sld rfl (show decode code 435 = .ok (.iaload, 1) by decide +kernel)) (.cons (ok_aload_n (k := 0) rfl (show decode code 436 = .ok (.aload_n 0, 1) by decide +kernel)) (.cons (ok_iload_n (k := 3) rfl (show decode code 437 = .ok (.iload_n 3, 1) by decide +kernel)) (.cons (ok_iconst (n := 2) (show decode code 438 = .ok (.iconst 2, 1) by decide +kernel) (by decide)) (.cons (ok_iadd (show decode code 439 = .ok (.iadd, 1) by decide +kernel)) (.cons (ok_sld rfl (show decode code 440 = .ok (.iaload, 1) by decide +kernel)) .nil))))))))))
theorem B_L_law_444 (L : Nat) (xs : Nat → Int32) : Blk (m_L_law L xs) 444 [o_ald 2, o_ald 0, o_ild 3, o_pure (g_push (.int 1)), o_pure (g_ii (fun x y => x + y)), o_sld L xs, o_ald 0, o_ild 3, o_pure (g_push (.int 2)), o_pure (g_ii (fun x y => x + y)), o_sld L xs] 455 := .cons (ok_aload_n (k := 2) rfl (show decode code 444 = .ok (.aload_n 2, 1) by decide +kernel)) (.cons (ok_aload_n (k := 0) rfl (show decode code 445 = .ok (.aload_n 0, 1) by decide +kernel)) (.cons (ok_iload_n (k := 3) rfl (show decode code 446 = .ok (.iload_n 3, 1) by decide +kernel)) (.cons (ok_iconst (n := 1) (show decode code 447 = .ok (.iconst 1, 1) by decide +kernel) (by decide)) (.cons (ok_iadd (show decode code 448 = .ok (.iadd, 1) by decide +kernel)) (.cons (ok_sld rfl (show decode code 449 = .ok (.iaload, 1) by decide +kernel)) (.cons (ok_aload_n (k := 0) rfl (show decode code 450 = .ok (.aload_n 0, 1) by decide +kernel)) (.cons (ok_iload_n (k := 3) rfl (show decode code 451 = .ok (.iload_n 3, 1) by decide +kernel)) (.cons (ok_iconst (n := 2) (show decode code 452 = .ok (.iconst 2, 1) by decide +kernel) (by decide)) (.cons (ok_iadd (show decode code 453 = .ok (.iadd, 1) by decide +kernel)) (.cons (ok_sld rfl (show decode code 454 = .ok (.iaload, 1) by decide +kernel)) .nil))))))))))
theorem B_L_law_461 (L : Nat) (xs : Nat → Int32) : Blk (m_L_law L xs) 461 [o_pure (g_push (.int 0))] 462 := .cons (ok_iconst (n := 0) (show decode code 461 = .ok (.iconst 0, 1) by decide +kernel) (by decide)) .nil
theorem B_L_law_463 (L : Nat) (xs : Nat → Int32) : Blk (m_L_law L xs) 463 [o_ald 1] 464 := .cons (ok_aload_n (k := 1) rfl (show decode code 463 = .ok (.aload_n 1, 1) by decide +kernel)) .nil
theorem B_L_law_467 (L : Nat) (xs : Nat → Int32) : Blk (m_L_law L xs) 467 [o_ald 2] 468 := .cons (ok_aload_n (k := 2) rfl (show decode code 467 = .ok (.aload_n 2, 1) by decide +kernel)) .nil
theorem B_L_law_474 (L : Nat) (xs : Nat → Int32) : Blk (m_L_law L xs) 474 [o_pure (g_push (.int 0))] 475 := .cons (ok_iconst (n := 0) (show decode code 474 = .ok (.iconst 0, 1) by decide +kernel) (by decide)) .nil
theorem B_L_law_476 (L : Nat) (xs : Nat → Int32) : Blk (m_L_law L xs) 476 [o_ald 1] 477 := .cons (ok_aload_n (k := 1) rfl (show decode code 476 = .ok (.aload_n 1, 1) by decide +kernel)) .nil
theorem B_L_law_480 (L : Nat) (xs : Nat → Int32) : Blk (m_L_law L xs) 480 [o_ald 2] 481 := .cons (ok_aload_n (k := 2) rfl (show decode code 480 = .ok (.aload_n 2, 1) by decide +kernel)) .nil
theorem B_L_law_487 (L : Nat) (xs : Nat → Int32) : Blk (m_L_law L xs) 487 [o_pure (g_push (.int 0))] 488 := .cons (ok_iconst (n := 0) (show decode code 487 = .ok (.iconst 0, 1) by decide +kernel) (by decide)) .nil
theorem B_L_law_489 (L : Nat) (xs : Nat → Int32) : Blk (m_L_law L xs) 489 [o_ald 1] 490 := .cons (ok_aload_n (k := 1) rfl (show decode code 489 = .ok (.aload_n 1, 1) by decide +kernel)) .nil
theorem B_L_law_493 (L : Nat) (xs : Nat → Int32) : Blk (m_L_law L xs) 493 [o_ald 2] 494 := .cons (ok_aload_n (k := 2) rfl (show decode code 493 = .ok (.aload_n 2, 1) by decide +kernel)) .nil
theorem B_L_law_500 (L : Nat) (xs : Nat → Int32) : Blk (m_L_law L xs) 500 [o_pure (g_push (.int 0))] 501 := .cons (ok_iconst (n := 0) (show decode code 500 = .ok (.iconst 0, 1) by decide +kernel) (by decide)) .nil
theorem B_L_law_502 (L : Nat) (xs : Nat → Int32) : Blk (m_L_law L xs) 502 [o_ald 1, o_ald 0, o_ild 3, o_pure (g_push (.int 1)), o_pure (g_ii (fun x y => x + y)), o_sld L xs, o_ald 0, o_ild 3, o_pure (g_push (.int 2)), o_pure (g_ii (fun x y => x + y)), o_sld L xs, o_ald 0, o_ild 3, o_pure (g_push (.int 3)), o_pure (g_ii (fun x y => x + y)), o_sld L xs] 518 := .cons (ok_aload_n (k := 1) rfl (show decode code 502 = .ok (.aload_n 1, 1) by decide +kernel)) (.cons (ok_aload_n (k := 0) rfl (show decode code 503 = .ok (.aload_n 0, 1) by decide +kernel)) (.cons (ok_iload_n (k := 3) rfl (show decode code 504 = .ok (.iload_n 3, 1) by decide +kernel)) (.cons (ok_iconst (n := 1) (show decode code 505 = .ok (.iconst 1, 1) by decide +kernel) (by decide)) (.cons (ok_iadd (show decode code 506 = .ok (.iadd, 1) by decide +kernel)) (.cons (ok_sld rfl (show decode code 507 = .ok (.iaload, 1) by decide +kernel)) (.cons (ok_aload_n (k := 0) rfl (show decode code 508 = .ok (.aload_n 0, 1) by decide +kernel)) (.cons (ok_iload_n (k := 3) rfl (show decode code 509 = .ok (.iload_n 3, 1) by decide +kernel)) (.cons (ok_iconst (n := 2) (show decode code 510 = .ok (.iconst 2, 1) by decide +kernel) (by decide)) (.cons (ok_iadd (show decode code 511 = .ok (.iadd, 1) by decide +kernel)) (.cons (ok_sld rfl (show decode code 512 = .ok (.iaload, 1) by decide +kernel)) (.cons (ok_aload_n (k := 0) rfl (show decode code 513 = .ok (.aload_n 0, 1) by decide +kernel)) (.cons (ok_iload_n (k := 3) rfl (show decode code 514 = .ok (.iload_n 3, 1) by decide +kernel)) (.cons (ok_iconst (n := 3) (show decode code 515 = .ok (.iconst 3, 1) by decide +kernel) (by decide)) (.cons (ok_iadd (show decode code 516 = .ok (.iadd, 1) by decide +kernel)) (.cons (ok_sld rfl (show decode code 517 = .ok (.iaload, 1) by decide +kernel)) .nil)))))))))))))))
theorem B_L_law_521 (L : Nat) (xs : Nat → Int32) : Blk (m_L_law L xs) 521 [o_ald 2, o_ald 0, o_ild 3, o_pure (g_push (.int 1)), o_pure (g_ii (fun x y => x + y)), o_sld L xs, o_ald 0, o_ild 3, o_pure (g_push (.int 2)), o_pure (g_ii (fun x y => x + y)), o_sld L xs, o_ald 0, o_ild 3, o_pure (g_push (.int 3)), o_pure (g_ii (fun x y => x + y)), o_sld L xs] 537 := .cons (ok_aload_n (k := 2) rfl (show decode code 521 = .ok (.aload_n 2, 1) by decide +kernel)) (.cons (ok_aload_n (k := 0) rfl (show decode code 522 = .ok (.aload_n 0, 1) by decide +kernel)) (.cons (ok_iload_n (k := 3) rfl (show decode code 523 = .ok (.iload_n 3, 1) by decide +kernel)) (.cons (ok_iconst (n := 1) (show decode code 524 = .ok (.iconst 1, 1) by decide +kernel) (by decide)) (.cons (ok_iadd (show decode code 525 = .ok (.iadd, 1) by decide +kernel)) (.cons (ok_sld rfl (show decode code 526 = .ok (.iaload, 1) by decide +kernel)) (.cons (ok_aload_n (k := 0) rfl (show decode code 527 = .ok (.aload_n 0, 1) by decide +kernel)) (.cons (ok_iload_n (k := 3) rfl (show decode code 528 = .ok (.iload_n 3, 1) by decide +kernel)) (.cons (ok_iconst (n := 2) (show decode code 529 = .ok (.iconst 2, 1) by decide +kernel) (by decide)) (.cons (ok_iadd (show decode code 530 = .ok (.iadd, 1) by decide +kernel)) (.cons (ok_sld rfl (show decode code 531 = .ok (.iaload, 1) by decide +kernel)) (.cons (ok_aload_n (k := 0) rfl (show decode code 532 = .ok (.aload_n 0, 1) by decide +kernel)) (.cons (ok_iload_n (k := 3) rfl (show decode code 533 = .ok (.iload_n 3, 1) by decide +kernel)) (.cons (ok_iconst (n := 3) (show decode code 534 = .ok (.iconst 3, 1) by decide +kernel) (by decide)) (.cons (ok_iadd (show decode code 535 = .ok (.iadd, 1) by decide +kernel)) (.cons (ok_sld rfl (show decode code 536 = .ok (.iaload, 1) by decide +kernel)) .nil)))))))))))))))
theorem B_L_law_540 (L : Nat) (xs : Nat → Int32) : Blk (m_L_law L xs) 540 [o_pure (g_cmp)] 541 := .cons (ok_lcmp (show decode code 540 = .ok (.lcmp, 1) by decide +kernel)) .nil
theorem B_L_law_544 (L : Nat) (xs : Nat → Int32) : Blk (m_L_law L xs) 544 [o_pure (g_push (.int 0))] 545 := .cons (ok_iconst (n := 0) (show decode code 544 = .ok (.iconst 0, 1) by decide +kernel) (by decide)) .nil
theorem B_L_law_546 (L : Nat) (xs : Nat → Int32) : Blk (m_L_law L xs) 546 [o_ald 1, o_ald 0, o_ild 3, o_pure (g_push (.int 1)), o_pure (g_ii (fun x y => x + y)), o_sld L xs, o_ald 0, o_ild 3, o_pure (g_push (.int 2)), o_pure (g_ii (fun x y => x + y)), o_sld L xs, o_ald 0, o_ild 3, o_pure (g_push (.int 3)), o_pure (g_ii (fun x y => x + y)), o_sld L xs] 562 := .cons (ok_aload_n (k := 1) rfl (show decode code 546 = .ok (.aload_n 1, 1) by decide +kernel)) (.cons (ok_aload_n (k := 0) rfl (show decode code 547 = .ok (.aload_n 0, 1) by decide +kernel)) (.cons (ok_iload_n (k := 3) rfl (show decode code 548 = .ok (.iload_n 3, 1) by decide +kernel)) (.cons (ok_iconst (n := 1) (show decode code 549 = .ok (.iconst 1, 1) by decide +kernel) (by decide)) (.cons (ok_iadd (show decode code 550 = .ok (.iadd, 1) by decide +kernel)) (.cons (ok_sld rfl (show decode code 551 = .ok (.iaload, 1) by decide +kernel)) (.cons (ok_aload_n (k := 0) rfl (show decode code 552 = .ok (.aload_n 0, 1) by decide +kernel)) (.cons (ok_iload_n (k := 3) rfl (show decode code 553 = .ok (.iload_n 3, 1) by decide +kernel)) (.cons (ok_iconst (n := 2) (show decode code 554 = .ok (.iconst 2, 1) by decide +kernel) (by decide)) (.cons (ok_iadd (show decode code 555 = .ok (.iadd, 1) by decide +kernel)) (.cons (ok_sld rfl (show decode code 556 = .ok (.iaload, 1) by decide +kernel)) (.cons (ok_aload_n (k := 0) rfl (show decode code 557 = .ok (.aload_n 0, 1) by decide +kernel)) (.cons (ok_iload_n (k := 3) rfl (show decode code 558 = .ok (.iload_n 3, 1) by decide +kernel)) (.cons (ok_iconst (n := 3) (show decode code 559 = .ok (.iconst 3, 1) by decide +kernel) (by decide)) (.cons (ok_iadd (show decode code 560 = .ok (.iadd, 1) by decide +kernel)) (.cons (ok_sld rfl (show decode code 561 = .ok (.iaload, 1) by decide +kernel)) .nil)))))))))))))))
theorem B_L_law_565 (L : Nat) (xs : Nat → Int32) : Blk (m_L_law L xs) 565 [o_ald 2, o_ald 0, o_ild 3, o_pure (g_push (.int 1)), o_pure (g_ii (fun x y => x + y)), o_sld L xs, o_ald 0, o_ild 3, o_pure (g_push (.int 2)), o_pure (g_ii (fun x y => x + y)), o_sld L xs, o_ald 0, o_ild 3, o_pure (g_push (.int 3)), o_pure (g_ii (fun x y => x + y)), o_sld L xs] 581 := .cons (ok_aload_n (k := 2) rfl (show decode code 565 = .ok (.aload_n 2, 1) by decide +kernel)) (.cons (ok_aload_n (k := 0) rfl (show decode code 566 = .ok (.aload_n 0, 1) by decide +kernel)) (.cons (ok_iload_n (k := 3) rfl (show decode code 567 = .ok (.iload_n 3, 1) by decide +kernel)) (.cons (ok_iconst (n := 1) (show decode code 568 = .ok (.iconst 1, 1) by decide +kernel) (by decide)) (.cons (ok_iadd (show decode code 569 = .ok (.iadd, 1) by decide +kernel)) (.cons (ok_sld rfl (show decode code 570 = .ok (.iaload, 1) by decide +kernel)) (.cons (ok_aload_n (k := 0) rfl (show decode code 571 = .ok (.aload_n 0, 1) by decide +kernel)) (.cons (ok_iload_n (k := 3) rfl (show decode code 572 = .ok (.iload_n 3, 1) by decide +kernel)) (.cons (ok_iconst (n := 2) (show decode code 573 = .ok (.iconst 2, 1) by decide +kernel) (by decide)) (.cons (ok_iadd (show decode code 574 = .ok (.iadd, 1) by decide +kernel)) (.cons (ok_sld rfl (show decode code 575 = .ok (.iaload, 1) by decide +kernel)) (.cons (ok_aload_n (k := 0) rfl (show decode code 576 = .ok (.aload_n 0, 1) by decide +kernel)) (.cons (ok_iload_n (k := 3) rfl (show decode code 577 = .ok (.iload_n 3, 1) by decide +kernel)) (.cons (ok_iconst (n := 3) (show decode code 578 = .ok (.iconst 3, 1) by decide +kernel) (by decide)) (.cons (ok_iadd (show decode code 579 = .ok (.iadd, 1) by decide +kernel)) (.cons (ok_sld rfl (show decode code 580 = .ok (.iaload, 1) by decide +kernel)) .nil)))))))))))))))
theorem B_L_law_584 (L : Nat) (xs : Nat → Int32) : Blk (m_L_law L xs) 584 [o_pure (g_cmp)] 585 := .cons (ok_lcmp (show decode code 584 = .ok (.lcmp, 1) by decide +kernel)) .nil
theorem B_L_law_588 (L : Nat) (xs : Nat → Int32) : Blk (m_L_law L xs) 588 [o_pure (g_push (.int 0))] 589 := .cons (ok_iconst (n := 0) (show decode code 588 = .ok (.iconst 0, 1) by decide +kernel) (by decide)) .nil
theorem B_L_law_590 (L : Nat) (xs : Nat → Int32) : Blk (m_L_law L xs) 590 [o_ald 1, o_ald 0, o_ild 3, o_pure (g_push (.int 1)), o_pure (g_ii (fun x y => x + y)), o_sld L xs, o_ald 0, o_ild 3, o_pure (g_push (.int 2)), o_pure (g_ii (fun x y => x + y)), o_sld L xs, o_ald 0, o_ild 3, o_pure (g_push (.int 3)), o_pure (g_ii (fun x y => x + y)), o_sld L xs] 606 := .cons (ok_aload_n (k := 1) rfl (show decode code 590 = .ok (.aload_n 1, 1) by decide +kernel)) (.cons (ok_aload_n (k := 0) rfl (show decode code 591 = .ok (.aload_n 0, 1) by decide +kernel)) (.cons (ok_iload_n (k := 3) rfl (show decode code 592 = .ok (.iload_n 3, 1) by decide +kernel)) (.cons (ok_iconst (n := 1) (show decode code 593 = .ok (.iconst 1, 1) by decide +kernel) (by decide)) (.cons (ok_iadd (show decode code 594 = .ok (.iadd, 1) by decide +kernel)) (.cons (ok_sld rfl (show decode code 595 = .ok (.iaload, 1) by decide +kernel)) (.cons (ok_aload_n (k := 0) rfl (show decode code 596 = .ok (.aload_n 0, 1) by decide +kernel)) (.cons (ok_iload_n (k := 3) rfl (show decode code 597 = .ok (.iload_n 3, 1) by decide +kernel)) (.cons (ok_iconst (n := 2) (show decode code 598 = .ok (.iconst 2, 1) by decide +kernel) (by decide)) (.cons (ok_iadd (show decode code 599 = .ok (.iadd, 1) by decide +kernel)) (.cons (ok_sld rfl (show decode code 600 = .ok (.iaload, 1) by decide +kernel)) (.cons (ok_aload_n (k := 0) rfl (show decode code 601 = .ok (.aload_n 0, 1) by decide +kernel)) (.cons (ok_iload_n (k := 3) rfl (show decode code 602 = .ok (.iload_n 3, 1) by decide +kernel)) (.cons (ok_iconst (n := 3) (show decode code 603 = .ok (.iconst 3, 1) by decide +kernel) (by decide)) (.cons (ok_iadd (show decode code 604 = .ok (.iadd, 1) by decide +kernel)) (.cons (ok_sld rfl (show decode code 605 = .ok (.iaload, 1) by decide +kernel)) .nil)))))))))))))))
theorem B_L_law_609 (L : Nat) (xs : Nat → Int32) : Blk (m_L_law L xs) 609 [o_ald 2, o_ald 0, o_ild 3, o_pure (g_push (.int 1)), o_pure (g_ii (fun x y => x + y)), o_sld L xs, o_ald 0, o_ild 3, o_pure (g_push (.int 2)), o_pure (g_ii (fun x y => x + y)), o_sld L xs, o_ald 0, o_ild 3, o_pure (g_push (.int 3)), o_pure (g_ii (fun x y => x + y)), o_sld L xs] 625 := .cons (ok_aload_n (k := 2) rfl (show decode code 609 = .ok (.aload_n 2, 1) by decide +kernel)) (.cons (ok_aload_n (k := 0) rfl (show decode code 610 = .ok (.aload_n 0, 1) by decide +kernel)) (.cons (ok_iload_n (k := 3) rfl (show decode code 611 = .ok (.iload_n 3, 1) by decide +kernel)) (.cons (ok_iconst (n := 1) (show decode code 612 = .ok (.iconst 1, 1) by decide +kernel) (by decide)) (.cons (ok_iadd (show decode code 613 = .ok (.iadd, 1) by decide +kernel)) (.cons (ok_sld rfl (show decode code 614 = .ok (.iaload, 1) by decide +kernel)) (.cons (ok_aload_n (k := 0) rfl (show decode code 615 = .ok (.aload_n 0, 1) by decide +kernel)) (.cons (ok_iload_n (k := 3) rfl (show decode code 616 = .ok (.iload_n 3, 1) by decide +kernel)) (.cons (ok_iconst (n := 2) (show decode code 617 = .ok (.iconst 2, 1) by decide +kernel) (by decide)) (.cons (ok_iadd (show decode code 618 = .ok (.iadd, 1) by decide +kernel)) (.cons (ok_sld rfl (show decode code 619 = .ok (.iaload, 1) by decide +kernel)) (.cons (ok_aload_n (k := 0) rfl (show decode code 620 = .ok (.aload_n 0, 1) by decide +kernel)) (.cons (ok_iload_n (k := 3) rfl (show decode code 621 = .ok (.iload_n 3, 1) by decide +kernel)) (.cons (ok_iconst (n := 3) (show decode code 622 = .ok (.iconst 3, 1) by decide +kernel) (by decide)) (.cons (ok_iadd (show decode code 623 = .ok (.iadd, 1) by decide +kernel)) (.cons (ok_sld rfl (show decode code 624 = .ok (.iaload, 1) by decide +kernel)) .nil)))))))))))))))
theorem B_L_law_631 (L : Nat) (xs : Nat → Int32) : Blk (m_L_law L xs) 631 [o_pure (g_push (.int 0))] 632 := .cons (ok_iconst (n := 0) (show decode code 631 = .ok (.iconst 0, 1) by decide +kernel) (by decide)) .nil
theorem B_L_law_633 (L : Nat) (xs : Nat → Int32) : Blk (m_L_law L xs) 633 [o_ald 1, o_ald 0, o_ild 3, o_pure (g_push (.int 1)), o_pure (g_ii (fun x y => x + y)), o_sld L xs] 639 := .cons (ok_aload_n (k := 1) rfl (show decode code 633 = .ok (.aload_n 1, 1) by decide +kernel)) (.cons (ok_aload_n (k := 0) rfl (show decode code 634 = .ok (.aload_n 0, 1) by decide +kernel)) (.cons (ok_iload_n (k := 3) rfl (show decode code 635 = .ok (.iload_n 3, 1) by decide +kernel)) (.cons (ok_iconst (n := 1) (show decode code 636 = .ok (.iconst 1, 1) by decide +kernel) (by decide)) (.cons (ok_iadd (show decode code 637 = .ok (.iadd, 1) by decide +kernel)) (.cons (ok_sld rfl (show decode code 638 = .ok (.iaload, 1) by decide +kernel)) .nil)))))
theorem B_L_law_642 (L : Nat) (xs : Nat → Int32) : Blk (m_L_law L xs) 642 [o_ald 2, o_ald 0, o_ild 3, o_pure (g_push (.int 1)), o_pure (g_ii (fun x y => x + y)), o_sld L xs] 648 := .cons (ok_aload_n (k := 2) rfl (show decode code 642 = .ok (.aload_n 2, 1) by decide +kernel)) (.cons (ok_aload_n (k := 0) rfl (show decode code 643 = .ok (.aload_n 0, 1) by decide +kernel)) (.cons (ok_iload_n (k := 3) rfl (show decode code 644 = .ok (.iload_n 3, 1) by decide +kernel)) (.cons (ok_iconst (n := 1) (show decode code 645 = .ok (.iconst 1, 1) by decide +kernel) (by decide)) (.cons (ok_iadd (show decode code 646 = .ok (.iadd, 1) by decide +kernel)) (.cons (ok_sld rfl (show decode code 647 = .ok (.iaload, 1) by decide +kernel)) .nil)))))
theorem B_L_law_654 (L : Nat) (xs : Nat → Int32) : Blk (m_L_law L xs) 654 [o_pure (g_push (.int 0))] 655 := .cons (ok_iconst (n := 0) (show decode code 654 = .ok (.iconst 0, 1) by decide +kernel) (by decide)) .nil
theorem B_L_law_656 (L : Nat) (xs : Nat → Int32) : Blk (m_L_law L xs) 656 [o_ald 1, o_ald 0, o_ild 3, o_pure (g_push (.int 1)), o_pure (g_ii (fun x y => x + y)), o_sld L xs, o_ald 0, o_ild 3, o_pure (g_push (.int 2)), o_pure (g_ii (fun x y => x + y)), o_sld L xs, o_ald 0, o_ild 3, o_pure (g_push (.int 3)), o_pure (g_ii (fun x y => x + y)), o_sld L xs, o_ald 0, o_ild 3, o_pure (g_push (.int 4)), o_pure (g_ii (fun x y => x + y)), o_sld L xs] 677 := .cons (ok_aload_n (k := 1) rfl (show decode code 656 = .ok (.aload_n 1, 1) by decide +kernel)) (.cons (ok_aload_n (k := 0) rfl (show decode code 657 = .ok (.aload_n 0, 1) by decide +kernel)) (.cons (ok_iload_n (k := 3) rfl (show decode code 658 = .ok (.iload_n 3, 1) by decide +kernel)) (.cons (ok_iconst (n := 1) (show decode code 659 = .ok (.iconst 1, 1) by decide +kernel) (by decide)) (.cons (ok_iadd (show decode code 660 = .ok (.iadd, 1) by decide +kernel)) (.cons (ok_sld rfl (show decode code 661 = .ok (.iaload, 1) by decide +kernel)) (.cons (ok_aload_n (k := 0) rfl (show decode code 662 = .ok (.aload_n 0, 1) by decide +kernel)) (.cons (ok_iload_n (k := 3) rfl (show decode code 663 = .ok (.iload_n 3, 1) by decide +kernel)) (.cons (ok_iconst (n := 2) (show decode code 664 = .ok (.iconst 2, 1) by decide +kernel) (by decide)) (.cons (ok_iadd (show decode code 665 = .ok (.iadd, 1) by decide +kernel)) (.cons (ok_sld rfl (show decode code 666 = .ok (.iaload, 1) by decide +kernel)) (.cons (ok_aload_n (k := 0) rfl (show decode code 667 = .ok (.aload_n 0, 1) by decide +kernel)) (.cons (ok_iload_n (k := 3) rfl (show decode code 668 = .ok (.iload_n 3, 1) by decide +kernel)) (.cons (ok_iconst (n := 3) (show decode code 669 = .ok (.iconst 3, 1) by decide +kernel) (by decide)) (.cons (ok_iadd (show decode code 670 = .ok (.iadd, 1) by decide +kernel)) (.cons (ok_sld rfl (show decode code 671 = .ok (.iaload, 1) by decide +kernel)) (.cons (ok_aload_n (k := 0) rfl (show decode code 672 = .ok (.aload_n 0, 1) by decide +kernel)) (.cons (ok_iload_n (k := 3) rfl (show decode code 673 = .ok (.iload_n 3, 1) by decide +kernel)) (.cons (ok_iconst (n := 4) (show decode code 674 = .ok (.iconst 4, 1) by decide +kernel) (by decide)) (.cons (ok_iadd (show decode code 675 = .ok (.iadd, 1) by decide +kernel)) (.cons (ok_sld rfl (show decode code 676 = .ok (.iaload, 1) by decide +kernel)) .nil))))))))))))))))))))
theorem B_L_law_680 (L : Nat) (xs : Nat → Int32) : Blk (m_L_law L xs) 680 [o_ald 2, o_ald 0, o_ild 3, o_pure (g_push (.int 1)), o_pure (g_ii (fun x y => x + y)), o_sld L xs, o_ald 0, o_ild 3, o_pure (g_push (.int 2)), o_pure (g_ii (fun x y => x + y)), o_sld L xs, o_ald 0, o_ild 3, o_pure (g_push (.int 3)), o_pure (g_ii (fun x y => x + y)), o_sld L xs, o_ald 0, o_ild 3, o_pure (g_push (.int 4)), o_pure (g_ii (fun x y => x + y)), o_sld L xs] 701 := .cons (ok_aload_n (k := 2) rfl (show decode code 680 = .ok (.aload_n 2, 1) by decide +kernel)) (.cons (ok_aload_n (k := 0) rfl (show decode code 681 = .ok (.aload_n 0, 1) by decide +kernel)) (.cons (ok_iload_n (k := 3) rfl (show decode code 682 = .ok (.iload_n 3, 1) by decide +kernel)) (.cons (ok_iconst (n := 1) (show decode code 683 = .ok (.iconst 1, 1) by decide +kernel) (by decide)) (.cons (ok_iadd (show decode code 684 = .ok (.iadd, 1) by decide +kernel)) (.cons (ok_sld rfl (show decode code 685 = .ok (.iaload, 1) by decide +kernel)) (.cons (ok_aload_n (k := 0) rfl (show decode code 686 = .ok (.aload_n 0, 1) by decide +kernel)) (.cons (ok_iload_n (k := 3) rfl (show decode code 687 = .ok (.iload_n 3, 1) by decide +kernel)) (.cons (ok_iconst (n := 2) (show decode code 688 = .ok (.iconst 2, 1) by decide +kernel) (by decide)) (.cons (ok_iadd (show decode code 689 = .ok (.iadd, 1) by decide +kernel)) (.cons (ok_sld rfl (show decode code 690 = .ok (.iaload, 1) by decide +kernel)) (.cons (ok_aload_n (k := 0) rfl (show decode code 691 = .ok (.aload_n 0, 1) by decide +kernel)) (.cons (ok_iload_n (k := 3) rfl (show decode code 692 = .ok (.iload_n 3, 1) by decide +kernel)) (.cons (ok_iconst (n := 3) (show decode code 693 = .ok (.iconst 3, 1) by decide +kernel) (by decide)) (.cons (ok_iadd (show decode code 694 = .ok (.iadd, 1) by decide +kernel)) (.cons (ok_sld rfl (show decode code 695 = .ok (.iaload, 1) by decide +kernel)) (.cons (ok_aload_n (k := 0) rfl (show decode code 696 = .ok (.aload_n 0, 1) by decide +kernel)) (.cons (ok_iload_n (k := 3) rfl (show decode code 697 = .ok (.iload_n 3, 1) by decide +kernel)) (.cons (ok_iconst (n := 4) (show decode code 698 = .ok (.iconst 4, 1) by decide +kernel) (by decide)) (.cons (ok_iadd (show decode code 699 = .ok (.iadd, 1) by decide +kernel)) (.cons (ok_sld rfl (show decode code 700 = .ok (.iaload, 1) by decide +kernel)) .nil))))))))))))))))))))
theorem B_L_law_707 (L : Nat) (xs : Nat → Int32) : Blk (m_L_law L xs) 707 [o_pure (g_push (.int 0))] 708 := .cons (ok_iconst (n := 0) (show decode code 707 = .ok (.iconst 0, 1) by decide +kernel) (by decide)) .nil
theorem B_L_law_709 (L : Nat) (xs : Nat → Int32) : Blk (m_L_law L xs) 709 [o_ald 1, o_ald 0, o_ild 3, o_pure (g_push (.int 1)), o_pure (g_ii (fun x y => x + y)), o_sld L xs, o_ald 0, o_ild 3, o_pure (g_push (.int 2)), o_pure (g_ii (fun x y => x + y)), o_sld L xs, o_ald 0, o_ild 3, o_pure (g_push (.int 3)), o_pure (g_ii (fun x y => x + y)), o_sld L xs] 725 := .cons (ok_aload_n (k := 1) rfl (show decode code 709 = .ok (.aload_n 1, 1) by decide +kernel)) (.cons (ok_aload_n (k := 0) rfl (show decode code 710 = .ok (.aload_n 0, 1) by decide +kernel)) (.cons (ok_iload_n (k := 3) rfl (show decode code 711 = .ok (.iload_n 3, 1) by decide +kernel)) (.cons (ok_iconst (n := 1) (show decode code 712 = .ok (.iconst 1, 1) by decide +kernel) (by decide)) (.cons (ok_iadd (show decode code 713 = .ok (.iadd, 1) by decide +kernel)) (.cons (ok_sld rfl (show decode code 714 = .ok (.iaload, 1) by decide +kernel)) (.cons (ok_aload_n (k := 0) rfl (show decode code 715 = .ok (.aload_n 0, 1) by decide +kernel)) (.cons (ok_iload_n (k := 3) rfl (show decode code 716 = .ok (.iload_n 3, 1) by decide +kernel)) (.cons (ok_iconst (n := 2) (show decode code 717 = .ok (.iconst 2, 1) by decide +kernel) (by decide)) (.cons (ok_iadd (show decode code 718 = .ok (.iadd, 1) by decide +kernel)) (.cons (ok_sld rfl (show decode code 719 = .ok (.iaload, 1) by decide +kernel)) (.cons (ok_aload_n (k := 0) rfl (show decode code 720 = .ok (.aload_n 0, 1) by decide +kernel)) (.cons (ok_iload_n (k := 3) rfl (show decode code 721 = .ok (.iload_n 3, 1) by decide +kernel)) (.cons (ok_iconst (n := 3) (show decode code 722 = .ok (.iconst 3, 1) by decide +kernel) (by decide)) (.cons (ok_iadd (show decode code 723 = .ok (.iadd, 1) by decide +kernel)) (.cons (ok_sld rfl (show decode code 724 = .ok (.iaload, 1) by decide +kernel)) .nil)))))))))))))))
theorem B_L_law_728 (L : Nat) (xs : Nat → Int32) : Blk (m_L_law L xs) 728 [o_ald 2, o_ald 0, o_ild 3, o_pure (g_push (.int 1)), o_pure (g_ii (fun x y => x + y)), o_sld L xs, o_ald 0, o_ild 3, o_pure (g_push (.int 2)), o_pure (g_ii (fun x y => x + y)), o_sld L xs, o_ald 0, o_ild 3, o_pure (g_push (.int 3)), o_pure (g_ii (fun x y => x + y)), o_sld L xs] 744 := .cons (ok_aload_n (k := 2) rfl (show decode code 728 = .ok (.aload_n 2, 1) by decide +kernel)) (.cons (ok_aload_n (k := 0) rfl (show decode code 729 = .ok (.aload_n 0, 1) by decide +kernel)) (.cons (ok_iload_n (k := 3) rfl (show decode code 730 = .ok (.iload_n 3, 1) by decide +kernel)) (.cons (ok_iconst (n := 1) (show decode code 731 = .ok (.iconst 1, 1) by decide +kernel) (by decide)) (.cons (ok_iadd (show decode code 732 = .ok (.iadd, 1) by decide +kernel)) (.cons (ok_sld rfl (show decode code 733 = .ok (.iaload, 1) by decide +kernel)) (.cons (ok_aload_n (k := 0) rfl (show decode code 734 = .ok (.aload_n 0, 1) by decide +kernel)) (.cons (ok_iload_n (k := 3) rfl (show decode code 735 = .ok (.iload_n 3, 1) by decide +kernel)) (.cons (ok_iconst (n := 2) (show decode code 736 = .ok (.iconst 2, 1) by decide +kernel) (by decide)) (.cons (ok_iadd (show decode code 737 = .ok (.iadd, 1) by decide +kernel)) (.cons (ok_sld rfl (show decode code 738 = .ok (.iaload, 1) by decide +kernel)) (.cons (ok_aload_n (k := 0) rfl (show decode code 739 = .ok (.aload_n 0, 1) by decide +kernel)) (.cons (ok_iload_n (k := 3) rfl (show decode code 740 = .ok (.iload_n 3, 1) by decide +kernel)) (.cons (ok_iconst (n := 3) (show decode code 741 = .ok (.iconst 3, 1) by decide +kernel) (by decide)) (.cons (ok_iadd (show decode code 742 = .ok (.iadd, 1) by decide +kernel)) (.cons (ok_sld rfl (show decode code 743 = .ok (.iaload, 1) by decide +kernel)) .nil)))))))))))))))
theorem B_L_law_750 (L : Nat) (xs : Nat → Int32) : Blk (m_L_law L xs) 750 [o_pure (g_push (.int 0))] 751 := .cons (ok_iconst (n := 0) (show decode code 750 = .ok (.iconst 0, 1) by decide +kernel) (by decide)) .nil
theorem B_L_law_752 (L : Nat) (xs : Nat → Int32) : Blk (m_L_law L xs) 752 [o_ald 1, o_ald 0, o_ild 3, o_pure (g_push (.int 1)), o_pure (g_ii (fun x y => x + y)), o_sld L xs] 758 := .cons (ok_aload_n (k := 1) rfl (show decode code 752 = .ok (.aload_n 1, 1) by decide +kernel)) (.cons (ok_aload_n (k := 0) rfl (show decode code 753 = .ok (.aload_n 0, 1) by decide +kernel)) (.cons (ok_iload_n (k := 3) rfl (show decode code 754 = .ok (.iload_n 3, 1) by decide +kernel)) (.cons (ok_iconst (n := 1) (show decode code 755 = .ok (.iconst 1, 1) by decide +kernel) (by decide)) (.cons (ok_iadd (show decode code 756 = .ok (.iadd, 1) by decide +kernel)) (.cons (ok_sld rfl (show decode code 757 = .ok (.iaload, 1) by decide +kernel)) .nil)))))
theorem B_L_law_761 (L : Nat) (xs : Nat → Int32) : Blk (m_L_law L xs) 761 [o_ald 2, o_ald 0, o_ild 3, o_pure (g_push (.int 1)), o_pure (g_ii (fun x y => x + y)), o_sld L xs] 767 := .cons (ok_aload_n (k := 2) rfl (show decode code 761 = .ok (.aload_n 2, 1) by decide +kernel)) (.cons (ok_aload_n (k := 0) rfl (show decode code 762 = .ok (.aload_n 0, 1) by decide +kernel)) (.cons (ok_iload_n (k := 3) rfl (show decode code 763 = .ok (.iload_n 3, 1) by decide +kernel)) (.cons (ok_iconst (n := 1) (show decode code 764 = .ok (.iconst 1, 1) by decide +kernel) (by decide)) (.cons (ok_iadd (show decode code 765 = .ok (.iadd, 1) by decide +kernel)) (.cons (ok_sld rfl (show decode code 766 = .ok (.iaload, 1) by decide +kernel)) .nil)))))
theorem B_L_law_773 (L : Nat) (xs : Nat → Int32) : Blk (m_L_law L xs) 773 [o_pure (g_push (.int 0))] 774 := .cons (ok_iconst (n := 0) (show decode code 773 = .ok (.iconst 0, 1) by decide +kernel) (by decide)) .nil
theorem B_L_law_775 (L : Nat) (xs : Nat → Int32) : Blk (m_L_law L xs) 775 [o_ald 1] 776 := .cons (ok_aload_n (k := 1) rfl (show decode code 775 = .ok (.aload_n 1, 1) by decide +kernel)) .nil
theorem B_L_law_779 (L : Nat) (xs : Nat → Int32) : Blk (m_L_law L xs) 779 [o_ald 2] 780 := .cons (ok_aload_n (k := 2) rfl (show decode code 779 = .ok (.aload_n 2, 1) by decide +kernel)) .nil
theorem B_L_law_786 (L : Nat) (xs : Nat → Int32) : Blk (m_L_law L xs) 786 [o_pure (g_push (.int 0))] 787 := .cons (ok_iconst (n := 0) (show decode code 786 = .ok (.iconst 0, 1) by decide +kernel) (by decide)) .nil
theorem B_L_law_788 (L : Nat) (xs : Nat → Int32) : Blk (m_L_law L xs) 788 [o_ald 1] 789 := .cons (ok_aload_n (k := 1) rfl (show decode code 788 = .ok (.aload_n 1, 1) by decide +kernel)) .nil
theorem B_L_law_792 (L : Nat) (xs : Nat → Int32) : Blk (m_L_law L xs) 792 [o_ald 2] 793 := .cons (ok_aload_n (k := 2) rfl (show decode code 792 = .ok (.aload_n 2, 1) by decide +kernel)) .nil
theorem B_L_law_799 (L : Nat) (xs : Nat → Int32) : Blk (m_L_law L xs) 799 [o_pure (g_push (.int 0))] 800 := .cons (ok_iconst (n := 0) (show decode code 799 = .ok (.iconst 0, 1) by decide +kernel) (by decide)) .nil
theorem B_L_law_801 (L : Nat) (xs : Nat → Int32) : Blk (m_L_law L xs) 801 [o_ald 1, o_ald 0, o_ild 3, o_pure (g_push (.int 1)), o_pure (g_ii (fun x y => x + y)), o_sld L xs, o_ald 0, o_ild 3, o_pure (g_push (.int 2)), o_pure (g_ii (fun x y => x + y)), o_sld L xs, o_ald 0, o_ild 3, o_pure (g_push (.int 3)), o_pure (g_ii (fun x y => x + y)), o_sld L xs] 817 := .cons (ok_aload_n (k := 1) rfl (show decode code 801 = .ok (.aload_n 1, 1) by decide +kernel)) (.cons (ok_aload_n (k := 0) rfl (show decode code 802 = .ok (.aload_n 0, 1) by decide +kernel)) (.cons (ok_iload_n (k := 3) rfl (show decode code 803 = .ok (.iload_n 3, 1) by decide +kernel)) (.cons (ok_iconst (n := 1) (show decode code 804 = .ok (.iconst 1, 1) by decide +kernel) (by decide)) (.cons (ok_iadd (show decode code 805 = .ok (.iadd, 1) by decide +kernel)) (.cons (ok_sld rfl (show decode code 806 = .ok (.iaload, 1) by decide +kernel)) (.cons (ok_aload_n (k := 0) rfl (show decode code 807 = .ok (.aload_n 0, 1) by decide +kernel)) (.cons (ok_iload_n (k := 3) rfl (show decode code 808 = .ok (.iload_n 3, 1) by decide +kernel)) (.cons (ok_iconst (n := 2) (show decode code 809 = .ok (.iconst 2, 1) by decide +kernel) (by decide)) (.cons (ok_iadd (show decode code 810 = .ok (.iadd, 1) by decide +kernel)) (.cons (ok_sld rfl (show decode code 811 = .ok (.iaload, 1) by decide +kernel)) (.cons (ok_aload_n (k := 0) rfl (show decode code 812 = .ok (.aload_n 0, 1) by decide +kernel)) (.cons (ok_iload_n (k := 3) rfl (show decode code 813 = .ok (.iload_n 3, 1) by decide +kernel)) (.cons (ok_iconst (n := 3) (show decode code 814 = .ok (.iconst 3, 1) by decide +kernel) (by decide)) (.cons (ok_iadd (show decode code 815 = .ok (.iadd, 1) by decide +kernel)) (.cons (ok_sld rfl (show decode code 816 = .ok (.iaload, 1) by decide +kernel)) .nil)))))))))))))))
theorem B_L_law_820 (L : Nat) (xs : Nat → Int32) : Blk (m_L_law L xs) 820 [o_ald 2, o_ald 0, o_ild 3, o_pure (g_push (.int 1)), o_pure (g_ii (fun x y => x + y)), o_sld L xs, o_ald 0, o_ild 3, o_pure (g_push (.int 2)), o_pure (g_ii (fun x y => x + y)), o_sld L xs, o_ald 0, o_ild 3, o_pure (g_push (.int 3)), o_pure (g_ii (fun x y => x + y)), o_sld L xs] 836 := .cons (ok_aload_n (k := 2) rfl (show decode code 820 = .ok (.aload_n 2, 1) by decide +kernel)) (.cons (ok_aload_n (k := 0) rfl (show decode code 821 = .ok (.aload_n 0, 1) by decide +kernel)) (.cons (ok_iload_n (k := 3) rfl (show decode code 822 = .ok (.iload_n 3, 1) by decide +kernel)) (.cons (ok_iconst (n := 1) (show decode code 823 = .ok (.iconst 1, 1) by decide +kernel) (by decide)) (.cons (ok_iadd (show decode code 824 = .ok (.iadd, 1) by decide +kernel)) (.cons (ok_sld rfl (show decode code 825 = .ok (.iaload, 1) by decide +kernel)) (.cons (ok_aload_n (k := 0) rfl (show decode code 826 = .ok (.aload_n 0, 1) by decide +kernel)) (.cons (ok_iload_n (k := 3) rfl (show decode code 827 = .ok (.iload_n 3, 1) by decide +kernel)) (.cons (ok_iconst (n := 2) (show decode code 828 = .ok (.iconst 2, 1) by decide +kernel) (by decide)) (.cons (ok_iadd (show decode code 829 = .ok (.iadd, 1) by decide +kernel)) (.cons (ok_sld rfl (show decode code 830 = .ok (.iaload, 1) by decide +kernel)) (.cons (ok_aload_n (k := 0) rfl (show decode code 831 = .ok (.aload_n 0, 1) by decide +kernel)) (.cons (ok_iload_n (k := 3) rfl (show decode code 832 = .ok (.iload_n 3, 1) by decide +kernel)) (.cons (ok_iconst (n := 3) (show decode code 833 = .ok (.iconst 3, 1) by decide +kernel) (by decide)) (.cons (ok_iadd (show decode code 834 = .ok (.iadd, 1) by decide +kernel)) (.cons (ok_sld rfl (show decode code 835 = .ok (.iaload, 1) by decide +kernel)) .nil)))))))))))))))
theorem B_L_law_839 (L : Nat) (xs : Nat → Int32) : Blk (m_L_law L xs) 839 [o_pure (g_cmp)] 840 := .cons (ok_lcmp (show decode code 839 = .ok (.lcmp, 1) by decide +kernel)) .nil
theorem B_L_law_843 (L : Nat) (xs : Nat → Int32) : Blk (m_L_law L xs) 843 [o_pure (g_push (.int 0))] 844 := .cons (ok_iconst (n := 0) (show decode code 843 = .ok (.iconst 0, 1) by decide +kernel) (by decide)) .nil
theorem B_L_law_845 (L : Nat) (xs : Nat → Int32) : Blk (m_L_law L xs) 845 [o_ald 1, o_ald 0, o_ild 3, o_pure (g_push (.int 1)), o_pure (g_ii (fun x y => x + y)), o_sld L xs, o_ald 0, o_ild 3, o_pure (g_push (.int 2)), o_pure (g_ii (fun x y => x + y)), o_sld L xs, o_ald 0, o_ild 3, o_pure (g_push (.int 3)), o_pure (g_ii (fun x y => x + y)), o_sld L xs] 861 := .cons (ok_aload_n (k := 1) rfl (show decode code 845 = .ok (.aload_n 1, 1) by decide +kernel)) (.cons (ok_aload_n (k := 0) rfl (show decode code 846 = .ok (.aload_n 0, 1) by decide +kernel)) (.cons (ok_iload_n (k := 3) rfl (show decode code 847 = .ok (.iload_n 3, 1) by decide +kernel)) (.cons (ok_iconst (n := 1) (show decode code 848 = .ok (.iconst 1, 1) by decide +kernel) (by decide)) (.cons (ok_iadd (show decode code 849 = .ok (.iadd, 1) by decide +kernel)) (.cons (ok_sld rfl (show decode code 850 = .ok (.iaload, 1) by decide +kernel)) (.cons (ok_aload_n (k := 0) rfl (show decode code 851 = .ok (.aload_n 0, 1) by decide +kernel)) (.cons (ok_iload_n (k := 3) rfl (show decode code 852 = .ok (.iload_n 3, 1) by decide +kernel)) (.cons (ok_iconst (n := 2) (show decode code 853 = .ok (.iconst 2, 1) by decide +kernel) (by decide)) (.cons (ok_iadd (show decode code 854 = .ok (.iadd, 1) by decide +kernel)) (.cons (ok_sld rfl (show decode code 855 = .ok (.iaload, 1) by decide +kernel)) (.cons (ok_aload_n (k := 0) rfl (show decode code 856 = .ok (.aload_n 0, 1) by decide +kernel)) (.cons (ok_iload_n (k := 3) rfl (show decode code 857 = .ok (.iload_n 3, 1) by decide +kernel)) (.cons (ok_iconst (n := 3) (show decode code 858 = .ok (.iconst 3, 1) by decide +kernel) (by decide)) (.cons (ok_iadd (show decode code 859 = .ok (.iadd, 1) by decide +kernel)) (.cons (ok_sld rfl (show decode code 860 = .ok (.iaload, 1) by decide +kernel)) .nil)))))))))))))))
theorem B_L_law_864 (L : Nat) (xs : Nat → Int32) : Blk (m_L_law L xs) 864 [o_ald 2, o_ald 0, o_ild 3, o_pure (g_push (.int 1)), o_pure (g_ii (fun x y => x + y)), o_sld L xs, o_ald 0, o_ild 3, o_pure (g_push (.int 2)), o_pure (g_ii (fun x y => x + y)), o_sld L xs, o_ald 0, o_ild 3, o_pure (g_push (.int 3)), o_pure (g_ii (fun x y => x + y)), o_sld L xs] 880 := .cons (ok_aload_n (k := 2) rfl (show decode code 864 = .ok (.aload_n 2, 1) by decide +kernel)) (.cons (ok_aload_n (k := 0) rfl (show decode code 865 = .ok (.aload_n 0, 1) by decide +kernel)) (.cons (ok_iload_n (k := 3) rfl (show decode code 866 = .ok (.iload_n 3, 1) by decide +kernel)) (.cons (ok_iconst (n := 1) (show decode code 867 = .ok (.iconst 1, 1) by decide +kernel) (by decide)) (.cons (ok_iadd (show decode code 868 = .ok (.iadd, 1) by decide +kernel)) (.cons (ok_sld rfl (show decode code 869 = .ok (.iaload, 1) by decide +kernel)) (.cons (ok_aload_n (k := 0) rfl (show decode code 870 = .ok (.aload_n 0, 1) by decide +kernel)) (.cons (ok_iload_n (k := 3) rfl (show decode code 871 = .ok (.iload_n 3, 1) by decide +kernel)) (.cons (ok_iconst (n := 2) (show decode code 872 = .ok (.iconst 2, 1) by decide +kernel) (by decide)) (.cons (ok_iadd (show decode code 873 = .ok (.iadd, 1) by decide +kernel)) (.cons (ok_sld rfl (show decode code 874 = .ok (.iaload, 1) by decide +kernel)) (.cons (ok_aload_n (k := 0) rfl (show decode code 875 = .ok (.aload_n 0, 1) by decide +kernel)) (.cons (ok_iload_n (k := 3) rfl (show decode code 876 = .ok (.iload_n 3, 1) by decide +kernel)) (.cons (ok_iconst (n := 3) (show decode code 877 = .ok (.iconst 3, 1) by decide +kernel) (by decide)) (.cons (ok_iadd (show decode code 878 = .ok (.iadd, 1) by decide +kernel)) (.cons (ok_sld rfl (show decode code 879 = .ok (.iaload, 1) by decide +kernel)) .nil)))))))))))))))
theorem B_L_law_883 (L : Nat) (xs : Nat → Int32) : Blk (m_L_law L xs) 883 [o_pure (g_cmp)] 884 := .cons (ok_lcmp (show decode code 883 = .ok (.lcmp, 1) by decide +kernel)) .nil
theorem B_L_law_887 (L : Nat) (xs : Nat → Int32) : Blk (m_L_law L xs) 887 [o_pure (g_push (.int 0))] 888 := .cons (ok_iconst (n := 0) (show decode code 887 = .ok (.iconst 0, 1) by decide +kernel) (by decide)) .nil
theorem B_L_law_889 (L : Nat) (xs : Nat → Int32) : Blk (m_L_law L xs) 889 [o_ald 1, o_ald 0, o_ild 3, o_pure (g_push (.int 1)), o_pure (g_ii (fun x y => x + y)), o_sld L xs] 895 := .cons (ok_aload_n (k := 1) rfl (show decode code 889 = .ok (.aload_n 1, 1) by decide +kernel)) (.cons (ok_aload_n (k := 0) rfl (show decode code 890 = .ok (.aload_n 0, 1) by decide +kernel)) (.cons (ok_iload_n (k := 3) rfl (show decode code 891 = .ok (.iload_n 3, 1) by decide +kernel)) (.cons (ok_iconst (n := 1) (show decode code 892 = .ok (.iconst 1, 1) by decide +kernel) (by decide)) (.cons (ok_iadd (show decode code 893 = .ok (.iadd, 1) by decide +kernel)) (.cons (ok_sld rfl (show decode code 894 = .ok (.iaload, 1) by decide +kernel)) .nil)))))
theorem B_L_law_898 (L : Nat) (xs : Nat → Int32) : Blk (m_L_law L xs) 898 [o_ald 2, o_ald 0, o_ild 3, o_pure (g_push (.int 1)), o_pure (g_ii (fun x y => x + y)), o_sld L xs] 904 := .cons (ok_aload_n (k := 2) rfl (show decode code 898 = .ok (.aload_n 2, 1) by decide +kernel)) (.cons (ok_aload_n (k := 0) rfl (show decode code 899 = .ok (.aload_n 0, 1) by decide +kernel)) (.cons (ok_iload_n (k := 3) rfl (show decode code 900 = .ok (.iload_n 3, 1) by decide +kernel)) (.cons (ok_iconst (n := 1) (show decode code 901 = .ok (.iconst 1, 1) by decide +kernel) (by decide)) (.cons (ok_iadd (show decode code 902 = .ok (.iadd, 1) by decide +kernel)) (.cons (ok_sld rfl (show decode code 903 = .ok (.iaload, 1) by decide +kernel)) .nil)))))
theorem B_L_law_907 (L : Nat) (xs : Nat → Int32) : Blk (m_L_law L xs) 907 [o_pure (g_cmp)] 908 := .cons (ok_lcmp (show decode code 907 = .ok (.lcmp, 1) by decide +kernel)) .nil
theorem B_L_law_911 (L : Nat) (xs : Nat → Int32) : Blk (m_L_law L xs) 911 [o_pure (g_push (.int 0))] 912 := .cons (ok_iconst (n := 0) (show decode code 911 = .ok (.iconst 0, 1) by decide +kernel) (by decide)) .nil
theorem B_L_law_913 (L : Nat) (xs : Nat → Int32) : Blk (m_L_law L xs) 913 [o_ald 1, o_ald 0, o_ild 3, o_pure (g_push (.int 1)), o_pure (g_ii (fun x y => x + y)), o_sld L xs, o_ald 0, o_ild 3, o_pure (g_push (.int 2)), o_pure (g_ii (fun x y => x + y)), o_sld L xs, o_ald 0, o_ild 3, o_pure (g_push (.int 3)), o_pure (g_ii (fun x y => x + y)), o_sld L xs] 929 := .cons (ok_aload_n (k := 1) rfl (show decode code 913 = .ok (.aload_n 1, 1) by decide +kernel)) (.cons (ok_aload_n (k := 0) rfl (show decode code 914 = .ok (.aload_n 0, 1) by decide +kernel)) (.cons (ok_iload_n (k := 3) rfl (show decode code 915 = .ok (.iload_n 3, 1) by decide +kernel)) (.cons (ok_iconst (n := 1) (show decode code 916 = .ok (.iconst 1, 1) by decide +kernel) (by decide)) (.cons (ok_iadd (show decode code 917 = .ok (.iadd, 1) by decide +kernel)) (.cons (ok_sld rfl (show decode code 918 = .ok (.iaload, 1) by decide +kernel)) (.cons (ok_aload_n (k := 0) rfl (show decode code 919 = .ok (.aload_n 0, 1) by decide +kernel)) (.cons (ok_iload_n (k := 3) rfl (show decode code 920 = .ok (.iload_n 3, 1) by decide +kernel)) (.cons (ok_iconst (n := 2) (show decode code 921 = .ok (.iconst 2, 1) by decide +kernel) (by decide)) (.cons (ok_iadd (show decode code 922 = .ok (.iadd, 1) by decide +kernel)) (.cons (ok_sld rfl (show decode code 923 = .ok (.iaload, 1) by decide +kernel)) (.cons (ok_aload_n (k := 0) rfl (show decode code 924 = .ok (.aload_n 0, 1) by decide +kernel)) (.cons (ok_iload_n (k := 3) rfl (show decode code 925 = .ok (.iload_n 3, 1) by decide +kernel)) (.cons (ok_iconst (n := 3) (show decode code 926 = .ok (.iconst 3, 1) by decide +kernel) (by decide)) (.cons (ok_iadd (show decode code 927 = .ok (.iadd, 1) by decide +kernel)) (.cons (ok_sld rfl (show decode code 928 = .ok (.iaload, 1) by decide +kernel)) .nil)))))))))))))))
theorem B_L_law_932 (L : Nat) (xs : Nat → Int32) : Blk (m_L_law L xs) 932 [o_ald 2, o_ald 0, o_ild 3, o_pure (g_push (.int 1)), o_pure (g_ii (fun x y => x + y)), o_sld L xs, o_ald 0, o_ild 3, o_pure (g_push (.int 2)), o_pure (g_ii (fun x y => x + y)), o_sld L xs, o_ald 0, o_ild 3, o_pure (g_push (.int 3)), o_pure (g_ii (fun x y => x + y)), o_sld L xs] 948 := .cons (ok_aload_n (k := 2) rfl (show decode code 932 = .ok (.aload_n 2, 1) by decide +kernel)) (.cons (ok_aload_n (k := 0) rfl (show decode code 933 = .ok (.aload_n 0, 1) by decide +kernel)) (.cons (ok_iload_n (k := 3) rfl (show decode code 934 = .ok (.iload_n 3, 1) by decide +kernel)) (.cons (ok_iconst (n := 1) (show decode code 935 = .ok (.iconst 1, 1) by decide +kernel) (by decide)) (.cons (ok_iadd (show decode code 936 = .ok (.iadd, 1) by decide +kernel)) (.cons (ok_sld rfl (show decode code 937 = .ok (.iaload, 1) by decide +kernel)) (.cons (ok_aload_n (k := 0) rfl (show decode code 938 = .ok (.aload_n 0, 1) by decide +kernel)) (.cons (ok_iload_n (k := 3) rfl (show decode code 939 = .ok (.iload_n 3, 1) by decide +kernel)) (.cons (ok_iconst (n := 2) (show decode code 940 = .ok (.iconst 2, 1) by decide +kernel) (by decide)) (.cons (ok_iadd (show decode code 941 = .ok (.iadd, 1) by decide +kernel)) (.cons (ok_sld rfl (show decode code 942 = .ok (.iaload, 1) by decide +kernel)) (.cons (ok_aload_n (k := 0) rfl (show decode code 943 = .ok (.aload_n 0, 1) by decide +kernel)) (.cons (ok_iload_n (k := 3) rfl (show decode code 944 = .ok (.iload_n 3, 1) by decide +kernel)) (.cons (ok_iconst (n := 3) (show decode code 945 = .ok (.iconst 3, 1) by decide +kernel) (by decide)) (.cons (ok_iadd (show decode code 946 = .ok (.iadd, 1) by decide +kernel)) (.cons (ok_sld rfl (show decode code 947 = .ok (.iaload, 1) by decide +kernel)) .nil)))))))))))))))
theorem B_L_law_954 (L : Nat) (xs : Nat → Int32) : Blk (m_L_law L xs) 954 [o_pure (g_push (.int 0))] 955 := .cons (ok_iconst (n := 0) (show decode code 954 = .ok (.iconst 0, 1) by decide +kernel) (by decide)) .nil
theorem B_L_law_956 (L : Nat) (xs : Nat → Int32) : Blk (m_L_law L xs) 956 [o_ald 1, o_ald 0, o_ild 3, o_pure (g_push (.int 1)), o_pure (g_ii (fun x y => x + y)), o_sld L xs, o_ald 0, o_ild 3, o_pure (g_push (.int 2)), o_pure (g_ii (fun x y => x + y)), o_sld L xs, o_ald 0, o_ild 3, o_pure (g_push (.int 3)), o_pure (g_ii (fun x y => x + y)), o_sld L xs, o_ald 0, o_ild 3, o_pure (g_push (.int 4)), o_pure (g_ii (fun x y => x + y)), o_sld L xs] 977 := .cons (ok_aload_n (k := 1) rfl (show decode code 956 = .ok (.aload_n 1, 1) by decide +kernel)) (.cons (ok_aload_n (k := 0) rfl (show decode code 957 = .ok (.aload_n 0, 1) by decide +kernel)) (.cons (ok_iload_n (k := 3) rfl (show decode code 958 = .ok (.iload_n 3, 1) by decide +kernel)) (.cons (ok_iconst (n := 1) (show decode code 959 = .ok (.iconst 1, 1) by decide +kernel) (by decide)) (.cons (ok_iadd (show decode code 960 = .ok (.iadd, 1) by decide +kernel)) (.cons (ok_sld rfl (show decode code 961 = .ok (.iaload, 1) by decide +kernel)) (.cons (ok_aload_n (k := 0) rfl (show decode code 962 = .ok (.aload_n 0, 1) by decide +kernel)) (.cons (ok_iload_n (k := 3) rfl (show decode code 963 = .ok (.iload_n 3, 1) by decide +kernel)) (.cons (ok_iconst (n := 2) (show decode code 964 = .ok (.iconst 2, 1) by decide +kernel) (by decide)) (.cons (ok_iadd (show decode code 965 = .ok (.iadd, 1) by decide +kernel)) (.cons (ok_sld rfl (show decode code 966 = .ok (.iaload, 1) by decide +kernel)) (.cons (ok_aload_n (k := 0) rfl (show decode code 967 = .ok (.aload_n 0, 1) by decide +kernel)) (.cons (ok_iload_n (k := 3) rfl (show decode code 968 = .ok (.iload_n 3, 1) by decide +kernel)) (.cons (ok_iconst (n := 3) (show decode code 969 = .ok (.iconst 3, 1) by decide +kernel) (by decide)) (.cons (ok_iadd (show decode code 970 = .ok (.iadd, 1) by decide +kernel)) (.cons (ok_sld rfl (show decode code 971 = .ok (.iaload, 1) by decide +kernel)) (.cons (ok_aload_n (k := 0) rfl (show decode code 972 = .ok (.aload_n 0, 1) by decide +kernel)) (.cons (ok_iload_n (k := 3) rfl (show decode code 973 = .ok (.iload_n 3, 1) by decide +kernel)) (.cons (ok_iconst (n := 4) (show decode code 974 = .ok (.iconst 4, 1) by decide +kernel) (by decide)) (.cons (ok_iadd (show decode code 975 = .ok (.iadd, 1) by decide +kernel)) (.cons (ok_sld rfl (show decode code 976 = .ok (.iaload, 1) by decide +kernel)) .nil))))))))))))))))))))
theorem B_L_law_980 (L : Nat) (xs : Nat → Int32) : Blk (m_L_law L xs) 980 [o_ald 2, o_ald 0, o_ild 3, o_pure (g_push (.int 1)), o_pure (g_ii (fun x y => x + y)), o_sld L xs, o_ald 0, o_ild 3, o_pure (g_push (.int 2)), o_pure (g_ii (fun x y => x + y)), o_sld L xs, o_ald 0, o_ild 3, o_pure (g_push (.int 3)), o_pure (g_ii (fun x y => x + y)), o_sld L xs, o_ald 0, o_ild 3, o_pure (g_push (.int 4)), o_pure (g_ii (fun x y => x + y)), o_sld L xs] 1001 := .cons (ok_aload_n (k := 2) rfl (show decode code 980 = .ok (.aload_n 2, 1) by decide +kernel)) (.cons (ok_aload_n (k := 0) rfl (show decode code 981 = .ok (.aload_n 0, 1) by decide +kernel)) (.cons (ok_iload_n (k := 3) rfl (show decode code 982 = .ok (.iload_n 3, 1) by decide +kernel)) (.cons (ok_iconst (n := 1) (show decode code 983 = .ok (.iconst 1, 1) by decide +kernel) (by decide)) (.cons (ok_iadd (show decode code 984 = .ok (.iadd, 1) by decide +kernel)) (.cons (ok_sld rfl (show decode code 985 = .ok (.iaload, 1) by decide +kernel)) (.cons (ok_aload_n (k := 0) rfl (show decode code 986 = .ok (.aload_n 0, 1) by decide +kernel)) (.cons (ok_iload_n (k := 3) rfl (show decode code 987 = .ok (.iload_n 3, 1) by decide +kernel)) (.cons (ok_iconst (n := 2) (show decode code 988 = .ok (.iconst 2, 1) by decide +kernel) (by decide)) (.cons (ok_iadd (show decode code 989 = .ok (.iadd, 1) by decide +kernel)) (.cons (ok_sld rfl (show decode code 990 = .ok (.iaload, 1) by decide +kernel)) (.cons (ok_aload_n (k := 0) rfl (show decode code 991 = .ok (.aload_n 0, 1) by decide +kernel)) (.cons (ok_iload_n (k := 3) rfl (show decode code 992 = .ok (.iload_n 3, 1) by decide +kernel)) (.cons (ok_iconst (n := 3) (show decode code 993 = .ok (.iconst 3, 1) by decide +kernel) (by decide)) (.cons (ok_iadd (show decode code 994 = .ok (.iadd, 1) by decide +kernel)) (.cons (ok_sld rfl (show decode code 995 = .ok (.iaload, 1) by decide +kernel)) (.cons (ok_aload_n (k := 0) rfl (show decode code 996 = .ok (.aload_n 0, 1) by decide +kernel)) (.cons (ok_iload_n (k := 3) rfl (show decode code 997 = .ok (.iload_n 3, 1) by decide +kernel)) (.cons (ok_iconst (n := 4) (show decode code 998 = .ok (.iconst 4, 1) by decide +kernel) (by decide)) (.cons (ok_iadd (show decode code 999 = .ok (.iadd, 1) by decide +kernel)) (.cons (ok_sld rfl (show decode code 1000 = .ok (.iaload, 1) by decide +kernel)) .nil))))))))))))))))))))
theorem B_L_law_1007 (L : Nat) (xs : Nat → Int32) : Blk (m_L_law L xs) 1007 [o_pure (g_push (.int 0))] 1008 := .cons (ok_iconst (n := 0) (show decode code 1007 = .ok (.iconst 0, 1) by decide +kernel) (by decide)) .nil
theorem B_L_law_1009 (L : Nat) (xs : Nat → Int32) : Blk (m_L_law L xs) 1009 [o_ald 1, o_ald 0, o_ild 3, o_pure (g_push (.int 1)), o_pure (g_ii (fun x y => x + y)), o_sld L xs, o_ald 0, o_ild 3, o_pure (g_push (.int 2)), o_pure (g_ii (fun x y => x + y)), o_sld L xs] 1020 := .cons (ok_aload_n (k := 1) rfl (show decode code 1009 = .ok (.aload_n 1, 1) by decide +kernel)) (.cons (ok_aload_n (k := 0) rfl (show decode code 1010 = .ok (.aload_n 0, 1) by decide +kernel)) (.cons (ok_iload_n (k := 3) rfl (show decode code 1011 = .ok (.iload_n 3, 1) by decide +kernel)) (.cons (ok_iconst (n := 1) (show decode code 1012 = .ok (.iconst 1, 1) by decide +kernel) (by decide)) (.cons (ok_iadd (show decode code 1013 = .ok (.iadd, 1) by decide +kernel)) (.cons (ok_sld rfl (show decode code 1014 = .ok (.iaload, 1) by decide +kernel)) (.cons (ok_aload_n (k := 0) rfl (show decode code 1015 = .ok (.aload_n 0, 1) by decide +kernel)) (.cons (ok_iload_n (k := 3) rfl (show decode code 1016 = .ok (.iload_n 3, 1) by decide +kernel)) (.cons (ok_iconst (n := 2) (show decode code 1017 = .ok (.iconst 2, 1) by decide +kernel) (by decide)) (.cons (ok_iadd (show decode code 1018 = .ok (.iadd, 1) by decide +kernel)) (.cons (ok_sld rfl (show decode code 1019 = .ok (.iaload, 1) by decide +kernel)) .nil))))))))))
theorem B_L_law_1023 (L : Nat) (xs : Nat → Int32) : Blk (m_L_law L xs) 1023 [o_ald 2, o_ald 0, o_ild 3, o_pure (g_push (.int 1)), o_pure (g_ii (fun x y => x + y)), o_sld L xs, o_ald 0, o_ild 3, o_pure (g_push (.int 2)), o_pure (g_ii (fun x y => x + y)), o_sld L xs] 1034 := .cons (ok_aload_n (k := 2) rfl (show decode code 1023 = .ok (.aload_n 2, 1) by decide +kernel)) (.cons (ok_aload_n (k := 0) rfl (show decode code 1024 = .ok (.aload_n 0, 1) by decide +kernel)) (.cons (ok_iload_n (k := 3) rfl (show decode code 1025 = .ok (.iload_n 3, 1) by decide +kernel)) (.cons (ok_iconst (n := 1) (show decode code 1026 = .ok (.iconst 1, 1) by decide +kernel) (by decide)) (.cons (ok_iadd (show decode code 1027 = .ok (.iadd, 1) by decide +kernel)) (.cons (ok_sld rfl (show decode code 1028 = .ok (.iaload, 1) by decide +kernel)) (.cons (ok_aload_n (k := 0) rfl (show decode code 1029 = .ok (.aload_n 0, 1) by decide +kernel)) (.cons (ok_iload_n (k := 3) rfl (show decode code 1030 = .ok (.iload_n 3, 1) by decide +kernel)) (.cons (ok_iconst (n := 2) (show decode code 1031 = .ok (.iconst 2, 1) by decide +kernel) (by decide)) (.cons (ok_iadd (show decode code 1032 = .ok (.iadd, 1) by decide +kernel)) (.cons (ok_sld rfl (show decode code 1033 = .ok (.iaload, 1) by decide +kernel)) .nil))))))))))
theorem B_L_law_1040 (L : Nat) (xs : Nat → Int32) : Blk (m_L_law L xs) 1040 [o_pure (g_push (.int 0))] 1041 := .cons (ok_iconst (n := 0) (show decode code 1040 = .ok (.iconst 0, 1) by decide +kernel) (by decide)) .nil
theorem B_L_law_1042 (L : Nat) (xs : Nat → Int32) : Blk (m_L_law L xs) 1042 [o_ald 1] 1043 := .cons (ok_aload_n (k := 1) rfl (show decode code 1042 = .ok (.aload_n 1, 1) by decide +kernel)) .nil
theorem B_L_law_1046 (L : Nat) (xs : Nat → Int32) : Blk (m_L_law L xs) 1046 [o_ald 2] 1047 := .cons (ok_aload_n (k := 2) rfl (show decode code 1046 = .ok (.aload_n 2, 1) by decide +kernel)) .nil
theorem B_L_law_1053 (L : Nat) (xs : Nat → Int32) : Blk (m_L_law L xs) 1053 [o_pure (g_push (.int 0))] 1054 := .cons (ok_iconst (n := 0) (show decode code 1053 = .ok (.iconst 0, 1) by decide +kernel) (by decide)) .nil
theorem B_L_law_1055 (L : Nat) (xs : Nat → Int32) : Blk (m_L_law L xs) 1055 [o_ald 1] 1056 := .cons (ok_aload_n (k := 1) rfl (show decode code 1055 = .ok (.aload_n 1, 1) by decide +kernel)) .nil
theorem B_L_law_1059 (L : Nat) (xs : Nat → Int32) : Blk (m_L_law L xs) 1059 [o_ald 2] 1060 := .cons (ok_aload_n (k := 2) rfl (show decode code 1059 = .ok (.aload_n 2, 1) by decide +kernel)) .nil
theorem B_L_law_1066 (L : Nat) (xs : Nat → Int32) : Blk (m_L_law L xs) 1066 [o_pure (g_push (.int 0))] 1067 := .cons (ok_iconst (n := 0) (show decode code 1066 = .ok (.iconst 0, 1) by decide +kernel) (by decide)) .nil
theorem B_L_law_1068 (L : Nat) (xs : Nat → Int32) : Blk (m_L_law L xs) 1068 [o_ald 1, o_ald 0, o_ild 3, o_pure (g_push (.int 1)), o_pure (g_ii (fun x y => x + y)), o_sld L xs, o_ald 0, o_ild 3, o_pure (g_push (.int 2)), o_pure (g_ii (fun x y => x + y)), o_sld L xs, o_ald 0, o_ild 3, o_pure (g_push (.int 3)), o_pure (g_ii (fun x y => x + y)), o_sld L xs] 1084 := .cons (ok_aload_n (k := 1) rfl (show decode code 1068 = .ok (.aload_n 1, 1) by decide +kernel)) (.cons (ok_aload_n (k := 0) rfl (show decode code 1069 = .ok (.aload_n 0, 1) by decide +kernel)) (.cons (ok_iload_n (k := 3) rfl (show decode code 1070 = .ok (.iload_n 3, 1) by decide +kernel)) (.cons (ok_iconst (n := 1) (show decode code 1071 = .ok (.iconst 1, 1) by decide +kernel) (by decide)) (.cons (ok_iadd (show decode code 1072 = .ok (.iadd, 1) by decide +kernel)) (.cons (ok_sld rfl (show decode code 1073 = .ok (.iaload, 1) by decide +kernel)) (.cons (ok_aload_n (k := 0) rfl (show decode code 1074 = .ok (.aload_n 0, 1) by decide +kernel)) (.cons (ok_iload_n (k := 3) rfl (show decode code 1075 = .ok (.iload_n 3, 1) by decide +kernel)) (.cons (ok_iconst (n := 2) (show decode code 1076 = .ok (.iconst 2, 1) by decide +kernel) (by decide)) (.cons (ok_iadd (show decode code 1077 = .ok (.iadd, 1) by decide +kernel)) (.cons (ok_sld rfl (show decode code 1078 = .ok (.iaload, 1) by decide +kernel)) (.cons (ok_aload_n (k := 0) rfl (show decode code 1079 = .ok (.aload_n 0, 1) by decide +kernel)) (.cons (ok_iload_n (k := 3) rfl (show decode code 1080 = .ok (.iload_n 3, 1) by decide +kernel)) (.cons (ok_iconst (n := 3) (show decode code 1081 = .ok (.iconst 3, 1) by decide +kernel) (by decide)) (.cons (ok_iadd (show decode code 1082 = .ok (.iadd, 1) by decide +kernel)) (.cons (ok_sld rfl (show decode code 1083 = .ok (.iaload, 1) by decide +kernel)) .nil)))))))))))))))
theorem B_L_law_1087 (L : Nat) (xs : Nat → Int32) : Blk (m_L_law L xs) 1087 [o_ald 2, o_ald 0, o_ild 3, o_pure (g_push (.int 1)), o_pure (g_ii (fun x y => x + y)), o_sld L xs, o_ald 0, o_ild 3, o_pure (g_push (.int 2)), o_pure (g_ii (fun x y => x + y)), o_sld L xs, o_ald 0, o_ild 3, o_pure (g_push (.int 3)), o_pure (g_ii (fun x y => x + y)), o_sld L xs] 1103 := .cons (ok_aload_n (k := 2) rfl (show decode code 1087 = .ok (.aload_n 2, 1) by decide +kernel)) (.cons (ok_aload_n (k := 0) rfl (show decode code 1088 = .ok (.aload_n 0, 1) by decide +kernel)) (.cons (ok_iload_n (k := 3) rfl (show decode code 1089 = .ok (.iload_n 3, 1) by decide +kernel)) (.cons (ok_iconst (n := 1) (show decode code 1090 = .ok (.iconst 1, 1) by decide +kernel) (by decide)) (.cons (ok_iadd (show decode code 1091 = .ok (.iadd, 1) by decide +kernel)) (.cons (ok_sld rfl (show decode code 1092 = .ok (.iaload, 1) by decide +kernel)) (.cons (ok_aload_n (k := 0) rfl (show decode code 1093 = .ok (.aload_n 0, 1) by decide +kernel)) (.cons (ok_iload_n (k := 3) rfl (show decode code 1094 = .ok (.iload_n 3, 1) by decide +kernel)) (.cons (ok_iconst (n := 2) (show decode code 1095 = .ok (.iconst 2, 1) by decide +kernel) (by decide)) (.cons (ok_iadd (show decode code 1096 = .ok (.iadd, 1) by decide +kernel)) (.cons (ok_sld rfl (show decode code 1097 = .ok (.iaload, 1) by decide +kernel)) (.cons (ok_aload_n (k := 0) rfl (show decode code 1098 = .ok (.aload_n 0, 1) by decide +kernel)) (.cons (ok_iload_n (k := 3) rfl (show decode code 1099 = .ok (.iload_n 3, 1) by decide +kernel)) (.cons (ok_iconst (n := 3) (show decode code 1100 = .ok (.iconst 3, 1) by decide +kernel) (by decide)) (.cons (ok_iadd (show decode code 1101 = .ok (.iadd, 1) by decide +kernel)) (.cons (ok_sld rfl (show decode code 1102 = .ok (.iaload, 1) by decide +kernel)) .nil)))))))))))))))
theorem B_L_law_1109 (L : Nat) (xs : Nat → Int32) : Blk (m_L_law L xs) 1109 [o_pure (g_push (.int 0))] 1110 := .cons (ok_iconst (n := 0) (show decode code 1109 = .ok (.iconst 0, 1) by decide +kernel) (by decide)) .nil
theorem B_L_law_1111 (L : Nat) (xs : Nat → Int32) : Blk (m_L_law L xs) 1111 [o_ald 1, o_ald 0, o_ild 3, o_pure (g_push (.int 1)), o_pure (g_ii (fun x y => x + y)), o_sld L xs] 1117 := .cons (ok_aload_n (k := 1) rfl (show decode code 1111 = .ok (.aload_n 1, 1) by decide +kernel)) (.cons (ok_aload_n (k := 0) rfl (show decode code 1112 = .ok (.aload_n 0, 1) by decide +kernel)) (.cons (ok_iload_n (k := 3) rfl (show decode code 1113 = .ok (.iload_n 3, 1) by decide +kernel)) (.cons (ok_iconst (n := 1) (show decode code 1114 = .ok (.iconst 1, 1) by decide +kernel) (by decide)) (.cons (ok_iadd (show decode code 1115 = .ok (.iadd, 1) by decide +kernel)) (.cons (ok_sld rfl (show decode code 1116 = .ok (.iaload, 1) by decide +kernel)) .nil)))))
theorem B_L_law_1120 (L : Nat) (xs : Nat → Int32) : Blk (m_L_law L xs) 1120 [o_ald 2, o_ald 0, o_ild 3, o_pure (g_push (.int 1)), o_pure (g_ii (fun x y => x + y)), o_sld L xs] 1126 := .cons (ok_aload_n (k := 2) rfl (show decode code 1120 = .ok (.aload_n 2, 1) by decide +kernel)) (.cons (ok_aload_n (k := 0) rfl (show decode code 1121 = .ok (.aload_n 0, 1) by decide +kernel)) (.cons (ok_iload_n (k := 3) rfl (show decode code 1122 = .ok (.iload_n 3, 1) by decide +kernel)) (.cons (ok_iconst (n := 1) (show decode code 1123 = .ok (.iconst 1, 1) by decide +kernel) (by decide)) (.cons (ok_iadd (show decode code 1124 = .ok (.iadd, 1) by decide +kernel)) (.cons (ok_sld rfl (show decode code 1125 = .ok (.iaload, 1) by decide +kernel)) .nil)))))
theorem B_L_law_1132 (L : Nat) (xs : Nat → Int32) : Blk (m_L_law L xs) 1132 [o_pure (g_push (.int 0))] 1133 := .cons (ok_iconst (n := 0) (show decode code 1132 = .ok (.iconst 0, 1) by decide +kernel) (by decide)) .nil
theorem B_L_law_1134 (L : Nat) (xs : Nat → Int32) : Blk (m_L_law L xs) 1134 [o_ald 1, o_ald 0, o_ild 3, o_pure (g_push (.int 1)), o_pure (g_ii (fun x y => x + y)), o_sld L xs, o_ald 0, o_ild 3, o_pure (g_push (.int 2)), o_pure (g_ii (fun x y => x + y)), o_sld L xs, o_ald 0, o_ild 3, o_pure (g_push (.int 3)), o_pure (g_ii (fun x y => x + y)), o_sld L xs, o_pure (g_il (fun x => x.toInt64)), o_pure (g_push (.int 32)), o_pure (g_lsh (fun x y => x <<< (y.toInt64 &&& 63))), o_ald 0, o_ild 3, o_pure (g_push (.int 4)), o_pure (g_ii (fun x y => x + y)), o_sld L xs, o_pure (g_il (fun x => x.toInt64)), o_pure (g_push (.long 4294967295)), o_pure (g_ll (fun x y => x &&& y)), o_pure (g_ll (fun x y => x ||| y))] 1165 := .cons (ok_aload_n (k := 1) rfl (show decode code 1134 = .ok (.aload_n 1, 1) by decide +kernel)) (.cons (ok_aload_n (k := 0) rfl (show decode code 1135 = .ok (.aload_n 0, 1) by decide +kernel)) (.cons (ok_iload_n (k := 3) rfl (show decode code 1136 = .ok (.iload_n 3, 1) by decide +kernel)) (.cons (ok_iconst (n := 1) (show decode code 1137 = .ok (.iconst 1, 1) by decide +kernel) (by decide)) (.cons (ok_iadd (show decode code 1138 = .ok (.iadd, 1) by decide +kernel)) (.cons (ok_sld rfl (show decode code 1139 = .ok (.iaload, 1) by decide +kernel)) (.cons (ok_aload_n (k := 0) rfl (show decode code 1140 = .ok (.aload_n 0, 1) by decide +kernel)) (.cons (ok_iload_n (k := 3) rfl (show decode code 1141 = .ok (.iload_n 3, 1) by decide +kernel)) (.cons (ok_iconst (n := 2) (show decode code 1142 = .ok (.iconst 2, 1) by decide +kernel) (by decide)) (.cons (ok_iadd (show decode code 1143 = .ok (.iadd, 1) by decide +kernel)) (.cons (ok_sld rfl (show decode code 1144 = .ok (.iaload, 1) by decide +kernel)) (.cons (ok_aload_n (k := 0) rfl (show decode code 1145 = .ok (.aload_n 0, 1) by decide +kernel)) (.cons (ok_iload_n (k := 3) rfl (show decode code 1146 = .ok (.iload_n 3, 1) by decide +kernel)) (.cons (ok_iconst (n := 3) (show decode code 1147 = .ok (.iconst 3, 1) by decide +kernel) (by decide)) (.cons (ok_iadd (show decode code 1148 = .ok (.iadd, 1) by decide +kernel)) (.cons (ok_sld rfl (show decode code 1149 = .ok (.iaload, 1) by decide +kernel)) (.cons (ok_i2l (show decode code 1150 = .ok (.i2l, 1) by decide +kernel)) (.cons (ok_bipush (n := 32) (show decode code 1151 = .ok (.bipush 32, 2) by decide +kernel) (by decide)) (.cons (ok_lshl (show decode code 1153 = .ok (.lshl, 1) by decide +kernel)) (.cons (ok_aload_n (k := 0) rfl (show decode code 1154 = .ok (.aload_n 0, 1) by decide +kernel)) (.cons (ok_iload_n (k := 3) rfl (show decode code 1155 = .ok (.iload_n 3, 1) by decide +kernel)) (.cons (ok_iconst (n := 4) (show decode code 1156 = .ok (.iconst 4, 1) by decide +kernel) (by decide)) (.cons (ok_iadd (show decode code 1157 = .ok (.iadd, 1) by decide +kernel)) (.cons (ok_sld rfl (show decode code 1158 = .ok (.iaload, 1) by decide +kernel)) (.cons (ok_i2l (show decode code 1159 = .ok (.i2l, 1) by decide +kernel)) (.cons (ok_ldc2 (show decode code 1160 = .ok (.ldc2_w 144, 3) by decide +kernel) co_L_144) (.cons (ok_land (show decode code 1163 = .ok (.land, 1) by decide +kernel)) (.cons (ok_lor (show decode code 1164 = .ok (.lor, 1) by decide +kernel)) .nil)))))))))))))))))))))))))))
theorem B_L_law_1168 (L : Nat) (xs : Nat → Int32) : Blk (m_L_law L xs) 1168 [o_ald 2, o_ald 0, o_ild 3, o_pure (g_push (.int 1)), o_pure (g_ii (fun x y => x + y)), o_sld L xs, o_ald 0, o_ild 3, o_pure (g_push (.int 2)), o_pure (g_ii (fun x y => x + y)), o_sld L xs, o_ald 0, o_ild 3, o_pure (g_push (.int 3)), o_pure (g_ii (fun x y => x + y)), o_sld L xs, o_pure (g_il (fun x => x.toInt64)), o_pure (g_push (.int 32)), o_pure (g_lsh (fun x y => x <<< (y.toInt64 &&& 63))), o_ald 0, o_ild 3, o_pure (g_push (.int 4)), o_pure (g_ii (fun x y => x + y)), o_sld L xs, o_pure (g_il (fun x => x.toInt64)), o_pure (g_push (.long 4294967295)), o_pure (g_ll (fun x y => x &&& y)), o_pure (g_ll (fun x y => x ||| y))] 1199 := .cons (ok_aload_n (k := 2) rfl (show decode code 1168 = .ok (.aload_n 2, 1) by decide +kernel)) (.cons (ok_aload_n (k := 0) rfl (show decode code 1169 = .ok (.aload_n 0, 1) by decide +kernel)) (.cons (ok_iload_n (k := 3) rfl (show decode code 1170 = .ok (.iload_n 3, 1) by decide +kernel)) (.cons (ok_iconst (n := 1) (show decode code 1171 = .ok (.iconst 1, 1) by decide +kernel) (by decide)) (.cons (ok_iadd (show decode code 1172 = .ok (.iadd, 1) by decide +kernel)) (.cons (ok_sld rfl (show decode code 1173 = .ok (.iaload, 1) by decide +kernel)) (.cons (ok_aload_n (k := 0) rfl (show decode code 1174 = .ok (.aload_n 0, 1) by decide +kernel)) (.cons (ok_iload_n (k := 3) rfl (show decode code 1175 = .ok (.iload_n 3, 1) by decide +kernel)) (.cons (ok_iconst (n := 2) (show decode code 1176 = .ok (.iconst 2, 1) by decide +kernel) (by decide)) (.cons (ok_iadd (show decode code 1177 = .ok (.iadd, 1) by decide +kernel)) (.cons (ok_sld rfl (show decode code 1178 = .ok (.iaload, 1) by decide +kernel)) (.cons (ok_aload_n (k := 0) rfl (show decode code 1179 = .ok (.aload_n 0, 1) by decide +kernel)) (.cons (ok_iload_n (k := 3) rfl (show decode code 1180 = .ok (.iload_n 3, 1) by decide +kernel)) (.cons (ok_iconst (n := 3) (show decode code 1181 = .ok (.iconst 3, 1) by decide +kernel) (by decide)) (.cons (ok_iadd (show decode code 1182 = .ok (.iadd, 1) by decide +kernel)) (.cons (ok_sld rfl (show decode code 1183 = .ok (.iaload, 1) by decide +kernel)) (.cons (ok_i2l (show decode code 1184 = .ok (.i2l, 1) by decide +kernel)) (.cons (ok_bipush (n := 32) (show decode code 1185 = .ok (.bipush 32, 2) by decide +kernel) (by decide)) (.cons (ok_lshl (show decode code 1187 = .ok (.lshl, 1) by decide +kernel)) (.cons (ok_aload_n (k := 0) rfl (show decode code 1188 = .ok (.aload_n 0, 1) by decide +kernel)) (.cons (ok_iload_n (k := 3) rfl (show decode code 1189 = .ok (.iload_n 3, 1) by decide +kernel)) (.cons (ok_iconst (n := 4) (show decode code 1190 = .ok (.iconst 4, 1) by decide +kernel) (by decide)) (.cons (ok_iadd (show decode code 1191 = .ok (.iadd, 1) by decide +kernel)) (.cons (ok_sld rfl (show decode code 1192 = .ok (.iaload, 1) by decide +kernel)) (.cons (ok_i2l (show decode code 1193 = .ok (.i2l, 1) by decide +kernel)) (.cons (ok_ldc2 (show decode code 1194 = .ok (.ldc2_w 144, 3) by decide +kernel) co_L_144) (.cons (ok_land (show decode code 1197 = .ok (.land, 1) by decide +kernel)) (.cons (ok_lor (show decode code 1198 = .ok (.lor, 1) by decide +kernel)) .nil)))))))))))))))))))))))))))
theorem B_L_law_1205 (L : Nat) (xs : Nat → Int32) : Blk (m_L_law L xs) 1205 [o_pure (g_push (.int 0))] 1206 := .cons (ok_iconst (n := 0) (show decode code 1205 = .ok (.iconst 0, 1) by decide +kernel) (by decide)) .nil
theorem B_L_law_1207 (L : Nat) (xs : Nat → Int32) : Blk (m_L_law L xs) 1207 [o_ald 1, o_ald 0, o_ild 3, o_pure (g_push (.int 1)), o_pure (g_ii (fun x y => x + y)), o_sld L xs, o_ald 0, o_ild 3, o_pure (g_push (.int 2)), o_pure (g_ii (fun x y => x + y)), o_sld L xs] 1218 := .cons (ok_aload_n (k := 1) rfl (show decode code 1207 = .ok (.aload_n 1, 1) by decide +kernel)) (.cons (ok_aload_n (k := 0) rfl (show decode code 1208 = .ok (.aload_n 0, 1) by decide +kernel)) (.cons (ok_iload_n (k := 3) rfl (show decode code 1209 = .ok (.iload_n 3, 1) by decide +kernel)) (.cons (ok_iconst (n := 1) (show decode code 1210 = .ok (.iconst 1, 1) by decide +kernel) (by decide)) (.cons (ok_iadd (show decode code 1211 = .ok (.iadd, 1) by decide +kernel)) (.cons (ok_sld rfl (show decode code 1212 = .ok (.iaload, 1) by decide +kernel)) (.cons (ok_aload_n (k := 0) rfl (show decode code 1213 = .ok (.aload_n 0, 1) by decide +kernel)) (.cons (ok_iload_n (k := 3) rfl (show decode code 1214 = .ok (.iload_n 3, 1) by decide +kernel)) (.cons (ok_iconst (n := 2) (show decode code 1215 = .ok (.iconst 2, 1) by decide +kernel) (by decide)) (.cons (ok_iadd (show decode code 1216 = .ok (.iadd, 1) by decide +kernel)) (.cons (ok_sld rfl (show decode code 1217 = .ok (.iaload, 1) by decide +kernel)) .nil))))))))))
theorem B_L_law_1221 (L : Nat) (xs : Nat → Int32) : Blk (m_L_law L xs) 1221 [o_ald 2, o_ald 0, o_ild 3, o_pure (g_push (.int 1)), o_pure (g_ii (fun x y => x + y)), o_sld L xs, o_ald 0, o_ild 3, o_pure (g_push (.int 2)), o_pure (g_ii (fun x y => x + y)), o_sld L xs] 1232 := .cons (ok_aload_n (k := 2) rfl (show decode code 1221 = .ok (.aload_n 2, 1) by decide +kernel)) (.cons (ok_aload_n (k := 0) rfl (show decode code 1222 = .ok (.aload_n 0, 1) by decide +kernel)) (.cons (ok_iload_n (k := 3) rfl (show decode code 1223 = .ok (.iload_n 3, 1) by decide +kernel)) (.cons (ok_iconst (n := 1) (show decode code 1224 = .ok (.iconst 1, 1) by decide +kernel) (by decide)) (.cons (ok_iadd (show decode code 1225 = .ok (.iadd, 1) by decide +kernel)) (.cons (ok_sld rfl (show decode code 1226 = .ok (.iaload, 1) by decide +kernel)) (.cons (ok_aload_n (k := 0) rfl (show decode code 1227 = .ok (.aload_n 0, 1) by decide +kernel)) (.cons (ok_iload_n (k := 3) rfl (show decode code 1228 = .ok (.iload_n 3, 1) by decide +kernel)) (.cons (ok_iconst (n := 2) (show decode code 1229 = .ok (.iconst 2, 1) by decide +kernel) (by decide)) (.cons (ok_iadd (show decode code 1230 = .ok (.iadd, 1) by decide +kernel)) (.cons (ok_sld rfl (show decode code 1231 = .ok (.iaload, 1) by decide +kernel)) .nil))))))))))
theorem B_L_law_1235 (L : Nat) (xs : Nat → Int32) : Blk (m_L_law L xs) 1235 [o_pure (g_cmp)] 1236 := .cons (ok_lcmp (show decode code 1235 = .ok (.lcmp, 1) by decide +kernel)) .nil
theorem B_L_law_1239 (L : Nat) (xs : Nat → Int32) : Blk (m_L_law L xs) 1239 [o_pure (g_push (.int 0))] 1240 := .cons (ok_iconst (n := 0) (show decode code 1239 = .ok (.iconst 0, 1) by decide +kernel) (by decide)) .nil
theorem B_L_law_1241 (L : Nat) (xs : Nat → Int32) : Blk (m_L_law L xs) 1241 [o_ald 1, o_ald 0, o_ild 3, o_pure (g_push (.int 1)), o_pure (g_ii (fun x y => x + y)), o_sld L xs, o_ald 0, o_ild 3, o_pure (g_push (.int 2)), o_pure (g_ii (fun x y => x + y)), o_sld L xs, o_ald 0, o_ild 3, o_pure (g_push (.int 3)), o_pure (g_ii (fun x y => x + y)), o_sld L xs, o_ald 0, o_ild 3, o_pure (g_push (.int 4)), o_pure (g_ii (fun x y => x + y)), o_sld L xs, o_ald 0, o_ild 3, o_pure (g_push (.int 5)), o_pure (g_ii (fun x y => x + y)), o_sld L xs] 1267 := .cons (ok_aload_n (k := 1) rfl (show decode code 1241 = .ok (.aload_n 1, 1) by decide +kernel)) (.cons (ok_aload_n (k := 0) rfl (show decode code 1242 = .ok (.aload_n 0, 1) by decide +kernel)) (.cons (ok_iload_n (k := 3) rfl (show decode code 1243 = .ok (.iload_n 3, 1) by decide +kernel)) (.cons (ok_iconst (n := 1) (show decode code 1244 = .ok (.iconst 1, 1) by decide +kernel) (by decide)) (.cons (ok_iadd (show decode code 1245 = .ok (.iadd, 1) by decide +kernel)) (.cons (ok_sld rfl (show decode code 1246 = .ok (.iaload, 1) by decide +kernel)) (.cons (ok_aload_n (k := 0) rfl (show decode code 1247 = .ok (.aload_n 0, 1) by decide +kernel)) (.cons (ok_iload_n (k := 3) rfl (show decode code 1248 = .ok (.iload_n 3, 1) by decide +kernel)) (.cons (ok_iconst (n := 2) (show decode code 1249 = .ok (.iconst 2, 1) by decide +kernel) (by decide)) (.cons (ok_iadd (show decode code 1250 = .ok (.iadd, 1) by decide +kernel)) (.cons (ok_sld rfl (show decode code 1251 = .ok (.iaload, 1) by decide +kernel)) (.cons (ok_aload_n (k := 0) rfl (show decode code 1252 = .ok (.aload_n 0, 1) by decide +kernel)) (.cons (ok_iload_n (k := 3) rfl (show decode code 1253 = .ok (.iload_n 3, 1) by decide +kernel)) (.cons (ok_iconst (n := 3) (show decode code 1254 = .ok (.iconst 3, 1) by decide +kernel) (by decide)) (.cons (ok_iadd (show decode code 1255 = .ok (.iadd, 1) by decide +kernel)) (.cons (ok_sld rfl (show decode code 1256 = .ok (.iaload, 1) by decide +kernel)) (.cons (ok_aload_n (k := 0) rfl (show decode code 1257 = .ok (.aload_n 0, 1) by decide +kernel)) (.cons (ok_iload_n (k := 3) rfl (show decode code 1258 = .ok (.iload_n 3, 1) by decide +kernel)) (.cons (ok_iconst (n := 4) (show decode code 1259 = .ok (.iconst 4, 1) by decide +kernel) (by decide)) (.cons (ok_iadd (show decode code 1260 = .ok (.iadd, 1) by decide +kernel)) (.cons (ok_sld rfl (show decode code 1261 = .ok (.iaload, 1) by decide +kernel)) (.cons (ok_aload_n (k := 0) rfl (show decode code 1262 = .ok (.aload_n 0, 1) by decide +kernel)) (.cons (ok_iload_n (k := 3) rfl (show decode code 1263 = .ok (.iload_n 3, 1) by decide +kernel)) (.cons (ok_iconst (n := 5) (show decode code 1264 = .ok (.iconst 5, 1) by decide +kernel) (by decide)) (.cons (ok_iadd (show decode code 1265 = .ok (.iadd, 1) by decide +kernel)) (.cons (ok_sld rfl (show decode code 1266 = .ok (.iaload, 1) by decide +kernel)) .nil)))))))))))))))))))))))))
theorem B_L_law_1270 (L : Nat) (xs : Nat → Int32) : Blk (m_L_law L xs) 1270 [o_ald 2, o_ald 0, o_ild 3, o_pure (g_push (.int 1)), o_pure (g_ii (fun x y => x + y)), o_sld L xs, o_ald 0, o_ild 3, o_pure (g_push (.int 2)), o_pure (g_ii (fun x y => x + y)), o_sld L xs, o_ald 0, o_ild 3, o_pure (g_push (.int 3)), o_pure (g_ii (fun x y => x + y)), o_sld L xs, o_ald 0, o_ild 3, o_pure (g_push (.int 4)), o_pure (g_ii (fun x y => x + y)), o_sld L xs, o_ald 0, o_ild 3, o_pure (g_push (.int 5)), o_pure (g_ii (fun x y => x + y)), o_sld L xs] 1296 := .cons (ok_aload_n (k := 2) rfl (show decode code 1270 = .ok (.aload_n 2, 1) by decide +kernel)) (.cons (ok_aload_n (k := 0) rfl (show decode code 1271 = .ok (.aload_n 0, 1) by decide +kernel)) (.cons (ok_iload_n (k := 3) rfl (show decode code 1272 = .ok (.iload_n 3, 1) by decide +kernel)) (.cons (ok_iconst (n := 1) (show decode code 1273 = .ok (.iconst 1, 1) by decide +kernel) (by decide)) (.cons (ok_iadd (show decode code 1274 = .ok (.iadd, 1) by decide +kernel)) (.cons (ok_sld rfl (show decode code 1275 = .ok (.iaload, 1) by decide +kernel)) (.cons (ok_aload_n (k := 0) rfl (show decode code 1276 = .ok (.aload_n 0, 1) by decide +kernel)) (.cons (ok_iload_n (k := 3) rfl (show decode code 1277 = .ok (.iload_n 3, 1) by decide +kernel)) (.cons (ok_iconst (n := 2) (show decode code 1278 = .ok (.iconst 2, 1) by decide +kernel) (by decide)) (.cons (ok_iadd (show decode code 1279 = .ok (.iadd, 1) by decide +kernel)) (.cons (ok_sld rfl (show decode code 1280 = .ok (.iaload, 1) by decide +kernel)) (.cons (ok_aload_n (k := 0) rfl (show decode code 1281 = .ok (.aload_n 0, 1) by decide +kernel)) (.cons (ok_iload_n (k := 3) rfl (show decode code 1282 = .ok (.iload_n 3, 1) by decide +kernel)) (.cons (ok_iconst (n := 3) (show decode code 1283 = .ok (.iconst 3, 1) by decide +kernel) (by decide)) (.cons (ok_iadd (show decode code 1284 = .ok (.iadd, 1) by decide +kernel)) (.cons (ok_sld rfl (show decode code 1285 = .ok (.iaload, 1) by decide +kernel)) (.cons (ok_aload_n (k := 0) rfl (show decode code 1286 = .ok (.aload_n 0, 1) by decide +kernel)) (.cons (ok_iload_n (k := 3) rfl (show decode code 1287 = .ok (.iload_n 3, 1) by decide +kernel)) (.cons (ok_iconst (n := 4) (show decode code 1288 = .ok (.iconst 4, 1) by decide +kernel) (by decide)) (.cons (ok_iadd (show decode code 1289 = .ok (.iadd, 1) by decide +kernel)) (.cons (ok_sld rfl (show decode code 1290 = .ok (.iaload, 1) by decide +kernel)) (.cons (ok_aload_n (k := 0) rfl (show decode code 1291 = .ok (.aload_n 0, 1) by decide +kernel)) (.cons (ok_iload_n (k := 3) rfl (show decode code 1292 = .ok (.iload_n 3, 1) by decide +kernel)) (.cons (ok_iconst (n := 5) (show decode code 1293 = .ok (.iconst 5, 1) by decide +kernel) (by decide)) (.cons (ok_iadd (show decode code 1294 = .ok (.iadd, 1) by decide +kernel)) (.cons (ok_sld rfl (show decode code 1295 = .ok (.iaload, 1) by decide +kernel)) .nil)))))))))))))))))))))))))
theorem B_L_law_1302 (L : Nat) (xs : Nat → Int32) : Blk (m_L_law L xs) 1302 [o_pure (g_push (.int 0))] 1303 := .cons (ok_iconst (n := 0) (show decode code 1302 = .ok (.iconst 0, 1) by decide +kernel) (by decide)) .nil
theorem B_L_law_1304 (L : Nat) (xs : Nat → Int32) : Blk (m_L_law L xs) 1304 [o_ald 1, o_ald 0, o_ild 3, o_pure (g_push (.int 1)), o_pure (g_ii (fun x y => x + y)), o_sld L xs] 1310 := .cons (ok_aload_n (k := 1) rfl (show decode code 1304 = .ok (.aload_n 1, 1) by decide +kernel)) (.cons (ok_aload_n (k := 0) rfl (show decode code 1305 = .ok (.aload_n 0, 1) by decide +kernel)) (.cons (ok_iload_n (k := 3) rfl (show decode code 1306 = .ok (.iload_n 3, 1) by decide +kernel)) (.cons (ok_iconst (n := 1) (show decode code 1307 = .ok (.iconst 1, 1) by decide +kernel) (by decide)) (.cons (ok_iadd (show decode code 1308 = .ok (.iadd, 1) by decide +kernel)) (.cons (ok_sld rfl (show decode code 1309 = .ok (.iaload, 1) by decide +kernel)) .nil)))))
theorem B_L_law_1313 (L : Nat) (xs : Nat → Int32) : Blk (m_L_law L xs) 1313 [o_ald 2, o_ald 0, o_ild 3, o_pure (g_push (.int 1)), o_pure (g_ii (fun x y => x + y)), o_sld L xs] 1319 := .cons (ok_aload_n (k := 2) rfl (show decode code 1313 = .ok (.aload_n 2, 1) by decide +kernel)) (.cons (ok_aload_n (k := 0) rfl (show decode code 1314 = .ok (.aload_n 0, 1) by decide +kernel)) (.cons (ok_iload_n (k := 3) rfl (show decode code 1315 = .ok (.iload_n 3, 1) by decide +kernel)) (.cons (ok_iconst (n := 1) (show decode code 1316 = .ok (.iconst 1, 1) by decide +kernel) (by decide)) (.cons (ok_iadd (show decode code 1317 = .ok (.iadd, 1) by decide +kernel)) (.cons (ok_sld rfl (show decode code 1318 = .ok (.iaload, 1) by decide +kernel)) .nil)))))
theorem B_L_law_1325 (L : Nat) (xs : Nat → Int32) : Blk (m_L_law L xs) 1325 [o_pure (g_push (.int 0))] 1326 := .cons (ok_iconst (n := 0) (show decode code 1325 = .ok (.iconst 0, 1) by decide +kernel) (by decide)) .nil
theorem B_L_law_1327 (L : Nat) (xs : Nat → Int32) : Blk (m_L_law L xs) 1327 [o_ald 1] 1328 := .cons (ok_aload_n (k := 1) rfl (show decode code 1327 = .ok (.aload_n 1, 1) by decide +kernel)) .nil
theorem B_L_law_1331 (L : Nat) (xs : Nat → Int32) : Blk (m_L_law L xs) 1331 [o_ald 2] 1332 := .cons (ok_aload_n (k := 2) rfl (show decode code 1331 = .ok (.aload_n 2, 1) by decide +kernel)) .nil
theorem B_L_law_1338 (L : Nat) (xs : Nat → Int32) : Blk (m_L_law L xs) 1338 [o_pure (g_push (.int 0))] 1339 := .cons (ok_iconst (n := 0) (show decode code 1338 = .ok (.iconst 0, 1) by decide +kernel) (by decide)) .nil
theorem B_L_law_1340 (L : Nat) (xs : Nat → Int32) : Blk (m_L_law L xs) 1340 [o_ald 1] 1341 := .cons (ok_aload_n (k := 1) rfl (show decode code 1340 = .ok (.aload_n 1, 1) by decide +kernel)) .nil
theorem B_L_law_1344 (L : Nat) (xs : Nat → Int32) : Blk (m_L_law L xs) 1344 [o_ald 2] 1345 := .cons (ok_aload_n (k := 2) rfl (show decode code 1344 = .ok (.aload_n 2, 1) by decide +kernel)) .nil
theorem B_L_law_1351 (L : Nat) (xs : Nat → Int32) : Blk (m_L_law L xs) 1351 [o_pure (g_push (.int 0))] 1352 := .cons (ok_iconst (n := 0) (show decode code 1351 = .ok (.iconst 0, 1) by decide +kernel) (by decide)) .nil
theorem B_L_law_1353 (L : Nat) (xs : Nat → Int32) : Blk (m_L_law L xs) 1353 [o_iinc 3 6, o_pure g_id] 18 := .cons (ok_iinc (z := 6) (show decode code 1353 = .ok (.iinc 3 6, 3) by decide +kernel) (by decide)) (.cons (ok_goto (off := (-1338)) (tgt := 18) (show decode code 1356 = .ok (.goto (-1338), 3) by decide +kernel) (by decide)) .nil)
theorem B_L_law_1359 (L : Nat) (xs : Nat → Int32) : Blk (m_L_law L xs) 1359 [o_pure (g_push (.int 1))] 1360 := .cons (ok_iconst (n := 1) (show decode code 1359 = .ok (.iconst 1, 1) by decide +kernel) (by decide)) .nil
end
section
/-! METHODS THAT MAKE NOTHING -/
def Ez (γ : aM) (d pc : Nat) (lo : aLo) (st : List Value) (E : aE) (I : aI) (J : aJ) (Q : Option Value → aI → aJ → Prop) : Prop := Ex γ d 0 0 E.1 (0, 0) pc lo st E I J (fun r E' I' J' => E' = E ∧ Q r I' J')
/-- the method, called so, comes to its end with Q -/
def Sp (γ : aM) (d : Nat) (As : List Value) (E : aE) (I : aI) (J : aJ) (Q : Option Value → aI → aJ → Prop) : Prop := Ez γ d 0 (aEn γ.2.2.1 As) [] E I J Q
section EZ
variable {γ γ' : aM} {d pc pc' : Nat} {lo lo' : aLo} {st st' : List Value} {E : aE} {I I' : aI} {J J' : aJ} {Q : Option Value → aI → aJ → Prop} {Q' : Option Value → aI → aJ → Prop}
theorem Ez.blk {os : List aOp} {Ps : List Prop} (h : Blk γ pc os pc') (hr : aRun E os (lo, st, I, J) = some ((lo', st', I', J'), Ps)) (hp : aAll Ps) (k : Ez γ (d + 1) pc' lo' st' E I' J' Q) : Ez γ (d + 1) pc lo st E I J Q := Ex.blk h hr hp k
theorem Ez.conseq (h : Ez γ d pc lo st E I J Q) (hq : ∀ r I' J', Q r I' J' → Q' r I' J') : Ez γ d pc lo st E I J Q' := Ex.conseq h (fun r E' I' J' q => ⟨q.1, hq r I' J' q.2⟩)
theorem Sp.conseq {As : List Value} (h : Sp γ d As E I J Q) (hq : ∀ r I' J', Q r I' J' → Q' r I' J') : Sp γ d As E I J Q' := Ez.conseq h hq
theorem Ez.callV {idx ci n : Nat} {As rest : List Value} {b : Nat} {T : u_T} {N : Nat}
    (hkn : aKn γ' n) (hl : Cond.methodLink γ.1.cls idx γ'.1 ∈ lw_tbg) (hi : Cond.instanceMethod γ'.1 ∈ lw_tbg) (hsel : Cond.selects γ'.1.cls γ'.1 γ'.1 ∈ lw_tbg) (hcl : vwCl[ci]? = some (γ'.1.cls, T, N)) (hdg : decode γ.2.1 pc = .ok (.invokevirtual idx, 3))
    (hst : st = As.reverse ++ .ref b :: rest) (hn : As.length = n) (hle : (aArgs (.ref b :: As)).length ≤ γ'.2.2.1) (h8 : aSm rest ≤ 8) (hb : aO E b ci)
    (hc : Sp γ' d (.ref b :: As) E I J Q') (k : ∀ r I' J', Q' r I' J' → Ez γ (d + 1) (pc + 3) lo (r.toList ++ rest) E I' J' Q) : Ez γ (d + 1) pc lo st E I J Q := Ex.callV hkn hl hi hsel hcl hdg hst hn hle h8 hb hc k
theorem Ez.callS {idx n : Nat} {As rest : List Value}
    (hkn : aKn γ' n) (hl : Cond.methodLink γ.1.cls idx γ'.1 ∈ lw_tbg) (hi : Cond.static γ'.1 ∈ lw_tbg) (hdg : decode γ.2.1 pc = .ok (.invokestatic idx, 3))
    (hst : st = As.reverse ++ rest) (hn : As.length = n) (hle : (aArgs As).length ≤ γ'.2.2.1) (h8 : aSm rest ≤ 8)
    (hc : Sp γ' d As E I J Q') (k : ∀ r I' J', Q' r I' J' → Ez γ (d + 1) (pc + 3) lo (r.toList ++ rest) E I' J' Q) : Ez γ (d + 1) pc lo st E I J Q := Ex.callS hkn hl hi hdg hst hn hle h8 hc k
theorem Ez.icmp_eq {x y : Int32} {r : List Value} {off : Int} {tgt : Nat} (hdg : decode γ.2.1 pc = .ok (.if_icmp .eq off, 3)) (ht : (pc : Int) + off = (tgt : Int)) (kt : x = y → Ez γ d tgt lo r E I J Q) (kf : ¬ (x = y) → Ez γ d (pc + 3) lo r E I J Q) : Ez γ d pc lo (.int y :: .int x :: r) E I J Q := Ex.icmp_eq hdg ht kt kf
theorem Ez.if_eq {x : Int32} {r : List Value} {off : Int} {tgt : Nat} (hdg : decode γ.2.1 pc = .ok (.ifCond .eq off, 3)) (ht : (pc : Int) + off = (tgt : Int)) (kt : x = 0 → Ez γ d tgt lo r E I J Q) (kf : ¬ (x = 0) → Ez γ d (pc + 3) lo r E I J Q) : Ez γ d pc lo (.int x :: r) E I J Q := Ex.if_eq hdg ht kt kf
theorem Ez.lif_eq {x y : Int64} {r : List Value} {off : Int} {tgt : Nat} (hdg : decode γ.2.1 pc = .ok (.ifCond .eq off, 3)) (ht : (pc : Int) + off = (tgt : Int)) (kt : x = y → Ez γ d tgt lo r E I J Q) (kf : ¬ (x = y) → Ez γ d (pc + 3) lo r E I J Q) : Ez γ d pc lo (.int (lg_cmp x y) :: r) E I J Q := Ex.lif_eq hdg ht kt kf
theorem Ez.icmp_ne {x y : Int32} {r : List Value} {off : Int} {tgt : Nat} (hdg : decode γ.2.1 pc = .ok (.if_icmp .ne off, 3)) (ht : (pc : Int) + off = (tgt : Int)) (kt : ¬ x = y → Ez γ d tgt lo r E I J Q) (kf : x = y → Ez γ d (pc + 3) lo r E I J Q) : Ez γ d pc lo (.int y :: .int x :: r) E I J Q := Ex.icmp_ne hdg ht kt kf
theorem Ez.if_ne {x : Int32} {r : List Value} {off : Int} {tgt : Nat} (hdg : decode γ.2.1 pc = .ok (.ifCond .ne off, 3)) (ht : (pc : Int) + off = (tgt : Int)) (kt : ¬ x = 0 → Ez γ d tgt lo r E I J Q) (kf : x = 0 → Ez γ d (pc + 3) lo r E I J Q) : Ez γ d pc lo (.int x :: r) E I J Q := Ex.if_ne hdg ht kt kf
theorem Ez.lif_ne {x y : Int64} {r : List Value} {off : Int} {tgt : Nat} (hdg : decode γ.2.1 pc = .ok (.ifCond .ne off, 3)) (ht : (pc : Int) + off = (tgt : Int)) (kt : ¬ x = y → Ez γ d tgt lo r E I J Q) (kf : x = y → Ez γ d (pc + 3) lo r E I J Q) : Ez γ d pc lo (.int (lg_cmp x y) :: r) E I J Q := Ex.lif_ne hdg ht kt kf
theorem Ez.icmp_lt {x y : Int32} {r : List Value} {off : Int} {tgt : Nat} (hdg : decode γ.2.1 pc = .ok (.if_icmp .lt off, 3)) (ht : (pc : Int) + off = (tgt : Int)) (kt : x < y → Ez γ d tgt lo r E I J Q) (kf : ¬ (x < y) → Ez γ d (pc + 3) lo r E I J Q) : Ez γ d pc lo (.int y :: .int x :: r) E I J Q := Ex.icmp_lt hdg ht kt kf
theorem Ez.if_lt {x : Int32} {r : List Value} {off : Int} {tgt : Nat} (hdg : decode γ.2.1 pc = .ok (.ifCond .lt off, 3)) (ht : (pc : Int) + off = (tgt : Int)) (kt : x < 0 → Ez γ d tgt lo r E I J Q) (kf : ¬ (x < 0) → Ez γ d (pc + 3) lo r E I J Q) : Ez γ d pc lo (.int x :: r) E I J Q := Ex.if_lt hdg ht kt kf
theorem Ez.lif_lt {x y : Int64} {r : List Value} {off : Int} {tgt : Nat} (hdg : decode γ.2.1 pc = .ok (.ifCond .lt off, 3)) (ht : (pc : Int) + off = (tgt : Int)) (kt : x < y → Ez γ d tgt lo r E I J Q) (kf : ¬ (x < y) → Ez γ d (pc + 3) lo r E I J Q) : Ez γ d pc lo (.int (lg_cmp x y) :: r) E I J Q := Ex.lif_lt hdg ht kt kf
theorem Ez.icmp_ge {x y : Int32} {r : List Value} {off : Int} {tgt : Nat} (hdg : decode γ.2.1 pc = .ok (.if_icmp .ge off, 3)) (ht : (pc : Int) + off = (tgt : Int)) (kt : y ≤ x → Ez γ d tgt lo r E I J Q) (kf : ¬ (y ≤ x) → Ez γ d (pc + 3) lo r E I J Q) : Ez γ d pc lo (.int y :: .int x :: r) E I J Q := Ex.icmp_ge hdg ht kt kf
theorem Ez.if_ge {x : Int32} {r : List Value} {off : Int} {tgt : Nat} (hdg : decode γ.2.1 pc = .ok (.ifCond .ge off, 3)) (ht : (pc : Int) + off = (tgt : Int)) (kt : 0 ≤ x → Ez γ d tgt lo r E I J Q) (kf : ¬ (0 ≤ x) → Ez γ d (pc + 3) lo r E I J Q) : Ez γ d pc lo (.int x :: r) E I J Q := Ex.if_ge hdg ht kt kf
theorem Ez.lif_ge {x y : Int64} {r : List Value} {off : Int} {tgt : Nat} (hdg : decode γ.2.1 pc = .ok (.ifCond .ge off, 3)) (ht : (pc : Int) + off = (tgt : Int)) (kt : y ≤ x → Ez γ d tgt lo r E I J Q) (kf : ¬ (y ≤ x) → Ez γ d (pc + 3) lo r E I J Q) : Ez γ d pc lo (.int (lg_cmp x y) :: r) E I J Q := Ex.lif_ge hdg ht kt kf
theorem Ez.icmp_gt {x y : Int32} {r : List Value} {off : Int} {tgt : Nat} (hdg : decode γ.2.1 pc = .ok (.if_icmp .gt off, 3)) (ht : (pc : Int) + off = (tgt : Int)) (kt : y < x → Ez γ d tgt lo r E I J Q) (kf : ¬ (y < x) → Ez γ d (pc + 3) lo r E I J Q) : Ez γ d pc lo (.int y :: .int x :: r) E I J Q := Ex.icmp_gt hdg ht kt kf
theorem Ez.if_gt {x : Int32} {r : List Value} {off : Int} {tgt : Nat} (hdg : decode γ.2.1 pc = .ok (.ifCond .gt off, 3)) (ht : (pc : Int) + off = (tgt : Int)) (kt : 0 < x → Ez γ d tgt lo r E I J Q) (kf : ¬ (0 < x) → Ez γ d (pc + 3) lo r E I J Q) : Ez γ d pc lo (.int x :: r) E I J Q := Ex.if_gt hdg ht kt kf
theorem Ez.lif_gt {x y : Int64} {r : List Value} {off : Int} {tgt : Nat} (hdg : decode γ.2.1 pc = .ok (.ifCond .gt off, 3)) (ht : (pc : Int) + off = (tgt : Int)) (kt : y < x → Ez γ d tgt lo r E I J Q) (kf : ¬ (y < x) → Ez γ d (pc + 3) lo r E I J Q) : Ez γ d pc lo (.int (lg_cmp x y) :: r) E I J Q := Ex.lif_gt hdg ht kt kf
theorem Ez.icmp_le {x y : Int32} {r : List Value} {off : Int} {tgt : Nat} (hdg : decode γ.2.1 pc = .ok (.if_icmp .le off, 3)) (ht : (pc : Int) + off = (tgt : Int)) (kt : x ≤ y → Ez γ d tgt lo r E I J Q) (kf : ¬ (x ≤ y) → Ez γ d (pc + 3) lo r E I J Q) : Ez γ d pc lo (.int y :: .int x :: r) E I J Q := Ex.icmp_le hdg ht kt kf
theorem Ez.if_le {x : Int32} {r : List Value} {off : Int} {tgt : Nat} (hdg : decode γ.2.1 pc = .ok (.ifCond .le off, 3)) (ht : (pc : Int) + off = (tgt : Int)) (kt : x ≤ 0 → Ez γ d tgt lo r E I J Q) (kf : ¬ (x ≤ 0) → Ez γ d (pc + 3) lo r E I J Q) : Ez γ d pc lo (.int x :: r) E I J Q := Ex.if_le hdg ht kt kf
theorem Ez.lif_le {x y : Int64} {r : List Value} {off : Int} {tgt : Nat} (hdg : decode γ.2.1 pc = .ok (.ifCond .le off, 3)) (ht : (pc : Int) + off = (tgt : Int)) (kt : x ≤ y → Ez γ d tgt lo r E I J Q) (kf : ¬ (x ≤ y) → Ez γ d (pc + 3) lo r E I J Q) : Ez γ d pc lo (.int (lg_cmp x y) :: r) E I J Q := Ex.lif_le hdg ht kt kf
theorem Ez.iret {v : Int32} (hr : γ.2.2.2.1 = some .int) (hdg : decode γ.2.1 pc = .ok (.ireturn, 1)) (hq : Q (some (.int v)) I J) : Ez γ d pc lo [.int v] E I J Q := Ex.iret hr hdg ⟨rfl, hq⟩
theorem Ez.zret {v : Int32} (hr : γ.2.2.2.1 = some .boolean) (hv : v = 0 ∨ v = 1) (hdg : decode γ.2.1 pc = .ok (.ireturn, 1)) (hq : Q (some (.int v)) I J) : Ez γ d pc lo [.int v] E I J Q := Ex.zret hr hv hdg ⟨rfl, hq⟩
theorem Ez.lret {v : Int64} (hr : γ.2.2.2.1 = some .long) (hdg : decode γ.2.1 pc = .ok (.lreturn, 1)) (hq : Q (some (.long v)) I J) : Ez γ d pc lo [.long v] E I J Q := Ex.lret hr hdg ⟨rfl, hq⟩
theorem Ez.vret (hr : γ.2.2.2.1 = none) (hdg : decode γ.2.1 pc = .ok (.return_, 1)) (hq : Q none I J) : Ez γ d pc lo [] E I J Q := Ex.vret hr hdg ⟨rfl, hq⟩
theorem Ez.aret {a : Nat} {rt : FieldType} (hr : γ.2.2.2.1 = some rt) (hv : (∃ n, rt = .object n) ∨ ∃ t, rt = .array t) (hdg : decode γ.2.1 pc = .ok (.areturn, 1)) (hq : Q (some (.ref a)) I J) : Ez γ d pc lo [.ref a] E I J Q := Ex.aret hr hv hdg ⟨rfl, hq⟩
end EZ
/-! THE CELLS behind the constructors -/
def shL : List (Nat × Nat) := [(9, 0), (0, 9), (0, 1), (1, 6), (1, 36), (0, 1), (1, 6), (1, 36), (0, 1), (1, 6), (1, 36), (0, 4), (4, 10), (0, 1), (1, 6), (1, 36), (0, 1), (1, 6), (1, 36), (0, 1), (1, 6), (1, 36), (0, 1), (1, 6), (1, 36), (0, 1), (1, 6), (1, 36), (0, 1), (1, 6), (1, 36), (0, 1), (1, 6), (1, 36), (0, 1), (1, 6), (1, 36), (0, 1), (1, 6), (1, 36), (0, 1), (1, 6), (1, 36), (0, 3), (0, 1), (1, 6), (1, 36), (0, 8), (1, 36), (2, 36), (1, 6), (1, 6), (2, 6), (2, 6), (1, 6), (1, 6), (5, 16), (2, 36), (2, 36), (2, 36), (2, 36), (2, 36), (2, 36), (2, 36), (2, 36), (2, 36), (2, 36), (2, 36), (2, 36), (2, 36), (2, 36), (2, 36), (2, 36), (2, 16), (0, 6), (1, 6), (1, 6), (0, 7), (2, 6), (2, 6), (0, 2), (0, 5), (1, 80), (1, 6), (1, 60), (0, 0), (1, 4), (1, 4), (5, 4), (2, 40), (2, 40), (2, 40), (2, 40), (0, 10), (1, 46), (1, 460), (1, 46), (1, 46), (2, 36), (2, 36), (1, 36), (3, 36), (2, 12), (1, 12), (1, 6), (1, 6), (2, 6), (2, 6), (1, 80), (1, 6), (1, 60), (3, 6), (1, 4), (1, 4), (2, 160)]
def rfL : List (List Nat) := [[], [2, 5, 8, 0, 11, 43, 74, 77, 80, 81, 85], [0, 0, 0, 0, 3, 4], [], [], [0, 0, 0, 0, 6, 7], [], [], [0, 0, 0, 0, 9, 10], [], [], [0, 0, 12], [13, 16, 19, 22, 25, 28, 31, 34, 37, 40], [0, 0, 0, 0, 14, 15], [], [], [0, 0, 0, 0, 17, 18], [], [], [0, 0, 0, 0, 20, 21], [], [], [0, 0, 0, 0, 23, 24], [], [], [0, 0, 0, 0, 26, 27], [], [], [0, 0, 0, 0, 29, 30], [], [], [0, 0, 0, 0, 32, 33], [], [], [0, 0, 0, 0, 35, 36], [], [], [0, 0, 0, 0, 38, 39], [], [], [0, 0, 0, 0, 41, 42], [], [], [44, 47, 56, 73, 0], [0, 0, 0, 0, 45, 46], [], [], [48, 0, 49, 50, 51, 52, 53, 54, 55], [], [], [], [], [], [], [], [], [57, 58, 59, 60, 61, 62, 63, 64, 65, 66, 67, 68, 69, 70, 71, 72], [], [], [], [], [], [], [], [], [], [], [], [], [], [], [], [], [], [0, 75, 76], [], [], [78, 79], [], [], [81, 0, 0, 0, 0, 0, 83, 84], [0, 82], [], [], [], [86, 87, 88], [], [], [89, 90, 91, 92], [], [], [], [], [94, 95, 0, 96, 0, 97, 98, 99, 100, 101, 102, 103, 104, 105, 0, 106, 107, 108, 0, 0, 0, 0, 0, 0, 109, 110, 111, 112, 113, 114], [], [], [], [], [], [], [], [], [], [], [], [], [], [], [], [], [], [], [], [], []]
def E0 : aE := (114, fun a => shL.getD a (9, 0), fun a k => (rfL.getD a []).getD k 0)
theorem o_1 : aO E0 1 9 := by decide +kernel
theorem r_1_0 : aO E0 1 9 ∧ E0.2.2 1 0 ≠ 0 := by decide +kernel
theorem r_1_1 : aO E0 1 9 ∧ E0.2.2 1 1 ≠ 0 := by decide +kernel
theorem r_1_2 : aO E0 1 9 ∧ E0.2.2 1 2 ≠ 0 := by decide +kernel
theorem r_1_4 : aO E0 1 9 ∧ E0.2.2 1 4 ≠ 0 := by decide +kernel
theorem r_1_5 : aO E0 1 9 ∧ E0.2.2 1 5 ≠ 0 := by decide +kernel
theorem r_1_6 : aO E0 1 9 ∧ E0.2.2 1 6 ≠ 0 := by decide +kernel
theorem r_1_7 : aO E0 1 9 ∧ E0.2.2 1 7 ≠ 0 := by decide +kernel
theorem r_1_8 : aO E0 1 9 ∧ E0.2.2 1 8 ≠ 0 := by decide +kernel
theorem r_1_9 : aO E0 1 9 ∧ E0.2.2 1 9 ≠ 0 := by decide +kernel
theorem r_1_10 : aO E0 1 9 ∧ E0.2.2 1 10 ≠ 0 := by decide +kernel
theorem o_2 : aO E0 2 1 := by decide +kernel
theorem r_2_4 : aO E0 2 1 ∧ E0.2.2 2 4 ≠ 0 := by decide +kernel
theorem r_2_5 : aO E0 2 1 ∧ E0.2.2 2 5 ≠ 0 := by decide +kernel
theorem t_3 : aIs E0 3 ∧ (E0.2.1 3).1 = 1 := by decide +kernel
theorem a_3 {i : Int32} (h : vp_in i 6) : aAr E0 1 3 i := ⟨t_3.1, t_3.2, h⟩
theorem t_4 : aIs E0 4 ∧ (E0.2.1 4).1 = 1 := by decide +kernel
theorem a_4 {i : Int32} (h : vp_in i 36) : aAr E0 1 4 i := ⟨t_4.1, t_4.2, h⟩
theorem o_5 : aO E0 5 1 := by decide +kernel
theorem r_5_4 : aO E0 5 1 ∧ E0.2.2 5 4 ≠ 0 := by decide +kernel
theorem r_5_5 : aO E0 5 1 ∧ E0.2.2 5 5 ≠ 0 := by decide +kernel
theorem t_6 : aIs E0 6 ∧ (E0.2.1 6).1 = 1 := by decide +kernel
theorem a_6 {i : Int32} (h : vp_in i 6) : aAr E0 1 6 i := ⟨t_6.1, t_6.2, h⟩
theorem t_7 : aIs E0 7 ∧ (E0.2.1 7).1 = 1 := by decide +kernel
theorem a_7 {i : Int32} (h : vp_in i 36) : aAr E0 1 7 i := ⟨t_7.1, t_7.2, h⟩
theorem o_8 : aO E0 8 1 := by decide +kernel
theorem r_8_4 : aO E0 8 1 ∧ E0.2.2 8 4 ≠ 0 := by decide +kernel
theorem r_8_5 : aO E0 8 1 ∧ E0.2.2 8 5 ≠ 0 := by decide +kernel
theorem t_9 : aIs E0 9 ∧ (E0.2.1 9).1 = 1 := by decide +kernel
theorem a_9 {i : Int32} (h : vp_in i 6) : aAr E0 1 9 i := ⟨t_9.1, t_9.2, h⟩
theorem t_10 : aIs E0 10 ∧ (E0.2.1 10).1 = 1 := by decide +kernel
theorem a_10 {i : Int32} (h : vp_in i 36) : aAr E0 1 10 i := ⟨t_10.1, t_10.2, h⟩
theorem o_11 : aO E0 11 4 := by decide +kernel
theorem r_11_2 : aO E0 11 4 ∧ E0.2.2 11 2 ≠ 0 := by decide +kernel
theorem t_12 : (aIs E0 12 ∧ (E0.2.1 12).1 = 4) ∧ ∀ k, k < 10 → E0.2.2 12 k ≠ 0 := by decide +kernel
theorem a_12 {i : Int32} {k : Nat} (e : i = nI k) (h : k < 10) : aAr E0 4 12 i ∧ E0.2.2 12 i.toNatClampNeg ≠ 0 := ⟨⟨t_12.1.1, t_12.1.2, by rw [e]; exact vp_in_nI h (by decide)⟩, by rw [e, nI_clamp (Nat.lt_trans h (by decide))]; exact t_12.2 k h⟩
theorem o_13 : aO E0 13 1 := by decide +kernel
theorem r_13_4 : aO E0 13 1 ∧ E0.2.2 13 4 ≠ 0 := by decide +kernel
theorem r_13_5 : aO E0 13 1 ∧ E0.2.2 13 5 ≠ 0 := by decide +kernel
theorem t_14 : aIs E0 14 ∧ (E0.2.1 14).1 = 1 := by decide +kernel
theorem a_14 {i : Int32} (h : vp_in i 6) : aAr E0 1 14 i := ⟨t_14.1, t_14.2, h⟩
theorem t_15 : aIs E0 15 ∧ (E0.2.1 15).1 = 1 := by decide +kernel
theorem a_15 {i : Int32} (h : vp_in i 36) : aAr E0 1 15 i := ⟨t_15.1, t_15.2, h⟩
theorem o_16 : aO E0 16 1 := by decide +kernel
theorem r_16_4 : aO E0 16 1 ∧ E0.2.2 16 4 ≠ 0 := by decide +kernel
theorem r_16_5 : aO E0 16 1 ∧ E0.2.2 16 5 ≠ 0 := by decide +kernel
theorem t_17 : aIs E0 17 ∧ (E0.2.1 17).1 = 1 := by decide +kernel
theorem a_17 {i : Int32} (h : vp_in i 6) : aAr E0 1 17 i := ⟨t_17.1, t_17.2, h⟩
theorem t_18 : aIs E0 18 ∧ (E0.2.1 18).1 = 1 := by decide +kernel
theorem a_18 {i : Int32} (h : vp_in i 36) : aAr E0 1 18 i := ⟨t_18.1, t_18.2, h⟩
theorem o_19 : aO E0 19 1 := by decide +kernel
theorem r_19_4 : aO E0 19 1 ∧ E0.2.2 19 4 ≠ 0 := by decide +kernel
theorem r_19_5 : aO E0 19 1 ∧ E0.2.2 19 5 ≠ 0 := by decide +kernel
theorem t_20 : aIs E0 20 ∧ (E0.2.1 20).1 = 1 := by decide +kernel
theorem a_20 {i : Int32} (h : vp_in i 6) : aAr E0 1 20 i := ⟨t_20.1, t_20.2, h⟩
theorem t_21 : aIs E0 21 ∧ (E0.2.1 21).1 = 1 := by decide +kernel
theorem a_21 {i : Int32} (h : vp_in i 36) : aAr E0 1 21 i := ⟨t_21.1, t_21.2, h⟩
theorem o_22 : aO E0 22 1 := by decide +kernel
theorem r_22_4 : aO E0 22 1 ∧ E0.2.2 22 4 ≠ 0 := by decide +kernel
theorem r_22_5 : aO E0 22 1 ∧ E0.2.2 22 5 ≠ 0 := by decide +kernel
theorem t_23 : aIs E0 23 ∧ (E0.2.1 23).1 = 1 := by decide +kernel
theorem a_23 {i : Int32} (h : vp_in i 6) : aAr E0 1 23 i := ⟨t_23.1, t_23.2, h⟩
theorem t_24 : aIs E0 24 ∧ (E0.2.1 24).1 = 1 := by decide +kernel
theorem a_24 {i : Int32} (h : vp_in i 36) : aAr E0 1 24 i := ⟨t_24.1, t_24.2, h⟩
theorem o_25 : aO E0 25 1 := by decide +kernel
theorem r_25_4 : aO E0 25 1 ∧ E0.2.2 25 4 ≠ 0 := by decide +kernel
theorem r_25_5 : aO E0 25 1 ∧ E0.2.2 25 5 ≠ 0 := by decide +kernel
theorem t_26 : aIs E0 26 ∧ (E0.2.1 26).1 = 1 := by decide +kernel
theorem a_26 {i : Int32} (h : vp_in i 6) : aAr E0 1 26 i := ⟨t_26.1, t_26.2, h⟩
theorem t_27 : aIs E0 27 ∧ (E0.2.1 27).1 = 1 := by decide +kernel
theorem a_27 {i : Int32} (h : vp_in i 36) : aAr E0 1 27 i := ⟨t_27.1, t_27.2, h⟩
theorem o_28 : aO E0 28 1 := by decide +kernel
theorem r_28_4 : aO E0 28 1 ∧ E0.2.2 28 4 ≠ 0 := by decide +kernel
theorem r_28_5 : aO E0 28 1 ∧ E0.2.2 28 5 ≠ 0 := by decide +kernel
theorem t_29 : aIs E0 29 ∧ (E0.2.1 29).1 = 1 := by decide +kernel
theorem a_29 {i : Int32} (h : vp_in i 6) : aAr E0 1 29 i := ⟨t_29.1, t_29.2, h⟩
theorem t_30 : aIs E0 30 ∧ (E0.2.1 30).1 = 1 := by decide +kernel
theorem a_30 {i : Int32} (h : vp_in i 36) : aAr E0 1 30 i := ⟨t_30.1, t_30.2, h⟩
theorem o_31 : aO E0 31 1 := by decide +kernel
theorem r_31_4 : aO E0 31 1 ∧ E0.2.2 31 4 ≠ 0 := by decide +kernel
theorem r_31_5 : aO E0 31 1 ∧ E0.2.2 31 5 ≠ 0 := by decide +kernel
theorem t_32 : aIs E0 32 ∧ (E0.2.1 32).1 = 1 := by decide +kernel
theorem a_32 {i : Int32} (h : vp_in i 6) : aAr E0 1 32 i := ⟨t_32.1, t_32.2, h⟩
theorem t_33 : aIs E0 33 ∧ (E0.2.1 33).1 = 1 := by decide +kernel
theorem a_33 {i : Int32} (h : vp_in i 36) : aAr E0 1 33 i := ⟨t_33.1, t_33.2, h⟩
theorem o_34 : aO E0 34 1 := by decide +kernel
theorem r_34_4 : aO E0 34 1 ∧ E0.2.2 34 4 ≠ 0 := by decide +kernel
theorem r_34_5 : aO E0 34 1 ∧ E0.2.2 34 5 ≠ 0 := by decide +kernel
theorem t_35 : aIs E0 35 ∧ (E0.2.1 35).1 = 1 := by decide +kernel
theorem a_35 {i : Int32} (h : vp_in i 6) : aAr E0 1 35 i := ⟨t_35.1, t_35.2, h⟩
theorem t_36 : aIs E0 36 ∧ (E0.2.1 36).1 = 1 := by decide +kernel
theorem a_36 {i : Int32} (h : vp_in i 36) : aAr E0 1 36 i := ⟨t_36.1, t_36.2, h⟩
theorem o_37 : aO E0 37 1 := by decide +kernel
theorem r_37_4 : aO E0 37 1 ∧ E0.2.2 37 4 ≠ 0 := by decide +kernel
theorem r_37_5 : aO E0 37 1 ∧ E0.2.2 37 5 ≠ 0 := by decide +kernel
theorem t_38 : aIs E0 38 ∧ (E0.2.1 38).1 = 1 := by decide +kernel
theorem a_38 {i : Int32} (h : vp_in i 6) : aAr E0 1 38 i := ⟨t_38.1, t_38.2, h⟩
theorem t_39 : aIs E0 39 ∧ (E0.2.1 39).1 = 1 := by decide +kernel
theorem a_39 {i : Int32} (h : vp_in i 36) : aAr E0 1 39 i := ⟨t_39.1, t_39.2, h⟩
theorem o_40 : aO E0 40 1 := by decide +kernel
theorem r_40_4 : aO E0 40 1 ∧ E0.2.2 40 4 ≠ 0 := by decide +kernel
theorem r_40_5 : aO E0 40 1 ∧ E0.2.2 40 5 ≠ 0 := by decide +kernel
theorem t_41 : aIs E0 41 ∧ (E0.2.1 41).1 = 1 := by decide +kernel
theorem a_41 {i : Int32} (h : vp_in i 6) : aAr E0 1 41 i := ⟨t_41.1, t_41.2, h⟩
theorem t_42 : aIs E0 42 ∧ (E0.2.1 42).1 = 1 := by decide +kernel
theorem a_42 {i : Int32} (h : vp_in i 36) : aAr E0 1 42 i := ⟨t_42.1, t_42.2, h⟩
theorem o_43 : aO E0 43 3 := by decide +kernel
theorem r_43_0 : aO E0 43 3 ∧ E0.2.2 43 0 ≠ 0 := by decide +kernel
theorem r_43_1 : aO E0 43 3 ∧ E0.2.2 43 1 ≠ 0 := by decide +kernel
theorem r_43_2 : aO E0 43 3 ∧ E0.2.2 43 2 ≠ 0 := by decide +kernel
theorem r_43_3 : aO E0 43 3 ∧ E0.2.2 43 3 ≠ 0 := by decide +kernel
theorem o_44 : aO E0 44 1 := by decide +kernel
theorem r_44_4 : aO E0 44 1 ∧ E0.2.2 44 4 ≠ 0 := by decide +kernel
theorem r_44_5 : aO E0 44 1 ∧ E0.2.2 44 5 ≠ 0 := by decide +kernel
theorem t_45 : aIs E0 45 ∧ (E0.2.1 45).1 = 1 := by decide +kernel
theorem a_45 {i : Int32} (h : vp_in i 6) : aAr E0 1 45 i := ⟨t_45.1, t_45.2, h⟩
theorem t_46 : aIs E0 46 ∧ (E0.2.1 46).1 = 1 := by decide +kernel
theorem a_46 {i : Int32} (h : vp_in i 36) : aAr E0 1 46 i := ⟨t_46.1, t_46.2, h⟩
theorem o_47 : aO E0 47 8 := by decide +kernel
theorem r_47_0 : aO E0 47 8 ∧ E0.2.2 47 0 ≠ 0 := by decide +kernel
theorem r_47_2 : aO E0 47 8 ∧ E0.2.2 47 2 ≠ 0 := by decide +kernel
theorem r_47_3 : aO E0 47 8 ∧ E0.2.2 47 3 ≠ 0 := by decide +kernel
theorem r_47_4 : aO E0 47 8 ∧ E0.2.2 47 4 ≠ 0 := by decide +kernel
theorem r_47_5 : aO E0 47 8 ∧ E0.2.2 47 5 ≠ 0 := by decide +kernel
theorem r_47_6 : aO E0 47 8 ∧ E0.2.2 47 6 ≠ 0 := by decide +kernel
theorem r_47_7 : aO E0 47 8 ∧ E0.2.2 47 7 ≠ 0 := by decide +kernel
theorem r_47_8 : aO E0 47 8 ∧ E0.2.2 47 8 ≠ 0 := by decide +kernel
theorem t_48 : aIs E0 48 ∧ (E0.2.1 48).1 = 1 := by decide +kernel
theorem a_48 {i : Int32} (h : vp_in i 36) : aAr E0 1 48 i := ⟨t_48.1, t_48.2, h⟩
theorem t_49 : aIs E0 49 ∧ (E0.2.1 49).1 = 2 := by decide +kernel
theorem a_49 {i : Int32} (h : vp_in i 36) : aAr E0 2 49 i := ⟨t_49.1, t_49.2, h⟩
theorem t_50 : aIs E0 50 ∧ (E0.2.1 50).1 = 1 := by decide +kernel
theorem a_50 {i : Int32} (h : vp_in i 6) : aAr E0 1 50 i := ⟨t_50.1, t_50.2, h⟩
theorem t_51 : aIs E0 51 ∧ (E0.2.1 51).1 = 1 := by decide +kernel
theorem a_51 {i : Int32} (h : vp_in i 6) : aAr E0 1 51 i := ⟨t_51.1, t_51.2, h⟩
theorem t_52 : aIs E0 52 ∧ (E0.2.1 52).1 = 2 := by decide +kernel
theorem a_52 {i : Int32} (h : vp_in i 6) : aAr E0 2 52 i := ⟨t_52.1, t_52.2, h⟩
theorem t_53 : aIs E0 53 ∧ (E0.2.1 53).1 = 2 := by decide +kernel
theorem a_53 {i : Int32} (h : vp_in i 6) : aAr E0 2 53 i := ⟨t_53.1, t_53.2, h⟩
theorem t_54 : aIs E0 54 ∧ (E0.2.1 54).1 = 1 := by decide +kernel
theorem a_54 {i : Int32} (h : vp_in i 6) : aAr E0 1 54 i := ⟨t_54.1, t_54.2, h⟩
theorem t_55 : aIs E0 55 ∧ (E0.2.1 55).1 = 1 := by decide +kernel
theorem a_55 {i : Int32} (h : vp_in i 6) : aAr E0 1 55 i := ⟨t_55.1, t_55.2, h⟩
theorem t_56 : (aIs E0 56 ∧ (E0.2.1 56).1 = 5) ∧ ∀ k, k < 16 → E0.2.2 56 k ≠ 0 := by decide +kernel
theorem a_56 {i : Int32} {k : Nat} (e : i = nI k) (h : k < 16) : aAr E0 5 56 i ∧ E0.2.2 56 i.toNatClampNeg ≠ 0 := ⟨⟨t_56.1.1, t_56.1.2, by rw [e]; exact vp_in_nI h (by decide)⟩, by rw [e, nI_clamp (Nat.lt_trans h (by decide))]; exact t_56.2 k h⟩
theorem t_57 : aIs E0 57 ∧ (E0.2.1 57).1 = 2 := by decide +kernel
theorem a_57 {i : Int32} (h : vp_in i 36) : aAr E0 2 57 i := ⟨t_57.1, t_57.2, h⟩
theorem t_58 : aIs E0 58 ∧ (E0.2.1 58).1 = 2 := by decide +kernel
theorem a_58 {i : Int32} (h : vp_in i 36) : aAr E0 2 58 i := ⟨t_58.1, t_58.2, h⟩
theorem t_59 : aIs E0 59 ∧ (E0.2.1 59).1 = 2 := by decide +kernel
theorem a_59 {i : Int32} (h : vp_in i 36) : aAr E0 2 59 i := ⟨t_59.1, t_59.2, h⟩
theorem t_60 : aIs E0 60 ∧ (E0.2.1 60).1 = 2 := by decide +kernel
theorem a_60 {i : Int32} (h : vp_in i 36) : aAr E0 2 60 i := ⟨t_60.1, t_60.2, h⟩
theorem t_61 : aIs E0 61 ∧ (E0.2.1 61).1 = 2 := by decide +kernel
theorem a_61 {i : Int32} (h : vp_in i 36) : aAr E0 2 61 i := ⟨t_61.1, t_61.2, h⟩
theorem t_62 : aIs E0 62 ∧ (E0.2.1 62).1 = 2 := by decide +kernel
theorem a_62 {i : Int32} (h : vp_in i 36) : aAr E0 2 62 i := ⟨t_62.1, t_62.2, h⟩
theorem t_63 : aIs E0 63 ∧ (E0.2.1 63).1 = 2 := by decide +kernel
theorem a_63 {i : Int32} (h : vp_in i 36) : aAr E0 2 63 i := ⟨t_63.1, t_63.2, h⟩
theorem t_64 : aIs E0 64 ∧ (E0.2.1 64).1 = 2 := by decide +kernel
theorem a_64 {i : Int32} (h : vp_in i 36) : aAr E0 2 64 i := ⟨t_64.1, t_64.2, h⟩
theorem t_65 : aIs E0 65 ∧ (E0.2.1 65).1 = 2 := by decide +kernel
theorem a_65 {i : Int32} (h : vp_in i 36) : aAr E0 2 65 i := ⟨t_65.1, t_65.2, h⟩
theorem t_66 : aIs E0 66 ∧ (E0.2.1 66).1 = 2 := by decide +kernel
theorem a_66 {i : Int32} (h : vp_in i 36) : aAr E0 2 66 i := ⟨t_66.1, t_66.2, h⟩
theorem t_67 : aIs E0 67 ∧ (E0.2.1 67).1 = 2 := by decide +kernel
theorem a_67 {i : Int32} (h : vp_in i 36) : aAr E0 2 67 i := ⟨t_67.1, t_67.2, h⟩
theorem t_68 : aIs E0 68 ∧ (E0.2.1 68).1 = 2 := by decide +kernel
theorem a_68 {i : Int32} (h : vp_in i 36) : aAr E0 2 68 i := ⟨t_68.1, t_68.2, h⟩
theorem t_69 : aIs E0 69 ∧ (E0.2.1 69).1 = 2 := by decide +kernel
theorem a_69 {i : Int32} (h : vp_in i 36) : aAr E0 2 69 i := ⟨t_69.1, t_69.2, h⟩
theorem t_70 : aIs E0 70 ∧ (E0.2.1 70).1 = 2 := by decide +kernel
theorem a_70 {i : Int32} (h : vp_in i 36) : aAr E0 2 70 i := ⟨t_70.1, t_70.2, h⟩
theorem t_71 : aIs E0 71 ∧ (E0.2.1 71).1 = 2 := by decide +kernel
theorem a_71 {i : Int32} (h : vp_in i 36) : aAr E0 2 71 i := ⟨t_71.1, t_71.2, h⟩
theorem t_72 : aIs E0 72 ∧ (E0.2.1 72).1 = 2 := by decide +kernel
theorem a_72 {i : Int32} (h : vp_in i 36) : aAr E0 2 72 i := ⟨t_72.1, t_72.2, h⟩
theorem t_73 : aIs E0 73 ∧ (E0.2.1 73).1 = 2 := by decide +kernel
theorem a_73 {i : Int32} (h : vp_in i 16) : aAr E0 2 73 i := ⟨t_73.1, t_73.2, h⟩
theorem o_74 : aO E0 74 6 := by decide +kernel
theorem r_74_1 : aO E0 74 6 ∧ E0.2.2 74 1 ≠ 0 := by decide +kernel
theorem r_74_2 : aO E0 74 6 ∧ E0.2.2 74 2 ≠ 0 := by decide +kernel
theorem t_75 : aIs E0 75 ∧ (E0.2.1 75).1 = 1 := by decide +kernel
theorem a_75 {i : Int32} (h : vp_in i 6) : aAr E0 1 75 i := ⟨t_75.1, t_75.2, h⟩
theorem t_76 : aIs E0 76 ∧ (E0.2.1 76).1 = 1 := by decide +kernel
theorem a_76 {i : Int32} (h : vp_in i 6) : aAr E0 1 76 i := ⟨t_76.1, t_76.2, h⟩
theorem o_77 : aO E0 77 7 := by decide +kernel
theorem r_77_0 : aO E0 77 7 ∧ E0.2.2 77 0 ≠ 0 := by decide +kernel
theorem r_77_1 : aO E0 77 7 ∧ E0.2.2 77 1 ≠ 0 := by decide +kernel
theorem t_78 : aIs E0 78 ∧ (E0.2.1 78).1 = 2 := by decide +kernel
theorem a_78 {i : Int32} (h : vp_in i 6) : aAr E0 2 78 i := ⟨t_78.1, t_78.2, h⟩
theorem t_79 : aIs E0 79 ∧ (E0.2.1 79).1 = 2 := by decide +kernel
theorem a_79 {i : Int32} (h : vp_in i 6) : aAr E0 2 79 i := ⟨t_79.1, t_79.2, h⟩
theorem o_80 : aO E0 80 2 := by decide +kernel
theorem r_80_0 : aO E0 80 2 ∧ E0.2.2 80 0 ≠ 0 := by decide +kernel
theorem r_80_6 : aO E0 80 2 ∧ E0.2.2 80 6 ≠ 0 := by decide +kernel
theorem r_80_7 : aO E0 80 2 ∧ E0.2.2 80 7 ≠ 0 := by decide +kernel
theorem o_81 : aO E0 81 5 := by decide +kernel
theorem r_81_1 : aO E0 81 5 ∧ E0.2.2 81 1 ≠ 0 := by decide +kernel
theorem t_82 : aIs E0 82 ∧ (E0.2.1 82).1 = 1 := by decide +kernel
theorem a_82 {i : Int32} (h : vp_in i 80) : aAr E0 1 82 i := ⟨t_82.1, t_82.2, h⟩
theorem t_83 : aIs E0 83 ∧ (E0.2.1 83).1 = 1 := by decide +kernel
theorem a_83 {i : Int32} (h : vp_in i 6) : aAr E0 1 83 i := ⟨t_83.1, t_83.2, h⟩
theorem t_84 : aIs E0 84 ∧ (E0.2.1 84).1 = 1 := by decide +kernel
theorem a_84 {i : Int32} (h : vp_in i 60) : aAr E0 1 84 i := ⟨t_84.1, t_84.2, h⟩
theorem o_85 : aO E0 85 0 := by decide +kernel
theorem r_85_0 : aO E0 85 0 ∧ E0.2.2 85 0 ≠ 0 := by decide +kernel
theorem r_85_1 : aO E0 85 0 ∧ E0.2.2 85 1 ≠ 0 := by decide +kernel
theorem r_85_2 : aO E0 85 0 ∧ E0.2.2 85 2 ≠ 0 := by decide +kernel
theorem t_86 : aIs E0 86 ∧ (E0.2.1 86).1 = 1 := by decide +kernel
theorem a_86 {i : Int32} (h : vp_in i 4) : aAr E0 1 86 i := ⟨t_86.1, t_86.2, h⟩
theorem t_87 : aIs E0 87 ∧ (E0.2.1 87).1 = 1 := by decide +kernel
theorem a_87 {i : Int32} (h : vp_in i 4) : aAr E0 1 87 i := ⟨t_87.1, t_87.2, h⟩
theorem t_88 : (aIs E0 88 ∧ (E0.2.1 88).1 = 5) ∧ ∀ k, k < 4 → E0.2.2 88 k ≠ 0 := by decide +kernel
theorem a_88 {i : Int32} {k : Nat} (e : i = nI k) (h : k < 4) : aAr E0 5 88 i ∧ E0.2.2 88 i.toNatClampNeg ≠ 0 := ⟨⟨t_88.1.1, t_88.1.2, by rw [e]; exact vp_in_nI h (by decide)⟩, by rw [e, nI_clamp (Nat.lt_trans h (by decide))]; exact t_88.2 k h⟩
theorem t_89 : aIs E0 89 ∧ (E0.2.1 89).1 = 2 := by decide +kernel
theorem a_89 {i : Int32} (h : vp_in i 40) : aAr E0 2 89 i := ⟨t_89.1, t_89.2, h⟩
theorem t_90 : aIs E0 90 ∧ (E0.2.1 90).1 = 2 := by decide +kernel
theorem a_90 {i : Int32} (h : vp_in i 40) : aAr E0 2 90 i := ⟨t_90.1, t_90.2, h⟩
theorem t_91 : aIs E0 91 ∧ (E0.2.1 91).1 = 2 := by decide +kernel
theorem a_91 {i : Int32} (h : vp_in i 40) : aAr E0 2 91 i := ⟨t_91.1, t_91.2, h⟩
theorem t_92 : aIs E0 92 ∧ (E0.2.1 92).1 = 2 := by decide +kernel
theorem a_92 {i : Int32} (h : vp_in i 40) : aAr E0 2 92 i := ⟨t_92.1, t_92.2, h⟩
theorem o_93 : aO E0 93 10 := by decide +kernel
theorem r_93_0 : aO E0 93 10 ∧ E0.2.2 93 0 ≠ 0 := by decide +kernel
theorem r_93_1 : aO E0 93 10 ∧ E0.2.2 93 1 ≠ 0 := by decide +kernel
theorem r_93_3 : aO E0 93 10 ∧ E0.2.2 93 3 ≠ 0 := by decide +kernel
theorem r_93_5 : aO E0 93 10 ∧ E0.2.2 93 5 ≠ 0 := by decide +kernel
theorem r_93_6 : aO E0 93 10 ∧ E0.2.2 93 6 ≠ 0 := by decide +kernel
theorem r_93_7 : aO E0 93 10 ∧ E0.2.2 93 7 ≠ 0 := by decide +kernel
theorem r_93_8 : aO E0 93 10 ∧ E0.2.2 93 8 ≠ 0 := by decide +kernel
theorem r_93_9 : aO E0 93 10 ∧ E0.2.2 93 9 ≠ 0 := by decide +kernel
theorem r_93_10 : aO E0 93 10 ∧ E0.2.2 93 10 ≠ 0 := by decide +kernel
theorem r_93_11 : aO E0 93 10 ∧ E0.2.2 93 11 ≠ 0 := by decide +kernel
theorem r_93_12 : aO E0 93 10 ∧ E0.2.2 93 12 ≠ 0 := by decide +kernel
theorem r_93_13 : aO E0 93 10 ∧ E0.2.2 93 13 ≠ 0 := by decide +kernel
theorem r_93_15 : aO E0 93 10 ∧ E0.2.2 93 15 ≠ 0 := by decide +kernel
theorem r_93_16 : aO E0 93 10 ∧ E0.2.2 93 16 ≠ 0 := by decide +kernel
theorem r_93_17 : aO E0 93 10 ∧ E0.2.2 93 17 ≠ 0 := by decide +kernel
theorem r_93_24 : aO E0 93 10 ∧ E0.2.2 93 24 ≠ 0 := by decide +kernel
theorem r_93_25 : aO E0 93 10 ∧ E0.2.2 93 25 ≠ 0 := by decide +kernel
theorem r_93_26 : aO E0 93 10 ∧ E0.2.2 93 26 ≠ 0 := by decide +kernel
theorem r_93_27 : aO E0 93 10 ∧ E0.2.2 93 27 ≠ 0 := by decide +kernel
theorem r_93_28 : aO E0 93 10 ∧ E0.2.2 93 28 ≠ 0 := by decide +kernel
theorem r_93_29 : aO E0 93 10 ∧ E0.2.2 93 29 ≠ 0 := by decide +kernel
theorem t_94 : aIs E0 94 ∧ (E0.2.1 94).1 = 1 := by decide +kernel
theorem a_94 {i : Int32} (h : vp_in i 46) : aAr E0 1 94 i := ⟨t_94.1, t_94.2, h⟩
theorem t_95 : aIs E0 95 ∧ (E0.2.1 95).1 = 1 := by decide +kernel
theorem a_95 {i : Int32} (h : vp_in i 460) : aAr E0 1 95 i := ⟨t_95.1, t_95.2, h⟩
theorem t_96 : aIs E0 96 ∧ (E0.2.1 96).1 = 1 := by decide +kernel
theorem a_96 {i : Int32} (h : vp_in i 46) : aAr E0 1 96 i := ⟨t_96.1, t_96.2, h⟩
theorem t_97 : aIs E0 97 ∧ (E0.2.1 97).1 = 1 := by decide +kernel
theorem a_97 {i : Int32} (h : vp_in i 46) : aAr E0 1 97 i := ⟨t_97.1, t_97.2, h⟩
theorem t_98 : aIs E0 98 ∧ (E0.2.1 98).1 = 2 := by decide +kernel
theorem a_98 {i : Int32} (h : vp_in i 36) : aAr E0 2 98 i := ⟨t_98.1, t_98.2, h⟩
theorem t_99 : aIs E0 99 ∧ (E0.2.1 99).1 = 2 := by decide +kernel
theorem a_99 {i : Int32} (h : vp_in i 36) : aAr E0 2 99 i := ⟨t_99.1, t_99.2, h⟩
theorem t_100 : aIs E0 100 ∧ (E0.2.1 100).1 = 1 := by decide +kernel
theorem a_100 {i : Int32} (h : vp_in i 36) : aAr E0 1 100 i := ⟨t_100.1, t_100.2, h⟩
theorem t_101 : aIs E0 101 ∧ (E0.2.1 101).1 = 3 := by decide +kernel
theorem a_101 {i : Int32} (h : vp_in i 36) : aAr E0 3 101 i := ⟨t_101.1, t_101.2, h⟩
theorem t_102 : aIs E0 102 ∧ (E0.2.1 102).1 = 2 := by decide +kernel
theorem a_102 {i : Int32} (h : vp_in i 12) : aAr E0 2 102 i := ⟨t_102.1, t_102.2, h⟩
theorem t_103 : aIs E0 103 ∧ (E0.2.1 103).1 = 1 := by decide +kernel
theorem a_103 {i : Int32} (h : vp_in i 12) : aAr E0 1 103 i := ⟨t_103.1, t_103.2, h⟩
theorem t_104 : aIs E0 104 ∧ (E0.2.1 104).1 = 1 := by decide +kernel
theorem a_104 {i : Int32} (h : vp_in i 6) : aAr E0 1 104 i := ⟨t_104.1, t_104.2, h⟩
theorem t_105 : aIs E0 105 ∧ (E0.2.1 105).1 = 1 := by decide +kernel
theorem a_105 {i : Int32} (h : vp_in i 6) : aAr E0 1 105 i := ⟨t_105.1, t_105.2, h⟩
theorem t_106 : aIs E0 106 ∧ (E0.2.1 106).1 = 2 := by decide +kernel
theorem a_106 {i : Int32} (h : vp_in i 6) : aAr E0 2 106 i := ⟨t_106.1, t_106.2, h⟩
theorem t_107 : aIs E0 107 ∧ (E0.2.1 107).1 = 2 := by decide +kernel
theorem a_107 {i : Int32} (h : vp_in i 6) : aAr E0 2 107 i := ⟨t_107.1, t_107.2, h⟩
theorem t_108 : aIs E0 108 ∧ (E0.2.1 108).1 = 1 := by decide +kernel
theorem a_108 {i : Int32} (h : vp_in i 80) : aAr E0 1 108 i := ⟨t_108.1, t_108.2, h⟩
theorem t_109 : aIs E0 109 ∧ (E0.2.1 109).1 = 1 := by decide +kernel
theorem a_109 {i : Int32} (h : vp_in i 6) : aAr E0 1 109 i := ⟨t_109.1, t_109.2, h⟩
theorem t_110 : aIs E0 110 ∧ (E0.2.1 110).1 = 1 := by decide +kernel
theorem a_110 {i : Int32} (h : vp_in i 60) : aAr E0 1 110 i := ⟨t_110.1, t_110.2, h⟩
theorem t_111 : aIs E0 111 ∧ (E0.2.1 111).1 = 3 := by decide +kernel
theorem a_111 {i : Int32} (h : vp_in i 6) : aAr E0 3 111 i := ⟨t_111.1, t_111.2, h⟩
theorem t_112 : aIs E0 112 ∧ (E0.2.1 112).1 = 1 := by decide +kernel
theorem a_112 {i : Int32} (h : vp_in i 4) : aAr E0 1 112 i := ⟨t_112.1, t_112.2, h⟩
theorem t_113 : aIs E0 113 ∧ (E0.2.1 113).1 = 1 := by decide +kernel
theorem a_113 {i : Int32} (h : vp_in i 4) : aAr E0 1 113 i := ⟨t_113.1, t_113.2, h⟩
theorem t_114 : aIs E0 114 ∧ (E0.2.1 114).1 = 2 := by decide +kernel
theorem a_114 {i : Int32} (h : vp_in i 160) : aAr E0 2 114 i := ⟨t_114.1, t_114.2, h⟩
end
section
/-! TOOLS for the walks: numbers, loops -/
theorem cln {x : Int32} {n : Nat} (e : x = nI n) (h : n < 2147483648) : x.toNatClampNeg = n := by rw [e]; exact nI_clamp h
theorem vin {x : Int32} {n N : Nat} (e : x = nI n) (h : n < N) (hN : N < 2147483648) : vp_in x N := by rw [e]; exact vp_in_nI h hN
theorem eq_add {x y : Int32} {a b : Nat} (ex : x = nI a) (ey : y = nI b) : x + y = nI (a + b) := by rw [ex, ey, nI_add]
theorem eq_mul {x y : Int32} {a b : Nat} (ex : x = nI a) (ey : y = nI b) : x * y = nI (a * b) := by rw [ex, ey, pk_mul]
theorem eq_sub {x y : Int32} {a b : Nat} (ex : x = nI a) (ey : y = nI b) (h : b ≤ a) : x - y = nI (a - b) := by rw [ex, ey, pk_sub h]
theorem eq_div {x y : Int32} {a b : Nat} (ex : x = nI a) (ey : y = nI b) (ha : a < 2147483648) (h0 : 0 < b) (hb : b < 2147483648) : x / y = nI (a / b) := by rw [ex, ey, pk_div ha h0 hb]
theorem eq_rem {x y : Int32} {a b : Nat} (ex : x = nI a) (ey : y = nI b) (ha : a < 2147483648) (h0 : 0 < b) (hb : b < 2147483648) : x - x / y * y = nI (a % b) := by rw [ex, ey, pk_rem ha h0 hb]
theorem eq_m1 {x : Int32} {a : Nat} (ex : x = nI (a + 1)) : x + (-1) = nI a := by rw [ex]; exact pk_m1 a
theorem eq_s1 {x : Int32} {a : Nat} (ex : x = nI (a + 1)) : x - 1 = nI a := by rw [ex]; exact nI_pred a
theorem nI_inj {a b : Nat} (h : nI a = nI b) (ha : a < 2147483648) (hb : b < 2147483648) : a = b := (nI_eq ha hb).mp h
theorem nI_ti {n : Nat} (h : n < 2147483648) : (nI n).toInt = (n : Int) := nI_toInt h
theorem i_lt {x y : Int32} {a b : Nat} (ex : x = nI a) (ey : y = nI b) (ha : a < 2147483648) (hb : b < 2147483648) : x < y ↔ a < b := by rw [ex, ey, nI_ltI ha hb]
theorem i_le {x y : Int32} {a b : Nat} (ex : x = nI a) (ey : y = nI b) (ha : a < 2147483648) (hb : b < 2147483648) : x ≤ y ↔ a ≤ b := by rw [ex, ey, nI_leI ha hb]
theorem i_eq {x y : Int32} {a b : Nat} (ex : x = nI a) (ey : y = nI b) (ha : a < 2147483648) (hb : b < 2147483648) : x = y ↔ a = b := by rw [ex, ey, nI_eq ha hb]
/-- a truth as the machine has it -/
def zb (p : Prop) [Decidable p] : Int32 := if p then 1 else 0
theorem zb_t {p : Prop} [Decidable p] (h : p) : zb p = 1 := if_pos h
theorem zb_f {p : Prop} [Decidable p] (h : ¬ p) : zb p = 0 := if_neg h
theorem zb_01 (p : Prop) [Decidable p] : zb p = 0 ∨ zb p = 1 := by
  unfold zb
  by_cases h : p
  · rw [if_pos h]; exact Or.inr rfl
  · rw [if_neg h]; exact Or.inl rfl
theorem zb_ne {p : Prop} [Decidable p] : ¬ zb p = 0 ↔ p := by
  unfold zb
  by_cases h : p
  · rw [if_pos h]; exact ⟨fun _ => h, fun _ => by decide⟩
  · rw [if_neg h]; exact ⟨fun q => absurd rfl q, fun q => absurd q h⟩
theorem zb_eq {p : Prop} [Decidable p] : zb p = 0 ↔ ¬ p := by
  unfold zb
  by_cases h : p
  · rw [if_pos h]; exact ⟨fun q => absurd q (by decide), fun q => absurd h q⟩
  · rw [if_neg h]; exact ⟨fun _ => h, fun _ => rfl⟩
theorem for_up {P : Nat → Prop} {N : Nat} (hN : P N) (hs : ∀ i, i < N → P (i + 1) → P i) (i : Nat) (h : i ≤ N) : P i := by
  obtain ⟨k, hk⟩ : ∃ k, N = i + k := ⟨N - i, by omega⟩
  induction k generalizing i with
  | zero => rw [show i = N by omega]; exact hN
  | succ k ih => exact hs i (by omega) (ih (i + 1) (by omega) (by omega))
theorem for_dn {P : Nat → Prop} (h0 : P 0) (hs : ∀ i, P i → P (i + 1)) (i : Nat) : P i := by
  induction i with
  | zero => exact h0
  | succ i ih => exact hs i ih
section EZN
variable {γ : aM} {d pc : Nat} {lo : aLo} {E : aE} {I : aI} {J : aJ} {Q : Option Value → aI → aJ → Prop}
theorem Ez.n_icmp_eq {x y : Int32} {a b : Nat} {r : List Value} {off : Int} {tgt : Nat} (hdg : decode γ.2.1 pc = .ok (.if_icmp .eq off, 3)) (ht : (pc : Int) + off = (tgt : Int)) (ex : x = nI a) (ey : y = nI b) (ha : a < 2147483648) (hb : b < 2147483648) (kt : a = b → Ez γ d tgt lo r E I J Q) (kf : ¬ a = b → Ez γ d (pc + 3) lo r E I J Q) : Ez γ d pc lo (.int y :: .int x :: r) E I J Q := Ez.icmp_eq hdg ht (fun q => kt ((i_eq ex ey ha hb).mp q)) (fun q => kf (fun z => q ((i_eq ex ey ha hb).mpr z)))
theorem Ez.n_icmp_ne {x y : Int32} {a b : Nat} {r : List Value} {off : Int} {tgt : Nat} (hdg : decode γ.2.1 pc = .ok (.if_icmp .ne off, 3)) (ht : (pc : Int) + off = (tgt : Int)) (ex : x = nI a) (ey : y = nI b) (ha : a < 2147483648) (hb : b < 2147483648) (kt : ¬ a = b → Ez γ d tgt lo r E I J Q) (kf : a = b → Ez γ d (pc + 3) lo r E I J Q) : Ez γ d pc lo (.int y :: .int x :: r) E I J Q := Ez.icmp_ne hdg ht (fun q => kt (fun z => q ((i_eq ex ey ha hb).mpr z))) (fun q => kf ((i_eq ex ey ha hb).mp q))
theorem Ez.n_icmp_lt {x y : Int32} {a b : Nat} {r : List Value} {off : Int} {tgt : Nat} (hdg : decode γ.2.1 pc = .ok (.if_icmp .lt off, 3)) (ht : (pc : Int) + off = (tgt : Int)) (ex : x = nI a) (ey : y = nI b) (ha : a < 2147483648) (hb : b < 2147483648) (kt : a < b → Ez γ d tgt lo r E I J Q) (kf : b ≤ a → Ez γ d (pc + 3) lo r E I J Q) : Ez γ d pc lo (.int y :: .int x :: r) E I J Q := Ez.icmp_lt hdg ht (fun q => kt ((i_lt ex ey ha hb).mp q)) (fun q => kf (by have h9 := mt (i_lt ex ey ha hb).mpr q; omega))
theorem Ez.n_icmp_ge {x y : Int32} {a b : Nat} {r : List Value} {off : Int} {tgt : Nat} (hdg : decode γ.2.1 pc = .ok (.if_icmp .ge off, 3)) (ht : (pc : Int) + off = (tgt : Int)) (ex : x = nI a) (ey : y = nI b) (ha : a < 2147483648) (hb : b < 2147483648) (kt : b ≤ a → Ez γ d tgt lo r E I J Q) (kf : a < b → Ez γ d (pc + 3) lo r E I J Q) : Ez γ d pc lo (.int y :: .int x :: r) E I J Q := Ez.icmp_ge hdg ht (fun q => kt ((i_le ey ex hb ha).mp q)) (fun q => kf (by have h9 := mt (i_le ey ex hb ha).mpr q; omega))
theorem Ez.n_icmp_gt {x y : Int32} {a b : Nat} {r : List Value} {off : Int} {tgt : Nat} (hdg : decode γ.2.1 pc = .ok (.if_icmp .gt off, 3)) (ht : (pc : Int) + off = (tgt : Int)) (ex : x = nI a) (ey : y = nI b) (ha : a < 2147483648) (hb : b < 2147483648) (kt : b < a → Ez γ d tgt lo r E I J Q) (kf : a ≤ b → Ez γ d (pc + 3) lo r E I J Q) : Ez γ d pc lo (.int y :: .int x :: r) E I J Q := Ez.icmp_gt hdg ht (fun q => kt ((i_lt ey ex hb ha).mp q)) (fun q => kf (by have h9 := mt (i_lt ey ex hb ha).mpr q; omega))
theorem Ez.n_icmp_le {x y : Int32} {a b : Nat} {r : List Value} {off : Int} {tgt : Nat} (hdg : decode γ.2.1 pc = .ok (.if_icmp .le off, 3)) (ht : (pc : Int) + off = (tgt : Int)) (ex : x = nI a) (ey : y = nI b) (ha : a < 2147483648) (hb : b < 2147483648) (kt : a ≤ b → Ez γ d tgt lo r E I J Q) (kf : b < a → Ez γ d (pc + 3) lo r E I J Q) : Ez γ d pc lo (.int y :: .int x :: r) E I J Q := Ez.icmp_le hdg ht (fun q => kt ((i_le ex ey ha hb).mp q)) (fun q => kf (by have h9 := mt (i_le ex ey ha hb).mpr q; omega))
theorem Ez.n_if_eq {x : Int32} {a : Nat} {r : List Value} {off : Int} {tgt : Nat} (hdg : decode γ.2.1 pc = .ok (.ifCond .eq off, 3)) (ht : (pc : Int) + off = (tgt : Int)) (ex : x = nI a) (ha : a < 2147483648) (kt : a = 0 → Ez γ d tgt lo r E I J Q) (kf : ¬ a = 0 → Ez γ d (pc + 3) lo r E I J Q) : Ez γ d pc lo (.int x :: r) E I J Q := Ez.if_eq hdg ht (fun q => kt ((i_eq (b := 0) ex rfl ha (by decide)).mp q)) (fun q => kf (fun w => q ((i_eq (b := 0) ex rfl ha (by decide)).mpr w)))
theorem Ez.n_if_ne {x : Int32} {a : Nat} {r : List Value} {off : Int} {tgt : Nat} (hdg : decode γ.2.1 pc = .ok (.ifCond .ne off, 3)) (ht : (pc : Int) + off = (tgt : Int)) (ex : x = nI a) (ha : a < 2147483648) (kt : ¬ a = 0 → Ez γ d tgt lo r E I J Q) (kf : a = 0 → Ez γ d (pc + 3) lo r E I J Q) : Ez γ d pc lo (.int x :: r) E I J Q := Ez.if_ne hdg ht (fun q => kt (fun w => q ((i_eq (b := 0) ex rfl ha (by decide)).mpr w))) (fun q => kf ((i_eq (b := 0) ex rfl ha (by decide)).mp q))
theorem Ez.n_if_gt {x : Int32} {a : Nat} {r : List Value} {off : Int} {tgt : Nat} (hdg : decode γ.2.1 pc = .ok (.ifCond .gt off, 3)) (ht : (pc : Int) + off = (tgt : Int)) (ex : x = nI a) (ha : a < 2147483648) (kt : 0 < a → Ez γ d tgt lo r E I J Q) (kf : a = 0 → Ez γ d (pc + 3) lo r E I J Q) : Ez γ d pc lo (.int x :: r) E I J Q := Ez.if_gt hdg ht (fun q => kt ((i_lt (a := 0) rfl ex (by decide) ha).mp q)) (fun q => kf (by have h9 := mt (i_lt (a := 0) rfl ex (by decide) ha).mpr q; omega))
theorem Ez.n_if_le {x : Int32} {a : Nat} {r : List Value} {off : Int} {tgt : Nat} (hdg : decode γ.2.1 pc = .ok (.ifCond .le off, 3)) (ht : (pc : Int) + off = (tgt : Int)) (ex : x = nI a) (ha : a < 2147483648) (kt : a = 0 → Ez γ d tgt lo r E I J Q) (kf : 0 < a → Ez γ d (pc + 3) lo r E I J Q) : Ez γ d pc lo (.int x :: r) E I J Q := Ez.if_le hdg ht (fun q => kt (by have := (i_le (b := 0) ex rfl ha (by decide)).mp q; omega)) (fun q => kf (by have h9 := mt (i_le (b := 0) ex rfl ha (by decide)).mpr q; omega))
theorem Ez.n_if_lt {x : Int32} {a : Nat} {r : List Value} {off : Int} {tgt : Nat} (hdg : decode γ.2.1 pc = .ok (.ifCond .lt off, 3)) (ht : (pc : Int) + off = (tgt : Int)) (ex : x = nI a) (ha : a < 2147483648) (kt : False → Ez γ d tgt lo r E I J Q) (kf : True → Ez γ d (pc + 3) lo r E I J Q) : Ez γ d pc lo (.int x :: r) E I J Q := Ez.if_lt hdg ht (fun q => kt (by have := (i_lt (b := 0) ex rfl ha (by decide)).mp q; omega)) (fun q => kf trivial)
theorem Ez.n_if_ge {x : Int32} {a : Nat} {r : List Value} {off : Int} {tgt : Nat} (hdg : decode γ.2.1 pc = .ok (.ifCond .ge off, 3)) (ht : (pc : Int) + off = (tgt : Int)) (ex : x = nI a) (ha : a < 2147483648) (kt : True → Ez γ d tgt lo r E I J Q) (kf : False → Ez γ d (pc + 3) lo r E I J Q) : Ez γ d pc lo (.int x :: r) E I J Q := Ez.if_ge hdg ht (fun q => kt trivial) (fun q => kf (q ((i_le (a := 0) rfl ex (by decide) ha).mpr (Nat.zero_le _))))
theorem Ez.z_if_eq {p : Prop} [Decidable p] {r : List Value} {off : Int} {tgt : Nat} (hdg : decode γ.2.1 pc = .ok (.ifCond .eq off, 3)) (ht : (pc : Int) + off = (tgt : Int)) (kt : ¬ p → Ez γ d tgt lo r E I J Q) (kf : p → Ez γ d (pc + 3) lo r E I J Q) : Ez γ d pc lo (.int (zb p) :: r) E I J Q := Ez.if_eq hdg ht (fun q => kt (zb_eq.mp q)) (fun q => kf (zb_ne.mp q))
theorem Ez.z_if_ne {p : Prop} [Decidable p] {r : List Value} {off : Int} {tgt : Nat} (hdg : decode γ.2.1 pc = .ok (.ifCond .ne off, 3)) (ht : (pc : Int) + off = (tgt : Int)) (kt : p → Ez γ d tgt lo r E I J Q) (kf : ¬ p → Ez γ d (pc + 3) lo r E I J Q) : Ez γ d pc lo (.int (zb p) :: r) E I J Q := Ez.if_ne hdg ht (fun q => kt (zb_ne.mp q)) (fun q => kf (zb_eq.mp q))
end EZN
end

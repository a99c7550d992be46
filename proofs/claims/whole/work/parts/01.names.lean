-- ===== PART A: goes FIRST, ahead of the names: the tables' words, and 'selects' of the private methods out of them =====
/-- a private method of a class that the tables say can be made, by its rows of tables_1 -/
def lw_okq (q : MethodName × Nat) : Prop := (q.1.cls ≠ "java/lang/invoke/MethodHandle" ∧ q.1.cls ≠ "java/lang/invoke/VarHandle") ∧ Cond.instantiable q.1.cls q.2 ∈ tables_1 ∧ Cond.privateMethod q.1 ∈ tables_1 ∧ Cond.instanceMethod q.1 ∈ tables_1
/-- the name of a method of the reference, as the printed table has it -/
def lw_nm : Option Cond → String
  | some (.privateMethod m) => m.name
  | _ => ""
def lw_ini : String := lw_nm (tables_1[750]?)
theorem lw_p0 : lw_okq (⟨"MarkovChainDistances", "greatestDepth", "()I"⟩, 11) := ⟨⟨by decide +kernel, by decide +kernel⟩, List.mem_of_getElem? (i := 15) (by decide +kernel), List.mem_of_getElem? (i := 382) (by decide +kernel), List.mem_of_getElem? (i := 383) (by decide +kernel)⟩
theorem lw_p1 : lw_okq (⟨"MarkovChainDistances", "hasDistance", "(III)Z"⟩, 11) := ⟨⟨by decide +kernel, by decide +kernel⟩, List.mem_of_getElem? (i := 15) (by decide +kernel), List.mem_of_getElem? (i := 391) (by decide +kernel), List.mem_of_getElem? (i := 392) (by decide +kernel)⟩
theorem lw_p2 : lw_okq (⟨"MarkovChainDistances$Distances", "fillLevel", "(I)V"⟩, 5) := ⟨⟨by decide +kernel, by decide +kernel⟩, List.mem_of_getElem? (i := 96) (by decide +kernel), List.mem_of_getElem? (i := 402) (by decide +kernel), List.mem_of_getElem? (i := 403) (by decide +kernel)⟩
theorem lw_p3 : lw_okq (⟨"MarkovChainDistances$Transport", "startOnDiagonal", "(LMarkovChainDistances$Chain;II)V"⟩, 9) := ⟨⟨by decide +kernel, by decide +kernel⟩, List.mem_of_getElem? (i := 104) (by decide +kernel), List.mem_of_getElem? (i := 415) (by decide +kernel), List.mem_of_getElem? (i := 416) (by decide +kernel)⟩
theorem lw_p4 : lw_okq (⟨"MarkovChainDistances$Transport", "sendFrom", "(I)V"⟩, 9) := ⟨⟨by decide +kernel, by decide +kernel⟩, List.mem_of_getElem? (i := 104) (by decide +kernel), List.mem_of_getElem? (i := 420) (by decide +kernel), List.mem_of_getElem? (i := 421) (by decide +kernel)⟩
theorem lw_p5 : lw_okq (⟨"MarkovChainDistances$Transport", "openColumn", "()I"⟩, 9) := ⟨⟨by decide +kernel, by decide +kernel⟩, List.mem_of_getElem? (i := 104) (by decide +kernel), List.mem_of_getElem? (i := 424) (by decide +kernel), List.mem_of_getElem? (i := 425) (by decide +kernel)⟩
theorem lw_p6 : lw_okq (⟨"MarkovChainDistances$Transport", "findPaths", "(II)V"⟩, 9) := ⟨⟨by decide +kernel, by decide +kernel⟩, List.mem_of_getElem? (i := 104) (by decide +kernel), List.mem_of_getElem? (i := 428) (by decide +kernel), List.mem_of_getElem? (i := 429) (by decide +kernel)⟩
theorem lw_p7 : lw_okq (⟨"MarkovChainDistances$Transport", "approachColumns", "(I)Z"⟩, 9) := ⟨⟨by decide +kernel, by decide +kernel⟩, List.mem_of_getElem? (i := 104) (by decide +kernel), List.mem_of_getElem? (i := 433) (by decide +kernel), List.mem_of_getElem? (i := 434) (by decide +kernel)⟩
theorem lw_p8 : lw_okq (⟨"MarkovChainDistances$Transport", "approachRows", "(I)Z"⟩, 9) := ⟨⟨by decide +kernel, by decide +kernel⟩, List.mem_of_getElem? (i := 104) (by decide +kernel), List.mem_of_getElem? (i := 437) (by decide +kernel), List.mem_of_getElem? (i := 438) (by decide +kernel)⟩
theorem lw_p9 : lw_okq (⟨"MarkovChainDistances$Transport", "slackOfPath", "(II)I"⟩, 9) := ⟨⟨by decide +kernel, by decide +kernel⟩, List.mem_of_getElem? (i := 104) (by decide +kernel), List.mem_of_getElem? (i := 441) (by decide +kernel), List.mem_of_getElem? (i := 442) (by decide +kernel)⟩
theorem lw_p10 : lw_okq (⟨"MarkovChainDistances$Transport", "shiftAlongPath", "(II)V"⟩, 9) := ⟨⟨by decide +kernel, by decide +kernel⟩, List.mem_of_getElem? (i := 104) (by decide +kernel), List.mem_of_getElem? (i := 445) (by decide +kernel), List.mem_of_getElem? (i := 446) (by decide +kernel)⟩
theorem lw_p11 : lw_okq (⟨"MarkovChainDistances", "isPair", "(I)Z"⟩, 11) := ⟨⟨by decide +kernel, by decide +kernel⟩, List.mem_of_getElem? (i := 15) (by decide +kernel), List.mem_of_getElem? (i := 464) (by decide +kernel), List.mem_of_getElem? (i := 465) (by decide +kernel)⟩
theorem lw_p12 : lw_okq (⟨"MarkovChainDistances$Transport", "reduceEntry", "(II)V"⟩, 9) := ⟨⟨by decide +kernel, by decide +kernel⟩, List.mem_of_getElem? (i := 104) (by decide +kernel), List.mem_of_getElem? (i := 488) (by decide +kernel), List.mem_of_getElem? (i := 489) (by decide +kernel)⟩
theorem lw_p13 : lw_okq (⟨"MarkovChainDistances", "totalVariation", "(II)I"⟩, 11) := ⟨⟨by decide +kernel, by decide +kernel⟩, List.mem_of_getElem? (i := 15) (by decide +kernel), List.mem_of_getElem? (i := 496) (by decide +kernel), List.mem_of_getElem? (i := 497) (by decide +kernel)⟩
theorem lw_p14 : lw_okq (⟨"MarkovChainDistances", "weightDifference", "(III)I"⟩, 11) := ⟨⟨by decide +kernel, by decide +kernel⟩, List.mem_of_getElem? (i := 15) (by decide +kernel), List.mem_of_getElem? (i := 500) (by decide +kernel), List.mem_of_getElem? (i := 501) (by decide +kernel)⟩
theorem lw_p15 : lw_okq (⟨"MarkovChainDistances", "largestDifference", "(II)I"⟩, 11) := ⟨⟨by decide +kernel, by decide +kernel⟩, List.mem_of_getElem? (i := 15) (by decide +kernel), List.mem_of_getElem? (i := 507) (by decide +kernel), List.mem_of_getElem? (i := 508) (by decide +kernel)⟩
def lw_privs_1 : List (MethodName × Nat) := [(⟨"MarkovChainDistances", "greatestDepth", "()I"⟩, 11), (⟨"MarkovChainDistances", "hasDistance", "(III)Z"⟩, 11), (⟨"MarkovChainDistances$Distances", "fillLevel", "(I)V"⟩, 5), (⟨"MarkovChainDistances$Transport", "startOnDiagonal", "(LMarkovChainDistances$Chain;II)V"⟩, 9), (⟨"MarkovChainDistances$Transport", "sendFrom", "(I)V"⟩, 9), (⟨"MarkovChainDistances$Transport", "openColumn", "()I"⟩, 9), (⟨"MarkovChainDistances$Transport", "findPaths", "(II)V"⟩, 9), (⟨"MarkovChainDistances$Transport", "approachColumns", "(I)Z"⟩, 9), (⟨"MarkovChainDistances$Transport", "approachRows", "(I)Z"⟩, 9), (⟨"MarkovChainDistances$Transport", "slackOfPath", "(II)I"⟩, 9), (⟨"MarkovChainDistances$Transport", "shiftAlongPath", "(II)V"⟩, 9), (⟨"MarkovChainDistances", "isPair", "(I)Z"⟩, 11), (⟨"MarkovChainDistances$Transport", "reduceEntry", "(II)V"⟩, 9), (⟨"MarkovChainDistances", "totalVariation", "(II)I"⟩, 11), (⟨"MarkovChainDistances", "weightDifference", "(III)I"⟩, 11), (⟨"MarkovChainDistances", "largestDifference", "(II)I"⟩, 11)]
theorem lw_r1 : ∀ q ∈ lw_privs_1, lw_okq q := List.forall_mem_cons.mpr ⟨lw_p0, List.forall_mem_cons.mpr ⟨lw_p1, List.forall_mem_cons.mpr ⟨lw_p2, List.forall_mem_cons.mpr ⟨lw_p3, List.forall_mem_cons.mpr ⟨lw_p4, List.forall_mem_cons.mpr ⟨lw_p5, List.forall_mem_cons.mpr ⟨lw_p6, List.forall_mem_cons.mpr ⟨lw_p7, List.forall_mem_cons.mpr ⟨lw_p8, List.forall_mem_cons.mpr ⟨lw_p9, List.forall_mem_cons.mpr ⟨lw_p10, List.forall_mem_cons.mpr ⟨lw_p11, List.forall_mem_cons.mpr ⟨lw_p12, List.forall_mem_cons.mpr ⟨lw_p13, List.forall_mem_cons.mpr ⟨lw_p14, List.forall_mem_cons.mpr ⟨lw_p15, fun _ h => absurd h List.not_mem_nil⟩⟩⟩⟩⟩⟩⟩⟩⟩⟩⟩⟩⟩⟩⟩⟩
theorem lw_p16 : lw_okq (⟨"MarkovChainDistances", "cumulativeDistance", "(II)I"⟩, 11) := ⟨⟨by decide +kernel, by decide +kernel⟩, List.mem_of_getElem? (i := 15) (by decide +kernel), List.mem_of_getElem? (i := 514) (by decide +kernel), List.mem_of_getElem? (i := 515) (by decide +kernel)⟩
theorem lw_p17 : lw_okq (⟨"MarkovChainDistances", "overlap", "(II)I"⟩, 11) := ⟨⟨by decide +kernel, by decide +kernel⟩, List.mem_of_getElem? (i := 15) (by decide +kernel), List.mem_of_getElem? (i := 518) (by decide +kernel), List.mem_of_getElem? (i := 519) (by decide +kernel)⟩
theorem lw_p18 : lw_okq (⟨"MarkovChainDistances$Partition", "refineOnce", "(LMarkovChainDistances$Chain;)V"⟩, 3) := ⟨⟨by decide +kernel, by decide +kernel⟩, List.mem_of_getElem? (i := 158) (by decide +kernel), List.mem_of_getElem? (i := 531) (by decide +kernel), List.mem_of_getElem? (i := 532) (by decide +kernel)⟩
theorem lw_p19 : lw_okq (⟨"MarkovChainDistances$Partition", "agree", "(LMarkovChainDistances$Chain;II)Z"⟩, 3) := ⟨⟨by decide +kernel, by decide +kernel⟩, List.mem_of_getElem? (i := 158) (by decide +kernel), List.mem_of_getElem? (i := 535) (by decide +kernel), List.mem_of_getElem? (i := 536) (by decide +kernel)⟩
theorem lw_p20 : lw_okq (⟨"MarkovChainDistances$Partition", "weightToClass", "(LMarkovChainDistances$Chain;II)I"⟩, 3) := ⟨⟨by decide +kernel, by decide +kernel⟩, List.mem_of_getElem? (i := 158) (by decide +kernel), List.mem_of_getElem? (i := 539) (by decide +kernel), List.mem_of_getElem? (i := 540) (by decide +kernel)⟩
theorem lw_p21 : lw_okq (⟨"MarkovChainDistances$PathCounter", "markTargets", "(LMarkovChainDistances$Chain;I)V"⟩, 2) := ⟨⟨by decide +kernel, by decide +kernel⟩, List.mem_of_getElem? (i := 176) (by decide +kernel), List.mem_of_getElem? (i := 566) (by decide +kernel), List.mem_of_getElem? (i := 567) (by decide +kernel)⟩
theorem lw_p22 : lw_okq (⟨"MarkovChainDistances$PathCounter", "stepBack", "(LMarkovChainDistances$Chain;)V"⟩, 2) := ⟨⟨by decide +kernel, by decide +kernel⟩, List.mem_of_getElem? (i := 176) (by decide +kernel), List.mem_of_getElem? (i := 573) (by decide +kernel), List.mem_of_getElem? (i := 574) (by decide +kernel)⟩
theorem lw_p23 : lw_okq (⟨"MarkovChainDistances$ChainReader", "clear", "()V"⟩, 8) := ⟨⟨by decide +kernel, by decide +kernel⟩, List.mem_of_getElem? (i := 189) (by decide +kernel), List.mem_of_getElem? (i := 646) (by decide +kernel), List.mem_of_getElem? (i := 647) (by decide +kernel)⟩
theorem lw_p24 : lw_okq (⟨"MarkovChainDistances$ChainReader", "takeNumber", "(I)I"⟩, 8) := ⟨⟨by decide +kernel, by decide +kernel⟩, List.mem_of_getElem? (i := 189) (by decide +kernel), List.mem_of_getElem? (i := 650) (by decide +kernel), List.mem_of_getElem? (i := 651) (by decide +kernel)⟩
theorem lw_p25 : lw_okq (⟨"MarkovChainDistances$ChainReader", "take", "(C)V"⟩, 8) := ⟨⟨by decide +kernel, by decide +kernel⟩, List.mem_of_getElem? (i := 189) (by decide +kernel), List.mem_of_getElem? (i := 655) (by decide +kernel), List.mem_of_getElem? (i := 656) (by decide +kernel)⟩
theorem lw_p26 : lw_okq (⟨"MarkovChainDistances$ChainReader", "takeIfPresent", "(C)Z"⟩, 8) := ⟨⟨by decide +kernel, by decide +kernel⟩, List.mem_of_getElem? (i := 189) (by decide +kernel), List.mem_of_getElem? (i := 659) (by decide +kernel), List.mem_of_getElem? (i := 660) (by decide +kernel)⟩
theorem lw_p27 : lw_okq (⟨"MarkovChainDistances$ChainReader", "readStates", "()V"⟩, 8) := ⟨⟨by decide +kernel, by decide +kernel⟩, List.mem_of_getElem? (i := 189) (by decide +kernel), List.mem_of_getElem? (i := 667) (by decide +kernel), List.mem_of_getElem? (i := 668) (by decide +kernel)⟩
theorem lw_p28 : lw_okq (⟨"MarkovChainDistances$ChainReader", "readState", "(I)V"⟩, 8) := ⟨⟨by decide +kernel, by decide +kernel⟩, List.mem_of_getElem? (i := 189) (by decide +kernel), List.mem_of_getElem? (i := 671) (by decide +kernel), List.mem_of_getElem? (i := 672) (by decide +kernel)⟩
theorem lw_p29 : lw_okq (⟨"MarkovChainDistances$ChainReader", "readEdge", "(I)V"⟩, 8) := ⟨⟨by decide +kernel, by decide +kernel⟩, List.mem_of_getElem? (i := 189) (by decide +kernel), List.mem_of_getElem? (i := 675) (by decide +kernel), List.mem_of_getElem? (i := 676) (by decide +kernel)⟩
theorem lw_p30 : lw_okq (⟨"MarkovChainDistances$ChainReader", "isConsistent", "()Z"⟩, 8) := ⟨⟨by decide +kernel, by decide +kernel⟩, List.mem_of_getElem? (i := 189) (by decide +kernel), List.mem_of_getElem? (i := 680) (by decide +kernel), List.mem_of_getElem? (i := 681) (by decide +kernel)⟩
theorem lw_p31 : lw_okq (⟨"MarkovChainDistancesModel", lw_ini, "(II)V"⟩, 30) := ⟨⟨by decide +kernel, by decide +kernel⟩, List.mem_of_getElem? (i := 744) (by decide +kernel), List.mem_of_getElem? (i := 750) (by decide +kernel), List.mem_of_getElem? (i := 751) (by decide +kernel)⟩
def lw_privs_2 : List (MethodName × Nat) := [(⟨"MarkovChainDistances", "cumulativeDistance", "(II)I"⟩, 11), (⟨"MarkovChainDistances", "overlap", "(II)I"⟩, 11), (⟨"MarkovChainDistances$Partition", "refineOnce", "(LMarkovChainDistances$Chain;)V"⟩, 3), (⟨"MarkovChainDistances$Partition", "agree", "(LMarkovChainDistances$Chain;II)Z"⟩, 3), (⟨"MarkovChainDistances$Partition", "weightToClass", "(LMarkovChainDistances$Chain;II)I"⟩, 3), (⟨"MarkovChainDistances$PathCounter", "markTargets", "(LMarkovChainDistances$Chain;I)V"⟩, 2), (⟨"MarkovChainDistances$PathCounter", "stepBack", "(LMarkovChainDistances$Chain;)V"⟩, 2), (⟨"MarkovChainDistances$ChainReader", "clear", "()V"⟩, 8), (⟨"MarkovChainDistances$ChainReader", "takeNumber", "(I)I"⟩, 8), (⟨"MarkovChainDistances$ChainReader", "take", "(C)V"⟩, 8), (⟨"MarkovChainDistances$ChainReader", "takeIfPresent", "(C)Z"⟩, 8), (⟨"MarkovChainDistances$ChainReader", "readStates", "()V"⟩, 8), (⟨"MarkovChainDistances$ChainReader", "readState", "(I)V"⟩, 8), (⟨"MarkovChainDistances$ChainReader", "readEdge", "(I)V"⟩, 8), (⟨"MarkovChainDistances$ChainReader", "isConsistent", "()Z"⟩, 8), (⟨"MarkovChainDistancesModel", lw_ini, "(II)V"⟩, 30)]
theorem lw_r2 : ∀ q ∈ lw_privs_2, lw_okq q := List.forall_mem_cons.mpr ⟨lw_p16, List.forall_mem_cons.mpr ⟨lw_p17, List.forall_mem_cons.mpr ⟨lw_p18, List.forall_mem_cons.mpr ⟨lw_p19, List.forall_mem_cons.mpr ⟨lw_p20, List.forall_mem_cons.mpr ⟨lw_p21, List.forall_mem_cons.mpr ⟨lw_p22, List.forall_mem_cons.mpr ⟨lw_p23, List.forall_mem_cons.mpr ⟨lw_p24, List.forall_mem_cons.mpr ⟨lw_p25, List.forall_mem_cons.mpr ⟨lw_p26, List.forall_mem_cons.mpr ⟨lw_p27, List.forall_mem_cons.mpr ⟨lw_p28, List.forall_mem_cons.mpr ⟨lw_p29, List.forall_mem_cons.mpr ⟨lw_p30, List.forall_mem_cons.mpr ⟨lw_p31, fun _ h => absurd h List.not_mem_nil⟩⟩⟩⟩⟩⟩⟩⟩⟩⟩⟩⟩⟩⟩⟩⟩
theorem lw_p32 : lw_okq (⟨"MarkovChainDistancesModel", "setWeight", "(III)V"⟩, 30) := ⟨⟨by decide +kernel, by decide +kernel⟩, List.mem_of_getElem? (i := 744) (by decide +kernel), List.mem_of_getElem? (i := 754) (by decide +kernel), List.mem_of_getElem? (i := 755) (by decide +kernel)⟩
theorem lw_p33 : lw_okq (⟨"MarkovChainDistancesModel", "isState", "(I)Z"⟩, 30) := ⟨⟨by decide +kernel, by decide +kernel⟩, List.mem_of_getElem? (i := 744) (by decide +kernel), List.mem_of_getElem? (i := 871) (by decide +kernel), List.mem_of_getElem? (i := 872) (by decide +kernel)⟩
theorem lw_p34 : lw_okq (⟨"MarkovChainDistancesModel", "begin", "()V"⟩, 30) := ⟨⟨by decide +kernel, by decide +kernel⟩, List.mem_of_getElem? (i := 744) (by decide +kernel), List.mem_of_getElem? (i := 876) (by decide +kernel), List.mem_of_getElem? (i := 877) (by decide +kernel)⟩
theorem lw_p35 : lw_okq (⟨"MarkovChainDistancesModel", "record", "()Z"⟩, 30) := ⟨⟨by decide +kernel, by decide +kernel⟩, List.mem_of_getElem? (i := 744) (by decide +kernel), List.mem_of_getElem? (i := 881) (by decide +kernel), List.mem_of_getElem? (i := 882) (by decide +kernel)⟩
theorem lw_p36 : lw_okq (⟨"MarkovChainDistancesModel", "w", "(II)I"⟩, 30) := ⟨⟨by decide +kernel, by decide +kernel⟩, List.mem_of_getElem? (i := 744) (by decide +kernel), List.mem_of_getElem? (i := 893) (by decide +kernel), List.mem_of_getElem? (i := 894) (by decide +kernel)⟩
theorem lw_p37 : lw_okq (⟨"MarkovChainDistancesModel", "unit", "()I"⟩, 30) := ⟨⟨by decide +kernel, by decide +kernel⟩, List.mem_of_getElem? (i := 744) (by decide +kernel), List.mem_of_getElem? (i := 922) (by decide +kernel), List.mem_of_getElem? (i := 923) (by decide +kernel)⟩
theorem lw_p38 : lw_okq (⟨"MarkovChainDistancesModel", "scale", "(I)J"⟩, 30) := ⟨⟨by decide +kernel, by decide +kernel⟩, List.mem_of_getElem? (i := 744) (by decide +kernel), List.mem_of_getElem? (i := 926) (by decide +kernel), List.mem_of_getElem? (i := 927) (by decide +kernel)⟩
theorem lw_p39 : lw_okq (⟨"MarkovChainDistancesModel", "fraction", "(IIIZ)J"⟩, 30) := ⟨⟨by decide +kernel, by decide +kernel⟩, List.mem_of_getElem? (i := 744) (by decide +kernel), List.mem_of_getElem? (i := 935) (by decide +kernel), List.mem_of_getElem? (i := 936) (by decide +kernel)⟩
theorem lw_p40 : lw_okq (⟨"MarkovChainDistancesModel", "computeDistances", "(I)V"⟩, 30) := ⟨⟨by decide +kernel, by decide +kernel⟩, List.mem_of_getElem? (i := 744) (by decide +kernel), List.mem_of_getElem? (i := 944) (by decide +kernel), List.mem_of_getElem? (i := 945) (by decide +kernel)⟩
theorem lw_p41 : lw_okq (⟨"MarkovChainDistancesModel", "minimumCost", "(II)J"⟩, 30) := ⟨⟨by decide +kernel, by decide +kernel⟩, List.mem_of_getElem? (i := 744) (by decide +kernel), List.mem_of_getElem? (i := 948) (by decide +kernel), List.mem_of_getElem? (i := 949) (by decide +kernel)⟩
theorem lw_p42 : lw_okq (⟨"MarkovChainDistancesModel", "optimize", "(II)V"⟩, 30) := ⟨⟨by decide +kernel, by decide +kernel⟩, List.mem_of_getElem? (i := 744) (by decide +kernel), List.mem_of_getElem? (i := 952) (by decide +kernel), List.mem_of_getElem? (i := 953) (by decide +kernel)⟩
theorem lw_p43 : lw_okq (⟨"MarkovChainDistancesModel", "fill", "(II)V"⟩, 30) := ⟨⟨by decide +kernel, by decide +kernel⟩, List.mem_of_getElem? (i := 744) (by decide +kernel), List.mem_of_getElem? (i := 956) (by decide +kernel), List.mem_of_getElem? (i := 957) (by decide +kernel)⟩
theorem lw_p44 : lw_okq (⟨"MarkovChainDistancesModel", "cancel", "()Z"⟩, 30) := ⟨⟨by decide +kernel, by decide +kernel⟩, List.mem_of_getElem? (i := 744) (by decide +kernel), List.mem_of_getElem? (i := 960) (by decide +kernel), List.mem_of_getElem? (i := 961) (by decide +kernel)⟩
theorem lw_p45 : lw_okq (⟨"MarkovChainDistancesModel", "relax", "()I"⟩, 30) := ⟨⟨by decide +kernel, by decide +kernel⟩, List.mem_of_getElem? (i := 744) (by decide +kernel), List.mem_of_getElem? (i := 964) (by decide +kernel), List.mem_of_getElem? (i := 965) (by decide +kernel)⟩
theorem lw_p46 : lw_okq (⟨"MarkovChainDistancesModel", "d", "(II)J"⟩, 30) := ⟨⟨by decide +kernel, by decide +kernel⟩, List.mem_of_getElem? (i := 744) (by decide +kernel), List.mem_of_getElem? (i := 969) (by decide +kernel), List.mem_of_getElem? (i := 970) (by decide +kernel)⟩
theorem lw_p47 : lw_okq (⟨"MarkovChainDistancesModel", "f", "(II)I"⟩, 30) := ⟨⟨by decide +kernel, by decide +kernel⟩, List.mem_of_getElem? (i := 744) (by decide +kernel), List.mem_of_getElem? (i := 973) (by decide +kernel), List.mem_of_getElem? (i := 974) (by decide +kernel)⟩
def lw_privs_3 : List (MethodName × Nat) := [(⟨"MarkovChainDistancesModel", "setWeight", "(III)V"⟩, 30), (⟨"MarkovChainDistancesModel", "isState", "(I)Z"⟩, 30), (⟨"MarkovChainDistancesModel", "begin", "()V"⟩, 30), (⟨"MarkovChainDistancesModel", "record", "()Z"⟩, 30), (⟨"MarkovChainDistancesModel", "w", "(II)I"⟩, 30), (⟨"MarkovChainDistancesModel", "unit", "()I"⟩, 30), (⟨"MarkovChainDistancesModel", "scale", "(I)J"⟩, 30), (⟨"MarkovChainDistancesModel", "fraction", "(IIIZ)J"⟩, 30), (⟨"MarkovChainDistancesModel", "computeDistances", "(I)V"⟩, 30), (⟨"MarkovChainDistancesModel", "minimumCost", "(II)J"⟩, 30), (⟨"MarkovChainDistancesModel", "optimize", "(II)V"⟩, 30), (⟨"MarkovChainDistancesModel", "fill", "(II)V"⟩, 30), (⟨"MarkovChainDistancesModel", "cancel", "()Z"⟩, 30), (⟨"MarkovChainDistancesModel", "relax", "()I"⟩, 30), (⟨"MarkovChainDistancesModel", "d", "(II)J"⟩, 30), (⟨"MarkovChainDistancesModel", "f", "(II)I"⟩, 30)]
theorem lw_r3 : ∀ q ∈ lw_privs_3, lw_okq q := List.forall_mem_cons.mpr ⟨lw_p32, List.forall_mem_cons.mpr ⟨lw_p33, List.forall_mem_cons.mpr ⟨lw_p34, List.forall_mem_cons.mpr ⟨lw_p35, List.forall_mem_cons.mpr ⟨lw_p36, List.forall_mem_cons.mpr ⟨lw_p37, List.forall_mem_cons.mpr ⟨lw_p38, List.forall_mem_cons.mpr ⟨lw_p39, List.forall_mem_cons.mpr ⟨lw_p40, List.forall_mem_cons.mpr ⟨lw_p41, List.forall_mem_cons.mpr ⟨lw_p42, List.forall_mem_cons.mpr ⟨lw_p43, List.forall_mem_cons.mpr ⟨lw_p44, List.forall_mem_cons.mpr ⟨lw_p45, List.forall_mem_cons.mpr ⟨lw_p46, List.forall_mem_cons.mpr ⟨lw_p47, fun _ h => absurd h List.not_mem_nil⟩⟩⟩⟩⟩⟩⟩⟩⟩⟩⟩⟩⟩⟩⟩⟩
theorem lw_p48 : lw_okq (⟨"MarkovChainDistancesModel", "shift", "(II)V"⟩, 30) := ⟨⟨by decide +kernel, by decide +kernel⟩, List.mem_of_getElem? (i := 744) (by decide +kernel), List.mem_of_getElem? (i := 977) (by decide +kernel), List.mem_of_getElem? (i := 978) (by decide +kernel)⟩
theorem lw_p49 : lw_okq (⟨"MarkovChainDistancesModel", "isPair", "(I)Z"⟩, 30) := ⟨⟨by decide +kernel, by decide +kernel⟩, List.mem_of_getElem? (i := 744) (by decide +kernel), List.mem_of_getElem? (i := 992) (by decide +kernel), List.mem_of_getElem? (i := 993) (by decide +kernel)⟩
theorem lw_p50 : lw_okq (⟨"MarkovChainDistancesModel", "canonicalCoupling", "(II)V"⟩, 30) := ⟨⟨by decide +kernel, by decide +kernel⟩, List.mem_of_getElem? (i := 744) (by decide +kernel), List.mem_of_getElem? (i := 1005) (by decide +kernel), List.mem_of_getElem? (i := 1006) (by decide +kernel)⟩
theorem lw_p51 : lw_okq (⟨"MarkovChainDistancesModel", "lower", "(II)Z"⟩, 30) := ⟨⟨by decide +kernel, by decide +kernel⟩, List.mem_of_getElem? (i := 744) (by decide +kernel), List.mem_of_getElem? (i := 1009) (by decide +kernel), List.mem_of_getElem? (i := 1010) (by decide +kernel)⟩
theorem lw_p52 : lw_okq (⟨"MarkovChainDistancesModel", "computeClasses", "()V"⟩, 30) := ⟨⟨by decide +kernel, by decide +kernel⟩, List.mem_of_getElem? (i := 744) (by decide +kernel), List.mem_of_getElem? (i := 1021) (by decide +kernel), List.mem_of_getElem? (i := 1022) (by decide +kernel)⟩
theorem lw_p53 : lw_okq (⟨"MarkovChainDistancesModel", "number", "(Z)I"⟩, 30) := ⟨⟨by decide +kernel, by decide +kernel⟩, List.mem_of_getElem? (i := 744) (by decide +kernel), List.mem_of_getElem? (i := 1025) (by decide +kernel), List.mem_of_getElem? (i := 1026) (by decide +kernel)⟩
theorem lw_p54 : lw_okq (⟨"MarkovChainDistancesModel", "areAlike", "(II)Z"⟩, 30) := ⟨⟨by decide +kernel, by decide +kernel⟩, List.mem_of_getElem? (i := 744) (by decide +kernel), List.mem_of_getElem? (i := 1029) (by decide +kernel), List.mem_of_getElem? (i := 1030) (by decide +kernel)⟩
theorem lw_p55 : lw_okq (⟨"MarkovChainDistancesModel", "weightToClass", "(II)I"⟩, 30) := ⟨⟨by decide +kernel, by decide +kernel⟩, List.mem_of_getElem? (i := 744) (by decide +kernel), List.mem_of_getElem? (i := 1033) (by decide +kernel), List.mem_of_getElem? (i := 1034) (by decide +kernel)⟩
theorem lw_p56 : lw_okq (⟨"MarkovChainDistancesModel", "isQuery", "(III)Z"⟩, 30) := ⟨⟨by decide +kernel, by decide +kernel⟩, List.mem_of_getElem? (i := 744) (by decide +kernel), List.mem_of_getElem? (i := 1049) (by decide +kernel), List.mem_of_getElem? (i := 1050) (by decide +kernel)⟩
theorem lw_p57 : lw_okq (⟨"MarkovChainDistancesModel", "isIn", "(II)Z"⟩, 30) := ⟨⟨by decide +kernel, by decide +kernel⟩, List.mem_of_getElem? (i := 744) (by decide +kernel), List.mem_of_getElem? (i := 1053) (by decide +kernel), List.mem_of_getElem? (i := 1054) (by decide +kernel)⟩
theorem lw_p58 : lw_okq (⟨"MarkovChainDistancesModel", "step", "()V"⟩, 30) := ⟨⟨by decide +kernel, by decide +kernel⟩, List.mem_of_getElem? (i := 744) (by decide +kernel), List.mem_of_getElem? (i := 1057) (by decide +kernel), List.mem_of_getElem? (i := 1058) (by decide +kernel)⟩
theorem lw_p59 : lw_okq (⟨"MarkovChainDistancesModel", "walk", "(IIII)I"⟩, 30) := ⟨⟨by decide +kernel, by decide +kernel⟩, List.mem_of_getElem? (i := 744) (by decide +kernel), List.mem_of_getElem? (i := 1077) (by decide +kernel), List.mem_of_getElem? (i := 1078) (by decide +kernel)⟩
theorem lw_p60 : lw_okq (⟨"MarkovChainDistancesModel", "parseChain", "()V"⟩, 30) := ⟨⟨by decide +kernel, by decide +kernel⟩, List.mem_of_getElem? (i := 744) (by decide +kernel), List.mem_of_getElem? (i := 1098) (by decide +kernel), List.mem_of_getElem? (i := 1099) (by decide +kernel)⟩
theorem lw_p61 : lw_okq (⟨"MarkovChainDistancesModel", "number", "(I)I"⟩, 30) := ⟨⟨by decide +kernel, by decide +kernel⟩, List.mem_of_getElem? (i := 744) (by decide +kernel), List.mem_of_getElem? (i := 1102) (by decide +kernel), List.mem_of_getElem? (i := 1103) (by decide +kernel)⟩
theorem lw_p62 : lw_okq (⟨"MarkovChainDistancesModel", "isNext", "(II)Z"⟩, 30) := ⟨⟨by decide +kernel, by decide +kernel⟩, List.mem_of_getElem? (i := 744) (by decide +kernel), List.mem_of_getElem? (i := 1106) (by decide +kernel), List.mem_of_getElem? (i := 1107) (by decide +kernel)⟩
theorem lw_p63 : lw_okq (⟨"MarkovChainDistancesModel", "expect", "(I)V"⟩, 30) := ⟨⟨by decide +kernel, by decide +kernel⟩, List.mem_of_getElem? (i := 744) (by decide +kernel), List.mem_of_getElem? (i := 1110) (by decide +kernel), List.mem_of_getElem? (i := 1111) (by decide +kernel)⟩
def lw_privs_4 : List (MethodName × Nat) := [(⟨"MarkovChainDistancesModel", "shift", "(II)V"⟩, 30), (⟨"MarkovChainDistancesModel", "isPair", "(I)Z"⟩, 30), (⟨"MarkovChainDistancesModel", "canonicalCoupling", "(II)V"⟩, 30), (⟨"MarkovChainDistancesModel", "lower", "(II)Z"⟩, 30), (⟨"MarkovChainDistancesModel", "computeClasses", "()V"⟩, 30), (⟨"MarkovChainDistancesModel", "number", "(Z)I"⟩, 30), (⟨"MarkovChainDistancesModel", "areAlike", "(II)Z"⟩, 30), (⟨"MarkovChainDistancesModel", "weightToClass", "(II)I"⟩, 30), (⟨"MarkovChainDistancesModel", "isQuery", "(III)Z"⟩, 30), (⟨"MarkovChainDistancesModel", "isIn", "(II)Z"⟩, 30), (⟨"MarkovChainDistancesModel", "step", "()V"⟩, 30), (⟨"MarkovChainDistancesModel", "walk", "(IIII)I"⟩, 30), (⟨"MarkovChainDistancesModel", "parseChain", "()V"⟩, 30), (⟨"MarkovChainDistancesModel", "number", "(I)I"⟩, 30), (⟨"MarkovChainDistancesModel", "isNext", "(II)Z"⟩, 30), (⟨"MarkovChainDistancesModel", "expect", "(I)V"⟩, 30)]
theorem lw_r4 : ∀ q ∈ lw_privs_4, lw_okq q := List.forall_mem_cons.mpr ⟨lw_p48, List.forall_mem_cons.mpr ⟨lw_p49, List.forall_mem_cons.mpr ⟨lw_p50, List.forall_mem_cons.mpr ⟨lw_p51, List.forall_mem_cons.mpr ⟨lw_p52, List.forall_mem_cons.mpr ⟨lw_p53, List.forall_mem_cons.mpr ⟨lw_p54, List.forall_mem_cons.mpr ⟨lw_p55, List.forall_mem_cons.mpr ⟨lw_p56, List.forall_mem_cons.mpr ⟨lw_p57, List.forall_mem_cons.mpr ⟨lw_p58, List.forall_mem_cons.mpr ⟨lw_p59, List.forall_mem_cons.mpr ⟨lw_p60, List.forall_mem_cons.mpr ⟨lw_p61, List.forall_mem_cons.mpr ⟨lw_p62, List.forall_mem_cons.mpr ⟨lw_p63, fun _ h => absurd h List.not_mem_nil⟩⟩⟩⟩⟩⟩⟩⟩⟩⟩⟩⟩⟩⟩⟩⟩
theorem lw_p64 : lw_okq (⟨"MarkovChainDistancesModel", "accept", "(I)Z"⟩, 30) := ⟨⟨by decide +kernel, by decide +kernel⟩, List.mem_of_getElem? (i := 744) (by decide +kernel), List.mem_of_getElem? (i := 1114) (by decide +kernel), List.mem_of_getElem? (i := 1115) (by decide +kernel)⟩
theorem lw_p65 : lw_okq (⟨"MarkovChainDistancesModel", "parseState", "()V"⟩, 30) := ⟨⟨by decide +kernel, by decide +kernel⟩, List.mem_of_getElem? (i := 744) (by decide +kernel), List.mem_of_getElem? (i := 1118) (by decide +kernel), List.mem_of_getElem? (i := 1119) (by decide +kernel)⟩
theorem lw_p66 : lw_okq (⟨"MarkovChainDistancesModel", "findWrongSuccessors", "()V"⟩, 30) := ⟨⟨by decide +kernel, by decide +kernel⟩, List.mem_of_getElem? (i := 744) (by decide +kernel), List.mem_of_getElem? (i := 1122) (by decide +kernel), List.mem_of_getElem? (i := 1123) (by decide +kernel)⟩
theorem lw_p67 : lw_okq (⟨"MarkovChainDistancesModel", "isConsistent", "()Z"⟩, 30) := ⟨⟨by decide +kernel, by decide +kernel⟩, List.mem_of_getElem? (i := 744) (by decide +kernel), List.mem_of_getElem? (i := 1126) (by decide +kernel), List.mem_of_getElem? (i := 1127) (by decide +kernel)⟩
theorem lw_p68 : lw_okq (⟨"MarkovChainDistancesModel", "hasWrongSuccessor", "(I)Z"⟩, 30) := ⟨⟨by decide +kernel, by decide +kernel⟩, List.mem_of_getElem? (i := 744) (by decide +kernel), List.mem_of_getElem? (i := 1130) (by decide +kernel), List.mem_of_getElem? (i := 1131) (by decide +kernel)⟩
def lw_privs_5 : List (MethodName × Nat) := [(⟨"MarkovChainDistancesModel", "accept", "(I)Z"⟩, 30), (⟨"MarkovChainDistancesModel", "parseState", "()V"⟩, 30), (⟨"MarkovChainDistancesModel", "findWrongSuccessors", "()V"⟩, 30), (⟨"MarkovChainDistancesModel", "isConsistent", "()Z"⟩, 30), (⟨"MarkovChainDistancesModel", "hasWrongSuccessor", "(I)Z"⟩, 30)]
theorem lw_r5 : ∀ q ∈ lw_privs_5, lw_okq q := List.forall_mem_cons.mpr ⟨lw_p64, List.forall_mem_cons.mpr ⟨lw_p65, List.forall_mem_cons.mpr ⟨lw_p66, List.forall_mem_cons.mpr ⟨lw_p67, List.forall_mem_cons.mpr ⟨lw_p68, fun _ h => absurd h List.not_mem_nil⟩⟩⟩⟩⟩
def lw_privs : List (MethodName × Nat) := lw_privs_1 ++ (lw_privs_2 ++ (lw_privs_3 ++ (lw_privs_4 ++ (lw_privs_5))))
def lw_tbl : List Cond := k2_sels lw_privs ++ tables_1
theorem lw_privs_ok : ∀ q ∈ lw_privs, lw_okq q := by
  show ∀ q ∈ lw_privs_1 ++ (lw_privs_2 ++ (lw_privs_3 ++ (lw_privs_4 ++ (lw_privs_5)))), lw_okq q
  exact List.forall_mem_append.mpr ⟨lw_r1, List.forall_mem_append.mpr ⟨lw_r2, List.forall_mem_append.mpr ⟨lw_r3, List.forall_mem_append.mpr ⟨lw_r4, lw_r5⟩⟩⟩⟩
/-- f, but v at every address of l -/
def vr_up {α : Type} (f : Nat → α) (l : List Nat) (v : α) : Nat → α := fun a => if a ∈ l then v else f a
theorem vr_up_in {α : Type} {f : Nat → α} {l : List Nat} {v : α} {a : Nat} (h : a ∈ l) : vr_up f l v a = v := if_pos h
theorem vr_up_ne {α : Type} {f : Nat → α} {l : List Nat} {v : α} {a : Nat} (h : a ∉ l) : vr_up f l v a = f a := if_neg h
theorem vr_rows {L l : List Nat} {f : Nat → va_E} {e : va_E} (h : ∀ a, a ∈ l → a ∉ L) : va_pl L f ++ l.map (fun a => (a, e)) = va_pl (L ++ l) (vr_up f l e) := by
  unfold va_pl
  rw [List.map_append]
  congr 1
  · apply List.map_congr_left
    intro a ha
    rw [vr_up_ne (fun q => h a q ha)]
  · apply List.map_congr_left
    intro a ha
    rw [vr_up_in ha]
theorem vr_lay {X rows : va_W} {x : Nat × va_E} {pl : va_W} {D : va_G} {cl : List vw_C} {H : Heap} (hP : va_P D cl (((X ++ pl) ++ [x]) ++ rows) H) : va_P D cl ((X ++ [x]) ++ (pl ++ rows)) H := by
  rw [List.append_assoc (X ++ pl)] at hP
  have h := va_P.swap hP
  rw [← List.append_assoc X] at h
  have h2 := va_P.swap h
  rw [List.append_assoc (X ++ [x])] at h2
  exact h2
theorem vr_layD {X rows : va_W} {x : Nat × va_E} {pl : va_W} {A : Nat → Prop} (hD : va_D A (((X ++ pl) ++ [x]) ++ rows)) : va_D A ((X ++ [x]) ++ (pl ++ rows)) := by
  rw [List.append_assoc (X ++ pl)] at hD
  have h := va_D.swap hD
  rw [← List.append_assoc X] at h
  have h2 := va_D.swap h
  rw [List.append_assoc (X ++ [x])] at h2
  exact h2
theorem vr_outer (c : ClassId) (N h0 : Nat) : ∀ i : Nat, Jvm.Free.Multi.outerC c N h0 i = arrV c N (fun j => va_rf (if j < i then some (h0 + 1 + j) else none))
  | 0 => by
    show ({ cls := c, slots := Array.replicate N .null, vm := .none } : Cell) = _
    rw [arrV_new]
    refine congrArg (arrV c N) (funext fun j => ?_)
    simp [va_rf]
  | i + 1 => by
    show (Jvm.Free.Multi.outerC c N h0 i).setSlot i (.ref (h0 + 1 + i)) = _
    rw [vr_outer c N h0 i, arrV_store]
    refine congrArg (arrV c N) (funext fun j => ?_)
    by_cases e : j = i
    · subst e
      simp [updV, va_rf]
    · by_cases h : j < i
      · simp [updV, e, h, Nat.lt_succ_of_lt h]
      · simp [updV, e, h, show ¬ j < i + 1 by omega]
def va_AOA (ty : FieldType) (U : State) : Prop := (Cond.arrayOver (.array ty)).before #[] U = true
theorem va_AOA.use {ty : FieldType} {A : Array Value} {U : State} (h : va_AOA ty U) : (Cond.arrayOver (.array ty)).before A U = true := h
section VGM
variable {p : Program} {l : Launch} {e : Env} {R : Room} {s : State} {m : MethodId} {args : Array Value} {below : List Frame} {meth : Method} {c : Code} {H : Heap} {locs : List Loc} {cells slots : Nat} {Q : State → Prop}
variable {cc : ByteArray} {pc : Nat} {ls : Array Slot} {rest : List Value} {D : va_G} {cl : List vw_C} {A : Nat → Prop} {a : Nat} {tys : List (ClassId × FieldType)} {ws : va_W} {H0 : Heap}
theorem va_mna {X : va_W} {L : List Nat} {f : Nat → va_E} {cc : ByteArray} (hexec : p.tables.exec = Jvm.exec) (hb : c.code = cc) {own : String} {index : Nat} {ty : FieldType} {cy : ClassId} (hown : s.vm.findClass own = some m.cls) (hclink : (Cond.classLink own index ("[" ++ (FieldType.array ty).toString)).before args s = true) (hover : va_AOA ty s) (harr : (Cond.arrayClass ty).before args s = true) (hcy : s.vm.findClass (FieldType.array ty).toString = some cy)
    (hK : va_K D cl tys s) (hP : va_P D cl (X ++ va_pl L f) H) (hD : va_D A (X ++ va_pl L f)) (hS : va_S A H0 H locs) (hA : ∀ q, H0.size ≤ q → A q) {n k : Int32} {N' K' : Nat} {z : vp_A} (hn : ¬ n < 0) (hk : ¬ k < 0) (hN : n.toNatClampNeg = N') (hM : k.toNatClampNeg = K')
    (hb1 : N' * 4 ≤ 536870912) (hb2 : K' * componentBytes ty ≤ 536870912) (hb3 : K' ≤ 536870912) (hdf : fits ty (defaultValue ty) = true) (hdd : (defaultValue ty).isDefault = true) (hcells : cells + (1 + N') ≤ R.cells) (hslots : slots + (N' + N' * K') ≤ R.slots) (hz : ∀ c : ClassId, Jvm.Free.Multi.innerC c K' (defaultValue ty) = vp_cell c z) (hdg : decode cc pc = .ok (.multianewarray index 2, 4))
    (kk : ∀ (q : Nat) (r : Nat → Nat) (cA : ClassId) (H1 : Heap), (∀ i j : Nat, i < N' → j < N' → r i = r j → i = j) → (∀ i : Nat, i < N' → r i ∉ L) → va_K D cl (tys ++ [(cA, .array ty)]) s →
      va_P D cl ((X ++ [(q, .inl (cA, N', .inr (.inr (.inr (.inr (fun i => if i < N' then some (r i) else none))))))]) ++ va_pl (L ++ (List.range N').map r) (vr_up f ((List.range N').map r) (.inl (cy, z)))) H1 → va_D A ((X ++ [(q, .inl (cA, N', .inr (.inr (.inr (.inr (fun i => if i < N' then some (r i) else none))))))]) ++ va_pl (L ++ (List.range N').map r) (vr_up f ((List.range N').map r) (.inl (cy, z)))) → va_S A H0 H1 locs →
      W p l e R s m args below meth c H1 locs (cells + 1 + N') (slots + N' + N' * K') Q (F0 m (pc + 4) ls (.ref q :: rest))) : W p l e R s m args below meth c H locs cells slots Q (F0 m pc ls (.int k :: .int n :: rest)) := by
  subst hN
  subst hM
  intro T hT Xs
  obtain ⟨vm₁, cA, comp, -, fA, fC, hO, -, X', step⟩ := Xs.multianewarray2F hexec hown hclink (va_AOA.use hover) harr (g := F0 m pc ls (.int k :: .int n :: rest)) rfl (by rw [hb]; exact hdg) rfl hn hk hb1 hb2 hb3 hdf hdd hcells hslots
  have ec : some cy = some comp := hcy.symm.trans fC
  cases ec
  generalize hF : Jvm.Free.Multi.fill (T.setVm vm₁) cA cy n.toNatClampNeg k.toNatClampNeg (defaultValue ty) n.toNatClampNeg = F at X' step
  have hTh : (T.setVm vm₁).heap = H := hT
  obtain ⟨f1, f2, -, -⟩ := Jvm.Free.Multi.fill_facts (T.setVm vm₁) cA cy n.toNatClampNeg k.toNatClampNeg (defaultValue ty) n.toNatClampNeg
  rw [hF, hTh] at f1 f2
  have hold : ∀ x : Nat, x < H.size → F.heap[x]? = H[x]? := fun x hx => by
    have := Jvm.Free.Multi.fill_old (T.setVm vm₁) cA cy n.toNatClampNeg k.toNatClampNeg (defaultValue ty) (a := x) (by rw [hTh]; exact hx) n.toNatClampNeg
    rw [hF, hTh] at this
    exact this
  have hrow : ∀ j : Nat, j < n.toNatClampNeg → F.heap[H.size + 1 + j]? = some (vp_cell cy z) := fun j hj => by
    have := Jvm.Free.Multi.fill_inner (T.setVm vm₁) cA cy n.toNatClampNeg k.toNatClampNeg (defaultValue ty) n.toNatClampNeg j hj
    rw [hF, hTh, hz] at this
    exact this
  have hout : Jvm.Free.Multi.outerC cA n.toNatClampNeg H.size n.toNatClampNeg = vp_cell cA (n.toNatClampNeg, .inr (.inr (.inr (.inr (fun i => if i < n.toNatClampNeg then some (H.size + 1 + i) else none))))) := by
    rw [vp_cell_q]
    exact vr_outer cA n.toNatClampNeg H.size n.toNatClampNeg
  rw [hout] at f2
  have hlt : ∀ a, a ∈ L → a < H.size := fun a ha => by
    obtain ⟨k9, hk9⟩ := va_pl_get (X := X) (f := f) ha
    exact (hP k9 _ hk9).lt
  have hnl : ∀ i : Nat, i < n.toNatClampNeg → H.size + 1 + i ∉ L := fun i _ h => by
    have := hlt _ h
    omega
  have hnm : ∀ a, a ∈ (List.range n.toNatClampNeg).map (fun i => H.size + 1 + i) → a ∉ L := fun a ha h => by
    obtain ⟨i, -, rfl⟩ := List.mem_map.mp ha
    have := hlt _ h
    omega
  have hP0 : va_P D cl (X ++ va_pl L f) F.heap := hP.kept (fun k9 x hx => hold x.1 ((hP k9 x hx).lt))
  have hP1 : va_P D cl ((X ++ va_pl L f) ++ [(H.size, .inl (cA, n.toNatClampNeg, .inr (.inr (.inr (.inr (fun i => if i < n.toNatClampNeg then some (H.size + 1 + i) else none))))))]) F.heap := hP0.app (fun k9 x hx => by
    have h0 : k9 < 1 := (List.getElem?_eq_some_iff.mp hx).1
    rw [show k9 = 0 by omega] at hx
    cases hx
    exact f2)
  have hP2 : va_P D cl (((X ++ va_pl L f) ++ [(H.size, .inl (cA, n.toNatClampNeg, .inr (.inr (.inr (.inr (fun i => if i < n.toNatClampNeg then some (H.size + 1 + i) else none))))))]) ++ ((List.range n.toNatClampNeg).map (fun i => H.size + 1 + i)).map (fun a => (a, .inl (cy, z)))) F.heap := hP1.app (fun k9 x hx => by
    obtain ⟨a, ha, rfl⟩ := List.mem_map.mp (List.mem_of_getElem? hx)
    obtain ⟨i, hi, rfl⟩ := List.mem_map.mp ha
    exact hrow i (List.mem_range.mp hi))
  have hD2 : va_D A (((X ++ va_pl L f) ++ [(H.size, .inl (cA, n.toNatClampNeg, .inr (.inr (.inr (.inr (fun i => if i < n.toNatClampNeg then some (H.size + 1 + i) else none))))))]) ++ ((List.range n.toNatClampNeg).map (fun i => H.size + 1 + i)).map (fun a => (a, .inl (cy, z)))) := by
    have hD1 := hD.push (e := .inl (cA, n.toNatClampNeg, .inr (.inr (.inr (.inr (fun i => if i < n.toNatClampNeg then some (H.size + 1 + i) else none)))))) hP rfl (hA _ hS.1)
    generalize hW1 : (X ++ va_pl L f) ++ [(H.size, .inl (cA, n.toNatClampNeg, .inr (.inr (.inr (.inr (fun i => if i < n.toNatClampNeg then some (H.size + 1 + i) else none))))))] = W1 at hD1 hP1 ⊢
    have hle : ∀ (k9 : Nat) (x : Nat × va_E), W1[k9]? = some x → x.1 ≤ H.size := fun k9 x hx => by
      rw [← hW1] at hx
      by_cases hl : k9 < (X ++ va_pl L f).length
      · rw [List.getElem?_append_left hl] at hx
        exact Nat.le_of_lt ((hP k9 x hx).lt)
      · rw [List.getElem?_append_right (by omega)] at hx
        have h0 : k9 - (X ++ va_pl L f).length < 1 := (List.getElem?_eq_some_iff.mp hx).1
        rw [show k9 - (X ++ va_pl L f).length = 0 by omega] at hx
        cases hx
        exact Nat.le_refl _
    have hr : ∀ (k9 : Nat) (x : Nat × va_E), (((List.range n.toNatClampNeg).map (fun i => H.size + 1 + i)).map (fun a => ((a, .inl (cy, z)) : Nat × va_E)))[k9]? = some x → x.1 = H.size + 1 + k9 := fun k9 x hx => by
      rw [List.getElem?_map, List.getElem?_map] at hx
      by_cases h9 : k9 < n.toNatClampNeg
      · rw [List.getElem?_range h9] at hx
        cases hx
        rfl
      · have hn0 : (List.range n.toNatClampNeg)[k9]? = none := List.getElem?_eq_none (by rw [List.length_range]; omega)
        rw [hn0] at hx
        cases hx
    refine ⟨fun i j x y hi hj hxy => ?_, fun k9 x hx => ?_⟩
    · by_cases h1 : i < W1.length <;> by_cases h2 : j < W1.length
      · rw [List.getElem?_append_left h1] at hi
        rw [List.getElem?_append_left h2] at hj
        exact hD1.1 i j x y hi hj hxy
      · rw [List.getElem?_append_left h1] at hi
        rw [List.getElem?_append_right (by omega)] at hj
        have := hle _ _ hi
        have := hr _ _ hj
        omega
      · rw [List.getElem?_append_right (by omega)] at hi
        rw [List.getElem?_append_left h2] at hj
        have := hle _ _ hj
        have := hr _ _ hi
        omega
      · rw [List.getElem?_append_right (by omega)] at hi hj
        have := hr _ _ hi
        have := hr _ _ hj
        omega
    · by_cases h1 : k9 < W1.length
      · rw [List.getElem?_append_left h1] at hx
        exact hD1.2 k9 x hx
      · rw [List.getElem?_append_right (by omega)] at hx
        have := hr _ _ hx
        exact hA _ (by have := hS.1; omega)
  have hAr : ArrOfT s cA (.array ty) := fun N9 z9 => by
    obtain ⟨-, k9, hk9, cm9, hkk9⟩ := (hO 0 0 0).1
    exact ⟨(fun q hq => by cases hq), k9, hk9, cm9, hkk9⟩
  have hK2 : va_K D cl (tys ++ [(cA, .array ty)]) s := ⟨hK.1, fun k9 x hx => by
    by_cases hl : k9 < tys.length
    · rw [List.getElem?_append_left hl] at hx
      exact hK.2 k9 x hx
    · rw [List.getElem?_append_right (by omega)] at hx
      have h0 : k9 - tys.length < 1 := (List.getElem?_eq_some_iff.mp hx).1
      rw [show k9 - tys.length = 0 by omega] at hx
      cases hx
      exact ⟨hAr, fA⟩⟩
  obtain ⟨t, a1, b1⟩ := kk H.size (fun i => H.size + 1 + i) cA F.heap (fun i j _ _ h => by have h9 : H.size + 1 + i = H.size + 1 + j := h; omega) hnl hK2 (by rw [← vr_rows hnm]; exact vr_lay hP2) (by rw [← vr_rows hnm]; exact vr_layD hD2) ⟨by rw [f1]; have := hS.1; omega, fun x h1 h2 => (hold x (Nat.lt_of_lt_of_le h1 hS.1)).trans (hS.2.1 x h1 h2), hS.2.2⟩ F rfl X'
  refine ⟨t, step t ?_, b1⟩
  have e : T.heap.size = H.size := by rw [hT]
  rw [e]
  exact a1
end VGM

def RX0 : String := "MarkovChainDistances$ArraySlots"
def TX0 : u_T := fun k => match k with
  | 0 => ("MarkovChainDistances$ArraySlots", "types", "[I", true)
  | 1 => ("MarkovChainDistances$ArraySlots", "sizes", "[I", true)
  | _ => ("MarkovChainDistances$ArraySlots", "elements", "[[J", true)
def tyX0 : Nat → FieldType := fun k => match k with
  | 0 => .array .int
  | 1 => .array .int
  | _ => .array (.array .long)
theorem nmX0 : ∀ a, a < 3 → ∀ b, b < 3 → a ≠ b → (TX0 a).2.1 ≠ (TX0 b).2.1 := by decide +kernel
theorem tyX0_ok : ∀ k, k < 3 → parseFieldDescriptor (TX0 k).2.2.1 = some (tyX0 k) := by decide +kernel
abbrev cX0_init : ByteArray := prog_2_method_1_code
def yX0_init : MethodName := ⟨RX0, "<init>", "()V"⟩
abbrev cX0_isEmpty : ByteArray := prog_2_method_2_code
def yX0_isEmpty : MethodName := ⟨RX0, "isEmpty", "(I)Z"⟩
abbrev cX0_hasIndex : ByteArray := prog_2_method_3_code
def yX0_hasIndex : MethodName := ⟨RX0, "hasIndex", "(II)Z"⟩
abbrev cX0_hasRange : ByteArray := prog_2_method_4_code
def yX0_hasRange : MethodName := ⟨RX0, "hasRange", "(III)Z"⟩
abbrev cX0_fillNew : ByteArray := prog_2_method_5_code
def yX0_fillNew : MethodName := ⟨RX0, "fillNew", "(III)V"⟩
abbrev cX0_narrowed : ByteArray := prog_2_method_6_code
def yX0_narrowed : MethodName := ⟨RX0, "narrowed", "(JI)J"⟩
def RX1 : String := "MarkovChainDistances$Chain"
def TX1 : u_T := fun k => match k with
  | 0 => ("MarkovChainDistances$Chain", "size", "I", false)
  | 1 => ("MarkovChainDistances$Chain", "total", "I", false)
  | 2 => ("MarkovChainDistances$Chain", "discountTop", "I", false)
  | 3 => ("MarkovChainDistances$Chain", "discountBottom", "I", false)
  | 4 => ("MarkovChainDistances$Chain", "labels", "[I", true)
  | _ => ("MarkovChainDistances$Chain", "weights", "[I", true)
def tyX1 : Nat → FieldType := fun k => match k with
  | 0 => .int
  | 1 => .int
  | 2 => .int
  | 3 => .int
  | 4 => .array .int
  | _ => .array .int
theorem nmX1 : ∀ a, a < 6 → ∀ b, b < 6 → a ≠ b → (TX1 a).2.1 ≠ (TX1 b).2.1 := by decide +kernel
theorem tyX1_ok : ∀ k, k < 6 → parseFieldDescriptor (TX1 k).2.2.1 = some (tyX1 k) := by decide +kernel
abbrev cX1_init : ByteArray := prog_3_method_1_code
def yX1_init : MethodName := ⟨RX1, "<init>", "()V"⟩
abbrev cX1_start : ByteArray := prog_3_method_2_code
def yX1_start : MethodName := ⟨RX1, "start", "(II)V"⟩
abbrev cX1_has : ByteArray := prog_3_method_3_code
def yX1_has : MethodName := ⟨RX1, "has", "(I)Z"⟩
abbrev cX1_copyFrom : ByteArray := prog_3_method_4_code
def yX1_copyFrom : MethodName := ⟨RX1, "copyFrom", "(LMarkovChainDistances$Chain;)V"⟩
abbrev cX1_copySwapped : ByteArray := prog_3_method_5_code
def yX1_copySwapped : MethodName := ⟨RX1, "copySwapped", "(LMarkovChainDistances$Chain;II)V"⟩
abbrev cX1_swapped : ByteArray := prog_3_method_6_code
def yX1_swapped : MethodName := ⟨RX1, "swapped", "(III)I"⟩
abbrev cX1_sameAs : ByteArray := prog_3_method_7_code
def yX1_sameAs : MethodName := ⟨RX1, "sameAs", "(LMarkovChainDistances$Chain;)Z"⟩
abbrev cX1_successorAt : ByteArray := prog_3_method_8_code
def yX1_successorAt : MethodName := ⟨RX1, "successorAt", "(II)I"⟩
def RX2 : String := "MarkovChainDistances$ChainReader"
def TX2 : u_T := fun k => match k with
  | 0 => ("MarkovChainDistances$ChainReader", "text", "LMarkovChainDistances$InputBuffer;", true)
  | 1 => ("MarkovChainDistances$ChainReader", "position", "I", false)
  | 2 => ("MarkovChainDistances$ChainReader", "malformed", "Z", false)
  | 3 => ("MarkovChainDistances$ChainReader", "size", "I", false)
  | 4 => ("MarkovChainDistances$ChainReader", "total", "I", false)
  | 5 => ("MarkovChainDistances$ChainReader", "highestSuccessor", "I", false)
  | 6 => ("MarkovChainDistances$ChainReader", "labels", "[I", true)
  | _ => ("MarkovChainDistances$ChainReader", "weights", "[I", true)
def tyX2 : Nat → FieldType := fun k => match k with
  | 0 => .object "MarkovChainDistances$InputBuffer"
  | 1 => .int
  | 2 => .boolean
  | 3 => .int
  | 4 => .int
  | 5 => .int
  | 6 => .array .int
  | _ => .array .int
theorem nmX2 : ∀ a, a < 8 → ∀ b, b < 8 → a ≠ b → (TX2 a).2.1 ≠ (TX2 b).2.1 := by decide +kernel
theorem tyX2_ok : ∀ k, k < 8 → parseFieldDescriptor (TX2 k).2.2.1 = some (tyX2 k) := by decide +kernel
abbrev cX2_init : ByteArray := prog_4_method_1_code
def yX2_init : MethodName := ⟨RX2, "<init>", "()V"⟩
abbrev cX2_readInput : ByteArray := prog_4_method_2_code
def yX2_readInput : MethodName := ⟨RX2, "readInput", "()I"⟩
abbrev cX2_clear : ByteArray := prog_4_method_3_code
def yX2_clear : MethodName := ⟨RX2, "clear", "()V"⟩
abbrev cX2_readStates : ByteArray := prog_4_method_4_code
def yX2_readStates : MethodName := ⟨RX2, "readStates", "()V"⟩
abbrev cX2_readState : ByteArray := prog_4_method_5_code
def yX2_readState : MethodName := ⟨RX2, "readState", "(I)V"⟩
abbrev cX2_readEdge : ByteArray := prog_4_method_6_code
def yX2_readEdge : MethodName := ⟨RX2, "readEdge", "(I)V"⟩
abbrev cX2_takeNumber : ByteArray := prog_4_method_7_code
def yX2_takeNumber : MethodName := ⟨RX2, "takeNumber", "(I)I"⟩
abbrev cX2_take : ByteArray := prog_4_method_8_code
def yX2_take : MethodName := ⟨RX2, "take", "(C)V"⟩
abbrev cX2_takeIfPresent : ByteArray := prog_4_method_9_code
def yX2_takeIfPresent : MethodName := ⟨RX2, "takeIfPresent", "(C)Z"⟩
abbrev cX2_isConsistent : ByteArray := prog_4_method_10_code
def yX2_isConsistent : MethodName := ⟨RX2, "isConsistent", "()Z"⟩
abbrev cX2_writeTo : ByteArray := prog_4_method_11_code
def yX2_writeTo : MethodName := ⟨RX2, "writeTo", "(LMarkovChainDistances$Chain;)V"⟩
def RX3 : String := "MarkovChainDistances$Distances"
def TX3 : u_T := fun k => match k with
  | 0 => ("MarkovChainDistances$Distances", "basis", "LMarkovChainDistances$Chain;", true)
  | 1 => ("MarkovChainDistances$Distances", "transport", "LMarkovChainDistances$Transport;", true)
  | 2 => ("MarkovChainDistances$Distances", "levels", "[[J", true)
  | 3 => ("MarkovChainDistances$Distances", "scales", "[J", true)
  | _ => ("MarkovChainDistances$Distances", "knownDepth", "I", false)
def tyX3 : Nat → FieldType := fun k => match k with
  | 0 => .object "MarkovChainDistances$Chain"
  | 1 => .object "MarkovChainDistances$Transport"
  | 2 => .array (.array .long)
  | 3 => .array .long
  | _ => .int
theorem nmX3 : ∀ a, a < 5 → ∀ b, b < 5 → a ≠ b → (TX3 a).2.1 ≠ (TX3 b).2.1 := by decide +kernel
theorem tyX3_ok : ∀ k, k < 5 → parseFieldDescriptor (TX3 k).2.2.1 = some (tyX3 k) := by decide +kernel
abbrev cX3_init : ByteArray := prog_5_method_1_code
def yX3_init : MethodName := ⟨RX3, "<init>", "()V"⟩
abbrev cX3_levelFor : ByteArray := prog_5_method_2_code
def yX3_levelFor : MethodName := ⟨RX3, "levelFor", "(LMarkovChainDistances$Chain;I)[J"⟩
abbrev cX3_fillLevel : ByteArray := prog_5_method_3_code
def yX3_fillLevel : MethodName := ⟨RX3, "fillLevel", "(I)V"⟩
abbrev cX3_canonicalCoupling : ByteArray := prog_5_method_4_code
def yX3_canonicalCoupling : MethodName := ⟨RX3, "canonicalCoupling", "([JII)[I"⟩
abbrev cX3_inLowestTerms : ByteArray := prog_5_method_5_code
def yX3_inLowestTerms : MethodName := ⟨RX3, "inLowestTerms", "(JIZ)J"⟩
abbrev cX3_greatestCommonDivisor : ByteArray := prog_5_method_6_code
def yX3_greatestCommonDivisor : MethodName := ⟨RX3, "greatestCommonDivisor", "(JJ)J"⟩
def RX4 : String := "MarkovChainDistances$EditHistory"
def TX4 : u_T := fun k => match k with
  | 0 => ("MarkovChainDistances$EditHistory", "count", "I", false)
  | 1 => ("MarkovChainDistances$EditHistory", "next", "I", false)
  | _ => ("MarkovChainDistances$EditHistory", "before", "[LMarkovChainDistances$Chain;", true)
def tyX4 : Nat → FieldType := fun k => match k with
  | 0 => .int
  | 1 => .int
  | _ => .array (.object "MarkovChainDistances$Chain")
theorem nmX4 : ∀ a, a < 3 → ∀ b, b < 3 → a ≠ b → (TX4 a).2.1 ≠ (TX4 b).2.1 := by decide +kernel
theorem tyX4_ok : ∀ k, k < 3 → parseFieldDescriptor (TX4 k).2.2.1 = some (tyX4 k) := by decide +kernel
abbrev cX4_init : ByteArray := prog_6_method_1_code
def yX4_init : MethodName := ⟨RX4, "<init>", "()V"⟩
abbrev cX4_remember : ByteArray := prog_6_method_2_code
def yX4_remember : MethodName := ⟨RX4, "remember", "(LMarkovChainDistances$Chain;)V"⟩
abbrev cX4_takeLast : ByteArray := prog_6_method_3_code
def yX4_takeLast : MethodName := ⟨RX4, "takeLast", "(LMarkovChainDistances$Chain;)V"⟩
abbrev cX4_forgetAll : ByteArray := prog_6_method_4_code
def yX4_forgetAll : MethodName := ⟨RX4, "forgetAll", "()V"⟩
def RX5 : String := "MarkovChainDistances$InputBuffer"
def TX5 : u_T := fun k => match k with
  | 0 => ("MarkovChainDistances$InputBuffer", "length", "I", false)
  | _ => ("MarkovChainDistances$InputBuffer", "signs", "[I", true)
def tyX5 : Nat → FieldType := fun k => match k with
  | 0 => .int
  | _ => .array .int
theorem nmX5 : ∀ a, a < 2 → ∀ b, b < 2 → a ≠ b → (TX5 a).2.1 ≠ (TX5 b).2.1 := by decide +kernel
theorem tyX5_ok : ∀ k, k < 2 → parseFieldDescriptor (TX5 k).2.2.1 = some (tyX5 k) := by decide +kernel
abbrev cX5_init : ByteArray := prog_7_method_1_code
def yX5_init : MethodName := ⟨RX5, "<init>", "()V"⟩
abbrev cX5_add : ByteArray := prog_7_method_2_code
def yX5_add : MethodName := ⟨RX5, "add", "(I)V"⟩
abbrev cX5_empty : ByteArray := prog_7_method_3_code
def yX5_empty : MethodName := ⟨RX5, "empty", "()V"⟩
abbrev cX5_holdsAt : ByteArray := prog_7_method_4_code
def yX5_holdsAt : MethodName := ⟨RX5, "holdsAt", "(IC)Z"⟩
abbrev cX5_digitAt : ByteArray := prog_7_method_5_code
def yX5_digitAt : MethodName := ⟨RX5, "digitAt", "(I)I"⟩
abbrev cX5_isLabelSequence : ByteArray := prog_7_method_6_code
def yX5_isLabelSequence : MethodName := ⟨RX5, "isLabelSequence", "()Z"⟩
def RX6 : String := "MarkovChainDistances$Partition"
def TX6 : u_T := fun k => match k with
  | 0 => ("MarkovChainDistances$Partition", "classCount", "I", false)
  | 1 => ("MarkovChainDistances$Partition", "classOf", "[I", true)
  | _ => ("MarkovChainDistances$Partition", "nextClassOf", "[I", true)
def tyX6 : Nat → FieldType := fun k => match k with
  | 0 => .int
  | 1 => .array .int
  | _ => .array .int
theorem nmX6 : ∀ a, a < 3 → ∀ b, b < 3 → a ≠ b → (TX6 a).2.1 ≠ (TX6 b).2.1 := by decide +kernel
theorem tyX6_ok : ∀ k, k < 3 → parseFieldDescriptor (TX6 k).2.2.1 = some (tyX6 k) := by decide +kernel
abbrev cX6_init : ByteArray := prog_8_method_1_code
def yX6_init : MethodName := ⟨RX6, "<init>", "()V"⟩
abbrev cX6_refineFully : ByteArray := prog_8_method_2_code
def yX6_refineFully : MethodName := ⟨RX6, "refineFully", "(LMarkovChainDistances$Chain;)V"⟩
abbrev cX6_refineOnce : ByteArray := prog_8_method_3_code
def yX6_refineOnce : MethodName := ⟨RX6, "refineOnce", "(LMarkovChainDistances$Chain;)V"⟩
abbrev cX6_agree : ByteArray := prog_8_method_4_code
def yX6_agree : MethodName := ⟨RX6, "agree", "(LMarkovChainDistances$Chain;II)Z"⟩
abbrev cX6_weightToClass : ByteArray := prog_8_method_5_code
def yX6_weightToClass : MethodName := ⟨RX6, "weightToClass", "(LMarkovChainDistances$Chain;II)I"⟩
abbrev cX6_writeQuotient : ByteArray := prog_8_method_6_code
def yX6_writeQuotient : MethodName := ⟨RX6, "writeQuotient", "(LMarkovChainDistances$Chain;LMarkovChainDistances$Chain;)V"⟩
def RX7 : String := "MarkovChainDistances$PathCounter"
def TX7 : u_T := fun k => match k with
  | 0 => ("MarkovChainDistances$PathCounter", "sums", "[J", true)
  | _ => ("MarkovChainDistances$PathCounter", "nextSums", "[J", true)
def tyX7 : Nat → FieldType := fun k => match k with
  | 0 => .array .long
  | _ => .array .long
theorem nmX7 : ∀ a, a < 2 → ∀ b, b < 2 → a ≠ b → (TX7 a).2.1 ≠ (TX7 b).2.1 := by decide +kernel
theorem tyX7_ok : ∀ k, k < 2 → parseFieldDescriptor (TX7 k).2.2.1 = some (tyX7 k) := by decide +kernel
abbrev cX7_init : ByteArray := prog_9_method_1_code
def yX7_init : MethodName := ⟨RX7, "<init>", "()V"⟩
abbrev cX7_countReaching : ByteArray := prog_9_method_2_code
def yX7_countReaching : MethodName := ⟨RX7, "countReaching", "(LMarkovChainDistances$Chain;III)J"⟩
abbrev cX7_countFirstReaching : ByteArray := prog_9_method_3_code
def yX7_countFirstReaching : MethodName := ⟨RX7, "countFirstReaching", "(LMarkovChainDistances$Chain;III)J"⟩
abbrev cX7_countSequence : ByteArray := prog_9_method_4_code
def yX7_countSequence : MethodName := ⟨RX7, "countSequence", "(LMarkovChainDistances$Chain;ILMarkovChainDistances$InputBuffer;)J"⟩
abbrev cX7_markTargets : ByteArray := prog_9_method_5_code
def yX7_markTargets : MethodName := ⟨RX7, "markTargets", "(LMarkovChainDistances$Chain;I)V"⟩
abbrev cX7_isTarget : ByteArray := prog_9_method_6_code
def yX7_isTarget : MethodName := ⟨RX7, "isTarget", "(LMarkovChainDistances$Chain;II)Z"⟩
abbrev cX7_stepBack : ByteArray := prog_9_method_7_code
def yX7_stepBack : MethodName := ⟨RX7, "stepBack", "(LMarkovChainDistances$Chain;)V"⟩
def RX8 : String := "MarkovChainDistances$Transport"
def TX8 : u_T := fun k => match k with
  | 0 => ("MarkovChainDistances$Transport", "flow", "[I", true)
  | 1 => ("MarkovChainDistances$Transport", "size", "I", false)
  | 2 => ("MarkovChainDistances$Transport", "costs", "[J", true)
  | 3 => ("MarkovChainDistances$Transport", "supply", "[I", true)
  | 4 => ("MarkovChainDistances$Transport", "demand", "[I", true)
  | 5 => ("MarkovChainDistances$Transport", "rowDistance", "[J", true)
  | 6 => ("MarkovChainDistances$Transport", "columnDistance", "[J", true)
  | 7 => ("MarkovChainDistances$Transport", "columnBefore", "[I", true)
  | _ => ("MarkovChainDistances$Transport", "rowBefore", "[I", true)
def tyX8 : Nat → FieldType := fun k => match k with
  | 0 => .array .int
  | 1 => .int
  | 2 => .array .long
  | 3 => .array .int
  | 4 => .array .int
  | 5 => .array .long
  | 6 => .array .long
  | 7 => .array .int
  | _ => .array .int
theorem nmX8 : ∀ a, a < 9 → ∀ b, b < 9 → a ≠ b → (TX8 a).2.1 ≠ (TX8 b).2.1 := by decide +kernel
theorem tyX8_ok : ∀ k, k < 9 → parseFieldDescriptor (TX8 k).2.2.1 = some (tyX8 k) := by decide +kernel
abbrev cX8_init : ByteArray := prog_10_method_1_code
def yX8_init : MethodName := ⟨RX8, "<init>", "()V"⟩
abbrev cX8_useCosts : ByteArray := prog_10_method_2_code
def yX8_useCosts : MethodName := ⟨RX8, "useCosts", "([J)V"⟩
abbrev cX8_solve : ByteArray := prog_10_method_3_code
def yX8_solve : MethodName := ⟨RX8, "solve", "(LMarkovChainDistances$Chain;II)J"⟩
abbrev cX8_startOnDiagonal : ByteArray := prog_10_method_4_code
def yX8_startOnDiagonal : MethodName := ⟨RX8, "startOnDiagonal", "(LMarkovChainDistances$Chain;II)V"⟩
abbrev cX8_sendFrom : ByteArray := prog_10_method_5_code
def yX8_sendFrom : MethodName := ⟨RX8, "sendFrom", "(I)V"⟩
abbrev cX8_openColumn : ByteArray := prog_10_method_6_code
def yX8_openColumn : MethodName := ⟨RX8, "openColumn", "()I"⟩
abbrev cX8_makeCanonical : ByteArray := prog_10_method_7_code
def yX8_makeCanonical : MethodName := ⟨RX8, "makeCanonical", "()V"⟩
abbrev cX8_reduceEntry : ByteArray := prog_10_method_8_code
def yX8_reduceEntry : MethodName := ⟨RX8, "reduceEntry", "(II)V"⟩
abbrev cX8_findPaths : ByteArray := prog_10_method_9_code
def yX8_findPaths : MethodName := ⟨RX8, "findPaths", "(II)V"⟩
abbrev cX8_approachColumns : ByteArray := prog_10_method_10_code
def yX8_approachColumns : MethodName := ⟨RX8, "approachColumns", "(I)Z"⟩
abbrev cX8_approachRows : ByteArray := prog_10_method_11_code
def yX8_approachRows : MethodName := ⟨RX8, "approachRows", "(I)Z"⟩
abbrev cX8_slackOfPath : ByteArray := prog_10_method_12_code
def yX8_slackOfPath : MethodName := ⟨RX8, "slackOfPath", "(II)I"⟩
abbrev cX8_shiftAlongPath : ByteArray := prog_10_method_13_code
def yX8_shiftAlongPath : MethodName := ⟨RX8, "shiftAlongPath", "(II)V"⟩
def RX9 : String := "MarkovChainDistances"
def TX9 : u_T := fun k => match k with
  | 0 => ("MarkovChainDistances", "chain", "LMarkovChainDistances$Chain;", true)
  | 1 => ("MarkovChainDistances", "draft", "LMarkovChainDistances$Chain;", true)
  | 2 => ("MarkovChainDistances", "saved", "LMarkovChainDistances$Chain;", true)
  | 3 => ("MarkovChainDistances", "hasSaved", "Z", false)
  | 4 => ("MarkovChainDistances", "edits", "LMarkovChainDistances$EditHistory;", true)
  | 5 => ("MarkovChainDistances", "distances", "LMarkovChainDistances$Distances;", true)
  | 6 => ("MarkovChainDistances", "partition", "LMarkovChainDistances$Partition;", true)
  | 7 => ("MarkovChainDistances", "paths", "LMarkovChainDistances$PathCounter;", true)
  | 8 => ("MarkovChainDistances", "reader", "LMarkovChainDistances$ChainReader;", true)
  | 9 => ("MarkovChainDistances", "input", "LMarkovChainDistances$InputBuffer;", true)
  | _ => ("MarkovChainDistances", "arrays", "LMarkovChainDistances$ArraySlots;", true)
def tyX9 : Nat → FieldType := fun k => match k with
  | 0 => .object "MarkovChainDistances$Chain"
  | 1 => .object "MarkovChainDistances$Chain"
  | 2 => .object "MarkovChainDistances$Chain"
  | 3 => .boolean
  | 4 => .object "MarkovChainDistances$EditHistory"
  | 5 => .object "MarkovChainDistances$Distances"
  | 6 => .object "MarkovChainDistances$Partition"
  | 7 => .object "MarkovChainDistances$PathCounter"
  | 8 => .object "MarkovChainDistances$ChainReader"
  | 9 => .object "MarkovChainDistances$InputBuffer"
  | _ => .object "MarkovChainDistances$ArraySlots"
theorem nmX9 : ∀ a, a < 11 → ∀ b, b < 11 → a ≠ b → (TX9 a).2.1 ≠ (TX9 b).2.1 := by decide +kernel
theorem tyX9_ok : ∀ k, k < 11 → parseFieldDescriptor (TX9 k).2.2.1 = some (tyX9 k) := by decide +kernel
abbrev cX9_init : ByteArray := prog_1_method_1_code
def yX9_init : MethodName := ⟨RX9, "<init>", "()V"⟩
abbrev cX9_reset : ByteArray := prog_1_method_2_code
def yX9_reset : MethodName := ⟨RX9, "reset", "(II)I"⟩
abbrev cX9_states : ByteArray := prog_1_method_3_code
def yX9_states : MethodName := ⟨RX9, "states", "()I"⟩
abbrev cX9_resolution : ByteArray := prog_1_method_4_code
def yX9_resolution : MethodName := ⟨RX9, "resolution", "()I"⟩
abbrev cX9_setLabel : ByteArray := prog_1_method_5_code
def yX9_setLabel : MethodName := ⟨RX9, "setLabel", "(II)I"⟩
abbrev cX9_label : ByteArray := prog_1_method_6_code
def yX9_label : MethodName := ⟨RX9, "label", "(I)I"⟩
abbrev cX9_moveWeight : ByteArray := prog_1_method_7_code
def yX9_moveWeight : MethodName := ⟨RX9, "moveWeight", "(IIII)I"⟩
abbrev cX9_weight : ByteArray := prog_1_method_8_code
def yX9_weight : MethodName := ⟨RX9, "weight", "(II)I"⟩
abbrev cX9_setDiscount : ByteArray := prog_1_method_9_code
def yX9_setDiscount : MethodName := ⟨RX9, "setDiscount", "(II)I"⟩
abbrev cX9_swapStates : ByteArray := prog_1_method_10_code
def yX9_swapStates : MethodName := ⟨RX9, "swapStates", "(II)I"⟩
abbrev cX9_undo : ByteArray := prog_1_method_11_code
def yX9_undo : MethodName := ⟨RX9, "undo", "()I"⟩
abbrev cX9_editCount : ByteArray := prog_1_method_12_code
def yX9_editCount : MethodName := ⟨RX9, "editCount", "()I"⟩
abbrev cX9_maximumDepth : ByteArray := prog_1_method_13_code
def yX9_maximumDepth : MethodName := ⟨RX9, "maximumDepth", "()I"⟩
abbrev cX9_distanceNumerator : ByteArray := prog_1_method_14_code
def yX9_distanceNumerator : MethodName := ⟨RX9, "distanceNumerator", "(III)J"⟩
abbrev cX9_distanceDenominator : ByteArray := prog_1_method_15_code
def yX9_distanceDenominator : MethodName := ⟨RX9, "distanceDenominator", "(III)J"⟩
abbrev cX9_compareDistances : ByteArray := prog_1_method_16_code
def yX9_compareDistances : MethodName := ⟨RX9, "compareDistances", "(III)I"⟩
abbrev cX9_farthestPair : ByteArray := prog_1_method_17_code
def yX9_farthestPair : MethodName := ⟨RX9, "farthestPair", "(I)I"⟩
abbrev cX9_coupling : ByteArray := prog_1_method_18_code
def yX9_coupling : MethodName := ⟨RX9, "coupling", "(IIII)I"⟩
abbrev cX9_distributionDistance : ByteArray := prog_1_method_19_code
def yX9_distributionDistance : MethodName := ⟨RX9, "distributionDistance", "(III)I"⟩
abbrev cX9_totalVariation : ByteArray := prog_1_method_20_code
def yX9_totalVariation : MethodName := ⟨RX9, "totalVariation", "(II)I"⟩
abbrev cX9_largestDifference : ByteArray := prog_1_method_21_code
def yX9_largestDifference : MethodName := ⟨RX9, "largestDifference", "(II)I"⟩
abbrev cX9_cumulativeDistance : ByteArray := prog_1_method_22_code
def yX9_cumulativeDistance : MethodName := ⟨RX9, "cumulativeDistance", "(II)I"⟩
abbrev cX9_overlap : ByteArray := prog_1_method_23_code
def yX9_overlap : MethodName := ⟨RX9, "overlap", "(II)I"⟩
abbrev cX9_weightDifference : ByteArray := prog_1_method_24_code
def yX9_weightDifference : MethodName := ⟨RX9, "weightDifference", "(III)I"⟩
abbrev cX9_greatestDepth : ByteArray := prog_1_method_25_code
def yX9_greatestDepth : MethodName := ⟨RX9, "greatestDepth", "()I"⟩
abbrev cX9_hasDistance : ByteArray := prog_1_method_26_code
def yX9_hasDistance : MethodName := ⟨RX9, "hasDistance", "(III)Z"⟩
abbrev cX9_isPair : ByteArray := prog_1_method_27_code
def yX9_isPair : MethodName := ⟨RX9, "isPair", "(I)Z"⟩
abbrev cX9_cellOfPair : ByteArray := prog_1_method_28_code
def yX9_cellOfPair : MethodName := ⟨RX9, "cellOfPair", "(I)I"⟩
abbrev cX9_isWithin : ByteArray := prog_1_method_29_code
def yX9_isWithin : MethodName := ⟨RX9, "isWithin", "(III)Z"⟩
abbrev cX9_bisimulationClass : ByteArray := prog_1_method_30_code
def yX9_bisimulationClass : MethodName := ⟨RX9, "bisimulationClass", "(I)I"⟩
abbrev cX9_bisimulationClassCount : ByteArray := prog_1_method_31_code
def yX9_bisimulationClassCount : MethodName := ⟨RX9, "bisimulationClassCount", "()I"⟩
abbrev cX9_minimize : ByteArray := prog_1_method_32_code
def yX9_minimize : MethodName := ⟨RX9, "minimize", "()I"⟩
abbrev cX9_reachWeight : ByteArray := prog_1_method_33_code
def yX9_reachWeight : MethodName := ⟨RX9, "reachWeight", "(III)J"⟩
abbrev cX9_firstReachWeight : ByteArray := prog_1_method_34_code
def yX9_firstReachWeight : MethodName := ⟨RX9, "firstReachWeight", "(III)J"⟩
abbrev cX9_sequenceWeight : ByteArray := prog_1_method_35_code
def yX9_sequenceWeight : MethodName := ⟨RX9, "sequenceWeight", "(I)J"⟩
abbrev cX9_sample : ByteArray := prog_1_method_36_code
def yX9_sample : MethodName := ⟨RX9, "sample", "(III)I"⟩
abbrev cX9_sampledVisits : ByteArray := prog_1_method_37_code
def yX9_sampledVisits : MethodName := ⟨RX9, "sampledVisits", "(IIII)I"⟩
abbrev cX9_nextSeed : ByteArray := prog_1_method_38_code
def yX9_nextSeed : MethodName := ⟨RX9, "nextSeed", "(I)I"⟩
abbrev cX9_append : ByteArray := prog_1_method_39_code
def yX9_append : MethodName := ⟨RX9, "append", "(II)I"⟩
abbrev cX9_byteAt : ByteArray := prog_1_method_40_code
def yX9_byteAt : MethodName := ⟨RX9, "byteAt", "(II)I"⟩
abbrev cX9_clearInput : ByteArray := prog_1_method_41_code
def yX9_clearInput : MethodName := ⟨RX9, "clearInput", "()I"⟩
abbrev cX9_parse : ByteArray := prog_1_method_42_code
def yX9_parse : MethodName := ⟨RX9, "parse", "()I"⟩
abbrev cX9_allocate : ByteArray := prog_1_method_43_code
def yX9_allocate : MethodName := ⟨RX9, "allocate", "(III)I"⟩
abbrev cX9_release : ByteArray := prog_1_method_44_code
def yX9_release : MethodName := ⟨RX9, "release", "(I)I"⟩
abbrev cX9_putElement : ByteArray := prog_1_method_45_code
def yX9_putElement : MethodName := ⟨RX9, "putElement", "(IIJ)I"⟩
abbrev cX9_element : ByteArray := prog_1_method_46_code
def yX9_element : MethodName := ⟨RX9, "element", "(II)J"⟩
abbrev cX9_copyElements : ByteArray := prog_1_method_47_code
def yX9_copyElements : MethodName := ⟨RX9, "copyElements", "(IIIII)I"⟩
abbrev cX9_compareWithArray : ByteArray := prog_1_method_48_code
def yX9_compareWithArray : MethodName := ⟨RX9, "compareWithArray", "(I)I"⟩
abbrev cX9_isSlot : ByteArray := prog_1_method_49_code
def yX9_isSlot : MethodName := ⟨RX9, "isSlot", "(I)Z"⟩
abbrev cX9_snapshot : ByteArray := prog_1_method_50_code
def yX9_snapshot : MethodName := ⟨RX9, "snapshot", "()I"⟩
abbrev cX9_restore : ByteArray := prog_1_method_51_code
def yX9_restore : MethodName := ⟨RX9, "restore", "()I"⟩
def RX10 : String := "MarkovChainDistancesModel"
def TX10 : u_T := fun k => match k with
  | 0 => ("MarkovChainDistancesModel", "now", "[I", true)
  | 1 => ("MarkovChainDistancesModel", "edits", "[I", true)
  | 2 => ("MarkovChainDistancesModel", "editCount", "I", false)
  | 3 => ("MarkovChainDistancesModel", "saved", "[I", true)
  | 4 => ("MarkovChainDistancesModel", "hasSnapshot", "Z", false)
  | 5 => ("MarkovChainDistancesModel", "before", "[I", true)
  | 6 => ("MarkovChainDistancesModel", "distance", "[J", true)
  | 7 => ("MarkovChainDistancesModel", "next", "[J", true)
  | 8 => ("MarkovChainDistancesModel", "flow", "[I", true)
  | 9 => ("MarkovChainDistancesModel", "fixed", "[Z", true)
  | 10 => ("MarkovChainDistancesModel", "reach", "[J", true)
  | 11 => ("MarkovChainDistancesModel", "cameFrom", "[I", true)
  | 12 => ("MarkovChainDistancesModel", "classOf", "[I", true)
  | 13 => ("MarkovChainDistancesModel", "refined", "[I", true)
  | 14 => ("MarkovChainDistancesModel", "classCount", "I", false)
  | 15 => ("MarkovChainDistancesModel", "paths", "[J", true)
  | 16 => ("MarkovChainDistancesModel", "longer", "[J", true)
  | 17 => ("MarkovChainDistancesModel", "buffer", "[I", true)
  | 18 => ("MarkovChainDistancesModel", "length", "I", false)
  | 19 => ("MarkovChainDistancesModel", "visits", "I", false)
  | 20 => ("MarkovChainDistancesModel", "position", "I", false)
  | 21 => ("MarkovChainDistancesModel", "isMalformed", "Z", false)
  | 22 => ("MarkovChainDistancesModel", "parsedResolution", "I", false)
  | 23 => ("MarkovChainDistancesModel", "parsedStates", "I", false)
  | 24 => ("MarkovChainDistancesModel", "parsedLabel", "[I", true)
  | 25 => ("MarkovChainDistancesModel", "parsedWeight", "[I", true)
  | 26 => ("MarkovChainDistancesModel", "wrongSuccessor", "[Z", true)
  | 27 => ("MarkovChainDistancesModel", "kinds", "[I", true)
  | 28 => ("MarkovChainDistancesModel", "sizes", "[I", true)
  | _ => ("MarkovChainDistancesModel", "elements", "[J", true)
def tyX10 : Nat → FieldType := fun k => match k with
  | 0 => .array .int
  | 1 => .array .int
  | 2 => .int
  | 3 => .array .int
  | 4 => .boolean
  | 5 => .array .int
  | 6 => .array .long
  | 7 => .array .long
  | 8 => .array .int
  | 9 => .array .boolean
  | 10 => .array .long
  | 11 => .array .int
  | 12 => .array .int
  | 13 => .array .int
  | 14 => .int
  | 15 => .array .long
  | 16 => .array .long
  | 17 => .array .int
  | 18 => .int
  | 19 => .int
  | 20 => .int
  | 21 => .boolean
  | 22 => .int
  | 23 => .int
  | 24 => .array .int
  | 25 => .array .int
  | 26 => .array .boolean
  | 27 => .array .int
  | 28 => .array .int
  | _ => .array .long
theorem nmX10 : ∀ a, a < 30 → ∀ b, b < 30 → a ≠ b → (TX10 a).2.1 ≠ (TX10 b).2.1 := by decide +kernel
theorem tyX10_ok : ∀ k, k < 30 → parseFieldDescriptor (TX10 k).2.2.1 = some (tyX10 k) := by decide +kernel
abbrev cX10_init : ByteArray := prog_12_method_1_code
def yX10_init : MethodName := ⟨RX10, "<init>", "()V"⟩
abbrev cX10_in : ByteArray := prog_12_method_2_code
def yX10_in : MethodName := ⟨RX10, "in", "(JJJ)Z"⟩
abbrev cX10_isState : ByteArray := prog_12_method_3_code
def yX10_isState : MethodName := ⟨RX10, "isState", "(I)Z"⟩
abbrev cX10_w : ByteArray := prog_12_method_4_code
def yX10_w : MethodName := ⟨RX10, "w", "(II)I"⟩
abbrev cX10_setWeight : ByteArray := prog_12_method_5_code
def yX10_setWeight : MethodName := ⟨RX10, "setWeight", "(III)V"⟩
abbrev cX10_initialize : ByteArray := prog_12_method_6_code
def yX10_initialize : MethodName := ⟨RX10, lw_ini, "(II)V"⟩
abbrev cX10_reset : ByteArray := prog_12_method_7_code
def yX10_reset : MethodName := ⟨RX10, "reset", "(II)I"⟩
abbrev cX10_states : ByteArray := prog_12_method_8_code
def yX10_states : MethodName := ⟨RX10, "states", "()I"⟩
abbrev cX10_resolution : ByteArray := prog_12_method_9_code
def yX10_resolution : MethodName := ⟨RX10, "resolution", "()I"⟩
abbrev cX10_begin : ByteArray := prog_12_method_10_code
def yX10_begin : MethodName := ⟨RX10, "begin", "()V"⟩
abbrev cX10_record : ByteArray := prog_12_method_11_code
def yX10_record : MethodName := ⟨RX10, "record", "()Z"⟩
abbrev cX10_setLabel : ByteArray := prog_12_method_12_code
def yX10_setLabel : MethodName := ⟨RX10, "setLabel", "(II)I"⟩
abbrev cX10_label : ByteArray := prog_12_method_13_code
def yX10_label : MethodName := ⟨RX10, "label", "(I)I"⟩
abbrev cX10_moveWeight : ByteArray := prog_12_method_14_code
def yX10_moveWeight : MethodName := ⟨RX10, "moveWeight", "(IIII)I"⟩
abbrev cX10_weight : ByteArray := prog_12_method_15_code
def yX10_weight : MethodName := ⟨RX10, "weight", "(II)I"⟩
abbrev cX10_setDiscount : ByteArray := prog_12_method_16_code
def yX10_setDiscount : MethodName := ⟨RX10, "setDiscount", "(II)I"⟩
abbrev cX10_swapStates : ByteArray := prog_12_method_17_code
def yX10_swapStates : MethodName := ⟨RX10, "swapStates", "(II)I"⟩
abbrev cX10_undo : ByteArray := prog_12_method_18_code
def yX10_undo : MethodName := ⟨RX10, "undo", "()I"⟩
abbrev cX10_editCount : ByteArray := prog_12_method_19_code
def yX10_editCount : MethodName := ⟨RX10, "editCount", "()I"⟩
abbrev cX10_unit : ByteArray := prog_12_method_20_code
def yX10_unit : MethodName := ⟨RX10, "unit", "()I"⟩
abbrev cX10_scale : ByteArray := prog_12_method_21_code
def yX10_scale : MethodName := ⟨RX10, "scale", "(I)J"⟩
abbrev cX10_maximumDepth : ByteArray := prog_12_method_22_code
def yX10_maximumDepth : MethodName := ⟨RX10, "maximumDepth", "()I"⟩
abbrev cX10_d : ByteArray := prog_12_method_23_code
def yX10_d : MethodName := ⟨RX10, "d", "(II)J"⟩
abbrev cX10_computeDistances : ByteArray := prog_12_method_24_code
def yX10_computeDistances : MethodName := ⟨RX10, "computeDistances", "(I)V"⟩
abbrev cX10_f : ByteArray := prog_12_method_25_code
def yX10_f : MethodName := ⟨RX10, "f", "(II)I"⟩
abbrev cX10_fill : ByteArray := prog_12_method_26_code
def yX10_fill : MethodName := ⟨RX10, "fill", "(II)V"⟩
abbrev cX10_relax : ByteArray := prog_12_method_27_code
def yX10_relax : MethodName := ⟨RX10, "relax", "()I"⟩
abbrev cX10_shift : ByteArray := prog_12_method_28_code
def yX10_shift : MethodName := ⟨RX10, "shift", "(II)V"⟩
abbrev cX10_cancel : ByteArray := prog_12_method_29_code
def yX10_cancel : MethodName := ⟨RX10, "cancel", "()Z"⟩
abbrev cX10_optimize : ByteArray := prog_12_method_30_code
def yX10_optimize : MethodName := ⟨RX10, "optimize", "(II)V"⟩
abbrev cX10_minimumCost : ByteArray := prog_12_method_31_code
def yX10_minimumCost : MethodName := ⟨RX10, "minimumCost", "(II)J"⟩
abbrev cX10_lower : ByteArray := prog_12_method_32_code
def yX10_lower : MethodName := ⟨RX10, "lower", "(II)Z"⟩
abbrev cX10_canonicalCoupling : ByteArray := prog_12_method_33_code
def yX10_canonicalCoupling : MethodName := ⟨RX10, "canonicalCoupling", "(II)V"⟩
abbrev cX10_isDepth : ByteArray := prog_12_method_34_code
def yX10_isDepth : MethodName := ⟨RX10, "isDepth", "(I)Z"⟩
abbrev cX10_divisor : ByteArray := prog_12_method_35_code
def yX10_divisor : MethodName := ⟨RX10, "divisor", "(JJ)J"⟩
abbrev cX10_fraction : ByteArray := prog_12_method_36_code
def yX10_fraction : MethodName := ⟨RX10, "fraction", "(IIIZ)J"⟩
abbrev cX10_distanceNumerator : ByteArray := prog_12_method_37_code
def yX10_distanceNumerator : MethodName := ⟨RX10, "distanceNumerator", "(III)J"⟩
abbrev cX10_distanceDenominator : ByteArray := prog_12_method_38_code
def yX10_distanceDenominator : MethodName := ⟨RX10, "distanceDenominator", "(III)J"⟩
abbrev cX10_isPair : ByteArray := prog_12_method_39_code
def yX10_isPair : MethodName := ⟨RX10, "isPair", "(I)Z"⟩
abbrev cX10_compareDistances : ByteArray := prog_12_method_40_code
def yX10_compareDistances : MethodName := ⟨RX10, "compareDistances", "(III)I"⟩
abbrev cX10_farthestPair : ByteArray := prog_12_method_41_code
def yX10_farthestPair : MethodName := ⟨RX10, "farthestPair", "(I)I"⟩
abbrev cX10_coupling : ByteArray := prog_12_method_42_code
def yX10_coupling : MethodName := ⟨RX10, "coupling", "(IIII)I"⟩
abbrev cX10_distributionDistance : ByteArray := prog_12_method_43_code
def yX10_distributionDistance : MethodName := ⟨RX10, "distributionDistance", "(III)I"⟩
abbrev cX10_weightToClass : ByteArray := prog_12_method_44_code
def yX10_weightToClass : MethodName := ⟨RX10, "weightToClass", "(II)I"⟩
abbrev cX10_areAlike : ByteArray := prog_12_method_45_code
def yX10_areAlike : MethodName := ⟨RX10, "areAlike", "(II)Z"⟩
abbrev cX10_number : ByteArray := prog_12_method_46_code
def yX10_number : MethodName := ⟨RX10, "number", "(Z)I"⟩
abbrev cX10_computeClasses : ByteArray := prog_12_method_47_code
def yX10_computeClasses : MethodName := ⟨RX10, "computeClasses", "()V"⟩
abbrev cX10_bisimulationClass : ByteArray := prog_12_method_48_code
def yX10_bisimulationClass : MethodName := ⟨RX10, "bisimulationClass", "(I)I"⟩
abbrev cX10_bisimulationClassCount : ByteArray := prog_12_method_49_code
def yX10_bisimulationClassCount : MethodName := ⟨RX10, "bisimulationClassCount", "()I"⟩
abbrev cX10_minimize : ByteArray := prog_12_method_50_code
def yX10_minimize : MethodName := ⟨RX10, "minimize", "()I"⟩
abbrev cX10_isIn : ByteArray := prog_12_method_51_code
def yX10_isIn : MethodName := ⟨RX10, "isIn", "(II)Z"⟩
abbrev cX10_step : ByteArray := prog_12_method_52_code
def yX10_step : MethodName := ⟨RX10, "step", "()V"⟩
abbrev cX10_isQuery : ByteArray := prog_12_method_53_code
def yX10_isQuery : MethodName := ⟨RX10, "isQuery", "(III)Z"⟩
abbrev cX10_reachWeight : ByteArray := prog_12_method_54_code
def yX10_reachWeight : MethodName := ⟨RX10, "reachWeight", "(III)J"⟩
abbrev cX10_firstReachWeight : ByteArray := prog_12_method_55_code
def yX10_firstReachWeight : MethodName := ⟨RX10, "firstReachWeight", "(III)J"⟩
abbrev cX10_sequenceWeight : ByteArray := prog_12_method_56_code
def yX10_sequenceWeight : MethodName := ⟨RX10, "sequenceWeight", "(I)J"⟩
abbrev cX10_walk : ByteArray := prog_12_method_57_code
def yX10_walk : MethodName := ⟨RX10, "walk", "(IIII)I"⟩
abbrev cX10_sample : ByteArray := prog_12_method_58_code
def yX10_sample : MethodName := ⟨RX10, "sample", "(III)I"⟩
abbrev cX10_sampledVisits : ByteArray := prog_12_method_59_code
def yX10_sampledVisits : MethodName := ⟨RX10, "sampledVisits", "(IIII)I"⟩
abbrev cX10_append : ByteArray := prog_12_method_60_code
def yX10_append : MethodName := ⟨RX10, "append", "(II)I"⟩
abbrev cX10_clearInput : ByteArray := prog_12_method_61_code
def yX10_clearInput : MethodName := ⟨RX10, "clearInput", "()I"⟩
abbrev cX10_isNext : ByteArray := prog_12_method_62_code
def yX10_isNext : MethodName := ⟨RX10, "isNext", "(II)Z"⟩
abbrev cX10_accept : ByteArray := prog_12_method_63_code
def yX10_accept : MethodName := ⟨RX10, "accept", "(I)Z"⟩
abbrev cX10_expect : ByteArray := prog_12_method_64_code
def yX10_expect : MethodName := ⟨RX10, "expect", "(I)V"⟩
abbrev cX10_number_ : ByteArray := prog_12_method_65_code
def yX10_number_ : MethodName := ⟨RX10, "number", "(I)I"⟩
abbrev cX10_parseState : ByteArray := prog_12_method_66_code
def yX10_parseState : MethodName := ⟨RX10, "parseState", "()V"⟩
abbrev cX10_parseChain : ByteArray := prog_12_method_67_code
def yX10_parseChain : MethodName := ⟨RX10, "parseChain", "()V"⟩
abbrev cX10_isConsistent : ByteArray := prog_12_method_68_code
def yX10_isConsistent : MethodName := ⟨RX10, "isConsistent", "()Z"⟩
abbrev cX10_hasWrongSuccessor : ByteArray := prog_12_method_69_code
def yX10_hasWrongSuccessor : MethodName := ⟨RX10, "hasWrongSuccessor", "(I)Z"⟩
abbrev cX10_findWrongSuccessors : ByteArray := prog_12_method_70_code
def yX10_findWrongSuccessors : MethodName := ⟨RX10, "findWrongSuccessors", "()V"⟩
abbrev cX10_parse : ByteArray := prog_12_method_71_code
def yX10_parse : MethodName := ⟨RX10, "parse", "()I"⟩
abbrev cX10_isSlot : ByteArray := prog_12_method_72_code
def yX10_isSlot : MethodName := ⟨RX10, "isSlot", "(I)Z"⟩
abbrev cX10_allocate : ByteArray := prog_12_method_73_code
def yX10_allocate : MethodName := ⟨RX10, "allocate", "(III)I"⟩
abbrev cX10_release : ByteArray := prog_12_method_74_code
def yX10_release : MethodName := ⟨RX10, "release", "(I)I"⟩
abbrev cX10_narrow : ByteArray := prog_12_method_75_code
def yX10_narrow : MethodName := ⟨RX10, "narrow", "(IJ)J"⟩
abbrev cX10_putElement : ByteArray := prog_12_method_76_code
def yX10_putElement : MethodName := ⟨RX10, "putElement", "(IIJ)I"⟩
abbrev cX10_element : ByteArray := prog_12_method_77_code
def yX10_element : MethodName := ⟨RX10, "element", "(II)J"⟩
abbrev cX10_copyElements : ByteArray := prog_12_method_78_code
def yX10_copyElements : MethodName := ⟨RX10, "copyElements", "(IIIII)I"⟩
abbrev cX10_compareWithArray : ByteArray := prog_12_method_79_code
def yX10_compareWithArray : MethodName := ⟨RX10, "compareWithArray", "(I)I"⟩
abbrev cX10_snapshot : ByteArray := prog_12_method_80_code
def yX10_snapshot : MethodName := ⟨RX10, "snapshot", "()I"⟩
abbrev cX10_restore : ByteArray := prog_12_method_81_code
def yX10_restore : MethodName := ⟨RX10, "restore", "()I"⟩
def RJ9 : String := "java/lang/Math"
def TJ9 : u_T := fun k => match k with
  | _ => ("", "", "", false)
def tyJ9 : Nat → FieldType := fun k => match k with
  | _ => .int
abbrev wsJ90 : List Cond := u_ws RJ9 TJ9 0
theorem nmJ9 : ∀ a, a < 0 → ∀ b, b < 0 → a ≠ b → (TJ9 a).2.1 ≠ (TJ9 b).2.1 := by decide +kernel
theorem tyJ9_ok : ∀ k, k < 0 → parseFieldDescriptor (TJ9 k).2.2.1 = some (tyJ9 k) := by decide +kernel
abbrev cJ9_abs_0f7a4 : ByteArray := prog_13_method_59_code
def yJ9_abs_0f7a4 : MethodName := ⟨RJ9, "abs", "(I)I"⟩
abbrev cJ9_max_7cf53 : ByteArray := prog_13_method_65_code
def yJ9_max_7cf53 : MethodName := ⟨RJ9, "max", "(II)I"⟩
abbrev cJ9_min_7cf53 : ByteArray := prog_13_method_69_code
def yJ9_min_7cf53 : MethodName := ⟨RJ9, "min", "(II)I"⟩
def RJ10 : String := "java/lang/System"
def TJ10 : u_T := fun k => match k with
  | _ => ("", "", "", false)
def tyJ10 : Nat → FieldType := fun k => match k with
  | _ => .int
abbrev wsJ100 : List Cond := u_ws RJ10 TJ10 0
theorem nmJ10 : ∀ a, a < 0 → ∀ b, b < 0 → a ≠ b → (TJ10 a).2.1 ≠ (TJ10 b).2.1 := by decide +kernel
theorem tyJ10_ok : ∀ k, k < 0 → parseFieldDescriptor (TJ10 k).2.2.1 = some (tyJ10 k) := by decide +kernel
def RL : String := "MarkovChainDistancesLaw"
abbrev cL_law : ByteArray := code
def yL_law : MethodName := ⟨RL, "law", "([I)Z"⟩
def vwCl : List vw_C := [(RX0, TX0, 3), (RX1, TX1, 6), (RX2, TX2, 8), (RX3, TX3, 5), (RX4, TX4, 3), (RX5, TX5, 2), (RX6, TX6, 3), (RX7, TX7, 2), (RX8, TX8, 9), (RX9, TX9, 11), (RX10, TX10, 30)]

/-! THE LAW: its loop -/
theorem len6 {L i : Nat} (hL : L ≤ 3072) (hi : i ≤ 3072) (h : ¬ (Int32.ofNat L - 6 < nI i)) : i + 6 ≤ L := by
  by_cases h6 : 6 ≤ L
  · have e : Int32.ofNat L - 6 = nI (L - 6) := eq_sub (a := L) (b := 6) rfl rfl h6
    rw [e, nI_ltI (by omega) (by omega)] at h
    omega
  · exfalso
    apply h
    have a1 : Int32.ofNat L - 6 < 0 := (show ∀ L, L < 6 → Int32.ofNat L - 6 < 0 by decide) L (by omega)
    rw [Int32.lt_iff_toInt_lt] at a1 ⊢
    rw [nI_ti (by omega)]
    have : (0 : Int32).toInt = 0 := by decide
    omega
theorem sw37 (x : Int32) : (x.toInt < 0 ∨ 36 < x.toInt) ∨ ∃ j : Nat, j < 37 ∧ x.toInt = (j : Int) := by
  by_cases h : x.toInt < 0 ∨ 36 < x.toInt
  · exact Or.inl h
  · exact Or.inr ⟨x.toInt.toNat, by omega, by omega⟩
def QL : aPost := fun r _ _ _ => r = some (.int 1)
theorem law_loop {L : Nat} {xs : Nat → Int32} {al : Nat × Nat} (hL : L ≤ 3072) : ∀ (k i : Nat), L < i + k → i ≤ 3072 → ∀ (T : TS) (I : aI) (J : aJ), WT T → CP T I J → MP T I J → Ex (m_L_law L xs) 10 600000 7302250 0 al 18 [some (.ref 0), some (.ref 1), some (.ref 93), some (.int (nI i))] [] E0 I J QL := by
  intro k
  induction k with
  | zero =>
    intro i hk hi T I J W hC hM
    refine Ex.blk (B_L_law_18 L xs) (lo' := [some (.ref 0), some (.ref 1), some (.ref 93), some (.int (nI i))]) (st' := [.int (Int32.ofNat L - 6), .int (nI i)]) (I' := I) (J' := J) (Ps := []) rfl trivial ?_
    refine Ex.icmp_gt (off := 1335) (tgt := 1359) (show decode code 24 = .ok (.if_icmp .gt 1335, 3) by decide +kernel) (by decide) (fun _ => ?_) (fun h => absurd (len6 hL hi h) (by omega))
    refine Ex.blk (B_L_law_1359 L xs) (lo' := [some (.ref 0), some (.ref 1), some (.ref 93), some (.int (nI i))]) (st' := [.int 1]) (I' := I) (J' := J) (Ps := []) rfl trivial ?_
    exact Ex.zret rfl (Or.inr rfl) (show decode code 1360 = .ok (.ireturn, 1) by decide +kernel) rfl
  | succ k ih =>
    intro i hk hi T I J W hC hM
    refine Ex.blk (B_L_law_18 L xs) (lo' := [some (.ref 0), some (.ref 1), some (.ref 93), some (.int (nI i))]) (st' := [.int (Int32.ofNat L - 6), .int (nI i)]) (I' := I) (J' := J) (Ps := []) rfl trivial ?_
    refine Ex.icmp_gt (off := 1335) (tgt := 1359) (show decode code 24 = .ok (.if_icmp .gt 1335, 3) by decide +kernel) (by decide) (fun _ => ?_) (fun h => ?_)
    · refine Ex.blk (B_L_law_1359 L xs) (lo' := [some (.ref 0), some (.ref 1), some (.ref 93), some (.int (nI i))]) (st' := [.int 1]) (I' := I) (J' := J) (Ps := []) rfl trivial ?_
      exact Ex.zret rfl (Or.inr rfl) (show decode code 1360 = .ok (.ireturn, 1) by decide +kernel) rfl
    · have h6 := len6 hL hi h
      have hS : ∀ (T : TS) (I : aI) (J : aJ), WT T → CP T I J → MP T I J → Ex (m_L_law L xs) 10 600000 7302250 0 al 1353 [some (.ref 0), some (.ref 1), some (.ref 93), some (.int (nI i))] [] E0 I J QL := by
        intro T I J W hC hM
        refine Ex.blk (B_L_law_1353 L xs) (lo' := [some (.ref 0), some (.ref 1), some (.ref 93), some (.int (nI i + 6))]) (st' := []) (I' := I) (J' := J) (Ps := []) rfl trivial ?_
        rw [show nI i + 6 = nI (i + 6) from eq_add (a := i) (b := 6) rfl rfl]
        exact ih (i + 6) (by omega) (by omega) T I J W hC hM
      have hsw : decode (m_L_law L xs).2.1 33 = .ok (.tableswitch 1320 0 36 #[163, 196, 209, 222, 255, 278, 331, 364, 397, 430, 443, 456, 469, 513, 557, 600, 623, 676, 719, 742, 755, 768, 812, 856, 880, 923, 976, 1009, 1022, 1035, 1078, 1101, 1174, 1208, 1271, 1294, 1307], 163) := (show decode code 33 = .ok (.tableswitch 1320 0 36 #[163, 196, 209, 222, 255, 278, 331, 364, 397, 430, 443, 456, 469, 513, 557, 600, 623, 676, 719, 742, 755, 768, 812, 856, 880, 923, 976, 1009, 1022, 1035, 1078, 1101, 1174, 1208, 1271, 1294, 1307], 163) by decide +kernel)
      refine Ex.blk (B_L_law_27 L xs) (lo' := [some (.ref 0), some (.ref 1), some (.ref 93), some (.int (nI i))]) (st' := [.int (xs (nI i).toNatClampNeg &&& 63)]) (I' := I) (J' := J) (Ps := [vp_in (nI i) L]) rfl (vin (n := i) rfl (by omega) (by omega)) ?_
      generalize xs (nI i).toNatClampNeg &&& 63 = x
      rcases sw37 x with hx | ⟨j, hj, hx⟩
      · exact Ex.tabOut (tgt := 1353) hsw hx (by decide) (hS T I J W hC hM)
      · match j, hj, hx with
        | 0, _, hx => exact Ex.tabIn (off := 163) (tgt := 196) hsw (by omega) (by omega) (by rw [hx]; decide) (by decide) (law_0 h6 hL W hC hM hS)
        | 1, _, hx => exact Ex.tabIn (off := 196) (tgt := 229) hsw (by omega) (by omega) (by rw [hx]; decide) (by decide) (law_1 h6 hL W hC hM hS)
        | 2, _, hx => exact Ex.tabIn (off := 209) (tgt := 242) hsw (by omega) (by omega) (by rw [hx]; decide) (by decide) (law_2 h6 hL W hC hM hS)
        | 3, _, hx => exact Ex.tabIn (off := 222) (tgt := 255) hsw (by omega) (by omega) (by rw [hx]; decide) (by decide) (law_3 h6 hL W hC hM hS)
        | 4, _, hx => exact Ex.tabIn (off := 255) (tgt := 288) hsw (by omega) (by omega) (by rw [hx]; decide) (by decide) (law_4 h6 hL W hC hM hS)
        | 5, _, hx => exact Ex.tabIn (off := 278) (tgt := 311) hsw (by omega) (by omega) (by rw [hx]; decide) (by decide) (law_5 h6 hL W hC hM hS)
        | 6, _, hx => exact Ex.tabIn (off := 331) (tgt := 364) hsw (by omega) (by omega) (by rw [hx]; decide) (by decide) (law_6 h6 hL W hC hM hS)
        | 7, _, hx => exact Ex.tabIn (off := 364) (tgt := 397) hsw (by omega) (by omega) (by rw [hx]; decide) (by decide) (law_7 h6 hL W hC hM hS)
        | 8, _, hx => exact Ex.tabIn (off := 397) (tgt := 430) hsw (by omega) (by omega) (by rw [hx]; decide) (by decide) (law_8 h6 hL W hC hM hS)
        | 9, _, hx => exact Ex.tabIn (off := 430) (tgt := 463) hsw (by omega) (by omega) (by rw [hx]; decide) (by decide) (law_9 h6 hL W hC hM hS)
        | 10, _, hx => exact Ex.tabIn (off := 443) (tgt := 476) hsw (by omega) (by omega) (by rw [hx]; decide) (by decide) (law_10 h6 hL W hC hM hS)
        | 11, _, hx => exact Ex.tabIn (off := 456) (tgt := 489) hsw (by omega) (by omega) (by rw [hx]; decide) (by decide) (law_11 h6 hL W hC hM hS)
        | 12, _, hx => exact Ex.tabIn (off := 469) (tgt := 502) hsw (by omega) (by omega) (by rw [hx]; decide) (by decide) (law_12 h6 hL W hC hM hS)
        | 13, _, hx => exact Ex.tabIn (off := 513) (tgt := 546) hsw (by omega) (by omega) (by rw [hx]; decide) (by decide) (law_13 h6 hL W hC hM hS)
        | 14, _, hx => exact Ex.tabIn (off := 557) (tgt := 590) hsw (by omega) (by omega) (by rw [hx]; decide) (by decide) (law_14 h6 hL W hC hM hS)
        | 15, _, hx => exact Ex.tabIn (off := 600) (tgt := 633) hsw (by omega) (by omega) (by rw [hx]; decide) (by decide) (law_15 h6 hL W hC hM hS)
        | 16, _, hx => exact Ex.tabIn (off := 623) (tgt := 656) hsw (by omega) (by omega) (by rw [hx]; decide) (by decide) (law_16 h6 hL W hC hM hS)
        | 17, _, hx => exact Ex.tabIn (off := 676) (tgt := 709) hsw (by omega) (by omega) (by rw [hx]; decide) (by decide) (law_17 h6 hL W hC hM hS)
        | 18, _, hx => exact Ex.tabIn (off := 719) (tgt := 752) hsw (by omega) (by omega) (by rw [hx]; decide) (by decide) (law_18 h6 hL W hC hM hS)
        | 19, _, hx => exact Ex.tabIn (off := 742) (tgt := 775) hsw (by omega) (by omega) (by rw [hx]; decide) (by decide) (law_19 h6 hL W hC hM hS)
        | 20, _, hx => exact Ex.tabIn (off := 755) (tgt := 788) hsw (by omega) (by omega) (by rw [hx]; decide) (by decide) (law_20 h6 hL W hC hM hS)
        | 21, _, hx => exact Ex.tabIn (off := 768) (tgt := 801) hsw (by omega) (by omega) (by rw [hx]; decide) (by decide) (law_21 h6 hL W hC hM hS)
        | 22, _, hx => exact Ex.tabIn (off := 812) (tgt := 845) hsw (by omega) (by omega) (by rw [hx]; decide) (by decide) (law_22 h6 hL W hC hM hS)
        | 23, _, hx => exact Ex.tabIn (off := 856) (tgt := 889) hsw (by omega) (by omega) (by rw [hx]; decide) (by decide) (law_23 h6 hL W hC hM hS)
        | 24, _, hx => exact Ex.tabIn (off := 880) (tgt := 913) hsw (by omega) (by omega) (by rw [hx]; decide) (by decide) (law_24 h6 hL W hC hM hS)
        | 25, _, hx => exact Ex.tabIn (off := 923) (tgt := 956) hsw (by omega) (by omega) (by rw [hx]; decide) (by decide) (law_25 h6 hL W hC hM hS)
        | 26, _, hx => exact Ex.tabIn (off := 976) (tgt := 1009) hsw (by omega) (by omega) (by rw [hx]; decide) (by decide) (law_26 h6 hL W hC hM hS)
        | 27, _, hx => exact Ex.tabIn (off := 1009) (tgt := 1042) hsw (by omega) (by omega) (by rw [hx]; decide) (by decide) (law_27 h6 hL W hC hM hS)
        | 28, _, hx => exact Ex.tabIn (off := 1022) (tgt := 1055) hsw (by omega) (by omega) (by rw [hx]; decide) (by decide) (law_28 h6 hL W hC hM hS)
        | 29, _, hx => exact Ex.tabIn (off := 1035) (tgt := 1068) hsw (by omega) (by omega) (by rw [hx]; decide) (by decide) (law_29 h6 hL W hC hM hS)
        | 30, _, hx => exact Ex.tabIn (off := 1078) (tgt := 1111) hsw (by omega) (by omega) (by rw [hx]; decide) (by decide) (law_30 h6 hL W hC hM hS)
        | 31, _, hx => exact Ex.tabIn (off := 1101) (tgt := 1134) hsw (by omega) (by omega) (by rw [hx]; decide) (by decide) (law_31 h6 hL W hC hM hS)
        | 32, _, hx => exact Ex.tabIn (off := 1174) (tgt := 1207) hsw (by omega) (by omega) (by rw [hx]; decide) (by decide) (law_32 h6 hL W hC hM hS)
        | 33, _, hx => exact Ex.tabIn (off := 1208) (tgt := 1241) hsw (by omega) (by omega) (by rw [hx]; decide) (by decide) (law_33 h6 hL W hC hM hS)
        | 34, _, hx => exact Ex.tabIn (off := 1271) (tgt := 1304) hsw (by omega) (by omega) (by rw [hx]; decide) (by decide) (law_34 h6 hL W hC hM hS)
        | 35, _, hx => exact Ex.tabIn (off := 1294) (tgt := 1327) hsw (by omega) (by omega) (by rw [hx]; decide) (by decide) (law_35 h6 hL W hC hM hS)
        | 36, _, hx => exact Ex.tabIn (off := 1307) (tgt := 1340) hsw (by omega) (by omega) (by rw [hx]; decide) (by decide) (law_36 h6 hL W hC hM hS)
        | n + 37, hj, _ => exact absurd hj (by omega)
/-- from its entry: both objects are made, then the loop -/
theorem law_all {L : Nat} {xs : Nat → Int32} (hL : L ≤ 3072) : Ex (m_L_law L xs) 10 600000 7302250 0 (600000, 7302250) 0 [some (.ref 0), none, none, none] [] (Eb 0 (fun _ _ => 0)) (fun _ _ => 0) (fun _ _ => 0) QL := by
  have hN : Nw 0 (fun _ _ => 0) (fun _ _ => 0) (fun _ _ => 0) := ⟨fun _ _ => Nat.le_refl _, fun _ _ _ => ⟨rfl, rfl, rfl⟩⟩
  refine Ex.mkO (x := 599999) (y := 7302239) (n' := 1) tyX9 (ci := 9) rfl cK_9 tyX9_ok cl_L_7 it_9 in_9 (by decide +kernel) rfl (show decode code 0 = .ok (.new 7, 3) by decide +kernel) hN rfl (by decide +kernel) ⟨bd_n, bl_r (by omega) (bl_o (bl_o (bl_o bl_n)))⟩ (fun hN1 => ?_)
  refine Ex.blk (B_L_law_3 L xs) (lo' := [some (.ref 0), none, none, none]) (st' := [.ref 1, .ref 1]) (I' := fun _ _ => 0) (J' := fun _ _ => 0) (Ps := []) rfl trivial ?_
  refine Ex.callI (γ' := m_X9_init) (mc' := 91) (ms' := 1775) (As := []) (b := 1) (rest := [.ref 1]) kn_X9_init rfl ml_L_9 im_X9_init rfl (show decode code 4 = .ok (.invokespecial 9, 3) by decide +kernel) rfl rfl (by decide) (by decide) ⟨by decide, by decide⟩ ⟨bd_r (by show 1 ≤ 1; omega) bd_n, bl_r (by show 0 ≤ 1; omega) (bl_o (bl_o (bl_o bl_n)))⟩ (k_X9 5 _ _ _ hN) (fun r E' I1 J1 q => ?_)
  obtain ⟨rfl, R1, rfl, hN2, hD, hC⟩ := q
  refine Ex.blk (B_L_law_7 L xs) (lo' := [some (.ref 0), some (.ref 1), none, none]) (st' := []) (I' := I1) (J' := J1) (Ps := []) rfl trivial ?_
  refine Ex.mkO (x := 599907) (y := 7300434) (n' := 93) tyX10 (ci := 10) rfl cK_10 tyX10_ok cl_L_10 it_10 in_10 (by decide +kernel) rfl (show decode code 8 = .ok (.new 10, 3) by decide +kernel) hN2 rfl (by decide +kernel) ⟨bd_n, bl_r (by omega) (bl_r (by omega) (bl_o (bl_o bl_n)))⟩ (fun hN3 => ?_)
  refine Ex.blk (B_L_law_11 L xs) (lo' := [some (.ref 0), some (.ref 1), none, none]) (st' := [.ref 93, .ref 93]) (I' := I1) (J' := J1) (Ps := []) rfl trivial ?_
  refine Ex.callI (γ' := m_X10_init) (mc' := 21) (ms' := 1110) (As := []) (b := 93) (rest := [.ref 93]) kn_X10_init rfl ml_L_12 im_X10_init rfl (show decode code 12 = .ok (.invokespecial 12, 3) by decide +kernel) rfl rfl (by decide) (by decide) ⟨by decide, by decide⟩ ⟨bd_r (by show 93 ≤ 93; omega) bd_n, bl_r (by show 0 ≤ 93; omega) (bl_r (by show 1 ≤ 93; omega) (bl_o (bl_o bl_n)))⟩ (k_X10 6 _ _ _ hN2 (fun b h1 h2 => hD.2 b h1 h2)) (fun r E' I2 J2 q => ?_)
  obtain ⟨rfl, rfl, hM, hF⟩ := q
  have hC2 := CP_fr hC hF
  refine Ex.blk (B_L_law_15 L xs) (lo' := [some (.ref 0), some (.ref 1), some (.ref 93), some (.int 0)]) (st' := []) (I' := I2) (J' := J2) (Ps := []) rfl trivial ?_
  exact law_loop hL (L + 1) 0 (by omega) (by omega) T0 I2 J2 WT_T0 hC2 hM

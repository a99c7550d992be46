/-! CONSTRUCTORS: the class, the reference -/
def T0 : TS := (c0, (0, fun _ _ => 0), (0, fun _ => 0), (0, fun _ => 0), (fun _ => 0, fun _ => 0, fun _ _ => 0))
theorem Wc_c0 : Wc c0 := by
  have h6 : ∀ i, i < 6 → ∀ j, j < 6 → (c0 0 ≤ i ∨ c0 0 ≤ j) → c0 (10 + 6 * i + j) = 0 := by decide +kernel
  have h5 : ∀ s, s < 6 → c0 0 ≤ s → c0 (4 + s) = 0 := by decide +kernel
  exact ⟨by decide +kernel, by decide +kernel, by decide +kernel, by decide +kernel, fun s h1 h2 => h5 s h2 h1, by decide +kernel, fun i j hi hj h => h6 i hi j hj h⟩
theorem WT_T0 : WT T0 := ⟨Wc_c0, ⟨by decide, fun i hi => absurd hi (Nat.not_lt_zero i)⟩, ⟨by decide, fun h => absurd h (by decide)⟩, ⟨by decide, fun i hi => absurd hi (Nat.not_lt_zero i)⟩, fun s _ => ⟨Nat.zero_le _, Nat.zero_le _⟩⟩
theorem ChE_1 : ChE 1 := by unfold ChE; decide +kernel
theorem ChE_4 : ChE 4 := by unfold ChE; decide +kernel
theorem ChE_7 : ChE 7 := by unfold ChE; decide +kernel
theorem k_X9 (d : Nat) (R : Nat → Nat → Nat) (I : aI) (J : aJ) (hN : Nw 0 R I J) : Ex m_X9_init (d + 4) 91 1775 1 (91, 1775) 0 (aEn 1 [.ref 1]) [] (Eb 1 R) I J (fun r E' I' J' => r = none ∧ ∃ R', E' = Eb 92 R' ∧ Nw 92 R' I' J' ∧ Dn 1 92 R R' ∧ CP T0 I' J') := by
  have hN0 := hN.new (n' := 1) (by omega)
  have hK0 := Kp.ini hN (a := 1) (by omega)
  refine Ex.blk B_X9_init_0 (lo' := [some (.ref 1)]) (st' := [.ref 1]) (I' := I) (J' := J) (Ps := []) rfl trivial ?_
  refine Ex.mkO (x := 90) (y := 1769) (n' := 2) tyX1 (ci := 1) rfl cK_1 tyX1_ok cl_9_9 it_1 in_1 (by decide +kernel) rfl (by decide +kernel) hN0 rfl (by decide +kernel) ⟨(bd_r (by show 1 ≤ 1; omega) bd_n), (bl_r (by show 1 ≤ 1; omega) bl_n)⟩ (fun hN1 => ?_)
  refine Ex.blk B_X9_init_8 (lo' := [some (.ref 1)]) (st' := [.ref 2, .ref 2, .ref 1]) (I' := I) (J' := J) (Ps := []) rfl trivial ?_
  refine Ex.callI (γ' := m_X1_init) (mc' := 2) (ms' := 42) (As := []) (b := 2) (rest := [.ref 2, .ref 1]) kn_X1_init rfl ml_9_11 im_X1_init rfl (by decide +kernel) rfl rfl (by decide) (by decide) ⟨by decide, by decide⟩ ⟨(bd_r (by show 2 ≤ 2; omega) (bd_r (by show 1 ≤ 2; omega) bd_n)), (bl_r (by show 1 ≤ 2; omega) bl_n)⟩ (k_X1 (d + 1) 1 _ _ _ hN0 ChE_1) (fun r E' I2 J2 q => ?_)
  obtain ⟨rfl, R2, rfl, hN2, hD2, rfl, hc2, hI2⟩ := q
  have hK2 := hK0.sub hD2 rfl (by omega)
  refine Ex.putR (v := 2) (a := 1) fl_9_12 rfl (fun C T N h => by cases h; rfl) (fun _ => ⟨rfl, rfl⟩) rfl (by decide +kernel) hN2 ⟨by omega, by omega⟩ (by decide +kernel) ⟨by omega, by omega⟩ (fun hN3 => ?_)
  have hK3 := hK2.put 0 2
  generalize hR3 : aUpR R2 1 0 2 = R3 at hN3 hK3 ⊢
  refine Ex.blk B_X9_init_15 (lo' := [some (.ref 1)]) (st' := [.ref 1]) (I' := I2) (J' := J2) (Ps := []) rfl trivial ?_
  refine Ex.mkO (x := 87) (y := 1721) (n' := 5) tyX1 (ci := 1) rfl cK_1 tyX1_ok cl_9_9 it_1 in_1 (by decide +kernel) rfl (by decide +kernel) hN3 rfl (by decide +kernel) ⟨(bd_r (by show 1 ≤ 4; omega) bd_n), (bl_r (by show 1 ≤ 4; omega) bl_n)⟩ (fun hN4 => ?_)
  refine Ex.blk B_X9_init_19 (lo' := [some (.ref 1)]) (st' := [.ref 5, .ref 5, .ref 1]) (I' := I2) (J' := J2) (Ps := []) rfl trivial ?_
  refine Ex.callI (γ' := m_X1_init) (mc' := 2) (ms' := 42) (As := []) (b := 5) (rest := [.ref 5, .ref 1]) kn_X1_init rfl ml_9_11 im_X1_init rfl (by decide +kernel) rfl rfl (by decide) (by decide) ⟨by decide, by decide⟩ ⟨(bd_r (by show 5 ≤ 5; omega) (bd_r (by show 1 ≤ 5; omega) bd_n)), (bl_r (by show 1 ≤ 5; omega) bl_n)⟩ (k_X1 (d + 1) 4 _ _ _ hN3 ChE_4) (fun r E' I5 J5 q => ?_)
  obtain ⟨rfl, R5, rfl, hN5, hD5, rfl, hc5, hI5⟩ := q
  have hK5 := hK3.sub hD5 rfl (by omega)
  refine Ex.putR (v := 5) (a := 1) fl_9_18 rfl (fun C T N h => by cases h; rfl) (fun _ => ⟨rfl, rfl⟩) rfl (by decide +kernel) hN5 ⟨by omega, by omega⟩ (by decide +kernel) ⟨by omega, by omega⟩ (fun hN6 => ?_)
  have hK6 := hK5.put 1 5
  generalize hR6 : aUpR R5 1 1 5 = R6 at hN6 hK6 ⊢
  refine Ex.blk B_X9_init_26 (lo' := [some (.ref 1)]) (st' := [.ref 1]) (I' := I5) (J' := J5) (Ps := []) rfl trivial ?_
  refine Ex.mkO (x := 84) (y := 1673) (n' := 8) tyX1 (ci := 1) rfl cK_1 tyX1_ok cl_9_9 it_1 in_1 (by decide +kernel) rfl (by decide +kernel) hN6 rfl (by decide +kernel) ⟨(bd_r (by show 1 ≤ 7; omega) bd_n), (bl_r (by show 1 ≤ 7; omega) bl_n)⟩ (fun hN7 => ?_)
  refine Ex.blk B_X9_init_30 (lo' := [some (.ref 1)]) (st' := [.ref 8, .ref 8, .ref 1]) (I' := I5) (J' := J5) (Ps := []) rfl trivial ?_
  refine Ex.callI (γ' := m_X1_init) (mc' := 2) (ms' := 42) (As := []) (b := 8) (rest := [.ref 8, .ref 1]) kn_X1_init rfl ml_9_11 im_X1_init rfl (by decide +kernel) rfl rfl (by decide) (by decide) ⟨by decide, by decide⟩ ⟨(bd_r (by show 8 ≤ 8; omega) (bd_r (by show 1 ≤ 8; omega) bd_n)), (bl_r (by show 1 ≤ 8; omega) bl_n)⟩ (k_X1 (d + 1) 7 _ _ _ hN6 ChE_7) (fun r E' I8 J8 q => ?_)
  obtain ⟨rfl, R8, rfl, hN8, hD8, rfl, hc8, hI8⟩ := q
  have hK8 := hK6.sub hD8 rfl (by omega)
  refine Ex.putR (v := 8) (a := 1) fl_9_21 rfl (fun C T N h => by cases h; rfl) (fun _ => ⟨rfl, rfl⟩) rfl (by decide +kernel) hN8 ⟨by omega, by omega⟩ (by decide +kernel) ⟨by omega, by omega⟩ (fun hN9 => ?_)
  have hK9 := hK8.put 2 8
  generalize hR9 : aUpR R8 1 2 8 = R9 at hN9 hK9 ⊢
  refine Ex.blk B_X9_init_37 (lo' := [some (.ref 1)]) (st' := [.ref 1]) (I' := (aUp I8 1 3 0)) (J' := J8) (Ps := [aO (Eb 10 R9) 1 9 ∧ ((0 : Int32) = 0 ∨ (0 : Int32) = 1)]) rfl ⟨⟨⟨by omega, by show 1 ≤ 10; omega⟩, o_1.2⟩, Or.inl rfl⟩ ?_
  have hNp := hN9.up (I' := (aUp I8 1 3 0)) (J' := J8) (fun b hb => aUp_ne (by omega)) (fun _ _ => rfl)
  refine Ex.mkO (x := 81) (y := 1628) (n' := 11) tyX4 (ci := 4) rfl cK_4 tyX4_ok cl_9_28 it_4 in_4 (by decide +kernel) rfl (by decide +kernel) hNp rfl (by decide +kernel) ⟨(bd_r (by show 1 ≤ 10; omega) bd_n), (bl_r (by show 1 ≤ 10; omega) bl_n)⟩ (fun hN10 => ?_)
  refine Ex.blk B_X9_init_46 (lo' := [some (.ref 1)]) (st' := [.ref 11, .ref 11, .ref 1]) (I' := (aUp I8 1 3 0)) (J' := J8) (Ps := []) rfl trivial ?_
  refine Ex.callI (γ' := m_X4_init) (mc' := 31) (ms' := 490) (As := []) (b := 11) (rest := [.ref 11, .ref 1]) kn_X4_init rfl ml_9_30 im_X4_init rfl (by decide +kernel) rfl rfl (by decide) (by decide) ⟨by decide, by decide⟩ ⟨(bd_r (by show 11 ≤ 11; omega) (bd_r (by show 1 ≤ 11; omega) bd_n)), (bl_r (by show 1 ≤ 11; omega) bl_n)⟩ (k_X4 d _ _ _ hNp) (fun r E' I11 J11 q => ?_)
  obtain ⟨rfl, R11, rfl, hN11, hD11, rfl, hI11⟩ := q
  have hK11 := hK9.sub hD11 rfl (by omega)
  refine Ex.putR (v := 11) (a := 1) fl_9_31 rfl (fun C T N h => by cases h; rfl) (fun _ => ⟨rfl, rfl⟩) rfl (by decide +kernel) hN11 ⟨by omega, by omega⟩ (by decide +kernel) ⟨by omega, by omega⟩ (fun hN12 => ?_)
  have hK12 := hK11.put 4 11
  generalize hR12 : aUpR R11 1 4 11 = R12 at hN12 hK12 ⊢
  refine Ex.blk B_X9_init_53 (lo' := [some (.ref 1)]) (st' := [.ref 1]) (I' := I11) (J' := J11) (Ps := []) rfl trivial ?_
  refine Ex.mkO (x := 49) (y := 1133) (n' := 43) tyX3 (ci := 3) rfl cK_3 tyX3_ok cl_9_35 it_3 in_3 (by decide +kernel) rfl (by decide +kernel) hN12 rfl (by decide +kernel) ⟨(bd_r (by show 1 ≤ 42; omega) bd_n), (bl_r (by show 1 ≤ 42; omega) bl_n)⟩ (fun hN13 => ?_)
  refine Ex.blk B_X9_init_57 (lo' := [some (.ref 1)]) (st' := [.ref 43, .ref 43, .ref 1]) (I' := I11) (J' := J11) (Ps := []) rfl trivial ?_
  refine Ex.callI (γ' := m_X3_init) (mc' := 30) (ms' := 773) (As := []) (b := 43) (rest := [.ref 43, .ref 1]) kn_X3_init rfl ml_9_37 im_X3_init rfl (by decide +kernel) rfl rfl (by decide) (by decide) ⟨by decide, by decide⟩ ⟨(bd_r (by show 43 ≤ 43; omega) (bd_r (by show 1 ≤ 43; omega) bd_n)), (bl_r (by show 1 ≤ 43; omega) bl_n)⟩ (k_X3 d _ _ _ hN12) (fun r E' I14 J14 q => ?_)
  obtain ⟨rfl, R14, rfl, hN14, hD14, hc14, hj14, hI14, hJ14⟩ := q
  have hK14 := hK12.sub hD14 rfl (by omega)
  refine Ex.putR (v := 43) (a := 1) fl_9_38 rfl (fun C T N h => by cases h; rfl) (fun _ => ⟨rfl, rfl⟩) rfl (by decide +kernel) hN14 ⟨by omega, by omega⟩ (by decide +kernel) ⟨by omega, by omega⟩ (fun hN15 => ?_)
  have hK15 := hK14.put 5 43
  generalize hR15 : aUpR R14 1 5 43 = R15 at hN15 hK15 ⊢
  refine Ex.blk B_X9_init_64 (lo' := [some (.ref 1)]) (st' := [.ref 1]) (I' := I14) (J' := J14) (Ps := []) rfl trivial ?_
  refine Ex.mkO (x := 18) (y := 357) (n' := 74) tyX6 (ci := 6) rfl cK_6 tyX6_ok cl_9_42 it_6 in_6 (by decide +kernel) rfl (by decide +kernel) hN15 rfl (by decide +kernel) ⟨(bd_r (by show 1 ≤ 73; omega) bd_n), (bl_r (by show 1 ≤ 73; omega) bl_n)⟩ (fun hN16 => ?_)
  refine Ex.blk B_X9_init_68 (lo' := [some (.ref 1)]) (st' := [.ref 74, .ref 74, .ref 1]) (I' := I14) (J' := J14) (Ps := []) rfl trivial ?_
  refine Ex.callI (γ' := m_X6_init) (mc' := 2) (ms' := 12) (As := []) (b := 74) (rest := [.ref 74, .ref 1]) kn_X6_init rfl ml_9_44 im_X6_init rfl (by decide +kernel) rfl rfl (by decide) (by decide) ⟨by decide, by decide⟩ ⟨(bd_r (by show 74 ≤ 74; omega) (bd_r (by show 1 ≤ 74; omega) bd_n)), (bl_r (by show 1 ≤ 74; omega) bl_n)⟩ (k_X6 (d + 2) _ _ _ hN15) (fun r E' I17 J17 q => ?_)
  obtain ⟨rfl, R17, rfl, hN17, hD17, rfl, rfl⟩ := q
  have hK17 := hK15.sub hD17 rfl (by omega)
  refine Ex.putR (v := 74) (a := 1) fl_9_45 rfl (fun C T N h => by cases h; rfl) (fun _ => ⟨rfl, rfl⟩) rfl (by decide +kernel) hN17 ⟨by omega, by omega⟩ (by decide +kernel) ⟨by omega, by omega⟩ (fun hN18 => ?_)
  have hK18 := hK17.put 6 74
  generalize hR18 : aUpR R17 1 6 74 = R18 at hN18 hK18 ⊢
  refine Ex.blk B_X9_init_75 (lo' := [some (.ref 1)]) (st' := [.ref 1]) (I' := I17) (J' := J17) (Ps := []) rfl trivial ?_
  refine Ex.mkO (x := 15) (y := 343) (n' := 77) tyX7 (ci := 7) rfl cK_7 tyX7_ok cl_9_49 it_7 in_7 (by decide +kernel) rfl (by decide +kernel) hN18 rfl (by decide +kernel) ⟨(bd_r (by show 1 ≤ 76; omega) bd_n), (bl_r (by show 1 ≤ 76; omega) bl_n)⟩ (fun hN19 => ?_)
  refine Ex.blk B_X9_init_79 (lo' := [some (.ref 1)]) (st' := [.ref 77, .ref 77, .ref 1]) (I' := I17) (J' := J17) (Ps := []) rfl trivial ?_
  refine Ex.callI (γ' := m_X7_init) (mc' := 2) (ms' := 12) (As := []) (b := 77) (rest := [.ref 77, .ref 1]) kn_X7_init rfl ml_9_51 im_X7_init rfl (by decide +kernel) rfl rfl (by decide) (by decide) ⟨by decide, by decide⟩ ⟨(bd_r (by show 77 ≤ 77; omega) (bd_r (by show 1 ≤ 77; omega) bd_n)), (bl_r (by show 1 ≤ 77; omega) bl_n)⟩ (k_X7 (d + 2) _ _ _ hN18) (fun r E' I20 J20 q => ?_)
  obtain ⟨rfl, R20, rfl, hN20, hD20, rfl, rfl⟩ := q
  have hK20 := hK18.sub hD20 rfl (by omega)
  refine Ex.putR (v := 77) (a := 1) fl_9_52 rfl (fun C T N h => by cases h; rfl) (fun _ => ⟨rfl, rfl⟩) rfl (by decide +kernel) hN20 ⟨by omega, by omega⟩ (by decide +kernel) ⟨by omega, by omega⟩ (fun hN21 => ?_)
  have hK21 := hK20.put 7 77
  generalize hR21 : aUpR R20 1 7 77 = R21 at hN21 hK21 ⊢
  refine Ex.blk B_X9_init_86 (lo' := [some (.ref 1)]) (st' := [.ref 1]) (I' := I20) (J' := J20) (Ps := []) rfl trivial ?_
  refine Ex.mkO (x := 12) (y := 323) (n' := 80) tyX2 (ci := 2) rfl cK_2 tyX2_ok cl_9_56 it_2 in_2 (by decide +kernel) rfl (by decide +kernel) hN21 rfl (by decide +kernel) ⟨(bd_r (by show 1 ≤ 79; omega) bd_n), (bl_r (by show 1 ≤ 79; omega) bl_n)⟩ (fun hN22 => ?_)
  refine Ex.blk B_X9_init_90 (lo' := [some (.ref 1)]) (st' := [.ref 80, .ref 80, .ref 1]) (I' := I20) (J' := J20) (Ps := []) rfl trivial ?_
  refine Ex.callI (γ' := m_X2_init) (mc' := 4) (ms' := 148) (As := []) (b := 80) (rest := [.ref 80, .ref 1]) kn_X2_init rfl ml_9_58 im_X2_init rfl (by decide +kernel) rfl rfl (by decide) (by decide) ⟨by decide, by decide⟩ ⟨(bd_r (by show 80 ≤ 80; omega) (bd_r (by show 1 ≤ 80; omega) bd_n)), (bl_r (by show 1 ≤ 80; omega) bl_n)⟩ (k_X2 (d + 1) _ _ _ hN21) (fun r E' I23 J23 q => ?_)
  obtain ⟨rfl, R23, rfl, hN23, hD23, rfl, rfl⟩ := q
  have hK23 := hK21.sub hD23 rfl (by omega)
  refine Ex.putR (v := 80) (a := 1) fl_9_59 rfl (fun C T N h => by cases h; rfl) (fun _ => ⟨rfl, rfl⟩) rfl (by decide +kernel) hN23 ⟨by omega, by omega⟩ (by decide +kernel) ⟨by omega, by omega⟩ (fun hN24 => ?_)
  have hK24 := hK23.put 8 80
  generalize hR24 : aUpR R23 1 8 80 = R24 at hN24 hK24 ⊢
  have hr1 : R24 1 8 = 80 := by rw [hK24.2.1]; rfl
  have hr2 : R24 80 0 = 81 := by rw [hK24.2.2 80 (by omega) (by omega)]; decide +kernel
  refine Ex.blk B_X9_init_97 (lo' := [some (.ref 1)]) (st' := [.ref (R24 (R24 1 8) 0), .ref 1]) (I' := I23) (J' := J23) (Ps := [aO (Eb 84 R24) 1 9 ∧ R24 1 8 ≠ 0, aO (Eb 84 R24) (R24 1 8) 2 ∧ R24 (R24 1 8) 0 ≠ 0]) rfl ⟨⟨⟨⟨by omega, by show 1 ≤ 84; omega⟩, o_1.2⟩, by rw [hr1]; decide⟩, by rw [hr1, hr2]; exact ⟨⟨⟨by omega, by show 80 ≤ 84; omega⟩, o_80.2⟩, by decide⟩⟩ ?_
  rw [hr1, hr2]
  refine Ex.putR (v := 81) (a := 1) fl_9_67 rfl (fun C T N h => by cases h; rfl) (fun _ => ⟨rfl, rfl⟩) rfl (by decide +kernel) hN24 ⟨by omega, by omega⟩ (by decide +kernel) ⟨by omega, by omega⟩ (fun hN25 => ?_)
  have hK25 := hK24.put 9 81
  generalize hR25 : aUpR R24 1 9 81 = R25 at hN25 hK25 ⊢
  refine Ex.blk B_X9_init_108 (lo' := [some (.ref 1)]) (st' := [.ref 1]) (I' := I23) (J' := J23) (Ps := []) rfl trivial ?_
  refine Ex.mkO (x := 7) (y := 172) (n' := 85) tyX0 (ci := 0) rfl cK_0 tyX0_ok cl_9_70 it_0 in_0 (by decide +kernel) rfl (by decide +kernel) hN25 rfl (by decide +kernel) ⟨(bd_r (by show 1 ≤ 84; omega) bd_n), (bl_r (by show 1 ≤ 84; omega) bl_n)⟩ (fun hN26 => ?_)
  refine Ex.blk B_X9_init_112 (lo' := [some (.ref 1)]) (st' := [.ref 85, .ref 85, .ref 1]) (I' := I23) (J' := J23) (Ps := []) rfl trivial ?_
  refine Ex.callI (γ' := m_X0_init) (mc' := 7) (ms' := 172) (As := []) (b := 85) (rest := [.ref 85, .ref 1]) kn_X0_init rfl ml_9_72 im_X0_init rfl (by decide +kernel) rfl rfl (by decide) (by decide) ⟨by decide, by decide⟩ ⟨(bd_r (by show 85 ≤ 85; omega) (bd_r (by show 1 ≤ 85; omega) bd_n)), (bl_r (by show 1 ≤ 85; omega) bl_n)⟩ (k_X0 (d + 2) _ _ _ hN25) (fun r E' I27 J27 q => ?_)
  obtain ⟨rfl, R27, rfl, hN27, hD27, rfl, hs27, hI27⟩ := q
  have hK27 := hK25.sub hD27 rfl (by omega)
  refine Ex.putR (v := 85) (a := 1) fl_9_73 rfl (fun C T N h => by cases h; rfl) (fun _ => ⟨rfl, rfl⟩) rfl (by decide +kernel) hN27 ⟨by omega, by omega⟩ (by decide +kernel) ⟨by omega, by omega⟩ (fun hN28 => ?_)
  have hK28 := hK27.put 10 85
  generalize hR28 : aUpR R27 1 10 85 = R28 at hN28 hK28 ⊢
  have f1 : ∀ b, 1 < b → b < 86 → ¬ (44 ≤ b ∧ b ≤ 46) → ¬ (13 ≤ b ∧ b ≤ 42) → I27 b = I8 b := fun b h1 h2 h3 h4 => by rw [hI27 b (by omega), hI14 b (by omega) (by omega) (by omega), hI11 b h4, aUp_ne (by omega)]
  have f2 : ∀ b, 10 < b → b < 86 → ¬ (44 ≤ b ∧ b ≤ 46) → ¬ (13 ≤ b ∧ b ≤ 42) → ∀ j, I27 b j = 0 := fun b h1 h2 h3 h4 j => by rw [f1 b (by omega) h2 h3 h4, hI8 b (by omega) (by omega) (by omega), hI5 b (by omega) (by omega) (by omega), hI2 b (by omega) (by omega) (by omega)]; exact (hN.2 b (by omega) j).2.1
  have f3 : ∀ j, I27 87 j = 0 := fun j => by rw [hI27 87 (by omega), hI14 87 (by omega) (by omega) (by omega), hI11 87 (by omega), aUp_ne (by omega), hI8 87 (by omega) (by omega) (by omega), hI5 87 (by omega) (by omega) (by omega), hI2 87 (by omega) (by omega) (by omega)]; exact (hN.2 87 (by omega) j).2.1
  have f4 : ∀ b, 1 < b → b ≠ 73 → ∀ j, J27 b j = 0 := fun b h1 h2 j => by rw [hJ14 b h2]; exact (hN.2 b (by omega) j).2.2
  have f5 : I27 1 3 = 0 := by rw [hI27 1 (by omega), hI14 1 (by omega) (by omega) (by omega), hI11 1 (by omega), aUp_eq]
  have c1 : Ch I27 2 c0 := Ch_eq hc2 (by rw [f1 2 (by omega) (by omega) (by omega) (by omega), hI8 2 (by omega) (by omega) (by omega), hI5 2 (by omega) (by omega) (by omega)]) (by rw [f1 3 (by omega) (by omega) (by omega) (by omega), hI8 3 (by omega) (by omega) (by omega), hI5 3 (by omega) (by omega) (by omega)]) (by rw [f1 4 (by omega) (by omega) (by omega) (by omega), hI8 4 (by omega) (by omega) (by omega), hI5 4 (by omega) (by omega) (by omega)])
  have c2 : Ch I27 44 c0 := Ch_eq hc14 (hI27 44 (by omega)) (hI27 45 (by omega)) (hI27 46 (by omega))
  refine Ex.vret rfl (by decide +kernel) ⟨rfl, R28, rfl, hN28, hK28.fin (ev_eq 11 (by decide +kernel) (by decide +kernel) (by decide +kernel)), c1, ⟨f2 11 (by omega) (by omega) (by omega) (by omega) 0, 0, by omega, f2 11 (by omega) (by omega) (by omega) (by omega) 1, fun i hi => absurd hi (Nat.not_lt_zero i)⟩, ⟨f5, fun h => absurd h (by decide)⟩, ⟨f2 81 (by omega) (by omega) (by omega) (by omega) 0, fun i hi => absurd hi (Nat.not_lt_zero i)⟩, fun s hs => ⟨(hs27 s hs).trans (show (-1 : Int32) = nI 0 - 1 by decide), f3 s, fun j _ => f4 (89 + s) (by omega) (by omega) j⟩, c0, 0, Wc_c0, c2, by omega, f2 43 (by omega) (by omega) (by omega) (by omega) 4, by decide, fun j hj => ?_, fun j hj i i2 _ _ => ?_, fun j hj i _ => f4 (57 + j) (by omega) (by omega) _, fun j _ => f4 57 (by omega) (by omega) _, hj14⟩
  · have hj : j = 0 := by omega
    subst hj
    rw [hj14]
    rfl
  · have hj : j = 0 := by omega
    subst hj
    rw [f4 57 (by omega) (by omega)]
    rfl
theorem k_X10 (d : Nat) (R : Nat → Nat → Nat) (I : aI) (J : aJ) (hN : Nw 92 R I J) (hD : ∀ b, 1 ≤ b → b ≤ 92 → R b = E0.2.2 b) : Ex m_X10_init (d + 3) 21 1110 93 (21, 1110) 0 (aEn 1 [.ref 93]) [] (Eb 93 R) I J (fun r E' I' J' => r = none ∧ E' = E0 ∧ MP T0 I' J' ∧ Fr1 I I' J J') := by
  have hN0 := hN.new (n' := 93) (by omega)
  have hK0 := Kp.ini hN (a := 93) (by omega)
  refine Ex.blk B_X10_init_0 (lo' := [some (.ref 93)]) (st' := [.int 46, .ref 93]) (I' := I) (J' := J) (Ps := []) rfl trivial ?_
  refine Ex.mk1 (x := 20) (y := 1064) (N := 46) (n' := 94) (by decide +kernel) (by decide) (by decide) (by decide) hN0 rfl (by decide +kernel) ⟨(bd_r (by show 93 ≤ 93; omega) bd_n), (bl_r (by show 93 ≤ 93; omega) bl_n)⟩ (fun hN1 => ?_)
  have hK1 := hK0.arr hN0 rfl (by decide +kernel)
  refine Ex.putR (v := 94) (a := 93) fl_10_11 rfl (fun C T N h => by cases h; rfl) (fun _ => ⟨rfl, rfl⟩) rfl (by decide +kernel) hN1 ⟨by omega, by omega⟩ (by decide +kernel) ⟨by omega, by omega⟩ (fun hN2 => ?_)
  have hK2 := hK1.put 0 94
  generalize hR2 : aUpR R 93 0 94 = R2 at hN2 hK2 ⊢
  refine Ex.blk B_X10_init_12 (lo' := [some (.ref 93)]) (st' := [.int 460, .ref 93]) (I' := I) (J' := J) (Ps := []) rfl trivial ?_
  refine Ex.mk1 (x := 19) (y := 604) (N := 460) (n' := 95) (by decide +kernel) (by decide) (by decide) (by decide) hN2 rfl (by decide +kernel) ⟨(bd_r (by show 93 ≤ 94; omega) bd_n), (bl_r (by show 93 ≤ 94; omega) bl_n)⟩ (fun hN3 => ?_)
  have hK3 := hK2.arr hN2 rfl (by decide +kernel)
  refine Ex.putR (v := 95) (a := 93) fl_10_15 rfl (fun C T N h => by cases h; rfl) (fun _ => ⟨rfl, rfl⟩) rfl (by decide +kernel) hN3 ⟨by omega, by omega⟩ (by decide +kernel) ⟨by omega, by omega⟩ (fun hN4 => ?_)
  have hK4 := hK3.put 1 95
  generalize hR4 : aUpR R2 93 1 95 = R4 at hN4 hK4 ⊢
  refine Ex.blk B_X10_init_21 (lo' := [some (.ref 93)]) (st' := [.int 46, .ref 93]) (I' := I) (J' := J) (Ps := []) rfl trivial ?_
  refine Ex.mk1 (x := 18) (y := 558) (N := 46) (n' := 96) (by decide +kernel) (by decide) (by decide) (by decide) hN4 rfl (by decide +kernel) ⟨(bd_r (by show 93 ≤ 95; omega) bd_n), (bl_r (by show 93 ≤ 95; omega) bl_n)⟩ (fun hN5 => ?_)
  have hK5 := hK4.arr hN4 rfl (by decide +kernel)
  refine Ex.putR (v := 96) (a := 93) fl_10_18 rfl (fun C T N h => by cases h; rfl) (fun _ => ⟨rfl, rfl⟩) rfl (by decide +kernel) hN5 ⟨by omega, by omega⟩ (by decide +kernel) ⟨by omega, by omega⟩ (fun hN6 => ?_)
  have hK6 := hK5.put 3 96
  generalize hR6 : aUpR R4 93 3 96 = R6 at hN6 hK6 ⊢
  refine Ex.blk B_X10_init_29 (lo' := [some (.ref 93)]) (st' := [.int 46, .ref 93]) (I' := I) (J' := J) (Ps := []) rfl trivial ?_
  refine Ex.mk1 (x := 17) (y := 512) (N := 46) (n' := 97) (by decide +kernel) (by decide) (by decide) (by decide) hN6 rfl (by decide +kernel) ⟨(bd_r (by show 93 ≤ 96; omega) bd_n), (bl_r (by show 93 ≤ 96; omega) bl_n)⟩ (fun hN7 => ?_)
  have hK7 := hK6.arr hN6 rfl (by decide +kernel)
  refine Ex.putR (v := 97) (a := 93) fl_10_21 rfl (fun C T N h => by cases h; rfl) (fun _ => ⟨rfl, rfl⟩) rfl (by decide +kernel) hN7 ⟨by omega, by omega⟩ (by decide +kernel) ⟨by omega, by omega⟩ (fun hN8 => ?_)
  have hK8 := hK7.put 5 97
  generalize hR8 : aUpR R6 93 5 97 = R8 at hN8 hK8 ⊢
  refine Ex.blk B_X10_init_37 (lo' := [some (.ref 93)]) (st' := [.int 36, .ref 93]) (I' := I) (J' := J) (Ps := []) rfl trivial ?_
  refine Ex.mk2 (x := 16) (y := 476) (N := 36) (n' := 98) (by decide +kernel) (by decide) (by decide) (by decide) hN8 rfl (by decide +kernel) ⟨(bd_r (by show 93 ≤ 97; omega) bd_n), (bl_r (by show 93 ≤ 97; omega) bl_n)⟩ (fun hN9 => ?_)
  have hK9 := hK8.arr hN8 rfl (by decide +kernel)
  refine Ex.putR (v := 98) (a := 93) fl_10_24 rfl (fun C T N h => by cases h; rfl) (fun _ => ⟨rfl, rfl⟩) rfl (by decide +kernel) hN9 ⟨by omega, by omega⟩ (by decide +kernel) ⟨by omega, by omega⟩ (fun hN10 => ?_)
  have hK10 := hK9.put 6 98
  generalize hR10 : aUpR R8 93 6 98 = R10 at hN10 hK10 ⊢
  refine Ex.blk B_X10_init_45 (lo' := [some (.ref 93)]) (st' := [.int 36, .ref 93]) (I' := I) (J' := J) (Ps := []) rfl trivial ?_
  refine Ex.mk2 (x := 15) (y := 440) (N := 36) (n' := 99) (by decide +kernel) (by decide) (by decide) (by decide) hN10 rfl (by decide +kernel) ⟨(bd_r (by show 93 ≤ 98; omega) bd_n), (bl_r (by show 93 ≤ 98; omega) bl_n)⟩ (fun hN11 => ?_)
  have hK11 := hK10.arr hN10 rfl (by decide +kernel)
  refine Ex.putR (v := 99) (a := 93) fl_10_28 rfl (fun C T N h => by cases h; rfl) (fun _ => ⟨rfl, rfl⟩) rfl (by decide +kernel) hN11 ⟨by omega, by omega⟩ (by decide +kernel) ⟨by omega, by omega⟩ (fun hN12 => ?_)
  have hK12 := hK11.put 7 99
  generalize hR12 : aUpR R10 93 7 99 = R12 at hN12 hK12 ⊢
  refine Ex.blk B_X10_init_53 (lo' := [some (.ref 93)]) (st' := [.int 36, .ref 93]) (I' := I) (J' := J) (Ps := []) rfl trivial ?_
  refine Ex.mk1 (x := 14) (y := 404) (N := 36) (n' := 100) (by decide +kernel) (by decide) (by decide) (by decide) hN12 rfl (by decide +kernel) ⟨(bd_r (by show 93 ≤ 99; omega) bd_n), (bl_r (by show 93 ≤ 99; omega) bl_n)⟩ (fun hN13 => ?_)
  have hK13 := hK12.arr hN12 rfl (by decide +kernel)
  refine Ex.putR (v := 100) (a := 93) fl_10_31 rfl (fun C T N h => by cases h; rfl) (fun _ => ⟨rfl, rfl⟩) rfl (by decide +kernel) hN13 ⟨by omega, by omega⟩ (by decide +kernel) ⟨by omega, by omega⟩ (fun hN14 => ?_)
  have hK14 := hK13.put 8 100
  generalize hR14 : aUpR R12 93 8 100 = R14 at hN14 hK14 ⊢
  refine Ex.blk B_X10_init_61 (lo' := [some (.ref 93)]) (st' := [.int 36, .ref 93]) (I' := I) (J' := J) (Ps := []) rfl trivial ?_
  refine Ex.mk3 (x := 13) (y := 368) (N := 36) (n' := 101) (by decide +kernel) (by decide) (by decide) (by decide) hN14 rfl (by decide +kernel) ⟨(bd_r (by show 93 ≤ 100; omega) bd_n), (bl_r (by show 93 ≤ 100; omega) bl_n)⟩ (fun hN15 => ?_)
  have hK15 := hK14.arr hN14 rfl (by decide +kernel)
  refine Ex.putR (v := 101) (a := 93) fl_10_34 rfl (fun C T N h => by cases h; rfl) (fun _ => ⟨rfl, rfl⟩) rfl (by decide +kernel) hN15 ⟨by omega, by omega⟩ (by decide +kernel) ⟨by omega, by omega⟩ (fun hN16 => ?_)
  have hK16 := hK15.put 9 101
  generalize hR16 : aUpR R14 93 9 101 = R16 at hN16 hK16 ⊢
  refine Ex.blk B_X10_init_69 (lo' := [some (.ref 93)]) (st' := [.int 12, .ref 93]) (I' := I) (J' := J) (Ps := []) rfl trivial ?_
  refine Ex.mk2 (x := 12) (y := 356) (N := 12) (n' := 102) (by decide +kernel) (by decide) (by decide) (by decide) hN16 rfl (by decide +kernel) ⟨(bd_r (by show 93 ≤ 101; omega) bd_n), (bl_r (by show 93 ≤ 101; omega) bl_n)⟩ (fun hN17 => ?_)
  have hK17 := hK16.arr hN16 rfl (by decide +kernel)
  refine Ex.putR (v := 102) (a := 93) fl_10_38 rfl (fun C T N h => by cases h; rfl) (fun _ => ⟨rfl, rfl⟩) rfl (by decide +kernel) hN17 ⟨by omega, by omega⟩ (by decide +kernel) ⟨by omega, by omega⟩ (fun hN18 => ?_)
  have hK18 := hK17.put 10 102
  generalize hR18 : aUpR R16 93 10 102 = R18 at hN18 hK18 ⊢
  refine Ex.blk B_X10_init_77 (lo' := [some (.ref 93)]) (st' := [.int 12, .ref 93]) (I' := I) (J' := J) (Ps := []) rfl trivial ?_
  refine Ex.mk1 (x := 11) (y := 344) (N := 12) (n' := 103) (by decide +kernel) (by decide) (by decide) (by decide) hN18 rfl (by decide +kernel) ⟨(bd_r (by show 93 ≤ 102; omega) bd_n), (bl_r (by show 93 ≤ 102; omega) bl_n)⟩ (fun hN19 => ?_)
  have hK19 := hK18.arr hN18 rfl (by decide +kernel)
  refine Ex.putR (v := 103) (a := 93) fl_10_41 rfl (fun C T N h => by cases h; rfl) (fun _ => ⟨rfl, rfl⟩) rfl (by decide +kernel) hN19 ⟨by omega, by omega⟩ (by decide +kernel) ⟨by omega, by omega⟩ (fun hN20 => ?_)
  have hK20 := hK19.put 11 103
  generalize hR20 : aUpR R18 93 11 103 = R20 at hN20 hK20 ⊢
  refine Ex.blk B_X10_init_85 (lo' := [some (.ref 93)]) (st' := [.int 6, .ref 93]) (I' := I) (J' := J) (Ps := []) rfl trivial ?_
  refine Ex.mk1 (x := 10) (y := 338) (N := 6) (n' := 104) (by decide +kernel) (by decide) (by decide) (by decide) hN20 rfl (by decide +kernel) ⟨(bd_r (by show 93 ≤ 103; omega) bd_n), (bl_r (by show 93 ≤ 103; omega) bl_n)⟩ (fun hN21 => ?_)
  have hK21 := hK20.arr hN20 rfl (by decide +kernel)
  refine Ex.putR (v := 104) (a := 93) fl_10_44 rfl (fun C T N h => by cases h; rfl) (fun _ => ⟨rfl, rfl⟩) rfl (by decide +kernel) hN21 ⟨by omega, by omega⟩ (by decide +kernel) ⟨by omega, by omega⟩ (fun hN22 => ?_)
  have hK22 := hK21.put 12 104
  generalize hR22 : aUpR R20 93 12 104 = R22 at hN22 hK22 ⊢
  refine Ex.blk B_X10_init_93 (lo' := [some (.ref 93)]) (st' := [.int 6, .ref 93]) (I' := I) (J' := J) (Ps := []) rfl trivial ?_
  refine Ex.mk1 (x := 9) (y := 332) (N := 6) (n' := 105) (by decide +kernel) (by decide) (by decide) (by decide) hN22 rfl (by decide +kernel) ⟨(bd_r (by show 93 ≤ 104; omega) bd_n), (bl_r (by show 93 ≤ 104; omega) bl_n)⟩ (fun hN23 => ?_)
  have hK23 := hK22.arr hN22 rfl (by decide +kernel)
  refine Ex.putR (v := 105) (a := 93) fl_10_47 rfl (fun C T N h => by cases h; rfl) (fun _ => ⟨rfl, rfl⟩) rfl (by decide +kernel) hN23 ⟨by omega, by omega⟩ (by decide +kernel) ⟨by omega, by omega⟩ (fun hN24 => ?_)
  have hK24 := hK23.put 13 105
  generalize hR24 : aUpR R22 93 13 105 = R24 at hN24 hK24 ⊢
  refine Ex.blk B_X10_init_101 (lo' := [some (.ref 93)]) (st' := [.int 6, .ref 93]) (I' := I) (J' := J) (Ps := []) rfl trivial ?_
  refine Ex.mk2 (x := 8) (y := 326) (N := 6) (n' := 106) (by decide +kernel) (by decide) (by decide) (by decide) hN24 rfl (by decide +kernel) ⟨(bd_r (by show 93 ≤ 105; omega) bd_n), (bl_r (by show 93 ≤ 105; omega) bl_n)⟩ (fun hN25 => ?_)
  have hK25 := hK24.arr hN24 rfl (by decide +kernel)
  refine Ex.putR (v := 106) (a := 93) fl_10_50 rfl (fun C T N h => by cases h; rfl) (fun _ => ⟨rfl, rfl⟩) rfl (by decide +kernel) hN25 ⟨by omega, by omega⟩ (by decide +kernel) ⟨by omega, by omega⟩ (fun hN26 => ?_)
  have hK26 := hK25.put 15 106
  generalize hR26 : aUpR R24 93 15 106 = R26 at hN26 hK26 ⊢
  refine Ex.blk B_X10_init_109 (lo' := [some (.ref 93)]) (st' := [.int 6, .ref 93]) (I' := I) (J' := J) (Ps := []) rfl trivial ?_
  refine Ex.mk2 (x := 7) (y := 320) (N := 6) (n' := 107) (by decide +kernel) (by decide) (by decide) (by decide) hN26 rfl (by decide +kernel) ⟨(bd_r (by show 93 ≤ 106; omega) bd_n), (bl_r (by show 93 ≤ 106; omega) bl_n)⟩ (fun hN27 => ?_)
  have hK27 := hK26.arr hN26 rfl (by decide +kernel)
  refine Ex.putR (v := 107) (a := 93) fl_10_53 rfl (fun C T N h => by cases h; rfl) (fun _ => ⟨rfl, rfl⟩) rfl (by decide +kernel) hN27 ⟨by omega, by omega⟩ (by decide +kernel) ⟨by omega, by omega⟩ (fun hN28 => ?_)
  have hK28 := hK27.put 16 107
  generalize hR28 : aUpR R26 93 16 107 = R28 at hN28 hK28 ⊢
  refine Ex.blk B_X10_init_117 (lo' := [some (.ref 93)]) (st' := [.int 80, .ref 93]) (I' := I) (J' := J) (Ps := []) rfl trivial ?_
  refine Ex.mk1 (x := 6) (y := 240) (N := 80) (n' := 108) (by decide +kernel) (by decide) (by decide) (by decide) hN28 rfl (by decide +kernel) ⟨(bd_r (by show 93 ≤ 107; omega) bd_n), (bl_r (by show 93 ≤ 107; omega) bl_n)⟩ (fun hN29 => ?_)
  have hK29 := hK28.arr hN28 rfl (by decide +kernel)
  refine Ex.putR (v := 108) (a := 93) fl_10_56 rfl (fun C T N h => by cases h; rfl) (fun _ => ⟨rfl, rfl⟩) rfl (by decide +kernel) hN29 ⟨by omega, by omega⟩ (by decide +kernel) ⟨by omega, by omega⟩ (fun hN30 => ?_)
  have hK30 := hK29.put 17 108
  generalize hR30 : aUpR R28 93 17 108 = R30 at hN30 hK30 ⊢
  refine Ex.blk B_X10_init_125 (lo' := [some (.ref 93)]) (st' := [.int 6, .ref 93]) (I' := I) (J' := J) (Ps := []) rfl trivial ?_
  refine Ex.mk1 (x := 5) (y := 234) (N := 6) (n' := 109) (by decide +kernel) (by decide) (by decide) (by decide) hN30 rfl (by decide +kernel) ⟨(bd_r (by show 93 ≤ 108; omega) bd_n), (bl_r (by show 93 ≤ 108; omega) bl_n)⟩ (fun hN31 => ?_)
  have hK31 := hK30.arr hN30 rfl (by decide +kernel)
  refine Ex.putR (v := 109) (a := 93) fl_10_59 rfl (fun C T N h => by cases h; rfl) (fun _ => ⟨rfl, rfl⟩) rfl (by decide +kernel) hN31 ⟨by omega, by omega⟩ (by decide +kernel) ⟨by omega, by omega⟩ (fun hN32 => ?_)
  have hK32 := hK31.put 24 109
  generalize hR32 : aUpR R30 93 24 109 = R32 at hN32 hK32 ⊢
  refine Ex.blk B_X10_init_133 (lo' := [some (.ref 93)]) (st' := [.int 60, .ref 93]) (I' := I) (J' := J) (Ps := []) rfl trivial ?_
  refine Ex.mk1 (x := 4) (y := 174) (N := 60) (n' := 110) (by decide +kernel) (by decide) (by decide) (by decide) hN32 rfl (by decide +kernel) ⟨(bd_r (by show 93 ≤ 109; omega) bd_n), (bl_r (by show 93 ≤ 109; omega) bl_n)⟩ (fun hN33 => ?_)
  have hK33 := hK32.arr hN32 rfl (by decide +kernel)
  refine Ex.putR (v := 110) (a := 93) fl_10_62 rfl (fun C T N h => by cases h; rfl) (fun _ => ⟨rfl, rfl⟩) rfl (by decide +kernel) hN33 ⟨by omega, by omega⟩ (by decide +kernel) ⟨by omega, by omega⟩ (fun hN34 => ?_)
  have hK34 := hK33.put 25 110
  generalize hR34 : aUpR R32 93 25 110 = R34 at hN34 hK34 ⊢
  refine Ex.blk B_X10_init_141 (lo' := [some (.ref 93)]) (st' := [.int 6, .ref 93]) (I' := I) (J' := J) (Ps := []) rfl trivial ?_
  refine Ex.mk3 (x := 3) (y := 168) (N := 6) (n' := 111) (by decide +kernel) (by decide) (by decide) (by decide) hN34 rfl (by decide +kernel) ⟨(bd_r (by show 93 ≤ 110; omega) bd_n), (bl_r (by show 93 ≤ 110; omega) bl_n)⟩ (fun hN35 => ?_)
  have hK35 := hK34.arr hN34 rfl (by decide +kernel)
  refine Ex.putR (v := 111) (a := 93) fl_10_65 rfl (fun C T N h => by cases h; rfl) (fun _ => ⟨rfl, rfl⟩) rfl (by decide +kernel) hN35 ⟨by omega, by omega⟩ (by decide +kernel) ⟨by omega, by omega⟩ (fun hN36 => ?_)
  have hK36 := hK35.put 26 111
  generalize hR36 : aUpR R34 93 26 111 = R36 at hN36 hK36 ⊢
  refine Ex.blk B_X10_init_149 (lo' := [some (.ref 93)]) (st' := [.int 4, .ref 93]) (I' := I) (J' := J) (Ps := []) rfl trivial ?_
  refine Ex.mk1 (x := 2) (y := 164) (N := 4) (n' := 112) (by decide +kernel) (by decide) (by decide) (by decide) hN36 rfl (by decide +kernel) ⟨(bd_r (by show 93 ≤ 111; omega) bd_n), (bl_r (by show 93 ≤ 111; omega) bl_n)⟩ (fun hN37 => ?_)
  have hK37 := hK36.arr hN36 rfl (by decide +kernel)
  refine Ex.putR (v := 112) (a := 93) fl_10_68 rfl (fun C T N h => by cases h; rfl) (fun _ => ⟨rfl, rfl⟩) rfl (by decide +kernel) hN37 ⟨by omega, by omega⟩ (by decide +kernel) ⟨by omega, by omega⟩ (fun hN38 => ?_)
  have hK38 := hK37.put 27 112
  generalize hR38 : aUpR R36 93 27 112 = R38 at hN38 hK38 ⊢
  refine Ex.blk B_X10_init_156 (lo' := [some (.ref 93)]) (st' := [.int 4, .ref 93]) (I' := I) (J' := J) (Ps := []) rfl trivial ?_
  refine Ex.mk1 (x := 1) (y := 160) (N := 4) (n' := 113) (by decide +kernel) (by decide) (by decide) (by decide) hN38 rfl (by decide +kernel) ⟨(bd_r (by show 93 ≤ 112; omega) bd_n), (bl_r (by show 93 ≤ 112; omega) bl_n)⟩ (fun hN39 => ?_)
  have hK39 := hK38.arr hN38 rfl (by decide +kernel)
  refine Ex.putR (v := 113) (a := 93) fl_10_71 rfl (fun C T N h => by cases h; rfl) (fun _ => ⟨rfl, rfl⟩) rfl (by decide +kernel) hN39 ⟨by omega, by omega⟩ (by decide +kernel) ⟨by omega, by omega⟩ (fun hN40 => ?_)
  have hK40 := hK39.put 28 113
  generalize hR40 : aUpR R38 93 28 113 = R40 at hN40 hK40 ⊢
  refine Ex.blk B_X10_init_163 (lo' := [some (.ref 93)]) (st' := [.int 160, .ref 93]) (I' := I) (J' := J) (Ps := []) rfl trivial ?_
  refine Ex.mk2 (x := 0) (y := 0) (N := 160) (n' := 114) (by decide +kernel) (by decide) (by decide) (by decide) hN40 rfl (by decide +kernel) ⟨(bd_r (by show 93 ≤ 113; omega) bd_n), (bl_r (by show 93 ≤ 113; omega) bl_n)⟩ (fun hN41 => ?_)
  have hK41 := hK40.arr hN40 rfl (by decide +kernel)
  refine Ex.putR (v := 114) (a := 93) fl_10_74 rfl (fun C T N h => by cases h; rfl) (fun _ => ⟨rfl, rfl⟩) rfl (by decide +kernel) hN41 ⟨by omega, by omega⟩ (by decide +kernel) ⟨by omega, by omega⟩ (fun hN42 => ?_)
  have hK42 := hK41.put 29 114
  generalize hR42 : aUpR R40 93 29 114 = R42 at hN42 hK42 ⊢
  have hF := hK42.fin (ev_eq 30 (by decide +kernel) (by decide +kernel) (by decide +kernel))
  refine Ex.ag (E := Eb 114 R42) (E' := E0) (I' := I) (J' := J) rfl (fun b h1 h2 => ⟨rfl, ?_, rfl, rfl⟩) ?_
  · by_cases e : b < 93
    · exact ((hF.1 b e).trans (hD b h1 (by omega))).symm
    · exact (hF.2 b (by omega) h2).symm
  refine Ex.blk B_X10_init_172 (lo' := [some (.ref 93)]) (st' := [.int 1, .int 2, .ref 93]) (I' := (aUp (aUp I 94 2 1) 94 3 1)) (J' := J) (Ps := [aO E0 93 10 ∧ E0.2.2 93 0 ≠ 0, aAr E0 1 94 2, aO E0 93 10 ∧ E0.2.2 93 0 ≠ 0, aAr E0 1 94 3]) rfl ⟨r_93_0, a_94 (vin (n := 2) rfl (by omega) (by decide)), r_93_0, a_94 (vin (n := 3) rfl (by omega) (by decide))⟩ ?_
  have hz : ∀ b, 92 < b → ∀ j, I b j = 0 := fun b hb j => (hN.2 b hb j).2.1
  have hM : MC (fun k => if k = 2 ∨ k = 3 then 1 else 0) (aUp (aUp I 94 2 1) 94 3 1) := by
    intro k hk
    show _ = nI (if k = 2 ∨ k = 3 then 1 else 0)
    by_cases e3 : k = 3
    · rw [e3, aUp_eq]
      rfl
    · rw [aUp_nk e3]
      by_cases e2 : k = 2
      · rw [e2, aUp_eq]
        rfl
      · rw [aUp_nk e2, hz 94 (by omega), if_neg (by omega)]
        rfl
  refine Ex.callV (As := [.int (nI 2), .int (nI 1)]) (b := 93) (rest := []) kn_X10_initialize ml_10_77 im_X10_initialize se_X10_initialize (ci := 10) rfl (by decide +kernel) rfl rfl (show 3 ≤ 4 by decide) (show 0 ≤ 8 by decide) o_93 (s_init d _ _ _ hM 2 1 (by omega)) (fun r I1 J1 q => ?_)
  obtain ⟨rfl, rfl, q1, q2, q3, q4⟩ := q
  have g : ∀ b, b ≠ 93 → b ≠ 94 → I1 b = I b := fun b h1 h2 => by rw [q4 b h1 h2, aUp_ne h2, aUp_ne h2]
  have g3 : ∀ k, k ≠ 2 → I1 93 k = 0 := fun k hk => by rw [q3 k hk, aUp_ne (by decide), aUp_ne (by decide)]; exact hz 93 (by omega) k
  refine Ex.vret rfl (by decide +kernel) ⟨rfl, rfl, ⟨fun k hk => ?_, ⟨q2, fun i hi => absurd hi (Nat.not_lt_zero i)⟩, ⟨g3 4 (by decide), fun h => absurd h (by decide)⟩, ⟨g3 18 (by decide), fun i hi => absurd hi (Nat.not_lt_zero i)⟩, fun s hs => ⟨by rw [g 112 (by decide) (by decide)]; exact hz 112 (by omega) s, by rw [g 113 (by decide) (by decide)]; exact hz 113 (by omega) s, fun j _ => (hN.2 114 (by omega) _).2.2⟩⟩, fun b hb => ⟨g b (by omega) (by omega), rfl⟩⟩
  rw [q1 k hk]
  show nI (stc (fun k => if k = 2 ∨ k = 3 then 1 else 0) 2 1 k) = nI (stc (fun _ => 1) 2 1 k)
  unfold stc
  by_cases e : k < 4
  · by_cases e0 : k = 0
    · rw [if_pos e0, if_pos e0]
    · by_cases e1 : k = 1
      · rw [if_neg e0, if_pos e1, if_neg e0, if_pos e1]
      · rw [if_neg e0, if_neg e1, if_pos e, if_neg e0, if_neg e1, if_pos e]
        show nI (if k = 2 ∨ k = 3 then 1 else 0) = nI 1
        rw [if_pos (by omega)]
  · rw [if_neg e, if_neg e]

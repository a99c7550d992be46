/-! DISTANCES: what is answered -/
theorem gdp_ok {c : Nat → Nat} {n : Nat} (h : n ≤ gdp c) : (c 3 * c 1) ^ n ≤ 1000000000000000 := by
  unfold gdp at h
  by_cases e : c 3 * c 1 ≤ 1
  · exact Nat.le_trans (Nat.pow_le_pow_left e n) (by rw [Nat.one_pow]; decide)
  · rw [if_neg e] at h
    cases n with
    | zero => rw [Nat.pow_zero]; decide
    | succ j =>
      cases hf : ff (fun k => decide (1000000000000000 < (c 3 * c 1) ^ (k + 1))) 60 0 with
      | none => rw [hf] at h; have h : j + 1 ≤ 0 := h; omega
      | some k =>
        rw [hf] at h
        have h : j + 1 ≤ k := h
        have := of_decide_eq_false (ff_min hf j (Nat.zero_le _) (by omega))
        omega
theorem gdp_no {c : Nat → Nat} {n : Nat} (hn : n ≤ 15) (h : ¬ n ≤ gdp c) : 1000000000000000 < (c 3 * c 1) ^ n := by
  unfold gdp at h
  by_cases e : c 3 * c 1 ≤ 1
  · rw [if_pos e] at h; omega
  · rw [if_neg e] at h
    cases hf : ff (fun k => decide (1000000000000000 < (c 3 * c 1) ^ (k + 1))) 60 0 with
    | none =>
      have := of_decide_eq_false (ff_no hf 59 (Nat.zero_le _) (by omega))
      have h2 : 2 ^ 60 ≤ (c 3 * c 1) ^ (59 + 1) := Nat.pow_le_pow_left (by omega) 60
      have h3 : (1000000000000000 : Nat) < 2 ^ 60 := by decide
      omega
    | some k =>
      rw [hf] at h
      have h : ¬ n ≤ k := h
      have h1 : 1000000000000000 < (c 3 * c 1) ^ (k + 1) := of_decide_eq_true (ff_true (P := fun k => decide (1000000000000000 < (c 3 * c 1) ^ (k + 1))) hf)
      exact Nat.lt_of_lt_of_le h1 (Nat.pow_le_pow_right (by omega) (by omega))
theorem gdp_99 {c : Nat → Nat} : gdp c ≤ 99 := by
  unfold gdp
  by_cases e : c 3 * c 1 ≤ 1
  · rw [if_pos e]; omega
  · rw [if_neg e]
    cases hf : ff (fun k => decide (1000000000000000 < (c 3 * c 1) ^ (k + 1))) 60 0 with
    | none => exact Nat.zero_le _
    | some k => have := ff_lt hf; show k ≤ 99; omega
/-- the depth is one, and this one is supported -/
abbrev isM (T : TS) (m : Int32) : Prop := (0 ≤ m ∧ m ≤ 15) ∧ m ≤ nI (gdp T.1)
abbrev isD (T : TS) (m x y : Int32) : Prop := isM T m ∧ isS T x ∧ isS T y
theorem isM_of {T : TS} {m : Int32} (h : isM T m) : ∃ n, n ≤ 15 ∧ m = nI n ∧ m.toNatClampNeg = n ∧ n ≤ gdp T.1 ∧ (T.1 3 * T.1 1) ^ n ≤ 1000000000000000 := by
  obtain ⟨n, -, h1, rfl, h2⟩ := in_of (lo := 0) (hi := 15) (by omega) h.1 (by omega)
  have hg := @gdp_99 T.1
  have h3 := (nI_leI (by omega) (by omega)).mp h.2
  exact ⟨n, h1, rfl, h2, h3, gdp_ok h3⟩
noncomputable def fra (c : Nat → Nat) (z m i j : Nat) : Nat := (if z = 0 then (c 3 * c 1) ^ m else dst c m i j) / Nat.gcd (dst c m i j) ((c 3 * c 1) ^ m)
noncomputable def f_frac (z : Nat) (T : TS) (m x y : Int32) : Int64 × TS := if isD T m x y then (lN (fra T.1 z m.toNatClampNeg x.toNatClampNeg y.toNatClampNeg), T) else ((-9223372036854775808), T)
theorem s_hasD (d : Nat) (I : aI) (J : aJ) (T : TS) (W : WT T) (hP : CP T I J) (m x y : Int32) : Sp m_X9_hasDistance (d + 2) [.ref 1, .int m, .int x, .int y] E0 I J (fun r I' J' => r = some (.int (zb (isD T m x y))) ∧ I' = I ∧ J' = J) := by
  refine Sp.of (lo := [some (.ref 1), some (.int m), some (.int x), some (.int y)]) rfl (fun Q hQ => ?_)
  have w1 := W.1.1
  have w2 := W.1.2.1
  have wb := Wc_12 W.1
  refine Ez.blk B_X9_hasDistance_0 (lo' := [some (.ref 1), some (.int m), some (.int x), some (.int y)]) (st' := [.int 15, .int 0, .int m]) (I' := I) (J' := J) (Ps := []) rfl trivial ?_
  refine Ez.callS (As := [.int m, .int 0, .int 15]) (rest := []) kn_X9_isWithin ml_9_77 sm_X9_isWithin (by decide +kernel) rfl rfl (Nat.le_of_ble_eq_true rfl) (Nat.le_of_ble_eq_true rfl) (s_isWithin _ E0 I J m 0 15) (fun r I1 J1 hq => ?_)
  obtain ⟨rfl, rfl, rfl⟩ := hq
  refine Ez.z_if_eq (off := 37) (tgt := 44) (by decide +kernel) (by decide) (fun h => ?_) (fun h => ?_)
  · refine Ez.blk B_X9_hasDistance_44 (lo' := [some (.ref 1), some (.int m), some (.int x), some (.int y)]) (st' := [.int 0]) (I' := I1) (J' := J1) (Ps := []) rfl trivial ?_
    exact Ez.zret rfl (Or.inl rfl) (by decide +kernel) (hQ _ _ _ ⟨by rw [zb_f (p := isD T m x y) (fun q => h q.1.1)], rfl, rfl⟩)
  · refine Ez.blk B_X9_hasDistance_10 (lo' := [some (.ref 1), some (.int m), some (.int x), some (.int y)]) (st' := [.ref 1, .int m]) (I' := I1) (J' := J1) (Ps := []) rfl trivial ?_
    refine Ez.callV (As := []) (b := 1) (rest := [.int m]) kn_X9_greatestDepth ml_9_133 im_X9_greatestDepth se_X9_greatestDepth rfl (by decide +kernel) rfl rfl (Nat.le_of_ble_eq_true rfl) (Nat.le_of_ble_eq_true rfl) o_1 (s_gd _ I1 J1 T.1 hP.1 W.1) (fun r I2 J2 hq => ?_)
    obtain ⟨rfl, rfl, rfl⟩ := hq
    refine Ez.icmp_gt (off := 29) (tgt := 44) (by decide +kernel) (by decide) (fun h2 => ?_) (fun h2 => ?_)
    · refine Ez.blk B_X9_hasDistance_44 (lo' := [some (.ref 1), some (.int m), some (.int x), some (.int y)]) (st' := [.int 0]) (I' := I2) (J' := J2) (Ps := []) rfl trivial ?_
      exact Ez.zret rfl (Or.inl rfl) (by decide +kernel) (hQ _ _ _ ⟨by rw [zb_f (p := isD T m x y) (fun q => absurd q.1.2 (fun z => absurd h2 (i32_nlt.mpr z)))], rfl, rfl⟩)
    · refine Ez.blk B_X9_hasDistance_18 (lo' := [some (.ref 1), some (.int m), some (.int x), some (.int y)]) (st' := [.int x, .ref 2]) (I' := I2) (J' := J2) (Ps := [aO E0 1 9 ∧ E0.2.2 1 0 ≠ 0]) rfl r_1_0 ?_
      refine Ez.callV (As := [.int x]) (b := 2) (rest := []) kn_X1_has ml_9_95 im_X1_has se_X1_has rfl (by decide +kernel) rfl rfl (Nat.le_of_ble_eq_true rfl) (Nat.le_of_ble_eq_true rfl) o_2 (s_has _ E0 I2 J2 2 (x) o_2) (fun r I3 J3 hq => ?_)
      obtain ⟨rfl, rfl, rfl⟩ := hq
      rw [hP.1.1 0 (by decide)]
      refine Ez.z_if_eq (off := 18) (tgt := 44) (by decide +kernel) (by decide) (fun h3 => ?_) (fun h3 => ?_)
      · refine Ez.blk B_X9_hasDistance_44 (lo' := [some (.ref 1), some (.int m), some (.int x), some (.int y)]) (st' := [.int 0]) (I' := I3) (J' := J3) (Ps := []) rfl trivial ?_
        exact Ez.zret rfl (Or.inl rfl) (by decide +kernel) (hQ _ _ _ ⟨by rw [zb_f (p := isD T m x y) (fun q => h3 q.2.1)], rfl, rfl⟩)
      · refine Ez.blk B_X9_hasDistance_29 (lo' := [some (.ref 1), some (.int m), some (.int x), some (.int y)]) (st' := [.int y, .ref 2]) (I' := I3) (J' := J3) (Ps := [aO E0 1 9 ∧ E0.2.2 1 0 ≠ 0]) rfl r_1_0 ?_
        refine Ez.callV (As := [.int y]) (b := 2) (rest := []) kn_X1_has ml_9_95 im_X1_has se_X1_has rfl (by decide +kernel) rfl rfl (Nat.le_of_ble_eq_true rfl) (Nat.le_of_ble_eq_true rfl) o_2 (s_has _ E0 I3 J3 2 (y) o_2) (fun r I4 J4 hq => ?_)
        obtain ⟨rfl, rfl, rfl⟩ := hq
        rw [hP.1.1 0 (by decide)]
        refine Ez.z_if_eq (off := 7) (tgt := 44) (by decide +kernel) (by decide) (fun h4 => ?_) (fun h4 => ?_)
        · refine Ez.blk B_X9_hasDistance_44 (lo' := [some (.ref 1), some (.int m), some (.int x), some (.int y)]) (st' := [.int 0]) (I' := I4) (J' := J4) (Ps := []) rfl trivial ?_
          exact Ez.zret rfl (Or.inl rfl) (by decide +kernel) (hQ _ _ _ ⟨by rw [zb_f (p := isD T m x y) (fun q => h4 q.2.2)], rfl, rfl⟩)
        · refine Ez.blk B_X9_hasDistance_40 (lo' := [some (.ref 1), some (.int m), some (.int x), some (.int y)]) (st' := [.int 1]) (I' := I4) (J' := J4) (Ps := []) rfl trivial ?_
          exact Ez.zret rfl (Or.inr rfl) (by decide +kernel) (hQ _ _ _ ⟨by rw [zb_t (p := isD T m x y) ⟨⟨h, i32_nlt.mp h2⟩, h3, h4⟩], rfl, rfl⟩)
theorem c_num (d : Nat) (I : aI) (J : aJ) (T : TS) (W : WT T) (hP : CP T I J) (m x y : Int32) : Sp m_X9_distanceNumerator (d + 7) [.ref 1, .int m, .int x, .int y] E0 I J (fun r I' J' => r = some (.long (f_frac 1 T m x y).1) ∧ CP (f_frac 1 T m x y).2 I' J' ∧ Fr9 I I' J J') := by
  refine Sp.of (lo := [some (.ref 1), some (.int m), some (.int x), some (.int y), none]) rfl (fun Q hQ => ?_)
  have w1 := W.1.1
  have w2 := W.1.2.1
  have wb := Wc_12 W.1
  refine Ez.blk B_X9_distanceNumerator_0 (lo' := [some (.ref 1), some (.int m), some (.int x), some (.int y), none]) (st' := [.int y, .int x, .int m, .ref 1]) (I' := I) (J' := J) (Ps := []) rfl trivial ?_
  refine Ez.callV (As := [.int m, .int x, .int y]) (b := 1) (rest := []) kn_X9_hasDistance ml_9_137 im_X9_hasDistance se_X9_hasDistance rfl (by decide +kernel) rfl rfl (Nat.le_of_ble_eq_true rfl) (Nat.le_of_ble_eq_true rfl) o_1 (s_hasD _ I J T W hP m x y) (fun r I1 J1 hq => ?_)
  obtain ⟨rfl, rfl, rfl⟩ := hq
  refine Ez.z_if_ne (off := 7) (tgt := 14) (by decide +kernel) (by decide) (fun h => ?_) (fun h => ?_)
  · obtain ⟨i, hi, rfl, hic⟩ := st_of (by omega) h.2.1
    obtain ⟨j, hj, rfl, hjc⟩ := st_of (by omega) h.2.2
    obtain ⟨n, hn, rfl, hnc, hng, hb⟩ := isM_of h.1
    refine Ez.blk B_X9_distanceNumerator_14 (lo' := [some (.ref 1), some (.int (nI n)), some (.int (nI i)), some (.int (nI j)), none]) (st' := [.int (nI n), .ref 2, .ref 43]) (I' := I1) (J' := J1) (Ps := [aO E0 1 9 ∧ E0.2.2 1 5 ≠ 0, aO E0 1 9 ∧ E0.2.2 1 0 ≠ 0]) rfl ⟨r_1_5, r_1_0⟩ ?_
    refine Ez.callV (As := [.ref 2, .int (nI n)]) (b := 43) (rest := []) kn_X3_levelFor ml_9_142 im_X3_levelFor se_X3_levelFor rfl (by decide +kernel) rfl rfl (Nat.le_of_ble_eq_true rfl) (Nat.le_of_ble_eq_true rfl) o_43 (s_level _ I1 J1 T W hP n hn hb) (fun r I2 J2 hq => ?_)
    obtain ⟨rfl, ⟨kd, hkd, hck⟩, fi, fj⟩ := hq
    have hP2 := CP_d hP fi fj ⟨T.1, kd, hck⟩
    refine Ez.blk B_X9_distanceNumerator_26 (lo' := [some (.ref 1), some (.int (nI n)), some (.int (nI i)), some (.int (nI j)), some (.ref (57 + n))]) (st' := [.int 1, .int (nI n), .long (J2 (57 + n) (((nI i * 6) + nI j).toNatClampNeg)), .ref 43]) (I' := I2) (J' := J2) (Ps := [aO E0 1 9 ∧ E0.2.2 1 5 ≠ 0, aAr E0 2 (57 + n) ((nI i * 6) + nI j)]) rfl ⟨r_1_5, (aA_in (lev_q n (by omega)) (vin (n := (i * 6 + j)) (eq_add (a := (i * 6)) (b := j) (eq_mul (a := i) (b := 6) rfl rfl) rfl) (by omega) (by decide)))⟩ ?_
    rw [cln (x := ((nI i * 6) + nI j)) (n := (i * 6 + j)) (eq_add (a := (i * 6)) (b := j) (eq_mul (a := i) (b := 6) rfl rfl) rfl) (by omega)]
    rw [show i * 6 + j = 6 * i + j by omega, hck.2.2.2.2.2.2.1 n hkd i j hi hj]
    refine Ez.callV (As := [.long (lN (dst T.1 n i j)), .int (nI n), .int (nI 1)]) (b := 43) (rest := []) kn_X3_inLowestTerms ml_9_146 im_X3_inLowestTerms se_X3_inLowestTerms rfl (by decide +kernel) rfl rfl (Nat.le_of_ble_eq_true rfl) (Nat.le_of_ble_eq_true rfl) o_43 (s_low _ I2 J2 (dst T.1 n i j) ((T.1 3 * T.1 1) ^ n) n 1 (Nat.le_trans ((dst_ok W.1 n).1 i j hi hj).1 hb) hb (Nat.pow_pos (Nat.mul_pos (by have := W.1.2.2.1; omega) (by omega))) (by omega) (by omega) (hck.2.2.2.2.2.1 n hkd)) (fun r I3 J3 hq => ?_)
    obtain ⟨rfl, rfl, rfl⟩ := hq
    exact Ez.lret rfl (by decide +kernel) (hQ _ _ _ (by unfold f_frac; rw [if_pos h, hic, hjc, hnc]; exact ⟨rfl, hP2, fun b hb9 => ⟨fi b (by omega), fj b (by omega)⟩⟩))
  · refine Ez.blk B_X9_distanceNumerator_10 (lo' := [some (.ref 1), some (.int m), some (.int x), some (.int y), none]) (st' := [.long (-9223372036854775808)]) (I' := I1) (J' := J1) (Ps := []) rfl trivial ?_
    exact Ez.lret rfl (by decide +kernel) (hQ _ _ _ (by unfold f_frac; rw [if_neg h]; exact ⟨rfl, hP, fun _ _ => ⟨rfl, rfl⟩⟩))
theorem c_den (d : Nat) (I : aI) (J : aJ) (T : TS) (W : WT T) (hP : CP T I J) (m x y : Int32) : Sp m_X9_distanceDenominator (d + 7) [.ref 1, .int m, .int x, .int y] E0 I J (fun r I' J' => r = some (.long (f_frac 0 T m x y).1) ∧ CP (f_frac 0 T m x y).2 I' J' ∧ Fr9 I I' J J') := by
  refine Sp.of (lo := [some (.ref 1), some (.int m), some (.int x), some (.int y), none]) rfl (fun Q hQ => ?_)
  have w1 := W.1.1
  have w2 := W.1.2.1
  have wb := Wc_12 W.1
  refine Ez.blk B_X9_distanceDenominator_0 (lo' := [some (.ref 1), some (.int m), some (.int x), some (.int y), none]) (st' := [.int y, .int x, .int m, .ref 1]) (I' := I) (J' := J) (Ps := []) rfl trivial ?_
  refine Ez.callV (As := [.int m, .int x, .int y]) (b := 1) (rest := []) kn_X9_hasDistance ml_9_137 im_X9_hasDistance se_X9_hasDistance rfl (by decide +kernel) rfl rfl (Nat.le_of_ble_eq_true rfl) (Nat.le_of_ble_eq_true rfl) o_1 (s_hasD _ I J T W hP m x y) (fun r I1 J1 hq => ?_)
  obtain ⟨rfl, rfl, rfl⟩ := hq
  refine Ez.z_if_ne (off := 7) (tgt := 14) (by decide +kernel) (by decide) (fun h => ?_) (fun h => ?_)
  · obtain ⟨i, hi, rfl, hic⟩ := st_of (by omega) h.2.1
    obtain ⟨j, hj, rfl, hjc⟩ := st_of (by omega) h.2.2
    obtain ⟨n, hn, rfl, hnc, hng, hb⟩ := isM_of h.1
    refine Ez.blk B_X9_distanceDenominator_14 (lo' := [some (.ref 1), some (.int (nI n)), some (.int (nI i)), some (.int (nI j)), none]) (st' := [.int (nI n), .ref 2, .ref 43]) (I' := I1) (J' := J1) (Ps := [aO E0 1 9 ∧ E0.2.2 1 5 ≠ 0, aO E0 1 9 ∧ E0.2.2 1 0 ≠ 0]) rfl ⟨r_1_5, r_1_0⟩ ?_
    refine Ez.callV (As := [.ref 2, .int (nI n)]) (b := 43) (rest := []) kn_X3_levelFor ml_9_142 im_X3_levelFor se_X3_levelFor rfl (by decide +kernel) rfl rfl (Nat.le_of_ble_eq_true rfl) (Nat.le_of_ble_eq_true rfl) o_43 (s_level _ I1 J1 T W hP n hn hb) (fun r I2 J2 hq => ?_)
    obtain ⟨rfl, ⟨kd, hkd, hck⟩, fi, fj⟩ := hq
    have hP2 := CP_d hP fi fj ⟨T.1, kd, hck⟩
    refine Ez.blk B_X9_distanceDenominator_26 (lo' := [some (.ref 1), some (.int (nI n)), some (.int (nI i)), some (.int (nI j)), some (.ref (57 + n))]) (st' := [.int 0, .int (nI n), .long (J2 (57 + n) (((nI i * 6) + nI j).toNatClampNeg)), .ref 43]) (I' := I2) (J' := J2) (Ps := [aO E0 1 9 ∧ E0.2.2 1 5 ≠ 0, aAr E0 2 (57 + n) ((nI i * 6) + nI j)]) rfl ⟨r_1_5, (aA_in (lev_q n (by omega)) (vin (n := (i * 6 + j)) (eq_add (a := (i * 6)) (b := j) (eq_mul (a := i) (b := 6) rfl rfl) rfl) (by omega) (by decide)))⟩ ?_
    rw [cln (x := ((nI i * 6) + nI j)) (n := (i * 6 + j)) (eq_add (a := (i * 6)) (b := j) (eq_mul (a := i) (b := 6) rfl rfl) rfl) (by omega)]
    rw [show i * 6 + j = 6 * i + j by omega, hck.2.2.2.2.2.2.1 n hkd i j hi hj]
    refine Ez.callV (As := [.long (lN (dst T.1 n i j)), .int (nI n), .int (nI 0)]) (b := 43) (rest := []) kn_X3_inLowestTerms ml_9_146 im_X3_inLowestTerms se_X3_inLowestTerms rfl (by decide +kernel) rfl rfl (Nat.le_of_ble_eq_true rfl) (Nat.le_of_ble_eq_true rfl) o_43 (s_low _ I2 J2 (dst T.1 n i j) ((T.1 3 * T.1 1) ^ n) n 0 (Nat.le_trans ((dst_ok W.1 n).1 i j hi hj).1 hb) hb (Nat.pow_pos (Nat.mul_pos (by have := W.1.2.2.1; omega) (by omega))) (by omega) (by omega) (hck.2.2.2.2.2.1 n hkd)) (fun r I3 J3 hq => ?_)
    obtain ⟨rfl, rfl, rfl⟩ := hq
    exact Ez.lret rfl (by decide +kernel) (hQ _ _ _ (by unfold f_frac; rw [if_pos h, hic, hjc, hnc]; exact ⟨rfl, hP2, fun b hb9 => ⟨fi b (by omega), fj b (by omega)⟩⟩))
  · refine Ez.blk B_X9_distanceDenominator_10 (lo' := [some (.ref 1), some (.int m), some (.int x), some (.int y), none]) (st' := [.long (-9223372036854775808)]) (I' := I1) (J' := J1) (Ps := []) rfl trivial ?_
    exact Ez.lret rfl (by decide +kernel) (hQ _ _ _ (by unfold f_frac; rw [if_neg h]; exact ⟨rfl, hP, fun _ _ => ⟨rfl, rfl⟩⟩))

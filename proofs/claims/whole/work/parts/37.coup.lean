/-! DISTANCES: the coupling -/
theorem s_cc (d : Nat) (I : aI) (J : aJ) (c : Nat → Nat) (kd : Nat) (hck : CCk c kd I J) (m : Nat) (hm : m ≤ kd) (a b : Nat) (ha : a < c 0) (hb : b < c 0) : Sp m_X3_canonicalCoupling (d + 5) [.ref 43, .ref (57 + m), .int (nI a), .int (nI b)] E0 I J (fun r I' J' => r = some (.ref 48) ∧ (∃ F, (∀ q, q < 36 → I' 48 q = nI (F q)) ∧ Can (c 0) (wro_ c a) (wro_ c b) (dst c m) (mx F)) ∧ (∀ q, ¬ (47 ≤ q ∧ q ≤ 55) → I' q = I q) ∧ ∀ q, ¬ (q = 49 ∨ q = 52 ∨ q = 53) → J' q = J q) := by
  refine Sp.of (lo := [some (.ref 43), some (.ref (57 + m)), some (.int (nI a)), some (.int (nI b))]) rfl (fun Q hQ => ?_)
  have W := hck.1
  have hd := dst_ok W m
  have k15 := hck.2.2.1
  have hb15 : (c 3 * c 1) ^ m ≤ 1000000000000000 := Nat.le_trans (Nat.pow_le_pow_right (Nat.mul_pos (by have := W.2.2.1; omega) (by have := W.2.1; omega)) hm) hck.2.2.2.2.1
  have w1 := W.1
  refine Ez.blk B_X3_canonicalCoupling_0 (lo' := [some (.ref 43), some (.ref (57 + m)), some (.int (nI a)), some (.int (nI b))]) (st' := [.ref (57 + m), .ref 47]) (I' := I) (J' := J) (Ps := [aO E0 43 3 ∧ E0.2.2 43 1 ≠ 0]) rfl r_43_1 ?_
  refine Ez.callV (As := [.ref (57 + m)]) (b := 47) (rest := []) kn_X8_useCosts ml_3_56 im_X8_useCosts se_X8_useCosts rfl (by decide +kernel) rfl rfl (Nat.le_of_ble_eq_true rfl) (Nat.le_of_ble_eq_true rfl) o_47 (s_use _ I J m (by omega)) (fun r I1 J1 hq => ?_)
  obtain ⟨rfl, rfl, m1, m2⟩ := hq
  have hT : Tc (c 0) (dst c m) J1 := ⟨w1, fun i j hi hj => ⟨by rw [m1 _ (by omega), show i * 6 + j = 6 * i + j by omega]; exact hck.2.2.2.2.2.2.1 m hm i j hi hj, Nat.le_trans (hd.1 i j hi hj).1 hb15⟩, hd.2⟩
  refine Ez.blk B_X3_canonicalCoupling_8 (lo' := [some (.ref 43), some (.ref (57 + m)), some (.int (nI a)), some (.int (nI b))]) (st' := [.int (nI b), .int (nI a), .ref 44, .ref 47]) (I' := I1) (J' := J1) (Ps := [aO E0 43 3 ∧ E0.2.2 43 1 ≠ 0, aO E0 43 3 ∧ E0.2.2 43 0 ≠ 0]) rfl ⟨r_43_1, r_43_0⟩ ?_
  refine Ez.callV (As := [.ref 44, .int (nI a), .int (nI b)]) (b := 47) (rest := []) kn_X8_solve ml_3_70 im_X8_solve se_X8_solve rfl (by decide +kernel) rfl rfl (Nat.le_of_ble_eq_true rfl) (Nat.le_of_ble_eq_true rfl) o_47 (s_solve _ I1 J1 c hck.2.1 W (dst c m) hT a b ha hb) (fun r I2 J2 hq => ?_)
  obtain ⟨rfl, ⟨F, u, v, hS⟩, fi, fj⟩ := hq
  generalize lN (mcost (c 0) (wro_ c a) (wro_ c b) (dst c m)) = x
  refine Ez.blk B_X3_canonicalCoupling_21 (lo' := [some (.ref 43), some (.ref (57 + m)), some (.int (nI a)), some (.int (nI b))]) (st' := [.ref 47]) (I' := I2) (J' := J2) (Ps := [aO E0 43 3 ∧ E0.2.2 43 1 ≠ 0]) rfl r_43_1 ?_
  refine Ez.callV (As := []) (b := 47) (rest := []) kn_X8_makeCanonical ml_3_74 im_X8_makeCanonical se_X8_makeCanonical rfl (by decide +kernel) rfl rfl (Nat.le_of_ble_eq_true rfl) (Nat.le_of_ble_eq_true rfl) o_47 (s_canon _ I2 J2 (c 0) (dst c m) (wro_ c a) (wro_ c b) F u v hS (fun i hi => by have := Wc_w W (a * 6 + i) (by omega); show c (10 + 6 * a + i) ≤ 12; rw [show 10 + 6 * a + i = 10 + (a * 6 + i) by omega]; exact this)) (fun r I3 J3 hq => ?_)
  obtain ⟨rfl, ⟨F3, hS3, hcan⟩, gi, gj⟩ := hq
  refine Ez.blk B_X3_canonicalCoupling_29 (lo' := [some (.ref 43), some (.ref (57 + m)), some (.int (nI a)), some (.int (nI b))]) (st' := [.ref 48]) (I' := I3) (J' := J3) (Ps := [aO E0 43 3 ∧ E0.2.2 43 1 ≠ 0, aO E0 47 8 ∧ E0.2.2 47 0 ≠ 0]) rfl ⟨r_43_1, r_47_0⟩ ?_
  exact Ez.aret rfl (Or.inr ⟨_, rfl⟩) (by decide +kernel) (hQ _ _ _ ⟨rfl, ⟨F3, hS3.2.1, hcan⟩, fun q hq => by rw [gi q (by omega), fi q hq], fun q hq => by rw [gj q (by omega), fj q (by omega), m2 q (by omega)]⟩)
theorem c_cpl (d : Nat) (I : aI) (J : aJ) (T : TS) (W : WT T) (hP : CP T I J) (m p x y : Int32) : Sp m_X9_coupling (d + 7) [.ref 1, .int m, .int p, .int x, .int y] E0 I J (fun r I' J' => r = some (.int (f_cpl T m p x y).1) ∧ CP (f_cpl T m p x y).2 I' J' ∧ Fr9 I I' J J') := by
  refine Sp.of (lo := [some (.ref 1), some (.int m), some (.int p), some (.int x), some (.int y), none, none]) rfl (fun Q hQ => ?_)
  have w1 := W.1.1
  have w2 := W.1.2.1
  have wb := Wc_12 W.1
  refine Ez.blk B_X9_coupling_0 (lo' := [some (.ref 1), some (.int m), some (.int p), some (.int x), some (.int y), none, none]) (st' := [.int 15, .int 0, .int m]) (I' := I) (J' := J) (Ps := []) rfl trivial ?_
  refine Ez.callS (As := [.int m, .int 0, .int 15]) (rest := []) kn_X9_isWithin ml_9_77 sm_X9_isWithin (by decide +kernel) rfl rfl (Nat.le_of_ble_eq_true rfl) (Nat.le_of_ble_eq_true rfl) (s_isWithin _ E0 I J m 0 15) (fun r I1 J1 hq => ?_)
  obtain ⟨rfl, rfl, rfl⟩ := hq
  refine Ez.z_if_ne (off := 5) (tgt := 12) (by decide +kernel) (by decide) (fun h => ?_) (fun h => ?_)
  · refine Ez.blk B_X9_coupling_12 (lo' := [some (.ref 1), some (.int m), some (.int p), some (.int x), some (.int y), none, none]) (st' := [.int p, .ref 1]) (I' := I1) (J' := J1) (Ps := []) rfl trivial ?_
    refine Ez.callV (As := [.int p]) (b := 1) (rest := []) kn_X9_isPair ml_9_150 im_X9_isPair se_X9_isPair rfl (by decide +kernel) rfl rfl (Nat.le_of_ble_eq_true rfl) (Nat.le_of_ble_eq_true rfl) o_1 (s_isP _ I1 J1 T W hP p) (fun r I2 J2 hq => ?_)
    obtain ⟨rfl, rfl, rfl⟩ := hq
    refine Ez.z_if_eq (off := 26) (tgt := 43) (by decide +kernel) (by decide) (fun h2 => ?_) (fun h2 => ?_)
    · refine Ez.blk B_X9_coupling_43 (lo' := [some (.ref 1), some (.int m), some (.int p), some (.int x), some (.int y), none, none]) (st' := [.int (-2)]) (I' := I2) (J' := J2) (Ps := []) rfl trivial ?_
      exact Ez.iret rfl (by decide +kernel) (hQ _ _ _ (by unfold f_cpl; rw [if_pos h, if_neg (fun z => h2 z.1)]; exact ⟨rfl, hP, fun _ _ => ⟨rfl, rfl⟩⟩))
    · refine Ez.blk B_X9_coupling_20 (lo' := [some (.ref 1), some (.int m), some (.int p), some (.int x), some (.int y), none, none]) (st' := [.int x, .ref 2]) (I' := I2) (J' := J2) (Ps := [aO E0 1 9 ∧ E0.2.2 1 0 ≠ 0]) rfl r_1_0 ?_
      refine Ez.callV (As := [.int x]) (b := 2) (rest := []) kn_X1_has ml_9_95 im_X1_has se_X1_has rfl (by decide +kernel) rfl rfl (Nat.le_of_ble_eq_true rfl) (Nat.le_of_ble_eq_true rfl) o_2 (s_has _ E0 I2 J2 2 (x) o_2) (fun r I3 J3 hq => ?_)
      obtain ⟨rfl, rfl, rfl⟩ := hq
      rw [hP.1.1 0 (by decide)]
      refine Ez.z_if_eq (off := 15) (tgt := 43) (by decide +kernel) (by decide) (fun h3 => ?_) (fun h3 => ?_)
      · refine Ez.blk B_X9_coupling_43 (lo' := [some (.ref 1), some (.int m), some (.int p), some (.int x), some (.int y), none, none]) (st' := [.int (-2)]) (I' := I3) (J' := J3) (Ps := []) rfl trivial ?_
        exact Ez.iret rfl (by decide +kernel) (hQ _ _ _ (by unfold f_cpl; rw [if_pos h, if_neg (fun z => h3 z.2.1)]; exact ⟨rfl, hP, fun _ _ => ⟨rfl, rfl⟩⟩))
      · refine Ez.blk B_X9_coupling_31 (lo' := [some (.ref 1), some (.int m), some (.int p), some (.int x), some (.int y), none, none]) (st' := [.int y, .ref 2]) (I' := I3) (J' := J3) (Ps := [aO E0 1 9 ∧ E0.2.2 1 0 ≠ 0]) rfl r_1_0 ?_
        refine Ez.callV (As := [.int y]) (b := 2) (rest := []) kn_X1_has ml_9_95 im_X1_has se_X1_has rfl (by decide +kernel) rfl rfl (Nat.le_of_ble_eq_true rfl) (Nat.le_of_ble_eq_true rfl) o_2 (s_has _ E0 I3 J3 2 (y) o_2) (fun r I4 J4 hq => ?_)
        obtain ⟨rfl, rfl, rfl⟩ := hq
        rw [hP.1.1 0 (by decide)]
        refine Ez.z_if_ne (off := 6) (tgt := 46) (by decide +kernel) (by decide) (fun h5 => ?_) (fun h5 => ?_)
        · refine Ez.blk B_X9_coupling_46 (lo' := [some (.ref 1), some (.int m), some (.int p), some (.int x), some (.int y), none, none]) (st' := [.ref 1, .int m]) (I' := I4) (J' := J4) (Ps := []) rfl trivial ?_
          refine Ez.callV (As := []) (b := 1) (rest := [.int m]) kn_X9_greatestDepth ml_9_133 im_X9_greatestDepth se_X9_greatestDepth rfl (by decide +kernel) rfl rfl (Nat.le_of_ble_eq_true rfl) (Nat.le_of_ble_eq_true rfl) o_1 (s_gd _ I4 J4 T.1 hP.1 W.1) (fun r I6 J6 hq => ?_)
          obtain ⟨rfl, rfl, rfl⟩ := hq
          refine Ez.icmp_le (off := 6) (tgt := 57) (by decide +kernel) (by decide) (fun h4 => ?_) (fun h4 => ?_)
          · have ev : f_cpl T m p x y = (nI (ccp T.1 m.toNatClampNeg (p.toNatClampNeg / 10) (p.toNatClampNeg % 10) x.toNatClampNeg y.toNatClampNeg), T) := by unfold f_cpl; rw [if_pos h, if_pos ⟨h2, h3, h5⟩, if_pos h4]
            obtain ⟨n, hn, rfl, hnc, hng, hb⟩ := isM_of (T := T) ⟨h, h4⟩
            obtain ⟨q, hq, rfl, hqc, hq1, hq2⟩ := isP_of h2 (by omega)
            obtain ⟨i, hi, rfl, hic⟩ := st_of (by omega) h3
            obtain ⟨j, hj, rfl, hjc⟩ := st_of (by omega) h5
            rw [hnc, hqc, hic, hjc] at ev
            refine Ez.blk B_X9_coupling_57 (lo' := [some (.ref 1), some (.int (nI n)), some (.int (nI q)), some (.int (nI i)), some (.int (nI j)), none, none]) (st' := [.int (nI n), .ref 2, .ref 43]) (I' := I6) (J' := J6) (Ps := [aO E0 1 9 ∧ E0.2.2 1 5 ≠ 0, aO E0 1 9 ∧ E0.2.2 1 0 ≠ 0]) rfl ⟨r_1_5, r_1_0⟩ ?_
            refine Ez.callV (As := [.ref 2, .int (nI n)]) (b := 43) (rest := []) kn_X3_levelFor ml_9_142 im_X3_levelFor se_X3_levelFor rfl (by decide +kernel) rfl rfl (Nat.le_of_ble_eq_true rfl) (Nat.le_of_ble_eq_true rfl) o_43 (s_level _ I6 J6 T W hP n hn hb) (fun r I5 J5 hq => ?_)
            obtain ⟨rfl, ⟨kd, hkd, hck⟩, fi, fj⟩ := hq
            refine Ez.blk B_X9_coupling_69 (lo' := [some (.ref 1), some (.int (nI n)), some (.int (nI q)), some (.int (nI i)), some (.int (nI j)), some (.ref (57 + n)), none]) (st' := [.int (nI q - nI q / 10 * 10), .int (nI q / 10), .ref (57 + n), .ref 43]) (I' := I5) (J' := J5) (Ps := [aO E0 1 9 ∧ E0.2.2 1 5 ≠ 0, ¬ 10 = 0, ¬ 10 = 0]) rfl ⟨r_1_5, (show ¬ (10 : Int32) = 0 by decide), (show ¬ (10 : Int32) = 0 by decide)⟩ ?_
            rw [show nI q / 10 = nI (q / 10) from eq_div (a := q) (b := 10) rfl rfl (by omega) (by omega) (by omega), show nI q - nI (q / 10) * 10 = nI (q % 10) from by rw [← eq_div (a := q) (b := 10) (x := nI q) (y := 10) rfl rfl (by omega) (by omega) (by omega)]; exact eq_rem (a := q) (b := 10) rfl rfl (by omega) (by omega) (by omega)]
            refine Ez.callV (As := [.ref (57 + n), .int (nI (q / 10)), .int (nI (q % 10))]) (b := 43) (rest := []) kn_X3_canonicalCoupling ml_9_159 im_X3_canonicalCoupling se_X3_canonicalCoupling rfl (by decide +kernel) rfl rfl (Nat.le_of_ble_eq_true rfl) (Nat.le_of_ble_eq_true rfl) o_43 (s_cc _ I5 J5 T.1 kd hck n hkd (q / 10) (q % 10) hq1 hq2) (fun r I7 J7 hq => ?_)
            obtain ⟨rfl, ⟨F, hF, hcan⟩, gi, gj⟩ := hq
            have hc2 : CCk T.1 kd I7 J7 := CCk_fr hck (fun b h0 h1 => gi b (by omega)) (fun b h0 h1 => gj b (by omega))
            have fi2 : ∀ q, ¬ (43 ≤ q ∧ q ≤ 73) → I7 q = I6 q := fun q hq => by rw [gi q (by omega)]; exact fi q hq
            have fj2 : ∀ q, ¬ (43 ≤ q ∧ q ≤ 73) → J7 q = J6 q := fun q hq => by rw [gj q (by omega)]; exact fj q hq
            have hP2 := CP_d hP fi2 fj2 ⟨T.1, kd, hc2⟩
            have e48 : I7 48 (i * 6 + j) = nI (ccp T.1 n (q / 10) (q % 10) i j) := by rw [hF _ (by omega), ← ccp_eq hcan i j hi hj]
            refine Ez.blk B_X9_coupling_88 (lo' := [some (.ref 1), some (.int (nI n)), some (.int (nI q)), some (.int (nI i)), some (.int (nI j)), some (.ref (57 + n)), some (.ref 48)]) (st' := [.int (I7 48 (((nI i * 6) + nI j).toNatClampNeg))]) (I' := I7) (J' := J7) (Ps := [aAr E0 1 48 ((nI i * 6) + nI j)]) rfl (a_48 (vin (n := (i * 6 + j)) (eq_add (a := (i * 6)) (b := j) (eq_mul (a := i) (b := 6) rfl rfl) rfl) (by omega) (by decide))) ?_
            rw [cln (x := ((nI i * 6) + nI j)) (n := (i * 6 + j)) (eq_add (a := (i * 6)) (b := j) (eq_mul (a := i) (b := 6) rfl rfl) rfl) (by omega)]
            rw [e48]
            exact Ez.iret rfl (by decide +kernel) (hQ _ _ _ (by rw [ev]; exact ⟨rfl, hP2, fun b hb9 => ⟨fi2 b (by omega), fj2 b (by omega)⟩⟩))
          · refine Ez.blk B_X9_coupling_54 (lo' := [some (.ref 1), some (.int m), some (.int p), some (.int x), some (.int y), none, none]) (st' := [.int (-4)]) (I' := I6) (J' := J6) (Ps := []) rfl trivial ?_
            exact Ez.iret rfl (by decide +kernel) (hQ _ _ _ (by unfold f_cpl; rw [if_pos h, if_pos ⟨h2, h3, h5⟩, if_neg h4]; exact ⟨rfl, hP, fun _ _ => ⟨rfl, rfl⟩⟩))
        · refine Ez.blk B_X9_coupling_43 (lo' := [some (.ref 1), some (.int m), some (.int p), some (.int x), some (.int y), none, none]) (st' := [.int (-2)]) (I' := I4) (J' := J4) (Ps := []) rfl trivial ?_
          exact Ez.iret rfl (by decide +kernel) (hQ _ _ _ (by unfold f_cpl; rw [if_pos h, if_neg (fun z => h5 z.2.2)]; exact ⟨rfl, hP, fun _ _ => ⟨rfl, rfl⟩⟩))
  · refine Ez.blk B_X9_coupling_10 (lo' := [some (.ref 1), some (.int m), some (.int p), some (.int x), some (.int y), none, none]) (st' := [.int (-1)]) (I' := I1) (J' := J1) (Ps := []) rfl trivial ?_
    exact Ez.iret rfl (by decide +kernel) (hQ _ _ _ (by unfold f_cpl; rw [if_neg h]; exact ⟨rfl, hP, fun _ _ => ⟨rfl, rfl⟩⟩))

/-! DISTANCES: pairs -/
abbrev isP (T : TS) (p : Int32) : Prop := 0 ≤ p ∧ isS T (p / 10) ∧ isS T (p - p / 10 * 10)
theorem isP_of {T : TS} {p : Int32} (h : isP T p) (hn : T.1 0 ≤ 6) : ∃ q, q < 66 ∧ p = nI q ∧ p.toNatClampNeg = q ∧ q / 10 < T.1 0 ∧ q % 10 < T.1 0 := by
  obtain ⟨q, hq, rfl⟩ := nI_of (i32_nlt.mpr h.1)
  have h1 := h.2.1.2
  have h2 := h.2.2.2
  have e1 : nI q / 10 = nI (q / 10) := eq_div (a := q) (b := 10) rfl rfl hq (by omega) (by omega)
  have e2 : nI q - nI q / 10 * 10 = nI (q % 10) := eq_rem (a := q) (b := 10) rfl rfl hq (by omega) (by omega)
  rw [e1] at h1
  rw [e2] at h2
  have h1 := (nI_ltI (by omega) (by omega)).mp h1
  have h2 := (nI_ltI (by omega) (by omega)).mp h2
  exact ⟨q, by omega, rfl, nI_clamp hq, h1, h2⟩
def cmp3 (a b : Nat) : Int32 := if a < b then 0 else if a = b then 1 else 2
noncomputable def dpr (c : Nat → Nat) (m q : Nat) : Nat := dst c m (q / 10) (q % 10)
noncomputable def f_cmp (T : TS) (m p q : Int32) : Int32 × TS := if 0 ≤ m ∧ m ≤ 15 then (if isP T p ∧ isP T q then (if m ≤ nI (gdp T.1) then (cmp3 (dpr T.1 m.toNatClampNeg p.toNatClampNeg) (dpr T.1 m.toNatClampNeg q.toNatClampNeg), T) else (-4, T)) else (-2, T)) else (-1, T)
theorem s_isP (d : Nat) (I : aI) (J : aJ) (T : TS) (W : WT T) (hP : CP T I J) (p : Int32) : Sp m_X9_isPair (d + 2) [.ref 1, .int p] E0 I J (fun r I' J' => r = some (.int (zb (isP T p))) ∧ I' = I ∧ J' = J) := by
  refine Sp.of (lo := [some (.ref 1), some (.int p)]) rfl (fun Q hQ => ?_)
  have w1 := W.1.1
  have w2 := W.1.2.1
  have wb := Wc_12 W.1
  refine Ez.blk B_X9_isPair_0 (lo' := [some (.ref 1), some (.int p)]) (st' := [.int p]) (I' := I) (J' := J) (Ps := []) rfl trivial ?_
  refine Ez.if_lt (off := 35) (tgt := 36) (by decide +kernel) (by decide) (fun h => ?_) (fun h => ?_)
  · refine Ez.blk B_X9_isPair_36 (lo' := [some (.ref 1), some (.int p)]) (st' := [.int 0]) (I' := I) (J' := J) (Ps := []) rfl trivial ?_
    exact Ez.zret rfl (Or.inl rfl) (by decide +kernel) (hQ _ _ _ ⟨by rw [zb_f (p := isP T p) (fun q => absurd q.1 (fun z => absurd h (i32_nlt.mpr z)))], rfl, rfl⟩)
  · refine Ez.blk B_X9_isPair_4 (lo' := [some (.ref 1), some (.int p)]) (st' := [.int (p / 10), .ref 2]) (I' := I) (J' := J) (Ps := [aO E0 1 9 ∧ E0.2.2 1 0 ≠ 0, ¬ 10 = 0]) rfl ⟨r_1_0, (show ¬ (10 : Int32) = 0 by decide)⟩ ?_
    refine Ez.callV (As := [.int (p / 10)]) (b := 2) (rest := []) kn_X1_has ml_9_95 im_X1_has se_X1_has rfl (by decide +kernel) rfl rfl (Nat.le_of_ble_eq_true rfl) (Nat.le_of_ble_eq_true rfl) o_2 (s_has _ E0 I J 2 ((p / 10)) o_2) (fun r I1 J1 hq => ?_)
    obtain ⟨rfl, rfl, rfl⟩ := hq
    rw [hP.1.1 0 (by decide)]
    refine Ez.z_if_eq (off := 21) (tgt := 36) (by decide +kernel) (by decide) (fun h2 => ?_) (fun h2 => ?_)
    · refine Ez.blk B_X9_isPair_36 (lo' := [some (.ref 1), some (.int p)]) (st' := [.int 0]) (I' := I1) (J' := J1) (Ps := []) rfl trivial ?_
      exact Ez.zret rfl (Or.inl rfl) (by decide +kernel) (hQ _ _ _ ⟨by rw [zb_f (p := isP T p) (fun q => h2 q.2.1)], rfl, rfl⟩)
    · refine Ez.blk B_X9_isPair_18 (lo' := [some (.ref 1), some (.int p)]) (st' := [.int (p - p / 10 * 10), .ref 2]) (I' := I1) (J' := J1) (Ps := [aO E0 1 9 ∧ E0.2.2 1 0 ≠ 0, ¬ 10 = 0]) rfl ⟨r_1_0, (show ¬ (10 : Int32) = 0 by decide)⟩ ?_
      refine Ez.callV (As := [.int (p - p / 10 * 10)]) (b := 2) (rest := []) kn_X1_has ml_9_95 im_X1_has se_X1_has rfl (by decide +kernel) rfl rfl (Nat.le_of_ble_eq_true rfl) (Nat.le_of_ble_eq_true rfl) o_2 (s_has _ E0 I1 J1 2 ((p - p / 10 * 10)) o_2) (fun r I2 J2 hq => ?_)
      obtain ⟨rfl, rfl, rfl⟩ := hq
      rw [hP.1.1 0 (by decide)]
      refine Ez.z_if_eq (off := 7) (tgt := 36) (by decide +kernel) (by decide) (fun h3 => ?_) (fun h3 => ?_)
      · refine Ez.blk B_X9_isPair_36 (lo' := [some (.ref 1), some (.int p)]) (st' := [.int 0]) (I' := I2) (J' := J2) (Ps := []) rfl trivial ?_
        exact Ez.zret rfl (Or.inl rfl) (by decide +kernel) (hQ _ _ _ ⟨by rw [zb_f (p := isP T p) (fun q => h3 q.2.2)], rfl, rfl⟩)
      · refine Ez.blk B_X9_isPair_32 (lo' := [some (.ref 1), some (.int p)]) (st' := [.int 1]) (I' := I2) (J' := J2) (Ps := []) rfl trivial ?_
        exact Ez.zret rfl (Or.inr rfl) (by decide +kernel) (hQ _ _ _ ⟨by rw [zb_t (p := isP T p) ⟨i32_nlt.mp h, h2, h3⟩], rfl, rfl⟩)
theorem s_cell (d : Nat) (I : aI) (J : aJ) (q : Nat) (hq : q < 66) : Sp m_X9_cellOfPair (d + 1) [.int (nI q)] E0 I J (fun r I' J' => r = some (.int (nI (q / 10 * 6 + q % 10))) ∧ I' = I ∧ J' = J) := by
  refine Sp.of (lo := [some (.int (nI q))]) rfl (fun Q hQ => ?_)
  refine Ez.blk B_X9_cellOfPair_0 (lo' := [some (.int (nI q))]) (st' := [.int (((nI q / 10) * 6) + (nI q - nI q / 10 * 10))]) (I' := I) (J' := J) (Ps := [¬ 10 = 0, ¬ 10 = 0]) rfl ⟨(show ¬ (10 : Int32) = 0 by decide), (show ¬ (10 : Int32) = 0 by decide)⟩ ?_
  rw [show nI q / 10 = nI (q / 10) from eq_div (a := q) (b := 10) rfl rfl (by omega) (by omega) (by omega), show nI q - nI (q / 10) * 10 = nI (q % 10) from by rw [← eq_div (a := q) (b := 10) (x := nI q) (y := 10) rfl rfl (by omega) (by omega) (by omega)]; exact eq_rem (a := q) (b := 10) rfl rfl (by omega) (by omega) (by omega), show nI (q / 10) * 6 + nI (q % 10) = nI (q / 10 * 6 + q % 10) from eq_add (a := q / 10 * 6) (b := q % 10) (eq_mul (a := q / 10) (b := 6) rfl rfl) rfl]
  exact Ez.iret rfl (by decide +kernel) (hQ _ _ _ ⟨rfl, rfl, rfl⟩)
theorem c_cmp (d : Nat) (I : aI) (J : aJ) (T : TS) (W : WT T) (hP : CP T I J) (m p q : Int32) : Sp m_X9_compareDistances (d + 7) [.ref 1, .int m, .int p, .int q] E0 I J (fun r I' J' => r = some (.int (f_cmp T m p q).1) ∧ CP (f_cmp T m p q).2 I' J' ∧ Fr9 I I' J J') := by
  refine Sp.of (lo := [some (.ref 1), some (.int m), some (.int p), some (.int q), none, none, none, none, none]) rfl (fun Q hQ => ?_)
  have w1 := W.1.1
  have w2 := W.1.2.1
  have wb := Wc_12 W.1
  refine Ez.blk B_X9_compareDistances_0 (lo' := [some (.ref 1), some (.int m), some (.int p), some (.int q), none, none, none, none, none]) (st' := [.int 15, .int 0, .int m]) (I' := I) (J' := J) (Ps := []) rfl trivial ?_
  refine Ez.callS (As := [.int m, .int 0, .int 15]) (rest := []) kn_X9_isWithin ml_9_77 sm_X9_isWithin (by decide +kernel) rfl rfl (Nat.le_of_ble_eq_true rfl) (Nat.le_of_ble_eq_true rfl) (s_isWithin _ E0 I J m 0 15) (fun r I1 J1 hq => ?_)
  obtain ⟨rfl, rfl, rfl⟩ := hq
  refine Ez.z_if_ne (off := 5) (tgt := 12) (by decide +kernel) (by decide) (fun h => ?_) (fun h => ?_)
  · refine Ez.blk B_X9_compareDistances_12 (lo' := [some (.ref 1), some (.int m), some (.int p), some (.int q), none, none, none, none, none]) (st' := [.int p, .ref 1]) (I' := I1) (J' := J1) (Ps := []) rfl trivial ?_
    refine Ez.callV (As := [.int p]) (b := 1) (rest := []) kn_X9_isPair ml_9_150 im_X9_isPair se_X9_isPair rfl (by decide +kernel) rfl rfl (Nat.le_of_ble_eq_true rfl) (Nat.le_of_ble_eq_true rfl) o_1 (s_isP _ I1 J1 T W hP p) (fun r I2 J2 hq => ?_)
    obtain ⟨rfl, rfl, rfl⟩ := hq
    refine Ez.z_if_eq (off := 11) (tgt := 28) (by decide +kernel) (by decide) (fun h2 => ?_) (fun h2 => ?_)
    · refine Ez.blk B_X9_compareDistances_28 (lo' := [some (.ref 1), some (.int m), some (.int p), some (.int q), none, none, none, none, none]) (st' := [.int (-2)]) (I' := I2) (J' := J2) (Ps := []) rfl trivial ?_
      exact Ez.iret rfl (by decide +kernel) (hQ _ _ _ (by unfold f_cmp; rw [if_pos h, if_neg (fun z => h2 z.1)]; exact ⟨rfl, hP, fun _ _ => ⟨rfl, rfl⟩⟩))
    · refine Ez.blk B_X9_compareDistances_20 (lo' := [some (.ref 1), some (.int m), some (.int p), some (.int q), none, none, none, none, none]) (st' := [.int q, .ref 1]) (I' := I2) (J' := J2) (Ps := []) rfl trivial ?_
      refine Ez.callV (As := [.int q]) (b := 1) (rest := []) kn_X9_isPair ml_9_150 im_X9_isPair se_X9_isPair rfl (by decide +kernel) rfl rfl (Nat.le_of_ble_eq_true rfl) (Nat.le_of_ble_eq_true rfl) o_1 (s_isP _ I2 J2 T W hP q) (fun r I3 J3 hq => ?_)
      obtain ⟨rfl, rfl, rfl⟩ := hq
      refine Ez.z_if_ne (off := 6) (tgt := 31) (by decide +kernel) (by decide) (fun h3 => ?_) (fun h3 => ?_)
      · refine Ez.blk B_X9_compareDistances_31 (lo' := [some (.ref 1), some (.int m), some (.int p), some (.int q), none, none, none, none, none]) (st' := [.ref 1, .int m]) (I' := I3) (J' := J3) (Ps := []) rfl trivial ?_
        refine Ez.callV (As := []) (b := 1) (rest := [.int m]) kn_X9_greatestDepth ml_9_133 im_X9_greatestDepth se_X9_greatestDepth rfl (by decide +kernel) rfl rfl (Nat.le_of_ble_eq_true rfl) (Nat.le_of_ble_eq_true rfl) o_1 (s_gd _ I3 J3 T.1 hP.1 W.1) (fun r I4 J4 hq => ?_)
        obtain ⟨rfl, rfl, rfl⟩ := hq
        refine Ez.icmp_le (off := 6) (tgt := 42) (by decide +kernel) (by decide) (fun h4 => ?_) (fun h4 => ?_)
        · have ev : f_cmp T m p q = (cmp3 (dpr T.1 m.toNatClampNeg p.toNatClampNeg) (dpr T.1 m.toNatClampNeg q.toNatClampNeg), T) := by unfold f_cmp; rw [if_pos h, if_pos ⟨h2, h3⟩, if_pos h4]
          obtain ⟨n, hn, rfl, hnc, hng, hb⟩ := isM_of (T := T) ⟨h, h4⟩
          obtain ⟨x, hx, rfl, hxc, hx1, hx2⟩ := isP_of h2 (by omega)
          obtain ⟨y, hy, rfl, hyc, hy1, hy2⟩ := isP_of h3 (by omega)
          rw [hnc, hxc, hyc] at ev
          refine Ez.blk B_X9_compareDistances_42 (lo' := [some (.ref 1), some (.int (nI n)), some (.int (nI x)), some (.int (nI y)), none, none, none, none, none]) (st' := [.int (nI n), .ref 2, .ref 43]) (I' := I4) (J' := J4) (Ps := [aO E0 1 9 ∧ E0.2.2 1 5 ≠ 0, aO E0 1 9 ∧ E0.2.2 1 0 ≠ 0]) rfl ⟨r_1_5, r_1_0⟩ ?_
          refine Ez.callV (As := [.ref 2, .int (nI n)]) (b := 43) (rest := []) kn_X3_levelFor ml_9_142 im_X3_levelFor se_X3_levelFor rfl (by decide +kernel) rfl rfl (Nat.le_of_ble_eq_true rfl) (Nat.le_of_ble_eq_true rfl) o_43 (s_level _ I4 J4 T W hP n hn hb) (fun r I5 J5 hq => ?_)
          obtain ⟨rfl, ⟨kd, hkd, hck⟩, fi, fj⟩ := hq
          have hP2 := CP_d hP fi fj ⟨T.1, kd, hck⟩
          refine Ez.blk B_X9_compareDistances_54 (lo' := [some (.ref 1), some (.int (nI n)), some (.int (nI x)), some (.int (nI y)), some (.ref (57 + n)), none, none, none, none]) (st' := [.int (nI x), .ref (57 + n)]) (I' := I5) (J' := J5) (Ps := []) rfl trivial ?_
          refine Ez.callS (As := [.int (nI x)]) (rest := [.ref (57 + n)]) kn_X9_cellOfPair ml_9_153 sm_X9_cellOfPair (by decide +kernel) rfl rfl (Nat.le_of_ble_eq_true rfl) (Nat.le_of_ble_eq_true rfl) (s_cell _ I5 J5 x hx) (fun r I6 J6 hq => ?_)
          obtain ⟨rfl, rfl, rfl⟩ := hq
          refine Ez.blk B_X9_compareDistances_62 (lo' := [some (.ref 1), some (.int (nI n)), some (.int (nI x)), some (.int (nI y)), some (.ref (57 + n)), some (.long (J6 (57 + n) ((nI (x / 10 * 6 + x % 10)).toNatClampNeg))), none, none, none]) (st' := [.int (nI y), .ref (57 + n)]) (I' := I6) (J' := J6) (Ps := [aAr E0 2 (57 + n) (nI (x / 10 * 6 + x % 10))]) rfl (aA_in (lev_q n (by omega)) (vin (n := (x / 10 * 6 + x % 10)) rfl (by omega) (by decide))) ?_
          rw [cln (x := nI (x / 10 * 6 + x % 10)) (n := (x / 10 * 6 + x % 10)) rfl (by omega)]
          refine Ez.callS (As := [.int (nI y)]) (rest := [.ref (57 + n)]) kn_X9_cellOfPair ml_9_153 sm_X9_cellOfPair (by decide +kernel) rfl rfl (Nat.le_of_ble_eq_true rfl) (Nat.le_of_ble_eq_true rfl) (s_cell _ I6 J6 y hy) (fun r I7 J7 hq => ?_)
          obtain ⟨rfl, rfl, rfl⟩ := hq
          have dx : J7 (57 + n) (x / 10 * 6 + x % 10) = lN (dpr T.1 n x) := by rw [show x / 10 * 6 + x % 10 = 6 * (x / 10) + x % 10 by omega]; exact hck.2.2.2.2.2.2.1 n hkd _ _ hx1 hx2
          have dy : J7 (57 + n) (y / 10 * 6 + y % 10) = lN (dpr T.1 n y) := by rw [show y / 10 * 6 + y % 10 = 6 * (y / 10) + y % 10 by omega]; exact hck.2.2.2.2.2.2.1 n hkd _ _ hy1 hy2
          have bx : dpr T.1 n x ≤ 1000000000000000 := Nat.le_trans ((dst_ok W.1 n).1 _ _ hx1 hx2).1 hb
          have by_ : dpr T.1 n y ≤ 1000000000000000 := Nat.le_trans ((dst_ok W.1 n).1 _ _ hy1 hy2).1 hb
          have ce : lN (dpr T.1 n x) = lN (dpr T.1 n y) ↔ dpr T.1 n x = dpr T.1 n y := by rw [lN_z, lN_z, zL_eq (by omega) (by omega)]; omega
          have cl : lN (dpr T.1 n y) ≤ lN (dpr T.1 n x) ↔ dpr T.1 n y ≤ dpr T.1 n x := by rw [lN_z, lN_z, zL_le (by omega) (by omega)]; omega
          refine Ez.blk B_X9_compareDistances_71 (lo' := [some (.ref 1), some (.int (nI n)), some (.int (nI x)), some (.int (nI y)), some (.ref (57 + n)), some (.long (J7 (57 + n) (x / 10 * 6 + x % 10))), none, some (.long (J7 (57 + n) ((nI (y / 10 * 6 + y % 10)).toNatClampNeg))), none]) (st' := [.int (lg_cmp (J7 (57 + n) (x / 10 * 6 + x % 10)) (J7 (57 + n) ((nI (y / 10 * 6 + y % 10)).toNatClampNeg)))]) (I' := I7) (J' := J7) (Ps := [aAr E0 2 (57 + n) (nI (y / 10 * 6 + y % 10))]) rfl (aA_in (lev_q n (by omega)) (vin (n := (y / 10 * 6 + y % 10)) rfl (by omega) (by decide))) ?_
          rw [cln (x := nI (y / 10 * 6 + y % 10)) (n := (y / 10 * 6 + y % 10)) rfl (by omega)]
          rw [dx]
          rw [dy]
          refine Ez.lif_ne (off := 5) (tgt := 84) (by decide +kernel) (by decide) (fun h5 => ?_) (fun h5 => ?_)
          · have e : ¬ dpr T.1 n x = dpr T.1 n y := fun z => h5 (ce.mpr z)
            refine Ez.blk B_X9_compareDistances_84 (lo' := [some (.ref 1), some (.int (nI n)), some (.int (nI x)), some (.int (nI y)), some (.ref (57 + n)), some (.long (lN (dpr T.1 n x))), none, some (.long (lN (dpr T.1 n y))), none]) (st' := [.int (lg_cmp (lN (dpr T.1 n x)) (lN (dpr T.1 n y)))]) (I' := I7) (J' := J7) (Ps := []) rfl trivial ?_
            refine Ez.lif_ge (off := 7) (tgt := 96) (by decide +kernel) (by decide) (fun h6 => ?_) (fun h6 => ?_)
            · have e2 := cl.mp h6
              refine Ez.blk B_X9_compareDistances_96 (lo' := [some (.ref 1), some (.int (nI n)), some (.int (nI x)), some (.int (nI y)), some (.ref (57 + n)), some (.long (lN (dpr T.1 n x))), none, some (.long (lN (dpr T.1 n y))), none]) (st' := [.int 2]) (I' := I7) (J' := J7) (Ps := []) rfl trivial ?_
              exact Ez.iret rfl (by decide +kernel) (hQ _ _ _ (by rw [ev]; exact ⟨by unfold cmp3; rw [if_neg (by omega), if_neg e], hP2, fun b hb9 => ⟨fi b (by omega), fj b (by omega)⟩⟩))
            · have e2 : ¬ dpr T.1 n y ≤ dpr T.1 n x := fun z => h6 (cl.mpr z)
              refine Ez.blk B_X9_compareDistances_92 (lo' := [some (.ref 1), some (.int (nI n)), some (.int (nI x)), some (.int (nI y)), some (.ref (57 + n)), some (.long (lN (dpr T.1 n x))), none, some (.long (lN (dpr T.1 n y))), none]) (st' := [.int 0]) (I' := I7) (J' := J7) (Ps := []) rfl trivial ?_
              exact Ez.iret rfl (by decide +kernel) (hQ _ _ _ (by rw [ev]; exact ⟨by unfold cmp3; rw [if_pos (by omega)], hP2, fun b hb9 => ⟨fi b (by omega), fj b (by omega)⟩⟩))
          · have e := ce.mp h5
            refine Ez.blk B_X9_compareDistances_82 (lo' := [some (.ref 1), some (.int (nI n)), some (.int (nI x)), some (.int (nI y)), some (.ref (57 + n)), some (.long (lN (dpr T.1 n x))), none, some (.long (lN (dpr T.1 n y))), none]) (st' := [.int 1]) (I' := I7) (J' := J7) (Ps := []) rfl trivial ?_
            exact Ez.iret rfl (by decide +kernel) (hQ _ _ _ (by rw [ev]; exact ⟨by unfold cmp3; rw [if_neg (by omega), if_pos e], hP2, fun b hb9 => ⟨fi b (by omega), fj b (by omega)⟩⟩))
        · refine Ez.blk B_X9_compareDistances_39 (lo' := [some (.ref 1), some (.int m), some (.int p), some (.int q), none, none, none, none, none]) (st' := [.int (-4)]) (I' := I4) (J' := J4) (Ps := []) rfl trivial ?_
          exact Ez.iret rfl (by decide +kernel) (hQ _ _ _ (by unfold f_cmp; rw [if_pos h, if_pos ⟨h2, h3⟩, if_neg h4]; exact ⟨rfl, hP, fun _ _ => ⟨rfl, rfl⟩⟩))
      · refine Ez.blk B_X9_compareDistances_28 (lo' := [some (.ref 1), some (.int m), some (.int p), some (.int q), none, none, none, none, none]) (st' := [.int (-2)]) (I' := I3) (J' := J3) (Ps := []) rfl trivial ?_
        exact Ez.iret rfl (by decide +kernel) (hQ _ _ _ (by unfold f_cmp; rw [if_pos h, if_neg (fun z => h3 z.2)]; exact ⟨rfl, hP, fun _ _ => ⟨rfl, rfl⟩⟩))
  · refine Ez.blk B_X9_compareDistances_10 (lo' := [some (.ref 1), some (.int m), some (.int p), some (.int q), none, none, none, none, none]) (st' := [.int (-1)]) (I' := I1) (J' := J1) (Ps := []) rfl trivial ?_
    exact Ez.iret rfl (by decide +kernel) (hQ _ _ _ (by unfold f_cmp; rw [if_neg h]; exact ⟨rfl, hP, fun _ _ => ⟨rfl, rfl⟩⟩))

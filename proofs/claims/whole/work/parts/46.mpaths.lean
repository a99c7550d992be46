/-! THE REFERENCE: paths -/
theorem tg_bitS {m l : Nat} (hm : m < 16) (hl : l ≤ 3) : (nI m >>> (nI l &&& 31)) &&& 1 = nI (m / 2 ^ l % 2) := by
  rw [pk_shrN (by omega) (nI l &&& 31) l (by rcases (show l = 0 ∨ l = 1 ∨ l = 2 ∨ l = 3 by omega) with rfl | rfl | rfl | rfl <;> decide), pk_andN (Nat.lt_of_le_of_lt (Nat.div_le_self _ _) (by omega)) 1 (by decide)]
theorem s_isIn (d : Nat) (I : aI) (J : aJ) (c : Nat → Nat) (hc : MC c I) (W : Wc c) (s m : Nat) (hs : s < 6) (hm : m < 16) : Sp m_X10_isIn (d + 1) [.ref 93, .int (nI s), .int (nI m)] E0 I J (fun r I' J' => r = some (.int (zb (tgt c m s = true))) ∧ I' = I ∧ J' = J) := by
  refine Sp.of (lo := [some (.ref 93), some (.int (nI s)), some (.int (nI m))]) rfl (fun Q hQ => ?_)
  have w1 := W.1
  have w2 := W.2.1
  have wl := W.2.2.2.1
  have w12 := Wc_w W
  have hl := wl s hs
  refine Ez.blk B_X10_isIn_0 (lo' := [some (.ref 93), some (.int (nI s)), some (.int (nI m))]) (st' := [.int 1, .int (((nI m) >>> ((I 94 ((4 + nI s).toNatClampNeg)) &&& 31)) &&& 1)]) (I' := I) (J' := J) (Ps := [aO E0 93 10 ∧ E0.2.2 93 0 ≠ 0, aAr E0 1 94 (4 + nI s)]) rfl ⟨r_93_0, (a_94 (vin (n := (4 + s)) (eq_add (a := 4) (b := s) rfl rfl) (by omega) (by decide)))⟩ ?_
  rw [cln (x := (4 + nI s)) (n := (4 + s)) (eq_add (a := 4) (b := s) rfl rfl) (by omega)]
  rw [hc (4 + s) (by omega), tg_bitS hm hl]
  refine Ez.n_icmp_ne (off := 7) (tgt := 20) (by decide +kernel) (by decide) (a := (m / 2 ^ c (4 + s) % 2)) (b := 1) rfl rfl (by omega) (by omega) (fun h => ?_) (fun h => ?_)
  · refine Ez.blk B_X10_isIn_20 (lo' := [some (.ref 93), some (.int (nI s)), some (.int (nI m))]) (st' := [.int 0]) (I' := I) (J' := J) (Ps := []) rfl trivial ?_
    exact Ez.zret rfl (Or.inl rfl) (by decide +kernel) (hQ _ _ _ ⟨by rw [zb_f (p := tgt c m s = true) (fun q => h (of_decide_eq_true q))], rfl, rfl⟩)
  · refine Ez.blk B_X10_isIn_16 (lo' := [some (.ref 93), some (.int (nI s)), some (.int (nI m))]) (st' := [.int 1]) (I' := I) (J' := J) (Ps := []) rfl trivial ?_
    exact Ez.zret rfl (Or.inr rfl) (by decide +kernel) (hQ _ _ _ ⟨by rw [zb_t (p := tgt c m s = true) (decide_eq_true h)], rfl, rfl⟩)
theorem s_stepM (d : Nat) (I : aI) (J : aJ) (c : Nat → Nat) (hc : MC c I) (W : Wc c) (x : Nat → Nat) (hx : Lv J 106 (c 0) x) : Sp m_X10_step (d + 2) [.ref 93] E0 I J (fun r I' J' => r = none ∧ I' = I ∧ Lv J' 106 (c 0) (stp c x) ∧ ∀ q, q ≠ 106 → q ≠ 107 → J' q = J q) := by
  refine Sp.of (lo := [some (.ref 93), none, none]) rfl (fun Q hQ => ?_)
  have w1 := W.1
  have w2 := W.2.1
  have wl := W.2.2.2.1
  have w12 := Wc_w W
  have L1 : ∀ k, k ≤ c 0 → ∀ (J1 : aJ), (Lv J1 107 k (stp c x) ∧ ∀ q, q ≠ 107 → J1 q = J q) → Ez m_X10_step (d + 2) 2 [some (.ref 93), some (.int (nI k)), none] [] E0 I J1 Q := by
    refine for_up ?_ ?_
    · intro J1 hi
      refine Ez.blk B_X10_step_2 (lo' := [some (.ref 93), some (.int (nI (c 0))), none]) (st' := [.int (I 94 0), .int (nI (c 0))]) (I' := I) (J' := J1) (Ps := [aO E0 93 10 ∧ E0.2.2 93 0 ≠ 0, aAr E0 1 94 0]) rfl ⟨r_93_0, (a_94 (vin (n := 0) rfl (by omega) (by decide)))⟩ ?_
      refine Ez.n_icmp_ge (off := 57) (tgt := 66) (by decide +kernel) (by decide) (a := (c 0)) (b := (c 0)) rfl (hc 0 (by decide)) (by omega) (by omega) (fun h => ?_) (fun h => absurd h (by omega))
      refine Ez.blk B_X10_step_66 (lo' := [some (.ref 93), some (.int (nI (c 0))), none]) (st' := []) (I' := I) (J' := (aRwJ J1 106 (va_cpy (J1 107) (J1 106) 0 0 6))) (Ps := [aO E0 93 10 ∧ E0.2.2 93 16 ≠ 0, aO E0 93 10 ∧ E0.2.2 93 15 ≠ 0, aCp E0 2 107 106 0 0 6]) rfl ⟨r_93_16, r_93_15, (cpy_ok (s0 := 0) (d0 := 0) (m := 6) q_107 q_106 rfl rfl rfl (by omega) (by omega) (by omega) (by omega) (by omega))⟩ ?_
      exact Ez.vret rfl (by decide +kernel) (hQ _ _ _ ⟨rfl, rfl, fun s hs => by rw [aRwJ_at, cp0 (by omega)]; exact hi.1 s hs, fun q h0 h1 => by rw [aRwJ_ne h0]; exact hi.2 q h1⟩)
    · intro k hk ih J1 hi
      refine Ez.blk B_X10_step_2 (lo' := [some (.ref 93), some (.int (nI k)), none]) (st' := [.int (I 94 0), .int (nI k)]) (I' := I) (J' := J1) (Ps := [aO E0 93 10 ∧ E0.2.2 93 0 ≠ 0, aAr E0 1 94 0]) rfl ⟨r_93_0, (a_94 (vin (n := 0) rfl (by omega) (by decide)))⟩ ?_
      refine Ez.n_icmp_ge (off := 57) (tgt := 66) (by decide +kernel) (by decide) (a := k) (b := (c 0)) rfl (hc 0 (by decide)) (by omega) (by omega) (fun h => absurd h (by omega)) (fun h => ?_)
      refine Ez.blk B_X10_step_12 (lo' := [some (.ref 93), some (.int (nI k)), some (.int 0)]) (st' := []) (I' := I) (J' := (aUpJ J1 107 ((nI k).toNatClampNeg) 0)) (Ps := [aO E0 93 10 ∧ E0.2.2 93 16 ≠ 0, aAr E0 2 107 (nI k)]) rfl ⟨r_93_16, (a_107 (vin (n := k) rfl (by omega) (by decide)))⟩ ?_
      rw [cln (x := nI k) (n := k) rfl (by omega)]
      generalize hJ2 : (aUpJ J1 107 k 0) = J2
      have z2 : J2 107 k = lN (sm (fun u => c (10 + 6 * k + u) * x u) 0) := by rw [← hJ2, aUpJ_eq]; rfl
      have z3 : ∀ s, s ≠ k → J2 107 s = J1 107 s := fun s hs => by rw [← hJ2, aUpJ_nk hs]
      have z4 : ∀ q, q ≠ 107 → J2 q = J1 q := fun q hq => by rw [← hJ2, aUpJ_ne hq]
      have L2 : ∀ j, j ≤ c 0 → ∀ (J3 : aJ), (J3 107 k = lN (sm (fun u => c (10 + 6 * k + u) * x u) j) ∧ (∀ s, s ≠ k → J3 107 s = J1 107 s) ∧ ∀ q, q ≠ 107 → J3 q = J1 q) → Ez m_X10_step (d + 2) 21 [some (.ref 93), some (.int (nI k)), some (.int (nI j))] [] E0 I J3 Q := by
        refine for_up ?_ ?_
        · intro J3 hj
          refine Ez.blk B_X10_step_21 (lo' := [some (.ref 93), some (.int (nI k)), some (.int (nI (c 0)))]) (st' := [.int (I 94 0), .int (nI (c 0))]) (I' := I) (J' := J3) (Ps := [aO E0 93 10 ∧ E0.2.2 93 0 ≠ 0, aAr E0 1 94 0]) rfl ⟨r_93_0, (a_94 (vin (n := 0) rfl (by omega) (by decide)))⟩ ?_
          refine Ez.n_icmp_ge (off := 32) (tgt := 60) (by decide +kernel) (by decide) (a := (c 0)) (b := (c 0)) rfl (hc 0 (by decide)) (by omega) (by omega) (fun h9 => ?_) (fun h9 => absurd h9 (by omega))
          refine Ez.blk B_X10_step_60 (lo' := [some (.ref 93), some (.int (nI k + 1)), some (.int (nI (c 0)))]) (st' := []) (I' := I) (J' := J3) (Ps := []) rfl trivial ?_
          rw [show (nI k + 1) = nI (k + 1) from (eq_add (a := k) (b := 1) rfl rfl)]
          refine Ez.drops [2] (lo' := [some (.ref 93), some (.int (nI (k + 1))), none]) rfl ?_
          exact ih J3 ⟨fun s hs => by
            by_cases e : s = k
            · rw [e, hj.1]; rfl
            · rw [hj.2.1 s e]; exact hi.1 s (by omega), fun q hq => by rw [hj.2.2 q hq]; exact hi.2 q hq⟩
        · intro j hjn ih2 J3 hj
          have hw := w12 (6 * k + j) (by omega)
          rw [show 10 + (6 * k + j) = 10 + 6 * k + j by omega] at hw
          refine Ez.blk B_X10_step_21 (lo' := [some (.ref 93), some (.int (nI k)), some (.int (nI j))]) (st' := [.int (I 94 0), .int (nI j)]) (I' := I) (J' := J3) (Ps := [aO E0 93 10 ∧ E0.2.2 93 0 ≠ 0, aAr E0 1 94 0]) rfl ⟨r_93_0, (a_94 (vin (n := 0) rfl (by omega) (by decide)))⟩ ?_
          refine Ez.n_icmp_ge (off := 32) (tgt := 60) (by decide +kernel) (by decide) (a := j) (b := (c 0)) rfl (hc 0 (by decide)) (by omega) (by omega) (fun h9 => absurd h9 (by omega)) (fun h9 => ?_)
          refine Ez.blk B_X10_step_31 (lo' := [some (.ref 93), some (.int (nI k)), some (.int (nI j))]) (st' := [.int (nI j), .int (nI k), .ref 93, .long (J3 107 ((nI k).toNatClampNeg)), .int (nI k), .ref 107]) (I' := I) (J' := J3) (Ps := [aO E0 93 10 ∧ E0.2.2 93 16 ≠ 0, aAr E0 2 107 (nI k)]) rfl ⟨r_93_16, (a_107 (vin (n := k) rfl (by omega) (by decide)))⟩ ?_
          rw [cln (x := nI k) (n := k) rfl (by omega)]
          rw [hj.1]
          refine Ez.callV (As := [.int (nI k), .int (nI j)]) (b := 93) (rest := [.long (lN (sm (fun u => c (10 + 6 * k + u) * x u) j)), .int (nI k), .ref 107]) kn_X10_w ml_10_116 im_X10_w se_X10_w rfl (by decide +kernel) rfl rfl (Nat.le_of_ble_eq_true rfl) (Nat.le_of_ble_eq_true rfl) o_93 (s_w _ I J3 c hc k j (by omega) (by omega)) (fun r I4 J4 hq => ?_)
          obtain ⟨rfl, rfl, rfl⟩ := hq
          obtain ⟨j1, j2, j3⟩ := hj
          refine Ez.blk B_X10_step_44 (lo' := [some (.ref 93), some (.int (nI k)), some (.int (nI j + 1))]) (st' := []) (I' := I4) (J' := (aUpJ J4 107 ((nI k).toNatClampNeg) ((lN (sm (fun u => c (10 + 6 * k + u) * x u) j)) + ((nI (c (10 + 6 * k + j))).toInt64 * J4 106 ((nI j).toNatClampNeg))))) (Ps := [aO E0 93 10 ∧ E0.2.2 93 15 ≠ 0, aAr E0 2 106 (nI j), aAr E0 2 107 (nI k)]) rfl ⟨r_93_15, (a_106 (vin (n := j) rfl (by omega) (by decide))), (a_107 (vin (n := k) rfl (by omega) (by decide)))⟩ ?_
          rw [cln (x := nI j) (n := j) rfl (by omega)]
          rw [cln (x := nI k) (n := k) rfl (by omega)]
          rw [show (nI j + 1) = nI (j + 1) from (eq_add (a := j) (b := 1) rfl rfl)]
          rw [j3 106 (by decide), hi.2 106 (by decide), hx j hjn, nI_l (by omega), lN_mul, lN_add]
          exact ih2 _ ⟨by rw [aUpJ_eq]; rfl, fun s hs => by rw [aUpJ_nk hs]; exact j2 s hs, fun q hq => by rw [aUpJ_ne hq]; exact j3 q hq⟩
      exact L2 0 (by omega) J2 ⟨z2, z3, z4⟩
  refine Ez.blk B_X10_step_0 (lo' := [some (.ref 93), some (.int 0), none]) (st' := []) (I' := I) (J' := J) (Ps := []) rfl trivial ?_
  exact L1 0 (by omega) J ⟨fun s hs => by omega, fun _ _ => rfl⟩
theorem s_isQuery (d : Nat) (I : aI) (J : aJ) (T : TS) (W : WT T) (hP : MP T I J) (x y z : Int32) : Sp m_X10_isQuery (d + 3) [.ref 93, .int x, .int y, .int z] E0 I J (fun r I' J' => r = some (.int (zb (isS T x ∧ (0 ≤ y ∧ y ≤ 15) ∧ (0 ≤ z ∧ z ≤ 12)))) ∧ I' = I ∧ J' = J) := by
  refine Sp.of (lo := [some (.ref 93), some (.int x), some (.int y), some (.int z)]) rfl (fun Q hQ => ?_)
  refine Ez.blk B_X10_isQuery_0 (lo' := [some (.ref 93), some (.int x), some (.int y), some (.int z)]) (st' := [.int x, .ref 93]) (I' := I) (J' := J) (Ps := []) rfl trivial ?_
  refine Ez.callV (As := [.int x]) (b := 93) (rest := []) kn_X10_isState ml_10_103 im_X10_isState se_X10_isState rfl (by decide +kernel) rfl rfl (Nat.le_of_ble_eq_true rfl) (Nat.le_of_ble_eq_true rfl) o_93 (s_isState _ I J (T.1 0) (hP.1 0 (by decide)) W.1.1 x) (fun r I1 J1 hq => ?_)
  obtain ⟨rfl, rfl, rfl⟩ := hq
  refine Ez.z_if_eq (off := 31) (tgt := 36) (by decide +kernel) (by decide) (fun h => ?_) (fun h => ?_)
  · refine Ez.blk B_X10_isQuery_36 (lo' := [some (.ref 93), some (.int x), some (.int y), some (.int z)]) (st' := [.int 0]) (I' := I1) (J' := J1) (Ps := []) rfl trivial ?_
    exact Ez.zret rfl (Or.inl rfl) (by decide +kernel) (hQ _ _ _ ⟨by rw [zb_f (p := isS T x ∧ (0 ≤ y ∧ y ≤ 15) ∧ (0 ≤ z ∧ z ≤ 12)) (fun q => h q.1)], rfl, rfl⟩)
  · refine Ez.blk B_X10_isQuery_8 (lo' := [some (.ref 93), some (.int x), some (.int y), some (.int z)]) (st' := [.long 15, .long 0, .long y.toInt64]) (I' := I1) (J' := J1) (Ps := []) rfl trivial ?_
    refine Ez.callS (As := [.long y.toInt64, .long 0, .long 15]) (rest := []) kn_X10_in ml_10_81 sm_X10_in (by decide +kernel) rfl rfl (Nat.le_of_ble_eq_true rfl) (Nat.le_of_ble_eq_true rfl) (s_in _ E0 I1 J1 y 0 15 0 15 (by decide) (by decide)) (fun r I2 J2 hq => ?_)
    obtain ⟨rfl, rfl, rfl⟩ := hq
    refine Ez.z_if_eq (off := 19) (tgt := 36) (by decide +kernel) (by decide) (fun h2 => ?_) (fun h2 => ?_)
    · refine Ez.blk B_X10_isQuery_36 (lo' := [some (.ref 93), some (.int x), some (.int y), some (.int z)]) (st' := [.int 0]) (I' := I2) (J' := J2) (Ps := []) rfl trivial ?_
      exact Ez.zret rfl (Or.inl rfl) (by decide +kernel) (hQ _ _ _ ⟨by rw [zb_f (p := isS T x ∧ (0 ≤ y ∧ y ≤ 15) ∧ (0 ≤ z ∧ z ≤ 12)) (fun q => h2 q.2.1)], rfl, rfl⟩)
    · refine Ez.blk B_X10_isQuery_20 (lo' := [some (.ref 93), some (.int x), some (.int y), some (.int z)]) (st' := [.long 12, .long 0, .long z.toInt64]) (I' := I2) (J' := J2) (Ps := []) rfl trivial ?_
      refine Ez.callS (As := [.long z.toInt64, .long 0, .long 12]) (rest := []) kn_X10_in ml_10_81 sm_X10_in (by decide +kernel) rfl rfl (Nat.le_of_ble_eq_true rfl) (Nat.le_of_ble_eq_true rfl) (s_in _ E0 I2 J2 z 0 12 0 12 (by decide) (by decide)) (fun r I3 J3 hq => ?_)
      obtain ⟨rfl, rfl, rfl⟩ := hq
      refine Ez.z_if_eq (off := 7) (tgt := 36) (by decide +kernel) (by decide) (fun h3 => ?_) (fun h3 => ?_)
      · refine Ez.blk B_X10_isQuery_36 (lo' := [some (.ref 93), some (.int x), some (.int y), some (.int z)]) (st' := [.int 0]) (I' := I3) (J' := J3) (Ps := []) rfl trivial ?_
        exact Ez.zret rfl (Or.inl rfl) (by decide +kernel) (hQ _ _ _ ⟨by rw [zb_f (p := isS T x ∧ (0 ≤ y ∧ y ≤ 15) ∧ (0 ≤ z ∧ z ≤ 12)) (fun q => h3 q.2.2)], rfl, rfl⟩)
      · refine Ez.blk B_X10_isQuery_32 (lo' := [some (.ref 93), some (.int x), some (.int y), some (.int z)]) (st' := [.int 1]) (I' := I3) (J' := J3) (Ps := []) rfl trivial ?_
        exact Ez.zret rfl (Or.inr rfl) (by decide +kernel) (hQ _ _ _ ⟨by rw [zb_t (p := isS T x ∧ (0 ≤ y ∧ y ≤ 15) ∧ (0 ≤ z ∧ z ≤ 12)) ⟨h, h2, h3⟩], rfl, rfl⟩)
/-- rows of longs that nobody asks about again -/
theorem FrM_J {I : aI} {J J' : aJ} (h : ∀ q, q ≠ 106 → q ≠ 107 → J' q = J q) : FrM I I J J' := ⟨fun _ _ _ => rfl, fun _ _ => rfl, fun q hq => h q (by omega) (by omega)⟩
theorem m_reach (d : Nat) (I : aI) (J : aJ) (T : TS) (W : WT T) (hP : MP T I J) (x y z : Int32) : Sp m_X10_reachWeight (d + 4) [.ref 93, .int x, .int y, .int z] E0 I J (fun r I' J' => r = some (.long (f_reach T x y z).1) ∧ MP (f_reach T x y z).2 I' J' ∧ Fr1 I I' J J') := by
  refine Sp.of (lo := [some (.ref 93), some (.int x), some (.int y), some (.int z), none]) rfl (fun Q hQ => ?_)
  have w1 := W.1.1
  have w2 := W.1.2.1
  have wb := Wc_12 W.1
  refine Ez.blk B_X10_reachWeight_0 (lo' := [some (.ref 93), some (.int x), some (.int y), some (.int z), none]) (st' := [.int z, .int y, .int x, .ref 93]) (I' := I) (J' := J) (Ps := []) rfl trivial ?_
  refine Ez.callV (As := [.int x, .int y, .int z]) (b := 93) (rest := []) kn_X10_isQuery ml_10_206 im_X10_isQuery se_X10_isQuery rfl (by decide +kernel) rfl rfl (Nat.le_of_ble_eq_true rfl) (Nat.le_of_ble_eq_true rfl) o_93 (s_isQuery _ I J T W hP x y z) (fun r I1 J1 hq => ?_)
  obtain ⟨rfl, rfl, rfl⟩ := hq
  refine Ez.z_if_ne (off := 7) (tgt := 14) (by decide +kernel) (by decide) (fun h => ?_) (fun h => ?_)
  · obtain ⟨h1, h2, h3⟩ := h
    obtain ⟨k, hk, rfl, hkc⟩ := st_of (by omega) h1
    obtain ⟨m, hm0, hm, rfl, hmc⟩ := in_of (lo := 0) (hi := 15) (by omega) h2 (by omega)
    obtain ⟨n, hn0, hn, rfl, hnc⟩ := in_of (lo := 0) (hi := 12) (by omega) h3 (by omega)
    obtain ⟨c, hcc⟩ : ∃ c, c = T.1 := ⟨_, rfl⟩
    have hc : MC c I1 := by rw [hcc]; exact hP.1
    have Wc1 : Wc c := by rw [hcc]; exact W.1
    have v1 := Wc1.1
    refine Ez.blk B_X10_reachWeight_14 (lo' := [some (.ref 93), some (.int (nI k)), some (.int (nI m)), some (.int (nI n)), some (.int 0)]) (st' := []) (I' := I1) (J' := J1) (Ps := []) rfl trivial ?_
    have L2 : ∀ i, i ≤ n → ∀ (J2 : aJ), (Lv J2 106 (c 0) (rch c m i) ∧ ∀ q, q ≠ 106 → q ≠ 107 → J2 q = J1 q) → Ez m_X10_reachWeight (d + 4) 59 [some (.ref 93), some (.int (nI k)), some (.int (nI m)), some (.int (nI n)), some (.int (nI i))] [] E0 I1 J2 Q := by
      refine for_up ?_ ?_
      · intro J2 hi
        refine Ez.blk B_X10_reachWeight_59 (lo' := [some (.ref 93), some (.int (nI k)), some (.int (nI m)), some (.int (nI n)), some (.int (nI n))]) (st' := [.int (nI n), .int (nI n)]) (I' := I1) (J' := J2) (Ps := []) rfl trivial ?_
        refine Ez.n_icmp_ge (off := 13) (tgt := 75) (by decide +kernel) (by decide) (a := n) (b := n) rfl rfl (by omega) (by omega) (fun h9 => ?_) (fun h9 => absurd h9 (by omega))
        refine Ez.blk B_X10_reachWeight_75 (lo' := [some (.ref 93), some (.int (nI k)), some (.int (nI m)), some (.int (nI n)), some (.int (nI n))]) (st' := [.long (J2 106 ((nI k).toNatClampNeg))]) (I' := I1) (J' := J2) (Ps := [aO E0 93 10 ∧ E0.2.2 93 15 ≠ 0, aAr E0 2 106 (nI k)]) rfl ⟨r_93_15, (a_106 (vin (n := k) rfl (by omega) (by decide)))⟩ ?_
        rw [cln (x := nI k) (n := k) rfl (by omega)]
        rw [hi.1 k (by rw [hcc]; exact hk)]
        exact Ez.lret rfl (by decide +kernel) (hQ _ _ _ (by unfold f_reach; rw [if_pos ⟨h1, h2, h3⟩, hkc, hmc, hnc, ← hcc]; exact ⟨rfl, MP_M hP (FrM_J hi.2), Fr1_M (FrM_J hi.2)⟩))
      · intro i hin ih J2 hi
        refine Ez.blk B_X10_reachWeight_59 (lo' := [some (.ref 93), some (.int (nI k)), some (.int (nI m)), some (.int (nI n)), some (.int (nI i))]) (st' := [.int (nI n), .int (nI i)]) (I' := I1) (J' := J2) (Ps := []) rfl trivial ?_
        refine Ez.n_icmp_ge (off := 13) (tgt := 75) (by decide +kernel) (by decide) (a := i) (b := n) rfl rfl (by omega) (by omega) (fun h9 => absurd h9 (by omega)) (fun h9 => ?_)
        refine Ez.blk B_X10_reachWeight_65 (lo' := [some (.ref 93), some (.int (nI k)), some (.int (nI m)), some (.int (nI n)), some (.int (nI i))]) (st' := [.ref 93]) (I' := I1) (J' := J2) (Ps := []) rfl trivial ?_
        refine Ez.callV (As := []) (b := 93) (rest := []) kn_X10_step ml_10_213 im_X10_step se_X10_step rfl (by decide +kernel) rfl rfl (Nat.le_of_ble_eq_true rfl) (Nat.le_of_ble_eq_true rfl) o_93 (s_stepM _ I1 J2 c hc Wc1 (rch c m i) hi.1) (fun r I3 J3 hq => ?_)
        obtain ⟨rfl, rfl, n1, n2⟩ := hq
        refine Ez.blk B_X10_reachWeight_69 (lo' := [some (.ref 93), some (.int (nI k)), some (.int (nI m)), some (.int (nI n)), some (.int (nI i + 1))]) (st' := []) (I' := I3) (J' := J3) (Ps := []) rfl trivial ?_
        rw [show (nI i + 1) = nI (i + 1) from (eq_add (a := i) (b := 1) rfl rfl)]
        exact ih J3 ⟨n1, fun q g0 g1 => by rw [n2 q g0 g1]; exact hi.2 q g0 g1⟩
    have L1 : ∀ q, q ≤ c 0 → ∀ (J2 : aJ), (Lv J2 106 q (tg0 c m) ∧ ∀ p, p ≠ 106 → J2 p = J1 p) → Ez m_X10_reachWeight (d + 4) 17 [some (.ref 93), some (.int (nI k)), some (.int (nI m)), some (.int (nI n)), some (.int (nI q))] [] E0 I1 J2 Q := by
      refine for_up ?_ ?_
      · intro J2 hi
        refine Ez.blk B_X10_reachWeight_17 (lo' := [some (.ref 93), some (.int (nI k)), some (.int (nI m)), some (.int (nI n)), some (.int (nI (c 0)))]) (st' := [.int (I1 94 0), .int (nI (c 0))]) (I' := I1) (J' := J2) (Ps := [aO E0 93 10 ∧ E0.2.2 93 0 ≠ 0, aAr E0 1 94 0]) rfl ⟨r_93_0, (a_94 (vin (n := 0) rfl (by omega) (by decide)))⟩ ?_
        refine Ez.n_icmp_ge (off := 31) (tgt := 56) (by decide +kernel) (by decide) (a := (c 0)) (b := (c 0)) rfl (hc 0 (by decide)) (by omega) (by omega) (fun h9 => ?_) (fun h9 => absurd h9 (by omega))
        refine Ez.blk B_X10_reachWeight_56 (lo' := [some (.ref 93), some (.int (nI k)), some (.int (nI m)), some (.int (nI n)), some (.int 0)]) (st' := []) (I' := I1) (J' := J2) (Ps := []) rfl trivial ?_
        exact L2 0 (by omega) J2 ⟨hi.1, fun p g0 _ => hi.2 p g0⟩
      · intro q hqn ih J2 hi
        refine Ez.blk B_X10_reachWeight_17 (lo' := [some (.ref 93), some (.int (nI k)), some (.int (nI m)), some (.int (nI n)), some (.int (nI q))]) (st' := [.int (I1 94 0), .int (nI q)]) (I' := I1) (J' := J2) (Ps := [aO E0 93 10 ∧ E0.2.2 93 0 ≠ 0, aAr E0 1 94 0]) rfl ⟨r_93_0, (a_94 (vin (n := 0) rfl (by omega) (by decide)))⟩ ?_
        refine Ez.n_icmp_ge (off := 31) (tgt := 56) (by decide +kernel) (by decide) (a := q) (b := (c 0)) rfl (hc 0 (by decide)) (by omega) (by omega) (fun h9 => absurd h9 (by omega)) (fun h9 => ?_)
        refine Ez.blk B_X10_reachWeight_28 (lo' := [some (.ref 93), some (.int (nI k)), some (.int (nI m)), some (.int (nI n)), some (.int (nI q))]) (st' := [.int (nI m), .int (nI q), .ref 93, .int (nI q), .ref 106]) (I' := I1) (J' := J2) (Ps := [aO E0 93 10 ∧ E0.2.2 93 15 ≠ 0]) rfl r_93_15 ?_
        refine Ez.callV (As := [.int (nI q), .int (nI m)]) (b := 93) (rest := [.int (nI q), .ref 106]) kn_X10_isIn ml_10_210 im_X10_isIn se_X10_isIn rfl (by decide +kernel) rfl rfl (Nat.le_of_ble_eq_true rfl) (Nat.le_of_ble_eq_true rfl) o_93 (s_isIn _ I1 J2 c hc Wc1 q m (by omega) (by omega)) (fun r I3 J3 hq => ?_)
        obtain ⟨rfl, rfl, rfl⟩ := hq
        refine Ez.z_if_eq (off := 7) (tgt := 48) (by decide +kernel) (by decide) (fun g2 => ?_) (fun g2 => ?_)
        · refine Ez.blk B_X10_reachWeight_48 (lo' := [some (.ref 93), some (.int (nI k)), some (.int (nI m)), some (.int (nI n)), some (.int (nI q + 1))]) (st' := []) (I' := I3) (J' := (aUpJ J3 106 ((nI q).toNatClampNeg) 0)) (Ps := [aAr E0 2 106 (nI q)]) rfl (a_106 (vin (n := q) rfl (by omega) (by decide))) ?_
          rw [cln (x := nI q) (n := q) rfl (by omega)]
          rw [show (nI q + 1) = nI (q + 1) from (eq_add (a := q) (b := 1) rfl rfl)]
          exact ih _ ⟨fun s hs => by
            by_cases e : s = q
            · rw [e, aUpJ_eq]; unfold tg0; rw [if_neg g2]; rfl
            · rw [aUpJ_nk e]; exact hi.1 s (by omega), fun p hp => by rw [aUpJ_ne hp]; exact hi.2 p hp⟩
        · refine Ez.blk B_X10_reachWeight_44 (lo' := [some (.ref 93), some (.int (nI k)), some (.int (nI m)), some (.int (nI n)), some (.int (nI q))]) (st' := [.long 1, .int (nI q), .ref 106]) (I' := I3) (J' := J3) (Ps := []) rfl trivial ?_
          refine Ez.blk B_X10_reachWeight_49 (lo' := [some (.ref 93), some (.int (nI k)), some (.int (nI m)), some (.int (nI n)), some (.int (nI q + 1))]) (st' := []) (I' := I3) (J' := (aUpJ J3 106 ((nI q).toNatClampNeg) 1)) (Ps := [aAr E0 2 106 (nI q)]) rfl (a_106 (vin (n := q) rfl (by omega) (by decide))) ?_
          rw [cln (x := nI q) (n := q) rfl (by omega)]
          rw [show (nI q + 1) = nI (q + 1) from (eq_add (a := q) (b := 1) rfl rfl)]
          exact ih _ ⟨fun s hs => by
            by_cases e : s = q
            · rw [e, aUpJ_eq]; unfold tg0; rw [if_pos g2]; rfl
            · rw [aUpJ_nk e]; exact hi.1 s (by omega), fun p hp => by rw [aUpJ_ne hp]; exact hi.2 p hp⟩
    exact L1 0 (by omega) J1 ⟨fun s hs => by omega, fun _ _ => rfl⟩
  · refine Ez.blk B_X10_reachWeight_10 (lo' := [some (.ref 93), some (.int x), some (.int y), some (.int z), none]) (st' := [.long (-9223372036854775808)]) (I' := I1) (J' := J1) (Ps := []) rfl trivial ?_
    exact Ez.lret rfl (by decide +kernel) (hQ _ _ _ (by unfold f_reach; rw [if_neg h]; exact ⟨rfl, hP, fun _ _ => ⟨rfl, rfl⟩⟩))
theorem m_first (d : Nat) (I : aI) (J : aJ) (T : TS) (W : WT T) (hP : MP T I J) (x y z : Int32) : Sp m_X10_firstReachWeight (d + 4) [.ref 93, .int x, .int y, .int z] E0 I J (fun r I' J' => r = some (.long (f_first T x y z).1) ∧ MP (f_first T x y z).2 I' J' ∧ Fr1 I I' J J') := by
  refine Sp.of (lo := [some (.ref 93), some (.int x), some (.int y), some (.int z), none, none, none, none]) rfl (fun Q hQ => ?_)
  have w1 := W.1.1
  have w2 := W.1.2.1
  have wb := Wc_12 W.1
  refine Ez.blk B_X10_firstReachWeight_0 (lo' := [some (.ref 93), some (.int x), some (.int y), some (.int z), none, none, none, none]) (st' := [.int z, .int y, .int x, .ref 93]) (I' := I) (J' := J) (Ps := []) rfl trivial ?_
  refine Ez.callV (As := [.int x, .int y, .int z]) (b := 93) (rest := []) kn_X10_isQuery ml_10_206 im_X10_isQuery se_X10_isQuery rfl (by decide +kernel) rfl rfl (Nat.le_of_ble_eq_true rfl) (Nat.le_of_ble_eq_true rfl) o_93 (s_isQuery _ I J T W hP x y z) (fun r I1 J1 hq => ?_)
  obtain ⟨rfl, rfl, rfl⟩ := hq
  refine Ez.z_if_ne (off := 7) (tgt := 14) (by decide +kernel) (by decide) (fun h => ?_) (fun h => ?_)
  · obtain ⟨h1, h2, h3⟩ := h
    obtain ⟨k, hk, rfl, hkc⟩ := st_of (by omega) h1
    obtain ⟨m, hm0, hm, rfl, hmc⟩ := in_of (lo := 0) (hi := 15) (by omega) h2 (by omega)
    obtain ⟨n, hn0, hn, rfl, hnc⟩ := in_of (lo := 0) (hi := 12) (by omega) h3 (by omega)
    obtain ⟨c, hcc⟩ : ∃ c, c = T.1 := ⟨_, rfl⟩
    have hc : MC c I1 := by rw [hcc]; exact hP.1
    have Wc1 : Wc c := by rw [hcc]; exact W.1
    have v1 := Wc1.1
    refine Ez.blk B_X10_firstReachWeight_14 (lo' := [some (.ref 93), some (.int (nI k)), some (.int (nI m)), some (.int (nI n)), some (.long 1), none, some (.int 0), none]) (st' := []) (I' := I1) (J' := J1) (Ps := []) rfl trivial ?_
    have L2 : ∀ i, i ≤ n → ∀ (J2 : aJ), (Lv J2 106 (c 0) (frc c m i) ∧ ∀ q, q ≠ 106 → q ≠ 107 → J2 q = J1 q) → Ez m_X10_firstReachWeight (d + 4) 62 [some (.ref 93), some (.int (nI k)), some (.int (nI m)), some (.int (nI n)), some (.long (lN (c 1 ^ i))), none, some (.int (nI i)), none] [] E0 I1 J2 Q := by
      refine for_up ?_ ?_
      · intro J2 hi
        refine Ez.blk B_X10_firstReachWeight_62 (lo' := [some (.ref 93), some (.int (nI k)), some (.int (nI m)), some (.int (nI n)), some (.long (lN (c 1 ^ n))), none, some (.int (nI n)), none]) (st' := [.int (nI n), .int (nI n)]) (I' := I1) (J' := J2) (Ps := []) rfl trivial ?_
        refine Ez.n_icmp_ge (off := 74) (tgt := 139) (by decide +kernel) (by decide) (a := n) (b := n) rfl rfl (by omega) (by omega) (fun h9 => ?_) (fun h9 => absurd h9 (by omega))
        refine Ez.blk B_X10_firstReachWeight_139 (lo' := [some (.ref 93), some (.int (nI k)), some (.int (nI m)), some (.int (nI n)), some (.long (lN (c 1 ^ n))), none, some (.int (nI n)), none]) (st' := [.long (J2 106 ((nI k).toNatClampNeg))]) (I' := I1) (J' := J2) (Ps := [aO E0 93 10 ∧ E0.2.2 93 15 ≠ 0, aAr E0 2 106 (nI k)]) rfl ⟨r_93_15, (a_106 (vin (n := k) rfl (by omega) (by decide)))⟩ ?_
        rw [cln (x := nI k) (n := k) rfl (by omega)]
        rw [hi.1 k (by rw [hcc]; exact hk)]
        exact Ez.lret rfl (by decide +kernel) (hQ _ _ _ (by unfold f_first; rw [if_pos ⟨h1, h2, h3⟩, hkc, hmc, hnc, ← hcc]; exact ⟨rfl, MP_M hP (FrM_J hi.2), Fr1_M (FrM_J hi.2)⟩))
      · intro i hin ih J2 hi
        refine Ez.blk B_X10_firstReachWeight_62 (lo' := [some (.ref 93), some (.int (nI k)), some (.int (nI m)), some (.int (nI n)), some (.long (lN (c 1 ^ i))), none, some (.int (nI i)), none]) (st' := [.int (nI n), .int (nI i)]) (I' := I1) (J' := J2) (Ps := []) rfl trivial ?_
        refine Ez.n_icmp_ge (off := 74) (tgt := 139) (by decide +kernel) (by decide) (a := i) (b := n) rfl rfl (by omega) (by omega) (fun h9 => absurd h9 (by omega)) (fun h9 => ?_)
        refine Ez.blk B_X10_firstReachWeight_68 (lo' := [some (.ref 93), some (.int (nI k)), some (.int (nI m)), some (.int (nI n)), some (.long (lN (c 1 ^ i))), none, some (.int (nI i)), none]) (st' := [.ref 93]) (I' := I1) (J' := J2) (Ps := []) rfl trivial ?_
        refine Ez.callV (As := []) (b := 93) (rest := []) kn_X10_step ml_10_213 im_X10_step se_X10_step rfl (by decide +kernel) rfl rfl (Nat.le_of_ble_eq_true rfl) (Nat.le_of_ble_eq_true rfl) o_93 (s_stepM _ I1 J2 c hc Wc1 (frc c m i) hi.1) (fun r I3 J3 hq => ?_)
        obtain ⟨rfl, rfl, n1, n2⟩ := hq
        refine Ez.blk B_X10_firstReachWeight_72 (lo' := [some (.ref 93), some (.int (nI k)), some (.int (nI m)), some (.int (nI n)), some (.long ((lN (c 1 ^ i)) * (I3 94 1).toInt64)), none, some (.int (nI i)), some (.int 0)]) (st' := []) (I' := I3) (J' := J3) (Ps := [aO E0 93 10 ∧ E0.2.2 93 0 ≠ 0, aAr E0 1 94 1]) rfl ⟨r_93_0, (a_94 (vin (n := 1) rfl (by omega) (by decide)))⟩ ?_
        rw [hc 1 (by decide), nI_l (by have := Wc1.2.1; omega), lN_mul, ← Nat.pow_succ]
        have L3 : ∀ j, j ≤ c 0 → ∀ (J4 : aJ), ((∀ s, s < j → J4 106 s = lN (frc c m (i + 1) s)) ∧ (∀ s, j ≤ s → J4 106 s = J3 106 s) ∧ ∀ q, q ≠ 106 → J4 q = J3 q) → Ez m_X10_firstReachWeight (d + 4) 87 [some (.ref 93), some (.int (nI k)), some (.int (nI m)), some (.int (nI n)), some (.long (lN (c 1 ^ (i + 1)))), none, some (.int (nI i)), some (.int (nI j))] [] E0 I3 J4 Q := by
          refine for_up ?_ ?_
          · intro J4 hj
            refine Ez.blk B_X10_firstReachWeight_87 (lo' := [some (.ref 93), some (.int (nI k)), some (.int (nI m)), some (.int (nI n)), some (.long (lN (c 1 ^ (i + 1)))), none, some (.int (nI i)), some (.int (nI (c 0)))]) (st' := [.int (I3 94 0), .int (nI (c 0))]) (I' := I3) (J' := J4) (Ps := [aO E0 93 10 ∧ E0.2.2 93 0 ≠ 0, aAr E0 1 94 0]) rfl ⟨r_93_0, (a_94 (vin (n := 0) rfl (by omega) (by decide)))⟩ ?_
            refine Ez.n_icmp_ge (off := 38) (tgt := 133) (by decide +kernel) (by decide) (a := (c 0)) (b := (c 0)) rfl (hc 0 (by decide)) (by omega) (by omega) (fun h9 => ?_) (fun h9 => absurd h9 (by omega))
            refine Ez.blk B_X10_firstReachWeight_133 (lo' := [some (.ref 93), some (.int (nI k)), some (.int (nI m)), some (.int (nI n)), some (.long (lN (c 1 ^ (i + 1)))), none, some (.int (nI i + 1)), some (.int (nI (c 0)))]) (st' := []) (I' := I3) (J' := J4) (Ps := []) rfl trivial ?_
            rw [show (nI i + 1) = nI (i + 1) from (eq_add (a := i) (b := 1) rfl rfl)]
            refine Ez.drops [7] (lo' := [some (.ref 93), some (.int (nI k)), some (.int (nI m)), some (.int (nI n)), some (.long (lN (c 1 ^ (i + 1)))), none, some (.int (nI (i + 1))), none]) rfl ?_
            exact ih J4 ⟨hj.1, fun q h0 h1 => by rw [hj.2.2 q h0, n2 q h0 h1]; exact hi.2 q h0 h1⟩
          · intro j hjn ih2 J4 hj
            refine Ez.blk B_X10_firstReachWeight_87 (lo' := [some (.ref 93), some (.int (nI k)), some (.int (nI m)), some (.int (nI n)), some (.long (lN (c 1 ^ (i + 1)))), none, some (.int (nI i)), some (.int (nI j))]) (st' := [.int (I3 94 0), .int (nI j)]) (I' := I3) (J' := J4) (Ps := [aO E0 93 10 ∧ E0.2.2 93 0 ≠ 0, aAr E0 1 94 0]) rfl ⟨r_93_0, (a_94 (vin (n := 0) rfl (by omega) (by decide)))⟩ ?_
            refine Ez.n_icmp_ge (off := 38) (tgt := 133) (by decide +kernel) (by decide) (a := j) (b := (c 0)) rfl (hc 0 (by decide)) (by omega) (by omega) (fun h9 => absurd h9 (by omega)) (fun h9 => ?_)
            refine Ez.blk B_X10_firstReachWeight_98 (lo' := [some (.ref 93), some (.int (nI k)), some (.int (nI m)), some (.int (nI n)), some (.long (lN (c 1 ^ (i + 1)))), none, some (.int (nI i)), some (.int (nI j))]) (st' := [.int (nI m), .int (nI j), .ref 93, .int (nI j), .ref 106]) (I' := I3) (J' := J4) (Ps := [aO E0 93 10 ∧ E0.2.2 93 15 ≠ 0]) rfl r_93_15 ?_
            refine Ez.callV (As := [.int (nI j), .int (nI m)]) (b := 93) (rest := [.int (nI j), .ref 106]) kn_X10_isIn ml_10_210 im_X10_isIn se_X10_isIn rfl (by decide +kernel) rfl rfl (Nat.le_of_ble_eq_true rfl) (Nat.le_of_ble_eq_true rfl) o_93 (s_isIn _ I3 J4 c hc Wc1 j m (by omega) (by omega)) (fun r I5 J5 hq => ?_)
            obtain ⟨rfl, rfl, rfl⟩ := hq
            refine Ez.z_if_eq (off := 8) (tgt := 119) (by decide +kernel) (by decide) (fun g2 => ?_) (fun g2 => ?_)
            · refine Ez.blk B_X10_firstReachWeight_119 (lo' := [some (.ref 93), some (.int (nI k)), some (.int (nI m)), some (.int (nI n)), some (.long (lN (c 1 ^ (i + 1)))), none, some (.int (nI i)), some (.int (nI j + 1))]) (st' := []) (I' := I5) (J' := (aUpJ J5 106 ((nI j).toNatClampNeg) (J5 106 ((nI j).toNatClampNeg)))) (Ps := [aO E0 93 10 ∧ E0.2.2 93 15 ≠ 0, aAr E0 2 106 (nI j), aAr E0 2 106 (nI j)]) rfl ⟨r_93_15, (a_106 (vin (n := j) rfl (by omega) (by decide))), (a_106 (vin (n := j) rfl (by omega) (by decide)))⟩ ?_
              rw [cln (x := nI j) (n := j) rfl (by omega)]
              rw [show (nI j + 1) = nI (j + 1) from (eq_add (a := j) (b := 1) rfl rfl)]
              rw [hj.2.1 j (Nat.le_refl _), n1 j hjn]
              exact ih2 _ ⟨fun s hs => by
                by_cases e : s = j
                · rw [e, aUpJ_eq]; show _ = lN (if tgt c m j = true then _ else _); rw [if_neg g2]
                · rw [aUpJ_nk e]; exact hj.1 s (by omega), fun s hs => by rw [aUpJ_nk (by omega)]; exact hj.2.1 s (by omega), fun q hq => by rw [aUpJ_ne hq]; exact hj.2.2 q hq⟩
            · refine Ez.blk B_X10_firstReachWeight_114 (lo' := [some (.ref 93), some (.int (nI k)), some (.int (nI m)), some (.int (nI n)), some (.long (lN (c 1 ^ (i + 1)))), none, some (.int (nI i)), some (.int (nI j))]) (st' := [.long (lN (c 1 ^ (i + 1))), .int (nI j), .ref 106]) (I' := I5) (J' := J5) (Ps := []) rfl trivial ?_
              refine Ez.blk B_X10_firstReachWeight_126 (lo' := [some (.ref 93), some (.int (nI k)), some (.int (nI m)), some (.int (nI n)), some (.long (lN (c 1 ^ (i + 1)))), none, some (.int (nI i)), some (.int (nI j + 1))]) (st' := []) (I' := I5) (J' := (aUpJ J5 106 ((nI j).toNatClampNeg) (lN (c 1 ^ (i + 1))))) (Ps := [aAr E0 2 106 (nI j)]) rfl (a_106 (vin (n := j) rfl (by omega) (by decide))) ?_
              rw [cln (x := nI j) (n := j) rfl (by omega)]
              rw [show (nI j + 1) = nI (j + 1) from (eq_add (a := j) (b := 1) rfl rfl)]
              exact ih2 _ ⟨fun s hs => by
                by_cases e : s = j
                · rw [e, aUpJ_eq]; show _ = lN (if tgt c m j = true then _ else _); rw [if_pos g2]
                · rw [aUpJ_nk e]; exact hj.1 s (by omega), fun s hs => by rw [aUpJ_nk (by omega)]; exact hj.2.1 s (by omega), fun q hq => by rw [aUpJ_ne hq]; exact hj.2.2 q hq⟩
        exact L3 0 (by omega) J3 ⟨fun s hs => by omega, fun _ _ => rfl, fun _ _ => rfl⟩
    have L1 : ∀ q, q ≤ c 0 → ∀ (J2 : aJ), (Lv J2 106 q (tg0 c m) ∧ ∀ p, p ≠ 106 → J2 p = J1 p) → Ez m_X10_firstReachWeight (d + 4) 20 [some (.ref 93), some (.int (nI k)), some (.int (nI m)), some (.int (nI n)), some (.long 1), none, some (.int (nI q)), none] [] E0 I1 J2 Q := by
      refine for_up ?_ ?_
      · intro J2 hi
        refine Ez.blk B_X10_firstReachWeight_20 (lo' := [some (.ref 93), some (.int (nI k)), some (.int (nI m)), some (.int (nI n)), some (.long 1), none, some (.int (nI (c 0))), none]) (st' := [.int (I1 94 0), .int (nI (c 0))]) (I' := I1) (J' := J2) (Ps := [aO E0 93 10 ∧ E0.2.2 93 0 ≠ 0, aAr E0 1 94 0]) rfl ⟨r_93_0, (a_94 (vin (n := 0) rfl (by omega) (by decide)))⟩ ?_
        refine Ez.n_icmp_ge (off := 31) (tgt := 59) (by decide +kernel) (by decide) (a := (c 0)) (b := (c 0)) rfl (hc 0 (by decide)) (by omega) (by omega) (fun h9 => ?_) (fun h9 => absurd h9 (by omega))
        refine Ez.blk B_X10_firstReachWeight_59 (lo' := [some (.ref 93), some (.int (nI k)), some (.int (nI m)), some (.int (nI n)), some (.long 1), none, some (.int 0), none]) (st' := []) (I' := I1) (J' := J2) (Ps := []) rfl trivial ?_
        exact L2 0 (by omega) J2 ⟨hi.1, fun p g0 _ => hi.2 p g0⟩
      · intro q hqn ih J2 hi
        refine Ez.blk B_X10_firstReachWeight_20 (lo' := [some (.ref 93), some (.int (nI k)), some (.int (nI m)), some (.int (nI n)), some (.long 1), none, some (.int (nI q)), none]) (st' := [.int (I1 94 0), .int (nI q)]) (I' := I1) (J' := J2) (Ps := [aO E0 93 10 ∧ E0.2.2 93 0 ≠ 0, aAr E0 1 94 0]) rfl ⟨r_93_0, (a_94 (vin (n := 0) rfl (by omega) (by decide)))⟩ ?_
        refine Ez.n_icmp_ge (off := 31) (tgt := 59) (by decide +kernel) (by decide) (a := q) (b := (c 0)) rfl (hc 0 (by decide)) (by omega) (by omega) (fun h9 => absurd h9 (by omega)) (fun h9 => ?_)
        refine Ez.blk B_X10_firstReachWeight_31 (lo' := [some (.ref 93), some (.int (nI k)), some (.int (nI m)), some (.int (nI n)), some (.long 1), none, some (.int (nI q)), none]) (st' := [.int (nI m), .int (nI q), .ref 93, .int (nI q), .ref 106]) (I' := I1) (J' := J2) (Ps := [aO E0 93 10 ∧ E0.2.2 93 15 ≠ 0]) rfl r_93_15 ?_
        refine Ez.callV (As := [.int (nI q), .int (nI m)]) (b := 93) (rest := [.int (nI q), .ref 106]) kn_X10_isIn ml_10_210 im_X10_isIn se_X10_isIn rfl (by decide +kernel) rfl rfl (Nat.le_of_ble_eq_true rfl) (Nat.le_of_ble_eq_true rfl) o_93 (s_isIn _ I1 J2 c hc Wc1 q m (by omega) (by omega)) (fun r I3 J3 hq => ?_)
        obtain ⟨rfl, rfl, rfl⟩ := hq
        refine Ez.z_if_eq (off := 7) (tgt := 51) (by decide +kernel) (by decide) (fun g2 => ?_) (fun g2 => ?_)
        · refine Ez.blk B_X10_firstReachWeight_51 (lo' := [some (.ref 93), some (.int (nI k)), some (.int (nI m)), some (.int (nI n)), some (.long 1), none, some (.int (nI q + 1)), none]) (st' := []) (I' := I3) (J' := (aUpJ J3 106 ((nI q).toNatClampNeg) 0)) (Ps := [aAr E0 2 106 (nI q)]) rfl (a_106 (vin (n := q) rfl (by omega) (by decide))) ?_
          rw [cln (x := nI q) (n := q) rfl (by omega)]
          rw [show (nI q + 1) = nI (q + 1) from (eq_add (a := q) (b := 1) rfl rfl)]
          exact ih _ ⟨fun s hs => by
            by_cases e : s = q
            · rw [e, aUpJ_eq]; unfold tg0; rw [if_neg g2]; rfl
            · rw [aUpJ_nk e]; exact hi.1 s (by omega), fun p hp => by rw [aUpJ_ne hp]; exact hi.2 p hp⟩
        · refine Ez.blk B_X10_firstReachWeight_47 (lo' := [some (.ref 93), some (.int (nI k)), some (.int (nI m)), some (.int (nI n)), some (.long 1), none, some (.int (nI q)), none]) (st' := [.long 1, .int (nI q), .ref 106]) (I' := I3) (J' := J3) (Ps := []) rfl trivial ?_
          refine Ez.blk B_X10_firstReachWeight_52 (lo' := [some (.ref 93), some (.int (nI k)), some (.int (nI m)), some (.int (nI n)), some (.long 1), none, some (.int (nI q + 1)), none]) (st' := []) (I' := I3) (J' := (aUpJ J3 106 ((nI q).toNatClampNeg) 1)) (Ps := [aAr E0 2 106 (nI q)]) rfl (a_106 (vin (n := q) rfl (by omega) (by decide))) ?_
          rw [cln (x := nI q) (n := q) rfl (by omega)]
          rw [show (nI q + 1) = nI (q + 1) from (eq_add (a := q) (b := 1) rfl rfl)]
          exact ih _ ⟨fun s hs => by
            by_cases e : s = q
            · rw [e, aUpJ_eq]; unfold tg0; rw [if_pos g2]; rfl
            · rw [aUpJ_nk e]; exact hi.1 s (by omega), fun p hp => by rw [aUpJ_ne hp]; exact hi.2 p hp⟩
    exact L1 0 (by omega) J1 ⟨fun s hs => by omega, fun _ _ => rfl⟩
  · refine Ez.blk B_X10_firstReachWeight_10 (lo' := [some (.ref 93), some (.int x), some (.int y), some (.int z), none, none, none, none]) (st' := [.long (-9223372036854775808)]) (I' := I1) (J' := J1) (Ps := []) rfl trivial ?_
    exact Ez.lret rfl (by decide +kernel) (hQ _ _ _ (by unfold f_first; rw [if_neg h]; exact ⟨rfl, hP, fun _ _ => ⟨rfl, rfl⟩⟩))
/-- the sums before the label at place m - 1 is looked at -/
def pvs (c b : Nat → Nat) (l m : Nat) : Nat → Nat := if m = l then (fun _ => 1) else sqx c b l (l - 1 - m)
theorem sqx_s {c b : Nat → Nat} {l m : Nat} (hm : m < l) (s : Nat) : sqx c b l (l - 1 - m) s = if c (4 + s) = b m - 48 then (if m + 1 = l then 1 else stp c (sqx c b l (l - 1 - (m + 1))) s) else 0 := by
  by_cases e : m + 1 = l
  · rw [show l - 1 - m = 0 by omega, if_pos e]
    show (if c (4 + s) = b (l - 1) - 48 then 1 else 0) = _
    rw [show l - 1 = m by omega]
  · rw [show l - 1 - m = (l - 1 - (m + 1)) + 1 by omega, if_neg e]
    show (if c (4 + s) = b (l - 2 - (l - 1 - (m + 1))) - 48 then _ else 0) = _
    rw [show l - 2 - (l - 1 - (m + 1)) = m by omega]
theorem sqx_l {c b : Nat → Nat} {l m : Nat} (hm : m + 1 = l) (s : Nat) : sqx c b l (l - 1 - m) s = if c (4 + s) = b m - 48 then 1 else 0 := by
  rw [sqx_s (by omega)]
  by_cases e : c (4 + s) = b m - 48
  · rw [if_pos e, if_pos e, if_pos hm]
  · rw [if_neg e, if_neg e]
theorem sqx_n {c b : Nat → Nat} {l m : Nat} (hm : m + 1 < l) (s : Nat) : sqx c b l (l - 1 - m) s = if c (4 + s) = b m - 48 then stp c (sqx c b l (l - 1 - (m + 1))) s else 0 := by
  rw [sqx_s (by omega)]
  by_cases e : c (4 + s) = b m - 48
  · rw [if_pos e, if_pos e, if_neg (by omega)]
  · rw [if_neg e, if_neg e]
theorem m_seq (d : Nat) (I : aI) (J : aJ) (T : TS) (W : WT T) (hP : MP T I J) (x : Int32) : Sp m_X10_sequenceWeight (d + 3) [.ref 93, .int x] E0 I J (fun r I' J' => r = some (.long (f_seq T x).1) ∧ MP (f_seq T x).2 I' J' ∧ Fr1 I I' J J') := by
  refine Sp.of (lo := [some (.ref 93), some (.int x), none, none, none]) rfl (fun Q hQ => ?_)
  have w1 := W.1.1
  have w2 := W.1.2.1
  have wb := Wc_12 W.1
  have wb80 : bL T ≤ 80 := W.2.2.2.1.1
  have wb128 := W.2.2.2.1.2
  refine Ez.blk B_X10_sequenceWeight_0 (lo' := [some (.ref 93), some (.int x), some (.int (I 93 18)), none, none]) (st' := [.int x, .ref 93]) (I' := (aUp I 93 18 0)) (J' := J) (Ps := [aO E0 93 10, aO E0 93 10]) rfl ⟨o_93, o_93⟩ ?_
  rw [hP.2.2.2.1.1]
  generalize hI0 : (aUp I 93 18 0) = I0
  have p0 := MP_b (b := (0, T.2.2.2.1.2)) (I' := I0) hP ⟨by rw [← hI0, aUp_eq]; rfl, fun i hi => absurd hi (Nat.not_lt_zero _)⟩ (fun k hk => by rw [← hI0, aUp_nk hk]) (fun q h0 _ => by rw [← hI0, aUp_ne h0])
  have hb : ∀ i, i < bL T → I0 108 i = nI (T.2.2.2.1.2 i) := fun i hi => by rw [← hI0, aUp_ne (by decide)]; exact hP.2.2.2.1.2 i hi
  have key : ∀ (v : Int64) (J' : aJ), v = (f_seq T x).1 → (∀ q, q ≠ 106 → q ≠ 107 → J' q = J q) → Q (some (.long v)) I0 J' := fun v J' e hJ => hQ _ _ _ ⟨by rw [e], MP_M p0.1 (FrM_J hJ), fun b hb => ⟨(p0.2 b hb).1, hJ b (by omega) (by omega)⟩⟩
  have hc : MC T.1 I0 := p0.1.1
  refine Ez.callV (As := [.int x]) (b := 93) (rest := []) kn_X10_isState ml_10_103 im_X10_isState se_X10_isState rfl (by decide +kernel) rfl rfl (Nat.le_of_ble_eq_true rfl) (Nat.le_of_ble_eq_true rfl) o_93 (s_isState _ I0 J (T.1 0) (hc 0 (by decide)) W.1.1 x) (fun r I1 J1 hq => ?_)
  obtain ⟨rfl, rfl, rfl⟩ := hq
  refine Ez.z_if_eq (off := 15) (tgt := 30) (by decide +kernel) (by decide) (fun h => ?_) (fun h => ?_)
  · refine Ez.blk B_X10_sequenceWeight_30 (lo' := [some (.ref 93), some (.int x), some (.int (nI (bL T))), none, none]) (st' := [.long (-9223372036854775808)]) (I' := I1) (J' := J1) (Ps := []) rfl trivial ?_
    exact Ez.lret rfl (by decide +kernel) (key _ _ (by unfold f_seq; rw [if_neg (fun q => h q.1)]) (fun _ _ _ => rfl))
  · refine Ez.blk B_X10_sequenceWeight_18 (lo' := [some (.ref 93), some (.int x), some (.int (nI (bL T))), none, none]) (st' := [.long 13, .long 1, .long ((nI (bL T)).toInt64)]) (I' := I1) (J' := J1) (Ps := []) rfl trivial ?_
    refine Ez.callS (As := [.long ((nI (bL T)).toInt64), .long 1, .long 13]) (rest := []) kn_X10_in ml_10_81 sm_X10_in (by decide +kernel) rfl rfl (Nat.le_of_ble_eq_true rfl) (Nat.le_of_ble_eq_true rfl) (s_in _ E0 I1 J1 (nI (bL T)) 1 13 1 13 (by decide) (by decide)) (fun r I2 J2 hq => ?_)
    obtain ⟨rfl, rfl, rfl⟩ := hq
    refine Ez.z_if_ne (off := 7) (tgt := 34) (by decide +kernel) (by decide) (fun h2 => ?_) (fun h2 => ?_)
    · obtain ⟨k, hk, rfl, hkc⟩ := st_of (by omega) h
      have hl : 1 ≤ bL T ∧ bL T ≤ 13 := ⟨(nI_leI (a := 1) (by omega) (by omega)).mp h2.1, (nI_leI (b := 13) (by omega) (by omega)).mp h2.2⟩
      refine Ez.blk B_X10_sequenceWeight_34 (lo' := [some (.ref 93), some (.int (nI k)), some (.int (nI (bL T))), some (.int 0), none]) (st' := []) (I' := I2) (J' := J2) (Ps := []) rfl trivial ?_
      have LZ : lsq T.2.2.2.1 = true → ∀ m, ∀ J2' : aJ, (m ≤ bL T ∧ Lv J2' 106 (T.1 0) (pvs T.1 T.2.2.2.1.2 (bL T) m) ∧ ∀ q, q ≠ 106 → q ≠ 107 → J2' q = J2 q) → Ez m_X10_sequenceWeight (d + 3) 99 [some (.ref 93), some (.int (nI k)), some (.int (nI (bL T))), some (.int (nI m - 1)), none] [] E0 I2 J2' Q := by
        intro hls
        have ld := (lsq_iff.mp hls).2
        refine for_dn ?_ ?_
        · intro J2' ⟨hm, hb2, hf⟩
          refine Ez.blk B_X10_sequenceWeight_99 (lo' := [some (.ref 93), some (.int (nI k)), some (.int (nI (bL T))), some (.int (nI 0 - 1)), none]) (st' := [.int (nI 0 - 1)]) (I' := I2) (J' := J2') (Ps := []) rfl trivial ?_
          refine Ez.if_lt (off := 79) (tgt := 179) (by decide +kernel) (by decide) (fun h9 => ?_) (fun h9 => (absurd (by decide) h9))
          refine Ez.blk B_X10_sequenceWeight_179 (lo' := [some (.ref 93), some (.int (nI k)), some (.int (nI (bL T))), some (.int (nI 0 - 1)), none]) (st' := [.long (J2' 106 ((nI k).toNatClampNeg))]) (I' := I2) (J' := J2') (Ps := [aO E0 93 10 ∧ E0.2.2 93 15 ≠ 0, aAr E0 2 106 (nI k)]) rfl ⟨r_93_15, (a_106 (vin (n := k) rfl (by omega) (by decide)))⟩ ?_
          rw [cln (x := nI k) (n := k) rfl (by omega)]
          rw [show pvs T.1 T.2.2.2.1.2 (bL T) 0 = sqx T.1 T.2.2.2.1.2 (bL T) (bL T - 1) by unfold pvs; rw [if_neg (by omega), Nat.sub_zero]] at hb2
          rw [hb2 k hk]
          exact Ez.lret rfl (by decide +kernel) (key _ _ (by unfold f_seq; rw [if_pos ⟨h, hls⟩, hkc]) hf)
        · intro m ih J2' ⟨hm, hb2, hf⟩
          rw [nI_pred m]
          have ldm := ld m (by show m < bL T; omega)
          refine Ez.blk B_X10_sequenceWeight_99 (lo' := [some (.ref 93), some (.int (nI k)), some (.int (nI (bL T))), some (.int (nI m)), none]) (st' := [.int (nI m)]) (I' := I2) (J' := J2') (Ps := []) rfl trivial ?_
          refine Ez.n_if_lt (off := 79) (tgt := 179) (by decide +kernel) (by decide) (a := m) rfl (by omega) (fun h9 => h9.elim) (fun h9 => ?_)
          have LI : ∀ (J3 : aJ) (y : Nat → Nat), (Lv J3 106 (T.1 0) y ∧ (∀ s, sqx T.1 T.2.2.2.1.2 (bL T) (bL T - 1 - m) s = if T.1 (4 + s) = T.2.2.2.1.2 m - 48 then y s else 0) ∧ ∀ q, q ≠ 106 → q ≠ 107 → J3 q = J2 q) → Ez m_X10_sequenceWeight (d + 3) 114 [some (.ref 93), some (.int (nI k)), some (.int (nI (bL T))), some (.int (nI m)), none] [] E0 I2 J3 Q := by
            intro J3 y ⟨y1, y2, y3⟩
            refine Ez.blk B_X10_sequenceWeight_114 (lo' := [some (.ref 93), some (.int (nI k)), some (.int (nI (bL T))), some (.int (nI m)), some (.int 0)]) (st' := []) (I' := I2) (J' := J3) (Ps := []) rfl trivial ?_
            have L3 : ∀ j, j ≤ T.1 0 → ∀ (J4 : aJ), ((∀ s, s < j → J4 106 s = lN (sqx T.1 T.2.2.2.1.2 (bL T) (bL T - 1 - m) s)) ∧ (∀ s, j ≤ s → J4 106 s = J3 106 s) ∧ ∀ q, q ≠ 106 → J4 q = J3 q) → Ez m_X10_sequenceWeight (d + 3) 117 [some (.ref 93), some (.int (nI k)), some (.int (nI (bL T))), some (.int (nI m)), some (.int (nI j))] [] E0 I2 J4 Q := by
              refine for_up ?_ ?_
              · intro J4 hj
                refine Ez.blk B_X10_sequenceWeight_117 (lo' := [some (.ref 93), some (.int (nI k)), some (.int (nI (bL T))), some (.int (nI m)), some (.int (nI (T.1 0)))]) (st' := [.int (I2 94 0), .int (nI (T.1 0))]) (I' := I2) (J' := J4) (Ps := [aO E0 93 10 ∧ E0.2.2 93 0 ≠ 0, aAr E0 1 94 0]) rfl ⟨r_93_0, (a_94 (vin (n := 0) rfl (by omega) (by decide)))⟩ ?_
                refine Ez.n_icmp_ge (off := 48) (tgt := 173) (by decide +kernel) (by decide) (a := (T.1 0)) (b := (T.1 0)) rfl (hc 0 (by decide)) (by omega) (by omega) (fun h8 => ?_) (fun h8 => absurd h8 (by omega))
                refine Ez.blk B_X10_sequenceWeight_173 (lo' := [some (.ref 93), some (.int (nI k)), some (.int (nI (bL T))), some (.int (nI m + (-1))), some (.int (nI (T.1 0)))]) (st' := []) (I' := I2) (J' := J4) (Ps := []) rfl trivial ?_
                rw [i32_m1]
                refine Ez.drops [4] (lo' := [some (.ref 93), some (.int (nI k)), some (.int (nI (bL T))), some (.int (nI m - 1)), none]) rfl ?_
                exact ih J4 ⟨by omega, by unfold pvs; rw [if_neg (by omega)]; exact hj.1, fun q g0 g1 => by rw [hj.2.2 q g0]; exact y3 q g0 g1⟩
              · intro j hjn ih2 J4 hj
                have e1 : I2 94 (4 + j) = nI (T.1 (4 + j)) := hc (4 + j) (by omega)
                have e2 : I2 108 m - 48 = nI (T.2.2.2.1.2 m - 48) := eq_sub (a := T.2.2.2.1.2 m) (b := 48) (hb m (by omega)) rfl ldm.1
                have e3 := W.1.2.2.2.1 j (by omega)
                refine Ez.blk B_X10_sequenceWeight_117 (lo' := [some (.ref 93), some (.int (nI k)), some (.int (nI (bL T))), some (.int (nI m)), some (.int (nI j))]) (st' := [.int (I2 94 0), .int (nI j)]) (I' := I2) (J' := J4) (Ps := [aO E0 93 10 ∧ E0.2.2 93 0 ≠ 0, aAr E0 1 94 0]) rfl ⟨r_93_0, (a_94 (vin (n := 0) rfl (by omega) (by decide)))⟩ ?_
                refine Ez.n_icmp_ge (off := 48) (tgt := 173) (by decide +kernel) (by decide) (a := j) (b := (T.1 0)) rfl (hc 0 (by decide)) (by omega) (by omega) (fun h8 => absurd h8 (by omega)) (fun h8 => ?_)
                refine Ez.blk B_X10_sequenceWeight_128 (lo' := [some (.ref 93), some (.int (nI k)), some (.int (nI (bL T))), some (.int (nI m)), some (.int (nI j))]) (st' := [.int (I2 108 ((nI m).toNatClampNeg) - 48), .int (I2 94 ((4 + nI j).toNatClampNeg)), .int (nI j), .ref 106]) (I' := I2) (J' := J4) (Ps := [aO E0 93 10 ∧ E0.2.2 93 15 ≠ 0, aO E0 93 10 ∧ E0.2.2 93 0 ≠ 0, aAr E0 1 94 (4 + nI j), aO E0 93 10 ∧ E0.2.2 93 17 ≠ 0, aAr E0 1 108 (nI m)]) rfl ⟨r_93_15, r_93_0, (a_94 (vin (n := (4 + j)) (eq_add (a := 4) (b := j) rfl rfl) (by omega) (by decide))), r_93_17, (a_108 (vin (n := m) rfl (by omega) (by decide)))⟩ ?_
                rw [cln (x := (4 + nI j)) (n := (4 + j)) (eq_add (a := 4) (b := j) rfl rfl) (by omega)]
                rw [cln (x := nI m) (n := m) rfl (by omega)]
                refine Ez.n_icmp_ne (off := 13) (tgt := 165) (by decide +kernel) (by decide) (a := (T.1 (4 + j))) (b := (T.2.2.2.1.2 m - 48)) e1 e2 (by omega) (by omega) (fun g2 => ?_) (fun g2 => ?_)
                · refine Ez.blk B_X10_sequenceWeight_165 (lo' := [some (.ref 93), some (.int (nI k)), some (.int (nI (bL T))), some (.int (nI m)), some (.int (nI j + 1))]) (st' := []) (I' := I2) (J' := (aUpJ J4 106 ((nI j).toNatClampNeg) 0)) (Ps := [aAr E0 2 106 (nI j)]) rfl (a_106 (vin (n := j) rfl (by omega) (by decide))) ?_
                  rw [cln (x := nI j) (n := j) rfl (by omega)]
                  rw [show (nI j + 1) = nI (j + 1) from (eq_add (a := j) (b := 1) rfl rfl)]
                  exact ih2 _ ⟨fun s hs => by
                    by_cases e : s = j
                    · rw [e, aUpJ_eq, y2 j, if_neg g2]; rfl
                    · rw [aUpJ_nk e]; exact hj.1 s (by omega), fun s hs => by rw [aUpJ_nk (by omega)]; exact hj.2.1 s (by omega), fun q hq => by rw [aUpJ_ne hq]; exact hj.2.2 q hq⟩
                · refine Ez.blk B_X10_sequenceWeight_155 (lo' := [some (.ref 93), some (.int (nI k)), some (.int (nI (bL T))), some (.int (nI m)), some (.int (nI j))]) (st' := [.long (J4 106 ((nI j).toNatClampNeg)), .int (nI j), .ref 106]) (I' := I2) (J' := J4) (Ps := [aO E0 93 10 ∧ E0.2.2 93 15 ≠ 0, aAr E0 2 106 (nI j)]) rfl ⟨r_93_15, (a_106 (vin (n := j) rfl (by omega) (by decide)))⟩ ?_
                  rw [cln (x := nI j) (n := j) rfl (by omega)]
                  refine Ez.blk B_X10_sequenceWeight_166 (lo' := [some (.ref 93), some (.int (nI k)), some (.int (nI (bL T))), some (.int (nI m)), some (.int (nI j + 1))]) (st' := []) (I' := I2) (J' := (aUpJ J4 106 ((nI j).toNatClampNeg) (J4 106 j))) (Ps := [aAr E0 2 106 (nI j)]) rfl (a_106 (vin (n := j) rfl (by omega) (by decide))) ?_
                  rw [cln (x := nI j) (n := j) rfl (by omega)]
                  rw [show (nI j + 1) = nI (j + 1) from (eq_add (a := j) (b := 1) rfl rfl)]
                  rw [hj.2.1 j (Nat.le_refl _), y1 j hjn]
                  exact ih2 _ ⟨fun s hs => by
                    by_cases e : s = j
                    · rw [e, aUpJ_eq, y2 j, if_pos g2]
                    · rw [aUpJ_nk e]; exact hj.1 s (by omega), fun s hs => by rw [aUpJ_nk (by omega)]; exact hj.2.1 s (by omega), fun q hq => by rw [aUpJ_ne hq]; exact hj.2.2 q hq⟩
            exact L3 0 (by omega) J3 ⟨fun s hs => by omega, fun _ _ => rfl, fun _ _ => rfl⟩
          refine Ez.blk B_X10_sequenceWeight_103 (lo' := [some (.ref 93), some (.int (nI k)), some (.int (nI (bL T))), some (.int (nI m)), none]) (st' := [.int (nI (bL T) - 1), .int (nI m)]) (I' := I2) (J' := J2') (Ps := []) rfl trivial ?_
          refine Ez.n_icmp_ge (off := 7) (tgt := 114) (by decide +kernel) (by decide) (a := m) (b := (bL T - 1)) rfl (eq_sub (a := bL T) (b := 1) rfl rfl hl.1) (by omega) (by omega) (fun g => ?_) (fun g => ?_)
          · exact LI J2' (fun _ => 1) ⟨by unfold pvs at hb2; rw [if_pos (by omega)] at hb2; exact hb2, fun s => sqx_l (by omega) s, hf⟩
          · refine Ez.blk B_X10_sequenceWeight_110 (lo' := [some (.ref 93), some (.int (nI k)), some (.int (nI (bL T))), some (.int (nI m)), none]) (st' := [.ref 93]) (I' := I2) (J' := J2') (Ps := []) rfl trivial ?_
            refine Ez.callV (As := []) (b := 93) (rest := []) kn_X10_step ml_10_213 im_X10_step se_X10_step rfl (by decide +kernel) rfl rfl (Nat.le_of_ble_eq_true rfl) (Nat.le_of_ble_eq_true rfl) o_93 (s_stepM _ I2 J2' T.1 hc W.1 (sqx T.1 T.2.2.2.1.2 (bL T) (bL T - 1 - (m + 1))) (by unfold pvs at hb2; rw [if_neg (by omega)] at hb2; exact hb2)) (fun r I3 J3 hq => ?_)
            obtain ⟨rfl, rfl, n1, n2⟩ := hq
            exact LI J3 (stp T.1 (sqx T.1 T.2.2.2.1.2 (bL T) (bL T - 1 - (m + 1)))) ⟨n1, fun s => sqx_n (by omega) s, fun q g0 g1 => by rw [n2 q g0 g1]; exact hf q g0 g1⟩
      have LO : ∀ q, q ≤ T.1 0 → ∀ (J2' : aJ), (lsq T.2.2.2.1 = true ∧ Lv J2' 106 q (fun _ => 1) ∧ ∀ p, p ≠ 106 → J2' p = J2 p) → Ez m_X10_sequenceWeight (d + 3) 72 [some (.ref 93), some (.int (nI k)), some (.int (nI (bL T))), some (.int (nI q)), none] [] E0 I2 J2' Q := by
        refine for_up ?_ ?_
        · intro J2' hi
          refine Ez.blk B_X10_sequenceWeight_72 (lo' := [some (.ref 93), some (.int (nI k)), some (.int (nI (bL T))), some (.int (nI (T.1 0))), none]) (st' := [.int (I2 94 0), .int (nI (T.1 0))]) (I' := I2) (J' := J2') (Ps := [aO E0 93 10 ∧ E0.2.2 93 0 ≠ 0, aAr E0 1 94 0]) rfl ⟨r_93_0, (a_94 (vin (n := 0) rfl (by omega) (by decide)))⟩ ?_
          refine Ez.n_icmp_ge (off := 16) (tgt := 95) (by decide +kernel) (by decide) (a := (T.1 0)) (b := (T.1 0)) rfl (hc 0 (by decide)) (by omega) (by omega) (fun h9 => ?_) (fun h9 => absurd h9 (by omega))
          refine Ez.blk B_X10_sequenceWeight_95 (lo' := [some (.ref 93), some (.int (nI k)), some (.int (nI (bL T))), some (.int (nI (bL T) - 1)), none]) (st' := []) (I' := I2) (J' := J2') (Ps := []) rfl trivial ?_
          exact LZ hi.1 (bL T) J2' ⟨Nat.le_refl _, by unfold pvs; rw [if_pos rfl]; exact hi.2.1, fun p g0 _ => hi.2.2 p g0⟩
        · intro q hqn ih J2' hi
          refine Ez.blk B_X10_sequenceWeight_72 (lo' := [some (.ref 93), some (.int (nI k)), some (.int (nI (bL T))), some (.int (nI q)), none]) (st' := [.int (I2 94 0), .int (nI q)]) (I' := I2) (J' := J2') (Ps := [aO E0 93 10 ∧ E0.2.2 93 0 ≠ 0, aAr E0 1 94 0]) rfl ⟨r_93_0, (a_94 (vin (n := 0) rfl (by omega) (by decide)))⟩ ?_
          refine Ez.n_icmp_ge (off := 16) (tgt := 95) (by decide +kernel) (by decide) (a := q) (b := (T.1 0)) rfl (hc 0 (by decide)) (by omega) (by omega) (fun h9 => absurd h9 (by omega)) (fun h9 => ?_)
          refine Ez.blk B_X10_sequenceWeight_82 (lo' := [some (.ref 93), some (.int (nI k)), some (.int (nI (bL T))), some (.int (nI q + 1)), none]) (st' := []) (I' := I2) (J' := (aUpJ J2' 106 ((nI q).toNatClampNeg) 1)) (Ps := [aO E0 93 10 ∧ E0.2.2 93 15 ≠ 0, aAr E0 2 106 (nI q)]) rfl ⟨r_93_15, (a_106 (vin (n := q) rfl (by omega) (by decide)))⟩ ?_
          rw [cln (x := nI q) (n := q) rfl (by omega)]
          rw [show (nI q + 1) = nI (q + 1) from (eq_add (a := q) (b := 1) rfl rfl)]
          exact ih _ ⟨hi.1, fun s hs => by
            by_cases e : s = q
            · rw [e, aUpJ_eq]; rfl
            · rw [aUpJ_nk e]; exact hi.2.1 s (by omega), fun p hp => by rw [aUpJ_ne hp]; exact hi.2.2 p hp⟩
      have LD : ∀ q, q ≤ bL T → (∀ i, i < q → 48 ≤ T.2.2.2.1.2 i ∧ T.2.2.2.1.2 i ≤ 51) → Ez m_X10_sequenceWeight (d + 3) 36 [some (.ref 93), some (.int (nI k)), some (.int (nI (bL T))), some (.int (nI q)), none] [] E0 I2 J2 Q := by
        refine for_up ?_ ?_
        · intro hi
          refine Ez.blk B_X10_sequenceWeight_36 (lo' := [some (.ref 93), some (.int (nI k)), some (.int (nI (bL T))), some (.int (nI (bL T))), none]) (st' := [.int (nI (bL T)), .int (nI (bL T))]) (I' := I2) (J' := J2) (Ps := []) rfl trivial ?_
          refine Ez.n_icmp_ge (off := 32) (tgt := 70) (by decide +kernel) (by decide) (a := (bL T)) (b := (bL T)) rfl rfl (by omega) (by omega) (fun h9 => ?_) (fun h9 => absurd h9 (by omega))
          refine Ez.blk B_X10_sequenceWeight_70 (lo' := [some (.ref 93), some (.int (nI k)), some (.int (nI (bL T))), some (.int 0), none]) (st' := []) (I' := I2) (J' := J2) (Ps := []) rfl trivial ?_
          exact LO 0 (by omega) J2 ⟨lsq_iff.mpr ⟨hl, hi⟩, fun s hs => by omega, fun _ _ => rfl⟩
        · intro q hqn ih hi
          refine Ez.blk B_X10_sequenceWeight_36 (lo' := [some (.ref 93), some (.int (nI k)), some (.int (nI (bL T))), some (.int (nI q)), none]) (st' := [.int (nI (bL T)), .int (nI q)]) (I' := I2) (J' := J2) (Ps := []) rfl trivial ?_
          refine Ez.n_icmp_ge (off := 32) (tgt := 70) (by decide +kernel) (by decide) (a := q) (b := (bL T)) rfl rfl (by omega) (by omega) (fun h9 => absurd h9 (by omega)) (fun h9 => ?_)
          refine Ez.blk B_X10_sequenceWeight_41 (lo' := [some (.ref 93), some (.int (nI k)), some (.int (nI (bL T))), some (.int (nI q)), none]) (st' := [.long 51, .long 48, .long ((I2 108 ((nI q).toNatClampNeg)).toInt64)]) (I' := I2) (J' := J2) (Ps := [aO E0 93 10 ∧ E0.2.2 93 17 ≠ 0, aAr E0 1 108 (nI q)]) rfl ⟨r_93_17, (a_108 (vin (n := q) rfl (by omega) (by decide)))⟩ ?_
          rw [cln (x := nI q) (n := q) rfl (by omega)]
          rw [hb q hqn]
          have q128 := wb128 q hqn
          refine Ez.callS (As := [.long ((nI (T.2.2.2.1.2 q)).toInt64), .long 48, .long 51]) (rest := []) kn_X10_in ml_10_81 sm_X10_in (by decide +kernel) rfl rfl (Nat.le_of_ble_eq_true rfl) (Nat.le_of_ble_eq_true rfl) (s_in _ E0 I2 J2 (nI (T.2.2.2.1.2 q)) 48 51 48 51 (by decide) (by decide)) (fun r I3 J3 hq => ?_)
          obtain ⟨rfl, rfl, rfl⟩ := hq
          refine Ez.z_if_ne (off := 7) (tgt := 64) (by decide +kernel) (by decide) (fun g => ?_) (fun g => ?_)
          · refine Ez.blk B_X10_sequenceWeight_64 (lo' := [some (.ref 93), some (.int (nI k)), some (.int (nI (bL T))), some (.int (nI q + 1)), none]) (st' := []) (I' := I3) (J' := J3) (Ps := []) rfl trivial ?_
            rw [show (nI q + 1) = nI (q + 1) from (eq_add (a := q) (b := 1) rfl rfl)]
            exact ih (fun i hi2 => by
              by_cases e : i = q
              · rw [e]; exact ⟨(nI_leI (a := 48) (by omega) (by omega)).mp g.1, (nI_leI (b := 51) (by omega) (by omega)).mp g.2⟩
              · exact hi i (by omega))
          · refine Ez.blk B_X10_sequenceWeight_60 (lo' := [some (.ref 93), some (.int (nI k)), some (.int (nI (bL T))), some (.int (nI q)), none]) (st' := [.long (-9223372036854775808)]) (I' := I3) (J' := J3) (Ps := []) rfl trivial ?_
            exact Ez.lret rfl (by decide +kernel) (key _ _ (by unfold f_seq; rw [if_neg (fun q => g (by have := (lsq_iff.mp q.2).2 _ hqn; exact in_n (lo := 48) (hi := 51) this.1 this.2 (by omega)))]) (fun _ _ _ => rfl))
      exact LD 0 (by omega) (fun i hi => by omega)
    · refine Ez.blk B_X10_sequenceWeight_30 (lo' := [some (.ref 93), some (.int x), some (.int (nI (bL T))), none, none]) (st' := [.long (-9223372036854775808)]) (I' := I2) (J' := J2) (Ps := []) rfl trivial ?_
      exact Ez.lret rfl (by decide +kernel) (key _ _ (by unfold f_seq; rw [if_neg (fun q => h2 (by have := (lsq_iff.mp q.2).1; exact in_n (lo := 1) (hi := 13) this.1 this.2 (by omega)))]) (fun _ _ _ => rfl))

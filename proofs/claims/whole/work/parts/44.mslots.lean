/-! THE REFERENCE: array slots -/
/-- the slots alone change -/
theorem MP_sl {T : TS} {I I' : aI} {J J' : aJ} {sl : (Nat → Nat) × (Nat → Nat) × (Nat → Nat → Int64)} (h : MP T I J) (h1 : MSl sl I' J') (hI : ∀ q, q ≠ 112 → q ≠ 113 → I' q = I q) (hJ : ∀ q, q ≠ 114 → J' q = J q) : MP (setSl T sl) I' J' ∧ Fr1 I I' J J' := ⟨⟨MC_fr h.1 (hI _ (by omega) (by omega)), MEd_fr h.2.1 (by rw [hI 93 (by omega) (by omega)]) (hI _ (by omega) (by omega)), MSn_fr h.2.2.1 (by rw [hI 93 (by omega) (by omega)]) (hI _ (by omega) (by omega)), MBf_fr h.2.2.2.1 (by rw [hI 93 (by omega) (by omega)]) (hI _ (by omega) (by omega)), h1⟩, fun b hb => ⟨hI b (by omega) (by omega), hJ b (by omega)⟩⟩
theorem m_allocate (d : Nat) (I : aI) (J : aJ) (T : TS) (W : WT T) (hP : MP T I J) (x y z : Int32) : Sp m_X10_allocate (d + 3) [.ref 93, .int x, .int y, .int z] E0 I J (fun r I' J' => r = some (.int (f_allocate T x y z).1) ∧ MP (f_allocate T x y z).2 I' J' ∧ Fr1 I I' J J') := by
  refine Sp.of (lo := [some (.ref 93), some (.int x), some (.int y), some (.int z), none]) rfl (fun Q hQ => ?_)
  refine Ez.blk B_X10_allocate_0 (lo' := [some (.ref 93), some (.int x), some (.int y), some (.int z), none]) (st' := [.int x]) (I' := I) (J' := J) (Ps := []) rfl trivial ?_
  refine Ez.callS (As := [.int x]) (rest := []) kn_X10_isSlot ml_10_275 sm_X10_isSlot (by decide +kernel) rfl rfl (Nat.le_of_ble_eq_true rfl) (Nat.le_of_ble_eq_true rfl) (s_isSlotM _ E0 I J x) (fun r I1 J1 hq => ?_)
  obtain ⟨rfl, rfl, rfl⟩ := hq
  refine Ez.z_if_eq (off := 21) (tgt := 25) (by decide +kernel) (by decide) (fun h => ?_) (fun h => ?_)
  · refine Ez.blk B_X10_allocate_25 (lo' := [some (.ref 93), some (.int x), some (.int y), some (.int z), none]) (st' := [.int (-1)]) (I' := I1) (J' := J1) (Ps := []) rfl trivial ?_
    exact Ez.iret rfl (by decide +kernel) (hQ _ _ _ (by unfold f_allocate; rw [if_neg (fun q => h q.1)]; exact ⟨rfl, hP, fun _ _ => ⟨rfl, rfl⟩⟩))
  · refine Ez.blk B_X10_allocate_7 (lo' := [some (.ref 93), some (.int x), some (.int y), some (.int z), none]) (st' := [.long 3, .long 0, .long y.toInt64]) (I' := I1) (J' := J1) (Ps := []) rfl trivial ?_
    refine Ez.callS (As := [.long y.toInt64, .long 0, .long 3]) (rest := []) kn_X10_in ml_10_81 sm_X10_in (by decide +kernel) rfl rfl (Nat.le_of_ble_eq_true rfl) (Nat.le_of_ble_eq_true rfl) (s_in _ E0 I1 J1 y 0 3 0 3 (by decide) (by decide)) (fun r I2 J2 hq => ?_)
    obtain ⟨rfl, rfl, rfl⟩ := hq
    refine Ez.z_if_eq (off := 9) (tgt := 25) (by decide +kernel) (by decide) (fun h2 => ?_) (fun h2 => ?_)
    · refine Ez.blk B_X10_allocate_25 (lo' := [some (.ref 93), some (.int x), some (.int y), some (.int z), none]) (st' := [.int (-1)]) (I' := I2) (J' := J2) (Ps := []) rfl trivial ?_
      exact Ez.iret rfl (by decide +kernel) (hQ _ _ _ (by unfold f_allocate; rw [if_neg (fun q => h2 q.2.1)]; exact ⟨rfl, hP, fun _ _ => ⟨rfl, rfl⟩⟩))
    · refine Ez.blk B_X10_allocate_19 (lo' := [some (.ref 93), some (.int x), some (.int y), some (.int z), none]) (st' := [.int 40, .int z]) (I' := I2) (J' := J2) (Ps := []) rfl trivial ?_
      refine Ez.icmp_le (off := 5) (tgt := 27) (by decide +kernel) (by decide) (fun h3 => ?_) (fun h3 => ?_)
      · refine Ez.blk B_X10_allocate_27 (lo' := [some (.ref 93), some (.int x), some (.int y), some (.int z), none]) (st' := [.int z]) (I' := I2) (J' := J2) (Ps := []) rfl trivial ?_
        refine Ez.if_ge (off := 6) (tgt := 34) (by decide +kernel) (by decide) (fun h4 => ?_) (fun h4 => ?_)
        · obtain ⟨s, hs0, hs, rfl, hsc⟩ := in_of (lo := 0) (hi := 3) (by omega) h (by omega)
          obtain ⟨u, hu0, hu, rfl, huc⟩ := in_of (lo := 0) (hi := 3) (by omega) h2 (by omega)
          obtain ⟨m, hm0, hm, rfl, hmc⟩ := in_of (lo := 0) (hi := 40) (by omega) (x := z) ⟨h4, h3⟩ (by omega)
          refine Ez.blk B_X10_allocate_34 (lo' := [some (.ref 93), some (.int (nI s)), some (.int (nI u)), some (.int (nI m)), some (.int 0)]) (st' := []) (I' := (aUp (aUp I2 112 ((nI s).toNatClampNeg) (nI u + 1)) 113 ((nI s).toNatClampNeg) (nI m))) (J' := J2) (Ps := [aO E0 93 10 ∧ E0.2.2 93 27 ≠ 0, aAr E0 1 112 (nI s), aO E0 93 10 ∧ E0.2.2 93 28 ≠ 0, aAr E0 1 113 (nI s)]) rfl ⟨r_93_27, (a_112 (vin (n := s) rfl (by omega) (by decide))), r_93_28, (a_113 (vin (n := s) rfl (by omega) (by decide)))⟩ ?_
          rw [cln (x := nI s) (n := s) rfl (by omega)]
          rw [nI_1 u]
          generalize hI3 : (aUp (aUp I2 112 s (nI (u + 1))) 113 s (nI m)) = I3
          have q1 : ∀ q, q ≠ 112 → q ≠ 113 → I3 q = I2 q := fun q h0 h1 => by rw [← hI3, aUp_ne h1, aUp_ne h0]
          have q2 : ∀ c, I3 112 c = if c = s then nI (u + 1) else I2 112 c := fun c => by
            rw [← hI3, aUp_ne (by decide)]
            by_cases e : c = s
            · rw [if_pos e, e, aUp_eq]
            · rw [if_neg e, aUp_nk e]
          have q3 : ∀ c, I3 113 c = if c = s then nI m else I2 113 c := fun c => by
            rw [← hI3]
            by_cases e : c = s
            · rw [if_pos e, e, aUp_eq]
            · rw [if_neg e, aUp_nk e, aUp_ne (by decide)]
          have L1 : ∀ k, k ≤ 40 → ∀ (J3 : aJ), ((∀ j, j < k → J3 114 (40 * s + j) = 0) ∧ (∀ j, j < 40 * s ∨ 40 * s + 40 ≤ j → J3 114 j = J2 114 j) ∧ ∀ q, q ≠ 114 → J3 q = J2 q) → Ez m_X10_allocate (d + 3) 53 [some (.ref 93), some (.int (nI s)), some (.int (nI u)), some (.int (nI m)), some (.int (nI k))] [] E0 I3 J3 Q := by
            refine for_up ?_ ?_
            · intro J3 hi
              refine Ez.blk B_X10_allocate_53 (lo' := [some (.ref 93), some (.int (nI s)), some (.int (nI u)), some (.int (nI m)), some (.int (nI 40))]) (st' := [.int 40, .int (nI 40)]) (I' := I3) (J' := J3) (Ps := []) rfl trivial ?_
              refine Ez.n_icmp_ge (off := 22) (tgt := 79) (by decide +kernel) (by decide) (a := 40) (b := 40) rfl rfl (by omega) (by omega) (fun h9 => ?_) (fun h9 => absurd h9 (by omega))
              refine Ez.blk B_X10_allocate_79 (lo' := [some (.ref 93), some (.int (nI s)), some (.int (nI u)), some (.int (nI m)), some (.int (nI 40))]) (st' := [.int (nI m)]) (I' := I3) (J' := J3) (Ps := []) rfl trivial ?_
              exact Ez.iret rfl (by decide +kernel) (hQ _ _ _ (by
                unfold f_allocate
                rw [if_pos ⟨h, h2, h3⟩, if_pos h4, hsc, huc, hmc]
                refine ⟨rfl, MP_sl hP (fun c hc => ?_) q1 hi.2.2⟩
                obtain ⟨b1, b2, b3⟩ := hP.2.2.2.2 c hc
                dsimp only
                unfold erow cup
                rw [q2 c, q3 c]
                by_cases e : c = s
                · rw [if_pos e, if_pos e, if_pos e, if_pos e]
                  exact ⟨rfl, rfl, fun k hk => by rw [if_pos e, e]; exact hi.1 k hk⟩
                · rw [if_neg e, if_neg e, if_neg e, if_neg e]
                  exact ⟨b1, b2, fun k hk => by rw [if_neg e, hi.2.1 _ (by omega)]; exact b3 k hk⟩))
            · intro k hk ih J3 hi
              refine Ez.blk B_X10_allocate_53 (lo' := [some (.ref 93), some (.int (nI s)), some (.int (nI u)), some (.int (nI m)), some (.int (nI k))]) (st' := [.int 40, .int (nI k)]) (I' := I3) (J' := J3) (Ps := []) rfl trivial ?_
              refine Ez.n_icmp_ge (off := 22) (tgt := 79) (by decide +kernel) (by decide) (a := k) (b := 40) rfl rfl (by omega) (by omega) (fun h9 => absurd h9 (by omega)) (fun h9 => ?_)
              refine Ez.blk B_X10_allocate_60 (lo' := [some (.ref 93), some (.int (nI s)), some (.int (nI u)), some (.int (nI m)), some (.int (nI k + 1))]) (st' := []) (I' := I3) (J' := (aUpJ J3 114 (((40 * nI s) + nI k).toNatClampNeg) 0)) (Ps := [aO E0 93 10 ∧ E0.2.2 93 29 ≠ 0, aAr E0 2 114 ((40 * nI s) + nI k)]) rfl ⟨r_93_29, (a_114 (vin (n := (40 * s + k)) (eq_add (a := (40 * s)) (b := k) (eq_mul (a := 40) (b := s) rfl rfl) rfl) (by omega) (by decide)))⟩ ?_
              rw [cln (x := ((40 * nI s) + nI k)) (n := (40 * s + k)) (eq_add (a := (40 * s)) (b := k) (eq_mul (a := 40) (b := s) rfl rfl) rfl) (by omega)]
              rw [show (nI k + 1) = nI (k + 1) from (eq_add (a := k) (b := 1) rfl rfl)]
              exact ih _ ⟨fun j hj => by
                by_cases e : j = k
                · rw [e, aUpJ_eq]
                · rw [aUpJ_nk (by omega)]; exact hi.1 j (by omega), fun j hj => by rw [aUpJ_nk (by omega)]; exact hi.2.1 j hj, fun q hq => by rw [aUpJ_ne hq]; exact hi.2.2 q hq⟩
          exact L1 0 (by omega) J2 ⟨fun j hj => by omega, fun _ _ => rfl, fun _ _ => rfl⟩
        · refine Ez.blk B_X10_allocate_31 (lo' := [some (.ref 93), some (.int x), some (.int y), some (.int z), none]) (st' := [.int (-14)]) (I' := I2) (J' := J2) (Ps := []) rfl trivial ?_
          exact Ez.iret rfl (by decide +kernel) (hQ _ _ _ (by unfold f_allocate; rw [if_pos ⟨h, h2, h3⟩, if_neg h4]; exact ⟨rfl, hP, fun _ _ => ⟨rfl, rfl⟩⟩))
      · refine Ez.blk B_X10_allocate_25 (lo' := [some (.ref 93), some (.int x), some (.int y), some (.int z), none]) (st' := [.int (-1)]) (I' := I2) (J' := J2) (Ps := []) rfl trivial ?_
        exact Ez.iret rfl (by decide +kernel) (hQ _ _ _ (by unfold f_allocate; rw [if_neg (fun q => h3 q.2.2)]; exact ⟨rfl, hP, fun _ _ => ⟨rfl, rfl⟩⟩))
theorem m_release (d : Nat) (I : aI) (J : aJ) (T : TS) (W : WT T) (hP : MP T I J) (x : Int32) : Sp m_X10_release (d + 3) [.ref 93, .int x] E0 I J (fun r I' J' => r = some (.int (f_release T x).1) ∧ MP (f_release T x).2 I' J' ∧ Fr1 I I' J J') := by
  refine Sp.of (lo := [some (.ref 93), some (.int x), none]) rfl (fun Q hQ => ?_)
  refine Ez.blk B_X10_release_0 (lo' := [some (.ref 93), some (.int x), none]) (st' := [.int x]) (I' := I) (J' := J) (Ps := []) rfl trivial ?_
  refine Ez.callS (As := [.int x]) (rest := []) kn_X10_isSlot ml_10_275 sm_X10_isSlot (by decide +kernel) rfl rfl (Nat.le_of_ble_eq_true rfl) (Nat.le_of_ble_eq_true rfl) (s_isSlotM _ E0 I J x) (fun r I1 J1 hq => ?_)
  obtain ⟨rfl, rfl, rfl⟩ := hq
  refine Ez.z_if_ne (off := 5) (tgt := 9) (by decide +kernel) (by decide) (fun h => ?_) (fun h => ?_)
  · obtain ⟨s, hs0, hs, rfl, hsc⟩ := in_of (lo := 0) (hi := 3) (by omega) h (by omega)
    have s4 : s < 4 := by omega
    have wts : sTy T s ≤ 4 ∧ sSz T s ≤ 40 := W.2.2.2.2 s s4
    have hps := hP.2.2.2.2 s s4
    refine Ez.blk B_X10_release_9 (lo' := [some (.ref 93), some (.int (nI s)), none]) (st' := [.int (I1 112 ((nI s).toNatClampNeg))]) (I' := I1) (J' := J1) (Ps := [aO E0 93 10 ∧ E0.2.2 93 27 ≠ 0, aAr E0 1 112 (nI s)]) rfl ⟨r_93_27, (a_112 (vin (n := s) rfl (by omega) (by decide)))⟩ ?_
    rw [cln (x := nI s) (n := s) rfl (by omega)]
    rw [hps.1]
    refine Ez.n_if_ne (off := 7) (tgt := 22) (by decide +kernel) (by decide) (a := (sTy T s)) rfl (by omega) (fun h2 => ?_) (fun h2 => ?_)
    · refine Ez.blk B_X10_release_22 (lo' := [some (.ref 93), some (.int (nI s)), some (.int 1)]) (st' := [.int 1]) (I' := (aUp I1 112 ((nI s).toNatClampNeg) 0)) (J' := J1) (Ps := [aO E0 93 10 ∧ E0.2.2 93 27 ≠ 0, aAr E0 1 112 (nI s)]) rfl ⟨r_93_27, (a_112 (vin (n := s) rfl (by omega) (by decide)))⟩ ?_
      rw [cln (x := nI s) (n := s) rfl (by omega)]
      generalize hI2 : (aUp I1 112 s 0) = I2
      exact Ez.iret rfl (by decide +kernel) (hQ _ _ _ (by
        unfold f_release
        rw [if_pos h, hsc, if_neg h2]
        have q1 : ∀ q, q ≠ 112 → I2 q = I1 q := fun q hq => by rw [← hI2, aUp_ne hq]
        have key : MP (setSl T (cup T.2.2.2.2.1 s 0, T.2.2.2.2.2)) I2 J1 ∧ Fr1 I1 I2 J1 J1 := MP_sl hP (fun c hc => by
          obtain ⟨b1, b2, b3⟩ := hP.2.2.2.2 c hc
          refine ⟨?_, by rw [q1 113 (by decide)]; exact b2, b3⟩
          show I2 112 c = nI (cup T.2.2.2.2.1 s 0 c)
          rw [← hI2]
          by_cases e : c = s
          · rw [e, aUp_eq, cup_eq]; rfl
          · rw [aUp_nk e, cup_ne e]; exact b1) (fun q h0 _ => q1 q h0) (fun _ _ => rfl)
        exact ⟨rfl, key⟩))
    · refine Ez.blk B_X10_release_18 (lo' := [some (.ref 93), some (.int (nI s)), none]) (st' := [.int 0]) (I' := I1) (J' := J1) (Ps := []) rfl trivial ?_
      refine Ez.blk B_X10_release_23 (lo' := [some (.ref 93), some (.int (nI s)), some (.int 0)]) (st' := [.int 0]) (I' := (aUp I1 112 ((nI s).toNatClampNeg) 0)) (J' := J1) (Ps := [aO E0 93 10 ∧ E0.2.2 93 27 ≠ 0, aAr E0 1 112 (nI s)]) rfl ⟨r_93_27, (a_112 (vin (n := s) rfl (by omega) (by decide)))⟩ ?_
      rw [cln (x := nI s) (n := s) rfl (by omega)]
      generalize hI2 : (aUp I1 112 s 0) = I2
      exact Ez.iret rfl (by decide +kernel) (hQ _ _ _ (by
        unfold f_release
        rw [if_pos h, hsc, if_pos h2]
        have q1 : ∀ q, q ≠ 112 → I2 q = I1 q := fun q hq => by rw [← hI2, aUp_ne hq]
        have key : MP (setSl T (cup T.2.2.2.2.1 s 0, T.2.2.2.2.2)) I2 J1 ∧ Fr1 I1 I2 J1 J1 := MP_sl hP (fun c hc => by
          obtain ⟨b1, b2, b3⟩ := hP.2.2.2.2 c hc
          refine ⟨?_, by rw [q1 113 (by decide)]; exact b2, b3⟩
          show I2 112 c = nI (cup T.2.2.2.2.1 s 0 c)
          rw [← hI2]
          by_cases e : c = s
          · rw [e, aUp_eq, cup_eq]; rfl
          · rw [aUp_nk e, cup_ne e]; exact b1) (fun q h0 _ => q1 q h0) (fun _ _ => rfl)
        refine ⟨rfl, ⟨key.1.1, key.1.2.1, key.1.2.2.1, key.1.2.2.2.1, fun c hc => ?_⟩, key.2⟩
        have b := key.1.2.2.2.2 c hc
        refine ⟨?_, b.2.1, b.2.2⟩
        rw [b.1]
        show nI (cup T.2.2.2.2.1 s 0 c) = _
        by_cases e : c = s
        · rw [e, cup_eq]; exact congrArg nI h2.symm
        · rw [cup_ne e]))
  · refine Ez.blk B_X10_release_7 (lo' := [some (.ref 93), some (.int x), none]) (st' := [.int (-1)]) (I' := I1) (J' := J1) (Ps := []) rfl trivial ?_
    exact Ez.iret rfl (by decide +kernel) (hQ _ _ _ (by unfold f_release; rw [if_neg h]; exact ⟨rfl, hP, fun _ _ => ⟨rfl, rfl⟩⟩))
theorem s_narrowM (d : Nat) (E : aE) (I : aI) (J : aJ) (k : Nat) (hk : k ≤ 4) (v : Int64) : Sp m_X10_narrow (d + 1) [.int (nI k), .long v] E I J (fun r I' J' => r = some (.long (nrw k v)) ∧ I' = I ∧ J' = J) := by
  refine Sp.of (lo := [some (.int (nI k)), some (.long v), none]) rfl (fun Q hQ => ?_)
  refine Ez.blk B_X10_narrow_0 (lo' := [some (.int (nI k)), some (.long v), none]) (st' := [.int 1, .int (nI k)]) (I' := I) (J' := J) (Ps := []) rfl trivial ?_
  refine Ez.n_icmp_ne (off := 10) (tgt := 12) (by decide +kernel) (by decide) (a := k) (b := 1) rfl rfl (by omega) (by omega) (fun h1 => ?_) (fun h1 => ?_)
  · refine Ez.blk B_X10_narrow_12 (lo' := [some (.int (nI k)), some (.long v), none]) (st' := [.int 2, .int (nI k)]) (I' := I) (J' := J) (Ps := []) rfl trivial ?_
    refine Ez.n_icmp_ne (off := 10) (tgt := 24) (by decide +kernel) (by decide) (a := k) (b := 2) rfl rfl (by omega) (by omega) (fun h2 => ?_) (fun h2 => ?_)
    · refine Ez.blk B_X10_narrow_24 (lo' := [some (.int (nI k)), some (.long v), none]) (st' := [.int 3, .int (nI k)]) (I' := I) (J' := J) (Ps := []) rfl trivial ?_
      refine Ez.n_icmp_ne (off := 9) (tgt := 35) (by decide +kernel) (by decide) (a := k) (b := 3) rfl rfl (by omega) (by omega) (fun h3 => ?_) (fun h3 => ?_)
      · refine Ez.blk B_X10_narrow_35 (lo' := [some (.int (nI k)), some (.long v), none]) (st' := [.long v]) (I' := I) (J' := J) (Ps := []) rfl trivial ?_
        exact Ez.lret rfl (by decide +kernel) (hQ _ _ _ ⟨by unfold nrw; rw [if_neg h1, if_neg h2, if_neg h3], rfl, rfl⟩)
      · refine Ez.blk B_X10_narrow_29 (lo' := [some (.int (nI k)), some (.long v), none]) (st' := [.long v.toInt32.toInt64]) (I' := I) (J' := J) (Ps := []) rfl trivial ?_
        exact Ez.lret rfl (by decide +kernel) (hQ _ _ _ ⟨by unfold nrw; rw [if_neg h1, if_neg h2, if_pos h3], rfl, rfl⟩)
    · refine Ez.blk B_X10_narrow_17 (lo' := [some (.int (nI k)), some (.long v), none]) (st' := [.long (((v.toInt32.toUInt32 % 65536).toInt32).toInt64)]) (I' := I) (J' := J) (Ps := []) rfl trivial ?_
      exact Ez.lret rfl (by decide +kernel) (hQ _ _ _ ⟨by unfold nrw; rw [if_neg h1, if_pos h2], rfl, rfl⟩)
  · refine Ez.blk B_X10_narrow_5 (lo' := [some (.int (nI k)), some (.long v), none]) (st' := [.long v.toInt32.toInt8.toInt32.toInt64]) (I' := I) (J' := J) (Ps := []) rfl trivial ?_
    exact Ez.lret rfl (by decide +kernel) (hQ _ _ _ ⟨by unfold nrw; rw [if_pos h1], rfl, rfl⟩)
theorem ix_iff {x : Int32} {z : Nat} (hz : z ≤ 40) : (0 ≤ x ∧ x ≤ nI z - 1) ↔ (0 ≤ x ∧ x < nI z) := by
  by_cases e : z = 0
  · subst e
    rw [show nI 0 - 1 = (-1 : Int32) from rfl, show nI 0 = (0 : Int32) from rfl, Int32.le_iff_toInt_le, Int32.le_iff_toInt_le, Int32.lt_iff_toInt_lt]
    show ((0 : Int) ≤ _ ∧ _ ≤ (-1 : Int)) ↔ ((0 : Int) ≤ _ ∧ _ < (0 : Int))
    omega
  · rw [le_pred (by omega) (by omega)]
theorem m_putElement (d : Nat) (I : aI) (J : aJ) (T : TS) (W : WT T) (hP : MP T I J) (x y : Int32) (v : Int64) : Sp m_X10_putElement (d + 3) [.ref 93, .int x, .int y, .long v] E0 I J (fun r I' J' => r = some (.int (f_putElement T x y v).1) ∧ MP (f_putElement T x y v).2 I' J' ∧ Fr1 I I' J J') := by
  refine Sp.of (lo := [some (.ref 93), some (.int x), some (.int y), some (.long v), none]) rfl (fun Q hQ => ?_)
  refine Ez.blk B_X10_putElement_0 (lo' := [some (.ref 93), some (.int x), some (.int y), some (.long v), none]) (st' := [.int x]) (I' := I) (J' := J) (Ps := []) rfl trivial ?_
  refine Ez.callS (As := [.int x]) (rest := []) kn_X10_isSlot ml_10_275 sm_X10_isSlot (by decide +kernel) rfl rfl (Nat.le_of_ble_eq_true rfl) (Nat.le_of_ble_eq_true rfl) (s_isSlotM _ E0 I J x) (fun r I1 J1 hq => ?_)
  obtain ⟨rfl, rfl, rfl⟩ := hq
  refine Ez.z_if_ne (off := 5) (tgt := 9) (by decide +kernel) (by decide) (fun h => ?_) (fun h => ?_)
  · obtain ⟨s, hs0, hs, rfl, hsc⟩ := in_of (lo := 0) (hi := 3) (by omega) h (by omega)
    have s4 : s < 4 := by omega
    have wts : sTy T s ≤ 4 ∧ sSz T s ≤ 40 := W.2.2.2.2 s s4
    have hps := hP.2.2.2.2 s s4
    refine Ez.blk B_X10_putElement_9 (lo' := [some (.ref 93), some (.int (nI s)), some (.int y), some (.long v), none]) (st' := [.int (I1 112 ((nI s).toNatClampNeg))]) (I' := I1) (J' := J1) (Ps := [aO E0 93 10 ∧ E0.2.2 93 27 ≠ 0, aAr E0 1 112 (nI s)]) rfl ⟨r_93_27, (a_112 (vin (n := s) rfl (by omega) (by decide)))⟩ ?_
    rw [cln (x := nI s) (n := s) rfl (by omega)]
    rw [hps.1]
    refine Ez.n_if_ne (off := 6) (tgt := 21) (by decide +kernel) (by decide) (a := (sTy T s)) rfl (by omega) (fun h2 => ?_) (fun h2 => ?_)
    · refine Ez.blk B_X10_putElement_21 (lo' := [some (.ref 93), some (.int (nI s)), some (.int y), some (.long v), none]) (st' := [.long ((I1 113 ((nI s).toNatClampNeg) - 1).toInt64), .long 0, .long y.toInt64]) (I' := I1) (J' := J1) (Ps := [aO E0 93 10 ∧ E0.2.2 93 28 ≠ 0, aAr E0 1 113 (nI s)]) rfl ⟨r_93_28, (a_113 (vin (n := s) rfl (by omega) (by decide)))⟩ ?_
      rw [cln (x := nI s) (n := s) rfl (by omega)]
      rw [hps.2.1]
      refine Ez.callS (As := [.long y.toInt64, .long 0, .long ((nI (sSz T s) - 1).toInt64)]) (rest := []) kn_X10_in ml_10_81 sm_X10_in (by decide +kernel) rfl rfl (Nat.le_of_ble_eq_true rfl) (Nat.le_of_ble_eq_true rfl) (s_in _ E0 I1 J1 y 0 (nI (sSz T s) - 1) 0 (nI (sSz T s) - 1).toInt64 (by decide) rfl) (fun r I2 J2 hq => ?_)
      obtain ⟨rfl, rfl, rfl⟩ := hq
      rw [zb_iff (ix_iff wts.2)]
      refine Ez.z_if_ne (off := 6) (tgt := 42) (by decide +kernel) (by decide) (fun h3 => ?_) (fun h3 => ?_)
      · obtain ⟨j, hj, rfl, hjc⟩ := st_of (by omega) h3
        refine Ez.blk B_X10_putElement_42 (lo' := [some (.ref 93), some (.int (nI s)), some (.int (nI j)), some (.long v), none]) (st' := [.long v, .int (I2 112 ((nI s).toNatClampNeg)), .int ((40 * nI s) + nI j), .ref 114]) (I' := I2) (J' := J2) (Ps := [aO E0 93 10 ∧ E0.2.2 93 29 ≠ 0, aO E0 93 10 ∧ E0.2.2 93 27 ≠ 0, aAr E0 1 112 (nI s)]) rfl ⟨r_93_29, r_93_27, (a_112 (vin (n := s) rfl (by omega) (by decide)))⟩ ?_
        rw [cln (x := nI s) (n := s) rfl (by omega)]
        rw [hps.1]
        refine Ez.callS (As := [.int (nI (sTy T s)), .long v]) (rest := [.int ((40 * nI s) + nI j), .ref 114]) kn_X10_narrow ml_10_278 sm_X10_narrow (by decide +kernel) rfl rfl (Nat.le_of_ble_eq_true rfl) (Nat.le_of_ble_eq_true rfl) (s_narrowM _ E0 I2 J2 (sTy T s) wts.1 v) (fun r I3 J3 hq => ?_)
        obtain ⟨rfl, rfl, rfl⟩ := hq
        refine Ez.blk B_X10_putElement_62 (lo' := [some (.ref 93), some (.int (nI s)), some (.int (nI j)), some (.long v), none]) (st' := [.int 1]) (I' := I3) (J' := (aUpJ J3 114 (((40 * nI s) + nI j).toNatClampNeg) (nrw (sTy T s) v))) (Ps := [aAr E0 2 114 ((40 * nI s) + nI j)]) rfl (a_114 (vin (n := (40 * s + j)) (eq_add (a := (40 * s)) (b := j) (eq_mul (a := 40) (b := s) rfl rfl) rfl) (by omega) (by decide))) ?_
        rw [cln (x := ((40 * nI s) + nI j)) (n := (40 * s + j)) (eq_add (a := (40 * s)) (b := j) (eq_mul (a := 40) (b := s) rfl rfl) rfl) (by omega)]
        generalize hJ4 : (aUpJ J3 114 (40 * s + j) (nrw (sTy T s) v)) = J4
        exact Ez.iret rfl (by decide +kernel) (hQ _ _ _ (by
          unfold f_putElement
          rw [if_pos h, hsc, if_neg h2, if_pos h3, hjc]
          refine ⟨rfl, MP_sl hP (fun c hc => ?_) (fun _ _ _ => rfl) (fun q hq => by rw [← hJ4, aUpJ_ne hq])⟩
          obtain ⟨b1, b2, b3⟩ := hP.2.2.2.2 c hc
          refine ⟨b1, b2, fun k hk => ?_⟩
          dsimp only
          unfold eup
          rw [← hJ4]
          by_cases e : c = s ∧ k = j
          · rw [if_pos e, e.1, e.2, aUpJ_eq]
          · rw [if_neg e, aUpJ_nk (by omega)]; exact b3 k hk))
      · refine Ez.blk B_X10_putElement_39 (lo' := [some (.ref 93), some (.int (nI s)), some (.int y), some (.long v), none]) (st' := [.int (-13)]) (I' := I2) (J' := J2) (Ps := []) rfl trivial ?_
        exact Ez.iret rfl (by decide +kernel) (hQ _ _ _ (by unfold f_putElement; rw [if_pos h, hsc, if_neg h2, if_neg h3]; exact ⟨rfl, hP, fun _ _ => ⟨rfl, rfl⟩⟩))
    · refine Ez.blk B_X10_putElement_18 (lo' := [some (.ref 93), some (.int (nI s)), some (.int y), some (.long v), none]) (st' := [.int (-11)]) (I' := I1) (J' := J1) (Ps := []) rfl trivial ?_
      exact Ez.iret rfl (by decide +kernel) (hQ _ _ _ (by unfold f_putElement; rw [if_pos h, hsc, if_pos h2]; exact ⟨rfl, hP, fun _ _ => ⟨rfl, rfl⟩⟩))
  · refine Ez.blk B_X10_putElement_7 (lo' := [some (.ref 93), some (.int x), some (.int y), some (.long v), none]) (st' := [.int (-1)]) (I' := I1) (J' := J1) (Ps := []) rfl trivial ?_
    exact Ez.iret rfl (by decide +kernel) (hQ _ _ _ (by unfold f_putElement; rw [if_neg h]; exact ⟨rfl, hP, fun _ _ => ⟨rfl, rfl⟩⟩))
theorem m_element (d : Nat) (I : aI) (J : aJ) (T : TS) (W : WT T) (hP : MP T I J) (x y : Int32) : Sp m_X10_element (d + 3) [.ref 93, .int x, .int y] E0 I J (fun r I' J' => r = some (.long (f_element T x y).1) ∧ MP (f_element T x y).2 I' J' ∧ Fr1 I I' J J') := by
  refine Sp.of (lo := [some (.ref 93), some (.int x), some (.int y), none]) rfl (fun Q hQ => ?_)
  refine Ez.blk B_X10_element_0 (lo' := [some (.ref 93), some (.int x), some (.int y), none]) (st' := [.int x]) (I' := I) (J' := J) (Ps := []) rfl trivial ?_
  refine Ez.callS (As := [.int x]) (rest := []) kn_X10_isSlot ml_10_275 sm_X10_isSlot (by decide +kernel) rfl rfl (Nat.le_of_ble_eq_true rfl) (Nat.le_of_ble_eq_true rfl) (s_isSlotM _ E0 I J x) (fun r I1 J1 hq => ?_)
  obtain ⟨rfl, rfl, rfl⟩ := hq
  refine Ez.z_if_eq (off := 34) (tgt := 38) (by decide +kernel) (by decide) (fun h => ?_) (fun h => ?_)
  · refine Ez.blk B_X10_element_38 (lo' := [some (.ref 93), some (.int x), some (.int y), some (.int 0)]) (st' := [.int 0]) (I' := I1) (J' := J1) (Ps := []) rfl trivial ?_
    refine Ez.n_if_eq (off := 17) (tgt := 58) (by decide +kernel) (by decide) (a := 0) rfl (by omega) (fun hz => ?_) (fun hz => absurd rfl hz)
    refine Ez.blk B_X10_element_58 (lo' := [some (.ref 93), some (.int x), some (.int y), some (.int 0)]) (st' := [.long (-9223372036854775808)]) (I' := I1) (J' := J1) (Ps := []) rfl trivial ?_
    exact Ez.lret rfl (by decide +kernel) (hQ _ _ _ (by unfold f_element; rw [if_neg (fun q => h q.1)]; exact ⟨rfl, hP, fun _ _ => ⟨rfl, rfl⟩⟩))
  · obtain ⟨s, hs0, hs, rfl, hsc⟩ := in_of (lo := 0) (hi := 3) (by omega) h (by omega)
    have s4 : s < 4 := by omega
    have wts : sTy T s ≤ 4 ∧ sSz T s ≤ 40 := W.2.2.2.2 s s4
    have hps := hP.2.2.2.2 s s4
    refine Ez.blk B_X10_element_7 (lo' := [some (.ref 93), some (.int (nI s)), some (.int y), none]) (st' := [.int (I1 112 ((nI s).toNatClampNeg))]) (I' := I1) (J' := J1) (Ps := [aO E0 93 10 ∧ E0.2.2 93 27 ≠ 0, aAr E0 1 112 (nI s)]) rfl ⟨r_93_27, (a_112 (vin (n := s) rfl (by omega) (by decide)))⟩ ?_
    rw [cln (x := nI s) (n := s) rfl (by omega)]
    rw [hps.1]
    refine Ez.n_if_eq (off := 25) (tgt := 38) (by decide +kernel) (by decide) (a := (sTy T s)) rfl (by omega) (fun h2 => ?_) (fun h2 => ?_)
    · refine Ez.blk B_X10_element_38 (lo' := [some (.ref 93), some (.int (nI s)), some (.int y), some (.int 0)]) (st' := [.int 0]) (I' := I1) (J' := J1) (Ps := []) rfl trivial ?_
      refine Ez.n_if_eq (off := 17) (tgt := 58) (by decide +kernel) (by decide) (a := 0) rfl (by omega) (fun hz => ?_) (fun hz => absurd rfl hz)
      refine Ez.blk B_X10_element_58 (lo' := [some (.ref 93), some (.int (nI s)), some (.int y), some (.int 0)]) (st' := [.long (-9223372036854775808)]) (I' := I1) (J' := J1) (Ps := []) rfl trivial ?_
      exact Ez.lret rfl (by decide +kernel) (hQ _ _ _ (by unfold f_element; rw [if_neg (fun q => q.2.1 (by rw [hsc]; exact h2))]; exact ⟨rfl, hP, fun _ _ => ⟨rfl, rfl⟩⟩))
    · refine Ez.blk B_X10_element_16 (lo' := [some (.ref 93), some (.int (nI s)), some (.int y), none]) (st' := [.long ((I1 113 ((nI s).toNatClampNeg) - 1).toInt64), .long 0, .long y.toInt64]) (I' := I1) (J' := J1) (Ps := [aO E0 93 10 ∧ E0.2.2 93 28 ≠ 0, aAr E0 1 113 (nI s)]) rfl ⟨r_93_28, (a_113 (vin (n := s) rfl (by omega) (by decide)))⟩ ?_
      rw [cln (x := nI s) (n := s) rfl (by omega)]
      rw [hps.2.1]
      refine Ez.callS (As := [.long y.toInt64, .long 0, .long ((nI (sSz T s) - 1).toInt64)]) (rest := []) kn_X10_in ml_10_81 sm_X10_in (by decide +kernel) rfl rfl (Nat.le_of_ble_eq_true rfl) (Nat.le_of_ble_eq_true rfl) (s_in _ E0 I1 J1 y 0 (nI (sSz T s) - 1) 0 (nI (sSz T s) - 1).toInt64 (by decide) rfl) (fun r I2 J2 hq => ?_)
      obtain ⟨rfl, rfl, rfl⟩ := hq
      rw [zb_iff (ix_iff wts.2)]
      refine Ez.z_if_eq (off := 7) (tgt := 38) (by decide +kernel) (by decide) (fun h3 => ?_) (fun h3 => ?_)
      · refine Ez.blk B_X10_element_38 (lo' := [some (.ref 93), some (.int (nI s)), some (.int y), some (.int 0)]) (st' := [.int 0]) (I' := I2) (J' := J2) (Ps := []) rfl trivial ?_
        refine Ez.n_if_eq (off := 17) (tgt := 58) (by decide +kernel) (by decide) (a := 0) rfl (by omega) (fun hz => ?_) (fun hz => absurd rfl hz)
        refine Ez.blk B_X10_element_58 (lo' := [some (.ref 93), some (.int (nI s)), some (.int y), some (.int 0)]) (st' := [.long (-9223372036854775808)]) (I' := I2) (J' := J2) (Ps := []) rfl trivial ?_
        exact Ez.lret rfl (by decide +kernel) (hQ _ _ _ (by unfold f_element; rw [if_neg (fun q => h3 (by have := q.2.2; rw [hsc] at this; exact this))]; exact ⟨rfl, hP, fun _ _ => ⟨rfl, rfl⟩⟩))
      · obtain ⟨j, hj, rfl, hjc⟩ := st_of (by omega) h3
        refine Ez.blk B_X10_element_34 (lo' := [some (.ref 93), some (.int (nI s)), some (.int (nI j)), none]) (st' := [.int 1]) (I' := I2) (J' := J2) (Ps := []) rfl trivial ?_
        refine Ez.blk B_X10_element_39 (lo' := [some (.ref 93), some (.int (nI s)), some (.int (nI j)), some (.int 1)]) (st' := [.int 1]) (I' := I2) (J' := J2) (Ps := []) rfl trivial ?_
        refine Ez.n_if_eq (off := 17) (tgt := 58) (by decide +kernel) (by decide) (a := 1) rfl (by omega) (fun hz => absurd hz (by decide)) (fun hz => ?_)
        refine Ez.blk B_X10_element_44 (lo' := [some (.ref 93), some (.int (nI s)), some (.int (nI j)), some (.int 1)]) (st' := [.long (J2 114 (((40 * nI s) + nI j).toNatClampNeg))]) (I' := I2) (J' := J2) (Ps := [aO E0 93 10 ∧ E0.2.2 93 29 ≠ 0, aAr E0 2 114 ((40 * nI s) + nI j)]) rfl ⟨r_93_29, (a_114 (vin (n := (40 * s + j)) (eq_add (a := (40 * s)) (b := j) (eq_mul (a := 40) (b := s) rfl rfl) rfl) (by omega) (by decide)))⟩ ?_
        rw [cln (x := ((40 * nI s) + nI j)) (n := (40 * s + j)) (eq_add (a := (40 * s)) (b := j) (eq_mul (a := 40) (b := s) rfl rfl) rfl) (by omega)]
        rw [hps.2.2 j (by omega)]
        exact Ez.lret rfl (by decide +kernel) (hQ _ _ _ (by unfold f_element; rw [if_pos ⟨h, by rw [hsc]; exact h2, by rw [hsc]; exact h3⟩, hsc, hjc]; exact ⟨rfl, hP, fun _ _ => ⟨rfl, rfl⟩⟩))
theorem m_copyElements (d : Nat) (I : aI) (J : aJ) (T : TS) (W : WT T) (hP : MP T I J) (x i y j n : Int32) : Sp m_X10_copyElements (d + 3) [.ref 93, .int x, .int i, .int y, .int j, .int n] E0 I J (fun r I' J' => r = some (.int (f_copyElements T x i y j n).1) ∧ MP (f_copyElements T x i y j n).2 I' J' ∧ Fr1 I I' J J') := by
  refine Sp.of (lo := [some (.ref 93), some (.int x), some (.int i), some (.int y), some (.int j), some (.int n)]) rfl (fun Q hQ => ?_)
  refine Ez.blk B_X10_copyElements_0 (lo' := [some (.ref 93), some (.int x), some (.int i), some (.int y), some (.int j), some (.int n)]) (st' := [.int x]) (I' := I) (J' := J) (Ps := []) rfl trivial ?_
  refine Ez.callS (As := [.int x]) (rest := []) kn_X10_isSlot ml_10_275 sm_X10_isSlot (by decide +kernel) rfl rfl (Nat.le_of_ble_eq_true rfl) (Nat.le_of_ble_eq_true rfl) (s_isSlotM _ E0 I J x) (fun r I1 J1 hq => ?_)
  obtain ⟨rfl, rfl, rfl⟩ := hq
  refine Ez.z_if_eq (off := 10) (tgt := 14) (by decide +kernel) (by decide) (fun h => ?_) (fun h => ?_)
  · refine Ez.blk B_X10_copyElements_14 (lo' := [some (.ref 93), some (.int x), some (.int i), some (.int y), some (.int j), some (.int n)]) (st' := [.int (-1)]) (I' := I1) (J' := J1) (Ps := []) rfl trivial ?_
    exact Ez.iret rfl (by decide +kernel) (hQ _ _ _ (by unfold f_copyElements; rw [if_neg (fun q => h q.1)]; exact ⟨rfl, hP, fun _ _ => ⟨rfl, rfl⟩⟩))
  · refine Ez.blk B_X10_copyElements_7 (lo' := [some (.ref 93), some (.int x), some (.int i), some (.int y), some (.int j), some (.int n)]) (st' := [.int y]) (I' := I1) (J' := J1) (Ps := []) rfl trivial ?_
    refine Ez.callS (As := [.int y]) (rest := []) kn_X10_isSlot ml_10_275 sm_X10_isSlot (by decide +kernel) rfl rfl (Nat.le_of_ble_eq_true rfl) (Nat.le_of_ble_eq_true rfl) (s_isSlotM _ E0 I1 J1 y) (fun r I2 J2 hq => ?_)
    obtain ⟨rfl, rfl, rfl⟩ := hq
    refine Ez.z_if_ne (off := 5) (tgt := 16) (by decide +kernel) (by decide) (fun h2 => ?_) (fun h2 => ?_)
    · obtain ⟨s, hs0, hs, rfl, hsc⟩ := in_of (lo := 0) (hi := 3) (by omega) h (by omega)
      obtain ⟨u, hu0, hu, rfl, huc⟩ := in_of (lo := 0) (hi := 3) (by omega) h2 (by omega)
      have s4 : s < 4 := by omega
      have wts : sTy T s ≤ 4 ∧ sSz T s ≤ 40 := W.2.2.2.2 s s4
      have hps := hP.2.2.2.2 s s4
      have u4 : u < 4 := by omega
      have wtu : sTy T u ≤ 4 ∧ sSz T u ≤ 40 := W.2.2.2.2 u u4
      have hpu := hP.2.2.2.2 u u4
      refine Ez.blk B_X10_copyElements_16 (lo' := [some (.ref 93), some (.int (nI s)), some (.int i), some (.int (nI u)), some (.int j), some (.int n)]) (st' := [.int (I2 112 ((nI s).toNatClampNeg))]) (I' := I2) (J' := J2) (Ps := [aO E0 93 10 ∧ E0.2.2 93 27 ≠ 0, aAr E0 1 112 (nI s)]) rfl ⟨r_93_27, (a_112 (vin (n := s) rfl (by omega) (by decide)))⟩ ?_
      rw [cln (x := nI s) (n := s) rfl (by omega)]
      rw [hps.1]
      refine Ez.n_if_eq (off := 12) (tgt := 34) (by decide +kernel) (by decide) (a := (sTy T s)) rfl (by omega) (fun h3 => ?_) (fun h3 => ?_)
      · refine Ez.blk B_X10_copyElements_34 (lo' := [some (.ref 93), some (.int (nI s)), some (.int i), some (.int (nI u)), some (.int j), some (.int n)]) (st' := [.int (-11)]) (I' := I2) (J' := J2) (Ps := []) rfl trivial ?_
        exact Ez.iret rfl (by decide +kernel) (hQ _ _ _ (by unfold f_copyElements; rw [if_pos ⟨h, h2⟩, hsc, huc, if_pos (Or.inl h3)]; exact ⟨rfl, hP, fun _ _ => ⟨rfl, rfl⟩⟩))
      · refine Ez.blk B_X10_copyElements_25 (lo' := [some (.ref 93), some (.int (nI s)), some (.int i), some (.int (nI u)), some (.int j), some (.int n)]) (st' := [.int (I2 112 ((nI u).toNatClampNeg))]) (I' := I2) (J' := J2) (Ps := [aO E0 93 10 ∧ E0.2.2 93 27 ≠ 0, aAr E0 1 112 (nI u)]) rfl ⟨r_93_27, (a_112 (vin (n := u) rfl (by omega) (by decide)))⟩ ?_
        rw [cln (x := nI u) (n := u) rfl (by omega)]
        rw [hpu.1]
        refine Ez.n_if_ne (off := 6) (tgt := 37) (by decide +kernel) (by decide) (a := (sTy T u)) rfl (by omega) (fun h4 => ?_) (fun h4 => ?_)
        · have h34 : ¬ (sTy T s = 0 ∨ sTy T u = 0) := fun q => q.elim h3 h4
          refine Ez.blk B_X10_copyElements_37 (lo' := [some (.ref 93), some (.int (nI s)), some (.int i), some (.int (nI u)), some (.int j), some (.int n)]) (st' := [.int (I2 112 ((nI u).toNatClampNeg)), .int (I2 112 ((nI s).toNatClampNeg))]) (I' := I2) (J' := J2) (Ps := [aO E0 93 10 ∧ E0.2.2 93 27 ≠ 0, aAr E0 1 112 (nI s), aO E0 93 10 ∧ E0.2.2 93 27 ≠ 0, aAr E0 1 112 (nI u)]) rfl ⟨r_93_27, (a_112 (vin (n := s) rfl (by omega) (by decide))), r_93_27, (a_112 (vin (n := u) rfl (by omega) (by decide)))⟩ ?_
          rw [cln (x := nI s) (n := s) rfl (by omega)]
          rw [cln (x := nI u) (n := u) rfl (by omega)]
          rw [hps.1]
          rw [hpu.1]
          refine Ez.n_icmp_eq (off := 6) (tgt := 55) (by decide +kernel) (by decide) (a := (sTy T s)) (b := (sTy T u)) rfl rfl (by omega) (by omega) (fun h5 => ?_) (fun h5 => ?_)
          · refine Ez.blk B_X10_copyElements_55 (lo' := [some (.ref 93), some (.int (nI s)), some (.int i), some (.int (nI u)), some (.int j), some (.int n)]) (st' := [.int n]) (I' := I2) (J' := J2) (Ps := []) rfl trivial ?_
            refine Ez.if_lt (off := 39) (tgt := 96) (by decide +kernel) (by decide) (fun h6 => ?_) (fun h6 => ?_)
            · refine Ez.blk B_X10_copyElements_96 (lo' := [some (.ref 93), some (.int (nI s)), some (.int i), some (.int (nI u)), some (.int j), some (.int n)]) (st' := [.int (-13)]) (I' := I2) (J' := J2) (Ps := []) rfl trivial ?_
              exact Ez.iret rfl (by decide +kernel) (hQ _ _ _ (by unfold f_copyElements; rw [if_pos ⟨h, h2⟩, hsc, huc, if_neg h34, if_pos h5, if_neg (fun q => i32_nlt.mpr q.1.2.1 h6)]; exact ⟨rfl, hP, fun _ _ => ⟨rfl, rfl⟩⟩))
            · refine Ez.blk B_X10_copyElements_60 (lo' := [some (.ref 93), some (.int (nI s)), some (.int i), some (.int (nI u)), some (.int j), some (.int n)]) (st' := [.int i]) (I' := I2) (J' := J2) (Ps := []) rfl trivial ?_
              refine Ez.if_lt (off := 35) (tgt := 96) (by decide +kernel) (by decide) (fun h7 => ?_) (fun h7 => ?_)
              · refine Ez.blk B_X10_copyElements_96 (lo' := [some (.ref 93), some (.int (nI s)), some (.int i), some (.int (nI u)), some (.int j), some (.int n)]) (st' := [.int (-13)]) (I' := I2) (J' := J2) (Ps := []) rfl trivial ?_
                exact Ez.iret rfl (by decide +kernel) (hQ _ _ _ (by unfold f_copyElements; rw [if_pos ⟨h, h2⟩, hsc, huc, if_neg h34, if_pos h5, if_neg (fun q => i32_nlt.mpr q.1.1 h7)]; exact ⟨rfl, hP, fun _ _ => ⟨rfl, rfl⟩⟩))
              · refine Ez.blk B_X10_copyElements_64 (lo' := [some (.ref 93), some (.int (nI s)), some (.int i), some (.int (nI u)), some (.int j), some (.int n)]) (st' := [.int j]) (I' := I2) (J' := J2) (Ps := []) rfl trivial ?_
                refine Ez.if_lt (off := 30) (tgt := 96) (by decide +kernel) (by decide) (fun h8 => ?_) (fun h8 => ?_)
                · refine Ez.blk B_X10_copyElements_96 (lo' := [some (.ref 93), some (.int (nI s)), some (.int i), some (.int (nI u)), some (.int j), some (.int n)]) (st' := [.int (-13)]) (I' := I2) (J' := J2) (Ps := []) rfl trivial ?_
                  exact Ez.iret rfl (by decide +kernel) (hQ _ _ _ (by unfold f_copyElements; rw [if_pos ⟨h, h2⟩, hsc, huc, if_neg h34, if_pos h5, if_neg (fun q => i32_nlt.mpr q.2.1 h8)]; exact ⟨rfl, hP, fun _ _ => ⟨rfl, rfl⟩⟩))
                · refine Ez.blk B_X10_copyElements_69 (lo' := [some (.ref 93), some (.int (nI s)), some (.int i), some (.int (nI u)), some (.int j), some (.int n)]) (st' := [.int (I2 113 ((nI s).toNatClampNeg) - n), .int i]) (I' := I2) (J' := J2) (Ps := [aO E0 93 10 ∧ E0.2.2 93 28 ≠ 0, aAr E0 1 113 (nI s)]) rfl ⟨r_93_28, (a_113 (vin (n := s) rfl (by omega) (by decide)))⟩ ?_
                  rw [cln (x := nI s) (n := s) rfl (by omega)]
                  rw [hps.2.1]
                  refine Ez.icmp_gt (off := 17) (tgt := 96) (by decide +kernel) (by decide) (fun h9 => ?_) (fun h9 => ?_)
                  · refine Ez.blk B_X10_copyElements_96 (lo' := [some (.ref 93), some (.int (nI s)), some (.int i), some (.int (nI u)), some (.int j), some (.int n)]) (st' := [.int (-13)]) (I' := I2) (J' := J2) (Ps := []) rfl trivial ?_
                    exact Ez.iret rfl (by decide +kernel) (hQ _ _ _ (by unfold f_copyElements; rw [if_pos ⟨h, h2⟩, hsc, huc, if_neg h34, if_pos h5, if_neg (fun q => i32_nlt.mpr q.1.2.2 h9)]; exact ⟨rfl, hP, fun _ _ => ⟨rfl, rfl⟩⟩))
                  · refine Ez.blk B_X10_copyElements_82 (lo' := [some (.ref 93), some (.int (nI s)), some (.int i), some (.int (nI u)), some (.int j), some (.int n)]) (st' := [.int (I2 113 ((nI u).toNatClampNeg) - n), .int j]) (I' := I2) (J' := J2) (Ps := [aO E0 93 10 ∧ E0.2.2 93 28 ≠ 0, aAr E0 1 113 (nI u)]) rfl ⟨r_93_28, (a_113 (vin (n := u) rfl (by omega) (by decide)))⟩ ?_
                    rw [cln (x := nI u) (n := u) rfl (by omega)]
                    rw [hpu.2.1]
                    refine Ez.icmp_le (off := 6) (tgt := 99) (by decide +kernel) (by decide) (fun h10 => ?_) (fun h10 => ?_)
                    · obtain ⟨m, hm, rfl, hmc⟩ : ∃ m, m < 2147483648 ∧ n = nI m ∧ n.toNatClampNeg = m := by obtain ⟨m, hm, e⟩ := nI_of h6; exact ⟨m, hm, e, by rw [e]; exact nI_clamp hm⟩
                      obtain ⟨a, ha, rfl, hac⟩ : ∃ m, m < 2147483648 ∧ i = nI m ∧ i.toNatClampNeg = m := by obtain ⟨m, hm, e⟩ := nI_of h7; exact ⟨m, hm, e, by rw [e]; exact nI_clamp hm⟩
                      obtain ⟨b, hb, rfl, hbc⟩ : ∃ m, m < 2147483648 ∧ j = nI m ∧ j.toNatClampNeg = m := by obtain ⟨m, hm, e⟩ := nI_of h8; exact ⟨m, hm, e, by rw [e]; exact nI_clamp hm⟩
                      have r1 := rg_of ha hm wts.2 (i32_nlt.mp h9)
                      have r2 := rg_of hb hm wtu.2 h10
                      have z1 := wts.2
                      have z2 := wtu.2
                      refine Ez.blk B_X10_copyElements_99 (lo' := [some (.ref 93), some (.int (nI s)), some (.int (nI a)), some (.int (nI u)), some (.int (nI b)), some (.int (nI m))]) (st' := [.int (nI m)]) (I' := I2) (J' := (aRwJ J2 114 (va_cpy (J2 114) (J2 114) ((40 * nI s) + nI a).toNatClampNeg ((40 * nI u) + nI b).toNatClampNeg (nI m).toNatClampNeg))) (Ps := [aO E0 93 10 ∧ E0.2.2 93 29 ≠ 0, aO E0 93 10 ∧ E0.2.2 93 29 ≠ 0, aCp E0 2 114 114 ((40 * nI s) + nI a) ((40 * nI u) + nI b) (nI m)]) rfl ⟨r_93_29, r_93_29, (cpy_ok (s0 := (40 * s + a)) (d0 := (40 * u + b)) (m := m) q_114 q_114 (eq_add (a := (40 * s)) (b := a) (eq_mul (a := 40) (b := s) rfl rfl) rfl) (eq_add (a := (40 * u)) (b := b) (eq_mul (a := 40) (b := u) rfl rfl) rfl) rfl (by omega) (by omega) (by omega) (by omega) (by omega))⟩ ?_
                      rw [cln (x := ((40 * nI s) + nI a)) (n := (40 * s + a)) (eq_add (a := (40 * s)) (b := a) (eq_mul (a := 40) (b := s) rfl rfl) rfl) (by omega)]
                      rw [cln (x := ((40 * nI u) + nI b)) (n := (40 * u + b)) (eq_add (a := (40 * u)) (b := b) (eq_mul (a := 40) (b := u) rfl rfl) rfl) (by omega)]
                      rw [cln (x := nI m) (n := m) rfl (by omega)]
                      generalize hJ7 : (aRwJ J2 114 (va_cpy (J2 114) (J2 114) (40 * s + a) (40 * u + b) m)) = J7
                      exact Ez.iret rfl (by decide +kernel) (hQ _ _ _ (by
                        unfold f_copyElements
                        rw [if_pos ⟨h, h2⟩, hsc, huc, if_neg h34, if_pos h5, if_pos ⟨⟨i32_nlt.mp h7, i32_nlt.mp h6, i32_nlt.mp h9⟩, i32_nlt.mp h8, i32_nlt.mp h6, h10⟩, hac, hbc, hmc]
                        refine ⟨rfl, MP_sl hP (fun c hc => ?_) (fun _ _ _ => rfl) (fun q hq => by rw [← hJ7, aRwJ_ne hq])⟩
                        obtain ⟨b1, b2, b3⟩ := hP.2.2.2.2 c hc
                        refine ⟨b1, b2, fun k hk => ?_⟩
                        dsimp only
                        unfold erow
                        rw [← hJ7, aRwJ_at]
                        by_cases e : c = u
                        · subst e
                          rw [if_pos rfl]
                          by_cases e2 : b ≤ k ∧ k < b + m
                          · rw [pk_cpy_in (by omega) (by omega), pk_cpy_in e2.1 e2.2, show 40 * s + a + (40 * c + k - (40 * c + b)) = 40 * s + (a + (k - b)) by omega]
                            exact hps.2.2 _ (by omega)
                          · rw [pk_cpy_out (by omega), pk_cpy_out (by omega)]
                            exact hpu.2.2 _ hk
                        · rw [if_neg e, pk_cpy_out (by omega)]; exact b3 k hk))
                    · refine Ez.blk B_X10_copyElements_96 (lo' := [some (.ref 93), some (.int (nI s)), some (.int i), some (.int (nI u)), some (.int j), some (.int n)]) (st' := [.int (-13)]) (I' := I2) (J' := J2) (Ps := []) rfl trivial ?_
                      exact Ez.iret rfl (by decide +kernel) (hQ _ _ _ (by unfold f_copyElements; rw [if_pos ⟨h, h2⟩, hsc, huc, if_neg h34, if_pos h5, if_neg (fun q => h10 q.2.2.2)]; exact ⟨rfl, hP, fun _ _ => ⟨rfl, rfl⟩⟩))
          · refine Ez.blk B_X10_copyElements_52 (lo' := [some (.ref 93), some (.int (nI s)), some (.int i), some (.int (nI u)), some (.int j), some (.int n)]) (st' := [.int (-12)]) (I' := I2) (J' := J2) (Ps := []) rfl trivial ?_
            exact Ez.iret rfl (by decide +kernel) (hQ _ _ _ (by unfold f_copyElements; rw [if_pos ⟨h, h2⟩, hsc, huc, if_neg h34, if_neg h5]; exact ⟨rfl, hP, fun _ _ => ⟨rfl, rfl⟩⟩))
        · refine Ez.blk B_X10_copyElements_34 (lo' := [some (.ref 93), some (.int (nI s)), some (.int i), some (.int (nI u)), some (.int j), some (.int n)]) (st' := [.int (-11)]) (I' := I2) (J' := J2) (Ps := []) rfl trivial ?_
          exact Ez.iret rfl (by decide +kernel) (hQ _ _ _ (by unfold f_copyElements; rw [if_pos ⟨h, h2⟩, hsc, huc, if_pos (Or.inr h4)]; exact ⟨rfl, hP, fun _ _ => ⟨rfl, rfl⟩⟩))
    · refine Ez.blk B_X10_copyElements_14 (lo' := [some (.ref 93), some (.int x), some (.int i), some (.int y), some (.int j), some (.int n)]) (st' := [.int (-1)]) (I' := I2) (J' := J2) (Ps := []) rfl trivial ?_
      exact Ez.iret rfl (by decide +kernel) (hQ _ _ _ (by unfold f_copyElements; rw [if_neg (fun q => h2 q.2)]; exact ⟨rfl, hP, fun _ _ => ⟨rfl, rfl⟩⟩))
theorem m_compare (d : Nat) (I : aI) (J : aJ) (T : TS) (W : WT T) (hP : MP T I J) (x : Int32) : Sp m_X10_compareWithArray (d + 3) [.ref 93, .int x] E0 I J (fun r I' J' => r = some (.int (f_compare T x).1) ∧ MP (f_compare T x).2 I' J' ∧ Fr1 I I' J J') := by
  refine Sp.of (lo := [some (.ref 93), some (.int x), none, none]) rfl (fun Q hQ => ?_)
  have w1 := W.1.1
  have w2 := W.1.2.1
  have wb := Wc_12 W.1
  refine Ez.blk B_X10_compareWithArray_0 (lo' := [some (.ref 93), some (.int x), none, none]) (st' := [.int x]) (I' := I) (J' := J) (Ps := []) rfl trivial ?_
  refine Ez.callS (As := [.int x]) (rest := []) kn_X10_isSlot ml_10_275 sm_X10_isSlot (by decide +kernel) rfl rfl (Nat.le_of_ble_eq_true rfl) (Nat.le_of_ble_eq_true rfl) (s_isSlotM _ E0 I J x) (fun r I1 J1 hq => ?_)
  obtain ⟨rfl, rfl, rfl⟩ := hq
  refine Ez.z_if_ne (off := 5) (tgt := 9) (by decide +kernel) (by decide) (fun h => ?_) (fun h => ?_)
  · obtain ⟨s, hs0, hs, rfl, hsc⟩ := in_of (lo := 0) (hi := 3) (by omega) h (by omega)
    have s4 : s < 4 := by omega
    have wts : sTy T s ≤ 4 ∧ sSz T s ≤ 40 := W.2.2.2.2 s s4
    have hps := hP.2.2.2.2 s s4
    refine Ez.blk B_X10_compareWithArray_9 (lo' := [some (.ref 93), some (.int (nI s)), none, none]) (st' := [.int (I1 112 ((nI s).toNatClampNeg))]) (I' := I1) (J' := J1) (Ps := [aO E0 93 10 ∧ E0.2.2 93 27 ≠ 0, aAr E0 1 112 (nI s)]) rfl ⟨r_93_27, (a_112 (vin (n := s) rfl (by omega) (by decide)))⟩ ?_
    rw [cln (x := nI s) (n := s) rfl (by omega)]
    rw [hps.1]
    refine Ez.n_if_ne (off := 6) (tgt := 21) (by decide +kernel) (by decide) (a := (sTy T s)) rfl (by omega) (fun h2 => ?_) (fun h2 => ?_)
    · refine Ez.blk B_X10_compareWithArray_21 (lo' := [some (.ref 93), some (.int (nI s)), none, none]) (st' := [.int 1, .int (I1 112 ((nI s).toNatClampNeg))]) (I' := I1) (J' := J1) (Ps := [aO E0 93 10 ∧ E0.2.2 93 27 ≠ 0, aAr E0 1 112 (nI s)]) rfl ⟨r_93_27, (a_112 (vin (n := s) rfl (by omega) (by decide)))⟩ ?_
      rw [cln (x := nI s) (n := s) rfl (by omega)]
      rw [hps.1]
      refine Ez.n_icmp_eq (off := 6) (tgt := 34) (by decide +kernel) (by decide) (a := (sTy T s)) (b := 1) rfl rfl (by omega) (by omega) (fun h3 => ?_) (fun h3 => ?_)
      · obtain ⟨n, hn⟩ : ∃ n, n = T.1 0 := ⟨_, rfl⟩
        obtain ⟨z, hz⟩ : ∃ z, z = sSz T s := ⟨_, rfl⟩
        have zb40 : z ≤ 40 := by rw [hz]; exact wts.2
        have nn : n * n ≤ 36 := Nat.mul_le_mul (by omega : n ≤ 6) (by omega : n ≤ 6)
        have hc0 : I1 94 0 = nI n := by rw [hn]; exact hP.1 0 (by decide)
        have hz2 : I1 113 s = nI z := by rw [hz]; exact hps.2.1
        have ans : ∀ v : Int32, ((∃ k, mis T s k = true ∧ (∀ j, j < k → mis T s j = false) ∧ (k < n * n ∨ k < z) ∧ v = nI k) ∨ ((∀ j, (j < n * n ∨ j < z) → mis T s j = false) ∧ v = -7)) → (f_compare T (nI s)) = (v, T) := by
          intro v hv
          unfold f_compare
          rw [if_pos h, hsc, if_neg h2, if_pos h3, ← hn, ← hz]
          rcases hv with ⟨k, m1, m2, m3, rfl⟩ | ⟨m1, rfl⟩
          · rw [ff_some _ 0 k (Nat.zero_le _) (by omega) m1 (fun j _ hj => m2 j hj)]
            dsimp only
            rw [if_pos m3]
          · cases hq : ff (mis T s) (n * n + z) 0 with
            | none => rfl
            | some k =>
              dsimp only
              by_cases hk : k < n * n ∨ k < z
              · have := ff_true hq
                rw [m1 k hk] at this
                cases this
              · rw [if_neg hk]
        have ok : ∀ k, k < n * n → k < z → (mis T s k = false ↔ sEl T s k = (nI (T.1 (10 + 6 * (k / n) + k % n))).toInt64) := by
          intro k h1 h2
          unfold mis
          rw [← hn, ← hz]
          simp only [Bool.or_eq_false_iff, decide_eq_false_iff_not, Nat.not_le, Bool.not_eq_false', beq_iff_eq]
          exact ⟨fun q => q.2, fun q => ⟨⟨h2, h1⟩, q⟩⟩
        have out : ∀ k, n * n ≤ k → mis T s k = true := by
          intro k hk
          unfold mis
          rw [← hn]
          simp [hk]
        have out2 : ∀ k, z ≤ k → mis T s k = true := by
          intro k hk
          unfold mis
          rw [← hz]
          simp [hk]
        refine Ez.blk B_X10_compareWithArray_34 (lo' := [some (.ref 93), some (.int (nI s)), some (.int (I1 94 0)), some (.int 0)]) (st' := []) (I' := I1) (J' := J1) (Ps := [aO E0 93 10 ∧ E0.2.2 93 0 ≠ 0, aAr E0 1 94 0]) rfl ⟨r_93_0, (a_94 (vin (n := 0) rfl (by omega) (by decide)))⟩ ?_
        have L1 : ∀ m, ∀ k, (m + k = 76 ∧ ∀ q, q < k → mis T s q = false) → Ez m_X10_compareWithArray (d + 3) 43 [some (.ref 93), some (.int (nI s)), some (.int (nI n)), some (.int (nI k))] [] E0 I1 J1 Q := by
          intro m
          induction m with
          | zero =>
            intro k ⟨hk, hi⟩
            refine Ez.blk B_X10_compareWithArray_43 (lo' := [some (.ref 93), some (.int (nI s)), some (.int (nI n)), some (.int (nI k))]) (st' := [.int (nI n * nI n), .int (nI k)]) (I' := I1) (J' := J1) (Ps := []) rfl trivial ?_
            refine Ez.n_icmp_lt (off := 13) (tgt := 60) (by decide +kernel) (by decide) (a := k) (b := (n * n)) rfl (eq_mul (a := n) (b := n) rfl rfl) (by omega) (by omega) (fun g => ?_) (fun g => ?_)
            · refine Ez.blk B_X10_compareWithArray_60 (lo' := [some (.ref 93), some (.int (nI s)), some (.int (nI n)), some (.int (nI k))]) (st' := [.int (nI n * nI n), .int (nI k)]) (I' := I1) (J' := J1) (Ps := []) rfl trivial ?_
              refine Ez.n_icmp_ge (off := 39) (tgt := 103) (by decide +kernel) (by decide) (a := k) (b := (n * n)) rfl (eq_mul (a := n) (b := n) rfl rfl) (by omega) (by omega) (fun g2 => ?_) (fun g2 => ?_)
              · refine Ez.blk B_X10_compareWithArray_103 (lo' := [some (.ref 93), some (.int (nI s)), some (.int (nI n)), some (.int (nI k))]) (st' := [.int (nI k)]) (I' := I1) (J' := J1) (Ps := []) rfl trivial ?_
                exact Ez.iret rfl (by decide +kernel) (hQ _ _ _ (by rw [ans (nI k) (Or.inl ⟨k, out _ g2, hi, by omega, rfl⟩)]; exact ⟨rfl, hP, fun _ _ => ⟨rfl, rfl⟩⟩))
              · refine Ez.blk B_X10_compareWithArray_67 (lo' := [some (.ref 93), some (.int (nI s)), some (.int (nI n)), some (.int (nI k))]) (st' := [.int (I1 113 ((nI s).toNatClampNeg)), .int (nI k)]) (I' := I1) (J' := J1) (Ps := [aO E0 93 10 ∧ E0.2.2 93 28 ≠ 0, aAr E0 1 113 (nI s)]) rfl ⟨r_93_28, (a_113 (vin (n := s) rfl (by omega) (by decide)))⟩ ?_
                rw [cln (x := nI s) (n := s) rfl (by omega)]
                refine Ez.n_icmp_ge (off := 29) (tgt := 103) (by decide +kernel) (by decide) (a := k) (b := z) rfl hz2 (by omega) (by omega) (fun g3 => ?_) (fun g3 => ?_)
                · refine Ez.blk B_X10_compareWithArray_103 (lo' := [some (.ref 93), some (.int (nI s)), some (.int (nI n)), some (.int (nI k))]) (st' := [.int (nI k)]) (I' := I1) (J' := J1) (Ps := []) rfl trivial ?_
                  exact Ez.iret rfl (by decide +kernel) (hQ _ _ _ (by rw [ans (nI k) (Or.inl ⟨k, out2 _ g3, hi, by omega, rfl⟩)]; exact ⟨rfl, hP, fun _ _ => ⟨rfl, rfl⟩⟩))
                · omega
            · refine Ez.blk B_X10_compareWithArray_50 (lo' := [some (.ref 93), some (.int (nI s)), some (.int (nI n)), some (.int (nI k))]) (st' := [.int (I1 113 ((nI s).toNatClampNeg)), .int (nI k)]) (I' := I1) (J' := J1) (Ps := [aO E0 93 10 ∧ E0.2.2 93 28 ≠ 0, aAr E0 1 113 (nI s)]) rfl ⟨r_93_28, (a_113 (vin (n := s) rfl (by omega) (by decide)))⟩ ?_
              rw [cln (x := nI s) (n := s) rfl (by omega)]
              refine Ez.n_icmp_ge (off := 54) (tgt := 111) (by decide +kernel) (by decide) (a := k) (b := z) rfl hz2 (by omega) (by omega) (fun g1 => ?_) (fun g1 => ?_)
              · refine Ez.blk B_X10_compareWithArray_111 (lo' := [some (.ref 93), some (.int (nI s)), some (.int (nI n)), some (.int (nI k))]) (st' := [.int (-7)]) (I' := I1) (J' := J1) (Ps := []) rfl trivial ?_
                exact Ez.iret rfl (by decide +kernel) (hQ _ _ _ (by rw [ans (-7) (Or.inr ⟨fun q hq => hi q (by omega), rfl⟩)]; exact ⟨rfl, hP, fun _ _ => ⟨rfl, rfl⟩⟩))
              · refine Ez.blk B_X10_compareWithArray_60 (lo' := [some (.ref 93), some (.int (nI s)), some (.int (nI n)), some (.int (nI k))]) (st' := [.int (nI n * nI n), .int (nI k)]) (I' := I1) (J' := J1) (Ps := []) rfl trivial ?_
                refine Ez.n_icmp_ge (off := 39) (tgt := 103) (by decide +kernel) (by decide) (a := k) (b := (n * n)) rfl (eq_mul (a := n) (b := n) rfl rfl) (by omega) (by omega) (fun g2 => ?_) (fun g2 => ?_)
                · refine Ez.blk B_X10_compareWithArray_103 (lo' := [some (.ref 93), some (.int (nI s)), some (.int (nI n)), some (.int (nI k))]) (st' := [.int (nI k)]) (I' := I1) (J' := J1) (Ps := []) rfl trivial ?_
                  exact Ez.iret rfl (by decide +kernel) (hQ _ _ _ (by rw [ans (nI k) (Or.inl ⟨k, out _ g2, hi, by omega, rfl⟩)]; exact ⟨rfl, hP, fun _ _ => ⟨rfl, rfl⟩⟩))
                · refine Ez.blk B_X10_compareWithArray_67 (lo' := [some (.ref 93), some (.int (nI s)), some (.int (nI n)), some (.int (nI k))]) (st' := [.int (I1 113 ((nI s).toNatClampNeg)), .int (nI k)]) (I' := I1) (J' := J1) (Ps := [aO E0 93 10 ∧ E0.2.2 93 28 ≠ 0, aAr E0 1 113 (nI s)]) rfl ⟨r_93_28, (a_113 (vin (n := s) rfl (by omega) (by decide)))⟩ ?_
                  rw [cln (x := nI s) (n := s) rfl (by omega)]
                  refine Ez.n_icmp_ge (off := 29) (tgt := 103) (by decide +kernel) (by decide) (a := k) (b := z) rfl hz2 (by omega) (by omega) (fun g3 => ?_) (fun g3 => ?_)
                  · refine Ez.blk B_X10_compareWithArray_103 (lo' := [some (.ref 93), some (.int (nI s)), some (.int (nI n)), some (.int (nI k))]) (st' := [.int (nI k)]) (I' := I1) (J' := J1) (Ps := []) rfl trivial ?_
                    exact Ez.iret rfl (by decide +kernel) (hQ _ _ _ (by rw [ans (nI k) (Or.inl ⟨k, out2 _ g3, hi, by omega, rfl⟩)]; exact ⟨rfl, hP, fun _ _ => ⟨rfl, rfl⟩⟩))
                  · omega
          | succ m ih =>
            intro k ⟨hk, hi⟩
            refine Ez.blk B_X10_compareWithArray_43 (lo' := [some (.ref 93), some (.int (nI s)), some (.int (nI n)), some (.int (nI k))]) (st' := [.int (nI n * nI n), .int (nI k)]) (I' := I1) (J' := J1) (Ps := []) rfl trivial ?_
            refine Ez.n_icmp_lt (off := 13) (tgt := 60) (by decide +kernel) (by decide) (a := k) (b := (n * n)) rfl (eq_mul (a := n) (b := n) rfl rfl) (by omega) (by omega) (fun g => ?_) (fun g => ?_)
            · refine Ez.blk B_X10_compareWithArray_60 (lo' := [some (.ref 93), some (.int (nI s)), some (.int (nI n)), some (.int (nI k))]) (st' := [.int (nI n * nI n), .int (nI k)]) (I' := I1) (J' := J1) (Ps := []) rfl trivial ?_
              refine Ez.n_icmp_ge (off := 39) (tgt := 103) (by decide +kernel) (by decide) (a := k) (b := (n * n)) rfl (eq_mul (a := n) (b := n) rfl rfl) (by omega) (by omega) (fun g2 => ?_) (fun g2 => ?_)
              · refine Ez.blk B_X10_compareWithArray_103 (lo' := [some (.ref 93), some (.int (nI s)), some (.int (nI n)), some (.int (nI k))]) (st' := [.int (nI k)]) (I' := I1) (J' := J1) (Ps := []) rfl trivial ?_
                exact Ez.iret rfl (by decide +kernel) (hQ _ _ _ (by rw [ans (nI k) (Or.inl ⟨k, out _ g2, hi, by omega, rfl⟩)]; exact ⟨rfl, hP, fun _ _ => ⟨rfl, rfl⟩⟩))
              · refine Ez.blk B_X10_compareWithArray_67 (lo' := [some (.ref 93), some (.int (nI s)), some (.int (nI n)), some (.int (nI k))]) (st' := [.int (I1 113 ((nI s).toNatClampNeg)), .int (nI k)]) (I' := I1) (J' := J1) (Ps := [aO E0 93 10 ∧ E0.2.2 93 28 ≠ 0, aAr E0 1 113 (nI s)]) rfl ⟨r_93_28, (a_113 (vin (n := s) rfl (by omega) (by decide)))⟩ ?_
                rw [cln (x := nI s) (n := s) rfl (by omega)]
                refine Ez.n_icmp_ge (off := 29) (tgt := 103) (by decide +kernel) (by decide) (a := k) (b := z) rfl hz2 (by omega) (by omega) (fun g3 => ?_) (fun g3 => ?_)
                · refine Ez.blk B_X10_compareWithArray_103 (lo' := [some (.ref 93), some (.int (nI s)), some (.int (nI n)), some (.int (nI k))]) (st' := [.int (nI k)]) (I' := I1) (J' := J1) (Ps := []) rfl trivial ?_
                  exact Ez.iret rfl (by decide +kernel) (hQ _ _ _ (by rw [ans (nI k) (Or.inl ⟨k, out2 _ g3, hi, by omega, rfl⟩)]; exact ⟨rfl, hP, fun _ _ => ⟨rfl, rfl⟩⟩))
                · have kd : k / n < n := Nat.div_lt_of_lt_mul g2
                  have km : k % n < n := Nat.mod_lt _ (by omega)
                  refine Ez.blk B_X10_compareWithArray_77 (lo' := [some (.ref 93), some (.int (nI s)), some (.int (nI n)), some (.int (nI k))]) (st' := [.int (nI k - nI k / nI n * nI n), .int (nI k / nI n), .ref 93, .long (J1 114 (((40 * nI s) + nI k).toNatClampNeg))]) (I' := I1) (J' := J1) (Ps := [aO E0 93 10 ∧ E0.2.2 93 29 ≠ 0, aAr E0 2 114 ((40 * nI s) + nI k), ¬ nI n = 0, ¬ nI n = 0]) rfl ⟨r_93_29, (a_114 (vin (n := (40 * s + k)) (eq_add (a := (40 * s)) (b := k) (eq_mul (a := 40) (b := s) rfl rfl) rfl) (by omega) (by decide))), (nI_ne0 (by omega) (by omega)), (nI_ne0 (by omega) (by omega))⟩ ?_
                  rw [cln (x := ((40 * nI s) + nI k)) (n := (40 * s + k)) (eq_add (a := (40 * s)) (b := k) (eq_mul (a := 40) (b := s) rfl rfl) rfl) (by omega)]
                  rw [pk_rem (a := k) (d := n) (by omega) (by omega) (by omega), pk_div (a := k) (d := n) (by omega) (by omega) (by omega)]
                  rw [hps.2.2 k (by omega)]
                  refine Ez.callV (As := [.int (nI (k / n)), .int (nI (k % n))]) (b := 93) (rest := [.long (sEl T s k)]) kn_X10_w ml_10_116 im_X10_w se_X10_w rfl (by decide +kernel) rfl rfl (Nat.le_of_ble_eq_true rfl) (Nat.le_of_ble_eq_true rfl) o_93 (s_w _ I1 J1 T.1 hP.1 (k / n) (k % n) (by omega) (by omega)) (fun r I2 J2 hq => ?_)
                  obtain ⟨rfl, rfl, rfl⟩ := hq
                  refine Ez.blk B_X10_compareWithArray_98 (lo' := [some (.ref 93), some (.int (nI s)), some (.int (nI n)), some (.int (nI k))]) (st' := [.int (lg_cmp (sEl T s k) ((nI (T.1 (10 + 6 * (k / n) + k % n))).toInt64))]) (I' := I2) (J' := J2) (Ps := []) rfl trivial ?_
                  refine Ez.lif_eq (off := 5) (tgt := 105) (by decide +kernel) (by decide) (fun g4 => ?_) (fun g4 => ?_)
                  · refine Ez.blk B_X10_compareWithArray_105 (lo' := [some (.ref 93), some (.int (nI s)), some (.int (nI n)), some (.int (nI k + 1))]) (st' := []) (I' := I2) (J' := J2) (Ps := []) rfl trivial ?_
                    rw [show (nI k + 1) = nI (k + 1) from (eq_add (a := k) (b := 1) rfl rfl)]
                    exact ih (k + 1) ⟨by omega, fun q hq => by
                      by_cases e : q = k
                      · rw [e]; exact (ok k g2 g3).mpr g4
                      · exact hi q (by omega)⟩
                  · refine Ez.blk B_X10_compareWithArray_103 (lo' := [some (.ref 93), some (.int (nI s)), some (.int (nI n)), some (.int (nI k))]) (st' := [.int (nI k)]) (I' := I2) (J' := J2) (Ps := []) rfl trivial ?_
                    exact Ez.iret rfl (by decide +kernel) (hQ _ _ _ (by rw [ans (nI k) (Or.inl ⟨k, by cases hb : mis T s k with
                        | true => rfl
                        | false => exact absurd ((ok k g2 g3).mp hb) g4, hi, by omega, rfl⟩)]; exact ⟨rfl, hP, fun _ _ => ⟨rfl, rfl⟩⟩))
            · refine Ez.blk B_X10_compareWithArray_50 (lo' := [some (.ref 93), some (.int (nI s)), some (.int (nI n)), some (.int (nI k))]) (st' := [.int (I1 113 ((nI s).toNatClampNeg)), .int (nI k)]) (I' := I1) (J' := J1) (Ps := [aO E0 93 10 ∧ E0.2.2 93 28 ≠ 0, aAr E0 1 113 (nI s)]) rfl ⟨r_93_28, (a_113 (vin (n := s) rfl (by omega) (by decide)))⟩ ?_
              rw [cln (x := nI s) (n := s) rfl (by omega)]
              refine Ez.n_icmp_ge (off := 54) (tgt := 111) (by decide +kernel) (by decide) (a := k) (b := z) rfl hz2 (by omega) (by omega) (fun g1 => ?_) (fun g1 => ?_)
              · refine Ez.blk B_X10_compareWithArray_111 (lo' := [some (.ref 93), some (.int (nI s)), some (.int (nI n)), some (.int (nI k))]) (st' := [.int (-7)]) (I' := I1) (J' := J1) (Ps := []) rfl trivial ?_
                exact Ez.iret rfl (by decide +kernel) (hQ _ _ _ (by rw [ans (-7) (Or.inr ⟨fun q hq => hi q (by omega), rfl⟩)]; exact ⟨rfl, hP, fun _ _ => ⟨rfl, rfl⟩⟩))
              · refine Ez.blk B_X10_compareWithArray_60 (lo' := [some (.ref 93), some (.int (nI s)), some (.int (nI n)), some (.int (nI k))]) (st' := [.int (nI n * nI n), .int (nI k)]) (I' := I1) (J' := J1) (Ps := []) rfl trivial ?_
                refine Ez.n_icmp_ge (off := 39) (tgt := 103) (by decide +kernel) (by decide) (a := k) (b := (n * n)) rfl (eq_mul (a := n) (b := n) rfl rfl) (by omega) (by omega) (fun g2 => ?_) (fun g2 => ?_)
                · refine Ez.blk B_X10_compareWithArray_103 (lo' := [some (.ref 93), some (.int (nI s)), some (.int (nI n)), some (.int (nI k))]) (st' := [.int (nI k)]) (I' := I1) (J' := J1) (Ps := []) rfl trivial ?_
                  exact Ez.iret rfl (by decide +kernel) (hQ _ _ _ (by rw [ans (nI k) (Or.inl ⟨k, out _ g2, hi, by omega, rfl⟩)]; exact ⟨rfl, hP, fun _ _ => ⟨rfl, rfl⟩⟩))
                · refine Ez.blk B_X10_compareWithArray_67 (lo' := [some (.ref 93), some (.int (nI s)), some (.int (nI n)), some (.int (nI k))]) (st' := [.int (I1 113 ((nI s).toNatClampNeg)), .int (nI k)]) (I' := I1) (J' := J1) (Ps := [aO E0 93 10 ∧ E0.2.2 93 28 ≠ 0, aAr E0 1 113 (nI s)]) rfl ⟨r_93_28, (a_113 (vin (n := s) rfl (by omega) (by decide)))⟩ ?_
                  rw [cln (x := nI s) (n := s) rfl (by omega)]
                  refine Ez.n_icmp_ge (off := 29) (tgt := 103) (by decide +kernel) (by decide) (a := k) (b := z) rfl hz2 (by omega) (by omega) (fun g3 => ?_) (fun g3 => ?_)
                  · refine Ez.blk B_X10_compareWithArray_103 (lo' := [some (.ref 93), some (.int (nI s)), some (.int (nI n)), some (.int (nI k))]) (st' := [.int (nI k)]) (I' := I1) (J' := J1) (Ps := []) rfl trivial ?_
                    exact Ez.iret rfl (by decide +kernel) (hQ _ _ _ (by rw [ans (nI k) (Or.inl ⟨k, out2 _ g3, hi, by omega, rfl⟩)]; exact ⟨rfl, hP, fun _ _ => ⟨rfl, rfl⟩⟩))
                  · have kd : k / n < n := Nat.div_lt_of_lt_mul g2
                    have km : k % n < n := Nat.mod_lt _ (by omega)
                    refine Ez.blk B_X10_compareWithArray_77 (lo' := [some (.ref 93), some (.int (nI s)), some (.int (nI n)), some (.int (nI k))]) (st' := [.int (nI k - nI k / nI n * nI n), .int (nI k / nI n), .ref 93, .long (J1 114 (((40 * nI s) + nI k).toNatClampNeg))]) (I' := I1) (J' := J1) (Ps := [aO E0 93 10 ∧ E0.2.2 93 29 ≠ 0, aAr E0 2 114 ((40 * nI s) + nI k), ¬ nI n = 0, ¬ nI n = 0]) rfl ⟨r_93_29, (a_114 (vin (n := (40 * s + k)) (eq_add (a := (40 * s)) (b := k) (eq_mul (a := 40) (b := s) rfl rfl) rfl) (by omega) (by decide))), (nI_ne0 (by omega) (by omega)), (nI_ne0 (by omega) (by omega))⟩ ?_
                    rw [cln (x := ((40 * nI s) + nI k)) (n := (40 * s + k)) (eq_add (a := (40 * s)) (b := k) (eq_mul (a := 40) (b := s) rfl rfl) rfl) (by omega)]
                    rw [pk_rem (a := k) (d := n) (by omega) (by omega) (by omega), pk_div (a := k) (d := n) (by omega) (by omega) (by omega)]
                    rw [hps.2.2 k (by omega)]
                    refine Ez.callV (As := [.int (nI (k / n)), .int (nI (k % n))]) (b := 93) (rest := [.long (sEl T s k)]) kn_X10_w ml_10_116 im_X10_w se_X10_w rfl (by decide +kernel) rfl rfl (Nat.le_of_ble_eq_true rfl) (Nat.le_of_ble_eq_true rfl) o_93 (s_w _ I1 J1 T.1 hP.1 (k / n) (k % n) (by omega) (by omega)) (fun r I2 J2 hq => ?_)
                    obtain ⟨rfl, rfl, rfl⟩ := hq
                    refine Ez.blk B_X10_compareWithArray_98 (lo' := [some (.ref 93), some (.int (nI s)), some (.int (nI n)), some (.int (nI k))]) (st' := [.int (lg_cmp (sEl T s k) ((nI (T.1 (10 + 6 * (k / n) + k % n))).toInt64))]) (I' := I2) (J' := J2) (Ps := []) rfl trivial ?_
                    refine Ez.lif_eq (off := 5) (tgt := 105) (by decide +kernel) (by decide) (fun g4 => ?_) (fun g4 => ?_)
                    · refine Ez.blk B_X10_compareWithArray_105 (lo' := [some (.ref 93), some (.int (nI s)), some (.int (nI n)), some (.int (nI k + 1))]) (st' := []) (I' := I2) (J' := J2) (Ps := []) rfl trivial ?_
                      rw [show (nI k + 1) = nI (k + 1) from (eq_add (a := k) (b := 1) rfl rfl)]
                      exact ih (k + 1) ⟨by omega, fun q hq => by
                        by_cases e : q = k
                        · rw [e]; exact (ok k g2 g3).mpr g4
                        · exact hi q (by omega)⟩
                    · refine Ez.blk B_X10_compareWithArray_103 (lo' := [some (.ref 93), some (.int (nI s)), some (.int (nI n)), some (.int (nI k))]) (st' := [.int (nI k)]) (I' := I2) (J' := J2) (Ps := []) rfl trivial ?_
                      exact Ez.iret rfl (by decide +kernel) (hQ _ _ _ (by rw [ans (nI k) (Or.inl ⟨k, by cases hb : mis T s k with
                          | true => rfl
                          | false => exact absurd ((ok k g2 g3).mp hb) g4, hi, by omega, rfl⟩)]; exact ⟨rfl, hP, fun _ _ => ⟨rfl, rfl⟩⟩))
        rw [hc0]
        exact L1 76 0 ⟨rfl, fun q hq => by omega⟩
      · refine Ez.blk B_X10_compareWithArray_31 (lo' := [some (.ref 93), some (.int (nI s)), none, none]) (st' := [.int (-12)]) (I' := I1) (J' := J1) (Ps := []) rfl trivial ?_
        exact Ez.iret rfl (by decide +kernel) (hQ _ _ _ (by unfold f_compare; rw [if_pos h, hsc, if_neg h2, if_neg h3]; exact ⟨rfl, hP, fun _ _ => ⟨rfl, rfl⟩⟩))
    · refine Ez.blk B_X10_compareWithArray_18 (lo' := [some (.ref 93), some (.int (nI s)), none, none]) (st' := [.int (-11)]) (I' := I1) (J' := J1) (Ps := []) rfl trivial ?_
      exact Ez.iret rfl (by decide +kernel) (hQ _ _ _ (by unfold f_compare; rw [if_pos h, hsc, if_pos h2]; exact ⟨rfl, hP, fun _ _ => ⟨rfl, rfl⟩⟩))
  · refine Ez.blk B_X10_compareWithArray_7 (lo' := [some (.ref 93), some (.int x), none, none]) (st' := [.int (-1)]) (I' := I1) (J' := J1) (Ps := []) rfl trivial ?_
    exact Ez.iret rfl (by decide +kernel) (hQ _ _ _ (by unfold f_compare; rw [if_neg h]; exact ⟨rfl, hP, fun _ _ => ⟨rfl, rfl⟩⟩))

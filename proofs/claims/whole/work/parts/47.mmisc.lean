/-! THE REFERENCE: samples, distributions, depths -/
theorem nx_ex {f : Nat → Nat} {v : Nat} : ∀ {n : Nat}, v < sm f n → ∃ u, u < n ∧ sm f u ≤ v ∧ v < sm f (u + 1)
  | 0, h => absurd h (Nat.not_lt_zero _)
  | n + 1, h => by
    by_cases e : v < sm f n
    · obtain ⟨u, h1, h2, h3⟩ := nx_ex e
      exact ⟨u, by omega, h2, h3⟩
    · exact ⟨n, by omega, by omega, h⟩
theorem s_walk (d : Nat) (I : aI) (J : aJ) (c : Nat → Nat) (hc : MC c I) (W : Wc c) (s : Nat) (hs : s < c 0) (y : Int32) (n lb : Nat) (hn : n ≤ 1000) (hlb : lb ≤ 3) : Sp m_X10_walk (d + 2) [.ref 93, .int (nI s), .int y, .int (nI n), .int (nI lb)] E0 I J (fun r I' J' => r = some (.int (nI (sst c s y n).1)) ∧ J' = J ∧ I' 93 19 = nI (vis c lb s y n) ∧ (∀ k, k ≠ 19 → I' 93 k = I 93 k) ∧ ∀ q, q ≠ 93 → I' q = I q) := by
  refine Sp.of (lo := [some (.ref 93), some (.int (nI s)), some (.int y), some (.int (nI n)), some (.int (nI lb)), none, none, none, none, none, none]) rfl (fun Q hQ => ?_)
  have w1 := W.1
  have w2 := W.2.1
  have wl := W.2.2.2.1
  have w12 := Wc_w W
  have nx : ∀ a v, a < c 0 → nxt c a v < c 0 := fun a v ha => by
    have hr := W.2.2.2.2.2.1 a ha
    have hv : v % c 1 < c 1 := Nat.mod_lt _ (by omega)
    obtain ⟨u, h1, h2, h3⟩ : ∃ u, u < c 0 ∧ sm (fun j => c (10 + 6 * a + j)) u ≤ v % c 1 ∧ v % c 1 < sm (fun j => c (10 + 6 * a + j)) (u + 1) := nx_ex (by rw [hr]; exact hv)
    rw [nxt_eq (by omega) h2 h3]; exact h1
  have ss : ∀ k, (sst c s y k).1 < c 0 := fun k => by
    cases k with
    | zero => exact hs
    | succ k =>
      induction k with
      | zero => exact nx _ _ hs
      | succ k ih => exact nx _ _ ih
  have L1 : ∀ k, k ≤ n → ∀ (I1 : aI), (I1 93 19 = nI (vis c lb s y k) ∧ (∀ j, j ≠ 19 → I1 93 j = I 93 j) ∧ ∀ q, q ≠ 93 → I1 q = I q) → Ez m_X10_walk (d + 2) 32 [some (.ref 93), some (.int (nI s)), some (.int y), some (.int (nI n)), some (.int (nI lb)), some (.int (nI ((sst c s y k).1))), some (.int ((sst c s y k).2)), some (.int (nI k)), none, none, none] [] E0 I1 J Q := by
    refine for_up ?_ ?_
    · intro I1 hi
      refine Ez.blk B_X10_walk_32 (lo' := [some (.ref 93), some (.int (nI s)), some (.int y), some (.int (nI n)), some (.int (nI lb)), some (.int (nI ((sst c s y n).1))), some (.int ((sst c s y n).2)), some (.int (nI n)), none, none, none]) (st' := [.int (nI n), .int (nI n)]) (I' := I1) (J' := J) (Ps := []) rfl trivial ?_
      refine Ez.n_icmp_ge (off := 104) (tgt := 139) (by decide +kernel) (by decide) (a := n) (b := n) rfl rfl (by omega) (by omega) (fun h => ?_) (fun h => absurd h (by omega))
      refine Ez.blk B_X10_walk_139 (lo' := [some (.ref 93), some (.int (nI s)), some (.int y), some (.int (nI n)), some (.int (nI lb)), some (.int (nI ((sst c s y n).1))), some (.int ((sst c s y n).2)), some (.int (nI n)), none, none, none]) (st' := [.int (nI ((sst c s y n).1))]) (I' := I1) (J' := J) (Ps := []) rfl trivial ?_
      exact Ez.iret rfl (by decide +kernel) (hQ _ _ _ ⟨rfl, rfl, hi.1, hi.2.1, hi.2.2⟩)
    · intro k hk ih I1 hi
      have c1 : MC c I1 := MC_fr hc (hi.2.2 94 (by decide))
      have sk := ss k
      have nz : ¬ I1 94 1 = 0 := by rw [c1 1 (by decide)]; exact nI_ne0 (by omega) (by omega)
      obtain ⟨v, hv⟩ : ∃ v, v = (nsd (sst c s y k).2).toBitVec.toNat / 65536 := ⟨_, rfl⟩
      have hvl : v < 65536 := by rw [hv]; exact us_lt _
      have vu : ((((sst c s y k).2 * 1103515245) + 12345).toUInt32 >>> ((16 : Int32).toUInt32 &&& Int32.toUInt32 31)).toInt32 = nI v := by rw [hv]; exact us16 _
      refine Ez.blk B_X10_walk_32 (lo' := [some (.ref 93), some (.int (nI s)), some (.int y), some (.int (nI n)), some (.int (nI lb)), some (.int (nI ((sst c s y k).1))), some (.int ((sst c s y k).2)), some (.int (nI k)), none, none, none]) (st' := [.int (nI n), .int (nI k)]) (I' := I1) (J' := J) (Ps := []) rfl trivial ?_
      refine Ez.n_icmp_ge (off := 104) (tgt := 139) (by decide +kernel) (by decide) (a := k) (b := n) rfl rfl (by omega) (by omega) (fun h => absurd h (by omega)) (fun h => ?_)
      refine Ez.blk B_X10_walk_38 (lo' := [some (.ref 93), some (.int (nI s)), some (.int y), some (.int (nI n)), some (.int (nI lb)), some (.int (nI ((sst c s y k).1))), some (.int (((sst c s y k).2 * 1103515245) + 12345)), some (.int (nI k)), some (.int (((((sst c s y k).2 * 1103515245) + 12345).toUInt32 >>> ((16 : Int32).toUInt32 &&& Int32.toUInt32 31)).toInt32 - ((((sst c s y k).2 * 1103515245) + 12345).toUInt32 >>> ((16 : Int32).toUInt32 &&& Int32.toUInt32 31)).toInt32 / I1 94 1 * I1 94 1)), some (.int 0), none]) (st' := [.int 0, .int (nI ((sst c s y k).1)), .ref 93]) (I' := I1) (J' := J) (Ps := [aO E0 93 10 ∧ E0.2.2 93 0 ≠ 0, aAr E0 1 94 1, ¬ I1 94 1 = 0]) rfl ⟨r_93_0, (a_94 (vin (n := 1) rfl (by omega) (by decide))), nz⟩ ?_
      rw [show (((((sst c s y k).2 * 1103515245) + 12345).toUInt32 >>> ((16 : Int32).toUInt32 &&& Int32.toUInt32 31)).toInt32 - ((((sst c s y k).2 * 1103515245) + 12345).toUInt32 >>> ((16 : Int32).toUInt32 &&& Int32.toUInt32 31)).toInt32 / I1 94 1 * I1 94 1) = nI (v % (c 1)) from (eq_rem (a := v) (b := (c 1)) vu (c1 1 (by decide)) (by omega) (by omega) (by omega))]
      refine Ez.callV (As := [.int (nI ((sst c s y k).1)), .int 0]) (b := 93) (rest := []) kn_X10_w ml_10_116 im_X10_w se_X10_w rfl (by decide +kernel) rfl rfl (Nat.le_of_ble_eq_true rfl) (Nat.le_of_ble_eq_true rfl) o_93 (s_w _ I1 J c c1 ((sst c s y k).1) 0 (by omega) (by omega)) (fun r I2 J2 hq => ?_)
      obtain ⟨rfl, rfl, rfl⟩ := hq
      obtain ⟨i1, i2, i3⟩ := hi
      have hvm : v % c 1 < c 1 := Nat.mod_lt _ (by omega)
      have hrow := W.2.2.2.2.2.1 (sst c s y k).1 sk
      refine Ez.blk B_X10_walk_73 (lo' := [some (.ref 93), some (.int (nI s)), some (.int y), some (.int (nI n)), some (.int (nI lb)), some (.int (nI ((sst c s y k).1))), some (.int (((sst c s y k).2 * 1103515245) + 12345)), some (.int (nI k)), some (.int (nI (v % (c 1)))), some (.int 0), some (.int (nI (c (10 + 6 * ((sst c s y k).1) + 0))))]) (st' := []) (I' := I2) (J' := J2) (Ps := []) rfl trivial ?_
      have L2 : ∀ u, u ≤ c 0 → (sm (fun j => c (10 + 6 * (sst c s y k).1 + j)) u ≤ v % c 1) → Ez m_X10_walk (d + 2) 75 [some (.ref 93), some (.int (nI s)), some (.int y), some (.int (nI n)), some (.int (nI lb)), some (.int (nI ((sst c s y k).1))), some (.int (nsd (sst c s y k).2)), some (.int (nI k)), some (.int (nI (v % c 1))), some (.int (nI u)), some (.int (nI (sm (fun j => c (10 + 6 * (sst c s y k).1 + j)) (u + 1))))] [] E0 I2 J2 Q := by
        refine for_up ?_ ?_
        · intro hu
          rw [hrow] at hu
          omega
        · intro u hun ih2 hu
          have sb : sm (fun j => c (10 + 6 * (sst c s y k).1 + j)) (u + 1) ≤ c 1 := by rw [← hrow]; exact sm_mono hun
          refine Ez.blk B_X10_walk_75 (lo' := [some (.ref 93), some (.int (nI s)), some (.int y), some (.int (nI n)), some (.int (nI lb)), some (.int (nI ((sst c s y k).1))), some (.int (nsd (sst c s y k).2)), some (.int (nI k)), some (.int (nI (v % c 1))), some (.int (nI u)), some (.int (nI (sm (fun j => c (10 + 6 * (sst c s y k).1 + j)) (u + 1))))]) (st' := [.int (nI (v % c 1)), .int (nI (sm (fun j => c (10 + 6 * (sst c s y k).1 + j)) (u + 1)))]) (I' := I2) (J' := J2) (Ps := []) rfl trivial ?_
          refine Ez.n_icmp_gt (off := 22) (tgt := 101) (by decide +kernel) (by decide) (a := (sm (fun j => c (10 + 6 * (sst c s y k).1 + j)) (u + 1))) (b := (v % c 1)) rfl rfl (by omega) (by omega) (fun g => ?_) (fun g => ?_)
          · have ev : (sst c s y (k + 1)).1 = u := by show nxt c (sst c s y k).1 _ = u; rw [← hv]; exact nxt_eq (by omega) hu g
            have lu : I2 94 (4 + u) = nI (c (4 + u)) := c1 (4 + u) (by omega)
            have l3 := wl u (by omega)
            refine Ez.blk B_X10_walk_101 (lo' := [some (.ref 93), some (.int (nI s)), some (.int y), some (.int (nI n)), some (.int (nI lb)), some (.int (nI u)), some (.int (nsd (sst c s y k).2)), some (.int (nI k)), some (.int (nI (v % c 1))), some (.int (nI u)), some (.int (nI (sm (fun j => c (10 + 6 * (sst c s y k).1 + j)) (u + 1))))]) (st' := [.int (nI lb), .int (I2 94 ((4 + nI u).toNatClampNeg)), .int (I2 93 19), .ref 93]) (I' := I2) (J' := J2) (Ps := [aO E0 93 10, aO E0 93 10 ∧ E0.2.2 93 0 ≠ 0, aAr E0 1 94 (4 + nI u)]) rfl ⟨o_93, r_93_0, (a_94 (vin (n := (4 + u)) (eq_add (a := 4) (b := u) rfl rfl) (by omega) (by decide)))⟩ ?_
            rw [cln (x := (4 + nI u)) (n := (4 + u)) (eq_add (a := 4) (b := u) rfl rfl) (by omega)]
            refine Ez.n_icmp_ne (off := 7) (tgt := 128) (by decide +kernel) (by decide) (a := (c (4 + u))) (b := lb) lu rfl (by omega) (by omega) (fun g2 => ?_) (fun g2 => ?_)
            · refine Ez.blk B_X10_walk_128 (lo' := [some (.ref 93), some (.int (nI s)), some (.int y), some (.int (nI n)), some (.int (nI lb)), some (.int (nI u)), some (.int (nsd (sst c s y k).2)), some (.int (nI k + 1)), some (.int (nI (v % c 1))), some (.int (nI u)), some (.int (nI (sm (fun j => c (10 + 6 * (sst c s y k).1 + j)) (u + 1))))]) (st' := []) (I' := (aUp I2 93 19 (I2 93 19 + 0))) (J' := J2) (Ps := [aO E0 93 10]) rfl o_93 ?_
              rw [show (nI k + 1) = nI (k + 1) from (eq_add (a := k) (b := 1) rfl rfl)]
              generalize hI3 : (aUp I2 93 19 (I2 93 19 + 0)) = I3
              have ev2 : vis c lb s y (k + 1) = vis c lb s y k + 0 := by show vis c lb s y k + (if c (4 + (sst c s y (k + 1)).1) = lb then 1 else 0) = _; rw [ev, if_neg g2]
              refine Ez.drops [8, 9, 10] (lo' := [some (.ref 93), some (.int (nI s)), some (.int y), some (.int (nI n)), some (.int (nI lb)), some (.int (nI u)), some (.int (nsd (sst c s y k).2)), some (.int (nI (k + 1))), none, none, none]) rfl ?_
              rw [← ev]
              exact ih I3 ⟨by rw [← hI3, aUp_eq, i1, ev2]; exact eq_add (b := 0) rfl rfl, fun j hj => by rw [← hI3, aUp_nk hj]; exact i2 j hj, fun q hq => by rw [← hI3, aUp_ne hq]; exact i3 q hq⟩
            · refine Ez.blk B_X10_walk_124 (lo' := [some (.ref 93), some (.int (nI s)), some (.int y), some (.int (nI n)), some (.int (nI lb)), some (.int (nI u)), some (.int (nsd (sst c s y k).2)), some (.int (nI k)), some (.int (nI (v % c 1))), some (.int (nI u)), some (.int (nI (sm (fun j => c (10 + 6 * (sst c s y k).1 + j)) (u + 1))))]) (st' := [.int 1, .int (I2 93 19), .ref 93]) (I' := I2) (J' := J2) (Ps := []) rfl trivial ?_
              refine Ez.blk B_X10_walk_129 (lo' := [some (.ref 93), some (.int (nI s)), some (.int y), some (.int (nI n)), some (.int (nI lb)), some (.int (nI u)), some (.int (nsd (sst c s y k).2)), some (.int (nI k + 1)), some (.int (nI (v % c 1))), some (.int (nI u)), some (.int (nI (sm (fun j => c (10 + 6 * (sst c s y k).1 + j)) (u + 1))))]) (st' := []) (I' := (aUp I2 93 19 (I2 93 19 + 1))) (J' := J2) (Ps := [aO E0 93 10]) rfl o_93 ?_
              rw [show (nI k + 1) = nI (k + 1) from (eq_add (a := k) (b := 1) rfl rfl)]
              generalize hI3 : (aUp I2 93 19 (I2 93 19 + 1)) = I3
              have ev2 : vis c lb s y (k + 1) = vis c lb s y k + 1 := by show vis c lb s y k + (if c (4 + (sst c s y (k + 1)).1) = lb then 1 else 0) = _; rw [ev, if_pos g2]
              refine Ez.drops [8, 9, 10] (lo' := [some (.ref 93), some (.int (nI s)), some (.int y), some (.int (nI n)), some (.int (nI lb)), some (.int (nI u)), some (.int (nsd (sst c s y k).2)), some (.int (nI (k + 1))), none, none, none]) rfl ?_
              rw [← ev]
              exact ih I3 ⟨by rw [← hI3, aUp_eq, i1, ev2]; exact eq_add (b := 1) rfl rfl, fun j hj => by rw [← hI3, aUp_nk hj]; exact i2 j hj, fun q hq => by rw [← hI3, aUp_ne hq]; exact i3 q hq⟩
          · have hu1 : u + 1 < c 0 := by
              refine Classical.byContradiction (fun z => ?_)
              have e : u + 1 = c 0 := by omega
              rw [e, hrow] at g
              omega
            refine Ez.blk B_X10_walk_82 (lo' := [some (.ref 93), some (.int (nI s)), some (.int y), some (.int (nI n)), some (.int (nI lb)), some (.int (nI ((sst c s y k).1))), some (.int (nsd (sst c s y k).2)), some (.int (nI k)), some (.int (nI (v % c 1))), some (.int (nI u + 1)), some (.int (nI (sm (fun j => c (10 + 6 * (sst c s y k).1 + j)) (u + 1))))]) (st' := [.int (nI u + 1), .int (nI ((sst c s y k).1)), .ref 93, .int (nI (sm (fun j => c (10 + 6 * (sst c s y k).1 + j)) (u + 1)))]) (I' := I2) (J' := J2) (Ps := []) rfl trivial ?_
            rw [show (nI u + 1) = nI (u + 1) from (eq_add (a := u) (b := 1) rfl rfl)]
            refine Ez.callV (As := [.int (nI ((sst c s y k).1)), .int (nI (u + 1))]) (b := 93) (rest := [.int (nI (sm (fun j => c (10 + 6 * (sst c s y k).1 + j)) (u + 1)))]) kn_X10_w ml_10_116 im_X10_w se_X10_w rfl (by decide +kernel) rfl rfl (Nat.le_of_ble_eq_true rfl) (Nat.le_of_ble_eq_true rfl) o_93 (s_w _ I2 J2 c c1 ((sst c s y k).1) (u + 1) (by omega) (by omega)) (fun r I3 J3 hq => ?_)
            obtain ⟨rfl, rfl, rfl⟩ := hq
            refine Ez.blk B_X10_walk_95 (lo' := [some (.ref 93), some (.int (nI s)), some (.int y), some (.int (nI n)), some (.int (nI lb)), some (.int (nI ((sst c s y k).1))), some (.int (nsd (sst c s y k).2)), some (.int (nI k)), some (.int (nI (v % c 1))), some (.int (nI (u + 1))), some (.int (nI (sm (fun j => c (10 + 6 * (sst c s y k).1 + j)) (u + 1)) + nI (c (10 + 6 * ((sst c s y k).1) + (u + 1)))))]) (st' := []) (I' := I3) (J' := J3) (Ps := []) rfl trivial ?_
            rw [show (nI (sm (fun j => c (10 + 6 * (sst c s y k).1 + j)) (u + 1)) + nI (c (10 + 6 * ((sst c s y k).1) + (u + 1)))) = nI (sm (fun j => c (10 + 6 * (sst c s y k).1 + j)) (u + 1) + (c (10 + 6 * ((sst c s y k).1) + (u + 1)))) from (eq_add (a := (sm (fun j => c (10 + 6 * (sst c s y k).1 + j)) (u + 1))) (b := (c (10 + 6 * ((sst c s y k).1) + (u + 1)))) rfl rfl)]
            exact ih2 g
      have L0 := L2 0 (by omega) (Nat.zero_le _)
      rw [show sm (fun j => c (10 + 6 * (sst c s y k).1 + j)) (0 + 1) = c (10 + 6 * (sst c s y k).1 + 0) from Nat.zero_add _] at L0
      exact L0
  have l0 : I 94 (4 + s) = nI (c (4 + s)) := hc (4 + s) (by omega)
  have l3 := wl s (by omega)
  refine Ez.blk B_X10_walk_0 (lo' := [some (.ref 93), some (.int (nI s)), some (.int y), some (.int (nI n)), some (.int (nI lb)), some (.int (nI s)), some (.int y), none, none, none, none]) (st' := [.int (nI lb), .int (I 94 ((4 + nI s).toNatClampNeg)), .ref 93]) (I' := I) (J' := J) (Ps := [aO E0 93 10 ∧ E0.2.2 93 0 ≠ 0, aAr E0 1 94 (4 + nI s)]) rfl ⟨r_93_0, (a_94 (vin (n := (4 + s)) (eq_add (a := 4) (b := s) rfl rfl) (by omega) (by decide)))⟩ ?_
  rw [cln (x := (4 + nI s)) (n := (4 + s)) (eq_add (a := 4) (b := s) rfl rfl) (by omega)]
  refine Ez.n_icmp_ne (off := 7) (tgt := 25) (by decide +kernel) (by decide) (a := (c (4 + s))) (b := lb) l0 rfl (by omega) (by omega) (fun g => ?_) (fun g => ?_)
  · refine Ez.blk B_X10_walk_25 (lo' := [some (.ref 93), some (.int (nI s)), some (.int y), some (.int (nI n)), some (.int (nI lb)), some (.int (nI s)), some (.int y), some (.int 0), none, none, none]) (st' := []) (I' := (aUp I 93 19 0)) (J' := J) (Ps := [aO E0 93 10]) rfl o_93 ?_
    generalize hI1 : (aUp I 93 19 0) = I1
    exact L1 0 (by omega) I1 ⟨by rw [← hI1, aUp_eq]; show (0 : Int32) = nI (if c (4 + s) = lb then 1 else 0); rw [if_neg g]; rfl, fun j hj => by rw [← hI1, aUp_nk hj], fun q hq => by rw [← hI1, aUp_ne hq]⟩
  · refine Ez.blk B_X10_walk_21 (lo' := [some (.ref 93), some (.int (nI s)), some (.int y), some (.int (nI n)), some (.int (nI lb)), some (.int (nI s)), some (.int y), none, none, none, none]) (st' := [.int 1, .ref 93]) (I' := I) (J' := J) (Ps := []) rfl trivial ?_
    refine Ez.blk B_X10_walk_26 (lo' := [some (.ref 93), some (.int (nI s)), some (.int y), some (.int (nI n)), some (.int (nI lb)), some (.int (nI s)), some (.int y), some (.int 0), none, none, none]) (st' := []) (I' := (aUp I 93 19 1)) (J' := J) (Ps := [aO E0 93 10]) rfl o_93 ?_
    generalize hI1 : (aUp I 93 19 1) = I1
    exact L1 0 (by omega) I1 ⟨by rw [← hI1, aUp_eq]; show (1 : Int32) = nI (if c (4 + s) = lb then 1 else 0); rw [if_pos g]; rfl, fun j hj => by rw [← hI1, aUp_nk hj], fun q hq => by rw [← hI1, aUp_ne hq]⟩
theorem FrM_v {I I' : aI} {J : aJ} (h1 : ∀ k, k ≠ 19 → I' 93 k = I 93 k) (h2 : ∀ q, q ≠ 93 → I' q = I q) : FrM I I' J J := ⟨fun q _ hq => h2 q hq, fun k hk => h1 k (by omega), fun _ _ => rfl⟩
theorem m_sample (d : Nat) (I : aI) (J : aJ) (T : TS) (W : WT T) (hP : MP T I J) (x y z : Int32) : Sp m_X10_sample (d + 3) [.ref 93, .int x, .int y, .int z] E0 I J (fun r I' J' => r = some (.int (f_sample T x y z).1) ∧ MP (f_sample T x y z).2 I' J' ∧ Fr1 I I' J J') := by
  refine Sp.of (lo := [some (.ref 93), some (.int x), some (.int y), some (.int z)]) rfl (fun Q hQ => ?_)
  have w1 := W.1.1
  have w2 := W.1.2.1
  have wb := Wc_12 W.1
  refine Ez.blk B_X10_sample_0 (lo' := [some (.ref 93), some (.int x), some (.int y), some (.int z)]) (st' := [.int x, .ref 93]) (I' := I) (J' := J) (Ps := []) rfl trivial ?_
  refine Ez.callV (As := [.int x]) (b := 93) (rest := []) kn_X10_isState ml_10_103 im_X10_isState se_X10_isState rfl (by decide +kernel) rfl rfl (Nat.le_of_ble_eq_true rfl) (Nat.le_of_ble_eq_true rfl) o_93 (s_isState _ I J (T.1 0) (hP.1 0 (by decide)) W.1.1 x) (fun r I1 J1 hq => ?_)
  obtain ⟨rfl, rfl, rfl⟩ := hq
  refine Ez.z_if_ne (off := 6) (tgt := 11) (by decide +kernel) (by decide) (fun h => ?_) (fun h => ?_)
  · refine Ez.blk B_X10_sample_11 (lo' := [some (.ref 93), some (.int x), some (.int y), some (.int z)]) (st' := [.long 1000, .long 0, .long z.toInt64]) (I' := I1) (J' := J1) (Ps := []) rfl trivial ?_
    refine Ez.callS (As := [.long z.toInt64, .long 0, .long 1000]) (rest := []) kn_X10_in ml_10_81 sm_X10_in (by decide +kernel) rfl rfl (Nat.le_of_ble_eq_true rfl) (Nat.le_of_ble_eq_true rfl) (s_in _ E0 I1 J1 z 0 1000 0 1000 (by decide) (by decide)) (fun r I2 J2 hq => ?_)
    obtain ⟨rfl, rfl, rfl⟩ := hq
    refine Ez.z_if_eq (off := 14) (tgt := 34) (by decide +kernel) (by decide) (fun h2 => ?_) (fun h2 => ?_)
    · refine Ez.blk B_X10_sample_34 (lo' := [some (.ref 93), some (.int x), some (.int y), some (.int z)]) (st' := [.int (-1)]) (I' := I2) (J' := J2) (Ps := []) rfl trivial ?_
      exact Ez.iret rfl (by decide +kernel) (hQ _ _ _ (by unfold f_sample; rw [if_pos h, if_neg h2]; exact ⟨rfl, hP, fun _ _ => ⟨rfl, rfl⟩⟩))
    · obtain ⟨k, hk, rfl, hkc⟩ := st_of (by omega) h
      obtain ⟨n, hn0, hn, rfl, hnc⟩ := in_of (lo := 0) (hi := 1000) (by omega) h2 (by omega)
      refine Ez.blk B_X10_sample_23 (lo' := [some (.ref 93), some (.int (nI k)), some (.int y), some (.int (nI n))]) (st' := [.int 0, .int (nI n), .int y, .int (nI k), .ref 93]) (I' := I2) (J' := J2) (Ps := []) rfl trivial ?_
      refine Ez.callV (As := [.int (nI k), .int y, .int (nI n), .int 0]) (b := 93) (rest := []) kn_X10_walk ml_10_231 im_X10_walk se_X10_walk rfl (by decide +kernel) rfl rfl (Nat.le_of_ble_eq_true rfl) (Nat.le_of_ble_eq_true rfl) o_93 (s_walk _ I2 J2 T.1 hP.1 W.1 k hk y n 0 hn (by omega)) (fun r I3 J3 hq => ?_)
      obtain ⟨rfl, rfl, k1, k2, k3⟩ := hq
      have fm := FrM_v (J := J3) k2 k3
      refine Ez.blk B_X10_sample_31 (lo' := [some (.ref 93), some (.int (nI k)), some (.int y), some (.int (nI n))]) (st' := [.int (nI ((sst T.1 k y n).1))]) (I' := I3) (J' := J3) (Ps := []) rfl trivial ?_
      exact Ez.iret rfl (by decide +kernel) (hQ _ _ _ (by unfold f_sample; rw [if_pos h, if_pos h2, hkc, hnc]; exact ⟨rfl, MP_M hP fm, Fr1_M fm⟩))
  · refine Ez.blk B_X10_sample_8 (lo' := [some (.ref 93), some (.int x), some (.int y), some (.int z)]) (st' := [.int (-2)]) (I' := I1) (J' := J1) (Ps := []) rfl trivial ?_
    exact Ez.iret rfl (by decide +kernel) (hQ _ _ _ (by unfold f_sample; rw [if_neg h]; exact ⟨rfl, hP, fun _ _ => ⟨rfl, rfl⟩⟩))
theorem m_visits (d : Nat) (I : aI) (J : aJ) (T : TS) (W : WT T) (hP : MP T I J) (x y z l : Int32) : Sp m_X10_sampledVisits (d + 3) [.ref 93, .int x, .int y, .int z, .int l] E0 I J (fun r I' J' => r = some (.int (f_visits T x y z l).1) ∧ MP (f_visits T x y z l).2 I' J' ∧ Fr1 I I' J J') := by
  refine Sp.of (lo := [some (.ref 93), some (.int x), some (.int y), some (.int z), some (.int l), none]) rfl (fun Q hQ => ?_)
  have w1 := W.1.1
  have w2 := W.1.2.1
  have wb := Wc_12 W.1
  refine Ez.blk B_X10_sampledVisits_0 (lo' := [some (.ref 93), some (.int x), some (.int y), some (.int z), some (.int l), none]) (st' := [.int x, .ref 93]) (I' := I) (J' := J) (Ps := []) rfl trivial ?_
  refine Ez.callV (As := [.int x]) (b := 93) (rest := []) kn_X10_isState ml_10_103 im_X10_isState se_X10_isState rfl (by decide +kernel) rfl rfl (Nat.le_of_ble_eq_true rfl) (Nat.le_of_ble_eq_true rfl) o_93 (s_isState _ I J (T.1 0) (hP.1 0 (by decide)) W.1.1 x) (fun r I1 J1 hq => ?_)
  obtain ⟨rfl, rfl, rfl⟩ := hq
  refine Ez.z_if_ne (off := 6) (tgt := 11) (by decide +kernel) (by decide) (fun h => ?_) (fun h => ?_)
  · refine Ez.blk B_X10_sampledVisits_11 (lo' := [some (.ref 93), some (.int x), some (.int y), some (.int z), some (.int l), none]) (st' := [.long 1000, .long 0, .long z.toInt64]) (I' := I1) (J' := J1) (Ps := []) rfl trivial ?_
    refine Ez.callS (As := [.long z.toInt64, .long 0, .long 1000]) (rest := []) kn_X10_in ml_10_81 sm_X10_in (by decide +kernel) rfl rfl (Nat.le_of_ble_eq_true rfl) (Nat.le_of_ble_eq_true rfl) (s_in _ E0 I1 J1 z 0 1000 0 1000 (by decide) (by decide)) (fun r I2 J2 hq => ?_)
    obtain ⟨rfl, rfl, rfl⟩ := hq
    refine Ez.z_if_eq (off := 16) (tgt := 36) (by decide +kernel) (by decide) (fun h2 => ?_) (fun h2 => ?_)
    · refine Ez.blk B_X10_sampledVisits_36 (lo' := [some (.ref 93), some (.int x), some (.int y), some (.int z), some (.int l), none]) (st' := [.int (-1)]) (I' := I2) (J' := J2) (Ps := []) rfl trivial ?_
      exact Ez.iret rfl (by decide +kernel) (hQ _ _ _ (by unfold f_visits; rw [if_pos h, if_neg (fun q => h2 q.1)]; exact ⟨rfl, hP, fun _ _ => ⟨rfl, rfl⟩⟩))
    · refine Ez.blk B_X10_sampledVisits_23 (lo' := [some (.ref 93), some (.int x), some (.int y), some (.int z), some (.int l), none]) (st' := [.long 3, .long 0, .long l.toInt64]) (I' := I2) (J' := J2) (Ps := []) rfl trivial ?_
      refine Ez.callS (As := [.long l.toInt64, .long 0, .long 3]) (rest := []) kn_X10_in ml_10_81 sm_X10_in (by decide +kernel) rfl rfl (Nat.le_of_ble_eq_true rfl) (Nat.le_of_ble_eq_true rfl) (s_in _ E0 I2 J2 l 0 3 0 3 (by decide) (by decide)) (fun r I3 J3 hq => ?_)
      obtain ⟨rfl, rfl, rfl⟩ := hq
      refine Ez.z_if_ne (off := 5) (tgt := 38) (by decide +kernel) (by decide) (fun h3 => ?_) (fun h3 => ?_)
      · obtain ⟨k, hk, rfl, hkc⟩ := st_of (by omega) h
        obtain ⟨n, hn0, hn, rfl, hnc⟩ := in_of (lo := 0) (hi := 1000) (by omega) h2 (by omega)
        obtain ⟨b, hb0, hb, rfl, hbc⟩ := in_of (lo := 0) (hi := 3) (by omega) h3 (by omega)
        refine Ez.blk B_X10_sampledVisits_38 (lo' := [some (.ref 93), some (.int (nI k)), some (.int y), some (.int (nI n)), some (.int (nI b)), none]) (st' := [.int (nI b), .int (nI n), .int y, .int (nI k), .ref 93]) (I' := I3) (J' := J3) (Ps := []) rfl trivial ?_
        refine Ez.callV (As := [.int (nI k), .int y, .int (nI n), .int (nI b)]) (b := 93) (rest := []) kn_X10_walk ml_10_231 im_X10_walk se_X10_walk rfl (by decide +kernel) rfl rfl (Nat.le_of_ble_eq_true rfl) (Nat.le_of_ble_eq_true rfl) o_93 (s_walk _ I3 J3 T.1 hP.1 W.1 k hk y n b hn hb) (fun r I4 J4 hq => ?_)
        obtain ⟨rfl, rfl, k1, k2, k3⟩ := hq
        have fm := FrM_v (J := J4) k2 k3
        refine Ez.blk B_X10_sampledVisits_47 (lo' := [some (.ref 93), some (.int (nI k)), some (.int y), some (.int (nI n)), some (.int (nI b)), some (.int (nI ((sst T.1 k y n).1)))]) (st' := [.int (I4 93 19)]) (I' := I4) (J' := J4) (Ps := [aO E0 93 10]) rfl o_93 ?_
        rw [k1]
        exact Ez.iret rfl (by decide +kernel) (hQ _ _ _ (by unfold f_visits; rw [if_pos h, if_pos ⟨h2, h3⟩, hkc, hnc, hbc]; exact ⟨rfl, MP_M hP fm, Fr1_M fm⟩))
      · refine Ez.blk B_X10_sampledVisits_36 (lo' := [some (.ref 93), some (.int x), some (.int y), some (.int z), some (.int l), none]) (st' := [.int (-1)]) (I' := I3) (J' := J3) (Ps := []) rfl trivial ?_
        exact Ez.iret rfl (by decide +kernel) (hQ _ _ _ (by unfold f_visits; rw [if_pos h, if_neg (fun q => h3 q.2)]; exact ⟨rfl, hP, fun _ _ => ⟨rfl, rfl⟩⟩))
  · refine Ez.blk B_X10_sampledVisits_8 (lo' := [some (.ref 93), some (.int x), some (.int y), some (.int z), some (.int l), none]) (st' := [.int (-2)]) (I' := I1) (J' := J1) (Ps := []) rfl trivial ?_
    exact Ez.iret rfl (by decide +kernel) (hQ _ _ _ (by unfold f_visits; rw [if_neg h]; exact ⟨rfl, hP, fun _ _ => ⟨rfl, rfl⟩⟩))
theorem adf_p {a b : Nat} (h : b ≤ a) : nI a - nI b = nI (adf a b) := by
  unfold adf
  rw [pk_sub h, show a - b + (b - a) = a - b by omega]
theorem adf_n {a b : Nat} (h : a ≤ b) : -(nI a - nI b) = nI (adf a b) := by
  unfold adf
  rw [Int32.neg_sub, pk_sub h, show a - b + (b - a) = b - a by omega]
theorem adf_le {a b m : Nat} (ha : a ≤ m) (hb : b ≤ m) : adf a b ≤ m := by unfold adf; omega
theorem smin {f : Nat → Nat} {k n : Nat} (h : k + 1 < n) : sm f (min (k + 1) (n - 1)) = sm f (min k (n - 1)) + f k := by
  rw [Nat.min_eq_left (by omega), Nat.min_eq_left (by omega)]
  rfl
theorem smin2 {f : Nat → Nat} {k n : Nat} (h : n ≤ k + 1) : sm f (min (k + 1) (n - 1)) = sm f (min k (n - 1)) := by
  rw [Nat.min_eq_right (by omega), Nat.min_eq_right (by omega)]
theorem m_dd (d : Nat) (I : aI) (J : aJ) (T : TS) (W : WT T) (hP : MP T I J) (x y z : Int32) : Sp m_X10_distributionDistance (d + 3) [.ref 93, .int x, .int y, .int z] E0 I J (fun r I' J' => r = some (.int (f_dd T x y z).1) ∧ MP (f_dd T x y z).2 I' J' ∧ Fr1 I I' J J') := by
  refine Sp.of (lo := [some (.ref 93), some (.int x), some (.int y), some (.int z), none, none, none, none, none, none, none, none]) rfl (fun Q hQ => ?_)
  have w1 := W.1.1
  have w2 := W.1.2.1
  have wb := Wc_12 W.1
  refine Ez.blk B_X10_distributionDistance_0 (lo' := [some (.ref 93), some (.int x), some (.int y), some (.int z), none, none, none, none, none, none, none, none]) (st' := [.int x, .ref 93]) (I' := I) (J' := J) (Ps := []) rfl trivial ?_
  refine Ez.callV (As := [.int x]) (b := 93) (rest := []) kn_X10_isState ml_10_103 im_X10_isState se_X10_isState rfl (by decide +kernel) rfl rfl (Nat.le_of_ble_eq_true rfl) (Nat.le_of_ble_eq_true rfl) o_93 (s_isState _ I J (T.1 0) (hP.1 0 (by decide)) W.1.1 x) (fun r I1 J1 hq => ?_)
  obtain ⟨rfl, rfl, rfl⟩ := hq
  refine Ez.z_if_eq (off := 11) (tgt := 16) (by decide +kernel) (by decide) (fun h => ?_) (fun h => ?_)
  · refine Ez.blk B_X10_distributionDistance_16 (lo' := [some (.ref 93), some (.int x), some (.int y), some (.int z), none, none, none, none, none, none, none, none]) (st' := [.int (-2)]) (I' := I1) (J' := J1) (Ps := []) rfl trivial ?_
    exact Ez.iret rfl (by decide +kernel) (hQ _ _ _ (by unfold f_dd; rw [if_neg (fun q => h q.1)]; exact ⟨rfl, hP, fun _ _ => ⟨rfl, rfl⟩⟩))
  · refine Ez.blk B_X10_distributionDistance_8 (lo' := [some (.ref 93), some (.int x), some (.int y), some (.int z), none, none, none, none, none, none, none, none]) (st' := [.int y, .ref 93]) (I' := I1) (J' := J1) (Ps := []) rfl trivial ?_
    refine Ez.callV (As := [.int y]) (b := 93) (rest := []) kn_X10_isState ml_10_103 im_X10_isState se_X10_isState rfl (by decide +kernel) rfl rfl (Nat.le_of_ble_eq_true rfl) (Nat.le_of_ble_eq_true rfl) o_93 (s_isState _ I1 J1 (T.1 0) (hP.1 0 (by decide)) W.1.1 y) (fun r I2 J2 hq => ?_)
    obtain ⟨rfl, rfl, rfl⟩ := hq
    refine Ez.z_if_ne (off := 6) (tgt := 19) (by decide +kernel) (by decide) (fun h2 => ?_) (fun h2 => ?_)
    · refine Ez.blk B_X10_distributionDistance_19 (lo' := [some (.ref 93), some (.int x), some (.int y), some (.int z), none, none, none, none, none, none, none, none]) (st' := [.long 3, .long 0, .long z.toInt64]) (I' := I2) (J' := J2) (Ps := []) rfl trivial ?_
      refine Ez.callS (As := [.long z.toInt64, .long 0, .long 3]) (rest := []) kn_X10_in ml_10_81 sm_X10_in (by decide +kernel) rfl rfl (Nat.le_of_ble_eq_true rfl) (Nat.le_of_ble_eq_true rfl) (s_in _ E0 I2 J2 z 0 3 0 3 (by decide) (by decide)) (fun r I3 J3 hq => ?_)
      obtain ⟨rfl, rfl, rfl⟩ := hq
      refine Ez.z_if_ne (off := 5) (tgt := 33) (by decide +kernel) (by decide) (fun h3 => ?_) (fun h3 => ?_)
      · obtain ⟨a, ha, rfl, hac⟩ := st_of (by omega) h
        obtain ⟨b, hb, rfl, hbc⟩ := st_of (by omega) h2
        obtain ⟨m, hm0, hm, rfl, hmc⟩ := in_of (lo := 0) (hi := 3) (by omega) h3 (by omega)
        obtain ⟨n, hn⟩ : ∃ n, n = T.1 0 := ⟨_, rfl⟩
        obtain ⟨U, hU⟩ : ∃ U, U = rw_ T.1 a := ⟨_, rfl⟩
        obtain ⟨V, hV⟩ : ∃ V, V = rw_ T.1 b := ⟨_, rfl⟩
        have wn : I3 94 0 = nI n := by rw [hn]; exact hP.1 0 (by decide)
        have uk : ∀ k, k < n → T.1 (10 + 6 * a + k) = U k ∧ U k ≤ 12 := fun k hk => ⟨by rw [hU], by rw [hU]; have := Wc_w W.1 (6 * a + k) (by omega); rw [show 10 + (6 * a + k) = 10 + 6 * a + k by omega] at this; exact this⟩
        have vk : ∀ k, k < n → T.1 (10 + 6 * b + k) = V k ∧ V k ≤ 12 := fun k hk => ⟨by rw [hV], by rw [hV]; have := Wc_w W.1 (6 * b + k) (by omega); rw [show 10 + (6 * b + k) = 10 + 6 * b + k by omega] at this; exact this⟩
        have su : ∀ k, k ≤ n → sm U k ≤ 72 := fun k hk => by have := sm_bd (f := U) (m := 12) (n := k) (fun j hj => (uk j (by omega)).2); omega
        have sv : ∀ k, k ≤ n → sm V k ≤ 72 := fun k hk => by have := sm_bd (f := V) (m := 12) (n := k) (fun j hj => (vk j (by omega)).2); omega
        have key : ∀ v : Int32, v = nI (ddk T.1 a b m) → Q (some (.int v)) I3 J3 := fun v e => hQ _ _ _ (by unfold f_dd; rw [if_pos ⟨h, h2⟩, if_pos h3, hac, hbc, hmc, e]; exact ⟨rfl, hP, fun _ _ => ⟨rfl, rfl⟩⟩)
        refine Ez.blk B_X10_distributionDistance_33 (lo' := [some (.ref 93), some (.int (nI a)), some (.int (nI b)), some (.int (nI m)), some (.int 0), some (.int 0), some (.int 0), some (.int 0), some (.int 0), some (.int 0), none, none]) (st' := []) (I' := I3) (J' := J3) (Ps := []) rfl trivial ?_
        have L1 : ∀ k, k ≤ n → True → Ez m_X10_distributionDistance (d + 3) 51 [some (.ref 93), some (.int (nI a)), some (.int (nI b)), some (.int (nI m)), some (.int (nI (sm (fun u => adf (U u) (V u)) k))), some (.int (nI (mxf (fun u => adf (U u) (V u)) k))), some (.int (nI (sm (fun u => adf (sm U (u + 1)) (sm V (u + 1))) (min k (n - 1))))), some (.int (nI (sm (fun u => min (U u) (V u)) k))), some (.int (nI (sm U k) - nI (sm V k))), some (.int (nI k)), none, none] [] E0 I3 J3 Q := by
          refine for_up ?_ ?_
          · intro _
            have ba : (sm (fun u => adf (U u) (V u)) n) ≤ 72 := by have := sm_bd (f := fun u => adf (U u) (V u)) (m := 12) (n := n) (fun j hj => adf_le (uk j hj).2 (vk j hj).2); omega
            have rr : rw_ T.1 a = U ∧ rw_ T.1 b = V ∧ T.1 0 = n := ⟨hU.symm, hV.symm, hn.symm⟩
            refine Ez.blk B_X10_distributionDistance_51 (lo' := [some (.ref 93), some (.int (nI a)), some (.int (nI b)), some (.int (nI m)), some (.int (nI (sm (fun u => adf (U u) (V u)) n))), some (.int (nI (mxf (fun u => adf (U u) (V u)) n))), some (.int (nI (sm (fun u => adf (sm U (u + 1)) (sm V (u + 1))) (min n (n - 1))))), some (.int (nI (sm (fun u => min (U u) (V u)) n))), some (.int (nI (sm U n) - nI (sm V n))), some (.int (nI n)), none, none]) (st' := [.int (I3 94 0), .int (nI n)]) (I' := I3) (J' := J3) (Ps := [aO E0 93 10 ∧ E0.2.2 93 0 ≠ 0, aAr E0 1 94 0]) rfl ⟨r_93_0, (a_94 (vin (n := 0) rfl (by omega) (by decide)))⟩ ?_
            refine Ez.n_icmp_ge (off := 133) (tgt := 192) (by decide +kernel) (by decide) (a := n) (b := n) rfl wn (by omega) (by omega) (fun h9 => ?_) (fun h9 => absurd h9 (by omega))
            refine Ez.blk B_X10_distributionDistance_192 (lo' := [some (.ref 93), some (.int (nI a)), some (.int (nI b)), some (.int (nI m)), some (.int (nI (sm (fun u => adf (U u) (V u)) n))), some (.int (nI (mxf (fun u => adf (U u) (V u)) n))), some (.int (nI (sm (fun u => adf (sm U (u + 1)) (sm V (u + 1))) (min n (n - 1))))), some (.int (nI (sm (fun u => min (U u) (V u)) n))), some (.int (nI (sm U n) - nI (sm V n))), some (.int (nI n)), none, none]) (st' := [.int (nI m)]) (I' := I3) (J' := J3) (Ps := []) rfl trivial ?_
            refine Ez.n_if_ne (off := 10) (tgt := 203) (by decide +kernel) (by decide) (a := m) rfl (by omega) (fun g1 => ?_) (fun g1 => ?_)
            · refine Ez.blk B_X10_distributionDistance_203 (lo' := [some (.ref 93), some (.int (nI a)), some (.int (nI b)), some (.int (nI m)), some (.int (nI (sm (fun u => adf (U u) (V u)) n))), some (.int (nI (mxf (fun u => adf (U u) (V u)) n))), some (.int (nI (sm (fun u => adf (sm U (u + 1)) (sm V (u + 1))) (min n (n - 1))))), some (.int (nI (sm (fun u => min (U u) (V u)) n))), some (.int (nI (sm U n) - nI (sm V n))), some (.int (nI n)), none, none]) (st' := [.int 1, .int (nI m)]) (I' := I3) (J' := J3) (Ps := []) rfl trivial ?_
              refine Ez.n_icmp_ne (off := 8) (tgt := 213) (by decide +kernel) (by decide) (a := m) (b := 1) rfl rfl (by omega) (by omega) (fun g2 => ?_) (fun g2 => ?_)
              · refine Ez.blk B_X10_distributionDistance_213 (lo' := [some (.ref 93), some (.int (nI a)), some (.int (nI b)), some (.int (nI m)), some (.int (nI (sm (fun u => adf (U u) (V u)) n))), some (.int (nI (mxf (fun u => adf (U u) (V u)) n))), some (.int (nI (sm (fun u => adf (sm U (u + 1)) (sm V (u + 1))) (min n (n - 1))))), some (.int (nI (sm (fun u => min (U u) (V u)) n))), some (.int (nI (sm U n) - nI (sm V n))), some (.int (nI n)), none, none]) (st' := [.int 2, .int (nI m)]) (I' := I3) (J' := J3) (Ps := []) rfl trivial ?_
                refine Ez.n_icmp_ne (off := 8) (tgt := 223) (by decide +kernel) (by decide) (a := m) (b := 2) rfl rfl (by omega) (by omega) (fun g3 => ?_) (fun g3 => ?_)
                · refine Ez.blk B_X10_distributionDistance_223 (lo' := [some (.ref 93), some (.int (nI a)), some (.int (nI b)), some (.int (nI m)), some (.int (nI (sm (fun u => adf (U u) (V u)) n))), some (.int (nI (mxf (fun u => adf (U u) (V u)) n))), some (.int (nI (sm (fun u => adf (sm U (u + 1)) (sm V (u + 1))) (min n (n - 1))))), some (.int (nI (sm (fun u => min (U u) (V u)) n))), some (.int (nI (sm U n) - nI (sm V n))), some (.int (nI n)), none, none]) (st' := [.int (nI (sm (fun u => min (U u) (V u)) n))]) (I' := I3) (J' := J3) (Ps := []) rfl trivial ?_
                  exact Ez.iret rfl (by decide +kernel) (key _ (by unfold ddk; rw [if_neg g1, if_neg g2, if_neg g3, rr.1, rr.2.1, rr.2.2]))
                · refine Ez.blk B_X10_distributionDistance_218 (lo' := [some (.ref 93), some (.int (nI a)), some (.int (nI b)), some (.int (nI m)), some (.int (nI (sm (fun u => adf (U u) (V u)) n))), some (.int (nI (mxf (fun u => adf (U u) (V u)) n))), some (.int (nI (sm (fun u => adf (sm U (u + 1)) (sm V (u + 1))) (min n (n - 1))))), some (.int (nI (sm (fun u => min (U u) (V u)) n))), some (.int (nI (sm U n) - nI (sm V n))), some (.int (nI n)), none, none]) (st' := [.int (nI (sm (fun u => adf (sm U (u + 1)) (sm V (u + 1))) (min n (n - 1))))]) (I' := I3) (J' := J3) (Ps := []) rfl trivial ?_
                  exact Ez.iret rfl (by decide +kernel) (key _ (by unfold ddk; rw [if_neg g1, if_neg g2, if_pos g3, rr.1, rr.2.1, rr.2.2, Nat.min_eq_right (by omega)]))
              · refine Ez.blk B_X10_distributionDistance_208 (lo' := [some (.ref 93), some (.int (nI a)), some (.int (nI b)), some (.int (nI m)), some (.int (nI (sm (fun u => adf (U u) (V u)) n))), some (.int (nI (mxf (fun u => adf (U u) (V u)) n))), some (.int (nI (sm (fun u => adf (sm U (u + 1)) (sm V (u + 1))) (min n (n - 1))))), some (.int (nI (sm (fun u => min (U u) (V u)) n))), some (.int (nI (sm U n) - nI (sm V n))), some (.int (nI n)), none, none]) (st' := [.int (nI (mxf (fun u => adf (U u) (V u)) n))]) (I' := I3) (J' := J3) (Ps := []) rfl trivial ?_
                exact Ez.iret rfl (by decide +kernel) (key _ (by unfold ddk; rw [if_neg g1, if_pos g2, rr.1, rr.2.1, rr.2.2]))
            · refine Ez.blk B_X10_distributionDistance_196 (lo' := [some (.ref 93), some (.int (nI a)), some (.int (nI b)), some (.int (nI m)), some (.int (nI (sm (fun u => adf (U u) (V u)) n))), some (.int (nI (mxf (fun u => adf (U u) (V u)) n))), some (.int (nI (sm (fun u => adf (sm U (u + 1)) (sm V (u + 1))) (min n (n - 1))))), some (.int (nI (sm (fun u => min (U u) (V u)) n))), some (.int (nI (sm U n) - nI (sm V n))), some (.int (nI n)), none, none]) (st' := [.int (nI (sm (fun u => adf (U u) (V u)) n) / 2)]) (I' := I3) (J' := J3) (Ps := [¬ 2 = 0]) rfl (show ¬ (2 : Int32) = 0 by decide) ?_
              exact Ez.iret rfl (by decide +kernel) (key _ (by unfold ddk; rw [if_pos g1, rr.1, rr.2.1, rr.2.2]; exact pk_div (a := (sm (fun u => adf (U u) (V u)) n)) (d := 2) (by omega) (by omega) (by omega)))
          · intro k hk ih _
            refine Ez.blk B_X10_distributionDistance_51 (lo' := [some (.ref 93), some (.int (nI a)), some (.int (nI b)), some (.int (nI m)), some (.int (nI (sm (fun u => adf (U u) (V u)) k))), some (.int (nI (mxf (fun u => adf (U u) (V u)) k))), some (.int (nI (sm (fun u => adf (sm U (u + 1)) (sm V (u + 1))) (min k (n - 1))))), some (.int (nI (sm (fun u => min (U u) (V u)) k))), some (.int (nI (sm U k) - nI (sm V k))), some (.int (nI k)), none, none]) (st' := [.int (I3 94 0), .int (nI k)]) (I' := I3) (J' := J3) (Ps := [aO E0 93 10 ∧ E0.2.2 93 0 ≠ 0, aAr E0 1 94 0]) rfl ⟨r_93_0, (a_94 (vin (n := 0) rfl (by omega) (by decide)))⟩ ?_
            refine Ez.n_icmp_ge (off := 133) (tgt := 192) (by decide +kernel) (by decide) (a := k) (b := n) rfl wn (by omega) (by omega) (fun h9 => absurd h9 (by omega)) (fun h9 => ?_)
            refine Ez.blk B_X10_distributionDistance_62 (lo' := [some (.ref 93), some (.int (nI a)), some (.int (nI b)), some (.int (nI m)), some (.int (nI (sm (fun u => adf (U u) (V u)) k))), some (.int (nI (mxf (fun u => adf (U u) (V u)) k))), some (.int (nI (sm (fun u => adf (sm U (u + 1)) (sm V (u + 1))) (min k (n - 1))))), some (.int (nI (sm (fun u => min (U u) (V u)) k))), some (.int (nI (sm U k) - nI (sm V k))), some (.int (nI k)), none, none]) (st' := [.int (nI k), .int (nI a), .ref 93]) (I' := I3) (J' := J3) (Ps := []) rfl trivial ?_
            refine Ez.callV (As := [.int (nI a), .int (nI k)]) (b := 93) (rest := []) kn_X10_w ml_10_116 im_X10_w se_X10_w rfl (by decide +kernel) rfl rfl (Nat.le_of_ble_eq_true rfl) (Nat.le_of_ble_eq_true rfl) o_93 (s_w _ I3 J3 T.1 hP.1 a k (by omega) (by omega)) (fun r I4 J4 hq => ?_)
            obtain ⟨rfl, rfl, rfl⟩ := hq
            rw [(uk k hk).1]
            refine Ez.blk B_X10_distributionDistance_69 (lo' := [some (.ref 93), some (.int (nI a)), some (.int (nI b)), some (.int (nI m)), some (.int (nI (sm (fun u => adf (U u) (V u)) k))), some (.int (nI (mxf (fun u => adf (U u) (V u)) k))), some (.int (nI (sm (fun u => adf (sm U (u + 1)) (sm V (u + 1))) (min k (n - 1))))), some (.int (nI (sm (fun u => min (U u) (V u)) k))), some (.int (nI (sm U k) - nI (sm V k))), some (.int (nI k)), none, none]) (st' := [.int (nI k), .int (nI b), .ref 93, .int (nI (U k))]) (I' := I4) (J' := J4) (Ps := []) rfl trivial ?_
            refine Ez.callV (As := [.int (nI b), .int (nI k)]) (b := 93) (rest := [.int (nI (U k))]) kn_X10_w ml_10_116 im_X10_w se_X10_w rfl (by decide +kernel) rfl rfl (Nat.le_of_ble_eq_true rfl) (Nat.le_of_ble_eq_true rfl) o_93 (s_w _ I4 J4 T.1 hP.1 b k (by omega) (by omega)) (fun r I5 J5 hq => ?_)
            obtain ⟨rfl, rfl, rfl⟩ := hq
            rw [(vk k hk).1]
            have uk1 := (uk k hk).2
            have vk1 := (vk k hk).2
            have ab : adf (U k) (V k) ≤ 12 := adf_le uk1 vk1
            have mb : (mxf (fun u => adf (U u) (V u)) k) ≤ 12 := mxf_le (fun j hj => adf_le (uk j (by omega)).2 (vk j (by omega)).2)
            have su1 : sm U (k + 1) ≤ 72 := su (k + 1) hk
            have sv1 : sm V (k + 1) ≤ 72 := sv (k + 1) hk
            have J3 : Ez m_X10_distributionDistance (d + 3) 163 [some (.ref 93), some (.int (nI a)), some (.int (nI b)), some (.int (nI m)), some (.int (nI (sm (fun u => adf (U u) (V u)) (k + 1)))), some (.int (nI (mxf (fun u => adf (U u) (V u)) (k + 1)))), some (.int (nI (sm (fun u => adf (sm U (u + 1)) (sm V (u + 1))) (min (k + 1) (n - 1))))), some (.int (nI (sm (fun u => min (U u) (V u)) k))), some (.int (nI (sm U (k + 1)) - nI (sm V (k + 1)))), some (.int (nI k)), some (.int (nI (U k) - nI (V k))), some (.int (nI (adf (U k) (V k))))] [.int (nI (U k) - nI (V k)), .int (nI (sm (fun u => min (U u) (V u)) k))] E0 I5 J5 Q := by
              refine Ez.if_ge (off := 13) (tgt := 176) (by decide +kernel) (by decide) (fun g => ?_) (fun g => ?_)
              · refine Ez.blk B_X10_distributionDistance_176 (lo' := [some (.ref 93), some (.int (nI a)), some (.int (nI b)), some (.int (nI m)), some (.int (nI (sm (fun u => adf (U u) (V u)) (k + 1)))), some (.int (nI (mxf (fun u => adf (U u) (V u)) (k + 1)))), some (.int (nI (sm (fun u => adf (sm U (u + 1)) (sm V (u + 1))) (min (k + 1) (n - 1))))), some (.int (nI (sm (fun u => min (U u) (V u)) k))), some (.int (nI (sm U (k + 1)) - nI (sm V (k + 1)))), some (.int (nI k)), some (.int (nI (U k) - nI (V k))), some (.int (nI (adf (U k) (V k))))]) (st' := [.int (nI k), .int (nI b), .ref 93, .int (nI (sm (fun u => min (U u) (V u)) k))]) (I' := I5) (J' := J5) (Ps := []) rfl trivial ?_
                refine Ez.callV (As := [.int (nI b), .int (nI k)]) (b := 93) (rest := [.int (nI (sm (fun u => min (U u) (V u)) k))]) kn_X10_w ml_10_116 im_X10_w se_X10_w rfl (by decide +kernel) rfl rfl (Nat.le_of_ble_eq_true rfl) (Nat.le_of_ble_eq_true rfl) o_93 (s_w _ I5 J5 T.1 hP.1 b k (by omega) (by omega)) (fun r I6 J6 hq => ?_)
                obtain ⟨rfl, rfl, rfl⟩ := hq
                rw [(vk k hk).1]
                refine Ez.blk B_X10_distributionDistance_183 (lo' := [some (.ref 93), some (.int (nI a)), some (.int (nI b)), some (.int (nI m)), some (.int (nI (sm (fun u => adf (U u) (V u)) (k + 1)))), some (.int (nI (mxf (fun u => adf (U u) (V u)) (k + 1)))), some (.int (nI (sm (fun u => adf (sm U (u + 1)) (sm V (u + 1))) (min (k + 1) (n - 1))))), some (.int (nI (sm (fun u => min (U u) (V u)) k) + nI (V k))), some (.int (nI (sm U (k + 1)) - nI (sm V (k + 1)))), some (.int (nI k + 1)), some (.int (nI (U k) - nI (V k))), some (.int (nI (adf (U k) (V k))))]) (st' := []) (I' := I6) (J' := J6) (Ps := []) rfl trivial ?_
                rw [show (nI (sm (fun u => min (U u) (V u)) k) + nI (V k)) = nI (sm (fun u => min (U u) (V u)) k + (V k)) from (eq_add (a := (sm (fun u => min (U u) (V u)) k)) (b := (V k)) rfl rfl)]
                rw [show (nI k + 1) = nI (k + 1) from (eq_add (a := k) (b := 1) rfl rfl)]
                refine Ez.drops [10, 11] (lo' := [some (.ref 93), some (.int (nI a)), some (.int (nI b)), some (.int (nI m)), some (.int (nI (sm (fun u => adf (U u) (V u)) (k + 1)))), some (.int (nI (mxf (fun u => adf (U u) (V u)) (k + 1)))), some (.int (nI (sm (fun u => adf (sm U (u + 1)) (sm V (u + 1))) (min (k + 1) (n - 1))))), some (.int (nI (sm (fun u => min (U u) (V u)) k + (V k)))), some (.int (nI (sm U (k + 1)) - nI (sm V (k + 1)))), some (.int (nI (k + 1))), none, none]) rfl ?_
                rw [show (sm (fun u => min (U u) (V u)) k) + V k = (sm (fun u => min (U u) (V u)) (k + 1)) from congrArg (fun q => (sm (fun u => min (U u) (V u)) k) + q) (Nat.min_eq_right ((sub_ge (by omega) (by omega)).mp g)).symm]
                exact ih trivial
              · refine Ez.blk B_X10_distributionDistance_166 (lo' := [some (.ref 93), some (.int (nI a)), some (.int (nI b)), some (.int (nI m)), some (.int (nI (sm (fun u => adf (U u) (V u)) (k + 1)))), some (.int (nI (mxf (fun u => adf (U u) (V u)) (k + 1)))), some (.int (nI (sm (fun u => adf (sm U (u + 1)) (sm V (u + 1))) (min (k + 1) (n - 1))))), some (.int (nI (sm (fun u => min (U u) (V u)) k))), some (.int (nI (sm U (k + 1)) - nI (sm V (k + 1)))), some (.int (nI k)), some (.int (nI (U k) - nI (V k))), some (.int (nI (adf (U k) (V k))))]) (st' := [.int (nI k), .int (nI a), .ref 93, .int (nI (sm (fun u => min (U u) (V u)) k))]) (I' := I5) (J' := J5) (Ps := []) rfl trivial ?_
                refine Ez.callV (As := [.int (nI a), .int (nI k)]) (b := 93) (rest := [.int (nI (sm (fun u => min (U u) (V u)) k))]) kn_X10_w ml_10_116 im_X10_w se_X10_w rfl (by decide +kernel) rfl rfl (Nat.le_of_ble_eq_true rfl) (Nat.le_of_ble_eq_true rfl) o_93 (s_w _ I5 J5 T.1 hP.1 a k (by omega) (by omega)) (fun r I7 J7 hq => ?_)
                obtain ⟨rfl, rfl, rfl⟩ := hq
                rw [(uk k hk).1]
                refine Ez.blk B_X10_distributionDistance_173 (lo' := [some (.ref 93), some (.int (nI a)), some (.int (nI b)), some (.int (nI m)), some (.int (nI (sm (fun u => adf (U u) (V u)) (k + 1)))), some (.int (nI (mxf (fun u => adf (U u) (V u)) (k + 1)))), some (.int (nI (sm (fun u => adf (sm U (u + 1)) (sm V (u + 1))) (min (k + 1) (n - 1))))), some (.int (nI (sm (fun u => min (U u) (V u)) k))), some (.int (nI (sm U (k + 1)) - nI (sm V (k + 1)))), some (.int (nI k)), some (.int (nI (U k) - nI (V k))), some (.int (nI (adf (U k) (V k))))]) (st' := [.int (nI (U k)), .int (nI (sm (fun u => min (U u) (V u)) k))]) (I' := I7) (J' := J7) (Ps := []) rfl trivial ?_
                refine Ez.blk B_X10_distributionDistance_183 (lo' := [some (.ref 93), some (.int (nI a)), some (.int (nI b)), some (.int (nI m)), some (.int (nI (sm (fun u => adf (U u) (V u)) (k + 1)))), some (.int (nI (mxf (fun u => adf (U u) (V u)) (k + 1)))), some (.int (nI (sm (fun u => adf (sm U (u + 1)) (sm V (u + 1))) (min (k + 1) (n - 1))))), some (.int (nI (sm (fun u => min (U u) (V u)) k) + nI (U k))), some (.int (nI (sm U (k + 1)) - nI (sm V (k + 1)))), some (.int (nI k + 1)), some (.int (nI (U k) - nI (V k))), some (.int (nI (adf (U k) (V k))))]) (st' := []) (I' := I7) (J' := J7) (Ps := []) rfl trivial ?_
                rw [show (nI (sm (fun u => min (U u) (V u)) k) + nI (U k)) = nI (sm (fun u => min (U u) (V u)) k + (U k)) from (eq_add (a := (sm (fun u => min (U u) (V u)) k)) (b := (U k)) rfl rfl)]
                rw [show (nI k + 1) = nI (k + 1) from (eq_add (a := k) (b := 1) rfl rfl)]
                refine Ez.drops [10, 11] (lo' := [some (.ref 93), some (.int (nI a)), some (.int (nI b)), some (.int (nI m)), some (.int (nI (sm (fun u => adf (U u) (V u)) (k + 1)))), some (.int (nI (mxf (fun u => adf (U u) (V u)) (k + 1)))), some (.int (nI (sm (fun u => adf (sm U (u + 1)) (sm V (u + 1))) (min (k + 1) (n - 1))))), some (.int (nI (sm (fun u => min (U u) (V u)) k + (U k)))), some (.int (nI (sm U (k + 1)) - nI (sm V (k + 1)))), some (.int (nI (k + 1))), none, none]) rfl ?_
                rw [show (sm (fun u => min (U u) (V u)) k) + U k = (sm (fun u => min (U u) (V u)) (k + 1)) from congrArg (fun q => (sm (fun u => min (U u) (V u)) k) + q) (Nat.min_eq_left (by have := mt (sub_ge (a := U k) (b := V k) (by omega) (by omega)).mpr g; omega)).symm]
                exact ih trivial
            have J2 : Ez m_X10_distributionDistance (d + 3) 136 [some (.ref 93), some (.int (nI a)), some (.int (nI b)), some (.int (nI m)), some (.int (nI (sm (fun u => adf (U u) (V u)) (k + 1)))), some (.int (nI (mxf (fun u => adf (U u) (V u)) (k + 1)))), some (.int (nI (sm (fun u => adf (sm U (u + 1)) (sm V (u + 1))) (min k (n - 1))))), some (.int (nI (sm (fun u => min (U u) (V u)) k))), some (.int (nI (sm U (k + 1)) - nI (sm V (k + 1)))), some (.int (nI k)), some (.int (nI (U k) - nI (V k))), some (.int (nI (adf (U k) (V k))))] [.int (nI n), .int (nI (k + 1)), .int (nI (sm (fun u => adf (sm U (u + 1)) (sm V (u + 1))) (min k (n - 1))))] E0 I5 J5 Q := by
              refine Ez.n_icmp_ge (off := 19) (tgt := 155) (by decide +kernel) (by decide) (a := (k + 1)) (b := n) rfl rfl (by omega) (by omega) (fun g => ?_) (fun g => ?_)
              · refine Ez.blk B_X10_distributionDistance_155 (lo' := [some (.ref 93), some (.int (nI a)), some (.int (nI b)), some (.int (nI m)), some (.int (nI (sm (fun u => adf (U u) (V u)) (k + 1)))), some (.int (nI (mxf (fun u => adf (U u) (V u)) (k + 1)))), some (.int (nI (sm (fun u => adf (sm U (u + 1)) (sm V (u + 1))) (min k (n - 1))) + 0)), some (.int (nI (sm (fun u => min (U u) (V u)) k))), some (.int (nI (sm U (k + 1)) - nI (sm V (k + 1)))), some (.int (nI k)), some (.int (nI (U k) - nI (V k))), some (.int (nI (adf (U k) (V k))))]) (st' := [.int (nI (U k) - nI (V k)), .int (nI (sm (fun u => min (U u) (V u)) k))]) (I' := I5) (J' := J5) (Ps := []) rfl trivial ?_
                rw [show (nI (sm (fun u => adf (sm U (u + 1)) (sm V (u + 1))) (min k (n - 1))) + 0) = nI (sm (fun u => adf (sm U (u + 1)) (sm V (u + 1))) (min k (n - 1)) + 0) from (eq_add (a := (sm (fun u => adf (sm U (u + 1)) (sm V (u + 1))) (min k (n - 1)))) (b := 0) rfl rfl)]
                rw [show (sm (fun u => adf (sm U (u + 1)) (sm V (u + 1))) (min k (n - 1))) + 0 = (sm (fun u => adf (sm U (u + 1)) (sm V (u + 1))) (min (k + 1) (n - 1))) by rw [smin2 g]; rfl]
                exact J3
              · refine Ez.blk B_X10_distributionDistance_139 (lo' := [some (.ref 93), some (.int (nI a)), some (.int (nI b)), some (.int (nI m)), some (.int (nI (sm (fun u => adf (U u) (V u)) (k + 1)))), some (.int (nI (mxf (fun u => adf (U u) (V u)) (k + 1)))), some (.int (nI (sm (fun u => adf (sm U (u + 1)) (sm V (u + 1))) (min k (n - 1))))), some (.int (nI (sm (fun u => min (U u) (V u)) k))), some (.int (nI (sm U (k + 1)) - nI (sm V (k + 1)))), some (.int (nI k)), some (.int (nI (U k) - nI (V k))), some (.int (nI (adf (U k) (V k))))]) (st' := [.int (nI (sm U (k + 1)) - nI (sm V (k + 1))), .int (nI (sm (fun u => adf (sm U (u + 1)) (sm V (u + 1))) (min k (n - 1))))]) (I' := I5) (J' := J5) (Ps := []) rfl trivial ?_
                refine Ez.if_ge (off := 9) (tgt := 150) (by decide +kernel) (by decide) (fun g5 => ?_) (fun g5 => ?_)
                · refine Ez.blk B_X10_distributionDistance_150 (lo' := [some (.ref 93), some (.int (nI a)), some (.int (nI b)), some (.int (nI m)), some (.int (nI (sm (fun u => adf (U u) (V u)) (k + 1)))), some (.int (nI (mxf (fun u => adf (U u) (V u)) (k + 1)))), some (.int (nI (sm (fun u => adf (sm U (u + 1)) (sm V (u + 1))) (min k (n - 1))))), some (.int (nI (sm (fun u => min (U u) (V u)) k))), some (.int (nI (sm U (k + 1)) - nI (sm V (k + 1)))), some (.int (nI k)), some (.int (nI (U k) - nI (V k))), some (.int (nI (adf (U k) (V k))))]) (st' := [.int (nI (sm U (k + 1)) - nI (sm V (k + 1))), .int (nI (sm (fun u => adf (sm U (u + 1)) (sm V (u + 1))) (min k (n - 1))))]) (I' := I5) (J' := J5) (Ps := []) rfl trivial ?_
                  refine Ez.blk B_X10_distributionDistance_156 (lo' := [some (.ref 93), some (.int (nI a)), some (.int (nI b)), some (.int (nI m)), some (.int (nI (sm (fun u => adf (U u) (V u)) (k + 1)))), some (.int (nI (mxf (fun u => adf (U u) (V u)) (k + 1)))), some (.int (nI (sm (fun u => adf (sm U (u + 1)) (sm V (u + 1))) (min k (n - 1))) + (nI (sm U (k + 1)) - nI (sm V (k + 1))))), some (.int (nI (sm (fun u => min (U u) (V u)) k))), some (.int (nI (sm U (k + 1)) - nI (sm V (k + 1)))), some (.int (nI k)), some (.int (nI (U k) - nI (V k))), some (.int (nI (adf (U k) (V k))))]) (st' := [.int (nI (U k) - nI (V k)), .int (nI (sm (fun u => min (U u) (V u)) k))]) (I' := I5) (J' := J5) (Ps := []) rfl trivial ?_
                  rw [show (nI (sm (fun u => adf (sm U (u + 1)) (sm V (u + 1))) (min k (n - 1))) + (nI (sm U (k + 1)) - nI (sm V (k + 1)))) = nI (sm (fun u => adf (sm U (u + 1)) (sm V (u + 1))) (min (k + 1) (n - 1))) by rw [adf_p ((sub_ge (by omega) (by omega)).mp g5), nI_add, ← smin (f := fun u => adf (sm U (u + 1)) (sm V (u + 1))) g]]
                  exact J3
                · refine Ez.blk B_X10_distributionDistance_144 (lo' := [some (.ref 93), some (.int (nI a)), some (.int (nI b)), some (.int (nI m)), some (.int (nI (sm (fun u => adf (U u) (V u)) (k + 1)))), some (.int (nI (mxf (fun u => adf (U u) (V u)) (k + 1)))), some (.int (nI (sm (fun u => adf (sm U (u + 1)) (sm V (u + 1))) (min k (n - 1))))), some (.int (nI (sm (fun u => min (U u) (V u)) k))), some (.int (nI (sm U (k + 1)) - nI (sm V (k + 1)))), some (.int (nI k)), some (.int (nI (U k) - nI (V k))), some (.int (nI (adf (U k) (V k))))]) (st' := [.int (-(nI (sm U (k + 1)) - nI (sm V (k + 1)))), .int (nI (sm (fun u => adf (sm U (u + 1)) (sm V (u + 1))) (min k (n - 1))))]) (I' := I5) (J' := J5) (Ps := []) rfl trivial ?_
                  refine Ez.blk B_X10_distributionDistance_156 (lo' := [some (.ref 93), some (.int (nI a)), some (.int (nI b)), some (.int (nI m)), some (.int (nI (sm (fun u => adf (U u) (V u)) (k + 1)))), some (.int (nI (mxf (fun u => adf (U u) (V u)) (k + 1)))), some (.int (nI (sm (fun u => adf (sm U (u + 1)) (sm V (u + 1))) (min k (n - 1))) + (-(nI (sm U (k + 1)) - nI (sm V (k + 1)))))), some (.int (nI (sm (fun u => min (U u) (V u)) k))), some (.int (nI (sm U (k + 1)) - nI (sm V (k + 1)))), some (.int (nI k)), some (.int (nI (U k) - nI (V k))), some (.int (nI (adf (U k) (V k))))]) (st' := [.int (nI (U k) - nI (V k)), .int (nI (sm (fun u => min (U u) (V u)) k))]) (I' := I5) (J' := J5) (Ps := []) rfl trivial ?_
                  rw [show (nI (sm (fun u => adf (sm U (u + 1)) (sm V (u + 1))) (min k (n - 1))) + (-(nI (sm U (k + 1)) - nI (sm V (k + 1))))) = nI (sm (fun u => adf (sm U (u + 1)) (sm V (u + 1))) (min (k + 1) (n - 1))) by rw [adf_n (by have := mt (sub_ge (a := sm U (k + 1)) (b := sm V (k + 1)) (by omega) (by omega)).mpr g5; omega), nI_add, ← smin (f := fun u => adf (sm U (u + 1)) (sm V (u + 1))) g]]
                  exact J3
            have J1 : Ez m_X10_distributionDistance (d + 3) 105 [some (.ref 93), some (.int (nI a)), some (.int (nI b)), some (.int (nI m)), some (.int (nI (sm (fun u => adf (U u) (V u)) (k + 1)))), some (.int (nI (mxf (fun u => adf (U u) (V u)) k))), some (.int (nI (sm (fun u => adf (sm U (u + 1)) (sm V (u + 1))) (min k (n - 1))))), some (.int (nI (sm (fun u => min (U u) (V u)) k))), some (.int (nI (sm U k) - nI (sm V k))), some (.int (nI k)), some (.int (nI (U k) - nI (V k))), some (.int (nI (adf (U k) (V k))))] [.int (nI (mxf (fun u => adf (U u) (V u)) k)), .int (nI (adf (U k) (V k)))] E0 I5 J5 Q := by
              refine Ez.n_icmp_le (off := 8) (tgt := 113) (by decide +kernel) (by decide) (a := (adf (U k) (V k))) (b := (mxf (fun u => adf (U u) (V u)) k)) rfl rfl (by omega) (by omega) (fun g => ?_) (fun g => ?_)
              · refine Ez.blk B_X10_distributionDistance_113 (lo' := [some (.ref 93), some (.int (nI a)), some (.int (nI b)), some (.int (nI m)), some (.int (nI (sm (fun u => adf (U u) (V u)) (k + 1)))), some (.int (nI (mxf (fun u => adf (U u) (V u)) k))), some (.int (nI (sm (fun u => adf (sm U (u + 1)) (sm V (u + 1))) (min k (n - 1))))), some (.int (nI (sm (fun u => min (U u) (V u)) k))), some (.int ((nI (sm U k) - nI (sm V k)) + (nI (U k) - nI (V k)))), some (.int (nI k)), some (.int (nI (U k) - nI (V k))), some (.int (nI (adf (U k) (V k))))]) (st' := [.int (I5 94 0), .int (nI k + 1), .int (nI (sm (fun u => adf (sm U (u + 1)) (sm V (u + 1))) (min k (n - 1))))]) (I' := I5) (J' := J5) (Ps := [aO E0 93 10 ∧ E0.2.2 93 0 ≠ 0, aAr E0 1 94 0]) rfl ⟨r_93_0, (a_94 (vin (n := 0) rfl (by omega) (by decide)))⟩ ?_
                rw [show (nI (sm U k) - nI (sm V k)) + (nI (U k) - nI (V k)) = (nI (sm U (k + 1)) - nI (sm V (k + 1))) from dif_add, wn, nI_1]
                have em : (mxf (fun u => adf (U u) (V u)) (k + 1)) = (mxf (fun u => adf (U u) (V u)) k) := Nat.max_eq_left (show adf (U k) (V k) ≤ _ by omega)
                rw [em] at J2
                exact J2
              · refine Ez.blk B_X10_distributionDistance_108 (lo' := [some (.ref 93), some (.int (nI a)), some (.int (nI b)), some (.int (nI m)), some (.int (nI (sm (fun u => adf (U u) (V u)) (k + 1)))), some (.int (nI (mxf (fun u => adf (U u) (V u)) k))), some (.int (nI (sm (fun u => adf (sm U (u + 1)) (sm V (u + 1))) (min k (n - 1))))), some (.int (nI (sm (fun u => min (U u) (V u)) k))), some (.int (nI (sm U k) - nI (sm V k))), some (.int (nI k)), some (.int (nI (U k) - nI (V k))), some (.int (nI (adf (U k) (V k))))]) (st' := [.int (nI (adf (U k) (V k)))]) (I' := I5) (J' := J5) (Ps := []) rfl trivial ?_
                refine Ez.blk B_X10_distributionDistance_115 (lo' := [some (.ref 93), some (.int (nI a)), some (.int (nI b)), some (.int (nI m)), some (.int (nI (sm (fun u => adf (U u) (V u)) (k + 1)))), some (.int (nI (adf (U k) (V k)))), some (.int (nI (sm (fun u => adf (sm U (u + 1)) (sm V (u + 1))) (min k (n - 1))))), some (.int (nI (sm (fun u => min (U u) (V u)) k))), some (.int ((nI (sm U k) - nI (sm V k)) + (nI (U k) - nI (V k)))), some (.int (nI k)), some (.int (nI (U k) - nI (V k))), some (.int (nI (adf (U k) (V k))))]) (st' := [.int (I5 94 0), .int (nI k + 1), .int (nI (sm (fun u => adf (sm U (u + 1)) (sm V (u + 1))) (min k (n - 1))))]) (I' := I5) (J' := J5) (Ps := [aO E0 93 10 ∧ E0.2.2 93 0 ≠ 0, aAr E0 1 94 0]) rfl ⟨r_93_0, (a_94 (vin (n := 0) rfl (by omega) (by decide)))⟩ ?_
                rw [show (nI (sm U k) - nI (sm V k)) + (nI (U k) - nI (V k)) = (nI (sm U (k + 1)) - nI (sm V (k + 1))) from dif_add, wn, nI_1]
                have em : (mxf (fun u => adf (U u) (V u)) (k + 1)) = adf (U k) (V k) := Nat.max_eq_right (show _ ≤ adf (U k) (V k) by omega)
                rw [em] at J2
                exact J2
            refine Ez.blk B_X10_distributionDistance_76 (lo' := [some (.ref 93), some (.int (nI a)), some (.int (nI b)), some (.int (nI m)), some (.int (nI (sm (fun u => adf (U u) (V u)) k))), some (.int (nI (mxf (fun u => adf (U u) (V u)) k))), some (.int (nI (sm (fun u => adf (sm U (u + 1)) (sm V (u + 1))) (min k (n - 1))))), some (.int (nI (sm (fun u => min (U u) (V u)) k))), some (.int (nI (sm U k) - nI (sm V k))), some (.int (nI k)), some (.int (nI (U k) - nI (V k))), none]) (st' := [.int (nI (U k) - nI (V k))]) (I' := I5) (J' := J5) (Ps := []) rfl trivial ?_
            refine Ez.if_ge (off := 9) (tgt := 90) (by decide +kernel) (by decide) (fun g => ?_) (fun g => ?_)
            · refine Ez.blk B_X10_distributionDistance_90 (lo' := [some (.ref 93), some (.int (nI a)), some (.int (nI b)), some (.int (nI m)), some (.int (nI (sm (fun u => adf (U u) (V u)) k) + (nI (U k) - nI (V k)))), some (.int (nI (mxf (fun u => adf (U u) (V u)) k))), some (.int (nI (sm (fun u => adf (sm U (u + 1)) (sm V (u + 1))) (min k (n - 1))))), some (.int (nI (sm (fun u => min (U u) (V u)) k))), some (.int (nI (sm U k) - nI (sm V k))), some (.int (nI k)), some (.int (nI (U k) - nI (V k))), some (.int (nI (U k) - nI (V k)))]) (st' := [.int (nI (mxf (fun u => adf (U u) (V u)) k)), .int (nI (U k) - nI (V k))]) (I' := I5) (J' := J5) (Ps := []) rfl trivial ?_
              have e9 := adf_p (a := U k) (b := V k) ((sub_ge (by omega) (by omega)).mp g)
              rw [e9, nI_add]
              rw [e9] at J1
              exact J1
            · refine Ez.blk B_X10_distributionDistance_84 (lo' := [some (.ref 93), some (.int (nI a)), some (.int (nI b)), some (.int (nI m)), some (.int (nI (sm (fun u => adf (U u) (V u)) k))), some (.int (nI (mxf (fun u => adf (U u) (V u)) k))), some (.int (nI (sm (fun u => adf (sm U (u + 1)) (sm V (u + 1))) (min k (n - 1))))), some (.int (nI (sm (fun u => min (U u) (V u)) k))), some (.int (nI (sm U k) - nI (sm V k))), some (.int (nI k)), some (.int (nI (U k) - nI (V k))), none]) (st' := [.int (-(nI (U k) - nI (V k)))]) (I' := I5) (J' := J5) (Ps := []) rfl trivial ?_
              refine Ez.blk B_X10_distributionDistance_92 (lo' := [some (.ref 93), some (.int (nI a)), some (.int (nI b)), some (.int (nI m)), some (.int (nI (sm (fun u => adf (U u) (V u)) k) + (-(nI (U k) - nI (V k))))), some (.int (nI (mxf (fun u => adf (U u) (V u)) k))), some (.int (nI (sm (fun u => adf (sm U (u + 1)) (sm V (u + 1))) (min k (n - 1))))), some (.int (nI (sm (fun u => min (U u) (V u)) k))), some (.int (nI (sm U k) - nI (sm V k))), some (.int (nI k)), some (.int (nI (U k) - nI (V k))), some (.int (-(nI (U k) - nI (V k))))]) (st' := [.int (nI (mxf (fun u => adf (U u) (V u)) k)), .int (-(nI (U k) - nI (V k)))]) (I' := I5) (J' := J5) (Ps := []) rfl trivial ?_
              rw [adf_n (a := U k) (b := V k) (by have := mt (sub_ge (a := U k) (b := V k) (by omega) (by omega)).mpr g; omega), nI_add]
              exact J1
        have L0 := L1 0 (by omega) trivial
        rw [Nat.zero_min, show nI (sm U 0) - nI (sm V 0) = 0 from (by show nI 0 - nI 0 = 0; decide)] at L0
        exact L0
      · refine Ez.blk B_X10_distributionDistance_31 (lo' := [some (.ref 93), some (.int x), some (.int y), some (.int z), none, none, none, none, none, none, none, none]) (st' := [.int (-1)]) (I' := I3) (J' := J3) (Ps := []) rfl trivial ?_
        exact Ez.iret rfl (by decide +kernel) (hQ _ _ _ (by unfold f_dd; rw [if_pos ⟨h, h2⟩, if_neg h3]; exact ⟨rfl, hP, fun _ _ => ⟨rfl, rfl⟩⟩))
    · refine Ez.blk B_X10_distributionDistance_16 (lo' := [some (.ref 93), some (.int x), some (.int y), some (.int z), none, none, none, none, none, none, none, none]) (st' := [.int (-2)]) (I' := I2) (J' := J2) (Ps := []) rfl trivial ?_
      exact Ez.iret rfl (by decide +kernel) (hQ _ _ _ (by unfold f_dd; rw [if_neg (fun q => h2 q.2)]; exact ⟨rfl, hP, fun _ _ => ⟨rfl, rfl⟩⟩))
theorem s_unit (d : Nat) (I : aI) (J : aJ) (c : Nat → Nat) (hc : MC c I) (W : Wc c) : Sp m_X10_unit (d + 1) [.ref 93] E0 I J (fun r I' J' => r = some (.int (nI (c 3 * c 1))) ∧ I' = I ∧ J' = J) := by
  refine Sp.of (lo := [some (.ref 93)]) rfl (fun Q hQ => ?_)
  refine Ez.blk B_X10_unit_0 (lo' := [some (.ref 93)]) (st' := [.int (I 94 3 * I 94 1)]) (I' := I) (J' := J) (Ps := [aO E0 93 10 ∧ E0.2.2 93 0 ≠ 0, aAr E0 1 94 3, aO E0 93 10 ∧ E0.2.2 93 0 ≠ 0, aAr E0 1 94 1]) rfl ⟨r_93_0, (a_94 (vin (n := 3) rfl (by omega) (by decide))), r_93_0, (a_94 (vin (n := 1) rfl (by omega) (by decide)))⟩ ?_
  rw [hc 3 (by decide), hc 1 (by decide), pk_mul]
  exact Ez.iret rfl (by decide +kernel) (hQ _ _ _ ⟨rfl, rfl, rfl⟩)
/-- (r D)^k, or 0 if that is above the limit -/
def scl (c : Nat → Nat) (k : Nat) : Nat := if (c 3 * c 1) ^ k ≤ 1000000000000000 then (c 3 * c 1) ^ k else 0
theorem unit_b {c : Nat → Nat} (W : Wc c) : 1 ≤ c 3 * c 1 ∧ c 3 * c 1 ≤ 48 := ⟨Nat.mul_le_mul (show 1 ≤ c 3 from W.2.2.1.2.1) (show 1 ≤ c 1 from W.2.1.1), Nat.mul_le_mul (show c 3 ≤ 4 from W.2.2.1.2.2) (show c 1 ≤ 12 from W.2.1.2)⟩
theorem s_scale (d : Nat) (I : aI) (J : aJ) (c : Nat → Nat) (hc : MC c I) (W : Wc c) (n : Nat) (hn : n < 2147483648) : Sp m_X10_scale (d + 2) [.ref 93, .int (nI n)] E0 I J (fun r I' J' => r = some (.long (lN (scl c n))) ∧ I' = I ∧ J' = J) := by
  refine Sp.of (lo := [some (.ref 93), some (.int (nI n)), none, none, none]) rfl (fun Q hQ => ?_)
  have ub := unit_b W
  obtain ⟨b, hb⟩ : ∃ b, b = c 3 * c 1 := ⟨_, rfl⟩
  rw [← hb] at ub
  have hnz : ¬ (nI b).toInt64 = 0 := by rw [nI_l (by omega)]; exact fun q => absurd ((lN_0i (by omega)).mp q) (by omega)
  have L1 : ∀ k, k ≤ n → b ^ k ≤ 1000000000000000 → Ez m_X10_scale (d + 2) 5 [some (.ref 93), some (.int (nI n)), some (.long (lN (b ^ k))), none, some (.int (nI k))] [] E0 I J Q := by
    refine for_up ?_ ?_
    · intro hi
      refine Ez.blk B_X10_scale_5 (lo' := [some (.ref 93), some (.int (nI n)), some (.long (lN (b ^ n))), none, some (.int (nI n))]) (st' := [.int (nI n), .int (nI n)]) (I' := I) (J' := J) (Ps := []) rfl trivial ?_
      refine Ez.n_icmp_ge (off := 33) (tgt := 41) (by decide +kernel) (by decide) (a := n) (b := n) rfl rfl (by omega) (by omega) (fun h => ?_) (fun h => absurd h (by omega))
      refine Ez.blk B_X10_scale_41 (lo' := [some (.ref 93), some (.int (nI n)), some (.long (lN (b ^ n))), none, some (.int (nI n))]) (st' := [.long (lN (b ^ n))]) (I' := I) (J' := J) (Ps := []) rfl trivial ?_
      exact Ez.lret rfl (by decide +kernel) (hQ _ _ _ ⟨by unfold scl; rw [← hb, if_pos hi], rfl, rfl⟩)
    · intro k hk ih hi
      refine Ez.blk B_X10_scale_5 (lo' := [some (.ref 93), some (.int (nI n)), some (.long (lN (b ^ k))), none, some (.int (nI k))]) (st' := [.int (nI n), .int (nI k)]) (I' := I) (J' := J) (Ps := []) rfl trivial ?_
      refine Ez.n_icmp_ge (off := 33) (tgt := 41) (by decide +kernel) (by decide) (a := k) (b := n) rfl rfl (by omega) (by omega) (fun h => absurd h (by omega)) (fun h => ?_)
      refine Ez.blk B_X10_scale_11 (lo' := [some (.ref 93), some (.int (nI n)), some (.long (lN (b ^ k))), none, some (.int (nI k))]) (st' := [.ref 93, .long 1000000000000000, .long (lN (b ^ k))]) (I' := I) (J' := J) (Ps := []) rfl trivial ?_
      refine Ez.callV (As := []) (b := 93) (rest := [.long 1000000000000000, .long (lN (b ^ k))]) kn_X10_unit ml_10_124 im_X10_unit se_X10_unit rfl (by decide +kernel) rfl rfl (Nat.le_of_ble_eq_true rfl) (Nat.le_of_ble_eq_true rfl) o_93 (s_unit _ I J c hc W) (fun r I1 J1 hq => ?_)
      obtain ⟨rfl, rfl, rfl⟩ := hq
      rw [← hb]
      refine Ez.blk B_X10_scale_19 (lo' := [some (.ref 93), some (.int (nI n)), some (.long (lN (b ^ k))), none, some (.int (nI k))]) (st' := [.int (lg_cmp (lN (b ^ k)) (1000000000000000 / (nI b).toInt64))]) (I' := I1) (J' := J1) (Ps := [¬ (nI b).toInt64 = 0]) rfl hnz ?_
      rw [nI_l (n := b) (by omega), show (1000000000000000 : Int64) = lN 1000000000000000 from rfl, pk_lDiv (by omega) (by omega) (by omega)]
      have dl : 1000000000000000 / b ≤ 1000000000000000 := Nat.div_le_self _ _
      refine Ez.lif_le (off := 5) (tgt := 27) (by decide +kernel) (by decide) (fun g => ?_) (fun g => ?_)
      · have g2 : b ^ k ≤ 1000000000000000 / b := (pk_lLE (by omega) (by omega)).mp g
        have g3 : b ^ (k + 1) ≤ 1000000000000000 := by rw [Nat.pow_succ]; exact (Nat.le_div_iff_mul_le (by omega)).mp g2
        refine Ez.blk B_X10_scale_27 (lo' := [some (.ref 93), some (.int (nI n)), some (.long (lN (b ^ k))), none, some (.int (nI k))]) (st' := [.ref 93, .long (lN (b ^ k))]) (I' := I1) (J' := J1) (Ps := []) rfl trivial ?_
        refine Ez.callV (As := []) (b := 93) (rest := [.long (lN (b ^ k))]) kn_X10_unit ml_10_124 im_X10_unit se_X10_unit rfl (by decide +kernel) rfl rfl (Nat.le_of_ble_eq_true rfl) (Nat.le_of_ble_eq_true rfl) o_93 (s_unit _ I1 J1 c hc W) (fun r I2 J2 hq => ?_)
        obtain ⟨rfl, rfl, rfl⟩ := hq
        rw [← hb]
        refine Ez.blk B_X10_scale_32 (lo' := [some (.ref 93), some (.int (nI n)), some (.long ((lN (b ^ k)) * (nI b).toInt64)), none, some (.int (nI k + 1))]) (st' := []) (I' := I2) (J' := J2) (Ps := []) rfl trivial ?_
        rw [show (nI k + 1) = nI (k + 1) from (eq_add (a := k) (b := 1) rfl rfl)]
        rw [nI_l (n := b) (by omega), lN_mul, ← Nat.pow_succ]
        exact ih g3
      · have g2 : 1000000000000000 / b < b ^ k := by have := mt (pk_lLE (a := b ^ k) (b := 1000000000000000 / b) (by omega) (by omega)).mpr g; omega
        have g3 : 1000000000000000 < b ^ (k + 1) := by rw [Nat.pow_succ]; exact (Nat.div_lt_iff_lt_mul (by omega)).mp g2
        have g4 := Nat.pow_le_pow_right (n := b) (by omega) (show k + 1 ≤ n by omega)
        refine Ez.blk B_X10_scale_25 (lo' := [some (.ref 93), some (.int (nI n)), some (.long (lN (b ^ k))), none, some (.int (nI k))]) (st' := [.long 0]) (I' := I1) (J' := J1) (Ps := []) rfl trivial ?_
        exact Ez.lret rfl (by decide +kernel) (hQ _ _ _ ⟨by unfold scl; rw [← hb, if_neg (by omega)]; rfl, rfl, rfl⟩)
  refine Ez.blk B_X10_scale_0 (lo' := [some (.ref 93), some (.int (nI n)), some (.long 1), none, some (.int 0)]) (st' := []) (I' := I) (J' := J) (Ps := []) rfl trivial ?_
  exact L1 0 (by omega) (by rw [Nat.pow_zero]; omega)
theorem m_maximumDepth (d : Nat) (I : aI) (J : aJ) (T : TS) (W : WT T) (hP : MP T I J) : Sp m_X10_maximumDepth (d + 3) [.ref 93] E0 I J (fun r I' J' => r = some (.int (nI (gdp T.1))) ∧ MP T I' J' ∧ Fr1 I I' J J') := by
  refine Sp.of (lo := [some (.ref 93), none]) rfl (fun Q hQ => ?_)
  have ub := unit_b W.1
  obtain ⟨b, hb⟩ : ∃ b, b = T.1 3 * T.1 1 := ⟨_, rfl⟩
  rw [← hb] at ub
  refine Ez.blk B_X10_maximumDepth_0 (lo' := [some (.ref 93), none]) (st' := [.ref 93]) (I' := I) (J' := J) (Ps := []) rfl trivial ?_
  refine Ez.callV (As := []) (b := 93) (rest := []) kn_X10_unit ml_10_124 im_X10_unit se_X10_unit rfl (by decide +kernel) rfl rfl (Nat.le_of_ble_eq_true rfl) (Nat.le_of_ble_eq_true rfl) o_93 (s_unit _ I J T.1 hP.1 W.1) (fun r I1 J1 hq => ?_)
  obtain ⟨rfl, rfl, rfl⟩ := hq
  rw [← hb]
  refine Ez.blk B_X10_maximumDepth_4 (lo' := [some (.ref 93), none]) (st' := [.int 1, .int (nI b)]) (I' := I1) (J' := J1) (Ps := []) rfl trivial ?_
  refine Ez.n_icmp_ne (off := 6) (tgt := 11) (by decide +kernel) (by decide) (a := b) (b := 1) rfl rfl (by omega) (by omega) (fun h => ?_) (fun h => ?_)
  · have L1 : ∀ k, k ≤ 50 → b ^ k ≤ 1000000000000000 → Ez m_X10_maximumDepth (d + 3) 13 [some (.ref 93), some (.int (nI k))] [] E0 I1 J1 Q := by
      refine for_up ?_ ?_
      · intro hi
        exact absurd (pow_50 (by omega) hi) (by omega)
      · intro k hk ih hi
        refine Ez.blk B_X10_maximumDepth_13 (lo' := [some (.ref 93), some (.int (nI k))]) (st' := [.int (nI k + 1), .ref 93]) (I' := I1) (J' := J1) (Ps := []) rfl trivial ?_
        rw [nI_1]
        refine Ez.callV (As := [.int (nI (k + 1))]) (b := 93) (rest := []) kn_X10_scale ml_10_128 im_X10_scale se_X10_scale rfl (by decide +kernel) rfl rfl (Nat.le_of_ble_eq_true rfl) (Nat.le_of_ble_eq_true rfl) o_93 (s_scale _ I1 J1 T.1 hP.1 W.1 (k + 1) (by omega)) (fun r I2 J2 hq => ?_)
        obtain ⟨rfl, rfl, rfl⟩ := hq
        refine Ez.blk B_X10_maximumDepth_20 (lo' := [some (.ref 93), some (.int (nI k))]) (st' := [.int (lg_cmp (lN (scl T.1 (k + 1))) 0)]) (I' := I2) (J' := J2) (Ps := []) rfl trivial ?_
        refine Ez.lif_le (off := 9) (tgt := 31) (by decide +kernel) (by decide) (fun g => ?_) (fun g => ?_)
        · have sl : scl T.1 (k + 1) ≤ 1000000000000000 := by unfold scl; rw [← hb]; split <;> omega
          rw [lN_0] at g
          have g2 : 1000000000000000 < b ^ (k + 1) := by
            refine Classical.byContradiction (fun z => ?_)
            have e : scl T.1 (k + 1) = b ^ (k + 1) := by unfold scl; rw [← hb, if_pos (by omega)]
            have := (pk_lLE (by omega) (by omega)).mp g
            have p : 0 < b ^ (k + 1) := Nat.pow_pos (by omega)
            omega
          refine Ez.blk B_X10_maximumDepth_31 (lo' := [some (.ref 93), some (.int (nI k))]) (st' := [.int (nI k)]) (I' := I2) (J' := J2) (Ps := []) rfl trivial ?_
          exact Ez.iret rfl (by decide +kernel) (hQ _ _ _ ⟨by rw [gdp_eq (c := T.1) (k := k) (by rw [← hb]; omega) (by omega) (by rw [← hb]; exact hi) (by rw [← hb]; exact g2)], hP, fun _ _ => ⟨rfl, rfl⟩⟩)
        · have sl : scl T.1 (k + 1) ≤ 1000000000000000 := by unfold scl; rw [← hb]; split <;> omega
          rw [lN_0] at g
          have g2 : b ^ (k + 1) ≤ 1000000000000000 := by
            refine Classical.byContradiction (fun z => g ?_)
            have e : scl T.1 (k + 1) = 0 := by unfold scl; rw [← hb, if_neg z]
            rw [e]; exact Int64.le_refl _
          refine Ez.blk B_X10_maximumDepth_25 (lo' := [some (.ref 93), some (.int (nI k + 1))]) (st' := []) (I' := I2) (J' := J2) (Ps := []) rfl trivial ?_
          rw [show (nI k + 1) = nI (k + 1) from (eq_add (a := k) (b := 1) rfl rfl)]
          exact ih g2
    refine Ez.blk B_X10_maximumDepth_11 (lo' := [some (.ref 93), some (.int 0)]) (st' := []) (I' := I1) (J' := J1) (Ps := []) rfl trivial ?_
    exact L1 0 (by omega) (by rw [Nat.pow_zero]; omega)
  · refine Ez.blk B_X10_maximumDepth_8 (lo' := [some (.ref 93), none]) (st' := [.int 99]) (I' := I1) (J' := J1) (Ps := []) rfl trivial ?_
    exact Ez.iret rfl (by decide +kernel) (hQ _ _ _ ⟨by unfold gdp; rw [← hb, if_pos (by omega)]; rfl, hP, fun _ _ => ⟨rfl, rfl⟩⟩)

/-! DISTANCES: levels -/
/-- what a filling knows: the scale, the costs, the entries that are done -/
def Fi (c : Nat → Nat) (k : Nat) (I : aI) (J : aJ) (P : Nat → Nat → Prop) (I1 : aI) (J1 : aJ) : Prop := (∀ q, ¬ (47 ≤ q ∧ q ≤ 55) → I1 q = I q) ∧ (∀ q, ¬ (q = 49 ∨ q = 52 ∨ q = 53 ∨ q = 73 ∨ q = 58 + k) → J1 q = J q) ∧ (∀ q, q ≠ k + 1 → J1 73 q = J 73 q) ∧ J1 73 (k + 1) = lN ((c 3 * c 1) ^ (k + 1)) ∧ (∀ q, q < 36 → J1 49 q = J (57 + k) q) ∧ (∀ i, J1 (58 + k) (7 * i) = J (58 + k) (7 * i)) ∧ ∀ i j, i < j → j < c 0 → P i j → J1 (58 + k) (i * 6 + j) = lN (dst c (k + 1) i j) ∧ J1 (58 + k) (j * 6 + i) = lN (dst c (k + 1) i j)
theorem s_fill (d : Nat) (I : aI) (J : aJ) (c : Nat → Nat) (hc : Ch I 44 c) (W : Wc c) (k : Nat) (hk : k < 15) (hS : J 73 k = lN ((c 3 * c 1) ^ k)) (hb : (c 3 * c 1) ^ (k + 1) ≤ 1000000000000000) (hL : ∀ i j, i < c 0 → j < c 0 → J (57 + k) (6 * i + j) = lN (dst c k i j)) : Sp m_X3_fillLevel (d + 5) [.ref 43, .int (nI (k + 1))] E0 I J (fun r I' J' => r = none ∧ Fi c k I J (fun _ _ => True) I' J') := by
  refine Sp.of (lo := [some (.ref 43), some (.int (nI (k + 1))), none, none, none, none]) rfl (fun Q hQ => ?_)
  have w1 := W.1
  have w2 := W.2.1
  have w3 := W.2.2.1
  have wl := W.2.2.2.1
  obtain ⟨dk, dk0⟩ := dst_ok W k
  have hpk : (c 3 * c 1) ^ k ≤ 1000000000000000 := Nat.le_trans (Nat.pow_le_pow_right (Nat.mul_pos (by omega) (by omega)) (by omega)) hb
  have L1 : ∀ x, x ≤ c 0 → ∀ (I1 : aI) (J1 : aJ), (Fi c k I J (fun i _ => i < x) I1 J1) → Ez m_X3_fillLevel (d + 5) 49 [some (.ref 43), some (.int (nI (k + 1))), some (.int (nI x)), none, none, none] [] E0 I1 J1 Q := by
    refine for_up ?_ ?_
    · intro I1 J1 hi
      refine Ez.blk B_X3_fillLevel_49 (lo' := [some (.ref 43), some (.int (nI (k + 1))), some (.int (nI (c 0))), none, none, none]) (st' := [.int (I1 44 0), .int (nI (c 0))]) (I' := I1) (J' := J1) (Ps := [aO E0 43 3 ∧ E0.2.2 43 0 ≠ 0, aO E0 44 1]) rfl ⟨r_43_0, o_44⟩ ?_
      refine Ez.n_icmp_ge (off := 113) (tgt := 170) (by decide +kernel) (by decide) (a := (c 0)) (b := (c 0)) rfl (by rw [hi.1 44 (by omega)]; exact hc.1 0 (by decide)) (by omega) (by omega) (fun h => ?_) (fun h => absurd h (by omega))
      exact Ez.vret rfl (by decide +kernel) (hQ _ _ _ ⟨rfl, hi.1, hi.2.1, hi.2.2.1, hi.2.2.2.1, hi.2.2.2.2.1, hi.2.2.2.2.2.1, fun i j hij hj _ => hi.2.2.2.2.2.2 i j hij hj (by omega)⟩)
    · intro x hx ih I1 J1 hi
      refine Ez.blk B_X3_fillLevel_49 (lo' := [some (.ref 43), some (.int (nI (k + 1))), some (.int (nI x)), none, none, none]) (st' := [.int (I1 44 0), .int (nI x)]) (I' := I1) (J' := J1) (Ps := [aO E0 43 3 ∧ E0.2.2 43 0 ≠ 0, aO E0 44 1]) rfl ⟨r_43_0, o_44⟩ ?_
      refine Ez.n_icmp_ge (off := 113) (tgt := 170) (by decide +kernel) (by decide) (a := x) (b := (c 0)) rfl (by rw [hi.1 44 (by omega)]; exact hc.1 0 (by decide)) (by omega) (by omega) (fun h => absurd h (by omega)) (fun h => ?_)
      refine Ez.blk B_X3_fillLevel_60 (lo' := [some (.ref 43), some (.int (nI (k + 1))), some (.int (nI x)), some (.int (nI x + 1)), none, none]) (st' := []) (I' := I1) (J' := J1) (Ps := []) rfl trivial ?_
      rw [show (nI x + 1) = nI (x + 1) from (eq_add (a := x) (b := 1) rfl rfl)]
      have L2 : ∀ y, y ≤ c 0 → ∀ (I2 : aI) (J2 : aJ), (x + 1 ≤ y ∧ Fi c k I J (fun i j => i < x ∨ (i = x ∧ j < y)) I2 J2) → Ez m_X3_fillLevel (d + 5) 64 [some (.ref 43), some (.int (nI (k + 1))), some (.int (nI x)), some (.int (nI y)), none, none] [] E0 I2 J2 Q := by
        refine for_up ?_ ?_
        · intro I2 J2 hi2
          refine Ez.blk B_X3_fillLevel_64 (lo' := [some (.ref 43), some (.int (nI (k + 1))), some (.int (nI x)), some (.int (nI (c 0))), none, none]) (st' := [.int (I2 44 0), .int (nI (c 0))]) (I' := I2) (J' := J2) (Ps := [aO E0 43 3 ∧ E0.2.2 43 0 ≠ 0, aO E0 44 1]) rfl ⟨r_43_0, o_44⟩ ?_
          refine Ez.n_icmp_ge (off := 92) (tgt := 164) (by decide +kernel) (by decide) (a := (c 0)) (b := (c 0)) rfl (by rw [hi2.2.1 44 (by omega)]; exact hc.1 0 (by decide)) (by omega) (by omega) (fun h9 => ?_) (fun h9 => absurd h9 (by omega))
          refine Ez.blk B_X3_fillLevel_164 (lo' := [some (.ref 43), some (.int (nI (k + 1))), some (.int (nI x + 1)), some (.int (nI (c 0))), none, none]) (st' := []) (I' := I2) (J' := J2) (Ps := []) rfl trivial ?_
          rw [show (nI x + 1) = nI (x + 1) from (eq_add (a := x) (b := 1) rfl rfl)]
          refine Ez.drops [3, 4] (lo' := [some (.ref 43), some (.int (nI (k + 1))), some (.int (nI (x + 1))), none, none, none]) rfl ?_
          obtain ⟨-, g1, g2, g3, g4, g5, g6, g7⟩ := hi2
          exact ih I2 J2 ⟨g1, g2, g3, g4, g5, g6, fun i j hij hj hp => g7 i j hij hj (by omega)⟩
        · intro y hy ih2 I2 J2 hi2
          obtain ⟨hxy, g1, g2, g3, g4, g5, g6, g7⟩ := id hi2
          have hc2 : Ch I2 44 c := Ch_eq hc (g1 _ (by omega)) (g1 _ (by omega)) (g1 _ (by omega))
          have lx := wl x (by omega)
          have ly := wl y (by omega)
          refine Ez.blk B_X3_fillLevel_64 (lo' := [some (.ref 43), some (.int (nI (k + 1))), some (.int (nI x)), some (.int (nI y)), none, none]) (st' := [.int (I2 44 0), .int (nI y)]) (I' := I2) (J' := J2) (Ps := [aO E0 43 3 ∧ E0.2.2 43 0 ≠ 0, aO E0 44 1]) rfl ⟨r_43_0, o_44⟩ ?_
          refine Ez.n_icmp_ge (off := 92) (tgt := 164) (by decide +kernel) (by decide) (a := y) (b := (c 0)) rfl (by rw [hi2.2.1 44 (by omega)]; exact hc.1 0 (by decide)) (by omega) (by omega) (fun h9 => absurd h9 (by omega)) (fun h9 => ?_)
          refine Ez.blk B_X3_fillLevel_75 (lo' := [some (.ref 43), some (.int (nI (k + 1))), some (.int (nI x)), some (.int (nI y)), some (.long (J2 73 ((nI (k + 1)).toNatClampNeg))), none]) (st' := [.int (I2 45 ((nI y).toNatClampNeg)), .int (I2 45 ((nI x).toNatClampNeg))]) (I' := I2) (J' := J2) (Ps := [aO E0 43 3 ∧ E0.2.2 43 3 ≠ 0, aAr E0 2 73 (nI (k + 1)), aO E0 43 3 ∧ E0.2.2 43 0 ≠ 0, aO E0 44 1 ∧ E0.2.2 44 4 ≠ 0, aAr E0 1 45 (nI x), aO E0 43 3 ∧ E0.2.2 43 0 ≠ 0, aO E0 44 1 ∧ E0.2.2 44 4 ≠ 0, aAr E0 1 45 (nI y)]) rfl ⟨r_43_3, (a_73 (vin (n := (k + 1)) rfl (by omega) (by decide))), r_43_0, r_44_4, (a_45 (vin (n := x) rfl (by omega) (by decide))), r_43_0, r_44_4, (a_45 (vin (n := y) rfl (by omega) (by decide)))⟩ ?_
          rw [cln (x := nI (k + 1)) (n := (k + 1)) rfl (by omega)]
          rw [cln (x := nI x) (n := x) rfl (by omega)]
          rw [cln (x := nI y) (n := y) rfl (by omega)]
          rw [g4]
          rw [hc2.2.1 x (by omega)]
          rw [hc2.2.1 y (by omega)]
          refine Ez.n_icmp_ne (off := 27) (tgt := 128) (by decide +kernel) (by decide) (a := (c (4 + x))) (b := (c (4 + y))) rfl rfl (by omega) (by omega) (fun h2 => ?_) (fun h2 => ?_)
          · have ev : dst c (k + 1) x y = (c 3 * c 1) ^ (k + 1) := by rw [dst_s, if_neg h2]
            refine Ez.blk B_X3_fillLevel_128 (lo' := [some (.ref 43), some (.int (nI (k + 1))), some (.int (nI x)), some (.int (nI y + 1)), some (.long (lN ((c 3 * c 1) ^ (k + 1)))), none]) (st' := []) (I' := I2) (J' := (aUpJ (aUpJ J2 (E0.2.2 56 (nI (k + 1)).toNatClampNeg) (((nI x * 6) + nI y).toNatClampNeg) (lN ((c 3 * c 1) ^ (k + 1)))) (E0.2.2 56 (nI (k + 1)).toNatClampNeg) (((nI y * 6) + nI x).toNatClampNeg) (lN ((c 3 * c 1) ^ (k + 1))))) (Ps := [aO E0 43 3 ∧ E0.2.2 43 2 ≠ 0, aAr E0 5 56 (nI (k + 1)) ∧ E0.2.2 56 ((nI (k + 1)).toNatClampNeg) ≠ 0, aAr E0 2 (E0.2.2 56 (nI (k + 1)).toNatClampNeg) ((nI x * 6) + nI y), aO E0 43 3 ∧ E0.2.2 43 2 ≠ 0, aAr E0 5 56 (nI (k + 1)) ∧ E0.2.2 56 ((nI (k + 1)).toNatClampNeg) ≠ 0, aAr E0 2 (E0.2.2 56 (nI (k + 1)).toNatClampNeg) ((nI y * 6) + nI x)]) rfl ⟨r_43_2, (a_56 (k := (k + 1)) rfl (by omega)), (lev_in (k := k + 1) (by omega) (vin (n := (x * 6 + y)) (eq_add (a := (x * 6)) (b := y) (eq_mul (a := x) (b := 6) rfl rfl) rfl) (by omega) (by decide))), r_43_2, (a_56 (k := (k + 1)) rfl (by omega)), (lev_in (k := k + 1) (by omega) (vin (n := (y * 6 + x)) (eq_add (a := (y * 6)) (b := x) (eq_mul (a := y) (b := 6) rfl rfl) rfl) (by omega) (by decide)))⟩ ?_
            rw [cln (x := nI (k + 1)) (n := (k + 1)) rfl (by omega)]
            rw [cln (x := ((nI x * 6) + nI y)) (n := (x * 6 + y)) (eq_add (a := (x * 6)) (b := y) (eq_mul (a := x) (b := 6) rfl rfl) rfl) (by omega)]
            rw [cln (x := ((nI y * 6) + nI x)) (n := (y * 6 + x)) (eq_add (a := (y * 6)) (b := x) (eq_mul (a := y) (b := 6) rfl rfl) rfl) (by omega)]
            rw [show (nI y + 1) = nI (y + 1) from (eq_add (a := y) (b := 1) rfl rfl)]
            rw [lev_at (k + 1) (by omega), show 57 + (k + 1) = 58 + k by omega]
            refine Ez.drops [4] (lo' := [some (.ref 43), some (.int (nI (k + 1))), some (.int (nI x)), some (.int (nI (y + 1))), none, none]) rfl ?_
            generalize hJ9 : (aUpJ (aUpJ J2 (58 + k) (x * 6 + y) (lN ((c 3 * c 1) ^ (k + 1)))) (58 + k) (y * 6 + x) (lN ((c 3 * c 1) ^ (k + 1)))) = J9
            refine ih2 I2 J9 ⟨by omega, hi2.2.1, fun q hq => by rw [← hJ9, aUpJ_ne (by omega), aUpJ_ne (by omega)]; exact hi2.2.2.1 q hq, fun q hq => by rw [← hJ9, aUpJ_ne (by omega), aUpJ_ne (by omega)]; exact hi2.2.2.2.1 q hq, by rw [← hJ9, aUpJ_ne (by omega), aUpJ_ne (by omega)]; exact hi2.2.2.2.2.1, fun q hq => by rw [← hJ9, aUpJ_ne (by omega), aUpJ_ne (by omega)]; exact hi2.2.2.2.2.2.1 q hq, fun i => by rw [← hJ9, aUpJ_nk (by omega), aUpJ_nk (by omega)]; exact hi2.2.2.2.2.2.2.1 i, fun i j hij hj hp => ?_⟩
            rw [← hJ9]
            by_cases e : i = x ∧ j = y
            · rw [e.1, e.2, aUpJ_nk (by omega), aUpJ_eq, aUpJ_eq, ev]; exact ⟨rfl, rfl⟩
            · rw [aUpJ_nk (by omega), aUpJ_nk (by omega), aUpJ_nk (by omega), aUpJ_nk (by omega)]; exact hi2.2.2.2.2.2.2.2 i j hij hj (by omega)
          · have hTc : Tc (c 0) (dst c k) J2 := ⟨w1, fun i j hi hj => ⟨by rw [g5 _ (by omega), show i * 6 + j = 6 * i + j by omega]; exact hL i j hi hj, Nat.le_trans (dk i j hi hj).1 hpk⟩, dk0⟩
            have ev : dst c (k + 1) x y = c 2 * mcost (c 0) (wro_ c x) (wro_ c y) (dst c k) := by rw [dst_s, if_pos h2]
            refine Ez.blk B_X3_fillLevel_104 (lo' := [some (.ref 43), some (.int (nI (k + 1))), some (.int (nI x)), some (.int (nI y)), some (.long (lN ((c 3 * c 1) ^ (k + 1)))), none]) (st' := [.int (nI y), .int (nI x), .ref 44, .ref 47, .long ((I2 44 2).toInt64)]) (I' := I2) (J' := J2) (Ps := [aO E0 43 3 ∧ E0.2.2 43 0 ≠ 0, aO E0 44 1, aO E0 43 3 ∧ E0.2.2 43 1 ≠ 0, aO E0 43 3 ∧ E0.2.2 43 0 ≠ 0]) rfl ⟨r_43_0, o_44, r_43_1, r_43_0⟩ ?_
            refine Ez.callV (As := [.ref 44, .int (nI x), .int (nI y)]) (b := 47) (rest := [.long ((I2 44 2).toInt64)]) kn_X8_solve ml_3_70 im_X8_solve se_X8_solve rfl (by decide +kernel) rfl rfl (Nat.le_of_ble_eq_true rfl) (Nat.le_of_ble_eq_true rfl) o_47 (s_solve _ I2 J2 c hc2 W (dst c k) hTc x y hx hy) (fun r I3 J3 hq => ?_)
            obtain ⟨rfl, -, fi, fj⟩ := hq
            have hi3 : Fi c k I J (fun i j => i < x ∨ (i = x ∧ j < y)) I3 J3 := ⟨fun q hq => by rw [fi q hq]; exact g1 q hq, fun q hq => by rw [fj q (by omega)]; exact g2 q hq, fun q hq => by rw [fj 73 (by omega)]; exact g3 q hq, by rw [fj 73 (by omega)]; exact g4, fun q hq => by rw [fj 49 (by omega)]; exact g5 q hq, fun i => by rw [fj _ (by omega)]; exact g6 i, fun i j hij hj hp => by rw [fj _ (by omega)]; exact g7 i j hij hj hp⟩
            refine Ez.blk B_X3_fillLevel_125 (lo' := [some (.ref 43), some (.int (nI (k + 1))), some (.int (nI x)), some (.int (nI y + 1)), some (.long ((I2 44 2).toInt64 * (lN (mcost (c 0) (wro_ c x) (wro_ c y) (dst c k))))), none]) (st' := []) (I' := I3) (J' := (aUpJ (aUpJ J3 (E0.2.2 56 (nI (k + 1)).toNatClampNeg) (((nI x * 6) + nI y).toNatClampNeg) ((I2 44 2).toInt64 * (lN (mcost (c 0) (wro_ c x) (wro_ c y) (dst c k))))) (E0.2.2 56 (nI (k + 1)).toNatClampNeg) (((nI y * 6) + nI x).toNatClampNeg) ((I2 44 2).toInt64 * (lN (mcost (c 0) (wro_ c x) (wro_ c y) (dst c k)))))) (Ps := [aO E0 43 3 ∧ E0.2.2 43 2 ≠ 0, aAr E0 5 56 (nI (k + 1)) ∧ E0.2.2 56 ((nI (k + 1)).toNatClampNeg) ≠ 0, aAr E0 2 (E0.2.2 56 (nI (k + 1)).toNatClampNeg) ((nI x * 6) + nI y), aO E0 43 3 ∧ E0.2.2 43 2 ≠ 0, aAr E0 5 56 (nI (k + 1)) ∧ E0.2.2 56 ((nI (k + 1)).toNatClampNeg) ≠ 0, aAr E0 2 (E0.2.2 56 (nI (k + 1)).toNatClampNeg) ((nI y * 6) + nI x)]) rfl ⟨r_43_2, (a_56 (k := (k + 1)) rfl (by omega)), (lev_in (k := k + 1) (by omega) (vin (n := (x * 6 + y)) (eq_add (a := (x * 6)) (b := y) (eq_mul (a := x) (b := 6) rfl rfl) rfl) (by omega) (by decide))), r_43_2, (a_56 (k := (k + 1)) rfl (by omega)), (lev_in (k := k + 1) (by omega) (vin (n := (y * 6 + x)) (eq_add (a := (y * 6)) (b := x) (eq_mul (a := y) (b := 6) rfl rfl) rfl) (by omega) (by decide)))⟩ ?_
            rw [cln (x := nI (k + 1)) (n := (k + 1)) rfl (by omega)]
            rw [cln (x := ((nI x * 6) + nI y)) (n := (x * 6 + y)) (eq_add (a := (x * 6)) (b := y) (eq_mul (a := x) (b := 6) rfl rfl) rfl) (by omega)]
            rw [cln (x := ((nI y * 6) + nI x)) (n := (y * 6 + x)) (eq_add (a := (y * 6)) (b := x) (eq_mul (a := y) (b := 6) rfl rfl) rfl) (by omega)]
            rw [show (nI y + 1) = nI (y + 1) from (eq_add (a := y) (b := 1) rfl rfl)]
            rw [hc2.1 2 (by decide), nI_l (by omega), lN_mul]
            rw [lev_at (k + 1) (by omega), show 57 + (k + 1) = 58 + k by omega]
            refine Ez.drops [4] (lo' := [some (.ref 43), some (.int (nI (k + 1))), some (.int (nI x)), some (.int (nI (y + 1))), none, none]) rfl ?_
            generalize hJ9 : (aUpJ (aUpJ J3 (58 + k) (x * 6 + y) (lN (c 2 * mcost (c 0) (wro_ c x) (wro_ c y) (dst c k)))) (58 + k) (y * 6 + x) (lN (c 2 * mcost (c 0) (wro_ c x) (wro_ c y) (dst c k)))) = J9
            refine ih2 I3 J9 ⟨by omega, hi3.1, fun q hq => by rw [← hJ9, aUpJ_ne (by omega), aUpJ_ne (by omega)]; exact hi3.2.1 q hq, fun q hq => by rw [← hJ9, aUpJ_ne (by omega), aUpJ_ne (by omega)]; exact hi3.2.2.1 q hq, by rw [← hJ9, aUpJ_ne (by omega), aUpJ_ne (by omega)]; exact hi3.2.2.2.1, fun q hq => by rw [← hJ9, aUpJ_ne (by omega), aUpJ_ne (by omega)]; exact hi3.2.2.2.2.1 q hq, fun i => by rw [← hJ9, aUpJ_nk (by omega), aUpJ_nk (by omega)]; exact hi3.2.2.2.2.2.1 i, fun i j hij hj hp => ?_⟩
            rw [← hJ9]
            by_cases e : i = x ∧ j = y
            · rw [e.1, e.2, aUpJ_nk (by omega), aUpJ_eq, aUpJ_eq, ev]; exact ⟨rfl, rfl⟩
            · rw [aUpJ_nk (by omega), aUpJ_nk (by omega), aUpJ_nk (by omega), aUpJ_nk (by omega)]; exact hi3.2.2.2.2.2.2 i j hij hj (by omega)
      exact L2 (x + 1) (by omega) I1 J1 ⟨by omega, hi.1, hi.2.1, hi.2.2.1, hi.2.2.2.1, hi.2.2.2.2.1, hi.2.2.2.2.2.1, fun i j hij hj hp => hi.2.2.2.2.2.2 i j hij hj (by omega)⟩
  refine Ez.blk B_X3_fillLevel_0 (lo' := [some (.ref 43), some (.int (nI (k + 1))), none, none, none, none]) (st' := [.ref (E0.2.2 56 (nI (k + 1) - 1).toNatClampNeg), .ref 47]) (I' := I) (J' := (aUpJ J 73 ((nI (k + 1)).toNatClampNeg) ((J 73 ((nI (k + 1) - 1).toNatClampNeg) * (I 44 3).toInt64) * (I 44 1).toInt64))) (Ps := [aO E0 43 3 ∧ E0.2.2 43 3 ≠ 0, aO E0 43 3 ∧ E0.2.2 43 3 ≠ 0, aAr E0 2 73 (nI (k + 1) - 1), aO E0 43 3 ∧ E0.2.2 43 0 ≠ 0, aO E0 44 1, aO E0 43 3 ∧ E0.2.2 43 0 ≠ 0, aO E0 44 1, aAr E0 2 73 (nI (k + 1)), aO E0 43 3 ∧ E0.2.2 43 1 ≠ 0, aO E0 43 3 ∧ E0.2.2 43 2 ≠ 0, aAr E0 5 56 (nI (k + 1) - 1) ∧ E0.2.2 56 ((nI (k + 1) - 1).toNatClampNeg) ≠ 0]) rfl ⟨r_43_3, r_43_3, (a_73 (vin (n := k) (pb1 k) (by omega) (by decide))), r_43_0, o_44, r_43_0, o_44, (a_73 (vin (n := (k + 1)) rfl (by omega) (by decide))), r_43_1, r_43_2, (a_56 (k := k) (pb1 k) (by omega))⟩ ?_
  rw [cln (x := (nI (k + 1) - 1)) (n := k) (pb1 k) (by omega)]
  rw [cln (x := nI (k + 1)) (n := (k + 1)) rfl (by omega)]
  rw [hS, hc.1 3 (by decide), hc.1 1 (by decide), nI_l (by omega), nI_l (by omega), lN_mul, lN_mul, lev_at k (by omega)]
  generalize hJ0 : (aUpJ J 73 (k + 1) (lN ((c 3 * c 1) ^ k * c 3 * c 1))) = J0
  refine Ez.callV (As := [.ref (57 + k)]) (b := 47) (rest := []) kn_X8_useCosts ml_3_56 im_X8_useCosts se_X8_useCosts rfl (by decide +kernel) rfl rfl (Nat.le_of_ble_eq_true rfl) (Nat.le_of_ble_eq_true rfl) o_47 (s_use _ I J0 k (by omega)) (fun r I1 J1 hq => ?_)
  obtain ⟨rfl, rfl, m1, m2⟩ := hq
  refine Ez.blk B_X3_fillLevel_47 (lo' := [some (.ref 43), some (.int (nI (k + 1))), some (.int 0), none, none, none]) (st' := []) (I' := I1) (J' := J1) (Ps := []) rfl trivial ?_
  exact L1 0 (by omega) I1 J1 ⟨fun _ _ => rfl, fun q hq => by rw [m2 q (by omega), ← hJ0, aUpJ_ne (by omega)], fun q hq => by rw [m2 73 (by omega), ← hJ0, aUpJ_nk hq], by rw [m2 73 (by omega), ← hJ0, aUpJ_eq, Nat.pow_succ, Nat.mul_assoc], fun q hq => by rw [m1 q hq, ← hJ0, aUpJ_ne (by omega)], fun i => by rw [m2 _ (by omega), ← hJ0, aUpJ_ne (by omega)], fun i j hij hj hp => by omega⟩

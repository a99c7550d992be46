/-! THE REFERENCE: distances -/
theorem dst_b {c : Nat → Nat} (W : Wc c) {m k : Nat} (hm : (c 3 * c 1) ^ m ≤ 1000000000000000) (hk : k ≤ m) {i j : Nat} (hi : i < c 0) (hj : j < c 0) : dst c k i j ≤ 1000000000000000 := Nat.le_trans ((dst_ok W k).1 i j hi hj).1 (Nat.le_trans (Nat.pow_le_pow_right (unit_b W).1 hk) hm)
theorem scl_ok {c : Nat → Nat} (W : Wc c) {m k : Nat} (hm : (c 3 * c 1) ^ m ≤ 1000000000000000) (hk : k ≤ m) : scl c k = (c 3 * c 1) ^ k := by
  unfold scl
  rw [if_pos (Nat.le_trans (Nat.pow_le_pow_right (unit_b W).1 hk) hm)]
abbrev FrT (I I' : aI) (J J' : aJ) : Prop := (∀ q, q ≠ 100 → q ≠ 101 → q ≠ 103 → I' q = I q) ∧ ∀ q, q ≠ 98 → q ≠ 99 → q ≠ 102 → J' q = J q
theorem FrM_T {I I' : aI} {J J' : aJ} (h : FrT I I' J J') : FrM I I' J J' := ⟨fun q h1 _ => h.1 q (by omega) (by omega) (by omega), fun k _ => by rw [h.1 93 (by omega) (by omega) (by omega)], fun q h1 => h.2 q (by omega) (by omega) (by omega)⟩
theorem s_comp (d : Nat) (I : aI) (J : aJ) (c : Nat → Nat) (hc : MC c I) (W : Wc c) (m : Nat) (hm : m ≤ 15) (hp : (c 3 * c 1) ^ m ≤ 1000000000000000) : Sp m_X10_computeDistances (d + 6) [.ref 93, .int (nI m)] E0 I J (fun r I' J' => r = none ∧ (∀ i j, i < c 0 → j < c 0 → J' 98 (6 * i + j) = lN (dst c m i j)) ∧ FrT I I' J J') := by
  refine Sp.of (lo := [some (.ref 93), some (.int (nI m)), none, none, none, none]) rfl (fun Q hQ => ?_)
  have w1 := W.1
  have wl := W.2.2.2.1
  have w3 := W.2.2.1
  have L1 : ∀ k, k ≤ m → ∀ (I1 : aI) (J1 : aJ), ((∀ i j, i < c 0 → j < c 0 → J1 98 (6 * i + j) = lN (dst c k i j)) ∧ FrT I I1 J J1) → Ez m_X10_computeDistances (d + 6) 23 [some (.ref 93), some (.int (nI m)), some (.int (nI (k + 1))), none, none, none] [] E0 I1 J1 Q := by
    refine for_up ?_ ?_
    · intro I1 J1 hi
      obtain ⟨i1, i2, i3⟩ := hi
      have c1 : MC c I1 := MC_fr hc (i2 94 (by decide) (by decide) (by decide))
      refine Ez.blk B_X10_computeDistances_23 (lo' := [some (.ref 93), some (.int (nI m)), some (.int (nI (m + 1))), none, none, none]) (st' := [.int (nI m), .int (nI (m + 1))]) (I' := I1) (J' := J1) (Ps := []) rfl trivial ?_
      refine Ez.n_icmp_gt (off := 129) (tgt := 154) (by decide +kernel) (by decide) (a := (m + 1)) (b := m) rfl rfl (by omega) (by omega) (fun h => ?_) (fun h => absurd h (by omega))
      exact Ez.vret rfl (by decide +kernel) (hQ _ _ _ ⟨rfl, i1, i2, i3⟩)
    · intro k hk ih I1 J1 hi
      obtain ⟨i1, i2, i3⟩ := hi
      have c1 : MC c I1 := MC_fr hc (i2 94 (by decide) (by decide) (by decide))
      refine Ez.blk B_X10_computeDistances_23 (lo' := [some (.ref 93), some (.int (nI m)), some (.int (nI (k + 1))), none, none, none]) (st' := [.int (nI m), .int (nI (k + 1))]) (I' := I1) (J' := J1) (Ps := []) rfl trivial ?_
      refine Ez.n_icmp_gt (off := 129) (tgt := 154) (by decide +kernel) (by decide) (a := (k + 1)) (b := m) rfl rfl (by omega) (by omega) (fun h => absurd h (by omega)) (fun h => ?_)
      refine Ez.blk B_X10_computeDistances_28 (lo' := [some (.ref 93), some (.int (nI m)), some (.int (nI (k + 1))), some (.int 0), none, none]) (st' := []) (I' := I1) (J' := J1) (Ps := []) rfl trivial ?_
      have L2 : ∀ s, s ≤ c 0 → ∀ (I2 : aI) (J2 : aJ), ((∀ x y, x < s → y < c 0 → J2 99 (6 * x + y) = lN (dst c (k + 1) x y)) ∧ (∀ q, q ≠ 100 → q ≠ 101 → q ≠ 103 → I2 q = I1 q) ∧ ∀ q, q ≠ 99 → q ≠ 102 → J2 q = J1 q) → Ez m_X10_computeDistances (d + 6) 30 [some (.ref 93), some (.int (nI m)), some (.int (nI (k + 1))), some (.int (nI s)), none, none] [] E0 I2 J2 Q := by
        refine for_up ?_ ?_
        · intro I2 J2 hs
          obtain ⟨j1, j2, j3⟩ := hs
          have c2 : MC c I2 := MC_fr c1 (j2 94 (by decide) (by decide) (by decide))
          refine Ez.blk B_X10_computeDistances_30 (lo' := [some (.ref 93), some (.int (nI m)), some (.int (nI (k + 1))), some (.int (nI (c 0))), none, none]) (st' := [.int (I2 94 0), .int (nI (c 0))]) (I' := I2) (J' := J2) (Ps := [aO E0 93 10 ∧ E0.2.2 93 0 ≠ 0, aAr E0 1 94 0]) rfl ⟨r_93_0, (a_94 (vin (n := 0) rfl (by omega) (by decide)))⟩ ?_
          refine Ez.n_icmp_ge (off := 96) (tgt := 133) (by decide +kernel) (by decide) (a := (c 0)) (b := (c 0)) rfl (c2 0 (by decide)) (by omega) (by omega) (fun h9 => ?_) (fun h9 => absurd h9 (by omega))
          refine Ez.blk B_X10_computeDistances_133 (lo' := [some (.ref 93), some (.int (nI m)), some (.int (nI (k + 1) + 1)), some (.int (nI (c 0))), none, none]) (st' := []) (I' := I2) (J' := (aRwJ J2 98 (va_cpy (J2 99) (J2 98) 0 0 36))) (Ps := [aO E0 93 10 ∧ E0.2.2 93 7 ≠ 0, aO E0 93 10 ∧ E0.2.2 93 6 ≠ 0, aCp E0 2 99 98 0 0 36]) rfl ⟨r_93_7, r_93_6, (cpy_ok (s0 := 0) (d0 := 0) (m := 36) q_99 q_98 rfl rfl rfl (by omega) (by omega) (by omega) (by omega) (by omega))⟩ ?_
          rw [show (nI (k + 1) + 1) = nI (k + 1 + 1) from (eq_add (a := (k + 1)) (b := 1) rfl rfl)]
          refine Ez.drops [3] (lo' := [some (.ref 93), some (.int (nI m)), some (.int (nI (k + 1 + 1))), none, none, none]) rfl ?_
          generalize hJ3 : (aRwJ J2 98 (va_cpy (J2 99) (J2 98) 0 0 36)) = J3
          exact ih I2 J3 ⟨fun i j hi hj => by rw [← hJ3, aRwJ_at, cp0 (by omega)]; exact j1 i j hi hj, fun q a b c_ => by rw [j2 q a b c_]; exact i2 q a b c_, fun q a b c_ => by rw [← hJ3, aRwJ_ne a, j3 q b c_]; exact i3 q a b c_⟩
        · intro s hsn ih2 I2 J2 hs
          obtain ⟨j1, j2, j3⟩ := hs
          have c2 : MC c I2 := MC_fr c1 (j2 94 (by decide) (by decide) (by decide))
          refine Ez.blk B_X10_computeDistances_30 (lo' := [some (.ref 93), some (.int (nI m)), some (.int (nI (k + 1))), some (.int (nI s)), none, none]) (st' := [.int (I2 94 0), .int (nI s)]) (I' := I2) (J' := J2) (Ps := [aO E0 93 10 ∧ E0.2.2 93 0 ≠ 0, aAr E0 1 94 0]) rfl ⟨r_93_0, (a_94 (vin (n := 0) rfl (by omega) (by decide)))⟩ ?_
          refine Ez.n_icmp_ge (off := 96) (tgt := 133) (by decide +kernel) (by decide) (a := s) (b := (c 0)) rfl (c2 0 (by decide)) (by omega) (by omega) (fun h9 => absurd h9 (by omega)) (fun h9 => ?_)
          refine Ez.blk B_X10_computeDistances_40 (lo' := [some (.ref 93), some (.int (nI m)), some (.int (nI (k + 1))), some (.int (nI s)), some (.int 0), none]) (st' := []) (I' := I2) (J' := J2) (Ps := []) rfl trivial ?_
          have L3 : ∀ t, t ≤ c 0 → ∀ (I3 : aI) (J3 : aJ), ((∀ x y, (x < s ∨ (x = s ∧ y < t)) → y < c 0 → J3 99 (6 * x + y) = lN (dst c (k + 1) x y)) ∧ (∀ q, q ≠ 100 → q ≠ 101 → q ≠ 103 → I3 q = I1 q) ∧ ∀ q, q ≠ 99 → q ≠ 102 → J3 q = J1 q) → Ez m_X10_computeDistances (d + 6) 43 [some (.ref 93), some (.int (nI m)), some (.int (nI (k + 1))), some (.int (nI s)), some (.int (nI t)), none] [] E0 I3 J3 Q := by
            refine for_up ?_ ?_
            · intro I3 J3 ht
              obtain ⟨k1, k2, k3⟩ := ht
              have c3 : MC c I3 := MC_fr c1 (k2 94 (by decide) (by decide) (by decide))
              refine Ez.blk B_X10_computeDistances_43 (lo' := [some (.ref 93), some (.int (nI m)), some (.int (nI (k + 1))), some (.int (nI s)), some (.int (nI (c 0))), none]) (st' := [.int (I3 94 0), .int (nI (c 0))]) (I' := I3) (J' := J3) (Ps := [aO E0 93 10 ∧ E0.2.2 93 0 ≠ 0, aAr E0 1 94 0]) rfl ⟨r_93_0, (a_94 (vin (n := 0) rfl (by omega) (by decide)))⟩ ?_
              refine Ez.n_icmp_ge (off := 76) (tgt := 127) (by decide +kernel) (by decide) (a := (c 0)) (b := (c 0)) rfl (c3 0 (by decide)) (by omega) (by omega) (fun h8 => ?_) (fun h8 => absurd h8 (by omega))
              refine Ez.blk B_X10_computeDistances_127 (lo' := [some (.ref 93), some (.int (nI m)), some (.int (nI (k + 1))), some (.int (nI s + 1)), some (.int (nI (c 0))), none]) (st' := []) (I' := I3) (J' := J3) (Ps := []) rfl trivial ?_
              rw [show (nI s + 1) = nI (s + 1) from (eq_add (a := s) (b := 1) rfl rfl)]
              refine Ez.drops [4] (lo' := [some (.ref 93), some (.int (nI m)), some (.int (nI (k + 1))), some (.int (nI (s + 1))), none, none]) rfl ?_
              exact ih2 I3 J3 ⟨fun x y hx hy => k1 x y (by omega) hy, k2, k3⟩
            · intro t htn ih3 I3 J3 ht
              obtain ⟨k1, k2, k3⟩ := ht
              have c3 : MC c I3 := MC_fr c1 (k2 94 (by decide) (by decide) (by decide))
              have ls : I3 94 (4 + s) = nI (c (4 + s)) := c3 _ (by omega)
              have lt : I3 94 (4 + t) = nI (c (4 + t)) := c3 _ (by omega)
              have l3 := wl s (by omega)
              have l4 := wl t (by omega)
              have dk : ∀ i j, i < c 0 → j < c 0 → J3 98 (6 * i + j) = lN (dst c k i j) ∧ dst c k i j ≤ 1000000000000000 := fun i j hi hj => ⟨by rw [k3 98 (by decide) (by decide)]; exact i1 i j hi hj, dst_b W hp (by omega) hi hj⟩
              have nxt : ∀ (I5 : aI) (J5 : aJ) (v : Int64), v = lN (dst c (k + 1) s t) → (∀ q, q ≠ 100 → q ≠ 101 → q ≠ 103 → I5 q = I1 q) → (∀ q, q ≠ 102 → J5 q = J3 q) → Ez m_X10_computeDistances (d + 6) 43 [some (.ref 93), some (.int (nI m)), some (.int (nI (k + 1))), some (.int (nI s)), some (.int (nI (t + 1))), none] [] E0 I5 (aUpJ J5 99 (6 * s + t) v) Q := fun I5 J5 v ev h1 h2 => ih3 I5 _ ⟨fun x y hxy hy => by
                by_cases e : 6 * x + y = 6 * s + t
                · rw [e, aUpJ_eq, ev, show x = s by omega, show y = t by omega]
                · rw [aUpJ_nk e, h2 99 (by decide)]; exact k1 x y (by omega) hy, h1, fun q a b => by rw [aUpJ_ne a, h2 q b]; exact k3 q a b⟩
              refine Ez.blk B_X10_computeDistances_43 (lo' := [some (.ref 93), some (.int (nI m)), some (.int (nI (k + 1))), some (.int (nI s)), some (.int (nI t)), none]) (st' := [.int (I3 94 0), .int (nI t)]) (I' := I3) (J' := J3) (Ps := [aO E0 93 10 ∧ E0.2.2 93 0 ≠ 0, aAr E0 1 94 0]) rfl ⟨r_93_0, (a_94 (vin (n := 0) rfl (by omega) (by decide)))⟩ ?_
              refine Ez.n_icmp_ge (off := 76) (tgt := 127) (by decide +kernel) (by decide) (a := t) (b := (c 0)) rfl (c3 0 (by decide)) (by omega) (by omega) (fun h8 => absurd h8 (by omega)) (fun h8 => ?_)
              refine Ez.blk B_X10_computeDistances_54 (lo' := [some (.ref 93), some (.int (nI m)), some (.int (nI (k + 1))), some (.int (nI s)), some (.int (nI t)), none]) (st' := [.int (I3 94 ((4 + nI t).toNatClampNeg)), .int (I3 94 ((4 + nI s).toNatClampNeg))]) (I' := I3) (J' := J3) (Ps := [aO E0 93 10 ∧ E0.2.2 93 0 ≠ 0, aAr E0 1 94 (4 + nI s), aO E0 93 10 ∧ E0.2.2 93 0 ≠ 0, aAr E0 1 94 (4 + nI t)]) rfl ⟨r_93_0, (a_94 (vin (n := (4 + s)) (eq_add (a := 4) (b := s) rfl rfl) (by omega) (by decide))), r_93_0, (a_94 (vin (n := (4 + t)) (eq_add (a := 4) (b := t) rfl rfl) (by omega) (by decide)))⟩ ?_
              rw [cln (x := (4 + nI s)) (n := (4 + s)) (eq_add (a := 4) (b := s) rfl rfl) (by omega)]
              rw [cln (x := (4 + nI t)) (n := (4 + t)) (eq_add (a := 4) (b := t) rfl rfl) (by omega)]
              refine Ez.n_icmp_ne (off := 7) (tgt := 78) (by decide +kernel) (by decide) (a := (c (4 + s))) (b := (c (4 + t))) ls lt (by omega) (by omega) (fun g => ?_) (fun g => ?_)
              · refine Ez.blk B_X10_computeDistances_78 (lo' := [some (.ref 93), some (.int (nI m)), some (.int (nI (k + 1))), some (.int (nI s)), some (.int (nI t)), some (.int 0)]) (st' := [.int 0, .int ((6 * nI s) + nI t), .ref 99]) (I' := I3) (J' := J3) (Ps := [aO E0 93 10 ∧ E0.2.2 93 7 ≠ 0]) rfl r_93_7 ?_
                refine Ez.n_if_eq (off := 21) (tgt := 115) (by decide +kernel) (by decide) (a := 0) rfl (by omega) (fun gz => ?_) (fun gz => absurd rfl gz)
                refine Ez.blk B_X10_computeDistances_115 (lo' := [some (.ref 93), some (.int (nI m)), some (.int (nI (k + 1))), some (.int (nI s)), some (.int (nI t)), some (.int 0)]) (st' := [.int (nI (k + 1)), .ref 93, .int ((6 * nI s) + nI t), .ref 99]) (I' := I3) (J' := J3) (Ps := []) rfl trivial ?_
                refine Ez.callV (As := [.int (nI (k + 1))]) (b := 93) (rest := [.int ((6 * nI s) + nI t), .ref 99]) kn_X10_scale ml_10_128 im_X10_scale se_X10_scale rfl (by decide +kernel) rfl rfl (Nat.le_of_ble_eq_true rfl) (Nat.le_of_ble_eq_true rfl) o_93 (s_scale _ I3 J3 c c3 W (k + 1) (by omega)) (fun r I4 J4 hq => ?_)
                obtain ⟨rfl, rfl, rfl⟩ := hq
                refine Ez.blk B_X10_computeDistances_120 (lo' := [some (.ref 93), some (.int (nI m)), some (.int (nI (k + 1))), some (.int (nI s)), some (.int (nI t + 1)), some (.int 0)]) (st' := []) (I' := I4) (J' := (aUpJ J4 99 (((6 * nI s) + nI t).toNatClampNeg) (lN (scl c (k + 1))))) (Ps := [aAr E0 2 99 ((6 * nI s) + nI t)]) rfl (a_99 (vin (n := (6 * s + t)) (eq_add (a := (6 * s)) (b := t) (eq_mul (a := 6) (b := s) rfl rfl) rfl) (by omega) (by decide))) ?_
                rw [cln (x := ((6 * nI s) + nI t)) (n := (6 * s + t)) (eq_add (a := (6 * s)) (b := t) (eq_mul (a := 6) (b := s) rfl rfl) rfl) (by omega)]
                rw [show (nI t + 1) = nI (t + 1) from (eq_add (a := t) (b := 1) rfl rfl)]
                refine Ez.drops [5] (lo' := [some (.ref 93), some (.int (nI m)), some (.int (nI (k + 1))), some (.int (nI s)), some (.int (nI (t + 1))), none]) rfl ?_
                exact nxt I4 J4 _ (by rw [scl_ok W hp (by omega), dst_s, if_neg g]) k2 (fun _ _ => rfl)
              · refine Ez.blk B_X10_computeDistances_74 (lo' := [some (.ref 93), some (.int (nI m)), some (.int (nI (k + 1))), some (.int (nI s)), some (.int (nI t)), none]) (st' := [.int 1]) (I' := I3) (J' := J3) (Ps := []) rfl trivial ?_
                refine Ez.blk B_X10_computeDistances_79 (lo' := [some (.ref 93), some (.int (nI m)), some (.int (nI (k + 1))), some (.int (nI s)), some (.int (nI t)), some (.int 1)]) (st' := [.int 1, .int ((6 * nI s) + nI t), .ref 99]) (I' := I3) (J' := J3) (Ps := [aO E0 93 10 ∧ E0.2.2 93 7 ≠ 0]) rfl r_93_7 ?_
                refine Ez.n_if_eq (off := 21) (tgt := 115) (by decide +kernel) (by decide) (a := 1) rfl (by omega) (fun gz => absurd gz (by decide)) (fun gz => ?_)
                refine Ez.blk B_X10_computeDistances_97 (lo' := [some (.ref 93), some (.int (nI m)), some (.int (nI (k + 1))), some (.int (nI s)), some (.int (nI t)), some (.int 1)]) (st' := [.int (nI t), .int (nI s), .ref 93, .long ((I3 94 2).toInt64), .int ((6 * nI s) + nI t), .ref 99]) (I' := I3) (J' := J3) (Ps := [aO E0 93 10 ∧ E0.2.2 93 0 ≠ 0, aAr E0 1 94 2]) rfl ⟨r_93_0, (a_94 (vin (n := 2) rfl (by omega) (by decide)))⟩ ?_
                rw [c3 2 (by decide)]
                refine Ez.callV (As := [.int (nI s), .int (nI t)]) (b := 93) (rest := [.long ((nI (c 2)).toInt64), .int ((6 * nI s) + nI t), .ref 99]) kn_X10_minimumCost ml_10_132 im_X10_minimumCost se_X10_minimumCost rfl (by decide +kernel) rfl rfl (Nat.le_of_ble_eq_true rfl) (Nat.le_of_ble_eq_true rfl) o_93 (s_minc _ I3 J3 c c3 W (dst c k) dk s t hsn htn) (fun r I4 J4 hq => ?_)
                obtain ⟨rfl, m1, m2⟩ := hq
                refine Ez.blk B_X10_computeDistances_111 (lo' := [some (.ref 93), some (.int (nI m)), some (.int (nI (k + 1))), some (.int (nI s)), some (.int (nI t)), some (.int 1)]) (st' := [.long ((nI (c 2)).toInt64 * (lN (mcost (c 0) (wro_ c s) (wro_ c t) (dst c k)))), .int ((6 * nI s) + nI t), .ref 99]) (I' := I4) (J' := J4) (Ps := []) rfl trivial ?_
                refine Ez.blk B_X10_computeDistances_120 (lo' := [some (.ref 93), some (.int (nI m)), some (.int (nI (k + 1))), some (.int (nI s)), some (.int (nI t + 1)), some (.int 1)]) (st' := []) (I' := I4) (J' := (aUpJ J4 99 (((6 * nI s) + nI t).toNatClampNeg) ((nI (c 2)).toInt64 * (lN (mcost (c 0) (wro_ c s) (wro_ c t) (dst c k)))))) (Ps := [aAr E0 2 99 ((6 * nI s) + nI t)]) rfl (a_99 (vin (n := (6 * s + t)) (eq_add (a := (6 * s)) (b := t) (eq_mul (a := 6) (b := s) rfl rfl) rfl) (by omega) (by decide))) ?_
                rw [cln (x := ((6 * nI s) + nI t)) (n := (6 * s + t)) (eq_add (a := (6 * s)) (b := t) (eq_mul (a := 6) (b := s) rfl rfl) rfl) (by omega)]
                rw [show (nI t + 1) = nI (t + 1) from (eq_add (a := t) (b := 1) rfl rfl)]
                refine Ez.drops [5] (lo' := [some (.ref 93), some (.int (nI m)), some (.int (nI (k + 1))), some (.int (nI s)), some (.int (nI (t + 1))), none]) rfl ?_
                exact nxt I4 J4 _ (by rw [nI_l (by omega), lN_mul, dst_s, if_pos g]) (fun q a b c_ => by rw [m1 q a b c_]; exact k2 q a b c_) m2
          exact L3 0 (by omega) I2 J2 ⟨fun x y hx hy => j1 x y (by omega) hy, j2, j3⟩
      exact L2 0 (by omega) I1 J1 ⟨fun x y hx => by omega, fun _ _ _ _ => rfl, fun _ _ _ => rfl⟩
  have L0 : ∀ k, k ≤ 36 → ∀ (J1 : aJ), ((∀ q, q < k → J1 98 q = 0) ∧ ∀ q, q ≠ 98 → J1 q = J q) → Ez m_X10_computeDistances (d + 6) 2 [some (.ref 93), some (.int (nI m)), some (.int (nI k)), none, none, none] [] E0 I J1 Q := by
    refine for_up ?_ ?_
    · intro J1 hi
      refine Ez.blk B_X10_computeDistances_2 (lo' := [some (.ref 93), some (.int (nI m)), some (.int (nI 36)), none, none, none]) (st' := [.int 36, .int (nI 36)]) (I' := I) (J' := J1) (Ps := []) rfl trivial ?_
      refine Ez.n_icmp_ge (off := 16) (tgt := 21) (by decide +kernel) (by decide) (a := 36) (b := 36) rfl rfl (by omega) (by omega) (fun h => ?_) (fun h => absurd h (by omega))
      refine Ez.blk B_X10_computeDistances_21 (lo' := [some (.ref 93), some (.int (nI m)), some (.int 1), none, none, none]) (st' := []) (I' := I) (J' := J1) (Ps := []) rfl trivial ?_
      exact L1 0 (by omega) I J1 ⟨fun i j hi2 hj => by rw [hi.1 _ (by omega)]; rfl, fun _ _ _ _ => rfl, fun q a _ _ => hi.2 q a⟩
    · intro k hk ih J1 hi
      refine Ez.blk B_X10_computeDistances_2 (lo' := [some (.ref 93), some (.int (nI m)), some (.int (nI k)), none, none, none]) (st' := [.int 36, .int (nI k)]) (I' := I) (J' := J1) (Ps := []) rfl trivial ?_
      refine Ez.n_icmp_ge (off := 16) (tgt := 21) (by decide +kernel) (by decide) (a := k) (b := 36) rfl rfl (by omega) (by omega) (fun h => absurd h (by omega)) (fun h => ?_)
      refine Ez.blk B_X10_computeDistances_8 (lo' := [some (.ref 93), some (.int (nI m)), some (.int (nI k + 1)), none, none, none]) (st' := []) (I' := I) (J' := (aUpJ J1 98 ((nI k).toNatClampNeg) 0)) (Ps := [aO E0 93 10 ∧ E0.2.2 93 6 ≠ 0, aAr E0 2 98 (nI k)]) rfl ⟨r_93_6, (a_98 (vin (n := k) rfl (by omega) (by decide)))⟩ ?_
      rw [cln (x := nI k) (n := k) rfl (by omega)]
      rw [show (nI k + 1) = nI (k + 1) from (eq_add (a := k) (b := 1) rfl rfl)]
      exact ih _ ⟨fun q hq => by
        by_cases e : q = k
        · rw [e, aUpJ_eq]
        · rw [aUpJ_nk e]; exact hi.1 q (by omega), fun q hq => by rw [aUpJ_ne hq]; exact hi.2 q hq⟩
  refine Ez.blk B_X10_computeDistances_0 (lo' := [some (.ref 93), some (.int (nI m)), some (.int 0), none, none, none]) (st' := []) (I' := I) (J' := J) (Ps := []) rfl trivial ?_
  exact L0 0 (by omega) J ⟨fun q hq => by omega, fun _ _ => rfl⟩
theorem s_divisor (d : Nat) (I : aI) (J : aJ) (a b : Nat) (ha : a ≤ 1000000000000000) (hb : b ≤ 1000000000000000) : Sp m_X10_divisor (d + 1) [.long (lN a), .long (lN b)] E0 I J (fun r I' J' => r = some (.long (lN (Nat.gcd a b))) ∧ I' = I ∧ J' = J) := by
  refine Sp.of (lo := [some (.long (lN a)), none, some (.long (lN b)), none, none, none, none, none, none, none]) rfl (fun Q hQ => ?_)
  have L1 : ∀ y, ∀ x, (x ≤ 1000000000000000 ∧ y ≤ 1000000000000000 ∧ Nat.gcd x y = Nat.gcd a b) → Ez m_X10_divisor (d + 1) 6 [some (.long (lN a)), none, some (.long (lN b)), none, some (.long (lN x)), none, some (.long (lN y)), none, none, none] [] E0 I J Q := by
    intro y
    induction y using Nat.strongRecOn with
    | _ y ih =>
      intro x ⟨h1, h2, h3⟩
      refine Ez.blk B_X10_divisor_6 (lo' := [some (.long (lN a)), none, some (.long (lN b)), none, some (.long (lN x)), none, some (.long (lN y)), none, none, none]) (st' := [.int (lg_cmp (lN y) 0)]) (I' := I) (J' := J) (Ps := []) rfl trivial ?_
      refine Ez.lif_eq (off := 21) (tgt := 31) (by decide +kernel) (by decide) (fun g => ?_) (fun g => ?_)
      · have g := (lN_0i (by omega)).mp g
        have hg : x = Nat.gcd a b := by rw [← h3, g, Nat.gcd_zero_right]
        refine Ez.blk B_X10_divisor_31 (lo' := [some (.long (lN a)), none, some (.long (lN b)), none, some (.long (lN x)), none, some (.long (lN y)), none, none, none]) (st' := [.long (lN x)]) (I' := I) (J' := J) (Ps := []) rfl trivial ?_
        rw [hg]
        exact Ez.lret rfl (by decide +kernel) (hQ _ _ _ ⟨rfl, rfl, rfl⟩)
      · have g2 : y ≠ 0 := fun q => g ((lN_0i (by omega)).mpr q)
        have hm := Nat.mod_lt x (Nat.pos_of_ne_zero g2)
        refine Ez.blk B_X10_divisor_13 (lo' := [some (.long (lN a)), none, some (.long (lN b)), none, some (.long (lN y)), none, some (.long ((lN x) - (lN x) / (lN y) * (lN y))), none, some (.long ((lN x) - (lN x) / (lN y) * (lN y))), none]) (st' := []) (I' := I) (J' := J) (Ps := [¬ (lN y) = 0]) rfl g ?_
        rw [lN_rem (by omega) (by omega) (by omega)]
        refine Ez.drops [8] (lo' := [some (.long (lN a)), none, some (.long (lN b)), none, some (.long (lN y)), none, some (.long (lN (x % y))), none, none, none]) rfl ?_
        exact ih (x % y) hm y ⟨h2, by omega, by rw [← h3, Nat.gcd_comm x y, Nat.gcd_rec y x, Nat.gcd_comm]⟩
  refine Ez.blk B_X10_divisor_0 (lo' := [some (.long (lN a)), none, some (.long (lN b)), none, some (.long (lN a)), none, some (.long (lN b)), none, none, none]) (st' := []) (I' := I) (J' := J) (Ps := []) rfl trivial ?_
  exact L1 b a ⟨ha, hb, rfl⟩
theorem scl_z {c : Nat → Nat} (W : Wc c) {m : Nat} (hm : m ≤ 15) : lN (scl c m) = 0 ↔ ¬ m ≤ gdp c := by
  have hs : scl c m ≤ 1000000000000000 := by unfold scl; split <;> omega
  rw [lN_0i (by omega)]
  have hp : 0 < (c 3 * c 1) ^ m := Nat.pow_pos (unit_b W).1
  constructor
  · intro h q
    have := gdp_ok q
    unfold scl at h
    rw [if_pos this] at h
    omega
  · intro h
    have := gdp_no hm h
    unfold scl
    rw [if_neg (by omega)]
theorem s_frac1 (d : Nat) (I : aI) (J : aJ) (T : TS) (W : WT T) (hP : MP T I J) (m x y : Int32) : Sp m_X10_fraction (d + 7) [.ref 93, .int m, .int x, .int y, .int 1] E0 I J (fun r I' J' => r = some (.long (f_frac 1 T m x y).1) ∧ MP (f_frac 1 T m x y).2 I' J' ∧ Fr1 I I' J J') := by
  refine Sp.of (lo := [some (.ref 93), some (.int m), some (.int x), some (.int y), some (.int 1), none, none]) rfl (fun Q hQ => ?_)
  have w1 := W.1.1
  have w2 := W.1.2.1
  have wb := Wc_12 W.1
  refine Ez.blk B_X10_fraction_0 (lo' := [some (.ref 93), some (.int m), some (.int x), some (.int y), some (.int 1), none, none]) (st' := [.int m]) (I' := I) (J' := J) (Ps := []) rfl trivial ?_
  refine Ez.callS (As := [.int m]) (rest := []) kn_X10_isDepth ml_10_165 sm_X10_isDepth (by decide +kernel) rfl rfl (Nat.le_of_ble_eq_true rfl) (Nat.le_of_ble_eq_true rfl) (s_isDepth _ E0 I J m) (fun r I1 J1 hq => ?_)
  obtain ⟨rfl, rfl, rfl⟩ := hq
  refine Ez.z_if_eq (off := 29) (tgt := 33) (by decide +kernel) (by decide) (fun h => ?_) (fun h => ?_)
  · refine Ez.blk B_X10_fraction_33 (lo' := [some (.ref 93), some (.int m), some (.int x), some (.int y), some (.int 1), none, none]) (st' := [.long (-9223372036854775808)]) (I' := I1) (J' := J1) (Ps := []) rfl trivial ?_
    exact Ez.lret rfl (by decide +kernel) (hQ _ _ _ (by unfold f_frac; rw [if_neg (fun q => h q.1.1)]; exact ⟨rfl, hP, fun _ _ => ⟨rfl, rfl⟩⟩))
  · obtain ⟨n, hn0, hn, rfl, hnc⟩ := in_of (lo := 0) (hi := 15) (by omega) h (by omega)
    refine Ez.blk B_X10_fraction_7 (lo' := [some (.ref 93), some (.int (nI n)), some (.int x), some (.int y), some (.int 1), none, none]) (st' := [.int (nI n), .ref 93]) (I' := I1) (J' := J1) (Ps := []) rfl trivial ?_
    refine Ez.callV (As := [.int (nI n)]) (b := 93) (rest := []) kn_X10_scale ml_10_128 im_X10_scale se_X10_scale rfl (by decide +kernel) rfl rfl (Nat.le_of_ble_eq_true rfl) (Nat.le_of_ble_eq_true rfl) o_93 (s_scale _ I1 J1 T.1 hP.1 W.1 n (by omega)) (fun r I2 J2 hq => ?_)
    obtain ⟨rfl, rfl, rfl⟩ := hq
    refine Ez.blk B_X10_fraction_12 (lo' := [some (.ref 93), some (.int (nI n)), some (.int x), some (.int y), some (.int 1), none, none]) (st' := [.int (lg_cmp (lN (scl T.1 n)) 0)]) (I' := I2) (J' := J2) (Ps := []) rfl trivial ?_
    refine Ez.lif_eq (off := 19) (tgt := 33) (by decide +kernel) (by decide) (fun h2 => ?_) (fun h2 => ?_)
    · have h2 := (scl_z W.1 hn).mp h2
      have g99 := @gdp_99 T.1
      refine Ez.blk B_X10_fraction_33 (lo' := [some (.ref 93), some (.int (nI n)), some (.int x), some (.int y), some (.int 1), none, none]) (st' := [.long (-9223372036854775808)]) (I' := I2) (J' := J2) (Ps := []) rfl trivial ?_
      exact Ez.lret rfl (by decide +kernel) (hQ _ _ _ (by unfold f_frac; rw [if_neg (fun q => h2 ((nI_leI (by omega) (by omega)).mp q.1.2))]; exact ⟨rfl, hP, fun _ _ => ⟨rfl, rfl⟩⟩))
    · have h2 : n ≤ gdp T.1 := Classical.not_not.mp (fun q => h2 ((scl_z W.1 hn).mpr q))
      have hpw := gdp_ok h2
      have hM : isM T (nI n) := ⟨h, nI_le h2 (by have := @gdp_99 T.1; omega)⟩
      refine Ez.blk B_X10_fraction_17 (lo' := [some (.ref 93), some (.int (nI n)), some (.int x), some (.int y), some (.int 1), none, none]) (st' := [.int x, .ref 93]) (I' := I2) (J' := J2) (Ps := []) rfl trivial ?_
      refine Ez.callV (As := [.int x]) (b := 93) (rest := []) kn_X10_isState ml_10_103 im_X10_isState se_X10_isState rfl (by decide +kernel) rfl rfl (Nat.le_of_ble_eq_true rfl) (Nat.le_of_ble_eq_true rfl) o_93 (s_isState _ I2 J2 (T.1 0) (hP.1 0 (by decide)) W.1.1 x) (fun r I3 J3 hq => ?_)
      obtain ⟨rfl, rfl, rfl⟩ := hq
      refine Ez.z_if_eq (off := 11) (tgt := 33) (by decide +kernel) (by decide) (fun h3 => ?_) (fun h3 => ?_)
      · refine Ez.blk B_X10_fraction_33 (lo' := [some (.ref 93), some (.int (nI n)), some (.int x), some (.int y), some (.int 1), none, none]) (st' := [.long (-9223372036854775808)]) (I' := I3) (J' := J3) (Ps := []) rfl trivial ?_
        exact Ez.lret rfl (by decide +kernel) (hQ _ _ _ (by unfold f_frac; rw [if_neg (fun q => h3 q.2.1)]; exact ⟨rfl, hP, fun _ _ => ⟨rfl, rfl⟩⟩))
      · refine Ez.blk B_X10_fraction_25 (lo' := [some (.ref 93), some (.int (nI n)), some (.int x), some (.int y), some (.int 1), none, none]) (st' := [.int y, .ref 93]) (I' := I3) (J' := J3) (Ps := []) rfl trivial ?_
        refine Ez.callV (As := [.int y]) (b := 93) (rest := []) kn_X10_isState ml_10_103 im_X10_isState se_X10_isState rfl (by decide +kernel) rfl rfl (Nat.le_of_ble_eq_true rfl) (Nat.le_of_ble_eq_true rfl) o_93 (s_isState _ I3 J3 (T.1 0) (hP.1 0 (by decide)) W.1.1 y) (fun r I4 J4 hq => ?_)
        obtain ⟨rfl, rfl, rfl⟩ := hq
        refine Ez.z_if_ne (off := 7) (tgt := 37) (by decide +kernel) (by decide) (fun h4 => ?_) (fun h4 => ?_)
        · obtain ⟨i, hi, rfl, hic⟩ := st_of (by omega) h3
          obtain ⟨j, hj, rfl, hjc⟩ := st_of (by omega) h4
          refine Ez.blk B_X10_fraction_37 (lo' := [some (.ref 93), some (.int (nI n)), some (.int (nI i)), some (.int (nI j)), some (.int 1), none, none]) (st' := [.int (nI n), .ref 93]) (I' := I4) (J' := J4) (Ps := []) rfl trivial ?_
          refine Ez.callV (As := [.int (nI n)]) (b := 93) (rest := []) kn_X10_computeDistances ml_10_170 im_X10_computeDistances se_X10_computeDistances rfl (by decide +kernel) rfl rfl (Nat.le_of_ble_eq_true rfl) (Nat.le_of_ble_eq_true rfl) o_93 (s_comp _ I4 J4 T.1 hP.1 W.1 n hn hpw) (fun r I5 J5 hq => ?_)
          obtain ⟨rfl, k1, k2⟩ := hq
          have P5 := MP_M hP (FrM_T k2)
          have F5 := Fr1_M (FrM_T k2)
          have db : ∀ a b, a < T.1 0 → b < T.1 0 → J5 98 (6 * a + b) = lN (dst T.1 n a b) ∧ dst T.1 n a b ≤ 1000000000000000 := fun a b ha hb => ⟨k1 a b ha hb, dst_b W.1 hpw (Nat.le_refl _) ha hb⟩
          have sc := scl_ok W.1 hpw (Nat.le_refl n)
          have pw : 0 < (T.1 3 * T.1 1) ^ n := Nat.pow_pos (unit_b W.1).1
          have dij := (db i j hi hj).2
          refine Ez.blk B_X10_fraction_42 (lo' := [some (.ref 93), some (.int (nI n)), some (.int (nI i)), some (.int (nI j)), some (.int 1), none, none]) (st' := [.int (nI j), .int (nI i), .ref 93]) (I' := I5) (J' := J5) (Ps := []) rfl trivial ?_
          refine Ez.callV (As := [.int (nI i), .int (nI j)]) (b := 93) (rest := []) kn_X10_d ml_10_138 im_X10_d se_X10_d rfl (by decide +kernel) rfl rfl (Nat.le_of_ble_eq_true rfl) (Nat.le_of_ble_eq_true rfl) o_93 (s_d _ I5 J5 (T.1 0) (dst T.1 n) w1.2 db i j hi hj) (fun r I6 J6 hq => ?_)
          obtain ⟨rfl, rfl, rfl⟩ := hq
          rw [← lN_z]
          refine Ez.blk B_X10_fraction_48 (lo' := [some (.ref 93), some (.int (nI n)), some (.int (nI i)), some (.int (nI j)), some (.int 1), none, none]) (st' := [.int (nI n), .ref 93, .long (lN (dst T.1 n i j))]) (I' := I6) (J' := J6) (Ps := []) rfl trivial ?_
          refine Ez.callV (As := [.int (nI n)]) (b := 93) (rest := [.long (lN (dst T.1 n i j))]) kn_X10_scale ml_10_128 im_X10_scale se_X10_scale rfl (by decide +kernel) rfl rfl (Nat.le_of_ble_eq_true rfl) (Nat.le_of_ble_eq_true rfl) o_93 (s_scale _ I6 J6 T.1 P5.1 W.1 n (by omega)) (fun r I7 J7 hq => ?_)
          obtain ⟨rfl, rfl, rfl⟩ := hq
          rw [sc]
          refine Ez.callS (As := [.long (lN (dst T.1 n i j)), .long (lN ((T.1 3 * T.1 1) ^ n))]) (rest := []) kn_X10_divisor ml_10_174 sm_X10_divisor (by decide +kernel) rfl rfl (Nat.le_of_ble_eq_true rfl) (Nat.le_of_ble_eq_true rfl) (s_divisor _ I7 J7 (dst T.1 n i j) ((T.1 3 * T.1 1) ^ n) dij hpw) (fun r I8 J8 hq => ?_)
          obtain ⟨rfl, rfl, rfl⟩ := hq
          have gp : 0 < Nat.gcd (dst T.1 n i j) ((T.1 3 * T.1 1) ^ n) := Nat.gcd_pos_of_pos_right _ pw
          have gl : Nat.gcd (dst T.1 n i j) ((T.1 3 * T.1 1) ^ n) ≤ 1000000000000000 := Nat.le_trans (Nat.le_of_dvd pw (Nat.gcd_dvd_right _ _)) hpw
          have gz : ¬ lN (Nat.gcd (dst T.1 n i j) ((T.1 3 * T.1 1) ^ n)) = 0 := fun q => absurd ((lN_0i (by omega)).mp q) (by omega)
          refine Ez.blk B_X10_fraction_56 (lo' := [some (.ref 93), some (.int (nI n)), some (.int (nI i)), some (.int (nI j)), some (.int 1), some (.long (lN (Nat.gcd (dst T.1 n i j) ((T.1 3 * T.1 1) ^ n)))), none]) (st' := [.int 1]) (I' := I8) (J' := J8) (Ps := []) rfl trivial ?_
          refine Ez.n_if_eq (off := 12) (tgt := 72) (by decide +kernel) (by decide) (a := 1) rfl (by omega) (fun gg => absurd gg (by decide)) (fun gg => ?_)
          refine Ez.blk B_X10_fraction_63 (lo' := [some (.ref 93), some (.int (nI n)), some (.int (nI i)), some (.int (nI j)), some (.int 1), some (.long (lN (Nat.gcd (dst T.1 n i j) ((T.1 3 * T.1 1) ^ n)))), none]) (st' := [.int (nI j), .int (nI i), .ref 93]) (I' := I8) (J' := J8) (Ps := []) rfl trivial ?_
          refine Ez.callV (As := [.int (nI i), .int (nI j)]) (b := 93) (rest := []) kn_X10_d ml_10_138 im_X10_d se_X10_d rfl (by decide +kernel) rfl rfl (Nat.le_of_ble_eq_true rfl) (Nat.le_of_ble_eq_true rfl) o_93 (s_d _ I8 J8 (T.1 0) (dst T.1 n) w1.2 db i j hi hj) (fun r I9 J9 hq => ?_)
          obtain ⟨rfl, rfl, rfl⟩ := hq
          rw [← lN_z]
          refine Ez.blk B_X10_fraction_69 (lo' := [some (.ref 93), some (.int (nI n)), some (.int (nI i)), some (.int (nI j)), some (.int 1), some (.long (lN (Nat.gcd (dst T.1 n i j) ((T.1 3 * T.1 1) ^ n)))), none]) (st' := [.long (lN (dst T.1 n i j))]) (I' := I9) (J' := J9) (Ps := []) rfl trivial ?_
          refine Ez.blk B_X10_fraction_77 (lo' := [some (.ref 93), some (.int (nI n)), some (.int (nI i)), some (.int (nI j)), some (.int 1), some (.long (lN (Nat.gcd (dst T.1 n i j) ((T.1 3 * T.1 1) ^ n)))), none]) (st' := [.long ((lN (dst T.1 n i j)) / (lN (Nat.gcd (dst T.1 n i j) ((T.1 3 * T.1 1) ^ n))))]) (I' := I9) (J' := J9) (Ps := [¬ (lN (Nat.gcd (dst T.1 n i j) ((T.1 3 * T.1 1) ^ n))) = 0]) rfl gz ?_
          rw [lN_div (by omega) gp (by omega)]
          exact Ez.lret rfl (by decide +kernel) (hQ _ _ _ (by unfold f_frac; rw [if_pos ⟨hM, h3, h4⟩, hnc, hic, hjc]; exact ⟨rfl, P5, F5⟩))
        · refine Ez.blk B_X10_fraction_33 (lo' := [some (.ref 93), some (.int (nI n)), some (.int x), some (.int y), some (.int 1), none, none]) (st' := [.long (-9223372036854775808)]) (I' := I4) (J' := J4) (Ps := []) rfl trivial ?_
          exact Ez.lret rfl (by decide +kernel) (hQ _ _ _ (by unfold f_frac; rw [if_neg (fun q => h4 q.2.2)]; exact ⟨rfl, hP, fun _ _ => ⟨rfl, rfl⟩⟩))
theorem s_frac0 (d : Nat) (I : aI) (J : aJ) (T : TS) (W : WT T) (hP : MP T I J) (m x y : Int32) : Sp m_X10_fraction (d + 7) [.ref 93, .int m, .int x, .int y, .int 0] E0 I J (fun r I' J' => r = some (.long (f_frac 0 T m x y).1) ∧ MP (f_frac 0 T m x y).2 I' J' ∧ Fr1 I I' J J') := by
  refine Sp.of (lo := [some (.ref 93), some (.int m), some (.int x), some (.int y), some (.int 0), none, none]) rfl (fun Q hQ => ?_)
  have w1 := W.1.1
  have w2 := W.1.2.1
  have wb := Wc_12 W.1
  refine Ez.blk B_X10_fraction_0 (lo' := [some (.ref 93), some (.int m), some (.int x), some (.int y), some (.int 0), none, none]) (st' := [.int m]) (I' := I) (J' := J) (Ps := []) rfl trivial ?_
  refine Ez.callS (As := [.int m]) (rest := []) kn_X10_isDepth ml_10_165 sm_X10_isDepth (by decide +kernel) rfl rfl (Nat.le_of_ble_eq_true rfl) (Nat.le_of_ble_eq_true rfl) (s_isDepth _ E0 I J m) (fun r I1 J1 hq => ?_)
  obtain ⟨rfl, rfl, rfl⟩ := hq
  refine Ez.z_if_eq (off := 29) (tgt := 33) (by decide +kernel) (by decide) (fun h => ?_) (fun h => ?_)
  · refine Ez.blk B_X10_fraction_33 (lo' := [some (.ref 93), some (.int m), some (.int x), some (.int y), some (.int 0), none, none]) (st' := [.long (-9223372036854775808)]) (I' := I1) (J' := J1) (Ps := []) rfl trivial ?_
    exact Ez.lret rfl (by decide +kernel) (hQ _ _ _ (by unfold f_frac; rw [if_neg (fun q => h q.1.1)]; exact ⟨rfl, hP, fun _ _ => ⟨rfl, rfl⟩⟩))
  · obtain ⟨n, hn0, hn, rfl, hnc⟩ := in_of (lo := 0) (hi := 15) (by omega) h (by omega)
    refine Ez.blk B_X10_fraction_7 (lo' := [some (.ref 93), some (.int (nI n)), some (.int x), some (.int y), some (.int 0), none, none]) (st' := [.int (nI n), .ref 93]) (I' := I1) (J' := J1) (Ps := []) rfl trivial ?_
    refine Ez.callV (As := [.int (nI n)]) (b := 93) (rest := []) kn_X10_scale ml_10_128 im_X10_scale se_X10_scale rfl (by decide +kernel) rfl rfl (Nat.le_of_ble_eq_true rfl) (Nat.le_of_ble_eq_true rfl) o_93 (s_scale _ I1 J1 T.1 hP.1 W.1 n (by omega)) (fun r I2 J2 hq => ?_)
    obtain ⟨rfl, rfl, rfl⟩ := hq
    refine Ez.blk B_X10_fraction_12 (lo' := [some (.ref 93), some (.int (nI n)), some (.int x), some (.int y), some (.int 0), none, none]) (st' := [.int (lg_cmp (lN (scl T.1 n)) 0)]) (I' := I2) (J' := J2) (Ps := []) rfl trivial ?_
    refine Ez.lif_eq (off := 19) (tgt := 33) (by decide +kernel) (by decide) (fun h2 => ?_) (fun h2 => ?_)
    · have h2 := (scl_z W.1 hn).mp h2
      have g99 := @gdp_99 T.1
      refine Ez.blk B_X10_fraction_33 (lo' := [some (.ref 93), some (.int (nI n)), some (.int x), some (.int y), some (.int 0), none, none]) (st' := [.long (-9223372036854775808)]) (I' := I2) (J' := J2) (Ps := []) rfl trivial ?_
      exact Ez.lret rfl (by decide +kernel) (hQ _ _ _ (by unfold f_frac; rw [if_neg (fun q => h2 ((nI_leI (by omega) (by omega)).mp q.1.2))]; exact ⟨rfl, hP, fun _ _ => ⟨rfl, rfl⟩⟩))
    · have h2 : n ≤ gdp T.1 := Classical.not_not.mp (fun q => h2 ((scl_z W.1 hn).mpr q))
      have hpw := gdp_ok h2
      have hM : isM T (nI n) := ⟨h, nI_le h2 (by have := @gdp_99 T.1; omega)⟩
      refine Ez.blk B_X10_fraction_17 (lo' := [some (.ref 93), some (.int (nI n)), some (.int x), some (.int y), some (.int 0), none, none]) (st' := [.int x, .ref 93]) (I' := I2) (J' := J2) (Ps := []) rfl trivial ?_
      refine Ez.callV (As := [.int x]) (b := 93) (rest := []) kn_X10_isState ml_10_103 im_X10_isState se_X10_isState rfl (by decide +kernel) rfl rfl (Nat.le_of_ble_eq_true rfl) (Nat.le_of_ble_eq_true rfl) o_93 (s_isState _ I2 J2 (T.1 0) (hP.1 0 (by decide)) W.1.1 x) (fun r I3 J3 hq => ?_)
      obtain ⟨rfl, rfl, rfl⟩ := hq
      refine Ez.z_if_eq (off := 11) (tgt := 33) (by decide +kernel) (by decide) (fun h3 => ?_) (fun h3 => ?_)
      · refine Ez.blk B_X10_fraction_33 (lo' := [some (.ref 93), some (.int (nI n)), some (.int x), some (.int y), some (.int 0), none, none]) (st' := [.long (-9223372036854775808)]) (I' := I3) (J' := J3) (Ps := []) rfl trivial ?_
        exact Ez.lret rfl (by decide +kernel) (hQ _ _ _ (by unfold f_frac; rw [if_neg (fun q => h3 q.2.1)]; exact ⟨rfl, hP, fun _ _ => ⟨rfl, rfl⟩⟩))
      · refine Ez.blk B_X10_fraction_25 (lo' := [some (.ref 93), some (.int (nI n)), some (.int x), some (.int y), some (.int 0), none, none]) (st' := [.int y, .ref 93]) (I' := I3) (J' := J3) (Ps := []) rfl trivial ?_
        refine Ez.callV (As := [.int y]) (b := 93) (rest := []) kn_X10_isState ml_10_103 im_X10_isState se_X10_isState rfl (by decide +kernel) rfl rfl (Nat.le_of_ble_eq_true rfl) (Nat.le_of_ble_eq_true rfl) o_93 (s_isState _ I3 J3 (T.1 0) (hP.1 0 (by decide)) W.1.1 y) (fun r I4 J4 hq => ?_)
        obtain ⟨rfl, rfl, rfl⟩ := hq
        refine Ez.z_if_ne (off := 7) (tgt := 37) (by decide +kernel) (by decide) (fun h4 => ?_) (fun h4 => ?_)
        · obtain ⟨i, hi, rfl, hic⟩ := st_of (by omega) h3
          obtain ⟨j, hj, rfl, hjc⟩ := st_of (by omega) h4
          refine Ez.blk B_X10_fraction_37 (lo' := [some (.ref 93), some (.int (nI n)), some (.int (nI i)), some (.int (nI j)), some (.int 0), none, none]) (st' := [.int (nI n), .ref 93]) (I' := I4) (J' := J4) (Ps := []) rfl trivial ?_
          refine Ez.callV (As := [.int (nI n)]) (b := 93) (rest := []) kn_X10_computeDistances ml_10_170 im_X10_computeDistances se_X10_computeDistances rfl (by decide +kernel) rfl rfl (Nat.le_of_ble_eq_true rfl) (Nat.le_of_ble_eq_true rfl) o_93 (s_comp _ I4 J4 T.1 hP.1 W.1 n hn hpw) (fun r I5 J5 hq => ?_)
          obtain ⟨rfl, k1, k2⟩ := hq
          have P5 := MP_M hP (FrM_T k2)
          have F5 := Fr1_M (FrM_T k2)
          have db : ∀ a b, a < T.1 0 → b < T.1 0 → J5 98 (6 * a + b) = lN (dst T.1 n a b) ∧ dst T.1 n a b ≤ 1000000000000000 := fun a b ha hb => ⟨k1 a b ha hb, dst_b W.1 hpw (Nat.le_refl _) ha hb⟩
          have sc := scl_ok W.1 hpw (Nat.le_refl n)
          have pw : 0 < (T.1 3 * T.1 1) ^ n := Nat.pow_pos (unit_b W.1).1
          have dij := (db i j hi hj).2
          refine Ez.blk B_X10_fraction_42 (lo' := [some (.ref 93), some (.int (nI n)), some (.int (nI i)), some (.int (nI j)), some (.int 0), none, none]) (st' := [.int (nI j), .int (nI i), .ref 93]) (I' := I5) (J' := J5) (Ps := []) rfl trivial ?_
          refine Ez.callV (As := [.int (nI i), .int (nI j)]) (b := 93) (rest := []) kn_X10_d ml_10_138 im_X10_d se_X10_d rfl (by decide +kernel) rfl rfl (Nat.le_of_ble_eq_true rfl) (Nat.le_of_ble_eq_true rfl) o_93 (s_d _ I5 J5 (T.1 0) (dst T.1 n) w1.2 db i j hi hj) (fun r I6 J6 hq => ?_)
          obtain ⟨rfl, rfl, rfl⟩ := hq
          rw [← lN_z]
          refine Ez.blk B_X10_fraction_48 (lo' := [some (.ref 93), some (.int (nI n)), some (.int (nI i)), some (.int (nI j)), some (.int 0), none, none]) (st' := [.int (nI n), .ref 93, .long (lN (dst T.1 n i j))]) (I' := I6) (J' := J6) (Ps := []) rfl trivial ?_
          refine Ez.callV (As := [.int (nI n)]) (b := 93) (rest := [.long (lN (dst T.1 n i j))]) kn_X10_scale ml_10_128 im_X10_scale se_X10_scale rfl (by decide +kernel) rfl rfl (Nat.le_of_ble_eq_true rfl) (Nat.le_of_ble_eq_true rfl) o_93 (s_scale _ I6 J6 T.1 P5.1 W.1 n (by omega)) (fun r I7 J7 hq => ?_)
          obtain ⟨rfl, rfl, rfl⟩ := hq
          rw [sc]
          refine Ez.callS (As := [.long (lN (dst T.1 n i j)), .long (lN ((T.1 3 * T.1 1) ^ n))]) (rest := []) kn_X10_divisor ml_10_174 sm_X10_divisor (by decide +kernel) rfl rfl (Nat.le_of_ble_eq_true rfl) (Nat.le_of_ble_eq_true rfl) (s_divisor _ I7 J7 (dst T.1 n i j) ((T.1 3 * T.1 1) ^ n) dij hpw) (fun r I8 J8 hq => ?_)
          obtain ⟨rfl, rfl, rfl⟩ := hq
          have gp : 0 < Nat.gcd (dst T.1 n i j) ((T.1 3 * T.1 1) ^ n) := Nat.gcd_pos_of_pos_right _ pw
          have gl : Nat.gcd (dst T.1 n i j) ((T.1 3 * T.1 1) ^ n) ≤ 1000000000000000 := Nat.le_trans (Nat.le_of_dvd pw (Nat.gcd_dvd_right _ _)) hpw
          have gz : ¬ lN (Nat.gcd (dst T.1 n i j) ((T.1 3 * T.1 1) ^ n)) = 0 := fun q => absurd ((lN_0i (by omega)).mp q) (by omega)
          refine Ez.blk B_X10_fraction_56 (lo' := [some (.ref 93), some (.int (nI n)), some (.int (nI i)), some (.int (nI j)), some (.int 0), some (.long (lN (Nat.gcd (dst T.1 n i j) ((T.1 3 * T.1 1) ^ n)))), none]) (st' := [.int 0]) (I' := I8) (J' := J8) (Ps := []) rfl trivial ?_
          refine Ez.n_if_eq (off := 12) (tgt := 72) (by decide +kernel) (by decide) (a := 0) rfl (by omega) (fun gg => ?_) (fun gg => absurd rfl gg)
          refine Ez.blk B_X10_fraction_72 (lo' := [some (.ref 93), some (.int (nI n)), some (.int (nI i)), some (.int (nI j)), some (.int 0), some (.long (lN (Nat.gcd (dst T.1 n i j) ((T.1 3 * T.1 1) ^ n)))), none]) (st' := [.int (nI n), .ref 93]) (I' := I8) (J' := J8) (Ps := []) rfl trivial ?_
          refine Ez.callV (As := [.int (nI n)]) (b := 93) (rest := []) kn_X10_scale ml_10_128 im_X10_scale se_X10_scale rfl (by decide +kernel) rfl rfl (Nat.le_of_ble_eq_true rfl) (Nat.le_of_ble_eq_true rfl) o_93 (s_scale _ I8 J8 T.1 P5.1 W.1 n (by omega)) (fun r I9 J9 hq => ?_)
          obtain ⟨rfl, rfl, rfl⟩ := hq
          rw [sc]
          refine Ez.blk B_X10_fraction_77 (lo' := [some (.ref 93), some (.int (nI n)), some (.int (nI i)), some (.int (nI j)), some (.int 0), some (.long (lN (Nat.gcd (dst T.1 n i j) ((T.1 3 * T.1 1) ^ n)))), none]) (st' := [.long ((lN ((T.1 3 * T.1 1) ^ n)) / (lN (Nat.gcd (dst T.1 n i j) ((T.1 3 * T.1 1) ^ n))))]) (I' := I9) (J' := J9) (Ps := [¬ (lN (Nat.gcd (dst T.1 n i j) ((T.1 3 * T.1 1) ^ n))) = 0]) rfl gz ?_
          rw [lN_div (by omega) gp (by omega)]
          exact Ez.lret rfl (by decide +kernel) (hQ _ _ _ (by unfold f_frac; rw [if_pos ⟨hM, h3, h4⟩, hnc, hic, hjc]; exact ⟨rfl, P5, F5⟩))
        · refine Ez.blk B_X10_fraction_33 (lo' := [some (.ref 93), some (.int (nI n)), some (.int x), some (.int y), some (.int 0), none, none]) (st' := [.long (-9223372036854775808)]) (I' := I4) (J' := J4) (Ps := []) rfl trivial ?_
          exact Ez.lret rfl (by decide +kernel) (hQ _ _ _ (by unfold f_frac; rw [if_neg (fun q => h4 q.2.2)]; exact ⟨rfl, hP, fun _ _ => ⟨rfl, rfl⟩⟩))
theorem m_num (d : Nat) (I : aI) (J : aJ) (T : TS) (W : WT T) (hP : MP T I J) (m x y : Int32) : Sp m_X10_distanceNumerator (d + 8) [.ref 93, .int m, .int x, .int y] E0 I J (fun r I' J' => r = some (.long (f_frac 1 T m x y).1) ∧ MP (f_frac 1 T m x y).2 I' J' ∧ Fr1 I I' J J') := by
  refine Sp.of (lo := [some (.ref 93), some (.int m), some (.int x), some (.int y)]) rfl (fun Q hQ => ?_)
  refine Ez.blk B_X10_distanceNumerator_0 (lo' := [some (.ref 93), some (.int m), some (.int x), some (.int y)]) (st' := [.int 1, .int y, .int x, .int m, .ref 93]) (I' := I) (J' := J) (Ps := []) rfl trivial ?_
  refine Ez.callV (As := [.int m, .int x, .int y, .int 1]) (b := 93) (rest := []) kn_X10_fraction ml_10_178 im_X10_fraction se_X10_fraction rfl (by decide +kernel) rfl rfl (Nat.le_of_ble_eq_true rfl) (Nat.le_of_ble_eq_true rfl) o_93 (s_frac1 _ I J T W hP m x y) (fun r I1 J1 hq => ?_)
  obtain ⟨rfl, k1, k2⟩ := hq
  exact Ez.lret rfl (by decide +kernel) (hQ _ _ _ ⟨rfl, k1, k2⟩)
theorem m_den (d : Nat) (I : aI) (J : aJ) (T : TS) (W : WT T) (hP : MP T I J) (m x y : Int32) : Sp m_X10_distanceDenominator (d + 8) [.ref 93, .int m, .int x, .int y] E0 I J (fun r I' J' => r = some (.long (f_frac 0 T m x y).1) ∧ MP (f_frac 0 T m x y).2 I' J' ∧ Fr1 I I' J J') := by
  refine Sp.of (lo := [some (.ref 93), some (.int m), some (.int x), some (.int y)]) rfl (fun Q hQ => ?_)
  refine Ez.blk B_X10_distanceDenominator_0 (lo' := [some (.ref 93), some (.int m), some (.int x), some (.int y)]) (st' := [.int 0, .int y, .int x, .int m, .ref 93]) (I' := I) (J' := J) (Ps := []) rfl trivial ?_
  refine Ez.callV (As := [.int m, .int x, .int y, .int 0]) (b := 93) (rest := []) kn_X10_fraction ml_10_178 im_X10_fraction se_X10_fraction rfl (by decide +kernel) rfl rfl (Nat.le_of_ble_eq_true rfl) (Nat.le_of_ble_eq_true rfl) o_93 (s_frac0 _ I J T W hP m x y) (fun r I1 J1 hq => ?_)
  obtain ⟨rfl, k1, k2⟩ := hq
  exact Ez.lret rfl (by decide +kernel) (hQ _ _ _ ⟨rfl, k1, k2⟩)
theorem s_isPM (d : Nat) (I : aI) (J : aJ) (T : TS) (W : WT T) (hP : MP T I J) (p : Int32) : Sp m_X10_isPair (d + 3) [.ref 93, .int p] E0 I J (fun r I' J' => r = some (.int (zb (isP T p))) ∧ I' = I ∧ J' = J) := by
  refine Sp.of (lo := [some (.ref 93), some (.int p)]) rfl (fun Q hQ => ?_)
  refine Ez.blk B_X10_isPair_0 (lo' := [some (.ref 93), some (.int p)]) (st' := [.int p]) (I' := I) (J' := J) (Ps := []) rfl trivial ?_
  refine Ez.if_lt (off := 29) (tgt := 30) (by decide +kernel) (by decide) (fun h => ?_) (fun h => ?_)
  · refine Ez.blk B_X10_isPair_30 (lo' := [some (.ref 93), some (.int p)]) (st' := [.int 0]) (I' := I) (J' := J) (Ps := []) rfl trivial ?_
    exact Ez.zret rfl (Or.inl rfl) (by decide +kernel) (hQ _ _ _ ⟨by rw [zb_f (p := isP T p) (fun q => i32_nlt.mpr q.1 h)], rfl, rfl⟩)
  · refine Ez.blk B_X10_isPair_4 (lo' := [some (.ref 93), some (.int p)]) (st' := [.int (p / 10), .ref 93]) (I' := I) (J' := J) (Ps := [¬ 10 = 0]) rfl (show ¬ (10 : Int32) = 0 by decide) ?_
    refine Ez.callV (As := [.int (p / 10)]) (b := 93) (rest := []) kn_X10_isState ml_10_103 im_X10_isState se_X10_isState rfl (by decide +kernel) rfl rfl (Nat.le_of_ble_eq_true rfl) (Nat.le_of_ble_eq_true rfl) o_93 (s_isState _ I J (T.1 0) (hP.1 0 (by decide)) W.1.1 (p / 10)) (fun r I1 J1 hq => ?_)
    obtain ⟨rfl, rfl, rfl⟩ := hq
    refine Ez.z_if_eq (off := 18) (tgt := 30) (by decide +kernel) (by decide) (fun h2 => ?_) (fun h2 => ?_)
    · refine Ez.blk B_X10_isPair_30 (lo' := [some (.ref 93), some (.int p)]) (st' := [.int 0]) (I' := I1) (J' := J1) (Ps := []) rfl trivial ?_
      exact Ez.zret rfl (Or.inl rfl) (by decide +kernel) (hQ _ _ _ ⟨by rw [zb_f (p := isP T p) (fun q => h2 q.2.1)], rfl, rfl⟩)
    · refine Ez.blk B_X10_isPair_15 (lo' := [some (.ref 93), some (.int p)]) (st' := [.int (p - p / 10 * 10), .ref 93]) (I' := I1) (J' := J1) (Ps := [¬ 10 = 0]) rfl (show ¬ (10 : Int32) = 0 by decide) ?_
      refine Ez.callV (As := [.int (p - p / 10 * 10)]) (b := 93) (rest := []) kn_X10_isState ml_10_103 im_X10_isState se_X10_isState rfl (by decide +kernel) rfl rfl (Nat.le_of_ble_eq_true rfl) (Nat.le_of_ble_eq_true rfl) o_93 (s_isState _ I1 J1 (T.1 0) (hP.1 0 (by decide)) W.1.1 (p - p / 10 * 10)) (fun r I2 J2 hq => ?_)
      obtain ⟨rfl, rfl, rfl⟩ := hq
      refine Ez.z_if_eq (off := 7) (tgt := 30) (by decide +kernel) (by decide) (fun h3 => ?_) (fun h3 => ?_)
      · refine Ez.blk B_X10_isPair_30 (lo' := [some (.ref 93), some (.int p)]) (st' := [.int 0]) (I' := I2) (J' := J2) (Ps := []) rfl trivial ?_
        exact Ez.zret rfl (Or.inl rfl) (by decide +kernel) (hQ _ _ _ ⟨by rw [zb_f (p := isP T p) (fun q => h3 q.2.2)], rfl, rfl⟩)
      · refine Ez.blk B_X10_isPair_26 (lo' := [some (.ref 93), some (.int p)]) (st' := [.int 1]) (I' := I2) (J' := J2) (Ps := []) rfl trivial ?_
        exact Ez.zret rfl (Or.inr rfl) (by decide +kernel) (hQ _ _ _ ⟨by rw [zb_t (p := isP T p) ⟨i32_nlt.mp h, h2, h3⟩], rfl, rfl⟩)
theorem m_cmp (d : Nat) (I : aI) (J : aJ) (T : TS) (W : WT T) (hP : MP T I J) (m p q : Int32) : Sp m_X10_compareDistances (d + 7) [.ref 93, .int m, .int p, .int q] E0 I J (fun r I' J' => r = some (.int (f_cmp T m p q).1) ∧ MP (f_cmp T m p q).2 I' J' ∧ Fr1 I I' J J') := by
  refine Sp.of (lo := [some (.ref 93), some (.int m), some (.int p), some (.int q), none, none, none, none]) rfl (fun Q hQ => ?_)
  have w1 := W.1.1
  have w2 := W.1.2.1
  have wb := Wc_12 W.1
  refine Ez.blk B_X10_compareDistances_0 (lo' := [some (.ref 93), some (.int m), some (.int p), some (.int q), none, none, none, none]) (st' := [.int m]) (I' := I) (J' := J) (Ps := []) rfl trivial ?_
  refine Ez.callS (As := [.int m]) (rest := []) kn_X10_isDepth ml_10_165 sm_X10_isDepth (by decide +kernel) rfl rfl (Nat.le_of_ble_eq_true rfl) (Nat.le_of_ble_eq_true rfl) (s_isDepth _ E0 I J m) (fun r I1 J1 hq => ?_)
  obtain ⟨rfl, rfl, rfl⟩ := hq
  refine Ez.z_if_ne (off := 5) (tgt := 9) (by decide +kernel) (by decide) (fun h => ?_) (fun h => ?_)
  · obtain ⟨n, hn0, hn, rfl, hnc⟩ := in_of (lo := 0) (hi := 15) (by omega) h (by omega)
    refine Ez.blk B_X10_compareDistances_9 (lo' := [some (.ref 93), some (.int (nI n)), some (.int p), some (.int q), none, none, none, none]) (st' := [.int p, .ref 93]) (I' := I1) (J' := J1) (Ps := []) rfl trivial ?_
    refine Ez.callV (As := [.int p]) (b := 93) (rest := []) kn_X10_isPair ml_10_182 im_X10_isPair se_X10_isPair rfl (by decide +kernel) rfl rfl (Nat.le_of_ble_eq_true rfl) (Nat.le_of_ble_eq_true rfl) o_93 (s_isPM _ I1 J1 T W hP p) (fun r I2 J2 hq => ?_)
    obtain ⟨rfl, rfl, rfl⟩ := hq
    refine Ez.z_if_eq (off := 11) (tgt := 25) (by decide +kernel) (by decide) (fun h2 => ?_) (fun h2 => ?_)
    · refine Ez.blk B_X10_compareDistances_25 (lo' := [some (.ref 93), some (.int (nI n)), some (.int p), some (.int q), none, none, none, none]) (st' := [.int (-2)]) (I' := I2) (J' := J2) (Ps := []) rfl trivial ?_
      exact Ez.iret rfl (by decide +kernel) (hQ _ _ _ (by unfold f_cmp; rw [if_pos h, if_neg (fun z => h2 z.1)]; exact ⟨rfl, hP, fun _ _ => ⟨rfl, rfl⟩⟩))
    · refine Ez.blk B_X10_compareDistances_17 (lo' := [some (.ref 93), some (.int (nI n)), some (.int p), some (.int q), none, none, none, none]) (st' := [.int q, .ref 93]) (I' := I2) (J' := J2) (Ps := []) rfl trivial ?_
      refine Ez.callV (As := [.int q]) (b := 93) (rest := []) kn_X10_isPair ml_10_182 im_X10_isPair se_X10_isPair rfl (by decide +kernel) rfl rfl (Nat.le_of_ble_eq_true rfl) (Nat.le_of_ble_eq_true rfl) o_93 (s_isPM _ I2 J2 T W hP q) (fun r I3 J3 hq => ?_)
      obtain ⟨rfl, rfl, rfl⟩ := hq
      refine Ez.z_if_ne (off := 6) (tgt := 28) (by decide +kernel) (by decide) (fun h3 => ?_) (fun h3 => ?_)
      · refine Ez.blk B_X10_compareDistances_28 (lo' := [some (.ref 93), some (.int (nI n)), some (.int p), some (.int q), none, none, none, none]) (st' := [.int (nI n), .ref 93]) (I' := I3) (J' := J3) (Ps := []) rfl trivial ?_
        refine Ez.callV (As := [.int (nI n)]) (b := 93) (rest := []) kn_X10_scale ml_10_128 im_X10_scale se_X10_scale rfl (by decide +kernel) rfl rfl (Nat.le_of_ble_eq_true rfl) (Nat.le_of_ble_eq_true rfl) o_93 (s_scale _ I3 J3 T.1 hP.1 W.1 n (by omega)) (fun r I4 J4 hq => ?_)
        obtain ⟨rfl, rfl, rfl⟩ := hq
        refine Ez.blk B_X10_compareDistances_33 (lo' := [some (.ref 93), some (.int (nI n)), some (.int p), some (.int q), none, none, none, none]) (st' := [.int (lg_cmp (lN (scl T.1 n)) 0)]) (I' := I4) (J' := J4) (Ps := []) rfl trivial ?_
        refine Ez.lif_ne (off := 6) (tgt := 41) (by decide +kernel) (by decide) (fun h9 => ?_) (fun h9 => ?_)
        · have h9 : n ≤ gdp T.1 := Classical.not_not.mp (fun q => h9 ((scl_z W.1 hn).mpr q))
          have hpw := gdp_ok h9
          have hM : nI n ≤ nI (gdp T.1) := nI_le h9 (by have := @gdp_99 T.1; omega)
          obtain ⟨a, ha, rfl, hac, ha1, ha2⟩ := isP_of h2 w1.2
          obtain ⟨b, hb, rfl, hbc, hb1, hb2⟩ := isP_of h3 w1.2
          refine Ez.blk B_X10_compareDistances_41 (lo' := [some (.ref 93), some (.int (nI n)), some (.int (nI a)), some (.int (nI b)), none, none, none, none]) (st' := [.int (nI n), .ref 93]) (I' := I4) (J' := J4) (Ps := []) rfl trivial ?_
          refine Ez.callV (As := [.int (nI n)]) (b := 93) (rest := []) kn_X10_computeDistances ml_10_170 im_X10_computeDistances se_X10_computeDistances rfl (by decide +kernel) rfl rfl (Nat.le_of_ble_eq_true rfl) (Nat.le_of_ble_eq_true rfl) o_93 (s_comp _ I4 J4 T.1 hP.1 W.1 n hn hpw) (fun r I5 J5 hq => ?_)
          obtain ⟨rfl, k1, k2⟩ := hq
          have P5 := MP_M hP (FrM_T k2)
          have F5 := Fr1_M (FrM_T k2)
          have db : ∀ a b, a < T.1 0 → b < T.1 0 → J5 98 (6 * a + b) = lN (dst T.1 n a b) ∧ dst T.1 n a b ≤ 1000000000000000 := fun a b ha hb => ⟨k1 a b ha hb, dst_b W.1 hpw (Nat.le_refl _) ha hb⟩
          have d1 := (db (a / 10) (a % 10) ha1 ha2).2
          have d2 := (db (b / 10) (b % 10) hb1 hb2).2
          refine Ez.blk B_X10_compareDistances_46 (lo' := [some (.ref 93), some (.int (nI n)), some (.int (nI a)), some (.int (nI b)), none, none, none, none]) (st' := [.int (nI a - nI a / 10 * 10), .int (nI a / 10), .ref 93]) (I' := I5) (J' := J5) (Ps := [¬ 10 = 0, ¬ 10 = 0]) rfl ⟨(show ¬ (10 : Int32) = 0 by decide), (show ¬ (10 : Int32) = 0 by decide)⟩ ?_
          rw [show nI a - nI a / 10 * 10 = nI (a % 10) from eq_rem (a := a) (b := 10) rfl rfl (by omega) (by omega) (by omega), show nI a / 10 = nI (a / 10) from eq_div (a := a) (b := 10) rfl rfl (by omega) (by omega) (by omega)]
          refine Ez.callV (As := [.int (nI (a / 10)), .int (nI (a % 10))]) (b := 93) (rest := []) kn_X10_d ml_10_138 im_X10_d se_X10_d rfl (by decide +kernel) rfl rfl (Nat.le_of_ble_eq_true rfl) (Nat.le_of_ble_eq_true rfl) o_93 (s_d _ I5 J5 (T.1 0) (dst T.1 n) w1.2 db (a / 10) (a % 10) ha1 ha2) (fun r I6 J6 hq => ?_)
          obtain ⟨rfl, rfl, rfl⟩ := hq
          rw [← lN_z]
          refine Ez.blk B_X10_compareDistances_58 (lo' := [some (.ref 93), some (.int (nI n)), some (.int (nI a)), some (.int (nI b)), some (.long (lN (dpr T.1 n a))), none, none, none]) (st' := [.int (nI b - nI b / 10 * 10), .int (nI b / 10), .ref 93]) (I' := I6) (J' := J6) (Ps := [¬ 10 = 0, ¬ 10 = 0]) rfl ⟨(show ¬ (10 : Int32) = 0 by decide), (show ¬ (10 : Int32) = 0 by decide)⟩ ?_
          rw [show nI b - nI b / 10 * 10 = nI (b % 10) from eq_rem (a := b) (b := 10) rfl rfl (by omega) (by omega) (by omega), show nI b / 10 = nI (b / 10) from eq_div (a := b) (b := 10) rfl rfl (by omega) (by omega) (by omega)]
          refine Ez.callV (As := [.int (nI (b / 10)), .int (nI (b % 10))]) (b := 93) (rest := []) kn_X10_d ml_10_138 im_X10_d se_X10_d rfl (by decide +kernel) rfl rfl (Nat.le_of_ble_eq_true rfl) (Nat.le_of_ble_eq_true rfl) o_93 (s_d _ I6 J6 (T.1 0) (dst T.1 n) w1.2 db (b / 10) (b % 10) hb1 hb2) (fun r I7 J7 hq => ?_)
          obtain ⟨rfl, rfl, rfl⟩ := hq
          rw [← lN_z]
          refine Ez.blk B_X10_compareDistances_72 (lo' := [some (.ref 93), some (.int (nI n)), some (.int (nI a)), some (.int (nI b)), some (.long (lN (dpr T.1 n a))), none, some (.long (lN (dpr T.1 n b))), none]) (st' := [.int (lg_cmp (lN (dpr T.1 n a)) (lN (dpr T.1 n b)))]) (I' := I7) (J' := J7) (Ps := []) rfl trivial ?_
          have e1 : dpr T.1 n a ≤ 1000000000000000 := d1
          have e2 : dpr T.1 n b ≤ 1000000000000000 := d2
          refine Ez.lif_ge (off := 7) (tgt := 86) (by decide +kernel) (by decide) (fun g => ?_) (fun g => ?_)
          · have g : dpr T.1 n b ≤ dpr T.1 n a := (pk_lLE (by omega) (by omega)).mp g
            refine Ez.blk B_X10_compareDistances_86 (lo' := [some (.ref 93), some (.int (nI n)), some (.int (nI a)), some (.int (nI b)), some (.long (lN (dpr T.1 n a))), none, some (.long (lN (dpr T.1 n b))), none]) (st' := [.int (lg_cmp (lN (dpr T.1 n a)) (lN (dpr T.1 n b)))]) (I' := I7) (J' := J7) (Ps := []) rfl trivial ?_
            refine Ez.lif_ne (off := 7) (tgt := 98) (by decide +kernel) (by decide) (fun g2 => ?_) (fun g2 => ?_)
            · refine Ez.blk B_X10_compareDistances_98 (lo' := [some (.ref 93), some (.int (nI n)), some (.int (nI a)), some (.int (nI b)), some (.long (lN (dpr T.1 n a))), none, some (.long (lN (dpr T.1 n b))), none]) (st' := [.int 2]) (I' := I7) (J' := J7) (Ps := []) rfl trivial ?_
              exact Ez.iret rfl (by decide +kernel) (hQ _ _ _ (by unfold f_cmp; rw [if_pos h, if_pos ⟨h2, h3⟩, if_pos hM, hnc, hac, hbc]; unfold cmp3; rw [if_neg (by omega), if_neg (fun z => g2 (by rw [z]))]; exact ⟨rfl, P5, F5⟩))
            · refine Ez.blk B_X10_compareDistances_94 (lo' := [some (.ref 93), some (.int (nI n)), some (.int (nI a)), some (.int (nI b)), some (.long (lN (dpr T.1 n a))), none, some (.long (lN (dpr T.1 n b))), none]) (st' := [.int 1]) (I' := I7) (J' := J7) (Ps := []) rfl trivial ?_
              exact Ez.iret rfl (by decide +kernel) (hQ _ _ _ (by unfold f_cmp; rw [if_pos h, if_pos ⟨h2, h3⟩, if_pos hM, hnc, hac, hbc]; unfold cmp3; rw [if_neg (by omega), if_pos ((pk_lEQ (by omega) (by omega)).mp g2)]; exact ⟨rfl, P5, F5⟩))
          · refine Ez.blk B_X10_compareDistances_82 (lo' := [some (.ref 93), some (.int (nI n)), some (.int (nI a)), some (.int (nI b)), some (.long (lN (dpr T.1 n a))), none, some (.long (lN (dpr T.1 n b))), none]) (st' := [.int 0]) (I' := I7) (J' := J7) (Ps := []) rfl trivial ?_
            exact Ez.iret rfl (by decide +kernel) (hQ _ _ _ (by unfold f_cmp; rw [if_pos h, if_pos ⟨h2, h3⟩, if_pos hM, hnc, hac, hbc]; unfold cmp3; rw [if_pos (by have := mt (pk_lLE (a := dpr T.1 n b) (b := dpr T.1 n a) (by omega) (by omega)).mpr g; omega)]; exact ⟨rfl, P5, F5⟩))
        · have h9 := (scl_z W.1 hn).mp h9
          have g99 := @gdp_99 T.1
          have hM : ¬ nI n ≤ nI (gdp T.1) := fun q => h9 ((nI_leI (by omega) (by omega)).mp q)
          refine Ez.blk B_X10_compareDistances_38 (lo' := [some (.ref 93), some (.int (nI n)), some (.int p), some (.int q), none, none, none, none]) (st' := [.int (-4)]) (I' := I4) (J' := J4) (Ps := []) rfl trivial ?_
          exact Ez.iret rfl (by decide +kernel) (hQ _ _ _ (by unfold f_cmp; rw [if_pos h, if_pos ⟨h2, h3⟩, if_neg hM]; exact ⟨rfl, hP, fun _ _ => ⟨rfl, rfl⟩⟩))
      · refine Ez.blk B_X10_compareDistances_25 (lo' := [some (.ref 93), some (.int (nI n)), some (.int p), some (.int q), none, none, none, none]) (st' := [.int (-2)]) (I' := I3) (J' := J3) (Ps := []) rfl trivial ?_
        exact Ez.iret rfl (by decide +kernel) (hQ _ _ _ (by unfold f_cmp; rw [if_pos h, if_neg (fun z => h3 z.2)]; exact ⟨rfl, hP, fun _ _ => ⟨rfl, rfl⟩⟩))
  · refine Ez.blk B_X10_compareDistances_7 (lo' := [some (.ref 93), some (.int m), some (.int p), some (.int q), none, none, none, none]) (st' := [.int (-1)]) (I' := I1) (J' := J1) (Ps := []) rfl trivial ?_
    exact Ez.iret rfl (by decide +kernel) (hQ _ _ _ (by unfold f_cmp; rw [if_neg h]; exact ⟨rfl, hP, fun _ _ => ⟨rfl, rfl⟩⟩))
theorem m_cpl (d : Nat) (I : aI) (J : aJ) (T : TS) (W : WT T) (hP : MP T I J) (m p x y : Int32) : Sp m_X10_coupling (d + 7) [.ref 93, .int m, .int p, .int x, .int y] E0 I J (fun r I' J' => r = some (.int (f_cpl T m p x y).1) ∧ MP (f_cpl T m p x y).2 I' J' ∧ Fr1 I I' J J') := by
  refine Sp.of (lo := [some (.ref 93), some (.int m), some (.int p), some (.int x), some (.int y)]) rfl (fun Q hQ => ?_)
  have w1 := W.1.1
  have w2 := W.1.2.1
  have wb := Wc_12 W.1
  refine Ez.blk B_X10_coupling_0 (lo' := [some (.ref 93), some (.int m), some (.int p), some (.int x), some (.int y)]) (st' := [.int m]) (I' := I) (J' := J) (Ps := []) rfl trivial ?_
  refine Ez.callS (As := [.int m]) (rest := []) kn_X10_isDepth ml_10_165 sm_X10_isDepth (by decide +kernel) rfl rfl (Nat.le_of_ble_eq_true rfl) (Nat.le_of_ble_eq_true rfl) (s_isDepth _ E0 I J m) (fun r I1 J1 hq => ?_)
  obtain ⟨rfl, rfl, rfl⟩ := hq
  refine Ez.z_if_ne (off := 5) (tgt := 9) (by decide +kernel) (by decide) (fun h => ?_) (fun h => ?_)
  · obtain ⟨n, hn0, hn, rfl, hnc⟩ := in_of (lo := 0) (hi := 15) (by omega) h (by omega)
    refine Ez.blk B_X10_coupling_9 (lo' := [some (.ref 93), some (.int (nI n)), some (.int p), some (.int x), some (.int y)]) (st' := [.int p, .ref 93]) (I' := I1) (J' := J1) (Ps := []) rfl trivial ?_
    refine Ez.callV (As := [.int p]) (b := 93) (rest := []) kn_X10_isPair ml_10_182 im_X10_isPair se_X10_isPair rfl (by decide +kernel) rfl rfl (Nat.le_of_ble_eq_true rfl) (Nat.le_of_ble_eq_true rfl) o_93 (s_isPM _ I1 J1 T W hP p) (fun r I2 J2 hq => ?_)
    obtain ⟨rfl, rfl, rfl⟩ := hq
    refine Ez.z_if_eq (off := 20) (tgt := 34) (by decide +kernel) (by decide) (fun h2 => ?_) (fun h2 => ?_)
    · refine Ez.blk B_X10_coupling_34 (lo' := [some (.ref 93), some (.int (nI n)), some (.int p), some (.int x), some (.int y)]) (st' := [.int (-2)]) (I' := I2) (J' := J2) (Ps := []) rfl trivial ?_
      exact Ez.iret rfl (by decide +kernel) (hQ _ _ _ (by unfold f_cpl; rw [if_pos h, if_neg (fun z => h2 z.1)]; exact ⟨rfl, hP, fun _ _ => ⟨rfl, rfl⟩⟩))
    · refine Ez.blk B_X10_coupling_17 (lo' := [some (.ref 93), some (.int (nI n)), some (.int p), some (.int x), some (.int y)]) (st' := [.int x, .ref 93]) (I' := I2) (J' := J2) (Ps := []) rfl trivial ?_
      refine Ez.callV (As := [.int x]) (b := 93) (rest := []) kn_X10_isState ml_10_103 im_X10_isState se_X10_isState rfl (by decide +kernel) rfl rfl (Nat.le_of_ble_eq_true rfl) (Nat.le_of_ble_eq_true rfl) o_93 (s_isState _ I2 J2 (T.1 0) (hP.1 0 (by decide)) W.1.1 x) (fun r I3 J3 hq => ?_)
      obtain ⟨rfl, rfl, rfl⟩ := hq
      refine Ez.z_if_eq (off := 12) (tgt := 34) (by decide +kernel) (by decide) (fun h3 => ?_) (fun h3 => ?_)
      · refine Ez.blk B_X10_coupling_34 (lo' := [some (.ref 93), some (.int (nI n)), some (.int p), some (.int x), some (.int y)]) (st' := [.int (-2)]) (I' := I3) (J' := J3) (Ps := []) rfl trivial ?_
        exact Ez.iret rfl (by decide +kernel) (hQ _ _ _ (by unfold f_cpl; rw [if_pos h, if_neg (fun z => h3 z.2.1)]; exact ⟨rfl, hP, fun _ _ => ⟨rfl, rfl⟩⟩))
      · refine Ez.blk B_X10_coupling_25 (lo' := [some (.ref 93), some (.int (nI n)), some (.int p), some (.int x), some (.int y)]) (st' := [.int y, .ref 93]) (I' := I3) (J' := J3) (Ps := []) rfl trivial ?_
        refine Ez.callV (As := [.int y]) (b := 93) (rest := []) kn_X10_isState ml_10_103 im_X10_isState se_X10_isState rfl (by decide +kernel) rfl rfl (Nat.le_of_ble_eq_true rfl) (Nat.le_of_ble_eq_true rfl) o_93 (s_isState _ I3 J3 (T.1 0) (hP.1 0 (by decide)) W.1.1 y) (fun r I4 J4 hq => ?_)
        obtain ⟨rfl, rfl, rfl⟩ := hq
        refine Ez.z_if_ne (off := 6) (tgt := 37) (by decide +kernel) (by decide) (fun h4 => ?_) (fun h4 => ?_)
        · refine Ez.blk B_X10_coupling_37 (lo' := [some (.ref 93), some (.int (nI n)), some (.int p), some (.int x), some (.int y)]) (st' := [.int (nI n), .ref 93]) (I' := I4) (J' := J4) (Ps := []) rfl trivial ?_
          refine Ez.callV (As := [.int (nI n)]) (b := 93) (rest := []) kn_X10_scale ml_10_128 im_X10_scale se_X10_scale rfl (by decide +kernel) rfl rfl (Nat.le_of_ble_eq_true rfl) (Nat.le_of_ble_eq_true rfl) o_93 (s_scale _ I4 J4 T.1 hP.1 W.1 n (by omega)) (fun r I5 J5 hq => ?_)
          obtain ⟨rfl, rfl, rfl⟩ := hq
          refine Ez.blk B_X10_coupling_42 (lo' := [some (.ref 93), some (.int (nI n)), some (.int p), some (.int x), some (.int y)]) (st' := [.int (lg_cmp (lN (scl T.1 n)) 0)]) (I' := I5) (J' := J5) (Ps := []) rfl trivial ?_
          refine Ez.lif_ne (off := 6) (tgt := 50) (by decide +kernel) (by decide) (fun h9 => ?_) (fun h9 => ?_)
          · have h9 : n ≤ gdp T.1 := Classical.not_not.mp (fun q => h9 ((scl_z W.1 hn).mpr q))
            have hpw := gdp_ok h9
            have hM : nI n ≤ nI (gdp T.1) := nI_le h9 (by have := @gdp_99 T.1; omega)
            obtain ⟨a, ha, rfl, hac, ha1, ha2⟩ := isP_of h2 w1.2
            obtain ⟨i, hi, rfl, hic⟩ := st_of (by omega) h3
            obtain ⟨j, hj, rfl, hjc⟩ := st_of (by omega) h4
            refine Ez.blk B_X10_coupling_50 (lo' := [some (.ref 93), some (.int (nI n)), some (.int (nI a)), some (.int (nI i)), some (.int (nI j))]) (st' := [.int (nI n), .ref 93]) (I' := I5) (J' := J5) (Ps := []) rfl trivial ?_
            refine Ez.callV (As := [.int (nI n)]) (b := 93) (rest := []) kn_X10_computeDistances ml_10_170 im_X10_computeDistances se_X10_computeDistances rfl (by decide +kernel) rfl rfl (Nat.le_of_ble_eq_true rfl) (Nat.le_of_ble_eq_true rfl) o_93 (s_comp _ I5 J5 T.1 hP.1 W.1 n hn hpw) (fun r I6 J6 hq => ?_)
            obtain ⟨rfl, k1, k2⟩ := hq
            have P5 := MP_M hP (FrM_T k2)
            have F5 := Fr1_M (FrM_T k2)
            have db : ∀ a b, a < T.1 0 → b < T.1 0 → J6 98 (6 * a + b) = lN (dst T.1 n a b) ∧ dst T.1 n a b ≤ 1000000000000000 := fun a b ha hb => ⟨k1 a b ha hb, dst_b W.1 hpw (Nat.le_refl _) ha hb⟩
            refine Ez.blk B_X10_coupling_55 (lo' := [some (.ref 93), some (.int (nI n)), some (.int (nI a)), some (.int (nI i)), some (.int (nI j))]) (st' := [.int (nI a - nI a / 10 * 10), .int (nI a / 10), .ref 93]) (I' := I6) (J' := J6) (Ps := [¬ 10 = 0, ¬ 10 = 0]) rfl ⟨(show ¬ (10 : Int32) = 0 by decide), (show ¬ (10 : Int32) = 0 by decide)⟩ ?_
            rw [show nI a - nI a / 10 * 10 = nI (a % 10) from eq_rem (a := a) (b := 10) rfl rfl (by omega) (by omega) (by omega), show nI a / 10 = nI (a / 10) from eq_div (a := a) (b := 10) rfl rfl (by omega) (by omega) (by omega)]
            refine Ez.callV (As := [.int (nI (a / 10)), .int (nI (a % 10))]) (b := 93) (rest := []) kn_X10_canonicalCoupling ml_10_187 im_X10_canonicalCoupling se_X10_canonicalCoupling rfl (by decide +kernel) rfl rfl (Nat.le_of_ble_eq_true rfl) (Nat.le_of_ble_eq_true rfl) o_93 (s_canonM _ I6 J6 T.1 P5.1 W.1 (dst T.1 n) db (a / 10) (a % 10) ha1 ha2) (fun r I7 J7 hq => ?_)
            obtain ⟨rfl, ⟨F, f1, f2⟩, f3, f4⟩ := hq
            have fm : FrM I6 I7 J6 J7 := ⟨fun q h1 _ => f3 q (by omega) (by omega) (by omega), fun k _ => by rw [f3 93 (by decide) (by decide) (by decide)], fun q h1 => f4 q (by omega)⟩
            have P7 := MP_M P5 fm
            have F7 := Fr1_M (FrM_tr (FrM_T k2) fm)
            refine Ez.blk B_X10_coupling_67 (lo' := [some (.ref 93), some (.int (nI n)), some (.int (nI a)), some (.int (nI i)), some (.int (nI j))]) (st' := [.int (nI j), .int (nI i), .ref 93]) (I' := I7) (J' := J7) (Ps := []) rfl trivial ?_
            refine Ez.callV (As := [.int (nI i), .int (nI j)]) (b := 93) (rest := []) kn_X10_f ml_10_141 im_X10_f se_X10_f rfl (by decide +kernel) rfl rfl (Nat.le_of_ble_eq_true rfl) (Nat.le_of_ble_eq_true rfl) o_93 (s_f _ I7 J7 F f1 i j (by omega) (by omega)) (fun r I8 J8 hq => ?_)
            obtain ⟨rfl, rfl, rfl⟩ := hq
            rw [show F (i * 6 + j) = ccp T.1 n (a / 10) (a % 10) i j from ccp_eq f2 i j hi hj]
            exact Ez.iret rfl (by decide +kernel) (hQ _ _ _ (by unfold f_cpl; rw [if_pos h, if_pos ⟨h2, h3, h4⟩, if_pos hM, hnc, hac, hic, hjc]; exact ⟨rfl, P7, F7⟩))
          · have h9 := (scl_z W.1 hn).mp h9
            have g99 := @gdp_99 T.1
            have hM : ¬ nI n ≤ nI (gdp T.1) := fun q => h9 ((nI_leI (by omega) (by omega)).mp q)
            refine Ez.blk B_X10_coupling_47 (lo' := [some (.ref 93), some (.int (nI n)), some (.int p), some (.int x), some (.int y)]) (st' := [.int (-4)]) (I' := I5) (J' := J5) (Ps := []) rfl trivial ?_
            exact Ez.iret rfl (by decide +kernel) (hQ _ _ _ (by unfold f_cpl; rw [if_pos h, if_pos ⟨h2, h3, h4⟩, if_neg hM]; exact ⟨rfl, hP, fun _ _ => ⟨rfl, rfl⟩⟩))
        · refine Ez.blk B_X10_coupling_34 (lo' := [some (.ref 93), some (.int (nI n)), some (.int p), some (.int x), some (.int y)]) (st' := [.int (-2)]) (I' := I4) (J' := J4) (Ps := []) rfl trivial ?_
          exact Ez.iret rfl (by decide +kernel) (hQ _ _ _ (by unfold f_cpl; rw [if_pos h, if_neg (fun z => h4 z.2.2)]; exact ⟨rfl, hP, fun _ _ => ⟨rfl, rfl⟩⟩))
  · refine Ez.blk B_X10_coupling_7 (lo' := [some (.ref 93), some (.int m), some (.int p), some (.int x), some (.int y)]) (st' := [.int (-1)]) (I' := I1) (J' := J1) (Ps := []) rfl trivial ?_
    exact Ez.iret rfl (by decide +kernel) (hQ _ _ _ (by unfold f_cpl; rw [if_neg h]; exact ⟨rfl, hP, fun _ _ => ⟨rfl, rfl⟩⟩))
theorem m_far (d : Nat) (I : aI) (J : aJ) (T : TS) (W : WT T) (hP : MP T I J) (m : Int32) : Sp m_X10_farthestPair (d + 7) [.ref 93, .int m] E0 I J (fun r I' J' => r = some (.int (f_far T m).1) ∧ MP (f_far T m).2 I' J' ∧ Fr1 I I' J J') := by
  refine Sp.of (lo := [some (.ref 93), some (.int m), none, none, none, none, none]) rfl (fun Q hQ => ?_)
  have w1 := W.1.1
  have w2 := W.1.2.1
  have wb := Wc_12 W.1
  refine Ez.blk B_X10_farthestPair_0 (lo' := [some (.ref 93), some (.int m), none, none, none, none, none]) (st' := [.int m]) (I' := I) (J' := J) (Ps := []) rfl trivial ?_
  refine Ez.callS (As := [.int m]) (rest := []) kn_X10_isDepth ml_10_165 sm_X10_isDepth (by decide +kernel) rfl rfl (Nat.le_of_ble_eq_true rfl) (Nat.le_of_ble_eq_true rfl) (s_isDepth _ E0 I J m) (fun r I1 J1 hq => ?_)
  obtain ⟨rfl, rfl, rfl⟩ := hq
  refine Ez.z_if_ne (off := 5) (tgt := 9) (by decide +kernel) (by decide) (fun h => ?_) (fun h => ?_)
  · obtain ⟨n, hn0, hn, rfl, hnc⟩ := in_of (lo := 0) (hi := 15) (by omega) h (by omega)
    refine Ez.blk B_X10_farthestPair_9 (lo' := [some (.ref 93), some (.int (nI n)), none, none, none, none, none]) (st' := [.int (nI n), .ref 93]) (I' := I1) (J' := J1) (Ps := []) rfl trivial ?_
    refine Ez.callV (As := [.int (nI n)]) (b := 93) (rest := []) kn_X10_scale ml_10_128 im_X10_scale se_X10_scale rfl (by decide +kernel) rfl rfl (Nat.le_of_ble_eq_true rfl) (Nat.le_of_ble_eq_true rfl) o_93 (s_scale _ I1 J1 T.1 hP.1 W.1 n (by omega)) (fun r I2 J2 hq => ?_)
    obtain ⟨rfl, rfl, rfl⟩ := hq
    refine Ez.blk B_X10_farthestPair_14 (lo' := [some (.ref 93), some (.int (nI n)), none, none, none, none, none]) (st' := [.int (lg_cmp (lN (scl T.1 n)) 0)]) (I' := I2) (J' := J2) (Ps := []) rfl trivial ?_
    refine Ez.lif_ne (off := 6) (tgt := 22) (by decide +kernel) (by decide) (fun h9 => ?_) (fun h9 => ?_)
    · have h9 : n ≤ gdp T.1 := Classical.not_not.mp (fun q => h9 ((scl_z W.1 hn).mpr q))
      have hpw := gdp_ok h9
      have hM : nI n ≤ nI (gdp T.1) := nI_le h9 (by have := @gdp_99 T.1; omega)
      refine Ez.blk B_X10_farthestPair_22 (lo' := [some (.ref 93), some (.int (nI n)), none, none, none, none, none]) (st' := [.int (nI n), .ref 93]) (I' := I2) (J' := J2) (Ps := []) rfl trivial ?_
      refine Ez.callV (As := [.int (nI n)]) (b := 93) (rest := []) kn_X10_computeDistances ml_10_170 im_X10_computeDistances se_X10_computeDistances rfl (by decide +kernel) rfl rfl (Nat.le_of_ble_eq_true rfl) (Nat.le_of_ble_eq_true rfl) o_93 (s_comp _ I2 J2 T.1 hP.1 W.1 n hn hpw) (fun r I3 J3 hq => ?_)
      obtain ⟨rfl, k1, k2⟩ := hq
      have P5 := MP_M hP (FrM_T k2)
      have F5 := Fr1_M (FrM_T k2)
      have db : ∀ a b, a < T.1 0 → b < T.1 0 → J3 98 (6 * a + b) = lN (dst T.1 n a b) ∧ dst T.1 n a b ≤ 1000000000000000 := fun a b ha hb => ⟨k1 a b ha hb, dst_b W.1 hpw (Nat.le_refl _) ha hb⟩
      have key : ∀ v : Int32, v = (fout (dst T.1 n) (T.1 0) (T.1 0)).1 → Q (some (.int v)) I3 J3 := fun v e => hQ _ _ _ (by unfold f_far; rw [if_pos h, if_pos hM, hnc, e]; exact ⟨rfl, P5, F5⟩)
      obtain ⟨D, hD⟩ : ∃ D, D = dst T.1 n := ⟨_, rfl⟩
      rw [← hD] at db key
      obtain ⟨N, hN⟩ : ∃ N, N = T.1 0 := ⟨_, rfl⟩
      rw [← hN] at db key w1
      have n3 : I3 94 0 = nI N := by rw [hN]; exact P5.1 0 (by decide)
      have fob := fun i hi => fout_bd (dd := D) (n := N) (fun x y hx hy => (db x y hx hy).2) i hi
      refine Ez.blk B_X10_farthestPair_27 (lo' := [some (.ref 93), some (.int (nI n)), some (.int (-7)), some (.long (-1)), none, some (.int 0), none]) (st' := []) (I' := I3) (J' := J3) (Ps := []) rfl trivial ?_
      have L1 : ∀ i, i ≤ N → True → Ez m_X10_farthestPair (d + 7) 37 [some (.ref 93), some (.int (nI n)), some (.int ((fout D N i).1)), some (.long (zL (fout D N i).2)), none, some (.int (nI i)), none] [] E0 I3 J3 Q := by
        refine for_up ?_ ?_
        · intro _
          refine Ez.blk B_X10_farthestPair_37 (lo' := [some (.ref 93), some (.int (nI n)), some (.int ((fout D N N).1)), some (.long (zL (fout D N N).2)), none, some (.int (nI N)), none]) (st' := [.int (I3 94 0), .int (nI N)]) (I' := I3) (J' := J3) (Ps := [aO E0 93 10 ∧ E0.2.2 93 0 ≠ 0, aAr E0 1 94 0]) rfl ⟨r_93_0, (a_94 (vin (n := 0) rfl (by omega) (by decide)))⟩ ?_
          refine Ez.n_icmp_ge (off := 84) (tgt := 129) (by decide +kernel) (by decide) (a := N) (b := N) rfl n3 (by omega) (by omega) (fun h8 => ?_) (fun h8 => absurd h8 (by omega))
          refine Ez.blk B_X10_farthestPair_129 (lo' := [some (.ref 93), some (.int (nI n)), some (.int ((fout D N N).1)), some (.long (zL (fout D N N).2)), none, some (.int (nI N)), none]) (st' := [.int ((fout D N N).1)]) (I' := I3) (J' := J3) (Ps := []) rfl trivial ?_
          exact Ez.iret rfl (by decide +kernel) (key _ rfl)
        · intro i hin ih _
          refine Ez.blk B_X10_farthestPair_37 (lo' := [some (.ref 93), some (.int (nI n)), some (.int ((fout D N i).1)), some (.long (zL (fout D N i).2)), none, some (.int (nI i)), none]) (st' := [.int (I3 94 0), .int (nI i)]) (I' := I3) (J' := J3) (Ps := [aO E0 93 10 ∧ E0.2.2 93 0 ≠ 0, aAr E0 1 94 0]) rfl ⟨r_93_0, (a_94 (vin (n := 0) rfl (by omega) (by decide)))⟩ ?_
          refine Ez.n_icmp_ge (off := 84) (tgt := 129) (by decide +kernel) (by decide) (a := i) (b := N) rfl n3 (by omega) (by omega) (fun h8 => absurd h8 (by omega)) (fun h8 => ?_)
          refine Ez.blk B_X10_farthestPair_48 (lo' := [some (.ref 93), some (.int (nI n)), some (.int ((fout D N i).1)), some (.long (zL (fout D N i).2)), none, some (.int (nI i)), some (.int (nI i + 1))]) (st' := []) (I' := I3) (J' := J3) (Ps := []) rfl trivial ?_
          rw [show (nI i + 1) = nI (i + 1) from (eq_add (a := i) (b := 1) rfl rfl)]
          have L2 : ∀ j, j ≤ (N - (i + 1)) → True → Ez m_X10_farthestPair (d + 7) 54 [some (.ref 93), some (.int (nI n)), some (.int ((fin1 D i (fout D N i) j).1)), some (.long (zL (fin1 D i (fout D N i) j).2)), none, some (.int (nI i)), some (.int (nI (i + 1 + j)))] [] E0 I3 J3 Q := by
            refine for_up ?_ ?_
            · intro _
              refine Ez.blk B_X10_farthestPair_54 (lo' := [some (.ref 93), some (.int (nI n)), some (.int ((fin1 D i (fout D N i) (N - (i + 1))).1)), some (.long (zL (fin1 D i (fout D N i) (N - (i + 1))).2)), none, some (.int (nI i)), some (.int (nI (i + 1 + (N - (i + 1)))))]) (st' := [.int (I3 94 0), .int (nI (i + 1 + (N - (i + 1))))]) (I' := I3) (J' := J3) (Ps := [aO E0 93 10 ∧ E0.2.2 93 0 ≠ 0, aAr E0 1 94 0]) rfl ⟨r_93_0, (a_94 (vin (n := 0) rfl (by omega) (by decide)))⟩ ?_
              refine Ez.n_icmp_ge (off := 61) (tgt := 123) (by decide +kernel) (by decide) (a := (i + 1 + (N - (i + 1)))) (b := N) rfl n3 (by omega) (by omega) (fun h7 => ?_) (fun h7 => absurd h7 (by omega))
              refine Ez.blk B_X10_farthestPair_123 (lo' := [some (.ref 93), some (.int (nI n)), some (.int ((fin1 D i (fout D N i) (N - (i + 1))).1)), some (.long (zL (fin1 D i (fout D N i) (N - (i + 1))).2)), none, some (.int (nI i + 1)), some (.int (nI (i + 1 + (N - (i + 1)))))]) (st' := []) (I' := I3) (J' := J3) (Ps := []) rfl trivial ?_
              rw [show (nI i + 1) = nI (i + 1) from (eq_add (a := i) (b := 1) rfl rfl)]
              refine Ez.drops [6] (lo' := [some (.ref 93), some (.int (nI n)), some (.int ((fin1 D i (fout D N i) (N - (i + 1))).1)), some (.long (zL (fin1 D i (fout D N i) (N - (i + 1))).2)), none, some (.int (nI (i + 1))), none]) rfl ?_
              exact ih trivial
            · intro j hj ih2 _
              have fb := fin_bd (fob i (by omega)) hin (fun x y hx hy => (db x y hx hy).2) j (by omega)
              have dj := (db i (i + 1 + j) hin (by omega)).2
              have fs : fin1 D i (fout D N i) (j + 1) = if (fin1 D i (fout D N i) j).2 < (D i (i + 1 + j) : Int) then (nI (10 * i + (i + 1 + j)), (D i (i + 1 + j) : Int)) else (fin1 D i (fout D N i) j) := rfl
              refine Ez.blk B_X10_farthestPair_54 (lo' := [some (.ref 93), some (.int (nI n)), some (.int ((fin1 D i (fout D N i) j).1)), some (.long (zL (fin1 D i (fout D N i) j).2)), none, some (.int (nI i)), some (.int (nI (i + 1 + j)))]) (st' := [.int (I3 94 0), .int (nI (i + 1 + j))]) (I' := I3) (J' := J3) (Ps := [aO E0 93 10 ∧ E0.2.2 93 0 ≠ 0, aAr E0 1 94 0]) rfl ⟨r_93_0, (a_94 (vin (n := 0) rfl (by omega) (by decide)))⟩ ?_
              refine Ez.n_icmp_ge (off := 61) (tgt := 123) (by decide +kernel) (by decide) (a := (i + 1 + j)) (b := N) rfl n3 (by omega) (by omega) (fun h7 => absurd h7 (by omega)) (fun h7 => ?_)
              refine Ez.blk B_X10_farthestPair_65 (lo' := [some (.ref 93), some (.int (nI n)), some (.int ((fin1 D i (fout D N i) j).1)), some (.long (zL (fin1 D i (fout D N i) j).2)), none, some (.int (nI i)), some (.int (nI (i + 1 + j)))]) (st' := [.int (nI (i + 1 + j)), .int (nI i), .ref 93]) (I' := I3) (J' := J3) (Ps := []) rfl trivial ?_
              refine Ez.callV (As := [.int (nI i), .int (nI (i + 1 + j))]) (b := 93) (rest := []) kn_X10_d ml_10_138 im_X10_d se_X10_d rfl (by decide +kernel) rfl rfl (Nat.le_of_ble_eq_true rfl) (Nat.le_of_ble_eq_true rfl) o_93 (s_d _ I3 J3 N D w1.2 db i (i + 1 + j) hin (by omega)) (fun r I4 J4 hq => ?_)
              obtain ⟨rfl, rfl, rfl⟩ := hq
              refine Ez.blk B_X10_farthestPair_73 (lo' := [some (.ref 93), some (.int (nI n)), some (.int ((fin1 D i (fout D N i) j).1)), some (.long (zL (fin1 D i (fout D N i) j).2)), none, some (.int (nI i)), some (.int (nI (i + 1 + j)))]) (st' := [.int (lg_cmp (zL (D i (i + 1 + j) : Int)) (zL (fin1 D i (fout D N i) j).2))]) (I' := I4) (J' := J4) (Ps := []) rfl trivial ?_
              refine Ez.lif_le (off := 14) (tgt := 89) (by decide +kernel) (by decide) (fun g => ?_) (fun g => ?_)
              · have g : (D i (i + 1 + j) : Int) ≤ (fin1 D i (fout D N i) j).2 := (zL_le (by omega) (by omega)).mp g
                have ef : fin1 D i (fout D N i) (j + 1) = (fin1 D i (fout D N i) j) := by rw [fs, if_neg (by omega)]
                rw [ef] at ih2
                refine Ez.blk B_X10_farthestPair_89 (lo' := [some (.ref 93), some (.int (nI n)), some (.int ((fin1 D i (fout D N i) j).1)), some (.long (zL (fin1 D i (fout D N i) j).2)), none, some (.int (nI i)), some (.int (nI (i + 1 + j)))]) (st' := [.int (nI (i + 1 + j)), .int (nI i), .ref 93]) (I' := I4) (J' := J4) (Ps := []) rfl trivial ?_
                refine Ez.callV (As := [.int (nI i), .int (nI (i + 1 + j))]) (b := 93) (rest := []) kn_X10_d ml_10_138 im_X10_d se_X10_d rfl (by decide +kernel) rfl rfl (Nat.le_of_ble_eq_true rfl) (Nat.le_of_ble_eq_true rfl) o_93 (s_d _ I4 J4 N D w1.2 db i (i + 1 + j) hin (by omega)) (fun r I5 J5 hq => ?_)
                obtain ⟨rfl, rfl, rfl⟩ := hq
                refine Ez.blk B_X10_farthestPair_99 (lo' := [some (.ref 93), some (.int (nI n)), some (.int ((fin1 D i (fout D N i) j).1)), some (.long (zL (fin1 D i (fout D N i) j).2)), none, some (.int (nI i)), some (.int (nI (i + 1 + j)))]) (st' := [.int (lg_cmp (zL (D i (i + 1 + j) : Int)) (zL (fin1 D i (fout D N i) j).2))]) (I' := I5) (J' := J5) (Ps := []) rfl trivial ?_
                refine Ez.lif_le (off := 14) (tgt := 115) (by decide +kernel) (by decide) (fun g2 => ?_) (fun g2 => absurd ((zL_le (by omega) (by omega)).mpr g) g2)
                refine Ez.blk B_X10_farthestPair_115 (lo' := [some (.ref 93), some (.int (nI n)), some (.int ((fin1 D i (fout D N i) j).1)), some (.long (zL (fin1 D i (fout D N i) j).2)), none, some (.int (nI i)), some (.int (nI (i + 1 + j) + 1))]) (st' := []) (I' := I5) (J' := J5) (Ps := []) rfl trivial ?_
                rw [show (nI (i + 1 + j) + 1) = nI (i + 1 + j + 1) from (eq_add (a := (i + 1 + j)) (b := 1) rfl rfl)]
                exact ih2 trivial
              · have g : (fin1 D i (fout D N i) j).2 < (D i (i + 1 + j) : Int) := by have := mt (zL_le (a := (D i (i + 1 + j) : Int)) (b := (fin1 D i (fout D N i) j).2) (by omega) (by omega)).mpr g; omega
                have ef : fin1 D i (fout D N i) (j + 1) = (nI (10 * i + (i + 1 + j)), (D i (i + 1 + j) : Int)) := by rw [fs, if_pos g]
                rw [ef] at ih2
                refine Ez.blk B_X10_farthestPair_78 (lo' := [some (.ref 93), some (.int (nI n)), some (.int ((fin1 D i (fout D N i) j).1)), some (.long (zL (fin1 D i (fout D N i) j).2)), none, some (.int (nI i)), some (.int (nI (i + 1 + j)))]) (st' := [.int ((10 * nI i) + nI (i + 1 + j))]) (I' := I4) (J' := J4) (Ps := []) rfl trivial ?_
                refine Ez.blk B_X10_farthestPair_90 (lo' := [some (.ref 93), some (.int (nI n)), some (.int ((10 * nI i) + nI (i + 1 + j))), some (.long (zL (fin1 D i (fout D N i) j).2)), none, some (.int (nI i)), some (.int (nI (i + 1 + j)))]) (st' := [.int (nI (i + 1 + j)), .int (nI i), .ref 93]) (I' := I4) (J' := J4) (Ps := []) rfl trivial ?_
                rw [show ((10 * nI i) + nI (i + 1 + j)) = nI (10 * i + (i + 1 + j)) from (eq_add (a := (10 * i)) (b := (i + 1 + j)) (eq_mul (a := 10) (b := i) rfl rfl) rfl)]
                refine Ez.callV (As := [.int (nI i), .int (nI (i + 1 + j))]) (b := 93) (rest := []) kn_X10_d ml_10_138 im_X10_d se_X10_d rfl (by decide +kernel) rfl rfl (Nat.le_of_ble_eq_true rfl) (Nat.le_of_ble_eq_true rfl) o_93 (s_d _ I4 J4 N D w1.2 db i (i + 1 + j) hin (by omega)) (fun r I5 J5 hq => ?_)
                obtain ⟨rfl, rfl, rfl⟩ := hq
                refine Ez.blk B_X10_farthestPair_99 (lo' := [some (.ref 93), some (.int (nI n)), some (.int (nI (10 * i + (i + 1 + j)))), some (.long (zL (fin1 D i (fout D N i) j).2)), none, some (.int (nI i)), some (.int (nI (i + 1 + j)))]) (st' := [.int (lg_cmp (zL (D i (i + 1 + j) : Int)) (zL (fin1 D i (fout D N i) j).2))]) (I' := I5) (J' := J5) (Ps := []) rfl trivial ?_
                refine Ez.lif_le (off := 14) (tgt := 115) (by decide +kernel) (by decide) (fun g2 => absurd ((zL_le (by omega) (by omega)).mp g2) (by omega)) (fun g2 => ?_)
                refine Ez.blk B_X10_farthestPair_104 (lo' := [some (.ref 93), some (.int (nI n)), some (.int (nI (10 * i + (i + 1 + j)))), some (.long (zL (fin1 D i (fout D N i) j).2)), none, some (.int (nI i)), some (.int (nI (i + 1 + j)))]) (st' := [.int (nI (i + 1 + j)), .int (nI i), .ref 93]) (I' := I5) (J' := J5) (Ps := []) rfl trivial ?_
                refine Ez.callV (As := [.int (nI i), .int (nI (i + 1 + j))]) (b := 93) (rest := []) kn_X10_d ml_10_138 im_X10_d se_X10_d rfl (by decide +kernel) rfl rfl (Nat.le_of_ble_eq_true rfl) (Nat.le_of_ble_eq_true rfl) o_93 (s_d _ I5 J5 N D w1.2 db i (i + 1 + j) hin (by omega)) (fun r I6 J6 hq => ?_)
                obtain ⟨rfl, rfl, rfl⟩ := hq
                refine Ez.blk B_X10_farthestPair_112 (lo' := [some (.ref 93), some (.int (nI n)), some (.int (nI (10 * i + (i + 1 + j)))), some (.long (zL (fin1 D i (fout D N i) j).2)), none, some (.int (nI i)), some (.int (nI (i + 1 + j)))]) (st' := [.long (zL (D i (i + 1 + j) : Int))]) (I' := I6) (J' := J6) (Ps := []) rfl trivial ?_
                refine Ez.blk B_X10_farthestPair_116 (lo' := [some (.ref 93), some (.int (nI n)), some (.int (nI (10 * i + (i + 1 + j)))), some (.long (zL (D i (i + 1 + j) : Int))), none, some (.int (nI i)), some (.int (nI (i + 1 + j) + 1))]) (st' := []) (I' := I6) (J' := J6) (Ps := []) rfl trivial ?_
                rw [show (nI (i + 1 + j) + 1) = nI (i + 1 + j + 1) from (eq_add (a := (i + 1 + j)) (b := 1) rfl rfl)]
                exact ih2 trivial
          exact L2 0 (by omega) trivial
      exact L1 0 (by omega) trivial
    · have h9 := (scl_z W.1 hn).mp h9
      have g99 := @gdp_99 T.1
      have hM : ¬ nI n ≤ nI (gdp T.1) := fun q => h9 ((nI_leI (by omega) (by omega)).mp q)
      refine Ez.blk B_X10_farthestPair_19 (lo' := [some (.ref 93), some (.int (nI n)), none, none, none, none, none]) (st' := [.int (-4)]) (I' := I2) (J' := J2) (Ps := []) rfl trivial ?_
      exact Ez.iret rfl (by decide +kernel) (hQ _ _ _ (by unfold f_far; rw [if_pos h, if_neg hM]; exact ⟨rfl, hP, fun _ _ => ⟨rfl, rfl⟩⟩))
  · refine Ez.blk B_X10_farthestPair_7 (lo' := [some (.ref 93), some (.int m), none, none, none, none, none]) (st' := [.int (-1)]) (I' := I1) (J' := J1) (Ps := []) rfl trivial ?_
    exact Ez.iret rfl (by decide +kernel) (hQ _ _ _ (by unfold f_far; rw [if_neg h]; exact ⟨rfl, hP, fun _ _ => ⟨rfl, rfl⟩⟩))

/-! DISTANCES: lowest terms -/
theorem lN_ti {n : Nat} (h : n < 9223372036854775808) : (lN n).toInt = (n : Int) := lg_ofNat_toInt (by omega)
theorem lN_div {x y : Nat} (hx : x < 9223372036854775808) (hy : 0 < y) (hy2 : y < 9223372036854775808) : lN x / lN y = lN (x / y) := by
  have h := Nat.div_le_self x y
  refine Int64.toInt_inj.mp ?_
  rw [lg_ldiv_nonneg (by rw [lN_ti hx]; omega) (by rw [lN_ti hy2]; omega), lN_ti hx, lN_ti hy2, lN_ti (by omega)]
  exact (Int.natCast_ediv x y).symm
theorem lN_rem {x y : Nat} (hx : x < 9223372036854775808) (hy : 0 < y) (hy2 : y < 9223372036854775808) : lN x - lN x / lN y * lN y = lN (x % y) := by
  rw [lN_div hx hy hy2, lN_mul, lN_sub (Nat.div_mul_le_self x y)]
  congr 1
  have := Nat.div_add_mod x y
  rw [Nat.mul_comm] at this
  omega
theorem lN_0i {y : Nat} (hy : y < 9223372036854775808) : lN y = 0 ↔ y = 0 := by
  constructor
  · intro h
    have := congrArg Int64.toInt h
    rw [lN_ti hy] at this
    have e : ((0 : Int64)).toInt = 0 := by decide
    omega
  · intro h; rw [h]; rfl
def euq (k x y : Nat) : Prop := k = 0 ∨ (y < x ∧ x * y * 2 ^ (k - 1) ≤ 1000000000000000000000000000000)
theorem euq_s {k x y : Nat} (hx : x ≤ 1000000000000000) (hy : y ≤ 1000000000000000) (h0 : y ≠ 0) (h : euq k x y) : euq (k + 1) y (x % y) := by
  have hm := Nat.mod_lt x (Nat.pos_of_ne_zero h0)
  refine Or.inr ⟨hm, ?_⟩
  rcases h with rfl | ⟨h1, h2⟩
  · rw [show 0 + 1 - 1 = 0 from rfl, Nat.pow_zero, Nat.mul_one]
    exact Nat.le_trans (Nat.mul_le_mul hy (show x % y ≤ 1000000000000000 by omega)) (by decide)
  · by_cases e : k = 0
    · subst e
      rw [show 0 + 1 - 1 = 0 from rfl, Nat.pow_zero, Nat.mul_one]
      exact Nat.le_trans (Nat.mul_le_mul hy (show x % y ≤ 1000000000000000 by omega)) (by decide)
    · rw [show k + 1 - 1 = (k - 1) + 1 by omega, Nat.pow_succ]
      have hd := Nat.div_add_mod x y
      have hq : 1 ≤ x / y := (Nat.one_le_div_iff (Nat.pos_of_ne_zero h0)).mpr (by omega)
      have hq2 : y ≤ y * (x / y) := Nat.le_mul_of_pos_right y hq
      have h3 : 2 * (x % y) ≤ x := by omega
      have h4 : y * (x % y) * (2 ^ (k - 1) * 2) = y * (2 * (x % y)) * 2 ^ (k - 1) := by
        rw [Nat.mul_comm (2 ^ (k - 1)) 2, ← Nat.mul_assoc, Nat.mul_assoc y (x % y) 2, Nat.mul_comm (x % y) 2]
      rw [h4]
      refine Nat.le_trans (Nat.mul_le_mul_right _ (Nat.mul_le_mul_left y h3)) ?_
      rw [Nat.mul_comm y x]
      exact h2
theorem euq_e {x y : Nat} (h : euq 100 x y) : y = 0 := by
  rcases h with h | ⟨h1, h2⟩
  · cases h
  · refine Classical.byContradiction (fun z => ?_)
    have h3 : 2 * 1 ≤ x * y := Nat.mul_le_mul (by omega) (by omega)
    have h4 : 2 * 1 * 2 ^ (100 - 1) ≤ x * y * 2 ^ (100 - 1) := Nat.mul_le_mul_right _ h3
    have h5 := Nat.le_trans h4 h2
    exact absurd h5 (by decide)
theorem s_gcd (d : Nat) (I : aI) (J : aJ) (a b : Nat) (ha : a ≤ 1000000000000000) (hb : b ≤ 1000000000000000) : Sp m_X3_greatestCommonDivisor (d + 1) [.long (lN a), .long (lN b)] E0 I J (fun r I' J' => r = some (.long (lN (Nat.gcd a b))) ∧ I' = I ∧ J' = J) := by
  refine Sp.of (lo := [some (.long (lN a)), none, some (.long (lN b)), none, none, none, none, none, none, none, none]) rfl (fun Q hQ => ?_)
  have L1 : ∀ k, k ≤ 100 → ∀ (x y : Nat), ((x ≤ 1000000000000000 ∧ y ≤ 1000000000000000) ∧ Nat.gcd x y = Nat.gcd a b ∧ euq k x y) → Ez m_X3_greatestCommonDivisor (d + 1) 9 [some (.long (lN a)), none, some (.long (lN b)), none, some (.long (lN x)), none, some (.long (lN y)), none, some (.int (nI k)), none, none] [] E0 I J Q := by
    refine for_up ?_ ?_
    · intro x y hi
      have hy := euq_e hi.2.2
      have hg : x = Nat.gcd a b := by rw [← hi.2.1, hy, Nat.gcd_zero_right]
      refine Ez.blk B_X3_greatestCommonDivisor_9 (lo' := [some (.long (lN a)), none, some (.long (lN b)), none, some (.long (lN x)), none, some (.long (lN y)), none, some (.int (nI 100)), none, none]) (st' := [.int 100, .int (nI 100)]) (I' := I) (J' := J) (Ps := []) rfl trivial ?_
      refine Ez.n_icmp_ge (off := 31) (tgt := 44) (by decide +kernel) (by decide) (a := 100) (b := 100) rfl rfl (by omega) (by omega) (fun h => ?_) (fun h => absurd h (by omega))
      refine Ez.blk B_X3_greatestCommonDivisor_44 (lo' := [some (.long (lN a)), none, some (.long (lN b)), none, some (.long (lN x)), none, some (.long (lN y)), none, some (.int (nI 100)), none, none]) (st' := [.long (lN x)]) (I' := I) (J' := J) (Ps := []) rfl trivial ?_
      exact Ez.lret rfl (by decide +kernel) (hQ _ _ _ ⟨by rw [hg], rfl, rfl⟩)
    · intro k hk ih x y hi
      have h0 := @lN_0i y (by omega)
      refine Ez.blk B_X3_greatestCommonDivisor_9 (lo' := [some (.long (lN a)), none, some (.long (lN b)), none, some (.long (lN x)), none, some (.long (lN y)), none, some (.int (nI k)), none, none]) (st' := [.int 100, .int (nI k)]) (I' := I) (J' := J) (Ps := []) rfl trivial ?_
      refine Ez.n_icmp_ge (off := 31) (tgt := 44) (by decide +kernel) (by decide) (a := k) (b := 100) rfl rfl (by omega) (by omega) (fun h => absurd h (by omega)) (fun h => ?_)
      refine Ez.blk B_X3_greatestCommonDivisor_16 (lo' := [some (.long (lN a)), none, some (.long (lN b)), none, some (.long (lN x)), none, some (.long (lN y)), none, some (.int (nI k)), none, none]) (st' := [.int (lg_cmp (lN y) 0)]) (I' := I) (J' := J) (Ps := []) rfl trivial ?_
      refine Ez.lif_eq (off := 24) (tgt := 44) (by decide +kernel) (by decide) (fun h2 => ?_) (fun h2 => ?_)
      · have hy := h0.mp h2
        have hg : x = Nat.gcd a b := by rw [← hi.2.1, hy, Nat.gcd_zero_right]
        refine Ez.blk B_X3_greatestCommonDivisor_44 (lo' := [some (.long (lN a)), none, some (.long (lN b)), none, some (.long (lN x)), none, some (.long (lN y)), none, some (.int (nI k)), none, none]) (st' := [.long (lN x)]) (I' := I) (J' := J) (Ps := []) rfl trivial ?_
        exact Ez.lret rfl (by decide +kernel) (hQ _ _ _ ⟨by rw [hg], rfl, rfl⟩)
      · have hy : y ≠ 0 := fun z => h2 (h0.mpr z)
        have hm := Nat.mod_lt x (Nat.pos_of_ne_zero hy)
        refine Ez.blk B_X3_greatestCommonDivisor_23 (lo' := [some (.long (lN a)), none, some (.long (lN b)), none, some (.long (lN y)), none, some (.long ((lN x) - (lN x) / (lN y) * (lN y))), none, some (.int (nI k + 1)), some (.long ((lN x) - (lN x) / (lN y) * (lN y))), none]) (st' := []) (I' := I) (J' := J) (Ps := [¬ (lN y) = 0]) rfl h2 ?_
        rw [show (nI k + 1) = nI (k + 1) from (eq_add (a := k) (b := 1) rfl rfl)]
        rw [lN_rem (by omega) (by omega) (by omega)]
        refine Ez.drops [9] (lo' := [some (.long (lN a)), none, some (.long (lN b)), none, some (.long (lN y)), none, some (.long (lN (x % y))), none, some (.int (nI (k + 1))), none, none]) rfl ?_
        exact ih y (x % y) ⟨⟨hi.1.2, by omega⟩, by rw [← hi.2.1, Nat.gcd_comm y, ← Nat.gcd_rec, Nat.gcd_comm], euq_s hi.1.1 hi.1.2 hy hi.2.2⟩
  refine Ez.blk B_X3_greatestCommonDivisor_0 (lo' := [some (.long (lN a)), none, some (.long (lN b)), none, some (.long (lN a)), none, some (.long (lN b)), none, some (.int 0), none, none]) (st' := []) (I' := I) (J' := J) (Ps := []) rfl trivial ?_
  exact L1 0 (by omega) a b ⟨⟨ha, hb⟩, rfl, Or.inl rfl⟩
theorem s_low (d : Nat) (I : aI) (J : aJ) (a s m z : Nat) (ha : a ≤ 1000000000000000) (hs : s ≤ 1000000000000000) (hs1 : 1 ≤ s) (hm : m < 16) (hz : z ≤ 1) (hS : J 73 m = lN s) : Sp m_X3_inLowestTerms (d + 2) [.ref 43, .long (lN a), .int (nI m), .int (nI z)] E0 I J (fun r I' J' => r = some (.long (lN ((if z = 0 then s else a) / Nat.gcd a s))) ∧ I' = I ∧ J' = J) := by
  refine Sp.of (lo := [some (.ref 43), some (.long (lN a)), none, some (.int (nI m)), some (.int (nI z)), none, none, none, none]) rfl (fun Q hQ => ?_)
  have hg := Nat.gcd_pos_of_pos_right a (show 0 < s by omega)
  have hgl := Nat.gcd_le_right a (show 0 < s by omega)
  refine Ez.blk B_X3_inLowestTerms_0 (lo' := [some (.ref 43), some (.long (lN a)), none, some (.int (nI m)), some (.int (nI z)), none, none, none, none]) (st' := [.long (J 73 ((nI m).toNatClampNeg)), .long (lN a)]) (I' := I) (J' := J) (Ps := [aO E0 43 3 ∧ E0.2.2 43 3 ≠ 0, aAr E0 2 73 (nI m)]) rfl ⟨r_43_3, (a_73 (vin (n := m) rfl (by omega) (by decide)))⟩ ?_
  rw [cln (x := nI m) (n := m) rfl (by omega)]
  rw [hS]
  refine Ez.callS (As := [.long (lN a), .long (lN s)]) (rest := []) kn_X3_greatestCommonDivisor ml_3_80 sm_X3_greatestCommonDivisor (by decide +kernel) rfl rfl (Nat.le_of_ble_eq_true rfl) (Nat.le_of_ble_eq_true rfl) (s_gcd _ I J a s ha hs) (fun r I1 J1 hq => ?_)
  obtain ⟨rfl, rfl, rfl⟩ := hq
  generalize Nat.gcd a s = g at *
  have c1 : lN g ≤ 1 ↔ g ≤ 1 := by
    rw [show (1 : Int64) = lN 1 from rfl, lN_z, lN_z, zL_le (by omega) (by decide)]
    omega
  refine Ez.blk B_X3_inLowestTerms_10 (lo' := [some (.ref 43), some (.long (lN a)), none, some (.int (nI m)), some (.int (nI z)), some (.long (lN g)), none, none, none]) (st' := [.int (nI z)]) (I' := I1) (J' := J1) (Ps := []) rfl trivial ?_
  refine Ez.n_if_eq (off := 7) (tgt := 21) (by decide +kernel) (by decide) (a := z) rfl (by omega) (fun h => ?_) (fun h => ?_)
  · refine Ez.blk B_X3_inLowestTerms_21 (lo' := [some (.ref 43), some (.long (lN a)), none, some (.int (nI m)), some (.int (nI z)), some (.long (lN g)), none, some (.long (J1 73 ((nI m).toNatClampNeg))), none]) (st' := [.int (lg_cmp (lN g) 1)]) (I' := I1) (J' := J1) (Ps := [aO E0 43 3 ∧ E0.2.2 43 3 ≠ 0, aAr E0 2 73 (nI m)]) rfl ⟨r_43_3, (a_73 (vin (n := m) rfl (by omega) (by decide)))⟩ ?_
    rw [cln (x := nI m) (n := m) rfl (by omega)]
    rw [hS]
    refine Ez.lif_le (off := 11) (tgt := 44) (by decide +kernel) (by decide) (fun h2 => ?_) (fun h2 => ?_)
    · have hg1 : g = 1 := by have := c1.mp h2; omega
      refine Ez.blk B_X3_inLowestTerms_44 (lo' := [some (.ref 43), some (.long (lN a)), none, some (.int (nI m)), some (.int (nI z)), some (.long (lN g)), none, some (.long (lN s)), none]) (st' := [.long (lN s)]) (I' := I1) (J' := J1) (Ps := []) rfl trivial ?_
      have e : s = s / g := by rw [hg1, Nat.div_one]
      exact Ez.lret rfl (by decide +kernel) (hQ _ _ _ ⟨by rw [if_pos h, ← e], rfl, rfl⟩)
    · refine Ez.blk B_X3_inLowestTerms_36 (lo' := [some (.ref 43), some (.long (lN a)), none, some (.int (nI m)), some (.int (nI z)), some (.long (lN g)), none, some (.long (lN s)), none]) (st' := [.long ((lN s) / (lN g))]) (I' := I1) (J' := J1) (Ps := [¬ (lN g) = 0]) rfl (fun q => absurd ((lN_0i (by omega)).mp q) (by omega)) ?_
      rw [lN_div (by omega) hg (by omega)]
      exact Ez.lret rfl (by decide +kernel) (hQ _ _ _ ⟨by rw [if_pos h], rfl, rfl⟩)
  · refine Ez.blk B_X3_inLowestTerms_17 (lo' := [some (.ref 43), some (.long (lN a)), none, some (.int (nI m)), some (.int (nI z)), some (.long (lN g)), none, none, none]) (st' := [.long (lN a)]) (I' := I1) (J' := J1) (Ps := []) rfl trivial ?_
    refine Ez.blk B_X3_inLowestTerms_27 (lo' := [some (.ref 43), some (.long (lN a)), none, some (.int (nI m)), some (.int (nI z)), some (.long (lN g)), none, some (.long (lN a)), none]) (st' := [.int (lg_cmp (lN g) 1)]) (I' := I1) (J' := J1) (Ps := []) rfl trivial ?_
    refine Ez.lif_le (off := 11) (tgt := 44) (by decide +kernel) (by decide) (fun h2 => ?_) (fun h2 => ?_)
    · have hg1 : g = 1 := by have := c1.mp h2; omega
      refine Ez.blk B_X3_inLowestTerms_44 (lo' := [some (.ref 43), some (.long (lN a)), none, some (.int (nI m)), some (.int (nI z)), some (.long (lN g)), none, some (.long (lN a)), none]) (st' := [.long (lN a)]) (I' := I1) (J' := J1) (Ps := []) rfl trivial ?_
      have e : a = a / g := by rw [hg1, Nat.div_one]
      exact Ez.lret rfl (by decide +kernel) (hQ _ _ _ ⟨by rw [if_neg h, ← e], rfl, rfl⟩)
    · refine Ez.blk B_X3_inLowestTerms_36 (lo' := [some (.ref 43), some (.long (lN a)), none, some (.int (nI m)), some (.int (nI z)), some (.long (lN g)), none, some (.long (lN a)), none]) (st' := [.long ((lN a) / (lN g))]) (I' := I1) (J' := J1) (Ps := [¬ (lN g) = 0]) rfl (fun q => absurd ((lN_0i (by omega)).mp q) (by omega)) ?_
      rw [lN_div (by omega) hg (by omega)]
      exact Ez.lret rfl (by decide +kernel) (hQ _ _ _ ⟨by rw [if_neg h], rfl, rfl⟩)

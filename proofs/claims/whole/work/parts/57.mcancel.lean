/-! THE REFERENCE: transport, the least cost -/
abbrev nfx : Nat → Nat → Bool := fun _ _ => false
theorem cm_m7 {x : Nat} (h : x < 99 ∨ x = 99) : cm x = -7 ↔ x = 99 := by
  rcases h with h | h
  · rw [cm_n h]
    constructor
    · intro q
      exfalso
      have h1 : (nI x).toInt = (-7 : Int32).toInt := by rw [q]
      rw [nI_toInt (by omega)] at h1
      have h2 : (-7 : Int32).toInt = -7 := by decide
      omega
    · intro q; omega
  · rw [h]; exact ⟨fun _ => rfl, fun _ => rfl⟩
theorem F_le {n : Nat} {U V : Nat → Nat} {F : Nat → Nat} (hn : n ≤ 6) (hF : Cpl n U V (mx F)) (hz : Oz n F) (hU : ∀ i, i < n → U i ≤ 12) (q : Nat) (hq : q < 36) : F q ≤ 12 := by
  by_cases h : q / 6 < n ∧ q % 6 < n
  · have h1 := sm_le (f := fun y => mx F (q / 6) y) (n := n) (j := q % 6) h.2
    have h2 := hF.1 (q / 6) h.1
    have h3 := hU (q / 6) h.1
    have h4 : F (q / 6 * 6 + q % 6) ≤ 12 := by
      have h5 : mx F (q / 6) (q % 6) ≤ sm (fun y => mx F (q / 6) y) n := h1
      rw [h2] at h5
      exact Nat.le_trans h5 h3
    rw [show q / 6 * 6 + q % 6 = q by omega] at h4
    exact h4
  · rw [hz q hq (fun x y hx hy e => h ⟨by omega, by omega⟩)]; omega
/-- prices within bounds -/
abbrev OptB (n : Nat) (dd f : Nat → Nat → Nat) : Prop := ∃ u v : Nat → Int, Opt n dd f u v ∧ ∀ i, i < n → (-900000000000000000 ≤ u i ∧ u i ≤ 0) ∧ -900000000000000000 ≤ v i ∧ v i ≤ 0
theorem s_cancel (d : Nat) (I : aI) (J : aJ) (n : Nat) (dd : Nat → Nat → Nat) (F : Nat → Nat) (hT : MT n dd F nfx I J) (hn : 1 ≤ n ∧ n ≤ 6) (U V : Nat → Nat) (hF : Cpl n U V (mx F)) (hz : Oz n F) (hU : ∀ i, i < n → U i ≤ 12) : Sp m_X10_cancel (d + 3) [.ref 93] E0 I J (fun r I' J' => ∃ (v : Int32) (F' : Nat → Nat), r = some (.int v) ∧ MT n dd F' nfx I' J' ∧ Cpl n U V (mx F') ∧ Oz n F' ∧ ((v = 0 ∧ OptB n dd (mx F')) ∨ (v = 1 ∧ cst n dd (mx F') < cst n dd (mx F))) ∧ (∀ q, q ≠ 100 → q ≠ 103 → I' q = I q) ∧ ∀ q, q ≠ 102 → J' q = J q) := by
  refine Sp.of (lo := [some (.ref 93), none, none, none, none]) rfl (fun Q hQ => ?_)
  have hd : ∀ i j, i < n → j < n → dd i j ≤ 1000000000000000 := fun i j hi hj => (hT.2.1 i j hi hj).2
  have hFb : ∀ q, q < 36 → F q ≤ 100 := fun q hq => Nat.le_trans (F_le hn.2 hF hz hU q hq) (by omega)
  have hN : (NOR : Int) = 2305843009213693951 := rfl
  have LC : ∀ (I1 : aI) (J1 : aJ) (S : RS), SR n I1 J1 S → MT n dd F nfx I1 J1 → (∃ R, R + 1 = 2 * n ∧ CI n dd F nfx (fun _ _ => True) R S) → ¬ S.2.2 = 99 → (∀ q, q ≠ 100 → q ≠ 103 → I1 q = I q) → (∀ q, q ≠ 102 → J1 q = J q) → Ez m_X10_cancel (d + 3) 71 [some (.ref 93), some (.int (nI (2 * n))), some (.int (cm S.2.2)), none, none] [] E0 I1 J1 Q := by
    intro I1 J1 S s1 s2 ⟨R, s3, s4⟩ s5 s6 s7
    obtain ⟨y1, ⟨q, ⟨q1, q2⟩, q3⟩, t, y3⟩ := ci_cycle hn s3 s4 s5
    obtain ⟨s, hs⟩ : ∃ s, s = itp S.2.1 S.2.2 (2 * n) := ⟨_, rfl⟩
    rw [← hs] at q2 q3 y3
    have cyc := cyc_ok hn.2 ⟨q1, q2⟩ q3 y3
    have c2 := y1 0 (by omega)
    have c3 : S.2.2 < 2 * n := c2
    have pv : ∀ m, I1 103 (itp S.2.1 s m) = nI (S.2.1 (itp S.2.1 s m)) ∧ S.2.1 (itp S.2.1 s m) < 2 * n := fun m => by
      obtain ⟨g1, c, g2, _⟩ := y3 m
      have g3 := Arc_lt g2
      exact ⟨by rw [s1.2 _ g1, cm_n (by omega)], g3.1⟩
    have hL : ∀ m, m < q → Lnk n F (fun i j => nfx i j = false) (S.2.1 (itp S.2.1 s m)) (itp S.2.1 s m) := fun m _ => by
      obtain ⟨_, c, g, _⟩ := y3 m
      exact Arc_lnk g
    have hdist := itp_dist q2 q3
    have LS : ∀ k m, m + k + 1 = q → ∀ I5 : aI, (∀ z, z < 36 → I5 100 z = nI (shm n S.2.1 s F m z)) → (∀ z, z ≠ 100 → I5 z = I1 z) → Ez m_X10_cancel (d + 3) 98 [some (.ref 93), some (.int (nI (2 * n))), some (.int (cm S.2.2)), some (.int (nI (itp S.2.1 s m))), some (.int (nI s))] [] E0 I5 J1 Q := by
      intro k
      induction k with
      | zero =>
        intro m hm I5 i1 i2
        have g1 := (y3 m).1
        have g2 : I5 103 (itp S.2.1 s m) = nI (itp S.2.1 s (m + 1)) := by rw [i2 103 (by decide)]; exact (pv m).1
        have g3 : itp S.2.1 s (m + 1) < 2 * n := (pv m).2
        have sl : s < 2 * n := (y3 0).1
        have lk : ∃ i j, i < n ∧ j < n ∧ ((itp S.2.1 s (m + 1) = i ∧ itp S.2.1 s m = n + j) ∨ (0 < shm n S.2.1 s F m (i * 6 + j) ∧ itp S.2.1 s (m + 1) = n + j ∧ itp S.2.1 s m = i)) := by
          obtain ⟨i, j, hi, hj, _, z | ⟨_, z1, z2⟩⟩ := hL m (by omega)
          · exact ⟨i, j, hi, hj, Or.inl z⟩
          · have hp := shm_pos hn.2 hL hdist (m := m) (by omega) (by omega)
            rw [show itp S.2.1 s m * 6 + (S.2.1 (itp S.2.1 s m) - n) = i * 6 + j by omega] at hp
            exact ⟨i, j, hi, hj, Or.inr ⟨hp, z1, z2⟩⟩
        refine Ez.blk B_X10_cancel_98 (lo' := [some (.ref 93), some (.int (nI (2 * n))), some (.int (cm S.2.2)), some (.int (nI (itp S.2.1 s m))), some (.int (nI s))]) (st' := [.int (nI (itp S.2.1 s m)), .int (I5 103 ((nI (itp S.2.1 s m)).toNatClampNeg)), .ref 93]) (I' := I5) (J' := J1) (Ps := [aO E0 93 10 ∧ E0.2.2 93 11 ≠ 0, aAr E0 1 103 (nI (itp S.2.1 s m))]) rfl ⟨r_93_11, (a_103 (vin (n := (itp S.2.1 s m)) rfl (by omega) (by decide)))⟩ ?_
        rw [cln (x := nI (itp S.2.1 s m)) (n := (itp S.2.1 s m)) rfl (by omega)]
        rw [g2]
        refine Ez.callV (As := [.int (nI (itp S.2.1 s (m + 1))), .int (nI (itp S.2.1 s m))]) (b := 93) (rest := []) kn_X10_shift ml_10_147 im_X10_shift se_X10_shift rfl (by decide +kernel) rfl rfl (Nat.le_of_ble_eq_true rfl) (Nat.le_of_ble_eq_true rfl) o_93 (s_shiftM _ I5 J1 n hn.2 (by rw [i2 94 (by decide)]; exact s2.1) (shm n S.2.1 s F m) i1 (fun _ _ => True) (itp S.2.1 s (m + 1)) (itp S.2.1 s m) lk) (fun r I6 J6 hq => ?_)
        obtain ⟨rfl, rfl, k1, k2⟩ := hq
        have g2 : I6 103 (itp S.2.1 s m) = nI (itp S.2.1 s (m + 1)) := by rw [k2 103 (by decide)]; exact g2
        have k3 : ∀ z, z ≠ 100 → I6 z = I1 z := fun z hz => by rw [k2 z hz]; exact i2 z hz
        have k1 : ∀ z, z < 36 → I6 100 z = nI (shm n S.2.1 s F (m + 1) z) := k1
        refine Ez.blk B_X10_cancel_109 (lo' := [some (.ref 93), some (.int (nI (2 * n))), some (.int (cm S.2.2)), some (.int (I6 103 ((nI (itp S.2.1 s m)).toNatClampNeg))), some (.int (nI s))]) (st' := [.int (nI s), .int (I6 103 ((nI (itp S.2.1 s m)).toNatClampNeg))]) (I' := I6) (J' := J6) (Ps := [aO E0 93 10 ∧ E0.2.2 93 11 ≠ 0, aAr E0 1 103 (nI (itp S.2.1 s m))]) rfl ⟨r_93_11, (a_103 (vin (n := (itp S.2.1 s m)) rfl (by omega) (by decide)))⟩ ?_
        rw [cln (x := nI (itp S.2.1 s m)) (n := (itp S.2.1 s m)) rfl (by omega)]
        rw [g2]
        have em : m + 1 = q := by omega
        have eq : itp S.2.1 s (m + 1) = s := by rw [em]; exact q2
        refine Ez.n_icmp_ne (off := (-21)) (tgt := 98) (by decide +kernel) (by decide) (a := (itp S.2.1 s (m + 1))) (b := s) rfl rfl (by omega) (by omega) (fun g9 => absurd eq g9) (fun g9 => ?_)
        refine Ez.blk B_X10_cancel_122 (lo' := [some (.ref 93), some (.int (nI (2 * n))), some (.int (cm S.2.2)), some (.int (nI (itp S.2.1 s (m + 1)))), some (.int (nI s))]) (st' := [.int 1]) (I' := I6) (J' := J6) (Ps := []) rfl trivial ?_
        exact Ez.zret rfl (Or.inr rfl) (by decide +kernel) (hQ _ _ _ ⟨1, shm n S.2.1 s F q, rfl, ⟨by rw [k3 94 (by decide)]; exact s2.1, s2.2.1, fun z hz => by rw [← em]; exact k1 z hz, fun i j hi hj => by rw [k3 101 (by decide)]; exact s2.2.2.2 i j hi hj⟩, cpl_of hF cyc.1, Oz_shm hn.2 hL hz (Nat.le_refl _), Or.inr ⟨rfl, cyc.2⟩, fun z h0 h1 => by rw [k3 z h0]; exact s6 z h0 h1, s7⟩)
      | succ k ih =>
        intro m hm I5 i1 i2
        have g1 := (y3 m).1
        have g2 : I5 103 (itp S.2.1 s m) = nI (itp S.2.1 s (m + 1)) := by rw [i2 103 (by decide)]; exact (pv m).1
        have g3 : itp S.2.1 s (m + 1) < 2 * n := (pv m).2
        have sl : s < 2 * n := (y3 0).1
        have lk : ∃ i j, i < n ∧ j < n ∧ ((itp S.2.1 s (m + 1) = i ∧ itp S.2.1 s m = n + j) ∨ (0 < shm n S.2.1 s F m (i * 6 + j) ∧ itp S.2.1 s (m + 1) = n + j ∧ itp S.2.1 s m = i)) := by
          obtain ⟨i, j, hi, hj, _, z | ⟨_, z1, z2⟩⟩ := hL m (by omega)
          · exact ⟨i, j, hi, hj, Or.inl z⟩
          · have hp := shm_pos hn.2 hL hdist (m := m) (by omega) (by omega)
            rw [show itp S.2.1 s m * 6 + (S.2.1 (itp S.2.1 s m) - n) = i * 6 + j by omega] at hp
            exact ⟨i, j, hi, hj, Or.inr ⟨hp, z1, z2⟩⟩
        refine Ez.blk B_X10_cancel_98 (lo' := [some (.ref 93), some (.int (nI (2 * n))), some (.int (cm S.2.2)), some (.int (nI (itp S.2.1 s m))), some (.int (nI s))]) (st' := [.int (nI (itp S.2.1 s m)), .int (I5 103 ((nI (itp S.2.1 s m)).toNatClampNeg)), .ref 93]) (I' := I5) (J' := J1) (Ps := [aO E0 93 10 ∧ E0.2.2 93 11 ≠ 0, aAr E0 1 103 (nI (itp S.2.1 s m))]) rfl ⟨r_93_11, (a_103 (vin (n := (itp S.2.1 s m)) rfl (by omega) (by decide)))⟩ ?_
        rw [cln (x := nI (itp S.2.1 s m)) (n := (itp S.2.1 s m)) rfl (by omega)]
        rw [g2]
        refine Ez.callV (As := [.int (nI (itp S.2.1 s (m + 1))), .int (nI (itp S.2.1 s m))]) (b := 93) (rest := []) kn_X10_shift ml_10_147 im_X10_shift se_X10_shift rfl (by decide +kernel) rfl rfl (Nat.le_of_ble_eq_true rfl) (Nat.le_of_ble_eq_true rfl) o_93 (s_shiftM _ I5 J1 n hn.2 (by rw [i2 94 (by decide)]; exact s2.1) (shm n S.2.1 s F m) i1 (fun _ _ => True) (itp S.2.1 s (m + 1)) (itp S.2.1 s m) lk) (fun r I6 J6 hq => ?_)
        obtain ⟨rfl, rfl, k1, k2⟩ := hq
        have g2 : I6 103 (itp S.2.1 s m) = nI (itp S.2.1 s (m + 1)) := by rw [k2 103 (by decide)]; exact g2
        have k3 : ∀ z, z ≠ 100 → I6 z = I1 z := fun z hz => by rw [k2 z hz]; exact i2 z hz
        have k1 : ∀ z, z < 36 → I6 100 z = nI (shm n S.2.1 s F (m + 1) z) := k1
        refine Ez.blk B_X10_cancel_109 (lo' := [some (.ref 93), some (.int (nI (2 * n))), some (.int (cm S.2.2)), some (.int (I6 103 ((nI (itp S.2.1 s m)).toNatClampNeg))), some (.int (nI s))]) (st' := [.int (nI s), .int (I6 103 ((nI (itp S.2.1 s m)).toNatClampNeg))]) (I' := I6) (J' := J6) (Ps := [aO E0 93 10 ∧ E0.2.2 93 11 ≠ 0, aAr E0 1 103 (nI (itp S.2.1 s m))]) rfl ⟨r_93_11, (a_103 (vin (n := (itp S.2.1 s m)) rfl (by omega) (by decide)))⟩ ?_
        rw [cln (x := nI (itp S.2.1 s m)) (n := (itp S.2.1 s m)) rfl (by omega)]
        rw [g2]
        refine Ez.n_icmp_ne (off := (-21)) (tgt := 98) (by decide +kernel) (by decide) (a := (itp S.2.1 s (m + 1))) (b := s) rfl rfl (by omega) (by omega) (fun g9 => ?_) (fun g9 => absurd ⟨by omega, g9⟩ (q3 (m + 1) (by omega)))
        exact ih (m + 1) (by omega) I6 k1 k3
    refine Ez.blk B_X10_cancel_71 (lo' := [some (.ref 93), some (.int (nI (2 * n))), some (.int (cm S.2.2)), some (.int (cm S.2.2)), some (.int 0)]) (st' := []) (I' := I1) (J' := J1) (Ps := []) rfl trivial ?_
    rw [cm_n (x := S.2.2) (by omega)]
    rw [cm_n (x := S.2.2) (by omega)] at LS
    have L7 : ∀ k, k ≤ (2 * n) → True → Ez m_X10_cancel (d + 3) 76 [some (.ref 93), some (.int (nI (2 * n))), some (.int (nI S.2.2)), some (.int (nI (itp S.2.1 S.2.2 k))), some (.int (nI k))] [] E0 I1 J1 Q := by
      refine for_up ?_ ?_
      · intro _
        refine Ez.blk B_X10_cancel_76 (lo' := [some (.ref 93), some (.int (nI (2 * n))), some (.int (nI S.2.2)), some (.int (nI (itp S.2.1 S.2.2 (2 * n)))), some (.int (nI (2 * n)))]) (st' := [.int (nI (2 * n)), .int (nI (2 * n))]) (I' := I1) (J' := J1) (Ps := []) rfl trivial ?_
        refine Ez.n_icmp_ge (off := 16) (tgt := 95) (by decide +kernel) (by decide) (a := (2 * n)) (b := (2 * n)) rfl rfl (by omega) (by omega) (fun h9 => ?_) (fun h9 => absurd h9 (by omega))
        refine Ez.blk B_X10_cancel_95 (lo' := [some (.ref 93), some (.int (nI (2 * n))), some (.int (nI S.2.2)), some (.int (nI (itp S.2.1 S.2.2 (2 * n)))), some (.int (nI (itp S.2.1 S.2.2 (2 * n))))]) (st' := []) (I' := I1) (J' := J1) (Ps := []) rfl trivial ?_
        rw [← hs]
        exact LS (q - 1) 0 (by omega) I1 s2.2.2.1 (fun _ _ => rfl)
      · intro k hk ih _
        have g1 := y1 k (by omega)
        have g2 := y1 (k + 1) (by omega)
        have g3 : I1 103 (itp S.2.1 S.2.2 k) = nI (itp S.2.1 S.2.2 (k + 1)) := by rw [s1.2 _ g1]; exact cm_n (by show itp S.2.1 S.2.2 (k + 1) < 99; omega)
        refine Ez.blk B_X10_cancel_76 (lo' := [some (.ref 93), some (.int (nI (2 * n))), some (.int (nI S.2.2)), some (.int (nI (itp S.2.1 S.2.2 k))), some (.int (nI k))]) (st' := [.int (nI (2 * n)), .int (nI k)]) (I' := I1) (J' := J1) (Ps := []) rfl trivial ?_
        refine Ez.n_icmp_ge (off := 16) (tgt := 95) (by decide +kernel) (by decide) (a := k) (b := (2 * n)) rfl rfl (by omega) (by omega) (fun h9 => absurd h9 (by omega)) (fun h9 => ?_)
        refine Ez.blk B_X10_cancel_82 (lo' := [some (.ref 93), some (.int (nI (2 * n))), some (.int (nI S.2.2)), some (.int (I1 103 ((nI (itp S.2.1 S.2.2 k)).toNatClampNeg))), some (.int (nI k + 1))]) (st' := []) (I' := I1) (J' := J1) (Ps := [aO E0 93 10 ∧ E0.2.2 93 11 ≠ 0, aAr E0 1 103 (nI (itp S.2.1 S.2.2 k))]) rfl ⟨r_93_11, (a_103 (vin (n := (itp S.2.1 S.2.2 k)) rfl (by omega) (by decide)))⟩ ?_
        rw [cln (x := nI (itp S.2.1 S.2.2 k)) (n := (itp S.2.1 S.2.2 k)) rfl (by omega)]
        rw [show (nI k + 1) = nI (k + 1) from (eq_add (a := k) (b := 1) rfl rfl)]
        rw [g3]
        exact ih trivial
    exact L7 0 (by omega) trivial
  have LX : ∀ (I1 : aI) (J1 : aJ) (S : RS) (k : Nat), SR n I1 J1 S → MT n dd F nfx I1 J1 → CI n dd F nfx (fun _ _ => True) k S → Bnd n (-900000000000000000) S → (¬ S.2.2 = 99 → k + 1 = 2 * n) → (∀ q, q ≠ 100 → q ≠ 103 → I1 q = I q) → (∀ q, q ≠ 102 → J1 q = J q) → Ez m_X10_cancel (d + 3) 63 [some (.ref 93), some (.int (nI (2 * n))), some (.int (cm S.2.2)), none, none] [] E0 I1 J1 Q := by
    intro I1 J1 S k s1 s2 s3 s4 s5 s6 s7
    have hch : S.2.2 < 99 ∨ S.2.2 = 99 := by
      obtain ⟨L, t, τ, _, _, _, z | z⟩ := s3
      · exact Or.inr z.1
      · exact Or.inl (by omega)
    refine Ez.blk B_X10_cancel_63 (lo' := [some (.ref 93), some (.int (nI (2 * n))), some (.int (cm S.2.2)), none, none]) (st' := [.int (-7), .int (cm S.2.2)]) (I' := I1) (J' := J1) (Ps := []) rfl trivial ?_
    refine Ez.icmp_ne (off := 5) (tgt := 71) (by decide +kernel) (by decide) (fun g => ?_) (fun g => ?_)
    · have g2 : ¬ S.2.2 = 99 := fun q => g ((cm_m7 hch).mpr q)
      exact LC I1 J1 S s1 s2 ⟨k, s5 g2, s3⟩ g2 s6 s7
    · refine Ez.blk B_X10_cancel_69 (lo' := [some (.ref 93), some (.int (nI (2 * n))), some (.int (cm S.2.2)), none, none]) (st' := [.int 0]) (I' := I1) (J' := J1) (Ps := []) rfl trivial ?_
      exact Ez.zret rfl (Or.inl rfl) (by decide +kernel) (hQ _ _ _ ⟨0, F, rfl, s2, hF, hz, Or.inl ⟨rfl, S.1, fun j => S.1 (n + j), rest_opt (fun _ _ _ _ => rfl) (ci_rest hn.2 s3 ((cm_m7 hch).mp g)), fun i hi => by
        obtain ⟨L, t, τ, z, _⟩ := s3
        have z1 := (z i (by omega)).2.2
        have z2 := (z (n + i) (by omega)).2.2
        have z3 := s4 i (by omega)
        have z4 := s4 (n + i) (by omega)
        exact ⟨⟨z3.1, z1⟩, z4.1, z2⟩⟩, s6, s7⟩)
  have LR : ∀ k, k ≤ (2 * n) → ∀ (I1 : aI) (J1 : aJ) (S : RS), (SR n I1 J1 S ∧ MT n dd F nfx I1 J1 ∧ Bnd n (-((k : Nat) : Int) * 72000000000000000) S ∧ ((k = 0 ∧ S = (fun _ => 0, fun _ => 99, 0)) ∨ (∃ r, k = r + 1 ∧ CI n dd F nfx (fun _ _ => True) r S)) ∧ (∀ q, q ≠ 100 → q ≠ 103 → I1 q = I q) ∧ ∀ q, q ≠ 102 → J1 q = J q) → Ez m_X10_cancel (d + 3) 41 [some (.ref 93), some (.int (nI (2 * n))), some (.int (cm S.2.2)), some (.int (nI k)), none] [] E0 I1 J1 Q := by
    refine for_up ?_ ?_
    · intro I1 J1 S hi
      obtain ⟨s1, s2, s3, s4, s6, s7⟩ := hi
      refine Ez.blk B_X10_cancel_41 (lo' := [some (.ref 93), some (.int (nI (2 * n))), some (.int (cm S.2.2)), some (.int (nI (2 * n))), none]) (st' := [.int (nI (2 * n)), .int (nI (2 * n))]) (I' := I1) (J' := J1) (Ps := []) rfl trivial ?_
      refine Ez.n_icmp_ge (off := 20) (tgt := 63) (by decide +kernel) (by decide) (a := (2 * n)) (b := (2 * n)) rfl rfl (by omega) (by omega) (fun h => ?_) (fun h => absurd h (by omega))
      refine Ez.drops [3] (lo' := [some (.ref 93), some (.int (nI (2 * n))), some (.int (cm S.2.2)), none, none]) rfl ?_
      rcases s4 with ⟨z, _⟩ | ⟨r, z1, z2⟩
      · omega
      · exact LX I1 J1 S r s1 s2 z2 (Bnd_le s3 (by omega)) (fun _ => by omega) s6 s7
    · intro k hk ih I1 J1 S hi
      obtain ⟨s1, s2, s3, s4, s6, s7⟩ := hi
      have hch : S.2.2 < 99 ∨ S.2.2 = 99 := by
        rcases s4 with ⟨_, z⟩ | ⟨r, _, L, t, τ, _, _, _, z | z⟩
        · rw [z]; exact Or.inl (by decide)
        · exact Or.inr z.1
        · exact Or.inl (by omega)
      refine Ez.blk B_X10_cancel_41 (lo' := [some (.ref 93), some (.int (nI (2 * n))), some (.int (cm S.2.2)), some (.int (nI k)), none]) (st' := [.int (nI (2 * n)), .int (nI k)]) (I' := I1) (J' := J1) (Ps := []) rfl trivial ?_
      refine Ez.n_icmp_ge (off := 20) (tgt := 63) (by decide +kernel) (by decide) (a := k) (b := (2 * n)) rfl rfl (by omega) (by omega) (fun h => absurd h (by omega)) (fun h => ?_)
      refine Ez.blk B_X10_cancel_46 (lo' := [some (.ref 93), some (.int (nI (2 * n))), some (.int (cm S.2.2)), some (.int (nI k)), none]) (st' := [.int (-7), .int (cm S.2.2)]) (I' := I1) (J' := J1) (Ps := []) rfl trivial ?_
      refine Ez.icmp_eq (off := 14) (tgt := 63) (by decide +kernel) (by decide) (fun g => ?_) (fun g => ?_)
      · refine Ez.drops [3] (lo' := [some (.ref 93), some (.int (nI (2 * n))), some (.int (cm S.2.2)), none, none]) rfl ?_
        have g2 := (cm_m7 hch).mp g
        rcases s4 with ⟨_, z⟩ | ⟨r, z1, z2⟩
        · rw [z] at g2; exact absurd g2 (by decide)
        · exact LX I1 J1 S r s1 s2 z2 (Bnd_le s3 (by omega)) (fun q => absurd g2 q) s6 s7
      · have ci : CI n dd F nfx (fun _ _ => False) k (S.1, S.2.1, 99) := by
          rcases s4 with ⟨z1, z2⟩ | ⟨r, z1, z2⟩
          · rw [z1, z2]; exact ci_0
          · rw [z1]; exact ci_next z2
        refine Ez.blk B_X10_cancel_52 (lo' := [some (.ref 93), some (.int (nI (2 * n))), some (.int (cm S.2.2)), some (.int (nI k)), none]) (st' := [.ref 93]) (I' := I1) (J' := J1) (Ps := []) rfl trivial ?_
        refine Ez.callV (As := []) (b := 93) (rest := []) kn_X10_relax ml_10_144 im_X10_relax se_X10_relax rfl (by decide +kernel) rfl rfl (Nat.le_of_ble_eq_true rfl) (Nat.le_of_ble_eq_true rfl) o_93 (s_relax _ I1 J1 n dd F nfx s2 hn hFb (S.1, S.2.1, 99) s1 rfl (-((k : Nat) : Int) * 72000000000000000) s3 (by omega)) (fun r I2 J2 hq => ?_)
        obtain ⟨rfl, k1, k2, k3⟩ := hq
        refine Ez.blk B_X10_cancel_56 (lo' := [some (.ref 93), some (.int (nI (2 * n))), some (.int (cm (ral n dd F nfx n (S.1, S.2.1, 99)).2.2)), some (.int (nI k + 1)), none]) (st' := []) (I' := I2) (J' := J2) (Ps := []) rfl trivial ?_
        rw [show (nI k + 1) = nI (k + 1) from (eq_add (a := k) (b := 1) rfl rfl)]
        exact ih I2 J2 (ral n dd F nfx n (S.1, S.2.1, 99)) ⟨k1, MT_fr s2 (k2 94 (by decide)) (k3 98 (by decide)) (k2 100 (by decide)) (k2 101 (by decide)), Bnd_le (bij_all (S := (S.1, S.2.1, 99)) hn.2 hd s3) (by omega), Or.inr ⟨k, rfl, ral_ci hn.2 ci⟩, fun q h0 h1 => by rw [k2 q h1]; exact s6 q h0 h1, fun q h0 => by rw [k3 q h0]; exact s7 q h0⟩
  have LI : ∀ k, k ≤ (2 * n) → ∀ (I1 : aI) (J1 : aJ), ((∀ v, v < k → J1 102 v = 0) ∧ (∀ v, v < k → I1 103 v = -7) ∧ (∀ q, q ≠ 103 → I1 q = I q) ∧ ∀ q, q ≠ 102 → J1 q = J q) → Ez m_X10_cancel (d + 3) 11 [some (.ref 93), some (.int (nI (2 * n))), some (.int (nI k)), none, none] [] E0 I1 J1 Q := by
    refine for_up ?_ ?_
    · intro I1 J1 hi
      obtain ⟨i1, i2, i3, i4⟩ := hi
      refine Ez.blk B_X10_cancel_11 (lo' := [some (.ref 93), some (.int (nI (2 * n))), some (.int (nI (2 * n))), none, none]) (st' := [.int (nI (2 * n)), .int (nI (2 * n))]) (I' := I1) (J' := J1) (Ps := []) rfl trivial ?_
      refine Ez.n_icmp_ge (off := 24) (tgt := 37) (by decide +kernel) (by decide) (a := (2 * n)) (b := (2 * n)) rfl rfl (by omega) (by omega) (fun h => ?_) (fun h => absurd h (by omega))
      refine Ez.blk B_X10_cancel_37 (lo' := [some (.ref 93), some (.int (nI (2 * n))), some (.int 0), some (.int 0), none]) (st' := []) (I' := I1) (J' := J1) (Ps := []) rfl trivial ?_
      exact LR 0 (by omega) I1 J1 (fun _ => 0, fun _ => 99, 0) ⟨⟨fun v hv => by rw [i1 v hv]; rfl, fun v hv => by rw [i2 v hv]; rfl⟩, MT_fr hT (i3 94 (by decide)) (i4 98 (by decide)) (i3 100 (by decide)) (i3 101 (by decide)), fun v hv => ⟨by show _ ≤ (0 : Int); omega, by show (0 : Int) ≤ _; omega⟩, Or.inl ⟨rfl, rfl⟩, fun q _ h1 => i3 q h1, i4⟩
    · intro k hk ih I1 J1 hi
      obtain ⟨i1, i2, i3, i4⟩ := hi
      refine Ez.blk B_X10_cancel_11 (lo' := [some (.ref 93), some (.int (nI (2 * n))), some (.int (nI k)), none, none]) (st' := [.int (nI (2 * n)), .int (nI k)]) (I' := I1) (J' := J1) (Ps := []) rfl trivial ?_
      refine Ez.n_icmp_ge (off := 24) (tgt := 37) (by decide +kernel) (by decide) (a := k) (b := (2 * n)) rfl rfl (by omega) (by omega) (fun h => absurd h (by omega)) (fun h => ?_)
      refine Ez.blk B_X10_cancel_16 (lo' := [some (.ref 93), some (.int (nI (2 * n))), some (.int (nI k + 1)), none, none]) (st' := []) (I' := (aUp I1 103 ((nI k).toNatClampNeg) (-7))) (J' := (aUpJ J1 102 ((nI k).toNatClampNeg) 0)) (Ps := [aO E0 93 10 ∧ E0.2.2 93 10 ≠ 0, aAr E0 2 102 (nI k), aO E0 93 10 ∧ E0.2.2 93 11 ≠ 0, aAr E0 1 103 (nI k)]) rfl ⟨r_93_10, (a_102 (vin (n := k) rfl (by omega) (by decide))), r_93_11, (a_103 (vin (n := k) rfl (by omega) (by decide)))⟩ ?_
      rw [cln (x := nI k) (n := k) rfl (by omega)]
      rw [show (nI k + 1) = nI (k + 1) from (eq_add (a := k) (b := 1) rfl rfl)]
      exact ih _ _ ⟨fun v hv => by
        by_cases e : v = k
        · rw [e, aUpJ_eq]
        · rw [aUpJ_nk e]; exact i1 v (by omega), fun v hv => by
        by_cases e : v = k
        · rw [e, aUp_eq]
        · rw [aUp_nk e]; exact i2 v (by omega), fun q hq => by rw [aUp_ne hq]; exact i3 q hq, fun q hq => by rw [aUpJ_ne hq]; exact i4 q hq⟩
  refine Ez.blk B_X10_cancel_0 (lo' := [some (.ref 93), some (.int (2 * I 94 0)), some (.int 0), none, none]) (st' := []) (I' := I) (J' := J) (Ps := [aO E0 93 10 ∧ E0.2.2 93 0 ≠ 0, aAr E0 1 94 0]) rfl ⟨r_93_0, (a_94 (vin (n := 0) rfl (by omega) (by decide)))⟩ ?_
  rw [show (2 * I 94 0) = nI (2 * n) from (eq_mul (a := 2) (b := n) rfl hT.1)]
  exact LI 0 (by omega) I J ⟨fun v hv => by omega, fun v hv => by omega, fun _ _ => rfl, fun _ _ => rfl⟩

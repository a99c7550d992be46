/-! THE REFERENCE: the canonical coupling -/
abbrev PB (n : Nat) (u v : Nat → Int) : Prop := ∀ i, i < n → (-900000000000000000 ≤ u i ∧ u i ≤ 0) ∧ -900000000000000000 ≤ v i ∧ v i ≤ 0
theorem pot_b {n : Nat} {u v : Nat → Int} (h : PB n u v) {i0 : Nat} (hi : i0 < n) : ∀ w, w < 2 * n → -900000000000000000 ≤ pot n u v w - pot n u v i0 := fun w hw => by
  unfold pot
  rw [if_pos hi]
  have h1 := (h i0 hi).1
  by_cases e : w < n
  · rw [if_pos e]; have := (h w e).1; omega
  · rw [if_neg e]; have := (h (w - n) (by omega)).2; omega
theorem fx_own {i j x y : Nat} (h : ¬ (x = i ∧ y = j)) : fxl i j x y = fxb i j x y := by
  unfold fxl fxb
  by_cases e : x < i ∨ (x = i ∧ y < j)
  · rw [decide_eq_true e, decide_eq_true (show x < i ∨ (x = i ∧ y ≤ j) by omega)]
  · rw [decide_eq_false e, decide_eq_false (show ¬ (x < i ∨ (x = i ∧ y ≤ j)) by omega)]
theorem fx_l {i j : Nat} : fxl i j i j = true := decide_eq_true (Or.inr ⟨rfl, Nat.le_refl _⟩)
theorem fx_b {i j : Nat} : fxb i j i j = false := decide_eq_false (by omega)
theorem s_lower (d : Nat) (I : aI) (J : aJ) (n : Nat) (dd : Nat → Nat → Nat) (F : Nat → Nat) (i0 j0 : Nat) (hT : MT n dd F (fxb i0 j0) I J) (hn : 1 ≤ n ∧ n ≤ 6) (U V : Nat → Nat) (hF : Cpl n U V (mx F)) (hz : Oz n F) (hU : ∀ i, i < n → U i ≤ 12) (u v : Nat → Int) (hO : Opt n dd (mx F) u v) (hb : PB n u v) (hi0 : i0 < n) (hj0 : j0 < n) : Sp m_X10_lower (d + 3) [.ref 93, .int (nI i0), .int (nI j0)] E0 I J (fun r I' J' => ∃ (w : Int32) (F' : Nat → Nat), r = some (.int w) ∧ MT n dd F' (fxb i0 j0) I' J' ∧ Cpl n U V (mx F') ∧ Oz n F' ∧ Opt n dd (mx F') u v ∧ cst n dd (mx F') ≤ cst n dd (mx F) ∧ (∀ x y, x < n → y < n → (x < i0 ∨ (x = i0 ∧ y < j0)) → F' (x * 6 + y) = F (x * 6 + y)) ∧ ((w = 0 ∧ Low n U V dd (mx F') i0 j0) ∨ (w = 1 ∧ F' (i0 * 6 + j0) + 1 = F (i0 * 6 + j0))) ∧ (∀ q, q ≠ 100 → q ≠ 101 → q ≠ 103 → I' q = I q) ∧ ∀ q, q ≠ 102 → J' q = J q) := by
  refine Sp.of (lo := [some (.ref 93), some (.int (nI i0)), some (.int (nI j0)), none, none, none]) rfl (fun Q hQ => ?_)
  have hd : ∀ i j, i < n → j < n → dd i j ≤ 1000000000000000 := fun i j hi hj => (hT.2.1 i j hi hj).2
  have fb := F_le hn.2 hF hz hU
  have hFb : ∀ q, q < 36 → F q ≤ 100 := fun q hq => Nat.le_trans (fb q hq) (by omega)
  have fb0 := fb (i0 * 6 + j0) (by omega)
  have hN : (NOR : Int) = 2305843009213693951 := rfl
  have eN : (2305843009213693951 : Int64) = zL NOR := rfl
  refine Ez.blk B_X10_lower_0 (lo' := [some (.ref 93), some (.int (nI i0)), some (.int (nI j0)), some (.int (I 94 0)), none, none]) (st' := [.int (nI j0), .int (nI i0), .ref 93]) (I' := I) (J' := J) (Ps := [aO E0 93 10 ∧ E0.2.2 93 0 ≠ 0, aAr E0 1 94 0]) rfl ⟨r_93_0, (a_94 (vin (n := 0) rfl (by omega) (by decide)))⟩ ?_
  rw [hT.1]
  refine Ez.callV (As := [.int (nI i0), .int (nI j0)]) (b := 93) (rest := []) kn_X10_f ml_10_141 im_X10_f se_X10_f rfl (by decide +kernel) rfl rfl (Nat.le_of_ble_eq_true rfl) (Nat.le_of_ble_eq_true rfl) o_93 (s_f _ I J F hT.2.2.1 i0 j0 (by omega) (by omega)) (fun r I1 J1 hq => ?_)
  obtain ⟨rfl, rfl, rfl⟩ := hq
  refine Ez.n_if_ne (off := 5) (tgt := 18) (by decide +kernel) (by decide) (a := (F (i0 * 6 + j0))) rfl (by omega) (fun g0 => ?_) (fun g0 => ?_)
  · have hp : 0 < F (i0 * 6 + j0) := by omega
    have hπ := pot_arc (fx := fxl i0 j0) hO
    have hK := pot_b hb hi0
    refine Ez.blk B_X10_lower_18 (lo' := [some (.ref 93), some (.int (nI i0)), some (.int (nI j0)), some (.int (nI n)), some (.int ((6 * nI i0) + nI j0)), some (.int 0)]) (st' := []) (I' := (aUp I1 101 (((6 * nI i0) + nI j0).toNatClampNeg) 1)) (J' := J1) (Ps := [aO E0 93 10 ∧ E0.2.2 93 9 ≠ 0, aAr E0 3 101 ((6 * nI i0) + nI j0) ∧ (1 = 0 ∨ 1 = 1)]) rfl ⟨r_93_9, ⟨(a_101 (vin (n := (6 * i0 + j0)) (eq_add (a := (6 * i0)) (b := j0) (eq_mul (a := 6) (b := i0) rfl rfl) rfl) (by omega) (by decide))), (Or.inr rfl)⟩⟩ ?_
    rw [cln (x := ((6 * nI i0) + nI j0)) (n := (6 * i0 + j0)) (eq_add (a := (6 * i0)) (b := j0) (eq_mul (a := 6) (b := i0) rfl rfl) rfl) (by omega)]
    rw [show ((6 * nI i0) + nI j0) = nI (6 * i0 + j0) from (eq_add (a := (6 * i0)) (b := j0) (eq_mul (a := 6) (b := i0) rfl rfl) rfl)]
    generalize hI2 : (aUp I1 101 (6 * i0 + j0) 1) = I2
    have T2 : MT n dd F (fxl i0 j0) I2 J1 := ⟨by rw [← hI2, aUp_ne (by decide)]; exact hT.1, hT.2.1, fun q hq => by rw [← hI2, aUp_ne (by decide)]; exact hT.2.2.1 q hq, fun x y hx hy => by
      rw [← hI2]
      by_cases e : x = i0 ∧ y = j0
      · rw [e.1, e.2, aUp_eq, fx_l]; rfl
      · rw [aUp_nk (by omega), fx_own e]; exact hT.2.2.2 x y hx hy⟩
    have f2 : ∀ q, q ≠ 100 → q ≠ 101 → q ≠ 103 → I2 q = I1 q := fun q _ h1 _ => by rw [← hI2, aUp_ne h1]
    have LX : ∀ (I3 : aI) (J3 : aJ) (S : RS) (Z : Int), SR n I3 J3 S → MT n dd F (fxl i0 j0) I3 J3 → LI n dd F (fxl i0 j0) (pot n u v) i0 Z (fun _ _ => True) S → S.2.2 = 99 → (∀ q, q ≠ 100 → q ≠ 101 → q ≠ 103 → I3 q = I1 q) → (∀ q, q ≠ 102 → J3 q = J1 q) → Ez m_X10_lower (d + 3) 97 [some (.ref 93), some (.int (nI i0)), some (.int (nI j0)), some (.int (nI n)), some (.int (nI (6 * i0 + j0))), none] [] E0 I3 J3 Q := by
      intro I3 J3 S Z s1 s2 s3 s4 s6 s7
      have sb := li_bnd (K := 900000000000000000) hK (by omega) s3 (n + j0) (by omega)
      have hd0 := hd i0 j0 hi0 hj0
      refine Ez.blk B_X10_lower_97 (lo' := [some (.ref 93), some (.int (nI i0)), some (.int (nI j0)), some (.int (nI n)), some (.int (nI (6 * i0 + j0))), none]) (st' := [.int (nI j0), .int (nI i0), .ref 93, .long (J3 102 ((nI n + nI j0).toNatClampNeg))]) (I' := (aUp I3 101 ((nI (6 * i0 + j0)).toNatClampNeg) 0)) (J' := J3) (Ps := [aO E0 93 10 ∧ E0.2.2 93 9 ≠ 0, aAr E0 3 101 (nI (6 * i0 + j0)) ∧ (0 = 0 ∨ 0 = 1), aO E0 93 10 ∧ E0.2.2 93 10 ≠ 0, aAr E0 2 102 (nI n + nI j0)]) rfl ⟨r_93_9, ⟨(a_101 (vin (n := (6 * i0 + j0)) rfl (by omega) (by decide))), (Or.inl rfl)⟩, r_93_10, (a_102 (vin (n := (n + j0)) (eq_add (a := n) (b := j0) rfl rfl) (by omega) (by decide)))⟩ ?_
      rw [cln (x := nI (6 * i0 + j0)) (n := (6 * i0 + j0)) rfl (by omega)]
      rw [cln (x := (nI n + nI j0)) (n := (n + j0)) (eq_add (a := n) (b := j0) rfl rfl) (by omega)]
      rw [s1.1 (n + j0) (by omega)]
      generalize hI4 : (aUp I3 101 (6 * i0 + j0) 0) = I4
      have T4 : MT n dd F (fxb i0 j0) I4 J3 := ⟨by rw [← hI4, aUp_ne (by decide)]; exact s2.1, s2.2.1, fun q hq => by rw [← hI4, aUp_ne (by decide)]; exact s2.2.2.1 q hq, fun x y hx hy => by
        rw [← hI4]
        by_cases e : x = i0 ∧ y = j0
        · rw [e.1, e.2, aUp_eq, fx_b]; rfl
        · rw [aUp_nk (by omega), ← fx_own e]; exact s2.2.2.2 x y hx hy⟩
      have f4 : ∀ q, q ≠ 100 → q ≠ 101 → q ≠ 103 → I4 q = I1 q := fun q h0 h1 h3 => by rw [← hI4, aUp_ne h1]; exact s6 q h0 h1 h3
      have p4 : ∀ w, w < 2 * n → I4 103 w = cm (S.2.1 w) := fun w hw => by rw [← hI4, aUp_ne (by decide)]; exact s1.2 w hw
      refine Ez.callV (As := [.int (nI i0), .int (nI j0)]) (b := 93) (rest := [.long (zL (S.1 (n + j0)))]) kn_X10_d ml_10_138 im_X10_d se_X10_d rfl (by decide +kernel) rfl rfl (Nat.le_of_ble_eq_true rfl) (Nat.le_of_ble_eq_true rfl) o_93 (s_d _ I4 J3 n dd hn.2 T4.2.1 i0 j0 hi0 hj0) (fun r I5 J5 hq => ?_)
      obtain ⟨rfl, rfl, rfl⟩ := hq
      refine Ez.blk B_X10_lower_119 (lo' := [some (.ref 93), some (.int (nI i0)), some (.int (nI j0)), some (.int (nI n)), some (.int (nI (6 * i0 + j0))), none]) (st' := [.int (lg_cmp (zL (S.1 (n + j0))) (zL (dd i0 j0 : Int)))]) (I' := I5) (J' := J5) (Ps := []) rfl trivial ?_
      refine Ez.lif_eq (off := 5) (tgt := 125) (by decide +kernel) (by decide) (fun g1 => ?_) (fun g1 => ?_)
      · have g1 : S.1 (n + j0) = (dd i0 j0 : Int) := (zL_eq (by omega) (by omega)).mp g1
        obtain ⟨t, ht⟩ := lw_way s3 s4
        obtain ⟨q, q1, q2⟩ := ht _ (n + j0) rfl (by omega) (by omega)
        have s0 : S.1 i0 = 0 := by obtain ⟨_, _, _, z, _⟩ := s3; exact z.1
        obtain ⟨o1, o2, o3, o4, o5, o6, o7⟩ := lw_ok hn.2 hi0 hj0 hF hz hp ⟨g1, s0⟩ q1 q2
        obtain ⟨F1, hF1⟩ : ∃ F1, F1 = cup F (i0 * 6 + j0) (F (i0 * 6 + j0) - 1) := ⟨_, rfl⟩
        rw [← hF1] at o1 o3 o4 o5 o6 o7
        obtain ⟨p, hpp⟩ : ∃ p, p = S.2.1 := ⟨_, rfl⟩
        rw [← hpp] at q1 q2 o1 o2 o3 o4 o5 o6 o7 p4
        have LP : ∀ m, m ≤ q → ∀ (I6 : aI), ((∀ z, z < 36 → I6 100 z = nI (shm n p (n + j0) F1 m z)) ∧ ∀ z, z ≠ 100 → I6 z = I5 z) → Ez m_X10_lower (d + 3) 141 [some (.ref 93), some (.int (nI i0)), some (.int (nI j0)), some (.int (nI n)), some (.int (nI (6 * i0 + j0))), some (.int (nI (itp p (n + j0) m)))] [] E0 I6 J5 Q := by
          refine for_up ?_ ?_
          · intro I6 hi
            obtain ⟨i1, i2⟩ := hi
            have qi : itp p (n + j0) q < 12 := by rw [q1]; omega
            refine Ez.blk B_X10_lower_141 (lo' := [some (.ref 93), some (.int (nI i0)), some (.int (nI j0)), some (.int (nI n)), some (.int (nI (6 * i0 + j0))), some (.int (nI (itp p (n + j0) q)))]) (st' := [.int (nI i0), .int (nI (itp p (n + j0) q))]) (I' := I6) (J' := J5) (Ps := []) rfl trivial ?_
            refine Ez.n_icmp_eq (off := 28) (tgt := 172) (by decide +kernel) (by decide) (a := (itp p (n + j0) q)) (b := i0) rfl rfl (by omega) (by omega) (fun h => ?_) (fun h => absurd q1 h)
            refine Ez.blk B_X10_lower_172 (lo' := [some (.ref 93), some (.int (nI i0)), some (.int (nI j0)), some (.int (nI n)), some (.int (nI (6 * i0 + j0))), some (.int (nI (itp p (n + j0) q)))]) (st' := [.int 1]) (I' := I6) (J' := J5) (Ps := []) rfl trivial ?_
            exact Ez.zret rfl (Or.inr rfl) (by decide +kernel) (hQ _ _ _ ⟨1, shm n p (n + j0) F1 q, rfl, ⟨by rw [i2 94 (by decide)]; exact T4.1, T4.2.1, i1, fun x y hx hy => by rw [i2 101 (by decide)]; exact T4.2.2.2 x y hx hy⟩, o3, o4, opt_keep hO (cpl_sm hF o3) o5, o5, o7, Or.inr ⟨rfl, o6⟩, fun z h0 h1 h3 => by rw [i2 z h0]; exact f4 z h0 h1 h3, s7⟩)
          · intro m hm ih I6 hi
            obtain ⟨i1, i2⟩ := hi
            obtain ⟨g2, g3, g4, g5, _⟩ := q2 m hm
            have g6 : I6 103 (itp p (n + j0) m) = nI (itp p (n + j0) (m + 1)) := by rw [i2 103 (by decide), p4 _ g3]; exact cm_n (by show p (itp p (n + j0) m) < 99; omega)
            have g7 : itp p (n + j0) (m + 1) < 2 * n := g4
            have lk : ∃ i j, i < n ∧ j < n ∧ ((itp p (n + j0) (m + 1) = i ∧ itp p (n + j0) m = n + j) ∨ (0 < shm n p (n + j0) F1 m (i * 6 + j) ∧ itp p (n + j0) (m + 1) = n + j ∧ itp p (n + j0) m = i)) := by
              obtain ⟨i, j, hi, hj, _, z | ⟨_, z1, z2⟩⟩ := o1 m hm
              · exact ⟨i, j, hi, hj, Or.inl z⟩
              · have hp := shm_pos hn.2 o1 o2 (m := m) hm (by omega)
                rw [show itp p (n + j0) m * 6 + (p (itp p (n + j0) m) - n) = i * 6 + j by omega] at hp
                exact ⟨i, j, hi, hj, Or.inr ⟨hp, z1, z2⟩⟩
            refine Ez.blk B_X10_lower_141 (lo' := [some (.ref 93), some (.int (nI i0)), some (.int (nI j0)), some (.int (nI n)), some (.int (nI (6 * i0 + j0))), some (.int (nI (itp p (n + j0) m)))]) (st' := [.int (nI i0), .int (nI (itp p (n + j0) m))]) (I' := I6) (J' := J5) (Ps := []) rfl trivial ?_
            refine Ez.n_icmp_eq (off := 28) (tgt := 172) (by decide +kernel) (by decide) (a := (itp p (n + j0) m)) (b := i0) rfl rfl (by omega) (by omega) (fun h => absurd h g2) (fun h => ?_)
            refine Ez.blk B_X10_lower_147 (lo' := [some (.ref 93), some (.int (nI i0)), some (.int (nI j0)), some (.int (nI n)), some (.int (nI (6 * i0 + j0))), some (.int (nI (itp p (n + j0) m)))]) (st' := [.int (nI (itp p (n + j0) m)), .int (I6 103 ((nI (itp p (n + j0) m)).toNatClampNeg)), .ref 93]) (I' := I6) (J' := J5) (Ps := [aO E0 93 10 ∧ E0.2.2 93 11 ≠ 0, aAr E0 1 103 (nI (itp p (n + j0) m))]) rfl ⟨r_93_11, (a_103 (vin (n := (itp p (n + j0) m)) rfl (by omega) (by decide)))⟩ ?_
            rw [cln (x := nI (itp p (n + j0) m)) (n := (itp p (n + j0) m)) rfl (by omega)]
            rw [g6]
            refine Ez.callV (As := [.int (nI (itp p (n + j0) (m + 1))), .int (nI (itp p (n + j0) m))]) (b := 93) (rest := []) kn_X10_shift ml_10_147 im_X10_shift se_X10_shift rfl (by decide +kernel) rfl rfl (Nat.le_of_ble_eq_true rfl) (Nat.le_of_ble_eq_true rfl) o_93 (s_shiftM _ I6 J5 n hn.2 (by rw [i2 94 (by decide)]; exact T4.1) (shm n p (n + j0) F1 m) i1 (fun _ _ => True) (itp p (n + j0) (m + 1)) (itp p (n + j0) m) lk) (fun r I7 J7 hq => ?_)
            obtain ⟨rfl, rfl, k1, k2⟩ := hq
            have g8 : I7 103 (itp p (n + j0) m) = nI (itp p (n + j0) (m + 1)) := by rw [k2 103 (by decide)]; exact g6
            refine Ez.blk B_X10_lower_160 (lo' := [some (.ref 93), some (.int (nI i0)), some (.int (nI j0)), some (.int (nI n)), some (.int (nI (6 * i0 + j0))), some (.int (I7 103 ((nI (itp p (n + j0) m)).toNatClampNeg)))]) (st' := []) (I' := I7) (J' := J7) (Ps := [aO E0 93 10 ∧ E0.2.2 93 11 ≠ 0, aAr E0 1 103 (nI (itp p (n + j0) m))]) rfl ⟨r_93_11, (a_103 (vin (n := (itp p (n + j0) m)) rfl (by omega) (by decide)))⟩ ?_
            rw [cln (x := nI (itp p (n + j0) m)) (n := (itp p (n + j0) m)) rfl (by omega)]
            rw [g8]
            exact ih I7 ⟨k1, fun z hz => by rw [k2 z hz]; exact i2 z hz⟩
        refine Ez.blk B_X10_lower_125 (lo' := [some (.ref 93), some (.int (nI i0)), some (.int (nI j0)), some (.int (nI n)), some (.int (nI (6 * i0 + j0))), some (.int (nI n + nI j0))]) (st' := []) (I' := (aUp I5 100 ((nI (6 * i0 + j0)).toNatClampNeg) (I5 100 ((nI (6 * i0 + j0)).toNatClampNeg) - 1))) (J' := J5) (Ps := [aO E0 93 10 ∧ E0.2.2 93 8 ≠ 0, aAr E0 1 100 (nI (6 * i0 + j0)), aAr E0 1 100 (nI (6 * i0 + j0))]) rfl ⟨r_93_8, (a_100 (vin (n := (6 * i0 + j0)) rfl (by omega) (by decide))), (a_100 (vin (n := (6 * i0 + j0)) rfl (by omega) (by decide)))⟩ ?_
        rw [cln (x := nI (6 * i0 + j0)) (n := (6 * i0 + j0)) rfl (by omega)]
        rw [show (nI n + nI j0) = nI (n + j0) from (eq_add (a := n) (b := j0) rfl rfl)]
        exact LP 0 (by omega) _ ⟨fun z hz => by
          show _ = nI (F1 z)
          rw [hF1]
          by_cases e : z = 6 * i0 + j0
          · rw [e, aUp_eq, show 6 * i0 + j0 = i0 * 6 + j0 by omega, cup_eq, T4.2.2.1 _ (by omega)]; exact eq_sub rfl rfl hp
          · rw [aUp_nk e, cup_ne (by omega)]; exact T4.2.2.1 z hz, fun z hz => aUp_ne hz⟩
      · have g1 : S.1 (n + j0) ≠ (dd i0 j0 : Int) := fun q => g1 (by rw [q])
        refine Ez.blk B_X10_lower_123 (lo' := [some (.ref 93), some (.int (nI i0)), some (.int (nI j0)), some (.int (nI n)), some (.int (nI (6 * i0 + j0))), none]) (st' := [.int 0]) (I' := I5) (J' := J5) (Ps := []) rfl trivial ?_
        exact Ez.zret rfl (Or.inl rfl) (by decide +kernel) (hQ _ _ _ ⟨0, F, rfl, T4, hF, hz, hO, Nat.le_refl _, fun _ _ _ _ _ => rfl, Or.inl ⟨rfl, lw_low hn.2 hi0 hj0 hF hO hb hd hp s3 s4 g1⟩, f4, s7⟩)
    have LR : ∀ k : Nat, ∀ (I3 : aI) (J3 : aJ) (S : RS), SR n I3 J3 (S.1, S.2.1, 99) → MT n dd F (fxl i0 j0) I3 J3 → LI n dd F (fxl i0 j0) (pot n u v) i0 (sz S.1 (2 * n)) (fun _ _ => False) (S.1, S.2.1, 99) → sz S.1 (2 * n) ≤ -((2 * n : Nat) : Int) * 900000000000000000 + (k : Int) → (∀ q, q ≠ 100 → q ≠ 101 → q ≠ 103 → I3 q = I1 q) → (∀ q, q ≠ 102 → J3 q = J1 q) → Ez m_X10_lower (d + 3) 77 [some (.ref 93), some (.int (nI i0)), some (.int (nI j0)), some (.int (nI n)), some (.int (nI (6 * i0 + j0))), none] [] E0 I3 J3 Q := by
      intro k
      induction k with
      | zero =>
        intro I3 J3 S s1 s2 s3 s4 s6 s7
        refine Ez.blk B_X10_lower_77 (lo' := [some (.ref 93), some (.int (nI i0)), some (.int (nI j0)), some (.int (nI n)), some (.int (nI (6 * i0 + j0))), none]) (st' := [.ref 93]) (I' := I3) (J' := J3) (Ps := []) rfl trivial ?_
        refine Ez.callV (As := []) (b := 93) (rest := []) kn_X10_relax ml_10_144 im_X10_relax se_X10_relax rfl (by decide +kernel) rfl rfl (Nat.le_of_ble_eq_true rfl) (Nat.le_of_ble_eq_true rfl) o_93 (s_relax _ I3 J3 n dd F (fxl i0 j0) s2 hn hFb (S.1, S.2.1, 99) s1 rfl (-900000000000000000) (li_bnd hK (by omega) s3) (by omega)) (fun r I4 J4 hq => ?_)
        obtain ⟨rfl, k1, k2, k3⟩ := hq
        have r1 := ral_li hn.2 (by omega) hd hπ s3
        have T4 := MT_fr s2 (k2 94 (by decide)) (k3 98 (by decide)) (k2 100 (by decide)) (k2 101 (by decide))
        have f4 : ∀ q, q ≠ 100 → q ≠ 101 → q ≠ 103 → I4 q = I1 q := fun q h0 h1 h3 => by rw [k2 q h3]; exact s6 q h0 h1 h3
        have f5 : ∀ q, q ≠ 102 → J4 q = J1 q := fun q h0 => by rw [k3 q h0]; exact s7 q h0
        generalize ral n dd F (fxl i0 j0) n (S.1, S.2.1, 99) = S' at k1 r1 ⊢
        have hch : S'.2.2 < 99 ∨ S'.2.2 = 99 := by
          obtain ⟨_, _, _, _, _, _, _, _, z⟩ := r1
          omega
        refine Ez.blk B_X10_lower_81 (lo' := [some (.ref 93), some (.int (nI i0)), some (.int (nI j0)), some (.int (nI n)), some (.int (nI (6 * i0 + j0))), none]) (st' := [.int (-7), .int (cm S'.2.2)]) (I' := I4) (J' := J4) (Ps := []) rfl trivial ?_
        refine Ez.icmp_eq (off := 14) (tgt := 97) (by decide +kernel) (by decide) (fun g => ?_) (fun g => ?_)
        · exact LX I4 J4 S' _ k1 T4 r1 ((cm_m7 hch).mp g) f4 f5
        · have g2 : ¬ S'.2.2 = 99 := fun q => g ((cm_m7 hch).mpr q)
          have lb := sz_lo (f := S'.1) (K := 900000000000000000) (n := 2 * n) (fun i hi => (li_bnd hK (by omega) r1 i hi).1)
          have lt : sz S'.1 (2 * n) < sz S.1 (2 * n) := by obtain ⟨_, _, _, _, _, _, _, z, _⟩ := r1; exact z.2 g2
          have p0 : S'.2.1 i0 = 99 := by obtain ⟨_, _, _, z, _⟩ := r1; exact z.2
          omega
      | succ k ih =>
        intro I3 J3 S s1 s2 s3 s4 s6 s7
        refine Ez.blk B_X10_lower_77 (lo' := [some (.ref 93), some (.int (nI i0)), some (.int (nI j0)), some (.int (nI n)), some (.int (nI (6 * i0 + j0))), none]) (st' := [.ref 93]) (I' := I3) (J' := J3) (Ps := []) rfl trivial ?_
        refine Ez.callV (As := []) (b := 93) (rest := []) kn_X10_relax ml_10_144 im_X10_relax se_X10_relax rfl (by decide +kernel) rfl rfl (Nat.le_of_ble_eq_true rfl) (Nat.le_of_ble_eq_true rfl) o_93 (s_relax _ I3 J3 n dd F (fxl i0 j0) s2 hn hFb (S.1, S.2.1, 99) s1 rfl (-900000000000000000) (li_bnd hK (by omega) s3) (by omega)) (fun r I4 J4 hq => ?_)
        obtain ⟨rfl, k1, k2, k3⟩ := hq
        have r1 := ral_li hn.2 (by omega) hd hπ s3
        have T4 := MT_fr s2 (k2 94 (by decide)) (k3 98 (by decide)) (k2 100 (by decide)) (k2 101 (by decide))
        have f4 : ∀ q, q ≠ 100 → q ≠ 101 → q ≠ 103 → I4 q = I1 q := fun q h0 h1 h3 => by rw [k2 q h3]; exact s6 q h0 h1 h3
        have f5 : ∀ q, q ≠ 102 → J4 q = J1 q := fun q h0 => by rw [k3 q h0]; exact s7 q h0
        generalize ral n dd F (fxl i0 j0) n (S.1, S.2.1, 99) = S' at k1 r1 ⊢
        have hch : S'.2.2 < 99 ∨ S'.2.2 = 99 := by
          obtain ⟨_, _, _, _, _, _, _, _, z⟩ := r1
          omega
        refine Ez.blk B_X10_lower_81 (lo' := [some (.ref 93), some (.int (nI i0)), some (.int (nI j0)), some (.int (nI n)), some (.int (nI (6 * i0 + j0))), none]) (st' := [.int (-7), .int (cm S'.2.2)]) (I' := I4) (J' := J4) (Ps := []) rfl trivial ?_
        refine Ez.icmp_eq (off := 14) (tgt := 97) (by decide +kernel) (by decide) (fun g => ?_) (fun g => ?_)
        · exact LX I4 J4 S' _ k1 T4 r1 ((cm_m7 hch).mp g) f4 f5
        · have g2 : ¬ S'.2.2 = 99 := fun q => g ((cm_m7 hch).mpr q)
          have lb := sz_lo (f := S'.1) (K := 900000000000000000) (n := 2 * n) (fun i hi => (li_bnd hK (by omega) r1 i hi).1)
          have lt : sz S'.1 (2 * n) < sz S.1 (2 * n) := by obtain ⟨_, _, _, _, _, _, _, z, _⟩ := r1; exact z.2 g2
          have p0 : S'.2.1 i0 = 99 := by obtain ⟨_, _, _, z, _⟩ := r1; exact z.2
          refine Ez.blk B_X10_lower_86 (lo' := [some (.ref 93), some (.int (nI i0)), some (.int (nI j0)), some (.int (nI n)), some (.int (nI (6 * i0 + j0))), none]) (st' := []) (I' := (aUp I4 103 ((nI i0).toNatClampNeg) (-7))) (J' := J4) (Ps := [aO E0 93 10 ∧ E0.2.2 93 11 ≠ 0, aAr E0 1 103 (nI i0)]) rfl ⟨r_93_11, (a_103 (vin (n := i0) rfl (by omega) (by decide)))⟩ ?_
          rw [cln (x := nI i0) (n := i0) rfl (by omega)]
          exact ih _ J4 S' ⟨k1.1, fun w hw => by
            by_cases e : w = i0
            · rw [e, aUp_eq]; show _ = cm (S'.2.1 i0); rw [p0]; rfl
            · rw [aUp_nk e]; exact k1.2 w hw⟩ (MT_fr T4 (aUp_ne (by decide)) rfl (aUp_ne (by decide)) (aUp_ne (by decide))) (li_next r1) (by omega) (fun q h0 h1 h3 => by rw [aUp_ne h3]; exact f4 q h0 h1 h3) f5
    have LI0 : ∀ k, k ≤ (2 * n) → ∀ (I3 : aI) (J3 : aJ), ((∀ w, w < k → J3 102 w = zL NOR) ∧ (∀ w, w < k → I3 103 w = -7) ∧ (∀ q, q ≠ 103 → I3 q = I2 q) ∧ ∀ q, q ≠ 102 → J3 q = J1 q) → Ez m_X10_lower (d + 3) 37 [some (.ref 93), some (.int (nI i0)), some (.int (nI j0)), some (.int (nI n)), some (.int (nI (6 * i0 + j0))), some (.int (nI k))] [] E0 I3 J3 Q := by
      refine for_up ?_ ?_
      · intro I3 J3 hi
        obtain ⟨i1, i2, i3, i4⟩ := hi
        refine Ez.blk B_X10_lower_37 (lo' := [some (.ref 93), some (.int (nI i0)), some (.int (nI j0)), some (.int (nI n)), some (.int (nI (6 * i0 + j0))), some (.int (nI (2 * n)))]) (st' := [.int (2 * nI n), .int (nI (2 * n))]) (I' := I3) (J' := J3) (Ps := []) rfl trivial ?_
        refine Ez.n_icmp_ge (off := 28) (tgt := 70) (by decide +kernel) (by decide) (a := (2 * n)) (b := (2 * n)) rfl (eq_mul (a := 2) (b := n) rfl rfl) (by omega) (by omega) (fun h => ?_) (fun h => absurd h (by omega))
        refine Ez.blk B_X10_lower_70 (lo' := [some (.ref 93), some (.int (nI i0)), some (.int (nI j0)), some (.int (nI n)), some (.int (nI (6 * i0 + j0))), some (.int (nI (2 * n)))]) (st' := []) (I' := I3) (J' := (aUpJ J3 102 ((nI i0).toNatClampNeg) 0)) (Ps := [aO E0 93 10 ∧ E0.2.2 93 10 ≠ 0, aAr E0 2 102 (nI i0)]) rfl ⟨r_93_10, (a_102 (vin (n := i0) rfl (by omega) (by decide)))⟩ ?_
        rw [cln (x := nI i0) (n := i0) rfl (by omega)]
        refine Ez.drops [5] (lo' := [some (.ref 93), some (.int (nI i0)), some (.int (nI j0)), some (.int (nI n)), some (.int (nI (6 * i0 + j0))), none]) rfl ?_
        have lk := sz_lo (f := zup (fun _ => NOR) i0 0) (K := 900000000000000000) (n := 2 * n) (fun w _ => by
          by_cases e : w = i0
          · rw [e, zup_eq]; omega
          · rw [zup_ne e]; show _ ≤ NOR; omega)
        exact LR (sz (zup (fun _ => NOR) i0 0) (2 * n) + ((2 * n : Nat) : Int) * 900000000000000000).toNat I3 _ (zup (fun _ => NOR) i0 0, fun _ => 99, 99) ⟨fun w hw => by
          show _ = zL (zup (fun _ => NOR) i0 0 w)
          by_cases e : w = i0
          · rw [e, aUpJ_eq, zup_eq]; rfl
          · rw [aUpJ_nk e, zup_ne e]; exact i1 w hw, fun w hw => by rw [i2 w hw]; rfl⟩ (MT_fr T2 (i3 94 (by decide)) (by rw [aUpJ_ne (by decide), i4 98 (by decide)]) (i3 100 (by decide)) (i3 101 (by decide))) (li_0 hn.1 (by omega)) (by show sz (zup (fun _ => NOR) i0 0) (2 * n) ≤ _; omega) (fun q h0 h1 h3 => by rw [i3 q h3]; exact f2 q h0 h1 h3) (fun q h0 => by rw [aUpJ_ne h0]; exact i4 q h0)
      · intro k hk ih I3 J3 hi
        obtain ⟨i1, i2, i3, i4⟩ := hi
        refine Ez.blk B_X10_lower_37 (lo' := [some (.ref 93), some (.int (nI i0)), some (.int (nI j0)), some (.int (nI n)), some (.int (nI (6 * i0 + j0))), some (.int (nI k))]) (st' := [.int (2 * nI n), .int (nI k)]) (I' := I3) (J' := J3) (Ps := []) rfl trivial ?_
        refine Ez.n_icmp_ge (off := 28) (tgt := 70) (by decide +kernel) (by decide) (a := k) (b := (2 * n)) rfl (eq_mul (a := 2) (b := n) rfl rfl) (by omega) (by omega) (fun h => absurd h (by omega)) (fun h => ?_)
        refine Ez.blk B_X10_lower_45 (lo' := [some (.ref 93), some (.int (nI i0)), some (.int (nI j0)), some (.int (nI n)), some (.int (nI (6 * i0 + j0))), some (.int (nI k + 1))]) (st' := []) (I' := (aUp I3 103 ((nI k).toNatClampNeg) (-7))) (J' := (aUpJ J3 102 ((nI k).toNatClampNeg) 2305843009213693951)) (Ps := [aO E0 93 10 ∧ E0.2.2 93 10 ≠ 0, aAr E0 2 102 (nI k), aO E0 93 10 ∧ E0.2.2 93 11 ≠ 0, aAr E0 1 103 (nI k)]) rfl ⟨r_93_10, (a_102 (vin (n := k) rfl (by omega) (by decide))), r_93_11, (a_103 (vin (n := k) rfl (by omega) (by decide)))⟩ ?_
        rw [cln (x := nI k) (n := k) rfl (by omega)]
        rw [show (nI k + 1) = nI (k + 1) from (eq_add (a := k) (b := 1) rfl rfl)]
        exact ih _ _ ⟨fun w hw => by
          by_cases e : w = k
          · rw [e, aUpJ_eq]; rfl
          · rw [aUpJ_nk e]; exact i1 w (by omega), fun w hw => by
          by_cases e : w = k
          · rw [e, aUp_eq]
          · rw [aUp_nk e]; exact i2 w (by omega), fun q hq => by rw [aUp_ne hq]; exact i3 q hq, fun q hq => by rw [aUpJ_ne hq]; exact i4 q hq⟩
    exact LI0 0 (by omega) I2 J1 ⟨fun w hw => by omega, fun w hw => by omega, fun _ _ => rfl, fun _ _ => rfl⟩
  · refine Ez.blk B_X10_lower_16 (lo' := [some (.ref 93), some (.int (nI i0)), some (.int (nI j0)), some (.int (nI n)), none, none]) (st' := [.int 0]) (I' := I1) (J' := J1) (Ps := []) rfl trivial ?_
    exact Ez.zret rfl (Or.inl rfl) (by decide +kernel) (hQ _ _ _ ⟨0, F, rfl, hT, hF, hz, hO, Nat.le_refl _, fun _ _ _ _ _ => rfl, Or.inl ⟨rfl, Low_0 g0⟩, fun _ _ _ _ => rfl, fun _ _ => rfl⟩)
theorem MT_fx {n : Nat} {dd : Nat → Nat → Nat} {F : Nat → Nat} {fx fx' : Nat → Nat → Bool} {I : aI} {J : aJ} (h : MT n dd F fx I J) (hf : ∀ x y, x < n → y < n → fx' x y = fx x y) : MT n dd F fx' I J := ⟨h.1, h.2.1, h.2.2.1, fun x y hx hy => by rw [hf x y hx hy]; exact h.2.2.2 x y hx hy⟩
theorem fxb_c {i j x y : Nat} : fxb i (j + 1) x y = fxl i j x y := by
  unfold fxb fxl
  by_cases e : x < i ∨ (x = i ∧ y ≤ j)
  · rw [decide_eq_true e, decide_eq_true (show x < i ∨ (x = i ∧ y < j + 1) by omega)]
  · rw [decide_eq_false e, decide_eq_false (show ¬ (x < i ∨ (x = i ∧ y < j + 1)) by omega)]
theorem fxb_r {n i x y : Nat} (hy : y < n) : fxb (i + 1) 0 x y = fxb i n x y := by
  unfold fxb
  by_cases e : x < i ∨ (x = i ∧ y < n)
  · rw [decide_eq_true e, decide_eq_true (show x < i + 1 ∨ (x = i + 1 ∧ y < 0) by omega)]
  · rw [decide_eq_false e, decide_eq_false (show ¬ (x < i + 1 ∨ (x = i + 1 ∧ y < 0)) by omega)]
/-- the coupling while its entries are lowered -/
def KI (n : Nat) (U V : Nat → Nat) (dd : Nat → Nat → Nat) (u v : Nat → Int) (i j : Nat) (F : Nat → Nat) (I : aI) (J : aJ) : Prop := MT n dd F (fxb i j) I J ∧ Cpl n U V (mx F) ∧ Oz n F ∧ Opt n dd (mx F) u v ∧ ∀ x y, x < n → y < n → (x < i ∨ (x = i ∧ y < j)) → Low n U V dd (mx F) x y
theorem s_canonM (d : Nat) (I : aI) (J : aJ) (c : Nat → Nat) (hc : MC c I) (W : Wc c) (dd : Nat → Nat → Nat) (hd : ∀ i j, i < c 0 → j < c 0 → J 98 (6 * i + j) = lN (dd i j) ∧ dd i j ≤ 1000000000000000) (s t : Nat) (hs : s < c 0) (ht : t < c 0) : Sp m_X10_canonicalCoupling (d + 5) [.ref 93, .int (nI s), .int (nI t)] E0 I J (fun r I' J' => r = none ∧ (∃ F, (∀ q, q < 36 → I' 100 q = nI (F q)) ∧ Can (c 0) (wro_ c s) (wro_ c t) dd (mx F)) ∧ (∀ q, q ≠ 100 → q ≠ 101 → q ≠ 103 → I' q = I q) ∧ ∀ q, q ≠ 102 → J' q = J q) := by
  refine Sp.of (lo := [some (.ref 93), some (.int (nI s)), some (.int (nI t)), none, none, none]) rfl (fun Q hQ => ?_)
  have hU : ∀ i, i < c 0 → wro_ c s i ≤ 12 := fun i hi => by have := Wc_w W (6 * s + i) (by have := W.1; omega); rw [show 10 + (6 * s + i) = 10 + 6 * s + i by omega] at this; exact this
  refine Ez.blk B_X10_canonicalCoupling_0 (lo' := [some (.ref 93), some (.int (nI s)), some (.int (nI t)), none, none, none]) (st' := [.int (nI t), .int (nI s), .ref 93]) (I' := I) (J' := J) (Ps := []) rfl trivial ?_
  refine Ez.callV (As := [.int (nI s), .int (nI t)]) (b := 93) (rest := []) kn_X10_optimize ml_10_156 im_X10_optimize se_X10_optimize rfl (by decide +kernel) rfl rfl (Nat.le_of_ble_eq_true rfl) (Nat.le_of_ble_eq_true rfl) o_93 (s_optM _ I J c hc W dd hd s t hs ht) (fun r I1 J1 hq => ?_)
  obtain ⟨rfl, ⟨F0, f1, f2, f3, u, v, f4, f5⟩, k2, k3⟩ := hq
  obtain ⟨n, hn⟩ : ∃ n, n = c 0 := ⟨_, rfl⟩
  have w1 := W.1
  rw [← hn] at hs ht f1 f2 f3 f4 f5 hU w1
  refine Ez.blk B_X10_canonicalCoupling_6 (lo' := [some (.ref 93), some (.int (nI s)), some (.int (nI t)), some (.int 0), none, none]) (st' := []) (I' := I1) (J' := J1) (Ps := []) rfl trivial ?_
  have L1 : ∀ i, i ≤ n → ∀ (I2 : aI) (J2 : aJ) (F : Nat → Nat), (KI n (wro_ c s) (wro_ c t) dd u v i 0 F I2 J2 ∧ (∀ q, q ≠ 100 → q ≠ 101 → q ≠ 103 → I2 q = I q) ∧ ∀ q, q ≠ 102 → J2 q = J q) → Ez m_X10_canonicalCoupling (d + 5) 8 [some (.ref 93), some (.int (nI s)), some (.int (nI t)), some (.int (nI i)), none, none] [] E0 I2 J2 Q := by
    refine for_up ?_ ?_
    · intro I2 J2 F hi
      obtain ⟨i1, i2, i3⟩ := hi
      refine Ez.blk B_X10_canonicalCoupling_8 (lo' := [some (.ref 93), some (.int (nI s)), some (.int (nI t)), some (.int (nI n)), none, none]) (st' := [.int (I2 94 0), .int (nI n)]) (I' := I2) (J' := J2) (Ps := [aO E0 93 10 ∧ E0.2.2 93 0 ≠ 0, aAr E0 1 94 0]) rfl ⟨r_93_0, (a_94 (vin (n := 0) rfl (by omega) (by decide)))⟩ ?_
      refine Ez.n_icmp_ge (off := 62) (tgt := 77) (by decide +kernel) (by decide) (a := n) (b := n) rfl i1.1.1 (by omega) (by omega) (fun h => ?_) (fun h => absurd h (by omega))
      exact Ez.vret rfl (by decide +kernel) (hQ _ _ _ ⟨rfl, ⟨F, i1.1.2.2.1, by rw [← hn]; exact ⟨i1.2.1, fun g hg => opt_min i1.2.2.2.1 (cpl_sm i1.2.1 hg), fun g hg hcg x y hx hy => i1.2.2.2.2 x y hx hy (Or.inl hx) g hg hcg⟩⟩, i2, i3⟩)
    · intro i hin ih I2 J2 F hi
      obtain ⟨i1, i2, i3⟩ := hi
      refine Ez.blk B_X10_canonicalCoupling_8 (lo' := [some (.ref 93), some (.int (nI s)), some (.int (nI t)), some (.int (nI i)), none, none]) (st' := [.int (I2 94 0), .int (nI i)]) (I' := I2) (J' := J2) (Ps := [aO E0 93 10 ∧ E0.2.2 93 0 ≠ 0, aAr E0 1 94 0]) rfl ⟨r_93_0, (a_94 (vin (n := 0) rfl (by omega) (by decide)))⟩ ?_
      refine Ez.n_icmp_ge (off := 62) (tgt := 77) (by decide +kernel) (by decide) (a := i) (b := n) rfl i1.1.1 (by omega) (by omega) (fun h => absurd h (by omega)) (fun h => ?_)
      refine Ez.blk B_X10_canonicalCoupling_18 (lo' := [some (.ref 93), some (.int (nI s)), some (.int (nI t)), some (.int (nI i)), some (.int 0), none]) (st' := []) (I' := I2) (J' := J2) (Ps := []) rfl trivial ?_
      have L2 : ∀ j, j ≤ n → ∀ (I3 : aI) (J3 : aJ) (F : Nat → Nat), (KI n (wro_ c s) (wro_ c t) dd u v i j F I3 J3 ∧ (∀ q, q ≠ 100 → q ≠ 101 → q ≠ 103 → I3 q = I q) ∧ ∀ q, q ≠ 102 → J3 q = J q) → Ez m_X10_canonicalCoupling (d + 5) 21 [some (.ref 93), some (.int (nI s)), some (.int (nI t)), some (.int (nI i)), some (.int (nI j)), none] [] E0 I3 J3 Q := by
        refine for_up ?_ ?_
        · intro I3 J3 F hj
          obtain ⟨i1, i2, i3⟩ := hj
          refine Ez.blk B_X10_canonicalCoupling_21 (lo' := [some (.ref 93), some (.int (nI s)), some (.int (nI t)), some (.int (nI i)), some (.int (nI n)), none]) (st' := [.int (I3 94 0), .int (nI n)]) (I' := I3) (J' := J3) (Ps := [aO E0 93 10 ∧ E0.2.2 93 0 ≠ 0, aAr E0 1 94 0]) rfl ⟨r_93_0, (a_94 (vin (n := 0) rfl (by omega) (by decide)))⟩ ?_
          refine Ez.n_icmp_ge (off := 42) (tgt := 71) (by decide +kernel) (by decide) (a := n) (b := n) rfl i1.1.1 (by omega) (by omega) (fun h9 => ?_) (fun h9 => absurd h9 (by omega))
          refine Ez.blk B_X10_canonicalCoupling_71 (lo' := [some (.ref 93), some (.int (nI s)), some (.int (nI t)), some (.int (nI i + 1)), some (.int (nI n)), none]) (st' := []) (I' := I3) (J' := J3) (Ps := []) rfl trivial ?_
          rw [show (nI i + 1) = nI (i + 1) from (eq_add (a := i) (b := 1) rfl rfl)]
          refine Ez.drops [4] (lo' := [some (.ref 93), some (.int (nI s)), some (.int (nI t)), some (.int (nI (i + 1))), none, none]) rfl ?_
          exact ih I3 J3 F ⟨⟨MT_fx i1.1 (fun x y _ hy => fxb_r hy), i1.2.1, i1.2.2.1, i1.2.2.2.1, fun x y hx hy q => i1.2.2.2.2 x y hx hy (by omega)⟩, i2, i3⟩
        · intro j hjn ih2 I3 J3 F hj
          obtain ⟨i1, i2, i3⟩ := hj
          refine Ez.blk B_X10_canonicalCoupling_21 (lo' := [some (.ref 93), some (.int (nI s)), some (.int (nI t)), some (.int (nI i)), some (.int (nI j)), none]) (st' := [.int (I3 94 0), .int (nI j)]) (I' := I3) (J' := J3) (Ps := [aO E0 93 10 ∧ E0.2.2 93 0 ≠ 0, aAr E0 1 94 0]) rfl ⟨r_93_0, (a_94 (vin (n := 0) rfl (by omega) (by decide)))⟩ ?_
          refine Ez.n_icmp_ge (off := 42) (tgt := 71) (by decide +kernel) (by decide) (a := j) (b := n) rfl i1.1.1 (by omega) (by omega) (fun h9 => absurd h9 (by omega)) (fun h9 => ?_)
          refine Ez.blk B_X10_canonicalCoupling_32 (lo' := [some (.ref 93), some (.int (nI s)), some (.int (nI t)), some (.int (nI i)), some (.int (nI j)), some (.int 1)]) (st' := []) (I' := I3) (J' := J3) (Ps := []) rfl trivial ?_
          have LL : ∀ k, ∀ (F : Nat → Nat) (I4 : aI) (J4 : aJ), F (i * 6 + j) = k → KI n (wro_ c s) (wro_ c t) dd u v i j F I4 J4 → (∀ q, q ≠ 100 → q ≠ 101 → q ≠ 103 → I4 q = I q) → (∀ q, q ≠ 102 → J4 q = J q) → Ez m_X10_canonicalCoupling (d + 5) 35 [some (.ref 93), some (.int (nI s)), some (.int (nI t)), some (.int (nI i)), some (.int (nI j)), some (.int 1)] [] E0 I4 J4 Q := by
            intro k
            induction k using Nat.strongRecOn with
            | _ k ih3 =>
              intro F I4 J4 e1 e2 e3 e4
              refine Ez.blk B_X10_canonicalCoupling_35 (lo' := [some (.ref 93), some (.int (nI s)), some (.int (nI t)), some (.int (nI i)), some (.int (nI j)), some (.int 1)]) (st' := [.int 1]) (I' := I4) (J' := J4) (Ps := []) rfl trivial ?_
              refine Ez.n_if_eq (off := 15) (tgt := 52) (by decide +kernel) (by decide) (a := 1) rfl (by omega) (fun h8 => absurd h8 (by decide)) (fun h8 => ?_)
              refine Ez.blk B_X10_canonicalCoupling_40 (lo' := [some (.ref 93), some (.int (nI s)), some (.int (nI t)), some (.int (nI i)), some (.int (nI j)), some (.int 1)]) (st' := [.int (nI j), .int (nI i), .ref 93]) (I' := I4) (J' := J4) (Ps := []) rfl trivial ?_
              refine Ez.callV (As := [.int (nI i), .int (nI j)]) (b := 93) (rest := []) kn_X10_lower ml_10_159 im_X10_lower se_X10_lower rfl (by decide +kernel) rfl rfl (Nat.le_of_ble_eq_true rfl) (Nat.le_of_ble_eq_true rfl) o_93 (s_lower _ I4 J4 n dd F i j e2.1 w1 (wro_ c s) (wro_ c t) e2.2.1 e2.2.2.1 hU u v e2.2.2.2.1 f5 hin hjn) (fun r I5 J5 hq => ?_)
              obtain ⟨vv, F', rfl, g1, g2, g3, g4, g5, g6, g7, g8, g9⟩ := hq
              have h1 : ∀ q, q ≠ 100 → q ≠ 101 → q ≠ 103 → I5 q = I q := fun q a b c_ => by rw [g8 q a b c_]; exact e3 q a b c_
              have h2 : ∀ q, q ≠ 102 → J5 q = J q := fun q a => by rw [g9 q a]; exact e4 q a
              have lw : ∀ x y, x < n → y < n → (x < i ∨ (x = i ∧ y < j)) → Low n (wro_ c s) (wro_ c t) dd (mx F') x y := fun x y hx hy hl => Low_same (e2.2.2.2.2 x y hx hy hl) g5 hx hy (fun a b ha hb q => by
                refine g6 a b ha hb ?_
                have : a * n + b < i * n + j := Nat.lt_of_le_of_lt q ((lex hjn hy).mpr hl)
                exact (lex hjn hb).mp this)
              rcases g7 with ⟨rfl, g7⟩ | ⟨rfl, g7⟩
              · refine Ez.blk B_X10_canonicalCoupling_47 (lo' := [some (.ref 93), some (.int (nI s)), some (.int (nI t)), some (.int (nI i)), some (.int (nI j)), some (.int 0)]) (st' := []) (I' := I5) (J' := J5) (Ps := []) rfl trivial ?_
                refine Ez.blk B_X10_canonicalCoupling_35 (lo' := [some (.ref 93), some (.int (nI s)), some (.int (nI t)), some (.int (nI i)), some (.int (nI j)), some (.int 0)]) (st' := [.int 0]) (I' := I5) (J' := J5) (Ps := []) rfl trivial ?_
                refine Ez.n_if_eq (off := 15) (tgt := 52) (by decide +kernel) (by decide) (a := 0) rfl (by omega) (fun h8 => ?_) (fun h8 => absurd rfl h8)
                refine Ez.blk B_X10_canonicalCoupling_52 (lo' := [some (.ref 93), some (.int (nI s)), some (.int (nI t)), some (.int (nI i)), some (.int (nI j + 1)), some (.int 0)]) (st' := []) (I' := (aUp I5 101 (((6 * nI i) + nI j).toNatClampNeg) 1)) (J' := J5) (Ps := [aO E0 93 10 ∧ E0.2.2 93 9 ≠ 0, aAr E0 3 101 ((6 * nI i) + nI j) ∧ (1 = 0 ∨ 1 = 1)]) rfl ⟨r_93_9, ⟨(a_101 (vin (n := (6 * i + j)) (eq_add (a := (6 * i)) (b := j) (eq_mul (a := 6) (b := i) rfl rfl) rfl) (by omega) (by decide))), (Or.inr rfl)⟩⟩ ?_
                rw [cln (x := ((6 * nI i) + nI j)) (n := (6 * i + j)) (eq_add (a := (6 * i)) (b := j) (eq_mul (a := 6) (b := i) rfl rfl) rfl) (by omega)]
                rw [show (nI j + 1) = nI (j + 1) from (eq_add (a := j) (b := 1) rfl rfl)]
                refine Ez.drops [5] (lo' := [some (.ref 93), some (.int (nI s)), some (.int (nI t)), some (.int (nI i)), some (.int (nI (j + 1))), none]) rfl ?_
                exact ih2 _ J5 F' ⟨⟨⟨by rw [aUp_ne (by decide)]; exact g1.1, g1.2.1, fun q hq => by rw [aUp_ne (by decide)]; exact g1.2.2.1 q hq, fun x y hx hy => by
                  rw [fxb_c]
                  by_cases e : x = i ∧ y = j
                  · rw [e.1, e.2, aUp_eq, fx_l]; rfl
                  · rw [aUp_nk (by omega), fx_own e]; exact g1.2.2.2 x y hx hy⟩, g2, g3, g4, fun x y hx hy hl => by
                  by_cases e : x = i ∧ y = j
                  · rw [e.1, e.2]; exact g7
                  · exact lw x y hx hy (by omega)⟩, fun q a b c_ => by rw [aUp_ne b]; exact h1 q a b c_, h2⟩
              · refine Ez.blk B_X10_canonicalCoupling_47 (lo' := [some (.ref 93), some (.int (nI s)), some (.int (nI t)), some (.int (nI i)), some (.int (nI j)), some (.int 1)]) (st' := []) (I' := I5) (J' := J5) (Ps := []) rfl trivial ?_
                exact ih3 _ (by omega) F' I5 J5 rfl ⟨g1, g2, g3, g4, lw⟩ h1 h2
          exact LL _ F I3 J3 rfl i1 i2 i3
      exact L2 0 (by omega) I2 J2 F ⟨i1, i2, i3⟩
  exact L1 0 (by omega) I1 J1 F0 ⟨⟨MT_fx f1 (fun x y _ _ => decide_eq_false (by omega)), f2, f3, f4, fun x y _ _ q => absurd q (by omega)⟩, k2, k3⟩

/-! THE REFERENCE: the input -/
theorem byt_s {x : Int32} {k : Nat} (hk : k < 4) : (x >>> ((8 * nI k) &&& 31)) &&& 255 = nI (byt x k) := by
  have key : ∀ (y : Int32) (j : Nat), j ≤ 24 → y.toInt = x.toInt >>> j → y &&& 255 = nI (x.toBitVec.toNat / 2 ^ j % 256) := by
    intro y j hj hy
    rw [pk_and y 8 (by decide)]
    congr 1
    have h1 : (y.toBitVec.toNat : Int) % 256 = (y.toInt) % 256 := by
      rw [← Int32.toInt_toBitVec, BitVec.toInt_eq_toNat_cond]
      split
      · rfl
      · show _ = ((y.toBitVec.toNat : Int) - ((2 ^ 32 : Nat) : Int)) % 256
        omega
    have h2 : (x.toInt >>> j) % 256 = (x.toBitVec.toNat / 2 ^ j : Nat) % 256 := by
      rw [Int.shiftRight_eq_div_pow, ← Int32.toInt_toBitVec, BitVec.toInt_eq_toNat_cond]
      split
      · rw [Int.natCast_ediv]
      · obtain ⟨e, he⟩ : ∃ e, j + (e + 8) = 32 := ⟨24 - j, by omega⟩
        have p2 : (2 : Nat) ^ 32 = 2 ^ j * (2 ^ e * 256) := by rw [← he, Nat.pow_add, Nat.pow_add]
        have pj : (0 : Nat) < 2 ^ j := Nat.pow_pos (by decide)
        rw [p2, Int.natCast_mul, Int.sub_eq_add_neg, Int.neg_mul_eq_mul_neg, Int.add_mul_ediv_left _ _ (by omega), Int.natCast_mul, Int.neg_mul_eq_neg_mul, Int.natCast_ediv]
        show (_ + _ * (256 : Int)) % 256 = _
        rw [Int.add_mul_emod_self_right]
    rw [hy, h2] at h1
    show y.toBitVec.toNat % 256 = _
    omega
  unfold byt
  rcases (show k = 0 ∨ k = 1 ∨ k = 2 ∨ k = 3 by omega) with rfl | rfl | rfl | rfl
  · exact key _ 0 (by omega) (pk_shr x _ 0 (by decide))
  · exact key _ 8 (by omega) (pk_shr x _ 8 (by decide))
  · exact key _ 16 (by omega) (pk_shr x _ 16 (by decide))
  · exact key _ 24 (by omega) (pk_shr x _ 24 (by decide))
theorem MP_b {T : TS} {I I' : aI} {J : aJ} {b : Nat × (Nat → Nat)} (h : MP T I J) (h1 : MBf b I') (h93 : ∀ k, k ≠ 18 → I' 93 k = I 93 k) (hI : ∀ q, q ≠ 93 → q ≠ 108 → I' q = I q) : MP (setB T b) I' J ∧ Fr1 I I' J J := ⟨⟨MC_fr h.1 (hI _ (by omega) (by omega)), MEd_fr h.2.1 (h93 2 (by omega)) (hI _ (by omega) (by omega)), MSn_fr h.2.2.1 (h93 4 (by omega)) (hI _ (by omega) (by omega)), h1, MSl_fr h.2.2.2.2 (hI _ (by omega) (by omega)) (hI _ (by omega) (by omega)) rfl⟩, fun b hb => ⟨hI b (by omega) (by omega), rfl⟩⟩
theorem m_clearInput (d : Nat) (I : aI) (J : aJ) (T : TS) (W : WT T) (hP : MP T I J) : Sp m_X10_clearInput (d + 1) [.ref 93] E0 I J (fun r I' J' => r = some (.int (f_clearInput T).1) ∧ MP (f_clearInput T).2 I' J' ∧ Fr1 I I' J J') := by
  refine Sp.of (lo := [some (.ref 93), none]) rfl (fun Q hQ => ?_)
  refine Ez.blk B_X10_clearInput_0 (lo' := [some (.ref 93), some (.int (I 93 18))]) (st' := [.int (I 93 18)]) (I' := (aUp I 93 18 0)) (J' := J) (Ps := [aO E0 93 10, aO E0 93 10]) rfl ⟨o_93, o_93⟩ ?_
  rw [hP.2.2.2.1.1]
  generalize hI1 : (aUp I 93 18 0) = I1
  exact Ez.iret rfl (by decide +kernel) (hQ _ _ _ ⟨rfl, MP_b hP ⟨by rw [← hI1, aUp_eq]; rfl, fun i hi => absurd hi (Nat.not_lt_zero _)⟩ (fun k hk => by rw [← hI1, aUp_nk hk]) (fun q h0 _ => by rw [← hI1, aUp_ne h0])⟩)
theorem m_append (d : Nat) (I : aI) (J : aJ) (T : TS) (W : WT T) (hP : MP T I J) (x y : Int32) : Sp m_X10_append (d + 2) [.ref 93, .int x, .int y] E0 I J (fun r I' J' => r = some (.int (f_append T x y).1) ∧ MP (f_append T x y).2 I' J' ∧ Fr1 I I' J J') := by
  refine Sp.of (lo := [some (.ref 93), some (.int x), some (.int y), none]) rfl (fun Q hQ => ?_)
  have wl : bL T ≤ 80 := W.2.2.2.1.1
  refine Ez.blk B_X10_append_0 (lo' := [some (.ref 93), some (.int x), some (.int y), none]) (st' := [.long 4, .long 1, .long y.toInt64]) (I' := I) (J' := J) (Ps := []) rfl trivial ?_
  refine Ez.callS (As := [.long y.toInt64, .long 1, .long 4]) (rest := []) kn_X10_in ml_10_81 sm_X10_in (by decide +kernel) rfl rfl (Nat.le_of_ble_eq_true rfl) (Nat.le_of_ble_eq_true rfl) (s_in _ E0 I J y 1 4 1 4 (by decide) (by decide)) (fun r I1 J1 hq => ?_)
  obtain ⟨rfl, rfl, rfl⟩ := hq
  refine Ez.z_if_ne (off := 5) (tgt := 14) (by decide +kernel) (by decide) (fun h => ?_) (fun h => ?_)
  · obtain ⟨n, hn0, hn, rfl, hnc⟩ := in_of (lo := 1) (hi := 4) (by omega) h (by omega)
    refine Ez.blk B_X10_append_14 (lo' := [some (.ref 93), some (.int x), some (.int (nI n)), some (.int 0)]) (st' := []) (I' := I1) (J' := J1) (Ps := []) rfl trivial ?_
    have L2 : byOk x n = true → bL T + n ≤ 80 → ∀ m, ∀ I2 : aI, (m ≤ n ∧ MBf (bL T + (n - m), apb T.2.2.2.1.2 (bL T) x n) I2 ∧ (∀ k, k ≠ 18 → I2 93 k = I1 93 k) ∧ ∀ q, q ≠ 93 → q ≠ 108 → I2 q = I1 q) → Ez m_X10_append (d + 2) 62 [some (.ref 93), some (.int x), some (.int (nI n)), some (.int (nI m - 1))] [] E0 I2 J1 Q := by
      intro hok hlen
      refine for_dn ?_ ?_
      · intro I2 ⟨hm, hb, hf3, hf⟩
        refine Ez.blk B_X10_append_62 (lo' := [some (.ref 93), some (.int x), some (.int (nI n)), some (.int (nI 0 - 1))]) (st' := [.int (nI 0 - 1)]) (I' := I2) (J' := J1) (Ps := []) rfl trivial ?_
        refine Ez.if_lt (off := 38) (tgt := 101) (by decide +kernel) (by decide) (fun h9 => ?_) (fun h9 => (absurd (by decide) h9))
        have e1 : I2 93 18 = nI (bL T + n) := hb.1
        refine Ez.blk B_X10_append_101 (lo' := [some (.ref 93), some (.int x), some (.int (nI n)), some (.int (nI 0 - 1))]) (st' := [.int (I2 93 18)]) (I' := I2) (J' := J1) (Ps := [aO E0 93 10]) rfl o_93 ?_
        rw [e1]
        exact Ez.iret rfl (by decide +kernel) (hQ _ _ _ (by unfold f_append; rw [if_pos h, hnc, if_pos hok, if_pos hlen]; exact ⟨rfl, MP_b hP hb hf3 hf⟩))
      · intro m ih I2 ⟨hm, hb, hf3, hf⟩
        rw [nI_pred m]
        have e1 : I2 93 18 = nI (bL T + (n - (m + 1))) := hb.1
        refine Ez.blk B_X10_append_62 (lo' := [some (.ref 93), some (.int x), some (.int (nI n)), some (.int (nI m))]) (st' := [.int (nI m)]) (I' := I2) (J' := J1) (Ps := []) rfl trivial ?_
        refine Ez.n_if_lt (off := 38) (tgt := 101) (by decide +kernel) (by decide) (a := m) rfl (by omega) (fun h9 => h9.elim) (fun h9 => ?_)
        refine Ez.blk B_X10_append_66 (lo' := [some (.ref 93), some (.int x), some (.int (nI n)), some (.int (nI m + (-1)))]) (st' := []) (I' := (aUp (aUp I2 108 ((I2 93 18).toNatClampNeg) ((x >>> ((8 * nI m) &&& 31)) &&& 255)) 93 18 (I2 93 18 + 1))) (J' := J1) (Ps := [aO E0 93 10 ∧ E0.2.2 93 17 ≠ 0, aO E0 93 10, aAr E0 1 108 (I2 93 18), aO E0 93 10, aO E0 93 10]) rfl ⟨r_93_17, o_93, (a_108 (vin (n := (bL T + (n - (m + 1)))) e1 (by omega) (by decide))), o_93, o_93⟩ ?_
        rw [cln (x := I2 93 18) (n := (bL T + (n - (m + 1)))) e1 (by omega)]
        rw [i32_m1, byt_s (by omega)]
        refine ih _ ⟨by omega, ⟨?_, fun i hi => ?_⟩, fun k hk => by rw [aUp_nk hk, aUp_ne (by decide)]; exact hf3 k hk, fun q h0 h1 => by rw [aUp_ne h0, aUp_ne h1]; exact hf q h0 h1⟩
        · rw [aUp_eq, e1, nI_1, show bL T + (n - (m + 1)) + 1 = bL T + (n - m) by omega]
        · have hi : i < bL T + (n - m) := hi
          show _ = nI (apb T.2.2.2.1.2 (bL T) x n i)
          rw [aUp_ne (by decide)]
          by_cases e : i = bL T + (n - (m + 1))
          · rw [e, aUp_eq]
            unfold apb
            rw [if_neg (by omega), show n - 1 - (bL T + (n - (m + 1)) - bL T) = m by omega]
          · rw [aUp_nk e]; exact hb.2 i (by show i < bL T + (n - (m + 1)); omega)
    have L1 : ∀ k, k ≤ n → (∀ j, j < k → byt x j ≤ 127) → Ez m_X10_append (d + 2) 16 [some (.ref 93), some (.int x), some (.int (nI n)), some (.int (nI k))] [] E0 I1 J1 Q := by
      refine for_up ?_ ?_
      · intro hi
        refine Ez.blk B_X10_append_16 (lo' := [some (.ref 93), some (.int x), some (.int (nI n)), some (.int (nI n))]) (st' := [.int (nI n), .int (nI n)]) (I' := I1) (J' := J1) (Ps := []) rfl trivial ?_
        refine Ez.n_icmp_ge (off := 26) (tgt := 44) (by decide +kernel) (by decide) (a := n) (b := n) rfl rfl (by omega) (by omega) (fun h9 => ?_) (fun h9 => absurd h9 (by omega))
        have hok : byOk x n = true := byOk_iff.mpr hi
        refine Ez.blk B_X10_append_44 (lo' := [some (.ref 93), some (.int x), some (.int (nI n)), some (.int (nI n))]) (st' := [.int 80, .int (I1 93 18 + nI n)]) (I' := I1) (J' := J1) (Ps := [aO E0 93 10]) rfl o_93 ?_
        refine Ez.n_icmp_le (off := 6) (tgt := 58) (by decide +kernel) (by decide) (a := (bL T + n)) (b := 80) (eq_add (a := (bL T)) (b := n) hP.2.2.2.1.1 rfl) rfl (by omega) (by omega) (fun h9 => ?_) (fun h9 => ?_)
        · refine Ez.blk B_X10_append_58 (lo' := [some (.ref 93), some (.int x), some (.int (nI n)), some (.int (nI n - 1))]) (st' := []) (I' := I1) (J' := J1) (Ps := []) rfl trivial ?_
          exact L2 hok h9 n I1 ⟨Nat.le_refl _, ⟨by show I1 93 18 = nI (bL T + (n - n)); rw [show bL T + (n - n) = bL T by omega]; exact hP.2.2.2.1.1, fun i hi2 => by
            have hi2 : i < bL T + (n - n) := hi2
            show I1 108 i = nI (apb T.2.2.2.1.2 (bL T) x n i)
            unfold apb
            rw [if_pos (by omega)]; exact hP.2.2.2.1.2 i (by show i < bL T; omega)⟩, fun _ _ => rfl, fun _ _ _ => rfl⟩
        · refine Ez.blk B_X10_append_55 (lo' := [some (.ref 93), some (.int x), some (.int (nI n)), some (.int (nI n))]) (st' := [.int (-6)]) (I' := I1) (J' := J1) (Ps := []) rfl trivial ?_
          exact Ez.iret rfl (by decide +kernel) (hQ _ _ _ (by unfold f_append; rw [if_pos h, hnc, if_pos hok, if_neg (by omega)]; exact ⟨rfl, hP, fun _ _ => ⟨rfl, rfl⟩⟩))
      · intro k hk ih hi
        refine Ez.blk B_X10_append_16 (lo' := [some (.ref 93), some (.int x), some (.int (nI n)), some (.int (nI k))]) (st' := [.int (nI n), .int (nI k)]) (I' := I1) (J' := J1) (Ps := []) rfl trivial ?_
        refine Ez.n_icmp_ge (off := 26) (tgt := 44) (by decide +kernel) (by decide) (a := k) (b := n) rfl rfl (by omega) (by omega) (fun h9 => absurd h9 (by omega)) (fun h9 => ?_)
        refine Ez.blk B_X10_append_21 (lo' := [some (.ref 93), some (.int x), some (.int (nI n)), some (.int (nI k))]) (st' := [.int 127, .int ((x >>> ((8 * nI k) &&& 31)) &&& 255)]) (I' := I1) (J' := J1) (Ps := []) rfl trivial ?_
        have b256 : byt x k < 256 := byt_lt
        rw [byt_s (by omega)]
        refine Ez.n_icmp_le (off := 5) (tgt := 38) (by decide +kernel) (by decide) (a := (byt x k)) (b := 127) rfl rfl (by omega) (by omega) (fun h10 => ?_) (fun h10 => ?_)
        · refine Ez.blk B_X10_append_38 (lo' := [some (.ref 93), some (.int x), some (.int (nI n)), some (.int (nI k + 1))]) (st' := []) (I' := I1) (J' := J1) (Ps := []) rfl trivial ?_
          rw [show (nI k + 1) = nI (k + 1) from (eq_add (a := k) (b := 1) rfl rfl)]
          exact ih (fun j hj => by
            by_cases e : j = k
            · rw [e]; exact h10
            · exact hi j (by omega))
        · refine Ez.blk B_X10_append_36 (lo' := [some (.ref 93), some (.int x), some (.int (nI n)), some (.int (nI k))]) (st' := [.int (-1)]) (I' := I1) (J' := J1) (Ps := []) rfl trivial ?_
          exact Ez.iret rfl (by decide +kernel) (hQ _ _ _ (by unfold f_append; rw [if_pos h, hnc, if_neg (fun q => by have := byOk_iff.mp q k hk; omega)]; exact ⟨rfl, hP, fun _ _ => ⟨rfl, rfl⟩⟩))
    exact L1 0 (by omega) (fun j hj => by omega)
  · refine Ez.blk B_X10_append_12 (lo' := [some (.ref 93), some (.int x), some (.int y), none]) (st' := [.int (-1)]) (I' := I1) (J' := J1) (Ps := []) rfl trivial ?_
    exact Ez.iret rfl (by decide +kernel) (hQ _ _ _ (by unfold f_append; rw [if_neg h]; exact ⟨rfl, hP, fun _ _ => ⟨rfl, rfl⟩⟩))

/-! THE REFERENCE: parse, signs -/
abbrev RdM (I : aI) (s : PZ) : Prop := I 93 20 = nI s.1 ∧ I 93 21 = nI s.2
abbrev FrN (I I' : aI) : Prop := (∀ q, q ≠ 93 → I' q = I q) ∧ ∀ k, k ≠ 20 → k ≠ 21 → I' 93 k = I 93 k
theorem MBf_N {b : BF} {I I' : aI} (h : MBf b I) (f : FrN I I') : MBf b I' := MBf_fr h (f.2 18 (by decide) (by decide)) (f.1 108 (by decide))
theorem FrN_tr {I I' I'' : aI} (h : FrN I I') (k : FrN I' I'') : FrN I I'' := ⟨fun q a => (k.1 q a).trans (h.1 q a), fun q a c => (k.2 q a c).trans (h.2 q a c)⟩
theorem FrN_rf {I : aI} : FrN I I := ⟨fun _ _ => rfl, fun _ _ _ => rfl⟩
theorem s_isNext (d : Nat) (I : aI) (J : aJ) (b : BF) (hb : MBf b I) (W : BW b) (s : PZ) (hp : PO b s) (hr : RdM I s) (l h : Nat) (hl : l < 128) (hh : h < 128) : Sp m_X10_isNext (d + 2) [.ref 93, .int (nI l), .int (nI h)] E0 I J (fun r I' J' => r = some (.int (zb (s.1 < b.1 ∧ l ≤ b.2 s.1 ∧ b.2 s.1 ≤ h))) ∧ I' = I ∧ J' = J) := by
  refine Sp.of (lo := [some (.ref 93), some (.int (nI l)), some (.int (nI h))]) rfl (fun Q hQ => ?_)
  have hsl := hp.1
  have hb80 := W.1
  refine Ez.blk B_X10_isNext_0 (lo' := [some (.ref 93), some (.int (nI l)), some (.int (nI h))]) (st' := [.int (I 93 18), .int (I 93 20)]) (I' := I) (J' := J) (Ps := [aO E0 93 10, aO E0 93 10]) rfl ⟨o_93, o_93⟩ ?_
  refine Ez.n_icmp_ge (off := 27) (tgt := 35) (by decide +kernel) (by decide) (a := s.1) (b := b.1) hr.1 hb.1 (by omega) (by omega) (fun h1 => ?_) (fun h1 => ?_)
  · refine Ez.blk B_X10_isNext_35 (lo' := [some (.ref 93), some (.int (nI l)), some (.int (nI h))]) (st' := [.int 0]) (I' := I) (J' := J) (Ps := []) rfl trivial ?_
    exact Ez.zret rfl (Or.inl rfl) (by decide +kernel) (hQ _ _ _ ⟨by rw [zb_f (p := s.1 < b.1 ∧ l ≤ b.2 s.1 ∧ b.2 s.1 ≤ h) (fun q => by omega)], rfl, rfl⟩)
  · have hb2 := hb.2 s.1 h1
    have hb3 := W.2 s.1 h1
    refine Ez.blk B_X10_isNext_11 (lo' := [some (.ref 93), some (.int (nI l)), some (.int (nI h))]) (st' := [.long ((nI h).toInt64), .long ((nI l).toInt64), .long ((I 108 ((I 93 20).toNatClampNeg)).toInt64)]) (I' := I) (J' := J) (Ps := [aO E0 93 10 ∧ E0.2.2 93 17 ≠ 0, aO E0 93 10, aAr E0 1 108 (I 93 20)]) rfl ⟨r_93_17, o_93, (a_108 (vin (n := s.1) hr.1 (by omega) (by decide)))⟩ ?_
    rw [cln (x := I 93 20) (n := s.1) hr.1 (by omega)]
    rw [hb2]
    refine Ez.callS (As := [.long ((nI (b.2 s.1)).toInt64), .long ((nI l).toInt64), .long ((nI h).toInt64)]) (rest := []) kn_X10_in ml_10_81 sm_X10_in (by decide +kernel) rfl rfl (Nat.le_of_ble_eq_true rfl) (Nat.le_of_ble_eq_true rfl) (s_in _ E0 I J (nI (b.2 s.1)) (nI l) (nI h) (nI l).toInt64 (nI h).toInt64 rfl rfl) (fun r I1 J1 hq => ?_)
    obtain ⟨rfl, rfl, rfl⟩ := hq
    refine Ez.z_if_eq (off := 7) (tgt := 35) (by decide +kernel) (by decide) (fun h2 => ?_) (fun h2 => ?_)
    · refine Ez.blk B_X10_isNext_35 (lo' := [some (.ref 93), some (.int (nI l)), some (.int (nI h))]) (st' := [.int 0]) (I' := I1) (J' := J1) (Ps := []) rfl trivial ?_
      exact Ez.zret rfl (Or.inl rfl) (by decide +kernel) (hQ _ _ _ ⟨by rw [zb_f (p := s.1 < b.1 ∧ l ≤ b.2 s.1 ∧ b.2 s.1 ≤ h) (fun q => h2 ⟨nI_le q.2.1 (by omega), nI_le q.2.2 (by omega)⟩)], rfl, rfl⟩)
    · refine Ez.blk B_X10_isNext_31 (lo' := [some (.ref 93), some (.int (nI l)), some (.int (nI h))]) (st' := [.int 1]) (I' := I1) (J' := J1) (Ps := []) rfl trivial ?_
      exact Ez.zret rfl (Or.inr rfl) (by decide +kernel) (hQ _ _ _ ⟨by rw [zb_t (p := s.1 < b.1 ∧ l ≤ b.2 s.1 ∧ b.2 s.1 ≤ h) ⟨h1, (nI_leI (by omega) (by omega)).mp h2.1, (nI_leI (by omega) (by omega)).mp h2.2⟩], rfl, rfl⟩)
theorem s_accept (d : Nat) (I : aI) (J : aJ) (b : BF) (hb : MBf b I) (W : BW b) (s : PZ) (hp : PO b s) (hr : RdM I s) (c : Nat) (hc : c < 128) : Sp m_X10_accept (d + 3) [.ref 93, .int (nI c)] E0 I J (fun r I' J' => r = some (.int (zb (tip b c s))) ∧ J' = J ∧ RdM I' (pi b c s) ∧ FrN I I') := by
  refine Sp.of (lo := [some (.ref 93), some (.int (nI c))]) rfl (fun Q hQ => ?_)
  have hs1 := hp.2
  refine Ez.blk B_X10_accept_0 (lo' := [some (.ref 93), some (.int (nI c))]) (st' := [.int (I 93 21)]) (I' := I) (J' := J) (Ps := [aO E0 93 10]) rfl o_93 ?_
  refine Ez.n_if_ne (off := 12) (tgt := 16) (by decide +kernel) (by decide) (a := s.2) hr.2 (by omega) (fun h => ?_) (fun h => ?_)
  · refine Ez.blk B_X10_accept_16 (lo' := [some (.ref 93), some (.int (nI c))]) (st' := [.int 0]) (I' := I) (J' := J) (Ps := []) rfl trivial ?_
    exact Ez.zret rfl (Or.inl rfl) (by decide +kernel) (hQ _ _ _ ⟨by rw [zb_f (p := tip b c s) (fun q => h q.1)], rfl, by unfold pi; rw [if_neg (fun q => h q.1)]; exact hr, fun _ _ => rfl, fun _ _ _ => rfl⟩)
  · refine Ez.blk B_X10_accept_7 (lo' := [some (.ref 93), some (.int (nI c))]) (st' := [.int (nI c), .int (nI c), .ref 93]) (I' := I) (J' := J) (Ps := []) rfl trivial ?_
    refine Ez.callV (As := [.int (nI c), .int (nI c)]) (b := 93) (rest := []) kn_X10_isNext ml_10_242 im_X10_isNext se_X10_isNext rfl (by decide +kernel) rfl rfl (Nat.le_of_ble_eq_true rfl) (Nat.le_of_ble_eq_true rfl) o_93 (s_isNext _ I J b hb W s hp hr c c hc hc) (fun r I1 J1 hq => ?_)
    obtain ⟨rfl, rfl, rfl⟩ := hq
    refine Ez.z_if_ne (off := 5) (tgt := 18) (by decide +kernel) (by decide) (fun h2 => ?_) (fun h2 => ?_)
    · have ht : tip b c s := ⟨h, h2.1, by omega⟩
      refine Ez.blk B_X10_accept_18 (lo' := [some (.ref 93), some (.int (nI c))]) (st' := [.int 1]) (I' := (aUp I1 93 20 (I1 93 20 + 1))) (J' := J1) (Ps := [aO E0 93 10, aO E0 93 10]) rfl ⟨o_93, o_93⟩ ?_
      rw [hr.1, nI_1]
      exact Ez.zret rfl (Or.inr rfl) (by decide +kernel) (hQ _ _ _ ⟨by rw [zb_t (p := tip b c s) ht], rfl, by unfold pi; rw [if_pos ht]; exact ⟨aUp_eq, by rw [aUp_nk (by decide), hr.2, h]⟩, fun q hq => aUp_ne hq, fun k hk _ => aUp_nk hk⟩)
    · refine Ez.blk B_X10_accept_16 (lo' := [some (.ref 93), some (.int (nI c))]) (st' := [.int 0]) (I' := I1) (J' := J1) (Ps := []) rfl trivial ?_
      exact Ez.zret rfl (Or.inl rfl) (by decide +kernel) (hQ _ _ _ ⟨by rw [zb_f (p := tip b c s) (fun q => h2 ⟨q.2.1, by omega, by omega⟩)], rfl, by unfold pi; rw [if_neg (fun q => h2 ⟨q.2.1, by omega, by omega⟩)]; exact hr, fun _ _ => rfl, fun _ _ _ => rfl⟩)
theorem s_expect (d : Nat) (I : aI) (J : aJ) (b : BF) (hb : MBf b I) (W : BW b) (s : PZ) (hp : PO b s) (hr : RdM I s) (c : Nat) (hc : c < 128) : Sp m_X10_expect (d + 4) [.ref 93, .int (nI c)] E0 I J (fun r I' J' => r = none ∧ J' = J ∧ RdM I' (pt b c s) ∧ FrN I I') := by
  refine Sp.of (lo := [some (.ref 93), some (.int (nI c))]) rfl (fun Q hQ => ?_)
  refine Ez.blk B_X10_expect_0 (lo' := [some (.ref 93), some (.int (nI c))]) (st' := [.int (nI c), .ref 93, .ref 93]) (I' := I) (J' := J) (Ps := []) rfl trivial ?_
  refine Ez.callV (As := [.int (nI c)]) (b := 93) (rest := [.ref 93]) kn_X10_accept ml_10_245 im_X10_accept se_X10_accept rfl (by decide +kernel) rfl rfl (Nat.le_of_ble_eq_true rfl) (Nat.le_of_ble_eq_true rfl) o_93 (s_accept _ I J b hb W s hp hr c hc) (fun r I1 J1 hq => ?_)
  obtain ⟨rfl, rfl, k1, k2⟩ := hq
  refine Ez.z_if_ne (off := 7) (tgt := 13) (by decide +kernel) (by decide) (fun h => ?_) (fun h => ?_)
  · refine Ez.blk B_X10_expect_13 (lo' := [some (.ref 93), some (.int (nI c))]) (st' := []) (I' := (aUp I1 93 21 0)) (J' := J1) (Ps := [aO E0 93 10 ∧ (0 = 0 ∨ 0 = 1)]) rfl ⟨o_93, (Or.inl rfl)⟩ ?_
    exact Ez.vret rfl (by decide +kernel) (hQ _ _ _ ⟨rfl, rfl, by unfold pi at k1; rw [if_pos h] at k1; unfold pt; rw [if_pos h]; exact ⟨by rw [aUp_nk (by decide)]; exact k1.1, aUp_eq⟩, fun q hq => by rw [aUp_ne hq]; exact k2.1 q hq, fun k h1 h2 => by rw [aUp_nk h2]; exact k2.2 k h1 h2⟩)
  · refine Ez.blk B_X10_expect_9 (lo' := [some (.ref 93), some (.int (nI c))]) (st' := [.int 1, .ref 93]) (I' := I1) (J' := J1) (Ps := []) rfl trivial ?_
    refine Ez.blk B_X10_expect_14 (lo' := [some (.ref 93), some (.int (nI c))]) (st' := []) (I' := (aUp I1 93 21 1)) (J' := J1) (Ps := [aO E0 93 10 ∧ (1 = 0 ∨ 1 = 1)]) rfl ⟨o_93, (Or.inr rfl)⟩ ?_
    exact Ez.vret rfl (by decide +kernel) (hQ _ _ _ ⟨rfl, rfl, by unfold pi at k1; rw [if_neg h] at k1; unfold pt; rw [if_neg h]; exact ⟨by rw [aUp_nk (by decide)]; exact k1.1, aUp_eq⟩, fun q hq => by rw [aUp_ne hq]; exact k2.1 q hq, fun k h1 h2 => by rw [aUp_nk h2]; exact k2.2 k h1 h2⟩)
theorem s_numM1 (d : Nat) (I : aI) (J : aJ) (b : BF) (hb : MBf b I) (W : BW b) (s : PZ) (hp : PO b s) (hr : RdM I s) : Sp m_X10_number_ (d + 3) [.ref 93, .int 1] E0 I J (fun r I' J' => r = some (.int (nI (pn b 1 s).1)) ∧ J' = J ∧ RdM I' (pn b 1 s).2 ∧ FrN I I') := by
  refine Sp.of (lo := [some (.ref 93), some (.int 1), none, none]) rfl (fun Q hQ => ?_)
  have hs1 := hp.2
  have hsl := hp.1
  have hb80 := W.1
  refine Ez.blk B_X10_number__0 (lo' := [some (.ref 93), some (.int 1), none, none]) (st' := [.int (I 93 21)]) (I' := I) (J' := J) (Ps := [aO E0 93 10]) rfl o_93 ?_
  refine Ez.n_if_ne (off := 14) (tgt := 18) (by decide +kernel) (by decide) (a := s.2) hr.2 (by omega) (fun h => ?_) (fun h => ?_)
  · refine Ez.blk B_X10_number__18 (lo' := [some (.ref 93), some (.int 1), none, none]) (st' := [.int 0]) (I' := (aUp I 93 21 1)) (J' := J) (Ps := [aO E0 93 10 ∧ (1 = 0 ∨ 1 = 1)]) rfl ⟨o_93, (Or.inr rfl)⟩ ?_
    exact Ez.iret rfl (by decide +kernel) (hQ _ _ _ ⟨by unfold pn; rw [if_neg (fun q => h q.1)]; rfl, rfl, by unfold pn; rw [if_neg (fun q => h q.1)]; exact ⟨by rw [aUp_nk (by decide)]; exact hr.1, aUp_eq⟩, fun q hq => aUp_ne hq, fun k _ h2 => aUp_nk h2⟩)
  · refine Ez.blk B_X10_number__7 (lo' := [some (.ref 93), some (.int 1), none, none]) (st' := [.int 57, .int 48, .ref 93]) (I' := I) (J' := J) (Ps := []) rfl trivial ?_
    refine Ez.callV (As := [.int 48, .int 57]) (b := 93) (rest := []) kn_X10_isNext ml_10_242 im_X10_isNext se_X10_isNext rfl (by decide +kernel) rfl rfl (Nat.le_of_ble_eq_true rfl) (Nat.le_of_ble_eq_true rfl) o_93 (s_isNext _ I J b hb W s hp hr 48 57 (by decide) (by decide)) (fun r I1 J1 hq => ?_)
    obtain ⟨rfl, rfl, rfl⟩ := hq
    refine Ez.z_if_ne (off := 10) (tgt := 25) (by decide +kernel) (by decide) (fun hd => ?_) (fun hd => ?_)
    · refine Ez.blk B_X10_number__25 (lo' := [some (.ref 93), some (.int 1), some (.int 0), some (.int 0)]) (st' := []) (I' := I1) (J' := J1) (Ps := []) rfl trivial ?_
      refine Ez.blk B_X10_number__29 (lo' := [some (.ref 93), some (.int 1), some (.int 0), some (.int 0)]) (st' := [.int 1, .int 0]) (I' := I1) (J' := J1) (Ps := []) rfl trivial ?_
      refine Ez.n_icmp_ge (off := 48) (tgt := 79) (by decide +kernel) (by decide) (a := 0) (b := 1) rfl rfl (by omega) (by omega) (fun h5 => absurd h5 (by decide)) (fun h5 => ?_)
      refine Ez.blk B_X10_number__34 (lo' := [some (.ref 93), some (.int 1), some (.int 0), some (.int 0)]) (st' := [.int 57, .int 48, .ref 93]) (I' := I1) (J' := J1) (Ps := []) rfl trivial ?_
      refine Ez.callV (As := [.int 48, .int 57]) (b := 93) (rest := []) kn_X10_isNext ml_10_242 im_X10_isNext se_X10_isNext rfl (by decide +kernel) rfl rfl (Nat.le_of_ble_eq_true rfl) (Nat.le_of_ble_eq_true rfl) o_93 (s_isNext _ I1 J1 b hb W s hp hr 48 57 (by decide) (by decide)) (fun r I2 J2 hq => ?_)
      obtain ⟨rfl, rfl, rfl⟩ := hq
      refine Ez.z_if_eq (off := 37) (tgt := 79) (by decide +kernel) (by decide) (fun h6 => absurd hd h6) (fun h6 => ?_)
      have hb2 := hb.2 s.1 hd.1
      have e0 : (10 * 0 + I2 108 s.1) - 48 = nI (b.2 s.1 - 48) := by rw [hb2]; exact eq_sub (a := 0 + b.2 s.1) (b := 48) (eq_add (a := 0) rfl rfl) rfl (by omega) |>.trans (by rw [Nat.zero_add])
      refine Ez.blk B_X10_number__45 (lo' := [some (.ref 93), some (.int 1), some (.int (((10 * 0) + I2 108 ((I2 93 20).toNatClampNeg)) - 48)), some (.int (0 + 1))]) (st' := []) (I' := (aUp I2 93 20 (I2 93 20 + 1))) (J' := J2) (Ps := [aO E0 93 10 ∧ E0.2.2 93 17 ≠ 0, aO E0 93 10, aAr E0 1 108 (I2 93 20), aO E0 93 10, aO E0 93 10]) rfl ⟨r_93_17, o_93, (a_108 (vin (n := s.1) hr.1 (by omega) (by decide))), o_93, o_93⟩ ?_
      rw [cln (x := I2 93 20) (n := s.1) hr.1 (by omega)]
      rw [show (0 + 1) = nI (0 + 1) from (eq_add (a := 0) (b := 1) rfl rfl)]
      rw [e0]
      generalize hI3 : (aUp I2 93 20 (I2 93 20 + 1)) = I3
      have p3 : I3 93 20 = nI (s.1 + 1) := by rw [← hI3, aUp_eq, hr.1]; exact eq_add (a := s.1) (b := 1) rfl rfl
      have b3 : I3 93 21 = nI 0 := by rw [← hI3, aUp_nk (by decide), hr.2, h]
      have f3 : FrN I2 I3 := ⟨fun q hq => by rw [← hI3, aUp_ne hq], fun k h1 h2 => by rw [← hI3, aUp_nk h1]⟩
      have c3 := MBf_N hb f3
      refine Ez.blk B_X10_number__29 (lo' := [some (.ref 93), some (.int 1), some (.int (nI (b.2 s.1 - 48))), some (.int (nI (0 + 1)))]) (st' := [.int 1, .int (nI (0 + 1))]) (I' := I3) (J' := J2) (Ps := []) rfl trivial ?_
      refine Ez.n_icmp_ge (off := 48) (tgt := 79) (by decide +kernel) (by decide) (a := (0 + 1)) (b := 1) rfl rfl (by omega) (by omega) (fun h7 => ?_) (fun h7 => absurd h7 (by omega))
      refine Ez.blk B_X10_number__79 (lo' := [some (.ref 93), some (.int 1), some (.int (nI (b.2 s.1 - 48))), some (.int (nI (0 + 1)))]) (st' := [.int (nI (b.2 s.1 - 48))]) (I' := I3) (J' := J2) (Ps := []) rfl trivial ?_
      exact Ez.iret rfl (by decide +kernel) (hQ _ _ _ (by unfold pn; rw [if_pos ⟨h, hd⟩, if_neg (fun q => absurd q.1 (by decide))]; exact ⟨rfl, rfl, ⟨p3, b3⟩, f3⟩))
    · refine Ez.blk B_X10_number__18 (lo' := [some (.ref 93), some (.int 1), none, none]) (st' := [.int 0]) (I' := (aUp I1 93 21 1)) (J' := J1) (Ps := [aO E0 93 10 ∧ (1 = 0 ∨ 1 = 1)]) rfl ⟨o_93, (Or.inr rfl)⟩ ?_
      exact Ez.iret rfl (by decide +kernel) (hQ _ _ _ ⟨by unfold pn; rw [if_neg (fun q => hd q.2)]; rfl, rfl, by unfold pn; rw [if_neg (fun q => hd q.2)]; exact ⟨by rw [aUp_nk (by decide)]; exact hr.1, aUp_eq⟩, fun q hq => aUp_ne hq, fun k _ h2 => aUp_nk h2⟩)
theorem s_numM2 (d : Nat) (I : aI) (J : aJ) (b : BF) (hb : MBf b I) (W : BW b) (s : PZ) (hp : PO b s) (hr : RdM I s) : Sp m_X10_number_ (d + 3) [.ref 93, .int 2] E0 I J (fun r I' J' => r = some (.int (nI (pn b 2 s).1)) ∧ J' = J ∧ RdM I' (pn b 2 s).2 ∧ FrN I I') := by
  refine Sp.of (lo := [some (.ref 93), some (.int 2), none, none]) rfl (fun Q hQ => ?_)
  have hs1 := hp.2
  have hsl := hp.1
  have hb80 := W.1
  refine Ez.blk B_X10_number__0 (lo' := [some (.ref 93), some (.int 2), none, none]) (st' := [.int (I 93 21)]) (I' := I) (J' := J) (Ps := [aO E0 93 10]) rfl o_93 ?_
  refine Ez.n_if_ne (off := 14) (tgt := 18) (by decide +kernel) (by decide) (a := s.2) hr.2 (by omega) (fun h => ?_) (fun h => ?_)
  · refine Ez.blk B_X10_number__18 (lo' := [some (.ref 93), some (.int 2), none, none]) (st' := [.int 0]) (I' := (aUp I 93 21 1)) (J' := J) (Ps := [aO E0 93 10 ∧ (1 = 0 ∨ 1 = 1)]) rfl ⟨o_93, (Or.inr rfl)⟩ ?_
    exact Ez.iret rfl (by decide +kernel) (hQ _ _ _ ⟨by unfold pn; rw [if_neg (fun q => h q.1)]; rfl, rfl, by unfold pn; rw [if_neg (fun q => h q.1)]; exact ⟨by rw [aUp_nk (by decide)]; exact hr.1, aUp_eq⟩, fun q hq => aUp_ne hq, fun k _ h2 => aUp_nk h2⟩)
  · refine Ez.blk B_X10_number__7 (lo' := [some (.ref 93), some (.int 2), none, none]) (st' := [.int 57, .int 48, .ref 93]) (I' := I) (J' := J) (Ps := []) rfl trivial ?_
    refine Ez.callV (As := [.int 48, .int 57]) (b := 93) (rest := []) kn_X10_isNext ml_10_242 im_X10_isNext se_X10_isNext rfl (by decide +kernel) rfl rfl (Nat.le_of_ble_eq_true rfl) (Nat.le_of_ble_eq_true rfl) o_93 (s_isNext _ I J b hb W s hp hr 48 57 (by decide) (by decide)) (fun r I1 J1 hq => ?_)
    obtain ⟨rfl, rfl, rfl⟩ := hq
    refine Ez.z_if_ne (off := 10) (tgt := 25) (by decide +kernel) (by decide) (fun hd => ?_) (fun hd => ?_)
    · refine Ez.blk B_X10_number__25 (lo' := [some (.ref 93), some (.int 2), some (.int 0), some (.int 0)]) (st' := []) (I' := I1) (J' := J1) (Ps := []) rfl trivial ?_
      refine Ez.blk B_X10_number__29 (lo' := [some (.ref 93), some (.int 2), some (.int 0), some (.int 0)]) (st' := [.int 2, .int 0]) (I' := I1) (J' := J1) (Ps := []) rfl trivial ?_
      refine Ez.n_icmp_ge (off := 48) (tgt := 79) (by decide +kernel) (by decide) (a := 0) (b := 2) rfl rfl (by omega) (by omega) (fun h5 => absurd h5 (by decide)) (fun h5 => ?_)
      refine Ez.blk B_X10_number__34 (lo' := [some (.ref 93), some (.int 2), some (.int 0), some (.int 0)]) (st' := [.int 57, .int 48, .ref 93]) (I' := I1) (J' := J1) (Ps := []) rfl trivial ?_
      refine Ez.callV (As := [.int 48, .int 57]) (b := 93) (rest := []) kn_X10_isNext ml_10_242 im_X10_isNext se_X10_isNext rfl (by decide +kernel) rfl rfl (Nat.le_of_ble_eq_true rfl) (Nat.le_of_ble_eq_true rfl) o_93 (s_isNext _ I1 J1 b hb W s hp hr 48 57 (by decide) (by decide)) (fun r I2 J2 hq => ?_)
      obtain ⟨rfl, rfl, rfl⟩ := hq
      refine Ez.z_if_eq (off := 37) (tgt := 79) (by decide +kernel) (by decide) (fun h6 => absurd hd h6) (fun h6 => ?_)
      have hb2 := hb.2 s.1 hd.1
      have e0 : (10 * 0 + I2 108 s.1) - 48 = nI (b.2 s.1 - 48) := by rw [hb2]; exact eq_sub (a := 0 + b.2 s.1) (b := 48) (eq_add (a := 0) rfl rfl) rfl (by omega) |>.trans (by rw [Nat.zero_add])
      refine Ez.blk B_X10_number__45 (lo' := [some (.ref 93), some (.int 2), some (.int (((10 * 0) + I2 108 ((I2 93 20).toNatClampNeg)) - 48)), some (.int (0 + 1))]) (st' := []) (I' := (aUp I2 93 20 (I2 93 20 + 1))) (J' := J2) (Ps := [aO E0 93 10 ∧ E0.2.2 93 17 ≠ 0, aO E0 93 10, aAr E0 1 108 (I2 93 20), aO E0 93 10, aO E0 93 10]) rfl ⟨r_93_17, o_93, (a_108 (vin (n := s.1) hr.1 (by omega) (by decide))), o_93, o_93⟩ ?_
      rw [cln (x := I2 93 20) (n := s.1) hr.1 (by omega)]
      rw [show (0 + 1) = nI (0 + 1) from (eq_add (a := 0) (b := 1) rfl rfl)]
      rw [e0]
      generalize hI3 : (aUp I2 93 20 (I2 93 20 + 1)) = I3
      have p3 : I3 93 20 = nI (s.1 + 1) := by rw [← hI3, aUp_eq, hr.1]; exact eq_add (a := s.1) (b := 1) rfl rfl
      have b3 : I3 93 21 = nI 0 := by rw [← hI3, aUp_nk (by decide), hr.2, h]
      have f3 : FrN I2 I3 := ⟨fun q hq => by rw [← hI3, aUp_ne hq], fun k h1 h2 => by rw [← hI3, aUp_nk h1]⟩
      have c3 := MBf_N hb f3
      refine Ez.blk B_X10_number__29 (lo' := [some (.ref 93), some (.int 2), some (.int (nI (b.2 s.1 - 48))), some (.int (nI (0 + 1)))]) (st' := [.int 2, .int (nI (0 + 1))]) (I' := I3) (J' := J2) (Ps := []) rfl trivial ?_
      refine Ez.n_icmp_ge (off := 48) (tgt := 79) (by decide +kernel) (by decide) (a := (0 + 1)) (b := 2) rfl rfl (by omega) (by omega) (fun h7 => absurd h7 (by omega)) (fun h7 => ?_)
      refine Ez.blk B_X10_number__34 (lo' := [some (.ref 93), some (.int 2), some (.int (nI (b.2 s.1 - 48))), some (.int (nI (0 + 1)))]) (st' := [.int 57, .int 48, .ref 93]) (I' := I3) (J' := J2) (Ps := []) rfl trivial ?_
      refine Ez.callV (As := [.int 48, .int 57]) (b := 93) (rest := []) kn_X10_isNext ml_10_242 im_X10_isNext se_X10_isNext rfl (by decide +kernel) rfl rfl (Nat.le_of_ble_eq_true rfl) (Nat.le_of_ble_eq_true rfl) o_93 (s_isNext _ I3 J2 b c3 W (s.1 + 1, 0) ⟨by show s.1 + 1 ≤ b.1; have := hd.1; omega, Nat.zero_le _⟩ ⟨p3, b3⟩ 48 57 (by decide) (by decide)) (fun r I4 J4 hq => ?_)
      obtain ⟨rfl, rfl, rfl⟩ := hq
      refine Ez.z_if_eq (off := 37) (tgt := 79) (by decide +kernel) (by decide) (fun he => ?_) (fun he => ?_)
      · refine Ez.blk B_X10_number__79 (lo' := [some (.ref 93), some (.int 2), some (.int (nI (b.2 s.1 - 48))), some (.int (nI (0 + 1)))]) (st' := [.int (nI (b.2 s.1 - 48))]) (I' := I4) (J' := J4) (Ps := []) rfl trivial ?_
        exact Ez.iret rfl (by decide +kernel) (hQ _ _ _ (by unfold pn; rw [if_pos ⟨h, hd⟩, if_neg (fun q => he q.2)]; exact ⟨rfl, rfl, ⟨p3, b3⟩, f3⟩))
      · have he1 : s.1 + 1 < b.1 := he.1
        have hb4 : I4 108 (s.1 + 1) = nI (b.2 (s.1 + 1)) := c3.2 (s.1 + 1) he.1
        have e4 : (10 * nI (b.2 s.1 - 48) + I4 108 (s.1 + 1)) - 48 = nI (10 * (b.2 s.1 - 48) + (b.2 (s.1 + 1) - 48)) := by rw [hb4]; exact (eq_sub (a := 10 * (b.2 s.1 - 48) + b.2 (s.1 + 1)) (b := 48) (eq_add (eq_mul (a := 10) rfl rfl) rfl) rfl (by have := he.2.1; dsimp only at this; omega)).trans (by rw [show 10 * (b.2 s.1 - 48) + b.2 (s.1 + 1) - 48 = 10 * (b.2 s.1 - 48) + (b.2 (s.1 + 1) - 48) by have := he.2.1; dsimp only at this; omega])
        refine Ez.blk B_X10_number__45 (lo' := [some (.ref 93), some (.int 2), some (.int (((10 * nI (b.2 s.1 - 48)) + I4 108 ((I4 93 20).toNatClampNeg)) - 48)), some (.int (nI (0 + 1) + 1))]) (st' := []) (I' := (aUp I4 93 20 (I4 93 20 + 1))) (J' := J4) (Ps := [aO E0 93 10 ∧ E0.2.2 93 17 ≠ 0, aO E0 93 10, aAr E0 1 108 (I4 93 20), aO E0 93 10, aO E0 93 10]) rfl ⟨r_93_17, o_93, (a_108 (vin (n := (s.1 + 1)) p3 (by omega) (by decide))), o_93, o_93⟩ ?_
        rw [cln (x := I4 93 20) (n := (s.1 + 1)) p3 (by omega)]
        rw [show (nI (0 + 1) + 1) = nI (0 + 1 + 1) from (eq_add (a := (0 + 1)) (b := 1) rfl rfl)]
        rw [e4]
        generalize hI5 : (aUp I4 93 20 (I4 93 20 + 1)) = I5
        have p5 : I5 93 20 = nI (s.1 + 2) := by rw [← hI5, aUp_eq, p3]; exact eq_add (a := s.1 + 1) (b := 1) rfl rfl
        have b5 : I5 93 21 = nI 0 := by rw [← hI5, aUp_nk (by decide)]; exact b3
        have f5 : FrN I2 I5 := ⟨fun q hq => by rw [← hI5, aUp_ne hq]; exact f3.1 q hq, fun k h1 h2 => by rw [← hI5, aUp_nk h1]; exact f3.2 k h1 h2⟩
        refine Ez.blk B_X10_number__29 (lo' := [some (.ref 93), some (.int 2), some (.int (nI (10 * (b.2 s.1 - 48) + (b.2 (s.1 + 1) - 48)))), some (.int (nI (0 + 1 + 1)))]) (st' := [.int 2, .int (nI (0 + 1 + 1))]) (I' := I5) (J' := J4) (Ps := []) rfl trivial ?_
        refine Ez.n_icmp_ge (off := 48) (tgt := 79) (by decide +kernel) (by decide) (a := (0 + 1 + 1)) (b := 2) rfl rfl (by omega) (by omega) (fun h7 => ?_) (fun h7 => absurd h7 (by omega))
        refine Ez.blk B_X10_number__79 (lo' := [some (.ref 93), some (.int 2), some (.int (nI (10 * (b.2 s.1 - 48) + (b.2 (s.1 + 1) - 48)))), some (.int (nI (0 + 1 + 1)))]) (st' := [.int (nI (10 * (b.2 s.1 - 48) + (b.2 (s.1 + 1) - 48)))]) (I' := I5) (J' := J4) (Ps := []) rfl trivial ?_
        exact Ez.iret rfl (by decide +kernel) (hQ _ _ _ (by unfold pn; rw [if_pos ⟨h, hd⟩, if_pos ⟨rfl, he⟩]; exact ⟨rfl, rfl, ⟨p5, b5⟩, f5⟩))
    · refine Ez.blk B_X10_number__18 (lo' := [some (.ref 93), some (.int 2), none, none]) (st' := [.int 0]) (I' := (aUp I1 93 21 1)) (J' := J1) (Ps := [aO E0 93 10 ∧ (1 = 0 ∨ 1 = 1)]) rfl ⟨o_93, (Or.inr rfl)⟩ ?_
      exact Ez.iret rfl (by decide +kernel) (hQ _ _ _ ⟨by unfold pn; rw [if_neg (fun q => hd q.2)]; rfl, rfl, by unfold pn; rw [if_neg (fun q => hd q.2)]; exact ⟨by rw [aUp_nk (by decide)]; exact hr.1, aUp_eq⟩, fun q hq => aUp_ne hq, fun k _ h2 => aUp_nk h2⟩)

/-! PARSE: signs and numbers -/
abbrev BF : Type := Nat × (Nat → Nat)
/-- a digit stands there -/
abbrev dig (b : BF) (k : Nat) : Prop := k < b.1 ∧ 48 ≤ b.2 k ∧ b.2 k ≤ 57
/-- the place, and whether the text is malformed -/
abbrev PZ : Type := Nat × Nat
def pn (b : BF) (d : Nat) (s : PZ) : Nat × PZ := if s.2 = 0 ∧ dig b s.1 then (if d = 2 ∧ dig b (s.1 + 1) then (10 * (b.2 s.1 - 48) + (b.2 (s.1 + 1) - 48), (s.1 + 2, 0)) else (b.2 s.1 - 48, (s.1 + 1, 0))) else (0, (s.1, 1))
abbrev tip (b : BF) (c : Nat) (s : PZ) : Prop := s.2 = 0 ∧ s.1 < b.1 ∧ b.2 s.1 = c
def pi (b : BF) (c : Nat) (s : PZ) : PZ := if tip b c s then (s.1 + 1, 0) else s
def pt (b : BF) (c : Nat) (s : PZ) : PZ := if tip b c s then (s.1 + 1, 0) else (s.1, 1)
abbrev BW (b : BF) : Prop := b.1 ≤ 80 ∧ ∀ i, i < b.1 → b.2 i < 128
abbrev PO (b : BF) (s : PZ) : Prop := s.1 ≤ b.1 ∧ s.2 ≤ 1
/-- the reader stands so -/
abbrev RdS (I : aI) (s : PZ) : Prop := I 80 1 = nI s.1 ∧ I 80 2 = nI s.2
abbrev FrP (I I' : aI) : Prop := (∀ q, q ≠ 80 → I' q = I q) ∧ ∀ k, k ≠ 1 → k ≠ 2 → I' 80 k = I 80 k
theorem pn_ok {b : BF} {d : Nat} {s : PZ} (h : PO b s) : PO b (pn b d s).2 ∧ (pn b d s).1 ≤ 99 := by
  unfold pn
  by_cases e : s.2 = 0 ∧ dig b s.1
  · rw [if_pos e]
    by_cases e2 : d = 2 ∧ dig b (s.1 + 1)
    · rw [if_pos e2]
      have h1 := e.2
      have h2 := e2.2
      exact ⟨⟨by show s.1 + 2 ≤ b.1; omega, Nat.zero_le _⟩, by show 10 * (b.2 s.1 - 48) + (b.2 (s.1 + 1) - 48) ≤ 99; omega⟩
    · rw [if_neg e2]
      have h1 := e.2
      exact ⟨⟨by show s.1 + 1 ≤ b.1; omega, Nat.zero_le _⟩, by show b.2 s.1 - 48 ≤ 99; omega⟩
  · rw [if_neg e]
    exact ⟨⟨h.1, Nat.le_refl _⟩, Nat.zero_le _⟩
theorem pt_ok {b : BF} {c : Nat} {s : PZ} (h : PO b s) : PO b (pt b c s) := by
  unfold pt
  by_cases e : tip b c s
  · rw [if_pos e]; exact ⟨by show s.1 + 1 ≤ b.1; have := e.2.1; omega, Nat.zero_le _⟩
  · rw [if_neg e]; exact ⟨h.1, Nat.le_refl _⟩
theorem pi_ok {b : BF} {c : Nat} {s : PZ} (h : PO b s) : PO b (pi b c s) := by
  unfold pi
  by_cases e : tip b c s
  · rw [if_pos e]; exact ⟨by show s.1 + 1 ≤ b.1; have := e.2.1; omega, Nat.zero_le _⟩
  · rw [if_neg e]; exact h
theorem s_tip (d : Nat) (I : aI) (J : aJ) (b : BF) (hb : CBuf b I) (W : BW b) (s : PZ) (hp : PO b s) (hr : RdS I s) (c : Nat) (hc : c < 128) : Sp m_X2_takeIfPresent (d + 2) [.ref 80, .int (nI c)] E0 I J (fun r I' J' => r = some (.int (zb (tip b c s))) ∧ J' = J ∧ RdS I' (pi b c s) ∧ FrP I I') := by
  refine Sp.of (lo := [some (.ref 80), some (.int (nI c))]) rfl (fun Q hQ => ?_)
  refine Ez.blk B_X2_takeIfPresent_0 (lo' := [some (.ref 80), some (.int (nI c))]) (st' := [.int (I 80 2)]) (I' := I) (J' := J) (Ps := [aO E0 80 2]) rfl o_80 ?_
  refine Ez.n_if_ne (off := 18) (tgt := 22) (by decide +kernel) (by decide) (a := s.2) hr.2 (by omega) (fun h => ?_) (fun h => ?_)
  · refine Ez.blk B_X2_takeIfPresent_22 (lo' := [some (.ref 80), some (.int (nI c))]) (st' := [.int 0]) (I' := I) (J' := J) (Ps := []) rfl trivial ?_
    exact Ez.zret rfl (Or.inl rfl) (by decide +kernel) (hQ _ _ _ ⟨by rw [zb_f (p := tip b c s) (fun q => h q.1)], rfl, by unfold pi; rw [if_neg (fun q => h q.1)]; exact hr, fun _ _ => rfl, fun _ _ _ => rfl⟩)
  · refine Ez.blk B_X2_takeIfPresent_7 (lo' := [some (.ref 80), some (.int (nI c))]) (st' := [.int (nI c), .int (I 80 1), .ref 81]) (I' := I) (J' := J) (Ps := [aO E0 80 2 ∧ E0.2.2 80 0 ≠ 0, aO E0 80 2]) rfl ⟨r_80_0, o_80⟩ ?_
    rw [hr.1]
    refine Ez.callV (As := [.int (nI s.1), .int (nI c)]) (b := 81) (rest := []) kn_X5_holdsAt ml_2_83 im_X5_holdsAt se_X5_holdsAt rfl (by decide +kernel) rfl rfl (Nat.le_of_ble_eq_true rfl) (Nat.le_of_ble_eq_true rfl) o_81 (s_holdsAt _ I J b hb W.1 W.2 s.1 c (by have := W.1; omega) hc) (fun r I1 J1 hq => ?_)
    obtain ⟨rfl, rfl, rfl⟩ := hq
    refine Ez.z_if_ne (off := 5) (tgt := 24) (by decide +kernel) (by decide) (fun h2 => ?_) (fun h2 => ?_)
    · refine Ez.blk B_X2_takeIfPresent_24 (lo' := [some (.ref 80), some (.int (nI c))]) (st' := [.int 1]) (I' := (aUp I1 80 1 (I1 80 1 + 1))) (J' := J1) (Ps := [aO E0 80 2, aO E0 80 2]) rfl ⟨o_80, o_80⟩ ?_
      rw [hr.1, show nI s.1 + 1 = nI (s.1 + 1) from eq_add (a := s.1) (b := 1) rfl rfl]
      exact Ez.zret rfl (Or.inr rfl) (by decide +kernel) (hQ _ _ _ ⟨by rw [zb_t (p := tip b c s) ⟨h, h2⟩], rfl, by unfold pi; rw [if_pos ⟨h, h2⟩]; exact ⟨aUp_eq, by rw [aUp_nk (by decide), hr.2, h]⟩, fun q hq => aUp_ne hq, fun k hk _ => aUp_nk hk⟩)
    · refine Ez.blk B_X2_takeIfPresent_22 (lo' := [some (.ref 80), some (.int (nI c))]) (st' := [.int 0]) (I' := I1) (J' := J1) (Ps := []) rfl trivial ?_
      exact Ez.zret rfl (Or.inl rfl) (by decide +kernel) (hQ _ _ _ ⟨by rw [zb_f (p := tip b c s) (fun q => h2 q.2)], rfl, by unfold pi; rw [if_neg (fun q => h2 q.2)]; exact hr, fun _ _ => rfl, fun _ _ _ => rfl⟩)
theorem s_take (d : Nat) (I : aI) (J : aJ) (b : BF) (hb : CBuf b I) (W : BW b) (s : PZ) (hp : PO b s) (hr : RdS I s) (c : Nat) (hc : c < 128) : Sp m_X2_take (d + 3) [.ref 80, .int (nI c)] E0 I J (fun r I' J' => r = none ∧ J' = J ∧ RdS I' (pt b c s) ∧ FrP I I') := by
  refine Sp.of (lo := [some (.ref 80), some (.int (nI c))]) rfl (fun Q hQ => ?_)
  refine Ez.blk B_X2_take_0 (lo' := [some (.ref 80), some (.int (nI c))]) (st' := [.int (nI c), .ref 80]) (I' := I) (J' := J) (Ps := []) rfl trivial ?_
  refine Ez.callV (As := [.int (nI c)]) (b := 80) (rest := []) kn_X2_takeIfPresent ml_2_67 im_X2_takeIfPresent se_X2_takeIfPresent rfl (by decide +kernel) rfl rfl (Nat.le_of_ble_eq_true rfl) (Nat.le_of_ble_eq_true rfl) o_80 (s_tip _ I J b hb W s hp hr c hc) (fun r I1 J1 hq => ?_)
  obtain ⟨rfl, rfl, k1, k2⟩ := hq
  refine Ez.z_if_ne (off := 8) (tgt := 13) (by decide +kernel) (by decide) (fun h => ?_) (fun h => ?_)
  · exact Ez.vret rfl (by decide +kernel) (hQ _ _ _ ⟨rfl, rfl, by unfold pi at k1; rw [if_pos h] at k1; unfold pt; rw [if_pos h]; exact k1, k2⟩)
  · refine Ez.blk B_X2_take_8 (lo' := [some (.ref 80), some (.int (nI c))]) (st' := []) (I' := (aUp I1 80 2 1)) (J' := J1) (Ps := [aO E0 80 2 ∧ (1 = 0 ∨ 1 = 1)]) rfl ⟨o_80, (Or.inr rfl)⟩ ?_
    exact Ez.vret rfl (by decide +kernel) (hQ _ _ _ ⟨rfl, rfl, by unfold pi at k1; rw [if_neg h] at k1; unfold pt; rw [if_neg h]; exact ⟨by rw [aUp_nk (by decide)]; exact k1.1, aUp_eq⟩, fun q hq => by rw [aUp_ne hq]; exact k2.1 q hq, fun k h1 h2 => by rw [aUp_nk h2]; exact k2.2 k h1 h2⟩)
theorem dgt_t {b : BF} {k : Nat} (h : dig b k) : dgt b k = nI (b.2 k - 48) := by unfold dgt; rw [if_pos h]
theorem dgt_f {b : BF} {k : Nat} (h : ¬ dig b k) : dgt b k = -1 := by unfold dgt; rw [if_neg h]
theorem s_num1 (d : Nat) (I : aI) (J : aJ) (b : BF) (hb : CBuf b I) (W : BW b) (s : PZ) (hp : PO b s) (hr : RdS I s) : Sp m_X2_takeNumber (d + 2) [.ref 80, .int 1] E0 I J (fun r I' J' => r = some (.int (nI (pn b 1 s).1)) ∧ J' = J ∧ RdS I' (pn b 1 s).2 ∧ FrP I I') := by
  refine Sp.of (lo := [some (.ref 80), some (.int 1), none, none]) rfl (fun Q hQ => ?_)
  have hsl := hp.1
  have hb80 := W.1
  refine Ez.blk B_X2_takeNumber_0 (lo' := [some (.ref 80), some (.int 1), none, none]) (st' := [.int (I 80 1), .ref 81]) (I' := I) (J' := J) (Ps := [aO E0 80 2 ∧ E0.2.2 80 0 ≠ 0, aO E0 80 2]) rfl ⟨r_80_0, o_80⟩ ?_
  rw [hr.1]
  by_cases hd : dig b s.1
  · refine Ez.callV (As := [.int (nI s.1)]) (b := 81) (rest := []) kn_X5_digitAt ml_2_80 im_X5_digitAt se_X5_digitAt rfl (by decide +kernel) rfl rfl (Nat.le_of_ble_eq_true rfl) (Nat.le_of_ble_eq_true rfl) o_81 (s_digitAt _ I J b hb W.1 W.2 s.1 (by have := W.1; omega)) (fun r I1 J1 hq => ?_)
    obtain ⟨rfl, rfl, rfl⟩ := hq
    rw [dgt_t hd]
    have d0 : b.2 s.1 - 48 ≤ 9 := by have := hd.2.2; omega
    refine Ez.n_if_ge (off := 8) (tgt := 19) (by decide +kernel) (by decide) (a := (b.2 s.1 - 48)) rfl (by omega) (fun h => ?_) (fun h => h.elim)
    refine Ez.blk B_X2_takeNumber_19 (lo' := [some (.ref 80), some (.int 1), some (.int 0), some (.int 0)]) (st' := []) (I' := I1) (J' := J1) (Ps := []) rfl trivial ?_
    refine Ez.blk B_X2_takeNumber_23 (lo' := [some (.ref 80), some (.int 1), some (.int 0), some (.int 0)]) (st' := [.int (I1 80 2)]) (I' := I1) (J' := J1) (Ps := [aO E0 80 2]) rfl o_80 ?_
    refine Ez.n_if_ne (off := 55) (tgt := 82) (by decide +kernel) (by decide) (a := s.2) hr.2 (by omega) (fun h3 => ?_) (fun h3 => ?_)
    · refine Ez.blk B_X2_takeNumber_82 (lo' := [some (.ref 80), some (.int 1), some (.int 0), some (.int 0)]) (st' := [.int 0]) (I' := I1) (J' := J1) (Ps := []) rfl trivial ?_
      exact Ez.iret rfl (by decide +kernel) (hQ _ _ _ ⟨by unfold pn; rw [if_neg (fun q => h3 q.1)]; rfl, rfl, by unfold pn; rw [if_neg (fun q => h3 q.1)]; exact ⟨hr.1, by rw [hr.2]; have := hp.2; rw [show s.2 = 1 by omega]⟩, fun _ _ => rfl, fun _ _ _ => rfl⟩)
    · refine Ez.blk B_X2_takeNumber_30 (lo' := [some (.ref 80), some (.int 1), some (.int 0), some (.int 0)]) (st' := [.int 1, .int 0]) (I' := I1) (J' := J1) (Ps := []) rfl trivial ?_
      refine Ez.n_icmp_ge (off := 50) (tgt := 82) (by decide +kernel) (by decide) (a := 0) (b := 1) rfl rfl (by omega) (by omega) (fun h => absurd h (by decide)) (fun h => ?_)
      refine Ez.blk B_X2_takeNumber_35 (lo' := [some (.ref 80), some (.int 1), some (.int 0), some (.int 0)]) (st' := [.int (I1 80 1), .ref 81]) (I' := I1) (J' := J1) (Ps := [aO E0 80 2 ∧ E0.2.2 80 0 ≠ 0, aO E0 80 2]) rfl ⟨r_80_0, o_80⟩ ?_
      rw [hr.1]
      refine Ez.callV (As := [.int (nI s.1)]) (b := 81) (rest := []) kn_X5_digitAt ml_2_80 im_X5_digitAt se_X5_digitAt rfl (by decide +kernel) rfl rfl (Nat.le_of_ble_eq_true rfl) (Nat.le_of_ble_eq_true rfl) o_81 (s_digitAt _ I1 J1 b hb W.1 W.2 s.1 (by have := W.1; omega)) (fun r I2 J2 hq => ?_)
      obtain ⟨rfl, rfl, rfl⟩ := hq
      rw [dgt_t hd]
      refine Ez.n_if_lt (off := 36) (tgt := 82) (by decide +kernel) (by decide) (a := (b.2 s.1 - 48)) rfl (by omega) (fun h => h.elim) (fun h => ?_)
      refine Ez.blk B_X2_takeNumber_49 (lo' := [some (.ref 80), some (.int 1), some (.int 0), some (.int 0)]) (st' := [.int (I2 80 1), .ref 81, .int (10 * 0)]) (I' := I2) (J' := J2) (Ps := [aO E0 80 2 ∧ E0.2.2 80 0 ≠ 0, aO E0 80 2]) rfl ⟨r_80_0, o_80⟩ ?_
      rw [hr.1]
      refine Ez.callV (As := [.int (nI s.1)]) (b := 81) (rest := [.int (10 * 0)]) kn_X5_digitAt ml_2_80 im_X5_digitAt se_X5_digitAt rfl (by decide +kernel) rfl rfl (Nat.le_of_ble_eq_true rfl) (Nat.le_of_ble_eq_true rfl) o_81 (s_digitAt _ I2 J2 b hb W.1 W.2 s.1 (by have := W.1; omega)) (fun r I3 J3 hq => ?_)
      obtain ⟨rfl, rfl, rfl⟩ := hq
      rw [dgt_t hd]
      refine Ez.blk B_X2_takeNumber_64 (lo' := [some (.ref 80), some (.int 1), some (.int ((10 * 0) + nI (b.2 s.1 - 48))), some (.int (0 + 1))]) (st' := []) (I' := (aUp I3 80 1 (I3 80 1 + 1))) (J' := J3) (Ps := [aO E0 80 2, aO E0 80 2]) rfl ⟨o_80, o_80⟩ ?_
      rw [show ((10 * 0) + nI (b.2 s.1 - 48)) = nI (10 * 0 + (b.2 s.1 - 48)) from (eq_add (a := (10 * 0)) (b := (b.2 s.1 - 48)) (eq_mul (a := 10) (b := 0) rfl rfl) rfl)]
      rw [show (0 + 1) = nI (0 + 1) from (eq_add (a := 0) (b := 1) rfl rfl)]
      refine Ez.blk B_X2_takeNumber_23 (lo' := [some (.ref 80), some (.int 1), some (.int (nI (10 * 0 + (b.2 s.1 - 48)))), some (.int (nI (0 + 1)))]) (st' := [.int (I3 80 2)]) (I' := (aUp I3 80 1 (I3 80 1 + 1))) (J' := J3) (Ps := [aO E0 80 2]) rfl o_80 ?_
      generalize hI4 : (aUp I3 80 1 (I3 80 1 + 1)) = I4
      have pI4 : I4 80 1 = nI (s.1 + 1) := by rw [← hI4, aUp_eq, hr.1]; exact eq_add (a := s.1) (b := 1) rfl rfl
      have bI4 : I4 80 2 = nI 0 := by rw [← hI4, aUp_nk (by decide)]; exact (by rw [hr.2, h3])
      have fI4 : FrP I3 I4 := ⟨fun q hq => by rw [← hI4, aUp_ne hq], fun k h1 h2 => by rw [← hI4, aUp_nk h1]⟩
      have cI4 : CBuf b I4 := CBuf_fr hb (fI4.1 81 (by decide)) (fI4.1 82 (by decide))
      have hd1 : 10 * 0 + (b.2 s.1 - 48) = b.2 s.1 - 48 := by omega
      refine Ez.n_if_ne (off := 55) (tgt := 82) (by decide +kernel) (by decide) (a := s.2) hr.2 (by omega) (fun h => absurd h3 h) (fun h => ?_)
      refine Ez.blk B_X2_takeNumber_30 (lo' := [some (.ref 80), some (.int 1), some (.int (nI (10 * 0 + (b.2 s.1 - 48)))), some (.int (nI (0 + 1)))]) (st' := [.int 1, .int (nI (0 + 1))]) (I' := I4) (J' := J3) (Ps := []) rfl trivial ?_
      refine Ez.n_icmp_ge (off := 50) (tgt := 82) (by decide +kernel) (by decide) (a := (0 + 1)) (b := 1) rfl rfl (by omega) (by omega) (fun h => ?_) (fun h => absurd h (by omega))
      refine Ez.blk B_X2_takeNumber_82 (lo' := [some (.ref 80), some (.int 1), some (.int (nI (10 * 0 + (b.2 s.1 - 48)))), some (.int (nI (0 + 1)))]) (st' := [.int (nI (10 * 0 + (b.2 s.1 - 48)))]) (I' := I4) (J' := J3) (Ps := []) rfl trivial ?_
      exact Ez.iret rfl (by decide +kernel) (hQ _ _ _ (by unfold pn; rw [if_pos ⟨h3, hd⟩, if_neg (fun q => absurd q.1 (by decide))]; exact ⟨by rw [hd1], rfl, ⟨pI4, bI4⟩, fI4⟩))
  · refine Ez.callV (As := [.int (nI s.1)]) (b := 81) (rest := []) kn_X5_digitAt ml_2_80 im_X5_digitAt se_X5_digitAt rfl (by decide +kernel) rfl rfl (Nat.le_of_ble_eq_true rfl) (Nat.le_of_ble_eq_true rfl) o_81 (s_digitAt _ I J b hb W.1 W.2 s.1 (by have := W.1; omega)) (fun r I1 J1 hq => ?_)
    obtain ⟨rfl, rfl, rfl⟩ := hq
    rw [dgt_f hd]
    refine Ez.if_ge (off := 8) (tgt := 19) (by decide +kernel) (by decide) (fun h => absurd h (by decide)) (fun h => ?_)
    refine Ez.blk B_X2_takeNumber_14 (lo' := [some (.ref 80), some (.int 1), some (.int 0), some (.int 0)]) (st' := []) (I' := (aUp I1 80 2 1)) (J' := J1) (Ps := [aO E0 80 2 ∧ (1 = 0 ∨ 1 = 1)]) rfl ⟨o_80, (Or.inr rfl)⟩ ?_
    refine Ez.blk B_X2_takeNumber_23 (lo' := [some (.ref 80), some (.int 1), some (.int 0), some (.int 0)]) (st' := [.int 1]) (I' := (aUp I1 80 2 1)) (J' := J1) (Ps := [aO E0 80 2]) rfl o_80 ?_
    refine Ez.n_if_ne (off := 55) (tgt := 82) (by decide +kernel) (by decide) (a := 1) rfl (by omega) (fun h => ?_) (fun h => absurd h (by decide))
    refine Ez.blk B_X2_takeNumber_82 (lo' := [some (.ref 80), some (.int 1), some (.int 0), some (.int 0)]) (st' := [.int 0]) (I' := (aUp I1 80 2 1)) (J' := J1) (Ps := []) rfl trivial ?_
    exact Ez.iret rfl (by decide +kernel) (hQ _ _ _ ⟨by unfold pn; rw [if_neg (fun q => hd q.2)]; rfl, rfl, by unfold pn; rw [if_neg (fun q => hd q.2)]; exact ⟨by rw [aUp_nk (by decide)]; exact hr.1, aUp_eq⟩, fun q hq => aUp_ne hq, fun k _ h2 => aUp_nk h2⟩)
theorem s_num2 (d : Nat) (I : aI) (J : aJ) (b : BF) (hb : CBuf b I) (W : BW b) (s : PZ) (hp : PO b s) (hr : RdS I s) : Sp m_X2_takeNumber (d + 2) [.ref 80, .int 2] E0 I J (fun r I' J' => r = some (.int (nI (pn b 2 s).1)) ∧ J' = J ∧ RdS I' (pn b 2 s).2 ∧ FrP I I') := by
  refine Sp.of (lo := [some (.ref 80), some (.int 2), none, none]) rfl (fun Q hQ => ?_)
  have hsl := hp.1
  have hb80 := W.1
  refine Ez.blk B_X2_takeNumber_0 (lo' := [some (.ref 80), some (.int 2), none, none]) (st' := [.int (I 80 1), .ref 81]) (I' := I) (J' := J) (Ps := [aO E0 80 2 ∧ E0.2.2 80 0 ≠ 0, aO E0 80 2]) rfl ⟨r_80_0, o_80⟩ ?_
  rw [hr.1]
  by_cases hd : dig b s.1
  · refine Ez.callV (As := [.int (nI s.1)]) (b := 81) (rest := []) kn_X5_digitAt ml_2_80 im_X5_digitAt se_X5_digitAt rfl (by decide +kernel) rfl rfl (Nat.le_of_ble_eq_true rfl) (Nat.le_of_ble_eq_true rfl) o_81 (s_digitAt _ I J b hb W.1 W.2 s.1 (by have := W.1; omega)) (fun r I1 J1 hq => ?_)
    obtain ⟨rfl, rfl, rfl⟩ := hq
    rw [dgt_t hd]
    have d0 : b.2 s.1 - 48 ≤ 9 := by have := hd.2.2; omega
    refine Ez.n_if_ge (off := 8) (tgt := 19) (by decide +kernel) (by decide) (a := (b.2 s.1 - 48)) rfl (by omega) (fun h => ?_) (fun h => h.elim)
    refine Ez.blk B_X2_takeNumber_19 (lo' := [some (.ref 80), some (.int 2), some (.int 0), some (.int 0)]) (st' := []) (I' := I1) (J' := J1) (Ps := []) rfl trivial ?_
    refine Ez.blk B_X2_takeNumber_23 (lo' := [some (.ref 80), some (.int 2), some (.int 0), some (.int 0)]) (st' := [.int (I1 80 2)]) (I' := I1) (J' := J1) (Ps := [aO E0 80 2]) rfl o_80 ?_
    refine Ez.n_if_ne (off := 55) (tgt := 82) (by decide +kernel) (by decide) (a := s.2) hr.2 (by omega) (fun h3 => ?_) (fun h3 => ?_)
    · refine Ez.blk B_X2_takeNumber_82 (lo' := [some (.ref 80), some (.int 2), some (.int 0), some (.int 0)]) (st' := [.int 0]) (I' := I1) (J' := J1) (Ps := []) rfl trivial ?_
      exact Ez.iret rfl (by decide +kernel) (hQ _ _ _ ⟨by unfold pn; rw [if_neg (fun q => h3 q.1)]; rfl, rfl, by unfold pn; rw [if_neg (fun q => h3 q.1)]; exact ⟨hr.1, by rw [hr.2]; have := hp.2; rw [show s.2 = 1 by omega]⟩, fun _ _ => rfl, fun _ _ _ => rfl⟩)
    · refine Ez.blk B_X2_takeNumber_30 (lo' := [some (.ref 80), some (.int 2), some (.int 0), some (.int 0)]) (st' := [.int 2, .int 0]) (I' := I1) (J' := J1) (Ps := []) rfl trivial ?_
      refine Ez.n_icmp_ge (off := 50) (tgt := 82) (by decide +kernel) (by decide) (a := 0) (b := 2) rfl rfl (by omega) (by omega) (fun h => absurd h (by decide)) (fun h => ?_)
      refine Ez.blk B_X2_takeNumber_35 (lo' := [some (.ref 80), some (.int 2), some (.int 0), some (.int 0)]) (st' := [.int (I1 80 1), .ref 81]) (I' := I1) (J' := J1) (Ps := [aO E0 80 2 ∧ E0.2.2 80 0 ≠ 0, aO E0 80 2]) rfl ⟨r_80_0, o_80⟩ ?_
      rw [hr.1]
      refine Ez.callV (As := [.int (nI s.1)]) (b := 81) (rest := []) kn_X5_digitAt ml_2_80 im_X5_digitAt se_X5_digitAt rfl (by decide +kernel) rfl rfl (Nat.le_of_ble_eq_true rfl) (Nat.le_of_ble_eq_true rfl) o_81 (s_digitAt _ I1 J1 b hb W.1 W.2 s.1 (by have := W.1; omega)) (fun r I2 J2 hq => ?_)
      obtain ⟨rfl, rfl, rfl⟩ := hq
      rw [dgt_t hd]
      refine Ez.n_if_lt (off := 36) (tgt := 82) (by decide +kernel) (by decide) (a := (b.2 s.1 - 48)) rfl (by omega) (fun h => h.elim) (fun h => ?_)
      refine Ez.blk B_X2_takeNumber_49 (lo' := [some (.ref 80), some (.int 2), some (.int 0), some (.int 0)]) (st' := [.int (I2 80 1), .ref 81, .int (10 * 0)]) (I' := I2) (J' := J2) (Ps := [aO E0 80 2 ∧ E0.2.2 80 0 ≠ 0, aO E0 80 2]) rfl ⟨r_80_0, o_80⟩ ?_
      rw [hr.1]
      refine Ez.callV (As := [.int (nI s.1)]) (b := 81) (rest := [.int (10 * 0)]) kn_X5_digitAt ml_2_80 im_X5_digitAt se_X5_digitAt rfl (by decide +kernel) rfl rfl (Nat.le_of_ble_eq_true rfl) (Nat.le_of_ble_eq_true rfl) o_81 (s_digitAt _ I2 J2 b hb W.1 W.2 s.1 (by have := W.1; omega)) (fun r I3 J3 hq => ?_)
      obtain ⟨rfl, rfl, rfl⟩ := hq
      rw [dgt_t hd]
      refine Ez.blk B_X2_takeNumber_64 (lo' := [some (.ref 80), some (.int 2), some (.int ((10 * 0) + nI (b.2 s.1 - 48))), some (.int (0 + 1))]) (st' := []) (I' := (aUp I3 80 1 (I3 80 1 + 1))) (J' := J3) (Ps := [aO E0 80 2, aO E0 80 2]) rfl ⟨o_80, o_80⟩ ?_
      rw [show ((10 * 0) + nI (b.2 s.1 - 48)) = nI (10 * 0 + (b.2 s.1 - 48)) from (eq_add (a := (10 * 0)) (b := (b.2 s.1 - 48)) (eq_mul (a := 10) (b := 0) rfl rfl) rfl)]
      rw [show (0 + 1) = nI (0 + 1) from (eq_add (a := 0) (b := 1) rfl rfl)]
      refine Ez.blk B_X2_takeNumber_23 (lo' := [some (.ref 80), some (.int 2), some (.int (nI (10 * 0 + (b.2 s.1 - 48)))), some (.int (nI (0 + 1)))]) (st' := [.int (I3 80 2)]) (I' := (aUp I3 80 1 (I3 80 1 + 1))) (J' := J3) (Ps := [aO E0 80 2]) rfl o_80 ?_
      generalize hI4 : (aUp I3 80 1 (I3 80 1 + 1)) = I4
      have pI4 : I4 80 1 = nI (s.1 + 1) := by rw [← hI4, aUp_eq, hr.1]; exact eq_add (a := s.1) (b := 1) rfl rfl
      have bI4 : I4 80 2 = nI 0 := by rw [← hI4, aUp_nk (by decide)]; exact (by rw [hr.2, h3])
      have fI4 : FrP I3 I4 := ⟨fun q hq => by rw [← hI4, aUp_ne hq], fun k h1 h2 => by rw [← hI4, aUp_nk h1]⟩
      have cI4 : CBuf b I4 := CBuf_fr hb (fI4.1 81 (by decide)) (fI4.1 82 (by decide))
      have hd1 : 10 * 0 + (b.2 s.1 - 48) = b.2 s.1 - 48 := by omega
      refine Ez.n_if_ne (off := 55) (tgt := 82) (by decide +kernel) (by decide) (a := s.2) hr.2 (by omega) (fun h => absurd h3 h) (fun h => ?_)
      refine Ez.blk B_X2_takeNumber_30 (lo' := [some (.ref 80), some (.int 2), some (.int (nI (10 * 0 + (b.2 s.1 - 48)))), some (.int (nI (0 + 1)))]) (st' := [.int 2, .int (nI (0 + 1))]) (I' := I4) (J' := J3) (Ps := []) rfl trivial ?_
      refine Ez.n_icmp_ge (off := 50) (tgt := 82) (by decide +kernel) (by decide) (a := (0 + 1)) (b := 2) rfl rfl (by omega) (by omega) (fun h => absurd h (by omega)) (fun h => ?_)
      refine Ez.blk B_X2_takeNumber_35 (lo' := [some (.ref 80), some (.int 2), some (.int (nI (10 * 0 + (b.2 s.1 - 48)))), some (.int (nI (0 + 1)))]) (st' := [.int (I4 80 1), .ref 81]) (I' := I4) (J' := J3) (Ps := [aO E0 80 2 ∧ E0.2.2 80 0 ≠ 0, aO E0 80 2]) rfl ⟨r_80_0, o_80⟩ ?_
      rw [pI4]
      by_cases he : dig b (s.1 + 1)
      · refine Ez.callV (As := [.int (nI (s.1 + 1))]) (b := 81) (rest := []) kn_X5_digitAt ml_2_80 im_X5_digitAt se_X5_digitAt rfl (by decide +kernel) rfl rfl (Nat.le_of_ble_eq_true rfl) (Nat.le_of_ble_eq_true rfl) o_81 (s_digitAt _ I4 J3 b cI4 W.1 W.2 (s.1 + 1) (by have := W.1; omega)) (fun r I5 J5 hq => ?_)
        obtain ⟨rfl, rfl, rfl⟩ := hq
        rw [dgt_t he]
        have d1 : b.2 (s.1 + 1) - 48 ≤ 9 := by have := he.2.2; omega
        refine Ez.n_if_lt (off := 36) (tgt := 82) (by decide +kernel) (by decide) (a := (b.2 (s.1 + 1) - 48)) rfl (by omega) (fun h => h.elim) (fun h => ?_)
        refine Ez.blk B_X2_takeNumber_49 (lo' := [some (.ref 80), some (.int 2), some (.int (nI (10 * 0 + (b.2 s.1 - 48)))), some (.int (nI (0 + 1)))]) (st' := [.int (I5 80 1), .ref 81, .int (10 * nI (10 * 0 + (b.2 s.1 - 48)))]) (I' := I5) (J' := J5) (Ps := [aO E0 80 2 ∧ E0.2.2 80 0 ≠ 0, aO E0 80 2]) rfl ⟨r_80_0, o_80⟩ ?_
        rw [pI4]
        refine Ez.callV (As := [.int (nI (s.1 + 1))]) (b := 81) (rest := [.int (10 * nI (10 * 0 + (b.2 s.1 - 48)))]) kn_X5_digitAt ml_2_80 im_X5_digitAt se_X5_digitAt rfl (by decide +kernel) rfl rfl (Nat.le_of_ble_eq_true rfl) (Nat.le_of_ble_eq_true rfl) o_81 (s_digitAt _ I5 J5 b cI4 W.1 W.2 (s.1 + 1) (by have := W.1; omega)) (fun r I6 J6 hq => ?_)
        obtain ⟨rfl, rfl, rfl⟩ := hq
        rw [dgt_t he]
        refine Ez.blk B_X2_takeNumber_64 (lo' := [some (.ref 80), some (.int 2), some (.int ((10 * nI (10 * 0 + (b.2 s.1 - 48))) + nI (b.2 (s.1 + 1) - 48))), some (.int (nI (0 + 1) + 1))]) (st' := []) (I' := (aUp I6 80 1 (I6 80 1 + 1))) (J' := J6) (Ps := [aO E0 80 2, aO E0 80 2]) rfl ⟨o_80, o_80⟩ ?_
        rw [show ((10 * nI (10 * 0 + (b.2 s.1 - 48))) + nI (b.2 (s.1 + 1) - 48)) = nI (10 * (10 * 0 + (b.2 s.1 - 48)) + (b.2 (s.1 + 1) - 48)) from (eq_add (a := (10 * (10 * 0 + (b.2 s.1 - 48)))) (b := (b.2 (s.1 + 1) - 48)) (eq_mul (a := 10) (b := (10 * 0 + (b.2 s.1 - 48))) rfl rfl) rfl)]
        rw [show (nI (0 + 1) + 1) = nI (0 + 1 + 1) from (eq_add (a := (0 + 1)) (b := 1) rfl rfl)]
        refine Ez.blk B_X2_takeNumber_23 (lo' := [some (.ref 80), some (.int 2), some (.int (nI (10 * (10 * 0 + (b.2 s.1 - 48)) + (b.2 (s.1 + 1) - 48)))), some (.int (nI (0 + 1 + 1)))]) (st' := [.int (I6 80 2)]) (I' := (aUp I6 80 1 (I6 80 1 + 1))) (J' := J6) (Ps := [aO E0 80 2]) rfl o_80 ?_
        generalize hI7 : (aUp I6 80 1 (I6 80 1 + 1)) = I7
        have pI7 : I7 80 1 = nI ((s.1 + 1) + 1) := by rw [← hI7, aUp_eq, pI4]; exact eq_add (a := (s.1 + 1)) (b := 1) rfl rfl
        have bI7 : I7 80 2 = nI 0 := by rw [← hI7, aUp_nk (by decide)]; exact bI4
        have fI7 : FrP I3 I7 := ⟨fun q hq => by rw [← hI7, aUp_ne hq]; exact fI4.1 q hq, fun k h1 h2 => by rw [← hI7, aUp_nk h1]; exact fI4.2 k h1 h2⟩
        have cI7 : CBuf b I7 := CBuf_fr hb (fI7.1 81 (by decide)) (fI7.1 82 (by decide))
        refine Ez.n_if_ne (off := 55) (tgt := 82) (by decide +kernel) (by decide) (a := 0) bI4 (by omega) (fun h => absurd rfl h) (fun h => ?_)
        refine Ez.blk B_X2_takeNumber_30 (lo' := [some (.ref 80), some (.int 2), some (.int (nI (10 * (10 * 0 + (b.2 s.1 - 48)) + (b.2 (s.1 + 1) - 48)))), some (.int (nI (0 + 1 + 1)))]) (st' := [.int 2, .int (nI (0 + 1 + 1))]) (I' := I7) (J' := J6) (Ps := []) rfl trivial ?_
        refine Ez.n_icmp_ge (off := 50) (tgt := 82) (by decide +kernel) (by decide) (a := (0 + 1 + 1)) (b := 2) rfl rfl (by omega) (by omega) (fun h => ?_) (fun h => absurd h (by omega))
        refine Ez.blk B_X2_takeNumber_82 (lo' := [some (.ref 80), some (.int 2), some (.int (nI (10 * (10 * 0 + (b.2 s.1 - 48)) + (b.2 (s.1 + 1) - 48)))), some (.int (nI (0 + 1 + 1)))]) (st' := [.int (nI (10 * (10 * 0 + (b.2 s.1 - 48)) + (b.2 (s.1 + 1) - 48)))]) (I' := I7) (J' := J6) (Ps := []) rfl trivial ?_
        exact Ez.iret rfl (by decide +kernel) (hQ _ _ _ (by unfold pn; rw [if_pos ⟨h3, hd⟩, if_pos ⟨rfl, he⟩]; exact ⟨by rw [hd1], rfl, ⟨pI7, bI7⟩, fI7⟩))
      · refine Ez.callV (As := [.int (nI (s.1 + 1))]) (b := 81) (rest := []) kn_X5_digitAt ml_2_80 im_X5_digitAt se_X5_digitAt rfl (by decide +kernel) rfl rfl (Nat.le_of_ble_eq_true rfl) (Nat.le_of_ble_eq_true rfl) o_81 (s_digitAt _ I4 J3 b cI4 W.1 W.2 (s.1 + 1) (by have := W.1; omega)) (fun r I5 J5 hq => ?_)
        obtain ⟨rfl, rfl, rfl⟩ := hq
        rw [dgt_f he]
        refine Ez.if_lt (off := 36) (tgt := 82) (by decide +kernel) (by decide) (fun h => ?_) (fun h => absurd (by decide) h)
        refine Ez.blk B_X2_takeNumber_82 (lo' := [some (.ref 80), some (.int 2), some (.int (nI (10 * 0 + (b.2 s.1 - 48)))), some (.int (nI (0 + 1)))]) (st' := [.int (nI (10 * 0 + (b.2 s.1 - 48)))]) (I' := I5) (J' := J5) (Ps := []) rfl trivial ?_
        exact Ez.iret rfl (by decide +kernel) (hQ _ _ _ (by unfold pn; rw [if_pos ⟨h3, hd⟩, if_neg (fun q => he q.2)]; exact ⟨by rw [hd1], rfl, ⟨pI4, bI4⟩, fI4⟩))
  · refine Ez.callV (As := [.int (nI s.1)]) (b := 81) (rest := []) kn_X5_digitAt ml_2_80 im_X5_digitAt se_X5_digitAt rfl (by decide +kernel) rfl rfl (Nat.le_of_ble_eq_true rfl) (Nat.le_of_ble_eq_true rfl) o_81 (s_digitAt _ I J b hb W.1 W.2 s.1 (by have := W.1; omega)) (fun r I1 J1 hq => ?_)
    obtain ⟨rfl, rfl, rfl⟩ := hq
    rw [dgt_f hd]
    refine Ez.if_ge (off := 8) (tgt := 19) (by decide +kernel) (by decide) (fun h => absurd h (by decide)) (fun h => ?_)
    refine Ez.blk B_X2_takeNumber_14 (lo' := [some (.ref 80), some (.int 2), some (.int 0), some (.int 0)]) (st' := []) (I' := (aUp I1 80 2 1)) (J' := J1) (Ps := [aO E0 80 2 ∧ (1 = 0 ∨ 1 = 1)]) rfl ⟨o_80, (Or.inr rfl)⟩ ?_
    refine Ez.blk B_X2_takeNumber_23 (lo' := [some (.ref 80), some (.int 2), some (.int 0), some (.int 0)]) (st' := [.int 1]) (I' := (aUp I1 80 2 1)) (J' := J1) (Ps := [aO E0 80 2]) rfl o_80 ?_
    refine Ez.n_if_ne (off := 55) (tgt := 82) (by decide +kernel) (by decide) (a := 1) rfl (by omega) (fun h => ?_) (fun h => absurd h (by decide))
    refine Ez.blk B_X2_takeNumber_82 (lo' := [some (.ref 80), some (.int 2), some (.int 0), some (.int 0)]) (st' := [.int 0]) (I' := (aUp I1 80 2 1)) (J' := J1) (Ps := []) rfl trivial ?_
    exact Ez.iret rfl (by decide +kernel) (hQ _ _ _ ⟨by unfold pn; rw [if_neg (fun q => hd q.2)]; rfl, rfl, by unfold pn; rw [if_neg (fun q => hd q.2)]; exact ⟨by rw [aUp_nk (by decide)]; exact hr.1, aUp_eq⟩, fun q hq => aUp_ne hq, fun k _ h2 => aUp_nk h2⟩)

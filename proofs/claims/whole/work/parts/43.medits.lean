/-! THE REFERENCE: chain and edits -/
/-- an edit of the chain: begin, a change of row 94 alone, record -/
theorem MP_ed {T : TS} {I I1 I2 I3 : aI} {J : aJ} {c' : Nat → Nat} (h : MP T I J) (b : ∀ q, q ≠ 97 → I1 q = I q) (m : ∀ q, q ≠ 94 → I2 q = I1 q) (hc : MC c' I2) (he : MEd (edi T.2.1 T.1 c') I3) (r0 : ∀ k, k ≠ 2 → I3 93 k = I2 93 k) (r1 : ∀ q, q ≠ 93 → q ≠ 95 → I3 q = I2 q) : MP (ste T c') I3 J ∧ Fr1 I I3 J J := by
  have f : ∀ q, q ≠ 93 → q ≠ 95 → q ≠ 94 → q ≠ 97 → I3 q = I q := fun q h3 h5 h4 h7 => by rw [r1 q h3 h5, m q h4, b q h7]
  have f93 : ∀ k, k ≠ 2 → I3 93 k = I 93 k := fun k hk => by rw [r0 k hk, m 93 (by decide), b 93 (by decide)]
  refine ⟨?_, fun q hq => ⟨f q (by omega) (by omega) (by omega) (by omega), rfl⟩⟩
  have sn := MSn_fr h.2.2.1 (f93 4 (by decide)) (f 96 (by decide) (by decide) (by decide) (by decide))
  have bf := MBf_fr h.2.2.2.1 (f93 18 (by decide)) (f 108 (by decide) (by decide) (by decide) (by decide))
  have sl := MSl_fr h.2.2.2.2 (f 112 (by decide) (by decide) (by decide) (by decide)) (f 113 (by decide) (by decide) (by decide) (by decide)) (rfl : J 114 = J 114)
  have c3 : MC c' I3 := MC_fr hc (r1 94 (by decide) (by decide))
  unfold ste
  unfold edi at he
  by_cases e : eqc T.1 c' = true
  · rw [if_pos e] at he ⊢
    exact ⟨fun k hk => by rw [c3 k hk, eqc_iff.mp e k hk], he, sn, bf, sl⟩
  · rw [if_neg e] at he ⊢
    exact ⟨c3, he, sn, bf, sl⟩
theorem cup_le {c : Nat → Nat} {k v B : Nat} (h : ∀ j, j < 46 → c j ≤ B) (hv : v ≤ B) : ∀ j, j < 46 → cup c k v j ≤ B := fun j hj => by
  by_cases e : j = k
  · rw [e, cup_eq]; exact hv
  · rw [cup_ne e]; exact h j hj
theorem MC_up {c : Nat → Nat} {I : aI} {k v : Nat} (h : MC c I) : MC (cup c k v) (aUp I 94 k (nI v)) := fun j hj => by
  by_cases e : j = k
  · rw [e, cup_eq, aUp_eq]
  · rw [cup_ne e, aUp_nk e]; exact h j hj
theorem m_states (d : Nat) (I : aI) (J : aJ) (T : TS) (W : WT T) (hP : MP T I J) : Sp m_X10_states (d + 1) [.ref 93] E0 I J (fun r I' J' => r = some (.int (nI (T.1 0))) ∧ MP T I' J' ∧ Fr1 I I' J J') := by
  refine Sp.of (lo := [some (.ref 93)]) rfl (fun Q hQ => ?_)
  refine Ez.blk B_X10_states_0 (lo' := [some (.ref 93)]) (st' := [.int (I 94 0)]) (I' := I) (J' := J) (Ps := [aO E0 93 10 ∧ E0.2.2 93 0 ≠ 0, aAr E0 1 94 0]) rfl ⟨r_93_0, (a_94 (vin (n := 0) rfl (by omega) (by decide)))⟩ ?_
  rw [hP.1 0 (by decide)]
  exact Ez.iret rfl (by decide +kernel) (hQ _ _ _ ⟨rfl, hP, fun _ _ => ⟨rfl, rfl⟩⟩)
theorem m_resolution (d : Nat) (I : aI) (J : aJ) (T : TS) (W : WT T) (hP : MP T I J) : Sp m_X10_resolution (d + 1) [.ref 93] E0 I J (fun r I' J' => r = some (.int (nI (T.1 1))) ∧ MP T I' J' ∧ Fr1 I I' J J') := by
  refine Sp.of (lo := [some (.ref 93)]) rfl (fun Q hQ => ?_)
  refine Ez.blk B_X10_resolution_0 (lo' := [some (.ref 93)]) (st' := [.int (I 94 1)]) (I' := I) (J' := J) (Ps := [aO E0 93 10 ∧ E0.2.2 93 0 ≠ 0, aAr E0 1 94 1]) rfl ⟨r_93_0, (a_94 (vin (n := 1) rfl (by omega) (by decide)))⟩ ?_
  rw [hP.1 1 (by decide)]
  exact Ez.iret rfl (by decide +kernel) (hQ _ _ _ ⟨rfl, hP, fun _ _ => ⟨rfl, rfl⟩⟩)
theorem m_editCount (d : Nat) (I : aI) (J : aJ) (T : TS) (W : WT T) (hP : MP T I J) : Sp m_X10_editCount (d + 1) [.ref 93] E0 I J (fun r I' J' => r = some (.int (nI T.2.1.1)) ∧ MP T I' J' ∧ Fr1 I I' J J') := by
  refine Sp.of (lo := [some (.ref 93)]) rfl (fun Q hQ => ?_)
  refine Ez.blk B_X10_editCount_0 (lo' := [some (.ref 93)]) (st' := [.int (I 93 2)]) (I' := I) (J' := J) (Ps := [aO E0 93 10]) rfl o_93 ?_
  rw [hP.2.1.1]
  exact Ez.iret rfl (by decide +kernel) (hQ _ _ _ ⟨rfl, hP, fun _ _ => ⟨rfl, rfl⟩⟩)
theorem m_label (d : Nat) (I : aI) (J : aJ) (T : TS) (W : WT T) (hP : MP T I J) (x : Int32) : Sp m_X10_label (d + 3) [.ref 93, .int x] E0 I J (fun r I' J' => r = some (.int (f_label T x).1) ∧ MP (f_label T x).2 I' J' ∧ Fr1 I I' J J') := by
  refine Sp.of (lo := [some (.ref 93), some (.int x)]) rfl (fun Q hQ => ?_)
  have w1 := W.1.1
  have w2 := W.1.2.1
  have wb := Wc_12 W.1
  refine Ez.blk B_X10_label_0 (lo' := [some (.ref 93), some (.int x)]) (st' := [.int x, .ref 93]) (I' := I) (J' := J) (Ps := []) rfl trivial ?_
  refine Ez.callV (As := [.int x]) (b := 93) (rest := []) kn_X10_isState ml_10_103 im_X10_isState se_X10_isState rfl (by decide +kernel) rfl rfl (Nat.le_of_ble_eq_true rfl) (Nat.le_of_ble_eq_true rfl) o_93 (s_isState _ I J (T.1 0) (hP.1 0 (by decide)) W.1.1 x) (fun r I1 J1 hq => ?_)
  obtain ⟨rfl, rfl, rfl⟩ := hq
  refine Ez.z_if_eq (off := 14) (tgt := 19) (by decide +kernel) (by decide) (fun h => ?_) (fun h => ?_)
  · refine Ez.blk B_X10_label_19 (lo' := [some (.ref 93), some (.int x)]) (st' := [.int (-2)]) (I' := I1) (J' := J1) (Ps := []) rfl trivial ?_
    exact Ez.iret rfl (by decide +kernel) (hQ _ _ _ (by unfold f_label; rw [if_neg h]; exact ⟨rfl, hP, fun _ _ => ⟨rfl, rfl⟩⟩))
  · obtain ⟨k, hk, rfl, hkc⟩ := st_of (by omega) h
    refine Ez.blk B_X10_label_8 (lo' := [some (.ref 93), some (.int (nI k))]) (st' := [.int (I1 94 ((4 + nI k).toNatClampNeg))]) (I' := I1) (J' := J1) (Ps := [aO E0 93 10 ∧ E0.2.2 93 0 ≠ 0, aAr E0 1 94 (4 + nI k)]) rfl ⟨r_93_0, (a_94 (vin (n := (4 + k)) (eq_add (a := 4) (b := k) rfl rfl) (by omega) (by decide)))⟩ ?_
    rw [cln (x := (4 + nI k)) (n := (4 + k)) (eq_add (a := 4) (b := k) rfl rfl) (by omega)]
    rw [hP.1 (4 + k) (by omega)]
    exact Ez.iret rfl (by decide +kernel) (hQ _ _ _ (by unfold f_label; rw [if_pos h, hkc]; exact ⟨rfl, hP, fun _ _ => ⟨rfl, rfl⟩⟩))
theorem m_weight (d : Nat) (I : aI) (J : aJ) (T : TS) (W : WT T) (hP : MP T I J) (x y : Int32) : Sp m_X10_weight (d + 3) [.ref 93, .int x, .int y] E0 I J (fun r I' J' => r = some (.int (f_weight T x y).1) ∧ MP (f_weight T x y).2 I' J' ∧ Fr1 I I' J J') := by
  refine Sp.of (lo := [some (.ref 93), some (.int x), some (.int y)]) rfl (fun Q hQ => ?_)
  have w1 := W.1.1
  have w2 := W.1.2.1
  have wb := Wc_12 W.1
  refine Ez.blk B_X10_weight_0 (lo' := [some (.ref 93), some (.int x), some (.int y)]) (st' := [.int x, .ref 93]) (I' := I) (J' := J) (Ps := []) rfl trivial ?_
  refine Ez.callV (As := [.int x]) (b := 93) (rest := []) kn_X10_isState ml_10_103 im_X10_isState se_X10_isState rfl (by decide +kernel) rfl rfl (Nat.le_of_ble_eq_true rfl) (Nat.le_of_ble_eq_true rfl) o_93 (s_isState _ I J (T.1 0) (hP.1 0 (by decide)) W.1.1 x) (fun r I1 J1 hq => ?_)
  obtain ⟨rfl, rfl, rfl⟩ := hq
  refine Ez.z_if_eq (off := 20) (tgt := 25) (by decide +kernel) (by decide) (fun h => ?_) (fun h => ?_)
  · refine Ez.blk B_X10_weight_25 (lo' := [some (.ref 93), some (.int x), some (.int y)]) (st' := [.int (-2)]) (I' := I1) (J' := J1) (Ps := []) rfl trivial ?_
    exact Ez.iret rfl (by decide +kernel) (hQ _ _ _ (by unfold f_weight; rw [if_neg (fun q => h q.1)]; exact ⟨rfl, hP, fun _ _ => ⟨rfl, rfl⟩⟩))
  · refine Ez.blk B_X10_weight_8 (lo' := [some (.ref 93), some (.int x), some (.int y)]) (st' := [.int y, .ref 93]) (I' := I1) (J' := J1) (Ps := []) rfl trivial ?_
    refine Ez.callV (As := [.int y]) (b := 93) (rest := []) kn_X10_isState ml_10_103 im_X10_isState se_X10_isState rfl (by decide +kernel) rfl rfl (Nat.le_of_ble_eq_true rfl) (Nat.le_of_ble_eq_true rfl) o_93 (s_isState _ I1 J1 (T.1 0) (hP.1 0 (by decide)) W.1.1 y) (fun r I2 J2 hq => ?_)
    obtain ⟨rfl, rfl, rfl⟩ := hq
    refine Ez.z_if_eq (off := 12) (tgt := 25) (by decide +kernel) (by decide) (fun h2 => ?_) (fun h2 => ?_)
    · refine Ez.blk B_X10_weight_25 (lo' := [some (.ref 93), some (.int x), some (.int y)]) (st' := [.int (-2)]) (I' := I2) (J' := J2) (Ps := []) rfl trivial ?_
      exact Ez.iret rfl (by decide +kernel) (hQ _ _ _ (by unfold f_weight; rw [if_neg (fun q => h2 q.2)]; exact ⟨rfl, hP, fun _ _ => ⟨rfl, rfl⟩⟩))
    · obtain ⟨k, hk, rfl, hkc⟩ := st_of (by omega) h
      obtain ⟨j, hj, rfl, hjc⟩ := st_of (by omega) h2
      refine Ez.blk B_X10_weight_16 (lo' := [some (.ref 93), some (.int (nI k)), some (.int (nI j))]) (st' := [.int (nI j), .int (nI k), .ref 93]) (I' := I2) (J' := J2) (Ps := []) rfl trivial ?_
      refine Ez.callV (As := [.int (nI k), .int (nI j)]) (b := 93) (rest := []) kn_X10_w ml_10_116 im_X10_w se_X10_w rfl (by decide +kernel) rfl rfl (Nat.le_of_ble_eq_true rfl) (Nat.le_of_ble_eq_true rfl) o_93 (s_w _ I2 J2 T.1 hP.1 k j (by omega) (by omega)) (fun r I3 J3 hq => ?_)
      obtain ⟨rfl, rfl, rfl⟩ := hq
      refine Ez.blk B_X10_weight_22 (lo' := [some (.ref 93), some (.int (nI k)), some (.int (nI j))]) (st' := [.int (nI (T.1 (10 + 6 * k + j)))]) (I' := I3) (J' := J3) (Ps := []) rfl trivial ?_
      exact Ez.iret rfl (by decide +kernel) (hQ _ _ _ (by unfold f_weight; rw [if_pos ⟨h, h2⟩, hkc, hjc]; exact ⟨rfl, hP, fun _ _ => ⟨rfl, rfl⟩⟩))
theorem m_setLabel (d : Nat) (I : aI) (J : aJ) (T : TS) (W : WT T) (hP : MP T I J) (x y : Int32) : Sp m_X10_setLabel (d + 3) [.ref 93, .int x, .int y] E0 I J (fun r I' J' => r = some (.int (f_setLabel T x y).1) ∧ MP (f_setLabel T x y).2 I' J' ∧ Fr1 I I' J J') := by
  refine Sp.of (lo := [some (.ref 93), some (.int x), some (.int y), none]) rfl (fun Q hQ => ?_)
  have w1 := W.1.1
  have w2 := W.1.2.1
  have wb := Wc_12 W.1
  refine Ez.blk B_X10_setLabel_0 (lo' := [some (.ref 93), some (.int x), some (.int y), none]) (st' := [.int x, .ref 93]) (I' := I) (J' := J) (Ps := []) rfl trivial ?_
  refine Ez.callV (As := [.int x]) (b := 93) (rest := []) kn_X10_isState ml_10_103 im_X10_isState se_X10_isState rfl (by decide +kernel) rfl rfl (Nat.le_of_ble_eq_true rfl) (Nat.le_of_ble_eq_true rfl) o_93 (s_isState _ I J (T.1 0) (hP.1 0 (by decide)) W.1.1 x) (fun r I1 J1 hq => ?_)
  obtain ⟨rfl, rfl, rfl⟩ := hq
  refine Ez.z_if_ne (off := 6) (tgt := 11) (by decide +kernel) (by decide) (fun h => ?_) (fun h => ?_)
  · obtain ⟨k, hk, rfl, hkc⟩ := st_of (by omega) h
    refine Ez.blk B_X10_setLabel_11 (lo' := [some (.ref 93), some (.int (nI k)), some (.int y), none]) (st' := [.long 3, .long 0, .long y.toInt64]) (I' := I1) (J' := J1) (Ps := []) rfl trivial ?_
    refine Ez.callS (As := [.long y.toInt64, .long 0, .long 3]) (rest := []) kn_X10_in ml_10_81 sm_X10_in (by decide +kernel) rfl rfl (Nat.le_of_ble_eq_true rfl) (Nat.le_of_ble_eq_true rfl) (s_in _ E0 I1 J1 y 0 3 0 3 (by decide) (by decide)) (fun r I2 J2 hq => ?_)
    obtain ⟨rfl, rfl, rfl⟩ := hq
    refine Ez.z_if_ne (off := 5) (tgt := 25) (by decide +kernel) (by decide) (fun h2 => ?_) (fun h2 => ?_)
    · obtain ⟨l, hl0, hl, rfl, hlc⟩ := in_of (lo := 0) (hi := 3) (by omega) h2 (by omega)
      refine Ez.blk B_X10_setLabel_25 (lo' := [some (.ref 93), some (.int (nI k)), some (.int (nI l)), none]) (st' := [.ref 93]) (I' := I2) (J' := J2) (Ps := []) rfl trivial ?_
      refine Ez.callV (As := []) (b := 93) (rest := []) kn_X10_begin ml_10_109 im_X10_begin se_X10_begin rfl (by decide +kernel) rfl rfl (Nat.le_of_ble_eq_true rfl) (Nat.le_of_ble_eq_true rfl) o_93 (s_begin _ I2 J2) (fun r I3 J3 hq => ?_)
      obtain ⟨rfl, rfl, g1, g2⟩ := hq
      have c1 : MC T.1 I3 := MC_fr hP.1 (g2 94 (by decide))
      refine Ez.blk B_X10_setLabel_29 (lo' := [some (.ref 93), some (.int (nI k)), some (.int (nI l)), some (.int (I3 94 ((4 + nI k).toNatClampNeg)))]) (st' := [.ref 93]) (I' := (aUp I3 94 ((4 + nI k).toNatClampNeg) (nI l))) (J' := J3) (Ps := [aO E0 93 10 ∧ E0.2.2 93 0 ≠ 0, aAr E0 1 94 (4 + nI k), aO E0 93 10 ∧ E0.2.2 93 0 ≠ 0, aAr E0 1 94 (4 + nI k)]) rfl ⟨r_93_0, (a_94 (vin (n := (4 + k)) (eq_add (a := 4) (b := k) rfl rfl) (by omega) (by decide))), r_93_0, (a_94 (vin (n := (4 + k)) (eq_add (a := 4) (b := k) rfl rfl) (by omega) (by decide)))⟩ ?_
      rw [cln (x := (4 + nI k)) (n := (4 + k)) (eq_add (a := 4) (b := k) rfl rfl) (by omega)]
      rw [c1 (4 + k) (by omega)]
      generalize hI4 : (aUp I3 94 (4 + k) (nI l)) = I4
      have m4 : ∀ q, q ≠ 94 → I4 q = I3 q := fun q hq => by rw [← hI4, aUp_ne hq]
      have c4 : MC (cup T.1 (4 + k) l) I4 := by rw [← hI4]; exact MC_up c1
      refine Ez.callV (As := []) (b := 93) (rest := []) kn_X10_record ml_10_112 im_X10_record se_X10_record rfl (by decide +kernel) rfl rfl (Nat.le_of_ble_eq_true rfl) (Nat.le_of_ble_eq_true rfl) o_93 (s_record _ I4 J3 T.1 (cup T.1 (4 + k) l) (fun k hk => by rw [m4 97 (by decide), g1 k hk]; exact hP.1 k hk) c4 (fun k hk => Nat.le_trans (wb k hk) (by omega)) (cup_le (fun k hk => Nat.le_trans (wb k hk) (by omega)) (by omega)) T.2.1 (MEd_fr hP.2.1 (by rw [m4 93 (by decide), g2 93 (by decide)]) (by rw [m4 95 (by decide), g2 95 (by decide)])) W.2.1.1) (fun r I5 J5 hq => ?_)
      obtain ⟨rfl, rfl, e1, e2, e3⟩ := hq
      obtain ⟨p1, p2⟩ := MP_ed hP g2 m4 c4 e1 e2 e3
      refine Ez.blk B_X10_setLabel_51 (lo' := [some (.ref 93), some (.int (nI k)), some (.int (nI l)), some (.int (nI (T.1 (4 + k))))]) (st' := [.int (nI (T.1 (4 + k)))]) (I' := I5) (J' := J5) (Ps := []) rfl trivial ?_
      exact Ez.iret rfl (by decide +kernel) (hQ _ _ _ (by unfold f_setLabel; rw [if_pos h, if_pos h2, hkc, hlc]; exact ⟨rfl, p1, p2⟩))
    · refine Ez.blk B_X10_setLabel_23 (lo' := [some (.ref 93), some (.int (nI k)), some (.int y), none]) (st' := [.int (-1)]) (I' := I2) (J' := J2) (Ps := []) rfl trivial ?_
      exact Ez.iret rfl (by decide +kernel) (hQ _ _ _ (by unfold f_setLabel; rw [if_pos h, if_neg h2]; exact ⟨rfl, hP, fun _ _ => ⟨rfl, rfl⟩⟩))
  · refine Ez.blk B_X10_setLabel_8 (lo' := [some (.ref 93), some (.int x), some (.int y), none]) (st' := [.int (-2)]) (I' := I1) (J' := J1) (Ps := []) rfl trivial ?_
    exact Ez.iret rfl (by decide +kernel) (hQ _ _ _ (by unfold f_setLabel; rw [if_neg h]; exact ⟨rfl, hP, fun _ _ => ⟨rfl, rfl⟩⟩))
theorem m_setDiscount (d : Nat) (I : aI) (J : aJ) (T : TS) (W : WT T) (hP : MP T I J) (p q : Int32) : Sp m_X10_setDiscount (d + 3) [.ref 93, .int p, .int q] E0 I J (fun r I' J' => r = some (.int (f_setDiscount T p q).1) ∧ MP (f_setDiscount T p q).2 I' J' ∧ Fr1 I I' J J') := by
  refine Sp.of (lo := [some (.ref 93), some (.int p), some (.int q)]) rfl (fun Q hQ => ?_)
  have w1 := W.1.1
  have w2 := W.1.2.1
  have wb := Wc_12 W.1
  refine Ez.blk B_X10_setDiscount_0 (lo' := [some (.ref 93), some (.int p), some (.int q)]) (st' := [.long 4, .long 1, .long q.toInt64]) (I' := I) (J' := J) (Ps := []) rfl trivial ?_
  refine Ez.callS (As := [.long q.toInt64, .long 1, .long 4]) (rest := []) kn_X10_in ml_10_81 sm_X10_in (by decide +kernel) rfl rfl (Nat.le_of_ble_eq_true rfl) (Nat.le_of_ble_eq_true rfl) (s_in _ E0 I J q 1 4 1 4 (by decide) (by decide)) (fun r I1 J1 hq => ?_)
  obtain ⟨rfl, rfl, rfl⟩ := hq
  refine Ez.z_if_eq (off := 14) (tgt := 23) (by decide +kernel) (by decide) (fun h => ?_) (fun h => ?_)
  · refine Ez.blk B_X10_setDiscount_23 (lo' := [some (.ref 93), some (.int p), some (.int q)]) (st' := [.int (-1)]) (I' := I1) (J' := J1) (Ps := []) rfl trivial ?_
    exact Ez.iret rfl (by decide +kernel) (hQ _ _ _ (by unfold f_setDiscount; rw [if_neg (fun z => h z.1)]; exact ⟨rfl, hP, fun _ _ => ⟨rfl, rfl⟩⟩))
  · refine Ez.blk B_X10_setDiscount_12 (lo' := [some (.ref 93), some (.int p), some (.int q)]) (st' := [.long q.toInt64, .long 0, .long p.toInt64]) (I' := I1) (J' := J1) (Ps := []) rfl trivial ?_
    refine Ez.callS (As := [.long p.toInt64, .long 0, .long q.toInt64]) (rest := []) kn_X10_in ml_10_81 sm_X10_in (by decide +kernel) rfl rfl (Nat.le_of_ble_eq_true rfl) (Nat.le_of_ble_eq_true rfl) (s_in _ E0 I1 J1 p 0 q 0 q.toInt64 (by decide) rfl) (fun r I2 J2 hq => ?_)
    obtain ⟨rfl, rfl, rfl⟩ := hq
    refine Ez.z_if_ne (off := 5) (tgt := 25) (by decide +kernel) (by decide) (fun h2 => ?_) (fun h2 => ?_)
    · obtain ⟨b, hb0, hb, rfl, hbc⟩ := in_of (lo := 1) (hi := 4) (by omega) h (by omega)
      obtain ⟨a, ha0, ha, rfl, hac⟩ := in_of (lo := 0) (hi := b) (by omega) h2 (by omega)
      refine Ez.blk B_X10_setDiscount_25 (lo' := [some (.ref 93), some (.int (nI a)), some (.int (nI b))]) (st' := [.ref 93]) (I' := I2) (J' := J2) (Ps := []) rfl trivial ?_
      refine Ez.callV (As := []) (b := 93) (rest := []) kn_X10_begin ml_10_109 im_X10_begin se_X10_begin rfl (by decide +kernel) rfl rfl (Nat.le_of_ble_eq_true rfl) (Nat.le_of_ble_eq_true rfl) o_93 (s_begin _ I2 J2) (fun r I3 J3 hq => ?_)
      obtain ⟨rfl, rfl, g1, g2⟩ := hq
      have c1 : MC T.1 I3 := MC_fr hP.1 (g2 94 (by decide))
      refine Ez.blk B_X10_setDiscount_29 (lo' := [some (.ref 93), some (.int (nI a)), some (.int (nI b))]) (st' := [.ref 93]) (I' := (aUp (aUp I3 94 2 (nI a)) 94 3 (nI b))) (J' := J3) (Ps := [aO E0 93 10 ∧ E0.2.2 93 0 ≠ 0, aAr E0 1 94 2, aO E0 93 10 ∧ E0.2.2 93 0 ≠ 0, aAr E0 1 94 3]) rfl ⟨r_93_0, (a_94 (vin (n := 2) rfl (by omega) (by decide))), r_93_0, (a_94 (vin (n := 3) rfl (by omega) (by decide)))⟩ ?_
      generalize hI4 : (aUp (aUp I3 94 2 (nI a)) 94 3 (nI b)) = I4
      have m4 : ∀ q, q ≠ 94 → I4 q = I3 q := fun q hq => by rw [← hI4, aUp_ne hq, aUp_ne hq]
      have c4 : MC (cup (cup T.1 2 a) 3 b) I4 := by rw [← hI4]; exact MC_up (MC_up c1)
      refine Ez.callV (As := []) (b := 93) (rest := []) kn_X10_record ml_10_112 im_X10_record se_X10_record rfl (by decide +kernel) rfl rfl (Nat.le_of_ble_eq_true rfl) (Nat.le_of_ble_eq_true rfl) o_93 (s_record _ I4 J3 T.1 (cup (cup T.1 2 a) 3 b) (fun k hk => by rw [m4 97 (by decide), g1 k hk]; exact hP.1 k hk) c4 (fun k hk => Nat.le_trans (wb k hk) (by omega)) (cup_le (cup_le (fun k hk => Nat.le_trans (wb k hk) (by omega)) (by omega)) (by omega)) T.2.1 (MEd_fr hP.2.1 (by rw [m4 93 (by decide), g2 93 (by decide)]) (by rw [m4 95 (by decide), g2 95 (by decide)])) W.2.1.1) (fun r I5 J5 hq => ?_)
      obtain ⟨rfl, rfl, e1, e2, e3⟩ := hq
      obtain ⟨p1, p2⟩ := MP_ed hP g2 m4 c4 e1 e2 e3
      refine Ez.z_if_eq (off := 7) (tgt := 54) (by decide +kernel) (by decide) (fun h3 => ?_) (fun h3 => ?_)
      · refine Ez.blk B_X10_setDiscount_54 (lo' := [some (.ref 93), some (.int (nI a)), some (.int (nI b))]) (st' := [.int 0]) (I' := I5) (J' := J5) (Ps := []) rfl trivial ?_
        exact Ez.iret rfl (by decide +kernel) (hQ _ _ _ (by unfold f_setDiscount; rw [if_pos ⟨h, h2⟩, hac, hbc, zb_f h3]; exact ⟨rfl, p1, p2⟩))
      · refine Ez.blk B_X10_setDiscount_50 (lo' := [some (.ref 93), some (.int (nI a)), some (.int (nI b))]) (st' := [.int 1]) (I' := I5) (J' := J5) (Ps := []) rfl trivial ?_
        exact Ez.iret rfl (by decide +kernel) (hQ _ _ _ (by unfold f_setDiscount; rw [if_pos ⟨h, h2⟩, hac, hbc, zb_t h3]; exact ⟨rfl, p1, p2⟩))
    · refine Ez.blk B_X10_setDiscount_23 (lo' := [some (.ref 93), some (.int p), some (.int q)]) (st' := [.int (-1)]) (I' := I2) (J' := J2) (Ps := []) rfl trivial ?_
      exact Ez.iret rfl (by decide +kernel) (hQ _ _ _ (by unfold f_setDiscount; rw [if_neg (fun z => h2 z.2)]; exact ⟨rfl, hP, fun _ _ => ⟨rfl, rfl⟩⟩))
theorem m_moveWeight (d : Nat) (I : aI) (J : aJ) (T : TS) (W : WT T) (hP : MP T I J) (x y z a : Int32) : Sp m_X10_moveWeight (d + 3) [.ref 93, .int x, .int y, .int z, .int a] E0 I J (fun r I' J' => r = some (.int (f_moveWeight T x y z a).1) ∧ MP (f_moveWeight T x y z a).2 I' J' ∧ Fr1 I I' J J') := by
  refine Sp.of (lo := [some (.ref 93), some (.int x), some (.int y), some (.int z), some (.int a)]) rfl (fun Q hQ => ?_)
  have w1 := W.1.1
  have w2 := W.1.2.1
  have wb := Wc_12 W.1
  refine Ez.blk B_X10_moveWeight_0 (lo' := [some (.ref 93), some (.int x), some (.int y), some (.int z), some (.int a)]) (st' := [.int x, .ref 93]) (I' := I) (J' := J) (Ps := []) rfl trivial ?_
  refine Ez.callV (As := [.int x]) (b := 93) (rest := []) kn_X10_isState ml_10_103 im_X10_isState se_X10_isState rfl (by decide +kernel) rfl rfl (Nat.le_of_ble_eq_true rfl) (Nat.le_of_ble_eq_true rfl) o_93 (s_isState _ I J (T.1 0) (hP.1 0 (by decide)) W.1.1 x) (fun r I1 J1 hq => ?_)
  obtain ⟨rfl, rfl, rfl⟩ := hq
  refine Ez.z_if_eq (off := 19) (tgt := 24) (by decide +kernel) (by decide) (fun h => ?_) (fun h => ?_)
  · refine Ez.blk B_X10_moveWeight_24 (lo' := [some (.ref 93), some (.int x), some (.int y), some (.int z), some (.int a)]) (st' := [.int (-2)]) (I' := I1) (J' := J1) (Ps := []) rfl trivial ?_
    exact Ez.iret rfl (by decide +kernel) (hQ _ _ _ (by unfold f_moveWeight; rw [if_neg (fun q => h q.1)]; exact ⟨rfl, hP, fun _ _ => ⟨rfl, rfl⟩⟩))
  · refine Ez.blk B_X10_moveWeight_8 (lo' := [some (.ref 93), some (.int x), some (.int y), some (.int z), some (.int a)]) (st' := [.int y, .ref 93]) (I' := I1) (J' := J1) (Ps := []) rfl trivial ?_
    refine Ez.callV (As := [.int y]) (b := 93) (rest := []) kn_X10_isState ml_10_103 im_X10_isState se_X10_isState rfl (by decide +kernel) rfl rfl (Nat.le_of_ble_eq_true rfl) (Nat.le_of_ble_eq_true rfl) o_93 (s_isState _ I1 J1 (T.1 0) (hP.1 0 (by decide)) W.1.1 y) (fun r I2 J2 hq => ?_)
    obtain ⟨rfl, rfl, rfl⟩ := hq
    refine Ez.z_if_eq (off := 11) (tgt := 24) (by decide +kernel) (by decide) (fun h2 => ?_) (fun h2 => ?_)
    · refine Ez.blk B_X10_moveWeight_24 (lo' := [some (.ref 93), some (.int x), some (.int y), some (.int z), some (.int a)]) (st' := [.int (-2)]) (I' := I2) (J' := J2) (Ps := []) rfl trivial ?_
      exact Ez.iret rfl (by decide +kernel) (hQ _ _ _ (by unfold f_moveWeight; rw [if_neg (fun q => h2 q.2.1)]; exact ⟨rfl, hP, fun _ _ => ⟨rfl, rfl⟩⟩))
    · refine Ez.blk B_X10_moveWeight_16 (lo' := [some (.ref 93), some (.int x), some (.int y), some (.int z), some (.int a)]) (st' := [.int z, .ref 93]) (I' := I2) (J' := J2) (Ps := []) rfl trivial ?_
      refine Ez.callV (As := [.int z]) (b := 93) (rest := []) kn_X10_isState ml_10_103 im_X10_isState se_X10_isState rfl (by decide +kernel) rfl rfl (Nat.le_of_ble_eq_true rfl) (Nat.le_of_ble_eq_true rfl) o_93 (s_isState _ I2 J2 (T.1 0) (hP.1 0 (by decide)) W.1.1 z) (fun r I3 J3 hq => ?_)
      obtain ⟨rfl, rfl, rfl⟩ := hq
      refine Ez.z_if_ne (off := 6) (tgt := 27) (by decide +kernel) (by decide) (fun h3 => ?_) (fun h3 => ?_)
      · refine Ez.blk B_X10_moveWeight_27 (lo' := [some (.ref 93), some (.int x), some (.int y), some (.int z), some (.int a)]) (st' := [.long 12, .long 0, .long a.toInt64]) (I' := I3) (J' := J3) (Ps := []) rfl trivial ?_
        refine Ez.callS (As := [.long a.toInt64, .long 0, .long 12]) (rest := []) kn_X10_in ml_10_81 sm_X10_in (by decide +kernel) rfl rfl (Nat.le_of_ble_eq_true rfl) (Nat.le_of_ble_eq_true rfl) (s_in _ E0 I3 J3 a 0 12 0 12 (by decide) (by decide)) (fun r I4 J4 hq => ?_)
        obtain ⟨rfl, rfl, rfl⟩ := hq
        refine Ez.z_if_ne (off := 5) (tgt := 42) (by decide +kernel) (by decide) (fun h4 => ?_) (fun h4 => ?_)
        · obtain ⟨k, hk, rfl, hkc⟩ := st_of (by omega) h
          obtain ⟨i, hi, rfl, hic⟩ := st_of (by omega) h2
          obtain ⟨j, hj, rfl, hjc⟩ := st_of (by omega) h3
          obtain ⟨b, hb0, hb, rfl, hbc⟩ := in_of (lo := 0) (hi := 12) (by omega) h4 (by omega)
          have w12 := Wc_w W.1 (6 * k + i) (by omega)
          have w12j := Wc_w W.1 (6 * k + j) (by omega)
          rw [show 10 + (6 * k + i) = 10 + 6 * k + i by omega] at w12
          rw [show 10 + (6 * k + j) = 10 + 6 * k + j by omega] at w12j
          refine Ez.blk B_X10_moveWeight_42 (lo' := [some (.ref 93), some (.int (nI k)), some (.int (nI i)), some (.int (nI j)), some (.int (nI b))]) (st' := [.int (nI i), .int (nI k), .ref 93, .int (nI b)]) (I' := I4) (J' := J4) (Ps := []) rfl trivial ?_
          refine Ez.callV (As := [.int (nI k), .int (nI i)]) (b := 93) (rest := [.int (nI b)]) kn_X10_w ml_10_116 im_X10_w se_X10_w rfl (by decide +kernel) rfl rfl (Nat.le_of_ble_eq_true rfl) (Nat.le_of_ble_eq_true rfl) o_93 (s_w _ I4 J4 T.1 hP.1 k i (by omega) (by omega)) (fun r I5 J5 hq => ?_)
          obtain ⟨rfl, rfl, rfl⟩ := hq
          refine Ez.n_icmp_le (off := 6) (tgt := 56) (by decide +kernel) (by decide) (a := b) (b := (T.1 (10 + 6 * k + i))) rfl rfl (by omega) (by omega) (fun h5 => ?_) (fun h5 => ?_)
          · refine Ez.blk B_X10_moveWeight_56 (lo' := [some (.ref 93), some (.int (nI k)), some (.int (nI i)), some (.int (nI j)), some (.int (nI b))]) (st' := [.ref 93]) (I' := I5) (J' := J5) (Ps := []) rfl trivial ?_
            refine Ez.callV (As := []) (b := 93) (rest := []) kn_X10_begin ml_10_109 im_X10_begin se_X10_begin rfl (by decide +kernel) rfl rfl (Nat.le_of_ble_eq_true rfl) (Nat.le_of_ble_eq_true rfl) o_93 (s_begin _ I5 J5) (fun r I6 J6 hq => ?_)
            obtain ⟨rfl, rfl, g1, g2⟩ := hq
            have c1 : MC T.1 I6 := MC_fr hP.1 (g2 94 (by decide))
            refine Ez.blk B_X10_moveWeight_60 (lo' := [some (.ref 93), some (.int (nI k)), some (.int (nI i)), some (.int (nI j)), some (.int (nI b))]) (st' := [.int (nI i), .int (nI k), .ref 93, .int (nI i), .int (nI k), .ref 93]) (I' := I6) (J' := J6) (Ps := []) rfl trivial ?_
            refine Ez.callV (As := [.int (nI k), .int (nI i)]) (b := 93) (rest := [.int (nI i), .int (nI k), .ref 93]) kn_X10_w ml_10_116 im_X10_w se_X10_w rfl (by decide +kernel) rfl rfl (Nat.le_of_ble_eq_true rfl) (Nat.le_of_ble_eq_true rfl) o_93 (s_w _ I6 J6 T.1 c1 k i (by omega) (by omega)) (fun r I7 J7 hq => ?_)
            obtain ⟨rfl, rfl, rfl⟩ := hq
            refine Ez.blk B_X10_moveWeight_69 (lo' := [some (.ref 93), some (.int (nI k)), some (.int (nI i)), some (.int (nI j)), some (.int (nI b))]) (st' := [.int (nI (T.1 (10 + 6 * k + i)) - nI b), .int (nI i), .int (nI k), .ref 93]) (I' := I7) (J' := J7) (Ps := []) rfl trivial ?_
            rw [pk_sub h5]
            refine Ez.callV (As := [.int (nI k), .int (nI i), .int (nI (T.1 (10 + 6 * k + i) - b))]) (b := 93) (rest := []) kn_X10_setWeight ml_10_85 im_X10_setWeight se_X10_setWeight rfl (by decide +kernel) rfl rfl (Nat.le_of_ble_eq_true rfl) (Nat.le_of_ble_eq_true rfl) o_93 (s_setW _ I7 J7 k i (by omega) (by omega) (nI (T.1 (10 + 6 * k + i) - b))) (fun r I8 J8 hq => ?_)
            obtain ⟨rfl, e8, rfl⟩ := hq
            have m8 : ∀ q, q ≠ 94 → I8 q = I7 q := fun q hq => by rw [e8, aUp_ne hq]
            have c8 : MC (cup T.1 (10 + 6 * k + i) (T.1 (10 + 6 * k + i) - b)) I8 := by rw [e8]; exact MC_up c1
            refine Ez.blk B_X10_moveWeight_75 (lo' := [some (.ref 93), some (.int (nI k)), some (.int (nI i)), some (.int (nI j)), some (.int (nI b))]) (st' := [.int (nI j), .int (nI k), .ref 93, .int (nI j), .int (nI k), .ref 93]) (I' := I8) (J' := J8) (Ps := []) rfl trivial ?_
            refine Ez.callV (As := [.int (nI k), .int (nI j)]) (b := 93) (rest := [.int (nI j), .int (nI k), .ref 93]) kn_X10_w ml_10_116 im_X10_w se_X10_w rfl (by decide +kernel) rfl rfl (Nat.le_of_ble_eq_true rfl) (Nat.le_of_ble_eq_true rfl) o_93 (s_w _ I8 J8 (cup T.1 (10 + 6 * k + i) (T.1 (10 + 6 * k + i) - b)) c8 k j (by omega) (by omega)) (fun r I9 J9 hq => ?_)
            obtain ⟨rfl, rfl, rfl⟩ := hq
            refine Ez.blk B_X10_moveWeight_84 (lo' := [some (.ref 93), some (.int (nI k)), some (.int (nI i)), some (.int (nI j)), some (.int (nI b))]) (st' := [.int (nI ((cup T.1 (10 + 6 * k + i) (T.1 (10 + 6 * k + i) - b)) (10 + 6 * k + j)) + nI b), .int (nI j), .int (nI k), .ref 93]) (I' := I9) (J' := J9) (Ps := []) rfl trivial ?_
            refine Ez.callV (As := [.int (nI k), .int (nI j), .int (nI ((cup T.1 (10 + 6 * k + i) (T.1 (10 + 6 * k + i) - b)) (10 + 6 * k + j)) + nI b)]) (b := 93) (rest := []) kn_X10_setWeight ml_10_85 im_X10_setWeight se_X10_setWeight rfl (by decide +kernel) rfl rfl (Nat.le_of_ble_eq_true rfl) (Nat.le_of_ble_eq_true rfl) o_93 (s_setW _ I9 J9 k j (by omega) (by omega) (nI ((cup T.1 (10 + 6 * k + i) (T.1 (10 + 6 * k + i) - b)) (10 + 6 * k + j)) + nI b)) (fun r I10 J10 hq => ?_)
            obtain ⟨rfl, e10, rfl⟩ := hq
            rw [nI_add] at e10
            have m10 : ∀ q, q ≠ 94 → I10 q = I7 q := fun q hq => by rw [e10, aUp_ne hq]; exact m8 q hq
            have c10 : MC (mvw T.1 k i j b) I10 := by rw [e10]; exact MC_up c8
            have b10 : ∀ q, q < 46 → mvw T.1 k i j b q ≤ 99 := cup_le (cup_le (fun k hk => Nat.le_trans (wb k hk) (by omega)) (by omega)) (Nat.le_trans (Nat.add_le_add_right (cup_le (B := 12) (fun k hk => wb k hk) (by omega) _ (by omega)) b) (by omega))
            refine Ez.blk B_X10_moveWeight_90 (lo' := [some (.ref 93), some (.int (nI k)), some (.int (nI i)), some (.int (nI j)), some (.int (nI b))]) (st' := [.ref 93]) (I' := I10) (J' := J10) (Ps := []) rfl trivial ?_
            refine Ez.callV (As := []) (b := 93) (rest := []) kn_X10_record ml_10_112 im_X10_record se_X10_record rfl (by decide +kernel) rfl rfl (Nat.le_of_ble_eq_true rfl) (Nat.le_of_ble_eq_true rfl) o_93 (s_record _ I10 J10 T.1 (mvw T.1 k i j b) (fun k hk => by rw [m10 97 (by decide), g1 k hk]; exact hP.1 k hk) c10 (fun k hk => Nat.le_trans (wb k hk) (by omega)) b10 T.2.1 (MEd_fr hP.2.1 (by rw [m10 93 (by decide), g2 93 (by decide)]) (by rw [m10 95 (by decide), g2 95 (by decide)])) W.2.1.1) (fun r I11 J11 hq => ?_)
            obtain ⟨rfl, rfl, e1, e2, e3⟩ := hq
            obtain ⟨p1, p2⟩ := MP_ed hP g2 m10 c10 e1 e2 e3
            refine Ez.blk B_X10_moveWeight_94 (lo' := [some (.ref 93), some (.int (nI k)), some (.int (nI i)), some (.int (nI j)), some (.int (nI b))]) (st' := [.int (nI j), .int (nI k), .ref 93]) (I' := I11) (J' := J11) (Ps := []) rfl trivial ?_
            refine Ez.callV (As := [.int (nI k), .int (nI j)]) (b := 93) (rest := []) kn_X10_w ml_10_116 im_X10_w se_X10_w rfl (by decide +kernel) rfl rfl (Nat.le_of_ble_eq_true rfl) (Nat.le_of_ble_eq_true rfl) o_93 (s_w _ I11 J11 (mvw T.1 k i j b) (MC_fr c10 (e3 94 (by decide) (by decide))) k j (by omega) (by omega)) (fun r I12 J12 hq => ?_)
            obtain ⟨rfl, rfl, rfl⟩ := hq
            exact Ez.iret rfl (by decide +kernel) (hQ _ _ _ (by unfold f_moveWeight; rw [if_pos ⟨h, h2, h3⟩, if_pos h4, hkc, hic, hjc, hbc, if_pos (nI_le h5 (by omega))]; exact ⟨rfl, p1, p2⟩))
          · refine Ez.blk B_X10_moveWeight_53 (lo' := [some (.ref 93), some (.int (nI k)), some (.int (nI i)), some (.int (nI j)), some (.int (nI b))]) (st' := [.int (-3)]) (I' := I5) (J' := J5) (Ps := []) rfl trivial ?_
            exact Ez.iret rfl (by decide +kernel) (hQ _ _ _ (by unfold f_moveWeight; rw [if_pos ⟨h, h2, h3⟩, if_pos h4, hkc, hic, if_neg (fun q => by have := (nI_leI (by omega) (by omega)).mp q; omega)]; exact ⟨rfl, hP, fun _ _ => ⟨rfl, rfl⟩⟩))
        · refine Ez.blk B_X10_moveWeight_40 (lo' := [some (.ref 93), some (.int x), some (.int y), some (.int z), some (.int a)]) (st' := [.int (-1)]) (I' := I4) (J' := J4) (Ps := []) rfl trivial ?_
          exact Ez.iret rfl (by decide +kernel) (hQ _ _ _ (by unfold f_moveWeight; rw [if_pos ⟨h, h2, h3⟩, if_neg h4]; exact ⟨rfl, hP, fun _ _ => ⟨rfl, rfl⟩⟩))
      · refine Ez.blk B_X10_moveWeight_24 (lo' := [some (.ref 93), some (.int x), some (.int y), some (.int z), some (.int a)]) (st' := [.int (-2)]) (I' := I3) (J' := J3) (Ps := []) rfl trivial ?_
        exact Ez.iret rfl (by decide +kernel) (hQ _ _ _ (by unfold f_moveWeight; rw [if_neg (fun q => h3 q.2.2)]; exact ⟨rfl, hP, fun _ _ => ⟨rfl, rfl⟩⟩))
theorem m_undo (d : Nat) (I : aI) (J : aJ) (T : TS) (W : WT T) (hP : MP T I J) : Sp m_X10_undo (d + 1) [.ref 93] E0 I J (fun r I' J' => r = some (.int (f_undo T).1) ∧ MP (f_undo T).2 I' J' ∧ Fr1 I I' J J') := by
  refine Sp.of (lo := [some (.ref 93)]) rfl (fun Q hQ => ?_)
  have w1 := W.1.1
  have w2 := W.1.2.1
  have wb := Wc_12 W.1
  have h10 := W.2.1.1
  have e2 := hP.2.1.1
  refine Ez.blk B_X10_undo_0 (lo' := [some (.ref 93)]) (st' := [.int (I 93 2)]) (I' := I) (J' := J) (Ps := [aO E0 93 10]) rfl o_93 ?_
  refine Ez.n_if_ne (off := 6) (tgt := 10) (by decide +kernel) (by decide) (a := T.2.1.1) e2 (by omega) (fun h => ?_) (fun h => ?_)
  · have e3 : I 93 2 - 1 = nI (T.2.1.1 - 1) := eq_sub (a := T.2.1.1) (b := 1) e2 rfl (by omega)
    refine Ez.blk B_X10_undo_10 (lo' := [some (.ref 93)]) (st' := [.int (I 93 2 - 1)]) (I' := (aRw (aUp I 93 2 (I 93 2 - 1)) 94 (va_cpy ((aUp I 93 2 (I 93 2 - 1)) 95) ((aUp I 93 2 (I 93 2 - 1)) 94) (46 * (I 93 2 - 1)).toNatClampNeg 0 46))) (J' := J) (Ps := [aO E0 93 10, aO E0 93 10, aO E0 93 10 ∧ E0.2.2 93 1 ≠ 0, aO E0 93 10, aO E0 93 10 ∧ E0.2.2 93 0 ≠ 0, aCp E0 1 95 94 (46 * (I 93 2 - 1)) 0 46, aO E0 93 10]) rfl ⟨o_93, o_93, r_93_1, o_93, r_93_0, (cpy_ok (s0 := (46 * (T.2.1.1 - 1))) (d0 := 0) (m := 46) q_95 q_94 (eq_mul (a := 46) (b := (T.2.1.1 - 1)) rfl e3) rfl rfl (by omega) (by omega) (by omega) (by omega) (by omega)), o_93⟩ ?_
    rw [cln (x := (46 * (I 93 2 - 1))) (n := (46 * (T.2.1.1 - 1))) (eq_mul (a := 46) (b := (T.2.1.1 - 1)) rfl e3) (by omega)]
    generalize hI1 : (aRw (aUp I 93 2 (I 93 2 - 1)) 94 (va_cpy ((aUp I 93 2 (I 93 2 - 1)) 95) ((aUp I 93 2 (I 93 2 - 1)) 94) (46 * (T.2.1.1 - 1)) 0 46)) = I1
    have q1 : ∀ q, q ≠ 93 → q ≠ 94 → I1 q = I q := fun q h0 h1 => by rw [← hI1, aRw_ne h1, aUp_ne h0]
    have q2 : ∀ k, k ≠ 2 → I1 93 k = I 93 k := fun k hk => by rw [← hI1, aRw_ne (by decide), aUp_nk hk]
    have q3 : I1 93 2 = nI (T.2.1.1 - 1) := by rw [← hI1, aRw_ne (by decide), aUp_eq]; exact e3
    have q4 : MC (T.2.1.2 (T.2.1.1 - 1)) I1 := fun k hk => by rw [← hI1, aRw_at, pk_cpy_in (Nat.zero_le _) (by omega), aUp_ne (by decide), show 46 * (T.2.1.1 - 1) + (k - 0) = 46 * (T.2.1.1 - 1) + k by omega]; exact hP.2.1.2 (T.2.1.1 - 1) (by omega) k hk
    rw [e3]
    exact Ez.iret rfl (by decide +kernel) (hQ _ _ _ (by
      unfold f_undo
      rw [if_neg h]
      exact ⟨rfl, ⟨q4, ⟨q3, fun i hi k hk => by have hi : i < T.2.1.1 - 1 := hi; rw [q1 95 (by decide) (by decide)]; exact hP.2.1.2 i (by omega) k hk⟩, MSn_fr hP.2.2.1 (q2 4 (by decide)) (q1 96 (by decide) (by decide)), MBf_fr hP.2.2.2.1 (q2 18 (by decide)) (q1 108 (by decide) (by decide)), MSl_fr hP.2.2.2.2 (q1 112 (by decide) (by decide)) (q1 113 (by decide) (by decide)) rfl⟩, fun b hb => ⟨q1 b (by omega) (by omega), rfl⟩⟩))
  · refine Ez.blk B_X10_undo_7 (lo' := [some (.ref 93)]) (st' := [.int (-5)]) (I' := I) (J' := J) (Ps := []) rfl trivial ?_
    exact Ez.iret rfl (by decide +kernel) (hQ _ _ _ (by unfold f_undo; rw [if_pos h]; exact ⟨rfl, hP, fun _ _ => ⟨rfl, rfl⟩⟩))
theorem m_snapshot (d : Nat) (I : aI) (J : aJ) (T : TS) (W : WT T) (hP : MP T I J) : Sp m_X10_snapshot (d + 1) [.ref 93] E0 I J (fun r I' J' => r = some (.int (f_snapshot T).1) ∧ MP (f_snapshot T).2 I' J' ∧ Fr1 I I' J J') := by
  refine Sp.of (lo := [some (.ref 93)]) rfl (fun Q hQ => ?_)
  have w1 := W.1.1
  have w2 := W.1.2.1
  have wb := Wc_12 W.1
  refine Ez.blk B_X10_snapshot_0 (lo' := [some (.ref 93)]) (st' := [.int (I 94 0)]) (I' := (aUp (aRw I 96 (va_cpy (I 94) (I 96) 0 0 46)) 93 4 1)) (J' := J) (Ps := [aO E0 93 10 ∧ E0.2.2 93 0 ≠ 0, aO E0 93 10 ∧ E0.2.2 93 3 ≠ 0, aCp E0 1 94 96 0 0 46, aO E0 93 10 ∧ (1 = 0 ∨ 1 = 1), aO E0 93 10 ∧ E0.2.2 93 0 ≠ 0, aAr E0 1 94 0]) rfl ⟨r_93_0, r_93_3, (cpy_ok (s0 := 0) (d0 := 0) (m := 46) q_94 q_96 rfl rfl rfl (by omega) (by omega) (by omega) (by omega) (by omega)), ⟨o_93, (Or.inr rfl)⟩, r_93_0, (a_94 (vin (n := 0) rfl (by omega) (by decide)))⟩ ?_
  rw [hP.1 0 (by decide)]
  generalize hI1 : (aUp (aRw I 96 (va_cpy (I 94) (I 96) 0 0 46)) 93 4 1) = I1
  exact Ez.iret rfl (by decide +kernel) (hQ _ _ _ (by
    have q1 : ∀ q, q ≠ 93 → q ≠ 96 → I1 q = I q := fun q h0 h1 => by rw [← hI1, aUp_ne h0, aRw_ne h1]
    have q2 : ∀ k, k ≠ 4 → I1 93 k = I 93 k := fun k hk => by rw [← hI1, aUp_nk hk, aRw_ne (by decide)]
    unfold f_snapshot
    exact ⟨rfl, ⟨MC_fr hP.1 (q1 94 (by decide) (by decide)), MEd_fr hP.2.1 (q2 2 (by decide)) (q1 95 (by decide) (by decide)), ⟨by rw [← hI1, aUp_eq]; rfl, fun _ k hk => by rw [← hI1, aUp_ne (by decide), aRw_at, cp0 hk]; exact hP.1 k hk⟩, MBf_fr hP.2.2.2.1 (q2 18 (by decide)) (q1 108 (by decide) (by decide)), MSl_fr hP.2.2.2.2 (q1 112 (by decide) (by decide)) (q1 113 (by decide) (by decide)) rfl⟩, fun b hb => ⟨q1 b (by omega) (by omega), rfl⟩⟩))
theorem m_restore (d : Nat) (I : aI) (J : aJ) (T : TS) (W : WT T) (hP : MP T I J) : Sp m_X10_restore (d + 1) [.ref 93] E0 I J (fun r I' J' => r = some (.int (f_restore T).1) ∧ MP (f_restore T).2 I' J' ∧ Fr1 I I' J J') := by
  refine Sp.of (lo := [some (.ref 93)]) rfl (fun Q hQ => ?_)
  have w1 := W.1.1
  have w2 := W.1.2.1
  have wb := Wc_12 W.1
  have e4 := hP.2.2.1.1
  have h1 := W.2.2.1.1
  refine Ez.blk B_X10_restore_0 (lo' := [some (.ref 93)]) (st' := [.int (I 93 4)]) (I' := I) (J' := J) (Ps := [aO E0 93 10]) rfl o_93 ?_
  refine Ez.n_if_ne (off := 6) (tgt := 10) (by decide +kernel) (by decide) (a := T.2.2.1.1) e4 (by omega) (fun h => ?_) (fun h => ?_)
  · refine Ez.blk B_X10_restore_10 (lo' := [some (.ref 93)]) (st' := [.int ((aRw I 94 (va_cpy (I 96) (I 94) 0 0 46)) 94 0)]) (I' := (aUp (aRw I 94 (va_cpy (I 96) (I 94) 0 0 46)) 93 2 0)) (J' := J) (Ps := [aO E0 93 10 ∧ E0.2.2 93 3 ≠ 0, aO E0 93 10 ∧ E0.2.2 93 0 ≠ 0, aCp E0 1 96 94 0 0 46, aO E0 93 10, aO E0 93 10 ∧ E0.2.2 93 0 ≠ 0, aAr E0 1 94 0]) rfl ⟨r_93_3, r_93_0, (cpy_ok (s0 := 0) (d0 := 0) (m := 46) q_96 q_94 rfl rfl rfl (by omega) (by omega) (by omega) (by omega) (by omega)), o_93, r_93_0, (a_94 (vin (n := 0) rfl (by omega) (by decide)))⟩ ?_
    generalize hI1 : (aUp (aRw I 94 (va_cpy (I 96) (I 94) 0 0 46)) 93 2 0) = I1
    have q1 : ∀ q, q ≠ 93 → q ≠ 94 → I1 q = I q := fun q h0 h1 => by rw [← hI1, aUp_ne h0, aRw_ne h1]
    have q2 : ∀ k, k ≠ 2 → I1 93 k = I 93 k := fun k hk => by rw [← hI1, aUp_nk hk, aRw_ne (by decide)]
    have q3 : MC T.2.2.1.2 I1 := fun k hk => by rw [← hI1, aUp_ne (by decide), aRw_at, cp0 hk]; exact hP.2.2.1.2 (by omega) k hk
    have q5 : aRw I 94 (va_cpy (I 96) (I 94) 0 0 46) 94 0 = nI (T.2.2.1.2 0) := by rw [aRw_at, cp0 (by decide)]; exact hP.2.2.1.2 (by omega) 0 (by decide)
    rw [q5]
    exact Ez.iret rfl (by decide +kernel) (hQ _ _ _ (by
      unfold f_restore
      rw [if_neg h]
      exact ⟨rfl, ⟨q3, ⟨by rw [← hI1, aUp_eq]; rfl, fun i hi => absurd hi (Nat.not_lt_zero _)⟩, MSn_fr hP.2.2.1 (q2 4 (by decide)) (q1 96 (by decide) (by decide)), MBf_fr hP.2.2.2.1 (q2 18 (by decide)) (q1 108 (by decide) (by decide)), MSl_fr hP.2.2.2.2 (q1 112 (by decide) (by decide)) (q1 113 (by decide) (by decide)) rfl⟩, fun b hb => ⟨q1 b (by omega) (by omega), rfl⟩⟩))
  · refine Ez.blk B_X10_restore_7 (lo' := [some (.ref 93)]) (st' := [.int (-5)]) (I' := I) (J' := J) (Ps := []) rfl trivial ?_
    exact Ez.iret rfl (by decide +kernel) (hQ _ _ _ (by unfold f_restore; rw [if_pos h]; exact ⟨rfl, hP, fun _ _ => ⟨rfl, rfl⟩⟩))
theorem m_reset (d : Nat) (I : aI) (J : aJ) (T : TS) (W : WT T) (hP : MP T I J) (x y : Int32) : Sp m_X10_reset (d + 3) [.ref 93, .int x, .int y] E0 I J (fun r I' J' => r = some (.int (f_reset T x y).1) ∧ MP (f_reset T x y).2 I' J' ∧ Fr1 I I' J J') := by
  refine Sp.of (lo := [some (.ref 93), some (.int x), some (.int y), none]) rfl (fun Q hQ => ?_)
  have w1 := W.1.1
  have w2 := W.1.2.1
  have wb := Wc_12 W.1
  refine Ez.blk B_X10_reset_0 (lo' := [some (.ref 93), some (.int x), some (.int y), none]) (st' := [.long 6, .long 1, .long x.toInt64]) (I' := I) (J' := J) (Ps := []) rfl trivial ?_
  refine Ez.callS (As := [.long x.toInt64, .long 1, .long 6]) (rest := []) kn_X10_in ml_10_81 sm_X10_in (by decide +kernel) rfl rfl (Nat.le_of_ble_eq_true rfl) (Nat.le_of_ble_eq_true rfl) (s_in _ E0 I J x 1 6 1 6 (by decide) (by decide)) (fun r I1 J1 hq => ?_)
  obtain ⟨rfl, rfl, rfl⟩ := hq
  refine Ez.z_if_eq (off := 15) (tgt := 24) (by decide +kernel) (by decide) (fun h => ?_) (fun h => ?_)
  · refine Ez.blk B_X10_reset_24 (lo' := [some (.ref 93), some (.int x), some (.int y), none]) (st' := [.int (-1)]) (I' := I1) (J' := J1) (Ps := []) rfl trivial ?_
    exact Ez.iret rfl (by decide +kernel) (hQ _ _ _ (by unfold f_reset; rw [if_neg (fun z => h z.1)]; exact ⟨rfl, hP, fun _ _ => ⟨rfl, rfl⟩⟩))
  · refine Ez.blk B_X10_reset_12 (lo' := [some (.ref 93), some (.int x), some (.int y), none]) (st' := [.long 12, .long 1, .long y.toInt64]) (I' := I1) (J' := J1) (Ps := []) rfl trivial ?_
    refine Ez.callS (As := [.long y.toInt64, .long 1, .long 12]) (rest := []) kn_X10_in ml_10_81 sm_X10_in (by decide +kernel) rfl rfl (Nat.le_of_ble_eq_true rfl) (Nat.le_of_ble_eq_true rfl) (s_in _ E0 I1 J1 y 1 12 1 12 (by decide) (by decide)) (fun r I2 J2 hq => ?_)
    obtain ⟨rfl, rfl, rfl⟩ := hq
    refine Ez.z_if_ne (off := 5) (tgt := 26) (by decide +kernel) (by decide) (fun h2 => ?_) (fun h2 => ?_)
    · obtain ⟨n, hn0, hn, rfl, hnc⟩ := in_of (lo := 1) (hi := 6) (by omega) h (by omega)
      obtain ⟨D, hD0, hD, rfl, hDc⟩ := in_of (lo := 1) (hi := 12) (by omega) h2 (by omega)
      refine Ez.blk B_X10_reset_26 (lo' := [some (.ref 93), some (.int (nI n)), some (.int (nI D)), some (.int (I2 94 0))]) (st' := [.int (nI D), .int (nI n), .ref 93]) (I' := I2) (J' := J2) (Ps := [aO E0 93 10 ∧ E0.2.2 93 0 ≠ 0, aAr E0 1 94 0]) rfl ⟨r_93_0, (a_94 (vin (n := 0) rfl (by omega) (by decide)))⟩ ?_
      rw [hP.1 0 (by decide)]
      refine Ez.callV (As := [.int (nI n), .int (nI D)]) (b := 93) (rest := []) kn_X10_initialize ml_10_77 im_X10_initialize se_X10_initialize rfl (by decide +kernel) rfl rfl (Nat.le_of_ble_eq_true rfl) (Nat.le_of_ble_eq_true rfl) o_93 (s_init _ I2 J2 T.1 hP.1 n D hn) (fun r I3 J3 hq => ?_)
      obtain ⟨rfl, rfl, a1, a2, a3, a4⟩ := hq
      refine Ez.blk B_X10_reset_39 (lo' := [some (.ref 93), some (.int (nI n)), some (.int (nI D)), some (.int (nI (T.1 0)))]) (st' := [.int (nI (T.1 0))]) (I' := I3) (J' := J3) (Ps := []) rfl trivial ?_
      exact Ez.iret rfl (by decide +kernel) (hQ _ _ _ (by unfold f_reset; rw [if_pos ⟨h, h2⟩, hnc, hDc]; exact ⟨rfl, ⟨a1, ⟨a2, fun i hi => absurd hi (Nat.not_lt_zero _)⟩, MSn_fr hP.2.2.1 (a3 4 (by decide)) (a4 96 (by decide) (by decide)), MBf_fr hP.2.2.2.1 (a3 18 (by decide)) (a4 108 (by decide) (by decide)), MSl_fr hP.2.2.2.2 (a4 112 (by decide) (by decide)) (a4 113 (by decide) (by decide)) rfl⟩, fun b hb => ⟨a4 b (by omega) (by omega), rfl⟩⟩))
    · refine Ez.blk B_X10_reset_24 (lo' := [some (.ref 93), some (.int x), some (.int y), none]) (st' := [.int (-1)]) (I' := I2) (J' := J2) (Ps := []) rfl trivial ?_
      exact Ez.iret rfl (by decide +kernel) (hQ _ _ _ (by unfold f_reset; rw [if_neg (fun z => h2 z.2)]; exact ⟨rfl, hP, fun _ _ => ⟨rfl, rfl⟩⟩))
theorem sw_end {c : Nat → Nat} (W : Wc c) {f s : Nat} (hf : f < c 0) (hs : s < c 0) {k : Nat} (hk : k < 46) : swc c f s k = if k < 4 then c k else if k < 10 then (if k - 4 < c 0 then c (4 + swp (k - 4) f s) else c k) else if (k - 10) / 6 < c 0 ∧ (k - 10) % 6 < c 0 then c (10 + 6 * swp ((k - 10) / 6) f s + swp ((k - 10) % 6) f s) else c k := by
  have id : ∀ x, ¬ x < c 0 → swp x f s = x := fun x hx => by unfold swp; rw [if_neg (by omega), if_neg (by omega)]
  have lt : ∀ x, x < 6 → swp x f s < 6 := fun x hx => swp_lt hx (by have := W.1; omega) (by have := W.1; omega)
  unfold swc
  by_cases e : k < 4
  · rw [if_pos e, if_pos e]
  · rw [if_neg e, if_neg e]
    by_cases e2 : k < 10
    · rw [if_pos e2, if_pos e2]
      by_cases e3 : k - 4 < c 0
      · rw [if_pos e3]
      · rw [if_neg e3, id _ e3, show 4 + (k - 4) = k by omega]
    · rw [if_neg e2, if_neg e2]
      by_cases e3 : (k - 10) / 6 < c 0 ∧ (k - 10) % 6 < c 0
      · rw [if_pos e3]
      · rw [if_neg e3]
        have z := W.2.2.2.2.2.2
        rw [show c k = c (10 + 6 * ((k - 10) / 6) + (k - 10) % 6) by rw [show 10 + 6 * ((k - 10) / 6) + (k - 10) % 6 = k by omega], z ((k - 10) / 6) ((k - 10) % 6) (by omega) (by omega) (by omega)]
        refine z _ _ (lt _ (by omega)) (lt _ (by omega)) ?_
        by_cases e4 : (k - 10) / 6 < c 0
        · exact Or.inr (by rw [id _ (by omega)]; omega)
        · exact Or.inl (by rw [id _ e4]; omega)
/-- the chain while states are swapped: rows below i are done, and of row i what is below j (m: its label) -/
def sws (c : Nat → Nat) (f s i j m : Nat) : Nat → Nat := fun k => if k < 4 then c k else if k < 10 then (if k - 4 < i + m then c (4 + swp (k - 4) f s) else c k) else if ((k - 10) / 6 < i ∨ ((k - 10) / 6 = i ∧ (k - 10) % 6 < j)) ∧ (k - 10) % 6 < c 0 then c (10 + 6 * swp ((k - 10) / 6) f s + swp ((k - 10) % 6) f s) else c k
theorem sws_0 {c : Nat → Nat} {f s : Nat} {k : Nat} : sws c f s 0 0 0 k = c k := by
  unfold sws
  by_cases e : k < 4
  · rw [if_pos e]
  · rw [if_neg e]
    by_cases e2 : k < 10
    · rw [if_pos e2, if_neg (by omega)]
    · rw [if_neg e2, if_neg (by omega)]
theorem sws_end {c : Nat → Nat} (W : Wc c) {f s : Nat} (hf : f < c 0) (hs : s < c 0) {k : Nat} (hk : k < 46) : sws c f s (c 0) 0 0 k = swc c f s k := by
  rw [sw_end W hf hs hk]
  unfold sws
  by_cases e : k < 4
  · rw [if_pos e, if_pos e]
  · rw [if_neg e, if_neg e]
    by_cases e2 : k < 10
    · rw [if_pos e2, if_pos e2]; rfl
    · rw [if_neg e2, if_neg e2]
      by_cases e3 : (k - 10) / 6 < c 0 ∧ (k - 10) % 6 < c 0
      · rw [if_pos e3, if_pos (by omega)]
      · rw [if_neg e3, if_neg (by omega)]
theorem sws_lab {c : Nat → Nat} {f s i : Nat} (hi : i < 6) {k : Nat} : sws c f s i 0 1 k = cup (sws c f s i 0 0) (4 + i) (c (4 + swp i f s)) k := by
  by_cases e : k = 4 + i
  · rw [e, cup_eq]
    unfold sws
    rw [if_neg (by omega), if_pos (by omega), if_pos (by omega), show 4 + i - 4 = i by omega]
  · rw [cup_ne e]
    unfold sws
    by_cases e1 : k < 4
    · rw [if_pos e1, if_pos e1]
    · rw [if_neg e1, if_neg e1]
      by_cases e2 : k < 10
      · rw [if_pos e2, if_pos e2]
        by_cases e3 : k - 4 < i + 0
        · rw [if_pos e3, if_pos (by omega)]
        · rw [if_neg e3, if_neg (by omega)]
      · rw [if_neg e2, if_neg e2]
theorem sws_wt {c : Nat → Nat} {f s i j : Nat} (hi : i < 6) (hj : j < c 0) (hc : c 0 ≤ 6) {k : Nat} : sws c f s i (j + 1) 1 k = cup (sws c f s i j 1) (10 + 6 * i + j) (c (10 + 6 * swp i f s + swp j f s)) k := by
  by_cases e : k = 10 + 6 * i + j
  · rw [e, cup_eq]
    unfold sws
    rw [if_neg (by omega), if_neg (by omega), if_pos (by omega), show (10 + 6 * i + j - 10) / 6 = i by omega, show (10 + 6 * i + j - 10) % 6 = j by omega]
  · rw [cup_ne e]
    unfold sws
    by_cases e1 : k < 4
    · rw [if_pos e1, if_pos e1]
    · rw [if_neg e1, if_neg e1]
      by_cases e2 : k < 10
      · rw [if_pos e2, if_pos e2]
      · rw [if_neg e2, if_neg e2]
        by_cases e3 : ((k - 10) / 6 < i ∨ ((k - 10) / 6 = i ∧ (k - 10) % 6 < j)) ∧ (k - 10) % 6 < c 0
        · rw [if_pos e3, if_pos (by omega)]
        · rw [if_neg e3, if_neg (by omega)]
theorem sws_nx {c : Nat → Nat} {f s i : Nat} {k : Nat} : sws c f s (i + 1) 0 0 k = sws c f s i (c 0) 1 k := by
  unfold sws
  by_cases e1 : k < 4
  · rw [if_pos e1, if_pos e1]
  · rw [if_neg e1, if_neg e1]
    by_cases e2 : k < 10
    · rw [if_pos e2, if_pos e2]
    · rw [if_neg e2, if_neg e2]
      by_cases e3 : ((k - 10) / 6 < i ∨ ((k - 10) / 6 = i ∧ (k - 10) % 6 < c 0)) ∧ (k - 10) % 6 < c 0
      · rw [if_pos e3, if_pos (by omega)]
      · rw [if_neg e3, if_neg (by omega)]
theorem swp_a {x f s : Nat} (h : x = f) : swp x f s = s := by unfold swp; rw [if_pos h]
theorem swp_b {x f s : Nat} (h : ¬ x = f) (h2 : x = s) : swp x f s = f := by unfold swp; rw [if_neg h, if_pos h2]
theorem swp_c {x f s : Nat} (h : ¬ x = f) (h2 : ¬ x = s) : swp x f s = x := by unfold swp; rw [if_neg h, if_neg h2]
theorem MC_ext {c e : Nat → Nat} {I : aI} (h : MC c I) (q : ∀ k, k < 46 → e k = c k) : MC e I := fun k hk => by rw [q k hk]; exact h k hk
theorem m_swapStates (d : Nat) (I : aI) (J : aJ) (T : TS) (W : WT T) (hP : MP T I J) (x y : Int32) : Sp m_X10_swapStates (d + 3) [.ref 93, .int x, .int y] E0 I J (fun r I' J' => r = some (.int (f_swapStates T x y).1) ∧ MP (f_swapStates T x y).2 I' J' ∧ Fr1 I I' J J') := by
  refine Sp.of (lo := [some (.ref 93), some (.int x), some (.int y), none, none, none, none]) rfl (fun Q hQ => ?_)
  have w1 := W.1.1
  have w2 := W.1.2.1
  have wb := Wc_12 W.1
  refine Ez.blk B_X10_swapStates_0 (lo' := [some (.ref 93), some (.int x), some (.int y), none, none, none, none]) (st' := [.int x, .ref 93]) (I' := I) (J' := J) (Ps := []) rfl trivial ?_
  refine Ez.callV (As := [.int x]) (b := 93) (rest := []) kn_X10_isState ml_10_103 im_X10_isState se_X10_isState rfl (by decide +kernel) rfl rfl (Nat.le_of_ble_eq_true rfl) (Nat.le_of_ble_eq_true rfl) o_93 (s_isState _ I J (T.1 0) (hP.1 0 (by decide)) W.1.1 x) (fun r I1 J1 hq => ?_)
  obtain ⟨rfl, rfl, rfl⟩ := hq
  refine Ez.z_if_eq (off := 11) (tgt := 16) (by decide +kernel) (by decide) (fun h => ?_) (fun h => ?_)
  · refine Ez.blk B_X10_swapStates_16 (lo' := [some (.ref 93), some (.int x), some (.int y), none, none, none, none]) (st' := [.int (-2)]) (I' := I1) (J' := J1) (Ps := []) rfl trivial ?_
    exact Ez.iret rfl (by decide +kernel) (hQ _ _ _ (by unfold f_swapStates; rw [if_neg (fun q => h q.1)]; exact ⟨rfl, hP, fun _ _ => ⟨rfl, rfl⟩⟩))
  · refine Ez.blk B_X10_swapStates_8 (lo' := [some (.ref 93), some (.int x), some (.int y), none, none, none, none]) (st' := [.int y, .ref 93]) (I' := I1) (J' := J1) (Ps := []) rfl trivial ?_
    refine Ez.callV (As := [.int y]) (b := 93) (rest := []) kn_X10_isState ml_10_103 im_X10_isState se_X10_isState rfl (by decide +kernel) rfl rfl (Nat.le_of_ble_eq_true rfl) (Nat.le_of_ble_eq_true rfl) o_93 (s_isState _ I1 J1 (T.1 0) (hP.1 0 (by decide)) W.1.1 y) (fun r I2 J2 hq => ?_)
    obtain ⟨rfl, rfl, rfl⟩ := hq
    refine Ez.z_if_ne (off := 6) (tgt := 19) (by decide +kernel) (by decide) (fun h2 => ?_) (fun h2 => ?_)
    · obtain ⟨a, ha, rfl, hac⟩ := st_of (by omega) h
      obtain ⟨b, hb, rfl, hbc⟩ := st_of (by omega) h2
      refine Ez.blk B_X10_swapStates_19 (lo' := [some (.ref 93), some (.int (nI a)), some (.int (nI b)), none, none, none, none]) (st' := [.ref 93]) (I' := I2) (J' := J2) (Ps := []) rfl trivial ?_
      refine Ez.callV (As := []) (b := 93) (rest := []) kn_X10_begin ml_10_109 im_X10_begin se_X10_begin rfl (by decide +kernel) rfl rfl (Nat.le_of_ble_eq_true rfl) (Nat.le_of_ble_eq_true rfl) o_93 (s_begin _ I2 J2) (fun r I3 J3 hq => ?_)
      obtain ⟨rfl, rfl, g1, g2⟩ := hq
      have c1 : MC T.1 I3 := MC_fr hP.1 (g2 94 (by decide))
      refine Ez.blk B_X10_swapStates_23 (lo' := [some (.ref 93), some (.int (nI a)), some (.int (nI b)), some (.int 0), none, none, none]) (st' := []) (I' := I3) (J' := J3) (Ps := []) rfl trivial ?_
      have g3 : ∀ k, k < 46 → I3 97 k = nI (T.1 k) := fun k hk => by rw [g1 k hk]; exact hP.1 k hk
      have sl : ∀ x, x < T.1 0 → swp x a b < T.1 0 := fun x hx => swp_lt hx ha hb
      have L1 : ∀ k, k ≤ T.1 0 → ∀ (I4 : aI), (MC (sws T.1 a b k 0 0) I4 ∧ ∀ q, q ≠ 94 → I4 q = I3 q) → Ez m_X10_swapStates (d + 3) 25 [some (.ref 93), some (.int (nI a)), some (.int (nI b)), some (.int (nI k)), none, none, none] [] E0 I4 J3 Q := by
        refine for_up ?_ ?_
        · intro I4 hi
          have n4 : I4 94 0 = nI (T.1 0) := hi.1 0 (by decide)
          refine Ez.blk B_X10_swapStates_25 (lo' := [some (.ref 93), some (.int (nI a)), some (.int (nI b)), some (.int (nI (T.1 0))), none, none, none]) (st' := [.int (I4 94 0), .int (nI (T.1 0))]) (I' := I4) (J' := J3) (Ps := [aO E0 93 10 ∧ E0.2.2 93 0 ≠ 0, aAr E0 1 94 0]) rfl ⟨r_93_0, (a_94 (vin (n := 0) rfl (by omega) (by decide)))⟩ ?_
          refine Ez.n_icmp_ge (off := 114) (tgt := 146) (by decide +kernel) (by decide) (a := (T.1 0)) (b := (T.1 0)) rfl n4 (by omega) (by omega) (fun h9 => ?_) (fun h9 => absurd h9 (by omega))
          have c4 : MC (swc T.1 a b) I4 := MC_ext hi.1 (fun k hk => (sws_end W.1 ha hb hk).symm)
          have b4 : ∀ k, k < 46 → swc T.1 a b k ≤ 99 := fun k hk => by
            have l6 : ∀ x, x < 6 → swp x a b < 6 := fun x hx => swp_lt hx (by omega) (by omega)
            unfold swc
            by_cases e : k < 4
            · rw [if_pos e]; exact Nat.le_trans (wb k hk) (by omega)
            · rw [if_neg e]
              by_cases e2 : k < 10
              · rw [if_pos e2]; exact Nat.le_trans (wb _ (by have := l6 (k - 4) (by omega); omega)) (by omega)
              · rw [if_neg e2]; exact Nat.le_trans (wb _ (by have := l6 ((k - 10) / 6) (by omega); have := l6 ((k - 10) % 6) (by omega); omega)) (by omega)
          refine Ez.blk B_X10_swapStates_146 (lo' := [some (.ref 93), some (.int (nI a)), some (.int (nI b)), some (.int (nI (T.1 0))), none, none, none]) (st' := [.ref 93]) (I' := I4) (J' := J3) (Ps := []) rfl trivial ?_
          refine Ez.callV (As := []) (b := 93) (rest := []) kn_X10_record ml_10_112 im_X10_record se_X10_record rfl (by decide +kernel) rfl rfl (Nat.le_of_ble_eq_true rfl) (Nat.le_of_ble_eq_true rfl) o_93 (s_record _ I4 J3 T.1 (swc T.1 a b) (fun k hk => by rw [hi.2 97 (by decide), g1 k hk]; exact hP.1 k hk) c4 (fun k hk => Nat.le_trans (wb k hk) (by omega)) b4 T.2.1 (MEd_fr hP.2.1 (by rw [hi.2 93 (by decide), g2 93 (by decide)]) (by rw [hi.2 95 (by decide), g2 95 (by decide)])) W.2.1.1) (fun r I5 J5 hq => ?_)
          obtain ⟨rfl, rfl, e1, e2, e3⟩ := hq
          obtain ⟨p1, p2⟩ := MP_ed hP g2 hi.2 c4 e1 e2 e3
          refine Ez.z_if_eq (off := 7) (tgt := 157) (by decide +kernel) (by decide) (fun h3 => ?_) (fun h3 => ?_)
          · refine Ez.blk B_X10_swapStates_157 (lo' := [some (.ref 93), some (.int (nI a)), some (.int (nI b)), some (.int (nI (T.1 0))), none, none, none]) (st' := [.int 0]) (I' := I5) (J' := J5) (Ps := []) rfl trivial ?_
            exact Ez.iret rfl (by decide +kernel) (hQ _ _ _ (by unfold f_swapStates; rw [if_pos ⟨h, h2⟩, hac, hbc, zb_f h3]; exact ⟨rfl, p1, p2⟩))
          · refine Ez.blk B_X10_swapStates_153 (lo' := [some (.ref 93), some (.int (nI a)), some (.int (nI b)), some (.int (nI (T.1 0))), none, none, none]) (st' := [.int 1]) (I' := I5) (J' := J5) (Ps := []) rfl trivial ?_
            exact Ez.iret rfl (by decide +kernel) (hQ _ _ _ (by unfold f_swapStates; rw [if_pos ⟨h, h2⟩, hac, hbc, zb_t h3]; exact ⟨rfl, p1, p2⟩))
        · intro k hk ih I4 hi
          have n4 : I4 94 0 = nI (T.1 0) := hi.1 0 (by decide)
          refine Ez.blk B_X10_swapStates_25 (lo' := [some (.ref 93), some (.int (nI a)), some (.int (nI b)), some (.int (nI k)), none, none, none]) (st' := [.int (I4 94 0), .int (nI k)]) (I' := I4) (J' := J3) (Ps := [aO E0 93 10 ∧ E0.2.2 93 0 ≠ 0, aAr E0 1 94 0]) rfl ⟨r_93_0, (a_94 (vin (n := 0) rfl (by omega) (by decide)))⟩ ?_
          refine Ez.n_icmp_ge (off := 114) (tgt := 146) (by decide +kernel) (by decide) (a := k) (b := (T.1 0)) rfl n4 (by omega) (by omega) (fun h9 => absurd h9 (by omega)) (fun h9 => ?_)
          have swk := sl k hk
          have L5 : Ez m_X10_swapStates (d + 3) 76 [some (.ref 93), some (.int (nI a)), some (.int (nI b)), some (.int (nI k)), some (.int (nI (swp k a b))), some (.int 0), none] [] E0 (aUp I4 94 (4 + k) (I4 97 (4 + swp k a b))) J3 Q := by
            rw [show I4 97 (4 + swp k a b) = nI (T.1 (4 + swp k a b)) by rw [hi.2 97 (by decide)]; exact g3 _ (by omega)]
            generalize hI5 : (aUp I4 94 (4 + k) (nI (T.1 (4 + swp k a b)))) = I5
            have c5 : MC (sws T.1 a b k 0 1) I5 := by rw [← hI5]; exact MC_ext (MC_up hi.1) (fun q hq => sws_lab (by omega))
            have m5 : ∀ q, q ≠ 94 → I5 q = I3 q := fun q hq => by rw [← hI5, aUp_ne hq]; exact hi.2 q hq
            have L2 : ∀ j, j ≤ T.1 0 → ∀ (I6 : aI), (MC (sws T.1 a b k j 1) I6 ∧ ∀ q, q ≠ 94 → I6 q = I3 q) → Ez m_X10_swapStates (d + 3) 76 [some (.ref 93), some (.int (nI a)), some (.int (nI b)), some (.int (nI k)), some (.int (nI (swp k a b))), some (.int (nI j)), none] [] E0 I6 J3 Q := by
              refine for_up ?_ ?_
              · intro I6 hj
                have n6 : I6 94 0 = nI (T.1 0) := hj.1 0 (by decide)
                refine Ez.blk B_X10_swapStates_76 (lo' := [some (.ref 93), some (.int (nI a)), some (.int (nI b)), some (.int (nI k)), some (.int (nI (swp k a b))), some (.int (nI (T.1 0))), none]) (st' := [.int (I6 94 0), .int (nI (T.1 0))]) (I' := I6) (J' := J3) (Ps := [aO E0 93 10 ∧ E0.2.2 93 0 ≠ 0, aAr E0 1 94 0]) rfl ⟨r_93_0, (a_94 (vin (n := 0) rfl (by omega) (by decide)))⟩ ?_
                refine Ez.n_icmp_ge (off := 56) (tgt := 140) (by decide +kernel) (by decide) (a := (T.1 0)) (b := (T.1 0)) rfl n6 (by omega) (by omega) (fun h8 => ?_) (fun h8 => absurd h8 (by omega))
                refine Ez.blk B_X10_swapStates_140 (lo' := [some (.ref 93), some (.int (nI a)), some (.int (nI b)), some (.int (nI k + 1)), some (.int (nI (swp k a b))), some (.int (nI (T.1 0))), none]) (st' := []) (I' := I6) (J' := J3) (Ps := []) rfl trivial ?_
                rw [show (nI k + 1) = nI (k + 1) from (eq_add (a := k) (b := 1) rfl rfl)]
                refine Ez.drops [4, 5] (lo' := [some (.ref 93), some (.int (nI a)), some (.int (nI b)), some (.int (nI (k + 1))), none, none, none]) rfl ?_
                exact ih I6 ⟨MC_ext hj.1 (fun q hq => sws_nx), hj.2⟩
              · intro j hjn ih2 I6 hj
                have n6 : I6 94 0 = nI (T.1 0) := hj.1 0 (by decide)
                refine Ez.blk B_X10_swapStates_76 (lo' := [some (.ref 93), some (.int (nI a)), some (.int (nI b)), some (.int (nI k)), some (.int (nI (swp k a b))), some (.int (nI j)), none]) (st' := [.int (I6 94 0), .int (nI j)]) (I' := I6) (J' := J3) (Ps := [aO E0 93 10 ∧ E0.2.2 93 0 ≠ 0, aAr E0 1 94 0]) rfl ⟨r_93_0, (a_94 (vin (n := 0) rfl (by omega) (by decide)))⟩ ?_
                refine Ez.n_icmp_ge (off := 56) (tgt := 140) (by decide +kernel) (by decide) (a := j) (b := (T.1 0)) rfl n6 (by omega) (by omega) (fun h8 => absurd h8 (by omega)) (fun h8 => ?_)
                have swj := sl j hjn
                have L6 : Ez m_X10_swapStates (d + 3) 131 [some (.ref 93), some (.int (nI a)), some (.int (nI b)), some (.int (nI k)), some (.int (nI (swp k a b))), some (.int (nI j)), some (.int (nI (swp j a b)))] [.int (I6 97 (10 + 6 * swp k a b + swp j a b)), .int (nI j), .int (nI k), .ref 93] E0 I6 J3 Q := by
                  rw [show I6 97 (10 + 6 * swp k a b + swp j a b) = nI (T.1 (10 + 6 * swp k a b + swp j a b)) by rw [hj.2 97 (by decide)]; exact g3 _ (by omega)]
                  refine Ez.callV (As := [.int (nI k), .int (nI j), .int (nI (T.1 (10 + 6 * swp k a b + swp j a b)))]) (b := 93) (rest := []) kn_X10_setWeight ml_10_85 im_X10_setWeight se_X10_setWeight rfl (by decide +kernel) rfl rfl (Nat.le_of_ble_eq_true rfl) (Nat.le_of_ble_eq_true rfl) o_93 (s_setW _ I6 J3 k j (by omega) (by omega) (nI (T.1 (10 + 6 * swp k a b + swp j a b)))) (fun r I7 J7 hq => ?_)
                  obtain ⟨rfl, e7, rfl⟩ := hq
                  refine Ez.blk B_X10_swapStates_134 (lo' := [some (.ref 93), some (.int (nI a)), some (.int (nI b)), some (.int (nI k)), some (.int (nI (swp k a b))), some (.int (nI j + 1)), some (.int (nI (swp j a b)))]) (st' := []) (I' := I7) (J' := J7) (Ps := []) rfl trivial ?_
                  rw [show (nI j + 1) = nI (j + 1) from (eq_add (a := j) (b := 1) rfl rfl)]
                  refine Ez.drops [6] (lo' := [some (.ref 93), some (.int (nI a)), some (.int (nI b)), some (.int (nI k)), some (.int (nI (swp k a b))), some (.int (nI (j + 1))), none]) rfl ?_
                  exact ih2 I7 ⟨by rw [e7]; exact MC_ext (MC_up hj.1) (fun q hq => sws_wt (by omega) hjn (by omega)), fun q hq => by rw [e7, aUp_ne hq]; exact hj.2 q hq⟩
                refine Ez.blk B_X10_swapStates_87 (lo' := [some (.ref 93), some (.int (nI a)), some (.int (nI b)), some (.int (nI k)), some (.int (nI (swp k a b))), some (.int (nI j)), none]) (st' := [.int (nI a), .int (nI j)]) (I' := I6) (J' := J3) (Ps := []) rfl trivial ?_
                refine Ez.n_icmp_ne (off := 7) (tgt := 97) (by decide +kernel) (by decide) (a := j) (b := a) rfl rfl (by omega) (by omega) (fun e1 => ?_) (fun e1 => ?_)
                · refine Ez.blk B_X10_swapStates_97 (lo' := [some (.ref 93), some (.int (nI a)), some (.int (nI b)), some (.int (nI k)), some (.int (nI (swp k a b))), some (.int (nI j)), none]) (st' := [.int (nI b), .int (nI j)]) (I' := I6) (J' := J3) (Ps := []) rfl trivial ?_
                  refine Ez.n_icmp_ne (off := 7) (tgt := 107) (by decide +kernel) (by decide) (a := j) (b := b) rfl rfl (by omega) (by omega) (fun e2 => ?_) (fun e2 => ?_)
                  · refine Ez.blk B_X10_swapStates_107 (lo' := [some (.ref 93), some (.int (nI a)), some (.int (nI b)), some (.int (nI k)), some (.int (nI (swp k a b))), some (.int (nI j)), some (.int (nI j))]) (st' := [.int (I6 97 (((10 + (6 * nI (swp k a b))) + nI j).toNatClampNeg)), .int (nI j), .int (nI k), .ref 93]) (I' := I6) (J' := J3) (Ps := [aO E0 93 10 ∧ E0.2.2 93 5 ≠ 0, aAr E0 1 97 ((10 + (6 * nI (swp k a b))) + nI j)]) rfl ⟨r_93_5, (a_97 (vin (n := (10 + (6 * (swp k a b)) + j)) (eq_add (a := (10 + (6 * (swp k a b)))) (b := j) (eq_add (a := 10) (b := (6 * (swp k a b))) rfl (eq_mul (a := 6) (b := (swp k a b)) rfl rfl)) rfl) (by omega) (by decide)))⟩ ?_
                    rw [cln (x := ((10 + (6 * nI (swp k a b))) + nI j)) (n := (10 + (6 * (swp k a b)) + j)) (eq_add (a := (10 + (6 * (swp k a b)))) (b := j) (eq_add (a := 10) (b := (6 * (swp k a b))) rfl (eq_mul (a := 6) (b := (swp k a b)) rfl rfl)) rfl) (by omega)]
                    rw [swp_c e1 e2] at L6
                    exact L6
                  · refine Ez.blk B_X10_swapStates_103 (lo' := [some (.ref 93), some (.int (nI a)), some (.int (nI b)), some (.int (nI k)), some (.int (nI (swp k a b))), some (.int (nI j)), none]) (st' := [.int (nI a)]) (I' := I6) (J' := J3) (Ps := []) rfl trivial ?_
                    refine Ez.blk B_X10_swapStates_109 (lo' := [some (.ref 93), some (.int (nI a)), some (.int (nI b)), some (.int (nI k)), some (.int (nI (swp k a b))), some (.int (nI j)), some (.int (nI a))]) (st' := [.int (I6 97 (((10 + (6 * nI (swp k a b))) + nI a).toNatClampNeg)), .int (nI j), .int (nI k), .ref 93]) (I' := I6) (J' := J3) (Ps := [aO E0 93 10 ∧ E0.2.2 93 5 ≠ 0, aAr E0 1 97 ((10 + (6 * nI (swp k a b))) + nI a)]) rfl ⟨r_93_5, (a_97 (vin (n := (10 + (6 * (swp k a b)) + a)) (eq_add (a := (10 + (6 * (swp k a b)))) (b := a) (eq_add (a := 10) (b := (6 * (swp k a b))) rfl (eq_mul (a := 6) (b := (swp k a b)) rfl rfl)) rfl) (by omega) (by decide)))⟩ ?_
                    rw [cln (x := ((10 + (6 * nI (swp k a b))) + nI a)) (n := (10 + (6 * (swp k a b)) + a)) (eq_add (a := (10 + (6 * (swp k a b)))) (b := a) (eq_add (a := 10) (b := (6 * (swp k a b))) rfl (eq_mul (a := 6) (b := (swp k a b)) rfl rfl)) rfl) (by omega)]
                    rw [swp_b e1 e2] at L6
                    exact L6
                · refine Ez.blk B_X10_swapStates_93 (lo' := [some (.ref 93), some (.int (nI a)), some (.int (nI b)), some (.int (nI k)), some (.int (nI (swp k a b))), some (.int (nI j)), none]) (st' := [.int (nI b)]) (I' := I6) (J' := J3) (Ps := []) rfl trivial ?_
                  refine Ez.blk B_X10_swapStates_109 (lo' := [some (.ref 93), some (.int (nI a)), some (.int (nI b)), some (.int (nI k)), some (.int (nI (swp k a b))), some (.int (nI j)), some (.int (nI b))]) (st' := [.int (I6 97 (((10 + (6 * nI (swp k a b))) + nI b).toNatClampNeg)), .int (nI j), .int (nI k), .ref 93]) (I' := I6) (J' := J3) (Ps := [aO E0 93 10 ∧ E0.2.2 93 5 ≠ 0, aAr E0 1 97 ((10 + (6 * nI (swp k a b))) + nI b)]) rfl ⟨r_93_5, (a_97 (vin (n := (10 + (6 * (swp k a b)) + b)) (eq_add (a := (10 + (6 * (swp k a b)))) (b := b) (eq_add (a := 10) (b := (6 * (swp k a b))) rfl (eq_mul (a := 6) (b := (swp k a b)) rfl rfl)) rfl) (by omega) (by decide)))⟩ ?_
                  rw [cln (x := ((10 + (6 * nI (swp k a b))) + nI b)) (n := (10 + (6 * (swp k a b)) + b)) (eq_add (a := (10 + (6 * (swp k a b)))) (b := b) (eq_add (a := 10) (b := (6 * (swp k a b))) rfl (eq_mul (a := 6) (b := (swp k a b)) rfl rfl)) rfl) (by omega)]
                  rw [swp_a e1] at L6
                  exact L6
            exact L2 0 (by omega) I5 ⟨c5, m5⟩
          refine Ez.blk B_X10_swapStates_35 (lo' := [some (.ref 93), some (.int (nI a)), some (.int (nI b)), some (.int (nI k)), none, none, none]) (st' := [.int (nI a), .int (nI k)]) (I' := I4) (J' := J3) (Ps := []) rfl trivial ?_
          refine Ez.n_icmp_ne (off := 7) (tgt := 44) (by decide +kernel) (by decide) (a := k) (b := a) rfl rfl (by omega) (by omega) (fun e1 => ?_) (fun e1 => ?_)
          · refine Ez.blk B_X10_swapStates_44 (lo' := [some (.ref 93), some (.int (nI a)), some (.int (nI b)), some (.int (nI k)), none, none, none]) (st' := [.int (nI b), .int (nI k)]) (I' := I4) (J' := J3) (Ps := []) rfl trivial ?_
            refine Ez.n_icmp_ne (off := 7) (tgt := 53) (by decide +kernel) (by decide) (a := k) (b := b) rfl rfl (by omega) (by omega) (fun e2 => ?_) (fun e2 => ?_)
            · refine Ez.blk B_X10_swapStates_53 (lo' := [some (.ref 93), some (.int (nI a)), some (.int (nI b)), some (.int (nI k)), some (.int (nI k)), some (.int 0), none]) (st' := []) (I' := (aUp I4 94 ((4 + nI k).toNatClampNeg) (I4 97 ((4 + nI k).toNatClampNeg)))) (J' := J3) (Ps := [aO E0 93 10 ∧ E0.2.2 93 0 ≠ 0, aO E0 93 10 ∧ E0.2.2 93 5 ≠ 0, aAr E0 1 97 (4 + nI k), aAr E0 1 94 (4 + nI k)]) rfl ⟨r_93_0, r_93_5, (a_97 (vin (n := (4 + k)) (eq_add (a := 4) (b := k) rfl rfl) (by omega) (by decide))), (a_94 (vin (n := (4 + k)) (eq_add (a := 4) (b := k) rfl rfl) (by omega) (by decide)))⟩ ?_
              rw [cln (x := (4 + nI k)) (n := (4 + k)) (eq_add (a := 4) (b := k) rfl rfl) (by omega)]
              rw [swp_c e1 e2] at L5
              exact L5
            · refine Ez.blk B_X10_swapStates_49 (lo' := [some (.ref 93), some (.int (nI a)), some (.int (nI b)), some (.int (nI k)), none, none, none]) (st' := [.int (nI a)]) (I' := I4) (J' := J3) (Ps := []) rfl trivial ?_
              refine Ez.blk B_X10_swapStates_54 (lo' := [some (.ref 93), some (.int (nI a)), some (.int (nI b)), some (.int (nI k)), some (.int (nI a)), some (.int 0), none]) (st' := []) (I' := (aUp I4 94 ((4 + nI k).toNatClampNeg) (I4 97 ((4 + nI a).toNatClampNeg)))) (J' := J3) (Ps := [aO E0 93 10 ∧ E0.2.2 93 0 ≠ 0, aO E0 93 10 ∧ E0.2.2 93 5 ≠ 0, aAr E0 1 97 (4 + nI a), aAr E0 1 94 (4 + nI k)]) rfl ⟨r_93_0, r_93_5, (a_97 (vin (n := (4 + a)) (eq_add (a := 4) (b := a) rfl rfl) (by omega) (by decide))), (a_94 (vin (n := (4 + k)) (eq_add (a := 4) (b := k) rfl rfl) (by omega) (by decide)))⟩ ?_
              rw [cln (x := (4 + nI a)) (n := (4 + a)) (eq_add (a := 4) (b := a) rfl rfl) (by omega)]
              rw [cln (x := (4 + nI k)) (n := (4 + k)) (eq_add (a := 4) (b := k) rfl rfl) (by omega)]
              rw [swp_b e1 e2] at L5
              exact L5
          · refine Ez.blk B_X10_swapStates_40 (lo' := [some (.ref 93), some (.int (nI a)), some (.int (nI b)), some (.int (nI k)), none, none, none]) (st' := [.int (nI b)]) (I' := I4) (J' := J3) (Ps := []) rfl trivial ?_
            refine Ez.blk B_X10_swapStates_54 (lo' := [some (.ref 93), some (.int (nI a)), some (.int (nI b)), some (.int (nI k)), some (.int (nI b)), some (.int 0), none]) (st' := []) (I' := (aUp I4 94 ((4 + nI k).toNatClampNeg) (I4 97 ((4 + nI b).toNatClampNeg)))) (J' := J3) (Ps := [aO E0 93 10 ∧ E0.2.2 93 0 ≠ 0, aO E0 93 10 ∧ E0.2.2 93 5 ≠ 0, aAr E0 1 97 (4 + nI b), aAr E0 1 94 (4 + nI k)]) rfl ⟨r_93_0, r_93_5, (a_97 (vin (n := (4 + b)) (eq_add (a := 4) (b := b) rfl rfl) (by omega) (by decide))), (a_94 (vin (n := (4 + k)) (eq_add (a := 4) (b := k) rfl rfl) (by omega) (by decide)))⟩ ?_
            rw [cln (x := (4 + nI b)) (n := (4 + b)) (eq_add (a := 4) (b := b) rfl rfl) (by omega)]
            rw [cln (x := (4 + nI k)) (n := (4 + k)) (eq_add (a := 4) (b := k) rfl rfl) (by omega)]
            rw [swp_a e1] at L5
            exact L5
      exact L1 0 (by omega) I3 ⟨MC_ext c1 (fun k hk => sws_0), fun _ _ => rfl⟩
    · refine Ez.blk B_X10_swapStates_16 (lo' := [some (.ref 93), some (.int x), some (.int y), none, none, none, none]) (st' := [.int (-2)]) (I' := I2) (J' := J2) (Ps := []) rfl trivial ?_
      exact Ez.iret rfl (by decide +kernel) (hQ _ _ _ (by unfold f_swapStates; rw [if_neg (fun q => h2 q.2)]; exact ⟨rfl, hP, fun _ _ => ⟨rfl, rfl⟩⟩))

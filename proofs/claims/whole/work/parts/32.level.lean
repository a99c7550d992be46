/-! DISTANCES: the kept levels -/
def CCk (cb : Nat → Nat) (kd : Nat) (I : aI) (J : aJ) : Prop := Wc cb ∧ Ch I 44 cb ∧ kd ≤ 15 ∧ I 43 4 = nI kd ∧ (cb 3 * cb 1) ^ kd ≤ 1000000000000000 ∧ (∀ k, k ≤ kd → J 73 k = lN ((cb 3 * cb 1) ^ k)) ∧ (∀ k, k ≤ kd → ∀ i j, i < cb 0 → j < cb 0 → J (57 + k) (6 * i + j) = lN (dst cb k i j)) ∧ (∀ k, k < 16 → ∀ i, i < 6 → J (57 + k) (7 * i) = 0) ∧ (∀ x, x < 36 → J 57 x = 0) ∧ J 73 0 = 1
theorem mcost_ext {n : Nat} {U V U' V' : Nat → Nat} {dd dd' : Nat → Nat → Nat} (h : sm U n = sm V n) (hU : ∀ i, i < n → U i = U' i) (hV : ∀ i, i < n → V i = V' i) (hd : ∀ i j, i < n → j < n → dd i j = dd' i j) : mcost n U V dd = mcost n U' V' dd' := by
  have hc : ∀ f, cst n dd f = cst n dd' f := fun f => sm_ext (fun i hi => sm_ext (fun j hj => by show f i j * dd i j = f i j * dd' i j; rw [hd i j hi hj]))
  obtain ⟨f, hf, hm⟩ := min_cpl dd h
  rw [mcost_eq hf hm, mcost_eq (U := U') (V := V') (dd := dd') (f := f) ⟨fun i hi => by rw [hf.1 i hi, hU i hi], fun i hi => by rw [hf.2 i hi, hV i hi]⟩ (fun g hg => by
    rw [← hc f, ← hc g]
    exact hm g ⟨fun i hi => by rw [hg.1 i hi, hU i hi], fun i hi => by rw [hg.2 i hi, hV i hi]⟩), hc f]
theorem dst_ext {c e : Nat → Nat} (W : Wc c) (h : ∀ k, k < 46 → c k = e k) : ∀ k i j, i < c 0 → j < c 0 → dst c k i j = dst e k i j
  | 0, _, _, _, _ => rfl
  | k + 1, i, j, hi, hj => by
    have w1 := W.1
    rw [dst_s, dst_s, h (4 + i) (by omega), h (4 + j) (by omega), h 2 (by omega), h 3 (by omega), h 1 (by omega), ← h 0 (by omega)]
    rw [mcost_ext (U := wro_ c i) (V := wro_ c j) (U' := wro_ e i) (V' := wro_ e j) (dd := dst c k) (dd' := dst e k) (by rw [Wc_row W i hi, Wc_row W j hj]) (fun x hx => h _ (by omega)) (fun x hx => h _ (by omega)) (fun x y hx hy => dst_ext W h k x y hx hy)]
theorem Ch_ext {I : aI} {a : Nat} {c e : Nat → Nat} (hc : Ch I a c) (h : ∀ k, k < 46 → c k = e k) : Ch I a e := ⟨fun k hk => by rw [← h k (by omega)]; exact hc.1 k hk, fun k hk => by rw [← h (4 + k) (by omega)]; exact hc.2.1 k hk, fun k hk => by rw [← h (10 + k) (by omega)]; exact hc.2.2 k hk⟩
theorem CCk_ext {c e : Nat → Nat} {kd : Nat} {I : aI} {J : aJ} (hk : CCk c kd I J) (We : Wc e) (h : ∀ k, k < 46 → c k = e k) : CCk e kd I J := by
  obtain ⟨g1, g2, g3, g4, g5, g6, g7, g8, g9, g10⟩ := hk
  have e3 := h 3 (by omega)
  have e1 := h 1 (by omega)
  have e0 := h 0 (by omega)
  rw [e3, e1] at g5 g6
  exact ⟨We, Ch_ext g2 h, g3, g4, g5, g6, fun k hk i j hi hj => by rw [← dst_ext g1 h k i j (by omega) (by omega)]; exact g7 k hk i j (by omega) (by omega), g8, g9, g10⟩
theorem CCk_fr {c : Nat → Nat} {kd : Nat} {I I' : aI} {J J' : aJ} (h : CCk c kd I J) (h0 : ∀ b, 43 ≤ b → b ≤ 46 → I' b = I b) (h1 : ∀ b, 57 ≤ b → b ≤ 73 → J' b = J b) : CCk c kd I' J' := by
  obtain ⟨g1, g2, g3, g4, g5, g6, g7, g8, g9, g10⟩ := h
  exact ⟨g1, Ch_eq g2 (h0 _ (by omega) (by omega)) (h0 _ (by omega) (by omega)) (h0 _ (by omega) (by omega)), g3, by rw [h0 43 (by omega) (by omega)]; exact g4, g5, fun k hk => by rw [h1 73 (by omega) (by omega)]; exact g6 k hk, fun k hk i j hi hj => by rw [h1 _ (by omega) (by omega)]; exact g7 k hk i j hi hj, fun k hk i hi => by rw [h1 _ (by omega) (by omega)]; exact g8 k hk i hi, fun x hx => by rw [h1 _ (by omega) (by omega)]; exact g9 x hx, by rw [h1 _ (by omega) (by omega)]; exact g10⟩
/-- one level more -/
theorem CCk_up {c : Nat → Nat} {k : Nat} {I I1 : aI} {J J1 : aJ} (h : CCk c k I J) (hk : k < 15) (hb : (c 3 * c 1) ^ (k + 1) ≤ 1000000000000000) (hf : Fi c k I J (fun _ _ => True) I1 J1) : CCk c (k + 1) (aUp I1 43 4 (nI (k + 1))) J1 := by
  obtain ⟨g1, g2, g3, g4, g5, g6, g7, g8, g9, g10⟩ := h
  obtain ⟨f1, f2, f3, f4, f5, f6, f7⟩ := hf
  have hd := dst_ok g1 (k + 1)
  refine ⟨g1, Ch_eq g2 (by rw [aUp_ne (by omega)]; exact f1 _ (by omega)) (by rw [aUp_ne (by omega)]; exact f1 _ (by omega)) (by rw [aUp_ne (by omega)]; exact f1 _ (by omega)), by omega, aUp_eq, hb, fun q hq => ?_, fun q hq i j hi hj => ?_, fun q hq i hi => ?_, fun x hx => by rw [f2 57 (by omega)]; exact g9 x hx, by rw [f3 0 (by omega)]; exact g10⟩
  · by_cases e : q = k + 1
    · rw [e]; exact f4
    · rw [f3 q e]; exact g6 q (by omega)
  · by_cases e : q = k + 1
    · subst e
      rw [show 57 + (k + 1) = 58 + k by omega]
      by_cases e1 : i < j
      · rw [show 6 * i + j = i * 6 + j by omega]; exact (f7 i j e1 hj trivial).1
      · by_cases e2 : i = j
        · subst e2
          have w1 := g1.1
          rw [hd.2 i hi, show 6 * i + i = 7 * i by omega, f6 i, show 58 + k = 57 + (k + 1) by omega, g8 (k + 1) (by omega) i (by omega)]
          rfl
        · rw [show 6 * i + j = i * 6 + j by omega, (hd.1 i j hi hj).2]; exact (f7 j i (by omega) hi trivial).2
    · rw [f2 _ (by omega)]; exact g7 q (by omega) i j hi hj
  · by_cases e : q = k + 1
    · subst e
      rw [show 57 + (k + 1) = 58 + k by omega, f6 i, show 58 + k = 57 + (k + 1) by omega]; exact g8 (k + 1) (by omega) i hi
    · rw [f2 _ (by omega)]; exact g8 q hq i hi
/-- the distances' rows are nobody else's -/
theorem CP_d {T : TS} {I I' : aI} {J J' : aJ} (h : CP T I J) (hI : ∀ q, ¬ (43 ≤ q ∧ q ≤ 73) → I' q = I q) (hJ : ∀ q, ¬ (43 ≤ q ∧ q ≤ 73) → J' q = J q) (hc : CCa I' J') : CP T I' J' := ⟨Ch_eq h.1 (hI _ (by omega)) (hI _ (by omega)) (hI _ (by omega)), CEd_fr h.2.1 (fun b _ => hI b (by omega)), CSn_fr h.2.2.1 (hI _ (by omega)) (fun b _ _ => hI b (by omega)), CBuf_fr h.2.2.2.1 (hI _ (by omega)) (hI _ (by omega)), CSl_fr h.2.2.2.2.1 (hI _ (by omega)) (hI _ (by omega)) (fun b _ _ => hJ b (by omega)), hc⟩
theorem s_level (d : Nat) (I : aI) (J : aJ) (T : TS) (W : WT T) (hP : CP T I J) (m : Nat) (hm : m ≤ 15) (hb : (T.1 3 * T.1 1) ^ m ≤ 1000000000000000) : Sp m_X3_levelFor (d + 6) [.ref 43, .ref 2, .int (nI m)] E0 I J (fun r I' J' => r = some (.ref (57 + m)) ∧ (∃ kd, m ≤ kd ∧ CCk T.1 kd I' J') ∧ (∀ q, ¬ (43 ≤ q ∧ q ≤ 73) → I' q = I q) ∧ ∀ q, ¬ (43 ≤ q ∧ q ≤ 73) → J' q = J q) := by
  refine Sp.of (lo := [some (.ref 43), some (.ref 2), some (.int (nI m)), none]) rfl (fun Q hQ => ?_)
  have wc := W.1
  have w2 := W.1.2.1
  have w3 := W.1.2.2.1
  have bpos : 1 ≤ T.1 3 * T.1 1 := Nat.mul_pos (by omega) (by omega)
  have L1 : ∀ k, k ≤ m → ∀ (I1 : aI) (J1 : aJ), (CCk T.1 k I1 J1 ∧ (∀ q, ¬ (43 ≤ q ∧ q ≤ 73) → I1 q = I q) ∧ ∀ q, ¬ (43 ≤ q ∧ q ≤ 73) → J1 q = J q) → Ez m_X3_levelFor (d + 6) 31 [some (.ref 43), some (.ref 2), some (.int (nI m)), some (.int (nI (k + 1)))] [] E0 I1 J1 Q := by
    refine for_up ?_ ?_
    · intro I1 J1 hi
      refine Ez.blk B_X3_levelFor_31 (lo' := [some (.ref 43), some (.ref 2), some (.int (nI m)), some (.int (nI (m + 1)))]) (st' := [.int (nI m), .int (nI (m + 1))]) (I' := I1) (J' := J1) (Ps := []) rfl trivial ?_
      refine Ez.n_icmp_gt (off := 19) (tgt := 52) (by decide +kernel) (by decide) (a := (m + 1)) (b := m) rfl rfl (by omega) (by omega) (fun h => ?_) (fun h => absurd h (by omega))
      refine Ez.blk B_X3_levelFor_52 (lo' := [some (.ref 43), some (.ref 2), some (.int (nI m)), some (.int (nI (m + 1)))]) (st' := [.ref (E0.2.2 56 (nI m).toNatClampNeg)]) (I' := I1) (J' := J1) (Ps := [aO E0 43 3 ∧ E0.2.2 43 2 ≠ 0, aAr E0 5 56 (nI m) ∧ E0.2.2 56 ((nI m).toNatClampNeg) ≠ 0]) rfl ⟨r_43_2, (a_56 (k := m) rfl (by omega))⟩ ?_
      rw [cln (x := nI m) (n := m) rfl (by omega)]
      rw [lev_at m (by omega)]
      exact Ez.aret rfl (Or.inr ⟨_, rfl⟩) (by decide +kernel) (hQ _ _ _ ⟨rfl, ⟨m, by omega, hi.1⟩, hi.2⟩)
    · intro k hk ih I1 J1 hi
      obtain ⟨g, fI, fJ⟩ := id hi
      have hb1 : (T.1 3 * T.1 1) ^ (k + 1) ≤ 1000000000000000 := Nat.le_trans (Nat.pow_le_pow_right bpos (by omega)) hb
      refine Ez.blk B_X3_levelFor_31 (lo' := [some (.ref 43), some (.ref 2), some (.int (nI m)), some (.int (nI (k + 1)))]) (st' := [.int (nI m), .int (nI (k + 1))]) (I' := I1) (J' := J1) (Ps := []) rfl trivial ?_
      refine Ez.n_icmp_gt (off := 19) (tgt := 52) (by decide +kernel) (by decide) (a := (k + 1)) (b := m) rfl rfl (by omega) (by omega) (fun h => absurd h (by omega)) (fun h => ?_)
      refine Ez.blk B_X3_levelFor_36 (lo' := [some (.ref 43), some (.ref 2), some (.int (nI m)), some (.int (nI (k + 1)))]) (st' := [.int (nI (k + 1)), .ref 43]) (I' := I1) (J' := J1) (Ps := []) rfl trivial ?_
      refine Ez.callV (As := [.int (nI (k + 1))]) (b := 43) (rest := []) kn_X3_fillLevel ml_3_46 im_X3_fillLevel se_X3_fillLevel rfl (by decide +kernel) rfl rfl (Nat.le_of_ble_eq_true rfl) (Nat.le_of_ble_eq_true rfl) o_43 (s_fill _ I1 J1 T.1 g.2.1 W.1 k (by omega) (g.2.2.2.2.2.1 k (Nat.le_refl _)) hb1 (g.2.2.2.2.2.2.1 k (Nat.le_refl _))) (fun r I2 J2 hq => ?_)
      obtain ⟨rfl, hf⟩ := hq
      refine Ez.blk B_X3_levelFor_41 (lo' := [some (.ref 43), some (.ref 2), some (.int (nI m)), some (.int (nI (k + 1) + 1))]) (st' := []) (I' := (aUp I2 43 4 (nI (k + 1)))) (J' := J2) (Ps := [aO E0 43 3]) rfl o_43 ?_
      rw [show (nI (k + 1) + 1) = nI (k + 1 + 1) from (eq_add (a := (k + 1)) (b := 1) rfl rfl)]
      exact ih _ J2 ⟨CCk_up g (by omega) hb1 hf, fun q hq => by rw [aUp_ne (by omega), hf.1 q (by omega)]; exact fI q hq, fun q hq => by rw [hf.2.1 q (by omega)]; exact fJ q hq⟩
  have go : ∀ (kd : Nat) (I1 : aI) (J1 : aJ), (CCk T.1 kd I1 J1 ∧ (∀ q, ¬ (43 ≤ q ∧ q ≤ 73) → I1 q = I q) ∧ ∀ q, ¬ (43 ≤ q ∧ q ≤ 73) → J1 q = J q) → Ez m_X3_levelFor (d + 6) 31 [some (.ref 43), some (.ref 2), some (.int (nI m)), some (.int (nI (kd + 1)))] [] E0 I1 J1 Q := by
    intro kd I1 J1 hi
    have hkd := hi.1.2.2.1
    by_cases e : kd ≤ m
    · exact L1 kd e I1 J1 hi
    · refine Ez.blk B_X3_levelFor_31 (lo' := [some (.ref 43), some (.ref 2), some (.int (nI m)), some (.int (nI (kd + 1)))]) (st' := [.int (nI m), .int (nI (kd + 1))]) (I' := I1) (J' := J1) (Ps := []) rfl trivial ?_
      refine Ez.n_icmp_gt (off := 19) (tgt := 52) (by decide +kernel) (by decide) (a := (kd + 1)) (b := m) rfl rfl (by omega) (by omega) (fun h => ?_) (fun h => absurd h (by omega))
      refine Ez.blk B_X3_levelFor_52 (lo' := [some (.ref 43), some (.ref 2), some (.int (nI m)), some (.int (nI (kd + 1)))]) (st' := [.ref (E0.2.2 56 (nI m).toNatClampNeg)]) (I' := I1) (J' := J1) (Ps := [aO E0 43 3 ∧ E0.2.2 43 2 ≠ 0, aAr E0 5 56 (nI m) ∧ E0.2.2 56 ((nI m).toNatClampNeg) ≠ 0]) rfl ⟨r_43_2, (a_56 (k := m) rfl (by omega))⟩ ?_
      rw [cln (x := nI m) (n := m) rfl (by omega)]
      rw [lev_at m (by omega)]
      exact Ez.aret rfl (Or.inr ⟨_, rfl⟩) (by decide +kernel) (hQ _ _ _ ⟨rfl, ⟨kd, by omega, hi.1⟩, hi.2⟩)
  obtain ⟨cb, kd, hck⟩ := hP.2.2.2.2.2
  have hck : CCk cb kd I J := hck
  refine Ez.blk B_X3_levelFor_0 (lo' := [some (.ref 43), some (.ref 2), some (.int (nI m)), none]) (st' := [.ref 2, .ref 44]) (I' := I) (J' := J) (Ps := [aO E0 43 3 ∧ E0.2.2 43 0 ≠ 0]) rfl r_43_0 ?_
  refine Ez.callV (As := [.ref 2]) (b := 44) (rest := []) kn_X1_sameAs ml_3_34 im_X1_sameAs se_X1_sameAs rfl (by decide +kernel) rfl rfl (Nat.le_of_ble_eq_true rfl) (Nat.le_of_ble_eq_true rfl) o_44 (s_sameAs _ E0 I J 44 2 CE_44 CE_2 cb T.1 hck.2.1 hP.1 (fun k hk => by have := Wc_12 hck.1 k hk; omega) (fun k hk => by have := Wc_12 W.1 k hk; omega)) (fun r I1 J1 hq => ?_)
  obtain ⟨rfl, rfl, rfl⟩ := hq
  refine Ez.z_if_ne (off := 16) (tgt := 24) (by decide +kernel) (by decide) (fun h => ?_) (fun h => ?_)
  · have hc2 := CCk_ext hck W.1 (eqc_iff.mp h)
    have hkd := hc2.2.2.1
    refine Ez.blk B_X3_levelFor_24 (lo' := [some (.ref 43), some (.ref 2), some (.int (nI m)), some (.int (I1 43 4 + 1))]) (st' := []) (I' := I1) (J' := J1) (Ps := [aO E0 43 3]) rfl o_43 ?_
    rw [show (I1 43 4 + 1) = nI (kd + 1) from (eq_add (a := kd) (b := 1) hc2.2.2.2.1 rfl)]
    exact go kd I1 J1 ⟨hc2, fun _ _ => rfl, fun _ _ => rfl⟩
  · refine Ez.blk B_X3_levelFor_11 (lo' := [some (.ref 43), some (.ref 2), some (.int (nI m)), none]) (st' := [.ref 2, .ref 44]) (I' := I1) (J' := J1) (Ps := [aO E0 43 3 ∧ E0.2.2 43 0 ≠ 0]) rfl r_43_0 ?_
    refine Ez.callV (As := [.ref 2]) (b := 44) (rest := []) kn_X1_copyFrom ml_3_38 im_X1_copyFrom se_X1_copyFrom rfl (by decide +kernel) rfl rfl (Nat.le_of_ble_eq_true rfl) (Nat.le_of_ble_eq_true rfl) o_44 (s_copy _ E0 I1 J1 44 2 CE_44 CE_2 (by omega) T.1 hP.1) (fun r I2 J2 hq => ?_)
    obtain ⟨rfl, rfl, k1, k2⟩ := hq
    refine Ez.blk B_X3_levelFor_19 (lo' := [some (.ref 43), some (.ref 2), some (.int (nI m)), some (.int (0 + 1))]) (st' := []) (I' := (aUp I2 43 4 0)) (J' := J2) (Ps := [aO E0 43 3, aO E0 43 3]) rfl ⟨o_43, o_43⟩ ?_
    rw [show (0 + 1) = nI (0 + 1) from (eq_add (a := 0) (b := 1) rfl rfl)]
    refine go 0 _ J2 ⟨⟨W.1, Ch_eq k1 (aUp_ne (by decide)) (aUp_ne (by decide)) (aUp_ne (by decide)), by omega, aUp_eq, by rw [Nat.pow_zero]; decide, fun k hk => ?_, fun k hk i j hi hj => ?_, hck.2.2.2.2.2.2.2.1, hck.2.2.2.2.2.2.2.2.1, hck.2.2.2.2.2.2.2.2.2⟩, fun q hq => by rw [aUp_ne (by omega)]; exact k2 q (by omega) (by omega) (by omega), fun _ _ => rfl⟩
    · rw [show k = 0 by omega, Nat.pow_zero]; exact hck.2.2.2.2.2.2.2.2.2
    · have w1 := W.1.1
      rw [show k = 0 by omega]; exact hck.2.2.2.2.2.2.2.2.1 _ (by omega)

/-! PARSE: the class -/
/-- the weights while they are written: rows below i, and row i below j -/
def wst (n D : Nat) (x : PX) (i j k : Nat) : Nat := if (k / 6 < i ∨ (k / 6 = i ∧ k % 6 < j)) ∧ k % 6 < n then x.2.2.1 (10 * (k / 6) + k % 6) else if k % 7 = 0 ∧ k / 7 < n then D else 0
theorem wst_end {c : Nat → Nat} {n D : Nat} {x : PX} {k : Nat} (hk : k < 36) : wst n D x n 0 k = prc c n D x (10 + k) := by
  unfold wst prc
  rw [if_neg (show ¬ 10 + k = 0 by omega), if_neg (show ¬ 10 + k = 1 by omega), if_neg (show ¬ 10 + k < 4 by omega), if_neg (show ¬ 10 + k < 10 by omega), show 10 + k - 10 = k by omega]
  by_cases e : k / 6 < n ∧ k % 6 < n
  · rw [if_pos e, if_pos ⟨Or.inl e.1, e.2⟩]
  · rw [if_neg e, if_neg (by omega), if_neg (by omega)]
theorem prc_l {c : Nat → Nat} {n D : Nat} {x : PX} {s : Nat} (hs : s < 6) : prc c n D x (4 + s) = if s < n then x.2.1 s else 0 := by
  unfold prc
  rw [if_neg (by omega), if_neg (by omega), if_neg (by omega), if_pos (by omega), show 4 + s - 4 = s by omega]
theorem wst_0 {n D : Nat} {x : PX} {k : Nat} : wst n D x 0 0 k = if k % 7 = 0 ∧ k / 7 < n then D else 0 := by
  unfold wst
  rw [if_neg (by omega)]
theorem wst_up {n D : Nat} {x : PX} {i j k : Nat} (hj : j < n) (hn : n ≤ 6) (hi : i < n) (hk : k < 36) : wst n D x i (j + 1) k = if k = i * 6 + j then x.2.2.1 (10 * i + j) else wst n D x i j k := by
  unfold wst
  by_cases e : k = i * 6 + j
  · rw [if_pos e, if_pos (by omega), show k / 6 = i by omega, show k % 6 = j by omega]
  · rw [if_neg e]
    by_cases e2 : (k / 6 < i ∨ (k / 6 = i ∧ k % 6 < j)) ∧ k % 6 < n
    · rw [if_pos e2, if_pos (by omega)]
    · rw [if_neg e2, if_neg (by omega)]
theorem wst_nx {n D : Nat} {x : PX} {i k : Nat} (hn : n ≤ 6) (hk : k < 36) : wst n D x (i + 1) 0 k = wst n D x i n k := by
  unfold wst
  by_cases e2 : (k / 6 < i ∨ (k / 6 = i ∧ k % 6 < n)) ∧ k % 6 < n
  · rw [if_pos e2, if_pos (by omega)]
  · rw [if_neg e2, if_neg (by omega)]
theorem s_writeTo (d : Nat) (I : aI) (J : aJ) (c : Nat → Nat) (hc : Ch I 2 c) (n D : Nat) (x : PX) (hn : 1 ≤ n ∧ n ≤ 6) (h3 : I 80 3 = nI n) (h4 : I 80 4 = nI D) (hw : ∀ k, k < 60 → I 84 k = nI (x.2.2.1 k)) (hl : ∀ k, k < n → I 83 k = nI (x.2.1 k)) : Sp m_X2_writeTo (d + 2) [.ref 80, .ref 2] E0 I J (fun r I' J' => r = none ∧ J' = J ∧ Ch I' 2 (prc c n D x) ∧ ∀ q, ¬ (2 ≤ q ∧ q ≤ 4) → I' q = I q) := by
  refine Sp.of (lo := [some (.ref 80), some (.ref 2), none, none]) rfl (fun Q hQ => ?_)
  refine Ez.blk B_X2_writeTo_0 (lo' := [some (.ref 80), some (.ref 2), none, none]) (st' := [.int (I 80 4), .int (I 80 3), .ref 2]) (I' := I) (J' := J) (Ps := [aO E0 80 2, aO E0 80 2]) rfl ⟨o_80, o_80⟩ ?_
  rw [h3]
  rw [h4]
  refine Ez.callV (As := [.int (nI n), .int (nI D)]) (b := 2) (rest := []) kn_X1_start ml_2_87 im_X1_start se_X1_start rfl (by decide +kernel) rfl rfl (Nat.le_of_ble_eq_true rfl) (Nat.le_of_ble_eq_true rfl) o_2 (s_start _ E0 I J 2 n D CE_2 hn.2) (fun r I1 J1 hq => ?_)
  obtain ⟨rfl, rfl, ⟨a0, a1, a2⟩, a3, a4, a5⟩ := hq
  have g80 : I1 80 3 = nI n := by rw [a5 80 (by decide) (by decide) (by decide)]; exact h3
  have g84 : ∀ k, k < 60 → I1 84 k = nI (x.2.2.1 k) := fun k hk => by rw [a5 84 (by decide) (by decide) (by decide)]; exact hw k hk
  have g83 : ∀ k, k < n → I1 83 k = nI (x.2.1 k) := fun k hk => by rw [a5 83 (by decide) (by decide) (by decide)]; exact hl k hk
  have L1 : ∀ k, k ≤ n → ∀ (I2 : aI), ((∀ s, s < 6 → I2 3 s = nI (if s < k then x.2.1 s else 0)) ∧ (∀ q, q < 36 → I2 4 q = nI (wst n D x k 0 q)) ∧ ∀ q, q ≠ 3 → q ≠ 4 → I2 q = I1 q) → Ez m_X2_writeTo (d + 2) 14 [some (.ref 80), some (.ref 2), some (.int (nI k)), none] [] E0 I2 J1 Q := by
    refine for_up ?_ ?_
    · intro I2 hi
      obtain ⟨i1, i2, i3⟩ := hi
      have j3 : I2 80 3 = nI n := by rw [i3 80 (by decide) (by decide)]; exact g80
      refine Ez.blk B_X2_writeTo_14 (lo' := [some (.ref 80), some (.ref 2), some (.int (nI n)), none]) (st' := [.int (I2 80 3), .int (nI n)]) (I' := I2) (J' := J1) (Ps := [aO E0 80 2]) rfl o_80 ?_
      refine Ez.n_icmp_ge (off := 59) (tgt := 78) (by decide +kernel) (by decide) (a := n) (b := n) rfl j3 (by omega) (by omega) (fun h => ?_) (fun h => absurd h (by omega))
      exact Ez.vret rfl (by decide +kernel) (by
        refine hQ _ _ _ ⟨rfl, rfl, ⟨fun k hk => ?_, fun s hs => ?_, fun k hk => ?_⟩, fun q hq => by rw [i3 q (by omega) (by omega), a5 q (by omega) (by omega) (by omega)]⟩
        · rw [i3 2 (by decide) (by decide)]
          unfold prc
          by_cases e0 : k = 0
          · rw [if_pos e0, e0]; exact a0
          · rw [if_neg e0]
            by_cases e1 : k = 1
            · rw [if_pos e1, e1]; exact a1
            · rw [if_neg e1, if_pos hk, a2 k e0 e1]; exact hc.1 k hk
        · rw [i1 s hs, prc_l hs]
        · rw [i2 k hk, wst_end (c := c) hk])
    · intro k hk ih I2 hi
      obtain ⟨i1, i2, i3⟩ := hi
      have j3 : I2 80 3 = nI n := by rw [i3 80 (by decide) (by decide)]; exact g80
      refine Ez.blk B_X2_writeTo_14 (lo' := [some (.ref 80), some (.ref 2), some (.int (nI k)), none]) (st' := [.int (I2 80 3), .int (nI k)]) (I' := I2) (J' := J1) (Ps := [aO E0 80 2]) rfl o_80 ?_
      refine Ez.n_icmp_ge (off := 59) (tgt := 78) (by decide +kernel) (by decide) (a := k) (b := n) rfl j3 (by omega) (by omega) (fun h => absurd h (by omega)) (fun h => ?_)
      refine Ez.blk B_X2_writeTo_22 (lo' := [some (.ref 80), some (.ref 2), some (.int (nI k)), some (.int 0)]) (st' := []) (I' := (aUp I2 3 ((nI k).toNatClampNeg) (I2 83 ((nI k).toNatClampNeg)))) (J' := J1) (Ps := [aO E0 2 1 ∧ E0.2.2 2 4 ≠ 0, aO E0 80 2 ∧ E0.2.2 80 6 ≠ 0, aAr E0 1 83 (nI k), aAr E0 1 3 (nI k)]) rfl ⟨r_2_4, r_80_6, (a_83 (vin (n := k) rfl (by omega) (by decide))), (a_3 (vin (n := k) rfl (by omega) (by decide)))⟩ ?_
      rw [cln (x := nI k) (n := k) rfl (by omega)]
      generalize hI3 : (aUp I2 3 k (I2 83 k)) = I3
      have m3 : ∀ q, q ≠ 3 → I3 q = I2 q := fun q hq => by rw [← hI3, aUp_ne hq]
      have m1 : ∀ s, s < 6 → I3 3 s = nI (if s < k + 1 then x.2.1 s else 0) := fun s hs => by
        by_cases e : s = k
        · rw [e, if_pos (by omega), ← hI3, aUp_eq, i3 83 (by decide) (by decide)]; exact g83 k hk
        · rw [← hI3, aUp_nk e, i1 s hs]
          by_cases e2 : s < k
          · rw [if_pos e2, if_pos (by omega)]
          · rw [if_neg e2, if_neg (by omega)]
      have L2 : ∀ j, j ≤ n → ∀ (I4 : aI), ((∀ q, q < 36 → I4 4 q = nI (wst n D x k j q)) ∧ ∀ q, q ≠ 4 → I4 q = I3 q) → Ez m_X2_writeTo (d + 2) 36 [some (.ref 80), some (.ref 2), some (.int (nI k)), some (.int (nI j))] [] E0 I4 J1 Q := by
        refine for_up ?_ ?_
        · intro I4 hj
          have j4 : I4 80 3 = nI n := by rw [hj.2 80 (by decide), m3 80 (by decide)]; exact j3
          refine Ez.blk B_X2_writeTo_36 (lo' := [some (.ref 80), some (.ref 2), some (.int (nI k)), some (.int (nI n))]) (st' := [.int (I4 80 3), .int (nI n)]) (I' := I4) (J' := J1) (Ps := [aO E0 80 2]) rfl o_80 ?_
          refine Ez.n_icmp_ge (off := 31) (tgt := 72) (by decide +kernel) (by decide) (a := n) (b := n) rfl j4 (by omega) (by omega) (fun h9 => ?_) (fun h9 => absurd h9 (by omega))
          refine Ez.blk B_X2_writeTo_72 (lo' := [some (.ref 80), some (.ref 2), some (.int (nI k + 1)), some (.int (nI n))]) (st' := []) (I' := I4) (J' := J1) (Ps := []) rfl trivial ?_
          rw [show (nI k + 1) = nI (k + 1) from (eq_add (a := k) (b := 1) rfl rfl)]
          refine Ez.drops [3] (lo' := [some (.ref 80), some (.ref 2), some (.int (nI (k + 1))), none]) rfl ?_
          exact ih I4 ⟨fun s hs => by rw [hj.2 3 (by decide)]; exact m1 s hs, fun q hq => by rw [hj.1 q hq, wst_nx hn.2 hq], fun q h0 h1 => by rw [hj.2 q h1, m3 q h0]; exact i3 q h0 h1⟩
        · intro j hjn ih2 I4 hj
          have j4 : I4 80 3 = nI n := by rw [hj.2 80 (by decide), m3 80 (by decide)]; exact j3
          refine Ez.blk B_X2_writeTo_36 (lo' := [some (.ref 80), some (.ref 2), some (.int (nI k)), some (.int (nI j))]) (st' := [.int (I4 80 3), .int (nI j)]) (I' := I4) (J' := J1) (Ps := [aO E0 80 2]) rfl o_80 ?_
          refine Ez.n_icmp_ge (off := 31) (tgt := 72) (by decide +kernel) (by decide) (a := j) (b := n) rfl j4 (by omega) (by omega) (fun h9 => absurd h9 (by omega)) (fun h9 => ?_)
          refine Ez.blk B_X2_writeTo_44 (lo' := [some (.ref 80), some (.ref 2), some (.int (nI k)), some (.int (nI j + 1))]) (st' := []) (I' := (aUp I4 4 (((nI k * 6) + nI j).toNatClampNeg) (I4 84 (((nI k * 10) + nI j).toNatClampNeg)))) (J' := J1) (Ps := [aO E0 2 1 ∧ E0.2.2 2 5 ≠ 0, aO E0 80 2 ∧ E0.2.2 80 7 ≠ 0, aAr E0 1 84 ((nI k * 10) + nI j), aAr E0 1 4 ((nI k * 6) + nI j)]) rfl ⟨r_2_5, r_80_7, (a_84 (vin (n := (k * 10 + j)) (eq_add (a := (k * 10)) (b := j) (eq_mul (a := k) (b := 10) rfl rfl) rfl) (by omega) (by decide))), (a_4 (vin (n := (k * 6 + j)) (eq_add (a := (k * 6)) (b := j) (eq_mul (a := k) (b := 6) rfl rfl) rfl) (by omega) (by decide)))⟩ ?_
          rw [cln (x := ((nI k * 10) + nI j)) (n := (k * 10 + j)) (eq_add (a := (k * 10)) (b := j) (eq_mul (a := k) (b := 10) rfl rfl) rfl) (by omega)]
          rw [cln (x := ((nI k * 6) + nI j)) (n := (k * 6 + j)) (eq_add (a := (k * 6)) (b := j) (eq_mul (a := k) (b := 6) rfl rfl) rfl) (by omega)]
          rw [show (nI j + 1) = nI (j + 1) from (eq_add (a := j) (b := 1) rfl rfl)]
          exact ih2 _ ⟨fun q hq => by
            rw [wst_up hjn hn.2 hk hq]
            by_cases e : q = k * 6 + j
            · rw [if_pos e, e, aUp_eq, hj.2 84 (by decide), m3 84 (by decide), i3 84 (by decide) (by decide), g84 _ (by omega), show k * 10 + j = 10 * k + j by omega]
            · rw [if_neg e, aUp_nk e]; exact hj.1 q hq, fun q hq => by rw [aUp_ne hq]; exact hj.2 q hq⟩
      exact L2 0 (by omega) I3 ⟨fun q hq => by rw [m3 4 (by decide)]; exact i2 q hq, fun _ _ => rfl⟩
  refine Ez.blk B_X2_writeTo_12 (lo' := [some (.ref 80), some (.ref 2), some (.int 0), none]) (st' := []) (I' := I1) (J' := J1) (Ps := []) rfl trivial ?_
  exact L1 0 (by omega) I1 ⟨fun s hs => by rw [a3 s hs, if_neg (by omega)]; rfl, fun q hq => by
    rw [a4 q hq, wst_0]
    by_cases e : q % 7 = 0 ∧ q / 7 < n
    · rw [if_pos e, if_pos e]
    · rw [if_neg e, if_neg e]; rfl, fun _ _ _ => rfl⟩
def rdA (b : BF) : Int32 := if prok b then (if csn (prs b).1 (prD b) (prs b).2 then nI (prs b).1 else -8) else -1000 - nI (prs b).2.1.1
theorem s_readInput (d : Nat) (I : aI) (J : aJ) (b : BF) (hb : CBuf b I) (W : BW b) : Sp m_X2_readInput (d + 7) [.ref 80] E0 I J (fun r I' J' => r = some (.int (rdA b)) ∧ J' = J ∧ (I' 80 3 = nI (prs b).1 ∧ I' 80 4 = nI (prD b) ∧ (∀ k, k < 60 → I' 84 k = nI ((prs b).2.2.2.1 k)) ∧ ∀ k, k < (prs b).1 → I' 83 k = nI ((prs b).2.2.1 k)) ∧ ∀ q, q ≠ 80 → q ≠ 84 → q ≠ 83 → I' q = I q) := by
  refine Sp.of (lo := [some (.ref 80)]) rfl (fun Q hQ => ?_)
  refine Ez.blk B_X2_readInput_0 (lo' := [some (.ref 80)]) (st' := [.ref 80]) (I' := I) (J' := J) (Ps := []) rfl trivial ?_
  refine Ez.callV (As := []) (b := 80) (rest := []) kn_X2_clear ml_2_25 im_X2_clear se_X2_clear rfl (by decide +kernel) rfl rfl (Nat.le_of_ble_eq_true rfl) (Nat.le_of_ble_eq_true rfl) o_80 (s_clear _ I J) (fun r I1 J1 hq => ?_)
  obtain ⟨rfl, rfl, k1, k2⟩ := hq
  have b1 := CBuf_E hb k2
  refine Ez.blk B_X2_readInput_4 (lo' := [some (.ref 80)]) (st' := [.int 2, .ref 80, .ref 80]) (I' := I1) (J' := J1) (Ps := []) rfl trivial ?_
  refine Ez.callV (As := [.int 2]) (b := 80) (rest := [.ref 80]) kn_X2_takeNumber ml_2_28 im_X2_takeNumber se_X2_takeNumber rfl (by decide +kernel) rfl rfl (Nat.le_of_ble_eq_true rfl) (Nat.le_of_ble_eq_true rfl) o_80 (s_num2 _ I1 J1 b b1 W (0, 0) ⟨Nat.zero_le _, Nat.zero_le _⟩ k1.1) (fun r I2 J2 hq => ?_)
  obtain ⟨rfl, rfl, k3, k4⟩ := hq
  have b2 := CBuf_E b1 (FrE_p k4)
  have r2 := RX_p k1 k4 k3
  have ok2 : PO b (pn b 2 (0, 0)).2 := (pn_ok ⟨Nat.zero_le _, Nat.zero_le _⟩).1
  have hD : prD b ≤ 99 := (pn_ok ⟨Nat.zero_le _, Nat.zero_le _⟩).2
  refine Ez.blk B_X2_readInput_10 (lo' := [some (.ref 80)]) (st' := [.int 58, .ref 80]) (I' := (aUp I2 80 4 (nI (prD b)))) (J' := J2) (Ps := [aO E0 80 2]) rfl o_80 ?_
  generalize hI3 : (aUp I2 80 4 (nI (prD b))) = I3
  have q4 : I3 80 4 = nI (prD b) := by rw [← hI3, aUp_eq]
  have q5 : ∀ q, q ≠ 80 → I3 q = I2 q := fun q hq => by rw [← hI3, aUp_ne hq]
  have q6 : ∀ k, k ≠ 4 → I3 80 k = I2 80 k := fun k hk => by rw [← hI3, aUp_nk hk]
  have b3 : CBuf b I3 := CBuf_fr b2 (q5 81 (by decide)) (q5 82 (by decide))
  have r3 : RX I3 ((pn b 2 (0, 0)).2, (fun _ => 0), (fun _ => 0), 0) := ⟨⟨by rw [q6 1 (by decide)]; exact r2.1.1, by rw [q6 2 (by decide)]; exact r2.1.2⟩, by rw [q6 5 (by decide)]; exact r2.2.1, fun k hk => by rw [q5 84 (by decide)]; exact r2.2.2 k hk⟩
  refine Ez.callV (As := [.int 58]) (b := 80) (rest := []) kn_X2_take ml_2_36 im_X2_take se_X2_take rfl (by decide +kernel) rfl rfl (Nat.le_of_ble_eq_true rfl) (Nat.le_of_ble_eq_true rfl) o_80 (s_take _ I3 J2 b b3 W (pn b 2 (0, 0)).2 ok2 r3.1 58 (by decide)) (fun r I4 J4 hq => ?_)
  obtain ⟨rfl, rfl, k5, k6⟩ := hq
  have b4 := CBuf_E b3 (FrE_p k6)
  have r4 := RX_p r3 k6 k5
  refine Ez.blk B_X2_readInput_19 (lo' := [some (.ref 80)]) (st' := [.ref 80]) (I' := I4) (J' := J4) (Ps := []) rfl trivial ?_
  refine Ez.callV (As := []) (b := 80) (rest := []) kn_X2_readStates ml_2_40 im_X2_readStates se_X2_readStates rfl (by decide +kernel) rfl rfl (Nat.le_of_ble_eq_true rfl) (Nat.le_of_ble_eq_true rfl) o_80 (s_states _ I4 J4 b b4 W (pt b 58 (pn b 2 (0, 0)).2, (fun _ => 0), (fun _ => 0), 0) prs_0 r4) (fun r I5 J5 hq => ?_)
  obtain ⟨rfl, rfl, k7, k8, k9, k10, k11⟩ := hq
  have e4 : I5 80 4 = nI (prD b) := by rw [k11, k6.2 4 (by decide) (by decide)]; exact q4
  rw [prs_e] at k7 k8 k9
  have fr : ∀ q, q ≠ 80 → q ≠ 84 → q ≠ 83 → I5 q = I q := fun q h0 h1 h2 => by rw [k10 q h0 h1 h2, k6.1 q h0, q5 q h0, k4.1 q h0, k2.1 q h0 h1]
  have b5 : CBuf b I5 := CBuf_fr hb (fr 81 (by decide) (by decide) (by decide)) (fr 82 (by decide) (by decide) (by decide))
  have po := (prs_ok (b := b)).1
  have w80 := W.1
  have sz := prs_sz (b := b)
  refine Ez.blk B_X2_readInput_23 (lo' := [some (.ref 80)]) (st' := [.int (I5 80 2)]) (I' := I5) (J' := J5) (Ps := [aO E0 80 2]) rfl o_80 ?_
  refine Ez.n_if_ne (off := 17) (tgt := 44) (by decide +kernel) (by decide) (a := (prs b).2.1.2) k7.1.2 (by omega) (fun h => ?_) (fun h => ?_)
  · refine Ez.blk B_X2_readInput_44 (lo' := [some (.ref 80)]) (st' := [.int ((-1000) - I5 80 1)]) (I' := I5) (J' := J5) (Ps := [aO E0 80 2]) rfl o_80 ?_
    rw [k7.1.1]
    exact Ez.iret rfl (by decide +kernel) (hQ _ _ _ ⟨by unfold rdA; rw [if_neg (fun z => h z.1)], rfl, ⟨k8, e4, k7.2.2, k9⟩, fr⟩)
  · refine Ez.blk B_X2_readInput_30 (lo' := [some (.ref 80)]) (st' := [.int (I5 81 0), .int (I5 80 1)]) (I' := I5) (J' := J5) (Ps := [aO E0 80 2, aO E0 80 2 ∧ E0.2.2 80 0 ≠ 0, aO E0 81 5]) rfl ⟨o_80, r_80_0, o_81⟩ ?_
    refine Ez.n_icmp_ge (off := 12) (tgt := 53) (by decide +kernel) (by decide) (a := (prs b).2.1.1) (b := b.1) k7.1.1 b5.1 (by omega) (by omega) (fun h2 => ?_) (fun h2 => ?_)
    · refine Ez.blk B_X2_readInput_53 (lo' := [some (.ref 80)]) (st' := [.ref 80]) (I' := I5) (J' := J5) (Ps := []) rfl trivial ?_
      refine Ez.callV (As := []) (b := 80) (rest := []) kn_X2_isConsistent ml_2_53 im_X2_isConsistent se_X2_isConsistent rfl (by decide +kernel) rfl rfl (Nat.le_of_ble_eq_true rfl) (Nat.le_of_ble_eq_true rfl) o_80 (s_csn _ I5 J5 (prs b).1 (prD b) (prs b).2 sz hD k8 e4 k7.2.1 (prs_ok (b := b)).2.1 k7.2.2 (prs_W W) k9 prs_lb) (fun r I6 J6 hq => ?_)
      obtain ⟨rfl, rfl, rfl⟩ := hq
      refine Ez.z_if_eq (off := 10) (tgt := 67) (by decide +kernel) (by decide) (fun h3 => ?_) (fun h3 => ?_)
      · refine Ez.blk B_X2_readInput_67 (lo' := [some (.ref 80)]) (st' := [.int (-8)]) (I' := I6) (J' := J6) (Ps := []) rfl trivial ?_
        exact Ez.iret rfl (by decide +kernel) (hQ _ _ _ ⟨by unfold rdA; rw [if_pos ⟨h, by omega⟩, if_neg h3], rfl, ⟨k8, e4, k7.2.2, k9⟩, fr⟩)
      · refine Ez.blk B_X2_readInput_60 (lo' := [some (.ref 80)]) (st' := [.int (I6 80 3)]) (I' := I6) (J' := J6) (Ps := [aO E0 80 2]) rfl o_80 ?_
        rw [k8]
        exact Ez.iret rfl (by decide +kernel) (hQ _ _ _ ⟨by unfold rdA; rw [if_pos ⟨h, by omega⟩, if_pos h3], rfl, ⟨k8, e4, k7.2.2, k9⟩, fr⟩)
    · refine Ez.blk B_X2_readInput_44 (lo' := [some (.ref 80)]) (st' := [.int ((-1000) - I5 80 1)]) (I' := I5) (J' := J5) (Ps := [aO E0 80 2]) rfl o_80 ?_
      rw [k7.1.1]
      exact Ez.iret rfl (by decide +kernel) (hQ _ _ _ ⟨by unfold rdA; rw [if_neg (fun z => z.2 h2)], rfl, ⟨k8, e4, k7.2.2, k9⟩, fr⟩)
theorem rdA_pos {b : BF} (W : BW b) : 0 < rdA b ↔ prok b ∧ csn (prs b).1 (prD b) (prs b).2 := by
  have sz := prs_sz (b := b)
  have po := (prs_ok (b := b)).1.1
  have w80 := W.1
  unfold rdA
  by_cases e : prok b
  · rw [if_pos e]
    by_cases e2 : csn (prs b).1 (prD b) (prs b).2
    · rw [if_pos e2]; exact ⟨fun _ => ⟨e, e2⟩, fun _ => nI_lt (a := 0) (by omega) (by omega)⟩
    · rw [if_neg e2]; exact ⟨fun q => absurd q (by decide), fun q => absurd q.2 e2⟩
  · rw [if_neg e]
    refine ⟨fun q => absurd q ?_, fun q => absurd q.1 e⟩
    have : ∀ m, m ≤ 80 → ¬ (0 : Int32) < -1000 - nI m := by decide +kernel
    exact this _ (by omega)
theorem f_parse_1 (T : TS) : (f_parse T).1 = rdA T.2.2.2.1 := by
  unfold f_parse rdA
  by_cases e : prok T.2.2.2.1
  · rw [if_pos e, if_pos e]
    by_cases e2 : csn (prs T.2.2.2.1).1 (prD T.2.2.2.1) (prs T.2.2.2.1).2
    · rw [if_pos e2, if_pos e2]
    · rw [if_neg e2, if_neg e2]
  · rw [if_neg e, if_neg e]
theorem f_parse_no {T : TS} (h : ¬ (prok T.2.2.2.1 ∧ csn (prs T.2.2.2.1).1 (prD T.2.2.2.1) (prs T.2.2.2.1).2)) : (f_parse T).2 = setB T (0, T.2.2.2.1.2) := by
  unfold f_parse
  by_cases e : prok T.2.2.2.1
  · rw [if_pos e, if_neg (fun q => h ⟨e, q⟩)]
  · rw [if_neg e]
theorem f_parse_yes {T : TS} (h : prok T.2.2.2.1 ∧ csn (prs T.2.2.2.1).1 (prD T.2.2.2.1) (prs T.2.2.2.1).2) : (f_parse T).2 = (prc T.1 (prs T.2.2.2.1).1 (prD T.2.2.2.1) (prs T.2.2.2.1).2, (0, T.2.1.2), T.2.2.1, (0, T.2.2.2.1.2), T.2.2.2.2) := by
  unfold f_parse
  rw [if_pos h.1, if_pos h.2]
/-- what the reader's rows are to nobody -/
theorem CP_r {T : TS} {I I' : aI} {J : aJ} (h : CP T I J) (hI : ∀ q, q ≠ 80 → q ≠ 84 → q ≠ 83 → I' q = I q) : CP T I' J := ⟨Ch_eq h.1 (hI _ (by omega) (by omega) (by omega)) (hI _ (by omega) (by omega) (by omega)) (hI _ (by omega) (by omega) (by omega)), CEd_fr h.2.1 (fun b _ => hI b (by omega) (by omega) (by omega)), CSn_fr h.2.2.1 (hI _ (by omega) (by omega) (by omega)) (fun b _ _ => hI b (by omega) (by omega) (by omega)), CBuf_fr h.2.2.2.1 (hI _ (by omega) (by omega) (by omega)) (hI _ (by omega) (by omega) (by omega)), CSl_fr h.2.2.2.2.1 (hI _ (by omega) (by omega) (by omega)) (hI _ (by omega) (by omega) (by omega)) (fun _ _ _ => rfl), CCa_fr h.2.2.2.2.2 (fun b _ _ => hI b (by omega) (by omega) (by omega)) (fun _ _ _ => rfl)⟩
theorem c_parse (d : Nat) (I : aI) (J : aJ) (T : TS) (W : WT T) (hP : CP T I J) : Sp m_X9_parse (d + 8) [.ref 1] E0 I J (fun r I' J' => r = some (.int (f_parse T).1) ∧ CP (f_parse T).2 I' J' ∧ Fr9 I I' J J') := by
  refine Sp.of (lo := [some (.ref 1), none]) rfl (fun Q hQ => ?_)
  have Wb : BW T.2.2.2.1 := W.2.2.2.1
  have sz := prs_sz (b := T.2.2.2.1)
  refine Ez.blk B_X9_parse_0 (lo' := [some (.ref 1), none]) (st' := [.ref 80]) (I' := I) (J' := J) (Ps := [aO E0 1 9 ∧ E0.2.2 1 8 ≠ 0]) rfl r_1_8 ?_
  refine Ez.callV (As := []) (b := 80) (rest := []) kn_X2_readInput ml_9_243 im_X2_readInput se_X2_readInput rfl (by decide +kernel) rfl rfl (Nat.le_of_ble_eq_true rfl) (Nat.le_of_ble_eq_true rfl) o_80 (s_readInput _ I J T.2.2.2.1 hP.2.2.2.1 Wb) (fun r I1 J1 hq => ?_)
  obtain ⟨rfl, rfl, ⟨k1, k2, k3, k4⟩, k5⟩ := hq
  have P1 := CP_r hP k5
  refine Ez.blk B_X9_parse_7 (lo' := [some (.ref 1), some (.int (rdA T.2.2.2.1))]) (st' := [.int (rdA T.2.2.2.1)]) (I' := I1) (J' := J1) (Ps := []) rfl trivial ?_
  refine Ez.if_le (off := 21) (tgt := 30) (by decide +kernel) (by decide) (fun h => ?_) (fun h => ?_)
  · refine Ez.blk B_X9_parse_30 (lo' := [some (.ref 1), some (.int (rdA T.2.2.2.1))]) (st' := [.ref 81]) (I' := I1) (J' := J1) (Ps := [aO E0 1 9 ∧ E0.2.2 1 9 ≠ 0]) rfl r_1_9 ?_
    refine Ez.callV (As := []) (b := 81) (rest := []) kn_X5_empty ml_9_223 im_X5_empty se_X5_empty rfl (by decide +kernel) rfl rfl (Nat.le_of_ble_eq_true rfl) (Nat.le_of_ble_eq_true rfl) o_81 (s_emptyB _ I1 J1 T.2.2.2.1.2) (fun r I2 J2 hq => ?_)
    obtain ⟨rfl, rfl, e1, e2⟩ := hq
    refine Ez.blk B_X9_parse_37 (lo' := [some (.ref 1), some (.int (rdA T.2.2.2.1))]) (st' := [.int (rdA T.2.2.2.1)]) (I' := I2) (J' := J2) (Ps := []) rfl trivial ?_
    exact Ez.iret rfl (by decide +kernel) (hQ _ _ _ (by rw [f_parse_1, f_parse_no (fun q => i32_nlt.mpr h ((rdA_pos Wb).mpr q))]; exact ⟨rfl, CP_b P1 e1 (fun q h0 _ => e2 q h0), fun b hb => ⟨by rw [e2 b (by omega), k5 b (by omega) (by omega) (by omega)], rfl⟩⟩))
  · have hy := (rdA_pos Wb).mp (Classical.not_not.mp (fun q => h (i32_nlt.mp q)))
    refine Ez.blk B_X9_parse_12 (lo' := [some (.ref 1), some (.int (rdA T.2.2.2.1))]) (st' := [.ref 2, .ref 80]) (I' := I1) (J' := J1) (Ps := [aO E0 1 9 ∧ E0.2.2 1 8 ≠ 0, aO E0 1 9 ∧ E0.2.2 1 0 ≠ 0]) rfl ⟨r_1_8, r_1_0⟩ ?_
    refine Ez.callV (As := [.ref 2]) (b := 80) (rest := []) kn_X2_writeTo ml_9_246 im_X2_writeTo se_X2_writeTo rfl (by decide +kernel) rfl rfl (Nat.le_of_ble_eq_true rfl) (Nat.le_of_ble_eq_true rfl) o_80 (s_writeTo _ I1 J1 T.1 P1.1 (prs T.2.2.2.1).1 (prD T.2.2.2.1) (prs T.2.2.2.1).2 sz k1 k2 k3 k4) (fun r I2 J2 hq => ?_)
    obtain ⟨rfl, rfl, m1, m2⟩ := hq
    have d2 : CEd T.2.1 I2 := CEd_fr P1.2.1 (fun b hb => m2 b (by omega))
    refine Ez.blk B_X9_parse_23 (lo' := [some (.ref 1), some (.int (rdA T.2.2.2.1))]) (st' := [.ref 11]) (I' := I2) (J' := J2) (Ps := [aO E0 1 9 ∧ E0.2.2 1 4 ≠ 0]) rfl r_1_4 ?_
    refine Ez.callV (As := []) (b := 11) (rest := []) kn_X4_forgetAll ml_9_89 im_X4_forgetAll se_X4_forgetAll rfl (by decide +kernel) rfl rfl (Nat.le_of_ble_eq_true rfl) (Nat.le_of_ble_eq_true rfl) o_11 (s_forget _ I2 J2 T.2.1 d2) (fun r I3 J3 hq => ?_)
    obtain ⟨rfl, rfl, m3, m4⟩ := hq
    have P3 : CP (prc T.1 (prs T.2.2.2.1).1 (prD T.2.2.2.1) (prs T.2.2.2.1).2, (0, T.2.1.2), T.2.2) I3 J3 := CP_ed P1 (Ch_eq m1 (m4 2 (by decide)) (m4 3 (by decide)) (m4 4 (by decide))) m3 (fun q g0 g1 g5 => by rw [m4 q (by omega), m2 q g0])
    refine Ez.blk B_X9_parse_30 (lo' := [some (.ref 1), some (.int (rdA T.2.2.2.1))]) (st' := [.ref 81]) (I' := I3) (J' := J3) (Ps := [aO E0 1 9 ∧ E0.2.2 1 9 ≠ 0]) rfl r_1_9 ?_
    refine Ez.callV (As := []) (b := 81) (rest := []) kn_X5_empty ml_9_223 im_X5_empty se_X5_empty rfl (by decide +kernel) rfl rfl (Nat.le_of_ble_eq_true rfl) (Nat.le_of_ble_eq_true rfl) o_81 (s_emptyB _ I3 J3 T.2.2.2.1.2) (fun r I4 J4 hq => ?_)
    obtain ⟨rfl, rfl, e1, e2⟩ := hq
    refine Ez.blk B_X9_parse_37 (lo' := [some (.ref 1), some (.int (rdA T.2.2.2.1))]) (st' := [.int (rdA T.2.2.2.1)]) (I' := I4) (J' := J4) (Ps := []) rfl trivial ?_
    exact Ez.iret rfl (by decide +kernel) (hQ _ _ _ (by rw [f_parse_1, f_parse_yes hy]; exact ⟨rfl, CP_b P3 e1 (fun q h0 _ => e2 q h0), fun b hb => ⟨by rw [e2 b (by omega), m4 b (by omega), m2 b (by omega), k5 b (by omega) (by omega) (by omega)], rfl⟩⟩))

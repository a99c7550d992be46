/-! PARSE: the whole text -/
theorem pes_lab {b : BF} {s : Nat} : ∀ (n : Nat) {x : PX}, (pes b s n x).2.1 = x.2.1
  | 0, x => rfl
  | n + 1, x => by
    unfold pes
    by_cases e : tip b 44 x.1
    · rw [if_pos e, pes_lab n, es_lab]
    · rw [if_neg e]
theorem pst_lab {b : BF} {s : Nat} {x : PX} : (pst b s x).2.1 = cup x.2.1 s (pn b 1 x.1).1 := by unfold pst; rw [pes_lab, es_lab]
theorem psts_sz {b : BF} : ∀ (r n : Nat) {x : PX}, 1 ≤ r → n + 1 ≤ (psts b r n x).1 ∧ (psts b r n x).1 ≤ n + r
  | 0, n, x, h => by omega
  | r + 1, n, x, h => by
    unfold psts
    by_cases e : ¬ r = 0 ∧ tip b 59 (pst b n x).1
    · rw [if_pos e]
      have := psts_sz (b := b) r (n + 1) (x := (pi b 59 (pst b n x).1, (pst b n x).2)) (by omega)
      omega
    · rw [if_neg e]; exact ⟨Nat.le_refl _, by show n + 1 ≤ n + (r + 1); omega⟩
/-- the parsed chain is one -/
abbrev csn (n D : Nat) (x : PX) : Prop := ((1 ≤ D ∧ D ≤ 12) ∧ x.2.2.2 < n) ∧ ∀ s, s < n → sm (fun t => x.2.2.1 (10 * s + t)) n = D ∧ x.2.1 s ≤ 3
/-- the parsed chain -/
def prc (c : Nat → Nat) (n D : Nat) (x : PX) : Nat → Nat := fun k => if k = 0 then n else if k = 1 then D else if k < 4 then c k else if k < 10 then (if k - 4 < n then x.2.1 (k - 4) else 0) else if (k - 10) / 6 < n ∧ (k - 10) % 6 < n then x.2.2.1 (10 * ((k - 10) / 6) + (k - 10) % 6) else 0
abbrev prD (b : BF) : Nat := (pn b 2 (0, 0)).1
abbrev prok (b : BF) : Prop := (prs b).2.1.2 = 0 ∧ ¬ (prs b).2.1.1 < b.1
def f_parse (T : TS) : Int32 × TS := if prok T.2.2.2.1 then (if csn (prs T.2.2.2.1).1 (prD T.2.2.2.1) (prs T.2.2.2.1).2 then (nI (prs T.2.2.2.1).1, (prc T.1 (prs T.2.2.2.1).1 (prD T.2.2.2.1) (prs T.2.2.2.1).2, (0, T.2.1.2), T.2.2.1, (0, T.2.2.2.1.2), T.2.2.2.2)) else (-8, setB T (0, T.2.2.2.1.2))) else (-1000 - nI (prs T.2.2.2.1).2.1.1, setB T (0, T.2.2.2.1.2))
theorem prs_0 {b : BF} : XO b (pt b 58 (pn b 2 (0, 0)).2, (fun _ => 0), (fun _ => 0), 0) := ⟨pt_ok (pn_ok ⟨Nat.zero_le _, Nat.zero_le _⟩).1, Nat.zero_le _, fun k => Nat.zero_le _⟩
theorem prs_e {b : BF} : psts b 6 0 (pt b 58 (pn b 2 (0, 0)).2, (fun _ => 0), (fun _ => 0), 0) = prs b := by unfold prs; rfl
theorem prs_ok {b : BF} : XO b (prs b).2 := by
  rw [← prs_e]
  exact psts_ok 6 0 (x := (pt b 58 (pn b 2 (0, 0)).2, (fun _ => 0), (fun _ => 0), 0)) prs_0
theorem prs_sz {b : BF} : 1 ≤ (prs b).1 ∧ (prs b).1 ≤ 6 := by
  have := psts_sz (b := b) 6 0 (x := (pt b 58 (pn b 2 (0, 0)).2, (fun _ => 0), (fun _ => 0), 0)) (by omega)
  rw [prs_e] at this
  omega
theorem prs_W {b : BF} (h : BW b) (k : Nat) : (prs b).2.2.2.1 k ≤ 7920 := by
  have h1 := (prs_ok (b := b)).2.2 k
  have h2 := (prs_ok (b := b)).1.1
  have h3 := h.1
  omega
theorem prs_lab {b : BF} : ∀ (r n : Nat) {x : PX}, (∀ k, k < n → x.2.1 k ≤ 9) → ∀ k, k < (psts b r n x).1 → (psts b r n x).2.2.1 k ≤ 9
  | 0, n, x, h => h
  | r + 1, n, x, h => by
    have h2 : ∀ k, k < n + 1 → (pst b n x).2.1 k ≤ 9 := fun k hk => by
      rw [pst_lab]
      by_cases e : k = n
      · rw [e, cup_eq]; exact pn1_9
      · rw [cup_ne e]; exact h k (by omega)
    unfold psts
    by_cases e : ¬ r = 0 ∧ tip b 59 (pst b n x).1
    · rw [if_pos e]; exact prs_lab r (n + 1) h2
    · rw [if_neg e]; exact h2
theorem prs_lb {b : BF} : ∀ k, k < (prs b).1 → (prs b).2.2.1 k ≤ 9 := by
  rw [← prs_e]
  exact prs_lab 6 0 (x := (pt b 58 (pn b 2 (0, 0)).2, (fun _ => 0), (fun _ => 0), 0)) (fun k hk => by omega)
theorem s_clear (d : Nat) (I : aI) (J : aJ) : Sp m_X2_clear (d + 1) [.ref 80] E0 I J (fun r I' J' => r = none ∧ J' = J ∧ RX I' ((0, 0), (fun _ => 0), (fun _ => 0), 0) ∧ FrE I I') := by
  refine Sp.of (lo := [some (.ref 80), none]) rfl (fun Q hQ => ?_)
  obtain ⟨I0, hI0⟩ : ∃ I0, I0 = aUp (aUp (aUp I 80 1 0) 80 2 0) 80 5 0 := ⟨_, rfl⟩
  have L1 : ∀ k, k ≤ 60 → ∀ (I1 : aI), ((∀ j, j < k → I1 84 j = 0) ∧ ∀ q, q ≠ 84 → I1 q = I0 q) → Ez m_X2_clear (d + 1) 17 [some (.ref 80), some (.int (nI k))] [] E0 I1 J Q := by
    refine for_up ?_ ?_
    · intro I1 hi
      refine Ez.blk B_X2_clear_17 (lo' := [some (.ref 80), some (.int (nI 60))]) (st' := [.int 60, .int (nI 60)]) (I' := I1) (J' := J) (Ps := []) rfl trivial ?_
      refine Ez.n_icmp_ge (off := 16) (tgt := 36) (by decide +kernel) (by decide) (a := 60) (b := 60) rfl rfl (by omega) (by omega) (fun h => ?_) (fun h => absurd h (by omega))
      exact Ez.vret rfl (by decide +kernel) (hQ _ _ _ ⟨rfl, rfl, ⟨⟨by rw [hi.2 80 (by decide), hI0, aUp_nk (by decide), aUp_nk (by decide), aUp_eq]; rfl, by rw [hi.2 80 (by decide), hI0, aUp_nk (by decide), aUp_eq]; rfl⟩, by rw [hi.2 80 (by decide), hI0, aUp_eq]; rfl, fun k hk => by rw [hi.1 k hk]; rfl⟩, fun q h0 h1 => by rw [hi.2 q h1, hI0, aUp_ne h0, aUp_ne h0, aUp_ne h0], fun k h1 h2 h5 => by rw [hi.2 80 (by decide), hI0, aUp_nk h5, aUp_nk h2, aUp_nk h1]⟩)
    · intro k hk ih I1 hi
      refine Ez.blk B_X2_clear_17 (lo' := [some (.ref 80), some (.int (nI k))]) (st' := [.int 60, .int (nI k)]) (I' := I1) (J' := J) (Ps := []) rfl trivial ?_
      refine Ez.n_icmp_ge (off := 16) (tgt := 36) (by decide +kernel) (by decide) (a := k) (b := 60) rfl rfl (by omega) (by omega) (fun h => absurd h (by omega)) (fun h => ?_)
      refine Ez.blk B_X2_clear_23 (lo' := [some (.ref 80), some (.int (nI k + 1))]) (st' := []) (I' := (aUp I1 84 ((nI k).toNatClampNeg) 0)) (J' := J) (Ps := [aO E0 80 2 ∧ E0.2.2 80 7 ≠ 0, aAr E0 1 84 (nI k)]) rfl ⟨r_80_7, (a_84 (vin (n := k) rfl (by omega) (by decide)))⟩ ?_
      rw [cln (x := nI k) (n := k) rfl (by omega)]
      rw [show (nI k + 1) = nI (k + 1) from (eq_add (a := k) (b := 1) rfl rfl)]
      exact ih _ ⟨fun j hj => by
        by_cases e : j = k
        · rw [e, aUp_eq]
        · rw [aUp_nk e]; exact hi.1 j (by omega), fun q hq => by rw [aUp_ne hq]; exact hi.2 q hq⟩
  refine Ez.blk B_X2_clear_0 (lo' := [some (.ref 80), some (.int 0)]) (st' := []) (I' := (aUp (aUp (aUp I 80 1 0) 80 2 0) 80 5 0)) (J' := J) (Ps := [aO E0 80 2, aO E0 80 2 ∧ (0 = 0 ∨ 0 = 1), aO E0 80 2]) rfl ⟨o_80, ⟨o_80, (Or.inl rfl)⟩, o_80⟩ ?_
  rw [← hI0]
  exact L1 0 (by omega) I0 ⟨fun j hj => by omega, fun _ _ => rfl⟩
theorem s_states (d : Nat) (I : aI) (J : aJ) (b : BF) (hb : CBuf b I) (W : BW b) (x : PX) (hx : XO b x) (hr : RX I x) : Sp m_X2_readStates (d + 6) [.ref 80] E0 I J (fun r I' J' => r = none ∧ J' = J ∧ RX I' (psts b 6 0 x).2 ∧ I' 80 3 = nI (psts b 6 0 x).1 ∧ (∀ k, k < (psts b 6 0 x).1 → I' 83 k = nI ((psts b 6 0 x).2.2.1 k)) ∧ (∀ q, q ≠ 80 → q ≠ 84 → q ≠ 83 → I' q = I q) ∧ I' 80 4 = I 80 4) := by
  refine Sp.of (lo := [some (.ref 80), none]) rfl (fun Q hQ => ?_)
  have fin : ∀ (I1 : aI) (n : Nat) (y : PX), RX I1 y → I1 80 3 = nI n → (∀ k, k < n → I1 83 k = nI (y.2.1 k)) → (∀ q, q ≠ 80 → q ≠ 84 → q ≠ 83 → I1 q = I q) → I1 80 4 = I 80 4 → psts b 6 0 x = (n, y) → Ez m_X2_readStates (d + 6) 7 [some (.ref 80), some (.int 0)] [] E0 I1 J Q := by
    intro I1 n y y1 y2 y3 y4 y5 y6
    refine Ez.blk B_X2_readStates_7 (lo' := [some (.ref 80), some (.int 0)]) (st' := [.int 0]) (I' := I1) (J' := J) (Ps := []) rfl trivial ?_
    refine Ez.n_if_eq (off := 57) (tgt := 65) (by decide +kernel) (by decide) (a := 0) rfl (by omega) (fun h => ?_) (fun h => absurd rfl h)
    exact Ez.vret rfl (by decide +kernel) (hQ _ _ _ ⟨rfl, rfl, by rw [y6]; exact y1, by rw [y6]; exact y2, by rw [y6]; exact y3, y4, y5⟩)
  have L1 : ∀ r, ∀ (n : Nat) (I1 : aI) (y : PX), (r + 1 + n = 6 ∧ XO b y ∧ RX I1 y ∧ I1 80 3 = nI n ∧ (∀ k, k < n → I1 83 k = nI (y.2.1 k)) ∧ (∀ q, q ≠ 80 → q ≠ 84 → q ≠ 83 → I1 q = I q) ∧ I1 80 4 = I 80 4 ∧ psts b 6 0 x = psts b (r + 1) n y) → Ez m_X2_readStates (d + 6) 7 [some (.ref 80), some (.int 1)] [] E0 I1 J Q := by
    intro r
    induction r with
    | zero =>
      intro n I1 y ⟨y0, y1, y2, y3, y4, y5, y6, y7⟩
      have b1 : CBuf b I1 := CBuf_fr hb (y5 81 (by decide) (by decide) (by decide)) (y5 82 (by decide) (by decide) (by decide))
      refine Ez.blk B_X2_readStates_7 (lo' := [some (.ref 80), some (.int 1)]) (st' := [.int 1]) (I' := I1) (J' := J) (Ps := []) rfl trivial ?_
      refine Ez.n_if_eq (off := 57) (tgt := 65) (by decide +kernel) (by decide) (a := 1) rfl (by omega) (fun h => absurd h (by decide)) (fun h => ?_)
      refine Ez.blk B_X2_readStates_11 (lo' := [some (.ref 80), some (.int 1)]) (st' := [.int 6, .int (I1 80 3)]) (I' := I1) (J' := J) (Ps := [aO E0 80 2]) rfl o_80 ?_
      refine Ez.n_icmp_ge (off := 48) (tgt := 65) (by decide +kernel) (by decide) (a := n) (b := 6) y3 rfl (by omega) (by omega) (fun h => absurd h (by omega)) (fun h => ?_)
      refine Ez.blk B_X2_readStates_20 (lo' := [some (.ref 80), some (.int 1)]) (st' := [.int (I1 80 3), .ref 80]) (I' := I1) (J' := J) (Ps := [aO E0 80 2]) rfl o_80 ?_
      rw [y3]
      refine Ez.callV (As := [.int (nI n)]) (b := 80) (rest := []) kn_X2_readState ml_2_63 im_X2_readState se_X2_readState rfl (by decide +kernel) rfl rfl (Nat.le_of_ble_eq_true rfl) (Nat.le_of_ble_eq_true rfl) o_80 (s_state _ I1 J b b1 W y y1 y2 n (by omega)) (fun r I2 J2 hq => ?_)
      obtain ⟨rfl, rfl, k1, k2, k3, k4, k5⟩ := hq
      have z3 : I2 80 3 = nI n := by rw [k5 3 (by decide) (by decide) (by decide)]; exact y3
      refine Ez.blk B_X2_readStates_28 (lo' := [some (.ref 80), some (.int 1)]) (st' := [.int 6, .int (I2 80 3 + 1)]) (I' := (aUp I2 80 3 (I2 80 3 + 1))) (J' := J2) (Ps := [aO E0 80 2, aO E0 80 2, aO E0 80 2]) rfl ⟨o_80, o_80, o_80⟩ ?_
      refine Ez.n_icmp_ge (off := 16) (tgt := 60) (by decide +kernel) (by decide) (a := (n + 1)) (b := 6) (eq_add (a := n) (b := 1) z3 rfl) rfl (by omega) (by omega) (fun h => ?_) (fun h => absurd h (by omega))
      generalize hI3 : (aUp I2 80 3 (I2 80 3 + 1)) = I3
      have q3 : I3 80 3 = nI (n + 1) := by rw [← hI3, aUp_eq]; exact eq_add (a := n) (b := 1) z3 rfl
      have q4 : ∀ q, q ≠ 80 → I3 q = I2 q := fun q hq => by rw [← hI3, aUp_ne hq]
      have q5 : ∀ k, k ≠ 3 → I3 80 k = I2 80 k := fun k hk => by rw [← hI3, aUp_nk hk]
      have q6 : RX I3 (pst b n y) := ⟨⟨by rw [q5 1 (by decide)]; exact k1.1.1, by rw [q5 2 (by decide)]; exact k1.1.2⟩, by rw [q5 5 (by decide)]; exact k1.2.1, fun k hk => by rw [q4 84 (by decide)]; exact k1.2.2 k hk⟩
      have q7 : ∀ k, k < n + 1 → I3 83 k = nI ((pst b n y).2.1 k) := fun k hk => by
        rw [q4 83 (by decide)]
        by_cases e : k = n
        · rw [e]; exact k2
        · rw [k3 k e, pst_lab, cup_ne e]; exact y4 k (by omega)
      have q8 : ∀ q, q ≠ 80 → q ≠ 84 → q ≠ 83 → I3 q = I q := fun q h0 h1 h2 => by rw [q4 q h0, k4 q h0 h1 h2]; exact y5 q h0 h1 h2
      have q9 : I3 80 4 = I 80 4 := by rw [q5 4 (by decide), k5 4 (by decide) (by decide) (by decide)]; exact y6
      have q10 := pst_ok (s := n) y1
      refine Ez.blk B_X2_readStates_60 (lo' := [some (.ref 80), some (.int 0)]) (st' := []) (I' := I3) (J' := J2) (Ps := []) rfl trivial ?_
      exact fin I3 (n + 1) (pst b n y) q6 q3 q7 q8 q9 (by rw [y7]; show (if ¬ 0 = 0 ∧ _ then _ else _) = _; rw [if_neg (fun q => q.1 rfl)])
    | succ r ih =>
      intro n I1 y ⟨y0, y1, y2, y3, y4, y5, y6, y7⟩
      have b1 : CBuf b I1 := CBuf_fr hb (y5 81 (by decide) (by decide) (by decide)) (y5 82 (by decide) (by decide) (by decide))
      refine Ez.blk B_X2_readStates_7 (lo' := [some (.ref 80), some (.int 1)]) (st' := [.int 1]) (I' := I1) (J' := J) (Ps := []) rfl trivial ?_
      refine Ez.n_if_eq (off := 57) (tgt := 65) (by decide +kernel) (by decide) (a := 1) rfl (by omega) (fun h => absurd h (by decide)) (fun h => ?_)
      refine Ez.blk B_X2_readStates_11 (lo' := [some (.ref 80), some (.int 1)]) (st' := [.int 6, .int (I1 80 3)]) (I' := I1) (J' := J) (Ps := [aO E0 80 2]) rfl o_80 ?_
      refine Ez.n_icmp_ge (off := 48) (tgt := 65) (by decide +kernel) (by decide) (a := n) (b := 6) y3 rfl (by omega) (by omega) (fun h => absurd h (by omega)) (fun h => ?_)
      refine Ez.blk B_X2_readStates_20 (lo' := [some (.ref 80), some (.int 1)]) (st' := [.int (I1 80 3), .ref 80]) (I' := I1) (J' := J) (Ps := [aO E0 80 2]) rfl o_80 ?_
      rw [y3]
      refine Ez.callV (As := [.int (nI n)]) (b := 80) (rest := []) kn_X2_readState ml_2_63 im_X2_readState se_X2_readState rfl (by decide +kernel) rfl rfl (Nat.le_of_ble_eq_true rfl) (Nat.le_of_ble_eq_true rfl) o_80 (s_state _ I1 J b b1 W y y1 y2 n (by omega)) (fun r I2 J2 hq => ?_)
      obtain ⟨rfl, rfl, k1, k2, k3, k4, k5⟩ := hq
      have z3 : I2 80 3 = nI n := by rw [k5 3 (by decide) (by decide) (by decide)]; exact y3
      refine Ez.blk B_X2_readStates_28 (lo' := [some (.ref 80), some (.int 1)]) (st' := [.int 6, .int (I2 80 3 + 1)]) (I' := (aUp I2 80 3 (I2 80 3 + 1))) (J' := J2) (Ps := [aO E0 80 2, aO E0 80 2, aO E0 80 2]) rfl ⟨o_80, o_80, o_80⟩ ?_
      refine Ez.n_icmp_ge (off := 16) (tgt := 60) (by decide +kernel) (by decide) (a := (n + 1)) (b := 6) (eq_add (a := n) (b := 1) z3 rfl) rfl (by omega) (by omega) (fun h => absurd h (by omega)) (fun h => ?_)
      generalize hI3 : (aUp I2 80 3 (I2 80 3 + 1)) = I3
      have q3 : I3 80 3 = nI (n + 1) := by rw [← hI3, aUp_eq]; exact eq_add (a := n) (b := 1) z3 rfl
      have q4 : ∀ q, q ≠ 80 → I3 q = I2 q := fun q hq => by rw [← hI3, aUp_ne hq]
      have q5 : ∀ k, k ≠ 3 → I3 80 k = I2 80 k := fun k hk => by rw [← hI3, aUp_nk hk]
      have q6 : RX I3 (pst b n y) := ⟨⟨by rw [q5 1 (by decide)]; exact k1.1.1, by rw [q5 2 (by decide)]; exact k1.1.2⟩, by rw [q5 5 (by decide)]; exact k1.2.1, fun k hk => by rw [q4 84 (by decide)]; exact k1.2.2 k hk⟩
      have q7 : ∀ k, k < n + 1 → I3 83 k = nI ((pst b n y).2.1 k) := fun k hk => by
        rw [q4 83 (by decide)]
        by_cases e : k = n
        · rw [e]; exact k2
        · rw [k3 k e, pst_lab, cup_ne e]; exact y4 k (by omega)
      have q8 : ∀ q, q ≠ 80 → q ≠ 84 → q ≠ 83 → I3 q = I q := fun q h0 h1 h2 => by rw [q4 q h0, k4 q h0 h1 h2]; exact y5 q h0 h1 h2
      have q9 : I3 80 4 = I 80 4 := by rw [q5 4 (by decide), k5 4 (by decide) (by decide) (by decide)]; exact y6
      have q10 := pst_ok (s := n) y1
      refine Ez.blk B_X2_readStates_47 (lo' := [some (.ref 80), some (.int 1)]) (st' := [.int 59, .ref 80]) (I' := I3) (J' := J2) (Ps := []) rfl trivial ?_
      refine Ez.callV (As := [.int 59]) (b := 80) (rest := []) kn_X2_takeIfPresent ml_2_67 im_X2_takeIfPresent se_X2_takeIfPresent rfl (by decide +kernel) rfl rfl (Nat.le_of_ble_eq_true rfl) (Nat.le_of_ble_eq_true rfl) o_80 (s_tip _ I3 J2 b (CBuf_fr hb (q8 81 (by decide) (by decide) (by decide)) (q8 82 (by decide) (by decide) (by decide))) W (pst b n y).1 q10.1 q6.1 59 (by decide)) (fun r I4 J4 hq => ?_)
      obtain ⟨rfl, rfl, m1, m2⟩ := hq
      have r4 := RX_p q6 m2 m1
      refine Ez.z_if_eq (off := 7) (tgt := 60) (by decide +kernel) (by decide) (fun h9 => ?_) (fun h9 => ?_)
      · refine Ez.blk B_X2_readStates_60 (lo' := [some (.ref 80), some (.int 0)]) (st' := []) (I' := I4) (J' := J4) (Ps := []) rfl trivial ?_
        have e6 : (pi b 59 (pst b n y).1, (pst b n y).2) = pst b n y := by unfold pi; rw [if_neg h9]
        rw [e6] at r4
        exact fin I4 (n + 1) (pst b n y) r4 (by rw [m2.2 3 (by decide) (by decide)]; exact q3) (fun k hk => by rw [m2.1 83 (by decide)]; exact q7 k hk) (fun q h0 h1 h2 => by rw [m2.1 q h0]; exact q8 q h0 h1 h2) (by rw [m2.2 4 (by decide) (by decide)]; exact q9) (by rw [y7]; show (if ¬ r + 1 = 0 ∧ _ then _ else _) = _; rw [if_neg (fun q => h9 q.2)])
      · refine Ez.blk B_X2_readStates_56 (lo' := [some (.ref 80), some (.int 1)]) (st' := [.int 1]) (I' := I4) (J' := J4) (Ps := []) rfl trivial ?_
        refine Ez.blk B_X2_readStates_61 (lo' := [some (.ref 80), some (.int 1)]) (st' := []) (I' := I4) (J' := J4) (Ps := []) rfl trivial ?_
        exact ih (n + 1) I4 (pi b 59 (pst b n y).1, (pst b n y).2) ⟨by omega, XO_pi q10, r4, by rw [m2.2 3 (by decide) (by decide)]; exact q3, fun k hk => by rw [m2.1 83 (by decide)]; exact q7 k hk, fun q h0 h1 h2 => by rw [m2.1 q h0]; exact q8 q h0 h1 h2, by rw [m2.2 4 (by decide) (by decide)]; exact q9, by rw [y7]; show (if ¬ r + 1 = 0 ∧ _ then _ else _) = _; rw [if_pos ⟨by omega, h9⟩]⟩
  refine Ez.blk B_X2_readStates_0 (lo' := [some (.ref 80), some (.int 1)]) (st' := []) (I' := (aUp I 80 3 0)) (J' := J) (Ps := [aO E0 80 2]) rfl o_80 ?_
  generalize hI1 : (aUp I 80 3 0) = I1
  exact L1 5 0 I1 x ⟨by omega, hx, ⟨⟨by rw [← hI1, aUp_nk (by decide)]; exact hr.1.1, by rw [← hI1, aUp_nk (by decide)]; exact hr.1.2⟩, by rw [← hI1, aUp_nk (by decide)]; exact hr.2.1, fun k hk => by rw [← hI1, aUp_ne (by decide)]; exact hr.2.2 k hk⟩, by rw [← hI1, aUp_eq]; rfl, fun k hk => by omega, fun q h0 _ _ => by rw [← hI1, aUp_ne h0], by rw [← hI1, aUp_nk (by decide)], rfl⟩
theorem s_csn (d : Nat) (I : aI) (J : aJ) (n D : Nat) (x : PX) (hn : 1 ≤ n ∧ n ≤ 6) (hD : D ≤ 99) (h3 : I 80 3 = nI n) (h4 : I 80 4 = nI D) (h5 : I 80 5 = nI x.2.2.2) (hh : x.2.2.2 ≤ 9) (hw : ∀ k, k < 60 → I 84 k = nI (x.2.2.1 k)) (hwb : ∀ k, x.2.2.1 k ≤ 7920) (hl : ∀ k, k < n → I 83 k = nI (x.2.1 k)) (hlb : ∀ k, k < n → x.2.1 k ≤ 9) : Sp m_X2_isConsistent (d + 1) [.ref 80] E0 I J (fun r I' J' => r = some (.int (zb (csn n D x))) ∧ I' = I ∧ J' = J) := by
  refine Sp.of (lo := [some (.ref 80), none, none, none]) rfl (fun Q hQ => ?_)
  have L1 : ∀ k, k ≤ n → (((1 ≤ D ∧ D ≤ 12) ∧ x.2.2.2 < n) ∧ ∀ s, s < k → sm (fun t => x.2.2.1 (10 * s + t)) n = D ∧ x.2.1 s ≤ 3) → Ez m_X2_isConsistent (d + 1) 32 [some (.ref 80), some (.int (nI k)), none, none] [] E0 I J Q := by
    refine for_up ?_ ?_
    · intro hi
      refine Ez.blk B_X2_isConsistent_32 (lo' := [some (.ref 80), some (.int (nI n)), none, none]) (st' := [.int (I 80 3), .int (nI n)]) (I' := I) (J' := J) (Ps := [aO E0 80 2]) rfl o_80 ?_
      refine Ez.n_icmp_ge (off := 61) (tgt := 98) (by decide +kernel) (by decide) (a := n) (b := n) rfl h3 (by omega) (by omega) (fun h => ?_) (fun h => absurd h (by omega))
      refine Ez.blk B_X2_isConsistent_98 (lo' := [some (.ref 80), some (.int (nI n)), none, none]) (st' := [.int 1]) (I' := I) (J' := J) (Ps := []) rfl trivial ?_
      exact Ez.zret rfl (Or.inr rfl) (by decide +kernel) (hQ _ _ _ ⟨by rw [zb_t (p := csn n D x) hi], rfl, rfl⟩)
    · intro k hk ih hi
      refine Ez.blk B_X2_isConsistent_32 (lo' := [some (.ref 80), some (.int (nI k)), none, none]) (st' := [.int (I 80 3), .int (nI k)]) (I' := I) (J' := J) (Ps := [aO E0 80 2]) rfl o_80 ?_
      refine Ez.n_icmp_ge (off := 61) (tgt := 98) (by decide +kernel) (by decide) (a := k) (b := n) rfl h3 (by omega) (by omega) (fun h => absurd h (by omega)) (fun h => ?_)
      refine Ez.blk B_X2_isConsistent_40 (lo' := [some (.ref 80), some (.int (nI k)), some (.int 0), some (.int 0)]) (st' := []) (I' := I) (J' := J) (Ps := []) rfl trivial ?_
      have L2 : ∀ j, j ≤ n → True → Ez m_X2_isConsistent (d + 1) 44 [some (.ref 80), some (.int (nI k)), some (.int (nI (sm (fun t => x.2.2.1 (10 * k + t)) j))), some (.int (nI j))] [] E0 I J Q := by
        refine for_up ?_ ?_
        · intro _
          have hsb : sm (fun t => x.2.2.1 (10 * k + t)) n ≤ n * 7920 := sm_bd (fun j _ => hwb _)
          have hkl := hl k hk
          have hkb := hlb k hk
          refine Ez.blk B_X2_isConsistent_44 (lo' := [some (.ref 80), some (.int (nI k)), some (.int (nI (sm (fun t => x.2.2.1 (10 * k + t)) n))), some (.int (nI n))]) (st' := [.int (I 80 3), .int (nI n)]) (I' := I) (J' := J) (Ps := [aO E0 80 2]) rfl o_80 ?_
          refine Ez.n_icmp_ge (off := 23) (tgt := 72) (by decide +kernel) (by decide) (a := n) (b := n) rfl h3 (by omega) (by omega) (fun h9 => ?_) (fun h9 => absurd h9 (by omega))
          refine Ez.blk B_X2_isConsistent_72 (lo' := [some (.ref 80), some (.int (nI k)), some (.int (nI (sm (fun t => x.2.2.1 (10 * k + t)) n))), some (.int (nI n))]) (st' := [.int (I 80 4), .int (nI (sm (fun t => x.2.2.1 (10 * k + t)) n))]) (I' := I) (J' := J) (Ps := [aO E0 80 2]) rfl o_80 ?_
          refine Ez.n_icmp_ne (off := 13) (tgt := 90) (by decide +kernel) (by decide) (a := (sm (fun t => x.2.2.1 (10 * k + t)) n)) (b := D) rfl h4 (by omega) (by omega) (fun h8 => ?_) (fun h8 => ?_)
          · refine Ez.blk B_X2_isConsistent_90 (lo' := [some (.ref 80), some (.int (nI k)), some (.int (nI (sm (fun t => x.2.2.1 (10 * k + t)) n))), some (.int (nI n))]) (st' := [.int 0]) (I' := I) (J' := J) (Ps := []) rfl trivial ?_
            exact Ez.zret rfl (Or.inl rfl) (by decide +kernel) (hQ _ _ _ ⟨by rw [zb_f (p := csn n D x) (fun q => h8 (q.2 k hk).1)], rfl, rfl⟩)
          · refine Ez.blk B_X2_isConsistent_80 (lo' := [some (.ref 80), some (.int (nI k)), some (.int (nI (sm (fun t => x.2.2.1 (10 * k + t)) n))), some (.int (nI n))]) (st' := [.int 3, .int (I 83 ((nI k).toNatClampNeg))]) (I' := I) (J' := J) (Ps := [aO E0 80 2 ∧ E0.2.2 80 6 ≠ 0, aAr E0 1 83 (nI k)]) rfl ⟨r_80_6, (a_83 (vin (n := k) rfl (by omega) (by decide)))⟩ ?_
            rw [cln (x := nI k) (n := k) rfl (by omega)]
            rw [hkl]
            refine Ez.n_icmp_le (off := 5) (tgt := 92) (by decide +kernel) (by decide) (a := (x.2.1 k)) (b := 3) rfl rfl (by omega) (by omega) (fun h7 => ?_) (fun h7 => ?_)
            · refine Ez.blk B_X2_isConsistent_92 (lo' := [some (.ref 80), some (.int (nI k + 1)), some (.int (nI (sm (fun t => x.2.2.1 (10 * k + t)) n))), some (.int (nI n))]) (st' := []) (I' := I) (J' := J) (Ps := []) rfl trivial ?_
              rw [show (nI k + 1) = nI (k + 1) from (eq_add (a := k) (b := 1) rfl rfl)]
              refine Ez.drops [2, 3] (lo' := [some (.ref 80), some (.int (nI (k + 1))), none, none]) rfl ?_
              exact ih ⟨hi.1, fun s hs => by
                by_cases e : s = k
                · rw [e]; exact ⟨h8, h7⟩
                · exact hi.2 s (by omega)⟩
            · refine Ez.blk B_X2_isConsistent_90 (lo' := [some (.ref 80), some (.int (nI k)), some (.int (nI (sm (fun t => x.2.2.1 (10 * k + t)) n))), some (.int (nI n))]) (st' := [.int 0]) (I' := I) (J' := J) (Ps := []) rfl trivial ?_
              exact Ez.zret rfl (Or.inl rfl) (by decide +kernel) (hQ _ _ _ ⟨by rw [zb_f (p := csn n D x) (fun q => by have := (q.2 k hk).2; omega)], rfl, rfl⟩)
        · intro j hj ih2 _
          refine Ez.blk B_X2_isConsistent_44 (lo' := [some (.ref 80), some (.int (nI k)), some (.int (nI (sm (fun t => x.2.2.1 (10 * k + t)) j))), some (.int (nI j))]) (st' := [.int (I 80 3), .int (nI j)]) (I' := I) (J' := J) (Ps := [aO E0 80 2]) rfl o_80 ?_
          refine Ez.n_icmp_ge (off := 23) (tgt := 72) (by decide +kernel) (by decide) (a := j) (b := n) rfl h3 (by omega) (by omega) (fun h9 => absurd h9 (by omega)) (fun h9 => ?_)
          refine Ez.blk B_X2_isConsistent_52 (lo' := [some (.ref 80), some (.int (nI k)), some (.int (nI (sm (fun t => x.2.2.1 (10 * k + t)) j) + I 84 (((nI k * 10) + nI j).toNatClampNeg))), some (.int (nI j + 1))]) (st' := []) (I' := I) (J' := J) (Ps := [aO E0 80 2 ∧ E0.2.2 80 7 ≠ 0, aAr E0 1 84 ((nI k * 10) + nI j)]) rfl ⟨r_80_7, (a_84 (vin (n := (k * 10 + j)) (eq_add (a := (k * 10)) (b := j) (eq_mul (a := k) (b := 10) rfl rfl) rfl) (by omega) (by decide)))⟩ ?_
          rw [cln (x := ((nI k * 10) + nI j)) (n := (k * 10 + j)) (eq_add (a := (k * 10)) (b := j) (eq_mul (a := k) (b := 10) rfl rfl) rfl) (by omega)]
          rw [show (nI (sm (fun t => x.2.2.1 (10 * k + t)) j) + I 84 (k * 10 + j)) = nI (sm (fun t => x.2.2.1 (10 * k + t)) j + (x.2.2.1 (10 * k + j))) from (eq_add (a := (sm (fun t => x.2.2.1 (10 * k + t)) j)) (b := (x.2.2.1 (10 * k + j))) rfl (by first | exact (by rw [hw _ (by omega), show k * 10 + j = 10 * k + j by omega]) | (rw [cln (x := ((nI k * 10) + nI j)) (n := (k * 10 + j)) (eq_add (a := (k * 10)) (b := j) (eq_mul (a := k) (b := 10) rfl rfl) rfl) (by omega)]; exact (by rw [hw _ (by omega), show k * 10 + j = 10 * k + j by omega]))))]
          rw [show (nI j + 1) = nI (j + 1) from (eq_add (a := j) (b := 1) rfl rfl)]
          exact ih2 trivial
      exact L2 0 (by omega) trivial
  refine Ez.blk B_X2_isConsistent_0 (lo' := [some (.ref 80), none, none, none]) (st' := [.int 1, .int (I 80 4)]) (I' := I) (J' := J) (Ps := [aO E0 80 2]) rfl o_80 ?_
  refine Ez.n_icmp_lt (off := 23) (tgt := 28) (by decide +kernel) (by decide) (a := D) (b := 1) h4 rfl (by omega) (by omega) (fun h => ?_) (fun h => ?_)
  · refine Ez.blk B_X2_isConsistent_28 (lo' := [some (.ref 80), none, none, none]) (st' := [.int 0]) (I' := I) (J' := J) (Ps := []) rfl trivial ?_
    exact Ez.zret rfl (Or.inl rfl) (by decide +kernel) (hQ _ _ _ ⟨by rw [zb_f (p := csn n D x) (fun q => by have := q.1.1.1; omega)], rfl, rfl⟩)
  · refine Ez.blk B_X2_isConsistent_8 (lo' := [some (.ref 80), none, none, none]) (st' := [.int 12, .int (I 80 4)]) (I' := I) (J' := J) (Ps := [aO E0 80 2]) rfl o_80 ?_
    refine Ez.n_icmp_gt (off := 14) (tgt := 28) (by decide +kernel) (by decide) (a := D) (b := 12) h4 rfl (by omega) (by omega) (fun h1 => ?_) (fun h1 => ?_)
    · refine Ez.blk B_X2_isConsistent_28 (lo' := [some (.ref 80), none, none, none]) (st' := [.int 0]) (I' := I) (J' := J) (Ps := []) rfl trivial ?_
      exact Ez.zret rfl (Or.inl rfl) (by decide +kernel) (hQ _ _ _ ⟨by rw [zb_f (p := csn n D x) (fun q => by have := q.1.1.2; omega)], rfl, rfl⟩)
    · refine Ez.blk B_X2_isConsistent_17 (lo' := [some (.ref 80), none, none, none]) (st' := [.int (I 80 3), .int (I 80 5)]) (I' := I) (J' := J) (Ps := [aO E0 80 2, aO E0 80 2]) rfl ⟨o_80, o_80⟩ ?_
      refine Ez.n_icmp_lt (off := 5) (tgt := 30) (by decide +kernel) (by decide) (a := x.2.2.2) (b := n) h5 h3 (by omega) (by omega) (fun h2 => ?_) (fun h2 => ?_)
      · refine Ez.blk B_X2_isConsistent_30 (lo' := [some (.ref 80), some (.int 0), none, none]) (st' := []) (I' := I) (J' := J) (Ps := []) rfl trivial ?_
        exact L1 0 (by omega) ⟨⟨⟨h, h1⟩, h2⟩, fun s hs => by omega⟩
      · refine Ez.blk B_X2_isConsistent_28 (lo' := [some (.ref 80), none, none, none]) (st' := [.int 0]) (I' := I) (J' := J) (Ps := []) rfl trivial ?_
        exact Ez.zret rfl (Or.inl rfl) (by decide +kernel) (hQ _ _ _ ⟨by rw [zb_f (p := csn n D x) (fun q => by have := q.1.2; omega)], rfl, rfl⟩)

/-! PARSE: edges and states -/
/-- place and flag; labels; weights; the highest successor -/
abbrev PX : Type := PZ × (Nat → Nat) × (Nat → Nat) × Nat
/-- an edge: the place behind it, weight, successor -/
def ez (b : BF) (x : PZ) : PZ × Nat × Nat := ((pn b 1 (pt b 62 (pn b 2 x).2)).2, (pn b 2 x).1, (pn b 1 (pt b 62 (pn b 2 x).2)).1)
def es (b : BF) (s : Nat) (x : PX) : PX := if (ez b x.1).1.2 = 0 then ((ez b x.1).1, x.2.1, cup x.2.2.1 (10 * s + (ez b x.1).2.2) (x.2.2.1 (10 * s + (ez b x.1).2.2) + (ez b x.1).2.1), max x.2.2.2 (ez b x.1).2.2) else ((ez b x.1).1, x.2)
def pes (b : BF) (s : Nat) : Nat → PX → PX
  | 0, x => x
  | n + 1, x => if tip b 44 x.1 then pes b s n (es b s (pi b 44 x.1, x.2)) else x
def pst (b : BF) (s : Nat) (x : PX) : PX := pes b s 79 (es b s (pt b 44 (pn b 1 x.1).2, cup x.2.1 s (pn b 1 x.1).1, x.2.2))
def psts (b : BF) : Nat → Nat → PX → Nat × PX
  | 0, n, x => (n, x)
  | r + 1, n, x => if ¬ r = 0 ∧ tip b 59 (pst b n x).1 then psts b r (n + 1) (pi b 59 (pst b n x).1, (pst b n x).2) else (n + 1, pst b n x)
def prs (b : BF) : Nat × PX := psts b 6 0 (pt b 58 (pn b 2 (0, 0)).2, (fun _ => 0), (fun _ => 0), 0)
theorem pn1_9 {b : BF} {s : PZ} : (pn b 1 s).1 ≤ 9 := by
  unfold pn
  by_cases e : s.2 = 0 ∧ dig b s.1
  · rw [if_pos e, if_neg (fun q => absurd q.1 (by decide))]
    have := e.2.2.2
    show b.2 s.1 - 48 ≤ 9
    omega
  · rw [if_neg e]; exact Nat.zero_le _
theorem pn_mono {b : BF} {d : Nat} {s : PZ} : s.1 ≤ (pn b d s).2.1 ∧ ((pn b d s).2.2 = 0 → s.2 = 0 ∧ s.1 + 1 ≤ (pn b d s).2.1) := by
  unfold pn
  by_cases e : s.2 = 0 ∧ dig b s.1
  · rw [if_pos e]
    by_cases e2 : d = 2 ∧ dig b (s.1 + 1)
    · rw [if_pos e2]; exact ⟨Nat.le_add_right _ _, fun _ => ⟨e.1, by show s.1 + 1 ≤ s.1 + 2; omega⟩⟩
    · rw [if_neg e2]; exact ⟨Nat.le_add_right _ _, fun _ => ⟨e.1, Nat.le_refl _⟩⟩
  · rw [if_neg e]; exact ⟨Nat.le_refl _, fun q => absurd q (by show ¬ (1 : Nat) = 0; decide)⟩
theorem pt_mono {b : BF} {c : Nat} {s : PZ} : s.1 ≤ (pt b c s).1 ∧ ((pt b c s).2 = 0 → s.2 = 0 ∧ s.1 + 1 = (pt b c s).1 ∧ tip b c s) := by
  unfold pt
  by_cases e : tip b c s
  · rw [if_pos e]; exact ⟨Nat.le_add_right _ _, fun _ => ⟨e.1, rfl, e⟩⟩
  · rw [if_neg e]; exact ⟨Nat.le_refl _, fun q => absurd q (by show ¬ (1 : Nat) = 0; decide)⟩
theorem pi_mono {b : BF} {c : Nat} {s : PZ} : s.1 ≤ (pi b c s).1 ∧ (tip b c s → (pi b c s).1 = s.1 + 1 ∧ (pi b c s).2 = 0) := by
  unfold pi
  by_cases e : tip b c s
  · rw [if_pos e]; exact ⟨Nat.le_add_right _ _, fun _ => ⟨rfl, rfl⟩⟩
  · rw [if_neg e]; exact ⟨Nat.le_refl _, fun q => absurd q e⟩
theorem ez_mono {b : BF} {x : PZ} : x.1 ≤ (ez b x).1.1 ∧ ((ez b x).1.2 = 0 → x.2 = 0 ∧ x.1 + 1 ≤ (ez b x).1.1) := by
  have h1 := pn_mono (b := b) (d := 2) (s := x)
  have h2 := pt_mono (b := b) (c := 62) (s := (pn b 2 x).2)
  have h3 := pn_mono (b := b) (d := 1) (s := pt b 62 (pn b 2 x).2)
  refine ⟨Nat.le_trans h1.1 (Nat.le_trans h2.1 h3.1), fun q => ?_⟩
  have a3 := h3.2 q
  have a2 := h2.2 a3.1
  have a1 := h1.2 a2.1
  exact ⟨a1.1, Nat.le_trans a1.2 (Nat.le_trans h2.1 h3.1)⟩
abbrev XO (b : BF) (x : PX) : Prop := PO b x.1 ∧ x.2.2.2 ≤ 9 ∧ ∀ k, x.2.2.1 k ≤ 99 * x.1.1
theorem ez_ok {b : BF} {x : PZ} (h : PO b x) : PO b (ez b x).1 ∧ (ez b x).2.1 ≤ 99 ∧ (ez b x).2.2 ≤ 9 := ⟨(pn_ok (pt_ok (pn_ok h).1)).1, (pn_ok h).2, pn1_9⟩
theorem es_pz {b : BF} {s : Nat} {x : PX} : (es b s x).1 = (ez b x.1).1 := by
  unfold es
  by_cases e : (ez b x.1).1.2 = 0
  · rw [if_pos e]
  · rw [if_neg e]
theorem es_ok {b : BF} {s : Nat} {x : PX} (h : XO b x) : XO b (es b s x) := by
  have h1 := ez_ok h.1
  have h2 := ez_mono (b := b) (x := x.1)
  unfold es
  by_cases e : (ez b x.1).1.2 = 0
  · rw [if_pos e]
    refine ⟨h1.1, Nat.max_le.mpr ⟨h.2.1, h1.2.2⟩, fun k => ?_⟩
    have h3 := (h2.2 e).2
    show cup x.2.2.1 (10 * s + (ez b x.1).2.2) (x.2.2.1 (10 * s + (ez b x.1).2.2) + (ez b x.1).2.1) k ≤ 99 * (ez b x.1).1.1
    by_cases ek : k = 10 * s + (ez b x.1).2.2
    · rw [ek, cup_eq]
      have := h.2.2 (10 * s + (ez b x.1).2.2)
      have := h1.2.1
      omega
    · rw [cup_ne ek]
      have := h.2.2 k
      omega
  · rw [if_neg e]
    refine ⟨h1.1, h.2.1, fun k => ?_⟩
    have := h.2.2 k
    have := h2.1
    show x.2.2.1 k ≤ 99 * (ez b x.1).1.1
    omega
theorem es_lab {b : BF} {s : Nat} {x : PX} : (es b s x).2.1 = x.2.1 := by
  unfold es
  by_cases e : (ez b x.1).1.2 = 0
  · rw [if_pos e]
  · rw [if_neg e]
theorem XO_pi {b : BF} {c : Nat} {x : PX} (h : XO b x) : XO b (pi b c x.1, x.2) := ⟨pi_ok h.1, h.2.1, fun k => Nat.le_trans (h.2.2 k) (Nat.mul_le_mul_left _ pi_mono.1)⟩
theorem pes_ok {b : BF} {s : Nat} : ∀ (n : Nat) {x : PX}, XO b x → XO b (pes b s n x)
  | 0, x, h => h
  | n + 1, x, h => by
    unfold pes
    by_cases e : tip b 44 x.1
    · rw [if_pos e]; exact pes_ok n (es_ok (XO_pi h))
    · rw [if_neg e]; exact h
theorem XO_st {b : BF} {s : Nat} {x : PX} (h : XO b x) : XO b (pt b 44 (pn b 1 x.1).2, cup x.2.1 s (pn b 1 x.1).1, x.2.2) := ⟨pt_ok (pn_ok h.1).1, h.2.1, fun k => Nat.le_trans (h.2.2 k) (Nat.mul_le_mul_left _ (Nat.le_trans pn_mono.1 pt_mono.1))⟩
theorem pst_ok {b : BF} {s : Nat} {x : PX} (h : XO b x) : XO b (pst b s x) := pes_ok 79 (es_ok (XO_st h))
theorem psts_ok {b : BF} : ∀ (r n : Nat) {x : PX}, XO b x → XO b (psts b r n x).2
  | 0, n, x, h => h
  | r + 1, n, x, h => by
    unfold psts
    by_cases e : ¬ r = 0 ∧ tip b 59 (pst b n x).1
    · rw [if_pos e]; exact psts_ok r (n + 1) (XO_pi (pst_ok h))
    · rw [if_neg e]; exact pst_ok h
/-- the reader's rows -/
abbrev RX (I : aI) (x : PX) : Prop := RdS I x.1 ∧ I 80 5 = nI x.2.2.2 ∧ ∀ k, k < 60 → I 84 k = nI (x.2.2.1 k)
abbrev FrE (I I' : aI) : Prop := (∀ q, q ≠ 80 → q ≠ 84 → I' q = I q) ∧ ∀ k, k ≠ 1 → k ≠ 2 → k ≠ 5 → I' 80 k = I 80 k
theorem FrE_tr {I I' I'' : aI} (h : FrE I I') (k : FrE I' I'') : FrE I I'' := ⟨fun q a c => (k.1 q a c).trans (h.1 q a c), fun q a c e => (k.2 q a c e).trans (h.2 q a c e)⟩
theorem FrE_p {I I' : aI} (h : FrP I I') : FrE I I' := ⟨fun q a _ => h.1 q a, fun q a c _ => h.2 q a c⟩
theorem CBuf_E {b : BF} {I I' : aI} (h : CBuf b I) (f : FrE I I') : CBuf b I' := CBuf_fr h (f.1 81 (by decide) (by decide)) (f.1 82 (by decide) (by decide))
theorem RX_p {I I' : aI} {x : PX} {z : PZ} (h : RX I x) (f : FrP I I') (hz : RdS I' z) : RX I' (z, x.2) := ⟨hz, by rw [f.2 5 (by decide) (by decide)]; exact h.2.1, fun k hk => by rw [f.1 84 (by decide)]; exact h.2.2 k hk⟩
theorem mx_nI {a b : Nat} (ha : a < 2147483648) (hb : b < 2147483648) : (if nI a < nI b then nI b else nI a) = nI (max a b) := by
  by_cases e : a < b
  · rw [if_pos ((nI_ltI ha hb).mpr e), Nat.max_eq_right (by omega)]
  · rw [if_neg (fun q => e ((nI_ltI ha hb).mp q)), Nat.max_eq_left (by omega)]
theorem s_edge (d : Nat) (I : aI) (J : aJ) (b : BF) (hb : CBuf b I) (W : BW b) (x : PX) (hx : XO b x) (hr : RX I x) (s : Nat) (hs : s < 6) : Sp m_X2_readEdge (d + 4) [.ref 80, .int (nI s)] E0 I J (fun r I' J' => r = none ∧ J' = J ∧ RX I' (es b s x) ∧ FrE I I') := by
  refine Sp.of (lo := [some (.ref 80), some (.int (nI s)), none, none]) rfl (fun Q hQ => ?_)
  refine Ez.blk B_X2_readEdge_0 (lo' := [some (.ref 80), some (.int (nI s)), none, none]) (st' := [.int 2, .ref 80]) (I' := I) (J' := J) (Ps := []) rfl trivial ?_
  refine Ez.callV (As := [.int 2]) (b := 80) (rest := []) kn_X2_takeNumber ml_2_28 im_X2_takeNumber se_X2_takeNumber rfl (by decide +kernel) rfl rfl (Nat.le_of_ble_eq_true rfl) (Nat.le_of_ble_eq_true rfl) o_80 (s_num2 _ I J b hb W x.1 hx.1 hr.1) (fun r I1 J1 hq => ?_)
  obtain ⟨rfl, rfl, k1, k2⟩ := hq
  have b1 := CBuf_E hb (FrE_p k2)
  refine Ez.blk B_X2_readEdge_5 (lo' := [some (.ref 80), some (.int (nI s)), some (.int (nI ((pn b 2 x.1).1))), none]) (st' := [.int 62, .ref 80]) (I' := I1) (J' := J1) (Ps := []) rfl trivial ?_
  refine Ez.callV (As := [.int 62]) (b := 80) (rest := []) kn_X2_take ml_2_36 im_X2_take se_X2_take rfl (by decide +kernel) rfl rfl (Nat.le_of_ble_eq_true rfl) (Nat.le_of_ble_eq_true rfl) o_80 (s_take _ I1 J1 b b1 W (pn b 2 x.1).2 (pn_ok hx.1).1 k1 62 (by decide)) (fun r I2 J2 hq => ?_)
  obtain ⟨rfl, rfl, k3, k4⟩ := hq
  have b2 := CBuf_E b1 (FrE_p k4)
  refine Ez.blk B_X2_readEdge_12 (lo' := [some (.ref 80), some (.int (nI s)), some (.int (nI ((pn b 2 x.1).1))), none]) (st' := [.int 1, .ref 80]) (I' := I2) (J' := J2) (Ps := []) rfl trivial ?_
  refine Ez.callV (As := [.int 1]) (b := 80) (rest := []) kn_X2_takeNumber ml_2_28 im_X2_takeNumber se_X2_takeNumber rfl (by decide +kernel) rfl rfl (Nat.le_of_ble_eq_true rfl) (Nat.le_of_ble_eq_true rfl) o_80 (s_num1 _ I2 J2 b b2 W (pt b 62 (pn b 2 x.1).2) (pt_ok (pn_ok hx.1).1) k3) (fun r I3 J3 hq => ?_)
  obtain ⟨rfl, rfl, k5, k6⟩ := hq
  have f3 : FrE I I3 := FrE_tr (FrE_p k2) (FrE_tr (FrE_p k4) (FrE_p k6))
  have h9 : (pn b 1 (pt b 62 (pn b 2 x.1).2)).1 ≤ 9 := pn1_9
  have hw9 : (pn b 2 x.1).1 ≤ 99 := (pn_ok hx.1).2
  have hf1 : (pn b 1 (pt b 62 (pn b 2 x.1).2)).2.2 ≤ 1 := (ez_ok hx.1).1.2
  have e5 : I3 80 5 = nI x.2.2.2 := by rw [k6.2 5 (by decide) (by decide), k4.2 5 (by decide) (by decide), k2.2 5 (by decide) (by decide)]; exact hr.2.1
  have e84 : ∀ k, k < 60 → I3 84 k = nI (x.2.2.1 k) := fun k hk => by rw [k6.1 84 (by decide), k4.1 84 (by decide), k2.1 84 (by decide)]; exact hr.2.2 k hk
  have h59 := hx.2.1
  refine Ez.blk B_X2_readEdge_17 (lo' := [some (.ref 80), some (.int (nI s)), some (.int (nI ((pn b 2 x.1).1))), some (.int (nI ((pn b 1 (pt b 62 (pn b 2 x.1).2)).1)))]) (st' := [.int (I3 80 2)]) (I' := I3) (J' := J3) (Ps := [aO E0 80 2]) rfl o_80 ?_
  refine Ez.n_if_ne (off := 30) (tgt := 52) (by decide +kernel) (by decide) (a := (pn b 1 (pt b 62 (pn b 2 x.1).2)).2.2) k5.2 (by omega) (fun h => ?_) (fun h => ?_)
  · exact Ez.vret rfl (by decide +kernel) (hQ _ _ _ ⟨rfl, rfl, by unfold es; rw [if_neg (show ¬ (ez b x.1).1.2 = 0 from h)]; exact ⟨k5, e5, e84⟩, f3⟩)
  · refine Ez.blk B_X2_readEdge_25 (lo' := [some (.ref 80), some (.int (nI s)), some (.int (nI ((pn b 2 x.1).1))), some (.int (nI ((pn b 1 (pt b 62 (pn b 2 x.1).2)).1)))]) (st' := []) (I' := (aUp (aUp I3 84 (((nI s * 10) + nI ((pn b 1 (pt b 62 (pn b 2 x.1).2)).1)).toNatClampNeg) (I3 84 (((nI s * 10) + nI ((pn b 1 (pt b 62 (pn b 2 x.1).2)).1)).toNatClampNeg) + nI ((pn b 2 x.1).1))) 80 5 (if I3 80 5 < nI ((pn b 1 (pt b 62 (pn b 2 x.1).2)).1) then nI ((pn b 1 (pt b 62 (pn b 2 x.1).2)).1) else I3 80 5))) (J' := J3) (Ps := [aO E0 80 2 ∧ E0.2.2 80 7 ≠ 0, aAr E0 1 84 ((nI s * 10) + nI ((pn b 1 (pt b 62 (pn b 2 x.1).2)).1)), aAr E0 1 84 ((nI s * 10) + nI ((pn b 1 (pt b 62 (pn b 2 x.1).2)).1)), aO E0 80 2, aO E0 80 2]) rfl ⟨r_80_7, (a_84 (vin (n := (s * 10 + (pn b 1 (pt b 62 (pn b 2 x.1).2)).1)) (eq_add (a := (s * 10)) (b := (pn b 1 (pt b 62 (pn b 2 x.1).2)).1) (eq_mul (a := s) (b := 10) rfl rfl) rfl) (by omega) (by decide))), (a_84 (vin (n := (s * 10 + (pn b 1 (pt b 62 (pn b 2 x.1).2)).1)) (eq_add (a := (s * 10)) (b := (pn b 1 (pt b 62 (pn b 2 x.1).2)).1) (eq_mul (a := s) (b := 10) rfl rfl) rfl) (by omega) (by decide))), o_80, o_80⟩ ?_
    rw [cln (x := ((nI s * 10) + nI ((pn b 1 (pt b 62 (pn b 2 x.1).2)).1))) (n := (s * 10 + (pn b 1 (pt b 62 (pn b 2 x.1).2)).1)) (eq_add (a := (s * 10)) (b := (pn b 1 (pt b 62 (pn b 2 x.1).2)).1) (eq_mul (a := s) (b := 10) rfl rfl) rfl) (by omega)]
    generalize hI4 : (aUp (aUp I3 84 (s * 10 + (pn b 1 (pt b 62 (pn b 2 x.1).2)).1) (I3 84 (s * 10 + (pn b 1 (pt b 62 (pn b 2 x.1).2)).1) + nI ((pn b 2 x.1).1))) 80 5 (if I3 80 5 < nI ((pn b 1 (pt b 62 (pn b 2 x.1).2)).1) then nI ((pn b 1 (pt b 62 (pn b 2 x.1).2)).1) else I3 80 5)) = I4
    exact Ez.vret rfl (by decide +kernel) (hQ _ _ _ ⟨rfl, rfl, by
      unfold es
      rw [if_pos (show (ez b x.1).1.2 = 0 from h)]
      refine ⟨⟨by rw [← hI4, aUp_nk (by decide), aUp_ne (by decide)]; exact k5.1, by rw [← hI4, aUp_nk (by decide), aUp_ne (by decide)]; exact k5.2⟩, ?_, fun k hk => ?_⟩
      · rw [← hI4, aUp_eq, e5]; exact mx_nI (by omega) (by omega)
      · rw [← hI4, aUp_ne (by decide)]
        show _ = nI (cup x.2.2.1 (10 * s + (pn b 1 (pt b 62 (pn b 2 x.1).2)).1) (x.2.2.1 (10 * s + (pn b 1 (pt b 62 (pn b 2 x.1).2)).1) + (pn b 2 x.1).1) k)
        by_cases ek : k = 10 * s + (pn b 1 (pt b 62 (pn b 2 x.1).2)).1
        · rw [ek, cup_eq, show 10 * s + (pn b 1 (pt b 62 (pn b 2 x.1).2)).1 = s * 10 + (pn b 1 (pt b 62 (pn b 2 x.1).2)).1 by omega, aUp_eq, e84 _ (by omega)]; exact eq_add rfl rfl
        · rw [cup_ne ek, aUp_nk (by omega)]; exact e84 k hk, FrE_tr f3 ⟨fun q h0 h1 => by rw [← hI4, aUp_ne h0, aUp_ne h1], fun k h1 h2 h5 => by rw [← hI4, aUp_nk h5, aUp_ne (by decide)]⟩⟩)
theorem s_state (d : Nat) (I : aI) (J : aJ) (b : BF) (hb : CBuf b I) (W : BW b) (x : PX) (hx : XO b x) (hr : RX I x) (s : Nat) (hs : s < 6) : Sp m_X2_readState (d + 5) [.ref 80, .int (nI s)] E0 I J (fun r I' J' => r = none ∧ J' = J ∧ RX I' (pst b s x) ∧ I' 83 s = nI ((pst b s x).2.1 s) ∧ (∀ k, k ≠ s → I' 83 k = I 83 k) ∧ (∀ q, q ≠ 80 → q ≠ 84 → q ≠ 83 → I' q = I q) ∧ ∀ k, k ≠ 1 → k ≠ 2 → k ≠ 5 → I' 80 k = I 80 k) := by
  refine Sp.of (lo := [some (.ref 80), some (.int (nI s)), none]) rfl (fun Q hQ => ?_)
  refine Ez.blk B_X2_readState_0 (lo' := [some (.ref 80), some (.int (nI s)), none]) (st' := [.int 1, .ref 80, .int (nI s), .ref 83]) (I' := I) (J' := J) (Ps := [aO E0 80 2 ∧ E0.2.2 80 6 ≠ 0]) rfl r_80_6 ?_
  refine Ez.callV (As := [.int 1]) (b := 80) (rest := [.int (nI s), .ref 83]) kn_X2_takeNumber ml_2_28 im_X2_takeNumber se_X2_takeNumber rfl (by decide +kernel) rfl rfl (Nat.le_of_ble_eq_true rfl) (Nat.le_of_ble_eq_true rfl) o_80 (s_num1 _ I J b hb W x.1 hx.1 hr.1) (fun r I1 J1 hq => ?_)
  obtain ⟨rfl, rfl, k1, k2⟩ := hq
  refine Ez.blk B_X2_readState_10 (lo' := [some (.ref 80), some (.int (nI s)), none]) (st' := [.int 44, .ref 80]) (I' := (aUp I1 83 ((nI s).toNatClampNeg) (nI ((pn b 1 x.1).1)))) (J' := J1) (Ps := [aAr E0 1 83 (nI s)]) rfl (a_83 (vin (n := s) rfl (by omega) (by decide))) ?_
  rw [cln (x := nI s) (n := s) rfl (by omega)]
  generalize hI2 : (aUp I1 83 s (nI ((pn b 1 x.1).1))) = I2
  have r2 : RX I2 ((pn b 1 x.1).2, cup x.2.1 s (pn b 1 x.1).1, x.2.2) := ⟨⟨by rw [← hI2, aUp_ne (by decide)]; exact k1.1, by rw [← hI2, aUp_ne (by decide)]; exact k1.2⟩, by rw [← hI2, aUp_ne (by decide), k2.2 5 (by decide) (by decide)]; exact hr.2.1, fun k hk => by rw [← hI2, aUp_ne (by decide), k2.1 84 (by decide)]; exact hr.2.2 k hk⟩
  have g2 : ∀ q, q ≠ 80 → q ≠ 83 → I2 q = I q := fun q h0 h1 => by rw [← hI2, aUp_ne h1]; exact k2.1 q h0
  have g3 : ∀ k, k ≠ s → I2 83 k = I 83 k := fun k hk => by rw [← hI2, aUp_nk hk, k2.1 83 (by decide)]
  have g4 : ∀ k, k ≠ 1 → k ≠ 2 → k ≠ 5 → I2 80 k = I 80 k := fun k h1 h2 h5 => by rw [← hI2, aUp_ne (by decide)]; exact k2.2 k h1 h2
  have g5 : I2 83 s = nI (pn b 1 x.1).1 := by rw [← hI2, aUp_eq]
  have b2 : CBuf b I2 := CBuf_fr hb (g2 81 (by decide) (by decide)) (g2 82 (by decide) (by decide))
  refine Ez.callV (As := [.int 44]) (b := 80) (rest := []) kn_X2_take ml_2_36 im_X2_take se_X2_take rfl (by decide +kernel) rfl rfl (Nat.le_of_ble_eq_true rfl) (Nat.le_of_ble_eq_true rfl) o_80 (s_take _ I2 J1 b b2 W (pn b 1 x.1).2 (pn_ok hx.1).1 r2.1 44 (by decide)) (fun r I3 J3 hq => ?_)
  obtain ⟨rfl, rfl, k3, k4⟩ := hq
  have b3 := CBuf_E b2 (FrE_p k4)
  have r3 := RX_p r2 k4 k3
  refine Ez.blk B_X2_readState_17 (lo' := [some (.ref 80), some (.int (nI s)), none]) (st' := [.int (nI s), .ref 80]) (I' := I3) (J' := J3) (Ps := []) rfl trivial ?_
  refine Ez.callV (As := [.int (nI s)]) (b := 80) (rest := []) kn_X2_readEdge ml_2_71 im_X2_readEdge se_X2_readEdge rfl (by decide +kernel) rfl rfl (Nat.le_of_ble_eq_true rfl) (Nat.le_of_ble_eq_true rfl) o_80 (s_edge _ I3 J3 b b3 W (pt b 44 (pn b 1 x.1).2, cup x.2.1 s (pn b 1 x.1).1, x.2.2) (XO_st hx) r3 s hs) (fun r I4 J4 hq => ?_)
  obtain ⟨rfl, rfl, k5, k6⟩ := hq
  have f4 : FrE I2 I4 := FrE_tr (FrE_p k4) k6
  refine Ez.blk B_X2_readState_22 (lo' := [some (.ref 80), some (.int (nI s)), some (.int 1)]) (st' := []) (I' := I4) (J' := J4) (Ps := []) rfl trivial ?_
  have L1 : ∀ m, m ≤ 79 → ∀ (I5 : aI) (y : PX), (XO b y ∧ RX I5 y ∧ FrE I2 I5 ∧ pst b s x = pes b s m y ∧ y.2.1 s = (pn b 1 x.1).1) → Ez m_X2_readState (d + 5) 24 [some (.ref 80), some (.int (nI s)), some (.int (nI (80 - m)))] [] E0 I5 J4 Q := by
    have fin : ∀ (I5 : aI) (y : PX), RX I5 y → FrE I2 I5 → pst b s x = y → y.2.1 s = (pn b 1 x.1).1 → Q none I5 J4 := fun I5 y h1 h2 h3 h4 => hQ _ _ _ ⟨rfl, rfl, by rw [h3]; exact h1, by rw [h3, h4, h2.1 83 (by decide) (by decide)]; exact g5, fun k hk => by rw [h2.1 83 (by decide) (by decide)]; exact g3 k hk, fun q h0 h1 h3 => by rw [h2.1 q h0 h1]; exact g2 q h0 h3, fun k h0 h1 h5 => by rw [h2.2 k h0 h1 h5]; exact g4 k h0 h1 h5⟩
    intro m
    induction m with
    | zero =>
      intro _ I5 y ⟨y1, y2, y3, y4, y5⟩
      refine Ez.blk B_X2_readState_24 (lo' := [some (.ref 80), some (.int (nI s)), some (.int (nI (80 - 0)))]) (st' := [.int 80, .int (nI (80 - 0))]) (I' := I5) (J' := J4) (Ps := []) rfl trivial ?_
      refine Ez.n_icmp_ge (off := 23) (tgt := 50) (by decide +kernel) (by decide) (a := (80 - 0)) (b := 80) rfl rfl (by omega) (by omega) (fun h => ?_) (fun h => absurd h (by omega))
      exact Ez.vret rfl (by decide +kernel) (fin I5 y y2 y3 y4 y5)
    | succ m ih =>
      intro hm I5 y ⟨y1, y2, y3, y4, y5⟩
      have b5 := CBuf_E b2 y3
      refine Ez.blk B_X2_readState_24 (lo' := [some (.ref 80), some (.int (nI s)), some (.int (nI (80 - (m + 1))))]) (st' := [.int 80, .int (nI (80 - (m + 1)))]) (I' := I5) (J' := J4) (Ps := []) rfl trivial ?_
      refine Ez.n_icmp_ge (off := 23) (tgt := 50) (by decide +kernel) (by decide) (a := (80 - (m + 1))) (b := 80) rfl rfl (by omega) (by omega) (fun h => absurd h (by omega)) (fun h => ?_)
      refine Ez.blk B_X2_readState_30 (lo' := [some (.ref 80), some (.int (nI s)), some (.int (nI (80 - (m + 1))))]) (st' := [.int 44, .ref 80]) (I' := I5) (J' := J4) (Ps := []) rfl trivial ?_
      refine Ez.callV (As := [.int 44]) (b := 80) (rest := []) kn_X2_takeIfPresent ml_2_67 im_X2_takeIfPresent se_X2_takeIfPresent rfl (by decide +kernel) rfl rfl (Nat.le_of_ble_eq_true rfl) (Nat.le_of_ble_eq_true rfl) o_80 (s_tip _ I5 J4 b b5 W y.1 y1.1 y2.1 44 (by decide)) (fun r I6 J6 hq => ?_)
      obtain ⟨rfl, rfl, k7, k8⟩ := hq
      have b6 := CBuf_E b5 (FrE_p k8)
      have r6 := RX_p y2 k8 k7
      refine Ez.z_if_eq (off := 14) (tgt := 50) (by decide +kernel) (by decide) (fun h2 => ?_) (fun h2 => ?_)
      · have e6 : (pi b 44 y.1, y.2) = y := by unfold pi; rw [if_neg h2]
        rw [e6] at r6
        exact Ez.vret rfl (by decide +kernel) (fin I6 y r6 (FrE_tr y3 (FrE_p k8)) (by rw [y4]; show (if tip b 44 y.1 then _ else _) = _; rw [if_neg h2]) y5)
      · refine Ez.blk B_X2_readState_39 (lo' := [some (.ref 80), some (.int (nI s)), some (.int (nI (80 - (m + 1))))]) (st' := [.int (nI s), .ref 80]) (I' := I6) (J' := J6) (Ps := []) rfl trivial ?_
        refine Ez.callV (As := [.int (nI s)]) (b := 80) (rest := []) kn_X2_readEdge ml_2_71 im_X2_readEdge se_X2_readEdge rfl (by decide +kernel) rfl rfl (Nat.le_of_ble_eq_true rfl) (Nat.le_of_ble_eq_true rfl) o_80 (s_edge _ I6 J6 b b6 W (pi b 44 y.1, y.2) (XO_pi y1) r6 s hs) (fun r I7 J7 hq => ?_)
        obtain ⟨rfl, rfl, k9, k10⟩ := hq
        refine Ez.blk B_X2_readState_44 (lo' := [some (.ref 80), some (.int (nI s)), some (.int (nI (80 - (m + 1)) + 1))]) (st' := []) (I' := I7) (J' := J7) (Ps := []) rfl trivial ?_
        rw [show (nI (80 - (m + 1)) + 1) = nI (80 - (m + 1) + 1) from (eq_add (a := (80 - (m + 1))) (b := 1) rfl rfl)]
        rw [show 80 - (m + 1) + 1 = 80 - m by omega]
        exact ih (by omega) I7 (es b s (pi b 44 y.1, y.2)) ⟨es_ok (XO_pi y1), k9, FrE_tr y3 (FrE_tr (FrE_p k8) k10), by rw [y4]; show (if tip b 44 y.1 then _ else _) = _; rw [if_pos h2], by rw [es_lab]; exact y5⟩
  exact L1 79 (by omega) I4 (es b s (pt b 44 (pn b 1 x.1).2, cup x.2.1 s (pn b 1 x.1).1, x.2.2)) ⟨es_ok (XO_st hx), k5, f4, rfl, by rw [es_lab]; exact cup_eq⟩

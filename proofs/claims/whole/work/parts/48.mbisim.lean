/-! THE REFERENCE: bisimulation -/
def Pm (I : aI) (n : Nat) (p : PN) : Prop := I 93 14 = nI p.2 ∧ ∀ s, s < n → I 104 s = nI (p.1 s)
def lbr (c : Nat → Nat) (l s : Nat) : Bool := decide (c (4 + l) = c (4 + s))
theorem bisk_1 {c : Nat → Nat} (W : Wc c) : nmb (lbr c) (c 0) = bisk c 1 := by
  show _ = nmb (agr c (bisk c 0)) (c 0)
  refine nmb_ext (c 0) (fun l s hl hs => ?_)
  have hr : ∀ x, x < c 0 → wtc c (fun _ => 0) x 0 = c 1 := fun x hx => by
    unfold wtc
    rw [← W.2.2.2.2.2.1 x hx]
    exact sm_ext (fun j _ => if_pos rfl)
  cases h : agr c (bisk c 0) l s with
  | true => exact decide_eq_true (agr_iff.mp h).2.1
  | false =>
    refine decide_eq_false (fun q => ?_)
    have : agr c (bisk c 0) l s = true := agr_iff.mpr ⟨rfl, q, fun k hk => by
      have hk : k < 1 := hk
      rw [show k = 0 by omega]
      exact (hr l (by omega)).trans (hr s hs).symm⟩
    rw [h] at this
    cases this
theorem bisk_lab {c : Nat → Nat} {k l s : Nat} (hl : l < c 0) (hs : s < c 0) (h : (bisk c (k + 1)).1 l = (bisk c (k + 1)).1 s) : c (4 + l) = c (4 + s) := (agr_iff.mp ((nmb_spec (c 0) (agr_eqv c (bisk c k) (c 0)) l s hl hs).mp h)).2.1
def prv (c : Nat → Nat) (k : Nat) : Nat := if k = 0 then 0 else (bisk c k).2
theorem bisk_pos {c : Nat → Nat} (h : 1 ≤ c 0 ∧ c 0 ≤ 6) (k : Nat) : 1 ≤ (bisk c k).2 := by
  have := (bisk_bd h k).2 0 (by omega)
  omega
theorem prv_rest {c : Nat → Nat} (h1 : 1 ≤ c 0 ∧ c 0 ≤ 6) {k : Nat} (h : prv c k = (bisk c (k + 1)).2) : bisk c (k + 1) = bis c := by
  cases k with
  | zero =>
    unfold prv at h
    rw [if_pos rfl] at h
    have := bisk_pos h1 1
    rw [Nat.zero_add] at h
    omega
  | succ k =>
    unfold prv at h
    rw [if_neg (by omega)] at h
    have e := bisk_rest h.symm
    have on := bisk_on e
    show bisk c (k + 2) = bis c
    rw [e]
    by_cases q : k + 1 ≤ c 0
    · have := on (c 0 - (k + 1))
      rw [show k + 1 + (c 0 - (k + 1)) = c 0 by omega] at this
      exact this.symm
    · have := bis_rest h1.1 (k + 1 - c 0)
      rw [show c 0 + (k + 1 - c 0) = k + 1 by omega] at this
      exact this
theorem s_wtcM (d : Nat) (I : aI) (J : aJ) (c : Nat → Nat) (hc : MC c I) (W : Wc c) (p : PN) (hp : Pm I (c 0) p) (hb : p.2 ≤ 6) (hq : ∀ u, u < c 0 → p.1 u < p.2) (s k : Nat) (hs : s < 6) (hk6 : k ≤ 6) : Sp m_X10_weightToClass (d + 2) [.ref 93, .int (nI s), .int (nI k)] E0 I J (fun r I' J' => r = some (.int (nI (wtc c p.1 s k))) ∧ I' = I ∧ J' = J) := by
  refine Sp.of (lo := [some (.ref 93), some (.int (nI s)), some (.int (nI k)), none, none]) rfl (fun Q hQ => ?_)
  have w1 := W.1
  have w2 := W.2.1
  have wl := W.2.2.2.1
  have w12 := Wc_w W
  have L1 : ∀ v, v ≤ c 0 → True → Ez m_X10_weightToClass (d + 2) 5 [some (.ref 93), some (.int (nI s)), some (.int (nI k)), some (.int (nI (sm (fun u => if p.1 u = k then c (10 + 6 * s + u) else 0) v))), some (.int (nI v))] [] E0 I J Q := by
    refine for_up ?_ ?_
    · intro _
      refine Ez.blk B_X10_weightToClass_5 (lo' := [some (.ref 93), some (.int (nI s)), some (.int (nI k)), some (.int (nI (sm (fun u => if p.1 u = k then c (10 + 6 * s + u) else 0) (c 0)))), some (.int (nI (c 0)))]) (st' := [.int (I 94 0), .int (nI (c 0))]) (I' := I) (J' := J) (Ps := [aO E0 93 10 ∧ E0.2.2 93 0 ≠ 0, aAr E0 1 94 0]) rfl ⟨r_93_0, (a_94 (vin (n := 0) rfl (by omega) (by decide)))⟩ ?_
      refine Ez.n_icmp_ge (off := 34) (tgt := 47) (by decide +kernel) (by decide) (a := (c 0)) (b := (c 0)) rfl (hc 0 (by decide)) (by omega) (by omega) (fun h => ?_) (fun h => absurd h (by omega))
      refine Ez.blk B_X10_weightToClass_47 (lo' := [some (.ref 93), some (.int (nI s)), some (.int (nI k)), some (.int (nI (sm (fun u => if p.1 u = k then c (10 + 6 * s + u) else 0) (c 0)))), some (.int (nI (c 0)))]) (st' := [.int (nI (sm (fun u => if p.1 u = k then c (10 + 6 * s + u) else 0) (c 0)))]) (I' := I) (J' := J) (Ps := []) rfl trivial ?_
      exact Ez.iret rfl (by decide +kernel) (hQ _ _ _ ⟨rfl, rfl, rfl⟩)
    · intro v hv ih _
      have cu := hp.2 v hv
      have cb := hq v hv
      refine Ez.blk B_X10_weightToClass_5 (lo' := [some (.ref 93), some (.int (nI s)), some (.int (nI k)), some (.int (nI (sm (fun u => if p.1 u = k then c (10 + 6 * s + u) else 0) v))), some (.int (nI v))]) (st' := [.int (I 94 0), .int (nI v)]) (I' := I) (J' := J) (Ps := [aO E0 93 10 ∧ E0.2.2 93 0 ≠ 0, aAr E0 1 94 0]) rfl ⟨r_93_0, (a_94 (vin (n := 0) rfl (by omega) (by decide)))⟩ ?_
      refine Ez.n_icmp_ge (off := 34) (tgt := 47) (by decide +kernel) (by decide) (a := v) (b := (c 0)) rfl (hc 0 (by decide)) (by omega) (by omega) (fun h => absurd h (by omega)) (fun h => ?_)
      refine Ez.blk B_X10_weightToClass_16 (lo' := [some (.ref 93), some (.int (nI s)), some (.int (nI k)), some (.int (nI (sm (fun u => if p.1 u = k then c (10 + 6 * s + u) else 0) v))), some (.int (nI v))]) (st' := [.int (nI k), .int (I 104 ((nI v).toNatClampNeg)), .int (nI (sm (fun u => if p.1 u = k then c (10 + 6 * s + u) else 0) v))]) (I' := I) (J' := J) (Ps := [aO E0 93 10 ∧ E0.2.2 93 12 ≠ 0, aAr E0 1 104 (nI v)]) rfl ⟨r_93_12, (a_104 (vin (n := v) rfl (by omega) (by decide)))⟩ ?_
      rw [cln (x := nI v) (n := v) rfl (by omega)]
      rw [cu]
      refine Ez.n_icmp_ne (off := 13) (tgt := 38) (by decide +kernel) (by decide) (a := (p.1 v)) (b := k) rfl rfl (by omega) (by omega) (fun g => ?_) (fun g => ?_)
      · refine Ez.blk B_X10_weightToClass_38 (lo' := [some (.ref 93), some (.int (nI s)), some (.int (nI k)), some (.int (nI (sm (fun u => if p.1 u = k then c (10 + 6 * s + u) else 0) v) + 0)), some (.int (nI v + 1))]) (st' := []) (I' := I) (J' := J) (Ps := []) rfl trivial ?_
        rw [show (nI (sm (fun u => if p.1 u = k then c (10 + 6 * s + u) else 0) v) + 0) = nI (sm (fun u => if p.1 u = k then c (10 + 6 * s + u) else 0) v + 0) from (eq_add (a := (sm (fun u => if p.1 u = k then c (10 + 6 * s + u) else 0) v)) (b := 0) rfl rfl)]
        rw [show (nI v + 1) = nI (v + 1) from (eq_add (a := v) (b := 1) rfl rfl)]
        rw [show sm (fun u => if p.1 u = k then c (10 + 6 * s + u) else 0) v + 0 = sm (fun u => if p.1 u = k then c (10 + 6 * s + u) else 0) (v + 1) from congrArg (fun z => sm (fun u => if p.1 u = k then c (10 + 6 * s + u) else 0) v + z) (if_neg g).symm]
        exact ih trivial
      · refine Ez.blk B_X10_weightToClass_28 (lo' := [some (.ref 93), some (.int (nI s)), some (.int (nI k)), some (.int (nI (sm (fun u => if p.1 u = k then c (10 + 6 * s + u) else 0) v))), some (.int (nI v))]) (st' := [.int (nI v), .int (nI s), .ref 93, .int (nI (sm (fun u => if p.1 u = k then c (10 + 6 * s + u) else 0) v))]) (I' := I) (J' := J) (Ps := []) rfl trivial ?_
        refine Ez.callV (As := [.int (nI s), .int (nI v)]) (b := 93) (rest := [.int (nI (sm (fun u => if p.1 u = k then c (10 + 6 * s + u) else 0) v))]) kn_X10_w ml_10_116 im_X10_w se_X10_w rfl (by decide +kernel) rfl rfl (Nat.le_of_ble_eq_true rfl) (Nat.le_of_ble_eq_true rfl) o_93 (s_w _ I J c hc s v (by omega) (by omega)) (fun r I1 J1 hq => ?_)
        obtain ⟨rfl, rfl, rfl⟩ := hq
        refine Ez.blk B_X10_weightToClass_35 (lo' := [some (.ref 93), some (.int (nI s)), some (.int (nI k)), some (.int (nI (sm (fun u => if p.1 u = k then c (10 + 6 * s + u) else 0) v))), some (.int (nI v))]) (st' := [.int (nI (c (10 + 6 * s + v))), .int (nI (sm (fun u => if p.1 u = k then c (10 + 6 * s + u) else 0) v))]) (I' := I1) (J' := J1) (Ps := []) rfl trivial ?_
        refine Ez.blk B_X10_weightToClass_39 (lo' := [some (.ref 93), some (.int (nI s)), some (.int (nI k)), some (.int (nI (sm (fun u => if p.1 u = k then c (10 + 6 * s + u) else 0) v) + nI (c (10 + 6 * s + v)))), some (.int (nI v + 1))]) (st' := []) (I' := I1) (J' := J1) (Ps := []) rfl trivial ?_
        rw [show (nI (sm (fun u => if p.1 u = k then c (10 + 6 * s + u) else 0) v) + nI (c (10 + 6 * s + v))) = nI (sm (fun u => if p.1 u = k then c (10 + 6 * s + u) else 0) v + (c (10 + 6 * s + v))) from (eq_add (a := (sm (fun u => if p.1 u = k then c (10 + 6 * s + u) else 0) v)) (b := (c (10 + 6 * s + v))) rfl rfl)]
        rw [show (nI v + 1) = nI (v + 1) from (eq_add (a := v) (b := 1) rfl rfl)]
        rw [show sm (fun u => if p.1 u = k then c (10 + 6 * s + u) else 0) v + c (10 + 6 * s + v) = sm (fun u => if p.1 u = k then c (10 + 6 * s + u) else 0) (v + 1) from congrArg (fun z => sm (fun u => if p.1 u = k then c (10 + 6 * s + u) else 0) v + z) (if_pos g).symm]
        exact ih trivial
  refine Ez.blk B_X10_weightToClass_0 (lo' := [some (.ref 93), some (.int (nI s)), some (.int (nI k)), some (.int 0), some (.int 0)]) (st' := []) (I' := I) (J' := J) (Ps := []) rfl trivial ?_
  exact L1 0 (by omega) trivial
def ali (c : Nat → Nat) (p : PN) (l s : Nat) : Nat → Bool
  | 0 => decide (p.1 l = p.1 s)
  | k + 1 => ali c p l s k && decide (wtc c p.1 l k = wtc c p.1 s k)
theorem ali_iff {c : Nat → Nat} {p : PN} {l s : Nat} : ∀ k, ali c p l s k = true ↔ p.1 l = p.1 s ∧ ∀ j, j < k → wtc c p.1 l j = wtc c p.1 s j
  | 0 => by
    unfold ali
    rw [decide_eq_true_eq]
    exact ⟨fun h => ⟨h, fun j hj => by omega⟩, fun h => h.1⟩
  | k + 1 => by
    unfold ali
    rw [Bool.and_eq_true, ali_iff k, decide_eq_true_eq]
    constructor
    · rintro ⟨⟨h1, h2⟩, h3⟩
      exact ⟨h1, fun j hj => by
        by_cases e : j = k
        · rw [e]; exact h3
        · exact h2 j (by omega)⟩
    · rintro ⟨h1, h2⟩
      exact ⟨⟨h1, fun j hj => h2 j (by omega)⟩, h2 k (by omega)⟩
theorem ali_agr {c : Nat → Nat} {p : PN} {l s : Nat} (h : p.1 l = p.1 s → c (4 + l) = c (4 + s)) : ali c p l s p.2 = true ↔ agr c p l s = true := by
  rw [ali_iff, agr_iff]
  exact ⟨fun q => ⟨q.1, h q.1, q.2⟩, fun q => ⟨q.1, q.2.2⟩⟩
theorem s_alike (d : Nat) (I : aI) (J : aJ) (c : Nat → Nat) (hc : MC c I) (W : Wc c) (p : PN) (hp : Pm I (c 0) p) (hb : p.2 ≤ 6) (hq : ∀ u, u < c 0 → p.1 u < p.2) (l s : Nat) (hl : l < c 0) (hs : s < c 0) (hlab : p.1 l = p.1 s → c (4 + l) = c (4 + s)) : Sp m_X10_areAlike (d + 3) [.ref 93, .int (nI l), .int (nI s)] E0 I J (fun r I' J' => r = some (.int (zb (agr c p l s = true))) ∧ I' = I ∧ J' = J) := by
  refine Sp.of (lo := [some (.ref 93), some (.int (nI l)), some (.int (nI s)), none, none]) rfl (fun Q hQ => ?_)
  have w1 := W.1
  have w2 := W.2.1
  have wl := W.2.2.2.1
  have w12 := Wc_w W
  have pl := hp.2 l hl
  have ps := hp.2 s hs
  have bl := hq l hl
  have bs := hq s hs
  have L1 : ∀ k, k ≤ p.2 → True → Ez m_X10_areAlike (d + 3) 24 [some (.ref 93), some (.int (nI l)), some (.int (nI s)), some (.int (zb (ali c p l s k = true))), some (.int (nI k))] [] E0 I J Q := by
    refine for_up ?_ ?_
    · intro _
      refine Ez.blk B_X10_areAlike_24 (lo' := [some (.ref 93), some (.int (nI l)), some (.int (nI s)), some (.int (zb (ali c p l s p.2 = true))), some (.int (nI p.2))]) (st' := [.int (I 93 14), .int (nI p.2)]) (I' := I) (J' := J) (Ps := [aO E0 93 10]) rfl o_93 ?_
      refine Ez.n_icmp_ge (off := 36) (tgt := 66) (by decide +kernel) (by decide) (a := p.2) (b := p.2) rfl hp.1 (by omega) (by omega) (fun h => ?_) (fun h => absurd h (by omega))
      refine Ez.blk B_X10_areAlike_66 (lo' := [some (.ref 93), some (.int (nI l)), some (.int (nI s)), some (.int (zb (ali c p l s p.2 = true))), some (.int (nI p.2))]) (st' := [.int (zb (ali c p l s p.2 = true))]) (I' := I) (J' := J) (Ps := []) rfl trivial ?_
      rw [zb_iff (ali_agr hlab)]
      exact Ez.zret rfl (zb_01 _) (by decide +kernel) (hQ _ _ _ ⟨rfl, rfl, rfl⟩)
    · intro k hk ih _
      refine Ez.blk B_X10_areAlike_24 (lo' := [some (.ref 93), some (.int (nI l)), some (.int (nI s)), some (.int (zb (ali c p l s k = true))), some (.int (nI k))]) (st' := [.int (I 93 14), .int (nI k)]) (I' := I) (J' := J) (Ps := [aO E0 93 10]) rfl o_93 ?_
      refine Ez.n_icmp_ge (off := 36) (tgt := 66) (by decide +kernel) (by decide) (a := k) (b := p.2) rfl hp.1 (by omega) (by omega) (fun h => absurd h (by omega)) (fun h => ?_)
      refine Ez.blk B_X10_areAlike_33 (lo' := [some (.ref 93), some (.int (nI l)), some (.int (nI s)), some (.int (zb (ali c p l s k = true))), some (.int (nI k))]) (st' := [.int (zb (ali c p l s k = true))]) (I' := I) (J' := J) (Ps := []) rfl trivial ?_
      refine Ez.z_if_eq (off := 24) (tgt := 58) (by decide +kernel) (by decide) (fun g => ?_) (fun g => ?_)
      · refine Ez.blk B_X10_areAlike_58 (lo' := [some (.ref 93), some (.int (nI l)), some (.int (nI s)), some (.int 0), some (.int (nI k + 1))]) (st' := []) (I' := I) (J' := J) (Ps := []) rfl trivial ?_
        rw [show (nI k + 1) = nI (k + 1) from (eq_add (a := k) (b := 1) rfl rfl)]
        rw [show (0 : Int32) = zb (ali c p l s (k + 1) = true) from (zb_f (fun q => g (by unfold ali at q; rw [Bool.and_eq_true] at q; exact q.1))).symm]
        exact ih trivial
      · have wl1 : wtc c p.1 l k ≤ 72 := wtc_bd W (by omega)
        have ws1 : wtc c p.1 s k ≤ 72 := wtc_bd W (by omega)
        refine Ez.blk B_X10_areAlike_37 (lo' := [some (.ref 93), some (.int (nI l)), some (.int (nI s)), some (.int (zb (ali c p l s k = true))), some (.int (nI k))]) (st' := [.int (nI k), .int (nI l), .ref 93]) (I' := I) (J' := J) (Ps := []) rfl trivial ?_
        refine Ez.callV (As := [.int (nI l), .int (nI k)]) (b := 93) (rest := []) kn_X10_weightToClass ml_10_193 im_X10_weightToClass se_X10_weightToClass rfl (by decide +kernel) rfl rfl (Nat.le_of_ble_eq_true rfl) (Nat.le_of_ble_eq_true rfl) o_93 (s_wtcM _ I J c hc W p hp hb hq l k (by omega) (by omega)) (fun r I1 J1 hq_ => ?_)
        obtain ⟨rfl, rfl, rfl⟩ := hq_
        refine Ez.blk B_X10_areAlike_44 (lo' := [some (.ref 93), some (.int (nI l)), some (.int (nI s)), some (.int (zb (ali c p l s k = true))), some (.int (nI k))]) (st' := [.int (nI k), .int (nI s), .ref 93, .int (nI (wtc c p.1 l k))]) (I' := I1) (J' := J1) (Ps := []) rfl trivial ?_
        refine Ez.callV (As := [.int (nI s), .int (nI k)]) (b := 93) (rest := [.int (nI (wtc c p.1 l k))]) kn_X10_weightToClass ml_10_193 im_X10_weightToClass se_X10_weightToClass rfl (by decide +kernel) rfl rfl (Nat.le_of_ble_eq_true rfl) (Nat.le_of_ble_eq_true rfl) o_93 (s_wtcM _ I1 J1 c hc W p hp hb hq s k (by omega) (by omega)) (fun r I2 J2 hq_ => ?_)
        obtain ⟨rfl, rfl, rfl⟩ := hq_
        refine Ez.n_icmp_ne (off := 7) (tgt := 58) (by decide +kernel) (by decide) (a := (wtc c p.1 l k)) (b := (wtc c p.1 s k)) rfl rfl (by omega) (by omega) (fun g2 => ?_) (fun g2 => ?_)
        · refine Ez.blk B_X10_areAlike_58 (lo' := [some (.ref 93), some (.int (nI l)), some (.int (nI s)), some (.int 0), some (.int (nI k + 1))]) (st' := []) (I' := I2) (J' := J2) (Ps := []) rfl trivial ?_
          rw [show (nI k + 1) = nI (k + 1) from (eq_add (a := k) (b := 1) rfl rfl)]
          rw [show (0 : Int32) = zb (ali c p l s (k + 1) = true) from (zb_f (fun q => g2 (((ali_iff (k + 1)).mp q).2 k (by omega)))).symm]
          exact ih trivial
        · refine Ez.blk B_X10_areAlike_54 (lo' := [some (.ref 93), some (.int (nI l)), some (.int (nI s)), some (.int (zb (ali c p l s k = true))), some (.int (nI k))]) (st' := [.int 1]) (I' := I2) (J' := J2) (Ps := []) rfl trivial ?_
          refine Ez.blk B_X10_areAlike_59 (lo' := [some (.ref 93), some (.int (nI l)), some (.int (nI s)), some (.int 1), some (.int (nI k + 1))]) (st' := []) (I' := I2) (J' := J2) (Ps := []) rfl trivial ?_
          rw [show (nI k + 1) = nI (k + 1) from (eq_add (a := k) (b := 1) rfl rfl)]
          rw [show (1 : Int32) = zb (ali c p l s (k + 1) = true) from (zb_t (by unfold ali; rw [g]; exact decide_eq_true g2)).symm]
          exact ih trivial
  refine Ez.blk B_X10_areAlike_0 (lo' := [some (.ref 93), some (.int (nI l)), some (.int (nI s)), none, none]) (st' := [.int (I 104 ((nI s).toNatClampNeg)), .int (I 104 ((nI l).toNatClampNeg))]) (I' := I) (J' := J) (Ps := [aO E0 93 10 ∧ E0.2.2 93 12 ≠ 0, aAr E0 1 104 (nI l), aO E0 93 10 ∧ E0.2.2 93 12 ≠ 0, aAr E0 1 104 (nI s)]) rfl ⟨r_93_12, (a_104 (vin (n := l) rfl (by omega) (by decide))), r_93_12, (a_104 (vin (n := s) rfl (by omega) (by decide)))⟩ ?_
  rw [cln (x := nI l) (n := l) rfl (by omega)]
  rw [cln (x := nI s) (n := s) rfl (by omega)]
  rw [pl]
  rw [ps]
  refine Ez.n_icmp_ne (off := 7) (tgt := 19) (by decide +kernel) (by decide) (a := (p.1 l)) (b := (p.1 s)) rfl rfl (by omega) (by omega) (fun g => ?_) (fun g => ?_)
  · refine Ez.blk B_X10_areAlike_19 (lo' := [some (.ref 93), some (.int (nI l)), some (.int (nI s)), some (.int 0), some (.int 0)]) (st' := []) (I' := I) (J' := J) (Ps := []) rfl trivial ?_
    have L0 := L1 0 (by omega) trivial
    rw [zb_f (p := ali c p l s 0 = true) (fun q => g (of_decide_eq_true q))] at L0
    exact L0
  · refine Ez.blk B_X10_areAlike_15 (lo' := [some (.ref 93), some (.int (nI l)), some (.int (nI s)), none, none]) (st' := [.int 1]) (I' := I) (J' := J) (Ps := []) rfl trivial ?_
    refine Ez.blk B_X10_areAlike_20 (lo' := [some (.ref 93), some (.int (nI l)), some (.int (nI s)), some (.int 1), some (.int 0)]) (st' := []) (I' := I) (J' := J) (Ps := []) rfl trivial ?_
    have L0 := L1 0 (by omega) trivial
    rw [zb_t (p := ali c p l s 0 = true) (decide_eq_true g)] at L0
    exact L0
theorem s_number1 (d : Nat) (I : aI) (J : aJ) (c : Nat → Nat) (hc : MC c I) (W : Wc c) : Sp m_X10_number (d + 4) [.ref 93, .int 1] E0 I J (fun r I' J' => r = some (.int (nI (nmb (lbr c) (c 0)).2)) ∧ J' = J ∧ (∀ s, s < c 0 → I' 104 s = nI ((nmb (lbr c) (c 0)).1 s)) ∧ ∀ q, q ≠ 104 → q ≠ 105 → I' q = I q) := by
  refine Sp.of (lo := [some (.ref 93), some (.int 1), none, none, none]) rfl (fun Q hQ => ?_)
  have w1 := W.1
  have w2 := W.2.1
  have wl := W.2.2.2.1
  have w12 := Wc_w W
  have L1 : ∀ k, k ≤ c 0 → ∀ (I1 : aI), ((∀ s, s < k → I1 105 s = nI ((nmb (lbr c) k).1 s)) ∧ ∀ q, q ≠ 105 → I1 q = I q) → Ez m_X10_number (d + 4) 4 [some (.ref 93), some (.int 1), some (.int (nI ((nmb (lbr c) k).2))), some (.int (nI k)), none] [] E0 I1 J Q := by
    refine for_up ?_ ?_
    · intro I1 hi
      obtain ⟨i1, i2⟩ := hi
      have c1 : MC c I1 := MC_fr hc (i2 94 (by decide))
      refine Ez.blk B_X10_number_4 (lo' := [some (.ref 93), some (.int 1), some (.int (nI ((nmb (lbr c) (c 0)).2))), some (.int (nI (c 0))), none]) (st' := [.int (I1 94 0), .int (nI (c 0))]) (I' := I1) (J' := J) (Ps := [aO E0 93 10 ∧ E0.2.2 93 0 ≠ 0, aAr E0 1 94 0]) rfl ⟨r_93_0, (a_94 (vin (n := 0) rfl (by omega) (by decide)))⟩ ?_
      refine Ez.n_icmp_ge (off := 92) (tgt := 103) (by decide +kernel) (by decide) (a := (c 0)) (b := (c 0)) rfl (c1 0 (by decide)) (by omega) (by omega) (fun h => ?_) (fun h => absurd h (by omega))
      refine Ez.blk B_X10_number_103 (lo' := [some (.ref 93), some (.int 1), some (.int (nI ((nmb (lbr c) (c 0)).2))), some (.int (nI (c 0))), none]) (st' := [.int (nI ((nmb (lbr c) (c 0)).2))]) (I' := (aRw I1 104 (va_cpy (I1 105) (I1 104) 0 0 6))) (J' := J) (Ps := [aO E0 93 10 ∧ E0.2.2 93 13 ≠ 0, aO E0 93 10 ∧ E0.2.2 93 12 ≠ 0, aCp E0 1 105 104 0 0 6]) rfl ⟨r_93_13, r_93_12, (cpy_ok (s0 := 0) (d0 := 0) (m := 6) q_105 q_104 rfl rfl rfl (by omega) (by omega) (by omega) (by omega) (by omega))⟩ ?_
      exact Ez.iret rfl (by decide +kernel) (hQ _ _ _ ⟨rfl, rfl, fun s hs => by rw [aRw_at, cp0 (by omega)]; exact i1 s hs, fun q h0 h1 => by rw [aRw_ne h0]; exact i2 q h1⟩)
    · intro k hk ih I1 hi
      obtain ⟨i1, i2⟩ := hi
      have c1 : MC c I1 := MC_fr hc (i2 94 (by decide))
      have nb := nmb_bd (rel := (lbr c)) k
      have nb1 := nb.1
      refine Ez.blk B_X10_number_4 (lo' := [some (.ref 93), some (.int 1), some (.int (nI ((nmb (lbr c) k).2))), some (.int (nI k)), none]) (st' := [.int (I1 94 0), .int (nI k)]) (I' := I1) (J' := J) (Ps := [aO E0 93 10 ∧ E0.2.2 93 0 ≠ 0, aAr E0 1 94 0]) rfl ⟨r_93_0, (a_94 (vin (n := 0) rfl (by omega) (by decide)))⟩ ?_
      refine Ez.n_icmp_ge (off := 92) (tgt := 103) (by decide +kernel) (by decide) (a := k) (b := (c 0)) rfl (c1 0 (by decide)) (by omega) (by omega) (fun h => absurd h (by omega)) (fun h => ?_)
      refine Ez.blk B_X10_number_14 (lo' := [some (.ref 93), some (.int 1), some (.int (nI ((nmb (lbr c) k).2))), some (.int (nI k)), some (.int 0)]) (st' := []) (I' := I1) (J' := J) (Ps := []) rfl trivial ?_
      have rk : (lbr c) k k = true := decide_eq_true rfl
      have LX : ∀ j, j ≤ k → (∀ l, l < j → (lbr c) l k = false) → (lbr c) j k = true → Ez m_X10_number (d + 4) 60 [some (.ref 93), some (.int 1), some (.int (nI (nmb (lbr c) k).2)), some (.int (nI k)), some (.int (nI j))] [] E0 I1 J Q := by
        intro j hj hno hyes
        refine Ez.blk B_X10_number_60 (lo' := [some (.ref 93), some (.int 1), some (.int (nI ((nmb (lbr c) k).2))), some (.int (nI k)), some (.int (nI j))]) (st' := [.int (nI k), .int (nI j), .int (nI k), .ref 105]) (I' := I1) (J' := J) (Ps := [aO E0 93 10 ∧ E0.2.2 93 13 ≠ 0]) rfl r_93_13 ?_
        refine Ez.n_icmp_ge (off := 13) (tgt := 81) (by decide +kernel) (by decide) (a := j) (b := k) rfl rfl (by omega) (by omega) (fun g => ?_) (fun g => ?_)
        · have en := nmb_none (rel := (lbr c)) (s := k) (ff_none k 0 (fun l _ hl => hno l (by omega)))
          refine Ez.blk B_X10_number_81 (lo' := [some (.ref 93), some (.int 1), some (.int (nI ((nmb (lbr c) k).2))), some (.int (nI k)), some (.int (nI j))]) (st' := [.int (nI k), .int (nI j), .int (nI ((nmb (lbr c) k).2))]) (I' := (aUp I1 105 ((nI k).toNatClampNeg) (nI ((nmb (lbr c) k).2)))) (J' := J) (Ps := [aAr E0 1 105 (nI k)]) rfl (a_105 (vin (n := k) rfl (by omega) (by decide))) ?_
          rw [cln (x := nI k) (n := k) rfl (by omega)]
          refine Ez.n_icmp_ge (off := 7) (tgt := 94) (by decide +kernel) (by decide) (a := j) (b := k) rfl rfl (by omega) (by omega) (fun g2 => ?_) (fun g2 => absurd g2 (by omega))
          refine Ez.blk B_X10_number_94 (lo' := [some (.ref 93), some (.int 1), some (.int (nI ((nmb (lbr c) k).2) + 1)), some (.int (nI k + 1)), some (.int (nI j))]) (st' := []) (I' := (aUp I1 105 k (nI ((nmb (lbr c) k).2)))) (J' := J) (Ps := []) rfl trivial ?_
          rw [show (nI ((nmb (lbr c) k).2) + 1) = nI ((nmb (lbr c) k).2 + 1) from (eq_add (a := (nmb (lbr c) k).2) (b := 1) rfl rfl)]
          rw [show (nI k + 1) = nI (k + 1) from (eq_add (a := k) (b := 1) rfl rfl)]
          refine Ez.drops [4] (lo' := [some (.ref 93), some (.int 1), some (.int (nI ((nmb (lbr c) k).2 + 1))), some (.int (nI (k + 1))), none]) rfl ?_
          rw [show (nmb (lbr c) k).2 + 1 = (nmb (lbr c) (k + 1)).2 by rw [en]]
          exact ih _ ⟨fun s hs => by
            rw [en]
            show _ = nI (cup (nmb (lbr c) k).1 k (nmb (lbr c) k).2 s)
            by_cases e : s = k
            · rw [e, cup_eq, aUp_eq]
            · rw [cup_ne e, aUp_nk e]; exact i1 s (by omega), fun q hq => by rw [aUp_ne hq]; exact i2 q hq⟩
        · have en := nmb_some (rel := (lbr c)) (s := k) (ff_some (P := fun l => (lbr c) l k) k 0 j (Nat.zero_le _) (by omega) hyes (fun l _ hl => hno l hl))
          refine Ez.blk B_X10_number_71 (lo' := [some (.ref 93), some (.int 1), some (.int (nI ((nmb (lbr c) k).2))), some (.int (nI k)), some (.int (nI j))]) (st' := [.int (I1 105 ((nI j).toNatClampNeg)), .int (nI k), .ref 105]) (I' := I1) (J' := J) (Ps := [aO E0 93 10 ∧ E0.2.2 93 13 ≠ 0, aAr E0 1 105 (nI j)]) rfl ⟨r_93_13, (a_105 (vin (n := j) rfl (by omega) (by decide)))⟩ ?_
          rw [cln (x := nI j) (n := j) rfl (by omega)]
          refine Ez.blk B_X10_number_82 (lo' := [some (.ref 93), some (.int 1), some (.int (nI ((nmb (lbr c) k).2))), some (.int (nI k)), some (.int (nI j))]) (st' := [.int (nI k), .int (nI j), .int (nI ((nmb (lbr c) k).2))]) (I' := (aUp I1 105 ((nI k).toNatClampNeg) (I1 105 j))) (J' := J) (Ps := [aAr E0 1 105 (nI k)]) rfl (a_105 (vin (n := k) rfl (by omega) (by decide))) ?_
          rw [cln (x := nI k) (n := k) rfl (by omega)]
          refine Ez.n_icmp_ge (off := 7) (tgt := 94) (by decide +kernel) (by decide) (a := j) (b := k) rfl rfl (by omega) (by omega) (fun g2 => absurd g2 (by omega)) (fun g2 => ?_)
          refine Ez.blk B_X10_number_90 (lo' := [some (.ref 93), some (.int 1), some (.int (nI ((nmb (lbr c) k).2))), some (.int (nI k)), some (.int (nI j))]) (st' := [.int 0, .int (nI ((nmb (lbr c) k).2))]) (I' := (aUp I1 105 k (I1 105 j))) (J' := J) (Ps := []) rfl trivial ?_
          refine Ez.blk B_X10_number_95 (lo' := [some (.ref 93), some (.int 1), some (.int (nI ((nmb (lbr c) k).2) + 0)), some (.int (nI k + 1)), some (.int (nI j))]) (st' := []) (I' := (aUp I1 105 k (I1 105 j))) (J' := J) (Ps := []) rfl trivial ?_
          rw [show (nI ((nmb (lbr c) k).2) + 0) = nI ((nmb (lbr c) k).2 + 0) from (eq_add (a := (nmb (lbr c) k).2) (b := 0) rfl rfl)]
          rw [show (nI k + 1) = nI (k + 1) from (eq_add (a := k) (b := 1) rfl rfl)]
          refine Ez.drops [4] (lo' := [some (.ref 93), some (.int 1), some (.int (nI ((nmb (lbr c) k).2 + 0))), some (.int (nI (k + 1))), none]) rfl ?_
          rw [show (nmb (lbr c) k).2 + 0 = (nmb (lbr c) (k + 1)).2 by rw [en]; rfl]
          exact ih _ ⟨fun s hs => by
            rw [en]
            show _ = nI (cup (nmb (lbr c) k).1 k ((nmb (lbr c) k).1 j) s)
            by_cases e : s = k
            · rw [e, cup_eq, aUp_eq]; exact i1 j g
            · rw [cup_ne e, aUp_nk e]; exact i1 s (by omega), fun q hq => by rw [aUp_ne hq]; exact i2 q hq⟩
      have L2 : ∀ j, j ≤ k → (∀ l, l < j → (lbr c) l k = false) → Ez m_X10_number (d + 4) 17 [some (.ref 93), some (.int 1), some (.int (nI ((nmb (lbr c) k).2))), some (.int (nI k)), some (.int (nI j))] [] E0 I1 J Q := by
        refine for_up ?_ ?_
        · intro hj
          have lj : I1 94 (4 + k) = nI (c (4 + k)) := c1 _ (by omega)
          have lk : I1 94 (4 + k) = nI (c (4 + k)) := c1 _ (by omega)
          have l3 := wl k (by omega)
          have l4 := wl k (by omega)
          refine Ez.blk B_X10_number_17 (lo' := [some (.ref 93), some (.int 1), some (.int (nI ((nmb (lbr c) k).2))), some (.int (nI k)), some (.int (nI k))]) (st' := [.int 1]) (I' := I1) (J' := J) (Ps := []) rfl trivial ?_
          refine Ez.n_if_eq (off := 26) (tgt := 44) (by decide +kernel) (by decide) (a := 1) rfl (by omega) (fun h9 => absurd h9 (by decide)) (fun h9 => ?_)
          refine Ez.blk B_X10_number_21 (lo' := [some (.ref 93), some (.int 1), some (.int (nI ((nmb (lbr c) k).2))), some (.int (nI k)), some (.int (nI k))]) (st' := [.int (I1 94 ((4 + nI k).toNatClampNeg)), .int (I1 94 ((4 + nI k).toNatClampNeg))]) (I' := I1) (J' := J) (Ps := [aO E0 93 10 ∧ E0.2.2 93 0 ≠ 0, aAr E0 1 94 (4 + nI k), aO E0 93 10 ∧ E0.2.2 93 0 ≠ 0, aAr E0 1 94 (4 + nI k)]) rfl ⟨r_93_0, (a_94 (vin (n := (4 + k)) (eq_add (a := 4) (b := k) rfl rfl) (by omega) (by decide))), r_93_0, (a_94 (vin (n := (4 + k)) (eq_add (a := 4) (b := k) rfl rfl) (by omega) (by decide)))⟩ ?_
          rw [cln (x := (4 + nI k)) (n := (4 + k)) (eq_add (a := 4) (b := k) rfl rfl) (by omega)]
          refine Ez.n_icmp_eq (off := 22) (tgt := 60) (by decide +kernel) (by decide) (a := (c (4 + k))) (b := (c (4 + k))) lk lk (by omega) (by omega) (fun h8 => ?_) (fun h8 => absurd rfl h8)
          exact LX k (Nat.le_refl _) hj rk
        · intro j hjk ih2 hj
          have lj : I1 94 (4 + j) = nI (c (4 + j)) := c1 _ (by omega)
          have lk : I1 94 (4 + k) = nI (c (4 + k)) := c1 _ (by omega)
          have l3 := wl j (by omega)
          have l4 := wl k (by omega)
          refine Ez.blk B_X10_number_17 (lo' := [some (.ref 93), some (.int 1), some (.int (nI ((nmb (lbr c) k).2))), some (.int (nI k)), some (.int (nI j))]) (st' := [.int 1]) (I' := I1) (J' := J) (Ps := []) rfl trivial ?_
          refine Ez.n_if_eq (off := 26) (tgt := 44) (by decide +kernel) (by decide) (a := 1) rfl (by omega) (fun h9 => absurd h9 (by decide)) (fun h9 => ?_)
          refine Ez.blk B_X10_number_21 (lo' := [some (.ref 93), some (.int 1), some (.int (nI ((nmb (lbr c) k).2))), some (.int (nI k)), some (.int (nI j))]) (st' := [.int (I1 94 ((4 + nI k).toNatClampNeg)), .int (I1 94 ((4 + nI j).toNatClampNeg))]) (I' := I1) (J' := J) (Ps := [aO E0 93 10 ∧ E0.2.2 93 0 ≠ 0, aAr E0 1 94 (4 + nI j), aO E0 93 10 ∧ E0.2.2 93 0 ≠ 0, aAr E0 1 94 (4 + nI k)]) rfl ⟨r_93_0, (a_94 (vin (n := (4 + j)) (eq_add (a := 4) (b := j) rfl rfl) (by omega) (by decide))), r_93_0, (a_94 (vin (n := (4 + k)) (eq_add (a := 4) (b := k) rfl rfl) (by omega) (by decide)))⟩ ?_
          rw [cln (x := (4 + nI j)) (n := (4 + j)) (eq_add (a := 4) (b := j) rfl rfl) (by omega)]
          rw [cln (x := (4 + nI k)) (n := (4 + k)) (eq_add (a := 4) (b := k) rfl rfl) (by omega)]
          refine Ez.n_icmp_eq (off := 22) (tgt := 60) (by decide +kernel) (by decide) (a := (c (4 + j))) (b := (c (4 + k))) lj lk (by omega) (by omega) (fun h8 => ?_) (fun h8 => ?_)
          · exact LX j (by omega) hj (decide_eq_true h8)
          · refine Ez.blk B_X10_number_41 (lo' := [some (.ref 93), some (.int 1), some (.int (nI ((nmb (lbr c) k).2))), some (.int (nI k)), some (.int (nI j))]) (st' := []) (I' := I1) (J' := J) (Ps := []) rfl trivial ?_
            refine Ez.blk B_X10_number_54 (lo' := [some (.ref 93), some (.int 1), some (.int (nI ((nmb (lbr c) k).2))), some (.int (nI k)), some (.int (nI j + 1))]) (st' := []) (I' := I1) (J' := J) (Ps := []) rfl trivial ?_
            rw [show (nI j + 1) = nI (j + 1) from (eq_add (a := j) (b := 1) rfl rfl)]
            exact ih2 (fun l hl => by
              by_cases e : l = j
              · rw [e]; exact decide_eq_false h8
              · exact hj l (by omega))
      exact L2 0 (by omega) (fun l hl => by omega)
  refine Ez.blk B_X10_number_0 (lo' := [some (.ref 93), some (.int 1), some (.int 0), some (.int 0), none]) (st' := []) (I' := I) (J' := J) (Ps := []) rfl trivial ?_
  exact L1 0 (by omega) I ⟨fun s hs => by omega, fun _ _ => rfl⟩
theorem s_number0 (d : Nat) (I : aI) (J : aJ) (c : Nat → Nat) (hc : MC c I) (W : Wc c) (p : PN) (hp : Pm I (c 0) p) (hb : p.2 ≤ 6) (hq : ∀ u, u < c 0 → p.1 u < p.2) (hlab : ∀ l s, l < c 0 → s < c 0 → p.1 l = p.1 s → c (4 + l) = c (4 + s)) : Sp m_X10_number (d + 4) [.ref 93, .int 0] E0 I J (fun r I' J' => r = some (.int (nI (nmb (agr c p) (c 0)).2)) ∧ J' = J ∧ (∀ s, s < c 0 → I' 104 s = nI ((nmb (agr c p) (c 0)).1 s)) ∧ ∀ q, q ≠ 104 → q ≠ 105 → I' q = I q) := by
  refine Sp.of (lo := [some (.ref 93), some (.int 0), none, none, none]) rfl (fun Q hQ => ?_)
  have w1 := W.1
  have w2 := W.2.1
  have wl := W.2.2.2.1
  have w12 := Wc_w W
  have L1 : ∀ k, k ≤ c 0 → ∀ (I1 : aI), ((∀ s, s < k → I1 105 s = nI ((nmb (agr c p) k).1 s)) ∧ ∀ q, q ≠ 105 → I1 q = I q) → Ez m_X10_number (d + 4) 4 [some (.ref 93), some (.int 0), some (.int (nI ((nmb (agr c p) k).2))), some (.int (nI k)), none] [] E0 I1 J Q := by
    refine for_up ?_ ?_
    · intro I1 hi
      obtain ⟨i1, i2⟩ := hi
      have c1 : MC c I1 := MC_fr hc (i2 94 (by decide))
      refine Ez.blk B_X10_number_4 (lo' := [some (.ref 93), some (.int 0), some (.int (nI ((nmb (agr c p) (c 0)).2))), some (.int (nI (c 0))), none]) (st' := [.int (I1 94 0), .int (nI (c 0))]) (I' := I1) (J' := J) (Ps := [aO E0 93 10 ∧ E0.2.2 93 0 ≠ 0, aAr E0 1 94 0]) rfl ⟨r_93_0, (a_94 (vin (n := 0) rfl (by omega) (by decide)))⟩ ?_
      refine Ez.n_icmp_ge (off := 92) (tgt := 103) (by decide +kernel) (by decide) (a := (c 0)) (b := (c 0)) rfl (c1 0 (by decide)) (by omega) (by omega) (fun h => ?_) (fun h => absurd h (by omega))
      refine Ez.blk B_X10_number_103 (lo' := [some (.ref 93), some (.int 0), some (.int (nI ((nmb (agr c p) (c 0)).2))), some (.int (nI (c 0))), none]) (st' := [.int (nI ((nmb (agr c p) (c 0)).2))]) (I' := (aRw I1 104 (va_cpy (I1 105) (I1 104) 0 0 6))) (J' := J) (Ps := [aO E0 93 10 ∧ E0.2.2 93 13 ≠ 0, aO E0 93 10 ∧ E0.2.2 93 12 ≠ 0, aCp E0 1 105 104 0 0 6]) rfl ⟨r_93_13, r_93_12, (cpy_ok (s0 := 0) (d0 := 0) (m := 6) q_105 q_104 rfl rfl rfl (by omega) (by omega) (by omega) (by omega) (by omega))⟩ ?_
      exact Ez.iret rfl (by decide +kernel) (hQ _ _ _ ⟨rfl, rfl, fun s hs => by rw [aRw_at, cp0 (by omega)]; exact i1 s hs, fun q h0 h1 => by rw [aRw_ne h0]; exact i2 q h1⟩)
    · intro k hk ih I1 hi
      obtain ⟨i1, i2⟩ := hi
      have c1 : MC c I1 := MC_fr hc (i2 94 (by decide))
      have nb := nmb_bd (rel := (agr c p)) k
      have nb1 := nb.1
      have p1 : Pm I1 (c 0) p := ⟨by rw [i2 93 (by decide)]; exact hp.1, fun s hs => by rw [i2 104 (by decide)]; exact hp.2 s hs⟩
      refine Ez.blk B_X10_number_4 (lo' := [some (.ref 93), some (.int 0), some (.int (nI ((nmb (agr c p) k).2))), some (.int (nI k)), none]) (st' := [.int (I1 94 0), .int (nI k)]) (I' := I1) (J' := J) (Ps := [aO E0 93 10 ∧ E0.2.2 93 0 ≠ 0, aAr E0 1 94 0]) rfl ⟨r_93_0, (a_94 (vin (n := 0) rfl (by omega) (by decide)))⟩ ?_
      refine Ez.n_icmp_ge (off := 92) (tgt := 103) (by decide +kernel) (by decide) (a := k) (b := (c 0)) rfl (c1 0 (by decide)) (by omega) (by omega) (fun h => absurd h (by omega)) (fun h => ?_)
      refine Ez.blk B_X10_number_14 (lo' := [some (.ref 93), some (.int 0), some (.int (nI ((nmb (agr c p) k).2))), some (.int (nI k)), some (.int 0)]) (st' := []) (I' := I1) (J' := J) (Ps := []) rfl trivial ?_
      have rk : (agr c p) k k = true := agr_iff.mpr ⟨rfl, rfl, fun _ _ => rfl⟩
      have LX : ∀ j, j ≤ k → (∀ l, l < j → (agr c p) l k = false) → (agr c p) j k = true → Ez m_X10_number (d + 4) 60 [some (.ref 93), some (.int 0), some (.int (nI (nmb (agr c p) k).2)), some (.int (nI k)), some (.int (nI j))] [] E0 I1 J Q := by
        intro j hj hno hyes
        refine Ez.blk B_X10_number_60 (lo' := [some (.ref 93), some (.int 0), some (.int (nI ((nmb (agr c p) k).2))), some (.int (nI k)), some (.int (nI j))]) (st' := [.int (nI k), .int (nI j), .int (nI k), .ref 105]) (I' := I1) (J' := J) (Ps := [aO E0 93 10 ∧ E0.2.2 93 13 ≠ 0]) rfl r_93_13 ?_
        refine Ez.n_icmp_ge (off := 13) (tgt := 81) (by decide +kernel) (by decide) (a := j) (b := k) rfl rfl (by omega) (by omega) (fun g => ?_) (fun g => ?_)
        · have en := nmb_none (rel := (agr c p)) (s := k) (ff_none k 0 (fun l _ hl => hno l (by omega)))
          refine Ez.blk B_X10_number_81 (lo' := [some (.ref 93), some (.int 0), some (.int (nI ((nmb (agr c p) k).2))), some (.int (nI k)), some (.int (nI j))]) (st' := [.int (nI k), .int (nI j), .int (nI ((nmb (agr c p) k).2))]) (I' := (aUp I1 105 ((nI k).toNatClampNeg) (nI ((nmb (agr c p) k).2)))) (J' := J) (Ps := [aAr E0 1 105 (nI k)]) rfl (a_105 (vin (n := k) rfl (by omega) (by decide))) ?_
          rw [cln (x := nI k) (n := k) rfl (by omega)]
          refine Ez.n_icmp_ge (off := 7) (tgt := 94) (by decide +kernel) (by decide) (a := j) (b := k) rfl rfl (by omega) (by omega) (fun g2 => ?_) (fun g2 => absurd g2 (by omega))
          refine Ez.blk B_X10_number_94 (lo' := [some (.ref 93), some (.int 0), some (.int (nI ((nmb (agr c p) k).2) + 1)), some (.int (nI k + 1)), some (.int (nI j))]) (st' := []) (I' := (aUp I1 105 k (nI ((nmb (agr c p) k).2)))) (J' := J) (Ps := []) rfl trivial ?_
          rw [show (nI ((nmb (agr c p) k).2) + 1) = nI ((nmb (agr c p) k).2 + 1) from (eq_add (a := (nmb (agr c p) k).2) (b := 1) rfl rfl)]
          rw [show (nI k + 1) = nI (k + 1) from (eq_add (a := k) (b := 1) rfl rfl)]
          refine Ez.drops [4] (lo' := [some (.ref 93), some (.int 0), some (.int (nI ((nmb (agr c p) k).2 + 1))), some (.int (nI (k + 1))), none]) rfl ?_
          rw [show (nmb (agr c p) k).2 + 1 = (nmb (agr c p) (k + 1)).2 by rw [en]]
          exact ih _ ⟨fun s hs => by
            rw [en]
            show _ = nI (cup (nmb (agr c p) k).1 k (nmb (agr c p) k).2 s)
            by_cases e : s = k
            · rw [e, cup_eq, aUp_eq]
            · rw [cup_ne e, aUp_nk e]; exact i1 s (by omega), fun q hq => by rw [aUp_ne hq]; exact i2 q hq⟩
        · have en := nmb_some (rel := (agr c p)) (s := k) (ff_some (P := fun l => (agr c p) l k) k 0 j (Nat.zero_le _) (by omega) hyes (fun l _ hl => hno l hl))
          refine Ez.blk B_X10_number_71 (lo' := [some (.ref 93), some (.int 0), some (.int (nI ((nmb (agr c p) k).2))), some (.int (nI k)), some (.int (nI j))]) (st' := [.int (I1 105 ((nI j).toNatClampNeg)), .int (nI k), .ref 105]) (I' := I1) (J' := J) (Ps := [aO E0 93 10 ∧ E0.2.2 93 13 ≠ 0, aAr E0 1 105 (nI j)]) rfl ⟨r_93_13, (a_105 (vin (n := j) rfl (by omega) (by decide)))⟩ ?_
          rw [cln (x := nI j) (n := j) rfl (by omega)]
          refine Ez.blk B_X10_number_82 (lo' := [some (.ref 93), some (.int 0), some (.int (nI ((nmb (agr c p) k).2))), some (.int (nI k)), some (.int (nI j))]) (st' := [.int (nI k), .int (nI j), .int (nI ((nmb (agr c p) k).2))]) (I' := (aUp I1 105 ((nI k).toNatClampNeg) (I1 105 j))) (J' := J) (Ps := [aAr E0 1 105 (nI k)]) rfl (a_105 (vin (n := k) rfl (by omega) (by decide))) ?_
          rw [cln (x := nI k) (n := k) rfl (by omega)]
          refine Ez.n_icmp_ge (off := 7) (tgt := 94) (by decide +kernel) (by decide) (a := j) (b := k) rfl rfl (by omega) (by omega) (fun g2 => absurd g2 (by omega)) (fun g2 => ?_)
          refine Ez.blk B_X10_number_90 (lo' := [some (.ref 93), some (.int 0), some (.int (nI ((nmb (agr c p) k).2))), some (.int (nI k)), some (.int (nI j))]) (st' := [.int 0, .int (nI ((nmb (agr c p) k).2))]) (I' := (aUp I1 105 k (I1 105 j))) (J' := J) (Ps := []) rfl trivial ?_
          refine Ez.blk B_X10_number_95 (lo' := [some (.ref 93), some (.int 0), some (.int (nI ((nmb (agr c p) k).2) + 0)), some (.int (nI k + 1)), some (.int (nI j))]) (st' := []) (I' := (aUp I1 105 k (I1 105 j))) (J' := J) (Ps := []) rfl trivial ?_
          rw [show (nI ((nmb (agr c p) k).2) + 0) = nI ((nmb (agr c p) k).2 + 0) from (eq_add (a := (nmb (agr c p) k).2) (b := 0) rfl rfl)]
          rw [show (nI k + 1) = nI (k + 1) from (eq_add (a := k) (b := 1) rfl rfl)]
          refine Ez.drops [4] (lo' := [some (.ref 93), some (.int 0), some (.int (nI ((nmb (agr c p) k).2 + 0))), some (.int (nI (k + 1))), none]) rfl ?_
          rw [show (nmb (agr c p) k).2 + 0 = (nmb (agr c p) (k + 1)).2 by rw [en]; rfl]
          exact ih _ ⟨fun s hs => by
            rw [en]
            show _ = nI (cup (nmb (agr c p) k).1 k ((nmb (agr c p) k).1 j) s)
            by_cases e : s = k
            · rw [e, cup_eq, aUp_eq]; exact i1 j g
            · rw [cup_ne e, aUp_nk e]; exact i1 s (by omega), fun q hq => by rw [aUp_ne hq]; exact i2 q hq⟩
      have L2 : ∀ j, j ≤ k → (∀ l, l < j → (agr c p) l k = false) → Ez m_X10_number (d + 4) 17 [some (.ref 93), some (.int 0), some (.int (nI ((nmb (agr c p) k).2))), some (.int (nI k)), some (.int (nI j))] [] E0 I1 J Q := by
        refine for_up ?_ ?_
        · intro hj
          refine Ez.blk B_X10_number_17 (lo' := [some (.ref 93), some (.int 0), some (.int (nI ((nmb (agr c p) k).2))), some (.int (nI k)), some (.int (nI k))]) (st' := [.int 0]) (I' := I1) (J' := J) (Ps := []) rfl trivial ?_
          refine Ez.n_if_eq (off := 26) (tgt := 44) (by decide +kernel) (by decide) (a := 0) rfl (by omega) (fun h9 => ?_) (fun h9 => absurd rfl h9)
          refine Ez.blk B_X10_number_44 (lo' := [some (.ref 93), some (.int 0), some (.int (nI ((nmb (agr c p) k).2))), some (.int (nI k)), some (.int (nI k))]) (st' := [.int (nI k), .int (nI k), .ref 93]) (I' := I1) (J' := J) (Ps := []) rfl trivial ?_
          refine Ez.callV (As := [.int (nI k), .int (nI k)]) (b := 93) (rest := []) kn_X10_areAlike ml_10_196 im_X10_areAlike se_X10_areAlike rfl (by decide +kernel) rfl rfl (Nat.le_of_ble_eq_true rfl) (Nat.le_of_ble_eq_true rfl) o_93 (s_alike _ I1 J c c1 W p p1 hb hq k k (by omega) hk (hlab k k (by omega) hk)) (fun r I2 J2 hq_ => ?_)
          obtain ⟨rfl, rfl, rfl⟩ := hq_
          refine Ez.z_if_ne (off := 9) (tgt := 60) (by decide +kernel) (by decide) (fun h8 => ?_) (fun h8 => absurd rk h8)
          exact LX k (Nat.le_refl _) hj rk
        · intro j hjk ih2 hj
          refine Ez.blk B_X10_number_17 (lo' := [some (.ref 93), some (.int 0), some (.int (nI ((nmb (agr c p) k).2))), some (.int (nI k)), some (.int (nI j))]) (st' := [.int 0]) (I' := I1) (J' := J) (Ps := []) rfl trivial ?_
          refine Ez.n_if_eq (off := 26) (tgt := 44) (by decide +kernel) (by decide) (a := 0) rfl (by omega) (fun h9 => ?_) (fun h9 => absurd rfl h9)
          refine Ez.blk B_X10_number_44 (lo' := [some (.ref 93), some (.int 0), some (.int (nI ((nmb (agr c p) k).2))), some (.int (nI k)), some (.int (nI j))]) (st' := [.int (nI k), .int (nI j), .ref 93]) (I' := I1) (J' := J) (Ps := []) rfl trivial ?_
          refine Ez.callV (As := [.int (nI j), .int (nI k)]) (b := 93) (rest := []) kn_X10_areAlike ml_10_196 im_X10_areAlike se_X10_areAlike rfl (by decide +kernel) rfl rfl (Nat.le_of_ble_eq_true rfl) (Nat.le_of_ble_eq_true rfl) o_93 (s_alike _ I1 J c c1 W p p1 hb hq j k (by omega) hk (hlab j k (by omega) hk)) (fun r I2 J2 hq_ => ?_)
          obtain ⟨rfl, rfl, rfl⟩ := hq_
          refine Ez.z_if_ne (off := 9) (tgt := 60) (by decide +kernel) (by decide) (fun h8 => ?_) (fun h8 => ?_)
          · exact LX j (by omega) hj h8
          · refine Ez.blk B_X10_number_54 (lo' := [some (.ref 93), some (.int 0), some (.int (nI ((nmb (agr c p) k).2))), some (.int (nI k)), some (.int (nI j + 1))]) (st' := []) (I' := I2) (J' := J2) (Ps := []) rfl trivial ?_
            rw [show (nI j + 1) = nI (j + 1) from (eq_add (a := j) (b := 1) rfl rfl)]
            exact ih2 (fun l hl => by
              by_cases e : l = j
              · rw [e]; exact Bool.eq_false_iff.mpr h8
              · exact hj l (by omega))
      exact L2 0 (by omega) (fun l hl => by omega)
  refine Ez.blk B_X10_number_0 (lo' := [some (.ref 93), some (.int 0), some (.int 0), some (.int 0), none]) (st' := []) (I' := I) (J' := J) (Ps := []) rfl trivial ?_
  exact L1 0 (by omega) I ⟨fun s hs => by omega, fun _ _ => rfl⟩
abbrev FrB (I I' : aI) : Prop := (∀ q, q ≠ 93 → q ≠ 104 → q ≠ 105 → I' q = I q) ∧ ∀ k, k ≠ 14 → I' 93 k = I 93 k
theorem FrM_B {I I' : aI} {J : aJ} (h : FrB I I') : FrM I I' J J := ⟨fun q h1 h2 => h.1 q h2 (by omega) (by omega), fun k hk => h.2 k (by omega), fun _ _ => rfl⟩
theorem s_classes (d : Nat) (I : aI) (J : aJ) (c : Nat → Nat) (hc : MC c I) (W : Wc c) : Sp m_X10_computeClasses (d + 5) [.ref 93] E0 I J (fun r I' J' => r = none ∧ J' = J ∧ Pm I' (c 0) (bis c) ∧ FrB I I') := by
  refine Sp.of (lo := [some (.ref 93), none]) rfl (fun Q hQ => ?_)
  have w1 := W.1
  have w2 := W.2.1
  have wl := W.2.2.2.1
  have w12 := Wc_w W
  have L1 : ∀ k, k ≤ c 0 → ∀ (I1 : aI), (Pm I1 (c 0) (bisk c (k + 1)) ∧ FrB I I1) → Ez m_X10_computeClasses (d + 5) 11 [some (.ref 93), some (.int (nI (prv c k)))] [] E0 I1 J Q := by
    refine for_up ?_ ?_
    · intro I1 hi
      obtain ⟨i1, i2⟩ := hi
      have e0 : prv c (c 0) = (bisk c (c 0 + 1)).2 := by unfold prv; rw [if_neg (by omega), bis_rest w1.1 1]; exact congrArg Prod.snd (bis_rest w1.1 0)
      have pb : prv c (c 0) ≤ 6 := by rw [e0]; exact (bisk_bd w1 (c 0 + 1)).1
      have qb := (bisk_bd w1 (c 0 + 1)).1
      refine Ez.blk B_X10_computeClasses_11 (lo' := [some (.ref 93), some (.int (nI (prv c (c 0))))]) (st' := [.int (I1 93 14), .int (nI (prv c (c 0)))]) (I' := I1) (J' := J) (Ps := [aO E0 93 10]) rfl o_93 ?_
      refine Ez.n_icmp_eq (off := 20) (tgt := 36) (by decide +kernel) (by decide) (a := (prv c (c 0))) (b := (bisk c (c 0 + 1)).2) rfl i1.1 (by omega) (by omega) (fun h => ?_) (fun h => absurd e0 h)
      exact Ez.vret rfl (by decide +kernel) (hQ _ _ _ ⟨rfl, rfl, by rw [prv_rest w1 e0] at i1; exact i1, i2⟩)
    · intro k hk ih I1 hi
      obtain ⟨i1, i2⟩ := hi
      have pb : prv c k ≤ 6 := by unfold prv; split; omega; exact (bisk_bd w1 k).1
      have qb := bisk_bd w1 (k + 1)
      have qb1 := qb.1
      have c1 : MC c I1 := MC_fr hc (i2.1 94 (by decide) (by decide) (by decide))
      refine Ez.blk B_X10_computeClasses_11 (lo' := [some (.ref 93), some (.int (nI (prv c k)))]) (st' := [.int (I1 93 14), .int (nI (prv c k))]) (I' := I1) (J' := J) (Ps := [aO E0 93 10]) rfl o_93 ?_
      refine Ez.n_icmp_eq (off := 20) (tgt := 36) (by decide +kernel) (by decide) (a := (prv c k)) (b := (bisk c (k + 1)).2) rfl i1.1 (by omega) (by omega) (fun h => ?_) (fun h => ?_)
      · exact Ez.vret rfl (by decide +kernel) (hQ _ _ _ ⟨rfl, rfl, by rw [prv_rest w1 h] at i1; exact i1, i2⟩)
      · refine Ez.blk B_X10_computeClasses_19 (lo' := [some (.ref 93), some (.int (I1 93 14))]) (st' := [.int 0, .ref 93, .ref 93]) (I' := I1) (J' := J) (Ps := [aO E0 93 10]) rfl o_93 ?_
        rw [i1.1]
        refine Ez.callV (As := [.int 0]) (b := 93) (rest := [.ref 93]) kn_X10_number ml_10_199 im_X10_number se_X10_number rfl (by decide +kernel) rfl rfl (Nat.le_of_ble_eq_true rfl) (Nat.le_of_ble_eq_true rfl) o_93 (s_number0 _ I1 J c c1 W (bisk c (k + 1)) i1 qb.1 qb.2 (fun l s hl hs h => bisk_lab hl hs h)) (fun r I2 J2 hq => ?_)
        obtain ⟨rfl, rfl, k1, k2⟩ := hq
        refine Ez.blk B_X10_computeClasses_30 (lo' := [some (.ref 93), some (.int (nI ((bisk c (k + 1)).2)))]) (st' := []) (I' := (aUp I2 93 14 (nI ((nmb (agr c (bisk c (k + 1))) (c 0)).2)))) (J' := J2) (Ps := [aO E0 93 10]) rfl o_93 ?_
        have L0 := ih (aUp I2 93 14 (nI (nmb (agr c (bisk c (k + 1))) (c 0)).2)) ⟨⟨by rw [aUp_eq]; rfl, fun s hs => by rw [aUp_ne (by decide)]; exact k1 s hs⟩, fun q h0 h1 h2 => by rw [aUp_ne h0, k2 q h1 h2]; exact i2.1 q h0 h1 h2, fun j hj => by rw [aUp_nk hj, k2 93 (by decide) (by decide)]; exact i2.2 j hj⟩
        rw [show prv c (k + 1) = (bisk c (k + 1)).2 by unfold prv; rw [if_neg (by omega)]] at L0
        exact L0
  refine Ez.blk B_X10_computeClasses_0 (lo' := [some (.ref 93), none]) (st' := [.int 1, .ref 93, .ref 93]) (I' := I) (J' := J) (Ps := []) rfl trivial ?_
  refine Ez.callV (As := [.int 1]) (b := 93) (rest := [.ref 93]) kn_X10_number ml_10_199 im_X10_number se_X10_number rfl (by decide +kernel) rfl rfl (Nat.le_of_ble_eq_true rfl) (Nat.le_of_ble_eq_true rfl) o_93 (s_number1 _ I J c hc W) (fun r I1 J1 hq => ?_)
  obtain ⟨rfl, rfl, k1, k2⟩ := hq
  rw [bisk_1 W] at k1
  rw [bisk_1 W]
  refine Ez.blk B_X10_computeClasses_6 (lo' := [some (.ref 93), some (.int 0)]) (st' := []) (I' := (aUp I1 93 14 (nI ((bisk c 1).2)))) (J' := J1) (Ps := [aO E0 93 10]) rfl o_93 ?_
  exact L1 0 (by omega) _ ⟨⟨by rw [aUp_eq], fun s hs => by rw [aUp_ne (by decide)]; exact k1 s hs⟩, fun q h0 h1 h2 => by rw [aUp_ne h0]; exact k2 q h1 h2, fun j hj => by rw [aUp_nk hj, k2 93 (by decide) (by decide)]⟩
theorem m_bisc (d : Nat) (I : aI) (J : aJ) (T : TS) (W : WT T) (hP : MP T I J) (x : Int32) : Sp m_X10_bisimulationClass (d + 6) [.ref 93, .int x] E0 I J (fun r I' J' => r = some (.int (f_bisc T x).1) ∧ MP (f_bisc T x).2 I' J' ∧ Fr1 I I' J J') := by
  refine Sp.of (lo := [some (.ref 93), some (.int x)]) rfl (fun Q hQ => ?_)
  have w1 := W.1.1
  have w2 := W.1.2.1
  have wb := Wc_12 W.1
  refine Ez.blk B_X10_bisimulationClass_0 (lo' := [some (.ref 93), some (.int x)]) (st' := [.int x, .ref 93]) (I' := I) (J' := J) (Ps := []) rfl trivial ?_
  refine Ez.callV (As := [.int x]) (b := 93) (rest := []) kn_X10_isState ml_10_103 im_X10_isState se_X10_isState rfl (by decide +kernel) rfl rfl (Nat.le_of_ble_eq_true rfl) (Nat.le_of_ble_eq_true rfl) o_93 (s_isState _ I J (T.1 0) (hP.1 0 (by decide)) W.1.1 x) (fun r I1 J1 hq => ?_)
  obtain ⟨rfl, rfl, rfl⟩ := hq
  refine Ez.z_if_ne (off := 6) (tgt := 11) (by decide +kernel) (by decide) (fun h => ?_) (fun h => ?_)
  · obtain ⟨k, hk, rfl, hkc⟩ := st_of (by omega) h
    refine Ez.blk B_X10_bisimulationClass_11 (lo' := [some (.ref 93), some (.int (nI k))]) (st' := [.ref 93]) (I' := I1) (J' := J1) (Ps := []) rfl trivial ?_
    refine Ez.callV (As := []) (b := 93) (rest := []) kn_X10_computeClasses ml_10_203 im_X10_computeClasses se_X10_computeClasses rfl (by decide +kernel) rfl rfl (Nat.le_of_ble_eq_true rfl) (Nat.le_of_ble_eq_true rfl) o_93 (s_classes _ I1 J1 T.1 hP.1 W.1) (fun r I2 J2 hq => ?_)
    obtain ⟨rfl, rfl, k1, k2⟩ := hq
    have fm := FrM_B (J := J2) k2
    refine Ez.blk B_X10_bisimulationClass_15 (lo' := [some (.ref 93), some (.int (nI k))]) (st' := [.int (I2 104 ((nI k).toNatClampNeg))]) (I' := I2) (J' := J2) (Ps := [aO E0 93 10 ∧ E0.2.2 93 12 ≠ 0, aAr E0 1 104 (nI k)]) rfl ⟨r_93_12, (a_104 (vin (n := k) rfl (by omega) (by decide)))⟩ ?_
    rw [cln (x := nI k) (n := k) rfl (by omega)]
    rw [k1.2 k hk]
    exact Ez.iret rfl (by decide +kernel) (hQ _ _ _ (by unfold f_bisc; rw [if_pos h, hkc]; exact ⟨rfl, MP_M hP fm, Fr1_M fm⟩))
  · refine Ez.blk B_X10_bisimulationClass_8 (lo' := [some (.ref 93), some (.int x)]) (st' := [.int (-2)]) (I' := I1) (J' := J1) (Ps := []) rfl trivial ?_
    exact Ez.iret rfl (by decide +kernel) (hQ _ _ _ (by unfold f_bisc; rw [if_neg h]; exact ⟨rfl, hP, fun _ _ => ⟨rfl, rfl⟩⟩))
theorem m_bisn (d : Nat) (I : aI) (J : aJ) (T : TS) (W : WT T) (hP : MP T I J) : Sp m_X10_bisimulationClassCount (d + 6) [.ref 93] E0 I J (fun r I' J' => r = some (.int (nI (bis T.1).2)) ∧ MP T I' J' ∧ Fr1 I I' J J') := by
  refine Sp.of (lo := [some (.ref 93)]) rfl (fun Q hQ => ?_)
  have w1 := W.1.1
  have w2 := W.1.2.1
  have wb := Wc_12 W.1
  refine Ez.blk B_X10_bisimulationClassCount_0 (lo' := [some (.ref 93)]) (st' := [.ref 93]) (I' := I) (J' := J) (Ps := []) rfl trivial ?_
  refine Ez.callV (As := []) (b := 93) (rest := []) kn_X10_computeClasses ml_10_203 im_X10_computeClasses se_X10_computeClasses rfl (by decide +kernel) rfl rfl (Nat.le_of_ble_eq_true rfl) (Nat.le_of_ble_eq_true rfl) o_93 (s_classes _ I J T.1 hP.1 W.1) (fun r I2 J2 hq => ?_)
  obtain ⟨rfl, rfl, k1, k2⟩ := hq
  have fm := FrM_B (J := J2) k2
  refine Ez.blk B_X10_bisimulationClassCount_4 (lo' := [some (.ref 93)]) (st' := [.int (I2 93 14)]) (I' := I2) (J' := J2) (Ps := [aO E0 93 10]) rfl o_93 ?_
  rw [k1.1]
  exact Ez.iret rfl (by decide +kernel) (hQ _ _ _ ⟨rfl, MP_M hP fm, Fr1_M fm⟩)

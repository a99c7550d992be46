/-! BISIMULATION: classes by splitting -/
/-- the weight from a state to a part -/
def wtc (c g : Nat → Nat) (s k : Nat) : Nat := sm (fun u => if g u = k then c (10 + 6 * s + u) else 0) (c 0)
abbrev PN : Type := (Nat → Nat) × Nat
def agr (c : Nat → Nat) (p : PN) (l s : Nat) : Bool := decide (p.1 l = p.1 s) && decide (c (4 + l) = c (4 + s)) && (List.range p.2).all (fun k => decide (wtc c p.1 l k = wtc c p.1 s k))
theorem agr_iff {c : Nat → Nat} {p : PN} {l s : Nat} : agr c p l s = true ↔ p.1 l = p.1 s ∧ c (4 + l) = c (4 + s) ∧ ∀ k, k < p.2 → wtc c p.1 l k = wtc c p.1 s k := by
  unfold agr
  rw [Bool.and_eq_true, Bool.and_eq_true, List.all_eq_true]
  simp only [decide_eq_true_eq, List.mem_range]
  exact ⟨fun h => ⟨h.1.1, h.1.2, h.2⟩, fun h => ⟨⟨h.1, h.2.1⟩, h.2.2⟩⟩
/-- numbers by lowest states: each state joins the lowest one that it is like -/
def nmb (rel : Nat → Nat → Bool) : Nat → PN
  | 0 => (fun _ => 0, 0)
  | s + 1 => match ff (fun l => rel l s) s 0 with
    | some l => (cup (nmb rel s).1 s ((nmb rel s).1 l), (nmb rel s).2)
    | none => (cup (nmb rel s).1 s (nmb rel s).2, (nmb rel s).2 + 1)
def bisk (c : Nat → Nat) : Nat → PN
  | 0 => (fun _ => 0, 1)
  | k + 1 => nmb (agr c (bisk c k)) (c 0)
def bis (c : Nat → Nat) : PN := bisk c (c 0)
theorem ff_lt {P : Nat → Bool} : ∀ {f k m : Nat}, ff P f k = some m → m < k + f
  | 0, _, _, h => by cases h
  | f + 1, k, m, h => by
    have h : (if P k then some k else ff P f (k + 1)) = some m := h
    by_cases e : P k = true
    · rw [if_pos e] at h; cases h; omega
    · rw [if_neg e] at h; have := ff_lt h; omega
theorem ff_no {P : Nat → Bool} : ∀ {f k : Nat}, ff P f k = none → ∀ j, k ≤ j → j < k + f → P j = false
  | 0, _, _, j, h1, h2 => by omega
  | f + 1, k, h, j, h1, h2 => by
    have h : (if P k then some k else ff P f (k + 1)) = none := h
    by_cases e : P k = true
    · rw [if_pos e] at h; cases h
    · rw [if_neg e] at h
      by_cases ej : j = k
      · rw [ej]; exact Bool.eq_false_iff.mpr e
      · exact ff_no h j (by omega) (by omega)
theorem ff_min {P : Nat → Bool} : ∀ {f k m : Nat}, ff P f k = some m → ∀ j, k ≤ j → j < m → P j = false
  | 0, _, _, h, _, _, _ => by cases h
  | f + 1, k, m, h, j, h1, h2 => by
    have h : (if P k then some k else ff P f (k + 1)) = some m := h
    by_cases e : P k = true
    · rw [if_pos e] at h; cases h; omega
    · rw [if_neg e] at h
      by_cases ej : j = k
      · rw [ej]; exact Bool.eq_false_iff.mpr e
      · exact ff_min h j (by omega) h2
theorem nmb_some {rel : Nat → Nat → Bool} {s l : Nat} (h : ff (fun l => rel l s) s 0 = some l) : nmb rel (s + 1) = (cup (nmb rel s).1 s ((nmb rel s).1 l), (nmb rel s).2) := by
  show (match ff (fun l => rel l s) s 0 with | some l => (cup (nmb rel s).1 s ((nmb rel s).1 l), (nmb rel s).2) | none => (cup (nmb rel s).1 s (nmb rel s).2, (nmb rel s).2 + 1)) = _
  rw [h]
theorem nmb_none {rel : Nat → Nat → Bool} {s : Nat} (h : ff (fun l => rel l s) s 0 = none) : nmb rel (s + 1) = (cup (nmb rel s).1 s (nmb rel s).2, (nmb rel s).2 + 1) := by
  show (match ff (fun l => rel l s) s 0 with | some l => (cup (nmb rel s).1 s ((nmb rel s).1 l), (nmb rel s).2) | none => (cup (nmb rel s).1 s (nmb rel s).2, (nmb rel s).2 + 1)) = _
  rw [h]
theorem nmb_bd {rel : Nat → Nat → Bool} : ∀ n, (nmb rel n).2 ≤ n ∧ ∀ x, x < n → (nmb rel n).1 x < (nmb rel n).2
  | 0 => ⟨Nat.le_refl _, fun x hx => by omega⟩
  | s + 1 => by
    obtain ⟨h1, h2⟩ := nmb_bd (rel := rel) s
    cases h : ff (fun l => rel l s) s 0 with
    | some l =>
      have hl := ff_lt h
      rw [nmb_some h]
      refine ⟨by show (nmb rel s).2 ≤ s + 1; omega, fun x hx => ?_⟩
      show cup _ _ _ x < (nmb rel s).2
      by_cases e : x = s
      · rw [e, cup_eq]; exact h2 l (by omega)
      · rw [cup_ne e]; exact h2 x (by omega)
    | none =>
      rw [nmb_none h]
      refine ⟨by show (nmb rel s).2 + 1 ≤ s + 1; omega, fun x hx => ?_⟩
      show cup _ _ _ x < (nmb rel s).2 + 1
      by_cases e : x = s
      · rw [e, cup_eq]; omega
      · rw [cup_ne e]; have := h2 x (by omega); omega
theorem bisk_bd {c : Nat → Nat} (h : 1 ≤ c 0 ∧ c 0 ≤ 6) : ∀ k, (bisk c k).2 ≤ 6 ∧ ∀ x, x < c 0 → (bisk c k).1 x < (bisk c k).2
  | 0 => ⟨by show 1 ≤ 6; omega, fun x hx => by show 0 < 1; omega⟩
  | k + 1 => ⟨Nat.le_trans (nmb_bd (c 0)).1 h.2, (nmb_bd (c 0)).2⟩
/-- the parts as the class holds them -/
def Pt (I : aI) (n : Nat) (p : PN) : Prop := I 74 0 = nI p.2 ∧ ∀ s, s < n → I 75 s = nI (p.1 s)
theorem s_wtc (d : Nat) (I : aI) (J : aJ) (c : Nat → Nat) (hc : Ch I 2 c) (W : Wc c) (p : PN) (hp : Pt I (c 0) p) (hb : p.2 ≤ 6) (hq : ∀ u, u < c 0 → p.1 u < p.2) (s k : Nat) (hs : s < 6) (hk6 : k ≤ 6) : Sp m_X6_weightToClass (d + 1) [.ref 74, .ref 2, .int (nI s), .int (nI k)] E0 I J (fun r I' J' => r = some (.int (nI (wtc c p.1 s k))) ∧ I' = I ∧ J' = J) := by
  refine Sp.of (lo := [some (.ref 74), some (.ref 2), some (.int (nI s)), some (.int (nI k)), none, none]) rfl (fun Q hQ => ?_)
  have w1 := W.1
  have w2 := W.2.1
  have wl := W.2.2.2.1
  have w12 := Wc_w W
  obtain ⟨f, hf⟩ : ∃ f : Nat → Nat, f = fun u => if p.1 u = k then c (10 + 6 * s + u) else 0 := ⟨_, rfl⟩
  have hw : wtc c p.1 s k = sm f (c 0) := by rw [hf]; rfl
  rw [hw] at hQ
  have L1 : ∀ u, u ≤ c 0 → True → Ez m_X6_weightToClass (d + 1) 6 [some (.ref 74), some (.ref 2), some (.int (nI s)), some (.int (nI k)), some (.int (nI (sm f u))), some (.int (nI u))] [] E0 I J Q := by
    refine for_up ?_ ?_
    · intro hi
      refine Ez.blk B_X6_weightToClass_6 (lo' := [some (.ref 74), some (.ref 2), some (.int (nI s)), some (.int (nI k)), some (.int (nI (sm f (c 0)))), some (.int (nI (c 0)))]) (st' := [.int (I 2 0), .int (nI (c 0))]) (I' := I) (J' := J) (Ps := [aO E0 2 1]) rfl o_2 ?_
      refine Ez.n_icmp_ge (off := 37) (tgt := 49) (by decide +kernel) (by decide) (a := (c 0)) (b := (c 0)) rfl (hc.1 0 (by decide)) (by omega) (by omega) (fun h => ?_) (fun h => absurd h (by omega))
      refine Ez.blk B_X6_weightToClass_49 (lo' := [some (.ref 74), some (.ref 2), some (.int (nI s)), some (.int (nI k)), some (.int (nI (sm f (c 0)))), some (.int (nI (c 0)))]) (st' := [.int (nI (sm f (c 0)))]) (I' := I) (J' := J) (Ps := []) rfl trivial ?_
      exact Ez.iret rfl (by decide +kernel) (hQ _ _ _ ⟨rfl, rfl, rfl⟩)
    · intro u hu ih hi
      have pu := hq u hu
      refine Ez.blk B_X6_weightToClass_6 (lo' := [some (.ref 74), some (.ref 2), some (.int (nI s)), some (.int (nI k)), some (.int (nI (sm f u))), some (.int (nI u))]) (st' := [.int (I 2 0), .int (nI u)]) (I' := I) (J' := J) (Ps := [aO E0 2 1]) rfl o_2 ?_
      refine Ez.n_icmp_ge (off := 37) (tgt := 49) (by decide +kernel) (by decide) (a := u) (b := (c 0)) rfl (hc.1 0 (by decide)) (by omega) (by omega) (fun h => absurd h (by omega)) (fun h => ?_)
      refine Ez.blk B_X6_weightToClass_15 (lo' := [some (.ref 74), some (.ref 2), some (.int (nI s)), some (.int (nI k)), some (.int (nI (sm f u))), some (.int (nI u))]) (st' := [.int (nI k), .int (I 75 ((nI u).toNatClampNeg))]) (I' := I) (J' := J) (Ps := [aO E0 74 6 ∧ E0.2.2 74 1 ≠ 0, aAr E0 1 75 (nI u)]) rfl ⟨r_74_1, (a_75 (vin (n := u) rfl (by omega) (by decide)))⟩ ?_
      rw [cln (x := nI u) (n := u) rfl (by omega)]
      rw [hp.2 u hu]
      refine Ez.n_icmp_ne (off := 20) (tgt := 43) (by decide +kernel) (by decide) (a := (p.1 u)) (b := k) rfl rfl (by omega) (by omega) (fun h2 => ?_) (fun h2 => ?_)
      · refine Ez.blk B_X6_weightToClass_43 (lo' := [some (.ref 74), some (.ref 2), some (.int (nI s)), some (.int (nI k)), some (.int (nI (sm f u))), some (.int (nI u + 1))]) (st' := []) (I' := I) (J' := J) (Ps := []) rfl trivial ?_
        rw [show (nI u + 1) = nI (u + 1) from (eq_add (a := u) (b := 1) rfl rfl)]
        have ih := ih trivial
        rw [show sm f (u + 1) = sm f u by show sm f u + f u = _; rw [hf]; dsimp only; rw [if_neg h2]; rfl] at ih
        exact ih
      · refine Ez.blk B_X6_weightToClass_26 (lo' := [some (.ref 74), some (.ref 2), some (.int (nI s)), some (.int (nI k)), some (.int (nI (sm f u) + I 4 (((nI s * 6) + nI u).toNatClampNeg))), some (.int (nI u + 1))]) (st' := []) (I' := I) (J' := J) (Ps := [aO E0 2 1 ∧ E0.2.2 2 5 ≠ 0, aAr E0 1 4 ((nI s * 6) + nI u)]) rfl ⟨r_2_5, (a_4 (vin (n := (s * 6 + u)) (eq_add (a := (s * 6)) (b := u) (eq_mul (a := s) (b := 6) rfl rfl) rfl) (by omega) (by decide)))⟩ ?_
        rw [cln (x := ((nI s * 6) + nI u)) (n := (s * 6 + u)) (eq_add (a := (s * 6)) (b := u) (eq_mul (a := s) (b := 6) rfl rfl) rfl) (by omega)]
        rw [show (nI u + 1) = nI (u + 1) from (eq_add (a := u) (b := 1) rfl rfl)]
        rw [hc.2.2 (s * 6 + u) (by omega), nI_add, show sm f u + c (10 + (s * 6 + u)) = sm f (u + 1) by show _ = sm f u + f u; rw [hf]; dsimp only; rw [if_pos h2, show 10 + (s * 6 + u) = 10 + 6 * s + u by omega]]
        exact ih trivial
  refine Ez.blk B_X6_weightToClass_0 (lo' := [some (.ref 74), some (.ref 2), some (.int (nI s)), some (.int (nI k)), some (.int 0), some (.int 0)]) (st' := []) (I' := I) (J' := J) (Ps := []) rfl trivial ?_
  exact L1 0 (by omega) trivial
theorem wtc_bd {c g : Nat → Nat} (W : Wc c) {s k : Nat} (hs : s < 6) : wtc c g s k ≤ 72 := by
  have w12 := Wc_w W
  refine Nat.le_trans (sm_bd (m := 12) (fun u hu => ?_)) (by have := W.1; omega)
  by_cases e : g u = k
  · rw [if_pos e]; have := w12 (6 * s + u) (by have := W.1; omega); rw [show 10 + (6 * s + u) = 10 + 6 * s + u by omega] at this; exact this
  · rw [if_neg e]; omega
theorem s_agree (d : Nat) (I : aI) (J : aJ) (c : Nat → Nat) (hc : Ch I 2 c) (W : Wc c) (p : PN) (hp : Pt I (c 0) p) (hb : p.2 ≤ 6) (hq : ∀ u, u < c 0 → p.1 u < p.2) (l s : Nat) (hl : l < c 0) (hs : s < c 0) : Sp m_X6_agree (d + 2) [.ref 74, .ref 2, .int (nI l), .int (nI s)] E0 I J (fun r I' J' => r = some (.int (zb (agr c p l s = true))) ∧ I' = I ∧ J' = J) := by
  refine Sp.of (lo := [some (.ref 74), some (.ref 2), some (.int (nI l)), some (.int (nI s)), none]) rfl (fun Q hQ => ?_)
  have w1 := W.1
  have w2 := W.2.1
  have wl := W.2.2.2.1
  have w12 := Wc_w W
  have q1 := hq l hl
  have q2 := hq s hs
  have l1 := wl l (by omega)
  have l2 := wl s (by omega)
  have L1 : ∀ k, k ≤ p.2 → p.1 l = p.1 s ∧ c (4 + l) = c (4 + s) ∧ (∀ j, j < k → wtc c p.1 l j = wtc c p.1 s j) → Ez m_X6_agree (d + 2) 35 [some (.ref 74), some (.ref 2), some (.int (nI l)), some (.int (nI s)), some (.int (nI k))] [] E0 I J Q := by
    refine for_up ?_ ?_
    · intro hi
      refine Ez.blk B_X6_agree_35 (lo' := [some (.ref 74), some (.ref 2), some (.int (nI l)), some (.int (nI s)), some (.int (nI p.2))]) (st' := [.int (I 74 0), .int (nI p.2)]) (I' := I) (J' := J) (Ps := [aO E0 74 6]) rfl o_74 ?_
      refine Ez.n_icmp_ge (off := 30) (tgt := 71) (by decide +kernel) (by decide) (a := p.2) (b := p.2) rfl hp.1 (by omega) (by omega) (fun h => ?_) (fun h => absurd h (by omega))
      refine Ez.blk B_X6_agree_71 (lo' := [some (.ref 74), some (.ref 2), some (.int (nI l)), some (.int (nI s)), some (.int (nI p.2))]) (st' := [.int 1]) (I' := I) (J' := J) (Ps := []) rfl trivial ?_
      exact Ez.zret rfl (Or.inr rfl) (by decide +kernel) (hQ _ _ _ ⟨by rw [zb_t (agr_iff.mpr hi)], rfl, rfl⟩)
    · intro k hk ih hi
      refine Ez.blk B_X6_agree_35 (lo' := [some (.ref 74), some (.ref 2), some (.int (nI l)), some (.int (nI s)), some (.int (nI k))]) (st' := [.int (I 74 0), .int (nI k)]) (I' := I) (J' := J) (Ps := [aO E0 74 6]) rfl o_74 ?_
      refine Ez.n_icmp_ge (off := 30) (tgt := 71) (by decide +kernel) (by decide) (a := k) (b := p.2) rfl hp.1 (by omega) (by omega) (fun h => absurd h (by omega)) (fun h => ?_)
      refine Ez.blk B_X6_agree_44 (lo' := [some (.ref 74), some (.ref 2), some (.int (nI l)), some (.int (nI s)), some (.int (nI k))]) (st' := [.int (nI k), .int (nI l), .ref 2, .ref 74]) (I' := I) (J' := J) (Ps := []) rfl trivial ?_
      refine Ez.callV (As := [.ref 2, .int (nI l), .int (nI k)]) (b := 74) (rest := []) kn_X6_weightToClass ml_6_44 im_X6_weightToClass se_X6_weightToClass rfl (by decide +kernel) rfl rfl (Nat.le_of_ble_eq_true rfl) (Nat.le_of_ble_eq_true rfl) o_74 (s_wtc _ I J c hc W p hp hb hq l k (by omega) (by omega)) (fun r I2 J2 hq2 => ?_)
      obtain ⟨rfl, rfl, rfl⟩ := hq2
      refine Ez.blk B_X6_agree_52 (lo' := [some (.ref 74), some (.ref 2), some (.int (nI l)), some (.int (nI s)), some (.int (nI k))]) (st' := [.int (nI k), .int (nI s), .ref 2, .ref 74, .int (nI (wtc c p.1 l k))]) (I' := I2) (J' := J2) (Ps := []) rfl trivial ?_
      refine Ez.callV (As := [.ref 2, .int (nI s), .int (nI k)]) (b := 74) (rest := [.int (nI (wtc c p.1 l k))]) kn_X6_weightToClass ml_6_44 im_X6_weightToClass se_X6_weightToClass rfl (by decide +kernel) rfl rfl (Nat.le_of_ble_eq_true rfl) (Nat.le_of_ble_eq_true rfl) o_74 (s_wtc _ I2 J2 c hc W p hp hb hq s k (by omega) (by omega)) (fun r I3 J3 hq2 => ?_)
      obtain ⟨rfl, rfl, rfl⟩ := hq2
      have b1 := wtc_bd (g := p.1) (k := k) W (show l < 6 by omega)
      have b2 := wtc_bd (g := p.1) (k := k) W (show s < 6 by omega)
      refine Ez.n_icmp_eq (off := 5) (tgt := 65) (by decide +kernel) (by decide) (a := (wtc c p.1 l k)) (b := (wtc c p.1 s k)) rfl rfl (by omega) (by omega) (fun h2 => ?_) (fun h2 => ?_)
      · refine Ez.blk B_X6_agree_65 (lo' := [some (.ref 74), some (.ref 2), some (.int (nI l)), some (.int (nI s)), some (.int (nI k + 1))]) (st' := []) (I' := I3) (J' := J3) (Ps := []) rfl trivial ?_
        rw [show (nI k + 1) = nI (k + 1) from (eq_add (a := k) (b := 1) rfl rfl)]
        exact ih ⟨hi.1, hi.2.1, fun j hj => by
          by_cases e : j = k
          · rw [e]; exact h2
          · exact hi.2.2 j (by omega)⟩
      · refine Ez.blk B_X6_agree_63 (lo' := [some (.ref 74), some (.ref 2), some (.int (nI l)), some (.int (nI s)), some (.int (nI k))]) (st' := [.int 0]) (I' := I3) (J' := J3) (Ps := []) rfl trivial ?_
        exact Ez.zret rfl (Or.inl rfl) (by decide +kernel) (hQ _ _ _ ⟨by rw [zb_f (fun z => h2 ((agr_iff.mp z).2.2 k hk))], rfl, rfl⟩)
  refine Ez.blk B_X6_agree_0 (lo' := [some (.ref 74), some (.ref 2), some (.int (nI l)), some (.int (nI s)), none]) (st' := [.int (I 75 ((nI s).toNatClampNeg)), .int (I 75 ((nI l).toNatClampNeg))]) (I' := I) (J' := J) (Ps := [aO E0 74 6 ∧ E0.2.2 74 1 ≠ 0, aAr E0 1 75 (nI l), aO E0 74 6 ∧ E0.2.2 74 1 ≠ 0, aAr E0 1 75 (nI s)]) rfl ⟨r_74_1, (a_75 (vin (n := l) rfl (by omega) (by decide))), r_74_1, (a_75 (vin (n := s) rfl (by omega) (by decide)))⟩ ?_
  rw [cln (x := nI l) (n := l) rfl (by omega)]
  rw [cln (x := nI s) (n := s) rfl (by omega)]
  rw [hp.2 l hl]
  rw [hp.2 s hs]
  refine Ez.n_icmp_ne (off := 18) (tgt := 30) (by decide +kernel) (by decide) (a := (p.1 l)) (b := (p.1 s)) rfl rfl (by omega) (by omega) (fun h => ?_) (fun h => ?_)
  · refine Ez.blk B_X6_agree_30 (lo' := [some (.ref 74), some (.ref 2), some (.int (nI l)), some (.int (nI s)), none]) (st' := [.int 0]) (I' := I) (J' := J) (Ps := []) rfl trivial ?_
    exact Ez.zret rfl (Or.inl rfl) (by decide +kernel) (hQ _ _ _ ⟨by rw [zb_f (fun z => h (agr_iff.mp z).1)], rfl, rfl⟩)
  · refine Ez.blk B_X6_agree_15 (lo' := [some (.ref 74), some (.ref 2), some (.int (nI l)), some (.int (nI s)), none]) (st' := [.int (I 3 ((nI s).toNatClampNeg)), .int (I 3 ((nI l).toNatClampNeg))]) (I' := I) (J' := J) (Ps := [aO E0 2 1 ∧ E0.2.2 2 4 ≠ 0, aAr E0 1 3 (nI l), aO E0 2 1 ∧ E0.2.2 2 4 ≠ 0, aAr E0 1 3 (nI s)]) rfl ⟨r_2_4, (a_3 (vin (n := l) rfl (by omega) (by decide))), r_2_4, (a_3 (vin (n := s) rfl (by omega) (by decide)))⟩ ?_
    rw [cln (x := nI l) (n := l) rfl (by omega)]
    rw [cln (x := nI s) (n := s) rfl (by omega)]
    rw [hc.2.1 l (by omega)]
    rw [hc.2.1 s (by omega)]
    refine Ez.n_icmp_eq (off := 5) (tgt := 32) (by decide +kernel) (by decide) (a := (c (4 + l))) (b := (c (4 + s))) rfl rfl (by omega) (by omega) (fun h2 => ?_) (fun h2 => ?_)
    · refine Ez.blk B_X6_agree_32 (lo' := [some (.ref 74), some (.ref 2), some (.int (nI l)), some (.int (nI s)), some (.int 0)]) (st' := []) (I' := I) (J' := J) (Ps := []) rfl trivial ?_
      exact L1 0 (by omega) ⟨h, h2, fun j hj => by omega⟩
    · refine Ez.blk B_X6_agree_30 (lo' := [some (.ref 74), some (.ref 2), some (.int (nI l)), some (.int (nI s)), none]) (st' := [.int 0]) (I' := I) (J' := J) (Ps := []) rfl trivial ?_
      exact Ez.zret rfl (Or.inl rfl) (by decide +kernel) (hQ _ _ _ ⟨by rw [zb_f (fun z => h2 (agr_iff.mp z).2.1)], rfl, rfl⟩)
theorem s_refine (d : Nat) (I : aI) (J : aJ) (c : Nat → Nat) (hc : Ch I 2 c) (W : Wc c) (p : PN) (hp : Pt I (c 0) p) (hb : p.2 ≤ 6) (hq : ∀ u, u < c 0 → p.1 u < p.2) : Sp m_X6_refineOnce (d + 3) [.ref 74, .ref 2] E0 I J (fun r I' J' => r = none ∧ J' = J ∧ Pt I' (c 0) (nmb (agr c p) (c 0)) ∧ ∀ q, ¬ (74 ≤ q ∧ q ≤ 76) → I' q = I q) := by
  refine Sp.of (lo := [some (.ref 74), some (.ref 2), none, none, none]) rfl (fun Q hQ => ?_)
  have w1 := W.1
  have w2 := W.2.1
  have wl := W.2.2.2.1
  have w12 := Wc_w W
  obtain ⟨rel, hrel⟩ : ∃ rel, rel = agr c p := ⟨_, rfl⟩
  rw [← hrel] at hQ
  have nb : ∀ n, (nmb rel n).2 ≤ n ∧ ∀ x, x < n → (nmb rel n).1 x < (nmb rel n).2 := nmb_bd
  have L1 : ∀ s, s ≤ c 0 → ∀ (I1 : aI), ((∀ x, x < s → I1 76 x = nI ((nmb rel s).1 x)) ∧ ∀ q, q ≠ 76 → I1 q = I q) → Ez m_X6_refineOnce (d + 3) 4 [some (.ref 74), some (.ref 2), some (.int (nI ((nmb rel s).2))), some (.int (nI s)), none] [] E0 I1 J Q := by
    refine for_up ?_ ?_
    · intro I1 hi
      have n0 := nb (c 0)
      refine Ez.blk B_X6_refineOnce_4 (lo' := [some (.ref 74), some (.ref 2), some (.int (nI ((nmb rel (c 0)).2))), some (.int (nI (c 0))), none]) (st' := [.int (I1 2 0), .int (nI (c 0))]) (I' := I1) (J' := J) (Ps := [aO E0 2 1]) rfl o_2 ?_
      refine Ez.n_icmp_ge (off := 67) (tgt := 76) (by decide +kernel) (by decide) (a := (c 0)) (b := (c 0)) rfl (by rw [hi.2 2 (by omega)]; exact hc.1 0 (by decide)) (by omega) (by omega) (fun h => ?_) (fun h => absurd h (by omega))
      refine Ez.blk B_X6_refineOnce_76 (lo' := [some (.ref 74), some (.ref 2), some (.int (nI ((nmb rel (c 0)).2))), some (.int (nI (c 0))), none]) (st' := []) (I' := (aUp (aRw I1 75 (va_cpy (I1 76) (I1 75) 0 0 6)) 74 0 (nI ((nmb rel (c 0)).2)))) (J' := J) (Ps := [aO E0 74 6 ∧ E0.2.2 74 2 ≠ 0, aO E0 74 6 ∧ E0.2.2 74 1 ≠ 0, aCp E0 1 76 75 0 0 6, aO E0 74 6]) rfl ⟨r_74_2, r_74_1, (cpy_ok (s0 := 0) (d0 := 0) (m := 6) q_76 q_75 rfl rfl rfl (by omega) (by omega) (by omega) (by omega) (by omega)), o_74⟩ ?_
      generalize hI2 : (aUp (aRw I1 75 (va_cpy (I1 76) (I1 75) 0 0 6)) 74 0 (nI ((nmb rel (c 0)).2))) = I2
      exact Ez.vret rfl (by decide +kernel) (hQ _ _ _ ⟨rfl, rfl, ⟨by rw [← hI2, aUp_eq], fun x hx => by rw [← hI2, aUp_ne (by decide), aRw_at, cp0 (by omega)]; exact hi.1 x hx⟩, fun q hq2 => by rw [← hI2, aUp_ne (by omega), aRw_ne (by omega)]; exact hi.2 q (by omega)⟩)
    · intro s hs ih I1 hi
      have n0 := nb s
      have hc1 : Ch I1 2 c := Ch_eq hc (hi.2 _ (by omega)) (hi.2 _ (by omega)) (hi.2 _ (by omega))
      have hp1 : Pt I1 (c 0) p := ⟨by rw [hi.2 74 (by omega)]; exact hp.1, fun x hx => by rw [hi.2 75 (by omega)]; exact hp.2 x hx⟩
      refine Ez.blk B_X6_refineOnce_4 (lo' := [some (.ref 74), some (.ref 2), some (.int (nI ((nmb rel s).2))), some (.int (nI s)), none]) (st' := [.int (I1 2 0), .int (nI s)]) (I' := I1) (J' := J) (Ps := [aO E0 2 1]) rfl o_2 ?_
      refine Ez.n_icmp_ge (off := 67) (tgt := 76) (by decide +kernel) (by decide) (a := s) (b := (c 0)) rfl (by rw [hi.2 2 (by omega)]; exact hc.1 0 (by decide)) (by omega) (by omega) (fun h => absurd h (by omega)) (fun h => ?_)
      refine Ez.blk B_X6_refineOnce_12 (lo' := [some (.ref 74), some (.ref 2), some (.int (nI ((nmb rel s).2))), some (.int (nI s)), some (.int 0)]) (st' := []) (I' := I1) (J' := J) (Ps := []) rfl trivial ?_
      have L2 : ∀ l, l ≤ s → (∀ j, j < l → rel j s = false) → Ez m_X6_refineOnce (d + 3) 15 [some (.ref 74), some (.ref 2), some (.int (nI ((nmb rel s).2))), some (.int (nI s)), some (.int (nI l))] [] E0 I1 J Q := by
        refine for_up ?_ ?_
        · intro hl
          have hf : ff (fun l => rel l s) s 0 = none := ff_none s 0 (fun j _ hj => hl j (by omega))
          refine Ez.blk B_X6_refineOnce_15 (lo' := [some (.ref 74), some (.ref 2), some (.int (nI ((nmb rel s).2))), some (.int (nI s)), some (.int (nI s))]) (st' := [.int (nI s), .int (nI s)]) (I' := I1) (J' := J) (Ps := []) rfl trivial ?_
          refine Ez.n_icmp_ge (off := 20) (tgt := 38) (by decide +kernel) (by decide) (a := s) (b := s) rfl rfl (by omega) (by omega) (fun h9 => ?_) (fun h9 => absurd h9 (by omega))
          refine Ez.blk B_X6_refineOnce_38 (lo' := [some (.ref 74), some (.ref 2), some (.int (nI ((nmb rel s).2))), some (.int (nI s)), some (.int (nI s))]) (st' := [.int (nI s), .int (nI s)]) (I' := I1) (J' := J) (Ps := []) rfl trivial ?_
          refine Ez.n_icmp_ge (off := 19) (tgt := 60) (by decide +kernel) (by decide) (a := s) (b := s) rfl rfl (by omega) (by omega) (fun h9 => ?_) (fun h9 => absurd h9 (by omega))
          refine Ez.blk B_X6_refineOnce_60 (lo' := [some (.ref 74), some (.ref 2), some (.int (nI ((nmb rel s).2) + 1)), some (.int (nI s + 1)), some (.int (nI s))]) (st' := []) (I' := (aUp I1 76 ((nI s).toNatClampNeg) (nI ((nmb rel s).2)))) (J' := J) (Ps := [aO E0 74 6 ∧ E0.2.2 74 2 ≠ 0, aAr E0 1 76 (nI s)]) rfl ⟨r_74_2, (a_76 (vin (n := s) rfl (by omega) (by decide)))⟩ ?_
          rw [cln (x := nI s) (n := s) rfl (by omega)]
          rw [show (nI ((nmb rel s).2) + 1) = nI ((nmb rel s).2 + 1) from (eq_add (a := (nmb rel s).2) (b := 1) rfl rfl)]
          rw [show (nI s + 1) = nI (s + 1) from (eq_add (a := s) (b := 1) rfl rfl)]
          refine Ez.drops [4] (lo' := [some (.ref 74), some (.ref 2), some (.int (nI ((nmb rel s).2 + 1))), some (.int (nI (s + 1))), none]) rfl ?_
          have ih := ih (aUp I1 76 s (nI (nmb rel s).2)) ⟨fun x hx => by
            rw [nmb_none hf]
            show _ = nI (cup _ _ _ x)
            by_cases e : x = s
            · rw [e, aUp_eq, cup_eq]
            · rw [aUp_nk e, cup_ne e]; exact hi.1 x (by omega), fun q hq2 => by rw [aUp_ne hq2]; exact hi.2 q hq2⟩
          rw [nmb_none hf] at ih
          exact ih
        · intro l hls ih2 hl
          refine Ez.blk B_X6_refineOnce_15 (lo' := [some (.ref 74), some (.ref 2), some (.int (nI ((nmb rel s).2))), some (.int (nI s)), some (.int (nI l))]) (st' := [.int (nI s), .int (nI l)]) (I' := I1) (J' := J) (Ps := []) rfl trivial ?_
          refine Ez.n_icmp_ge (off := 20) (tgt := 38) (by decide +kernel) (by decide) (a := l) (b := s) rfl rfl (by omega) (by omega) (fun h9 => absurd h9 (by omega)) (fun h9 => ?_)
          refine Ez.blk B_X6_refineOnce_21 (lo' := [some (.ref 74), some (.ref 2), some (.int (nI ((nmb rel s).2))), some (.int (nI s)), some (.int (nI l))]) (st' := [.int (nI s), .int (nI l), .ref 2, .ref 74]) (I' := I1) (J' := J) (Ps := []) rfl trivial ?_
          refine Ez.callV (As := [.ref 2, .int (nI l), .int (nI s)]) (b := 74) (rest := []) kn_X6_agree ml_6_31 im_X6_agree se_X6_agree rfl (by decide +kernel) rfl rfl (Nat.le_of_ble_eq_true rfl) (Nat.le_of_ble_eq_true rfl) o_74 (s_agree _ I1 J c hc1 W p hp1 hb hq l s (by omega) hs) (fun r I3 J3 hq2 => ?_)
          obtain ⟨rfl, rfl, rfl⟩ := hq2
          rw [← hrel]
          refine Ez.z_if_ne (off := 9) (tgt := 38) (by decide +kernel) (by decide) (fun h2 => ?_) (fun h2 => ?_)
          · have hf : ff (fun l => rel l s) s 0 = some l := ff_some (P := fun l => rel l s) s 0 l (Nat.zero_le _) (by omega) h2 (fun j _ hj => hl j hj)
            have hnl := n0.2 l hls
            refine Ez.blk B_X6_refineOnce_38 (lo' := [some (.ref 74), some (.ref 2), some (.int (nI ((nmb rel s).2))), some (.int (nI s)), some (.int (nI l))]) (st' := [.int (nI s), .int (nI l)]) (I' := I3) (J' := J3) (Ps := []) rfl trivial ?_
            refine Ez.n_icmp_ge (off := 19) (tgt := 60) (by decide +kernel) (by decide) (a := l) (b := s) rfl rfl (by omega) (by omega) (fun h9 => absurd h9 (by omega)) (fun h9 => ?_)
            refine Ez.blk B_X6_refineOnce_44 (lo' := [some (.ref 74), some (.ref 2), some (.int (nI ((nmb rel s).2))), some (.int (nI s)), some (.int (nI l))]) (st' := []) (I' := (aUp I3 76 ((nI s).toNatClampNeg) (I3 76 ((nI l).toNatClampNeg)))) (J' := J3) (Ps := [aO E0 74 6 ∧ E0.2.2 74 2 ≠ 0, aO E0 74 6 ∧ E0.2.2 74 2 ≠ 0, aAr E0 1 76 (nI l), aAr E0 1 76 (nI s)]) rfl ⟨r_74_2, r_74_2, (a_76 (vin (n := l) rfl (by omega) (by decide))), (a_76 (vin (n := s) rfl (by omega) (by decide)))⟩ ?_
            rw [cln (x := nI l) (n := l) rfl (by omega)]
            rw [cln (x := nI s) (n := s) rfl (by omega)]
            refine Ez.blk B_X6_refineOnce_70 (lo' := [some (.ref 74), some (.ref 2), some (.int (nI ((nmb rel s).2))), some (.int (nI s + 1)), some (.int (nI l))]) (st' := []) (I' := (aUp I3 76 s (I3 76 l))) (J' := J3) (Ps := []) rfl trivial ?_
            rw [show (nI s + 1) = nI (s + 1) from (eq_add (a := s) (b := 1) rfl rfl)]
            rw [hi.1 l hls]
            refine Ez.drops [4] (lo' := [some (.ref 74), some (.ref 2), some (.int (nI ((nmb rel s).2))), some (.int (nI (s + 1))), none]) rfl ?_
            have ih := ih (aUp I3 76 s (nI ((nmb rel s).1 l))) ⟨fun x hx => by
              rw [nmb_some hf]
              show _ = nI (cup _ _ _ x)
              by_cases e : x = s
              · rw [e, aUp_eq, cup_eq]
              · rw [aUp_nk e, cup_ne e]; exact hi.1 x (by omega), fun q hq2 => by rw [aUp_ne hq2]; exact hi.2 q hq2⟩
            rw [nmb_some hf] at ih
            exact ih
          · refine Ez.blk B_X6_refineOnce_32 (lo' := [some (.ref 74), some (.ref 2), some (.int (nI ((nmb rel s).2))), some (.int (nI s)), some (.int (nI l + 1))]) (st' := []) (I' := I3) (J' := J3) (Ps := []) rfl trivial ?_
            rw [show (nI l + 1) = nI (l + 1) from (eq_add (a := l) (b := 1) rfl rfl)]
            exact ih2 (fun j hj => by
              by_cases e : j = l
              · rw [e]; exact Bool.eq_false_iff.mpr h2
              · exact hl j (by omega))
      exact L2 0 (by omega) (fun j hj => by omega)
  refine Ez.blk B_X6_refineOnce_0 (lo' := [some (.ref 74), some (.ref 2), some (.int 0), some (.int 0), none]) (st' := []) (I' := I) (J' := J) (Ps := []) rfl trivial ?_
  exact L1 0 (by omega) I ⟨fun x hx => by omega, fun _ _ => rfl⟩
theorem s_full (d : Nat) (I : aI) (J : aJ) (c : Nat → Nat) (hc : Ch I 2 c) (W : Wc c) : Sp m_X6_refineFully (d + 4) [.ref 74, .ref 2] E0 I J (fun r I' J' => r = none ∧ J' = J ∧ Pt I' (c 0) (bis c) ∧ ∀ q, ¬ (74 ≤ q ∧ q ≤ 76) → I' q = I q) := by
  refine Sp.of (lo := [some (.ref 74), some (.ref 2), none]) rfl (fun Q hQ => ?_)
  have w1 := W.1
  have w2 := W.2.1
  have wl := W.2.2.2.1
  have w12 := Wc_w W
  have nb := bisk_bd W.1
  have L2 : ∀ k, k ≤ c 0 → ∀ (I1 : aI), (Pt I1 (c 0) (bisk c k) ∧ ∀ q, ¬ (74 ≤ q ∧ q ≤ 76) → I1 q = I q) → Ez m_X6_refineFully (d + 4) 28 [some (.ref 74), some (.ref 2), some (.int (nI k))] [] E0 I1 J Q := by
    refine for_up ?_ ?_
    · intro I1 hi
      refine Ez.blk B_X6_refineFully_28 (lo' := [some (.ref 74), some (.ref 2), some (.int (nI (c 0)))]) (st' := [.int (I1 2 0), .int (nI (c 0))]) (I' := I1) (J' := J) (Ps := [aO E0 2 1]) rfl o_2 ?_
      refine Ez.n_icmp_ge (off := 14) (tgt := 47) (by decide +kernel) (by decide) (a := (c 0)) (b := (c 0)) rfl (by rw [hi.2 2 (by omega)]; exact hc.1 0 (by decide)) (by omega) (by omega) (fun h => ?_) (fun h => absurd h (by omega))
      exact Ez.vret rfl (by decide +kernel) (hQ _ _ _ ⟨rfl, rfl, hi.1, hi.2⟩)
    · intro k hk ih I1 hi
      have hc1 : Ch I1 2 c := Ch_eq hc (hi.2 _ (by omega)) (hi.2 _ (by omega)) (hi.2 _ (by omega))
      refine Ez.blk B_X6_refineFully_28 (lo' := [some (.ref 74), some (.ref 2), some (.int (nI k))]) (st' := [.int (I1 2 0), .int (nI k)]) (I' := I1) (J' := J) (Ps := [aO E0 2 1]) rfl o_2 ?_
      refine Ez.n_icmp_ge (off := 14) (tgt := 47) (by decide +kernel) (by decide) (a := k) (b := (c 0)) rfl (by rw [hi.2 2 (by omega)]; exact hc.1 0 (by decide)) (by omega) (by omega) (fun h => absurd h (by omega)) (fun h => ?_)
      refine Ez.blk B_X6_refineFully_36 (lo' := [some (.ref 74), some (.ref 2), some (.int (nI k))]) (st' := [.ref 2, .ref 74]) (I' := I1) (J' := J) (Ps := []) rfl trivial ?_
      refine Ez.callV (As := [.ref 2]) (b := 74) (rest := []) kn_X6_refineOnce ml_6_27 im_X6_refineOnce se_X6_refineOnce rfl (by decide +kernel) rfl rfl (Nat.le_of_ble_eq_true rfl) (Nat.le_of_ble_eq_true rfl) o_74 (s_refine _ I1 J c hc1 W (bisk c k) hi.1 (nb k).1 (nb k).2) (fun r I2 J2 hq => ?_)
      obtain ⟨rfl, rfl, k1, k2⟩ := hq
      refine Ez.blk B_X6_refineFully_41 (lo' := [some (.ref 74), some (.ref 2), some (.int (nI k + 1))]) (st' := []) (I' := I2) (J' := J2) (Ps := []) rfl trivial ?_
      rw [show (nI k + 1) = nI (k + 1) from (eq_add (a := k) (b := 1) rfl rfl)]
      exact ih I2 ⟨k1, fun q hq => by rw [k2 q hq]; exact hi.2 q hq⟩
  have L1 : ∀ k, k ≤ 6 → ∀ (I1 : aI), ((∀ x, x < k → I1 75 x = 0) ∧ ∀ q, q ≠ 75 → I1 q = I q) → Ez m_X6_refineFully (d + 4) 2 [some (.ref 74), some (.ref 2), some (.int (nI k))] [] E0 I1 J Q := by
    refine for_up ?_ ?_
    · intro I1 hi
      refine Ez.blk B_X6_refineFully_2 (lo' := [some (.ref 74), some (.ref 2), some (.int (nI 6))]) (st' := [.int 6, .int (nI 6)]) (I' := I1) (J' := J) (Ps := []) rfl trivial ?_
      refine Ez.n_icmp_ge (off := 16) (tgt := 21) (by decide +kernel) (by decide) (a := 6) (b := 6) rfl rfl (by omega) (by omega) (fun h => ?_) (fun h => absurd h (by omega))
      refine Ez.blk B_X6_refineFully_21 (lo' := [some (.ref 74), some (.ref 2), some (.int 0)]) (st' := []) (I' := (aUp I1 74 0 1)) (J' := J) (Ps := [aO E0 74 6]) rfl o_74 ?_
      generalize hI2 : (aUp I1 74 0 1) = I2
      exact L2 0 (by omega) I2 ⟨⟨by rw [← hI2, aUp_eq]; rfl, fun x hx => by rw [← hI2, aUp_ne (by decide), hi.1 x (by omega)]; rfl⟩, fun q hq => by rw [← hI2, aUp_ne (by omega)]; exact hi.2 q (by omega)⟩
    · intro k hk ih I1 hi
      refine Ez.blk B_X6_refineFully_2 (lo' := [some (.ref 74), some (.ref 2), some (.int (nI k))]) (st' := [.int 6, .int (nI k)]) (I' := I1) (J' := J) (Ps := []) rfl trivial ?_
      refine Ez.n_icmp_ge (off := 16) (tgt := 21) (by decide +kernel) (by decide) (a := k) (b := 6) rfl rfl (by omega) (by omega) (fun h => absurd h (by omega)) (fun h => ?_)
      refine Ez.blk B_X6_refineFully_8 (lo' := [some (.ref 74), some (.ref 2), some (.int (nI k + 1))]) (st' := []) (I' := (aUp I1 75 ((nI k).toNatClampNeg) 0)) (J' := J) (Ps := [aO E0 74 6 ∧ E0.2.2 74 1 ≠ 0, aAr E0 1 75 (nI k)]) rfl ⟨r_74_1, (a_75 (vin (n := k) rfl (by omega) (by decide)))⟩ ?_
      rw [cln (x := nI k) (n := k) rfl (by omega)]
      rw [show (nI k + 1) = nI (k + 1) from (eq_add (a := k) (b := 1) rfl rfl)]
      exact ih _ ⟨fun x hx => by
        by_cases e : x = k
        · rw [e, aUp_eq]
        · rw [aUp_nk e]; exact hi.1 x (by omega), fun q hq => by rw [aUp_ne hq]; exact hi.2 q hq⟩
  refine Ez.blk B_X6_refineFully_0 (lo' := [some (.ref 74), some (.ref 2), some (.int 0)]) (st' := []) (I' := I) (J' := J) (Ps := []) rfl trivial ?_
  exact L1 0 (by omega) I ⟨fun x hx => by omega, fun _ _ => rfl⟩
def f_bisc (T : TS) (x : Int32) : Int32 × TS := if isS T x then (nI ((bis T.1).1 x.toNatClampNeg), T) else (-2, T)
/-- the parts' rows are nobody's -/
theorem CP_pt {T : TS} {I I' : aI} {J : aJ} (h : CP T I J) (hI : ∀ q, ¬ (74 ≤ q ∧ q ≤ 76) → I' q = I q) : CP T I' J := ⟨Ch_eq h.1 (hI _ (by omega)) (hI _ (by omega)) (hI _ (by omega)), CEd_fr h.2.1 (fun b _ => hI b (by omega)), CSn_fr h.2.2.1 (hI _ (by omega)) (fun b _ _ => hI b (by omega)), CBuf_fr h.2.2.2.1 (hI _ (by omega)) (hI _ (by omega)), CSl_fr h.2.2.2.2.1 (hI _ (by omega)) (hI _ (by omega)) (fun _ _ _ => rfl), CCa_fr h.2.2.2.2.2 (fun b _ _ => hI b (by omega)) (fun _ _ _ => rfl)⟩
theorem c_bisc (d : Nat) (I : aI) (J : aJ) (T : TS) (W : WT T) (hP : CP T I J) (x : Int32) : Sp m_X9_bisimulationClass (d + 5) [.ref 1, .int x] E0 I J (fun r I' J' => r = some (.int (f_bisc T x).1) ∧ CP (f_bisc T x).2 I' J' ∧ Fr9 I I' J J') := by
  refine Sp.of (lo := [some (.ref 1), some (.int x)]) rfl (fun Q hQ => ?_)
  have w1 := W.1.1
  have w2 := W.1.2.1
  have wb := Wc_12 W.1
  refine Ez.blk B_X9_bisimulationClass_0 (lo' := [some (.ref 1), some (.int x)]) (st' := [.int x, .ref 2]) (I' := I) (J' := J) (Ps := [aO E0 1 9 ∧ E0.2.2 1 0 ≠ 0]) rfl r_1_0 ?_
  refine Ez.callV (As := [.int x]) (b := 2) (rest := []) kn_X1_has ml_9_95 im_X1_has se_X1_has rfl (by decide +kernel) rfl rfl (Nat.le_of_ble_eq_true rfl) (Nat.le_of_ble_eq_true rfl) o_2 (s_has _ E0 I J 2 (x) o_2) (fun r I1 J1 hq => ?_)
  obtain ⟨rfl, rfl, rfl⟩ := hq
  rw [hP.1.1 0 (by decide)]
  refine Ez.z_if_ne (off := 6) (tgt := 14) (by decide +kernel) (by decide) (fun h => ?_) (fun h => ?_)
  · obtain ⟨k, hk, rfl, hkc⟩ := st_of (by omega) h
    refine Ez.blk B_X9_bisimulationClass_14 (lo' := [some (.ref 1), some (.int (nI k))]) (st' := [.ref 2, .ref 74]) (I' := I1) (J' := J1) (Ps := [aO E0 1 9 ∧ E0.2.2 1 6 ≠ 0, aO E0 1 9 ∧ E0.2.2 1 0 ≠ 0]) rfl ⟨r_1_6, r_1_0⟩ ?_
    refine Ez.callV (As := [.ref 2]) (b := 74) (rest := []) kn_X6_refineFully ml_9_193 im_X6_refineFully se_X6_refineFully rfl (by decide +kernel) rfl rfl (Nat.le_of_ble_eq_true rfl) (Nat.le_of_ble_eq_true rfl) o_74 (s_full _ I1 J1 T.1 hP.1 W.1) (fun r I2 J2 hq => ?_)
    obtain ⟨rfl, rfl, k1, k2⟩ := hq
    refine Ez.blk B_X9_bisimulationClass_25 (lo' := [some (.ref 1), some (.int (nI k))]) (st' := [.int (I2 75 ((nI k).toNatClampNeg))]) (I' := I2) (J' := J2) (Ps := [aO E0 1 9 ∧ E0.2.2 1 6 ≠ 0, aO E0 74 6 ∧ E0.2.2 74 1 ≠ 0, aAr E0 1 75 (nI k)]) rfl ⟨r_1_6, r_74_1, (a_75 (vin (n := k) rfl (by omega) (by decide)))⟩ ?_
    rw [cln (x := nI k) (n := k) rfl (by omega)]
    rw [k1.2 k hk]
    exact Ez.iret rfl (by decide +kernel) (hQ _ _ _ (by unfold f_bisc; rw [if_pos h, hkc]; exact ⟨rfl, CP_pt hP k2, fun b hb => ⟨k2 b (by omega), rfl⟩⟩))
  · refine Ez.blk B_X9_bisimulationClass_11 (lo' := [some (.ref 1), some (.int x)]) (st' := [.int (-2)]) (I' := I1) (J' := J1) (Ps := []) rfl trivial ?_
    exact Ez.iret rfl (by decide +kernel) (hQ _ _ _ (by unfold f_bisc; rw [if_neg h]; exact ⟨rfl, hP, fun _ _ => ⟨rfl, rfl⟩⟩))
theorem c_bisn (d : Nat) (I : aI) (J : aJ) (T : TS) (W : WT T) (hP : CP T I J) : Sp m_X9_bisimulationClassCount (d + 5) [.ref 1] E0 I J (fun r I' J' => r = some (.int (nI (bis T.1).2)) ∧ CP T I' J' ∧ Fr9 I I' J J') := by
  refine Sp.of (lo := [some (.ref 1)]) rfl (fun Q hQ => ?_)
  have w1 := W.1.1
  have w2 := W.1.2.1
  have wb := Wc_12 W.1
  refine Ez.blk B_X9_bisimulationClassCount_0 (lo' := [some (.ref 1)]) (st' := [.ref 2, .ref 74]) (I' := I) (J' := J) (Ps := [aO E0 1 9 ∧ E0.2.2 1 6 ≠ 0, aO E0 1 9 ∧ E0.2.2 1 0 ≠ 0]) rfl ⟨r_1_6, r_1_0⟩ ?_
  refine Ez.callV (As := [.ref 2]) (b := 74) (rest := []) kn_X6_refineFully ml_9_193 im_X6_refineFully se_X6_refineFully rfl (by decide +kernel) rfl rfl (Nat.le_of_ble_eq_true rfl) (Nat.le_of_ble_eq_true rfl) o_74 (s_full _ I J T.1 hP.1 W.1) (fun r I2 J2 hq => ?_)
  obtain ⟨rfl, rfl, k1, k2⟩ := hq
  refine Ez.blk B_X9_bisimulationClassCount_11 (lo' := [some (.ref 1)]) (st' := [.int (I2 74 0)]) (I' := I2) (J' := J2) (Ps := [aO E0 1 9 ∧ E0.2.2 1 6 ≠ 0, aO E0 74 6]) rfl ⟨r_1_6, o_74⟩ ?_
  rw [k1.1]
  exact Ez.iret rfl (by decide +kernel) (hQ _ _ _ ⟨rfl, CP_pt hP k2, fun b hb => ⟨k2 b (by omega), rfl⟩⟩)

/-! THE STATE stays well formed -/
theorem Wc_stc {c : Nat → Nat} (W : Wc c) {n D : Nat} (hn : 1 ≤ n ∧ n ≤ 6) (hD : 1 ≤ D ∧ D ≤ 12) : Wc (stc c n D) := by
  have e0 : stc c n D 0 = n := rfl
  have e1 : stc c n D 1 = D := rfl
  have e2 : stc c n D 2 = c 2 := rfl
  have e3 : stc c n D 3 = c 3 := rfl
  have ew : ∀ i j, i < 6 → j < 6 → stc c n D (10 + 6 * i + j) = if i = j ∧ i < n then D else 0 := fun i j hi hj => by
    rw [show 10 + 6 * i + j = 10 + (6 * i + j) by omega, stc_w]
    by_cases e : i = j ∧ i < n
    · rw [if_pos e, if_pos (by omega)]
    · rw [if_neg e, if_neg (by omega)]
  refine ⟨by rw [e0]; exact hn, by rw [e1]; exact hD, by rw [e2, e3]; exact W.2.2.1, fun s hs => by rw [stc_l hs]; omega, fun s _ hs => stc_l hs, fun i hi => ?_, fun i j hi hj h => ?_⟩
  · rw [e0] at hi ⊢
    rw [e1, sm_single (g := fun j => stc c n D (10 + 6 * i + j)) hi (fun y hy hne => by
      show stc c n D (10 + 6 * i + y) = 0
      rw [ew i y (by omega) (by omega), if_neg (by omega)])]
    show stc c n D (10 + 6 * i + i) = D
    rw [ew i i (by omega) (by omega), if_pos ⟨rfl, hi⟩]
  · rw [e0] at h
    rw [ew i j hi hj, if_neg (by omega)]
theorem Wc_lab {c : Nat → Nat} (W : Wc c) {x y : Nat} (hx : x < c 0) (hy : y ≤ 3) : Wc (cup c (4 + x) y) := by
  obtain ⟨h1, h2, h3, h4, h5, h6, h7⟩ := W
  have e : ∀ k, k ≠ 4 + x → cup c (4 + x) y k = c k := fun k hk => cup_ne hk
  refine ⟨by rw [e 0 (by omega)]; exact h1, by rw [e 1 (by omega)]; exact h2, by rw [e 2 (by omega), e 3 (by omega)]; exact h3, fun s hs => ?_, fun s h hs => ?_, fun i hi => ?_, fun i j hi hj h => ?_⟩
  · by_cases q : s = x
    · rw [q, cup_eq]; exact hy
    · rw [e _ (by omega)]; exact h4 s hs
  · rw [e 0 (by omega)] at h
    rw [e _ (by omega)]; exact h5 s h hs
  · rw [e 0 (by omega)] at hi ⊢
    rw [e 1 (by omega), ← h6 i hi]
    exact sm_ext (fun j hj => e _ (by omega))
  · rw [e 0 (by omega)] at h
    rw [e _ (by omega)]; exact h7 i j hi hj h
theorem Wc_dis {c : Nat → Nat} (W : Wc c) {p q : Nat} (hp : p ≤ q) (hq : 1 ≤ q ∧ q ≤ 4) : Wc (cup (cup c 2 p) 3 q) := by
  obtain ⟨h1, h2, h3, h4, h5, h6, h7⟩ := W
  have e : ∀ k, k ≠ 2 → k ≠ 3 → cup (cup c 2 p) 3 q k = c k := fun k a b => by rw [cup_ne b, cup_ne a]
  refine ⟨by rw [e 0 (by omega) (by omega)]; exact h1, by rw [e 1 (by omega) (by omega)]; exact h2, ?_, fun s hs => by rw [e _ (by omega) (by omega)]; exact h4 s hs, fun s h hs => ?_, fun i hi => ?_, fun i j hi hj h => ?_⟩
  · rw [cup_eq, cup_ne (by decide), cup_eq]; exact ⟨hp, hq.1, hq.2⟩
  · rw [e 0 (by omega) (by omega)] at h
    rw [e _ (by omega) (by omega)]; exact h5 s h hs
  · rw [e 0 (by omega) (by omega)] at hi ⊢
    rw [e 1 (by omega) (by omega), ← h6 i hi]
    exact sm_ext (fun j hj => e _ (by omega) (by omega))
  · rw [e 0 (by omega) (by omega)] at h
    rw [e _ (by omega) (by omega)]; exact h7 i j hi hj h
theorem mvw_at {c : Nat → Nat} {s f t a k : Nat} : mvw c s f t a k = if k = 10 + 6 * s + t then (if f = t then c k - a + a else c k + a) else if k = 10 + 6 * s + f then c k - a else c k := by
  unfold mvw
  by_cases e : k = 10 + 6 * s + t
  · rw [if_pos e, e, cup_eq]
    by_cases e2 : f = t
    · rw [if_pos e2, e2, cup_eq]
    · rw [if_neg e2, cup_ne (by omega)]
  · rw [if_neg e, cup_ne e]
    by_cases e2 : k = 10 + 6 * s + f
    · rw [if_pos e2, e2, cup_eq]
    · rw [if_neg e2, cup_ne e2]
theorem Wc_mvw {c : Nat → Nat} (W : Wc c) {s f t a : Nat} (hs : s < c 0) (hf : f < c 0) (ht : t < c 0) (ha : a ≤ c (10 + 6 * s + f)) : Wc (mvw c s f t a) := by
  obtain ⟨h1, h2, h3, h4, h5, h6, h7⟩ := W
  have e : ∀ k, k ≠ 10 + 6 * s + t → k ≠ 10 + 6 * s + f → mvw c s f t a k = c k := fun k x y => by rw [mvw_at, if_neg x, if_neg y]
  have e0 := e 0 (by omega) (by omega)
  have e1 := e 1 (by omega) (by omega)
  refine ⟨by rw [e0]; exact h1, by rw [e1]; exact h2, by rw [e 2 (by omega) (by omega), e 3 (by omega) (by omega)]; exact h3, fun x hx => by rw [e _ (by omega) (by omega)]; exact h4 x hx, fun x h hx => ?_, fun i hi => ?_, fun i j hi hj h => ?_⟩
  · rw [e0] at h
    rw [e _ (by omega) (by omega)]; exact h5 x h hx
  · rw [e0] at hi ⊢
    rw [e1]
    by_cases ei : i = s
    · rw [ei]
      have hr := h6 s hs
      by_cases eft : f = t
      · rw [← hr]
        refine sm_ext (fun j hj => ?_)
        rw [mvw_at]
        by_cases q : 10 + 6 * s + j = 10 + 6 * s + t
        · have q2 : j = f := by omega
          rw [if_pos q, if_pos eft, q2]; omega
        · rw [if_neg q, if_neg (by omega)]
      · have g1 := sm_one (n := c 0) (j0 := f) (g := fun j => c (10 + 6 * s + j)) (g' := fun j => cup c (10 + 6 * s + f) (c (10 + 6 * s + f) - a) (10 + 6 * s + j)) hf (fun j _ hj => cup_ne (by omega))
        have g2 := sm_one (n := c 0) (j0 := t) (g := fun j => cup c (10 + 6 * s + f) (c (10 + 6 * s + f) - a) (10 + 6 * s + j)) (g' := fun j => mvw c s f t a (10 + 6 * s + j)) ht (fun j _ hj => by
          show mvw c s f t a (10 + 6 * s + j) = cup c (10 + 6 * s + f) (c (10 + 6 * s + f) - a) (10 + 6 * s + j)
          unfold mvw
          exact cup_ne (by omega))
        rw [cup_eq] at g1
        rw [cup_ne (show 10 + 6 * s + t ≠ 10 + 6 * s + f by omega), mvw_at, if_pos rfl, if_neg eft] at g2
        omega
    · rw [← h6 i hi]
      exact sm_ext (fun j hj => e _ (by omega) (by omega))
  · rw [e0] at h
    rw [e _ (by omega) (by omega)]; exact h7 i j hi hj h
theorem sm_swp {g : Nat → Nat} {n f s : Nat} (hf : f < n) (hs : s < n) : sm (fun j => g (swp j f s)) n = sm g n := by
  by_cases e : f = s
  · refine sm_ext (fun j _ => ?_)
    unfold swp
    by_cases q : j = f
    · rw [if_pos q, q, e]
    · rw [if_neg q, if_neg (by omega)]
  · have g1 := sm_one (n := n) (j0 := f) (g := g) (g' := cup g f (g s)) hf (fun j _ hj => cup_ne hj)
    have g2 := sm_one (n := n) (j0 := s) (g := cup g f (g s)) (g' := fun j => g (swp j f s)) hs (fun j _ hj => by
      show g (swp j f s) = cup g f (g s) j
      by_cases q : j = f
      · rw [swp_a q, q, cup_eq]
      · rw [swp_c q hj, cup_ne q])
    rw [cup_eq] at g1
    rw [cup_ne (show s ≠ f from fun z => e z.symm)] at g2
    have g3 : g (swp s f s) = g f := by rw [swp_b (fun z => e z.symm) rfl]
    omega
theorem Wc_swc {c : Nat → Nat} (W : Wc c) {f s : Nat} (hf : f < c 0) (hs : s < c 0) : Wc (swc c f s) := by
  have w1 := W.1
  have e4 : ∀ k, k < 4 → swc c f s k = c k := fun k hk => by unfold swc; rw [if_pos hk]
  have el : ∀ x, x < 6 → swc c f s (4 + x) = c (4 + swp x f s) := fun x hx => by unfold swc; rw [if_neg (by omega), if_pos (by omega), show 4 + x - 4 = x by omega]
  have ew : ∀ i j, i < 6 → j < 6 → swc c f s (10 + 6 * i + j) = c (10 + 6 * swp i f s + swp j f s) := fun i j hi hj => by unfold swc; rw [if_neg (by omega), if_neg (by omega), show (10 + 6 * i + j - 10) / 6 = i by omega, show (10 + 6 * i + j - 10) % 6 = j by omega]
  have lt : ∀ x, x < 6 → swp x f s < 6 := fun x hx => swp_lt hx (by omega) (by omega)
  have id : ∀ x, ¬ x < c 0 → swp x f s = x := fun x hx => swp_c (by omega) (by omega)
  obtain ⟨h1, h2, h3, h4, h5, h6, h7⟩ := W
  refine ⟨by rw [e4 0 (by omega)]; exact h1, by rw [e4 1 (by omega)]; exact h2, by rw [e4 2 (by omega), e4 3 (by omega)]; exact h3, fun x hx => by rw [el x hx]; exact h4 _ (lt x hx), fun x h hx => ?_, fun i hi => ?_, fun i j hi hj h => ?_⟩
  · rw [e4 0 (by omega)] at h
    rw [el x hx, id x (by omega)]; exact h5 x h hx
  · rw [e4 0 (by omega)] at hi ⊢
    rw [e4 1 (by omega), ← h6 (swp i f s) (swp_lt hi hf hs), ← sm_swp (g := fun j => c (10 + 6 * swp i f s + j)) hf hs]
    exact sm_ext (fun j hj => ew i j (by omega) (by omega))
  · rw [e4 0 (by omega)] at h
    rw [ew i j hi hj]
    refine h7 _ _ (lt i hi) (lt j hj) ?_
    rcases h with h | h
    · exact Or.inl (by rw [id i (by omega)]; exact h)
    · exact Or.inr (by rw [id j (by omega)]; exact h)
theorem Wc_quo {c : Nat → Nat} (W : Wc c) : Wc (quo c) := by
  have w1 := W.1
  have pb : (bis c).2 ≤ 6 ∧ ∀ x, x < c 0 → (bis c).1 x < (bis c).2 := bisk_bd w1 (c 0)
  have pb1 : (bis c).2 ≤ 6 := pb.1
  have p0 : 1 ≤ (bis c).2 := bisk_pos w1 (c 0)
  have e0 : quo c 0 = (bis c).2 := rfl
  have e4 : ∀ k, k ≠ 0 → k < 4 → quo c k = c k := fun k h0 hk => by unfold quo; rw [if_neg h0, if_pos hk]
  have ew : ∀ i j, i < 6 → j < 6 → quo c (10 + 6 * i + j) = if i < (bis c).2 ∧ j < (bis c).2 then wtc c (bis c).1 (rep c i) j else 0 := fun i j hi hj => by
    rw [show 10 + 6 * i + j = 10 + (6 * i + j) by omega, quo_w, show (6 * i + j) / 6 = i by omega, show (6 * i + j) % 6 = j by omega]
  refine ⟨by rw [e0]; exact ⟨p0, pb1⟩, by rw [e4 1 (by decide) (by decide)]; exact W.2.1, by rw [e4 2 (by decide) (by decide), e4 3 (by decide) (by decide)]; exact W.2.2.1, fun x hx => ?_, fun x h hx => ?_, fun i hi => ?_, fun i j hi hj h => ?_⟩
  · rw [quo_l hx]
    by_cases e : x < (bis c).2
    · rw [if_pos e]; exact W.2.2.2.1 _ (by have := (rep_ok w1.1 e).1; omega)
    · rw [if_neg e]; omega
  · rw [e0] at h
    rw [quo_l hx, if_neg (by omega)]
  · rw [e0] at hi ⊢
    rw [e4 1 (by decide) (by decide)]
    have hr := (rep_ok w1.1 hi).1
    rw [← W.2.2.2.2.2.1 (rep c i) hr]
    rw [sm_ext (f := fun j => quo c (10 + 6 * i + j)) (g := fun j => sm (fun u => if (bis c).1 u = j then c (10 + 6 * rep c i + u) else 0) (c 0)) (fun j hj => by
      show quo c (10 + 6 * i + j) = _
      rw [ew i j (by omega) (by omega), if_pos ⟨hi, hj⟩]
      rfl), sm_swap]
    refine sm_ext (fun u hu => ?_)
    show sm (fun j => if (bis c).1 u = j then c (10 + 6 * rep c i + u) else 0) (bis c).2 = c (10 + 6 * rep c i + u)
    rw [sm_single (g := fun j => if (bis c).1 u = j then c (10 + 6 * rep c i + u) else 0) (j0 := (bis c).1 u) (pb.2 u hu) (fun y _ hne => if_neg (fun z => hne z.symm)), if_pos rfl]
  · rw [e0] at h
    rw [ew i j hi hj, if_neg (by omega)]
theorem Wc_prc {c : Nat → Nat} (W : Wc c) {n D : Nat} {x : PX} (hn : 1 ≤ n ∧ n ≤ 6) (h : csn n D x) : Wc (prc c n D x) := by
  have e0 : prc c n D x 0 = n := rfl
  have e1 : prc c n D x 1 = D := rfl
  have e2 : prc c n D x 2 = c 2 := rfl
  have e3 : prc c n D x 3 = c 3 := rfl
  have ew : ∀ i j, i < 6 → j < 6 → prc c n D x (10 + 6 * i + j) = if i < n ∧ j < n then x.2.2.1 (10 * i + j) else 0 := fun i j hi hj => by
    unfold prc
    rw [if_neg (show ¬ 10 + 6 * i + j = 0 by omega), if_neg (show ¬ 10 + 6 * i + j = 1 by omega), if_neg (show ¬ 10 + 6 * i + j < 4 by omega), if_neg (show ¬ 10 + 6 * i + j < 10 by omega), show (10 + 6 * i + j - 10) / 6 = i by omega, show (10 + 6 * i + j - 10) % 6 = j by omega]
  refine ⟨by rw [e0]; exact hn, by rw [e1]; exact h.1.1, by rw [e2, e3]; exact W.2.2.1, fun s hs => ?_, fun s hsn hs => ?_, fun i hi => ?_, fun i j hi hj hh => ?_⟩
  · rw [prc_l hs]
    by_cases e : s < n
    · rw [if_pos e]; exact (h.2 s e).2
    · rw [if_neg e]; omega
  · rw [e0] at hsn
    rw [prc_l hs, if_neg (by omega)]
  · rw [e0] at hi ⊢
    rw [e1]
    exact (sm_ext (fun j hj => by rw [ew i j (by omega) (by omega), if_pos ⟨hi, hj⟩])).trans (h.2 i hi).1
  · rw [e0] at hh
    rw [ew i j hi hj, if_neg (by omega)]
theorem psh_ok {ed : Nat × (Nat → Nat → Nat)} {c : Nat → Nat} (h : ed.1 ≤ 10 ∧ ∀ i, i < ed.1 → Wc (ed.2 i)) (hc : Wc c) : (psh ed c).1 ≤ 10 ∧ ∀ i, i < (psh ed c).1 → Wc ((psh ed c).2 i) := by
  unfold psh
  by_cases e : ed.1 < 10
  · rw [if_pos e]
    refine ⟨by show ed.1 + 1 ≤ 10; omega, fun i hi => ?_⟩
    have hi : i < ed.1 + 1 := hi
    show Wc (if i = ed.1 then c else ed.2 i)
    by_cases q : i = ed.1
    · rw [if_pos q]; exact hc
    · rw [if_neg q]; exact h.2 i (by omega)
  · rw [if_neg e]
    refine ⟨Nat.le_refl _, fun i hi => ?_⟩
    have hi : i < 10 := hi
    show Wc (if i = 9 then c else ed.2 (i + 1))
    by_cases q : i = 9
    · rw [if_pos q]; exact hc
    · rw [if_neg q]; exact h.2 (i + 1) (by omega)
theorem WT_ste {T : TS} {c' : Nat → Nat} (W : WT T) (hc : Wc c') : WT (ste T c') := by
  unfold ste
  by_cases e : eqc T.1 c' = true
  · rw [if_pos e]; exact W
  · rw [if_neg e]; exact ⟨hc, psh_ok W.2.1 W.1, W.2.2⟩
theorem WT_0 {T : TS} {c' : Nat → Nat} (W : WT T) (hc : Wc c') : WT (c', (0, T.2.1.2), T.2.2) := ⟨hc, ⟨Nat.zero_le _, fun i hi => absurd hi (Nat.not_lt_zero _)⟩, W.2.2⟩
theorem WT_b {T : TS} (W : WT T) (f : Nat → Nat) : WT (setB T (0, f)) := ⟨W.1, W.2.1, W.2.2.1, ⟨Nat.zero_le _, fun i hi => absurd hi (Nat.not_lt_zero _)⟩, W.2.2.2.2⟩
theorem w_reset {T : TS} (W : WT T) (x y : Int32) : WT (f_reset T x y).2 := by
  unfold f_reset
  by_cases h : (1 ≤ x ∧ x ≤ 6) ∧ (1 ≤ y ∧ y ≤ 12)
  · rw [if_pos h]
    obtain ⟨n, n1, n2, rfl, n3⟩ := in_of (lo := 1) (hi := 6) (by omega) h.1 (by omega)
    obtain ⟨D, d1, d2, rfl, d3⟩ := in_of (lo := 1) (hi := 12) (by omega) h.2 (by omega)
    rw [n3, d3]
    exact WT_0 W (Wc_stc W.1 ⟨n1, n2⟩ ⟨d1, d2⟩)
  · rw [if_neg h]; exact W
theorem w_setLabel {T : TS} (W : WT T) (x y : Int32) : WT (f_setLabel T x y).2 := by
  have w1 := W.1.1
  unfold f_setLabel
  by_cases h : isS T x
  · rw [if_pos h]
    by_cases h2 : 0 ≤ y ∧ y ≤ 3
    · rw [if_pos h2]
      obtain ⟨k, hk, rfl, hkc⟩ := st_of (by omega) h
      obtain ⟨l, -, hl, rfl, hlc⟩ := in_of (lo := 0) (hi := 3) (by omega) h2 (by omega)
      rw [hkc, hlc]
      exact WT_ste W (Wc_lab W.1 hk hl)
    · rw [if_neg h2]; exact W
  · rw [if_neg h]; exact W
theorem w_label {T : TS} (W : WT T) (x : Int32) : WT (f_label T x).2 := by unfold f_label; split <;> exact W
theorem w_moveWeight {T : TS} (W : WT T) (x y z a : Int32) : WT (f_moveWeight T x y z a).2 := by
  have w1 := W.1.1
  unfold f_moveWeight
  by_cases h : isS T x ∧ isS T y ∧ isS T z
  · rw [if_pos h]
    by_cases h2 : 0 ≤ a ∧ a ≤ 12
    · rw [if_pos h2]
      obtain ⟨k, hk, rfl, hkc⟩ := st_of (by omega) h.1
      obtain ⟨i, hi, rfl, hic⟩ := st_of (by omega) h.2.1
      obtain ⟨j, hj, rfl, hjc⟩ := st_of (by omega) h.2.2
      obtain ⟨b, -, hb, rfl, hbc⟩ := in_of (lo := 0) (hi := 12) (by omega) h2 (by omega)
      rw [hkc, hic, hjc, hbc]
      have w12 := Wc_w W.1 (6 * k + i) (by omega)
      rw [show 10 + (6 * k + i) = 10 + 6 * k + i by omega] at w12
      by_cases h3 : nI b ≤ nI (T.1 (10 + 6 * k + i))
      · rw [if_pos h3]
        exact WT_ste W (Wc_mvw W.1 hk hi hj ((nI_leI (by omega) (by omega)).mp h3))
      · rw [if_neg h3]; exact W
    · rw [if_neg h2]; exact W
  · rw [if_neg h]; exact W
theorem w_weight {T : TS} (W : WT T) (x y : Int32) : WT (f_weight T x y).2 := by unfold f_weight; split <;> exact W
theorem w_setDiscount {T : TS} (W : WT T) (p q : Int32) : WT (f_setDiscount T p q).2 := by
  unfold f_setDiscount
  by_cases h : (1 ≤ q ∧ q ≤ 4) ∧ (0 ≤ p ∧ p ≤ q)
  · rw [if_pos h]
    obtain ⟨b, b1, b2, rfl, b3⟩ := in_of (lo := 1) (hi := 4) (by omega) h.1 (by omega)
    obtain ⟨a, -, a2, rfl, a3⟩ := in_of (lo := 0) (hi := b) (by omega) h.2 (by omega)
    rw [a3, b3]
    exact WT_ste W (Wc_dis W.1 a2 ⟨b1, b2⟩)
  · rw [if_neg h]; exact W
theorem w_swapStates {T : TS} (W : WT T) (x y : Int32) : WT (f_swapStates T x y).2 := by
  have w1 := W.1.1
  unfold f_swapStates
  by_cases h : isS T x ∧ isS T y
  · rw [if_pos h]
    obtain ⟨k, hk, rfl, hkc⟩ := st_of (by omega) h.1
    obtain ⟨i, hi, rfl, hic⟩ := st_of (by omega) h.2
    rw [hkc, hic]
    exact WT_ste W (Wc_swc W.1 hk hi)
  · rw [if_neg h]; exact W
theorem w_undo {T : TS} (W : WT T) : WT (f_undo T).2 := by
  unfold f_undo
  by_cases h : T.2.1.1 = 0
  · rw [if_pos h]; exact W
  · rw [if_neg h]
    have h1 := W.2.1
    exact ⟨h1.2 _ (by omega), ⟨by show T.2.1.1 - 1 ≤ 10; omega, fun i hi => h1.2 i (by have hi : i < T.2.1.1 - 1 := hi; omega)⟩, W.2.2⟩
theorem w_snapshot {T : TS} (W : WT T) : WT (f_snapshot T).2 := ⟨W.1, W.2.1, ⟨Nat.le_refl _, fun _ => W.1⟩, W.2.2.2⟩
theorem w_restore {T : TS} (W : WT T) : WT (f_restore T).2 := by
  unfold f_restore
  by_cases h : T.2.2.1.1 = 0
  · rw [if_pos h]; exact W
  · rw [if_neg h]
    exact WT_0 W (W.2.2.1.2 (by have := W.2.2.1.1; omega))
theorem WT_sl {T : TS} {sl : (Nat → Nat) × (Nat → Nat) × (Nat → Nat → Int64)} (W : WT T) (h : ∀ s, s < 4 → sl.1 s ≤ 4 ∧ sl.2.1 s ≤ 40) : WT (setSl T sl) := ⟨W.1, W.2.1, W.2.2.1, W.2.2.2.1, h⟩
theorem w_allocate {T : TS} (W : WT T) (x y z : Int32) : WT (f_allocate T x y z).2 := by
  unfold f_allocate
  by_cases h : isSl x ∧ (0 ≤ y ∧ y ≤ 3) ∧ z ≤ 40
  · rw [if_pos h]
    by_cases h2 : 0 ≤ z
    · rw [if_pos h2]
      obtain ⟨u, -, u1, rfl, u2⟩ := in_of (lo := 0) (hi := 3) (by omega) h.2.1 (by omega)
      obtain ⟨m, -, m1, rfl, m2⟩ := in_of (lo := 0) (hi := 40) (by omega) (x := z) ⟨h2, h.2.2⟩ (by omega)
      rw [u2, m2]
      refine WT_sl W (fun s hs => ?_)
      have := W.2.2.2.2 s hs
      dsimp only
      unfold cup
      constructor
      · split <;> omega
      · split <;> omega
    · rw [if_neg h2]; exact W
  · rw [if_neg h]; exact W
theorem w_release {T : TS} (W : WT T) (x : Int32) : WT (f_release T x).2 := by
  unfold f_release
  by_cases h : isSl x
  · rw [if_pos h]
    by_cases h2 : sTy T x.toNatClampNeg = 0
    · rw [if_pos h2]; exact W
    · rw [if_neg h2]
      refine WT_sl W (fun s hs => ?_)
      have := W.2.2.2.2 s hs
      dsimp only
      unfold cup
      constructor
      · split <;> omega
      · exact this.2
  · rw [if_neg h]; exact W
theorem w_putElement {T : TS} (W : WT T) (x y : Int32) (v : Int64) : WT (f_putElement T x y v).2 := by
  unfold f_putElement
  by_cases h : isSl x
  · rw [if_pos h]
    by_cases h2 : sTy T x.toNatClampNeg = 0
    · rw [if_pos h2]; exact W
    · rw [if_neg h2]
      by_cases h3 : isIx T x.toNatClampNeg y
      · rw [if_pos h3]; exact WT_sl W (fun s hs => W.2.2.2.2 s hs)
      · rw [if_neg h3]; exact W
  · rw [if_neg h]; exact W
theorem w_element {T : TS} (W : WT T) (x y : Int32) : WT (f_element T x y).2 := by unfold f_element; split <;> exact W
theorem w_copyElements {T : TS} (W : WT T) (x i y j n : Int32) : WT (f_copyElements T x i y j n).2 := by
  unfold f_copyElements
  by_cases h : isSl x ∧ isSl y
  · rw [if_pos h]
    by_cases h2 : sTy T x.toNatClampNeg = 0 ∨ sTy T y.toNatClampNeg = 0
    · rw [if_pos h2]; exact W
    · rw [if_neg h2]
      by_cases h3 : sTy T x.toNatClampNeg = sTy T y.toNatClampNeg
      · rw [if_pos h3]
        by_cases h4 : isRg T x.toNatClampNeg i n ∧ isRg T y.toNatClampNeg j n
        · rw [if_pos h4]; exact WT_sl W (fun s hs => W.2.2.2.2 s hs)
        · rw [if_neg h4]; exact W
      · rw [if_neg h3]; exact W
  · rw [if_neg h]; exact W
theorem w_compare {T : TS} (W : WT T) (x : Int32) : WT (f_compare T x).2 := by
  unfold f_compare
  by_cases h : isSl x
  · rw [if_pos h]
    by_cases h2 : sTy T x.toNatClampNeg = 0
    · rw [if_pos h2]; exact W
    · rw [if_neg h2]
      by_cases h3 : sTy T x.toNatClampNeg = 1
      · rw [if_pos h3]; exact W
      · rw [if_neg h3]; exact W
  · rw [if_neg h]; exact W
theorem w_append {T : TS} (W : WT T) (x n : Int32) : WT (f_append T x n).2 := by
  unfold f_append
  by_cases h : 1 ≤ n ∧ n ≤ 4
  · rw [if_pos h]
    obtain ⟨m, m1, m2, rfl, m3⟩ := in_of (lo := 1) (hi := 4) (by omega) h (by omega)
    rw [m3]
    by_cases h2 : byOk x m = true
    · rw [if_pos h2]
      by_cases h3 : bL T + m ≤ 80
      · rw [if_pos h3]
        refine ⟨W.1, W.2.1, W.2.2.1, ⟨h3, fun i hi => ?_⟩, W.2.2.2.2⟩
        have hi : i < bL T + m := hi
        show apb T.2.2.2.1.2 (bL T) x m i < 128
        unfold apb
        by_cases e : i < bL T
        · rw [if_pos e]; exact W.2.2.2.1.2 i e
        · rw [if_neg e]
          have := byOk_iff.mp h2 (m - 1 - (i - bL T)) (by omega)
          omega
      · rw [if_neg h3]; exact W
    · rw [if_neg h2]; exact W
  · rw [if_neg h]; exact W
theorem w_clearInput {T : TS} (W : WT T) : WT (f_clearInput T).2 := WT_b W _
theorem w_reach {T : TS} (W : WT T) (x y z : Int32) : WT (f_reach T x y z).2 := by unfold f_reach; split <;> exact W
theorem w_first {T : TS} (W : WT T) (x y z : Int32) : WT (f_first T x y z).2 := by unfold f_first; split <;> exact W
theorem w_seq {T : TS} (W : WT T) (x : Int32) : WT (f_seq T x).2 := WT_b W _
theorem w_sample {T : TS} (W : WT T) (x y z : Int32) : WT (f_sample T x y z).2 := by
  unfold f_sample
  by_cases h : isS T x
  · rw [if_pos h]; split <;> exact W
  · rw [if_neg h]; exact W
theorem w_visits {T : TS} (W : WT T) (x y z l : Int32) : WT (f_visits T x y z l).2 := by
  unfold f_visits
  by_cases h : isS T x
  · rw [if_pos h]; split <;> exact W
  · rw [if_neg h]; exact W
theorem w_dd {T : TS} (W : WT T) (x y z : Int32) : WT (f_dd T x y z).2 := by
  unfold f_dd
  by_cases h : isS T x ∧ isS T y
  · rw [if_pos h]; split <;> exact W
  · rw [if_neg h]; exact W
theorem w_bisc {T : TS} (W : WT T) (x : Int32) : WT (f_bisc T x).2 := by unfold f_bisc; split <;> exact W
theorem w_minimize {T : TS} (W : WT T) : WT (f_minimize T).2 := WT_0 W (Wc_quo W.1)
theorem w_frac {T : TS} (W : WT T) (z : Nat) (m x y : Int32) : WT (f_frac z T m x y).2 := by unfold f_frac; split <;> exact W
theorem w_cmp {T : TS} (W : WT T) (m p q : Int32) : WT (f_cmp T m p q).2 := by
  unfold f_cmp
  by_cases h : 0 ≤ m ∧ m ≤ 15
  · rw [if_pos h]
    by_cases h2 : isP T p ∧ isP T q
    · rw [if_pos h2]; split <;> exact W
    · rw [if_neg h2]; exact W
  · rw [if_neg h]; exact W
theorem w_far {T : TS} (W : WT T) (m : Int32) : WT (f_far T m).2 := by
  unfold f_far
  by_cases h : 0 ≤ m ∧ m ≤ 15
  · rw [if_pos h]; split <;> exact W
  · rw [if_neg h]; exact W
theorem w_cpl {T : TS} (W : WT T) (m p x y : Int32) : WT (f_cpl T m p x y).2 := by
  unfold f_cpl
  by_cases h : 0 ≤ m ∧ m ≤ 15
  · rw [if_pos h]
    by_cases h2 : isP T p ∧ isS T x ∧ isS T y
    · rw [if_pos h2]; split <;> exact W
    · rw [if_neg h2]; exact W
  · rw [if_neg h]; exact W
theorem w_parse {T : TS} (W : WT T) : WT (f_parse T).2 := by
  by_cases h : prok T.2.2.2.1 ∧ csn (prs T.2.2.2.1).1 (prD T.2.2.2.1) (prs T.2.2.2.1).2
  · rw [f_parse_yes h]
    exact ⟨Wc_prc W.1 prs_sz h.2, ⟨Nat.zero_le _, fun i hi => absurd hi (Nat.not_lt_zero _)⟩, W.2.2.1, ⟨Nat.zero_le _, fun i hi => absurd hi (Nat.not_lt_zero _)⟩, W.2.2.2.2⟩
  · rw [f_parse_no h]; exact WT_b W _

/-! BISIMULATION: the splitting comes to rest -/
def Eqv (rel : Nat → Nat → Bool) (n : Nat) : Prop := (∀ x, x < n → rel x x = true) ∧ (∀ x y, x < n → y < n → rel x y = true → rel y x = true) ∧ ∀ x y z, x < n → y < n → z < n → rel x y = true → rel y z = true → rel x z = true
theorem Eqv.le {rel : Nat → Nat → Bool} {n m : Nat} (h : Eqv rel n) (hm : m ≤ n) : Eqv rel m := ⟨fun x hx => h.1 x (by omega), fun x y hx hy => h.2.1 x y (by omega) (by omega), fun x y z hx hy hz => h.2.2 x y z (by omega) (by omega) (by omega)⟩
theorem agr_eqv (c : Nat → Nat) (p : PN) (n : Nat) : Eqv (agr c p) n := by
  refine ⟨fun x _ => agr_iff.mpr ⟨rfl, rfl, fun _ _ => rfl⟩, fun x y _ _ h => ?_, fun x y z _ _ _ h1 h2 => ?_⟩
  · have h := agr_iff.mp h
    exact agr_iff.mpr ⟨h.1.symm, h.2.1.symm, fun k hk => (h.2.2 k hk).symm⟩
  · have h1 := agr_iff.mp h1
    have h2 := agr_iff.mp h2
    exact agr_iff.mpr ⟨h1.1.trans h2.1, h1.2.1.trans h2.2.1, fun k hk => (h1.2.2 k hk).trans (h2.2.2 k hk)⟩
theorem nmb_spec {rel : Nat → Nat → Bool} : ∀ n, Eqv rel n → ∀ x y, x < n → y < n → ((nmb rel n).1 x = (nmb rel n).1 y ↔ rel x y = true)
  | 0, _, x, y, hx, _ => by omega
  | s + 1, h, x, y, hx, hy => by
    have ih := nmb_spec s (h.le (by omega))
    have bd := nmb_bd (rel := rel) s
    cases hf : ff (fun l => rel l s) s 0 with
    | some l =>
      have hl := ff_lt hf
      have hr : rel l s = true := ff_true (P := fun l => rel l s) hf
      rw [nmb_some hf]
      show cup _ _ _ x = cup _ _ _ y ↔ _
      by_cases ex : x = s
      · by_cases ey : y = s
        · rw [ex, ey]; exact ⟨fun _ => h.1 s (by omega), fun _ => rfl⟩
        · rw [ex, cup_eq, cup_ne ey, ih l y (by omega) (by omega)]
          exact ⟨fun q => h.2.2 s l y (by omega) (by omega) (by omega) (h.2.1 l s (by omega) (by omega) hr) q, fun q => h.2.2 l s y (by omega) (by omega) (by omega) hr q⟩
      · by_cases ey : y = s
        · rw [ey, cup_eq, cup_ne ex, ih x l (by omega) (by omega)]
          exact ⟨fun q => h.2.2 x l s (by omega) (by omega) (by omega) q hr, fun q => h.2.2 x s l (by omega) (by omega) (by omega) q (h.2.1 l s (by omega) (by omega) hr)⟩
        · rw [cup_ne ex, cup_ne ey]; exact ih x y (by omega) (by omega)
    | none =>
      have hn : ∀ j, j < s → rel j s = false := fun j hj => ff_no hf j (Nat.zero_le _) (by omega)
      rw [nmb_none hf]
      show cup _ _ _ x = cup _ _ _ y ↔ _
      by_cases ex : x = s
      · by_cases ey : y = s
        · rw [ex, ey]; exact ⟨fun _ => h.1 s (by omega), fun _ => rfl⟩
        · rw [ex, cup_eq, cup_ne ey]
          have := bd.2 y (by omega)
          refine ⟨fun q => by omega, fun q => ?_⟩
          have := h.2.1 s y (by omega) (by omega) q
          rw [hn y (by omega)] at this
          cases this
      · by_cases ey : y = s
        · rw [ey, cup_eq, cup_ne ex]
          have := bd.2 x (by omega)
          refine ⟨fun q => by omega, fun q => ?_⟩
          rw [hn x (by omega)] at q
          cases q
        · rw [cup_ne ex, cup_ne ey]; exact ih x y (by omega) (by omega)
theorem ff_ext {P Q : Nat → Bool} : ∀ (f k : Nat), (∀ j, k ≤ j → j < k + f → P j = Q j) → ff P f k = ff Q f k
  | 0, _, _ => rfl
  | f + 1, k, h => by
    show (if P k then some k else ff P f (k + 1)) = (if Q k then some k else ff Q f (k + 1))
    rw [h k (Nat.le_refl _) (by omega), ff_ext f (k + 1) (fun j h1 h2 => h j (by omega) (by omega))]
theorem nmb_ext {r q : Nat → Nat → Bool} : ∀ n, (∀ l s, l < s → s < n → r l s = q l s) → nmb r n = nmb q n
  | 0, _ => rfl
  | s + 1, h => by
    have ih := nmb_ext s (fun l x h1 h2 => h l x h1 (by omega))
    have e := ff_ext (P := fun l => r l s) (Q := fun l => q l s) s 0 (fun j _ hj => h j s (by omega) (by omega))
    cases hf : ff (fun l => q l s) s 0 with
    | some l => rw [nmb_some hf, nmb_some (e.trans hf), ih]
    | none => rw [nmb_none hf, nmb_none (e.trans hf), ih]
def nwc (rel : Nat → Nat → Bool) (s : Nat) : Nat := if ff (fun l => rel l s) s 0 = none then 1 else 0
theorem nmb_cnt {rel : Nat → Nat → Bool} : ∀ n, (nmb rel n).2 = sm (nwc rel) n
  | 0 => rfl
  | s + 1 => by
    have ih := nmb_cnt (rel := rel) s
    show _ = sm (nwc rel) s + nwc rel s
    unfold nwc at ih ⊢
    cases hf : ff (fun l => rel l s) s 0 with
    | some l => rw [nmb_some hf, if_neg (by intro q; cases q), ← ih]; rfl
    | none => rw [nmb_none hf, if_pos rfl, ← ih]
theorem sm_le2 {f g : Nat → Nat} : ∀ {n : Nat}, (∀ s, s < n → f s ≤ g s) → sm f n ≤ sm g n
  | 0, _ => Nat.le_refl _
  | n + 1, h => Nat.add_le_add (sm_le2 (fun s hs => h s (by omega))) (h n (by omega))
theorem sm_eq2 {f g : Nat → Nat} : ∀ (n : Nat), (∀ s, s < n → f s ≤ g s) → sm f n = sm g n → ∀ s, s < n → f s = g s
  | 0, _, _, s, hs => by omega
  | n + 1, h, e, s, hs => by
    have h1 : sm f n ≤ sm g n := sm_le2 (fun s hs => h s (by omega))
    have h2 := h n (by omega)
    have e : sm f n + f n = sm g n + g n := e
    by_cases en : s = n
    · rw [en]; omega
    · exact sm_eq2 n (fun s hs => h s (by omega)) (by omega) s (by omega)
theorem nwc_le {r q : Nat → Nat → Bool} {n : Nat} (h : ∀ l s, l < n → s < n → q l s = true → r l s = true) (s : Nat) (hs : s < n) : nwc r s ≤ nwc q s := by
  unfold nwc
  by_cases e : ff (fun l => r l s) s 0 = none
  · rw [if_pos e, if_pos (ff_none s 0 (fun j _ hj => by
      cases hq : q j s with
      | false => rfl
      | true => have h1 := h j s (by omega) hs hq; rw [ff_no e j (Nat.zero_le _) hj] at h1; cases h1))]
    exact Nat.le_refl _
  · rw [if_neg e]; exact Nat.zero_le _
theorem nmb_le {r q : Nat → Nat → Bool} {n : Nat} (h : ∀ l s, l < n → s < n → q l s = true → r l s = true) : (nmb r n).2 ≤ (nmb q n).2 := by
  rw [nmb_cnt, nmb_cnt]
  exact sm_le2 (nwc_le h)
/-- as many parts: the same parts -/
theorem nmb_same {r q : Nat → Nat → Bool} {n : Nat} (hr : Eqv r n) (hq : Eqv q n) (h : ∀ l s, l < n → s < n → q l s = true → r l s = true) (e : (nmb r n).2 = (nmb q n).2) : ∀ s, s < n → ∀ l, l < s → r l s = true → q l s = true := by
  rw [nmb_cnt, nmb_cnt] at e
  have hn := sm_eq2 n (nwc_le h) e
  intro s
  induction s using Nat.strongRecOn with
  | _ s ih =>
    intro hs l hl hrl
    have h1 : nwc r s = 0 := by
      unfold nwc
      rw [if_neg]
      intro z
      have := ff_no z l (Nat.zero_le _) (by omega)
      rw [hrl] at this
      cases this
    rw [hn s hs] at h1
    cases hf : ff (fun l => q l s) s 0 with
    | none => unfold nwc at h1; rw [if_pos hf] at h1; cases h1
    | some l' =>
      have hl' := ff_lt hf
      have hq' : q l' s = true := ff_true (P := fun l => q l s) hf
      have hr' := h l' s (by omega) hs hq'
      have rll : r l l' = true := hr.2.2 l s l' (by omega) hs (by omega) hrl (hr.2.1 l' s (by omega) hs hr')
      have qll : q l l' = true := by
        by_cases e1 : l < l'
        · exact ih l' (by omega) (by omega) l e1 rll
        · by_cases e2 : l = l'
          · rw [e2]; exact hq.1 l' (by omega)
          · exact hq.2.1 l' l (by omega) (by omega) (ih l (by omega) (by omega) l' (by omega) (hr.2.1 l l' (by omega) (by omega) rll))
      exact hq.2.2 l l' s (by omega) (by omega) hs qll hq'
theorem bisk_sub {c : Nat → Nat} {k l s : Nat} (hl : l < c 0) (hs : s < c 0) (h : agr c (bisk c (k + 1)) l s = true) : agr c (bisk c k) l s = true := (nmb_spec (c 0) (agr_eqv c (bisk c k) (c 0)) l s hl hs).mp (agr_iff.mp h).1
theorem bisk_rest {c : Nat → Nat} {k : Nat} (h : (bisk c (k + 2)).2 = (bisk c (k + 1)).2) : bisk c (k + 2) = bisk c (k + 1) := by
  show nmb (agr c (bisk c (k + 1))) (c 0) = nmb (agr c (bisk c k)) (c 0)
  have hs := nmb_same (agr_eqv c (bisk c k) (c 0)) (agr_eqv c (bisk c (k + 1)) (c 0)) (fun l s hl hs => bisk_sub hl hs) h.symm
  refine nmb_ext (c 0) (fun l s h1 h2 => ?_)
  cases ha : agr c (bisk c k) l s with
  | true => exact hs s h2 l h1 ha
  | false =>
    cases hb : agr c (bisk c (k + 1)) l s with
    | false => rfl
    | true => rw [bisk_sub (by omega) h2 hb] at ha; cases ha
theorem bisk_on {c : Nat → Nat} {k : Nat} (h : bisk c (k + 1) = bisk c k) : ∀ j, bisk c (k + j) = bisk c k
  | 0 => rfl
  | j + 1 => by
    show nmb (agr c (bisk c (k + j))) (c 0) = _
    rw [bisk_on h j]
    exact h
theorem bisk_grow {c : Nat → Nat} (h1 : 1 ≤ c 0) : ∀ j, (∀ k, k < j → bisk c (k + 2) ≠ bisk c (k + 1)) → j + 1 ≤ (bisk c (j + 1)).2
  | 0, _ => by
    show 1 ≤ (nmb (agr c (bisk c 0)) (c 0)).2
    rw [nmb_cnt]
    have : sm (nwc (agr c (bisk c 0))) 1 ≤ sm (nwc (agr c (bisk c 0))) (c 0) := sm_mono h1
    exact this
  | j + 1, h => by
    have ih := bisk_grow h1 j (fun k hk => h k (by omega))
    have hne := h j (by omega)
    have hle : (bisk c (j + 1)).2 ≤ (bisk c (j + 2)).2 := nmb_le (fun l s hl hs => bisk_sub hl hs)
    have hn : (bisk c (j + 2)).2 ≠ (bisk c (j + 1)).2 := fun z => hne (bisk_rest z)
    show j + 1 + 1 ≤ (bisk c (j + 2)).2
    omega
/-- behind as many rounds as there are states nothing is split any more -/
theorem bis_rest {c : Nat → Nat} (h1 : 1 ≤ c 0) : ∀ j, bisk c (c 0 + j) = bis c := by
  have hex : ∃ k, k < c 0 ∧ bisk c (k + 2) = bisk c (k + 1) := by
    refine Classical.byContradiction (fun z => ?_)
    have hall : ∀ k, k < c 0 → bisk c (k + 2) ≠ bisk c (k + 1) := fun k hk q => z ⟨k, hk, q⟩
    have hg := bisk_grow h1 (c 0) hall
    have hb : (bisk c (c 0 + 1)).2 ≤ c 0 := (nmb_bd (c 0)).1
    omega
  obtain ⟨k, hk, e⟩ := hex
  intro j
  have a := bisk_on e (c 0 - (k + 1) + j)
  have b := bisk_on e (c 0 - (k + 1))
  rw [show k + 1 + (c 0 - (k + 1) + j) = c 0 + j by omega] at a
  rw [show k + 1 + (c 0 - (k + 1)) = c 0 by omega] at b
  rw [a]
  exact b.symm
theorem bis_fix {c : Nat → Nat} (h1 : 1 ≤ c 0) : nmb (agr c (bis c)) (c 0) = bis c := bis_rest h1 1
/-- states of one part: the same label, the same weights to the parts -/
theorem bis_like {c : Nat → Nat} (h1 : 1 ≤ c 0) {x y : Nat} (hx : x < c 0) (hy : y < c 0) (h : (bis c).1 x = (bis c).1 y) : c (4 + x) = c (4 + y) ∧ ∀ k, k < (bis c).2 → wtc c (bis c).1 x k = wtc c (bis c).1 y k := by
  have e := bis_fix h1
  have hs := nmb_spec (c 0) (agr_eqv c (bis c) (c 0)) x y hx hy
  rw [e] at hs
  exact (agr_iff.mp (hs.mp h)).2
theorem nmb_surj {rel : Nat → Nat → Bool} : ∀ n a, a < (nmb rel n).2 → ∃ x, x < n ∧ (nmb rel n).1 x = a
  | 0, a, h => by have h : a < 0 := h; omega
  | s + 1, a, h => by
    cases hf : ff (fun l => rel l s) s 0 with
    | some l =>
      rw [nmb_some hf] at h ⊢
      obtain ⟨x, hx, e⟩ := nmb_surj s a h
      exact ⟨x, by omega, by show cup _ _ _ x = a; rw [cup_ne (by omega)]; exact e⟩
    | none =>
      rw [nmb_none hf] at h ⊢
      have h : a < (nmb rel s).2 + 1 := h
      by_cases e : a = (nmb rel s).2
      · exact ⟨s, by omega, by show cup _ _ _ s = a; rw [cup_eq, e]⟩
      · obtain ⟨x, hx, ex⟩ := nmb_surj (rel := rel) s a (by omega)
        exact ⟨x, by omega, by show cup _ _ _ x = a; rw [cup_ne (by omega)]; exact ex⟩
/-- the lowest state of a part -/
def rep (c : Nat → Nat) (a : Nat) : Nat := (ff (fun s => decide ((bis c).1 s = a)) (c 0) 0).getD 0
theorem rep_ok {c : Nat → Nat} (h1 : 1 ≤ c 0) {a : Nat} (ha : a < (bis c).2) : rep c a < c 0 ∧ (bis c).1 (rep c a) = a := by
  have e := bis_fix h1
  rw [← e] at ha
  obtain ⟨x, hx, ex⟩ := nmb_surj _ _ ha
  rw [e] at ex
  unfold rep
  cases hf : ff (fun s => decide ((bis c).1 s = a)) (c 0) 0 with
  | none =>
    have := ff_no hf x (Nat.zero_le _) (by omega)
    exact absurd ex (of_decide_eq_false this)
  | some m =>
    have hm := ff_lt hf
    have ht : decide ((bis c).1 m = a) = true := ff_true hf
    exact ⟨by show m < c 0; omega, of_decide_eq_true ht⟩
/-- the quotient -/
def quo (c : Nat → Nat) : Nat → Nat := fun k => if k = 0 then (bis c).2 else if k < 4 then c k else if k < 10 then (if k - 4 < (bis c).2 then c (4 + rep c (k - 4)) else 0) else if (k - 10) / 6 < (bis c).2 ∧ (k - 10) % 6 < (bis c).2 then wtc c (bis c).1 (rep c ((k - 10) / 6)) ((k - 10) % 6) else 0
theorem quo_l {c : Nat → Nat} {a : Nat} (h : a < 6) : quo c (4 + a) = if a < (bis c).2 then c (4 + rep c a) else 0 := by
  unfold quo
  rw [if_neg (by omega), if_neg (by omega), if_pos (by omega), show 4 + a - 4 = a by omega]
theorem quo_w {c : Nat → Nat} {k : Nat} : quo c (10 + k) = if k / 6 < (bis c).2 ∧ k % 6 < (bis c).2 then wtc c (bis c).1 (rep c (k / 6)) (k % 6) else 0 := by
  unfold quo
  rw [if_neg (by omega), if_neg (by omega), if_neg (by omega), show 10 + k - 10 = k by omega]
def f_minimize (T : TS) : Int32 × TS := (nI (bis T.1).2, (quo T.1, (0, T.2.1.2), T.2.2))
set_option maxHeartbeats 1000000 in
theorem s_quo (d : Nat) (I : aI) (J : aJ) (c : Nat → Nat) (hc : Ch I 2 c) (W : Wc c) (hp : Pt I (c 0) (bis c)) : Sp m_X6_writeQuotient (d + 2) [.ref 74, .ref 2, .ref 5] E0 I J (fun r I' J' => r = none ∧ J' = J ∧ Ch I' 5 (quo c) ∧ ∀ q, ¬ (5 ≤ q ∧ q ≤ 7) → I' q = I q) := by
  refine Sp.of (lo := [some (.ref 74), some (.ref 2), some (.ref 5), none, none, none]) rfl (fun Q hQ => ?_)
  have w1 := W.1
  have w2 := W.2.1
  have wl := W.2.2.2.1
  have w12 := Wc_w W
  obtain ⟨p, hpe⟩ : ∃ p, p = bis c := ⟨_, rfl⟩
  have nb := bisk_bd W.1 (c 0)
  have nb1 : p.2 ≤ 6 := by rw [hpe]; exact nb.1
  have nb2 : ∀ x, x < c 0 → p.1 x < p.2 := by rw [hpe]; exact nb.2
  rw [← hpe] at hp
  refine Ez.blk B_X6_writeQuotient_0 (lo' := [some (.ref 74), some (.ref 2), some (.ref 5), none, none, none]) (st' := [.ref 2, .ref 5]) (I' := I) (J' := J) (Ps := []) rfl trivial ?_
  refine Ez.callV (As := [.ref 2]) (b := 5) (rest := []) kn_X1_copyFrom ml_6_51 im_X1_copyFrom se_X1_copyFrom rfl (by decide +kernel) rfl rfl (Nat.le_of_ble_eq_true rfl) (Nat.le_of_ble_eq_true rfl) o_5 (s_copy _ E0 I J 5 2 CE_5 CE_2 (by omega) c hc) (fun r I1 J1 hq => ?_)
  obtain ⟨rfl, rfl, k1, k2⟩ := hq
  have e1 : I1 74 0 = nI p.2 := by rw [k2 74 (by omega) (by omega) (by omega)]; exact hp.1
  have e2 : I1 2 1 = nI (c 1) := by rw [k2 2 (by omega) (by omega) (by omega)]; exact hc.1 1 (by decide)
  refine Ez.blk B_X6_writeQuotient_5 (lo' := [some (.ref 74), some (.ref 2), some (.ref 5), none, none, none]) (st' := [.int (I1 2 1), .int (I1 74 0), .ref 5]) (I' := I1) (J' := J1) (Ps := [aO E0 74 6, aO E0 2 1]) rfl ⟨o_74, o_2⟩ ?_
  rw [e1]
  rw [e2]
  refine Ez.callV (As := [.int (nI p.2), .int (nI (c 1))]) (b := 5) (rest := []) kn_X1_start ml_6_57 im_X1_start se_X1_start rfl (by decide +kernel) rfl rfl (Nat.le_of_ble_eq_true rfl) (Nat.le_of_ble_eq_true rfl) o_5 (s_start _ E0 I1 J1 5 p.2 (c 1) CE_5 nb1) (fun r I2 J2 hq => ?_)
  obtain ⟨rfl, rfl, ⟨a0, a1, a2⟩, a3, a4, a5⟩ := hq
  have g0 : ∀ q, ¬ (5 ≤ q ∧ q ≤ 7) → I2 q = I q := fun q hq => by rw [a5 q (by omega) (by omega) (by omega), k2 q (by omega) (by omega) (by omega)]
  have L1 : ∀ s, s ≤ c 0 → ∀ (I3 : aI), (((∀ q, ¬ (6 ≤ q ∧ q ≤ 7) → I3 q = I2 q) ∧ (∀ a, p.2 ≤ a → a < 6 → I3 6 a = 0) ∧ (∀ a b, a < 6 → b < 6 → (p.2 ≤ a ∨ p.2 ≤ b) → I3 7 (a * 6 + b) = 0)) ∧ (∀ x, x < s → I3 6 (p.1 x) = nI (c (4 + x)) ∧ ∀ t, t < p.2 → I3 7 (p.1 x * 6 + t) = nI (wtc c p.1 x t))) → Ez m_X6_writeQuotient (d + 2) 19 [some (.ref 74), some (.ref 2), some (.ref 5), some (.int (nI s)), none, none] [] E0 I3 J2 Q := by
    refine for_up ?_ ?_
    · intro I3 hi
      obtain ⟨⟨i1, i2, i3⟩, i4⟩ := hi
      refine Ez.blk B_X6_writeQuotient_19 (lo' := [some (.ref 74), some (.ref 2), some (.ref 5), some (.int (nI (c 0))), none, none]) (st' := [.int (I3 2 0), .int (nI (c 0))]) (I' := I3) (J' := J2) (Ps := [aO E0 2 1]) rfl o_2 ?_
      refine Ez.n_icmp_ge (off := 69) (tgt := 93) (by decide +kernel) (by decide) (a := (c 0)) (b := (c 0)) rfl (by rw [i1 2 (by omega), g0 2 (by omega)]; exact hc.1 0 (by decide)) (by omega) (by omega) (fun h => ?_) (fun h => absurd h (by omega))
      exact Ez.vret rfl (by decide +kernel) (hQ _ _ _ ⟨rfl, rfl, ⟨fun k hk => by
        rw [i1 5 (by omega)]
        unfold quo
        rw [← hpe]
        by_cases e0 : k = 0
        · rw [if_pos e0, e0]; exact a0
        · rw [if_neg e0, if_pos hk]
          by_cases e1 : k = 1
          · rw [e1]; exact a1
          · rw [a2 k e0 e1]; exact k1.1 k hk, fun a ha => by
        show I3 6 a = _
        rw [quo_l ha, ← hpe]
        by_cases e : a < p.2
        · rw [if_pos e]
          have r := rep_ok (c := c) w1.1 (a := a) (by rw [← hpe]; exact e)
          have := (i4 (rep c a) r.1).1
          rw [hpe, r.2] at this
          exact this
        · rw [if_neg e, i2 a (by omega) ha]; rfl, fun k hk => by
        show I3 7 k = _
        rw [quo_w, ← hpe]
        by_cases e : k / 6 < p.2 ∧ k % 6 < p.2
        · rw [if_pos e]
          have r := rep_ok (c := c) w1.1 (a := k / 6) (by rw [← hpe]; exact e.1)
          have := (i4 (rep c (k / 6)) r.1).2 (k % 6) e.2
          rw [show p.1 (rep c (k / 6)) = k / 6 by rw [hpe]; exact r.2, show k / 6 * 6 + k % 6 = k by omega] at this
          exact this
        · rw [if_neg e]
          have := i3 (k / 6) (k % 6) (by omega) (by omega) (by omega)
          rw [show k / 6 * 6 + k % 6 = k by omega] at this
          rw [this]; rfl⟩, fun q hq => by rw [i1 q (by omega), g0 q hq]⟩)
    · intro s hs ih I3 hi
      obtain ⟨⟨i1, i2, i3⟩, i4⟩ := hi
      have hps := nb2 s hs
      refine Ez.blk B_X6_writeQuotient_19 (lo' := [some (.ref 74), some (.ref 2), some (.ref 5), some (.int (nI s)), none, none]) (st' := [.int (I3 2 0), .int (nI s)]) (I' := I3) (J' := J2) (Ps := [aO E0 2 1]) rfl o_2 ?_
      refine Ez.n_icmp_ge (off := 69) (tgt := 93) (by decide +kernel) (by decide) (a := s) (b := (c 0)) rfl (by rw [i1 2 (by omega), g0 2 (by omega)]; exact hc.1 0 (by decide)) (by omega) (by omega) (fun h => absurd h (by omega)) (fun h => ?_)
      have e5 : I3 75 s = nI (p.1 s) := by rw [i1 75 (by omega), g0 75 (by omega)]; exact hp.2 s hs
      have e6 : I3 3 s = nI (c (4 + s)) := by rw [i1 3 (by omega), g0 3 (by omega)]; exact hc.2.1 s (by omega)
      refine Ez.blk B_X6_writeQuotient_27 (lo' := [some (.ref 74), some (.ref 2), some (.ref 5), some (.int (nI s)), some (.int (I3 75 ((nI s).toNatClampNeg))), some (.int 0)]) (st' := []) (I' := (aUp I3 6 ((I3 75 ((nI s).toNatClampNeg)).toNatClampNeg) (I3 3 ((nI s).toNatClampNeg)))) (J' := J2) (Ps := [aO E0 74 6 ∧ E0.2.2 74 1 ≠ 0, aAr E0 1 75 (nI s), aO E0 5 1 ∧ E0.2.2 5 4 ≠ 0, aO E0 2 1 ∧ E0.2.2 2 4 ≠ 0, aAr E0 1 3 (nI s), aAr E0 1 6 (I3 75 ((nI s).toNatClampNeg))]) rfl ⟨r_74_1, (a_75 (vin (n := s) rfl (by omega) (by decide))), r_5_4, r_2_4, (a_3 (vin (n := s) rfl (by omega) (by decide))), (a_6 (vin (n := (p.1 s)) (by rw [cln (x := nI s) (n := s) rfl (by omega)]; exact e5) (by omega) (by decide)))⟩ ?_
      rw [cln (x := nI s) (n := s) rfl (by omega)]
      rw [cln (x := I3 75 s) (n := (p.1 s)) e5 (by omega)]
      rw [e5]
      rw [e6]
      generalize hI4 : (aUp I3 6 (p.1 s) (nI (c (4 + s)))) = I4
      have j1 : ∀ q, ¬ (6 ≤ q ∧ q ≤ 7) → I4 q = I2 q := fun q hq => by rw [← hI4, aUp_ne (by omega)]; exact i1 q hq
      have j2 : ∀ a, p.2 ≤ a → a < 6 → I4 6 a = 0 := fun a ha h6 => by rw [← hI4, aUp_nk (by omega)]; exact i2 a ha h6
      have j3 : ∀ a b, a < 6 → b < 6 → (p.2 ≤ a ∨ p.2 ≤ b) → I4 7 (a * 6 + b) = 0 := fun a b ha hb h => by rw [← hI4, aUp_ne (by omega)]; exact i3 a b ha hb h
      have j4 : ∀ x, x < s + 1 → I4 6 (p.1 x) = nI (c (4 + x)) := fun x hx => by
        rw [← hI4]
        by_cases e : p.1 x = p.1 s
        · rw [e, aUp_eq, (bis_like (c := c) w1.1 (x := x) (y := s) (by omega) hs (by rw [← hpe]; exact e)).1]
        · rw [aUp_nk e]
          exact (i4 x (by by_cases ex : x = s; · rw [ex] at e; exact absurd rfl e
                          · omega)).1
      have j5 : ∀ x, x < s → ∀ t, t < p.2 → I4 7 (p.1 x * 6 + t) = nI (wtc c p.1 x t) := fun x hx t ht => by rw [← hI4, aUp_ne (by omega)]; exact (i4 x hx).2 t ht
      have L2 : ∀ j, j ≤ p.2 → ∀ (I5 : aI), ((∀ q, q ≠ 7 → I5 q = I4 q) ∧ (∀ a b, a < 6 → b < 6 → (p.2 ≤ a ∨ p.2 ≤ b) → I5 7 (a * 6 + b) = 0) ∧ (∀ x, x < s → ∀ t, t < p.2 → I5 7 (p.1 x * 6 + t) = nI (wtc c p.1 x t)) ∧ ∀ t, t < j → I5 7 (p.1 s * 6 + t) = nI (wtc c p.1 s t)) → Ez m_X6_writeQuotient (d + 2) 51 [some (.ref 74), some (.ref 2), some (.ref 5), some (.int (nI s)), some (.int (nI (p.1 s))), some (.int (nI j))] [] E0 I5 J2 Q := by
        refine for_up ?_ ?_
        · intro I5 hj
          obtain ⟨m1, m2, m3, m4⟩ := hj
          refine Ez.blk B_X6_writeQuotient_51 (lo' := [some (.ref 74), some (.ref 2), some (.ref 5), some (.int (nI s)), some (.int (nI (p.1 s))), some (.int (nI p.2))]) (st' := [.int (I5 74 0), .int (nI p.2)]) (I' := I5) (J' := J2) (Ps := [aO E0 74 6]) rfl o_74 ?_
          refine Ez.n_icmp_ge (off := 30) (tgt := 87) (by decide +kernel) (by decide) (a := p.2) (b := p.2) rfl (by rw [m1 74 (by omega), j1 74 (by omega), g0 74 (by omega)]; exact hp.1) (by omega) (by omega) (fun h9 => ?_) (fun h9 => absurd h9 (by omega))
          refine Ez.blk B_X6_writeQuotient_87 (lo' := [some (.ref 74), some (.ref 2), some (.ref 5), some (.int (nI s + 1)), some (.int (nI (p.1 s))), some (.int (nI p.2))]) (st' := []) (I' := I5) (J' := J2) (Ps := []) rfl trivial ?_
          rw [show (nI s + 1) = nI (s + 1) from (eq_add (a := s) (b := 1) rfl rfl)]
          refine Ez.drops [4, 5] (lo' := [some (.ref 74), some (.ref 2), some (.ref 5), some (.int (nI (s + 1))), none, none]) rfl ?_
          exact ih I5 ⟨⟨fun q hq => by rw [m1 q (by omega)]; exact j1 q hq, fun a ha h6 => by rw [m1 6 (by omega)]; exact j2 a ha h6, m2⟩, fun x hx => ⟨by rw [m1 6 (by omega)]; exact j4 x hx, fun t ht => by
            by_cases e : x = s
            · rw [e]; exact m4 t ht
            · exact m3 x (by omega) t ht⟩⟩
        · intro j hjp ih2 I5 hj
          obtain ⟨m1, m2, m3, m4⟩ := hj
          have hc5 : Ch I5 2 c := Ch_eq hc (by rw [m1 2 (by omega), j1 2 (by omega), g0 2 (by omega)]) (by rw [m1 3 (by omega), j1 3 (by omega), g0 3 (by omega)]) (by rw [m1 4 (by omega), j1 4 (by omega), g0 4 (by omega)])
          have hp5 : Pt I5 (c 0) p := ⟨by rw [m1 74 (by omega), j1 74 (by omega), g0 74 (by omega)]; exact hp.1, fun x hx => by rw [m1 75 (by omega), j1 75 (by omega), g0 75 (by omega)]; exact hp.2 x hx⟩
          refine Ez.blk B_X6_writeQuotient_51 (lo' := [some (.ref 74), some (.ref 2), some (.ref 5), some (.int (nI s)), some (.int (nI (p.1 s))), some (.int (nI j))]) (st' := [.int (I5 74 0), .int (nI j)]) (I' := I5) (J' := J2) (Ps := [aO E0 74 6]) rfl o_74 ?_
          refine Ez.n_icmp_ge (off := 30) (tgt := 87) (by decide +kernel) (by decide) (a := j) (b := p.2) rfl (by rw [m1 74 (by omega), j1 74 (by omega), g0 74 (by omega)]; exact hp.1) (by omega) (by omega) (fun h9 => absurd h9 (by omega)) (fun h9 => ?_)
          refine Ez.blk B_X6_writeQuotient_60 (lo' := [some (.ref 74), some (.ref 2), some (.ref 5), some (.int (nI s)), some (.int (nI (p.1 s))), some (.int (nI j))]) (st' := [.int (nI j), .int (nI s), .ref 2, .ref 74, .int ((nI (p.1 s) * 6) + nI j), .ref 7]) (I' := I5) (J' := J2) (Ps := [aO E0 5 1 ∧ E0.2.2 5 5 ≠ 0]) rfl r_5_5 ?_
          refine Ez.callV (As := [.ref 2, .int (nI s), .int (nI j)]) (b := 74) (rest := [.int ((nI (p.1 s) * 6) + nI j), .ref 7]) kn_X6_weightToClass ml_6_44 im_X6_weightToClass se_X6_weightToClass rfl (by decide +kernel) rfl rfl (Nat.le_of_ble_eq_true rfl) (Nat.le_of_ble_eq_true rfl) o_74 (s_wtc _ I5 J2 c hc5 W p hp5 nb1 nb2 s j (by omega) (by omega)) (fun r I6 J6 hq => ?_)
          obtain ⟨rfl, rfl, rfl⟩ := hq
          refine Ez.blk B_X6_writeQuotient_80 (lo' := [some (.ref 74), some (.ref 2), some (.ref 5), some (.int (nI s)), some (.int (nI (p.1 s))), some (.int (nI j + 1))]) (st' := []) (I' := (aUp I6 7 (((nI (p.1 s) * 6) + nI j).toNatClampNeg) (nI (wtc c p.1 s j)))) (J' := J6) (Ps := [aAr E0 1 7 ((nI (p.1 s) * 6) + nI j)]) rfl (a_7 (vin (n := ((p.1 s) * 6 + j)) (eq_add (a := ((p.1 s) * 6)) (b := j) (eq_mul (a := (p.1 s)) (b := 6) rfl rfl) rfl) (by omega) (by decide))) ?_
          rw [cln (x := ((nI (p.1 s) * 6) + nI j)) (n := ((p.1 s) * 6 + j)) (eq_add (a := ((p.1 s) * 6)) (b := j) (eq_mul (a := (p.1 s)) (b := 6) rfl rfl) rfl) (by omega)]
          rw [show (nI j + 1) = nI (j + 1) from (eq_add (a := j) (b := 1) rfl rfl)]
          refine ih2 (aUp I6 7 (p.1 s * 6 + j) (nI (wtc c p.1 s j))) ⟨fun q hq => by rw [aUp_ne hq]; exact m1 q hq, fun a b ha hb h => ?_, fun x hx t ht => ?_, fun t ht => ?_⟩
          · rw [aUp_nk (by intro z; have : a = p.1 s := by omega
                           have : b = j := by omega
                           omega)]; exact m2 a b ha hb h
          · by_cases e : p.1 x * 6 + t = p.1 s * 6 + j
            · have e1 : p.1 x = p.1 s := by have := nb2 x (by omega); omega
              have e2 : t = j := by omega
              have bl := (bis_like (c := c) w1.1 (x := x) (y := s) (by omega) hs (by rw [← hpe]; exact e1)).2 j (by rw [← hpe]; exact hjp)
              rw [← hpe] at bl
              rw [e, aUp_eq, e2, bl]
            · rw [aUp_nk e]; exact m3 x hx t ht
          · by_cases e : t = j
            · rw [e, aUp_eq]
            · rw [aUp_nk (by omega)]; exact m4 t (by omega)
      exact L2 0 (by omega) I4 ⟨fun _ _ => rfl, j3, j5, fun t ht => by omega⟩
  refine Ez.blk B_X6_writeQuotient_17 (lo' := [some (.ref 74), some (.ref 2), some (.ref 5), some (.int 0), none, none]) (st' := []) (I' := I2) (J' := J2) (Ps := []) rfl trivial ?_
  exact L1 0 (by omega) I2 ⟨⟨fun _ _ => rfl, fun a _ h6 => a3 a h6, fun a b ha hb h => by
    have := a4 (a * 6 + b) (by omega)
    rw [if_neg (by omega)] at this
    exact this⟩, fun x hx => by omega⟩
theorem c_minimize (d : Nat) (I : aI) (J : aJ) (T : TS) (W : WT T) (hP : CP T I J) : Sp m_X9_minimize (d + 5) [.ref 1] E0 I J (fun r I' J' => r = some (.int (f_minimize T).1) ∧ CP (f_minimize T).2 I' J' ∧ Fr9 I I' J J') := by
  refine Sp.of (lo := [some (.ref 1)]) rfl (fun Q hQ => ?_)
  have w1 := W.1.1
  have w2 := W.1.2.1
  have wb := Wc_12 W.1
  refine Ez.blk B_X9_minimize_0 (lo' := [some (.ref 1)]) (st' := [.ref 2, .ref 74]) (I' := I) (J' := J) (Ps := [aO E0 1 9 ∧ E0.2.2 1 6 ≠ 0, aO E0 1 9 ∧ E0.2.2 1 0 ≠ 0]) rfl ⟨r_1_6, r_1_0⟩ ?_
  refine Ez.callV (As := [.ref 2]) (b := 74) (rest := []) kn_X6_refineFully ml_9_193 im_X6_refineFully se_X6_refineFully rfl (by decide +kernel) rfl rfl (Nat.le_of_ble_eq_true rfl) (Nat.le_of_ble_eq_true rfl) o_74 (s_full _ I J T.1 hP.1 W.1) (fun r I1 J1 hq => ?_)
  obtain ⟨rfl, rfl, k1, k2⟩ := hq
  have c1 : Ch I1 2 T.1 := Ch_eq hP.1 (k2 _ (by omega)) (k2 _ (by omega)) (k2 _ (by omega))
  refine Ez.blk B_X9_minimize_11 (lo' := [some (.ref 1)]) (st' := [.ref 5, .ref 2, .ref 74]) (I' := I1) (J' := J1) (Ps := [aO E0 1 9 ∧ E0.2.2 1 6 ≠ 0, aO E0 1 9 ∧ E0.2.2 1 0 ≠ 0, aO E0 1 9 ∧ E0.2.2 1 1 ≠ 0]) rfl ⟨r_1_6, r_1_0, r_1_1⟩ ?_
  refine Ez.callV (As := [.ref 2, .ref 5]) (b := 74) (rest := []) kn_X6_writeQuotient ml_9_202 im_X6_writeQuotient se_X6_writeQuotient rfl (by decide +kernel) rfl rfl (Nat.le_of_ble_eq_true rfl) (Nat.le_of_ble_eq_true rfl) o_74 (s_quo _ I1 J1 T.1 c1 W.1 k1) (fun r I2 J2 hq => ?_)
  obtain ⟨rfl, rfl, m1, m2⟩ := hq
  refine Ez.blk B_X9_minimize_26 (lo' := [some (.ref 1)]) (st' := [.ref 5, .ref 2]) (I' := I2) (J' := J2) (Ps := [aO E0 1 9 ∧ E0.2.2 1 0 ≠ 0, aO E0 1 9 ∧ E0.2.2 1 1 ≠ 0]) rfl ⟨r_1_0, r_1_1⟩ ?_
  refine Ez.callV (As := [.ref 5]) (b := 2) (rest := []) kn_X1_copyFrom ml_9_124 im_X1_copyFrom se_X1_copyFrom rfl (by decide +kernel) rfl rfl (Nat.le_of_ble_eq_true rfl) (Nat.le_of_ble_eq_true rfl) o_2 (s_copy _ E0 I2 J2 2 5 CE_2 CE_5 (by omega) (quo T.1) m1) (fun r I3 J3 hq => ?_)
  obtain ⟨rfl, rfl, n1, n2⟩ := hq
  have d1 : CEd T.2.1 I3 := CEd_fr hP.2.1 (fun b hb => by rw [n2 b (by omega) (by omega) (by omega), m2 b (by omega), k2 b (by omega)])
  refine Ez.blk B_X9_minimize_37 (lo' := [some (.ref 1)]) (st' := [.ref 11]) (I' := I3) (J' := J3) (Ps := [aO E0 1 9 ∧ E0.2.2 1 4 ≠ 0]) rfl r_1_4 ?_
  refine Ez.callV (As := []) (b := 11) (rest := []) kn_X4_forgetAll ml_9_89 im_X4_forgetAll se_X4_forgetAll rfl (by decide +kernel) rfl rfl (Nat.le_of_ble_eq_true rfl) (Nat.le_of_ble_eq_true rfl) o_11 (s_forget _ I3 J3 T.2.1 d1) (fun r I4 J4 hq => ?_)
  obtain ⟨rfl, rfl, f1, f2⟩ := hq
  have c4 : Ch I4 2 (quo T.1) := Ch_eq n1 (f2 _ (by omega)) (f2 _ (by omega)) (f2 _ (by omega))
  have e0 : I4 2 0 = nI (bis T.1).2 := c4.1 0 (by decide)
  have g : ∀ q, ¬ (2 ≤ q ∧ q ≤ 4) → q ≠ 11 → ¬ (5 ≤ q ∧ q ≤ 7) → ¬ (74 ≤ q ∧ q ≤ 76) → I4 q = I q := fun q h1 h2 h3 h4 => by rw [f2 q h2, n2 q (by omega) (by omega) (by omega), m2 q h3, k2 q h4]
  refine Ez.blk B_X9_minimize_44 (lo' := [some (.ref 1)]) (st' := [.int (I4 2 0)]) (I' := I4) (J' := J4) (Ps := [aO E0 1 9 ∧ E0.2.2 1 0 ≠ 0, aO E0 2 1]) rfl ⟨r_1_0, o_2⟩ ?_
  rw [e0]
  exact Ez.iret rfl (by decide +kernel) (hQ _ _ _ ⟨rfl, ⟨c4, f1, CSn_fr hP.2.2.1 (g _ (by omega) (by omega) (by omega) (by omega)) (fun b _ _ => g b (by omega) (by omega) (by omega) (by omega)), CBuf_fr hP.2.2.2.1 (g _ (by omega) (by omega) (by omega) (by omega)) (g _ (by omega) (by omega) (by omega) (by omega)), CSl_fr hP.2.2.2.2.1 (g _ (by omega) (by omega) (by omega) (by omega)) (g _ (by omega) (by omega) (by omega) (by omega)) (fun _ _ _ => rfl), CCa_fr hP.2.2.2.2.2 (fun b _ _ => g b (by omega) (by omega) (by omega) (by omega)) (fun _ _ _ => rfl)⟩, fun b hb => ⟨g b (by omega) (by omega) (by omega) (by omega), rfl⟩⟩)

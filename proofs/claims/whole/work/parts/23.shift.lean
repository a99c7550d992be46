/-! ALONG A WAY: slack and shift (the class) -/
def wcl (cb rb : Nat → Nat) (j : Nat) : Nat → Nat
  | 0 => j
  | t + 1 => cb (rb (wcl cb rb j t) - 1) - 1
def wro (cb rb : Nat → Nat) (j t : Nat) : Nat := rb (wcl cb rb j t) - 1
theorem wcl_sh (cb rb : Nat → Nat) (j : Nat) : ∀ t, wcl cb rb (cb (rb j - 1) - 1) t = wcl cb rb j (t + 1)
  | 0 => rfl
  | t + 1 => by
    show cb (rb (wcl cb rb (cb (rb j - 1) - 1) t) - 1) - 1 = cb (rb (wcl cb rb j (t + 1)) - 1) - 1
    rw [wcl_sh cb rb j t]
theorem wro_sh (cb rb : Nat → Nat) (j t : Nat) : wro cb rb (cb (rb j - 1) - 1) t = wro cb rb j (t + 1) := by
  unfold wro
  rw [wcl_sh]
/-- a way of m hops back from column j to row s -/
def Wy (n : Nat) (A : Nat → Nat → Prop) (dd f : Nat → Nat → Nat) (s : Nat) (R C : Nat → Int) (cb rb r : Nat → Nat) (j m : Nat) : Prop := wro cb rb j m = s ∧ (∀ t, t ≤ m → wcl cb rb j t < n ∧ wro cb rb j t < n ∧ rb (wcl cb rb j t) = wro cb rb j t + 1 ∧ A (wro cb rb j t) (wcl cb rb j t) ∧ R (wro cb rb j t) ≠ FAR ∧ C (wcl cb rb j t) ≠ FAR ∧ C (wcl cb rb j t) = R (wro cb rb j t) + (dd (wro cb rb j t) (wcl cb rb j t) : Int)) ∧ ∀ t, t < m → wro cb rb j t ≠ s ∧ cb (wro cb rb j t) = wcl cb rb j (t + 1) + 1 ∧ A (wro cb rb j t) (wcl cb rb j (t + 1)) ∧ 0 < f (wro cb rb j t) (wcl cb rb j (t + 1)) ∧ R (wro cb rb j t) = C (wcl cb rb j (t + 1)) - (dd (wro cb rb j t) (wcl cb rb j (t + 1)) : Int) ∧ r (wro cb rb j (t + 1)) < r (wro cb rb j t)
theorem fp_way {n : Nat} {A : Nat → Nat → Prop} {dd f : Nat → Nat → Nat} {u v : Nat → Int} {s : Nat} {K : Int} {R C : Nat → Int} {cb rb r c : Nat → Nat} (h : FPF n A dd f u v s K R C cb rb r c) : ∀ (p j : Nat), j < n → C j ≠ FAR → r (rb j - 1) = p → ∃ m, m ≤ p ∧ Wy n A dd f s R C cb rb r j m := by
  obtain ⟨h1, h23, h4, h6, h7, h8, h9⟩ := h
  intro p
  induction p using Nat.strongRecOn with
  | _ p ih =>
    intro j hj hC hp
    obtain ⟨i, hi, e, hA, hR, hl, hq⟩ := h7 j hj hC
    have tight : C j = R i + (dd i j : Int) := by have := h8 i j hi hj hA hR; omega
    have wr : wro cb rb j 0 = i := by show rb j - 1 = i; omega
    have ei : rb j - 1 = i := by omega
    rw [ei] at hp
    have fst : wcl cb rb j 0 < n ∧ wro cb rb j 0 < n ∧ rb (wcl cb rb j 0) = wro cb rb j 0 + 1 ∧ A (wro cb rb j 0) (wcl cb rb j 0) ∧ R (wro cb rb j 0) ≠ FAR ∧ C (wcl cb rb j 0) ≠ FAR ∧ C (wcl cb rb j 0) = R (wro cb rb j 0) + (dd (wro cb rb j 0) (wcl cb rb j 0) : Int) := by
      rw [wr]
      exact ⟨hj, hi, e, hA, hR, hC, tight⟩
    by_cases es : i = s
    · refine ⟨0, Nat.zero_le _, by rw [wr]; exact es, fun t ht => ?_, fun t ht => by omega⟩
      rw [show t = 0 by omega]
      exact fst
    · obtain ⟨j', hj', e', hA', hf', hC', hl', hq'⟩ := h6 i hi hR es
      have tight' : R i = C j' - (dd i j' : Int) := by have := h9 i j' hi hj' hA' hf' hC'; omega
      obtain ⟨i', hi', e2, hA2, hR2, hl2, hq2⟩ := h7 j' hj' hC'
      have tight2 : C j' = R i' + (dd i' j' : Int) := by have := h8 i' j' hi' hj' hA2 hR2; omega
      have rk : r i' < r i := by
        have := hq' (by omega)
        have := hq2 (by omega)
        omega
      have ej : cb (rb j - 1) - 1 = j' := by rw [ei]; omega
      have ei' : rb j' - 1 = i' := by omega
      obtain ⟨m, hm, w1, w2, w3⟩ := ih (r i') (by omega) j' hj' hC' (by rw [ei'])
      rw [← ej] at w1 w2 w3
      refine ⟨m + 1, by omega, ?_, fun t ht => ?_, fun t ht => ?_⟩
      · rw [← wro_sh]; exact w1
      · cases t with
        | zero => exact fst
        | succ t =>
          have := w2 t (by omega)
          rw [wcl_sh, wro_sh] at this
          exact this
      · cases t with
        | zero =>
          have q1 : wcl cb rb j (0 + 1) = j' := ej
          have q2 : wro cb rb j (0 + 1) = i' := by unfold wro; rw [q1]; exact ei'
          rw [wr, q1, q2]
          exact ⟨es, e', hA', hf', tight', rk⟩
        | succ t =>
          have := w3 t (by omega)
          rw [wcl_sh, wro_sh, wro_sh] at this
          exact this
theorem wy_rk {n : Nat} {A : Nat → Nat → Prop} {dd f : Nat → Nat → Nat} {s : Nat} {R C : Nat → Int} {cb rb r : Nat → Nat} {j m : Nat} (h : Wy n A dd f s R C cb rb r j m) (t : Nat) : ∀ t', t < t' → t' ≤ m → r (wro cb rb j t') < r (wro cb rb j t)
  | 0, h1, _ => by omega
  | t' + 1, h1, h2 => by
    have h3 := (h.2.2 t' (by omega)).2.2.2.2.2
    by_cases e : t = t'
    · rw [e]; exact h3
    · have := wy_rk h t t' (by omega) (by omega)
      omega
def slk (f : Nat → Nat → Nat) (cb rb : Nat → Nat) (j lim : Nat) : Nat → Nat
  | 0 => lim
  | t + 1 => min (slk f cb rb j lim t) (f (wro cb rb j t) (wcl cb rb j (t + 1)))
theorem slk_le (f : Nat → Nat → Nat) (cb rb : Nat → Nat) (j lim : Nat) : ∀ t, slk f cb rb j lim t ≤ lim ∧ ∀ t', t' < t → slk f cb rb j lim t ≤ f (wro cb rb j t') (wcl cb rb j (t' + 1))
  | 0 => ⟨Nat.le_refl _, fun t' h => by omega⟩
  | t + 1 => by
    have ih := slk_le f cb rb j lim t
    have e : slk f cb rb j lim (t + 1) = min (slk f cb rb j lim t) (f (wro cb rb j t) (wcl cb rb j (t + 1))) := rfl
    refine ⟨by omega, fun t' h => ?_⟩
    by_cases e' : t' = t
    · rw [e']; omega
    · have := ih.2 t' (by omega)
      omega
theorem slk_pos {f : Nat → Nat → Nat} {cb rb : Nat → Nat} {j lim : Nat} (h0 : 0 < lim) : ∀ t, (∀ t', t' < t → 0 < f (wro cb rb j t') (wcl cb rb j (t' + 1))) → 0 < slk f cb rb j lim t
  | 0, _ => h0
  | t + 1, h => by
    have ih := slk_pos h0 t (fun t' ht => h t' (by omega))
    have := h t (by omega)
    have e : slk f cb rb j lim (t + 1) = min (slk f cb rb j lim t) (f (wro cb rb j t) (wcl cb rb j (t + 1))) := rfl
    omega
/-- a matrix in a row of 36 -/
abbrev mx (F : Nat → Nat) (i j : Nat) : Nat := F (i * 6 + j)
def shf (F cb rb : Nat → Nat) (j a : Nat) : Nat → Nat → Nat
  | 0 => F
  | t + 1 => cup (cup (shf F cb rb j a t) (wro cb rb j t * 6 + wcl cb rb j t) (shf F cb rb j a t (wro cb rb j t * 6 + wcl cb rb j t) + a)) (wro cb rb j t * 6 + wcl cb rb j (t + 1)) (cup (shf F cb rb j a t) (wro cb rb j t * 6 + wcl cb rb j t) (shf F cb rb j a t (wro cb rb j t * 6 + wcl cb rb j t) + a) (wro cb rb j t * 6 + wcl cb rb j (t + 1)) - a)
def shF (F cb rb : Nat → Nat) (j a m : Nat) : Nat → Nat := cup (shf F cb rb j a m) (wro cb rb j m * 6 + wcl cb rb j m) (shf F cb rb j a m (wro cb rb j m * 6 + wcl cb rb j m) + a)
theorem sm_one {g g' : Nat → Nat} {j0 : Nat} : ∀ {n : Nat}, j0 < n → (∀ j, j < n → j ≠ j0 → g' j = g j) → sm g' n + g j0 = sm g n + g' j0
  | 0, h, _ => by omega
  | n + 1, h, he => by
    show sm g' n + g' n + g j0 = sm g n + g n + g' j0
    by_cases e : j0 = n
    · subst e
      rw [sm_ext (f := g') (g := g) (fun j hj => he j (by omega) (by omega))]
      omega
    · have := sm_one (n := n) (by omega) (fun j hj hn => he j (by omega) hn)
      have := he n (by omega) (fun z => e z.symm)
      omega
theorem row_cup {H : Nat → Nat} {n i0 j0 v : Nat} (hn : n ≤ 6) (hj : j0 < n) (x : Nat) : sm (fun y => mx (cup H (i0 * 6 + j0) v) x y) n + (if x = i0 then H (i0 * 6 + j0) else 0) = sm (fun y => mx H x y) n + if x = i0 then v else 0 := by
  by_cases e : x = i0
  · subst e
    rw [if_pos rfl, if_pos rfl]
    have := sm_one (g := fun y => mx H x y) (g' := fun y => mx (cup H (x * 6 + j0) v) x y) hj (fun y hy hne => cup_ne (by omega))
    dsimp only [mx] at this
    rw [cup_eq] at this
    exact this
  · rw [if_neg e, if_neg e, sm_ext (f := fun y => mx (cup H (i0 * 6 + j0) v) x y) (g := fun y => mx H x y) (fun y hy => cup_ne (by omega))]
theorem col_cup {H : Nat → Nat} {n i0 j0 v : Nat} (hn : n ≤ 6) (hi : i0 < n) (hj : j0 < n) (y : Nat) (hy : y < n) : sm (fun x => mx (cup H (i0 * 6 + j0) v) x y) n + (if y = j0 then H (i0 * 6 + j0) else 0) = sm (fun x => mx H x y) n + if y = j0 then v else 0 := by
  by_cases e : y = j0
  · subst e
    rw [if_pos rfl, if_pos rfl]
    have := sm_one (g := fun x => mx H x y) (g' := fun x => mx (cup H (i0 * 6 + y) v) x y) hi (fun x hx hne => cup_ne (by omega))
    dsimp only [mx] at this
    rw [cup_eq] at this
    exact this
  · rw [if_neg e, if_neg e, sm_ext (f := fun x => mx (cup H (i0 * 6 + j0) v) x y) (g := fun x => mx H x y) (fun x hx => cup_ne (by omega))]
section shift
variable {n : Nat} {A : Nat → Nat → Prop} {dd : Nat → Nat → Nat} {s : Nat} {R C : Nat → Int} {cb rb r : Nat → Nat} {F : Nat → Nat} {j m a : Nat}
theorem shf_row (h : Wy n A dd (mx F) s R C cb rb r j m) (hn : n ≤ 6) : ∀ t, t ≤ m → ∀ x y, y < 6 → (∀ t', t' < t → x ≠ wro cb rb j t') → shf F cb rb j a t (x * 6 + y) = F (x * 6 + y)
  | 0, _, _, _, _, _ => rfl
  | t + 1, ht, x, y, hy, hx => by
    have h0 := (h.2.1 t (by omega)).1
    have h1 := (h.2.1 (t + 1) ht).1
    have hx0 := hx t (by omega)
    show cup (cup _ _ _) _ _ (x * 6 + y) = _
    rw [cup_ne (by omega), cup_ne (by omega)]
    exact shf_row h hn t (by omega) x y hy (fun t' ht' => hx t' (by omega))
theorem shf_own (h : Wy n A dd (mx F) s R C cb rb r j m) (hn : n ≤ 6) (t : Nat) (ht : t ≤ m) (y : Nat) (hy : y < 6) : shf F cb rb j a t (wro cb rb j t * 6 + y) = F (wro cb rb j t * 6 + y) := shf_row h hn t ht _ y hy (fun t' ht' z => by
  have := wy_rk h t' t ht' ht
  rw [z] at this
  omega)
theorem shf_marg (h : Wy n A dd (mx F) s R C cb rb r j m) (hn : n ≤ 6) (ha : ∀ t, t < m → a ≤ mx F (wro cb rb j t) (wcl cb rb j (t + 1))) : ∀ t, t ≤ m → (∀ x, x < n → sm (fun y => mx (shf F cb rb j a t) x y) n = sm (fun y => mx F x y) n) ∧ ∀ y, y < n → sm (fun x => mx (shf F cb rb j a t) x y) n + (if y = wcl cb rb j t then a else 0) = sm (fun x => mx F x y) n + if y = j then a else 0
  | 0, _ => ⟨fun _ _ => rfl, fun _ _ => rfl⟩
  | t + 1, ht => by
    obtain ⟨ih1, ih2⟩ := shf_marg h hn ha t (by omega)
    have h0 := h.2.1 t (by omega)
    have h1 := h.2.1 (t + 1) ht
    have hh := h.2.2 t (by omega)
    have hat := ha t (by omega)
    have own := shf_own (a := a) h hn t (by omega) (wcl cb rb j (t + 1)) (by omega)
    have e : shf F cb rb j a (t + 1) = cup (cup (shf F cb rb j a t) (wro cb rb j t * 6 + wcl cb rb j t) (shf F cb rb j a t (wro cb rb j t * 6 + wcl cb rb j t) + a)) (wro cb rb j t * 6 + wcl cb rb j (t + 1)) (cup (shf F cb rb j a t) (wro cb rb j t * 6 + wcl cb rb j t) (shf F cb rb j a t (wro cb rb j t * 6 + wcl cb rb j t) + a) (wro cb rb j t * 6 + wcl cb rb j (t + 1)) - a) := rfl
    rw [e]
    generalize hH : shf F cb rb j a t = H at *
    generalize hG : cup H (wro cb rb j t * 6 + wcl cb rb j t) (H (wro cb rb j t * 6 + wcl cb rb j t) + a) = G
    have hGa : a ≤ G (wro cb rb j t * 6 + wcl cb rb j (t + 1)) := by
      rw [← hG]
      by_cases z : wro cb rb j t * 6 + wcl cb rb j (t + 1) = wro cb rb j t * 6 + wcl cb rb j t
      · rw [z, cup_eq]; omega
      · rw [cup_ne z, own]; exact hat
    refine ⟨fun x hx => ?_, fun y hy => ?_⟩
    · have q1 := row_cup (H := H) (v := H (wro cb rb j t * 6 + wcl cb rb j t) + a) (i0 := wro cb rb j t) hn h0.1 x
      have q2 := row_cup (H := G) (v := G (wro cb rb j t * 6 + wcl cb rb j (t + 1)) - a) (i0 := wro cb rb j t) hn h1.1 x
      rw [hG] at q1
      have := ih1 x hx
      by_cases z : x = wro cb rb j t
      · rw [if_pos z, if_pos z] at q1 q2
        omega
      · rw [if_neg z, if_neg z] at q1 q2
        omega
    · have q1 := col_cup (H := H) (v := H (wro cb rb j t * 6 + wcl cb rb j t) + a) hn h0.2.1 h0.1 y hy
      have q2 := col_cup (H := G) (v := G (wro cb rb j t * 6 + wcl cb rb j (t + 1)) - a) hn h0.2.1 h1.1 y hy
      rw [hG] at q1
      have := ih2 y hy
      by_cases z : y = wcl cb rb j t
      · rw [if_pos z] at this
        rw [if_pos z, if_pos z] at q1
        by_cases z2 : y = wcl cb rb j (t + 1)
        · rw [if_pos z2, if_pos z2] at q2
          rw [if_pos z2]
          omega
        · rw [if_neg z2, if_neg z2] at q2
          rw [if_neg z2]
          omega
      · rw [if_neg z] at this
        rw [if_neg z, if_neg z] at q1
        by_cases z2 : y = wcl cb rb j (t + 1)
        · rw [if_pos z2, if_pos z2] at q2
          rw [if_pos z2]
          omega
        · rw [if_neg z2, if_neg z2] at q2
          rw [if_neg z2]
          omega
/-- the margins after a shift -/
theorem shF_marg (h : Wy n A dd (mx F) s R C cb rb r j m) (hn : n ≤ 6) (ha : ∀ t, t < m → a ≤ mx F (wro cb rb j t) (wcl cb rb j (t + 1))) : (∀ x, x < n → sm (fun y => mx (shF F cb rb j a m) x y) n = sm (fun y => mx F x y) n + if x = s then a else 0) ∧ ∀ y, y < n → sm (fun x => mx (shF F cb rb j a m) x y) n = sm (fun x => mx F x y) n + if y = j then a else 0 := by
  obtain ⟨h1, h2⟩ := shf_marg h hn ha m (Nat.le_refl _)
  have hm := h.2.1 m (Nat.le_refl _)
  unfold shF
  refine ⟨fun x hx => ?_, fun y hy => ?_⟩
  · have q := row_cup (H := shf F cb rb j a m) (v := shf F cb rb j a m (wro cb rb j m * 6 + wcl cb rb j m) + a) (i0 := wro cb rb j m) hn hm.1 x
    have := h1 x hx
    rw [← h.1]
    by_cases z : x = wro cb rb j m
    · rw [if_pos z, if_pos z] at q
      rw [if_pos z]
      omega
    · rw [if_neg z, if_neg z] at q
      rw [if_neg z]
      omega
  · have q := col_cup (H := shf F cb rb j a m) (v := shf F cb rb j a m (wro cb rb j m * 6 + wcl cb rb j m) + a) hn hm.2.1 hm.1 y hy
    have := h2 y hy
    by_cases z : y = wcl cb rb j m
    · rw [if_pos z] at this
      rw [if_pos z, if_pos z] at q
      omega
    · rw [if_neg z] at this
      rw [if_neg z, if_neg z] at q
      omega
theorem shf_supp (h : Wy n A dd (mx F) s R C cb rb r j m) (hn : n ≤ 6) : ∀ t, t ≤ m → ∀ x y, x < n → y < n → (¬ A x y → shf F cb rb j a t (x * 6 + y) = F (x * 6 + y)) ∧ (0 < shf F cb rb j a t (x * 6 + y) → 0 < F (x * 6 + y) ∨ ∃ t', t' < t ∧ x = wro cb rb j t' ∧ y = wcl cb rb j t')
  | 0, _, _, _, _, _ => ⟨fun _ => rfl, fun h => Or.inl h⟩
  | t + 1, ht, x, y, hx, hy => by
    obtain ⟨i1, i2⟩ := shf_supp h hn t (by omega) x y hx hy
    have h0 := h.2.1 t (by omega)
    have h1 := h.2.1 (t + 1) ht
    have hh := h.2.2 t (by omega)
    have e : shf F cb rb j a (t + 1) = cup (cup (shf F cb rb j a t) (wro cb rb j t * 6 + wcl cb rb j t) (shf F cb rb j a t (wro cb rb j t * 6 + wcl cb rb j t) + a)) (wro cb rb j t * 6 + wcl cb rb j (t + 1)) (cup (shf F cb rb j a t) (wro cb rb j t * 6 + wcl cb rb j t) (shf F cb rb j a t (wro cb rb j t * 6 + wcl cb rb j t) + a) (wro cb rb j t * 6 + wcl cb rb j (t + 1)) - a) := rfl
    rw [e]
    by_cases z : x = wro cb rb j t
    · by_cases z1 : y = wcl cb rb j t
      · exact ⟨fun q => by rw [z, z1] at q; exact absurd h0.2.2.2.1 q, fun _ => Or.inr ⟨t, by omega, z, z1⟩⟩
      · by_cases z2 : y = wcl cb rb j (t + 1)
        · refine ⟨fun q => by rw [z, z2] at q; exact absurd hh.2.2.1 q, fun _ => Or.inl ?_⟩
          rw [z, z2]
          exact hh.2.2.2.1
        · rw [cup_ne (by omega), cup_ne (by omega)]
          exact ⟨i1, fun q => by
            rcases i2 q with q | ⟨t', q1, q2⟩
            · exact Or.inl q
            · exact Or.inr ⟨t', by omega, q2⟩⟩
    · rw [cup_ne (by omega), cup_ne (by omega)]
      exact ⟨i1, fun q => by
        rcases i2 q with q | ⟨t', q1, q2⟩
        · exact Or.inl q
        · exact Or.inr ⟨t', by omega, q2⟩⟩
theorem shF_supp (h : Wy n A dd (mx F) s R C cb rb r j m) (hn : n ≤ 6) (x y : Nat) (hx : x < n) (hy : y < n) : (¬ A x y → shF F cb rb j a m (x * 6 + y) = F (x * 6 + y)) ∧ (0 < shF F cb rb j a m (x * 6 + y) → 0 < F (x * 6 + y) ∨ ∃ t', t' ≤ m ∧ x = wro cb rb j t' ∧ y = wcl cb rb j t') := by
  obtain ⟨i1, i2⟩ := shf_supp (a := a) h hn m (Nat.le_refl _) x y hx hy
  have h0 := h.2.1 m (Nat.le_refl _)
  unfold shF
  by_cases z : x = wro cb rb j m ∧ y = wcl cb rb j m
  · exact ⟨fun q => by rw [z.1, z.2] at q; exact absurd h0.2.2.2.1 q, fun _ => Or.inr ⟨m, Nat.le_refl _, z⟩⟩
  · rw [cup_ne (by omega)]
    exact ⟨i1, fun q => by
      rcases i2 q with q | ⟨t', q1, q2⟩
      · exact Or.inl q
      · exact Or.inr ⟨t', by omega, q2⟩⟩
/-- cells beyond the matrix stay -/
theorem shF_out (h : Wy n A dd (mx F) s R C cb rb r j m) (q : Nat) (hq : ∀ x y, x < n → y < n → q ≠ x * 6 + y) : shF F cb rb j a m q = F q := by
  have key : ∀ t, t ≤ m → shf F cb rb j a t q = F q := by
    intro t
    induction t with
    | zero => exact fun _ => rfl
    | succ t ih =>
      intro ht
      have h0 := h.2.1 t (by omega)
      have h1 := h.2.1 (t + 1) ht
      show cup (cup _ _ _) _ _ q = _
      rw [cup_ne (hq _ _ h0.2.1 h1.1), cup_ne (hq _ _ h0.2.1 h0.1)]
      exact ih (by omega)
  have h0 := h.2.1 m (Nat.le_refl _)
  unfold shF
  rw [cup_ne (hq _ _ h0.2.1 h0.1)]
  exact key m (Nat.le_refl _)
end shift

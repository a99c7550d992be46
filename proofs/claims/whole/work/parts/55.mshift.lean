/-! THE REFERENCE: shifting along ways -/
def sft (n : Nat) (F : Nat → Nat) (u v : Nat) : Nat → Nat := if u < n then cup F (u * 6 + (v - n)) (F (u * 6 + (v - n)) + 1) else cup F (v * 6 + (u - n)) (F (v * 6 + (u - n)) - 1)
def shm (n : Nat) (p : Nat → Nat) (s : Nat) (F : Nat → Nat) : Nat → Nat → Nat
  | 0 => F
  | m + 1 => sft n (shm n p s F m) (p (itp p s m)) (itp p s m)
/-- one step of the way: a row and a column, or a column and a row whose cell holds something -/
def Lnk (n : Nat) (H : Nat → Nat) (A : Nat → Nat → Prop) (u v : Nat) : Prop := ∃ i j, i < n ∧ j < n ∧ A i j ∧ ((u = i ∧ v = n + j) ∨ (0 < H (i * 6 + j) ∧ u = n + j ∧ v = i))
theorem cst_cup {n : Nat} {dd : Nat → Nat → Nat} {H : Nat → Nat} {i0 j0 v : Nat} (hn : n ≤ 6) (hi : i0 < n) (hj : j0 < n) : cst n dd (mx (cup H (i0 * 6 + j0) v)) + H (i0 * 6 + j0) * dd i0 j0 = cst n dd (mx H) + v * dd i0 j0 := by
  have h1 := sm_one (n := n) (j0 := j0) (g := fun y => mx H i0 y * dd i0 y) (g' := fun y => mx (cup H (i0 * 6 + j0) v) i0 y * dd i0 y) hj (fun y hy hne => by
    show cup H (i0 * 6 + j0) v (i0 * 6 + y) * _ = _
    rw [cup_ne (by omega)])
  have h2 := sm_one (n := n) (j0 := i0) (g := fun x => sm (fun y => mx H x y * dd x y) n) (g' := fun x => sm (fun y => mx (cup H (i0 * 6 + j0) v) x y * dd x y) n) hi (fun x hx hne => sm_ext (fun y hy => by
    show cup H (i0 * 6 + j0) v (x * 6 + y) * _ = _
    rw [cup_ne (by omega)]))
  dsimp only [mx] at h1 h2
  rw [cup_eq] at h1
  unfold cst sm2
  dsimp only [mx]
  omega
section shm
variable {n : Nat} {p : Nat → Nat} {s q : Nat} {H : Nat → Nat} {A : Nat → Nat → Prop}
theorem shm_row (hn : n ≤ 6) (hL : ∀ m, m < q → Lnk n H A (p (itp p s m)) (itp p s m)) : ∀ m, m ≤ q → ∀ x, (∀ m', m' < m → itp p s m' ≠ x) → ∀ y, y < 6 → H (x * 6 + y) ≤ shm n p s H m (x * 6 + y)
  | 0, _, _, _, _, _ => Nat.le_refl _
  | m + 1, hm, x, hx, y, hy => by
    have ih := shm_row hn hL m (by omega) x (fun m' h => hx m' (by omega)) y hy
    obtain ⟨i, j, hi, hj, _, ⟨h1, h2⟩ | ⟨_, h1, h2⟩⟩ := hL m (by omega)
    · show _ ≤ sft n (shm n p s H m) (p (itp p s m)) (itp p s m) (x * 6 + y)
      unfold sft
      rw [if_pos (by omega)]
      by_cases e : x * 6 + y = p (itp p s m) * 6 + (itp p s m - n)
      · rw [e, cup_eq, ← e]; omega
      · rw [cup_ne e]; exact ih
    · show _ ≤ sft n (shm n p s H m) (p (itp p s m)) (itp p s m) (x * 6 + y)
      unfold sft
      have := hx m (by omega)
      rw [if_neg (by omega), cup_ne (by omega)]
      exact ih
theorem shm_pos (hn : n ≤ 6) (hL : ∀ m, m < q → Lnk n H A (p (itp p s m)) (itp p s m)) (hd : ∀ a b, a < b → b < q → itp p s a ≠ itp p s b) {m : Nat} (hm : m < q) (hu : ¬ p (itp p s m) < n) : 0 < shm n p s H m (itp p s m * 6 + (p (itp p s m) - n)) := by
  obtain ⟨i, j, hi, hj, _, ⟨h1, h2⟩ | ⟨h0, h1, h2⟩⟩ := hL m hm
  · omega
  · have := shm_row hn hL m (by omega) (itp p s m) (fun m' h => hd m' m h hm) (p (itp p s m) - n) (by omega)
    have e : itp p s m * 6 + (p (itp p s m) - n) = i * 6 + j := by omega
    rw [e] at this ⊢
    omega
theorem shm_marg (hn : n ≤ 6) (hL : ∀ m, m < q → Lnk n H A (p (itp p s m)) (itp p s m)) (hd : ∀ a b, a < b → b < q → itp p s a ≠ itp p s b) : ∀ m, m ≤ q → (∀ x, x < n → sm (fun y => mx (shm n p s H m) x y) n + (if s = x then 1 else 0) = sm (fun y => mx H x y) n + (if itp p s m = x then 1 else 0)) ∧ ∀ y, y < n → sm (fun x => mx (shm n p s H m) x y) n + (if itp p s m = n + y then 1 else 0) = sm (fun x => mx H x y) n + (if s = n + y then 1 else 0)
  | 0, _ => ⟨fun _ _ => rfl, fun _ _ => rfl⟩
  | m + 1, hm => by
    obtain ⟨ih1, ih2⟩ := shm_marg hn hL hd m (by omega)
    have hpos := shm_pos hn hL hd (m := m) (by omega)
    obtain ⟨i, j, hi, hj, _, ⟨h1, h2⟩ | ⟨_, h1, h2⟩⟩ := hL m (by omega)
    · have e : shm n p s H (m + 1) = cup (shm n p s H m) (i * 6 + j) (shm n p s H m (i * 6 + j) + 1) := by
        show sft n (shm n p s H m) (p (itp p s m)) (itp p s m) = _
        unfold sft
        rw [if_pos (by omega), h1, show itp p s m - n = j by omega]
      rw [e]
      show (∀ x, x < n → _ + _ = _ + (if p (itp p s m) = x then 1 else 0)) ∧ ∀ y, y < n → _ + (if p (itp p s m) = n + y then 1 else 0) = _
      rw [h1]
      refine ⟨fun x hx => ?_, fun y hy => ?_⟩
      · have r := row_cup (H := shm n p s H m) (i0 := i) (v := shm n p s H m (i * 6 + j) + 1) hn hj x
        have g := ih1 x hx
        rw [h2, if_neg (show ¬ n + j = x by omega)] at g
        by_cases ex : x = i
        · rw [if_pos ex, if_pos ex] at r
          rw [if_pos (show i = x from ex.symm)]
          omega
        · rw [if_neg ex, if_neg ex] at r
          rw [if_neg (show ¬ i = x from fun z => ex z.symm)]
          omega
      · have r := col_cup (H := shm n p s H m) (i0 := i) (v := shm n p s H m (i * 6 + j) + 1) hn hi hj y hy
        have g := ih2 y hy
        rw [h2] at g
        rw [if_neg (show ¬ i = n + y by omega)]
        by_cases ey : y = j
        · rw [if_pos ey, if_pos ey] at r
          rw [if_pos (show n + j = n + y by omega)] at g
          omega
        · rw [if_neg ey, if_neg ey] at r
          rw [if_neg (show ¬ n + j = n + y by omega)] at g
          omega
    · have hp := hpos (by omega)
      have e0 : itp p s m * 6 + (p (itp p s m) - n) = i * 6 + j := by omega
      rw [e0] at hp
      have e : shm n p s H (m + 1) = cup (shm n p s H m) (i * 6 + j) (shm n p s H m (i * 6 + j) - 1) := by
        show sft n (shm n p s H m) (p (itp p s m)) (itp p s m) = _
        unfold sft
        rw [if_neg (by omega), e0]
      rw [e]
      show (∀ x, x < n → _ + _ = _ + (if p (itp p s m) = x then 1 else 0)) ∧ ∀ y, y < n → _ + (if p (itp p s m) = n + y then 1 else 0) = _
      rw [h1]
      refine ⟨fun x hx => ?_, fun y hy => ?_⟩
      · have r := row_cup (H := shm n p s H m) (i0 := i) (v := shm n p s H m (i * 6 + j) - 1) hn hj x
        have g := ih1 x hx
        rw [h2] at g
        rw [if_neg (show ¬ n + j = x by omega)]
        by_cases ex : x = i
        · rw [if_pos ex, if_pos ex] at r
          rw [if_pos (show i = x from ex.symm)] at g
          omega
        · rw [if_neg ex, if_neg ex] at r
          rw [if_neg (show ¬ i = x from fun z => ex z.symm)] at g
          omega
      · have r := col_cup (H := shm n p s H m) (i0 := i) (v := shm n p s H m (i * 6 + j) - 1) hn hi hj y hy
        have g := ih2 y hy
        rw [h2, if_neg (show ¬ i = n + y by omega)] at g
        by_cases ey : y = j
        · rw [if_pos ey, if_pos ey] at r
          rw [if_pos (show n + j = n + y by omega)]
          omega
        · rw [if_neg ey, if_neg ey] at r
          rw [if_neg (show ¬ n + j = n + y by omega)]
          omega
/-- what a step costs -/
theorem shm_cost {dd : Nat → Nat → Nat} {ρ : Nat → Int} {t : Nat → Nat} (hn : n ≤ 6) (hL : ∀ m, m < q → Lnk n H A (p (itp p s m)) (itp p s m)) (hd : ∀ a b, a < b → b < q → itp p s a ≠ itp p s b)
    (hc : ∀ m, m < q → ∃ c : Int, (∀ i j, i < n → j < n → (p (itp p s m) = i → itp p s m = n + j → c = (dd i j : Int)) ∧ (p (itp p s m) = n + j → itp p s m = i → c = -(dd i j : Int))) ∧ ρ (p (itp p s m)) + c ≤ ρ (itp p s m) ∧ (t (p (itp p s m)) < t (itp p s m) ∨ ρ (p (itp p s m)) + c < ρ (itp p s m))) : ∀ m, m ≤ q → ((cst n dd (mx (shm n p s H m)) : Nat) : Int) + ρ (itp p s m) ≤ (cst n dd (mx H) : Nat) + ρ s ∧ (t (itp p s m) + m ≤ t s ∨ ((cst n dd (mx (shm n p s H m)) : Nat) : Int) + ρ (itp p s m) < (cst n dd (mx H) : Nat) + ρ s)
  | 0, _ => ⟨Int.le_refl _, Or.inl (Nat.le_refl _)⟩
  | m + 1, hm => by
    have ih := shm_cost hn hL hd hc m (by omega)
    have hpos := shm_pos hn hL hd (m := m) (by omega)
    obtain ⟨c, c1, c2, c3⟩ := hc m (by omega)
    have key : ((cst n dd (mx (shm n p s H (m + 1))) : Nat) : Int) = (cst n dd (mx (shm n p s H m)) : Nat) + c := by
      obtain ⟨i, j, hi, hj, _, ⟨h1, h2⟩ | ⟨_, h1, h2⟩⟩ := hL m (by omega)
      · have e : shm n p s H (m + 1) = cup (shm n p s H m) (i * 6 + j) (shm n p s H m (i * 6 + j) + 1) := by
          show sft n (shm n p s H m) (p (itp p s m)) (itp p s m) = _
          unfold sft
          rw [if_pos (by omega), h1, show itp p s m - n = j by omega]
        have r := cst_cup (dd := dd) (H := shm n p s H m) (v := shm n p s H m (i * 6 + j) + 1) hn hi hj
        rw [e, (c1 i j hi hj).1 h1 h2]
        rw [Nat.add_mul, Nat.one_mul] at r
        omega
      · have hp := hpos (by omega)
        have e0 : itp p s m * 6 + (p (itp p s m) - n) = i * 6 + j := by omega
        rw [e0] at hp
        have e : shm n p s H (m + 1) = cup (shm n p s H m) (i * 6 + j) (shm n p s H m (i * 6 + j) - 1) := by
          show sft n (shm n p s H m) (p (itp p s m)) (itp p s m) = _
          unfold sft
          rw [if_neg (by omega), e0]
        have r := cst_cup (dd := dd) (H := shm n p s H m) (v := shm n p s H m (i * 6 + j) - 1) hn hi hj
        rw [e, (c1 i j hi hj).2 h1 h2]
        obtain ⟨z, hz⟩ : ∃ z, shm n p s H m (i * 6 + j) = z + 1 := ⟨shm n p s H m (i * 6 + j) - 1, by omega⟩
        rw [hz, show z + 1 - 1 = z by omega, Nat.add_mul, Nat.one_mul] at r
        rw [hz, show z + 1 - 1 = z by omega]
        omega
    show ((cst n dd (mx (shm n p s H (m + 1))) : Nat) : Int) + ρ (p (itp p s m)) ≤ _ ∧ (t (p (itp p s m)) + (m + 1) ≤ t s ∨ ((cst n dd (mx (shm n p s H (m + 1))) : Nat) : Int) + ρ (p (itp p s m)) < _)
    rw [key]
    refine ⟨by omega, ?_⟩
    rcases ih.2 with g | g
    · rcases c3 with z | z
      · exact Or.inl (by omega)
      · exact Or.inr (by omega)
    · exact Or.inr (by omega)
theorem shm_off (hn : n ≤ 6) (hL : ∀ m, m < q → Lnk n H A (p (itp p s m)) (itp p s m)) : ∀ m, m ≤ q → ∀ z, (∀ x y, x < n → y < n → A x y → z ≠ x * 6 + y) → shm n p s H m z = H z
  | 0, _, _, _ => rfl
  | m + 1, hm, z, hz => by
    have ih := shm_off hn hL m (by omega) z hz
    show sft n (shm n p s H m) (p (itp p s m)) (itp p s m) z = _
    unfold sft
    obtain ⟨i, j, hi, hj, hA, ⟨h1, h2⟩ | ⟨_, h1, h2⟩⟩ := hL m (by omega)
    · have := hz i j hi hj hA
      rw [if_pos (by omega), cup_ne (by omega)]; exact ih
    · have := hz i j hi hj hA
      rw [if_neg (by omega), cup_ne (by omega)]; exact ih
end shm
theorem itp_dist {p : Nat → Nat} {s q : Nat} (hq : itp p s q = s) (hmin : ∀ j, j < q → ¬ (1 ≤ j ∧ itp p s j = s)) : ∀ a b, a < b → b < q → itp p s a ≠ itp p s b := fun a b hab hb e => by
  refine hmin (q - (b - a)) (by omega) ⟨by omega, ?_⟩
  have h1 : itp p s (a + (q - b)) = itp p s (b + (q - b)) := by rw [← itp_add, ← itp_add, e]
  rw [show b + (q - b) = q by omega, hq] at h1
  rw [show q - (b - a) = a + (q - b) by omega]
  exact h1
theorem Arc_lnk {n : Nat} {dd : Nat → Nat → Nat} {F : Nat → Nat} {fx : Nat → Nat → Bool} {u v : Nat} {c : Int} (h : Arc n dd F fx u v c) : Lnk n F (fun i j => fx i j = false) u v := by
  obtain ⟨i, j, hi, hj, hf, ⟨h1, h2, _⟩ | ⟨h0, h1, h2, _⟩⟩ := h
  · exact ⟨i, j, hi, hj, hf, Or.inl ⟨h1, h2⟩⟩
  · exact ⟨i, j, hi, hj, hf, Or.inr ⟨h0, h1, h2⟩⟩
theorem Arc_c {n : Nat} {dd : Nat → Nat → Nat} {F : Nat → Nat} {fx : Nat → Nat → Bool} {u v : Nat} {c : Int} (h : Arc n dd F fx u v c) (i j : Nat) (hi : i < n) (hj : j < n) : (u = i → v = n + j → c = (dd i j : Int)) ∧ (u = n + j → v = i → c = -(dd i j : Int)) := by
  obtain ⟨a, b, ha, hb, hf, ⟨h1, h2, h3⟩ | ⟨h0, h1, h2, h3⟩⟩ := h
  · refine ⟨fun e1 e2 => ?_, fun e1 e2 => by omega⟩
    rw [h3, show a = i by omega, show b = j by omega]
  · refine ⟨fun e1 e2 => by omega, fun e1 e2 => ?_⟩
    rw [h3, show a = i by omega, show b = j by omega]
/-- a cycle of the ways back makes the coupling cheaper -/
theorem cyc_ok {n : Nat} {dd : Nat → Nat → Nat} {F : Nat → Nat} {fx : Nat → Nat → Bool} {p t : Nat → Nat} {ρ : Nat → Int} {s q : Nat} (hn : n ≤ 6) (hq : 1 ≤ q ∧ itp p s q = s) (hmin : ∀ j, j < q → ¬ (1 ≤ j ∧ itp p s j = s))
    (ha : ∀ m, itp p s m < 2 * n ∧ ∃ c, Arc n dd F fx (p (itp p s m)) (itp p s m) c ∧ ρ (p (itp p s m)) + c ≤ ρ (itp p s m) ∧ (t (p (itp p s m)) < t (itp p s m) ∨ ρ (p (itp p s m)) + c < ρ (itp p s m))) : SM n (mx F) (mx (shm n p s F q)) ∧ cst n dd (mx (shm n p s F q)) < cst n dd (mx F) := by
  have hL : ∀ m, m < q → Lnk n F (fun i j => fx i j = false) (p (itp p s m)) (itp p s m) := fun m _ => by
    obtain ⟨_, c, h, _⟩ := ha m
    exact Arc_lnk h
  have hd := itp_dist hq.2 hmin
  have hm := shm_marg hn hL hd q (Nat.le_refl _)
  have hc := shm_cost (dd := dd) (ρ := ρ) (t := t) hn hL hd (fun m _ => by
    obtain ⟨_, c, h1, h2, h3⟩ := ha m
    exact ⟨c, Arc_c h1, h2, h3⟩) q (Nat.le_refl _)
  rw [hq.2] at hm hc
  refine ⟨⟨fun x hx => ?_, fun y hy => ?_⟩, ?_⟩
  · have := hm.1 x hx
    omega
  · have := hm.2 y hy
    omega
  · rcases hc.2 with z | z
    · omega
    · omega
theorem Oz_shm {n : Nat} {p : Nat → Nat} {s q : Nat} {H : Nat → Nat} {A : Nat → Nat → Prop} (hn : n ≤ 6) (hL : ∀ m, m < q → Lnk n H A (p (itp p s m)) (itp p s m)) (hz : Oz n H) {m : Nat} (hm : m ≤ q) : Oz n (shm n p s H m) := fun z hz1 hz2 => by
  rw [shm_off hn hL m hm z (fun x y hx hy _ => hz2 x y hx hy)]
  exact hz z hz1 hz2

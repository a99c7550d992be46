/-! THE REFERENCE: ways by relaxing arcs -/
abbrev NOR : Int := 2305843009213693951
/-- how near the nodes are, where they came from (99: nowhere), the last one that got nearer (99: none) -/
abbrev RS : Type := (Nat → Int) × (Nat → Nat) × Nat
def astp (u v : Nat) (c : Int) (S : RS) : RS := if S.1 u < NOR ∧ S.1 u + c < S.1 v then (zup S.1 v (S.1 u + c), cup S.2.1 v u, v) else S
section rlx
variable (n : Nat) (dd : Nat → Nat → Nat) (F : Nat → Nat) (fx : Nat → Nat → Bool)
def cel (i j : Nat) (S : RS) : RS := if fx i j = true then S else if 0 < F (i * 6 + j) then astp (n + j) i (-(dd i j : Int)) (astp i (n + j) (dd i j : Int) S) else astp i (n + j) (dd i j : Int) S
def rrw (i : Nat) : Nat → RS → RS
  | 0, S => S
  | j + 1, S => cel n dd F fx i j (rrw i j S)
def ral : Nat → RS → RS
  | 0, S => S
  | i + 1, S => rrw n dd F fx i n (ral i S)
def Arc (u v : Nat) (c : Int) : Prop := ∃ i j, i < n ∧ j < n ∧ fx i j = false ∧ ((u = i ∧ v = n + j ∧ c = (dd i j : Int)) ∨ (0 < F (i * 6 + j) ∧ u = n + j ∧ v = i ∧ c = -(dd i j : Int)))
end rlx
section rl2
variable {n : Nat} {dd : Nat → Nat → Nat} {F : Nat → Nat} {fx : Nat → Nat → Bool}
theorem ral_row {P : Nat → Nat → RS → Prop} {i : Nat} (hi : i < n) (hc : ∀ i j S, i < n → j < n → P i j S → P i (j + 1) (cel n dd F fx i j S)) {S : RS} (h : P i 0 S) : ∀ j, j ≤ n → P i j (rrw n dd F fx i j S)
  | 0, _ => h
  | j + 1, hj => hc i j _ hi (by omega) (ral_row hi hc h j (by omega))
theorem ral_ind {P : Nat → Nat → RS → Prop} (hc : ∀ i j S, i < n → j < n → P i j S → P i (j + 1) (cel n dd F fx i j S)) (hr : ∀ i S, i < n → P i n S → P (i + 1) 0 S) {S : RS} (h : P 0 0 S) : ∀ i, i ≤ n → P i 0 (ral n dd F fx i S)
  | 0, _ => h
  | i + 1, hi => hr i _ (by omega) (ral_row (by omega) hc (ral_ind hc hr h i (by omega)) n (Nat.le_refl _))
theorem Arc_lt {u v : Nat} {c : Int} (h : Arc n dd F fx u v c) : u < 2 * n ∧ v < 2 * n ∧ u ≠ v := by
  obtain ⟨i, j, hi, hj, _, ⟨h1, h2, _⟩ | ⟨_, h1, h2, _⟩⟩ := h <;> omega
theorem Arc_eq {u v : Nat} {c c' : Int} (h : Arc n dd F fx u v c) (h' : Arc n dd F fx u v c') : c = c' := by
  obtain ⟨i, j, hi, hj, _, ⟨h1, h2, h3⟩ | ⟨_, h1, h2, h3⟩⟩ := h
  · obtain ⟨i', j', hi', hj', _, ⟨g1, g2, g3⟩ | ⟨_, g1, g2, g3⟩⟩ := h'
    · rw [h3, g3, show i = i' by omega, show j = j' by omega]
    · omega
  · obtain ⟨i', j', hi', hj', _, ⟨g1, g2, g3⟩ | ⟨_, g1, g2, g3⟩⟩ := h'
    · omega
    · rw [h3, g3, show i = i' by omega, show j = j' by omega]
theorem Arc_bd {u v : Nat} {c : Int} (hd : ∀ i j, i < n → j < n → dd i j ≤ 1000000000000000) (h : Arc n dd F fx u v c) : -1000000000000000 ≤ c ∧ c ≤ 1000000000000000 := by
  obtain ⟨i, j, hi, hj, _, ⟨_, _, h3⟩ | ⟨_, _, _, h3⟩⟩ := h <;> have := hd i j hi hj <;> omega
/-! bounds -/
def Bnd (n : Nat) (lo : Int) (S : RS) : Prop := ∀ v, v < 2 * n → lo ≤ S.1 v ∧ S.1 v ≤ NOR
theorem Bnd_le {lo lo' : Int} {S : RS} (h : Bnd n lo S) (hl : lo' ≤ lo) : Bnd n lo' S := fun v hv => by have := h v hv; omega
theorem astp_bd {u v : Nat} {c lo : Int} {S : RS} (hu : u < 2 * n) (hc : -1000000000000000 ≤ c ∧ c ≤ 1000000000000000) (h : Bnd n lo S) : Bnd n (lo - 1000000000000000) (astp u v c S) := by
  unfold astp
  by_cases e : S.1 u < NOR ∧ S.1 u + c < S.1 v
  · rw [if_pos e]
    intro w hw
    show _ ≤ zup S.1 v (S.1 u + c) w ∧ zup S.1 v (S.1 u + c) w ≤ _
    have h1 := h u hu
    have h2 := h w hw
    by_cases ew : w = v
    · rw [ew, zup_eq]
      rw [ew] at h2
      omega
    · rw [zup_ne ew]; omega
  · rw [if_neg e]; exact Bnd_le h (by omega)
theorem cel_bd {i j : Nat} {lo : Int} {S : RS} (hi : i < n) (hj : j < n) (hd : ∀ i j, i < n → j < n → dd i j ≤ 1000000000000000) (h : Bnd n lo S) : Bnd n (lo - 2000000000000000) (cel n dd F fx i j S) := by
  have hb := hd i j hi hj
  unfold cel
  by_cases e : fx i j = true
  · rw [if_pos e]; exact Bnd_le h (by omega)
  · rw [if_neg e]
    have h1 := astp_bd (u := i) (v := n + j) (c := (dd i j : Int)) (S := S) (by omega) (by omega) h
    by_cases e2 : 0 < F (i * 6 + j)
    · rw [if_pos e2]
      exact Bnd_le (astp_bd (u := n + j) (v := i) (c := -(dd i j : Int)) (by omega) (by omega) h1) (by omega)
    · rw [if_neg e2]; exact Bnd_le h1 (by omega)
def Bij (n : Nat) (lo : Int) (i j : Nat) (S : RS) : Prop := Bnd n (lo - ((6 * i + j : Nat) : Int) * 2000000000000000) S
theorem bij_c {lo : Int} (hd : ∀ i j, i < n → j < n → dd i j ≤ 1000000000000000) : ∀ i j S, i < n → j < n → Bij n lo i j S → Bij n lo i (j + 1) (cel n dd F fx i j S) := fun i j S hi hj h => Bnd_le (cel_bd hi hj hd h) (by omega)
theorem bij_r {lo : Int} (hn : n ≤ 6) : ∀ i S, i < n → Bij n lo i n S → Bij n lo (i + 1) 0 S := fun i S hi h => Bnd_le h (by omega)
theorem bij_at {lo : Int} (hn : n ≤ 6) (hd : ∀ i j, i < n → j < n → dd i j ≤ 1000000000000000) {S : RS} (h : Bnd n lo S) {i j : Nat} (hi : i < n) (hj : j ≤ n) : Bnd n (lo - 72000000000000000) (rrw n dd F fx i j (ral n dd F fx i S)) := by
  have h0 : Bij n lo 0 0 S := Bnd_le h (by omega)
  have h1 := ral_ind (F := F) (fx := fx) (bij_c hd) (bij_r hn) h0 i (by omega)
  have h2 := ral_row hi (bij_c (F := F) (fx := fx) hd) h1 j hj
  exact Bnd_le h2 (by omega)
theorem bij_all {lo : Int} (hn : n ≤ 6) (hd : ∀ i j, i < n → j < n → dd i j ≤ 1000000000000000) {S : RS} (h : Bnd n lo S) : Bnd n (lo - 72000000000000000) (ral n dd F fx n S) := by
  have h0 : Bij n lo 0 0 S := Bnd_le h (by omega)
  have h1 := ral_ind (F := F) (fx := fx) (bij_c hd) (bij_r hn) h0 n (Nat.le_refl _)
  exact Bnd_le h1 (by omega)
/-! rounds: which arcs are at rest -/
def CI (n : Nat) (dd : Nat → Nat → Nat) (F : Nat → Nat) (fx : Nat → Nat → Bool) (Pr : Nat → Nat → Prop) (R : Nat) (S : RS) : Prop := ∃ (L t : Nat → Nat) (τ : Nat), (∀ v, v < 2 * n → t v ≤ τ ∧ L v ≤ R + 1 ∧ S.1 v ≤ 0) ∧ (∀ v, v < 2 * n → (S.2.1 v = 99 ∧ L v = 0) ∨ (S.2.1 v < 2 * n ∧ 1 ≤ L v ∧ L v ≤ L (S.2.1 v) + 1 ∧ ∃ c, Arc n dd F fx (S.2.1 v) v c ∧ S.1 (S.2.1 v) + c ≤ S.1 v ∧ (t (S.2.1 v) < t v ∨ S.1 (S.2.1 v) + c < S.1 v))) ∧ (∀ u v c, Arc n dd F fx u v c → (Pr u v → L u ≤ R → S.1 v ≤ S.1 u + c) ∧ (L u + 1 ≤ R → S.1 v ≤ S.1 u + c)) ∧ ((S.2.2 = 99 ∧ ∀ v, v < 2 * n → L v ≤ R) ∨ (S.2.2 < 2 * n ∧ L S.2.2 = R + 1))
theorem ci_sub {Pr Pr' : Nat → Nat → Prop} {R : Nat} {S : RS} (h : CI n dd F fx Pr R S) (hp : ∀ u v c, Arc n dd F fx u v c → Pr' u v → Pr u v) : CI n dd F fx Pr' R S := by
  obtain ⟨L, t, τ, h1, h2, h3, h4⟩ := h
  exact ⟨L, t, τ, h1, h2, fun u v c ha => ⟨fun q => (h3 u v c ha).1 (hp u v c ha q), (h3 u v c ha).2⟩, h4⟩
theorem ci_step {Pr : Nat → Nat → Prop} {R u0 v0 : Nat} {c0 : Int} {S : RS} (hn : n ≤ 6) (ha : Arc n dd F fx u0 v0 c0) (h : CI n dd F fx Pr R S) : CI n dd F fx (fun u v => Pr u v ∨ (u = u0 ∧ v = v0)) R (astp u0 v0 c0 S) := by
  obtain ⟨L, t, τ, h1, h2, h3, h4⟩ := h
  have hl := Arc_lt ha
  unfold astp
  by_cases e : S.1 u0 < NOR ∧ S.1 u0 + c0 < S.1 v0
  · rw [if_pos e]
    have hLu : R ≤ L u0 := by
      refine Classical.byContradiction (fun z => ?_)
      have := (h3 u0 v0 c0 ha).2 (by omega)
      omega
    refine ⟨cup L v0 (R + 1), cup t v0 (τ + 1), τ + 1, fun v hv => ?_, fun v hv => ?_, fun u v c hc => ?_, Or.inr ⟨hl.2.1, cup_eq⟩⟩
    · show cup t v0 (τ + 1) v ≤ τ + 1 ∧ cup L v0 (R + 1) v ≤ R + 1 ∧ zup S.1 v0 (S.1 u0 + c0) v ≤ 0
      have g := h1 v hv
      by_cases ev : v = v0
      · rw [ev, cup_eq, cup_eq, zup_eq]
        have := h1 v0 hl.2.1
        omega
      · rw [cup_ne ev, cup_ne ev, zup_ne ev]; omega
    · show (cup S.2.1 v0 u0 v = 99 ∧ cup L v0 (R + 1) v = 0) ∨ (cup S.2.1 v0 u0 v < 2 * n ∧ 1 ≤ cup L v0 (R + 1) v ∧ cup L v0 (R + 1) v ≤ cup L v0 (R + 1) (cup S.2.1 v0 u0 v) + 1 ∧ ∃ c, Arc n dd F fx (cup S.2.1 v0 u0 v) v c ∧ zup S.1 v0 (S.1 u0 + c0) (cup S.2.1 v0 u0 v) + c ≤ zup S.1 v0 (S.1 u0 + c0) v ∧ (cup t v0 (τ + 1) (cup S.2.1 v0 u0 v) < cup t v0 (τ + 1) v ∨ zup S.1 v0 (S.1 u0 + c0) (cup S.2.1 v0 u0 v) + c < zup S.1 v0 (S.1 u0 + c0) v))
      by_cases ev : v = v0
      · subst ev
        rw [cup_eq, cup_eq, cup_eq, zup_eq, cup_ne hl.2.2, zup_ne hl.2.2, cup_ne hl.2.2]
        refine Or.inr ⟨hl.1, by omega, by omega, c0, ha, Int.le_refl _, Or.inl ?_⟩
        have := (h1 u0 hl.1).1
        omega
      · rw [cup_ne ev, cup_ne ev, zup_ne ev, cup_ne ev]
        rcases h2 v hv with g | ⟨g1, g2, g3, c, g4, g5, g6⟩
        · exact Or.inl g
        · refine Or.inr ⟨g1, g2, ?_, c, g4, ?_⟩
          · by_cases ep : S.2.1 v = v0
            · rw [ep, cup_eq]
              rw [ep] at g3
              have := (h1 v0 hl.2.1).2.1
              omega
            · rw [cup_ne ep]; exact g3
          · by_cases ep : S.2.1 v = v0
            · rw [ep, zup_eq, cup_eq]
              rw [ep] at g5
              exact ⟨by omega, Or.inr (by omega)⟩
            · rw [zup_ne ep, cup_ne ep]; exact ⟨g5, g6⟩
    · show ((Pr u v ∨ (u = u0 ∧ v = v0)) → cup L v0 (R + 1) u ≤ R → zup S.1 v0 (S.1 u0 + c0) v ≤ zup S.1 v0 (S.1 u0 + c0) u + c) ∧ (cup L v0 (R + 1) u + 1 ≤ R → zup S.1 v0 (S.1 u0 + c0) v ≤ zup S.1 v0 (S.1 u0 + c0) u + c)
      by_cases eu : u = v0
      · rw [eu, cup_eq]
        exact ⟨fun _ q => by omega, fun q => by omega⟩
      · rw [cup_ne eu, zup_ne eu]
        have hle : zup S.1 v0 (S.1 u0 + c0) v ≤ S.1 v := by
          by_cases ev : v = v0
          · rw [ev, zup_eq]; omega
          · rw [zup_ne ev]; exact Int.le_refl _
        have g := h3 u v c hc
        refine ⟨fun q hq => ?_, fun q => by have := g.2 q; omega⟩
        rcases q with q | ⟨q1, q2⟩
        · have := g.1 q hq; omega
        · subst q1 q2
          rw [zup_eq, Arc_eq hc ha]; exact Int.le_refl _
  · rw [if_neg e]
    refine ⟨L, t, τ, h1, h2, fun u v c hc => ⟨fun q hq => ?_, (h3 u v c hc).2⟩, h4⟩
    rcases q with q | ⟨q1, q2⟩
    · exact (h3 u v c hc).1 q hq
    · subst q1 q2
      have := (h1 u hl.1).2.2
      have hN : (NOR : Int) = 2305843009213693951 := rfl
      rw [Arc_eq hc ha]
      omega
/-- the arc's cell comes before (i, j) -/
def bef (n i j u v : Nat) : Prop := ∃ a b, (a < i ∨ (a = i ∧ b < j)) ∧ a < n ∧ b < n ∧ ((u = a ∧ v = n + b) ∨ (u = n + b ∧ v = a))
theorem bef_c {i j u v : Nat} (hi : i < n) (hj : j < n) (h : bef n i (j + 1) u v) : bef n i j u v ∨ (u = i ∧ v = n + j) ∨ (u = n + j ∧ v = i) := by
  obtain ⟨a, b, h1, ha, hb, h2⟩ := h
  by_cases e : a = i ∧ b = j
  · rw [e.1, e.2] at h2; exact Or.inr h2
  · exact Or.inl ⟨a, b, by omega, ha, hb, h2⟩
theorem bef_r {i u v : Nat} (h : bef n (i + 1) 0 u v) : bef n i n u v := by
  obtain ⟨a, b, h1, ha, hb, h2⟩ := h
  exact ⟨a, b, by omega, ha, hb, h2⟩
theorem bef_all {u v : Nat} {c : Int} (h : Arc n dd F fx u v c) : bef n n 0 u v := by
  obtain ⟨i, j, hi, hj, _, ⟨h1, h2, _⟩ | ⟨_, h1, h2, _⟩⟩ := h
  · exact ⟨i, j, Or.inl hi, hi, hj, Or.inl ⟨h1, h2⟩⟩
  · exact ⟨i, j, Or.inl hi, hi, hj, Or.inr ⟨h1, h2⟩⟩
theorem cel_gen {Q : (Nat → Nat → Prop) → RS → Prop} (hsub : ∀ Pr Pr' S, Q Pr S → (∀ u v c, Arc n dd F fx u v c → Pr' u v → Pr u v) → Q Pr' S) (hst : ∀ Pr u v c S, Arc n dd F fx u v c → Q Pr S → Q (fun a b => Pr a b ∨ (a = u ∧ b = v)) (astp u v c S)) : ∀ i j S, i < n → j < n → Q (bef n i j) S → Q (bef n i (j + 1)) (cel n dd F fx i j S) := by
  intro i j S hi hj h
  unfold cel
  by_cases e : fx i j = true
  · rw [if_pos e]
    refine hsub _ _ _ h (fun u v c ha hb => ?_)
    rcases bef_c hi hj hb with q | q
    · exact q
    · exfalso
      obtain ⟨a, b, ga, gb, gf, ⟨g1, g2, _⟩ | ⟨_, g1, g2, _⟩⟩ := ha
      · have e1 : a = i ∧ b = j := by omega
        rw [e1.1, e1.2, e] at gf; cases gf
      · have e1 : a = i ∧ b = j := by omega
        rw [e1.1, e1.2, e] at gf; cases gf
  · rw [if_neg e]
    have ef : fx i j = false := Bool.eq_false_iff.mpr e
    have a1 : Arc n dd F fx i (n + j) (dd i j : Int) := ⟨i, j, hi, hj, ef, Or.inl ⟨rfl, rfl, rfl⟩⟩
    have h1 := hst _ _ _ _ _ a1 h
    by_cases e2 : 0 < F (i * 6 + j)
    · rw [if_pos e2]
      have a2 : Arc n dd F fx (n + j) i (-(dd i j : Int)) := ⟨i, j, hi, hj, ef, Or.inr ⟨e2, rfl, rfl, rfl⟩⟩
      refine hsub _ _ _ (hst _ _ _ _ _ a2 h1) (fun u v c ha hb => ?_)
      rcases bef_c hi hj hb with q | q | q
      · exact Or.inl (Or.inl q)
      · exact Or.inl (Or.inr q)
      · exact Or.inr q
    · rw [if_neg e2]
      refine hsub _ _ _ h1 (fun u v c ha hb => ?_)
      rcases bef_c hi hj hb with q | q | q
      · exact Or.inl q
      · exact Or.inr q
      · exfalso
        obtain ⟨a, b, ga, gb, gf, ⟨g1, g2, _⟩ | ⟨g0, g1, g2, _⟩⟩ := ha
        · omega
        · have e1 : a = i ∧ b = j := by omega
          rw [e1.1, e1.2] at g0
          exact e2 g0
theorem ral_gen {Q : (Nat → Nat → Prop) → RS → Prop} (hsub : ∀ Pr Pr' S, Q Pr S → (∀ u v c, Arc n dd F fx u v c → Pr' u v → Pr u v) → Q Pr' S) (hst : ∀ Pr u v c S, Arc n dd F fx u v c → Q Pr S → Q (fun a b => Pr a b ∨ (a = u ∧ b = v)) (astp u v c S)) {S : RS} (h : Q (fun _ _ => False) S) : Q (fun _ _ => True) (ral n dd F fx n S) := by
  have h0 : Q (bef n 0 0) S := hsub _ _ _ h (fun u v c _ ⟨a, b, q, _⟩ => by omega)
  have h1 := ral_ind (P := fun i j S => Q (bef n i j) S) (cel_gen hsub hst) (fun i S _ q => hsub _ _ _ q (fun u v c _ z => bef_r z)) h0 n (Nat.le_refl _)
  exact hsub _ _ _ h1 (fun u v c ha _ => bef_all ha)
theorem ral_ci {R : Nat} {S : RS} (hn : n ≤ 6) (h : CI n dd F fx (fun _ _ => False) R S) : CI n dd F fx (fun _ _ => True) R (ral n dd F fx n S) := ral_gen (Q := fun Pr S => CI n dd F fx Pr R S) (fun _ _ _ h hp => ci_sub h hp) (fun _ _ _ _ _ ha h => ci_step hn ha h) h
theorem ci_next {R : Nat} {S : RS} (h : CI n dd F fx (fun _ _ => True) R S) : CI n dd F fx (fun _ _ => False) (R + 1) (S.1, S.2.1, 99) := by
  obtain ⟨L, t, τ, h1, h2, h3, h4⟩ := h
  exact ⟨L, t, τ, fun v hv => ⟨(h1 v hv).1, by have := (h1 v hv).2.1; omega, (h1 v hv).2.2⟩, h2, fun u v c ha => ⟨fun q => q.elim, fun q => (h3 u v c ha).1 trivial (by omega)⟩, Or.inl ⟨rfl, fun v hv => (h1 v hv).2.1⟩⟩
theorem ci_0 : CI n dd F fx (fun _ _ => False) 0 (fun _ => 0, fun _ => 99, 99) := ⟨fun _ => 0, fun _ => 0, 0, fun _ _ => ⟨Nat.le_refl _, Nat.zero_le _, Int.le_refl _⟩, fun _ _ => Or.inl ⟨rfl, rfl⟩, fun u v c _ => ⟨fun q => q.elim, fun q => absurd q (by omega)⟩, Or.inl ⟨rfl, fun _ _ => Nat.le_refl _⟩⟩
theorem ci_rest {R : Nat} {S : RS} (hn : n ≤ 6) (h : CI n dd F fx (fun _ _ => True) R S) (hc : S.2.2 = 99) : ∀ u v c, Arc n dd F fx u v c → S.1 v ≤ S.1 u + c := by
  obtain ⟨L, t, τ, h1, h2, h3, h4⟩ := h
  rcases h4 with ⟨_, h4⟩ | ⟨h4, _⟩
  · exact fun u v c ha => (h3 u v c ha).1 trivial (h4 u (Arc_lt ha).1)
  · omega
theorem rest_opt {ρ : Nat → Int} (hf : ∀ i j, i < n → j < n → fx i j = false) (h : ∀ u v c, Arc n dd F fx u v c → ρ v ≤ ρ u + c) : Opt n dd (mx F) ρ (fun j => ρ (n + j)) := fun i j hi hj => by
  have h1 := h i (n + j) _ ⟨i, j, hi, hj, hf i j hi hj, Or.inl ⟨rfl, rfl, rfl⟩⟩
  refine ⟨show 0 ≤ (dd i j : Int) + ρ i - ρ (n + j) by omega, fun hp => show (dd i j : Int) + ρ i - ρ (n + j) = 0 from ?_⟩
  have h2 := h (n + j) i _ ⟨i, j, hi, hj, hf i j hi hj, Or.inr ⟨hp, rfl, rfl, rfl⟩⟩
  omega
/-! back along the ways -/
def itp (p : Nat → Nat) (v : Nat) : Nat → Nat
  | 0 => v
  | k + 1 => p (itp p v k)
theorem itp_add (p : Nat → Nat) (v a : Nat) : ∀ b, itp p (itp p v a) b = itp p v (a + b)
  | 0 => rfl
  | b + 1 => congrArg p (itp_add p v a b)
theorem itp_s (p : Nat → Nat) (v : Nat) : ∀ b, itp p (p v) b = itp p v (b + 1)
  | 0 => rfl
  | b + 1 => congrArg p (itp_s p v b)
theorem pigeon : ∀ (N : Nat) (f : Nat → Nat), (∀ k, k ≤ N → f k < N) → ∃ a b, a < b ∧ b ≤ N ∧ f a = f b
  | 0, f, h => absurd (h 0 (Nat.le_refl _)) (Nat.not_lt_zero _)
  | N + 1, f, h => by
    by_cases e : ∃ k, k ≤ N ∧ f k = f (N + 1)
    · obtain ⟨k, h1, h2⟩ := e
      exact ⟨k, N + 1, by omega, Nat.le_refl _, h2⟩
    · have hne : ∀ k, k ≤ N → f k ≠ f (N + 1) := fun k hk q => e ⟨k, hk, q⟩
      obtain ⟨a, b, h1, h2, h3⟩ := pigeon N (fun k => if f k = N then f (N + 1) else f k) (fun k hk => by
        have g1 := h k (by omega)
        have g2 := h (N + 1) (Nat.le_refl _)
        have g3 := hne k hk
        show (if f k = N then f (N + 1) else f k) < N
        by_cases q : f k = N
        · rw [if_pos q]; omega
        · rw [if_neg q]; omega)
      refine ⟨a, b, h1, by omega, ?_⟩
      have h3 : (if f a = N then f (N + 1) else f a) = (if f b = N then f (N + 1) else f b) := h3
      have ga := hne a (by omega)
      have gb := hne b h2
      by_cases qa : f a = N
      · by_cases qb : f b = N
        · rw [qa, qb]
        · rw [if_pos qa, if_neg qb] at h3; exact absurd h3.symm gb
      · by_cases qb : f b = N
        · rw [if_neg qa, if_pos qb] at h3; exact absurd h3 ga
        · rw [if_neg qa, if_neg qb] at h3; exact h3
/-- a node on a cycle of the ways back -/
theorem ci_cycle {R : Nat} {S : RS} (hn : 1 ≤ n ∧ n ≤ 6) (hR : R + 1 = 2 * n) (h : CI n dd F fx (fun _ _ => True) R S) (hc : ¬ S.2.2 = 99) : (∀ k, k ≤ 2 * n → itp S.2.1 S.2.2 k < 2 * n) ∧ (∃ q, (1 ≤ q ∧ itp S.2.1 (itp S.2.1 S.2.2 (2 * n)) q = itp S.2.1 S.2.2 (2 * n)) ∧ ∀ j, j < q → ¬ (1 ≤ j ∧ itp S.2.1 (itp S.2.1 S.2.2 (2 * n)) j = itp S.2.1 S.2.2 (2 * n))) ∧ ∃ t : Nat → Nat, ∀ m, itp S.2.1 (itp S.2.1 S.2.2 (2 * n)) m < 2 * n ∧ ∃ c, Arc n dd F fx (S.2.1 (itp S.2.1 (itp S.2.1 S.2.2 (2 * n)) m)) (itp S.2.1 (itp S.2.1 S.2.2 (2 * n)) m) c ∧ S.1 (S.2.1 (itp S.2.1 (itp S.2.1 S.2.2 (2 * n)) m)) + c ≤ S.1 (itp S.2.1 (itp S.2.1 S.2.2 (2 * n)) m) ∧ (t (S.2.1 (itp S.2.1 (itp S.2.1 S.2.2 (2 * n)) m)) < t (itp S.2.1 (itp S.2.1 S.2.2 (2 * n)) m) ∨ S.1 (S.2.1 (itp S.2.1 (itp S.2.1 S.2.2 (2 * n)) m)) + c < S.1 (itp S.2.1 (itp S.2.1 S.2.2 (2 * n)) m)) := by
  obtain ⟨ρ, p, ch⟩ := S
  obtain ⟨L, t, τ, h1, h2, h3, h4⟩ := h
  dsimp only at *
  rcases h4 with ⟨z, _⟩ | ⟨hcl, hcL⟩
  · exact absurd z hc
  have chain : ∀ k, k ≤ 2 * n → itp p ch k < 2 * n ∧ 2 * n ≤ L (itp p ch k) + k := by
    intro k
    induction k with
    | zero => intro _; exact ⟨hcl, by show 2 * n ≤ L ch + 0; omega⟩
    | succ k ih =>
      intro hk
      have g := ih (by omega)
      rcases h2 _ g.1 with q | ⟨q1, q2, q3, _⟩
      · have := q.2; omega
      · exact ⟨q1, by show 2 * n ≤ L (p (itp p ch k)) + (k + 1); omega⟩
  obtain ⟨a, b, hab, hb, eab⟩ := pigeon (2 * n) (itp p ch) (fun k hk => (chain k hk).1)
  have per : ∀ x, itp p ch (a + x) = itp p ch (b + x) := fun x => by rw [← itp_add, ← itp_add, eab]
  have small : ∀ k, ∃ k', k' < 2 * n ∧ itp p ch k = itp p ch k' := by
    intro k
    induction k using Nat.strongRecOn with
    | _ k ih =>
      by_cases q : k < 2 * n
      · exact ⟨k, q, rfl⟩
      · obtain ⟨k', q1, q2⟩ := ih (a + (k - b)) (by omega)
        refine ⟨k', q1, ?_⟩
        rw [← q2, per, show b + (k - b) = k by omega]
  refine ⟨fun k hk => (chain k hk).1, ?_, t, fun m => ?_⟩
  · refine pk_least (fun q => 1 ≤ q ∧ itp p (itp p ch (2 * n)) q = itp p ch (2 * n)) ⟨b - a, by omega, ?_⟩
    rw [itp_add]
    have := per (2 * n - a)
    rw [show a + (2 * n - a) = 2 * n by omega, show b + (2 * n - a) = 2 * n + (b - a) by omega] at this
    exact this.symm
  · rw [itp_add]
    obtain ⟨k', q1, q2⟩ := small (2 * n + m)
    rw [q2]
    have g := chain k' (by omega)
    refine ⟨g.1, ?_⟩
    rcases h2 _ g.1 with q | ⟨_, _, _, q⟩
    · have := q.2; omega
    · exact q
end rl2

/-! THE REFERENCE: lowering an entry -/
abbrev MM : Int := 1000000000000000
theorem sz_one {f : Nat → Int} {v : Nat} {x : Int} : ∀ {n : Nat}, v < n → sz (zup f v x) n = sz f n - f v + x
  | 0, h => absurd h (Nat.not_lt_zero _)
  | n + 1, h => by
    show sz (zup f v x) n + zup f v x n = sz f n + f n - f v + x
    by_cases e : v = n
    · subst e
      rw [zup_eq, sz_ext (f := zup f v x) (g := f) (fun i hi => zup_ne (by omega))]
      omega
    · have := sz_one (f := f) (x := x) (n := n) (v := v) (by omega)
      rw [this, zup_ne (fun z => e z.symm)]
      omega
theorem sz_lo {f : Nat → Int} {K : Int} : ∀ {n : Nat}, (∀ i, i < n → -K ≤ f i) → -((n : Nat) : Int) * K ≤ sz f n
  | 0, _ => by show -((0 : Nat) : Int) * K ≤ 0; omega
  | n + 1, h => by
    have h1 := sz_lo (n := n) (fun i hi => h i (by omega))
    have h2 := h n (by omega)
    show -((n + 1 : Nat) : Int) * K ≤ sz f n + f n
    have e : -((n + 1 : Nat) : Int) * K = -((n : Nat) : Int) * K - K := by
      rw [Int.natCast_add, Int.neg_add, Int.add_mul]
      show _ + -(1 : Int) * K = _
      omega
    omega
/-- how many nodes are reached -/
abbrev rch_ (n : Nat) (ρ : Nat → Int) : Nat := sm (fun w => if ρ w < NOR then 1 else 0) (2 * n)
section low
variable {n : Nat} {dd : Nat → Nat → Nat} {F : Nat → Nat} {fx : Nat → Nat → Bool} {π : Nat → Int} {src : Nat} {Z : Int}
def LI (n : Nat) (dd : Nat → Nat → Nat) (F : Nat → Nat) (fx : Nat → Nat → Bool) (π : Nat → Int) (src : Nat) (Z : Int) (Pr : Nat → Nat → Prop) (S : RS) : Prop := ∃ (t : Nat → Nat) (τ : Nat), (∀ v, v < 2 * n → t v ≤ τ ∧ S.1 v ≤ NOR) ∧ (S.1 src = 0 ∧ S.2.1 src = 99) ∧ (∀ v, v < 2 * n → S.1 v < NOR → π v - π src ≤ S.1 v ∧ S.1 v ≤ ((rch_ n S.1 : Nat) : Int) * MM) ∧ (∀ v, v < 2 * n → v ≠ src → (S.1 v = NOR ∧ S.2.1 v = 99) ∨ (S.1 v < NOR ∧ S.2.1 v < 2 * n ∧ S.1 (S.2.1 v) < NOR ∧ ∃ c, Arc n dd F fx (S.2.1 v) v c ∧ S.1 (S.2.1 v) + c ≤ S.1 v ∧ (t (S.2.1 v) < t v ∨ S.1 (S.2.1 v) + c < S.1 v))) ∧ (S.2.2 = 99 → ∀ u v c, Arc n dd F fx u v c → Pr u v → S.1 u < NOR → S.1 v ≤ S.1 u + c) ∧ (sz S.1 (2 * n) ≤ Z ∧ (¬ S.2.2 = 99 → sz S.1 (2 * n) < Z)) ∧ (S.2.2 = 99 ∨ S.2.2 < 2 * n)
theorem li_sub {Pr Pr' : Nat → Nat → Prop} {S : RS} (h : LI n dd F fx π src Z Pr S) (hp : ∀ u v c, Arc n dd F fx u v c → Pr' u v → Pr u v) : LI n dd F fx π src Z Pr' S := by
  obtain ⟨t, τ, h1, h2, h3, h4, h5, h6⟩ := h
  exact ⟨t, τ, h1, h2, h3, h4, fun q u v c ha hq => h5 q u v c ha (hp u v c ha hq), h6⟩
theorem li_step {Pr : Nat → Nat → Prop} {u0 v0 : Nat} {c0 : Int} {S : RS} (hn : n ≤ 6) (hs : src < 2 * n) (hd : ∀ i j, i < n → j < n → dd i j ≤ 1000000000000000) (hπ : ∀ u v c, Arc n dd F fx u v c → π v - π u ≤ c) (ha : Arc n dd F fx u0 v0 c0) (h : LI n dd F fx π src Z Pr S) : LI n dd F fx π src Z (fun u v => Pr u v ∨ (u = u0 ∧ v = v0)) (astp u0 v0 c0 S) := by
  obtain ⟨t, τ, h1, h2, h3, h4, h5, h6, h7⟩ := h
  have hl := Arc_lt ha
  have hcb := Arc_bd hd ha
  have hN : (NOR : Int) = 2305843009213693951 := rfl
  have hM : (MM : Int) = 1000000000000000 := rfl
  unfold astp
  by_cases e : S.1 u0 < NOR ∧ S.1 u0 + c0 < S.1 v0
  · rw [if_pos e]
    have p0 := hπ u0 v0 c0 ha
    have q0 := h3 u0 hl.1 e.1
    have hvs : v0 ≠ src := fun z => by
      rw [z] at e p0
      have := h2.1
      omega
    have hv1 := (h1 v0 hl.2.1).2
    have cnt := sm_one (n := 2 * n) (j0 := v0) (g := fun w => if S.1 w < NOR then 1 else 0) (g' := fun w => if zup S.1 v0 (S.1 u0 + c0) w < NOR then 1 else 0) hl.2.1 (fun w _ hw => by show (if zup S.1 v0 (S.1 u0 + c0) w < NOR then 1 else 0) = _; rw [zup_ne hw])
    rw [zup_eq, if_pos (show S.1 u0 + c0 < NOR by omega)] at cnt
    have cnt : rch_ n (zup S.1 v0 (S.1 u0 + c0)) + (if S.1 v0 < NOR then 1 else 0) = rch_ n S.1 + 1 := cnt
    have cge : ((rch_ n S.1 : Nat) : Int) * MM ≤ ((rch_ n (zup S.1 v0 (S.1 u0 + c0)) : Nat) : Int) * MM := Int.mul_le_mul_of_nonneg_right (by split at cnt <;> omega) (by omega)
    refine ⟨cup t v0 (τ + 1), τ + 1, fun v hv => ?_, ⟨?_, ?_⟩, fun v hv hvN => ?_, fun v hv hne => ?_, fun q => ?_, ⟨?_, fun _ => ?_⟩, Or.inr hl.2.1⟩
    · show cup t v0 (τ + 1) v ≤ τ + 1 ∧ zup S.1 v0 (S.1 u0 + c0) v ≤ NOR
      by_cases ev : v = v0
      · rw [ev, cup_eq, zup_eq]; omega
      · have := h1 v hv
        rw [cup_ne ev, zup_ne ev]; omega
    · show zup S.1 v0 (S.1 u0 + c0) src = 0
      rw [zup_ne (fun z => hvs z.symm)]; exact h2.1
    · show cup S.2.1 v0 u0 src = 99
      rw [cup_ne (fun z => hvs z.symm)]; exact h2.2
    · have hvN : zup S.1 v0 (S.1 u0 + c0) v < NOR := hvN
      show π v - π src ≤ zup S.1 v0 (S.1 u0 + c0) v ∧ zup S.1 v0 (S.1 u0 + c0) v ≤ ((rch_ n (zup S.1 v0 (S.1 u0 + c0)) : Nat) : Int) * MM
      by_cases ev : v = v0
      · rw [ev, zup_eq]
        refine ⟨by omega, ?_⟩
        by_cases ez : S.1 v0 < NOR
        · have := (h3 v0 hl.2.1 ez).2
          omega
        · rw [if_neg ez] at cnt
          have e2 : ((rch_ n (zup S.1 v0 (S.1 u0 + c0)) : Nat) : Int) * MM = ((rch_ n S.1 : Nat) : Int) * MM + MM := by
            rw [show rch_ n (zup S.1 v0 (S.1 u0 + c0)) = rch_ n S.1 + 1 by omega, Int.natCast_add, Int.add_mul]
            show _ + (1 : Int) * MM = _
            omega
          omega
      · rw [zup_ne ev] at hvN ⊢
        have := h3 v hv hvN
        omega
    · show (zup S.1 v0 (S.1 u0 + c0) v = NOR ∧ cup S.2.1 v0 u0 v = 99) ∨ (zup S.1 v0 (S.1 u0 + c0) v < NOR ∧ cup S.2.1 v0 u0 v < 2 * n ∧ zup S.1 v0 (S.1 u0 + c0) (cup S.2.1 v0 u0 v) < NOR ∧ ∃ c, Arc n dd F fx (cup S.2.1 v0 u0 v) v c ∧ zup S.1 v0 (S.1 u0 + c0) (cup S.2.1 v0 u0 v) + c ≤ zup S.1 v0 (S.1 u0 + c0) v ∧ (cup t v0 (τ + 1) (cup S.2.1 v0 u0 v) < cup t v0 (τ + 1) v ∨ zup S.1 v0 (S.1 u0 + c0) (cup S.2.1 v0 u0 v) + c < zup S.1 v0 (S.1 u0 + c0) v))
      by_cases ev : v = v0
      · subst ev
        rw [cup_eq, cup_eq, zup_eq, cup_ne hl.2.2, zup_ne hl.2.2]
        refine Or.inr ⟨by omega, hl.1, e.1, c0, ha, Int.le_refl _, Or.inl ?_⟩
        have := (h1 u0 hl.1).1
        omega
      · rw [zup_ne ev, cup_ne ev, cup_ne ev]
        rcases h4 v hv hne with g | ⟨g1, g2, g3, c, g4, g5, g6⟩
        · exact Or.inl g
        · by_cases ep : S.2.1 v = v0
          · rw [ep, zup_eq, cup_eq]
            rw [ep] at g5 g4 g2
            exact Or.inr ⟨g1, g2, by omega, c, g4, by omega, Or.inr (by omega)⟩
          · rw [zup_ne ep, cup_ne ep]; exact Or.inr ⟨g1, g2, g3, c, g4, g5, g6⟩
    · have q : v0 = 99 := q
      omega
    · show sz (zup S.1 v0 (S.1 u0 + c0)) (2 * n) ≤ Z
      rw [sz_one hl.2.1]
      have := h6.1
      omega
    · show sz (zup S.1 v0 (S.1 u0 + c0)) (2 * n) < Z
      rw [sz_one hl.2.1]
      have := h6.1
      omega
  · rw [if_neg e]
    refine ⟨t, τ, h1, h2, h3, h4, fun q u v c hc hq hu => ?_, h6, h7⟩
    rcases hq with hq | ⟨q1, q2⟩
    · exact h5 q u v c hc hq hu
    · subst q1 q2
      rw [Arc_eq hc ha]
      omega
theorem ral_li {S : RS} (hn : n ≤ 6) (hs : src < 2 * n) (hd : ∀ i j, i < n → j < n → dd i j ≤ 1000000000000000) (hπ : ∀ u v c, Arc n dd F fx u v c → π v - π u ≤ c) (h : LI n dd F fx π src Z (fun _ _ => False) S) : LI n dd F fx π src Z (fun _ _ => True) (ral n dd F fx n S) := ral_gen (Q := fun Pr S => LI n dd F fx π src Z Pr S) (fun _ _ _ h hp => li_sub h hp) (fun _ _ _ _ _ ha h => li_step hn hs hd hπ ha h) h
theorem li_next {S : RS} {Pr : Nat → Nat → Prop} (h : LI n dd F fx π src Z Pr S) : LI n dd F fx π src (sz S.1 (2 * n)) (fun _ _ => False) (S.1, S.2.1, 99) := by
  obtain ⟨t, τ, h1, h2, h3, h4, h5, h6, h7⟩ := h
  exact ⟨t, τ, h1, h2, h3, h4, fun _ u v c _ q => q.elim, ⟨Int.le_refl _, fun q => absurd rfl q⟩, Or.inl rfl⟩
theorem li_bnd {S : RS} {Pr : Nat → Nat → Prop} {K : Int} (hK : ∀ v, v < 2 * n → -K ≤ π v - π src) (hK0 : 0 ≤ K) (h : LI n dd F fx π src Z Pr S) : Bnd n (-K) S := by
  obtain ⟨t, τ, h1, h2, h3, h4, h5, h6, h7⟩ := h
  intro v hv
  have hN : (NOR : Int) = 2305843009213693951 := rfl
  refine ⟨?_, (h1 v hv).2⟩
  by_cases e : S.1 v < NOR
  · have := (h3 v hv e).1
    have := hK v hv
    omega
  · omega
theorem li_0 (hn : 1 ≤ n) (hs : src < 2 * n) : LI n dd F fx π src (sz (zup (fun _ => NOR) src 0) (2 * n)) (fun _ _ => False) (zup (fun _ => NOR) src 0, fun _ => 99, 99) := by
  have hN : (NOR : Int) = 2305843009213693951 := rfl
  refine ⟨fun _ => 0, 0, fun v _ => ⟨Nat.le_refl _, ?_⟩, ⟨by show zup (fun _ => NOR) src 0 src = 0; rw [zup_eq], rfl⟩, fun v hv hvN => ?_, fun v hv hne => Or.inl ⟨by show zup (fun _ => NOR) src 0 v = NOR; rw [zup_ne hne], rfl⟩, fun _ u v c _ q => q.elim, ⟨Int.le_refl _, fun q => absurd rfl q⟩, Or.inl rfl⟩
  · show zup (fun _ => NOR) src 0 v ≤ NOR
    by_cases e : v = src
    · rw [e, zup_eq]; omega
    · rw [zup_ne e]; exact Int.le_refl _
  · have hvN : zup (fun _ => NOR) src 0 v < NOR := hvN
    show π v - π src ≤ zup (fun _ => NOR) src 0 v ∧ zup (fun _ => NOR) src 0 v ≤ _
    by_cases e : v = src
    · rw [e, zup_eq]
      exact ⟨by omega, Int.mul_nonneg (by omega) (by decide)⟩
    · rw [zup_ne e] at hvN
      exact absurd hvN (Int.lt_irrefl _)
end low
theorem opt_keep {n : Nat} {dd f g : Nat → Nat → Nat} {u v : Nat → Int} (h : Opt n dd f u v) (hm : SM n f g) (hc : cst n dd g ≤ cst n dd f) : Opt n dd g u v := by
  have e := price hm dd u v
  have hnn : ∀ i j, i < n → j < n → 0 ≤ ((g i j : Int) - f i j) * ((dd i j : Int) + u i - v j) := fun i j hi hj => by
    have hij := h i j hi hj
    by_cases e0 : f i j = 0
    · rw [e0]; exact Int.mul_nonneg (by omega) hij.1
    · rw [hij.2 (by omega), Int.mul_zero]; exact Int.le_refl _
  intro i j hi hj
  refine ⟨(h i j hi hj).1, fun hp => ?_⟩
  have hge := sz2_ge hnn hi hj
  by_cases e0 : f i j = 0
  · rw [e0] at hge
    have h0 := (h i j hi hj).1
    refine Classical.byContradiction (fun z => ?_)
    have hpos : 0 < ((g i j : Int) - ((0 : Nat) : Int)) * ((dd i j : Int) + u i - v j) := Int.mul_pos (by omega) (by omega)
    omega
  · exact (h i j hi hj).2 (by omega)
/-- the cells before (i, j), and (i, j) itself -/
def fxb (i j : Nat) : Nat → Nat → Bool := fun x y => decide (x < i ∨ (x = i ∧ y < j))
def fxl (i j : Nat) : Nat → Nat → Bool := fun x y => decide (x < i ∨ (x = i ∧ y ≤ j))
def pot (n : Nat) (u v : Nat → Int) : Nat → Int := fun w => if w < n then u w else v (w - n)
theorem pot_arc {n : Nat} {dd : Nat → Nat → Nat} {F : Nat → Nat} {fx : Nat → Nat → Bool} {u v : Nat → Int} (hO : Opt n dd (mx F) u v) : ∀ a b c, Arc n dd F fx a b c → pot n u v b - pot n u v a ≤ c := by
  intro a b c ⟨i, j, hi, hj, _, h⟩
  have o := hO i j hi hj
  unfold pot
  rcases h with ⟨h1, h2, h3⟩ | ⟨h0, h1, h2, h3⟩
  · rw [h1, h2, h3, if_pos hi, if_neg (by omega), show n + j - n = j by omega]; omega
  · have := o.2 h0
    rw [h1, h2, h3, if_pos hi, if_neg (by omega), show n + j - n = j by omega]; omega
/-- the way around costs more: the entry can't be lowered -/
theorem lw_low {n : Nat} {U V : Nat → Nat} {dd : Nat → Nat → Nat} {F : Nat → Nat} {u v : Nat → Int} {i0 j0 : Nat} {Z : Int} {S : RS} (hn : n ≤ 6) (hi0 : i0 < n) (hj0 : j0 < n) (hF : Cpl n U V (mx F)) (hO : Opt n dd (mx F) u v) (hb : ∀ i, i < n → (-900000000000000000 ≤ u i ∧ u i ≤ 0) ∧ -900000000000000000 ≤ v i ∧ v i ≤ 0) (hd : ∀ i j, i < n → j < n → dd i j ≤ 1000000000000000) (hp : 0 < F (i0 * 6 + j0)) (hL : LI n dd F (fxl i0 j0) (pot n u v) i0 Z (fun _ _ => True) S) (hch : S.2.2 = 99) (hne : S.1 (n + j0) ≠ (dd i0 j0 : Int)) : Low n U V dd (mx F) i0 j0 := by
  obtain ⟨t, τ, h1, h2, h3, h4, h5, h6, h7⟩ := hL
  have hN : (NOR : Int) = 2305843009213693951 := rfl
  have hM : (MM : Int) = 1000000000000000 := rfl
  have sat := h5 hch
  have rc : rch_ n S.1 ≤ 12 := by
    have := sm_bd (f := fun w => if S.1 w < NOR then 1 else 0) (m := 1) (n := 2 * n) (fun k _ => by show (if S.1 k < NOR then 1 else 0) ≤ 1; split <;> omega)
    show sm (fun w => if S.1 w < NOR then 1 else 0) (2 * n) ≤ 12
    omega
  have up : ∀ w, w < 2 * n → S.1 w < NOR → S.1 w ≤ 12000000000000000 := fun w hw hwN => by
    have := (h3 w hw hwN).2
    have h9 : ((rch_ n S.1 : Nat) : Int) * MM ≤ 12 * MM := Int.mul_le_mul_of_nonneg_right (by omega) (by omega)
    omega
  obtain ⟨a, ha⟩ : ∃ a : Nat → Int, a = fun i => if S.1 i < NOR then S.1 i else 3000000000000000000 + u i := ⟨_, rfl⟩
  obtain ⟨b, hbb⟩ : ∃ b : Nat → Int, b = fun j => if S.1 (n + j) < NOR then S.1 (n + j) else 3000000000000000000 + v j := ⟨_, rfl⟩
  have o0 := (hO i0 j0 hi0 hj0).2 hp
  intro g hg hcg hsame
  refine low_ok (a := a) (b := b) (cpl_sm hF hg) hi0 hj0 ?_ (fun i j hi hj hlt => ?_) hsame hcg
  · rw [ha, hbb]
    dsimp only
    rw [h2.1, if_pos (show (0 : Int) < NOR by decide)]
    have hd0 := hd i0 j0 hi0 hj0
    have hv0 := (hb j0 hj0).2
    by_cases e : S.1 (n + j0) < NOR
    · rw [if_pos e]
      have q := (h3 (n + j0) (by omega) e).1
      unfold pot at q
      rw [if_neg (by omega), if_pos hi0, show n + j0 - n = j0 by omega] at q
      omega
    · rw [if_neg e]; omega
  · rw [lex hj hj0] at hlt
    have hfx : fxl i0 j0 i j = false := decide_eq_false (by omega)
    have a1 : Arc n dd F (fxl i0 j0) i (n + j) (dd i j : Int) := ⟨i, j, hi, hj, hfx, Or.inl ⟨rfl, rfl, rfl⟩⟩
    have s1 := sat _ _ _ a1 trivial
    have o1 := hO i j hi hj
    have hdij := hd i j hi hj
    have hbi := (hb i hi).1
    have hbj := (hb j hj).2
    have ub1 := up i (by omega)
    have ub2 := up (n + j) (by omega)
    rw [ha, hbb]
    dsimp only
    by_cases ei : S.1 i < NOR
    · have e1 := s1 ei
      have e2 := ub1 ei
      rw [if_pos ei, if_pos (show S.1 (n + j) < NOR by omega)]
      refine ⟨by omega, fun hf => ?_⟩
      have a2 : Arc n dd F (fxl i0 j0) (n + j) i (-(dd i j : Int)) := ⟨i, j, hi, hj, hfx, Or.inr ⟨hf, rfl, rfl, rfl⟩⟩
      have s2 := sat _ _ _ a2 trivial (by omega)
      omega
    · rw [if_neg ei]
      by_cases ej : S.1 (n + j) < NOR
      · rw [if_pos ej]
        have e2 := ub2 ej
        refine ⟨by omega, fun hf => ?_⟩
        exfalso
        have a2 : Arc n dd F (fxl i0 j0) (n + j) i (-(dd i j : Int)) := ⟨i, j, hi, hj, hfx, Or.inr ⟨hf, rfl, rfl, rfl⟩⟩
        have s2 := sat _ _ _ a2 trivial ej
        omega
      · rw [if_neg ej]
        exact ⟨by have := o1.1; omega, fun hf => by have := o1.2 hf; omega⟩
/-- the way back to the row -/
theorem lw_way {n : Nat} {dd : Nat → Nat → Nat} {F : Nat → Nat} {fx : Nat → Nat → Bool} {π : Nat → Int} {src : Nat} {Z : Int} {S : RS} (hL : LI n dd F fx π src Z (fun _ _ => True) S) (hch : S.2.2 = 99) : ∃ t : Nat → Nat, ∀ k w, t w = k → w < 2 * n → S.1 w < NOR → ∃ q, itp S.2.1 w q = src ∧ ∀ m, m < q → itp S.2.1 w m ≠ src ∧ itp S.2.1 w m < 2 * n ∧ S.2.1 (itp S.2.1 w m) < 2 * n ∧ t (S.2.1 (itp S.2.1 w m)) < t (itp S.2.1 w m) ∧ ∃ c, Arc n dd F fx (S.2.1 (itp S.2.1 w m)) (itp S.2.1 w m) c ∧ S.1 (S.2.1 (itp S.2.1 w m)) + c ≤ S.1 (itp S.2.1 w m) := by
  obtain ⟨t, τ, h1, h2, h3, h4, h5, h6, h7⟩ := hL
  refine ⟨t, fun k => ?_⟩
  induction k using Nat.strongRecOn with
  | _ k ih =>
    intro w hk hw hwN
    by_cases e : w = src
    · exact ⟨0, e, fun m hm => absurd hm (Nat.not_lt_zero _)⟩
    · rcases h4 w hw e with g | ⟨g1, g2, g3, c, g4, g5, g6⟩
      · exact absurd hwN (by rw [g.1]; exact Int.lt_irrefl _)
      · have sat := h5 hch _ _ _ g4 trivial g3
        have tl : t (S.2.1 w) < t w := by
          rcases g6 with z | z
          · exact z
          · omega
        obtain ⟨q, q1, q2⟩ := ih (t (S.2.1 w)) (by omega) (S.2.1 w) rfl g2 g3
        refine ⟨q + 1, by rw [← itp_s]; exact q1, fun m hm => ?_⟩
        cases m with
        | zero => exact ⟨e, hw, g2, tl, c, g4, g5⟩
        | succ m =>
          have := q2 m (by omega)
          rw [itp_s] at this
          exact this
theorem dec_dist {t : Nat → Nat} {p : Nat → Nat} {s q : Nat} (h : ∀ m, m < q → t (itp p s (m + 1)) < t (itp p s m)) : ∀ a b, a < b → b < q → itp p s a ≠ itp p s b := by
  have key : ∀ d a, a + (d + 1) < q → t (itp p s (a + (d + 1))) < t (itp p s a) := by
    intro d
    induction d with
    | zero => intro a ha; exact h a (by omega)
    | succ d ih =>
      intro a ha
      have h1 := ih a (by omega)
      have h2 := h (a + (d + 1)) (by omega)
      rw [show a + (d + 1 + 1) = a + (d + 1) + 1 from rfl]
      omega
  intro a b hab hb e
  have := key (b - a - 1) a (by omega)
  rw [show a + (b - a - 1 + 1) = b by omega, e] at this
  exact absurd this (Nat.lt_irrefl _)
/-- the entry one lower, and the way around one higher -/
theorem lw_ok {n : Nat} {U V : Nat → Nat} {dd : Nat → Nat → Nat} {F p t : Nat → Nat} {ρ : Nat → Int} {i0 j0 q : Nat} (hn : n ≤ 6) (hi0 : i0 < n) (hj0 : j0 < n) (hF : Cpl n U V (mx F)) (hz : Oz n F) (hp : 0 < F (i0 * 6 + j0)) (hρ : ρ (n + j0) = (dd i0 j0 : Int) ∧ ρ i0 = 0) (hq : itp p (n + j0) q = i0) (hw : ∀ m, m < q → itp p (n + j0) m ≠ i0 ∧ itp p (n + j0) m < 2 * n ∧ p (itp p (n + j0) m) < 2 * n ∧ t (p (itp p (n + j0) m)) < t (itp p (n + j0) m) ∧ ∃ c, Arc n dd F (fxl i0 j0) (p (itp p (n + j0) m)) (itp p (n + j0) m) c ∧ ρ (p (itp p (n + j0) m)) + c ≤ ρ (itp p (n + j0) m)) :
    (∀ m, m < q → Lnk n (cup F (i0 * 6 + j0) (F (i0 * 6 + j0) - 1)) (fun x y => fxl i0 j0 x y = false) (p (itp p (n + j0) m)) (itp p (n + j0) m)) ∧ (∀ a b, a < b → b < q → itp p (n + j0) a ≠ itp p (n + j0) b) ∧ Cpl n U V (mx (shm n p (n + j0) (cup F (i0 * 6 + j0) (F (i0 * 6 + j0) - 1)) q)) ∧ Oz n (shm n p (n + j0) (cup F (i0 * 6 + j0) (F (i0 * 6 + j0) - 1)) q) ∧ cst n dd (mx (shm n p (n + j0) (cup F (i0 * 6 + j0) (F (i0 * 6 + j0) - 1)) q)) ≤ cst n dd (mx F) ∧ shm n p (n + j0) (cup F (i0 * 6 + j0) (F (i0 * 6 + j0) - 1)) q (i0 * 6 + j0) + 1 = F (i0 * 6 + j0) ∧ ∀ x y, x < n → y < n → (x < i0 ∨ (x = i0 ∧ y < j0)) → shm n p (n + j0) (cup F (i0 * 6 + j0) (F (i0 * 6 + j0) - 1)) q (x * 6 + y) = F (x * 6 + y) := by
  obtain ⟨F1, hF1⟩ : ∃ F1, F1 = cup F (i0 * 6 + j0) (F (i0 * 6 + j0) - 1) := ⟨_, rfl⟩
  rw [← hF1]
  have hL : ∀ m, m < q → Lnk n F1 (fun x y => fxl i0 j0 x y = false) (p (itp p (n + j0) m)) (itp p (n + j0) m) := fun m hm => by
    obtain ⟨_, _, _, _, c, ha, _⟩ := hw m hm
    obtain ⟨i, j, hi, hj, hf, ⟨h1, h2, _⟩ | ⟨h0, h1, h2, _⟩⟩ := ha
    · exact ⟨i, j, hi, hj, hf, Or.inl ⟨h1, h2⟩⟩
    · have : ¬ (i < i0 ∨ (i = i0 ∧ j ≤ j0)) := of_decide_eq_false hf
      refine ⟨i, j, hi, hj, hf, Or.inr ⟨?_, h1, h2⟩⟩
      rw [hF1, cup_ne (by omega)]; exact h0
  have hdist : ∀ a b, a < b → b < q → itp p (n + j0) a ≠ itp p (n + j0) b := dec_dist (t := t) (fun m hm => (hw m hm).2.2.2.1)
  have hm := shm_marg hn hL hdist q (Nat.le_refl _)
  have hc := shm_cost (dd := dd) (ρ := ρ) (t := t) hn hL hdist (fun m hm => by
    obtain ⟨_, _, _, h3, c, ha, h4⟩ := hw m hm
    exact ⟨c, Arc_c ha, h4, Or.inl h3⟩) q (Nat.le_refl _)
  rw [hq] at hm hc
  have off : ∀ z, (∀ x y, x < n → y < n → fxl i0 j0 x y = false → z ≠ x * 6 + y) → shm n p (n + j0) F1 q z = F1 z := shm_off hn hL q (Nat.le_refl _)
  have own : shm n p (n + j0) F1 q (i0 * 6 + j0) = F (i0 * 6 + j0) - 1 := by
    rw [off _ (fun x y hx hy hf => by
      have : ¬ (x < i0 ∨ (x = i0 ∧ y ≤ j0)) := of_decide_eq_false hf
      omega), hF1, cup_eq]
  have r1 := fun x => row_cup (H := F) (i0 := i0) (v := F (i0 * 6 + j0) - 1) hn hj0 x
  have r2 := fun y hy => col_cup (H := F) (i0 := i0) (v := F (i0 * 6 + j0) - 1) hn hi0 hj0 y hy
  have r3 := cst_cup (dd := dd) (H := F) (v := F (i0 * 6 + j0) - 1) hn hi0 hj0
  rw [← hF1] at r1 r2 r3
  refine ⟨hL, hdist, ⟨fun x hx => ?_, fun y hy => ?_⟩, ?_, ?_, by rw [own]; omega, fun x y hx hy hlt => ?_⟩
  · have g := hm.1 x hx
    have r := r1 x
    rw [if_neg (show ¬ n + j0 = x by omega)] at g
    rw [← hF.1 x hx]
    by_cases e : x = i0
    · rw [if_pos e, if_pos e] at r
      rw [if_pos (show i0 = x from e.symm)] at g
      omega
    · rw [if_neg e, if_neg e] at r
      rw [if_neg (show ¬ i0 = x from fun z => e z.symm)] at g
      omega
  · have g := hm.2 y hy
    have r := r2 y hy
    rw [if_neg (show ¬ i0 = n + y by omega)] at g
    rw [← hF.2 y hy]
    by_cases e : y = j0
    · rw [if_pos e, if_pos e] at r
      rw [if_pos (show n + j0 = n + y by omega)] at g
      omega
    · rw [if_neg e, if_neg e] at r
      rw [if_neg (show ¬ n + j0 = n + y by omega)] at g
      omega
  · intro z hz1 hz2
    rw [off z (fun x y hx hy _ => hz2 x y hx hy), hF1, cup_ne (hz2 i0 j0 hi0 hj0)]
    exact hz z hz1 hz2
  · have h1 := hc.1
    rw [hρ.1, hρ.2] at h1
    obtain ⟨z, hz9⟩ : ∃ z, F (i0 * 6 + j0) = z + 1 := ⟨F (i0 * 6 + j0) - 1, by omega⟩
    rw [hz9, show z + 1 - 1 = z by omega, Nat.add_mul, Nat.one_mul] at r3
    omega
  · rw [off _ (fun a b ha hb hf => by
      have : ¬ (a < i0 ∨ (a = i0 ∧ b ≤ j0)) := of_decide_eq_false hf
      omega), hF1, cup_ne (by omega)]

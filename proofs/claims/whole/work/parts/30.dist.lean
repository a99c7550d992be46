/-! DISTANCES: bounds, symmetry -/
theorem sm_dec {g : Nat → Nat} {n j : Nat} (hj : j < n) (hp : 0 < g j) : sm (cup g j (g j - 1)) n + 1 = sm g n := by
  have := sm_one (g := g) (g' := cup g j (g j - 1)) hj (fun y _ hne => cup_ne hne)
  rw [cup_eq] at this
  omega
theorem cpl_ex : ∀ (t n : Nat) (U V : Nat → Nat), sm U n = t → sm V n = t → ∃ f, Cpl n U V f
  | 0, n, U, V, hU, hV => ⟨fun _ _ => 0, fun i hi => by
      have := sm_le (f := U) hi
      rw [sm_zero (fun _ _ => rfl)]; omega, fun j hj => by
      have := sm_le (f := V) hj
      rw [sm_zero (fun _ _ => rfl)]; omega⟩
  | t + 1, n, U, V, hU, hV => by
    obtain ⟨i, hi, hUi⟩ := sm_ex (f := U) (n := n) (by omega)
    obtain ⟨j, hj, hVj⟩ := sm_ex (f := V) (n := n) (by omega)
    have h1 := sm_dec hi hUi
    have h2 := sm_dec hj hVj
    obtain ⟨f, f1, f2⟩ := cpl_ex t n (cup U i (U i - 1)) (cup V j (V j - 1)) (by omega) (by omega)
    refine ⟨fun x y => if x = i ∧ y = j then f x y + 1 else f x y, fun x hx => ?_, fun y hy => ?_⟩
    · have q := f1 x hx
      by_cases e : x = i
      · subst e
        rw [cup_eq] at q
        have o1 := sm_one (g := fun y => f x y) (g' := fun y => if x = x ∧ y = j then f x y + 1 else f x y) hj (fun y _ hne => if_neg (fun z => hne z.2))
        rw [if_pos ⟨rfl, rfl⟩] at o1
        show sm (fun y => if x = x ∧ y = j then f x y + 1 else f x y) n = U x
        omega
      · rw [cup_ne e] at q
        rw [← q]
        exact sm_ext (fun y _ => if_neg (fun z => e z.1))
    · have q := f2 y hy
      by_cases e : y = j
      · subst e
        rw [cup_eq] at q
        have o1 := sm_one (g := fun x => f x y) (g' := fun x => if x = i ∧ y = y then f x y + 1 else f x y) hi (fun x _ hne => if_neg (fun z => hne z.1))
        rw [if_pos ⟨rfl, rfl⟩] at o1
        show sm (fun x => if x = i ∧ y = y then f x y + 1 else f x y) n = V y
        omega
      · rw [cup_ne e] at q
        rw [← q]
        exact sm_ext (fun x _ => if_neg (fun z => e z.2))
theorem min_cpl {n : Nat} {U V : Nat → Nat} (dd : Nat → Nat → Nat) (h : sm U n = sm V n) : ∃ f, Cpl n U V f ∧ ∀ g, Cpl n U V g → cst n dd f ≤ cst n dd g := by
  obtain ⟨f0, h0⟩ := cpl_ex _ n U V h rfl
  have key : ∀ (b : Nat) (f : Nat → Nat → Nat), Cpl n U V f → cst n dd f ≤ b → ∃ f, Cpl n U V f ∧ ∀ g, Cpl n U V g → cst n dd f ≤ cst n dd g := by
    intro b
    induction b with
    | zero => exact fun f hf hb => ⟨f, hf, fun g _ => by omega⟩
    | succ b ih =>
      intro f hf hb
      by_cases e : ∃ g, Cpl n U V g ∧ cst n dd g < cst n dd f
      · obtain ⟨g, hg, hl⟩ := e
        exact ih g hg (by omega)
      · exact ⟨f, hf, fun g hg => Nat.le_of_not_lt (fun z => e ⟨g, hg, z⟩)⟩
  exact key _ f0 h0 (Nat.le_refl _)
theorem sm_mulc (f : Nat → Nat) (K : Nat) : ∀ n, sm (fun i => f i * K) n = sm f n * K
  | 0 => (Nat.zero_mul _).symm
  | n + 1 => by
    show sm (fun i => f i * K) n + f n * K = (sm f n + f n) * K
    rw [sm_mulc f K n, Nat.add_mul]
theorem cst_le {n K : Nat} {U V : Nat → Nat} {dd f : Nat → Nat → Nat} (hf : Cpl n U V f) (hd : ∀ i j, i < n → j < n → dd i j ≤ K) : cst n dd f ≤ sm U n * K := by
  have h1 : cst n dd f ≤ sm (fun i => U i * K) n := sm_le2 (fun i hi => by
    rw [← hf.1 i hi, ← sm_mulc]
    exact sm_le2 (fun j hj => Nat.mul_le_mul_left _ (hd i j hi hj)))
  rw [sm_mulc] at h1
  exact h1
theorem mcost_le {n K : Nat} {U V : Nat → Nat} {dd : Nat → Nat → Nat} (h : sm U n = sm V n) (hd : ∀ i j, i < n → j < n → dd i j ≤ K) : mcost n U V dd ≤ sm U n * K := by
  obtain ⟨f, hf, hm⟩ := min_cpl dd h
  rw [mcost_eq hf hm]
  exact cst_le hf hd
theorem cst_tr {n : Nat} {dd : Nat → Nat → Nat} (hs : ∀ i j, i < n → j < n → dd i j = dd j i) (f : Nat → Nat → Nat) : cst n dd (fun i j => f j i) = cst n dd f := by
  show sm (fun i => sm (fun j => f j i * dd i j) n) n = sm (fun i => sm (fun j => f i j * dd i j) n) n
  rw [sm_swap (fun i j => f j i * dd i j) n n]
  exact sm_ext (fun j hj => sm_ext (fun i hi => by show f j i * dd i j = f j i * dd j i; rw [hs i j hi hj]))
theorem mcost_sym {n : Nat} {U V : Nat → Nat} {dd : Nat → Nat → Nat} (h : sm U n = sm V n) (hs : ∀ i j, i < n → j < n → dd i j = dd j i) : mcost n V U dd = mcost n U V dd := by
  obtain ⟨f, hf, hm⟩ := min_cpl dd h
  rw [mcost_eq hf hm, mcost_eq (f := fun i j => f j i) ⟨hf.2, hf.1⟩ (fun g hg => by
    rw [cst_tr hs, ← cst_tr hs g]
    exact hm _ ⟨hg.2, hg.1⟩), cst_tr hs]
theorem mcost_same {n : Nat} {U : Nat → Nat} {dd : Nat → Nat → Nat} (h0 : ∀ i, i < n → dd i i = 0) : mcost n U U dd = 0 := by
  have hc : cst n dd (fun i j => if i = j then U i else 0) = 0 := sm_zero (fun i hi => sm_zero (fun j hj => by
    show (if i = j then U i else 0) * dd i j = 0
    by_cases e : i = j
    · subst e; rw [h0 i hi, Nat.mul_zero]
    · rw [if_neg e, Nat.zero_mul]))
  rw [mcost_eq (f := fun i j => if i = j then U i else 0) ⟨fun i hi => by
    rw [sm_single (g := fun j => if i = j then U i else 0) hi (fun y _ hne => if_neg (fun z => hne z.symm)), if_pos rfl], fun j hj => by
    rw [sm_single (g := fun i => if i = j then U i else 0) hj (fun y _ hne => if_neg hne), if_pos rfl]⟩ (fun g _ => by rw [hc]; exact Nat.zero_le _), hc]
theorem dst_ok {c : Nat → Nat} (W : Wc c) : ∀ k, (∀ i j, i < c 0 → j < c 0 → dst c k i j ≤ (c 3 * c 1) ^ k ∧ dst c k i j = dst c k j i) ∧ ∀ i, i < c 0 → dst c k i i = 0
  | 0 => ⟨fun _ _ _ _ => ⟨Nat.zero_le _, rfl⟩, fun _ _ => rfl⟩
  | k + 1 => by
    obtain ⟨h1, h2⟩ := dst_ok W k
    have hr := fun s hs => Wc_row W s hs
    refine ⟨fun i j hi hj => ?_, fun i hi => ?_⟩
    · show (if c (4 + i) = c (4 + j) then c 2 * mcost (c 0) (wro_ c i) (wro_ c j) (dst c k) else (c 3 * c 1) ^ (k + 1)) ≤ _ ∧ (if c (4 + i) = c (4 + j) then c 2 * mcost (c 0) (wro_ c i) (wro_ c j) (dst c k) else (c 3 * c 1) ^ (k + 1)) = (if c (4 + j) = c (4 + i) then c 2 * mcost (c 0) (wro_ c j) (wro_ c i) (dst c k) else (c 3 * c 1) ^ (k + 1))
      by_cases e : c (4 + i) = c (4 + j)
      · rw [if_pos e, if_pos e.symm]
        have hs : sm (wro_ c i) (c 0) = sm (wro_ c j) (c 0) := by rw [hr i hi, hr j hj]
        refine ⟨?_, by rw [mcost_sym hs (fun x y hx hy => (h1 x y hx hy).2)]⟩
        have hm := mcost_le (dd := dst c k) hs (fun x y hx hy => (h1 x y hx hy).1)
        rw [hr i hi] at hm
        have hw := W.2.2.1.1
        rw [Nat.pow_succ, Nat.mul_comm ((c 3 * c 1) ^ k), Nat.mul_assoc]
        exact Nat.mul_le_mul hw hm
      · rw [if_neg e, if_neg (fun z => e z.symm)]
        exact ⟨Nat.le_refl _, rfl⟩
    · show (if c (4 + i) = c (4 + i) then c 2 * mcost (c 0) (wro_ c i) (wro_ c i) (dst c k) else (c 3 * c 1) ^ (k + 1)) = 0
      rw [if_pos rfl, mcost_same h2, Nat.mul_zero]
theorem dst_s {c : Nat → Nat} {k i j : Nat} : dst c (k + 1) i j = if c (4 + i) = c (4 + j) then c 2 * mcost (c 0) (wro_ c i) (wro_ c j) (dst c k) else (c 3 * c 1) ^ (k + 1) := rfl
theorem lev_at : ∀ k, k < 16 → E0.2.2 56 k = 57 + k := by decide +kernel
theorem lev_q : ∀ k, k < 16 → aA E0 (57 + k) 2 36 := by decide +kernel
theorem lev_in {k : Nat} {i : Int32} (hk : k < 16) (h : vp_in i 36) : aAr E0 2 (E0.2.2 56 (nI k).toNatClampNeg) i := by rw [nI_clamp (by omega), lev_at k hk]; exact aA_in (lev_q k hk) h
theorem aUpJ_na {J : aJ} {a k b j : Nat} {v : Int64} (h : b ≠ a) : aUpJ J a k v b j = J b j := by unfold aUpJ; rw [if_neg (fun q => h q.1)]
theorem s_use (d : Nat) (I : aI) (J : aJ) (k : Nat) (hk : k < 16) : Sp m_X8_useCosts (d + 1) [.ref 47, .ref (57 + k)] E0 I J (fun r I' J' => r = none ∧ I' = I ∧ (∀ q, q < 36 → J' 49 q = J (57 + k) q) ∧ ∀ q, q ≠ 49 → J' q = J q) := by
  refine Sp.of (lo := [some (.ref 47), some (.ref (57 + k))]) rfl (fun Q hQ => ?_)
  refine Ez.blk B_X8_useCosts_0 (lo' := [some (.ref 47), some (.ref (57 + k))]) (st' := []) (I' := I) (J' := (aRwJ J 49 (va_cpy (J (57 + k)) (J 49) 0 0 36))) (Ps := [aO E0 47 8 ∧ E0.2.2 47 2 ≠ 0, aCp E0 2 (57 + k) 49 0 0 36]) rfl ⟨r_47_2, (cpy_ok (s0 := 0) (d0 := 0) (m := 36) (lev_q k hk) q_49 rfl rfl rfl (by omega) (by omega) (by omega) (by omega) (by omega))⟩ ?_
  exact Ez.vret rfl (by decide +kernel) (hQ _ _ _ ⟨rfl, rfl, fun q hq => by rw [aRwJ_at, cp0 hq], fun q hq => aRwJ_ne hq⟩)

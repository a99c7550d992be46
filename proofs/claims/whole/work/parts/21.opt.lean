/-! OPTIMAL COUPLINGS: sums, prices, the canonical one -/
def sz (f : Nat → Int) : Nat → Int
  | 0 => 0
  | n + 1 => sz f n + f n
theorem sz_ext {f g : Nat → Int} : ∀ {n : Nat}, (∀ i, i < n → f i = g i) → sz f n = sz g n
  | 0, _ => rfl
  | n + 1, h => by
    show sz f n + f n = sz g n + g n
    rw [sz_ext (fun i hi => h i (by omega)), h n (by omega)]
theorem sz_add (f g : Nat → Int) : ∀ n, sz (fun i => f i + g i) n = sz f n + sz g n
  | 0 => rfl
  | n + 1 => by
    show sz (fun i => f i + g i) n + (f n + g n) = sz f n + f n + (sz g n + g n)
    rw [sz_add f g n]
    omega
theorem sz_sub (f g : Nat → Int) : ∀ n, sz (fun i => f i - g i) n = sz f n - sz g n
  | 0 => rfl
  | n + 1 => by
    show sz (fun i => f i - g i) n + (f n - g n) = sz f n + f n - (sz g n + g n)
    rw [sz_sub f g n]
    omega
theorem sz_mul (c : Int) (f : Nat → Int) : ∀ n, sz (fun i => c * f i) n = c * sz f n
  | 0 => by show (0 : Int) = c * 0; rw [Int.mul_zero]
  | n + 1 => by
    show sz (fun i => c * f i) n + c * f n = c * (sz f n + f n)
    rw [sz_mul c f n, Int.mul_add]
theorem sz_zero {f : Nat → Int} {n : Nat} (h : ∀ i, i < n → f i = 0) : sz f n = 0 := by
  rw [sz_ext h]
  induction n with
  | zero => rfl
  | succ n ih =>
    show sz (fun _ => 0) n + 0 = 0
    rw [Int.add_zero]
    exact ih (fun i hi => h i (by omega))
theorem sz_nn {f : Nat → Int} : ∀ {n : Nat}, (∀ i, i < n → 0 ≤ f i) → 0 ≤ sz f n
  | 0, _ => Int.le_refl _
  | n + 1, h => by
    have h1 := sz_nn (n := n) (fun i hi => h i (by omega))
    have h2 := h n (by omega)
    show 0 ≤ sz f n + f n
    omega
theorem sz_ge {f : Nat → Int} {n j : Nat} (h : ∀ i, i < n → 0 ≤ f i) (hj : j < n) : f j ≤ sz f n := by
  induction n with
  | zero => omega
  | succ n ih =>
    show f j ≤ sz f n + f n
    by_cases e : j = n
    · have := sz_nn (n := n) (fun i hi => h i (by omega))
      rw [e]; omega
    · have := ih (fun i hi => h i (by omega)) (by omega)
      have := h n (by omega)
      omega
theorem sz_swap (h : Nat → Nat → Int) (m : Nat) : ∀ n, sz (fun i => sz (fun j => h i j) m) n = sz (fun j => sz (fun i => h i j) n) m
  | 0 => by
    show (0 : Int) = sz (fun j => 0) m
    rw [sz_zero (fun _ _ => rfl)]
  | n + 1 => by
    show sz (fun i => sz (fun j => h i j) m) n + sz (fun j => h n j) m = sz (fun j => sz (fun i => h i j) n + h n j) m
    rw [sz_swap h m n, sz_add]
theorem sz_sm (f : Nat → Nat) : ∀ n, ((sm f n : Nat) : Int) = sz (fun i => (f i : Int)) n
  | 0 => rfl
  | n + 1 => by
    show ((sm f n + f n : Nat) : Int) = sz (fun i => (f i : Int)) n + (f n : Int)
    rw [Int.natCast_add, sz_sm f n]
/-- double sums -/
abbrev sz2 (h : Nat → Nat → Int) (n : Nat) : Int := sz (fun i => sz (fun j => h i j) n) n
theorem sz2_ext {f g : Nat → Nat → Int} {n : Nat} (h : ∀ i j, i < n → j < n → f i j = g i j) : sz2 f n = sz2 g n := sz_ext (fun i hi => sz_ext (fun j hj => h i j hi hj))
theorem sz2_add (f g : Nat → Nat → Int) (n : Nat) : sz2 (fun i j => f i j + g i j) n = sz2 f n + sz2 g n := by
  show sz (fun i => sz (fun j => f i j + g i j) n) n = _
  rw [sz_ext (g := fun i => sz (fun j => f i j) n + sz (fun j => g i j) n) (fun i _ => sz_add _ _ n), sz_add]
theorem sz2_sub (f g : Nat → Nat → Int) (n : Nat) : sz2 (fun i j => f i j - g i j) n = sz2 f n - sz2 g n := by
  show sz (fun i => sz (fun j => f i j - g i j) n) n = _
  rw [sz_ext (g := fun i => sz (fun j => f i j) n - sz (fun j => g i j) n) (fun i _ => sz_sub _ _ n), sz_sub]
theorem sz2_nn {f : Nat → Nat → Int} {n : Nat} (h : ∀ i j, i < n → j < n → 0 ≤ f i j) : 0 ≤ sz2 f n := sz_nn (fun i hi => sz_nn (fun j hj => h i j hi hj))
theorem sz2_ge {f : Nat → Nat → Int} {n a b : Nat} (h : ∀ i j, i < n → j < n → 0 ≤ f i j) (ha : a < n) (hb : b < n) : f a b ≤ sz2 f n := by
  have h1 := sz_ge (f := fun j => f a j) (fun j hj => h a j ha hj) hb
  have h2 := sz_ge (f := fun i => sz (fun j => f i j) n) (fun i hi => sz_nn (fun j hj => h i j hi hj)) ha
  exact Int.le_trans h1 h2
/-- the same margins -/
def SM (n : Nat) (f g : Nat → Nat → Nat) : Prop := (∀ i, i < n → sm (fun j => f i j) n = sm (fun j => g i j) n) ∧ ∀ j, j < n → sm (fun i => f i j) n = sm (fun i => g i j) n
theorem cst_z (n : Nat) (dd f : Nat → Nat → Nat) : ((cst n dd f : Nat) : Int) = sz2 (fun i j => (f i j : Int) * (dd i j : Int)) n := by
  unfold cst sm2
  rw [sz_sm]
  refine sz_ext (fun i _ => ?_)
  rw [sz_sm]
  exact sz_ext (fun j _ => Int.natCast_mul _ _)
/-- prices may be put on rows and columns -/
theorem price {n : Nat} {f g : Nat → Nat → Nat} (h : SM n f g) (dd : Nat → Nat → Nat) (a b : Nat → Int) : ((cst n dd g : Nat) : Int) - (cst n dd f : Nat) = sz2 (fun i j => ((g i j : Int) - f i j) * ((dd i j : Int) + a i - b j)) n := by
  have hr : ∀ i, i < n → sz (fun j => (g i j : Int) - f i j) n = 0 := fun i hi => by
    have e := h.1 i hi
    have e1 := sz_sm (fun j => g i j) n
    have e2 := sz_sm (fun j => f i j) n
    have e3 := sz_sub (fun j => (g i j : Int)) (fun j => (f i j : Int)) n
    rw [e3, ← e1, ← e2, e, Int.sub_self]
  have hc : ∀ j, j < n → sz (fun i => (g i j : Int) - f i j) n = 0 := fun j hj => by
    have e := h.2 j hj
    have e1 := sz_sm (fun i => g i j) n
    have e2 := sz_sm (fun i => f i j) n
    have e3 := sz_sub (fun i => (g i j : Int)) (fun i => (f i j : Int)) n
    rw [e3, ← e1, ← e2, e, Int.sub_self]
  have e1 : sz2 (fun i j => ((g i j : Int) - f i j) * a i) n = 0 := sz_zero (fun i hi => by
    rw [sz_ext (g := fun j => a i * ((g i j : Int) - f i j)) (fun j _ => Int.mul_comm _ _), sz_mul, hr i hi, Int.mul_zero])
  have e2 : sz2 (fun i j => ((g i j : Int) - f i j) * b j) n = 0 := by
    show sz (fun i => sz (fun j => ((g i j : Int) - f i j) * b j) n) n = 0
    rw [sz_swap]
    exact sz_zero (fun j hj => by
      rw [sz_ext (g := fun i => b j * ((g i j : Int) - f i j)) (fun i _ => Int.mul_comm _ _), sz_mul, hc j hj, Int.mul_zero])
  rw [cst_z, cst_z, ← sz2_sub]
  have e3 : sz2 (fun i j => ((g i j : Int) - f i j) * ((dd i j : Int) + a i - b j)) n = sz2 (fun i j => ((g i j : Int) * dd i j - (f i j : Int) * dd i j) + ((g i j : Int) - f i j) * a i - ((g i j : Int) - f i j) * b j) n := sz2_ext (fun i j _ _ => by
    rw [Int.mul_sub, Int.mul_add, Int.sub_mul])
  rw [e3, sz2_sub (fun i j => ((g i j : Int) * dd i j - (f i j : Int) * dd i j) + ((g i j : Int) - f i j) * a i) (fun i j => ((g i j : Int) - f i j) * b j) n, sz2_add (fun i j => (g i j : Int) * dd i j - (f i j : Int) * dd i j) (fun i j => ((g i j : Int) - f i j) * a i) n, e1, e2]
  omega
/-- f is optimal among what has its margins: there are prices -/
def Opt (n : Nat) (dd f : Nat → Nat → Nat) (u v : Nat → Int) : Prop := ∀ i j, i < n → j < n → 0 ≤ (dd i j : Int) + u i - v j ∧ (0 < f i j → (dd i j : Int) + u i - v j = 0)
theorem opt_min {n : Nat} {dd f g : Nat → Nat → Nat} {u v : Nat → Int} (h : Opt n dd f u v) (hm : SM n f g) : cst n dd f ≤ cst n dd g := by
  have e := price hm dd u v
  have h0 : 0 ≤ sz2 (fun i j => ((g i j : Int) - f i j) * ((dd i j : Int) + u i - v j)) n := sz2_nn (fun i j hi hj => by
    have hij := h i j hi hj
    by_cases e0 : f i j = 0
    · rw [e0]
      exact Int.mul_nonneg (by omega) hij.1
    · rw [hij.2 (by omega), Int.mul_zero]
      exact Int.le_refl _)
  omega
/-- the optimal coupling whose entries, row by row, are as small as can be -/
def Can (n : Nat) (U V : Nat → Nat) (dd f : Nat → Nat → Nat) : Prop := Cpl n U V f ∧ (∀ g, Cpl n U V g → cst n dd f ≤ cst n dd g) ∧ ∀ g, Cpl n U V g → cst n dd g ≤ cst n dd f → ∀ i j, i < n → j < n → (∀ x y, x < n → y < n → x * n + y < i * n + j → g x y = f x y) → f i j ≤ g i j
theorem cpl_sm {n : Nat} {U V : Nat → Nat} {f g : Nat → Nat → Nat} (hf : Cpl n U V f) (hg : Cpl n U V g) : SM n f g := ⟨fun i hi => by rw [hf.1 i hi, hg.1 i hi], fun j hj => by rw [hf.2 j hj, hg.2 j hj]⟩
theorem cpl_of {n : Nat} {U V : Nat → Nat} {f g : Nat → Nat → Nat} (hf : Cpl n U V f) (h : SM n f g) : Cpl n U V g := ⟨fun i hi => by rw [← h.1 i hi]; exact hf.1 i hi, fun j hj => by rw [← h.2 j hj]; exact hf.2 j hj⟩
theorem can_uniq {n : Nat} {U V : Nat → Nat} {dd f g : Nat → Nat → Nat} (hf : Can n U V dd f) (hg : Can n U V dd g) : ∀ i j, i < n → j < n → f i j = g i j := by
  have key : ∀ m i j, i < n → j < n → i * n + j = m → f i j = g i j := by
    intro m
    induction m using Nat.strongRecOn with
    | _ m ih =>
      intro i j hi hj e
      have h1 := hf.2.2 g hg.1 (hg.2.1 f hf.1) i j hi hj (fun x y hx hy h => (ih (x * n + y) (by omega) x y hx hy rfl).symm)
      have h2 := hg.2.2 f hf.1 (hf.2.1 g hg.1) i j hi hj (fun x y hx hy h => ih (x * n + y) (by omega) x y hx hy rfl)
      omega
  exact fun i j hi hj => key _ i j hi hj rfl
/-- the least cost, by any optimal coupling -/
theorem mcost_eq {n : Nat} {U V : Nat → Nat} {dd f : Nat → Nat → Nat} (hf : Cpl n U V f) (h : ∀ g, Cpl n U V g → cst n dd f ≤ cst n dd g) : mcost n U V dd = cst n dd f := by
  have hs := Classical.epsilon_spec (p := fun m => (∃ f, Cpl n U V f ∧ cst n dd f = m) ∧ ∀ f, Cpl n U V f → m ≤ cst n dd f) ⟨cst n dd f, ⟨f, hf, rfl⟩, h⟩
  obtain ⟨⟨g, hg, eg⟩, hm⟩ := hs
  have h1 := h g hg
  have h2 := hm f hf
  show Classical.epsilon _ = _
  omega
/-- an entry that no way around can lower is as small as can be -/
theorem low_ok {n : Nat} {dd f g : Nat → Nat → Nat} (hm : SM n f g) {a b : Nat → Int} {i0 j0 : Nat} (hi0 : i0 < n) (hj0 : j0 < n) (hlt : (dd i0 j0 : Int) + a i0 - b j0 < 0) (hal : ∀ i j, i < n → j < n → i0 * n + j0 < i * n + j → 0 ≤ (dd i j : Int) + a i - b j ∧ (0 < f i j → (dd i j : Int) + a i - b j = 0)) (hsame : ∀ i j, i < n → j < n → i * n + j < i0 * n + j0 → g i j = f i j) (hc : cst n dd g ≤ cst n dd f) : f i0 j0 ≤ g i0 j0 := by
  refine Classical.byContradiction (fun z => ?_)
  have z : g i0 j0 < f i0 j0 := by omega
  have e := price hm dd a b
  have hcell : ∀ i j, i < n → j < n → i * n + j = i0 * n + j0 → i = i0 ∧ j = j0 := fun i j hi hj h => by
    have d1 : (i * n + j) / n = i := by rw [Nat.mul_comm, Nat.mul_add_div (by omega), Nat.div_eq_of_lt hj]; omega
    have d2 : (i0 * n + j0) / n = i0 := by rw [Nat.mul_comm, Nat.mul_add_div (by omega), Nat.div_eq_of_lt hj0]; omega
    have : i = i0 := by rw [← d1, ← d2, h]
    subst this
    exact ⟨rfl, by omega⟩
  have hpos : 0 < ((g i0 j0 : Int) - f i0 j0) * ((dd i0 j0 : Int) + a i0 - b j0) := Int.mul_pos_of_neg_of_neg (by omega) hlt
  have hge := sz2_ge (f := fun i j => ((g i j : Int) - f i j) * ((dd i j : Int) + a i - b j)) (n := n) (fun i j hi hj => by
    by_cases h1 : i * n + j < i0 * n + j0
    · rw [hsame i j hi hj h1, Int.sub_self, Int.zero_mul]; exact Int.le_refl _
    · by_cases h2 : i * n + j = i0 * n + j0
      · obtain ⟨rfl, rfl⟩ := hcell i j hi hj h2
        exact Int.le_of_lt hpos
      · have hh := hal i j hi hj (by omega)
        by_cases e0 : f i j = 0
        · rw [e0]; exact Int.mul_nonneg (by omega) hh.1
        · rw [hh.2 (by omega), Int.mul_zero]; exact Int.le_refl _) hi0 hj0
  omega

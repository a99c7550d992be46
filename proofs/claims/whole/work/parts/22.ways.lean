/-! SHORTEST WAYS in rounds (the class) -/
abbrev FAR : Int := 9223372036854775807
/-- one approach: targets come nearer from sources; P: the arcs that have been looked at -/
def Apr (n : Nat) (A : Nat → Nat → Prop) (w : Nat → Nat → Int) (S : Nat → Int) (D : Nat → Int) (b : Nat → Nat) (P : Nat → Nat → Prop) (D' : Nat → Int) (b' : Nat → Nat) (v : Int32) : Prop := ∀ t, t < n → ((D' t = D t ∧ b' t = b t) ∨ (v = 1 ∧ ∃ s, s < n ∧ A s t ∧ S s ≠ FAR ∧ D' t = S s + w s t ∧ D' t < D t ∧ b' t = s + 1)) ∧ ∀ s, s < n → P s t → A s t → S s ≠ FAR → D' t ≤ S s + w s t
theorem Apr_no {n : Nat} {A : Nat → Nat → Prop} {w : Nat → Nat → Int} {S D : Nat → Int} {b : Nat → Nat} {v : Int32} : Apr n A w S D b (fun _ _ => False) D b v := fun t _ => ⟨Or.inl ⟨rfl, rfl⟩, fun s _ h => h.elim⟩
theorem Apr_sub {n : Nat} {A : Nat → Nat → Prop} {w : Nat → Nat → Int} {S D : Nat → Int} {b : Nat → Nat} {P P' : Nat → Nat → Prop} {D' : Nat → Int} {b' : Nat → Nat} {v : Int32} (h : Apr n A w S D b P D' b' v) (hp : ∀ s t, s < n → t < n → P' s t → A s t → S s ≠ FAR → P s t ∨ D' t ≤ S s + w s t) : Apr n A w S D b P' D' b' v := fun t ht => ⟨(h t ht).1, fun s hs hP hA hS => by
  rcases hp s t hs ht hP hA hS with e | e
  · exact (h t ht).2 s hs e hA hS
  · exact e⟩
def zup (D : Nat → Int) (k : Nat) (x : Int) : Nat → Int := fun j => if j = k then x else D j
theorem zup_eq {D : Nat → Int} {k : Nat} {x : Int} : zup D k x k = x := by unfold zup; rw [if_pos rfl]
theorem zup_ne {D : Nat → Int} {k j : Nat} {x : Int} (h : j ≠ k) : zup D k x j = D j := by unfold zup; rw [if_neg h]
theorem Apr_up {n : Nat} {A : Nat → Nat → Prop} {w : Nat → Nat → Int} {S D : Nat → Int} {b : Nat → Nat} {P P' : Nat → Nat → Prop} {D' : Nat → Int} {b' : Nat → Nat} {v : Int32} (h : Apr n A w S D b P D' b' v) {s0 t0 : Nat} (hs : s0 < n) (ht : t0 < n) (hA : A s0 t0) (hS : S s0 ≠ FAR) (hlt : S s0 + w s0 t0 < D' t0) (hp : ∀ s t, s < n → t < n → P' s t → P s t ∨ (s = s0 ∧ t = t0)) : Apr n A w S D b P' (zup D' t0 (S s0 + w s0 t0)) (cup b' t0 (s0 + 1)) 1 := fun t htn => by
  have hh := h t htn
  by_cases e : t = t0
  · subst e
    rw [zup_eq, cup_eq]
    refine ⟨Or.inr ⟨rfl, s0, hs, hA, hS, rfl, ?_, rfl⟩, fun s hsn hP hA' hS' => ?_⟩
    · rcases hh.1 with q | ⟨_, s, _, _, _, _, q, _⟩
      · omega
      · omega
    · rcases hp s t hsn htn hP with q | q
      · have := hh.2 s hsn q hA' hS'
        omega
      · rw [q.1]; exact Int.le_refl _
  · rw [zup_ne e, cup_ne e]
    refine ⟨?_, fun s hsn hP hA' hS' => ?_⟩
    · rcases hh.1 with q | ⟨_, q⟩
      · exact Or.inl q
      · exact Or.inr ⟨rfl, q⟩
    · rcases hp s t hsn htn hP with q | q
      · exact hh.2 s hsn q hA' hS'
      · exact absurd q.2 e
theorem Apr_same {n : Nat} {A : Nat → Nat → Prop} {w : Nat → Nat → Int} {S D : Nat → Int} {b : Nat → Nat} {P : Nat → Nat → Prop} {D' : Nat → Int} {b' : Nat → Nat} (h : Apr n A w S D b P D' b' 0) (t : Nat) (ht : t < n) : D' t = D t ∧ b' t = b t := by
  rcases (h t ht).1 with q | q
  · exact q
  · exact absurd q.1 (by decide)
/-- the costs and prices that a search rests on -/
def Rp (n M : Nat) (A : Nat → Nat → Prop) (dd f : Nat → Nat → Nat) (u v : Nat → Int) : Prop := ∀ i j, i < n → j < n → dd i j ≤ M ∧ (A i j → 0 ≤ (dd i j : Int) + u i - v j ∧ (0 < f i j → (dd i j : Int) + u i - v j = 0))
theorem ph : ∀ (n : Nat) (L : List Nat), L.Nodup → (∀ x, x ∈ L → x < n) → L.length ≤ n
  | 0, L, _, h => by
    cases L with
    | nil => exact Nat.le_refl _
    | cons a t => have := h a (List.mem_cons_self ..); omega
  | n + 1, L, hn, h => by
    by_cases e : n ∈ L
    · have h1 := ph n (L.erase n) (hn.erase n) (fun x hx => by
        have hx2 := (List.Nodup.mem_erase_iff hn).mp hx
        have := h x hx2.2
        have := hx2.1
        omega)
      rw [List.length_erase_of_mem e] at h1
      omega
    · have h1 := ph n L hn (fun x hx => by
        have := h x hx
        have : x ≠ n := fun q => e (q ▸ hx)
        omega)
      omega
def Bd (n : Nat) (K l : Int) (u R : Nat → Int) : Prop := ∀ i, i < n → R i ≠ FAR → -K ≤ R i ∧ R i ≤ K ∧ l ≤ R i - u i
def TwR (n : Nat) (A : Nat → Nat → Prop) (dd f : Nat → Nat → Nat) (s : Nat) (R C : Nat → Int) (cb r c : Nat → Nat) : Prop := ∀ i, i < n → R i ≠ FAR → i ≠ s → ∃ j, j < n ∧ cb i = j + 1 ∧ A i j ∧ 0 < f i j ∧ C j ≠ FAR ∧ C j - (dd i j : Int) ≤ R i ∧ (C j - (dd i j : Int) = R i → c j ≤ r i)
def TwC (n : Nat) (A : Nat → Nat → Prop) (dd : Nat → Nat → Nat) (R C : Nat → Int) (rb r c : Nat → Nat) : Prop := ∀ j, j < n → C j ≠ FAR → ∃ i, i < n ∧ rb j = i + 1 ∧ A i j ∧ R i ≠ FAR ∧ R i + (dd i j : Int) ≤ C j ∧ (R i + (dd i j : Int) = C j → r i < c j)
def StC (n : Nat) (A : Nat → Nat → Prop) (dd : Nat → Nat → Nat) (R C : Nat → Int) (r : Nat → Nat) (k : Nat) : Prop := ∀ i j, i < n → j < n → A i j → R i ≠ FAR → r i < k → C j ≤ R i + (dd i j : Int)
def StR (n : Nat) (A : Nat → Nat → Prop) (dd f : Nat → Nat → Nat) (R C : Nat → Int) (c : Nat → Nat) (k : Nat) : Prop := ∀ i j, i < n → j < n → A i j → 0 < f i j → C j ≠ FAR → c j ≤ k → R i ≤ C j - (dd i j : Int)
def Chn (n m : Nat) (u R : Nat → Int) (x : Int) : Prop := ∃ L : List Nat, L.Nodup ∧ L.length = m ∧ ∀ y, y ∈ L → y < n ∧ R y ≠ FAR ∧ R y - u y ≤ x
/-- after k rounds -/
def FPI (n : Nat) (A : Nat → Nat → Prop) (dd f : Nat → Nat → Nat) (u v : Nat → Int) (s k : Nat) (K : Int) (R C : Nat → Int) (cb rb r c : Nat → Nat) : Prop := (R s = 0 ∧ cb s = 0) ∧ (Bd n K (-u s) u R ∧ Bd n K (-u s) v C) ∧ ((∀ i, i < n → r i ≤ k) ∧ ∀ j, j < n → c j ≤ k) ∧ TwR n A dd f s R C cb r c ∧ TwC n A dd R C rb r c ∧ StC n A dd R C r k ∧ StR n A dd f R C c k ∧ ∀ i, i < n → R i ≠ FAR → r i = k → Chn n (k + 1) u R (R i - u i)
/-- in the middle of round k + 1 -/
def FPM (n : Nat) (A : Nat → Nat → Prop) (dd f : Nat → Nat → Nat) (u v : Nat → Int) (s k : Nat) (K : Int) (R C : Nat → Int) (cb rb r c : Nat → Nat) : Prop := (R s = 0 ∧ cb s = 0) ∧ (Bd n K (-u s) u R ∧ Bd n K (-u s) v C) ∧ ((∀ i, i < n → r i ≤ k) ∧ ∀ j, j < n → c j ≤ k + 1) ∧ TwR n A dd f s R C cb r c ∧ TwC n A dd R C rb r c ∧ StC n A dd R C r (k + 1) ∧ StR n A dd f R C c k ∧ ∀ j, j < n → C j ≠ FAR → c j = k + 1 → Chn n (k + 1) u R (C j - v j)
/-- at rest -/
def FPF (n : Nat) (A : Nat → Nat → Prop) (dd f : Nat → Nat → Nat) (u v : Nat → Int) (s : Nat) (K : Int) (R C : Nat → Int) (cb rb r c : Nat → Nat) : Prop := (R s = 0 ∧ cb s = 0) ∧ (Bd n K (-u s) u R ∧ Bd n K (-u s) v C) ∧ (∀ i, i < n → R i ≠ FAR → r i < n) ∧ TwR n A dd f s R C cb r c ∧ TwC n A dd R C rb r c ∧ (∀ i j, i < n → j < n → A i j → R i ≠ FAR → C j ≤ R i + (dd i j : Int)) ∧ ∀ i j, i < n → j < n → A i j → 0 < f i j → C j ≠ FAR → R i ≤ C j - (dd i j : Int)
theorem Bd_le {n : Nat} {K K' l : Int} {u R : Nat → Int} (h : Bd n K l u R) (hk : K ≤ K') : Bd n K' l u R := fun i hi hR => by
  have := h i hi hR
  omega
section ways
variable {n M : Nat} {A : Nat → Nat → Prop} {dd f : Nat → Nat → Nat} {u v : Nat → Int} {s k : Nat} {K : Int} {R C R' C' : Nat → Int} {cb rb r c cb' rb' : Nat → Nat} {w : Int32}
theorem fp_col (hr : Rp n M A dd f u v) (hK : 0 ≤ K ∧ K + M < FAR) (h : FPI n A dd f u v s k K R C cb rb r c) (ha : Apr n A (fun i j => (dd i j : Int)) R C rb (fun _ _ => True) C' rb' w) : ∃ c', FPM n A dd f u v s k (K + M) R C' cb rb' r c' := by
  obtain ⟨h1, ⟨h2, h3⟩, ⟨h4, h5⟩, h6, h7, h8, h9, h10⟩ := h
  have le : ∀ j, j < n → C' j ≤ C j := fun j hj => by
    rcases (ha j hj).1 with q | ⟨_, i, _, _, _, _, q, _⟩
    · omega
    · omega
  refine ⟨fun j => if C' j = C j then c j else k + 1, h1, ⟨Bd_le h2 (by omega), fun j hj hC => ?_⟩, ⟨h4, fun j hj => ?_⟩, fun i hi hR his => ?_, fun j hj hC => ?_, fun i j hi hj hA hR _ => (ha j hj).2 i hi trivial hA hR, fun i j hi hj hA hf hC hc => ?_, fun j hj hC hc => ?_⟩
  · rcases (ha j hj).1 with q | ⟨_, i, hi, hA, hR, e, _, _⟩
    · rw [q.1] at hC ⊢
      have := h3 j hj hC
      omega
    · have b := h2 i hi hR
      have d := hr i j hi hj
      have d2 := (d.2 hA).1
      have d1 := d.1
      rw [e]
      dsimp only
      omega
  · have := h5 j hj
    dsimp only
    by_cases e : C' j = C j
    · rw [if_pos e]; omega
    · rw [if_neg e]; omega
  · obtain ⟨j, hj, e, hA, hf, hC, hl, hq⟩ := h6 i hi hR his
    have := le j hj
    have hb := h3 j hj hC
    refine ⟨j, hj, e, hA, hf, by omega, by omega, fun z => ?_⟩
    dsimp only
    rw [if_pos (by omega)]
    exact hq (by omega)
  · rcases (ha j hj).1 with q | ⟨_, i, hi, hA, hR, e, hlt, eb⟩
    · rw [q.1] at hC
      obtain ⟨i, hi, e, hA, hR, hl, hq⟩ := h7 j hj hC
      refine ⟨i, hi, by rw [q.2]; exact e, hA, hR, by rw [q.1]; exact hl, fun z => ?_⟩
      dsimp only
      rw [if_pos q.1]
      exact hq (by rw [← q.1]; exact z)
    · refine ⟨i, hi, eb, hA, hR, by rw [e]; exact Int.le_refl _, fun _ => ?_⟩
      dsimp only
      rw [if_neg (by omega)]
      have := h4 i hi
      omega
  · dsimp only at hc
    by_cases e : C' j = C j
    · rw [if_pos e] at hc
      rw [e] at hC ⊢
      exact h9 i j hi hj hA hf hC hc
    · rw [if_neg e] at hc
      omega
  · dsimp only at hc
    by_cases e : C' j = C j
    · rw [if_pos e] at hc
      have := h5 j hj
      omega
    · rcases (ha j hj).1 with q | ⟨_, i, hi, hA, hR, e1, hlt, eb⟩
      · exact absurd q.1 e
      · have hrk : r i = k := by
          have := h4 i hi
          by_cases z : r i < k
          · have := h8 i j hi hj hA hR z
            dsimp only at e1
            omega
          · omega
        obtain ⟨L, l1, l2, l3⟩ := h10 i hi hR hrk
        have d2 := ((hr i j hi hj).2 hA).1
        refine ⟨L, l1, l2, fun y hy => ?_⟩
        have := l3 y hy
        dsimp only at e1
        exact ⟨this.1, this.2.1, by omega⟩
theorem fp_row (hs : s < n) (hr : Rp n M A dd f u v) (hK : 0 ≤ K ∧ K + M < FAR) (h : FPM n A dd f u v s k K R C cb rb r c) (ha : Apr n (fun j i => A i j ∧ 0 < f i j) (fun j i => -(dd i j : Int)) C R cb (fun _ _ => True) R' cb' w) : ∃ r', FPI n A dd f u v s (k + 1) (K + M) R' C cb' rb r' c := by
  obtain ⟨h1, ⟨h2, h3⟩, ⟨h4, h5⟩, h6, h7, h8, h9, h10⟩ := h
  have le : ∀ i, i < n → R' i ≤ R i := fun i hi => by
    rcases (ha i hi).1 with q | ⟨_, j, _, _, _, _, q, _⟩
    · omega
    · omega
  have bd : ∀ i, i < n → R' i ≠ FAR → -(K + M) ≤ R' i ∧ R' i ≤ K + M ∧ -u s ≤ R' i - u i := fun i hi hR => by
    rcases (ha i hi).1 with q | ⟨_, j, hj, hA, hC, e, _, _⟩
    · rw [q.1] at hR ⊢
      have := h2 i hi hR
      omega
    · have b := h3 j hj hC
      have d := hr i j hi hj
      have d2 := (d.2 hA.1).2 hA.2
      have d1 := d.1
      dsimp only at e
      rw [e]
      omega
  have s0 : R' s = R s ∧ cb' s = cb s := by
    rcases (ha s hs).1 with q | ⟨_, j, hj, hA, hC, e, hlt, _⟩
    · exact q
    · have b3 := h3 j hj hC
      have d := hr s j hs hj
      have d2 := (d.2 hA.1).2 hA.2
      dsimp only at e
      have := h1.1
      omega
  refine ⟨fun i => if R' i = R i then r i else k + 1, ⟨by rw [s0.1]; exact h1.1, by rw [s0.2]; exact h1.2⟩, ⟨bd, Bd_le h3 (by omega)⟩, ⟨fun i hi => ?_, h5⟩, fun i hi hR his => ?_, fun j hj hC => ?_, fun i j hi hj hA hR hk => ?_, fun i j hi hj hA hf hC _ => ?_, fun i hi hR hk => ?_⟩
  · have := h4 i hi
    dsimp only
    by_cases e : R' i = R i
    · rw [if_pos e]; omega
    · rw [if_neg e]; omega
  · rcases (ha i hi).1 with q | ⟨_, j, hj, hA, hC, e, hlt, eb⟩
    · rw [q.1] at hR
      obtain ⟨j, hj, e, hA, hf, hC, hl, hq⟩ := h6 i hi hR his
      refine ⟨j, hj, by rw [q.2]; exact e, hA, hf, hC, by rw [q.1]; exact hl, fun z => ?_⟩
      dsimp only
      rw [if_pos q.1]
      exact hq (by rw [← q.1]; exact z)
    · dsimp only at e
      refine ⟨j, hj, eb, hA.1, hA.2, hC, by omega, fun _ => ?_⟩
      dsimp only
      rw [if_neg (by omega)]
      exact h5 j hj
  · obtain ⟨i, hi, e, hA, hR, hl, hq⟩ := h7 j hj hC
    have := le i hi
    have hb := h2 i hi hR
    refine ⟨i, hi, e, hA, by omega, by omega, fun z => ?_⟩
    dsimp only
    rw [if_pos (by omega)]
    exact hq (by omega)
  · dsimp only at hk
    by_cases e : R' i = R i
    · rw [if_pos e] at hk
      rw [e] at hR ⊢
      exact h8 i j hi hj hA hR hk
    · rw [if_neg e] at hk
      omega
  · have := (ha i hi).2 j hj trivial ⟨hA, hf⟩ hC
    dsimp only at this
    omega
  · dsimp only at hk
    by_cases e : R' i = R i
    · rw [if_pos e] at hk
      have := h4 i hi
      omega
    · rcases (ha i hi).1 with q | ⟨_, j, hj, hA, hC, e1, hlt, eb⟩
      · exact absurd q.1 e
      · dsimp only at e1
        have hck : c j = k + 1 := by
          have := h5 j hj
          by_cases z : c j ≤ k
          · have := h9 i j hi hj hA.1 hA.2 hC z
            omega
          · omega
        obtain ⟨L, l1, l2, l3⟩ := h10 j hj hC hck
        have d2 := ((hr i j hi hj).2 hA.1).2 hA.2
        refine ⟨i :: L, List.nodup_cons.mpr ⟨fun z => ?_, l1⟩, by rw [List.length_cons, l2], fun y hy => ?_⟩
        · have := l3 i z
          omega
        · rcases List.mem_cons.mp hy with rfl | hy
          · exact ⟨hi, hR, Int.le_refl _⟩
          · have l := l3 y hy
            have hb := h2 y l.1 l.2.1
            have := le y l.1
            exact ⟨l.1, by omega, by omega⟩
/-- no column came nearer -/
theorem fp_end1 (hk : k < n) (h : FPI n A dd f u v s k K R C cb rb r c) (ha : ∀ i j, i < n → j < n → A i j → R i ≠ FAR → C j ≤ R i + (dd i j : Int)) : FPF n A dd f u v s K R C cb rb r c := by
  obtain ⟨h1, h23, ⟨h4, h5⟩, h6, h7, h8, h9, h10⟩ := h
  exact ⟨h1, h23, fun i hi _ => by have := h4 i hi; omega, h6, h7, ha, fun i j hi hj hA hf hC => h9 i j hi hj hA hf hC (h5 j hj)⟩
/-- no row came nearer -/
theorem fp_end2 (hk : k < n) (h : FPM n A dd f u v s k K R C cb rb r c) (ha : ∀ i j, i < n → j < n → A i j → 0 < f i j → C j ≠ FAR → R i ≤ C j - (dd i j : Int)) : FPF n A dd f u v s K R C cb rb r c := by
  obtain ⟨h1, h23, ⟨h4, h5⟩, h6, h7, h8, h9, h10⟩ := h
  exact ⟨h1, h23, fun i hi _ => by have := h4 i hi; omega, h6, h7, fun i j hi hj hA hR => h8 i j hi hj hA hR (by have := h4 i hi; omega), ha⟩
/-- n rounds are enough -/
theorem fp_end3 (h : FPI n A dd f u v s n K R C cb rb r c) : FPF n A dd f u v s K R C cb rb r c := by
  obtain ⟨h1, h23, ⟨h4, h5⟩, h6, h7, h8, h9, h10⟩ := h
  have hlt : ∀ i, i < n → R i ≠ FAR → r i < n := fun i hi hR => by
    have := h4 i hi
    by_cases e : r i = n
    · obtain ⟨L, l1, l2, l3⟩ := h10 i hi hR e
      have := ph n L l1 (fun x hx => (l3 x hx).1)
      omega
    · omega
  exact ⟨h1, h23, hlt, h6, h7, fun i j hi hj hA hR => h8 i j hi hj hA hR (hlt i hi hR), fun i j hi hj hA hf hC => h9 i j hi hj hA hf hC (h5 j hj)⟩
/-- at the start -/
theorem fp_start (hs : s < n) (hK : 0 ≤ K) (hR : ∀ i, i < n → R i = if i = s then 0 else FAR) (hC : ∀ j, j < n → C j = FAR) (hb : cb s = 0) : FPI n A dd f u v s 0 K R C cb rb (fun _ => 0) (fun _ => 0) := by
  have hRs : ∀ i, i < n → R i ≠ FAR → i = s ∧ R i = 0 := fun i hi h => by
    by_cases e : i = s
    · have := hR i hi
      rw [if_pos e] at this
      exact ⟨e, this⟩
    · have := hR i hi
      rw [if_neg e] at this
      exact absurd this h
  have e0 : R s = 0 := by have := hR s hs; rw [if_pos rfl] at this; exact this
  refine ⟨⟨e0, hb⟩, ⟨fun i hi h => ?_, fun j hj h => absurd (hC j hj) h⟩, ⟨fun _ _ => Nat.le_refl _, fun _ _ => Nat.le_refl _⟩, fun i hi h his => absurd (hRs i hi h).1 his, fun j hj h => absurd (hC j hj) h, fun i j _ _ _ _ h => absurd h (Nat.not_lt_zero _), fun i j hi hj _ _ h => absurd (hC j hj) h, fun i hi h _ => ?_⟩
  · obtain ⟨rfl, e⟩ := hRs i hi h
    rw [e]
    omega
  · obtain ⟨rfl, e⟩ := hRs i hi h
    refine ⟨[i], List.nodup_cons.mpr ⟨List.not_mem_nil, List.nodup_nil⟩, rfl, fun y hy => ?_⟩
    rw [List.mem_singleton.mp hy]
    exact ⟨hi, h, Int.le_refl _⟩
end ways

/-! CHAINS -/
/-- a chain's cells -/
def CE (E : aE) (a : Nat) : Prop := aO E a 1 ∧ E.2.2 a 4 = a + 1 ∧ E.2.2 a 5 = a + 2 ∧ aA E (a + 1) 1 6 ∧ aA E (a + 2) 1 36
theorem CE_r4 {E : aE} {a : Nat} (h : CE E a) : aO E a 1 ∧ E.2.2 a 4 ≠ 0 := ⟨h.1, by rw [h.2.1]; omega⟩
theorem CE_r5 {E : aE} {a : Nat} (h : CE E a) : aO E a 1 ∧ E.2.2 a 5 ≠ 0 := ⟨h.1, by rw [h.2.2.1]; omega⟩
theorem CE_a4 {E : aE} {a : Nat} {i : Int32} (h : CE E a) (hi : vp_in i 6) : aAr E 1 (E.2.2 a 4) i := by rw [h.2.1]; exact aA_in h.2.2.2.1 hi
theorem CE_a5 {E : aE} {a : Nat} {i : Int32} (h : CE E a) (hi : vp_in i 36) : aAr E 1 (E.2.2 a 5) i := by rw [h.2.2.1]; exact aA_in h.2.2.2.2 hi
theorem CE_q4 {E : aE} {a : Nat} (h : CE E a) : aA E (E.2.2 a 4) 1 6 := by rw [h.2.1]; exact h.2.2.2.1
theorem CE_q5 {E : aE} {a : Nat} (h : CE E a) : aA E (E.2.2 a 5) 1 36 := by rw [h.2.2.1]; exact h.2.2.2.2
/-- the chain c (46 numbers: states, resolution, discount, labels, weights) stands at a -/
def Ch (I : aI) (a : Nat) (c : Nat → Nat) : Prop := (∀ k, k < 4 → I a k = nI (c k)) ∧ (∀ s, s < 6 → I (a + 1) s = nI (c (4 + s))) ∧ ∀ k, k < 36 → I (a + 2) k = nI (c (10 + k))
theorem Ch_eq {I I' : aI} {a : Nat} {c : Nat → Nat} (h : Ch I a c) (h0 : I' a = I a) (h1 : I' (a + 1) = I (a + 1)) (h2 : I' (a + 2) = I (a + 2)) : Ch I' a c := ⟨fun k hk => by rw [h0]; exact h.1 k hk, fun k hk => by rw [h1]; exact h.2.1 k hk, fun k hk => by rw [h2]; exact h.2.2 k hk⟩
theorem aUp_eq {I : aI} {a k : Nat} {v : Int32} : aUp I a k v a k = v := by unfold aUp; rw [if_pos ⟨rfl, rfl⟩]
theorem aUp_nk {I : aI} {a k b j : Nat} {v : Int32} (h : j ≠ k) : aUp I a k v b j = I b j := by unfold aUp; rw [if_neg (fun q => h q.2)]
theorem s_has (d : Nat) (E : aE) (I : aI) (J : aJ) (a : Nat) (x : Int32) (hC : aO E a 1) : Sp m_X1_has (d + 1) [.ref a, .int x] E I J (fun r I' J' => r = some (.int (zb (0 ≤ x ∧ x < I a 0))) ∧ I' = I ∧ J' = J) := by
  refine Sp.of (lo := [some (.ref a), some (.int x)]) rfl (fun Q hQ => ?_)
  refine Ez.blk B_X1_has_0 (lo' := [some (.ref a), some (.int x)]) (st' := [.int x]) (I' := I) (J' := J) (Ps := []) rfl trivial ?_
  refine Ez.if_lt (off := 15) (tgt := 16) (by decide +kernel) (by decide) (fun h1 => ?_) (fun h1 => ?_)
  · refine Ez.blk B_X1_has_16 (lo' := [some (.ref a), some (.int x)]) (st' := [.int 0]) (I' := I) (J' := J) (Ps := []) rfl trivial ?_
    exact Ez.zret rfl (Or.inl rfl) (by decide +kernel) (hQ _ _ _ ⟨by rw [zb_f (fun q => i32_nlt.mpr q.1 h1)], rfl, rfl⟩)
  · refine Ez.blk B_X1_has_4 (lo' := [some (.ref a), some (.int x)]) (st' := [.int (I a 0), .int x]) (I' := I) (J' := J) (Ps := [aO E a 1]) rfl hC ?_
    refine Ez.icmp_ge (off := 7) (tgt := 16) (by decide +kernel) (by decide) (fun h2 => ?_) (fun h2 => ?_)
    · refine Ez.blk B_X1_has_16 (lo' := [some (.ref a), some (.int x)]) (st' := [.int 0]) (I' := I) (J' := J) (Ps := []) rfl trivial ?_
      exact Ez.zret rfl (Or.inl rfl) (by decide +kernel) (hQ _ _ _ ⟨by rw [zb_f (fun q => i32_nlt.mpr h2 q.2)], rfl, rfl⟩)
    · refine Ez.blk B_X1_has_12 (lo' := [some (.ref a), some (.int x)]) (st' := [.int 1]) (I' := I) (J' := J) (Ps := []) rfl trivial ?_
      exact Ez.zret rfl (Or.inr rfl) (by decide +kernel) (hQ _ _ _ ⟨by rw [zb_t ⟨i32_nlt.mp h1, Classical.not_not.mp (fun q => h2 (i32_nlt.mp q))⟩], rfl, rfl⟩)
set_option maxRecDepth 4000 in
theorem s_start (d : Nat) (E : aE) (I : aI) (J : aJ) (a nn D : Nat) (hC : CE E a) (hn : nn ≤ 6) : Sp m_X1_start (d + 1) [.ref a, .int (nI nn), .int (nI D)] E I J (fun r I' J' => r = none ∧ J' = J ∧ (I' a 0 = nI nn ∧ I' a 1 = nI D ∧ ∀ k, k ≠ 0 → k ≠ 1 → I' a k = I a k) ∧ (∀ s, s < 6 → I' (a + 1) s = 0) ∧ (∀ k, k < 36 → I' (a + 2) k = if k % 7 = 0 ∧ k / 7 < nn then nI D else 0) ∧ ∀ b, b ≠ a → b ≠ a + 1 → b ≠ a + 2 → I' b = I b) := by
  refine Sp.of (lo := [some (.ref a), some (.int (nI nn)), some (.int (nI D)), none]) rfl (fun Q hQ => ?_)
  obtain ⟨I0, hI0⟩ : ∃ I0, I0 = aUp (aUp I a 0 (nI nn)) a 1 (nI D) := ⟨_, rfl⟩
  have L3 : ∀ k, k ≤ nn → ∀ (I1 : aI), ((I1 a = I0 a ∧ (∀ b, b ≠ a → b ≠ a + 1 → b ≠ a + 2 → I1 b = I0 b)) ∧ (∀ s, s < 6 → I1 (a + 1) s = 0) ∧ ∀ j, j < 36 → I1 (a + 2) j = if j % 7 = 0 ∧ j / 7 < k then nI D else 0) → Ez m_X1_start (d + 1) 54 [some (.ref a), some (.int (nI nn)), some (.int (nI D)), some (.int (nI k))] [] E I1 J Q := by
    refine for_up ?_ ?_
    · intro I1 hi
      obtain ⟨⟨i1, i2⟩, i3, i4⟩ := hi
      refine Ez.blk B_X1_start_54 (lo' := [some (.ref a), some (.int (nI nn)), some (.int (nI D)), some (.int (nI nn))]) (st' := [.int (nI nn), .int (nI nn)]) (I' := I1) (J' := J) (Ps := []) rfl trivial ?_
      refine Ez.n_icmp_ge (off := 21) (tgt := 77) (by decide +kernel) (by decide) (a := nn) (b := nn) rfl rfl (by omega) (by omega) (fun h => ?_) (fun h => absurd h (by omega))
      exact Ez.vret rfl (by decide +kernel) (hQ _ _ _ ⟨rfl, rfl, ⟨by rw [i1, hI0, aUp_nk (by decide), aUp_eq], by rw [i1, hI0, aUp_eq], fun j h0 h1 => by rw [i1, hI0, aUp_nk h1, aUp_nk h0]⟩, i3, i4, fun b h0 h1 h2 => by rw [i2 b h0 h1 h2, hI0, aUp_ne h0, aUp_ne h0]⟩)
    · intro k hk ih I1 hi
      obtain ⟨⟨i1, i2⟩, i3, i4⟩ := hi
      refine Ez.blk B_X1_start_54 (lo' := [some (.ref a), some (.int (nI nn)), some (.int (nI D)), some (.int (nI k))]) (st' := [.int (nI nn), .int (nI k)]) (I' := I1) (J' := J) (Ps := []) rfl trivial ?_
      refine Ez.n_icmp_ge (off := 21) (tgt := 77) (by decide +kernel) (by decide) (a := k) (b := nn) rfl rfl (by omega) (by omega) (fun h => absurd h (by omega)) (fun h => ?_)
      refine Ez.blk B_X1_start_59 (lo' := [some (.ref a), some (.int (nI nn)), some (.int (nI D)), some (.int (nI k + 1))]) (st' := []) (I' := (aUp I1 (E.2.2 a 5) (((nI k * 6) + nI k).toNatClampNeg) (nI D))) (J' := J) (Ps := [aO E a 1 ∧ E.2.2 a 5 ≠ 0, aAr E 1 (E.2.2 a 5) ((nI k * 6) + nI k)]) rfl ⟨(CE_r5 hC), (CE_a5 hC (vin (n := (k * 6 + k)) (eq_add (a := (k * 6)) (b := k) (eq_mul (a := k) (b := 6) rfl rfl) rfl) (by omega) (by decide)))⟩ ?_
      rw [cln (x := ((nI k * 6) + nI k)) (n := (k * 6 + k)) (eq_add (a := (k * 6)) (b := k) (eq_mul (a := k) (b := 6) rfl rfl) rfl) (by omega)]
      rw [show (nI k + 1) = nI (k + 1) from (eq_add (a := k) (b := 1) rfl rfl)]
      rw [hC.2.2.1]
      refine ih _ ⟨⟨by rw [aUp_ne (by omega)]; exact i1, fun b h0 h1 h2 => by rw [aUp_ne h2]; exact i2 b h0 h1 h2⟩, fun s hs => by rw [aUp_ne (by omega)]; exact i3 s hs, fun j hj => ?_⟩
      unfold aUp
      by_cases e : j = k * 6 + k
      · rw [if_pos ⟨rfl, e⟩, if_pos (by omega)]
      · rw [if_neg (fun q => e q.2), i4 j hj]
        by_cases e2 : j % 7 = 0 ∧ j / 7 < k
        · rw [if_pos e2, if_pos (by omega)]
        · rw [if_neg e2, if_neg (by omega)]
  have L2 : ∀ k, k ≤ 36 → ∀ (I1 : aI), ((I1 a = I0 a ∧ (∀ b, b ≠ a → b ≠ a + 1 → b ≠ a + 2 → I1 b = I0 b)) ∧ (∀ s, s < 6 → I1 (a + 1) s = 0) ∧ ∀ j, j < k → I1 (a + 2) j = 0) → Ez m_X1_start (d + 1) 33 [some (.ref a), some (.int (nI nn)), some (.int (nI D)), some (.int (nI k))] [] E I1 J Q := by
    refine for_up ?_ ?_
    · intro I1 hi
      obtain ⟨⟨i1, i2⟩, i3, i4⟩ := hi
      refine Ez.blk B_X1_start_33 (lo' := [some (.ref a), some (.int (nI nn)), some (.int (nI D)), some (.int (nI 36))]) (st' := [.int 36, .int (nI 36)]) (I' := I1) (J' := J) (Ps := []) rfl trivial ?_
      refine Ez.n_icmp_ge (off := 16) (tgt := 52) (by decide +kernel) (by decide) (a := 36) (b := 36) rfl rfl (by omega) (by omega) (fun h => ?_) (fun h => absurd h (by omega))
      refine Ez.blk B_X1_start_52 (lo' := [some (.ref a), some (.int (nI nn)), some (.int (nI D)), some (.int 0)]) (st' := []) (I' := I1) (J' := J) (Ps := []) rfl trivial ?_
      exact L3 0 (by omega) I1 ⟨⟨i1, i2⟩, i3, fun j hj => by rw [if_neg (by omega)]; exact i4 j hj⟩
    · intro k hk ih I1 hi
      obtain ⟨⟨i1, i2⟩, i3, i4⟩ := hi
      refine Ez.blk B_X1_start_33 (lo' := [some (.ref a), some (.int (nI nn)), some (.int (nI D)), some (.int (nI k))]) (st' := [.int 36, .int (nI k)]) (I' := I1) (J' := J) (Ps := []) rfl trivial ?_
      refine Ez.n_icmp_ge (off := 16) (tgt := 52) (by decide +kernel) (by decide) (a := k) (b := 36) rfl rfl (by omega) (by omega) (fun h => absurd h (by omega)) (fun h => ?_)
      refine Ez.blk B_X1_start_39 (lo' := [some (.ref a), some (.int (nI nn)), some (.int (nI D)), some (.int (nI k + 1))]) (st' := []) (I' := (aUp I1 (E.2.2 a 5) ((nI k).toNatClampNeg) 0)) (J' := J) (Ps := [aO E a 1 ∧ E.2.2 a 5 ≠ 0, aAr E 1 (E.2.2 a 5) (nI k)]) rfl ⟨(CE_r5 hC), (CE_a5 hC (vin (n := k) rfl (by omega) (by decide)))⟩ ?_
      rw [cln (x := nI k) (n := k) rfl (by omega)]
      rw [show (nI k + 1) = nI (k + 1) from (eq_add (a := k) (b := 1) rfl rfl)]
      rw [hC.2.2.1]
      refine ih _ ⟨⟨by rw [aUp_ne (by omega)]; exact i1, fun b h0 h1 h2 => by rw [aUp_ne h2]; exact i2 b h0 h1 h2⟩, fun s hs => by rw [aUp_ne (by omega)]; exact i3 s hs, fun j hj => ?_⟩
      by_cases e : j = k
      · rw [e, aUp_eq]
      · rw [aUp_nk e]; exact i4 j (by omega)
  have L1 : ∀ k, k ≤ 6 → ∀ (I1 : aI), ((I1 a = I0 a ∧ (∀ b, b ≠ a → b ≠ a + 1 → b ≠ a + 2 → I1 b = I0 b)) ∧ ∀ s, s < k → I1 (a + 1) s = 0) → Ez m_X1_start (d + 1) 12 [some (.ref a), some (.int (nI nn)), some (.int (nI D)), some (.int (nI k))] [] E I1 J Q := by
    refine for_up ?_ ?_
    · intro I1 hi
      obtain ⟨⟨i1, i2⟩, i3⟩ := hi
      refine Ez.blk B_X1_start_12 (lo' := [some (.ref a), some (.int (nI nn)), some (.int (nI D)), some (.int (nI 6))]) (st' := [.int 6, .int (nI 6)]) (I' := I1) (J' := J) (Ps := []) rfl trivial ?_
      refine Ez.n_icmp_ge (off := 16) (tgt := 31) (by decide +kernel) (by decide) (a := 6) (b := 6) rfl rfl (by omega) (by omega) (fun h => ?_) (fun h => absurd h (by omega))
      refine Ez.blk B_X1_start_31 (lo' := [some (.ref a), some (.int (nI nn)), some (.int (nI D)), some (.int 0)]) (st' := []) (I' := I1) (J' := J) (Ps := []) rfl trivial ?_
      exact L2 0 (by omega) I1 ⟨⟨i1, i2⟩, i3, fun j hj => by omega⟩
    · intro k hk ih I1 hi
      obtain ⟨⟨i1, i2⟩, i3⟩ := hi
      refine Ez.blk B_X1_start_12 (lo' := [some (.ref a), some (.int (nI nn)), some (.int (nI D)), some (.int (nI k))]) (st' := [.int 6, .int (nI k)]) (I' := I1) (J' := J) (Ps := []) rfl trivial ?_
      refine Ez.n_icmp_ge (off := 16) (tgt := 31) (by decide +kernel) (by decide) (a := k) (b := 6) rfl rfl (by omega) (by omega) (fun h => absurd h (by omega)) (fun h => ?_)
      refine Ez.blk B_X1_start_18 (lo' := [some (.ref a), some (.int (nI nn)), some (.int (nI D)), some (.int (nI k + 1))]) (st' := []) (I' := (aUp I1 (E.2.2 a 4) ((nI k).toNatClampNeg) 0)) (J' := J) (Ps := [aO E a 1 ∧ E.2.2 a 4 ≠ 0, aAr E 1 (E.2.2 a 4) (nI k)]) rfl ⟨(CE_r4 hC), (CE_a4 hC (vin (n := k) rfl (by omega) (by decide)))⟩ ?_
      rw [cln (x := nI k) (n := k) rfl (by omega)]
      rw [show (nI k + 1) = nI (k + 1) from (eq_add (a := k) (b := 1) rfl rfl)]
      rw [hC.2.1]
      refine ih _ ⟨⟨by rw [aUp_ne (by omega)]; exact i1, fun b h0 h1 h2 => by rw [aUp_ne h1]; exact i2 b h0 h1 h2⟩, fun j hj => ?_⟩
      by_cases e : j = k
      · rw [e, aUp_eq]
      · rw [aUp_nk e]; exact i3 j (by omega)
  refine Ez.blk B_X1_start_0 (lo' := [some (.ref a), some (.int (nI nn)), some (.int (nI D)), some (.int 0)]) (st' := []) (I' := (aUp (aUp I a 0 (nI nn)) a 1 (nI D))) (J' := J) (Ps := [aO E a 1, aO E a 1]) rfl ⟨hC.1, hC.1⟩ ?_
  rw [← hI0]
  exact L1 0 (by omega) I0 ⟨⟨rfl, fun _ _ _ _ => rfl⟩, fun s hs => by omega⟩
def sm (f : Nat → Nat) : Nat → Nat
  | 0 => 0
  | n + 1 => sm f n + f n
theorem sm_mono {f : Nat → Nat} {a b : Nat} (h : a ≤ b) : sm f a ≤ sm f b := by
  induction b with
  | zero => rw [show a = 0 by omega]; exact Nat.le_refl _
  | succ b ih =>
    by_cases e : a = b + 1
    · rw [e]; exact Nat.le_refl _
    · exact Nat.le_trans (ih (by omega)) (Nat.le_add_right _ _)
theorem sm_le {f : Nat → Nat} {n j : Nat} (h : j < n) : f j ≤ sm f n := by
  have h1 : sm f (j + 1) ≤ sm f n := sm_mono h
  have h2 : sm f (j + 1) = sm f j + f j := rfl
  omega
theorem sm_ext {f g : Nat → Nat} {n : Nat} (h : ∀ j, j < n → f j = g j) : sm f n = sm g n := by
  induction n with
  | zero => rfl
  | succ n ih =>
    show sm f n + f n = sm g n + g n
    rw [ih (fun j hj => h j (by omega)), h n (by omega)]
/-- a chain as the document has it -/
def Wc (c : Nat → Nat) : Prop := (1 ≤ c 0 ∧ c 0 ≤ 6) ∧ (1 ≤ c 1 ∧ c 1 ≤ 12) ∧ (c 2 ≤ c 3 ∧ 1 ≤ c 3 ∧ c 3 ≤ 4) ∧ (∀ s, s < 6 → c (4 + s) ≤ 3) ∧ (∀ s, c 0 ≤ s → s < 6 → c (4 + s) = 0) ∧ (∀ i, i < c 0 → sm (fun j => c (10 + 6 * i + j)) (c 0) = c 1) ∧ ∀ i j, i < 6 → j < 6 → (c 0 ≤ i ∨ c 0 ≤ j) → c (10 + 6 * i + j) = 0
theorem Wc_w {c : Nat → Nat} (h : Wc c) (k : Nat) (hk : k < 36) : c (10 + k) ≤ 12 := by
  obtain ⟨h1, h2, h3, h4, h5, h6, h7⟩ := h
  have e : 10 + k = 10 + 6 * (k / 6) + k % 6 := by omega
  rw [e]
  by_cases h : c 0 ≤ k / 6 ∨ c 0 ≤ k % 6
  · rw [h7 _ _ (by omega) (by omega) h]; omega
  · have := sm_le (f := fun j => c (10 + 6 * (k / 6) + j)) (n := c 0) (j := k % 6) (by omega)
    have h8 := h6 (k / 6) (by omega)
    rw [h8] at this
    have this : c (10 + 6 * (k / 6) + k % 6) ≤ c 1 := this
    omega
theorem Wc_12 {c : Nat → Nat} (h : Wc c) (k : Nat) (hk : k < 46) : c k ≤ 12 := by
  have hw := Wc_w h
  obtain ⟨h1, h2, h3, h4, h5, h6, h7⟩ := h
  by_cases h10 : 10 ≤ k
  · have := hw (k - 10) (by omega)
    rw [show 10 + (k - 10) = k by omega] at this
    exact this
  · by_cases h4' : 4 ≤ k
    · have := h4 (k - 4) (by omega)
      rw [show 4 + (k - 4) = k by omega] at this
      omega
    · rcases (show k = 0 ∨ k = 1 ∨ k = 2 ∨ k = 3 by omega) with rfl | rfl | rfl | rfl <;> omega
theorem sub_ge {a b : Nat} (ha : a < 1073741824) (hb : b < 1073741824) : (0 : Int32) ≤ nI a - nI b ↔ b ≤ a := by
  rw [Int32.le_iff_toInt_le, pk_sub_toInt ha hb]
  show (0 : Int) ≤ _ ↔ _
  omega
theorem cp0 {α : Type} {f g : Nat → α} {n j : Nat} (h : j < n) : va_cpy f g 0 0 n j = f j := by
  rw [pk_cpy_in (Nat.zero_le _) (by omega)]
  congr 1
  omega
theorem s_copyFrom (d : Nat) (E : aE) (I : aI) (J : aJ) (a b : Nat) (hC : CE E a) (hB : CE E b) (hab : a + 3 ≤ b ∨ b + 3 ≤ a) : Sp m_X1_copyFrom (d + 1) [.ref a, .ref b] E I J (fun r I' J' => r = none ∧ J' = J ∧ (∀ k, k < 4 → I' a k = I b k) ∧ (∀ s, s < 6 → I' (a + 1) s = I (b + 1) s) ∧ (∀ k, k < 36 → I' (a + 2) k = I (b + 2) k) ∧ ∀ q, q ≠ a → q ≠ a + 1 → q ≠ a + 2 → I' q = I q) := by
  refine Sp.of (lo := [some (.ref a), some (.ref b)]) rfl (fun Q hQ => ?_)
  refine Ez.blk B_X1_copyFrom_0 (lo' := [some (.ref a), some (.ref b)]) (st' := []) (I' := (aRw (aRw (aUp (aUp (aUp (aUp I a 0 (I b 0)) a 1 ((aUp I a 0 (I b 0)) b 1)) a 2 ((aUp (aUp I a 0 (I b 0)) a 1 ((aUp I a 0 (I b 0)) b 1)) b 2)) a 3 ((aUp (aUp (aUp I a 0 (I b 0)) a 1 ((aUp I a 0 (I b 0)) b 1)) a 2 ((aUp (aUp I a 0 (I b 0)) a 1 ((aUp I a 0 (I b 0)) b 1)) b 2)) b 3)) (E.2.2 a 4) (va_cpy ((aUp (aUp (aUp (aUp I a 0 (I b 0)) a 1 ((aUp I a 0 (I b 0)) b 1)) a 2 ((aUp (aUp I a 0 (I b 0)) a 1 ((aUp I a 0 (I b 0)) b 1)) b 2)) a 3 ((aUp (aUp (aUp I a 0 (I b 0)) a 1 ((aUp I a 0 (I b 0)) b 1)) a 2 ((aUp (aUp I a 0 (I b 0)) a 1 ((aUp I a 0 (I b 0)) b 1)) b 2)) b 3)) (E.2.2 b 4)) ((aUp (aUp (aUp (aUp I a 0 (I b 0)) a 1 ((aUp I a 0 (I b 0)) b 1)) a 2 ((aUp (aUp I a 0 (I b 0)) a 1 ((aUp I a 0 (I b 0)) b 1)) b 2)) a 3 ((aUp (aUp (aUp I a 0 (I b 0)) a 1 ((aUp I a 0 (I b 0)) b 1)) a 2 ((aUp (aUp I a 0 (I b 0)) a 1 ((aUp I a 0 (I b 0)) b 1)) b 2)) b 3)) (E.2.2 a 4)) 0 0 6)) (E.2.2 a 5) (va_cpy ((aRw (aUp (aUp (aUp (aUp I a 0 (I b 0)) a 1 ((aUp I a 0 (I b 0)) b 1)) a 2 ((aUp (aUp I a 0 (I b 0)) a 1 ((aUp I a 0 (I b 0)) b 1)) b 2)) a 3 ((aUp (aUp (aUp I a 0 (I b 0)) a 1 ((aUp I a 0 (I b 0)) b 1)) a 2 ((aUp (aUp I a 0 (I b 0)) a 1 ((aUp I a 0 (I b 0)) b 1)) b 2)) b 3)) (E.2.2 a 4) (va_cpy ((aUp (aUp (aUp (aUp I a 0 (I b 0)) a 1 ((aUp I a 0 (I b 0)) b 1)) a 2 ((aUp (aUp I a 0 (I b 0)) a 1 ((aUp I a 0 (I b 0)) b 1)) b 2)) a 3 ((aUp (aUp (aUp I a 0 (I b 0)) a 1 ((aUp I a 0 (I b 0)) b 1)) a 2 ((aUp (aUp I a 0 (I b 0)) a 1 ((aUp I a 0 (I b 0)) b 1)) b 2)) b 3)) (E.2.2 b 4)) ((aUp (aUp (aUp (aUp I a 0 (I b 0)) a 1 ((aUp I a 0 (I b 0)) b 1)) a 2 ((aUp (aUp I a 0 (I b 0)) a 1 ((aUp I a 0 (I b 0)) b 1)) b 2)) a 3 ((aUp (aUp (aUp I a 0 (I b 0)) a 1 ((aUp I a 0 (I b 0)) b 1)) a 2 ((aUp (aUp I a 0 (I b 0)) a 1 ((aUp I a 0 (I b 0)) b 1)) b 2)) b 3)) (E.2.2 a 4)) 0 0 6)) (E.2.2 b 5)) ((aRw (aUp (aUp (aUp (aUp I a 0 (I b 0)) a 1 ((aUp I a 0 (I b 0)) b 1)) a 2 ((aUp (aUp I a 0 (I b 0)) a 1 ((aUp I a 0 (I b 0)) b 1)) b 2)) a 3 ((aUp (aUp (aUp I a 0 (I b 0)) a 1 ((aUp I a 0 (I b 0)) b 1)) a 2 ((aUp (aUp I a 0 (I b 0)) a 1 ((aUp I a 0 (I b 0)) b 1)) b 2)) b 3)) (E.2.2 a 4) (va_cpy ((aUp (aUp (aUp (aUp I a 0 (I b 0)) a 1 ((aUp I a 0 (I b 0)) b 1)) a 2 ((aUp (aUp I a 0 (I b 0)) a 1 ((aUp I a 0 (I b 0)) b 1)) b 2)) a 3 ((aUp (aUp (aUp I a 0 (I b 0)) a 1 ((aUp I a 0 (I b 0)) b 1)) a 2 ((aUp (aUp I a 0 (I b 0)) a 1 ((aUp I a 0 (I b 0)) b 1)) b 2)) b 3)) (E.2.2 b 4)) ((aUp (aUp (aUp (aUp I a 0 (I b 0)) a 1 ((aUp I a 0 (I b 0)) b 1)) a 2 ((aUp (aUp I a 0 (I b 0)) a 1 ((aUp I a 0 (I b 0)) b 1)) b 2)) a 3 ((aUp (aUp (aUp I a 0 (I b 0)) a 1 ((aUp I a 0 (I b 0)) b 1)) a 2 ((aUp (aUp I a 0 (I b 0)) a 1 ((aUp I a 0 (I b 0)) b 1)) b 2)) b 3)) (E.2.2 a 4)) 0 0 6)) (E.2.2 a 5)) 0 0 36))) (J' := J) (Ps := [aO E b 1, aO E a 1, aO E b 1, aO E a 1, aO E b 1, aO E a 1, aO E b 1, aO E a 1, aO E b 1 ∧ E.2.2 b 4 ≠ 0, aO E a 1 ∧ E.2.2 a 4 ≠ 0, aCp E 1 (E.2.2 b 4) (E.2.2 a 4) 0 0 6, aO E b 1 ∧ E.2.2 b 5 ≠ 0, aO E a 1 ∧ E.2.2 a 5 ≠ 0, aCp E 1 (E.2.2 b 5) (E.2.2 a 5) 0 0 36]) rfl ⟨hB.1, hC.1, hB.1, hC.1, hB.1, hC.1, hB.1, hC.1, (CE_r4 hB), (CE_r4 hC), (cpy_ok (s0 := 0) (d0 := 0) (m := 6) (CE_q4 hB) (CE_q4 hC) rfl rfl rfl (by omega) (by omega) (by omega) (by omega) (by omega)), (CE_r5 hB), (CE_r5 hC), (cpy_ok (s0 := 0) (d0 := 0) (m := 36) (CE_q5 hB) (CE_q5 hC) rfl rfl rfl (by omega) (by omega) (by omega) (by omega) (by omega))⟩ ?_
  generalize hI2 : (aRw (aRw (aUp (aUp (aUp (aUp I a 0 (I b 0)) a 1 ((aUp I a 0 (I b 0)) b 1)) a 2 ((aUp (aUp I a 0 (I b 0)) a 1 ((aUp I a 0 (I b 0)) b 1)) b 2)) a 3 ((aUp (aUp (aUp I a 0 (I b 0)) a 1 ((aUp I a 0 (I b 0)) b 1)) a 2 ((aUp (aUp I a 0 (I b 0)) a 1 ((aUp I a 0 (I b 0)) b 1)) b 2)) b 3)) (E.2.2 a 4) (va_cpy ((aUp (aUp (aUp (aUp I a 0 (I b 0)) a 1 ((aUp I a 0 (I b 0)) b 1)) a 2 ((aUp (aUp I a 0 (I b 0)) a 1 ((aUp I a 0 (I b 0)) b 1)) b 2)) a 3 ((aUp (aUp (aUp I a 0 (I b 0)) a 1 ((aUp I a 0 (I b 0)) b 1)) a 2 ((aUp (aUp I a 0 (I b 0)) a 1 ((aUp I a 0 (I b 0)) b 1)) b 2)) b 3)) (E.2.2 b 4)) ((aUp (aUp (aUp (aUp I a 0 (I b 0)) a 1 ((aUp I a 0 (I b 0)) b 1)) a 2 ((aUp (aUp I a 0 (I b 0)) a 1 ((aUp I a 0 (I b 0)) b 1)) b 2)) a 3 ((aUp (aUp (aUp I a 0 (I b 0)) a 1 ((aUp I a 0 (I b 0)) b 1)) a 2 ((aUp (aUp I a 0 (I b 0)) a 1 ((aUp I a 0 (I b 0)) b 1)) b 2)) b 3)) (E.2.2 a 4)) 0 0 6)) (E.2.2 a 5) (va_cpy ((aRw (aUp (aUp (aUp (aUp I a 0 (I b 0)) a 1 ((aUp I a 0 (I b 0)) b 1)) a 2 ((aUp (aUp I a 0 (I b 0)) a 1 ((aUp I a 0 (I b 0)) b 1)) b 2)) a 3 ((aUp (aUp (aUp I a 0 (I b 0)) a 1 ((aUp I a 0 (I b 0)) b 1)) a 2 ((aUp (aUp I a 0 (I b 0)) a 1 ((aUp I a 0 (I b 0)) b 1)) b 2)) b 3)) (E.2.2 a 4) (va_cpy ((aUp (aUp (aUp (aUp I a 0 (I b 0)) a 1 ((aUp I a 0 (I b 0)) b 1)) a 2 ((aUp (aUp I a 0 (I b 0)) a 1 ((aUp I a 0 (I b 0)) b 1)) b 2)) a 3 ((aUp (aUp (aUp I a 0 (I b 0)) a 1 ((aUp I a 0 (I b 0)) b 1)) a 2 ((aUp (aUp I a 0 (I b 0)) a 1 ((aUp I a 0 (I b 0)) b 1)) b 2)) b 3)) (E.2.2 b 4)) ((aUp (aUp (aUp (aUp I a 0 (I b 0)) a 1 ((aUp I a 0 (I b 0)) b 1)) a 2 ((aUp (aUp I a 0 (I b 0)) a 1 ((aUp I a 0 (I b 0)) b 1)) b 2)) a 3 ((aUp (aUp (aUp I a 0 (I b 0)) a 1 ((aUp I a 0 (I b 0)) b 1)) a 2 ((aUp (aUp I a 0 (I b 0)) a 1 ((aUp I a 0 (I b 0)) b 1)) b 2)) b 3)) (E.2.2 a 4)) 0 0 6)) (E.2.2 b 5)) ((aRw (aUp (aUp (aUp (aUp I a 0 (I b 0)) a 1 ((aUp I a 0 (I b 0)) b 1)) a 2 ((aUp (aUp I a 0 (I b 0)) a 1 ((aUp I a 0 (I b 0)) b 1)) b 2)) a 3 ((aUp (aUp (aUp I a 0 (I b 0)) a 1 ((aUp I a 0 (I b 0)) b 1)) a 2 ((aUp (aUp I a 0 (I b 0)) a 1 ((aUp I a 0 (I b 0)) b 1)) b 2)) b 3)) (E.2.2 a 4) (va_cpy ((aUp (aUp (aUp (aUp I a 0 (I b 0)) a 1 ((aUp I a 0 (I b 0)) b 1)) a 2 ((aUp (aUp I a 0 (I b 0)) a 1 ((aUp I a 0 (I b 0)) b 1)) b 2)) a 3 ((aUp (aUp (aUp I a 0 (I b 0)) a 1 ((aUp I a 0 (I b 0)) b 1)) a 2 ((aUp (aUp I a 0 (I b 0)) a 1 ((aUp I a 0 (I b 0)) b 1)) b 2)) b 3)) (E.2.2 b 4)) ((aUp (aUp (aUp (aUp I a 0 (I b 0)) a 1 ((aUp I a 0 (I b 0)) b 1)) a 2 ((aUp (aUp I a 0 (I b 0)) a 1 ((aUp I a 0 (I b 0)) b 1)) b 2)) a 3 ((aUp (aUp (aUp I a 0 (I b 0)) a 1 ((aUp I a 0 (I b 0)) b 1)) a 2 ((aUp (aUp I a 0 (I b 0)) a 1 ((aUp I a 0 (I b 0)) b 1)) b 2)) b 3)) (E.2.2 a 4)) 0 0 6)) (E.2.2 a 5)) 0 0 36)) = I2
  rw [hC.2.1, hC.2.2.1, hB.2.1, hB.2.2.1] at hI2
  have n1 : b ≠ a := by omega
  have n2 : b + 1 ≠ a := by omega
  have n3 : b + 2 ≠ a := by omega
  have n4 : a ≠ a + 1 := by omega
  have n5 : a ≠ a + 2 := by omega
  have n6 : b + 1 ≠ a + 1 := by omega
  have n7 : b + 2 ≠ a + 1 := by omega
  have n8 : a + 2 ≠ a + 1 := by omega
  have n9 : a + 1 ≠ a + 2 := by omega
  exact Ez.vret rfl (by decide +kernel) (hQ _ _ _ ⟨rfl, rfl, fun k hk => by
    rcases (show k = 0 ∨ k = 1 ∨ k = 2 ∨ k = 3 by omega) with rfl | rfl | rfl | rfl <;> rw [← hI2, aRw_ne n5, aRw_ne n4] <;> simp [aUp, n1], fun s hs => by
    rw [← hI2, aRw_ne n9, aRw_at, cp0 hs, aUp_ne n2, aUp_ne n2, aUp_ne n2, aUp_ne n2], fun k hk => by
    rw [← hI2, aRw_at, cp0 hk, aRw_ne n7, aUp_ne n3, aUp_ne n3, aUp_ne n3, aUp_ne n3], fun q h0 h1 h2 => by
    rw [← hI2, aRw_ne h2, aRw_ne h1, aUp_ne h0, aUp_ne h0, aUp_ne h0, aUp_ne h0]⟩)
theorem Ch_of {I I' : aI} {a b : Nat} {c : Nat → Nat} (h : Ch I b c) (h0 : ∀ k, k < 4 → I' a k = I b k) (h1 : ∀ s, s < 6 → I' (a + 1) s = I (b + 1) s) (h2 : ∀ k, k < 36 → I' (a + 2) k = I (b + 2) k) : Ch I' a c := ⟨fun k hk => (h0 k hk).trans (h.1 k hk), fun k hk => (h1 k hk).trans (h.2.1 k hk), fun k hk => (h2 k hk).trans (h.2.2 k hk)⟩
/-- copyFrom, in words of chains -/
theorem s_copy (d : Nat) (E : aE) (I : aI) (J : aJ) (a b : Nat) (hC : CE E a) (hB : CE E b) (hab : a + 3 ≤ b ∨ b + 3 ≤ a) (c : Nat → Nat) (hc : Ch I b c) : Sp m_X1_copyFrom (d + 1) [.ref a, .ref b] E I J (fun r I' J' => r = none ∧ J' = J ∧ Ch I' a c ∧ ∀ q, q ≠ a → q ≠ a + 1 → q ≠ a + 2 → I' q = I q) :=
  Sp.conseq (s_copyFrom d E I J a b hC hB hab) (fun r I' J' q => ⟨q.1, q.2.1, Ch_of hc q.2.2.1 q.2.2.2.1 q.2.2.2.2.1, q.2.2.2.2.2⟩)
/-- the other name of a state -/
def swp (x f s : Nat) : Nat := if x = f then s else if x = s then f else x
theorem s_swapped (d : Nat) (E : aE) (I : aI) (J : aJ) (x f s : Nat) (hx : x < 6) (hf : f < 6) (hs : s < 6) : Sp m_X1_swapped (d + 1) [.int (nI x), .int (nI f), .int (nI s)] E I J (fun r I' J' => r = some (.int (nI (swp x f s))) ∧ I' = I ∧ J' = J) := by
  refine Sp.of (lo := [some (.int (nI x)), some (.int (nI f)), some (.int (nI s))]) rfl (fun Q hQ => ?_)
  refine Ez.blk B_X1_swapped_0 (lo' := [some (.int (nI x)), some (.int (nI f)), some (.int (nI s))]) (st' := [.int (nI f), .int (nI x)]) (I' := I) (J' := J) (Ps := []) rfl trivial ?_
  refine Ez.n_icmp_ne (off := 5) (tgt := 7) (by decide +kernel) (by decide) (a := x) (b := f) rfl rfl (by omega) (by omega) (fun h1 => ?_) (fun h1 => ?_)
  · refine Ez.blk B_X1_swapped_7 (lo' := [some (.int (nI x)), some (.int (nI f)), some (.int (nI s))]) (st' := [.int (nI s), .int (nI x)]) (I' := I) (J' := J) (Ps := []) rfl trivial ?_
    refine Ez.n_icmp_ne (off := 7) (tgt := 16) (by decide +kernel) (by decide) (a := x) (b := s) rfl rfl (by omega) (by omega) (fun h2 => ?_) (fun h2 => ?_)
    · refine Ez.blk B_X1_swapped_16 (lo' := [some (.int (nI x)), some (.int (nI f)), some (.int (nI s))]) (st' := [.int (nI x)]) (I' := I) (J' := J) (Ps := []) rfl trivial ?_
      exact Ez.iret rfl (by decide +kernel) (hQ _ _ _ ⟨by unfold swp; rw [if_neg h1, if_neg h2], rfl, rfl⟩)
    · refine Ez.blk B_X1_swapped_12 (lo' := [some (.int (nI x)), some (.int (nI f)), some (.int (nI s))]) (st' := [.int (nI f)]) (I' := I) (J' := J) (Ps := []) rfl trivial ?_
      exact Ez.iret rfl (by decide +kernel) (hQ _ _ _ ⟨by unfold swp; rw [if_neg h1, if_pos h2], rfl, rfl⟩)
  · refine Ez.blk B_X1_swapped_5 (lo' := [some (.int (nI x)), some (.int (nI f)), some (.int (nI s))]) (st' := [.int (nI s)]) (I' := I) (J' := J) (Ps := []) rfl trivial ?_
    exact Ez.iret rfl (by decide +kernel) (hQ _ _ _ ⟨by unfold swp; rw [if_pos h1], rfl, rfl⟩)
/-- two chains are the same -/
def eqc (c e : Nat → Nat) : Bool := (List.range 46).all (fun k => c k == e k)
theorem eqc_iff {c e : Nat → Nat} : eqc c e = true ↔ ∀ k, k < 46 → c k = e k := by
  unfold eqc
  rw [List.all_eq_true]
  constructor
  · intro h k hk
    have := h k (List.mem_range.mpr hk)
    simpa using this
  · intro h k hk
    simpa using h k (List.mem_range.mp hk)
theorem s_sameAs (d : Nat) (E : aE) (I : aI) (J : aJ) (a b : Nat) (hC : CE E a) (hB : CE E b) (c e : Nat → Nat) (hc : Ch I a c) (he : Ch I b e) (bc : ∀ k, k < 46 → c k < 1000) (be : ∀ k, k < 46 → e k < 1000) : Sp m_X1_sameAs (d + 1) [.ref a, .ref b] E I J (fun r I' J' => r = some (.int (zb (eqc c e = true))) ∧ I' = I ∧ J' = J) := by
  refine Sp.of (lo := [some (.ref a), some (.ref b), none]) rfl (fun Q hQ => ?_)
  have bc0 := bc 0 (by decide)
  have be0 := be 0 (by decide)
  have bc1 := bc 1 (by decide)
  have be1 := be 1 (by decide)
  have bc2 := bc 2 (by decide)
  have be2 := be 2 (by decide)
  have bc3 := bc 3 (by decide)
  have be3 := be 3 (by decide)
  have done : (c 0 = e 0 ∧ c 1 = e 1 ∧ c 2 = e 2 ∧ c 3 = e 3) → (∀ s, s < 6 → c (4 + s) = e (4 + s)) → (∀ k, k < 36 → c (10 + k) = e (10 + k)) → ∀ k, k < 46 → c k = e k := by
    intro q4 q6 q36 k hk
    by_cases h10 : 10 ≤ k
    · have := q36 (k - 10) (by omega); rw [show 10 + (k - 10) = k by omega] at this; exact this
    · by_cases h4 : 4 ≤ k
      · have := q6 (k - 4) (by omega); rw [show 4 + (k - 4) = k by omega] at this; exact this
      · rcases (show k = 0 ∨ k = 1 ∨ k = 2 ∨ k = 3 by omega) with rfl | rfl | rfl | rfl
        · exact q4.1
        · exact q4.2.1
        · exact q4.2.2.1
        · exact q4.2.2.2
  have L2 : ∀ k, k ≤ 36 → ((c 0 = e 0 ∧ c 1 = e 1 ∧ c 2 = e 2 ∧ c 3 = e 3) ∧ (∀ s, s < 6 → c (4 + s) = e (4 + s)) ∧ ∀ j, j < k → c (10 + j) = e (10 + j)) → Ez m_X1_sameAs (d + 1) 81 [some (.ref a), some (.ref b), some (.int (nI k))] [] E I J Q := by
    refine for_up ?_ ?_
    · intro hi
      refine Ez.blk B_X1_sameAs_81 (lo' := [some (.ref a), some (.ref b), some (.int (nI 36))]) (st' := [.int 36, .int (nI 36)]) (I' := I) (J' := J) (Ps := []) rfl trivial ?_
      refine Ez.n_icmp_ge (off := 26) (tgt := 110) (by decide +kernel) (by decide) (a := 36) (b := 36) rfl rfl (by omega) (by omega) (fun h => ?_) (fun h => absurd h (by omega))
      refine Ez.blk B_X1_sameAs_110 (lo' := [some (.ref a), some (.ref b), some (.int (nI 36))]) (st' := [.int 1]) (I' := I) (J' := J) (Ps := []) rfl trivial ?_
      exact Ez.zret rfl (Or.inr rfl) (by decide +kernel) (hQ _ _ _ ⟨by rw [zb_t (eqc_iff.mpr (done hi.1 hi.2.1 hi.2.2))], rfl, rfl⟩)
    · intro k hk ih hi
      refine Ez.blk B_X1_sameAs_81 (lo' := [some (.ref a), some (.ref b), some (.int (nI k))]) (st' := [.int 36, .int (nI k)]) (I' := I) (J' := J) (Ps := []) rfl trivial ?_
      refine Ez.n_icmp_ge (off := 26) (tgt := 110) (by decide +kernel) (by decide) (a := k) (b := 36) rfl rfl (by omega) (by omega) (fun h => absurd h (by omega)) (fun h => ?_)
      refine Ez.blk B_X1_sameAs_87 (lo' := [some (.ref a), some (.ref b), some (.int (nI k))]) (st' := [.int (I (E.2.2 b 5) ((nI k).toNatClampNeg)), .int (I (E.2.2 a 5) ((nI k).toNatClampNeg))]) (I' := I) (J' := J) (Ps := [aO E a 1 ∧ E.2.2 a 5 ≠ 0, aAr E 1 (E.2.2 a 5) (nI k), aO E b 1 ∧ E.2.2 b 5 ≠ 0, aAr E 1 (E.2.2 b 5) (nI k)]) rfl ⟨(CE_r5 hC), (CE_a5 hC (vin (n := k) rfl (by omega) (by decide))), (CE_r5 hB), (CE_a5 hB (vin (n := k) rfl (by omega) (by decide)))⟩ ?_
      rw [cln (x := nI k) (n := k) rfl (by omega)]
      rw [hC.2.2.1, hB.2.2.1, (hc.2.2 k hk), (he.2.2 k hk)]
      have b1 := bc (10 + k) (by omega)
      have b2 := be (10 + k) (by omega)
      refine Ez.n_icmp_eq (off := 5) (tgt := 104) (by decide +kernel) (by decide) (a := (c (10 + k))) (b := (e (10 + k))) rfl rfl (by omega) (by omega) (fun h9 => ?_) (fun h9 => ?_)
      · refine Ez.blk B_X1_sameAs_104 (lo' := [some (.ref a), some (.ref b), some (.int (nI k + 1))]) (st' := []) (I' := I) (J' := J) (Ps := []) rfl trivial ?_
        rw [show (nI k + 1) = nI (k + 1) from (eq_add (a := k) (b := 1) rfl rfl)]
        exact ih ⟨hi.1, hi.2.1, fun j hj => by
          by_cases e1 : j = k
          · rw [e1]; exact h9
          · exact hi.2.2 j (by omega)⟩
      · refine Ez.blk B_X1_sameAs_102 (lo' := [some (.ref a), some (.ref b), some (.int (nI k))]) (st' := [.int 0]) (I' := I) (J' := J) (Ps := []) rfl trivial ?_
        exact Ez.zret rfl (Or.inl rfl) (by decide +kernel) (hQ _ _ _ ⟨by rw [zb_f (fun q => have q := eqc_iff.mp q; h9 (q _ (by omega)))], rfl, rfl⟩)
  have L1 : ∀ k, k ≤ 6 → ((c 0 = e 0 ∧ c 1 = e 1 ∧ c 2 = e 2 ∧ c 3 = e 3) ∧ (∀ s, s < k → c (4 + s) = e (4 + s))) → Ez m_X1_sameAs (d + 1) 50 [some (.ref a), some (.ref b), some (.int (nI k))] [] E I J Q := by
    refine for_up ?_ ?_
    · intro hi
      refine Ez.blk B_X1_sameAs_50 (lo' := [some (.ref a), some (.ref b), some (.int (nI 6))]) (st' := [.int 6, .int (nI 6)]) (I' := I) (J' := J) (Ps := []) rfl trivial ?_
      refine Ez.n_icmp_ge (off := 26) (tgt := 79) (by decide +kernel) (by decide) (a := 6) (b := 6) rfl rfl (by omega) (by omega) (fun h => ?_) (fun h => absurd h (by omega))
      refine Ez.blk B_X1_sameAs_79 (lo' := [some (.ref a), some (.ref b), some (.int 0)]) (st' := []) (I' := I) (J' := J) (Ps := []) rfl trivial ?_
      exact L2 0 (by omega) ⟨hi.1, hi.2, fun j hj => by omega⟩
    · intro k hk ih hi
      refine Ez.blk B_X1_sameAs_50 (lo' := [some (.ref a), some (.ref b), some (.int (nI k))]) (st' := [.int 6, .int (nI k)]) (I' := I) (J' := J) (Ps := []) rfl trivial ?_
      refine Ez.n_icmp_ge (off := 26) (tgt := 79) (by decide +kernel) (by decide) (a := k) (b := 6) rfl rfl (by omega) (by omega) (fun h => absurd h (by omega)) (fun h => ?_)
      refine Ez.blk B_X1_sameAs_56 (lo' := [some (.ref a), some (.ref b), some (.int (nI k))]) (st' := [.int (I (E.2.2 b 4) ((nI k).toNatClampNeg)), .int (I (E.2.2 a 4) ((nI k).toNatClampNeg))]) (I' := I) (J' := J) (Ps := [aO E a 1 ∧ E.2.2 a 4 ≠ 0, aAr E 1 (E.2.2 a 4) (nI k), aO E b 1 ∧ E.2.2 b 4 ≠ 0, aAr E 1 (E.2.2 b 4) (nI k)]) rfl ⟨(CE_r4 hC), (CE_a4 hC (vin (n := k) rfl (by omega) (by decide))), (CE_r4 hB), (CE_a4 hB (vin (n := k) rfl (by omega) (by decide)))⟩ ?_
      rw [cln (x := nI k) (n := k) rfl (by omega)]
      rw [hC.2.1, hB.2.1, (hc.2.1 k hk), (he.2.1 k hk)]
      have b1 := bc (4 + k) (by omega)
      have b2 := be (4 + k) (by omega)
      refine Ez.n_icmp_eq (off := 5) (tgt := 73) (by decide +kernel) (by decide) (a := (c (4 + k))) (b := (e (4 + k))) rfl rfl (by omega) (by omega) (fun h9 => ?_) (fun h9 => ?_)
      · refine Ez.blk B_X1_sameAs_73 (lo' := [some (.ref a), some (.ref b), some (.int (nI k + 1))]) (st' := []) (I' := I) (J' := J) (Ps := []) rfl trivial ?_
        rw [show (nI k + 1) = nI (k + 1) from (eq_add (a := k) (b := 1) rfl rfl)]
        exact ih ⟨hi.1, fun j hj => by
          by_cases e1 : j = k
          · rw [e1]; exact h9
          · exact hi.2 j (by omega)⟩
      · refine Ez.blk B_X1_sameAs_71 (lo' := [some (.ref a), some (.ref b), some (.int (nI k))]) (st' := [.int 0]) (I' := I) (J' := J) (Ps := []) rfl trivial ?_
        exact Ez.zret rfl (Or.inl rfl) (by decide +kernel) (hQ _ _ _ ⟨by rw [zb_f (fun q => have q := eqc_iff.mp q; h9 (q _ (by omega)))], rfl, rfl⟩)
  refine Ez.blk B_X1_sameAs_0 (lo' := [some (.ref a), some (.ref b), none]) (st' := [.int (I b 0), .int (I a 0)]) (I' := I) (J' := J) (Ps := [aO E a 1, aO E b 1]) rfl ⟨hC.1, hB.1⟩ ?_
  refine Ez.n_icmp_ne (off := 14) (tgt := 22) (by decide +kernel) (by decide) (a := c 0) (b := e 0) (hc.1 0 (by decide)) (he.1 0 (by decide)) (by omega) (by omega) (fun h0 => ?_) (fun h0 => ?_)
  · refine Ez.blk B_X1_sameAs_22 (lo' := [some (.ref a), some (.ref b), none]) (st' := [.int 0]) (I' := I) (J' := J) (Ps := []) rfl trivial ?_
    exact Ez.zret rfl (Or.inl rfl) (by decide +kernel) (hQ _ _ _ ⟨by rw [zb_f (fun q => have q := eqc_iff.mp q; h0 (q 0 (by decide)))], rfl, rfl⟩)
  · refine Ez.blk B_X1_sameAs_11 (lo' := [some (.ref a), some (.ref b), none]) (st' := [.int (I b 1), .int (I a 1)]) (I' := I) (J' := J) (Ps := [aO E a 1, aO E b 1]) rfl ⟨hC.1, hB.1⟩ ?_
    refine Ez.n_icmp_eq (off := 5) (tgt := 24) (by decide +kernel) (by decide) (a := c 1) (b := e 1) (hc.1 1 (by decide)) (he.1 1 (by decide)) (by omega) (by omega) (fun h1 => ?_) (fun h1 => ?_)
    · refine Ez.blk B_X1_sameAs_24 (lo' := [some (.ref a), some (.ref b), none]) (st' := [.int (I b 2), .int (I a 2)]) (I' := I) (J' := J) (Ps := [aO E a 1, aO E b 1]) rfl ⟨hC.1, hB.1⟩ ?_
      refine Ez.n_icmp_ne (off := 14) (tgt := 46) (by decide +kernel) (by decide) (a := c 2) (b := e 2) (hc.1 2 (by decide)) (he.1 2 (by decide)) (by omega) (by omega) (fun h2 => ?_) (fun h2 => ?_)
      · refine Ez.blk B_X1_sameAs_46 (lo' := [some (.ref a), some (.ref b), none]) (st' := [.int 0]) (I' := I) (J' := J) (Ps := []) rfl trivial ?_
        exact Ez.zret rfl (Or.inl rfl) (by decide +kernel) (hQ _ _ _ ⟨by rw [zb_f (fun q => have q := eqc_iff.mp q; h2 (q 2 (by decide)))], rfl, rfl⟩)
      · refine Ez.blk B_X1_sameAs_35 (lo' := [some (.ref a), some (.ref b), none]) (st' := [.int (I b 3), .int (I a 3)]) (I' := I) (J' := J) (Ps := [aO E a 1, aO E b 1]) rfl ⟨hC.1, hB.1⟩ ?_
        refine Ez.n_icmp_eq (off := 5) (tgt := 48) (by decide +kernel) (by decide) (a := c 3) (b := e 3) (hc.1 3 (by decide)) (he.1 3 (by decide)) (by omega) (by omega) (fun h3 => ?_) (fun h3 => ?_)
        · refine Ez.blk B_X1_sameAs_48 (lo' := [some (.ref a), some (.ref b), some (.int 0)]) (st' := []) (I' := I) (J' := J) (Ps := []) rfl trivial ?_
          exact L1 0 (by omega) ⟨⟨h0, h1, h2, h3⟩, fun s hs => by omega⟩
        · refine Ez.blk B_X1_sameAs_46 (lo' := [some (.ref a), some (.ref b), none]) (st' := [.int 0]) (I' := I) (J' := J) (Ps := []) rfl trivial ?_
          exact Ez.zret rfl (Or.inl rfl) (by decide +kernel) (hQ _ _ _ ⟨by rw [zb_f (fun q => have q := eqc_iff.mp q; h3 (q 3 (by decide)))], rfl, rfl⟩)
    · refine Ez.blk B_X1_sameAs_22 (lo' := [some (.ref a), some (.ref b), none]) (st' := [.int 0]) (I' := I) (J' := J) (Ps := []) rfl trivial ?_
      exact Ez.zret rfl (Or.inl rfl) (by decide +kernel) (hQ _ _ _ ⟨by rw [zb_f (fun q => have q := eqc_iff.mp q; h1 (q 1 (by decide)))], rfl, rfl⟩)
theorem s_succ (d : Nat) (E : aE) (I : aI) (J : aJ) (a s dr : Nat) (hC : CE E a) (c : Nat → Nat) (hc : Ch I a c) (W : Wc c) (hs : s < c 0) (hd : dr < 65536) : Sp m_X1_successorAt (d + 1) [.ref a, .int (nI s), .int (nI dr)] E I J (fun r I' J' => (∃ u, u < c 0 ∧ r = some (.int (nI u)) ∧ sm (fun j => c (10 + 6 * s + j)) u ≤ dr % c 1 ∧ dr % c 1 < sm (fun j => c (10 + 6 * s + j)) (u + 1)) ∧ I' = I ∧ J' = J) := by
  refine Sp.of (lo := [some (.ref a), some (.int (nI s)), some (.int (nI dr)), none, none]) rfl (fun Q hQ => ?_)
  have w1 := W.1
  have w2 := W.2.1
  have wr := W.2.2.2.2.2.1 s hs
  have w12 := Wc_w W
  obtain ⟨f, hf⟩ : ∃ f : Nat → Nat, f = fun j => c (10 + 6 * s + j) := ⟨_, rfl⟩
  have hfj : ∀ j, c (10 + 6 * s + j) = f j := fun j => by rw [hf]
  rw [← hf] at wr
  have hm : dr % c 1 < c 1 := Nat.mod_lt _ (by omega)
  have L1 : ∀ k, k ≤ c 0 → sm f k ≤ dr % c 1 → Ez m_X1_successorAt (d + 1) 21 [some (.ref a), some (.int (nI s)), some (.int (nI dr)), some (.int (nI (dr % c 1 - sm f k))), some (.int (nI k))] [] E I J Q := by
    refine for_up ?_ ?_
    · intro hi
      rw [wr] at hi
      omega
    · intro k hk ih hi
      refine Ez.blk B_X1_successorAt_21 (lo' := [some (.ref a), some (.int (nI s)), some (.int (nI dr)), some (.int (nI (dr % c 1 - sm f k))), some (.int (nI k))]) (st' := [.int (I a 0), .int (nI k)]) (I' := I) (J' := J) (Ps := [aO E a 1]) rfl hC.1 ?_
      refine Ez.n_icmp_ge (off := 31) (tgt := 58) (by decide +kernel) (by decide) (a := k) (b := c 0) rfl (hc.1 0 (by decide)) (by omega) (by omega) (fun h => absurd h (by omega)) (fun h => ?_)
      refine Ez.blk B_X1_successorAt_30 (lo' := [some (.ref a), some (.int (nI s)), some (.int (nI dr)), some (.int (nI (dr % c 1 - sm f k) - I (E.2.2 a 5) (((nI s * 6) + nI k).toNatClampNeg))), some (.int (nI k))]) (st' := [.int (nI (dr % c 1 - sm f k) - I (E.2.2 a 5) (((nI s * 6) + nI k).toNatClampNeg))]) (I' := I) (J' := J) (Ps := [aO E a 1 ∧ E.2.2 a 5 ≠ 0, aAr E 1 (E.2.2 a 5) ((nI s * 6) + nI k)]) rfl ⟨(CE_r5 hC), (CE_a5 hC (vin (n := (s * 6 + k)) (eq_add (a := (s * 6)) (b := k) (eq_mul (a := s) (b := 6) rfl rfl) rfl) (by omega) (by decide)))⟩ ?_
      rw [cln (x := ((nI s * 6) + nI k)) (n := (s * 6 + k)) (eq_add (a := (s * 6)) (b := k) (eq_mul (a := s) (b := 6) rfl rfl) rfl) (by omega)]
      rw [hC.2.2.1, show s * 6 + k = 6 * s + k by omega, hc.2.2 (6 * s + k) (by omega), show 10 + (6 * s + k) = 10 + 6 * s + k by omega, hfj k]
      have hk12 := w12 (6 * s + k) (by omega)
      rw [show 10 + (6 * s + k) = 10 + 6 * s + k by omega, hfj k] at hk12
      refine Ez.if_ge (off := 6) (tgt := 52) (by decide +kernel) (by decide) (fun h9 => ?_) (fun h9 => ?_)
      · have h9 := (sub_ge (by omega) (by omega)).mp h9
        rw [pk_sub h9, show dr % c 1 - sm f k - f k = dr % c 1 - sm f (k + 1) by show _ = _ - (sm f k + f k); omega]
        refine Ez.blk B_X1_successorAt_52 (lo' := [some (.ref a), some (.int (nI s)), some (.int (nI dr)), some (.int (nI (dr % c 1 - sm f (k + 1)))), some (.int (nI k + 1))]) (st' := []) (I' := I) (J' := J) (Ps := []) rfl trivial ?_
        rw [show (nI k + 1) = nI (k + 1) from (eq_add (a := k) (b := 1) rfl rfl)]
        exact ih (by show sm f k + f k ≤ _; omega)
      · have h9 := mt (sub_ge (a := dr % c 1 - sm f k) (b := f k) (by omega) (by omega)).mpr h9
        refine Ez.blk B_X1_successorAt_49 (lo' := [some (.ref a), some (.int (nI s)), some (.int (nI dr)), some (.int (nI (dr % c 1 - sm f k) - nI (f k))), some (.int (nI k))]) (st' := [.int (nI k)]) (I' := I) (J' := J) (Ps := []) rfl trivial ?_
        exact Ez.iret rfl (by decide +kernel) (hQ _ _ _ ⟨⟨k, hk, rfl, by rw [← hf]; exact hi, by rw [← hf]; show _ < sm f k + f k; omega⟩, rfl, rfl⟩)
  refine Ez.blk B_X1_successorAt_0 (lo' := [some (.ref a), some (.int (nI s)), some (.int (nI dr)), none, none]) (st' := [.int (I a 1)]) (I' := I) (J' := J) (Ps := [aO E a 1]) rfl hC.1 ?_
  refine Ez.n_if_le (off := 12) (tgt := 16) (by decide +kernel) (by decide) (a := c 1) (hc.1 1 (by decide)) (by omega) (fun h => absurd h (by omega)) (fun h => ?_)
  refine Ez.blk B_X1_successorAt_7 (lo' := [some (.ref a), some (.int (nI s)), some (.int (nI dr)), none, none]) (st' := [.int (nI dr - nI dr / I a 1 * I a 1)]) (I' := I) (J' := J) (Ps := [aO E a 1, ¬ I a 1 = 0]) rfl ⟨hC.1, (by rw [hc.1 1 (by decide)]; exact nI_ne0 (by omega) (by omega))⟩ ?_
  refine Ez.blk B_X1_successorAt_17 (lo' := [some (.ref a), some (.int (nI s)), some (.int (nI dr)), some (.int (nI dr - nI dr / I a 1 * I a 1)), some (.int 0)]) (st' := []) (I' := I) (J' := J) (Ps := []) rfl trivial ?_
  rw [show (nI dr - nI dr / I a 1 * I a 1) = nI (dr % c 1) from (eq_rem (a := dr) (b := c 1) rfl (hc.1 1 (by decide)) (by omega) (by omega) (by omega))]
  exact L1 0 (by omega) (Nat.zero_le _)
/-- the chain with two names exchanged -/
def swc (c : Nat → Nat) (f s : Nat) : Nat → Nat := fun k => if k < 4 then c k else if k < 10 then c (4 + swp (k - 4) f s) else c (10 + 6 * swp ((k - 10) / 6) f s + swp ((k - 10) % 6) f s)
theorem swp_lt {x f s n : Nat} (hx : x < n) (hf : f < n) (hs : s < n) : swp x f s < n := by
  unfold swp
  by_cases h1 : x = f
  · rw [if_pos h1]; exact hs
  · rw [if_neg h1]
    by_cases h2 : x = s
    · rw [if_pos h2]; exact hf
    · rw [if_neg h2]; exact hx
theorem swp_ge {x f s n : Nat} (hx : n ≤ x) (hf : f < n) (hs : s < n) : swp x f s = x := by
  unfold swp
  rw [if_neg (by omega), if_neg (by omega)]
theorem swc_w {c : Nat → Nat} {f s k : Nat} : swc c f s (10 + k) = c (10 + 6 * swp (k / 6) f s + swp (k % 6) f s) := by
  unfold swc
  rw [if_neg (by omega), if_neg (by omega), show 10 + k - 10 = k by omega]
theorem swc_l {c : Nat → Nat} {f s k : Nat} (h : k < 6) : swc c f s (4 + k) = c (4 + swp k f s) := by
  unfold swc
  rw [if_neg (by omega), if_pos (by omega), show 4 + k - 4 = k by omega]
theorem s_copySwapped (d : Nat) (E : aE) (I : aI) (J : aJ) (a b f s : Nat) (hC : CE E a) (hB : CE E b) (hab : a + 3 ≤ b ∨ b + 3 ≤ a) (c : Nat → Nat) (hc : Ch I b c) (W : Wc c) (hf : f < c 0) (hs : s < c 0) : Sp m_X1_copySwapped (d + 2) [.ref a, .ref b, .int (nI f), .int (nI s)] E I J (fun r I' J' => r = none ∧ J' = J ∧ Ch I' a (swc c f s) ∧ ∀ q, q ≠ a → q ≠ a + 1 → q ≠ a + 2 → I' q = I q) := by
  refine Sp.of (lo := [some (.ref a), some (.ref b), some (.int (nI f)), some (.int (nI s)), none, none, none, none]) rfl (fun Q hQ => ?_)
  have w1 := W.1
  refine Ez.blk B_X1_copySwapped_0 (lo' := [some (.ref a), some (.ref b), some (.int (nI f)), some (.int (nI s)), none, none, none, none]) (st' := [.ref b, .ref a]) (I' := I) (J' := J) (Ps := []) rfl trivial ?_
  refine Ez.callV (As := [.ref b]) (b := a) (rest := []) kn_X1_copyFrom ml_1_41 im_X1_copyFrom se_X1_copyFrom rfl (by decide +kernel) rfl rfl (Nat.le_of_ble_eq_true rfl) (Nat.le_of_ble_eq_true rfl) hC.1 (s_copy _ E I J a b hC hB hab c hc) (fun r I0 J0 hq => ?_)
  obtain ⟨rfl, rfl, hc0, hfr⟩ := hq
  have L1 : ∀ k, k ≤ c 0 → ∀ (I1 : aI), ((∀ k, k < 4 → I1 a k = nI (c k)) ∧ (∀ q, q ≠ a → q ≠ a + 1 → q ≠ a + 2 → I1 q = I q)) ∧ (∀ x, x < 6 → I1 (a + 1) x = nI (if x < k then c (4 + swp x f s) else c (4 + x))) ∧ (∀ x, x < 36 → I1 (a + 2) x = nI (if x / 6 < k ∧ x % 6 < c 0 then c (10 + 6 * swp (x / 6) f s + swp (x % 6) f s) else c (10 + x))) → Ez m_X1_copySwapped (d + 2) 8 [some (.ref a), some (.ref b), some (.int (nI f)), some (.int (nI s)), some (.int (nI k)), none, none, none] [] E I1 J0 Q := by
    refine for_up ?_ ?_
    · intro I1 hi
      obtain ⟨⟨i1, i2⟩, i3, i4⟩ := hi
      refine Ez.blk B_X1_copySwapped_8 (lo' := [some (.ref a), some (.ref b), some (.int (nI f)), some (.int (nI s)), some (.int (nI (c 0))), none, none, none]) (st' := [.int (I1 a 0), .int (nI (c 0))]) (I' := I1) (J' := J0) (Ps := [aO E a 1]) rfl hC.1 ?_
      refine Ez.n_icmp_ge (off := 85) (tgt := 99) (by decide +kernel) (by decide) (a := (c 0)) (b := c 0) rfl (i1 0 (by decide)) (by omega) (by omega) (fun h => ?_) (fun h => absurd h (by omega))
      exact Ez.vret rfl (by decide +kernel) (hQ _ _ _ ⟨rfl, rfl, ⟨fun k hk => by unfold swc; rw [if_pos hk]; exact i1 k hk, fun x hx => by
        rw [i3 x hx, swc_l hx]
        by_cases h : x < c 0
        · rw [if_pos h]
        · rw [if_neg h, swp_ge (n := c 0) (by omega) hf hs], fun x hx => by
        rw [i4 x hx, swc_w]
        by_cases h : x / 6 < c 0 ∧ x % 6 < c 0
        · rw [if_pos h]
        · rw [if_neg h]
          have z1 := W.2.2.2.2.2.2 (x / 6) (x % 6) (by omega) (by omega) (by omega)
          have z2 := W.2.2.2.2.2.2 (swp (x / 6) f s) (swp (x % 6) f s) (swp_lt (by omega) (by omega) (by omega)) (swp_lt (by omega) (by omega) (by omega)) (by
            by_cases h3 : c 0 ≤ x / 6
            · rw [swp_ge h3 hf hs]; exact Or.inl h3
            · rw [swp_ge (x := x % 6) (n := c 0) (by omega) hf hs]; exact Or.inr (by omega))
          rw [z2, show 10 + x = 10 + 6 * (x / 6) + x % 6 by omega, z1]⟩, i2⟩)
    · intro k hk ih I1 hi
      obtain ⟨⟨i1, i2⟩, i3, i4⟩ := hi
      refine Ez.blk B_X1_copySwapped_8 (lo' := [some (.ref a), some (.ref b), some (.int (nI f)), some (.int (nI s)), some (.int (nI k)), none, none, none]) (st' := [.int (I1 a 0), .int (nI k)]) (I' := I1) (J' := J0) (Ps := [aO E a 1]) rfl hC.1 ?_
      refine Ez.n_icmp_ge (off := 85) (tgt := 99) (by decide +kernel) (by decide) (a := k) (b := c 0) rfl (i1 0 (by decide)) (by omega) (by omega) (fun h => absurd h (by omega)) (fun h => ?_)
      refine Ez.blk B_X1_copySwapped_17 (lo' := [some (.ref a), some (.ref b), some (.int (nI f)), some (.int (nI s)), some (.int (nI k)), none, none, none]) (st' := [.int (nI s), .int (nI f), .int (nI k)]) (I' := I1) (J' := J0) (Ps := []) rfl trivial ?_
      refine Ez.callS (As := [.int (nI k), .int (nI f), .int (nI s)]) (rest := []) kn_X1_swapped ml_1_45 sm_X1_swapped (by decide +kernel) rfl rfl (Nat.le_of_ble_eq_true rfl) (Nat.le_of_ble_eq_true rfl) (s_swapped _ E I1 J0 k f s (by omega) (by omega) (by omega)) (fun r I2 J2 hq => ?_)
      obtain ⟨rfl, rfl, rfl⟩ := hq
      have hsk : swp k f s < c 0 := swp_lt hk hf hs
      refine Ez.blk B_X1_copySwapped_24 (lo' := [some (.ref a), some (.ref b), some (.int (nI f)), some (.int (nI s)), some (.int (nI k)), some (.int (nI (swp k f s))), some (.int 0), none]) (st' := []) (I' := (aUp I2 (E.2.2 a 4) ((nI k).toNatClampNeg) (I2 (E.2.2 b 4) ((nI (swp k f s)).toNatClampNeg)))) (J' := J2) (Ps := [aO E a 1 ∧ E.2.2 a 4 ≠ 0, aO E b 1 ∧ E.2.2 b 4 ≠ 0, aAr E 1 (E.2.2 b 4) (nI (swp k f s)), aAr E 1 (E.2.2 a 4) (nI k)]) rfl ⟨(CE_r4 hC), (CE_r4 hB), (CE_a4 hB (vin (n := (swp k f s)) rfl (by omega) (by decide))), (CE_a4 hC (vin (n := k) rfl (by omega) (by decide)))⟩ ?_
      rw [cln (x := nI (swp k f s)) (n := (swp k f s)) rfl (by omega)]
      rw [cln (x := nI k) (n := k) rfl (by omega)]
      rw [hC.2.1, hB.2.1, i2 (b + 1) (by omega) (by omega) (by omega), hc.2.1 (swp k f s) (by omega)]
      generalize hI3 : aUp I2 (a + 1) k (nI (c (4 + swp k f s))) = I3
      have j1 : ∀ k, k < 4 → I3 a k = nI (c k) := fun x hx => by rw [← hI3, aUp_ne (by omega)]; exact i1 x hx
      have j2 : ∀ q, q ≠ a → q ≠ a + 1 → q ≠ a + 2 → I3 q = I q := fun q h0 h1 h2 => by rw [← hI3, aUp_ne h1]; exact i2 q h0 h1 h2
      have j3 : ∀ x, x < 6 → I3 (a + 1) x = nI (if x < k + 1 then c (4 + swp x f s) else c (4 + x)) := fun x hx => by
        rw [← hI3]
        by_cases e : x = k
        · rw [e, aUp_eq, if_pos (by omega)]
        · rw [aUp_nk e, i3 x hx]
          by_cases h9 : x < k
          · rw [if_pos h9, if_pos (by omega)]
          · rw [if_neg h9, if_neg (by omega)]
      have j4 : ∀ x, x < 36 → I3 (a + 2) x = nI (if x / 6 < k ∧ x % 6 < c 0 then c (10 + 6 * swp (x / 6) f s + swp (x % 6) f s) else c (10 + x)) := fun x hx => by
        rw [← hI3, aUp_ne (by omega)]
        exact i4 x hx
      have L2 : ∀ j, j ≤ c 0 → ∀ (I1 : aI), ((∀ k, k < 4 → I1 a k = nI (c k)) ∧ (∀ q, q ≠ a → q ≠ a + 1 → q ≠ a + 2 → I1 q = I q)) ∧ (∀ x, x < 6 → I1 (a + 1) x = nI (if x < (k + 1) then c (4 + swp x f s) else c (4 + x))) ∧ (∀ x, x < 36 → I1 (a + 2) x = nI (if (x / 6 < k ∨ x / 6 = k ∧ x % 6 < j) ∧ x % 6 < c 0 then c (10 + 6 * swp (x / 6) f s + swp (x % 6) f s) else c (10 + x))) → Ez m_X1_copySwapped (d + 2) 43 [some (.ref a), some (.ref b), some (.int (nI f)), some (.int (nI s)), some (.int (nI k)), some (.int (nI (swp k f s))), some (.int (nI j)), none] [] E I1 J2 Q := by
        refine for_up ?_ ?_
        · intro I1 hi
          obtain ⟨⟨l1, l2⟩, l3, l4⟩ := hi
          refine Ez.blk B_X1_copySwapped_43 (lo' := [some (.ref a), some (.ref b), some (.int (nI f)), some (.int (nI s)), some (.int (nI k)), some (.int (nI (swp k f s))), some (.int (nI (c 0))), none]) (st' := [.int (I1 a 0), .int (nI (c 0))]) (I' := I1) (J' := J2) (Ps := [aO E a 1]) rfl hC.1 ?_
          refine Ez.n_icmp_ge (off := 44) (tgt := 93) (by decide +kernel) (by decide) (a := (c 0)) (b := c 0) rfl (l1 0 (by decide)) (by omega) (by omega) (fun h => ?_) (fun h => absurd h (by omega))
          refine Ez.blk B_X1_copySwapped_93 (lo' := [some (.ref a), some (.ref b), some (.int (nI f)), some (.int (nI s)), some (.int (nI k + 1)), some (.int (nI (swp k f s))), some (.int (nI (c 0))), none]) (st' := []) (I' := I1) (J' := J2) (Ps := []) rfl trivial ?_
          rw [show (nI k + 1) = nI (k + 1) from (eq_add (a := k) (b := 1) rfl rfl)]
          refine Ez.drops [5, 6] (lo' := [some (.ref a), some (.ref b), some (.int (nI f)), some (.int (nI s)), some (.int (nI (k + 1))), none, none, none]) rfl ?_
          exact ih I1 ⟨⟨l1, l2⟩, l3, fun x hx => by
            rw [l4 x hx]
            by_cases h9 : x / 6 < k + 1 ∧ x % 6 < c 0
            · rw [if_pos h9, if_pos (by omega)]
            · rw [if_neg h9, if_neg (by omega)]⟩
        · intro j hj ih2 I1 hi
          obtain ⟨⟨l1, l2⟩, l3, l4⟩ := hi
          refine Ez.blk B_X1_copySwapped_43 (lo' := [some (.ref a), some (.ref b), some (.int (nI f)), some (.int (nI s)), some (.int (nI k)), some (.int (nI (swp k f s))), some (.int (nI j)), none]) (st' := [.int (I1 a 0), .int (nI j)]) (I' := I1) (J' := J2) (Ps := [aO E a 1]) rfl hC.1 ?_
          refine Ez.n_icmp_ge (off := 44) (tgt := 93) (by decide +kernel) (by decide) (a := j) (b := c 0) rfl (l1 0 (by decide)) (by omega) (by omega) (fun h => absurd h (by omega)) (fun h => ?_)
          refine Ez.blk B_X1_copySwapped_52 (lo' := [some (.ref a), some (.ref b), some (.int (nI f)), some (.int (nI s)), some (.int (nI k)), some (.int (nI (swp k f s))), some (.int (nI j)), none]) (st' := [.int (nI s), .int (nI f), .int (nI j)]) (I' := I1) (J' := J2) (Ps := []) rfl trivial ?_
          refine Ez.callS (As := [.int (nI j), .int (nI f), .int (nI s)]) (rest := []) kn_X1_swapped ml_1_45 sm_X1_swapped (by decide +kernel) rfl rfl (Nat.le_of_ble_eq_true rfl) (Nat.le_of_ble_eq_true rfl) (s_swapped _ E I1 J2 j f s (by omega) (by omega) (by omega)) (fun r I4 J4 hq => ?_)
          obtain ⟨rfl, rfl, rfl⟩ := hq
          have hsj : swp j f s < c 0 := swp_lt hj hf hs
          refine Ez.blk B_X1_copySwapped_59 (lo' := [some (.ref a), some (.ref b), some (.int (nI f)), some (.int (nI s)), some (.int (nI k)), some (.int (nI (swp k f s))), some (.int (nI j + 1)), some (.int (nI (swp j f s)))]) (st' := []) (I' := (aUp I4 (E.2.2 a 5) (((nI k * 6) + nI j).toNatClampNeg) (I4 (E.2.2 b 5) (((nI (swp k f s) * 6) + nI (swp j f s)).toNatClampNeg)))) (J' := J4) (Ps := [aO E a 1 ∧ E.2.2 a 5 ≠ 0, aO E b 1 ∧ E.2.2 b 5 ≠ 0, aAr E 1 (E.2.2 b 5) ((nI (swp k f s) * 6) + nI (swp j f s)), aAr E 1 (E.2.2 a 5) ((nI k * 6) + nI j)]) rfl ⟨(CE_r5 hC), (CE_r5 hB), (CE_a5 hB (vin (n := ((swp k f s) * 6 + (swp j f s))) (eq_add (a := ((swp k f s) * 6)) (b := (swp j f s)) (eq_mul (a := (swp k f s)) (b := 6) rfl rfl) rfl) (by omega) (by decide))), (CE_a5 hC (vin (n := (k * 6 + j)) (eq_add (a := (k * 6)) (b := j) (eq_mul (a := k) (b := 6) rfl rfl) rfl) (by omega) (by decide)))⟩ ?_
          rw [cln (x := ((nI (swp k f s) * 6) + nI (swp j f s))) (n := ((swp k f s) * 6 + (swp j f s))) (eq_add (a := ((swp k f s) * 6)) (b := (swp j f s)) (eq_mul (a := (swp k f s)) (b := 6) rfl rfl) rfl) (by omega)]
          rw [cln (x := ((nI k * 6) + nI j)) (n := (k * 6 + j)) (eq_add (a := (k * 6)) (b := j) (eq_mul (a := k) (b := 6) rfl rfl) rfl) (by omega)]
          rw [show (nI j + 1) = nI (j + 1) from (eq_add (a := j) (b := 1) rfl rfl)]
          rw [hC.2.2.1, hB.2.2.1, l2 (b + 2) (by omega) (by omega) (by omega), hc.2.2 (swp k f s * 6 + swp j f s) (by omega)]
          refine Ez.drops [7] (lo' := [some (.ref a), some (.ref b), some (.int (nI f)), some (.int (nI s)), some (.int (nI k)), some (.int (nI (swp k f s))), some (.int (nI (j + 1))), none]) rfl ?_
          refine ih2 (aUp I4 (a + 2) (k * 6 + j) (nI (c (10 + (swp k f s * 6 + swp j f s))))) ⟨⟨fun x hx => by rw [aUp_ne (by omega)]; exact l1 x hx, fun q h0 h1 h2 => by rw [aUp_ne h2]; exact l2 q h0 h1 h2⟩, fun x hx => by rw [aUp_ne (by omega)]; exact l3 x hx, fun x hx => ?_⟩
          by_cases e : x = k * 6 + j
          · rw [e, aUp_eq, if_pos (by omega), show (k * 6 + j) / 6 = k by omega, show (k * 6 + j) % 6 = j by omega, show 10 + (swp k f s * 6 + swp j f s) = 10 + 6 * swp k f s + swp j f s by omega]
          · rw [aUp_nk e, l4 x hx]
            by_cases h9 : (x / 6 < k ∨ x / 6 = k ∧ x % 6 < j) ∧ x % 6 < c 0
            · rw [if_pos h9, if_pos (by omega)]
            · rw [if_neg h9, if_neg (by omega)]
      exact L2 0 (by omega) I3 ⟨⟨j1, j2⟩, j3, fun x hx => by
        rw [j4 x hx]
        by_cases h9 : x / 6 < k ∧ x % 6 < c 0
        · rw [if_pos h9, if_pos (by omega)]
        · rw [if_neg h9, if_neg (by omega)]⟩
  refine Ez.blk B_X1_copySwapped_5 (lo' := [some (.ref a), some (.ref b), some (.int (nI f)), some (.int (nI s)), some (.int 0), none, none, none]) (st' := []) (I' := I0) (J' := J0) (Ps := []) rfl trivial ?_
  exact L1 0 (by omega) I0 ⟨⟨hc0.1, hfr⟩, fun x hx => by rw [if_neg (by omega)]; exact hc0.2.1 x hx, fun x hx => by rw [if_neg (by omega)]; exact hc0.2.2 x hx⟩

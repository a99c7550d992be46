/-! CHAINS -/
/-- a chain's cells -/
def CE (E : aE) (a : Nat) : Prop := aO E a 1 ∧ E.2.2 a 4 = a + 1 ∧ E.2.2 a 5 = a + 2 ∧ aA E (a + 1) 1 6 ∧ aA E (a + 2) 1 36
theorem CE_r4 {E : aE} {a : Nat} (h : CE E a) : aO E a 1 ∧ E.2.2 a 4 ≠ 0 := ⟨h.1, by rw [h.2.1]; omega⟩
theorem CE_r5 {E : aE} {a : Nat} (h : CE E a) : aO E a 1 ∧ E.2.2 a 5 ≠ 0 := ⟨h.1, by rw [h.2.2.1]; omega⟩
theorem CE_a4 {E : aE} {a : Nat} {i : Int32} (h : CE E a) (hi : vp_in i 6) : aAr E 1 (E.2.2 a 4) i := by rw [h.2.1]; exact aA_in h.2.2.2.1 hi
theorem CE_a5 {E : aE} {a : Nat} {i : Int32} (h : CE E a) (hi : vp_in i 36) : aAr E 1 (E.2.2 a 5) i := by rw [h.2.2.1]; exact aA_in h.2.2.2.2 hi
theorem CE_q4 {E : aE} {a : Nat} (h : CE E a) : aA E (E.2.2 a 4) 1 6 := by rw [h.2.1]; exact h.2.2.2.1
theorem CE_q5 {E : aE} {a : Nat} (h : CE E a) : aA E (E.2.2 a 5) 1 36 := by rw [h.2.2.1]; exact h.2.2.2.2
/-- the chain c (46 numbers: states, resolution, discount, labels, weights) stands at a -/
def Ch (I : aI) (a : Nat) (c : Nat → Nat) : Prop := (∀ k, k < 4 → I a k = nI (c k)) ∧ (∀ s, s < 6 → I (a + 1) s = nI (c (4 + s))) ∧ ∀ k, k < 36 → I (a + 2) k = nI (c (10 + k))
theorem Ch_eq {I I' : aI} {a : Nat} {c : Nat → Nat} (h : Ch I a c) (h0 : I' a = I a) (h1 : I' (a + 1) = I (a + 1)) (h2 : I' (a + 2) = I (a + 2)) : Ch I' a c := ⟨fun k hk => by rw [h0]; exact h.1 k hk, fun k hk => by rw [h1]; exact h.2.1 k hk, fun k hk => by rw [h2]; exact h.2.2 k hk⟩
theorem aUp_eq {I : aI} {a k : Nat} {v : Int32} : aUp I a k v a k = v := by unfold aUp; rw [if_pos ⟨rfl, rfl⟩]
theorem aUp_nk {I : aI} {a k b j : Nat} {v : Int32} (h : j ≠ k) : aUp I a k v b j = I b j := by unfold aUp; rw [if_neg (fun q => h q.2)]
theorem s_has (d : Nat) (E : aE) (I : aI) (J : aJ) (a : Nat) (x : Int32) (hC : aO E a 1) : Sp m_X1_has (d + 1) [.ref a, .int x] E I J (fun r I' J' => r = some (.int (zb (0 ≤ x ∧ x < I a 0))) ∧ I' = I ∧ J' = J) := by
  refine Sp.of (lo := [some (.ref a), some (.int x)]) rfl (fun Q hQ => ?_)
  refine Ez.blk B_X1_has_0 (lo' := [some (.ref a), some (.int x)]) (st' := [.int x]) (I' := I) (J' := J) (Ps := []) rfl trivial ?_
  refine Ez.if_lt (off := 15) (tgt := 16) (by decide +kernel) (by decide) (fun h1 => ?_) (fun h1 => ?_)
  · refine Ez.blk B_X1_has_16 (lo' := [some (.ref a), some (.int x)]) (st' := [.int 0]) (I' := I) (J' := J) (Ps := []) rfl trivial ?_
    exact Ez.zret rfl (Or.inl rfl) (by decide +kernel) (hQ _ _ _ ⟨by rw [zb_f (fun q => i32_nlt.mpr q.1 h1)], rfl, rfl⟩)
  · refine Ez.blk B_X1_has_4 (lo' := [some (.ref a), some (.int x)]) (st' := [.int (I a 0), .int x]) (I' := I) (J' := J) (Ps := [aO E a 1]) rfl hC ?_
    refine Ez.icmp_ge (off := 7) (tgt := 16) (by decide +kernel) (by decide) (fun h2 => ?_) (fun h2 => ?_)
    · refine Ez.blk B_X1_has_16 (lo' := [some (.ref a), some (.int x)]) (st' := [.int 0]) (I' := I) (J' := J) (Ps := []) rfl trivial ?_
      exact Ez.zret rfl (Or.inl rfl) (by decide +kernel) (hQ _ _ _ ⟨by rw [zb_f (fun q => i32_nlt.mpr h2 q.2)], rfl, rfl⟩)
    · refine Ez.blk B_X1_has_12 (lo' := [some (.ref a), some (.int x)]) (st' := [.int 1]) (I' := I) (J' := J) (Ps := []) rfl trivial ?_
      exact Ez.zret rfl (Or.inr rfl) (by decide +kernel) (hQ _ _ _ ⟨by rw [zb_t ⟨i32_nlt.mp h1, Classical.not_not.mp (fun q => h2 (i32_nlt.mp q))⟩], rfl, rfl⟩)
set_option maxRecDepth 4000 in
theorem s_start (d : Nat) (E : aE) (I : aI) (J : aJ) (a nn D : Nat) (hC : CE E a) (hn : nn ≤ 6) : Sp m_X1_start (d + 1) [.ref a, .int (nI nn), .int (nI D)] E I J (fun r I' J' => r = none ∧ J' = J ∧ (I' a 0 = nI nn ∧ I' a 1 = nI D ∧ ∀ k, k ≠ 0 → k ≠ 1 → I' a k = I a k) ∧ (∀ s, s < 6 → I' (a + 1) s = 0) ∧ (∀ k, k < 36 → I' (a + 2) k = if k % 7 = 0 ∧ k / 7 < nn then nI D else 0) ∧ ∀ b, b ≠ a → b ≠ a + 1 → b ≠ a + 2 → I' b = I b) := by
  refine Sp.of (lo := [some (.ref a), some (.int (nI nn)), some (.int (nI D)), none]) rfl (fun Q hQ => ?_)
  obtain ⟨I0, hI0⟩ : ∃ I0, I0 = aUp (aUp I a 0 (nI nn)) a 1 (nI D) := ⟨_, rfl⟩
  have L3 : ∀ k, k ≤ nn → ∀ (I1 : aI), ((I1 a = I0 a ∧ (∀ b, b ≠ a → b ≠ a + 1 → b ≠ a + 2 → I1 b = I0 b)) ∧ (∀ s, s < 6 → I1 (a + 1) s = 0) ∧ ∀ j, j < 36 → I1 (a + 2) j = if j % 7 = 0 ∧ j / 7 < k then nI D else 0) → Ez m_X1_start (d + 1) 54 [some (.ref a), some (.int (nI nn)), some (.int (nI D)), some (.int (nI k))] [] E I1 J Q := by
    refine for_up ?_ ?_
    · intro I1 hi
      obtain ⟨⟨i1, i2⟩, i3, i4⟩ := hi
      refine Ez.blk B_X1_start_54 (lo' := [some (.ref a), some (.int (nI nn)), some (.int (nI D)), some (.int (nI nn))]) (st' := [.int (nI nn), .int (nI nn)]) (I' := I1) (J' := J) (Ps := []) rfl trivial ?_
      refine Ez.n_icmp_ge (off := 21) (tgt := 77) (by decide +kernel) (by decide) (a := nn) (b := nn) rfl rfl (by omega) (by omega) (fun h => ?_) (fun h => absurd h (by omega))
      exact Ez.vret rfl (by decide +kernel) (hQ _ _ _ ⟨rfl, rfl, ⟨by rw [i1, hI0, aUp_nk (by decide), aUp_eq], by rw [i1, hI0, aUp_eq], fun j h0 h1 => by rw [i1, hI0, aUp_nk h1, aUp_nk h0]⟩, i3, i4, fun b h0 h1 h2 => by rw [i2 b h0 h1 h2, hI0, aUp_ne h0, aUp_ne h0]⟩)
    · intro k hk ih I1 hi
      obtain ⟨⟨i1, i2⟩, i3, i4⟩ := hi
      refine Ez.blk B_X1_start_54 (lo' := [some (.ref a), some (.int (nI nn)), some (.int (nI D)), some (.int (nI k))]) (st' := [.int (nI nn), .int (nI k)]) (I' := I1) (J' := J) (Ps := []) rfl trivial ?_
      refine Ez.n_icmp_ge (off := 21) (tgt := 77) (by decide +kernel) (by decide) (a := k) (b := nn) rfl rfl (by omega) (by omega) (fun h => absurd h (by omega)) (fun h => ?_)
      refine Ez.blk B_X1_start_59 (lo' := [some (.ref a), some (.int (nI nn)), some (.int (nI D)), some (.int (nI k + 1))]) (st' := []) (I' := (aUp I1 (E.2.2 a 5) (((nI k * 6) + nI k).toNatClampNeg) (nI D))) (J' := J) (Ps := [aO E a 1 ∧ E.2.2 a 5 ≠ 0, aAr E 1 (E.2.2 a 5) ((nI k * 6) + nI k)]) rfl ⟨(CE_r5 hC), (CE_a5 hC (vin (n := ((k * 6) + k)) (eq_add (a := (k * 6)) (b := k) (eq_mul (a := k) (b := 6) rfl rfl) rfl) (by omega) (by decide)))⟩ ?_
      rw [cln (x := ((nI k * 6) + nI k)) (n := ((k * 6) + k)) (eq_add (a := (k * 6)) (b := k) (eq_mul (a := k) (b := 6) rfl rfl) rfl) (by omega)]
      rw [show (nI k + 1) = nI (k + 1) from (eq_add (a := k) (b := 1) rfl rfl)]
      rw [hC.2.2.1]
      refine ih _ ⟨⟨by rw [aUp_ne (by omega)]; exact i1, fun b h0 h1 h2 => by rw [aUp_ne h2]; exact i2 b h0 h1 h2⟩, fun s hs => by rw [aUp_ne (by omega)]; exact i3 s hs, fun j hj => ?_⟩
      unfold aUp
      by_cases e : j = k * 6 + k
      · rw [if_pos ⟨rfl, e⟩, if_pos (by omega)]
      · rw [if_neg (fun q => e q.2), i4 j hj]
        by_cases e2 : j % 7 = 0 ∧ j / 7 < k
        · rw [if_pos e2, if_pos (by omega)]
        · rw [if_neg e2, if_neg (by omega)]
  have L2 : ∀ k, k ≤ 36 → ∀ (I1 : aI), ((I1 a = I0 a ∧ (∀ b, b ≠ a → b ≠ a + 1 → b ≠ a + 2 → I1 b = I0 b)) ∧ (∀ s, s < 6 → I1 (a + 1) s = 0) ∧ ∀ j, j < k → I1 (a + 2) j = 0) → Ez m_X1_start (d + 1) 33 [some (.ref a), some (.int (nI nn)), some (.int (nI D)), some (.int (nI k))] [] E I1 J Q := by
    refine for_up ?_ ?_
    · intro I1 hi
      obtain ⟨⟨i1, i2⟩, i3, i4⟩ := hi
      refine Ez.blk B_X1_start_33 (lo' := [some (.ref a), some (.int (nI nn)), some (.int (nI D)), some (.int (nI 36))]) (st' := [.int 36, .int (nI 36)]) (I' := I1) (J' := J) (Ps := []) rfl trivial ?_
      refine Ez.n_icmp_ge (off := 16) (tgt := 52) (by decide +kernel) (by decide) (a := 36) (b := 36) rfl rfl (by omega) (by omega) (fun h => ?_) (fun h => absurd h (by omega))
      refine Ez.blk B_X1_start_52 (lo' := [some (.ref a), some (.int (nI nn)), some (.int (nI D)), some (.int 0)]) (st' := []) (I' := I1) (J' := J) (Ps := []) rfl trivial ?_
      exact L3 0 (by omega) I1 ⟨⟨i1, i2⟩, i3, fun j hj => by rw [if_neg (by omega)]; exact i4 j hj⟩
    · intro k hk ih I1 hi
      obtain ⟨⟨i1, i2⟩, i3, i4⟩ := hi
      refine Ez.blk B_X1_start_33 (lo' := [some (.ref a), some (.int (nI nn)), some (.int (nI D)), some (.int (nI k))]) (st' := [.int 36, .int (nI k)]) (I' := I1) (J' := J) (Ps := []) rfl trivial ?_
      refine Ez.n_icmp_ge (off := 16) (tgt := 52) (by decide +kernel) (by decide) (a := k) (b := 36) rfl rfl (by omega) (by omega) (fun h => absurd h (by omega)) (fun h => ?_)
      refine Ez.blk B_X1_start_39 (lo' := [some (.ref a), some (.int (nI nn)), some (.int (nI D)), some (.int (nI k + 1))]) (st' := []) (I' := (aUp I1 (E.2.2 a 5) ((nI k).toNatClampNeg) 0)) (J' := J) (Ps := [aO E a 1 ∧ E.2.2 a 5 ≠ 0, aAr E 1 (E.2.2 a 5) (nI k)]) rfl ⟨(CE_r5 hC), (CE_a5 hC (vin (n := k) rfl (by omega) (by decide)))⟩ ?_
      rw [cln (x := nI k) (n := k) rfl (by omega)]
      rw [show (nI k + 1) = nI (k + 1) from (eq_add (a := k) (b := 1) rfl rfl)]
      rw [hC.2.2.1]
      refine ih _ ⟨⟨by rw [aUp_ne (by omega)]; exact i1, fun b h0 h1 h2 => by rw [aUp_ne h2]; exact i2 b h0 h1 h2⟩, fun s hs => by rw [aUp_ne (by omega)]; exact i3 s hs, fun j hj => ?_⟩
      by_cases e : j = k
      · rw [e, aUp_eq]
      · rw [aUp_nk e]; exact i4 j (by omega)
  have L1 : ∀ k, k ≤ 6 → ∀ (I1 : aI), ((I1 a = I0 a ∧ (∀ b, b ≠ a → b ≠ a + 1 → b ≠ a + 2 → I1 b = I0 b)) ∧ ∀ s, s < k → I1 (a + 1) s = 0) → Ez m_X1_start (d + 1) 12 [some (.ref a), some (.int (nI nn)), some (.int (nI D)), some (.int (nI k))] [] E I1 J Q := by
    refine for_up ?_ ?_
    · intro I1 hi
      obtain ⟨⟨i1, i2⟩, i3⟩ := hi
      refine Ez.blk B_X1_start_12 (lo' := [some (.ref a), some (.int (nI nn)), some (.int (nI D)), some (.int (nI 6))]) (st' := [.int 6, .int (nI 6)]) (I' := I1) (J' := J) (Ps := []) rfl trivial ?_
      refine Ez.n_icmp_ge (off := 16) (tgt := 31) (by decide +kernel) (by decide) (a := 6) (b := 6) rfl rfl (by omega) (by omega) (fun h => ?_) (fun h => absurd h (by omega))
      refine Ez.blk B_X1_start_31 (lo' := [some (.ref a), some (.int (nI nn)), some (.int (nI D)), some (.int 0)]) (st' := []) (I' := I1) (J' := J) (Ps := []) rfl trivial ?_
      exact L2 0 (by omega) I1 ⟨⟨i1, i2⟩, i3, fun j hj => by omega⟩
    · intro k hk ih I1 hi
      obtain ⟨⟨i1, i2⟩, i3⟩ := hi
      refine Ez.blk B_X1_start_12 (lo' := [some (.ref a), some (.int (nI nn)), some (.int (nI D)), some (.int (nI k))]) (st' := [.int 6, .int (nI k)]) (I' := I1) (J' := J) (Ps := []) rfl trivial ?_
      refine Ez.n_icmp_ge (off := 16) (tgt := 31) (by decide +kernel) (by decide) (a := k) (b := 6) rfl rfl (by omega) (by omega) (fun h => absurd h (by omega)) (fun h => ?_)
      refine Ez.blk B_X1_start_18 (lo' := [some (.ref a), some (.int (nI nn)), some (.int (nI D)), some (.int (nI k + 1))]) (st' := []) (I' := (aUp I1 (E.2.2 a 4) ((nI k).toNatClampNeg) 0)) (J' := J) (Ps := [aO E a 1 ∧ E.2.2 a 4 ≠ 0, aAr E 1 (E.2.2 a 4) (nI k)]) rfl ⟨(CE_r4 hC), (CE_a4 hC (vin (n := k) rfl (by omega) (by decide)))⟩ ?_
      rw [cln (x := nI k) (n := k) rfl (by omega)]
      rw [show (nI k + 1) = nI (k + 1) from (eq_add (a := k) (b := 1) rfl rfl)]
      rw [hC.2.1]
      refine ih _ ⟨⟨by rw [aUp_ne (by omega)]; exact i1, fun b h0 h1 h2 => by rw [aUp_ne h1]; exact i2 b h0 h1 h2⟩, fun j hj => ?_⟩
      by_cases e : j = k
      · rw [e, aUp_eq]
      · rw [aUp_nk e]; exact i3 j (by omega)
  refine Ez.blk B_X1_start_0 (lo' := [some (.ref a), some (.int (nI nn)), some (.int (nI D)), some (.int 0)]) (st' := []) (I' := (aUp (aUp I a 0 (nI nn)) a 1 (nI D))) (J' := J) (Ps := [aO E a 1, aO E a 1]) rfl ⟨hC.1, hC.1⟩ ?_
  rw [← hI0]
  exact L1 0 (by omega) I0 ⟨⟨rfl, fun _ _ _ _ => rfl⟩, fun s hs => by omega⟩

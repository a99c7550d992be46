/-! THE REFERENCE: transport, the first coupling, optimize, minimumCost -/
theorem Mg_ext {n : Nat} {U V F S D S' D' : Nat → Nat} (h : Mg n U V F S D) (h1 : ∀ i, i < n → S' i = S i) (h2 : ∀ j, j < n → D' j = D j) : Mg n U V F S' D' := ⟨fun i hi => by rw [h1 i hi]; exact h.1 i hi, fun j hj => by rw [h2 j hj]; exact h.2 j hj⟩
theorem fill_step {n : Nat} {U V F S D : Nat → Nat} {i j a : Nat} (hn : n ≤ 6) (hi : i < n) (hj : j < n) (h : Mg n U V F S D) (h1 : a ≤ S i) (h2 : a ≤ D j) : Mg n U V (cup F (i * 6 + j) (F (i * 6 + j) + a)) (cup S i (S i - a)) (cup D j (D j - a)) := by
  refine ⟨fun x hx => ?_, fun y hy => ?_⟩
  · have r := row_cup (H := F) (i0 := i) (v := F (i * 6 + j) + a) hn hj x
    have g := h.1 x hx
    by_cases e : x = i
    · rw [if_pos e, if_pos e] at r
      rw [e] at g r ⊢
      rw [cup_eq]
      omega
    · rw [if_neg e, if_neg e] at r
      rw [cup_ne e]
      omega
  · have r := col_cup (H := F) (i0 := i) (v := F (i * 6 + j) + a) hn hi hj y hy
    have g := h.2 y hy
    by_cases e : y = j
    · rw [if_pos e, if_pos e] at r
      rw [e] at g r ⊢
      rw [cup_eq]
      omega
    · rw [if_neg e, if_neg e] at r
      rw [cup_ne e]
      omega
theorem sm_0all {f : Nat → Nat} {n : Nat} (h : sm f n = 0) : ∀ i, i < n → f i = 0 := fun i hi => by have := sm_le (f := f) hi; omega
theorem fill_done {n : Nat} {U V F S D : Nat → Nat} (h : Mg n U V F S D) (hUV : sm U n = sm V n) (h0 : (∀ i, i < n → S i = 0) ∨ (∀ j, j < n → D j = 0)) : Cpl n U V (mx F) := by
  have hb := Mg_bal h hUV
  have hS : ∀ i, i < n → S i = 0 := by
    rcases h0 with q | q
    · exact q
    · exact sm_0all (by rw [hb]; exact sm_zero q)
  have hD : ∀ i, i < n → D i = 0 := sm_0all (by rw [← hb]; exact sm_zero hS)
  exact ⟨fun i hi => by have := h.1 i hi; rw [hS i hi] at this; exact this, fun j hj => by have := h.2 j hj; rw [hD j hj] at this; exact this⟩
theorem s_fillM (d : Nat) (I : aI) (J : aJ) (c : Nat → Nat) (hc : MC c I) (W : Wc c) (dd : Nat → Nat → Nat) (hd : ∀ i j, i < c 0 → j < c 0 → J 98 (6 * i + j) = lN (dd i j) ∧ dd i j ≤ 1000000000000000) (s t : Nat) (hs : s < c 0) (ht : t < c 0) : Sp m_X10_fill (d + 2) [.ref 93, .int (nI s), .int (nI t)] E0 I J (fun r I' J' => r = none ∧ J' = J ∧ (∃ F, MT (c 0) dd F nfx I' J ∧ Cpl (c 0) (wro_ c s) (wro_ c t) (mx F) ∧ Oz (c 0) F) ∧ ∀ q, q ≠ 100 → q ≠ 101 → I' q = I q) := by
  refine Sp.of (lo := [some (.ref 93), some (.int (nI s)), some (.int (nI t)), none, none, none, none, none]) rfl (fun Q hQ => ?_)
  have w1 := W.1
  have w12 : ∀ i j, i < c 0 → j < c 0 → c (10 + 6 * i + j) ≤ 12 := fun i j hi hj => by have := Wc_w W (6 * i + j) (by omega); rw [show 10 + (6 * i + j) = 10 + 6 * i + j by omega] at this; exact this
  have hUV : sm (wro_ c s) (c 0) = sm (wro_ c t) (c 0) := by rw [Wc_row W s hs, Wc_row W t ht]
  obtain ⟨n, hn⟩ : ∃ n, n = c 0 := ⟨_, rfl⟩
  rw [← hn] at hs ht w1 w12 hUV
  have hN : I 94 0 = nI n := by rw [hn]; exact hc 0 (by decide)
  have LF : ∀ m, ∀ (i j sp dm : Nat) (F S D : Nat → Nat) (I1 : aI), m = (n - i) + (n - j) → i ≤ n → j ≤ n → sp ≤ 12 → dm ≤ 12 → (i < n → S i = sp) → (j < n → D j = dm) → (∀ x, x < i → S x = 0) → (∀ y, y < j → D y = 0) → (∀ x, i < x → x < n → S x = wro_ c s x) → (∀ y, j < y → y < n → D y = wro_ c t y) → Mg n (wro_ c s) (wro_ c t) F S D → Oz n F → (∀ q, q < 36 → I1 100 q = nI (F q)) → (∀ q, q < 36 → I1 101 q = 0) → (∀ q, q ≠ 100 → q ≠ 101 → I1 q = I q) → Ez m_X10_fill (d + 2) 53 [some (.ref 93), some (.int (nI s)), some (.int (nI t)), some (.int (nI i)), some (.int (nI j)), some (.int (nI sp)), some (.int (nI dm)), none] [] E0 I1 J Q := by
    have fin : ∀ (F S D : Nat → Nat) (I1 : aI), Mg n (wro_ c s) (wro_ c t) F S D → ((∀ i, i < n → S i = 0) ∨ (∀ j, j < n → D j = 0)) → Oz n F → (∀ q, q < 36 → I1 100 q = nI (F q)) → (∀ q, q < 36 → I1 101 q = 0) → (∀ q, q ≠ 100 → q ≠ 101 → I1 q = I q) → Q none I1 J := fun F S D I1 h1 h2 h3 h4 h5 h6 => hQ _ _ _ ⟨rfl, rfl, ⟨F, by rw [← hn]; exact ⟨by rw [h6 94 (by decide) (by decide)]; exact hN, by rw [hn]; exact hd, h4, fun i j hi hj => by rw [h5 _ (by omega)]; rfl⟩, by rw [← hn]; exact fill_done h1 hUV h2, by rw [← hn]; exact h3⟩, h6⟩
    intro m
    induction m using Nat.strongRecOn with
    | _ m ih =>
      intro i j sp dm F S D I1 hm hi hj hsp hdm a1 a2 a3 a4 a5 a6 a7 a8 a9 a10 a11
      have n1 : I1 94 0 = nI n := by rw [a11 94 (by decide) (by decide)]; exact hN
      have c1 : MC c I1 := MC_fr hc (a11 94 (by decide) (by decide))
      refine Ez.blk B_X10_fill_53 (lo' := [some (.ref 93), some (.int (nI s)), some (.int (nI t)), some (.int (nI i)), some (.int (nI j)), some (.int (nI sp)), some (.int (nI dm)), none]) (st' := [.int (I1 94 0), .int (nI i)]) (I' := I1) (J' := J) (Ps := [aO E0 93 10 ∧ E0.2.2 93 0 ≠ 0, aAr E0 1 94 0]) rfl ⟨r_93_0, (a_94 (vin (n := 0) rfl (by omega) (by decide)))⟩ ?_
      refine Ez.n_icmp_ge (off := 124) (tgt := 184) (by decide +kernel) (by decide) (a := i) (b := n) rfl n1 (by omega) (by omega) (fun g1 => ?_) (fun g1 => ?_)
      · exact Ez.vret rfl (by decide +kernel) (fin F S D I1 a7 (Or.inl (fun x hx => a3 x (by omega))) a8 a9 a10 a11)
      · refine Ez.blk B_X10_fill_63 (lo' := [some (.ref 93), some (.int (nI s)), some (.int (nI t)), some (.int (nI i)), some (.int (nI j)), some (.int (nI sp)), some (.int (nI dm)), none]) (st' := [.int (I1 94 0), .int (nI j)]) (I' := I1) (J' := J) (Ps := [aO E0 93 10 ∧ E0.2.2 93 0 ≠ 0, aAr E0 1 94 0]) rfl ⟨r_93_0, (a_94 (vin (n := 0) rfl (by omega) (by decide)))⟩ ?_
        refine Ez.n_icmp_ge (off := 113) (tgt := 184) (by decide +kernel) (by decide) (a := j) (b := n) rfl n1 (by omega) (by omega) (fun g2 => ?_) (fun g2 => ?_)
        · exact Ez.vret rfl (by decide +kernel) (fin F S D I1 a7 (Or.inr (fun y hy => a4 y (by omega))) a8 a9 a10 a11)
        · have b1 := a1 g1
          have b2 := a2 g2
          have LA : ∀ am : Nat, am = min sp dm → Ez m_X10_fill (d + 2) 123 [some (.ref 93), some (.int (nI s)), some (.int (nI t)), some (.int (nI i)), some (.int (nI j)), some (.int (nI sp - nI am)), some (.int (nI dm - nI am)), some (.int (nI am))] [.int (nI sp - nI am)] E0 (aUp I1 100 (6 * i + j) (I1 100 (6 * i + j) + nI am)) J Q := by
            intro am ham
            have m1 : am ≤ sp := by omega
            have m2 : am ≤ dm := by omega
            rw [pk_sub m1, pk_sub m2, a9 (6 * i + j) (by omega), nI_add, show 6 * i + j = i * 6 + j by omega]
            have st := fill_step (a := am) (by omega) g1 g2 a7 (by omega) (by omega)
            have oz : Oz n (cup F (i * 6 + j) (F (i * 6 + j) + am)) := fun q h1 h2 => by rw [cup_ne (h2 i j g1 g2)]; exact a8 q h1 h2
            generalize hI2 : aUp I1 100 (i * 6 + j) (nI (F (i * 6 + j) + am)) = I2
            have c9 : ∀ q, q < 36 → I2 100 q = nI (cup F (i * 6 + j) (F (i * 6 + j) + am) q) := fun q hq => by
              rw [← hI2]
              by_cases e : q = i * 6 + j
              · rw [e, aUp_eq, cup_eq]
              · rw [aUp_nk e, cup_ne e]; exact a9 q hq
            have c10 : ∀ q, q < 36 → I2 101 q = 0 := fun q hq => by rw [← hI2, aUp_ne (by decide)]; exact a10 q hq
            have c11 : ∀ q, q ≠ 100 → q ≠ 101 → I2 q = I q := fun q h0 h1 => by rw [← hI2, aUp_ne h0]; exact a11 q h0 h1
            have n2 : I2 94 0 = nI n := by rw [c11 94 (by decide) (by decide)]; exact hN
            have c2 : MC c I2 := MC_fr hc (c11 94 (by decide) (by decide))
            refine Ez.n_if_ne (off := 31) (tgt := 154) (by decide +kernel) (by decide) (a := (sp - am)) rfl (by omega) (fun g3 => ?_) (fun g3 => ?_)
            · have dz : dm - am = 0 := by omega
              refine Ez.blk B_X10_fill_154 (lo' := [some (.ref 93), some (.int (nI s)), some (.int (nI t)), some (.int (nI i)), some (.int (nI j + 1)), some (.int (nI (sp - am))), some (.int (nI (dm - am))), some (.int (nI am))]) (st' := [.int (I2 94 0), .int (nI j + 1)]) (I' := I2) (J' := J) (Ps := [aO E0 93 10 ∧ E0.2.2 93 0 ≠ 0, aAr E0 1 94 0]) rfl ⟨r_93_0, (a_94 (vin (n := 0) rfl (by omega) (by decide)))⟩ ?_
              rw [show (nI j + 1) = nI (j + 1) from (eq_add (a := j) (b := 1) rfl rfl)]
              refine Ez.n_icmp_ge (off := 13) (tgt := 178) (by decide +kernel) (by decide) (a := (j + 1)) (b := n) rfl n2 (by omega) (by omega) (fun g4 => ?_) (fun g4 => ?_)
              · refine Ez.blk B_X10_fill_178 (lo' := [some (.ref 93), some (.int (nI s)), some (.int (nI t)), some (.int (nI i)), some (.int (nI (j + 1))), some (.int (nI (sp - am))), some (.int 0), some (.int (nI am))]) (st' := []) (I' := I2) (J' := J) (Ps := []) rfl trivial ?_
                refine Ez.drops [7] (lo' := [some (.ref 93), some (.int (nI s)), some (.int (nI t)), some (.int (nI i)), some (.int (nI (j + 1))), some (.int (nI (sp - am))), some (.int 0), none]) rfl ?_
                exact ih _ (by omega) i (j + 1) (sp - am) 0 (cup F (i * 6 + j) (F (i * 6 + j) + am)) (cup S i (S i - am)) (cup D j (D j - am)) I2 rfl (by omega) (by omega) (by omega) (by omega) (fun _ => by rw [cup_eq, b1]) (fun q => absurd q (by omega)) (fun x hx => by rw [cup_ne (by omega)]; exact a3 x hx) (fun y hy => by
                  by_cases e : y = j
                  · rw [e, cup_eq, b2]; omega
                  · rw [cup_ne e]; exact a4 y (by omega)) (fun x h1 h2 => by rw [cup_ne (by omega)]; exact a5 x h1 h2) (fun y h1 h2 => by rw [cup_ne (by omega)]; exact a6 y (by omega) h2) st oz c9 c10 c11
              · refine Ez.blk B_X10_fill_168 (lo' := [some (.ref 93), some (.int (nI s)), some (.int (nI t)), some (.int (nI i)), some (.int (nI (j + 1))), some (.int (nI (sp - am))), some (.int (nI (dm - am))), some (.int (nI am))]) (st' := [.int (nI (j + 1)), .int (nI t), .ref 93]) (I' := I2) (J' := J) (Ps := []) rfl trivial ?_
                refine Ez.callV (As := [.int (nI t), .int (nI (j + 1))]) (b := 93) (rest := []) kn_X10_w ml_10_116 im_X10_w se_X10_w rfl (by decide +kernel) rfl rfl (Nat.le_of_ble_eq_true rfl) (Nat.le_of_ble_eq_true rfl) o_93 (s_w _ I2 J c c2 t (j + 1) (by omega) (by omega)) (fun r I3 J3 hq => ?_)
                obtain ⟨rfl, rfl, rfl⟩ := hq
                refine Ez.blk B_X10_fill_175 (lo' := [some (.ref 93), some (.int (nI s)), some (.int (nI t)), some (.int (nI i)), some (.int (nI (j + 1))), some (.int (nI (sp - am))), some (.int (nI (dm - am))), some (.int (nI am))]) (st' := [.int (nI (c (10 + 6 * t + (j + 1))))]) (I' := I3) (J' := J3) (Ps := []) rfl trivial ?_
                refine Ez.blk B_X10_fill_179 (lo' := [some (.ref 93), some (.int (nI s)), some (.int (nI t)), some (.int (nI i)), some (.int (nI (j + 1))), some (.int (nI (sp - am))), some (.int (nI (c (10 + 6 * t + (j + 1))))), some (.int (nI am))]) (st' := []) (I' := I3) (J' := J3) (Ps := []) rfl trivial ?_
                refine Ez.drops [7] (lo' := [some (.ref 93), some (.int (nI s)), some (.int (nI t)), some (.int (nI i)), some (.int (nI (j + 1))), some (.int (nI (sp - am))), some (.int (nI (c (10 + 6 * t + (j + 1))))), none]) rfl ?_
                exact ih _ (by omega) i (j + 1) (sp - am) (c (10 + 6 * t + (j + 1))) (cup F (i * 6 + j) (F (i * 6 + j) + am)) (cup S i (S i - am)) (cup D j (D j - am)) I3 rfl (by omega) (by omega) (by omega) (w12 t (j + 1) ht g4) (fun _ => by rw [cup_eq, b1]) (fun q => by rw [cup_ne (by omega)]; exact a6 (j + 1) (by omega) q) (fun x hx => by rw [cup_ne (by omega)]; exact a3 x hx) (fun y hy => by
                  by_cases e : y = j
                  · rw [e, cup_eq, b2]; omega
                  · rw [cup_ne e]; exact a4 y (by omega)) (fun x h1 h2 => by rw [cup_ne (by omega)]; exact a5 x h1 h2) (fun y h1 h2 => by rw [cup_ne (by omega)]; exact a6 y (by omega) h2) st oz c9 c10 c11
            · refine Ez.blk B_X10_fill_126 (lo' := [some (.ref 93), some (.int (nI s)), some (.int (nI t)), some (.int (nI i + 1)), some (.int (nI j)), some (.int (nI (sp - am))), some (.int (nI (dm - am))), some (.int (nI am))]) (st' := [.int (I2 94 0), .int (nI i + 1)]) (I' := I2) (J' := J) (Ps := [aO E0 93 10 ∧ E0.2.2 93 0 ≠ 0, aAr E0 1 94 0]) rfl ⟨r_93_0, (a_94 (vin (n := 0) rfl (by omega) (by decide)))⟩ ?_
              rw [show (nI i + 1) = nI (i + 1) from (eq_add (a := i) (b := 1) rfl rfl)]
              refine Ez.n_icmp_ge (off := 12) (tgt := 148) (by decide +kernel) (by decide) (a := (i + 1)) (b := n) rfl n2 (by omega) (by omega) (fun g5 => ?_) (fun g5 => ?_)
              · refine Ez.blk B_X10_fill_148 (lo' := [some (.ref 93), some (.int (nI s)), some (.int (nI t)), some (.int (nI (i + 1))), some (.int (nI j)), some (.int 0), some (.int (nI (dm - am))), some (.int (nI am))]) (st' := []) (I' := I2) (J' := J) (Ps := []) rfl trivial ?_
                refine Ez.blk B_X10_fill_181 (lo' := [some (.ref 93), some (.int (nI s)), some (.int (nI t)), some (.int (nI (i + 1))), some (.int (nI j)), some (.int 0), some (.int (nI (dm - am))), some (.int (nI am))]) (st' := []) (I' := I2) (J' := J) (Ps := []) rfl trivial ?_
                refine Ez.drops [7] (lo' := [some (.ref 93), some (.int (nI s)), some (.int (nI t)), some (.int (nI (i + 1))), some (.int (nI j)), some (.int 0), some (.int (nI (dm - am))), none]) rfl ?_
                exact ih _ (by omega) (i + 1) j 0 (dm - am) (cup F (i * 6 + j) (F (i * 6 + j) + am)) (cup S i (S i - am)) (cup D j (D j - am)) I2 rfl (by omega) (by omega) (by omega) (by omega) (fun q => absurd q (by omega)) (fun _ => by rw [cup_eq, b2]) (fun x hx => by
                  by_cases e : x = i
                  · rw [e, cup_eq, b1]; omega
                  · rw [cup_ne e]; exact a3 x (by omega)) (fun y hy => by rw [cup_ne (by omega)]; exact a4 y hy) (fun x h1 h2 => by rw [cup_ne (by omega)]; exact a5 x (by omega) h2) (fun y h1 h2 => by rw [cup_ne (by omega)]; exact a6 y h1 h2) st oz c9 c10 c11
              · refine Ez.blk B_X10_fill_139 (lo' := [some (.ref 93), some (.int (nI s)), some (.int (nI t)), some (.int (nI (i + 1))), some (.int (nI j)), some (.int (nI (sp - am))), some (.int (nI (dm - am))), some (.int (nI am))]) (st' := [.int (nI (i + 1)), .int (nI s), .ref 93]) (I' := I2) (J' := J) (Ps := []) rfl trivial ?_
                refine Ez.callV (As := [.int (nI s), .int (nI (i + 1))]) (b := 93) (rest := []) kn_X10_w ml_10_116 im_X10_w se_X10_w rfl (by decide +kernel) rfl rfl (Nat.le_of_ble_eq_true rfl) (Nat.le_of_ble_eq_true rfl) o_93 (s_w _ I2 J c c2 s (i + 1) (by omega) (by omega)) (fun r I3 J3 hq => ?_)
                obtain ⟨rfl, rfl, rfl⟩ := hq
                refine Ez.blk B_X10_fill_145 (lo' := [some (.ref 93), some (.int (nI s)), some (.int (nI t)), some (.int (nI (i + 1))), some (.int (nI j)), some (.int (nI (sp - am))), some (.int (nI (dm - am))), some (.int (nI am))]) (st' := [.int (nI (c (10 + 6 * s + (i + 1))))]) (I' := I3) (J' := J3) (Ps := []) rfl trivial ?_
                refine Ez.blk B_X10_fill_149 (lo' := [some (.ref 93), some (.int (nI s)), some (.int (nI t)), some (.int (nI (i + 1))), some (.int (nI j)), some (.int (nI (c (10 + 6 * s + (i + 1))))), some (.int (nI (dm - am))), some (.int (nI am))]) (st' := []) (I' := I3) (J' := J3) (Ps := []) rfl trivial ?_
                refine Ez.blk B_X10_fill_181 (lo' := [some (.ref 93), some (.int (nI s)), some (.int (nI t)), some (.int (nI (i + 1))), some (.int (nI j)), some (.int (nI (c (10 + 6 * s + (i + 1))))), some (.int (nI (dm - am))), some (.int (nI am))]) (st' := []) (I' := I3) (J' := J3) (Ps := []) rfl trivial ?_
                refine Ez.drops [7] (lo' := [some (.ref 93), some (.int (nI s)), some (.int (nI t)), some (.int (nI (i + 1))), some (.int (nI j)), some (.int (nI (c (10 + 6 * s + (i + 1))))), some (.int (nI (dm - am))), none]) rfl ?_
                exact ih _ (by omega) (i + 1) j (c (10 + 6 * s + (i + 1))) (dm - am) (cup F (i * 6 + j) (F (i * 6 + j) + am)) (cup S i (S i - am)) (cup D j (D j - am)) I3 rfl (by omega) (by omega) (w12 s (i + 1) hs g5) (by omega) (fun q => by rw [cup_ne (by omega)]; exact a5 (i + 1) (by omega) q) (fun _ => by rw [cup_eq, b2]) (fun x hx => by
                  by_cases e : x = i
                  · rw [e, cup_eq, b1]; omega
                  · rw [cup_ne e]; exact a3 x (by omega)) (fun y hy => by rw [cup_ne (by omega)]; exact a4 y hy) (fun x h1 h2 => by rw [cup_ne (by omega)]; exact a5 x (by omega) h2) (fun y h1 h2 => by rw [cup_ne (by omega)]; exact a6 y h1 h2) st oz c9 c10 c11
          refine Ez.blk B_X10_fill_74 (lo' := [some (.ref 93), some (.int (nI s)), some (.int (nI t)), some (.int (nI i)), some (.int (nI j)), some (.int (nI sp)), some (.int (nI dm)), none]) (st' := [.int (nI dm), .int (nI sp)]) (I' := I1) (J' := J) (Ps := []) rfl trivial ?_
          refine Ez.n_icmp_ge (off := 8) (tgt := 86) (by decide +kernel) (by decide) (a := sp) (b := dm) rfl rfl (by omega) (by omega) (fun g6 => ?_) (fun g6 => ?_)
          · refine Ez.blk B_X10_fill_86 (lo' := [some (.ref 93), some (.int (nI s)), some (.int (nI t)), some (.int (nI i)), some (.int (nI j)), some (.int (nI sp - nI dm)), some (.int (nI dm - nI dm)), some (.int (nI dm))]) (st' := [.int (nI sp - nI dm)]) (I' := (aUp I1 100 (((6 * nI i) + nI j).toNatClampNeg) (I1 100 (((6 * nI i) + nI j).toNatClampNeg) + nI dm))) (J' := J) (Ps := [aO E0 93 10 ∧ E0.2.2 93 8 ≠ 0, aAr E0 1 100 ((6 * nI i) + nI j), aAr E0 1 100 ((6 * nI i) + nI j)]) rfl ⟨r_93_8, (a_100 (vin (n := (6 * i + j)) (eq_add (a := (6 * i)) (b := j) (eq_mul (a := 6) (b := i) rfl rfl) rfl) (by omega) (by decide))), (a_100 (vin (n := (6 * i + j)) (eq_add (a := (6 * i)) (b := j) (eq_mul (a := 6) (b := i) rfl rfl) rfl) (by omega) (by decide)))⟩ ?_
            rw [cln (x := ((6 * nI i) + nI j)) (n := (6 * i + j)) (eq_add (a := (6 * i)) (b := j) (eq_mul (a := 6) (b := i) rfl rfl) rfl) (by omega)]
            exact LA dm (by omega)
          · refine Ez.blk B_X10_fill_81 (lo' := [some (.ref 93), some (.int (nI s)), some (.int (nI t)), some (.int (nI i)), some (.int (nI j)), some (.int (nI sp)), some (.int (nI dm)), none]) (st' := [.int (nI sp)]) (I' := I1) (J' := J) (Ps := []) rfl trivial ?_
            refine Ez.blk B_X10_fill_88 (lo' := [some (.ref 93), some (.int (nI s)), some (.int (nI t)), some (.int (nI i)), some (.int (nI j)), some (.int (nI sp - nI sp)), some (.int (nI dm - nI sp)), some (.int (nI sp))]) (st' := [.int (nI sp - nI sp)]) (I' := (aUp I1 100 (((6 * nI i) + nI j).toNatClampNeg) (I1 100 (((6 * nI i) + nI j).toNatClampNeg) + nI sp))) (J' := J) (Ps := [aO E0 93 10 ∧ E0.2.2 93 8 ≠ 0, aAr E0 1 100 ((6 * nI i) + nI j), aAr E0 1 100 ((6 * nI i) + nI j)]) rfl ⟨r_93_8, (a_100 (vin (n := (6 * i + j)) (eq_add (a := (6 * i)) (b := j) (eq_mul (a := 6) (b := i) rfl rfl) rfl) (by omega) (by decide))), (a_100 (vin (n := (6 * i + j)) (eq_add (a := (6 * i)) (b := j) (eq_mul (a := 6) (b := i) rfl rfl) rfl) (by omega) (by decide)))⟩ ?_
            rw [cln (x := ((6 * nI i) + nI j)) (n := (6 * i + j)) (eq_add (a := (6 * i)) (b := j) (eq_mul (a := 6) (b := i) rfl rfl) rfl) (by omega)]
            exact LA sp (by omega)
  have L0 : ∀ k, k ≤ 36 → ∀ (I1 : aI), ((∀ q, q < k → I1 100 q = 0 ∧ I1 101 q = 0) ∧ ∀ q, q ≠ 100 → q ≠ 101 → I1 q = I q) → Ez m_X10_fill (d + 2) 24 [some (.ref 93), some (.int (nI s)), some (.int (nI t)), some (.int 0), some (.int 0), some (.int (nI (c (10 + 6 * s + 0)))), some (.int (nI (c (10 + 6 * t + 0)))), some (.int (nI k))] [] E0 I1 J Q := by
    refine for_up ?_ ?_
    · intro I1 hi
      refine Ez.blk B_X10_fill_24 (lo' := [some (.ref 93), some (.int (nI s)), some (.int (nI t)), some (.int 0), some (.int 0), some (.int (nI (c (10 + 6 * s + 0)))), some (.int (nI (c (10 + 6 * t + 0)))), some (.int (nI 36))]) (st' := [.int 36, .int (nI 36)]) (I' := I1) (J' := J) (Ps := []) rfl trivial ?_
      refine Ez.n_icmp_ge (off := 25) (tgt := 53) (by decide +kernel) (by decide) (a := 36) (b := 36) rfl rfl (by omega) (by omega) (fun h => ?_) (fun h => absurd h (by omega))
      refine Ez.drops [7] (lo' := [some (.ref 93), some (.int (nI s)), some (.int (nI t)), some (.int 0), some (.int 0), some (.int (nI (c (10 + 6 * s + 0)))), some (.int (nI (c (10 + 6 * t + 0)))), none]) rfl ?_
      exact LF _ 0 0 (c (10 + 6 * s + 0)) (c (10 + 6 * t + 0)) (fun _ => 0) (wro_ c s) (wro_ c t) I1 rfl (by omega) (by omega) (w12 s 0 hs (by omega)) (w12 t 0 ht (by omega)) (fun _ => rfl) (fun _ => rfl) (fun x hx => by omega) (fun y hy => by omega) (fun _ _ _ => rfl) (fun _ _ _ => rfl) ⟨fun i hi => by rw [sm_zero (fun _ _ => rfl), Nat.zero_add], fun j hj => by rw [sm_zero (fun _ _ => rfl), Nat.zero_add]⟩ (fun _ _ _ => rfl) (fun q hq => (hi.1 q hq).1) (fun q hq => (hi.1 q hq).2) hi.2
    · intro k hk ih I1 hi
      refine Ez.blk B_X10_fill_24 (lo' := [some (.ref 93), some (.int (nI s)), some (.int (nI t)), some (.int 0), some (.int 0), some (.int (nI (c (10 + 6 * s + 0)))), some (.int (nI (c (10 + 6 * t + 0)))), some (.int (nI k))]) (st' := [.int 36, .int (nI k)]) (I' := I1) (J' := J) (Ps := []) rfl trivial ?_
      refine Ez.n_icmp_ge (off := 25) (tgt := 53) (by decide +kernel) (by decide) (a := k) (b := 36) rfl rfl (by omega) (by omega) (fun h => absurd h (by omega)) (fun h => ?_)
      refine Ez.blk B_X10_fill_31 (lo' := [some (.ref 93), some (.int (nI s)), some (.int (nI t)), some (.int 0), some (.int 0), some (.int (nI (c (10 + 6 * s + 0)))), some (.int (nI (c (10 + 6 * t + 0)))), some (.int (nI k + 1))]) (st' := []) (I' := (aUp (aUp I1 100 ((nI k).toNatClampNeg) 0) 101 ((nI k).toNatClampNeg) 0)) (J' := J) (Ps := [aO E0 93 10 ∧ E0.2.2 93 8 ≠ 0, aAr E0 1 100 (nI k), aO E0 93 10 ∧ E0.2.2 93 9 ≠ 0, aAr E0 3 101 (nI k) ∧ (0 = 0 ∨ 0 = 1)]) rfl ⟨r_93_8, (a_100 (vin (n := k) rfl (by omega) (by decide))), r_93_9, ⟨(a_101 (vin (n := k) rfl (by omega) (by decide))), (Or.inl rfl)⟩⟩ ?_
      rw [cln (x := nI k) (n := k) rfl (by omega)]
      rw [show (nI k + 1) = nI (k + 1) from (eq_add (a := k) (b := 1) rfl rfl)]
      exact ih _ ⟨fun q hq => by
        by_cases e : q = k
        · rw [e, aUp_eq, aUp_ne (by decide), aUp_eq]; exact ⟨rfl, rfl⟩
        · rw [aUp_nk e, aUp_nk e, aUp_nk e, aUp_nk e]; exact hi.1 q (by omega), fun q h0 h1 => by rw [aUp_ne h1, aUp_ne h0]; exact hi.2 q h0 h1⟩
  refine Ez.blk B_X10_fill_0 (lo' := [some (.ref 93), some (.int (nI s)), some (.int (nI t)), some (.int 0), some (.int 0), none, none, none]) (st' := [.int 0, .int (nI s), .ref 93]) (I' := I) (J' := J) (Ps := []) rfl trivial ?_
  refine Ez.callV (As := [.int (nI s), .int 0]) (b := 93) (rest := []) kn_X10_w ml_10_116 im_X10_w se_X10_w rfl (by decide +kernel) rfl rfl (Nat.le_of_ble_eq_true rfl) (Nat.le_of_ble_eq_true rfl) o_93 (s_w _ I J c hc s 0 (by omega) (by omega)) (fun r I1 J1 hq => ?_)
  obtain ⟨rfl, rfl, rfl⟩ := hq
  refine Ez.blk B_X10_fill_11 (lo' := [some (.ref 93), some (.int (nI s)), some (.int (nI t)), some (.int 0), some (.int 0), some (.int (nI (c (10 + 6 * s + 0)))), none, none]) (st' := [.int 0, .int (nI t), .ref 93]) (I' := I1) (J' := J1) (Ps := []) rfl trivial ?_
  refine Ez.callV (As := [.int (nI t), .int 0]) (b := 93) (rest := []) kn_X10_w ml_10_116 im_X10_w se_X10_w rfl (by decide +kernel) rfl rfl (Nat.le_of_ble_eq_true rfl) (Nat.le_of_ble_eq_true rfl) o_93 (s_w _ I1 J1 c hc t 0 (by omega) (by omega)) (fun r I2 J2 hq => ?_)
  obtain ⟨rfl, rfl, rfl⟩ := hq
  refine Ez.blk B_X10_fill_19 (lo' := [some (.ref 93), some (.int (nI s)), some (.int (nI t)), some (.int 0), some (.int 0), some (.int (nI (c (10 + 6 * s + 0)))), some (.int (nI (c (10 + 6 * t + 0)))), some (.int 0)]) (st' := []) (I' := I2) (J' := J2) (Ps := []) rfl trivial ?_
  exact L0 0 (by omega) I2 ⟨fun q hq => by omega, fun _ _ _ => rfl⟩
theorem s_optM (d : Nat) (I : aI) (J : aJ) (c : Nat → Nat) (hc : MC c I) (W : Wc c) (dd : Nat → Nat → Nat) (hd : ∀ i j, i < c 0 → j < c 0 → J 98 (6 * i + j) = lN (dd i j) ∧ dd i j ≤ 1000000000000000) (s t : Nat) (hs : s < c 0) (ht : t < c 0) : Sp m_X10_optimize (d + 4) [.ref 93, .int (nI s), .int (nI t)] E0 I J (fun r I' J' => r = none ∧ (∃ F, MT (c 0) dd F nfx I' J' ∧ Cpl (c 0) (wro_ c s) (wro_ c t) (mx F) ∧ Oz (c 0) F ∧ OptB (c 0) dd (mx F)) ∧ (∀ q, q ≠ 100 → q ≠ 101 → q ≠ 103 → I' q = I q) ∧ ∀ q, q ≠ 102 → J' q = J q) := by
  refine Sp.of (lo := [some (.ref 93), some (.int (nI s)), some (.int (nI t)), none]) rfl (fun Q hQ => ?_)
  have w1 := W.1
  have hU : ∀ i, i < c 0 → wro_ c s i ≤ 12 := fun i hi => by have := Wc_w W (6 * s + i) (by omega); rw [show 10 + (6 * s + i) = 10 + 6 * s + i by omega] at this; exact this
  refine Ez.blk B_X10_optimize_0 (lo' := [some (.ref 93), some (.int (nI s)), some (.int (nI t)), none]) (st' := [.int (nI t), .int (nI s), .ref 93]) (I' := I) (J' := J) (Ps := []) rfl trivial ?_
  refine Ez.callV (As := [.int (nI s), .int (nI t)]) (b := 93) (rest := []) kn_X10_fill ml_10_150 im_X10_fill se_X10_fill rfl (by decide +kernel) rfl rfl (Nat.le_of_ble_eq_true rfl) (Nat.le_of_ble_eq_true rfl) o_93 (s_fillM _ I J c hc W dd hd s t hs ht) (fun r I1 J1 hq => ?_)
  obtain ⟨rfl, rfl, ⟨F, f1, f2, f3⟩, k2⟩ := hq
  have L1 : ∀ k, ∀ (F : Nat → Nat) (I2 : aI) (J2 : aJ), cst (c 0) dd (mx F) = k → MT (c 0) dd F nfx I2 J2 → Cpl (c 0) (wro_ c s) (wro_ c t) (mx F) → Oz (c 0) F → (∀ q, q ≠ 100 → q ≠ 101 → q ≠ 103 → I2 q = I q) → (∀ q, q ≠ 102 → J2 q = J1 q) → Ez m_X10_optimize (d + 4) 8 [some (.ref 93), some (.int (nI s)), some (.int (nI t)), some (.int 1)] [] E0 I2 J2 Q := by
    intro k
    induction k using Nat.strongRecOn with
    | _ k ih =>
      intro F I2 J2 e1 e2 e3 e4 e5 e6
      refine Ez.blk B_X10_optimize_8 (lo' := [some (.ref 93), some (.int (nI s)), some (.int (nI t)), some (.int 1)]) (st' := [.int 1]) (I' := I2) (J' := J2) (Ps := []) rfl trivial ?_
      refine Ez.n_if_eq (off := 11) (tgt := 20) (by decide +kernel) (by decide) (a := 1) rfl (by omega) (fun h => absurd h (by decide)) (fun h => ?_)
      refine Ez.blk B_X10_optimize_12 (lo' := [some (.ref 93), some (.int (nI s)), some (.int (nI t)), some (.int 1)]) (st' := [.ref 93]) (I' := I2) (J' := J2) (Ps := []) rfl trivial ?_
      refine Ez.callV (As := []) (b := 93) (rest := []) kn_X10_cancel ml_10_153 im_X10_cancel se_X10_cancel rfl (by decide +kernel) rfl rfl (Nat.le_of_ble_eq_true rfl) (Nat.le_of_ble_eq_true rfl) o_93 (s_cancel _ I2 J2 (c 0) dd F e2 w1 (wro_ c s) (wro_ c t) e3 e4 hU) (fun r I3 J3 hq => ?_)
      obtain ⟨v, F', rfl, g1, g2, g3, g4, g5, g6⟩ := hq
      have g7 : ∀ q, q ≠ 100 → q ≠ 101 → q ≠ 103 → I3 q = I q := fun q h0 h1 h3 => by rw [g5 q h0 h3]; exact e5 q h0 h1 h3
      have g8 : ∀ q, q ≠ 102 → J3 q = J1 q := fun q h0 => by rw [g6 q h0]; exact e6 q h0
      rcases g4 with ⟨rfl, g4⟩ | ⟨rfl, g4⟩
      · refine Ez.blk B_X10_optimize_16 (lo' := [some (.ref 93), some (.int (nI s)), some (.int (nI t)), some (.int 0)]) (st' := []) (I' := I3) (J' := J3) (Ps := []) rfl trivial ?_
        refine Ez.blk B_X10_optimize_8 (lo' := [some (.ref 93), some (.int (nI s)), some (.int (nI t)), some (.int 0)]) (st' := [.int 0]) (I' := I3) (J' := J3) (Ps := []) rfl trivial ?_
        refine Ez.n_if_eq (off := 11) (tgt := 20) (by decide +kernel) (by decide) (a := 0) rfl (by omega) (fun h => ?_) (fun h => absurd rfl h)
        exact Ez.vret rfl (by decide +kernel) (hQ _ _ _ ⟨rfl, ⟨F', g1, g2, g3, g4⟩, g7, g8⟩)
      · refine Ez.blk B_X10_optimize_16 (lo' := [some (.ref 93), some (.int (nI s)), some (.int (nI t)), some (.int 1)]) (st' := []) (I' := I3) (J' := J3) (Ps := []) rfl trivial ?_
        exact ih _ (by rw [← e1]; exact g4) F' I3 J3 rfl g1 g2 g3 g7 g8
  refine Ez.blk B_X10_optimize_6 (lo' := [some (.ref 93), some (.int (nI s)), some (.int (nI t)), some (.int 1)]) (st' := []) (I' := I1) (J' := J1) (Ps := []) rfl trivial ?_
  exact L1 _ F I1 J1 rfl f1 f2 f3 (fun q h0 h1 _ => k2 q h0 h1) (fun _ _ => rfl)
theorem s_minc (d : Nat) (I : aI) (J : aJ) (c : Nat → Nat) (hc : MC c I) (W : Wc c) (dd : Nat → Nat → Nat) (hd : ∀ i j, i < c 0 → j < c 0 → J 98 (6 * i + j) = lN (dd i j) ∧ dd i j ≤ 1000000000000000) (s t : Nat) (hs : s < c 0) (ht : t < c 0) : Sp m_X10_minimumCost (d + 5) [.ref 93, .int (nI s), .int (nI t)] E0 I J (fun r I' J' => r = some (.long (lN (mcost (c 0) (wro_ c s) (wro_ c t) dd))) ∧ (∀ q, q ≠ 100 → q ≠ 101 → q ≠ 103 → I' q = I q) ∧ ∀ q, q ≠ 102 → J' q = J q) := by
  refine Sp.of (lo := [some (.ref 93), some (.int (nI s)), some (.int (nI t)), none, none, none, none]) rfl (fun Q hQ => ?_)
  have w1 := W.1
  have hU : ∀ i, i < c 0 → wro_ c s i ≤ 12 := fun i hi => by have := Wc_w W (6 * s + i) (by omega); rw [show 10 + (6 * s + i) = 10 + 6 * s + i by omega] at this; exact this
  refine Ez.blk B_X10_minimumCost_0 (lo' := [some (.ref 93), some (.int (nI s)), some (.int (nI t)), none, none, none, none]) (st' := [.int (nI t), .int (nI s), .ref 93]) (I' := I) (J' := J) (Ps := []) rfl trivial ?_
  refine Ez.callV (As := [.int (nI s), .int (nI t)]) (b := 93) (rest := []) kn_X10_optimize ml_10_156 im_X10_optimize se_X10_optimize rfl (by decide +kernel) rfl rfl (Nat.le_of_ble_eq_true rfl) (Nat.le_of_ble_eq_true rfl) o_93 (s_optM _ I J c hc W dd hd s t hs ht) (fun r I1 J1 hq => ?_)
  obtain ⟨rfl, ⟨F, f1, f2, f3, u, v, f4, f5⟩, k2, k3⟩ := hq
  have em : mcost (c 0) (wro_ c s) (wro_ c t) dd = cst (c 0) dd (mx F) := mcost_eq f2 (fun g hg => opt_min f4 (cpl_sm f2 hg))
  have c1 : MC c I1 := MC_fr hc (k2 94 (by decide) (by decide) (by decide))
  have fb := F_le w1.2 f2 f3 hU
  refine Ez.blk B_X10_minimumCost_6 (lo' := [some (.ref 93), some (.int (nI s)), some (.int (nI t)), some (.long 0), none, some (.int 0), none]) (st' := []) (I' := I1) (J' := J1) (Ps := []) rfl trivial ?_
  have L1 : ∀ x, x ≤ c 0 → True → Ez m_X10_minimumCost (d + 5) 11 [some (.ref 93), some (.int (nI s)), some (.int (nI t)), some (.long (lN (sm (fun i => sm (fun j => mx F i j * dd i j) (c 0)) x))), none, some (.int (nI x)), none] [] E0 I1 J1 Q := by
    refine for_up ?_ ?_
    · intro _
      refine Ez.blk B_X10_minimumCost_11 (lo' := [some (.ref 93), some (.int (nI s)), some (.int (nI t)), some (.long (lN (sm (fun i => sm (fun j => mx F i j * dd i j) (c 0)) (c 0)))), none, some (.int (nI (c 0))), none]) (st' := [.int (I1 94 0), .int (nI (c 0))]) (I' := I1) (J' := J1) (Ps := [aO E0 93 10 ∧ E0.2.2 93 0 ≠ 0, aAr E0 1 94 0]) rfl ⟨r_93_0, (a_94 (vin (n := 0) rfl (by omega) (by decide)))⟩ ?_
      refine Ez.n_icmp_ge (off := 50) (tgt := 69) (by decide +kernel) (by decide) (a := (c 0)) (b := (c 0)) rfl (c1 0 (by decide)) (by omega) (by omega) (fun h => ?_) (fun h => absurd h (by omega))
      refine Ez.blk B_X10_minimumCost_69 (lo' := [some (.ref 93), some (.int (nI s)), some (.int (nI t)), some (.long (lN (sm (fun i => sm (fun j => mx F i j * dd i j) (c 0)) (c 0)))), none, some (.int (nI (c 0))), none]) (st' := [.long (lN (sm (fun i => sm (fun j => mx F i j * dd i j) (c 0)) (c 0)))]) (I' := I1) (J' := J1) (Ps := []) rfl trivial ?_
      exact Ez.lret rfl (by decide +kernel) (hQ _ _ _ ⟨by rw [em]; rfl, k2, k3⟩)
    · intro x hx ih _
      refine Ez.blk B_X10_minimumCost_11 (lo' := [some (.ref 93), some (.int (nI s)), some (.int (nI t)), some (.long (lN (sm (fun i => sm (fun j => mx F i j * dd i j) (c 0)) x))), none, some (.int (nI x)), none]) (st' := [.int (I1 94 0), .int (nI x)]) (I' := I1) (J' := J1) (Ps := [aO E0 93 10 ∧ E0.2.2 93 0 ≠ 0, aAr E0 1 94 0]) rfl ⟨r_93_0, (a_94 (vin (n := 0) rfl (by omega) (by decide)))⟩ ?_
      refine Ez.n_icmp_ge (off := 50) (tgt := 69) (by decide +kernel) (by decide) (a := x) (b := (c 0)) rfl (c1 0 (by decide)) (by omega) (by omega) (fun h => absurd h (by omega)) (fun h => ?_)
      refine Ez.blk B_X10_minimumCost_22 (lo' := [some (.ref 93), some (.int (nI s)), some (.int (nI t)), some (.long (lN (sm (fun i => sm (fun j => mx F i j * dd i j) (c 0)) x))), none, some (.int (nI x)), some (.int 0)]) (st' := []) (I' := I1) (J' := J1) (Ps := []) rfl trivial ?_
      have L2 : ∀ y, y ≤ c 0 → True → Ez m_X10_minimumCost (d + 5) 25 [some (.ref 93), some (.int (nI s)), some (.int (nI t)), some (.long (lN ((sm (fun i => sm (fun j => mx F i j * dd i j) (c 0)) x) + (sm (fun j => mx F x j * dd x j) y)))), none, some (.int (nI x)), some (.int (nI y))] [] E0 I1 J1 Q := by
        refine for_up ?_ ?_
        · intro _
          refine Ez.blk B_X10_minimumCost_25 (lo' := [some (.ref 93), some (.int (nI s)), some (.int (nI t)), some (.long (lN ((sm (fun i => sm (fun j => mx F i j * dd i j) (c 0)) x) + (sm (fun j => mx F x j * dd x j) (c 0))))), none, some (.int (nI x)), some (.int (nI (c 0)))]) (st' := [.int (I1 94 0), .int (nI (c 0))]) (I' := I1) (J' := J1) (Ps := [aO E0 93 10 ∧ E0.2.2 93 0 ≠ 0, aAr E0 1 94 0]) rfl ⟨r_93_0, (a_94 (vin (n := 0) rfl (by omega) (by decide)))⟩ ?_
          refine Ez.n_icmp_ge (off := 30) (tgt := 63) (by decide +kernel) (by decide) (a := (c 0)) (b := (c 0)) rfl (c1 0 (by decide)) (by omega) (by omega) (fun h9 => ?_) (fun h9 => absurd h9 (by omega))
          refine Ez.blk B_X10_minimumCost_63 (lo' := [some (.ref 93), some (.int (nI s)), some (.int (nI t)), some (.long (lN ((sm (fun i => sm (fun j => mx F i j * dd i j) (c 0)) x) + (sm (fun j => mx F x j * dd x j) (c 0))))), none, some (.int (nI x + 1)), some (.int (nI (c 0)))]) (st' := []) (I' := I1) (J' := J1) (Ps := []) rfl trivial ?_
          rw [show (nI x + 1) = nI (x + 1) from (eq_add (a := x) (b := 1) rfl rfl)]
          refine Ez.drops [6] (lo' := [some (.ref 93), some (.int (nI s)), some (.int (nI t)), some (.long (lN ((sm (fun i => sm (fun j => mx F i j * dd i j) (c 0)) x) + (sm (fun j => mx F x j * dd x j) (c 0))))), none, some (.int (nI (x + 1))), none]) rfl ?_
          exact ih trivial
        · intro y hy ih2 _
          have fb1 := fb (x * 6 + y) (by omega)
          refine Ez.blk B_X10_minimumCost_25 (lo' := [some (.ref 93), some (.int (nI s)), some (.int (nI t)), some (.long (lN ((sm (fun i => sm (fun j => mx F i j * dd i j) (c 0)) x) + (sm (fun j => mx F x j * dd x j) y)))), none, some (.int (nI x)), some (.int (nI y))]) (st' := [.int (I1 94 0), .int (nI y)]) (I' := I1) (J' := J1) (Ps := [aO E0 93 10 ∧ E0.2.2 93 0 ≠ 0, aAr E0 1 94 0]) rfl ⟨r_93_0, (a_94 (vin (n := 0) rfl (by omega) (by decide)))⟩ ?_
          refine Ez.n_icmp_ge (off := 30) (tgt := 63) (by decide +kernel) (by decide) (a := y) (b := (c 0)) rfl (c1 0 (by decide)) (by omega) (by omega) (fun h9 => absurd h9 (by omega)) (fun h9 => ?_)
          refine Ez.blk B_X10_minimumCost_36 (lo' := [some (.ref 93), some (.int (nI s)), some (.int (nI t)), some (.long (lN ((sm (fun i => sm (fun j => mx F i j * dd i j) (c 0)) x) + (sm (fun j => mx F x j * dd x j) y)))), none, some (.int (nI x)), some (.int (nI y))]) (st' := [.int (nI y), .int (nI x), .ref 93, .long (lN ((sm (fun i => sm (fun j => mx F i j * dd i j) (c 0)) x) + (sm (fun j => mx F x j * dd x j) y)))]) (I' := I1) (J' := J1) (Ps := []) rfl trivial ?_
          refine Ez.callV (As := [.int (nI x), .int (nI y)]) (b := 93) (rest := [.long (lN ((sm (fun i => sm (fun j => mx F i j * dd i j) (c 0)) x) + (sm (fun j => mx F x j * dd x j) y)))]) kn_X10_f ml_10_141 im_X10_f se_X10_f rfl (by decide +kernel) rfl rfl (Nat.le_of_ble_eq_true rfl) (Nat.le_of_ble_eq_true rfl) o_93 (s_f _ I1 J1 F f1.2.2.1 x y (by omega) (by omega)) (fun r I2 J2 hq => ?_)
          obtain ⟨rfl, rfl, rfl⟩ := hq
          refine Ez.blk B_X10_minimumCost_45 (lo' := [some (.ref 93), some (.int (nI s)), some (.int (nI t)), some (.long (lN ((sm (fun i => sm (fun j => mx F i j * dd i j) (c 0)) x) + (sm (fun j => mx F x j * dd x j) y)))), none, some (.int (nI x)), some (.int (nI y))]) (st' := [.int (nI y), .int (nI x), .ref 93, .long ((nI (F (x * 6 + y))).toInt64), .long (lN ((sm (fun i => sm (fun j => mx F i j * dd i j) (c 0)) x) + (sm (fun j => mx F x j * dd x j) y)))]) (I' := I2) (J' := J2) (Ps := []) rfl trivial ?_
          refine Ez.callV (As := [.int (nI x), .int (nI y)]) (b := 93) (rest := [.long ((nI (F (x * 6 + y))).toInt64), .long (lN ((sm (fun i => sm (fun j => mx F i j * dd i j) (c 0)) x) + (sm (fun j => mx F x j * dd x j) y)))]) kn_X10_d ml_10_138 im_X10_d se_X10_d rfl (by decide +kernel) rfl rfl (Nat.le_of_ble_eq_true rfl) (Nat.le_of_ble_eq_true rfl) o_93 (s_d _ I2 J2 (c 0) dd w1.2 f1.2.1 x y hx hy) (fun r I3 J3 hq => ?_)
          obtain ⟨rfl, rfl, rfl⟩ := hq
          refine Ez.blk B_X10_minimumCost_54 (lo' := [some (.ref 93), some (.int (nI s)), some (.int (nI t)), some (.long ((lN ((sm (fun i => sm (fun j => mx F i j * dd i j) (c 0)) x) + (sm (fun j => mx F x j * dd x j) y))) + ((nI (F (x * 6 + y))).toInt64 * (zL (dd x y : Int))))), none, some (.int (nI x)), some (.int (nI y + 1))]) (st' := []) (I' := I3) (J' := J3) (Ps := []) rfl trivial ?_
          rw [show (nI y + 1) = nI (y + 1) from (eq_add (a := y) (b := 1) rfl rfl)]
          rw [nI_l (by omega), ← lN_z, lN_mul, lN_add]
          have L9 := ih2 trivial
          rw [show (sm (fun i => sm (fun j => mx F i j * dd i j) (c 0)) x) + sm (fun j => mx F x j * dd x j) (y + 1) = (sm (fun i => sm (fun j => mx F i j * dd i j) (c 0)) x) + (sm (fun j => mx F x j * dd x j) y) + F (x * 6 + y) * dd x y from (Nat.add_assoc _ _ _).symm] at L9
          exact L9
      exact L2 0 (by omega) trivial
  exact L1 0 (by omega) trivial

/-! TRANSPORT: solving -/
abbrev wro_ (c : Nat → Nat) (s : Nat) : Nat → Nat := fun x => c (10 + 6 * s + x)
def dg (U V : Nat → Nat) (k q : Nat) : Nat := if q % 7 = 0 ∧ q / 7 < k then min (U (q / 7)) (V (q / 7)) else 0
theorem sm_single {g : Nat → Nat} {j0 : Nat} : ∀ {n : Nat}, j0 < n → (∀ y, y < n → y ≠ j0 → g y = 0) → sm g n = g j0
  | 0, h, _ => by omega
  | n + 1, h, hz => by
    show sm g n + g n = g j0
    by_cases e : j0 = n
    · subst e
      rw [sm_zero (fun y hy => hz y (by omega) (by omega))]
      omega
    · rw [sm_single (n := n) (by omega) (fun y hy hne => hz y (by omega) hne), hz n (by omega) (fun z => e z.symm)]
      omega
theorem dg_at (U V : Nat → Nat) {k x y : Nat} (hx : x < k) (hk : k ≤ 6) (hy : y < 6) : dg U V k (x * 6 + y) = if y = x then min (U x) (V x) else 0 := by
  unfold dg
  by_cases e : y = x
  · subst e
    rw [if_pos rfl, if_pos (by omega), show (y * 6 + y) / 7 = y by omega]
  · rw [if_neg e, if_neg (by omega)]
theorem dg_mg (U V : Nat → Nat) {n : Nat} (hn : n ≤ 6) : Mg n U V (dg U V n) (fun i => U i - min (U i) (V i)) (fun i => V i - min (U i) (V i)) := by
  refine ⟨fun i hi => ?_, fun j hj => ?_⟩
  · rw [sm_single (g := fun y => mx (dg U V n) i y) hi (fun y hy hne => by show dg U V n (i * 6 + y) = 0; rw [dg_at U V hi hn (by omega), if_neg hne])]
    show dg U V n (i * 6 + i) + _ = _
    rw [dg_at U V hi hn (by omega), if_pos rfl]
    dsimp only
    omega
  · rw [sm_single (g := fun x => mx (dg U V n) x j) hj (fun x hx hne => by show dg U V n (x * 6 + j) = 0; rw [dg_at U V hx hn (by omega), if_neg (fun z => hne z.symm)])]
    show dg U V n (j * 6 + j) + _ = _
    rw [dg_at U V hj hn (by omega), if_pos rfl]
    dsimp only
    omega
theorem dg_oz (U V : Nat → Nat) {n : Nat} : Oz n (dg U V n) := fun q hq h => by
  unfold dg
  rw [if_neg]
  intro z
  exact h (q / 7) (q / 7) z.2 z.2 (by omega)
theorem dg_opt (U V : Nat → Nat) {n : Nat} (hn : n ≤ 6) {dd : Nat → Nat → Nat} (h0 : ∀ i, i < n → dd i i = 0) : Opt n dd (mx (dg U V n)) (fun _ => 0) (fun _ => 0) := fun i j hi hj => by
  dsimp only
  refine ⟨by omega, fun h => ?_⟩
  have h : 0 < dg U V n (i * 6 + j) := h
  rw [dg_at U V hi hn (by omega)] at h
  by_cases e : j = i
  · subst e
    have := h0 j hj
    omega
  · rw [if_neg e] at h
    omega
theorem sm36 (g : Nat → Nat) : sm g 36 = sm (fun i => sm (fun j => g (i * 6 + j)) 6) 6 := by
  simp only [sm, Nat.reduceMul, Nat.reduceAdd]
  omega
theorem sm_cut {g : Nat → Nat} {n : Nat} : ∀ {m : Nat}, n ≤ m → (∀ i, n ≤ i → i < m → g i = 0) → sm g m = sm g n
  | 0, h, _ => by rw [show n = 0 by omega]
  | m + 1, h, hz => by
    by_cases e : n = m + 1
    · rw [e]
    · show sm g m + g m = _
      rw [hz m (by omega) (by omega), sm_cut (m := m) (by omega) (fun i h1 h2 => hz i h1 (by omega))]
      rfl
theorem cst36 {n : Nat} {dd : Nat → Nat → Nat} {F : Nat → Nat} (hn : n ≤ 6) (hz : Oz n F) : sm (fun q => F q * dd (q / 6) (q % 6)) 36 = cst n dd (mx F) := by
  rw [sm36]
  have key : ∀ i, i < 6 → sm (fun j => F (i * 6 + j) * dd ((i * 6 + j) / 6) ((i * 6 + j) % 6)) 6 = sm (fun j => F (i * 6 + j) * dd i j) n := fun i hi => by
    rw [sm_cut hn (fun j h1 h2 => by
      show F (i * 6 + j) * dd ((i * 6 + j) / 6) ((i * 6 + j) % 6) = 0
      rw [hz (i * 6 + j) (by omega) (fun x y hx hy z => by omega), Nat.zero_mul])]
    exact sm_ext (fun j hj => by show F (i * 6 + j) * dd ((i * 6 + j) / 6) ((i * 6 + j) % 6) = _; rw [show (i * 6 + j) / 6 = i by omega, show (i * 6 + j) % 6 = j by omega])
  rw [sm_ext (g := fun i => sm (fun j => F (i * 6 + j) * dd i j) n) key, sm_cut hn (fun i h1 h2 => by
    refine sm_zero (fun j hj => ?_)
    rw [hz (i * 6 + j) (by omega) (fun x y hx hy z => by omega), Nat.zero_mul])]
  rfl
/-- a solved transport -/
def Sv (n : Nat) (dd : Nat → Nat → Nat) (U V F : Nat → Nat) (u v : Nat → Int) (I : aI) (J : aJ) : Prop := Tq n dd I J ∧ (∀ q, q < 36 → I 48 q = nI (F q)) ∧ Cpl n U V (mx F) ∧ Oz n F ∧ Opt n dd (mx F) u v
theorem Tr_done {n : Nat} {dd : Nat → Nat → Nat} {U V F S D : Nat → Nat} {u v : Nat → Int} {I : aI} {J : aJ} (h : Tr n dd U V F S D u v I J) (hUV : sm U n = sm V n) (hS : ∀ i, i < n → S i = 0) : Sv n dd U V F u v I J := by
  obtain ⟨h1, h2, h3, h4, h5, h6, h7⟩ := h
  have hb := Mg_bal h5 hUV
  rw [sm_zero hS] at hb
  refine ⟨h1, h2, ⟨fun i hi => ?_, fun j hj => ?_⟩, h6, h7⟩
  · have := h5.1 i hi
    have := hS i hi
    omega
  · have := h5.2 j hj
    have := sm_le (f := D) hj
    omega
theorem Sv_cost {n : Nat} {dd : Nat → Nat → Nat} {U V F : Nat → Nat} {u v : Nat → Int} {I : aI} {J : aJ} (h : Sv n dd U V F u v I J) : mcost n U V dd = cst n dd (mx F) := mcost_eq h.2.2.1 (fun g hg => opt_min h.2.2.2.2 (cpl_sm h.2.2.1 hg))
/-- the costs for n states -/
def Tc (n : Nat) (dd : Nat → Nat → Nat) (J : aJ) : Prop := (1 ≤ n ∧ n ≤ 6) ∧ (∀ i j, i < n → j < n → J 49 (i * 6 + j) = lN (dd i j) ∧ dd i j ≤ 1000000000000000) ∧ ∀ i, i < n → dd i i = 0
theorem Wc_row {c : Nat → Nat} (W : Wc c) (s : Nat) (hs : s < c 0) : sm (wro_ c s) (c 0) = c 1 := W.2.2.2.2.2.1 s hs
theorem s_diag (d : Nat) (I : aI) (J : aJ) (c : Nat → Nat) (hc : Ch I 44 c) (W : Wc c) (dd : Nat → Nat → Nat) (hT : Tc (c 0) dd J) (a b : Nat) (ha : a < c 0) (hb : b < c 0) : Sp m_X8_startOnDiagonal (d + 1) [.ref 47, .ref 44, .int (nI a), .int (nI b)] E0 I J (fun r I' J' => r = none ∧ J' = J ∧ Tr (c 0) dd (wro_ c a) (wro_ c b) (dg (wro_ c a) (wro_ c b) (c 0)) (fun i => wro_ c a i - min (wro_ c a i) (wro_ c b i)) (fun i => wro_ c b i - min (wro_ c a i) (wro_ c b i)) (fun _ => 0) (fun _ => 0) I' J' ∧ ∀ q, ¬ (47 ≤ q ∧ q ≤ 51) → I' q = I q) := by
  refine Sp.of (lo := [some (.ref 47), some (.ref 44), some (.int (nI a)), some (.int (nI b)), none, none, none, none]) rfl (fun Q hQ => ?_)
  obtain ⟨hn, hco, h00⟩ := id hT
  have w12 := Wc_w W
  have e0 := hc.1 0 (by decide)
  have hU : ∀ s x, s < c 0 → x < 6 → I 46 (s * 6 + x) = nI (wro_ c s x) ∧ wro_ c s x ≤ 12 := fun s x hs hx => ⟨by rw [hc.2.2 (s * 6 + x) (by omega)]; show _ = nI (c (10 + 6 * s + x)); rw [show 10 + (s * 6 + x) = 10 + 6 * s + x by omega], by have := w12 (s * 6 + x) (by omega); show c (10 + 6 * s + x) ≤ 12; rw [show 10 + 6 * s + x = 10 + (s * 6 + x) by omega]; exact this⟩
  obtain ⟨U, eU⟩ : ∃ U, U = wro_ c a := ⟨_, rfl⟩
  obtain ⟨V, eV⟩ : ∃ V, V = wro_ c b := ⟨_, rfl⟩
  rw [← eU, ← eV] at hQ
  have L2 : ∀ k, k ≤ c 0 → ∀ (I1 : aI), ((∀ q, q < 36 → I1 48 q = nI (dg U V k q)) ∧ (∀ i, i < k → I1 50 i = nI (U i - min (U i) (V i)) ∧ I1 51 i = nI (V i - min (U i) (V i))) ∧ I1 47 1 = nI (c 0) ∧ ∀ q, ¬ (47 ≤ q ∧ q ≤ 51) → I1 q = I q) → Ez m_X8_startOnDiagonal (d + 1) 35 [some (.ref 47), some (.ref 44), some (.int (nI a)), some (.int (nI b)), some (.int (nI k)), none, none, none] [] E0 I1 J Q := by
    refine for_up ?_ ?_
    · intro I1 hi
      refine Ez.blk B_X8_startOnDiagonal_35 (lo' := [some (.ref 47), some (.ref 44), some (.int (nI a)), some (.int (nI b)), some (.int (nI (c 0))), none, none, none]) (st' := [.int (I1 47 1), .int (nI (c 0))]) (I' := I1) (J' := J) (Ps := [aO E0 47 8]) rfl o_47 ?_
      refine Ez.n_icmp_ge (off := 85) (tgt := 126) (by decide +kernel) (by decide) (a := (c 0)) (b := (c 0)) rfl hi.2.2.1 (by omega) (by omega) (fun h => ?_) (fun h => absurd h (by omega))
      exact Ez.vret rfl (by decide +kernel) (hQ _ _ _ ⟨rfl, rfl, ⟨⟨hn, hi.2.2.1, hco⟩, hi.1, fun i hin => (hi.2.1 i hin).1, fun i hin => (hi.2.1 i hin).2, dg_mg U V hn.2, dg_oz U V, dg_opt U V hn.2 h00⟩, hi.2.2.2⟩)
    · intro k hk ih I1 hi
      have g1 := hU a k ha (by omega)
      have g2 := hU b k hb (by omega)
      rw [← eU] at g1
      rw [← eV] at g2
      have x1 : I1 46 (a * 6 + k) = nI (U k) := by rw [hi.2.2.2 46 (by omega)]; exact g1.1
      have x2 : I1 46 (b * 6 + k) = nI (V k) := by rw [hi.2.2.2 46 (by omega)]; exact g2.1
      refine Ez.blk B_X8_startOnDiagonal_35 (lo' := [some (.ref 47), some (.ref 44), some (.int (nI a)), some (.int (nI b)), some (.int (nI k)), none, none, none]) (st' := [.int (I1 47 1), .int (nI k)]) (I' := I1) (J' := J) (Ps := [aO E0 47 8]) rfl o_47 ?_
      refine Ez.n_icmp_ge (off := 85) (tgt := 126) (by decide +kernel) (by decide) (a := k) (b := (c 0)) rfl hi.2.2.1 (by omega) (by omega) (fun h => absurd h (by omega)) (fun h => ?_)
      refine Ez.blk B_X8_startOnDiagonal_44 (lo' := [some (.ref 47), some (.ref 44), some (.int (nI a)), some (.int (nI b)), some (.int (nI k + 1)), some (.int (I1 46 (((nI a * 6) + nI k).toNatClampNeg))), some (.int (I1 46 (((nI b * 6) + nI k).toNatClampNeg))), some (.int (if I1 46 (((nI b * 6) + nI k).toNatClampNeg) < I1 46 (((nI a * 6) + nI k).toNatClampNeg) then I1 46 (((nI b * 6) + nI k).toNatClampNeg) else I1 46 (((nI a * 6) + nI k).toNatClampNeg)))]) (st' := []) (I' := (aUp (aUp (aUp I1 48 (((nI k * 6) + nI k).toNatClampNeg) (if I1 46 (((nI b * 6) + nI k).toNatClampNeg) < I1 46 (((nI a * 6) + nI k).toNatClampNeg) then I1 46 (((nI b * 6) + nI k).toNatClampNeg) else I1 46 (((nI a * 6) + nI k).toNatClampNeg))) 50 ((nI k).toNatClampNeg) (I1 46 (((nI a * 6) + nI k).toNatClampNeg) - (if I1 46 (((nI b * 6) + nI k).toNatClampNeg) < I1 46 (((nI a * 6) + nI k).toNatClampNeg) then I1 46 (((nI b * 6) + nI k).toNatClampNeg) else I1 46 (((nI a * 6) + nI k).toNatClampNeg)))) 51 ((nI k).toNatClampNeg) (I1 46 (((nI b * 6) + nI k).toNatClampNeg) - (if I1 46 (((nI b * 6) + nI k).toNatClampNeg) < I1 46 (((nI a * 6) + nI k).toNatClampNeg) then I1 46 (((nI b * 6) + nI k).toNatClampNeg) else I1 46 (((nI a * 6) + nI k).toNatClampNeg))))) (J' := J) (Ps := [aO E0 44 1 ∧ E0.2.2 44 5 ≠ 0, aAr E0 1 46 ((nI a * 6) + nI k), aO E0 44 1 ∧ E0.2.2 44 5 ≠ 0, aAr E0 1 46 ((nI b * 6) + nI k), aO E0 47 8 ∧ E0.2.2 47 0 ≠ 0, aAr E0 1 48 ((nI k * 6) + nI k), aO E0 47 8 ∧ E0.2.2 47 3 ≠ 0, aAr E0 1 50 (nI k), aO E0 47 8 ∧ E0.2.2 47 4 ≠ 0, aAr E0 1 51 (nI k)]) rfl ⟨r_44_5, (a_46 (vin (n := (a * 6 + k)) (eq_add (a := (a * 6)) (b := k) (eq_mul (a := a) (b := 6) rfl rfl) rfl) (by omega) (by decide))), r_44_5, (a_46 (vin (n := (b * 6 + k)) (eq_add (a := (b * 6)) (b := k) (eq_mul (a := b) (b := 6) rfl rfl) rfl) (by omega) (by decide))), r_47_0, (a_48 (vin (n := (k * 6 + k)) (eq_add (a := (k * 6)) (b := k) (eq_mul (a := k) (b := 6) rfl rfl) rfl) (by omega) (by decide))), r_47_3, (a_50 (vin (n := k) rfl (by omega) (by decide))), r_47_4, (a_51 (vin (n := k) rfl (by omega) (by decide)))⟩ ?_
      rw [cln (x := ((nI a * 6) + nI k)) (n := (a * 6 + k)) (eq_add (a := (a * 6)) (b := k) (eq_mul (a := a) (b := 6) rfl rfl) rfl) (by omega)]
      rw [cln (x := ((nI b * 6) + nI k)) (n := (b * 6 + k)) (eq_add (a := (b * 6)) (b := k) (eq_mul (a := b) (b := 6) rfl rfl) rfl) (by omega)]
      rw [cln (x := ((nI k * 6) + nI k)) (n := (k * 6 + k)) (eq_add (a := (k * 6)) (b := k) (eq_mul (a := k) (b := 6) rfl rfl) rfl) (by omega)]
      rw [cln (x := nI k) (n := k) rfl (by omega)]
      rw [show (nI k + 1) = nI (k + 1) from (eq_add (a := k) (b := 1) rfl rfl)]
      rw [x1, x2, min_n' (by omega) (by omega), pk_sub (show min (U k) (V k) ≤ U k by omega), pk_sub (show min (U k) (V k) ≤ V k by omega)]
      refine Ez.drops [5, 6, 7] (lo' := [some (.ref 47), some (.ref 44), some (.int (nI a)), some (.int (nI b)), some (.int (nI (k + 1))), none, none, none]) rfl ?_
      generalize hI2 : (aUp (aUp (aUp I1 48 (k * 6 + k) (nI (min (U k) (V k)))) 50 k (nI (U k - min (U k) (V k)))) 51 k (nI (V k - min (U k) (V k)))) = I2
      refine ih I2 ⟨fun q hq => ?_, fun i hin => ?_, by rw [← hI2, aUp_ne (by decide), aUp_ne (by decide), aUp_ne (by decide)]; exact hi.2.2.1, fun q hq => by rw [← hI2, aUp_ne (by omega), aUp_ne (by omega), aUp_ne (by omega)]; exact hi.2.2.2 q hq⟩
      · rw [← hI2, aUp_ne (by decide), aUp_ne (by decide)]
        by_cases e : q = k * 6 + k
        · rw [e, aUp_eq, dg_at U V (by omega) (by omega) (by omega), if_pos rfl]
        · rw [aUp_nk e, hi.1 q hq]
          unfold dg
          by_cases z : q % 7 = 0 ∧ q / 7 < k
          · rw [if_pos z, if_pos (by omega)]
          · rw [if_neg z, if_neg (by omega)]
      · rw [← hI2]
        by_cases e : i = k
        · rw [e, aUp_ne (by decide), aUp_eq, aUp_eq]; exact ⟨rfl, rfl⟩
        · rw [aUp_nk e, aUp_nk e, aUp_nk e, aUp_nk e, aUp_ne (by decide), aUp_ne (by decide)]
          exact hi.2.1 i (by omega)
  have L1 : ∀ k, k ≤ 36 → ∀ (I1 : aI), ((∀ q, q < k → I1 48 q = 0) ∧ I1 47 1 = nI (c 0) ∧ ∀ q, ¬ (47 ≤ q ∧ q ≤ 51) → I1 q = I q) → Ez m_X8_startOnDiagonal (d + 1) 11 [some (.ref 47), some (.ref 44), some (.int (nI a)), some (.int (nI b)), some (.int (nI k)), none, none, none] [] E0 I1 J Q := by
    refine for_up ?_ ?_
    · intro I1 hi
      refine Ez.blk B_X8_startOnDiagonal_11 (lo' := [some (.ref 47), some (.ref 44), some (.int (nI a)), some (.int (nI b)), some (.int (nI 36)), none, none, none]) (st' := [.int 36, .int (nI 36)]) (I' := I1) (J' := J) (Ps := []) rfl trivial ?_
      refine Ez.n_icmp_ge (off := 17) (tgt := 32) (by decide +kernel) (by decide) (a := 36) (b := 36) rfl rfl (by omega) (by omega) (fun h => ?_) (fun h => absurd h (by omega))
      refine Ez.blk B_X8_startOnDiagonal_32 (lo' := [some (.ref 47), some (.ref 44), some (.int (nI a)), some (.int (nI b)), some (.int 0), none, none, none]) (st' := []) (I' := I1) (J' := J) (Ps := []) rfl trivial ?_
      exact L2 0 (by omega) I1 ⟨fun q hq => by rw [hi.1 q hq]; unfold dg; rw [if_neg (by omega)]; rfl, fun i hin => by omega, hi.2.1, hi.2.2⟩
    · intro k hk ih I1 hi
      refine Ez.blk B_X8_startOnDiagonal_11 (lo' := [some (.ref 47), some (.ref 44), some (.int (nI a)), some (.int (nI b)), some (.int (nI k)), none, none, none]) (st' := [.int 36, .int (nI k)]) (I' := I1) (J' := J) (Ps := []) rfl trivial ?_
      refine Ez.n_icmp_ge (off := 17) (tgt := 32) (by decide +kernel) (by decide) (a := k) (b := 36) rfl rfl (by omega) (by omega) (fun h => absurd h (by omega)) (fun h => ?_)
      refine Ez.blk B_X8_startOnDiagonal_18 (lo' := [some (.ref 47), some (.ref 44), some (.int (nI a)), some (.int (nI b)), some (.int (nI k + 1)), none, none, none]) (st' := []) (I' := (aUp I1 48 ((nI k).toNatClampNeg) 0)) (J' := J) (Ps := [aO E0 47 8 ∧ E0.2.2 47 0 ≠ 0, aAr E0 1 48 (nI k)]) rfl ⟨r_47_0, (a_48 (vin (n := k) rfl (by omega) (by decide)))⟩ ?_
      rw [cln (x := nI k) (n := k) rfl (by omega)]
      rw [show (nI k + 1) = nI (k + 1) from (eq_add (a := k) (b := 1) rfl rfl)]
      exact ih _ ⟨fun q hq => by
        by_cases e : q = k
        · rw [e, aUp_eq]
        · rw [aUp_nk e]; exact hi.1 q (by omega), by rw [aUp_ne (by decide)]; exact hi.2.1, fun q hq => by rw [aUp_ne (by omega)]; exact hi.2.2 q hq⟩
  refine Ez.blk B_X8_startOnDiagonal_0 (lo' := [some (.ref 47), some (.ref 44), some (.int (nI a)), some (.int (nI b)), some (.int 0), none, none, none]) (st' := []) (I' := (aUp I 47 1 (I 44 0))) (J' := J) (Ps := [aO E0 44 1, aO E0 47 8]) rfl ⟨o_44, o_47⟩ ?_
  exact L1 0 (by omega) _ ⟨fun q hq => by omega, by rw [aUp_eq]; exact e0, fun q hq => aUp_ne (by omega)⟩
theorem s_solve (d : Nat) (I : aI) (J : aJ) (c : Nat → Nat) (hc : Ch I 44 c) (W : Wc c) (dd : Nat → Nat → Nat) (hT : Tc (c 0) dd J) (a b : Nat) (ha : a < c 0) (hb : b < c 0) : Sp m_X8_solve (d + 4) [.ref 47, .ref 44, .int (nI a), .int (nI b)] E0 I J (fun r I' J' => r = some (.long (lN (mcost (c 0) (wro_ c a) (wro_ c b) dd))) ∧ (∃ F u v, Sv (c 0) dd (wro_ c a) (wro_ c b) F u v I' J') ∧ (∀ q, ¬ (47 ≤ q ∧ q ≤ 55) → I' q = I q) ∧ ∀ q, ¬ (q = 52 ∨ q = 53) → J' q = J q) := by
  refine Sp.of (lo := [some (.ref 47), some (.ref 44), some (.int (nI a)), some (.int (nI b)), none, none, none]) rfl (fun Q hQ => ?_)
  obtain ⟨hn, hco, h00⟩ := id hT
  have w12 := Wc_w W
  have hUx : ∀ s x, s < c 0 → x < c 0 → wro_ c s x ≤ 12 := fun s x hs hx => by have := w12 (s * 6 + x) (by omega); show c (10 + 6 * s + x) ≤ 12; rw [show 10 + 6 * s + x = 10 + (s * 6 + x) by omega]; exact this
  have hUV : sm (wro_ c a) (c 0) = sm (wro_ c b) (c 0) := by rw [Wc_row W a ha, Wc_row W b hb]
  refine Ez.blk B_X8_solve_0 (lo' := [some (.ref 47), some (.ref 44), some (.int (nI a)), some (.int (nI b)), none, none, none]) (st' := [.int (nI b), .int (nI a), .ref 44, .ref 47]) (I' := I) (J' := J) (Ps := []) rfl trivial ?_
  refine Ez.callV (As := [.ref 44, .int (nI a), .int (nI b)]) (b := 47) (rest := []) kn_X8_startOnDiagonal ml_8_45 im_X8_startOnDiagonal se_X8_startOnDiagonal rfl (by decide +kernel) rfl rfl (Nat.le_of_ble_eq_true rfl) (Nat.le_of_ble_eq_true rfl) o_47 (s_diag _ I J c hc W dd hT a b ha hb) (fun r I1 J1 hq => ?_)
  obtain ⟨rfl, rfl, k1, k2⟩ := hq
  have hUa := fun i hi => hUx a i ha hi
  have hVb := fun i hi => hUx b i hb hi
  obtain ⟨U, eU⟩ : ∃ U, U = wro_ c a := ⟨_, rfl⟩
  obtain ⟨V, eV⟩ : ∃ V, V = wro_ c b := ⟨_, rfl⟩
  rw [← eU] at hUa
  rw [← eV] at hVb
  rw [← eU, ← eV] at hQ hUV k1
  have L2 : ∀ (I2 : aI) (J2 : aJ) (F : Nat → Nat) (u v : Nat → Int), Sv (c 0) dd U V F u v I2 J2 → ((∀ q, ¬ (47 ≤ q ∧ q ≤ 55) → I2 q = I q) ∧ ∀ q, ¬ (q = 52 ∨ q = 53) → J2 q = J1 q) → ∀ k, k ≤ 36 → Ez m_X8_solve (d + 4) 37 [some (.ref 47), some (.ref 44), some (.int (nI a)), some (.int (nI b)), some (.long (lN (sm (fun q => F q * dd (q / 6) (q % 6)) k))), none, some (.int (nI k))] [] E0 I2 J2 Q := by
    intro I2 J2 F u v hS hf
    have hm := Sv_cost hS
    refine for_up ?_ ?_
    · refine Ez.blk B_X8_solve_37 (lo' := [some (.ref 47), some (.ref 44), some (.int (nI a)), some (.int (nI b)), some (.long (lN (sm (fun q => F q * dd (q / 6) (q % 6)) 36))), none, some (.int (nI 36))]) (st' := [.int 36, .int (nI 36)]) (I' := I2) (J' := J2) (Ps := []) rfl trivial ?_
      refine Ez.n_icmp_ge (off := 30) (tgt := 71) (by decide +kernel) (by decide) (a := 36) (b := 36) rfl rfl (by omega) (by omega) (fun h => ?_) (fun h => absurd h (by omega))
      refine Ez.blk B_X8_solve_71 (lo' := [some (.ref 47), some (.ref 44), some (.int (nI a)), some (.int (nI b)), some (.long (lN (sm (fun q => F q * dd (q / 6) (q % 6)) 36))), none, some (.int (nI 36))]) (st' := [.long (lN (sm (fun q => F q * dd (q / 6) (q % 6)) 36))]) (I' := I2) (J' := J2) (Ps := []) rfl trivial ?_
      rw [cst36 hn.2 hS.2.2.2.1, ← hm]
      exact Ez.lret rfl (by decide +kernel) (hQ _ _ _ ⟨rfl, ⟨F, u, v, hS⟩, hf⟩)
    · intro k hk ih
      have term : (I2 48 k).toInt64 * J2 49 k = lN (F k * dd (k / 6) (k % 6)) := by
        rw [hS.2.1 k hk]
        by_cases e : ∃ x y, x < c 0 ∧ y < c 0 ∧ k = x * 6 + y
        · obtain ⟨x, y, hx, hy, rfl⟩ := e
          have b1 := sm_le (f := fun y => mx F x y) hy
          have b2 := hS.2.2.1.1 x hx
          have b3 := hUa x hx
          dsimp only [mx] at b1 b2
          rw [(hS.1.2.2 x y hx hy).1, nI_l (by omega), lN_mul, show (x * 6 + y) / 6 = x by omega, show (x * 6 + y) % 6 = y by omega]
        · rw [hS.2.2.2.1 k hk (fun x y hx hy z => e ⟨x, y, hx, hy, z⟩), Nat.zero_mul]
          show (0 : Int64) * _ = 0
          exact Int64.zero_mul
      refine Ez.blk B_X8_solve_37 (lo' := [some (.ref 47), some (.ref 44), some (.int (nI a)), some (.int (nI b)), some (.long (lN (sm (fun q => F q * dd (q / 6) (q % 6)) k))), none, some (.int (nI k))]) (st' := [.int 36, .int (nI k)]) (I' := I2) (J' := J2) (Ps := []) rfl trivial ?_
      refine Ez.n_icmp_ge (off := 30) (tgt := 71) (by decide +kernel) (by decide) (a := k) (b := 36) rfl rfl (by omega) (by omega) (fun h => absurd h (by omega)) (fun h => ?_)
      refine Ez.blk B_X8_solve_44 (lo' := [some (.ref 47), some (.ref 44), some (.int (nI a)), some (.int (nI b)), some (.long ((lN (sm (fun q => F q * dd (q / 6) (q % 6)) k)) + ((I2 48 ((nI k).toNatClampNeg)).toInt64 * J2 49 ((nI k).toNatClampNeg)))), none, some (.int (nI k + 1))]) (st' := []) (I' := I2) (J' := J2) (Ps := [aO E0 47 8 ∧ E0.2.2 47 0 ≠ 0, aAr E0 1 48 (nI k), aO E0 47 8 ∧ E0.2.2 47 2 ≠ 0, aAr E0 2 49 (nI k)]) rfl ⟨r_47_0, (a_48 (vin (n := k) rfl (by omega) (by decide))), r_47_2, (a_49 (vin (n := k) rfl (by omega) (by decide)))⟩ ?_
      rw [cln (x := nI k) (n := k) rfl (by omega)]
      rw [show (nI k + 1) = nI (k + 1) from (eq_add (a := k) (b := 1) rfl rfl)]
      rw [term, lN_add]
      exact ih
  have L1 : ∀ k, k ≤ c 0 → ∀ (I2 : aI) (J2 : aJ) (F S D : Nat → Nat) (u v : Nat → Int), ((Tr (c 0) dd U V F S D u v I2 J2 ∧ ∀ x, x < k → S x = 0) ∧ (∀ q, ¬ (47 ≤ q ∧ q ≤ 55) → I2 q = I q) ∧ ∀ q, ¬ (q = 52 ∨ q = 53) → J2 q = J1 q) → Ez m_X8_solve (d + 4) 10 [some (.ref 47), some (.ref 44), some (.int (nI a)), some (.int (nI b)), some (.int (nI k)), none, none] [] E0 I2 J2 Q := by
    refine for_up ?_ ?_
    · intro I2 J2 F S D u v hi
      refine Ez.blk B_X8_solve_10 (lo' := [some (.ref 47), some (.ref 44), some (.int (nI a)), some (.int (nI b)), some (.int (nI (c 0))), none, none]) (st' := [.int (I2 47 1), .int (nI (c 0))]) (I' := I2) (J' := J2) (Ps := [aO E0 47 8]) rfl o_47 ?_
      refine Ez.n_icmp_ge (off := 15) (tgt := 31) (by decide +kernel) (by decide) (a := (c 0)) (b := (c 0)) rfl hi.1.1.1.2.1 (by omega) (by omega) (fun h => ?_) (fun h => absurd h (by omega))
      refine Ez.blk B_X8_solve_31 (lo' := [some (.ref 47), some (.ref 44), some (.int (nI a)), some (.int (nI b)), some (.long 0), none, some (.int 0)]) (st' := []) (I' := I2) (J' := J2) (Ps := []) rfl trivial ?_
      exact L2 I2 J2 F u v (Tr_done hi.1.1 hUV hi.1.2) hi.2 0 (by omega)
    · intro k hk ih I2 J2 F S D u v hi
      refine Ez.blk B_X8_solve_10 (lo' := [some (.ref 47), some (.ref 44), some (.int (nI a)), some (.int (nI b)), some (.int (nI k)), none, none]) (st' := [.int (I2 47 1), .int (nI k)]) (I' := I2) (J' := J2) (Ps := [aO E0 47 8]) rfl o_47 ?_
      refine Ez.n_icmp_ge (off := 15) (tgt := 31) (by decide +kernel) (by decide) (a := k) (b := (c 0)) rfl hi.1.1.1.2.1 (by omega) (by omega) (fun h => absurd h (by omega)) (fun h => ?_)
      refine Ez.blk B_X8_solve_19 (lo' := [some (.ref 47), some (.ref 44), some (.int (nI a)), some (.int (nI b)), some (.int (nI k)), none, none]) (st' := [.int (nI k), .ref 47]) (I' := I2) (J' := J2) (Ps := []) rfl trivial ?_
      refine Ez.callV (As := [.int (nI k)]) (b := 47) (rest := []) kn_X8_sendFrom ml_8_53 im_X8_sendFrom se_X8_sendFrom rfl (by decide +kernel) rfl rfl (Nat.le_of_ble_eq_true rfl) (Nat.le_of_ble_eq_true rfl) o_47 (s_send _ I2 J2 (c 0) dd U V F S D u v hi.1.1 hUa hVb hUV k hk) (fun r I3 J3 hq => ?_)
      obtain ⟨rfl, ⟨F3, S3, D3, u3, v3, m1, m2, m3⟩, fi, fj⟩ := hq
      refine Ez.blk B_X8_solve_25 (lo' := [some (.ref 47), some (.ref 44), some (.int (nI a)), some (.int (nI b)), some (.int (nI k + 1)), none, none]) (st' := []) (I' := I3) (J' := J3) (Ps := []) rfl trivial ?_
      rw [show (nI k + 1) = nI (k + 1) from (eq_add (a := k) (b := 1) rfl rfl)]
      exact ih I3 J3 F3 S3 D3 u3 v3 ⟨⟨m1, fun x hx => by
        by_cases e : x = k
        · rw [e]; exact m2
        · rw [m3 x (by omega) e]; exact hi.1.2 x (by omega)⟩, fun q hq => by rw [fi q (by omega)]; exact hi.2.1 q hq, fun q hq => by rw [fj q hq]; exact hi.2.2 q hq⟩
  refine Ez.blk B_X8_solve_7 (lo' := [some (.ref 47), some (.ref 44), some (.int (nI a)), some (.int (nI b)), some (.int 0), none, none]) (st' := []) (I' := I1) (J' := J1) (Ps := []) rfl trivial ?_
  exact L1 0 (by omega) I1 J1 _ _ _ _ _ ⟨⟨k1, fun x hx => by omega⟩, fun q hq => k2 q (by omega), fun _ _ => rfl⟩

/-! TRANSPORT: searches (the class) -/
def zL (x : Int) : Int64 := Int64.ofInt x
theorem zL_ti {x : Int} (h : -9223372036854775808 ≤ x ∧ x ≤ 9223372036854775807) : (zL x).toInt = x := Int64.toInt_ofInt_of_le (by omega) (by omega)
theorem zL_add (a b : Int) : zL a + zL b = zL (a + b) := (Int64.ofInt_add a b).symm
theorem zL_sub (a b : Int) : zL a - zL b = zL (a - b) := (Int64.ofInt_sub a b).symm
theorem lN_z (n : Nat) : lN n = zL (n : Int) := rfl
theorem zL_lt {a b : Int} (ha : -9223372036854775808 ≤ a ∧ a ≤ 9223372036854775807) (hb : -9223372036854775808 ≤ b ∧ b ≤ 9223372036854775807) : zL a < zL b ↔ a < b := by rw [Int64.lt_iff_toInt_lt, zL_ti ha, zL_ti hb]
theorem zL_le {a b : Int} (ha : -9223372036854775808 ≤ a ∧ a ≤ 9223372036854775807) (hb : -9223372036854775808 ≤ b ∧ b ≤ 9223372036854775807) : zL a ≤ zL b ↔ a ≤ b := by rw [Int64.le_iff_toInt_le, zL_ti ha, zL_ti hb]
theorem zL_eq {a b : Int} (ha : -9223372036854775808 ≤ a ∧ a ≤ 9223372036854775807) (hb : -9223372036854775808 ≤ b ∧ b ≤ 9223372036854775807) : zL a = zL b ↔ a = b := by rw [← Int64.toInt_inj, zL_ti ha, zL_ti hb]
theorem zL_far : zL FAR = 9223372036854775807 := rfl
/-- near, or far -/
abbrev Rg (x : Int) : Prop := (-4000000000000000000 ≤ x ∧ x ≤ 4000000000000000000) ∨ x = 9223372036854775807
theorem rg_near {x : Int} (h : Rg x) (hf : x ≠ FAR) : -4000000000000000000 ≤ x ∧ x ≤ 4000000000000000000 := by
  rcases h with h | h
  · exact h
  · exact absurd h hf
theorem far_iff {x : Int} (h : Rg x) : zL x = 9223372036854775807 ↔ x = FAR := by
  rw [← zL_far]
  exact zL_eq (by rcases h with h | h <;> omega) (by decide)
abbrev Zl (J : aJ) (a n : Nat) (R : Nat → Int) : Prop := ∀ i, i < n → J a i = zL (R i)
abbrev Pb (I : aI) (a n : Nat) (b : Nat → Nat) : Prop := ∀ i, i < n → I a i = nI (b i) - 1
/-- the size and the costs -/
def Tq (n : Nat) (dd : Nat → Nat → Nat) (I : aI) (J : aJ) : Prop := (1 ≤ n ∧ n ≤ 6) ∧ I 47 1 = nI n ∧ ∀ i j, i < n → j < n → J 49 (i * 6 + j) = lN (dd i j) ∧ dd i j ≤ 1000000000000000
theorem pb1 (b : Nat) : nI (b + 1) - 1 = nI b := nI_pred b
theorem Apr_rg {n : Nat} {A : Nat → Nat → Prop} {w : Nat → Nat → Int} {S D : Nat → Int} {b : Nat → Nat} {P : Nat → Nat → Prop} {D' : Nat → Int} {b' : Nat → Nat} {v : Int32} (h : Apr n A w S D b P D' b' v) (hS : ∀ s, s < n → Rg (S s)) (hD : ∀ t, t < n → Rg (D t)) (hw : ∀ s t, s < n → t < n → -1000000000000000 ≤ w s t ∧ w s t ≤ 1000000000000000) (t : Nat) (ht : t < n) : -9223372036854775808 ≤ D' t ∧ D' t ≤ 9223372036854775807 := by
  have d := hD t ht
  rcases (h t ht).1 with q | ⟨_, s, hs, _, hf, e, _, _⟩
  · rw [q.1]; rcases d with d | d <;> omega
  · have := hw s t hs ht
    have := hS s hs
    rcases this with z | z
    · omega
    · exact absurd z hf
theorem s_apc (d : Nat) (I : aI) (J : aJ) (n : Nat) (dd : Nat → Nat → Nat) (hT : Tq n dd I J) (R C : Nat → Int) (hR : Zl J 52 n R) (hC : Zl J 53 n C) (gR : ∀ i, i < n → Rg (R i)) (gC : ∀ j, j < n → Rg (C j)) (a : Nat) (ha : a ≤ 36) (rb : Nat → Nat) (hb : Pb I 55 n rb) : Sp m_X8_approachColumns (d + 1) [.ref 47, .int (nI a)] E0 I J (fun r I' J' => ∃ (v : Int32) (C' : Nat → Int) (rb' : Nat → Nat), r = some (.int v) ∧ (v = 0 ∨ v = 1) ∧ Zl J' 53 n C' ∧ Pb I' 55 n rb' ∧ Apr n (fun i j => a ≤ i * 6 + j) (fun i j => (dd i j : Int)) R C rb (fun _ _ => True) C' rb' v ∧ (∀ q, q ≠ 53 → J' q = J q) ∧ ∀ q, q ≠ 55 → I' q = I q) := by
  refine Sp.of (lo := [some (.ref 47), some (.int (nI a)), none, none, none, none, none, none]) rfl (fun Q hQ => ?_)
  obtain ⟨hn, hsz, hco⟩ := hT
  have L1 : ∀ k, k ≤ n → ∀ (I1 : aI) (J1 : aJ) (C1 : Nat → Int) (rb1 : Nat → Nat) (v : Int32), ((v = 0 ∨ v = 1) ∧ Zl J1 53 n C1 ∧ Pb I1 55 n rb1 ∧ Apr n (fun i j => a ≤ i * 6 + j) (fun i j => (dd i j : Int)) R C rb (fun i _ => i < k) C1 rb1 v ∧ (∀ x, x ≠ 53 → J1 x = J x) ∧ ∀ x, x ≠ 55 → I1 x = I x) → Ez m_X8_approachColumns (d + 1) 4 [some (.ref 47), some (.int (nI a)), some (.int v), some (.int (nI k)), none, none, none, none] [] E0 I1 J1 Q := by
    refine for_up ?_ ?_
    · intro I1 J1 C1 rb1 v hi
      refine Ez.blk B_X8_approachColumns_4 (lo' := [some (.ref 47), some (.int (nI a)), some (.int v), some (.int (nI n)), none, none, none, none]) (st' := [.int (I1 47 1), .int (nI n)]) (I' := I1) (J' := J1) (Ps := [aO E0 47 8]) rfl o_47 ?_
      refine Ez.n_icmp_ge (off := 106) (tgt := 115) (by decide +kernel) (by decide) (a := n) (b := n) rfl (by rw [hi.2.2.2.2.2 47 (by decide)]; exact hsz) (by omega) (by omega) (fun h => ?_) (fun h => absurd h (by omega))
      refine Ez.blk B_X8_approachColumns_115 (lo' := [some (.ref 47), some (.int (nI a)), some (.int v), some (.int (nI n)), none, none, none, none]) (st' := [.int v]) (I' := I1) (J' := J1) (Ps := []) rfl trivial ?_
      exact Ez.zret rfl hi.1 (by decide +kernel) (hQ _ _ _ ⟨v, C1, rb1, rfl, hi.1, hi.2.1, hi.2.2.1, Apr_sub hi.2.2.2.1 (fun s t hs _ _ _ _ => Or.inl hs), hi.2.2.2.2.1, hi.2.2.2.2.2⟩)
    · intro k hk ih I1 J1 C1 rb1 v hi
      have e52 : J1 52 = J 52 := hi.2.2.2.2.1 52 (by decide)
      refine Ez.blk B_X8_approachColumns_4 (lo' := [some (.ref 47), some (.int (nI a)), some (.int v), some (.int (nI k)), none, none, none, none]) (st' := [.int (I1 47 1), .int (nI k)]) (I' := I1) (J' := J1) (Ps := [aO E0 47 8]) rfl o_47 ?_
      refine Ez.n_icmp_ge (off := 106) (tgt := 115) (by decide +kernel) (by decide) (a := k) (b := n) rfl (by rw [hi.2.2.2.2.2 47 (by decide)]; exact hsz) (by omega) (by omega) (fun h => absurd h (by omega)) (fun h => ?_)
      refine Ez.blk B_X8_approachColumns_12 (lo' := [some (.ref 47), some (.int (nI a)), some (.int v), some (.int (nI k)), none, none, none, none]) (st' := [.int (lg_cmp (J1 52 ((nI k).toNatClampNeg)) 9223372036854775807)]) (I' := I1) (J' := J1) (Ps := [aO E0 47 8 ∧ E0.2.2 47 5 ≠ 0, aAr E0 2 52 (nI k)]) rfl ⟨r_47_5, (a_52 (vin (n := k) rfl (by omega) (by decide)))⟩ ?_
      rw [cln (x := nI k) (n := k) rfl (by omega)]
      rw [e52, hR k hk]
      refine Ez.lif_ne (off := 6) (tgt := 28) (by decide +kernel) (by decide) (fun h2 => ?_) (fun h2 => ?_)
      · have hnf : R k ≠ FAR := fun z => h2 ((far_iff (gR k hk)).mpr z)
        have grk := rg_near (gR k hk) hnf
        refine Ez.blk B_X8_approachColumns_28 (lo' := [some (.ref 47), some (.int (nI a)), some (.int v), some (.int (nI k)), some (.int 0), none, none, none]) (st' := []) (I' := I1) (J' := J1) (Ps := []) rfl trivial ?_
        have L2 : ∀ q, q ≤ n → ∀ (I2 : aI) (J2 : aJ) (C2 : Nat → Int) (rb2 : Nat → Nat) (v2 : Int32), ((v2 = 0 ∨ v2 = 1) ∧ Zl J2 53 n C2 ∧ Pb I2 55 n rb2 ∧ Apr n (fun i j => a ≤ i * 6 + j) (fun i j => (dd i j : Int)) R C rb (fun i j => i < k ∨ (i = k ∧ j < q)) C2 rb2 v2 ∧ (∀ x, x ≠ 53 → J2 x = J x) ∧ ∀ x, x ≠ 55 → I2 x = I x) → Ez m_X8_approachColumns (d + 1) 31 [some (.ref 47), some (.int (nI a)), some (.int v2), some (.int (nI k)), some (.int (nI q)), none, none, none] [] E0 I2 J2 Q := by
          refine for_up ?_ ?_
          · intro I2 J2 C2 rb2 v2 hi2
            refine Ez.blk B_X8_approachColumns_31 (lo' := [some (.ref 47), some (.int (nI a)), some (.int v2), some (.int (nI k)), some (.int (nI n)), none, none, none]) (st' := [.int (I2 47 1), .int (nI n)]) (I' := I2) (J' := J2) (Ps := [aO E0 47 8]) rfl o_47 ?_
            refine Ez.n_icmp_ge (off := 72) (tgt := 109) (by decide +kernel) (by decide) (a := n) (b := n) rfl (by rw [hi2.2.2.2.2.2 47 (by decide)]; exact hsz) (by omega) (by omega) (fun h9 => ?_) (fun h9 => absurd h9 (by omega))
            refine Ez.blk B_X8_approachColumns_109 (lo' := [some (.ref 47), some (.int (nI a)), some (.int v2), some (.int (nI k + 1)), some (.int (nI n)), none, none, none]) (st' := []) (I' := I2) (J' := J2) (Ps := []) rfl trivial ?_
            rw [show (nI k + 1) = nI (k + 1) from (eq_add (a := k) (b := 1) rfl rfl)]
            refine Ez.drops [4, 5, 6] (lo' := [some (.ref 47), some (.int (nI a)), some (.int v2), some (.int (nI (k + 1))), none, none, none, none]) rfl ?_
            exact ih I2 J2 C2 rb2 v2 ⟨hi2.1, hi2.2.1, hi2.2.2.1, Apr_sub hi2.2.2.2.1 (fun s t hs ht hp _ _ => Or.inl (by omega)), hi2.2.2.2.2.1, hi2.2.2.2.2.2⟩
          · intro q hq ih2 I2 J2 C2 rb2 v2 hi2
            have f52 : J2 52 = J 52 := hi2.2.2.2.2.1 52 (by decide)
            have f49 : J2 49 = J 49 := hi2.2.2.2.2.1 49 (by decide)
            have hcd := hco k q hk hq
            have g2 := Apr_rg hi2.2.2.2.1 gR gC (fun s t hs ht => by have := (hco s t hs ht).2; omega) q hq
            refine Ez.blk B_X8_approachColumns_31 (lo' := [some (.ref 47), some (.int (nI a)), some (.int v2), some (.int (nI k)), some (.int (nI q)), none, none, none]) (st' := [.int (I2 47 1), .int (nI q)]) (I' := I2) (J' := J2) (Ps := [aO E0 47 8]) rfl o_47 ?_
            refine Ez.n_icmp_ge (off := 72) (tgt := 109) (by decide +kernel) (by decide) (a := q) (b := n) rfl (by rw [hi2.2.2.2.2.2 47 (by decide)]; exact hsz) (by omega) (by omega) (fun h9 => absurd h9 (by omega)) (fun h9 => ?_)
            refine Ez.blk B_X8_approachColumns_40 (lo' := [some (.ref 47), some (.int (nI a)), some (.int v2), some (.int (nI k)), some (.int (nI q)), some (.int ((nI k * 6) + nI q)), some (.long (J2 52 ((nI k).toNatClampNeg) + J2 49 (((nI k * 6) + nI q).toNatClampNeg))), none]) (st' := [.int (nI a), .int ((nI k * 6) + nI q)]) (I' := I2) (J' := J2) (Ps := [aO E0 47 8 ∧ E0.2.2 47 5 ≠ 0, aAr E0 2 52 (nI k), aO E0 47 8 ∧ E0.2.2 47 2 ≠ 0, aAr E0 2 49 ((nI k * 6) + nI q)]) rfl ⟨r_47_5, (a_52 (vin (n := k) rfl (by omega) (by decide))), r_47_2, (a_49 (vin (n := (k * 6 + q)) (eq_add (a := (k * 6)) (b := q) (eq_mul (a := k) (b := 6) rfl rfl) rfl) (by omega) (by decide)))⟩ ?_
            rw [cln (x := nI k) (n := k) rfl (by omega)]
            rw [cln (x := ((nI k * 6) + nI q)) (n := (k * 6 + q)) (eq_add (a := (k * 6)) (b := q) (eq_mul (a := k) (b := 6) rfl rfl) rfl) (by omega)]
            rw [show ((nI k * 6) + nI q) = nI (k * 6 + q) from (eq_add (a := (k * 6)) (b := q) (eq_mul (a := k) (b := 6) rfl rfl) rfl)]
            rw [f52, f49, hR k hk, hcd.1, lN_z, zL_add]
            refine Ez.n_icmp_lt (off := 35) (tgt := 103) (by decide +kernel) (by decide) (a := (k * 6 + q)) (b := a) rfl rfl (by omega) (by omega) (fun h3 => ?_) (fun h3 => ?_)
            · refine Ez.blk B_X8_approachColumns_103 (lo' := [some (.ref 47), some (.int (nI a)), some (.int v2), some (.int (nI k)), some (.int (nI q + 1)), some (.int (nI (k * 6 + q))), some (.long (zL (R k + (dd k q : Int)))), none]) (st' := []) (I' := I2) (J' := J2) (Ps := []) rfl trivial ?_
              rw [show (nI q + 1) = nI (q + 1) from (eq_add (a := q) (b := 1) rfl rfl)]
              refine Ez.drops [5, 6] (lo' := [some (.ref 47), some (.int (nI a)), some (.int v2), some (.int (nI k)), some (.int (nI (q + 1))), none, none, none]) rfl ?_
              refine ih2 I2 J2 C2 rb2 v2 ⟨hi2.1, hi2.2.1, hi2.2.2.1, Apr_sub hi2.2.2.2.1 (fun s t hs ht hp hA _ => ?_), hi2.2.2.2.2.1, hi2.2.2.2.2.2⟩
              by_cases e : s = k ∧ t = q
              · rw [e.1, e.2] at hA
                omega
              · exact Or.inl (by omega)
            · refine Ez.blk B_X8_approachColumns_71 (lo' := [some (.ref 47), some (.int (nI a)), some (.int v2), some (.int (nI k)), some (.int (nI q)), some (.int (nI (k * 6 + q))), some (.long (zL (R k + (dd k q : Int)))), none]) (st' := [.int (lg_cmp (zL (R k + (dd k q : Int))) (J2 53 ((nI q).toNatClampNeg)))]) (I' := I2) (J' := J2) (Ps := [aO E0 47 8 ∧ E0.2.2 47 6 ≠ 0, aAr E0 2 53 (nI q)]) rfl ⟨r_47_6, (a_53 (vin (n := q) rfl (by omega) (by decide)))⟩ ?_
              rw [cln (x := nI q) (n := q) rfl (by omega)]
              rw [hi2.2.1 q hq]
              refine Ez.lif_ge (off := 22) (tgt := 103) (by decide +kernel) (by decide) (fun h4 => ?_) (fun h4 => ?_)
              · have hle : C2 q ≤ R k + (dd k q : Int) := (zL_le g2 (by omega)).mp h4
                refine Ez.blk B_X8_approachColumns_103 (lo' := [some (.ref 47), some (.int (nI a)), some (.int v2), some (.int (nI k)), some (.int (nI q + 1)), some (.int (nI (k * 6 + q))), some (.long (zL (R k + (dd k q : Int)))), none]) (st' := []) (I' := I2) (J' := J2) (Ps := []) rfl trivial ?_
                rw [show (nI q + 1) = nI (q + 1) from (eq_add (a := q) (b := 1) rfl rfl)]
                refine Ez.drops [5, 6] (lo' := [some (.ref 47), some (.int (nI a)), some (.int v2), some (.int (nI k)), some (.int (nI (q + 1))), none, none, none]) rfl ?_
                refine ih2 I2 J2 C2 rb2 v2 ⟨hi2.1, hi2.2.1, hi2.2.2.1, Apr_sub hi2.2.2.2.1 (fun s t hs ht hp hA _ => ?_), hi2.2.2.2.2.1, hi2.2.2.2.2.2⟩
                by_cases e : s = k ∧ t = q
                · rw [e.1, e.2]
                  exact Or.inr hle
                · exact Or.inl (by omega)
              · have hlt : R k + (dd k q : Int) < C2 q := by
                  have h5 : ¬ C2 q ≤ R k + (dd k q : Int) := fun y => h4 ((zL_le g2 (by omega)).mpr y)
                  omega
                refine Ez.blk B_X8_approachColumns_84 (lo' := [some (.ref 47), some (.int (nI a)), some (.int 1), some (.int (nI k)), some (.int (nI q + 1)), some (.int (nI (k * 6 + q))), some (.long (zL (R k + (dd k q : Int)))), none]) (st' := []) (I' := (aUp I2 55 ((nI q).toNatClampNeg) (nI k))) (J' := (aUpJ J2 53 ((nI q).toNatClampNeg) (zL (R k + (dd k q : Int))))) (Ps := [aO E0 47 8 ∧ E0.2.2 47 6 ≠ 0, aAr E0 2 53 (nI q), aO E0 47 8 ∧ E0.2.2 47 8 ≠ 0, aAr E0 1 55 (nI q)]) rfl ⟨r_47_6, (a_53 (vin (n := q) rfl (by omega) (by decide))), r_47_8, (a_55 (vin (n := q) rfl (by omega) (by decide)))⟩ ?_
                rw [cln (x := nI q) (n := q) rfl (by omega)]
                rw [show (nI q + 1) = nI (q + 1) from (eq_add (a := q) (b := 1) rfl rfl)]
                refine Ez.drops [5, 6] (lo' := [some (.ref 47), some (.int (nI a)), some (.int 1), some (.int (nI k)), some (.int (nI (q + 1))), none, none, none]) rfl ?_
                exact ih2 _ _ (zup C2 q (R k + (dd k q : Int))) (cup rb2 q (k + 1)) 1 ⟨Or.inr rfl, fun x hx => by
                  by_cases e : x = q
                  · rw [e, aUpJ_eq, zup_eq]
                  · rw [aUpJ_nk e, zup_ne e]; exact hi2.2.1 x hx, fun x hx => by
                  by_cases e : x = q
                  · rw [e, aUp_eq, cup_eq, pb1]
                  · rw [aUp_nk e, cup_ne e]; exact hi2.2.2.1 x hx, Apr_up hi2.2.2.2.1 hk hq (by omega) hnf hlt (fun s t hs ht hp => by omega), fun x hx => by rw [aUpJ_ne hx]; exact hi2.2.2.2.2.1 x hx, fun x hx => by rw [aUp_ne hx]; exact hi2.2.2.2.2.2 x hx⟩
        exact L2 0 (by omega) I1 J1 C1 rb1 v ⟨hi.1, hi.2.1, hi.2.2.1, Apr_sub hi.2.2.2.1 (fun s t hs ht hp _ _ => Or.inl (by omega)), hi.2.2.2.2.1, hi.2.2.2.2.2⟩
      · have hfar := (far_iff (gR k hk)).mp h2
        refine Ez.blk B_X8_approachColumns_25 (lo' := [some (.ref 47), some (.int (nI a)), some (.int v), some (.int (nI k)), none, none, none, none]) (st' := []) (I' := I1) (J' := J1) (Ps := []) rfl trivial ?_
        refine Ez.blk B_X8_approachColumns_109 (lo' := [some (.ref 47), some (.int (nI a)), some (.int v), some (.int (nI k + 1)), none, none, none, none]) (st' := []) (I' := I1) (J' := J1) (Ps := []) rfl trivial ?_
        rw [show (nI k + 1) = nI (k + 1) from (eq_add (a := k) (b := 1) rfl rfl)]
        exact ih I1 J1 C1 rb1 v ⟨hi.1, hi.2.1, hi.2.2.1, Apr_sub hi.2.2.2.1 (fun s t hs ht hp _ hS => Or.inl (by
          by_cases e : s = k
          · rw [e] at hS; exact absurd hfar hS
          · omega)), hi.2.2.2.2.1, hi.2.2.2.2.2⟩
  refine Ez.blk B_X8_approachColumns_0 (lo' := [some (.ref 47), some (.int (nI a)), some (.int 0), some (.int 0), none, none, none, none]) (st' := []) (I' := I) (J' := J) (Ps := []) rfl trivial ?_
  exact L1 0 (by omega) I J C rb 0 ⟨Or.inl rfl, hC, hb, Apr_sub Apr_no (fun s t hs ht hp _ _ => by omega), fun _ _ => rfl, fun _ _ => rfl⟩
theorem s_apr (d : Nat) (I : aI) (J : aJ) (n : Nat) (dd : Nat → Nat → Nat) (hT : Tq n dd I J) (R C : Nat → Int) (hR : Zl J 52 n R) (hC : Zl J 53 n C) (gR : ∀ i, i < n → Rg (R i)) (gC : ∀ j, j < n → Rg (C j)) (a : Nat) (ha : a ≤ 36) (F : Nat → Nat) (hF : ∀ q, q < 36 → I 48 q = nI (F q) ∧ F q ≤ 24) (cb : Nat → Nat) (hb : Pb I 54 n cb) : Sp m_X8_approachRows (d + 1) [.ref 47, .int (nI a)] E0 I J (fun r I' J' => ∃ (v : Int32) (R' : Nat → Int) (cb' : Nat → Nat), r = some (.int v) ∧ (v = 0 ∨ v = 1) ∧ Zl J' 52 n R' ∧ Pb I' 54 n cb' ∧ Apr n (fun j i => a ≤ i * 6 + j ∧ 0 < mx F i j) (fun j i => -(dd i j : Int)) C R cb (fun _ _ => True) R' cb' v ∧ (∀ q, q ≠ 52 → J' q = J q) ∧ ∀ q, q ≠ 54 → I' q = I q) := by
  refine Sp.of (lo := [some (.ref 47), some (.int (nI a)), none, none, none, none, none, none]) rfl (fun Q hQ => ?_)
  obtain ⟨hn, hsz, hco⟩ := hT
  have L1 : ∀ k, k ≤ n → ∀ (I1 : aI) (J1 : aJ) (C1 : Nat → Int) (rb1 : Nat → Nat) (v : Int32), ((v = 0 ∨ v = 1) ∧ Zl J1 52 n C1 ∧ Pb I1 54 n rb1 ∧ Apr n (fun j i => a ≤ i * 6 + j ∧ 0 < mx F i j) (fun j i => -(dd i j : Int)) C R cb (fun i _ => i < k) C1 rb1 v ∧ (∀ x, x ≠ 52 → J1 x = J x) ∧ ∀ x, x ≠ 54 → I1 x = I x) → Ez m_X8_approachRows (d + 1) 4 [some (.ref 47), some (.int (nI a)), some (.int v), some (.int (nI k)), none, none, none, none] [] E0 I1 J1 Q := by
    refine for_up ?_ ?_
    · intro I1 J1 C1 rb1 v hi
      refine Ez.blk B_X8_approachRows_4 (lo' := [some (.ref 47), some (.int (nI a)), some (.int v), some (.int (nI n)), none, none, none, none]) (st' := [.int (I1 47 1), .int (nI n)]) (I' := I1) (J' := J1) (Ps := [aO E0 47 8]) rfl o_47 ?_
      refine Ez.n_icmp_ge (off := 116) (tgt := 125) (by decide +kernel) (by decide) (a := n) (b := n) rfl (by rw [hi.2.2.2.2.2 47 (by decide)]; exact hsz) (by omega) (by omega) (fun h => ?_) (fun h => absurd h (by omega))
      refine Ez.blk B_X8_approachRows_125 (lo' := [some (.ref 47), some (.int (nI a)), some (.int v), some (.int (nI n)), none, none, none, none]) (st' := [.int v]) (I' := I1) (J' := J1) (Ps := []) rfl trivial ?_
      exact Ez.zret rfl hi.1 (by decide +kernel) (hQ _ _ _ ⟨v, C1, rb1, rfl, hi.1, hi.2.1, hi.2.2.1, Apr_sub hi.2.2.2.1 (fun s t hs _ _ _ _ => Or.inl hs), hi.2.2.2.2.1, hi.2.2.2.2.2⟩)
    · intro k hk ih I1 J1 C1 rb1 v hi
      have e52 : J1 53 = J 53 := hi.2.2.2.2.1 53 (by decide)
      refine Ez.blk B_X8_approachRows_4 (lo' := [some (.ref 47), some (.int (nI a)), some (.int v), some (.int (nI k)), none, none, none, none]) (st' := [.int (I1 47 1), .int (nI k)]) (I' := I1) (J' := J1) (Ps := [aO E0 47 8]) rfl o_47 ?_
      refine Ez.n_icmp_ge (off := 116) (tgt := 125) (by decide +kernel) (by decide) (a := k) (b := n) rfl (by rw [hi.2.2.2.2.2 47 (by decide)]; exact hsz) (by omega) (by omega) (fun h => absurd h (by omega)) (fun h => ?_)
      refine Ez.blk B_X8_approachRows_12 (lo' := [some (.ref 47), some (.int (nI a)), some (.int v), some (.int (nI k)), none, none, none, none]) (st' := [.int (lg_cmp (J1 53 ((nI k).toNatClampNeg)) 9223372036854775807)]) (I' := I1) (J' := J1) (Ps := [aO E0 47 8 ∧ E0.2.2 47 6 ≠ 0, aAr E0 2 53 (nI k)]) rfl ⟨r_47_6, (a_53 (vin (n := k) rfl (by omega) (by decide)))⟩ ?_
      rw [cln (x := nI k) (n := k) rfl (by omega)]
      rw [e52, hC k hk]
      refine Ez.lif_ne (off := 6) (tgt := 28) (by decide +kernel) (by decide) (fun h2 => ?_) (fun h2 => ?_)
      · have hnf : C k ≠ FAR := fun z => h2 ((far_iff (gC k hk)).mpr z)
        have grk := rg_near (gC k hk) hnf
        refine Ez.blk B_X8_approachRows_28 (lo' := [some (.ref 47), some (.int (nI a)), some (.int v), some (.int (nI k)), some (.int 0), none, none, none]) (st' := []) (I' := I1) (J' := J1) (Ps := []) rfl trivial ?_
        have L2 : ∀ q, q ≤ n → ∀ (I2 : aI) (J2 : aJ) (C2 : Nat → Int) (rb2 : Nat → Nat) (v2 : Int32), ((v2 = 0 ∨ v2 = 1) ∧ Zl J2 52 n C2 ∧ Pb I2 54 n rb2 ∧ Apr n (fun j i => a ≤ i * 6 + j ∧ 0 < mx F i j) (fun j i => -(dd i j : Int)) C R cb (fun i j => i < k ∨ (i = k ∧ j < q)) C2 rb2 v2 ∧ (∀ x, x ≠ 52 → J2 x = J x) ∧ ∀ x, x ≠ 54 → I2 x = I x) → Ez m_X8_approachRows (d + 1) 31 [some (.ref 47), some (.int (nI a)), some (.int v2), some (.int (nI k)), some (.int (nI q)), none, none, none] [] E0 I2 J2 Q := by
          refine for_up ?_ ?_
          · intro I2 J2 C2 rb2 v2 hi2
            refine Ez.blk B_X8_approachRows_31 (lo' := [some (.ref 47), some (.int (nI a)), some (.int v2), some (.int (nI k)), some (.int (nI n)), none, none, none]) (st' := [.int (I2 47 1), .int (nI n)]) (I' := I2) (J' := J2) (Ps := [aO E0 47 8]) rfl o_47 ?_
            refine Ez.n_icmp_ge (off := 82) (tgt := 119) (by decide +kernel) (by decide) (a := n) (b := n) rfl (by rw [hi2.2.2.2.2.2 47 (by decide)]; exact hsz) (by omega) (by omega) (fun h9 => ?_) (fun h9 => absurd h9 (by omega))
            refine Ez.blk B_X8_approachRows_119 (lo' := [some (.ref 47), some (.int (nI a)), some (.int v2), some (.int (nI k + 1)), some (.int (nI n)), none, none, none]) (st' := []) (I' := I2) (J' := J2) (Ps := []) rfl trivial ?_
            rw [show (nI k + 1) = nI (k + 1) from (eq_add (a := k) (b := 1) rfl rfl)]
            refine Ez.drops [4, 5, 6] (lo' := [some (.ref 47), some (.int (nI a)), some (.int v2), some (.int (nI (k + 1))), none, none, none, none]) rfl ?_
            exact ih I2 J2 C2 rb2 v2 ⟨hi2.1, hi2.2.1, hi2.2.2.1, Apr_sub hi2.2.2.2.1 (fun s t hs ht hp _ _ => Or.inl (by omega)), hi2.2.2.2.2.1, hi2.2.2.2.2.2⟩
          · intro q hq ih2 I2 J2 C2 rb2 v2 hi2
            have f52 : J2 53 = J 53 := hi2.2.2.2.2.1 53 (by decide)
            have f49 : J2 49 = J 49 := hi2.2.2.2.2.1 49 (by decide)
            have hcd := hco q k hq hk
            have hFq := hF (q * 6 + k) (by omega)
            have g2 := Apr_rg hi2.2.2.2.1 gC gR (fun s t hs ht => by have := (hco t s ht hs).2; omega) q hq
            refine Ez.blk B_X8_approachRows_31 (lo' := [some (.ref 47), some (.int (nI a)), some (.int v2), some (.int (nI k)), some (.int (nI q)), none, none, none]) (st' := [.int (I2 47 1), .int (nI q)]) (I' := I2) (J' := J2) (Ps := [aO E0 47 8]) rfl o_47 ?_
            refine Ez.n_icmp_ge (off := 82) (tgt := 119) (by decide +kernel) (by decide) (a := q) (b := n) rfl (by rw [hi2.2.2.2.2.2 47 (by decide)]; exact hsz) (by omega) (by omega) (fun h9 => absurd h9 (by omega)) (fun h9 => ?_)
            refine Ez.blk B_X8_approachRows_40 (lo' := [some (.ref 47), some (.int (nI a)), some (.int v2), some (.int (nI k)), some (.int (nI q)), some (.int ((nI q * 6) + nI k)), some (.long (J2 53 ((nI k).toNatClampNeg) - J2 49 (((nI q * 6) + nI k).toNatClampNeg))), none]) (st' := [.int (nI a), .int ((nI q * 6) + nI k)]) (I' := I2) (J' := J2) (Ps := [aO E0 47 8 ∧ E0.2.2 47 6 ≠ 0, aAr E0 2 53 (nI k), aO E0 47 8 ∧ E0.2.2 47 2 ≠ 0, aAr E0 2 49 ((nI q * 6) + nI k)]) rfl ⟨r_47_6, (a_53 (vin (n := k) rfl (by omega) (by decide))), r_47_2, (a_49 (vin (n := (q * 6 + k)) (eq_add (a := (q * 6)) (b := k) (eq_mul (a := q) (b := 6) rfl rfl) rfl) (by omega) (by decide)))⟩ ?_
            rw [cln (x := nI k) (n := k) rfl (by omega)]
            rw [cln (x := ((nI q * 6) + nI k)) (n := (q * 6 + k)) (eq_add (a := (q * 6)) (b := k) (eq_mul (a := q) (b := 6) rfl rfl) rfl) (by omega)]
            rw [show ((nI q * 6) + nI k) = nI (q * 6 + k) from (eq_add (a := (q * 6)) (b := k) (eq_mul (a := q) (b := 6) rfl rfl) rfl)]
            rw [f52, f49, hC k hk, hcd.1, lN_z, zL_sub, Int.sub_eq_add_neg]
            refine Ez.n_icmp_lt (off := 45) (tgt := 113) (by decide +kernel) (by decide) (a := (q * 6 + k)) (b := a) rfl rfl (by omega) (by omega) (fun h3 => ?_) (fun h3 => ?_)
            · refine Ez.blk B_X8_approachRows_113 (lo' := [some (.ref 47), some (.int (nI a)), some (.int v2), some (.int (nI k)), some (.int (nI q + 1)), some (.int (nI (q * 6 + k))), some (.long (zL (C k + -(dd q k : Int)))), none]) (st' := []) (I' := I2) (J' := J2) (Ps := []) rfl trivial ?_
              rw [show (nI q + 1) = nI (q + 1) from (eq_add (a := q) (b := 1) rfl rfl)]
              refine Ez.drops [5, 6] (lo' := [some (.ref 47), some (.int (nI a)), some (.int v2), some (.int (nI k)), some (.int (nI (q + 1))), none, none, none]) rfl ?_
              refine ih2 I2 J2 C2 rb2 v2 ⟨hi2.1, hi2.2.1, hi2.2.2.1, Apr_sub hi2.2.2.2.1 (fun s t hs ht hp hA _ => ?_), hi2.2.2.2.2.1, hi2.2.2.2.2.2⟩
              by_cases e : s = k ∧ t = q
              · rw [e.1, e.2] at hA
                omega
              · exact Or.inl (by omega)
            · refine Ez.blk B_X8_approachRows_71 (lo' := [some (.ref 47), some (.int (nI a)), some (.int v2), some (.int (nI k)), some (.int (nI q)), some (.int (nI (q * 6 + k))), some (.long (zL (C k + -(dd q k : Int)))), none]) (st' := [.int (I2 48 ((nI (q * 6 + k)).toNatClampNeg))]) (I' := I2) (J' := J2) (Ps := [aO E0 47 8 ∧ E0.2.2 47 0 ≠ 0, aAr E0 1 48 (nI (q * 6 + k))]) rfl ⟨r_47_0, (a_48 (vin (n := (q * 6 + k)) rfl (by omega) (by decide)))⟩ ?_
              rw [cln (x := nI (q * 6 + k)) (n := (q * 6 + k)) rfl (by omega)]
              refine Ez.n_if_le (off := 35) (tgt := 113) (by decide +kernel) (by decide) (a := (F (q * 6 + k))) (by rw [hi2.2.2.2.2.2 48 (by decide)]; exact (hF _ (by omega)).1) (by omega) (fun h5 => ?_) (fun h5 => ?_)
              · refine Ez.blk B_X8_approachRows_113 (lo' := [some (.ref 47), some (.int (nI a)), some (.int v2), some (.int (nI k)), some (.int (nI q + 1)), some (.int (nI (q * 6 + k))), some (.long (zL (C k + -(dd q k : Int)))), none]) (st' := []) (I' := I2) (J' := J2) (Ps := []) rfl trivial ?_
                rw [show (nI q + 1) = nI (q + 1) from (eq_add (a := q) (b := 1) rfl rfl)]
                refine Ez.drops [5, 6] (lo' := [some (.ref 47), some (.int (nI a)), some (.int v2), some (.int (nI k)), some (.int (nI (q + 1))), none, none, none]) rfl ?_
                refine ih2 I2 J2 C2 rb2 v2 ⟨hi2.1, hi2.2.1, hi2.2.2.1, Apr_sub hi2.2.2.2.1 (fun s t hs ht hp hA _ => ?_), hi2.2.2.2.2.1, hi2.2.2.2.2.2⟩
                by_cases e : s = k ∧ t = q
                · rw [e.1, e.2] at hA
                  have := hA.2
                  dsimp only [mx] at this
                  omega
                · exact Or.inl (by omega)
              · refine Ez.blk B_X8_approachRows_81 (lo' := [some (.ref 47), some (.int (nI a)), some (.int v2), some (.int (nI k)), some (.int (nI q)), some (.int (nI (q * 6 + k))), some (.long (zL (C k + -(dd q k : Int)))), none]) (st' := [.int (lg_cmp (zL (C k + -(dd q k : Int))) (J2 52 ((nI q).toNatClampNeg)))]) (I' := I2) (J' := J2) (Ps := [aO E0 47 8 ∧ E0.2.2 47 5 ≠ 0, aAr E0 2 52 (nI q)]) rfl ⟨r_47_5, (a_52 (vin (n := q) rfl (by omega) (by decide)))⟩ ?_
                rw [cln (x := nI q) (n := q) rfl (by omega)]
                rw [hi2.2.1 q hq]
                refine Ez.lif_ge (off := 22) (tgt := 113) (by decide +kernel) (by decide) (fun h4 => ?_) (fun h4 => ?_)
                · have hle : C2 q ≤ C k + -(dd q k : Int) := (zL_le g2 (by omega)).mp h4
                  refine Ez.blk B_X8_approachRows_113 (lo' := [some (.ref 47), some (.int (nI a)), some (.int v2), some (.int (nI k)), some (.int (nI q + 1)), some (.int (nI (q * 6 + k))), some (.long (zL (C k + -(dd q k : Int)))), none]) (st' := []) (I' := I2) (J' := J2) (Ps := []) rfl trivial ?_
                  rw [show (nI q + 1) = nI (q + 1) from (eq_add (a := q) (b := 1) rfl rfl)]
                  refine Ez.drops [5, 6] (lo' := [some (.ref 47), some (.int (nI a)), some (.int v2), some (.int (nI k)), some (.int (nI (q + 1))), none, none, none]) rfl ?_
                  refine ih2 I2 J2 C2 rb2 v2 ⟨hi2.1, hi2.2.1, hi2.2.2.1, Apr_sub hi2.2.2.2.1 (fun s t hs ht hp hA _ => ?_), hi2.2.2.2.2.1, hi2.2.2.2.2.2⟩
                  by_cases e : s = k ∧ t = q
                  · rw [e.1, e.2]
                    exact Or.inr hle
                  · exact Or.inl (by omega)
                · have hlt : C k + -(dd q k : Int) < C2 q := by
                    have h6 : ¬ C2 q ≤ C k + -(dd q k : Int) := fun y => h4 ((zL_le g2 (by omega)).mpr y)
                    omega
                  refine Ez.blk B_X8_approachRows_94 (lo' := [some (.ref 47), some (.int (nI a)), some (.int 1), some (.int (nI k)), some (.int (nI q + 1)), some (.int (nI (q * 6 + k))), some (.long (zL (C k + -(dd q k : Int)))), none]) (st' := []) (I' := (aUp I2 54 ((nI q).toNatClampNeg) (nI k))) (J' := (aUpJ J2 52 ((nI q).toNatClampNeg) (zL (C k + -(dd q k : Int))))) (Ps := [aO E0 47 8 ∧ E0.2.2 47 5 ≠ 0, aAr E0 2 52 (nI q), aO E0 47 8 ∧ E0.2.2 47 7 ≠ 0, aAr E0 1 54 (nI q)]) rfl ⟨r_47_5, (a_52 (vin (n := q) rfl (by omega) (by decide))), r_47_7, (a_54 (vin (n := q) rfl (by omega) (by decide)))⟩ ?_
                  rw [cln (x := nI q) (n := q) rfl (by omega)]
                  rw [show (nI q + 1) = nI (q + 1) from (eq_add (a := q) (b := 1) rfl rfl)]
                  refine Ez.drops [5, 6] (lo' := [some (.ref 47), some (.int (nI a)), some (.int 1), some (.int (nI k)), some (.int (nI (q + 1))), none, none, none]) rfl ?_
                  exact ih2 _ _ (zup C2 q (C k + -(dd q k : Int))) (cup rb2 q (k + 1)) 1 ⟨Or.inr rfl, fun x hx => by
                    by_cases e : x = q
                    · rw [e, aUpJ_eq, zup_eq]
                    · rw [aUpJ_nk e, zup_ne e]; exact hi2.2.1 x hx, fun x hx => by
                    by_cases e : x = q
                    · rw [e, aUp_eq, cup_eq, pb1]
                    · rw [aUp_nk e, cup_ne e]; exact hi2.2.2.1 x hx, Apr_up hi2.2.2.2.1 hk hq ⟨by omega, show 0 < F (q * 6 + k) by omega⟩ hnf hlt (fun s t hs ht hp => by omega), fun x hx => by rw [aUpJ_ne hx]; exact hi2.2.2.2.2.1 x hx, fun x hx => by rw [aUp_ne hx]; exact hi2.2.2.2.2.2 x hx⟩
        exact L2 0 (by omega) I1 J1 C1 rb1 v ⟨hi.1, hi.2.1, hi.2.2.1, Apr_sub hi.2.2.2.1 (fun s t hs ht hp _ _ => Or.inl (by omega)), hi.2.2.2.2.1, hi.2.2.2.2.2⟩
      · have hfar := (far_iff (gC k hk)).mp h2
        refine Ez.blk B_X8_approachRows_25 (lo' := [some (.ref 47), some (.int (nI a)), some (.int v), some (.int (nI k)), none, none, none, none]) (st' := []) (I' := I1) (J' := J1) (Ps := []) rfl trivial ?_
        refine Ez.blk B_X8_approachRows_119 (lo' := [some (.ref 47), some (.int (nI a)), some (.int v), some (.int (nI k + 1)), none, none, none, none]) (st' := []) (I' := I1) (J' := J1) (Ps := []) rfl trivial ?_
        rw [show (nI k + 1) = nI (k + 1) from (eq_add (a := k) (b := 1) rfl rfl)]
        exact ih I1 J1 C1 rb1 v ⟨hi.1, hi.2.1, hi.2.2.1, Apr_sub hi.2.2.2.1 (fun s t hs ht hp _ hS => Or.inl (by
          by_cases e : s = k
          · rw [e] at hS; exact absurd hfar hS
          · omega)), hi.2.2.2.2.1, hi.2.2.2.2.2⟩
  refine Ez.blk B_X8_approachRows_0 (lo' := [some (.ref 47), some (.int (nI a)), some (.int 0), some (.int 0), none, none, none, none]) (st' := []) (I' := I) (J' := J) (Ps := []) rfl trivial ?_
  exact L1 0 (by omega) I J R cb 0 ⟨Or.inl rfl, hR, hb, Apr_sub Apr_no (fun s t hs ht hp _ _ => by omega), fun _ _ => rfl, fun _ _ => rfl⟩

/-! TRANSPORT: slack and shift walked -/
theorem min_n' {a b : Nat} (ha : a < 2147483648) (hb : b < 2147483648) : (if nI b < nI a then nI b else nI a) = nI (min a b) := by
  by_cases h : b < a
  · rw [if_pos ((nI_ltI hb ha).mpr h), Nat.min_eq_right (by omega)]
  · rw [if_neg (fun q => h ((nI_ltI hb ha).mp q)), Nat.min_eq_left (by omega)]
theorem s_slack (d : Nat) (I : aI) (J : aJ) (n : Nat) (hn : 1 ≤ n ∧ n ≤ 6) (hsz : I 47 1 = nI n) (F : Nat → Nat) (hF : ∀ q, q < 36 → I 48 q = nI (F q) ∧ F q ≤ 24) (A : Nat → Nat → Prop) (dd : Nat → Nat → Nat) (s : Nat) (R C : Nat → Int) (cb rb r : Nat → Nat) (hcb : Pb I 54 n cb) (hrb : Pb I 55 n rb) (j m : Nat) (hm : m < n) (hw : Wy n A dd (mx F) s R C cb rb r j m) (hs0 : cb s = 0) (lim : Nat) (hlim : lim ≤ 24) : Sp m_X8_slackOfPath (d + 1) [.ref 47, .int (nI j), .int (nI lim)] E0 I J (fun r I' J' => r = some (.int (nI (slk (mx F) cb rb j lim m))) ∧ I' = I ∧ J' = J) := by
  refine Sp.of (lo := [some (.ref 47), some (.int (nI j)), some (.int (nI lim)), none, none, none, none]) rfl (fun Q hQ => ?_)
  have c0 := hw.2.1 0 (Nat.zero_le _)
  have hj : j < n := c0.1
  have hsl := slk_le (mx F) cb rb j lim
  have L1 : ∀ k, k ≤ m → True → Ez m_X8_slackOfPath (d + 1) 13 [some (.ref 47), some (.int (nI j)), some (.int (nI lim)), some (.int (nI (slk (mx F) cb rb j lim k))), some (.int (nI (wro cb rb j k))), some (.int (nI k)), none] [] E0 I J Q := by
    refine for_up ?_ ?_
    · intro hi
      have cm := hw.2.1 m (Nat.le_refl _)
      have sm0 := hsl m
      refine Ez.blk B_X8_slackOfPath_13 (lo' := [some (.ref 47), some (.int (nI j)), some (.int (nI lim)), some (.int (nI (slk (mx F) cb rb j lim m))), some (.int (nI (wro cb rb j m))), some (.int (nI m)), none]) (st' := [.int (I 47 1), .int (nI m)]) (I' := I) (J' := J) (Ps := [aO E0 47 8]) rfl o_47 ?_
      refine Ez.n_icmp_ge (off := 60) (tgt := 79) (by decide +kernel) (by decide) (a := m) (b := n) rfl hsz (by omega) (by omega) (fun h => absurd h (by omega)) (fun h => ?_)
      refine Ez.blk B_X8_slackOfPath_22 (lo' := [some (.ref 47), some (.int (nI j)), some (.int (nI lim)), some (.int (nI (slk (mx F) cb rb j lim m))), some (.int (nI (wro cb rb j m))), some (.int (nI m)), none]) (st' := [.int (nI (wro cb rb j m))]) (I' := I) (J' := J) (Ps := []) rfl trivial ?_
      refine Ez.n_if_lt (off := 55) (tgt := 79) (by decide +kernel) (by decide) (a := (wro cb rb j m)) rfl (by omega) (fun h => h.elim) (fun h => ?_)
      refine Ez.blk B_X8_slackOfPath_27 (lo' := [some (.ref 47), some (.int (nI j)), some (.int (nI lim)), some (.int (nI (slk (mx F) cb rb j lim m))), some (.int (nI (wro cb rb j m))), some (.int (nI m)), none]) (st' := [.int (I 54 ((nI (wro cb rb j m)).toNatClampNeg))]) (I' := I) (J' := J) (Ps := [aO E0 47 8 ∧ E0.2.2 47 7 ≠ 0, aAr E0 1 54 (nI (wro cb rb j m))]) rfl ⟨r_47_7, (a_54 (vin (n := (wro cb rb j m)) rfl (by omega) (by decide)))⟩ ?_
      rw [cln (x := nI (wro cb rb j m)) (n := (wro cb rb j m)) rfl (by omega)]
      have e54m : I 54 (wro cb rb j m) = nI 0 - 1 := by rw [hcb _ cm.2.1, hw.1, hs0]
      rw [e54m]
      refine Ez.if_lt (off := 45) (tgt := 79) (by decide +kernel) (by decide) (fun h => ?_) (fun h => absurd (by decide) h)
      refine Ez.blk B_X8_slackOfPath_79 (lo' := [some (.ref 47), some (.int (nI j)), some (.int (nI lim)), some (.int (nI (slk (mx F) cb rb j lim m))), some (.int (nI (wro cb rb j m))), some (.int (nI m)), none]) (st' := [.int (nI (slk (mx F) cb rb j lim m))]) (I' := I) (J' := J) (Ps := []) rfl trivial ?_
      exact Ez.iret rfl (by decide +kernel) (hQ _ _ _ ⟨rfl, rfl, rfl⟩)
    · intro k hk ih hi
      have ck := hw.2.1 k (by omega)
      have ck1 := hw.2.1 (k + 1) (by omega)
      have hh := hw.2.2 k hk
      have smk := hsl k
      have e54 : I 54 (wro cb rb j k) = nI (wcl cb rb j (k + 1)) := by rw [hcb _ ck.2.1, hh.2.1, pb1]
      refine Ez.blk B_X8_slackOfPath_13 (lo' := [some (.ref 47), some (.int (nI j)), some (.int (nI lim)), some (.int (nI (slk (mx F) cb rb j lim k))), some (.int (nI (wro cb rb j k))), some (.int (nI k)), none]) (st' := [.int (I 47 1), .int (nI k)]) (I' := I) (J' := J) (Ps := [aO E0 47 8]) rfl o_47 ?_
      refine Ez.n_icmp_ge (off := 60) (tgt := 79) (by decide +kernel) (by decide) (a := k) (b := n) rfl hsz (by omega) (by omega) (fun h => absurd h (by omega)) (fun h => ?_)
      refine Ez.blk B_X8_slackOfPath_22 (lo' := [some (.ref 47), some (.int (nI j)), some (.int (nI lim)), some (.int (nI (slk (mx F) cb rb j lim k))), some (.int (nI (wro cb rb j k))), some (.int (nI k)), none]) (st' := [.int (nI (wro cb rb j k))]) (I' := I) (J' := J) (Ps := []) rfl trivial ?_
      refine Ez.n_if_lt (off := 55) (tgt := 79) (by decide +kernel) (by decide) (a := (wro cb rb j k)) rfl (by omega) (fun h => h.elim) (fun h => ?_)
      refine Ez.blk B_X8_slackOfPath_27 (lo' := [some (.ref 47), some (.int (nI j)), some (.int (nI lim)), some (.int (nI (slk (mx F) cb rb j lim k))), some (.int (nI (wro cb rb j k))), some (.int (nI k)), none]) (st' := [.int (I 54 ((nI (wro cb rb j k)).toNatClampNeg))]) (I' := I) (J' := J) (Ps := [aO E0 47 8 ∧ E0.2.2 47 7 ≠ 0, aAr E0 1 54 (nI (wro cb rb j k))]) rfl ⟨r_47_7, (a_54 (vin (n := (wro cb rb j k)) rfl (by omega) (by decide)))⟩ ?_
      rw [cln (x := nI (wro cb rb j k)) (n := (wro cb rb j k)) rfl (by omega)]
      refine Ez.n_if_lt (off := 45) (tgt := 79) (by decide +kernel) (by decide) (a := (wcl cb rb j (k + 1))) e54 (by omega) (fun h => h.elim) (fun h => ?_)
      have hFk := hF ((wro cb rb j k) * 6 + (wcl cb rb j (k + 1))) (by omega)
      have e55 : I 55 (wcl cb rb j (k + 1)) = nI (wro cb rb j (k + 1)) := by rw [hrb _ ck1.1, ck1.2.2.1, pb1]
      refine Ez.blk B_X8_slackOfPath_37 (lo' := [some (.ref 47), some (.int (nI j)), some (.int (nI lim)), some (.int (if I 48 (((nI (wro cb rb j k) * 6) + I 54 ((nI (wro cb rb j k)).toNatClampNeg)).toNatClampNeg) < nI (slk (mx F) cb rb j lim k) then I 48 (((nI (wro cb rb j k) * 6) + I 54 ((nI (wro cb rb j k)).toNatClampNeg)).toNatClampNeg) else nI (slk (mx F) cb rb j lim k))), some (.int (I 55 ((I 54 ((nI (wro cb rb j k)).toNatClampNeg)).toNatClampNeg))), some (.int (nI k + 1)), some (.int (I 54 ((nI (wro cb rb j k)).toNatClampNeg)))]) (st' := []) (I' := I) (J' := J) (Ps := [aO E0 47 8 ∧ E0.2.2 47 7 ≠ 0, aAr E0 1 54 (nI (wro cb rb j k)), aO E0 47 8 ∧ E0.2.2 47 0 ≠ 0, aAr E0 1 48 ((nI (wro cb rb j k) * 6) + I 54 ((nI (wro cb rb j k)).toNatClampNeg)), aO E0 47 8 ∧ E0.2.2 47 8 ≠ 0, aAr E0 1 55 (I 54 ((nI (wro cb rb j k)).toNatClampNeg))]) rfl ⟨r_47_7, (a_54 (vin (n := (wro cb rb j k)) rfl (by omega) (by decide))), r_47_0, (a_48 (vin (n := ((wro cb rb j k) * 6 + (wcl cb rb j (k + 1)))) (eq_add (a := ((wro cb rb j k) * 6)) (b := (wcl cb rb j (k + 1))) (eq_mul (a := (wro cb rb j k)) (b := 6) rfl rfl) (by first | exact e54 | (rw [cln (x := nI (wro cb rb j k)) (n := (wro cb rb j k)) rfl (by omega)]; exact e54))) (by omega) (by decide))), r_47_8, (a_55 (vin (n := (wcl cb rb j (k + 1))) (by first | exact e54 | (rw [cln (x := nI (wro cb rb j k)) (n := (wro cb rb j k)) rfl (by omega)]; exact e54)) (by omega) (by decide)))⟩ ?_
      rw [cln (x := nI (wro cb rb j k)) (n := (wro cb rb j k)) rfl (by omega)]
      rw [cln (x := ((nI (wro cb rb j k) * 6) + I 54 (wro cb rb j k))) (n := ((wro cb rb j k) * 6 + (wcl cb rb j (k + 1)))) (eq_add (a := ((wro cb rb j k) * 6)) (b := (wcl cb rb j (k + 1))) (eq_mul (a := (wro cb rb j k)) (b := 6) rfl rfl) (by first | exact e54 | (rw [cln (x := nI (wro cb rb j k)) (n := (wro cb rb j k)) rfl (by omega)]; exact e54))) (by omega)]
      rw [cln (x := I 54 (wro cb rb j k)) (n := (wcl cb rb j (k + 1))) e54 (by omega)]
      rw [show (nI k + 1) = nI (k + 1) from (eq_add (a := k) (b := 1) rfl rfl)]
      rw [e54]
      rw [e55]
      refine Ez.drops [6] (lo' := [some (.ref 47), some (.int (nI j)), some (.int (nI lim)), some (.int (if I 48 ((wro cb rb j k) * 6 + (wcl cb rb j (k + 1))) < nI (slk (mx F) cb rb j lim k) then I 48 ((wro cb rb j k) * 6 + (wcl cb rb j (k + 1))) else nI (slk (mx F) cb rb j lim k))), some (.int (nI (wro cb rb j (k + 1)))), some (.int (nI (k + 1))), none]) rfl ?_
      rw [hFk.1, min_n' (by omega) (by omega)]
      exact ih trivial
  have e0 : I 55 j = nI (wro cb rb j 0) := by rw [hrb _ hj]; have := c0.2.2.1; rw [show rb j = (wro cb rb j 0) + 1 from this, pb1]
  refine Ez.blk B_X8_slackOfPath_0 (lo' := [some (.ref 47), some (.int (nI j)), some (.int (nI lim)), some (.int (nI lim)), some (.int (I 55 ((nI j).toNatClampNeg))), some (.int 0), none]) (st' := []) (I' := I) (J' := J) (Ps := [aO E0 47 8 ∧ E0.2.2 47 8 ≠ 0, aAr E0 1 55 (nI j)]) rfl ⟨r_47_8, (a_55 (vin (n := j) rfl (by omega) (by decide)))⟩ ?_
  rw [cln (x := nI j) (n := j) rfl (by omega)]
  rw [e0]
  exact L1 0 (by omega) trivial
theorem s_shift (d : Nat) (I : aI) (J : aJ) (n : Nat) (hn : 1 ≤ n ∧ n ≤ 6) (hsz : I 47 1 = nI n) (F : Nat → Nat) (hF : ∀ q, q < 36 → I 48 q = nI (F q) ∧ F q ≤ 24) (A : Nat → Nat → Prop) (dd : Nat → Nat → Nat) (s : Nat) (R C : Nat → Int) (cb rb r : Nat → Nat) (hcb : Pb I 54 n cb) (hrb : Pb I 55 n rb) (j m : Nat) (hm : m < n) (hw : Wy n A dd (mx F) s R C cb rb r j m) (hs0 : cb s = 0) (a : Nat) (ha24 : a ≤ 24) (ha : ∀ t, t < m → a ≤ mx F (wro cb rb j t) (wcl cb rb j (t + 1))) : Sp m_X8_shiftAlongPath (d + 1) [.ref 47, .int (nI j), .int (nI a)] E0 I J (fun r I' J' => r = none ∧ J' = J ∧ (∀ q, q < 36 → I' 48 q = nI (shF F cb rb j a m q)) ∧ ∀ q, q ≠ 48 → I' q = I q) := by
  refine Sp.of (lo := [some (.ref 47), some (.int (nI j)), some (.int (nI a)), none, none, none]) rfl (fun Q hQ => ?_)
  have c0 := hw.2.1 0 (Nat.zero_le _)
  have hj : j < n := c0.1
  have L1 : ∀ k, k ≤ m → ∀ (I1 : aI), ((∀ q, q < 36 → I1 48 q = nI ((shf F cb rb j a k) q)) ∧ ∀ q, q ≠ 48 → I1 q = I q) → Ez m_X8_shiftAlongPath (d + 1) 5 [some (.ref 47), some (.int (nI j)), some (.int (nI a)), some (.int (nI (wcl cb rb j k))), some (.int (nI k)), none] [] E0 I1 J Q := by
    refine for_up ?_ ?_
    · intro I1 hi
      have cm := hw.2.1 m (Nat.le_refl _)
      have e55 : I1 55 (wcl cb rb j m) = nI (wro cb rb j m) := by rw [hi.2 55 (by decide), hrb _ cm.1, cm.2.2.1, pb1]
      refine Ez.blk B_X8_shiftAlongPath_5 (lo' := [some (.ref 47), some (.int (nI j)), some (.int (nI a)), some (.int (nI (wcl cb rb j m))), some (.int (nI m)), none]) (st' := [.int (I1 47 1), .int (nI m)]) (I' := I1) (J' := J) (Ps := [aO E0 47 8]) rfl o_47 ?_
      refine Ez.n_icmp_ge (off := 71) (tgt := 82) (by decide +kernel) (by decide) (a := m) (b := n) rfl (by rw [hi.2 47 (by decide)]; exact hsz) (by omega) (by omega) (fun h => absurd h (by omega)) (fun h => ?_)
      refine Ez.blk B_X8_shiftAlongPath_14 (lo' := [some (.ref 47), some (.int (nI j)), some (.int (nI a)), some (.int (nI (wcl cb rb j m))), some (.int (nI m)), none]) (st' := [.int (nI (wcl cb rb j m))]) (I' := I1) (J' := J) (Ps := []) rfl trivial ?_
      refine Ez.n_if_lt (off := 67) (tgt := 82) (by decide +kernel) (by decide) (a := (wcl cb rb j m)) rfl (by omega) (fun h => h.elim) (fun h => ?_)
      refine Ez.blk B_X8_shiftAlongPath_18 (lo' := [some (.ref 47), some (.int (nI j)), some (.int (nI a)), some (.int (nI (wcl cb rb j m))), some (.int (nI m)), some (.int (I1 55 ((nI (wcl cb rb j m)).toNatClampNeg)))]) (st' := [.int (I1 55 ((nI (wcl cb rb j m)).toNatClampNeg))]) (I' := I1) (J' := J) (Ps := [aO E0 47 8 ∧ E0.2.2 47 8 ≠ 0, aAr E0 1 55 (nI (wcl cb rb j m))]) rfl ⟨r_47_8, (a_55 (vin (n := (wcl cb rb j m)) rfl (by omega) (by decide)))⟩ ?_
      rw [cln (x := nI (wcl cb rb j m)) (n := (wcl cb rb j m)) rfl (by omega)]
      refine Ez.n_if_ge (off := 4) (tgt := 32) (by decide +kernel) (by decide) (a := (wro cb rb j m)) e55 (by omega) (fun h => ?_) (fun h => h.elim)
      refine Ez.blk B_X8_shiftAlongPath_32 (lo' := [some (.ref 47), some (.int (nI j)), some (.int (nI a)), some (.int (I1 54 ((I1 55 (wcl cb rb j m)).toNatClampNeg))), some (.int (nI m)), some (.int (I1 55 (wcl cb rb j m)))]) (st' := [.int (I1 54 ((I1 55 (wcl cb rb j m)).toNatClampNeg))]) (I' := (aUp I1 48 (((I1 55 (wcl cb rb j m) * 6) + nI (wcl cb rb j m)).toNatClampNeg) (I1 48 (((I1 55 (wcl cb rb j m) * 6) + nI (wcl cb rb j m)).toNatClampNeg) + nI a))) (J' := J) (Ps := [aO E0 47 8 ∧ E0.2.2 47 0 ≠ 0, aAr E0 1 48 ((I1 55 (wcl cb rb j m) * 6) + nI (wcl cb rb j m)), aAr E0 1 48 ((I1 55 (wcl cb rb j m) * 6) + nI (wcl cb rb j m)), aO E0 47 8 ∧ E0.2.2 47 7 ≠ 0, aAr E0 1 54 (I1 55 (wcl cb rb j m))]) rfl ⟨r_47_0, (a_48 (vin (n := ((wro cb rb j m) * 6 + (wcl cb rb j m))) (eq_add (a := ((wro cb rb j m) * 6)) (b := (wcl cb rb j m)) (eq_mul (a := (wro cb rb j m)) (b := 6) e55 rfl) rfl) (by omega) (by decide))), (a_48 (vin (n := ((wro cb rb j m) * 6 + (wcl cb rb j m))) (eq_add (a := ((wro cb rb j m) * 6)) (b := (wcl cb rb j m)) (eq_mul (a := (wro cb rb j m)) (b := 6) e55 rfl) rfl) (by omega) (by decide))), r_47_7, (a_54 (vin (n := (wro cb rb j m)) e55 (by omega) (by decide)))⟩ ?_
      rw [cln (x := ((I1 55 (wcl cb rb j m) * 6) + nI (wcl cb rb j m))) (n := ((wro cb rb j m) * 6 + (wcl cb rb j m))) (eq_add (a := ((wro cb rb j m) * 6)) (b := (wcl cb rb j m)) (eq_mul (a := (wro cb rb j m)) (b := 6) e55 rfl) rfl) (by omega)]
      rw [cln (x := I1 55 (wcl cb rb j m)) (n := (wro cb rb j m)) e55 (by omega)]
      have e54 : I1 54 (wro cb rb j m) = nI 0 - 1 := by rw [hi.2 54 (by decide), hcb _ cm.2.1, hw.1, hs0]
      rw [e54]
      rw [e55]
      refine Ez.if_lt (off := 19) (tgt := 76) (by decide +kernel) (by decide) (fun h7 => ?_) (fun h7 => absurd (by decide) h7)
      generalize hI2 : (aUp I1 48 ((wro cb rb j m) * 6 + (wcl cb rb j m)) (I1 48 ((wro cb rb j m) * 6 + (wcl cb rb j m)) + nI a)) = I2
      have k1 : ∀ q, q < 36 → I2 48 q = nI (shF F cb rb j a m q) := fun q hq => by
        rw [← hI2]
        unfold shF
        by_cases e : q = (wro cb rb j m) * 6 + (wcl cb rb j m)
        · rw [e, aUp_eq, cup_eq, hi.1 _ (by omega), nI_add]
        · rw [aUp_nk e, cup_ne e]; exact hi.1 q hq
      have k2 : ∀ q, q ≠ 48 → I2 q = I q := fun q hq => by rw [← hI2, aUp_ne hq]; exact hi.2 q hq
      refine Ez.blk B_X8_shiftAlongPath_76 (lo' := [some (.ref 47), some (.int (nI j)), some (.int (nI a)), some (.int (nI 0 - 1)), some (.int (nI m + 1)), some (.int (nI (wro cb rb j m)))]) (st' := []) (I' := I2) (J' := J) (Ps := []) rfl trivial ?_
      rw [show (nI m + 1) = nI (m + 1) from (eq_add (a := m) (b := 1) rfl rfl)]
      refine Ez.blk B_X8_shiftAlongPath_5 (lo' := [some (.ref 47), some (.int (nI j)), some (.int (nI a)), some (.int (nI 0 - 1)), some (.int (nI (m + 1))), some (.int (nI (wro cb rb j m)))]) (st' := [.int (I2 47 1), .int (nI (m + 1))]) (I' := I2) (J' := J) (Ps := [aO E0 47 8]) rfl o_47 ?_
      refine Ez.n_icmp_ge (off := 71) (tgt := 82) (by decide +kernel) (by decide) (a := (m + 1)) (b := n) rfl (by rw [k2 47 (by decide)]; exact hsz) (by omega) (by omega) (fun h8 => ?_) (fun h8 => ?_)
      · exact Ez.vret rfl (by decide +kernel) (hQ _ _ _ ⟨rfl, rfl, k1, k2⟩)
      · refine Ez.blk B_X8_shiftAlongPath_14 (lo' := [some (.ref 47), some (.int (nI j)), some (.int (nI a)), some (.int (nI 0 - 1)), some (.int (nI (m + 1))), some (.int (nI (wro cb rb j m)))]) (st' := [.int (nI 0 - 1)]) (I' := I2) (J' := J) (Ps := []) rfl trivial ?_
        refine Ez.if_lt (off := 67) (tgt := 82) (by decide +kernel) (by decide) (fun h7 => ?_) (fun h7 => absurd (by decide) h7)
        exact Ez.vret rfl (by decide +kernel) (hQ _ _ _ ⟨rfl, rfl, k1, k2⟩)
    · intro k hk ih I1 hi
      have ck := hw.2.1 k (by omega)
      have ck1 := hw.2.1 (k + 1) (by omega)
      have hh := hw.2.2 k hk
      have hak := ha k hk
      have own := shf_own (a := a) hw hn.2 k (by omega) (wcl cb rb j (k + 1)) (by omega)
      have e54 : I1 54 (wro cb rb j k) = nI (wcl cb rb j (k + 1)) := by rw [hi.2 54 (by decide), hcb _ ck.2.1, hh.2.1, pb1]
      have e55 : I1 55 (wcl cb rb j k) = nI (wro cb rb j k) := by rw [hi.2 55 (by decide), hrb _ ck.1, ck.2.2.1, pb1]
      refine Ez.blk B_X8_shiftAlongPath_5 (lo' := [some (.ref 47), some (.int (nI j)), some (.int (nI a)), some (.int (nI (wcl cb rb j k))), some (.int (nI k)), none]) (st' := [.int (I1 47 1), .int (nI k)]) (I' := I1) (J' := J) (Ps := [aO E0 47 8]) rfl o_47 ?_
      refine Ez.n_icmp_ge (off := 71) (tgt := 82) (by decide +kernel) (by decide) (a := k) (b := n) rfl (by rw [hi.2 47 (by decide)]; exact hsz) (by omega) (by omega) (fun h => absurd h (by omega)) (fun h => ?_)
      refine Ez.blk B_X8_shiftAlongPath_14 (lo' := [some (.ref 47), some (.int (nI j)), some (.int (nI a)), some (.int (nI (wcl cb rb j k))), some (.int (nI k)), none]) (st' := [.int (nI (wcl cb rb j k))]) (I' := I1) (J' := J) (Ps := []) rfl trivial ?_
      refine Ez.n_if_lt (off := 67) (tgt := 82) (by decide +kernel) (by decide) (a := (wcl cb rb j k)) rfl (by omega) (fun h => h.elim) (fun h => ?_)
      refine Ez.blk B_X8_shiftAlongPath_18 (lo' := [some (.ref 47), some (.int (nI j)), some (.int (nI a)), some (.int (nI (wcl cb rb j k))), some (.int (nI k)), some (.int (I1 55 ((nI (wcl cb rb j k)).toNatClampNeg)))]) (st' := [.int (I1 55 ((nI (wcl cb rb j k)).toNatClampNeg))]) (I' := I1) (J' := J) (Ps := [aO E0 47 8 ∧ E0.2.2 47 8 ≠ 0, aAr E0 1 55 (nI (wcl cb rb j k))]) rfl ⟨r_47_8, (a_55 (vin (n := (wcl cb rb j k)) rfl (by omega) (by decide)))⟩ ?_
      rw [cln (x := nI (wcl cb rb j k)) (n := (wcl cb rb j k)) rfl (by omega)]
      refine Ez.n_if_ge (off := 4) (tgt := 32) (by decide +kernel) (by decide) (a := (wro cb rb j k)) e55 (by omega) (fun h => ?_) (fun h => h.elim)
      refine Ez.blk B_X8_shiftAlongPath_32 (lo' := [some (.ref 47), some (.int (nI j)), some (.int (nI a)), some (.int (I1 54 ((I1 55 (wcl cb rb j k)).toNatClampNeg))), some (.int (nI k)), some (.int (I1 55 (wcl cb rb j k)))]) (st' := [.int (I1 54 ((I1 55 (wcl cb rb j k)).toNatClampNeg))]) (I' := (aUp I1 48 (((I1 55 (wcl cb rb j k) * 6) + nI (wcl cb rb j k)).toNatClampNeg) (I1 48 (((I1 55 (wcl cb rb j k) * 6) + nI (wcl cb rb j k)).toNatClampNeg) + nI a))) (J' := J) (Ps := [aO E0 47 8 ∧ E0.2.2 47 0 ≠ 0, aAr E0 1 48 ((I1 55 (wcl cb rb j k) * 6) + nI (wcl cb rb j k)), aAr E0 1 48 ((I1 55 (wcl cb rb j k) * 6) + nI (wcl cb rb j k)), aO E0 47 8 ∧ E0.2.2 47 7 ≠ 0, aAr E0 1 54 (I1 55 (wcl cb rb j k))]) rfl ⟨r_47_0, (a_48 (vin (n := ((wro cb rb j k) * 6 + (wcl cb rb j k))) (eq_add (a := ((wro cb rb j k) * 6)) (b := (wcl cb rb j k)) (eq_mul (a := (wro cb rb j k)) (b := 6) e55 rfl) rfl) (by omega) (by decide))), (a_48 (vin (n := ((wro cb rb j k) * 6 + (wcl cb rb j k))) (eq_add (a := ((wro cb rb j k) * 6)) (b := (wcl cb rb j k)) (eq_mul (a := (wro cb rb j k)) (b := 6) e55 rfl) rfl) (by omega) (by decide))), r_47_7, (a_54 (vin (n := (wro cb rb j k)) e55 (by omega) (by decide)))⟩ ?_
      rw [cln (x := ((I1 55 (wcl cb rb j k) * 6) + nI (wcl cb rb j k))) (n := ((wro cb rb j k) * 6 + (wcl cb rb j k))) (eq_add (a := ((wro cb rb j k) * 6)) (b := (wcl cb rb j k)) (eq_mul (a := (wro cb rb j k)) (b := 6) e55 rfl) rfl) (by omega)]
      rw [cln (x := I1 55 (wcl cb rb j k)) (n := (wro cb rb j k)) e55 (by omega)]
      rw [e54]
      rw [e55]
      refine Ez.n_if_lt (off := 19) (tgt := 76) (by decide +kernel) (by decide) (a := (wcl cb rb j (k + 1))) rfl (by omega) (fun h => h.elim) (fun h => ?_)
      refine Ez.blk B_X8_shiftAlongPath_60 (lo' := [some (.ref 47), some (.int (nI j)), some (.int (nI a)), some (.int (nI (wcl cb rb j (k + 1)))), some (.int (nI k + 1)), some (.int (nI (wro cb rb j k)))]) (st' := []) (I' := (aUp (aUp I1 48 ((wro cb rb j k) * 6 + (wcl cb rb j k)) (I1 48 ((wro cb rb j k) * 6 + (wcl cb rb j k)) + nI a)) 48 (((nI (wro cb rb j k) * 6) + nI (wcl cb rb j (k + 1))).toNatClampNeg) ((aUp I1 48 ((wro cb rb j k) * 6 + (wcl cb rb j k)) (I1 48 ((wro cb rb j k) * 6 + (wcl cb rb j k)) + nI a)) 48 (((nI (wro cb rb j k) * 6) + nI (wcl cb rb j (k + 1))).toNatClampNeg) - nI a))) (J' := J) (Ps := [aO E0 47 8 ∧ E0.2.2 47 0 ≠ 0, aAr E0 1 48 ((nI (wro cb rb j k) * 6) + nI (wcl cb rb j (k + 1))), aAr E0 1 48 ((nI (wro cb rb j k) * 6) + nI (wcl cb rb j (k + 1)))]) rfl ⟨r_47_0, (a_48 (vin (n := ((wro cb rb j k) * 6 + (wcl cb rb j (k + 1)))) (eq_add (a := ((wro cb rb j k) * 6)) (b := (wcl cb rb j (k + 1))) (eq_mul (a := (wro cb rb j k)) (b := 6) rfl rfl) rfl) (by omega) (by decide))), (a_48 (vin (n := ((wro cb rb j k) * 6 + (wcl cb rb j (k + 1)))) (eq_add (a := ((wro cb rb j k) * 6)) (b := (wcl cb rb j (k + 1))) (eq_mul (a := (wro cb rb j k)) (b := 6) rfl rfl) rfl) (by omega) (by decide)))⟩ ?_
      rw [cln (x := ((nI (wro cb rb j k) * 6) + nI (wcl cb rb j (k + 1)))) (n := ((wro cb rb j k) * 6 + (wcl cb rb j (k + 1)))) (eq_add (a := ((wro cb rb j k) * 6)) (b := (wcl cb rb j (k + 1))) (eq_mul (a := (wro cb rb j k)) (b := 6) rfl rfl) rfl) (by omega)]
      rw [show (nI k + 1) = nI (k + 1) from (eq_add (a := k) (b := 1) rfl rfl)]
      refine Ez.drops [5] (lo' := [some (.ref 47), some (.int (nI j)), some (.int (nI a)), some (.int (nI (wcl cb rb j (k + 1)))), some (.int (nI (k + 1))), none]) rfl ?_
      generalize hI2 : (aUp (aUp I1 48 ((wro cb rb j k) * 6 + (wcl cb rb j k)) (I1 48 ((wro cb rb j k) * 6 + (wcl cb rb j k)) + nI a)) 48 ((wro cb rb j k) * 6 + (wcl cb rb j (k + 1))) ((aUp I1 48 ((wro cb rb j k) * 6 + (wcl cb rb j k)) (I1 48 ((wro cb rb j k) * 6 + (wcl cb rb j k)) + nI a)) 48 ((wro cb rb j k) * 6 + (wcl cb rb j (k + 1))) - nI a)) = I2
      refine ih I2 ⟨fun q hq => ?_, fun q hq => by rw [← hI2, aUp_ne hq, aUp_ne hq]; exact hi.2 q hq⟩
      have eG : ∀ q, q < 36 → aUp I1 48 ((wro cb rb j k) * 6 + (wcl cb rb j k)) (I1 48 ((wro cb rb j k) * 6 + (wcl cb rb j k)) + nI a) 48 q = nI (cup (shf F cb rb j a k) ((wro cb rb j k) * 6 + (wcl cb rb j k)) (shf F cb rb j a k ((wro cb rb j k) * 6 + (wcl cb rb j k)) + a) q) := fun q hq => by
        by_cases e : q = (wro cb rb j k) * 6 + (wcl cb rb j k)
        · rw [e, aUp_eq, cup_eq, hi.1 _ (by omega), nI_add]
        · rw [aUp_nk e, cup_ne e]; exact hi.1 q hq
      show _ = nI (cup _ _ _ q)
      rw [← hI2]
      by_cases e : q = (wro cb rb j k) * 6 + (wcl cb rb j (k + 1))
      · rw [e, aUp_eq, cup_eq, eG _ (by omega)]
        refine pk_sub ?_
        by_cases z : (wro cb rb j k) * 6 + (wcl cb rb j (k + 1)) = (wro cb rb j k) * 6 + (wcl cb rb j k)
        · rw [z, cup_eq]; omega
        · rw [cup_ne z, own]; exact hak
      · rw [aUp_nk e, cup_ne e]; exact eG q hq
  refine Ez.blk B_X8_shiftAlongPath_0 (lo' := [some (.ref 47), some (.int (nI j)), some (.int (nI a)), some (.int (nI j)), some (.int 0), none]) (st' := []) (I' := I) (J' := J) (Ps := []) rfl trivial ?_
  exact L1 0 (by omega) I ⟨fun q hq => (hF q hq).1, fun _ _ => rfl⟩

/-! THE REFERENCE: minimize -/
theorem rep_min {c : Nat → Nat} (h1 : 1 ≤ c 0) {a : Nat} (ha : a < (bis c).2) : ∀ j, j < rep c a → (bis c).1 j ≠ a := by
  intro j hj
  unfold rep at hj
  cases h : ff (fun s => decide ((bis c).1 s = a)) (c 0) 0 with
  | none =>
    rw [h] at hj
    exact absurd hj (Nat.not_lt_zero _)
  | some m =>
    rw [h] at hj
    have := ff_min h j (Nat.zero_le _) hj
    exact of_decide_eq_false this
/-- the chain while the quotient is written: rows below i, of row i what is below j (m: its label) -/
def qst (c : Nat → Nat) (i j m : Nat) : Nat → Nat := fun k => if k < 4 then stc c (bis c).2 (c 1) k else if k < 10 then (if k - 4 < i + m then c (4 + rep c (k - 4)) else 0) else if ((k - 10) / 6 < i ∨ ((k - 10) / 6 = i ∧ (k - 10) % 6 < j)) ∧ (k - 10) % 6 < (bis c).2 then wtc c (bis c).1 (rep c ((k - 10) / 6)) ((k - 10) % 6) else stc c (bis c).2 (c 1) k
theorem qst_0 {c : Nat → Nat} {k : Nat} : qst c 0 0 0 k = stc c (bis c).2 (c 1) k := by
  unfold qst
  by_cases e : k < 4
  · rw [if_pos e]
  · rw [if_neg e]
    by_cases e2 : k < 10
    · rw [if_pos e2, if_neg (by omega), stc_h (by omega), if_pos e2]
    · rw [if_neg e2, if_neg (by omega)]
theorem qst_end {c : Nat → Nat} {k : Nat} (hk : k < 46) (h6 : (bis c).2 ≤ 6) : qst c (bis c).2 0 0 k = quo c k := by
  unfold qst quo
  by_cases e : k < 4
  · rw [if_pos e]
    by_cases e0 : k = 0
    · rw [if_pos e0]; unfold stc; rw [if_pos e0]
    · rw [if_neg e0, if_pos e]
      unfold stc
      rw [if_neg e0]
      by_cases e1 : k = 1
      · rw [if_pos e1, e1]
      · rw [if_neg e1, if_pos e]
  · rw [if_neg e, if_neg (show ¬ k = 0 by omega), if_neg e]
    by_cases e2 : k < 10
    · rw [if_pos e2, if_pos e2]; rfl
    · rw [if_neg e2, if_neg e2]
      by_cases e3 : (k - 10) / 6 < (bis c).2 ∧ (k - 10) % 6 < (bis c).2
      · rw [if_pos e3, if_pos (by omega)]
      · rw [if_neg e3, if_neg (by omega), stc_h (by omega), if_neg e2, if_neg (by omega)]
theorem qst_lab {c : Nat → Nat} {i : Nat} (hi : i < 6) {k : Nat} : qst c i 0 1 k = cup (qst c i 0 0) (4 + i) (c (4 + rep c i)) k := by
  by_cases e : k = 4 + i
  · rw [e, cup_eq]
    unfold qst
    rw [if_neg (by omega), if_pos (by omega), if_pos (by omega), show 4 + i - 4 = i by omega]
  · rw [cup_ne e]
    unfold qst
    by_cases e1 : k < 4
    · rw [if_pos e1, if_pos e1]
    · rw [if_neg e1, if_neg e1]
      by_cases e2 : k < 10
      · rw [if_pos e2, if_pos e2]
        by_cases e3 : k - 4 < i + 0
        · rw [if_pos e3, if_pos (by omega)]
        · rw [if_neg e3, if_neg (by omega)]
      · rw [if_neg e2, if_neg e2]
theorem qst_wt {c : Nat → Nat} {i j : Nat} (hi : i < 6) (hj : j < (bis c).2) (h6 : (bis c).2 ≤ 6) {k : Nat} : qst c i (j + 1) 1 k = cup (qst c i j 1) (10 + 6 * i + j) (wtc c (bis c).1 (rep c i) j) k := by
  by_cases e : k = 10 + 6 * i + j
  · rw [e, cup_eq]
    unfold qst
    rw [if_neg (by omega), if_neg (by omega), if_pos (by omega), show (10 + 6 * i + j - 10) / 6 = i by omega, show (10 + 6 * i + j - 10) % 6 = j by omega]
  · rw [cup_ne e]
    unfold qst
    by_cases e1 : k < 4
    · rw [if_pos e1, if_pos e1]
    · rw [if_neg e1, if_neg e1]
      by_cases e2 : k < 10
      · rw [if_pos e2, if_pos e2]
      · rw [if_neg e2, if_neg e2]
        by_cases e3 : ((k - 10) / 6 < i ∨ ((k - 10) / 6 = i ∧ (k - 10) % 6 < j)) ∧ (k - 10) % 6 < (bis c).2
        · rw [if_pos e3, if_pos (by omega)]
        · rw [if_neg e3, if_neg (by omega)]
theorem qst_nx {c : Nat → Nat} {i : Nat} {k : Nat} : qst c (i + 1) 0 0 k = qst c i (bis c).2 1 k := by
  unfold qst
  by_cases e1 : k < 4
  · rw [if_pos e1, if_pos e1]
  · rw [if_neg e1, if_neg e1]
    by_cases e2 : k < 10
    · rw [if_pos e2, if_pos e2]
    · rw [if_neg e2, if_neg e2]
      by_cases e3 : ((k - 10) / 6 < i ∨ ((k - 10) / 6 = i ∧ (k - 10) % 6 < (bis c).2)) ∧ (k - 10) % 6 < (bis c).2
      · rw [if_pos e3, if_pos (by omega)]
      · rw [if_neg e3, if_neg (by omega)]
theorem m_minimize (d : Nat) (I : aI) (J : aJ) (T : TS) (W : WT T) (hP : MP T I J) : Sp m_X10_minimize (d + 6) [.ref 93] E0 I J (fun r I' J' => r = some (.int (f_minimize T).1) ∧ MP (f_minimize T).2 I' J' ∧ Fr1 I I' J J') := by
  refine Sp.of (lo := [some (.ref 93), none, none, none, none, none, none]) rfl (fun Q hQ => ?_)
  have w1 := W.1.1
  have w2 := W.1.2.1
  have wb := Wc_12 W.1
  refine Ez.blk B_X10_minimize_0 (lo' := [some (.ref 93), none, none, none, none, none, none]) (st' := [.ref 93]) (I' := I) (J' := J) (Ps := []) rfl trivial ?_
  refine Ez.callV (As := []) (b := 93) (rest := []) kn_X10_computeClasses ml_10_203 im_X10_computeClasses se_X10_computeClasses rfl (by decide +kernel) rfl rfl (Nat.le_of_ble_eq_true rfl) (Nat.le_of_ble_eq_true rfl) o_93 (s_classes _ I J T.1 hP.1 W.1) (fun r I2 J2 hq => ?_)
  obtain ⟨rfl, rfl, k1, k2⟩ := hq
  have P2 := MP_M hP (FrM_B (J := J2) k2)
  have F2 := Fr1_M (FrM_B (J := J2) k2)
  refine Ez.blk B_X10_minimize_4 (lo' := [some (.ref 93), none, none, none, none, none, none]) (st' := [.ref 93]) (I' := I2) (J' := J2) (Ps := []) rfl trivial ?_
  refine Ez.callV (As := []) (b := 93) (rest := []) kn_X10_begin ml_10_109 im_X10_begin se_X10_begin rfl (by decide +kernel) rfl rfl (Nat.le_of_ble_eq_true rfl) (Nat.le_of_ble_eq_true rfl) o_93 (s_begin _ I2 J2) (fun r I3 J3 hq => ?_)
  obtain ⟨rfl, rfl, g1, g2⟩ := hq
  obtain ⟨c, hcc⟩ : ∃ c, c = T.1 := ⟨_, rfl⟩
  obtain ⟨p, hpp⟩ : ∃ p, p = bis c := ⟨_, rfl⟩
  have Wc1 : Wc c := by rw [hcc]; exact W.1
  have v1 := Wc1.1
  have v2 := Wc1.2.1
  have hc : MC c I3 := by rw [hcc]; exact MC_fr P2.1 (g2 94 (by decide))
  have pb : p.2 ≤ 6 ∧ ∀ x, x < c 0 → p.1 x < p.2 := by rw [hpp]; exact bisk_bd v1 (c 0)
  have pb1 := pb.1
  have p0 : 1 ≤ p.2 := by rw [hpp]; exact bisk_pos v1 (c 0)
  have hp : I3 93 14 = nI p.2 ∧ ∀ s, s < c 0 → I3 104 s = nI (p.1 s) := by rw [hpp, hcc]; exact ⟨by rw [g2 93 (by decide)]; exact k1.1, fun s hs => by rw [g2 104 (by decide)]; exact k1.2 s hs⟩
  have hb : ∀ k, k < 46 → I3 97 k = nI (c k) := fun k hk => by rw [g1 k hk, hcc]; exact P2.1 k hk
  have rp : ∀ a, a < p.2 → rep c a < c 0 ∧ p.1 (rep c a) = a ∧ ∀ j, j < rep c a → p.1 j ≠ a := by rw [hpp]; exact fun a ha => ⟨(rep_ok v1.1 ha).1, (rep_ok v1.1 ha).2, rep_min v1.1 ha⟩
  have c03 : I3 94 0 = nI (c 0) := hc 0 (by decide)
  refine Ez.blk B_X10_minimize_8 (lo' := [some (.ref 93), some (.int (I3 94 0)), some (.int (I3 93 14)), some (.int (I3 94 0 - 1)), none, none, none]) (st' := []) (I' := I3) (J' := J3) (Ps := [aO E0 93 10 ∧ E0.2.2 93 0 ≠ 0, aAr E0 1 94 0, aO E0 93 10]) rfl ⟨r_93_0, (a_94 (vin (n := 0) rfl (by omega) (by decide))), o_93⟩ ?_
  have LQ : ∀ I4 : aI, ((∀ a, a < p.2 → I4 105 a = nI (rep c a)) ∧ MC c I4 ∧ (∀ q, q ≠ 105 → I4 q = I3 q)) → Ez m_X10_minimize (d + 6) 78 [some (.ref 93), some (.int (nI (c 0))), some (.int (nI p.2)), none, none, none, none] [] E0 I4 J3 Q := by
    intro I4 ⟨i1, i2, i3⟩
    refine Ez.blk B_X10_minimize_78 (lo' := [some (.ref 93), some (.int (nI (c 0))), some (.int (nI p.2)), none, none, none, none]) (st' := [.int (I4 94 1), .int (nI p.2), .ref 93]) (I' := I4) (J' := J3) (Ps := [aO E0 93 10 ∧ E0.2.2 93 0 ≠ 0, aAr E0 1 94 1]) rfl ⟨r_93_0, (a_94 (vin (n := 1) rfl (by omega) (by decide)))⟩ ?_
    rw [i2 1 (by decide)]
    refine Ez.callV (As := [.int (nI p.2), .int (nI (c 1))]) (b := 93) (rest := []) kn_X10_initialize ml_10_77 im_X10_initialize se_X10_initialize rfl (by decide +kernel) rfl rfl (Nat.le_of_ble_eq_true rfl) (Nat.le_of_ble_eq_true rfl) o_93 (s_init _ I4 J3 c i2 p.2 (c 1) pb1) (fun r I5 J5 hq => ?_)
    obtain ⟨rfl, rfl, a1, a2, a3, a4⟩ := hq
    have m7 : ∀ k, k < 46 → I5 97 k = nI (c k) := fun k hk => by rw [a4 97 (by decide) (by decide), i3 97 (by decide)]; exact hb k hk
    have m5 : ∀ a, a < p.2 → I5 105 a = nI (rep c a) := fun a ha => by rw [a4 105 (by decide) (by decide)]; exact i1 a ha
    have m4 : ∀ s, s < c 0 → I5 104 s = nI (p.1 s) := fun s hs => by rw [a4 104 (by decide) (by decide), i3 104 (by decide)]; exact hp.2 s hs
    refine Ez.blk B_X10_minimize_89 (lo' := [some (.ref 93), some (.int (nI (c 0))), some (.int (nI p.2)), some (.int 0), none, none, none]) (st' := []) (I' := I5) (J' := J5) (Ps := []) rfl trivial ?_
    have L1 : ∀ i, i ≤ p.2 → ∀ (I6 : aI), (MC (qst c i 0 0) I6 ∧ ∀ q, q ≠ 94 → I6 q = I5 q) → Ez m_X10_minimize (d + 6) 91 [some (.ref 93), some (.int (nI (c 0))), some (.int (nI p.2)), some (.int (nI i)), none, none, none] [] E0 I6 J5 Q := by
      refine for_up ?_ ?_
      · intro I6 hi
        refine Ez.blk B_X10_minimize_91 (lo' := [some (.ref 93), some (.int (nI (c 0))), some (.int (nI p.2)), some (.int (nI p.2)), none, none, none]) (st' := [.int (nI p.2), .int (nI p.2)]) (I' := I6) (J' := J5) (Ps := []) rfl trivial ?_
        refine Ez.n_icmp_ge (off := 113) (tgt := 206) (by decide +kernel) (by decide) (a := p.2) (b := p.2) rfl rfl (by omega) (by omega) (fun h9 => ?_) (fun h9 => absurd h9 (by omega))
        refine Ez.blk B_X10_minimize_206 (lo' := [some (.ref 93), some (.int (nI (c 0))), some (.int (nI p.2)), some (.int (nI p.2)), none, none, none]) (st' := [.int (nI p.2)]) (I' := I6) (J' := J5) (Ps := []) rfl trivial ?_
        exact Ez.iret rfl (by decide +kernel) (hQ _ _ _ (by
          have e93 : ∀ k, k ≠ 2 → k ≠ 14 → I6 93 k = I 93 k := fun k h2 h14 => by rw [hi.2 93 (by decide), a3 k h2, i3 93 (by decide), g2 93 (by decide)]; exact k2.2 k h14
          have eq : ∀ q, q ≠ 93 → q ≠ 94 → q ≠ 97 → q ≠ 104 → q ≠ 105 → I6 q = I q := fun q h3 h4 h7 h10 h11 => by rw [hi.2 q h4, a4 q h3 h4, i3 q h11, g2 q h7]; exact k2.1 q h3 h10 h11
          unfold f_minimize
          rw [← hcc, ← hpp]
          refine ⟨rfl, ⟨MC_ext hi.1 (fun k hk => ?_), ⟨by rw [hi.2 93 (by decide)]; exact a2, fun i hi => absurd hi (Nat.not_lt_zero _)⟩, MSn_fr hP.2.2.1 (e93 4 (by decide) (by decide)) (eq 96 (by decide) (by decide) (by decide) (by decide) (by decide)), MBf_fr hP.2.2.2.1 (e93 18 (by decide) (by decide)) (eq 108 (by decide) (by decide) (by decide) (by decide) (by decide)), MSl_fr hP.2.2.2.2 (eq 112 (by decide) (by decide) (by decide) (by decide) (by decide)) (eq 113 (by decide) (by decide) (by decide) (by decide) (by decide)) rfl⟩, fun b hb => ⟨eq b (by omega) (by omega) (by omega) (by omega) (by omega), rfl⟩⟩
          show quo c k = _
          rw [hpp]
          exact (qst_end hk (by rw [← hpp]; exact pb1)).symm))
      · intro i hin ih I6 hi
        have r1 := (rp i hin).1
        have n5 : I6 105 i = nI (rep c i) := by rw [hi.2 105 (by decide)]; exact m5 i hin
        have n7 : ∀ k, k < 46 → I6 97 k = nI (c k) := fun k hk => by rw [hi.2 97 (by decide)]; exact m7 k hk
        refine Ez.blk B_X10_minimize_91 (lo' := [some (.ref 93), some (.int (nI (c 0))), some (.int (nI p.2)), some (.int (nI i)), none, none, none]) (st' := [.int (nI p.2), .int (nI i)]) (I' := I6) (J' := J5) (Ps := []) rfl trivial ?_
        refine Ez.n_icmp_ge (off := 113) (tgt := 206) (by decide +kernel) (by decide) (a := i) (b := p.2) rfl rfl (by omega) (by omega) (fun h9 => absurd h9 (by omega)) (fun h9 => ?_)
        refine Ez.blk B_X10_minimize_96 (lo' := [some (.ref 93), some (.int (nI (c 0))), some (.int (nI p.2)), some (.int (nI i)), some (.int 0), none, none]) (st' := []) (I' := (aUp I6 94 ((4 + nI i).toNatClampNeg) (I6 97 ((4 + I6 105 ((nI i).toNatClampNeg)).toNatClampNeg)))) (J' := J5) (Ps := [aO E0 93 10 ∧ E0.2.2 93 0 ≠ 0, aO E0 93 10 ∧ E0.2.2 93 5 ≠ 0, aO E0 93 10 ∧ E0.2.2 93 13 ≠ 0, aAr E0 1 105 (nI i), aAr E0 1 97 (4 + I6 105 ((nI i).toNatClampNeg)), aAr E0 1 94 (4 + nI i)]) rfl ⟨r_93_0, r_93_5, r_93_13, (a_105 (vin (n := i) rfl (by omega) (by decide))), (a_97 (vin (n := (4 + (rep c i))) (eq_add (a := 4) (b := (rep c i)) rfl (by first | exact n5 | (rw [cln (x := nI i) (n := i) rfl (by omega)]; exact n5))) (by omega) (by decide))), (a_94 (vin (n := (4 + i)) (eq_add (a := 4) (b := i) rfl rfl) (by omega) (by decide)))⟩ ?_
        rw [cln (x := nI i) (n := i) rfl (by omega)]
        rw [cln (x := (4 + I6 105 i)) (n := (4 + (rep c i))) (eq_add (a := 4) (b := (rep c i)) rfl (by first | exact n5 | (rw [cln (x := nI i) (n := i) rfl (by omega)]; exact n5))) (by omega)]
        rw [cln (x := (4 + nI i)) (n := (4 + i)) (eq_add (a := 4) (b := i) rfl rfl) (by omega)]
        rw [n7 (4 + rep c i) (by omega)]
        generalize hI7 : (aUp I6 94 (4 + i) (nI (c (4 + rep c i)))) = I7
        have q1 : MC (qst c i 0 1) I7 := by rw [← hI7]; exact MC_ext (MC_up hi.1) (fun k hk => qst_lab (by omega))
        have q2 : ∀ q, q ≠ 94 → I7 q = I5 q := fun q hq => by rw [← hI7, aUp_ne hq]; exact hi.2 q hq
        have L2 : ∀ j, j ≤ p.2 → ∀ (I8 : aI), (MC (qst c i j 1) I8 ∧ ∀ q, q ≠ 94 → I8 q = I5 q) → Ez m_X10_minimize (d + 6) 120 [some (.ref 93), some (.int (nI (c 0))), some (.int (nI p.2)), some (.int (nI i)), some (.int (nI j)), none, none] [] E0 I8 J5 Q := by
          refine for_up ?_ ?_
          · intro I8 hj
            refine Ez.blk B_X10_minimize_120 (lo' := [some (.ref 93), some (.int (nI (c 0))), some (.int (nI p.2)), some (.int (nI i)), some (.int (nI p.2)), none, none]) (st' := [.int (nI p.2), .int (nI p.2)]) (I' := I8) (J' := J5) (Ps := []) rfl trivial ?_
            refine Ez.n_icmp_ge (off := 77) (tgt := 200) (by decide +kernel) (by decide) (a := p.2) (b := p.2) rfl rfl (by omega) (by omega) (fun h8 => ?_) (fun h8 => absurd h8 (by omega))
            refine Ez.blk B_X10_minimize_200 (lo' := [some (.ref 93), some (.int (nI (c 0))), some (.int (nI p.2)), some (.int (nI i + 1)), some (.int (nI p.2)), none, none]) (st' := []) (I' := I8) (J' := J5) (Ps := []) rfl trivial ?_
            rw [show (nI i + 1) = nI (i + 1) from (eq_add (a := i) (b := 1) rfl rfl)]
            refine Ez.drops [4] (lo' := [some (.ref 93), some (.int (nI (c 0))), some (.int (nI p.2)), some (.int (nI (i + 1))), none, none, none]) rfl ?_
            exact ih I8 ⟨MC_ext hj.1 (fun k hk => by rw [hpp]; exact qst_nx), hj.2⟩
          · intro j hjn ih2 I8 hj
            have n5 : I8 105 i = nI (rep c i) := by rw [hj.2 105 (by decide)]; exact m5 i hin
            have n7 : ∀ k, k < 46 → I8 97 k = nI (c k) := fun k hk => by rw [hj.2 97 (by decide)]; exact m7 k hk
            have n4 : ∀ s, s < c 0 → I8 104 s = nI (p.1 s) := fun s hs => by rw [hj.2 104 (by decide)]; exact m4 s hs
            refine Ez.blk B_X10_minimize_120 (lo' := [some (.ref 93), some (.int (nI (c 0))), some (.int (nI p.2)), some (.int (nI i)), some (.int (nI j)), none, none]) (st' := [.int (nI p.2), .int (nI j)]) (I' := I8) (J' := J5) (Ps := []) rfl trivial ?_
            refine Ez.n_icmp_ge (off := 77) (tgt := 200) (by decide +kernel) (by decide) (a := j) (b := p.2) rfl rfl (by omega) (by omega) (fun h8 => absurd h8 (by omega)) (fun h8 => ?_)
            refine Ez.blk B_X10_minimize_126 (lo' := [some (.ref 93), some (.int (nI (c 0))), some (.int (nI p.2)), some (.int (nI i)), some (.int (nI j)), some (.int 0), some (.int 0)]) (st' := []) (I' := I8) (J' := J5) (Ps := []) rfl trivial ?_
            have L3 : ∀ v, v ≤ c 0 → True → Ez m_X10_minimize (d + 6) 132 [some (.ref 93), some (.int (nI (c 0))), some (.int (nI p.2)), some (.int (nI i)), some (.int (nI j)), some (.int (nI (sm (fun u => if p.1 u = j then c (10 + 6 * rep c i + u) else 0) v))), some (.int (nI v))] [] E0 I8 J5 Q := by
              refine for_up ?_ ?_
              · intro _
                refine Ez.blk B_X10_minimize_132 (lo' := [some (.ref 93), some (.int (nI (c 0))), some (.int (nI p.2)), some (.int (nI i)), some (.int (nI j)), some (.int (nI (sm (fun u => if p.1 u = j then c (10 + 6 * rep c i + u) else 0) (c 0)))), some (.int (nI (c 0)))]) (st' := [.int (nI (c 0)), .int (nI (c 0))]) (I' := I8) (J' := J5) (Ps := []) rfl trivial ?_
                refine Ez.n_icmp_ge (off := 50) (tgt := 185) (by decide +kernel) (by decide) (a := (c 0)) (b := (c 0)) rfl rfl (by omega) (by omega) (fun h7 => ?_) (fun h7 => absurd h7 (by omega))
                refine Ez.blk B_X10_minimize_185 (lo' := [some (.ref 93), some (.int (nI (c 0))), some (.int (nI p.2)), some (.int (nI i)), some (.int (nI j)), some (.int (nI (sm (fun u => if p.1 u = j then c (10 + 6 * rep c i + u) else 0) (c 0)))), some (.int (nI (c 0)))]) (st' := [.int (nI (sm (fun u => if p.1 u = j then c (10 + 6 * rep c i + u) else 0) (c 0))), .int (nI j), .int (nI i), .ref 93]) (I' := I8) (J' := J5) (Ps := []) rfl trivial ?_
                refine Ez.callV (As := [.int (nI i), .int (nI j), .int (nI (sm (fun u => if p.1 u = j then c (10 + 6 * rep c i + u) else 0) (c 0)))]) (b := 93) (rest := []) kn_X10_setWeight ml_10_85 im_X10_setWeight se_X10_setWeight rfl (by decide +kernel) rfl rfl (Nat.le_of_ble_eq_true rfl) (Nat.le_of_ble_eq_true rfl) o_93 (s_setW _ I8 J5 i j (by omega) (by omega) (nI (sm (fun u => if p.1 u = j then c (10 + 6 * rep c i + u) else 0) (c 0)))) (fun r I9 J9 hq => ?_)
                obtain ⟨rfl, e9, rfl⟩ := hq
                refine Ez.blk B_X10_minimize_194 (lo' := [some (.ref 93), some (.int (nI (c 0))), some (.int (nI p.2)), some (.int (nI i)), some (.int (nI j + 1)), some (.int (nI (sm (fun u => if p.1 u = j then c (10 + 6 * rep c i + u) else 0) (c 0)))), some (.int (nI (c 0)))]) (st' := []) (I' := I9) (J' := J9) (Ps := []) rfl trivial ?_
                rw [show (nI j + 1) = nI (j + 1) from (eq_add (a := j) (b := 1) rfl rfl)]
                refine Ez.drops [5, 6] (lo' := [some (.ref 93), some (.int (nI (c 0))), some (.int (nI p.2)), some (.int (nI i)), some (.int (nI (j + 1))), none, none]) rfl ?_
                exact ih2 I9 ⟨by rw [e9]; exact MC_ext (MC_up hj.1) (fun k hk => by rw [qst_wt (by omega) (by rw [← hpp]; exact hjn) (by rw [← hpp]; exact pb1), ← hpp]; rfl), fun q hq => by rw [e9, aUp_ne hq]; exact hj.2 q hq⟩
              · intro v hvn ih3 _
                have cv := n4 v hvn
                have bv := pb.2 v hvn
                refine Ez.blk B_X10_minimize_132 (lo' := [some (.ref 93), some (.int (nI (c 0))), some (.int (nI p.2)), some (.int (nI i)), some (.int (nI j)), some (.int (nI (sm (fun u => if p.1 u = j then c (10 + 6 * rep c i + u) else 0) v))), some (.int (nI v))]) (st' := [.int (nI (c 0)), .int (nI v)]) (I' := I8) (J' := J5) (Ps := []) rfl trivial ?_
                refine Ez.n_icmp_ge (off := 50) (tgt := 185) (by decide +kernel) (by decide) (a := v) (b := (c 0)) rfl rfl (by omega) (by omega) (fun h7 => absurd h7 (by omega)) (fun h7 => ?_)
                refine Ez.blk B_X10_minimize_138 (lo' := [some (.ref 93), some (.int (nI (c 0))), some (.int (nI p.2)), some (.int (nI i)), some (.int (nI j)), some (.int (nI (sm (fun u => if p.1 u = j then c (10 + 6 * rep c i + u) else 0) v))), some (.int (nI v))]) (st' := [.int (nI j), .int (I8 104 ((nI v).toNatClampNeg)), .int (nI (sm (fun u => if p.1 u = j then c (10 + 6 * rep c i + u) else 0) v))]) (I' := I8) (J' := J5) (Ps := [aO E0 93 10 ∧ E0.2.2 93 12 ≠ 0, aAr E0 1 104 (nI v)]) rfl ⟨r_93_12, (a_104 (vin (n := v) rfl (by omega) (by decide)))⟩ ?_
                rw [cln (x := nI v) (n := v) rfl (by omega)]
                rw [cv]
                refine Ez.n_icmp_ne (off := 26) (tgt := 175) (by decide +kernel) (by decide) (a := (p.1 v)) (b := j) rfl rfl (by omega) (by omega) (fun g => ?_) (fun g => ?_)
                · refine Ez.blk B_X10_minimize_175 (lo' := [some (.ref 93), some (.int (nI (c 0))), some (.int (nI p.2)), some (.int (nI i)), some (.int (nI j)), some (.int (nI (sm (fun u => if p.1 u = j then c (10 + 6 * rep c i + u) else 0) v) + 0)), some (.int (nI v + 1))]) (st' := []) (I' := I8) (J' := J5) (Ps := []) rfl trivial ?_
                  rw [show (nI (sm (fun u => if p.1 u = j then c (10 + 6 * rep c i + u) else 0) v) + 0) = nI (sm (fun u => if p.1 u = j then c (10 + 6 * rep c i + u) else 0) v + 0) from (eq_add (a := (sm (fun u => if p.1 u = j then c (10 + 6 * rep c i + u) else 0) v)) (b := 0) rfl rfl)]
                  rw [show (nI v + 1) = nI (v + 1) from (eq_add (a := v) (b := 1) rfl rfl)]
                  rw [show (sm (fun u => if p.1 u = j then c (10 + 6 * rep c i + u) else 0) v) + 0 = (sm (fun u => if p.1 u = j then c (10 + 6 * rep c i + u) else 0) (v + 1)) from congrArg (fun z => (sm (fun u => if p.1 u = j then c (10 + 6 * rep c i + u) else 0) v) + z) (if_neg g).symm]
                  exact ih3 trivial
                · refine Ez.blk B_X10_minimize_152 (lo' := [some (.ref 93), some (.int (nI (c 0))), some (.int (nI p.2)), some (.int (nI i)), some (.int (nI j)), some (.int (nI (sm (fun u => if p.1 u = j then c (10 + 6 * rep c i + u) else 0) v))), some (.int (nI v))]) (st' := [.int (I8 97 (((10 + (6 * I8 105 ((nI i).toNatClampNeg))) + nI v).toNatClampNeg)), .int (nI (sm (fun u => if p.1 u = j then c (10 + 6 * rep c i + u) else 0) v))]) (I' := I8) (J' := J5) (Ps := [aO E0 93 10 ∧ E0.2.2 93 5 ≠ 0, aO E0 93 10 ∧ E0.2.2 93 13 ≠ 0, aAr E0 1 105 (nI i), aAr E0 1 97 ((10 + (6 * I8 105 ((nI i).toNatClampNeg))) + nI v)]) rfl ⟨r_93_5, r_93_13, (a_105 (vin (n := i) rfl (by omega) (by decide))), (a_97 (vin (n := (10 + (6 * (rep c i)) + v)) (eq_add (a := (10 + (6 * (rep c i)))) (b := v) (eq_add (a := 10) (b := (6 * (rep c i))) rfl (eq_mul (a := 6) (b := (rep c i)) rfl (by first | exact n5 | (rw [cln (x := nI i) (n := i) rfl (by omega)]; exact n5)))) rfl) (by omega) (by decide)))⟩ ?_
                  rw [cln (x := nI i) (n := i) rfl (by omega)]
                  rw [cln (x := ((10 + (6 * I8 105 i)) + nI v)) (n := (10 + (6 * (rep c i)) + v)) (eq_add (a := (10 + (6 * (rep c i)))) (b := v) (eq_add (a := 10) (b := (6 * (rep c i))) rfl (eq_mul (a := 6) (b := (rep c i)) rfl (by first | exact n5 | (rw [cln (x := nI i) (n := i) rfl (by omega)]; exact n5)))) rfl) (by omega)]
                  refine Ez.blk B_X10_minimize_176 (lo' := [some (.ref 93), some (.int (nI (c 0))), some (.int (nI p.2)), some (.int (nI i)), some (.int (nI j)), some (.int (nI (sm (fun u => if p.1 u = j then c (10 + 6 * rep c i + u) else 0) v) + I8 97 (10 + (6 * (rep c i)) + v))), some (.int (nI v + 1))]) (st' := []) (I' := I8) (J' := J5) (Ps := []) rfl trivial ?_
                  rw [show (nI v + 1) = nI (v + 1) from (eq_add (a := v) (b := 1) rfl rfl)]
                  rw [n7 (10 + 6 * rep c i + v) (by omega), nI_add, show (sm (fun u => if p.1 u = j then c (10 + 6 * rep c i + u) else 0) v) + c (10 + 6 * rep c i + v) = (sm (fun u => if p.1 u = j then c (10 + 6 * rep c i + u) else 0) (v + 1)) from congrArg (fun z => (sm (fun u => if p.1 u = j then c (10 + 6 * rep c i + u) else 0) v) + z) (if_pos g).symm]
                  exact ih3 trivial
            exact L3 0 (by omega) trivial
        exact L2 0 (by omega) I7 ⟨q1, q2⟩
    exact L1 0 (by omega) I5 ⟨MC_ext a1 (fun k hk => by rw [qst_0, hpp]), fun _ _ => rfl⟩
  have LR : ∀ m, ∀ I4 : aI, (m ≤ c 0 ∧ (∀ s, m ≤ s → s < c 0 → (∀ j, m ≤ j → j < s → p.1 j ≠ p.1 s) → I4 105 (p.1 s) = nI s) ∧ ∀ q, q ≠ 105 → I4 q = I3 q) → Ez m_X10_minimize (d + 6) 24 [some (.ref 93), some (.int (nI (c 0))), some (.int (nI p.2)), some (.int (nI m - 1)), none, none, none] [] E0 I4 J3 Q := by
    refine for_dn ?_ ?_
    · intro I4 ⟨hm, i1, i2⟩
      refine Ez.blk B_X10_minimize_24 (lo' := [some (.ref 93), some (.int (nI (c 0))), some (.int (nI p.2)), some (.int (nI 0 - 1)), none, none, none]) (st' := [.int (nI 0 - 1)]) (I' := I4) (J' := J3) (Ps := []) rfl trivial ?_
      refine Ez.if_lt (off := 53) (tgt := 78) (by decide +kernel) (by decide) (fun h9 => ?_) (fun h9 => (absurd (by decide) h9))
      refine Ez.drops [3] (lo' := [some (.ref 93), some (.int (nI (c 0))), some (.int (nI p.2)), none, none, none, none]) rfl ?_
      exact LQ I4 ⟨fun a ha => by have := i1 (rep c a) (Nat.zero_le _) (rp a ha).1 (fun j _ hj => by rw [(rp a ha).2.1]; exact (rp a ha).2.2 j hj); rw [(rp a ha).2.1] at this; exact this, MC_fr hc (i2 94 (by decide)), i2⟩
    · intro m ih I4 ⟨hm, i1, i2⟩
      rw [nI_pred m]
      have bm := pb.2 m (by omega)
      refine Ez.blk B_X10_minimize_24 (lo' := [some (.ref 93), some (.int (nI (c 0))), some (.int (nI p.2)), some (.int (nI m)), none, none, none]) (st' := [.int (nI m)]) (I' := I4) (J' := J3) (Ps := []) rfl trivial ?_
      refine Ez.n_if_lt (off := 53) (tgt := 78) (by decide +kernel) (by decide) (a := m) rfl (by omega) (fun h9 => h9.elim) (fun h9 => ?_)
      refine Ez.blk B_X10_minimize_28 (lo' := [some (.ref 93), some (.int (nI (c 0))), some (.int (nI p.2)), some (.int (nI m)), some (.int 0), none, none]) (st' := []) (I' := I4) (J' := J3) (Ps := []) rfl trivial ?_
      have L5 : ∀ j, j ≤ p.2 → ∀ (I5 : aI), ((∀ a, a < 6 → I5 105 a = if a < j ∧ p.1 m = a then nI m else I4 105 a) ∧ ∀ q, q ≠ 105 → I5 q = I3 q) → Ez m_X10_minimize (d + 6) 31 [some (.ref 93), some (.int (nI (c 0))), some (.int (nI p.2)), some (.int (nI m)), some (.int (nI j)), none, none] [] E0 I5 J3 Q := by
        refine for_up ?_ ?_
        · intro I5 hj
          refine Ez.blk B_X10_minimize_31 (lo' := [some (.ref 93), some (.int (nI (c 0))), some (.int (nI p.2)), some (.int (nI m)), some (.int (nI p.2)), none, none]) (st' := [.int (nI p.2), .int (nI p.2)]) (I' := I5) (J' := J3) (Ps := []) rfl trivial ?_
          refine Ez.n_icmp_ge (off := 38) (tgt := 72) (by decide +kernel) (by decide) (a := p.2) (b := p.2) rfl rfl (by omega) (by omega) (fun h8 => ?_) (fun h8 => absurd h8 (by omega))
          refine Ez.blk B_X10_minimize_72 (lo' := [some (.ref 93), some (.int (nI (c 0))), some (.int (nI p.2)), some (.int (nI m + (-1))), some (.int (nI p.2)), none, none]) (st' := []) (I' := I5) (J' := J3) (Ps := []) rfl trivial ?_
          rw [i32_m1]
          refine Ez.drops [4] (lo' := [some (.ref 93), some (.int (nI (c 0))), some (.int (nI p.2)), some (.int (nI m - 1)), none, none, none]) rfl ?_
          exact ih I5 ⟨by omega, fun s h1 h2 h3 => by
            have bs := pb.2 s h2
            rw [hj.1 (p.1 s) (by omega)]
            by_cases e : s = m
            · rw [e, if_pos ⟨bm, rfl⟩]
            · rw [if_neg (fun q => h3 m (Nat.le_refl _) (by omega) q.2)]
              exact i1 s (by omega) h2 (fun j h4 h5 => h3 j (by omega) h5), hj.2⟩
        · intro j hjn ih2 I5 hj
          have cm : I5 104 m = nI (p.1 m) := by rw [hj.2 104 (by decide)]; exact hp.2 m (by omega)
          refine Ez.blk B_X10_minimize_31 (lo' := [some (.ref 93), some (.int (nI (c 0))), some (.int (nI p.2)), some (.int (nI m)), some (.int (nI j)), none, none]) (st' := [.int (nI p.2), .int (nI j)]) (I' := I5) (J' := J3) (Ps := []) rfl trivial ?_
          refine Ez.n_icmp_ge (off := 38) (tgt := 72) (by decide +kernel) (by decide) (a := j) (b := p.2) rfl rfl (by omega) (by omega) (fun h8 => absurd h8 (by omega)) (fun h8 => ?_)
          refine Ez.blk B_X10_minimize_37 (lo' := [some (.ref 93), some (.int (nI (c 0))), some (.int (nI p.2)), some (.int (nI m)), some (.int (nI j)), none, none]) (st' := [.int (nI j), .int (I5 104 ((nI m).toNatClampNeg)), .int (nI j), .ref 105]) (I' := I5) (J' := J3) (Ps := [aO E0 93 10 ∧ E0.2.2 93 13 ≠ 0, aO E0 93 10 ∧ E0.2.2 93 12 ≠ 0, aAr E0 1 104 (nI m)]) rfl ⟨r_93_13, r_93_12, (a_104 (vin (n := m) rfl (by omega) (by decide)))⟩ ?_
          rw [cln (x := nI m) (n := m) rfl (by omega)]
          rw [cm]
          refine Ez.n_icmp_ne (off := 7) (tgt := 58) (by decide +kernel) (by decide) (a := (p.1 m)) (b := j) rfl rfl (by omega) (by omega) (fun g => ?_) (fun g => ?_)
          · refine Ez.blk B_X10_minimize_58 (lo' := [some (.ref 93), some (.int (nI (c 0))), some (.int (nI p.2)), some (.int (nI m)), some (.int (nI j + 1)), none, none]) (st' := []) (I' := (aUp I5 105 ((nI j).toNatClampNeg) (I5 105 ((nI j).toNatClampNeg)))) (J' := J3) (Ps := [aO E0 93 10 ∧ E0.2.2 93 13 ≠ 0, aAr E0 1 105 (nI j), aAr E0 1 105 (nI j)]) rfl ⟨r_93_13, (a_105 (vin (n := j) rfl (by omega) (by decide))), (a_105 (vin (n := j) rfl (by omega) (by decide)))⟩ ?_
            rw [cln (x := nI j) (n := j) rfl (by omega)]
            rw [show (nI j + 1) = nI (j + 1) from (eq_add (a := j) (b := 1) rfl rfl)]
            exact ih2 _ ⟨fun a ha => by
              by_cases e : a = j
              · rw [e, aUp_eq, hj.1 j (by omega), if_neg (by omega), if_neg (by omega)]
              · rw [aUp_nk e, hj.1 a ha]
                by_cases e2 : a < j ∧ p.1 m = a
                · rw [if_pos e2, if_pos ⟨by omega, e2.2⟩]
                · rw [if_neg e2, if_neg (by omega)], fun q hq => by rw [aUp_ne hq]; exact hj.2 q hq⟩
          · refine Ez.blk B_X10_minimize_54 (lo' := [some (.ref 93), some (.int (nI (c 0))), some (.int (nI p.2)), some (.int (nI m)), some (.int (nI j)), none, none]) (st' := [.int (nI m), .int (nI j), .ref 105]) (I' := I5) (J' := J3) (Ps := []) rfl trivial ?_
            refine Ez.blk B_X10_minimize_65 (lo' := [some (.ref 93), some (.int (nI (c 0))), some (.int (nI p.2)), some (.int (nI m)), some (.int (nI j + 1)), none, none]) (st' := []) (I' := (aUp I5 105 ((nI j).toNatClampNeg) (nI m))) (J' := J3) (Ps := [aAr E0 1 105 (nI j)]) rfl (a_105 (vin (n := j) rfl (by omega) (by decide))) ?_
            rw [cln (x := nI j) (n := j) rfl (by omega)]
            rw [show (nI j + 1) = nI (j + 1) from (eq_add (a := j) (b := 1) rfl rfl)]
            exact ih2 _ ⟨fun a ha => by
              by_cases e : a = j
              · rw [e, aUp_eq, if_pos ⟨by omega, g⟩]
              · rw [aUp_nk e, hj.1 a ha]
                by_cases e2 : a < j ∧ p.1 m = a
                · rw [if_pos e2, if_pos ⟨by omega, e2.2⟩]
                · rw [if_neg e2, if_neg (by omega)], fun q hq => by rw [aUp_ne hq]; exact hj.2 q hq⟩
      exact L5 0 (by omega) I4 ⟨fun a ha => by rw [if_neg (by omega)], i2⟩
  rw [c03, hp.1]
  exact LR (c 0) I3 ⟨Nat.le_refl _, fun s h1 h2 => by omega, fun _ _ => rfl⟩

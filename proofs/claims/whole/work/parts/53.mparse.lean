/-! THE REFERENCE: parse -/
theorem s_wrong (d : Nat) (I : aI) (J : aJ) (b : BF) (hb : MBf b I) (W : BW b) (n h : Nat) (hn : 1 ≤ n ∧ n ≤ 6) (h23 : I 93 23 = nI n) (g : G3 b (n - 1) b.1 h) : Sp m_X10_findWrongSuccessors (d + 1) [.ref 93] E0 I J (fun r I' J' => r = none ∧ J' = J ∧ (∀ s, s < 6 → I' 111 s = 0 ∨ I' 111 s = 1) ∧ ((∀ s, s < n → I' 111 s = 0) ↔ h < n) ∧ ∀ q, q ≠ 111 → I' q = I q) := by
  refine Sp.of (lo := [some (.ref 93), none, none]) rfl (fun Q hQ => ?_)
  have b80 := W.1
  have L2 : ∀ k, k ≤ b.1 → ∀ (I1 : aI), ((∀ s, s < 6 → I1 111 s = 0 ∨ I1 111 s = 1) ∧ ((∀ s, s < n → I1 111 s = 0) ↔ ∀ j, j < k → b.2 j = 62 → b.2 (j + 1) - 48 < n) ∧ ∀ q, q ≠ 111 → I1 q = I q) → Ez m_X10_findWrongSuccessors (d + 1) 25 [some (.ref 93), some (.int (nI (cnt b k))), some (.int (nI k))] [] E0 I1 J Q := by
    refine for_up ?_ ?_
    · intro I1 hi
      obtain ⟨i1, i2, i3⟩ := hi
      have l1 : I1 93 18 = nI b.1 := by rw [i3 93 (by decide)]; exact hb.1
      have l2 : I1 93 23 = nI n := by rw [i3 93 (by decide)]; exact h23
      refine Ez.blk B_X10_findWrongSuccessors_25 (lo' := [some (.ref 93), some (.int (nI (cnt b b.1))), some (.int (nI b.1))]) (st' := [.int (I1 93 18), .int (nI b.1)]) (I' := I1) (J' := J) (Ps := [aO E0 93 10]) rfl o_93 ?_
      refine Ez.n_icmp_ge (off := 77) (tgt := 107) (by decide +kernel) (by decide) (a := b.1) (b := b.1) rfl l1 (by omega) (by omega) (fun hz => ?_) (fun hz => absurd hz (by omega))
      exact Ez.vret rfl (by decide +kernel) (hQ _ _ _ ⟨rfl, rfl, i1, by
        rw [i2]
        constructor
        · intro q
          rcases g.2.1 with e | ⟨k, e1, e2, e3⟩
          · omega
          · have := q k (by omega) e2; omega
        · intro q j hj e
          have := (g.1 j hj e).2.2
          omega, i3⟩)
    · intro k hk ih I1 hi
      obtain ⟨i1, i2, i3⟩ := hi
      have l1 : I1 93 18 = nI b.1 := by rw [i3 93 (by decide)]; exact hb.1
      have l2 : I1 93 23 = nI n := by rw [i3 93 (by decide)]; exact h23
      have bk := hb.2 k hk
      have b128 := W.2 k hk
      have bk1 : I1 108 k = nI (b.2 k) := by rw [i3 108 (by decide)]; exact bk
      have c1 : cnt b (k + 1) ≤ n - 1 := by rw [← g.2.2]; exact cnt_le hk
      have c0 : cnt b k ≤ n - 1 := by rw [← g.2.2]; exact cnt_le (by omega)
      have LJ : Ez m_X10_findWrongSuccessors (d + 1) 60 [some (.ref 93), some (.int (nI (cnt b (k + 1)))), some (.int (nI k))] [.int 62, .int (nI (b.2 k))] E0 I1 J Q := by
        refine Ez.n_icmp_ne (off := 41) (tgt := 101) (by decide +kernel) (by decide) (a := (b.2 k)) (b := 62) rfl rfl (by omega) (by omega) (fun e62 => ?_) (fun e62 => ?_)
        · refine Ez.blk B_X10_findWrongSuccessors_101 (lo' := [some (.ref 93), some (.int (nI (cnt b (k + 1)))), some (.int (nI k + 1))]) (st' := []) (I' := I1) (J' := J) (Ps := []) rfl trivial ?_
          rw [show (nI k + 1) = nI (k + 1) from (eq_add (a := k) (b := 1) rfl rfl)]
          exact ih I1 ⟨i1, by
            rw [i2]
            constructor
            · intro q j hj e
              by_cases ej : j = k
              · rw [ej] at e; exact absurd e e62
              · exact q j (by omega) e
            · intro q j hj e
              exact q j (by omega) e, i3⟩
        · have gk := g.1 k hk e62
          have b129 := W.2 (k + 1) gk.1
          have bn1 : I1 108 (k + 1) - 48 = nI (b.2 (k + 1) - 48) := eq_sub (a := b.2 (k + 1)) (b := 48) (by rw [i3 108 (by decide)]; exact hb.2 (k + 1) gk.1) rfl gk.2.1
          have hs6 : cnt b (k + 1) < 6 := by omega
          have LS : ∀ v : Int32, ((v = 1 ∧ (I1 111 (cnt b (k + 1)) = 1 ∨ n ≤ b.2 (k + 1) - 48)) ∨ (v = 0 ∧ I1 111 (cnt b (k + 1)) = 0 ∧ b.2 (k + 1) - 48 < n)) → Ez m_X10_findWrongSuccessors (d + 1) 25 [some (.ref 93), some (.int (nI (cnt b (k + 1)))), some (.int (nI (k + 1)))] [] E0 (aUp I1 111 (cnt b (k + 1)) v) J Q := by
            intro v hv
            refine ih _ ⟨fun s hs => ?_, ?_, fun q hq => by rw [aUp_ne hq]; exact i3 q hq⟩
            · by_cases e : s = cnt b (k + 1)
              · rw [e, aUp_eq]
                rcases hv with q | q
                · exact Or.inr q.1
                · exact Or.inl q.1
              · rw [aUp_nk e]; exact i1 s hs
            · rcases hv with ⟨q1, q2⟩ | ⟨q1, q2, q3⟩
              · constructor
                · intro q
                  have := q (cnt b (k + 1)) (by omega)
                  rw [aUp_eq, q1] at this
                  exact absurd this (by decide)
                · intro q
                  exfalso
                  rcases q2 with q2 | q2
                  · have := i2.mpr (fun j hj e => q j (by omega) e) (cnt b (k + 1)) (by omega)
                    rw [q2] at this
                    exact absurd this (by decide)
                  · have := q k (by omega) e62
                    omega
              · constructor
                · intro q j hj e
                  by_cases ej : j = k
                  · rw [ej]; exact q3
                  · refine i2.mp (fun s hs => ?_) j (by omega) e
                    by_cases es : s = cnt b (k + 1)
                    · rw [es]; exact q2
                    · have := q s hs
                      rw [aUp_nk es] at this
                      exact this
                · intro q s hs
                  by_cases es : s = cnt b (k + 1)
                  · rw [es, aUp_eq]; exact q1
                  · rw [aUp_nk es]; exact i2.mpr (fun j hj e => q j (by omega) e) s hs
          refine Ez.blk B_X10_findWrongSuccessors_63 (lo' := [some (.ref 93), some (.int (nI (cnt b (k + 1)))), some (.int (nI k))]) (st' := [.int (I1 111 ((nI (cnt b (k + 1))).toNatClampNeg)), .int (nI (cnt b (k + 1))), .ref 111]) (I' := I1) (J' := J) (Ps := [aO E0 93 10 ∧ E0.2.2 93 26 ≠ 0, aO E0 93 10 ∧ E0.2.2 93 26 ≠ 0, aAr E0 3 111 (nI (cnt b (k + 1)))]) rfl ⟨r_93_26, r_93_26, (a_111 (vin (n := (cnt b (k + 1))) rfl (by omega) (by decide)))⟩ ?_
          rw [cln (x := nI (cnt b (k + 1))) (n := (cnt b (k + 1))) rfl (by omega)]
          refine Ez.if_ne (off := 21) (tgt := 95) (by decide +kernel) (by decide) (fun g1 => ?_) (fun g1 => ?_)
          · refine Ez.blk B_X10_findWrongSuccessors_95 (lo' := [some (.ref 93), some (.int (nI (cnt b (k + 1)))), some (.int (nI k))]) (st' := [.int 1, .int (nI (cnt b (k + 1))), .ref 111]) (I' := I1) (J' := J) (Ps := []) rfl trivial ?_
            refine Ez.blk B_X10_findWrongSuccessors_100 (lo' := [some (.ref 93), some (.int (nI (cnt b (k + 1)))), some (.int (nI k + 1))]) (st' := []) (I' := (aUp I1 111 ((nI (cnt b (k + 1))).toNatClampNeg) 1)) (J' := J) (Ps := [aAr E0 3 111 (nI (cnt b (k + 1))) ∧ (1 = 0 ∨ 1 = 1)]) rfl ⟨(a_111 (vin (n := (cnt b (k + 1))) rfl (by omega) (by decide))), (Or.inr rfl)⟩ ?_
            rw [cln (x := nI (cnt b (k + 1))) (n := (cnt b (k + 1))) rfl (by omega)]
            rw [show (nI k + 1) = nI (k + 1) from (eq_add (a := k) (b := 1) rfl rfl)]
            exact LS 1 (Or.inl ⟨rfl, Or.inl ((i1 _ hs6).resolve_left g1)⟩)
          · refine Ez.blk B_X10_findWrongSuccessors_77 (lo' := [some (.ref 93), some (.int (nI (cnt b (k + 1)))), some (.int (nI k))]) (st' := [.int (I1 93 23), .int (I1 108 ((nI k + 1).toNatClampNeg) - 48), .int (nI (cnt b (k + 1))), .ref 111]) (I' := I1) (J' := J) (Ps := [aO E0 93 10 ∧ E0.2.2 93 17 ≠ 0, aAr E0 1 108 (nI k + 1), aO E0 93 10]) rfl ⟨r_93_17, (a_108 (vin (n := (k + 1)) (eq_add (a := k) (b := 1) rfl rfl) (by omega) (by decide))), o_93⟩ ?_
            rw [cln (x := (nI k + 1)) (n := (k + 1)) (eq_add (a := k) (b := 1) rfl rfl) (by omega)]
            refine Ez.n_icmp_lt (off := 7) (tgt := 99) (by decide +kernel) (by decide) (a := (b.2 (k + 1) - 48)) (b := n) bn1 l2 (by omega) (by omega) (fun g2 => ?_) (fun g2 => ?_)
            · refine Ez.blk B_X10_findWrongSuccessors_99 (lo' := [some (.ref 93), some (.int (nI (cnt b (k + 1)))), some (.int (nI k + 1))]) (st' := []) (I' := (aUp I1 111 ((nI (cnt b (k + 1))).toNatClampNeg) 0)) (J' := J) (Ps := [aAr E0 3 111 (nI (cnt b (k + 1))) ∧ (0 = 0 ∨ 0 = 1)]) rfl ⟨(a_111 (vin (n := (cnt b (k + 1))) rfl (by omega) (by decide))), (Or.inl rfl)⟩ ?_
              rw [cln (x := nI (cnt b (k + 1))) (n := (cnt b (k + 1))) rfl (by omega)]
              rw [show (nI k + 1) = nI (k + 1) from (eq_add (a := k) (b := 1) rfl rfl)]
              exact LS 0 (Or.inr ⟨rfl, g1, g2⟩)
            · refine Ez.blk B_X10_findWrongSuccessors_95 (lo' := [some (.ref 93), some (.int (nI (cnt b (k + 1)))), some (.int (nI k))]) (st' := [.int 1, .int (nI (cnt b (k + 1))), .ref 111]) (I' := I1) (J' := J) (Ps := []) rfl trivial ?_
              refine Ez.blk B_X10_findWrongSuccessors_100 (lo' := [some (.ref 93), some (.int (nI (cnt b (k + 1)))), some (.int (nI k + 1))]) (st' := []) (I' := (aUp I1 111 ((nI (cnt b (k + 1))).toNatClampNeg) 1)) (J' := J) (Ps := [aAr E0 3 111 (nI (cnt b (k + 1))) ∧ (1 = 0 ∨ 1 = 1)]) rfl ⟨(a_111 (vin (n := (cnt b (k + 1))) rfl (by omega) (by decide))), (Or.inr rfl)⟩ ?_
              rw [cln (x := nI (cnt b (k + 1))) (n := (cnt b (k + 1))) rfl (by omega)]
              rw [show (nI k + 1) = nI (k + 1) from (eq_add (a := k) (b := 1) rfl rfl)]
              exact LS 1 (Or.inl ⟨rfl, Or.inr g2⟩)
      refine Ez.blk B_X10_findWrongSuccessors_25 (lo' := [some (.ref 93), some (.int (nI (cnt b k))), some (.int (nI k))]) (st' := [.int (I1 93 18), .int (nI k)]) (I' := I1) (J' := J) (Ps := [aO E0 93 10]) rfl o_93 ?_
      refine Ez.n_icmp_ge (off := 77) (tgt := 107) (by decide +kernel) (by decide) (a := k) (b := b.1) rfl l1 (by omega) (by omega) (fun hz => absurd hz (by omega)) (fun hz => ?_)
      refine Ez.blk B_X10_findWrongSuccessors_33 (lo' := [some (.ref 93), some (.int (nI (cnt b k))), some (.int (nI k))]) (st' := [.int 59, .int (I1 108 ((nI k).toNatClampNeg)), .int (nI (cnt b k))]) (I' := I1) (J' := J) (Ps := [aO E0 93 10 ∧ E0.2.2 93 17 ≠ 0, aAr E0 1 108 (nI k)]) rfl ⟨r_93_17, (a_108 (vin (n := k) rfl (by omega) (by decide)))⟩ ?_
      rw [cln (x := nI k) (n := k) rfl (by omega)]
      rw [bk1]
      refine Ez.n_icmp_ne (off := 7) (tgt := 49) (by decide +kernel) (by decide) (a := (b.2 k)) (b := 59) rfl rfl (by omega) (by omega) (fun e59 => ?_) (fun e59 => ?_)
      · refine Ez.blk B_X10_findWrongSuccessors_49 (lo' := [some (.ref 93), some (.int (nI (cnt b k) + 0)), some (.int (nI k))]) (st' := [.int 62, .int (I1 108 ((nI k).toNatClampNeg))]) (I' := I1) (J' := J) (Ps := [aO E0 93 10 ∧ E0.2.2 93 17 ≠ 0, aAr E0 1 108 (nI k)]) rfl ⟨r_93_17, (a_108 (vin (n := k) rfl (by omega) (by decide)))⟩ ?_
        rw [cln (x := nI k) (n := k) rfl (by omega)]
        rw [show (nI (cnt b k) + 0) = nI (cnt b k + 0) from (eq_add (a := (cnt b k)) (b := 0) rfl rfl)]
        rw [bk1, show cnt b k + 0 = cnt b (k + 1) by rw [cnt_s, if_neg e59]]
        exact LJ
      · refine Ez.blk B_X10_findWrongSuccessors_45 (lo' := [some (.ref 93), some (.int (nI (cnt b k))), some (.int (nI k))]) (st' := [.int 1, .int (nI (cnt b k))]) (I' := I1) (J' := J) (Ps := []) rfl trivial ?_
        refine Ez.blk B_X10_findWrongSuccessors_50 (lo' := [some (.ref 93), some (.int (nI (cnt b k) + 1)), some (.int (nI k))]) (st' := [.int 62, .int (I1 108 ((nI k).toNatClampNeg))]) (I' := I1) (J' := J) (Ps := [aO E0 93 10 ∧ E0.2.2 93 17 ≠ 0, aAr E0 1 108 (nI k)]) rfl ⟨r_93_17, (a_108 (vin (n := k) rfl (by omega) (by decide)))⟩ ?_
        rw [cln (x := nI k) (n := k) rfl (by omega)]
        rw [show (nI (cnt b k) + 1) = nI (cnt b k + 1) from (eq_add (a := (cnt b k)) (b := 1) rfl rfl)]
        rw [bk1, show cnt b k + 1 = cnt b (k + 1) by rw [cnt_s, if_pos e59]]
        exact LJ
  have L1 : ∀ k, k ≤ 6 → ∀ (I1 : aI), ((∀ s, s < k → I1 111 s = 0) ∧ ∀ q, q ≠ 111 → I1 q = I q) → Ez m_X10_findWrongSuccessors (d + 1) 4 [some (.ref 93), some (.int 0), some (.int (nI k))] [] E0 I1 J Q := by
    refine for_up ?_ ?_
    · intro I1 hi
      refine Ez.blk B_X10_findWrongSuccessors_4 (lo' := [some (.ref 93), some (.int 0), some (.int (nI 6))]) (st' := [.int 6, .int (nI 6)]) (I' := I1) (J' := J) (Ps := []) rfl trivial ?_
      refine Ez.n_icmp_ge (off := 16) (tgt := 23) (by decide +kernel) (by decide) (a := 6) (b := 6) rfl rfl (by omega) (by omega) (fun hz => ?_) (fun hz => absurd hz (by omega))
      refine Ez.blk B_X10_findWrongSuccessors_23 (lo' := [some (.ref 93), some (.int 0), some (.int 0)]) (st' := []) (I' := I1) (J' := J) (Ps := []) rfl trivial ?_
      exact L2 0 (by omega) I1 ⟨fun s hs => Or.inl (hi.1 s hs), ⟨fun _ j hj => absurd hj (Nat.not_lt_zero _), fun _ s hs => hi.1 s (by omega)⟩, hi.2⟩
    · intro k hk ih I1 hi
      refine Ez.blk B_X10_findWrongSuccessors_4 (lo' := [some (.ref 93), some (.int 0), some (.int (nI k))]) (st' := [.int 6, .int (nI k)]) (I' := I1) (J' := J) (Ps := []) rfl trivial ?_
      refine Ez.n_icmp_ge (off := 16) (tgt := 23) (by decide +kernel) (by decide) (a := k) (b := 6) rfl rfl (by omega) (by omega) (fun hz => absurd hz (by omega)) (fun hz => ?_)
      refine Ez.blk B_X10_findWrongSuccessors_10 (lo' := [some (.ref 93), some (.int 0), some (.int (nI k + 1))]) (st' := []) (I' := (aUp I1 111 ((nI k).toNatClampNeg) 0)) (J' := J) (Ps := [aO E0 93 10 ∧ E0.2.2 93 26 ≠ 0, aAr E0 3 111 (nI k) ∧ (0 = 0 ∨ 0 = 1)]) rfl ⟨r_93_26, ⟨(a_111 (vin (n := k) rfl (by omega) (by decide))), (Or.inl rfl)⟩⟩ ?_
      rw [cln (x := nI k) (n := k) rfl (by omega)]
      rw [show (nI k + 1) = nI (k + 1) from (eq_add (a := k) (b := 1) rfl rfl)]
      exact ih _ ⟨fun j hj => by
        by_cases e : j = k
        · rw [e, aUp_eq]
        · rw [aUp_nk e]; exact hi.1 j (by omega), fun q hq => by rw [aUp_ne hq]; exact hi.2 q hq⟩
  refine Ez.blk B_X10_findWrongSuccessors_0 (lo' := [some (.ref 93), some (.int 0), some (.int 0)]) (st' := []) (I' := I) (J' := J) (Ps := []) rfl trivial ?_
  exact L1 0 (by omega) I ⟨fun j hj => by omega, fun _ _ => rfl⟩
theorem s_hasW (d : Nat) (I : aI) (J : aJ) (s : Nat) (hs : s < 6) (hv : I 111 s = 0 ∨ I 111 s = 1) : Sp m_X10_hasWrongSuccessor (d + 1) [.ref 93, .int (nI s)] E0 I J (fun r I' J' => r = some (.int (I 111 s)) ∧ I' = I ∧ J' = J) := by
  refine Sp.of (lo := [some (.ref 93), some (.int (nI s))]) rfl (fun Q hQ => ?_)
  refine Ez.blk B_X10_hasWrongSuccessor_0 (lo' := [some (.ref 93), some (.int (nI s))]) (st' := [.int (I 111 ((nI s).toNatClampNeg))]) (I' := I) (J' := J) (Ps := [aO E0 93 10 ∧ E0.2.2 93 26 ≠ 0, aAr E0 3 111 (nI s)]) rfl ⟨r_93_26, (a_111 (vin (n := s) rfl (by omega) (by decide)))⟩ ?_
  rw [cln (x := nI s) (n := s) rfl (by omega)]
  exact Ez.zret rfl hv (by decide +kernel) (hQ _ _ _ ⟨rfl, rfl, rfl⟩)
abbrev csm (I : aI) (n D : Nat) (x : PX) (k : Nat) : Prop := (1 ≤ D ∧ D ≤ 12) ∧ ∀ s, s < k → (x.2.1 s ≤ 3 ∧ sm (fun t => x.2.2.1 (10 * s + t)) n = D) ∧ I 111 s = 0
theorem s_csnM (d : Nat) (I : aI) (J : aJ) (n D : Nat) (x : PX) (hn : 1 ≤ n ∧ n ≤ 6) (hD : D ≤ 99) (h3 : I 93 23 = nI n) (h4 : I 93 22 = nI D) (hw : WtM I n x) (hwb : ∀ k, x.2.2.1 k ≤ 7920) (hl : LbM I n x) (hlb : ∀ k, k < n → x.2.1 k ≤ 9) (h01 : ∀ s, s < 6 → I 111 s = 0 ∨ I 111 s = 1) (hok : (∀ s, s < n → I 111 s = 0) ↔ x.2.2.2 < n) : Sp m_X10_isConsistent (d + 2) [.ref 93] E0 I J (fun r I' J' => r = some (.int (zb (csn n D x))) ∧ I' = I ∧ J' = J) := by
  refine Sp.of (lo := [some (.ref 93), none, none, none, none]) rfl (fun Q hQ => ?_)
  refine Ez.blk B_X10_isConsistent_0 (lo' := [some (.ref 93), none, none, none, none]) (st' := [.long 12, .long 1, .long ((I 93 22).toInt64)]) (I' := I) (J' := J) (Ps := [aO E0 93 10]) rfl o_93 ?_
  rw [h4]
  refine Ez.callS (As := [.long ((nI D).toInt64), .long 1, .long 12]) (rest := []) kn_X10_in ml_10_81 sm_X10_in (by decide +kernel) rfl rfl (Nat.le_of_ble_eq_true rfl) (Nat.le_of_ble_eq_true rfl) (s_in _ E0 I J (nI D) 1 12 1 12 (by decide) (by decide)) (fun r I1 J1 hq => ?_)
  obtain ⟨rfl, rfl, rfl⟩ := hq
  rw [zb_iff (p := 1 ≤ nI D ∧ nI D ≤ 12) (q := csm I1 n D x 0) ⟨fun q => ⟨⟨(nI_leI (a := 1) (by omega) (by omega)).mp q.1, (nI_leI (b := 12) (by omega) (by omega)).mp q.2⟩, fun s hs => absurd hs (Nat.not_lt_zero _)⟩, fun q => in_n (lo := 1) (hi := 12) q.1.1 q.1.2 (by omega)⟩]
  refine Ez.blk B_X10_isConsistent_12 (lo' := [some (.ref 93), some (.int (zb (csm I1 n D x 0))), some (.int 0), none, none]) (st' := []) (I' := I1) (J' := J1) (Ps := []) rfl trivial ?_
  have L1 : ∀ k, k ≤ n → True → Ez m_X10_isConsistent (d + 2) 15 [some (.ref 93), some (.int (zb (csm I1 n D x k))), some (.int (nI k)), none, none] [] E0 I1 J1 Q := by
    refine for_up ?_ ?_
    · intro _
      refine Ez.blk B_X10_isConsistent_15 (lo' := [some (.ref 93), some (.int (zb (csm I1 n D x n))), some (.int (nI n)), none, none]) (st' := [.int (I1 93 23), .int (nI n)]) (I' := I1) (J' := J1) (Ps := [aO E0 93 10]) rfl o_93 ?_
      refine Ez.n_icmp_ge (off := 80) (tgt := 100) (by decide +kernel) (by decide) (a := n) (b := n) rfl h3 (by omega) (by omega) (fun h => ?_) (fun h => absurd h (by omega))
      refine Ez.blk B_X10_isConsistent_100 (lo' := [some (.ref 93), some (.int (zb (csm I1 n D x n))), some (.int (nI n)), none, none]) (st' := [.int (zb (csm I1 n D x n))]) (I' := I1) (J' := J1) (Ps := []) rfl trivial ?_
      rw [zb_iff (p := csm I1 n D x n) (q := csn n D x) ⟨fun q => ⟨⟨q.1, hok.mp (fun s hs => (q.2 s hs).2)⟩, fun s hs => ⟨(q.2 s hs).1.2, (q.2 s hs).1.1⟩⟩, fun q => ⟨q.1.1, fun s hs => ⟨⟨(q.2 s hs).2, (q.2 s hs).1⟩, hok.mpr q.1.2 s hs⟩⟩⟩]
      exact Ez.zret rfl (zb_01 _) (by decide +kernel) (hQ _ _ _ ⟨rfl, rfl, rfl⟩)
    · intro k hk ih _
      refine Ez.blk B_X10_isConsistent_15 (lo' := [some (.ref 93), some (.int (zb (csm I1 n D x k))), some (.int (nI k)), none, none]) (st' := [.int (I1 93 23), .int (nI k)]) (I' := I1) (J' := J1) (Ps := [aO E0 93 10]) rfl o_93 ?_
      refine Ez.n_icmp_ge (off := 80) (tgt := 100) (by decide +kernel) (by decide) (a := k) (b := n) rfl h3 (by omega) (by omega) (fun h => absurd h (by omega)) (fun h => ?_)
      refine Ez.blk B_X10_isConsistent_23 (lo' := [some (.ref 93), some (.int (zb (csm I1 n D x k))), some (.int (nI k)), some (.int 0), some (.int 0)]) (st' := []) (I' := I1) (J' := J1) (Ps := []) rfl trivial ?_
      have L2 : ∀ j, j ≤ n → True → Ez m_X10_isConsistent (d + 2) 28 [some (.ref 93), some (.int (zb (csm I1 n D x k))), some (.int (nI k)), some (.int (nI (sm (fun t => x.2.2.1 (10 * k + t)) j))), some (.int (nI j))] [] E0 I1 J1 Q := by
        refine for_up ?_ ?_
        · intro _
          have hsb : (sm (fun t => x.2.2.1 (10 * k + t)) n) ≤ n * 7920 := sm_bd (fun j _ => hwb _)
          have hkl := hl k hk
          have hkb := hlb k hk
          refine Ez.blk B_X10_isConsistent_28 (lo' := [some (.ref 93), some (.int (zb (csm I1 n D x k))), some (.int (nI k)), some (.int (nI (sm (fun t => x.2.2.1 (10 * k + t)) n))), some (.int (nI n))]) (st' := [.int (I1 93 23), .int (nI n)]) (I' := I1) (J' := J1) (Ps := [aO E0 93 10]) rfl o_93 ?_
          refine Ez.n_icmp_ge (off := 24) (tgt := 58) (by decide +kernel) (by decide) (a := n) (b := n) rfl h3 (by omega) (by omega) (fun h9 => ?_) (fun h9 => absurd h9 (by omega))
          refine Ez.blk B_X10_isConsistent_58 (lo' := [some (.ref 93), some (.int (zb (csm I1 n D x k))), some (.int (nI k)), some (.int (nI (sm (fun t => x.2.2.1 (10 * k + t)) n))), some (.int (nI n))]) (st' := [.int (zb (csm I1 n D x k))]) (I' := I1) (J' := J1) (Ps := []) rfl trivial ?_
          refine Ez.z_if_eq (off := 33) (tgt := 92) (by decide +kernel) (by decide) (fun g1 => ?_) (fun g1 => ?_)
          · refine Ez.blk B_X10_isConsistent_92 (lo' := [some (.ref 93), some (.int 0), some (.int (nI k + 1)), some (.int (nI (sm (fun t => x.2.2.1 (10 * k + t)) n))), some (.int (nI n))]) (st' := []) (I' := I1) (J' := J1) (Ps := []) rfl trivial ?_
            rw [show (nI k + 1) = nI (k + 1) from (eq_add (a := k) (b := 1) rfl rfl)]
            refine Ez.drops [3, 4] (lo' := [some (.ref 93), some (.int 0), some (.int (nI (k + 1))), none, none]) rfl ?_
            rw [show (0 : Int32) = zb (csm I1 n D x (k + 1)) from (zb_f (fun q => g1 ⟨q.1, fun s hs => q.2 s (by omega)⟩)).symm]
            exact ih trivial
          · refine Ez.blk B_X10_isConsistent_62 (lo' := [some (.ref 93), some (.int (zb (csm I1 n D x k))), some (.int (nI k)), some (.int (nI (sm (fun t => x.2.2.1 (10 * k + t)) n))), some (.int (nI n))]) (st' := [.int 3, .int (I1 109 ((nI k).toNatClampNeg))]) (I' := I1) (J' := J1) (Ps := [aO E0 93 10 ∧ E0.2.2 93 24 ≠ 0, aAr E0 1 109 (nI k)]) rfl ⟨r_93_24, (a_109 (vin (n := k) rfl (by omega) (by decide)))⟩ ?_
            rw [cln (x := nI k) (n := k) rfl (by omega)]
            rw [hkl]
            refine Ez.n_icmp_gt (off := 23) (tgt := 92) (by decide +kernel) (by decide) (a := (x.2.1 k)) (b := 3) rfl rfl (by omega) (by omega) (fun g2 => ?_) (fun g2 => ?_)
            · refine Ez.blk B_X10_isConsistent_92 (lo' := [some (.ref 93), some (.int 0), some (.int (nI k + 1)), some (.int (nI (sm (fun t => x.2.2.1 (10 * k + t)) n))), some (.int (nI n))]) (st' := []) (I' := I1) (J' := J1) (Ps := []) rfl trivial ?_
              rw [show (nI k + 1) = nI (k + 1) from (eq_add (a := k) (b := 1) rfl rfl)]
              refine Ez.drops [3, 4] (lo' := [some (.ref 93), some (.int 0), some (.int (nI (k + 1))), none, none]) rfl ?_
              rw [show (0 : Int32) = zb (csm I1 n D x (k + 1)) from (zb_f (fun q => by have := (q.2 k (by omega)).1.1; omega)).symm]
              exact ih trivial
            · refine Ez.blk B_X10_isConsistent_72 (lo' := [some (.ref 93), some (.int (zb (csm I1 n D x k))), some (.int (nI k)), some (.int (nI (sm (fun t => x.2.2.1 (10 * k + t)) n))), some (.int (nI n))]) (st' := [.int (I1 93 22), .int (nI (sm (fun t => x.2.2.1 (10 * k + t)) n))]) (I' := I1) (J' := J1) (Ps := [aO E0 93 10]) rfl o_93 ?_
              refine Ez.n_icmp_ne (off := 15) (tgt := 92) (by decide +kernel) (by decide) (a := (sm (fun t => x.2.2.1 (10 * k + t)) n)) (b := D) rfl h4 (by omega) (by omega) (fun g3 => ?_) (fun g3 => ?_)
              · refine Ez.blk B_X10_isConsistent_92 (lo' := [some (.ref 93), some (.int 0), some (.int (nI k + 1)), some (.int (nI (sm (fun t => x.2.2.1 (10 * k + t)) n))), some (.int (nI n))]) (st' := []) (I' := I1) (J' := J1) (Ps := []) rfl trivial ?_
                rw [show (nI k + 1) = nI (k + 1) from (eq_add (a := k) (b := 1) rfl rfl)]
                refine Ez.drops [3, 4] (lo' := [some (.ref 93), some (.int 0), some (.int (nI (k + 1))), none, none]) rfl ?_
                rw [show (0 : Int32) = zb (csm I1 n D x (k + 1)) from (zb_f (fun q => g3 (q.2 k (by omega)).1.2)).symm]
                exact ih trivial
              · refine Ez.blk B_X10_isConsistent_80 (lo' := [some (.ref 93), some (.int (zb (csm I1 n D x k))), some (.int (nI k)), some (.int (nI (sm (fun t => x.2.2.1 (10 * k + t)) n))), some (.int (nI n))]) (st' := [.int (nI k), .ref 93]) (I' := I1) (J' := J1) (Ps := []) rfl trivial ?_
                refine Ez.callV (As := [.int (nI k)]) (b := 93) (rest := []) kn_X10_hasWrongSuccessor ml_10_263 im_X10_hasWrongSuccessor se_X10_hasWrongSuccessor rfl (by decide +kernel) rfl rfl (Nat.le_of_ble_eq_true rfl) (Nat.le_of_ble_eq_true rfl) o_93 (s_hasW _ I1 J1 k (by omega) (h01 k (by omega))) (fun r I2 J2 hq => ?_)
                obtain ⟨rfl, rfl, rfl⟩ := hq
                refine Ez.if_ne (off := 7) (tgt := 92) (by decide +kernel) (by decide) (fun g4 => ?_) (fun g4 => ?_)
                · refine Ez.blk B_X10_isConsistent_92 (lo' := [some (.ref 93), some (.int 0), some (.int (nI k + 1)), some (.int (nI (sm (fun t => x.2.2.1 (10 * k + t)) n))), some (.int (nI n))]) (st' := []) (I' := I2) (J' := J2) (Ps := []) rfl trivial ?_
                  rw [show (nI k + 1) = nI (k + 1) from (eq_add (a := k) (b := 1) rfl rfl)]
                  refine Ez.drops [3, 4] (lo' := [some (.ref 93), some (.int 0), some (.int (nI (k + 1))), none, none]) rfl ?_
                  rw [show (0 : Int32) = zb (csm I2 n D x (k + 1)) from (zb_f (fun q => g4 (q.2 k (by omega)).2)).symm]
                  exact ih trivial
                · refine Ez.blk B_X10_isConsistent_88 (lo' := [some (.ref 93), some (.int (zb (csm I2 n D x k))), some (.int (nI k)), some (.int (nI (sm (fun t => x.2.2.1 (10 * k + t)) n))), some (.int (nI n))]) (st' := [.int 1]) (I' := I2) (J' := J2) (Ps := []) rfl trivial ?_
                  refine Ez.blk B_X10_isConsistent_93 (lo' := [some (.ref 93), some (.int 1), some (.int (nI k + 1)), some (.int (nI (sm (fun t => x.2.2.1 (10 * k + t)) n))), some (.int (nI n))]) (st' := []) (I' := I2) (J' := J2) (Ps := []) rfl trivial ?_
                  rw [show (nI k + 1) = nI (k + 1) from (eq_add (a := k) (b := 1) rfl rfl)]
                  refine Ez.drops [3, 4] (lo' := [some (.ref 93), some (.int 1), some (.int (nI (k + 1))), none, none]) rfl ?_
                  rw [show (1 : Int32) = zb (csm I2 n D x (k + 1)) from (zb_t ⟨g1.1, fun s hs => by
                    by_cases e : s = k
                    · rw [e]; exact ⟨⟨g2, g3⟩, g4⟩
                    · exact g1.2 s (by omega)⟩).symm]
                  exact ih trivial
        · intro j hj ih2 _
          refine Ez.blk B_X10_isConsistent_28 (lo' := [some (.ref 93), some (.int (zb (csm I1 n D x k))), some (.int (nI k)), some (.int (nI (sm (fun t => x.2.2.1 (10 * k + t)) j))), some (.int (nI j))]) (st' := [.int (I1 93 23), .int (nI j)]) (I' := I1) (J' := J1) (Ps := [aO E0 93 10]) rfl o_93 ?_
          refine Ez.n_icmp_ge (off := 24) (tgt := 58) (by decide +kernel) (by decide) (a := j) (b := n) rfl h3 (by omega) (by omega) (fun h9 => absurd h9 (by omega)) (fun h9 => ?_)
          refine Ez.blk B_X10_isConsistent_37 (lo' := [some (.ref 93), some (.int (zb (csm I1 n D x k))), some (.int (nI k)), some (.int (nI (sm (fun t => x.2.2.1 (10 * k + t)) j) + I1 110 (((10 * nI k) + nI j).toNatClampNeg))), some (.int (nI j + 1))]) (st' := []) (I' := I1) (J' := J1) (Ps := [aO E0 93 10 ∧ E0.2.2 93 25 ≠ 0, aAr E0 1 110 ((10 * nI k) + nI j)]) rfl ⟨r_93_25, (a_110 (vin (n := (10 * k + j)) (eq_add (a := (10 * k)) (b := j) (eq_mul (a := 10) (b := k) rfl rfl) rfl) (by omega) (by decide)))⟩ ?_
          rw [cln (x := ((10 * nI k) + nI j)) (n := (10 * k + j)) (eq_add (a := (10 * k)) (b := j) (eq_mul (a := 10) (b := k) rfl rfl) rfl) (by omega)]
          rw [show (nI (sm (fun t => x.2.2.1 (10 * k + t)) j) + I1 110 (10 * k + j)) = nI (sm (fun t => x.2.2.1 (10 * k + t)) j + (x.2.2.1 (10 * k + j))) from (eq_add (a := (sm (fun t => x.2.2.1 (10 * k + t)) j)) (b := (x.2.2.1 (10 * k + j))) rfl (by first | exact (hw _ (by omega)) | (rw [cln (x := ((10 * nI k) + nI j)) (n := (10 * k + j)) (eq_add (a := (10 * k)) (b := j) (eq_mul (a := 10) (b := k) rfl rfl) rfl) (by omega)]; exact (hw _ (by omega)))))]
          rw [show (nI j + 1) = nI (j + 1) from (eq_add (a := j) (b := 1) rfl rfl)]
          exact ih2 trivial
      exact L2 0 (by omega) trivial
  exact L1 0 (by omega) trivial
/-- the chain while it is written: rows below i, of row i what is below j (m: its label) -/
def pqs (c : Nat → Nat) (n D : Nat) (x : PX) (i j m : Nat) : Nat → Nat := fun k => if k < 4 then stc c n D k else if k < 10 then (if k - 4 < i + m then x.2.1 (k - 4) else 0) else wst n D x i j (k - 10)
theorem pqs_0 {c : Nat → Nat} {n D : Nat} {x : PX} {k : Nat} : pqs c n D x 0 0 0 k = stc c n D k := by
  unfold pqs
  by_cases e : k < 4
  · rw [if_pos e]
  · rw [if_neg e]
    by_cases e2 : k < 10
    · rw [if_pos e2, if_neg (by omega), stc_h (by omega), if_pos e2]
    · rw [if_neg e2, wst_0, stc_h (by omega), if_neg e2]
theorem pqs_end {c : Nat → Nat} {n D : Nat} {x : PX} {k : Nat} (hk : k < 46) : pqs c n D x n 0 0 k = prc c n D x k := by
  unfold pqs
  by_cases e : k < 4
  · rw [if_pos e]
    unfold stc prc
    by_cases e0 : k = 0
    · rw [if_pos e0, if_pos e0]
    · rw [if_neg e0, if_neg e0]
      by_cases e1 : k = 1
      · rw [if_pos e1, if_pos e1]
      · rw [if_neg e1, if_neg e1, if_pos e, if_pos e]
  · rw [if_neg e]
    by_cases e2 : k < 10
    · rw [if_pos e2]
      have := prc_l (c := c) (n := n) (D := D) (x := x) (s := k - 4) (by omega)
      rw [show 4 + (k - 4) = k by omega] at this
      rw [this]
      rfl
    · rw [if_neg e2]
      have := wst_end (c := c) (n := n) (D := D) (x := x) (k := k - 10) (by omega)
      rw [show 10 + (k - 10) = k by omega] at this
      exact this
theorem pqs_lab {c : Nat → Nat} {n D : Nat} {x : PX} {i : Nat} (hi : i < 6) {k : Nat} : pqs c n D x i 0 1 k = cup (pqs c n D x i 0 0) (4 + i) (x.2.1 i) k := by
  by_cases e : k = 4 + i
  · rw [e, cup_eq]
    unfold pqs
    rw [if_neg (by omega), if_pos (by omega), if_pos (by omega), show 4 + i - 4 = i by omega]
  · rw [cup_ne e]
    unfold pqs
    by_cases e1 : k < 4
    · rw [if_pos e1, if_pos e1]
    · rw [if_neg e1, if_neg e1]
      by_cases e2 : k < 10
      · rw [if_pos e2, if_pos e2]
        by_cases e3 : k - 4 < i + 0
        · rw [if_pos e3, if_pos (by omega)]
        · rw [if_neg e3, if_neg (by omega)]
      · rw [if_neg e2, if_neg e2]
theorem pqs_wt {c : Nat → Nat} {n D : Nat} {x : PX} {i j : Nat} (hi : i < n) (hj : j < n) (hn : n ≤ 6) {k : Nat} (hk : k < 46) : pqs c n D x i (j + 1) 1 k = cup (pqs c n D x i j 1) (10 + 6 * i + j) (x.2.2.1 (10 * i + j)) k := by
  unfold pqs
  by_cases e1 : k < 4
  · rw [if_pos e1, cup_ne (by omega), if_pos e1]
  · rw [if_neg e1]
    by_cases e2 : k < 10
    · rw [if_pos e2, cup_ne (by omega), if_neg e1, if_pos e2]
    · rw [if_neg e2, wst_up hj hn hi (by omega)]
      by_cases e : k = 10 + 6 * i + j
      · rw [if_pos (by omega), e, cup_eq]
      · rw [if_neg (by omega), cup_ne e, if_neg e1, if_neg e2]
theorem pqs_nx {c : Nat → Nat} {n D : Nat} {x : PX} {i : Nat} (hn : n ≤ 6) {k : Nat} (hk : k < 46) : pqs c n D x (i + 1) 0 0 k = pqs c n D x i n 1 k := by
  unfold pqs
  by_cases e1 : k < 4
  · rw [if_pos e1, if_pos e1]
  · rw [if_neg e1, if_neg e1]
    by_cases e2 : k < 10
    · rw [if_pos e2, if_pos e2]
    · rw [if_neg e2, if_neg e2, wst_nx hn (by omega)]
theorem m_parse (d : Nat) (I : aI) (J : aJ) (T : TS) (W : WT T) (hP : MP T I J) : Sp m_X10_parse (d + 7) [.ref 93] E0 I J (fun r I' J' => r = some (.int (f_parse T).1) ∧ MP (f_parse T).2 I' J' ∧ Fr1 I I' J J') := by
  refine Sp.of (lo := [some (.ref 93), none, none]) rfl (fun Q hQ => ?_)
  obtain ⟨b, hbb⟩ : ∃ b, b = T.2.2.2.1 := ⟨_, rfl⟩
  have Wb : BW b := by rw [hbb]; exact W.2.2.2.1
  have hb : MBf b I := by rw [hbb]; exact hP.2.2.2.1
  have sz := prs_sz (b := b)
  have po := (prs_ok (b := b)).1.1
  have b80 := Wb.1
  refine Ez.blk B_X10_parse_0 (lo' := [some (.ref 93), none, none]) (st' := [.ref 93]) (I' := I) (J' := J) (Ps := []) rfl trivial ?_
  refine Ez.callV (As := []) (b := 93) (rest := []) kn_X10_parseChain ml_10_266 im_X10_parseChain se_X10_parseChain rfl (by decide +kernel) rfl rfl (Nat.le_of_ble_eq_true rfl) (Nat.le_of_ble_eq_true rfl) o_93 (s_chain _ I J b hb Wb) (fun r I1 J1 hq => ?_)
  obtain ⟨rfl, rfl, k1, k2, k3, k4, k5⟩ := hq
  refine Ez.blk B_X10_parse_4 (lo' := [some (.ref 93), none, none]) (st' := [.int (I1 93 21)]) (I' := I1) (J' := J1) (Ps := [aO E0 93 10]) rfl o_93 ?_
  rw [k2]
  have P : ∀ (I9 : aI) (i : Nat → Nat), (∀ q, q ≠ 93 → q ≠ 109 → q ≠ 110 → q ≠ 111 → I9 q = I q) → I9 93 18 = 0 → (∀ k, k < 20 → k ≠ 18 → I9 93 k = I 93 k) → MP (setB T (0, b.2)) I9 J1 ∧ Fr1 I I9 J1 J1 := fun I9 _ h1 h2 h3 => ⟨⟨MC_fr hP.1 (h1 94 (by decide) (by decide) (by decide) (by decide)), MEd_fr hP.2.1 (h3 2 (by decide) (by decide)) (h1 95 (by decide) (by decide) (by decide) (by decide)), MSn_fr hP.2.2.1 (h3 4 (by decide) (by decide)) (h1 96 (by decide) (by decide) (by decide) (by decide)), ⟨h2, fun i hi => absurd hi (Nat.not_lt_zero _)⟩, MSl_fr hP.2.2.2.2 (h1 112 (by decide) (by decide) (by decide) (by decide)) (h1 113 (by decide) (by decide) (by decide) (by decide)) rfl⟩, fun q hq => ⟨h1 q (by omega) (by omega) (by omega) (by omega), rfl⟩⟩
  refine Ez.z_if_eq (off := 17) (tgt := 25) (by decide +kernel) (by decide) (fun h => ?_) (fun h => ?_)
  · have h := Classical.not_not.mp h
    obtain ⟨e1, e2, e3, e4⟩ := k3 h
    have b1 : MBf b I1 := MBf_fr hb (k5 18 (by decide)) (k4 108 (by decide) (by decide) (by decide))
    have g := g_prs (b := b) h.1
    have hpe : (prs b).2.1.1 = b.1 := by have := h.2; omega
    rw [hpe] at g
    refine Ez.blk B_X10_parse_25 (lo' := [some (.ref 93), none, none]) (st' := [.ref 93]) (I' := I1) (J' := J1) (Ps := []) rfl trivial ?_
    refine Ez.callV (As := []) (b := 93) (rest := []) kn_X10_findWrongSuccessors ml_10_269 im_X10_findWrongSuccessors se_X10_findWrongSuccessors rfl (by decide +kernel) rfl rfl (Nat.le_of_ble_eq_true rfl) (Nat.le_of_ble_eq_true rfl) o_93 (s_wrong _ I1 J1 b b1 Wb (prs b).1 (prs b).2.2.2.2 sz e2 g) (fun r I2 J2 hq => ?_)
    obtain ⟨rfl, rfl, m1, m2, m3⟩ := hq
    refine Ez.blk B_X10_parse_29 (lo' := [some (.ref 93), none, none]) (st' := [.ref 93]) (I' := (aUp I2 93 18 0)) (J' := J2) (Ps := [aO E0 93 10]) rfl o_93 ?_
    generalize hI3 : (aUp I2 93 18 0) = I3
    have n9 : ∀ q, q ≠ 93 → I3 q = I2 q := fun q hq => by rw [← hI3, aUp_ne hq]
    have n3 : ∀ k, k ≠ 18 → I3 93 k = I1 93 k := fun k hk => by rw [← hI3, aUp_nk hk, m3 93 (by decide)]
    have n18 : I3 93 18 = 0 := by rw [← hI3, aUp_eq]
    have f3 : ∀ q, q ≠ 93 → q ≠ 109 → q ≠ 110 → q ≠ 111 → I3 q = I q := fun q h0 h1 h2 h4 => by rw [n9 q h0, m3 q h4]; exact k4 q h0 h1 h2
    have f4 : ∀ k, k < 20 → k ≠ 18 → I3 93 k = I 93 k := fun k hk h18 => by rw [n3 k h18]; exact k5 k hk
    have w3 : WtM I3 (prs b).1 (prs b).2 := fun k hk => by rw [n9 110 (by decide), m3 110 (by decide)]; exact e3 k hk
    have l3 : LbM I3 (prs b).1 (prs b).2 := fun k hk => by rw [n9 109 (by decide), m3 109 (by decide)]; exact e4 k hk
    have s3 : I3 93 23 = nI (prs b).1 := by rw [n3 23 (by decide)]; exact e2
    have d3 : I3 93 22 = nI (prD b) := by rw [n3 22 (by decide)]; exact e1
    have hD : prD b ≤ 99 := (pn_ok ⟨Nat.zero_le _, Nat.zero_le _⟩).2
    refine Ez.callV (As := []) (b := 93) (rest := []) kn_X10_isConsistent ml_10_272 im_X10_isConsistent se_X10_isConsistent rfl (by decide +kernel) rfl rfl (Nat.le_of_ble_eq_true rfl) (Nat.le_of_ble_eq_true rfl) o_93 (s_csnM _ I3 J2 (prs b).1 (prD b) (prs b).2 sz hD s3 d3 w3 (prs_W Wb) l3 prs_lb (fun s hs => by rw [n9 111 (by decide)]; exact m1 s hs) (by rw [n9 111 (by decide)]; exact m2)) (fun r I4 J4 hq => ?_)
    obtain ⟨rfl, rfl, rfl⟩ := hq
    refine Ez.z_if_ne (off := 6) (tgt := 44) (by decide +kernel) (by decide) (fun hc => ?_) (fun hc => ?_)
    · refine Ez.blk B_X10_parse_44 (lo' := [some (.ref 93), none, none]) (st' := [.int (I4 93 22), .int (I4 93 23), .ref 93]) (I' := I4) (J' := J4) (Ps := [aO E0 93 10, aO E0 93 10]) rfl ⟨o_93, o_93⟩ ?_
      rw [s3]
      rw [d3]
      refine Ez.callV (As := [.int (nI ((prs b).1)), .int (nI (prD b))]) (b := 93) (rest := []) kn_X10_initialize ml_10_77 im_X10_initialize se_X10_initialize rfl (by decide +kernel) rfl rfl (Nat.le_of_ble_eq_true rfl) (Nat.le_of_ble_eq_true rfl) o_93 (s_init _ I4 J4 T.1 (MC_fr hP.1 (f3 94 (by decide) (by decide) (by decide) (by decide))) (prs b).1 (prD b) sz.2) (fun r I5 J5 hq => ?_)
      obtain ⟨rfl, rfl, a1, a2, a3, a4⟩ := hq
      obtain ⟨n, hn⟩ : ∃ n, n = (prs b).1 := ⟨_, rfl⟩
      obtain ⟨x, hx⟩ : ∃ x, x = (prs b).2 := ⟨_, rfl⟩
      obtain ⟨D, hDD⟩ : ∃ D, D = prD b := ⟨_, rfl⟩
      rw [← hn] at sz a1
      rw [← hDD] at a1
      have s5 : I5 93 23 = nI n := by rw [a3 23 (by decide), hn]; exact s3
      have w5 : WtM I5 n x := fun k hk => by rw [a4 110 (by decide) (by decide), hx]; exact w3 k (by rw [← hn]; exact hk)
      have l5 : LbM I5 n x := fun k hk => by rw [a4 109 (by decide) (by decide), hx]; exact l3 k (by rw [← hn]; exact hk)
      refine Ez.blk B_X10_parse_56 (lo' := [some (.ref 93), some (.int 0), none]) (st' := []) (I' := I5) (J' := J5) (Ps := []) rfl trivial ?_
      have L1 : ∀ i, i ≤ n → ∀ (I6 : aI), (MC (pqs T.1 n D x i 0 0) I6 ∧ ∀ q, q ≠ 94 → I6 q = I5 q) → Ez m_X10_parse (d + 7) 58 [some (.ref 93), some (.int (nI i)), none] [] E0 I6 J5 Q := by
        refine for_up ?_ ?_
        · intro I6 hi
          obtain ⟨i1, i2⟩ := hi
          have s6 : I6 93 23 = nI n := by rw [i2 93 (by decide)]; exact s5
          refine Ez.blk B_X10_parse_58 (lo' := [some (.ref 93), some (.int (nI n)), none]) (st' := [.int (I6 93 23), .int (nI n)]) (I' := I6) (J' := J5) (Ps := [aO E0 93 10]) rfl o_93 ?_
          refine Ez.n_icmp_ge (off := 56) (tgt := 119) (by decide +kernel) (by decide) (a := n) (b := n) rfl s6 (by omega) (by omega) (fun h9 => ?_) (fun h9 => absurd h9 (by omega))
          refine Ez.blk B_X10_parse_119 (lo' := [some (.ref 93), some (.int (nI n)), none]) (st' := [.int (I6 93 23)]) (I' := I6) (J' := J5) (Ps := [aO E0 93 10]) rfl o_93 ?_
          rw [s6]
          exact Ez.iret rfl (by decide +kernel) (hQ _ _ _ (by
            have ok : prok T.2.2.2.1 ∧ csn (prs T.2.2.2.1).1 (prD T.2.2.2.1) (prs T.2.2.2.1).2 := by rw [← hbb]; exact ⟨h, hc⟩
            rw [f_parse_1, f_parse_yes ok, ← hbb, ← hn, ← hx, ← hDD]
            refine ⟨by unfold rdA; rw [if_pos h, if_pos hc, hn], ⟨MC_ext i1 (fun k hk => (pqs_end hk).symm), ⟨by rw [i2 93 (by decide)]; exact a2, fun i hi => absurd hi (Nat.not_lt_zero _)⟩, MSn_fr hP.2.2.1 (by rw [i2 93 (by decide), a3 4 (by decide)]; exact f4 4 (by decide) (by decide)) (by rw [i2 96 (by decide), a4 96 (by decide) (by decide)]; exact f3 96 (by decide) (by decide) (by decide) (by decide)), ⟨by rw [i2 93 (by decide), a3 18 (by decide)]; exact n18, fun i hi => absurd hi (Nat.not_lt_zero _)⟩, MSl_fr hP.2.2.2.2 (by rw [i2 112 (by decide), a4 112 (by decide) (by decide)]; exact f3 112 (by decide) (by decide) (by decide) (by decide)) (by rw [i2 113 (by decide), a4 113 (by decide) (by decide)]; exact f3 113 (by decide) (by decide) (by decide) (by decide)) rfl⟩, fun q hq => ⟨by rw [i2 q (by omega), a4 q (by omega) (by omega)]; exact f3 q (by omega) (by omega) (by omega) (by omega), rfl⟩⟩))
        · intro i hin ih I6 hi
          obtain ⟨i1, i2⟩ := hi
          have s6 : I6 93 23 = nI n := by rw [i2 93 (by decide)]; exact s5
          have li : I6 109 i = nI (x.2.1 i) := by rw [i2 109 (by decide)]; exact l5 i hin
          refine Ez.blk B_X10_parse_58 (lo' := [some (.ref 93), some (.int (nI i)), none]) (st' := [.int (I6 93 23), .int (nI i)]) (I' := I6) (J' := J5) (Ps := [aO E0 93 10]) rfl o_93 ?_
          refine Ez.n_icmp_ge (off := 56) (tgt := 119) (by decide +kernel) (by decide) (a := i) (b := n) rfl s6 (by omega) (by omega) (fun h9 => absurd h9 (by omega)) (fun h9 => ?_)
          refine Ez.blk B_X10_parse_66 (lo' := [some (.ref 93), some (.int (nI i)), some (.int 0)]) (st' := []) (I' := (aUp I6 94 ((4 + nI i).toNatClampNeg) (I6 109 ((nI i).toNatClampNeg)))) (J' := J5) (Ps := [aO E0 93 10 ∧ E0.2.2 93 0 ≠ 0, aO E0 93 10 ∧ E0.2.2 93 24 ≠ 0, aAr E0 1 109 (nI i), aAr E0 1 94 (4 + nI i)]) rfl ⟨r_93_0, r_93_24, (a_109 (vin (n := i) rfl (by omega) (by decide))), (a_94 (vin (n := (4 + i)) (eq_add (a := 4) (b := i) rfl rfl) (by omega) (by decide)))⟩ ?_
          rw [cln (x := nI i) (n := i) rfl (by omega)]
          rw [cln (x := (4 + nI i)) (n := (4 + i)) (eq_add (a := 4) (b := i) rfl rfl) (by omega)]
          rw [li]
          generalize hI7 : (aUp I6 94 (4 + i) (nI (x.2.1 i))) = I7
          have c7 : MC (pqs T.1 n D x i 0 1) I7 := by rw [← hI7]; exact MC_ext (MC_up i1) (fun k hk => pqs_lab (by omega))
          have m7 : ∀ q, q ≠ 94 → I7 q = I5 q := fun q hq => by rw [← hI7, aUp_ne hq]; exact i2 q hq
          have L2 : ∀ j, j ≤ n → ∀ (I8 : aI), (MC (pqs T.1 n D x i j 1) I8 ∧ ∀ q, q ≠ 94 → I8 q = I5 q) → Ez m_X10_parse (d + 7) 82 [some (.ref 93), some (.int (nI i)), some (.int (nI j))] [] E0 I8 J5 Q := by
            refine for_up ?_ ?_
            · intro I8 hj
              have s8 : I8 93 23 = nI n := by rw [hj.2 93 (by decide)]; exact s5
              refine Ez.blk B_X10_parse_82 (lo' := [some (.ref 93), some (.int (nI i)), some (.int (nI n))]) (st' := [.int (I8 93 23), .int (nI n)]) (I' := I8) (J' := J5) (Ps := [aO E0 93 10]) rfl o_93 ?_
              refine Ez.n_icmp_ge (off := 26) (tgt := 113) (by decide +kernel) (by decide) (a := n) (b := n) rfl s8 (by omega) (by omega) (fun h8 => ?_) (fun h8 => absurd h8 (by omega))
              refine Ez.blk B_X10_parse_113 (lo' := [some (.ref 93), some (.int (nI i + 1)), some (.int (nI n))]) (st' := []) (I' := I8) (J' := J5) (Ps := []) rfl trivial ?_
              rw [show (nI i + 1) = nI (i + 1) from (eq_add (a := i) (b := 1) rfl rfl)]
              refine Ez.drops [2] (lo' := [some (.ref 93), some (.int (nI (i + 1))), none]) rfl ?_
              exact ih I8 ⟨MC_ext hj.1 (fun k hk => pqs_nx sz.2 hk), hj.2⟩
            · intro j hjn ih2 I8 hj
              have s8 : I8 93 23 = nI n := by rw [hj.2 93 (by decide)]; exact s5
              refine Ez.blk B_X10_parse_82 (lo' := [some (.ref 93), some (.int (nI i)), some (.int (nI j))]) (st' := [.int (I8 93 23), .int (nI j)]) (I' := I8) (J' := J5) (Ps := [aO E0 93 10]) rfl o_93 ?_
              refine Ez.n_icmp_ge (off := 26) (tgt := 113) (by decide +kernel) (by decide) (a := j) (b := n) rfl s8 (by omega) (by omega) (fun h8 => absurd h8 (by omega)) (fun h8 => ?_)
              refine Ez.blk B_X10_parse_90 (lo' := [some (.ref 93), some (.int (nI i)), some (.int (nI j))]) (st' := [.int (I8 110 (((10 * nI i) + nI j).toNatClampNeg)), .int (nI j), .int (nI i), .ref 93]) (I' := I8) (J' := J5) (Ps := [aO E0 93 10 ∧ E0.2.2 93 25 ≠ 0, aAr E0 1 110 ((10 * nI i) + nI j)]) rfl ⟨r_93_25, (a_110 (vin (n := (10 * i + j)) (eq_add (a := (10 * i)) (b := j) (eq_mul (a := 10) (b := i) rfl rfl) rfl) (by omega) (by decide)))⟩ ?_
              rw [cln (x := ((10 * nI i) + nI j)) (n := (10 * i + j)) (eq_add (a := (10 * i)) (b := j) (eq_mul (a := 10) (b := i) rfl rfl) rfl) (by omega)]
              rw [show I8 110 (10 * i + j) = nI (x.2.2.1 (10 * i + j)) by rw [hj.2 110 (by decide)]; exact w5 _ (by omega)]
              refine Ez.callV (As := [.int (nI i), .int (nI j), .int (nI (x.2.2.1 (10 * i + j)))]) (b := 93) (rest := []) kn_X10_setWeight ml_10_85 im_X10_setWeight se_X10_setWeight rfl (by decide +kernel) rfl rfl (Nat.le_of_ble_eq_true rfl) (Nat.le_of_ble_eq_true rfl) o_93 (s_setW _ I8 J5 i j (by omega) (by omega) (nI (x.2.2.1 (10 * i + j)))) (fun r I9 J9 hq => ?_)
              obtain ⟨rfl, e9, rfl⟩ := hq
              refine Ez.blk B_X10_parse_107 (lo' := [some (.ref 93), some (.int (nI i)), some (.int (nI j + 1))]) (st' := []) (I' := I9) (J' := J9) (Ps := []) rfl trivial ?_
              rw [show (nI j + 1) = nI (j + 1) from (eq_add (a := j) (b := 1) rfl rfl)]
              exact ih2 I9 ⟨by rw [e9]; exact MC_ext (MC_up hj.1) (fun k hk => pqs_wt hin hjn sz.2 hk), fun q hq => by rw [e9, aUp_ne hq]; exact hj.2 q hq⟩
          exact L2 0 (by omega) I7 ⟨c7, m7⟩
      exact L1 0 (by omega) I5 ⟨MC_ext a1 (fun k hk => pqs_0), fun _ _ => rfl⟩
    · refine Ez.blk B_X10_parse_41 (lo' := [some (.ref 93), none, none]) (st' := [.int (-8)]) (I' := I4) (J' := J4) (Ps := []) rfl trivial ?_
      exact Ez.iret rfl (by decide +kernel) (hQ _ _ _ (by
        rw [f_parse_1, f_parse_no (fun q => hc (by rw [hbb]; exact q.2)), ← hbb]
        exact ⟨by unfold rdA; rw [if_pos h, if_neg hc], P I4 id f3 n18 f4⟩))
  · refine Ez.blk B_X10_parse_11 (lo' := [some (.ref 93), none, none]) (st' := [.int ((-1000) - I1 93 20)]) (I' := (aUp I1 93 18 0)) (J' := J1) (Ps := [aO E0 93 10, aO E0 93 10]) rfl ⟨o_93, o_93⟩ ?_
    rw [k1]
    generalize hI2 : (aUp I1 93 18 0) = I2
    exact Ez.iret rfl (by decide +kernel) (hQ _ _ _ (by
      rw [f_parse_1, f_parse_no (fun q => h (by rw [hbb]; exact q.1)), ← hbb]
      exact ⟨by unfold rdA; rw [if_neg h], P I2 id (fun q h0 h1 h2 _ => by rw [← hI2, aUp_ne h0]; exact k4 q h0 h1 h2) (by rw [← hI2, aUp_eq]) (fun k hk h18 => by rw [← hI2, aUp_nk h18]; exact k5 k hk)⟩))

/-! THE REFERENCE: transport, the search -/
def cm (x : Nat) : Int32 := if x = 99 then -7 else nI x
theorem cm_n {x : Nat} (h : x < 99) : cm x = nI x := by unfold cm; rw [if_neg (by omega)]
theorem cm_9 : cm 99 = -7 := rfl
abbrev SR (n : Nat) (I : aI) (J : aJ) (S : RS) : Prop := (∀ v, v < 2 * n → J 102 v = zL (S.1 v)) ∧ ∀ v, v < 2 * n → I 103 v = cm (S.2.1 v)
def MT (n : Nat) (dd : Nat → Nat → Nat) (F : Nat → Nat) (fx : Nat → Nat → Bool) (I : aI) (J : aJ) : Prop := I 94 0 = nI n ∧ (∀ i j, i < n → j < n → J 98 (6 * i + j) = lN (dd i j) ∧ dd i j ≤ 1000000000000000) ∧ (∀ q, q < 36 → I 100 q = nI (F q)) ∧ ∀ i j, i < n → j < n → I 101 (6 * i + j) = zb (fx i j = true)
theorem MT_fr {n : Nat} {dd : Nat → Nat → Nat} {F : Nat → Nat} {fx : Nat → Nat → Bool} {I I' : aI} {J J' : aJ} (h : MT n dd F fx I J) (h0 : I' 94 = I 94) (h1 : J' 98 = J 98) (h2 : I' 100 = I 100) (h3 : I' 101 = I 101) : MT n dd F fx I' J' := ⟨by rw [h0]; exact h.1, fun i j hi hj => by rw [h1]; exact h.2.1 i j hi hj, fun q hq => by rw [h2]; exact h.2.2.1 q hq, fun i j hi hj => by rw [h3]; exact h.2.2.2 i j hi hj⟩
theorem s_d (d : Nat) (I : aI) (J : aJ) (n : Nat) (dd : Nat → Nat → Nat) (hn : n ≤ 6) (hd : ∀ i j, i < n → j < n → J 98 (6 * i + j) = lN (dd i j) ∧ dd i j ≤ 1000000000000000) (i j : Nat) (hi : i < n) (hj : j < n) : Sp m_X10_d (d + 1) [.ref 93, .int (nI i), .int (nI j)] E0 I J (fun r I' J' => r = some (.long (zL (dd i j : Int))) ∧ I' = I ∧ J' = J) := by
  refine Sp.of (lo := [some (.ref 93), some (.int (nI i)), some (.int (nI j))]) rfl (fun Q hQ => ?_)
  refine Ez.blk B_X10_d_0 (lo' := [some (.ref 93), some (.int (nI i)), some (.int (nI j))]) (st' := [.long (J 98 (((6 * nI i) + nI j).toNatClampNeg))]) (I' := I) (J' := J) (Ps := [aO E0 93 10 ∧ E0.2.2 93 6 ≠ 0, aAr E0 2 98 ((6 * nI i) + nI j)]) rfl ⟨r_93_6, (a_98 (vin (n := (6 * i + j)) (eq_add (a := (6 * i)) (b := j) (eq_mul (a := 6) (b := i) rfl rfl) rfl) (by omega) (by decide)))⟩ ?_
  rw [cln (x := ((6 * nI i) + nI j)) (n := (6 * i + j)) (eq_add (a := (6 * i)) (b := j) (eq_mul (a := 6) (b := i) rfl rfl) rfl) (by omega)]
  rw [(hd i j hi hj).1, lN_z]
  exact Ez.lret rfl (by decide +kernel) (hQ _ _ _ ⟨rfl, rfl, rfl⟩)
theorem s_f (d : Nat) (I : aI) (J : aJ) (F : Nat → Nat) (hF : ∀ q, q < 36 → I 100 q = nI (F q)) (i j : Nat) (hi : i < 6) (hj : j < 6) : Sp m_X10_f (d + 1) [.ref 93, .int (nI i), .int (nI j)] E0 I J (fun r I' J' => r = some (.int (nI (F (i * 6 + j)))) ∧ I' = I ∧ J' = J) := by
  refine Sp.of (lo := [some (.ref 93), some (.int (nI i)), some (.int (nI j))]) rfl (fun Q hQ => ?_)
  refine Ez.blk B_X10_f_0 (lo' := [some (.ref 93), some (.int (nI i)), some (.int (nI j))]) (st' := [.int (I 100 (((6 * nI i) + nI j).toNatClampNeg))]) (I' := I) (J' := J) (Ps := [aO E0 93 10 ∧ E0.2.2 93 8 ≠ 0, aAr E0 1 100 ((6 * nI i) + nI j)]) rfl ⟨r_93_8, (a_100 (vin (n := (6 * i + j)) (eq_add (a := (6 * i)) (b := j) (eq_mul (a := 6) (b := i) rfl rfl) rfl) (by omega) (by decide)))⟩ ?_
  rw [cln (x := ((6 * nI i) + nI j)) (n := (6 * i + j)) (eq_add (a := (6 * i)) (b := j) (eq_mul (a := 6) (b := i) rfl rfl) rfl) (by omega)]
  rw [hF _ (by omega), show 6 * i + j = i * 6 + j by omega]
  exact Ez.iret rfl (by decide +kernel) (hQ _ _ _ ⟨rfl, rfl, rfl⟩)
theorem s_relax (d : Nat) (I : aI) (J : aJ) (n : Nat) (dd : Nat → Nat → Nat) (F : Nat → Nat) (fx : Nat → Nat → Bool) (hT : MT n dd F fx I J) (hn : 1 ≤ n ∧ n ≤ 6) (hFb : ∀ q, q < 36 → F q ≤ 100) (S0 : RS) (hS : SR n I J S0) (hch : S0.2.2 = 99) (lo : Int) (hB : Bnd n lo S0) (hlo : -3000000000000000000 ≤ lo) : Sp m_X10_relax (d + 2) [.ref 93] E0 I J (fun r I' J' => r = some (.int (cm (ral n dd F fx n S0).2.2)) ∧ SR n I' J' (ral n dd F fx n S0) ∧ (∀ q, q ≠ 103 → I' q = I q) ∧ ∀ q, q ≠ 102 → J' q = J q) := by
  refine Sp.of (lo := [some (.ref 93), none, none, none, none]) rfl (fun Q hQ => ?_)
  have hd : ∀ i j, i < n → j < n → dd i j ≤ 1000000000000000 := fun i j hi hj => (hT.2.1 i j hi hj).2
  have hN : (NOR : Int) = 2305843009213693951 := rfl
  have eN : (2305843009213693951 : Int64) = zL NOR := rfl
  have L1 : ∀ i, i ≤ n → ∀ (I1 : aI) (J1 : aJ), (SR n I1 J1 (ral n dd F fx i S0) ∧ (∀ q, q ≠ 103 → I1 q = I q) ∧ ∀ q, q ≠ 102 → J1 q = J q) → Ez m_X10_relax (d + 2) 12 [some (.ref 93), some (.int (nI n)), some (.int (cm (ral n dd F fx i S0).2.2)), some (.int (nI i)), none] [] E0 I1 J1 Q := by
    refine for_up ?_ ?_
    · intro I1 J1 hi
      refine Ez.blk B_X10_relax_12 (lo' := [some (.ref 93), some (.int (nI n)), some (.int (cm (ral n dd F fx n S0).2.2)), some (.int (nI n)), none]) (st' := [.int (nI n), .int (nI n)]) (I' := I1) (J' := J1) (Ps := []) rfl trivial ?_
      refine Ez.n_icmp_ge (off := 208) (tgt := 222) (by decide +kernel) (by decide) (a := n) (b := n) rfl rfl (by omega) (by omega) (fun h => ?_) (fun h => absurd h (by omega))
      refine Ez.blk B_X10_relax_222 (lo' := [some (.ref 93), some (.int (nI n)), some (.int (cm (ral n dd F fx n S0).2.2)), some (.int (nI n)), none]) (st' := [.int (cm (ral n dd F fx n S0).2.2)]) (I' := I1) (J' := J1) (Ps := []) rfl trivial ?_
      exact Ez.iret rfl (by decide +kernel) (hQ _ _ _ ⟨rfl, hi⟩)
    · intro i hin ih I1 J1 hi
      refine Ez.blk B_X10_relax_12 (lo' := [some (.ref 93), some (.int (nI n)), some (.int (cm (ral n dd F fx i S0).2.2)), some (.int (nI i)), none]) (st' := [.int (nI n), .int (nI i)]) (I' := I1) (J' := J1) (Ps := []) rfl trivial ?_
      refine Ez.n_icmp_ge (off := 208) (tgt := 222) (by decide +kernel) (by decide) (a := i) (b := n) rfl rfl (by omega) (by omega) (fun h => absurd h (by omega)) (fun h => ?_)
      refine Ez.blk B_X10_relax_17 (lo' := [some (.ref 93), some (.int (nI n)), some (.int (cm (ral n dd F fx i S0).2.2)), some (.int (nI i)), some (.int 0)]) (st' := []) (I' := I1) (J' := J1) (Ps := []) rfl trivial ?_
      have L2 : ∀ j, j ≤ n → ∀ (I2 : aI) (J2 : aJ), (SR n I2 J2 (rrw n dd F fx i j (ral n dd F fx i S0)) ∧ (∀ q, q ≠ 103 → I2 q = I q) ∧ ∀ q, q ≠ 102 → J2 q = J q) → Ez m_X10_relax (d + 2) 20 [some (.ref 93), some (.int (nI n)), some (.int (cm (rrw n dd F fx i j (ral n dd F fx i S0)).2.2)), some (.int (nI i)), some (.int (nI j))] [] E0 I2 J2 Q := by
        refine for_up ?_ ?_
        · intro I2 J2 hj
          refine Ez.blk B_X10_relax_20 (lo' := [some (.ref 93), some (.int (nI n)), some (.int (cm (rrw n dd F fx i n (ral n dd F fx i S0)).2.2)), some (.int (nI i)), some (.int (nI n))]) (st' := [.int (nI n), .int (nI n)]) (I' := I2) (J' := J2) (Ps := []) rfl trivial ?_
          refine Ez.n_icmp_ge (off := 193) (tgt := 216) (by decide +kernel) (by decide) (a := n) (b := n) rfl rfl (by omega) (by omega) (fun h9 => ?_) (fun h9 => absurd h9 (by omega))
          refine Ez.blk B_X10_relax_216 (lo' := [some (.ref 93), some (.int (nI n)), some (.int (cm (rrw n dd F fx i n (ral n dd F fx i S0)).2.2)), some (.int (nI i + 1)), some (.int (nI n))]) (st' := []) (I' := I2) (J' := J2) (Ps := []) rfl trivial ?_
          rw [show (nI i + 1) = nI (i + 1) from (eq_add (a := i) (b := 1) rfl rfl)]
          refine Ez.drops [4] (lo' := [some (.ref 93), some (.int (nI n)), some (.int (cm (rrw n dd F fx i n (ral n dd F fx i S0)).2.2)), some (.int (nI (i + 1))), none]) rfl ?_
          exact ih I2 J2 hj
        · intro j hjn ih2 I2 J2 hj
          obtain ⟨⟨s1, s2⟩, f1, f2⟩ := hj
          have bS := bij_at (F := F) (fx := fx) hn.2 hd hB hin (show j ≤ n by omega)
          have hnx : rrw n dd F fx i (j + 1) (ral n dd F fx i S0) = cel n dd F fx i j (rrw n dd F fx i j (ral n dd F fx i S0)) := rfl
          generalize rrw n dd F fx i j (ral n dd F fx i S0) = S at s1 s2 bS hnx ⊢
          rw [hnx] at ih2
          have hdij := hd i j hin hjn
          have T2 : MT n dd F fx I2 J2 := MT_fr hT (f1 94 (by decide)) (f2 98 (by decide)) (f1 100 (by decide)) (f1 101 (by decide))
          have fij := T2.2.2.2 i j hin hjn
          have bi := bS i (by omega)
          have bj := bS (n + j) (by omega)
          have LE : ∀ (I6 : aI) (J6 : aJ) (S2 : RS), cel n dd F fx i j S = S2 → SR n I6 J6 S2 → (∀ q, q ≠ 103 → I6 q = I q) → (∀ q, q ≠ 102 → J6 q = J q) → Ez m_X10_relax (d + 2) 210 [some (.ref 93), some (.int (nI n)), some (.int (cm S2.2.2)), some (.int (nI i)), some (.int (nI j))] [] E0 I6 J6 Q := by
            intro I6 J6 S2 e1 e2 e3 e4
            refine Ez.blk B_X10_relax_210 (lo' := [some (.ref 93), some (.int (nI n)), some (.int (cm S2.2.2)), some (.int (nI i)), some (.int (nI j + 1))]) (st' := []) (I' := I6) (J' := J6) (Ps := []) rfl trivial ?_
            rw [show (nI j + 1) = nI (j + 1) from (eq_add (a := j) (b := 1) rfl rfl)]
            rw [← e1]
            exact ih2 I6 J6 ⟨by rw [e1]; exact e2, e3, e4⟩
          have LB : fx i j = false → ∀ (I5 : aI) (J5 : aJ) (S1 : RS), astp i (n + j) (dd i j : Int) S = S1 → SR n I5 J5 S1 → (∀ q, q ≠ 103 → I5 q = I q) → (∀ q, q ≠ 102 → J5 q = J q) → Ez m_X10_relax (d + 2) 126 [some (.ref 93), some (.int (nI n)), some (.int (cm S1.2.2)), some (.int (nI i)), some (.int (nI j))] [.int (nI j), .int (nI i), .ref 93] E0 I5 J5 Q := by
            intro hfx I5 J5 S1 e1 e2 e3 e4
            have T5 : MT n dd F fx I5 J5 := MT_fr hT (e3 94 (by decide)) (e4 98 (by decide)) (e3 100 (by decide)) (e3 101 (by decide))
            have b1 : Bnd n (lo - 73000000000000000) S1 := by rw [← e1]; exact Bnd_le (astp_bd (by omega) (by omega) bS) (by omega)
            have ci := b1 i (by omega)
            have cj := b1 (n + j) (by omega)
            have fb := hFb (i * 6 + j) (by omega)
            have fxn : ¬ fx i j = true := by rw [hfx]; decide
            refine Ez.callV (As := [.int (nI i), .int (nI j)]) (b := 93) (rest := []) kn_X10_f ml_10_141 im_X10_f se_X10_f rfl (by decide +kernel) rfl rfl (Nat.le_of_ble_eq_true rfl) (Nat.le_of_ble_eq_true rfl) o_93 (s_f _ I5 J5 F T5.2.2.1 i j (by omega) (by omega)) (fun r I6 J6 hq => ?_)
            obtain ⟨rfl, rfl, rfl⟩ := hq
            refine Ez.n_if_le (off := 81) (tgt := 210) (by decide +kernel) (by decide) (a := (F (i * 6 + j))) rfl (by omega) (fun g1 => ?_) (fun g1 => ?_)
            · exact LE I6 J6 S1 (by unfold cel; rw [if_neg fxn, if_neg (by omega), e1]) e2 e3 e4
            · refine Ez.blk B_X10_relax_132 (lo' := [some (.ref 93), some (.int (nI n)), some (.int (cm S1.2.2)), some (.int (nI i)), some (.int (nI j))]) (st' := [.int (lg_cmp (J6 102 ((nI n + nI j).toNatClampNeg)) 2305843009213693951)]) (I' := I6) (J' := J6) (Ps := [aO E0 93 10 ∧ E0.2.2 93 10 ≠ 0, aAr E0 2 102 (nI n + nI j)]) rfl ⟨r_93_10, (a_102 (vin (n := (n + j)) (eq_add (a := n) (b := j) rfl rfl) (by omega) (by decide)))⟩ ?_
              rw [cln (x := (nI n + nI j)) (n := (n + j)) (eq_add (a := n) (b := j) rfl rfl) (by omega)]
              rw [e2.1 (n + j) (by omega), eN]
              refine Ez.lif_ge (off := 65) (tgt := 210) (by decide +kernel) (by decide) (fun g2 => ?_) (fun g2 => ?_)
              · have g2 : NOR ≤ S1.1 (n + j) := (zL_le (by omega) (by omega)).mp g2
                exact LE I6 J6 S1 (by unfold cel; rw [if_neg fxn, if_pos g1, e1]; unfold astp; rw [if_neg (fun q => by omega)]) e2 e3 e4
              · have g2 : S1.1 (n + j) < NOR := by have := mt (zL_le (a := NOR) (b := S1.1 (n + j)) (by omega) (by omega)).mpr g2; omega
                refine Ez.blk B_X10_relax_148 (lo' := [some (.ref 93), some (.int (nI n)), some (.int (cm S1.2.2)), some (.int (nI i)), some (.int (nI j))]) (st' := [.int (nI j), .int (nI i), .ref 93, .long (J6 102 ((nI n + nI j).toNatClampNeg))]) (I' := I6) (J' := J6) (Ps := [aO E0 93 10 ∧ E0.2.2 93 10 ≠ 0, aAr E0 2 102 (nI n + nI j)]) rfl ⟨r_93_10, (a_102 (vin (n := (n + j)) (eq_add (a := n) (b := j) rfl rfl) (by omega) (by decide)))⟩ ?_
                rw [cln (x := (nI n + nI j)) (n := (n + j)) (eq_add (a := n) (b := j) rfl rfl) (by omega)]
                rw [e2.1 (n + j) (by omega)]
                refine Ez.callV (As := [.int (nI i), .int (nI j)]) (b := 93) (rest := [.long (zL (S1.1 (n + j)))]) kn_X10_d ml_10_138 im_X10_d se_X10_d rfl (by decide +kernel) rfl rfl (Nat.le_of_ble_eq_true rfl) (Nat.le_of_ble_eq_true rfl) o_93 (s_d _ I6 J6 n dd hn.2 T5.2.1 i j hin hjn) (fun r I7 J7 hq => ?_)
                obtain ⟨rfl, rfl, rfl⟩ := hq
                refine Ez.blk B_X10_relax_164 (lo' := [some (.ref 93), some (.int (nI n)), some (.int (cm S1.2.2)), some (.int (nI i)), some (.int (nI j))]) (st' := [.int (lg_cmp ((zL (S1.1 (n + j))) - (zL (dd i j : Int))) (J7 102 ((nI i).toNatClampNeg)))]) (I' := I7) (J' := J7) (Ps := [aO E0 93 10 ∧ E0.2.2 93 10 ≠ 0, aAr E0 2 102 (nI i)]) rfl ⟨r_93_10, (a_102 (vin (n := i) rfl (by omega) (by decide)))⟩ ?_
                rw [cln (x := nI i) (n := i) rfl (by omega)]
                rw [zL_sub, e2.1 i (by omega)]
                refine Ez.lif_ge (off := 38) (tgt := 210) (by decide +kernel) (by decide) (fun g3 => ?_) (fun g3 => ?_)
                · have g3 : S1.1 i ≤ S1.1 (n + j) - (dd i j : Int) := (zL_le (by omega) (by omega)).mp g3
                  exact LE I7 J7 S1 (by unfold cel; rw [if_neg fxn, if_pos g1, e1]; unfold astp; rw [if_neg (fun q => by omega)]) e2 e3 e4
                · have g3 : S1.1 (n + j) - (dd i j : Int) < S1.1 i := by have := mt (zL_le (a := S1.1 i) (b := S1.1 (n + j) - (dd i j : Int)) (by omega) (by omega)).mpr g3; omega
                  refine Ez.blk B_X10_relax_175 (lo' := [some (.ref 93), some (.int (nI n)), some (.int (cm S1.2.2)), some (.int (nI i)), some (.int (nI j))]) (st' := [.int (nI j), .int (nI i), .ref 93, .long (J7 102 ((nI n + nI j).toNatClampNeg)), .int (nI i), .ref 102]) (I' := I7) (J' := J7) (Ps := [aO E0 93 10 ∧ E0.2.2 93 10 ≠ 0, aO E0 93 10 ∧ E0.2.2 93 10 ≠ 0, aAr E0 2 102 (nI n + nI j)]) rfl ⟨r_93_10, r_93_10, (a_102 (vin (n := (n + j)) (eq_add (a := n) (b := j) rfl rfl) (by omega) (by decide)))⟩ ?_
                  rw [cln (x := (nI n + nI j)) (n := (n + j)) (eq_add (a := n) (b := j) rfl rfl) (by omega)]
                  rw [e2.1 (n + j) (by omega)]
                  refine Ez.callV (As := [.int (nI i), .int (nI j)]) (b := 93) (rest := [.long (zL (S1.1 (n + j))), .int (nI i), .ref 102]) kn_X10_d ml_10_138 im_X10_d se_X10_d rfl (by decide +kernel) rfl rfl (Nat.le_of_ble_eq_true rfl) (Nat.le_of_ble_eq_true rfl) o_93 (s_d _ I7 J7 n dd hn.2 T5.2.1 i j hin hjn) (fun r I8 J8 hq => ?_)
                  obtain ⟨rfl, rfl, rfl⟩ := hq
                  refine Ez.blk B_X10_relax_196 (lo' := [some (.ref 93), some (.int (nI n)), some (.int (nI i)), some (.int (nI i)), some (.int (nI j + 1))]) (st' := []) (I' := (aUp I8 103 ((nI i).toNatClampNeg) (nI n + nI j))) (J' := (aUpJ J8 102 ((nI i).toNatClampNeg) ((zL (S1.1 (n + j))) - (zL (dd i j : Int))))) (Ps := [aAr E0 2 102 (nI i), aO E0 93 10 ∧ E0.2.2 93 11 ≠ 0, aAr E0 1 103 (nI i)]) rfl ⟨(a_102 (vin (n := i) rfl (by omega) (by decide))), r_93_11, (a_103 (vin (n := i) rfl (by omega) (by decide)))⟩ ?_
                  rw [cln (x := nI i) (n := i) rfl (by omega)]
                  rw [show (nI j + 1) = nI (j + 1) from (eq_add (a := j) (b := 1) rfl rfl)]
                  rw [zL_sub]
                  have e9 : cel n dd F fx i j S = (zup S1.1 i (S1.1 (n + j) - (dd i j : Int)), cup S1.2.1 i (n + j), i) := by
                    unfold cel
                    rw [if_neg fxn, if_pos g1, e1]
                    unfold astp
                    rw [if_pos ⟨g2, by omega⟩]
                    rfl
                  rw [e9] at ih2
                  have ih3 := ih2 (aUp I8 103 i (nI n + nI j)) (aUpJ J8 102 i (zL (S1.1 (n + j) - (dd i j : Int)))) ⟨⟨fun v hv => by
                    show _ = zL (zup S1.1 i (S1.1 (n + j) - (dd i j : Int)) v)
                    by_cases ev : v = i
                    · rw [ev, aUpJ_eq, zup_eq]
                    · rw [aUpJ_nk ev, zup_ne ev]; exact e2.1 v hv, fun v hv => by
                    show _ = cm (cup S1.2.1 i (n + j) v)
                    by_cases ev : v = i
                    · rw [ev, aUp_eq, cup_eq, cm_n (by omega), nI_add]
                    · rw [aUp_nk ev, cup_ne ev]; exact e2.2 v hv⟩, fun q hq => by rw [aUp_ne hq]; exact e3 q hq, fun q hq => by rw [aUpJ_ne hq]; exact e4 q hq⟩
                  rw [show cm i = nI i from cm_n (by omega)] at ih3
                  exact ih3
          refine Ez.blk B_X10_relax_20 (lo' := [some (.ref 93), some (.int (nI n)), some (.int (cm S.2.2)), some (.int (nI i)), some (.int (nI j))]) (st' := [.int (nI n), .int (nI j)]) (I' := I2) (J' := J2) (Ps := []) rfl trivial ?_
          refine Ez.n_icmp_ge (off := 193) (tgt := 216) (by decide +kernel) (by decide) (a := j) (b := n) rfl rfl (by omega) (by omega) (fun h9 => absurd h9 (by omega)) (fun h9 => ?_)
          refine Ez.blk B_X10_relax_26 (lo' := [some (.ref 93), some (.int (nI n)), some (.int (cm S.2.2)), some (.int (nI i)), some (.int (nI j))]) (st' := [.int (I2 101 (((6 * nI i) + nI j).toNatClampNeg))]) (I' := I2) (J' := J2) (Ps := [aO E0 93 10 ∧ E0.2.2 93 9 ≠ 0, aAr E0 3 101 ((6 * nI i) + nI j)]) rfl ⟨r_93_9, (a_101 (vin (n := (6 * i + j)) (eq_add (a := (6 * i)) (b := j) (eq_mul (a := 6) (b := i) rfl rfl) rfl) (by omega) (by decide)))⟩ ?_
          rw [cln (x := ((6 * nI i) + nI j)) (n := (6 * i + j)) (eq_add (a := (6 * i)) (b := j) (eq_mul (a := 6) (b := i) rfl rfl) rfl) (by omega)]
          rw [fij]
          refine Ez.z_if_eq (off := 6) (tgt := 44) (by decide +kernel) (by decide) (fun g0 => ?_) (fun g0 => ?_)
          · have g0 : fx i j = false := Bool.eq_false_iff.mpr g0
            refine Ez.blk B_X10_relax_44 (lo' := [some (.ref 93), some (.int (nI n)), some (.int (cm S.2.2)), some (.int (nI i)), some (.int (nI j))]) (st' := [.int (lg_cmp (J2 102 ((nI i).toNatClampNeg)) 2305843009213693951)]) (I' := I2) (J' := J2) (Ps := [aO E0 93 10 ∧ E0.2.2 93 10 ≠ 0, aAr E0 2 102 (nI i)]) rfl ⟨r_93_10, (a_102 (vin (n := i) rfl (by omega) (by decide)))⟩ ?_
            rw [cln (x := nI i) (n := i) rfl (by omega)]
            rw [s1 i (by omega), eN]
            refine Ez.lif_ge (off := 68) (tgt := 122) (by decide +kernel) (by decide) (fun g2 => ?_) (fun g2 => ?_)
            · have g2 : NOR ≤ S.1 i := (zL_le (by omega) (by omega)).mp g2
              refine Ez.blk B_X10_relax_122 (lo' := [some (.ref 93), some (.int (nI n)), some (.int (cm S.2.2)), some (.int (nI i)), some (.int (nI j))]) (st' := [.int (nI j), .int (nI i), .ref 93]) (I' := I2) (J' := J2) (Ps := []) rfl trivial ?_
              exact LB g0 I2 J2 S (by unfold astp; rw [if_neg (fun q => by omega)]) ⟨s1, s2⟩ f1 f2
            · have g2 : S.1 i < NOR := by have := mt (zL_le (a := NOR) (b := S.1 i) (by omega) (by omega)).mpr g2; omega
              refine Ez.blk B_X10_relax_57 (lo' := [some (.ref 93), some (.int (nI n)), some (.int (cm S.2.2)), some (.int (nI i)), some (.int (nI j))]) (st' := [.int (nI j), .int (nI i), .ref 93, .long (J2 102 ((nI i).toNatClampNeg))]) (I' := I2) (J' := J2) (Ps := [aO E0 93 10 ∧ E0.2.2 93 10 ≠ 0, aAr E0 2 102 (nI i)]) rfl ⟨r_93_10, (a_102 (vin (n := i) rfl (by omega) (by decide)))⟩ ?_
              rw [cln (x := nI i) (n := i) rfl (by omega)]
              rw [s1 i (by omega)]
              refine Ez.callV (As := [.int (nI i), .int (nI j)]) (b := 93) (rest := [.long (zL (S.1 i))]) kn_X10_d ml_10_138 im_X10_d se_X10_d rfl (by decide +kernel) rfl rfl (Nat.le_of_ble_eq_true rfl) (Nat.le_of_ble_eq_true rfl) o_93 (s_d _ I2 J2 n dd hn.2 T2.2.1 i j hin hjn) (fun r I3 J3 hq => ?_)
              obtain ⟨rfl, rfl, rfl⟩ := hq
              refine Ez.blk B_X10_relax_70 (lo' := [some (.ref 93), some (.int (nI n)), some (.int (cm S.2.2)), some (.int (nI i)), some (.int (nI j))]) (st' := [.int (lg_cmp ((zL (S.1 i)) + (zL (dd i j : Int))) (J3 102 ((nI n + nI j).toNatClampNeg)))]) (I' := I3) (J' := J3) (Ps := [aO E0 93 10 ∧ E0.2.2 93 10 ≠ 0, aAr E0 2 102 (nI n + nI j)]) rfl ⟨r_93_10, (a_102 (vin (n := (n + j)) (eq_add (a := n) (b := j) rfl rfl) (by omega) (by decide)))⟩ ?_
              rw [cln (x := (nI n + nI j)) (n := (n + j)) (eq_add (a := n) (b := j) rfl rfl) (by omega)]
              rw [zL_add, s1 (n + j) (by omega)]
              refine Ez.lif_ge (off := 41) (tgt := 122) (by decide +kernel) (by decide) (fun g3 => ?_) (fun g3 => ?_)
              · have g3 : S.1 (n + j) ≤ S.1 i + (dd i j : Int) := (zL_le (by omega) (by omega)).mp g3
                refine Ez.blk B_X10_relax_122 (lo' := [some (.ref 93), some (.int (nI n)), some (.int (cm S.2.2)), some (.int (nI i)), some (.int (nI j))]) (st' := [.int (nI j), .int (nI i), .ref 93]) (I' := I3) (J' := J3) (Ps := []) rfl trivial ?_
                exact LB g0 I3 J3 S (by unfold astp; rw [if_neg (fun q => by omega)]) ⟨s1, s2⟩ f1 f2
              · have g3 : S.1 i + (dd i j : Int) < S.1 (n + j) := by have := mt (zL_le (a := S.1 (n + j)) (b := S.1 i + (dd i j : Int)) (by omega) (by omega)).mpr g3; omega
                refine Ez.blk B_X10_relax_84 (lo' := [some (.ref 93), some (.int (nI n)), some (.int (cm S.2.2)), some (.int (nI i)), some (.int (nI j))]) (st' := [.int (nI j), .int (nI i), .ref 93, .long (J3 102 ((nI i).toNatClampNeg)), .int (nI n + nI j), .ref 102]) (I' := I3) (J' := J3) (Ps := [aO E0 93 10 ∧ E0.2.2 93 10 ≠ 0, aO E0 93 10 ∧ E0.2.2 93 10 ≠ 0, aAr E0 2 102 (nI i)]) rfl ⟨r_93_10, r_93_10, (a_102 (vin (n := i) rfl (by omega) (by decide)))⟩ ?_
                rw [cln (x := nI i) (n := i) rfl (by omega)]
                rw [s1 i (by omega)]
                refine Ez.callV (As := [.int (nI i), .int (nI j)]) (b := 93) (rest := [.long (zL (S.1 i)), .int (nI n + nI j), .ref 102]) kn_X10_d ml_10_138 im_X10_d se_X10_d rfl (by decide +kernel) rfl rfl (Nat.le_of_ble_eq_true rfl) (Nat.le_of_ble_eq_true rfl) o_93 (s_d _ I3 J3 n dd hn.2 T2.2.1 i j hin hjn) (fun r I4 J4 hq => ?_)
                obtain ⟨rfl, rfl, rfl⟩ := hq
                refine Ez.blk B_X10_relax_105 (lo' := [some (.ref 93), some (.int (nI n)), some (.int (nI n + nI j)), some (.int (nI i)), some (.int (nI j))]) (st' := [.int (nI j), .int (nI i), .ref 93]) (I' := (aUp I4 103 ((nI n + nI j).toNatClampNeg) (nI i))) (J' := (aUpJ J4 102 ((nI n + nI j).toNatClampNeg) ((zL (S.1 i)) + (zL (dd i j : Int))))) (Ps := [aAr E0 2 102 (nI n + nI j), aO E0 93 10 ∧ E0.2.2 93 11 ≠ 0, aAr E0 1 103 (nI n + nI j)]) rfl ⟨(a_102 (vin (n := (n + j)) (eq_add (a := n) (b := j) rfl rfl) (by omega) (by decide))), r_93_11, (a_103 (vin (n := (n + j)) (eq_add (a := n) (b := j) rfl rfl) (by omega) (by decide)))⟩ ?_
                rw [cln (x := (nI n + nI j)) (n := (n + j)) (eq_add (a := n) (b := j) rfl rfl) (by omega)]
                rw [show (nI n + nI j) = nI (n + j) from (eq_add (a := n) (b := j) rfl rfl)]
                rw [zL_add]
                have L3 := LB g0 (aUp I4 103 (n + j) (nI i)) (aUpJ J4 102 (n + j) (zL (S.1 i + (dd i j : Int)))) (zup S.1 (n + j) (S.1 i + (dd i j : Int)), cup S.2.1 (n + j) i, n + j) (by unfold astp; rw [if_pos ⟨g2, g3⟩]) ⟨fun v hv => by
                  show _ = zL (zup S.1 (n + j) (S.1 i + (dd i j : Int)) v)
                  by_cases ev : v = n + j
                  · rw [ev, aUpJ_eq, zup_eq]
                  · rw [aUpJ_nk ev, zup_ne ev]; exact s1 v hv, fun v hv => by
                  show _ = cm (cup S.2.1 (n + j) i v)
                  by_cases ev : v = n + j
                  · rw [ev, aUp_eq, cup_eq, cm_n (by omega)]
                  · rw [aUp_nk ev, cup_ne ev]; exact s2 v hv⟩ (fun q hq => by rw [aUp_ne hq]; exact f1 q hq) (fun q hq => by rw [aUpJ_ne hq]; exact f2 q hq)
                rw [show cm (n + j) = nI (n + j) from cm_n (by omega)] at L3
                exact L3
          · refine Ez.blk B_X10_relax_41 (lo' := [some (.ref 93), some (.int (nI n)), some (.int (cm S.2.2)), some (.int (nI i)), some (.int (nI j))]) (st' := []) (I' := I2) (J' := J2) (Ps := []) rfl trivial ?_
            exact LE I2 J2 S (by unfold cel; rw [if_pos g0]) ⟨s1, s2⟩ f1 f2
      exact L2 0 (by omega) I1 J1 hi
  refine Ez.blk B_X10_relax_0 (lo' := [some (.ref 93), some (.int (I 94 0)), some (.int (-7)), some (.int 0), none]) (st' := []) (I' := I) (J' := J) (Ps := [aO E0 93 10 ∧ E0.2.2 93 0 ≠ 0, aAr E0 1 94 0]) rfl ⟨r_93_0, (a_94 (vin (n := 0) rfl (by omega) (by decide)))⟩ ?_
  rw [hT.1]
  have L0 := L1 0 (by omega) I J ⟨hS, fun _ _ => rfl, fun _ _ => rfl⟩
  rw [show cm (ral n dd F fx 0 S0).2.2 = -7 from congrArg cm hch] at L0
  exact L0
theorem s_shiftM (d : Nat) (I : aI) (J : aJ) (n : Nat) (hn : n ≤ 6) (h0 : I 94 0 = nI n) (F : Nat → Nat) (hF : ∀ q, q < 36 → I 100 q = nI (F q)) (A : Nat → Nat → Prop) (u v : Nat) (hl : ∃ i j, i < n ∧ j < n ∧ ((u = i ∧ v = n + j) ∨ (0 < F (i * 6 + j) ∧ u = n + j ∧ v = i))) : Sp m_X10_shift (d + 1) [.ref 93, .int (nI u), .int (nI v)] E0 I J (fun r I' J' => r = none ∧ J' = J ∧ (∀ q, q < 36 → I' 100 q = nI (sft n F u v q)) ∧ ∀ q, q ≠ 100 → I' q = I q) := by
  refine Sp.of (lo := [some (.ref 93), some (.int (nI u)), some (.int (nI v)), none]) rfl (fun Q hQ => ?_)
  obtain ⟨i, j, hi, hj, hl⟩ := hl
  have hu : u < 12 := by omega
  have hv : v < 12 := by omega
  refine Ez.blk B_X10_shift_0 (lo' := [some (.ref 93), some (.int (nI u)), some (.int (nI v)), some (.int (I 94 0))]) (st' := [.int (I 94 0), .int (nI u)]) (I' := I) (J' := J) (Ps := [aO E0 93 10 ∧ E0.2.2 93 0 ≠ 0, aAr E0 1 94 0]) rfl ⟨r_93_0, (a_94 (vin (n := 0) rfl (by omega) (by decide)))⟩ ?_
  refine Ez.n_icmp_ge (off := 23) (tgt := 32) (by decide +kernel) (by decide) (a := u) (b := n) rfl h0 (by omega) (by omega) (fun g => ?_) (fun g => ?_)
  · have hl : 0 < F (i * 6 + j) ∧ u = n + j ∧ v = i := by omega
    have ix : (6 * nI v + nI u) - I 94 0 = nI (6 * v + u - n) := eq_sub (a := 6 * v + u) (b := n) (eq_add (eq_mul (a := 6) rfl rfl) rfl) h0 (by omega)
    have ex : 6 * v + u - n = i * 6 + j := by omega
    refine Ez.blk B_X10_shift_32 (lo' := [some (.ref 93), some (.int (nI u)), some (.int (nI v)), some (.int (I 94 0))]) (st' := []) (I' := (aUp I 100 ((((6 * nI v) + nI u) - I 94 0).toNatClampNeg) (I 100 ((((6 * nI v) + nI u) - I 94 0).toNatClampNeg) - 1))) (J' := J) (Ps := [aO E0 93 10 ∧ E0.2.2 93 8 ≠ 0, aAr E0 1 100 (((6 * nI v) + nI u) - I 94 0), aAr E0 1 100 (((6 * nI v) + nI u) - I 94 0)]) rfl ⟨r_93_8, (a_100 (vin (n := (6 * v + u - n)) ix (by omega) (by decide))), (a_100 (vin (n := (6 * v + u - n)) ix (by omega) (by decide)))⟩ ?_
    rw [cln (x := (((6 * nI v) + nI u) - I 94 0)) (n := (6 * v + u - n)) ix (by omega)]
    exact Ez.vret rfl (by decide +kernel) (hQ _ _ _ ⟨rfl, rfl, fun q hq => by
      unfold sft
      rw [if_neg (by omega)]
      by_cases e : q = v * 6 + (u - n)
      · rw [e, cup_eq, show v * 6 + (u - n) = 6 * v + u - n by omega, aUp_eq, hF _ (by omega)]; exact eq_sub rfl rfl (by rw [ex]; omega)
      · rw [cup_ne e, aUp_nk (by omega)]; exact hF q hq, fun q hq => aUp_ne hq⟩)
  · have hl : u = i ∧ v = n + j := by omega
    have ix : (6 * nI u + nI v) - I 94 0 = nI (6 * u + v - n) := eq_sub (a := 6 * u + v) (b := n) (eq_add (eq_mul (a := 6) rfl rfl) rfl) h0 (by omega)
    refine Ez.blk B_X10_shift_12 (lo' := [some (.ref 93), some (.int (nI u)), some (.int (nI v)), some (.int (I 94 0))]) (st' := []) (I' := (aUp I 100 ((((6 * nI u) + nI v) - I 94 0).toNatClampNeg) (I 100 ((((6 * nI u) + nI v) - I 94 0).toNatClampNeg) + 1))) (J' := J) (Ps := [aO E0 93 10 ∧ E0.2.2 93 8 ≠ 0, aAr E0 1 100 (((6 * nI u) + nI v) - I 94 0), aAr E0 1 100 (((6 * nI u) + nI v) - I 94 0)]) rfl ⟨r_93_8, (a_100 (vin (n := (6 * u + v - n)) ix (by omega) (by decide))), (a_100 (vin (n := (6 * u + v - n)) ix (by omega) (by decide)))⟩ ?_
    rw [cln (x := (((6 * nI u) + nI v) - I 94 0)) (n := (6 * u + v - n)) ix (by omega)]
    exact Ez.vret rfl (by decide +kernel) (hQ _ _ _ ⟨rfl, rfl, fun q hq => by
      unfold sft
      rw [if_pos (by omega)]
      by_cases e : q = u * 6 + (v - n)
      · rw [e, cup_eq, show u * 6 + (v - n) = 6 * u + v - n by omega, aUp_eq, hF _ (by omega)]; exact eq_add rfl rfl
      · rw [cup_ne e, aUp_nk (by omega)]; exact hF q hq, fun q hq => aUp_ne hq⟩)

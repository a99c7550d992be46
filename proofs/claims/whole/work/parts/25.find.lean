/-! TRANSPORT: the search, slack, shift -/
theorem FPI_le {n : Nat} {A : Nat → Nat → Prop} {dd f : Nat → Nat → Nat} {u v : Nat → Int} {s k : Nat} {K K' : Int} {R C : Nat → Int} {cb rb r c : Nat → Nat} (h : FPI n A dd f u v s k K R C cb rb r c) (hk : K ≤ K') : FPI n A dd f u v s k K' R C cb rb r c := ⟨h.1, ⟨Bd_le h.2.1.1 hk, Bd_le h.2.1.2 hk⟩, h.2.2⟩
theorem FPF_le {n : Nat} {A : Nat → Nat → Prop} {dd f : Nat → Nat → Nat} {u v : Nat → Int} {s : Nat} {K K' : Int} {R C : Nat → Int} {cb rb r c : Nat → Nat} (h : FPF n A dd f u v s K R C cb rb r c) (hk : K ≤ K') : FPF n A dd f u v s K' R C cb rb r c := ⟨h.1, ⟨Bd_le h.2.1.1 hk, Bd_le h.2.1.2 hk⟩, h.2.2⟩
theorem Bd_rg {n : Nat} {K l : Int} {u R : Nat → Int} (h : Bd n K l u R) (hk : K ≤ 4000000000000000000) (i : Nat) (hi : i < n) : Rg (R i) := by
  by_cases e : R i = FAR
  · exact Or.inr e
  · have := h i hi e
    exact Or.inl (by omega)
theorem Pb_no {I : aI} {a n : Nat} {b b' : Nat → Nat} (h : Pb I a n b') (e : ∀ i, i < n → b' i = b i) : Pb I a n b := fun i hi => by rw [h i hi, e i hi]
theorem Zl_no {J : aJ} {a n : Nat} {b b' : Nat → Int} (h : Zl J a n b') (e : ∀ i, i < n → b' i = b i) : Zl J a n b := fun i hi => by rw [h i hi, e i hi]
/-- what a search leaves -/
def Fnd (n a : Nat) (dd : Nat → Nat → Nat) (F : Nat → Nat) (u v : Nat → Int) (s : Nat) (I : aI) (J : aJ) (R C : Nat → Int) (cb rb r c : Nat → Nat) : Prop := (Zl J 52 n R ∧ Zl J 53 n C) ∧ (Pb I 54 n cb ∧ Pb I 55 n rb) ∧ FPF n (fun i j => a ≤ i * 6 + j) dd (mx F) u v s 12000000000000000 R C cb rb r c
theorem s_find (d : Nat) (I : aI) (J : aJ) (n : Nat) (dd : Nat → Nat → Nat) (hT : Tq n dd I J) (F : Nat → Nat) (hF : ∀ q, q < 36 → I 48 q = nI (F q) ∧ F q ≤ 24) (a : Nat) (ha : a ≤ 36) (s : Nat) (hs : s < n) (u v : Nat → Int) (hr : Rp n 1000000000000000 (fun i j => a ≤ i * 6 + j) dd (mx F) u v) : Sp m_X8_findPaths (d + 2) [.ref 47, .int (nI s), .int (nI a)] E0 I J (fun r I' J' => r = none ∧ (∃ R C cb rb r c, Fnd n a dd F u v s I' J' R C cb rb r c) ∧ (∀ q, q ≠ 52 → q ≠ 53 → J' q = J q) ∧ ∀ q, q ≠ 54 → q ≠ 55 → I' q = I q) := by
  refine Sp.of (lo := [some (.ref 47), some (.int (nI s)), some (.int (nI a)), none, none]) rfl (fun Q hQ => ?_)
  obtain ⟨hn, hsz, hco⟩ := id hT
  have L2 : ∀ k, k ≤ n → ∀ (I1 : aI) (J1 : aJ) (R C : Nat → Int) (cb rb r c : Nat → Nat) (g : Int32), ((∀ x, x ≠ 52 → x ≠ 53 → J1 x = J x) ∧ (∀ x, x ≠ 54 → x ≠ 55 → I1 x = I x) ∧ (Zl J1 52 n R ∧ Zl J1 53 n C) ∧ (Pb I1 54 n cb ∧ Pb I1 55 n rb) ∧ ((g = 1 ∧ FPI n (fun i j => a ≤ i * 6 + j) dd (mx F) u v s k (2000000000000000 * (k : Int)) R C cb rb r c) ∨ (g = 0 ∧ FPF n (fun i j => a ≤ i * 6 + j) dd (mx F) u v s 12000000000000000 R C cb rb r c))) → Ez m_X8_findPaths (d + 2) 60 [some (.ref 47), some (.int (nI s)), some (.int (nI a)), some (.int g), some (.int (nI k))] [] E0 I1 J1 Q := by
    refine for_up ?_ ?_
    · intro I1 J1 R C cb rb r c g hi
      refine Ez.blk B_X8_findPaths_60 (lo' := [some (.ref 47), some (.int (nI s)), some (.int (nI a)), some (.int g), some (.int (nI n))]) (st' := [.int (I1 47 1), .int (nI n)]) (I' := I1) (J' := J1) (Ps := [aO E0 47 8]) rfl o_47 ?_
      refine Ez.n_icmp_ge (off := 35) (tgt := 101) (by decide +kernel) (by decide) (a := n) (b := n) rfl (by rw [hi.2.1 47 (by decide) (by decide)]; exact hsz) (by omega) (by omega) (fun h => ?_) (fun h => absurd h (by omega))
      have hfin : FPF n (fun i j => a ≤ i * 6 + j) dd (mx F) u v s 12000000000000000 R C cb rb r c := by
        rcases hi.2.2.2.2 with q | q
        · exact FPF_le (fp_end3 q.2) (by omega)
        · exact q.2
      exact Ez.vret rfl (by decide +kernel) (hQ _ _ _ ⟨rfl, ⟨R, C, cb, rb, r, c, hi.2.2.1, hi.2.2.2.1, hfin⟩, hi.1, hi.2.1⟩)
    · intro k hk ih I1 J1 R C cb rb r c g hi
      refine Ez.blk B_X8_findPaths_60 (lo' := [some (.ref 47), some (.int (nI s)), some (.int (nI a)), some (.int g), some (.int (nI k))]) (st' := [.int (I1 47 1), .int (nI k)]) (I' := I1) (J' := J1) (Ps := [aO E0 47 8]) rfl o_47 ?_
      refine Ez.n_icmp_ge (off := 35) (tgt := 101) (by decide +kernel) (by decide) (a := k) (b := n) rfl (by rw [hi.2.1 47 (by decide) (by decide)]; exact hsz) (by omega) (by omega) (fun h => absurd h (by omega)) (fun h => ?_)
      refine Ez.blk B_X8_findPaths_69 (lo' := [some (.ref 47), some (.int (nI s)), some (.int (nI a)), some (.int g), some (.int (nI k))]) (st' := [.int g]) (I' := I1) (J' := J1) (Ps := []) rfl trivial ?_
      refine Ez.if_eq (off := 31) (tgt := 101) (by decide +kernel) (by decide) (fun h2 => ?_) (fun h2 => ?_)
      · exact Ez.vret rfl (by decide +kernel) (hQ _ _ _ ⟨rfl, ⟨R, C, cb, rb, r, c, hi.2.2.1, hi.2.2.2.1, (by
          rcases hi.2.2.2.2 with q | q
          · rw [q.1] at h2; exact absurd h2 (by decide)
          · exact q.2)⟩, hi.1, hi.2.1⟩)
      · have hp : FPI n (fun i j => a ≤ i * 6 + j) dd (mx F) u v s k (2000000000000000 * (k : Int)) R C cb rb r c := by
          rcases hi.2.2.2.2 with q | q
          · exact q.2
          · exact absurd q.1 h2
        have hT1 : Tq n dd I1 J1 := ⟨hn, by rw [hi.2.1 47 (by decide) (by decide)]; exact hsz, by rw [hi.1 49 (by decide) (by decide)]; exact hco⟩
        have gR := Bd_rg hp.2.1.1 (by omega)
        have gC := Bd_rg hp.2.1.2 (by omega)
        refine Ez.blk B_X8_findPaths_73 (lo' := [some (.ref 47), some (.int (nI s)), some (.int (nI a)), some (.int g), some (.int (nI k))]) (st' := [.int (nI a), .ref 47]) (I' := I1) (J' := J1) (Ps := []) rfl trivial ?_
        refine Ez.callV (As := [.int (nI a)]) (b := 47) (rest := []) kn_X8_approachColumns ml_8_88 im_X8_approachColumns se_X8_approachColumns rfl (by decide +kernel) rfl rfl (Nat.le_of_ble_eq_true rfl) (Nat.le_of_ble_eq_true rfl) o_47 (s_apc _ I1 J1 n dd hT1 R C hi.2.2.1.1 hi.2.2.1.2 gR gC a ha rb hi.2.2.2.1.2) (fun r0 I2 J2 hq => ?_)
        obtain ⟨v1, C2, rb2, rfl, hv1, k1, k2, k3, k4, k5⟩ := hq
        refine Ez.if_eq (off := 15) (tgt := 93) (by decide +kernel) (by decide) (fun h3 => ?_) (fun h3 => ?_)
        · refine Ez.blk B_X8_findPaths_93 (lo' := [some (.ref 47), some (.int (nI s)), some (.int (nI a)), some (.int 0), some (.int (nI k + 1))]) (st' := []) (I' := I2) (J' := J2) (Ps := []) rfl trivial ?_
          rw [show (nI k + 1) = nI (k + 1) from (eq_add (a := k) (b := 1) rfl rfl)]
          rw [h3] at k3
          have hsame := Apr_same k3
          exact ih I2 J2 R C cb rb r c 0 ⟨fun x h0 h1 => by rw [k4 x h1]; exact hi.1 x h0 h1, fun x h0 h1 => by rw [k5 x h1]; exact hi.2.1 x h0 h1, ⟨fun i hin => by rw [k4 52 (by decide)]; exact hi.2.2.1.1 i hin, Zl_no k1 (fun i hin => (hsame i hin).1)⟩, ⟨fun i hin => by rw [k5 54 (by decide)]; exact hi.2.2.2.1.1 i hin, Pb_no k2 (fun i hin => (hsame i hin).2)⟩, Or.inr ⟨rfl, FPF_le (fp_end1 hk hp (fun i j hin hjn hA hR => by rw [← (hsame j hjn).1]; exact (k3 j hjn).2 i hin trivial hA hR)) (by omega)⟩⟩
        · obtain ⟨c2, hp2⟩ := fp_col hr (show 0 ≤ 2000000000000000 * (k : Int) ∧ 2000000000000000 * (k : Int) + (1000000000000000 : Nat) < 9223372036854775807 by omega) hp k3
          have hT2 : Tq n dd I2 J2 := ⟨hn, by rw [k5 47 (by decide)]; exact hT1.2.1, by rw [k4 49 (by decide)]; exact hT1.2.2⟩
          have gC2 := Bd_rg hp2.2.1.2 (by omega)
          have hR2 : Zl J2 52 n R := fun i hin => by rw [k4 52 (by decide)]; exact hi.2.2.1.1 i hin
          have hb2 : Pb I2 54 n cb := fun i hin => by rw [k5 54 (by decide)]; exact hi.2.2.2.1.1 i hin
          have hF2 : ∀ q, q < 36 → I2 48 q = nI (F q) ∧ F q ≤ 24 := fun q hq => by rw [k5 48 (by decide), hi.2.1 48 (by decide) (by decide)]; exact hF q hq
          refine Ez.blk B_X8_findPaths_81 (lo' := [some (.ref 47), some (.int (nI s)), some (.int (nI a)), some (.int g), some (.int (nI k))]) (st' := [.int (nI a), .ref 47]) (I' := I2) (J' := J2) (Ps := []) rfl trivial ?_
          refine Ez.callV (As := [.int (nI a)]) (b := 47) (rest := []) kn_X8_approachRows ml_8_92 im_X8_approachRows se_X8_approachRows rfl (by decide +kernel) rfl rfl (Nat.le_of_ble_eq_true rfl) (Nat.le_of_ble_eq_true rfl) o_47 (s_apr _ I2 J2 n dd hT2 R C2 hR2 k1 gR gC2 a ha F hF2 cb hb2) (fun r0 I3 J3 hq => ?_)
          obtain ⟨v2, R3, cb3, rfl, hv2, m1, m2, m3, m4, m5⟩ := hq
          have fj : ∀ x, x ≠ 52 → x ≠ 53 → J3 x = J x := fun x h0 h1 => by rw [m4 x h0, k4 x h1]; exact hi.1 x h0 h1
          have fi : ∀ x, x ≠ 54 → x ≠ 55 → I3 x = I x := fun x h0 h1 => by rw [m5 x h0, k5 x h1]; exact hi.2.1 x h0 h1
          have hC3 : Zl J3 53 n C2 := fun i hin => by rw [m4 53 (by decide)]; exact k1 i hin
          have hb3 : Pb I3 55 n rb2 := fun i hin => by rw [m5 55 (by decide)]; exact k2 i hin
          refine Ez.if_eq (off := 7) (tgt := 93) (by decide +kernel) (by decide) (fun h4 => ?_) (fun h4 => ?_)
          · refine Ez.blk B_X8_findPaths_93 (lo' := [some (.ref 47), some (.int (nI s)), some (.int (nI a)), some (.int 0), some (.int (nI k + 1))]) (st' := []) (I' := I3) (J' := J3) (Ps := []) rfl trivial ?_
            rw [show (nI k + 1) = nI (k + 1) from (eq_add (a := k) (b := 1) rfl rfl)]
            rw [h4] at m3
            have hsame := Apr_same m3
            exact ih I3 J3 R C2 cb rb2 r c2 0 ⟨fj, fi, ⟨Zl_no m1 (fun i hin => (hsame i hin).1), hC3⟩, ⟨Pb_no m2 (fun i hin => (hsame i hin).2), hb3⟩, Or.inr ⟨rfl, FPF_le (fp_end2 hk hp2 (fun i j hin hjn hA hf hC => by
              have q := (m3 i hin).2 j hjn trivial ⟨hA, hf⟩ hC
              rw [(hsame i hin).1] at q
              dsimp only at q
              omega)) (by omega)⟩⟩
          · obtain ⟨r3, hp3⟩ := fp_row hs hr (show 0 ≤ 2000000000000000 * (k : Int) + (1000000000000000 : Nat) ∧ 2000000000000000 * (k : Int) + (1000000000000000 : Nat) + (1000000000000000 : Nat) < 9223372036854775807 by omega) hp2 m3
            refine Ez.blk B_X8_findPaths_89 (lo' := [some (.ref 47), some (.int (nI s)), some (.int (nI a)), some (.int g), some (.int (nI k))]) (st' := [.int 1]) (I' := I3) (J' := J3) (Ps := []) rfl trivial ?_
            refine Ez.blk B_X8_findPaths_94 (lo' := [some (.ref 47), some (.int (nI s)), some (.int (nI a)), some (.int 1), some (.int (nI k + 1))]) (st' := []) (I' := I3) (J' := J3) (Ps := []) rfl trivial ?_
            rw [show (nI k + 1) = nI (k + 1) from (eq_add (a := k) (b := 1) rfl rfl)]
            exact ih I3 J3 R3 C2 cb3 rb2 r3 c2 1 ⟨fj, fi, ⟨m1, hC3⟩, ⟨m2, hb3⟩, Or.inl ⟨rfl, FPI_le hp3 (by omega)⟩⟩
  have L1 : ∀ k, k ≤ n → ∀ (I1 : aI) (J1 : aJ), ((∀ x, x ≠ 52 → x ≠ 53 → J1 x = J x) ∧ (∀ x, x ≠ 54 → x ≠ 55 → I1 x = I x) ∧ ∀ x, x < k → J1 52 x = zL FAR ∧ J1 53 x = zL FAR ∧ I1 54 x = nI 0 - 1 ∧ I1 55 x = nI 0 - 1) → Ez m_X8_findPaths (d + 2) 2 [some (.ref 47), some (.int (nI s)), some (.int (nI a)), some (.int (nI k)), none] [] E0 I1 J1 Q := by
    refine for_up ?_ ?_
    · intro I1 J1 hi
      refine Ez.blk B_X8_findPaths_2 (lo' := [some (.ref 47), some (.int (nI s)), some (.int (nI a)), some (.int (nI n)), none]) (st' := [.int (I1 47 1), .int (nI n)]) (I' := I1) (J' := J1) (Ps := [aO E0 47 8]) rfl o_47 ?_
      refine Ez.n_icmp_ge (off := 41) (tgt := 48) (by decide +kernel) (by decide) (a := n) (b := n) rfl (by rw [hi.2.1 47 (by decide) (by decide)]; exact hsz) (by omega) (by omega) (fun h => ?_) (fun h => absurd h (by omega))
      refine Ez.blk B_X8_findPaths_48 (lo' := [some (.ref 47), some (.int (nI s)), some (.int (nI a)), some (.int 1), some (.int 0)]) (st' := []) (I' := I1) (J' := (aUpJ J1 52 ((nI s).toNatClampNeg) 0)) (Ps := [aO E0 47 8 ∧ E0.2.2 47 5 ≠ 0, aAr E0 2 52 (nI s)]) rfl ⟨r_47_5, (a_52 (vin (n := s) rfl (by omega) (by decide)))⟩ ?_
      rw [cln (x := nI s) (n := s) rfl (by omega)]
      exact L2 0 (by omega) _ _ (fun i => if i = s then 0 else FAR) (fun _ => FAR) (fun _ => 0) (fun _ => 0) (fun _ => 0) (fun _ => 0) 1 ⟨fun x h0 h1 => by rw [aUpJ_ne h0]; exact hi.1 x h0 h1, hi.2.1, ⟨fun i hin => by
        by_cases e : i = s
        · rw [e, aUpJ_eq]; dsimp only; rw [if_pos rfl]; rfl
        · rw [aUpJ_nk e]; dsimp only; rw [if_neg e]; exact (hi.2.2 i hin).1, fun i hin => by rw [aUpJ_ne (by decide)]; exact (hi.2.2 i hin).2.1⟩, ⟨fun i hin => (hi.2.2 i hin).2.2.1, fun i hin => (hi.2.2 i hin).2.2.2⟩, Or.inl ⟨rfl, fp_start hs (by omega) (fun _ _ => rfl) (fun _ _ => rfl) rfl⟩⟩
    · intro k hk ih I1 J1 hi
      refine Ez.blk B_X8_findPaths_2 (lo' := [some (.ref 47), some (.int (nI s)), some (.int (nI a)), some (.int (nI k)), none]) (st' := [.int (I1 47 1), .int (nI k)]) (I' := I1) (J' := J1) (Ps := [aO E0 47 8]) rfl o_47 ?_
      refine Ez.n_icmp_ge (off := 41) (tgt := 48) (by decide +kernel) (by decide) (a := k) (b := n) rfl (by rw [hi.2.1 47 (by decide) (by decide)]; exact hsz) (by omega) (by omega) (fun h => absurd h (by omega)) (fun h => ?_)
      refine Ez.blk B_X8_findPaths_10 (lo' := [some (.ref 47), some (.int (nI s)), some (.int (nI a)), some (.int (nI k + 1)), none]) (st' := []) (I' := (aUp (aUp I1 54 ((nI k).toNatClampNeg) (-1)) 55 ((nI k).toNatClampNeg) (-1))) (J' := (aUpJ (aUpJ J1 52 ((nI k).toNatClampNeg) 9223372036854775807) 53 ((nI k).toNatClampNeg) 9223372036854775807)) (Ps := [aO E0 47 8 ∧ E0.2.2 47 5 ≠ 0, aAr E0 2 52 (nI k), aO E0 47 8 ∧ E0.2.2 47 6 ≠ 0, aAr E0 2 53 (nI k), aO E0 47 8 ∧ E0.2.2 47 7 ≠ 0, aAr E0 1 54 (nI k), aO E0 47 8 ∧ E0.2.2 47 8 ≠ 0, aAr E0 1 55 (nI k)]) rfl ⟨r_47_5, (a_52 (vin (n := k) rfl (by omega) (by decide))), r_47_6, (a_53 (vin (n := k) rfl (by omega) (by decide))), r_47_7, (a_54 (vin (n := k) rfl (by omega) (by decide))), r_47_8, (a_55 (vin (n := k) rfl (by omega) (by decide)))⟩ ?_
      rw [cln (x := nI k) (n := k) rfl (by omega)]
      rw [show (nI k + 1) = nI (k + 1) from (eq_add (a := k) (b := 1) rfl rfl)]
      generalize hI2 : (aUp (aUp I1 54 k (-1)) 55 k (-1)) = I2
      generalize hJ2 : (aUpJ (aUpJ J1 52 k 9223372036854775807) 53 k 9223372036854775807) = J2
      exact ih I2 J2 ⟨fun x h0 h1 => by rw [← hJ2, aUpJ_ne h1, aUpJ_ne h0]; exact hi.1 x h0 h1, fun x h0 h1 => by rw [← hI2, aUp_ne h1, aUp_ne h0]; exact hi.2.1 x h0 h1, fun x hx => by
        by_cases e : x = k
        · rw [e, ← hJ2, ← hI2, aUpJ_ne (by decide), aUpJ_eq, aUpJ_eq, aUp_ne (by decide), aUp_eq, aUp_eq]
          exact ⟨rfl, rfl, rfl, rfl⟩
        · rw [← hJ2, ← hI2, aUpJ_nk e, aUpJ_nk e, aUpJ_nk e, aUpJ_nk e, aUp_nk e, aUp_nk e, aUp_nk e, aUp_nk e]
          exact hi.2.2 x (by omega)⟩
  refine Ez.blk B_X8_findPaths_0 (lo' := [some (.ref 47), some (.int (nI s)), some (.int (nI a)), some (.int 0), none]) (st' := []) (I' := I) (J' := J) (Ps := []) rfl trivial ?_
  exact L1 0 (by omega) I J ⟨fun _ _ _ => rfl, fun _ _ _ => rfl, fun x hx => by omega⟩

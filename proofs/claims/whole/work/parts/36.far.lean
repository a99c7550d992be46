/-! DISTANCES: the farthest pair, the coupling -/
def fin1 (dd : Nat → Nat → Nat) (i : Nat) (s : Int32 × Int) : Nat → Int32 × Int
  | 0 => s
  | t + 1 => if (fin1 dd i s t).2 < (dd i (i + 1 + t) : Int) then (nI (10 * i + (i + 1 + t)), (dd i (i + 1 + t) : Int)) else fin1 dd i s t
def fout (dd : Nat → Nat → Nat) (n : Nat) : Nat → Int32 × Int
  | 0 => (-7, -1)
  | i + 1 => fin1 dd i (fout dd n i) (n - (i + 1))
theorem fin_bd {dd : Nat → Nat → Nat} {i n : Nat} {s : Int32 × Int} (hs : -1 ≤ s.2 ∧ s.2 ≤ 1000000000000000) (hi : i < n) (hd : ∀ x y, x < n → y < n → dd x y ≤ 1000000000000000) : ∀ t, t ≤ n - (i + 1) → -1 ≤ (fin1 dd i s t).2 ∧ (fin1 dd i s t).2 ≤ 1000000000000000
  | 0, _ => hs
  | t + 1, ht => by
    have ih := fin_bd hs hi hd t (by omega)
    have h := hd i (i + 1 + t) hi (by omega)
    show -1 ≤ (if (fin1 dd i s t).2 < (dd i (i + 1 + t) : Int) then (nI (10 * i + (i + 1 + t)), (dd i (i + 1 + t) : Int)) else fin1 dd i s t).2 ∧ (if (fin1 dd i s t).2 < (dd i (i + 1 + t) : Int) then (nI (10 * i + (i + 1 + t)), (dd i (i + 1 + t) : Int)) else fin1 dd i s t).2 ≤ _
    by_cases e : (fin1 dd i s t).2 < (dd i (i + 1 + t) : Int)
    · rw [if_pos e]; dsimp only; omega
    · rw [if_neg e]; exact ih
theorem fout_bd {dd : Nat → Nat → Nat} {n : Nat} (hd : ∀ x y, x < n → y < n → dd x y ≤ 1000000000000000) : ∀ i, i ≤ n → -1 ≤ (fout dd n i).2 ∧ (fout dd n i).2 ≤ 1000000000000000
  | 0, _ => by show (-1 : Int) ≤ -1 ∧ (-1 : Int) ≤ 1000000000000000; omega
  | i + 1, hi => fin_bd (fout_bd hd i (by omega)) (by omega) hd _ (Nat.le_refl _)
noncomputable def f_far (T : TS) (m : Int32) : Int32 × TS := if 0 ≤ m ∧ m ≤ 15 then (if m ≤ nI (gdp T.1) then ((fout (dst T.1 m.toNatClampNeg) (T.1 0) (T.1 0)).1, T) else (-4, T)) else (-1, T)
noncomputable def ccp (c : Nat → Nat) (m a b : Nat) : Nat → Nat → Nat := Classical.epsilon (fun f => Can (c 0) (wro_ c a) (wro_ c b) (dst c m) f)
theorem ccp_eq {c : Nat → Nat} {m a b : Nat} {f : Nat → Nat → Nat} (h : Can (c 0) (wro_ c a) (wro_ c b) (dst c m) f) (x y : Nat) (hx : x < c 0) (hy : y < c 0) : f x y = ccp c m a b x y := can_uniq h (Classical.epsilon_spec (p := fun f => Can (c 0) (wro_ c a) (wro_ c b) (dst c m) f) ⟨f, h⟩) x y hx hy
noncomputable def f_cpl (T : TS) (m p x y : Int32) : Int32 × TS := if 0 ≤ m ∧ m ≤ 15 then (if isP T p ∧ isS T x ∧ isS T y then (if m ≤ nI (gdp T.1) then (nI (ccp T.1 m.toNatClampNeg (p.toNatClampNeg / 10) (p.toNatClampNeg % 10) x.toNatClampNeg y.toNatClampNeg), T) else (-4, T)) else (-2, T)) else (-1, T)
theorem c_far (d : Nat) (I : aI) (J : aJ) (T : TS) (W : WT T) (hP : CP T I J) (m : Int32) : Sp m_X9_farthestPair (d + 7) [.ref 1, .int m] E0 I J (fun r I' J' => r = some (.int (f_far T m).1) ∧ CP (f_far T m).2 I' J' ∧ Fr9 I I' J J') := by
  refine Sp.of (lo := [some (.ref 1), some (.int m), none, none, none, none, none, none, none, none]) rfl (fun Q hQ => ?_)
  have w1 := W.1.1
  have w2 := W.1.2.1
  have wb := Wc_12 W.1
  refine Ez.blk B_X9_farthestPair_0 (lo' := [some (.ref 1), some (.int m), none, none, none, none, none, none, none, none]) (st' := [.int 15, .int 0, .int m]) (I' := I) (J' := J) (Ps := []) rfl trivial ?_
  refine Ez.callS (As := [.int m, .int 0, .int 15]) (rest := []) kn_X9_isWithin ml_9_77 sm_X9_isWithin (by decide +kernel) rfl rfl (Nat.le_of_ble_eq_true rfl) (Nat.le_of_ble_eq_true rfl) (s_isWithin _ E0 I J m 0 15) (fun r I1 J1 hq => ?_)
  obtain ⟨rfl, rfl, rfl⟩ := hq
  refine Ez.z_if_ne (off := 5) (tgt := 12) (by decide +kernel) (by decide) (fun h => ?_) (fun h => ?_)
  · refine Ez.blk B_X9_farthestPair_12 (lo' := [some (.ref 1), some (.int m), none, none, none, none, none, none, none, none]) (st' := [.ref 1, .int m]) (I' := I1) (J' := J1) (Ps := []) rfl trivial ?_
    refine Ez.callV (As := []) (b := 1) (rest := [.int m]) kn_X9_greatestDepth ml_9_133 im_X9_greatestDepth se_X9_greatestDepth rfl (by decide +kernel) rfl rfl (Nat.le_of_ble_eq_true rfl) (Nat.le_of_ble_eq_true rfl) o_1 (s_gd _ I1 J1 T.1 hP.1 W.1) (fun r I4 J4 hq => ?_)
    obtain ⟨rfl, rfl, rfl⟩ := hq
    refine Ez.icmp_le (off := 6) (tgt := 23) (by decide +kernel) (by decide) (fun h4 => ?_) (fun h4 => ?_)
    · have ev : f_far T m = ((fout (dst T.1 m.toNatClampNeg) (T.1 0) (T.1 0)).1, T) := by unfold f_far; rw [if_pos h, if_pos h4]
      obtain ⟨n, hn, rfl, hnc, hng, hb⟩ := isM_of (T := T) ⟨h, h4⟩
      rw [hnc] at ev
      refine Ez.blk B_X9_farthestPair_23 (lo' := [some (.ref 1), some (.int (nI n)), none, none, none, none, none, none, none, none]) (st' := [.int (nI n), .ref 2, .ref 43]) (I' := I4) (J' := J4) (Ps := [aO E0 1 9 ∧ E0.2.2 1 5 ≠ 0, aO E0 1 9 ∧ E0.2.2 1 0 ≠ 0]) rfl ⟨r_1_5, r_1_0⟩ ?_
      refine Ez.callV (As := [.ref 2, .int (nI n)]) (b := 43) (rest := []) kn_X3_levelFor ml_9_142 im_X3_levelFor se_X3_levelFor rfl (by decide +kernel) rfl rfl (Nat.le_of_ble_eq_true rfl) (Nat.le_of_ble_eq_true rfl) o_43 (s_level _ I4 J4 T W hP n hn hb) (fun r I5 J5 hq => ?_)
      obtain ⟨rfl, ⟨kd, hkd, hck⟩, fi, fj⟩ := hq
      have hP2 := CP_d hP fi fj ⟨T.1, kd, hck⟩
      obtain ⟨N, hN⟩ : ∃ N, N = T.1 0 := ⟨_, rfl⟩
      obtain ⟨dd, hdd⟩ : ∃ dd, dd = dst T.1 n := ⟨_, rfl⟩
      have dle : ∀ x y, x < N → y < N → dd x y ≤ 1000000000000000 := fun x y hx hy => by rw [hdd]; exact Nat.le_trans ((dst_ok W.1 n).1 x y (by omega) (by omega)).1 hb
      have dat : ∀ x y, x < N → y < N → J5 (57 + n) (x * 6 + y) = zL (dd x y : Int) := fun x y hx hy => by rw [hdd, show x * 6 + y = 6 * x + y by omega, hck.2.2.2.2.2.2.1 n hkd x y (by omega) (by omega)]; rfl
      have hsz : I5 2 0 = nI N := by rw [hN]; exact hP2.1.1 0 (by decide)
      rw [← hN, ← hdd] at ev
      have L1 : ∀ i, i ≤ N → True → Ez m_X9_farthestPair (d + 7) 47 [some (.ref 1), some (.int (nI n)), some (.ref (57 + n)), some (.int ((fout dd N i).1)), some (.long (zL (fout dd N i).2)), none, some (.int (nI i)), none, none, none] [] E0 I5 J5 Q := by
        refine for_up ?_ ?_
        · intro hi
          refine Ez.blk B_X9_farthestPair_47 (lo' := [some (.ref 1), some (.int (nI n)), some (.ref (57 + n)), some (.int ((fout dd N N).1)), some (.long (zL (fout dd N N).2)), none, some (.int (nI N)), none, none, none]) (st' := [.int (I5 2 0), .int (nI N)]) (I' := I5) (J' := J5) (Ps := [aO E0 1 9 ∧ E0.2.2 1 0 ≠ 0, aO E0 2 1]) rfl ⟨r_1_0, o_2⟩ ?_
          refine Ez.n_icmp_ge (off := 66) (tgt := 122) (by decide +kernel) (by decide) (a := N) (b := N) rfl hsz (by omega) (by omega) (fun h9 => ?_) (fun h9 => absurd h9 (by omega))
          refine Ez.blk B_X9_farthestPair_122 (lo' := [some (.ref 1), some (.int (nI n)), some (.ref (57 + n)), some (.int ((fout dd N N).1)), some (.long (zL (fout dd N N).2)), none, some (.int (nI N)), none, none, none]) (st' := [.int ((fout dd N N).1)]) (I' := I5) (J' := J5) (Ps := []) rfl trivial ?_
          exact Ez.iret rfl (by decide +kernel) (hQ _ _ _ (by rw [ev]; exact ⟨rfl, hP2, fun b hb9 => ⟨fi b (by omega), fj b (by omega)⟩⟩))
        · intro i hin ih _
          have fb := fout_bd dle i (by omega)
          refine Ez.blk B_X9_farthestPair_47 (lo' := [some (.ref 1), some (.int (nI n)), some (.ref (57 + n)), some (.int ((fout dd N i).1)), some (.long (zL (fout dd N i).2)), none, some (.int (nI i)), none, none, none]) (st' := [.int (I5 2 0), .int (nI i)]) (I' := I5) (J' := J5) (Ps := [aO E0 1 9 ∧ E0.2.2 1 0 ≠ 0, aO E0 2 1]) rfl ⟨r_1_0, o_2⟩ ?_
          refine Ez.n_icmp_ge (off := 66) (tgt := 122) (by decide +kernel) (by decide) (a := i) (b := N) rfl hsz (by omega) (by omega) (fun h9 => absurd h9 (by omega)) (fun h9 => ?_)
          refine Ez.blk B_X9_farthestPair_59 (lo' := [some (.ref 1), some (.int (nI n)), some (.ref (57 + n)), some (.int ((fout dd N i).1)), some (.long (zL (fout dd N i).2)), none, some (.int (nI i)), some (.int (nI i + 1)), none, none]) (st' := []) (I' := I5) (J' := J5) (Ps := []) rfl trivial ?_
          rw [show (nI i + 1) = nI (i + 1) from (eq_add (a := i) (b := 1) rfl rfl)]
          obtain ⟨s, hs⟩ : ∃ s, s = fout dd N i := ⟨_, rfl⟩
          rw [← hs] at fb ⊢
          have nx : fout dd N (i + 1) = fin1 dd i s (N - (i + 1)) := by rw [hs]; rfl
          rw [nx] at ih
          have ib := fin_bd fb hin dle
          have L2 : ∀ t, t ≤ (N - (i + 1)) → True → Ez m_X9_farthestPair (d + 7) 65 [some (.ref 1), some (.int (nI n)), some (.ref (57 + n)), some (.int ((fin1 dd i s t).1)), some (.long (zL (fin1 dd i s t).2)), none, some (.int (nI i)), some (.int (nI (i + 1 + t))), none, none] [] E0 I5 J5 Q := by
            refine for_up ?_ ?_
            · intro _
              refine Ez.blk B_X9_farthestPair_65 (lo' := [some (.ref 1), some (.int (nI n)), some (.ref (57 + n)), some (.int ((fin1 dd i s (N - (i + 1))).1)), some (.long (zL (fin1 dd i s (N - (i + 1))).2)), none, some (.int (nI i)), some (.int (nI (i + 1 + (N - (i + 1))))), none, none]) (st' := [.int (I5 2 0), .int (nI (i + 1 + (N - (i + 1))))]) (I' := I5) (J' := J5) (Ps := [aO E0 1 9 ∧ E0.2.2 1 0 ≠ 0, aO E0 2 1]) rfl ⟨r_1_0, o_2⟩ ?_
              refine Ez.n_icmp_ge (off := 42) (tgt := 116) (by decide +kernel) (by decide) (a := (i + 1 + (N - (i + 1)))) (b := N) rfl hsz (by omega) (by omega) (fun h9 => ?_) (fun h9 => absurd h9 (by omega))
              refine Ez.blk B_X9_farthestPair_116 (lo' := [some (.ref 1), some (.int (nI n)), some (.ref (57 + n)), some (.int ((fin1 dd i s (N - (i + 1))).1)), some (.long (zL (fin1 dd i s (N - (i + 1))).2)), none, some (.int (nI i + 1)), some (.int (nI (i + 1 + (N - (i + 1))))), none, none]) (st' := []) (I' := I5) (J' := J5) (Ps := []) rfl trivial ?_
              rw [show (nI i + 1) = nI (i + 1) from (eq_add (a := i) (b := 1) rfl rfl)]
              refine Ez.drops [7, 8] (lo' := [some (.ref 1), some (.int (nI n)), some (.ref (57 + n)), some (.int ((fin1 dd i s (N - (i + 1))).1)), some (.long (zL (fin1 dd i s (N - (i + 1))).2)), none, some (.int (nI (i + 1))), none, none, none]) rfl ?_
              exact ih trivial
            · intro t ht ih2 _
              have ibt := ib t (by omega)
              have dl := dle i (i + 1 + t) hin (by omega)
              have da := dat i (i + 1 + t) hin (by omega)
              have cmp : zL (dd i (i + 1 + t) : Int) ≤ zL (fin1 dd i s t).2 ↔ (dd i (i + 1 + t) : Int) ≤ (fin1 dd i s t).2 := zL_le (by omega) (by omega)
              have st : fin1 dd i s (t + 1) = if (fin1 dd i s t).2 < (dd i (i + 1 + t) : Int) then (nI (10 * i + (i + 1 + t)), (dd i (i + 1 + t) : Int)) else fin1 dd i s t := rfl
              have ih2 := ih2 trivial
              rw [st] at ih2
              refine Ez.blk B_X9_farthestPair_65 (lo' := [some (.ref 1), some (.int (nI n)), some (.ref (57 + n)), some (.int ((fin1 dd i s t).1)), some (.long (zL (fin1 dd i s t).2)), none, some (.int (nI i)), some (.int (nI (i + 1 + t))), none, none]) (st' := [.int (I5 2 0), .int (nI (i + 1 + t))]) (I' := I5) (J' := J5) (Ps := [aO E0 1 9 ∧ E0.2.2 1 0 ≠ 0, aO E0 2 1]) rfl ⟨r_1_0, o_2⟩ ?_
              refine Ez.n_icmp_ge (off := 42) (tgt := 116) (by decide +kernel) (by decide) (a := (i + 1 + t)) (b := N) rfl hsz (by omega) (by omega) (fun h9 => absurd h9 (by omega)) (fun h9 => ?_)
              refine Ez.blk B_X9_farthestPair_77 (lo' := [some (.ref 1), some (.int (nI n)), some (.ref (57 + n)), some (.int ((fin1 dd i s t).1)), some (.long (zL (fin1 dd i s t).2)), none, some (.int (nI i)), some (.int (nI (i + 1 + t))), some (.long (J5 (57 + n) (((nI i * 6) + nI (i + 1 + t)).toNatClampNeg))), none]) (st' := [.int (lg_cmp (J5 (57 + n) (((nI i * 6) + nI (i + 1 + t)).toNatClampNeg)) (zL (fin1 dd i s t).2))]) (I' := I5) (J' := J5) (Ps := [aAr E0 2 (57 + n) ((nI i * 6) + nI (i + 1 + t))]) rfl (aA_in (lev_q n (by omega)) (vin (n := (i * 6 + (i + 1 + t))) (eq_add (a := (i * 6)) (b := (i + 1 + t)) (eq_mul (a := i) (b := 6) rfl rfl) rfl) (by omega) (by decide))) ?_
              rw [cln (x := ((nI i * 6) + nI (i + 1 + t))) (n := (i * 6 + (i + 1 + t))) (eq_add (a := (i * 6)) (b := (i + 1 + t)) (eq_mul (a := i) (b := 6) rfl rfl) rfl) (by omega)]
              rw [da]
              refine Ez.lif_le (off := 16) (tgt := 110) (by decide +kernel) (by decide) (fun h5 => ?_) (fun h5 => ?_)
              · refine Ez.blk B_X9_farthestPair_110 (lo' := [some (.ref 1), some (.int (nI n)), some (.ref (57 + n)), some (.int ((fin1 dd i s t).1)), some (.long (zL (fin1 dd i s t).2)), none, some (.int (nI i)), some (.int (nI (i + 1 + t) + 1)), some (.long (zL (dd i (i + 1 + t) : Int))), none]) (st' := []) (I' := I5) (J' := J5) (Ps := []) rfl trivial ?_
                rw [show (nI (i + 1 + t) + 1) = nI (i + 1 + t + 1) from (eq_add (a := (i + 1 + t)) (b := 1) rfl rfl)]
                refine Ez.drops [8] (lo' := [some (.ref 1), some (.int (nI n)), some (.ref (57 + n)), some (.int ((fin1 dd i s t).1)), some (.long (zL (fin1 dd i s t).2)), none, some (.int (nI i)), some (.int (nI (i + 1 + t + 1))), none, none]) rfl ?_
                rw [if_neg (by have := cmp.mp h5; omega)] at ih2
                exact ih2
              · refine Ez.blk B_X9_farthestPair_97 (lo' := [some (.ref 1), some (.int (nI n)), some (.ref (57 + n)), some (.int ((10 * nI i) + nI (i + 1 + t))), some (.long (zL (dd i (i + 1 + t) : Int))), none, some (.int (nI i)), some (.int (nI (i + 1 + t) + 1)), some (.long (zL (dd i (i + 1 + t) : Int))), none]) (st' := []) (I' := I5) (J' := J5) (Ps := []) rfl trivial ?_
                rw [show ((10 * nI i) + nI (i + 1 + t)) = nI (10 * i + (i + 1 + t)) from (eq_add (a := (10 * i)) (b := (i + 1 + t)) (eq_mul (a := 10) (b := i) rfl rfl) rfl)]
                rw [show (nI (i + 1 + t) + 1) = nI (i + 1 + t + 1) from (eq_add (a := (i + 1 + t)) (b := 1) rfl rfl)]
                refine Ez.drops [8] (lo' := [some (.ref 1), some (.int (nI n)), some (.ref (57 + n)), some (.int (nI (10 * i + (i + 1 + t)))), some (.long (zL (dd i (i + 1 + t) : Int))), none, some (.int (nI i)), some (.int (nI (i + 1 + t + 1))), none, none]) rfl ?_
                rw [if_pos (Int.not_le.mp (fun z => h5 (cmp.mpr z)))] at ih2
                exact ih2
          exact L2 0 (by omega) trivial
      refine Ez.blk B_X9_farthestPair_35 (lo' := [some (.ref 1), some (.int (nI n)), some (.ref (57 + n)), some (.int (-7)), some (.long (-1)), none, some (.int 0), none, none, none]) (st' := []) (I' := I5) (J' := J5) (Ps := []) rfl trivial ?_
      exact L1 0 (by omega) trivial
    · refine Ez.blk B_X9_farthestPair_20 (lo' := [some (.ref 1), some (.int m), none, none, none, none, none, none, none, none]) (st' := [.int (-4)]) (I' := I4) (J' := J4) (Ps := []) rfl trivial ?_
      exact Ez.iret rfl (by decide +kernel) (hQ _ _ _ (by unfold f_far; rw [if_pos h, if_neg h4]; exact ⟨rfl, hP, fun _ _ => ⟨rfl, rfl⟩⟩))
  · refine Ez.blk B_X9_farthestPair_10 (lo' := [some (.ref 1), some (.int m), none, none, none, none, none, none, none, none]) (st' := [.int (-1)]) (I' := I1) (J' := J1) (Ps := []) rfl trivial ?_
    exact Ez.iret rfl (by decide +kernel) (hQ _ _ _ (by unfold f_far; rw [if_neg h]; exact ⟨rfl, hP, fun _ _ => ⟨rfl, rfl⟩⟩))

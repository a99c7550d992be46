/-! SAMPLES -/
theorem us16 (x : Int32) : (x.toUInt32 >>> (Int32.toUInt32 16 &&& Int32.toUInt32 31)).toInt32 = nI (x.toBitVec.toNat / 65536) := by
  have h := pk_ushr x 16 16 (by decide)
  apply Int32.toBitVec_inj.mp
  apply BitVec.eq_of_toNat_eq
  rw [h, pk_tn (Nat.lt_of_le_of_lt (Nat.div_le_self _ _) x.toBitVec.isLt)]
theorem us_lt (x : Int32) : x.toBitVec.toNat / 65536 < 65536 := by
  have := x.toBitVec.isLt
  omega
/-- the next state for a draw -/
def nxt (c : Nat → Nat) (s v : Nat) : Nat := (ff (fun u => decide (v % c 1 < sm (fun j => c (10 + 6 * s + j)) (u + 1))) 6 0).getD 0
theorem nxt_eq {c : Nat → Nat} {s v u : Nat} (hu : u < 6) (h1 : sm (fun j => c (10 + 6 * s + j)) u ≤ v % c 1) (h2 : v % c 1 < sm (fun j => c (10 + 6 * s + j)) (u + 1)) : nxt c s v = u := by
  unfold nxt
  rw [ff_some (P := fun u => decide (v % c 1 < sm (fun j => c (10 + 6 * s + j)) (u + 1))) 6 0 u (Nat.zero_le _) (by omega) (decide_eq_true h2) (fun j _ hj => decide_eq_false (by
    have := sm_mono (f := fun j => c (10 + 6 * s + j)) (show j + 1 ≤ u by omega)
    omega))]
  rfl
def nsd (x : Int32) : Int32 := x * 1103515245 + 12345
def sst (c : Nat → Nat) (s : Nat) (x : Int32) : Nat → Nat × Int32
  | 0 => (s, x)
  | k + 1 => (nxt c (sst c s x k).1 ((nsd (sst c s x k).2).toBitVec.toNat / 65536), nsd (sst c s x k).2)
def vis (c : Nat → Nat) (lb s : Nat) (x : Int32) : Nat → Nat
  | 0 => if c (4 + s) = lb then 1 else 0
  | k + 1 => vis c lb s x k + if c (4 + (sst c s x (k + 1)).1) = lb then 1 else 0
theorem vis_le {c : Nat → Nat} {lb s : Nat} {x : Int32} : ∀ k, vis c lb s x k ≤ k + 1
  | 0 => by unfold vis; split <;> omega
  | k + 1 => by
    have := vis_le (c := c) (lb := lb) (s := s) (x := x) k
    unfold vis
    split <;> omega
def f_sample (T : TS) (x y k : Int32) : Int32 × TS := if isS T x then (if 0 ≤ k ∧ k ≤ 1000 then (nI (sst T.1 x.toNatClampNeg y k.toNatClampNeg).1, T) else (-1, T)) else (-2, T)
def f_visits (T : TS) (x y k l : Int32) : Int32 × TS := if isS T x then (if (0 ≤ k ∧ k ≤ 1000) ∧ (0 ≤ l ∧ l ≤ 3) then (nI (vis T.1 l.toNatClampNeg x.toNatClampNeg y k.toNatClampNeg), T) else (-1, T)) else (-2, T)
theorem s_nextSeed (d : Nat) (E : aE) (I : aI) (J : aJ) (x : Int32) : Sp m_X9_nextSeed (d + 1) [.int x] E I J (fun r I' J' => r = some (.int (nsd x)) ∧ I' = I ∧ J' = J) := by
  refine Sp.of (lo := [some (.int x)]) rfl (fun Q hQ => ?_)
  refine Ez.blk B_X9_nextSeed_0 (lo' := [some (.int x)]) (st' := [.int ((x * 1103515245) + 12345)]) (I' := I) (J' := J) (Ps := []) rfl trivial ?_
  exact Ez.iret rfl (by decide +kernel) (hQ _ _ _ ⟨rfl, rfl, rfl⟩)
theorem c_sample (d : Nat) (I : aI) (J : aJ) (T : TS) (W : WT T) (hP : CP T I J) (x y z : Int32) : Sp m_X9_sample (d + 2) [.ref 1, .int x, .int y, .int z] E0 I J (fun r I' J' => r = some (.int (f_sample T x y z).1) ∧ CP (f_sample T x y z).2 I' J' ∧ Fr9 I I' J J') := by
  refine Sp.of (lo := [some (.ref 1), some (.int x), some (.int y), some (.int z), none, none, none]) rfl (fun Q hQ => ?_)
  have w1 := W.1.1
  have w2 := W.1.2.1
  have wb := Wc_12 W.1
  refine Ez.blk B_X9_sample_0 (lo' := [some (.ref 1), some (.int x), some (.int y), some (.int z), none, none, none]) (st' := [.int x, .ref 2]) (I' := I) (J' := J) (Ps := [aO E0 1 9 ∧ E0.2.2 1 0 ≠ 0]) rfl r_1_0 ?_
  refine Ez.callV (As := [.int x]) (b := 2) (rest := []) kn_X1_has ml_9_95 im_X1_has se_X1_has rfl (by decide +kernel) rfl rfl (Nat.le_of_ble_eq_true rfl) (Nat.le_of_ble_eq_true rfl) o_2 (s_has _ E0 I J 2 (x) o_2) (fun r I1 J1 hq => ?_)
  obtain ⟨rfl, rfl, rfl⟩ := hq
  rw [hP.1.1 0 (by decide)]
  refine Ez.z_if_ne (off := 6) (tgt := 14) (by decide +kernel) (by decide) (fun h => ?_) (fun h => ?_)
  · refine Ez.blk B_X9_sample_14 (lo' := [some (.ref 1), some (.int x), some (.int y), some (.int z), none, none, none]) (st' := [.int 1000, .int 0, .int z]) (I' := I1) (J' := J1) (Ps := []) rfl trivial ?_
    refine Ez.callS (As := [.int z, .int 0, .int 1000]) (rest := []) kn_X9_isWithin ml_9_77 sm_X9_isWithin (by decide +kernel) rfl rfl (Nat.le_of_ble_eq_true rfl) (Nat.le_of_ble_eq_true rfl) (s_isWithin _ E0 I1 J1 z 0 1000) (fun r I2 J2 hq => ?_)
    obtain ⟨rfl, rfl, rfl⟩ := hq
    refine Ez.z_if_ne (off := 5) (tgt := 27) (by decide +kernel) (by decide) (fun h2 => ?_) (fun h2 => ?_)
    · obtain ⟨k, hk, rfl, hkc⟩ := st_of (by omega) h
      obtain ⟨n, -, hn, rfl, hnc⟩ := in_of (lo := 0) (hi := 1000) (by omega) h2 (by omega)
      have L1 : ∀ j, j ≤ n → (sst T.1 k y j).1 < T.1 0 → Ez m_X9_sample (d + 2) 36 [some (.ref 1), some (.int (nI k)), some (.int y), some (.int (nI n)), some (.int (nI ((sst T.1 k y j).1))), some (.int ((sst T.1 k y j).2)), some (.int (nI j))] [] E0 I2 J2 Q := by
        refine for_up ?_ ?_
        · intro hi
          refine Ez.blk B_X9_sample_36 (lo' := [some (.ref 1), some (.int (nI k)), some (.int y), some (.int (nI n)), some (.int (nI ((sst T.1 k y n).1))), some (.int ((sst T.1 k y n).2)), some (.int (nI n))]) (st' := [.int (nI n), .int (nI n)]) (I' := I2) (J' := J2) (Ps := []) rfl trivial ?_
          refine Ez.n_icmp_ge (off := 32) (tgt := 71) (by decide +kernel) (by decide) (a := n) (b := n) rfl rfl (by omega) (by omega) (fun h9 => ?_) (fun h9 => absurd h9 (by omega))
          refine Ez.blk B_X9_sample_71 (lo' := [some (.ref 1), some (.int (nI k)), some (.int y), some (.int (nI n)), some (.int (nI ((sst T.1 k y n).1))), some (.int ((sst T.1 k y n).2)), some (.int (nI n))]) (st' := [.int (nI ((sst T.1 k y n).1))]) (I' := I2) (J' := J2) (Ps := []) rfl trivial ?_
          exact Ez.iret rfl (by decide +kernel) (hQ _ _ _ (by unfold f_sample; rw [if_pos h, if_pos h2, hkc, hnc]; exact ⟨rfl, hP, fun _ _ => ⟨rfl, rfl⟩⟩))
        · intro j hj ih hi
          refine Ez.blk B_X9_sample_36 (lo' := [some (.ref 1), some (.int (nI k)), some (.int y), some (.int (nI n)), some (.int (nI ((sst T.1 k y j).1))), some (.int ((sst T.1 k y j).2)), some (.int (nI j))]) (st' := [.int (nI n), .int (nI j)]) (I' := I2) (J' := J2) (Ps := []) rfl trivial ?_
          refine Ez.n_icmp_ge (off := 32) (tgt := 71) (by decide +kernel) (by decide) (a := j) (b := n) rfl rfl (by omega) (by omega) (fun h9 => absurd h9 (by omega)) (fun h9 => ?_)
          refine Ez.blk B_X9_sample_42 (lo' := [some (.ref 1), some (.int (nI k)), some (.int y), some (.int (nI n)), some (.int (nI ((sst T.1 k y j).1))), some (.int ((sst T.1 k y j).2)), some (.int (nI j))]) (st' := [.int ((sst T.1 k y j).2)]) (I' := I2) (J' := J2) (Ps := []) rfl trivial ?_
          refine Ez.callS (As := [.int ((sst T.1 k y j).2)]) (rest := []) kn_X9_nextSeed ml_9_226 sm_X9_nextSeed (by decide +kernel) rfl rfl (Nat.le_of_ble_eq_true rfl) (Nat.le_of_ble_eq_true rfl) (s_nextSeed _ E0 I2 J2 ((sst T.1 k y j).2)) (fun r I3 J3 hq => ?_)
          obtain ⟨rfl, rfl, rfl⟩ := hq
          refine Ez.blk B_X9_sample_47 (lo' := [some (.ref 1), some (.int (nI k)), some (.int y), some (.int (nI n)), some (.int (nI ((sst T.1 k y j).1))), some (.int (nsd ((sst T.1 k y j).2))), some (.int (nI j))]) (st' := [.int (((nsd ((sst T.1 k y j).2)).toUInt32 >>> ((16 : Int32).toUInt32 &&& Int32.toUInt32 31)).toInt32), .int (nI ((sst T.1 k y j).1)), .ref 2]) (I' := I3) (J' := J3) (Ps := [aO E0 1 9 ∧ E0.2.2 1 0 ≠ 0]) rfl r_1_0 ?_
          rw [us16]
          refine Ez.callV (As := [.int (nI ((sst T.1 k y j).1)), .int (nI ((nsd ((sst T.1 k y j).2)).toBitVec.toNat / 65536))]) (b := 2) (rest := []) kn_X1_successorAt ml_9_229 im_X1_successorAt se_X1_successorAt rfl (by decide +kernel) rfl rfl (Nat.le_of_ble_eq_true rfl) (Nat.le_of_ble_eq_true rfl) o_2 (s_succ _ E0 I3 J3 2 ((sst T.1 k y j).1) ((nsd ((sst T.1 k y j).2)).toBitVec.toNat / 65536) CE_2 T.1 hP.1 W.1 hi (us_lt _)) (fun r I4 J4 hq => ?_)
          obtain ⟨⟨u, hu, rfl, u1, u2⟩, rfl, rfl⟩ := hq
          have eu := nxt_eq (by omega) u1 u2
          refine Ez.blk B_X9_sample_63 (lo' := [some (.ref 1), some (.int (nI k)), some (.int y), some (.int (nI n)), some (.int (nI u)), some (.int (nsd ((sst T.1 k y j).2))), some (.int (nI j + 1))]) (st' := []) (I' := I4) (J' := J4) (Ps := []) rfl trivial ?_
          rw [show (nI j + 1) = nI (j + 1) from (eq_add (a := j) (b := 1) rfl rfl)]
          have es : sst T.1 k y (j + 1) = (u, nsd (sst T.1 k y j).2) := by show (nxt _ _ _, _) = _; rw [eu]
          have ih := ih (by rw [es]; exact hu)
          rw [es] at ih
          exact ih
      refine Ez.blk B_X9_sample_27 (lo' := [some (.ref 1), some (.int (nI k)), some (.int y), some (.int (nI n)), some (.int (nI k)), some (.int y), some (.int 0)]) (st' := []) (I' := I2) (J' := J2) (Ps := []) rfl trivial ?_
      exact L1 0 (by omega) hk
    · refine Ez.blk B_X9_sample_25 (lo' := [some (.ref 1), some (.int x), some (.int y), some (.int z), none, none, none]) (st' := [.int (-1)]) (I' := I2) (J' := J2) (Ps := []) rfl trivial ?_
      exact Ez.iret rfl (by decide +kernel) (hQ _ _ _ (by unfold f_sample; rw [if_pos h, if_neg h2]; exact ⟨rfl, hP, fun _ _ => ⟨rfl, rfl⟩⟩))
  · refine Ez.blk B_X9_sample_11 (lo' := [some (.ref 1), some (.int x), some (.int y), some (.int z), none, none, none]) (st' := [.int (-2)]) (I' := I1) (J' := J1) (Ps := []) rfl trivial ?_
    exact Ez.iret rfl (by decide +kernel) (hQ _ _ _ (by unfold f_sample; rw [if_neg h]; exact ⟨rfl, hP, fun _ _ => ⟨rfl, rfl⟩⟩))
theorem c_visits (d : Nat) (I : aI) (J : aJ) (T : TS) (W : WT T) (hP : CP T I J) (x y z l : Int32) : Sp m_X9_sampledVisits (d + 2) [.ref 1, .int x, .int y, .int z, .int l] E0 I J (fun r I' J' => r = some (.int (f_visits T x y z l).1) ∧ CP (f_visits T x y z l).2 I' J' ∧ Fr9 I I' J J') := by
  refine Sp.of (lo := [some (.ref 1), some (.int x), some (.int y), some (.int z), some (.int l), none, none, none, none]) rfl (fun Q hQ => ?_)
  have w1 := W.1.1
  have w2 := W.1.2.1
  have wb := Wc_12 W.1
  refine Ez.blk B_X9_sampledVisits_0 (lo' := [some (.ref 1), some (.int x), some (.int y), some (.int z), some (.int l), none, none, none, none]) (st' := [.int x, .ref 2]) (I' := I) (J' := J) (Ps := [aO E0 1 9 ∧ E0.2.2 1 0 ≠ 0]) rfl r_1_0 ?_
  refine Ez.callV (As := [.int x]) (b := 2) (rest := []) kn_X1_has ml_9_95 im_X1_has se_X1_has rfl (by decide +kernel) rfl rfl (Nat.le_of_ble_eq_true rfl) (Nat.le_of_ble_eq_true rfl) o_2 (s_has _ E0 I J 2 (x) o_2) (fun r I1 J1 hq => ?_)
  obtain ⟨rfl, rfl, rfl⟩ := hq
  rw [hP.1.1 0 (by decide)]
  refine Ez.z_if_ne (off := 6) (tgt := 14) (by decide +kernel) (by decide) (fun h => ?_) (fun h => ?_)
  · refine Ez.blk B_X9_sampledVisits_14 (lo' := [some (.ref 1), some (.int x), some (.int y), some (.int z), some (.int l), none, none, none, none]) (st' := [.int 1000, .int 0, .int z]) (I' := I1) (J' := J1) (Ps := []) rfl trivial ?_
    refine Ez.callS (As := [.int z, .int 0, .int 1000]) (rest := []) kn_X9_isWithin ml_9_77 sm_X9_isWithin (by decide +kernel) rfl rfl (Nat.le_of_ble_eq_true rfl) (Nat.le_of_ble_eq_true rfl) (s_isWithin _ E0 I1 J1 z 0 1000) (fun r I2 J2 hq => ?_)
    obtain ⟨rfl, rfl, rfl⟩ := hq
    refine Ez.z_if_eq (off := 13) (tgt := 35) (by decide +kernel) (by decide) (fun h2 => ?_) (fun h2 => ?_)
    · refine Ez.blk B_X9_sampledVisits_35 (lo' := [some (.ref 1), some (.int x), some (.int y), some (.int z), some (.int l), none, none, none, none]) (st' := [.int (-1)]) (I' := I2) (J' := J2) (Ps := []) rfl trivial ?_
      exact Ez.iret rfl (by decide +kernel) (hQ _ _ _ (by unfold f_visits; rw [if_pos h, if_neg (fun q => h2 q.1)]; exact ⟨rfl, hP, fun _ _ => ⟨rfl, rfl⟩⟩))
    · refine Ez.blk B_X9_sampledVisits_25 (lo' := [some (.ref 1), some (.int x), some (.int y), some (.int z), some (.int l), none, none, none, none]) (st' := [.int 3, .int 0, .int l]) (I' := I2) (J' := J2) (Ps := []) rfl trivial ?_
      refine Ez.callS (As := [.int l, .int 0, .int 3]) (rest := []) kn_X9_isWithin ml_9_77 sm_X9_isWithin (by decide +kernel) rfl rfl (Nat.le_of_ble_eq_true rfl) (Nat.le_of_ble_eq_true rfl) (s_isWithin _ E0 I2 J2 l 0 3) (fun r I3 J3 hq => ?_)
      obtain ⟨rfl, rfl, rfl⟩ := hq
      refine Ez.z_if_ne (off := 5) (tgt := 37) (by decide +kernel) (by decide) (fun h3 => ?_) (fun h3 => ?_)
      · obtain ⟨k, hk, rfl, hkc⟩ := st_of (by omega) h
        obtain ⟨n, -, hn, rfl, hnc⟩ := in_of (lo := 0) (hi := 1000) (by omega) h2 (by omega)
        obtain ⟨lb, -, hlb, rfl, hlc⟩ := in_of (lo := 0) (hi := 3) (by omega) h3 (by omega)
        have L1 : ∀ j, j ≤ n → (sst T.1 k y j).1 < T.1 0 → Ez m_X9_sampledVisits (d + 2) 68 [some (.ref 1), some (.int (nI k)), some (.int y), some (.int (nI n)), some (.int (nI lb)), some (.int (nI ((sst T.1 k y j).1))), some (.int ((sst T.1 k y j).2)), some (.int (nI (vis T.1 lb k y j))), some (.int (nI j))] [] E0 I3 J3 Q := by
          refine for_up ?_ ?_
          · intro hi
            refine Ez.blk B_X9_sampledVisits_68 (lo' := [some (.ref 1), some (.int (nI k)), some (.int y), some (.int (nI n)), some (.int (nI lb)), some (.int (nI ((sst T.1 k y n).1))), some (.int ((sst T.1 k y n).2)), some (.int (nI (vis T.1 lb k y n))), some (.int (nI n))]) (st' := [.int (nI n), .int (nI n)]) (I' := I3) (J' := J3) (Ps := []) rfl trivial ?_
            refine Ez.n_icmp_ge (off := 50) (tgt := 121) (by decide +kernel) (by decide) (a := n) (b := n) rfl rfl (by omega) (by omega) (fun h9 => ?_) (fun h9 => absurd h9 (by omega))
            refine Ez.blk B_X9_sampledVisits_121 (lo' := [some (.ref 1), some (.int (nI k)), some (.int y), some (.int (nI n)), some (.int (nI lb)), some (.int (nI ((sst T.1 k y n).1))), some (.int ((sst T.1 k y n).2)), some (.int (nI (vis T.1 lb k y n))), some (.int (nI n))]) (st' := [.int (nI (vis T.1 lb k y n))]) (I' := I3) (J' := J3) (Ps := []) rfl trivial ?_
            exact Ez.iret rfl (by decide +kernel) (hQ _ _ _ (by unfold f_visits; rw [if_pos h, if_pos ⟨h2, h3⟩, hkc, hnc, hlc]; exact ⟨rfl, hP, fun _ _ => ⟨rfl, rfl⟩⟩))
          · intro j hj ih hi
            refine Ez.blk B_X9_sampledVisits_68 (lo' := [some (.ref 1), some (.int (nI k)), some (.int y), some (.int (nI n)), some (.int (nI lb)), some (.int (nI ((sst T.1 k y j).1))), some (.int ((sst T.1 k y j).2)), some (.int (nI (vis T.1 lb k y j))), some (.int (nI j))]) (st' := [.int (nI n), .int (nI j)]) (I' := I3) (J' := J3) (Ps := []) rfl trivial ?_
            refine Ez.n_icmp_ge (off := 50) (tgt := 121) (by decide +kernel) (by decide) (a := j) (b := n) rfl rfl (by omega) (by omega) (fun h9 => absurd h9 (by omega)) (fun h9 => ?_)
            refine Ez.blk B_X9_sampledVisits_74 (lo' := [some (.ref 1), some (.int (nI k)), some (.int y), some (.int (nI n)), some (.int (nI lb)), some (.int (nI ((sst T.1 k y j).1))), some (.int ((sst T.1 k y j).2)), some (.int (nI (vis T.1 lb k y j))), some (.int (nI j))]) (st' := [.int ((sst T.1 k y j).2)]) (I' := I3) (J' := J3) (Ps := []) rfl trivial ?_
            refine Ez.callS (As := [.int ((sst T.1 k y j).2)]) (rest := []) kn_X9_nextSeed ml_9_226 sm_X9_nextSeed (by decide +kernel) rfl rfl (Nat.le_of_ble_eq_true rfl) (Nat.le_of_ble_eq_true rfl) (s_nextSeed _ E0 I3 J3 ((sst T.1 k y j).2)) (fun r I4 J4 hq => ?_)
            obtain ⟨rfl, rfl, rfl⟩ := hq
            refine Ez.blk B_X9_sampledVisits_79 (lo' := [some (.ref 1), some (.int (nI k)), some (.int y), some (.int (nI n)), some (.int (nI lb)), some (.int (nI ((sst T.1 k y j).1))), some (.int (nsd ((sst T.1 k y j).2))), some (.int (nI (vis T.1 lb k y j))), some (.int (nI j))]) (st' := [.int (((nsd ((sst T.1 k y j).2)).toUInt32 >>> ((16 : Int32).toUInt32 &&& Int32.toUInt32 31)).toInt32), .int (nI ((sst T.1 k y j).1)), .ref 2]) (I' := I4) (J' := J4) (Ps := [aO E0 1 9 ∧ E0.2.2 1 0 ≠ 0]) rfl r_1_0 ?_
            rw [us16]
            refine Ez.callV (As := [.int (nI ((sst T.1 k y j).1)), .int (nI ((nsd ((sst T.1 k y j).2)).toBitVec.toNat / 65536))]) (b := 2) (rest := []) kn_X1_successorAt ml_9_229 im_X1_successorAt se_X1_successorAt rfl (by decide +kernel) rfl rfl (Nat.le_of_ble_eq_true rfl) (Nat.le_of_ble_eq_true rfl) o_2 (s_succ _ E0 I4 J4 2 ((sst T.1 k y j).1) ((nsd ((sst T.1 k y j).2)).toBitVec.toNat / 65536) CE_2 T.1 hP.1 W.1 hi (us_lt _)) (fun r I5 J5 hq => ?_)
            obtain ⟨⟨u, hu, rfl, u1, u2⟩, rfl, rfl⟩ := hq
            have eu := nxt_eq (by omega) u1 u2
            have es : sst T.1 k y (j + 1) = (u, nsd (sst T.1 k y j).2) := by show (nxt _ _ _, _) = _; rw [eu]
            have ih := ih (by rw [es]; exact hu)
            have ev : vis T.1 lb k y (j + 1) = vis T.1 lb k y j + if T.1 (4 + u) = lb then 1 else 0 := by show _ + (if T.1 (4 + (sst T.1 k y (j + 1)).1) = lb then 1 else 0) = _; rw [es]
            rw [es, ev] at ih
            have vl := vis_le (c := T.1) (lb := lb) (s := k) (x := y) j
            have wl := wb (4 + u) (by omega)
            refine Ez.blk B_X9_sampledVisits_95 (lo' := [some (.ref 1), some (.int (nI k)), some (.int y), some (.int (nI n)), some (.int (nI lb)), some (.int (nI u)), some (.int (nsd ((sst T.1 k y j).2))), some (.int (nI (vis T.1 lb k y j))), some (.int (nI j))]) (st' := [.int (nI lb), .int (I5 3 ((nI u).toNatClampNeg))]) (I' := I5) (J' := J5) (Ps := [aO E0 1 9 ∧ E0.2.2 1 0 ≠ 0, aO E0 2 1 ∧ E0.2.2 2 4 ≠ 0, aAr E0 1 3 (nI u)]) rfl ⟨r_1_0, r_2_4, (a_3 (vin (n := u) rfl (by omega) (by decide)))⟩ ?_
            rw [cln (x := nI u) (n := u) rfl (by omega)]
            rw [hP.1.2.1 u (by omega)]
            refine Ez.n_icmp_ne (off := 6) (tgt := 115) (by decide +kernel) (by decide) (a := (T.1 (4 + u))) (b := lb) rfl rfl (by omega) (by omega) (fun h10 => ?_) (fun h10 => ?_)
            · rw [if_neg h10] at ih
              refine Ez.blk B_X9_sampledVisits_115 (lo' := [some (.ref 1), some (.int (nI k)), some (.int y), some (.int (nI n)), some (.int (nI lb)), some (.int (nI u)), some (.int (nsd ((sst T.1 k y j).2))), some (.int (nI (vis T.1 lb k y j))), some (.int (nI j + 1))]) (st' := []) (I' := I5) (J' := J5) (Ps := []) rfl trivial ?_
              rw [show (nI j + 1) = nI (j + 1) from (eq_add (a := j) (b := 1) rfl rfl)]
              exact ih
            · rw [if_pos h10] at ih
              refine Ez.blk B_X9_sampledVisits_112 (lo' := [some (.ref 1), some (.int (nI k)), some (.int y), some (.int (nI n)), some (.int (nI lb)), some (.int (nI u)), some (.int (nsd ((sst T.1 k y j).2))), some (.int (nI (vis T.1 lb k y j) + 1)), some (.int (nI j + 1))]) (st' := []) (I' := I5) (J' := J5) (Ps := []) rfl trivial ?_
              rw [show (nI (vis T.1 lb k y j) + 1) = nI (vis T.1 lb k y j + 1) from (eq_add (a := (vis T.1 lb k y j)) (b := 1) rfl rfl)]
              rw [show (nI j + 1) = nI (j + 1) from (eq_add (a := j) (b := 1) rfl rfl)]
              exact ih
        have wl := wb (4 + k) (by omega)
        have L0 := L1 0 (by omega) hk
        have ev : vis T.1 lb k y 0 = if T.1 (4 + k) = lb then 1 else 0 := rfl
        rw [ev] at L0
        refine Ez.blk B_X9_sampledVisits_37 (lo' := [some (.ref 1), some (.int (nI k)), some (.int y), some (.int (nI n)), some (.int (nI lb)), some (.int (nI k)), some (.int y), none, none]) (st' := [.int (nI lb), .int (I3 3 ((nI k).toNatClampNeg))]) (I' := I3) (J' := J3) (Ps := [aO E0 1 9 ∧ E0.2.2 1 0 ≠ 0, aO E0 2 1 ∧ E0.2.2 2 4 ≠ 0, aAr E0 1 3 (nI k)]) rfl ⟨r_1_0, r_2_4, (a_3 (vin (n := k) rfl (by omega) (by decide)))⟩ ?_
        rw [cln (x := nI k) (n := k) rfl (by omega)]
        rw [hP.1.2.1 k (by omega)]
        refine Ez.n_icmp_ne (off := 7) (tgt := 62) (by decide +kernel) (by decide) (a := (T.1 (4 + k))) (b := lb) rfl rfl (by omega) (by omega) (fun h9 => ?_) (fun h9 => ?_)
        · rw [if_neg h9] at L0
          refine Ez.blk B_X9_sampledVisits_62 (lo' := [some (.ref 1), some (.int (nI k)), some (.int y), some (.int (nI n)), some (.int (nI lb)), some (.int (nI k)), some (.int y), some (.int 0), some (.int 0)]) (st' := []) (I' := I3) (J' := J3) (Ps := []) rfl trivial ?_
          exact L0
        · rw [if_pos h9] at L0
          refine Ez.blk B_X9_sampledVisits_58 (lo' := [some (.ref 1), some (.int (nI k)), some (.int y), some (.int (nI n)), some (.int (nI lb)), some (.int (nI k)), some (.int y), none, none]) (st' := [.int 1]) (I' := I3) (J' := J3) (Ps := []) rfl trivial ?_
          refine Ez.blk B_X9_sampledVisits_63 (lo' := [some (.ref 1), some (.int (nI k)), some (.int y), some (.int (nI n)), some (.int (nI lb)), some (.int (nI k)), some (.int y), some (.int 1), some (.int 0)]) (st' := []) (I' := I3) (J' := J3) (Ps := []) rfl trivial ?_
          exact L0
      · refine Ez.blk B_X9_sampledVisits_35 (lo' := [some (.ref 1), some (.int x), some (.int y), some (.int z), some (.int l), none, none, none, none]) (st' := [.int (-1)]) (I' := I3) (J' := J3) (Ps := []) rfl trivial ?_
        exact Ez.iret rfl (by decide +kernel) (hQ _ _ _ (by unfold f_visits; rw [if_pos h, if_neg (fun q => h3 q.2)]; exact ⟨rfl, hP, fun _ _ => ⟨rfl, rfl⟩⟩))
  · refine Ez.blk B_X9_sampledVisits_11 (lo' := [some (.ref 1), some (.int x), some (.int y), some (.int z), some (.int l), none, none, none, none]) (st' := [.int (-2)]) (I' := I1) (J' := J1) (Ps := []) rfl trivial ?_
    exact Ez.iret rfl (by decide +kernel) (hQ _ _ _ (by unfold f_visits; rw [if_neg h]; exact ⟨rfl, hP, fun _ _ => ⟨rfl, rfl⟩⟩))
/-! DISTANCES OF DISTRIBUTIONS -/
def adf (a b : Nat) : Nat := (a - b) + (b - a)
theorem abs_d {a b : Nat} (ha : a < 1073741824) (hb : b < 1073741824) : (if (0 : Int32) ≤ nI a - nI b then nI a - nI b else 0 - (nI a - nI b)) = nI (adf a b) := by
  unfold adf
  by_cases h : b ≤ a
  · rw [if_pos ((sub_ge ha hb).mpr h), pk_sub h, show a - b + (b - a) = a - b by omega]
  · rw [if_neg (fun q => h ((sub_ge ha hb).mp q)), show a - b + (b - a) = b - a by omega, ← pk_sub (show a ≤ b by omega)]
    rw [Int32.sub_eq_add_neg, Int32.neg_sub, Int32.zero_add]
theorem max_n {a b : Nat} (ha : a < 2147483648) (hb : b < 2147483648) : (if nI a < nI b then nI b else nI a) = nI (max a b) := by
  by_cases h : a < b
  · rw [if_pos ((nI_ltI ha hb).mpr h), Nat.max_eq_right (by omega)]
  · rw [if_neg (fun q => h ((nI_ltI ha hb).mp q)), Nat.max_eq_left (by omega)]
theorem min_n {a b : Nat} (ha : a < 2147483648) (hb : b < 2147483648) : (if nI b < nI a then nI b else nI a) = nI (min a b) := by
  by_cases h : b < a
  · rw [if_pos ((nI_ltI hb ha).mpr h), Nat.min_eq_right (by omega)]
  · rw [if_neg (fun q => h ((nI_ltI hb ha).mp q)), Nat.min_eq_left (by omega)]
theorem dif_add {a b x y : Nat} : (nI a - nI b) + (nI x - nI y) = nI (a + x) - nI (b + y) := by
  rw [← nI_add, ← nI_add]
  simp only [Int32.sub_eq_add_neg, Int32.neg_add]
  ac_rfl
def mxf (f : Nat → Nat) : Nat → Nat
  | 0 => 0
  | k + 1 => max (mxf f k) (f k)
theorem mxf_le {f : Nat → Nat} {m : Nat} : ∀ {n : Nat}, (∀ k, k < n → f k ≤ m) → mxf f n ≤ m
  | 0, _ => Nat.zero_le _
  | n + 1, h => Nat.max_le.mpr ⟨mxf_le (fun k hk => h k (by omega)), h n (by omega)⟩
theorem sm_bd {f : Nat → Nat} {m : Nat} : ∀ {n : Nat}, (∀ k, k < n → f k ≤ m) → sm f n ≤ n * m
  | 0, _ => Nat.zero_le _
  | n + 1, h => by
    have h1 := sm_bd (n := n) (fun k hk => h k (by omega))
    have h2 := h n (by omega)
    show sm f n + f n ≤ (n + 1) * m
    rw [Nat.add_mul, Nat.one_mul]
    omega
/-- the row of a state -/
abbrev rw_ (c : Nat → Nat) (s : Nat) : Nat → Nat := fun j => c (10 + 6 * s + j)
def ddk (c : Nat → Nat) (s t k : Nat) : Nat := if k = 0 then sm (fun u => adf (rw_ c s u) (rw_ c t u)) (c 0) / 2 else if k = 1 then mxf (fun u => adf (rw_ c s u) (rw_ c t u)) (c 0) else if k = 2 then sm (fun u => adf (sm (rw_ c s) (u + 1)) (sm (rw_ c t) (u + 1))) (c 0 - 1) else sm (fun u => min (rw_ c s u) (rw_ c t u)) (c 0)
def f_dd (T : TS) (x y k : Int32) : Int32 × TS := if isS T x ∧ isS T y then (if 0 ≤ k ∧ k ≤ 3 then (nI (ddk T.1 x.toNatClampNeg y.toNatClampNeg k.toNatClampNeg), T) else (-1, T)) else (-2, T)
theorem s_wdiff (d : Nat) (I : aI) (J : aJ) (c : Nat → Nat) (hc : Ch I 2 c) (W : Wc c) (s t u : Nat) (hs : s < 6) (ht : t < 6) (hu : u < 6) : Sp m_X9_weightDifference (d + 1) [.ref 1, .int (nI s), .int (nI t), .int (nI u)] E0 I J (fun r I' J' => r = some (.int (nI (rw_ c s u) - nI (rw_ c t u))) ∧ I' = I ∧ J' = J) := by
  refine Sp.of (lo := [some (.ref 1), some (.int (nI s)), some (.int (nI t)), some (.int (nI u))]) rfl (fun Q hQ => ?_)
  refine Ez.blk B_X9_weightDifference_0 (lo' := [some (.ref 1), some (.int (nI s)), some (.int (nI t)), some (.int (nI u))]) (st' := [.int (I 4 (((nI s * 6) + nI u).toNatClampNeg) - I 4 (((nI t * 6) + nI u).toNatClampNeg))]) (I' := I) (J' := J) (Ps := [aO E0 1 9 ∧ E0.2.2 1 0 ≠ 0, aO E0 2 1 ∧ E0.2.2 2 5 ≠ 0, aAr E0 1 4 ((nI s * 6) + nI u), aO E0 1 9 ∧ E0.2.2 1 0 ≠ 0, aO E0 2 1 ∧ E0.2.2 2 5 ≠ 0, aAr E0 1 4 ((nI t * 6) + nI u)]) rfl ⟨r_1_0, r_2_5, (a_4 (vin (n := (s * 6 + u)) (eq_add (a := (s * 6)) (b := u) (eq_mul (a := s) (b := 6) rfl rfl) rfl) (by omega) (by decide))), r_1_0, r_2_5, (a_4 (vin (n := (t * 6 + u)) (eq_add (a := (t * 6)) (b := u) (eq_mul (a := t) (b := 6) rfl rfl) rfl) (by omega) (by decide)))⟩ ?_
  rw [cln (x := ((nI s * 6) + nI u)) (n := (s * 6 + u)) (eq_add (a := (s * 6)) (b := u) (eq_mul (a := s) (b := 6) rfl rfl) rfl) (by omega)]
  rw [cln (x := ((nI t * 6) + nI u)) (n := (t * 6 + u)) (eq_add (a := (t * 6)) (b := u) (eq_mul (a := t) (b := 6) rfl rfl) rfl) (by omega)]
  rw [hc.2.2 (s * 6 + u) (by omega), hc.2.2 (t * 6 + u) (by omega), show 10 + (s * 6 + u) = 10 + 6 * s + u by omega, show 10 + (t * 6 + u) = 10 + 6 * t + u by omega]
  exact Ez.iret rfl (by decide +kernel) (hQ _ _ _ ⟨rfl, rfl, rfl⟩)
theorem s_tv (d : Nat) (I : aI) (J : aJ) (c : Nat → Nat) (hc : Ch I 2 c) (W : Wc c) (s t : Nat) (hs : s < c 0) (ht : t < c 0) : Sp m_X9_totalVariation (d + 2) [.ref 1, .int (nI s), .int (nI t)] E0 I J (fun r I' J' => r = some (.int (nI (sm (fun u => adf (rw_ c s u) (rw_ c t u)) (c 0) / 2))) ∧ I' = I ∧ J' = J) := by
  refine Sp.of (lo := [some (.ref 1), some (.int (nI s)), some (.int (nI t)), none, none]) rfl (fun Q hQ => ?_)
  have w1 := W.1
  have w2 := W.2.1
  have wl := W.2.2.2.1
  have w12 := Wc_w W
  have rs : ∀ u, u < c 0 → rw_ c s u ≤ 12 := fun u hu => by have := w12 (6 * s + u) (by omega); rw [show 10 + (6 * s + u) = 10 + 6 * s + u by omega] at this; exact this
  have rt : ∀ u, u < c 0 → rw_ c t u ≤ 12 := fun u hu => by have := w12 (6 * t + u) (by omega); rw [show 10 + (6 * t + u) = 10 + 6 * t + u by omega] at this; exact this
  have ab : ∀ u, u < c 0 → adf (rw_ c s u) (rw_ c t u) ≤ 12 := fun u hu => by have := rs u hu; have := rt u hu; unfold adf; omega
  obtain ⟨f, hf⟩ : ∃ f : Nat → Nat, f = fun u => adf (rw_ c s u) (rw_ c t u) := ⟨_, rfl⟩
  have bd : ∀ k, k ≤ c 0 → sm f k ≤ 72 := fun k hk => Nat.le_trans (sm_bd (m := 12) (fun u hu => by rw [hf]; exact ab u (by omega))) (by omega)
  rw [← hf] at hQ
  have L1 : ∀ k, k ≤ c 0 → True → Ez m_X9_totalVariation (d + 2) 5 [some (.ref 1), some (.int (nI s)), some (.int (nI t)), some (.int (nI (sm f k))), some (.int (nI k))] [] E0 I J Q := by
    refine for_up ?_ ?_
    · intro hi
      have b0 := bd (c 0) (Nat.le_refl _)
      refine Ez.blk B_X9_totalVariation_5 (lo' := [some (.ref 1), some (.int (nI s)), some (.int (nI t)), some (.int (nI (sm f (c 0)))), some (.int (nI (c 0)))]) (st' := [.int (I 2 0), .int (nI (c 0))]) (I' := I) (J' := J) (Ps := [aO E0 1 9 ∧ E0.2.2 1 0 ≠ 0, aO E0 2 1]) rfl ⟨r_1_0, o_2⟩ ?_
      refine Ez.n_icmp_ge (off := 23) (tgt := 37) (by decide +kernel) (by decide) (a := (c 0)) (b := (c 0)) rfl (hc.1 0 (by decide)) (by omega) (by omega) (fun h => ?_) (fun h => absurd h (by omega))
      refine Ez.blk B_X9_totalVariation_37 (lo' := [some (.ref 1), some (.int (nI s)), some (.int (nI t)), some (.int (nI (sm f (c 0)))), some (.int (nI (c 0)))]) (st' := [.int (nI (sm f (c 0)) / 2)]) (I' := I) (J' := J) (Ps := [¬ 2 = 0]) rfl (show ¬ (2 : Int32) = 0 by decide) ?_
      rw [show nI (sm f (c 0)) / 2 = nI (sm f (c 0) / 2) from eq_div (a := sm f (c 0)) (b := 2) rfl rfl (by omega) (by omega) (by omega)]
      exact Ez.iret rfl (by decide +kernel) (hQ _ _ _ ⟨rfl, rfl, rfl⟩)
    · intro k hk ih hi
      refine Ez.blk B_X9_totalVariation_5 (lo' := [some (.ref 1), some (.int (nI s)), some (.int (nI t)), some (.int (nI (sm f k))), some (.int (nI k))]) (st' := [.int (I 2 0), .int (nI k)]) (I' := I) (J' := J) (Ps := [aO E0 1 9 ∧ E0.2.2 1 0 ≠ 0, aO E0 2 1]) rfl ⟨r_1_0, o_2⟩ ?_
      refine Ez.n_icmp_ge (off := 23) (tgt := 37) (by decide +kernel) (by decide) (a := k) (b := (c 0)) rfl (hc.1 0 (by decide)) (by omega) (by omega) (fun h => absurd h (by omega)) (fun h => ?_)
      refine Ez.blk B_X9_totalVariation_17 (lo' := [some (.ref 1), some (.int (nI s)), some (.int (nI t)), some (.int (nI (sm f k))), some (.int (nI k))]) (st' := [.int (nI k), .int (nI t), .int (nI s), .ref 1, .int (nI (sm f k))]) (I' := I) (J' := J) (Ps := []) rfl trivial ?_
      refine Ez.callV (As := [.int (nI s), .int (nI t), .int (nI k)]) (b := 1) (rest := [.int (nI (sm f k))]) kn_X9_weightDifference ml_9_176 im_X9_weightDifference se_X9_weightDifference rfl (by decide +kernel) rfl rfl (Nat.le_of_ble_eq_true rfl) (Nat.le_of_ble_eq_true rfl) o_1 (s_wdiff _ I J c hc W s t k (by omega) (by omega) (by omega)) (fun r I2 J2 hq => ?_)
      obtain ⟨rfl, rfl, rfl⟩ := hq
      have r1 := rs k hk
      have r2 := rt k hk
      refine Ez.blk B_X9_totalVariation_26 (lo' := [some (.ref 1), some (.int (nI s)), some (.int (nI t)), some (.int (nI (sm f k) + (if 0 ≤ (nI (rw_ c s k) - nI (rw_ c t k)) then (nI (rw_ c s k) - nI (rw_ c t k)) else 0 - (nI (rw_ c s k) - nI (rw_ c t k))))), some (.int (nI k + 1))]) (st' := []) (I' := I2) (J' := J2) (Ps := []) rfl trivial ?_
      rw [show (nI k + 1) = nI (k + 1) from (eq_add (a := k) (b := 1) rfl rfl)]
      rw [abs_d (by omega) (by omega), nI_add, show sm f k + adf (rw_ c s k) (rw_ c t k) = sm f (k + 1) by show _ = _ + f k; rw [hf]]
      exact ih trivial
  refine Ez.blk B_X9_totalVariation_0 (lo' := [some (.ref 1), some (.int (nI s)), some (.int (nI t)), some (.int 0), some (.int 0)]) (st' := []) (I' := I) (J' := J) (Ps := []) rfl trivial ?_
  exact L1 0 (by omega) trivial
theorem s_mx (d : Nat) (I : aI) (J : aJ) (c : Nat → Nat) (hc : Ch I 2 c) (W : Wc c) (s t : Nat) (hs : s < c 0) (ht : t < c 0) : Sp m_X9_largestDifference (d + 2) [.ref 1, .int (nI s), .int (nI t)] E0 I J (fun r I' J' => r = some (.int (nI (mxf (fun u => adf (rw_ c s u) (rw_ c t u)) (c 0)))) ∧ I' = I ∧ J' = J) := by
  refine Sp.of (lo := [some (.ref 1), some (.int (nI s)), some (.int (nI t)), none, none]) rfl (fun Q hQ => ?_)
  have w1 := W.1
  have w2 := W.2.1
  have wl := W.2.2.2.1
  have w12 := Wc_w W
  have rs : ∀ u, u < c 0 → rw_ c s u ≤ 12 := fun u hu => by have := w12 (6 * s + u) (by omega); rw [show 10 + (6 * s + u) = 10 + 6 * s + u by omega] at this; exact this
  have rt : ∀ u, u < c 0 → rw_ c t u ≤ 12 := fun u hu => by have := w12 (6 * t + u) (by omega); rw [show 10 + (6 * t + u) = 10 + 6 * t + u by omega] at this; exact this
  have ab : ∀ u, u < c 0 → adf (rw_ c s u) (rw_ c t u) ≤ 12 := fun u hu => by have := rs u hu; have := rt u hu; unfold adf; omega
  obtain ⟨f, hf⟩ : ∃ f : Nat → Nat, f = fun u => adf (rw_ c s u) (rw_ c t u) := ⟨_, rfl⟩
  have bd : ∀ k, k ≤ c 0 → mxf f k ≤ 12 := fun k hk => mxf_le (fun u hu => by rw [hf]; exact ab u (by omega))
  rw [← hf] at hQ
  have L1 : ∀ k, k ≤ c 0 → True → Ez m_X9_largestDifference (d + 2) 5 [some (.ref 1), some (.int (nI s)), some (.int (nI t)), some (.int (nI (mxf f k))), some (.int (nI k))] [] E0 I J Q := by
    refine for_up ?_ ?_
    · intro hi
      refine Ez.blk B_X9_largestDifference_5 (lo' := [some (.ref 1), some (.int (nI s)), some (.int (nI t)), some (.int (nI (mxf f (c 0)))), some (.int (nI (c 0)))]) (st' := [.int (I 2 0), .int (nI (c 0))]) (I' := I) (J' := J) (Ps := [aO E0 1 9 ∧ E0.2.2 1 0 ≠ 0, aO E0 2 1]) rfl ⟨r_1_0, o_2⟩ ?_
      refine Ez.n_icmp_ge (off := 25) (tgt := 39) (by decide +kernel) (by decide) (a := (c 0)) (b := (c 0)) rfl (hc.1 0 (by decide)) (by omega) (by omega) (fun h => ?_) (fun h => absurd h (by omega))
      refine Ez.blk B_X9_largestDifference_39 (lo' := [some (.ref 1), some (.int (nI s)), some (.int (nI t)), some (.int (nI (mxf f (c 0)))), some (.int (nI (c 0)))]) (st' := [.int (nI (mxf f (c 0)))]) (I' := I) (J' := J) (Ps := []) rfl trivial ?_
      exact Ez.iret rfl (by decide +kernel) (hQ _ _ _ ⟨rfl, rfl, rfl⟩)
    · intro k hk ih hi
      refine Ez.blk B_X9_largestDifference_5 (lo' := [some (.ref 1), some (.int (nI s)), some (.int (nI t)), some (.int (nI (mxf f k))), some (.int (nI k))]) (st' := [.int (I 2 0), .int (nI k)]) (I' := I) (J' := J) (Ps := [aO E0 1 9 ∧ E0.2.2 1 0 ≠ 0, aO E0 2 1]) rfl ⟨r_1_0, o_2⟩ ?_
      refine Ez.n_icmp_ge (off := 25) (tgt := 39) (by decide +kernel) (by decide) (a := k) (b := (c 0)) rfl (hc.1 0 (by decide)) (by omega) (by omega) (fun h => absurd h (by omega)) (fun h => ?_)
      refine Ez.blk B_X9_largestDifference_17 (lo' := [some (.ref 1), some (.int (nI s)), some (.int (nI t)), some (.int (nI (mxf f k))), some (.int (nI k))]) (st' := [.int (nI k), .int (nI t), .int (nI s), .ref 1, .int (nI (mxf f k))]) (I' := I) (J' := J) (Ps := []) rfl trivial ?_
      refine Ez.callV (As := [.int (nI s), .int (nI t), .int (nI k)]) (b := 1) (rest := [.int (nI (mxf f k))]) kn_X9_weightDifference ml_9_176 im_X9_weightDifference se_X9_weightDifference rfl (by decide +kernel) rfl rfl (Nat.le_of_ble_eq_true rfl) (Nat.le_of_ble_eq_true rfl) o_1 (s_wdiff _ I J c hc W s t k (by omega) (by omega) (by omega)) (fun r I2 J2 hq => ?_)
      obtain ⟨rfl, rfl, rfl⟩ := hq
      have r1 := rs k hk
      have r2 := rt k hk
      have b0 := bd k (by omega)
      have b1 := ab k hk
      refine Ez.blk B_X9_largestDifference_26 (lo' := [some (.ref 1), some (.int (nI s)), some (.int (nI t)), some (.int (if nI (mxf f k) < (if 0 ≤ (nI (rw_ c s k) - nI (rw_ c t k)) then (nI (rw_ c s k) - nI (rw_ c t k)) else 0 - (nI (rw_ c s k) - nI (rw_ c t k))) then (if 0 ≤ (nI (rw_ c s k) - nI (rw_ c t k)) then (nI (rw_ c s k) - nI (rw_ c t k)) else 0 - (nI (rw_ c s k) - nI (rw_ c t k))) else nI (mxf f k))), some (.int (nI k + 1))]) (st' := []) (I' := I2) (J' := J2) (Ps := []) rfl trivial ?_
      rw [show (nI k + 1) = nI (k + 1) from (eq_add (a := k) (b := 1) rfl rfl)]
      rw [abs_d (by omega) (by omega), max_n (by omega) (by omega), show max (mxf f k) (adf (rw_ c s k) (rw_ c t k)) = mxf f (k + 1) by show _ = max _ (f k); rw [hf]]
      exact ih trivial
  refine Ez.blk B_X9_largestDifference_0 (lo' := [some (.ref 1), some (.int (nI s)), some (.int (nI t)), some (.int 0), some (.int 0)]) (st' := []) (I' := I) (J' := J) (Ps := []) rfl trivial ?_
  exact L1 0 (by omega) trivial
theorem s_cum (d : Nat) (I : aI) (J : aJ) (c : Nat → Nat) (hc : Ch I 2 c) (W : Wc c) (s t : Nat) (hs : s < c 0) (ht : t < c 0) : Sp m_X9_cumulativeDistance (d + 2) [.ref 1, .int (nI s), .int (nI t)] E0 I J (fun r I' J' => r = some (.int (nI (sm (fun u => adf (sm (rw_ c s) (u + 1)) (sm (rw_ c t) (u + 1))) (c 0 - 1)))) ∧ I' = I ∧ J' = J) := by
  refine Sp.of (lo := [some (.ref 1), some (.int (nI s)), some (.int (nI t)), none, none, none]) rfl (fun Q hQ => ?_)
  have w1 := W.1
  have w2 := W.2.1
  have wl := W.2.2.2.1
  have w12 := Wc_w W
  have rs : ∀ u, u < c 0 → rw_ c s u ≤ 12 := fun u hu => by have := w12 (6 * s + u) (by omega); rw [show 10 + (6 * s + u) = 10 + 6 * s + u by omega] at this; exact this
  have rt : ∀ u, u < c 0 → rw_ c t u ≤ 12 := fun u hu => by have := w12 (6 * t + u) (by omega); rw [show 10 + (6 * t + u) = 10 + 6 * t + u by omega] at this; exact this
  have ab : ∀ u, u < c 0 → adf (rw_ c s u) (rw_ c t u) ≤ 12 := fun u hu => by have := rs u hu; have := rt u hu; unfold adf; omega
  obtain ⟨f, hf⟩ : ∃ f : Nat → Nat, f = fun u => adf (sm (rw_ c s) (u + 1)) (sm (rw_ c t) (u + 1)) := ⟨_, rfl⟩
  have b1 : ∀ k, k ≤ c 0 → sm (rw_ c s) k ≤ 72 := fun k hk => Nat.le_trans (sm_bd (m := 12) (fun u hu => rs u (by omega))) (by omega)
  have b2 : ∀ k, k ≤ c 0 → sm (rw_ c t) k ≤ 72 := fun k hk => Nat.le_trans (sm_bd (m := 12) (fun u hu => rt u (by omega))) (by omega)
  rw [← hf] at hQ
  have L1 : ∀ k, k ≤ c 0 - 1 → True → Ez m_X9_cumulativeDistance (d + 2) 8 [some (.ref 1), some (.int (nI s)), some (.int (nI t)), some (.int (nI (sm f k))), some (.int (nI (sm (rw_ c s) k) - nI (sm (rw_ c t) k))), some (.int (nI k))] [] E0 I J Q := by
    refine for_up ?_ ?_
    · intro hi
      refine Ez.blk B_X9_cumulativeDistance_8 (lo' := [some (.ref 1), some (.int (nI s)), some (.int (nI t)), some (.int (nI (sm f (c 0 - 1)))), some (.int (nI (sm (rw_ c s) (c 0 - 1)) - nI (sm (rw_ c t) (c 0 - 1)))), some (.int (nI (c 0 - 1)))]) (st' := [.int (I 2 0 - 1), .int (nI (c 0 - 1))]) (I' := I) (J' := J) (Ps := [aO E0 1 9 ∧ E0.2.2 1 0 ≠ 0, aO E0 2 1]) rfl ⟨r_1_0, o_2⟩ ?_
      refine Ez.n_icmp_ge (off := 30) (tgt := 49) (by decide +kernel) (by decide) (a := (c 0 - 1)) (b := (c 0 - 1)) rfl (eq_sub (a := c 0) (b := 1) (hc.1 0 (by decide)) rfl w1.1) (by omega) (by omega) (fun h => ?_) (fun h => absurd h (by omega))
      refine Ez.blk B_X9_cumulativeDistance_49 (lo' := [some (.ref 1), some (.int (nI s)), some (.int (nI t)), some (.int (nI (sm f (c 0 - 1)))), some (.int (nI (sm (rw_ c s) (c 0 - 1)) - nI (sm (rw_ c t) (c 0 - 1)))), some (.int (nI (c 0 - 1)))]) (st' := [.int (nI (sm f (c 0 - 1)))]) (I' := I) (J' := J) (Ps := []) rfl trivial ?_
      exact Ez.iret rfl (by decide +kernel) (hQ _ _ _ ⟨rfl, rfl, rfl⟩)
    · intro k hk ih hi
      have hk : k < c 0 := by omega
      refine Ez.blk B_X9_cumulativeDistance_8 (lo' := [some (.ref 1), some (.int (nI s)), some (.int (nI t)), some (.int (nI (sm f k))), some (.int (nI (sm (rw_ c s) k) - nI (sm (rw_ c t) k))), some (.int (nI k))]) (st' := [.int (I 2 0 - 1), .int (nI k)]) (I' := I) (J' := J) (Ps := [aO E0 1 9 ∧ E0.2.2 1 0 ≠ 0, aO E0 2 1]) rfl ⟨r_1_0, o_2⟩ ?_
      refine Ez.n_icmp_ge (off := 30) (tgt := 49) (by decide +kernel) (by decide) (a := k) (b := (c 0 - 1)) rfl (eq_sub (a := c 0) (b := 1) (hc.1 0 (by decide)) rfl w1.1) (by omega) (by omega) (fun h => absurd h (by omega)) (fun h => ?_)
      refine Ez.blk B_X9_cumulativeDistance_22 (lo' := [some (.ref 1), some (.int (nI s)), some (.int (nI t)), some (.int (nI (sm f k))), some (.int (nI (sm (rw_ c s) k) - nI (sm (rw_ c t) k))), some (.int (nI k))]) (st' := [.int (nI k), .int (nI t), .int (nI s), .ref 1, .int (nI (sm (rw_ c s) k) - nI (sm (rw_ c t) k))]) (I' := I) (J' := J) (Ps := []) rfl trivial ?_
      refine Ez.callV (As := [.int (nI s), .int (nI t), .int (nI k)]) (b := 1) (rest := [.int (nI (sm (rw_ c s) k) - nI (sm (rw_ c t) k))]) kn_X9_weightDifference ml_9_176 im_X9_weightDifference se_X9_weightDifference rfl (by decide +kernel) rfl rfl (Nat.le_of_ble_eq_true rfl) (Nat.le_of_ble_eq_true rfl) o_1 (s_wdiff _ I J c hc W s t k (by omega) (by omega) (by omega)) (fun r I2 J2 hq => ?_)
      obtain ⟨rfl, rfl, rfl⟩ := hq
      have r1 := rs k hk
      have r2 := rt k hk
      refine Ez.blk B_X9_cumulativeDistance_32 (lo' := [some (.ref 1), some (.int (nI s)), some (.int (nI t)), some (.int (nI (sm f k) + (if 0 ≤ ((nI (sm (rw_ c s) k) - nI (sm (rw_ c t) k)) + (nI (rw_ c s k) - nI (rw_ c t k))) then ((nI (sm (rw_ c s) k) - nI (sm (rw_ c t) k)) + (nI (rw_ c s k) - nI (rw_ c t k))) else 0 - ((nI (sm (rw_ c s) k) - nI (sm (rw_ c t) k)) + (nI (rw_ c s k) - nI (rw_ c t k)))))), some (.int ((nI (sm (rw_ c s) k) - nI (sm (rw_ c t) k)) + (nI (rw_ c s k) - nI (rw_ c t k)))), some (.int (nI k + 1))]) (st' := []) (I' := I2) (J' := J2) (Ps := []) rfl trivial ?_
      rw [show (nI k + 1) = nI (k + 1) from (eq_add (a := k) (b := 1) rfl rfl)]
      have c1 : sm (rw_ c s) k + rw_ c s k ≤ 72 := b1 (k + 1) (by omega)
      have c2 : sm (rw_ c t) k + rw_ c t k ≤ 72 := b2 (k + 1) (by omega)
      rw [dif_add, abs_d (by omega) (by omega), nI_add, show sm f k + adf (sm (rw_ c s) k + rw_ c s k) (sm (rw_ c t) k + rw_ c t k) = sm f (k + 1) by show _ = _ + f k; rw [hf]; rfl]
      exact ih trivial
  refine Ez.blk B_X9_cumulativeDistance_0 (lo' := [some (.ref 1), some (.int (nI s)), some (.int (nI t)), some (.int 0), some (.int 0), some (.int 0)]) (st' := []) (I' := I) (J' := J) (Ps := []) rfl trivial ?_
  have L0 := L1 0 (by omega) trivial
  rw [show nI (sm (rw_ c s) 0) - nI (sm (rw_ c t) 0) = 0 from (show nI 0 - nI 0 = 0 by decide)] at L0
  exact L0
theorem s_ovl (d : Nat) (I : aI) (J : aJ) (c : Nat → Nat) (hc : Ch I 2 c) (W : Wc c) (s t : Nat) (hs : s < c 0) (ht : t < c 0) : Sp m_X9_overlap (d + 2) [.ref 1, .int (nI s), .int (nI t)] E0 I J (fun r I' J' => r = some (.int (nI (sm (fun u => min (rw_ c s u) (rw_ c t u)) (c 0)))) ∧ I' = I ∧ J' = J) := by
  refine Sp.of (lo := [some (.ref 1), some (.int (nI s)), some (.int (nI t)), none, none]) rfl (fun Q hQ => ?_)
  have w1 := W.1
  have w2 := W.2.1
  have wl := W.2.2.2.1
  have w12 := Wc_w W
  have rs : ∀ u, u < c 0 → rw_ c s u ≤ 12 := fun u hu => by have := w12 (6 * s + u) (by omega); rw [show 10 + (6 * s + u) = 10 + 6 * s + u by omega] at this; exact this
  have rt : ∀ u, u < c 0 → rw_ c t u ≤ 12 := fun u hu => by have := w12 (6 * t + u) (by omega); rw [show 10 + (6 * t + u) = 10 + 6 * t + u by omega] at this; exact this
  have ab : ∀ u, u < c 0 → adf (rw_ c s u) (rw_ c t u) ≤ 12 := fun u hu => by have := rs u hu; have := rt u hu; unfold adf; omega
  obtain ⟨f, hf⟩ : ∃ f : Nat → Nat, f = fun u => min (rw_ c s u) (rw_ c t u) := ⟨_, rfl⟩
  rw [← hf] at hQ
  have L1 : ∀ k, k ≤ c 0 → True → Ez m_X9_overlap (d + 2) 5 [some (.ref 1), some (.int (nI s)), some (.int (nI t)), some (.int (nI (sm f k))), some (.int (nI k))] [] E0 I J Q := by
    refine for_up ?_ ?_
    · intro hi
      refine Ez.blk B_X9_overlap_5 (lo' := [some (.ref 1), some (.int (nI s)), some (.int (nI t)), some (.int (nI (sm f (c 0)))), some (.int (nI (c 0)))]) (st' := [.int (I 2 0), .int (nI (c 0))]) (I' := I) (J' := J) (Ps := [aO E0 1 9 ∧ E0.2.2 1 0 ≠ 0, aO E0 2 1]) rfl ⟨r_1_0, o_2⟩ ?_
      refine Ez.n_icmp_ge (off := 45) (tgt := 59) (by decide +kernel) (by decide) (a := (c 0)) (b := (c 0)) rfl (hc.1 0 (by decide)) (by omega) (by omega) (fun h => ?_) (fun h => absurd h (by omega))
      refine Ez.blk B_X9_overlap_59 (lo' := [some (.ref 1), some (.int (nI s)), some (.int (nI t)), some (.int (nI (sm f (c 0)))), some (.int (nI (c 0)))]) (st' := [.int (nI (sm f (c 0)))]) (I' := I) (J' := J) (Ps := []) rfl trivial ?_
      exact Ez.iret rfl (by decide +kernel) (hQ _ _ _ ⟨rfl, rfl, rfl⟩)
    · intro k hk ih hi
      have r1 : c (10 + 6 * s + k) ≤ 12 := rs k hk
      have r2 : c (10 + 6 * t + k) ≤ 12 := rt k hk
      refine Ez.blk B_X9_overlap_5 (lo' := [some (.ref 1), some (.int (nI s)), some (.int (nI t)), some (.int (nI (sm f k))), some (.int (nI k))]) (st' := [.int (I 2 0), .int (nI k)]) (I' := I) (J' := J) (Ps := [aO E0 1 9 ∧ E0.2.2 1 0 ≠ 0, aO E0 2 1]) rfl ⟨r_1_0, o_2⟩ ?_
      refine Ez.n_icmp_ge (off := 45) (tgt := 59) (by decide +kernel) (by decide) (a := k) (b := (c 0)) rfl (hc.1 0 (by decide)) (by omega) (by omega) (fun h => absurd h (by omega)) (fun h => ?_)
      refine Ez.blk B_X9_overlap_17 (lo' := [some (.ref 1), some (.int (nI s)), some (.int (nI t)), some (.int (nI (sm f k) + (if I 4 (((nI t * 6) + nI k).toNatClampNeg) < I 4 (((nI s * 6) + nI k).toNatClampNeg) then I 4 (((nI t * 6) + nI k).toNatClampNeg) else I 4 (((nI s * 6) + nI k).toNatClampNeg)))), some (.int (nI k + 1))]) (st' := []) (I' := I) (J' := J) (Ps := [aO E0 1 9 ∧ E0.2.2 1 0 ≠ 0, aO E0 2 1 ∧ E0.2.2 2 5 ≠ 0, aAr E0 1 4 ((nI s * 6) + nI k), aO E0 1 9 ∧ E0.2.2 1 0 ≠ 0, aO E0 2 1 ∧ E0.2.2 2 5 ≠ 0, aAr E0 1 4 ((nI t * 6) + nI k)]) rfl ⟨r_1_0, r_2_5, (a_4 (vin (n := (s * 6 + k)) (eq_add (a := (s * 6)) (b := k) (eq_mul (a := s) (b := 6) rfl rfl) rfl) (by omega) (by decide))), r_1_0, r_2_5, (a_4 (vin (n := (t * 6 + k)) (eq_add (a := (t * 6)) (b := k) (eq_mul (a := t) (b := 6) rfl rfl) rfl) (by omega) (by decide)))⟩ ?_
      rw [cln (x := ((nI s * 6) + nI k)) (n := (s * 6 + k)) (eq_add (a := (s * 6)) (b := k) (eq_mul (a := s) (b := 6) rfl rfl) rfl) (by omega)]
      rw [cln (x := ((nI t * 6) + nI k)) (n := (t * 6 + k)) (eq_add (a := (t * 6)) (b := k) (eq_mul (a := t) (b := 6) rfl rfl) rfl) (by omega)]
      rw [show (nI k + 1) = nI (k + 1) from (eq_add (a := k) (b := 1) rfl rfl)]
      rw [hc.2.2 (s * 6 + k) (by omega), hc.2.2 (t * 6 + k) (by omega), show 10 + (s * 6 + k) = 10 + 6 * s + k by omega, show 10 + (t * 6 + k) = 10 + 6 * t + k by omega, min_n (by omega) (by omega), nI_add, show sm f k + min (c (10 + 6 * s + k)) (c (10 + 6 * t + k)) = sm f (k + 1) by show _ = _ + f k; rw [hf]]
      exact ih trivial
  refine Ez.blk B_X9_overlap_0 (lo' := [some (.ref 1), some (.int (nI s)), some (.int (nI t)), some (.int 0), some (.int 0)]) (st' := []) (I' := I) (J' := J) (Ps := []) rfl trivial ?_
  exact L1 0 (by omega) trivial
theorem c_dd (d : Nat) (I : aI) (J : aJ) (T : TS) (W : WT T) (hP : CP T I J) (x y z : Int32) : Sp m_X9_distributionDistance (d + 3) [.ref 1, .int x, .int y, .int z] E0 I J (fun r I' J' => r = some (.int (f_dd T x y z).1) ∧ CP (f_dd T x y z).2 I' J' ∧ Fr9 I I' J J') := by
  refine Sp.of (lo := [some (.ref 1), some (.int x), some (.int y), some (.int z)]) rfl (fun Q hQ => ?_)
  have w1 := W.1.1
  have w2 := W.1.2.1
  have wb := Wc_12 W.1
  refine Ez.blk B_X9_distributionDistance_0 (lo' := [some (.ref 1), some (.int x), some (.int y), some (.int z)]) (st' := [.int x, .ref 2]) (I' := I) (J' := J) (Ps := [aO E0 1 9 ∧ E0.2.2 1 0 ≠ 0]) rfl r_1_0 ?_
  refine Ez.callV (As := [.int x]) (b := 2) (rest := []) kn_X1_has ml_9_95 im_X1_has se_X1_has rfl (by decide +kernel) rfl rfl (Nat.le_of_ble_eq_true rfl) (Nat.le_of_ble_eq_true rfl) o_2 (s_has _ E0 I J 2 (x) o_2) (fun r I1 J1 hq => ?_)
  obtain ⟨rfl, rfl, rfl⟩ := hq
  rw [hP.1.1 0 (by decide)]
  refine Ez.z_if_eq (off := 14) (tgt := 22) (by decide +kernel) (by decide) (fun h => ?_) (fun h => ?_)
  · refine Ez.blk B_X9_distributionDistance_22 (lo' := [some (.ref 1), some (.int x), some (.int y), some (.int z)]) (st' := [.int (-2)]) (I' := I1) (J' := J1) (Ps := []) rfl trivial ?_
    exact Ez.iret rfl (by decide +kernel) (hQ _ _ _ (by unfold f_dd; rw [if_neg (fun q => h q.1)]; exact ⟨rfl, hP, fun _ _ => ⟨rfl, rfl⟩⟩))
  · refine Ez.blk B_X9_distributionDistance_11 (lo' := [some (.ref 1), some (.int x), some (.int y), some (.int z)]) (st' := [.int y, .ref 2]) (I' := I1) (J' := J1) (Ps := [aO E0 1 9 ∧ E0.2.2 1 0 ≠ 0]) rfl r_1_0 ?_
    refine Ez.callV (As := [.int y]) (b := 2) (rest := []) kn_X1_has ml_9_95 im_X1_has se_X1_has rfl (by decide +kernel) rfl rfl (Nat.le_of_ble_eq_true rfl) (Nat.le_of_ble_eq_true rfl) o_2 (s_has _ E0 I1 J1 2 (y) o_2) (fun r I2 J2 hq => ?_)
    obtain ⟨rfl, rfl, rfl⟩ := hq
    rw [hP.1.1 0 (by decide)]
    refine Ez.z_if_ne (off := 6) (tgt := 25) (by decide +kernel) (by decide) (fun h2 => ?_) (fun h2 => ?_)
    · obtain ⟨s, hs, rfl, hsc⟩ := st_of (by omega) h
      obtain ⟨u, hu, rfl, huc⟩ := st_of (by omega) h2
      refine Ez.blk B_X9_distributionDistance_25 (lo' := [some (.ref 1), some (.int (nI s)), some (.int (nI u)), some (.int z)]) (st' := [.int z]) (I' := I2) (J' := J2) (Ps := []) rfl trivial ?_
      by_cases h3 : 0 ≤ z ∧ z ≤ 3
      · obtain ⟨n, -, hn, rfl, hnc⟩ := in_of (lo := 0) (hi := 3) (by omega) h3 (by omega)
        have ev : f_dd T (nI s) (nI u) (nI n) = (nI (ddk T.1 s u n), T) := by unfold f_dd; rw [if_pos ⟨h, h2⟩, if_pos h3, hsc, huc, hnc]
        rcases (show n = 0 ∨ n = 1 ∨ n = 2 ∨ n = 3 by omega) with rfl | rfl | rfl | rfl
        · refine Ez.tabIn (off := 30) (tgt := 56) (dflt := 58) (lo1 := 0) (hi1 := 3) (offs := #[30, 37, 44, 51]) (len := 30) (by decide +kernel) (by decide) (by decide) (by decide) (by decide) ?_
          refine Ez.blk B_X9_distributionDistance_56 (lo' := [some (.ref 1), some (.int (nI s)), some (.int (nI u)), some (.int (nI 0))]) (st' := [.int (nI u), .int (nI s), .ref 1]) (I' := I2) (J' := J2) (Ps := []) rfl trivial ?_
          refine Ez.callV (As := [.int (nI s), .int (nI u)]) (b := 1) (rest := []) kn_X9_totalVariation ml_9_163 im_X9_totalVariation se_X9_totalVariation rfl (by decide +kernel) rfl rfl (Nat.le_of_ble_eq_true rfl) (Nat.le_of_ble_eq_true rfl) o_1 (s_tv _ I2 J2 T.1 hP.1 W.1 s u hs hu) (fun r I3 J3 hq => ?_)
          obtain ⟨rfl, rfl, rfl⟩ := hq
          exact Ez.iret rfl (by decide +kernel) (hQ _ _ _ (by rw [ev]; exact ⟨rfl, hP, fun _ _ => ⟨rfl, rfl⟩⟩))
        · refine Ez.tabIn (off := 37) (tgt := 63) (dflt := 58) (lo1 := 0) (hi1 := 3) (offs := #[30, 37, 44, 51]) (len := 30) (by decide +kernel) (by decide) (by decide) (by decide) (by decide) ?_
          refine Ez.blk B_X9_distributionDistance_63 (lo' := [some (.ref 1), some (.int (nI s)), some (.int (nI u)), some (.int (nI 1))]) (st' := [.int (nI u), .int (nI s), .ref 1]) (I' := I2) (J' := J2) (Ps := []) rfl trivial ?_
          refine Ez.callV (As := [.int (nI s), .int (nI u)]) (b := 1) (rest := []) kn_X9_largestDifference ml_9_167 im_X9_largestDifference se_X9_largestDifference rfl (by decide +kernel) rfl rfl (Nat.le_of_ble_eq_true rfl) (Nat.le_of_ble_eq_true rfl) o_1 (s_mx _ I2 J2 T.1 hP.1 W.1 s u hs hu) (fun r I3 J3 hq => ?_)
          obtain ⟨rfl, rfl, rfl⟩ := hq
          exact Ez.iret rfl (by decide +kernel) (hQ _ _ _ (by rw [ev]; exact ⟨rfl, hP, fun _ _ => ⟨rfl, rfl⟩⟩))
        · refine Ez.tabIn (off := 44) (tgt := 70) (dflt := 58) (lo1 := 0) (hi1 := 3) (offs := #[30, 37, 44, 51]) (len := 30) (by decide +kernel) (by decide) (by decide) (by decide) (by decide) ?_
          refine Ez.blk B_X9_distributionDistance_70 (lo' := [some (.ref 1), some (.int (nI s)), some (.int (nI u)), some (.int (nI 2))]) (st' := [.int (nI u), .int (nI s), .ref 1]) (I' := I2) (J' := J2) (Ps := []) rfl trivial ?_
          refine Ez.callV (As := [.int (nI s), .int (nI u)]) (b := 1) (rest := []) kn_X9_cumulativeDistance ml_9_170 im_X9_cumulativeDistance se_X9_cumulativeDistance rfl (by decide +kernel) rfl rfl (Nat.le_of_ble_eq_true rfl) (Nat.le_of_ble_eq_true rfl) o_1 (s_cum _ I2 J2 T.1 hP.1 W.1 s u hs hu) (fun r I3 J3 hq => ?_)
          obtain ⟨rfl, rfl, rfl⟩ := hq
          exact Ez.iret rfl (by decide +kernel) (hQ _ _ _ (by rw [ev]; exact ⟨rfl, hP, fun _ _ => ⟨rfl, rfl⟩⟩))
        · refine Ez.tabIn (off := 51) (tgt := 77) (dflt := 58) (lo1 := 0) (hi1 := 3) (offs := #[30, 37, 44, 51]) (len := 30) (by decide +kernel) (by decide) (by decide) (by decide) (by decide) ?_
          refine Ez.blk B_X9_distributionDistance_77 (lo' := [some (.ref 1), some (.int (nI s)), some (.int (nI u)), some (.int (nI 3))]) (st' := [.int (nI u), .int (nI s), .ref 1]) (I' := I2) (J' := J2) (Ps := []) rfl trivial ?_
          refine Ez.callV (As := [.int (nI s), .int (nI u)]) (b := 1) (rest := []) kn_X9_overlap ml_9_173 im_X9_overlap se_X9_overlap rfl (by decide +kernel) rfl rfl (Nat.le_of_ble_eq_true rfl) (Nat.le_of_ble_eq_true rfl) o_1 (s_ovl _ I2 J2 T.1 hP.1 W.1 s u hs hu) (fun r I3 J3 hq => ?_)
          obtain ⟨rfl, rfl, rfl⟩ := hq
          exact Ez.iret rfl (by decide +kernel) (hQ _ _ _ (by rw [ev]; exact ⟨rfl, hP, fun _ _ => ⟨rfl, rfl⟩⟩))
      · have hz : z.toInt < 0 ∨ 3 < z.toInt := by
          by_cases e : z.toInt < 0
          · exact Or.inl e
          · refine Or.inr ?_
            by_cases e2 : 3 < z.toInt
            · exact e2
            · exact absurd ⟨Int32.le_iff_toInt_le.mpr (show (0 : Int) ≤ _ by omega), Int32.le_iff_toInt_le.mpr (show _ ≤ (3 : Int) by omega)⟩ h3
        refine Ez.tabOut (tgt := 84) (dflt := 58) (lo1 := 0) (hi1 := 3) (offs := #[30, 37, 44, 51]) (len := 30) (by decide +kernel) hz (by decide) ?_
        refine Ez.blk B_X9_distributionDistance_84 (lo' := [some (.ref 1), some (.int (nI s)), some (.int (nI u)), some (.int z)]) (st' := [.int (-1)]) (I' := I2) (J' := J2) (Ps := []) rfl trivial ?_
        exact Ez.iret rfl (by decide +kernel) (hQ _ _ _ (by unfold f_dd; rw [if_pos ⟨h, h2⟩, if_neg h3]; exact ⟨rfl, hP, fun _ _ => ⟨rfl, rfl⟩⟩))
    · refine Ez.blk B_X9_distributionDistance_22 (lo' := [some (.ref 1), some (.int x), some (.int y), some (.int z)]) (st' := [.int (-2)]) (I' := I2) (J' := J2) (Ps := []) rfl trivial ?_
      exact Ez.iret rfl (by decide +kernel) (hQ _ _ _ (by unfold f_dd; rw [if_neg (fun q => h2 q.2)]; exact ⟨rfl, hP, fun _ _ => ⟨rfl, rfl⟩⟩))
/-! DEPTHS -/
def gdp (c : Nat → Nat) : Nat := if c 3 * c 1 ≤ 1 then 99 else (ff (fun k => decide (1000000000000000 < (c 3 * c 1) ^ (k + 1))) 60 0).getD 0
theorem gdp_eq {c : Nat → Nat} {k : Nat} (h2 : 2 ≤ c 3 * c 1) (hk : k < 60) (h : (c 3 * c 1) ^ k ≤ 1000000000000000) (h1 : 1000000000000000 < (c 3 * c 1) ^ (k + 1)) : gdp c = k := by
  unfold gdp
  rw [if_neg (by omega), ff_some (P := fun k => decide (1000000000000000 < (c 3 * c 1) ^ (k + 1))) 60 0 k (Nat.zero_le _) (by omega) (decide_eq_true h1) (fun j _ hj => decide_eq_false (by
    have := Nat.pow_le_pow_right (show 0 < c 3 * c 1 by omega) (show j + 1 ≤ k by omega)
    omega))]
  rfl
theorem pow_50 {b k : Nat} (h2 : 2 ≤ b) (h : b ^ k ≤ 1000000000000000) : k < 50 := by
  have h1 : 2 ^ k ≤ b ^ k := Nat.pow_le_pow_left h2 k
  by_cases e : k < 50
  · exact e
  · have := Nat.pow_le_pow_right (show 0 < 2 by omega) (show 50 ≤ k by omega)
    have h3 : (2 : Nat) ^ 50 = 1125899906842624 := by decide
    omega
theorem s_gd (d : Nat) (I : aI) (J : aJ) (c : Nat → Nat) (hc : Ch I 2 c) (W : Wc c) : Sp m_X9_greatestDepth (d + 1) [.ref 1] E0 I J (fun r I' J' => r = some (.int (nI (gdp c))) ∧ I' = I ∧ J' = J) := by
  refine Sp.of (lo := [some (.ref 1), none, none, none, none, none]) rfl (fun Q hQ => ?_)
  have w1 := W.1
  have w2 := W.2.1
  have wl := W.2.2.2.1
  have w12 := Wc_w W
  have w3 := W.2.2.1
  have bm : c 3 * c 1 ≤ 48 := Nat.mul_le_mul (show c 3 ≤ 4 by omega) (show c 1 ≤ 12 by omega)
  obtain ⟨b, hb⟩ : ∃ b, b = c 3 * c 1 := ⟨_, rfl⟩
  rw [← hb] at bm
  refine Ez.blk B_X9_greatestDepth_0 (lo' := [some (.ref 1), some (.long ((I 2 3).toInt64 * (I 2 1).toInt64)), none, none, none, none]) (st' := [.int (lg_cmp ((I 2 3).toInt64 * (I 2 1).toInt64) 1)]) (I' := I) (J' := J) (Ps := [aO E0 1 9 ∧ E0.2.2 1 0 ≠ 0, aO E0 2 1, aO E0 1 9 ∧ E0.2.2 1 0 ≠ 0, aO E0 2 1]) rfl ⟨r_1_0, o_2, r_1_0, o_2⟩ ?_
  rw [hc.1 3 (by decide), hc.1 1 (by decide), nI_l (by omega), nI_l (by omega), lN_mul, ← hb]
  refine Ez.lif_gt (off := 6) (tgt := 27) (by decide +kernel) (by decide) (fun h => ?_) (fun h => ?_)
  · have h : 1 < b := (pk_lLT (a := 1) (b := b) (by omega) (by omega)).mp h
    have L1 : ∀ k, k ≤ 50 → b ^ k ≤ 1000000000000000 → Ez m_X9_greatestDepth (d + 1) 32 [some (.ref 1), some (.long (lN b)), none, some (.int (nI k)), some (.long (lN (b ^ (k + 1)))), none] [] E0 I J Q := by
      refine for_up ?_ ?_
      · intro hi
        exact absurd (pow_50 (by omega) hi) (by omega)
      · intro k hk ih hi
        have hp : b ^ (k + 1) ≤ 48000000000000000 := by rw [Nat.pow_succ]; exact Nat.le_trans (Nat.mul_le_mul hi bm) (by omega)
        have e15 : (1000000000000000 : Int64) = lN 1000000000000000 := rfl
        refine Ez.blk B_X9_greatestDepth_32 (lo' := [some (.ref 1), some (.long (lN b)), none, some (.int (nI k)), some (.long (lN (b ^ (k + 1)))), none]) (st' := [.int (lg_cmp (lN (b ^ (k + 1))) 1000000000000000)]) (I' := I) (J' := J) (Ps := []) rfl trivial ?_
        refine Ez.lif_gt (off := 21) (tgt := 59) (by decide +kernel) (by decide) (fun h9 => ?_) (fun h9 => ?_)
        · have h9 : 1000000000000000 < b ^ (k + 1) := (pk_lLT (by omega) (by omega)).mp (by rw [← e15]; exact h9)
          refine Ez.blk B_X9_greatestDepth_59 (lo' := [some (.ref 1), some (.long (lN b)), none, some (.int (nI k)), some (.long (lN (b ^ (k + 1)))), none]) (st' := [.int (nI k)]) (I' := I) (J' := J) (Ps := []) rfl trivial ?_
          exact Ez.iret rfl (by decide +kernel) (hQ _ _ _ ⟨by rw [gdp_eq (c := c) (k := k) (by rw [← hb]; omega) (by omega) (by rw [← hb]; exact hi) (by rw [← hb]; exact h9)], rfl, rfl⟩)
        · have h9 : b ^ (k + 1) ≤ 1000000000000000 := by
            have := mt (pk_lLT (a := 1000000000000000) (b := b ^ (k + 1)) (by omega) (by omega)).mpr (by rw [← e15]; exact h9)
            omega
          refine Ez.blk B_X9_greatestDepth_41 (lo' := [some (.ref 1), some (.long (lN b)), none, some (.int (nI k)), some (.long (lN (b ^ (k + 1)))), none]) (st' := [.int 99, .int (nI k)]) (I' := I) (J' := J) (Ps := []) rfl trivial ?_
          refine Ez.n_icmp_ge (off := 15) (tgt := 59) (by decide +kernel) (by decide) (a := k) (b := 99) rfl rfl (by omega) (by omega) (fun h10 => absurd h10 (by omega)) (fun h10 => ?_)
          refine Ez.blk B_X9_greatestDepth_47 (lo' := [some (.ref 1), some (.long (lN b)), none, some (.int (nI k + 1)), some (.long ((lN (b ^ (k + 1))) * (lN b))), none]) (st' := []) (I' := I) (J' := J) (Ps := []) rfl trivial ?_
          rw [show (nI k + 1) = nI (k + 1) from (eq_add (a := k) (b := 1) rfl rfl)]
          rw [lN_mul, ← Nat.pow_succ]
          exact ih h9
    refine Ez.blk B_X9_greatestDepth_27 (lo' := [some (.ref 1), some (.long (lN b)), none, some (.int 0), some (.long (lN b)), none]) (st' := []) (I' := I) (J' := J) (Ps := []) rfl trivial ?_
    have L0 := L1 0 (by omega) (by rw [Nat.pow_zero]; omega)
    rw [Nat.zero_add, Nat.pow_one] at L0
    exact L0
  · have h : b ≤ 1 := by
      have := mt (pk_lLT (a := 1) (b := b) (by omega) (by omega)).mpr h
      omega
    refine Ez.blk B_X9_greatestDepth_24 (lo' := [some (.ref 1), some (.long (lN b)), none, none, none, none]) (st' := [.int 99]) (I' := I) (J' := J) (Ps := []) rfl trivial ?_
    exact Ez.iret rfl (by decide +kernel) (hQ _ _ _ ⟨by unfold gdp; rw [← hb, if_pos h]; rfl, rfl, rfl⟩)
theorem c_maximumDepth (d : Nat) (I : aI) (J : aJ) (T : TS) (W : WT T) (hP : CP T I J) : Sp m_X9_maximumDepth (d + 2) [.ref 1] E0 I J (fun r I' J' => r = some (.int (nI (gdp T.1))) ∧ CP T I' J' ∧ Fr9 I I' J J') := by
  refine Sp.of (lo := [some (.ref 1)]) rfl (fun Q hQ => ?_)
  refine Ez.blk B_X9_maximumDepth_0 (lo' := [some (.ref 1)]) (st' := [.ref 1]) (I' := I) (J' := J) (Ps := []) rfl trivial ?_
  refine Ez.callV (As := []) (b := 1) (rest := []) kn_X9_greatestDepth ml_9_133 im_X9_greatestDepth se_X9_greatestDepth rfl (by decide +kernel) rfl rfl (Nat.le_of_ble_eq_true rfl) (Nat.le_of_ble_eq_true rfl) o_1 (s_gd _ I J T.1 hP.1 W.1) (fun r I1 J1 hq => ?_)
  obtain ⟨rfl, rfl, rfl⟩ := hq
  exact Ez.iret rfl (by decide +kernel) (hQ _ _ _ ⟨rfl, hP, fun _ _ => ⟨rfl, rfl⟩⟩)

/-! THE REFERENCE: its cells -/
def MEd (ed : Nat × (Nat → Nat → Nat)) (I : aI) : Prop := I 93 2 = nI ed.1 ∧ ∀ i, i < ed.1 → ∀ k, k < 46 → I 95 (46 * i + k) = nI (ed.2 i k)
def MSn (sn : Nat × (Nat → Nat)) (I : aI) : Prop := I 93 4 = nI sn.1 ∧ (sn.1 = 1 → ∀ k, k < 46 → I 96 k = nI (sn.2 k))
def MBf (b : Nat × (Nat → Nat)) (I : aI) : Prop := I 93 18 = nI b.1 ∧ ∀ i, i < b.1 → I 108 i = nI (b.2 i)
def MSl (sl : (Nat → Nat) × (Nat → Nat) × (Nat → Nat → Int64)) (I : aI) (J : aJ) : Prop := ∀ s, s < 4 → I 112 s = nI (sl.1 s) ∧ I 113 s = nI (sl.2.1 s) ∧ ∀ k, k < 40 → J 114 (40 * s + k) = sl.2.2 s k
def MC (c : Nat → Nat) (I : aI) : Prop := ∀ k, k < 46 → I 94 k = nI (c k)
def MP (T : TS) (I : aI) (J : aJ) : Prop := MC T.1 I ∧ MEd T.2.1 I ∧ MSn T.2.2.1 I ∧ MBf T.2.2.2.1 I ∧ MSl T.2.2.2.2 I J
theorem MEd_fr {ed : Nat × (Nat → Nat → Nat)} {I I' : aI} (h : MEd ed I) (h0 : I' 93 2 = I 93 2) (h1 : I' 95 = I 95) : MEd ed I' := ⟨by rw [h0]; exact h.1, fun i hi k hk => by rw [h1]; exact h.2 i hi k hk⟩
theorem MSn_fr {sn : Nat × (Nat → Nat)} {I I' : aI} (h : MSn sn I) (h0 : I' 93 4 = I 93 4) (h1 : I' 96 = I 96) : MSn sn I' := ⟨by rw [h0]; exact h.1, fun q k hk => by rw [h1]; exact h.2 q k hk⟩
theorem MBf_fr {b : Nat × (Nat → Nat)} {I I' : aI} (h : MBf b I) (h0 : I' 93 18 = I 93 18) (h1 : I' 108 = I 108) : MBf b I' := ⟨by rw [h0]; exact h.1, fun i hi => by rw [h1]; exact h.2 i hi⟩
theorem MSl_fr {sl : (Nat → Nat) × (Nat → Nat) × (Nat → Nat → Int64)} {I I' : aI} {J J' : aJ} (h : MSl sl I J) (h0 : I' 112 = I 112) (h1 : I' 113 = I 113) (h2 : J' 114 = J 114) : MSl sl I' J' := fun s hs => ⟨by rw [h0]; exact (h s hs).1, by rw [h1]; exact (h s hs).2.1, fun k hk => by rw [h2]; exact (h s hs).2.2 k hk⟩
theorem MC_fr {c : Nat → Nat} {I I' : aI} (h : MC c I) (h0 : I' 94 = I 94) : MC c I' := fun k hk => by rw [h0]; exact h k hk
/-- rows that nobody asks about again -/
abbrev scr (q : Nat) : Prop := (97 ≤ q ∧ q ≤ 107) ∨ (109 ≤ q ∧ q ≤ 111)
abbrev FrM (I I' : aI) (J J' : aJ) : Prop := (∀ q, ¬ scr q → q ≠ 93 → I' q = I q) ∧ (∀ k, k = 2 ∨ k = 4 ∨ k = 18 → I' 93 k = I 93 k) ∧ ∀ q, ¬ scr q → J' q = J q
theorem FrM_rf {I : aI} {J : aJ} : FrM I I J J := ⟨fun _ _ _ => rfl, fun _ _ => rfl, fun _ _ => rfl⟩
theorem FrM_tr {I I' I'' : aI} {J J' J'' : aJ} (h : FrM I I' J J') (k : FrM I' I'' J' J'') : FrM I I'' J J'' := ⟨fun q a b => (k.1 q a b).trans (h.1 q a b), fun q a => (k.2.1 q a).trans (h.2.1 q a), fun q a => (k.2.2 q a).trans (h.2.2 q a)⟩
theorem MP_M {T : TS} {I I' : aI} {J J' : aJ} (h : MP T I J) (f : FrM I I' J J') : MP T I' J' := ⟨MC_fr h.1 (f.1 _ (by omega) (by omega)), MEd_fr h.2.1 (f.2.1 _ (by omega)) (f.1 _ (by omega) (by omega)), MSn_fr h.2.2.1 (f.2.1 _ (by omega)) (f.1 _ (by omega) (by omega)), MBf_fr h.2.2.2.1 (f.2.1 _ (by omega)) (f.1 _ (by omega) (by omega)), MSl_fr h.2.2.2.2 (f.1 _ (by omega) (by omega)) (f.1 _ (by omega) (by omega)) (f.2.2 _ (by omega))⟩
theorem Fr1_M {I I' : aI} {J J' : aJ} (f : FrM I I' J J') : Fr1 I I' J J' := fun b hb => ⟨f.1 b (by omega) (by omega), f.2.2 b (by omega)⟩
theorem Fr1_rf {I : aI} {J : aJ} : Fr1 I I J J := fun _ _ => ⟨rfl, rfl⟩
theorem MP_fr {T : TS} {I I' : aI} {J J' : aJ} (h : MP T I J) (f : Fr9 I I' J J') : MP T I' J' := ⟨MC_fr h.1 (f _ (by omega)).1, MEd_fr h.2.1 (by rw [(f 93 (by omega)).1]) (f _ (by omega)).1, MSn_fr h.2.2.1 (by rw [(f 93 (by omega)).1]) (f _ (by omega)).1, MBf_fr h.2.2.2.1 (by rw [(f 93 (by omega)).1]) (f _ (by omega)).1, MSl_fr h.2.2.2.2 (f _ (by omega)).1 (f _ (by omega)).1 (f _ (by omega)).2⟩
theorem zb_iff {p q : Prop} [Decidable p] [Decidable q] (h : p ↔ q) : zb p = zb q := by
  by_cases e : p
  · rw [zb_t e, zb_t (h.mp e)]
  · rw [zb_f e, zb_f (fun z => e (h.mpr z))]
theorem i64_ltI {x y : Int32} : x.toInt64 < y.toInt64 ↔ x < y := by rw [Int64.lt_iff_toInt_lt, Int32.lt_iff_toInt_lt, Int32.toInt_toInt64, Int32.toInt_toInt64]
/-! small methods -/
theorem s_in (d : Nat) (E : aE) (I : aI) (J : aJ) (x l h : Int32) (a b : Int64) (ea : a = l.toInt64) (eb : b = h.toInt64) : Sp m_X10_in (d + 1) [.long x.toInt64, .long a, .long b] E I J (fun r I' J' => r = some (.int (zb (l ≤ x ∧ x ≤ h))) ∧ I' = I ∧ J' = J) := by
  refine Sp.of (lo := [some (.long x.toInt64), none, some (.long a), none, some (.long b), none]) rfl (fun Q hQ => ?_)
  refine Ez.blk B_X10_in_0 (lo' := [some (.long x.toInt64), none, some (.long a), none, some (.long b), none]) (st' := [.int (lg_cmp x.toInt64 a)]) (I' := I) (J' := J) (Ps := []) rfl trivial ?_
  refine Ez.lif_lt (off := 14) (tgt := 17) (by decide +kernel) (by decide) (fun h1 => ?_) (fun h1 => ?_)
  · refine Ez.blk B_X10_in_17 (lo' := [some (.long x.toInt64), none, some (.long a), none, some (.long b), none]) (st' := [.int 0]) (I' := I) (J' := J) (Ps := []) rfl trivial ?_
    exact Ez.zret rfl (Or.inl rfl) (by decide +kernel) (hQ _ _ _ ⟨by rw [zb_f (p := l ≤ x ∧ x ≤ h) (fun q => i32_nlt.mpr q.1 (i64_ltI.mp (by rw [← ea]; exact h1)))], rfl, rfl⟩)
  · refine Ez.blk B_X10_in_6 (lo' := [some (.long x.toInt64), none, some (.long a), none, some (.long b), none]) (st' := [.int (lg_cmp x.toInt64 b)]) (I' := I) (J' := J) (Ps := []) rfl trivial ?_
    refine Ez.lif_gt (off := 7) (tgt := 17) (by decide +kernel) (by decide) (fun h2 => ?_) (fun h2 => ?_)
    · refine Ez.blk B_X10_in_17 (lo' := [some (.long x.toInt64), none, some (.long a), none, some (.long b), none]) (st' := [.int 0]) (I' := I) (J' := J) (Ps := []) rfl trivial ?_
      exact Ez.zret rfl (Or.inl rfl) (by decide +kernel) (hQ _ _ _ ⟨by rw [zb_f (p := l ≤ x ∧ x ≤ h) (fun q => i32_nlt.mpr q.2 (i64_ltI.mp (by rw [← eb]; exact h2)))], rfl, rfl⟩)
    · refine Ez.blk B_X10_in_13 (lo' := [some (.long x.toInt64), none, some (.long a), none, some (.long b), none]) (st' := [.int 1]) (I' := I) (J' := J) (Ps := []) rfl trivial ?_
      exact Ez.zret rfl (Or.inr rfl) (by decide +kernel) (hQ _ _ _ ⟨by rw [zb_t (p := l ≤ x ∧ x ≤ h) ⟨i32_nlt.mp (fun q => h1 (by rw [ea]; exact i64_ltI.mpr q)), i32_nlt.mp (fun q => h2 (by rw [eb]; exact i64_ltI.mpr q))⟩], rfl, rfl⟩)
theorem le_pred {x : Int32} {n : Nat} (h1 : 1 ≤ n) (hn : n < 2147483648) : x ≤ nI n - 1 ↔ x < nI n := by
  obtain ⟨m, rfl⟩ : ∃ m, n = m + 1 := ⟨n - 1, by omega⟩
  rw [nI_pred, Int32.le_iff_toInt_le, Int32.lt_iff_toInt_lt, nI_toInt (by omega), nI_toInt hn]
  omega
theorem s_isState (d : Nat) (I : aI) (J : aJ) (n : Nat) (hn : I 94 0 = nI n) (h1 : 1 ≤ n ∧ n ≤ 6) (x : Int32) : Sp m_X10_isState (d + 2) [.ref 93, .int x] E0 I J (fun r I' J' => r = some (.int (zb (0 ≤ x ∧ x < nI n))) ∧ I' = I ∧ J' = J) := by
  refine Sp.of (lo := [some (.ref 93), some (.int x)]) rfl (fun Q hQ => ?_)
  refine Ez.blk B_X10_isState_0 (lo' := [some (.ref 93), some (.int x)]) (st' := [.long ((I 94 0 - 1).toInt64), .long 0, .long x.toInt64]) (I' := I) (J' := J) (Ps := [aO E0 93 10 ∧ E0.2.2 93 0 ≠ 0, aAr E0 1 94 0]) rfl ⟨r_93_0, (a_94 (vin (n := 0) rfl (by omega) (by decide)))⟩ ?_
  refine Ez.callS (As := [.long x.toInt64, .long 0, .long ((I 94 0 - 1).toInt64)]) (rest := []) kn_X10_in ml_10_81 sm_X10_in (by decide +kernel) rfl rfl (Nat.le_of_ble_eq_true rfl) (Nat.le_of_ble_eq_true rfl) (s_in _ E0 I J x 0 (I 94 0 - 1) 0 (I 94 0 - 1).toInt64 (by decide) rfl) (fun r I1 J1 hq => ?_)
  obtain ⟨rfl, rfl, rfl⟩ := hq
  exact Ez.zret rfl (zb_01 _) (by decide +kernel) (hQ _ _ _ ⟨by rw [zb_iff (p := 0 ≤ x ∧ x ≤ I1 94 0 - 1) (q := 0 ≤ x ∧ x < nI n) (by rw [hn, le_pred h1.1 (by omega)])], rfl, rfl⟩)
theorem s_isDepth (d : Nat) (E : aE) (I : aI) (J : aJ) (x : Int32) : Sp m_X10_isDepth (d + 2) [.int x] E I J (fun r I' J' => r = some (.int (zb (0 ≤ x ∧ x ≤ 15))) ∧ I' = I ∧ J' = J) := by
  refine Sp.of (lo := [some (.int x)]) rfl (fun Q hQ => ?_)
  refine Ez.blk B_X10_isDepth_0 (lo' := [some (.int x)]) (st' := [.long 15, .long 0, .long x.toInt64]) (I' := I) (J' := J) (Ps := []) rfl trivial ?_
  refine Ez.callS (As := [.long x.toInt64, .long 0, .long 15]) (rest := []) kn_X10_in ml_10_81 sm_X10_in (by decide +kernel) rfl rfl (Nat.le_of_ble_eq_true rfl) (Nat.le_of_ble_eq_true rfl) (s_in _ E I J x 0 15 0 15 (by decide) (by decide)) (fun r I1 J1 hq => ?_)
  obtain ⟨rfl, rfl, rfl⟩ := hq
  exact Ez.zret rfl (zb_01 _) (by decide +kernel) (hQ _ _ _ ⟨rfl, rfl, rfl⟩)
theorem s_isSlotM (d : Nat) (E : aE) (I : aI) (J : aJ) (x : Int32) : Sp m_X10_isSlot (d + 2) [.int x] E I J (fun r I' J' => r = some (.int (zb (0 ≤ x ∧ x ≤ 3))) ∧ I' = I ∧ J' = J) := by
  refine Sp.of (lo := [some (.int x)]) rfl (fun Q hQ => ?_)
  refine Ez.blk B_X10_isSlot_0 (lo' := [some (.int x)]) (st' := [.long 3, .long 0, .long x.toInt64]) (I' := I) (J' := J) (Ps := []) rfl trivial ?_
  refine Ez.callS (As := [.long x.toInt64, .long 0, .long 3]) (rest := []) kn_X10_in ml_10_81 sm_X10_in (by decide +kernel) rfl rfl (Nat.le_of_ble_eq_true rfl) (Nat.le_of_ble_eq_true rfl) (s_in _ E I J x 0 3 0 3 (by decide) (by decide)) (fun r I1 J1 hq => ?_)
  obtain ⟨rfl, rfl, rfl⟩ := hq
  exact Ez.zret rfl (zb_01 _) (by decide +kernel) (hQ _ _ _ ⟨rfl, rfl, rfl⟩)
theorem s_w (d : Nat) (I : aI) (J : aJ) (c : Nat → Nat) (hc : MC c I) (i j : Nat) (hi : i < 6) (hj : j < 6) : Sp m_X10_w (d + 1) [.ref 93, .int (nI i), .int (nI j)] E0 I J (fun r I' J' => r = some (.int (nI (c (10 + 6 * i + j)))) ∧ I' = I ∧ J' = J) := by
  refine Sp.of (lo := [some (.ref 93), some (.int (nI i)), some (.int (nI j))]) rfl (fun Q hQ => ?_)
  refine Ez.blk B_X10_w_0 (lo' := [some (.ref 93), some (.int (nI i)), some (.int (nI j))]) (st' := [.int (I 94 (((10 + (6 * nI i)) + nI j).toNatClampNeg))]) (I' := I) (J' := J) (Ps := [aO E0 93 10 ∧ E0.2.2 93 0 ≠ 0, aAr E0 1 94 ((10 + (6 * nI i)) + nI j)]) rfl ⟨r_93_0, (a_94 (vin (n := (10 + (6 * i) + j)) (eq_add (a := (10 + (6 * i))) (b := j) (eq_add (a := 10) (b := (6 * i)) rfl (eq_mul (a := 6) (b := i) rfl rfl)) rfl) (by omega) (by decide)))⟩ ?_
  rw [cln (x := ((10 + (6 * nI i)) + nI j)) (n := (10 + (6 * i) + j)) (eq_add (a := (10 + (6 * i))) (b := j) (eq_add (a := 10) (b := (6 * i)) rfl (eq_mul (a := 6) (b := i) rfl rfl)) rfl) (by omega)]
  rw [hc (10 + 6 * i + j) (by omega)]
  exact Ez.iret rfl (by decide +kernel) (hQ _ _ _ ⟨rfl, rfl, rfl⟩)
theorem s_setW (d : Nat) (I : aI) (J : aJ) (i j : Nat) (hi : i < 6) (hj : j < 6) (v : Int32) : Sp m_X10_setWeight (d + 1) [.ref 93, .int (nI i), .int (nI j), .int v] E0 I J (fun r I' J' => r = none ∧ I' = aUp I 94 (10 + 6 * i + j) v ∧ J' = J) := by
  refine Sp.of (lo := [some (.ref 93), some (.int (nI i)), some (.int (nI j)), some (.int v)]) rfl (fun Q hQ => ?_)
  refine Ez.blk B_X10_setWeight_0 (lo' := [some (.ref 93), some (.int (nI i)), some (.int (nI j)), some (.int v)]) (st' := []) (I' := (aUp I 94 (((10 + (6 * nI i)) + nI j).toNatClampNeg) v)) (J' := J) (Ps := [aO E0 93 10 ∧ E0.2.2 93 0 ≠ 0, aAr E0 1 94 ((10 + (6 * nI i)) + nI j)]) rfl ⟨r_93_0, (a_94 (vin (n := (10 + (6 * i) + j)) (eq_add (a := (10 + (6 * i))) (b := j) (eq_add (a := 10) (b := (6 * i)) rfl (eq_mul (a := 6) (b := i) rfl rfl)) rfl) (by omega) (by decide)))⟩ ?_
  rw [cln (x := ((10 + (6 * nI i)) + nI j)) (n := (10 + (6 * i) + j)) (eq_add (a := (10 + (6 * i))) (b := j) (eq_add (a := 10) (b := (6 * i)) rfl (eq_mul (a := 6) (b := i) rfl rfl)) rfl) (by omega)]
  exact Ez.vret rfl (by decide +kernel) (hQ _ _ _ ⟨rfl, rfl, rfl⟩)
theorem stc_h {c : Nat → Nat} {n D k : Nat} (h : 4 ≤ k) : stc c n D k = if k < 10 then 0 else if (k - 10) % 7 = 0 ∧ (k - 10) / 7 < n then D else 0 := by
  unfold stc
  rw [if_neg (by omega), if_neg (by omega), if_neg (by omega)]
theorem s_init (d : Nat) (I : aI) (J : aJ) (c : Nat → Nat) (hc : MC c I) (n D : Nat) (hn : n ≤ 6) : Sp m_X10_initialize (d + 2) [.ref 93, .int (nI n), .int (nI D)] E0 I J (fun r I' J' => r = none ∧ J' = J ∧ MC (stc c n D) I' ∧ I' 93 2 = 0 ∧ (∀ k, k ≠ 2 → I' 93 k = I 93 k) ∧ ∀ q, q ≠ 93 → q ≠ 94 → I' q = I q) := by
  refine Sp.of (lo := [some (.ref 93), some (.int (nI n)), some (.int (nI D)), none]) rfl (fun Q hQ => ?_)
  obtain ⟨I0, hI0⟩ : ∃ I0, I0 = aUp (aUp I 94 0 (nI n)) 94 1 (nI D) := ⟨_, rfl⟩
  have L2 : ∀ k, k ≤ n → ∀ (I1 : aI), ((∀ j, j < 4 → I1 94 j = I0 94 j) ∧ (∀ j, 4 ≤ j → j < 46 → I1 94 j = nI (if j < 10 then 0 else if (j - 10) % 7 = 0 ∧ (j - 10) / 7 < k then D else 0)) ∧ ∀ q, q ≠ 94 → I1 q = I q) → Ez m_X10_initialize (d + 2) 37 [some (.ref 93), some (.int (nI n)), some (.int (nI D)), some (.int (nI k))] [] E0 I1 J Q := by
    refine for_up ?_ ?_
    · intro I1 hi
      refine Ez.blk B_X10_initialize_37 (lo' := [some (.ref 93), some (.int (nI n)), some (.int (nI D)), some (.int (nI n))]) (st' := [.int (nI n), .int (nI n)]) (I' := I1) (J' := J) (Ps := []) rfl trivial ?_
      refine Ez.n_icmp_ge (off := 16) (tgt := 55) (by decide +kernel) (by decide) (a := n) (b := n) rfl rfl (by omega) (by omega) (fun h => ?_) (fun h => absurd h (by omega))
      refine Ez.blk B_X10_initialize_55 (lo' := [some (.ref 93), some (.int (nI n)), some (.int (nI D)), some (.int (nI n))]) (st' := []) (I' := (aUp I1 93 2 0)) (J' := J) (Ps := [aO E0 93 10]) rfl o_93 ?_
      generalize hI2 : (aUp I1 93 2 0) = I2
      exact Ez.vret rfl (by decide +kernel) (hQ _ _ _ ⟨rfl, rfl, fun k hk => by
        rw [← hI2, aUp_ne (by decide)]
        by_cases e : k < 4
        · rw [hi.1 k e, hI0]
          unfold stc
          by_cases e0 : k = 0
          · rw [e0, if_pos rfl, aUp_nk (by decide), aUp_eq]
          · rw [if_neg e0]
            by_cases e1 : k = 1
            · rw [e1, if_pos rfl, aUp_eq]
            · rw [if_neg e1, if_pos e, aUp_nk e1, aUp_nk e0]; exact hc k hk
        · rw [hi.2.1 k (by omega) hk]
          rw [stc_h (by omega)], by rw [← hI2, aUp_eq], fun k hk => by rw [← hI2, aUp_nk hk, hi.2.2 93 (by decide)], fun q h0 h1 => by rw [← hI2, aUp_ne h0, hi.2.2 q h1]⟩)
    · intro k hk ih I1 hi
      refine Ez.blk B_X10_initialize_37 (lo' := [some (.ref 93), some (.int (nI n)), some (.int (nI D)), some (.int (nI k))]) (st' := [.int (nI n), .int (nI k)]) (I' := I1) (J' := J) (Ps := []) rfl trivial ?_
      refine Ez.n_icmp_ge (off := 16) (tgt := 55) (by decide +kernel) (by decide) (a := k) (b := n) rfl rfl (by omega) (by omega) (fun h => absurd h (by omega)) (fun h => ?_)
      refine Ez.blk B_X10_initialize_42 (lo' := [some (.ref 93), some (.int (nI n)), some (.int (nI D)), some (.int (nI k))]) (st' := [.int (nI D), .int (nI k), .int (nI k), .ref 93]) (I' := I1) (J' := J) (Ps := []) rfl trivial ?_
      refine Ez.callV (As := [.int (nI k), .int (nI k), .int (nI D)]) (b := 93) (rest := []) kn_X10_setWeight ml_10_85 im_X10_setWeight se_X10_setWeight rfl (by decide +kernel) rfl rfl (Nat.le_of_ble_eq_true rfl) (Nat.le_of_ble_eq_true rfl) o_93 (s_setW _ I1 J k k (by omega) (by omega) (nI D)) (fun r I2 J2 hq => ?_)
      obtain ⟨rfl, rfl, rfl⟩ := hq
      refine Ez.blk B_X10_initialize_49 (lo' := [some (.ref 93), some (.int (nI n)), some (.int (nI D)), some (.int (nI k + 1))]) (st' := []) (I' := (aUp I1 94 (10 + 6 * k + k) (nI D))) (J' := J2) (Ps := []) rfl trivial ?_
      rw [show (nI k + 1) = nI (k + 1) from (eq_add (a := k) (b := 1) rfl rfl)]
      exact ih _ ⟨fun j hj => by rw [aUp_nk (by omega)]; exact hi.1 j hj, fun j h4 hj => by
        by_cases e : j = 10 + 6 * k + k
        · rw [e, aUp_eq, if_neg (by omega), if_pos (by omega)]
        · rw [aUp_nk e, hi.2.1 j h4 hj]
          by_cases e2 : j < 10
          · rw [if_pos e2, if_pos e2]
          · rw [if_neg e2, if_neg e2]
            by_cases e3 : (j - 10) % 7 = 0 ∧ (j - 10) / 7 < k
            · rw [if_pos e3, if_pos (by omega)]
            · rw [if_neg e3, if_neg (by omega)], fun q hq => by rw [aUp_ne hq]; exact hi.2.2 q hq⟩
  have L1 : ∀ k, k ≤ 46 → ∀ (I1 : aI), ((∀ j, j < 4 → I1 94 j = I0 94 j) ∧ (∀ j, 4 ≤ j → j < k → I1 94 j = 0) ∧ (∀ q, q ≠ 94 → I1 q = I q) ∧ 4 ≤ k) → Ez m_X10_initialize (d + 2) 16 [some (.ref 93), some (.int (nI n)), some (.int (nI D)), some (.int (nI k))] [] E0 I1 J Q := by
    refine for_up ?_ ?_
    · intro I1 hi
      refine Ez.blk B_X10_initialize_16 (lo' := [some (.ref 93), some (.int (nI n)), some (.int (nI D)), some (.int (nI 46))]) (st' := [.int 46, .int (nI 46)]) (I' := I1) (J' := J) (Ps := []) rfl trivial ?_
      refine Ez.n_icmp_ge (off := 16) (tgt := 35) (by decide +kernel) (by decide) (a := 46) (b := 46) rfl rfl (by omega) (by omega) (fun h => ?_) (fun h => absurd h (by omega))
      refine Ez.blk B_X10_initialize_35 (lo' := [some (.ref 93), some (.int (nI n)), some (.int (nI D)), some (.int 0)]) (st' := []) (I' := I1) (J' := J) (Ps := []) rfl trivial ?_
      exact L2 0 (by omega) I1 ⟨hi.1, fun j h4 hj => by rw [hi.2.1 j h4 hj]; split; rfl; rw [if_neg (by omega)]; rfl, hi.2.2.1⟩
    · intro k hk ih I1 hi
      refine Ez.blk B_X10_initialize_16 (lo' := [some (.ref 93), some (.int (nI n)), some (.int (nI D)), some (.int (nI k))]) (st' := [.int 46, .int (nI k)]) (I' := I1) (J' := J) (Ps := []) rfl trivial ?_
      refine Ez.n_icmp_ge (off := 16) (tgt := 35) (by decide +kernel) (by decide) (a := k) (b := 46) rfl rfl (by omega) (by omega) (fun h => absurd h (by omega)) (fun h => ?_)
      refine Ez.blk B_X10_initialize_22 (lo' := [some (.ref 93), some (.int (nI n)), some (.int (nI D)), some (.int (nI k + 1))]) (st' := []) (I' := (aUp I1 94 ((nI k).toNatClampNeg) 0)) (J' := J) (Ps := [aO E0 93 10 ∧ E0.2.2 93 0 ≠ 0, aAr E0 1 94 (nI k)]) rfl ⟨r_93_0, (a_94 (vin (n := k) rfl (by omega) (by decide)))⟩ ?_
      rw [cln (x := nI k) (n := k) rfl (by omega)]
      rw [show (nI k + 1) = nI (k + 1) from (eq_add (a := k) (b := 1) rfl rfl)]
      exact ih _ ⟨fun j hj => by rw [aUp_nk (by omega)]; exact hi.1 j hj, fun j h4 hj => by
        by_cases e : j = k
        · rw [e, aUp_eq]
        · rw [aUp_nk e]; exact hi.2.1 j h4 (by omega), fun q hq => by rw [aUp_ne hq]; exact hi.2.2.1 q hq, by omega⟩
  refine Ez.blk B_X10_initialize_0 (lo' := [some (.ref 93), some (.int (nI n)), some (.int (nI D)), some (.int 4)]) (st' := []) (I' := (aUp (aUp I 94 0 (nI n)) 94 1 (nI D))) (J' := J) (Ps := [aO E0 93 10 ∧ E0.2.2 93 0 ≠ 0, aAr E0 1 94 0, aO E0 93 10 ∧ E0.2.2 93 0 ≠ 0, aAr E0 1 94 1]) rfl ⟨r_93_0, (a_94 (vin (n := 0) rfl (by omega) (by decide))), r_93_0, (a_94 (vin (n := 1) rfl (by omega) (by decide)))⟩ ?_
  rw [← hI0]
  exact L1 4 (by omega) I0 ⟨fun _ _ => rfl, fun j h4 hj => by omega, fun q hq => by rw [hI0, aUp_ne hq, aUp_ne hq], by omega⟩
theorem s_begin (d : Nat) (I : aI) (J : aJ) : Sp m_X10_begin (d + 1) [.ref 93] E0 I J (fun r I' J' => r = none ∧ J' = J ∧ (∀ k, k < 46 → I' 97 k = I 94 k) ∧ ∀ q, q ≠ 97 → I' q = I q) := by
  refine Sp.of (lo := [some (.ref 93)]) rfl (fun Q hQ => ?_)
  refine Ez.blk B_X10_begin_0 (lo' := [some (.ref 93)]) (st' := []) (I' := (aRw I 97 (va_cpy (I 94) (I 97) 0 0 46))) (J' := J) (Ps := [aO E0 93 10 ∧ E0.2.2 93 0 ≠ 0, aO E0 93 10 ∧ E0.2.2 93 5 ≠ 0, aCp E0 1 94 97 0 0 46]) rfl ⟨r_93_0, r_93_5, (cpy_ok (s0 := 0) (d0 := 0) (m := 46) q_94 q_97 rfl rfl rfl (by omega) (by omega) (by omega) (by omega) (by omega))⟩ ?_
  exact Ez.vret rfl (by decide +kernel) (hQ _ _ _ ⟨rfl, rfl, fun k hk => by rw [aRw_at, cp0 hk], fun q hq => aRw_ne hq⟩)
def dfk (c e : Nat → Nat) : Nat → Bool
  | 0 => false
  | k + 1 => dfk c e k || !(c k == e k)
theorem dfk_iff {c e : Nat → Nat} : ∀ k, dfk c e k = true ↔ ∃ j, j < k ∧ c j ≠ e j
  | 0 => ⟨fun h => (by cases h), fun ⟨j, h, _⟩ => (by omega)⟩
  | k + 1 => by
    unfold dfk
    rw [Bool.or_eq_true, dfk_iff k]
    constructor
    · rintro (⟨j, h1, h2⟩ | h)
      · exact ⟨j, by omega, h2⟩
      · exact ⟨k, by omega, fun q => by rw [q] at h; simp at h⟩
    · rintro ⟨j, h1, h2⟩
      by_cases e1 : j = k
      · subst e1
        exact Or.inr (by simpa using h2)
      · exact Or.inl ⟨j, by omega, h2⟩
theorem dfk_eqc {c e : Nat → Nat} : dfk c e 46 = true ↔ ¬ eqc e c = true := by
  rw [dfk_iff, eqc_iff]
  constructor
  · rintro ⟨j, h1, h2⟩ q
    exact h2 (q j h1).symm
  · intro h
    refine Classical.byContradiction (fun q => h (fun k hk => Classical.byContradiction (fun z => q ⟨k, hk, fun y => z y.symm⟩)))
/-- the edits behind an edit that made c of c0 -/
def edi (ed : Nat × (Nat → Nat → Nat)) (c0 c : Nat → Nat) : Nat × (Nat → Nat → Nat) := if eqc c0 c = true then ed else psh ed c0
theorem s_record (d : Nat) (I : aI) (J : aJ) (c0 c : Nat → Nat) (h0 : ∀ k, k < 46 → I 97 k = nI (c0 k)) (hc : MC c I) (b0 : ∀ k, k < 46 → c0 k ≤ 99) (b1 : ∀ k, k < 46 → c k ≤ 99) (ed : Nat × (Nat → Nat → Nat)) (he : MEd ed I) (h10 : ed.1 ≤ 10) : Sp m_X10_record (d + 1) [.ref 93] E0 I J (fun r I' J' => r = some (.int (zb (¬ eqc c0 c = true))) ∧ J' = J ∧ MEd (edi ed c0 c) I' ∧ (∀ k, k ≠ 2 → I' 93 k = I 93 k) ∧ ∀ q, q ≠ 93 → q ≠ 95 → I' q = I q) := by
  refine Sp.of (lo := [some (.ref 93), none, none]) rfl (fun Q hQ => ?_)
  have L1 : ∀ k, k ≤ 46 → True → Ez m_X10_record (d + 1) 4 [some (.ref 93), some (.int (zb (dfk c c0 k = true))), some (.int (nI k))] [] E0 I J Q := by
    refine for_up ?_ ?_
    · intro _
      refine Ez.blk B_X10_record_4 (lo' := [some (.ref 93), some (.int (zb (dfk c c0 46 = true))), some (.int (nI 46))]) (st' := [.int 46, .int (nI 46)]) (I' := I) (J' := J) (Ps := []) rfl trivial ?_
      refine Ez.n_icmp_ge (off := 34) (tgt := 41) (by decide +kernel) (by decide) (a := 46) (b := 46) rfl rfl (by omega) (by omega) (fun h => ?_) (fun h => absurd h (by omega))
      refine Ez.blk B_X10_record_41 (lo' := [some (.ref 93), some (.int (zb (dfk c c0 46 = true))), some (.int (nI 46))]) (st' := [.int (zb (dfk c c0 46 = true))]) (I' := I) (J' := J) (Ps := []) rfl trivial ?_
      refine Ez.z_if_ne (off := 5) (tgt := 47) (by decide +kernel) (by decide) (fun h1 => ?_) (fun h1 => ?_)
      · have hne := dfk_eqc.mp h1
        refine Ez.blk B_X10_record_47 (lo' := [some (.ref 93), some (.int (zb (dfk c c0 46 = true))), some (.int (nI 46))]) (st' := [.int 10, .int (I 93 2)]) (I' := I) (J' := J) (Ps := [aO E0 93 10]) rfl o_93 ?_
        refine Ez.n_icmp_ne (off := 30) (tgt := 83) (by decide +kernel) (by decide) (a := ed.1) (b := 10) he.1 rfl (by omega) (by omega) (fun h2 => ?_) (fun h2 => ?_)
        · refine Ez.blk B_X10_record_83 (lo' := [some (.ref 93), some (.int (zb (dfk c c0 46 = true))), some (.int (nI 46))]) (st' := [.int 1]) (I' := (aUp (aRw I 95 (va_cpy (I 97) (I 95) 0 (46 * I 93 2).toNatClampNeg 46)) 93 2 (I 93 2 + 1))) (J' := J) (Ps := [aO E0 93 10 ∧ E0.2.2 93 5 ≠ 0, aO E0 93 10 ∧ E0.2.2 93 1 ≠ 0, aO E0 93 10, aCp E0 1 97 95 0 (46 * I 93 2) 46, aO E0 93 10, aO E0 93 10]) rfl ⟨r_93_5, r_93_1, o_93, (cpy_ok (s0 := 0) (d0 := (46 * ed.1)) (m := 46) q_97 q_95 rfl (eq_mul (a := 46) (b := ed.1) rfl he.1) rfl (by omega) (by omega) (by omega) (by omega) (by omega)), o_93, o_93⟩ ?_
          rw [cln (x := (46 * I 93 2)) (n := (46 * ed.1)) (eq_mul (a := 46) (b := ed.1) rfl he.1) (by omega)]
          generalize hI2 : (aUp (aRw I 95 (va_cpy (I 97) (I 95) 0 (46 * ed.1) 46)) 93 2 (I 93 2 + 1)) = I2
          exact Ez.zret rfl (Or.inr rfl) (by decide +kernel) (hQ _ _ _ ⟨by rw [zb_t (p := ¬ eqc c0 c = true) hne], rfl, by
            unfold edi psh
            rw [if_neg hne, if_pos (by omega)]
            refine ⟨by rw [← hI2, aUp_eq, he.1, nI_1], fun i hi k hk => ?_⟩
            have hi : i < ed.1 + 1 := hi
            rw [← hI2, aUp_ne (by decide), aRw_at]
            show _ = nI ((if i = ed.1 then c0 else ed.2 i) k)
            by_cases e : i = ed.1
            · rw [if_pos e, e, pk_cpy_in (by omega) (by omega), show 0 + (46 * ed.1 + k - 46 * ed.1) = k by omega]; exact h0 k hk
            · rw [if_neg e, pk_cpy_out (by omega)]; exact he.2 i (by omega) k hk, fun k hk => by rw [← hI2, aUp_nk hk, aRw_ne (by decide)], fun q g0 g1 => by rw [← hI2, aUp_ne g0, aRw_ne g1]⟩)
        · have e9 : I 93 2 - 1 = nI 9 := by rw [he.1, h2]; exact nI_pred 9
          refine Ez.blk B_X10_record_56 (lo' := [some (.ref 93), some (.int (zb (dfk c c0 46 = true))), some (.int (nI 46))]) (st' := [.int 1]) (I' := (aUp (aRw (aUp (aRw I 95 (va_cpy (I 95) (I 95) 46 0 414)) 93 2 (I 93 2 - 1)) 95 (va_cpy ((aUp (aRw I 95 (va_cpy (I 95) (I 95) 46 0 414)) 93 2 (I 93 2 - 1)) 97) ((aUp (aRw I 95 (va_cpy (I 95) (I 95) 46 0 414)) 93 2 (I 93 2 - 1)) 95) 0 (46 * (I 93 2 - 1)).toNatClampNeg 46)) 93 2 ((I 93 2 - 1) + 1))) (J' := J) (Ps := [aO E0 93 10 ∧ E0.2.2 93 1 ≠ 0, aO E0 93 10 ∧ E0.2.2 93 1 ≠ 0, aCp E0 1 95 95 46 0 414, aO E0 93 10, aO E0 93 10, aO E0 93 10 ∧ E0.2.2 93 5 ≠ 0, aO E0 93 10 ∧ E0.2.2 93 1 ≠ 0, aO E0 93 10, aCp E0 1 97 95 0 (46 * (I 93 2 - 1)) 46, aO E0 93 10, aO E0 93 10]) rfl ⟨r_93_1, r_93_1, (cpy_ok (s0 := 46) (d0 := 0) (m := 414) q_95 q_95 rfl rfl rfl (by omega) (by omega) (by omega) (by omega) (by omega)), o_93, o_93, r_93_5, r_93_1, o_93, (cpy_ok (s0 := 0) (d0 := (46 * 9)) (m := 46) q_97 q_95 rfl (eq_mul (a := 46) (b := 9) rfl e9) rfl (by omega) (by omega) (by omega) (by omega) (by omega)), o_93, o_93⟩ ?_
          rw [cln (x := (46 * (I 93 2 - 1))) (n := (46 * 9)) (eq_mul (a := 46) (b := 9) rfl e9) (by omega)]
          obtain ⟨I2, hI2⟩ : ∃ I2, I2 = (aUp (aRw I 95 (va_cpy (I 95) (I 95) 46 0 414)) 93 2 (I 93 2 - 1)) := ⟨_, rfl⟩
          rw [← hI2]
          have q2 : I2 93 2 = nI 9 := by rw [hI2, aUp_eq]; exact e9
          have q3 : ∀ k, k ≠ 2 → I2 93 k = I 93 k := fun k hk => by rw [hI2, aUp_nk hk, aRw_ne (by decide)]
          have q4 : ∀ q, q ≠ 93 → q ≠ 95 → I2 q = I q := fun q g0 g1 => by rw [hI2, aUp_ne g0, aRw_ne g1]
          have q5 : ∀ i, i < 9 → ∀ k, k < 46 → I2 95 (46 * i + k) = nI (ed.2 (i + 1) k) := fun i hi k hk => by
            rw [hI2, aUp_ne (by decide), aRw_at, pk_cpy_in (by omega) (by omega), show 46 + (46 * i + k - 0) = 46 * (i + 1) + k by omega]
            exact he.2 (i + 1) (by omega) k hk
          generalize hI3 : (aUp (aRw I2 95 (va_cpy (I2 97) (I2 95) 0 (46 * 9) 46)) 93 2 ((I 93 2 - 1) + 1)) = I3
          exact Ez.zret rfl (Or.inr rfl) (by decide +kernel) (hQ _ _ _ ⟨by rw [zb_t (p := ¬ eqc c0 c = true) hne], rfl, by
            unfold edi psh
            rw [if_neg hne, if_neg (by omega)]
            refine ⟨by rw [← hI3, aUp_eq, e9]; rfl, fun i hi k hk => ?_⟩
            have hi : i < 10 := hi
            rw [← hI3, aUp_ne (by decide), aRw_at]
            show _ = nI ((if i = 9 then c0 else ed.2 (i + 1)) k)
            by_cases e : i = 9
            · rw [if_pos e, e, pk_cpy_in (by omega) (by omega), show 0 + (46 * 9 + k - 46 * 9) = k by omega, q4 97 (by decide) (by decide)]; exact h0 k hk
            · rw [if_neg e, pk_cpy_out (by omega)]; exact q5 i (by omega) k hk, fun k hk => by rw [← hI3, aUp_nk hk, aRw_ne (by decide)]; exact q3 k hk, fun q g0 g1 => by rw [← hI3, aUp_ne g0, aRw_ne g1]; exact q4 q g0 g1⟩)
      · refine Ez.blk B_X10_record_45 (lo' := [some (.ref 93), some (.int (zb (dfk c c0 46 = true))), some (.int (nI 46))]) (st' := [.int 0]) (I' := I) (J' := J) (Ps := []) rfl trivial ?_
        exact Ez.zret rfl (Or.inl rfl) (by decide +kernel) (hQ _ _ _ ⟨by rw [zb_f (p := ¬ eqc c0 c = true) (fun q => h1 (dfk_eqc.mpr q))], rfl, by unfold edi; rw [if_pos (Classical.not_not.mp (fun q => h1 (dfk_eqc.mpr q)))]; exact he, fun _ _ => rfl, fun _ _ _ => rfl⟩)
    · intro k hk ih _
      refine Ez.blk B_X10_record_4 (lo' := [some (.ref 93), some (.int (zb (dfk c c0 k = true))), some (.int (nI k))]) (st' := [.int 46, .int (nI k)]) (I' := I) (J' := J) (Ps := []) rfl trivial ?_
      refine Ez.n_icmp_ge (off := 34) (tgt := 41) (by decide +kernel) (by decide) (a := k) (b := 46) rfl rfl (by omega) (by omega) (fun h => absurd h (by omega)) (fun h => ?_)
      refine Ez.blk B_X10_record_10 (lo' := [some (.ref 93), some (.int (zb (dfk c c0 k = true))), some (.int (nI k))]) (st' := [.int (zb (dfk c c0 k = true))]) (I' := I) (J' := J) (Ps := []) rfl trivial ?_
      refine Ez.z_if_ne (off := 18) (tgt := 29) (by decide +kernel) (by decide) (fun h1 => ?_) (fun h1 => ?_)
      · refine Ez.blk B_X10_record_29 (lo' := [some (.ref 93), some (.int (zb (dfk c c0 k = true))), some (.int (nI k))]) (st' := [.int 1]) (I' := I) (J' := J) (Ps := []) rfl trivial ?_
        refine Ez.blk B_X10_record_34 (lo' := [some (.ref 93), some (.int 1), some (.int (nI k + 1))]) (st' := []) (I' := I) (J' := J) (Ps := []) rfl trivial ?_
        rw [show (nI k + 1) = nI (k + 1) from (eq_add (a := k) (b := 1) rfl rfl)]
        rw [show (1 : Int32) = zb (dfk c c0 (k + 1) = true) from (zb_t (by unfold dfk; rw [h1]; rfl)).symm]
        exact ih trivial
      · have wk := hc k hk
        have vk := h0 k hk
        have w9 := b1 k hk
        have v9 := b0 k hk
        refine Ez.blk B_X10_record_14 (lo' := [some (.ref 93), some (.int (zb (dfk c c0 k = true))), some (.int (nI k))]) (st' := [.int (I 97 ((nI k).toNatClampNeg)), .int (I 94 ((nI k).toNatClampNeg))]) (I' := I) (J' := J) (Ps := [aO E0 93 10 ∧ E0.2.2 93 0 ≠ 0, aAr E0 1 94 (nI k), aO E0 93 10 ∧ E0.2.2 93 5 ≠ 0, aAr E0 1 97 (nI k)]) rfl ⟨r_93_0, (a_94 (vin (n := k) rfl (by omega) (by decide))), r_93_5, (a_97 (vin (n := k) rfl (by omega) (by decide)))⟩ ?_
        rw [cln (x := nI k) (n := k) rfl (by omega)]
        rw [wk]
        rw [vk]
        refine Ez.n_icmp_eq (off := 7) (tgt := 33) (by decide +kernel) (by decide) (a := (c k)) (b := (c0 k)) rfl rfl (by omega) (by omega) (fun h2 => ?_) (fun h2 => ?_)
        · refine Ez.blk B_X10_record_33 (lo' := [some (.ref 93), some (.int 0), some (.int (nI k + 1))]) (st' := []) (I' := I) (J' := J) (Ps := []) rfl trivial ?_
          rw [show (nI k + 1) = nI (k + 1) from (eq_add (a := k) (b := 1) rfl rfl)]
          rw [show (0 : Int32) = zb (dfk c c0 (k + 1) = true) from (zb_f (fun q => by
            obtain ⟨j, g1, g2⟩ := (dfk_iff (k + 1)).mp q
            by_cases e : j = k
            · exact g2 (by rw [e]; exact h2)
            · exact h1 ((dfk_iff k).mpr ⟨j, by omega, g2⟩))).symm]
          exact ih trivial
        · refine Ez.blk B_X10_record_29 (lo' := [some (.ref 93), some (.int (zb (dfk c c0 k = true))), some (.int (nI k))]) (st' := [.int 1]) (I' := I) (J' := J) (Ps := []) rfl trivial ?_
          refine Ez.blk B_X10_record_34 (lo' := [some (.ref 93), some (.int 1), some (.int (nI k + 1))]) (st' := []) (I' := I) (J' := J) (Ps := []) rfl trivial ?_
          rw [show (nI k + 1) = nI (k + 1) from (eq_add (a := k) (b := 1) rfl rfl)]
          rw [show (1 : Int32) = zb (dfk c c0 (k + 1) = true) from (zb_t ((dfk_iff (k + 1)).mpr ⟨k, by omega, h2⟩)).symm]
          exact ih trivial
  refine Ez.blk B_X10_record_0 (lo' := [some (.ref 93), some (.int 0), some (.int 0)]) (st' := []) (I' := I) (J' := J) (Ps := []) rfl trivial ?_
  exact L1 0 (by omega) trivial

/-! PATHS -/
/-- the state's label is in the set -/
def tgt (c : Nat → Nat) (m s : Nat) : Bool := decide (m / 2 ^ c (4 + s) % 2 = 1)
def stp (c x : Nat → Nat) : Nat → Nat := fun s => sm (fun u => c (10 + 6 * s + u) * x u) (c 0)
def tg0 (c : Nat → Nat) (m : Nat) : Nat → Nat := fun s => if tgt c m s = true then 1 else 0
def rch (c : Nat → Nat) (m : Nat) : Nat → Nat → Nat
  | 0 => tg0 c m
  | k + 1 => stp c (rch c m k)
def frc (c : Nat → Nat) (m : Nat) : Nat → Nat → Nat
  | 0 => tg0 c m
  | k + 1 => fun s => if tgt c m s = true then c 1 ^ (k + 1) else stp c (frc c m k) s
def lb0 (c : Nat → Nat) (v : Nat) : Nat → Nat := fun s => if c (4 + s) = v then 1 else 0
def sqx (c b : Nat → Nat) (l : Nat) : Nat → Nat → Nat
  | 0 => lb0 c (b (l - 1) - 48)
  | k + 1 => fun s => if c (4 + s) = b (l - 2 - k) - 48 then stp c (sqx c b l k) s else 0
/-- a row of longs holds these numbers -/
abbrev Lv (J : aJ) (a n : Nat) (x : Nat → Nat) : Prop := ∀ s, s < n → J a s = lN (x s)
theorem tg_bit {m l : Nat} (hm : m < 16) (hl : l ≤ 3) : ((nI m).toUInt32 >>> ((nI l).toUInt32 &&& Int32.toUInt32 31)).toInt32 &&& 1 = nI (m / 2 ^ l % 2) := by
  rw [pk_ushrN (by omega) (nI l) l (by rcases (show l = 0 ∨ l = 1 ∨ l = 2 ∨ l = 3 by omega) with rfl | rfl | rfl | rfl <;> decide), pk_andN (Nat.lt_of_le_of_lt (Nat.div_le_self _ _) (by omega)) 1 (by decide)]
theorem sh_1 {l : Nat} (hl : l ≤ 3) : (1 : Int32) <<< (nI l &&& 31) = nI (2 ^ l) := by
  rcases (show l = 0 ∨ l = 1 ∨ l = 2 ∨ l = 3 by omega) with rfl | rfl | rfl | rfl <;> decide
theorem tgt_1 {c : Nat → Nat} {l s : Nat} (hl : l ≤ 3) (hc : c (4 + s) ≤ 3) : tgt c (2 ^ l) s = true ↔ c (4 + s) = l := by
  unfold tgt
  rw [decide_eq_true_eq]
  rcases (show l = 0 ∨ l = 1 ∨ l = 2 ∨ l = 3 by omega) with rfl | rfl | rfl | rfl <;> rcases (show c (4 + s) = 0 ∨ c (4 + s) = 1 ∨ c (4 + s) = 2 ∨ c (4 + s) = 3 by omega) with e | e | e | e <;> rw [e] <;> decide
def f_reach (T : TS) (x m k : Int32) : Int64 × TS := if isS T x ∧ (0 ≤ m ∧ m ≤ 15) ∧ (0 ≤ k ∧ k ≤ 12) then (lN (rch T.1 m.toNatClampNeg k.toNatClampNeg x.toNatClampNeg), T) else ((-9223372036854775808), T)
def f_first (T : TS) (x m k : Int32) : Int64 × TS := if isS T x ∧ (0 ≤ m ∧ m ≤ 15) ∧ (0 ≤ k ∧ k ≤ 12) then (lN (frc T.1 m.toNatClampNeg k.toNatClampNeg x.toNatClampNeg), T) else ((-9223372036854775808), T)
def f_seq (T : TS) (x : Int32) : Int64 × TS := ((if isS T x ∧ lsq T.2.2.2.1 = true then lN (sqx T.1 T.2.2.2.1.2 (bL T) (bL T - 1) x.toNatClampNeg) else (-9223372036854775808)), setB T (0, T.2.2.2.1.2))
/-- what the paths' rows are to nobody -/
theorem CP_p {T : TS} {I : aI} {J J' : aJ} (h : CP T I J) (hJ : ∀ q, q ≠ 78 → q ≠ 79 → J' q = J q) : CP T I J' := ⟨h.1, h.2.1, h.2.2.1, h.2.2.2.1, CSl_fr h.2.2.2.2.1 rfl rfl (fun b _ _ => hJ b (by omega) (by omega)), CCa_fr h.2.2.2.2.2 (fun _ _ _ => rfl) (fun b _ _ => hJ b (by omega) (by omega))⟩
theorem lN_0 : (0 : Int64) = lN 0 := rfl
theorem lN_1' : (1 : Int64) = lN 1 := rfl
theorem aUpJ_eq {J : aJ} {a k : Nat} {v : Int64} : aUpJ J a k v a k = v := by unfold aUpJ; rw [if_pos ⟨rfl, rfl⟩]
theorem aUpJ_nk {J : aJ} {a k b j : Nat} {v : Int64} (h : j ≠ k) : aUpJ J a k v b j = J b j := by unfold aUpJ; rw [if_neg (fun q => h q.2)]
theorem s_isTarget (d : Nat) (I : aI) (J : aJ) (c : Nat → Nat) (hc : Ch I 2 c) (W : Wc c) (s m : Nat) (hs : s < 6) (hm : m < 16) : Sp m_X7_isTarget (d + 1) [.ref 2, .int (nI s), .int (nI m)] E0 I J (fun r I' J' => r = some (.int (zb (tgt c m s = true))) ∧ I' = I ∧ J' = J) := by
  refine Sp.of (lo := [some (.ref 2), some (.int (nI s)), some (.int (nI m))]) rfl (fun Q hQ => ?_)
  have w1 := W.1
  have w2 := W.2.1
  have wl := W.2.2.2.1
  have w12 := Wc_w W
  have hl := wl s hs
  refine Ez.blk B_X7_isTarget_0 (lo' := [some (.ref 2), some (.int (nI s)), some (.int (nI m))]) (st' := [.int 1, .int ((((nI m).toUInt32 >>> ((I 3 ((nI s).toNatClampNeg)).toUInt32 &&& Int32.toUInt32 31)).toInt32) &&& 1)]) (I' := I) (J' := J) (Ps := [aO E0 2 1 ∧ E0.2.2 2 4 ≠ 0, aAr E0 1 3 (nI s)]) rfl ⟨r_2_4, (a_3 (vin (n := s) rfl (by omega) (by decide)))⟩ ?_
  rw [cln (x := nI s) (n := s) rfl (by omega)]
  rw [hc.2.1 s hs, tg_bit hm hl]
  refine Ez.n_icmp_ne (off := 7) (tgt := 18) (by decide +kernel) (by decide) (a := (m / 2 ^ c (4 + s) % 2)) (b := 1) rfl rfl (by omega) (by omega) (fun h => ?_) (fun h => ?_)
  · refine Ez.blk B_X7_isTarget_18 (lo' := [some (.ref 2), some (.int (nI s)), some (.int (nI m))]) (st' := [.int 0]) (I' := I) (J' := J) (Ps := []) rfl trivial ?_
    exact Ez.zret rfl (Or.inl rfl) (by decide +kernel) (hQ _ _ _ ⟨by rw [zb_f (p := tgt c m s = true) (fun q => h (of_decide_eq_true q))], rfl, rfl⟩)
  · refine Ez.blk B_X7_isTarget_14 (lo' := [some (.ref 2), some (.int (nI s)), some (.int (nI m))]) (st' := [.int 1]) (I' := I) (J' := J) (Ps := []) rfl trivial ?_
    exact Ez.zret rfl (Or.inr rfl) (by decide +kernel) (hQ _ _ _ ⟨by rw [zb_t (p := tgt c m s = true) (decide_eq_true h)], rfl, rfl⟩)
theorem s_mark (d : Nat) (I : aI) (J : aJ) (c : Nat → Nat) (hc : Ch I 2 c) (W : Wc c) (m : Nat) (hm : m < 16) : Sp m_X7_markTargets (d + 2) [.ref 77, .ref 2, .int (nI m)] E0 I J (fun r I' J' => r = none ∧ I' = I ∧ Lv J' 78 (c 0) (tg0 c m) ∧ ∀ q, q ≠ 78 → J' q = J q) := by
  refine Sp.of (lo := [some (.ref 77), some (.ref 2), some (.int (nI m)), none]) rfl (fun Q hQ => ?_)
  have w1 := W.1
  have w2 := W.2.1
  have wl := W.2.2.2.1
  have w12 := Wc_w W
  have L1 : ∀ k, k ≤ c 0 → ∀ (J1 : aJ), (Lv J1 78 k (tg0 c m) ∧ ∀ q, q ≠ 78 → J1 q = J q) → Ez m_X7_markTargets (d + 2) 2 [some (.ref 77), some (.ref 2), some (.int (nI m)), some (.int (nI k))] [] E0 I J1 Q := by
    refine for_up ?_ ?_
    · intro J1 hi
      refine Ez.blk B_X7_markTargets_2 (lo' := [some (.ref 77), some (.ref 2), some (.int (nI m)), some (.int (nI (c 0)))]) (st' := [.int (I 2 0), .int (nI (c 0))]) (I' := I) (J' := J1) (Ps := [aO E0 2 1]) rfl o_2 ?_
      refine Ez.n_icmp_ge (off := 29) (tgt := 36) (by decide +kernel) (by decide) (a := (c 0)) (b := (c 0)) rfl (hc.1 0 (by decide)) (by omega) (by omega) (fun h => ?_) (fun h => absurd h (by omega))
      exact Ez.vret rfl (by decide +kernel) (hQ _ _ _ ⟨rfl, rfl, hi.1, hi.2⟩)
    · intro k hk ih J1 hi
      refine Ez.blk B_X7_markTargets_2 (lo' := [some (.ref 77), some (.ref 2), some (.int (nI m)), some (.int (nI k))]) (st' := [.int (I 2 0), .int (nI k)]) (I' := I) (J' := J1) (Ps := [aO E0 2 1]) rfl o_2 ?_
      refine Ez.n_icmp_ge (off := 29) (tgt := 36) (by decide +kernel) (by decide) (a := k) (b := (c 0)) rfl (hc.1 0 (by decide)) (by omega) (by omega) (fun h => absurd h (by omega)) (fun h => ?_)
      refine Ez.blk B_X7_markTargets_10 (lo' := [some (.ref 77), some (.ref 2), some (.int (nI m)), some (.int (nI k))]) (st' := [.int (nI m), .int (nI k), .ref 2, .int (nI k), .ref 78]) (I' := I) (J' := J1) (Ps := [aO E0 77 7 ∧ E0.2.2 77 0 ≠ 0]) rfl r_77_0 ?_
      refine Ez.callS (As := [.ref 2, .int (nI k), .int (nI m)]) (rest := [.int (nI k), .ref 78]) kn_X7_isTarget ml_7_41 sm_X7_isTarget (by decide +kernel) rfl rfl (Nat.le_of_ble_eq_true rfl) (Nat.le_of_ble_eq_true rfl) (s_isTarget _ I J1 c hc W k m (by omega) hm) (fun r I2 J2 hq => ?_)
      obtain ⟨rfl, rfl, rfl⟩ := hq
      refine Ez.z_if_eq (off := 7) (tgt := 28) (by decide +kernel) (by decide) (fun h2 => ?_) (fun h2 => ?_)
      · refine Ez.blk B_X7_markTargets_28 (lo' := [some (.ref 77), some (.ref 2), some (.int (nI m)), some (.int (nI k + 1))]) (st' := []) (I' := I2) (J' := (aUpJ J2 78 ((nI k).toNatClampNeg) 0)) (Ps := [aAr E0 2 78 (nI k)]) rfl (a_78 (vin (n := k) rfl (by omega) (by decide))) ?_
        rw [cln (x := nI k) (n := k) rfl (by omega)]
        rw [show (nI k + 1) = nI (k + 1) from (eq_add (a := k) (b := 1) rfl rfl)]
        exact ih _ ⟨fun s hs => by
          by_cases e : s = k
          · rw [e, aUpJ_eq]; unfold tg0; rw [if_neg h2]; rfl
          · rw [aUpJ_nk e]; exact hi.1 s (by omega), fun q hq => by rw [aUpJ_ne hq]; exact hi.2 q hq⟩
      · refine Ez.blk B_X7_markTargets_24 (lo' := [some (.ref 77), some (.ref 2), some (.int (nI m)), some (.int (nI k))]) (st' := [.long 1, .int (nI k), .ref 78]) (I' := I2) (J' := J2) (Ps := []) rfl trivial ?_
        refine Ez.blk B_X7_markTargets_29 (lo' := [some (.ref 77), some (.ref 2), some (.int (nI m)), some (.int (nI k + 1))]) (st' := []) (I' := I2) (J' := (aUpJ J2 78 ((nI k).toNatClampNeg) 1)) (Ps := [aAr E0 2 78 (nI k)]) rfl (a_78 (vin (n := k) rfl (by omega) (by decide))) ?_
        rw [cln (x := nI k) (n := k) rfl (by omega)]
        rw [show (nI k + 1) = nI (k + 1) from (eq_add (a := k) (b := 1) rfl rfl)]
        exact ih _ ⟨fun s hs => by
          by_cases e : s = k
          · rw [e, aUpJ_eq]; unfold tg0; rw [if_pos h2]; rfl
          · rw [aUpJ_nk e]; exact hi.1 s (by omega), fun q hq => by rw [aUpJ_ne hq]; exact hi.2 q hq⟩
  refine Ez.blk B_X7_markTargets_0 (lo' := [some (.ref 77), some (.ref 2), some (.int (nI m)), some (.int 0)]) (st' := []) (I' := I) (J' := J) (Ps := []) rfl trivial ?_
  exact L1 0 (by omega) J ⟨fun s hs => by omega, fun _ _ => rfl⟩
theorem s_step (d : Nat) (I : aI) (J : aJ) (c : Nat → Nat) (hc : Ch I 2 c) (W : Wc c) (x : Nat → Nat) (hx : Lv J 78 (c 0) x) : Sp m_X7_stepBack (d + 1) [.ref 77, .ref 2] E0 I J (fun r I' J' => r = none ∧ I' = I ∧ Lv J' 79 (c 0) (stp c x) ∧ ∀ q, q ≠ 79 → J' q = J q) := by
  refine Sp.of (lo := [some (.ref 77), some (.ref 2), none, none, none, none]) rfl (fun Q hQ => ?_)
  have w1 := W.1
  have w2 := W.2.1
  have wl := W.2.2.2.1
  have w12 := Wc_w W
  have L1 : ∀ k, k ≤ c 0 → ∀ (J1 : aJ), (Lv J1 79 k (stp c x) ∧ ∀ q, q ≠ 79 → J1 q = J q) → Ez m_X7_stepBack (d + 1) 2 [some (.ref 77), some (.ref 2), some (.int (nI k)), none, none, none] [] E0 I J1 Q := by
    refine for_up ?_ ?_
    · intro J1 hi
      refine Ez.blk B_X7_stepBack_2 (lo' := [some (.ref 77), some (.ref 2), some (.int (nI (c 0))), none, none, none]) (st' := [.int (I 2 0), .int (nI (c 0))]) (I' := I) (J' := J1) (Ps := [aO E0 2 1]) rfl o_2 ?_
      refine Ez.n_icmp_ge (off := 60) (tgt := 67) (by decide +kernel) (by decide) (a := (c 0)) (b := (c 0)) rfl (hc.1 0 (by decide)) (by omega) (by omega) (fun h => ?_) (fun h => absurd h (by omega))
      exact Ez.vret rfl (by decide +kernel) (hQ _ _ _ ⟨rfl, rfl, hi.1, hi.2⟩)
    · intro k hk ih J1 hi
      refine Ez.blk B_X7_stepBack_2 (lo' := [some (.ref 77), some (.ref 2), some (.int (nI k)), none, none, none]) (st' := [.int (I 2 0), .int (nI k)]) (I' := I) (J' := J1) (Ps := [aO E0 2 1]) rfl o_2 ?_
      refine Ez.n_icmp_ge (off := 60) (tgt := 67) (by decide +kernel) (by decide) (a := k) (b := (c 0)) rfl (hc.1 0 (by decide)) (by omega) (by omega) (fun h => absurd h (by omega)) (fun h => ?_)
      refine Ez.blk B_X7_stepBack_10 (lo' := [some (.ref 77), some (.ref 2), some (.int (nI k)), some (.long 0), none, some (.int 0)]) (st' := []) (I' := I) (J' := J1) (Ps := []) rfl trivial ?_
      have L2 : ∀ j, j ≤ c 0 → True → Ez m_X7_stepBack (d + 1) 15 [some (.ref 77), some (.ref 2), some (.int (nI k)), some (.long (lN (sm (fun u => c (10 + 6 * k + u) * x u) j))), none, some (.int (nI j))] [] E0 I J1 Q := by
        refine for_up ?_ ?_
        · intro _
          refine Ez.blk B_X7_stepBack_15 (lo' := [some (.ref 77), some (.ref 2), some (.int (nI k)), some (.long (lN (sm (fun u => c (10 + 6 * k + u) * x u) (c 0)))), none, some (.int (nI (c 0)))]) (st' := [.int (I 2 0), .int (nI (c 0))]) (I' := I) (J' := J1) (Ps := [aO E0 2 1]) rfl o_2 ?_
          refine Ez.n_icmp_ge (off := 33) (tgt := 54) (by decide +kernel) (by decide) (a := (c 0)) (b := (c 0)) rfl (hc.1 0 (by decide)) (by omega) (by omega) (fun h9 => ?_) (fun h9 => absurd h9 (by omega))
          refine Ez.blk B_X7_stepBack_54 (lo' := [some (.ref 77), some (.ref 2), some (.int (nI k + 1)), some (.long (lN (sm (fun u => c (10 + 6 * k + u) * x u) (c 0)))), none, some (.int (nI (c 0)))]) (st' := []) (I' := I) (J' := (aUpJ J1 79 ((nI k).toNatClampNeg) (lN (sm (fun u => c (10 + 6 * k + u) * x u) (c 0))))) (Ps := [aO E0 77 7 ∧ E0.2.2 77 1 ≠ 0, aAr E0 2 79 (nI k)]) rfl ⟨r_77_1, (a_79 (vin (n := k) rfl (by omega) (by decide)))⟩ ?_
          rw [cln (x := nI k) (n := k) rfl (by omega)]
          rw [show (nI k + 1) = nI (k + 1) from (eq_add (a := k) (b := 1) rfl rfl)]
          refine Ez.drops [3, 5] (lo' := [some (.ref 77), some (.ref 2), some (.int (nI (k + 1))), none, none, none]) rfl ?_
          exact ih _ ⟨fun s hs => by
            by_cases e : s = k
            · rw [e, aUpJ_eq]; rfl
            · rw [aUpJ_nk e]; exact hi.1 s (by omega), fun q hq => by rw [aUpJ_ne hq]; exact hi.2 q hq⟩
        · intro j hj ih2 _
          have hw := w12 (k * 6 + j) (by omega)
          refine Ez.blk B_X7_stepBack_15 (lo' := [some (.ref 77), some (.ref 2), some (.int (nI k)), some (.long (lN (sm (fun u => c (10 + 6 * k + u) * x u) j))), none, some (.int (nI j))]) (st' := [.int (I 2 0), .int (nI j)]) (I' := I) (J' := J1) (Ps := [aO E0 2 1]) rfl o_2 ?_
          refine Ez.n_icmp_ge (off := 33) (tgt := 54) (by decide +kernel) (by decide) (a := j) (b := (c 0)) rfl (hc.1 0 (by decide)) (by omega) (by omega) (fun h9 => absurd h9 (by omega)) (fun h9 => ?_)
          refine Ez.blk B_X7_stepBack_24 (lo' := [some (.ref 77), some (.ref 2), some (.int (nI k)), some (.long ((lN (sm (fun u => c (10 + 6 * k + u) * x u) j)) + ((I 4 (((nI k * 6) + nI j).toNatClampNeg)).toInt64 * J1 78 ((nI j).toNatClampNeg)))), none, some (.int (nI j + 1))]) (st' := []) (I' := I) (J' := J1) (Ps := [aO E0 2 1 ∧ E0.2.2 2 5 ≠ 0, aAr E0 1 4 ((nI k * 6) + nI j), aO E0 77 7 ∧ E0.2.2 77 0 ≠ 0, aAr E0 2 78 (nI j)]) rfl ⟨r_2_5, (a_4 (vin (n := (k * 6 + j)) (eq_add (a := (k * 6)) (b := j) (eq_mul (a := k) (b := 6) rfl rfl) rfl) (by omega) (by decide))), r_77_0, (a_78 (vin (n := j) rfl (by omega) (by decide)))⟩ ?_
          rw [cln (x := ((nI k * 6) + nI j)) (n := (k * 6 + j)) (eq_add (a := (k * 6)) (b := j) (eq_mul (a := k) (b := 6) rfl rfl) rfl) (by omega)]
          rw [cln (x := nI j) (n := j) rfl (by omega)]
          rw [show (nI j + 1) = nI (j + 1) from (eq_add (a := j) (b := 1) rfl rfl)]
          rw [hc.2.2 (k * 6 + j) (by omega), hi.2 78 (by decide), hx j hj, nI_l (by omega), lN_mul, lN_add, show 10 + (k * 6 + j) = 10 + 6 * k + j by omega]
          exact ih2 trivial
      exact L2 0 (by omega) trivial
  refine Ez.blk B_X7_stepBack_0 (lo' := [some (.ref 77), some (.ref 2), some (.int 0), none, none, none]) (st' := []) (I' := I) (J' := J) (Ps := []) rfl trivial ?_
  exact L1 0 (by omega) J ⟨fun s hs => by omega, fun _ _ => rfl⟩
theorem s_reach (d : Nat) (I : aI) (J : aJ) (c : Nat → Nat) (hc : Ch I 2 c) (W : Wc c) (s m n : Nat) (hs : s < c 0) (hm : m < 16) (hn : n ≤ 12) : Sp m_X7_countReaching (d + 3) [.ref 77, .ref 2, .int (nI s), .int (nI m), .int (nI n)] E0 I J (fun r I' J' => r = some (.long (lN (rch c m n s))) ∧ I' = I ∧ ∀ q, q ≠ 78 → q ≠ 79 → J' q = J q) := by
  refine Sp.of (lo := [some (.ref 77), some (.ref 2), some (.int (nI s)), some (.int (nI m)), some (.int (nI n)), none]) rfl (fun Q hQ => ?_)
  have w1 := W.1
  have w2 := W.2.1
  have wl := W.2.2.2.1
  have w12 := Wc_w W
  refine Ez.blk B_X7_countReaching_0 (lo' := [some (.ref 77), some (.ref 2), some (.int (nI s)), some (.int (nI m)), some (.int (nI n)), none]) (st' := [.int (nI m), .ref 2, .ref 77]) (I' := I) (J' := J) (Ps := []) rfl trivial ?_
  refine Ez.callV (As := [.ref 2, .int (nI m)]) (b := 77) (rest := []) kn_X7_markTargets ml_7_18 im_X7_markTargets se_X7_markTargets rfl (by decide +kernel) rfl rfl (Nat.le_of_ble_eq_true rfl) (Nat.le_of_ble_eq_true rfl) o_77 (s_mark _ I J c hc W m hm) (fun r I1 J1 hq => ?_)
  obtain ⟨rfl, rfl, m1, m2⟩ := hq
  have L1 : ∀ k, k ≤ n → ∀ (J2 : aJ), (Lv J2 78 (c 0) (rch c m k) ∧ ∀ q, q ≠ 78 → q ≠ 79 → J2 q = J q) → Ez m_X7_countReaching (d + 3) 9 [some (.ref 77), some (.ref 2), some (.int (nI s)), some (.int (nI m)), some (.int (nI n)), some (.int (nI k))] [] E0 I1 J2 Q := by
    refine for_up ?_ ?_
    · intro J2 hi
      refine Ez.blk B_X7_countReaching_9 (lo' := [some (.ref 77), some (.ref 2), some (.int (nI s)), some (.int (nI m)), some (.int (nI n)), some (.int (nI n))]) (st' := [.int (nI n), .int (nI n)]) (I' := I1) (J' := J2) (Ps := []) rfl trivial ?_
      refine Ez.n_icmp_ge (off := 29) (tgt := 42) (by decide +kernel) (by decide) (a := n) (b := n) rfl rfl (by omega) (by omega) (fun h => ?_) (fun h => absurd h (by omega))
      refine Ez.blk B_X7_countReaching_42 (lo' := [some (.ref 77), some (.ref 2), some (.int (nI s)), some (.int (nI m)), some (.int (nI n)), some (.int (nI n))]) (st' := [.long (J2 78 ((nI s).toNatClampNeg))]) (I' := I1) (J' := J2) (Ps := [aO E0 77 7 ∧ E0.2.2 77 0 ≠ 0, aAr E0 2 78 (nI s)]) rfl ⟨r_77_0, (a_78 (vin (n := s) rfl (by omega) (by decide)))⟩ ?_
      rw [cln (x := nI s) (n := s) rfl (by omega)]
      rw [hi.1 s hs]
      exact Ez.lret rfl (by decide +kernel) (hQ _ _ _ ⟨rfl, rfl, hi.2⟩)
    · intro k hk ih J2 hi
      refine Ez.blk B_X7_countReaching_9 (lo' := [some (.ref 77), some (.ref 2), some (.int (nI s)), some (.int (nI m)), some (.int (nI n)), some (.int (nI k))]) (st' := [.int (nI n), .int (nI k)]) (I' := I1) (J' := J2) (Ps := []) rfl trivial ?_
      refine Ez.n_icmp_ge (off := 29) (tgt := 42) (by decide +kernel) (by decide) (a := k) (b := n) rfl rfl (by omega) (by omega) (fun h => absurd h (by omega)) (fun h => ?_)
      refine Ez.blk B_X7_countReaching_16 (lo' := [some (.ref 77), some (.ref 2), some (.int (nI s)), some (.int (nI m)), some (.int (nI n)), some (.int (nI k))]) (st' := [.ref 2, .ref 77]) (I' := I1) (J' := J2) (Ps := []) rfl trivial ?_
      refine Ez.callV (As := [.ref 2]) (b := 77) (rest := []) kn_X7_stepBack ml_7_22 im_X7_stepBack se_X7_stepBack rfl (by decide +kernel) rfl rfl (Nat.le_of_ble_eq_true rfl) (Nat.le_of_ble_eq_true rfl) o_77 (s_step _ I1 J2 c hc W (rch c m k) hi.1) (fun r I3 J3 hq => ?_)
      obtain ⟨rfl, rfl, n1, n2⟩ := hq
      refine Ez.blk B_X7_countReaching_21 (lo' := [some (.ref 77), some (.ref 2), some (.int (nI s)), some (.int (nI m)), some (.int (nI n)), some (.int (nI k + 1))]) (st' := []) (I' := I3) (J' := (aRwJ J3 78 (va_cpy (J3 79) (J3 78) 0 0 6))) (Ps := [aO E0 77 7 ∧ E0.2.2 77 1 ≠ 0, aO E0 77 7 ∧ E0.2.2 77 0 ≠ 0, aCp E0 2 79 78 0 0 6]) rfl ⟨r_77_1, r_77_0, (cpy_ok (s0 := 0) (d0 := 0) (m := 6) q_79 q_78 rfl rfl rfl (by omega) (by omega) (by omega) (by omega) (by omega))⟩ ?_
      rw [show (nI k + 1) = nI (k + 1) from (eq_add (a := k) (b := 1) rfl rfl)]
      exact ih _ ⟨fun q hq => by rw [aRwJ_at, cp0 (by omega)]; exact n1 q hq, fun q h0 h1 => by rw [aRwJ_ne h0, n2 q h1]; exact hi.2 q h0 h1⟩
  refine Ez.blk B_X7_countReaching_6 (lo' := [some (.ref 77), some (.ref 2), some (.int (nI s)), some (.int (nI m)), some (.int (nI n)), some (.int 0)]) (st' := []) (I' := I1) (J' := J1) (Ps := []) rfl trivial ?_
  exact L1 0 (by omega) J1 ⟨m1, fun q h0 h1 => m2 q h0⟩
theorem s_first (d : Nat) (I : aI) (J : aJ) (c : Nat → Nat) (hc : Ch I 2 c) (W : Wc c) (s m n : Nat) (hs : s < c 0) (hm : m < 16) (hn : n ≤ 12) : Sp m_X7_countFirstReaching (d + 3) [.ref 77, .ref 2, .int (nI s), .int (nI m), .int (nI n)] E0 I J (fun r I' J' => r = some (.long (lN (frc c m n s))) ∧ I' = I ∧ ∀ q, q ≠ 78 → q ≠ 79 → J' q = J q) := by
  refine Sp.of (lo := [some (.ref 77), some (.ref 2), some (.int (nI s)), some (.int (nI m)), some (.int (nI n)), none, none, none, none]) rfl (fun Q hQ => ?_)
  have w1 := W.1
  have w2 := W.2.1
  have wl := W.2.2.2.1
  have w12 := Wc_w W
  refine Ez.blk B_X7_countFirstReaching_0 (lo' := [some (.ref 77), some (.ref 2), some (.int (nI s)), some (.int (nI m)), some (.int (nI n)), none, none, none, none]) (st' := [.int (nI m), .ref 2, .ref 77]) (I' := I) (J' := J) (Ps := []) rfl trivial ?_
  refine Ez.callV (As := [.ref 2, .int (nI m)]) (b := 77) (rest := []) kn_X7_markTargets ml_7_18 im_X7_markTargets se_X7_markTargets rfl (by decide +kernel) rfl rfl (Nat.le_of_ble_eq_true rfl) (Nat.le_of_ble_eq_true rfl) o_77 (s_mark _ I J c hc W m hm) (fun r I1 J1 hq => ?_)
  obtain ⟨rfl, rfl, m1, m2⟩ := hq
  have L1 : ∀ k, k ≤ n → ∀ (J2 : aJ), (Lv J2 78 (c 0) (frc c m k) ∧ ∀ q, q ≠ 78 → q ≠ 79 → J2 q = J q) → Ez m_X7_countFirstReaching (d + 3) 12 [some (.ref 77), some (.ref 2), some (.int (nI s)), some (.int (nI m)), some (.int (nI n)), some (.long (lN (c 1 ^ k))), none, some (.int (nI k)), none] [] E0 I1 J2 Q := by
    refine for_up ?_ ?_
    · intro J2 hi
      refine Ez.blk B_X7_countFirstReaching_12 (lo' := [some (.ref 77), some (.ref 2), some (.int (nI s)), some (.int (nI m)), some (.int (nI n)), some (.long (lN (c 1 ^ n))), none, some (.int (nI n)), none]) (st' := [.int (nI n), .int (nI n)]) (I' := I1) (J' := J2) (Ps := []) rfl trivial ?_
      refine Ez.n_icmp_ge (off := 71) (tgt := 87) (by decide +kernel) (by decide) (a := n) (b := n) rfl rfl (by omega) (by omega) (fun h => ?_) (fun h => absurd h (by omega))
      refine Ez.blk B_X7_countFirstReaching_87 (lo' := [some (.ref 77), some (.ref 2), some (.int (nI s)), some (.int (nI m)), some (.int (nI n)), some (.long (lN (c 1 ^ n))), none, some (.int (nI n)), none]) (st' := [.long (J2 78 ((nI s).toNatClampNeg))]) (I' := I1) (J' := J2) (Ps := [aO E0 77 7 ∧ E0.2.2 77 0 ≠ 0, aAr E0 2 78 (nI s)]) rfl ⟨r_77_0, (a_78 (vin (n := s) rfl (by omega) (by decide)))⟩ ?_
      rw [cln (x := nI s) (n := s) rfl (by omega)]
      rw [hi.1 s hs]
      exact Ez.lret rfl (by decide +kernel) (hQ _ _ _ ⟨rfl, rfl, hi.2⟩)
    · intro k hk ih J2 hi
      refine Ez.blk B_X7_countFirstReaching_12 (lo' := [some (.ref 77), some (.ref 2), some (.int (nI s)), some (.int (nI m)), some (.int (nI n)), some (.long (lN (c 1 ^ k))), none, some (.int (nI k)), none]) (st' := [.int (nI n), .int (nI k)]) (I' := I1) (J' := J2) (Ps := []) rfl trivial ?_
      refine Ez.n_icmp_ge (off := 71) (tgt := 87) (by decide +kernel) (by decide) (a := k) (b := n) rfl rfl (by omega) (by omega) (fun h => absurd h (by omega)) (fun h => ?_)
      refine Ez.blk B_X7_countFirstReaching_19 (lo' := [some (.ref 77), some (.ref 2), some (.int (nI s)), some (.int (nI m)), some (.int (nI n)), some (.long (lN (c 1 ^ k))), none, some (.int (nI k)), none]) (st' := [.ref 2, .ref 77]) (I' := I1) (J' := J2) (Ps := []) rfl trivial ?_
      refine Ez.callV (As := [.ref 2]) (b := 77) (rest := []) kn_X7_stepBack ml_7_22 im_X7_stepBack se_X7_stepBack rfl (by decide +kernel) rfl rfl (Nat.le_of_ble_eq_true rfl) (Nat.le_of_ble_eq_true rfl) o_77 (s_step _ I1 J2 c hc W (frc c m k) hi.1) (fun r I3 J3 hq => ?_)
      obtain ⟨rfl, rfl, n1, n2⟩ := hq
      refine Ez.blk B_X7_countFirstReaching_24 (lo' := [some (.ref 77), some (.ref 2), some (.int (nI s)), some (.int (nI m)), some (.int (nI n)), some (.long ((lN (c 1 ^ k)) * (I3 2 1).toInt64)), none, some (.int (nI k)), some (.int 0)]) (st' := []) (I' := I3) (J' := J3) (Ps := [aO E0 2 1]) rfl o_2 ?_
      rw [hc.1 1 (by decide), nI_l (by omega), lN_mul, ← Nat.pow_succ]
      have L2 : ∀ j, j ≤ c 0 → ∀ (J4 : aJ), (Lv J4 78 j (frc c m (k + 1)) ∧ ∀ q, q ≠ 78 → J4 q = J3 q) → Ez m_X7_countFirstReaching (d + 3) 37 [some (.ref 77), some (.ref 2), some (.int (nI s)), some (.int (nI m)), some (.int (nI n)), some (.long (lN (c 1 ^ (k + 1)))), none, some (.int (nI k)), some (.int (nI j))] [] E0 I3 J4 Q := by
        refine for_up ?_ ?_
        · intro J4 hj
          refine Ez.blk B_X7_countFirstReaching_37 (lo' := [some (.ref 77), some (.ref 2), some (.int (nI s)), some (.int (nI m)), some (.int (nI n)), some (.long (lN (c 1 ^ (k + 1)))), none, some (.int (nI k)), some (.int (nI (c 0)))]) (st' := [.int (I3 2 0), .int (nI (c 0))]) (I' := I3) (J' := J4) (Ps := [aO E0 2 1]) rfl o_2 ?_
          refine Ez.n_icmp_ge (off := 38) (tgt := 81) (by decide +kernel) (by decide) (a := (c 0)) (b := (c 0)) rfl (hc.1 0 (by decide)) (by omega) (by omega) (fun h9 => ?_) (fun h9 => absurd h9 (by omega))
          refine Ez.blk B_X7_countFirstReaching_81 (lo' := [some (.ref 77), some (.ref 2), some (.int (nI s)), some (.int (nI m)), some (.int (nI n)), some (.long (lN (c 1 ^ (k + 1)))), none, some (.int (nI k + 1)), some (.int (nI (c 0)))]) (st' := []) (I' := I3) (J' := J4) (Ps := []) rfl trivial ?_
          rw [show (nI k + 1) = nI (k + 1) from (eq_add (a := k) (b := 1) rfl rfl)]
          refine Ez.drops [8] (lo' := [some (.ref 77), some (.ref 2), some (.int (nI s)), some (.int (nI m)), some (.int (nI n)), some (.long (lN (c 1 ^ (k + 1)))), none, some (.int (nI (k + 1))), none]) rfl ?_
          exact ih J4 ⟨hj.1, fun q h0 h1 => by rw [hj.2 q h0, n2 q h1]; exact hi.2 q h0 h1⟩
        · intro j hjk ih2 J4 hj
          refine Ez.blk B_X7_countFirstReaching_37 (lo' := [some (.ref 77), some (.ref 2), some (.int (nI s)), some (.int (nI m)), some (.int (nI n)), some (.long (lN (c 1 ^ (k + 1)))), none, some (.int (nI k)), some (.int (nI j))]) (st' := [.int (I3 2 0), .int (nI j)]) (I' := I3) (J' := J4) (Ps := [aO E0 2 1]) rfl o_2 ?_
          refine Ez.n_icmp_ge (off := 38) (tgt := 81) (by decide +kernel) (by decide) (a := j) (b := (c 0)) rfl (hc.1 0 (by decide)) (by omega) (by omega) (fun h9 => absurd h9 (by omega)) (fun h9 => ?_)
          refine Ez.blk B_X7_countFirstReaching_46 (lo' := [some (.ref 77), some (.ref 2), some (.int (nI s)), some (.int (nI m)), some (.int (nI n)), some (.long (lN (c 1 ^ (k + 1)))), none, some (.int (nI k)), some (.int (nI j))]) (st' := [.int (nI m), .int (nI j), .ref 2, .int (nI j), .ref 78]) (I' := I3) (J' := J4) (Ps := [aO E0 77 7 ∧ E0.2.2 77 0 ≠ 0]) rfl r_77_0 ?_
          refine Ez.callS (As := [.ref 2, .int (nI j), .int (nI m)]) (rest := [.int (nI j), .ref 78]) kn_X7_isTarget ml_7_41 sm_X7_isTarget (by decide +kernel) rfl rfl (Nat.le_of_ble_eq_true rfl) (Nat.le_of_ble_eq_true rfl) (s_isTarget _ I3 J4 c hc W j m (by omega) hm) (fun r I5 J5 hq => ?_)
          obtain ⟨rfl, rfl, rfl⟩ := hq
          refine Ez.z_if_eq (off := 8) (tgt := 67) (by decide +kernel) (by decide) (fun h2 => ?_) (fun h2 => ?_)
          · refine Ez.blk B_X7_countFirstReaching_67 (lo' := [some (.ref 77), some (.ref 2), some (.int (nI s)), some (.int (nI m)), some (.int (nI n)), some (.long (lN (c 1 ^ (k + 1)))), none, some (.int (nI k)), some (.int (nI j + 1))]) (st' := []) (I' := I5) (J' := (aUpJ J5 78 ((nI j).toNatClampNeg) (J5 79 ((nI j).toNatClampNeg)))) (Ps := [aO E0 77 7 ∧ E0.2.2 77 1 ≠ 0, aAr E0 2 79 (nI j), aAr E0 2 78 (nI j)]) rfl ⟨r_77_1, (a_79 (vin (n := j) rfl (by omega) (by decide))), (a_78 (vin (n := j) rfl (by omega) (by decide)))⟩ ?_
            rw [cln (x := nI j) (n := j) rfl (by omega)]
            rw [show (nI j + 1) = nI (j + 1) from (eq_add (a := j) (b := 1) rfl rfl)]
            rw [hj.2 79 (by decide), n1 j hjk]
            exact ih2 _ ⟨fun s hs => by
              by_cases e : s = j
              · rw [e, aUpJ_eq]; show _ = lN (if tgt c m j = true then _ else _); rw [if_neg h2]
              · rw [aUpJ_nk e]; exact hj.1 s (by omega), fun q hq => by rw [aUpJ_ne hq]; exact hj.2 q hq⟩
          · refine Ez.blk B_X7_countFirstReaching_62 (lo' := [some (.ref 77), some (.ref 2), some (.int (nI s)), some (.int (nI m)), some (.int (nI n)), some (.long (lN (c 1 ^ (k + 1)))), none, some (.int (nI k)), some (.int (nI j))]) (st' := [.long (lN (c 1 ^ (k + 1))), .int (nI j), .ref 78]) (I' := I5) (J' := J5) (Ps := []) rfl trivial ?_
            refine Ez.blk B_X7_countFirstReaching_74 (lo' := [some (.ref 77), some (.ref 2), some (.int (nI s)), some (.int (nI m)), some (.int (nI n)), some (.long (lN (c 1 ^ (k + 1)))), none, some (.int (nI k)), some (.int (nI j + 1))]) (st' := []) (I' := I5) (J' := (aUpJ J5 78 ((nI j).toNatClampNeg) (lN (c 1 ^ (k + 1))))) (Ps := [aAr E0 2 78 (nI j)]) rfl (a_78 (vin (n := j) rfl (by omega) (by decide))) ?_
            rw [cln (x := nI j) (n := j) rfl (by omega)]
            rw [show (nI j + 1) = nI (j + 1) from (eq_add (a := j) (b := 1) rfl rfl)]
            exact ih2 _ ⟨fun s hs => by
              by_cases e : s = j
              · rw [e, aUpJ_eq]; show _ = lN (if tgt c m j = true then _ else _); rw [if_pos h2]
              · rw [aUpJ_nk e]; exact hj.1 s (by omega), fun q hq => by rw [aUpJ_ne hq]; exact hj.2 q hq⟩
      exact L2 0 (by omega) J3 ⟨fun q hq => by omega, fun _ _ => rfl⟩
  refine Ez.blk B_X7_countFirstReaching_6 (lo' := [some (.ref 77), some (.ref 2), some (.int (nI s)), some (.int (nI m)), some (.int (nI n)), some (.long 1), none, some (.int 0), none]) (st' := []) (I' := I1) (J' := J1) (Ps := []) rfl trivial ?_
  exact L1 0 (by omega) J1 ⟨m1, fun q h0 h1 => m2 q h0⟩
theorem c_reach (d : Nat) (I : aI) (J : aJ) (T : TS) (W : WT T) (hP : CP T I J) (x y z : Int32) : Sp m_X9_reachWeight (d + 4) [.ref 1, .int x, .int y, .int z] E0 I J (fun r I' J' => r = some (.long (f_reach T x y z).1) ∧ CP (f_reach T x y z).2 I' J' ∧ Fr9 I I' J J') := by
  refine Sp.of (lo := [some (.ref 1), some (.int x), some (.int y), some (.int z)]) rfl (fun Q hQ => ?_)
  have w1 := W.1.1
  have w2 := W.1.2.1
  have wb := Wc_12 W.1
  refine Ez.blk B_X9_reachWeight_0 (lo' := [some (.ref 1), some (.int x), some (.int y), some (.int z)]) (st' := [.int x, .ref 2]) (I' := I) (J' := J) (Ps := [aO E0 1 9 ∧ E0.2.2 1 0 ≠ 0]) rfl r_1_0 ?_
  refine Ez.callV (As := [.int x]) (b := 2) (rest := []) kn_X1_has ml_9_95 im_X1_has se_X1_has rfl (by decide +kernel) rfl rfl (Nat.le_of_ble_eq_true rfl) (Nat.le_of_ble_eq_true rfl) o_2 (s_has _ E0 I J 2 (x) o_2) (fun r I1 J1 hq => ?_)
  obtain ⟨rfl, rfl, rfl⟩ := hq
  rw [hP.1.1 0 (by decide)]
  refine Ez.z_if_eq (off := 23) (tgt := 31) (by decide +kernel) (by decide) (fun h => ?_) (fun h => ?_)
  · refine Ez.blk B_X9_reachWeight_31 (lo' := [some (.ref 1), some (.int x), some (.int y), some (.int z)]) (st' := [.long (-9223372036854775808)]) (I' := I1) (J' := J1) (Ps := []) rfl trivial ?_
    exact Ez.lret rfl (by decide +kernel) (hQ _ _ _ (by unfold f_reach; rw [if_neg (fun q => h q.1)]; exact ⟨rfl, hP, fun _ _ => ⟨rfl, rfl⟩⟩))
  · refine Ez.blk B_X9_reachWeight_11 (lo' := [some (.ref 1), some (.int x), some (.int y), some (.int z)]) (st' := [.int 15, .int 0, .int y]) (I' := I1) (J' := J1) (Ps := []) rfl trivial ?_
    refine Ez.callS (As := [.int y, .int 0, .int 15]) (rest := []) kn_X9_isWithin ml_9_77 sm_X9_isWithin (by decide +kernel) rfl rfl (Nat.le_of_ble_eq_true rfl) (Nat.le_of_ble_eq_true rfl) (s_isWithin _ E0 I1 J1 y 0 15) (fun r I2 J2 hq => ?_)
    obtain ⟨rfl, rfl, rfl⟩ := hq
    refine Ez.z_if_eq (off := 13) (tgt := 31) (by decide +kernel) (by decide) (fun h2 => ?_) (fun h2 => ?_)
    · refine Ez.blk B_X9_reachWeight_31 (lo' := [some (.ref 1), some (.int x), some (.int y), some (.int z)]) (st' := [.long (-9223372036854775808)]) (I' := I2) (J' := J2) (Ps := []) rfl trivial ?_
      exact Ez.lret rfl (by decide +kernel) (hQ _ _ _ (by unfold f_reach; rw [if_neg (fun q => h2 q.2.1)]; exact ⟨rfl, hP, fun _ _ => ⟨rfl, rfl⟩⟩))
    · refine Ez.blk B_X9_reachWeight_21 (lo' := [some (.ref 1), some (.int x), some (.int y), some (.int z)]) (st' := [.int 12, .int 0, .int z]) (I' := I2) (J' := J2) (Ps := []) rfl trivial ?_
      refine Ez.callS (As := [.int z, .int 0, .int 12]) (rest := []) kn_X9_isWithin ml_9_77 sm_X9_isWithin (by decide +kernel) rfl rfl (Nat.le_of_ble_eq_true rfl) (Nat.le_of_ble_eq_true rfl) (s_isWithin _ E0 I2 J2 z 0 12) (fun r I3 J3 hq => ?_)
      obtain ⟨rfl, rfl, rfl⟩ := hq
      refine Ez.z_if_ne (off := 7) (tgt := 35) (by decide +kernel) (by decide) (fun h3 => ?_) (fun h3 => ?_)
      · obtain ⟨k, hk, rfl, hkc⟩ := st_of (by omega) h
        obtain ⟨m, -, hm, rfl, hmc⟩ := in_of (lo := 0) (hi := 15) (by omega) h2 (by omega)
        obtain ⟨n, -, hn, rfl, hnc⟩ := in_of (lo := 0) (hi := 12) (by omega) h3 (by omega)
        refine Ez.blk B_X9_reachWeight_35 (lo' := [some (.ref 1), some (.int (nI k)), some (.int (nI m)), some (.int (nI n))]) (st' := [.int (nI n), .int (nI m), .int (nI k), .ref 2, .ref 77]) (I' := I3) (J' := J3) (Ps := [aO E0 1 9 ∧ E0.2.2 1 7 ≠ 0, aO E0 1 9 ∧ E0.2.2 1 0 ≠ 0]) rfl ⟨r_1_7, r_1_0⟩ ?_
        refine Ez.callV (As := [.ref 2, .int (nI k), .int (nI m), .int (nI n)]) (b := 77) (rest := []) kn_X7_countReaching ml_9_206 im_X7_countReaching se_X7_countReaching rfl (by decide +kernel) rfl rfl (Nat.le_of_ble_eq_true rfl) (Nat.le_of_ble_eq_true rfl) o_77 (s_reach _ I3 J3 T.1 hP.1 W.1 k m n hk (by omega) hn) (fun r I4 J4 hq => ?_)
        obtain ⟨rfl, rfl, k1⟩ := hq
        exact Ez.lret rfl (by decide +kernel) (hQ _ _ _ (by unfold f_reach; rw [if_pos ⟨h, h2, h3⟩, hkc, hmc, hnc]; exact ⟨rfl, CP_p hP k1, fun b hb => ⟨rfl, k1 b (by omega) (by omega)⟩⟩))
      · refine Ez.blk B_X9_reachWeight_31 (lo' := [some (.ref 1), some (.int x), some (.int y), some (.int z)]) (st' := [.long (-9223372036854775808)]) (I' := I3) (J' := J3) (Ps := []) rfl trivial ?_
        exact Ez.lret rfl (by decide +kernel) (hQ _ _ _ (by unfold f_reach; rw [if_neg (fun q => h3 q.2.2)]; exact ⟨rfl, hP, fun _ _ => ⟨rfl, rfl⟩⟩))
theorem c_first (d : Nat) (I : aI) (J : aJ) (T : TS) (W : WT T) (hP : CP T I J) (x y z : Int32) : Sp m_X9_firstReachWeight (d + 4) [.ref 1, .int x, .int y, .int z] E0 I J (fun r I' J' => r = some (.long (f_first T x y z).1) ∧ CP (f_first T x y z).2 I' J' ∧ Fr9 I I' J J') := by
  refine Sp.of (lo := [some (.ref 1), some (.int x), some (.int y), some (.int z)]) rfl (fun Q hQ => ?_)
  have w1 := W.1.1
  have w2 := W.1.2.1
  have wb := Wc_12 W.1
  refine Ez.blk B_X9_firstReachWeight_0 (lo' := [some (.ref 1), some (.int x), some (.int y), some (.int z)]) (st' := [.int x, .ref 2]) (I' := I) (J' := J) (Ps := [aO E0 1 9 ∧ E0.2.2 1 0 ≠ 0]) rfl r_1_0 ?_
  refine Ez.callV (As := [.int x]) (b := 2) (rest := []) kn_X1_has ml_9_95 im_X1_has se_X1_has rfl (by decide +kernel) rfl rfl (Nat.le_of_ble_eq_true rfl) (Nat.le_of_ble_eq_true rfl) o_2 (s_has _ E0 I J 2 (x) o_2) (fun r I1 J1 hq => ?_)
  obtain ⟨rfl, rfl, rfl⟩ := hq
  rw [hP.1.1 0 (by decide)]
  refine Ez.z_if_eq (off := 23) (tgt := 31) (by decide +kernel) (by decide) (fun h => ?_) (fun h => ?_)
  · refine Ez.blk B_X9_firstReachWeight_31 (lo' := [some (.ref 1), some (.int x), some (.int y), some (.int z)]) (st' := [.long (-9223372036854775808)]) (I' := I1) (J' := J1) (Ps := []) rfl trivial ?_
    exact Ez.lret rfl (by decide +kernel) (hQ _ _ _ (by unfold f_first; rw [if_neg (fun q => h q.1)]; exact ⟨rfl, hP, fun _ _ => ⟨rfl, rfl⟩⟩))
  · refine Ez.blk B_X9_firstReachWeight_11 (lo' := [some (.ref 1), some (.int x), some (.int y), some (.int z)]) (st' := [.int 15, .int 0, .int y]) (I' := I1) (J' := J1) (Ps := []) rfl trivial ?_
    refine Ez.callS (As := [.int y, .int 0, .int 15]) (rest := []) kn_X9_isWithin ml_9_77 sm_X9_isWithin (by decide +kernel) rfl rfl (Nat.le_of_ble_eq_true rfl) (Nat.le_of_ble_eq_true rfl) (s_isWithin _ E0 I1 J1 y 0 15) (fun r I2 J2 hq => ?_)
    obtain ⟨rfl, rfl, rfl⟩ := hq
    refine Ez.z_if_eq (off := 13) (tgt := 31) (by decide +kernel) (by decide) (fun h2 => ?_) (fun h2 => ?_)
    · refine Ez.blk B_X9_firstReachWeight_31 (lo' := [some (.ref 1), some (.int x), some (.int y), some (.int z)]) (st' := [.long (-9223372036854775808)]) (I' := I2) (J' := J2) (Ps := []) rfl trivial ?_
      exact Ez.lret rfl (by decide +kernel) (hQ _ _ _ (by unfold f_first; rw [if_neg (fun q => h2 q.2.1)]; exact ⟨rfl, hP, fun _ _ => ⟨rfl, rfl⟩⟩))
    · refine Ez.blk B_X9_firstReachWeight_21 (lo' := [some (.ref 1), some (.int x), some (.int y), some (.int z)]) (st' := [.int 12, .int 0, .int z]) (I' := I2) (J' := J2) (Ps := []) rfl trivial ?_
      refine Ez.callS (As := [.int z, .int 0, .int 12]) (rest := []) kn_X9_isWithin ml_9_77 sm_X9_isWithin (by decide +kernel) rfl rfl (Nat.le_of_ble_eq_true rfl) (Nat.le_of_ble_eq_true rfl) (s_isWithin _ E0 I2 J2 z 0 12) (fun r I3 J3 hq => ?_)
      obtain ⟨rfl, rfl, rfl⟩ := hq
      refine Ez.z_if_ne (off := 7) (tgt := 35) (by decide +kernel) (by decide) (fun h3 => ?_) (fun h3 => ?_)
      · obtain ⟨k, hk, rfl, hkc⟩ := st_of (by omega) h
        obtain ⟨m, -, hm, rfl, hmc⟩ := in_of (lo := 0) (hi := 15) (by omega) h2 (by omega)
        obtain ⟨n, -, hn, rfl, hnc⟩ := in_of (lo := 0) (hi := 12) (by omega) h3 (by omega)
        refine Ez.blk B_X9_firstReachWeight_35 (lo' := [some (.ref 1), some (.int (nI k)), some (.int (nI m)), some (.int (nI n))]) (st' := [.int (nI n), .int (nI m), .int (nI k), .ref 2, .ref 77]) (I' := I3) (J' := J3) (Ps := [aO E0 1 9 ∧ E0.2.2 1 7 ≠ 0, aO E0 1 9 ∧ E0.2.2 1 0 ≠ 0]) rfl ⟨r_1_7, r_1_0⟩ ?_
        refine Ez.callV (As := [.ref 2, .int (nI k), .int (nI m), .int (nI n)]) (b := 77) (rest := []) kn_X7_countFirstReaching ml_9_210 im_X7_countFirstReaching se_X7_countFirstReaching rfl (by decide +kernel) rfl rfl (Nat.le_of_ble_eq_true rfl) (Nat.le_of_ble_eq_true rfl) o_77 (s_first _ I3 J3 T.1 hP.1 W.1 k m n hk (by omega) hn) (fun r I4 J4 hq => ?_)
        obtain ⟨rfl, rfl, k1⟩ := hq
        exact Ez.lret rfl (by decide +kernel) (hQ _ _ _ (by unfold f_first; rw [if_pos ⟨h, h2, h3⟩, hkc, hmc, hnc]; exact ⟨rfl, CP_p hP k1, fun b hb => ⟨rfl, k1 b (by omega) (by omega)⟩⟩))
      · refine Ez.blk B_X9_firstReachWeight_31 (lo' := [some (.ref 1), some (.int x), some (.int y), some (.int z)]) (st' := [.long (-9223372036854775808)]) (I' := I3) (J' := J3) (Ps := []) rfl trivial ?_
        exact Ez.lret rfl (by decide +kernel) (hQ _ _ _ (by unfold f_first; rw [if_neg (fun q => h3 q.2.2)]; exact ⟨rfl, hP, fun _ _ => ⟨rfl, rfl⟩⟩))
theorem s_seq (d : Nat) (I : aI) (J : aJ) (c : Nat → Nat) (hc : Ch I 2 c) (W : Wc c) (b : Nat × (Nat → Nat)) (hb : CBuf b I) (hl : lsq b = true) (s : Nat) (hs : s < c 0) : Sp m_X7_countSequence (d + 3) [.ref 77, .ref 2, .int (nI s), .ref 81] E0 I J (fun r I' J' => r = some (.long (lN (sqx c b.2 b.1 (b.1 - 1) s))) ∧ I' = I ∧ ∀ q, q ≠ 78 → q ≠ 79 → J' q = J q) := by
  refine Sp.of (lo := [some (.ref 77), some (.ref 2), some (.int (nI s)), some (.ref 81), none, none, none, none]) rfl (fun Q hQ => ?_)
  have w1 := W.1
  have w2 := W.2.1
  have wl := W.2.2.2.1
  have w12 := Wc_w W
  obtain ⟨⟨l1, l13⟩, ld⟩ := lsq_iff.mp hl
  have h128 : ∀ i, i < b.1 → b.2 i < 128 := fun i hi => by have := ld i hi; omega
  have dg : ∀ i, i < b.1 → dgt b i = nI (b.2 i - 48) := fun i hi => by have := ld i hi; unfold dgt; rw [if_pos (by omega)]
  have mt : ∀ v, v ≤ 3 → ∀ q, q < c 0 → tg0 c (2 ^ v) q = lb0 c v q := fun v hv q hq => by
    unfold tg0 lb0
    by_cases e : c (4 + q) = v
    · rw [if_pos ((tgt_1 hv (wl q (by omega))).mpr e), if_pos e]
    · rw [if_neg (fun z => e ((tgt_1 hv (wl q (by omega))).mp z)), if_neg e]
  refine Ez.blk B_X7_countSequence_0 (lo' := [some (.ref 77), some (.ref 2), some (.int (nI s)), some (.ref 81), some (.int (I 81 0 - 1)), none, none, none]) (st' := [.int (I 81 0 - 1), .ref 81, .int 1, .ref 2, .ref 77]) (I' := I) (J' := J) (Ps := [aO E0 81 5]) rfl o_81 ?_
  rw [show I 81 0 - 1 = nI (b.1 - 1) from eq_sub (a := b.1) (b := 1) hb.1 rfl l1]
  refine Ez.callV (As := [.int (nI (b.1 - 1))]) (b := 81) (rest := [.int 1, .ref 2, .ref 77]) kn_X5_digitAt ml_7_50 im_X5_digitAt se_X5_digitAt rfl (by decide +kernel) rfl rfl (Nat.le_of_ble_eq_true rfl) (Nat.le_of_ble_eq_true rfl) o_81 (s_digitAt _ I J b hb (by omega) h128 (b.1 - 1) (by omega)) (fun r I1 J1 hq => ?_)
  obtain ⟨rfl, rfl, rfl⟩ := hq
  have hdk := ld (b.1 - 1) (by omega)
  rw [dg (b.1 - 1) (by omega)]
  refine Ez.blk B_X7_countSequence_17 (lo' := [some (.ref 77), some (.ref 2), some (.int (nI s)), some (.ref 81), some (.int (nI (b.1 - 1))), none, none, none]) (st' := [.int (1 <<< ((nI (b.2 (b.1 - 1) - 48)) &&& 31)), .ref 2, .ref 77]) (I' := I1) (J' := J1) (Ps := []) rfl trivial ?_
  rw [sh_1 (by omega)]
  have hp : 2 ^ (b.2 (b.1 - 1) - 48) < 16 := Nat.pow_lt_pow_right (by decide) (by omega : b.2 (b.1 - 1) - 48 < 4)
  refine Ez.callV (As := [.ref 2, .int (nI (2 ^ (b.2 (b.1 - 1) - 48)))]) (b := 77) (rest := []) kn_X7_markTargets ml_7_18 im_X7_markTargets se_X7_markTargets rfl (by decide +kernel) rfl rfl (Nat.le_of_ble_eq_true rfl) (Nat.le_of_ble_eq_true rfl) o_77 (s_mark _ I1 J1 c hc W (2 ^ (b.2 (b.1 - 1) - 48)) hp) (fun r I2 J2 hq => ?_)
  obtain ⟨rfl, rfl, m1, m2⟩ := hq
  have L1 : ∀ m, ∀ J3 : aJ, (m ≤ b.1 - 1 ∧ Lv J3 78 (c 0) (sqx c b.2 b.1 (b.1 - 1 - m)) ∧ ∀ q, q ≠ 78 → q ≠ 79 → J3 q = J1 q) → Ez m_X7_countSequence (d + 3) 27 [some (.ref 77), some (.ref 2), some (.int (nI s)), some (.ref 81), some (.int (nI (b.1 - 1))), some (.int (nI m - 1)), none, none] [] E0 I2 J3 Q := by
    refine for_dn ?_ ?_
    · intro J3 ⟨hm, h1, h2⟩
      refine Ez.blk B_X7_countSequence_27 (lo' := [some (.ref 77), some (.ref 2), some (.int (nI s)), some (.ref 81), some (.int (nI (b.1 - 1))), some (.int (nI 0 - 1)), none, none]) (st' := [.int (nI 0 - 1)]) (I' := I2) (J' := J3) (Ps := []) rfl trivial ?_
      refine Ez.if_lt (off := 71) (tgt := 100) (by decide +kernel) (by decide) (fun h9 => ?_) (fun h9 => (absurd (by decide) h9))
      refine Ez.blk B_X7_countSequence_100 (lo' := [some (.ref 77), some (.ref 2), some (.int (nI s)), some (.ref 81), some (.int (nI (b.1 - 1))), some (.int (nI 0 - 1)), none, none]) (st' := [.long (J3 78 ((nI s).toNatClampNeg))]) (I' := I2) (J' := J3) (Ps := [aO E0 77 7 ∧ E0.2.2 77 0 ≠ 0, aAr E0 2 78 (nI s)]) rfl ⟨r_77_0, (a_78 (vin (n := s) rfl (by omega) (by decide)))⟩ ?_
      rw [cln (x := nI s) (n := s) rfl (by omega)]
      rw [h1 s hs]
      exact Ez.lret rfl (by decide +kernel) (hQ _ _ _ ⟨rfl, rfl, h2⟩)
    · intro m ih J3 ⟨hm, h1, h2⟩
      rw [nI_pred m]
      refine Ez.blk B_X7_countSequence_27 (lo' := [some (.ref 77), some (.ref 2), some (.int (nI s)), some (.ref 81), some (.int (nI (b.1 - 1))), some (.int (nI m)), none, none]) (st' := [.int (nI m)]) (I' := I2) (J' := J3) (Ps := []) rfl trivial ?_
      refine Ez.n_if_lt (off := 71) (tgt := 100) (by decide +kernel) (by decide) (a := m) rfl (by omega) (fun h9 => h9.elim) (fun h9 => ?_)
      refine Ez.blk B_X7_countSequence_32 (lo' := [some (.ref 77), some (.ref 2), some (.int (nI s)), some (.ref 81), some (.int (nI (b.1 - 1))), some (.int (nI m)), none, none]) (st' := [.ref 2, .ref 77]) (I' := I2) (J' := J3) (Ps := []) rfl trivial ?_
      refine Ez.callV (As := [.ref 2]) (b := 77) (rest := []) kn_X7_stepBack ml_7_22 im_X7_stepBack se_X7_stepBack rfl (by decide +kernel) rfl rfl (Nat.le_of_ble_eq_true rfl) (Nat.le_of_ble_eq_true rfl) o_77 (s_step _ I2 J3 c hc W (sqx c b.2 b.1 (b.1 - 1 - (m + 1))) h1) (fun r I3 J4 hq => ?_)
      obtain ⟨rfl, rfl, n1, n2⟩ := hq
      refine Ez.blk B_X7_countSequence_37 (lo' := [some (.ref 77), some (.ref 2), some (.int (nI s)), some (.ref 81), some (.int (nI (b.1 - 1))), some (.int (nI m)), none, none]) (st' := [.int (nI m), .ref 81, .int 1]) (I' := I3) (J' := J4) (Ps := []) rfl trivial ?_
      refine Ez.callV (As := [.int (nI m)]) (b := 81) (rest := [.int 1]) kn_X5_digitAt ml_7_50 im_X5_digitAt se_X5_digitAt rfl (by decide +kernel) rfl rfl (Nat.le_of_ble_eq_true rfl) (Nat.le_of_ble_eq_true rfl) o_81 (s_digitAt _ I3 J4 b hb (by omega) h128 m (by omega)) (fun r I5 J5 hq => ?_)
      obtain ⟨rfl, rfl, rfl⟩ := hq
      have hdk := ld m (by omega)
      rw [dg m (by omega)]
      refine Ez.blk B_X7_countSequence_44 (lo' := [some (.ref 77), some (.ref 2), some (.int (nI s)), some (.ref 81), some (.int (nI (b.1 - 1))), some (.int (nI m)), some (.int (1 <<< ((nI (b.2 m - 48)) &&& 31))), some (.int 0)]) (st' := []) (I' := I5) (J' := J5) (Ps := []) rfl trivial ?_
      rw [sh_1 (by omega)]
      have hpm : 2 ^ (b.2 m - 48) < 16 := Nat.pow_lt_pow_right (by decide) (by omega : b.2 m - 48 < 4)
      have nx : ∀ q, sqx c b.2 b.1 (b.1 - 1 - m) q = if c (4 + q) = b.2 m - 48 then stp c (sqx c b.2 b.1 (b.1 - 1 - (m + 1))) q else 0 := fun q => by
        rw [show b.1 - 1 - m = (b.1 - 1 - (m + 1)) + 1 by omega]
        show (if c (4 + q) = b.2 (b.1 - 2 - (b.1 - 1 - (m + 1))) - 48 then _ else _) = _
        rw [show b.1 - 2 - (b.1 - 1 - (m + 1)) = m by omega]
      have L2 : ∀ j, j ≤ c 0 → ∀ (J6 : aJ), (Lv J6 78 j (sqx c b.2 b.1 (b.1 - 1 - m)) ∧ ∀ q, q ≠ 78 → J6 q = J5 q) → Ez m_X7_countSequence (d + 3) 50 [some (.ref 77), some (.ref 2), some (.int (nI s)), some (.ref 81), some (.int (nI (b.1 - 1))), some (.int (nI m)), some (.int (nI (2 ^ (b.2 m - 48)))), some (.int (nI j))] [] E0 I5 J6 Q := by
        refine for_up ?_ ?_
        · intro J6 hj
          refine Ez.blk B_X7_countSequence_50 (lo' := [some (.ref 77), some (.ref 2), some (.int (nI s)), some (.ref 81), some (.int (nI (b.1 - 1))), some (.int (nI m)), some (.int (nI (2 ^ (b.2 m - 48)))), some (.int (nI (c 0)))]) (st' := [.int (I5 2 0), .int (nI (c 0))]) (I' := I5) (J' := J6) (Ps := [aO E0 2 1]) rfl o_2 ?_
          refine Ez.n_icmp_ge (off := 38) (tgt := 94) (by decide +kernel) (by decide) (a := (c 0)) (b := (c 0)) rfl (hc.1 0 (by decide)) (by omega) (by omega) (fun h9 => ?_) (fun h9 => absurd h9 (by omega))
          refine Ez.blk B_X7_countSequence_94 (lo' := [some (.ref 77), some (.ref 2), some (.int (nI s)), some (.ref 81), some (.int (nI (b.1 - 1))), some (.int (nI m + (-1))), some (.int (nI (2 ^ (b.2 m - 48)))), some (.int (nI (c 0)))]) (st' := []) (I' := I5) (J' := J6) (Ps := []) rfl trivial ?_
          rw [i32_m1]
          refine Ez.drops [6, 7] (lo' := [some (.ref 77), some (.ref 2), some (.int (nI s)), some (.ref 81), some (.int (nI (b.1 - 1))), some (.int (nI m - 1)), none, none]) rfl ?_
          exact ih J6 ⟨by omega, hj.1, fun q g0 g1 => by rw [hj.2 q g0, n2 q g1]; exact h2 q g0 g1⟩
        · intro j hjk ih2 J6 hj
          refine Ez.blk B_X7_countSequence_50 (lo' := [some (.ref 77), some (.ref 2), some (.int (nI s)), some (.ref 81), some (.int (nI (b.1 - 1))), some (.int (nI m)), some (.int (nI (2 ^ (b.2 m - 48)))), some (.int (nI j))]) (st' := [.int (I5 2 0), .int (nI j)]) (I' := I5) (J' := J6) (Ps := [aO E0 2 1]) rfl o_2 ?_
          refine Ez.n_icmp_ge (off := 38) (tgt := 94) (by decide +kernel) (by decide) (a := j) (b := (c 0)) rfl (hc.1 0 (by decide)) (by omega) (by omega) (fun h9 => absurd h9 (by omega)) (fun h9 => ?_)
          refine Ez.blk B_X7_countSequence_59 (lo' := [some (.ref 77), some (.ref 2), some (.int (nI s)), some (.ref 81), some (.int (nI (b.1 - 1))), some (.int (nI m)), some (.int (nI (2 ^ (b.2 m - 48)))), some (.int (nI j))]) (st' := [.int (nI (2 ^ (b.2 m - 48))), .int (nI j), .ref 2, .int (nI j), .ref 78]) (I' := I5) (J' := J6) (Ps := [aO E0 77 7 ∧ E0.2.2 77 0 ≠ 0]) rfl r_77_0 ?_
          refine Ez.callS (As := [.ref 2, .int (nI j), .int (nI (2 ^ (b.2 m - 48)))]) (rest := [.int (nI j), .ref 78]) kn_X7_isTarget ml_7_41 sm_X7_isTarget (by decide +kernel) rfl rfl (Nat.le_of_ble_eq_true rfl) (Nat.le_of_ble_eq_true rfl) (s_isTarget _ I5 J6 c hc W j (2 ^ (b.2 m - 48)) (by omega) hpm) (fun r I7 J7 hq => ?_)
          obtain ⟨rfl, rfl, rfl⟩ := hq
          refine Ez.z_if_eq (off := 13) (tgt := 86) (by decide +kernel) (by decide) (fun h8 => ?_) (fun h8 => ?_)
          · refine Ez.blk B_X7_countSequence_86 (lo' := [some (.ref 77), some (.ref 2), some (.int (nI s)), some (.ref 81), some (.int (nI (b.1 - 1))), some (.int (nI m)), some (.int (nI (2 ^ (b.2 m - 48)))), some (.int (nI j + 1))]) (st' := []) (I' := I7) (J' := (aUpJ J7 78 ((nI j).toNatClampNeg) 0)) (Ps := [aAr E0 2 78 (nI j)]) rfl (a_78 (vin (n := j) rfl (by omega) (by decide))) ?_
            rw [cln (x := nI j) (n := j) rfl (by omega)]
            rw [show (nI j + 1) = nI (j + 1) from (eq_add (a := j) (b := 1) rfl rfl)]
            exact ih2 _ ⟨fun s hs => by
              by_cases e : s = j
              · rw [e, aUpJ_eq, nx j, if_neg (fun z => h8 ((tgt_1 (by omega) (wl j (by omega))).mpr z))]; rfl
              · rw [aUpJ_nk e]; exact hj.1 s (by omega), fun q hq => by rw [aUpJ_ne hq]; exact hj.2 q hq⟩
          · refine Ez.blk B_X7_countSequence_76 (lo' := [some (.ref 77), some (.ref 2), some (.int (nI s)), some (.ref 81), some (.int (nI (b.1 - 1))), some (.int (nI m)), some (.int (nI (2 ^ (b.2 m - 48)))), some (.int (nI j))]) (st' := [.long (J7 79 ((nI j).toNatClampNeg)), .int (nI j), .ref 78]) (I' := I7) (J' := J7) (Ps := [aO E0 77 7 ∧ E0.2.2 77 1 ≠ 0, aAr E0 2 79 (nI j)]) rfl ⟨r_77_1, (a_79 (vin (n := j) rfl (by omega) (by decide)))⟩ ?_
            rw [cln (x := nI j) (n := j) rfl (by omega)]
            refine Ez.blk B_X7_countSequence_87 (lo' := [some (.ref 77), some (.ref 2), some (.int (nI s)), some (.ref 81), some (.int (nI (b.1 - 1))), some (.int (nI m)), some (.int (nI (2 ^ (b.2 m - 48)))), some (.int (nI j + 1))]) (st' := []) (I' := I7) (J' := (aUpJ J7 78 ((nI j).toNatClampNeg) (J7 79 j))) (Ps := [aAr E0 2 78 (nI j)]) rfl (a_78 (vin (n := j) rfl (by omega) (by decide))) ?_
            rw [cln (x := nI j) (n := j) rfl (by omega)]
            rw [show (nI j + 1) = nI (j + 1) from (eq_add (a := j) (b := 1) rfl rfl)]
            rw [hj.2 79 (by decide), n1 j hjk]
            exact ih2 _ ⟨fun s hs => by
              by_cases e : s = j
              · rw [e, aUpJ_eq, nx j, if_pos ((tgt_1 (by omega) (wl j (by omega))).mp h8)]
              · rw [aUpJ_nk e]; exact hj.1 s (by omega), fun q hq => by rw [aUpJ_ne hq]; exact hj.2 q hq⟩
      exact L2 0 (by omega) J5 ⟨fun q hq => by omega, fun _ _ => rfl⟩
  refine Ez.blk B_X7_countSequence_21 (lo' := [some (.ref 77), some (.ref 2), some (.int (nI s)), some (.ref 81), some (.int (nI (b.1 - 1))), some (.int (nI (b.1 - 1) - 1)), none, none]) (st' := []) (I' := I2) (J' := J2) (Ps := []) rfl trivial ?_
  exact L1 (b.1 - 1) J2 ⟨Nat.le_refl _, by rw [Nat.sub_self]; exact fun q hq => by rw [m1 q hq, mt _ (by omega) q hq]; rfl, fun q h0 _ => m2 q h0⟩
theorem c_seq (d : Nat) (I : aI) (J : aJ) (T : TS) (W : WT T) (hP : CP T I J) (x : Int32) : Sp m_X9_sequenceWeight (d + 4) [.ref 1, .int x] E0 I J (fun r I' J' => r = some (.long (f_seq T x).1) ∧ CP (f_seq T x).2 I' J' ∧ Fr9 I I' J J') := by
  refine Sp.of (lo := [some (.ref 1), some (.int x), none, none]) rfl (fun Q hQ => ?_)
  have w1 := W.1.1
  have w2 := W.1.2.1
  have wb := Wc_12 W.1
  refine Ez.blk B_X9_sequenceWeight_0 (lo' := [some (.ref 1), some (.int x), some (.long (-9223372036854775808)), none]) (st' := [.int x, .ref 2]) (I' := I) (J' := J) (Ps := [aO E0 1 9 ∧ E0.2.2 1 0 ≠ 0]) rfl r_1_0 ?_
  refine Ez.callV (As := [.int x]) (b := 2) (rest := []) kn_X1_has ml_9_95 im_X1_has se_X1_has rfl (by decide +kernel) rfl rfl (Nat.le_of_ble_eq_true rfl) (Nat.le_of_ble_eq_true rfl) o_2 (s_has _ E0 I J 2 (x) o_2) (fun r I1 J1 hq => ?_)
  obtain ⟨rfl, rfl, rfl⟩ := hq
  rw [hP.1.1 0 (by decide)]
  refine Ez.z_if_eq (off := 30) (tgt := 42) (by decide +kernel) (by decide) (fun h => ?_) (fun h => ?_)
  · refine Ez.blk B_X9_sequenceWeight_42 (lo' := [some (.ref 1), some (.int x), some (.long (-9223372036854775808)), none]) (st' := [.ref 81]) (I' := I1) (J' := J1) (Ps := [aO E0 1 9 ∧ E0.2.2 1 9 ≠ 0]) rfl r_1_9 ?_
    refine Ez.callV (As := []) (b := 81) (rest := []) kn_X5_empty ml_9_223 im_X5_empty se_X5_empty rfl (by decide +kernel) rfl rfl (Nat.le_of_ble_eq_true rfl) (Nat.le_of_ble_eq_true rfl) o_81 (s_emptyB _ I1 J1 T.2.2.2.1.2) (fun r I8 J8 hq => ?_)
    obtain ⟨rfl, rfl, e1, e2⟩ := hq
    refine Ez.blk B_X9_sequenceWeight_49 (lo' := [some (.ref 1), some (.int x), some (.long (-9223372036854775808)), none]) (st' := [.long (-9223372036854775808)]) (I' := I8) (J' := J8) (Ps := []) rfl trivial ?_
    exact Ez.lret rfl (by decide +kernel) (hQ _ _ _ (by unfold f_seq; rw [if_neg (fun q => h q.1)]; exact ⟨rfl, CP_b hP e1 (fun q h0 _ => e2 q h0), fun b hb => ⟨e2 b (by omega), rfl⟩⟩))
  · refine Ez.blk B_X9_sequenceWeight_15 (lo' := [some (.ref 1), some (.int x), some (.long (-9223372036854775808)), none]) (st' := [.ref 81]) (I' := I1) (J' := J1) (Ps := [aO E0 1 9 ∧ E0.2.2 1 9 ≠ 0]) rfl r_1_9 ?_
    refine Ez.callV (As := []) (b := 81) (rest := []) kn_X5_isLabelSequence ml_9_213 im_X5_isLabelSequence se_X5_isLabelSequence rfl (by decide +kernel) rfl rfl (Nat.le_of_ble_eq_true rfl) (Nat.le_of_ble_eq_true rfl) o_81 (s_isSeq _ I1 J1 T.2.2.2.1 hP.2.2.2.1 W.2.2.2.1.1 W.2.2.2.1.2) (fun r I2 J2 hq => ?_)
    obtain ⟨rfl, rfl, rfl⟩ := hq
    refine Ez.z_if_eq (off := 20) (tgt := 42) (by decide +kernel) (by decide) (fun h2 => ?_) (fun h2 => ?_)
    · refine Ez.blk B_X9_sequenceWeight_42 (lo' := [some (.ref 1), some (.int x), some (.long (-9223372036854775808)), none]) (st' := [.ref 81]) (I' := I2) (J' := J2) (Ps := [aO E0 1 9 ∧ E0.2.2 1 9 ≠ 0]) rfl r_1_9 ?_
      refine Ez.callV (As := []) (b := 81) (rest := []) kn_X5_empty ml_9_223 im_X5_empty se_X5_empty rfl (by decide +kernel) rfl rfl (Nat.le_of_ble_eq_true rfl) (Nat.le_of_ble_eq_true rfl) o_81 (s_emptyB _ I2 J2 T.2.2.2.1.2) (fun r I8 J8 hq => ?_)
      obtain ⟨rfl, rfl, e1, e2⟩ := hq
      refine Ez.blk B_X9_sequenceWeight_49 (lo' := [some (.ref 1), some (.int x), some (.long (-9223372036854775808)), none]) (st' := [.long (-9223372036854775808)]) (I' := I8) (J' := J8) (Ps := []) rfl trivial ?_
      exact Ez.lret rfl (by decide +kernel) (hQ _ _ _ (by unfold f_seq; rw [if_neg (fun q => h2 q.2)]; exact ⟨rfl, CP_b hP e1 (fun q h0 _ => e2 q h0), fun b hb => ⟨e2 b (by omega), rfl⟩⟩))
    · obtain ⟨k, hk, rfl, hkc⟩ := st_of (by omega) h
      refine Ez.blk B_X9_sequenceWeight_25 (lo' := [some (.ref 1), some (.int (nI k)), some (.long (-9223372036854775808)), none]) (st' := [.ref 81, .int (nI k), .ref 2, .ref 77]) (I' := I2) (J' := J2) (Ps := [aO E0 1 9 ∧ E0.2.2 1 7 ≠ 0, aO E0 1 9 ∧ E0.2.2 1 0 ≠ 0, aO E0 1 9 ∧ E0.2.2 1 9 ≠ 0]) rfl ⟨r_1_7, r_1_0, r_1_9⟩ ?_
      refine Ez.callV (As := [.ref 2, .int (nI k), .ref 81]) (b := 77) (rest := []) kn_X7_countSequence ml_9_219 im_X7_countSequence se_X7_countSequence rfl (by decide +kernel) rfl rfl (Nat.le_of_ble_eq_true rfl) (Nat.le_of_ble_eq_true rfl) o_77 (s_seq _ I2 J2 T.1 hP.1 W.1 T.2.2.2.1 hP.2.2.2.1 h2 k hk) (fun r I3 J3 hq => ?_)
      obtain ⟨rfl, rfl, k1⟩ := hq
      refine Ez.blk B_X9_sequenceWeight_41 (lo' := [some (.ref 1), some (.int (nI k)), some (.long (lN (sqx T.1 T.2.2.2.1.2 T.2.2.2.1.1 (T.2.2.2.1.1 - 1) k))), none]) (st' := [.ref 81]) (I' := I3) (J' := J3) (Ps := [aO E0 1 9 ∧ E0.2.2 1 9 ≠ 0]) rfl r_1_9 ?_
      refine Ez.callV (As := []) (b := 81) (rest := []) kn_X5_empty ml_9_223 im_X5_empty se_X5_empty rfl (by decide +kernel) rfl rfl (Nat.le_of_ble_eq_true rfl) (Nat.le_of_ble_eq_true rfl) o_81 (s_emptyB _ I3 J3 T.2.2.2.1.2) (fun r I8 J8 hq => ?_)
      obtain ⟨rfl, rfl, e1, e2⟩ := hq
      refine Ez.blk B_X9_sequenceWeight_49 (lo' := [some (.ref 1), some (.int (nI k)), some (.long (lN (sqx T.1 T.2.2.2.1.2 T.2.2.2.1.1 (T.2.2.2.1.1 - 1) k))), none]) (st' := [.long (lN (sqx T.1 T.2.2.2.1.2 T.2.2.2.1.1 (T.2.2.2.1.1 - 1) k))]) (I' := I8) (J' := J8) (Ps := []) rfl trivial ?_
      exact Ez.lret rfl (by decide +kernel) (hQ _ _ _ (by unfold f_seq; rw [if_pos ⟨h, h2⟩, hkc]; exact ⟨rfl, CP_b (CP_p hP k1) e1 (fun q h0 _ => e2 q h0), fun b hb => ⟨e2 b (by omega), k1 b (by omega) (by omega)⟩⟩))

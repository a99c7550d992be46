/-! THE INPUT -/
/-- the byte at a place of an int -/
def byt (x : Int32) (k : Nat) : Nat := x.toBitVec.toNat / 2 ^ (8 * k) % 256
theorem byt_lt {x : Int32} {k : Nat} : byt x k < 256 := Nat.mod_lt _ (by decide)
theorem byt_u {x : Int32} {k : Nat} (hk : k < 4) : (x.toUInt32 >>> ((8 * nI k).toUInt32 &&& Int32.toUInt32 31)).toInt32 &&& 255 = nI (byt x k) := by
  rw [pk_and _ 8 (by decide)]
  unfold byt
  rcases (show k = 0 ∨ k = 1 ∨ k = 2 ∨ k = 3 by omega) with rfl | rfl | rfl | rfl
  · rw [pk_ushr x (8 * nI 0) 0 (by decide)]
  · rw [pk_ushr x (8 * nI 1) 8 (by decide)]
  · rw [pk_ushr x (8 * nI 2) 16 (by decide)]
  · rw [pk_ushr x (8 * nI 3) 24 (by decide)]
/-- all of the n bytes are at most 127 -/
def byOk (x : Int32) (n : Nat) : Bool := (List.range n).all (fun k => decide (byt x k ≤ 127))
theorem byOk_iff {x : Int32} {n : Nat} : byOk x n = true ↔ ∀ k, k < n → byt x k ≤ 127 := by
  unfold byOk
  rw [List.all_eq_true]
  exact ⟨fun h k hk => by simpa using h k (List.mem_range.mpr hk), fun h k hk => by simpa using h k (List.mem_range.mp hk)⟩
abbrev bL (T : TS) : Nat := T.2.2.2.1.1
abbrev bB (T : TS) (i : Nat) : Nat := T.2.2.2.1.2 i
abbrev setB (T : TS) (b : Nat × (Nat → Nat)) : TS := (T.1, T.2.1, T.2.2.1, b, T.2.2.2.2)
def apb (b : Nat → Nat) (l : Nat) (x : Int32) (n : Nat) : Nat → Nat := fun i => if i < l then b i else byt x (n - 1 - (i - l))
def f_append (T : TS) (x n : Int32) : Int32 × TS := if 1 ≤ n ∧ n ≤ 4 then (if byOk x n.toNatClampNeg = true then (if bL T + n.toNatClampNeg ≤ 80 then (nI (bL T + n.toNatClampNeg), setB T (bL T + n.toNatClampNeg, apb T.2.2.2.1.2 (bL T) x n.toNatClampNeg)) else (-6, T)) else (-1, T)) else (-1, T)
def f_clearInput (T : TS) : Int32 × TS := (nI (bL T), setB T (0, T.2.2.2.1.2))
/-- the input alone changes -/
theorem CP_b {T : TS} {I I' : aI} {J : aJ} {b : Nat × (Nat → Nat)} (h : CP T I J) (h1 : CBuf b I') (hI : ∀ q, q ≠ 81 → q ≠ 82 → I' q = I q) : CP (setB T b) I' J := ⟨Ch_eq h.1 (hI _ (by omega) (by omega)) (hI _ (by omega) (by omega)) (hI _ (by omega) (by omega)), CEd_fr h.2.1 (fun b _ => hI b (by omega) (by omega)), CSn_fr h.2.2.1 (hI _ (by omega) (by omega)) (fun b _ _ => hI b (by omega) (by omega)), h1, CSl_fr h.2.2.2.2.1 (hI _ (by omega) (by omega)) (hI _ (by omega) (by omega)) (fun _ _ _ => rfl), CCa_fr h.2.2.2.2.2 (fun b _ _ => hI b (by omega) (by omega)) (fun _ _ _ => rfl)⟩
theorem i32_m1 (x : Int32) : x + (-1) = x - 1 := by rw [Int32.sub_eq_add_neg]
theorem s_byteAt (d : Nat) (E : aE) (I : aI) (J : aJ) (x : Int32) (k : Nat) (hk : k < 4) : Sp m_X9_byteAt (d + 1) [.int x, .int (nI k)] E I J (fun r I' J' => r = some (.int (nI (byt x k))) ∧ I' = I ∧ J' = J) := by
  refine Sp.of (lo := [some (.int x), some (.int (nI k))]) rfl (fun Q hQ => ?_)
  refine Ez.blk B_X9_byteAt_0 (lo' := [some (.int x), some (.int (nI k))]) (st' := [.int (((x.toUInt32 >>> ((8 * nI k).toUInt32 &&& Int32.toUInt32 31)).toInt32) &&& 255)]) (I' := I) (J' := J) (Ps := []) rfl trivial ?_
  rw [byt_u hk]
  exact Ez.iret rfl (by decide +kernel) (hQ _ _ _ ⟨rfl, rfl, rfl⟩)
theorem s_add (d : Nat) (I : aI) (J : aJ) (l v : Nat) (b : Nat → Nat) (hb : CBuf (l, b) I) (hl : l < 80) (hv : b l = v) : Sp m_X5_add (d + 1) [.ref 81, .int (nI v)] E0 I J (fun r I' J' => r = none ∧ J' = J ∧ CBuf (l + 1, b) I' ∧ ∀ q, q ≠ 81 → q ≠ 82 → I' q = I q) := by
  refine Sp.of (lo := [some (.ref 81), some (.int (nI v))]) rfl (fun Q hQ => ?_)
  refine Ez.blk B_X5_add_0 (lo' := [some (.ref 81), some (.int (nI v))]) (st' := [.int 80, .int (I 81 0)]) (I' := I) (J' := J) (Ps := [aO E0 81 5]) rfl o_81 ?_
  refine Ez.n_icmp_ge (off := 23) (tgt := 29) (by decide +kernel) (by decide) (a := l) (b := 80) hb.1 rfl (by omega) (by omega) (fun h => absurd h (by omega)) (fun h => ?_)
  refine Ez.blk B_X5_add_9 (lo' := [some (.ref 81), some (.int (nI v))]) (st' := []) (I' := (aUp (aUp I 82 ((I 81 0).toNatClampNeg) (nI v)) 81 0 (I 81 0 + 1))) (J' := J) (Ps := [aO E0 81 5 ∧ E0.2.2 81 1 ≠ 0, aO E0 81 5, aAr E0 1 82 (I 81 0), aO E0 81 5, aO E0 81 5]) rfl ⟨r_81_1, o_81, (a_82 (vin (n := l) hb.1 (by omega) (by decide))), o_81, o_81⟩ ?_
  rw [cln (x := I 81 0) (n := l) hb.1 (by omega)]
  generalize hI1 : (aUp (aUp I 82 l (nI v)) 81 0 (I 81 0 + 1)) = I1
  exact Ez.vret rfl (by decide +kernel) (hQ _ _ _ ⟨rfl, rfl, ⟨by rw [← hI1, aUp_eq, hb.1, nI_1], fun i hi => by
    have hi : i < l + 1 := hi
    show I1 82 i = nI (b i)
    rw [← hI1, aUp_ne (by decide)]
    by_cases e : i = l
    · rw [e, aUp_eq, hv]
    · rw [aUp_nk e]; exact hb.2 i (by show i < l; omega)⟩, fun q h0 h1 => by rw [← hI1, aUp_ne h0, aUp_ne h1]⟩)
theorem s_emptyB (d : Nat) (I : aI) (J : aJ) (b : Nat → Nat) : Sp m_X5_empty (d + 1) [.ref 81] E0 I J (fun r I' J' => r = none ∧ J' = J ∧ CBuf (0, b) I' ∧ ∀ q, q ≠ 81 → I' q = I q) := by
  refine Sp.of (lo := [some (.ref 81)]) rfl (fun Q hQ => ?_)
  refine Ez.blk B_X5_empty_0 (lo' := [some (.ref 81)]) (st' := []) (I' := (aUp I 81 0 0)) (J' := J) (Ps := [aO E0 81 5]) rfl o_81 ?_
  generalize hI1 : (aUp I 81 0 0) = I1
  exact Ez.vret rfl (by decide +kernel) (hQ _ _ _ ⟨rfl, rfl, ⟨by rw [← hI1, aUp_eq]; rfl, fun i hi => by have hi : i < 0 := hi; omega⟩, fun q h0 => by rw [← hI1, aUp_ne h0]⟩)
theorem c_clearInput (d : Nat) (I : aI) (J : aJ) (T : TS) (W : WT T) (hP : CP T I J) : Sp m_X9_clearInput (d + 2) [.ref 1] E0 I J (fun r I' J' => r = some (.int (f_clearInput T).1) ∧ CP (f_clearInput T).2 I' J' ∧ Fr9 I I' J J') := by
  refine Sp.of (lo := [some (.ref 1), none]) rfl (fun Q hQ => ?_)
  refine Ez.blk B_X9_clearInput_0 (lo' := [some (.ref 1), some (.int (I 81 0))]) (st' := [.ref 81]) (I' := I) (J' := J) (Ps := [aO E0 1 9 ∧ E0.2.2 1 9 ≠ 0, aO E0 81 5, aO E0 1 9 ∧ E0.2.2 1 9 ≠ 0]) rfl ⟨r_1_9, o_81, r_1_9⟩ ?_
  rw [hP.2.2.2.1.1]
  refine Ez.callV (As := []) (b := 81) (rest := []) kn_X5_empty ml_9_223 im_X5_empty se_X5_empty rfl (by decide +kernel) rfl rfl (Nat.le_of_ble_eq_true rfl) (Nat.le_of_ble_eq_true rfl) o_81 (s_emptyB _ I J T.2.2.2.1.2) (fun r I1 J1 hq => ?_)
  obtain ⟨rfl, rfl, k1, k2⟩ := hq
  refine Ez.blk B_X9_clearInput_15 (lo' := [some (.ref 1), some (.int (nI (bL T)))]) (st' := [.int (nI (bL T))]) (I' := I1) (J' := J1) (Ps := []) rfl trivial ?_
  exact Ez.iret rfl (by decide +kernel) (hQ _ _ _ ⟨rfl, CP_b hP k1 (fun q h0 _ => k2 q h0), fun b hb => ⟨k2 b (by omega), rfl⟩⟩)
theorem c_append (d : Nat) (I : aI) (J : aJ) (T : TS) (W : WT T) (hP : CP T I J) (x y : Int32) : Sp m_X9_append (d + 2) [.ref 1, .int x, .int y] E0 I J (fun r I' J' => r = some (.int (f_append T x y).1) ∧ CP (f_append T x y).2 I' J' ∧ Fr9 I I' J J') := by
  refine Sp.of (lo := [some (.ref 1), some (.int x), some (.int y), none]) rfl (fun Q hQ => ?_)
  have wl : bL T ≤ 80 := W.2.2.2.1.1
  refine Ez.blk B_X9_append_0 (lo' := [some (.ref 1), some (.int x), some (.int y), none]) (st' := [.int 4, .int 1, .int y]) (I' := I) (J' := J) (Ps := []) rfl trivial ?_
  refine Ez.callS (As := [.int y, .int 1, .int 4]) (rest := []) kn_X9_isWithin ml_9_77 sm_X9_isWithin (by decide +kernel) rfl rfl (Nat.le_of_ble_eq_true rfl) (Nat.le_of_ble_eq_true rfl) (s_isWithin _ E0 I J y 1 4) (fun r I1 J1 hq => ?_)
  obtain ⟨rfl, rfl, rfl⟩ := hq
  refine Ez.z_if_ne (off := 5) (tgt := 11) (by decide +kernel) (by decide) (fun h => ?_) (fun h => ?_)
  · obtain ⟨n, hn1, hn, rfl, hnc⟩ := in_of (lo := 1) (hi := 4) (by omega) h (by omega)
    refine Ez.blk B_X9_append_11 (lo' := [some (.ref 1), some (.int x), some (.int (nI n)), some (.int 0)]) (st' := []) (I' := I1) (J' := J1) (Ps := []) rfl trivial ?_
    have L2 : byOk x n = true → bL T + n ≤ 80 → ∀ m, ∀ I2 : aI, (m ≤ n ∧ CBuf (bL T + (n - m), apb T.2.2.2.1.2 (bL T) x n) I2 ∧ ∀ q, q ≠ 81 → q ≠ 82 → I2 q = I1 q) → Ez m_X9_append (d + 2) 57 [some (.ref 1), some (.int x), some (.int (nI n)), some (.int (nI m - 1))] [] E0 I2 J1 Q := by
      intro hok hlen
      refine for_dn ?_ ?_
      · intro I2 ⟨hm, hb, hf⟩
        refine Ez.blk B_X9_append_57 (lo' := [some (.ref 1), some (.int x), some (.int (nI n)), some (.int (nI 0 - 1))]) (st' := [.int (nI 0 - 1)]) (I' := I2) (J' := J1) (Ps := []) rfl trivial ?_
        refine Ez.if_lt (off := 21) (tgt := 79) (by decide +kernel) (by decide) (fun h9 => ?_) (fun h9 => (absurd (by decide) h9))
        have e1 : I2 81 0 = nI (bL T + n) := hb.1
        refine Ez.blk B_X9_append_79 (lo' := [some (.ref 1), some (.int x), some (.int (nI n)), some (.int (nI 0 - 1))]) (st' := [.int (I2 81 0)]) (I' := I2) (J' := J1) (Ps := [aO E0 1 9 ∧ E0.2.2 1 9 ≠ 0, aO E0 81 5]) rfl ⟨r_1_9, o_81⟩ ?_
        rw [e1]
        exact Ez.iret rfl (by decide +kernel) (hQ _ _ _ (by unfold f_append; rw [if_pos h, hnc, if_pos hok, if_pos hlen]; exact ⟨rfl, CP_b hP hb hf, fun b hb => ⟨hf b (by omega) (by omega), rfl⟩⟩))
      · intro m ih I2 ⟨hm, hb, hf⟩
        rw [nI_pred m]
        refine Ez.blk B_X9_append_57 (lo' := [some (.ref 1), some (.int x), some (.int (nI n)), some (.int (nI m))]) (st' := [.int (nI m)]) (I' := I2) (J' := J1) (Ps := []) rfl trivial ?_
        refine Ez.n_if_lt (off := 21) (tgt := 79) (by decide +kernel) (by decide) (a := m) rfl (by omega) (fun h9 => h9.elim) (fun h9 => ?_)
        refine Ez.blk B_X9_append_61 (lo' := [some (.ref 1), some (.int x), some (.int (nI n)), some (.int (nI m))]) (st' := [.int (nI m), .int x, .ref 81]) (I' := I2) (J' := J1) (Ps := [aO E0 1 9 ∧ E0.2.2 1 9 ≠ 0]) rfl r_1_9 ?_
        refine Ez.callS (As := [.int x, .int (nI m)]) (rest := [.ref 81]) kn_X9_byteAt ml_9_233 sm_X9_byteAt (by decide +kernel) rfl rfl (Nat.le_of_ble_eq_true rfl) (Nat.le_of_ble_eq_true rfl) (s_byteAt _ E0 I2 J1 x m (by omega)) (fun r I3 J3 hq => ?_)
        obtain ⟨rfl, rfl, rfl⟩ := hq
        refine Ez.callV (As := [.int (nI (byt x m))]) (b := 81) (rest := []) kn_X5_add ml_9_239 im_X5_add se_X5_add rfl (by decide +kernel) rfl rfl (Nat.le_of_ble_eq_true rfl) (Nat.le_of_ble_eq_true rfl) o_81 (s_add _ I3 J3 (bL T + (n - (m + 1))) (byt x m) (apb T.2.2.2.1.2 (bL T) x n) hb (by omega) (by unfold apb; rw [if_neg (by omega), show n - 1 - (bL T + (n - (m + 1)) - bL T) = m by omega])) (fun r I4 J4 hq => ?_)
        obtain ⟨rfl, rfl, k1, k2⟩ := hq
        refine Ez.blk B_X9_append_73 (lo' := [some (.ref 1), some (.int x), some (.int (nI n)), some (.int (nI m + (-1)))]) (st' := []) (I' := I4) (J' := J4) (Ps := []) rfl trivial ?_
        rw [i32_m1]
        exact ih I4 ⟨by omega, by rw [show bL T + (n - m) = bL T + (n - (m + 1)) + 1 by omega]; exact k1, fun q h0 h1 => by rw [k2 q h0 h1]; exact hf q h0 h1⟩
    have L1 : ∀ k, k ≤ n → (∀ j, j < k → byt x j ≤ 127) → Ez m_X9_append (d + 2) 13 [some (.ref 1), some (.int x), some (.int (nI n)), some (.int (nI k))] [] E0 I1 J1 Q := by
      refine for_up ?_ ?_
      · intro hi
        refine Ez.blk B_X9_append_13 (lo' := [some (.ref 1), some (.int x), some (.int (nI n)), some (.int (nI n))]) (st' := [.int (nI n), .int (nI n)]) (I' := I1) (J' := J1) (Ps := []) rfl trivial ?_
        refine Ez.n_icmp_ge (off := 21) (tgt := 36) (by decide +kernel) (by decide) (a := n) (b := n) rfl rfl (by omega) (by omega) (fun h9 => ?_) (fun h9 => absurd h9 (by omega))
        have hok : byOk x n = true := byOk_iff.mpr hi
        refine Ez.blk B_X9_append_36 (lo' := [some (.ref 1), some (.int x), some (.int (nI n)), some (.int (nI n))]) (st' := [.int 80, .int (I1 81 0 + nI n)]) (I' := I1) (J' := J1) (Ps := [aO E0 1 9 ∧ E0.2.2 1 9 ≠ 0, aO E0 81 5]) rfl ⟨r_1_9, o_81⟩ ?_
        refine Ez.n_icmp_le (off := 6) (tgt := 53) (by decide +kernel) (by decide) (a := (bL T + n)) (b := 80) (eq_add (a := (bL T)) (b := n) hP.2.2.2.1.1 rfl) rfl (by omega) (by omega) (fun h9 => ?_) (fun h9 => ?_)
        · refine Ez.blk B_X9_append_53 (lo' := [some (.ref 1), some (.int x), some (.int (nI n)), some (.int (nI n - 1))]) (st' := []) (I' := I1) (J' := J1) (Ps := []) rfl trivial ?_
          exact L2 hok h9 n I1 ⟨Nat.le_refl _, ⟨by show I1 81 0 = nI (bL T + (n - n)); rw [show bL T + (n - n) = bL T by omega]; exact hP.2.2.2.1.1, fun i hi2 => by
            have hi2 : i < bL T + (n - n) := hi2
            show I1 82 i = nI (apb T.2.2.2.1.2 (bL T) x n i)
            unfold apb
            rw [if_pos (by omega)]; exact hP.2.2.2.1.2 i (by show i < bL T; omega)⟩, fun _ _ _ => rfl⟩
        · refine Ez.blk B_X9_append_50 (lo' := [some (.ref 1), some (.int x), some (.int (nI n)), some (.int (nI n))]) (st' := [.int (-6)]) (I' := I1) (J' := J1) (Ps := []) rfl trivial ?_
          exact Ez.iret rfl (by decide +kernel) (hQ _ _ _ (by unfold f_append; rw [if_pos h, hnc, if_pos hok, if_neg (by omega)]; exact ⟨rfl, hP, fun _ _ => ⟨rfl, rfl⟩⟩))
      · intro k hk ih hi
        refine Ez.blk B_X9_append_13 (lo' := [some (.ref 1), some (.int x), some (.int (nI n)), some (.int (nI k))]) (st' := [.int (nI n), .int (nI k)]) (I' := I1) (J' := J1) (Ps := []) rfl trivial ?_
        refine Ez.n_icmp_ge (off := 21) (tgt := 36) (by decide +kernel) (by decide) (a := k) (b := n) rfl rfl (by omega) (by omega) (fun h9 => absurd h9 (by omega)) (fun h9 => ?_)
        refine Ez.blk B_X9_append_18 (lo' := [some (.ref 1), some (.int x), some (.int (nI n)), some (.int (nI k))]) (st' := [.int (nI k), .int x]) (I' := I1) (J' := J1) (Ps := []) rfl trivial ?_
        refine Ez.callS (As := [.int x, .int (nI k)]) (rest := []) kn_X9_byteAt ml_9_233 sm_X9_byteAt (by decide +kernel) rfl rfl (Nat.le_of_ble_eq_true rfl) (Nat.le_of_ble_eq_true rfl) (s_byteAt _ E0 I1 J1 x k (by omega)) (fun r I2 J2 hq => ?_)
        obtain ⟨rfl, rfl, rfl⟩ := hq
        have b256 : byt x k < 256 := byt_lt
        refine Ez.blk B_X9_append_23 (lo' := [some (.ref 1), some (.int x), some (.int (nI n)), some (.int (nI k))]) (st' := [.int 127, .int (nI (byt x k))]) (I' := I2) (J' := J2) (Ps := []) rfl trivial ?_
        refine Ez.n_icmp_le (off := 5) (tgt := 30) (by decide +kernel) (by decide) (a := (byt x k)) (b := 127) rfl rfl (by omega) (by omega) (fun h10 => ?_) (fun h10 => ?_)
        · refine Ez.blk B_X9_append_30 (lo' := [some (.ref 1), some (.int x), some (.int (nI n)), some (.int (nI k + 1))]) (st' := []) (I' := I2) (J' := J2) (Ps := []) rfl trivial ?_
          rw [show (nI k + 1) = nI (k + 1) from (eq_add (a := k) (b := 1) rfl rfl)]
          exact ih (fun j hj => by
            by_cases e : j = k
            · rw [e]; exact h10
            · exact hi j (by omega))
        · refine Ez.blk B_X9_append_28 (lo' := [some (.ref 1), some (.int x), some (.int (nI n)), some (.int (nI k))]) (st' := [.int (-1)]) (I' := I2) (J' := J2) (Ps := []) rfl trivial ?_
          exact Ez.iret rfl (by decide +kernel) (hQ _ _ _ (by unfold f_append; rw [if_pos h, hnc, if_neg (fun q => by have := byOk_iff.mp q k hk; omega)]; exact ⟨rfl, hP, fun _ _ => ⟨rfl, rfl⟩⟩))
    exact L1 0 (by omega) (fun j hj => by omega)
  · refine Ez.blk B_X9_append_9 (lo' := [some (.ref 1), some (.int x), some (.int y), none]) (st' := [.int (-1)]) (I' := I1) (J' := J1) (Ps := []) rfl trivial ?_
    exact Ez.iret rfl (by decide +kernel) (hQ _ _ _ (by unfold f_append; rw [if_neg h]; exact ⟨rfl, hP, fun _ _ => ⟨rfl, rfl⟩⟩))
/-- the digit at a place, or -1 -/
def dgt (b : Nat × (Nat → Nat)) (k : Nat) : Int32 := if k < b.1 ∧ 48 ≤ b.2 k ∧ b.2 k ≤ 57 then nI (b.2 k - 48) else -1
theorem s_digitAt (d : Nat) (I : aI) (J : aJ) (b : Nat × (Nat → Nat)) (hb : CBuf b I) (h80 : b.1 ≤ 80) (h128 : ∀ i, i < b.1 → b.2 i < 128) (k : Nat) (hk : k ≤ 100) : Sp m_X5_digitAt (d + 1) [.ref 81, .int (nI k)] E0 I J (fun r I' J' => r = some (.int (dgt b k)) ∧ I' = I ∧ J' = J) := by
  refine Sp.of (lo := [some (.ref 81), some (.int (nI k))]) rfl (fun Q hQ => ?_)
  refine Ez.blk B_X5_digitAt_0 (lo' := [some (.ref 81), some (.int (nI k))]) (st' := [.int (nI k)]) (I' := I) (J' := J) (Ps := []) rfl trivial ?_
  refine Ez.n_if_lt (off := 33) (tgt := 34) (by decide +kernel) (by decide) (a := k) rfl (by omega) (fun h => h.elim) (fun h => ?_)
  refine Ez.blk B_X5_digitAt_4 (lo' := [some (.ref 81), some (.int (nI k))]) (st' := [.int (I 81 0), .int (nI k)]) (I' := I) (J' := J) (Ps := [aO E0 81 5]) rfl o_81 ?_
  refine Ez.n_icmp_ge (off := 25) (tgt := 34) (by decide +kernel) (by decide) (a := k) (b := b.1) rfl hb.1 (by omega) (by omega) (fun h1 => ?_) (fun h1 => ?_)
  · refine Ez.blk B_X5_digitAt_34 (lo' := [some (.ref 81), some (.int (nI k))]) (st' := [.int (-1)]) (I' := I) (J' := J) (Ps := []) rfl trivial ?_
    exact Ez.iret rfl (by decide +kernel) (hQ _ _ _ ⟨by unfold dgt; rw [if_neg (by omega)], rfl, rfl⟩)
  · have hb2 := hb.2 k h1
    have hb3 := h128 k h1
    refine Ez.blk B_X5_digitAt_12 (lo' := [some (.ref 81), some (.int (nI k))]) (st' := [.int 48, .int (I 82 ((nI k).toNatClampNeg))]) (I' := I) (J' := J) (Ps := [aO E0 81 5 ∧ E0.2.2 81 1 ≠ 0, aAr E0 1 82 (nI k)]) rfl ⟨r_81_1, (a_82 (vin (n := k) rfl (by omega) (by decide)))⟩ ?_
    rw [cln (x := nI k) (n := k) rfl (by omega)]
    rw [hb2]
    refine Ez.n_icmp_lt (off := 14) (tgt := 34) (by decide +kernel) (by decide) (a := (b.2 k)) (b := 48) rfl rfl (by omega) (by omega) (fun h2 => ?_) (fun h2 => ?_)
    · refine Ez.blk B_X5_digitAt_34 (lo' := [some (.ref 81), some (.int (nI k))]) (st' := [.int (-1)]) (I' := I) (J' := J) (Ps := []) rfl trivial ?_
      exact Ez.iret rfl (by decide +kernel) (hQ _ _ _ ⟨by unfold dgt; rw [if_neg (by omega)], rfl, rfl⟩)
    · refine Ez.blk B_X5_digitAt_23 (lo' := [some (.ref 81), some (.int (nI k))]) (st' := [.int 57, .int (I 82 ((nI k).toNatClampNeg))]) (I' := I) (J' := J) (Ps := [aO E0 81 5 ∧ E0.2.2 81 1 ≠ 0, aAr E0 1 82 (nI k)]) rfl ⟨r_81_1, (a_82 (vin (n := k) rfl (by omega) (by decide)))⟩ ?_
      rw [cln (x := nI k) (n := k) rfl (by omega)]
      rw [hb2]
      refine Ez.n_icmp_le (off := 5) (tgt := 36) (by decide +kernel) (by decide) (a := (b.2 k)) (b := 57) rfl rfl (by omega) (by omega) (fun h3 => ?_) (fun h3 => ?_)
      · refine Ez.blk B_X5_digitAt_36 (lo' := [some (.ref 81), some (.int (nI k))]) (st' := [.int (I 82 ((nI k).toNatClampNeg) - 48)]) (I' := I) (J' := J) (Ps := [aO E0 81 5 ∧ E0.2.2 81 1 ≠ 0, aAr E0 1 82 (nI k)]) rfl ⟨r_81_1, (a_82 (vin (n := k) rfl (by omega) (by decide)))⟩ ?_
        rw [cln (x := nI k) (n := k) rfl (by omega)]
        rw [hb2, show nI (b.2 k) - 48 = nI (b.2 k - 48) from pk_sub (b := 48) h2]
        exact Ez.iret rfl (by decide +kernel) (hQ _ _ _ ⟨by unfold dgt; rw [if_pos (by omega)], rfl, rfl⟩)
      · refine Ez.blk B_X5_digitAt_34 (lo' := [some (.ref 81), some (.int (nI k))]) (st' := [.int (-1)]) (I' := I) (J' := J) (Ps := []) rfl trivial ?_
        exact Ez.iret rfl (by decide +kernel) (hQ _ _ _ ⟨by unfold dgt; rw [if_neg (by omega)], rfl, rfl⟩)
theorem s_holdsAt (d : Nat) (I : aI) (J : aJ) (b : Nat × (Nat → Nat)) (hb : CBuf b I) (h80 : b.1 ≤ 80) (h128 : ∀ i, i < b.1 → b.2 i < 128) (k c : Nat) (hk : k ≤ 100) (hc : c < 128) : Sp m_X5_holdsAt (d + 1) [.ref 81, .int (nI k), .int (nI c)] E0 I J (fun r I' J' => r = some (.int (zb (k < b.1 ∧ b.2 k = c))) ∧ I' = I ∧ J' = J) := by
  refine Sp.of (lo := [some (.ref 81), some (.int (nI k)), some (.int (nI c))]) rfl (fun Q hQ => ?_)
  refine Ez.blk B_X5_holdsAt_0 (lo' := [some (.ref 81), some (.int (nI k)), some (.int (nI c))]) (st' := [.int (nI k)]) (I' := I) (J' := J) (Ps := []) rfl trivial ?_
  refine Ez.n_if_lt (off := 25) (tgt := 26) (by decide +kernel) (by decide) (a := k) rfl (by omega) (fun h => h.elim) (fun h => ?_)
  refine Ez.blk B_X5_holdsAt_4 (lo' := [some (.ref 81), some (.int (nI k)), some (.int (nI c))]) (st' := [.int (I 81 0), .int (nI k)]) (I' := I) (J' := J) (Ps := [aO E0 81 5]) rfl o_81 ?_
  refine Ez.n_icmp_ge (off := 17) (tgt := 26) (by decide +kernel) (by decide) (a := k) (b := b.1) rfl hb.1 (by omega) (by omega) (fun h1 => ?_) (fun h1 => ?_)
  · refine Ez.blk B_X5_holdsAt_26 (lo' := [some (.ref 81), some (.int (nI k)), some (.int (nI c))]) (st' := [.int 0]) (I' := I) (J' := J) (Ps := []) rfl trivial ?_
    exact Ez.zret rfl (Or.inl rfl) (by decide +kernel) (hQ _ _ _ ⟨by rw [zb_f (by omega)], rfl, rfl⟩)
  · have hb2 := hb.2 k h1
    have hb3 := h128 k h1
    refine Ez.blk B_X5_holdsAt_12 (lo' := [some (.ref 81), some (.int (nI k)), some (.int (nI c))]) (st' := [.int (nI c), .int (I 82 ((nI k).toNatClampNeg))]) (I' := I) (J' := J) (Ps := [aO E0 81 5 ∧ E0.2.2 81 1 ≠ 0, aAr E0 1 82 (nI k)]) rfl ⟨r_81_1, (a_82 (vin (n := k) rfl (by omega) (by decide)))⟩ ?_
    rw [cln (x := nI k) (n := k) rfl (by omega)]
    rw [hb2]
    refine Ez.n_icmp_ne (off := 7) (tgt := 26) (by decide +kernel) (by decide) (a := (b.2 k)) (b := c) rfl rfl (by omega) (by omega) (fun h2 => ?_) (fun h2 => ?_)
    · refine Ez.blk B_X5_holdsAt_26 (lo' := [some (.ref 81), some (.int (nI k)), some (.int (nI c))]) (st' := [.int 0]) (I' := I) (J' := J) (Ps := []) rfl trivial ?_
      exact Ez.zret rfl (Or.inl rfl) (by decide +kernel) (hQ _ _ _ ⟨by rw [zb_f (by omega)], rfl, rfl⟩)
    · refine Ez.blk B_X5_holdsAt_22 (lo' := [some (.ref 81), some (.int (nI k)), some (.int (nI c))]) (st' := [.int 1]) (I' := I) (J' := J) (Ps := []) rfl trivial ?_
      exact Ez.zret rfl (Or.inr rfl) (by decide +kernel) (hQ _ _ _ ⟨by rw [zb_t ⟨h1, h2⟩], rfl, rfl⟩)
/-- a label sequence -/
def lsq (b : Nat × (Nat → Nat)) : Bool := decide (1 ≤ b.1) && decide (b.1 ≤ 13) && (List.range b.1).all (fun i => decide (48 ≤ b.2 i) && decide (b.2 i ≤ 51))
theorem lsq_iff {b : Nat × (Nat → Nat)} : lsq b = true ↔ (1 ≤ b.1 ∧ b.1 ≤ 13) ∧ ∀ i, i < b.1 → 48 ≤ b.2 i ∧ b.2 i ≤ 51 := by
  unfold lsq
  rw [Bool.and_eq_true, Bool.and_eq_true, List.all_eq_true]
  simp only [decide_eq_true_eq, Bool.and_eq_true, List.mem_range]
theorem s_isSeq (d : Nat) (I : aI) (J : aJ) (b : Nat × (Nat → Nat)) (hb : CBuf b I) (h80 : b.1 ≤ 80) (h128 : ∀ i, i < b.1 → b.2 i < 128) : Sp m_X5_isLabelSequence (d + 2) [.ref 81] E0 I J (fun r I' J' => r = some (.int (zb (lsq b = true))) ∧ I' = I ∧ J' = J) := by
  refine Sp.of (lo := [some (.ref 81), none, none]) rfl (fun Q hQ => ?_)
  have L1 : ∀ k, k ≤ b.1 → (1 ≤ b.1 ∧ b.1 ≤ 13) ∧ (∀ i, i < k → 48 ≤ b.2 i ∧ b.2 i ≤ 51) → Ez m_X5_isLabelSequence (d + 2) 21 [some (.ref 81), some (.int (nI k)), none] [] E0 I J Q := by
    refine for_up ?_ ?_
    · intro hi
      refine Ez.blk B_X5_isLabelSequence_21 (lo' := [some (.ref 81), some (.int (nI b.1)), none]) (st' := [.int (I 81 0), .int (nI b.1)]) (I' := I) (J' := J) (Ps := [aO E0 81 5]) rfl o_81 ?_
      refine Ez.n_icmp_ge (off := 26) (tgt := 52) (by decide +kernel) (by decide) (a := b.1) (b := b.1) rfl hb.1 (by omega) (by omega) (fun h => ?_) (fun h => absurd h (by omega))
      refine Ez.blk B_X5_isLabelSequence_52 (lo' := [some (.ref 81), some (.int (nI b.1)), none]) (st' := [.int 1]) (I' := I) (J' := J) (Ps := []) rfl trivial ?_
      exact Ez.zret rfl (Or.inr rfl) (by decide +kernel) (hQ _ _ _ ⟨by rw [zb_t (lsq_iff.mpr hi)], rfl, rfl⟩)
    · intro k hk ih hi
      refine Ez.blk B_X5_isLabelSequence_21 (lo' := [some (.ref 81), some (.int (nI k)), none]) (st' := [.int (I 81 0), .int (nI k)]) (I' := I) (J' := J) (Ps := [aO E0 81 5]) rfl o_81 ?_
      refine Ez.n_icmp_ge (off := 26) (tgt := 52) (by decide +kernel) (by decide) (a := k) (b := b.1) rfl hb.1 (by omega) (by omega) (fun h => absurd h (by omega)) (fun h => ?_)
      refine Ez.blk B_X5_isLabelSequence_29 (lo' := [some (.ref 81), some (.int (nI k)), none]) (st' := [.int (nI k), .ref 81]) (I' := I) (J' := J) (Ps := []) rfl trivial ?_
      refine Ez.callV (As := [.int (nI k)]) (b := 81) (rest := []) kn_X5_digitAt ml_5_19 im_X5_digitAt se_X5_digitAt rfl (by decide +kernel) rfl rfl (Nat.le_of_ble_eq_true rfl) (Nat.le_of_ble_eq_true rfl) o_81 (s_digitAt _ I J b hb h80 h128 k (by omega)) (fun r I1 J1 hq => ?_)
      obtain ⟨rfl, rfl, rfl⟩ := hq
      have hb3 := h128 k hk
      by_cases hd : 48 ≤ b.2 k ∧ b.2 k ≤ 57
      · rw [show dgt b k = nI (b.2 k - 48) by unfold dgt; rw [if_pos ⟨hk, hd⟩]]
        refine Ez.blk B_X5_isLabelSequence_34 (lo' := [some (.ref 81), some (.int (nI k)), some (.int (nI (b.2 k - 48)))]) (st' := [.int (nI (b.2 k - 48))]) (I' := I1) (J' := J1) (Ps := []) rfl trivial ?_
        refine Ez.n_if_lt (off := 8) (tgt := 44) (by decide +kernel) (by decide) (a := (b.2 k - 48)) rfl (by omega) (fun h9 => h9.elim) (fun h9 => ?_)
        refine Ez.blk B_X5_isLabelSequence_39 (lo' := [some (.ref 81), some (.int (nI k)), some (.int (nI (b.2 k - 48)))]) (st' := [.int 3, .int (nI (b.2 k - 48))]) (I' := I1) (J' := J1) (Ps := []) rfl trivial ?_
        refine Ez.n_icmp_le (off := 5) (tgt := 46) (by decide +kernel) (by decide) (a := (b.2 k - 48)) (b := 3) rfl rfl (by omega) (by omega) (fun h10 => ?_) (fun h10 => ?_)
        · refine Ez.blk B_X5_isLabelSequence_46 (lo' := [some (.ref 81), some (.int (nI k + 1)), some (.int (nI (b.2 k - 48)))]) (st' := []) (I' := I1) (J' := J1) (Ps := []) rfl trivial ?_
          rw [show (nI k + 1) = nI (k + 1) from (eq_add (a := k) (b := 1) rfl rfl)]
          refine Ez.drops [2] (lo' := [some (.ref 81), some (.int (nI (k + 1))), none]) rfl ?_
          exact ih ⟨hi.1, fun j hj => by
            by_cases e : j = k
            · rw [e]; omega
            · exact hi.2 j (by omega)⟩
        · refine Ez.blk B_X5_isLabelSequence_44 (lo' := [some (.ref 81), some (.int (nI k)), some (.int (nI (b.2 k - 48)))]) (st' := [.int 0]) (I' := I1) (J' := J1) (Ps := []) rfl trivial ?_
          exact Ez.zret rfl (Or.inl rfl) (by decide +kernel) (hQ _ _ _ ⟨by rw [zb_f (fun q => by have := (lsq_iff.mp q).2 k hk; omega)], rfl, rfl⟩)
      · rw [show dgt b k = -1 by unfold dgt; rw [if_neg (fun q => hd q.2)]]
        refine Ez.blk B_X5_isLabelSequence_34 (lo' := [some (.ref 81), some (.int (nI k)), some (.int (-1))]) (st' := [.int (-1)]) (I' := I1) (J' := J1) (Ps := []) rfl trivial ?_
        refine Ez.if_lt (off := 8) (tgt := 44) (by decide +kernel) (by decide) (fun h9 => ?_) (fun h9 => (absurd (by decide) h9))
        refine Ez.blk B_X5_isLabelSequence_44 (lo' := [some (.ref 81), some (.int (nI k)), some (.int (-1))]) (st' := [.int 0]) (I' := I1) (J' := J1) (Ps := []) rfl trivial ?_
        exact Ez.zret rfl (Or.inl rfl) (by decide +kernel) (hQ _ _ _ ⟨by rw [zb_f (fun q => by have := (lsq_iff.mp q).2 k hk; omega)], rfl, rfl⟩)
  refine Ez.blk B_X5_isLabelSequence_0 (lo' := [some (.ref 81), none, none]) (st' := [.int 1, .int (I 81 0)]) (I' := I) (J' := J) (Ps := [aO E0 81 5]) rfl o_81 ?_
  refine Ez.n_icmp_lt (off := 12) (tgt := 17) (by decide +kernel) (by decide) (a := b.1) (b := 1) hb.1 rfl (by omega) (by omega) (fun h => ?_) (fun h => ?_)
  · refine Ez.blk B_X5_isLabelSequence_17 (lo' := [some (.ref 81), none, none]) (st' := [.int 0]) (I' := I) (J' := J) (Ps := []) rfl trivial ?_
    exact Ez.zret rfl (Or.inl rfl) (by decide +kernel) (hQ _ _ _ ⟨by rw [zb_f (fun q => by have := (lsq_iff.mp q).1; omega)], rfl, rfl⟩)
  · refine Ez.blk B_X5_isLabelSequence_8 (lo' := [some (.ref 81), none, none]) (st' := [.int 13, .int (I 81 0)]) (I' := I) (J' := J) (Ps := [aO E0 81 5]) rfl o_81 ?_
    refine Ez.n_icmp_le (off := 5) (tgt := 19) (by decide +kernel) (by decide) (a := b.1) (b := 13) hb.1 rfl (by omega) (by omega) (fun h2 => ?_) (fun h2 => ?_)
    · refine Ez.blk B_X5_isLabelSequence_19 (lo' := [some (.ref 81), some (.int 0), none]) (st' := []) (I' := I) (J' := J) (Ps := []) rfl trivial ?_
      exact L1 0 (by omega) ⟨⟨h, h2⟩, fun i hi => by omega⟩
    · refine Ez.blk B_X5_isLabelSequence_17 (lo' := [some (.ref 81), none, none]) (st' := [.int 0]) (I' := I) (J' := J) (Ps := []) rfl trivial ?_
      exact Ez.zret rfl (Or.inl rfl) (by decide +kernel) (hQ _ _ _ ⟨by rw [zb_f (fun q => by have := (lsq_iff.mp q).1; omega)], rfl, rfl⟩)

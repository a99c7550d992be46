/-! WHAT THE CALLS ANSWER: edits -/
def cup (c : Nat → Nat) (k v : Nat) : Nat → Nat := fun j => if j = k then v else c j
theorem cup_eq {c : Nat → Nat} {k v : Nat} : cup c k v k = v := by unfold cup; rw [if_pos rfl]
theorem cup_ne {c : Nat → Nat} {k v j : Nat} (h : j ≠ k) : cup c k v j = c j := by unfold cup; rw [if_neg h]
/-- the chain becomes c': an edit, if that is another chain -/
def ste (T : TS) (c' : Nat → Nat) : TS := if eqc T.1 c' = true then T else (c', psh T.2.1 T.1, T.2.2)
/-- the state is there -/
abbrev isS (T : TS) (x : Int32) : Prop := 0 ≤ x ∧ x < nI (T.1 0)
def stc (c : Nat → Nat) (n D : Nat) : Nat → Nat := fun k => if k = 0 then n else if k = 1 then D else if k < 4 then c k else if k < 10 then 0 else if (k - 10) % 7 = 0 ∧ (k - 10) / 7 < n then D else 0
def f_reset (T : TS) (n D : Int32) : Int32 × TS := if (1 ≤ n ∧ n ≤ 6) ∧ (1 ≤ D ∧ D ≤ 12) then (nI (T.1 0), (stc T.1 n.toNatClampNeg D.toNatClampNeg, (0, T.2.1.2), T.2.2)) else (-1, T)
def f_setLabel (T : TS) (x y : Int32) : Int32 × TS := if isS T x then (if 0 ≤ y ∧ y ≤ 3 then (nI (T.1 (4 + x.toNatClampNeg)), ste T (cup T.1 (4 + x.toNatClampNeg) y.toNatClampNeg)) else (-1, T)) else (-2, T)
def f_label (T : TS) (x : Int32) : Int32 × TS := if isS T x then (nI (T.1 (4 + x.toNatClampNeg)), T) else (-2, T)
def mvw (c : Nat → Nat) (s f t a : Nat) : Nat → Nat := cup (cup c (10 + 6 * s + f) (c (10 + 6 * s + f) - a)) (10 + 6 * s + t) (cup c (10 + 6 * s + f) (c (10 + 6 * s + f) - a) (10 + 6 * s + t) + a)
def f_moveWeight (T : TS) (x y z a : Int32) : Int32 × TS := if isS T x ∧ isS T y ∧ isS T z then (if 0 ≤ a ∧ a ≤ 12 then (if a ≤ nI (T.1 (10 + 6 * x.toNatClampNeg + y.toNatClampNeg)) then (nI (mvw T.1 x.toNatClampNeg y.toNatClampNeg z.toNatClampNeg a.toNatClampNeg (10 + 6 * x.toNatClampNeg + z.toNatClampNeg)), ste T (mvw T.1 x.toNatClampNeg y.toNatClampNeg z.toNatClampNeg a.toNatClampNeg)) else (-3, T)) else (-1, T)) else (-2, T)
def f_weight (T : TS) (x y : Int32) : Int32 × TS := if isS T x ∧ isS T y then (nI (T.1 (10 + 6 * x.toNatClampNeg + y.toNatClampNeg)), T) else (-2, T)
def f_setDiscount (T : TS) (p q : Int32) : Int32 × TS := if (1 ≤ q ∧ q ≤ 4) ∧ (0 ≤ p ∧ p ≤ q) then (zb (¬ eqc T.1 (cup (cup T.1 2 p.toNatClampNeg) 3 q.toNatClampNeg) = true), ste T (cup (cup T.1 2 p.toNatClampNeg) 3 q.toNatClampNeg)) else (-1, T)
def f_swapStates (T : TS) (x y : Int32) : Int32 × TS := if isS T x ∧ isS T y then (zb (¬ eqc T.1 (swc T.1 x.toNatClampNeg y.toNatClampNeg) = true), ste T (swc T.1 x.toNatClampNeg y.toNatClampNeg)) else (-2, T)
def f_undo (T : TS) : Int32 × TS := if T.2.1.1 = 0 then (-5, T) else (nI (T.2.1.1 - 1), (T.2.1.2 (T.2.1.1 - 1), (T.2.1.1 - 1, T.2.1.2), T.2.2))
def f_snapshot (T : TS) : Int32 × TS := (nI (T.1 0), (T.1, T.2.1, (1, T.1), T.2.2.2))
def f_restore (T : TS) : Int32 × TS := if T.2.2.1.1 = 0 then (-5, T) else (nI (T.2.2.1.2 0), (T.2.2.1.2, (0, T.2.1.2), T.2.2))
theorem stc_w {c : Nat → Nat} {n D j : Nat} : stc c n D (10 + j) = if j % 7 = 0 ∧ j / 7 < n then D else 0 := by
  unfold stc
  rw [if_neg (by omega), if_neg (by omega), if_neg (by omega), if_neg (by omega), show 10 + j - 10 = j by omega]
theorem stc_l {c : Nat → Nat} {n D j : Nat} (h : j < 6) : stc c n D (4 + j) = 0 := by
  unfold stc
  rw [if_neg (by omega), if_neg (by omega), if_neg (by omega), if_pos (by omega)]
theorem st_of {x : Int32} {n : Nat} (hn : n < 2147483648) (h : 0 ≤ x ∧ x < nI n) : ∃ k, k < n ∧ x = nI k ∧ x.toNatClampNeg = k := by
  obtain ⟨j, hj, e⟩ := nI_of (i32_nlt.mpr h.1)
  have h2 := h.2
  rw [e] at h2
  have hjn := (nI_ltI hj hn).mp h2
  exact ⟨j, hjn, e, by rw [e]; exact nI_clamp hj⟩
theorem in_of {x : Int32} {lo hi : Nat} (hh : hi < 2147483648) (h : nI lo ≤ x ∧ x ≤ nI hi) (hl : lo < 2147483648) : ∃ k, lo ≤ k ∧ k ≤ hi ∧ x = nI k ∧ x.toNatClampNeg = k := by
  have h0 : (0 : Int32) ≤ x := by
    have h1 := h.1
    rw [Int32.le_iff_toInt_le, nI_toInt hl] at h1
    rw [Int32.le_iff_toInt_le]
    show (0 : Int) ≤ _
    omega
  obtain ⟨j, hj, e⟩ := nI_of (i32_nlt.mpr h0)
  have h2 := h.2
  have h1 := h.1
  rw [e] at h2 h1
  exact ⟨j, (nI_leI hl hj).mp h1, (nI_leI hj hh).mp h2, e, by rw [e]; exact nI_clamp hj⟩
theorem isS_n {T : TS} {k : Nat} (h : k < T.1 0) (hn : T.1 0 ≤ 6) : isS T (nI k) := ⟨nI_pos' (by omega), nI_lt h (by omega)⟩
theorem in_n {k lo hi : Nat} (h : lo ≤ k) (h2 : k ≤ hi) (hh : hi < 2147483648) : nI lo ≤ nI k ∧ nI k ≤ nI hi := ⟨nI_le h (by omega), nI_le h2 hh⟩
theorem eqc_refl {c e : Nat → Nat} (h : ∀ k, k < 46 → c k = e k) : eqc c e = true := eqc_iff.mpr h
theorem ste_same {T : TS} {c' : Nat → Nat} (h : ∀ k, k < 46 → T.1 k = c' k) : ste T c' = T := by unfold ste; rw [if_pos (eqc_iff.mpr h)]
theorem cup_same {c : Nat → Nat} {k v : Nat} (h : c k = v) (j : Nat) : c j = cup c k v j := by
  by_cases e : j = k
  · rw [e, cup_eq]; exact h
  · rw [cup_ne e]
theorem eqc_comm {c e : Nat → Nat} : eqc c e = true ↔ eqc e c = true := by
  rw [eqc_iff, eqc_iff]
  exact ⟨fun h k hk => (h k hk).symm, fun h k hk => (h k hk).symm⟩
theorem ste_new {T : TS} {c' : Nat → Nat} (k : Nat) (hk : k < 46) (h : T.1 k ≠ c' k) : ste T c' = (c', psh T.2.1 T.1, T.2.2) := by unfold ste; rw [if_neg (fun q => h (eqc_iff.mp q k hk))]
/-- a change of the chain and of the edits alone -/
theorem CP_ed {T : TS} {I I' : aI} {J : aJ} {c' : Nat → Nat} {ed' : Nat × (Nat → Nat → Nat)} (h : CP T I J) (h1 : Ch I' 2 c') (h2 : CEd ed' I') (hf : ∀ q, ¬ (2 ≤ q ∧ q ≤ 4) → ¬ (q = 11 ∨ (13 ≤ q ∧ q ≤ 42)) → ¬ (5 ≤ q ∧ q ≤ 7) → I' q = I q) : CP (c', ed', T.2.2) I' J := ⟨h1, h2, CSn_fr h.2.2.1 (hf _ (by omega) (by omega) (by omega)) (fun b _ _ => hf b (by omega) (by omega) (by omega)), CBuf_fr h.2.2.2.1 (hf _ (by omega) (by omega) (by omega)) (hf _ (by omega) (by omega) (by omega)), CSl_fr h.2.2.2.2.1 (hf _ (by omega) (by omega) (by omega)) (hf _ (by omega) (by omega) (by omega)) (fun _ _ _ => rfl), CCa_fr h.2.2.2.2.2 (fun b _ _ => hf b (by omega) (by omega) (by omega)) (fun _ _ _ => rfl)⟩
/-! THE CLASS: chain and edits -/
theorem c_states (d : Nat) (I : aI) (J : aJ) (T : TS) (W : WT T) (hP : CP T I J) : Sp m_X9_states (d + 1) [.ref 1] E0 I J (fun r I' J' => r = some (.int (nI (T.1 0))) ∧ CP T I' J' ∧ Fr9 I I' J J') := by
  refine Sp.of (lo := [some (.ref 1)]) rfl (fun Q hQ => ?_)
  refine Ez.blk B_X9_states_0 (lo' := [some (.ref 1)]) (st' := [.int (I 2 0)]) (I' := I) (J' := J) (Ps := [aO E0 1 9 ∧ E0.2.2 1 0 ≠ 0, aO E0 2 1]) rfl ⟨r_1_0, o_2⟩ ?_
  rw [hP.1.1 0 (by decide)]
  exact Ez.iret rfl (by decide +kernel) (hQ _ _ _ ⟨rfl, hP, fun _ _ => ⟨rfl, rfl⟩⟩)
theorem c_resolution (d : Nat) (I : aI) (J : aJ) (T : TS) (W : WT T) (hP : CP T I J) : Sp m_X9_resolution (d + 1) [.ref 1] E0 I J (fun r I' J' => r = some (.int (nI (T.1 1))) ∧ CP T I' J' ∧ Fr9 I I' J J') := by
  refine Sp.of (lo := [some (.ref 1)]) rfl (fun Q hQ => ?_)
  refine Ez.blk B_X9_resolution_0 (lo' := [some (.ref 1)]) (st' := [.int (I 2 1)]) (I' := I) (J' := J) (Ps := [aO E0 1 9 ∧ E0.2.2 1 0 ≠ 0, aO E0 2 1]) rfl ⟨r_1_0, o_2⟩ ?_
  rw [hP.1.1 1 (by decide)]
  exact Ez.iret rfl (by decide +kernel) (hQ _ _ _ ⟨rfl, hP, fun _ _ => ⟨rfl, rfl⟩⟩)
theorem c_editCount (d : Nat) (I : aI) (J : aJ) (T : TS) (W : WT T) (hP : CP T I J) : Sp m_X9_editCount (d + 1) [.ref 1] E0 I J (fun r I' J' => r = some (.int (nI T.2.1.1)) ∧ CP T I' J' ∧ Fr9 I I' J J') := by
  refine Sp.of (lo := [some (.ref 1)]) rfl (fun Q hQ => ?_)
  refine Ez.blk B_X9_editCount_0 (lo' := [some (.ref 1)]) (st' := [.int (I 11 0)]) (I' := I) (J' := J) (Ps := [aO E0 1 9 ∧ E0.2.2 1 4 ≠ 0, aO E0 11 4]) rfl ⟨r_1_4, o_11⟩ ?_
  rw [hP.2.1.1]
  exact Ez.iret rfl (by decide +kernel) (hQ _ _ _ ⟨rfl, hP, fun _ _ => ⟨rfl, rfl⟩⟩)
theorem c_label (d : Nat) (I : aI) (J : aJ) (T : TS) (W : WT T) (hP : CP T I J) (x : Int32) : Sp m_X9_label (d + 2) [.ref 1, .int x] E0 I J (fun r I' J' => r = some (.int (f_label T x).1) ∧ CP (f_label T x).2 I' J' ∧ Fr9 I I' J J') := by
  refine Sp.of (lo := [some (.ref 1), some (.int x)]) rfl (fun Q hQ => ?_)
  have w1 := W.1.1
  have w2 := W.1.2.1
  have wb := Wc_12 W.1
  refine Ez.blk B_X9_label_0 (lo' := [some (.ref 1), some (.int x)]) (st' := [.int x, .ref 2]) (I' := I) (J' := J) (Ps := [aO E0 1 9 ∧ E0.2.2 1 0 ≠ 0]) rfl r_1_0 ?_
  refine Ez.callV (As := [.int x]) (b := 2) (rest := []) kn_X1_has ml_9_95 im_X1_has se_X1_has rfl (by decide +kernel) rfl rfl (Nat.le_of_ble_eq_true rfl) (Nat.le_of_ble_eq_true rfl) o_2 (s_has _ E0 I J 2 (x) o_2) (fun r I1 J1 hq => ?_)
  obtain ⟨rfl, rfl, rfl⟩ := hq
  rw [hP.1.1 0 (by decide)]
  refine Ez.z_if_ne (off := 6) (tgt := 14) (by decide +kernel) (by decide) (fun h => ?_) (fun h => ?_)
  · obtain ⟨k, hk, rfl, hkc⟩ := st_of (by omega) h
    refine Ez.blk B_X9_label_14 (lo' := [some (.ref 1), some (.int (nI k))]) (st' := [.int (I1 3 ((nI k).toNatClampNeg))]) (I' := I1) (J' := J1) (Ps := [aO E0 1 9 ∧ E0.2.2 1 0 ≠ 0, aO E0 2 1 ∧ E0.2.2 2 4 ≠ 0, aAr E0 1 3 (nI k)]) rfl ⟨r_1_0, r_2_4, (a_3 (vin (n := k) rfl (by omega) (by decide)))⟩ ?_
    rw [cln (x := nI k) (n := k) rfl (by omega)]
    rw [hP.1.2.1 k (by omega)]
    exact Ez.iret rfl (by decide +kernel) (hQ _ _ _ (by unfold f_label; rw [if_pos h, hkc]; exact ⟨rfl, hP, fun _ _ => ⟨rfl, rfl⟩⟩))
  · refine Ez.blk B_X9_label_11 (lo' := [some (.ref 1), some (.int x)]) (st' := [.int (-2)]) (I' := I1) (J' := J1) (Ps := []) rfl trivial ?_
    exact Ez.iret rfl (by decide +kernel) (hQ _ _ _ (by unfold f_label; rw [if_neg h]; exact ⟨rfl, hP, fun _ _ => ⟨rfl, rfl⟩⟩))
theorem c_weight (d : Nat) (I : aI) (J : aJ) (T : TS) (W : WT T) (hP : CP T I J) (x y : Int32) : Sp m_X9_weight (d + 2) [.ref 1, .int x, .int y] E0 I J (fun r I' J' => r = some (.int (f_weight T x y).1) ∧ CP (f_weight T x y).2 I' J' ∧ Fr9 I I' J J') := by
  refine Sp.of (lo := [some (.ref 1), some (.int x), some (.int y)]) rfl (fun Q hQ => ?_)
  have w1 := W.1.1
  have w2 := W.1.2.1
  have wb := Wc_12 W.1
  refine Ez.blk B_X9_weight_0 (lo' := [some (.ref 1), some (.int x), some (.int y)]) (st' := [.int x, .ref 2]) (I' := I) (J' := J) (Ps := [aO E0 1 9 ∧ E0.2.2 1 0 ≠ 0]) rfl r_1_0 ?_
  refine Ez.callV (As := [.int x]) (b := 2) (rest := []) kn_X1_has ml_9_95 im_X1_has se_X1_has rfl (by decide +kernel) rfl rfl (Nat.le_of_ble_eq_true rfl) (Nat.le_of_ble_eq_true rfl) o_2 (s_has _ E0 I J 2 (x) o_2) (fun r I1 J1 hq => ?_)
  obtain ⟨rfl, rfl, rfl⟩ := hq
  rw [hP.1.1 0 (by decide)]
  refine Ez.z_if_eq (off := 14) (tgt := 22) (by decide +kernel) (by decide) (fun h => ?_) (fun h => ?_)
  · refine Ez.blk B_X9_weight_22 (lo' := [some (.ref 1), some (.int x), some (.int y)]) (st' := [.int (-2)]) (I' := I1) (J' := J1) (Ps := []) rfl trivial ?_
    exact Ez.iret rfl (by decide +kernel) (hQ _ _ _ (by unfold f_weight; rw [if_neg (fun q => h q.1)]; exact ⟨rfl, hP, fun _ _ => ⟨rfl, rfl⟩⟩))
  · refine Ez.blk B_X9_weight_11 (lo' := [some (.ref 1), some (.int x), some (.int y)]) (st' := [.int y, .ref 2]) (I' := I1) (J' := J1) (Ps := [aO E0 1 9 ∧ E0.2.2 1 0 ≠ 0]) rfl r_1_0 ?_
    refine Ez.callV (As := [.int y]) (b := 2) (rest := []) kn_X1_has ml_9_95 im_X1_has se_X1_has rfl (by decide +kernel) rfl rfl (Nat.le_of_ble_eq_true rfl) (Nat.le_of_ble_eq_true rfl) o_2 (s_has _ E0 I1 J1 2 (y) o_2) (fun r I2 J2 hq => ?_)
    obtain ⟨rfl, rfl, rfl⟩ := hq
    rw [hP.1.1 0 (by decide)]
    refine Ez.z_if_ne (off := 6) (tgt := 25) (by decide +kernel) (by decide) (fun h2 => ?_) (fun h2 => ?_)
    · obtain ⟨k, hk, rfl, hkc⟩ := st_of (by omega) h
      obtain ⟨j, hj, rfl, hjc⟩ := st_of (by omega) h2
      refine Ez.blk B_X9_weight_25 (lo' := [some (.ref 1), some (.int (nI k)), some (.int (nI j))]) (st' := [.int (I2 4 (((nI k * 6) + nI j).toNatClampNeg))]) (I' := I2) (J' := J2) (Ps := [aO E0 1 9 ∧ E0.2.2 1 0 ≠ 0, aO E0 2 1 ∧ E0.2.2 2 5 ≠ 0, aAr E0 1 4 ((nI k * 6) + nI j)]) rfl ⟨r_1_0, r_2_5, (a_4 (vin (n := (k * 6 + j)) (eq_add (a := (k * 6)) (b := j) (eq_mul (a := k) (b := 6) rfl rfl) rfl) (by omega) (by decide)))⟩ ?_
      rw [cln (x := ((nI k * 6) + nI j)) (n := (k * 6 + j)) (eq_add (a := (k * 6)) (b := j) (eq_mul (a := k) (b := 6) rfl rfl) rfl) (by omega)]
      rw [hP.1.2.2 (k * 6 + j) (by omega)]
      exact Ez.iret rfl (by decide +kernel) (hQ _ _ _ (by unfold f_weight; rw [if_pos ⟨h, h2⟩, hkc, hjc, show 10 + 6 * k + j = 10 + (k * 6 + j) by omega]; exact ⟨rfl, hP, fun _ _ => ⟨rfl, rfl⟩⟩))
    · refine Ez.blk B_X9_weight_22 (lo' := [some (.ref 1), some (.int x), some (.int y)]) (st' := [.int (-2)]) (I' := I2) (J' := J2) (Ps := []) rfl trivial ?_
      exact Ez.iret rfl (by decide +kernel) (hQ _ _ _ (by unfold f_weight; rw [if_neg (fun q => h2 q.2)]; exact ⟨rfl, hP, fun _ _ => ⟨rfl, rfl⟩⟩))
theorem c_setLabel (d : Nat) (I : aI) (J : aJ) (T : TS) (W : WT T) (hP : CP T I J) (x y : Int32) : Sp m_X9_setLabel (d + 3) [.ref 1, .int x, .int y] E0 I J (fun r I' J' => r = some (.int (f_setLabel T x y).1) ∧ CP (f_setLabel T x y).2 I' J' ∧ Fr9 I I' J J') := by
  refine Sp.of (lo := [some (.ref 1), some (.int x), some (.int y), none]) rfl (fun Q hQ => ?_)
  have w1 := W.1.1
  have w2 := W.1.2.1
  have wb := Wc_12 W.1
  refine Ez.blk B_X9_setLabel_0 (lo' := [some (.ref 1), some (.int x), some (.int y), none]) (st' := [.int x, .ref 2]) (I' := I) (J' := J) (Ps := [aO E0 1 9 ∧ E0.2.2 1 0 ≠ 0]) rfl r_1_0 ?_
  refine Ez.callV (As := [.int x]) (b := 2) (rest := []) kn_X1_has ml_9_95 im_X1_has se_X1_has rfl (by decide +kernel) rfl rfl (Nat.le_of_ble_eq_true rfl) (Nat.le_of_ble_eq_true rfl) o_2 (s_has _ E0 I J 2 (x) o_2) (fun r I1 J1 hq => ?_)
  obtain ⟨rfl, rfl, rfl⟩ := hq
  rw [hP.1.1 0 (by decide)]
  refine Ez.z_if_ne (off := 6) (tgt := 14) (by decide +kernel) (by decide) (fun h => ?_) (fun h => ?_)
  · obtain ⟨k, hk, rfl, hkc⟩ := st_of (by omega) h
    refine Ez.blk B_X9_setLabel_14 (lo' := [some (.ref 1), some (.int (nI k)), some (.int y), none]) (st' := [.int 3, .int 0, .int y]) (I' := I1) (J' := J1) (Ps := []) rfl trivial ?_
    refine Ez.callS (As := [.int y, .int 0, .int 3]) (rest := []) kn_X9_isWithin ml_9_77 sm_X9_isWithin (by decide +kernel) rfl rfl (Nat.le_of_ble_eq_true rfl) (Nat.le_of_ble_eq_true rfl) (s_isWithin _ E0 I1 J1 y 0 3) (fun r I2 J2 hq => ?_)
    obtain ⟨rfl, rfl, rfl⟩ := hq
    refine Ez.z_if_ne (off := 5) (tgt := 25) (by decide +kernel) (by decide) (fun h2 => ?_) (fun h2 => ?_)
    · obtain ⟨l, -, hl, rfl, hlc⟩ := in_of (lo := 0) (hi := 3) (by omega) h2 (by omega)
      refine Ez.blk B_X9_setLabel_25 (lo' := [some (.ref 1), some (.int (nI k)), some (.int (nI l)), some (.int (I2 3 ((nI k).toNatClampNeg)))]) (st' := [.int (nI l), .int (I2 3 ((nI k).toNatClampNeg))]) (I' := I2) (J' := J2) (Ps := [aO E0 1 9 ∧ E0.2.2 1 0 ≠ 0, aO E0 2 1 ∧ E0.2.2 2 4 ≠ 0, aAr E0 1 3 (nI k)]) rfl ⟨r_1_0, r_2_4, (a_3 (vin (n := k) rfl (by omega) (by decide)))⟩ ?_
      rw [cln (x := nI k) (n := k) rfl (by omega)]
      rw [hP.1.2.1 k (by omega)]
      have wl := wb (4 + k) (by omega)
      have ev : f_setLabel T (nI k) (nI l) = (nI (T.1 (4 + k)), ste T (cup T.1 (4 + k) l)) := by unfold f_setLabel; rw [if_pos h, if_pos h2, hkc, hlc]
      refine Ez.n_icmp_eq (off := 24) (tgt := 61) (by decide +kernel) (by decide) (a := (T.1 (4 + k))) (b := l) rfl rfl (by omega) (by omega) (fun h3 => ?_) (fun h3 => ?_)
      · refine Ez.blk B_X9_setLabel_61 (lo' := [some (.ref 1), some (.int (nI k)), some (.int (nI l)), some (.int (nI (T.1 (4 + k))))]) (st' := [.int (nI (T.1 (4 + k)))]) (I' := I2) (J' := J2) (Ps := []) rfl trivial ?_
        exact Ez.iret rfl (by decide +kernel) (hQ _ _ _ (by rw [ev, ste_same (fun j _ => cup_same h3 j)]; exact ⟨rfl, hP, fun _ _ => ⟨rfl, rfl⟩⟩))
      · refine Ez.blk B_X9_setLabel_40 (lo' := [some (.ref 1), some (.int (nI k)), some (.int (nI l)), some (.int (nI (T.1 (4 + k))))]) (st' := [.ref 2, .ref 11]) (I' := I2) (J' := J2) (Ps := [aO E0 1 9 ∧ E0.2.2 1 4 ≠ 0, aO E0 1 9 ∧ E0.2.2 1 0 ≠ 0]) rfl ⟨r_1_4, r_1_0⟩ ?_
        refine Ez.callV (As := [.ref 2]) (b := 11) (rest := []) kn_X4_remember ml_9_103 im_X4_remember se_X4_remember rfl (by decide +kernel) rfl rfl (Nat.le_of_ble_eq_true rfl) (Nat.le_of_ble_eq_true rfl) o_11 (s_remember _ I2 J2 T.2.1 T.1 W.2.1.1 hP.2.1 hP.1) (fun r I3 J3 hq => ?_)
        obtain ⟨rfl, rfl, k1, k2⟩ := hq
        refine Ez.blk B_X9_setLabel_51 (lo' := [some (.ref 1), some (.int (nI k)), some (.int (nI l)), some (.int (nI (T.1 (4 + k))))]) (st' := [.int (nI (T.1 (4 + k)))]) (I' := (aUp I3 3 ((nI k).toNatClampNeg) (nI l))) (J' := J3) (Ps := [aO E0 1 9 ∧ E0.2.2 1 0 ≠ 0, aO E0 2 1 ∧ E0.2.2 2 4 ≠ 0, aAr E0 1 3 (nI k)]) rfl ⟨r_1_0, r_2_4, (a_3 (vin (n := k) rfl (by omega) (by decide)))⟩ ?_
        rw [cln (x := nI k) (n := k) rfl (by omega)]
        generalize hI4 : (aUp I3 3 k (nI l)) = I4
        exact Ez.iret rfl (by decide +kernel) (hQ _ _ _ (by
          rw [ev, ste_new (4 + k) (by omega) (by rw [cup_eq]; exact h3)]
          have g : ∀ q, q ≠ 3 → I4 q = I3 q := fun q hq => by rw [← hI4, aUp_ne hq]
          refine ⟨rfl, CP_ed hP ⟨fun j hj => ?_, fun j hj => ?_, fun j hj => ?_⟩ (CEd_fr k1 (fun b hb => g b (by omega))) (fun q h0 h1 h5 => by rw [g q (by omega), k2 q h1]), fun b hb => ⟨by rw [g b (by omega), k2 b (by omega)], rfl⟩⟩
          · rw [g 2 (by omega), k2 2 (by omega), cup_ne (by omega)]; exact hP.1.1 j hj
          · by_cases e : j = k
            · rw [e, cup_eq, ← hI4, aUp_eq]
            · rw [cup_ne (by omega), ← hI4, aUp_nk e, k2 3 (by omega)]; exact hP.1.2.1 j hj
          · rw [g 4 (by omega), k2 4 (by omega), cup_ne (by omega)]; exact hP.1.2.2 j hj))
    · refine Ez.blk B_X9_setLabel_23 (lo' := [some (.ref 1), some (.int (nI k)), some (.int y), none]) (st' := [.int (-1)]) (I' := I2) (J' := J2) (Ps := []) rfl trivial ?_
      exact Ez.iret rfl (by decide +kernel) (hQ _ _ _ (by unfold f_setLabel; rw [if_pos h, if_neg h2]; exact ⟨rfl, hP, fun _ _ => ⟨rfl, rfl⟩⟩))
  · refine Ez.blk B_X9_setLabel_11 (lo' := [some (.ref 1), some (.int x), some (.int y), none]) (st' := [.int (-2)]) (I' := I1) (J' := J1) (Ps := []) rfl trivial ?_
    exact Ez.iret rfl (by decide +kernel) (hQ _ _ _ (by unfold f_setLabel; rw [if_neg h]; exact ⟨rfl, hP, fun _ _ => ⟨rfl, rfl⟩⟩))
theorem c_moveWeight (d : Nat) (I : aI) (J : aJ) (T : TS) (W : WT T) (hP : CP T I J) (x y z a : Int32) : Sp m_X9_moveWeight (d + 3) [.ref 1, .int x, .int y, .int z, .int a] E0 I J (fun r I' J' => r = some (.int (f_moveWeight T x y z a).1) ∧ CP (f_moveWeight T x y z a).2 I' J' ∧ Fr9 I I' J J') := by
  refine Sp.of (lo := [some (.ref 1), some (.int x), some (.int y), some (.int z), some (.int a), none, none]) rfl (fun Q hQ => ?_)
  have w1 := W.1.1
  have w2 := W.1.2.1
  have wb := Wc_12 W.1
  refine Ez.blk B_X9_moveWeight_0 (lo' := [some (.ref 1), some (.int x), some (.int y), some (.int z), some (.int a), none, none]) (st' := [.int x, .ref 2]) (I' := I) (J' := J) (Ps := [aO E0 1 9 ∧ E0.2.2 1 0 ≠ 0]) rfl r_1_0 ?_
  refine Ez.callV (As := [.int x]) (b := 2) (rest := []) kn_X1_has ml_9_95 im_X1_has se_X1_has rfl (by decide +kernel) rfl rfl (Nat.le_of_ble_eq_true rfl) (Nat.le_of_ble_eq_true rfl) o_2 (s_has _ E0 I J 2 (x) o_2) (fun r I1 J1 hq => ?_)
  obtain ⟨rfl, rfl, rfl⟩ := hq
  rw [hP.1.1 0 (by decide)]
  refine Ez.z_if_eq (off := 25) (tgt := 33) (by decide +kernel) (by decide) (fun h => ?_) (fun h => ?_)
  · refine Ez.blk B_X9_moveWeight_33 (lo' := [some (.ref 1), some (.int x), some (.int y), some (.int z), some (.int a), none, none]) (st' := [.int (-2)]) (I' := I1) (J' := J1) (Ps := []) rfl trivial ?_
    exact Ez.iret rfl (by decide +kernel) (hQ _ _ _ (by unfold f_moveWeight; rw [if_neg (fun q => h q.1)]; exact ⟨rfl, hP, fun _ _ => ⟨rfl, rfl⟩⟩))
  · refine Ez.blk B_X9_moveWeight_11 (lo' := [some (.ref 1), some (.int x), some (.int y), some (.int z), some (.int a), none, none]) (st' := [.int y, .ref 2]) (I' := I1) (J' := J1) (Ps := [aO E0 1 9 ∧ E0.2.2 1 0 ≠ 0]) rfl r_1_0 ?_
    refine Ez.callV (As := [.int y]) (b := 2) (rest := []) kn_X1_has ml_9_95 im_X1_has se_X1_has rfl (by decide +kernel) rfl rfl (Nat.le_of_ble_eq_true rfl) (Nat.le_of_ble_eq_true rfl) o_2 (s_has _ E0 I1 J1 2 (y) o_2) (fun r I2 J2 hq => ?_)
    obtain ⟨rfl, rfl, rfl⟩ := hq
    rw [hP.1.1 0 (by decide)]
    refine Ez.z_if_eq (off := 14) (tgt := 33) (by decide +kernel) (by decide) (fun h2 => ?_) (fun h2 => ?_)
    · refine Ez.blk B_X9_moveWeight_33 (lo' := [some (.ref 1), some (.int x), some (.int y), some (.int z), some (.int a), none, none]) (st' := [.int (-2)]) (I' := I2) (J' := J2) (Ps := []) rfl trivial ?_
      exact Ez.iret rfl (by decide +kernel) (hQ _ _ _ (by unfold f_moveWeight; rw [if_neg (fun q => h2 q.2.1)]; exact ⟨rfl, hP, fun _ _ => ⟨rfl, rfl⟩⟩))
    · refine Ez.blk B_X9_moveWeight_22 (lo' := [some (.ref 1), some (.int x), some (.int y), some (.int z), some (.int a), none, none]) (st' := [.int z, .ref 2]) (I' := I2) (J' := J2) (Ps := [aO E0 1 9 ∧ E0.2.2 1 0 ≠ 0]) rfl r_1_0 ?_
      refine Ez.callV (As := [.int z]) (b := 2) (rest := []) kn_X1_has ml_9_95 im_X1_has se_X1_has rfl (by decide +kernel) rfl rfl (Nat.le_of_ble_eq_true rfl) (Nat.le_of_ble_eq_true rfl) o_2 (s_has _ E0 I2 J2 2 (z) o_2) (fun r I3 J3 hq => ?_)
      obtain ⟨rfl, rfl, rfl⟩ := hq
      rw [hP.1.1 0 (by decide)]
      refine Ez.z_if_ne (off := 6) (tgt := 36) (by decide +kernel) (by decide) (fun h3 => ?_) (fun h3 => ?_)
      · refine Ez.blk B_X9_moveWeight_36 (lo' := [some (.ref 1), some (.int x), some (.int y), some (.int z), some (.int a), none, none]) (st' := [.int 12, .int 0, .int a]) (I' := I3) (J' := J3) (Ps := []) rfl trivial ?_
        refine Ez.callS (As := [.int a, .int 0, .int 12]) (rest := []) kn_X9_isWithin ml_9_77 sm_X9_isWithin (by decide +kernel) rfl rfl (Nat.le_of_ble_eq_true rfl) (Nat.le_of_ble_eq_true rfl) (s_isWithin _ E0 I3 J3 a 0 12) (fun r I4 J4 hq => ?_)
        obtain ⟨rfl, rfl, rfl⟩ := hq
        refine Ez.z_if_ne (off := 5) (tgt := 49) (by decide +kernel) (by decide) (fun h4 => ?_) (fun h4 => ?_)
        · obtain ⟨k, hk, rfl, hkc⟩ := st_of (by omega) h
          obtain ⟨f, hf, rfl, hfc⟩ := st_of (by omega) h2
          obtain ⟨g, hg, rfl, hgc⟩ := st_of (by omega) h3
          obtain ⟨am, -, ha, rfl, hac⟩ := in_of (lo := 0) (hi := 12) (by omega) h4 (by omega)
          refine Ez.blk B_X9_moveWeight_49 (lo' := [some (.ref 1), some (.int (nI k)), some (.int (nI f)), some (.int (nI g)), some (.int (nI am)), some (.int ((nI k * 6) + nI f)), some (.int ((nI k * 6) + nI g))]) (st' := [.int (I4 4 (((nI k * 6) + nI f).toNatClampNeg)), .int (nI am)]) (I' := I4) (J' := J4) (Ps := [aO E0 1 9 ∧ E0.2.2 1 0 ≠ 0, aO E0 2 1 ∧ E0.2.2 2 5 ≠ 0, aAr E0 1 4 ((nI k * 6) + nI f)]) rfl ⟨r_1_0, r_2_5, (a_4 (vin (n := (k * 6 + f)) (eq_add (a := (k * 6)) (b := f) (eq_mul (a := k) (b := 6) rfl rfl) rfl) (by omega) (by decide)))⟩ ?_
          rw [cln (x := ((nI k * 6) + nI f)) (n := (k * 6 + f)) (eq_add (a := (k * 6)) (b := f) (eq_mul (a := k) (b := 6) rfl rfl) rfl) (by omega)]
          rw [show ((nI k * 6) + nI f) = nI (k * 6 + f) from (eq_add (a := (k * 6)) (b := f) (eq_mul (a := k) (b := 6) rfl rfl) rfl)]
          rw [show ((nI k * 6) + nI g) = nI (k * 6 + g) from (eq_add (a := (k * 6)) (b := g) (eq_mul (a := k) (b := 6) rfl rfl) rfl)]
          have wv := wb (10 + (k * 6 + f)) (by omega)
          have wv2 := wb (10 + (k * 6 + g)) (by omega)
          have ei : 10 + 6 * k + f = 10 + (k * 6 + f) := by omega
          have ej : 10 + 6 * k + g = 10 + (k * 6 + g) := by omega
          rw [hP.1.2.2 (k * 6 + f) (by omega)]
          refine Ez.n_icmp_le (off := 6) (tgt := 83) (by decide +kernel) (by decide) (a := am) (b := (T.1 (10 + (k * 6 + f)))) rfl rfl (by omega) (by omega) (fun h5 => ?_) (fun h5 => ?_)
          · have ev : f_moveWeight T (nI k) (nI f) (nI g) (nI am) = (nI (mvw T.1 k f g am (10 + 6 * k + g)), ste T (mvw T.1 k f g am)) := by unfold f_moveWeight; rw [if_pos ⟨h, h2, h3⟩, if_pos h4, hkc, hfc, hgc, hac, if_pos (by rw [ei]; exact nI_le h5 (by omega))]
            have same : f = g ∨ am = 0 → ∀ j, T.1 j = mvw T.1 k f g am j := by
              intro hq j
              unfold mvw
              by_cases e1 : j = 10 + 6 * k + g
              · rw [e1, cup_eq]
                by_cases e2 : g = f
                · rw [e2, cup_eq, ei]; omega
                · rw [cup_ne (by omega)]; omega
              · rw [cup_ne e1]
                by_cases e2 : j = 10 + 6 * k + f
                · rw [e2, cup_eq]; omega
                · rw [cup_ne e2]
            refine Ez.blk B_X9_moveWeight_83 (lo' := [some (.ref 1), some (.int (nI k)), some (.int (nI f)), some (.int (nI g)), some (.int (nI am)), some (.int (nI (k * 6 + f))), some (.int (nI (k * 6 + g)))]) (st' := [.int (nI g), .int (nI f)]) (I' := I4) (J' := J4) (Ps := []) rfl trivial ?_
            refine Ez.n_icmp_eq (off := 49) (tgt := 134) (by decide +kernel) (by decide) (a := f) (b := g) rfl rfl (by omega) (by omega) (fun h6 => ?_) (fun h6 => ?_)
            · refine Ez.blk B_X9_moveWeight_134 (lo' := [some (.ref 1), some (.int (nI k)), some (.int (nI f)), some (.int (nI g)), some (.int (nI am)), some (.int (nI (k * 6 + f))), some (.int (nI (k * 6 + g)))]) (st' := [.int (I4 4 ((nI (k * 6 + g)).toNatClampNeg))]) (I' := I4) (J' := J4) (Ps := [aO E0 1 9 ∧ E0.2.2 1 0 ≠ 0, aO E0 2 1 ∧ E0.2.2 2 5 ≠ 0, aAr E0 1 4 (nI (k * 6 + g))]) rfl ⟨r_1_0, r_2_5, (a_4 (vin (n := (k * 6 + g)) rfl (by omega) (by decide)))⟩ ?_
              rw [cln (x := nI (k * 6 + g)) (n := (k * 6 + g)) rfl (by omega)]
              rw [hP.1.2.2 (k * 6 + g) (by omega)]
              exact Ez.iret rfl (by decide +kernel) (hQ _ _ _ (by rw [ev, ste_same (fun j _ => same (Or.inl h6) j), ← same (Or.inl h6), ej]; exact ⟨rfl, hP, fun _ _ => ⟨rfl, rfl⟩⟩))
            · refine Ez.blk B_X9_moveWeight_88 (lo' := [some (.ref 1), some (.int (nI k)), some (.int (nI f)), some (.int (nI g)), some (.int (nI am)), some (.int (nI (k * 6 + f))), some (.int (nI (k * 6 + g)))]) (st' := [.int (nI am)]) (I' := I4) (J' := J4) (Ps := []) rfl trivial ?_
              refine Ez.n_if_le (off := 44) (tgt := 134) (by decide +kernel) (by decide) (a := am) rfl (by omega) (fun h7 => ?_) (fun h7 => ?_)
              · refine Ez.blk B_X9_moveWeight_134 (lo' := [some (.ref 1), some (.int (nI k)), some (.int (nI f)), some (.int (nI g)), some (.int (nI am)), some (.int (nI (k * 6 + f))), some (.int (nI (k * 6 + g)))]) (st' := [.int (I4 4 ((nI (k * 6 + g)).toNatClampNeg))]) (I' := I4) (J' := J4) (Ps := [aO E0 1 9 ∧ E0.2.2 1 0 ≠ 0, aO E0 2 1 ∧ E0.2.2 2 5 ≠ 0, aAr E0 1 4 (nI (k * 6 + g))]) rfl ⟨r_1_0, r_2_5, (a_4 (vin (n := (k * 6 + g)) rfl (by omega) (by decide)))⟩ ?_
                rw [cln (x := nI (k * 6 + g)) (n := (k * 6 + g)) rfl (by omega)]
                rw [hP.1.2.2 (k * 6 + g) (by omega)]
                exact Ez.iret rfl (by decide +kernel) (hQ _ _ _ (by rw [ev, ste_same (fun j _ => same (Or.inr h7) j), ← same (Or.inr h7), ej]; exact ⟨rfl, hP, fun _ _ => ⟨rfl, rfl⟩⟩))
              · refine Ez.blk B_X9_moveWeight_93 (lo' := [some (.ref 1), some (.int (nI k)), some (.int (nI f)), some (.int (nI g)), some (.int (nI am)), some (.int (nI (k * 6 + f))), some (.int (nI (k * 6 + g)))]) (st' := [.ref 2, .ref 11]) (I' := I4) (J' := J4) (Ps := [aO E0 1 9 ∧ E0.2.2 1 4 ≠ 0, aO E0 1 9 ∧ E0.2.2 1 0 ≠ 0]) rfl ⟨r_1_4, r_1_0⟩ ?_
                refine Ez.callV (As := [.ref 2]) (b := 11) (rest := []) kn_X4_remember ml_9_103 im_X4_remember se_X4_remember rfl (by decide +kernel) rfl rfl (Nat.le_of_ble_eq_true rfl) (Nat.le_of_ble_eq_true rfl) o_11 (s_remember _ I4 J4 T.2.1 T.1 W.2.1.1 hP.2.1 hP.1) (fun r I5 J5 hq => ?_)
                obtain ⟨rfl, rfl, k1, k2⟩ := hq
                have r1 : I5 4 (k * 6 + f) = nI (T.1 (10 + (k * 6 + f))) := by rw [k2 4 (by omega)]; exact hP.1.2.2 _ (by omega)
                have r2 : I5 4 (k * 6 + g) = nI (T.1 (10 + (k * 6 + g))) := by rw [k2 4 (by omega)]; exact hP.1.2.2 _ (by omega)
                refine Ez.blk B_X9_moveWeight_104 (lo' := [some (.ref 1), some (.int (nI k)), some (.int (nI f)), some (.int (nI g)), some (.int (nI am)), some (.int (nI (k * 6 + f))), some (.int (nI (k * 6 + g)))]) (st' := [.int ((aUp (aUp I5 4 ((nI (k * 6 + f)).toNatClampNeg) (I5 4 ((nI (k * 6 + f)).toNatClampNeg) - nI am)) 4 ((nI (k * 6 + g)).toNatClampNeg) ((aUp I5 4 ((nI (k * 6 + f)).toNatClampNeg) (I5 4 ((nI (k * 6 + f)).toNatClampNeg) - nI am)) 4 ((nI (k * 6 + g)).toNatClampNeg) + nI am)) 4 ((nI (k * 6 + g)).toNatClampNeg))]) (I' := (aUp (aUp I5 4 ((nI (k * 6 + f)).toNatClampNeg) (I5 4 ((nI (k * 6 + f)).toNatClampNeg) - nI am)) 4 ((nI (k * 6 + g)).toNatClampNeg) ((aUp I5 4 ((nI (k * 6 + f)).toNatClampNeg) (I5 4 ((nI (k * 6 + f)).toNatClampNeg) - nI am)) 4 ((nI (k * 6 + g)).toNatClampNeg) + nI am))) (J' := J5) (Ps := [aO E0 1 9 ∧ E0.2.2 1 0 ≠ 0, aO E0 2 1 ∧ E0.2.2 2 5 ≠ 0, aAr E0 1 4 (nI (k * 6 + f)), aAr E0 1 4 (nI (k * 6 + f)), aO E0 1 9 ∧ E0.2.2 1 0 ≠ 0, aO E0 2 1 ∧ E0.2.2 2 5 ≠ 0, aAr E0 1 4 (nI (k * 6 + g)), aAr E0 1 4 (nI (k * 6 + g)), aO E0 1 9 ∧ E0.2.2 1 0 ≠ 0, aO E0 2 1 ∧ E0.2.2 2 5 ≠ 0, aAr E0 1 4 (nI (k * 6 + g))]) rfl ⟨r_1_0, r_2_5, (a_4 (vin (n := (k * 6 + f)) rfl (by omega) (by decide))), (a_4 (vin (n := (k * 6 + f)) rfl (by omega) (by decide))), r_1_0, r_2_5, (a_4 (vin (n := (k * 6 + g)) rfl (by omega) (by decide))), (a_4 (vin (n := (k * 6 + g)) rfl (by omega) (by decide))), r_1_0, r_2_5, (a_4 (vin (n := (k * 6 + g)) rfl (by omega) (by decide)))⟩ ?_
                rw [cln (x := nI (k * 6 + f)) (n := (k * 6 + f)) rfl (by omega)]
                rw [cln (x := nI (k * 6 + g)) (n := (k * 6 + g)) rfl (by omega)]
                generalize hI6 : (aUp (aUp I5 4 (k * 6 + f) (I5 4 (k * 6 + f) - nI am)) 4 (k * 6 + g) ((aUp I5 4 (k * 6 + f) (I5 4 (k * 6 + f) - nI am)) 4 (k * 6 + g) + nI am)) = I6
                have q1 : ∀ q, q ≠ 4 → I6 q = I5 q := fun q hq => by rw [← hI6, aUp_ne hq, aUp_ne hq]
                have q2 : ∀ j, j < 36 → I6 4 j = nI (mvw T.1 k f g am (10 + j)) := fun j hj => by
                  rw [← hI6]
                  unfold mvw
                  by_cases e1 : j = k * 6 + g
                  · rw [e1, aUp_eq, aUp_nk (by omega), r2, ← ej, cup_eq, cup_ne (by omega), nI_add]
                  · rw [aUp_nk e1, cup_ne (by omega)]
                    by_cases e2 : j = k * 6 + f
                    · rw [e2, aUp_eq, r1, pk_sub h5, ← ei, cup_eq]
                    · rw [aUp_nk e2, cup_ne (by omega), k2 4 (by omega)]; exact hP.1.2.2 j hj
                have q3 : mvw T.1 k f g am (10 + (k * 6 + f)) ≠ T.1 (10 + (k * 6 + f)) := by
                  unfold mvw
                  rw [cup_ne (by omega), ← ei, cup_eq, ei]; omega
                rw [q2 (k * 6 + g) (by omega)]
                exact Ez.iret rfl (by decide +kernel) (hQ _ _ _ (by
                  rw [ev, ste_new (10 + (k * 6 + f)) (by omega) (fun z => q3 z.symm), ej]
                  refine ⟨rfl, CP_ed hP ⟨fun j hj => ?_, fun j hj => ?_, q2⟩ (CEd_fr k1 (fun b hb => q1 b (by omega))) (fun q g0 g1 g5 => by rw [q1 q (by omega), k2 q g1]), fun b hb => ⟨by rw [q1 b (by omega), k2 b (by omega)], rfl⟩⟩
                  · unfold mvw; rw [q1 2 (by omega), k2 2 (by omega), cup_ne (by omega), cup_ne (by omega)]; exact hP.1.1 j hj
                  · unfold mvw; rw [q1 3 (by omega), k2 3 (by omega), cup_ne (by omega), cup_ne (by omega)]; exact hP.1.2.1 j hj))
          · refine Ez.blk B_X9_moveWeight_80 (lo' := [some (.ref 1), some (.int (nI k)), some (.int (nI f)), some (.int (nI g)), some (.int (nI am)), some (.int (nI (k * 6 + f))), some (.int (nI (k * 6 + g)))]) (st' := [.int (-3)]) (I' := I4) (J' := J4) (Ps := []) rfl trivial ?_
            exact Ez.iret rfl (by decide +kernel) (hQ _ _ _ (by unfold f_moveWeight; rw [if_pos ⟨h, h2, h3⟩, if_pos h4, hkc, hfc, if_neg (by rw [ei]; exact nI_ge h5 (by omega))]; exact ⟨rfl, hP, fun _ _ => ⟨rfl, rfl⟩⟩))
        · refine Ez.blk B_X9_moveWeight_47 (lo' := [some (.ref 1), some (.int x), some (.int y), some (.int z), some (.int a), none, none]) (st' := [.int (-1)]) (I' := I4) (J' := J4) (Ps := []) rfl trivial ?_
          exact Ez.iret rfl (by decide +kernel) (hQ _ _ _ (by unfold f_moveWeight; rw [if_pos ⟨h, h2, h3⟩, if_neg h4]; exact ⟨rfl, hP, fun _ _ => ⟨rfl, rfl⟩⟩))
      · refine Ez.blk B_X9_moveWeight_33 (lo' := [some (.ref 1), some (.int x), some (.int y), some (.int z), some (.int a), none, none]) (st' := [.int (-2)]) (I' := I3) (J' := J3) (Ps := []) rfl trivial ?_
        exact Ez.iret rfl (by decide +kernel) (hQ _ _ _ (by unfold f_moveWeight; rw [if_neg (fun q => h3 q.2.2)]; exact ⟨rfl, hP, fun _ _ => ⟨rfl, rfl⟩⟩))
theorem c_setDiscount (d : Nat) (I : aI) (J : aJ) (T : TS) (W : WT T) (hP : CP T I J) (p q : Int32) : Sp m_X9_setDiscount (d + 3) [.ref 1, .int p, .int q] E0 I J (fun r I' J' => r = some (.int (f_setDiscount T p q).1) ∧ CP (f_setDiscount T p q).2 I' J' ∧ Fr9 I I' J J') := by
  refine Sp.of (lo := [some (.ref 1), some (.int p), some (.int q)]) rfl (fun Q hQ => ?_)
  have w1 := W.1.1
  have w2 := W.1.2.1
  have wb := Wc_12 W.1
  have w3 := W.1.2.2.1
  refine Ez.blk B_X9_setDiscount_0 (lo' := [some (.ref 1), some (.int p), some (.int q)]) (st' := [.int 4, .int 1, .int q]) (I' := I) (J' := J) (Ps := []) rfl trivial ?_
  refine Ez.callS (As := [.int q, .int 1, .int 4]) (rest := []) kn_X9_isWithin ml_9_77 sm_X9_isWithin (by decide +kernel) rfl rfl (Nat.le_of_ble_eq_true rfl) (Nat.le_of_ble_eq_true rfl) (s_isWithin _ E0 I J q 1 4) (fun r I1 J1 hq => ?_)
  obtain ⟨rfl, rfl, rfl⟩ := hq
  refine Ez.z_if_eq (off := 12) (tgt := 18) (by decide +kernel) (by decide) (fun h => ?_) (fun h => ?_)
  · refine Ez.blk B_X9_setDiscount_18 (lo' := [some (.ref 1), some (.int p), some (.int q)]) (st' := [.int (-1)]) (I' := I1) (J' := J1) (Ps := []) rfl trivial ?_
    exact Ez.iret rfl (by decide +kernel) (hQ _ _ _ (by unfold f_setDiscount; rw [if_neg (fun z => h z.1)]; exact ⟨rfl, hP, fun _ _ => ⟨rfl, rfl⟩⟩))
  · refine Ez.blk B_X9_setDiscount_9 (lo' := [some (.ref 1), some (.int p), some (.int q)]) (st' := [.int q, .int 0, .int p]) (I' := I1) (J' := J1) (Ps := []) rfl trivial ?_
    refine Ez.callS (As := [.int p, .int 0, .int q]) (rest := []) kn_X9_isWithin ml_9_77 sm_X9_isWithin (by decide +kernel) rfl rfl (Nat.le_of_ble_eq_true rfl) (Nat.le_of_ble_eq_true rfl) (s_isWithin _ E0 I1 J1 p 0 q) (fun r I2 J2 hq => ?_)
    obtain ⟨rfl, rfl, rfl⟩ := hq
    refine Ez.z_if_ne (off := 5) (tgt := 20) (by decide +kernel) (by decide) (fun h2 => ?_) (fun h2 => ?_)
    · obtain ⟨b, hb1, hb, rfl, hbc⟩ := in_of (lo := 1) (hi := 4) (by omega) h (by omega)
      obtain ⟨a, -, ha, rfl, hac⟩ := in_of (lo := 0) (hi := b) (by omega) h2 (by omega)
      have ev : f_setDiscount T (nI a) (nI b) = (zb (¬ eqc T.1 (cup (cup T.1 2 a) 3 b) = true), ste T (cup (cup T.1 2 a) 3 b)) := by unfold f_setDiscount; rw [if_pos ⟨h, h2⟩, hac, hbc]
      refine Ez.blk B_X9_setDiscount_20 (lo' := [some (.ref 1), some (.int (nI a)), some (.int (nI b))]) (st' := [.int (I2 2 2), .int (nI a)]) (I' := I2) (J' := J2) (Ps := [aO E0 1 9 ∧ E0.2.2 1 0 ≠ 0, aO E0 2 1]) rfl ⟨r_1_0, o_2⟩ ?_
      refine Ez.n_icmp_ne (off := 16) (tgt := 44) (by decide +kernel) (by decide) (a := a) (b := (T.1 2)) rfl (hP.1.1 2 (by decide)) (by omega) (by omega) (fun h3 => ?_) (fun h3 => ?_)
      · refine Ez.blk B_X9_setDiscount_44 (lo' := [some (.ref 1), some (.int (nI a)), some (.int (nI b))]) (st' := [.ref 2, .ref 11]) (I' := I2) (J' := J2) (Ps := [aO E0 1 9 ∧ E0.2.2 1 4 ≠ 0, aO E0 1 9 ∧ E0.2.2 1 0 ≠ 0]) rfl ⟨r_1_4, r_1_0⟩ ?_
        refine Ez.callV (As := [.ref 2]) (b := 11) (rest := []) kn_X4_remember ml_9_103 im_X4_remember se_X4_remember rfl (by decide +kernel) rfl rfl (Nat.le_of_ble_eq_true rfl) (Nat.le_of_ble_eq_true rfl) o_11 (s_remember _ I2 J2 T.2.1 T.1 W.2.1.1 hP.2.1 hP.1) (fun r I3 J3 hq => ?_)
        obtain ⟨rfl, rfl, k1, k2⟩ := hq
        refine Ez.blk B_X9_setDiscount_55 (lo' := [some (.ref 1), some (.int (nI a)), some (.int (nI b))]) (st' := [.int 1]) (I' := (aUp (aUp I3 2 2 (nI a)) 2 3 (nI b))) (J' := J3) (Ps := [aO E0 1 9 ∧ E0.2.2 1 0 ≠ 0, aO E0 2 1, aO E0 1 9 ∧ E0.2.2 1 0 ≠ 0, aO E0 2 1]) rfl ⟨r_1_0, o_2, r_1_0, o_2⟩ ?_
        generalize hI4 : (aUp (aUp I3 2 2 (nI a)) 2 3 (nI b)) = I4
        exact Ez.iret rfl (by decide +kernel) (hQ _ _ _ (by
          have g : ∀ q, q ≠ 2 → I4 q = I3 q := fun q hq => by rw [← hI4, aUp_ne hq, aUp_ne hq]
          have nz : ¬ eqc T.1 (cup (cup T.1 2 a) 3 b) = true := fun z => absurd (eqc_iff.mp z 2 (by omega)) (by rw [cup_ne (by omega), cup_eq]; exact fun z => h3 z.symm)
          rw [ev, ste_new 2 (by omega) (by rw [cup_ne (by omega), cup_eq]; exact fun z => h3 z.symm), zb_t nz]
          refine ⟨rfl, CP_ed hP ⟨fun j hj => ?_, fun j hj => ?_, fun j hj => ?_⟩ (CEd_fr k1 (fun b hb => g b (by omega))) (fun q h0 h1 h5 => by rw [g q (by omega), k2 q h1]), fun b hb => ⟨by rw [g b (by omega), k2 b (by omega)], rfl⟩⟩
          · rw [← hI4]
            by_cases e3 : j = 3
            · rw [e3, cup_eq, aUp_eq]
            · rw [cup_ne e3, aUp_nk e3]
              by_cases e2 : j = 2
              · rw [e2, cup_eq, aUp_eq]
              · rw [cup_ne e2, aUp_nk e2, k2 2 (by omega)]; exact hP.1.1 j hj
          · rw [cup_ne (by omega), cup_ne (by omega), g 3 (by omega), k2 3 (by omega)]; exact hP.1.2.1 j hj
          · rw [cup_ne (by omega), cup_ne (by omega), g 4 (by omega), k2 4 (by omega)]; exact hP.1.2.2 j hj))
      · refine Ez.blk B_X9_setDiscount_31 (lo' := [some (.ref 1), some (.int (nI a)), some (.int (nI b))]) (st' := [.int (I2 2 3), .int (nI b)]) (I' := I2) (J' := J2) (Ps := [aO E0 1 9 ∧ E0.2.2 1 0 ≠ 0, aO E0 2 1]) rfl ⟨r_1_0, o_2⟩ ?_
        refine Ez.n_icmp_ne (off := 5) (tgt := 44) (by decide +kernel) (by decide) (a := b) (b := (T.1 3)) rfl (hP.1.1 3 (by decide)) (by omega) (by omega) (fun h4 => ?_) (fun h4 => ?_)
        · refine Ez.blk B_X9_setDiscount_44 (lo' := [some (.ref 1), some (.int (nI a)), some (.int (nI b))]) (st' := [.ref 2, .ref 11]) (I' := I2) (J' := J2) (Ps := [aO E0 1 9 ∧ E0.2.2 1 4 ≠ 0, aO E0 1 9 ∧ E0.2.2 1 0 ≠ 0]) rfl ⟨r_1_4, r_1_0⟩ ?_
          refine Ez.callV (As := [.ref 2]) (b := 11) (rest := []) kn_X4_remember ml_9_103 im_X4_remember se_X4_remember rfl (by decide +kernel) rfl rfl (Nat.le_of_ble_eq_true rfl) (Nat.le_of_ble_eq_true rfl) o_11 (s_remember _ I2 J2 T.2.1 T.1 W.2.1.1 hP.2.1 hP.1) (fun r I3 J3 hq => ?_)
          obtain ⟨rfl, rfl, k1, k2⟩ := hq
          refine Ez.blk B_X9_setDiscount_55 (lo' := [some (.ref 1), some (.int (nI a)), some (.int (nI b))]) (st' := [.int 1]) (I' := (aUp (aUp I3 2 2 (nI a)) 2 3 (nI b))) (J' := J3) (Ps := [aO E0 1 9 ∧ E0.2.2 1 0 ≠ 0, aO E0 2 1, aO E0 1 9 ∧ E0.2.2 1 0 ≠ 0, aO E0 2 1]) rfl ⟨r_1_0, o_2, r_1_0, o_2⟩ ?_
          generalize hI4 : (aUp (aUp I3 2 2 (nI a)) 2 3 (nI b)) = I4
          exact Ez.iret rfl (by decide +kernel) (hQ _ _ _ (by
            have g : ∀ q, q ≠ 2 → I4 q = I3 q := fun q hq => by rw [← hI4, aUp_ne hq, aUp_ne hq]
            have nz : ¬ eqc T.1 (cup (cup T.1 2 a) 3 b) = true := fun z => absurd (eqc_iff.mp z 3 (by omega)) (by rw [cup_eq]; exact fun z => h4 z.symm)
            rw [ev, ste_new 3 (by omega) (by rw [cup_eq]; exact fun z => h4 z.symm), zb_t nz]
            refine ⟨rfl, CP_ed hP ⟨fun j hj => ?_, fun j hj => ?_, fun j hj => ?_⟩ (CEd_fr k1 (fun b hb => g b (by omega))) (fun q h0 h1 h5 => by rw [g q (by omega), k2 q h1]), fun b hb => ⟨by rw [g b (by omega), k2 b (by omega)], rfl⟩⟩
            · rw [← hI4]
              by_cases e3 : j = 3
              · rw [e3, cup_eq, aUp_eq]
              · rw [cup_ne e3, aUp_nk e3]
                by_cases e2 : j = 2
                · rw [e2, cup_eq, aUp_eq]
                · rw [cup_ne e2, aUp_nk e2, k2 2 (by omega)]; exact hP.1.1 j hj
            · rw [cup_ne (by omega), cup_ne (by omega), g 3 (by omega), k2 3 (by omega)]; exact hP.1.2.1 j hj
            · rw [cup_ne (by omega), cup_ne (by omega), g 4 (by omega), k2 4 (by omega)]; exact hP.1.2.2 j hj))
        · refine Ez.blk B_X9_setDiscount_42 (lo' := [some (.ref 1), some (.int (nI a)), some (.int (nI b))]) (st' := [.int 0]) (I' := I2) (J' := J2) (Ps := []) rfl trivial ?_
          exact Ez.iret rfl (by decide +kernel) (hQ _ _ _ (by
            have se : ∀ j, T.1 j = cup (cup T.1 2 a) 3 b j := fun j => by
              by_cases e3 : j = 3
              · rw [e3, cup_eq]; exact h4.symm
              · rw [cup_ne e3]; exact cup_same h3.symm j
            rw [ev, ste_same (fun j _ => se j), zb_f (fun z => z (eqc_iff.mpr (fun j _ => se j)))]; exact ⟨rfl, hP, fun _ _ => ⟨rfl, rfl⟩⟩))
    · refine Ez.blk B_X9_setDiscount_18 (lo' := [some (.ref 1), some (.int p), some (.int q)]) (st' := [.int (-1)]) (I' := I2) (J' := J2) (Ps := []) rfl trivial ?_
      exact Ez.iret rfl (by decide +kernel) (hQ _ _ _ (by unfold f_setDiscount; rw [if_neg (fun z => h2 z.2)]; exact ⟨rfl, hP, fun _ _ => ⟨rfl, rfl⟩⟩))
theorem swc_12 {c : Nat → Nat} (W : Wc c) {f s : Nat} (hf : f < 6) (hs : s < 6) (k : Nat) (hk : k < 46) : swc c f s k ≤ 12 := by
  unfold swc
  by_cases h4 : k < 4
  · rw [if_pos h4]; exact Wc_12 W k hk
  · rw [if_neg h4]
    by_cases h10 : k < 10
    · rw [if_pos h10]; exact Wc_12 W _ (by have := swp_lt (x := k - 4) (n := 6) (by omega) hf hs; omega)
    · rw [if_neg h10]
      have a1 := swp_lt (x := (k - 10) / 6) (n := 6) (by omega) hf hs
      have a2 := swp_lt (x := (k - 10) % 6) (n := 6) (by omega) hf hs
      exact Wc_12 W _ (by omega)
theorem c_swapStates (d : Nat) (I : aI) (J : aJ) (T : TS) (W : WT T) (hP : CP T I J) (x y : Int32) : Sp m_X9_swapStates (d + 3) [.ref 1, .int x, .int y] E0 I J (fun r I' J' => r = some (.int (f_swapStates T x y).1) ∧ CP (f_swapStates T x y).2 I' J' ∧ Fr9 I I' J J') := by
  refine Sp.of (lo := [some (.ref 1), some (.int x), some (.int y)]) rfl (fun Q hQ => ?_)
  have w1 := W.1.1
  have w2 := W.1.2.1
  have wb := Wc_12 W.1
  refine Ez.blk B_X9_swapStates_0 (lo' := [some (.ref 1), some (.int x), some (.int y)]) (st' := [.int x, .ref 2]) (I' := I) (J' := J) (Ps := [aO E0 1 9 ∧ E0.2.2 1 0 ≠ 0]) rfl r_1_0 ?_
  refine Ez.callV (As := [.int x]) (b := 2) (rest := []) kn_X1_has ml_9_95 im_X1_has se_X1_has rfl (by decide +kernel) rfl rfl (Nat.le_of_ble_eq_true rfl) (Nat.le_of_ble_eq_true rfl) o_2 (s_has _ E0 I J 2 (x) o_2) (fun r I1 J1 hq => ?_)
  obtain ⟨rfl, rfl, rfl⟩ := hq
  rw [hP.1.1 0 (by decide)]
  refine Ez.z_if_eq (off := 14) (tgt := 22) (by decide +kernel) (by decide) (fun h => ?_) (fun h => ?_)
  · refine Ez.blk B_X9_swapStates_22 (lo' := [some (.ref 1), some (.int x), some (.int y)]) (st' := [.int (-2)]) (I' := I1) (J' := J1) (Ps := []) rfl trivial ?_
    exact Ez.iret rfl (by decide +kernel) (hQ _ _ _ (by unfold f_swapStates; rw [if_neg (fun z => h z.1)]; exact ⟨rfl, hP, fun _ _ => ⟨rfl, rfl⟩⟩))
  · refine Ez.blk B_X9_swapStates_11 (lo' := [some (.ref 1), some (.int x), some (.int y)]) (st' := [.int y, .ref 2]) (I' := I1) (J' := J1) (Ps := [aO E0 1 9 ∧ E0.2.2 1 0 ≠ 0]) rfl r_1_0 ?_
    refine Ez.callV (As := [.int y]) (b := 2) (rest := []) kn_X1_has ml_9_95 im_X1_has se_X1_has rfl (by decide +kernel) rfl rfl (Nat.le_of_ble_eq_true rfl) (Nat.le_of_ble_eq_true rfl) o_2 (s_has _ E0 I1 J1 2 (y) o_2) (fun r I2 J2 hq => ?_)
    obtain ⟨rfl, rfl, rfl⟩ := hq
    rw [hP.1.1 0 (by decide)]
    refine Ez.z_if_ne (off := 6) (tgt := 25) (by decide +kernel) (by decide) (fun h2 => ?_) (fun h2 => ?_)
    · obtain ⟨k, hk, rfl, hkc⟩ := st_of (by omega) h
      obtain ⟨j, hj, rfl, hjc⟩ := st_of (by omega) h2
      have ev : f_swapStates T (nI k) (nI j) = (zb (¬ eqc T.1 (swc T.1 k j) = true), ste T (swc T.1 k j)) := by unfold f_swapStates; rw [if_pos ⟨h, h2⟩, hkc, hjc]
      refine Ez.blk B_X9_swapStates_25 (lo' := [some (.ref 1), some (.int (nI k)), some (.int (nI j))]) (st' := [.int (nI j), .int (nI k), .ref 2, .ref 5]) (I' := I2) (J' := J2) (Ps := [aO E0 1 9 ∧ E0.2.2 1 1 ≠ 0, aO E0 1 9 ∧ E0.2.2 1 0 ≠ 0]) rfl ⟨r_1_1, r_1_0⟩ ?_
      refine Ez.callV (As := [.ref 2, .int (nI k), .int (nI j)]) (b := 5) (rest := []) kn_X1_copySwapped ml_9_116 im_X1_copySwapped se_X1_copySwapped rfl (by decide +kernel) rfl rfl (Nat.le_of_ble_eq_true rfl) (Nat.le_of_ble_eq_true rfl) o_5 (s_copySwapped _ E0 I2 J2 5 2 k j CE_5 CE_2 (by omega) T.1 hP.1 W.1 hk hj) (fun r I3 J3 hq => ?_)
      obtain ⟨rfl, rfl, k1, k2⟩ := hq
      have c2 : Ch I3 2 T.1 := Ch_eq hP.1 (k2 2 (by omega) (by omega) (by omega)) (k2 3 (by omega) (by omega) (by omega)) (k2 4 (by omega) (by omega) (by omega))
      refine Ez.blk B_X9_swapStates_38 (lo' := [some (.ref 1), some (.int (nI k)), some (.int (nI j))]) (st' := [.ref 2, .ref 5]) (I' := I3) (J' := J3) (Ps := [aO E0 1 9 ∧ E0.2.2 1 1 ≠ 0, aO E0 1 9 ∧ E0.2.2 1 0 ≠ 0]) rfl ⟨r_1_1, r_1_0⟩ ?_
      refine Ez.callV (As := [.ref 2]) (b := 5) (rest := []) kn_X1_sameAs ml_9_120 im_X1_sameAs se_X1_sameAs rfl (by decide +kernel) rfl rfl (Nat.le_of_ble_eq_true rfl) (Nat.le_of_ble_eq_true rfl) o_5 (s_sameAs _ E0 I3 J3 5 2 CE_5 CE_2 (swc T.1 k j) T.1 k1 c2 (fun q hq => by have := swc_12 W.1 (f := k) (s := j) (by omega) (by omega) q hq; omega) (fun q hq => by have := wb q hq; omega)) (fun r I4 J4 hq => ?_)
      obtain ⟨rfl, rfl, rfl⟩ := hq
      have d1 : CEd T.2.1 I4 := CEd_fr hP.2.1 (fun b hb => k2 b (by omega) (by omega) (by omega))
      refine Ez.z_if_eq (off := 5) (tgt := 54) (by decide +kernel) (by decide) (fun h3 => ?_) (fun h3 => ?_)
      · refine Ez.blk B_X9_swapStates_54 (lo' := [some (.ref 1), some (.int (nI k)), some (.int (nI j))]) (st' := [.ref 2, .ref 11]) (I' := I4) (J' := J4) (Ps := [aO E0 1 9 ∧ E0.2.2 1 4 ≠ 0, aO E0 1 9 ∧ E0.2.2 1 0 ≠ 0]) rfl ⟨r_1_4, r_1_0⟩ ?_
        refine Ez.callV (As := [.ref 2]) (b := 11) (rest := []) kn_X4_remember ml_9_103 im_X4_remember se_X4_remember rfl (by decide +kernel) rfl rfl (Nat.le_of_ble_eq_true rfl) (Nat.le_of_ble_eq_true rfl) o_11 (s_remember _ I4 J4 T.2.1 T.1 W.2.1.1 d1 c2) (fun r I5 J5 hq => ?_)
        obtain ⟨rfl, rfl, m1, m2⟩ := hq
        have c5 : Ch I5 5 (swc T.1 k j) := Ch_eq k1 (m2 _ (by omega)) (m2 _ (by omega)) (m2 _ (by omega))
        refine Ez.blk B_X9_swapStates_65 (lo' := [some (.ref 1), some (.int (nI k)), some (.int (nI j))]) (st' := [.ref 5, .ref 2]) (I' := I5) (J' := J5) (Ps := [aO E0 1 9 ∧ E0.2.2 1 0 ≠ 0, aO E0 1 9 ∧ E0.2.2 1 1 ≠ 0]) rfl ⟨r_1_0, r_1_1⟩ ?_
        refine Ez.callV (As := [.ref 5]) (b := 2) (rest := []) kn_X1_copyFrom ml_9_124 im_X1_copyFrom se_X1_copyFrom rfl (by decide +kernel) rfl rfl (Nat.le_of_ble_eq_true rfl) (Nat.le_of_ble_eq_true rfl) o_2 (s_copy _ E0 I5 J5 2 5 CE_2 CE_5 (by omega) (swc T.1 k j) c5) (fun r I6 J6 hq => ?_)
        obtain ⟨rfl, rfl, n1, n2⟩ := hq
        refine Ez.blk B_X9_swapStates_76 (lo' := [some (.ref 1), some (.int (nI k)), some (.int (nI j))]) (st' := [.int 1]) (I' := I6) (J' := J6) (Ps := []) rfl trivial ?_
        exact Ez.iret rfl (by decide +kernel) (hQ _ _ _ (by
          have h3 : ¬ eqc T.1 (swc T.1 k j) = true := fun z => h3 (eqc_comm.mp z)
          rw [ev, zb_t h3, show ste T (swc T.1 k j) = (swc T.1 k j, psh T.2.1 T.1, T.2.2) by unfold ste; rw [if_neg h3]]
          exact ⟨rfl, CP_ed hP n1 (CEd_fr m1 (fun b hb => n2 b (by omega) (by omega) (by omega))) (fun q g0 g1 g5 => by rw [n2 q (by omega) (by omega) (by omega), m2 q g1, k2 q (by omega) (by omega) (by omega)]), fun b hb => ⟨by rw [n2 b (by omega) (by omega) (by omega), m2 b (by omega), k2 b (by omega) (by omega) (by omega)], rfl⟩⟩))
      · refine Ez.blk B_X9_swapStates_52 (lo' := [some (.ref 1), some (.int (nI k)), some (.int (nI j))]) (st' := [.int 0]) (I' := I4) (J' := J4) (Ps := []) rfl trivial ?_
        exact Ez.iret rfl (by decide +kernel) (hQ _ _ _ (by
          have h3 := eqc_comm.mp h3
          rw [ev, zb_f (fun z => z h3), show ste T (swc T.1 k j) = T by unfold ste; rw [if_pos h3]]
          exact ⟨rfl, CP_ed hP c2 d1 (fun q g0 g1 g5 => k2 q (by omega) (by omega) (by omega)), fun b hb => ⟨k2 b (by omega) (by omega) (by omega), rfl⟩⟩))
    · refine Ez.blk B_X9_swapStates_22 (lo' := [some (.ref 1), some (.int x), some (.int y)]) (st' := [.int (-2)]) (I' := I2) (J' := J2) (Ps := []) rfl trivial ?_
      exact Ez.iret rfl (by decide +kernel) (hQ _ _ _ (by unfold f_swapStates; rw [if_neg (fun z => h2 z.2)]; exact ⟨rfl, hP, fun _ _ => ⟨rfl, rfl⟩⟩))
theorem c_undo (d : Nat) (I : aI) (J : aJ) (T : TS) (W : WT T) (hP : CP T I J) : Sp m_X9_undo (d + 3) [.ref 1] E0 I J (fun r I' J' => r = some (.int (f_undo T).1) ∧ CP (f_undo T).2 I' J' ∧ Fr9 I I' J J') := by
  refine Sp.of (lo := [some (.ref 1)]) rfl (fun Q hQ => ?_)
  have w1 := W.1.1
  have w2 := W.1.2.1
  have wb := Wc_12 W.1
  have wu := W.2.1.1
  refine Ez.blk B_X9_undo_0 (lo' := [some (.ref 1)]) (st' := [.int (I 11 0)]) (I' := I) (J' := J) (Ps := [aO E0 1 9 ∧ E0.2.2 1 4 ≠ 0, aO E0 11 4]) rfl ⟨r_1_4, o_11⟩ ?_
  refine Ez.n_if_ne (off := 6) (tgt := 13) (by decide +kernel) (by decide) (a := T.2.1.1) hP.2.1.1 (by omega) (fun h => ?_) (fun h => ?_)
  · refine Ez.blk B_X9_undo_13 (lo' := [some (.ref 1)]) (st' := [.ref 2, .ref 11]) (I' := I) (J' := J) (Ps := [aO E0 1 9 ∧ E0.2.2 1 4 ≠ 0, aO E0 1 9 ∧ E0.2.2 1 0 ≠ 0]) rfl ⟨r_1_4, r_1_0⟩ ?_
    refine Ez.callV (As := [.ref 2]) (b := 11) (rest := []) kn_X4_takeLast ml_9_130 im_X4_takeLast se_X4_takeLast rfl (by decide +kernel) rfl rfl (Nat.le_of_ble_eq_true rfl) (Nat.le_of_ble_eq_true rfl) o_11 (s_takeLast _ I J T.2.1 (by omega) W.2.1.1 hP.2.1) (fun r I1 J1 hq => ?_)
    obtain ⟨rfl, rfl, k1, k2, k3⟩ := hq
    refine Ez.blk B_X9_undo_24 (lo' := [some (.ref 1)]) (st' := [.int (I1 11 0)]) (I' := I1) (J' := J1) (Ps := [aO E0 1 9 ∧ E0.2.2 1 4 ≠ 0, aO E0 11 4]) rfl ⟨r_1_4, o_11⟩ ?_
    rw [k1.1]
    exact Ez.iret rfl (by decide +kernel) (hQ _ _ _ (by unfold f_undo; rw [if_neg h]; exact ⟨rfl, CP_ed hP k2 k1 (fun q g0 g1 g5 => k3 q (by omega)), fun b hb => ⟨k3 b (by omega), rfl⟩⟩))
  · refine Ez.blk B_X9_undo_10 (lo' := [some (.ref 1)]) (st' := [.int (-5)]) (I' := I) (J' := J) (Ps := []) rfl trivial ?_
    exact Ez.iret rfl (by decide +kernel) (hQ _ _ _ (by unfold f_undo; rw [if_pos h]; exact ⟨rfl, hP, fun _ _ => ⟨rfl, rfl⟩⟩))
theorem c_reset (d : Nat) (I : aI) (J : aJ) (T : TS) (W : WT T) (hP : CP T I J) (x y : Int32) : Sp m_X9_reset (d + 2) [.ref 1, .int x, .int y] E0 I J (fun r I' J' => r = some (.int (f_reset T x y).1) ∧ CP (f_reset T x y).2 I' J' ∧ Fr9 I I' J J') := by
  refine Sp.of (lo := [some (.ref 1), some (.int x), some (.int y), none]) rfl (fun Q hQ => ?_)
  have w1 := W.1.1
  have w2 := W.1.2.1
  have wb := Wc_12 W.1
  refine Ez.blk B_X9_reset_0 (lo' := [some (.ref 1), some (.int x), some (.int y), none]) (st' := [.int 6, .int 1, .int x]) (I' := I) (J' := J) (Ps := []) rfl trivial ?_
  refine Ez.callS (As := [.int x, .int 1, .int 6]) (rest := []) kn_X9_isWithin ml_9_77 sm_X9_isWithin (by decide +kernel) rfl rfl (Nat.le_of_ble_eq_true rfl) (Nat.le_of_ble_eq_true rfl) (s_isWithin _ E0 I J x 1 6) (fun r I1 J1 hq => ?_)
  obtain ⟨rfl, rfl, rfl⟩ := hq
  refine Ez.z_if_eq (off := 13) (tgt := 20) (by decide +kernel) (by decide) (fun h => ?_) (fun h => ?_)
  · refine Ez.blk B_X9_reset_20 (lo' := [some (.ref 1), some (.int x), some (.int y), none]) (st' := [.int (-1)]) (I' := I1) (J' := J1) (Ps := []) rfl trivial ?_
    exact Ez.iret rfl (by decide +kernel) (hQ _ _ _ (by unfold f_reset; rw [if_neg (fun z => h z.1)]; exact ⟨rfl, hP, fun _ _ => ⟨rfl, rfl⟩⟩))
  · refine Ez.blk B_X9_reset_10 (lo' := [some (.ref 1), some (.int x), some (.int y), none]) (st' := [.int 12, .int 1, .int y]) (I' := I1) (J' := J1) (Ps := []) rfl trivial ?_
    refine Ez.callS (As := [.int y, .int 1, .int 12]) (rest := []) kn_X9_isWithin ml_9_77 sm_X9_isWithin (by decide +kernel) rfl rfl (Nat.le_of_ble_eq_true rfl) (Nat.le_of_ble_eq_true rfl) (s_isWithin _ E0 I1 J1 y 1 12) (fun r I2 J2 hq => ?_)
    obtain ⟨rfl, rfl, rfl⟩ := hq
    refine Ez.z_if_ne (off := 5) (tgt := 22) (by decide +kernel) (by decide) (fun h2 => ?_) (fun h2 => ?_)
    · obtain ⟨n, hn1, hn, rfl, hnc⟩ := in_of (lo := 1) (hi := 6) (by omega) h (by omega)
      obtain ⟨D, hD1, hD, rfl, hDc⟩ := in_of (lo := 1) (hi := 12) (by omega) h2 (by omega)
      refine Ez.blk B_X9_reset_22 (lo' := [some (.ref 1), some (.int (nI n)), some (.int (nI D)), some (.int (I2 2 0))]) (st' := [.int (nI D), .int (nI n), .ref 2]) (I' := I2) (J' := J2) (Ps := [aO E0 1 9 ∧ E0.2.2 1 0 ≠ 0, aO E0 2 1, aO E0 1 9 ∧ E0.2.2 1 0 ≠ 0]) rfl ⟨r_1_0, o_2, r_1_0⟩ ?_
      rw [hP.1.1 0 (by decide)]
      refine Ez.callV (As := [.int (nI n), .int (nI D)]) (b := 2) (rest := []) kn_X1_start ml_9_85 im_X1_start se_X1_start rfl (by decide +kernel) rfl rfl (Nat.le_of_ble_eq_true rfl) (Nat.le_of_ble_eq_true rfl) o_2 (s_start _ E0 I2 J2 2 n D CE_2 hn) (fun r I3 J3 hq => ?_)
      obtain ⟨rfl, rfl, ⟨a0, a1, a2⟩, a3, a4, a5⟩ := hq
      have d1 : CEd T.2.1 I3 := CEd_fr hP.2.1 (fun b hb => a5 b (by omega) (by omega) (by omega))
      refine Ez.blk B_X9_reset_39 (lo' := [some (.ref 1), some (.int (nI n)), some (.int (nI D)), some (.int (nI (T.1 0)))]) (st' := [.ref 11]) (I' := I3) (J' := J3) (Ps := [aO E0 1 9 ∧ E0.2.2 1 4 ≠ 0]) rfl r_1_4 ?_
      refine Ez.callV (As := []) (b := 11) (rest := []) kn_X4_forgetAll ml_9_89 im_X4_forgetAll se_X4_forgetAll rfl (by decide +kernel) rfl rfl (Nat.le_of_ble_eq_true rfl) (Nat.le_of_ble_eq_true rfl) o_11 (s_forget _ I3 J3 T.2.1 d1) (fun r I4 J4 hq => ?_)
      obtain ⟨rfl, rfl, k1, k2⟩ := hq
      refine Ez.blk B_X9_reset_46 (lo' := [some (.ref 1), some (.int (nI n)), some (.int (nI D)), some (.int (nI (T.1 0)))]) (st' := [.int (nI (T.1 0))]) (I' := I4) (J' := J4) (Ps := []) rfl trivial ?_
      exact Ez.iret rfl (by decide +kernel) (hQ _ _ _ (by
        unfold f_reset
        rw [if_pos ⟨h, h2⟩, hnc, hDc]
        refine ⟨rfl, CP_ed hP ⟨fun j hj => ?_, fun j hj => ?_, fun j hj => ?_⟩ k1 (fun q g0 g1 g5 => by rw [k2 q (by omega), a5 q (by omega) (by omega) (by omega)]), fun b hb => ⟨by rw [k2 b (by omega), a5 b (by omega) (by omega) (by omega)], rfl⟩⟩
        · rw [k2 2 (by omega)]
          unfold stc
          by_cases e0 : j = 0
          · rw [if_pos e0, e0]; exact a0
          · rw [if_neg e0]
            by_cases e1 : j = 1
            · rw [if_pos e1, e1]; exact a1
            · rw [if_neg e1, if_pos hj, a2 j e0 e1]; exact hP.1.1 j hj
        · rw [k2 3 (by omega), a3 j hj, stc_l hj]; rfl
        · rw [k2 4 (by omega), a4 j hj, stc_w]
          by_cases e : j % 7 = 0 ∧ j / 7 < n
          · rw [if_pos e, if_pos e]
          · rw [if_neg e, if_neg e]; rfl))
    · refine Ez.blk B_X9_reset_20 (lo' := [some (.ref 1), some (.int x), some (.int y), none]) (st' := [.int (-1)]) (I' := I2) (J' := J2) (Ps := []) rfl trivial ?_
      exact Ez.iret rfl (by decide +kernel) (hQ _ _ _ (by unfold f_reset; rw [if_neg (fun z => h2 z.2)]; exact ⟨rfl, hP, fun _ _ => ⟨rfl, rfl⟩⟩))
theorem c_snapshot (d : Nat) (I : aI) (J : aJ) (T : TS) (W : WT T) (hP : CP T I J) : Sp m_X9_snapshot (d + 2) [.ref 1] E0 I J (fun r I' J' => r = some (.int (f_snapshot T).1) ∧ CP (f_snapshot T).2 I' J' ∧ Fr9 I I' J J') := by
  refine Sp.of (lo := [some (.ref 1)]) rfl (fun Q hQ => ?_)
  have w1 := W.1.1
  have w2 := W.1.2.1
  have wb := Wc_12 W.1
  refine Ez.blk B_X9_snapshot_0 (lo' := [some (.ref 1)]) (st' := [.ref 2, .ref 8]) (I' := I) (J' := J) (Ps := [aO E0 1 9 ∧ E0.2.2 1 2 ≠ 0, aO E0 1 9 ∧ E0.2.2 1 0 ≠ 0]) rfl ⟨r_1_2, r_1_0⟩ ?_
  refine Ez.callV (As := [.ref 2]) (b := 8) (rest := []) kn_X1_copyFrom ml_9_124 im_X1_copyFrom se_X1_copyFrom rfl (by decide +kernel) rfl rfl (Nat.le_of_ble_eq_true rfl) (Nat.le_of_ble_eq_true rfl) o_8 (s_copy _ E0 I J 8 2 CE_8 CE_2 (by omega) T.1 hP.1) (fun r I1 J1 hq => ?_)
  obtain ⟨rfl, rfl, k1, k2⟩ := hq
  refine Ez.blk B_X9_snapshot_11 (lo' := [some (.ref 1)]) (st' := [.int (I1 2 0)]) (I' := (aUp I1 1 3 1)) (J' := J1) (Ps := [aO E0 1 9 ∧ (1 = 0 ∨ 1 = 1), aO E0 1 9 ∧ E0.2.2 1 0 ≠ 0, aO E0 2 1]) rfl ⟨⟨o_1, (Or.inr rfl)⟩, r_1_0, o_2⟩ ?_
  generalize hI2 : (aUp I1 1 3 1) = I2
  have g : ∀ q, q ≠ 1 → I2 q = I1 q := fun q hq => by rw [← hI2, aUp_ne hq]
  have g2 : ∀ q, q ≠ 1 → ¬ (8 ≤ q ∧ q ≤ 10) → I2 q = I q := fun q h1 h2 => by rw [g q h1, k2 q (by omega) (by omega) (by omega)]
  have c2 : Ch I2 2 T.1 := Ch_eq hP.1 (g2 _ (by omega) (by omega)) (g2 _ (by omega) (by omega)) (g2 _ (by omega) (by omega))
  have e1 : I1 2 0 = nI (T.1 0) := by rw [k2 2 (by omega) (by omega) (by omega)]; exact hP.1.1 0 (by decide)
  rw [e1]
  exact Ez.iret rfl (by decide +kernel) (hQ _ _ _ ⟨rfl, ⟨c2, CEd_fr hP.2.1 (fun b hb => g2 b (by omega) (by omega)), ⟨by rw [← hI2, aUp_eq]; rfl, fun _ => Ch_eq k1 (g _ (by omega)) (g _ (by omega)) (g _ (by omega))⟩, CBuf_fr hP.2.2.2.1 (g2 _ (by omega) (by omega)) (g2 _ (by omega) (by omega)), CSl_fr hP.2.2.2.2.1 (g2 _ (by omega) (by omega)) (g2 _ (by omega) (by omega)) (fun _ _ _ => rfl), CCa_fr hP.2.2.2.2.2 (fun b _ _ => g2 b (by omega) (by omega)) (fun _ _ _ => rfl)⟩, fun b hb => ⟨g2 b (by omega) (by omega), rfl⟩⟩)
theorem c_restore (d : Nat) (I : aI) (J : aJ) (T : TS) (W : WT T) (hP : CP T I J) : Sp m_X9_restore (d + 2) [.ref 1] E0 I J (fun r I' J' => r = some (.int (f_restore T).1) ∧ CP (f_restore T).2 I' J' ∧ Fr9 I I' J J') := by
  refine Sp.of (lo := [some (.ref 1)]) rfl (fun Q hQ => ?_)
  have w1 := W.1.1
  have w2 := W.1.2.1
  have wb := Wc_12 W.1
  have ws := W.2.2.1.1
  refine Ez.blk B_X9_restore_0 (lo' := [some (.ref 1)]) (st' := [.int (I 1 3)]) (I' := I) (J' := J) (Ps := [aO E0 1 9]) rfl o_1 ?_
  refine Ez.n_if_ne (off := 6) (tgt := 10) (by decide +kernel) (by decide) (a := T.2.2.1.1) hP.2.2.1.1 (by omega) (fun h => ?_) (fun h => ?_)
  · have hs := hP.2.2.1.2 (by omega)
    refine Ez.blk B_X9_restore_10 (lo' := [some (.ref 1)]) (st' := [.ref 8, .ref 2]) (I' := I) (J' := J) (Ps := [aO E0 1 9 ∧ E0.2.2 1 0 ≠ 0, aO E0 1 9 ∧ E0.2.2 1 2 ≠ 0]) rfl ⟨r_1_0, r_1_2⟩ ?_
    refine Ez.callV (As := [.ref 8]) (b := 2) (rest := []) kn_X1_copyFrom ml_9_124 im_X1_copyFrom se_X1_copyFrom rfl (by decide +kernel) rfl rfl (Nat.le_of_ble_eq_true rfl) (Nat.le_of_ble_eq_true rfl) o_2 (s_copy _ E0 I J 2 8 CE_2 CE_8 (by omega) T.2.2.1.2 hs) (fun r I1 J1 hq => ?_)
    obtain ⟨rfl, rfl, k1, k2⟩ := hq
    have d1 : CEd T.2.1 I1 := CEd_fr hP.2.1 (fun b hb => k2 b (by omega) (by omega) (by omega))
    refine Ez.blk B_X9_restore_21 (lo' := [some (.ref 1)]) (st' := [.ref 11]) (I' := I1) (J' := J1) (Ps := [aO E0 1 9 ∧ E0.2.2 1 4 ≠ 0]) rfl r_1_4 ?_
    refine Ez.callV (As := []) (b := 11) (rest := []) kn_X4_forgetAll ml_9_89 im_X4_forgetAll se_X4_forgetAll rfl (by decide +kernel) rfl rfl (Nat.le_of_ble_eq_true rfl) (Nat.le_of_ble_eq_true rfl) o_11 (s_forget _ I1 J1 T.2.1 d1) (fun r I2 J2 hq => ?_)
    obtain ⟨rfl, rfl, m1, m2⟩ := hq
    have c2 : Ch I2 2 T.2.2.1.2 := Ch_eq k1 (m2 _ (by omega)) (m2 _ (by omega)) (m2 _ (by omega))
    refine Ez.blk B_X9_restore_28 (lo' := [some (.ref 1)]) (st' := [.int (I2 2 0)]) (I' := I2) (J' := J2) (Ps := [aO E0 1 9 ∧ E0.2.2 1 0 ≠ 0, aO E0 2 1]) rfl ⟨r_1_0, o_2⟩ ?_
    rw [c2.1 0 (by decide)]
    exact Ez.iret rfl (by decide +kernel) (hQ _ _ _ (by unfold f_restore; rw [if_neg h]; exact ⟨rfl, CP_ed hP c2 m1 (fun q g0 g1 g5 => by rw [m2 q (by omega), k2 q (by omega) (by omega) (by omega)]), fun b hb => ⟨by rw [m2 b (by omega), k2 b (by omega) (by omega) (by omega)], rfl⟩⟩))
  · refine Ez.blk B_X9_restore_7 (lo' := [some (.ref 1)]) (st' := [.int (-5)]) (I' := I) (J' := J) (Ps := []) rfl trivial ?_
    exact Ez.iret rfl (by decide +kernel) (hQ _ _ _ (by unfold f_restore; rw [if_pos h]; exact ⟨rfl, hP, fun _ _ => ⟨rfl, rfl⟩⟩))

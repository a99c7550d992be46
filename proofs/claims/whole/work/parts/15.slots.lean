/-! ARRAY SLOTS -/
abbrev isSl (s : Int32) : Prop := 0 ≤ s ∧ s ≤ 3
def nrw (t : Nat) (v : Int64) : Int64 := if t = 1 then v.toInt32.toInt8.toInt32.toInt64 else if t = 2 then (v.toInt32.toUInt32 % 65536).toInt32.toInt64 else if t = 3 then v.toInt32.toInt64 else v
abbrev sTy (T : TS) (s : Nat) : Nat := T.2.2.2.2.1 s
abbrev sSz (T : TS) (s : Nat) : Nat := T.2.2.2.2.2.1 s
abbrev sEl (T : TS) (s k : Nat) : Int64 := T.2.2.2.2.2.2 s k
abbrev setSl (T : TS) (sl : (Nat → Nat) × (Nat → Nat) × (Nat → Nat → Int64)) : TS := (T.1, T.2.1, T.2.2.1, T.2.2.2.1, sl)
def eup (f : Nat → Nat → Int64) (s k : Nat) (v : Int64) : Nat → Nat → Int64 := fun a b => if a = s ∧ b = k then v else f a b
def erow (f : Nat → Nat → Int64) (s : Nat) (g : Nat → Int64) : Nat → Nat → Int64 := fun a b => if a = s then g b else f a b
def f_allocate (T : TS) (s t z : Int32) : Int32 × TS := if isSl s ∧ (0 ≤ t ∧ t ≤ 3) ∧ z ≤ 40 then (if 0 ≤ z then (z, setSl T (cup T.2.2.2.2.1 s.toNatClampNeg (t.toNatClampNeg + 1), cup T.2.2.2.2.2.1 s.toNatClampNeg z.toNatClampNeg, erow T.2.2.2.2.2.2 s.toNatClampNeg (fun _ => 0))) else (-14, T)) else (-1, T)
def f_release (T : TS) (s : Int32) : Int32 × TS := if isSl s then (if sTy T s.toNatClampNeg = 0 then (0, T) else (1, setSl T (cup T.2.2.2.2.1 s.toNatClampNeg 0, T.2.2.2.2.2))) else (-1, T)
abbrev isIx (T : TS) (s : Nat) (i : Int32) : Prop := 0 ≤ i ∧ i < nI (sSz T s)
def f_putElement (T : TS) (s i : Int32) (v : Int64) : Int32 × TS := if isSl s then (if sTy T s.toNatClampNeg = 0 then (-11, T) else if isIx T s.toNatClampNeg i then (1, setSl T (T.2.2.2.2.1, T.2.2.2.2.2.1, eup T.2.2.2.2.2.2 s.toNatClampNeg i.toNatClampNeg (nrw (sTy T s.toNatClampNeg) v))) else (-13, T)) else (-1, T)
def f_element (T : TS) (s i : Int32) : Int64 × TS := if isSl s ∧ ¬ sTy T s.toNatClampNeg = 0 ∧ isIx T s.toNatClampNeg i then (sEl T s.toNatClampNeg i.toNatClampNeg, T) else ((-9223372036854775808), T)
abbrev isRg (T : TS) (s : Nat) (i n : Int32) : Prop := 0 ≤ i ∧ 0 ≤ n ∧ i ≤ nI (sSz T s) - n
def f_copyElements (T : TS) (s i t j n : Int32) : Int32 × TS := if isSl s ∧ isSl t then (if sTy T s.toNatClampNeg = 0 ∨ sTy T t.toNatClampNeg = 0 then (-11, T) else if sTy T s.toNatClampNeg = sTy T t.toNatClampNeg then (if isRg T s.toNatClampNeg i n ∧ isRg T t.toNatClampNeg j n then (n, setSl T (T.2.2.2.2.1, T.2.2.2.2.2.1, erow T.2.2.2.2.2.2 t.toNatClampNeg (va_cpy (T.2.2.2.2.2.2 s.toNatClampNeg) (T.2.2.2.2.2.2 t.toNatClampNeg) i.toNatClampNeg j.toNatClampNeg n.toNatClampNeg))) else (-13, T)) else (-12, T)) else (-1, T)
/-- the first place from k on, of f places, that P holds of -/
def ff (P : Nat → Bool) : Nat → Nat → Option Nat
  | 0, _ => none
  | f + 1, k => if P k then some k else ff P f (k + 1)
theorem ff_none {P : Nat → Bool} : ∀ (f k : Nat), (∀ j, k ≤ j → j < k + f → P j = false) → ff P f k = none
  | 0, _, _ => rfl
  | f + 1, k, h => by
    show (if P k then some k else ff P f (k + 1)) = none
    rw [h k (Nat.le_refl _) (by omega)]
    exact ff_none f (k + 1) (fun j h1 h2 => h j (by omega) (by omega))
theorem ff_some {P : Nat → Bool} : ∀ (f k m : Nat), k ≤ m → m < k + f → P m = true → (∀ j, k ≤ j → j < m → P j = false) → ff P f k = some m
  | 0, k, m, h1, h2, _, _ => by omega
  | f + 1, k, m, h1, h2, h3, h4 => by
    show (if P k then some k else ff P f (k + 1)) = some m
    by_cases e : k = m
    · rw [e, h3]; rfl
    · rw [h4 k (Nat.le_refl _) (by omega)]
      exact ff_some f (k + 1) m (by omega) (by omega) h3 (fun j a b => h4 j (by omega) b)
/-- the array and the weights differ there -/
def mis (T : TS) (s k : Nat) : Bool := decide (sSz T s ≤ k) || decide (T.1 0 * T.1 0 ≤ k) || !(sEl T s k == (nI (T.1 (10 + 6 * (k / T.1 0) + k % T.1 0))).toInt64)
def f_compare (T : TS) (s : Int32) : Int32 × TS := if isSl s then (if sTy T s.toNatClampNeg = 0 then (-11, T) else if sTy T s.toNatClampNeg = 1 then ((match ff (mis T s.toNatClampNeg) (T.1 0 * T.1 0 + sSz T s.toNatClampNeg) 0 with | some k => if k < T.1 0 * T.1 0 ∨ k < sSz T s.toNatClampNeg then nI k else -7 | none => -7), T) else (-12, T)) else (-1, T)
theorem el_at : ∀ s, s < 4 → E0.2.2 88 s = 89 + s := by decide +kernel
theorem el_q : ∀ s, s < 4 → aA E0 (89 + s) 2 40 := by decide +kernel
theorem el_in {s : Nat} {i : Int32} (hs : s < 4) (h : vp_in i 40) : aAr E0 2 (E0.2.2 88 (nI s).toNatClampNeg) i := by rw [nI_clamp (by omega), el_at s hs]; exact aA_in (el_q s hs) h
theorem el_qq {s : Nat} (hs : s < 4) : aA E0 (E0.2.2 88 (nI s).toNatClampNeg) 2 40 := by rw [nI_clamp (by omega), el_at s hs]; exact el_q s hs
theorem m1_eq {n : Nat} (h : n ≤ 4) : (nI n - 1 = (-1 : Int32)) ↔ n = 0 := by
  rcases (show n = 0 ∨ n = 1 ∨ n = 2 ∨ n = 3 ∨ n = 4 by omega) with rfl | rfl | rfl | rfl | rfl <;> decide
theorem m1_0 {n : Nat} (h : n ≤ 4) : (nI n - 1 = (0 : Int32)) ↔ n = 1 := by
  rcases (show n = 0 ∨ n = 1 ∨ n = 2 ∨ n = 3 ∨ n = 4 by omega) with rfl | rfl | rfl | rfl | rfl <;> decide
theorem m1_inj {n m : Nat} (h : n ≤ 4) (h2 : m ≤ 4) : (nI n - 1 = nI m - 1) ↔ n = m := by
  rcases (show n = 0 ∨ n = 1 ∨ n = 2 ∨ n = 3 ∨ n = 4 by omega) with rfl | rfl | rfl | rfl | rfl <;> rcases (show m = 0 ∨ m = 1 ∨ m = 2 ∨ m = 3 ∨ m = 4 by omega) with rfl | rfl | rfl | rfl | rfl <;> decide
/-- the slots alone change -/
theorem CP_sl {T : TS} {I I' : aI} {J J' : aJ} {sl : (Nat → Nat) × (Nat → Nat) × (Nat → Nat → Int64)} (h : CP T I J) (h1 : CSl sl I' J') (hI : ∀ q, q ≠ 86 → q ≠ 87 → I' q = I q) (hJ : ∀ q, ¬ (89 ≤ q ∧ q ≤ 92) → J' q = J q) : CP (setSl T sl) I' J' := ⟨Ch_eq h.1 (hI _ (by omega) (by omega)) (hI _ (by omega) (by omega)) (hI _ (by omega) (by omega)), CEd_fr h.2.1 (fun b _ => hI b (by omega) (by omega)), CSn_fr h.2.2.1 (hI _ (by omega) (by omega)) (fun b _ _ => hI b (by omega) (by omega)), CBuf_fr h.2.2.2.1 (hI _ (by omega) (by omega)) (hI _ (by omega) (by omega)), h1, CCa_fr h.2.2.2.2.2 (fun b _ _ => hI b (by omega) (by omega)) (fun b _ _ => hJ b (by omega))⟩
theorem s_isEmpty (d : Nat) (I : aI) (J : aJ) (T : TS) (W : WT T) (hS : CSl T.2.2.2.2 I J) (s : Nat) (hs : s < 4) : Sp m_X0_isEmpty (d + 1) [.ref 85, .int (nI s)] E0 I J (fun r I' J' => r = some (.int (zb (sTy T s = 0))) ∧ I' = I ∧ J' = J) := by
  refine Sp.of (lo := [some (.ref 85), some (.int (nI s))]) rfl (fun Q hQ => ?_)
  have wt := (W.2.2.2.2 s hs).1
  have wz := (W.2.2.2.2 s hs).2
  refine Ez.blk B_X0_isEmpty_0 (lo' := [some (.ref 85), some (.int (nI s))]) (st' := [.int (-1), .int (I 86 ((nI s).toNatClampNeg))]) (I' := I) (J' := J) (Ps := [aO E0 85 0 ∧ E0.2.2 85 0 ≠ 0, aAr E0 1 86 (nI s)]) rfl ⟨r_85_0, (a_86 (vin (n := s) rfl (by omega) (by decide)))⟩ ?_
  rw [cln (x := nI s) (n := s) rfl (by omega)]
  rw [(hS s hs).1]
  refine Ez.icmp_ne (off := 7) (tgt := 14) (by decide +kernel) (by decide) (fun h => ?_) (fun h => ?_)
  · refine Ez.blk B_X0_isEmpty_14 (lo' := [some (.ref 85), some (.int (nI s))]) (st' := [.int 0]) (I' := I) (J' := J) (Ps := []) rfl trivial ?_
    exact Ez.zret rfl (Or.inl rfl) (by decide +kernel) (hQ _ _ _ ⟨by rw [zb_f (fun q => h ((m1_eq wt).mpr q))], rfl, rfl⟩)
  · refine Ez.blk B_X0_isEmpty_10 (lo' := [some (.ref 85), some (.int (nI s))]) (st' := [.int 1]) (I' := I) (J' := J) (Ps := []) rfl trivial ?_
    exact Ez.zret rfl (Or.inr rfl) (by decide +kernel) (hQ _ _ _ ⟨by rw [zb_t ((m1_eq wt).mp h)], rfl, rfl⟩)
theorem s_hasIndex (d : Nat) (I : aI) (J : aJ) (T : TS) (W : WT T) (hS : CSl T.2.2.2.2 I J) (s : Nat) (hs : s < 4) (i : Int32) : Sp m_X0_hasIndex (d + 1) [.ref 85, .int (nI s), .int i] E0 I J (fun r I' J' => r = some (.int (zb (isIx T s i))) ∧ I' = I ∧ J' = J) := by
  refine Sp.of (lo := [some (.ref 85), some (.int (nI s)), some (.int i)]) rfl (fun Q hQ => ?_)
  have wt := (W.2.2.2.2 s hs).1
  have wz := (W.2.2.2.2 s hs).2
  refine Ez.blk B_X0_hasIndex_0 (lo' := [some (.ref 85), some (.int (nI s)), some (.int i)]) (st' := [.int i]) (I' := I) (J' := J) (Ps := []) rfl trivial ?_
  refine Ez.if_lt (off := 17) (tgt := 18) (by decide +kernel) (by decide) (fun h => ?_) (fun h => ?_)
  · refine Ez.blk B_X0_hasIndex_18 (lo' := [some (.ref 85), some (.int (nI s)), some (.int i)]) (st' := [.int 0]) (I' := I) (J' := J) (Ps := []) rfl trivial ?_
    exact Ez.zret rfl (Or.inl rfl) (by decide +kernel) (hQ _ _ _ ⟨by rw [zb_f (fun q => i32_nlt.mpr q.1 h)], rfl, rfl⟩)
  · refine Ez.blk B_X0_hasIndex_4 (lo' := [some (.ref 85), some (.int (nI s)), some (.int i)]) (st' := [.int (I 87 ((nI s).toNatClampNeg)), .int i]) (I' := I) (J' := J) (Ps := [aO E0 85 0 ∧ E0.2.2 85 1 ≠ 0, aAr E0 1 87 (nI s)]) rfl ⟨r_85_1, (a_87 (vin (n := s) rfl (by omega) (by decide)))⟩ ?_
    rw [cln (x := nI s) (n := s) rfl (by omega)]
    rw [(hS s hs).2.1]
    refine Ez.icmp_ge (off := 7) (tgt := 18) (by decide +kernel) (by decide) (fun h2 => ?_) (fun h2 => ?_)
    · refine Ez.blk B_X0_hasIndex_18 (lo' := [some (.ref 85), some (.int (nI s)), some (.int i)]) (st' := [.int 0]) (I' := I) (J' := J) (Ps := []) rfl trivial ?_
      exact Ez.zret rfl (Or.inl rfl) (by decide +kernel) (hQ _ _ _ ⟨by rw [zb_f (fun q => i32_nlt.mpr h2 q.2)], rfl, rfl⟩)
    · refine Ez.blk B_X0_hasIndex_14 (lo' := [some (.ref 85), some (.int (nI s)), some (.int i)]) (st' := [.int 1]) (I' := I) (J' := J) (Ps := []) rfl trivial ?_
      exact Ez.zret rfl (Or.inr rfl) (by decide +kernel) (hQ _ _ _ ⟨by rw [zb_t ⟨i32_nlt.mp h, Classical.not_not.mp (fun q => h2 (i32_nlt.mp q))⟩], rfl, rfl⟩)
theorem s_hasRange (d : Nat) (I : aI) (J : aJ) (T : TS) (W : WT T) (hS : CSl T.2.2.2.2 I J) (s : Nat) (hs : s < 4) (i n : Int32) : Sp m_X0_hasRange (d + 1) [.ref 85, .int (nI s), .int i, .int n] E0 I J (fun r I' J' => r = some (.int (zb (isRg T s i n))) ∧ I' = I ∧ J' = J) := by
  refine Sp.of (lo := [some (.ref 85), some (.int (nI s)), some (.int i), some (.int n)]) rfl (fun Q hQ => ?_)
  have wt := (W.2.2.2.2 s hs).1
  have wz := (W.2.2.2.2 s hs).2
  refine Ez.blk B_X0_hasRange_0 (lo' := [some (.ref 85), some (.int (nI s)), some (.int i), some (.int n)]) (st' := [.int i]) (I' := I) (J' := J) (Ps := []) rfl trivial ?_
  refine Ez.if_lt (off := 23) (tgt := 24) (by decide +kernel) (by decide) (fun h => ?_) (fun h => ?_)
  · refine Ez.blk B_X0_hasRange_24 (lo' := [some (.ref 85), some (.int (nI s)), some (.int i), some (.int n)]) (st' := [.int 0]) (I' := I) (J' := J) (Ps := []) rfl trivial ?_
    exact Ez.zret rfl (Or.inl rfl) (by decide +kernel) (hQ _ _ _ ⟨by rw [zb_f (fun q => i32_nlt.mpr q.1 h)], rfl, rfl⟩)
  · refine Ez.blk B_X0_hasRange_4 (lo' := [some (.ref 85), some (.int (nI s)), some (.int i), some (.int n)]) (st' := [.int n]) (I' := I) (J' := J) (Ps := []) rfl trivial ?_
    refine Ez.if_lt (off := 19) (tgt := 24) (by decide +kernel) (by decide) (fun h1 => ?_) (fun h1 => ?_)
    · refine Ez.blk B_X0_hasRange_24 (lo' := [some (.ref 85), some (.int (nI s)), some (.int i), some (.int n)]) (st' := [.int 0]) (I' := I) (J' := J) (Ps := []) rfl trivial ?_
      exact Ez.zret rfl (Or.inl rfl) (by decide +kernel) (hQ _ _ _ ⟨by rw [zb_f (fun q => i32_nlt.mpr q.2.1 h1)], rfl, rfl⟩)
    · refine Ez.blk B_X0_hasRange_8 (lo' := [some (.ref 85), some (.int (nI s)), some (.int i), some (.int n)]) (st' := [.int (I 87 ((nI s).toNatClampNeg) - n), .int i]) (I' := I) (J' := J) (Ps := [aO E0 85 0 ∧ E0.2.2 85 1 ≠ 0, aAr E0 1 87 (nI s)]) rfl ⟨r_85_1, (a_87 (vin (n := s) rfl (by omega) (by decide)))⟩ ?_
      rw [cln (x := nI s) (n := s) rfl (by omega)]
      rw [(hS s hs).2.1]
      refine Ez.icmp_gt (off := 7) (tgt := 24) (by decide +kernel) (by decide) (fun h2 => ?_) (fun h2 => ?_)
      · refine Ez.blk B_X0_hasRange_24 (lo' := [some (.ref 85), some (.int (nI s)), some (.int i), some (.int n)]) (st' := [.int 0]) (I' := I) (J' := J) (Ps := []) rfl trivial ?_
        exact Ez.zret rfl (Or.inl rfl) (by decide +kernel) (hQ _ _ _ ⟨by rw [zb_f (fun q => i32_nlt.mpr q.2.2 h2)], rfl, rfl⟩)
      · refine Ez.blk B_X0_hasRange_20 (lo' := [some (.ref 85), some (.int (nI s)), some (.int i), some (.int n)]) (st' := [.int 1]) (I' := I) (J' := J) (Ps := []) rfl trivial ?_
        exact Ez.zret rfl (Or.inr rfl) (by decide +kernel) (hQ _ _ _ ⟨by rw [zb_t ⟨i32_nlt.mp h, i32_nlt.mp h1, i32_nlt.mp h2⟩], rfl, rfl⟩)
theorem s_narrowed (d : Nat) (I : aI) (J : aJ) (t : Nat) (v : Int64) (h1 : 1 ≤ t) (h4 : t ≤ 4) : Sp m_X0_narrowed (d + 1) [.long v, .int (nI t - 1)] E0 I J (fun r I' J' => r = some (.long (nrw t v)) ∧ I' = I ∧ J' = J) := by
  refine Sp.of (lo := [some (.long v), none, some (.int (nI t - 1))]) rfl (fun Q hQ => ?_)
  refine Ez.blk B_X0_narrowed_0 (lo' := [some (.long v), none, some (.int (nI t - 1))]) (st' := [.int (nI t - 1)]) (I' := I) (J' := J) (Ps := []) rfl trivial ?_
  rcases (show t = 1 ∨ t = 2 ∨ t = 3 ∨ t = 4 by omega) with rfl | rfl | rfl | rfl
  · refine Ez.tabIn (off := 27) (tgt := 28) (dflt := 41) (lo1 := 0) (hi1 := 2) (offs := #[27, 32, 37]) (len := 27) (by decide +kernel) (by decide) (by decide) (by decide) (by decide) ?_
    refine Ez.blk B_X0_narrowed_28 (lo' := [some (.long v), none, some (.int (nI 1 - 1))]) (st' := [.long v.toInt32.toInt8.toInt32.toInt64]) (I' := I) (J' := J) (Ps := []) rfl trivial ?_
    exact Ez.lret rfl (by decide +kernel) (hQ _ _ _ ⟨rfl, rfl, rfl⟩)
  · refine Ez.tabIn (off := 32) (tgt := 33) (dflt := 41) (lo1 := 0) (hi1 := 2) (offs := #[27, 32, 37]) (len := 27) (by decide +kernel) (by decide) (by decide) (by decide) (by decide) ?_
    refine Ez.blk B_X0_narrowed_33 (lo' := [some (.long v), none, some (.int (nI 2 - 1))]) (st' := [.long (v.toInt32.toUInt32 % 65536).toInt32.toInt64]) (I' := I) (J' := J) (Ps := []) rfl trivial ?_
    exact Ez.lret rfl (by decide +kernel) (hQ _ _ _ ⟨rfl, rfl, rfl⟩)
  · refine Ez.tabIn (off := 37) (tgt := 38) (dflt := 41) (lo1 := 0) (hi1 := 2) (offs := #[27, 32, 37]) (len := 27) (by decide +kernel) (by decide) (by decide) (by decide) (by decide) ?_
    refine Ez.blk B_X0_narrowed_38 (lo' := [some (.long v), none, some (.int (nI 3 - 1))]) (st' := [.long v.toInt32.toInt64]) (I' := I) (J' := J) (Ps := []) rfl trivial ?_
    exact Ez.lret rfl (by decide +kernel) (hQ _ _ _ ⟨rfl, rfl, rfl⟩)
  · refine Ez.tabOut (tgt := 42) (dflt := 41) (lo1 := 0) (hi1 := 2) (offs := #[27, 32, 37]) (len := 27) (by decide +kernel) (by decide) (by decide) ?_
    refine Ez.blk B_X0_narrowed_42 (lo' := [some (.long v), none, some (.int (nI 4 - 1))]) (st' := [.long v]) (I' := I) (J' := J) (Ps := []) rfl trivial ?_
    exact Ez.lret rfl (by decide +kernel) (hQ _ _ _ ⟨rfl, rfl, rfl⟩)
theorem s_fillNew (d : Nat) (I : aI) (J : aJ) (s t z : Nat) (hs : s < 4) (ht : t ≤ 3) (hz : z ≤ 40) : Sp m_X0_fillNew (d + 1) [.ref 85, .int (nI s), .int (nI t), .int (nI z)] E0 I J (fun r I' J' => r = none ∧ I' = aUp (aUp I 86 s (nI t)) 87 s (nI z) ∧ (∀ k, k < 40 → J' (89 + s) k = 0) ∧ ∀ q, q ≠ 89 + s → J' q = J q) := by
  refine Sp.of (lo := [some (.ref 85), some (.int (nI s)), some (.int (nI t)), some (.int (nI z)), none]) rfl (fun Q hQ => ?_)
  obtain ⟨I1, hI1⟩ : ∃ I1, I1 = aUp (aUp I 86 s (nI t)) 87 s (nI z) := ⟨_, rfl⟩
  have L1 : ∀ k, k ≤ 40 → ∀ (J1 : aJ), ((∀ j, j < k → J1 (89 + s) j = 0) ∧ ∀ q, q ≠ 89 + s → J1 q = J q) → Ez m_X0_fillNew (d + 1) 17 [some (.ref 85), some (.int (nI s)), some (.int (nI t)), some (.int (nI z)), some (.int (nI k))] [] E0 I1 J1 Q := by
    refine for_up ?_ ?_
    · intro J1 hi
      refine Ez.blk B_X0_fillNew_17 (lo' := [some (.ref 85), some (.int (nI s)), some (.int (nI t)), some (.int (nI z)), some (.int (nI 40))]) (st' := [.int 40, .int (nI 40)]) (I' := I1) (J' := J1) (Ps := []) rfl trivial ?_
      refine Ez.n_icmp_ge (off := 19) (tgt := 40) (by decide +kernel) (by decide) (a := 40) (b := 40) rfl rfl (by omega) (by omega) (fun h => ?_) (fun h => absurd h (by omega))
      exact Ez.vret rfl (by decide +kernel) (hQ _ _ _ ⟨rfl, hI1, hi.1, hi.2⟩)
    · intro k hk ih J1 hi
      refine Ez.blk B_X0_fillNew_17 (lo' := [some (.ref 85), some (.int (nI s)), some (.int (nI t)), some (.int (nI z)), some (.int (nI k))]) (st' := [.int 40, .int (nI k)]) (I' := I1) (J' := J1) (Ps := []) rfl trivial ?_
      refine Ez.n_icmp_ge (off := 19) (tgt := 40) (by decide +kernel) (by decide) (a := k) (b := 40) rfl rfl (by omega) (by omega) (fun h => absurd h (by omega)) (fun h => ?_)
      refine Ez.blk B_X0_fillNew_24 (lo' := [some (.ref 85), some (.int (nI s)), some (.int (nI t)), some (.int (nI z)), some (.int (nI k + 1))]) (st' := []) (I' := I1) (J' := (aUpJ J1 (E0.2.2 88 (nI s).toNatClampNeg) ((nI k).toNatClampNeg) 0)) (Ps := [aO E0 85 0 ∧ E0.2.2 85 2 ≠ 0, aAr E0 5 88 (nI s) ∧ E0.2.2 88 ((nI s).toNatClampNeg) ≠ 0, aAr E0 2 (E0.2.2 88 (nI s).toNatClampNeg) (nI k)]) rfl ⟨r_85_2, (a_88 (k := s) rfl (by omega)), (el_in hs (vin (n := k) rfl (by omega) (by decide)))⟩ ?_
      rw [cln (x := nI s) (n := s) rfl (by omega)]
      rw [cln (x := nI k) (n := k) rfl (by omega)]
      rw [show (nI k + 1) = nI (k + 1) from (eq_add (a := k) (b := 1) rfl rfl)]
      rw [el_at s hs]
      exact ih _ ⟨fun j hj => by
        by_cases e : j = k
        · rw [e]; unfold aUpJ; rw [if_pos ⟨rfl, rfl⟩]
        · unfold aUpJ; rw [if_neg (fun q => e q.2)]; exact hi.1 j (by omega), fun q hq => by rw [aUpJ_ne hq]; exact hi.2 q hq⟩
  refine Ez.blk B_X0_fillNew_0 (lo' := [some (.ref 85), some (.int (nI s)), some (.int (nI t)), some (.int (nI z)), some (.int 0)]) (st' := []) (I' := (aUp (aUp I 86 ((nI s).toNatClampNeg) (nI t)) 87 ((nI s).toNatClampNeg) (nI z))) (J' := J) (Ps := [aO E0 85 0 ∧ E0.2.2 85 0 ≠ 0, aAr E0 1 86 (nI s), aO E0 85 0 ∧ E0.2.2 85 1 ≠ 0, aAr E0 1 87 (nI s)]) rfl ⟨r_85_0, (a_86 (vin (n := s) rfl (by omega) (by decide))), r_85_1, (a_87 (vin (n := s) rfl (by omega) (by decide)))⟩ ?_
  rw [cln (x := nI s) (n := s) rfl (by omega)]
  rw [← hI1]
  exact L1 0 (by omega) J ⟨fun j hj => by omega, fun _ _ => rfl⟩
theorem s_isSlot (d : Nat) (I : aI) (J : aJ) (s : Int32) : Sp m_X9_isSlot (d + 2) [.int s] E0 I J (fun r I' J' => r = some (.int (zb (isSl s))) ∧ I' = I ∧ J' = J) := by
  refine Sp.of (lo := [some (.int s)]) rfl (fun Q hQ => ?_)
  refine Ez.blk B_X9_isSlot_0 (lo' := [some (.int s)]) (st' := [.int 3, .int 0, .int s]) (I' := I) (J' := J) (Ps := []) rfl trivial ?_
  refine Ez.callS (As := [.int s, .int 0, .int 3]) (rest := []) kn_X9_isWithin ml_9_77 sm_X9_isWithin (by decide +kernel) rfl rfl (Nat.le_of_ble_eq_true rfl) (Nat.le_of_ble_eq_true rfl) (s_isWithin _ E0 I J s 0 3) (fun r I1 J1 hq => ?_)
  obtain ⟨rfl, rfl, rfl⟩ := hq
  exact Ez.zret rfl (zb_01 _) (by decide +kernel) (hQ _ _ _ ⟨rfl, rfl, rfl⟩)
theorem c_allocate (d : Nat) (I : aI) (J : aJ) (T : TS) (W : WT T) (hP : CP T I J) (x y z : Int32) : Sp m_X9_allocate (d + 3) [.ref 1, .int x, .int y, .int z] E0 I J (fun r I' J' => r = some (.int (f_allocate T x y z).1) ∧ CP (f_allocate T x y z).2 I' J' ∧ Fr9 I I' J J') := by
  refine Sp.of (lo := [some (.ref 1), some (.int x), some (.int y), some (.int z)]) rfl (fun Q hQ => ?_)
  refine Ez.blk B_X9_allocate_0 (lo' := [some (.ref 1), some (.int x), some (.int y), some (.int z)]) (st' := [.int x]) (I' := I) (J' := J) (Ps := []) rfl trivial ?_
  refine Ez.callS (As := [.int x]) (rest := []) kn_X9_isSlot ml_9_249 sm_X9_isSlot (by decide +kernel) rfl rfl (Nat.le_of_ble_eq_true rfl) (Nat.le_of_ble_eq_true rfl) (s_isSlot _ I J x) (fun r I1 J1 hq => ?_)
  obtain ⟨rfl, rfl, rfl⟩ := hq
  refine Ez.z_if_eq (off := 18) (tgt := 22) (by decide +kernel) (by decide) (fun h => ?_) (fun h => ?_)
  · refine Ez.blk B_X9_allocate_22 (lo' := [some (.ref 1), some (.int x), some (.int y), some (.int z)]) (st' := [.int (-1)]) (I' := I1) (J' := J1) (Ps := []) rfl trivial ?_
    exact Ez.iret rfl (by decide +kernel) (hQ _ _ _ (by unfold f_allocate; rw [if_neg (fun q => h q.1)]; exact ⟨rfl, hP, fun _ _ => ⟨rfl, rfl⟩⟩))
  · refine Ez.blk B_X9_allocate_7 (lo' := [some (.ref 1), some (.int x), some (.int y), some (.int z)]) (st' := [.int 3, .int 0, .int y]) (I' := I1) (J' := J1) (Ps := []) rfl trivial ?_
    refine Ez.callS (As := [.int y, .int 0, .int 3]) (rest := []) kn_X9_isWithin ml_9_77 sm_X9_isWithin (by decide +kernel) rfl rfl (Nat.le_of_ble_eq_true rfl) (Nat.le_of_ble_eq_true rfl) (s_isWithin _ E0 I1 J1 y 0 3) (fun r I2 J2 hq => ?_)
    obtain ⟨rfl, rfl, rfl⟩ := hq
    refine Ez.z_if_eq (off := 9) (tgt := 22) (by decide +kernel) (by decide) (fun h2 => ?_) (fun h2 => ?_)
    · refine Ez.blk B_X9_allocate_22 (lo' := [some (.ref 1), some (.int x), some (.int y), some (.int z)]) (st' := [.int (-1)]) (I' := I2) (J' := J2) (Ps := []) rfl trivial ?_
      exact Ez.iret rfl (by decide +kernel) (hQ _ _ _ (by unfold f_allocate; rw [if_neg (fun q => h2 q.2.1)]; exact ⟨rfl, hP, fun _ _ => ⟨rfl, rfl⟩⟩))
    · refine Ez.blk B_X9_allocate_16 (lo' := [some (.ref 1), some (.int x), some (.int y), some (.int z)]) (st' := [.int 40, .int z]) (I' := I2) (J' := J2) (Ps := []) rfl trivial ?_
      refine Ez.icmp_le (off := 5) (tgt := 24) (by decide +kernel) (by decide) (fun h3 => ?_) (fun h3 => ?_)
      · refine Ez.blk B_X9_allocate_24 (lo' := [some (.ref 1), some (.int x), some (.int y), some (.int z)]) (st' := [.int z]) (I' := I2) (J' := J2) (Ps := []) rfl trivial ?_
        refine Ez.if_ge (off := 6) (tgt := 31) (by decide +kernel) (by decide) (fun h4 => ?_) (fun h4 => ?_)
        · obtain ⟨s, -, hs, rfl, hsc⟩ := in_of (lo := 0) (hi := 3) (by omega) h (by omega)
          obtain ⟨u, -, hu, rfl, huc⟩ := in_of (lo := 0) (hi := 3) (by omega) h2 (by omega)
          obtain ⟨e, -, he, rfl, hec⟩ := in_of (lo := 0) (hi := 40) (by omega) ⟨h4, h3⟩ (by omega)
          refine Ez.blk B_X9_allocate_31 (lo' := [some (.ref 1), some (.int (nI s)), some (.int (nI u)), some (.int (nI e))]) (st' := [.int (nI e), .int (nI u), .int (nI s), .ref 85]) (I' := I2) (J' := J2) (Ps := [aO E0 1 9 ∧ E0.2.2 1 10 ≠ 0]) rfl r_1_10 ?_
          refine Ez.callV (As := [.int (nI s), .int (nI u), .int (nI e)]) (b := 85) (rest := []) kn_X0_fillNew ml_9_252 im_X0_fillNew se_X0_fillNew rfl (by decide +kernel) rfl rfl (Nat.le_of_ble_eq_true rfl) (Nat.le_of_ble_eq_true rfl) o_85 (s_fillNew _ I2 J2 s u e (by omega) hu he) (fun r I3 J3 hq => ?_)
          obtain ⟨rfl, rfl, k1, k2⟩ := hq
          refine Ez.blk B_X9_allocate_41 (lo' := [some (.ref 1), some (.int (nI s)), some (.int (nI u)), some (.int (nI e))]) (st' := [.int (nI e)]) (I' := (aUp (aUp I2 86 s (nI u)) 87 s (nI e))) (J' := J3) (Ps := []) rfl trivial ?_
          exact Ez.iret rfl (by decide +kernel) (hQ _ _ _ (by
            unfold f_allocate
            rw [if_pos ⟨h, h2, h3⟩, if_pos h4, hsc, huc, hec]
            refine ⟨rfl, CP_sl hP (fun a ha => ?_) (fun q h0 h1 => by rw [aUp_ne h1, aUp_ne h0]) (fun q hq => k2 q (by omega)), fun b hb => ⟨by rw [aUp_ne (by omega), aUp_ne (by omega)], k2 b (by omega)⟩⟩
            obtain ⟨b1, b2, b3⟩ := hP.2.2.2.2.1 a ha
            by_cases e : a = s
            · rw [e]
              refine ⟨?_, ?_, fun k hk => ?_⟩ <;> dsimp only
              · rw [aUp_ne (by omega), aUp_eq, cup_eq, ← nI_1]; exact (Int32.add_sub_cancel _ _).symm
              · rw [aUp_eq, cup_eq]
              · rw [k1 k hk]; unfold erow; rw [if_pos rfl]
            · refine ⟨?_, ?_, fun k hk => ?_⟩ <;> dsimp only
              · rw [aUp_ne (by omega), aUp_nk e, cup_ne e]; exact b1
              · rw [aUp_nk e, aUp_ne (by omega), cup_ne e]; exact b2
              · rw [k2 _ (by omega)]; unfold erow; rw [if_neg e]; exact b3 k hk))
        · refine Ez.blk B_X9_allocate_28 (lo' := [some (.ref 1), some (.int x), some (.int y), some (.int z)]) (st' := [.int (-14)]) (I' := I2) (J' := J2) (Ps := []) rfl trivial ?_
          exact Ez.iret rfl (by decide +kernel) (hQ _ _ _ (by unfold f_allocate; rw [if_pos ⟨h, h2, h3⟩, if_neg h4]; exact ⟨rfl, hP, fun _ _ => ⟨rfl, rfl⟩⟩))
      · refine Ez.blk B_X9_allocate_22 (lo' := [some (.ref 1), some (.int x), some (.int y), some (.int z)]) (st' := [.int (-1)]) (I' := I2) (J' := J2) (Ps := []) rfl trivial ?_
        exact Ez.iret rfl (by decide +kernel) (hQ _ _ _ (by unfold f_allocate; rw [if_neg (fun q => h3 q.2.2)]; exact ⟨rfl, hP, fun _ _ => ⟨rfl, rfl⟩⟩))
theorem c_release (d : Nat) (I : aI) (J : aJ) (T : TS) (W : WT T) (hP : CP T I J) (x : Int32) : Sp m_X9_release (d + 3) [.ref 1, .int x] E0 I J (fun r I' J' => r = some (.int (f_release T x).1) ∧ CP (f_release T x).2 I' J' ∧ Fr9 I I' J J') := by
  refine Sp.of (lo := [some (.ref 1), some (.int x)]) rfl (fun Q hQ => ?_)
  refine Ez.blk B_X9_release_0 (lo' := [some (.ref 1), some (.int x)]) (st' := [.int x]) (I' := I) (J' := J) (Ps := []) rfl trivial ?_
  refine Ez.callS (As := [.int x]) (rest := []) kn_X9_isSlot ml_9_249 sm_X9_isSlot (by decide +kernel) rfl rfl (Nat.le_of_ble_eq_true rfl) (Nat.le_of_ble_eq_true rfl) (s_isSlot _ I J x) (fun r I1 J1 hq => ?_)
  obtain ⟨rfl, rfl, rfl⟩ := hq
  refine Ez.z_if_ne (off := 5) (tgt := 9) (by decide +kernel) (by decide) (fun h => ?_) (fun h => ?_)
  · obtain ⟨s, -, hs, rfl, hsc⟩ := in_of (lo := 0) (hi := 3) (by omega) h (by omega)
    refine Ez.blk B_X9_release_9 (lo' := [some (.ref 1), some (.int (nI s))]) (st' := [.int (nI s), .ref 85]) (I' := I1) (J' := J1) (Ps := [aO E0 1 9 ∧ E0.2.2 1 10 ≠ 0]) rfl r_1_10 ?_
    refine Ez.callV (As := [.int (nI s)]) (b := 85) (rest := []) kn_X0_isEmpty ml_9_256 im_X0_isEmpty se_X0_isEmpty rfl (by decide +kernel) rfl rfl (Nat.le_of_ble_eq_true rfl) (Nat.le_of_ble_eq_true rfl) o_85 (s_isEmpty _ I1 J1 T W hP.2.2.2.2.1 s (by omega)) (fun r I2 J2 hq => ?_)
    obtain ⟨rfl, rfl, rfl⟩ := hq
    refine Ez.z_if_eq (off := 5) (tgt := 22) (by decide +kernel) (by decide) (fun h2 => ?_) (fun h2 => ?_)
    · refine Ez.blk B_X9_release_22 (lo' := [some (.ref 1), some (.int (nI s))]) (st' := [.int 1]) (I' := (aUp I2 86 ((nI s).toNatClampNeg) (-1))) (J' := J2) (Ps := [aO E0 1 9 ∧ E0.2.2 1 10 ≠ 0, aO E0 85 0 ∧ E0.2.2 85 0 ≠ 0, aAr E0 1 86 (nI s)]) rfl ⟨r_1_10, r_85_0, (a_86 (vin (n := s) rfl (by omega) (by decide)))⟩ ?_
      rw [cln (x := nI s) (n := s) rfl (by omega)]
      generalize hI3 : (aUp I2 86 s (-1)) = I3
      exact Ez.iret rfl (by decide +kernel) (hQ _ _ _ (by
        unfold f_release
        rw [if_pos h, hsc, if_neg h2]
        have g : ∀ q, q ≠ 86 → I3 q = I2 q := fun q hq => by rw [← hI3, aUp_ne hq]
        refine ⟨rfl, CP_sl hP (fun a ha => ?_) (fun q h0 h1 => g q h0) (fun _ _ => rfl), fun b hb => ⟨g b (by omega), rfl⟩⟩
        obtain ⟨b1, b2, b3⟩ := hP.2.2.2.2.1 a ha
        refine ⟨?_, by rw [g 87 (by omega)]; exact b2, b3⟩
        dsimp only
        rw [← hI3]
        by_cases e : a = s
        · rw [e, aUp_eq, cup_eq]; rfl
        · rw [aUp_nk e, cup_ne e]; exact b1))
    · refine Ez.blk B_X9_release_20 (lo' := [some (.ref 1), some (.int (nI s))]) (st' := [.int 0]) (I' := I2) (J' := J2) (Ps := []) rfl trivial ?_
      exact Ez.iret rfl (by decide +kernel) (hQ _ _ _ (by unfold f_release; rw [if_pos h, hsc, if_pos h2]; exact ⟨rfl, hP, fun _ _ => ⟨rfl, rfl⟩⟩))
  · refine Ez.blk B_X9_release_7 (lo' := [some (.ref 1), some (.int x)]) (st' := [.int (-1)]) (I' := I1) (J' := J1) (Ps := []) rfl trivial ?_
    exact Ez.iret rfl (by decide +kernel) (hQ _ _ _ (by unfold f_release; rw [if_neg h]; exact ⟨rfl, hP, fun _ _ => ⟨rfl, rfl⟩⟩))
theorem c_putElement (d : Nat) (I : aI) (J : aJ) (T : TS) (W : WT T) (hP : CP T I J) (x y : Int32) (v : Int64) : Sp m_X9_putElement (d + 3) [.ref 1, .int x, .int y, .long v] E0 I J (fun r I' J' => r = some (.int (f_putElement T x y v).1) ∧ CP (f_putElement T x y v).2 I' J' ∧ Fr9 I I' J J') := by
  refine Sp.of (lo := [some (.ref 1), some (.int x), some (.int y), some (.long v), none]) rfl (fun Q hQ => ?_)
  refine Ez.blk B_X9_putElement_0 (lo' := [some (.ref 1), some (.int x), some (.int y), some (.long v), none]) (st' := [.int x]) (I' := I) (J' := J) (Ps := []) rfl trivial ?_
  refine Ez.callS (As := [.int x]) (rest := []) kn_X9_isSlot ml_9_249 sm_X9_isSlot (by decide +kernel) rfl rfl (Nat.le_of_ble_eq_true rfl) (Nat.le_of_ble_eq_true rfl) (s_isSlot _ I J x) (fun r I1 J1 hq => ?_)
  obtain ⟨rfl, rfl, rfl⟩ := hq
  refine Ez.z_if_ne (off := 5) (tgt := 9) (by decide +kernel) (by decide) (fun h => ?_) (fun h => ?_)
  · obtain ⟨s, -, hs, rfl, hsc⟩ := in_of (lo := 0) (hi := 3) (by omega) h (by omega)
    have hs4 : s < 4 := by omega
    have wt : sTy T s ≤ 4 := (W.2.2.2.2 s hs4).1
    have wz : sSz T s ≤ 40 := (W.2.2.2.2 s hs4).2
    refine Ez.blk B_X9_putElement_9 (lo' := [some (.ref 1), some (.int (nI s)), some (.int y), some (.long v), none]) (st' := [.int (nI s), .ref 85]) (I' := I1) (J' := J1) (Ps := [aO E0 1 9 ∧ E0.2.2 1 10 ≠ 0]) rfl r_1_10 ?_
    refine Ez.callV (As := [.int (nI s)]) (b := 85) (rest := []) kn_X0_isEmpty ml_9_256 im_X0_isEmpty se_X0_isEmpty rfl (by decide +kernel) rfl rfl (Nat.le_of_ble_eq_true rfl) (Nat.le_of_ble_eq_true rfl) o_85 (s_isEmpty _ I1 J1 T W hP.2.2.2.2.1 s hs4) (fun r I2 J2 hq => ?_)
    obtain ⟨rfl, rfl, rfl⟩ := hq
    refine Ez.z_if_eq (off := 6) (tgt := 23) (by decide +kernel) (by decide) (fun h2 => ?_) (fun h2 => ?_)
    · refine Ez.blk B_X9_putElement_23 (lo' := [some (.ref 1), some (.int (nI s)), some (.int y), some (.long v), none]) (st' := [.int y, .int (nI s), .ref 85]) (I' := I2) (J' := J2) (Ps := [aO E0 1 9 ∧ E0.2.2 1 10 ≠ 0]) rfl r_1_10 ?_
      refine Ez.callV (As := [.int (nI s), .int y]) (b := 85) (rest := []) kn_X0_hasIndex ml_9_262 im_X0_hasIndex se_X0_hasIndex rfl (by decide +kernel) rfl rfl (Nat.le_of_ble_eq_true rfl) (Nat.le_of_ble_eq_true rfl) o_85 (s_hasIndex _ I2 J2 T W hP.2.2.2.2.1 s hs4 y) (fun r I3 J3 hq => ?_)
      obtain ⟨rfl, rfl, rfl⟩ := hq
      refine Ez.z_if_ne (off := 6) (tgt := 38) (by decide +kernel) (by decide) (fun h3 => ?_) (fun h3 => ?_)
      · obtain ⟨i, hi, rfl, hic⟩ := st_of (by omega) h3
        refine Ez.blk B_X9_putElement_38 (lo' := [some (.ref 1), some (.int (nI s)), some (.int (nI i)), some (.long v), none]) (st' := [.int (I3 86 ((nI s).toNatClampNeg)), .long v, .int (nI i), .ref (E0.2.2 88 (nI s).toNatClampNeg)]) (I' := I3) (J' := J3) (Ps := [aO E0 1 9 ∧ E0.2.2 1 10 ≠ 0, aO E0 85 0 ∧ E0.2.2 85 2 ≠ 0, aAr E0 5 88 (nI s) ∧ E0.2.2 88 ((nI s).toNatClampNeg) ≠ 0, aO E0 1 9 ∧ E0.2.2 1 10 ≠ 0, aO E0 85 0 ∧ E0.2.2 85 0 ≠ 0, aAr E0 1 86 (nI s)]) rfl ⟨r_1_10, r_85_2, (a_88 (k := s) rfl (by omega)), r_1_10, r_85_0, (a_86 (vin (n := s) rfl (by omega) (by decide)))⟩ ?_
        rw [cln (x := nI s) (n := s) rfl (by omega)]
        rw [(hP.2.2.2.2.1 s hs4).1]
        refine Ez.callS (As := [.long v, .int (nI (sTy T s) - 1)]) (rest := [.int (nI i), .ref (E0.2.2 88 s)]) kn_X0_narrowed ml_9_270 sm_X0_narrowed (by decide +kernel) rfl rfl (Nat.le_of_ble_eq_true rfl) (Nat.le_of_ble_eq_true rfl) (s_narrowed _ I3 J3 (sTy T s) v (by omega) wt) (fun r I4 J4 hq => ?_)
        obtain ⟨rfl, rfl, rfl⟩ := hq
        rw [el_at s hs4]
        refine Ez.blk B_X9_putElement_61 (lo' := [some (.ref 1), some (.int (nI s)), some (.int (nI i)), some (.long v), none]) (st' := [.int 1]) (I' := I4) (J' := (aUpJ J4 (89 + s) ((nI i).toNatClampNeg) (nrw (sTy T s) v))) (Ps := [aAr E0 2 (89 + s) (nI i)]) rfl (aA_in (el_q s hs4) (vin (n := i) rfl (by omega) (by decide))) ?_
        rw [cln (x := nI i) (n := i) rfl (by omega)]
        generalize hJ5 : (aUpJ J4 (89 + s) i (nrw (sTy T s) v)) = J5
        exact Ez.iret rfl (by decide +kernel) (hQ _ _ _ (by
          unfold f_putElement
          rw [if_pos h, hsc, if_neg h2, if_pos h3, hic]
          have g : ∀ q, q ≠ 89 + s → J5 q = J4 q := fun q hq => by rw [← hJ5, aUpJ_ne hq]
          refine ⟨rfl, CP_sl hP (fun a ha => ?_) (fun _ _ _ => rfl) (fun q hq => g q (by omega)), fun b hb => ⟨rfl, g b (by omega)⟩⟩
          obtain ⟨b1, b2, b3⟩ := hP.2.2.2.2.1 a ha
          refine ⟨b1, b2, fun k hk => ?_⟩
          dsimp only
          unfold eup
          by_cases e : a = s
          · rw [e, ← hJ5]
            unfold aUpJ
            by_cases e2 : k = i
            · rw [if_pos ⟨rfl, e2⟩, if_pos ⟨rfl, e2⟩]
            · rw [if_neg (fun q => e2 q.2), if_neg (fun q => e2 q.2), ← e]; exact b3 k hk
          · rw [g _ (by omega), if_neg (fun q => e q.1)]; exact b3 k hk))
      · refine Ez.blk B_X9_putElement_35 (lo' := [some (.ref 1), some (.int (nI s)), some (.int y), some (.long v), none]) (st' := [.int (-13)]) (I' := I3) (J' := J3) (Ps := []) rfl trivial ?_
        exact Ez.iret rfl (by decide +kernel) (hQ _ _ _ (by unfold f_putElement; rw [if_pos h, hsc, if_neg h2, if_neg h3]; exact ⟨rfl, hP, fun _ _ => ⟨rfl, rfl⟩⟩))
    · refine Ez.blk B_X9_putElement_20 (lo' := [some (.ref 1), some (.int (nI s)), some (.int y), some (.long v), none]) (st' := [.int (-11)]) (I' := I2) (J' := J2) (Ps := []) rfl trivial ?_
      exact Ez.iret rfl (by decide +kernel) (hQ _ _ _ (by unfold f_putElement; rw [if_pos h, hsc, if_pos h2]; exact ⟨rfl, hP, fun _ _ => ⟨rfl, rfl⟩⟩))
  · refine Ez.blk B_X9_putElement_7 (lo' := [some (.ref 1), some (.int x), some (.int y), some (.long v), none]) (st' := [.int (-1)]) (I' := I1) (J' := J1) (Ps := []) rfl trivial ?_
    exact Ez.iret rfl (by decide +kernel) (hQ _ _ _ (by unfold f_putElement; rw [if_neg h]; exact ⟨rfl, hP, fun _ _ => ⟨rfl, rfl⟩⟩))
theorem c_element (d : Nat) (I : aI) (J : aJ) (T : TS) (W : WT T) (hP : CP T I J) (x y : Int32) : Sp m_X9_element (d + 3) [.ref 1, .int x, .int y] E0 I J (fun r I' J' => r = some (.long (f_element T x y).1) ∧ CP (f_element T x y).2 I' J' ∧ Fr9 I I' J J') := by
  refine Sp.of (lo := [some (.ref 1), some (.int x), some (.int y)]) rfl (fun Q hQ => ?_)
  refine Ez.blk B_X9_element_0 (lo' := [some (.ref 1), some (.int x), some (.int y)]) (st' := [.int x]) (I' := I) (J' := J) (Ps := []) rfl trivial ?_
  refine Ez.callS (As := [.int x]) (rest := []) kn_X9_isSlot ml_9_249 sm_X9_isSlot (by decide +kernel) rfl rfl (Nat.le_of_ble_eq_true rfl) (Nat.le_of_ble_eq_true rfl) (s_isSlot _ I J x) (fun r I1 J1 hq => ?_)
  obtain ⟨rfl, rfl, rfl⟩ := hq
  refine Ez.z_if_eq (off := 26) (tgt := 30) (by decide +kernel) (by decide) (fun h => ?_) (fun h => ?_)
  · refine Ez.blk B_X9_element_30 (lo' := [some (.ref 1), some (.int x), some (.int y)]) (st' := [.long (-9223372036854775808)]) (I' := I1) (J' := J1) (Ps := []) rfl trivial ?_
    exact Ez.lret rfl (by decide +kernel) (hQ _ _ _ (by unfold f_element; rw [if_neg (fun q => h q.1)]; exact ⟨rfl, hP, fun _ _ => ⟨rfl, rfl⟩⟩))
  · obtain ⟨s, -, hs, rfl, hsc⟩ := in_of (lo := 0) (hi := 3) (by omega) h (by omega)
    have hs4 : s < 4 := by omega
    have wt : sTy T s ≤ 4 := (W.2.2.2.2 s hs4).1
    have wz : sSz T s ≤ 40 := (W.2.2.2.2 s hs4).2
    refine Ez.blk B_X9_element_7 (lo' := [some (.ref 1), some (.int (nI s)), some (.int y)]) (st' := [.int (nI s), .ref 85]) (I' := I1) (J' := J1) (Ps := [aO E0 1 9 ∧ E0.2.2 1 10 ≠ 0]) rfl r_1_10 ?_
    refine Ez.callV (As := [.int (nI s)]) (b := 85) (rest := []) kn_X0_isEmpty ml_9_256 im_X0_isEmpty se_X0_isEmpty rfl (by decide +kernel) rfl rfl (Nat.le_of_ble_eq_true rfl) (Nat.le_of_ble_eq_true rfl) o_85 (s_isEmpty _ I1 J1 T W hP.2.2.2.2.1 s hs4) (fun r I2 J2 hq => ?_)
    obtain ⟨rfl, rfl, rfl⟩ := hq
    refine Ez.z_if_ne (off := 15) (tgt := 30) (by decide +kernel) (by decide) (fun h2 => ?_) (fun h2 => ?_)
    · refine Ez.blk B_X9_element_30 (lo' := [some (.ref 1), some (.int (nI s)), some (.int y)]) (st' := [.long (-9223372036854775808)]) (I' := I2) (J' := J2) (Ps := []) rfl trivial ?_
      exact Ez.lret rfl (by decide +kernel) (hQ _ _ _ (by unfold f_element; rw [hsc, if_neg (fun q => q.2.1 h2)]; exact ⟨rfl, hP, fun _ _ => ⟨rfl, rfl⟩⟩))
    · refine Ez.blk B_X9_element_18 (lo' := [some (.ref 1), some (.int (nI s)), some (.int y)]) (st' := [.int y, .int (nI s), .ref 85]) (I' := I2) (J' := J2) (Ps := [aO E0 1 9 ∧ E0.2.2 1 10 ≠ 0]) rfl r_1_10 ?_
      refine Ez.callV (As := [.int (nI s), .int y]) (b := 85) (rest := []) kn_X0_hasIndex ml_9_262 im_X0_hasIndex se_X0_hasIndex rfl (by decide +kernel) rfl rfl (Nat.le_of_ble_eq_true rfl) (Nat.le_of_ble_eq_true rfl) o_85 (s_hasIndex _ I2 J2 T W hP.2.2.2.2.1 s hs4 y) (fun r I3 J3 hq => ?_)
      obtain ⟨rfl, rfl, rfl⟩ := hq
      refine Ez.z_if_ne (off := 7) (tgt := 34) (by decide +kernel) (by decide) (fun h3 => ?_) (fun h3 => ?_)
      · obtain ⟨i, hi, rfl, hic⟩ := st_of (by omega) h3
        refine Ez.blk B_X9_element_34 (lo' := [some (.ref 1), some (.int (nI s)), some (.int (nI i))]) (st' := [.long (J3 (E0.2.2 88 (nI s).toNatClampNeg) ((nI i).toNatClampNeg))]) (I' := I3) (J' := J3) (Ps := [aO E0 1 9 ∧ E0.2.2 1 10 ≠ 0, aO E0 85 0 ∧ E0.2.2 85 2 ≠ 0, aAr E0 5 88 (nI s) ∧ E0.2.2 88 ((nI s).toNatClampNeg) ≠ 0, aAr E0 2 (E0.2.2 88 (nI s).toNatClampNeg) (nI i)]) rfl ⟨r_1_10, r_85_2, (a_88 (k := s) rfl (by omega)), (el_in hs4 (vin (n := i) rfl (by omega) (by decide)))⟩ ?_
        rw [cln (x := nI s) (n := s) rfl (by omega)]
        rw [cln (x := nI i) (n := i) rfl (by omega)]
        rw [el_at s hs4, (hP.2.2.2.2.1 s hs4).2.2 i (by omega)]
        exact Ez.lret rfl (by decide +kernel) (hQ _ _ _ (by unfold f_element; rw [hsc, if_pos ⟨h, h2, h3⟩, hic]; exact ⟨rfl, hP, fun _ _ => ⟨rfl, rfl⟩⟩))
      · refine Ez.blk B_X9_element_30 (lo' := [some (.ref 1), some (.int (nI s)), some (.int y)]) (st' := [.long (-9223372036854775808)]) (I' := I3) (J' := J3) (Ps := []) rfl trivial ?_
        exact Ez.lret rfl (by decide +kernel) (hQ _ _ _ (by unfold f_element; rw [hsc, if_neg (fun q => h3 q.2.2)]; exact ⟨rfl, hP, fun _ _ => ⟨rfl, rfl⟩⟩))
theorem rg_of {a m z : Nat} (ha : a < 2147483648) (hm : m < 2147483648) (hz : z ≤ 40) (h : nI a ≤ nI z - nI m) : a + m ≤ z := by
  rw [Int32.le_iff_toInt_le, nI_toInt ha, Int32.toInt_sub, nI_toInt (by omega), nI_toInt hm] at h
  have e : ((z : Int) - m).bmod (2 ^ 32) = (z : Int) - m := Int.bmod_eq_of_le (by omega) (by omega)
  rw [e] at h
  omega
theorem c_copyElements (d : Nat) (I : aI) (J : aJ) (T : TS) (W : WT T) (hP : CP T I J) (x i y j n : Int32) : Sp m_X9_copyElements (d + 3) [.ref 1, .int x, .int i, .int y, .int j, .int n] E0 I J (fun r I' J' => r = some (.int (f_copyElements T x i y j n).1) ∧ CP (f_copyElements T x i y j n).2 I' J' ∧ Fr9 I I' J J') := by
  refine Sp.of (lo := [some (.ref 1), some (.int x), some (.int i), some (.int y), some (.int j), some (.int n)]) rfl (fun Q hQ => ?_)
  refine Ez.blk B_X9_copyElements_0 (lo' := [some (.ref 1), some (.int x), some (.int i), some (.int y), some (.int j), some (.int n)]) (st' := [.int x]) (I' := I) (J' := J) (Ps := []) rfl trivial ?_
  refine Ez.callS (As := [.int x]) (rest := []) kn_X9_isSlot ml_9_249 sm_X9_isSlot (by decide +kernel) rfl rfl (Nat.le_of_ble_eq_true rfl) (Nat.le_of_ble_eq_true rfl) (s_isSlot _ I J x) (fun r I1 J1 hq => ?_)
  obtain ⟨rfl, rfl, rfl⟩ := hq
  refine Ez.z_if_eq (off := 10) (tgt := 14) (by decide +kernel) (by decide) (fun h => ?_) (fun h => ?_)
  · refine Ez.blk B_X9_copyElements_14 (lo' := [some (.ref 1), some (.int x), some (.int i), some (.int y), some (.int j), some (.int n)]) (st' := [.int (-1)]) (I' := I1) (J' := J1) (Ps := []) rfl trivial ?_
    exact Ez.iret rfl (by decide +kernel) (hQ _ _ _ (by unfold f_copyElements; rw [if_neg (fun q => h q.1)]; exact ⟨rfl, hP, fun _ _ => ⟨rfl, rfl⟩⟩))
  · refine Ez.blk B_X9_copyElements_7 (lo' := [some (.ref 1), some (.int x), some (.int i), some (.int y), some (.int j), some (.int n)]) (st' := [.int y]) (I' := I1) (J' := J1) (Ps := []) rfl trivial ?_
    refine Ez.callS (As := [.int y]) (rest := []) kn_X9_isSlot ml_9_249 sm_X9_isSlot (by decide +kernel) rfl rfl (Nat.le_of_ble_eq_true rfl) (Nat.le_of_ble_eq_true rfl) (s_isSlot _ I1 J1 y) (fun r I2 J2 hq => ?_)
    obtain ⟨rfl, rfl, rfl⟩ := hq
    refine Ez.z_if_ne (off := 5) (tgt := 16) (by decide +kernel) (by decide) (fun h2 => ?_) (fun h2 => ?_)
    · obtain ⟨s, -, hs, rfl, hsc⟩ := in_of (lo := 0) (hi := 3) (by omega) h (by omega)
      obtain ⟨u, -, hu, rfl, huc⟩ := in_of (lo := 0) (hi := 3) (by omega) h2 (by omega)
      have hs4 : s < 4 := by omega
      have hu4 : u < 4 := by omega
      have wt := W.2.2.2.2 s hs4
      have wu := W.2.2.2.2 u hu4
      refine Ez.blk B_X9_copyElements_16 (lo' := [some (.ref 1), some (.int (nI s)), some (.int i), some (.int (nI u)), some (.int j), some (.int n)]) (st' := [.int (nI s), .ref 85]) (I' := I2) (J' := J2) (Ps := [aO E0 1 9 ∧ E0.2.2 1 10 ≠ 0]) rfl r_1_10 ?_
      refine Ez.callV (As := [.int (nI s)]) (b := 85) (rest := []) kn_X0_isEmpty ml_9_256 im_X0_isEmpty se_X0_isEmpty rfl (by decide +kernel) rfl rfl (Nat.le_of_ble_eq_true rfl) (Nat.le_of_ble_eq_true rfl) o_85 (s_isEmpty _ I2 J2 T W hP.2.2.2.2.1 s hs4) (fun r I3 J3 hq => ?_)
      obtain ⟨rfl, rfl, rfl⟩ := hq
      refine Ez.z_if_ne (off := 14) (tgt := 38) (by decide +kernel) (by decide) (fun h3 => ?_) (fun h3 => ?_)
      · refine Ez.blk B_X9_copyElements_38 (lo' := [some (.ref 1), some (.int (nI s)), some (.int i), some (.int (nI u)), some (.int j), some (.int n)]) (st' := [.int (-11)]) (I' := I3) (J' := J3) (Ps := []) rfl trivial ?_
        exact Ez.iret rfl (by decide +kernel) (hQ _ _ _ (by unfold f_copyElements; rw [if_pos ⟨h, h2⟩, hsc, huc, if_pos (Or.inl h3)]; exact ⟨rfl, hP, fun _ _ => ⟨rfl, rfl⟩⟩))
      · refine Ez.blk B_X9_copyElements_27 (lo' := [some (.ref 1), some (.int (nI s)), some (.int i), some (.int (nI u)), some (.int j), some (.int n)]) (st' := [.int (nI u), .ref 85]) (I' := I3) (J' := J3) (Ps := [aO E0 1 9 ∧ E0.2.2 1 10 ≠ 0]) rfl r_1_10 ?_
        refine Ez.callV (As := [.int (nI u)]) (b := 85) (rest := []) kn_X0_isEmpty ml_9_256 im_X0_isEmpty se_X0_isEmpty rfl (by decide +kernel) rfl rfl (Nat.le_of_ble_eq_true rfl) (Nat.le_of_ble_eq_true rfl) o_85 (s_isEmpty _ I3 J3 T W hP.2.2.2.2.1 u hu4) (fun r I4 J4 hq => ?_)
        obtain ⟨rfl, rfl, rfl⟩ := hq
        refine Ez.z_if_eq (off := 6) (tgt := 41) (by decide +kernel) (by decide) (fun h4 => ?_) (fun h4 => ?_)
        · have h34 : ¬ (sTy T s = 0 ∨ sTy T u = 0) := fun q => q.elim h3 h4
          refine Ez.blk B_X9_copyElements_41 (lo' := [some (.ref 1), some (.int (nI s)), some (.int i), some (.int (nI u)), some (.int j), some (.int n)]) (st' := [.int (I4 86 ((nI u).toNatClampNeg)), .int (I4 86 ((nI s).toNatClampNeg))]) (I' := I4) (J' := J4) (Ps := [aO E0 1 9 ∧ E0.2.2 1 10 ≠ 0, aO E0 85 0 ∧ E0.2.2 85 0 ≠ 0, aAr E0 1 86 (nI s), aO E0 1 9 ∧ E0.2.2 1 10 ≠ 0, aO E0 85 0 ∧ E0.2.2 85 0 ≠ 0, aAr E0 1 86 (nI u)]) rfl ⟨r_1_10, r_85_0, (a_86 (vin (n := s) rfl (by omega) (by decide))), r_1_10, r_85_0, (a_86 (vin (n := u) rfl (by omega) (by decide)))⟩ ?_
          rw [cln (x := nI s) (n := s) rfl (by omega)]
          rw [cln (x := nI u) (n := u) rfl (by omega)]
          rw [(hP.2.2.2.2.1 s hs4).1]
          rw [(hP.2.2.2.2.1 u hu4).1]
          refine Ez.icmp_eq (off := 6) (tgt := 65) (by decide +kernel) (by decide) (fun h5 => ?_) (fun h5 => ?_)
          · have h5 := (m1_inj wt.1 wu.1).mp h5
            refine Ez.blk B_X9_copyElements_65 (lo' := [some (.ref 1), some (.int (nI s)), some (.int i), some (.int (nI u)), some (.int j), some (.int n)]) (st' := [.int n, .int i, .int (nI s), .ref 85]) (I' := I4) (J' := J4) (Ps := [aO E0 1 9 ∧ E0.2.2 1 10 ≠ 0]) rfl r_1_10 ?_
            refine Ez.callV (As := [.int (nI s), .int i, .int n]) (b := 85) (rest := []) kn_X0_hasRange ml_9_274 im_X0_hasRange se_X0_hasRange rfl (by decide +kernel) rfl rfl (Nat.le_of_ble_eq_true rfl) (Nat.le_of_ble_eq_true rfl) o_85 (s_hasRange _ I4 J4 T W hP.2.2.2.2.1 s hs4 i n) (fun r I5 J5 hq => ?_)
            obtain ⟨rfl, rfl, rfl⟩ := hq
            refine Ez.z_if_eq (off := 18) (tgt := 94) (by decide +kernel) (by decide) (fun h6 => ?_) (fun h6 => ?_)
            · refine Ez.blk B_X9_copyElements_94 (lo' := [some (.ref 1), some (.int (nI s)), some (.int i), some (.int (nI u)), some (.int j), some (.int n)]) (st' := [.int (-13)]) (I' := I5) (J' := J5) (Ps := []) rfl trivial ?_
              exact Ez.iret rfl (by decide +kernel) (hQ _ _ _ (by unfold f_copyElements; rw [if_pos ⟨h, h2⟩, hsc, huc, if_neg h34, if_pos h5, if_neg (fun q => h6 q.1)]; exact ⟨rfl, hP, fun _ _ => ⟨rfl, rfl⟩⟩))
            · refine Ez.blk B_X9_copyElements_79 (lo' := [some (.ref 1), some (.int (nI s)), some (.int i), some (.int (nI u)), some (.int j), some (.int n)]) (st' := [.int n, .int j, .int (nI u), .ref 85]) (I' := I5) (J' := J5) (Ps := [aO E0 1 9 ∧ E0.2.2 1 10 ≠ 0]) rfl r_1_10 ?_
              refine Ez.callV (As := [.int (nI u), .int j, .int n]) (b := 85) (rest := []) kn_X0_hasRange ml_9_274 im_X0_hasRange se_X0_hasRange rfl (by decide +kernel) rfl rfl (Nat.le_of_ble_eq_true rfl) (Nat.le_of_ble_eq_true rfl) o_85 (s_hasRange _ I5 J5 T W hP.2.2.2.2.1 u hu4 j n) (fun r I6 J6 hq => ?_)
              obtain ⟨rfl, rfl, rfl⟩ := hq
              refine Ez.z_if_ne (off := 6) (tgt := 97) (by decide +kernel) (by decide) (fun h7 => ?_) (fun h7 => ?_)
              · obtain ⟨m, hm, rfl, hmc⟩ : ∃ m, m < 2147483648 ∧ n = nI m ∧ n.toNatClampNeg = m := by obtain ⟨m, hm, e⟩ := nI_of (i32_nlt.mpr h6.2.1); exact ⟨m, hm, e, by rw [e]; exact nI_clamp hm⟩
                obtain ⟨a, ha, rfl, hac⟩ : ∃ m, m < 2147483648 ∧ i = nI m ∧ i.toNatClampNeg = m := by obtain ⟨m, hm, e⟩ := nI_of (i32_nlt.mpr h6.1); exact ⟨m, hm, e, by rw [e]; exact nI_clamp hm⟩
                obtain ⟨b, hb, rfl, hbc⟩ : ∃ m, m < 2147483648 ∧ j = nI m ∧ j.toNatClampNeg = m := by obtain ⟨m, hm, e⟩ := nI_of (i32_nlt.mpr h7.1); exact ⟨m, hm, e, by rw [e]; exact nI_clamp hm⟩
                have r1 := rg_of ha hm wt.2 h6.2.2
                have r2 := rg_of hb hm wu.2 h7.2.2
                refine Ez.blk B_X9_copyElements_97 (lo' := [some (.ref 1), some (.int (nI s)), some (.int (nI a)), some (.int (nI u)), some (.int (nI b)), some (.int (nI m))]) (st' := [.int (nI m)]) (I' := I6) (J' := (aRwJ J6 (E0.2.2 88 (nI u).toNatClampNeg) (va_cpy (J6 (E0.2.2 88 (nI s).toNatClampNeg)) (J6 (E0.2.2 88 (nI u).toNatClampNeg)) (nI a).toNatClampNeg (nI b).toNatClampNeg (nI m).toNatClampNeg))) (Ps := [aO E0 1 9 ∧ E0.2.2 1 10 ≠ 0, aO E0 85 0 ∧ E0.2.2 85 2 ≠ 0, aAr E0 5 88 (nI s) ∧ E0.2.2 88 ((nI s).toNatClampNeg) ≠ 0, aO E0 1 9 ∧ E0.2.2 1 10 ≠ 0, aO E0 85 0 ∧ E0.2.2 85 2 ≠ 0, aAr E0 5 88 (nI u) ∧ E0.2.2 88 ((nI u).toNatClampNeg) ≠ 0, aCp E0 2 (E0.2.2 88 (nI s).toNatClampNeg) (E0.2.2 88 (nI u).toNatClampNeg) (nI a) (nI b) (nI m)]) rfl ⟨r_1_10, r_85_2, (a_88 (k := s) rfl (by omega)), r_1_10, r_85_2, (a_88 (k := u) rfl (by omega)), (cpy_ok (s0 := a) (d0 := b) (m := m) (el_qq hs4) (el_qq hu4) rfl rfl rfl (by omega) (by omega) (by omega) (by omega) (by omega))⟩ ?_
                rw [cln (x := nI s) (n := s) rfl (by omega)]
                rw [cln (x := nI u) (n := u) rfl (by omega)]
                rw [cln (x := nI a) (n := a) rfl (by omega)]
                rw [cln (x := nI b) (n := b) rfl (by omega)]
                rw [cln (x := nI m) (n := m) rfl (by omega)]
                rw [el_at s hs4, el_at u hu4]
                generalize hJ7 : (aRwJ J6 (89 + u) (va_cpy (J6 (89 + s)) (J6 (89 + u)) a b m)) = J7
                exact Ez.iret rfl (by decide +kernel) (hQ _ _ _ (by
                  unfold f_copyElements
                  rw [if_pos ⟨h, h2⟩, hsc, huc, if_neg h34, if_pos h5, if_pos ⟨h6, h7⟩, hac, hbc, hmc]
                  have g : ∀ q, q ≠ 89 + u → J7 q = J6 q := fun q hq => by rw [← hJ7, aRwJ_ne hq]
                  refine ⟨rfl, CP_sl hP (fun c hc => ?_) (fun _ _ _ => rfl) (fun q hq => g q (by omega)), fun b hb => ⟨rfl, g b (by omega)⟩⟩
                  obtain ⟨b1, b2, b3⟩ := hP.2.2.2.2.1 c hc
                  refine ⟨b1, b2, fun k hk => ?_⟩
                  dsimp only
                  unfold erow
                  by_cases e : c = u
                  · rw [e, ← hJ7, aRwJ_at, if_pos rfl]
                    by_cases e2 : b ≤ k ∧ k < b + m
                    · rw [pk_cpy_in e2.1 e2.2, pk_cpy_in e2.1 e2.2]; exact (hP.2.2.2.2.1 s hs4).2.2 _ (by omega)
                    · rw [pk_cpy_out (by omega), pk_cpy_out (by omega)]; exact (hP.2.2.2.2.1 u hu4).2.2 _ hk
                  · rw [g _ (by omega), if_neg e]; exact b3 k hk))
              · refine Ez.blk B_X9_copyElements_94 (lo' := [some (.ref 1), some (.int (nI s)), some (.int i), some (.int (nI u)), some (.int j), some (.int n)]) (st' := [.int (-13)]) (I' := I6) (J' := J6) (Ps := []) rfl trivial ?_
                exact Ez.iret rfl (by decide +kernel) (hQ _ _ _ (by unfold f_copyElements; rw [if_pos ⟨h, h2⟩, hsc, huc, if_neg h34, if_pos h5, if_neg (fun q => h7 q.2)]; exact ⟨rfl, hP, fun _ _ => ⟨rfl, rfl⟩⟩))
          · refine Ez.blk B_X9_copyElements_62 (lo' := [some (.ref 1), some (.int (nI s)), some (.int i), some (.int (nI u)), some (.int j), some (.int n)]) (st' := [.int (-12)]) (I' := I4) (J' := J4) (Ps := []) rfl trivial ?_
            exact Ez.iret rfl (by decide +kernel) (hQ _ _ _ (by unfold f_copyElements; rw [if_pos ⟨h, h2⟩, hsc, huc, if_neg h34, if_neg (fun q => h5 ((m1_inj wt.1 wu.1).mpr q))]; exact ⟨rfl, hP, fun _ _ => ⟨rfl, rfl⟩⟩))
        · refine Ez.blk B_X9_copyElements_38 (lo' := [some (.ref 1), some (.int (nI s)), some (.int i), some (.int (nI u)), some (.int j), some (.int n)]) (st' := [.int (-11)]) (I' := I4) (J' := J4) (Ps := []) rfl trivial ?_
          exact Ez.iret rfl (by decide +kernel) (hQ _ _ _ (by unfold f_copyElements; rw [if_pos ⟨h, h2⟩, hsc, huc, if_pos (Or.inr h4)]; exact ⟨rfl, hP, fun _ _ => ⟨rfl, rfl⟩⟩))
    · refine Ez.blk B_X9_copyElements_14 (lo' := [some (.ref 1), some (.int x), some (.int i), some (.int y), some (.int j), some (.int n)]) (st' := [.int (-1)]) (I' := I2) (J' := J2) (Ps := []) rfl trivial ?_
      exact Ez.iret rfl (by decide +kernel) (hQ _ _ _ (by unfold f_copyElements; rw [if_neg (fun q => h2 q.2)]; exact ⟨rfl, hP, fun _ _ => ⟨rfl, rfl⟩⟩))
theorem sq_lt {i j n : Nat} (hi : i < n) (hj : j < n) : i * n + j < n * n := by
  have : (i + 1) * n ≤ n * n := Nat.mul_le_mul_right n hi
  rw [Nat.add_mul, Nat.one_mul] at this
  omega
theorem ff_true {P : Nat → Bool} : ∀ {f k m : Nat}, ff P f k = some m → P m = true
  | 0, _, _, h => by cases h
  | f + 1, k, m, h => by
    have h : (if P k then some k else ff P f (k + 1)) = some m := h
    by_cases e : P k = true
    · rw [if_pos e] at h; cases h; exact e
    · rw [if_neg e] at h; exact ff_true h
theorem c_compare (d : Nat) (I : aI) (J : aJ) (T : TS) (W : WT T) (hP : CP T I J) (x : Int32) : Sp m_X9_compareWithArray (d + 3) [.ref 1, .int x] E0 I J (fun r I' J' => r = some (.int (f_compare T x).1) ∧ CP (f_compare T x).2 I' J' ∧ Fr9 I I' J J') := by
  refine Sp.of (lo := [some (.ref 1), some (.int x), none, none, none, none]) rfl (fun Q hQ => ?_)
  have w1 := W.1.1
  have w2 := W.1.2.1
  have wb := Wc_12 W.1
  refine Ez.blk B_X9_compareWithArray_0 (lo' := [some (.ref 1), some (.int x), none, none, none, none]) (st' := [.int x]) (I' := I) (J' := J) (Ps := []) rfl trivial ?_
  refine Ez.callS (As := [.int x]) (rest := []) kn_X9_isSlot ml_9_249 sm_X9_isSlot (by decide +kernel) rfl rfl (Nat.le_of_ble_eq_true rfl) (Nat.le_of_ble_eq_true rfl) (s_isSlot _ I J x) (fun r I1 J1 hq => ?_)
  obtain ⟨rfl, rfl, rfl⟩ := hq
  refine Ez.z_if_ne (off := 5) (tgt := 9) (by decide +kernel) (by decide) (fun h => ?_) (fun h => ?_)
  · obtain ⟨s, -, hs, rfl, hsc⟩ := in_of (lo := 0) (hi := 3) (by omega) h (by omega)
    have hs4 : s < 4 := by omega
    have wt : sTy T s ≤ 4 := (W.2.2.2.2 s hs4).1
    have wz : sSz T s ≤ 40 := (W.2.2.2.2 s hs4).2
    refine Ez.blk B_X9_compareWithArray_9 (lo' := [some (.ref 1), some (.int (nI s)), none, none, none, none]) (st' := [.int (nI s), .ref 85]) (I' := I1) (J' := J1) (Ps := [aO E0 1 9 ∧ E0.2.2 1 10 ≠ 0]) rfl r_1_10 ?_
    refine Ez.callV (As := [.int (nI s)]) (b := 85) (rest := []) kn_X0_isEmpty ml_9_256 im_X0_isEmpty se_X0_isEmpty rfl (by decide +kernel) rfl rfl (Nat.le_of_ble_eq_true rfl) (Nat.le_of_ble_eq_true rfl) o_85 (s_isEmpty _ I1 J1 T W hP.2.2.2.2.1 s hs4) (fun r I2 J2 hq => ?_)
    obtain ⟨rfl, rfl, rfl⟩ := hq
    refine Ez.z_if_eq (off := 6) (tgt := 23) (by decide +kernel) (by decide) (fun h2 => ?_) (fun h2 => ?_)
    · refine Ez.blk B_X9_compareWithArray_23 (lo' := [some (.ref 1), some (.int (nI s)), none, none, none, none]) (st' := [.int (I2 86 ((nI s).toNatClampNeg))]) (I' := I2) (J' := J2) (Ps := [aO E0 1 9 ∧ E0.2.2 1 10 ≠ 0, aO E0 85 0 ∧ E0.2.2 85 0 ≠ 0, aAr E0 1 86 (nI s)]) rfl ⟨r_1_10, r_85_0, (a_86 (vin (n := s) rfl (by omega) (by decide)))⟩ ?_
      rw [cln (x := nI s) (n := s) rfl (by omega)]
      rw [(hP.2.2.2.2.1 s hs4).1]
      refine Ez.if_eq (off := 6) (tgt := 38) (by decide +kernel) (by decide) (fun h3 => ?_) (fun h3 => ?_)
      · have h3 := (m1_0 wt).mp h3
        obtain ⟨n, hn⟩ : ∃ n, n = T.1 0 := ⟨_, rfl⟩
        obtain ⟨z, hz⟩ : ∃ z, z = sSz T s := ⟨_, rfl⟩
        have ans : ∀ v : Int32, ((∃ k, mis T s k = true ∧ (∀ j, j < k → mis T s j = false) ∧ (k < n * n ∨ k < z) ∧ v = nI k) ∨ ((∀ j, (j < n * n ∨ j < z) → mis T s j = false) ∧ v = -7)) → (f_compare T (nI s)) = (v, T) := by
          intro v hv
          unfold f_compare
          rw [if_pos h, hsc, if_neg h2, if_pos h3, ← hn, ← hz]
          rcases hv with ⟨k, m1, m2, m3, rfl⟩ | ⟨m1, rfl⟩
          · rw [ff_some _ 0 k (Nat.zero_le _) (by omega) m1 (fun j _ hj => m2 j hj)]
            dsimp only
            rw [if_pos m3]
          · cases hq : ff (mis T s) (n * n + z) 0 with
            | none => rfl
            | some k =>
              dsimp only
              by_cases hk : k < n * n ∨ k < z
              · have := ff_true hq
                rw [m1 k hk] at this
                cases this
              · rw [if_neg hk]
        have ok : ∀ i j, i < n → j < n → (mis T s (i * n + j) = false ↔ (i * n + j < z ∧ sEl T s (i * n + j) = (nI (T.1 (10 + (i * 6 + j)))).toInt64)) := by
          intro i j hi hj
          have e1 : (i * n + j) / n = i := by rw [Nat.mul_comm, Nat.mul_add_div (by omega), Nat.div_eq_of_lt hj]; omega
          have e2 : (i * n + j) % n = j := by rw [Nat.mul_comm, Nat.mul_add_mod, Nat.mod_eq_of_lt hj]
          have e3 : i * n + j < n * n := sq_lt hi hj
          unfold mis
          rw [← hn, ← hz, e1, e2, show 10 + 6 * i + j = 10 + (i * 6 + j) by omega]
          simp only [Bool.or_eq_false_iff, decide_eq_false_iff_not, Nat.not_le, Bool.not_eq_false', beq_iff_eq]
          exact ⟨fun q => ⟨q.1.1, q.2⟩, fun q => ⟨⟨q.1, e3⟩, q.2⟩⟩
        have out : ∀ k, n * n ≤ k → mis T s k = true := by
          intro k hk
          unfold mis
          rw [← hn]
          simp [hk]
        have out2 : ∀ k, z ≤ k → mis T s k = true := by
          intro k hk
          unfold mis
          rw [← hz]
          simp [hk]
        have hc0 : I2 2 0 = nI n := by rw [hn]; exact hP.1.1 0 (by decide)
        refine Ez.blk B_X9_compareWithArray_38 (lo' := [some (.ref 1), some (.int (nI s)), some (.int (I2 87 ((nI s).toNatClampNeg))), some (.int 0), some (.int 0), none]) (st' := []) (I' := I2) (J' := J2) (Ps := [aO E0 1 9 ∧ E0.2.2 1 10 ≠ 0, aO E0 85 0 ∧ E0.2.2 85 1 ≠ 0, aAr E0 1 87 (nI s)]) rfl ⟨r_1_10, r_85_1, (a_87 (vin (n := s) rfl (by omega) (by decide)))⟩ ?_
        rw [cln (x := nI s) (n := s) rfl (by omega)]
        have hz2 : I2 87 s = nI z := by rw [hz]; exact (hP.2.2.2.2.1 s hs4).2.1
        rw [hz2]
        have L1 : ∀ i, i ≤ n → (∀ q, q < i * n → mis T s q = false) → Ez m_X9_compareWithArray (d + 3) 53 [some (.ref 1), some (.int (nI s)), some (.int (nI z)), some (.int (nI (i * n))), some (.int (nI i)), none] [] E0 I2 J2 Q := by
          refine for_up ?_ ?_
          · intro hi
            refine Ez.blk B_X9_compareWithArray_53 (lo' := [some (.ref 1), some (.int (nI s)), some (.int (nI z)), some (.int (nI (n * n))), some (.int (nI n)), none]) (st' := [.int (I2 2 0), .int (nI n)]) (I' := I2) (J' := J2) (Ps := [aO E0 1 9 ∧ E0.2.2 1 0 ≠ 0, aO E0 2 1]) rfl ⟨r_1_0, o_2⟩ ?_
            refine Ez.n_icmp_ge (off := 72) (tgt := 134) (by decide +kernel) (by decide) (a := n) (b := n) rfl hc0 (by omega) (by omega) (fun h9 => ?_) (fun h9 => absurd h9 (by omega))
            have nn : n * n ≤ 36 := Nat.mul_le_mul (by omega : n ≤ 6) (by omega : n ≤ 6)
            refine Ez.blk B_X9_compareWithArray_134 (lo' := [some (.ref 1), some (.int (nI s)), some (.int (nI z)), some (.int (nI (n * n))), some (.int (nI n)), none]) (st' := [.int (nI z), .int (nI (n * n))]) (I' := I2) (J' := J2) (Ps := []) rfl trivial ?_
            refine Ez.n_icmp_ge (off := 7) (tgt := 143) (by decide +kernel) (by decide) (a := (n * n)) (b := z) rfl rfl (by omega) (by omega) (fun h9 => ?_) (fun h9 => ?_)
            · refine Ez.blk B_X9_compareWithArray_143 (lo' := [some (.ref 1), some (.int (nI s)), some (.int (nI z)), some (.int (nI (n * n))), some (.int (nI n)), none]) (st' := [.int (-7)]) (I' := I2) (J' := J2) (Ps := []) rfl trivial ?_
              exact Ez.iret rfl (by decide +kernel) (hQ _ _ _ (by rw [ans (-7) (Or.inr ⟨fun q hq => hi q (by omega), rfl⟩)]; exact ⟨rfl, hP, fun _ _ => ⟨rfl, rfl⟩⟩))
            · refine Ez.blk B_X9_compareWithArray_139 (lo' := [some (.ref 1), some (.int (nI s)), some (.int (nI z)), some (.int (nI (n * n))), some (.int (nI n)), none]) (st' := [.int (nI (n * n))]) (I' := I2) (J' := J2) (Ps := []) rfl trivial ?_
              exact Ez.iret rfl (by decide +kernel) (hQ _ _ _ (by rw [ans (nI (n * n)) (Or.inl ⟨n * n, out _ (Nat.le_refl _), hi, by omega, rfl⟩)]; exact ⟨rfl, hP, fun _ _ => ⟨rfl, rfl⟩⟩))
          · intro i hk ih hi
            have nn : i * n ≤ 30 := Nat.mul_le_mul (by omega : i ≤ 5) (by omega : n ≤ 6)
            refine Ez.blk B_X9_compareWithArray_53 (lo' := [some (.ref 1), some (.int (nI s)), some (.int (nI z)), some (.int (nI (i * n))), some (.int (nI i)), none]) (st' := [.int (I2 2 0), .int (nI i)]) (I' := I2) (J' := J2) (Ps := [aO E0 1 9 ∧ E0.2.2 1 0 ≠ 0, aO E0 2 1]) rfl ⟨r_1_0, o_2⟩ ?_
            refine Ez.n_icmp_ge (off := 72) (tgt := 134) (by decide +kernel) (by decide) (a := i) (b := n) rfl hc0 (by omega) (by omega) (fun h9 => absurd h9 (by omega)) (fun h9 => ?_)
            refine Ez.blk B_X9_compareWithArray_65 (lo' := [some (.ref 1), some (.int (nI s)), some (.int (nI z)), some (.int (nI (i * n))), some (.int (nI i)), some (.int 0)]) (st' := []) (I' := I2) (J' := J2) (Ps := []) rfl trivial ?_
            have L2 : ∀ j, j ≤ n → (∀ q, q < i * n + j → mis T s q = false) → Ez m_X9_compareWithArray (d + 3) 68 [some (.ref 1), some (.int (nI s)), some (.int (nI z)), some (.int (nI (i * n + j))), some (.int (nI i)), some (.int (nI j))] [] E0 I2 J2 Q := by
              refine for_up ?_ ?_
              · intro hi
                refine Ez.blk B_X9_compareWithArray_68 (lo' := [some (.ref 1), some (.int (nI s)), some (.int (nI z)), some (.int (nI (i * n + n))), some (.int (nI i)), some (.int (nI n))]) (st' := [.int (I2 2 0), .int (nI n)]) (I' := I2) (J' := J2) (Ps := [aO E0 1 9 ∧ E0.2.2 1 0 ≠ 0, aO E0 2 1]) rfl ⟨r_1_0, o_2⟩ ?_
                refine Ez.n_icmp_ge (off := 51) (tgt := 128) (by decide +kernel) (by decide) (a := n) (b := n) rfl hc0 (by omega) (by omega) (fun h9 => ?_) (fun h9 => absurd h9 (by omega))
                refine Ez.blk B_X9_compareWithArray_128 (lo' := [some (.ref 1), some (.int (nI s)), some (.int (nI z)), some (.int (nI (i * n + n))), some (.int (nI i + 1)), some (.int (nI n))]) (st' := []) (I' := I2) (J' := J2) (Ps := []) rfl trivial ?_
                rw [show (nI i + 1) = nI (i + 1) from (eq_add (a := i) (b := 1) rfl rfl)]
                refine Ez.drops [5] (lo' := [some (.ref 1), some (.int (nI s)), some (.int (nI z)), some (.int (nI (i * n + n))), some (.int (nI (i + 1))), none]) rfl ?_
                rw [show i * n + n = (i + 1) * n by rw [Nat.add_mul, Nat.one_mul]]
                exact ih (by rw [Nat.add_mul, Nat.one_mul]; exact hi)
              · intro j hj ih2 hi
                refine Ez.blk B_X9_compareWithArray_68 (lo' := [some (.ref 1), some (.int (nI s)), some (.int (nI z)), some (.int (nI (i * n + j))), some (.int (nI i)), some (.int (nI j))]) (st' := [.int (I2 2 0), .int (nI j)]) (I' := I2) (J' := J2) (Ps := [aO E0 1 9 ∧ E0.2.2 1 0 ≠ 0, aO E0 2 1]) rfl ⟨r_1_0, o_2⟩ ?_
                refine Ez.n_icmp_ge (off := 51) (tgt := 128) (by decide +kernel) (by decide) (a := j) (b := n) rfl hc0 (by omega) (by omega) (fun h9 => absurd h9 (by omega)) (fun h9 => ?_)
                refine Ez.blk B_X9_compareWithArray_80 (lo' := [some (.ref 1), some (.int (nI s)), some (.int (nI z)), some (.int (nI (i * n + j))), some (.int (nI i)), some (.int (nI j))]) (st' := [.int (nI z), .int (nI (i * n + j))]) (I' := I2) (J' := J2) (Ps := []) rfl trivial ?_
                have hok := ok i j hk hj
                refine Ez.n_icmp_ge (off := 35) (tgt := 117) (by decide +kernel) (by decide) (a := (i * n + j)) (b := z) rfl rfl (by omega) (by omega) (fun h10 => ?_) (fun h10 => ?_)
                · refine Ez.blk B_X9_compareWithArray_117 (lo' := [some (.ref 1), some (.int (nI s)), some (.int (nI z)), some (.int (nI (i * n + j))), some (.int (nI i)), some (.int (nI j))]) (st' := [.int (nI (i * n + j))]) (I' := I2) (J' := J2) (Ps := []) rfl trivial ?_
                  exact Ez.iret rfl (by decide +kernel) (hQ _ _ _ (by rw [ans (nI (i * n + j)) (Or.inl ⟨i * n + j, out2 _ h10, hi, Or.inl (sq_lt hk hj), rfl⟩)]; exact ⟨rfl, hP, fun _ _ => ⟨rfl, rfl⟩⟩))
                · refine Ez.blk B_X9_compareWithArray_85 (lo' := [some (.ref 1), some (.int (nI s)), some (.int (nI z)), some (.int (nI (i * n + j))), some (.int (nI i)), some (.int (nI j))]) (st' := [.int (lg_cmp (J2 (E0.2.2 88 (nI s).toNatClampNeg) ((nI (i * n + j)).toNatClampNeg)) ((I2 4 (((nI i * 6) + nI j).toNatClampNeg)).toInt64))]) (I' := I2) (J' := J2) (Ps := [aO E0 1 9 ∧ E0.2.2 1 10 ≠ 0, aO E0 85 0 ∧ E0.2.2 85 2 ≠ 0, aAr E0 5 88 (nI s) ∧ E0.2.2 88 ((nI s).toNatClampNeg) ≠ 0, aAr E0 2 (E0.2.2 88 (nI s).toNatClampNeg) (nI (i * n + j)), aO E0 1 9 ∧ E0.2.2 1 0 ≠ 0, aO E0 2 1 ∧ E0.2.2 2 5 ≠ 0, aAr E0 1 4 ((nI i * 6) + nI j)]) rfl ⟨r_1_10, r_85_2, (a_88 (k := s) rfl (by omega)), (el_in hs4 (vin (n := (i * n + j)) rfl (by omega) (by decide))), r_1_0, r_2_5, (a_4 (vin (n := (i * 6 + j)) (eq_add (a := (i * 6)) (b := j) (eq_mul (a := i) (b := 6) rfl rfl) rfl) (by omega) (by decide)))⟩ ?_
                  rw [cln (x := nI s) (n := s) rfl (by omega)]
                  rw [cln (x := nI (i * n + j)) (n := (i * n + j)) rfl (by omega)]
                  rw [cln (x := ((nI i * 6) + nI j)) (n := (i * 6 + j)) (eq_add (a := (i * 6)) (b := j) (eq_mul (a := i) (b := 6) rfl rfl) rfl) (by omega)]
                  rw [el_at s hs4, (hP.2.2.2.2.1 s hs4).2.2 (i * n + j) (by omega), hP.1.2.2 (i * 6 + j) (by omega)]
                  refine Ez.lif_eq (off := 5) (tgt := 119) (by decide +kernel) (by decide) (fun h11 => ?_) (fun h11 => ?_)
                  · refine Ez.blk B_X9_compareWithArray_119 (lo' := [some (.ref 1), some (.int (nI s)), some (.int (nI z)), some (.int (nI (i * n + j) + 1)), some (.int (nI i)), some (.int (nI j + 1))]) (st' := []) (I' := I2) (J' := J2) (Ps := []) rfl trivial ?_
                    rw [show (nI (i * n + j) + 1) = nI (i * n + j + 1) from (eq_add (a := (i * n + j)) (b := 1) rfl rfl)]
                    rw [show (nI j + 1) = nI (j + 1) from (eq_add (a := j) (b := 1) rfl rfl)]
                    exact ih2 (fun q hq => by
                      by_cases e : q = i * n + j
                      · rw [e]; exact hok.mpr ⟨h10, h11⟩
                      · exact hi q (by omega))
                  · refine Ez.blk B_X9_compareWithArray_117 (lo' := [some (.ref 1), some (.int (nI s)), some (.int (nI z)), some (.int (nI (i * n + j))), some (.int (nI i)), some (.int (nI j))]) (st' := [.int (nI (i * n + j))]) (I' := I2) (J' := J2) (Ps := []) rfl trivial ?_
                    exact Ez.iret rfl (by decide +kernel) (hQ _ _ _ (by rw [ans (nI (i * n + j)) (Or.inl ⟨i * n + j, by cases hb : mis T s (i * n + j) with
                        | true => rfl
                        | false => exact absurd (hok.mp hb).2 h11, hi, Or.inl (sq_lt hk hj), rfl⟩)]; exact ⟨rfl, hP, fun _ _ => ⟨rfl, rfl⟩⟩))
            exact L2 0 (by omega) hi
        have L0 := L1 0 (by omega) (fun q hq => by omega)
        rw [Nat.zero_mul] at L0
        exact L0
      · refine Ez.blk B_X9_compareWithArray_35 (lo' := [some (.ref 1), some (.int (nI s)), none, none, none, none]) (st' := [.int (-12)]) (I' := I2) (J' := J2) (Ps := []) rfl trivial ?_
        exact Ez.iret rfl (by decide +kernel) (hQ _ _ _ (by unfold f_compare; rw [if_pos h, hsc, if_neg h2, if_neg (fun q => h3 ((m1_0 wt).mpr q))]; exact ⟨rfl, hP, fun _ _ => ⟨rfl, rfl⟩⟩))
    · refine Ez.blk B_X9_compareWithArray_20 (lo' := [some (.ref 1), some (.int (nI s)), none, none, none, none]) (st' := [.int (-11)]) (I' := I2) (J' := J2) (Ps := []) rfl trivial ?_
      exact Ez.iret rfl (by decide +kernel) (hQ _ _ _ (by unfold f_compare; rw [if_pos h, hsc, if_pos h2]; exact ⟨rfl, hP, fun _ _ => ⟨rfl, rfl⟩⟩))
  · refine Ez.blk B_X9_compareWithArray_7 (lo' := [some (.ref 1), some (.int x), none, none, none, none]) (st' := [.int (-1)]) (I' := I1) (J' := J1) (Ps := []) rfl trivial ?_
    exact Ez.iret rfl (by decide +kernel) (hQ _ _ _ (by unfold f_compare; rw [if_neg h]; exact ⟨rfl, hP, fun _ _ => ⟨rfl, rfl⟩⟩))

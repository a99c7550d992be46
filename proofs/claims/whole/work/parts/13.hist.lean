/-! THE STATE: what class and reference both hold -/
/-- the chain; the edits (how many, the chains before them); the snapshot (is there one); the input; the array slots (type + 1, size, elements) -/
abbrev TS : Type := (Nat → Nat) × (Nat × (Nat → Nat → Nat)) × (Nat × (Nat → Nat)) × (Nat × (Nat → Nat)) × ((Nat → Nat) × (Nat → Nat) × (Nat → Nat → Int64))
def WT (T : TS) : Prop := Wc T.1 ∧ (T.2.1.1 ≤ 10 ∧ ∀ i, i < T.2.1.1 → Wc (T.2.1.2 i)) ∧ (T.2.2.1.1 ≤ 1 ∧ (T.2.2.1.1 = 1 → Wc T.2.2.1.2)) ∧ (T.2.2.2.1.1 ≤ 80 ∧ ∀ i, i < T.2.2.2.1.1 → T.2.2.2.1.2 i < 128) ∧ ∀ s, s < 4 → T.2.2.2.2.1 s ≤ 4 ∧ T.2.2.2.2.2.1 s ≤ 40
/-- couplings, costs, distances -/
def sm2 (f : Nat → Nat → Nat) (n : Nat) : Nat := sm (fun i => sm (fun j => f i j) n) n
def Cpl (n : Nat) (u v : Nat → Nat) (f : Nat → Nat → Nat) : Prop := (∀ i, i < n → sm (fun j => f i j) n = u i) ∧ ∀ j, j < n → sm (fun i => f i j) n = v j
def cst (n : Nat) (dd f : Nat → Nat → Nat) : Nat := sm2 (fun i j => f i j * dd i j) n
noncomputable def mcost (n : Nat) (u v : Nat → Nat) (dd : Nat → Nat → Nat) : Nat := Classical.epsilon (fun m => (∃ f, Cpl n u v f ∧ cst n dd f = m) ∧ ∀ f, Cpl n u v f → m ≤ cst n dd f)
/-- the distances of depth k, times (r D)^k -/
noncomputable def dst (c : Nat → Nat) : Nat → Nat → Nat → Nat
  | 0 => fun _ _ => 0
  | k + 1 => fun i j => if c (4 + i) = c (4 + j) then c 2 * mcost (c 0) (fun x => c (10 + 6 * i + x)) (fun x => c (10 + 6 * j + x)) (dst c k) else (c 3 * c 1) ^ (k + 1)
/-! the class's cells -/
def CEd (ed : Nat × (Nat → Nat → Nat)) (I : aI) : Prop := I 11 0 = nI ed.1 ∧ ∃ nx, nx < 10 ∧ I 11 1 = nI nx ∧ ∀ i, i < ed.1 → Ch I (13 + 3 * ((nx + 10 - ed.1 + i) % 10)) (ed.2 i)
def CSn (sn : Nat × (Nat → Nat)) (I : aI) : Prop := I 1 3 = nI sn.1 ∧ (sn.1 = 1 → Ch I 8 sn.2)
def CBuf (b : Nat × (Nat → Nat)) (I : aI) : Prop := I 81 0 = nI b.1 ∧ ∀ i, i < b.1 → I 82 i = nI (b.2 i)
def CSl (sl : (Nat → Nat) × (Nat → Nat) × (Nat → Nat → Int64)) (I : aI) (J : aJ) : Prop := ∀ s, s < 4 → I 86 s = nI (sl.1 s) - 1 ∧ I 87 s = nI (sl.2.1 s) ∧ ∀ k, k < 40 → J (89 + s) k = sl.2.2 s k
/-- the kept distances belong to their basis -/
def CCa (I : aI) (J : aJ) : Prop := ∃ (cb : Nat → Nat) (kd : Nat), Wc cb ∧ Ch I 44 cb ∧ kd ≤ 15 ∧ I 43 4 = nI kd ∧ (cb 3 * cb 1) ^ kd ≤ 1000000000000000 ∧ (∀ k, k ≤ kd → J 73 k = lN ((cb 3 * cb 1) ^ k)) ∧ (∀ k, k ≤ kd → ∀ i j, i < cb 0 → j < cb 0 → J (57 + k) (6 * i + j) = lN (dst cb k i j)) ∧ (∀ k, k < 16 → ∀ i, i < 6 → J (57 + k) (7 * i) = 0) ∧ (∀ x, x < 36 → J 57 x = 0) ∧ J 73 0 = 1
def CP (T : TS) (I : aI) (J : aJ) : Prop := Ch I 2 T.1 ∧ CEd T.2.1 I ∧ CSn T.2.2.1 I ∧ CBuf T.2.2.2.1 I ∧ CSl T.2.2.2.2 I J ∧ CCa I J
theorem CEd_fr {ed : Nat × (Nat → Nat → Nat)} {I I' : aI} (h : CEd ed I) (hf : ∀ b, b = 11 ∨ (13 ≤ b ∧ b ≤ 42) → I' b = I b) : CEd ed I' := by
  obtain ⟨h1, nx, h2, h3, h4⟩ := h
  refine ⟨by rw [hf 11 (Or.inl rfl)]; exact h1, nx, h2, by rw [hf 11 (Or.inl rfl)]; exact h3, fun i hi => Ch_eq (h4 i hi) (hf _ (by omega)) (hf _ (by omega)) (hf _ (by omega))⟩
theorem CSn_fr {sn : Nat × (Nat → Nat)} {I I' : aI} (h : CSn sn I) (h0 : I' 1 = I 1) (hf : ∀ b, 8 ≤ b → b ≤ 10 → I' b = I b) : CSn sn I' := ⟨by rw [h0]; exact h.1, fun q => Ch_eq (h.2 q) (hf _ (by omega) (by omega)) (hf _ (by omega) (by omega)) (hf _ (by omega) (by omega))⟩
theorem CBuf_fr {b : Nat × (Nat → Nat)} {I I' : aI} (h : CBuf b I) (h0 : I' 81 = I 81) (h1 : I' 82 = I 82) : CBuf b I' := ⟨by rw [h0]; exact h.1, fun i hi => by rw [h1]; exact h.2 i hi⟩
theorem CSl_fr {sl : (Nat → Nat) × (Nat → Nat) × (Nat → Nat → Int64)} {I I' : aI} {J J' : aJ} (h : CSl sl I J) (h0 : I' 86 = I 86) (h1 : I' 87 = I 87) (hf : ∀ b, 89 ≤ b → b ≤ 92 → J' b = J b) : CSl sl I' J' := fun s hs => ⟨by rw [h0]; exact (h s hs).1, by rw [h1]; exact (h s hs).2.1, fun k hk => by rw [hf _ (by omega) (by omega)]; exact (h s hs).2.2 k hk⟩
theorem CCa_fr {I I' : aI} {J J' : aJ} (h : CCa I J) (h0 : ∀ b, 43 ≤ b → b ≤ 46 → I' b = I b) (h1 : ∀ b, 57 ≤ b → b ≤ 73 → J' b = J b) : CCa I' J' := by
  obtain ⟨cb, kd, g1, g2, g3, g4, g5, g6, g7, g8, g9, g10⟩ := h
  exact ⟨cb, kd, g1, Ch_eq g2 (h0 _ (by omega) (by omega)) (h0 _ (by omega) (by omega)) (h0 _ (by omega) (by omega)), g3, by rw [h0 43 (by omega) (by omega)]; exact g4, g5, fun k hk => by rw [h1 73 (by omega) (by omega)]; exact g6 k hk, fun k hk i j hi hj => by rw [h1 _ (by omega) (by omega)]; exact g7 k hk i j hi hj, fun k hk i hi => by rw [h1 _ (by omega) (by omega)]; exact g8 k hk i hi, fun x hx => by rw [h1 _ (by omega) (by omega)]; exact g9 x hx, by rw [h1 _ (by omega) (by omega)]; exact g10⟩
/-- rows that aren't named stay -/
abbrev FrI (P : Nat → Prop) (I I' : aI) : Prop := ∀ q, ¬ P q → I' q = I q
abbrev FrJ (P : Nat → Prop) (J J' : aJ) : Prop := ∀ q, ¬ P q → J' q = J q
abbrev Fr9 (I I' : aI) (J J' : aJ) : Prop := ∀ b, 93 ≤ b → I' b = I b ∧ J' b = J b
abbrev Fr1 (I I' : aI) (J J' : aJ) : Prop := ∀ b, b ≤ 92 → I' b = I b ∧ J' b = J b
theorem CP_fr {T : TS} {I I' : aI} {J J' : aJ} (h : CP T I J) (hf : Fr1 I I' J J') : CP T I' J' := ⟨Ch_eq h.1 (hf _ (by omega)).1 (hf _ (by omega)).1 (hf _ (by omega)).1, CEd_fr h.2.1 (fun b hb => (hf b (by omega)).1), CSn_fr h.2.2.1 (hf _ (by omega)).1 (fun b _ hb => (hf b (by omega)).1), CBuf_fr h.2.2.2.1 (hf _ (by omega)).1 (hf _ (by omega)).1, CSl_fr h.2.2.2.2.1 (hf _ (by omega)).1 (hf _ (by omega)).1 (fun b _ hb => (hf b (by omega)).2), CCa_fr h.2.2.2.2.2 (fun b _ hb => (hf b (by omega)).1) (fun b _ hb => (hf b (by omega)).2)⟩
theorem CE_2 : CE E0 2 := by unfold CE; decide +kernel
theorem CE_5 : CE E0 5 := by unfold CE; decide +kernel
theorem CE_8 : CE E0 8 := by unfold CE; decide +kernel
theorem CE_44 : CE E0 44 := by unfold CE; decide +kernel
theorem CE_bf : ∀ i, i < 10 → CE E0 (13 + 3 * i) := by unfold CE; decide +kernel
theorem bf_at : ∀ i, i < 10 → E0.2.2 12 i = 13 + 3 * i := by decide +kernel
/-- one more edit -/
def psh (ed : Nat × (Nat → Nat → Nat)) (c : Nat → Nat) : Nat × (Nat → Nat → Nat) := if ed.1 < 10 then (ed.1 + 1, fun i => if i = ed.1 then c else ed.2 i) else (10, fun i => if i = 9 then c else ed.2 (i + 1))
theorem s_remember (d : Nat) (I : aI) (J : aJ) (ed : Nat × (Nat → Nat → Nat)) (c : Nat → Nat) (h10 : ed.1 ≤ 10) (hE : CEd ed I) (hc : Ch I 2 c) : Sp m_X4_remember (d + 2) [.ref 11, .ref 2] E0 I J (fun r I' J' => r = none ∧ J' = J ∧ CEd (psh ed c) I' ∧ FrI (fun q => q = 11 ∨ (13 ≤ q ∧ q ≤ 42)) I I') := by
  refine Sp.of (lo := [some (.ref 11), some (.ref 2)]) rfl (fun Q hQ => ?_)
  obtain ⟨e1, nx, e2, e3, e4⟩ := hE
  refine Ez.blk B_X4_remember_0 (lo' := [some (.ref 11), some (.ref 2)]) (st' := [.ref 2, .ref (E0.2.2 12 (I 11 1).toNatClampNeg)]) (I' := I) (J' := J) (Ps := [aO E0 11 4 ∧ E0.2.2 11 2 ≠ 0, aO E0 11 4, aAr E0 4 12 (I 11 1) ∧ E0.2.2 12 ((I 11 1).toNatClampNeg) ≠ 0]) rfl ⟨r_11_2, o_11, (a_12 (k := nx) e3 (by omega))⟩ ?_
  rw [cln (x := I 11 1) (n := nx) e3 (by omega)]
  rw [bf_at nx e2]
  refine Ez.callV (As := [.ref 2]) (b := (13 + 3 * nx)) (rest := []) kn_X1_copyFrom ml_4_22 im_X1_copyFrom se_X1_copyFrom rfl (by decide +kernel) rfl rfl (Nat.le_of_ble_eq_true rfl) (Nat.le_of_ble_eq_true rfl) (CE_bf nx e2).1 (s_copy _ E0 I J (13 + 3 * nx) 2 (CE_bf nx e2) CE_2 (by omega) c hc) (fun r I1 J1 hq => ?_)
  obtain ⟨rfl, rfl, k1, k2⟩ := hq
  have e5 : I1 11 0 = nI ed.1 := by rw [k2 11 (by omega) (by omega) (by omega)]; exact e1
  have e6 : I1 11 1 = nI nx := by rw [k2 11 (by omega) (by omega) (by omega)]; exact e3
  have fin : ∀ (I2 : aI) (nx' : Nat), nx' = (nx + 1) % 10 → I2 11 0 = (if (10 : Int32) < nI ed.1 + 1 then 10 else nI ed.1 + 1) → I2 11 1 = nI nx' → (∀ q, q ≠ 11 → I2 q = I1 q) → CEd (psh ed c) I2 ∧ FrI (fun q => q = 11 ∨ (13 ≤ q ∧ q ≤ 42)) I I2 := by
    intro I2 nx' q1 q2 q3 q4
    have other : ∀ p, p < 10 → p ≠ nx → ∀ x, Ch I (13 + 3 * p) x → Ch I2 (13 + 3 * p) x := fun p hp hne x hx => Ch_eq hx (by rw [q4 _ (by omega), k2 _ (by omega) (by omega) (by omega)]) (by rw [q4 _ (by omega), k2 _ (by omega) (by omega) (by omega)]) (by rw [q4 _ (by omega), k2 _ (by omega) (by omega) (by omega)])
    have own : Ch I2 (13 + 3 * nx) c := Ch_eq k1 (q4 _ (by omega)) (q4 _ (by omega)) (q4 _ (by omega))
    refine ⟨?_, fun q hq => by rw [q4 q (by omega), k2 q (by omega) (by omega) (by omega)]⟩
    unfold psh
    by_cases h : ed.1 < 10
    · rw [if_pos h]
      refine ⟨?_, nx', by omega, q3, fun i hi => ?_⟩
      · rw [q2, if_neg (by rw [nI_1]; exact nI_nlt (a := 10) (b := ed.1 + 1) (by omega) (by omega)), nI_1]
      · have hi : i < ed.1 + 1 := hi
        show Ch I2 (13 + 3 * ((nx' + 10 - (ed.1 + 1) + i) % 10)) (if i = ed.1 then c else ed.2 i)
        by_cases e : i = ed.1
        · rw [if_pos e, show (nx' + 10 - (ed.1 + 1) + i) % 10 = nx by omega]; exact own
        · rw [if_neg e, show (nx' + 10 - (ed.1 + 1) + i) % 10 = (nx + 10 - ed.1 + i) % 10 by omega]
          exact other _ (by omega) (by omega) _ (e4 i (by omega))
    · rw [if_neg h]
      refine ⟨?_, nx', by omega, q3, fun i hi => ?_⟩
      · rw [q2, if_pos (by rw [nI_1]; exact nI_lt (a := 10) (b := ed.1 + 1) (by omega) (by omega))]; rfl
      · have hi : i < 10 := hi
        show Ch I2 (13 + 3 * ((nx' + 10 - 10 + i) % 10)) (if i = 9 then c else ed.2 (i + 1))
        by_cases e : i = 9
        · rw [if_pos e, show (nx' + 10 - 10 + i) % 10 = nx by omega]; exact own
        · rw [if_neg e, show (nx' + 10 - 10 + i) % 10 = (nx + 10 - ed.1 + (i + 1)) % 10 by omega]
          exact other _ (by omega) (by omega) _ (e4 (i + 1) (by omega))
  refine Ez.blk B_X4_remember_13 (lo' := [some (.ref 11), some (.ref 2)]) (st' := [.int 9, .int (I1 11 1), .ref 11]) (I' := I1) (J' := J1) (Ps := [aO E0 11 4]) rfl o_11 ?_
  refine Ez.n_icmp_ne (off := 7) (tgt := 27) (by decide +kernel) (by decide) (a := nx) (b := 9) e6 rfl (by omega) (by omega) (fun h => ?_) (fun h => ?_)
  · refine Ez.blk B_X4_remember_27 (lo' := [some (.ref 11), some (.ref 2)]) (st' := []) (I' := (aUp (aUp I1 11 1 (I1 11 1 + 1)) 11 0 (if 10 < (I1 11 0 + 1) then 10 else (I1 11 0 + 1)))) (J' := J1) (Ps := [aO E0 11 4, aO E0 11 4, aO E0 11 4, aO E0 11 4]) rfl ⟨o_11, o_11, o_11, o_11⟩ ?_
    generalize hI2 : (aUp (aUp I1 11 1 (I1 11 1 + 1)) 11 0 (if 10 < (I1 11 0 + 1) then 10 else (I1 11 0 + 1))) = I2
    obtain ⟨f1, f2⟩ := fin I2 (nx + 1) (by omega) (by rw [← hI2, aUp_eq, e5]) (by rw [← hI2, aUp_nk (by decide), aUp_eq]; rw [e6, nI_1]) (fun q hq => by rw [← hI2, aUp_ne hq, aUp_ne hq])
    exact Ez.vret rfl (by decide +kernel) (hQ _ _ _ ⟨rfl, rfl, f1, f2⟩)
  · refine Ez.blk B_X4_remember_23 (lo' := [some (.ref 11), some (.ref 2)]) (st' := [.int 0, .ref 11]) (I' := I1) (J' := J1) (Ps := []) rfl trivial ?_
    refine Ez.blk B_X4_remember_33 (lo' := [some (.ref 11), some (.ref 2)]) (st' := []) (I' := (aUp (aUp I1 11 1 0) 11 0 (if 10 < (I1 11 0 + 1) then 10 else (I1 11 0 + 1)))) (J' := J1) (Ps := [aO E0 11 4, aO E0 11 4, aO E0 11 4]) rfl ⟨o_11, o_11, o_11⟩ ?_
    generalize hI2 : (aUp (aUp I1 11 1 0) 11 0 (if 10 < (I1 11 0 + 1) then 10 else (I1 11 0 + 1))) = I2
    obtain ⟨f1, f2⟩ := fin I2 (0) (by omega) (by rw [← hI2, aUp_eq, e5]) (by rw [← hI2, aUp_nk (by decide), aUp_eq]; rfl) (fun q hq => by rw [← hI2, aUp_ne hq, aUp_ne hq])
    exact Ez.vret rfl (by decide +kernel) (hQ _ _ _ ⟨rfl, rfl, f1, f2⟩)
theorem s_takeLast (d : Nat) (I : aI) (J : aJ) (ed : Nat × (Nat → Nat → Nat)) (h0 : 1 ≤ ed.1) (h10 : ed.1 ≤ 10) (hE : CEd ed I) : Sp m_X4_takeLast (d + 2) [.ref 11, .ref 2] E0 I J (fun r I' J' => r = none ∧ J' = J ∧ CEd (ed.1 - 1, ed.2) I' ∧ Ch I' 2 (ed.2 (ed.1 - 1)) ∧ FrI (fun q => q = 11 ∨ (2 ≤ q ∧ q ≤ 4)) I I') := by
  refine Sp.of (lo := [some (.ref 11), some (.ref 2)]) rfl (fun Q hQ => ?_)
  obtain ⟨e1, nx, e2, e3, e4⟩ := hE
  refine Ez.blk B_X4_takeLast_0 (lo' := [some (.ref 11), some (.ref 2)]) (st' := [.int (I 11 1), .ref 11]) (I' := I) (J' := J) (Ps := [aO E0 11 4]) rfl o_11 ?_
  refine Ez.n_if_ne (off := 8) (tgt := 13) (by decide +kernel) (by decide) (a := nx) e3 (by omega) (fun h => ?_) (fun h => ?_)
  · refine Ez.blk B_X4_takeLast_13 (lo' := [some (.ref 11), some (.ref 2)]) (st' := [.ref (E0.2.2 12 (I 11 1 - 1).toNatClampNeg), .ref 2]) (I' := (aUp (aUp I 11 1 (I 11 1 - 1)) 11 0 (I 11 0 - 1))) (J' := J) (Ps := [aO E0 11 4, aO E0 11 4, aO E0 11 4, aO E0 11 4, aO E0 11 4 ∧ E0.2.2 11 2 ≠ 0, aO E0 11 4, aAr E0 4 12 (I 11 1 - 1) ∧ E0.2.2 12 ((I 11 1 - 1).toNatClampNeg) ≠ 0]) rfl ⟨o_11, o_11, o_11, o_11, r_11_2, o_11, (a_12 (k := (nx - 1)) (eq_sub (a := nx) (b := 1) e3 rfl (by omega)) (by omega))⟩ ?_
    rw [cln (x := (I 11 1 - 1)) (n := (nx - 1)) (eq_sub (a := nx) (b := 1) e3 rfl (by omega)) (by omega)]
    rw [bf_at (nx - 1) (by omega)]
    generalize hI1 : (aUp (aUp I 11 1 (I 11 1 - 1)) 11 0 (I 11 0 - 1)) = I1
    have g1 : I1 11 0 = nI (ed.1 - 1) := by rw [← hI1, aUp_eq]; exact eq_sub (a := ed.1) (b := 1) e1 rfl h0
    have g2 : I1 11 1 = nI (nx - 1) := by rw [← hI1, aUp_nk (by decide), aUp_eq]; exact eq_sub (a := nx) (b := 1) e3 rfl (by omega)
    have g3 : ∀ q, q ≠ 11 → I1 q = I q := fun q hq => by rw [← hI1, aUp_ne hq, aUp_ne hq]
    have g4 : ∀ p, p < 10 → ∀ x, Ch I (13 + 3 * p) x → Ch I1 (13 + 3 * p) x := fun p hp x hx => Ch_eq hx (g3 _ (by omega)) (g3 _ (by omega)) (g3 _ (by omega))
    have g5 : Ch I1 (13 + 3 * (nx - 1)) (ed.2 (ed.1 - 1)) := by
      have := g4 _ (by omega) _ (e4 (ed.1 - 1) (by omega))
      rw [show (nx + 10 - ed.1 + (ed.1 - 1)) % 10 = (nx - 1) by omega] at this
      exact this
    refine Ez.callV (As := [.ref (13 + 3 * (nx - 1))]) (b := 2) (rest := []) kn_X1_copyFrom ml_4_22 im_X1_copyFrom se_X1_copyFrom rfl (by decide +kernel) rfl rfl (Nat.le_of_ble_eq_true rfl) (Nat.le_of_ble_eq_true rfl) o_2 (s_copy _ E0 I1 J 2 (13 + 3 * (nx - 1)) CE_2 (CE_bf _ (by omega)) (by omega) (ed.2 (ed.1 - 1)) g5) (fun r I2 J2 hq => ?_)
    obtain ⟨rfl, rfl, k1, k2⟩ := hq
    exact Ez.vret rfl (by decide +kernel) (hQ _ _ _ ⟨rfl, rfl, ⟨by rw [k2 11 (by omega) (by omega) (by omega)]; exact g1, (nx - 1), by omega, by rw [k2 11 (by omega) (by omega) (by omega)]; exact g2, fun i hi => by
      have hi : i < ed.1 - 1 := hi
      have := g4 _ (by omega) _ (e4 i (by omega))
      show Ch I2 (13 + 3 * (((nx - 1) + 10 - (ed.1 - 1) + i) % 10)) (ed.2 i)
      rw [show ((nx - 1) + 10 - (ed.1 - 1) + i) % 10 = (nx + 10 - ed.1 + i) % 10 by omega]
      exact Ch_eq this (k2 _ (by omega) (by omega) (by omega)) (k2 _ (by omega) (by omega) (by omega)) (k2 _ (by omega) (by omega) (by omega))⟩, k1, fun q hq => by rw [k2 q (by omega) (by omega) (by omega), g3 q (by omega)]⟩)
  · refine Ez.blk B_X4_takeLast_8 (lo' := [some (.ref 11), some (.ref 2)]) (st' := [.int 9, .ref 11]) (I' := I) (J' := J) (Ps := []) rfl trivial ?_
    refine Ez.blk B_X4_takeLast_19 (lo' := [some (.ref 11), some (.ref 2)]) (st' := [.ref (E0.2.2 12 9), .ref 2]) (I' := (aUp (aUp I 11 1 9) 11 0 (I 11 0 - 1))) (J' := J) (Ps := [aO E0 11 4, aO E0 11 4, aO E0 11 4, aO E0 11 4 ∧ E0.2.2 11 2 ≠ 0, aO E0 11 4, aAr E0 4 12 9 ∧ E0.2.2 12 9 ≠ 0]) rfl ⟨o_11, o_11, o_11, r_11_2, o_11, (a_12 (k := 9) rfl (by omega))⟩ ?_
    rw [bf_at 9 (by omega)]
    generalize hI1 : (aUp (aUp I 11 1 9) 11 0 (I 11 0 - 1)) = I1
    have g1 : I1 11 0 = nI (ed.1 - 1) := by rw [← hI1, aUp_eq]; exact eq_sub (a := ed.1) (b := 1) e1 rfl h0
    have g2 : I1 11 1 = nI 9 := by rw [← hI1, aUp_nk (by decide), aUp_eq]; rfl
    have g3 : ∀ q, q ≠ 11 → I1 q = I q := fun q hq => by rw [← hI1, aUp_ne hq, aUp_ne hq]
    have g4 : ∀ p, p < 10 → ∀ x, Ch I (13 + 3 * p) x → Ch I1 (13 + 3 * p) x := fun p hp x hx => Ch_eq hx (g3 _ (by omega)) (g3 _ (by omega)) (g3 _ (by omega))
    have g5 : Ch I1 (13 + 3 * 9) (ed.2 (ed.1 - 1)) := by
      have := g4 _ (by omega) _ (e4 (ed.1 - 1) (by omega))
      rw [show (nx + 10 - ed.1 + (ed.1 - 1)) % 10 = 9 by omega] at this
      exact this
    refine Ez.callV (As := [.ref (13 + 3 * 9)]) (b := 2) (rest := []) kn_X1_copyFrom ml_4_22 im_X1_copyFrom se_X1_copyFrom rfl (by decide +kernel) rfl rfl (Nat.le_of_ble_eq_true rfl) (Nat.le_of_ble_eq_true rfl) o_2 (s_copy _ E0 I1 J 2 (13 + 3 * 9) CE_2 (CE_bf _ (by omega)) (by omega) (ed.2 (ed.1 - 1)) g5) (fun r I2 J2 hq => ?_)
    obtain ⟨rfl, rfl, k1, k2⟩ := hq
    exact Ez.vret rfl (by decide +kernel) (hQ _ _ _ ⟨rfl, rfl, ⟨by rw [k2 11 (by omega) (by omega) (by omega)]; exact g1, 9, by omega, by rw [k2 11 (by omega) (by omega) (by omega)]; exact g2, fun i hi => by
      have hi : i < ed.1 - 1 := hi
      have := g4 _ (by omega) _ (e4 i (by omega))
      show Ch I2 (13 + 3 * ((9 + 10 - (ed.1 - 1) + i) % 10)) (ed.2 i)
      rw [show (9 + 10 - (ed.1 - 1) + i) % 10 = (nx + 10 - ed.1 + i) % 10 by omega]
      exact Ch_eq this (k2 _ (by omega) (by omega) (by omega)) (k2 _ (by omega) (by omega) (by omega)) (k2 _ (by omega) (by omega) (by omega))⟩, k1, fun q hq => by rw [k2 q (by omega) (by omega) (by omega), g3 q (by omega)]⟩)
theorem s_forget (d : Nat) (I : aI) (J : aJ) (ed : Nat × (Nat → Nat → Nat)) (hE : CEd ed I) : Sp m_X4_forgetAll (d + 1) [.ref 11] E0 I J (fun r I' J' => r = none ∧ J' = J ∧ CEd (0, ed.2) I' ∧ FrI (fun q => q = 11) I I') := by
  refine Sp.of (lo := [some (.ref 11)]) rfl (fun Q hQ => ?_)
  refine Ez.blk B_X4_forgetAll_0 (lo' := [some (.ref 11)]) (st' := []) (I' := (aUp I 11 0 0)) (J' := J) (Ps := [aO E0 11 4]) rfl o_11 ?_
  generalize hI1 : (aUp I 11 0 0) = I1
  exact Ez.vret rfl (by decide +kernel) (hQ _ _ _ ⟨rfl, rfl, by
    obtain ⟨e1, nx, e2, e3, e4⟩ := hE
    exact ⟨by rw [← hI1, aUp_eq]; rfl, nx, e2, by rw [← hI1, aUp_nk (by decide)]; exact e3, fun i hi => by have hi : i < 0 := hi; omega⟩, fun q hq => by rw [← hI1, aUp_ne hq]⟩)
theorem s_isWithin (d : Nat) (E : aE) (I : aI) (J : aJ) (x l h : Int32) : Sp m_X9_isWithin (d + 1) [.int x, .int l, .int h] E I J (fun r I' J' => r = some (.int (zb (l ≤ x ∧ x ≤ h))) ∧ I' = I ∧ J' = J) := by
  refine Sp.of (lo := [some (.int x), some (.int l), some (.int h)]) rfl (fun Q hQ => ?_)
  refine Ez.blk B_X9_isWithin_0 (lo' := [some (.int x), some (.int l), some (.int h)]) (st' := [.int l, .int x]) (I' := I) (J' := J) (Ps := []) rfl trivial ?_
  refine Ez.icmp_lt (off := 12) (tgt := 14) (by decide +kernel) (by decide) (fun h1 => ?_) (fun h1 => ?_)
  · refine Ez.blk B_X9_isWithin_14 (lo' := [some (.int x), some (.int l), some (.int h)]) (st' := [.int 0]) (I' := I) (J' := J) (Ps := []) rfl trivial ?_
    exact Ez.zret rfl (Or.inl rfl) (by decide +kernel) (hQ _ _ _ ⟨by rw [zb_f (fun q => i32_nlt.mpr q.1 h1)], rfl, rfl⟩)
  · refine Ez.blk B_X9_isWithin_5 (lo' := [some (.int x), some (.int l), some (.int h)]) (st' := [.int h, .int x]) (I' := I) (J' := J) (Ps := []) rfl trivial ?_
    refine Ez.icmp_gt (off := 7) (tgt := 14) (by decide +kernel) (by decide) (fun h2 => ?_) (fun h2 => ?_)
    · refine Ez.blk B_X9_isWithin_14 (lo' := [some (.int x), some (.int l), some (.int h)]) (st' := [.int 0]) (I' := I) (J' := J) (Ps := []) rfl trivial ?_
      exact Ez.zret rfl (Or.inl rfl) (by decide +kernel) (hQ _ _ _ ⟨by rw [zb_f (fun q => i32_nlt.mpr q.2 h2)], rfl, rfl⟩)
    · refine Ez.blk B_X9_isWithin_10 (lo' := [some (.int x), some (.int l), some (.int h)]) (st' := [.int 1]) (I' := I) (J' := J) (Ps := []) rfl trivial ?_
      exact Ez.zret rfl (Or.inr rfl) (by decide +kernel) (hQ _ _ _ ⟨by rw [zb_t ⟨i32_nlt.mp h1, i32_nlt.mp h2⟩], rfl, rfl⟩)

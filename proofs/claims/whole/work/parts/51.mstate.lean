/-! THE REFERENCE: parse, states -/
theorem pn_bad {b : BF} {d : Nat} {s : PZ} (h : s.2 = 1) : pn b d s = (0, s) := by
  unfold pn
  rw [if_neg (fun q => by omega)]
  rw [← h]
theorem pt_bad {b : BF} {c : Nat} {s : PZ} (h : s.2 = 1) : pt b c s = s := by
  unfold pt
  rw [if_neg (fun q => by have := q.1; omega), ← h]
theorem ez_bad {b : BF} {s : PZ} (h : s.2 = 1) : (ez b s).1 = s := by
  unfold ez
  dsimp only
  rw [pn_bad h, pt_bad h, pn_bad h]
theorem pes_no {b : BF} {s : Nat} {y : PX} (h : ¬ tip b 44 y.1) : ∀ m, pes b s m y = y
  | 0 => rfl
  | m + 1 => by
    unfold pes
    rw [if_neg h]
theorem pst_bad {b : BF} {s : Nat} {x : PX} (h : (pn b 1 x.1).2.2 = 1) : (pst b s x).1 = (pn b 1 x.1).2 := by
  unfold pst
  rw [pt_bad h]
  have e : (es b s ((pn b 1 x.1).2, cup x.2.1 s (pn b 1 x.1).1, x.2.2)).1 = (pn b 1 x.1).2 := by rw [es_pz]; exact ez_bad h
  rw [pes_no (fun q => by have := q.1; rw [e, h] at this; cases this), e]
theorem psts_bad {b : BF} {r n : Nat} {x : PX} (h : x.1.2 = 1) : (psts b (r + 1) n x).2.1 = x.1 := by
  have e : (pst b n x).1 = x.1 := by
    have := pst_bad (b := b) (s := n) (x := x) (by rw [pn_bad h]; exact h)
    rw [pn_bad h] at this
    exact this
  unfold psts
  rw [if_neg (fun q => by have := q.2.1; rw [e, h] at this; cases this)]
  exact e
/-- weights below k of no row yet are 0 -/
abbrev Zr (x : PX) (n : Nat) : Prop := ∀ k, 10 * n ≤ k → x.2.2.1 k = 0
theorem es_z {b : BF} {s : Nat} {x : PX} (h : Zr x (s + 1)) : Zr (es b s x) (s + 1) := fun k hk => by
  unfold es
  by_cases e : (ez b x.1).1.2 = 0
  · rw [if_pos e]
    show cup x.2.2.1 (10 * s + (ez b x.1).2.2) _ k = 0
    have h9 : (ez b x.1).2.2 ≤ 9 := pn1_9
    rw [cup_ne (by omega)]; exact h k hk
  · rw [if_neg e]; exact h k hk
theorem pes_z {b : BF} {s : Nat} : ∀ (m : Nat) {x : PX}, Zr x (s + 1) → Zr (pes b s m x) (s + 1)
  | 0, x, h => h
  | m + 1, x, h => by
    unfold pes
    by_cases e : tip b 44 x.1
    · rw [if_pos e]; exact pes_z m (es_z (x := (pi b 44 x.1, x.2)) h)
    · rw [if_neg e]; exact h
theorem pst_z {b : BF} {s : Nat} {x : PX} (h : Zr x s) : Zr (pst b s x) (s + 1) := pes_z 79 (es_z (x := (pt b 44 (pn b 1 x.1).2, cup x.2.1 s (pn b 1 x.1).1, x.2.2)) (fun k hk => h k (by omega)))
abbrev WtM (I : aI) (n : Nat) (x : PX) : Prop := ∀ k, k < 10 * n → I 110 k = nI (x.2.2.1 k)
abbrev LbM (I : aI) (n : Nat) (x : PX) : Prop := ∀ k, k < n → I 109 k = nI (x.2.1 k)
abbrev FrS (I I' : aI) : Prop := (∀ q, q ≠ 93 → q ≠ 109 → q ≠ 110 → I' q = I q) ∧ ∀ k, k ≠ 20 → k ≠ 21 → k ≠ 23 → I' 93 k = I 93 k
theorem s_stateM (d : Nat) (I : aI) (J : aJ) (b : BF) (hb : MBf b I) (W : BW b) (x : PX) (hx : XO b x) (h0 : x.1.2 = 0) (hr : RdM I x.1) (s : Nat) (hs : s < 6) (hn : I 93 23 = nI s) (hw : WtM I s x) (hz : Zr x s) (hl : LbM I s x) : Sp m_X10_parseState (d + 5) [.ref 93] E0 I J (fun r I' J' => r = none ∧ J' = J ∧ RdM I' (pst b s x).1 ∧ I' 93 23 = nI (s + 1) ∧ ((pst b s x).1.2 = 0 → WtM I' (s + 1) (pst b s x) ∧ LbM I' (s + 1) (pst b s x)) ∧ FrS I I') := by
  refine Sp.of (lo := [some (.ref 93), none, none, none, none]) rfl (fun Q hQ => ?_)
  refine Ez.blk B_X10_parseState_0 (lo' := [some (.ref 93), some (.int (I 93 23)), none, none, none]) (st' := [.int 1, .ref 93, .int (I 93 23), .ref 109]) (I' := I) (J' := J) (Ps := [aO E0 93 10, aO E0 93 10 ∧ E0.2.2 93 24 ≠ 0]) rfl ⟨o_93, r_93_24⟩ ?_
  rw [hn]
  refine Ez.callV (As := [.int 1]) (b := 93) (rest := [.int (nI s), .ref 109]) kn_X10_number_ ml_10_251 im_X10_number_ se_X10_number_ rfl (by decide +kernel) rfl rfl (Nat.le_of_ble_eq_true rfl) (Nat.le_of_ble_eq_true rfl) o_93 (s_numM1 _ I J b hb W x.1 hx.1 hr) (fun r I1 J1 hq => ?_)
  obtain ⟨rfl, rfl, k1, k2⟩ := hq
  obtain ⟨x1, hx1⟩ : ∃ x1, x1 = (pn b 1 x.1).2 := ⟨_, rfl⟩
  obtain ⟨lv, hlv⟩ : ∃ lv, lv = (pn b 1 x.1).1 := ⟨_, rfl⟩
  have po1 : PO b x1 := by rw [hx1]; exact (pn_ok hx.1).1
  rw [← hx1] at k1
  rw [← hlv]
  refine Ez.blk B_X10_parseState_15 (lo' := [some (.ref 93), some (.int (nI s)), some (.int 0), none, none]) (st' := []) (I' := (aUp I1 109 ((nI s).toNatClampNeg) (nI lv))) (J' := J1) (Ps := [aAr E0 1 109 (nI s)]) rfl (a_109 (vin (n := s) rfl (by omega) (by decide))) ?_
  rw [cln (x := nI s) (n := s) rfl (by omega)]
  generalize hI2 : (aUp I1 109 s (nI lv)) = I2
  have r2 : RdM I2 x1 := ⟨by rw [← hI2, aUp_ne (by decide)]; exact k1.1, by rw [← hI2, aUp_ne (by decide)]; exact k1.2⟩
  have l2 : LbM I2 (s + 1) ((0, 0), cup x.2.1 s lv, x.2.2) := fun k hk => by
    show I2 109 k = nI (cup x.2.1 s lv k)
    rw [← hI2]
    by_cases e : k = s
    · rw [e, aUp_eq, cup_eq]
    · rw [aUp_nk e, cup_ne e, k2.1 109 (by decide)]; exact hl k (by omega)
  have w2 : WtM I2 s x := fun k hk => by rw [← hI2, aUp_ne (by decide), k2.1 110 (by decide)]; exact hw k hk
  have f2 : FrS I I2 := ⟨fun q h0 h1 h2 => by rw [← hI2, aUp_ne h1]; exact k2.1 q h0, fun k h0 h1 h3 => by rw [← hI2, aUp_ne (by decide)]; exact k2.2 k h0 h1⟩
  have n2 : I2 93 23 = nI s := by rw [← hI2, aUp_ne (by decide), k2.2 23 (by decide) (by decide)]; exact hn
  have fin : ∀ (I5 : aI) (a b_ c_ : Option Value), RdM I5 (pst b s x).1 → I5 93 23 = nI s → ((pst b s x).1.2 = 0 → WtM I5 (s + 1) (pst b s x) ∧ LbM I5 (s + 1) (pst b s x)) → FrS I I5 → Ez m_X10_parseState (d + 5) 119 [some (.ref 93), some (.int (nI s)), none, none, none] [] E0 I5 J1 Q := by
    intro I5 a b_ c_ y1 y2 y3 y4
    refine Ez.blk B_X10_parseState_119 (lo' := [some (.ref 93), some (.int (nI s)), none, none, none]) (st' := []) (I' := (aUp I5 93 23 (I5 93 23 + 1))) (J' := J1) (Ps := [aO E0 93 10, aO E0 93 10]) rfl ⟨o_93, o_93⟩ ?_
    generalize hI6 : (aUp I5 93 23 (I5 93 23 + 1)) = I6
    exact Ez.vret rfl (by decide +kernel) (hQ _ _ _ ⟨rfl, rfl, ⟨by rw [← hI6, aUp_nk (by decide)]; exact y1.1, by rw [← hI6, aUp_nk (by decide)]; exact y1.2⟩, by rw [← hI6, aUp_eq, y2]; exact eq_add (a := s) (b := 1) rfl rfl, fun q => ⟨fun k hk => by rw [← hI6, aUp_ne (by decide)]; exact (y3 q).1 k hk, fun k hk => by rw [← hI6, aUp_ne (by decide)]; exact (y3 q).2 k hk⟩, fun q g0 g1 g2 => by rw [← hI6, aUp_ne g0]; exact y4.1 q g0 g1 g2, fun k g0 g1 g3 => by rw [← hI6, aUp_nk g3]; exact y4.2 k g0 g1 g3⟩)
  have edge : ∀ (I5 : aI) (y : PX) (fl : Int32), XO b y → y.1.2 = 0 → RdM I5 y.1 → I5 93 23 = nI s → WtM I5 (s + 1) y → y.2.1 = cup x.2.1 s lv → LbM I5 (s + 1) y → FrS I I5 → (∀ I6 : aI, XO b (es b s (pt b 44 y.1, y.2)) → RdM I6 (es b s (pt b 44 y.1, y.2)).1 → I6 93 23 = nI s → ((es b s (pt b 44 y.1, y.2)).1.2 = 0 → WtM I6 (s + 1) (es b s (pt b 44 y.1, y.2))) → LbM I6 (s + 1) (es b s (pt b 44 y.1, y.2)) → FrS I I6 → Ez m_X10_parseState (d + 5) 44 [some (.ref 93), some (.int (nI s)), some (.int 0), none, none] [] E0 I6 J1 Q) → Ez m_X10_parseState (d + 5) 66 [some (.ref 93), some (.int (nI s)), some (.int fl), none, none] [] E0 I5 J1 Q := by
    intro I5 y fl y1 y2 y3 y4 y5 y6 y7 y8 cont
    have b5 : MBf b I5 := MBf_fr hb (y8.2 18 (by decide) (by decide) (by decide)) (y8.1 108 (by decide) (by decide) (by decide))
    refine Ez.blk B_X10_parseState_66 (lo' := [some (.ref 93), some (.int (nI s)), some (.int 0), none, none]) (st' := [.int 44, .ref 93]) (I' := I5) (J' := J1) (Ps := []) rfl trivial ?_
    refine Ez.callV (As := [.int 44]) (b := 93) (rest := []) kn_X10_expect ml_10_254 im_X10_expect se_X10_expect rfl (by decide +kernel) rfl rfl (Nat.le_of_ble_eq_true rfl) (Nat.le_of_ble_eq_true rfl) o_93 (s_expect _ I5 J1 b b5 W y.1 y1.1 y3 44 (by decide)) (fun r I6 J6 hq => ?_)
    obtain ⟨rfl, rfl, m1, m2⟩ := hq
    obtain ⟨z, hz1⟩ : ∃ z, z = pt b 44 y.1 := ⟨_, rfl⟩
    have pz : PO b z := by rw [hz1]; exact pt_ok y1.1
    rw [← hz1] at m1 cont
    have b6 := MBf_N b5 m2
    refine Ez.blk B_X10_parseState_74 (lo' := [some (.ref 93), some (.int (nI s)), some (.int 0), none, none]) (st' := [.int 2, .ref 93]) (I' := I6) (J' := J6) (Ps := []) rfl trivial ?_
    refine Ez.callV (As := [.int 2]) (b := 93) (rest := []) kn_X10_number_ ml_10_251 im_X10_number_ se_X10_number_ rfl (by decide +kernel) rfl rfl (Nat.le_of_ble_eq_true rfl) (Nat.le_of_ble_eq_true rfl) o_93 (s_numM2 _ I6 J6 b b6 W z pz m1) (fun r I7 J7 hq => ?_)
    obtain ⟨rfl, rfl, m3, m4⟩ := hq
    have b7 := MBf_N b6 m4
    have p7 : PO b (pn b 2 z).2 := (pn_ok pz).1
    have f7 := p7.2
    have a99 : (pn b 2 z).1 ≤ 99 := (pn_ok pz).2
    have fr7 := FrN_tr m2 m4
    have LG : ∀ I8 : aI, RdM I8 (pt b 62 (pn b 2 z).2) → FrN I5 I8 → Ez m_X10_parseState (d + 5) 93 [some (.ref 93), some (.int (nI s)), some (.int 0), some (.int (nI (pn b 2 z).1)), none] [] E0 I8 J7 Q := by
      intro I8 g1 g2
      have b8 := MBf_N b5 g2
      refine Ez.blk B_X10_parseState_93 (lo' := [some (.ref 93), some (.int (nI s)), some (.int 0), some (.int (nI ((pn b 2 z).1))), none]) (st' := [.int 1, .ref 93]) (I' := I8) (J' := J7) (Ps := []) rfl trivial ?_
      refine Ez.callV (As := [.int 1]) (b := 93) (rest := []) kn_X10_number_ ml_10_251 im_X10_number_ se_X10_number_ rfl (by decide +kernel) rfl rfl (Nat.le_of_ble_eq_true rfl) (Nat.le_of_ble_eq_true rfl) o_93 (s_numM1 _ I8 J7 b b8 W (pt b 62 (pn b 2 z).2) (pt_ok p7) g1) (fun r I9 J9 hq => ?_)
      obtain ⟨rfl, rfl, g3, g4⟩ := hq
      have e9 : (pn b 1 (pt b 62 (pn b 2 z).2)).1 ≤ 9 := pn1_9
      have fr9 := FrN_tr g2 g4
      refine Ez.blk B_X10_parseState_98 (lo' := [some (.ref 93), some (.int (nI s)), some (.int 0), some (.int (nI ((pn b 2 z).1))), some (.int (nI ((pn b 1 (pt b 62 (pn b 2 z).2)).1)))]) (st' := []) (I' := (aUp I9 110 (((10 * nI s) + nI ((pn b 1 (pt b 62 (pn b 2 z).2)).1)).toNatClampNeg) (I9 110 (((10 * nI s) + nI ((pn b 1 (pt b 62 (pn b 2 z).2)).1)).toNatClampNeg) + nI ((pn b 2 z).1)))) (J' := J9) (Ps := [aO E0 93 10 ∧ E0.2.2 93 25 ≠ 0, aAr E0 1 110 ((10 * nI s) + nI ((pn b 1 (pt b 62 (pn b 2 z).2)).1)), aAr E0 1 110 ((10 * nI s) + nI ((pn b 1 (pt b 62 (pn b 2 z).2)).1))]) rfl ⟨r_93_25, (a_110 (vin (n := (10 * s + (pn b 1 (pt b 62 (pn b 2 z).2)).1)) (eq_add (a := (10 * s)) (b := (pn b 1 (pt b 62 (pn b 2 z).2)).1) (eq_mul (a := 10) (b := s) rfl rfl) rfl) (by omega) (by decide))), (a_110 (vin (n := (10 * s + (pn b 1 (pt b 62 (pn b 2 z).2)).1)) (eq_add (a := (10 * s)) (b := (pn b 1 (pt b 62 (pn b 2 z).2)).1) (eq_mul (a := 10) (b := s) rfl rfl) rfl) (by omega) (by decide)))⟩ ?_
      rw [cln (x := ((10 * nI s) + nI ((pn b 1 (pt b 62 (pn b 2 z).2)).1))) (n := (10 * s + (pn b 1 (pt b 62 (pn b 2 z).2)).1)) (eq_add (a := (10 * s)) (b := (pn b 1 (pt b 62 (pn b 2 z).2)).1) (eq_mul (a := 10) (b := s) rfl rfl) rfl) (by omega)]
      generalize hIA : (aUp I9 110 (10 * s + (pn b 1 (pt b 62 (pn b 2 z).2)).1) (I9 110 (10 * s + (pn b 1 (pt b 62 (pn b 2 z).2)).1) + nI ((pn b 2 z).1))) = IA
      refine Ez.drops [3, 4] (lo' := [some (.ref 93), some (.int (nI s)), some (.int 0), none, none]) rfl ?_
      refine cont IA (es_ok ⟨pz, y1.2.1, fun k => Nat.le_trans (y1.2.2 k) (Nat.mul_le_mul_left _ (by rw [hz1]; exact pt_mono.1))⟩) ?_ (by rw [← hIA, aUp_ne (by decide), fr9.2 23 (by decide) (by decide)]; exact y4) (fun ok k hk => ?_) (fun k hk => ?_) ⟨fun q h0 h1 h2 => by rw [← hIA, aUp_ne h2, fr9.1 q h0]; exact y8.1 q h0 h1 h2, fun k h0 h1 h3 => by rw [← hIA, aUp_ne (by decide), fr9.2 k h0 h1]; exact y8.2 k h0 h1 h3⟩
      · rw [es_pz]
        exact ⟨by rw [← hIA, aUp_ne (by decide)]; exact g3.1, by rw [← hIA, aUp_ne (by decide)]; exact g3.2⟩
      · rw [es_pz] at ok
        unfold es
        rw [if_pos ok]
        show IA 110 k = nI (cup y.2.2.1 (10 * s + (pn b 1 (pt b 62 (pn b 2 z).2)).1) (y.2.2.1 (10 * s + (pn b 1 (pt b 62 (pn b 2 z).2)).1) + (pn b 2 z).1) k)
        rw [← hIA]
        by_cases e : k = 10 * s + (pn b 1 (pt b 62 (pn b 2 z).2)).1
        · rw [e, aUp_eq, cup_eq, fr9.1 110 (by decide), y5 _ (by omega)]; exact eq_add rfl rfl
        · rw [aUp_nk e, cup_ne e, fr9.1 110 (by decide)]; exact y5 k hk
      · rw [es_lab, ← hIA, aUp_ne (by decide), fr9.1 109 (by decide)]; exact y7 k hk
    refine Ez.blk B_X10_parseState_79 (lo' := [some (.ref 93), some (.int (nI s)), some (.int 0), some (.int (nI ((pn b 2 z).1))), none]) (st' := [.int (I7 93 21)]) (I' := I7) (J' := J7) (Ps := [aO E0 93 10]) rfl o_93 ?_
    refine Ez.n_if_ne (off := 9) (tgt := 93) (by decide +kernel) (by decide) (a := (pn b 2 z).2.2) m3.2 (by omega) (fun g => ?_) (fun g => ?_)
    · have e1 : (pn b 2 z).2.2 = 1 := by omega
      exact LG I7 (by rw [pt_bad e1]; exact m3) fr7
    · refine Ez.blk B_X10_parseState_87 (lo' := [some (.ref 93), some (.int (nI s)), some (.int 0), some (.int (nI ((pn b 2 z).1))), none]) (st' := [.int 62, .ref 93]) (I' := I7) (J' := J7) (Ps := []) rfl trivial ?_
      refine Ez.callV (As := [.int 62]) (b := 93) (rest := []) kn_X10_expect ml_10_254 im_X10_expect se_X10_expect rfl (by decide +kernel) rfl rfl (Nat.le_of_ble_eq_true rfl) (Nat.le_of_ble_eq_true rfl) o_93 (s_expect _ I7 J7 b b7 W (pn b 2 z).2 p7 m3 62 (by decide)) (fun r I8 J8 hq => ?_)
      obtain ⟨rfl, rfl, g1, g2⟩ := hq
      exact LG I8 g1 (FrN_tr fr7 g2)
  have L1 : ∀ m, ∀ (I5 : aI) (y : PX), (XO b y ∧ RdM I5 y.1 ∧ I5 93 23 = nI s ∧ (y.1.2 = 0 → WtM I5 (s + 1) y) ∧ y.2.1 = cup x.2.1 s lv ∧ LbM I5 (s + 1) y ∧ FrS I I5 ∧ pst b s x = pes b s m y ∧ (y.1.2 = 0 → b.1 ≤ m + y.1.1)) → Ez m_X10_parseState (d + 5) 44 [some (.ref 93), some (.int (nI s)), some (.int 0), none, none] [] E0 I5 J1 Q := by
    intro m
    induction m with
    | zero =>
      intro I5 y ⟨y1, y2, y3, y4, y5, y6, y7, y8, y9⟩
      have yf := y1.1.2
      have b5 : MBf b I5 := MBf_fr hb (y7.2 18 (by decide) (by decide) (by decide)) (y7.1 108 (by decide) (by decide) (by decide))
      refine Ez.blk B_X10_parseState_44 (lo' := [some (.ref 93), some (.int (nI s)), some (.int 0), none, none]) (st' := [.int (I5 93 21)]) (I' := I5) (J' := J1) (Ps := [aO E0 93 10]) rfl o_93 ?_
      refine Ez.n_if_ne (off := 71) (tgt := 119) (by decide +kernel) (by decide) (a := y.1.2) y2.2 (by omega) (fun g => ?_) (fun g => ?_)
      · refine Ez.drops [2] (lo' := [some (.ref 93), some (.int (nI s)), none, none, none]) rfl ?_
        have ey : pst b s x = y := by rw [y8, pes_no (fun q => g q.1)]
        exact fin I5 none none none (by rw [ey]; exact y2) y3 (fun q => by rw [ey] at q ⊢; exact ⟨y4 q, y6⟩) y7
      · refine Ez.blk B_X10_parseState_51 (lo' := [some (.ref 93), some (.int (nI s)), some (.int 0), none, none]) (st' := [.int 0]) (I' := I5) (J' := J1) (Ps := []) rfl trivial ?_
        refine Ez.n_if_ne (off := 14) (tgt := 66) (by decide +kernel) (by decide) (a := 0) rfl (by omega) (fun gz => absurd rfl gz) (fun gz => ?_)
        refine Ez.blk B_X10_parseState_55 (lo' := [some (.ref 93), some (.int (nI s)), some (.int 0), none, none]) (st' := [.int 44, .int 44, .ref 93]) (I' := I5) (J' := J1) (Ps := []) rfl trivial ?_
        refine Ez.callV (As := [.int 44, .int 44]) (b := 93) (rest := []) kn_X10_isNext ml_10_242 im_X10_isNext se_X10_isNext rfl (by decide +kernel) rfl rfl (Nat.le_of_ble_eq_true rfl) (Nat.le_of_ble_eq_true rfl) o_93 (s_isNext _ I5 J1 b b5 W y.1 y1.1 y2 44 44 (by decide) (by decide)) (fun r I6 J6 hq => ?_)
        obtain ⟨rfl, rfl, rfl⟩ := hq
        refine Ez.z_if_eq (off := 56) (tgt := 119) (by decide +kernel) (by decide) (fun g2 => ?_) (fun g2 => ?_)
        · refine Ez.drops [2] (lo' := [some (.ref 93), some (.int (nI s)), none, none, none]) rfl ?_
          have ey : pst b s x = y := by rw [y8, pes_no (fun q => g2 ⟨q.2.1, by have := q.2.2; omega, by have := q.2.2; omega⟩)]
          exact fin I6 none none none (by rw [ey]; exact y2) y3 (fun q => by rw [ey] at q ⊢; exact ⟨y4 q, y6⟩) y7
        · have := y9 g
          have := g2.1
          omega
    | succ m ih =>
      intro I5 y ⟨y1, y2, y3, y4, y5, y6, y7, y8, y9⟩
      have yf := y1.1.2
      have b5 : MBf b I5 := MBf_fr hb (y7.2 18 (by decide) (by decide) (by decide)) (y7.1 108 (by decide) (by decide) (by decide))
      refine Ez.blk B_X10_parseState_44 (lo' := [some (.ref 93), some (.int (nI s)), some (.int 0), none, none]) (st' := [.int (I5 93 21)]) (I' := I5) (J' := J1) (Ps := [aO E0 93 10]) rfl o_93 ?_
      refine Ez.n_if_ne (off := 71) (tgt := 119) (by decide +kernel) (by decide) (a := y.1.2) y2.2 (by omega) (fun g => ?_) (fun g => ?_)
      · refine Ez.drops [2] (lo' := [some (.ref 93), some (.int (nI s)), none, none, none]) rfl ?_
        have ey : pst b s x = y := by rw [y8, pes_no (fun q => g q.1)]
        exact fin I5 none none none (by rw [ey]; exact y2) y3 (fun q => by rw [ey] at q ⊢; exact ⟨y4 q, y6⟩) y7
      · refine Ez.blk B_X10_parseState_51 (lo' := [some (.ref 93), some (.int (nI s)), some (.int 0), none, none]) (st' := [.int 0]) (I' := I5) (J' := J1) (Ps := []) rfl trivial ?_
        refine Ez.n_if_ne (off := 14) (tgt := 66) (by decide +kernel) (by decide) (a := 0) rfl (by omega) (fun gz => absurd rfl gz) (fun gz => ?_)
        refine Ez.blk B_X10_parseState_55 (lo' := [some (.ref 93), some (.int (nI s)), some (.int 0), none, none]) (st' := [.int 44, .int 44, .ref 93]) (I' := I5) (J' := J1) (Ps := []) rfl trivial ?_
        refine Ez.callV (As := [.int 44, .int 44]) (b := 93) (rest := []) kn_X10_isNext ml_10_242 im_X10_isNext se_X10_isNext rfl (by decide +kernel) rfl rfl (Nat.le_of_ble_eq_true rfl) (Nat.le_of_ble_eq_true rfl) o_93 (s_isNext _ I5 J1 b b5 W y.1 y1.1 y2 44 44 (by decide) (by decide)) (fun r I6 J6 hq => ?_)
        obtain ⟨rfl, rfl, rfl⟩ := hq
        refine Ez.z_if_eq (off := 56) (tgt := 119) (by decide +kernel) (by decide) (fun g2 => ?_) (fun g2 => ?_)
        · refine Ez.drops [2] (lo' := [some (.ref 93), some (.int (nI s)), none, none, none]) rfl ?_
          have ey : pst b s x = y := by rw [y8, pes_no (fun q => g2 ⟨q.2.1, by have := q.2.2; omega, by have := q.2.2; omega⟩)]
          exact fin I6 none none none (by rw [ey]; exact y2) y3 (fun q => by rw [ey] at q ⊢; exact ⟨y4 q, y6⟩) y7
        · have tp : tip b 44 y.1 := ⟨g, g2.1, by omega⟩
          have ept : pt b 44 y.1 = pi b 44 y.1 := by unfold pt pi; rw [if_pos tp, if_pos tp]
          exact edge I6 y 0 y1 g y2 y3 (y4 g) y5 y6 y7 (fun I7 z1 z2 z3 z4 z5 z6 => ih I7 (es b s (pt b 44 y.1, y.2)) ⟨z1, z2, z3, z4, by rw [es_lab]; exact y5, z5, z6, by rw [y8, ept]; show (if tip b 44 y.1 then _ else _) = _; rw [if_pos tp], fun _ => by
            have h1 : (pt b 44 y.1).1 ≤ (es b s (pt b 44 y.1, y.2)).1.1 := by rw [es_pz]; exact ez_mono.1
            have h2 : (pt b 44 y.1).1 = y.1.1 + 1 := by rw [ept]; exact (pi_mono.2 tp).1
            have h3 := y9 g
            omega⟩)
  have L0 : ∀ k, k ≤ 10 → ∀ (I3 : aI), ((∀ j, j < 10 * s + k → I3 110 j = nI (x.2.2.1 j)) ∧ ∀ q, q ≠ 110 → I3 q = I2 q) → Ez m_X10_parseState (d + 5) 18 [some (.ref 93), some (.int (nI s)), some (.int (nI k)), none, none] [] E0 I3 J1 Q := by
    refine for_up ?_ ?_
    · intro I3 hi
      obtain ⟨i1, i2⟩ := hi
      have r3 : RdM I3 x1 := ⟨by rw [i2 93 (by decide)]; exact r2.1, by rw [i2 93 (by decide)]; exact r2.2⟩
      have f3 : FrS I I3 := ⟨fun q h0 h1 h2 => by rw [i2 q h2]; exact f2.1 q h0 h1 h2, fun k h0 h1 h3 => by rw [i2 93 (by decide)]; exact f2.2 k h0 h1 h3⟩
      have x1f := po1.2
      refine Ez.blk B_X10_parseState_18 (lo' := [some (.ref 93), some (.int (nI s)), some (.int (nI 10)), none, none]) (st' := [.int 10, .int (nI 10)]) (I' := I3) (J' := J1) (Ps := []) rfl trivial ?_
      refine Ez.n_icmp_ge (off := 21) (tgt := 42) (by decide +kernel) (by decide) (a := 10) (b := 10) rfl rfl (by omega) (by omega) (fun h => ?_) (fun h => absurd h (by omega))
      refine Ez.blk B_X10_parseState_42 (lo' := [some (.ref 93), some (.int (nI s)), some (.int 1), none, none]) (st' := []) (I' := I3) (J' := J1) (Ps := []) rfl trivial ?_
      refine Ez.blk B_X10_parseState_44 (lo' := [some (.ref 93), some (.int (nI s)), some (.int 1), none, none]) (st' := [.int (I3 93 21)]) (I' := I3) (J' := J1) (Ps := [aO E0 93 10]) rfl o_93 ?_
      refine Ez.n_if_ne (off := 71) (tgt := 119) (by decide +kernel) (by decide) (a := x1.2) r3.2 (by omega) (fun g => ?_) (fun g => ?_)
      · refine Ez.drops [2] (lo' := [some (.ref 93), some (.int (nI s)), none, none, none]) rfl ?_
        have e1 : (pn b 1 x.1).2.2 = 1 := by rw [← hx1]; omega
        have ep := pst_bad (b := b) (s := s) (x := x) e1
        exact fin I3 none none none (by rw [ep, ← hx1]; exact r3) (by rw [i2 93 (by decide)]; exact n2) (fun q => by rw [ep, e1] at q; cases q) f3
      · refine Ez.blk B_X10_parseState_51 (lo' := [some (.ref 93), some (.int (nI s)), some (.int 1), none, none]) (st' := [.int 1]) (I' := I3) (J' := J1) (Ps := []) rfl trivial ?_
        refine Ez.n_if_ne (off := 14) (tgt := 66) (by decide +kernel) (by decide) (a := 1) rfl (by omega) (fun gz => ?_) (fun gz => absurd gz (by decide))
        have xo : XO b (x1, cup x.2.1 s lv, x.2.2) := ⟨po1, hx.2.1, fun k => Nat.le_trans (hx.2.2 k) (Nat.mul_le_mul_left _ (by rw [hx1]; exact pn_mono.1))⟩
        have x1p : 1 ≤ x1.1 := by
          have := (pn_mono (b := b) (d := 1) (s := x.1)).2 (by rw [← hx1]; exact g)
          rw [← hx1] at this
          omega
        exact edge I3 (x1, cup x.2.1 s lv, x.2.2) 1 xo g r3 (by rw [i2 93 (by decide)]; exact n2) (fun k hk => i1 k (by omega)) rfl (fun k hk => by rw [i2 109 (by decide)]; exact l2 k hk) f3 (fun I7 z1 z2 z3 z4 z5 z6 => L1 79 I7 (es b s (pt b 44 x1, cup x.2.1 s lv, x.2.2)) ⟨z1, z2, z3, z4, by rw [es_lab], z5, z6, by rw [hx1, hlv]; rfl, fun _ => by
          have h1 : (pt b 44 x1).1 ≤ (es b s (pt b 44 x1, cup x.2.1 s lv, x.2.2)).1.1 := by rw [es_pz]; exact ez_mono.1
          have h2 : x1.1 ≤ (pt b 44 x1).1 := pt_mono.1
          have h3 := W.1
          omega⟩)
    · intro k hk ih I3 hi
      obtain ⟨i1, i2⟩ := hi
      refine Ez.blk B_X10_parseState_18 (lo' := [some (.ref 93), some (.int (nI s)), some (.int (nI k)), none, none]) (st' := [.int 10, .int (nI k)]) (I' := I3) (J' := J1) (Ps := []) rfl trivial ?_
      refine Ez.n_icmp_ge (off := 21) (tgt := 42) (by decide +kernel) (by decide) (a := k) (b := 10) rfl rfl (by omega) (by omega) (fun h => absurd h (by omega)) (fun h => ?_)
      refine Ez.blk B_X10_parseState_24 (lo' := [some (.ref 93), some (.int (nI s)), some (.int (nI k + 1)), none, none]) (st' := []) (I' := (aUp I3 110 (((10 * nI s) + nI k).toNatClampNeg) 0)) (J' := J1) (Ps := [aO E0 93 10 ∧ E0.2.2 93 25 ≠ 0, aAr E0 1 110 ((10 * nI s) + nI k)]) rfl ⟨r_93_25, (a_110 (vin (n := (10 * s + k)) (eq_add (a := (10 * s)) (b := k) (eq_mul (a := 10) (b := s) rfl rfl) rfl) (by omega) (by decide)))⟩ ?_
      rw [cln (x := ((10 * nI s) + nI k)) (n := (10 * s + k)) (eq_add (a := (10 * s)) (b := k) (eq_mul (a := 10) (b := s) rfl rfl) rfl) (by omega)]
      rw [show (nI k + 1) = nI (k + 1) from (eq_add (a := k) (b := 1) rfl rfl)]
      exact ih _ ⟨fun j hj => by
        by_cases e : j = 10 * s + k
        · rw [e, aUp_eq, hz _ (by omega)]; rfl
        · rw [aUp_nk e]; exact i1 j (by omega), fun q hq => by rw [aUp_ne hq]; exact i2 q hq⟩
  exact L0 0 (by omega) I2 ⟨fun j hj => w2 j (by omega), fun _ _ => rfl⟩

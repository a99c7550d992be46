/-! THE REFERENCE: parse, the text -/
def cnt (b : BF) (p : Nat) : Nat := sm (fun k => if b.2 k = 59 then 1 else 0) p
theorem cnt_s {b : BF} {p : Nat} : cnt b (p + 1) = cnt b p + if b.2 p = 59 then 1 else 0 := rfl
theorem cnt_le {b : BF} {p q : Nat} (h : p ≤ q) : cnt b p ≤ cnt b q := sm_mono h
/-- what is known of the text up to p: successors are at most h, h is one; n semicolons -/
def G3 (b : BF) (n p h : Nat) : Prop := (∀ k, k < p → b.2 k = 62 → k + 1 < p ∧ 48 ≤ b.2 (k + 1) ∧ b.2 (k + 1) - 48 ≤ h) ∧ (h = 0 ∨ ∃ k, k + 1 < p ∧ b.2 k = 62 ∧ b.2 (k + 1) - 48 = h) ∧ cnt b p = n
theorem g_one {b : BF} {n p h : Nat} (g : G3 b n p h) (h1 : b.2 p ≠ 62) (h2 : b.2 p ≠ 59) : G3 b n (p + 1) h := by
  refine ⟨fun k hk e => ?_, ?_, ?_⟩
  · by_cases q : k = p
    · rw [q] at e; exact absurd e h1
    · have := g.1 k (by omega) e
      exact ⟨by omega, this.2⟩
  · rcases g.2.1 with e | ⟨k, e1, e2⟩
    · exact Or.inl e
    · exact Or.inr ⟨k, by omega, e2⟩
  · rw [cnt_s, if_neg h2, g.2.2]; rfl
theorem g_semi {b : BF} {n p h : Nat} (g : G3 b n p h) (h1 : b.2 p = 59) : G3 b (n + 1) (p + 1) h := by
  refine ⟨fun k hk e => ?_, ?_, ?_⟩
  · by_cases q : k = p
    · rw [q, h1] at e; exact absurd e (by decide)
    · have := g.1 k (by omega) e
      exact ⟨by omega, this.2⟩
  · rcases g.2.1 with e | ⟨k, e1, e2⟩
    · exact Or.inl e
    · exact Or.inr ⟨k, by omega, e2⟩
  · rw [cnt_s, if_pos h1, g.2.2]
theorem g_edge {b : BF} {n p h : Nat} (g : G3 b n p h) (h1 : b.2 p = 62) (h2 : 48 ≤ b.2 (p + 1) ∧ b.2 (p + 1) ≤ 57) : G3 b n (p + 2) (max h (b.2 (p + 1) - 48)) := by
  refine ⟨fun k hk e => ?_, ?_, ?_⟩
  · by_cases q : k = p
    · rw [q]; exact ⟨by omega, h2.1, by omega⟩
    · by_cases q2 : k = p + 1
      · rw [q2] at e; omega
      · have := g.1 k (by omega) e
        exact ⟨by omega, this.2.1, by omega⟩
  · by_cases q : h ≤ b.2 (p + 1) - 48
    · exact Or.inr ⟨p, by omega, h1, by omega⟩
    · rcases g.2.1 with e | ⟨k, e1, e2, e3⟩
      · omega
      · exact Or.inr ⟨k, by omega, e2, by omega⟩
  · rw [show p + 2 = (p + 1) + 1 from rfl, cnt_s, cnt_s, if_neg (by omega), if_neg (by omega)]; exact g.2.2
theorem g_num {b : BF} {n h d : Nat} {s : PZ} (g : G3 b n s.1 h) (ok : (pn b d s).2.2 = 0) : G3 b n (pn b d s).2.1 h := by
  unfold pn at ok ⊢
  by_cases e : s.2 = 0 ∧ dig b s.1
  · rw [if_pos e] at ok ⊢
    have g1 := g_one g (by have := e.2.2.2; omega) (by have := e.2.2.2; omega)
    by_cases e2 : d = 2 ∧ dig b (s.1 + 1)
    · rw [if_pos e2]
      exact g_one g1 (by have := e2.2.2.2; omega) (by have := e2.2.2.2; omega)
    · rw [if_neg e2]; exact g1
  · rw [if_neg e] at ok; cases ok
theorem pn1_v {b : BF} {s : PZ} (ok : (pn b 1 s).2.2 = 0) : (pn b 1 s).1 = b.2 s.1 - 48 ∧ (pn b 1 s).2.1 = s.1 + 1 ∧ 48 ≤ b.2 s.1 ∧ b.2 s.1 ≤ 57 := by
  unfold pn at ok ⊢
  by_cases e : s.2 = 0 ∧ dig b s.1
  · rw [if_pos e, if_neg (fun q => absurd q.1 (by decide))] at ok ⊢
    exact ⟨rfl, rfl, e.2.2⟩
  · rw [if_neg e] at ok; cases ok
theorem g_es {b : BF} {n s : Nat} {x : PX} (g : G3 b n x.1.1 x.2.2.2) (ok : (es b s x).1.2 = 0) : G3 b n (es b s x).1.1 (es b s x).2.2.2 := by
  rw [es_pz] at ok
  have e3 := pn_mono.2 ok
  have e2 := pt_mono.2 e3.1
  have g1 := g_num g e2.1
  have v := pn1_v ok
  have e5 := e2.2.1
  unfold es
  rw [if_pos ok]
  show G3 b n (pn b 1 (pt b 62 (pn b 2 x.1).2)).2.1 (max x.2.2.2 (pn b 1 (pt b 62 (pn b 2 x.1).2)).1)
  rw [v.1, v.2.1, ← e5]
  rw [← e5] at v
  exact g_edge g1 e2.2.2.2.2 v.2.2
theorem g_tk {b : BF} {n c h : Nat} {s : PZ} (g : G3 b n s.1 h) (hc : c ≠ 62 ∧ c ≠ 59) (ok : (pt b c s).2 = 0) : G3 b n (pt b c s).1 h := by
  have e := pt_mono.2 ok
  rw [← e.2.1]
  exact g_one g (by rw [e.2.2.2.2]; exact hc.1) (by rw [e.2.2.2.2]; exact hc.2)
theorem es_ok0 {b : BF} {s : Nat} {x : PX} (ok : (es b s x).1.2 = 0) : x.1.2 = 0 := by
  rw [es_pz] at ok
  exact (ez_mono.2 ok).1
theorem pes_ok0 {b : BF} {s : Nat} : ∀ (m : Nat) {x : PX}, (pes b s m x).1.2 = 0 → x.1.2 = 0
  | 0, x, ok => ok
  | m + 1, x, ok => by
    unfold pes at ok
    by_cases e : tip b 44 x.1
    · exact e.1
    · rw [if_neg e] at ok; exact ok
theorem g_pes {b : BF} {n s : Nat} : ∀ (m : Nat) {x : PX}, G3 b n x.1.1 x.2.2.2 → (pes b s m x).1.2 = 0 → (x.1.2 = 0 → True) → G3 b n (pes b s m x).1.1 (pes b s m x).2.2.2
  | 0, x, g, _, _ => g
  | m + 1, x, g, ok, _ => by
    unfold pes at ok ⊢
    by_cases e : tip b 44 x.1
    · rw [if_pos e] at ok ⊢
      have ok2 := pes_ok0 m ok
      have h1 := (pi_mono (b := b) (c := 44) (s := x.1)).2 e
      refine g_pes m (g_es (x := (pi b 44 x.1, x.2)) ?_ ok2) ok (fun _ => trivial)
      show G3 b n (pi b 44 x.1).1 x.2.2.2
      rw [h1.1]
      exact g_one g (by rw [e.2.2]; decide) (by rw [e.2.2]; decide)
    · rw [if_neg e]; exact g
theorem g_pst {b : BF} {n s : Nat} {x : PX} (g : G3 b n x.1.1 x.2.2.2) (ok : (pst b s x).1.2 = 0) : G3 b n (pst b s x).1.1 (pst b s x).2.2.2 := by
  unfold pst at ok ⊢
  have ok1 := pes_ok0 79 ok
  have ok2 : (pt b 44 (pn b 1 x.1).2).2 = 0 := es_ok0 ok1
  have ok3 := (pt_mono.2 ok2).1
  exact g_pes 79 (g_es (x := (pt b 44 (pn b 1 x.1).2, cup x.2.1 s (pn b 1 x.1).1, x.2.2)) (g_tk (g_num g ok3) (by decide) ok2) ok1) ok (fun _ => trivial)
theorem pst_ok0 {b : BF} {s : Nat} {x : PX} (ok : (pst b s x).1.2 = 0) : x.1.2 = 0 := by
  unfold pst at ok
  have ok2 : (pt b 44 (pn b 1 x.1).2).2 = 0 := es_ok0 (pes_ok0 79 ok)
  exact (pn_mono.2 (pt_mono.2 ok2).1).1
theorem g_psts {b : BF} : ∀ (r n : Nat) {x : PX}, G3 b n x.1.1 x.2.2.2 → (psts b (r + 1) n x).2.1.2 = 0 → G3 b ((psts b (r + 1) n x).1 - 1) (psts b (r + 1) n x).2.1.1 (psts b (r + 1) n x).2.2.2.2
  | r, n, x, g, ok => by
    unfold psts at ok ⊢
    by_cases e : ¬ r = 0 ∧ tip b 59 (pst b n x).1
    · rw [if_pos e] at ok ⊢
      obtain ⟨r', rfl⟩ : ∃ r', r = r' + 1 := ⟨r - 1, by omega⟩
      have h1 := (pi_mono (b := b) (c := 59) (s := (pst b n x).1)).2 e.2
      refine g_psts r' (n + 1) (x := (pi b 59 (pst b n x).1, (pst b n x).2)) ?_ ok
      show G3 b (n + 1) (pi b 59 (pst b n x).1).1 (pst b n x).2.2.2
      rw [h1.1]
      exact g_semi (g_pst g e.2.1) e.2.2.2
    · rw [if_neg e] at ok ⊢
      exact g_pst g ok
theorem prs_bad {b : BF} (h : (pt b 58 (pn b 2 (0, 0)).2).2 = 1) : (prs b).2.1 = pt b 58 (pn b 2 (0, 0)).2 := by
  have := psts_bad (b := b) (r := 5) (n := 0) (x := (pt b 58 (pn b 2 (0, 0)).2, (fun _ => 0), (fun _ => 0), 0)) h
  rw [show 5 + 1 = 6 from rfl, prs_e] at this
  exact this
theorem g_prs {b : BF} (ok : (prs b).2.1.2 = 0) : G3 b ((prs b).1 - 1) (prs b).2.1.1 (prs b).2.2.2.2 := by
  by_cases e : (pt b 58 (pn b 2 (0, 0)).2).2 = 0
  · have key := g_psts (b := b) 5 0 (x := (pt b 58 (pn b 2 (0, 0)).2, (fun _ => 0), (fun _ => 0), 0)) (g_tk (g_num (s := (0, 0)) ⟨fun k hk => absurd hk (Nat.not_lt_zero _), Or.inl rfl, rfl⟩ (pt_mono.2 e).1) (by decide) e)
    rw [show 5 + 1 = 6 from rfl, prs_e] at key
    exact key ok
  · have po : PO b (pt b 58 (pn b 2 (0, 0)).2) := prs_0.1
    have h1 : (pt b 58 (pn b 2 (0, 0)).2).2 = 1 := by have := po.2; omega
    rw [prs_bad h1] at ok
    exact absurd ok e
theorem s_chain (d : Nat) (I : aI) (J : aJ) (b : BF) (hb : MBf b I) (W : BW b) : Sp m_X10_parseChain (d + 6) [.ref 93] E0 I J (fun r I' J' => r = none ∧ J' = J ∧ I' 93 20 = nI (prs b).2.1.1 ∧ I' 93 21 = zb (¬ prok b) ∧ (prok b → I' 93 22 = nI (prD b) ∧ I' 93 23 = nI (prs b).1 ∧ WtM I' (prs b).1 (prs b).2 ∧ LbM I' (prs b).1 (prs b).2) ∧ (∀ q, q ≠ 93 → q ≠ 109 → q ≠ 110 → I' q = I q) ∧ ∀ k, k < 20 → I' 93 k = I 93 k) := by
  refine Sp.of (lo := [some (.ref 93), none]) rfl (fun Q hQ => ?_)
  refine Ez.blk B_X10_parseChain_0 (lo' := [some (.ref 93), none]) (st' := [.int 2, .ref 93, .ref 93]) (I' := (aUp (aUp (aUp I 93 20 0) 93 21 0) 93 23 0)) (J' := J) (Ps := [aO E0 93 10, aO E0 93 10 ∧ (0 = 0 ∨ 0 = 1), aO E0 93 10]) rfl ⟨o_93, ⟨o_93, (Or.inl rfl)⟩, o_93⟩ ?_
  generalize hI1 : (aUp (aUp (aUp I 93 20 0) 93 21 0) 93 23 0) = I1
  have q0 : RdM I1 (0, 0) := ⟨by rw [← hI1, aUp_nk (by decide), aUp_nk (by decide), aUp_eq]; rfl, by rw [← hI1, aUp_nk (by decide), aUp_eq]; rfl⟩
  have q3 : I1 93 23 = nI 0 := by rw [← hI1, aUp_eq]; rfl
  have q1 : ∀ q, q ≠ 93 → I1 q = I q := fun q hq => by rw [← hI1, aUp_ne hq, aUp_ne hq, aUp_ne hq]
  have q2 : ∀ k, k < 20 → I1 93 k = I 93 k := fun k hk => by rw [← hI1, aUp_nk (by omega), aUp_nk (by omega), aUp_nk (by omega)]
  have b1 : MBf b I1 := MBf_fr hb (q2 18 (by decide)) (q1 108 (by decide))
  refine Ez.callV (As := [.int 2]) (b := 93) (rest := [.ref 93]) kn_X10_number_ ml_10_251 im_X10_number_ se_X10_number_ rfl (by decide +kernel) rfl rfl (Nat.le_of_ble_eq_true rfl) (Nat.le_of_ble_eq_true rfl) o_93 (s_numM2 _ I1 J b b1 W (0, 0) ⟨Nat.zero_le _, Nat.zero_le _⟩ q0) (fun r I2 J2 hq => ?_)
  obtain ⟨rfl, rfl, k1, k2⟩ := hq
  have ok2 : PO b (pn b 2 (0, 0)).2 := (pn_ok ⟨Nat.zero_le _, Nat.zero_le _⟩).1
  obtain ⟨z, hz⟩ : ∃ z, z = (pn b 2 (0, 0)).2 := ⟨_, rfl⟩
  rw [← hz] at k1 ok2
  have zf := ok2.2
  have fin : ∀ (I5 : aI) (n : Nat) (y : PX), RdM I5 y.1 → (prs b).2.1 = y.1 → (y.1.2 = 0 → prs b = (n, y) ∧ I5 93 22 = nI (prD b) ∧ I5 93 23 = nI n ∧ WtM I5 n y ∧ LbM I5 n y) → (∀ q, q ≠ 93 → q ≠ 109 → q ≠ 110 → I5 q = I q) → (∀ k, k < 20 → I5 93 k = I 93 k) → Ez m_X10_parseChain (d + 6) 50 [some (.ref 93), some (.int 0)] [] E0 I5 J2 Q := by
    intro I5 n y y1 y2 y3 y4 y5
    have po : PO b y.1 := by rw [← y2]; exact prs_ok.1
    have pf := po.2
    have pl := po.1
    have b80 := W.1
    have l5 : I5 93 18 = nI b.1 := by rw [y5 18 (by decide)]; exact hb.1
    have key : ∀ (v : Int32) (I6 : aI), I6 = aUp I5 93 21 v → v = zb (¬ prok b) → Q none I6 J2 := fun v I6 e ev => by
      have g : ∀ k, k ≠ 21 → I6 93 k = I5 93 k := fun k hk => by rw [e, aUp_nk hk]
      have g2 : ∀ q, q ≠ 93 → I6 q = I5 q := fun q hq => by rw [e, aUp_ne hq]
      refine hQ _ _ _ ⟨rfl, rfl, by rw [g 20 (by decide), y2]; exact y1.1, by rw [e, aUp_eq, ev], fun ok => ?_, fun q h0 h1 h2 => by rw [g2 q h0]; exact y4 q h0 h1 h2, fun k hk => by rw [g k (by omega)]; exact y5 k hk⟩
      have o0 : y.1.2 = 0 := by rw [← y2]; exact ok.1
      obtain ⟨e1, e2, e3, e4, e5⟩ := y3 o0
      rw [e1]
      exact ⟨by rw [g 22 (by decide)]; exact e2, by rw [g 23 (by decide)]; exact e3, fun k hk => by rw [g2 110 (by decide)]; exact e4 k hk, fun k hk => by rw [g2 109 (by decide)]; exact e5 k hk⟩
    refine Ez.blk B_X10_parseChain_50 (lo' := [some (.ref 93), some (.int 0)]) (st' := [.int 0]) (I' := I5) (J' := J2) (Ps := []) rfl trivial ?_
    refine Ez.n_if_eq (off := 41) (tgt := 92) (by decide +kernel) (by decide) (a := 0) rfl (by omega) (fun h => ?_) (fun h => absurd rfl h)
    refine Ez.blk B_X10_parseChain_92 (lo' := [some (.ref 93), some (.int 0)]) (st' := [.int (I5 93 21), .ref 93]) (I' := I5) (J' := J2) (Ps := [aO E0 93 10]) rfl o_93 ?_
    refine Ez.n_if_ne (off := 14) (tgt := 111) (by decide +kernel) (by decide) (a := y.1.2) y1.2 (by omega) (fun g => ?_) (fun g => ?_)
    · refine Ez.blk B_X10_parseChain_111 (lo' := [some (.ref 93), some (.int 0)]) (st' := [.int 1, .ref 93]) (I' := I5) (J' := J2) (Ps := []) rfl trivial ?_
      refine Ez.blk B_X10_parseChain_116 (lo' := [some (.ref 93), some (.int 0)]) (st' := []) (I' := (aUp I5 93 21 1)) (J' := J2) (Ps := [aO E0 93 10 ∧ (1 = 0 ∨ 1 = 1)]) rfl ⟨o_93, (Or.inr rfl)⟩ ?_
      exact Ez.vret rfl (by decide +kernel) (key 1 _ rfl (zb_t (p := ¬ prok b) (fun q => g (by rw [← y2]; exact q.1))).symm)
    · refine Ez.blk B_X10_parseChain_100 (lo' := [some (.ref 93), some (.int 0)]) (st' := [.int (I5 93 18), .int (I5 93 20), .ref 93]) (I' := I5) (J' := J2) (Ps := [aO E0 93 10, aO E0 93 10]) rfl ⟨o_93, o_93⟩ ?_
      refine Ez.n_icmp_ge (off := 7) (tgt := 115) (by decide +kernel) (by decide) (a := y.1.1) (b := b.1) y1.1 l5 (by omega) (by omega) (fun g2 => ?_) (fun g2 => ?_)
      · refine Ez.blk B_X10_parseChain_115 (lo' := [some (.ref 93), some (.int 0)]) (st' := []) (I' := (aUp I5 93 21 0)) (J' := J2) (Ps := [aO E0 93 10 ∧ (0 = 0 ∨ 0 = 1)]) rfl ⟨o_93, (Or.inl rfl)⟩ ?_
        exact Ez.vret rfl (by decide +kernel) (key 0 _ rfl (zb_f (p := ¬ prok b) (fun q => q ⟨by rw [y2]; exact g, by rw [y2]; omega⟩)).symm)
      · refine Ez.blk B_X10_parseChain_111 (lo' := [some (.ref 93), some (.int 0)]) (st' := [.int 1, .ref 93]) (I' := I5) (J' := J2) (Ps := []) rfl trivial ?_
        refine Ez.blk B_X10_parseChain_116 (lo' := [some (.ref 93), some (.int 0)]) (st' := []) (I' := (aUp I5 93 21 1)) (J' := J2) (Ps := [aO E0 93 10 ∧ (1 = 0 ∨ 1 = 1)]) rfl ⟨o_93, (Or.inr rfl)⟩ ?_
        exact Ez.vret rfl (by decide +kernel) (key 1 _ rfl (zb_t (p := ¬ prok b) (fun q => q.2 (by rw [y2]; omega))).symm)
  have L1 : ∀ r, ∀ (n : Nat) (I5 : aI) (y : PX), (r + 1 + n = 6 ∧ XO b y ∧ y.1.2 = 0 ∧ RdM I5 y.1 ∧ I5 93 23 = nI n ∧ WtM I5 n y ∧ LbM I5 n y ∧ Zr y n ∧ prs b = psts b (r + 1) n y ∧ I5 93 22 = nI (prD b) ∧ (∀ q, q ≠ 93 → q ≠ 109 → q ≠ 110 → I5 q = I q) ∧ ∀ k, k < 20 → I5 93 k = I 93 k) → Ez m_X10_parseChain (d + 6) 50 [some (.ref 93), some (.int 1)] [] E0 I5 J2 Q := by
    intro r
    induction r with
    | zero =>
      intro n I5 y ⟨y0, y1, y2, y3, y4, y5, y6, y7, y8, y9, y10, y11⟩
      have b5 : MBf b I5 := MBf_fr hb (y11 18 (by decide)) (y10 108 (by decide) (by decide) (by decide))
      refine Ez.blk B_X10_parseChain_50 (lo' := [some (.ref 93), some (.int 1)]) (st' := [.int 1]) (I' := I5) (J' := J2) (Ps := []) rfl trivial ?_
      refine Ez.n_if_eq (off := 41) (tgt := 92) (by decide +kernel) (by decide) (a := 1) rfl (by omega) (fun h => absurd h (by decide)) (fun h => ?_)
      refine Ez.blk B_X10_parseChain_54 (lo' := [some (.ref 93), some (.int 1)]) (st' := [.ref 93]) (I' := I5) (J' := J2) (Ps := []) rfl trivial ?_
      refine Ez.callV (As := []) (b := 93) (rest := []) kn_X10_parseState ml_10_260 im_X10_parseState se_X10_parseState rfl (by decide +kernel) rfl rfl (Nat.le_of_ble_eq_true rfl) (Nat.le_of_ble_eq_true rfl) o_93 (s_stateM _ I5 J2 b b5 W y y1 y2 y3 n (by omega) y4 y5 y7 y6) (fun r I6 J6 hq => ?_)
      obtain ⟨rfl, rfl, m1, m2, m3, m4⟩ := hq
      have py := pst_ok (s := n) y1
      have pz := pst_z (b := b) (s := n) y7
      have psd : psts b (0 + 1) n y = if ¬ 0 = 0 ∧ tip b 59 (pst b n y).1 then psts b 0 (n + 1) (pi b 59 (pst b n y).1, (pst b n y).2) else (n + 1, pst b n y) := rfl
      generalize pst b n y = Y at m1 m3 py pz psd
      have pf := py.1.2
      have f6 : ∀ q, q ≠ 93 → q ≠ 109 → q ≠ 110 → I6 q = I q := fun q h0 h1 h2 => by rw [m4.1 q h0 h1 h2]; exact y10 q h0 h1 h2
      have f7 : ∀ k, k < 20 → I6 93 k = I 93 k := fun k hk => by rw [m4.2 k (by omega) (by omega) (by omega)]; exact y11 k hk
      have e22 : I6 93 22 = nI (prD b) := by rw [m4.2 22 (by decide) (by decide) (by decide)]; exact y9
      have b6 : MBf b I6 := MBf_fr hb (f7 18 (by decide)) (f6 108 (by decide) (by decide) (by decide))
      refine Ez.blk B_X10_parseChain_58 (lo' := [some (.ref 93), some (.int 1)]) (st' := [.int (I6 93 21)]) (I' := I6) (J' := J6) (Ps := [aO E0 93 10]) rfl o_93 ?_
      refine Ez.n_if_ne (off := 25) (tgt := 87) (by decide +kernel) (by decide) (a := Y.1.2) m1.2 (by omega) (fun g => ?_) (fun g => ?_)
      · refine Ez.blk B_X10_parseChain_87 (lo' := [some (.ref 93), some (.int 0)]) (st' := []) (I' := I6) (J' := J6) (Ps := []) rfl trivial ?_
        have ep : prs b = (n + 1, Y) := by rw [y8, psd, if_neg (fun q => g q.2.1)]
        exact fin I6 (n + 1) Y m1 (by rw [ep]) (fun o => ⟨ep, e22, m2, (m3 o).1, (m3 o).2⟩) f6 f7
      · refine Ez.blk B_X10_parseChain_65 (lo' := [some (.ref 93), some (.int 1)]) (st' := [.int 6, .int (I6 93 23)]) (I' := I6) (J' := J6) (Ps := [aO E0 93 10]) rfl o_93 ?_
        refine Ez.n_icmp_ge (off := 16) (tgt := 87) (by decide +kernel) (by decide) (a := (n + 1)) (b := 6) m2 rfl (by omega) (by omega) (fun g2 => ?_) (fun g2 => absurd g2 (by omega))
        refine Ez.blk B_X10_parseChain_87 (lo' := [some (.ref 93), some (.int 0)]) (st' := []) (I' := I6) (J' := J6) (Ps := []) rfl trivial ?_
        have ep : prs b = (n + 1, Y) := by rw [y8, psd, if_neg (fun q => q.1 rfl)]
        exact fin I6 (n + 1) Y m1 (by rw [ep]) (fun o => ⟨ep, e22, m2, (m3 o).1, (m3 o).2⟩) f6 f7
    | succ r ih =>
      intro n I5 y ⟨y0, y1, y2, y3, y4, y5, y6, y7, y8, y9, y10, y11⟩
      have b5 : MBf b I5 := MBf_fr hb (y11 18 (by decide)) (y10 108 (by decide) (by decide) (by decide))
      refine Ez.blk B_X10_parseChain_50 (lo' := [some (.ref 93), some (.int 1)]) (st' := [.int 1]) (I' := I5) (J' := J2) (Ps := []) rfl trivial ?_
      refine Ez.n_if_eq (off := 41) (tgt := 92) (by decide +kernel) (by decide) (a := 1) rfl (by omega) (fun h => absurd h (by decide)) (fun h => ?_)
      refine Ez.blk B_X10_parseChain_54 (lo' := [some (.ref 93), some (.int 1)]) (st' := [.ref 93]) (I' := I5) (J' := J2) (Ps := []) rfl trivial ?_
      refine Ez.callV (As := []) (b := 93) (rest := []) kn_X10_parseState ml_10_260 im_X10_parseState se_X10_parseState rfl (by decide +kernel) rfl rfl (Nat.le_of_ble_eq_true rfl) (Nat.le_of_ble_eq_true rfl) o_93 (s_stateM _ I5 J2 b b5 W y y1 y2 y3 n (by omega) y4 y5 y7 y6) (fun r I6 J6 hq => ?_)
      obtain ⟨rfl, rfl, m1, m2, m3, m4⟩ := hq
      have py := pst_ok (s := n) y1
      have pz := pst_z (b := b) (s := n) y7
      have psd : psts b ((r + 1) + 1) n y = if ¬ r + 1 = 0 ∧ tip b 59 (pst b n y).1 then psts b (r + 1) (n + 1) (pi b 59 (pst b n y).1, (pst b n y).2) else (n + 1, pst b n y) := rfl
      generalize pst b n y = Y at m1 m3 py pz psd
      have pf := py.1.2
      have f6 : ∀ q, q ≠ 93 → q ≠ 109 → q ≠ 110 → I6 q = I q := fun q h0 h1 h2 => by rw [m4.1 q h0 h1 h2]; exact y10 q h0 h1 h2
      have f7 : ∀ k, k < 20 → I6 93 k = I 93 k := fun k hk => by rw [m4.2 k (by omega) (by omega) (by omega)]; exact y11 k hk
      have e22 : I6 93 22 = nI (prD b) := by rw [m4.2 22 (by decide) (by decide) (by decide)]; exact y9
      have b6 : MBf b I6 := MBf_fr hb (f7 18 (by decide)) (f6 108 (by decide) (by decide) (by decide))
      refine Ez.blk B_X10_parseChain_58 (lo' := [some (.ref 93), some (.int 1)]) (st' := [.int (I6 93 21)]) (I' := I6) (J' := J6) (Ps := [aO E0 93 10]) rfl o_93 ?_
      refine Ez.n_if_ne (off := 25) (tgt := 87) (by decide +kernel) (by decide) (a := Y.1.2) m1.2 (by omega) (fun g => ?_) (fun g => ?_)
      · refine Ez.blk B_X10_parseChain_87 (lo' := [some (.ref 93), some (.int 0)]) (st' := []) (I' := I6) (J' := J6) (Ps := []) rfl trivial ?_
        have ep : prs b = (n + 1, Y) := by rw [y8, psd, if_neg (fun q => g q.2.1)]
        exact fin I6 (n + 1) Y m1 (by rw [ep]) (fun o => ⟨ep, e22, m2, (m3 o).1, (m3 o).2⟩) f6 f7
      · refine Ez.blk B_X10_parseChain_65 (lo' := [some (.ref 93), some (.int 1)]) (st' := [.int 6, .int (I6 93 23)]) (I' := I6) (J' := J6) (Ps := [aO E0 93 10]) rfl o_93 ?_
        refine Ez.n_icmp_ge (off := 16) (tgt := 87) (by decide +kernel) (by decide) (a := (n + 1)) (b := 6) m2 rfl (by omega) (by omega) (fun g2 => absurd g2 (by omega)) (fun g2 => ?_)
        refine Ez.blk B_X10_parseChain_74 (lo' := [some (.ref 93), some (.int 1)]) (st' := [.int 59, .ref 93]) (I' := I6) (J' := J6) (Ps := []) rfl trivial ?_
        refine Ez.callV (As := [.int 59]) (b := 93) (rest := []) kn_X10_accept ml_10_245 im_X10_accept se_X10_accept rfl (by decide +kernel) rfl rfl (Nat.le_of_ble_eq_true rfl) (Nat.le_of_ble_eq_true rfl) o_93 (s_accept _ I6 J6 b b6 W Y.1 py.1 m1 59 (by decide)) (fun r I7 J7 hq => ?_)
        obtain ⟨rfl, rfl, m5, m6⟩ := hq
        have f8 : ∀ q, q ≠ 93 → q ≠ 109 → q ≠ 110 → I7 q = I q := fun q h0 h1 h2 => by rw [m6.1 q h0]; exact f6 q h0 h1 h2
        have f9 : ∀ k, k < 20 → I7 93 k = I 93 k := fun k hk => by rw [m6.2 k (by omega) (by omega)]; exact f7 k hk
        have e22 : I7 93 22 = nI (prD b) := by rw [m6.2 22 (by decide) (by decide)]; exact e22
        have m2 : I7 93 23 = nI (n + 1) := by rw [m6.2 23 (by decide) (by decide)]; exact m2
        have m3 : Y.1.2 = 0 → WtM I7 (n + 1) Y ∧ LbM I7 (n + 1) Y := fun o => ⟨fun k hk => by rw [m6.1 110 (by decide)]; exact (m3 o).1 k hk, fun k hk => by rw [m6.1 109 (by decide)]; exact (m3 o).2 k hk⟩
        refine Ez.z_if_eq (off := 7) (tgt := 87) (by decide +kernel) (by decide) (fun g3 => ?_) (fun g3 => ?_)
        · refine Ez.blk B_X10_parseChain_87 (lo' := [some (.ref 93), some (.int 0)]) (st' := []) (I' := I7) (J' := J7) (Ps := []) rfl trivial ?_
          have ep : prs b = (n + 1, Y) := by rw [y8, psd, if_neg (fun q => g3 q.2)]
          unfold pi at m5
          rw [if_neg g3] at m5
          exact fin I7 (n + 1) Y m5 (by rw [ep]) (fun o => ⟨ep, e22, m2, (m3 o).1, (m3 o).2⟩) f8 f9
        · refine Ez.blk B_X10_parseChain_83 (lo' := [some (.ref 93), some (.int 1)]) (st' := [.int 1]) (I' := I7) (J' := J7) (Ps := []) rfl trivial ?_
          refine Ez.blk B_X10_parseChain_88 (lo' := [some (.ref 93), some (.int 1)]) (st' := []) (I' := I7) (J' := J7) (Ps := []) rfl trivial ?_
          have h1 := (pi_mono (b := b) (c := 59) (s := Y.1)).2 g3
          exact ih (n + 1) I7 (pi b 59 Y.1, Y.2) ⟨by omega, XO_pi py, h1.2, m5, m2, fun k hk => (m3 g3.1).1 k hk, fun k hk => (m3 g3.1).2 k hk, fun k hk => pz k hk, by rw [y8, psd, if_pos ⟨by omega, g3⟩], e22, f8, f9⟩
  refine Ez.blk B_X10_parseChain_21 (lo' := [some (.ref 93), none]) (st' := [.int (I2 93 21)]) (I' := (aUp I2 93 22 (nI (prD b)))) (J' := J2) (Ps := [aO E0 93 10, aO E0 93 10]) rfl ⟨o_93, o_93⟩ ?_
  generalize hI3 : (aUp I2 93 22 (nI (prD b))) = I3
  have r3 : RdM I3 z := ⟨by rw [← hI3, aUp_nk (by decide)]; exact k1.1, by rw [← hI3, aUp_nk (by decide)]; exact k1.2⟩
  have e3 : I3 93 22 = nI (prD b) := by rw [← hI3, aUp_eq]
  have g3 : ∀ q, q ≠ 93 → I3 q = I q := fun q hq => by rw [← hI3, aUp_ne hq, k2.1 q hq]; exact q1 q hq
  have g4 : ∀ k, k < 20 → I3 93 k = I 93 k := fun k hk => by rw [← hI3, aUp_nk (by omega), k2.2 k (by omega) (by omega)]; exact q2 k hk
  have n3 : I3 93 23 = nI 0 := by rw [← hI3, aUp_nk (by decide), k2.2 23 (by decide) (by decide)]; exact q3
  have b3 : MBf b I3 := MBf_fr hb (g4 18 (by decide)) (g3 108 (by decide))
  have pe := prs_e (b := b)
  rw [← hz] at pe
  have LC : ∀ I4 : aI, RdM I4 (pt b 58 z) → FrN I3 I4 → Ez m_X10_parseChain (d + 6) 37 [some (.ref 93), none] [] E0 I4 J2 Q := by
    intro I4 h1 h2
    have po : PO b (pt b 58 z) := pt_ok ok2
    have pf := po.2
    refine Ez.blk B_X10_parseChain_37 (lo' := [some (.ref 93), none]) (st' := [.int (I4 93 21)]) (I' := I4) (J' := J2) (Ps := [aO E0 93 10]) rfl o_93 ?_
    refine Ez.n_if_ne (off := 7) (tgt := 48) (by decide +kernel) (by decide) (a := (pt b 58 z).2) h1.2 (by omega) (fun g => ?_) (fun g => ?_)
    · refine Ez.blk B_X10_parseChain_48 (lo' := [some (.ref 93), some (.int 0)]) (st' := []) (I' := I4) (J' := J2) (Ps := []) rfl trivial ?_
      exact fin I4 0 (pt b 58 z, (fun _ => 0), (fun _ => 0), 0) h1 (by rw [hz]; exact prs_bad (by rw [← hz]; omega)) (fun o => absurd o g) (fun q h0 _ _ => by rw [h2.1 q h0]; exact g3 q h0) (fun k hk => by rw [h2.2 k (by omega) (by omega)]; exact g4 k hk)
    · refine Ez.blk B_X10_parseChain_44 (lo' := [some (.ref 93), none]) (st' := [.int 1]) (I' := I4) (J' := J2) (Ps := []) rfl trivial ?_
      refine Ez.blk B_X10_parseChain_49 (lo' := [some (.ref 93), some (.int 1)]) (st' := []) (I' := I4) (J' := J2) (Ps := []) rfl trivial ?_
      exact L1 5 0 I4 (pt b 58 z, (fun _ => 0), (fun _ => 0), 0) ⟨by omega, ⟨po, Nat.zero_le _, fun k => Nat.zero_le _⟩, g, h1, by rw [h2.2 23 (by decide) (by decide)]; exact n3, fun k hk => absurd hk (by omega), fun k hk => absurd hk (by omega), fun _ _ => rfl, pe.symm, by rw [h2.2 22 (by decide) (by decide)]; exact e3, fun q h0 _ _ => by rw [h2.1 q h0]; exact g3 q h0, fun k hk => by rw [h2.2 k (by omega) (by omega)]; exact g4 k hk⟩
  refine Ez.n_if_ne (off := 9) (tgt := 37) (by decide +kernel) (by decide) (a := z.2) k1.2 (by omega) (fun g => ?_) (fun g => ?_)
  · exact LC I3 (by rw [pt_bad (by omega)]; exact r3) FrN_rf
  · refine Ez.blk B_X10_parseChain_31 (lo' := [some (.ref 93), none]) (st' := [.int 58, .ref 93]) (I' := I3) (J' := J2) (Ps := []) rfl trivial ?_
    refine Ez.callV (As := [.int 58]) (b := 93) (rest := []) kn_X10_expect ml_10_254 im_X10_expect se_X10_expect rfl (by decide +kernel) rfl rfl (Nat.le_of_ble_eq_true rfl) (Nat.le_of_ble_eq_true rfl) o_93 (s_expect _ I3 J2 b b3 W z ok2 r3 58 (by decide)) (fun r I4 J4 hq => ?_)
    obtain ⟨rfl, rfl, h1, h2⟩ := hq
    exact LC I4 h1 h2

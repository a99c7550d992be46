/-! CONSTRUCTORS: chain, edits, distances, slots -/
def c0 : Nat → Nat := stc (fun _ => 1) 2 1
def ChE (m : Nat) : Prop := E0.2.1 (m + 1) = (0, 1) ∧ E0.2.1 (m + 2) = (1, 6) ∧ E0.2.1 (m + 3) = (1, 36) ∧ rfL.getD (m + 1) [] = [0, 0, 0, 0, m + 2, m + 3] ∧ rfL.getD (m + 2) [] = [] ∧ rfL.getD (m + 3) [] = []
theorem ChE_row {m : Nat} (h : ChE m) : aEv (fun _ => 0) ([] ++ [(4, m + 2)] ++ [(5, m + 3)]) = E0.2.2 (m + 1) := by
  funext j
  show _ = (rfL.getD (m + 1) []).getD j 0
  rw [h.2.2.2.1]
  match j with
  | 0 => rfl
  | 1 => rfl
  | 2 => rfl
  | 3 => rfl
  | 4 => rfl
  | 5 => rfl
  | j + 6 => 
    rw [aEv_out (N := 6) (by intro p hp; simp at hp; rcases hp with rfl | rfl; exact (show 4 < 6 by decide); exact (show 5 < 6 by decide)) (by omega)]
    rfl
theorem ch_c0 {I1 I0 : aI} {a : Nat} (h : (I1 a 0 = nI 2 ∧ I1 a 1 = nI 1 ∧ ∀ k, k ≠ 0 → k ≠ 1 → I1 a k = I0 a k) ∧ (∀ s, s < 6 → I1 (a + 1) s = 0) ∧ ∀ k, k < 36 → I1 (a + 2) k = if k % 7 = 0 ∧ k / 7 < 2 then nI 1 else 0) (h2 : I0 a 2 = 1) (h3 : I0 a 3 = 1) : Ch I1 a c0 := by
  obtain ⟨⟨a0, a1, a2⟩, b, c⟩ := h
  refine ⟨fun k hk => ?_, fun s hs => ?_, fun k hk => ?_⟩
  · match k, hk with
    | 0, _ => exact a0
    | 1, _ => exact a1
    | 2, _ => rw [a2 2 (by decide) (by decide), h2]; rfl
    | 3, _ => rw [a2 3 (by decide) (by decide), h3]; rfl
  · rw [b s hs]
    unfold c0 stc
    rw [if_neg (by omega), if_neg (by omega), if_neg (by omega), if_pos (by omega)]
    rfl
  · have e : c0 (10 + k) = if k % 7 = 0 ∧ k / 7 < 2 then 1 else 0 := by
      unfold c0 stc
      rw [if_neg (by omega), if_neg (by omega), if_neg (by omega), if_neg (by omega), show 10 + k - 10 = k by omega]
    rw [c k hk, e]
    split <;> rfl
theorem k_X1 (d : Nat) (m : Nat) (R : Nat → Nat → Nat) (I : aI) (J : aJ) (hN : Nw m R I J) (hC : ChE m) : Ex m_X1_init (d + 2) 2 42 (m + 1) (2, 42) 0 (aEn 1 [.ref (m + 1)]) [] (Eb (m + 1) R) I J (fun r E' I' J' => r = none ∧ ∃ R', E' = Eb (m + 3) R' ∧ Nw (m + 3) R' I' J' ∧ Dn (m + 1) (m + 3) R R' ∧ J' = J ∧ Ch I' (m + 1) c0 ∧ ∀ b, b ≠ m + 1 → b ≠ m + 2 → b ≠ m + 3 → I' b = I b) := by
  have hN0 := hN.new (n' := (m + 1)) (by omega)
  have hK0 := Kp.ini hN (a := (m + 1)) (by omega)
  refine Ex.blk B_X1_init_0 (lo' := [some (.ref (m + 1))]) (st' := [.int 6, .ref (m + 1)]) (I' := I) (J' := J) (Ps := []) rfl trivial ?_
  refine Ex.mk1 (x := 1) (y := 36) (N := 6) (n' := m + 2) (by decide +kernel) (by decide) (by decide) (by decide) hN0 rfl hC.2.1 ⟨(bd_r (by show (m + 1) ≤ m + 1; omega) bd_n), (bl_r (by show (m + 1) ≤ m + 1; omega) bl_n)⟩ (fun hN1 => ?_)
  have hK1 := hK0.arr hN0 rfl hC.2.2.2.2.1
  refine Ex.putR (v := (m + 2)) (a := (m + 1)) fl_1_9 rfl (fun C T N h => by cases h; rfl) (fun _ => ⟨rfl, rfl⟩) rfl (by decide +kernel) hN1 ⟨by omega, by omega⟩ hC.1 ⟨by omega, by omega⟩ (fun hN2 => ?_)
  have hK2 := hK1.put 4 (m + 2)
  generalize hR2 : aUpR R (m + 1) 4 (m + 2) = R2 at hN2 hK2 ⊢
  refine Ex.blk B_X1_init_12 (lo' := [some (.ref (m + 1))]) (st' := [.int 36, .ref (m + 1)]) (I' := I) (J' := J) (Ps := []) rfl trivial ?_
  refine Ex.mk1 (x := 0) (y := 0) (N := 36) (n' := m + 3) (by decide +kernel) (by decide) (by decide) (by decide) hN2 rfl hC.2.2.1 ⟨(bd_r (by show (m + 1) ≤ m + 2; omega) bd_n), (bl_r (by show (m + 1) ≤ m + 2; omega) bl_n)⟩ (fun hN3 => ?_)
  have hK3 := hK2.arr hN2 rfl hC.2.2.2.2.2
  refine Ex.putR (v := (m + 3)) (a := (m + 1)) fl_1_15 rfl (fun C T N h => by cases h; rfl) (fun _ => ⟨rfl, rfl⟩) rfl (by decide +kernel) hN3 ⟨by omega, by omega⟩ hC.1 ⟨by omega, by omega⟩ (fun hN4 => ?_)
  have hK4 := hK3.put 5 (m + 3)
  generalize hR4 : aUpR R2 (m + 1) 5 (m + 3) = R4 at hN4 hK4 ⊢
  refine Ex.blk B_X1_init_20 (lo' := [some (.ref (m + 1))]) (st' := [.int 1, .int 2, .ref (m + 1)]) (I' := (aUp (aUp I (m + 1) 2 1) (m + 1) 3 1)) (J' := J) (Ps := [aO (Eb (m + 3) R4) (m + 1) 1, aO (Eb (m + 3) R4) (m + 1) 1]) rfl ⟨⟨⟨by omega, by show m + 1 ≤ m + 3; omega⟩, hC.1⟩, ⟨⟨by omega, by show m + 1 ≤ m + 3; omega⟩, hC.1⟩⟩ ?_
  have hce : CE (Eb (m + 3) R4) (m + 1) := ⟨⟨⟨by omega, by show m + 1 ≤ m + 3; omega⟩, hC.1⟩, by show R4 (m + 1) 4 = _; rw [hK4.2.1]; rfl, by show R4 (m + 1) 5 = _; rw [hK4.2.1]; rfl, ⟨⟨by omega, by show m + 1 + 1 ≤ m + 3; omega⟩, hC.2.1⟩, ⟨⟨by omega, by show m + 1 + 2 ≤ m + 3; omega⟩, hC.2.2.1⟩⟩
  refine Ex.callV (As := [.int (nI 2), .int (nI 1)]) (b := m + 1) (rest := []) kn_X1_start ml_1_25 im_X1_start se_X1_start (ci := 1) rfl (by decide +kernel) rfl rfl (show 3 ≤ 4 by decide) (show 0 ≤ 8 by decide) hce.1 (s_start d _ _ _ (m + 1) 2 1 hce (by omega)) (fun r I1 J1 q => ?_)
  obtain ⟨rfl, rfl, q1, q2, q3, q4⟩ := q
  exact Ex.vret rfl (by decide +kernel) ⟨rfl, R4, rfl, hN4.up (fun b hb => by rw [q4 b (by omega) (by omega) (by omega), aUp_ne (by omega), aUp_ne (by omega)]) (fun _ _ => rfl), hK4.fin (ChE_row hC), rfl, ch_c0 ⟨q1, q2, q3⟩ (by rw [aUp_nk (by decide), aUp_eq]) (by rw [aUp_eq]), fun b h1 h2 h3 => by rw [q4 b h1 h2 h3, aUp_ne h1, aUp_ne h1]⟩
theorem ChE_bf : ∀ i, i < 10 → ChE (12 + 3 * i) := by unfold ChE; decide +kernel
theorem row_12 : E0.2.2 12 = fun j => if j < 10 then 13 + 3 * j else 0 := by
  funext j
  show (rfL.getD 12 []).getD j 0 = _
  by_cases h : j < 10
  · rw [if_pos h]
    exact (show ∀ j, j < 10 → (rfL.getD 12 []).getD j 0 = 13 + 3 * j by decide +kernel) j h
  · rw [if_neg h, List.getD_eq_getElem?_getD (l := rfL.getD 12 []), List.getElem?_eq_none (Nat.le_trans (show (rfL.getD 12 []).length ≤ 10 by decide +kernel) (by omega))]
    rfl
theorem k_X4 (d : Nat) (R : Nat → Nat → Nat) (I : aI) (J : aJ) (hN : Nw 10 R I J) : Ex m_X4_init (d + 3) 31 490 11 (31, 490) 0 (aEn 2 [.ref 11]) [] (Eb 11 R) I J (fun r E' I' J' => r = none ∧ ∃ R', E' = Eb 42 R' ∧ Nw 42 R' I' J' ∧ Dn 11 42 R R' ∧ J' = J ∧ ∀ b, ¬ (13 ≤ b ∧ b ≤ 42) → I' b = I b) := by
  obtain ⟨Q, hQ⟩ : ∃ Q : aPost, Q = (fun r E' I' J' => r = none ∧ ∃ R', E' = Eb 42 R' ∧ Nw 42 R' I' J' ∧ Dn 11 42 R R' ∧ J' = J ∧ ∀ b, ¬ (13 ≤ b ∧ b ≤ 42) → I' b = I b) := ⟨_, rfl⟩
  rw [← hQ]
  have Lp : ∀ (k i : Nat) (R1 : Nat → Nat → Nat) (I1 : aI), i + k = 10 → Nw (12 + 3 * i) R1 I1 J → (∀ b, b < 11 → R1 b = R b) → R1 11 = E0.2.2 11 → (R1 12 = fun j => if j < i then 13 + 3 * j else 0) → (∀ b, 13 ≤ b → b ≤ 12 + 3 * i → R1 b = E0.2.2 b) → (∀ b, ¬ (13 ≤ b ∧ b ≤ 42) → I1 b = I b) → Ex m_X4_init (d + 3) 31 490 11 (3 * k, 48 * k) 15 [some (.ref 11), some (.int (nI i))] [] (Eb (12 + 3 * i) R1) I1 J Q := by
    intro k
    induction k with
    | zero =>
      intro i R1 I1 hik hN r0 r1 r2 r3 hI
      have hi : i = 10 := by omega
      subst hi
      refine Ex.blk B_X4_init_15 (lo' := [some (.ref 11), some (.int (nI 10))]) (st' := [.int 10, .int (nI 10)]) (I' := I1) (J' := J) (Ps := []) rfl trivial ?_
      refine Ex.icmp_ge (off := 22) (tgt := 40) (by decide +kernel) (by decide) (fun _ => ?_) (fun h => absurd (show (10 : Int32) ≤ nI 10 by decide) h)
      refine Ex.vret rfl (by decide +kernel) ?_
      rw [hQ]
      refine ⟨rfl, R1, rfl, hN, ⟨r0, fun b h1 h2 => ?_⟩, rfl, hI⟩
      by_cases e1 : b = 11
      · rw [e1, r1]
      · by_cases e2 : b = 12
        · rw [e2, r2, row_12]
        · exact r3 b (by omega) (by omega)
    | succ k ih =>
      intro i R1 I1 hik hN r0 r1 r2 r3 hI
      have hC := ChE_bf i (by omega)
      refine Ex.blk B_X4_init_15 (lo' := [some (.ref 11), some (.int (nI i))]) (st' := [.int 10, .int (nI i)]) (I' := I1) (J' := J) (Ps := []) rfl trivial ?_
      refine Ex.icmp_ge (off := 22) (tgt := 40) (by decide +kernel) (by decide) (fun h => absurd ((i_le (a := 10) (b := i) rfl rfl (by omega) (by omega)).mp h) (by omega)) (fun _ => ?_)
      have hr : R1 11 2 = 12 := by rw [r1]; decide +kernel
      refine Ex.blk B_X4_init_21 (lo' := [some (.ref 11), some (.int (nI i))]) (st' := [.int (nI i), .ref (R1 11 2), .int (nI i)].take 0 ++ [.int (nI i), .ref (R1 11 2)]) (I' := I1) (J' := J) (Ps := [aO (Eb (12 + 3 * i) R1) 11 4 ∧ R1 11 2 ≠ 0]) rfl ⟨⟨⟨by omega, by show 11 ≤ 12 + 3 * i; omega⟩, o_11.2⟩, by rw [hr]; decide⟩ ?_
      show Ex m_X4_init (d + 3) 31 490 11 (3 * (k + 1), 48 * (k + 1)) 26 [some (.ref 11), some (.int (nI i))] [.int (nI i), .ref (R1 11 2)] (Eb (12 + 3 * i) R1) I1 J Q
      rw [hr, show 3 * (k + 1) = 3 * k + 2 + 1 by omega, show 48 * (k + 1) = 48 * k + 42 + 6 by omega]
      refine Ex.mkO (n' := 12 + 3 * i + 1) tyX1 (ci := 1) rfl cK_1 tyX1_ok cl_4_9 it_1 in_1 (by decide +kernel) rfl (by decide +kernel) hN rfl hC.1 ⟨bd_i (bd_r (by omega) bd_n), bl_r (by omega) (bl_i bl_n)⟩ (fun hN2 => ?_)
      refine Ex.blk B_X4_init_29 (lo' := [some (.ref 11), some (.int (nI i))]) (st' := [.ref (12 + 3 * i + 1), .ref (12 + 3 * i + 1), .int (nI i), .ref 12]) (I' := I1) (J' := J) (Ps := []) rfl trivial ?_
      refine Ex.callI (γ' := m_X1_init) (mc' := 2) (ms' := 42) (As := []) (b := 12 + 3 * i + 1) (rest := [.ref (12 + 3 * i + 1), .int (nI i), .ref 12]) kn_X1_init rfl ml_4_17 im_X1_init rfl (by decide +kernel) rfl rfl (show 1 ≤ 1 by decide) (show 3 ≤ 8 by decide) ⟨by show 2 ≤ 3 * k + 2; omega, by show 42 ≤ 48 * k + 42; omega⟩ ⟨bd_r (by show _ ≤ 12 + 3 * i + 1; omega) (bd_i (bd_r (by show _ ≤ 12 + 3 * i + 1; omega) bd_n)), bl_r (by show _ ≤ 12 + 3 * i + 1; omega) (bl_i bl_n)⟩ (k_X1 d (12 + 3 * i) _ _ _ hN hC) (fun r E' I2 J2 q => ?_)
      obtain ⟨rfl, R2, rfl, hN3, hD, rfl, -, hI2⟩ := q
      simp only [Nat.add_sub_cancel]
      show Ex m_X4_init (d + 3) 31 490 11 (3 * k, 48 * k) 33 [some (.ref 11), some (.int (nI i))] [.ref (12 + 3 * i + 1), .int (nI i), .ref 12] (Eb (12 + 3 * i + 3) R2) I2 J2 Q
      refine Ex.astR (N := 10) (by decide +kernel) hN3 ⟨by omega, by omega⟩ (by decide +kernel) ⟨by omega, by omega⟩ hC.1 (vin (n := i) rfl (by omega) (by decide)) (fun hN4 => ?_)
      rw [nI_clamp (show i < 2147483648 by omega)] at hN4 ⊢
      refine Ex.blk B_X4_init_34 (lo' := [some (.ref 11), some (.int (nI i + 1))]) (st' := []) (I' := I2) (J' := J2) (Ps := []) rfl trivial ?_
      rw [show nI i + 1 = nI (i + 1) from eq_add (a := i) (b := 1) rfl rfl]
      have eR : ∀ b, b ≠ 12 → aUpR R2 12 i (12 + 3 * i + 1) b = R2 b := fun b hb => funext fun j => by unfold aUpR; rw [if_neg (fun q => hb q.1)]
      have := ih (i + 1) (aUpR R2 12 i (12 + 3 * i + 1)) I2 (by omega) (by rw [show 12 + 3 * (i + 1) = 12 + 3 * i + 3 by omega]; exact hN4) (fun b hb => by rw [eR b (by omega), hD.1 b (by omega)]; exact r0 b hb) (by rw [eR 11 (by omega), hD.1 11 (by omega)]; exact r1) (by
        funext j
        unfold aUpR
        rw [hD.1 12 (by omega), r2]
        by_cases e : j = i
        · rw [if_pos ⟨rfl, e⟩, if_pos (by omega)]
          omega
        · rw [if_neg (fun q => e q.2)]
          show (if j < i then _ else _) = _
          by_cases e2 : j < i
          · rw [if_pos e2, if_pos (by omega)]
          · rw [if_neg e2, if_neg (by omega)]) (fun b h1 h2 => by
        rw [eR b (by omega)]
        by_cases e : b ≤ 12 + 3 * i
        · rw [hD.1 b (by omega)]
          exact r3 b h1 e
        · exact hD.2 b (by omega) (by omega)) (fun b hb => by rw [hI2 b (by omega) (by omega) (by omega)]; exact hI b hb)
      rw [show 12 + 3 * (i + 1) = 12 + 3 * i + 3 by omega] at this
      exact this
  have hN0 := hN.new (n' := 11) (by omega)
  have hK0 := Kp.ini hN (a := 11) (by omega)
  refine Ex.blk B_X4_init_0 (lo' := [some (.ref 11), none]) (st' := [.int 10, .ref 11]) (I' := I) (J' := J) (Ps := []) rfl trivial ?_
  refine Ex.mk4 (x := 30) (y := 480) (N := 10) (n' := 12) cl_4_9 (by decide +kernel) (by decide) (by decide) (by decide) hN0 rfl (by decide +kernel) ⟨bd_r (by omega) bd_n, bl_r (by omega) (bl_o bl_n)⟩ (fun hN1 => ?_)
  have hz12 : R 12 = fun _ => 0 := funext fun j => (hN0.2 12 (by omega) j).1
  refine Ex.putR (v := 12) (a := 11) fl_4_11 rfl (fun C T N h => by cases h; rfl) (fun _ => ⟨rfl, rfl⟩) rfl (by decide +kernel) hN1 ⟨by omega, by omega⟩ (by decide +kernel) ⟨by omega, by omega⟩ (fun hN2 => ?_)
  have hK2 := hK0.put 2 12
  refine Ex.blk B_X4_init_13 (lo' := [some (.ref 11), some (.int 0)]) (st' := []) (I' := I) (J' := J) (Ps := []) rfl trivial ?_
  exact Lp 10 0 _ I rfl hN2 hK2.1 (by rw [hK2.2.1]; exact ev_eq 3 (by decide +kernel) (by decide +kernel) (by decide +kernel)) (by funext j; rw [if_neg (by omega)]; show aUpR R 11 2 12 12 j = 0; unfold aUpR; rw [if_neg (by omega), hz12]) (fun b h1 h2 => by omega) (fun _ _ => rfl)
theorem ChE_43 : ChE 43 := by unfold ChE; decide +kernel
theorem k_X3 (d : Nat) (R : Nat → Nat → Nat) (I : aI) (J : aJ) (hN : Nw 42 R I J) : Ex m_X3_init (d + 3) 30 773 43 (30, 773) 0 (aEn 1 [.ref 43]) [] (Eb 43 R) I J (fun r E' I' J' => r = none ∧ ∃ R', E' = Eb 73 R' ∧ Nw 73 R' I' J' ∧ Dn 43 73 R R' ∧ Ch I' 44 c0 ∧ J' 73 0 = 1 ∧ (∀ b, b ≠ 44 → b ≠ 45 → b ≠ 46 → I' b = I b) ∧ ∀ b, b ≠ 73 → J' b = J b) := by
  have hN0 := hN.new (n' := 43) (by omega)
  have hK0 := Kp.ini hN (a := 43) (by omega)
  refine Ex.blk B_X3_init_0 (lo' := [some (.ref 43)]) (st' := [.ref 43]) (I' := I) (J' := J) (Ps := []) rfl trivial ?_
  refine Ex.mkO (x := 29) (y := 767) (n' := 44) tyX1 (ci := 1) rfl cK_1 tyX1_ok cl_3_9 it_1 in_1 (by decide +kernel) rfl (by decide +kernel) hN0 rfl (by decide +kernel) ⟨(bd_r (by show 43 ≤ 43; omega) bd_n), (bl_r (by show 43 ≤ 43; omega) bl_n)⟩ (fun hN1 => ?_)
  refine Ex.blk B_X3_init_8 (lo' := [some (.ref 43)]) (st' := [.ref 44, .ref 44, .ref 43]) (I' := I) (J' := J) (Ps := []) rfl trivial ?_
  refine Ex.callI (γ' := m_X1_init) (mc' := 2) (ms' := 42) (As := []) (b := 44) (rest := [.ref 44, .ref 43]) kn_X1_init rfl ml_3_11 im_X1_init rfl (by decide +kernel) rfl rfl (by decide) (by decide) ⟨by decide, by decide⟩ ⟨(bd_r (by show 44 ≤ 44; omega) (bd_r (by show 43 ≤ 44; omega) bd_n)), (bl_r (by show 43 ≤ 44; omega) bl_n)⟩ (k_X1 (d) 43 _ _ _ hN0 ChE_43) (fun r E' I2 J2 q => ?_)
  obtain ⟨rfl, R2, rfl, hN2, hD2, rfl, hc, hI⟩ := q
  have hK2 := hK0.sub hD2 rfl (by omega)
  refine Ex.putR (v := 44) (a := 43) fl_3_12 rfl (fun C T N h => by cases h; rfl) (fun _ => ⟨rfl, rfl⟩) rfl (by decide +kernel) hN2 ⟨by omega, by omega⟩ (by decide +kernel) ⟨by omega, by omega⟩ (fun hN3 => ?_)
  have hK3 := hK2.put 0 44
  generalize hR3 : aUpR R2 43 0 44 = R3 at hN3 hK3 ⊢
  refine Ex.blk B_X3_init_15 (lo' := [some (.ref 43)]) (st' := [.ref 43]) (I' := I2) (J' := J2) (Ps := []) rfl trivial ?_
  refine Ex.mkO (x := 26) (y := 716) (n' := 47) tyX8 (ci := 8) rfl cK_8 tyX8_ok cl_3_18 it_8 in_8 (by decide +kernel) rfl (by decide +kernel) hN3 rfl (by decide +kernel) ⟨(bd_r (by show 43 ≤ 46; omega) bd_n), (bl_r (by show 43 ≤ 46; omega) bl_n)⟩ (fun hN4 => ?_)
  refine Ex.blk B_X3_init_19 (lo' := [some (.ref 43)]) (st' := [.ref 47, .ref 47, .ref 43]) (I' := I2) (J' := J2) (Ps := []) rfl trivial ?_
  refine Ex.callI (γ' := m_X8_init) (mc' := 8) (ms' := 108) (As := []) (b := 47) (rest := [.ref 47, .ref 43]) kn_X8_init rfl ml_3_20 im_X8_init rfl (by decide +kernel) rfl rfl (by decide) (by decide) ⟨by decide, by decide⟩ ⟨(bd_r (by show 47 ≤ 47; omega) (bd_r (by show 43 ≤ 47; omega) bd_n)), (bl_r (by show 43 ≤ 47; omega) bl_n)⟩ (k_X8 (d + 1) _ _ _ hN3) (fun r E' I5 J5 q => ?_)
  obtain ⟨rfl, R5, rfl, hN5, hD5, rfl, rfl⟩ := q
  have hK5 := hK3.sub hD5 rfl (by omega)
  refine Ex.putR (v := 47) (a := 43) fl_3_21 rfl (fun C T N h => by cases h; rfl) (fun _ => ⟨rfl, rfl⟩) rfl (by decide +kernel) hN5 ⟨by omega, by omega⟩ (by decide +kernel) ⟨by omega, by omega⟩ (fun hN6 => ?_)
  have hK6 := hK5.put 1 47
  generalize hR6 : aUpR R5 43 1 47 = R6 at hN6 hK6 ⊢
  refine Ex.blk B_X3_init_26 (lo' := [some (.ref 43)]) (st' := [.int 36, .int 16, .ref 43]) (I' := I5) (J' := J5) (Ps := []) rfl trivial ?_
  refine Ex.mk5 (x := 1) (y := 16) (N := 16) (K := 36) (n' := 56) (n2 := 72) cl_3_25 (by decide +kernel) (by decide) (by decide) (by decide) (by decide) (by decide) (by decide) hN6 rfl rfl (by decide +kernel) (by decide +kernel) ⟨(bd_r (by show 43 ≤ 55; omega) bd_n), (bl_r (by show 43 ≤ 55; omega) bl_n)⟩ (fun hN7 => ?_)
  have hK7 := hK6.rows hN6 (n' := 56) (N := 16) (n2 := 72) rfl rfl (by omega) (row_eq (by decide +kernel) (by decide +kernel)) (fun b h1 h2 => (show ∀ b, b < 73 → 56 < b → rfL.getD b [] = [] by decide +kernel) b (by omega) h1)
  generalize hR7 : aRowR R6 56 16 = R7 at hN7 hK7 ⊢
  refine Ex.putR (v := 56) (a := 43) fl_3_27 rfl (fun C T N h => by cases h; rfl) (fun _ => ⟨rfl, rfl⟩) rfl (by decide +kernel) hN7 ⟨by omega, by omega⟩ (by decide +kernel) ⟨by omega, by omega⟩ (fun hN8 => ?_)
  have hK8 := hK7.put 2 56
  generalize hR8 : aUpR R7 43 2 56 = R8 at hN8 hK8 ⊢
  refine Ex.blk B_X3_init_38 (lo' := [some (.ref 43)]) (st' := [.int 16, .ref 43]) (I' := I5) (J' := J5) (Ps := []) rfl trivial ?_
  refine Ex.mk2 (x := 0) (y := 0) (N := 16) (n' := 73) (by decide +kernel) (by decide) (by decide) (by decide) hN8 rfl (by decide +kernel) ⟨(bd_r (by show 43 ≤ 72; omega) bd_n), (bl_r (by show 43 ≤ 72; omega) bl_n)⟩ (fun hN9 => ?_)
  have hK9 := hK8.arr hN8 rfl (by decide +kernel)
  refine Ex.putR (v := 73) (a := 43) fl_3_30 rfl (fun C T N h => by cases h; rfl) (fun _ => ⟨rfl, rfl⟩) rfl (by decide +kernel) hN9 ⟨by omega, by omega⟩ (by decide +kernel) ⟨by omega, by omega⟩ (fun hN10 => ?_)
  have hK10 := hK9.put 3 73
  generalize hR10 : aUpR R8 43 3 73 = R10 at hN10 hK10 ⊢
  have hr : R10 43 3 = 73 := by rw [hK10.2.1]; rfl
  refine Ex.blk B_X3_init_46 (lo' := [some (.ref 43)]) (st' := []) (I' := I5) (J' := (aUpJ J5 (R10 43 3) 0 1)) (Ps := [aO (Eb 73 R10) 43 3 ∧ R10 43 3 ≠ 0, aAr (Eb 73 R10) 2 (R10 43 3) 0]) rfl ⟨⟨⟨⟨by omega, by show 43 ≤ 73; omega⟩, o_43.2⟩, by rw [hr]; decide⟩, by rw [hr]; exact ⟨⟨by omega, by show 73 ≤ 73; omega⟩, t_73.2, (a_73 (vin (n := 0) rfl (by omega) (by decide))).2.2⟩⟩ ?_
  rw [hr]
  exact Ex.vret rfl (by decide +kernel) ⟨rfl, R10, rfl, hN10.up (fun _ _ => rfl) (fun b hb => aUpJ_ne (by omega)), hK10.fin (ev_eq 5 (by decide +kernel) (by decide +kernel) (by decide +kernel)), hc, by simp [aUpJ], hI, fun b hb => aUpJ_ne hb⟩
theorem k_X0 (d : Nat) (R : Nat → Nat → Nat) (I : aI) (J : aJ) (hN : Nw 84 R I J) : Ex m_X0_init (d + 1) 7 172 85 (7, 172) 0 (aEn 2 [.ref 85]) [] (Eb 85 R) I J (fun r E' I' J' => r = none ∧ ∃ R', E' = Eb 92 R' ∧ Nw 92 R' I' J' ∧ Dn 85 92 R R' ∧ J' = J ∧ (∀ s, s < 4 → I' 86 s = -1) ∧ ∀ b, b ≠ 86 → I' b = I b) := by
  obtain ⟨Q, hQ⟩ : ∃ Q : aPost, Q = (fun r E' I' J' => r = none ∧ ∃ R', E' = Eb 92 R' ∧ Nw 92 R' I' J' ∧ Dn 85 92 R R' ∧ J' = J ∧ (∀ s, s < 4 → I' 86 s = -1) ∧ ∀ b, b ≠ 86 → I' b = I b) := ⟨_, rfl⟩
  rw [← hQ]
  have hN0 := hN.new (n' := 85) (by omega)
  have hK0 := Kp.ini hN (a := 85) (by omega)
  refine Ex.blk B_X0_init_0 (lo' := [some (.ref 85), none]) (st' := [.int 4, .ref 85]) (I' := I) (J' := J) (Ps := []) rfl trivial ?_
  refine Ex.mk1 (x := 6) (y := 168) (N := 4) (n' := 86) (by decide +kernel) (by decide) (by decide) (by decide) hN0 rfl (by decide +kernel) ⟨(bd_r (by show 85 ≤ 85; omega) bd_n), (bl_r (by show 85 ≤ 85; omega) (bl_o bl_n))⟩ (fun hN1 => ?_)
  have hK1 := hK0.arr hN0 rfl (by decide +kernel)
  refine Ex.putR (v := 86) (a := 85) fl_0_9 rfl (fun C T N h => by cases h; rfl) (fun _ => ⟨rfl, rfl⟩) rfl (by decide +kernel) hN1 ⟨by omega, by omega⟩ (by decide +kernel) ⟨by omega, by omega⟩ (fun hN2 => ?_)
  have hK2 := hK1.put 0 86
  generalize hR2 : aUpR R 85 0 86 = R2 at hN2 hK2 ⊢
  refine Ex.blk B_X0_init_11 (lo' := [some (.ref 85), none]) (st' := [.int 4, .ref 85]) (I' := I) (J' := J) (Ps := []) rfl trivial ?_
  refine Ex.mk1 (x := 5) (y := 164) (N := 4) (n' := 87) (by decide +kernel) (by decide) (by decide) (by decide) hN2 rfl (by decide +kernel) ⟨(bd_r (by show 85 ≤ 86; omega) bd_n), (bl_r (by show 85 ≤ 86; omega) (bl_o bl_n))⟩ (fun hN3 => ?_)
  have hK3 := hK2.arr hN2 rfl (by decide +kernel)
  refine Ex.putR (v := 87) (a := 85) fl_0_15 rfl (fun C T N h => by cases h; rfl) (fun _ => ⟨rfl, rfl⟩) rfl (by decide +kernel) hN3 ⟨by omega, by omega⟩ (by decide +kernel) ⟨by omega, by omega⟩ (fun hN4 => ?_)
  have hK4 := hK3.put 1 87
  generalize hR4 : aUpR R2 85 1 87 = R4 at hN4 hK4 ⊢
  refine Ex.blk B_X0_init_18 (lo' := [some (.ref 85), none]) (st' := [.int 40, .int 4, .ref 85]) (I' := I) (J' := J) (Ps := []) rfl trivial ?_
  refine Ex.mk5 (x := 0) (y := 0) (N := 4) (K := 40) (n' := 88) (n2 := 92) cl_0_18 (by decide +kernel) (by decide) (by decide) (by decide) (by decide) (by decide) (by decide) hN4 rfl rfl (by decide +kernel) (by decide +kernel) ⟨(bd_r (by show 85 ≤ 87; omega) bd_n), (bl_r (by show 85 ≤ 87; omega) (bl_o bl_n))⟩ (fun hN5 => ?_)
  have hK5 := hK4.rows hN4 (n' := 88) (N := 4) (n2 := 92) rfl rfl (by omega) (row_eq (by decide +kernel) (by decide +kernel)) (fun b h1 h2 => (show ∀ b, b < 93 → 88 < b → rfL.getD b [] = [] by decide +kernel) b (by omega) h1)
  generalize hR5 : aRowR R4 88 4 = R5 at hN5 hK5 ⊢
  refine Ex.putR (v := 88) (a := 85) fl_0_20 rfl (fun C T N h => by cases h; rfl) (fun _ => ⟨rfl, rfl⟩) rfl (by decide +kernel) hN5 ⟨by omega, by omega⟩ (by decide +kernel) ⟨by omega, by omega⟩ (fun hN6 => ?_)
  have hK6 := hK5.put 2 88
  generalize hR6 : aUpR R5 85 2 88 = R6 at hN6 hK6 ⊢
  have hr : R6 85 0 = 86 := by rw [hK6.2.1]; rfl
  have Lp : ∀ i, i ≤ 4 → ∀ (I1 : aI), (∀ s, s < i → I1 86 s = -1) → (∀ b, b ≠ 86 → I1 b = I b) → Ex m_X0_init (d + 1) 7 172 85 (0, 0) 31 [some (.ref 85), some (.int (nI i))] [] (Eb 92 R6) I1 J Q := by
    refine for_up ?_ ?_
    · intro I1 h1 h2
      refine Ex.blk B_X0_init_31 (lo' := [some (.ref 85), some (.int (nI 4))]) (st' := [.int 4, .int (nI 4)]) (I' := I1) (J' := J) (Ps := []) rfl trivial ?_
      refine Ex.icmp_ge (off := 16) (tgt := 49) (by decide +kernel) (by decide) (fun _ => ?_) (fun h => absurd (show (4 : Int32) ≤ nI 4 by decide) h)
      refine Ex.vret rfl (by decide +kernel) ?_
      rw [hQ]
      exact ⟨rfl, R6, rfl, hN6.up (fun b hb => h2 b (by omega)) (fun _ _ => rfl), hK6.fin (ev_eq 3 (by decide +kernel) (by decide +kernel) (by decide +kernel)), rfl, h1, h2⟩
    · intro i hi ih I1 h1 h2
      refine Ex.blk B_X0_init_31 (lo' := [some (.ref 85), some (.int (nI i))]) (st' := [.int 4, .int (nI i)]) (I' := I1) (J' := J) (Ps := []) rfl trivial ?_
      refine Ex.icmp_ge (off := 16) (tgt := 49) (by decide +kernel) (by decide) (fun h => absurd ((i_le (a := 4) (b := i) rfl rfl (by omega) (by omega)).mp h) (by omega)) (fun _ => ?_)
      refine Ex.blk B_X0_init_36 (lo' := [some (.ref 85), some (.int (nI i + 1))]) (st' := []) (I' := aUp I1 (R6 85 0) (nI i).toNatClampNeg (-1)) (J' := J) (Ps := [aO (Eb 92 R6) 85 0 ∧ R6 85 0 ≠ 0, aAr (Eb 92 R6) 1 (R6 85 0) (nI i)]) rfl ⟨⟨⟨⟨by omega, by show 85 ≤ 92; omega⟩, o_85.2⟩, by rw [hr]; decide⟩, by rw [hr]; exact ⟨⟨by omega, by show 86 ≤ 92; omega⟩, t_86.2, (a_86 (vin (n := i) rfl (by omega) (by decide))).2.2⟩⟩ ?_
      rw [hr, nI_clamp (show i < 2147483648 by omega), show nI i + 1 = nI (i + 1) from eq_add (a := i) (b := 1) rfl rfl]
      refine ih _ (fun s hs => ?_) (fun b hb => by rw [aUp_ne hb]; exact h2 b hb)
      by_cases e : s = i
      · rw [e, aUp_eq]
      · rw [aUp_nk e]
        exact h1 s (by omega)
  refine Ex.blk B_X0_init_29 (lo' := [some (.ref 85), some (.int 0)]) (st' := []) (I' := I) (J' := J) (Ps := []) rfl trivial ?_
  exact Lp 0 (by omega) I (fun s hs => by omega) (fun _ _ => rfl)

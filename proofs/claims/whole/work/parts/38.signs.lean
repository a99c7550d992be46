/-! PARSE: signs and numbers -/
abbrev BF : Type := Nat × (Nat → Nat)
/-- a digit stands there -/
abbrev dig (b : BF) (k : Nat) : Prop := k < b.1 ∧ 48 ≤ b.2 k ∧ b.2 k ≤ 57
/-- the place, and whether the text is malformed -/
abbrev PZ : Type := Nat × Nat
def pn (b : BF) (d : Nat) (s : PZ) : Nat × PZ := if s.2 = 0 ∧ dig b s.1 then (if d = 2 ∧ dig b (s.1 + 1) then (10 * (b.2 s.1 - 48) + (b.2 (s.1 + 1) - 48), (s.1 + 2, 0)) else (b.2 s.1 - 48, (s.1 + 1, 0))) else (0, (s.1, 1))
abbrev tip (b : BF) (c : Nat) (s : PZ) : Prop := s.2 = 0 ∧ s.1 < b.1 ∧ b.2 s.1 = c
def pi (b : BF) (c : Nat) (s : PZ) : PZ := if tip b c s then (s.1 + 1, 0) else s
def pt (b : BF) (c : Nat) (s : PZ) : PZ := if tip b c s then (s.1 + 1, 0) else (s.1, 1)
abbrev BW (b : BF) : Prop := b.1 ≤ 80 ∧ ∀ i, i < b.1 → b.2 i < 128
abbrev PO (b : BF) (s : PZ) : Prop := s.1 ≤ b.1 ∧ s.2 ≤ 1
/-- the reader stands so -/
abbrev RdS (I : aI) (s : PZ) : Prop := I 80 1 = nI s.1 ∧ I 80 2 = nI s.2
abbrev FrP (I I' : aI) : Prop := (∀ q, q ≠ 80 → I' q = I q) ∧ ∀ k, k ≠ 1 → k ≠ 2 → I' 80 k = I 80 k
theorem pn_ok {b : BF} {d : Nat} {s : PZ} (h : PO b s) : PO b (pn b d s).2 ∧ (pn b d s).1 ≤ 99 := by
  unfold pn
  by_cases e : s.2 = 0 ∧ dig b s.1
  · rw [if_pos e]
    by_cases e2 : d = 2 ∧ dig b (s.1 + 1)
    · rw [if_pos e2]
      have h1 := e.2
      have h2 := e2.2
      exact ⟨⟨by show s.1 + 2 ≤ b.1; omega, Nat.zero_le _⟩, by show 10 * (b.2 s.1 - 48) + (b.2 (s.1 + 1) - 48) ≤ 99; omega⟩
    · rw [if_neg e2]
      have h1 := e.2
      exact ⟨⟨by show s.1 + 1 ≤ b.1; omega, Nat.zero_le _⟩, by show b.2 s.1 - 48 ≤ 99; omega⟩
  · rw [if_neg e]
    exact ⟨⟨h.1, Nat.le_refl _⟩, Nat.zero_le _⟩
theorem pt_ok {b : BF} {c : Nat} {s : PZ} (h : PO b s) : PO b (pt b c s) := by
  unfold pt
  by_cases e : tip b c s
  · rw [if_pos e]; exact ⟨by show s.1 + 1 ≤ b.1; have := e.2.1; omega, Nat.zero_le _⟩
  · rw [if_neg e]; exact ⟨h.1, Nat.le_refl _⟩
theorem pi_ok {b : BF} {c : Nat} {s : PZ} (h : PO b s) : PO b (pi b c s) := by
  unfold pi
  by_cases e : tip b c s
  · rw [if_pos e]; exact ⟨by show s.1 + 1 ≤ b.1; have := e.2.1; omega, Nat.zero_le _⟩
  · rw [if_neg e]; exact h
theorem s_tip (d : Nat) (I : aI) (J : aJ) (b : BF) (hb : CBuf b I) (W : BW b) (s : PZ) (hp : PO b s) (hr : RdS I s) (c : Nat) (hc : c < 128) : Sp m_X2_takeIfPresent (d + 2) [.ref 80, .int (nI c)] E0 I J (fun r I' J' => r = some (.int (zb (tip b c s))) ∧ J' = J ∧ RdS I' (pi b c s) ∧ FrP I I') := by
  refine Sp.of (lo := [some (.ref 80), some (.int (nI c))]) rfl (fun Q hQ => ?_)
  refine Ez.blk B_X2_takeIfPresent_0 (lo' := [some (.ref 80), some (.int (nI c))]) (st' := [.int (I 80 2)]) (I' := I) (J' := J) (Ps := [aO E0 80 2]) rfl o_80 ?_
  refine Ez.n_if_ne (off := 18) (tgt := 22) (by decide +kernel) (by decide) (a := s.2) hr.2 (by omega) (fun h => ?_) (fun h => ?_)
  · refine Ez.blk B_X2_takeIfPresent_22 (lo' := [some (.ref 80), some (.int (nI c))]) (st' := [.int 0]) (I' := I) (J' := J) (Ps := []) rfl trivial ?_
    exact Ez.zret rfl (Or.inl rfl) (by decide +kernel) (hQ _ _ _ ⟨by rw [zb_f (p := tip b c s) (fun q => h q.1)], rfl, by unfold pi; rw [if_neg (fun q => h q.1)]; exact hr, fun _ _ => rfl, fun _ _ _ => rfl⟩)
  · refine Ez.blk B_X2_takeIfPresent_7 (lo' := [some (.ref 80), some (.int (nI c))]) (st' := [.int (nI c), .int (I 80 1), .ref 81]) (I' := I) (J' := J) (Ps := [aO E0 80 2 ∧ E0.2.2 80 0 ≠ 0, aO E0 80 2]) rfl ⟨r_80_0, o_80⟩ ?_
    rw [hr.1]
    refine Ez.callV (As := [.int (nI s.1), .int (nI c)]) (b := 81) (rest := []) kn_X5_holdsAt ml_2_83 im_X5_holdsAt se_X5_holdsAt rfl (by decide +kernel) rfl rfl (Nat.le_of_ble_eq_true rfl) (Nat.le_of_ble_eq_true rfl) o_81 (s_holdsAt _ I J b hb W.1 W.2 s.1 c (by have := W.1; omega) hc) (fun r I1 J1 hq => ?_)
    obtain ⟨rfl, rfl, rfl⟩ := hq
    refine Ez.z_if_ne (off := 5) (tgt := 24) (by decide +kernel) (by decide) (fun h2 => ?_) (fun h2 => ?_)
    · refine Ez.blk B_X2_takeIfPresent_24 (lo' := [some (.ref 80), some (.int (nI c))]) (st' := [.int 1]) (I' := (aUp I1 80 1 (I1 80 1 + 1))) (J' := J1) (Ps := [aO E0 80 2, aO E0 80 2]) rfl ⟨o_80, o_80⟩ ?_
      rw [hr.1, show nI s.1 + 1 = nI (s.1 + 1) from eq_add (a := s.1) (b := 1) rfl rfl]
      exact Ez.zret rfl (Or.inr rfl) (by decide +kernel) (hQ _ _ _ ⟨by rw [zb_t (p := tip b c s) ⟨h, h2⟩], rfl, by unfold pi; rw [if_pos ⟨h, h2⟩]; exact ⟨aUp_eq, by rw [aUp_nk (by decide), hr.2, h]⟩, fun q hq => aUp_ne hq, fun k hk _ => aUp_nk hk⟩)
    · refine Ez.blk B_X2_takeIfPresent_22 (lo' := [some (.ref 80), some (.int (nI c))]) (st' := [.int 0]) (I' := I1) (J' := J1) (Ps := []) rfl trivial ?_
      exact Ez.zret rfl (Or.inl rfl) (by decide +kernel) (hQ _ _ _ ⟨by rw [zb_f (p := tip b c s) (fun q => h2 q.2)], rfl, by unfold pi; rw [if_neg (fun q => h2 q.2)]; exact hr, fun _ _ => rfl, fun _ _ _ => rfl⟩)

/-! CONSTRUCTORS: tools -/
theorem bd_n {n : Nat} : aBdd n [] := fun v h => by cases h
theorem bd_r {n a : Nat} {st : List Value} (h : a ≤ n) (t : aBdd n st) : aBdd n (.ref a :: st) := fun v hv r e => by
  rcases List.mem_cons.mp hv with q | q
  · rw [q] at e
    cases e
    exact h
  · exact t v q r e
theorem bd_i {n : Nat} {x : Int32} {st : List Value} (t : aBdd n st) : aBdd n (.int x :: st) := fun v hv r e => by
  rcases List.mem_cons.mp hv with q | q
  · rw [q] at e
    cases e
  · exact t v q r e
theorem bl_n {n : Nat} : aBdl n [] := fun v h => by cases h
theorem bl_r {n a : Nat} {lo : aLo} (h : a ≤ n) (t : aBdl n lo) : aBdl n (some (.ref a) :: lo) := fun v hv r e => by
  rcases List.mem_cons.mp hv with q | q
  · cases q
    cases e
    exact h
  · exact t v q r e
theorem bl_i {n : Nat} {x : Int32} {lo : aLo} (t : aBdl n lo) : aBdl n (some (.int x) :: lo) := fun v hv r e => by
  rcases List.mem_cons.mp hv with q | q
  · cases q
    cases e
  · exact t v q r e
theorem bl_o {n : Nat} {lo : aLo} (t : aBdl n lo) : aBdl n (none :: lo) := fun v hv r e => by
  rcases List.mem_cons.mp hv with q | q
  · cases q
  · exact t v q r e
def aEv (f : Nat → Nat) : List (Nat × Nat) → Nat → Nat
  | [], j => f j
  | (k, v) :: L, j => aEv (fun i => if i = k then v else f i) L j
theorem aEv_app (f : Nat → Nat) (L : List (Nat × Nat)) (k v : Nat) : aEv f (L ++ [(k, v)]) = fun j => if j = k then v else aEv f L j := by
  induction L generalizing f with
  | nil => rfl
  | cons p L ih =>
    funext j
    show aEv (fun i => if i = p.1 then p.2 else f i) (L ++ [(k, v)]) j = _
    rw [ih]
    rfl
theorem aEv_out {f : Nat → Nat} {L : List (Nat × Nat)} {N : Nat} (h : ∀ p ∈ L, p.1 < N) {j : Nat} (hj : N ≤ j) : aEv f L j = f j := by
  induction L generalizing f with
  | nil => rfl
  | cons p L ih =>
    show aEv (fun i => if i = p.1 then p.2 else f i) L j = _
    rw [ih (fun q hq => h q (List.mem_cons_of_mem _ hq))]
    have := h p List.mem_cons_self
    show (if j = p.1 then p.2 else f j) = f j
    rw [if_neg (by omega)]
theorem ev_eq {a : Nat} {L : List (Nat × Nat)} (N : Nat) (hk : ∀ p ∈ L, p.1 < N) (hl : (rfL.getD a []).length ≤ N) (hd : ∀ j, j < N → aEv (fun _ => 0) L j = (rfL.getD a []).getD j 0) : aEv (fun _ => 0) L = E0.2.2 a := by
  funext j
  by_cases h : j < N
  · exact hd j h
  · rw [aEv_out hk (by omega)]
    show 0 = (rfL.getD a []).getD j 0
    rw [List.getD_eq_getElem?_getD (l := rfL.getD a []), List.getElem?_eq_none (by omega)]
    rfl
theorem zr {b : Nat} (h : rfL.getD b [] = []) : E0.2.2 b = fun _ => 0 := by
  funext j
  show (rfL.getD b []).getD j 0 = 0
  rw [h]
  rfl
/-- behind a constructor: its object and all that it made stand as in the layout -/
def Dn (a n : Nat) (R R' : Nat → Nat → Nat) : Prop := (∀ b, b < a → R' b = R b) ∧ ∀ b, a ≤ b → b ≤ n → R' b = E0.2.2 b
def Kp (a n : Nat) (L : List (Nat × Nat)) (R0 R : Nat → Nat → Nat) : Prop := (∀ b, b < a → R b = R0 b) ∧ R a = aEv (fun _ => 0) L ∧ ∀ b, a < b → b ≤ n → R b = E0.2.2 b
theorem Kp.ini {m a : Nat} {R : Nat → Nat → Nat} {I : aI} {J : aJ} (hN : Nw m R I J) (hm : m < a) : Kp a a [] R R := ⟨fun _ _ => rfl, funext fun j => (hN.2 a hm j).1, fun b h1 h2 => by omega⟩
theorem Kp.arr {a n n' : Nat} {L : List (Nat × Nat)} {R0 R : Nat → Nat → Nat} {I : aI} {J : aJ} (h : Kp a n L R0 R) (hN : Nw n R I J) (hn : n + 1 = n') (hz : rfL.getD n' [] = []) : Kp a n' L R0 R := by
  refine ⟨h.1, h.2.1, fun b h1 h2 => ?_⟩
  by_cases e : b = n'
  · subst e
    rw [zr hz]
    exact funext fun j => (hN.2 b (by omega) j).1
  · exact h.2.2 b h1 (by omega)
theorem Kp.put {a n : Nat} {L : List (Nat × Nat)} {R0 R : Nat → Nat → Nat} (h : Kp a n L R0 R) (k v : Nat) : Kp a n (L ++ [(k, v)]) R0 (aUpR R a k v) := by
  have e : ∀ b, b ≠ a → aUpR R a k v b = R b := fun b hb => funext fun j => by unfold aUpR; rw [if_neg (fun q => hb q.1)]
  refine ⟨fun b hb => by rw [e b (by omega)]; exact h.1 b hb, ?_, fun b h1 h2 => by rw [e b (by omega)]; exact h.2.2 b h1 h2⟩
  rw [aEv_app, ← h.2.1]
  funext j
  unfold aUpR
  by_cases q : j = k
  · rw [if_pos ⟨rfl, q⟩, if_pos q]
  · rw [if_neg (fun z => q z.2), if_neg q]
theorem Kp.sub {a n n' s : Nat} {L : List (Nat × Nat)} {R0 R R' : Nat → Nat → Nat} (h : Kp a n L R0 R) (hD : Dn s n' R R') (hs : n + 1 = s) (ha : a ≤ n) : Kp a n' L R0 R' := by
  refine ⟨fun b hb => by rw [hD.1 b (by omega)]; exact h.1 b hb, by rw [hD.1 a (by omega)]; exact h.2.1, fun b h1 h2 => ?_⟩
  by_cases e : b ≤ n
  · rw [hD.1 b (by omega)]
    exact h.2.2 b h1 e
  · exact hD.2 b (by omega) h2
theorem Kp.fin {a n : Nat} {L : List (Nat × Nat)} {R0 R : Nat → Nat → Nat} (h : Kp a n L R0 R) (he : aEv (fun _ => 0) L = E0.2.2 a) : Dn a n R0 R := by
  refine ⟨h.1, fun b h1 h2 => ?_⟩
  by_cases e : b = a
  · subst e
    rw [h.2.1, he]
  · exact h.2.2 b (by omega) h2
theorem Kp.rows {a n n' n2 N : Nat} {L : List (Nat × Nat)} {R0 R : Nat → Nat → Nat} {I : aI} {J : aJ} (h : Kp a n L R0 R) (hN : Nw n R I J) (hn : n + 1 = n') (h2 : n' + N = n2) (ha : a ≤ n) (hr : E0.2.2 n' = fun j => if j < N then n' + 1 + j else 0) (hz : ∀ b, n' < b → b ≤ n2 → rfL.getD b [] = []) : Kp a n2 L R0 (aRowR R n' N) := by
  have e : ∀ b, b ≠ n' → aRowR R n' N b = R b := fun b hb => funext fun j => by unfold aRowR; rw [if_neg hb]
  refine ⟨fun b hb => by rw [e b (by omega)]; exact h.1 b hb, by rw [e a (by omega)]; exact h.2.1, fun b q1 q2 => ?_⟩
  by_cases q : b = n'
  · rw [q, hr]
    funext j
    unfold aRowR
    rw [if_pos rfl]
  · rw [e b q]
    by_cases q3 : b ≤ n
    · exact h.2.2 b q1 q3
    · rw [zr (hz b (by omega) q2)]
      exact funext fun j => (hN.2 b (by omega) j).1
theorem row_eq {n N : Nat} (hl : (rfL.getD n []).length = N) (hd : ∀ j, j < N → (rfL.getD n []).getD j 0 = n + 1 + j) : E0.2.2 n = fun j => if j < N then n + 1 + j else 0 := by
  funext j
  show (rfL.getD n []).getD j 0 = _
  by_cases h : j < N
  · rw [if_pos h]
    exact hd j h
  · rw [if_neg h, List.getD_eq_getElem?_getD (l := rfL.getD n []), List.getElem?_eq_none (by omega)]
    rfl
theorem k_X5 (d : Nat) (R : Nat → Nat → Nat) (I : aI) (J : aJ) (hN : Nw 80 R I J) : Ex m_X5_init (d + 1) 1 80 81 (1, 80) 0 (aEn 1 [.ref 81]) [] (Eb 81 R) I J (fun r E' I' J' => r = none ∧ ∃ R', E' = Eb 82 R' ∧ Nw 82 R' I' J' ∧ Dn 81 82 R R' ∧ I' = I ∧ J' = J) := by
  have hN0 := hN.new (n' := 81) (by omega)
  have hK0 := Kp.ini hN (a := 81) (by omega)
  refine Ex.blk B_X5_init_0 (lo' := [some (.ref 81)]) (st' := [.int 80, .ref 81]) (I' := I) (J' := J) (Ps := []) rfl trivial ?_
  refine Ex.mk1 (x := 0) (y := 0) (N := 80) (n' := 82) (by decide +kernel) (by decide) (by decide) (by decide) hN0 rfl (by decide +kernel) ⟨(bd_r (by show 81 ≤ 81; omega) bd_n), (bl_r (by show 81 ≤ 81; omega) bl_n)⟩ (fun hN1 => ?_)
  have hK1 := hK0.arr hN0 rfl (by decide +kernel)
  refine Ex.putR (v := 82) (a := 81) fl_5_9 rfl (fun C T N h => by cases h; rfl) (fun _ => ⟨rfl, rfl⟩) rfl (by decide +kernel) hN1 ⟨by omega, by omega⟩ (by decide +kernel) ⟨by omega, by omega⟩ (fun hN2 => ?_)
  have hK2 := hK1.put 1 82
  generalize hR2 : aUpR R 81 1 82 = R2 at hN2 hK2 ⊢
  exact Ex.vret rfl (by decide +kernel) ⟨rfl, R2, rfl, hN2, hK2.fin (ev_eq 2 (by decide +kernel) (by decide +kernel) (by decide +kernel)), rfl, rfl⟩
theorem k_X6 (d : Nat) (R : Nat → Nat → Nat) (I : aI) (J : aJ) (hN : Nw 73 R I J) : Ex m_X6_init (d + 1) 2 12 74 (2, 12) 0 (aEn 1 [.ref 74]) [] (Eb 74 R) I J (fun r E' I' J' => r = none ∧ ∃ R', E' = Eb 76 R' ∧ Nw 76 R' I' J' ∧ Dn 74 76 R R' ∧ I' = I ∧ J' = J) := by
  have hN0 := hN.new (n' := 74) (by omega)
  have hK0 := Kp.ini hN (a := 74) (by omega)
  refine Ex.blk B_X6_init_0 (lo' := [some (.ref 74)]) (st' := [.int 6, .ref 74]) (I' := I) (J' := J) (Ps := []) rfl trivial ?_
  refine Ex.mk1 (x := 1) (y := 6) (N := 6) (n' := 75) (by decide +kernel) (by decide) (by decide) (by decide) hN0 rfl (by decide +kernel) ⟨(bd_r (by show 74 ≤ 74; omega) bd_n), (bl_r (by show 74 ≤ 74; omega) bl_n)⟩ (fun hN1 => ?_)
  have hK1 := hK0.arr hN0 rfl (by decide +kernel)
  refine Ex.putR (v := 75) (a := 74) fl_6_9 rfl (fun C T N h => by cases h; rfl) (fun _ => ⟨rfl, rfl⟩) rfl (by decide +kernel) hN1 ⟨by omega, by omega⟩ (by decide +kernel) ⟨by omega, by omega⟩ (fun hN2 => ?_)
  have hK2 := hK1.put 1 75
  generalize hR2 : aUpR R 74 1 75 = R2 at hN2 hK2 ⊢
  refine Ex.blk B_X6_init_12 (lo' := [some (.ref 74)]) (st' := [.int 6, .ref 74]) (I' := I) (J' := J) (Ps := []) rfl trivial ?_
  refine Ex.mk1 (x := 0) (y := 0) (N := 6) (n' := 76) (by decide +kernel) (by decide) (by decide) (by decide) hN2 rfl (by decide +kernel) ⟨(bd_r (by show 74 ≤ 75; omega) bd_n), (bl_r (by show 74 ≤ 75; omega) bl_n)⟩ (fun hN3 => ?_)
  have hK3 := hK2.arr hN2 rfl (by decide +kernel)
  refine Ex.putR (v := 76) (a := 74) fl_6_15 rfl (fun C T N h => by cases h; rfl) (fun _ => ⟨rfl, rfl⟩) rfl (by decide +kernel) hN3 ⟨by omega, by omega⟩ (by decide +kernel) ⟨by omega, by omega⟩ (fun hN4 => ?_)
  have hK4 := hK3.put 2 76
  generalize hR4 : aUpR R2 74 2 76 = R4 at hN4 hK4 ⊢
  exact Ex.vret rfl (by decide +kernel) ⟨rfl, R4, rfl, hN4, hK4.fin (ev_eq 3 (by decide +kernel) (by decide +kernel) (by decide +kernel)), rfl, rfl⟩
theorem k_X7 (d : Nat) (R : Nat → Nat → Nat) (I : aI) (J : aJ) (hN : Nw 76 R I J) : Ex m_X7_init (d + 1) 2 12 77 (2, 12) 0 (aEn 1 [.ref 77]) [] (Eb 77 R) I J (fun r E' I' J' => r = none ∧ ∃ R', E' = Eb 79 R' ∧ Nw 79 R' I' J' ∧ Dn 77 79 R R' ∧ I' = I ∧ J' = J) := by
  have hN0 := hN.new (n' := 77) (by omega)
  have hK0 := Kp.ini hN (a := 77) (by omega)
  refine Ex.blk B_X7_init_0 (lo' := [some (.ref 77)]) (st' := [.int 6, .ref 77]) (I' := I) (J' := J) (Ps := []) rfl trivial ?_
  refine Ex.mk2 (x := 1) (y := 6) (N := 6) (n' := 78) (by decide +kernel) (by decide) (by decide) (by decide) hN0 rfl (by decide +kernel) ⟨(bd_r (by show 77 ≤ 77; omega) bd_n), (bl_r (by show 77 ≤ 77; omega) bl_n)⟩ (fun hN1 => ?_)
  have hK1 := hK0.arr hN0 rfl (by decide +kernel)
  refine Ex.putR (v := 78) (a := 77) fl_7_9 rfl (fun C T N h => by cases h; rfl) (fun _ => ⟨rfl, rfl⟩) rfl (by decide +kernel) hN1 ⟨by omega, by omega⟩ (by decide +kernel) ⟨by omega, by omega⟩ (fun hN2 => ?_)
  have hK2 := hK1.put 0 78
  generalize hR2 : aUpR R 77 0 78 = R2 at hN2 hK2 ⊢
  refine Ex.blk B_X7_init_12 (lo' := [some (.ref 77)]) (st' := [.int 6, .ref 77]) (I' := I) (J' := J) (Ps := []) rfl trivial ?_
  refine Ex.mk2 (x := 0) (y := 0) (N := 6) (n' := 79) (by decide +kernel) (by decide) (by decide) (by decide) hN2 rfl (by decide +kernel) ⟨(bd_r (by show 77 ≤ 78; omega) bd_n), (bl_r (by show 77 ≤ 78; omega) bl_n)⟩ (fun hN3 => ?_)
  have hK3 := hK2.arr hN2 rfl (by decide +kernel)
  refine Ex.putR (v := 79) (a := 77) fl_7_15 rfl (fun C T N h => by cases h; rfl) (fun _ => ⟨rfl, rfl⟩) rfl (by decide +kernel) hN3 ⟨by omega, by omega⟩ (by decide +kernel) ⟨by omega, by omega⟩ (fun hN4 => ?_)
  have hK4 := hK3.put 1 79
  generalize hR4 : aUpR R2 77 1 79 = R4 at hN4 hK4 ⊢
  exact Ex.vret rfl (by decide +kernel) ⟨rfl, R4, rfl, hN4, hK4.fin (ev_eq 2 (by decide +kernel) (by decide +kernel) (by decide +kernel)), rfl, rfl⟩
theorem k_X8 (d : Nat) (R : Nat → Nat → Nat) (I : aI) (J : aJ) (hN : Nw 46 R I J) : Ex m_X8_init (d + 1) 8 108 47 (8, 108) 0 (aEn 1 [.ref 47]) [] (Eb 47 R) I J (fun r E' I' J' => r = none ∧ ∃ R', E' = Eb 55 R' ∧ Nw 55 R' I' J' ∧ Dn 47 55 R R' ∧ I' = I ∧ J' = J) := by
  have hN0 := hN.new (n' := 47) (by omega)
  have hK0 := Kp.ini hN (a := 47) (by omega)
  refine Ex.blk B_X8_init_0 (lo' := [some (.ref 47)]) (st' := [.int 36, .ref 47]) (I' := I) (J' := J) (Ps := []) rfl trivial ?_
  refine Ex.mk1 (x := 7) (y := 72) (N := 36) (n' := 48) (by decide +kernel) (by decide) (by decide) (by decide) hN0 rfl (by decide +kernel) ⟨(bd_r (by show 47 ≤ 47; omega) bd_n), (bl_r (by show 47 ≤ 47; omega) bl_n)⟩ (fun hN1 => ?_)
  have hK1 := hK0.arr hN0 rfl (by decide +kernel)
  refine Ex.putR (v := 48) (a := 47) fl_8_11 rfl (fun C T N h => by cases h; rfl) (fun _ => ⟨rfl, rfl⟩) rfl (by decide +kernel) hN1 ⟨by omega, by omega⟩ (by decide +kernel) ⟨by omega, by omega⟩ (fun hN2 => ?_)
  have hK2 := hK1.put 0 48
  generalize hR2 : aUpR R 47 0 48 = R2 at hN2 hK2 ⊢
  refine Ex.blk B_X8_init_12 (lo' := [some (.ref 47)]) (st' := [.int 36, .ref 47]) (I' := I) (J' := J) (Ps := []) rfl trivial ?_
  refine Ex.mk2 (x := 6) (y := 36) (N := 36) (n' := 49) (by decide +kernel) (by decide) (by decide) (by decide) hN2 rfl (by decide +kernel) ⟨(bd_r (by show 47 ≤ 48; omega) bd_n), (bl_r (by show 47 ≤ 48; omega) bl_n)⟩ (fun hN3 => ?_)
  have hK3 := hK2.arr hN2 rfl (by decide +kernel)
  refine Ex.putR (v := 49) (a := 47) fl_8_17 rfl (fun C T N h => by cases h; rfl) (fun _ => ⟨rfl, rfl⟩) rfl (by decide +kernel) hN3 ⟨by omega, by omega⟩ (by decide +kernel) ⟨by omega, by omega⟩ (fun hN4 => ?_)
  have hK4 := hK3.put 2 49
  generalize hR4 : aUpR R2 47 2 49 = R4 at hN4 hK4 ⊢
  refine Ex.blk B_X8_init_20 (lo' := [some (.ref 47)]) (st' := [.int 6, .ref 47]) (I' := I) (J' := J) (Ps := []) rfl trivial ?_
  refine Ex.mk1 (x := 5) (y := 30) (N := 6) (n' := 50) (by decide +kernel) (by decide) (by decide) (by decide) hN4 rfl (by decide +kernel) ⟨(bd_r (by show 47 ≤ 49; omega) bd_n), (bl_r (by show 47 ≤ 49; omega) bl_n)⟩ (fun hN5 => ?_)
  have hK5 := hK4.arr hN4 rfl (by decide +kernel)
  refine Ex.putR (v := 50) (a := 47) fl_8_21 rfl (fun C T N h => by cases h; rfl) (fun _ => ⟨rfl, rfl⟩) rfl (by decide +kernel) hN5 ⟨by omega, by omega⟩ (by decide +kernel) ⟨by omega, by omega⟩ (fun hN6 => ?_)
  have hK6 := hK5.put 3 50
  generalize hR6 : aUpR R4 47 3 50 = R6 at hN6 hK6 ⊢
  refine Ex.blk B_X8_init_28 (lo' := [some (.ref 47)]) (st' := [.int 6, .ref 47]) (I' := I) (J' := J) (Ps := []) rfl trivial ?_
  refine Ex.mk1 (x := 4) (y := 24) (N := 6) (n' := 51) (by decide +kernel) (by decide) (by decide) (by decide) hN6 rfl (by decide +kernel) ⟨(bd_r (by show 47 ≤ 50; omega) bd_n), (bl_r (by show 47 ≤ 50; omega) bl_n)⟩ (fun hN7 => ?_)
  have hK7 := hK6.arr hN6 rfl (by decide +kernel)
  refine Ex.putR (v := 51) (a := 47) fl_8_24 rfl (fun C T N h => by cases h; rfl) (fun _ => ⟨rfl, rfl⟩) rfl (by decide +kernel) hN7 ⟨by omega, by omega⟩ (by decide +kernel) ⟨by omega, by omega⟩ (fun hN8 => ?_)
  have hK8 := hK7.put 4 51
  generalize hR8 : aUpR R6 47 4 51 = R8 at hN8 hK8 ⊢
  refine Ex.blk B_X8_init_36 (lo' := [some (.ref 47)]) (st' := [.int 6, .ref 47]) (I' := I) (J' := J) (Ps := []) rfl trivial ?_
  refine Ex.mk2 (x := 3) (y := 18) (N := 6) (n' := 52) (by decide +kernel) (by decide) (by decide) (by decide) hN8 rfl (by decide +kernel) ⟨(bd_r (by show 47 ≤ 51; omega) bd_n), (bl_r (by show 47 ≤ 51; omega) bl_n)⟩ (fun hN9 => ?_)
  have hK9 := hK8.arr hN8 rfl (by decide +kernel)
  refine Ex.putR (v := 52) (a := 47) fl_8_27 rfl (fun C T N h => by cases h; rfl) (fun _ => ⟨rfl, rfl⟩) rfl (by decide +kernel) hN9 ⟨by omega, by omega⟩ (by decide +kernel) ⟨by omega, by omega⟩ (fun hN10 => ?_)
  have hK10 := hK9.put 5 52
  generalize hR10 : aUpR R8 47 5 52 = R10 at hN10 hK10 ⊢
  refine Ex.blk B_X8_init_44 (lo' := [some (.ref 47)]) (st' := [.int 6, .ref 47]) (I' := I) (J' := J) (Ps := []) rfl trivial ?_
  refine Ex.mk2 (x := 2) (y := 12) (N := 6) (n' := 53) (by decide +kernel) (by decide) (by decide) (by decide) hN10 rfl (by decide +kernel) ⟨(bd_r (by show 47 ≤ 52; omega) bd_n), (bl_r (by show 47 ≤ 52; omega) bl_n)⟩ (fun hN11 => ?_)
  have hK11 := hK10.arr hN10 rfl (by decide +kernel)
  refine Ex.putR (v := 53) (a := 47) fl_8_30 rfl (fun C T N h => by cases h; rfl) (fun _ => ⟨rfl, rfl⟩) rfl (by decide +kernel) hN11 ⟨by omega, by omega⟩ (by decide +kernel) ⟨by omega, by omega⟩ (fun hN12 => ?_)
  have hK12 := hK11.put 6 53
  generalize hR12 : aUpR R10 47 6 53 = R12 at hN12 hK12 ⊢
  refine Ex.blk B_X8_init_52 (lo' := [some (.ref 47)]) (st' := [.int 6, .ref 47]) (I' := I) (J' := J) (Ps := []) rfl trivial ?_
  refine Ex.mk1 (x := 1) (y := 6) (N := 6) (n' := 54) (by decide +kernel) (by decide) (by decide) (by decide) hN12 rfl (by decide +kernel) ⟨(bd_r (by show 47 ≤ 53; omega) bd_n), (bl_r (by show 47 ≤ 53; omega) bl_n)⟩ (fun hN13 => ?_)
  have hK13 := hK12.arr hN12 rfl (by decide +kernel)
  refine Ex.putR (v := 54) (a := 47) fl_8_33 rfl (fun C T N h => by cases h; rfl) (fun _ => ⟨rfl, rfl⟩) rfl (by decide +kernel) hN13 ⟨by omega, by omega⟩ (by decide +kernel) ⟨by omega, by omega⟩ (fun hN14 => ?_)
  have hK14 := hK13.put 7 54
  generalize hR14 : aUpR R12 47 7 54 = R14 at hN14 hK14 ⊢
  refine Ex.blk B_X8_init_60 (lo' := [some (.ref 47)]) (st' := [.int 6, .ref 47]) (I' := I) (J' := J) (Ps := []) rfl trivial ?_
  refine Ex.mk1 (x := 0) (y := 0) (N := 6) (n' := 55) (by decide +kernel) (by decide) (by decide) (by decide) hN14 rfl (by decide +kernel) ⟨(bd_r (by show 47 ≤ 54; omega) bd_n), (bl_r (by show 47 ≤ 54; omega) bl_n)⟩ (fun hN15 => ?_)
  have hK15 := hK14.arr hN14 rfl (by decide +kernel)
  refine Ex.putR (v := 55) (a := 47) fl_8_36 rfl (fun C T N h => by cases h; rfl) (fun _ => ⟨rfl, rfl⟩) rfl (by decide +kernel) hN15 ⟨by omega, by omega⟩ (by decide +kernel) ⟨by omega, by omega⟩ (fun hN16 => ?_)
  have hK16 := hK15.put 8 55
  generalize hR16 : aUpR R14 47 8 55 = R16 at hN16 hK16 ⊢
  exact Ex.vret rfl (by decide +kernel) ⟨rfl, R16, rfl, hN16, hK16.fin (ev_eq 9 (by decide +kernel) (by decide +kernel) (by decide +kernel)), rfl, rfl⟩
theorem k_X2 (d : Nat) (R : Nat → Nat → Nat) (I : aI) (J : aJ) (hN : Nw 79 R I J) : Ex m_X2_init (d + 2) 4 148 80 (4, 148) 0 (aEn 1 [.ref 80]) [] (Eb 80 R) I J (fun r E' I' J' => r = none ∧ ∃ R', E' = Eb 84 R' ∧ Nw 84 R' I' J' ∧ Dn 80 84 R R' ∧ I' = I ∧ J' = J) := by
  have hN0 := hN.new (n' := 80) (by omega)
  have hK0 := Kp.ini hN (a := 80) (by omega)
  refine Ex.blk B_X2_init_0 (lo' := [some (.ref 80)]) (st' := [.ref 80]) (I' := I) (J' := J) (Ps := []) rfl trivial ?_
  refine Ex.mkO (x := 3) (y := 146) (n' := 81) tyX5 (ci := 5) rfl cK_5 tyX5_ok cl_2_9 it_5 in_5 (by decide +kernel) rfl (by decide +kernel) hN0 rfl (by decide +kernel) ⟨(bd_r (by show 80 ≤ 80; omega) bd_n), (bl_r (by show 80 ≤ 80; omega) bl_n)⟩ (fun hN1 => ?_)
  refine Ex.blk B_X2_init_8 (lo' := [some (.ref 80)]) (st' := [.ref 81, .ref 81, .ref 80]) (I' := I) (J' := J) (Ps := []) rfl trivial ?_
  refine Ex.callI (γ' := m_X5_init) (mc' := 1) (ms' := 80) (As := []) (b := 81) (rest := [.ref 81, .ref 80]) kn_X5_init rfl ml_2_11 im_X5_init rfl (by decide +kernel) rfl rfl (by decide) (by decide) ⟨by decide, by decide⟩ ⟨(bd_r (by show 81 ≤ 81; omega) (bd_r (by show 80 ≤ 81; omega) bd_n)), (bl_r (by show 80 ≤ 81; omega) bl_n)⟩ (k_X5 d _ I J hN0) (fun r E' I2 J2 q => ?_)
  obtain ⟨rfl, R2, rfl, hN2, hD2, rfl, rfl⟩ := q
  have hK2 := hK0.sub hD2 rfl (by omega)
  refine Ex.putR (v := 81) (a := 80) fl_2_12 rfl (fun C T N h => by cases h; rfl) (fun _ => ⟨rfl, rfl⟩) rfl (by decide +kernel) hN2 ⟨by omega, by omega⟩ (by decide +kernel) ⟨by omega, by omega⟩ (fun hN3 => ?_)
  have hK3 := hK2.put 0 81
  generalize hR3 : aUpR R2 80 0 81 = R3 at hN3 hK3 ⊢
  refine Ex.blk B_X2_init_15 (lo' := [some (.ref 80)]) (st' := [.int 6, .ref 80]) (I' := I2) (J' := J2) (Ps := []) rfl trivial ?_
  refine Ex.mk1 (x := 1) (y := 60) (N := 6) (n' := 83) (by decide +kernel) (by decide) (by decide) (by decide) hN3 rfl (by decide +kernel) ⟨(bd_r (by show 80 ≤ 82; omega) bd_n), (bl_r (by show 80 ≤ 82; omega) bl_n)⟩ (fun hN4 => ?_)
  have hK4 := hK3.arr hN3 rfl (by decide +kernel)
  refine Ex.putR (v := 83) (a := 80) fl_2_18 rfl (fun C T N h => by cases h; rfl) (fun _ => ⟨rfl, rfl⟩) rfl (by decide +kernel) hN4 ⟨by omega, by omega⟩ (by decide +kernel) ⟨by omega, by omega⟩ (fun hN5 => ?_)
  have hK5 := hK4.put 6 83
  generalize hR5 : aUpR R3 80 6 83 = R5 at hN5 hK5 ⊢
  refine Ex.blk B_X2_init_23 (lo' := [some (.ref 80)]) (st' := [.int 60, .ref 80]) (I' := I2) (J' := J2) (Ps := []) rfl trivial ?_
  refine Ex.mk1 (x := 0) (y := 0) (N := 60) (n' := 84) (by decide +kernel) (by decide) (by decide) (by decide) hN5 rfl (by decide +kernel) ⟨(bd_r (by show 80 ≤ 83; omega) bd_n), (bl_r (by show 80 ≤ 83; omega) bl_n)⟩ (fun hN6 => ?_)
  have hK6 := hK5.arr hN5 rfl (by decide +kernel)
  refine Ex.putR (v := 84) (a := 80) fl_2_22 rfl (fun C T N h => by cases h; rfl) (fun _ => ⟨rfl, rfl⟩) rfl (by decide +kernel) hN6 ⟨by omega, by omega⟩ (by decide +kernel) ⟨by omega, by omega⟩ (fun hN7 => ?_)
  have hK7 := hK6.put 7 84
  generalize hR7 : aUpR R5 80 7 84 = R7 at hN7 hK7 ⊢
  exact Ex.vret rfl (by decide +kernel) ⟨rfl, R7, rfl, hN7, hK7.fin (ev_eq 8 (by decide +kernel) (by decide +kernel) (by decide +kernel)), rfl, rfl⟩

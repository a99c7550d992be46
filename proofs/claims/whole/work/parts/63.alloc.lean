/-! MAKING CELLS: the shapes are the end's from the start; rows beyond the count are nothing's, and are kept at nought -/
abbrev Eb (n : Nat) (R : Nat → Nat → Nat) : aE := (n, E0.2.1, R)
def aUpR (R : Nat → Nat → Nat) (a k v : Nat) : Nat → Nat → Nat := fun b j => if b = a ∧ j = k then v else R b j
def Nw (n : Nat) (R : Nat → Nat → Nat) (I : aI) (J : aJ) : Prop := (∀ a j, R a j ≤ n) ∧ ∀ a, n < a → ∀ j, R a j = 0 ∧ I a j = 0 ∧ J a j = 0
theorem Nw.new {n n' : Nat} {R : Nat → Nat → Nat} {I : aI} {J : aJ} (h : Nw n R I J) (hn : n ≤ n') : Nw n' R I J := ⟨fun a j => Nat.le_trans (h.1 a j) hn, fun a q j => h.2 a (by omega) j⟩
theorem Nw.put {n : Nat} {R : Nat → Nat → Nat} {I : aI} {J : aJ} (h : Nw n R I J) {a k v : Nat} (ha : a ≤ n) (hv : v ≤ n) : Nw n (aUpR R a k v) I J := by
  refine ⟨fun b j => ?_, fun b q j => ?_⟩
  · unfold aUpR
    split
    · exact hv
    · exact h.1 b j
  · have e : aUpR R a k v b j = R b j := by unfold aUpR; rw [if_neg (by omega)]
    rw [e]
    exact h.2 b q j
theorem Nw.up {n : Nat} {R : Nat → Nat → Nat} {I I' : aI} {J J' : aJ} (h : Nw n R I J) (hI : ∀ a, n < a → I' a = I a) (hJ : ∀ a, n < a → J' a = J a) : Nw n R I' J' := ⟨h.1, fun a q j => by rw [hI a q, hJ a q]; exact h.2 a q j⟩
theorem aWs_ag {cA : Nat → ClassId} {ad : Nat → Nat} {E E' : aE} {I I' : aI} {J J' : aJ} (h1 : E'.1 = E.1) (h : ∀ a, 1 ≤ a → a ≤ E.1 → E'.2.1 a = E.2.1 a ∧ E'.2.2 a = E.2.2 a ∧ I' a = I a ∧ J' a = J a) : aWs cA ad E' I' J' = aWs cA ad E I J := by
  unfold aWs
  rw [h1]
  apply List.map_congr_left
  intro p hp
  have hp := List.mem_range.mp hp
  have q := h (p + 1) (by omega) (by omega)
  rw [aEnt_eq q.1 (fun j => by rw [q.2.1]) q.2.2.1 q.2.2.2]
/-- only the rows of the cells that are there count -/
theorem Ex.ag {γ : aM} {d mc ms n0 : Nat} {al : Nat × Nat} {pc : Nat} {lo : aLo} {st : List Value} {E E' : aE} {I I' : aI} {J J' : aJ} {Q : aPost} (h1 : E'.1 = E.1) (h : ∀ a, 1 ≤ a → a ≤ E.1 → E'.2.1 a = E.2.1 a ∧ E'.2.2 a = E.2.2 a ∧ I' a = I a ∧ J' a = J a) (k : Ex γ d mc ms n0 al pc lo st E' I' J' Q) : Ex γ d mc ms n0 al pc lo st E I J Q := by
  intro p l e R s m args below meth c D cA A ad0 C ad H locs ls cells slots g1 g2 hl hP hD hS hc hs
  exact k p l e R s m args below meth c D cA A ad0 C ad H locs ls cells slots (by rw [h1]; exact g1) (by rw [h1]; exact g2) hl (by rw [aWs_ag h1 h]; exact hP) (by rw [aWs_ag h1 h]; exact hD) hS hc hs
def aSet (ad : Nat → Nat) (n q : Nat) : Nat → Nat := fun r => if r = n then q else ad r
theorem aWs_mk {cA : Nat → ClassId} {ad : Nat → Nat} {n n' q : Nat} {R : Nat → Nat → Nat} {I : aI} {J : aJ} {e' : va_E} (hN : Nw n R I J) (hn : n + 1 = n') (he : aEnt cA (aSet ad n' q) (Eb n' R) I J n' = e') : aWs cA ad (Eb n R) I J ++ [(q, e')] = aWs cA (aSet ad n' q) (Eb n' R) I J := by
  subst hn
  refine aWs_new (E := Eb n R) (E' := Eb (n + 1) R) rfl (by simp [aSet]) he (fun b h1 h2 => ?_)
  have h2 : b ≤ n := h2
  refine ⟨by unfold aSet; rw [if_neg (by omega)], aEnt_eq rfl (fun j => ?_) rfl rfl⟩
  show aRef (aSet ad (n + 1) q) (R b j) = aRef ad (R b j)
  unfold aRef aSet
  rw [if_neg (show ¬ R b j = n + 1 by have := hN.1 b j; omega)]
/-- going on behind a new cell -/
theorem Ex.mk {γ : aM} {d mc ms n0 n n' x y z : Nat} {pc' : Nat} {lo : aLo} {st : List Value} {R : Nat → Nat → Nat} {I : aI} {J : aJ} {Q : aPost} (hn : n + 1 = n') (hbd : aBdd n st ∧ aBdl n lo) (k : Ex γ d mc ms n0 (x, y) pc' lo (.ref n' :: st) (Eb n' R) I J Q)
    {p : Program} {l : Launch} {e : Env} {Rm : Room} {s : State} {m : MethodId} {args : Array Value} {below : List Frame} {meth : Method} {c : Code} {D : va_G} {cA : Nat → ClassId} {A : Nat → Prop} {ad0 : Nat → Nat} (C : aCtx γ d mc ms p Rm s m args meth c D cA A ad0) {ad : Nat → Nat} {H1 : Heap} {locs : List Loc} {ls : Array Slot} {cells slots q : Nat} (h1 : n0 ≤ n) (h2 : ∀ r, r ≤ n0 ∨ n < r → ad r = ad0 r) (hl : aL ad ls γ.2.2.1 lo) (hP : va_P D vwCl (aWs cA (aSet ad n' q) (Eb n' R) I J) H1) (hD : va_D A (aWs cA (aSet ad n' q) (Eb n' R) I J)) (hS : va_S A s.heap H1 locs) (hc : cells + (x + 1) ≤ mc) (hs : slots + (y + z) ≤ ms) : W p l e Rm s m args below meth c H1 locs (cells + 1) (slots + z) (MQ below (aQc Q D cA A ad0 n0) args s mc ms A) (F0 m pc' ls (.ref q :: st.map (tv ad))) := by
  subst hn
  have hE : ∀ r, r ≤ n → aSet ad (n + 1) q r = ad r := fun r h => by unfold aSet; rw [if_neg (by omega)]
  have e1 : (Value.ref (n + 1) :: st).map (tv (aSet ad (n + 1) q)) = .ref q :: st.map (tv ad) := by
    rw [List.map_cons, aBdd_map hE hbd.1]
    show Value.ref (aSet ad (n + 1) q (n + 1)) :: _ = _
    unfold aSet
    rw [if_pos rfl]
  rw [← e1]
  exact k p l e Rm s m args below meth c D cA A ad0 C (aSet ad (n + 1) q) H1 locs ls (cells + 1) (slots + z) (by show n0 ≤ n + 1; omega) (fun r h => by
    have h : r ≤ n0 ∨ n + 1 < r := h
    unfold aSet
    rw [if_neg (by omega)]
    exact h2 r (by omega)) (aL_bdd hE hbd.2 hl) hP hD hS (by show cells + 1 + x ≤ mc; omega) (by show slots + z + y ≤ ms; omega)
theorem aRef_0 {ad : Nat → Nat} : aRef ad 0 = none := rfl
theorem Ex.mkO {γ : aM} {d mc ms n0 n n' x y idx ci N : Nat} {pc : Nat} {lo : aLo} {st : List Value} {R : Nat → Nat → Nat} {I : aI} {J : aJ} {Q : aPost} {C : String} {T : u_T} (ty : Nat → FieldType) (hcl : vwCl[ci]? = some (C, T, N)) (hin : ∀ w ∈ u_ws C T N, w ∈ lw_tbg) (hty : ∀ k, k < N → parseFieldDescriptor (T k).2.2.1 = some (ty k)) (hlk : Cond.classLink γ.1.cls idx C ∈ lw_tbg) (hit : Cond.instantiable C N ∈ lw_tbg) (hii : Cond.initialized C ∈ lw_tbg) (hdf : ∀ j, j < N → defaultValue (ty j) = if (aKd ci).getD j true = true then .int 0 else .null) (hNl : (aKd ci).length = N) (hdg : decode γ.2.1 pc = .ok (.new idx, 3))
    (hN : Nw n R I J) (hn : n + 1 = n') (hsh : E0.2.1 n' = (0, ci)) (hbd : aBdd n st ∧ aBdl n lo) (k : Nw n' R I J → Ex γ d mc ms n0 (x, y) (pc + 3) lo (.ref n' :: st) (Eb n' R) I J Q) : Ex γ d mc ms n0 (x + 1, y + N) pc lo st (Eb n R) I J Q := by
  intro p l e Rm s m args below meth c D cA A ad0 C0 ad H locs ls cells slots h1 h2 hl hP hD hS hc hs
  have C1 := C0
  obtain ⟨hx, hb, hml, hr, hown, hts, hlk0, hnm, ⟨hf, hlo, hrc, hrs⟩, ⟨hK, hAO⟩, hA, hX⟩ := C0
  have hc : cells + (x + 1) ≤ mc := hc
  have hs : slots + (y + N) ≤ ms := hs
  have hn1 : n < n' := by omega
  have hfs : ∀ ad2 : Nat → Nat, aFs ad2 (Eb n' R) I n' (aKd ci) = (List.range (aKd ci).length).map (fun j => if (aKd ci).getD j true = true then Value.int 0 else .null) := fun ad2 => by
    unfold aFs
    apply List.map_congr_left
    intro j _
    have q := hN.2 n' hn1 j
    show (if (aKd ci).getD j true = true then Value.int (I n' j) else va_rf (aRef ad2 (R n' j))) = _
    rw [q.1, q.2.1]
    rfl
  refine va_new (c0 := c) (fs := (List.range (aKd ci).length).map (fun j => if (aKd ci).getD j true = true then Value.int 0 else .null)) hx hb hts hin ty hty hown (hts _ hlk) (hts _ hit) (hts _ hii) hK hP hD hS hA hcl (fun j hj => ?_) (by omega) (by omega) hdg (fun q H1 hP1 hD1 hS1 => ?_)
  · rw [hdf j hj]
    unfold vp_V
    conv => rhs; rw [List.getD_eq_getElem?_getD, List.getElem?_map, List.getElem?_range (by omega)]
    rfl
  · have he : aEnt cA (aSet ad n' q) (Eb n' R) I J n' = .inr (ci, (List.range (aKd ci).length).map (fun j => if (aKd ci).getD j true = true then Value.int 0 else .null)) := by
      rw [aEnt_o (E := Eb n' R) hsh, hfs]
    rw [aWs_mk hN hn he] at hP1 hD1
    exact Ex.mk hn hbd (k (hN.new (by omega))) C1 h1 h2 hl hP1 hD1 hS1 hc hs
theorem aTy_name {D : va_G} {cA : Nat → ClassId} {s : State} {tys : List (ClassId × FieldType)} {t : FieldType} {c1 c2 : ClassId} {i : Nat} (hK : va_K D vwCl tys s) (h1 : tys[i]? = some (c1, t)) (hK2 : va_K D vwCl (tys ++ [(c2, t)]) s) : c2 = c1 := by
  have a := (hK.2 i _ h1).2
  have b := (hK2.2 tys.length (c2, t) (by rw [List.getElem?_append_right (Nat.le_refl _)]; simp)).2
  cases t with
  | object C =>
    obtain ⟨_, _, -, -, -, a⟩ := a
    obtain ⟨_, _, -, -, -, b⟩ := b
    exact Option.some.inj (b.symm.trans a)
  | _ => exact Option.some.inj (Eq.trans (Eq.symm b) a)
theorem Ex.mk1 {γ : aM} {d mc ms n0 n n' x y N : Nat} {pc : Nat} {lo : aLo} {st : List Value} {R : Nat → Nat → Nat} {I : aI} {J : aJ} {Q : aPost} {v : Int32} (hdg : decode γ.2.1 pc = .ok (.newarray .int, 2)) (hv : ¬ v < 0) (hvN : v.toNatClampNeg = N) (hby : N * 8 ≤ 536870912)
    (hN : Nw n R I J) (hn : n + 1 = n') (hsh : E0.2.1 n' = (1, N)) (hbd : aBdd n st ∧ aBdl n lo) (k : Nw n' R I J → Ex γ d mc ms n0 (x, y) (pc + 2) lo (.ref n' :: st) (Eb n' R) I J Q) : Ex γ d mc ms n0 (x + 1, y + N) pc lo (.int v :: st) (Eb n R) I J Q := by
  intro p l e Rm s m args below meth c D cA A ad0 C0 ad H locs ls cells slots h1 h2 hl hP hD hS hc hs
  have C1 := C0
  obtain ⟨hx, hb, hml, hr, hown, hts, hlk0, hnm, ⟨hf, hlo, hrc, hrs⟩, ⟨hK, hAO⟩, hA, hX⟩ := C0
  have hc : cells + (x + 1) ≤ mc := hc
  have hs : slots + (y + N) ≤ ms := hs
  refine va_newa (atype := .int) (ty := .int) (a0 := (N, .inl (fun _ => 0))) hx hb (hts _ ak_int) rfl hK hP hD hS hA (fun _ => rfl) hv hvN (by show N * 4 ≤ _; omega) (by omega) (by omega) hdg (fun q c2 H1 hK1 hP1 hD1 hS1 => ?_)
  have e2 := aTy_name (cA := cA) (i := 0) hK rfl hK1
  subst e2
  have he : aEnt cA (aSet ad n' q) (Eb n' R) I J n' = .inl (cA 1, N, .inl (fun _ => 0)) := by
    rw [aEnt_1 (E := Eb n' R) (by show (E0.2.1 n').1 = 1; rw [hsh])]
    show Sum.inl (cA 1, (E0.2.1 n').2, Sum.inl (I n')) = _
    rw [hsh, show I n' = fun _ => 0 from funext fun j => (hN.2 n' (by omega) j).2.1]
  rw [aWs_mk hN hn he] at hP1 hD1
  exact Ex.mk hn hbd (k (hN.new (by omega))) C1 h1 h2 hl hP1 hD1 hS1 hc hs
theorem Ex.mk3 {γ : aM} {d mc ms n0 n n' x y N : Nat} {pc : Nat} {lo : aLo} {st : List Value} {R : Nat → Nat → Nat} {I : aI} {J : aJ} {Q : aPost} {v : Int32} (hdg : decode γ.2.1 pc = .ok (.newarray .boolean, 2)) (hv : ¬ v < 0) (hvN : v.toNatClampNeg = N) (hby : N * 8 ≤ 536870912)
    (hN : Nw n R I J) (hn : n + 1 = n') (hsh : E0.2.1 n' = (3, N)) (hbd : aBdd n st ∧ aBdl n lo) (k : Nw n' R I J → Ex γ d mc ms n0 (x, y) (pc + 2) lo (.ref n' :: st) (Eb n' R) I J Q) : Ex γ d mc ms n0 (x + 1, y + N) pc lo (.int v :: st) (Eb n R) I J Q := by
  intro p l e Rm s m args below meth c D cA A ad0 C0 ad H locs ls cells slots h1 h2 hl hP hD hS hc hs
  have C1 := C0
  obtain ⟨hx, hb, hml, hr, hown, hts, hlk0, hnm, ⟨hf, hlo, hrc, hrs⟩, ⟨hK, hAO⟩, hA, hX⟩ := C0
  have hc : cells + (x + 1) ≤ mc := hc
  have hs : slots + (y + N) ≤ ms := hs
  refine va_newa (atype := .boolean) (ty := .boolean) (a0 := (N, .inl (fun _ => 0))) hx hb (hts _ ak_boolean) rfl hK hP hD hS hA (fun _ => rfl) hv hvN (by show N * 1 ≤ _; omega) (by omega) (by omega) hdg (fun q c2 H1 hK1 hP1 hD1 hS1 => ?_)
  have e2 := aTy_name (cA := cA) (i := 2) hK rfl hK1
  subst e2
  have he : aEnt cA (aSet ad n' q) (Eb n' R) I J n' = .inl (cA 3, N, .inl (fun _ => 0)) := by
    rw [aEnt_3 (E := Eb n' R) (by show (E0.2.1 n').1 = 3; rw [hsh])]
    show Sum.inl (cA 3, (E0.2.1 n').2, Sum.inl (I n')) = _
    rw [hsh, show I n' = fun _ => 0 from funext fun j => (hN.2 n' (by omega) j).2.1]
  rw [aWs_mk hN hn he] at hP1 hD1
  exact Ex.mk hn hbd (k (hN.new (by omega))) C1 h1 h2 hl hP1 hD1 hS1 hc hs
theorem Ex.mk2 {γ : aM} {d mc ms n0 n n' x y N : Nat} {pc : Nat} {lo : aLo} {st : List Value} {R : Nat → Nat → Nat} {I : aI} {J : aJ} {Q : aPost} {v : Int32} (hdg : decode γ.2.1 pc = .ok (.newarray .long, 2)) (hv : ¬ v < 0) (hvN : v.toNatClampNeg = N) (hby : N * 8 ≤ 536870912)
    (hN : Nw n R I J) (hn : n + 1 = n') (hsh : E0.2.1 n' = (2, N)) (hbd : aBdd n st ∧ aBdl n lo) (k : Nw n' R I J → Ex γ d mc ms n0 (x, y) (pc + 2) lo (.ref n' :: st) (Eb n' R) I J Q) : Ex γ d mc ms n0 (x + 1, y + N) pc lo (.int v :: st) (Eb n R) I J Q := by
  intro p l e Rm s m args below meth c D cA A ad0 C0 ad H locs ls cells slots h1 h2 hl hP hD hS hc hs
  have C1 := C0
  obtain ⟨hx, hb, hml, hr, hown, hts, hlk0, hnm, ⟨hf, hlo, hrc, hrs⟩, ⟨hK, hAO⟩, hA, hX⟩ := C0
  have hc : cells + (x + 1) ≤ mc := hc
  have hs : slots + (y + N) ≤ ms := hs
  refine va_newa (atype := .long) (ty := .long) (a0 := (N, .inr (.inl (fun _ => 0)))) hx hb (hts _ ak_long) rfl hK hP hD hS hA (fun _ => rfl) hv hvN (by show N * 8 ≤ _; omega) (by omega) (by omega) hdg (fun q c2 H1 hK1 hP1 hD1 hS1 => ?_)
  have e2 := aTy_name (cA := cA) (i := 1) hK rfl hK1
  subst e2
  have he : aEnt cA (aSet ad n' q) (Eb n' R) I J n' = .inl (cA 2, N, .inr (.inl (fun _ => 0))) := by
    rw [aEnt_2 (E := Eb n' R) (by show (E0.2.1 n').1 = 2; rw [hsh])]
    show Sum.inl (cA 2, (E0.2.1 n').2, Sum.inr (Sum.inl (J n'))) = _
    rw [hsh, show J n' = fun _ => 0 from funext fun j => (hN.2 n' (by omega) j).2.2]
  rw [aWs_mk hN hn he] at hP1 hD1
  exact Ex.mk hn hbd (k (hN.new (by omega))) C1 h1 h2 hl hP1 hD1 hS1 hc hs
theorem Ex.mk4 {γ : aM} {d mc ms n0 n n' x y N idx : Nat} {pc : Nat} {lo : aLo} {st : List Value} {R : Nat → Nat → Nat} {I : aI} {J : aJ} {Q : aPost} {v : Int32} (hlk : Cond.classLink γ.1.cls idx "MarkovChainDistances$Chain" ∈ lw_tbg) (hdg : decode γ.2.1 pc = .ok (.anewarray idx, 3)) (hv : ¬ v < 0) (hvN : v.toNatClampNeg = N) (hby : N * 8 ≤ 536870912)
    (hN : Nw n R I J) (hn : n + 1 = n') (hsh : E0.2.1 n' = (4, N)) (hbd : aBdd n st ∧ aBdl n lo) (k : Nw n' R I J → Ex γ d mc ms n0 (x, y) (pc + 3) lo (.ref n' :: st) (Eb n' R) I J Q) : Ex γ d mc ms n0 (x + 1, y + N) pc lo (.int v :: st) (Eb n R) I J Q := by
  intro p l e Rm s m args below meth c D cA A ad0 C0 ad H locs ls cells slots h1 h2 hl hP hD hS hc hs
  have C1 := C0
  obtain ⟨hx, hb, hml, hr, hown, hts, hlk0, hnm, ⟨hf, hlo, hrc, hrs⟩, ⟨hK, hAO⟩, hA, hX⟩ := C0
  have hc : cells + (x + 1) ≤ mc := hc
  have hs : slots + (y + N) ≤ ms := hs
  refine va_newq hx hb hown (hts _ hlk) hAO.1 hK hP hD hS hA hv hvN (by omega) (by omega) (by omega) hdg (fun q c2 H1 hK1 hP1 hD1 hS1 => ?_)
  have e2 := aTy_name (cA := cA) (i := 3) hK rfl hK1
  subst e2
  have he : aEnt cA (aSet ad n' q) (Eb n' R) I J n' = .inl (cA 4, N, .inr (.inr (.inr (.inr (fun _ => none))))) := by
    rw [aEnt_4 (E := Eb n' R) (by show (E0.2.1 n').1 = 4; rw [hsh])]
    show Sum.inl (cA 4, (E0.2.1 n').2, Sum.inr (Sum.inr (Sum.inr (Sum.inr (fun j => aRef _ (R n' j)))))) = _
    rw [hsh, show (fun j => aRef (aSet ad n' q) (R n' j)) = fun _ => none from funext fun j => by rw [(hN.2 n' (by omega) j).1]; rfl]
  rw [aWs_mk hN hn he] at hP1 hD1
  exact Ex.mk hn hbd (k (hN.new (by omega))) C1 h1 h2 hl hP1 hD1 hS1 hc hs
theorem aFs_setR {ad : Nat → Nat} {n : Nat} {R : Nat → Nat → Nat} {I : aI} {a k v : Nat} {ks : List Bool} (hk : ks.getD k true = false) (hv : v ≠ 0) : (aFs ad (Eb n R) I a ks).set k (.ref (ad v)) = aFs ad (Eb n (aUpR R a k v)) I a ks := by
  apply List.ext_getElem?
  intro j
  by_cases hj : j < ks.length
  · rw [aFs_at hj]
    by_cases e : k = j
    · subst e
      rw [List.getElem?_set_self (by rw [aFs_len]; exact hj), hk, if_neg (by decide)]
      show _ = some (va_rf (aRef ad (aUpR R a k v a k)))
      have e1 : aUpR R a k v a k = v := by unfold aUpR; rw [if_pos ⟨rfl, rfl⟩]
      rw [e1]
      unfold aRef
      rw [if_neg hv]
      rfl
    · rw [List.getElem?_set_ne e, aFs_at hj]
      have : aUpR R a k v a j = R a j := by unfold aUpR; rw [if_neg (fun q => e q.2.symm)]
      show _ = some (if _ then _ else va_rf (aRef ad (aUpR R a k v a j)))
      rw [this]
  · rw [List.getElem?_eq_none (by rw [List.length_set, aFs_len]; omega), List.getElem?_eq_none (by rw [aFs_len]; omega)]
/-- a reference into a field, in the constructor -/
theorem Ex.putR {γ : aM} {d mc ms n0 n idx ci kf a v : Nat} {al : Nat × Nat} {pc : Nat} {lo : aLo} {st : List Value} {R : Nat → Nat → Nat} {I : aI} {J : aJ} {Q : aPost} {ty : FieldType} (hf0 : fOK γ.1.cls idx ci kf ty true) (hnm0 : γ.1.name = "<init>") (hdc : ∀ C T N, vwCl[ci]? = some (C, T, N) → (T kf).1 = γ.1.cls) (hfit : ∀ x, narrow ty (.ref x) = .ref x ∧ fits ty (.ref x) = true) (hk : (aKd ci).getD kf true = false) (hdg : decode γ.2.1 pc = .ok (.putfield idx, 3))
    (hN : Nw n R I J) (ha : 1 ≤ a ∧ a ≤ n) (hsh : E0.2.1 a = (0, ci)) (hv : v ≠ 0 ∧ v ≤ n) (k : Nw n (aUpR R a kf v) I J → Ex γ d mc ms n0 al (pc + 3) lo st (Eb n (aUpR R a kf v)) I J Q) : Ex γ d mc ms n0 al pc lo (.ref v :: .ref a :: st) (Eb n R) I J Q := by
  intro p l e Rm s m args below meth c D cA A ad0 C0 ad H locs ls cells slots h1 h2 hl hP hD hS hc hs
  have C1 := C0
  obtain ⟨hx, hb, hml, hr, hown, hts, hlk0, hnm, ⟨hf, hlo, hrc, hrs⟩, ⟨hK, hAO⟩, hA, hX⟩ := C0
  obtain ⟨C, T, N, ty0, q1, q2, q3, q4, q5, q6, q7, q8, q9⟩ := hf0
  have he := aWs_at (cA := cA) (ad := ad) (E := Eb n R) (I := I) (J := J) (a := a) ha
  rw [aEnt_o (E := Eb n R) hsh] at he
  refine va_putF (ty := ty) (v := .ref (ad v)) hx hb hts q2 ty0 q3 q4 hown hK hP hD hS (a - 1) he q1 kf q5 (hts _ q6) (fun _ h => h) q9 (hnm.trans hnm0) (hdc _ _ _ q1) (by rw [q3 kf q5, q7]) (hfit _).1 (hfit _).2 (by rw [aFs_len, q8]; exact q5) hdg (fun H1 locs1 hP1 hD1 hS1 => ?_)
  rw [aFs_setR hk hv.1, aWs_set (E := Eb n R) (E' := Eb n (aUpR R a kf v)) (I' := I) (J' := J) rfl (aEnt_o (E := Eb n (aUpR R a kf v)) hsh) (fun b hb => aEnt_eq rfl (fun j => by
    show aRef ad (aUpR R a kf v b j) = aRef ad (R b j)
    unfold aUpR
    rw [if_neg (fun q => hb q.1)]) rfl rfl) ha] at hP1 hD1
  exact k (hN.put ha.2 hv.2) p l e Rm s m args below meth c D cA A ad0 C1 ad H1 locs1 ls cells slots h1 h2 hl hP1 hD1 hS1 hc hs
/-- a chain into the array of chains -/
theorem Ex.astR {γ : aM} {d mc ms n0 n a v N : Nat} {al : Nat × Nat} {pc : Nat} {lo : aLo} {st : List Value} {R : Nat → Nat → Nat} {I : aI} {J : aJ} {Q : aPost} {i : Int32} (hdg : decode γ.2.1 pc = .ok (.aastore, 1))
    (hN : Nw n R I J) (ha : 1 ≤ a ∧ a ≤ n) (hsh : E0.2.1 a = (4, N)) (hv : 1 ≤ v ∧ v ≤ n) (hsv : E0.2.1 v = (0, 1)) (hi : vp_in i N) (k : Nw n (aUpR R a i.toNatClampNeg v) I J → Ex γ d mc ms n0 al (pc + 1) lo st (Eb n (aUpR R a i.toNatClampNeg v)) I J Q) : Ex γ d mc ms n0 al pc lo (.ref v :: .int i :: .ref a :: st) (Eb n R) I J Q := by
  intro p l e Rm s m args below meth c D cA A ad0 C0 ad H locs ls cells slots h1 h2 hl hP hD hS hc hs
  have C1 := C0
  obtain ⟨hx, hb, hml, hr, hown, hts, hlk0, hnm, ⟨hf, hlo, hrc, hrs⟩, ⟨hK, hAO⟩, hA, hX⟩ := C0
  have hsh1 : ((Eb n R).2.1 a).1 = 4 := by show (E0.2.1 a).1 = 4; rw [hsh]
  have he := aWs_at (cA := cA) (ad := ad) (E := Eb n R) (I := I) (J := J) (a := a) ha
  rw [aEnt_4 hsh1] at he
  have he : (aWs cA ad (Eb n R) I J)[a - 1]? = some (ad a, .inl (cA 4, N, .inr (.inr (.inr (.inr (fun j => aRef ad (R a j))))))) := by
    rw [he]
    show some (ad a, Sum.inl (cA 4, (E0.2.1 a).2, _)) = _
    rw [hsh]
  have hev := aWs_at (cA := cA) (ad := ad) (E := Eb n R) (I := I) (J := J) (a := v) hv
  rw [aEnt_o (E := Eb n R) hsv] at hev
  refine va_astq hx hb hK hP hD hS (a - 1) 3 (v - 1) 1 (r := (RX1, TX1, 6)) he rfl hev rfl hi hdg (fun H1 locs1 hP1 hD1 hS1 => ?_)
  have e1 : va_up (fun j => aRef ad (R a j)) i.toNatClampNeg (some (ad v)) = fun j => aRef ad (aUpR R a i.toNatClampNeg v a j) := by
    funext j
    unfold va_up aUpR
    by_cases e : j = i.toNatClampNeg
    · rw [if_pos e, if_pos ⟨rfl, e⟩]
      unfold aRef
      rw [if_neg (by omega)]
    · rw [if_neg e, if_neg (fun q => e q.2)]
  have e2 : aEnt cA ad (Eb n (aUpR R a i.toNatClampNeg v)) I J a = .inl (cA 4, N, .inr (.inr (.inr (.inr (va_up (fun j => aRef ad (R a j)) i.toNatClampNeg (some (ad v))))))) := by
    rw [aEnt_4 (E := Eb n (aUpR R a i.toNatClampNeg v)) hsh1, e1]
    show Sum.inl (cA 4, (E0.2.1 a).2, _) = _
    rw [hsh]
  rw [aWs_set (E := Eb n R) (E' := Eb n (aUpR R a i.toNatClampNeg v)) (I' := I) (J' := J) rfl e2 (fun b hb => aEnt_eq rfl (fun j => by
    show aRef ad (aUpR R a i.toNatClampNeg v b j) = aRef ad (R b j)
    unfold aUpR
    rw [if_neg (fun q => hb q.1)]) rfl rfl) ha] at hP1 hD1
  exact k (hN.put ha.2 hv.2) p l e Rm s m args below meth c D cA A ad0 C1 ad H1 locs1 ls cells slots h1 h2 hl hP1 hD1 hS1 hc hs
def aRowR (R : Nat → Nat → Nat) (n N : Nat) : Nat → Nat → Nat := fun b j => if b = n then (if j < N then n + 1 + j else 0) else R b j
theorem Nw.rows {n n' n2 N : Nat} {R : Nat → Nat → Nat} {I : aI} {J : aJ} (h : Nw n R I J) (hn : n + 1 = n') (h2 : n' + N = n2) : Nw n2 (aRowR R n' N) I J := by
  refine ⟨fun a j => ?_, fun a q j => ?_⟩
  · unfold aRowR
    have := h.1 a j
    split
    · split <;> omega
    · omega
  · have e : aRowR R n' N a j = R a j := by unfold aRowR; rw [if_neg (by omega)]
    rw [e]
    exact h.2 a (by omega) j
/-- an array of rows -/
theorem Ex.mk5 {γ : aM} {d mc ms n0 n n' n2 x y N K idx : Nat} {pc : Nat} {lo : aLo} {st : List Value} {R : Nat → Nat → Nat} {I : aI} {J : aJ} {Q : aPost} {v w : Int32} (hlk : Cond.classLink γ.1.cls idx "[[J" ∈ lw_tbg) (hdg : decode γ.2.1 pc = .ok (.multianewarray idx 2, 4)) (hv : ¬ v < 0) (hw : ¬ w < 0) (hvN : v.toNatClampNeg = N) (hwK : w.toNatClampNeg = K) (hby : N * 8 ≤ 536870912) (hby2 : K * 8 ≤ 536870912)
    (hN : Nw n R I J) (hn : n + 1 = n') (hn2 : n' + N = n2) (hsh : E0.2.1 n' = (5, N)) (hsr : ∀ i, i < N → E0.2.1 (n' + 1 + i) = (2, K)) (hbd : aBdd n st ∧ aBdl n lo) (k : Nw n2 (aRowR R n' N) I J → Ex γ d mc ms n0 (x, y) (pc + 4) lo (.ref n' :: st) (Eb n2 (aRowR R n' N)) I J Q) : Ex γ d mc ms n0 (x + (1 + N), y + (N + N * K)) pc lo (.int w :: .int v :: st) (Eb n R) I J Q := by
  intro p l e Rm s m args below meth c D cA A ad0 C0 ad H locs ls cells slots h1 h2 hl hP hD hS hc hs
  have C1 := C0
  obtain ⟨hx, hb, hml, hr, hown, hts, hlk0, hnm, ⟨hf, hlo, hrc, hrs⟩, ⟨hK, hAO⟩, hA, hX⟩ := C0
  have hc : cells + (x + (1 + N)) ≤ mc := hc
  have hs : slots + (y + (N + N * K)) ≤ ms := hs
  have h1 : n0 ≤ n := h1
  have h2 : ∀ r, r ≤ n0 ∨ n < r → ad r = ad0 r := h2
  have hcy : s.vm.findClass (FieldType.array .long).toString = some (cA 2) := (hK.2 1 _ rfl).2
  have hP0 : va_P D vwCl (aWs cA ad (Eb n R) I J ++ va_pl [] (fun _ => .inl (cA 2, K, .inr (.inl (fun _ => 0))))) H := by
    show va_P D vwCl (aWs cA ad (Eb n R) I J ++ []) H
    rw [List.append_nil]
    exact hP
  have hD0 : va_D A (aWs cA ad (Eb n R) I J ++ va_pl [] (fun _ => .inl (cA 2, K, .inr (.inl (fun _ => 0))))) := by
    show va_D A (aWs cA ad (Eb n R) I J ++ [])
    rw [List.append_nil]
    exact hD
  refine va_mna (ty := .long) (z := (K, .inr (.inl (fun _ => 0)))) hx hb hown (hts _ hlk) hAO.2 (hts _ ak_long) hcy hK hP0 hD0 hS hA hv hw hvN hwK (by omega) (by show K * 8 ≤ _; omega) (by omega) rfl rfl (by omega) (by omega) (fun c => by rw [vp_cell_l, ← arrV_new]; rfl) hdg (fun q r c2 H1 hr1 hr2 hK1 hP1 hD1 hS1 => ?_)
  have e2 := aTy_name (cA := cA) (i := 4) hK rfl hK1
  subst e2
  subst hn2
  subst hn
  let ad' : Nat → Nat := fun z => if z = n + 1 then q else if n + 1 < z ∧ z ≤ n + 1 + N then r (z - (n + 2)) else ad z
  have hE : ∀ z, z ≤ n → ad' z = ad z := fun z h => by
    show (if z = n + 1 then q else if n + 1 < z ∧ z ≤ n + 1 + N then r (z - (n + 2)) else ad z) = _
    rw [if_neg (by omega), if_neg (by omega)]
  have hq : ad' (n + 1) = q := if_pos rfl
  have hri : ∀ i, i < N → ad' (n + 1 + 1 + i) = r i := fun i h => by
    show (if n + 1 + 1 + i = n + 1 then q else if n + 1 < n + 1 + 1 + i ∧ n + 1 + 1 + i ≤ n + 1 + N then r (n + 1 + 1 + i - (n + 2)) else ad (n + 1 + 1 + i)) = _
    rw [if_neg (by omega), if_pos (by omega), show n + 1 + 1 + i - (n + 2) = i by omega]
  have ew : (aWs cA ad (Eb n R) I J ++ [(q, .inl (cA 5, N, .inr (.inr (.inr (.inr (fun i => if i < N then some (r i) else none))))))]) ++ va_pl ([] ++ (List.range N).map r) (vr_up (fun _ => .inl (cA 2, K, .inr (.inl (fun _ => 0)))) ((List.range N).map r) (.inl (cA 2, K, .inr (.inl (fun _ => 0))))) = aWs cA ad' (Eb (n + 1 + N) (aRowR R (n + 1) N)) I J := by
    have u : aWs cA ad' (Eb (n + 1 + N) (aRowR R (n + 1) N)) I J = aWs cA ad' (Eb n (aRowR R (n + 1) N)) I J ++ [(ad' (n + 1), aEnt cA ad' (Eb (n + 1 + N) (aRowR R (n + 1) N)) I J (n + 1))] ++ (List.range N).map (fun i => (ad' (n + 1 + 1 + i), aEnt cA ad' (Eb (n + 1 + N) (aRowR R (n + 1) N)) I J (n + 1 + 1 + i))) := by
      unfold aWs
      show (List.range (n + 1 + N)).map _ = _
      rw [List.range_add, List.map_append, List.range_succ, List.map_append, List.map_map]
      congr 1
      apply List.map_congr_left
      intro i _
      show (ad' (n + 1 + i + 1), aEnt cA ad' (Eb (n + 1 + N) (aRowR R (n + 1) N)) I J (n + 1 + i + 1)) = _
      rw [show n + 1 + i + 1 = n + 1 + 1 + i by omega]
    rw [u]
    have e1 : aWs cA ad' (Eb n (aRowR R (n + 1) N)) I J = aWs cA ad (Eb n R) I J := by
      unfold aWs
      apply List.map_congr_left
      intro p hp
      have hp : p < n := List.mem_range.mp hp
      rw [hE (p + 1) (by omega), aEnt_eq (E := Eb n R) (E' := Eb n (aRowR R (n + 1) N)) (ad := ad) (I := I) (J := J) rfl (fun j => ?_) rfl rfl]
      show aRef ad' (aRowR R (n + 1) N (p + 1) j) = aRef ad (R (p + 1) j)
      unfold aRowR
      rw [if_neg (by omega)]
      unfold aRef
      rw [hE _ (hN.1 _ _)]
    have e3 : aEnt cA ad' (Eb (n + 1 + N) (aRowR R (n + 1) N)) I J (n + 1) = .inl (cA 5, N, .inr (.inr (.inr (.inr (fun i => if i < N then some (r i) else none))))) := by
      rw [aEnt_5 (E := Eb (n + 1 + N) (aRowR R (n + 1) N)) (by show (E0.2.1 (n + 1)).1 = 5; rw [hsh])]
      show Sum.inl (cA 5, (E0.2.1 (n + 1)).2, Sum.inr (Sum.inr (Sum.inr (Sum.inr (fun j => aRef ad' (aRowR R (n + 1) N (n + 1) j)))))) = _
      rw [hsh, show (fun j => aRef ad' (aRowR R (n + 1) N (n + 1) j)) = (fun i => if i < N then some (r i) else none) from funext fun j => ?_]
      unfold aRowR aRef
      rw [if_pos rfl]
      by_cases hj : j < N
      · rw [if_pos hj, if_pos hj, if_neg (by omega), hri j hj]
      · rw [if_neg hj, if_neg hj, if_pos rfl]
    have e4 : ∀ i, i < N → aEnt cA ad' (Eb (n + 1 + N) (aRowR R (n + 1) N)) I J (n + 1 + 1 + i) = .inl (cA 2, K, .inr (.inl (fun _ => 0))) := fun i hi => by
      rw [aEnt_2 (E := Eb (n + 1 + N) (aRowR R (n + 1) N)) (by show (E0.2.1 (n + 1 + 1 + i)).1 = 2; rw [hsr i hi])]
      show Sum.inl (cA 2, (E0.2.1 (n + 1 + 1 + i)).2, Sum.inr (Sum.inl (J (n + 1 + 1 + i)))) = _
      rw [hsr i hi, show J (n + 1 + 1 + i) = fun _ => 0 from funext fun j => (hN.2 (n + 1 + 1 + i) (by omega) j).2.2]
    rw [e1, hq, e3]
    congr 1
    unfold va_pl
    rw [List.nil_append, List.map_map]
    apply List.map_congr_left
    intro i hi
    have hi := List.mem_range.mp hi
    rw [hri i hi, e4 i hi]
    show (r i, vr_up _ _ _ (r i)) = _
    rw [vr_up_in (List.mem_map.mpr ⟨i, List.mem_range.mpr hi, rfl⟩)]
  rw [ew] at hP1 hD1
  have es : (Value.ref (n + 1) :: st).map (tv ad') = .ref q :: st.map (tv ad) := by
    rw [List.map_cons, aBdd_map hE hbd.1]
    show Value.ref (ad' (n + 1)) :: _ = _
    rw [hq]
  rw [← es]
  exact k (hN.rows rfl rfl) p l e Rm s m args below meth c D cA A ad0 C1 ad' H1 locs ls (cells + 1 + N) (slots + N + N * K) (by show n0 ≤ n + 1 + N; omega) (fun z h => by
    have h : z ≤ n0 ∨ n + 1 + N < z := h
    show (if z = n + 1 then q else if n + 1 < z ∧ z ≤ n + 1 + N then r (z - (n + 2)) else ad z) = _
    rw [if_neg (by omega), if_neg (by omega)]
    exact h2 z (by omega)) (aL_bdd hE hbd.2 hl) hP1 hD1 hS1 (by show cells + 1 + N + x ≤ mc; omega) (by show slots + N + N * K + y ≤ ms; omega)

/-! THE ABSTRACT MACHINE: values with abstract addresses (0: the script; 1, 2, ..: the cells made since the law's start), a heap of typed rows, instructions as functions -/
abbrev aI : Type := Nat → Nat → Int32
abbrev aJ : Type := Nat → Nat → Int64
/-- how many cells; each cell's kind (0 object of a kind, 1 ints, 2 longs, 3 booleans, 4 chains, 5 rows of longs) and size; the references (0: null) -/
abbrev aE : Type := Nat × (Nat → Nat × Nat) × (Nat → Nat → Nat)
abbrev aLo : Type := List (Option Value)
abbrev aS : Type := aLo × List Value × aI × aJ
abbrev aOp : Type := aE → aS → Option (aS × List Prop)
/-- a method: its name, code, locals, answer; the script (the law's alone) -/
abbrev aM : Type := MethodName × ByteArray × Nat × Option FieldType × Option (Nat × (Nat → Int32))
def aUp (I : aI) (a k : Nat) (v : Int32) : aI := fun b j => if b = a ∧ j = k then v else I b j
def aUpJ (J : aJ) (a k : Nat) (v : Int64) : aJ := fun b j => if b = a ∧ j = k then v else J b j
def aRw (I : aI) (a : Nat) (f : Nat → Int32) : aI := fun b j => if b = a then f j else I b j
def aRwJ (J : aJ) (a : Nat) (f : Nat → Int64) : aJ := fun b j => if b = a then f j else J b j
def tv (ad : Nat → Nat) : Value → Value
  | .ref r => .ref (ad r)
  | v => v
theorem tv_cat (ad : Nat → Nat) (v : Value) : (tv ad v).category = v.category := by cases v <;> rfl
def aLs (ad : Nat → Nat) (lo : aLo) : List (Nat × Value) := (List.range lo.length).filterMap (fun i => match lo[i]? with
  | some (some v) => some (i, tv ad v)
  | _ => none)
theorem aLs_mem {ad : Nat → Nat} {lo : aLo} {q : Nat × Value} : q ∈ aLs ad lo ↔ ∃ v, lo[q.1]? = some (some v) ∧ q.2 = tv ad v := by
  unfold aLs
  rw [List.mem_filterMap]
  constructor
  · rintro ⟨i, -, h⟩
    split at h
    · rename_i v hv
      cases h
      exact ⟨v, hv, rfl⟩
    · cases h
  · rintro ⟨v, h1, h2⟩
    refine ⟨q.1, List.mem_range.mpr (List.getElem?_eq_some_iff.mp h1).1, ?_⟩
    rw [h1]
    show some (q.1, tv ad v) = some q
    rw [← h2]
def aL (ad : Nat → Nat) (ls : Array Slot) (nL : Nat) (lo : aLo) : Prop := lo.length = nL ∧ lv_has ls nL (aLs ad lo)
theorem aL_at {ad : Nat → Nat} {ls : Array Slot} {nL : Nat} {lo : aLo} (h : aL ad ls nL lo) {i : Nat} {v : Value} (hv : lo[i]? = some (some v)) : ls[i]? = some (.val (tv ad v)) := h.2.2.2 (i, tv ad v) (aLs_mem.mpr ⟨v, hv, rfl⟩)
def aOk1 (lo : aLo) : Nat → Bool
  | 0 => true
  | j + 1 => match lo[j]? with
    | some (some w) => !(w.category == 2)
    | _ => true
theorem aOk1_not {lo : aLo} {i j : Nat} {w : Value} (h : aOk1 lo i = true) (hj : j + 1 = i) (hw : lo[j]? = some (some w)) : ¬ w.category = 2 := by
  subst hj
  have h : (match lo[j]? with
    | some (some w) => !(w.category == 2)
    | _ => true) = true := h
  rw [hw] at h
  intro q
  simp [q] at h
theorem aL_st1 {ad : Nat → Nat} {ls ls' : Array Slot} {nL : Nat} {lo : aLo} {i : Nat} {v : Value} (h : aL ad ls nL lo) (hk : aOk1 lo i = true) (hn : lv_has ls' nL ((i, tv ad v) :: (aLs ad lo).filter (fun q => !(q.1 == i) && !(q.1 + 1 == i && q.2.category == 2)))) : aL ad ls' nL (lo.set i (some v)) := by
  refine ⟨by rw [List.length_set]; exact h.1, hn.1, hn.2.1, fun q hq => hn.2.2 q ?_⟩
  obtain ⟨w, h1, h2⟩ := aLs_mem.mp hq
  by_cases e : i = q.1
  · have hl : q.1 < (lo.set i (some v)).length := (List.getElem?_eq_some_iff.mp h1).1
    rw [List.length_set] at hl
    rw [e, List.getElem?_set_self hl] at h1
    cases h1
    have : q = (i, tv ad v) := by rw [e, ← h2]
    rw [this]
    exact List.mem_cons_self
  · rw [List.getElem?_set_ne e] at h1
    refine List.mem_cons_of_mem _ (List.mem_filter.mpr ⟨aLs_mem.mpr ⟨w, h1, h2⟩, ?_⟩)
    have e1 : (q.1 == i) = false := by simpa using fun z => e z.symm
    rw [e1, h2, tv_cat]
    by_cases e2 : q.1 + 1 = i
    · have := aOk1_not hk e2 h1
      simp [this]
    · simp [e2]
theorem aL_st2 {ad : Nat → Nat} {ls ls' : Array Slot} {nL : Nat} {lo : aLo} {i : Nat} {v : Value} (h : aL ad ls nL lo) (hk : aOk1 lo i = true) (hn : lv_has ls' nL ((i, tv ad v) :: (aLs ad lo).filter (fun q => !(q.1 == i) && (!(q.1 == i + 1) && !(q.1 + 1 == i && q.2.category == 2))))) : aL ad ls' nL ((lo.set i (some v)).set (i + 1) none) := by
  refine ⟨by rw [List.length_set, List.length_set]; exact h.1, hn.1, hn.2.1, fun q hq => hn.2.2 q ?_⟩
  obtain ⟨w, h1, h2⟩ := aLs_mem.mp hq
  have hl : q.1 < ((lo.set i (some v)).set (i + 1) none).length := (List.getElem?_eq_some_iff.mp h1).1
  rw [List.length_set, List.length_set] at hl
  by_cases e0 : i + 1 = q.1
  · rw [e0, List.getElem?_set_self (by rw [List.length_set]; exact hl)] at h1
    cases h1
  rw [List.getElem?_set_ne e0] at h1
  by_cases e : i = q.1
  · rw [e, List.getElem?_set_self hl] at h1
    cases h1
    have : q = (i, tv ad v) := by rw [e, ← h2]
    rw [this]
    exact List.mem_cons_self
  · rw [List.getElem?_set_ne e] at h1
    refine List.mem_cons_of_mem _ (List.mem_filter.mpr ⟨aLs_mem.mpr ⟨w, h1, h2⟩, ?_⟩)
    have e1 : (q.1 == i) = false := by simpa using fun z => e z.symm
    have e3 : (q.1 == i + 1) = false := by simpa using fun z => e0 z.symm
    rw [e1, e3, h2, tv_cat]
    by_cases e2 : q.1 + 1 = i
    · have := aOk1_not hk e2 h1
      simp [this]
    · simp [e2]
/-- which fields of a kind are numbers (true) or references (false) -/
def aKd : Nat → List Bool
  | 0 => [false, false, false]
  | 1 => [true, true, true, true, false, false]
  | 2 => [false, true, true, true, true, true, false, false]
  | 3 => [false, false, false, false, true]
  | 4 => [true, true, false]
  | 5 => [true, false]
  | 6 => [true, false, false]
  | 7 => [false, false]
  | 8 => [false, true, false, false, false, false, false, false, false]
  | 9 => [false, false, false, true, false, false, false, false, false, false, false]
  | 10 => [false, false, true, false, true, false, false, false, false, false, false, false, false, false, true, false, false, false, true, true, true, true, true, true, false, false, false, false, false, false]
  | _ => []
def aRef (ad : Nat → Nat) (r : Nat) : Option Nat := if r = 0 then none else some (ad r)
def aFs (ad : Nat → Nat) (E : aE) (I : aI) (a : Nat) (ks : List Bool) : List Value := (List.range ks.length).map (fun k => if ks.getD k true = true then .int (I a k) else va_rf (aRef ad (E.2.2 a k)))
def aEnt (cA : Nat → ClassId) (ad : Nat → Nat) (E : aE) (I : aI) (J : aJ) (a : Nat) : va_E := match (E.2.1 a).1 with
  | 0 => .inr ((E.2.1 a).2, aFs ad E I a (aKd (E.2.1 a).2))
  | 1 => .inl (cA 1, (E.2.1 a).2, .inl (I a))
  | 2 => .inl (cA 2, (E.2.1 a).2, .inr (.inl (J a)))
  | 3 => .inl (cA 3, (E.2.1 a).2, .inl (I a))
  | 4 => .inl (cA 4, (E.2.1 a).2, .inr (.inr (.inr (.inr (fun j => aRef ad (E.2.2 a j))))))
  | _ => .inl (cA 5, (E.2.1 a).2, .inr (.inr (.inr (.inr (fun j => aRef ad (E.2.2 a j))))))
def aWs (cA : Nat → ClassId) (ad : Nat → Nat) (E : aE) (I : aI) (J : aJ) : va_W := (List.range E.1).map (fun p => (ad (p + 1), aEnt cA ad E I J (p + 1)))
/-- the cell is there -/
abbrev aIs (E : aE) (a : Nat) : Prop := 1 ≤ a ∧ a ≤ E.1
theorem aWs_at {cA : Nat → ClassId} {ad : Nat → Nat} {E : aE} {I : aI} {J : aJ} {a : Nat} (h : aIs E a) : (aWs cA ad E I J)[a - 1]? = some (ad a, aEnt cA ad E I J a) := by
  unfold aWs
  rw [List.getElem?_map, List.getElem?_range (by omega)]
  show some (ad (a - 1 + 1), aEnt cA ad E I J (a - 1 + 1)) = _
  rw [show a - 1 + 1 = a by omega]
theorem aWs_set {cA : Nat → ClassId} {ad : Nat → Nat} {E E' : aE} {I I' : aI} {J J' : aJ} {a : Nat} {e' : va_E} (hE : E'.1 = E.1) (he : aEnt cA ad E' I' J' a = e') (ho : ∀ b, b ≠ a → aEnt cA ad E' I' J' b = aEnt cA ad E I J b) (h : aIs E a) : (aWs cA ad E I J).set (a - 1) (ad a, e') = aWs cA ad E' I' J' := by
  apply List.ext_getElem?
  intro k
  by_cases hk : a - 1 = k
  · subst hk
    rw [List.getElem?_set_self (by unfold aWs; simp; omega), aWs_at (E := E') ⟨h.1, by rw [hE]; exact h.2⟩, he]
  · rw [List.getElem?_set_ne hk]
    unfold aWs
    rw [List.getElem?_map, List.getElem?_map, hE]
    by_cases hl : k < E.1
    · rw [List.getElem?_range hl]
      show some (ad (k + 1), _) = some (ad (k + 1), _)
      rw [ho (k + 1) (by omega)]
    · rw [List.getElem?_eq_none (by rw [List.length_range]; omega)]
      rfl
theorem aWs_new {cA : Nat → ClassId} {ad ad' : Nat → Nat} {E E' : aE} {I I' : aI} {J J' : aJ} {q : Nat} {e' : va_E} (hE : E'.1 = E.1 + 1) (hq : ad' (E.1 + 1) = q) (he : aEnt cA ad' E' I' J' (E.1 + 1) = e') (ho : ∀ b, 1 ≤ b → b ≤ E.1 → ad' b = ad b ∧ aEnt cA ad' E' I' J' b = aEnt cA ad E I J b) : aWs cA ad E I J ++ [(q, e')] = aWs cA ad' E' I' J' := by
  unfold aWs
  rw [hE, List.range_succ, List.map_append]
  congr 1
  · apply List.map_congr_left
    intro p hp
    have h := ho (p + 1) (by omega) (by have := List.mem_range.mp hp; omega)
    rw [h.1, h.2]
  · simp [hq, he]
theorem aFs_at {ad : Nat → Nat} {E : aE} {I : aI} {a k : Nat} {ks : List Bool} (hk : k < ks.length) : (aFs ad E I a ks)[k]? = some (if ks.getD k true = true then .int (I a k) else va_rf (aRef ad (E.2.2 a k))) := by
  unfold aFs
  rw [List.getElem?_map, List.getElem?_range hk]
  rfl
theorem aFs_len {ad : Nat → Nat} {E : aE} {I : aI} {a : Nat} {ks : List Bool} : (aFs ad E I a ks).length = ks.length := by simp [aFs]
theorem aEnt_o {cA : Nat → ClassId} {ad : Nat → Nat} {E : aE} {I : aI} {J : aJ} {a ci : Nat} (h : E.2.1 a = (0, ci)) : aEnt cA ad E I J a = .inr (ci, aFs ad E I a (aKd ci)) := by
  unfold aEnt
  rw [h]
  rfl
theorem aEnt_1 {cA : Nat → ClassId} {ad : Nat → Nat} {E : aE} {I : aI} {J : aJ} {a : Nat} (h : (E.2.1 a).1 = 1) : aEnt cA ad E I J a = .inl (cA 1, (E.2.1 a).2, .inl (I a)) := by
  unfold aEnt
  rw [h]
  rfl
theorem aEnt_2 {cA : Nat → ClassId} {ad : Nat → Nat} {E : aE} {I : aI} {J : aJ} {a : Nat} (h : (E.2.1 a).1 = 2) : aEnt cA ad E I J a = .inl (cA 2, (E.2.1 a).2, .inr (.inl (J a))) := by
  unfold aEnt
  rw [h]
  rfl
theorem aEnt_3 {cA : Nat → ClassId} {ad : Nat → Nat} {E : aE} {I : aI} {J : aJ} {a : Nat} (h : (E.2.1 a).1 = 3) : aEnt cA ad E I J a = .inl (cA 3, (E.2.1 a).2, .inl (I a)) := by
  unfold aEnt
  rw [h]
  rfl
theorem aEnt_4 {cA : Nat → ClassId} {ad : Nat → Nat} {E : aE} {I : aI} {J : aJ} {a : Nat} (h : (E.2.1 a).1 = 4) : aEnt cA ad E I J a = .inl (cA 4, (E.2.1 a).2, .inr (.inr (.inr (.inr (fun j => aRef ad (E.2.2 a j)))))) := by
  unfold aEnt
  rw [h]
  rfl
theorem aEnt_5 {cA : Nat → ClassId} {ad : Nat → Nat} {E : aE} {I : aI} {J : aJ} {a : Nat} (h : (E.2.1 a).1 = 5) : aEnt cA ad E I J a = .inl (cA 5, (E.2.1 a).2, .inr (.inr (.inr (.inr (fun j => aRef ad (E.2.2 a j)))))) := by
  unfold aEnt
  rw [h]
  rfl
/-- an entry hangs on its own rows alone -/
theorem aEnt_eq {cA : Nat → ClassId} {ad ad' : Nat → Nat} {E E' : aE} {I I' : aI} {J J' : aJ} {b : Nat} (hs : E'.2.1 b = E.2.1 b) (hr : ∀ j, aRef ad' (E'.2.2 b j) = aRef ad (E.2.2 b j)) (hI : I' b = I b) (hJ : J' b = J b) : aEnt cA ad' E' I' J' b = aEnt cA ad E I J b := by
  have hf : ∀ ks, aFs ad' E' I' b ks = aFs ad E I b ks := fun ks => by
    unfold aFs
    apply List.map_congr_left
    intro k _
    rw [hI, hr k]
  unfold aEnt
  rw [hs, hI, hJ, hf]
  simp only [hr]
/-- the words that hold wherever the machine is -/
def lw_tbg : List Cond := lw_tbl.filter goodWord
theorem in_tbg {w : Cond} (i : Nat) (h : lw_tbl[i]? = some w) (hg : goodWord w = true) : w ∈ lw_tbg := List.mem_filter.mpr ⟨List.mem_of_getElem? h, hg⟩
theorem va_AOA.moved {ty : FieldType} {u U : State} (hvm : u.vm.Alike U.vm) (h : va_AOA ty u) : va_AOA ty U := (Cond.arrayOver_setVmC (args := #[]) hvm (.array ty)).trans h
/-- the array kinds of the tables -/
def aTys (cA : Nat → ClassId) : List (ClassId × FieldType) := [(cA 1, .int), (cA 2, .long), (cA 3, .boolean), (cA 4, .object "MarkovChainDistances$Chain"), (cA 5, .array .long)]
/-- what the tables say of classes and arrays -/
def aTb (D : va_G) (cA : Nat → ClassId) (U : State) : Prop := va_K D vwCl (aTys cA) U ∧ va_AO "MarkovChainDistances$Chain" U ∧ va_AOA .long U
theorem aTb.moved {D : va_G} {cA : Nat → ClassId} {u U : State} (hvm : u.vm.Alike U.vm) (h : aTb D cA u) : aTb D cA U := ⟨va_K.moved hvm h.1, va_AO.moved hvm h.2.1, va_AOA.moved hvm h.2.2⟩
def aCtx (γ : aM) (d mc ms : Nat) (p : Program) (R : Room) (s : State) (m : MethodId) (args : Array Value) (meth : Method) (c : Code) (D : va_G) (cA : Nat → ClassId) (A : Nat → Prop) (ad0 : Nat → Nat) : Prop :=
  p.tables.exec = Jvm.exec ∧ c.code = γ.2.1 ∧ c.maxLocals = γ.2.2.1 ∧ meth.sig.returnType = γ.2.2.2.1 ∧ s.vm.findClass γ.1.cls = some m.cls ∧ (∀ w ∈ lw_tbg, w.before args s = true) ∧ meth.locks = false ∧ meth.name = γ.1.name ∧ (R.frames = d ∧ R.locals = 39 * d ∧ R.cells = mc ∧ R.slots = ms) ∧ aTb D cA s ∧ (∀ q, s.heap.size ≤ q → A q) ∧ (∀ L xs, γ.2.2.2.2 = some (L, xs) → va_X (ad0 0) L xs s s.heap ∧ ad0 0 < s.heap.size ∧ ¬ A (ad0 0))
def aW (γ : aM) (mc ms : Nat) (al : Nat × Nat) (p : Program) (l : Launch) (e : Env) (R : Room) (s : State) (m : MethodId) (args : Array Value) (below : List Frame) (meth : Method) (c : Code) (Q : State → Prop) (D : va_G) (cA : Nat → ClassId) (A : Nat → Prop) (ad0 : Nat → Nat) (n0 pc : Nat) (lo : aLo) (st : List Value) (E : aE) (I : aI) (J : aJ) : Prop :=
  ∀ (ad : Nat → Nat) (H : Heap) (locs : List Loc) (ls : Array Slot) (cells slots : Nat), n0 ≤ E.1 → (∀ r, r ≤ n0 ∨ E.1 < r → ad r = ad0 r) → aL ad ls γ.2.2.1 lo → va_P D vwCl (aWs cA ad E I J) H → va_D A (aWs cA ad E I J) → va_S A s.heap H locs → cells + al.1 ≤ mc → slots + al.2 ≤ ms → W p l e R s m args below meth c H locs cells slots Q (F0 m pc ls (st.map (tv ad)))
def aAll : List Prop → Prop
  | [] => True
  | [p] => p
  | p :: q :: r => p ∧ aAll (q :: r)
theorem aAll_cons {p : Prop} {ps : List Prop} (h : aAll (p :: ps)) : p ∧ aAll ps := by
  cases ps with
  | nil => exact ⟨h, trivial⟩
  | cons q r => exact h
theorem aAll_app : ∀ {ps qs : List Prop}, aAll (ps ++ qs) → aAll ps ∧ aAll qs
  | [], _, h => ⟨trivial, h⟩
  | p :: ps, qs, h => by
    have h1 := aAll_cons (ps := ps ++ qs) h
    have h2 := aAll_app h1.2
    refine ⟨?_, h2.2⟩
    cases ps with
    | nil => exact h1.1
    | cons q r => exact ⟨h1.1, h2.1⟩
def OpOK (γ : aM) (pc : Nat) (op : aOp) (pc' : Nat) : Prop := ∀ (d mc ms : Nat) (al : Nat × Nat) (p : Program) (l : Launch) (e : Env) (R : Room) (s : State) (m : MethodId) (args : Array Value) (below : List Frame) (meth : Method) (c : Code) (Q : State → Prop) (D : va_G) (cA : Nat → ClassId) (A : Nat → Prop) (ad0 : Nat → Nat) (n0 : Nat), aCtx γ (d + 1) mc ms p R s m args meth c D cA A ad0 → ∀ (lo : aLo) (st : List Value) (E : aE) (I : aI) (J : aJ) (t : aS) (Ps : List Prop), op E (lo, st, I, J) = some (t, Ps) → aAll Ps → aW γ mc ms al p l e R s m args below meth c Q D cA A ad0 n0 pc' t.1 t.2.1 E t.2.2.1 t.2.2.2 → aW γ mc ms al p l e R s m args below meth c Q D cA A ad0 n0 pc lo st E I J
def aRun (E : aE) : List aOp → aS → Option (aS × List Prop)
  | [], s => some (s, [])
  | o :: os, s => match o E s with
    | none => none
    | some (s', ps) => match aRun E os s' with
      | none => none
      | some (s2, qs) => some (s2, ps ++ qs)
/-- a stretch of instructions -/
def Blk (γ : aM) : Nat → List aOp → Nat → Prop
  | pc, [], pc' => pc = pc'
  | pc, o :: os, pc' => ∃ pc1, OpOK γ pc o pc1 ∧ Blk γ pc1 os pc'
theorem Blk.nil {γ : aM} {pc : Nat} : Blk γ pc [] pc := rfl
theorem Blk.cons {γ : aM} {pc pc1 pc' : Nat} {o : aOp} {os : List aOp} (h : OpOK γ pc o pc1) (k : Blk γ pc1 os pc') : Blk γ pc (o :: os) pc' := ⟨pc1, h, k⟩
theorem Blk.ok {γ : aM} : ∀ {os : List aOp} {pc pc' : Nat}, Blk γ pc os pc' → OpOK γ pc (fun E s => aRun E os s) pc'
  | [], pc, pc', h => by
    intro d mc ms al p l e R s m args below meth c Q D cA A ad0 n0 C lo st E I J t Ps hop hps hw
    cases h
    cases hop
    exact hw
  | o :: os, pc, pc', h => by
    obtain ⟨pc1, h1, h2⟩ := h
    intro d mc ms al p l e R s m args below meth c Q D cA A ad0 n0 C lo st E I J t Ps hop hps hw
    simp only [aRun] at hop
    split at hop
    · cases hop
    · rename_i s1 ps e1
      split at hop
      · cases hop
      · rename_i s2 qs e2
        cases hop
        obtain ⟨ha, hb⟩ := aAll_app hps
        obtain ⟨lo1, st1, I1, J1⟩ := s1
        exact h1 d mc ms al p l e R s m args below meth c Q D cA A ad0 n0 C lo st E I J _ _ e1 ha (Blk.ok h2 d mc ms al p l e R s m args below meth c Q D cA A ad0 n0 C lo1 st1 E I1 J1 _ _ e2 hb hw)
/-- what a method answers and leaves -/
abbrev aPost : Type := Option Value → aE → aI → aJ → Prop
def aQc (Q : aPost) (D : va_G) (cA : Nat → ClassId) (A : Nat → Prop) (ad0 : Nat → Nat) (n0 : Nat) : Array Value → State → Outcome → State → Prop := fun _ st o t => (∃ (r : Option Value) (E' : aE) (I' : aI) (J' : aJ) (ad' : Nat → Nat), o = .returned (r.map (tv ad')) ∧ Q r E' I' J' ∧ n0 ≤ E'.1 ∧ (∀ r, r ≤ n0 ∨ E'.1 < r → ad' r = ad0 r) ∧ va_P D vwCl (aWs cA ad' E' I' J') t.heap ∧ va_D A (aWs cA ad' E' I' J')) ∧ va_F A st t
/-- from here the method comes to its end, and Q holds of its answer and of the heap -/
def Ex (γ : aM) (d mc ms n0 : Nat) (al : Nat × Nat) (pc : Nat) (lo : aLo) (st : List Value) (E : aE) (I : aI) (J : aJ) (Q : aPost) : Prop := ∀ (p : Program) (l : Launch) (e : Env) (R : Room) (s : State) (m : MethodId) (args : Array Value) (below : List Frame) (meth : Method) (c : Code) (D : va_G) (cA : Nat → ClassId) (A : Nat → Prop) (ad0 : Nat → Nat), aCtx γ d mc ms p R s m args meth c D cA A ad0 → aW γ mc ms al p l e R s m args below meth c (MQ below (aQc Q D cA A ad0 n0) args s mc ms A) D cA A ad0 n0 pc lo st E I J
theorem Ex.blk {γ : aM} {d mc ms n0 : Nat} {al : Nat × Nat} {pc pc' : Nat} {os : List aOp} (h : Blk γ pc os pc') {lo lo' : aLo} {st st' : List Value} {E : aE} {I I' : aI} {J J' : aJ} {Ps : List Prop} {Q : aPost} (hr : aRun E os (lo, st, I, J) = some ((lo', st', I', J'), Ps)) (hp : aAll Ps) (k : Ex γ (d + 1) mc ms n0 al pc' lo' st' E I' J' Q) : Ex γ (d + 1) mc ms n0 al pc lo st E I J Q :=
  fun p l e R s m args below meth c D cA A ad0 C => h.ok d mc ms al p l e R s m args below meth c _ D cA A ad0 n0 C lo st E I J _ Ps hr hp (k p l e R s m args below meth c D cA A ad0 C)
theorem Ex.conseq {γ : aM} {d mc ms n0 : Nat} {al : Nat × Nat} {pc : Nat} {lo : aLo} {st : List Value} {E : aE} {I : aI} {J : aJ} {Q Q' : aPost} (h : Ex γ d mc ms n0 al pc lo st E I J Q) (hq : ∀ r E' I' J', Q r E' I' J' → Q' r E' I' J') : Ex γ d mc ms n0 al pc lo st E I J Q' := by
  intro p l e R s m args below meth c D cA A ad0 C ad H locs ls cells slots h1 h2 hl hP hD hS hc hs T hT X
  obtain ⟨t, a1, o, b1, b2, ⟨⟨r, E', I', J', ad', c1, c2, c3⟩, b4⟩, b5⟩ := h p l e R s m args below meth c D cA A ad0 C ad H locs ls cells slots h1 h2 hl hP hD hS hc hs T hT X
  exact ⟨t, a1, o, b1, b2, ⟨⟨r, E', I', J', ad', c1, hq _ _ _ _ c2, c3⟩, b4⟩, b5⟩

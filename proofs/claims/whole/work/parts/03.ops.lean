/-! INSTRUCTIONS AS FUNCTIONS, and that the machine does them -/
def o_pure (g : List Value → Option (List Value)) : aOp := fun _ s => match g s.2.1 with
  | some st' => some ((s.1, st', s.2.2), [])
  | none => none
def PStep (γ : aM) (pc : Nat) (g : List Value → Option (List Value)) (pc' : Nat) : Prop := ∀ (p : Program) (l : Launch) (e : Env) (R : Room) (s : State) (m : MethodId) (args : Array Value) (below : List Frame) (meth : Method) (c : Code) (H : Heap) (locs : List Loc) (cells slots : Nat) (Q : State → Prop) (ls : Array Slot) (ad : Nat → Nat), p.tables.exec = Jvm.exec → c.code = γ.2.1 → s.vm.findClass γ.1.cls = some m.cls → (∀ w ∈ lw_tbg, w.before args s = true) → c.maxLocals = ls.size → 1 ≤ R.frames → 39 ≤ R.locals → cells ≤ R.cells → slots ≤ R.slots → ∀ st st', g st = some st' → W p l e R s m args below meth c H locs cells slots Q (F0 m pc' ls (st'.map (tv ad))) → W p l e R s m args below meth c H locs cells slots Q (F0 m pc ls (st.map (tv ad)))
theorem ok_pure {γ : aM} {pc pc' : Nat} {g : List Value → Option (List Value)} (h : PStep γ pc g pc') : OpOK γ pc (o_pure g) pc' := by
  intro d mc ms al p l e R s m args below meth c Q D cA A ad0 n0 C lo st E I J t Ps hop hps hw ad H locs ls cells slots h1 h2 hl hP hD hS hc hs
  obtain ⟨hx, hb, hml, hr, hown, hts, hlk, hnm, ⟨hf, hlo, hrc, hrs⟩, ⟨hK, hAO⟩, hA, hX⟩ := C
  unfold o_pure at hop
  split at hop
  · rename_i st' hg
    cases hop
    exact h p l e R s m args below meth c H locs cells slots _ ls ad hx hb hown hts (hml.trans hl.2.1.symm) (by omega) (by omega) (by omega) (by omega) st st' hg (hw ad H locs ls cells slots h1 h2 hl hP hD hS hc hs)
  · cases hop
def g_push (v : Value) : List Value → Option (List Value) := fun st => some (v :: st)
def g_ii (f : Int32 → Int32 → Int32) : List Value → Option (List Value) := fun st => match st with
  | .int y :: .int x :: r => some (.int (f x y) :: r)
  | _ => none
def g_ll (f : Int64 → Int64 → Int64) : List Value → Option (List Value) := fun st => match st with
  | .long y :: .long x :: r => some (.long (f x y) :: r)
  | _ => none
def g_lsh (f : Int64 → Int32 → Int64) : List Value → Option (List Value) := fun st => match st with
  | .int y :: .long x :: r => some (.long (f x y) :: r)
  | _ => none
def g_i (f : Int32 → Int32) : List Value → Option (List Value) := fun st => match st with
  | .int x :: r => some (.int (f x) :: r)
  | _ => none
def g_il (f : Int32 → Int64) : List Value → Option (List Value) := fun st => match st with
  | .int x :: r => some (.long (f x) :: r)
  | _ => none
def g_li (f : Int64 → Int32) : List Value → Option (List Value) := fun st => match st with
  | .long x :: r => some (.int (f x) :: r)
  | _ => none
def g_cmp : List Value → Option (List Value) := fun st => match st with
  | .long y :: .long x :: r => some (.int (lg_cmp x y) :: r)
  | _ => none
def g_dup : List Value → Option (List Value) := fun st => match st with
  | v :: r => if v.category = 1 then some (v :: v :: r) else none
  | _ => none
def g_dup2 : List Value → Option (List Value) := fun st => match st with
  | v :: w :: r => if v.category = 1 ∧ w.category = 1 then some (v :: w :: v :: w :: r) else none
  | _ => none
def g_pop : List Value → Option (List Value) := fun st => match st with
  | v :: r => if v.category = 1 then some r else none
  | _ => none
def g_pop2 : List Value → Option (List Value) := fun st => match st with
  | v :: r => if v.category = 2 then some r else none
  | _ => none
def g_id : List Value → Option (List Value) := fun st => some st
def aSm (st : List Value) : Nat := (st.map fun v => v.category).sum
theorem aSm_tv (ad : Nat → Nat) (st : List Value) : ((st.map (tv ad)).map fun v => v.category).sum = aSm st := by
  unfold aSm
  rw [List.map_map]
  congr 1
  apply List.map_congr_left
  intro v _
  exact tv_cat ad v
def g_m2 (f : Int32 → Int32 → Int32) : List Value → Option (List Value) := fun st => match st with
  | .int y :: .int x :: r => if aSm r ≤ 8 then some (.int (f x y) :: r) else none
  | _ => none
def g_m1 (f : Int32 → Int32) : List Value → Option (List Value) := fun st => match st with
  | .int x :: r => if aSm r ≤ 8 then some (.int (f x) :: r) else none
  | _ => none
def g_oi : List Value → Option (List Value) := fun st => match st with
  | .ref _ :: r => if aSm r ≤ 8 then some r else none
  | _ => none
theorem ok_iconst {γ : aM} {pc : Nat} {n : Int} {v : Int32} (hdg : decode γ.2.1 pc = .ok (.iconst n, 1)) (hv : Int32.ofInt n = v) : OpOK γ pc (o_pure (g_push (.int v))) (pc + 1) := ok_pure (by
  intro p l e R s m args below meth c H locs cells slots Q ls ad hx hb hown hts hml hf hlo hrc hrs st st' hg k
  cases hg
  exact lv_iconst hx hb hdg hv k)
theorem ok_bipush {γ : aM} {pc : Nat} {n : Int} {v : Int32} (hdg : decode γ.2.1 pc = .ok (.bipush n, 2)) (hv : (Int8.ofInt n).toInt32 = v) : OpOK γ pc (o_pure (g_push (.int v))) (pc + 2) := ok_pure (by
  intro p l e R s m args below meth c H locs cells slots Q ls ad hx hb hown hts hml hf hlo hrc hrs st st' hg k
  cases hg
  exact lv_bipush hx hb hdg hv k)
theorem ok_sipush {γ : aM} {pc : Nat} {n : Int} {v : Int32} (hdg : decode γ.2.1 pc = .ok (.sipush n, 3)) (hv : (Int16.ofInt n).toInt32 = v) : OpOK γ pc (o_pure (g_push (.int v))) (pc + 3) := ok_pure (by
  intro p l e R s m args below meth c H locs cells slots Q ls ad hx hb hown hts hml hf hlo hrc hrs st st' hg k
  cases hg
  exact lv_sipush hx hb hdg hv k)
theorem ok_lconst {γ : aM} {pc : Nat} {n : Fin 2} {v : Int64} (hdg : decode γ.2.1 pc = .ok (.lconst n, 1)) (hv : Int64.ofNat (n : Nat) = v) : OpOK γ pc (o_pure (g_push (.long v))) (pc + 1) := ok_pure (by
  intro p l e R s m args below meth c H locs cells slots Q ls ad hx hb hown hts hml hf hlo hrc hrs st st' hg k
  cases hg
  exact lv_lconst hx hb hdg hv k)
theorem ok_ldc {γ : aM} {pc : Nat} {i : Nat} {v : Int32} (hdg : decode γ.2.1 pc = .ok (.ldc i, 2)) (hw : Cond.constant γ.1.cls i v ∈ lw_tbg) : OpOK γ pc (o_pure (g_push (.int v))) (pc + 2) := ok_pure (by
  intro p l e R s m args below meth c H locs cells slots Q ls ad hx hb hown hts hml hf hlo hrc hrs st st' hg k
  cases hg
  exact lv_ldc hx hb hown (hts _ hw) hdg k)
theorem ok_ldc2 {γ : aM} {pc : Nat} {i : Nat} {v : Int64} (hdg : decode γ.2.1 pc = .ok (.ldc2_w i, 3)) (hw : Cond.constantLong γ.1.cls i v ∈ lw_tbg) : OpOK γ pc (o_pure (g_push (.long v))) (pc + 3) := ok_pure (by
  intro p l e R s m args below meth c H locs cells slots Q ls ad hx hb hown hts hml hf hlo hrc hrs st st' hg k
  cases hg
  exact lv_ldc2 hx hb hown (hts _ hw) hdg k)
theorem ok_iadd {γ : aM} {pc : Nat} (hdg : decode γ.2.1 pc = .ok (.iadd, 1)) : OpOK γ pc (o_pure (g_ii (fun x y => x + y))) (pc + 1) := ok_pure (by
  intro p l e R s m args below meth c H locs cells slots Q ls ad hx hb hown hts hml hf hlo hrc hrs st st' hg k
  unfold g_ii at hg
  split at hg
  · cases hg
    exact lv_iadd hx hb hdg k
  · cases hg)
theorem ok_isub {γ : aM} {pc : Nat} (hdg : decode γ.2.1 pc = .ok (.isub, 1)) : OpOK γ pc (o_pure (g_ii (fun x y => x - y))) (pc + 1) := ok_pure (by
  intro p l e R s m args below meth c H locs cells slots Q ls ad hx hb hown hts hml hf hlo hrc hrs st st' hg k
  unfold g_ii at hg
  split at hg
  · cases hg
    exact lv_isub hx hb hdg k
  · cases hg)
theorem ok_imul {γ : aM} {pc : Nat} (hdg : decode γ.2.1 pc = .ok (.imul, 1)) : OpOK γ pc (o_pure (g_ii (fun x y => x * y))) (pc + 1) := ok_pure (by
  intro p l e R s m args below meth c H locs cells slots Q ls ad hx hb hown hts hml hf hlo hrc hrs st st' hg k
  unfold g_ii at hg
  split at hg
  · cases hg
    exact lv_imul hx hb hdg k
  · cases hg)
theorem ok_iand {γ : aM} {pc : Nat} (hdg : decode γ.2.1 pc = .ok (.iand, 1)) : OpOK γ pc (o_pure (g_ii (fun x y => x &&& y))) (pc + 1) := ok_pure (by
  intro p l e R s m args below meth c H locs cells slots Q ls ad hx hb hown hts hml hf hlo hrc hrs st st' hg k
  unfold g_ii at hg
  split at hg
  · cases hg
    exact lv_iand hx hb hdg k
  · cases hg)
theorem ok_ishl {γ : aM} {pc : Nat} (hdg : decode γ.2.1 pc = .ok (.ishl, 1)) : OpOK γ pc (o_pure (g_ii (fun x y => x <<< (y &&& 31)))) (pc + 1) := ok_pure (by
  intro p l e R s m args below meth c H locs cells slots Q ls ad hx hb hown hts hml hf hlo hrc hrs st st' hg k
  unfold g_ii at hg
  split at hg
  · cases hg
    exact lv_ishl hx hb hdg k
  · cases hg)
theorem ok_ishr {γ : aM} {pc : Nat} (hdg : decode γ.2.1 pc = .ok (.ishr, 1)) : OpOK γ pc (o_pure (g_ii (fun x y => x >>> (y &&& 31)))) (pc + 1) := ok_pure (by
  intro p l e R s m args below meth c H locs cells slots Q ls ad hx hb hown hts hml hf hlo hrc hrs st st' hg k
  unfold g_ii at hg
  split at hg
  · cases hg
    exact lv_ishr hx hb hdg k
  · cases hg)
theorem ok_iushr {γ : aM} {pc : Nat} (hdg : decode γ.2.1 pc = .ok (.iushr, 1)) : OpOK γ pc (o_pure (g_ii (fun x y => (x.toUInt32 >>> (y.toUInt32 &&& Int32.toUInt32 31)).toInt32))) (pc + 1) := ok_pure (by
  intro p l e R s m args below meth c H locs cells slots Q ls ad hx hb hown hts hml hf hlo hrc hrs st st' hg k
  unfold g_ii at hg
  split at hg
  · cases hg
    exact lv_iushr hx hb hdg rfl k
  · cases hg)
theorem ok_ladd {γ : aM} {pc : Nat} (hdg : decode γ.2.1 pc = .ok (.ladd, 1)) : OpOK γ pc (o_pure (g_ll (fun x y => x + y))) (pc + 1) := ok_pure (by
  intro p l e R s m args below meth c H locs cells slots Q ls ad hx hb hown hts hml hf hlo hrc hrs st st' hg k
  unfold g_ll at hg
  split at hg
  · cases hg
    exact lv_ladd hx hb hdg k
  · cases hg)
theorem ok_lsub {γ : aM} {pc : Nat} (hdg : decode γ.2.1 pc = .ok (.lsub, 1)) : OpOK γ pc (o_pure (g_ll (fun x y => x - y))) (pc + 1) := ok_pure (by
  intro p l e R s m args below meth c H locs cells slots Q ls ad hx hb hown hts hml hf hlo hrc hrs st st' hg k
  unfold g_ll at hg
  split at hg
  · cases hg
    exact lv_lsub hx hb hdg k
  · cases hg)
theorem ok_lmul {γ : aM} {pc : Nat} (hdg : decode γ.2.1 pc = .ok (.lmul, 1)) : OpOK γ pc (o_pure (g_ll (fun x y => x * y))) (pc + 1) := ok_pure (by
  intro p l e R s m args below meth c H locs cells slots Q ls ad hx hb hown hts hml hf hlo hrc hrs st st' hg k
  unfold g_ll at hg
  split at hg
  · cases hg
    exact lv_lmul hx hb hdg k
  · cases hg)
theorem ok_land {γ : aM} {pc : Nat} (hdg : decode γ.2.1 pc = .ok (.land, 1)) : OpOK γ pc (o_pure (g_ll (fun x y => x &&& y))) (pc + 1) := ok_pure (by
  intro p l e R s m args below meth c H locs cells slots Q ls ad hx hb hown hts hml hf hlo hrc hrs st st' hg k
  unfold g_ll at hg
  split at hg
  · cases hg
    exact lv_land hx hb hdg k
  · cases hg)
theorem ok_lor {γ : aM} {pc : Nat} (hdg : decode γ.2.1 pc = .ok (.lor, 1)) : OpOK γ pc (o_pure (g_ll (fun x y => x ||| y))) (pc + 1) := ok_pure (by
  intro p l e R s m args below meth c H locs cells slots Q ls ad hx hb hown hts hml hf hlo hrc hrs st st' hg k
  unfold g_ll at hg
  split at hg
  · cases hg
    exact lv_lor hx hb hdg k
  · cases hg)
theorem ok_lshl {γ : aM} {pc : Nat} (hdg : decode γ.2.1 pc = .ok (.lshl, 1)) : OpOK γ pc (o_pure (g_lsh (fun x y => x <<< (y.toInt64 &&& 63)))) (pc + 1) := ok_pure (by
  intro p l e R s m args below meth c H locs cells slots Q ls ad hx hb hown hts hml hf hlo hrc hrs st st' hg k
  unfold g_lsh at hg
  split at hg
  · cases hg
    exact lv_lshl hx hb hdg rfl k
  · cases hg)
theorem ok_ineg {γ : aM} {pc : Nat} (hdg : decode γ.2.1 pc = .ok (.ineg, 1)) : OpOK γ pc (o_pure (g_i (fun x => -x))) (pc + 1) := ok_pure (by
  intro p l e R s m args below meth c H locs cells slots Q ls ad hx hb hown hts hml hf hlo hrc hrs st st' hg k
  unfold g_i at hg
  split at hg
  · cases hg
    exact lv_ineg hx hb hdg k
  · cases hg)
theorem ok_i2b {γ : aM} {pc : Nat} (hdg : decode γ.2.1 pc = .ok (.i2b, 1)) : OpOK γ pc (o_pure (g_i (fun x => x.toInt8.toInt32))) (pc + 1) := ok_pure (by
  intro p l e R s m args below meth c H locs cells slots Q ls ad hx hb hown hts hml hf hlo hrc hrs st st' hg k
  unfold g_i at hg
  split at hg
  · cases hg
    exact lv_i2b hx hb hdg rfl k
  · cases hg)
theorem ok_i2c {γ : aM} {pc : Nat} (hdg : decode γ.2.1 pc = .ok (.i2c, 1)) : OpOK γ pc (o_pure (g_i (fun x => (x.toUInt32 % 65536).toInt32))) (pc + 1) := ok_pure (by
  intro p l e R s m args below meth c H locs cells slots Q ls ad hx hb hown hts hml hf hlo hrc hrs st st' hg k
  unfold g_i at hg
  split at hg
  · cases hg
    exact lv_i2c hx hb hdg rfl k
  · cases hg)
theorem ok_i2l {γ : aM} {pc : Nat} (hdg : decode γ.2.1 pc = .ok (.i2l, 1)) : OpOK γ pc (o_pure (g_il (fun x => x.toInt64))) (pc + 1) := ok_pure (by
  intro p l e R s m args below meth c H locs cells slots Q ls ad hx hb hown hts hml hf hlo hrc hrs st st' hg k
  unfold g_il at hg
  split at hg
  · cases hg
    exact lv_i2l hx hb hdg rfl k
  · cases hg)
theorem ok_l2i {γ : aM} {pc : Nat} (hdg : decode γ.2.1 pc = .ok (.l2i, 1)) : OpOK γ pc (o_pure (g_li (fun x => x.toInt32))) (pc + 1) := ok_pure (by
  intro p l e R s m args below meth c H locs cells slots Q ls ad hx hb hown hts hml hf hlo hrc hrs st st' hg k
  unfold g_li at hg
  split at hg
  · cases hg
    exact lv_l2i hx hb hdg rfl k
  · cases hg)
theorem ok_lcmp {γ : aM} {pc : Nat} (hdg : decode γ.2.1 pc = .ok (.lcmp, 1)) : OpOK γ pc (o_pure g_cmp) (pc + 1) := ok_pure (by
  intro p l e R s m args below meth c H locs cells slots Q ls ad hx hb hown hts hml hf hlo hrc hrs st st' hg k
  unfold g_cmp at hg
  split at hg
  · cases hg
    exact W.lcmp hx hb hdg k
  · cases hg)
theorem ok_dup {γ : aM} {pc : Nat} (hdg : decode γ.2.1 pc = .ok (.dup, 1)) : OpOK γ pc (o_pure g_dup) (pc + 1) := ok_pure (by
  intro p l e R s m args below meth c H locs cells slots Q ls ad hx hb hown hts hml hf hlo hrc hrs st st' hg k
  unfold g_dup at hg
  split at hg
  · split at hg
    · rename_i hc
      cases hg
      exact lv_dup hx hb hdg (by rw [tv_cat]; exact hc) k
    · cases hg
  · cases hg)
theorem ok_dup2 {γ : aM} {pc : Nat} (hdg : decode γ.2.1 pc = .ok (.dup2, 1)) : OpOK γ pc (o_pure g_dup2) (pc + 1) := ok_pure (by
  intro p l e R s m args below meth c H locs cells slots Q ls ad hx hb hown hts hml hf hlo hrc hrs st st' hg k
  unfold g_dup2 at hg
  split at hg
  · split at hg
    · rename_i hc
      cases hg
      exact lv_dup2_11 hx hb hdg (by rw [tv_cat]; exact hc.1) (by rw [tv_cat]; exact hc.2) k
    · cases hg
  · cases hg)
theorem ok_pop {γ : aM} {pc : Nat} (hdg : decode γ.2.1 pc = .ok (.pop, 1)) : OpOK γ pc (o_pure g_pop) (pc + 1) := ok_pure (by
  intro p l e R s m args below meth c H locs cells slots Q ls ad hx hb hown hts hml hf hlo hrc hrs st st' hg k
  unfold g_pop at hg
  split at hg
  · split at hg
    · rename_i hc
      cases hg
      exact lv_pop hx hb hdg (by rw [tv_cat]; exact hc) k
    · cases hg
  · cases hg)
theorem ok_pop2 {γ : aM} {pc : Nat} (hdg : decode γ.2.1 pc = .ok (.pop2, 1)) : OpOK γ pc (o_pure g_pop2) (pc + 1) := ok_pure (by
  intro p l e R s m args below meth c H locs cells slots Q ls ad hx hb hown hts hml hf hlo hrc hrs st st' hg k
  unfold g_pop2 at hg
  split at hg
  · split at hg
    · rename_i hc
      cases hg
      exact lv_pop2_2 hx hb hdg (by rw [tv_cat]; exact hc) k
    · cases hg
  · cases hg)
theorem ok_goto {γ : aM} {pc : Nat} {off : Int} {tgt : Nat} (hdg : decode γ.2.1 pc = .ok (.goto off, 3)) (ht : (pc : Int) + off = (tgt : Int)) : OpOK γ pc (o_pure g_id) tgt := ok_pure (by
  intro p l e R s m args below meth c H locs cells slots Q ls ad hx hb hown hts hml hf hlo hrc hrs st st' hg k
  cases hg
  exact lv_goto hx hb hdg ht k)
theorem ok_mmin {γ : aM} {pc : Nat} {i : Nat} (hw : Cond.methodLink γ.1.cls i Lib.Math.min.name ∈ lw_tbg) (hw2 : Cond.static Lib.Math.min.name ∈ lw_tbg) (hw3 : Cond.initialized "java/lang/Math" ∈ lw_tbg) (hw4 : Cond.code Lib.Math.min.name Lib.Math.min.code 2 (some .int) ∈ lw_tbg) (hdg : decode γ.2.1 pc = .ok (.invokestatic i, 3)) : OpOK γ pc (o_pure (g_m2 (fun x y => if y < x then y else x))) (pc + 3) := ok_pure (by
  intro p l e R s m args below meth c H locs cells slots Q ls ad hx hb hown hts hml hf hlo hrc hrs st st' hg k
  unfold g_m2 at hg
  split at hg
  · split at hg
    · rename_i hc
      cases hg
      exact va_mmin hx hb hml hown (hts _ hw) (hts _ hw2) (hts _ hw3) (hts _ hw4) hf (by rw [aSm_tv]; omega) hrc hrs hdg k
    · cases hg
  · cases hg)
theorem ok_mmax {γ : aM} {pc : Nat} {i : Nat} (hw : Cond.methodLink γ.1.cls i Lib.Math.max.name ∈ lw_tbg) (hw2 : Cond.static Lib.Math.max.name ∈ lw_tbg) (hw3 : Cond.initialized "java/lang/Math" ∈ lw_tbg) (hw4 : Cond.code Lib.Math.max.name Lib.Math.max.code 2 (some .int) ∈ lw_tbg) (hdg : decode γ.2.1 pc = .ok (.invokestatic i, 3)) : OpOK γ pc (o_pure (g_m2 (fun x y => if x < y then y else x))) (pc + 3) := ok_pure (by
  intro p l e R s m args below meth c H locs cells slots Q ls ad hx hb hown hts hml hf hlo hrc hrs st st' hg k
  unfold g_m2 at hg
  split at hg
  · split at hg
    · rename_i hc
      cases hg
      exact va_mmax hx hb hml hown (hts _ hw) (hts _ hw2) (hts _ hw3) (hts _ hw4) hf (by rw [aSm_tv]; omega) hrc hrs hdg k
    · cases hg
  · cases hg)
theorem ok_mabs {γ : aM} {pc : Nat} {i : Nat} (hw : Cond.methodLink γ.1.cls i Lib.Math.abs.name ∈ lw_tbg) (hw2 : Cond.static Lib.Math.abs.name ∈ lw_tbg) (hw3 : Cond.initialized "java/lang/Math" ∈ lw_tbg) (hw4 : Cond.code Lib.Math.abs.name Lib.Math.abs.code 1 (some .int) ∈ lw_tbg) (hdg : decode γ.2.1 pc = .ok (.invokestatic i, 3)) : OpOK γ pc (o_pure (g_m1 (fun x => if 0 ≤ x then x else 0 - x))) (pc + 3) := ok_pure (by
  intro p l e R s m args below meth c H locs cells slots Q ls ad hx hb hown hts hml hf hlo hrc hrs st st' hg k
  unfold g_m1 at hg
  split at hg
  · split at hg
    · rename_i hc
      cases hg
      exact va_mabs hx hb hml hown (hts _ hw) (hts _ hw2) (hts _ hw3) (hts _ hw4) hf (by rw [aSm_tv]; omega) hrc hrs hdg k
    · cases hg
  · cases hg)
theorem ok_oi {γ : aM} {pc : Nat} {i : Nat} (hw : Cond.methodLink γ.1.cls i Lib.objectInit ∈ lw_tbg) (hw2 : Cond.instanceMethod Lib.objectInit ∈ lw_tbg) (hw3 : Cond.code Lib.objectInit ⟨#[0xb1]⟩ 1 none ∈ lw_tbg) (hdg : decode γ.2.1 pc = .ok (.invokespecial i, 3)) : OpOK γ pc (o_pure g_oi) (pc + 3) := ok_pure (by
  intro p l e R s m args below meth c H locs cells slots Q ls ad hx hb hown hts hml hf hlo hrc hrs st st' hg k
  unfold g_oi at hg
  split at hg
  · split at hg
    · rename_i hc
      cases hg
      exact W.objInit hx hb hown (hts _ hw) (hts _ hw2) (hts _ hw3) rfl hml.symm rfl hdg hf (by rw [aSm_tv]; show 2 * 0 + _ + 12 ≤ _; omega) k
    · cases hg
  · cases hg)
/-! divisions: the divisor isn't 0 -/
def o_dii (f : Int32 → Int32 → Int32) : aOp := fun _ s => match s.2.1 with
  | .int y :: .int x :: r => some ((s.1, .int (f x y) :: r, s.2.2), [¬ y = 0])
  | _ => none
def o_dll (f : Int64 → Int64 → Int64) : aOp := fun _ s => match s.2.1 with
  | .long y :: .long x :: r => some ((s.1, .long (f x y) :: r, s.2.2), [¬ y = 0])
  | _ => none
theorem ok_idiv {γ : aM} {pc : Nat} (hdg : decode γ.2.1 pc = .ok (.idiv, 1)) : OpOK γ pc (o_dii (fun x y => x / y)) (pc + 1) := by
  intro d mc ms al p l e R s m args below meth c Q D cA A ad0 n0 C lo st E I J t Ps hop hps hw ad H locs ls cells slots h1 h2 hl hP hD hS hc hs
  obtain ⟨hx, hb, hml, hr, hown, hts, hlk, hnm, ⟨hf, hlo, hrc, hrs⟩, ⟨hK, hAO⟩, hA, hX⟩ := C
  unfold o_dii at hop
  split at hop
  · rename_i y x r hst
    cases hop
    have hst : st = _ := hst
    subst hst
    exact lv_idiv hx hb hdg hps (hw ad H locs ls cells slots h1 h2 hl hP hD hS hc hs)
  · cases hop
theorem ok_irem {γ : aM} {pc : Nat} (hdg : decode γ.2.1 pc = .ok (.irem, 1)) : OpOK γ pc (o_dii (fun x y => x - x / y * y)) (pc + 1) := by
  intro d mc ms al p l e R s m args below meth c Q D cA A ad0 n0 C lo st E I J t Ps hop hps hw ad H locs ls cells slots h1 h2 hl hP hD hS hc hs
  obtain ⟨hx, hb, hml, hr, hown, hts, hlk, hnm, ⟨hf, hlo, hrc, hrs⟩, ⟨hK, hAO⟩, hA, hX⟩ := C
  unfold o_dii at hop
  split at hop
  · rename_i y x r hst
    cases hop
    have hst : st = _ := hst
    subst hst
    exact lv_irem hx hb hdg hps (hw ad H locs ls cells slots h1 h2 hl hP hD hS hc hs)
  · cases hop
theorem ok_ldiv {γ : aM} {pc : Nat} (hdg : decode γ.2.1 pc = .ok (.ldiv, 1)) : OpOK γ pc (o_dll (fun x y => x / y)) (pc + 1) := by
  intro d mc ms al p l e R s m args below meth c Q D cA A ad0 n0 C lo st E I J t Ps hop hps hw ad H locs ls cells slots h1 h2 hl hP hD hS hc hs
  obtain ⟨hx, hb, hml, hr, hown, hts, hlk, hnm, ⟨hf, hlo, hrc, hrs⟩, ⟨hK, hAO⟩, hA, hX⟩ := C
  unfold o_dll at hop
  split at hop
  · rename_i y x r hst
    cases hop
    have hst : st = _ := hst
    subst hst
    exact lv_ldiv hx hb hdg hps (hw ad H locs ls cells slots h1 h2 hl hP hD hS hc hs)
  · cases hop
theorem ok_lrem {γ : aM} {pc : Nat} (hdg : decode γ.2.1 pc = .ok (.lrem, 1)) : OpOK γ pc (o_dll (fun x y => x - x / y * y)) (pc + 1) := by
  intro d mc ms al p l e R s m args below meth c Q D cA A ad0 n0 C lo st E I J t Ps hop hps hw ad H locs ls cells slots h1 h2 hl hP hD hS hc hs
  obtain ⟨hx, hb, hml, hr, hown, hts, hlk, hnm, ⟨hf, hlo, hrc, hrs⟩, ⟨hK, hAO⟩, hA, hX⟩ := C
  unfold o_dll at hop
  split at hop
  · rename_i y x r hst
    cases hop
    have hst : st = _ := hst
    subst hst
    exact lv_lrem hx hb hdg hps (hw ad H locs ls cells slots h1 h2 hl hP hD hS hc hs)
  · cases hop
/-! locals -/
def o_ild (i : Nat) : aOp := fun _ s => match s.1[i]? with
  | some (some (.int x)) => some ((s.1, .int x :: s.2.1, s.2.2), [])
  | _ => none
theorem ok_iload_n {γ : aM} {pc : Nat} {k : Fin 4} {i : Nat} (hi : (k : Nat) = i) (hdg : decode γ.2.1 pc = .ok (.iload_n k, 1)) : OpOK γ pc (o_ild i) (pc + 1) := by
  intro d mc ms al p l e R s m args below meth c Q D cA A ad0 n0 C lo st E I J t Ps hop hps hw ad H locs ls cells slots h1 h2 hl hP hD hS hc hs
  obtain ⟨hx, hb, hml, hr, hown, hts, hlk, hnm, ⟨hf, hlo, hrc, hrs⟩, ⟨hK, hAO⟩, hA, hX⟩ := C
  unfold o_ild at hop
  split at hop
  · rename_i x hst
    cases hop
    exact lv_iload_n hx hb hdg hi (aL_at hl hst) (hw ad H locs ls cells slots h1 h2 hl hP hD hS hc hs)
  · cases hop
theorem ok_iload {γ : aM} {pc : Nat} {i : Nat} (hdg : decode γ.2.1 pc = .ok (.iload i, 2)) : OpOK γ pc (o_ild i) (pc + 2) := by
  intro d mc ms al p l e R s m args below meth c Q D cA A ad0 n0 C lo st E I J t Ps hop hps hw ad H locs ls cells slots h1 h2 hl hP hD hS hc hs
  obtain ⟨hx, hb, hml, hr, hown, hts, hlk, hnm, ⟨hf, hlo, hrc, hrs⟩, ⟨hK, hAO⟩, hA, hX⟩ := C
  unfold o_ild at hop
  split at hop
  · rename_i x hst
    cases hop
    exact lv_iload hx hb hdg (aL_at hl hst) (hw ad H locs ls cells slots h1 h2 hl hP hD hS hc hs)
  · cases hop
def o_lld (i : Nat) : aOp := fun _ s => match s.1[i]? with
  | some (some (.long x)) => some ((s.1, .long x :: s.2.1, s.2.2), [])
  | _ => none
theorem ok_lload_n {γ : aM} {pc : Nat} {k : Fin 4} {i : Nat} (hi : (k : Nat) = i) (hdg : decode γ.2.1 pc = .ok (.lload_n k, 1)) : OpOK γ pc (o_lld i) (pc + 1) := by
  intro d mc ms al p l e R s m args below meth c Q D cA A ad0 n0 C lo st E I J t Ps hop hps hw ad H locs ls cells slots h1 h2 hl hP hD hS hc hs
  obtain ⟨hx, hb, hml, hr, hown, hts, hlk, hnm, ⟨hf, hlo, hrc, hrs⟩, ⟨hK, hAO⟩, hA, hX⟩ := C
  unfold o_lld at hop
  split at hop
  · rename_i x hst
    cases hop
    exact lv_lload_n hx hb hdg hi (aL_at hl hst) (hw ad H locs ls cells slots h1 h2 hl hP hD hS hc hs)
  · cases hop
theorem ok_lload {γ : aM} {pc : Nat} {i : Nat} (hdg : decode γ.2.1 pc = .ok (.lload i, 2)) : OpOK γ pc (o_lld i) (pc + 2) := by
  intro d mc ms al p l e R s m args below meth c Q D cA A ad0 n0 C lo st E I J t Ps hop hps hw ad H locs ls cells slots h1 h2 hl hP hD hS hc hs
  obtain ⟨hx, hb, hml, hr, hown, hts, hlk, hnm, ⟨hf, hlo, hrc, hrs⟩, ⟨hK, hAO⟩, hA, hX⟩ := C
  unfold o_lld at hop
  split at hop
  · rename_i x hst
    cases hop
    exact lv_lload hx hb hdg (aL_at hl hst) (hw ad H locs ls cells slots h1 h2 hl hP hD hS hc hs)
  · cases hop
def o_ald (i : Nat) : aOp := fun _ s => match s.1[i]? with
  | some (some (.ref x)) => some ((s.1, .ref x :: s.2.1, s.2.2), [])
  | _ => none
theorem ok_aload_n {γ : aM} {pc : Nat} {k : Fin 4} {i : Nat} (hi : (k : Nat) = i) (hdg : decode γ.2.1 pc = .ok (.aload_n k, 1)) : OpOK γ pc (o_ald i) (pc + 1) := by
  intro d mc ms al p l e R s m args below meth c Q D cA A ad0 n0 C lo st E I J t Ps hop hps hw ad H locs ls cells slots h1 h2 hl hP hD hS hc hs
  obtain ⟨hx, hb, hml, hr, hown, hts, hlk, hnm, ⟨hf, hlo, hrc, hrs⟩, ⟨hK, hAO⟩, hA, hX⟩ := C
  unfold o_ald at hop
  split at hop
  · rename_i x hst
    cases hop
    exact lv_aload_n hx hb hdg hi (aL_at hl hst) (hw ad H locs ls cells slots h1 h2 hl hP hD hS hc hs)
  · cases hop
theorem ok_aload {γ : aM} {pc : Nat} {i : Nat} (hdg : decode γ.2.1 pc = .ok (.aload i, 2)) : OpOK γ pc (o_ald i) (pc + 2) := by
  intro d mc ms al p l e R s m args below meth c Q D cA A ad0 n0 C lo st E I J t Ps hop hps hw ad H locs ls cells slots h1 h2 hl hP hD hS hc hs
  obtain ⟨hx, hb, hml, hr, hown, hts, hlk, hnm, ⟨hf, hlo, hrc, hrs⟩, ⟨hK, hAO⟩, hA, hX⟩ := C
  unfold o_ald at hop
  split at hop
  · rename_i x hst
    cases hop
    exact lv_aload hx hb hdg (aL_at hl hst) (hw ad H locs ls cells slots h1 h2 hl hP hD hS hc hs)
  · cases hop
def o_ist (i : Nat) : aOp := fun _ s => match s.2.1 with
  | .int x :: r => if aOk1 s.1 i = true ∧ i < s.1.length then some ((s.1.set i (some (.int x)), r, s.2.2), []) else none
  | _ => none
theorem ok_istore_n {γ : aM} {pc : Nat} {k : Fin 4} {i : Nat} (hi : (k : Nat) = i) (hdg : decode γ.2.1 pc = .ok (.istore_n k, 1)) : OpOK γ pc (o_ist i) (pc + 1) := by
  intro d mc ms al p l e R s m args below meth c Q D cA A ad0 n0 C lo st E I J t Ps hop hps hw ad H locs ls cells slots h1 h2 hl hP hD hS hc hs
  obtain ⟨hx, hb, hml, hr, hown, hts, hlk, hnm, ⟨hf, hlo, hrc, hrs⟩, ⟨hK, hAO⟩, hA, hX⟩ := C
  unfold o_ist at hop
  split at hop
  · rename_i x r hst
    have hst : st = _ := hst
    subst hst
    split at hop
    · rename_i hq
      cases hop
      have hq : aOk1 lo i = true ∧ i < lo.length := hq
      exact lv_istore_n hx hb hdg hi hl.2 (by rw [← hl.1]; exact hq.2) rfl (fun ls' h' => hw ad H locs ls' cells slots h1 h2 (aL_st1 (v := .int x) hl hq.1 h') hP hD hS hc hs)
    · cases hop
  · cases hop
theorem ok_istore {γ : aM} {pc : Nat} {i : Nat} (hdg : decode γ.2.1 pc = .ok (.istore i, 2)) : OpOK γ pc (o_ist i) (pc + 2) := by
  intro d mc ms al p l e R s m args below meth c Q D cA A ad0 n0 C lo st E I J t Ps hop hps hw ad H locs ls cells slots h1 h2 hl hP hD hS hc hs
  obtain ⟨hx, hb, hml, hr, hown, hts, hlk, hnm, ⟨hf, hlo, hrc, hrs⟩, ⟨hK, hAO⟩, hA, hX⟩ := C
  unfold o_ist at hop
  split at hop
  · rename_i x r hst
    have hst : st = _ := hst
    subst hst
    split at hop
    · rename_i hq
      cases hop
      have hq : aOk1 lo i = true ∧ i < lo.length := hq
      exact lv_istore hx hb hdg hl.2 (by rw [← hl.1]; exact hq.2) rfl (fun ls' h' => hw ad H locs ls' cells slots h1 h2 (aL_st1 (v := .int x) hl hq.1 h') hP hD hS hc hs)
    · cases hop
  · cases hop
def o_lst (i : Nat) : aOp := fun _ s => match s.2.1 with
  | .long x :: r => if aOk1 s.1 i = true ∧ i + 1 < s.1.length then some (((s.1.set i (some (.long x))).set (i + 1) none, r, s.2.2), []) else none
  | _ => none
theorem ok_lstore_n {γ : aM} {pc : Nat} {k : Fin 4} {i : Nat} (hi : (k : Nat) = i) (hdg : decode γ.2.1 pc = .ok (.lstore_n k, 1)) : OpOK γ pc (o_lst i) (pc + 1) := by
  intro d mc ms al p l e R s m args below meth c Q D cA A ad0 n0 C lo st E I J t Ps hop hps hw ad H locs ls cells slots h1 h2 hl hP hD hS hc hs
  obtain ⟨hx, hb, hml, hr, hown, hts, hlk, hnm, ⟨hf, hlo, hrc, hrs⟩, ⟨hK, hAO⟩, hA, hX⟩ := C
  unfold o_lst at hop
  split at hop
  · rename_i x r hst
    have hst : st = _ := hst
    subst hst
    split at hop
    · rename_i hq
      cases hop
      have hq : aOk1 lo i = true ∧ i + 1 < lo.length := hq
      exact lv_lstore_n hx hb hdg hi hl.2 (by rw [← hl.1]; exact hq.2) rfl (fun ls' h' => hw ad H locs ls' cells slots h1 h2 (aL_st2 (v := .long x) hl hq.1 h') hP hD hS hc hs)
    · cases hop
  · cases hop
theorem ok_lstore {γ : aM} {pc : Nat} {i : Nat} (hdg : decode γ.2.1 pc = .ok (.lstore i, 2)) : OpOK γ pc (o_lst i) (pc + 2) := by
  intro d mc ms al p l e R s m args below meth c Q D cA A ad0 n0 C lo st E I J t Ps hop hps hw ad H locs ls cells slots h1 h2 hl hP hD hS hc hs
  obtain ⟨hx, hb, hml, hr, hown, hts, hlk, hnm, ⟨hf, hlo, hrc, hrs⟩, ⟨hK, hAO⟩, hA, hX⟩ := C
  unfold o_lst at hop
  split at hop
  · rename_i x r hst
    have hst : st = _ := hst
    subst hst
    split at hop
    · rename_i hq
      cases hop
      have hq : aOk1 lo i = true ∧ i + 1 < lo.length := hq
      exact lv_lstore hx hb hdg hl.2 (by rw [← hl.1]; exact hq.2) rfl (fun ls' h' => hw ad H locs ls' cells slots h1 h2 (aL_st2 (v := .long x) hl hq.1 h') hP hD hS hc hs)
    · cases hop
  · cases hop
def o_ast (i : Nat) : aOp := fun _ s => match s.2.1 with
  | .ref x :: r => if aOk1 s.1 i = true ∧ i < s.1.length then some ((s.1.set i (some (.ref x)), r, s.2.2), []) else none
  | _ => none
theorem ok_astore_n {γ : aM} {pc : Nat} {k : Fin 4} {i : Nat} (hi : (k : Nat) = i) (hdg : decode γ.2.1 pc = .ok (.astore_n k, 1)) : OpOK γ pc (o_ast i) (pc + 1) := by
  intro d mc ms al p l e R s m args below meth c Q D cA A ad0 n0 C lo st E I J t Ps hop hps hw ad H locs ls cells slots h1 h2 hl hP hD hS hc hs
  obtain ⟨hx, hb, hml, hr, hown, hts, hlk, hnm, ⟨hf, hlo, hrc, hrs⟩, ⟨hK, hAO⟩, hA, hX⟩ := C
  unfold o_ast at hop
  split at hop
  · rename_i x r hst
    have hst : st = _ := hst
    subst hst
    split at hop
    · rename_i hq
      cases hop
      have hq : aOk1 lo i = true ∧ i < lo.length := hq
      exact lv_astore_n hx hb hdg hi hl.2 (by rw [← hl.1]; exact hq.2) rfl (fun ls' h' => hw ad H locs ls' cells slots h1 h2 (aL_st1 (v := .ref x) hl hq.1 h') hP hD hS hc hs)
    · cases hop
  · cases hop
theorem ok_astore {γ : aM} {pc : Nat} {i : Nat} (hdg : decode γ.2.1 pc = .ok (.astore i, 2)) : OpOK γ pc (o_ast i) (pc + 2) := by
  intro d mc ms al p l e R s m args below meth c Q D cA A ad0 n0 C lo st E I J t Ps hop hps hw ad H locs ls cells slots h1 h2 hl hP hD hS hc hs
  obtain ⟨hx, hb, hml, hr, hown, hts, hlk, hnm, ⟨hf, hlo, hrc, hrs⟩, ⟨hK, hAO⟩, hA, hX⟩ := C
  unfold o_ast at hop
  split at hop
  · rename_i x r hst
    have hst : st = _ := hst
    subst hst
    split at hop
    · rename_i hq
      cases hop
      have hq : aOk1 lo i = true ∧ i < lo.length := hq
      exact lv_astore hx hb hdg hl.2 (by rw [← hl.1]; exact hq.2) rfl (fun ls' h' => hw ad H locs ls' cells slots h1 h2 (aL_st1 (v := .ref x) hl hq.1 h') hP hD hS hc hs)
    · cases hop
  · cases hop
def o_iinc (i : Nat) (n : Int32) : aOp := fun _ s => match s.1[i]? with
  | some (some (.int x)) => if aOk1 s.1 i = true ∧ i < s.1.length then some ((s.1.set i (some (.int (x + n))), s.2), []) else none
  | _ => none
theorem ok_iinc {γ : aM} {pc i : Nat} {z : Int} {n : Int32} (hdg : decode γ.2.1 pc = .ok (.iinc i z, 3)) (hz : Int32.ofInt z = n) : OpOK γ pc (o_iinc i n) (pc + 3) := by
  intro d mc ms al p l e R s m args below meth c Q D cA A ad0 n0 C lo st E I J t Ps hop hps hw ad H locs ls cells slots h1 h2 hl hP hD hS hc hs
  obtain ⟨hx, hb, hml, hr, hown, hts, hlk, hnm, ⟨hf, hlo, hrc, hrs⟩, ⟨hK, hAO⟩, hA, hX⟩ := C
  unfold o_iinc at hop
  split at hop
  · rename_i x hst
    split at hop
    · rename_i hq
      cases hop
      have hq : aOk1 lo i = true ∧ i < lo.length := hq
      obtain ⟨k, hk⟩ := List.getElem?_of_mem (aLs_mem (ad := ad) (q := (i, .int x)).mpr ⟨.int x, hst, rfl⟩)
      exact lv_iinc hx hb hdg hl.2 hk (by rw [hz]) (by rw [← hl.1]; exact hq.2) rfl (fun ls' h' => hw ad H locs ls' cells slots h1 h2 (aL_st1 (v := .int (x + n)) hl hq.1 h') hP hD hS hc hs)
    · cases hop
  · cases hop
/-! fields -/
abbrev aO (E : aE) (a ci : Nat) : Prop := aIs E a ∧ E.2.1 a = (0, ci)
def fOK (own : String) (idx ci k : Nat) (ty : FieldType) (fin : Bool) : Prop := ∃ (C : String) (T : u_T) (N : Nat) (ty0 : Nat → FieldType), vwCl[ci]? = some (C, T, N) ∧ (∀ w ∈ u_ws C T N, w ∈ lw_tbg) ∧ (∀ k, k < N → parseFieldDescriptor (T k).2.2.1 = some (ty0 k)) ∧ (∀ a, a < N → ∀ b, b < N → a ≠ b → (T a).2.1 ≠ (T b).2.1) ∧ k < N ∧ Cond.fieldLink own idx (T k).1 (T k).2.1 (T k).2.2.1 ∈ lw_tbg ∧ ty0 k = ty ∧ (aKd ci).length = N ∧ (T k).2.2.2 = fin
def o_getI (ci k : Nat) : aOp := fun E s => match s.2.1 with
  | .ref a :: r => some ((s.1, .int (s.2.2.1 a k) :: r, s.2.2), [aO E a ci])
  | _ => none
theorem ok_getI {γ : aM} {pc idx ci k : Nat} {ty : FieldType} {fin : Bool} (hf0 : fOK γ.1.cls idx ci k ty fin) (hk : (aKd ci).getD k true = true) (hdg : decode γ.2.1 pc = .ok (.getfield idx, 3)) : OpOK γ pc (o_getI ci k) (pc + 3) := by
  intro d mc ms al p l e R s m args below meth c Q D cA A ad0 n0 C lo st E I J t Ps hop hps hw ad H locs ls cells slots h1 h2 hl hP hD hS hc hs
  obtain ⟨hx, hb, hml, hr, hown, hts, hlk, hnm, ⟨hf, hlo, hrc, hrs⟩, ⟨hK, hAO⟩, hA, hX⟩ := C
  unfold o_getI at hop
  split at hop
  · rename_i a r hst
    have hst : st = _ := hst
    subst hst
    cases hop
    obtain ⟨C, T, N, ty0, q1, q2, q3, q4, q5, q6, q7, q8, q9⟩ := hf0
    have he := aWs_at (cA := cA) (ad := ad) (I := I) (J := J) hps.1
    rw [aEnt_o hps.2] at he
    have hv := aFs_at (ad := ad) (E := E) (I := I) (a := a) (ks := aKd ci) (k := k) (by rw [q8]; exact q5)
    rw [if_pos hk] at hv
    exact va_get hx hb hts q2 hown hK hP (a - 1) he q1 k q5 (hts _ q6) (fun _ h => h) hv hdg (hw ad H locs ls cells slots h1 h2 hl hP hD hS hc hs)
  · cases hop
def o_getR (ci k : Nat) : aOp := fun E s => match s.2.1 with
  | .ref a :: r => some ((s.1, .ref (E.2.2 a k) :: r, s.2.2), [aO E a ci ∧ E.2.2 a k ≠ 0])
  | _ => none
theorem ok_getR {γ : aM} {pc idx ci k : Nat} {ty : FieldType} {fin : Bool} (hf0 : fOK γ.1.cls idx ci k ty fin) (hk : (aKd ci).getD k true = false) (hdg : decode γ.2.1 pc = .ok (.getfield idx, 3)) : OpOK γ pc (o_getR ci k) (pc + 3) := by
  intro d mc ms al p l e R s m args below meth c Q D cA A ad0 n0 C lo st E I J t Ps hop hps hw ad H locs ls cells slots h1 h2 hl hP hD hS hc hs
  obtain ⟨hx, hb, hml, hr, hown, hts, hlk, hnm, ⟨hf, hlo, hrc, hrs⟩, ⟨hK, hAO⟩, hA, hX⟩ := C
  unfold o_getR at hop
  split at hop
  · rename_i a r hst
    have hst : st = _ := hst
    subst hst
    cases hop
    obtain ⟨C, T, N, ty0, q1, q2, q3, q4, q5, q6, q7, q8, q9⟩ := hf0
    have he := aWs_at (cA := cA) (ad := ad) (I := I) (J := J) hps.1.1
    rw [aEnt_o hps.1.2] at he
    have hv := aFs_at (ad := ad) (E := E) (I := I) (a := a) (ks := aKd ci) (k := k) (by rw [q8]; exact q5)
    rw [hk, if_neg (by decide)] at hv
    unfold aRef at hv
    rw [if_neg hps.2] at hv
    exact va_get hx hb hts q2 hown hK hP (a - 1) he q1 k q5 (hts _ q6) (fun _ h => h) hv hdg (hw ad H locs ls cells slots h1 h2 hl hP hD hS hc hs)
  · cases hop
theorem aFs_set {ad : Nat → Nat} {E : aE} {I : aI} {a k : Nat} {ks : List Bool} {v : Int32} (hk : ks.getD k true = true) : (aFs ad E I a ks).set k (.int v) = aFs ad E (aUp I a k v) a ks := by
  apply List.ext_getElem?
  intro j
  by_cases hj : j < ks.length
  · rw [aFs_at hj]
    by_cases e : k = j
    · subst e
      rw [List.getElem?_set_self (by rw [aFs_len]; exact hj), if_pos hk]
      simp [aUp]
    · rw [List.getElem?_set_ne e, aFs_at hj]
      have : aUp I a k v a j = I a j := by unfold aUp; rw [if_neg (fun q => e q.2.symm)]
      rw [this]
  · rw [List.getElem?_eq_none (by rw [List.length_set, aFs_len]; omega), List.getElem?_eq_none (by rw [aFs_len]; omega)]
theorem aUp_ne {I : aI} {a k b : Nat} {v : Int32} (h : b ≠ a) : aUp I a k v b = I b := by
  funext j
  unfold aUp
  rw [if_neg (fun q => h q.1)]
theorem aUpJ_ne {J : aJ} {a k b : Nat} {v : Int64} (h : b ≠ a) : aUpJ J a k v b = J b := by
  funext j
  unfold aUpJ
  rw [if_neg (fun q => h q.1)]
theorem aRw_ne {I : aI} {a b : Nat} {f : Nat → Int32} (h : b ≠ a) : aRw I a f b = I b := by
  funext j
  unfold aRw
  rw [if_neg h]
theorem aRwJ_ne {J : aJ} {a b : Nat} {f : Nat → Int64} (h : b ≠ a) : aRwJ J a f b = J b := by
  funext j
  unfold aRwJ
  rw [if_neg h]
theorem aUp_at {I : aI} {a k : Nat} {v : Int32} : aUp I a k v a = upd (I a) k v := by
  funext j
  simp [aUp, upd]
theorem aUpJ_at {J : aJ} {a k : Nat} {v : Int64} : aUpJ J a k v a = vp_updL (J a) k v := by
  funext j
  simp [aUpJ, vp_updL]
theorem aRw_at {I : aI} {a : Nat} {f : Nat → Int32} : aRw I a f a = f := by
  funext j
  simp [aRw]
theorem aRwJ_at {J : aJ} {a : Nat} {f : Nat → Int64} : aRwJ J a f a = f := by
  funext j
  simp [aRwJ]
def o_putI (ci k : Nat) : aOp := fun E s => match s.2.1 with
  | .int v :: .ref a :: r => some ((s.1, r, aUp s.2.2.1 a k v, s.2.2.2), [aO E a ci])
  | _ => none
def o_putZ (ci k : Nat) : aOp := fun E s => match s.2.1 with
  | .int v :: .ref a :: r => some ((s.1, r, aUp s.2.2.1 a k v, s.2.2.2), [aO E a ci ∧ (v = 0 ∨ v = 1)])
  | _ => none
theorem ok_putI {γ : aM} {pc idx ci k : Nat} (hf0 : fOK γ.1.cls idx ci k .int false) (hk : (aKd ci).getD k true = true) (hdg : decode γ.2.1 pc = .ok (.putfield idx, 3)) : OpOK γ pc (o_putI ci k) (pc + 3) := by
  intro d mc ms al p l e R s m args below meth c Q D cA A ad0 n0 C lo st E I J t Ps hop hps hw ad H locs ls cells slots h1 h2 hl hP hD hS hc hs
  obtain ⟨hx, hb, hml, hr, hown, hts, hlk, hnm, ⟨hf, hlo, hrc, hrs⟩, ⟨hK, hAO⟩, hA, hX⟩ := C
  unfold o_putI at hop
  split at hop
  · rename_i v a r hst
    have hst : st = _ := hst
    subst hst
    cases hop
    obtain ⟨C, T, N, ty0, q1, q2, q3, q4, q5, q6, q7, q8, q9⟩ := hf0
    have he := aWs_at (cA := cA) (ad := ad) (I := I) (J := J) hps.1
    rw [aEnt_o hps.2] at he
    refine va_put (ty := .int) (v := .int v) hx hb hts q2 ty0 q3 q4 hown hK hP hD hS (a - 1) he q1 k q5 (hts _ q6) (fun _ h => h) q9 (by rw [q3 k q5, q7]) rfl rfl (by rw [aFs_len, q8]; exact q5) hdg (fun H1 locs1 hP1 hD1 hS1 => ?_)
    rw [aFs_set hk, aWs_set (E' := E) (I' := aUp I a k v) (J' := J) rfl (aEnt_o hps.2) (fun b hb => aEnt_eq rfl (fun _ => rfl) (aUp_ne hb) rfl) hps.1] at hP1 hD1
    exact hw ad H1 locs1 ls cells slots h1 h2 hl hP1 hD1 hS1 hc hs
  · cases hop
theorem ok_putZ {γ : aM} {pc idx ci k : Nat} (hf0 : fOK γ.1.cls idx ci k .boolean false) (hk : (aKd ci).getD k true = true) (hdg : decode γ.2.1 pc = .ok (.putfield idx, 3)) : OpOK γ pc (o_putZ ci k) (pc + 3) := by
  intro d mc ms al p l e R s m args below meth c Q D cA A ad0 n0 C lo st E I J t Ps hop hps hw ad H locs ls cells slots h1 h2 hl hP hD hS hc hs
  obtain ⟨hx, hb, hml, hr, hown, hts, hlk, hnm, ⟨hf, hlo, hrc, hrs⟩, ⟨hK, hAO⟩, hA, hX⟩ := C
  unfold o_putZ at hop
  split at hop
  · rename_i v a r hst
    have hst : st = _ := hst
    subst hst
    cases hop
    obtain ⟨C, T, N, ty0, q1, q2, q3, q4, q5, q6, q7, q8, q9⟩ := hf0
    have he := aWs_at (cA := cA) (ad := ad) (I := I) (J := J) hps.1.1
    rw [aEnt_o hps.1.2] at he
    refine va_put (ty := .boolean) (v := .int v) hx hb hts q2 ty0 q3 q4 hown hK hP hD hS (a - 1) he q1 k q5 (hts _ q6) (fun _ h => h) q9 (by rw [q3 k q5, q7]) (by rcases hps.2 with rfl | rfl <;> rfl) (by rcases hps.2 with rfl | rfl <;> rfl) (by rw [aFs_len, q8]; exact q5) hdg (fun H1 locs1 hP1 hD1 hS1 => ?_)
    rw [aFs_set hk, aWs_set (E' := E) (I' := aUp I a k v) (J' := J) rfl (aEnt_o hps.1.2) (fun b hb => aEnt_eq rfl (fun _ => rfl) (aUp_ne hb) rfl) hps.1.1] at hP1 hD1
    exact hw ad H1 locs1 ls cells slots h1 h2 hl hP1 hD1 hS1 hc hs
  · cases hop
/-! arrays -/
abbrev aAr (E : aE) (k a : Nat) (i : Int32) : Prop := aIs E a ∧ (E.2.1 a).1 = k ∧ vp_in i (E.2.1 a).2
abbrev aCp (E : aE) (k a0 a : Nat) (sp dp n : Int32) : Prop := aIs E a0 ∧ aIs E a ∧ (E.2.1 a0).1 = k ∧ (E.2.1 a).1 = k ∧ (¬ sp < 0 ∧ ¬ dp < 0 ∧ ¬ n < 0) ∧ sp.toNatClampNeg + n.toNatClampNeg ≤ (E.2.1 a0).2 ∧ dp.toNatClampNeg + n.toNatClampNeg ≤ (E.2.1 a).2
def o_iald : aOp := fun E s => match s.2.1 with
  | .int i :: .ref a :: r => some ((s.1, .int (s.2.2.1 a i.toNatClampNeg) :: r, s.2.2), [aAr E 1 a i])
  | _ => none
theorem ok_iaload {γ : aM} {pc : Nat} (hdg : decode γ.2.1 pc = .ok (.iaload, 1)) : OpOK γ pc o_iald (pc + 1) := by
  intro d mc ms al p l e R s m args below meth c Q D cA A ad0 n0 C lo st E I J t Ps hop hps hw ad H locs ls cells slots h1 h2 hl hP hD hS hc hs
  obtain ⟨hx, hb, hml, hr, hown, hts, hlk, hnm, ⟨hf, hlo, hrc, hrs⟩, ⟨hK, hAO⟩, hA, hX⟩ := C
  unfold o_iald at hop
  split at hop
  · rename_i i a r hst
    have hst : st = _ := hst
    subst hst
    cases hop
    have he := aWs_at (cA := cA) (ad := ad) (I := I) (J := J) hps.1
    rw [aEnt_1 hps.2.1] at he
    exact va_iald hx hb hK hP (a - 1) 0 he rfl hps.2.2 hdg (hw ad H locs ls cells slots h1 h2 hl hP hD hS hc hs)
  · cases hop
def o_lald : aOp := fun E s => match s.2.1 with
  | .int i :: .ref a :: r => some ((s.1, .long (s.2.2.2 a i.toNatClampNeg) :: r, s.2.2), [aAr E 2 a i])
  | _ => none
theorem ok_laload {γ : aM} {pc : Nat} (hdg : decode γ.2.1 pc = .ok (.laload, 1)) : OpOK γ pc o_lald (pc + 1) := by
  intro d mc ms al p l e R s m args below meth c Q D cA A ad0 n0 C lo st E I J t Ps hop hps hw ad H locs ls cells slots h1 h2 hl hP hD hS hc hs
  obtain ⟨hx, hb, hml, hr, hown, hts, hlk, hnm, ⟨hf, hlo, hrc, hrs⟩, ⟨hK, hAO⟩, hA, hX⟩ := C
  unfold o_lald at hop
  split at hop
  · rename_i i a r hst
    have hst : st = _ := hst
    subst hst
    cases hop
    have he := aWs_at (cA := cA) (ad := ad) (I := I) (J := J) hps.1
    rw [aEnt_2 hps.2.1] at he
    exact va_lald hx hb hK hP (a - 1) 1 he rfl hps.2.2 hdg (hw ad H locs ls cells slots h1 h2 hl hP hD hS hc hs)
  · cases hop
def o_zald : aOp := fun E s => match s.2.1 with
  | .int i :: .ref a :: r => some ((s.1, .int (s.2.2.1 a i.toNatClampNeg) :: r, s.2.2), [aAr E 3 a i])
  | _ => none
theorem ok_baload {γ : aM} {pc : Nat} (hdg : decode γ.2.1 pc = .ok (.baload, 1)) : OpOK γ pc o_zald (pc + 1) := by
  intro d mc ms al p l e R s m args below meth c Q D cA A ad0 n0 C lo st E I J t Ps hop hps hw ad H locs ls cells slots h1 h2 hl hP hD hS hc hs
  obtain ⟨hx, hb, hml, hr, hown, hts, hlk, hnm, ⟨hf, hlo, hrc, hrs⟩, ⟨hK, hAO⟩, hA, hX⟩ := C
  unfold o_zald at hop
  split at hop
  · rename_i i a r hst
    have hst : st = _ := hst
    subst hst
    cases hop
    have he := aWs_at (cA := cA) (ad := ad) (I := I) (J := J) hps.1
    rw [aEnt_3 hps.2.1] at he
    exact va_zald hx hb hK hP (a - 1) 2 he rfl hps.2.2 hdg (hw ad H locs ls cells slots h1 h2 hl hP hD hS hc hs)
  · cases hop
def o_iast : aOp := fun E s => match s.2.1 with
  | .int v :: .int i :: .ref a :: r => some ((s.1, r, aUp s.2.2.1 a i.toNatClampNeg v, s.2.2.2), [aAr E 1 a i])
  | _ => none
theorem ok_iastore {γ : aM} {pc : Nat} (hdg : decode γ.2.1 pc = .ok (.iastore, 1)) : OpOK γ pc o_iast (pc + 1) := by
  intro d mc ms al p l e R s m args below meth c Q D cA A ad0 n0 C lo st E I J t Ps hop hps hw ad H locs ls cells slots h1 h2 hl hP hD hS hc hs
  obtain ⟨hx, hb, hml, hr, hown, hts, hlk, hnm, ⟨hf, hlo, hrc, hrs⟩, ⟨hK, hAO⟩, hA, hX⟩ := C
  unfold o_iast at hop
  split at hop
  · rename_i v i a r hst
    have hst : st = _ := hst
    subst hst
    cases hop
    have he := aWs_at (cA := cA) (ad := ad) (I := I) (J := J) hps.1
    rw [aEnt_1 hps.2.1] at he
    refine va_iast hx hb hK hP hD hS (a - 1) 0 he rfl hps.2.2 hdg (fun H1 locs1 hP1 hD1 hS1 => ?_)
    rw [← aUp_at, aWs_set (E' := E) (I' := aUp I a i.toNatClampNeg v) (J' := J) rfl (aEnt_1 hps.2.1) (fun b hb => aEnt_eq rfl (fun _ => rfl) (aUp_ne hb) rfl) hps.1] at hP1 hD1
    exact hw ad H1 locs1 ls cells slots h1 h2 hl hP1 hD1 hS1 hc hs
  · cases hop
def o_last : aOp := fun E s => match s.2.1 with
  | .long v :: .int i :: .ref a :: r => some ((s.1, r, s.2.2.1, aUpJ s.2.2.2 a i.toNatClampNeg v), [aAr E 2 a i])
  | _ => none
theorem ok_lastore {γ : aM} {pc : Nat} (hdg : decode γ.2.1 pc = .ok (.lastore, 1)) : OpOK γ pc o_last (pc + 1) := by
  intro d mc ms al p l e R s m args below meth c Q D cA A ad0 n0 C lo st E I J t Ps hop hps hw ad H locs ls cells slots h1 h2 hl hP hD hS hc hs
  obtain ⟨hx, hb, hml, hr, hown, hts, hlk, hnm, ⟨hf, hlo, hrc, hrs⟩, ⟨hK, hAO⟩, hA, hX⟩ := C
  unfold o_last at hop
  split at hop
  · rename_i v i a r hst
    have hst : st = _ := hst
    subst hst
    cases hop
    have he := aWs_at (cA := cA) (ad := ad) (I := I) (J := J) hps.1
    rw [aEnt_2 hps.2.1] at he
    refine va_last hx hb hK hP hD hS (a - 1) 1 he rfl hps.2.2 hdg (fun H1 locs1 hP1 hD1 hS1 => ?_)
    rw [← aUpJ_at, aWs_set (E' := E) (I' := I) (J' := aUpJ J a i.toNatClampNeg v) rfl (aEnt_2 hps.2.1) (fun b hb => aEnt_eq rfl (fun _ => rfl) rfl (aUpJ_ne hb)) hps.1] at hP1 hD1
    exact hw ad H1 locs1 ls cells slots h1 h2 hl hP1 hD1 hS1 hc hs
  · cases hop
def o_zast : aOp := fun E s => match s.2.1 with
  | .int v :: .int i :: .ref a :: r => some ((s.1, r, aUp s.2.2.1 a i.toNatClampNeg v, s.2.2.2), [aAr E 3 a i ∧ (v = 0 ∨ v = 1)])
  | _ => none
theorem ok_bastore {γ : aM} {pc : Nat} (hdg : decode γ.2.1 pc = .ok (.bastore, 1)) : OpOK γ pc o_zast (pc + 1) := by
  intro d mc ms al p l e R s m args below meth c Q D cA A ad0 n0 C lo st E I J t Ps hop hps hw ad H locs ls cells slots h1 h2 hl hP hD hS hc hs
  obtain ⟨hx, hb, hml, hr, hown, hts, hlk, hnm, ⟨hf, hlo, hrc, hrs⟩, ⟨hK, hAO⟩, hA, hX⟩ := C
  unfold o_zast at hop
  split at hop
  · rename_i v i a r hst
    have hst : st = _ := hst
    subst hst
    cases hop
    have he := aWs_at (cA := cA) (ad := ad) (I := I) (J := J) hps.1.1
    rw [aEnt_3 hps.1.2.1] at he
    refine va_zast hx hb hK hP hD hS (a - 1) 2 he rfl hps.1.2.2 hdg (fun H1 locs1 hP1 hD1 hS1 => ?_)
    have hz : vp_nar .boolean v = v := by rcases hps.2 with rfl | rfl <;> rfl
    rw [hz] at hP1 hD1
    rw [← aUp_at, aWs_set (E' := E) (I' := aUp I a i.toNatClampNeg v) (J' := J) rfl (aEnt_3 hps.1.2.1) (fun b hb => aEnt_eq rfl (fun _ => rfl) (aUp_ne hb) rfl) hps.1.1] at hP1 hD1
    exact hw ad H1 locs1 ls cells slots h1 h2 hl hP1 hD1 hS1 hc hs
  · cases hop
def o_aald4 : aOp := fun E s => match s.2.1 with
  | .int i :: .ref a :: r => some ((s.1, .ref (E.2.2 a i.toNatClampNeg) :: r, s.2.2), [aAr E 4 a i ∧ E.2.2 a i.toNatClampNeg ≠ 0])
  | _ => none
theorem ok_aald4 {γ : aM} {pc : Nat} (hdg : decode γ.2.1 pc = .ok (.aaload, 1)) : OpOK γ pc o_aald4 (pc + 1) := by
  intro d mc ms al p l e R s m args below meth c Q D cA A ad0 n0 C lo st E I J t Ps hop hps hw ad H locs ls cells slots h1 h2 hl hP hD hS hc hs
  obtain ⟨hx, hb, hml, hr, hown, hts, hlk, hnm, ⟨hf, hlo, hrc, hrs⟩, ⟨hK, hAO⟩, hA, hX⟩ := C
  unfold o_aald4 at hop
  split at hop
  · rename_i i a r hst
    have hst : st = _ := hst
    subst hst
    cases hop
    have he := aWs_at (cA := cA) (ad := ad) (I := I) (J := J) hps.1.1
    rw [aEnt_4 hps.1.2.1] at he
    have hlt : i.toNatClampNeg < (E.2.1 a).2 := Nat.not_le.mp fun q => hps.1.2.2 (Or.inr q)
    have hcell := hP (a - 1) _ he
    have hrf : va_rf (aRef ad (E.2.2 a i.toNatClampNeg)) = .ref (ad (E.2.2 a i.toNatClampNeg)) := by
      unfold aRef
      rw [if_neg hps.2]
      rfl
    exact W.aald (v := .ref (ad (E.2.2 a i.toNatClampNeg))) (ty := .object "MarkovChainDistances$Chain") hx hb hcell ((hK.2 3 _ rfl).1 _ (fun j => va_rf (aRef ad (E.2.2 a j)))) rfl (fun q => by cases q) (by show ¬ (i < 0 ∨ (arrV _ _ _).slots.size ≤ _); rw [arrV_size]; exact hps.1.2.2) (by show (arrV _ _ _).slots[_]? = _; rw [arrV_read _ _ hlt, hrf]) rfl rfl hdg (hw ad H locs ls cells slots h1 h2 hl hP hD hS hc hs)
  · cases hop
def o_aald5 : aOp := fun E s => match s.2.1 with
  | .int i :: .ref a :: r => some ((s.1, .ref (E.2.2 a i.toNatClampNeg) :: r, s.2.2), [aAr E 5 a i ∧ E.2.2 a i.toNatClampNeg ≠ 0])
  | _ => none
theorem ok_aald5 {γ : aM} {pc : Nat} (hdg : decode γ.2.1 pc = .ok (.aaload, 1)) : OpOK γ pc o_aald5 (pc + 1) := by
  intro d mc ms al p l e R s m args below meth c Q D cA A ad0 n0 C lo st E I J t Ps hop hps hw ad H locs ls cells slots h1 h2 hl hP hD hS hc hs
  obtain ⟨hx, hb, hml, hr, hown, hts, hlk, hnm, ⟨hf, hlo, hrc, hrs⟩, ⟨hK, hAO⟩, hA, hX⟩ := C
  unfold o_aald5 at hop
  split at hop
  · rename_i i a r hst
    have hst : st = _ := hst
    subst hst
    cases hop
    have he := aWs_at (cA := cA) (ad := ad) (I := I) (J := J) hps.1.1
    rw [aEnt_5 hps.1.2.1] at he
    have hlt : i.toNatClampNeg < (E.2.1 a).2 := Nat.not_le.mp fun q => hps.1.2.2 (Or.inr q)
    have hcell := hP (a - 1) _ he
    have hrf : va_rf (aRef ad (E.2.2 a i.toNatClampNeg)) = .ref (ad (E.2.2 a i.toNatClampNeg)) := by
      unfold aRef
      rw [if_neg hps.2]
      rfl
    exact W.aald (v := .ref (ad (E.2.2 a i.toNatClampNeg))) (ty := .array .long) hx hb hcell ((hK.2 4 _ rfl).1 _ (fun j => va_rf (aRef ad (E.2.2 a j)))) rfl (fun q => by cases q) (by show ¬ (i < 0 ∨ (arrV _ _ _).slots.size ≤ _); rw [arrV_size]; exact hps.1.2.2) (by show (arrV _ _ _).slots[_]? = _; rw [arrV_read _ _ hlt, hrf]) rfl rfl hdg (hw ad H locs ls cells slots h1 h2 hl hP hD hS hc hs)
  · cases hop
def o_cpI : aOp := fun E s => match s.2.1 with
  | .int n :: .int dp :: .ref a :: .int sp :: .ref a0 :: r => if aSm r ≤ 8 then some ((s.1, r, aRw s.2.2.1 a (va_cpy (s.2.2.1 a0) (s.2.2.1 a) sp.toNatClampNeg dp.toNatClampNeg n.toNatClampNeg), s.2.2.2), [aCp E 1 a0 a sp dp n]) else none
  | _ => none
theorem ok_cpI {γ : aM} {pc idx : Nat} (hw1 : Cond.methodLink γ.1.cls idx arraycopyName ∈ lw_tbg) (hw2 : Cond.native arraycopyName ∈ lw_tbg) (hw3 : Cond.static arraycopyName ∈ lw_tbg) (hw4 : Cond.initialized "java/lang/System" ∈ lw_tbg) (hdg : decode γ.2.1 pc = .ok (.invokestatic idx, 3)) : OpOK γ pc o_cpI (pc + 3) := by
  intro d mc ms al p l e R s m args below meth c Q D cA A ad0 n0 C lo st E I J t Ps hop hps hw ad H locs ls cells slots h1 h2 hl hP hD hS hc hs
  obtain ⟨hx, hb, hml, hr, hown, hts, hlk, hnm, ⟨hf, hlo, hrc, hrs⟩, ⟨hK, hAO⟩, hA, hX⟩ := C
  unfold o_cpI at hop
  split at hop
  · rename_i n dp a sp a0 r hst
    have hst : st = _ := hst
    subst hst
    split at hop
    · rename_i hr8
      cases hop
      obtain ⟨b1, b2, b3, b4, ⟨b5, b6, b7⟩, b8, b9⟩ := hps
      have he0 := aWs_at (cA := cA) (ad := ad) (I := I) (J := J) b1
      rw [aEnt_1 b3] at he0
      have he := aWs_at (cA := cA) (ad := ad) (I := I) (J := J) b2
      rw [aEnt_1 b4] at he
      have hn : nativeFrameWords "java/lang/System" "arraycopy" 5 = 7 := by decide +kernel
      refine va_copyi (ty := .int) hx hb (hml.trans hl.2.1.symm) hown (hts _ hw1) (hts _ hw2) (hts _ hw3) (hts _ hw4) hK hP hD hS (a0 - 1) (a - 1) 0 0 he0 he rfl rfl rfl b5 b6 b7 b8 b9 (fun _ _ => rfl) (by omega) (by rw [aSm_tv, hn]; omega) hdg (fun H1 locs1 hP1 hD1 hS1 => ?_)
      rw [show (va_cpy (I a0) (I a) sp.toNatClampNeg dp.toNatClampNeg n.toNatClampNeg) = (aRw I a (va_cpy (I a0) (I a) sp.toNatClampNeg dp.toNatClampNeg n.toNatClampNeg)) a from aRw_at.symm, aWs_set (E' := E) (I' := aRw I a (va_cpy (I a0) (I a) sp.toNatClampNeg dp.toNatClampNeg n.toNatClampNeg)) (J' := J) rfl (aEnt_1 b4) (fun b hb => aEnt_eq rfl (fun _ => rfl) (aRw_ne hb) rfl) b2] at hP1 hD1
      exact hw ad H1 locs1 ls cells slots h1 h2 hl hP1 hD1 hS1 hc hs
    · cases hop
  · cases hop
def o_cpJ : aOp := fun E s => match s.2.1 with
  | .int n :: .int dp :: .ref a :: .int sp :: .ref a0 :: r => if aSm r ≤ 8 then some ((s.1, r, s.2.2.1, aRwJ s.2.2.2 a (va_cpy (s.2.2.2 a0) (s.2.2.2 a) sp.toNatClampNeg dp.toNatClampNeg n.toNatClampNeg)), [aCp E 2 a0 a sp dp n]) else none
  | _ => none
theorem ok_cpJ {γ : aM} {pc idx : Nat} (hw1 : Cond.methodLink γ.1.cls idx arraycopyName ∈ lw_tbg) (hw2 : Cond.native arraycopyName ∈ lw_tbg) (hw3 : Cond.static arraycopyName ∈ lw_tbg) (hw4 : Cond.initialized "java/lang/System" ∈ lw_tbg) (hdg : decode γ.2.1 pc = .ok (.invokestatic idx, 3)) : OpOK γ pc o_cpJ (pc + 3) := by
  intro d mc ms al p l e R s m args below meth c Q D cA A ad0 n0 C lo st E I J t Ps hop hps hw ad H locs ls cells slots h1 h2 hl hP hD hS hc hs
  obtain ⟨hx, hb, hml, hr, hown, hts, hlk, hnm, ⟨hf, hlo, hrc, hrs⟩, ⟨hK, hAO⟩, hA, hX⟩ := C
  unfold o_cpJ at hop
  split at hop
  · rename_i n dp a sp a0 r hst
    have hst : st = _ := hst
    subst hst
    split at hop
    · rename_i hr8
      cases hop
      obtain ⟨b1, b2, b3, b4, ⟨b5, b6, b7⟩, b8, b9⟩ := hps
      have he0 := aWs_at (cA := cA) (ad := ad) (I := I) (J := J) b1
      rw [aEnt_2 b3] at he0
      have he := aWs_at (cA := cA) (ad := ad) (I := I) (J := J) b2
      rw [aEnt_2 b4] at he
      have hn : nativeFrameWords "java/lang/System" "arraycopy" 5 = 7 := by decide +kernel
      refine va_copyl (ty := .long) hx hb (hml.trans hl.2.1.symm) hown (hts _ hw1) (hts _ hw2) (hts _ hw3) (hts _ hw4) hK hP hD hS (a0 - 1) (a - 1) 1 1 he0 he rfl rfl rfl b5 b6 b7 b8 b9 (fun _ _ => rfl) (by omega) (by rw [aSm_tv, hn]; omega) hdg (fun H1 locs1 hP1 hD1 hS1 => ?_)
      rw [show (va_cpy (J a0) (J a) sp.toNatClampNeg dp.toNatClampNeg n.toNatClampNeg) = (aRwJ J a (va_cpy (J a0) (J a) sp.toNatClampNeg dp.toNatClampNeg n.toNatClampNeg)) a from aRwJ_at.symm, aWs_set (E' := E) (I' := I) (J' := aRwJ J a (va_cpy (J a0) (J a) sp.toNatClampNeg dp.toNatClampNeg n.toNatClampNeg)) rfl (aEnt_2 b4) (fun b hb => aEnt_eq rfl (fun _ => rfl) rfl (aRwJ_ne hb)) b2] at hP1 hD1
      exact hw ad H1 locs1 ls cells slots h1 h2 hl hP1 hD1 hS1 hc hs
    · cases hop
  · cases hop
/-! the script (address 0) -/
def o_sld (L : Nat) (xs : Nat → Int32) : aOp := fun _ s => match s.2.1 with
  | .int i :: .ref 0 :: r => some ((s.1, .int (xs i.toNatClampNeg) :: r, s.2.2), [vp_in i L])
  | _ => none
theorem ok_sld {γ : aM} {pc L : Nat} {xs : Nat → Int32} (hγ : γ.2.2.2.2 = some (L, xs)) (hdg : decode γ.2.1 pc = .ok (.iaload, 1)) : OpOK γ pc (o_sld L xs) (pc + 1) := by
  intro d mc ms al p l e R s m args below meth c Q D cA A ad0 n0 C lo st E I J t Ps hop hps hw ad H locs ls cells slots h1 h2 hl hP hD hS hc hs
  obtain ⟨hx, hb, hml, hr, hown, hts, hlk, hnm, ⟨hf, hlo, hrc, hrs⟩, ⟨hK, hAO⟩, hA, hX⟩ := C
  unfold o_sld at hop
  split at hop
  · rename_i i r hst
    have hst : st = _ := hst
    subst hst
    cases hop
    obtain ⟨x1, x2, x3⟩ := hX L xs hγ
    have e0 : ad 0 = ad0 0 := h2 0 (Or.inl (Nat.zero_le _))
    show W p l e R s m args below meth c H locs cells slots Q (F0 m pc ls (.int i :: .ref (ad 0) :: r.map (tv ad)))
    rw [e0]
    exact va_sld hx hb x1 x2 x3 hS hps hdg (hw ad H locs ls cells slots h1 h2 hl hP hD hS hc hs)
  · cases hop
def o_slen (L : Nat) : aOp := fun _ s => match s.2.1 with
  | .ref 0 :: r => some ((s.1, .int (Int32.ofNat L) :: r, s.2.2), [])
  | _ => none
theorem ok_slen {γ : aM} {pc L : Nat} {xs : Nat → Int32} (hγ : γ.2.2.2.2 = some (L, xs)) (hdg : decode γ.2.1 pc = .ok (.arraylength, 1)) : OpOK γ pc (o_slen L) (pc + 1) := by
  intro d mc ms al p l e R s m args below meth c Q D cA A ad0 n0 C lo st E I J t Ps hop hps hw ad H locs ls cells slots h1 h2 hl hP hD hS hc hs
  obtain ⟨hx, hb, hml, hr, hown, hts, hlk, hnm, ⟨hf, hlo, hrc, hrs⟩, ⟨hK, hAO⟩, hA, hX⟩ := C
  unfold o_slen at hop
  split at hop
  · rename_i r hst
    have hst : st = _ := hst
    subst hst
    cases hop
    obtain ⟨x1, x2, x3⟩ := hX L xs hγ
    have e0 : ad 0 = ad0 0 := h2 0 (Or.inl (Nat.zero_le _))
    show W p l e R s m args below meth c H locs cells slots Q (F0 m pc ls (.ref (ad 0) :: r.map (tv ad)))
    rw [e0]
    exact va_slen hx hb x1 x2 x3 hS hdg (hw ad H locs ls cells slots h1 h2 hl hP hD hS hc hs)
  · cases hop

/-! TOOLS for the walks: numbers, loops -/
theorem cln {x : Int32} {n : Nat} (e : x = nI n) (h : n < 2147483648) : x.toNatClampNeg = n := by rw [e]; exact nI_clamp h
theorem vin {x : Int32} {n N : Nat} (e : x = nI n) (h : n < N) (hN : N < 2147483648) : vp_in x N := by rw [e]; exact vp_in_nI h hN
theorem eq_add {x y : Int32} {a b : Nat} (ex : x = nI a) (ey : y = nI b) : x + y = nI (a + b) := by rw [ex, ey, nI_add]
theorem eq_mul {x y : Int32} {a b : Nat} (ex : x = nI a) (ey : y = nI b) : x * y = nI (a * b) := by rw [ex, ey, pk_mul]
theorem eq_sub {x y : Int32} {a b : Nat} (ex : x = nI a) (ey : y = nI b) (h : b ≤ a) : x - y = nI (a - b) := by rw [ex, ey, pk_sub h]
theorem eq_div {x y : Int32} {a b : Nat} (ex : x = nI a) (ey : y = nI b) (ha : a < 2147483648) (h0 : 0 < b) (hb : b < 2147483648) : x / y = nI (a / b) := by rw [ex, ey, pk_div ha h0 hb]
theorem eq_rem {x y : Int32} {a b : Nat} (ex : x = nI a) (ey : y = nI b) (ha : a < 2147483648) (h0 : 0 < b) (hb : b < 2147483648) : x - x / y * y = nI (a % b) := by rw [ex, ey, pk_rem ha h0 hb]
theorem eq_m1 {x : Int32} {a : Nat} (ex : x = nI (a + 1)) : x + (-1) = nI a := by rw [ex]; exact pk_m1 a
theorem eq_s1 {x : Int32} {a : Nat} (ex : x = nI (a + 1)) : x - 1 = nI a := by rw [ex]; exact nI_pred a
theorem nI_inj {a b : Nat} (h : nI a = nI b) (ha : a < 2147483648) (hb : b < 2147483648) : a = b := (nI_eq ha hb).mp h
theorem nI_ti {n : Nat} (h : n < 2147483648) : (nI n).toInt = (n : Int) := nI_toInt h
theorem i_lt {x y : Int32} {a b : Nat} (ex : x = nI a) (ey : y = nI b) (ha : a < 2147483648) (hb : b < 2147483648) : x < y ↔ a < b := by rw [ex, ey, nI_ltI ha hb]
theorem i_le {x y : Int32} {a b : Nat} (ex : x = nI a) (ey : y = nI b) (ha : a < 2147483648) (hb : b < 2147483648) : x ≤ y ↔ a ≤ b := by rw [ex, ey, nI_leI ha hb]
theorem i_eq {x y : Int32} {a b : Nat} (ex : x = nI a) (ey : y = nI b) (ha : a < 2147483648) (hb : b < 2147483648) : x = y ↔ a = b := by rw [ex, ey, nI_eq ha hb]
/-- a truth as the machine has it -/
def zb (p : Prop) [Decidable p] : Int32 := if p then 1 else 0
theorem zb_t {p : Prop} [Decidable p] (h : p) : zb p = 1 := if_pos h
theorem zb_f {p : Prop} [Decidable p] (h : ¬ p) : zb p = 0 := if_neg h
theorem zb_01 (p : Prop) [Decidable p] : zb p = 0 ∨ zb p = 1 := by
  unfold zb
  by_cases h : p
  · rw [if_pos h]; exact Or.inr rfl
  · rw [if_neg h]; exact Or.inl rfl
theorem zb_ne {p : Prop} [Decidable p] : ¬ zb p = 0 ↔ p := by
  unfold zb
  by_cases h : p
  · rw [if_pos h]; exact ⟨fun _ => h, fun _ => by decide⟩
  · rw [if_neg h]; exact ⟨fun q => absurd rfl q, fun q => absurd q h⟩
theorem zb_eq {p : Prop} [Decidable p] : zb p = 0 ↔ ¬ p := by
  unfold zb
  by_cases h : p
  · rw [if_pos h]; exact ⟨fun q => absurd q (by decide), fun q => absurd h q⟩
  · rw [if_neg h]; exact ⟨fun _ => h, fun _ => rfl⟩
theorem for_up {P : Nat → Prop} {N : Nat} (hN : P N) (hs : ∀ i, i < N → P (i + 1) → P i) (i : Nat) (h : i ≤ N) : P i := by
  obtain ⟨k, hk⟩ : ∃ k, N = i + k := ⟨N - i, by omega⟩
  induction k generalizing i with
  | zero => rw [show i = N by omega]; exact hN
  | succ k ih => exact hs i (by omega) (ih (i + 1) (by omega) (by omega))
theorem for_dn {P : Nat → Prop} (h0 : P 0) (hs : ∀ i, P i → P (i + 1)) (i : Nat) : P i := by
  induction i with
  | zero => exact h0
  | succ i ih => exact hs i ih
section EZN
variable {γ : aM} {d pc : Nat} {lo : aLo} {E : aE} {I : aI} {J : aJ} {Q : Option Value → aI → aJ → Prop}
theorem Ez.n_icmp_eq {x y : Int32} {a b : Nat} {r : List Value} {off : Int} {tgt : Nat} (hdg : decode γ.2.1 pc = .ok (.if_icmp .eq off, 3)) (ht : (pc : Int) + off = (tgt : Int)) (ex : x = nI a) (ey : y = nI b) (ha : a < 2147483648) (hb : b < 2147483648) (kt : a = b → Ez γ d tgt lo r E I J Q) (kf : ¬ a = b → Ez γ d (pc + 3) lo r E I J Q) : Ez γ d pc lo (.int y :: .int x :: r) E I J Q := Ez.icmp_eq hdg ht (fun q => kt ((i_eq ex ey ha hb).mp q)) (fun q => kf (fun z => q ((i_eq ex ey ha hb).mpr z)))
theorem Ez.n_icmp_ne {x y : Int32} {a b : Nat} {r : List Value} {off : Int} {tgt : Nat} (hdg : decode γ.2.1 pc = .ok (.if_icmp .ne off, 3)) (ht : (pc : Int) + off = (tgt : Int)) (ex : x = nI a) (ey : y = nI b) (ha : a < 2147483648) (hb : b < 2147483648) (kt : ¬ a = b → Ez γ d tgt lo r E I J Q) (kf : a = b → Ez γ d (pc + 3) lo r E I J Q) : Ez γ d pc lo (.int y :: .int x :: r) E I J Q := Ez.icmp_ne hdg ht (fun q => kt (fun z => q ((i_eq ex ey ha hb).mpr z))) (fun q => kf ((i_eq ex ey ha hb).mp q))
theorem Ez.n_icmp_lt {x y : Int32} {a b : Nat} {r : List Value} {off : Int} {tgt : Nat} (hdg : decode γ.2.1 pc = .ok (.if_icmp .lt off, 3)) (ht : (pc : Int) + off = (tgt : Int)) (ex : x = nI a) (ey : y = nI b) (ha : a < 2147483648) (hb : b < 2147483648) (kt : a < b → Ez γ d tgt lo r E I J Q) (kf : b ≤ a → Ez γ d (pc + 3) lo r E I J Q) : Ez γ d pc lo (.int y :: .int x :: r) E I J Q := Ez.icmp_lt hdg ht (fun q => kt ((i_lt ex ey ha hb).mp q)) (fun q => kf (by have h9 := mt (i_lt ex ey ha hb).mpr q; omega))
theorem Ez.n_icmp_ge {x y : Int32} {a b : Nat} {r : List Value} {off : Int} {tgt : Nat} (hdg : decode γ.2.1 pc = .ok (.if_icmp .ge off, 3)) (ht : (pc : Int) + off = (tgt : Int)) (ex : x = nI a) (ey : y = nI b) (ha : a < 2147483648) (hb : b < 2147483648) (kt : b ≤ a → Ez γ d tgt lo r E I J Q) (kf : a < b → Ez γ d (pc + 3) lo r E I J Q) : Ez γ d pc lo (.int y :: .int x :: r) E I J Q := Ez.icmp_ge hdg ht (fun q => kt ((i_le ey ex hb ha).mp q)) (fun q => kf (by have h9 := mt (i_le ey ex hb ha).mpr q; omega))
theorem Ez.n_icmp_gt {x y : Int32} {a b : Nat} {r : List Value} {off : Int} {tgt : Nat} (hdg : decode γ.2.1 pc = .ok (.if_icmp .gt off, 3)) (ht : (pc : Int) + off = (tgt : Int)) (ex : x = nI a) (ey : y = nI b) (ha : a < 2147483648) (hb : b < 2147483648) (kt : b < a → Ez γ d tgt lo r E I J Q) (kf : a ≤ b → Ez γ d (pc + 3) lo r E I J Q) : Ez γ d pc lo (.int y :: .int x :: r) E I J Q := Ez.icmp_gt hdg ht (fun q => kt ((i_lt ey ex hb ha).mp q)) (fun q => kf (by have h9 := mt (i_lt ey ex hb ha).mpr q; omega))
theorem Ez.n_icmp_le {x y : Int32} {a b : Nat} {r : List Value} {off : Int} {tgt : Nat} (hdg : decode γ.2.1 pc = .ok (.if_icmp .le off, 3)) (ht : (pc : Int) + off = (tgt : Int)) (ex : x = nI a) (ey : y = nI b) (ha : a < 2147483648) (hb : b < 2147483648) (kt : a ≤ b → Ez γ d tgt lo r E I J Q) (kf : b < a → Ez γ d (pc + 3) lo r E I J Q) : Ez γ d pc lo (.int y :: .int x :: r) E I J Q := Ez.icmp_le hdg ht (fun q => kt ((i_le ex ey ha hb).mp q)) (fun q => kf (by have h9 := mt (i_le ex ey ha hb).mpr q; omega))
theorem Ez.n_if_eq {x : Int32} {a : Nat} {r : List Value} {off : Int} {tgt : Nat} (hdg : decode γ.2.1 pc = .ok (.ifCond .eq off, 3)) (ht : (pc : Int) + off = (tgt : Int)) (ex : x = nI a) (ha : a < 2147483648) (kt : a = 0 → Ez γ d tgt lo r E I J Q) (kf : ¬ a = 0 → Ez γ d (pc + 3) lo r E I J Q) : Ez γ d pc lo (.int x :: r) E I J Q := Ez.if_eq hdg ht (fun q => kt ((i_eq (b := 0) ex rfl ha (by decide)).mp q)) (fun q => kf (fun w => q ((i_eq (b := 0) ex rfl ha (by decide)).mpr w)))
theorem Ez.n_if_ne {x : Int32} {a : Nat} {r : List Value} {off : Int} {tgt : Nat} (hdg : decode γ.2.1 pc = .ok (.ifCond .ne off, 3)) (ht : (pc : Int) + off = (tgt : Int)) (ex : x = nI a) (ha : a < 2147483648) (kt : ¬ a = 0 → Ez γ d tgt lo r E I J Q) (kf : a = 0 → Ez γ d (pc + 3) lo r E I J Q) : Ez γ d pc lo (.int x :: r) E I J Q := Ez.if_ne hdg ht (fun q => kt (fun w => q ((i_eq (b := 0) ex rfl ha (by decide)).mpr w))) (fun q => kf ((i_eq (b := 0) ex rfl ha (by decide)).mp q))
theorem Ez.n_if_gt {x : Int32} {a : Nat} {r : List Value} {off : Int} {tgt : Nat} (hdg : decode γ.2.1 pc = .ok (.ifCond .gt off, 3)) (ht : (pc : Int) + off = (tgt : Int)) (ex : x = nI a) (ha : a < 2147483648) (kt : 0 < a → Ez γ d tgt lo r E I J Q) (kf : a = 0 → Ez γ d (pc + 3) lo r E I J Q) : Ez γ d pc lo (.int x :: r) E I J Q := Ez.if_gt hdg ht (fun q => kt ((i_lt (a := 0) rfl ex (by decide) ha).mp q)) (fun q => kf (by have h9 := mt (i_lt (a := 0) rfl ex (by decide) ha).mpr q; omega))
theorem Ez.n_if_le {x : Int32} {a : Nat} {r : List Value} {off : Int} {tgt : Nat} (hdg : decode γ.2.1 pc = .ok (.ifCond .le off, 3)) (ht : (pc : Int) + off = (tgt : Int)) (ex : x = nI a) (ha : a < 2147483648) (kt : a = 0 → Ez γ d tgt lo r E I J Q) (kf : 0 < a → Ez γ d (pc + 3) lo r E I J Q) : Ez γ d pc lo (.int x :: r) E I J Q := Ez.if_le hdg ht (fun q => kt (by have := (i_le (b := 0) ex rfl ha (by decide)).mp q; omega)) (fun q => kf (by have h9 := mt (i_le (b := 0) ex rfl ha (by decide)).mpr q; omega))
theorem Ez.n_if_lt {x : Int32} {a : Nat} {r : List Value} {off : Int} {tgt : Nat} (hdg : decode γ.2.1 pc = .ok (.ifCond .lt off, 3)) (ht : (pc : Int) + off = (tgt : Int)) (ex : x = nI a) (ha : a < 2147483648) (kt : False → Ez γ d tgt lo r E I J Q) (kf : True → Ez γ d (pc + 3) lo r E I J Q) : Ez γ d pc lo (.int x :: r) E I J Q := Ez.if_lt hdg ht (fun q => kt (by have := (i_lt (b := 0) ex rfl ha (by decide)).mp q; omega)) (fun q => kf trivial)
theorem Ez.n_if_ge {x : Int32} {a : Nat} {r : List Value} {off : Int} {tgt : Nat} (hdg : decode γ.2.1 pc = .ok (.ifCond .ge off, 3)) (ht : (pc : Int) + off = (tgt : Int)) (ex : x = nI a) (ha : a < 2147483648) (kt : True → Ez γ d tgt lo r E I J Q) (kf : False → Ez γ d (pc + 3) lo r E I J Q) : Ez γ d pc lo (.int x :: r) E I J Q := Ez.if_ge hdg ht (fun q => kt trivial) (fun q => kf (q ((i_le (a := 0) rfl ex (by decide) ha).mpr (Nat.zero_le _))))
theorem Ez.z_if_eq {p : Prop} [Decidable p] {r : List Value} {off : Int} {tgt : Nat} (hdg : decode γ.2.1 pc = .ok (.ifCond .eq off, 3)) (ht : (pc : Int) + off = (tgt : Int)) (kt : ¬ p → Ez γ d tgt lo r E I J Q) (kf : p → Ez γ d (pc + 3) lo r E I J Q) : Ez γ d pc lo (.int (zb p) :: r) E I J Q := Ez.if_eq hdg ht (fun q => kt (zb_eq.mp q)) (fun q => kf (zb_ne.mp q))
theorem Ez.z_if_ne {p : Prop} [Decidable p] {r : List Value} {off : Int} {tgt : Nat} (hdg : decode γ.2.1 pc = .ok (.ifCond .ne off, 3)) (ht : (pc : Int) + off = (tgt : Int)) (kt : p → Ez γ d tgt lo r E I J Q) (kf : ¬ p → Ez γ d (pc + 3) lo r E I J Q) : Ez γ d pc lo (.int (zb p) :: r) E I J Q := Ez.if_ne hdg ht (fun q => kt (zb_ne.mp q)) (fun q => kf (zb_eq.mp q))
end EZN
/-! forgetting locals -/
theorem aL_drop {ad : Nat → Nat} {ls : Array Slot} {nL : Nat} {lo : aLo} (i : Nat) (h : aL ad ls nL lo) : aL ad ls nL (lo.set i none) := by
  refine ⟨by rw [List.length_set]; exact h.1, h.2.1, h.2.2.1, fun q hq => h.2.2.2 q ?_⟩
  obtain ⟨v, e1, e2⟩ := aLs_mem.mp hq
  by_cases e : i = q.1
  · have hl : q.1 < (lo.set i none).length := (List.getElem?_eq_some_iff.mp e1).1
    rw [List.length_set] at hl
    rw [e, List.getElem?_set_self hl] at e1
    cases e1
  · rw [List.getElem?_set_ne e] at e1
    exact aLs_mem.mpr ⟨v, e1, e2⟩
theorem Ex.drop {γ : aM} {d mc ms n0 : Nat} {al : Nat × Nat} {pc : Nat} {lo : aLo} {st : List Value} {E : aE} {I : aI} {J : aJ} {Q : aPost} (i : Nat) (k : Ex γ d mc ms n0 al pc (lo.set i none) st E I J Q) : Ex γ d mc ms n0 al pc lo st E I J Q :=
  fun p l e R s m args below meth c D cA A ad0 C ad H locs ls cells slots h1 h2 hl hP hD hS hc hs => k p l e R s m args below meth c D cA A ad0 C ad H locs ls cells slots h1 h2 (aL_drop i hl) hP hD hS hc hs
theorem Ex.drops {γ : aM} {d mc ms n0 : Nat} {al : Nat × Nat} {pc : Nat} {st : List Value} {E : aE} {I : aI} {J : aJ} {Q : aPost} : ∀ (ks : List Nat) {lo lo' : aLo}, ks.foldl (fun l i => l.set i none) lo = lo' → Ex γ d mc ms n0 al pc lo' st E I J Q → Ex γ d mc ms n0 al pc lo st E I J Q
  | [], lo, lo', h, k => by cases h; exact k
  | i :: ks, lo, lo', h, k => Ex.drop i (Ex.drops ks h k)
theorem Ez.drops {γ : aM} {d pc : Nat} {st : List Value} {E : aE} {I : aI} {J : aJ} {Q : Option Value → aI → aJ → Prop} (ks : List Nat) {lo lo' : aLo} (h : ks.foldl (fun l i => l.set i none) lo = lo') (k : Ez γ d pc lo' st E I J Q) : Ez γ d pc lo st E I J Q := Ex.drops ks h k
theorem Ez.tabIn {γ : aM} {d pc : Nat} {lo : aLo} {E : aE} {I : aI} {J : aJ} {Q : Option Value → aI → aJ → Prop} {dflt lo1 hi1 : Int} {offs : Array Int} {len : Nat} {x : Int32} {off : Int} {tgt : Nat} {r : List Value} (hdg : decode γ.2.1 pc = .ok (.tableswitch dflt lo1 hi1 offs, len)) (q1 : ¬ x.toInt < lo1) (q2 : ¬ hi1 < x.toInt) (ho : offs[(x.toInt - lo1).toNat]? = some off) (ht : (pc : Int) + off = (tgt : Int)) (k : Ez γ d tgt lo r E I J Q) : Ez γ d pc lo (.int x :: r) E I J Q := Ex.tabIn hdg q1 q2 ho ht k
theorem Ez.tabOut {γ : aM} {d pc : Nat} {lo : aLo} {E : aE} {I : aI} {J : aJ} {Q : Option Value → aI → aJ → Prop} {dflt lo1 hi1 : Int} {offs : Array Int} {len : Nat} {x : Int32} {tgt : Nat} {r : List Value} (hdg : decode γ.2.1 pc = .ok (.tableswitch dflt lo1 hi1 offs, len)) (q1 : x.toInt < lo1 ∨ hi1 < x.toInt) (ht : (pc : Int) + dflt = (tgt : Int)) (k : Ez γ d tgt lo r E I J Q) : Ez γ d pc lo (.int x :: r) E I J Q := Ex.tabOut hdg q1 ht k

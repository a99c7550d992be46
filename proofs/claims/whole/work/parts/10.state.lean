/-! METHODS THAT MAKE NOTHING -/
def Ez (γ : aM) (d pc : Nat) (lo : aLo) (st : List Value) (E : aE) (I : aI) (J : aJ) (Q : Option Value → aI → aJ → Prop) : Prop := Ex γ d 0 0 E.1 (0, 0) pc lo st E I J (fun r E' I' J' => E' = E ∧ Q r I' J')
/-- the method, called so, comes to its end with Q -/
def Sp (γ : aM) (d : Nat) (As : List Value) (E : aE) (I : aI) (J : aJ) (Q : Option Value → aI → aJ → Prop) : Prop := Ez γ d 0 (aEn γ.2.2.1 As) [] E I J Q
section EZ
variable {γ γ' : aM} {d pc pc' : Nat} {lo lo' : aLo} {st st' : List Value} {E : aE} {I I' : aI} {J J' : aJ} {Q : Option Value → aI → aJ → Prop} {Q' : Option Value → aI → aJ → Prop}
theorem Ez.blk {os : List aOp} {Ps : List Prop} (h : Blk γ pc os pc') (hr : aRun E os (lo, st, I, J) = some ((lo', st', I', J'), Ps)) (hp : aAll Ps) (k : Ez γ (d + 1) pc' lo' st' E I' J' Q) : Ez γ (d + 1) pc lo st E I J Q := Ex.blk h hr hp k
theorem Ez.conseq (h : Ez γ d pc lo st E I J Q) (hq : ∀ r I' J', Q r I' J' → Q' r I' J') : Ez γ d pc lo st E I J Q' := Ex.conseq h (fun r E' I' J' q => ⟨q.1, hq r I' J' q.2⟩)
theorem Sp.conseq {As : List Value} (h : Sp γ d As E I J Q) (hq : ∀ r I' J', Q r I' J' → Q' r I' J') : Sp γ d As E I J Q' := Ez.conseq h hq
theorem Ez.callV {idx ci n : Nat} {As rest : List Value} {b : Nat} {T : u_T} {N : Nat}
    (hkn : aKn γ' n) (hl : Cond.methodLink γ.1.cls idx γ'.1 ∈ lw_tbg) (hi : Cond.instanceMethod γ'.1 ∈ lw_tbg) (hsel : Cond.selects γ'.1.cls γ'.1 γ'.1 ∈ lw_tbg) (hcl : vwCl[ci]? = some (γ'.1.cls, T, N)) (hdg : decode γ.2.1 pc = .ok (.invokevirtual idx, 3))
    (hst : st = As.reverse ++ .ref b :: rest) (hn : As.length = n) (hle : (aArgs (.ref b :: As)).length ≤ γ'.2.2.1) (h8 : aSm rest ≤ 8) (hb : aO E b ci)
    (hc : Sp γ' d (.ref b :: As) E I J Q') (k : ∀ r I' J', Q' r I' J' → Ez γ (d + 1) (pc + 3) lo (r.toList ++ rest) E I' J' Q) : Ez γ (d + 1) pc lo st E I J Q := Ex.callV hkn hl hi hsel hcl hdg hst hn hle h8 hb hc k
theorem Ez.callS {idx n : Nat} {As rest : List Value}
    (hkn : aKn γ' n) (hl : Cond.methodLink γ.1.cls idx γ'.1 ∈ lw_tbg) (hi : Cond.static γ'.1 ∈ lw_tbg) (hdg : decode γ.2.1 pc = .ok (.invokestatic idx, 3))
    (hst : st = As.reverse ++ rest) (hn : As.length = n) (hle : (aArgs As).length ≤ γ'.2.2.1) (h8 : aSm rest ≤ 8)
    (hc : Sp γ' d As E I J Q') (k : ∀ r I' J', Q' r I' J' → Ez γ (d + 1) (pc + 3) lo (r.toList ++ rest) E I' J' Q) : Ez γ (d + 1) pc lo st E I J Q := Ex.callS hkn hl hi hdg hst hn hle h8 hc k
theorem Ez.icmp_eq {x y : Int32} {r : List Value} {off : Int} {tgt : Nat} (hdg : decode γ.2.1 pc = .ok (.if_icmp .eq off, 3)) (ht : (pc : Int) + off = (tgt : Int)) (kt : x = y → Ez γ d tgt lo r E I J Q) (kf : ¬ (x = y) → Ez γ d (pc + 3) lo r E I J Q) : Ez γ d pc lo (.int y :: .int x :: r) E I J Q := Ex.icmp_eq hdg ht kt kf
theorem Ez.if_eq {x : Int32} {r : List Value} {off : Int} {tgt : Nat} (hdg : decode γ.2.1 pc = .ok (.ifCond .eq off, 3)) (ht : (pc : Int) + off = (tgt : Int)) (kt : x = 0 → Ez γ d tgt lo r E I J Q) (kf : ¬ (x = 0) → Ez γ d (pc + 3) lo r E I J Q) : Ez γ d pc lo (.int x :: r) E I J Q := Ex.if_eq hdg ht kt kf
theorem Ez.lif_eq {x y : Int64} {r : List Value} {off : Int} {tgt : Nat} (hdg : decode γ.2.1 pc = .ok (.ifCond .eq off, 3)) (ht : (pc : Int) + off = (tgt : Int)) (kt : x = y → Ez γ d tgt lo r E I J Q) (kf : ¬ (x = y) → Ez γ d (pc + 3) lo r E I J Q) : Ez γ d pc lo (.int (lg_cmp x y) :: r) E I J Q := Ex.lif_eq hdg ht kt kf
theorem Ez.icmp_ne {x y : Int32} {r : List Value} {off : Int} {tgt : Nat} (hdg : decode γ.2.1 pc = .ok (.if_icmp .ne off, 3)) (ht : (pc : Int) + off = (tgt : Int)) (kt : ¬ x = y → Ez γ d tgt lo r E I J Q) (kf : x = y → Ez γ d (pc + 3) lo r E I J Q) : Ez γ d pc lo (.int y :: .int x :: r) E I J Q := Ex.icmp_ne hdg ht kt kf
theorem Ez.if_ne {x : Int32} {r : List Value} {off : Int} {tgt : Nat} (hdg : decode γ.2.1 pc = .ok (.ifCond .ne off, 3)) (ht : (pc : Int) + off = (tgt : Int)) (kt : ¬ x = 0 → Ez γ d tgt lo r E I J Q) (kf : x = 0 → Ez γ d (pc + 3) lo r E I J Q) : Ez γ d pc lo (.int x :: r) E I J Q := Ex.if_ne hdg ht kt kf
theorem Ez.lif_ne {x y : Int64} {r : List Value} {off : Int} {tgt : Nat} (hdg : decode γ.2.1 pc = .ok (.ifCond .ne off, 3)) (ht : (pc : Int) + off = (tgt : Int)) (kt : ¬ x = y → Ez γ d tgt lo r E I J Q) (kf : x = y → Ez γ d (pc + 3) lo r E I J Q) : Ez γ d pc lo (.int (lg_cmp x y) :: r) E I J Q := Ex.lif_ne hdg ht kt kf
theorem Ez.icmp_lt {x y : Int32} {r : List Value} {off : Int} {tgt : Nat} (hdg : decode γ.2.1 pc = .ok (.if_icmp .lt off, 3)) (ht : (pc : Int) + off = (tgt : Int)) (kt : x < y → Ez γ d tgt lo r E I J Q) (kf : ¬ (x < y) → Ez γ d (pc + 3) lo r E I J Q) : Ez γ d pc lo (.int y :: .int x :: r) E I J Q := Ex.icmp_lt hdg ht kt kf
theorem Ez.if_lt {x : Int32} {r : List Value} {off : Int} {tgt : Nat} (hdg : decode γ.2.1 pc = .ok (.ifCond .lt off, 3)) (ht : (pc : Int) + off = (tgt : Int)) (kt : x < 0 → Ez γ d tgt lo r E I J Q) (kf : ¬ (x < 0) → Ez γ d (pc + 3) lo r E I J Q) : Ez γ d pc lo (.int x :: r) E I J Q := Ex.if_lt hdg ht kt kf
theorem Ez.lif_lt {x y : Int64} {r : List Value} {off : Int} {tgt : Nat} (hdg : decode γ.2.1 pc = .ok (.ifCond .lt off, 3)) (ht : (pc : Int) + off = (tgt : Int)) (kt : x < y → Ez γ d tgt lo r E I J Q) (kf : ¬ (x < y) → Ez γ d (pc + 3) lo r E I J Q) : Ez γ d pc lo (.int (lg_cmp x y) :: r) E I J Q := Ex.lif_lt hdg ht kt kf
theorem Ez.icmp_ge {x y : Int32} {r : List Value} {off : Int} {tgt : Nat} (hdg : decode γ.2.1 pc = .ok (.if_icmp .ge off, 3)) (ht : (pc : Int) + off = (tgt : Int)) (kt : y ≤ x → Ez γ d tgt lo r E I J Q) (kf : ¬ (y ≤ x) → Ez γ d (pc + 3) lo r E I J Q) : Ez γ d pc lo (.int y :: .int x :: r) E I J Q := Ex.icmp_ge hdg ht kt kf
theorem Ez.if_ge {x : Int32} {r : List Value} {off : Int} {tgt : Nat} (hdg : decode γ.2.1 pc = .ok (.ifCond .ge off, 3)) (ht : (pc : Int) + off = (tgt : Int)) (kt : 0 ≤ x → Ez γ d tgt lo r E I J Q) (kf : ¬ (0 ≤ x) → Ez γ d (pc + 3) lo r E I J Q) : Ez γ d pc lo (.int x :: r) E I J Q := Ex.if_ge hdg ht kt kf
theorem Ez.lif_ge {x y : Int64} {r : List Value} {off : Int} {tgt : Nat} (hdg : decode γ.2.1 pc = .ok (.ifCond .ge off, 3)) (ht : (pc : Int) + off = (tgt : Int)) (kt : y ≤ x → Ez γ d tgt lo r E I J Q) (kf : ¬ (y ≤ x) → Ez γ d (pc + 3) lo r E I J Q) : Ez γ d pc lo (.int (lg_cmp x y) :: r) E I J Q := Ex.lif_ge hdg ht kt kf
theorem Ez.icmp_gt {x y : Int32} {r : List Value} {off : Int} {tgt : Nat} (hdg : decode γ.2.1 pc = .ok (.if_icmp .gt off, 3)) (ht : (pc : Int) + off = (tgt : Int)) (kt : y < x → Ez γ d tgt lo r E I J Q) (kf : ¬ (y < x) → Ez γ d (pc + 3) lo r E I J Q) : Ez γ d pc lo (.int y :: .int x :: r) E I J Q := Ex.icmp_gt hdg ht kt kf
theorem Ez.if_gt {x : Int32} {r : List Value} {off : Int} {tgt : Nat} (hdg : decode γ.2.1 pc = .ok (.ifCond .gt off, 3)) (ht : (pc : Int) + off = (tgt : Int)) (kt : 0 < x → Ez γ d tgt lo r E I J Q) (kf : ¬ (0 < x) → Ez γ d (pc + 3) lo r E I J Q) : Ez γ d pc lo (.int x :: r) E I J Q := Ex.if_gt hdg ht kt kf
theorem Ez.lif_gt {x y : Int64} {r : List Value} {off : Int} {tgt : Nat} (hdg : decode γ.2.1 pc = .ok (.ifCond .gt off, 3)) (ht : (pc : Int) + off = (tgt : Int)) (kt : y < x → Ez γ d tgt lo r E I J Q) (kf : ¬ (y < x) → Ez γ d (pc + 3) lo r E I J Q) : Ez γ d pc lo (.int (lg_cmp x y) :: r) E I J Q := Ex.lif_gt hdg ht kt kf
theorem Ez.icmp_le {x y : Int32} {r : List Value} {off : Int} {tgt : Nat} (hdg : decode γ.2.1 pc = .ok (.if_icmp .le off, 3)) (ht : (pc : Int) + off = (tgt : Int)) (kt : x ≤ y → Ez γ d tgt lo r E I J Q) (kf : ¬ (x ≤ y) → Ez γ d (pc + 3) lo r E I J Q) : Ez γ d pc lo (.int y :: .int x :: r) E I J Q := Ex.icmp_le hdg ht kt kf
theorem Ez.if_le {x : Int32} {r : List Value} {off : Int} {tgt : Nat} (hdg : decode γ.2.1 pc = .ok (.ifCond .le off, 3)) (ht : (pc : Int) + off = (tgt : Int)) (kt : x ≤ 0 → Ez γ d tgt lo r E I J Q) (kf : ¬ (x ≤ 0) → Ez γ d (pc + 3) lo r E I J Q) : Ez γ d pc lo (.int x :: r) E I J Q := Ex.if_le hdg ht kt kf
theorem Ez.lif_le {x y : Int64} {r : List Value} {off : Int} {tgt : Nat} (hdg : decode γ.2.1 pc = .ok (.ifCond .le off, 3)) (ht : (pc : Int) + off = (tgt : Int)) (kt : x ≤ y → Ez γ d tgt lo r E I J Q) (kf : ¬ (x ≤ y) → Ez γ d (pc + 3) lo r E I J Q) : Ez γ d pc lo (.int (lg_cmp x y) :: r) E I J Q := Ex.lif_le hdg ht kt kf
theorem Ez.iret {v : Int32} (hr : γ.2.2.2.1 = some .int) (hdg : decode γ.2.1 pc = .ok (.ireturn, 1)) (hq : Q (some (.int v)) I J) : Ez γ d pc lo [.int v] E I J Q := Ex.iret hr hdg ⟨rfl, hq⟩
theorem Ez.zret {v : Int32} (hr : γ.2.2.2.1 = some .boolean) (hv : v = 0 ∨ v = 1) (hdg : decode γ.2.1 pc = .ok (.ireturn, 1)) (hq : Q (some (.int v)) I J) : Ez γ d pc lo [.int v] E I J Q := Ex.zret hr hv hdg ⟨rfl, hq⟩
theorem Ez.lret {v : Int64} (hr : γ.2.2.2.1 = some .long) (hdg : decode γ.2.1 pc = .ok (.lreturn, 1)) (hq : Q (some (.long v)) I J) : Ez γ d pc lo [.long v] E I J Q := Ex.lret hr hdg ⟨rfl, hq⟩
theorem Ez.vret (hr : γ.2.2.2.1 = none) (hdg : decode γ.2.1 pc = .ok (.return_, 1)) (hq : Q none I J) : Ez γ d pc lo [] E I J Q := Ex.vret hr hdg ⟨rfl, hq⟩
theorem Ez.aret {a : Nat} {rt : FieldType} (hr : γ.2.2.2.1 = some rt) (hv : (∃ n, rt = .object n) ∨ ∃ t, rt = .array t) (hdg : decode γ.2.1 pc = .ok (.areturn, 1)) (hq : Q (some (.ref a)) I J) : Ez γ d pc lo [.ref a] E I J Q := Ex.aret hr hv hdg ⟨rfl, hq⟩
end EZ
theorem Sp.of {γ : aM} {d : Nat} {As : List Value} {lo : aLo} {E : aE} {I : aI} {J : aJ} {P : Option Value → aI → aJ → Prop} (hl : aEn γ.2.2.1 As = lo) (h : ∀ Q, (∀ r I' J', P r I' J' → Q r I' J') → Ez γ d 0 lo [] E I J Q) : Sp γ d As E I J P := by
  subst hl
  exact h P (fun _ _ _ q => q)
/-- an array's kind and size -/
abbrev aA (E : aE) (a k n : Nat) : Prop := aIs E a ∧ E.2.1 a = (k, n)
theorem aA_in {E : aE} {a k n : Nat} {i : Int32} (h : aA E a k n) (hi : vp_in i n) : aAr E k a i := ⟨h.1, by rw [h.2], by rw [h.2]; exact hi⟩
theorem cpy_ok {E : aE} {k a0 a n0 n1 s0 d0 m : Nat} {sp dp n : Int32} (h0 : aA E a0 k n0) (h1 : aA E a k n1) (es : sp = nI s0) (ed : dp = nI d0) (en : n = nI m) (b1 : s0 < 2147483648) (b2 : d0 < 2147483648) (b3 : m < 2147483648) (b4 : s0 + m ≤ n0) (b5 : d0 + m ≤ n1) : aCp E k a0 a sp dp n := by
  subst es ed en
  refine ⟨h0.1, h1.1, by rw [h0.2], by rw [h1.2], ⟨nI_pos b1, nI_pos b2, nI_pos b3⟩, ?_, ?_⟩
  · rw [nI_clamp b1, nI_clamp b3, h0.2]; exact b4
  · rw [nI_clamp b2, nI_clamp b3, h1.2]; exact b5
/-! THE CELLS behind the constructors -/
def shL : List (Nat × Nat) := [(9, 0), (0, 9), (0, 1), (1, 6), (1, 36), (0, 1), (1, 6), (1, 36), (0, 1), (1, 6), (1, 36), (0, 4), (4, 10), (0, 1), (1, 6), (1, 36), (0, 1), (1, 6), (1, 36), (0, 1), (1, 6), (1, 36), (0, 1), (1, 6), (1, 36), (0, 1), (1, 6), (1, 36), (0, 1), (1, 6), (1, 36), (0, 1), (1, 6), (1, 36), (0, 1), (1, 6), (1, 36), (0, 1), (1, 6), (1, 36), (0, 1), (1, 6), (1, 36), (0, 3), (0, 1), (1, 6), (1, 36), (0, 8), (1, 36), (2, 36), (1, 6), (1, 6), (2, 6), (2, 6), (1, 6), (1, 6), (5, 16), (2, 36), (2, 36), (2, 36), (2, 36), (2, 36), (2, 36), (2, 36), (2, 36), (2, 36), (2, 36), (2, 36), (2, 36), (2, 36), (2, 36), (2, 36), (2, 36), (2, 16), (0, 6), (1, 6), (1, 6), (0, 7), (2, 6), (2, 6), (0, 2), (0, 5), (1, 80), (1, 6), (1, 60), (0, 0), (1, 4), (1, 4), (5, 4), (2, 40), (2, 40), (2, 40), (2, 40), (0, 10), (1, 46), (1, 460), (1, 46), (1, 46), (2, 36), (2, 36), (1, 36), (3, 36), (2, 12), (1, 12), (1, 6), (1, 6), (2, 6), (2, 6), (1, 80), (1, 6), (1, 60), (3, 6), (1, 4), (1, 4), (2, 160)]
def rfL : List (List Nat) := [[], [2, 5, 8, 0, 11, 43, 74, 77, 80, 81, 85], [0, 0, 0, 0, 3, 4], [], [], [0, 0, 0, 0, 6, 7], [], [], [0, 0, 0, 0, 9, 10], [], [], [0, 0, 12], [13, 16, 19, 22, 25, 28, 31, 34, 37, 40], [0, 0, 0, 0, 14, 15], [], [], [0, 0, 0, 0, 17, 18], [], [], [0, 0, 0, 0, 20, 21], [], [], [0, 0, 0, 0, 23, 24], [], [], [0, 0, 0, 0, 26, 27], [], [], [0, 0, 0, 0, 29, 30], [], [], [0, 0, 0, 0, 32, 33], [], [], [0, 0, 0, 0, 35, 36], [], [], [0, 0, 0, 0, 38, 39], [], [], [0, 0, 0, 0, 41, 42], [], [], [44, 47, 56, 73, 0], [0, 0, 0, 0, 45, 46], [], [], [48, 0, 49, 50, 51, 52, 53, 54, 55], [], [], [], [], [], [], [], [], [57, 58, 59, 60, 61, 62, 63, 64, 65, 66, 67, 68, 69, 70, 71, 72], [], [], [], [], [], [], [], [], [], [], [], [], [], [], [], [], [], [0, 75, 76], [], [], [78, 79], [], [], [81, 0, 0, 0, 0, 0, 83, 84], [0, 82], [], [], [], [86, 87, 88], [], [], [89, 90, 91, 92], [], [], [], [], [94, 95, 0, 96, 0, 97, 98, 99, 100, 101, 102, 103, 104, 105, 0, 106, 107, 108, 0, 0, 0, 0, 0, 0, 109, 110, 111, 112, 113, 114], [], [], [], [], [], [], [], [], [], [], [], [], [], [], [], [], [], [], [], [], []]
def E0 : aE := (114, fun a => shL.getD a (9, 0), fun a k => (rfL.getD a []).getD k 0)
theorem o_1 : aO E0 1 9 := by decide +kernel
theorem r_1_0 : aO E0 1 9 ∧ E0.2.2 1 0 ≠ 0 := by decide +kernel
theorem r_1_1 : aO E0 1 9 ∧ E0.2.2 1 1 ≠ 0 := by decide +kernel
theorem r_1_2 : aO E0 1 9 ∧ E0.2.2 1 2 ≠ 0 := by decide +kernel
theorem r_1_4 : aO E0 1 9 ∧ E0.2.2 1 4 ≠ 0 := by decide +kernel
theorem r_1_5 : aO E0 1 9 ∧ E0.2.2 1 5 ≠ 0 := by decide +kernel
theorem r_1_6 : aO E0 1 9 ∧ E0.2.2 1 6 ≠ 0 := by decide +kernel
theorem r_1_7 : aO E0 1 9 ∧ E0.2.2 1 7 ≠ 0 := by decide +kernel
theorem r_1_8 : aO E0 1 9 ∧ E0.2.2 1 8 ≠ 0 := by decide +kernel
theorem r_1_9 : aO E0 1 9 ∧ E0.2.2 1 9 ≠ 0 := by decide +kernel
theorem r_1_10 : aO E0 1 9 ∧ E0.2.2 1 10 ≠ 0 := by decide +kernel
theorem o_2 : aO E0 2 1 := by decide +kernel
theorem r_2_4 : aO E0 2 1 ∧ E0.2.2 2 4 ≠ 0 := by decide +kernel
theorem r_2_5 : aO E0 2 1 ∧ E0.2.2 2 5 ≠ 0 := by decide +kernel
theorem q_3 : aA E0 3 1 6 := by decide +kernel
theorem t_3 : aIs E0 3 ∧ (E0.2.1 3).1 = 1 := by decide +kernel
theorem a_3 {i : Int32} (h : vp_in i 6) : aAr E0 1 3 i := ⟨t_3.1, t_3.2, h⟩
theorem q_4 : aA E0 4 1 36 := by decide +kernel
theorem t_4 : aIs E0 4 ∧ (E0.2.1 4).1 = 1 := by decide +kernel
theorem a_4 {i : Int32} (h : vp_in i 36) : aAr E0 1 4 i := ⟨t_4.1, t_4.2, h⟩
theorem o_5 : aO E0 5 1 := by decide +kernel
theorem r_5_4 : aO E0 5 1 ∧ E0.2.2 5 4 ≠ 0 := by decide +kernel
theorem r_5_5 : aO E0 5 1 ∧ E0.2.2 5 5 ≠ 0 := by decide +kernel
theorem q_6 : aA E0 6 1 6 := by decide +kernel
theorem t_6 : aIs E0 6 ∧ (E0.2.1 6).1 = 1 := by decide +kernel
theorem a_6 {i : Int32} (h : vp_in i 6) : aAr E0 1 6 i := ⟨t_6.1, t_6.2, h⟩
theorem q_7 : aA E0 7 1 36 := by decide +kernel
theorem t_7 : aIs E0 7 ∧ (E0.2.1 7).1 = 1 := by decide +kernel
theorem a_7 {i : Int32} (h : vp_in i 36) : aAr E0 1 7 i := ⟨t_7.1, t_7.2, h⟩
theorem o_8 : aO E0 8 1 := by decide +kernel
theorem r_8_4 : aO E0 8 1 ∧ E0.2.2 8 4 ≠ 0 := by decide +kernel
theorem r_8_5 : aO E0 8 1 ∧ E0.2.2 8 5 ≠ 0 := by decide +kernel
theorem q_9 : aA E0 9 1 6 := by decide +kernel
theorem t_9 : aIs E0 9 ∧ (E0.2.1 9).1 = 1 := by decide +kernel
theorem a_9 {i : Int32} (h : vp_in i 6) : aAr E0 1 9 i := ⟨t_9.1, t_9.2, h⟩
theorem q_10 : aA E0 10 1 36 := by decide +kernel
theorem t_10 : aIs E0 10 ∧ (E0.2.1 10).1 = 1 := by decide +kernel
theorem a_10 {i : Int32} (h : vp_in i 36) : aAr E0 1 10 i := ⟨t_10.1, t_10.2, h⟩
theorem o_11 : aO E0 11 4 := by decide +kernel
theorem r_11_2 : aO E0 11 4 ∧ E0.2.2 11 2 ≠ 0 := by decide +kernel
theorem t_12 : (aIs E0 12 ∧ (E0.2.1 12).1 = 4) ∧ ∀ k, k < 10 → E0.2.2 12 k ≠ 0 := by decide +kernel
theorem a_12 {i : Int32} {k : Nat} (e : i = nI k) (h : k < 10) : aAr E0 4 12 i ∧ E0.2.2 12 i.toNatClampNeg ≠ 0 := ⟨⟨t_12.1.1, t_12.1.2, by rw [e]; exact vp_in_nI h (by decide)⟩, by rw [e, nI_clamp (Nat.lt_trans h (by decide))]; exact t_12.2 k h⟩
theorem o_13 : aO E0 13 1 := by decide +kernel
theorem r_13_4 : aO E0 13 1 ∧ E0.2.2 13 4 ≠ 0 := by decide +kernel
theorem r_13_5 : aO E0 13 1 ∧ E0.2.2 13 5 ≠ 0 := by decide +kernel
theorem q_14 : aA E0 14 1 6 := by decide +kernel
theorem t_14 : aIs E0 14 ∧ (E0.2.1 14).1 = 1 := by decide +kernel
theorem a_14 {i : Int32} (h : vp_in i 6) : aAr E0 1 14 i := ⟨t_14.1, t_14.2, h⟩
theorem q_15 : aA E0 15 1 36 := by decide +kernel
theorem t_15 : aIs E0 15 ∧ (E0.2.1 15).1 = 1 := by decide +kernel
theorem a_15 {i : Int32} (h : vp_in i 36) : aAr E0 1 15 i := ⟨t_15.1, t_15.2, h⟩
theorem o_16 : aO E0 16 1 := by decide +kernel
theorem r_16_4 : aO E0 16 1 ∧ E0.2.2 16 4 ≠ 0 := by decide +kernel
theorem r_16_5 : aO E0 16 1 ∧ E0.2.2 16 5 ≠ 0 := by decide +kernel
theorem q_17 : aA E0 17 1 6 := by decide +kernel
theorem t_17 : aIs E0 17 ∧ (E0.2.1 17).1 = 1 := by decide +kernel
theorem a_17 {i : Int32} (h : vp_in i 6) : aAr E0 1 17 i := ⟨t_17.1, t_17.2, h⟩
theorem q_18 : aA E0 18 1 36 := by decide +kernel
theorem t_18 : aIs E0 18 ∧ (E0.2.1 18).1 = 1 := by decide +kernel
theorem a_18 {i : Int32} (h : vp_in i 36) : aAr E0 1 18 i := ⟨t_18.1, t_18.2, h⟩
theorem o_19 : aO E0 19 1 := by decide +kernel
theorem r_19_4 : aO E0 19 1 ∧ E0.2.2 19 4 ≠ 0 := by decide +kernel
theorem r_19_5 : aO E0 19 1 ∧ E0.2.2 19 5 ≠ 0 := by decide +kernel
theorem q_20 : aA E0 20 1 6 := by decide +kernel
theorem t_20 : aIs E0 20 ∧ (E0.2.1 20).1 = 1 := by decide +kernel
theorem a_20 {i : Int32} (h : vp_in i 6) : aAr E0 1 20 i := ⟨t_20.1, t_20.2, h⟩
theorem q_21 : aA E0 21 1 36 := by decide +kernel
theorem t_21 : aIs E0 21 ∧ (E0.2.1 21).1 = 1 := by decide +kernel
theorem a_21 {i : Int32} (h : vp_in i 36) : aAr E0 1 21 i := ⟨t_21.1, t_21.2, h⟩
theorem o_22 : aO E0 22 1 := by decide +kernel
theorem r_22_4 : aO E0 22 1 ∧ E0.2.2 22 4 ≠ 0 := by decide +kernel
theorem r_22_5 : aO E0 22 1 ∧ E0.2.2 22 5 ≠ 0 := by decide +kernel
theorem q_23 : aA E0 23 1 6 := by decide +kernel
theorem t_23 : aIs E0 23 ∧ (E0.2.1 23).1 = 1 := by decide +kernel
theorem a_23 {i : Int32} (h : vp_in i 6) : aAr E0 1 23 i := ⟨t_23.1, t_23.2, h⟩
theorem q_24 : aA E0 24 1 36 := by decide +kernel
theorem t_24 : aIs E0 24 ∧ (E0.2.1 24).1 = 1 := by decide +kernel
theorem a_24 {i : Int32} (h : vp_in i 36) : aAr E0 1 24 i := ⟨t_24.1, t_24.2, h⟩
theorem o_25 : aO E0 25 1 := by decide +kernel
theorem r_25_4 : aO E0 25 1 ∧ E0.2.2 25 4 ≠ 0 := by decide +kernel
theorem r_25_5 : aO E0 25 1 ∧ E0.2.2 25 5 ≠ 0 := by decide +kernel
theorem q_26 : aA E0 26 1 6 := by decide +kernel
theorem t_26 : aIs E0 26 ∧ (E0.2.1 26).1 = 1 := by decide +kernel
theorem a_26 {i : Int32} (h : vp_in i 6) : aAr E0 1 26 i := ⟨t_26.1, t_26.2, h⟩
theorem q_27 : aA E0 27 1 36 := by decide +kernel
theorem t_27 : aIs E0 27 ∧ (E0.2.1 27).1 = 1 := by decide +kernel
theorem a_27 {i : Int32} (h : vp_in i 36) : aAr E0 1 27 i := ⟨t_27.1, t_27.2, h⟩
theorem o_28 : aO E0 28 1 := by decide +kernel
theorem r_28_4 : aO E0 28 1 ∧ E0.2.2 28 4 ≠ 0 := by decide +kernel
theorem r_28_5 : aO E0 28 1 ∧ E0.2.2 28 5 ≠ 0 := by decide +kernel
theorem q_29 : aA E0 29 1 6 := by decide +kernel
theorem t_29 : aIs E0 29 ∧ (E0.2.1 29).1 = 1 := by decide +kernel
theorem a_29 {i : Int32} (h : vp_in i 6) : aAr E0 1 29 i := ⟨t_29.1, t_29.2, h⟩
theorem q_30 : aA E0 30 1 36 := by decide +kernel
theorem t_30 : aIs E0 30 ∧ (E0.2.1 30).1 = 1 := by decide +kernel
theorem a_30 {i : Int32} (h : vp_in i 36) : aAr E0 1 30 i := ⟨t_30.1, t_30.2, h⟩
theorem o_31 : aO E0 31 1 := by decide +kernel
theorem r_31_4 : aO E0 31 1 ∧ E0.2.2 31 4 ≠ 0 := by decide +kernel
theorem r_31_5 : aO E0 31 1 ∧ E0.2.2 31 5 ≠ 0 := by decide +kernel
theorem q_32 : aA E0 32 1 6 := by decide +kernel
theorem t_32 : aIs E0 32 ∧ (E0.2.1 32).1 = 1 := by decide +kernel
theorem a_32 {i : Int32} (h : vp_in i 6) : aAr E0 1 32 i := ⟨t_32.1, t_32.2, h⟩
theorem q_33 : aA E0 33 1 36 := by decide +kernel
theorem t_33 : aIs E0 33 ∧ (E0.2.1 33).1 = 1 := by decide +kernel
theorem a_33 {i : Int32} (h : vp_in i 36) : aAr E0 1 33 i := ⟨t_33.1, t_33.2, h⟩
theorem o_34 : aO E0 34 1 := by decide +kernel
theorem r_34_4 : aO E0 34 1 ∧ E0.2.2 34 4 ≠ 0 := by decide +kernel
theorem r_34_5 : aO E0 34 1 ∧ E0.2.2 34 5 ≠ 0 := by decide +kernel
theorem q_35 : aA E0 35 1 6 := by decide +kernel
theorem t_35 : aIs E0 35 ∧ (E0.2.1 35).1 = 1 := by decide +kernel
theorem a_35 {i : Int32} (h : vp_in i 6) : aAr E0 1 35 i := ⟨t_35.1, t_35.2, h⟩
theorem q_36 : aA E0 36 1 36 := by decide +kernel
theorem t_36 : aIs E0 36 ∧ (E0.2.1 36).1 = 1 := by decide +kernel
theorem a_36 {i : Int32} (h : vp_in i 36) : aAr E0 1 36 i := ⟨t_36.1, t_36.2, h⟩
theorem o_37 : aO E0 37 1 := by decide +kernel
theorem r_37_4 : aO E0 37 1 ∧ E0.2.2 37 4 ≠ 0 := by decide +kernel
theorem r_37_5 : aO E0 37 1 ∧ E0.2.2 37 5 ≠ 0 := by decide +kernel
theorem q_38 : aA E0 38 1 6 := by decide +kernel
theorem t_38 : aIs E0 38 ∧ (E0.2.1 38).1 = 1 := by decide +kernel
theorem a_38 {i : Int32} (h : vp_in i 6) : aAr E0 1 38 i := ⟨t_38.1, t_38.2, h⟩
theorem q_39 : aA E0 39 1 36 := by decide +kernel
theorem t_39 : aIs E0 39 ∧ (E0.2.1 39).1 = 1 := by decide +kernel
theorem a_39 {i : Int32} (h : vp_in i 36) : aAr E0 1 39 i := ⟨t_39.1, t_39.2, h⟩
theorem o_40 : aO E0 40 1 := by decide +kernel
theorem r_40_4 : aO E0 40 1 ∧ E0.2.2 40 4 ≠ 0 := by decide +kernel
theorem r_40_5 : aO E0 40 1 ∧ E0.2.2 40 5 ≠ 0 := by decide +kernel
theorem q_41 : aA E0 41 1 6 := by decide +kernel
theorem t_41 : aIs E0 41 ∧ (E0.2.1 41).1 = 1 := by decide +kernel
theorem a_41 {i : Int32} (h : vp_in i 6) : aAr E0 1 41 i := ⟨t_41.1, t_41.2, h⟩
theorem q_42 : aA E0 42 1 36 := by decide +kernel
theorem t_42 : aIs E0 42 ∧ (E0.2.1 42).1 = 1 := by decide +kernel
theorem a_42 {i : Int32} (h : vp_in i 36) : aAr E0 1 42 i := ⟨t_42.1, t_42.2, h⟩
theorem o_43 : aO E0 43 3 := by decide +kernel
theorem r_43_0 : aO E0 43 3 ∧ E0.2.2 43 0 ≠ 0 := by decide +kernel
theorem r_43_1 : aO E0 43 3 ∧ E0.2.2 43 1 ≠ 0 := by decide +kernel
theorem r_43_2 : aO E0 43 3 ∧ E0.2.2 43 2 ≠ 0 := by decide +kernel
theorem r_43_3 : aO E0 43 3 ∧ E0.2.2 43 3 ≠ 0 := by decide +kernel
theorem o_44 : aO E0 44 1 := by decide +kernel
theorem r_44_4 : aO E0 44 1 ∧ E0.2.2 44 4 ≠ 0 := by decide +kernel
theorem r_44_5 : aO E0 44 1 ∧ E0.2.2 44 5 ≠ 0 := by decide +kernel
theorem q_45 : aA E0 45 1 6 := by decide +kernel
theorem t_45 : aIs E0 45 ∧ (E0.2.1 45).1 = 1 := by decide +kernel
theorem a_45 {i : Int32} (h : vp_in i 6) : aAr E0 1 45 i := ⟨t_45.1, t_45.2, h⟩
theorem q_46 : aA E0 46 1 36 := by decide +kernel
theorem t_46 : aIs E0 46 ∧ (E0.2.1 46).1 = 1 := by decide +kernel
theorem a_46 {i : Int32} (h : vp_in i 36) : aAr E0 1 46 i := ⟨t_46.1, t_46.2, h⟩
theorem o_47 : aO E0 47 8 := by decide +kernel
theorem r_47_0 : aO E0 47 8 ∧ E0.2.2 47 0 ≠ 0 := by decide +kernel
theorem r_47_2 : aO E0 47 8 ∧ E0.2.2 47 2 ≠ 0 := by decide +kernel
theorem r_47_3 : aO E0 47 8 ∧ E0.2.2 47 3 ≠ 0 := by decide +kernel
theorem r_47_4 : aO E0 47 8 ∧ E0.2.2 47 4 ≠ 0 := by decide +kernel
theorem r_47_5 : aO E0 47 8 ∧ E0.2.2 47 5 ≠ 0 := by decide +kernel
theorem r_47_6 : aO E0 47 8 ∧ E0.2.2 47 6 ≠ 0 := by decide +kernel
theorem r_47_7 : aO E0 47 8 ∧ E0.2.2 47 7 ≠ 0 := by decide +kernel
theorem r_47_8 : aO E0 47 8 ∧ E0.2.2 47 8 ≠ 0 := by decide +kernel
theorem q_48 : aA E0 48 1 36 := by decide +kernel
theorem t_48 : aIs E0 48 ∧ (E0.2.1 48).1 = 1 := by decide +kernel
theorem a_48 {i : Int32} (h : vp_in i 36) : aAr E0 1 48 i := ⟨t_48.1, t_48.2, h⟩
theorem q_49 : aA E0 49 2 36 := by decide +kernel
theorem t_49 : aIs E0 49 ∧ (E0.2.1 49).1 = 2 := by decide +kernel
theorem a_49 {i : Int32} (h : vp_in i 36) : aAr E0 2 49 i := ⟨t_49.1, t_49.2, h⟩
theorem q_50 : aA E0 50 1 6 := by decide +kernel
theorem t_50 : aIs E0 50 ∧ (E0.2.1 50).1 = 1 := by decide +kernel
theorem a_50 {i : Int32} (h : vp_in i 6) : aAr E0 1 50 i := ⟨t_50.1, t_50.2, h⟩
theorem q_51 : aA E0 51 1 6 := by decide +kernel
theorem t_51 : aIs E0 51 ∧ (E0.2.1 51).1 = 1 := by decide +kernel
theorem a_51 {i : Int32} (h : vp_in i 6) : aAr E0 1 51 i := ⟨t_51.1, t_51.2, h⟩
theorem q_52 : aA E0 52 2 6 := by decide +kernel
theorem t_52 : aIs E0 52 ∧ (E0.2.1 52).1 = 2 := by decide +kernel
theorem a_52 {i : Int32} (h : vp_in i 6) : aAr E0 2 52 i := ⟨t_52.1, t_52.2, h⟩
theorem q_53 : aA E0 53 2 6 := by decide +kernel
theorem t_53 : aIs E0 53 ∧ (E0.2.1 53).1 = 2 := by decide +kernel
theorem a_53 {i : Int32} (h : vp_in i 6) : aAr E0 2 53 i := ⟨t_53.1, t_53.2, h⟩
theorem q_54 : aA E0 54 1 6 := by decide +kernel
theorem t_54 : aIs E0 54 ∧ (E0.2.1 54).1 = 1 := by decide +kernel
theorem a_54 {i : Int32} (h : vp_in i 6) : aAr E0 1 54 i := ⟨t_54.1, t_54.2, h⟩
theorem q_55 : aA E0 55 1 6 := by decide +kernel
theorem t_55 : aIs E0 55 ∧ (E0.2.1 55).1 = 1 := by decide +kernel
theorem a_55 {i : Int32} (h : vp_in i 6) : aAr E0 1 55 i := ⟨t_55.1, t_55.2, h⟩
theorem t_56 : (aIs E0 56 ∧ (E0.2.1 56).1 = 5) ∧ ∀ k, k < 16 → E0.2.2 56 k ≠ 0 := by decide +kernel
theorem a_56 {i : Int32} {k : Nat} (e : i = nI k) (h : k < 16) : aAr E0 5 56 i ∧ E0.2.2 56 i.toNatClampNeg ≠ 0 := ⟨⟨t_56.1.1, t_56.1.2, by rw [e]; exact vp_in_nI h (by decide)⟩, by rw [e, nI_clamp (Nat.lt_trans h (by decide))]; exact t_56.2 k h⟩
theorem q_57 : aA E0 57 2 36 := by decide +kernel
theorem t_57 : aIs E0 57 ∧ (E0.2.1 57).1 = 2 := by decide +kernel
theorem a_57 {i : Int32} (h : vp_in i 36) : aAr E0 2 57 i := ⟨t_57.1, t_57.2, h⟩
theorem q_58 : aA E0 58 2 36 := by decide +kernel
theorem t_58 : aIs E0 58 ∧ (E0.2.1 58).1 = 2 := by decide +kernel
theorem a_58 {i : Int32} (h : vp_in i 36) : aAr E0 2 58 i := ⟨t_58.1, t_58.2, h⟩
theorem q_59 : aA E0 59 2 36 := by decide +kernel
theorem t_59 : aIs E0 59 ∧ (E0.2.1 59).1 = 2 := by decide +kernel
theorem a_59 {i : Int32} (h : vp_in i 36) : aAr E0 2 59 i := ⟨t_59.1, t_59.2, h⟩
theorem q_60 : aA E0 60 2 36 := by decide +kernel
theorem t_60 : aIs E0 60 ∧ (E0.2.1 60).1 = 2 := by decide +kernel
theorem a_60 {i : Int32} (h : vp_in i 36) : aAr E0 2 60 i := ⟨t_60.1, t_60.2, h⟩
theorem q_61 : aA E0 61 2 36 := by decide +kernel
theorem t_61 : aIs E0 61 ∧ (E0.2.1 61).1 = 2 := by decide +kernel
theorem a_61 {i : Int32} (h : vp_in i 36) : aAr E0 2 61 i := ⟨t_61.1, t_61.2, h⟩
theorem q_62 : aA E0 62 2 36 := by decide +kernel
theorem t_62 : aIs E0 62 ∧ (E0.2.1 62).1 = 2 := by decide +kernel
theorem a_62 {i : Int32} (h : vp_in i 36) : aAr E0 2 62 i := ⟨t_62.1, t_62.2, h⟩
theorem q_63 : aA E0 63 2 36 := by decide +kernel
theorem t_63 : aIs E0 63 ∧ (E0.2.1 63).1 = 2 := by decide +kernel
theorem a_63 {i : Int32} (h : vp_in i 36) : aAr E0 2 63 i := ⟨t_63.1, t_63.2, h⟩
theorem q_64 : aA E0 64 2 36 := by decide +kernel
theorem t_64 : aIs E0 64 ∧ (E0.2.1 64).1 = 2 := by decide +kernel
theorem a_64 {i : Int32} (h : vp_in i 36) : aAr E0 2 64 i := ⟨t_64.1, t_64.2, h⟩
theorem q_65 : aA E0 65 2 36 := by decide +kernel
theorem t_65 : aIs E0 65 ∧ (E0.2.1 65).1 = 2 := by decide +kernel
theorem a_65 {i : Int32} (h : vp_in i 36) : aAr E0 2 65 i := ⟨t_65.1, t_65.2, h⟩
theorem q_66 : aA E0 66 2 36 := by decide +kernel
theorem t_66 : aIs E0 66 ∧ (E0.2.1 66).1 = 2 := by decide +kernel
theorem a_66 {i : Int32} (h : vp_in i 36) : aAr E0 2 66 i := ⟨t_66.1, t_66.2, h⟩
theorem q_67 : aA E0 67 2 36 := by decide +kernel
theorem t_67 : aIs E0 67 ∧ (E0.2.1 67).1 = 2 := by decide +kernel
theorem a_67 {i : Int32} (h : vp_in i 36) : aAr E0 2 67 i := ⟨t_67.1, t_67.2, h⟩
theorem q_68 : aA E0 68 2 36 := by decide +kernel
theorem t_68 : aIs E0 68 ∧ (E0.2.1 68).1 = 2 := by decide +kernel
theorem a_68 {i : Int32} (h : vp_in i 36) : aAr E0 2 68 i := ⟨t_68.1, t_68.2, h⟩
theorem q_69 : aA E0 69 2 36 := by decide +kernel
theorem t_69 : aIs E0 69 ∧ (E0.2.1 69).1 = 2 := by decide +kernel
theorem a_69 {i : Int32} (h : vp_in i 36) : aAr E0 2 69 i := ⟨t_69.1, t_69.2, h⟩
theorem q_70 : aA E0 70 2 36 := by decide +kernel
theorem t_70 : aIs E0 70 ∧ (E0.2.1 70).1 = 2 := by decide +kernel
theorem a_70 {i : Int32} (h : vp_in i 36) : aAr E0 2 70 i := ⟨t_70.1, t_70.2, h⟩
theorem q_71 : aA E0 71 2 36 := by decide +kernel
theorem t_71 : aIs E0 71 ∧ (E0.2.1 71).1 = 2 := by decide +kernel
theorem a_71 {i : Int32} (h : vp_in i 36) : aAr E0 2 71 i := ⟨t_71.1, t_71.2, h⟩
theorem q_72 : aA E0 72 2 36 := by decide +kernel
theorem t_72 : aIs E0 72 ∧ (E0.2.1 72).1 = 2 := by decide +kernel
theorem a_72 {i : Int32} (h : vp_in i 36) : aAr E0 2 72 i := ⟨t_72.1, t_72.2, h⟩
theorem q_73 : aA E0 73 2 16 := by decide +kernel
theorem t_73 : aIs E0 73 ∧ (E0.2.1 73).1 = 2 := by decide +kernel
theorem a_73 {i : Int32} (h : vp_in i 16) : aAr E0 2 73 i := ⟨t_73.1, t_73.2, h⟩
theorem o_74 : aO E0 74 6 := by decide +kernel
theorem r_74_1 : aO E0 74 6 ∧ E0.2.2 74 1 ≠ 0 := by decide +kernel
theorem r_74_2 : aO E0 74 6 ∧ E0.2.2 74 2 ≠ 0 := by decide +kernel
theorem q_75 : aA E0 75 1 6 := by decide +kernel
theorem t_75 : aIs E0 75 ∧ (E0.2.1 75).1 = 1 := by decide +kernel
theorem a_75 {i : Int32} (h : vp_in i 6) : aAr E0 1 75 i := ⟨t_75.1, t_75.2, h⟩
theorem q_76 : aA E0 76 1 6 := by decide +kernel
theorem t_76 : aIs E0 76 ∧ (E0.2.1 76).1 = 1 := by decide +kernel
theorem a_76 {i : Int32} (h : vp_in i 6) : aAr E0 1 76 i := ⟨t_76.1, t_76.2, h⟩
theorem o_77 : aO E0 77 7 := by decide +kernel
theorem r_77_0 : aO E0 77 7 ∧ E0.2.2 77 0 ≠ 0 := by decide +kernel
theorem r_77_1 : aO E0 77 7 ∧ E0.2.2 77 1 ≠ 0 := by decide +kernel
theorem q_78 : aA E0 78 2 6 := by decide +kernel
theorem t_78 : aIs E0 78 ∧ (E0.2.1 78).1 = 2 := by decide +kernel
theorem a_78 {i : Int32} (h : vp_in i 6) : aAr E0 2 78 i := ⟨t_78.1, t_78.2, h⟩
theorem q_79 : aA E0 79 2 6 := by decide +kernel
theorem t_79 : aIs E0 79 ∧ (E0.2.1 79).1 = 2 := by decide +kernel
theorem a_79 {i : Int32} (h : vp_in i 6) : aAr E0 2 79 i := ⟨t_79.1, t_79.2, h⟩
theorem o_80 : aO E0 80 2 := by decide +kernel
theorem r_80_0 : aO E0 80 2 ∧ E0.2.2 80 0 ≠ 0 := by decide +kernel
theorem r_80_6 : aO E0 80 2 ∧ E0.2.2 80 6 ≠ 0 := by decide +kernel
theorem r_80_7 : aO E0 80 2 ∧ E0.2.2 80 7 ≠ 0 := by decide +kernel
theorem o_81 : aO E0 81 5 := by decide +kernel
theorem r_81_1 : aO E0 81 5 ∧ E0.2.2 81 1 ≠ 0 := by decide +kernel
theorem q_82 : aA E0 82 1 80 := by decide +kernel
theorem t_82 : aIs E0 82 ∧ (E0.2.1 82).1 = 1 := by decide +kernel
theorem a_82 {i : Int32} (h : vp_in i 80) : aAr E0 1 82 i := ⟨t_82.1, t_82.2, h⟩
theorem q_83 : aA E0 83 1 6 := by decide +kernel
theorem t_83 : aIs E0 83 ∧ (E0.2.1 83).1 = 1 := by decide +kernel
theorem a_83 {i : Int32} (h : vp_in i 6) : aAr E0 1 83 i := ⟨t_83.1, t_83.2, h⟩
theorem q_84 : aA E0 84 1 60 := by decide +kernel
theorem t_84 : aIs E0 84 ∧ (E0.2.1 84).1 = 1 := by decide +kernel
theorem a_84 {i : Int32} (h : vp_in i 60) : aAr E0 1 84 i := ⟨t_84.1, t_84.2, h⟩
theorem o_85 : aO E0 85 0 := by decide +kernel
theorem r_85_0 : aO E0 85 0 ∧ E0.2.2 85 0 ≠ 0 := by decide +kernel
theorem r_85_1 : aO E0 85 0 ∧ E0.2.2 85 1 ≠ 0 := by decide +kernel
theorem r_85_2 : aO E0 85 0 ∧ E0.2.2 85 2 ≠ 0 := by decide +kernel
theorem q_86 : aA E0 86 1 4 := by decide +kernel
theorem t_86 : aIs E0 86 ∧ (E0.2.1 86).1 = 1 := by decide +kernel
theorem a_86 {i : Int32} (h : vp_in i 4) : aAr E0 1 86 i := ⟨t_86.1, t_86.2, h⟩
theorem q_87 : aA E0 87 1 4 := by decide +kernel
theorem t_87 : aIs E0 87 ∧ (E0.2.1 87).1 = 1 := by decide +kernel
theorem a_87 {i : Int32} (h : vp_in i 4) : aAr E0 1 87 i := ⟨t_87.1, t_87.2, h⟩
theorem t_88 : (aIs E0 88 ∧ (E0.2.1 88).1 = 5) ∧ ∀ k, k < 4 → E0.2.2 88 k ≠ 0 := by decide +kernel
theorem a_88 {i : Int32} {k : Nat} (e : i = nI k) (h : k < 4) : aAr E0 5 88 i ∧ E0.2.2 88 i.toNatClampNeg ≠ 0 := ⟨⟨t_88.1.1, t_88.1.2, by rw [e]; exact vp_in_nI h (by decide)⟩, by rw [e, nI_clamp (Nat.lt_trans h (by decide))]; exact t_88.2 k h⟩
theorem q_89 : aA E0 89 2 40 := by decide +kernel
theorem t_89 : aIs E0 89 ∧ (E0.2.1 89).1 = 2 := by decide +kernel
theorem a_89 {i : Int32} (h : vp_in i 40) : aAr E0 2 89 i := ⟨t_89.1, t_89.2, h⟩
theorem q_90 : aA E0 90 2 40 := by decide +kernel
theorem t_90 : aIs E0 90 ∧ (E0.2.1 90).1 = 2 := by decide +kernel
theorem a_90 {i : Int32} (h : vp_in i 40) : aAr E0 2 90 i := ⟨t_90.1, t_90.2, h⟩
theorem q_91 : aA E0 91 2 40 := by decide +kernel
theorem t_91 : aIs E0 91 ∧ (E0.2.1 91).1 = 2 := by decide +kernel
theorem a_91 {i : Int32} (h : vp_in i 40) : aAr E0 2 91 i := ⟨t_91.1, t_91.2, h⟩
theorem q_92 : aA E0 92 2 40 := by decide +kernel
theorem t_92 : aIs E0 92 ∧ (E0.2.1 92).1 = 2 := by decide +kernel
theorem a_92 {i : Int32} (h : vp_in i 40) : aAr E0 2 92 i := ⟨t_92.1, t_92.2, h⟩
theorem o_93 : aO E0 93 10 := by decide +kernel
theorem r_93_0 : aO E0 93 10 ∧ E0.2.2 93 0 ≠ 0 := by decide +kernel
theorem r_93_1 : aO E0 93 10 ∧ E0.2.2 93 1 ≠ 0 := by decide +kernel
theorem r_93_3 : aO E0 93 10 ∧ E0.2.2 93 3 ≠ 0 := by decide +kernel
theorem r_93_5 : aO E0 93 10 ∧ E0.2.2 93 5 ≠ 0 := by decide +kernel
theorem r_93_6 : aO E0 93 10 ∧ E0.2.2 93 6 ≠ 0 := by decide +kernel
theorem r_93_7 : aO E0 93 10 ∧ E0.2.2 93 7 ≠ 0 := by decide +kernel
theorem r_93_8 : aO E0 93 10 ∧ E0.2.2 93 8 ≠ 0 := by decide +kernel
theorem r_93_9 : aO E0 93 10 ∧ E0.2.2 93 9 ≠ 0 := by decide +kernel
theorem r_93_10 : aO E0 93 10 ∧ E0.2.2 93 10 ≠ 0 := by decide +kernel
theorem r_93_11 : aO E0 93 10 ∧ E0.2.2 93 11 ≠ 0 := by decide +kernel
theorem r_93_12 : aO E0 93 10 ∧ E0.2.2 93 12 ≠ 0 := by decide +kernel
theorem r_93_13 : aO E0 93 10 ∧ E0.2.2 93 13 ≠ 0 := by decide +kernel
theorem r_93_15 : aO E0 93 10 ∧ E0.2.2 93 15 ≠ 0 := by decide +kernel
theorem r_93_16 : aO E0 93 10 ∧ E0.2.2 93 16 ≠ 0 := by decide +kernel
theorem r_93_17 : aO E0 93 10 ∧ E0.2.2 93 17 ≠ 0 := by decide +kernel
theorem r_93_24 : aO E0 93 10 ∧ E0.2.2 93 24 ≠ 0 := by decide +kernel
theorem r_93_25 : aO E0 93 10 ∧ E0.2.2 93 25 ≠ 0 := by decide +kernel
theorem r_93_26 : aO E0 93 10 ∧ E0.2.2 93 26 ≠ 0 := by decide +kernel
theorem r_93_27 : aO E0 93 10 ∧ E0.2.2 93 27 ≠ 0 := by decide +kernel
theorem r_93_28 : aO E0 93 10 ∧ E0.2.2 93 28 ≠ 0 := by decide +kernel
theorem r_93_29 : aO E0 93 10 ∧ E0.2.2 93 29 ≠ 0 := by decide +kernel
theorem q_94 : aA E0 94 1 46 := by decide +kernel
theorem t_94 : aIs E0 94 ∧ (E0.2.1 94).1 = 1 := by decide +kernel
theorem a_94 {i : Int32} (h : vp_in i 46) : aAr E0 1 94 i := ⟨t_94.1, t_94.2, h⟩
theorem q_95 : aA E0 95 1 460 := by decide +kernel
theorem t_95 : aIs E0 95 ∧ (E0.2.1 95).1 = 1 := by decide +kernel
theorem a_95 {i : Int32} (h : vp_in i 460) : aAr E0 1 95 i := ⟨t_95.1, t_95.2, h⟩
theorem q_96 : aA E0 96 1 46 := by decide +kernel
theorem t_96 : aIs E0 96 ∧ (E0.2.1 96).1 = 1 := by decide +kernel
theorem a_96 {i : Int32} (h : vp_in i 46) : aAr E0 1 96 i := ⟨t_96.1, t_96.2, h⟩
theorem q_97 : aA E0 97 1 46 := by decide +kernel
theorem t_97 : aIs E0 97 ∧ (E0.2.1 97).1 = 1 := by decide +kernel
theorem a_97 {i : Int32} (h : vp_in i 46) : aAr E0 1 97 i := ⟨t_97.1, t_97.2, h⟩
theorem q_98 : aA E0 98 2 36 := by decide +kernel
theorem t_98 : aIs E0 98 ∧ (E0.2.1 98).1 = 2 := by decide +kernel
theorem a_98 {i : Int32} (h : vp_in i 36) : aAr E0 2 98 i := ⟨t_98.1, t_98.2, h⟩
theorem q_99 : aA E0 99 2 36 := by decide +kernel
theorem t_99 : aIs E0 99 ∧ (E0.2.1 99).1 = 2 := by decide +kernel
theorem a_99 {i : Int32} (h : vp_in i 36) : aAr E0 2 99 i := ⟨t_99.1, t_99.2, h⟩
theorem q_100 : aA E0 100 1 36 := by decide +kernel
theorem t_100 : aIs E0 100 ∧ (E0.2.1 100).1 = 1 := by decide +kernel
theorem a_100 {i : Int32} (h : vp_in i 36) : aAr E0 1 100 i := ⟨t_100.1, t_100.2, h⟩
theorem q_101 : aA E0 101 3 36 := by decide +kernel
theorem t_101 : aIs E0 101 ∧ (E0.2.1 101).1 = 3 := by decide +kernel
theorem a_101 {i : Int32} (h : vp_in i 36) : aAr E0 3 101 i := ⟨t_101.1, t_101.2, h⟩
theorem q_102 : aA E0 102 2 12 := by decide +kernel
theorem t_102 : aIs E0 102 ∧ (E0.2.1 102).1 = 2 := by decide +kernel
theorem a_102 {i : Int32} (h : vp_in i 12) : aAr E0 2 102 i := ⟨t_102.1, t_102.2, h⟩
theorem q_103 : aA E0 103 1 12 := by decide +kernel
theorem t_103 : aIs E0 103 ∧ (E0.2.1 103).1 = 1 := by decide +kernel
theorem a_103 {i : Int32} (h : vp_in i 12) : aAr E0 1 103 i := ⟨t_103.1, t_103.2, h⟩
theorem q_104 : aA E0 104 1 6 := by decide +kernel
theorem t_104 : aIs E0 104 ∧ (E0.2.1 104).1 = 1 := by decide +kernel
theorem a_104 {i : Int32} (h : vp_in i 6) : aAr E0 1 104 i := ⟨t_104.1, t_104.2, h⟩
theorem q_105 : aA E0 105 1 6 := by decide +kernel
theorem t_105 : aIs E0 105 ∧ (E0.2.1 105).1 = 1 := by decide +kernel
theorem a_105 {i : Int32} (h : vp_in i 6) : aAr E0 1 105 i := ⟨t_105.1, t_105.2, h⟩
theorem q_106 : aA E0 106 2 6 := by decide +kernel
theorem t_106 : aIs E0 106 ∧ (E0.2.1 106).1 = 2 := by decide +kernel
theorem a_106 {i : Int32} (h : vp_in i 6) : aAr E0 2 106 i := ⟨t_106.1, t_106.2, h⟩
theorem q_107 : aA E0 107 2 6 := by decide +kernel
theorem t_107 : aIs E0 107 ∧ (E0.2.1 107).1 = 2 := by decide +kernel
theorem a_107 {i : Int32} (h : vp_in i 6) : aAr E0 2 107 i := ⟨t_107.1, t_107.2, h⟩
theorem q_108 : aA E0 108 1 80 := by decide +kernel
theorem t_108 : aIs E0 108 ∧ (E0.2.1 108).1 = 1 := by decide +kernel
theorem a_108 {i : Int32} (h : vp_in i 80) : aAr E0 1 108 i := ⟨t_108.1, t_108.2, h⟩
theorem q_109 : aA E0 109 1 6 := by decide +kernel
theorem t_109 : aIs E0 109 ∧ (E0.2.1 109).1 = 1 := by decide +kernel
theorem a_109 {i : Int32} (h : vp_in i 6) : aAr E0 1 109 i := ⟨t_109.1, t_109.2, h⟩
theorem q_110 : aA E0 110 1 60 := by decide +kernel
theorem t_110 : aIs E0 110 ∧ (E0.2.1 110).1 = 1 := by decide +kernel
theorem a_110 {i : Int32} (h : vp_in i 60) : aAr E0 1 110 i := ⟨t_110.1, t_110.2, h⟩
theorem q_111 : aA E0 111 3 6 := by decide +kernel
theorem t_111 : aIs E0 111 ∧ (E0.2.1 111).1 = 3 := by decide +kernel
theorem a_111 {i : Int32} (h : vp_in i 6) : aAr E0 3 111 i := ⟨t_111.1, t_111.2, h⟩
theorem q_112 : aA E0 112 1 4 := by decide +kernel
theorem t_112 : aIs E0 112 ∧ (E0.2.1 112).1 = 1 := by decide +kernel
theorem a_112 {i : Int32} (h : vp_in i 4) : aAr E0 1 112 i := ⟨t_112.1, t_112.2, h⟩
theorem q_113 : aA E0 113 1 4 := by decide +kernel
theorem t_113 : aIs E0 113 ∧ (E0.2.1 113).1 = 1 := by decide +kernel
theorem a_113 {i : Int32} (h : vp_in i 4) : aAr E0 1 113 i := ⟨t_113.1, t_113.2, h⟩
theorem q_114 : aA E0 114 2 160 := by decide +kernel
theorem t_114 : aIs E0 114 ∧ (E0.2.1 114).1 = 2 := by decide +kernel
theorem a_114 {i : Int32} (h : vp_in i 160) : aAr E0 2 114 i := ⟨t_114.1, t_114.2, h⟩

/-! RULES: branches -/
theorem Ex.icmp_eq {γ : aM} {d mc ms n0 : Nat} {al : Nat × Nat} {pc : Nat} {lo : aLo} {E : aE} {I : aI} {J : aJ} {Q : aPost} {x y : Int32} {r : List Value} {off : Int} {tgt : Nat} (hdg : decode γ.2.1 pc = .ok (.if_icmp .eq off, 3)) (ht : (pc : Int) + off = (tgt : Int)) (kt : x = y → Ex γ d mc ms n0 al tgt lo r E I J Q) (kf : ¬ (x = y) → Ex γ d mc ms n0 al (pc + 3) lo r E I J Q) : Ex γ d mc ms n0 al pc lo (.int y :: .int x :: r) E I J Q := by
  intro p l e R s m args below meth c D cA A ad0 C ad H locs ls cells slots h1 h2 hl hP hD hS hc hs
  have C0 := C
  obtain ⟨hx, hb, hml, hrt, hown, hts, hlk, hnm, ⟨hf, hlo, hrc, hrs⟩, ⟨hK, hAO⟩, hA, hX⟩ := C
  exact lv_icmp_eq hx hb hdg ht (fun q => kt q p l e R s m args below meth c D cA A ad0 C0 ad H locs ls cells slots h1 h2 hl hP hD hS hc hs) (fun q => kf q p l e R s m args below meth c D cA A ad0 C0 ad H locs ls cells slots h1 h2 hl hP hD hS hc hs)
theorem Ex.if_eq {γ : aM} {d mc ms n0 : Nat} {al : Nat × Nat} {pc : Nat} {lo : aLo} {E : aE} {I : aI} {J : aJ} {Q : aPost} {x : Int32} {r : List Value} {off : Int} {tgt : Nat} (hdg : decode γ.2.1 pc = .ok (.ifCond .eq off, 3)) (ht : (pc : Int) + off = (tgt : Int)) (kt : x = 0 → Ex γ d mc ms n0 al tgt lo r E I J Q) (kf : ¬ (x = 0) → Ex γ d mc ms n0 al (pc + 3) lo r E I J Q) : Ex γ d mc ms n0 al pc lo (.int x :: r) E I J Q := by
  intro p l e R s m args below meth c D cA A ad0 C ad H locs ls cells slots h1 h2 hl hP hD hS hc hs
  have C0 := C
  obtain ⟨hx, hb, hml, hrt, hown, hts, hlk, hnm, ⟨hf, hlo, hrc, hrs⟩, ⟨hK, hAO⟩, hA, hX⟩ := C
  exact lv_if_eq hx hb hdg ht (fun q => kt q p l e R s m args below meth c D cA A ad0 C0 ad H locs ls cells slots h1 h2 hl hP hD hS hc hs) (fun q => kf q p l e R s m args below meth c D cA A ad0 C0 ad H locs ls cells slots h1 h2 hl hP hD hS hc hs)
theorem Ex.icmp_ne {γ : aM} {d mc ms n0 : Nat} {al : Nat × Nat} {pc : Nat} {lo : aLo} {E : aE} {I : aI} {J : aJ} {Q : aPost} {x y : Int32} {r : List Value} {off : Int} {tgt : Nat} (hdg : decode γ.2.1 pc = .ok (.if_icmp .ne off, 3)) (ht : (pc : Int) + off = (tgt : Int)) (kt : ¬ x = y → Ex γ d mc ms n0 al tgt lo r E I J Q) (kf : x = y → Ex γ d mc ms n0 al (pc + 3) lo r E I J Q) : Ex γ d mc ms n0 al pc lo (.int y :: .int x :: r) E I J Q := by
  intro p l e R s m args below meth c D cA A ad0 C ad H locs ls cells slots h1 h2 hl hP hD hS hc hs
  have C0 := C
  obtain ⟨hx, hb, hml, hrt, hown, hts, hlk, hnm, ⟨hf, hlo, hrc, hrs⟩, ⟨hK, hAO⟩, hA, hX⟩ := C
  exact lv_icmp_ne hx hb hdg ht (fun q => kt q p l e R s m args below meth c D cA A ad0 C0 ad H locs ls cells slots h1 h2 hl hP hD hS hc hs) (fun q => kf q p l e R s m args below meth c D cA A ad0 C0 ad H locs ls cells slots h1 h2 hl hP hD hS hc hs)
theorem Ex.if_ne {γ : aM} {d mc ms n0 : Nat} {al : Nat × Nat} {pc : Nat} {lo : aLo} {E : aE} {I : aI} {J : aJ} {Q : aPost} {x : Int32} {r : List Value} {off : Int} {tgt : Nat} (hdg : decode γ.2.1 pc = .ok (.ifCond .ne off, 3)) (ht : (pc : Int) + off = (tgt : Int)) (kt : ¬ x = 0 → Ex γ d mc ms n0 al tgt lo r E I J Q) (kf : x = 0 → Ex γ d mc ms n0 al (pc + 3) lo r E I J Q) : Ex γ d mc ms n0 al pc lo (.int x :: r) E I J Q := by
  intro p l e R s m args below meth c D cA A ad0 C ad H locs ls cells slots h1 h2 hl hP hD hS hc hs
  have C0 := C
  obtain ⟨hx, hb, hml, hrt, hown, hts, hlk, hnm, ⟨hf, hlo, hrc, hrs⟩, ⟨hK, hAO⟩, hA, hX⟩ := C
  exact lv_if_ne hx hb hdg ht (fun q => kt q p l e R s m args below meth c D cA A ad0 C0 ad H locs ls cells slots h1 h2 hl hP hD hS hc hs) (fun q => kf q p l e R s m args below meth c D cA A ad0 C0 ad H locs ls cells slots h1 h2 hl hP hD hS hc hs)
theorem Ex.icmp_lt {γ : aM} {d mc ms n0 : Nat} {al : Nat × Nat} {pc : Nat} {lo : aLo} {E : aE} {I : aI} {J : aJ} {Q : aPost} {x y : Int32} {r : List Value} {off : Int} {tgt : Nat} (hdg : decode γ.2.1 pc = .ok (.if_icmp .lt off, 3)) (ht : (pc : Int) + off = (tgt : Int)) (kt : x < y → Ex γ d mc ms n0 al tgt lo r E I J Q) (kf : ¬ (x < y) → Ex γ d mc ms n0 al (pc + 3) lo r E I J Q) : Ex γ d mc ms n0 al pc lo (.int y :: .int x :: r) E I J Q := by
  intro p l e R s m args below meth c D cA A ad0 C ad H locs ls cells slots h1 h2 hl hP hD hS hc hs
  have C0 := C
  obtain ⟨hx, hb, hml, hrt, hown, hts, hlk, hnm, ⟨hf, hlo, hrc, hrs⟩, ⟨hK, hAO⟩, hA, hX⟩ := C
  exact lv_icmp_lt hx hb hdg ht (fun q => kt q p l e R s m args below meth c D cA A ad0 C0 ad H locs ls cells slots h1 h2 hl hP hD hS hc hs) (fun q => kf q p l e R s m args below meth c D cA A ad0 C0 ad H locs ls cells slots h1 h2 hl hP hD hS hc hs)
theorem Ex.if_lt {γ : aM} {d mc ms n0 : Nat} {al : Nat × Nat} {pc : Nat} {lo : aLo} {E : aE} {I : aI} {J : aJ} {Q : aPost} {x : Int32} {r : List Value} {off : Int} {tgt : Nat} (hdg : decode γ.2.1 pc = .ok (.ifCond .lt off, 3)) (ht : (pc : Int) + off = (tgt : Int)) (kt : x < 0 → Ex γ d mc ms n0 al tgt lo r E I J Q) (kf : ¬ (x < 0) → Ex γ d mc ms n0 al (pc + 3) lo r E I J Q) : Ex γ d mc ms n0 al pc lo (.int x :: r) E I J Q := by
  intro p l e R s m args below meth c D cA A ad0 C ad H locs ls cells slots h1 h2 hl hP hD hS hc hs
  have C0 := C
  obtain ⟨hx, hb, hml, hrt, hown, hts, hlk, hnm, ⟨hf, hlo, hrc, hrs⟩, ⟨hK, hAO⟩, hA, hX⟩ := C
  exact lv_if_lt hx hb hdg ht (fun q => kt q p l e R s m args below meth c D cA A ad0 C0 ad H locs ls cells slots h1 h2 hl hP hD hS hc hs) (fun q => kf q p l e R s m args below meth c D cA A ad0 C0 ad H locs ls cells slots h1 h2 hl hP hD hS hc hs)
theorem Ex.icmp_ge {γ : aM} {d mc ms n0 : Nat} {al : Nat × Nat} {pc : Nat} {lo : aLo} {E : aE} {I : aI} {J : aJ} {Q : aPost} {x y : Int32} {r : List Value} {off : Int} {tgt : Nat} (hdg : decode γ.2.1 pc = .ok (.if_icmp .ge off, 3)) (ht : (pc : Int) + off = (tgt : Int)) (kt : y ≤ x → Ex γ d mc ms n0 al tgt lo r E I J Q) (kf : ¬ (y ≤ x) → Ex γ d mc ms n0 al (pc + 3) lo r E I J Q) : Ex γ d mc ms n0 al pc lo (.int y :: .int x :: r) E I J Q := by
  intro p l e R s m args below meth c D cA A ad0 C ad H locs ls cells slots h1 h2 hl hP hD hS hc hs
  have C0 := C
  obtain ⟨hx, hb, hml, hrt, hown, hts, hlk, hnm, ⟨hf, hlo, hrc, hrs⟩, ⟨hK, hAO⟩, hA, hX⟩ := C
  exact lv_icmp_ge hx hb hdg ht (fun q => kt q p l e R s m args below meth c D cA A ad0 C0 ad H locs ls cells slots h1 h2 hl hP hD hS hc hs) (fun q => kf q p l e R s m args below meth c D cA A ad0 C0 ad H locs ls cells slots h1 h2 hl hP hD hS hc hs)
theorem Ex.if_ge {γ : aM} {d mc ms n0 : Nat} {al : Nat × Nat} {pc : Nat} {lo : aLo} {E : aE} {I : aI} {J : aJ} {Q : aPost} {x : Int32} {r : List Value} {off : Int} {tgt : Nat} (hdg : decode γ.2.1 pc = .ok (.ifCond .ge off, 3)) (ht : (pc : Int) + off = (tgt : Int)) (kt : 0 ≤ x → Ex γ d mc ms n0 al tgt lo r E I J Q) (kf : ¬ (0 ≤ x) → Ex γ d mc ms n0 al (pc + 3) lo r E I J Q) : Ex γ d mc ms n0 al pc lo (.int x :: r) E I J Q := by
  intro p l e R s m args below meth c D cA A ad0 C ad H locs ls cells slots h1 h2 hl hP hD hS hc hs
  have C0 := C
  obtain ⟨hx, hb, hml, hrt, hown, hts, hlk, hnm, ⟨hf, hlo, hrc, hrs⟩, ⟨hK, hAO⟩, hA, hX⟩ := C
  exact lv_if_ge hx hb hdg ht (fun q => kt q p l e R s m args below meth c D cA A ad0 C0 ad H locs ls cells slots h1 h2 hl hP hD hS hc hs) (fun q => kf q p l e R s m args below meth c D cA A ad0 C0 ad H locs ls cells slots h1 h2 hl hP hD hS hc hs)
theorem Ex.icmp_gt {γ : aM} {d mc ms n0 : Nat} {al : Nat × Nat} {pc : Nat} {lo : aLo} {E : aE} {I : aI} {J : aJ} {Q : aPost} {x y : Int32} {r : List Value} {off : Int} {tgt : Nat} (hdg : decode γ.2.1 pc = .ok (.if_icmp .gt off, 3)) (ht : (pc : Int) + off = (tgt : Int)) (kt : y < x → Ex γ d mc ms n0 al tgt lo r E I J Q) (kf : ¬ (y < x) → Ex γ d mc ms n0 al (pc + 3) lo r E I J Q) : Ex γ d mc ms n0 al pc lo (.int y :: .int x :: r) E I J Q := by
  intro p l e R s m args below meth c D cA A ad0 C ad H locs ls cells slots h1 h2 hl hP hD hS hc hs
  have C0 := C
  obtain ⟨hx, hb, hml, hrt, hown, hts, hlk, hnm, ⟨hf, hlo, hrc, hrs⟩, ⟨hK, hAO⟩, hA, hX⟩ := C
  exact lv_icmp_gt hx hb hdg ht (fun q => kt q p l e R s m args below meth c D cA A ad0 C0 ad H locs ls cells slots h1 h2 hl hP hD hS hc hs) (fun q => kf q p l e R s m args below meth c D cA A ad0 C0 ad H locs ls cells slots h1 h2 hl hP hD hS hc hs)
theorem Ex.if_gt {γ : aM} {d mc ms n0 : Nat} {al : Nat × Nat} {pc : Nat} {lo : aLo} {E : aE} {I : aI} {J : aJ} {Q : aPost} {x : Int32} {r : List Value} {off : Int} {tgt : Nat} (hdg : decode γ.2.1 pc = .ok (.ifCond .gt off, 3)) (ht : (pc : Int) + off = (tgt : Int)) (kt : 0 < x → Ex γ d mc ms n0 al tgt lo r E I J Q) (kf : ¬ (0 < x) → Ex γ d mc ms n0 al (pc + 3) lo r E I J Q) : Ex γ d mc ms n0 al pc lo (.int x :: r) E I J Q := by
  intro p l e R s m args below meth c D cA A ad0 C ad H locs ls cells slots h1 h2 hl hP hD hS hc hs
  have C0 := C
  obtain ⟨hx, hb, hml, hrt, hown, hts, hlk, hnm, ⟨hf, hlo, hrc, hrs⟩, ⟨hK, hAO⟩, hA, hX⟩ := C
  exact lv_if_gt hx hb hdg ht (fun q => kt q p l e R s m args below meth c D cA A ad0 C0 ad H locs ls cells slots h1 h2 hl hP hD hS hc hs) (fun q => kf q p l e R s m args below meth c D cA A ad0 C0 ad H locs ls cells slots h1 h2 hl hP hD hS hc hs)
theorem Ex.icmp_le {γ : aM} {d mc ms n0 : Nat} {al : Nat × Nat} {pc : Nat} {lo : aLo} {E : aE} {I : aI} {J : aJ} {Q : aPost} {x y : Int32} {r : List Value} {off : Int} {tgt : Nat} (hdg : decode γ.2.1 pc = .ok (.if_icmp .le off, 3)) (ht : (pc : Int) + off = (tgt : Int)) (kt : x ≤ y → Ex γ d mc ms n0 al tgt lo r E I J Q) (kf : ¬ (x ≤ y) → Ex γ d mc ms n0 al (pc + 3) lo r E I J Q) : Ex γ d mc ms n0 al pc lo (.int y :: .int x :: r) E I J Q := by
  intro p l e R s m args below meth c D cA A ad0 C ad H locs ls cells slots h1 h2 hl hP hD hS hc hs
  have C0 := C
  obtain ⟨hx, hb, hml, hrt, hown, hts, hlk, hnm, ⟨hf, hlo, hrc, hrs⟩, ⟨hK, hAO⟩, hA, hX⟩ := C
  exact lv_icmp_le hx hb hdg ht (fun q => kt q p l e R s m args below meth c D cA A ad0 C0 ad H locs ls cells slots h1 h2 hl hP hD hS hc hs) (fun q => kf q p l e R s m args below meth c D cA A ad0 C0 ad H locs ls cells slots h1 h2 hl hP hD hS hc hs)
theorem Ex.if_le {γ : aM} {d mc ms n0 : Nat} {al : Nat × Nat} {pc : Nat} {lo : aLo} {E : aE} {I : aI} {J : aJ} {Q : aPost} {x : Int32} {r : List Value} {off : Int} {tgt : Nat} (hdg : decode γ.2.1 pc = .ok (.ifCond .le off, 3)) (ht : (pc : Int) + off = (tgt : Int)) (kt : x ≤ 0 → Ex γ d mc ms n0 al tgt lo r E I J Q) (kf : ¬ (x ≤ 0) → Ex γ d mc ms n0 al (pc + 3) lo r E I J Q) : Ex γ d mc ms n0 al pc lo (.int x :: r) E I J Q := by
  intro p l e R s m args below meth c D cA A ad0 C ad H locs ls cells slots h1 h2 hl hP hD hS hc hs
  have C0 := C
  obtain ⟨hx, hb, hml, hrt, hown, hts, hlk, hnm, ⟨hf, hlo, hrc, hrs⟩, ⟨hK, hAO⟩, hA, hX⟩ := C
  exact lv_if_le hx hb hdg ht (fun q => kt q p l e R s m args below meth c D cA A ad0 C0 ad H locs ls cells slots h1 h2 hl hP hD hS hc hs) (fun q => kf q p l e R s m args below meth c D cA A ad0 C0 ad H locs ls cells slots h1 h2 hl hP hD hS hc hs)
theorem lgc_eq {x y : Int64} : lg_cmp x y = 0 ↔ x = y := by
  unfold lg_cmp
  by_cases h1 : x > y
  · rw [if_pos h1]
    exact ⟨fun q => absurd q (by decide), fun q => absurd h1 (by rw [q]; exact Int64.lt_irrefl)⟩
  · rw [if_neg h1]
    by_cases h2 : x = y
    · rw [if_pos h2]
      exact ⟨fun _ => h2, fun _ => rfl⟩
    · rw [if_neg h2]
      exact ⟨fun q => absurd q (by decide), fun q => absurd q h2⟩
theorem lgc_lt {x y : Int64} : lg_cmp x y < 0 ↔ x < y := by
  unfold lg_cmp
  by_cases h1 : x > y
  · rw [if_pos h1]
    refine ⟨fun q => absurd q (by decide), fun q => ?_⟩
    have h1 := Int64.lt_iff_toInt_lt.mp h1
    have q := Int64.lt_iff_toInt_lt.mp q
    omega
  · rw [if_neg h1]
    by_cases h2 : x = y
    · rw [if_pos h2]
      refine ⟨fun q => absurd q (by decide), fun q => ?_⟩
      have q := Int64.lt_iff_toInt_lt.mp q
      rw [h2] at q
      omega
    · rw [if_neg h2]
      refine ⟨fun _ => ?_, fun _ => by decide⟩
      have h3 : ¬ y.toInt < x.toInt := fun q => h1 (Int64.lt_iff_toInt_lt.mpr q)
      have h4 : ¬ x.toInt = y.toInt := fun q => h2 (Int64.toInt_inj.mp q)
      exact Int64.lt_iff_toInt_lt.mpr (by omega)
theorem lgc_gt {x y : Int64} : 0 < lg_cmp x y ↔ y < x := by
  unfold lg_cmp
  by_cases h1 : x > y
  · rw [if_pos h1]
    exact ⟨fun _ => h1, fun _ => by decide⟩
  · rw [if_neg h1]
    by_cases h2 : x = y
    · rw [if_pos h2]
      exact ⟨fun q => absurd q (by decide), fun q => absurd q h1⟩
    · rw [if_neg h2]
      exact ⟨fun q => absurd q (by decide), fun q => absurd q h1⟩
theorem i32_nlt {x y : Int32} : ¬ x < y ↔ y ≤ x := by
  rw [Int32.lt_iff_toInt_lt, Int32.le_iff_toInt_le]
  omega
theorem i64_nlt {x y : Int64} : ¬ x < y ↔ y ≤ x := by
  rw [Int64.lt_iff_toInt_lt, Int64.le_iff_toInt_le]
  omega
theorem lgc_ge {x y : Int64} : 0 ≤ lg_cmp x y ↔ y ≤ x := by
  rw [← i32_nlt, ← i64_nlt, lgc_lt]
theorem lgc_le {x y : Int64} : lg_cmp x y ≤ 0 ↔ x ≤ y := by
  rw [← i32_nlt, ← i64_nlt, lgc_gt]
theorem Ex.lif_eq {γ : aM} {d mc ms n0 : Nat} {al : Nat × Nat} {pc : Nat} {lo : aLo} {E : aE} {I : aI} {J : aJ} {Q : aPost} {x y : Int64} {r : List Value} {off : Int} {tgt : Nat} (hdg : decode γ.2.1 pc = .ok (.ifCond .eq off, 3)) (ht : (pc : Int) + off = (tgt : Int)) (kt : x = y → Ex γ d mc ms n0 al tgt lo r E I J Q) (kf : ¬ (x = y) → Ex γ d mc ms n0 al (pc + 3) lo r E I J Q) : Ex γ d mc ms n0 al pc lo (.int (lg_cmp x y) :: r) E I J Q :=
  Ex.if_eq hdg ht (fun q => kt (lgc_eq.mp q)) (fun q => kf (fun z => q (lgc_eq.mpr z)))
theorem Ex.lif_ne {γ : aM} {d mc ms n0 : Nat} {al : Nat × Nat} {pc : Nat} {lo : aLo} {E : aE} {I : aI} {J : aJ} {Q : aPost} {x y : Int64} {r : List Value} {off : Int} {tgt : Nat} (hdg : decode γ.2.1 pc = .ok (.ifCond .ne off, 3)) (ht : (pc : Int) + off = (tgt : Int)) (kt : ¬ x = y → Ex γ d mc ms n0 al tgt lo r E I J Q) (kf : x = y → Ex γ d mc ms n0 al (pc + 3) lo r E I J Q) : Ex γ d mc ms n0 al pc lo (.int (lg_cmp x y) :: r) E I J Q :=
  Ex.if_ne hdg ht (fun q => kt ((not_congr lgc_eq).mp q)) (fun q => kf (lgc_eq.mp q))
theorem Ex.lif_lt {γ : aM} {d mc ms n0 : Nat} {al : Nat × Nat} {pc : Nat} {lo : aLo} {E : aE} {I : aI} {J : aJ} {Q : aPost} {x y : Int64} {r : List Value} {off : Int} {tgt : Nat} (hdg : decode γ.2.1 pc = .ok (.ifCond .lt off, 3)) (ht : (pc : Int) + off = (tgt : Int)) (kt : x < y → Ex γ d mc ms n0 al tgt lo r E I J Q) (kf : ¬ (x < y) → Ex γ d mc ms n0 al (pc + 3) lo r E I J Q) : Ex γ d mc ms n0 al pc lo (.int (lg_cmp x y) :: r) E I J Q :=
  Ex.if_lt hdg ht (fun q => kt (lgc_lt.mp q)) (fun q => kf (fun z => q (lgc_lt.mpr z)))
theorem Ex.lif_ge {γ : aM} {d mc ms n0 : Nat} {al : Nat × Nat} {pc : Nat} {lo : aLo} {E : aE} {I : aI} {J : aJ} {Q : aPost} {x y : Int64} {r : List Value} {off : Int} {tgt : Nat} (hdg : decode γ.2.1 pc = .ok (.ifCond .ge off, 3)) (ht : (pc : Int) + off = (tgt : Int)) (kt : y ≤ x → Ex γ d mc ms n0 al tgt lo r E I J Q) (kf : ¬ (y ≤ x) → Ex γ d mc ms n0 al (pc + 3) lo r E I J Q) : Ex γ d mc ms n0 al pc lo (.int (lg_cmp x y) :: r) E I J Q :=
  Ex.if_ge hdg ht (fun q => kt (lgc_ge.mp q)) (fun q => kf (fun z => q (lgc_ge.mpr z)))
theorem Ex.lif_gt {γ : aM} {d mc ms n0 : Nat} {al : Nat × Nat} {pc : Nat} {lo : aLo} {E : aE} {I : aI} {J : aJ} {Q : aPost} {x y : Int64} {r : List Value} {off : Int} {tgt : Nat} (hdg : decode γ.2.1 pc = .ok (.ifCond .gt off, 3)) (ht : (pc : Int) + off = (tgt : Int)) (kt : y < x → Ex γ d mc ms n0 al tgt lo r E I J Q) (kf : ¬ (y < x) → Ex γ d mc ms n0 al (pc + 3) lo r E I J Q) : Ex γ d mc ms n0 al pc lo (.int (lg_cmp x y) :: r) E I J Q :=
  Ex.if_gt hdg ht (fun q => kt (lgc_gt.mp q)) (fun q => kf (fun z => q (lgc_gt.mpr z)))
theorem Ex.lif_le {γ : aM} {d mc ms n0 : Nat} {al : Nat × Nat} {pc : Nat} {lo : aLo} {E : aE} {I : aI} {J : aJ} {Q : aPost} {x y : Int64} {r : List Value} {off : Int} {tgt : Nat} (hdg : decode γ.2.1 pc = .ok (.ifCond .le off, 3)) (ht : (pc : Int) + off = (tgt : Int)) (kt : x ≤ y → Ex γ d mc ms n0 al tgt lo r E I J Q) (kf : ¬ (x ≤ y) → Ex γ d mc ms n0 al (pc + 3) lo r E I J Q) : Ex γ d mc ms n0 al pc lo (.int (lg_cmp x y) :: r) E I J Q :=
  Ex.if_le hdg ht (fun q => kt (lgc_le.mp q)) (fun q => kf (fun z => q (lgc_le.mpr z)))
theorem Ex.tabIn {γ : aM} {d mc ms n0 : Nat} {al : Nat × Nat} {pc : Nat} {lo : aLo} {E : aE} {I : aI} {J : aJ} {Q : aPost} {dflt lo1 hi1 : Int} {offs : Array Int} {len : Nat} {x : Int32} {off : Int} {tgt : Nat} {r : List Value} (hdg : decode γ.2.1 pc = .ok (.tableswitch dflt lo1 hi1 offs, len)) (q1 : ¬ x.toInt < lo1) (q2 : ¬ hi1 < x.toInt) (ho : offs[(x.toInt - lo1).toNat]? = some off) (ht : (pc : Int) + off = (tgt : Int)) (k : Ex γ d mc ms n0 al tgt lo r E I J Q) : Ex γ d mc ms n0 al pc lo (.int x :: r) E I J Q := by
  intro p l e R s m args below meth c D cA A ad0 C ad H locs ls cells slots h1 h2 hl hP hD hS hc hs
  have C0 := C
  obtain ⟨hx, hb, hml, hrt, hown, hts, hlk, hnm, ⟨hf, hlo, hrc, hrs⟩, ⟨hK, hAO⟩, hA, hX⟩ := C
  exact lv_tableIn hx hb hdg q1 q2 ho ht (k p l e R s m args below meth c D cA A ad0 C0 ad H locs ls cells slots h1 h2 hl hP hD hS hc hs)
theorem Ex.tabOut {γ : aM} {d mc ms n0 : Nat} {al : Nat × Nat} {pc : Nat} {lo : aLo} {E : aE} {I : aI} {J : aJ} {Q : aPost} {dflt lo1 hi1 : Int} {offs : Array Int} {len : Nat} {x : Int32} {tgt : Nat} {r : List Value} (hdg : decode γ.2.1 pc = .ok (.tableswitch dflt lo1 hi1 offs, len)) (q1 : x.toInt < lo1 ∨ hi1 < x.toInt) (ht : (pc : Int) + dflt = (tgt : Int)) (k : Ex γ d mc ms n0 al tgt lo r E I J Q) : Ex γ d mc ms n0 al pc lo (.int x :: r) E I J Q := by
  intro p l e R s m args below meth c D cA A ad0 C ad H locs ls cells slots h1 h2 hl hP hD hS hc hs
  have C0 := C
  obtain ⟨hx, hb, hml, hrt, hown, hts, hlk, hnm, ⟨hf, hlo, hrc, hrs⟩, ⟨hK, hAO⟩, hA, hX⟩ := C
  exact lv_tableOut hx hb hdg q1 ht (k p l e R s m args below meth c D cA A ad0 C0 ad H locs ls cells slots h1 h2 hl hP hD hS hc hs)
/-! RULES: ends -/
theorem Ex.iret {γ : aM} {d mc ms n0 : Nat} {al : Nat × Nat} {pc : Nat} {lo : aLo} {E : aE} {I : aI} {J : aJ} {Q : aPost} {v : Int32} (hr : γ.2.2.2.1 = some .int) (hdg : decode γ.2.1 pc = .ok (.ireturn, 1)) (hq : Q (some (.int v)) E I J) : Ex γ d mc ms n0 al pc lo [.int v] E I J Q := by
  intro p l e R s m args below meth c D cA A ad0 C ad H locs ls cells slots h1 h2 hl hP hD hS hc hs
  have C0 := C
  obtain ⟨hx, hb, hml, hrt, hown, hts, hlk, hnm, ⟨hf, hlo, hrc, hrs⟩, ⟨hK, hAO⟩, hA, hX⟩ := C
  refine W.widen (k := mc) (n := ms) (by omega) (by omega) ?_
  exact W.iret hx hb (hrt.trans hr) (fun t ht hW => ⟨⟨(some (.int v)), E, I, J, ad, rfl, hq, h1, h2, by rw [ht]; exact hP, hD⟩, hS.F ht⟩) hS.2.2 hdg hlk
theorem Ex.zret {γ : aM} {d mc ms n0 : Nat} {al : Nat × Nat} {pc : Nat} {lo : aLo} {E : aE} {I : aI} {J : aJ} {Q : aPost} {v : Int32} (hr : γ.2.2.2.1 = some .boolean) (hv : v = 0 ∨ v = 1) (hdg : decode γ.2.1 pc = .ok (.ireturn, 1)) (hq : Q (some (.int v)) E I J) : Ex γ d mc ms n0 al pc lo [.int v] E I J Q := by
  intro p l e R s m args below meth c D cA A ad0 C ad H locs ls cells slots h1 h2 hl hP hD hS hc hs
  have C0 := C
  obtain ⟨hx, hb, hml, hrt, hown, hts, hlk, hnm, ⟨hf, hlo, hrc, hrs⟩, ⟨hK, hAO⟩, hA, hX⟩ := C
  refine W.widen (k := mc) (n := ms) (by omega) (by omega) ?_
  exact W.zret hx hb (hrt.trans hr) (by rcases hv with rfl | rfl <;> rfl) (fun t ht hW => ⟨⟨(some (.int v)), E, I, J, ad, rfl, hq, h1, h2, by rw [ht]; exact hP, hD⟩, hS.F ht⟩) hS.2.2 hdg hlk
theorem Ex.lret {γ : aM} {d mc ms n0 : Nat} {al : Nat × Nat} {pc : Nat} {lo : aLo} {E : aE} {I : aI} {J : aJ} {Q : aPost} {v : Int64} (hr : γ.2.2.2.1 = some .long) (hdg : decode γ.2.1 pc = .ok (.lreturn, 1)) (hq : Q (some (.long v)) E I J) : Ex γ d mc ms n0 al pc lo [.long v] E I J Q := by
  intro p l e R s m args below meth c D cA A ad0 C ad H locs ls cells slots h1 h2 hl hP hD hS hc hs
  have C0 := C
  obtain ⟨hx, hb, hml, hrt, hown, hts, hlk, hnm, ⟨hf, hlo, hrc, hrs⟩, ⟨hK, hAO⟩, hA, hX⟩ := C
  refine W.widen (k := mc) (n := ms) (by omega) (by omega) ?_
  exact W.lret hx hb (hrt.trans hr) (fun t ht hW => ⟨⟨(some (.long v)), E, I, J, ad, rfl, hq, h1, h2, by rw [ht]; exact hP, hD⟩, hS.F ht⟩) hS.2.2 hdg hlk
theorem Ex.vret {γ : aM} {d mc ms n0 : Nat} {al : Nat × Nat} {pc : Nat} {lo : aLo} {E : aE} {I : aI} {J : aJ} {Q : aPost} (hr : γ.2.2.2.1 = none) (hdg : decode γ.2.1 pc = .ok (.return_, 1)) (hq : Q none E I J) : Ex γ d mc ms n0 al pc lo [] E I J Q := by
  intro p l e R s m args below meth c D cA A ad0 C ad H locs ls cells slots h1 h2 hl hP hD hS hc hs
  have C0 := C
  obtain ⟨hx, hb, hml, hrt, hown, hts, hlk, hnm, ⟨hf, hlo, hrc, hrs⟩, ⟨hK, hAO⟩, hA, hX⟩ := C
  refine W.widen (k := mc) (n := ms) (by omega) (by omega) ?_
  exact W.vret hx hb (hrt.trans hr) (fun t ht hW => ⟨⟨none, E, I, J, ad, rfl, hq, h1, h2, by rw [ht]; exact hP, hD⟩, hS.F ht⟩) hS.2.2 hdg hlk
theorem Ex.aret {γ : aM} {d mc ms n0 : Nat} {al : Nat × Nat} {pc : Nat} {lo : aLo} {E : aE} {I : aI} {J : aJ} {Q : aPost} {a : Nat} {rt : FieldType} (hr : γ.2.2.2.1 = some rt) (hv : (∃ n, rt = .object n) ∨ ∃ t, rt = .array t) (hdg : decode γ.2.1 pc = .ok (.areturn, 1)) (hq : Q (some (.ref a)) E I J) : Ex γ d mc ms n0 al pc lo [.ref a] E I J Q := by
  intro p l e R s m args below meth c D cA A ad0 C ad H locs ls cells slots h1 h2 hl hP hD hS hc hs
  have C0 := C
  obtain ⟨hx, hb, hml, hrt, hown, hts, hlk, hnm, ⟨hf, hlo, hrc, hrs⟩, ⟨hK, hAO⟩, hA, hX⟩ := C
  refine W.widen (k := mc) (n := ms) (by omega) (by omega) ?_
  exact W.aret hx hb (hrt.trans hr) hv (Or.inr ⟨_, rfl⟩) (fun t ht hW => ⟨⟨(some (.ref a)), E, I, J, ad, rfl, hq, h1, h2, by rw [ht]; exact hP, hD⟩, hS.F ht⟩) hS.2.2 hdg hlk
/-! RULES: calls -/
def aArgs : List Value → aLo
  | [] => []
  | v :: r => if v.category = 2 then some v :: none :: aArgs r else some v :: aArgs r
/-- the locals with which a method begins -/
def aEn (n : Nat) (As : List Value) : aLo := aArgs As ++ List.replicate (n - (aArgs As).length) none
theorem aArgs_len (ad : Nat → Nat) : ∀ As : List Value, (lg_sl (As.map (tv ad))).length = (aArgs As).length
  | [] => rfl
  | v :: r => by
    have ih := aArgs_len ad r
    unfold lg_sl at ih ⊢
    rw [List.map_cons, List.flatMap_cons, List.length_append, ih, tv_cat]
    show _ = (if v.category = 2 then some v :: none :: aArgs r else some v :: aArgs r).length
    by_cases h : v.category = 2
    · rw [if_pos h, if_pos h]
      simp
      omega
    · rw [if_neg h, if_neg h]
      simp
      omega
theorem aArgs_in (ad : Nat → Nat) : ∀ (As : List Value) (k j : Nat) (v : Value), (aArgs As)[j]? = some (some v) → (k + j, tv ad v) ∈ lv_args k (As.map (tv ad))
  | [], k, j, v, h => by simp [aArgs] at h
  | w :: r, k, j, v, h => by
    unfold aArgs at h
    show _ ∈ (k, tv ad w) :: lv_args (if (tv ad w).category = 2 then k + 2 else k + 1) (r.map (tv ad))
    rw [tv_cat]
    by_cases hc : w.category = 2
    · rw [if_pos hc] at h ⊢
      match j, h with
      | 0, h => cases h; exact List.mem_cons_self
      | 1, h => cases h
      | j + 2, h =>
        have := aArgs_in ad r (k + 2) j v h
        rw [show k + (j + 2) = k + 2 + j by omega]
        exact List.mem_cons_of_mem _ this
    · rw [if_neg hc] at h ⊢
      match j, h with
      | 0, h => cases h; exact List.mem_cons_self
      | j + 1, h =>
        have := aArgs_in ad r (k + 1) j v h
        rw [show k + (j + 1) = k + 1 + j by omega]
        exact List.mem_cons_of_mem _ this
theorem aL_entry (ad : Nat → Nat) {n : Nat} {As : List Value} (h : (aArgs As).length ≤ n) : aL ad ((lg_sl (As.map (tv ad)) ++ List.replicate (n - (lg_sl (As.map (tv ad))).length) Slot.unset).toArray) n (aEn n As) := by
  have hv := lv_entry (As.map (tv ad)) (n := n) (by rw [aArgs_len]; exact h)
  refine ⟨by unfold aEn; rw [List.length_append, List.length_replicate]; omega, hv.1, hv.2.1, fun q hq => hv.2.2 q ?_⟩
  obtain ⟨v, e1, e2⟩ := aLs_mem.mp hq
  unfold aEn at e1
  by_cases hl : q.1 < (aArgs As).length
  · rw [List.getElem?_append_left hl] at e1
    have := aArgs_in ad As 0 q.1 v e1
    rw [Nat.zero_add, ← e2] at this
    exact this
  · rw [List.getElem?_append_right (by omega), List.getElem?_replicate] at e1
    split at e1 <;> cases e1
def aWds (γ : aM) : List Cond := .code γ.1 γ.2.1 γ.2.2.1 γ.2.2.2.1 :: lw_tbg
def rmD (d mc ms : Nat) : Room := { frames := d, cells := mc, slots := ms, locals := 39 * d }
theorem Ex.met {γ : aM} {d mc ms : Nat} {E : aE} {I : aI} {J : aJ} {As : List Value} {Q : aPost} (hy : plainName γ.1.cls = true) (hγ : γ.2.2.2.2 = none) (hlen : (aArgs As).length ≤ γ.2.2.1) (h : Ex γ d mc ms E.1 (mc, ms) 0 (aEn γ.2.2.1 As) [] E I J Q) (l : Launch) (D : va_G) (cA : Nat → ClassId) (ad : Nat → Nat) (sz : Nat) :
    Met l γ.1 (aWds γ) (rmD d mc ms) (va_Pc (As.map (tv ad)) (fun U => U.heap.size = sz ∧ va_P D vwCl (aWs cA ad E I J) U.heap ∧ aTb D cA U ∧ va_D (fun _ => True) (aWs cA ad E I J))) (aQc Q D cA (va_A (aWs cA ad E I J) sz) ad E.1) mc ms (va_A (aWs cA ad E I J) sz) := by
  refine Met.ofW (cc := γ.2.1) (maxL := γ.2.2.1) (ret := γ.2.2.2.1) hy rfl ?_
  intro p e s m args below meth c s₁ B hml hv
  obtain ⟨rfl, hsz, hP, hK, hD0⟩ := hv
  have hts := atoms_spec (ws := aWds γ) B.pre
  have hown : s.vm.findClass γ.1.cls = some m.cls := findClass_of_methodNamed B.named
  have hnm : meth.name = γ.1.name := (name_of_methodNamed B.named B.method).1
  subst hsz
  have hD := hD0.self (sz := s.heap.size)
  have hA : ∀ q : Nat, s.heap.size ≤ q → va_A (aWs cA ad E I J) s.heap.size q := fun q h => Or.inr h
  rw [lg_entry_eq]
  exact h p l e (rmD d mc ms) s m _ below meth c D cA (va_A (aWs cA ad E I J) s.heap.size) ad ⟨B.exec, B.bytes, hml, B.returns, hown, fun w hw => hts w (List.mem_cons_of_mem _ hw), B.notSynchronized, hnm, ⟨rfl, rfl, rfl, rfl⟩, hK, hA, fun L xs q => by rw [hγ] at q; cases q⟩ ad s.heap [] _ 0 0 (Nat.le_refl _) (fun _ _ => rfl) (aL_entry ad hlen) hP hD va_S.rf (by show 0 + mc ≤ mc; omega) (by show 0 + ms ≤ ms; omega)
def aBdd (n : Nat) (st : List Value) : Prop := ∀ v ∈ st, ∀ r, v = .ref r → r ≤ n
def aBdl (n : Nat) (lo : aLo) : Prop := ∀ v, some v ∈ lo → ∀ r, v = .ref r → r ≤ n
theorem tv_bdd {ad ad' : Nat → Nat} {n : Nat} {v : Value} (h : ∀ r, r ≤ n → ad' r = ad r) (hv : ∀ r, v = .ref r → r ≤ n) : tv ad' v = tv ad v := by
  cases v with
  | ref r =>
    show Value.ref (ad' r) = Value.ref (ad r)
    rw [h r (hv r rfl)]
  | _ => rfl
theorem aBdd_map {ad ad' : Nat → Nat} {n : Nat} {st : List Value} (h : ∀ r, r ≤ n → ad' r = ad r) (hv : aBdd n st) : st.map (tv ad') = st.map (tv ad) := List.map_congr_left (fun v hm => tv_bdd h (hv v hm))
theorem aL_bdd {ad ad' : Nat → Nat} {n nL : Nat} {ls : Array Slot} {lo : aLo} (h : ∀ r, r ≤ n → ad' r = ad r) (hv : aBdl n lo) (hl : aL ad ls nL lo) : aL ad' ls nL lo := by
  refine ⟨hl.1, hl.2.1, hl.2.2.1, fun q hq => hl.2.2.2 q ?_⟩
  obtain ⟨v, e1, e2⟩ := aLs_mem.mp hq
  exact aLs_mem.mpr ⟨v, e1, by rw [e2]; exact tv_bdd h (fun r e => hv v (List.mem_of_getElem? e1) r e)⟩
/-- what stands behind every call -/
theorem Ex.after {γ : aM} {d mc ms n0 : Nat} {al : Nat × Nat} {pc : Nat} {lo : aLo} {st rest : List Value} {E : aE} {I : aI} {J : aJ} {Q Q' : aPost} {mc' ms' : Nat} (hal : mc' ≤ al.1 ∧ ms' ≤ al.2) (hbd : (∀ r E' I' J', Q' r E' I' J' → E' = E) ∨ (aBdd E.1 rest ∧ aBdl E.1 lo))
    (run : ∀ (p : Program) (l : Launch) (e : Env) (R : Room) (s : State) (m : MethodId) (args : Array Value) (below : List Frame) (meth : Method) (c : Code) (D : va_G) (cA : Nat → ClassId) (A : Nat → Prop) (ad0 : Nat → Nat), aCtx γ d mc ms p R s m args meth c D cA A ad0 → ∀ (ad : Nat → Nat) (H : Heap) (locs : List Loc) (ls : Array Slot) (cells slots : Nat), aL ad ls γ.2.2.1 lo → va_P D vwCl (aWs cA ad E I J) H → va_D A (aWs cA ad E I J) → cells + al.1 ≤ mc → slots + al.2 ≤ ms →
      va_Run p l e R s m args below meth c H locs cells slots mc' ms' (F0 m pc ls (st.map (tv ad))) (rest.map (tv ad)) (fun st o t => ∃ a, aQc Q' D cA (va_A (aWs cA ad E I J) H.size) ad E.1 a st o t) (va_A (aWs cA ad E I J) H.size))
    (k : ∀ r E' I' J', Q' r E' I' J' → Ex γ d mc ms n0 (al.1 - mc', al.2 - ms') (pc + 3) lo (r.toList ++ rest) E' I' J' Q) : Ex γ d mc ms n0 al pc lo st E I J Q := by
  intro p l e R s m args below meth c D cA A ad0 C ad H locs ls cells slots h1 h2 hl hP hD hS hc hs
  have C0 := C
  obtain ⟨hx, hb, hml, hrt, hown, hts, hlk, hnm, ⟨hf, hlo, hrc, hrs⟩, ⟨hK, hAO⟩, hA, hX⟩ := C
  intro T hT X
  obtain ⟨v, st₀, t, T', L, g1, X', hL, e1, e2, ⟨a, ⟨⟨r, E', I', J', ad', c1, c2, c3, c4, c5, c6⟩, hz, hk⟩⟩, stp⟩ := run p l e R s m args below meth c D cA A ad0 C0 ad H locs ls cells slots hl hP hD hc hs T hT X
  have hFc : ∀ q, va_A (aWs cA ad E I J) H.size q → A q := by
    intro q h
    rcases h with ⟨k9, e9, h⟩ | h
    · exact hD.2 k9 _ h
    · exact hA q (Nat.le_trans hS.1 h)
  rw [g1] at hz hk
  have hE : ∀ r, r ≤ E.1 → ad' r = ad r := fun r h => c4 r (Or.inl h)
  have hst : rest.map (tv ad') = rest.map (tv ad) ∧ aL ad' ls γ.2.2.1 lo := by
    rcases hbd with hbd | hbd
    · have e3 := hbd _ _ _ _ c2
      have : ad' = ad := funext fun r => c4 r (by rw [e3]; omega)
      rw [this]
      exact ⟨rfl, hl⟩
    · exact ⟨aBdd_map hE hbd.1, aL_bdd hE hbd.2 hl⟩
  have hv : v.toList ++ rest.map (tv ad) = (r.toList ++ rest).map (tv ad') := by
    cases c1
    rw [List.map_append, hst.1]
    cases r <;> rfl
  have hS1 : va_S A s.heap T'.heap (locs ++ L) := ⟨Nat.le_trans hS.1 (by rw [e1]; exact hz), fun q h3 h4 => by rw [e1, hk q (Nat.lt_of_lt_of_le h3 hS.1) (fun z => h4 (hFc q z))]; exact hS.2.1 q h3 h4, fun q hq => by
      rcases List.mem_append.mp hq with h | h
      · exact hS.2.2 q h
      · exact hFc _ (hL q h)⟩
  obtain ⟨t2, a1, b1⟩ := k r E' I' J' c2 p l e R s m args below meth c D cA A ad0 C0 ad' T'.heap (locs ++ L) ls (cells + mc') (slots + ms') (Nat.le_trans h1 c3) (fun r h => by
    rcases h with h | h
    · rw [hE r (Nat.le_trans h h1)]; exact h2 r (Or.inl h)
    · rw [c4 r (Or.inr h)]; exact h2 r (Or.inr (by omega))) hst.2 (by rw [e1]; exact c5) (c6.weaken (fun _ _ _ h => hFc _ h)) hS1 (by show cells + mc' + (al.1 - mc') ≤ mc; omega) (by show slots + ms' + (al.2 - ms') ≤ ms; omega) T' rfl X'
  have stp := stp t2
  dsimp only at stp
  rw [hv] at stp
  exact ⟨t2, stp a1, b1⟩
/-- the tables know the called method -/
def aKn (γ' : aM) (n : Nat) : Prop := plainName γ'.1.cls = true ∧ γ'.2.2.2.2 = none ∧ Cond.code γ'.1 γ'.2.1 γ'.2.2.1 γ'.2.2.2.1 ∈ lw_tbg ∧ Cond.initialized γ'.1.cls ∈ lw_tbg ∧ (γ'.1.cls ≠ "java/lang/invoke/MethodHandle" ∧ γ'.1.cls ≠ "java/lang/invoke/VarHandle" ∧ (parseMethodDescriptor γ'.1.desc).map (fun d => d.parameters.length) = some n) ∧ γ'.2.2.1 ≤ 20
theorem lw_good : ∀ w ∈ lw_tbg, (w.onTables && w.keeps) = true ∨ ∃ ty, w = .arrayClass ty := fun w hw => good_of_word (List.mem_filter.mp hw).2
theorem aKn_good {γ' : aM} {n : Nat} (h : aKn γ' n) : GoodIn lw_tbg (aWds γ') := by
  intro w hw
  rcases List.mem_cons.mp hw with rfl | hw
  · exact ⟨h.2.2.1, lw_good _ h.2.2.1⟩
  · exact ⟨hw, lw_good _ hw⟩
theorem aKn_call {γ' : aM} {n idx d d' mc' ms' : Nat} {own : String} {R : Room} {s : State} {args : Array Value} (h : aKn γ' n) (hts : ∀ w ∈ lw_tbg, w.before args s = true) (hf : R.frames = d' + 1) (hlo : R.locals = 39 * (d' + 1)) (hdd : d = d') (hl : Cond.methodLink own idx γ'.1 ∈ lw_tbg) : CallB R s args own idx γ'.1 γ'.2.1 γ'.2.2.1 γ'.2.2.2.1 (aWds γ') (rmD d mc' ms') mc' ms' n := by
  subst hdd
  refine callB_of n hts (aKn_good h) rfl rfl rfl (hts _ h.2.2.2.1) (hts _ hl) h.2.2.2.2.1 ⟨by rw [hf]; exact Nat.le_refl _, ?_⟩
  have := h.2.2.2.2.2
  show 8 + (γ'.2.2.1 + 11) + 39 * d ≤ R.locals
  omega
theorem aPre_blind {av : List Value} {sz : Nat} {D : va_G} {cA : Nat → ClassId} {ws : va_W} : FrameBlind (va_Pc av (fun U => U.heap.size = sz ∧ va_P D vwCl ws U.heap ∧ aTb D cA U ∧ va_D (fun _ => True) ws)) := fun a U g mk q => by
  obtain ⟨q0, q1, qP, qK, qD⟩ := q
  exact ⟨q0, q1, qP, aTb.moved (u := U) (U := U.calling g mk a) (Vm.Alike.refl U.vm) qK, qD⟩
def aNone : List Value → Prop := fun _ => True
theorem Ex.callV {γ γ' : aM} {d mc ms n0 : Nat} {al : Nat × Nat} {pc idx ci n : Nat} {lo : aLo} {st As rest : List Value} {b : Nat} {E : aE} {I : aI} {J : aJ} {Q : aPost} {Q' : Option Value → aI → aJ → Prop} {T : u_T} {N : Nat}
    (hkn : aKn γ' n) (hl : Cond.methodLink γ.1.cls idx γ'.1 ∈ lw_tbg) (hi : Cond.instanceMethod γ'.1 ∈ lw_tbg) (hsel : Cond.selects γ'.1.cls γ'.1 γ'.1 ∈ lw_tbg) (hcl : vwCl[ci]? = some (γ'.1.cls, T, N)) (hdg : decode γ.2.1 pc = .ok (.invokevirtual idx, 3))
    (hst : st = As.reverse ++ .ref b :: rest) (hn : As.length = n) (hle : (aArgs (.ref b :: As)).length ≤ γ'.2.2.1) (h8 : aSm rest ≤ 8) (hb : aO E b ci)
    (hc : Ex γ' d 0 0 E.1 (0, 0) 0 (aEn γ'.2.2.1 (.ref b :: As)) [] E I J (fun r E' I' J' => E' = E ∧ Q' r I' J'))
    (k : ∀ r I' J', Q' r I' J' → Ex γ (d + 1) mc ms n0 al (pc + 3) lo (r.toList ++ rest) E I' J' Q) : Ex γ (d + 1) mc ms n0 al pc lo st E I J Q := by
  refine Ex.after (mc' := 0) (ms' := 0) (rest := rest) (Q' := fun r E' I' J' => E' = E ∧ Q' r I' J') ⟨Nat.zero_le _, Nat.zero_le _⟩ (Or.inl fun r E' I' J' q => q.1) ?_ (fun r E' I' J' q => ?_)
  · intro p l e R s m args below meth c D cA A ad0 C ad H locs ls cells slots hl0 hP hD hc0 hs0
    obtain ⟨hx, hbb, hml, hrt, hown, hts, hlk, hnm, ⟨hf, hlo, hrc, hrs⟩, ⟨hK, hAO⟩, hA, hX⟩ := C
    have hM := Ex.met hkn.1 hkn.2.1 hle hc l D cA ad H.size
    have hcb := aKn_call (mc' := 0) (ms' := 0) (own := γ.1.cls) hkn hts hf hlo rfl hl
    have he := aWs_at (cA := cA) (ad := ad) (I := I) (J := J) hb.1
    rw [aEnt_o hb.2] at he
    subst hst
    have r := va_runV (As := As.map (tv ad)) (rest := rest.map (tv ad)) (b := ad b) (locs := locs) (cells := cells) (slots := slots) (H := H) (g := F0 m pc ls ((As.reverse ++ .ref b :: rest).map (tv ad))) (below := below) (meth := meth) (e := e) (l := l) (nL := γ.2.2.1) ⟨hx, hbb, hml, hown, hts⟩ hM ⟨hcb, hts _ hi, hts _ hsel⟩ ⟨aPre_blind, va_recv hK hP hcl he, fun U hU hW => ⟨rfl, by rw [hU], by rw [hU]; exact hP, aTb.moved hW.alike ⟨hK, hAO⟩, hD.weaken (fun _ _ _ _ => trivial)⟩⟩ rfl (by rw [List.length_map]; exact hn) hl0.2.1 (by show (As.reverse ++ Value.ref b :: rest).map (tv ad) = _; rw [List.map_append, List.map_reverse]; rfl) (lv_room (by rw [aSm_tv]; exact h8)) hdg ⟨by omega, by omega⟩
    intro T hT X
    obtain ⟨v, st₀, t, T', L, g1, X', hL, e1, e2, hq, stp⟩ := r T hT X
    exact ⟨v, st₀, t, T', L, g1, X', hL, e1, e2, ⟨_, hq⟩, stp⟩
  · obtain ⟨rfl, q⟩ := q
    exact k r I' J' q
theorem Ex.callS {γ γ' : aM} {d mc ms n0 : Nat} {al : Nat × Nat} {pc idx n : Nat} {lo : aLo} {st As rest : List Value} {E : aE} {I : aI} {J : aJ} {Q : aPost} {Q' : Option Value → aI → aJ → Prop}
    (hkn : aKn γ' n) (hl : Cond.methodLink γ.1.cls idx γ'.1 ∈ lw_tbg) (hi : Cond.static γ'.1 ∈ lw_tbg) (hdg : decode γ.2.1 pc = .ok (.invokestatic idx, 3))
    (hst : st = As.reverse ++ rest) (hn : As.length = n) (hle : (aArgs As).length ≤ γ'.2.2.1) (h8 : aSm rest ≤ 8)
    (hc : Ex γ' d 0 0 E.1 (0, 0) 0 (aEn γ'.2.2.1 As) [] E I J (fun r E' I' J' => E' = E ∧ Q' r I' J'))
    (k : ∀ r I' J', Q' r I' J' → Ex γ (d + 1) mc ms n0 al (pc + 3) lo (r.toList ++ rest) E I' J' Q) : Ex γ (d + 1) mc ms n0 al pc lo st E I J Q := by
  refine Ex.after (mc' := 0) (ms' := 0) (rest := rest) (Q' := fun r E' I' J' => E' = E ∧ Q' r I' J') ⟨Nat.zero_le _, Nat.zero_le _⟩ (Or.inl fun r E' I' J' q => q.1) ?_ (fun r E' I' J' q => ?_)
  · intro p l e R s m args below meth c D cA A ad0 C ad H locs ls cells slots hl0 hP hD hc0 hs0
    obtain ⟨hx, hbb, hml, hrt, hown, hts, hlk, hnm, ⟨hf, hlo, hrc, hrs⟩, ⟨hK, hAO⟩, hA, hX⟩ := C
    have hM := Ex.met hkn.1 hkn.2.1 hle hc l D cA ad H.size
    have hcb := aKn_call (mc' := 0) (ms' := 0) (own := γ.1.cls) hkn hts hf hlo rfl hl
    subst hst
    have r := va_runS (As := As.map (tv ad)) (rest := rest.map (tv ad)) (locs := locs) (cells := cells) (slots := slots) (H := H) (g := F0 m pc ls ((As.reverse ++ rest).map (tv ad))) (below := below) (meth := meth) (e := e) (l := l) (nL := γ.2.2.1) ⟨hx, hbb, hml, hown, hts⟩ hM ⟨hcb, hts _ hi⟩ ⟨aPre_blind, fun U hU hW => ⟨rfl, by rw [hU], by rw [hU]; exact hP, aTb.moved hW.alike ⟨hK, hAO⟩, hD.weaken (fun _ _ _ _ => trivial)⟩⟩ rfl (by rw [List.length_map]; exact hn) hl0.2.1 (by show (As.reverse ++ rest).map (tv ad) = _; rw [List.map_append, List.map_reverse]) (lv_room (by rw [aSm_tv]; exact h8)) hdg ⟨by omega, by omega⟩
    intro T hT X
    obtain ⟨v, st₀, t, T', L, g1, X', hL, e1, e2, hq, stp⟩ := r T hT X
    exact ⟨v, st₀, t, T', L, g1, X', hL, e1, e2, ⟨_, hq⟩, stp⟩
  · obtain ⟨rfl, q⟩ := q
    exact k r I' J' q
/-- a constructor's call: it may make cells -/
theorem Ex.callI {γ γ' : aM} {d mc ms n0 mc' ms' : Nat} {al : Nat × Nat} {pc idx n : Nat} {lo : aLo} {st As rest : List Value} {b : Nat} {E : aE} {I : aI} {J : aJ} {Q Q' : aPost}
    (hkn : aKn γ' n) (hret : γ'.2.2.2.1 = none) (hl : Cond.methodLink γ.1.cls idx γ'.1 ∈ lw_tbg) (hi : Cond.instanceMethod γ'.1 ∈ lw_tbg) (hy1 : γ'.1.name = "<init>") (hdg : decode γ.2.1 pc = .ok (.invokespecial idx, 3))
    (hst : st = As.reverse ++ .ref b :: rest) (hn : As.length = n) (hle : (aArgs (.ref b :: As)).length ≤ γ'.2.2.1) (h8 : aSm rest ≤ 8) (hal : mc' ≤ al.1 ∧ ms' ≤ al.2) (hbd : aBdd E.1 rest ∧ aBdl E.1 lo)
    (hc : Ex γ' d mc' ms' E.1 (mc', ms') 0 (aEn γ'.2.2.1 (.ref b :: As)) [] E I J Q')
    (k : ∀ r E' I' J', Q' r E' I' J' → Ex γ (d + 1) mc ms n0 (al.1 - mc', al.2 - ms') (pc + 3) lo (r.toList ++ rest) E' I' J' Q) : Ex γ (d + 1) mc ms n0 al pc lo st E I J Q := by
  refine Ex.after (mc' := mc') (ms' := ms') (rest := rest) (Q' := Q') hal (Or.inr hbd) ?_ k
  intro p l e R s m args below meth c D cA A ad0 C ad H locs ls cells slots hl0 hP hD hc0 hs0
  obtain ⟨hx, hbb, hml, hrt, hown, hts, hlk, hnm, ⟨hf, hlo, hrc, hrs⟩, ⟨hK, hAO⟩, hA, hX⟩ := C
  have hM := Ex.met hkn.1 hkn.2.1 hle hc l D cA ad H.size
  have hcb := aKn_call (mc' := mc') (ms' := ms') (own := γ.1.cls) hkn hts hf hlo rfl hl
  rw [hret] at hcb
  subst hst
  have r := va_runI (As := As.map (tv ad)) (rest := rest.map (tv ad)) (b := ad b) (locs := locs) (cells := cells) (slots := slots) (H := H) (g := F0 m pc ls ((As.reverse ++ .ref b :: rest).map (tv ad))) (below := below) (meth := meth) (e := e) (l := l) (nL := γ.2.2.1) ⟨hx, hbb, hml, hown, hts⟩ hM ⟨hcb, hy1, hts _ hi⟩ ⟨aPre_blind, fun U hU hW => ⟨rfl, by rw [hU], by rw [hU]; exact hP, aTb.moved hW.alike ⟨hK, hAO⟩, hD.weaken (fun _ _ _ _ => trivial)⟩⟩ rfl (by rw [List.length_map]; exact hn) hl0.2.1 (by show (As.reverse ++ Value.ref b :: rest).map (tv ad) = _; rw [List.map_append, List.map_reverse]; rfl) (lv_room (by rw [aSm_tv]; exact h8)) hdg ⟨by omega, by omega⟩
  intro T hT X
  obtain ⟨v, st₀, t, T', L, g1, X', hL, e1, e2, hq, stp⟩ := r T hT X
  exact ⟨v, st₀, t, T', L, g1, X', hL, e1, e2, ⟨_, hq⟩, stp⟩

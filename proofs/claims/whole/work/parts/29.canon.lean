/-! TRANSPORT: the canonical coupling -/
theorem lex {n i j x y : Nat} (hj : j < n) (hy : y < n) : x * n + y < i * n + j ↔ x < i ∨ (x = i ∧ y < j) := by
  constructor
  · intro h
    by_cases e : x < i
    · exact Or.inl e
    · by_cases e2 : x = i
      · subst e2; exact Or.inr ⟨rfl, by omega⟩
      · have h1 : (i + 1) * n ≤ x * n := Nat.mul_le_mul_right n (by omega)
        rw [Nat.add_mul, Nat.one_mul] at h1
        omega
  · intro h
    rcases h with h | ⟨rfl, h⟩
    · have h1 : (x + 1) * n ≤ i * n := Nat.mul_le_mul_right n (by omega)
      rw [Nat.add_mul, Nat.one_mul] at h1
      omega
    · omega
/-- the entry is as small as those before it let it be -/
def Low (n : Nat) (U V : Nat → Nat) (dd f : Nat → Nat → Nat) (i j : Nat) : Prop := ∀ g, Cpl n U V g → cst n dd g ≤ cst n dd f → (∀ x y, x < n → y < n → x * n + y < i * n + j → g x y = f x y) → f i j ≤ g i j
theorem Low_same {n : Nat} {U V : Nat → Nat} {dd f f' : Nat → Nat → Nat} {i j : Nat} (h : Low n U V dd f i j) (hc : cst n dd f' ≤ cst n dd f) (hi : i < n) (hj : j < n) (hs : ∀ x y, x < n → y < n → x * n + y ≤ i * n + j → f' x y = f x y) : Low n U V dd f' i j := fun g hg hcg hag => by
  rw [hs i j hi hj (Nat.le_refl _)]
  exact h g hg (Nat.le_trans hcg hc) (fun x y hx hy hl => by rw [hag x y hx hy hl]; exact hs x y hx hy (Nat.le_of_lt hl))
theorem Low_0 {n : Nat} {U V : Nat → Nat} {dd f : Nat → Nat → Nat} {i j : Nat} (h : f i j = 0) : Low n U V dd f i j := fun g _ _ _ => by omega
/-- a bound for finitely many numbers -/
theorem bnd2 (f : Nat → Nat → Int) : ∀ n m : Nat, ∃ K : Int, 0 ≤ K ∧ ∀ i j, i < n → j < m → f i j ≤ K := by
  have one : ∀ (g : Nat → Int) (m : Nat), ∃ K : Int, 0 ≤ K ∧ ∀ j, j < m → g j ≤ K := by
    intro g m
    induction m with
    | zero => exact ⟨0, Int.le_refl _, fun j hj => by omega⟩
    | succ m ih =>
      obtain ⟨K, h0, h⟩ := ih
      by_cases e : g m ≤ K
      · exact ⟨K, h0, fun j hj => by
          by_cases z : j = m
          · rw [z]; exact e
          · exact h j (by omega)⟩
      · exact ⟨g m, by omega, fun j hj => by
          by_cases z : j = m
          · rw [z]; exact Int.le_refl _
          · have := h j (by omega)
            omega⟩
  intro n m
  induction n with
  | zero => exact ⟨0, Int.le_refl _, fun i j hi _ => by omega⟩
  | succ n ih =>
    obtain ⟨K, h0, h⟩ := ih
    obtain ⟨K', h0', h'⟩ := one (f n) m
    exact ⟨K + K', by omega, fun i j hi hj => by
      by_cases z : i = n
      · rw [z]; have := h' j hj; omega
      · have := h i j (by omega) hj; omega⟩
/-- no way around: the entry is low -/
theorem low_find {n : Nat} {U V : Nat → Nat} {dd : Nat → Nat → Nat} {F : Nat → Nat} {u v : Nat → Int} {i0 j0 : Nat} {R C : Nat → Int} {cb rb r c : Nat → Nat} (hn : n ≤ 6) (hi0 : i0 < n) (hj0 : j0 < n) (hF : Cpl n U V (mx F)) (hO : Opt n dd (mx F) u v) (hd : ∀ i j, i < n → j < n → dd i j ≤ 1000000000000000) (h : FPF n (fun i j => i0 * 6 + j0 + 1 ≤ i * 6 + j) dd (mx F) u v i0 12000000000000000 R C cb rb r c) (hlt : (dd i0 j0 : Int) < C j0) : Low n U V dd (mx F) i0 j0 := by
  obtain ⟨h1, ⟨b1, b2⟩, h4, h6, h7, h8, h9⟩ := h
  have nf : ∀ x : Int, x ≤ 24000000000000000 → x ≠ FAR := fun x hx e => by rw [e] at hx; exact absurd hx (by decide)
  obtain ⟨K1, k10, k1⟩ := bnd2 (fun i j => C j - u i) n n
  obtain ⟨K2, k20, k2⟩ := bnd2 (fun i j => (dd i j : Int) - v j + 1) n n
  intro g hg hcg hag
  refine low_ok (dd := dd) (f := mx F) (g := g) (cpl_sm hF hg) (a := fun i => if R i = FAR then u i + (K1 + K2) else R i) (b := fun j => if C j = FAR then v j + (K1 + K2) else C j) hi0 hj0 ?_ (fun i j hi hj hl => ?_) hag hcg
  · rw [if_neg (nf _ (by rw [h1.1]; omega)), h1.1]
    by_cases e : C j0 = FAR
    · rw [if_pos e]
      have := k2 i0 j0 hi0 hj0
      omega
    · rw [if_neg e]; omega
  · have hA : i0 * 6 + j0 + 1 ≤ i * 6 + j := by
      rcases (lex hj hj0).mp hl with q | q <;> omega
    have o := hO i j hi hj
    by_cases eR : R i = FAR
    · rw [if_pos eR]
      by_cases eC : C j = FAR
      · rw [if_pos eC]
        exact ⟨by omega, fun hp => by have := o.2 hp; omega⟩
      · rw [if_neg eC]
        have := k1 i j hi hj
        refine ⟨by omega, fun hp => ?_⟩
        have q := h9 i j hi hj hA hp eC
        have := b2 j hj eC
        exact absurd eR (nf _ (by omega))
    · rw [if_neg eR]
      have q8 := h8 i j hi hj hA eR
      have := b1 i hi eR
      have := hd i j hi hj
      have eC : C j ≠ FAR := nf _ (by omega)
      rw [if_neg eC]
      refine ⟨by omega, fun hp => ?_⟩
      have := h9 i j hi hj hA hp eC
      omega
/-- a way around without a loss is tight for the old prices -/
theorem way_tight {n : Nat} {A : Nat → Nat → Prop} {dd f : Nat → Nat → Nat} {u v : Nat → Int} {s : Nat} {K : Int} {R C : Nat → Int} {cb rb r c : Nat → Nat} (hO : Opt n dd f u v) (h : FPF n A dd f u v s K R C cb rb r c) {j m : Nat} (hw : Wy n A dd f s R C cb rb r j m) (hj : C j - v j = -u s) : ∀ t, t ≤ m → C (wcl cb rb j t) - v (wcl cb rb j t) = -u s ∧ (dd (wro cb rb j t) (wcl cb rb j t) : Int) + u (wro cb rb j t) - v (wcl cb rb j t) = 0
  | 0, ht => by
    have c0 := hw.2.1 0 ht
    have b := h.2.1.1 _ c0.2.1 c0.2.2.2.2.1
    have o := (hO _ _ c0.2.1 c0.1).1
    have e : C (wcl cb rb j 0) - v (wcl cb rb j 0) = -u s := hj
    exact ⟨e, by omega⟩
  | t + 1, ht => by
    have ih := way_tight hO h hw hj t (by omega)
    have c0 := hw.2.1 t (by omega)
    have c1 := hw.2.1 (t + 1) ht
    have hh := hw.2.2 t (by omega)
    have o1 := (hO _ _ c0.2.1 c1.1).2 hh.2.2.2.1
    have o2 := (hO _ _ c1.2.1 c1.1).1
    have b := h.2.1.1 _ c1.2.1 c1.2.2.2.2.1
    have e : C (wcl cb rb j (t + 1)) - v (wcl cb rb j (t + 1)) = -u s := by omega
    exact ⟨e, by omega⟩
/-- the flow after an entry gave way by a -/
def rdF (F cb rb : Nat → Nat) (j a m q0 : Nat) : Nat → Nat := cup (shF F cb rb j a m) q0 (F q0 - a)
theorem rd_ok {n : Nat} {U V : Nat → Nat} {dd : Nat → Nat → Nat} {F : Nat → Nat} {u v : Nat → Int} {i0 j0 : Nat} {R C : Nat → Int} {cb rb r c : Nat → Nat} (hn : n ≤ 6) (hi0 : i0 < n) (hj0 : j0 < n) (hF : Cpl n U V (mx F)) (hz : Oz n F) (hO : Opt n dd (mx F) u v) (h : FPF n (fun i j => i0 * 6 + j0 + 1 ≤ i * 6 + j) dd (mx F) u v i0 12000000000000000 R C cb rb r c) {m a : Nat} (hw : Wy n (fun i j => i0 * 6 + j0 + 1 ≤ i * 6 + j) dd (mx F) i0 R C cb rb r j0 m) (ha : ∀ t, t < m → a ≤ mx F (wro cb rb j0 t) (wcl cb rb j0 (t + 1))) (haF : a ≤ F (i0 * 6 + j0)) (hp : 0 < F (i0 * 6 + j0)) (hle : C j0 ≤ (dd i0 j0 : Int)) : Cpl n U V (mx (rdF F cb rb j0 a m (i0 * 6 + j0))) ∧ Oz n (rdF F cb rb j0 a m (i0 * 6 + j0)) ∧ Opt n dd (mx (rdF F cb rb j0 a m (i0 * 6 + j0))) u v ∧ (∀ x y, x < n → y < n → x * 6 + y < i0 * 6 + j0 → rdF F cb rb j0 a m (i0 * 6 + j0) (x * 6 + y) = F (x * 6 + y)) := by
  have mg := shF_marg hw hn ha
  have sp := fun x y hx hy => shF_supp (a := a) hw hn x y hx hy
  have e0 : shF F cb rb j0 a m (i0 * 6 + j0) = F (i0 * 6 + j0) := (sp i0 j0 hi0 hj0).1 (by omega)
  have hj : C j0 - v j0 = -u i0 := by
    have c0 := hw.2.1 0 (Nat.zero_le _)
    have hC : C j0 ≠ FAR := c0.2.2.2.2.2.1
    have b := h.2.1.2 j0 hj0 hC
    have o := (hO i0 j0 hi0 hj0).2 hp
    omega
  have tg := way_tight hO h hw hj
  refine ⟨⟨fun x hx => ?_, fun y hy => ?_⟩, fun q hq ho => ?_, fun x y hx hy => ⟨(hO x y hx hy).1, fun hpos => ?_⟩, fun x y hx hy hl => ?_⟩
  · have q := row_cup (H := shF F cb rb j0 a m) (v := F (i0 * 6 + j0) - a) (i0 := i0) hn hj0 x
    have q1 := mg.1 x hx
    have q2 := hF.1 x hx
    show sm (fun y => mx (cup (shF F cb rb j0 a m) (i0 * 6 + j0) (F (i0 * 6 + j0) - a)) x y) n = U x
    by_cases z : x = i0
    · rw [if_pos z, if_pos z, e0] at q
      rw [if_pos z] at q1
      omega
    · rw [if_neg z, if_neg z] at q
      rw [if_neg z] at q1
      omega
  · have q := col_cup (H := shF F cb rb j0 a m) (v := F (i0 * 6 + j0) - a) hn hi0 hj0 y hy
    have q1 := mg.2 y hy
    have q2 := hF.2 y hy
    show sm (fun x => mx (cup (shF F cb rb j0 a m) (i0 * 6 + j0) (F (i0 * 6 + j0) - a)) x y) n = V y
    by_cases z : y = j0
    · rw [if_pos z, if_pos z, e0] at q
      rw [if_pos z] at q1
      omega
    · rw [if_neg z, if_neg z] at q
      rw [if_neg z] at q1
      omega
  · show cup _ _ _ q = 0
    rw [cup_ne (ho i0 j0 hi0 hj0), shF_out hw q ho]
    exact hz q hq ho
  · by_cases z : x * 6 + y = i0 * 6 + j0
    · have zx : x = i0 := by omega
      have zy : y = j0 := by omega
      rw [zx, zy]
      exact (hO i0 j0 hi0 hj0).2 hp
    · have hpos : 0 < cup (shF F cb rb j0 a m) (i0 * 6 + j0) (F (i0 * 6 + j0) - a) (x * 6 + y) := hpos
      rw [cup_ne z] at hpos
      rcases (sp x y hx hy).2 hpos with q | ⟨t, ht, rfl, rfl⟩
      · exact (hO x y hx hy).2 q
      · exact (tg t ht).2
  · show cup _ _ _ (x * 6 + y) = _
    rw [cup_ne (by omega)]
    exact (sp x y hx hy).1 (by omega)
theorem s_reduce (d : Nat) (I : aI) (J : aJ) (n : Nat) (dd : Nat → Nat → Nat) (U V F : Nat → Nat) (u v : Nat → Int) (hT : Sv n dd U V F u v I J) (hU : ∀ i, i < n → U i ≤ 12) (i0 j0 : Nat) (hi0 : i0 < n) (hj0 : j0 < n) : Sp m_X8_reduceEntry (d + 3) [.ref 47, .int (nI i0), .int (nI j0)] E0 I J (fun r I' J' => r = none ∧ (∃ F', Sv n dd U V F' u v I' J' ∧ Low n U V dd (mx F') i0 j0 ∧ ∀ x y, x < n → y < n → x * 6 + y < i0 * 6 + j0 → F' (x * 6 + y) = F (x * 6 + y)) ∧ (∀ q, ¬ (q = 48 ∨ q = 54 ∨ q = 55) → I' q = I q) ∧ ∀ q, ¬ (q = 52 ∨ q = 53) → J' q = J q) := by
  refine Sp.of (lo := [some (.ref 47), some (.int (nI i0)), some (.int (nI j0)), none, none, none]) rfl (fun Q hQ => ?_)
  have hn := hT.1.1
  have L1 : ∀ k, k ≤ 12 → ∀ (I1 : aI) (J1 : aJ) (F1 : Nat → Nat), ((Sv n dd U V F1 u v I1 J1 ∧ F1 (i0 * 6 + j0) + k ≤ 12 ∧ ∀ x y, x < n → y < n → x * 6 + y < i0 * 6 + j0 → F1 (x * 6 + y) = F (x * 6 + y)) ∧ (∀ q, ¬ (q = 48 ∨ q = 54 ∨ q = 55) → I1 q = I q) ∧ ∀ q, ¬ (q = 52 ∨ q = 53) → J1 q = J q) → Ez m_X8_reduceEntry (d + 3) 10 [some (.ref 47), some (.int (nI i0)), some (.int (nI j0)), some (.int (nI (i0 * 6 + j0))), some (.int (nI k)), none] [] E0 I1 J1 Q := by
    refine for_up ?_ ?_
    · intro I1 J1 F1 hi
      refine Ez.blk B_X8_reduceEntry_10 (lo' := [some (.ref 47), some (.int (nI i0)), some (.int (nI j0)), some (.int (nI (i0 * 6 + j0))), some (.int (nI 12)), none]) (st' := [.int 12, .int (nI 12)]) (I' := I1) (J' := J1) (Ps := []) rfl trivial ?_
      refine Ez.n_icmp_ge (off := 74) (tgt := 88) (by decide +kernel) (by decide) (a := 12) (b := 12) rfl rfl (by omega) (by omega) (fun h => ?_) (fun h => absurd h (by omega))
      exact Ez.vret rfl (by decide +kernel) (hQ _ _ _ ⟨rfl, ⟨F1, hi.1.1, Low_0 (show F1 (i0 * 6 + j0) = 0 by omega), hi.1.2.2⟩, hi.2⟩)
    · intro k hk ih I1 J1 F1 hi
      obtain ⟨⟨hT1, hk1, hSo⟩, hfi, hfj⟩ := id hi
      obtain ⟨tq, tF, tc, tz, tO⟩ := id hT1
      have hF12 : ∀ q, q < 36 → F1 q ≤ 12 := Mg_le (S := fun _ => 0) (D := fun _ => 0) ⟨tc.1, tc.2⟩ hU tz
      have hFc := hF12 (i0 * 6 + j0) (by omega)
      refine Ez.blk B_X8_reduceEntry_10 (lo' := [some (.ref 47), some (.int (nI i0)), some (.int (nI j0)), some (.int (nI (i0 * 6 + j0))), some (.int (nI k)), none]) (st' := [.int 12, .int (nI k)]) (I' := I1) (J' := J1) (Ps := []) rfl trivial ?_
      refine Ez.n_icmp_ge (off := 74) (tgt := 88) (by decide +kernel) (by decide) (a := k) (b := 12) rfl rfl (by omega) (by omega) (fun h => absurd h (by omega)) (fun h => ?_)
      refine Ez.blk B_X8_reduceEntry_17 (lo' := [some (.ref 47), some (.int (nI i0)), some (.int (nI j0)), some (.int (nI (i0 * 6 + j0))), some (.int (nI k)), none]) (st' := [.int (I1 48 ((nI (i0 * 6 + j0)).toNatClampNeg))]) (I' := I1) (J' := J1) (Ps := [aO E0 47 8 ∧ E0.2.2 47 0 ≠ 0, aAr E0 1 48 (nI (i0 * 6 + j0))]) rfl ⟨r_47_0, (a_48 (vin (n := (i0 * 6 + j0)) rfl (by omega) (by decide)))⟩ ?_
      rw [cln (x := nI (i0 * 6 + j0)) (n := (i0 * 6 + j0)) rfl (by omega)]
      refine Ez.n_if_le (off := 65) (tgt := 88) (by decide +kernel) (by decide) (a := (F1 (i0 * 6 + j0))) (tF _ (by omega)) (by omega) (fun h2 => ?_) (fun h2 => ?_)
      · exact Ez.vret rfl (by decide +kernel) (hQ _ _ _ ⟨rfl, ⟨F1, hi.1.1, Low_0 (show F1 (i0 * 6 + j0) = 0 by omega), hi.1.2.2⟩, hi.2⟩)
      · refine Ez.blk B_X8_reduceEntry_26 (lo' := [some (.ref 47), some (.int (nI i0)), some (.int (nI j0)), some (.int (nI (i0 * 6 + j0))), some (.int (nI k)), none]) (st' := [.int (nI (i0 * 6 + j0) + 1), .int (nI i0), .ref 47]) (I' := I1) (J' := J1) (Ps := []) rfl trivial ?_
        rw [show nI (i0 * 6 + j0) + 1 = nI (i0 * 6 + j0 + 1) from eq_add (a := i0 * 6 + j0) (b := 1) rfl rfl]
        refine Ez.callV (As := [.int (nI i0), .int (nI (i0 * 6 + j0 + 1))]) (b := 47) (rest := []) kn_X8_findPaths ml_8_73 im_X8_findPaths se_X8_findPaths rfl (by decide +kernel) rfl rfl (Nat.le_of_ble_eq_true rfl) (Nat.le_of_ble_eq_true rfl) o_47 (s_find _ I1 J1 n dd tq F1 (fun q hq => ⟨tF q hq, by have := hF12 q hq; omega⟩) (i0 * 6 + j0 + 1) (by omega) i0 hi0 u v (Rp_opt tO (fun i j hi hj => (tq.2.2 i j hi hj).2))) (fun r I3 J3 hq => ?_)
        obtain ⟨rfl, ⟨R, C, cb, rb, r, c, ⟨zR, zC⟩, ⟨pc, pr⟩, hff⟩, fj, fi⟩ := hq
        have hcc := tq.2.2 i0 j0 hi0 hj0
        have gC := Bd_rg hff.2.1.2 (by decide) j0 hj0
        have e49 : J3 49 (i0 * 6 + j0) = zL (dd i0 j0 : Int) := by rw [fj 49 (by decide) (by decide), hcc.1]; rfl
        have e48 : I3 48 (i0 * 6 + j0) = nI (F1 (i0 * 6 + j0)) := by rw [fi 48 (by decide) (by decide)]; exact tF _ (by omega)
        have hT3 : Sv n dd U V F1 u v I3 J3 := ⟨⟨hn, by rw [fi 47 (by decide) (by decide)]; exact tq.2.1, by rw [fj 49 (by decide) (by decide)]; exact tq.2.2⟩, fun q hq => by rw [fi 48 (by decide) (by decide)]; exact tF q hq, tc, tz, tO⟩
        have frI : ∀ q, ¬ (q = 48 ∨ q = 54 ∨ q = 55) → I3 q = I q := fun q hq => by rw [fi q (by omega) (by omega)]; exact hfi q hq
        have frJ : ∀ q, ¬ (q = 52 ∨ q = 53) → J3 q = J q := fun q hq => by rw [fj q (by omega) (by omega)]; exact hfj q hq
        have cmp : zL (C j0) ≤ zL (dd i0 j0 : Int) ↔ C j0 ≤ (dd i0 j0 : Int) := zL_le (by rcases gC with z | z <;> omega) (by omega)
        refine Ez.blk B_X8_reduceEntry_34 (lo' := [some (.ref 47), some (.int (nI i0)), some (.int (nI j0)), some (.int (nI (i0 * 6 + j0))), some (.int (nI k)), none]) (st' := [.int (lg_cmp (J3 53 ((nI j0).toNatClampNeg)) (J3 49 ((nI (i0 * 6 + j0)).toNatClampNeg)))]) (I' := I3) (J' := J3) (Ps := [aO E0 47 8 ∧ E0.2.2 47 6 ≠ 0, aAr E0 2 53 (nI j0), aO E0 47 8 ∧ E0.2.2 47 2 ≠ 0, aAr E0 2 49 (nI (i0 * 6 + j0))]) rfl ⟨r_47_6, (a_53 (vin (n := j0) rfl (by omega) (by decide))), r_47_2, (a_49 (vin (n := (i0 * 6 + j0)) rfl (by omega) (by decide)))⟩ ?_
        rw [cln (x := nI j0) (n := j0) rfl (by omega)]
        rw [cln (x := nI (i0 * 6 + j0)) (n := (i0 * 6 + j0)) rfl (by omega)]
        rw [zC j0 hj0]
        rw [e49]
        refine Ez.lif_le (off := 4) (tgt := 51) (by decide +kernel) (by decide) (fun h3 => ?_) (fun h3 => ?_)
        · have hle := cmp.mp h3
          have hCj : C j0 ≠ FAR := by
            intro z
            rw [z] at hle
            have : (9223372036854775807 : Int) ≤ (dd i0 j0 : Int) := hle
            omega
          obtain ⟨m, hm, hw⟩ := fp_way hff (r (rb j0 - 1)) j0 hj0 hCj rfl
          have hmn : m < n := by
            have q := hw.2.1 0 (Nat.zero_le _)
            have q2 := hff.2.2.1 _ q.2.1 q.2.2.2.2.1
            have : wro cb rb j0 0 = rb j0 - 1 := rfl
            rw [this] at q2
            omega
          refine Ez.blk B_X8_reduceEntry_51 (lo' := [some (.ref 47), some (.int (nI i0)), some (.int (nI j0)), some (.int (nI (i0 * 6 + j0))), some (.int (nI k)), none]) (st' := [.int (I3 48 ((nI (i0 * 6 + j0)).toNatClampNeg)), .int (nI j0), .ref 47]) (I' := I3) (J' := J3) (Ps := [aO E0 47 8 ∧ E0.2.2 47 0 ≠ 0, aAr E0 1 48 (nI (i0 * 6 + j0))]) rfl ⟨r_47_0, (a_48 (vin (n := (i0 * 6 + j0)) rfl (by omega) (by decide)))⟩ ?_
          rw [cln (x := nI (i0 * 6 + j0)) (n := (i0 * 6 + j0)) rfl (by omega)]
          rw [e48]
          refine Ez.callV (As := [.int (nI j0), .int (nI (F1 (i0 * 6 + j0)))]) (b := 47) (rest := []) kn_X8_slackOfPath ml_8_77 im_X8_slackOfPath se_X8_slackOfPath rfl (by decide +kernel) rfl rfl (Nat.le_of_ble_eq_true rfl) (Nat.le_of_ble_eq_true rfl) o_47 (s_slack _ I3 J3 n hn hT3.1.2.1 F1 (fun q hq => ⟨hT3.2.1 q hq, by have := hF12 q hq; omega⟩) _ dd i0 R C cb rb r pc pr j0 m hmn hw hff.1.2 (F1 (i0 * 6 + j0)) (by omega)) (fun r2 I4 J4 hq => ?_)
          obtain ⟨rfl, rfl, rfl⟩ := hq
          have sl1 := slk_le (mx F1) cb rb j0 (F1 (i0 * 6 + j0)) m
          have sl2 : 0 < slk (mx F1) cb rb j0 (F1 (i0 * 6 + j0)) m := slk_pos (by omega) m (fun t ht => (hw.2.2 t ht).2.2.2.1)
          generalize hsl : slk (mx F1) cb rb j0 (F1 (i0 * 6 + j0)) m = a at *
          refine Ez.blk B_X8_reduceEntry_62 (lo' := [some (.ref 47), some (.int (nI i0)), some (.int (nI j0)), some (.int (nI (i0 * 6 + j0))), some (.int (nI k)), some (.int (nI a))]) (st' := [.int (nI a), .int (nI j0), .ref 47]) (I' := I4) (J' := J4) (Ps := []) rfl trivial ?_
          refine Ez.callV (As := [.int (nI j0), .int (nI a)]) (b := 47) (rest := []) kn_X8_shiftAlongPath ml_8_80 im_X8_shiftAlongPath se_X8_shiftAlongPath rfl (by decide +kernel) rfl rfl (Nat.le_of_ble_eq_true rfl) (Nat.le_of_ble_eq_true rfl) o_47 (s_shift _ I4 J4 n hn hT3.1.2.1 F1 (fun q hq => ⟨hT3.2.1 q hq, by have := hF12 q hq; omega⟩) _ dd i0 R C cb rb r pc pr j0 m hmn hw hff.1.2 a (by omega) (fun t ht => sl1.2 t ht)) (fun r2 I5 J5 hq => ?_)
          obtain ⟨rfl, rfl, k1, k2⟩ := hq
          obtain ⟨q1, q2, q3, q4⟩ := rd_ok hn.2 hi0 hj0 tc tz tO hff hw (fun t ht => sl1.2 t ht) sl1.1 (by omega) hle
          have own : shF F1 cb rb j0 a m (i0 * 6 + j0) = F1 (i0 * 6 + j0) := (shF_supp (a := a) hw hn.2 i0 j0 hi0 hj0).1 (by omega)
          have e48 : I5 48 (i0 * 6 + j0) = nI (F1 (i0 * 6 + j0)) := by rw [k1 _ (by omega), own]
          refine Ez.blk B_X8_reduceEntry_71 (lo' := [some (.ref 47), some (.int (nI i0)), some (.int (nI j0)), some (.int (nI (i0 * 6 + j0))), some (.int (nI k + 1)), some (.int (nI a))]) (st' := []) (I' := (aUp I5 48 ((nI (i0 * 6 + j0)).toNatClampNeg) (I5 48 ((nI (i0 * 6 + j0)).toNatClampNeg) - nI a))) (J' := J5) (Ps := [aO E0 47 8 ∧ E0.2.2 47 0 ≠ 0, aAr E0 1 48 (nI (i0 * 6 + j0)), aAr E0 1 48 (nI (i0 * 6 + j0))]) rfl ⟨r_47_0, (a_48 (vin (n := (i0 * 6 + j0)) rfl (by omega) (by decide))), (a_48 (vin (n := (i0 * 6 + j0)) rfl (by omega) (by decide)))⟩ ?_
          rw [cln (x := nI (i0 * 6 + j0)) (n := (i0 * 6 + j0)) rfl (by omega)]
          rw [show (nI k + 1) = nI (k + 1) from (eq_add (a := k) (b := 1) rfl rfl)]
          rw [e48, pk_sub sl1.1]
          refine Ez.drops [5] (lo' := [some (.ref 47), some (.int (nI i0)), some (.int (nI j0)), some (.int (nI (i0 * 6 + j0))), some (.int (nI (k + 1))), none]) rfl ?_
          generalize hI6 : (aUp I5 48 (i0 * 6 + j0) (nI (F1 (i0 * 6 + j0) - a))) = I6
          have f6 : ∀ q, q ≠ 48 → I6 q = I4 q := fun q h0 => by rw [← hI6, aUp_ne h0]; exact k2 q h0
          refine ih I6 J5 (rdF F1 cb rb j0 a m (i0 * 6 + j0)) ⟨⟨⟨⟨hn, by rw [f6 47 (by decide)]; exact hT3.1.2.1, hT3.1.2.2⟩, fun q hq => ?_, q1, q2, q3⟩, ?_, fun x y hx hy hl => by rw [q4 x y hx hy hl]; exact hSo x y hx hy hl⟩, fun q hq => by rw [f6 q (by omega)]; exact frI q hq, frJ⟩
          · rw [← hI6]
            unfold rdF
            by_cases e : q = i0 * 6 + j0
            · rw [e, aUp_eq, cup_eq]
            · rw [aUp_nk e, cup_ne e]; exact k1 q hq
          · unfold rdF
            rw [cup_eq]
            omega
        · exact Ez.vret rfl (by decide +kernel) (hQ _ _ _ ⟨rfl, ⟨F1, hT3, low_find hn.2 hi0 hj0 tc tO (fun i j hi hj => (tq.2.2 i j hi hj).2) hff (Int.not_le.mp (fun z => h3 (cmp.mpr z))), hSo⟩, frI, frJ⟩)
  refine Ez.blk B_X8_reduceEntry_0 (lo' := [some (.ref 47), some (.int (nI i0)), some (.int (nI j0)), some (.int ((nI i0 * 6) + nI j0)), some (.int 0), none]) (st' := []) (I' := I) (J' := J) (Ps := []) rfl trivial ?_
  rw [show ((nI i0 * 6) + nI j0) = nI (i0 * 6 + j0) from (eq_add (a := (i0 * 6)) (b := j0) (eq_mul (a := i0) (b := 6) rfl rfl) rfl)]
  exact L1 0 (by omega) I J F ⟨⟨hT, by have := Mg_le (S := fun _ => 0) (D := fun _ => 0) ⟨hT.2.2.1.1, hT.2.2.1.2⟩ hU hT.2.2.2.1 (i0 * 6 + j0) (by omega); omega, fun _ _ _ _ _ => rfl⟩, fun _ _ => rfl, fun _ _ => rfl⟩
theorem s_canon (d : Nat) (I : aI) (J : aJ) (n : Nat) (dd : Nat → Nat → Nat) (U V F : Nat → Nat) (u v : Nat → Int) (hT : Sv n dd U V F u v I J) (hU : ∀ i, i < n → U i ≤ 12) : Sp m_X8_makeCanonical (d + 4) [.ref 47] E0 I J (fun r I' J' => r = none ∧ (∃ F', Sv n dd U V F' u v I' J' ∧ Can n U V dd (mx F')) ∧ (∀ q, ¬ (q = 48 ∨ q = 54 ∨ q = 55) → I' q = I q) ∧ ∀ q, ¬ (q = 52 ∨ q = 53) → J' q = J q) := by
  refine Sp.of (lo := [some (.ref 47), none, none]) rfl (fun Q hQ => ?_)
  have hn := hT.1.1
  have L1 : ∀ k, k ≤ n → ∀ (I1 : aI) (J1 : aJ) (F1 : Nat → Nat), ((Sv n dd U V F1 u v I1 J1 ∧ ∀ x y, x < n → y < n → x < k → Low n U V dd (mx F1) x y) ∧ (∀ q, ¬ (q = 48 ∨ q = 54 ∨ q = 55) → I1 q = I q) ∧ ∀ q, ¬ (q = 52 ∨ q = 53) → J1 q = J q) → Ez m_X8_makeCanonical (d + 4) 2 [some (.ref 47), some (.int (nI k)), none] [] E0 I1 J1 Q := by
    refine for_up ?_ ?_
    · intro I1 J1 F1 hi
      refine Ez.blk B_X8_makeCanonical_2 (lo' := [some (.ref 47), some (.int (nI n)), none]) (st' := [.int (I1 47 1), .int (nI n)]) (I' := I1) (J' := J1) (Ps := [aO E0 47 8]) rfl o_47 ?_
      refine Ez.n_icmp_ge (off := 31) (tgt := 38) (by decide +kernel) (by decide) (a := n) (b := n) rfl hi.1.1.1.2.1 (by omega) (by omega) (fun h => ?_) (fun h => absurd h (by omega))
      exact Ez.vret rfl (by decide +kernel) (hQ _ _ _ ⟨rfl, ⟨F1, hi.1.1, hi.1.1.2.2.1, fun g hg => opt_min hi.1.1.2.2.2.2 (cpl_sm hi.1.1.2.2.1 hg), fun g hg hc x y hx hy => hi.1.2 x y hx hy hx g hg hc⟩, hi.2⟩)
    · intro k hk ih I1 J1 F1 hi
      refine Ez.blk B_X8_makeCanonical_2 (lo' := [some (.ref 47), some (.int (nI k)), none]) (st' := [.int (I1 47 1), .int (nI k)]) (I' := I1) (J' := J1) (Ps := [aO E0 47 8]) rfl o_47 ?_
      refine Ez.n_icmp_ge (off := 31) (tgt := 38) (by decide +kernel) (by decide) (a := k) (b := n) rfl hi.1.1.1.2.1 (by omega) (by omega) (fun h => absurd h (by omega)) (fun h => ?_)
      refine Ez.blk B_X8_makeCanonical_10 (lo' := [some (.ref 47), some (.int (nI k)), some (.int 0)]) (st' := []) (I' := I1) (J' := J1) (Ps := []) rfl trivial ?_
      have L2 : ∀ q, q ≤ n → ∀ (I2 : aI) (J2 : aJ) (F2 : Nat → Nat), ((Sv n dd U V F2 u v I2 J2 ∧ ∀ x y, x < n → y < n → (x < k ∨ (x = k ∧ y < q)) → Low n U V dd (mx F2) x y) ∧ (∀ z, ¬ (z = 48 ∨ z = 54 ∨ z = 55) → I2 z = I z) ∧ ∀ z, ¬ (z = 52 ∨ z = 53) → J2 z = J z) → Ez m_X8_makeCanonical (d + 4) 12 [some (.ref 47), some (.int (nI k)), some (.int (nI q))] [] E0 I2 J2 Q := by
        refine for_up ?_ ?_
        · intro I2 J2 F2 hi2
          refine Ez.blk B_X8_makeCanonical_12 (lo' := [some (.ref 47), some (.int (nI k)), some (.int (nI n))]) (st' := [.int (I2 47 1), .int (nI n)]) (I' := I2) (J' := J2) (Ps := [aO E0 47 8]) rfl o_47 ?_
          refine Ez.n_icmp_ge (off := 15) (tgt := 32) (by decide +kernel) (by decide) (a := n) (b := n) rfl hi2.1.1.1.2.1 (by omega) (by omega) (fun h9 => ?_) (fun h9 => absurd h9 (by omega))
          refine Ez.blk B_X8_makeCanonical_32 (lo' := [some (.ref 47), some (.int (nI k + 1)), some (.int (nI n))]) (st' := []) (I' := I2) (J' := J2) (Ps := []) rfl trivial ?_
          rw [show (nI k + 1) = nI (k + 1) from (eq_add (a := k) (b := 1) rfl rfl)]
          refine Ez.drops [2] (lo' := [some (.ref 47), some (.int (nI (k + 1))), none]) rfl ?_
          exact ih I2 J2 F2 ⟨⟨hi2.1.1, fun x y hx hy hl => hi2.1.2 x y hx hy (by omega)⟩, hi2.2⟩
        · intro q hq ih2 I2 J2 F2 hi2
          refine Ez.blk B_X8_makeCanonical_12 (lo' := [some (.ref 47), some (.int (nI k)), some (.int (nI q))]) (st' := [.int (I2 47 1), .int (nI q)]) (I' := I2) (J' := J2) (Ps := [aO E0 47 8]) rfl o_47 ?_
          refine Ez.n_icmp_ge (off := 15) (tgt := 32) (by decide +kernel) (by decide) (a := q) (b := n) rfl hi2.1.1.1.2.1 (by omega) (by omega) (fun h9 => absurd h9 (by omega)) (fun h9 => ?_)
          refine Ez.blk B_X8_makeCanonical_20 (lo' := [some (.ref 47), some (.int (nI k)), some (.int (nI q))]) (st' := [.int (nI q), .int (nI k), .ref 47]) (I' := I2) (J' := J2) (Ps := []) rfl trivial ?_
          refine Ez.callV (As := [.int (nI k), .int (nI q)]) (b := 47) (rest := []) kn_X8_reduceEntry ml_8_83 im_X8_reduceEntry se_X8_reduceEntry rfl (by decide +kernel) rfl rfl (Nat.le_of_ble_eq_true rfl) (Nat.le_of_ble_eq_true rfl) o_47 (s_reduce _ I2 J2 n dd U V F2 u v hi2.1.1 hU k q hk hq) (fun r I3 J3 hq2 => ?_)
          obtain ⟨rfl, ⟨F3, m1, m2, m3⟩, fi, fj⟩ := hq2
          refine Ez.blk B_X8_makeCanonical_26 (lo' := [some (.ref 47), some (.int (nI k)), some (.int (nI q + 1))]) (st' := []) (I' := I3) (J' := J3) (Ps := []) rfl trivial ?_
          rw [show (nI q + 1) = nI (q + 1) from (eq_add (a := q) (b := 1) rfl rfl)]
          exact ih2 I3 J3 F3 ⟨⟨m1, fun x y hx hy hl => by
            by_cases e : x = k ∧ y = q
            · rw [e.1, e.2]; exact m2
            · exact Low_same (hi2.1.2 x y hx hy (by omega)) (opt_min m1.2.2.2.2 (cpl_sm m1.2.2.1 hi2.1.1.2.2.1)) hx hy (fun x' y' hx' hy' hl' => m3 x' y' hx' hy' (by
                by_cases z : x' * n + y' < x * n + y
                · rcases (lex hy hy').mp z with w | w <;> omega
                · have z2 : ¬ (x < x' ∨ (x = x' ∧ y < y')) := fun w => by have := (lex hy' hy).mpr w; omega
                  omega))⟩, fun z hz => by rw [fi z hz]; exact hi2.2.1 z hz, fun z hz => by rw [fj z hz]; exact hi2.2.2 z hz⟩
      exact L2 0 (by omega) I1 J1 F1 ⟨⟨hi.1.1, fun x y hx hy hl => hi.1.2 x y hx hy (by omega)⟩, hi.2⟩
  refine Ez.blk B_X8_makeCanonical_0 (lo' := [some (.ref 47), some (.int 0), none]) (st' := []) (I' := I) (J' := J) (Ps := []) rfl trivial ?_
  exact L1 0 (by omega) I J F ⟨⟨hT, fun x y _ _ hl => by omega⟩, fun _ _ => rfl, fun _ _ => rfl⟩

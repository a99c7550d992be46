/-! TRANSPORT: sending -/
/-- cells beyond the matrix are empty -/
def Oz (n : Nat) (F : Nat → Nat) : Prop := ∀ q, q < 36 → (∀ x y, x < n → y < n → q ≠ x * 6 + y) → F q = 0
/-- what is sent, what is left to send, what is still wanted -/
def Mg (n : Nat) (U V F S D : Nat → Nat) : Prop := (∀ i, i < n → sm (fun y => mx F i y) n + S i = U i) ∧ ∀ j, j < n → sm (fun x => mx F x j) n + D j = V j
theorem sm_add (f g : Nat → Nat) : ∀ n, sm (fun i => f i + g i) n = sm f n + sm g n
  | 0 => rfl
  | n + 1 => by
    show sm (fun i => f i + g i) n + (f n + g n) = sm f n + f n + (sm g n + g n)
    rw [sm_add f g n]
    omega
theorem sm_zero {f : Nat → Nat} : ∀ {n : Nat}, (∀ i, i < n → f i = 0) → sm f n = 0
  | 0, _ => rfl
  | n + 1, h => by
    show sm f n + f n = 0
    rw [sm_zero (n := n) (fun i hi => h i (by omega)), h n (by omega)]
theorem sm_swap (h : Nat → Nat → Nat) (m : Nat) : ∀ n, sm (fun i => sm (fun j => h i j) m) n = sm (fun j => sm (fun i => h i j) n) m
  | 0 => by
    show (0 : Nat) = sm (fun j => 0) m
    rw [sm_zero (fun _ _ => rfl)]
  | n + 1 => by
    show sm (fun i => sm (fun j => h i j) m) n + sm (fun j => h n j) m = sm (fun j => sm (fun i => h i j) n + h n j) m
    rw [sm_swap h m n, sm_add]
theorem Mg_bal {n : Nat} {U V F S D : Nat → Nat} (h : Mg n U V F S D) (hUV : sm U n = sm V n) : sm S n = sm D n := by
  have h1 : sm U n = sm (fun i => sm (fun y => mx F i y) n + S i) n := (sm_ext (fun i hi => (h.1 i hi))).symm
  have h2 : sm V n = sm (fun j => sm (fun x => mx F x j) n + D j) n := (sm_ext (fun j hj => (h.2 j hj))).symm
  rw [sm_add (fun i => sm (fun y => mx F i y) n) S] at h1
  rw [sm_add (fun j => sm (fun x => mx F x j) n) D] at h2
  have h3 := sm_swap (fun i j => mx F i j) n n
  omega
theorem Mg_le {n : Nat} {U V F S D : Nat → Nat} (h : Mg n U V F S D) (hU : ∀ i, i < n → U i ≤ 12) (hz : Oz n F) (q : Nat) (hq : q < 36) : F q ≤ 12 := by
  by_cases e : ∃ x y, x < n ∧ y < n ∧ q = x * 6 + y
  · obtain ⟨x, y, hx, hy, rfl⟩ := e
    have h1 := h.1 x hx
    have h2 := sm_le (f := fun y => mx F x y) hy
    have := hU x hx
    dsimp only [mx] at h1 h2
    omega
  · rw [hz q hq (fun x y hx hy z => e ⟨x, y, hx, hy, z⟩)]
    omega
theorem sm_ex {f : Nat → Nat} : ∀ {n : Nat}, 0 < sm f n → ∃ j, j < n ∧ 0 < f j
  | 0, h => by cases h
  | n + 1, h => by
    have h : 0 < sm f n + f n := h
    by_cases e : 0 < f n
    · exact ⟨n, by omega, e⟩
    · obtain ⟨j, hj, hf⟩ := sm_ex (f := f) (n := n) (by omega)
      exact ⟨j, by omega, hf⟩
theorem Rp_opt {n a : Nat} {dd f : Nat → Nat → Nat} {u v : Nat → Int} (h : Opt n dd f u v) (hd : ∀ i j, i < n → j < n → dd i j ≤ 1000000000000000) : Rp n 1000000000000000 (fun i j => a ≤ i * 6 + j) dd f u v := fun i j hi hj => ⟨hd i j hi hj, fun _ => h i j hi hj⟩
/-- a shift along a shortest way keeps the coupling optimal for its margins -/
theorem aug {n : Nat} {dd : Nat → Nat → Nat} {F : Nat → Nat} {u v : Nat → Int} {s : Nat} {R C : Nat → Int} {cb rb r c : Nat → Nat} (hn : n ≤ 6) (hs : s < n) (hd : ∀ i j, i < n → j < n → dd i j ≤ 1000000000000000) (h : FPF n (fun i j => 0 ≤ i * 6 + j) dd (mx F) u v s 12000000000000000 R C cb rb r c) {j m a : Nat} (hw : Wy n (fun i j => 0 ≤ i * 6 + j) dd (mx F) s R C cb rb r j m) : Opt n dd (mx (shF F cb rb j a m)) (fun i => if R i = FAR then 13000000000000000 else R i) C := by
  obtain ⟨h1, ⟨b1, b2⟩, h4, h6, h7, h8, h9⟩ := h
  have nf : ∀ x : Int, x ≤ 24000000000000000 → x ≠ FAR := fun x hx e => by rw [e] at hx; exact absurd hx (by decide)
  have cn : ∀ y, y < n → C y ≠ FAR := fun y hy => by
    have q := h8 s y hs hy (Nat.zero_le _) (nf _ (by rw [h1.1]; omega))
    have := hd s y hs hy
    exact nf _ (by have := h1.1; omega)
  intro x y hx hy
  have cy := b2 y hy (cn y hy)
  have hsup := (shF_supp (a := a) hw hn x y hx hy).2
  by_cases e : R x = FAR
  · dsimp only
    rw [if_pos e]
    refine ⟨by omega, fun hp => ?_⟩
    rcases hsup hp with q | ⟨t, ht, rfl, rfl⟩
    · have := h9 x y hx hy (Nat.zero_le _) q (cn y hy)
      exact absurd e (nf _ (by omega))
    · exact absurd e (hw.2.1 t ht).2.2.2.2.1
  · dsimp only
    rw [if_neg e]
    have q8 := h8 x y hx hy (Nat.zero_le _) e
    refine ⟨by omega, fun hp => ?_⟩
    rcases hsup hp with q | ⟨t, ht, rfl, rfl⟩
    · have := h9 x y hx hy (Nat.zero_le _) q (cn y hy)
      omega
    · have := (hw.2.1 t ht).2.2.2.2.2.2
      omega
/-- the state of a sending -/
def Tr (n : Nat) (dd : Nat → Nat → Nat) (U V F S D : Nat → Nat) (u v : Nat → Int) (I : aI) (J : aJ) : Prop := Tq n dd I J ∧ (∀ q, q < 36 → I 48 q = nI (F q)) ∧ (∀ i, i < n → I 50 i = nI (S i)) ∧ (∀ j, j < n → I 51 j = nI (D j)) ∧ Mg n U V F S D ∧ Oz n F ∧ Opt n dd (mx F) u v
theorem s_open (d : Nat) (I : aI) (J : aJ) (n : Nat) (hn : 1 ≤ n ∧ n ≤ 6) (hsz : I 47 1 = nI n) (D : Nat → Nat) (hD : ∀ j, j < n → I 51 j = nI (D j) ∧ D j ≤ 12) : Sp m_X8_openColumn (d + 1) [.ref 47] E0 I J (fun r I' J' => ((∃ j, j < n ∧ 0 < D j ∧ r = some (.int (nI j))) ∨ ((∀ j, j < n → D j = 0) ∧ r = some (.int (-1)))) ∧ I' = I ∧ J' = J) := by
  refine Sp.of (lo := [some (.ref 47), none]) rfl (fun Q hQ => ?_)
  have L1 : ∀ k, k ≤ n → (∀ j, j < k → D j = 0) → Ez m_X8_openColumn (d + 1) 2 [some (.ref 47), some (.int (nI k))] [] E0 I J Q := by
    refine for_up ?_ ?_
    · intro hi
      refine Ez.blk B_X8_openColumn_2 (lo' := [some (.ref 47), some (.int (nI n))]) (st' := [.int (I 47 1), .int (nI n)]) (I' := I) (J' := J) (Ps := [aO E0 47 8]) rfl o_47 ?_
      refine Ez.n_icmp_ge (off := 20) (tgt := 27) (by decide +kernel) (by decide) (a := n) (b := n) rfl hsz (by omega) (by omega) (fun h => ?_) (fun h => absurd h (by omega))
      refine Ez.blk B_X8_openColumn_27 (lo' := [some (.ref 47), some (.int (nI n))]) (st' := [.int (-1)]) (I' := I) (J' := J) (Ps := []) rfl trivial ?_
      exact Ez.iret rfl (by decide +kernel) (hQ _ _ _ ⟨Or.inr ⟨hi, rfl⟩, rfl, rfl⟩)
    · intro k hk ih hi
      have hDk := hD k hk
      refine Ez.blk B_X8_openColumn_2 (lo' := [some (.ref 47), some (.int (nI k))]) (st' := [.int (I 47 1), .int (nI k)]) (I' := I) (J' := J) (Ps := [aO E0 47 8]) rfl o_47 ?_
      refine Ez.n_icmp_ge (off := 20) (tgt := 27) (by decide +kernel) (by decide) (a := k) (b := n) rfl hsz (by omega) (by omega) (fun h => absurd h (by omega)) (fun h => ?_)
      refine Ez.blk B_X8_openColumn_10 (lo' := [some (.ref 47), some (.int (nI k))]) (st' := [.int (I 51 ((nI k).toNatClampNeg))]) (I' := I) (J' := J) (Ps := [aO E0 47 8 ∧ E0.2.2 47 4 ≠ 0, aAr E0 1 51 (nI k)]) rfl ⟨r_47_4, (a_51 (vin (n := k) rfl (by omega) (by decide)))⟩ ?_
      rw [cln (x := nI k) (n := k) rfl (by omega)]
      refine Ez.n_if_le (off := 5) (tgt := 21) (by decide +kernel) (by decide) (a := (D k)) hDk.1 (by omega) (fun h2 => ?_) (fun h2 => ?_)
      · refine Ez.blk B_X8_openColumn_21 (lo' := [some (.ref 47), some (.int (nI k + 1))]) (st' := []) (I' := I) (J' := J) (Ps := []) rfl trivial ?_
        rw [show (nI k + 1) = nI (k + 1) from (eq_add (a := k) (b := 1) rfl rfl)]
        exact ih (fun j hj => by
          by_cases e : j = k
          · rw [e]; omega
          · exact hi j (by omega))
      · refine Ez.blk B_X8_openColumn_19 (lo' := [some (.ref 47), some (.int (nI k))]) (st' := [.int (nI k)]) (I' := I) (J' := J) (Ps := []) rfl trivial ?_
        exact Ez.iret rfl (by decide +kernel) (hQ _ _ _ ⟨Or.inl ⟨k, hk, by omega, rfl⟩, rfl, rfl⟩)
  refine Ez.blk B_X8_openColumn_0 (lo' := [some (.ref 47), some (.int 0)]) (st' := []) (I' := I) (J' := J) (Ps := []) rfl trivial ?_
  exact L1 0 (by omega) (fun j hj => by omega)
theorem s_send (d : Nat) (I : aI) (J : aJ) (n : Nat) (dd : Nat → Nat → Nat) (U V F S D : Nat → Nat) (u v : Nat → Int) (hT : Tr n dd U V F S D u v I J) (hU : ∀ i, i < n → U i ≤ 12) (hV : ∀ j, j < n → V j ≤ 12) (hUV : sm U n = sm V n) (s : Nat) (hs : s < n) : Sp m_X8_sendFrom (d + 3) [.ref 47, .int (nI s)] E0 I J (fun r I' J' => r = none ∧ (∃ F' S' D' u' v', Tr n dd U V F' S' D' u' v' I' J' ∧ S' s = 0 ∧ ∀ x, x < n → x ≠ s → S' x = S x) ∧ (∀ q, ¬ (q = 48 ∨ q = 50 ∨ q = 51 ∨ q = 54 ∨ q = 55) → I' q = I q) ∧ ∀ q, ¬ (q = 52 ∨ q = 53) → J' q = J q) := by
  refine Sp.of (lo := [some (.ref 47), some (.int (nI s)), none, none, none]) rfl (fun Q hQ => ?_)
  have hn := hT.1.1
  have L1 : ∀ k, k ≤ 12 → ∀ (I1 : aI) (J1 : aJ) (F1 S1 D1 : Nat → Nat) (u1 v1 : Nat → Int), ((Tr n dd U V F1 S1 D1 u1 v1 I1 J1 ∧ S1 s + k ≤ 12 ∧ ∀ x, x < n → x ≠ s → S1 x = S x) ∧ (∀ q, ¬ (q = 48 ∨ q = 50 ∨ q = 51 ∨ q = 54 ∨ q = 55) → I1 q = I q) ∧ ∀ q, ¬ (q = 52 ∨ q = 53) → J1 q = J q) → Ez m_X8_sendFrom (d + 3) 2 [some (.ref 47), some (.int (nI s)), some (.int (nI k)), none, none] [] E0 I1 J1 Q := by
    refine for_up ?_ ?_
    · intro I1 J1 F1 S1 D1 u1 v1 hi
      refine Ez.blk B_X8_sendFrom_2 (lo' := [some (.ref 47), some (.int (nI s)), some (.int (nI 12)), none, none]) (st' := [.int 12, .int (nI 12)]) (I' := I1) (J' := J1) (Ps := []) rfl trivial ?_
      refine Ez.n_icmp_ge (off := 85) (tgt := 90) (by decide +kernel) (by decide) (a := 12) (b := 12) rfl rfl (by omega) (by omega) (fun h => ?_) (fun h => absurd h (by omega))
      exact Ez.vret rfl (by decide +kernel) (hQ _ _ _ ⟨rfl, ⟨F1, S1, D1, u1, v1, hi.1.1, by omega, hi.1.2.2⟩, hi.2⟩)
    · intro k hk ih I1 J1 F1 S1 D1 u1 v1 hi
      obtain ⟨⟨hT1, hk1, hSo⟩, hfi, hfj⟩ := id hi
      obtain ⟨tq, tF, tS, tD, tm, tz, tO⟩ := id hT1
      have hF12 := Mg_le tm hU tz
      have hSs := tm.1 s hs
      have hUs := hU s hs
      have hD12 : ∀ j, j < n → I1 51 j = nI (D1 j) ∧ D1 j ≤ 12 := fun j hj => ⟨tD j hj, by have := tm.2 j hj; have := hV j hj; omega⟩
      refine Ez.blk B_X8_sendFrom_2 (lo' := [some (.ref 47), some (.int (nI s)), some (.int (nI k)), none, none]) (st' := [.int 12, .int (nI k)]) (I' := I1) (J' := J1) (Ps := []) rfl trivial ?_
      refine Ez.n_icmp_ge (off := 85) (tgt := 90) (by decide +kernel) (by decide) (a := k) (b := 12) rfl rfl (by omega) (by omega) (fun h => absurd h (by omega)) (fun h => ?_)
      refine Ez.blk B_X8_sendFrom_8 (lo' := [some (.ref 47), some (.int (nI s)), some (.int (nI k)), none, none]) (st' := [.int (I1 50 ((nI s).toNatClampNeg))]) (I' := I1) (J' := J1) (Ps := [aO E0 47 8 ∧ E0.2.2 47 3 ≠ 0, aAr E0 1 50 (nI s)]) rfl ⟨r_47_3, (a_50 (vin (n := s) rfl (by omega) (by decide)))⟩ ?_
      rw [cln (x := nI s) (n := s) rfl (by omega)]
      refine Ez.n_if_le (off := 76) (tgt := 90) (by decide +kernel) (by decide) (a := (S1 s)) (tS s hs) (by omega) (fun h2 => ?_) (fun h2 => ?_)
      · exact Ez.vret rfl (by decide +kernel) (hQ _ _ _ ⟨rfl, ⟨F1, S1, D1, u1, v1, hi.1.1, by omega, hi.1.2.2⟩, hi.2⟩)
      · refine Ez.blk B_X8_sendFrom_17 (lo' := [some (.ref 47), some (.int (nI s)), some (.int (nI k)), none, none]) (st' := [.ref 47]) (I' := I1) (J' := J1) (Ps := []) rfl trivial ?_
        refine Ez.callV (As := []) (b := 47) (rest := []) kn_X8_openColumn ml_8_69 im_X8_openColumn se_X8_openColumn rfl (by decide +kernel) rfl rfl (Nat.le_of_ble_eq_true rfl) (Nat.le_of_ble_eq_true rfl) o_47 (s_open _ I1 J1 n hn tq.2.1 D1 hD12) (fun r I2 J2 hq => ?_)
        obtain ⟨hq, rfl, rfl⟩ := hq
        have hex : ∃ j, j < n ∧ 0 < D1 j := sm_ex (by
          have b := Mg_bal tm hUV
          have := sm_le (f := S1) hs
          omega)
        obtain ⟨j, hj, hDj, rfl⟩ : ∃ j, j < n ∧ 0 < D1 j ∧ r = some (.int (nI j)) := by
          rcases hq with q | q
          · exact q
          · obtain ⟨j, hj, hp⟩ := hex
            have := q.1 j hj
            omega
        refine Ez.blk B_X8_sendFrom_21 (lo' := [some (.ref 47), some (.int (nI s)), some (.int (nI k)), some (.int (nI j)), none]) (st' := [.int (nI j)]) (I' := I2) (J' := J2) (Ps := []) rfl trivial ?_
        refine Ez.n_if_ge (off := 4) (tgt := 27) (by decide +kernel) (by decide) (a := j) rfl (by omega) (fun h3 => ?_) (fun h3 => h3.elim)
        refine Ez.blk B_X8_sendFrom_27 (lo' := [some (.ref 47), some (.int (nI s)), some (.int (nI k)), some (.int (nI j)), none]) (st' := [.int 0, .int (nI s), .ref 47]) (I' := I2) (J' := J2) (Ps := []) rfl trivial ?_
        refine Ez.callV (As := [.int (nI s), .int 0]) (b := 47) (rest := []) kn_X8_findPaths ml_8_73 im_X8_findPaths se_X8_findPaths rfl (by decide +kernel) rfl rfl (Nat.le_of_ble_eq_true rfl) (Nat.le_of_ble_eq_true rfl) o_47 (s_find _ I2 J2 n dd tq F1 (fun q hq => ⟨tF q hq, by have := hF12 q hq; omega⟩) 0 (by omega) s hs u1 v1 (Rp_opt tO (fun i j hi hj => (tq.2.2 i j hi hj).2))) (fun r I3 J3 hq => ?_)
        obtain ⟨rfl, ⟨R, C, cb, rb, r, c, ⟨zR, zC⟩, ⟨pc, pr⟩, hff⟩, fj, fi⟩ := hq
        have hCj : C j ≠ FAR := by
          have q := hff.2.2.2.2.2.1 s j hs hj (Nat.zero_le _) (by rw [hff.1.1]; decide)
          have := (tq.2.2 s j hs hj).2
          rw [hff.1.1] at q
          intro z
          rw [z] at q
          have : (9223372036854775807 : Int) ≤ 0 + (dd s j : Int) := q
          omega
        obtain ⟨m, hm, hw⟩ := fp_way hff (r (rb j - 1)) j hj hCj rfl
        have hmn : m < n := by
          have q := hw.2.1 0 (Nat.zero_le _)
          have q2 := hff.2.2.1 _ q.2.1 q.2.2.2.2.1
          have : wro cb rb j 0 = rb j - 1 := rfl
          rw [this] at q2
          omega
        have e50 : I3 50 s = nI (S1 s) := by rw [fi 50 (by decide) (by decide)]; exact tS s hs
        have e51 : I3 51 j = nI (D1 j) := by rw [fi 51 (by decide) (by decide)]; exact tD j hj
        have hDl := (hD12 j hj).2
        refine Ez.blk B_X8_sendFrom_33 (lo' := [some (.ref 47), some (.int (nI s)), some (.int (nI k)), some (.int (nI j)), none]) (st' := [.int (if I3 51 ((nI j).toNatClampNeg) < I3 50 ((nI s).toNatClampNeg) then I3 51 ((nI j).toNatClampNeg) else I3 50 ((nI s).toNatClampNeg)), .int (nI j), .ref 47]) (I' := I3) (J' := J3) (Ps := [aO E0 47 8 ∧ E0.2.2 47 3 ≠ 0, aAr E0 1 50 (nI s), aO E0 47 8 ∧ E0.2.2 47 4 ≠ 0, aAr E0 1 51 (nI j)]) rfl ⟨r_47_3, (a_50 (vin (n := s) rfl (by omega) (by decide))), r_47_4, (a_51 (vin (n := j) rfl (by omega) (by decide)))⟩ ?_
        rw [cln (x := nI s) (n := s) rfl (by omega)]
        rw [cln (x := nI j) (n := j) rfl (by omega)]
        rw [e50, e51, min_n' (by omega) (by omega)]
        refine Ez.callV (As := [.int (nI j), .int (nI (min (S1 s) (D1 j)))]) (b := 47) (rest := []) kn_X8_slackOfPath ml_8_77 im_X8_slackOfPath se_X8_slackOfPath rfl (by decide +kernel) rfl rfl (Nat.le_of_ble_eq_true rfl) (Nat.le_of_ble_eq_true rfl) o_47 (s_slack _ I3 J3 n hn (by rw [fi 47 (by decide) (by decide)]; exact tq.2.1) F1 (fun q hq => ⟨by rw [fi 48 (by decide) (by decide)]; exact tF q hq, by have := hF12 q hq; omega⟩) _ dd s R C cb rb r pc pr j m hmn hw hff.1.2 (min (S1 s) (D1 j)) (by omega)) (fun r2 I4 J4 hq => ?_)
        obtain ⟨rfl, rfl, rfl⟩ := hq
        have sl1 := slk_le (mx F1) cb rb j (min (S1 s) (D1 j)) m
        have sl2 : 0 < slk (mx F1) cb rb j (min (S1 s) (D1 j)) m := slk_pos (by omega) m (fun t ht => (hw.2.2 t ht).2.2.2.1)
        generalize hsl : slk (mx F1) cb rb j (min (S1 s) (D1 j)) m = a at *
        refine Ez.blk B_X8_sendFrom_53 (lo' := [some (.ref 47), some (.int (nI s)), some (.int (nI k)), some (.int (nI j)), some (.int (nI a))]) (st' := [.int (nI a), .int (nI j), .ref 47]) (I' := I4) (J' := J4) (Ps := []) rfl trivial ?_
        refine Ez.callV (As := [.int (nI j), .int (nI a)]) (b := 47) (rest := []) kn_X8_shiftAlongPath ml_8_80 im_X8_shiftAlongPath se_X8_shiftAlongPath rfl (by decide +kernel) rfl rfl (Nat.le_of_ble_eq_true rfl) (Nat.le_of_ble_eq_true rfl) o_47 (s_shift _ I4 J4 n hn (by rw [fi 47 (by decide) (by decide)]; exact tq.2.1) F1 (fun q hq => ⟨by rw [fi 48 (by decide) (by decide)]; exact tF q hq, by have := hF12 q hq; omega⟩) _ dd s R C cb rb r pc pr j m hmn hw hff.1.2 a (by omega) (fun t ht => sl1.2 t ht)) (fun r2 I5 J5 hq => ?_)
        obtain ⟨rfl, rfl, k1, k2⟩ := hq
        have e50 : I5 50 s = nI (S1 s) := by rw [k2 50 (by decide)]; exact e50
        have e51 : I5 51 j = nI (D1 j) := by rw [k2 51 (by decide)]; exact e51
        refine Ez.blk B_X8_sendFrom_62 (lo' := [some (.ref 47), some (.int (nI s)), some (.int (nI k + 1)), some (.int (nI j)), some (.int (nI a))]) (st' := []) (I' := (aUp (aUp I5 50 ((nI s).toNatClampNeg) (I5 50 ((nI s).toNatClampNeg) - nI a)) 51 ((nI j).toNatClampNeg) (I5 51 ((nI j).toNatClampNeg) - nI a))) (J' := J5) (Ps := [aO E0 47 8 ∧ E0.2.2 47 3 ≠ 0, aAr E0 1 50 (nI s), aAr E0 1 50 (nI s), aO E0 47 8 ∧ E0.2.2 47 4 ≠ 0, aAr E0 1 51 (nI j), aAr E0 1 51 (nI j)]) rfl ⟨r_47_3, (a_50 (vin (n := s) rfl (by omega) (by decide))), (a_50 (vin (n := s) rfl (by omega) (by decide))), r_47_4, (a_51 (vin (n := j) rfl (by omega) (by decide))), (a_51 (vin (n := j) rfl (by omega) (by decide)))⟩ ?_
        rw [cln (x := nI s) (n := s) rfl (by omega)]
        rw [cln (x := nI j) (n := j) rfl (by omega)]
        rw [show (nI k + 1) = nI (k + 1) from (eq_add (a := k) (b := 1) rfl rfl)]
        rw [e50, e51, pk_sub (show a ≤ S1 s by omega), pk_sub (show a ≤ D1 j by omega)]
        generalize hI6 : (aUp (aUp I5 50 s (nI (S1 s - a))) 51 j (nI (D1 j - a))) = I6
        refine Ez.drops [3, 4] (lo' := [some (.ref 47), some (.int (nI s)), some (.int (nI (k + 1))), none, none]) rfl ?_
        have mg := shF_marg hw hn.2 (fun t ht => sl1.2 t ht)
        have f6 : ∀ q, q ≠ 50 → q ≠ 51 → I6 q = I5 q := fun q h0 h1 => by rw [← hI6, aUp_ne h1, aUp_ne h0]
        refine ih I6 J5 (shF F1 cb rb j a m) (cup S1 s (S1 s - a)) (cup D1 j (D1 j - a)) _ _ ⟨⟨⟨⟨hn, by rw [f6 47 (by decide) (by decide), k2 47 (by decide), fi 47 (by decide) (by decide)]; exact tq.2.1, by rw [fj 49 (by decide) (by decide)]; exact tq.2.2⟩, fun q hq => by rw [f6 48 (by decide) (by decide)]; exact k1 q hq, fun x hx => ?_, fun y hy => ?_, ⟨fun x hx => ?_, fun y hy => ?_⟩, fun q hq ho => ?_, aug hn.2 hs (fun i j hi hj => (tq.2.2 i j hi hj).2) hff hw⟩, ?_, fun x hx hxs => ?_⟩, fun q hq => ?_, fun q hq => ?_⟩
        · rw [← hI6, aUp_ne (by decide)]
          by_cases e : x = s
          · rw [e, aUp_eq, cup_eq]
          · rw [aUp_nk e, cup_ne e, k2 50 (by decide), fi 50 (by decide) (by decide)]; exact tS x hx
        · rw [← hI6]
          by_cases e : y = j
          · rw [e, aUp_eq, cup_eq]
          · rw [aUp_nk e, cup_ne e, aUp_ne (by decide), k2 51 (by decide), fi 51 (by decide) (by decide)]; exact tD y hy
        · rw [mg.1 x hx]
          have := tm.1 x hx
          by_cases e : x = s
          · subst e; rw [if_pos rfl, cup_eq]; omega
          · rw [if_neg e, cup_ne e]; omega
        · rw [mg.2 y hy]
          have := tm.2 y hy
          by_cases e : y = j
          · subst e; rw [if_pos rfl, cup_eq]; omega
          · rw [if_neg e, cup_ne e]; omega
        · rw [shF_out hw q ho]; exact tz q hq ho
        · rw [cup_eq]; omega
        · rw [cup_ne hxs]; exact hSo x hx hxs
        · rw [f6 q (by omega) (by omega), k2 q (by omega), fi q (by omega) (by omega)]; exact hfi q hq
        · rw [fj q (by omega) (by omega)]; exact hfj q hq
  refine Ez.blk B_X8_sendFrom_0 (lo' := [some (.ref 47), some (.int (nI s)), some (.int 0), none, none]) (st' := []) (I' := I) (J' := J) (Ps := []) rfl trivial ?_
  exact L1 0 (by omega) I J F S D u v ⟨⟨hT, by have := hT.2.2.2.2.1.1 s hs; have := hU s hs; omega, fun _ _ _ => rfl⟩, fun _ _ => rfl, fun _ _ => rfl⟩

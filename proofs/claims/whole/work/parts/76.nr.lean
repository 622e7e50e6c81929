/-! step in the model -/
theorem m_step {va vb m s sl w : Int32} {M : Mem} {q : Int32 → Mem → Prop} (hI : InvN (M.1 136)) (h : ∀ M', FM M M' → q (spStep va vb m s sl w (M.1 136)) M') : w_X12_step_ va vb m s sl w M q := by
  have i2 : 0 ≤ (M.1 136 4212).toInt ∧ (M.1 136 4212).toInt ≤ 24 := hI.1 4212 (by decide)
  have i4 : 0 ≤ (M.1 136 4214).toInt ∧ (M.1 136 4214).toInt ≤ 200 := hI.1 4214 (by decide)
  have bad : ¬ okStep (M.1 136) va vb m s sl w → q (-2) M := fun n => by have := h M (FM.rf M); unfold spStep at this; rw [if_neg n] at this; exact this
  have g0 : (0 : Int64).toInt = 0 := rfl
  have g1 : (100000 : Int64).toInt = 100000 := rfl
  have g2 : (2 : Int64).toInt = 2 := rfl
  have f0 : (0 : Int32).toInt = 0 := rfl
  have f2 : (2 : Int32).toInt = 2 := rfl
  unfold w_X12_step_
  simp only [e_has2 i2.1, e_isThere hI, e_in, tf_z, Classical.not_not, lt_i, g0, g1, g2]
  refine ⟨fun n => bad (fun x => n x.1.1), fun k0 => ⟨fun n => bad (fun x => n x.2.1), fun k2 => ⟨fun n => bad (fun x => by have := x.2.2.1; omega), fun k3 => ⟨fun n => bad (fun x => n x.1), fun k1 => ⟨fun n => bad (fun x => n x.2.2.2.1), fun k4 => ⟨fun k5 => ?_, fun n => bad (fun x => n (by have := x.2.2.2.2; omega))⟩⟩⟩⟩⟩⟩
  unfold spStep at h
  rw [if_pos ⟨k1, k2, by omega, k4, by omega⟩] at h
  generalize hN : M.1 136 = N at *
  unfold w_X12_step__l69
  refine lfp_for (i0 := 0) (n := vb.toInt.toNat - va.toInt.toNat + 1) (fun (k : Nat) (t : Int32 × Int32 × Mem) => t.2.1.toInt = ((va.toInt.toNat + k : Nat) : Int) ∧ t.1.toInt = ((stG N m s va.toInt.toNat k).1 : Int) ∧ (∀ i, i < (stG N m s va.toInt.toNat k).1 → t.2.2.1 147 i = (stG N m s va.toInt.toNat k).2.1 i) ∧ (∀ i, i < (stG N m s va.toInt.toNat k).1 → t.2.2.1 146 i = (stG N m s va.toInt.toNat k).2.2 i) ∧ FM M t.2.2) ?_ (by omega) ⟨ix_n k0.1, rfl, fun i hi => absurd hi (by show ¬ i < 0; omega), fun i hi => absurd hi (by show ¬ i < 0; omega), FM.rf M⟩
  intro P k st hk hJ hP
  obtain ⟨v7, v8, M1⟩ := st
  obtain ⟨hx0, hs0, hb0, hd0, hF0⟩ := hJ
  have hx : v8.toInt = ((va.toInt.toNat + k : Nat) : Int) := hx0
  have hs : v7.toInt = ((stG N m s va.toInt.toNat k).1 : Int) := hs0
  have hB : ∀ i, i < (stG N m s va.toInt.toNat k).1 → M1.1 147 i = (stG N m s va.toInt.toNat k).2.1 i := hb0
  have hD : ∀ i, i < (stG N m s va.toInt.toNat k).1 → M1.1 146 i = (stG N m s va.toInt.toNat k).2.2 i := hd0
  have hF : FM M M1 := hF0
  clear hx0 hs0 hb0 hd0 hF0
  have hle := stG_le (N := N) (m := m) (s := s) (fr := va.toInt.toNat) k
  have e1 : M1.1 136 = N := by rw [hF.n, hN]
  unfold w_X12_step__l69F w_X12_step__b117
  dsimp only
  rw [lt_i, hx, le_i, f2, hs]
  refine ⟨fun z => ?_, fun z => ?_⟩
  · have ek : k = vb.toInt.toNat - va.toInt.toNat + 1 := by omega
    subst ek
    clear P hP
    generalize stG N m s va.toInt.toNat (vb.toInt.toNat - va.toInt.toNat + 1) = g at h hs hB hD hle
    obtain ⟨n, B, D⟩ := g
    have hs : v7.toInt = (n : Int) := hs
    have hB : ∀ i, i < n → M1.1 147 i = B i := hB
    have hD : ∀ i, i < n → M1.1 146 i = D i := hD
    have hle : n ≤ vb.toInt.toNat - va.toInt.toNat + 1 := hle
    have h : ∀ M', FM M M' → q (stV (n, B, D) sl w) M' := h
    unfold stV at h
    have hn : n ≤ 24 := by omega
    show ((2 : Int) ≤ (n : Int) → _) ∧ (¬ (2 : Int) ≤ (n : Int) → _)
    refine ⟨fun n2 => ?_, fun n2 => ?_⟩
    · have h2 := fun M' f => by have := h M' f; rw [if_neg (show ¬ n < 2 by omega)] at this; exact this
      unfold w_X12_step__l137
      refine lfp_for (i0 := 0) (n := n - 1) (fun (j : Nat) (t : Int32 × Int32 × Mem) => t.2.1.toInt = ((1 + j : Nat) : Int) ∧ t.1.toInt = ((bF (cF D n) j : Nat) : Int) ∧ (∀ i, i < n → t.2.2.1 147 i = B i) ∧ (∀ i, i < n → t.2.2.1 146 i = D i) ∧ (∀ i, 1 ≤ i → i ≤ j → t.2.2.1 148 i = cF D n i) ∧ FM M t.2.2) ?_ (by omega) ⟨rfl, rfl, hB, hD, fun i h1 h2 => absurd h2 (by omega), hF⟩
      clear hB hD hF e1
      intro P j st hj hJ hP
      obtain ⟨v8', v9, M2⟩ := st
      obtain ⟨hx0, hb0, B0, D0, c0, F0⟩ := hJ
      have hx9 : v9.toInt = ((1 + j : Nat) : Int) := hx0
      have hb8 : v8'.toInt = ((bF (cF D n) j : Nat) : Int) := hb0
      have B2 : ∀ i, i < n → M2.1 147 i = B i := B0
      have D2 : ∀ i, i < n → M2.1 146 i = D i := D0
      have c2 : ∀ i, 1 ≤ i → i ≤ j → M2.1 148 i = cF D n i := c0
      have F2 : FM M M2 := F0
      clear hx0 hb0 B0 D0 c0 F0
      have bl := bF_le (c := cF D n) j
      unfold w_X12_step__l137F w_X12_step__b191
      dsimp only
      rw [le_i, hs, hx9]
      refine ⟨fun z3 => ?_, fun z3 => ?_⟩
      · have ej : j = n - 1 := by omega
        rw [← ej] at h2
        unfold w_X12_step__l205
        refine lfp_for (i0 := 0) (n := n - 1) (fun (t : Nat) (u : Int32 × Int32 × Mem) => u.2.1.toInt = ((1 + t : Nat) : Int) ∧ u.2.2 = M2 ∧ u.1 = btF (cF D n) B (cF D n (bF (cF D n) j) + sl) t) ?_ (by omega) ⟨rfl, rfl, rfl⟩
        clear P hP
        intro P t st ht hJ hP
        obtain ⟨y, x', M3⟩ := st
        obtain ⟨hx0, hM0, hy0⟩ := hJ
        have hx' : x'.toInt = ((1 + t : Nat) : Int) := hx0
        have hM : M3 = M2 := hM0
        have hy : y = btF (cF D n) B (cF D n (bF (cF D n) j) + sl) t := hy0
        clear hx0 hM0 hy0
        subst hM
        subst hy
        have cb : M3.1 148 (bF (cF D n) j) = cF D n (bF (cF D n) j) := c2 _ (by omega) (by omega)
        unfold w_X12_step__l205F w_X12_step__b247
        dsimp only
        rw [le_i, hs, hx', i_of hb8, cb, B2 _ (by omega)]
        refine ⟨fun z4 => ⟨fun w0 => ⟨fun w1 => ?_, fun w1 => ⟨vp_of hb8 (by omega), ?_⟩⟩, fun w0 => ⟨vp_of hb8 (by omega), ?_⟩⟩, fun z4 => ?_⟩
        · have et : t = j := by omega
          subst et
          have := h2 M3 F2
          rw [if_neg w0, if_neg w1] at this
          exact this
        · have := h2 M3 F2
          rw [if_neg w0, if_pos w1] at this
          exact this
        · have := h2 M3 F2
          rw [if_pos w0] at this
          exact this
        · rw [i_of hx', c2 (1 + t) (by omega) (by omega), B2 (1 + t) (by omega), lt_i]
          have next : ∀ y : Int32, y = btF (cF D n) B (cF D n (bF (cF D n) j) + sl) (t + 1) → ∀ x1 : Int32, x1 = x' + 1 → P (y, x1, M3) := fun y ey x1 ex1 => by
            refine hP (y, x1, M3) (by omega) ⟨?_, rfl, ey⟩
            show x1.toInt = ((1 + (t + 1) : Nat) : Int)
            rw [ex1, ← Nat.add_assoc]; exact ix_a hx' rfl (by omega)
          rw [Nat.add_comm 1 t]
          refine ⟨vp_of hx' (by omega), vp_of hb8 (by omega), fun k => ?_, fun k => ⟨vp_of hx' (by omega), fun x6 e6 => next _ ?_⟩⟩
          · intro x6 e6
            refine next _ ?_
            rw [e6, btF, if_pos k]
            exact Int32.or_zero
          · rw [e6, btF, if_neg k]
      · have hj1 : 1 + j < n := by omega
        refine s_far12 (a := 0) rfl hx9 (by omega) (by omega) (fun i hi => D2 i (by omega)) (fun M3 F3 => ?_)
        refine s_far12 (D := D) hx9 hs (by omega) hn (fun i hi => by rw [F3.row (by decide) (by decide)]; exact D2 i hi) (fun M4 F4 => ?_)
        have a4 : ∀ c, c ≠ 135 → c ≠ 145 → M4.1 c = M2.1 c := fun c h1 h2 => by rw [F4.row h1 h2, F3.row h1 h2]
        refine ⟨vp_of hx9 (by omega), fun M13 e13 => ?_⟩
        rw [i_of hx9] at e13
        have e13 : M13 = uI M4 148 (1 + j) (cF D n (1 + j)) := e13
        have F13 : FM M M13 := F2.tr (F3.m.tr (F4.m.tr (by rw [e13]; exact fm_uI (by decide))))
        have c13 : ∀ i, 1 ≤ i → i ≤ j + 1 → M13.1 148 i = cF D n i := fun i h1 h2 => by
          rw [e13]
          by_cases e : i = 1 + j
          · subst e; rw [uI_s]
          · rw [uI_j e, a4 148 (by decide) (by decide)]; exact c2 i h1 (by omega)
        have a13 : ∀ c, c ≠ 148 → c ≠ 135 → c ≠ 145 → M13.1 c = M2.1 c := fun c h1 h2 h3 => by rw [← a4 c h2 h3]; funext b; rw [e13, uI_k h1]
        clear e13
        have next : ∀ y : Int32, y.toInt = ((bF (cF D n) (j + 1) : Nat) : Int) → ∀ x1 : Int32, x1 = v9 + 1 → P (y, x1, M13) := fun y hy x1 ex1 => by
          refine hP (y, x1, M13) (by omega) ⟨?_, hy, fun i hi => ?_, fun i hi => ?_, c13, F13⟩
          · show x1.toInt = ((1 + (j + 1) : Nat) : Int)
            rw [ex1, ← Nat.add_assoc]; exact ix_a hx9 rfl (by omega)
          · show M13.1 147 i = B i
            rw [a13 147 (by decide) (by decide) (by decide)]; exact B2 i hi
          · show M13.1 146 i = D i
            rw [a13 146 (by decide) (by decide) (by decide)]; exact D2 i hi
        have cb : M13.1 148 (bF (cF D n) j) = cF D n (bF (cF D n) j) := c13 _ (by omega) (by omega)
        rw [i_of hx9, i_of hb8, cb, c13 (1 + j) (by omega) (by omega), le_i]
        refine ⟨vp_of hx9 (by omega), vp_of hb8 (by omega), fun kk => next _ ?_, fun kk => next _ ?_⟩
        · rw [bF, Nat.add_comm j 1, if_pos kk]; exact hb8
        · rw [bF, Nat.add_comm j 1, if_neg kk]; exact hx9
    · have := h M1 hF
      rw [if_pos (show n < 2 by omega)] at this
      exact this
  · rw [i_nat hx]
    refine s_sortRuns (kn := 200) (by rw [e1]; exact hI) rfl (fun M4 h4 f4 => ?_)
    rw [e1, Nat.min_eq_left (by omega)] at h4
    have h4 : Hd 135 12 145 (gatR N m s (va.toInt.toNat + k)).1 (gatR N m s (va.toInt.toNat + k)).2 M4 := h4
    have g200 : (gatR N m s (va.toInt.toNat + k)).1 ≤ 200 := by
      have := gat_le (N := N) (b := Int32.ofNat (va.toInt.toNat + k)) (m := m) (s := s) (N 4214).toInt.toNat
      unfold gatR
      omega
    have F4 : FM M M4 := hF.tr f4.m
    have a4 : ∀ c, c ≠ 135 → c ≠ 145 → M4.1 c = M1.1 c := fun c h1 h2 => f4.row h1 h2
    have next : ∀ (y7 : Int32) (M' : Mem), y7.toInt = ((stG N m s va.toInt.toNat (k + 1)).1 : Int) → (∀ i, i < (stG N m s va.toInt.toNat (k + 1)).1 → M'.1 147 i = (stG N m s va.toInt.toNat (k + 1)).2.1 i) → (∀ i, i < (stG N m s va.toInt.toNat (k + 1)).1 → M'.1 146 i = (stG N m s va.toInt.toNat (k + 1)).2.2 i) → FM M M' → ∀ y : Int32, y = Int32.ofNat (va.toInt.toNat + k) + 1 → P (y7, y, M') := fun y7 M' h1 h2 h3 h5 y ey => by
      refine hP (y7, y, M') (by omega) ⟨?_, h1, h2, h3, h5⟩
      show y.toInt = ((va.toInt.toNat + (k + 1) : Nat) : Int)
      rw [ey, ← Nat.add_assoc]
      exact ix_a (ti_ofNat (by omega)) rfl (by omega)
    rw [le_i, h4.1, f0]
    refine ⟨fun z0 => ?_, fun z0 => ?_⟩
    · have e0 : (gatR N m s (va.toInt.toNat + k)).1 = 0 := by omega
      refine next _ M4 ?_ ?_ ?_ F4
      · rw [stG, if_pos e0]; exact hs
      · rw [stG, if_pos e0, a4 147 (by decide) (by decide)]; exact hB
      · rw [stG, if_pos e0, a4 146 (by decide) (by decide)]; exact hD
    · have e0 : ¬ (gatR N m s (va.toInt.toNat + k)).1 = 0 := by omega
      refine e_middle12 h4 (by omega) g200 ⟨vp_of hs (by omega), fun M32 e32 => ⟨vp_of hs (by omega), fun M34 e34 x35 e35 => ?_⟩⟩
      rw [i_of hs] at e32 e34
      refine next _ M34 ?_ (fun i hi => ?_) (fun i hi => ?_) ?_
      · rw [e35, stG, if_neg e0]; exact ix_a hs rfl (by omega)
      · rw [stG, if_neg e0] at hi ⊢
        rw [e34]
        show (uI M32 147 _ _).1 147 i = upN _ _ _ i
        by_cases e : i = (stG N m s va.toInt.toNat k).1
        · subst e; rw [uI_s, upN_s]
        · rw [uI_j e, upN_o e, e32, uI_k (by decide), a4 147 (by decide) (by decide)]
          have hi : i < (stG N m s va.toInt.toNat k).1 + 1 := hi
          exact hB i (by omega)
      · rw [stG, if_neg e0] at hi ⊢
        rw [e34, uI_k (by decide), e32]
        show (uI M4 146 _ _).1 146 i = upN _ _ _ i
        by_cases e : i = (stG N m s va.toInt.toNat k).1
        · subst e; rw [uI_s, upN_s]
        · rw [uI_j e, upN_o e, a4 146 (by decide) (by decide)]
          have hi : i < (stG N m s va.toInt.toNat k).1 + 1 := hi
          exact hD i (by omega)
      · rw [e34, e32]
        exact F4.tr ((fm_uI (by decide)).tr (fm_uI (by decide)))

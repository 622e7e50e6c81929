/-! step, both sides -/
theorem c_step {va vb m s sl w : Int32} {M : Mem} {N : Nat → Int32} {q : Int32 → Mem → Prop} (hR : Rep 1 N M.1) (hI : InvN N) (h : ∀ M', FQ M M' → q (spStep va vb m s sl w N) M') : w_X11_step va vb m s sl w M q := by
  have i2 : 0 ≤ (N 4212).toInt ∧ (N 4212).toInt ≤ 24 := hI.1 4212 (by decide)
  have bad : ¬ okStep N va vb m s sl w → q (-2) M := fun n => by have := h M (FQ.rf M); unfold spStep at this; rw [if_neg n] at this; exact this
  have f0 : (0 : Int32).toInt = 0 := rfl
  have f1 : (100000 : Int32).toInt = 100000 := rfl
  have f2 : (2 : Int32).toInt = 2 := rfl
  have f3 : (3 : Int32).toInt = 3 := rfl
  unfold w_X11_step
  rw [e_isNoSpot hR]
  simp only [e_isBeyond, e_isOut, tf_z, Classical.not_not, rc2 hR, lt_i, f0, f1, f3]
  refine ⟨fun n => bad (fun x => n x.1), fun k1 => ⟨fun n => bad (fun x => n x.2.1), fun k2 => ⟨fun n => bad (fun x => by have := x.2.2.1; omega), fun k3 => ⟨fun n => bad (fun x => n x.2.2.2.1), fun k4 => ⟨fun k5 => ?_, fun n => bad (fun x => n x.2.2.2.2)⟩⟩⟩⟩⟩
  unfold spStep at h
  rw [if_pos ⟨k1, k2, by omega, k4, k5⟩] at h
  have sp := spot hI k1
  refine s_dgather hR hI (ix_n sp.1.1) (ix_n k2.1) (by omega) (by omega) (fun M1 s1 B1 D1 F1 => ?_)
  have hw := stG_w hI (m := m) (s := s) (fr := va.toInt.toNat) (vb.toInt.toNat - va.toInt.toNat + 1)
  have hle := stG_le (N := N) (m := m) (s := s) (fr := va.toInt.toNat) (vb.toInt.toNat - va.toInt.toNat + 1)
  generalize stG N m s va.toInt.toNat (vb.toInt.toNat - va.toInt.toNat + 1) = g at h s1 B1 D1 hw hle
  obtain ⟨n, B, D⟩ := g
  have s1 : (M1.1 52 5).toInt = (n : Int) := s1
  have B1 : ∀ i, i < n → M1.1 53 i = B i := B1
  have D1 : ∀ i, i < n → M1.1 54 i = D i := D1
  have hw : wIn D n := hw
  have hle : n ≤ vb.toInt.toNat - va.toInt.toNat + 1 := hle
  have h : ∀ M', FQ M M' → q (stV (n, B, D) sl w) M' := h
  unfold stV at h
  have hn : n ≤ 24 := by omega
  unfold w_X1_find w_X1_find_l2
  refine lfp_for (i0 := 0) (n := n - 1) (fun (j : Nat) (t : Int32 × Mem) => t.1.toInt = ((1 + j : Nat) : Int) ∧ FrD M t.2 ∧ (t.2.1 52 5).toInt = (n : Int) ∧ (∀ i, i < n → t.2.1 53 i = B i) ∧ (∀ i, i < n → t.2.1 54 i = D i) ∧ (∀ i, 1 ≤ i → i ≤ j → t.2.1 55 i = cF D n i) ∧ (1 ≤ j → t.2.1 52 1 = cF D n (bF (cF D n) j) ∧ t.2.1 52 0 = B (bF (cF D n) j))) ?_ (by omega) ⟨rfl, F1, s1, B1, D1, fun i h1 h2 => absurd h2 (by omega), fun h => absurd h (by omega)⟩
  clear s1 B1 D1 F1
  intro P j st hj hJ hP
  obtain ⟨x, M2⟩ := st
  obtain ⟨hx0, F0, s0, B0, D0, c0, b0⟩ := hJ
  have hx : x.toInt = ((1 + j : Nat) : Int) := hx0
  have F2 : FrD M M2 := F0
  have s2 : (M2.1 52 5).toInt = (n : Int) := s0
  have B2 : ∀ i, i < n → M2.1 53 i = B i := B0
  have D2 : ∀ i, i < n → M2.1 54 i = D i := D0
  have c2 : ∀ i, 1 ≤ i → i ≤ j → M2.1 55 i = cF D n i := c0
  have b2 : 1 ≤ j → M2.1 52 1 = cF D n (bF (cF D n) j) ∧ M2.1 52 0 = B (bF (cF D n) j) := b0
  clear hx0 F0 s0 B0 D0 c0 b0
  have bl := bF_le (c := cF D n) j
  unfold w_X1_find_l2F
  dsimp only
  rw [le_i, s2, hx, lt_i, s2, f2]
  refine ⟨fun z => ⟨fun k => ⟨fun y => absurd rfl y, fun _ => ?_⟩, fun k => ⟨fun _ => ?_, fun y => absurd y (by decide)⟩⟩, fun z => ?_⟩
  · have := h M2 F2.q
    rw [if_pos (show n < 2 by omega)] at this
    exact this
  · have h2 := fun M' f => by have := h M' f; rw [if_neg (show ¬ n < 2 by omega)] at this; exact this
    have ej : j = n - 1 := by omega
    have b2 := b2 (by omega)
    rw [← ej] at h2
    refine ⟨fun w0 => ⟨fun w1 => ?_, fun w1 => ?_⟩, fun w0 => ?_⟩
    · unfold w_X1_couldBe w_X1_couldBe_l4
      refine lfp_for (i0 := 0) (n := n - 1) (fun (t : Nat) (u : Int32 × Int32 × Mem) => u.2.1.toInt = ((1 + t : Nat) : Int) ∧ u.2.2 = M2 ∧ u.1 = btF (cF D n) B (cF D n (bF (cF D n) j) + sl) t) ?_ (by omega) ⟨rfl, rfl, rfl⟩
      clear P hP
      intro P t st ht hJ hP
      obtain ⟨y, x', M3⟩ := st
      obtain ⟨hx0, hM0, hy0⟩ := hJ
      have hx' : x'.toInt = ((1 + t : Nat) : Int) := hx0
      have hM : M3 = M2 := hM0
      have hy : y = btF (cF D n) B (cF D n (bF (cF D n) j) + sl) t := hy0
      clear hx0 hM0 hy0
      subst hM
      subst hy
      unfold w_X1_couldBe_l4F w_X1_couldBe_b38
      dsimp only
      rw [le_i, s2, hx']
      refine ⟨fun z3 => ?_, fun z3 => ?_⟩
      · have et : t = j := by omega
        subst et
        have := h2 M3 F2.q
        rw [if_neg w0, if_neg w1] at this
        exact this
      · rw [i_of hx', b2.1, show M3.1 (52 + 3) (1 + t) = cF D n (1 + t) from c2 _ (by omega) (by omega), show M3.1 (52 + 1) (1 + t) = B (1 + t) from B2 _ (by omega), lt_i]
        have next : ∀ y : Int32, y = btF (cF D n) B (cF D n (bF (cF D n) j) + sl) (t + 1) → ∀ x1 : Int32, x1 = x' + 1 → P (y, x1, M3) := fun y ey x1 ex1 => by
          refine hP (y, x1, M3) (by omega) ⟨?_, rfl, ey⟩
          show x1.toInt = ((1 + (t + 1) : Nat) : Int)
          rw [ex1, ← Nat.add_assoc]; exact ix_a hx' rfl (by omega)
        rw [Nat.add_comm 1 t]
        refine ⟨vp_of hx' (by omega), fun k => next _ ?_, fun k => ⟨vp_of hx' (by omega), fun x6 e6 => next _ ?_⟩⟩
        · rw [btF, if_pos k]
        · rw [e6, btF, if_neg k]
    · have := h2 M2 F2.q
      rw [if_neg w0, if_pos w1] at this
      rw [b2.1]; exact this
    · have := h2 M2 F2.q
      rw [if_pos w0] at this
      rw [b2.2]; exact this
  · have hj1 : 1 + j < n := by omega
    refine s_far11 (a := 0) rfl hx (by omega) (by omega) (fun i hi => D2 i (by omega)) (fun i hi => hw i (by omega)) (fun M3 F3 => ?_)
    have s3 : (M3.1 52 5).toInt = (n : Int) := by rw [F3.row (by decide) (by decide)]; exact s2
    refine s_far11 hx s3 (by omega) hn (fun i hi => by rw [F3.row (by decide) (by decide)]; exact D2 i hi) hw (fun M4 F4 => ?_)
    have a4 : ∀ c, c ≠ 56 → c ≠ 57 → M4.1 c = M2.1 c := fun c h1 h2 => by rw [F4.row h1 h2, F3.row h1 h2]
    refine ⟨vp_of hx (by omega), fun M13 e13 => ?_⟩
    rw [i_of hx] at e13
    have e13 : M13 = uI M4 55 (1 + j) (cF D n (1 + j)) := e13
    have F13 : FrD M M13 := F2.tr (F3.d.tr (F4.d.tr (by rw [e13]; exact frd_u (by decide))))
    have c13 : ∀ i, 1 ≤ i → i ≤ j + 1 → M13.1 55 i = cF D n i := fun i h1 h2 => by
      rw [e13]
      by_cases e : i = 1 + j
      · subst e; rw [uI_s]
      · rw [uI_j e, a4 55 (by decide) (by decide)]; exact c2 i h1 (by omega)
    have a13 : ∀ c, c ≠ 55 → c ≠ 56 → c ≠ 57 → M13.1 c = M2.1 c := fun c h1 h2 h3 => by rw [← a4 c h2 h3]; funext b; rw [e13, uI_k h1]
    clear e13
    have next : ∀ M' : Mem, FrD M M' → (M'.1 52 5).toInt = (n : Int) → (∀ i, i < n → M'.1 53 i = B i) → (∀ i, i < n → M'.1 54 i = D i) → (∀ i, 1 ≤ i → i ≤ j + 1 → M'.1 55 i = cF D n i) → M'.1 52 1 = cF D n (bF (cF D n) (j + 1)) → M'.1 52 0 = B (bF (cF D n) (j + 1)) → ∀ y : Int32, y = x + 1 → P (y, M') := fun M' h1 h2 h3 h4 h5 h6 h7 y ey => by
      refine hP (y, M') (by omega) ⟨?_, h1, h2, h3, h4, h5, fun _ => ⟨h6, h7⟩⟩
      show y.toInt = ((1 + (j + 1) : Nat) : Int)
      rw [ey, ← Nat.add_assoc]; exact ix_a hx rfl (by omega)
    have s13 : (M13.1 52 5).toInt = (n : Int) := by rw [a13 52 (by decide) (by decide) (by decide)]; exact s2
    have B13 : ∀ i, i < n → M13.1 53 i = B i := fun i hi => by rw [a13 53 (by decide) (by decide) (by decide)]; exact B2 i hi
    have D13 : ∀ i, i < n → M13.1 54 i = D i := fun i hi => by rw [a13 54 (by decide) (by decide) (by decide)]; exact D2 i hi
    have take : bF (cF D n) (j + 1) = 1 + j → w_X1_find_b50 52 x M13 (fun r17 M16 => (¬ r17 = 0 → (¬ w = 0 → (¬ w = 1 → w_X1_couldBe 52 sl M16 fun r22 M21 => q r22 M21) ∧ (w = 1 → q (M16.1 52 1) M16)) ∧ (w = 0 → q (M16.1 52 0) M16)) ∧ (r17 = 0 → q (-1) M16)) P := fun eb => by
      unfold w_X1_find_b50 w_X1_find_b70
      refine ⟨vp_of hx (by omega), fun M14 e14 => ⟨vp_of hx (by omega), fun M15 e15 => ?_⟩⟩
      rw [i_of hx] at e14 e15
      have e14 : M14 = uI M13 52 1 (cF D n (1 + j)) := by rw [e14, show M13.1 (52 + 3) (1 + j) = cF D n (1 + j) from c13 _ (by omega) (by omega)]
      have e15 : M15 = uI M14 52 0 (B (1 + j)) := by rw [e15, show M14.1 (52 + 1) (1 + j) = B (1 + j) from by rw [e14, uI_k (by decide)]; exact B13 _ (by omega)]
      refine next M15 (F13.tr ?_) ?_ (fun i hi => ?_) (fun i hi => ?_) (fun i h1 h2 => ?_) ?_ ?_
      · rw [e15, e14]; exact (frd_u (by decide)).tr (frd_u (by decide))
      · rw [e15, uI_j (by decide), e14, uI_j (by decide)]; exact s13
      · rw [e15, uI_k (by decide), e14, uI_k (by decide)]; exact B13 i hi
      · rw [e15, uI_k (by decide), e14, uI_k (by decide)]; exact D13 i hi
      · rw [e15, uI_k (by decide), e14, uI_k (by decide)]; exact c13 i h1 h2
      · rw [e15, uI_j (by decide), e14, uI_s, eb]
      · rw [e15, uI_s, eb]
    refine ⟨fun k => take ?_, fun k => ⟨vp_of hx (by omega), ?_⟩⟩
    · have ej : j = 0 := by
        have o1 : (1 : Int32).toInt = 1 := rfl
        rw [k, o1] at hx; omega
      subst ej
      rw [bF]
      split <;> rfl
    · have j1 : 1 ≤ j := by
        have : ¬ j = 0 := fun e => k (by rw [e] at hx; exact eq_i.mpr hx)
        omega
      have b2 := b2 j1
      rw [i_of hx, show M13.1 (52 + 3) (1 + j) = cF D n (1 + j) from c13 _ (by omega) (by omega), show M13.1 52 1 = cF D n (bF (cF D n) j) from by rw [a13 52 (by decide) (by decide) (by decide)]; exact b2.1, le_i]
      refine ⟨fun kk => ?_, fun kk => take ?_⟩
      · have eb : bF (cF D n) (j + 1) = bF (cF D n) j := by rw [bF, Nat.add_comm j 1, if_pos kk]
        unfold w_X1_find_b70
        refine next M13 F13 s13 B13 D13 c13 ?_ ?_
        · rw [eb, a13 52 (by decide) (by decide) (by decide)]; exact b2.1
        · rw [eb, a13 52 (by decide) (by decide) (by decide)]; exact b2.2
      · rw [bF, Nat.add_comm j 1, if_neg kk]

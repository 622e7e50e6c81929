/-! fit in the model -/
theorem m_fit {m v0 v1 v2 w : Int32} {M : Mem} {q : Int64 → Mem → Prop} (hI : InvN (M.1 136)) (h : ∀ M', FM M M' → q (spFit m v0 v1 v2 w (M.1 136)) M') : w_X12_fit m v0 v1 v2 w M q := by
  have i4 : 0 ≤ (M.1 136 4214).toInt ∧ (M.1 136 4214).toInt ≤ 200 := hI.1 4214 (by decide)
  have bad : ¬ okFit m v0 v1 v2 w → q (-2) M := fun n => by have := h M (FM.rf M); unfold spFit at this; rw [if_neg n] at this; exact this
  have g0 : (0 : Int64).toInt = 0 := rfl
  have g4 : (4 : Int64).toInt = 4 := rfl
  have f4 : (4 : Int32).toInt = 4 := rfl
  unfold w_X12_fit
  simp only [e_isMachine, e_areCounters, e_in, tf_z, Classical.not_not, g0, g4]
  refine ⟨fun n => bad (fun x => n (by have := x.1; omega)), fun k1 => ⟨fun n => bad (fun x => n x.2.1), fun k2 => ⟨fun k3 => ?_, fun n => bad (fun x => n (by have := x.2.2; omega))⟩⟩⟩
  unfold spFit at h
  rw [if_pos ⟨by omega, k2, by omega⟩] at h
  refine s_fitAll hI k2.1 k2.2.1 k2.2.2.1 (fun M10 B F => ?_)
  obtain ⟨N, hN⟩ : ∃ N, N = M.1 136 := ⟨_, rfl⟩
  rw [← hN] at h B hI i4
  have n10 : M10.1 136 = N := by rw [F.row (by decide), hN]
  have h0 : v0.toInt.toNat < 5 := by have := k2.1; omega
  have h1 : v1.toInt.toNat < 5 := by have := k2.2.1; omega
  have h2 : v2.toInt.toNat < 5 := by have := k2.2.2.1; omega
  obtain ⟨R, hRd⟩ : ∃ R, R = (N 4214).toInt.toNat := ⟨_, rfl⟩
  rw [← hRd] at h B
  have hR2 : R ≤ 200 := by omega
  have bk := best_lt (N := N) (m := m) (c0 := v0.toInt.toNat) (c1 := v1.toInt.toNat) (c2 := v2.toInt.toNat) (R := R)
  unfold fitV at h
  rw [le_i, f4]
  have val : ∀ (v : Int64) (z : Int), v.toInt = z → ((if w.toInt = 0 then ((bestK N m v0.toInt.toNat v1.toInt.toNat v2.toInt.toNat R / 169 : Nat) : Int) else if w.toInt = 1 then ((bestK N m v0.toInt.toNat v1.toInt.toNat v2.toInt.toNat R / 13 % 13 : Nat) : Int) else if w.toInt = 2 then ((bestK N m v0.toInt.toNat v1.toInt.toNat v2.toInt.toNat R % 13 : Nat) : Int) else if w.toInt = 3 then ((sumK N m v0.toInt.toNat v1.toInt.toNat v2.toInt.toNat R (bestK N m v0.toInt.toNat v1.toInt.toNat v2.toInt.toNat R) : Nat) : Int) else (fhF (bOff N m v0.toInt.toNat v1.toInt.toNat v2.toInt.toNat R) (rlF N m R) (scF N m R)).1.toInt) = z) → q v M10 := fun v z hv hz => by
    have t := h M10 F.m
    rw [hz] at t
    rw [j_of hv]
    exact t
  have ei : ∀ k : Int32, w = k → w.toInt = k.toInt := fun k e => by rw [e]
  have ne : ∀ k : Int32, ¬ w = k → ¬ w.toInt = k.toInt := fun k n x => n (eq_i.mpr x)
  have t0 : (0 : Int32).toInt = 0 := rfl
  have t1 : (1 : Int32).toInt = 1 := rfl
  have t2 : (2 : Int32).toInt = 2 := rfl
  refine ⟨fun w4 => ?_, fun w4 => ⟨fun n0 => ⟨fun n1 => ⟨fun n2 => val _ _ B.2.2.2 ?_, fun e2 => val _ _ ((Int32.toInt_toInt64 _).trans B.2.2.1) ?_⟩, fun e1 => val _ _ ((Int32.toInt_toInt64 _).trans B.2.1) ?_⟩, fun e0 => val _ _ ((Int32.toInt_toInt64 _).trans B.1) ?_⟩⟩
  · have hsc := scF_le (N := N) (m := m) R
    have ob := fun k hk => bOff_bd hI (m := m) hR2 h0 h1 h2 (k := k) hk
    have fbd := fhF_bd (g := bOff N m v0.toInt.toNat v1.toInt.toNat v2.toInt.toNat R) (rl := rlF N m R) (n := scF N m R) (fun k hk => by have := ob k hk; omega)
    unfold w_X12_fit_l106
    refine lfp_for (i0 := 0) (n := R) (fun (r : Nat) (t : Int32 × Int64 × Int32 × Mem) => t.2.2.1.toInt = (r : Int) ∧ t.2.2.2 = M10 ∧ t.1 = (fhF (bOff N m v0.toInt.toNat v1.toInt.toNat v2.toInt.toNat R) (rlF N m R) (scF N m r)).1 ∧ t.2.1.toInt = (fhF (bOff N m v0.toInt.toNat v1.toInt.toNat v2.toInt.toNat R) (rlF N m R) (scF N m r)).2) ?_ (by omega) ⟨rfl, rfl, rfl, rfl⟩
    intro P r st hr hJ hP
    obtain ⟨r6, r7, r9, M1⟩ := st
    obtain ⟨a0, b0, d0, e0⟩ := hJ
    have q9 : r9.toInt = (r : Int) := a0
    have hM : M1 = M10 := b0
    have q6 : r6 = (fhF (bOff N m v0.toInt.toNat v1.toInt.toNat v2.toInt.toNat R) (rlF N m R) (scF N m r)).1 := d0
    have q7 : r7.toInt = (fhF (bOff N m v0.toInt.toNat v1.toInt.toNat v2.toInt.toNat R) (rlF N m R) (scF N m r)).2 := e0
    clear a0 b0 d0 e0
    subst hM
    unfold w_X12_fit_l106F w_X12_fit_b206 w_X12_fit_b223 w_X12_fit_b225
    dsimp only
    rw [e_many4, n10, le_i, q9]
    refine ⟨fun z => ?_, fun z => ?_⟩
    · have er : r = R := by omega
      subst er
      refine val _ _ ((Int32.toInt_toInt64 _).trans (by rw [q6])) ?_
      rw [if_neg (by omega), if_neg (by omega), if_neg (by omega), if_neg (by omega)]
    · have hr2 : r < 200 := by omega
      rw [e_isOf q9 hr2, n10, tf_z, Classical.not_not]
      have next : ∀ (y6 : Int32) (y7 : Int64), y6 = (fhF (bOff N m v0.toInt.toNat v1.toInt.toNat v2.toInt.toNat R) (rlF N m R) (scF N m (r + 1))).1 → y7.toInt = (fhF (bOff N m v0.toInt.toNat v1.toInt.toNat v2.toInt.toNat R) (rlF N m R) (scF N m (r + 1))).2 → ∀ x1 : Int32, x1 = r9 + 1 → P (y6, y7, x1, M1) := fun y6 y7 b1 b2 x1 ex1 => by
        refine hP (y6, y7, x1, M1) (by omega) ⟨?_, rfl, b1, b2⟩
        show x1.toInt = ((r + 1 : Nat) : Int)
        rw [ex1]; exact ix_a q9 rfl (by omega)
      have E13 := ix_a (ix_a (e := (1346 : Int32)) (a := 1346) rfl (ix_m (e := (14 : Int32)) (a := 14) rfl q9 (by omega)) (by omega)) (w := 13) (i := 13) rfl (by omega)
      have E5 := ix_a (ix_a (e := (1346 : Int32)) (a := 1346) rfl (ix_m (e := (14 : Int32)) (a := 14) rfl q9 (by omega)) (by omega)) (w := 5) (i := 5) rfl (by omega)
      rw [i_of E13, i_of E5]
      refine ⟨fun n => next _ _ (by rw [scF_f (fun y => n y.1)]; exact q6) (by rw [scF_f (fun y => n y.1)]; exact q7), fun s1 => ⟨vp_of E13 (by omega), fun n => next _ _ (by rw [scF_f (fun y => n y.2)]; exact q6) (by rw [scF_f (fun y => n y.2)]; exact q7), fun s2 => ⟨vp_of E5 (by omega), ?_⟩⟩⟩
      have sel : selF N m r := ⟨s1, s2⟩
      have at' := rlF_at sel (show r < R by omega)
      refine s_made12 (by rw [n10]; exact hI) q9 hr2 k2.1 k2.2.1 k2.2.2.1 B.1 B.2.1 B.2.2.1 (by omega) (by omega) (by omega) (fun v hv l1 l2 => ?_)
      rw [n10] at hv
      have t : -1 ≤ (N (1346 + 14 * r + 5)).toInt ∧ (N (1346 + 14 * r + 5)).toInt ≤ 10000000 := inv_run hI hr2 (by decide)
      have ed : ((N (1346 + 14 * r + 5)).toInt64 - v).toInt = bOff N m v0.toInt.toNat v1.toInt.toNat v2.toInt.toNat R (scF N m r) := by
        rw [tj_sub (by rw [Int32.toInt_toInt64]; omega) (by rw [Int32.toInt_toInt64]; omega), Int32.toInt_toInt64, hv]
        unfold bOff
        rw [at'.1]
      have o1 := ob (scF N m r) at'.2
      refine s_size12 (by rw [ed]; omega) (fun u hu => ?_)
      rw [ed] at hu
      rw [le_j, hu, q7]
      refine ⟨fun kk => ⟨fun _ => next _ _ ?_ ?_, fun n => absurd kk n⟩, fun kk => ⟨fun n => absurd n kk, fun _ => next _ _ ?_ ?_⟩⟩
      · rw [scF_t sel, fhF, if_neg (by omega)]; exact q6
      · rw [scF_t sel, fhF, if_neg (by omega)]; exact q7
      · rw [scF_t sel, fhF, if_pos (by omega), at'.1]; exact i_nat q9
      · rw [scF_t sel, fhF, if_pos (by omega)]; exact hu
  · have a := ne 0 n0
    have b := ne 1 n1
    have c := ne 2 n2
    rw [if_neg (by omega), if_neg (by omega), if_neg (by omega), if_pos (by omega)]
  · have a := ne 0 n0
    have b := ne 1 n1
    have c := ei 2 e2
    rw [if_neg (by omega), if_neg (by omega), if_pos (by omega)]
  · have a := ne 0 n0
    have b := ei 1 e1
    rw [if_neg (by omega), if_pos (by omega)]
  · have a := ei 0 e0
    rw [if_pos (by omega)]

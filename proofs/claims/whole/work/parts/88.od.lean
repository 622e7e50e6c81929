/-! the model fits -/
theorem s_made12 {rI v0 v1 v2 x0 x1 x2 : Int32} {r x y z : Nat} {M : Mem} {q : Int64 → Mem → Prop} (hI : InvN (M.1 136)) (hr : rI.toInt = r) (hr2 : r < 200) (k0 : okI v0 5) (k1 : okI v1 5) (k2 : okI v2 5) (hx : x0.toInt = x) (hy : x1.toInt = y) (hz : x2.toInt = z) (x12 : x ≤ 12) (y12 : y ≤ 12) (z12 : z ≤ 12) (h : ∀ v : Int64, (M.1 136 (1346 + 14 * r + 5)).toInt - v.toInt = offI (M.1 136) v0.toInt.toNat v1.toInt.toNat v2.toInt.toNat x y z r → -10 ≤ v.toInt → v.toInt ≤ 72000 → q v M) : w_X12_made rI v0 v1 v2 x0 x1 x2 M q := by
  unfold w_X12_made
  intro x1' e1
  have E : x1'.toInt = ((1346 + 14 * r : Nat) : Int) := by rw [e1]; exact ix_a rfl (ix_m rfl hr (by omega)) (by omega)
  have E0 := ix_a E (ix_n k0.1) (by omega)
  have E1 := ix_a E (ix_n k1.1) (by omega)
  have E2 := ix_a E (ix_n k2.1) (by omega)
  rw [i_of E0, i_of E1, i_of E2]
  refine ⟨vp_of E0 (by omega), vp_of E1 (by omega), vp_of E2 (by omega), ?_⟩
  have ba := mul_bd x12 (cnt_bd hI (r := r) (c := v0.toInt.toNat) hr2 (by omega))
  have bb := mul_bd y12 (cnt_bd hI (r := r) (c := v1.toInt.toNat) hr2 (by omega))
  have bc := mul_bd z12 (cnt_bd hI (r := r) (c := v2.toInt.toNat) hr2 (by omega))
  have ea : (x0.toInt64 * (M.1 136 (1346 + 14 * r + v0.toInt.toNat)).toInt64).toInt = (x : Int) * (M.1 136 (1346 + 14 * r + v0.toInt.toNat)).toInt := by
    rw [tj_mul (by rw [Int32.toInt_toInt64, Int32.toInt_toInt64, hx]; omega) (by rw [Int32.toInt_toInt64, Int32.toInt_toInt64, hx]; omega), Int32.toInt_toInt64, Int32.toInt_toInt64, hx]
  have eb : (x1.toInt64 * (M.1 136 (1346 + 14 * r + v1.toInt.toNat)).toInt64).toInt = (y : Int) * (M.1 136 (1346 + 14 * r + v1.toInt.toNat)).toInt := by
    rw [tj_mul (by rw [Int32.toInt_toInt64, Int32.toInt_toInt64, hy]; omega) (by rw [Int32.toInt_toInt64, Int32.toInt_toInt64, hy]; omega), Int32.toInt_toInt64, Int32.toInt_toInt64, hy]
  have ec : (x2.toInt64 * (M.1 136 (1346 + 14 * r + v2.toInt.toNat)).toInt64).toInt = (z : Int) * (M.1 136 (1346 + 14 * r + v2.toInt.toNat)).toInt := by
    rw [tj_mul (by rw [Int32.toInt_toInt64, Int32.toInt_toInt64, hz]; omega) (by rw [Int32.toInt_toInt64, Int32.toInt_toInt64, hz]; omega), Int32.toInt_toInt64, Int32.toInt_toInt64, hz]
  have es1 := tj_add (a := x0.toInt64 * (M.1 136 (1346 + 14 * r + v0.toInt.toNat)).toInt64) (b := x1.toInt64 * (M.1 136 (1346 + 14 * r + v1.toInt.toNat)).toInt64) (by omega) (by omega)
  have es := tj_add (a := x0.toInt64 * (M.1 136 (1346 + 14 * r + v0.toInt.toNat)).toInt64 + x1.toInt64 * (M.1 136 (1346 + 14 * r + v1.toInt.toNat)).toInt64) (b := x2.toInt64 * (M.1 136 (1346 + 14 * r + v2.toInt.toNat)).toInt64) (by omega) (by omega)
  refine h _ ?_ ?_ ?_
  · rw [es, es1, ea, eb, ec]
    unfold offI
    omega
  · rw [es, es1, ea, eb, ec]; omega
  · rw [es, es1, ea, eb, ec]; omega
theorem s_size12 {v : Int64} {M : Mem} {q : Int64 → Mem → Prop} (hv : -20000000 ≤ v.toInt ∧ v.toInt ≤ 20000000) (h : ∀ w : Int64, w.toInt = (v.toInt.natAbs : Int) → q w M) : w_X12_size v M q := by
  have f0 : (0 : Int64).toInt = 0 := rfl
  unfold w_X12_size
  refine ⟨fun k => h v ?_, fun k => h (-v) ?_⟩
  · rw [le_j, f0] at k; omega
  · rw [le_j, f0] at k
    rw [tj_neg (by omega) (by omega)]
    omega
/-- only what the model's fit keeps changes -/
def FrG (M M' : Mem) : Prop := (∀ a b, ¬ (a = 135 ∧ (b = 18 ∨ b = 19 ∨ b = 20)) → M'.1 a b = M.1 a b) ∧ (∀ a, a ≠ 135 → M'.2.1 a = M.2.1 a) ∧ M'.2.2 = M.2.2
theorem FrG.tr {M M' M'' : Mem} (h : FrG M M') (h' : FrG M' M'') : FrG M M'' := ⟨fun a b hab => (h'.1 a b hab).trans (h.1 a b hab), fun a ha => (h'.2.1 a ha).trans (h.2.1 a ha), h'.2.2.trans h.2.2⟩
theorem FrG.row {M M' : Mem} (h : FrG M M') {a : Nat} (ha : a ≠ 135) : M'.1 a = M.1 a := by funext b; exact h.1 a b (fun x => ha x.1)
theorem FrG.m {M M' : Mem} (h : FrG M M') : FM M M' := ⟨fun a ha => h.row (by omega), fun a ha => h.2.1 a (by omega), h.2.2⟩
def BM (F : Nat → Nat) (b : Nat) (M : Mem) : Prop := (M.1 135 18).toInt = ((b / 169 : Nat) : Int) ∧ (M.1 135 19).toInt = ((b / 13 % 13 : Nat) : Int) ∧ (M.1 135 20).toInt = ((b % 13 : Nat) : Int) ∧ (M.2.1 135 21).toInt = (F b : Int)
theorem s_fitAll {m v0 v1 v2 : Int32} {M : Mem} {q : Mem → Prop} (hI : InvN (M.1 136)) (k0 : okI v0 5) (k1 : okI v1 5) (k2 : okI v2 5) (h : ∀ M', BM (sumK (M.1 136) m v0.toInt.toNat v1.toInt.toNat v2.toInt.toNat (M.1 136 4214).toInt.toNat) (bestK (M.1 136) m v0.toInt.toNat v1.toInt.toNat v2.toInt.toNat (M.1 136 4214).toInt.toNat) M' → FrG M M' → q M') : w_X12_fitAll m v0 v1 v2 M q := by
  have i4 : 0 ≤ (M.1 136 4214).toInt ∧ (M.1 136 4214).toInt ≤ 200 := hI.1 4214 (by decide)
  have g0 : (0 : Int64).toInt = 0 := rfl
  have f2197 : (2197 : Int32).toInt = 2197 := rfl
  obtain ⟨N, hN⟩ : ∃ N, N = M.1 136 := ⟨_, rfl⟩
  rw [← hN] at h hI i4
  obtain ⟨R, hRd⟩ : ∃ R, R = (N 4214).toInt.toNat := ⟨_, rfl⟩
  rw [← hRd] at h
  have hR2 : R ≤ 200 := by omega
  obtain ⟨F, hFd⟩ : ∃ F, F = sumK N m v0.toInt.toNat v1.toInt.toNat v2.toInt.toNat R := ⟨_, rfl⟩
  unfold bestK at h
  rw [← hFd] at h
  unfold w_X12_fitAll
  intro M27 e27
  have F27 : FrG M M27 := ⟨fun a b _ => by rw [e27]; rfl, fun a ha => by funext b; rw [e27]; simp [uJ, ha], by rw [e27]; rfl⟩
  have l27 : (M27.2.1 135 21).toInt = -1 := by rw [e27]; simp [uJ]
  clear e27
  unfold w_X12_fitAll_l10
  refine lfp_for (i0 := 0) (n := 2197) (fun (k : Nat) (t : Int32 × Mem) => t.1.toInt = (k : Int) ∧ FrG M t.2 ∧ (k = 0 → (t.2.2.1 135 21).toInt = -1) ∧ (0 < k → BM F (fbF F k) t.2)) ?_ (by omega) ⟨rfl, F27, fun _ => l27, fun x => absurd x (by omega)⟩
  clear F27 l27
  intro P k st hk hJ hP
  obtain ⟨v5, M1⟩ := st
  obtain ⟨a0, F0, b0, c0⟩ := hJ
  have h5 : v5.toInt = (k : Int) := a0
  have F1 : FrG M M1 := F0
  have z1 : k = 0 → (M1.2.1 135 21).toInt = -1 := b0
  have B1 : 0 < k → BM F (fbF F k) M1 := c0
  clear a0 F0 b0 c0
  have n1 : M1.1 136 = N := by rw [F1.row (by decide), hN]
  unfold w_X12_fitAll_l10F
  dsimp only
  rw [le_i, f2197, h5]
  refine ⟨fun z => ?_, fun z x24 e24 x25 e25 x26 e26 => ?_⟩
  · have e : k = 2197 := by omega
    subst e
    exact h M1 (B1 (by decide)) F1
  · have E24 : x24.toInt = ((k / 169 : Nat) : Int) := by rw [e24]; exact ix_d h5 rfl (by decide)
    have E25 : x25.toInt = ((k / 13 % 13 : Nat) : Int) := by rw [e25]; exact ix_r (ix_d h5 rfl (by decide)) rfl (by decide)
    have E26 : x26.toInt = ((k % 13 : Nat) : Int) := by rw [e26]; exact ix_r h5 rfl (by decide)
    clear e24 e25 e26
    have hsc := scF_le (N := N) (m := m) R
    have ob : ∀ j, j < scF N m R → (offI N v0.toInt.toNat v1.toInt.toNat v2.toInt.toNat (k / 169) (k / 13 % 13) (k % 13) (rlF N m R j)).natAbs ≤ 10000000 := fun j hj => by
      have := rlF_lt (N := N) (m := m) R j hj
      have := offI_bd hI (c0 := v0.toInt.toNat) (c1 := v1.toInt.toNat) (c2 := v2.toInt.toNat) (x := k / 169) (y := k / 13 % 13) (z := k % 13) (r := rlF N m R j) (by omega) (by omega) (by omega) (by omega) (by omega) (by omega) (by omega)
      omega
    have fb := fsF_bd (g := fun i => offI N v0.toInt.toNat v1.toInt.toNat v2.toInt.toNat (k / 169) (k / 13 % 13) (k % 13) (rlF N m R i)) (n := scF N m R) ob
    unfold w_X12_fitAll_l49
    refine lfp_for (i0 := 0) (n := R) (fun (r : Nat) (t : Int64 × Int32 × Mem) => t.2.1.toInt = (r : Int) ∧ t.2.2 = M1 ∧ t.1.toInt = ((fsF (fun i => offI N v0.toInt.toNat v1.toInt.toNat v2.toInt.toNat (k / 169) (k / 13 % 13) (k % 13) (rlF N m R i)) (scF N m r) : Nat) : Int)) ?_ (by omega) ⟨rfl, rfl, rfl⟩
    intro P' r st hr hJ hP'
    obtain ⟨v9, v11, M2⟩ := st
    obtain ⟨a0, b0, c0⟩ := hJ
    have h11 : v11.toInt = (r : Int) := a0
    have hM : M2 = M1 := b0
    have h9 : v9.toInt = ((fsF (fun i => offI N v0.toInt.toNat v1.toInt.toNat v2.toInt.toNat (k / 169) (k / 13 % 13) (k % 13) (rlF N m R i)) (scF N m r) : Nat) : Int) := c0
    clear a0 b0 c0
    subst hM
    unfold w_X12_fitAll_l49F w_X12_fitAll_b131
    dsimp only
    rw [e_many4, n1, le_i, h11, lt_j, g0, le_j]
    refine ⟨fun zr => ?_, fun zr => ?_⟩
    · have er : r = R := by omega
      subst er
      have hFk : v9.toInt = (F k : Int) := by rw [h9, hFd]; rfl
      have next : ∀ M', FrG M M' → BM F (fbF F (k + 1)) M' → ∀ x : Int32, x = v5 + 1 → P (x, M') := fun M' b1 b2 x ex => by
        refine hP (x, M') (by omega) ⟨?_, b1, fun y => absurd y (by omega), fun _ => b2⟩
        show x.toInt = ((k + 1 : Nat) : Int)
        rw [ex]; exact ix_a h5 rfl (by omega)
      have take : fbF F (k + 1) = k → w_X12_fitAll_b156 m v0 v1 v2 v5 x24 x25 x26 v9 M2 q P := fun eb => by
        unfold w_X12_fitAll_b156 w_X12_fitAll_b180
        intro Ma ea Mb eb' Mc ec Md ed
        refine next Md ?_ ?_
        · refine F1.tr ⟨fun a b hab => ?_, fun a ha => ?_, ?_⟩
          · rw [ed]
            show (if a = 135 ∧ b = 20 then _ else Mc.1 a b) = _
            rw [if_neg (by omega), ec]
            show (if a = 135 ∧ b = 19 then _ else Mb.1 a b) = _
            rw [if_neg (by omega), eb']
            show (if a = 135 ∧ b = 18 then _ else Ma.1 a b) = _
            rw [if_neg (by omega), ea]
            rfl
          · rw [ed, ec, eb', ea]; funext b; simp [uI, uJ, ha]
          · rw [ed, ec, eb', ea]; rfl
        · rw [eb]
          refine ⟨?_, ?_, ?_, ?_⟩
          · rw [ed, uI_j (by decide), ec, uI_j (by decide), eb', uI_s]; exact E24
          · rw [ed, uI_j (by decide), ec, uI_s]; exact E25
          · rw [ed, uI_s]; exact E26
          · rw [ed, ec, eb', ea]; simp [uI, uJ]; exact hFk
      refine ⟨fun neg => take ?_, fun nn => ?_⟩
      · have k0' : k = 0 := by
          by_cases e : k = 0
          · exact e
          · have := (B1 (by omega)).2.2.2
            omega
        subst k0'
        show (if F 0 < F 0 then 0 else 0) = 0
        split <;> rfl
      · have kp : 0 < k := by
          by_cases e : k = 0
          · have := z1 e; omega
          · omega
        have B1 := B1 kp
        rw [B1.2.2.2, hFk]
        refine ⟨fun kk => ?_, fun kk => take ?_⟩
        · unfold w_X12_fitAll_b180
          refine next M2 F1 ?_
          rw [fbF, if_neg (by omega)]; exact B1
        · rw [fbF, if_pos (by omega)]
    · have hr2 : r < 200 := by omega
      rw [e_isOf h11 hr2, n1, tf_z, Classical.not_not]
      have next : ∀ y : Int64, y.toInt = ((fsF (fun i => offI N v0.toInt.toNat v1.toInt.toNat v2.toInt.toNat (k / 169) (k / 13 % 13) (k % 13) (rlF N m R i)) (scF N m (r + 1)) : Nat) : Int) → ∀ x : Int32, x = v11 + 1 → P' (y, x, M2) := fun y hy x ex => by
        refine hP' (y, x, M2) (by omega) ⟨?_, rfl, hy⟩
        show x.toInt = ((r + 1 : Nat) : Int)
        rw [ex]; exact ix_a h11 rfl (by omega)
      have E13 := ix_a (ix_a (e := (1346 : Int32)) (a := 1346) rfl (ix_m (e := (14 : Int32)) (a := 14) rfl h11 (by omega)) (by omega)) (w := 13) (i := 13) rfl (by omega)
      have E5 := ix_a (ix_a (e := (1346 : Int32)) (a := 1346) rfl (ix_m (e := (14 : Int32)) (a := 14) rfl h11 (by omega)) (by omega)) (w := 5) (i := 5) rfl (by omega)
      rw [i_of E13, i_of E5]
      refine ⟨fun n => next v9 (by rw [scF_f (fun y => n y.1)]; exact h9), fun s1 => ⟨vp_of E13 (by omega), fun n => next v9 (by rw [scF_f (fun y => n y.2)]; exact h9), fun s2 => ⟨vp_of E5 (by omega), ?_⟩⟩⟩
      have sel : selF N m r := ⟨s1, s2⟩
      have at' := rlF_at sel (show r < R by omega)
      refine s_made12 (by rw [n1]; exact hI) h11 hr2 k0 k1 k2 E24 E25 E26 (by omega) (by omega) (by omega) (fun v hv l1 l2 => ?_)
      rw [n1] at hv
      have t : -1 ≤ (N (1346 + 14 * r + 5)).toInt ∧ (N (1346 + 14 * r + 5)).toInt ≤ 10000000 := inv_run hI hr2 (by decide)
      have ed : ((N (1346 + 14 * r + 5)).toInt64 - v).toInt = offI N v0.toInt.toNat v1.toInt.toNat v2.toInt.toNat (k / 169) (k / 13 % 13) (k % 13) r := by
        rw [tj_sub (by rw [Int32.toInt_toInt64]; omega) (by rw [Int32.toInt_toInt64]; omega), Int32.toInt_toInt64]; exact hv
      refine s_size12 (by rw [ed]; omega) (fun w hw x22 e22 => next x22 ?_)
      have b1 := fb (scF N m r) (by omega)
      have b2 := ob (scF N m r) at'.2
      rw [at'.1] at b2
      rw [ed] at hw
      rw [e22, tj_add (by omega) (by omega), h9, hw, scF_t sel, fsF, at'.1]
      omega

/-! the class gathers runs and is far from them -/
theorem bm64 {z : Int} (h1 : -9223372036854775808 ≤ z) (h2 : z < 9223372036854775808) : z.bmod (2 ^ 64) = z := by
  rw [Int.bmod_def]
  omega
theorem tj_add {a b : Int64} (h1 : -9223372036854775808 ≤ a.toInt + b.toInt) (h2 : a.toInt + b.toInt < 9223372036854775808) : (a + b).toInt = a.toInt + b.toInt := by
  rw [Int64.toInt_add]; exact bm64 h1 h2
theorem tj_sub {a b : Int64} (h1 : -9223372036854775808 ≤ a.toInt - b.toInt) (h2 : a.toInt - b.toInt < 9223372036854775808) : (a - b).toInt = a.toInt - b.toInt := by
  rw [Int64.toInt_sub]; exact bm64 h1 h2
theorem tj_mul {a b : Int64} (h1 : -9223372036854775808 ≤ a.toInt * b.toInt) (h2 : a.toInt * b.toInt < 9223372036854775808) : (a * b).toInt = a.toInt * b.toInt := by
  rw [Int64.toInt_mul]; exact bm64 h1 h2
theorem tj_neg {a : Int64} (h1 : -9223372036854775808 < a.toInt) (h2 : a.toInt ≤ 9223372036854775807) : (-a).toInt = -a.toInt := by
  rw [Int64.toInt_neg]; exact bm64 (by omega) (by omega)
theorem lt_j {a b : Int64} : a < b ↔ a.toInt < b.toInt := Int64.lt_iff_toInt_lt
theorem le_j {a b : Int64} : a ≤ b ↔ a.toInt ≤ b.toInt := Int64.le_iff_toInt_le
theorem eq_j {a b : Int64} : a = b ↔ a.toInt = b.toInt := Int64.toInt_inj.symm
/-- only the fitting's own cells change -/
def FrF (M M' : Mem) : Prop := (∀ a, (a < 60 ∨ 68 ≤ a) → M'.1 a = M.1 a) ∧ (∀ a, a ≠ 60 → M'.2.1 a = M.2.1 a) ∧ M'.2.2 = M.2.2
theorem FrF.tr {M M' M'' : Mem} (h : FrF M M') (h' : FrF M' M'') : FrF M M'' := ⟨fun a ha => (h'.1 a ha).trans (h.1 a ha), fun a ha => (h'.2.1 a ha).trans (h.2.1 a ha), h'.2.2.trans h.2.2⟩
theorem FrF.rf (M : Mem) : FrF M M := ⟨fun _ _ => rfl, fun _ _ => rfl, rfl⟩
theorem FrF.q {M M' : Mem} (h : FrF M M') : FQ M M' := ⟨fun a ha => h.1 a (by omega), fun a ha => h.2.1 a (by omega)⟩
theorem frf_u {M : Mem} {k j : Nat} {v : Int32} (h : 60 ≤ k ∧ k < 68) : FrF M (uI M k j v) := ⟨fun a ha => by funext b; exact uI_k (by omega), fun _ _ => rfl, rfl⟩
theorem frf_j {M : Mem} {j : Nat} {v : Int64} : FrF M (uJ M 60 j v) := ⟨fun _ _ => rfl, fun a ha => by funext b; simp [uJ, ha], rfl⟩
/-- the gathered runs stand -/
def GS (N : Nat → Int32) (m : Int32) (c0 c1 c2 r : Nat) (M : Mem) : Prop := (M.1 60 8).toInt = ((scF N m r : Nat) : Int) ∧ ∀ k, k < scF N m r → M.1 63 k = Int32.ofNat (rlF N m r k) ∧ M.1 64 k = N (1346 + 14 * rlF N m r k + c0) ∧ M.1 65 k = N (1346 + 14 * rlF N m r k + c1) ∧ M.1 66 k = N (1346 + 14 * rlF N m r k + c2) ∧ M.1 67 k = N (1346 + 14 * rlF N m r k + 5)
def AS (c0 c1 c2 : Nat) (M : Mem) : Prop := (M.1 62 0).toInt = (c0 : Int) ∧ (M.1 62 1).toInt = (c1 : Int) ∧ (M.1 62 2).toInt = (c2 : Int)
theorem s_fgather {m : Int32} {c0 c1 c2 : Nat} {M : Mem} {N : Nat → Int32} {q : Mem → Prop} (hR : Rep 1 N M.1) (hI : InvN N) (h0 : c0 < 5) (h1 : c1 < 5) (h2 : c2 < 5) (hA : AS c0 c1 c2 M) (h : ∀ M', GS N m c0 c1 c2 (N 4214).toInt.toNat M' → AS c0 c1 c2 M' → FrF M M' → q M') : w_X2_gatherRuns 60 1 m M q := by
  have i4 : 0 ≤ (N 4214).toInt ∧ (N 4214).toInt ≤ 200 := hI.1 4214 (by decide)
  have f200 : (200 : Int32).toInt = 200 := rfl
  unfold w_X2_gatherRuns
  intro M29 e29
  have F29 : FrF M M29 := by rw [e29]; exact frf_u (by decide)
  have G29 : GS N m c0 c1 c2 0 M29 := ⟨by rw [e29, uI_s]; rfl, fun k hk => absurd hk (by show ¬ k < 0; omega)⟩
  have A29 : AS c0 c1 c2 M29 := by unfold AS; rw [e29, uI_k (by decide), uI_k (by decide), uI_k (by decide)]; exact hA
  clear e29
  unfold w_X2_gatherRuns_l7
  refine lfp_for (i0 := 0) (n := (N 4214).toInt.toNat) (fun (r : Nat) (t : Int32 × Mem) => t.1.toInt = (r : Int) ∧ GS N m c0 c1 c2 r t.2 ∧ AS c0 c1 c2 t.2 ∧ FrF M t.2) ?_ (by omega) ⟨rfl, G29, A29, F29⟩
  clear G29 A29 F29
  intro P r st hr hJ hP
  obtain ⟨a, M1⟩ := st
  obtain ⟨ha0, hG0, hA0, hF0⟩ := hJ
  have ha : a.toInt = (r : Int) := ha0
  have hG : GS N m c0 c1 c2 r M1 := hG0
  have hA1 : AS c0 c1 c2 M1 := hA0
  have hF : FrF M M1 := hF0
  clear ha0 hG0 hA0 hF0
  have R1 := hF.q.r hR
  have hsc := scF_le (N := N) (m := m) r
  unfold w_X2_gatherRuns_l7F w_X2_gatherRuns_b139
  dsimp only
  rw [rc4 R1, le_i, ha, le_i, f200, hG.1]
  refine ⟨fun z => ?_, fun z => ⟨fun z2 => absurd z2 (by omega), fun z2 => ?_⟩⟩
  · have e : r = (N 4214).toInt.toNat := by omega
    rw [e] at hG
    exact h M1 hG hA1 hF
  · have hr2 : r < 200 := by omega
    rw [e_timed R1 ha hr2, tf_z, Classical.not_not]
    have next : ∀ M', GS N m c0 c1 c2 (r + 1) M' → AS c0 c1 c2 M' → FrF M M' → ∀ x : Int32, x = a + 1 → P (x, M') := fun M' b1 b2 b3 x ex => by
      refine hP (x, M') (by omega) ⟨?_, b1, b2, b3⟩
      show x.toInt = ((r + 1 : Nat) : Int)
      rw [ex]; exact ix_a ha rfl (by omega)
    have skip : ¬ selF N m r → ∀ x : Int32, x = a + 1 → P (x, M1) := fun n => next M1 (by unfold GS; rw [scF_f n, rlF, if_neg n]; exact hG) hA1 hF
    refine ⟨fun n => skip (fun y => n y.1), fun k1 => ?_⟩
    rw [e_told R1 ha (wn := 13) rfl hr2 (by decide)]
    refine ⟨fun n => skip (fun y => n y.2), fun k2 => ?_⟩
    have ks : selF N m r := ⟨k1, k2⟩
    have V : ∀ M' : Mem, M'.1 60 8 = M1.1 60 8 → vp_in (M'.1 60 8) 200 ∧ (M'.1 60 8).toNatClampNeg = scF N m r := fun M' e => by
      rw [e]; exact ⟨vp_of hG.1 (by omega), i_of hG.1⟩
    refine ⟨(V M1 rfl).1, fun M11 e11 => ?_⟩
    rw [(V M1 rfl).2] at e11
    have F11 : FrF M M11 := hF.tr (by rw [e11]; exact frf_u (by decide))
    have A11 : AS c0 c1 c2 M11 := by unfold AS; rw [e11, uI_k (by decide), uI_k (by decide), uI_k (by decide)]; exact hA1
    have v11 := V M11 (by rw [e11, uI_k (by decide)])
    rw [e_told (F11.q.r hR) ha A11.1 hr2 (by omega), v11.2]
    refine ⟨v11.1, fun M15 e15 => ?_⟩
    have F15 : FrF M M15 := F11.tr (by rw [e15]; exact frf_u (by decide))
    have A15 : AS c0 c1 c2 M15 := by unfold AS; rw [e15, uI_k (by decide), uI_k (by decide), uI_k (by decide)]; exact A11
    have v15 := V M15 (by rw [e15, uI_k (by decide), e11, uI_k (by decide)])
    rw [e_told (F15.q.r hR) ha A15.2.1 hr2 (by omega), v15.2]
    refine ⟨v15.1, fun M19 e19 => ?_⟩
    have F19 : FrF M M19 := F15.tr (by rw [e19]; exact frf_u (by decide))
    have A19 : AS c0 c1 c2 M19 := by unfold AS; rw [e19, uI_k (by decide), uI_k (by decide), uI_k (by decide)]; exact A15
    have v19 := V M19 (by rw [e19, uI_k (by decide), e15, uI_k (by decide), e11, uI_k (by decide)])
    rw [e_told (F19.q.r hR) ha A19.2.2 hr2 (by omega), v19.2]
    refine ⟨v19.1, fun M23 e23 => ?_⟩
    have F23 : FrF M M23 := F19.tr (by rw [e23]; exact frf_u (by decide))
    have A23 : AS c0 c1 c2 M23 := by unfold AS; rw [e23, uI_k (by decide), uI_k (by decide), uI_k (by decide)]; exact A19
    have v23 := V M23 (by rw [e23, uI_k (by decide), e19, uI_k (by decide), e15, uI_k (by decide), e11, uI_k (by decide)])
    rw [e_told (F23.q.r hR) ha (wn := 5) rfl hr2 (by decide), v23.2]
    refine ⟨v23.1, fun M27 e27 M28 e28 => ?_⟩
    have s27 : M27.1 60 8 = M1.1 60 8 := by rw [e27, uI_k (by decide), e23, uI_k (by decide), e19, uI_k (by decide), e15, uI_k (by decide), e11, uI_k (by decide)]
    rw [s27] at e28
    have A28 : AS c0 c1 c2 M28 := by
      unfold AS
      rw [e28, uI_k (by decide), uI_k (by decide), uI_k (by decide), e27, uI_k (by decide), uI_k (by decide), uI_k (by decide)]
      exact A23
    refine next M28 ⟨?_, fun k hk => ?_⟩ A28 (F23.tr (by rw [e28, e27]; exact (frf_u (by decide)).tr (frf_u (by decide))))
    · rw [e28, uI_s, scF_t ks]
      exact ix_a hG.1 rfl (by omega)
    · rw [scF_t ks] at hk
      have c63 : M28.1 63 k = (uI M1 63 (scF N m r) a).1 63 k := by rw [e28, uI_k (by decide), e27, uI_k (by decide), e23, uI_k (by decide), e19, uI_k (by decide), e15, uI_k (by decide), e11]
      have c64 : M28.1 64 k = (uI M11 64 (scF N m r) (N (1346 + 14 * r + c0))).1 64 k := by rw [e28, uI_k (by decide), e27, uI_k (by decide), e23, uI_k (by decide), e19, uI_k (by decide), e15]
      have c65 : M28.1 65 k = (uI M15 65 (scF N m r) (N (1346 + 14 * r + c1))).1 65 k := by rw [e28, uI_k (by decide), e27, uI_k (by decide), e23, uI_k (by decide), e19]
      have c66 : M28.1 66 k = (uI M19 66 (scF N m r) (N (1346 + 14 * r + c2))).1 66 k := by rw [e28, uI_k (by decide), e27, uI_k (by decide), e23]
      have c67 : M28.1 67 k = (uI M23 67 (scF N m r) (N (1346 + 14 * r + 5))).1 67 k := by rw [e28, uI_k (by decide), e27]
      rw [c63, c64, c65, c66, c67, rlF, if_pos ks]
      by_cases e : k = scF N m r
      · subst e
        simp only [if_true]
        rw [uI_s, uI_s, uI_s, uI_s, uI_s]
        exact ⟨i_nat ha, rfl, rfl, rfl, rfl⟩
      · simp only [e, if_false]
        rw [uI_j e, uI_j e, uI_j e, uI_j e, uI_j e]
        have g := hG.2 k (by omega)
        refine ⟨g.1, ?_, ?_, ?_, ?_⟩
        · rw [e11, uI_k (by decide)]; exact g.2.1
        · rw [e15, uI_k (by decide), e11, uI_k (by decide)]; exact g.2.2.1
        · rw [e19, uI_k (by decide), e15, uI_k (by decide), e11, uI_k (by decide)]; exact g.2.2.2.1
        · rw [e23, uI_k (by decide), e19, uI_k (by decide), e15, uI_k (by decide), e11, uI_k (by decide)]; exact g.2.2.2.2

/-! digest -/
def dg0 (N : Nat → Int32) : Nat → Int64
  | 0 => 349
  | k + 1 => 31 * dg0 N k + (spCnt (Int32.ofNat k) N).toInt64
def dgM (N : Nat → Int32) (h : Int64) : Nat → Int64
  | 0 => h
  | m + 1 => mix (mix (dgM N h m) (fun t => N (1106 + 60 * m + 20 + t)) (N (1106 + 60 * m + 8)).toInt.toNat) (fun t => N (1106 + 60 * m + 36 + t)) (N (1106 + 60 * m + 11)).toInt.toNat
def dgA (N : Nat → Int32) : Int64 := mix (mix (mix (dg0 N 9) (fun t => N (1346 + t)) (14 * (N 4214).toInt.toNat)) (fun t => N (4146 + t)) (N 4215).toInt.toNat) (fun t => N (4162 + t)) (N 4216).toInt.toNat
def dgB (N : Nat → Int32) : Int64 := mix (mix (dgA N) (fun t => N (4218 + t)) 2) (fun t => N (4170 + t)) (N 4217).toInt.toNat
def spDig (N : Nat → Int32) : Int64 := dgM N (mix (dgB N) (fun t => N (1026 + t)) (2 * (N 4212).toInt.toNat)) 4
theorem inv_mach {N : Nat → Int32} (hI : InvN N) {m r : Nat} (hm : m < 4) (hr : r < 60) : (rgM r).1 ≤ (N (1106 + 60 * m + r)).toInt ∧ (N (1106 + 60 * m + r)).toInt ≤ (rgM r).2 := by
  have := hI.1 (1106 + 60 * m + r) (by omega)
  rw [rg_mach hm hr] at this
  exact this
theorem s_dig12 {M : Mem} {q : Int64 → Mem → Prop} (hI : InvN (M.1 136)) (h : q (spDig (M.1 136)) M) : w_X12_digest M q := by
  have i2 : 0 ≤ (M.1 136 4212).toInt ∧ (M.1 136 4212).toInt ≤ 24 := hI.1 4212 (by decide)
  have i4 : 0 ≤ (M.1 136 4214).toInt ∧ (M.1 136 4214).toInt ≤ 200 := hI.1 4214 (by decide)
  have i5 : 0 ≤ (M.1 136 4215).toInt ∧ (M.1 136 4215).toInt ≤ 16 := hI.1 4215 (by decide)
  have i6 : 0 ≤ (M.1 136 4216).toInt ∧ (M.1 136 4216).toInt ≤ 8 := hI.1 4216 (by decide)
  have i7 : 0 ≤ (M.1 136 4217).toInt ∧ (M.1 136 4217).toInt ≤ 40 := hI.1 4217 (by decide)
  have f9 : (9 : Int32).toInt = 9 := rfl
  have f4 : (4 : Int32).toInt = 4 := rfl
  unfold w_X12_digest w_X12_digest_l6
  refine lfp_for (i0 := 0) (n := 9) (fun (i : Nat) (s : Int64 × Int32 × Mem) => s.2.1.toInt = (i : Int) ∧ s.2.2 = M ∧ s.1 = dg0 (M.1 136) i) ?_ (by omega) ⟨rfl, rfl, rfl⟩
  intro P i s hi hJ hP
  obtain ⟨y, a, M1⟩ := s
  obtain ⟨haz1, hMz1, hyz1⟩ := hJ
  have ha : a.toInt = i := haz1
  have hM : M1 = M := hMz1
  have hy : y = dg0 (M.1 136) i := hyz1
  subst hM
  subst hy
  unfold w_X12_digest_l6F
  dsimp only
  refine ⟨fun z => ?_, fun z => ?_⟩
  · rw [le_i, f9] at z
    have e9 : i = 9 := by omega
    subst e9
    rw [e_many4]
    refine s_sums (st := 1346) rfl (ix_m (e := (14 : Int32)) (a := 14) rfl (ix_n i4.1) (by omega)) (by omega) ?_
    rw [e_many5]
    refine s_sums (st := 4146) rfl (ix_n i5.1) (by omega) ?_
    rw [e_many6]
    refine s_sums (st := 4162) rfl (ix_n i6.1) (by omega) (s_sums (st := 4218) (n := 2) rfl rfl (by decide) ?_)
    rw [e_many7]
    refine s_sums (st := 4170) rfl (ix_n i7.1) (by omega) ?_
    rw [e_many2]
    refine s_sums (st := 1026) rfl (ix_m (e := (2 : Int32)) (a := 2) rfl (ix_n i2.1) (by omega)) (by omega) ?_
    unfold w_X12_digest_l120
    refine lfp_for (i0 := 0) (n := 4) (fun (i : Nat) (s : Int64 × Int32 × Mem) => s.2.1.toInt = (i : Int) ∧ s.2.2 = M1 ∧ s.1 = dgM (M1.1 136) (mix (dgB (M1.1 136)) (fun t => M1.1 136 (1026 + t)) (2 * (M1.1 136 4212).toInt.toNat)) i) ?_ (by omega) ⟨rfl, rfl, rfl⟩
    clear P hP
    intro P m s hm hJ hP
    obtain ⟨y, b, M2⟩ := s
    obtain ⟨hbz2, hMz2, hyz2⟩ := hJ
    have hb : b.toInt = m := hbz2
    have hM : M2 = M1 := hMz2
    subst hM
    have hy : y = dgM (M2.1 136) (mix (dgB (M2.1 136)) (fun t => M2.1 136 (1026 + t)) (2 * (M2.1 136 4212).toInt.toNat)) m := hyz2
    subst hy
    unfold w_X12_digest_l120F
    dsimp only
    refine ⟨fun z => ?_, fun z x2 e2 => ?_⟩
    · rw [le_i, f4] at z
      have e4 : m = 4 := by omega
      subst e4
      exact h
    · rw [le_i, f4] at z
      have hm4 : m < 4 := by omega
      have E : x2.toInt = ((1106 + 60 * m : Nat) : Int) := by rw [e2]; exact ix_a rfl (ix_m rfl hb (by omega)) (by omega)
      have G := fun (e : Int32) (w : Nat) (he : e.toInt = w) (hw : w < 60) => ix_a E he (by omega)
      have r8 : 1 ≤ (M2.1 136 (1106 + 60 * m + 8)).toInt ∧ (M2.1 136 (1106 + 60 * m + 8)).toInt ≤ 16 := inv_mach hI hm4 (by decide)
      have r11 : 1 ≤ (M2.1 136 (1106 + 60 * m + 11)).toInt ∧ (M2.1 136 (1106 + 60 * m + 11)).toInt ≤ 16 := inv_mach hI hm4 (by decide)
      refine ⟨vp_of (G 8 8 rfl (by decide)) (by omega), ?_⟩
      rw [i_of (G 8 8 rfl (by decide))]
      refine s_sums (G 20 20 rfl (by decide)) (ix_n (by omega)) (by omega) ⟨vp_of (G 11 11 rfl (by decide)) (by omega), ?_⟩
      rw [i_of (G 11 11 rfl (by decide))]
      refine s_sums (G 36 36 rfl (by decide)) (ix_n (by omega)) (by omega) (fun x9 e9 => ?_)
      refine hP (_, x9, M2) hm4 ⟨?_, rfl, rfl⟩
      show x9.toInt = ((m + 1 : Nat) : Int)
      rw [e9]; exact ix_a hb rfl (by omega)
  · rw [le_i, f9] at z
    refine s_cnt12 hI (fun x35 e35 x36 e36 => ?_)
    refine hP (x35, x36, M1) (by omega) ⟨?_, rfl, ?_⟩
    · show x36.toInt = ((i + 1 : Nat) : Int)
      rw [e36]; exact ix_a ha rfl (by omega)
    · show x35 = 31 * dg0 (M1.1 136) i + (spCnt (Int32.ofNat i) (M1.1 136)).toInt64
      rw [e35, i_nat ha]
theorem s_dig11 {M : Mem} {N : Nat → Int32} {q : Int64 → Mem → Prop} (hR : Rep 1 N M.1) (hI : InvN N) (h : q (spDig N) M) : w_X11_digest M q := by
  have i2 : 0 ≤ (N 4212).toInt ∧ (N 4212).toInt ≤ 24 := hI.1 4212 (by decide)
  have i4 : 0 ≤ (N 4214).toInt ∧ (N 4214).toInt ≤ 200 := hI.1 4214 (by decide)
  have i5 : 0 ≤ (N 4215).toInt ∧ (N 4215).toInt ≤ 16 := hI.1 4215 (by decide)
  have i6 : 0 ≤ (N 4216).toInt ∧ (N 4216).toInt ≤ 8 := hI.1 4216 (by decide)
  have i7 : 0 ≤ (N 4217).toInt ∧ (N 4217).toInt ≤ 40 := hI.1 4217 (by decide)
  have f8 : (8 : Int32).toInt = 8 := rfl
  have f4 : (4 : Int32).toInt = 4 := rfl
  unfold w_X11_digest w_X11_digest_l6
  refine lfp_for (i0 := 0) (n := 9) (fun (i : Nat) (s : Int64 × Int32 × Mem) => s.2.1.toInt = (i : Int) ∧ s.2.2 = M ∧ s.1 = dg0 N i) ?_ (by omega) ⟨rfl, rfl, rfl⟩
  intro P i s hi hJ hP
  obtain ⟨y, a, M1⟩ := s
  obtain ⟨haz3, hMz3, hyz3⟩ := hJ
  have ha : a.toInt = i := haz3
  have hM : M1 = M := hMz3
  have hy : y = dg0 N i := hyz3
  subst hM
  subst hy
  unfold w_X11_digest_l6F
  dsimp only
  refine ⟨fun z => ?_, fun z => ?_⟩
  · rw [lt_i, f8] at z
    have e9 : i = 9 := by omega
    subst e9
    rw [rc4 hR]
    refine s_mixed (L := 2800) (ix_m (ix_n i4.1) (w := (14 : Int32)) (i := 14) rfl (by omega)) rfl (by omega) (by decide) ?_
    rw [rc5 hR]
    refine s_mixed (L := 16) (ix_n i5.1) rfl (by omega) (by decide) ?_
    rw [rc6 hR]
    refine s_mixed (L := 8) (ix_n i6.1) rfl (by omega) (by decide) (fun x24 e24 x25 e25 => ?_)
    rw [rc7 hR]
    rw [rc8 hR] at e24
    rw [rc9 hR] at e25
    refine s_mixed (L := 40) (ix_n i7.1) rfl (by omega) (by decide) ?_
    have eA : mix (mix (mix (dg0 N 9) (M1.1 15) ((N 4214).toInt.toNat * 14)) (M1.1 13) (N 4215).toInt.toNat) (M1.1 14) (N 4216).toInt.toNat = dgA N := by
      unfold dgA
      rw [Nat.mul_comm (N 4214).toInt.toNat 14, mix_cg (f := M1.1 15) (g := fun t => N (1346 + t)) (fun t ht => rd_run hR (by omega)), mix_cg (f := M1.1 13) (g := fun t => N (4146 + t)) (fun t ht => rd_diff hR (by omega)), mix_cg (f := M1.1 14) (g := fun t => N (4162 + t)) (fun t ht => rd_look hR (by omega))]
    rw [eA] at e24
    have eB : mix x25 (M1.1 16) (N 4217).toInt.toNat = dgB N := by
      unfold dgB
      rw [mix_cg (f := M1.1 16) (g := fun t => N (4170 + t)) (fun t ht => rd_text hR (by omega)), e25, e24]
      rfl
    rw [eB]
    unfold w_X11_digest_l160
    refine lfp_for (i0 := 0) (n := (N 4212).toInt.toNat) (fun (i : Nat) (s : Int64 × Int32 × Mem) => s.2.1.toInt = (i : Int) ∧ s.2.2 = M1 ∧ s.1 = mix (dgB N) (fun t => N (1026 + t)) (2 * i)) ?_ (by omega) ⟨rfl, rfl, rfl⟩
    clear P hP
    intro P j s hj hJ hP
    obtain ⟨y, b, M2⟩ := s
    obtain ⟨hbz4, hMz4, hyz4⟩ := hJ
    have hb : b.toInt = j := hbz4
    have hM : M2 = M1 := hMz4
    subst hM
    have hy : y = mix (dgB N) (fun t => N (1026 + t)) (2 * j) := hyz4
    subst hy
    unfold w_X11_digest_l160F
    dsimp only
    rw [rc2 hR]
    refine ⟨fun z => ?_, fun z => ?_⟩
    · rw [le_i] at z
      have ej : j = (N 4212).toInt.toNat := by omega
      subst ej
      unfold w_X11_digest_l222
      refine lfp_for (i0 := 0) (n := 4) (fun (i : Nat) (s : Int64 × Int32 × Mem) => s.2.1.toInt = (i : Int) ∧ s.2.2 = M2 ∧ s.1 = dgM N (mix (dgB N) (fun t => N (1026 + t)) (2 * (N 4212).toInt.toNat)) i) ?_ (by omega) ⟨rfl, rfl, rfl⟩
      clear P hP
      intro P m s hm hJ hP
      obtain ⟨y, c, M3⟩ := s
      obtain ⟨hcz5, hMz5, hyz5⟩ := hJ
      have hc : c.toInt = m := hcz5
      have hM : M3 = M2 := hMz5
      subst hM
      have hy : y = dgM N (mix (dgB N) (fun t => N (1026 + t)) (2 * (N 4212).toInt.toNat)) m := hyz5
      subst hy
      unfold w_X11_digest_l222F
      dsimp only
      refine ⟨fun z => ?_, fun z => ⟨vp_of hc (by rw [le_i, f4] at z; omega), vp_of hc (by rw [le_i, f4] at z; omega), ?_⟩⟩
      · rw [le_i, f4] at z
        have e4 : m = 4 := by omega
        subst e4
        exact h
      · rw [le_i, f4] at z
        have hm4 : m < 4 := by omega
        have r8 : 1 ≤ (N (1106 + 60 * m + 8)).toInt ∧ (N (1106 + 60 * m + 8)).toInt ≤ 16 := inv_mach hI hm4 (by decide)
        have r11 : 1 ≤ (N (1106 + 60 * m + 11)).toInt ∧ (N (1106 + 60 * m + 11)).toInt ≤ 16 := inv_mach hI hm4 (by decide)
        have e8 : M3.1 (1 + (16 + 4 * m)) 1 = N (1106 + 60 * m + 8) := rd_mach hR (r := 8) hm4 (by decide) (by decide)
        have e11 : M3.1 (1 + (16 + 4 * m)) 5 = N (1106 + 60 * m + 11) := rd_mach hR (r := 11) hm4 (by decide) (by decide)
        rw [i_of hc, show 11 + 6 + 4 * m = 1 + (16 + 4 * m) from by omega, e8]
        refine s_mixed (L := 16) (ix_n (by omega)) (len_room m hm4).1 (by omega) (by decide) ⟨vp_of hc (by omega), vp_of hc (by omega), ?_⟩
        rw [e11]
        refine s_mixed (L := 16) (ix_n (by omega)) (len_room m hm4).2 (by omega) (by decide) (fun x10 e10 => ?_)
        refine hP (_, x10, M3) hm4 ⟨?_, rfl, ?_⟩
        · show x10.toInt = ((m + 1 : Nat) : Int)
          rw [e10]; exact ix_a hc rfl (by omega)
        · show mix (mix _ (M3.1 (1 + (16 + 4 * m) + 2)) _) (M3.1 (1 + (16 + 4 * m) + 3)) _ = dgM N _ (m + 1)
          rw [dgM, mix_cg (f := M3.1 (1 + (16 + 4 * m) + 2)) (g := fun t => N (1106 + 60 * m + 20 + t)) (fun t ht => by rw [show 1 + (16 + 4 * m) + 2 = 1 + (18 + 4 * m) from by omega]; exact rd_room hR hm4 (by omega)), mix_cg (f := M3.1 (1 + (16 + 4 * m) + 3)) (g := fun t => N (1106 + 60 * m + 36 + t)) (fun t ht => by rw [show 1 + (16 + 4 * m) + 3 = 1 + (19 + 4 * m) from by omega]; exact rd_said hR hm4 (by omega))]
    · rw [le_i] at z
      rw [i_of hb, rd_bp hR (by omega), rd_bc hR (by omega)]
      refine ⟨vp_of hb (by omega), fun x13 e13 => ⟨vp_of hb (by omega), fun x15 e15 x16 e16 => ?_⟩⟩
      refine hP (x15, x16, M2) (by omega) ⟨?_, rfl, ?_⟩
      · show x16.toInt = ((j + 1 : Nat) : Int)
        rw [e16]; exact ix_a hb rfl (by omega)
      · show x15 = mix _ _ (2 * j + 1 + 1)
        rw [e15, e13]
        rfl
  · rw [lt_i, f8] at z
    refine s_cnt11 hR hI (fun x35 e35 x36 e36 => ?_)
    refine hP (x35, x36, M1) (by omega) ⟨?_, rfl, ?_⟩
    · show x36.toInt = ((i + 1 : Nat) : Int)
      rw [e36]; exact ix_a ha rfl (by omega)
    · show x35 = 31 * dg0 N i + (spCnt (Int32.ofNat i) N).toInt64
      rw [e35, i_nat ha]

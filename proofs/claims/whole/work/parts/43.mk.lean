/-! build, both sides -/
noncomputable def spBuild (p ch : Int32) (N : Nat → Int32) : Int32 × (Nat → Int32) := if okI p (N 4210).toInt ∧ okI ch ((2 ^ (N 4211).toInt.toNat : Nat) : Int) then cif (fitsN N p ch) (if (N 4212).toInt < 24 then (N 4212, upN (upN (upN N (1026 + 2 * (N 4212).toInt.toNat) p) (1026 + 2 * (N 4212).toInt.toNat + 1) ch) 4212 (N 4212 + 1)) else (-4, N)) (-3, N) else (-2, N)
theorem pow_lt {n : Nat} (h : n ≤ 10) : 2 ^ n ≤ 1024 := Nat.pow_le_pow_right (by decide) h
theorem sub1_K {x : Int32} {K : Nat} (h : x.toInt = (K : Int)) (hK : K ≤ 1024) : (x - 1).toInt = (K : Int) - 1 := by
  have o1 : (1 : Int32).toInt = 1 := rfl
  rw [ti_sub (by omega) (by omega), h, o1]
theorem cc_build {p ch : Int32} {M : Mem} {N : Nat → Int32} {q : Int32 → Mem → Prop} (hR : Rep 1 N M.1) (hI : InvN N) (h : CQ (spBuild p ch N) M q) : w_X11_build p ch M q := by
  have i1 : 0 ≤ (N 4211).toInt ∧ (N 4211).toInt ≤ 10 := hI.1 4211 (by decide)
  have i2 : 0 ≤ (N 4212).toInt ∧ (N 4212).toInt ≤ 24 := hI.1 4212 (by decide)
  have f24 : (24 : Int32).toInt = 24 := rfl
  have bad : ¬ (okI p (N 4210).toInt ∧ okI ch ((2 ^ (N 4211).toInt.toNat : Nat) : Int)) → q (-2) M := fun n => by unfold spBuild at h; rw [if_neg n] at h; exact cq_0 hR h
  unfold w_X11_build
  simp only [e_isOut, rc0 hR, rc1 hR, tf_z, Classical.not_not]
  rw [shl_i (ix_n i1.1) (by omega)]
  refine ⟨fun n => bad (fun x => n x.1), fun k1 => ⟨fun k2 => ?_, fun n => bad (fun x => n x.2)⟩⟩
  unfold spBuild at h
  rw [if_pos ⟨k1, k2⟩] at h
  refine s_fits hR hI (fun f => ⟨fun _ => ?_, fun z => absurd z (by decide)⟩) (fun f => ⟨fun z => absurd rfl z, fun _ => ?_⟩)
  · rw [cif_t f] at h
    unfold w_X6_addBuild
    rw [rc2 hR]
    refine ⟨fun z => ⟨vp_of (ix_n i2.1) (by rw [lt_i, f24] at z; omega), fun M3 e3 => ?_⟩, fun z => ?_⟩
    · rw [lt_i, f24] at z
      rw [if_pos z] at h
      have g3 : M3.1 2 7 = N 4212 := by rw [e3, uI_k (by decide), rc2 hR]
      rw [g3]
      refine ⟨vp_of (ix_n i2.1) (by omega), fun M5 e5 M6 e6 => ?_⟩
      have g5 : M5.1 2 7 = N 4212 := by rw [e5, uI_k (by decide), g3]
      rw [g5] at e6
      have g6 : M6.1 2 7 = N 4212 + 1 := by rw [e6, uI_s]
      rw [g6, a1s1]
      rw [tn_eq] at e3 e5
      refine h M6 ?_ ?_
      · rw [e6]
        refine wr (j := 4212) (c := 1) (p := 7) ?_ rfl (by decide) (by decide) rfl
        rw [e5]
        refine wr (c := 8) ?_ (loc_bc (by omega)) (by omega) (by omega) rfl
        rw [e3]
        exact wr (c := 7) hR (loc_bp (by omega)) (by omega) (by omega) rfl
      · rw [e6, e5, e3]
        exact ((frC_uI (by decide) (by decide)).tr (frC_uI (by decide) (by decide))).tr (frC_uI (by decide) (by decide))
    · rw [lt_i, f24] at z
      rw [if_neg z] at h
      exact cq_0 hR h
  · rw [cif_f f] at h
    exact cq_0 hR h
theorem mm_build {p ch : Int32} {M : Mem} {q : Int32 → Mem → Prop} (hI : InvN (M.1 136)) (h : PQ (spBuild p ch (M.1 136)) M q) : w_X12_build p ch M q := by
  have i0 : 0 ≤ (M.1 136 4210).toInt ∧ (M.1 136 4210).toInt ≤ 6 := hI.1 4210 (by decide)
  have i1 : 0 ≤ (M.1 136 4211).toInt ∧ (M.1 136 4211).toInt ≤ 10 := hI.1 4211 (by decide)
  have i2 : 0 ≤ (M.1 136 4212).toInt ∧ (M.1 136 4212).toInt ≤ 24 := hI.1 4212 (by decide)
  have f24 : (24 : Int32).toInt = 24 := rfl
  have f0 : (0 : Int64).toInt = 0 := rfl
  have o1 : (1 : Int32).toInt = 1 := rfl
  have pw := pow_lt (n := (M.1 136 4211).toInt.toNat) (by omega)
  have bad : ¬ (okI p (M.1 136 4210).toInt ∧ okI ch ((2 ^ (M.1 136 4211).toInt.toNat : Nat) : Int)) → q (-2) M := fun n => by unfold spBuild at h; rw [if_neg n] at h; exact mq_0 h
  have es : (((1 : Int32) <<< (M.1 136 4211 &&& 31)) - 1).toInt = ((2 ^ (M.1 136 4211).toInt.toNat : Nat) : Int) - 1 := sub1_K (shl_i (ix_n i1.1) (by omega)) pw
  unfold w_X12_build
  simp only [e_has0 i0.1, e_many1, e_in, Int32.toInt_toInt64, tf_z, Classical.not_not, f0, es]
  refine ⟨fun n => bad (fun x => n x.1), fun k1 => ⟨fun k2 => ?_, fun n => bad (fun x => n (by have := x.2; omega))⟩⟩
  unfold spBuild at h
  rw [if_pos ⟨k1, by omega⟩] at h
  unfold w_X12_build_l33
  refine lfp_for (i0 := 0) (n := (M.1 136 4211).toInt.toNat) (fun (i : Nat) (s : Int32 × Mem) => s.1.toInt = (i : Int) ∧ s.2 = M ∧ (∀ k, k < i → bitS ch k → fitK (M.1 136) p ch k)) ?_ (by omega) ⟨rfl, rfl, fun t ht => absurd ht (by omega)⟩
  intro P i st hi hJ hP
  obtain ⟨a, M1⟩ := st
  obtain ⟨ha, hM, hN⟩ := hJ
  have ha : a.toInt = i := ha
  have hM : M1 = M := hM
  subst hM
  have next : ∀ x : Int32, x = a + 1 → i < (M1.1 136 4211).toInt.toNat → (bitS ch i → fitK (M1.1 136) p ch i) → P (x, M1) := fun x ex hlt hk => by
    refine hP (x, M1) hlt ⟨?_, rfl, fun k hk' hb => ?_⟩
    · show x.toInt = ((i + 1 : Nat) : Int)
      rw [ex]; exact ix_a ha rfl (by omega)
    · by_cases e : k = i
      · subst e; exact hk hb
      · exact hN k (by omega) hb
  unfold w_X12_build_l33F w_X12_build_b133
  dsimp only
  simp only [e_many1, e_many2, bit_i ha]
  refine ⟨fun z => ?_, fun z => ⟨fun nb x ex => ?_, fun hb => ?_⟩⟩
  · rw [le_i] at z
    rw [cif_t (show fitsN (M1.1 136) p ch from fun k hk => hN k (by omega))] at h
    refine ⟨fun n => ?_, fun k => ?_⟩
    · have n' : (M1.1 136 4212).toInt < 24 := by
        have : ¬ (M1.1 136 4212).toInt = 24 := fun y => n (eq_i.mpr (y.trans f24.symm))
        omega
      rw [if_pos n'] at h
      have E := ix_a (e := (1026 : Int32)) (a := 1026) rfl (ix_m (e := (2 : Int32)) (a := 2) rfl (ix_n i2.1) (by omega)) (by omega)
      have E1 := ix_a E (w := 1) (i := 1) rfl (by omega)
      refine ⟨vp_of E (by omega), fun M15 e15 => ⟨vp_of E1 (by omega), fun M17 e17 M18 e18 => ?_⟩⟩
      rw [i_of E] at e15
      rw [i_of E1] at e17
      refine h M18 ?_ ?_
      · rw [e18, now_uI, e17, now_uI, e15, now_uI, upN_o (by omega), upN_o (by omega)]
      · rw [e18, e17, e15]; exact frM2.tr frM1
    · rw [if_neg (by rw [k]; decide)] at h
      exact mq_0 h
  · rw [le_i] at z
    exact next x ex (by omega) (fun hb => absurd hb nb)
  · rw [le_i] at z
    have E := ix_a (e := (966 : Int32)) (a := 966) rfl (ix_m (e := (6 : Int32)) (a := 6) rfl ha (by omega)) (by omega)
    refine ⟨vp_of E (by omega), ?_⟩
    rw [i_of E]
    refine ⟨fun k => ?_, fun n => ?_⟩
    · unfold w_X12_build_l74
      refine lfp_for (i0 := 0) (n := i) (fun (j : Nat) (s : Int32 × Mem) => s.1.toInt = (j : Int) ∧ s.2 = M1 ∧ (∀ t, t < j → bitS ch t → ¬ M1.1 136 (966 + 6 * t + 1) = M1.1 136 (966 + 6 * i + 1))) ?_ (by omega) ⟨rfl, rfl, fun t ht => absurd ht (by omega)⟩
      intro P' j st hj hJ' hP'
      obtain ⟨b, M2⟩ := st
      obtain ⟨hb', hM', hN'⟩ := hJ'
      have hb' : b.toInt = j := hb'
      have hM' : M2 = M1 := hM'
      subst hM'
      have next' : ∀ x : Int32, x = b + 1 → j < i → (bitS ch j → ¬ M2.1 136 (966 + 6 * j + 1) = M2.1 136 (966 + 6 * i + 1)) → P' (x, M2) := fun x ex hlt hk => by
        refine hP' (x, M2) hlt ⟨?_, rfl, fun t ht hbt => ?_⟩
        · show x.toInt = ((j + 1 : Nat) : Int)
          rw [ex]; exact ix_a hb' rfl (by omega)
        · by_cases e : t = j
          · subst e; exact hk hbt
          · exact hN' t (by omega) hbt
      unfold w_X12_build_l74F w_X12_build_b127 w_X12_build_b133
      dsimp only
      simp only [bit_i hb']
      refine ⟨fun z' x ex => ?_, fun z' => ⟨fun nb x ex => ?_, fun hbj => ?_⟩⟩
      · rw [le_i] at z'
        refine next x ex (by omega) (fun _ => ⟨k, fun t ht hbt => hN' t (by omega) hbt⟩)
      · rw [le_i] at z'
        exact next' x ex (by omega) (fun y => absurd y nb)
      · rw [le_i] at z'
        have Ej := ix_a (ix_a (e := (966 : Int32)) (a := 966) rfl (ix_m (e := (6 : Int32)) (a := 6) rfl hb' (by omega)) (by omega)) (w := 1) (i := 1) rfl (by omega)
        have Ei := ix_a E (w := 1) (i := 1) rfl (by omega)
        refine ⟨vp_of Ej (by omega), vp_of Ei (by omega), ?_⟩
        rw [i_of Ej, i_of Ei]
        refine ⟨fun n x ex => next' x ex (by omega) (fun _ => n), fun e => ?_⟩
        rw [cif_f (show ¬ fitsN (M2.1 136) p ch from fun f => (f i (by omega) hb).2 j (by omega) hbj e)] at h
        exact mq_0 h
    · rw [cif_f (show ¬ fitsN (M1.1 136) p ch from fun f => n (f i (by omega) hb).1)] at h
      exact mq_0 h
theorem ii_build {p ch : Int32} {N : Nat → Int32} (hI : InvN N) : InvN (spBuild p ch N).2 := by
  have i0 : 0 ≤ (N 4210).toInt ∧ (N 4210).toInt ≤ 6 := hI.1 4210 (by decide)
  have i1 : 0 ≤ (N 4211).toInt ∧ (N 4211).toInt ≤ 10 := hI.1 4211 (by decide)
  have i2 : 0 ≤ (N 4212).toInt ∧ (N 4212).toInt ≤ 24 := hI.1 4212 (by decide)
  have pw := pow_lt (n := (N 4211).toInt.toNat) (by omega)
  unfold spBuild
  by_cases k : okI p (N 4210).toInt ∧ okI ch ((2 ^ (N 4211).toInt.toNat : Nat) : Int)
  · rw [if_pos k]
    by_cases k2 : fitsN N p ch
    · rw [cif_t k2]
      by_cases k3 : (N 4212).toInt < 24
      · rw [if_pos k3]
        refine inv_up (inv_up (inv_up hI (by omega) (by omega) ?_) (by omega) (by omega) ?_) (by decide) (by decide) ?_
        · rw [rg_bp (by omega)]; show 0 ≤ p.toInt ∧ p.toInt ≤ 5; omega
        · rw [rg_bc (by omega)]; show 0 ≤ ch.toInt ∧ ch.toInt ≤ 1023; omega
        · show 0 ≤ (N 4212 + 1).toInt ∧ (N 4212 + 1).toInt ≤ 24
          rw [iv1 (by omega) (by omega)]; omega
      · rw [if_neg k3]; exact hI
    · rw [cif_f k2]; exact hI
  · rw [if_neg k]; exact hI

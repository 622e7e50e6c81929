/-! pair -/
theorem krN_o {b m s lot hour w : Int32} {N : Nat → Int32} {i : Nat} (hm : okI m 4) (h4 : i ≠ 4214) (h : i < 1106 ∨ 1346 ≤ i) (h2 : i < 1346 + 14 * (N 4214).toInt.toNat ∨ 1346 + 14 * (N 4214).toInt.toNat + 14 ≤ i) : krN b m s lot hour w N i = N i := by
  unfold krN rec8
  rw [upN_o h4, upN_o (by omega), upN_o (by omega), upN_o (by omega), upN_o (by omega), upN_o (by omega), upN_o (by omega), upN_o (by omega), upN_o (by omega), setN_o (by omega), kr1_o hm h]
theorem krN_c {b m s lot hour w : Int32} {N : Nat → Int32} {k : Nat} (hk : k < 6) (hr : (N 4214).toInt.toNat < 200) : krN b m s lot hour w N (1346 + 14 * (N 4214).toInt.toNat + k) = krc N b m s lot hour w k := by
  unfold krN rec8
  rw [upN_o (by omega), upN_o (by omega), upN_o (by omega), upN_o (by omega), upN_o (by omega), upN_o (by omega), upN_o (by omega), upN_o (by omega), upN_o (by omega), setN_i hk]
abbrev okPair (N : Nat → Int32) (o n m s hour : Int32) : Prop := okSpot N o m s ∧ okI n (N 4212).toInt ∧ okB hour 0 23
def prN (o n m s lot hour f : Int32) (N : Nat → Int32) : Nat → Int32 := krN (if f = 0 then n else o) m s lot hour 1 (krN (if f = 0 then o else n) m s lot hour 0 N)
def prD (f : Int32) (a : Nat) (N2 : Nat → Int32) : Int32 := if f = 0 then N2 (a + 19) - N2 (a + 5) else -(N2 (a + 19) - N2 (a + 5))
def prE (f : Int32) (a : Nat) (N2 : Nat → Int32) : Int32 × (Nat → Int32) := if N2 (a + 6) = 0 ∧ N2 (a + 20) = 0 then (N2 4215 + 1, upN (upN N2 (4146 + (N2 4215).toInt.toNat) (prD f a N2)) 4215 (N2 4215 + 1)) else (N2 4215, N2)
def spPair (o n m s lot hour f : Int32) (N : Nat → Int32) : Int32 × (Nat → Int32) := if okPair N o n m s hour then (if (N 4215).toInt < 16 then (if (N 4214).toInt ≤ 198 then prE f (1346 + 14 * (N 4214).toInt.toNat) (prN o n m s lot hour f N) else (-4, N)) else (-3, N)) else (-2, N)
theorem ii_pair {o n m s lot hour f : Int32} {N : Nat → Int32} (hI : InvN N) : InvN (spPair o n m s lot hour f N).2 := by
  have i2 : 0 ≤ (N 4212).toInt ∧ (N 4212).toInt ≤ 24 := hI.1 4212 (by decide)
  have i4 : 0 ≤ (N 4214).toInt ∧ (N 4214).toInt ≤ 200 := hI.1 4214 (by decide)
  have i5 : 0 ≤ (N 4215).toInt ∧ (N 4215).toInt ≤ 16 := hI.1 4215 (by decide)
  unfold spPair
  by_cases k : okPair N o n m s hour
  · rw [if_pos k]
    by_cases k2 : (N 4215).toInt < 16
    · rw [if_pos k2]
      by_cases k3 : (N 4214).toInt ≤ 198
      · rw [if_pos k3]
        have sp := spot hI k.1
        have kn := k.2.1
        have b1 : okI (if f = 0 then o else n) 24 := by split <;> omega
        have b2 : okI (if f = 0 then n else o) 24 := by split <;> omega
        have I1 : InvN (krN (if f = 0 then o else n) m s lot hour 0 N) := inv_kr hI b1 sp.2.1 sp.2.2 k.2.2 (Or.inl rfl) (by omega)
        have e4 : (krN (if f = 0 then o else n) m s lot hour 0 N 4214).toInt = (N 4214).toInt + 1 := by rw [krN_4, iv1 (by omega) (by omega)]
        have I2 : InvN (prN o n m s lot hour f N) := inv_kr I1 b2 sp.2.1 sp.2.2 k.2.2 (Or.inr rfl) (by omega)
        have e5 : prN o n m s lot hour f N 4215 = N 4215 := by
          unfold prN
          rw [krN_o sp.2.1 (by omega) (by omega) (by omega), krN_o sp.2.1 (by omega) (by omega) (by omega)]
        have t5 : prN o n m s lot hour f N (1346 + 14 * (N 4214).toInt.toNat + 5) = krc N (if f = 0 then o else n) m s lot hour 0 5 := by
          unfold prN
          rw [krN_o sp.2.1 (by omega) (by omega) (by omega), krN_c (by decide) (by omega)]
        have t19 : prN o n m s lot hour f N (1346 + 14 * (N 4214).toInt.toNat + 19) = krc (krN (if f = 0 then o else n) m s lot hour 0 N) (if f = 0 then n else o) m s lot hour 1 5 := by
          unfold prN
          have := krN_c (N := krN (if f = 0 then o else n) m s lot hour 0 N) (b := if f = 0 then n else o) (m := m) (s := s) (lot := lot) (hour := hour) (w := 1) (k := 5) (by decide) (by omega)
          rw [show 1346 + 14 * (krN (if f = 0 then o else n) m s lot hour 0 N 4214).toInt.toNat + 5 = 1346 + 14 * (N 4214).toInt.toNat + 19 from by omega] at this
          exact this
        have bd5 := (krc_bd (s := s) (lot := lot) (w := 0) hI b1 sp.2.1 k.2.2).2
        have bd19 := (krc_bd (s := s) (lot := lot) (w := 1) I1 b2 sp.2.1 k.2.2).2
        unfold prE
        by_cases k4 : prN o n m s lot hour f N (1346 + 14 * (N 4214).toInt.toNat + 6) = 0 ∧ prN o n m s lot hour f N (1346 + 14 * (N 4214).toInt.toNat + 20) = 0
        · rw [if_pos k4, e5]
          refine inv_up (inv_up I2 (by omega) (by omega) ?_) (by decide) (by decide) ?_
          · rw [rg_diff (by omega)]
            unfold prD
            rw [t5, t19]
            rw [← t5, ← t19] at *
            have sb : (prN o n m s lot hour f N (1346 + 14 * (N 4214).toInt.toNat + 19) - prN o n m s lot hour f N (1346 + 14 * (N 4214).toInt.toNat + 5)).toInt = (prN o n m s lot hour f N (1346 + 14 * (N 4214).toInt.toNat + 19)).toInt - (prN o n m s lot hour f N (1346 + 14 * (N 4214).toInt.toNat + 5)).toInt := ti_sub (by omega) (by omega)
            show -1000000 ≤ _ ∧ _ ≤ 1000000
            split
            · rw [sb]; omega
            · rw [ti_neg (by omega), sb]; omega
          · show 0 ≤ (N 4215 + 1).toInt ∧ (N 4215 + 1).toInt ≤ 16
            rw [iv1 (by omega) (by omega)]; omega
        · rw [if_neg k4]; exact I2
      · rw [if_neg k3]; exact hI
    · rw [if_neg k2]; exact hI
  · rw [if_neg k]; exact hI
theorem cc_pair {o n m s lot hour f : Int32} {M : Mem} {N : Nat → Int32} {q : Int32 → Mem → Prop} (hR : Rep 1 N M.1) (hI : InvN N) (h : CQ (spPair o n m s lot hour f N) M q) : w_X11_pair o n m s lot hour f M q := by
  have i2 : 0 ≤ (N 4212).toInt ∧ (N 4212).toInt ≤ 24 := hI.1 4212 (by decide)
  have i4 : 0 ≤ (N 4214).toInt ∧ (N 4214).toInt ≤ 200 := hI.1 4214 (by decide)
  have i5 : 0 ≤ (N 4215).toInt ∧ (N 4215).toInt ≤ 16 := hI.1 4215 (by decide)
  have bad : ¬ okPair N o n m s hour → q (-2) M := fun x => by unfold spPair at h; rw [if_neg x] at h; exact cq_0 hR h
  have f2 : (200 : Int32).toInt = 200 := rfl
  have f16 : (16 : Int32).toInt = 16 := rfl
  have t2 : (N 4214 + 2).toInt = (N 4214).toInt + 2 := by
    have : (2 : Int32).toInt = 2 := rfl
    rw [ti_add (by omega) (by omega), this]
  unfold w_X11_pair
  rw [e_isNoSpot hR]
  simp only [e_isOut, e_isNoHour, tf_z, Classical.not_not, rc2 hR, rc4 hR, rc5 hR, lt_i, le_i, f2, f16, t2]
  refine ⟨fun x => bad (fun y => x y.1), fun k1 => ⟨fun x => bad (fun y => x y.2.1), fun k2 => ⟨fun k3 => ⟨fun k4 => ⟨fun k5 => ?_, fun k5 => ?_⟩, fun k4 => ?_⟩, fun x => bad (fun y => x y.2.2)⟩⟩⟩
  · unfold spPair at h
    rw [if_pos ⟨k1, k2, k3⟩, if_pos k4, if_pos (by omega)] at h
    have sp := spot hI k1
    have b1 : okI (if f = 0 then o else n) 24 := by split <;> omega
    have b2 : okI (if f = 0 then n else o) 24 := by split <;> omega
    have I1 : InvN (krN (if f = 0 then o else n) m s lot hour 0 N) := inv_kr hI b1 sp.2.1 sp.2.2 k3 (Or.inl rfl) (by omega)
    have e4 : (krN (if f = 0 then o else n) m s lot hour 0 N 4214).toInt = (N 4214).toInt + 1 := by rw [krN_4, iv1 (by omega) (by omega)]
    have e5 : prN o n m s lot hour f N 4215 = N 4215 := by
      unfold prN
      rw [krN_o sp.2.1 (by omega) (by omega) (by omega), krN_o sp.2.1 (by omega) (by omega) (by omega)]
    have t110 : ∀ M1 : Mem, Rep 1 (krN (if f = 0 then o else n) m s lot hour 0 N) M1.1 → FrC M M1 → w_X11_pair_b110 m s lot hour f (N 4214) (if f = 0 then n else o) M1 q := by
      intro M1 R1 F1
      unfold w_X11_pair_b110
      refine s_goAndKeep R1 I1 b2 sp.2.1 sp.2.2 (Or.inr rfl) (by omega) (fun M2 R2 F2 => ?_)
      have R2 : Rep 1 (prN o n m s lot hour f N) M2.1 := R2
      have F2 : FrC M M2 := F1.tr F2
      have er := ix_n i4.1
      have er1 : (krN (if f = 0 then o else n) m s lot hour 0 N 4214).toInt = (((N 4214).toInt.toNat + 1 : Nat) : Int) := by omega
      rw [e_told R2 er (wn := 6) rfl (by omega) (by decide), e_told R2 er1 (wn := 6) rfl (by omega) (by decide), e_told R2 er1 (wn := 5) rfl (by omega) (by decide), e_told R2 er (wn := 5) rfl (by omega) (by decide), show 1346 + 14 * ((N 4214).toInt.toNat + 1) + 6 = 1346 + 14 * (N 4214).toInt.toNat + 20 from by omega, show 1346 + 14 * ((N 4214).toInt.toNat + 1) + 5 = 1346 + 14 * (N 4214).toInt.toNat + 19 from by omega]
      generalize hN2 : prN o n m s lot hour f N = N2 at h e5 R2
      unfold prE at h
      have skip : ¬ (N2 (1346 + 14 * (N 4214).toInt.toNat + 6) = 0 ∧ N2 (1346 + 14 * (N 4214).toInt.toNat + 20) = 0) → w_X11_pair_b197 M2 q := fun x => by
        rw [if_neg x] at h
        unfold w_X11_pair_b197
        rw [rc5 R2]
        exact h M2 R2 F2
      refine ⟨fun x => skip (fun y => x y.1), fun v1 => ⟨fun x => skip (fun y => x y.2), fun v2 x15 e15 => ?_⟩⟩
      rw [if_pos ⟨v1, v2⟩] at h
      have t194 : w_X11_pair_b194 (prD f (1346 + 14 * (N 4214).toInt.toNat) N2) M2 q := by
        unfold w_X11_pair_b194 w_X5_add w_X11_pair_b197
        rw [rc5 R2, e5, le_i, f16]
        rw [e5] at h
        refine ⟨fun x => absurd x (by omega), fun _ => ⟨vp_of (ix_n i5.1) (by omega), fun M3 e3 M4 e4' => ?_⟩⟩
        have g3 : M3.1 12 1 = N 4215 := by rw [e3, uI_k (by decide), rc5 R2, e5]
        rw [g3] at e4'
        have g4 : M4.1 12 1 = N 4215 + 1 := by rw [e4', uI_s]
        show q (M4.1 12 1) M4
        rw [g4]
        rw [tn_eq] at e3
        refine h M4 ?_ (F2.tr ?_)
        · rw [e4']
          refine wr (j := 4215) (c := 11) (p := 1) ?_ rfl (by decide) (by decide) rfl
          rw [e3]
          exact wr (c := 12) R2 (loc_diff (by omega)) (by omega) (by omega) rfl
        · rw [e4', e3]
          exact (frC_uI (by decide) (by decide)).tr (frC_uI (by decide) (by decide))
      unfold prD at t194
      rw [e15]
      refine ⟨fun f0 => ?_, fun f0 => ?_⟩
      · rw [if_pos f0] at t194; exact t194
      · rw [if_neg f0] at t194; exact t194
    have t86 : w_X11_pair_b86 o n m s lot hour f (if f = 0 then o else n) M q := by
      unfold w_X11_pair_b86
      refine s_goAndKeep hR hI b1 sp.2.1 sp.2.2 (Or.inl rfl) (by omega) (fun M1 R1 F1 => ?_)
      have t := t110 M1 R1 F1
      refine ⟨fun f0 => ?_, fun f0 => ?_⟩
      · rw [if_pos f0] at t; exact t
      · rw [if_neg f0] at t; exact t
    refine ⟨fun f0 => ?_, fun f0 => ?_⟩
    · rw [if_pos f0] at t86; exact t86
    · rw [if_neg f0] at t86; exact t86
  · unfold spPair at h
    rw [if_pos ⟨k1, k2, k3⟩, if_pos k4, if_neg (by omega)] at h
    exact cq_0 hR h
  · unfold spPair at h
    rw [if_pos ⟨k1, k2, k3⟩, if_neg k4] at h
    exact cq_0 hR h
theorem mm_pair {o n m s lot hour f : Int32} {M : Mem} {q : Int32 → Mem → Prop} (hI : InvN (M.1 136)) (h : PQ (spPair o n m s lot hour f (M.1 136)) M q) : w_X12_pair o n m s lot hour f M q := by
  have i2 : 0 ≤ (M.1 136 4212).toInt ∧ (M.1 136 4212).toInt ≤ 24 := hI.1 4212 (by decide)
  have i4 : 0 ≤ (M.1 136 4214).toInt ∧ (M.1 136 4214).toInt ≤ 200 := hI.1 4214 (by decide)
  have i5 : 0 ≤ (M.1 136 4215).toInt ∧ (M.1 136 4215).toInt ≤ 16 := hI.1 4215 (by decide)
  have bad : ¬ okPair (M.1 136) o n m s hour → q (-2) M := fun x => by unfold spPair at h; rw [if_neg x] at h; exact mq_0 h
  have f0' : (0 : Int64).toInt = 0 := rfl
  have f23 : (23 : Int64).toInt = 23 := rfl
  have f16 : (16 : Int32).toInt = 16 := rfl
  have f198 : (198 : Int32).toInt = 198 := rfl
  unfold w_X12_pair
  rw [e_isThere hI]
  simp only [e_has2 i2.1, e_in, e_many4, e_many5, tf_z, Classical.not_not, f0', f23, le_i, f198]
  refine ⟨fun x => bad (fun y => x y.1), fun k1 => ⟨fun x => bad (fun y => x y.2.1), fun k2 => ⟨fun k3 => ⟨fun k4 => ⟨fun k5 => ?_, fun k5 => ?_⟩, fun k4 => ?_⟩, fun x => bad (fun y => x y.2.2)⟩⟩⟩
  · have k4' : (M.1 136 4215).toInt < 16 := by
      have : ¬ (M.1 136 4215).toInt = 16 := fun y => k4 (eq_i.mpr (y.trans f16.symm))
      omega
    unfold spPair at h
    rw [if_pos ⟨k1, k2, k3⟩, if_pos k4', if_pos k5] at h
    have sp := spot hI k1
    have b1 : okI (if f = 0 then o else n) 24 := by split <;> omega
    have b2 : okI (if f = 0 then n else o) 24 := by split <;> omega
    have I1 : InvN (krN (if f = 0 then o else n) m s lot hour 0 (M.1 136)) := inv_kr hI b1 sp.2.1 sp.2.2 k3 (Or.inl rfl) (by omega)
    have e4 : (krN (if f = 0 then o else n) m s lot hour 0 (M.1 136) 4214).toInt = (M.1 136 4214).toInt + 1 := by rw [krN_4, iv1 (by omega) (by omega)]
    have e5 : prN o n m s lot hour f (M.1 136) 4215 = M.1 136 4215 := by
      unfold prN
      rw [krN_o sp.2.1 (by omega) (by omega) (by omega), krN_o sp.2.1 (by omega) (by omega) (by omega)]
    have e24 : (prN o n m s lot hour f (M.1 136) 4214).toInt = (((M.1 136 4214).toInt.toNat + 2 : Nat) : Int) := by
      unfold prN
      rw [krN_4, iv1 (by omega) (by omega)]
      omega
    have t96 : ∀ M1 : Mem, M1.1 136 = krN (if f = 0 then o else n) m s lot hour 0 (M.1 136) → FrK M M1 → w_X12_pair_b96 m s lot hour f (if f = 0 then n else o) M1 q := by
      intro M1 R1 F1
      unfold w_X12_pair_b96
      refine s_keepRun (by rw [R1]; exact I1) b2 sp.2.1 sp.2.2 (Or.inr rfl) (by rw [R1]; omega) (fun M2 R2 F2 => ?_)
      rw [R1] at R2
      have R2 : M2.1 136 = prN o n m s lot hour f (M.1 136) := R2
      have F2 : FrK M M2 := F1.tr F2
      rw [e_many4, R2]
      generalize hN2 : prN o n m s lot hour f (M.1 136) = N2 at h e5 e24 R2
      intro x10 e10
      have E : x10.toInt = ((1346 + 14 * (M.1 136 4214).toInt.toNat : Nat) : Int) := by
        rw [e10]
        have := ix_a (e := (1346 : Int32)) (a := 1346) rfl (ix_m (e := (14 : Int32)) (a := 14) rfl (ix_s e24 (w := 2) (i := 2) rfl (by omega)) (by omega)) (by omega)
        rw [show (M.1 136 4214).toInt.toNat + 2 - 2 = (M.1 136 4214).toInt.toNat from by omega] at this
        exact this
      have A := fun (e : Int32) (k : Nat) (he : e.toInt = k) (hk : k < 28) => ix_a E he (by omega)
      rw [i_of (A 6 6 rfl (by decide)), i_of (A 20 20 rfl (by decide)), i_of (A 19 19 rfl (by decide)), i_of (A 5 5 rfl (by decide))]
      unfold prE at h
      have skip : ¬ (N2 (1346 + 14 * (M.1 136 4214).toInt.toNat + 6) = 0 ∧ N2 (1346 + 14 * (M.1 136 4214).toInt.toNat + 20) = 0) → w_X12_pair_b210 M2 q := fun x => by
        rw [if_neg x] at h
        unfold w_X12_pair_b210
        rw [e_many5, R2]
        exact h M2 R2 F2.m
      refine ⟨vp_of (A 6 6 rfl (by decide)) (by omega), fun x => skip (fun y => x y.1), fun v1 => ⟨vp_of (A 20 20 rfl (by decide)) (by omega), fun x => skip (fun y => x y.2), fun v2 => ⟨vp_of (A 19 19 rfl (by decide)) (by omega), vp_of (A 5 5 rfl (by decide)) (by omega), fun x17 e17 => ?_⟩⟩⟩
      rw [if_pos ⟨v1, v2⟩, e5] at h
      rw [e_many5, R2, e5]
      have t197 : w_X12_pair_b197 ((4146 : Int32) + M.1 136 4215) (prD f (1346 + 14 * (M.1 136 4214).toInt.toNat) N2) M2 q := by
        unfold w_X12_pair_b197 w_X12_pair_b210
        have Ed := ix_a (e := (4146 : Int32)) (a := 4146) rfl (ix_n i5.1) (by omega)
        refine ⟨vp_of Ed (by omega), fun M3 e3 M4 e4' => ?_⟩
        rw [i_of Ed] at e3
        have g3 : M3.1 136 4215 = M.1 136 4215 := by rw [e3, uI_j (by omega), R2, e5]
        rw [g3] at e4'
        rw [e_many5, show M4.1 136 4215 = M.1 136 4215 + 1 from by rw [e4', uI_s]]
        refine h M4 ?_ (FrM.tr F2.m ?_)
        · rw [e4', now_uI, e3, now_uI, R2]
        · rw [e4', e3]; exact frM2
      unfold prD at t197
      rw [e17]
      refine ⟨fun f0 => ?_, fun f0 => ?_⟩
      · rw [if_pos f0] at t197; exact t197
      · rw [if_neg f0] at t197; exact t197
    have t74 : w_X12_pair_b74 o n m s lot hour f (if f = 0 then o else n) M q := by
      unfold w_X12_pair_b74
      refine s_keepRun hI b1 sp.2.1 sp.2.2 (Or.inl rfl) (by omega) (fun M1 R1 F1 => ?_)
      have t := t96 M1 R1 F1
      refine ⟨fun f0 => ?_, fun f0 => ?_⟩
      · rw [if_pos f0] at t; exact t
      · rw [if_neg f0] at t; exact t
    refine ⟨fun f0 => ?_, fun f0 => ?_⟩
    · rw [if_pos f0] at t74; exact t74
    · rw [if_neg f0] at t74; exact t74
  · unfold spPair at h
    have k4' : (M.1 136 4215).toInt < 16 := by
      have : ¬ (M.1 136 4215).toInt = 16 := fun y => k4 (eq_i.mpr (y.trans f16.symm))
      omega
    rw [if_pos ⟨k1, k2, k3⟩, if_pos k4', if_neg k5] at h
    exact mq_0 h
  · unfold spPair at h
    rw [if_pos ⟨k1, k2, k3⟩, if_neg (by rw [k4]; decide)] at h
    exact mq_0 h

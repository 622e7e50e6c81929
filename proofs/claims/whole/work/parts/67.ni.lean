/-! a run gone through again; check -/
theorem s_own {km : Nat} {M : Mem} {q : Mem → Prop} (h : ∀ M3, M3.2.2 35 8 = some km → M3.2.2 35 9 = some 40 → M3.2.2 35 10 = some 41 → (∀ i, i < 16 → M3.1 40 i = -1) → (∀ i, i < 16 → M3.1 41 i = 0) → (∀ a b, a ≠ 40 → a ≠ 41 → M3.1 a b = M.1 a b) → M3.2.1 = M.2.1 → (∀ a b, a ≠ 35 → M3.2.2 a b = M.2.2 a b) → q M3) : w_X7_useOwn 35 (uR M 35 8 (some km)) q := by
  unfold w_X7_useOwn w_X7_empty
  intro Ma ea Mb eb
  have g8 : Mb.2.2 35 8 = some km := by rw [eb, ea]; simp [uR]
  have g9 : Mb.2.2 35 9 = some 40 := by rw [eb, ea]; simp [uR]
  have g10 : Mb.2.2 35 10 = some 41 := by rw [eb]; simp [uR]
  have mb1 : Mb.1 = M.1 := by rw [eb, ea]; rfl
  have mb2 : Mb.2.1 = M.2.1 := by rw [eb, ea]; rfl
  have mb3 : ∀ a b, a ≠ 35 → Mb.2.2 a b = M.2.2 a b := fun a b hab => by rw [eb, ea]; simp [uR, hab]
  refine ⟨40, g9, rfl, s_fill (k := 40) (n := 16) rfl (by decide) ⟨41, g10, rfl, s_fill (k := 41) (n := 16) rfl (by decide) ?_⟩⟩
  refine h _ g8 g9 g10 (fun i hi => ?_) (fun i hi => fl_in hi) (fun a b h1 h2 => ?_) mb2 mb3
  · rw [fl_k (by decide), fl_in hi]
  · rw [fl_k h2, fl_k h1, mb1]
abbrev agC (N : Nat → Int32) (r : Nat) : Nat → Int32 := byC N (N (1346 + 14 * r + 8)).toInt.toNat (N (1346 + 14 * r + 9)).toInt.toNat (N (1346 + 14 * r + 10)) (N (1346 + 14 * r + 11)) (bP N (N (1346 + 14 * r + 7))) (bC N (N (1346 + 14 * r + 7))) (fun _ => -1) (fun _ => 0)
theorem inv_run {N : Nat → Int32} (hI : InvN N) {r w : Nat} (hr : r < 200) (hw : w < 14) : (rgR w).1 ≤ (N (1346 + 14 * r + w)).toInt ∧ (N (1346 + 14 * r + w)).toInt ≤ (rgR w).2 := by
  have := hI.1 (1346 + 14 * r + w) (by omega)
  rw [rg_run hr hw] at this
  exact this
theorem s_goAgain {rI : Int32} {r : Nat} {M : Mem} {N : Nat → Int32} {q : Mem → Prop} (hR : Rep 1 N M.1) (hI : InvN N) (hr : rI.toInt = r) (hr2 : r < 200) (h : ∀ M', (∀ i, i < 6 → M'.1 36 i = agC N r i) → FrP M M' → q M') : w_X7_goAgain 35 1 rI M q := by
  have r7 : 0 ≤ (N (1346 + 14 * r + 7)).toInt ∧ (N (1346 + 14 * r + 7)).toInt ≤ 23 := inv_run hI hr2 (by decide)
  have r8 : 0 ≤ (N (1346 + 14 * r + 8)).toInt ∧ (N (1346 + 14 * r + 8)).toInt ≤ 3 := inv_run hI hr2 (by decide)
  have r9 : 0 ≤ (N (1346 + 14 * r + 9)).toInt ∧ (N (1346 + 14 * r + 9)).toInt ≤ 7 := inv_run hI hr2 (by decide)
  have hm4 : (N (1346 + 14 * r + 8)).toInt.toNat < 4 := by omega
  have z := bP_6 hI (b := (N (1346 + 14 * r + 7)).toInt.toNat) (by omega)
  unfold w_X7_goAgain
  rw [e_told hR hr (wn := 7) rfl hr2 (by decide), e_told hR hr (wn := 10) rfl hr2 (by decide), e_told hR hr (wn := 8) rfl hr2 (by decide)]
  refine ⟨vp_of (ix_n r8.1) (by omega), fun M8 e8 => ?_⟩
  rw [tn_eq, show 1 + 10 + 6 + 4 * (N (1346 + 14 * r + 8)).toInt.toNat = 1 + (16 + 4 * (N (1346 + 14 * r + 8)).toInt.toNat) from by omega] at e8
  rw [e8]
  refine s_own (fun M9 g8 g9 g10 c40 c41 a9 m9 n9 => ?_)
  have R9 : Rep 1 N M9.1 := rep_fr (fun a h1 h2 => by funext b; exact a9 a b (by omega) (by omega)) hR
  refine ⟨_, g8, sh_m _ hm4, s_place R9 hI hm4 (fun M14 e14 => ?_)⟩
  have a14 : ∀ a b, ¬ (a = 35 ∧ b = 11) → M14.1 a b = M9.1 a b := fun a b hab => by rw [e14]; exact if_neg hab
  have c11 : M14.1 35 11 = plcF N (N (1346 + 14 * r + 8)).toInt.toNat (N (1346 + 14 * r + 10)) := by rw [e14, uI_s]
  have m14 : M14.2 = M9.2 := by rw [e14]; rfl
  clear e14
  have R14 : Rep 1 N M14.1 := rep_fr (fun a h1 h2 => by funext b; exact a14 a b (by omega)) R9
  refine ⟨vp_of (ix_n r7.1) (by omega), vp_of (ix_n r7.1) (by omega), ?_⟩
  rw [e_told R14 hr (wn := 9) rfl hr2 (by decide), tn_eq, show M14.1 (1 + 1 + 6) (N (1346 + 14 * r + 7)).toInt.toNat = N (1026 + 2 * (N (1346 + 14 * r + 7)).toInt.toNat) from rd_bp R14 (by omega), show M14.1 (1 + 1 + 7) (N (1346 + 14 * r + 7)).toInt.toNat = bC N (N (1346 + 14 * r + 7)) from rd_bc R14 (by omega)]
  refine s_begin R14 hI z.2 z.1 (ix_n r9.1) (by omega) (fun M7 b1 b2 b3 b4 bF => ?_)
  have sz := inv_size40 hI z.1
  have R7 : Rep 1 N M7.1 := rep_fr (fun a h1 h2 => by funext b; exact bF.1 a b (by omega) (by omega) (by omega) (by omega)) R14
  have G8 : M7.2.2 35 8 = some (1 + (16 + 4 * (N (1346 + 14 * r + 8)).toInt.toNat)) := by rw [bF.2, m14]; exact g8
  refine ⟨_, G8, sh_m _ hm4, ?_⟩
  rw [e_told R7 hr (wn := 11) rfl hr2 (by decide)]
  refine s_noise R7 hm4 ?_
  have cx : CX N (N (1346 + 14 * r + 8)).toInt.toNat (1 + (16 + 4 * (N (1346 + 14 * r + 8)).toInt.toNat)) 40 41 (plcF N (N (1346 + 14 * r + 8)).toInt.toNat (N (1346 + 14 * r + 10))) M7 := by
    refine ⟨⟨G8, by rw [bF.2, m14]; exact g9, by rw [bF.2, m14]; exact g10⟩, ⟨rd_mach R7 (r := 8) hm4 (by decide) (by decide), rd_mach R7 (r := 9) hm4 (by decide) (by decide), rd_mach R7 (r := 10) hm4 (by decide) (by decide), rd_mach R7 (r := 11) hm4 (by decide) (by decide), rd_mach R7 (r := 12) hm4 (by decide) (by decide), fun a ha => ?_⟩, ?_⟩
    · rw [show 1 + (16 + 4 * (N (1346 + 14 * r + 8)).toInt.toNat) + 1 = 1 + (17 + 4 * (N (1346 + 14 * r + 8)).toInt.toNat) from by omega]
      exact rd_price R7 hm4 ha
    · rw [bF.1 35 11 (by decide) (by decide) (by decide) (by decide), c11]
  refine s_go11 (R := R0 N (N (1346 + 14 * r + 9)).toInt.toNat) (O := fun _ => -1) (G := fun _ => 0) (C := asm N (bP N (N (1346 + 14 * r + 7))) (bC N (N (1346 + 14 * r + 7))) (toN (N 4211))) (L := toN (N (960 + bP N (N (1346 + 14 * r + 7))))) hI (cz_own hm4) cx (by omega) hm4 plc_rg (by rw [b1]; exact sz.1) sz.2 b2 (fun l hl => inv_asm hI z.1 l hl) b3 b4 (fun i hi => ?_) (fun i hi => ?_) (fun M' c1 _ _ _ cF => h M' c1 ⟨fun a ha => ?_, ?_, fun a b hab => ?_⟩)
  · rw [bF.1 40 i (by decide) (by decide) (by decide) (by omega), a14 40 i (by omega)]; exact c40 i hi
  · rw [bF.1 41 i (by decide) (by decide) (by decide) (by omega), a14 41 i (by omega)]; exact c41 i hi
  · funext b
    rw [cF.1 a (by omega) (by omega) (by omega) (by omega) (by omega) (by omega), bF.1 a b (by omega) (by omega) (by omega) (by omega), a14 a b (by omega), a9 a b (by omega) (by omega)]
  · rw [cF.2.2, bF.2, m14]; exact m9
  · rw [cF.2.2, bF.2, m14]; exact n9 a b hab
-- check
abbrev chkR (N : Nat → Int32) (r : Nat) : Prop := ∀ k, k < 6 → agC N r k = N (1346 + 14 * r + k)
noncomputable def ckF (N : Nat → Int32) : Nat → Nat → Int32
  | 0, _ => -1
  | d + 1, i => cif (N (1346 + 14 * i + 12) = 0 ∧ ¬ chkR N i) (Int32.ofNat i) (ckF N d (i + 1))
noncomputable def spChk (N : Nat → Int32) : Int32 := ckF N (N 4214).toInt.toNat 0
theorem c_chk {M : Mem} {N : Nat → Int32} {q : Int32 → Mem → Prop} (hR : Rep 1 N M.1) (hI : InvN N) (h : ∀ M', FQ M M' → q (spChk N) M') : w_X11_check M q := by
  have i4 : 0 ≤ (N 4214).toInt ∧ (N 4214).toInt ≤ 200 := hI.1 4214 (by decide)
  have f5 : (5 : Int32).toInt = 5 := rfl
  generalize hg : spChk N = g at h
  unfold spChk at hg
  unfold w_X11_check w_X11_check_l2
  refine lfp_for (i0 := 0) (n := (N 4214).toInt.toNat) (fun (i : Nat) (t : Int32 × Mem) => t.1.toInt = (i : Int) ∧ g = ckF N ((N 4214).toInt.toNat - i) i ∧ FQ M t.2) ?_ (by omega) ⟨rfl, hg.symm, FQ.rf M⟩
  intro P i st hi hJ hP
  obtain ⟨a, M1⟩ := st
  obtain ⟨ha0, hg0, hF0⟩ := hJ
  have ha : a.toInt = (i : Int) := ha0
  have hg1 : g = ckF N ((N 4214).toInt.toNat - i) i := hg0
  have hF : FQ M M1 := hF0
  clear ha0 hg0 hF0
  have R1 := hF.r hR
  unfold w_X11_check_l2F w_X11_check_b58
  dsimp only
  rw [rc4 R1]
  refine ⟨fun zz => ?_, fun zz => ?_⟩
  · rw [le_i] at zz
    have := h M1 hF
    rw [hg1, show (N 4214).toInt.toNat - i = 0 from by omega] at this
    exact this
  · rw [le_i] at zz
    rw [show (N 4214).toInt.toNat - i = ((N 4214).toInt.toNat - (i + 1)) + 1 from by omega, ckF] at hg1
    have next : ∀ M2, FQ M M2 → ¬ (N (1346 + 14 * i + 12) = 0 ∧ ¬ chkR N i) → ∀ x : Int32, x = a + 1 → P (x, M2) := fun M2 f2 n x ex => by
      refine hP (x, M2) (by omega) ⟨?_, by rw [hg1, cif_f n], f2⟩
      show x.toInt = ((i + 1 : Nat) : Int)
      rw [ex]; exact ix_a ha rfl (by omega)
    rw [e_told R1 ha (wn := 12) rfl (by omega) (by decide)]
    refine ⟨fun n => next M1 hF (fun y => n y.1), fun k => s_goAgain R1 hI ha (by omega) (fun M6 h6 f6 => ?_)⟩
    have F6 : FQ M M6 := hF.tr f6.q
    have R6 := F6.r hR
    unfold w_X8_isAsCounted w_X8_isAsCounted_l2
    refine lfp_for (i0 := 0) (n := 6) (fun (j : Nat) (t : Int32 × Mem) => t.1.toInt = (j : Int) ∧ t.2 = M6 ∧ ∀ k, k < j → agC N i k = N (1346 + 14 * i + k)) ?_ (by omega) ⟨rfl, rfl, fun k hk => absurd hk (by omega)⟩
    intro P' j st hj hJ hP'
    obtain ⟨b, M2⟩ := st
    obtain ⟨hb0, hM0, hk0⟩ := hJ
    have hb : b.toInt = (j : Int) := hb0
    have hM : M2 = M6 := hM0
    have hk : ∀ k, k < j → agC N i k = N (1346 + 14 * i + k) := hk0
    clear hb0 hM0 hk0
    subst hM
    unfold w_X8_isAsCounted_l2F
    dsimp only
    rw [lt_i, f5, hb]
    refine ⟨fun z5 => ⟨fun _ => next M2 F6 (fun y => y.2 (fun k hk6 => hk k (by omega))), fun y => absurd y (by decide)⟩, fun z5 => ?_⟩
    rw [e_told R6 ha hb (by omega) (by omega), i_of hb, h6 j (by omega)]
    refine ⟨vp_of hb (show j < len 36 from by show j < 6; omega), fun e x ex => ?_, fun n => ⟨fun y => absurd rfl y, fun _ => ?_⟩⟩
    · refine hP' (x, M2) (by omega) ⟨?_, rfl, fun k hk' => ?_⟩
      · show x.toInt = ((j + 1 : Nat) : Int)
        rw [ex]; exact ix_a hb rfl (by omega)
      · by_cases e' : k = j
        · subst e'; exact e.symm
        · exact hk k (by omega)
    · have := h M2 F6
      rw [hg1, cif_t ⟨k, fun y => n (y j (by omega)).symm⟩, ← i_nat ha] at this
      exact this
theorem m_chk {M : Mem} {q : Int32 → Mem → Prop} (hI : InvN (M.1 136)) (h : ∀ M', FM M M' → q (spChk (M.1 136)) M') : w_X12_check M q := by
  have i4 : 0 ≤ (M.1 136 4214).toInt ∧ (M.1 136 4214).toInt ≤ 200 := hI.1 4214 (by decide)
  have f6 : (6 : Int32).toInt = 6 := rfl
  generalize hg : spChk (M.1 136) = g at h
  unfold spChk at hg
  unfold w_X12_check w_X12_check_l2
  refine lfp_for (i0 := 0) (n := (M.1 136 4214).toInt.toNat) (fun (i : Nat) (t : Int32 × Mem) => t.1.toInt = (i : Int) ∧ g = ckF (M.1 136) ((M.1 136 4214).toInt.toNat - i) i ∧ FM M t.2) ?_ (by omega) ⟨rfl, hg.symm, FM.rf M⟩
  intro P i st hi hJ hP
  obtain ⟨a, M1⟩ := st
  obtain ⟨ha0, hg0, hF0⟩ := hJ
  have ha : a.toInt = (i : Int) := ha0
  have hg1 : g = ckF (M.1 136) ((M.1 136 4214).toInt.toNat - i) i := hg0
  have hF : FM M M1 := hF0
  clear ha0 hg0 hF0
  have e1 := hF.n
  unfold w_X12_check_l2F w_X12_check_b118
  dsimp only
  rw [e_many4, e1]
  refine ⟨fun zz => ?_, fun zz x10 ex10 => ?_⟩
  · rw [le_i] at zz
    have := h M1 hF
    rw [hg1, show (M.1 136 4214).toInt.toNat - i = 0 from by omega] at this
    exact this
  · rw [le_i] at zz
    rw [show (M.1 136 4214).toInt.toNat - i = ((M.1 136 4214).toInt.toNat - (i + 1)) + 1 from by omega, ckF] at hg1
    have next : ∀ M2, FM M M2 → ¬ (M.1 136 (1346 + 14 * i + 12) = 0 ∧ ¬ chkR (M.1 136) i) → ∀ x : Int32, x = a + 1 → P (x, M2) := fun M2 f2 n x ex => by
      refine hP (x, M2) (by omega) ⟨?_, by rw [hg1, cif_f n], f2⟩
      show x.toInt = ((i + 1 : Nat) : Int)
      rw [ex]; exact ix_a ha rfl (by omega)
    have E : x10.toInt = ((1346 + 14 * i : Nat) : Int) := by rw [ex10]; exact ix_a rfl (ix_m rfl ha (by omega)) (by omega)
    have A := fun (e : Int32) (w : Nat) (he : e.toInt = w) (hw : w < 14) => ix_a E he (by omega)
    rw [i_of (A 12 12 rfl (by decide))]
    refine ⟨vp_of (A 12 12 rfl (by decide)) (by omega), fun n => next M1 hF (fun y => n y.1), fun k => s_empty12 (fun M3 a1 a2 a3 a4 => ?_)⟩
    have e3 : M3.1 136 = M.1 136 := by rw [a3 136 (by decide) (by decide), e1]
    have F3 : FM M M3 := hF.tr ⟨fun b hb => a3 b (by omega) (by omega), fun b _ => by rw [a4], by rw [a4]⟩
    rw [e3, i_of (A 7 7 rfl (by decide)), i_of (A 8 8 rfl (by decide)), i_of (A 9 9 rfl (by decide)), i_of (A 10 10 rfl (by decide)), i_of (A 11 11 rfl (by decide))]
    have r7 : 0 ≤ (M.1 136 (1346 + 14 * i + 7)).toInt ∧ (M.1 136 (1346 + 14 * i + 7)).toInt ≤ 23 := inv_run hI (by omega) (by decide)
    have r8 : 0 ≤ (M.1 136 (1346 + 14 * i + 8)).toInt ∧ (M.1 136 (1346 + 14 * i + 8)).toInt ≤ 3 := inv_run hI (by omega) (by decide)
    have r9 : 0 ≤ (M.1 136 (1346 + 14 * i + 9)).toInt ∧ (M.1 136 (1346 + 14 * i + 9)).toInt ≤ 7 := inv_run hI (by omega) (by decide)
    refine ⟨vp_of (A 7 7 rfl (by decide)) (by omega), vp_of (A 8 8 rfl (by decide)) (by omega), vp_of (A 9 9 rfl (by decide)) (by omega), vp_of (A 10 10 rfl (by decide)) (by omega), vp_of (A 11 11 rfl (by decide)) (by omega), s_goesBy (O := fun _ => -1) (G := fun _ => 0) (by rw [e3]; exact hI) (by omega) (by omega) (by omega) a1 a2 (fun M6 h6 _ _ _ f6' => ?_)⟩
    rw [e3] at h6
    have F6 : FM M M6 := F3.tr f6'.m
    have e6 := F6.n
    unfold w_X12_check_l87
    refine lfp_for (i0 := 0) (n := 6) (fun (j : Nat) (t : Int32 × Mem) => t.1.toInt = (j : Int) ∧ t.2 = M6 ∧ ∀ k, k < j → agC (M.1 136) i k = M.1 136 (1346 + 14 * i + k)) ?_ (by omega) ⟨rfl, rfl, fun k hk => absurd hk (by omega)⟩
    intro P' j st hj hJ hP'
    obtain ⟨b, M2⟩ := st
    obtain ⟨hb0, hM0, hk0⟩ := hJ
    have hb : b.toInt = (j : Int) := hb0
    have hM : M2 = M6 := hM0
    have hk : ∀ k, k < j → agC (M.1 136) i k = M.1 136 (1346 + 14 * i + k) := hk0
    clear hb0 hM0 hk0
    subst hM
    unfold w_X12_check_l87F w_X12_check_b118
    dsimp only
    rw [le_i, f6, hb]
    refine ⟨fun z5 => next M2 F6 (fun y => y.2 (fun k hk6 => hk k (by omega))), fun z5 => ?_⟩
    have Eb := ix_a E hb (by omega)
    rw [i_of hb, i_of Eb, e6, h6 j (by omega)]
    refine ⟨vp_of hb (by omega), vp_of Eb (by omega), fun e x ex => ?_, fun n => ?_⟩
    · refine hP' (x, M2) (by omega) ⟨?_, rfl, fun k hk' => ?_⟩
      · show x.toInt = ((j + 1 : Nat) : Int)
        rw [ex]; exact ix_a hb rfl (by omega)
      · by_cases e' : k = j
        · subst e'; exact e
        · exact hk k (by omega)
    · have := h M2 F6
      rw [hg1, cif_t ⟨k, fun y => n (y j (by omega))⟩, ← i_nat ha] at this
      exact this

/-! rung -/
def kn6 (g : Nat × (Nat → Int32)) (own ah : Int32) (i : Nat) : Nat → Int64 := fun j => if j = 0 then (Int32.ofNat g.1).toInt64 else if j = 1 then own.toInt64 else if j = 2 then (g.2 0).toInt64 else if j = 3 then (g.2 (g.1 - 1)).toInt64 else if j = 4 then ah.toInt64 else (Int32.ofNat i).toInt64
def gaI (N : Nat → Int32) (m s k : Int32) (i : Nat) : Nat × (Nat → Int32) := gat N (Int32.ofNat i) m s (min (N 4214).toInt.toNat k.toInt.toNat)
def ownI (g : Nat × (Nat → Int32)) : Int32 := if g.1 = 0 then 0 else mid g.1 g.2
def rgF (N : Nat → Int32) (w : VF) (m s k : Int32) : Nat → Nat → Int32 → Int32 → Int32
  | 0, _, b, _ => b
  | r + 1, i, b, ah => rgF N w m s k r (i + 1) (if 0 < (gaI N m s k i).1 ∧ ¬ w (kn6 (gaI N m s k i) (ownI (gaI N m s k i)) ah i) = 0 then b ||| Int32.ofNat (2 ^ i) else b) (ownI (gaI N m s k i))
abbrev okRung (N : Nat → Int32) (m s k : Int32) : Prop := okI m 4 ∧ okI s (N 4213).toInt ∧ okB k 0 200
noncomputable def spRung (m s k : Int32) (N : Nat → Int32) : Int32 := if okRung N m s k then (match rdR N with
  | Sum.inl _ => -3
  | Sum.inr w => rgF N w m s k (N 4212).toInt.toNat 0 0 0) else -2
theorem fq_uJ {M : Mem} {k j : Nat} {v : Int64} (h : k < 71) : FQ M (uJ M k j v) := ⟨fun _ _ => rfl, fun a ha => by funext b; exact if_neg (fun x => by have := x.1; omega)⟩
theorem fm_uJ {M : Mem} {k j : Nat} {v : Int64} (h : 135 ≤ k) : FM M (uJ M k j v) := ⟨fun _ _ => rfl, fun a ha => by funext b; exact if_neg (fun x => by have := x.1; omega), rfl⟩
theorem uJ_s {M : Mem} {k j : Nat} {v : Int64} : (uJ M k j v).2.1 k j = v := if_pos ⟨rfl, rfl⟩
theorem uJ_j {M : Mem} {k j a b : Nat} {v : Int64} (h : b ≠ j) : (uJ M k j v).2.1 a b = M.2.1 a b := if_neg (fun x => h x.2)
theorem gaI_le {N : Nat → Int32} {m s k : Int32} (hk : okB k 0 200) (i : Nat) : (gaI N m s k i).1 ≤ 200 := by
  have := gat_le (N := N) (b := Int32.ofNat i) (m := m) (s := s) (min (N 4214).toInt.toNat k.toInt.toNat)
  unfold gaI
  have h2 := hk.2
  omega
theorem six {i : Nat} (h : i < 6) {K : Nat → Int64} {P : Nat → Int64} (h0 : P 0 = K 0) (h1 : P 1 = K 1) (h2 : P 2 = K 2) (h3 : P 3 = K 3) (h4 : P 4 = K 4) (h5 : P 5 = K 5) : P i = K i := by
  have : i = 0 ∨ i = 1 ∨ i = 2 ∨ i = 3 ∨ i = 4 ∨ i = 5 := by omega
  rcases this with e | e | e | e | e | e <;> subst e <;> assumption
theorem c_rung {m s k : Int32} {M : Mem} {N : Nat → Int32} {q : Int32 → Mem → Prop} (hR : Rep 1 N M.1) (hI : InvN N) (h : ∀ M', FQ M M' → q (spRung m s k N) M') : w_X11_rung m s k M q := by
  have i2 : 0 ≤ (N 4212).toInt ∧ (N 4212).toInt ≤ 24 := hI.1 4212 (by decide)
  have bad : ¬ okRung N m s k → q (-2) M := fun n => by have := h M (FQ.rf M); unfold spRung at this; rw [if_neg n] at this; exact this
  have f4 : (4 : Int32).toInt = 4 := rfl
  have f0 : (0 : Int32).toInt = 0 := rfl
  have f2 : (200 : Int32).toInt = 200 := rfl
  unfold w_X11_rung
  simp only [e_isOut, e_isBeyond, tf_z, Classical.not_not, rc3 hR, f4, f0, f2]
  refine ⟨fun n => bad (fun x => n x.1), fun k1 => ⟨fun n => bad (fun x => n x.2.1), fun k2 => ⟨fun k3 => ?_, fun n => bad (fun x => n x.2.2)⟩⟩⟩
  unfold spRung at h
  rw [if_pos ⟨k1, k2, k3⟩] at h
  have kn := ix_n k3.1
  refine s_work hR hI (K := M.2.1 70) (fun _ _ => rfl) (fun v0 M23 F23 c23 => ?_)
  rcases c23 with ⟨f, nf, e1, e2⟩ | ⟨e1, w, e2, _⟩
  · rw [e1]
    refine ⟨fun x => absurd x nf, fun _ => ?_⟩
    have h := h M23 F23.q
    rw [e2] at h
    exact h
  · rw [e1]
    refine ⟨fun _ => ?_, fun x => absurd rfl x⟩
    rw [e2] at h
    have h : ∀ M', FQ M M' → q (rgF N w m s k (N 4212).toInt.toNat 0 0 0) M' := h
    obtain ⟨g, hg⟩ : ∃ g, g = rgF N w m s k (N 4212).toInt.toNat 0 0 0 := ⟨_, rfl⟩
    rw [← hg] at h
    unfold w_X11_rung_l84
    refine lfp_for (i0 := 0) (n := (N 4212).toInt.toNat) (fun (i : Nat) (t : Int32 × Int32 × Int32 × Mem) => t.2.2.1.toInt = (i : Int) ∧ g = rgF N w m s k ((N 4212).toInt.toNat - i) i t.1 t.2.1 ∧ FQ M t.2.2.2) ?_ (by omega) ⟨rfl, hg, F23.q⟩
    intro P i st hi hJ hP
    obtain ⟨v4, v5, v6, M1⟩ := st
    obtain ⟨ha0, hg0, hF0⟩ := hJ
    have ha : v6.toInt = (i : Int) := ha0
    have hg1 : g = rgF N w m s k ((N 4212).toInt.toNat - i) i v4 v5 := hg0
    have hF : FQ M M1 := hF0
    clear ha0 hg0 hF0
    have hR1 := hF.r hR
    unfold w_X11_rung_l84F
    dsimp only
    rw [rc2 hR1, le_i, ha]
    refine ⟨fun z => ?_, fun z => ?_⟩
    · rw [show (N 4212).toInt.toNat - i = 0 from by omega] at hg1
      have h := h M1 hF
      rw [hg1] at h
      exact h
    · rw [show (N 4212).toInt.toNat - i = ((N 4212).toInt.toNat - (i + 1)) + 1 from by omega, rgF] at hg1
      have g200 := gaI_le (N := N) (m := m) (s := s) k3 i
      refine s_gather (k := 46) hR1 hI (by decide) kn (fun M5 H5 f5 => ?_)
      rw [i_nat ha] at H5
      have H5 : Hd 46 1 47 (gaI N m s k i).1 (gaI N m s k i).2 M5 := H5
      have F5 : FQ M M5 := hF.tr ⟨fun a ha => f5.row (by omega) (by omega), fun a _ => by rw [f5.2]⟩
      unfold w_X4_know
      intro A1 eA1
      have HA1 : Hd 46 1 47 (gaI N m s k i).1 (gaI N m s k i).2 A1 := by rw [eA1]; exact H5
      refine e_middle HA1 g200 ?_
      intro A4 eA4
      have HA4 : Hd 46 1 47 (gaI N m s k i).1 (gaI N m s k i).2 A4 := by rw [eA4]; exact HA1
      refine e_least HA4 ?_
      intro A7 eA7
      have HA7 : Hd 46 1 47 (gaI N m s k i).1 (gaI N m s k i).2 A7 := by rw [eA7]; exact HA4
      refine e_greatest HA7 g200 ?_
      intro A10 eA10 A11 eA11 A12 eA12
      have H12 : Hd 46 1 47 (gaI N m s k i).1 (gaI N m s k i).2 A12 := by rw [eA12, eA11, eA10]; exact HA7
      have F12 : FQ M A12 := by
        rw [eA12, eA11, eA10, eA7, eA4, eA1]
        exact (((((F5.tr (fq_uJ (by decide))).tr (fq_uJ (by decide))).tr (fq_uJ (by decide))).tr (fq_uJ (by decide))).tr (fq_uJ (by decide))).tr (fq_uJ (by decide))
      have s12 : (A12.1 46 1).toInt = ((gaI N m s k i).1 : Int) := H12.1
      have next : ∀ (b : Int32) (M2 : Mem), FQ M M2 → Hd 46 1 47 (gaI N m s k i).1 (gaI N m s k i).2 M2 → g = rgF N w m s k ((N 4212).toInt.toNat - (i + 1)) (i + 1) b (ownI (gaI N m s k i)) → w_X11_rung_b175 m s k b v6 M2 q P := fun b M2 F2 H2 eg => by
        unfold w_X11_rung_b175
        refine e_middle H2 g200 ?_
        intro x3 e3
        refine hP (b, _, x3, M2) (by omega) ⟨?_, eg, F2⟩
        show x3.toInt = ((i + 1 : Nat) : Int)
        rw [e3]; exact ix_a ha rfl (by omega)
      rw [le_i, s12, f0]
      refine ⟨fun z0 => next v4 A12 F12 H12 ?_, fun z0 => ?_⟩
      · rw [hg1, if_neg (fun x => by have := x.1; omega)]
      · have gp : 0 < (gaI N m s k i).1 := by omega
        have K6 : ∀ j, j < 6 → A12.2.1 70 j = kn6 (gaI N m s k i) (ownI (gaI N m s k i)) v5 i j := fun j hj => by
          refine six (P := A12.2.1 70) hj ?_ ?_ ?_ ?_ ?_ ?_
          · rw [eA12, uJ_j (by decide), eA11, uJ_j (by decide), eA10, uJ_j (by decide), eA7, uJ_j (by decide), eA4, uJ_j (by decide), eA1, uJ_s, i_nat H5.1]
            rfl
          · rw [eA12, uJ_j (by decide), eA11, uJ_j (by decide), eA10, uJ_j (by decide), eA7, uJ_j (by decide), eA4, uJ_s]
            rfl
          · rw [eA12, uJ_j (by decide), eA11, uJ_j (by decide), eA10, uJ_j (by decide), eA7, uJ_s, if_neg (by omega)]
            rfl
          · rw [eA12, uJ_j (by decide), eA11, uJ_j (by decide), eA10, uJ_s, if_neg (by omega)]
            rfl
          · rw [eA12, uJ_j (by decide), eA11, uJ_s]
            rfl
          · rw [eA12, uJ_s, i_nat ha]
            rfl
        refine s_work (F12.r hR) hI K6 (fun v M10 F10 c10 => ?_)
        have F10' : FQ M M10 := F12.tr F10.q
        have H10 : Hd 46 1 47 (gaI N m s k i).1 (gaI N m s k i).2 M10 := ⟨by rw [F10.1 46 1 (fun x => absurd x.1 (by decide)) (by decide)]; exact H12.1, fun j hj => by rw [F10.1 47 j (fun x => absurd x.1 (by decide)) (by decide)]; exact H12.2 j hj⟩
        rcases c10 with ⟨f, nf, _, x2⟩ | ⟨_, w', x2, x3⟩
        · rw [e2] at x2; cases x2
        · rw [e2] at x2
          have ew : w = w' := Sum.inr.inj x2
          rw [← ew] at x3
          refine ⟨fun z1 => next v4 M10 F10' H10 ?_, fun z1 x13 e13 => next x13 M10 F10' H10 ?_⟩
          · rw [hg1, if_neg (fun x => x.2 (by rw [← x3]; exact z1))]
          · rw [hg1, if_pos ⟨gp, by rw [← x3]; exact z1⟩, e13, shl_o ha (by omega)]
theorem m_rung {m s k : Int32} {M : Mem} {q : Int32 → Mem → Prop} (hI : InvN (M.1 136)) (h : ∀ M', FM M M' → q (spRung m s k (M.1 136)) M') : w_X12_rung m s k M q := by
  obtain ⟨N, hN⟩ : ∃ N, N = M.1 136 := ⟨_, rfl⟩
  rw [← hN] at hI h
  have i2 : 0 ≤ (N 4212).toInt ∧ (N 4212).toInt ≤ 24 := hI.1 4212 (by decide)
  have i3 : 0 ≤ (N 4213).toInt := (hI.1 4213 (by decide)).1
  have bad : ¬ okRung N m s k → q (-2) M := fun n => by have := h M (FM.rf M); unfold spRung at this; rw [if_neg n] at this; exact this
  have f0 : (0 : Int64).toInt = 0 := rfl
  have f2 : (200 : Int64).toInt = 200 := rfl
  have g0 : (0 : Int32).toInt = 0 := rfl
  unfold w_X12_rung
  rw [e_isMachine, e_has3 (by rw [← hN]; exact i3), ← hN]
  simp only [e_in, tf_z, Classical.not_not, f0, f2]
  refine ⟨fun n => bad (fun x => n (by have := x.1; omega)), fun k1 => ⟨fun n => bad (fun x => n x.2.1), fun k2 => ⟨fun k3 => ?_, fun n => bad (fun x => n x.2.2)⟩⟩⟩
  unfold spRung at h
  rw [if_pos ⟨by omega, k2, k3⟩] at h
  have kn := ix_n k3.1
  refine s_reads (K := M.2.1 153) hN.symm hI (fun _ _ => rfl) (fun r0 M31 F31 c31 => ?_)
  rcases c31 with ⟨f, nf, er, e1, e2⟩ | ⟨er, e1, w, e2, _⟩
  · rw [er]
    refine ⟨fun x => absurd rfl x, fun _ => ?_⟩
    have h := h M31 F31.m
    rw [e2] at h
    exact h
  · rw [er]
    refine ⟨fun _ => ?_, fun x => absurd x (by decide)⟩
    rw [e2] at h
    have h : ∀ M', FM M M' → q (rgF N w m s k (N 4212).toInt.toNat 0 0 0) M' := h
    obtain ⟨g, hg⟩ : ∃ g, g = rgF N w m s k (N 4212).toInt.toNat 0 0 0 := ⟨_, rfl⟩
    rw [← hg] at h
    unfold w_X12_rung_l50
    refine lfp_for (i0 := 0) (n := (N 4212).toInt.toNat) (fun (i : Nat) (t : Int32 × Int32 × Int32 × Mem) => t.2.2.1.toInt = (i : Int) ∧ g = rgF N w m s k ((N 4212).toInt.toNat - i) i t.1 t.2.1 ∧ FM M t.2.2.2) ?_ (by omega) ⟨rfl, hg, F31.m⟩
    intro P i st hi hJ hP
    obtain ⟨v4, v5, v6, M1⟩ := st
    obtain ⟨ha0, hg0, hF0⟩ := hJ
    have ha : v6.toInt = (i : Int) := ha0
    have hg1 : g = rgF N w m s k ((N 4212).toInt.toNat - i) i v4 v5 := hg0
    have hF : FM M M1 := hF0
    clear ha0 hg0 hF0
    have n1 : M1.1 136 = N := by rw [hF.n, ← hN]
    unfold w_X12_rung_l50F
    dsimp only
    rw [e_many2, n1, le_i, ha]
    refine ⟨fun z => ?_, fun z => ?_⟩
    · rw [show (N 4212).toInt.toNat - i = 0 from by omega] at hg1
      have h := h M1 hF
      rw [hg1] at h
      exact h
    · rw [show (N 4212).toInt.toNat - i = ((N 4212).toInt.toNat - (i + 1)) + 1 from by omega, rgF] at hg1
      have g200 := gaI_le (N := N) (m := m) (s := s) k3 i
      refine s_sortRuns (by rw [n1]; exact hI) kn (fun M17 H17 f17 => ?_)
      rw [i_nat ha, n1] at H17
      have H17 : Hd 135 12 145 (gaI N m s k i).1 (gaI N m s k i).2 M17 := H17
      have F17 : FM M M17 := hF.tr ⟨fun a ha => f17.row (by omega) (by omega), fun a _ => by rw [f17.2], by rw [f17.2]⟩
      have next : ∀ (b t0 : Int32) (M2 : Mem), FM M M2 → t0 = ownI (gaI N m s k i) → g = rgF N w m s k ((N 4212).toInt.toNat - (i + 1)) (i + 1) b (ownI (gaI N m s k i)) → w_X12_rung_b190 m s k b v6 t0 M2 q P := fun b t0 M2 F2 e0 eg => by
        unfold w_X12_rung_b190
        intro x1 e1
        refine hP (b, t0, x1, M2) (by omega) ⟨?_, ?_, F2⟩
        · show x1.toInt = ((i + 1 : Nat) : Int)
          rw [e1]; exact ix_a ha rfl (by omega)
        · show g = rgF N w m s k ((N 4212).toInt.toNat - (i + 1)) (i + 1) b t0
          rw [e0]; exact eg
      have b84 : ∀ t0 : Int32, t0 = ownI (gaI N m s k i) → w_X12_rung_b84 m s k v4 v5 v6 t0 M17 q P := fun t0 e0 => by
        unfold w_X12_rung_b84
        rw [le_i, H17.1, g0]
        refine ⟨fun z0 => next v4 t0 M17 F17 e0 ?_, fun z0 => ?_⟩
        · rw [hg1, if_neg (fun x => by have := x.1; omega)]
        · have gp : 0 < (gaI N m s k i).1 := by omega
          intro A4 eA4 A5 eA5 A6 eA6
          have z6 : A6.1 = M17.1 := by rw [eA6, eA5, eA4]; rfl
          have z5 : A5.1 = M17.1 := by rw [eA5, eA4]; rfl
          have s6 : (A6.1 135 12).toInt = ((gaI N m s k i).1 : Int) := by rw [z6]; exact H17.1
          have s61 := ix_s s6 (w := 1) (i := 1) rfl (by omega)
          refine ⟨vp_of s61 (by omega), fun A8 eA8 A9 eA9 A10 eA10 => ?_⟩
          rw [i_of s61, z6, H17.2 _ (by omega)] at eA8
          rw [z5, H17.2 0 gp] at eA6
          have F10 : FM M A10 := by
            rw [eA10, eA9, eA8, eA6, eA5, eA4]
            exact (((((F17.tr (fm_uJ (by decide))).tr (fm_uJ (by decide))).tr (fm_uJ (by decide))).tr (fm_uJ (by decide))).tr (fm_uJ (by decide))).tr (fm_uJ (by decide))
          have K6 : ∀ j, j < 6 → A10.2.1 153 j = kn6 (gaI N m s k i) (ownI (gaI N m s k i)) v5 i j := fun j hj => by
            refine six (P := A10.2.1 153) hj ?_ ?_ ?_ ?_ ?_ ?_
            · rw [eA10, uJ_j (by decide), eA9, uJ_j (by decide), eA8, uJ_j (by decide), eA6, uJ_j (by decide), eA5, uJ_j (by decide), eA4, uJ_s, i_nat H17.1]
              rfl
            · rw [eA10, uJ_j (by decide), eA9, uJ_j (by decide), eA8, uJ_j (by decide), eA6, uJ_j (by decide), eA5, uJ_s, e0]
              rfl
            · rw [eA10, uJ_j (by decide), eA9, uJ_j (by decide), eA8, uJ_j (by decide), eA6, uJ_s]
              rfl
            · rw [eA10, uJ_j (by decide), eA9, uJ_j (by decide), eA8, uJ_s]
              rfl
            · rw [eA10, uJ_j (by decide), eA9, uJ_s]
              rfl
            · rw [eA10, uJ_s, i_nat ha]
              rfl
          refine s_reads (by rw [F10.n, ← hN]) hI K6 (fun r M11 F11 c11 => ?_)
          have F11' : FM M M11 := F10.tr F11.m
          rcases c11 with ⟨f, nf, _, _, x2⟩ | ⟨_, _, w', x2, x3⟩
          · rw [e2] at x2; cases x2
          · rw [e2] at x2
            have ew : w = w' := Sum.inr.inj x2
            rw [← ew] at x3
            rw [x3]
            unfold w_X12_rung_b187
            refine ⟨fun z1 x2 ex2 => next x2 t0 M11 F11' e0 ?_, fun z1 x2 ex2 => next x2 t0 M11 F11' e0 ?_⟩
            · rw [hg1, if_neg (fun x => x.2 z1), ex2, Int32.or_zero]
            · rw [hg1, if_pos ⟨gp, z1⟩, ex2, shl_o ha (by omega)]
      have s17 : (M17.1 135 12).toInt = ((gaI N m s k i).1 : Int) := H17.1
      refine ⟨fun nz => ?_, fun z0 => b84 0 ?_⟩
      · have gp : 0 < (gaI N m s k i).1 := by
          rw [eq_i, s17, g0] at nz
          omega
        refine e_middle12 H17 gp g200 (b84 _ ?_)
        unfold ownI
        rw [if_neg (by omega)]
      · unfold ownI
        rw [eq_i, s17, g0] at z0
        rw [if_pos (by omega)]

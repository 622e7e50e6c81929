/-! line, change -/
def built (N : Nat → Int32) (p : Int32) : Prop := ∃ i : Nat, (i : Int) < (N 4212).toInt ∧ N (1026 + 2 * i) = p
theorem s_isBuilt {p : Int32} {M : Mem} {N : Nat → Int32} {q : Int32 → Mem → Prop} (hR : Rep 1 N M.1) (hI : InvN N) (h1 : built N p → q 1 M) (h0 : ¬ built N p → q 0 M) : w_X6_isBuilt 2 p M q := by
  have i2 : 0 ≤ (N 4212).toInt ∧ (N 4212).toInt ≤ 24 := hI.1 4212 (by decide)
  unfold w_X6_isBuilt w_X6_isBuilt_l2
  refine lfp_for (i0 := 0) (n := (N 4212).toInt.toNat) (fun (i : Nat) (s : Int32 × Mem) => s.1.toInt = (i : Int) ∧ s.2 = M ∧ ∀ t, t < i → ¬ N (1026 + 2 * t) = p) ?_ (by omega) ⟨rfl, rfl, fun t ht => absurd ht (by omega)⟩
  intro P i st hi hJ hP
  obtain ⟨a, M1⟩ := st
  obtain ⟨ha, hM, hN⟩ := hJ
  have ha : a.toInt = i := ha
  have hM : M1 = M := hM
  subst hM
  unfold w_X6_isBuilt_l2F
  dsimp only
  rw [rc2 hR]
  refine ⟨fun z => ?_, fun z => ⟨vp_of ha (by rw [le_i] at z; omega), fun n x ex => ?_, fun k => ?_⟩⟩
  · rw [le_i] at z
    refine h0 (fun ⟨t, ht, e⟩ => hN t (by omega) e)
  · rw [le_i] at z
    rw [i_of ha] at n
    have n : ¬ M1.1 8 i = p := n
    rw [rd_bp hR (by omega)] at n
    refine hP (x, M1) (by omega) ⟨?_, rfl, fun t ht => ?_⟩
    · show x.toInt = ((i + 1 : Nat) : Int)
      rw [ex]
      exact ix_a ha rfl (by omega)
    · by_cases e : t = i
      · subst e; exact n
      · exact hN t (by omega)
  · rw [le_i] at z
    rw [i_of ha] at k
    have k : M1.1 8 i = p := k
    rw [rd_bp hR (by omega)] at k
    exact h1 ⟨i, by omega, k⟩
def lineN (p n : Nat) (act a b c v : Int32) (N : Nat → Int32) : Nat → Int32 := upN (up4 N (160 * p + 4 * n) act a b c) (960 + p) v
noncomputable def spLine (p act a b c : Int32) (N : Nat → Int32) : Int32 × (Nat → Int32) := if okI p (N 4210).toInt ∧ okLine act a b c then cif (built N p) (-3, N) (if (N (960 + p.toInt.toNat)).toInt < 40 then (N (960 + p.toInt.toNat), lineN p.toInt.toNat (N (960 + p.toInt.toNat)).toInt.toNat act a b c (N (960 + p.toInt.toNat) + 1) N) else (-4, N)) else (-2, N)
theorem rg_size {p : Nat} (h : p < 6) : rg (960 + p) = (0, 40) := by grind [rg]
theorem mm_line {p act a b c : Int32} {M : Mem} {q : Int32 → Mem → Prop} (hI : InvN (M.1 136)) (h : PQ (spLine p act a b c (M.1 136)) M q) : w_X12_line p act a b c M q := by
  have i0 : 0 ≤ (M.1 136 4210).toInt ∧ (M.1 136 4210).toInt ≤ 6 := hI.1 4210 (by decide)
  have i2 : 0 ≤ (M.1 136 4212).toInt ∧ (M.1 136 4212).toInt ≤ 24 := hI.1 4212 (by decide)
  have bad : ¬ (okI p (M.1 136 4210).toInt ∧ okLine act a b c) → q (-2) M := fun n => by unfold spLine at h; rw [if_neg n] at h; exact mq_0 h
  unfold w_X12_line
  simp only [e_has0 i0.1, tf_z, Classical.not_not]
  refine ⟨fun n => bad (fun x => n x.1), fun k1 => s_isLine12 ?_⟩
  simp only [tf_z, Classical.not_not]
  refine ⟨fun k2 => ?_, fun n => bad (fun x => n x.2)⟩
  have iz := hI.1 (960 + p.toInt.toNat) (by omega)
  rw [rg_size (by omega)] at iz
  have iz : 0 ≤ (M.1 136 (960 + p.toInt.toNat)).toInt ∧ (M.1 136 (960 + p.toInt.toNat)).toInt ≤ 40 := iz
  unfold spLine at h
  rw [if_pos ⟨k1, k2⟩] at h
  unfold w_X12_line_l27
  refine lfp_for (i0 := 0) (n := (M.1 136 4212).toInt.toNat) (fun (i : Nat) (s : Int32 × Mem) => s.1.toInt = (i : Int) ∧ s.2 = M ∧ ∀ t, t < i → ¬ M.1 136 (1026 + 2 * t) = p) ?_ (by omega) ⟨rfl, rfl, fun t ht => absurd ht (by omega)⟩
  intro P i st hi hJ hP
  obtain ⟨x, M1⟩ := st
  obtain ⟨ha, hM, hN⟩ := hJ
  have ha : x.toInt = i := ha
  have hM : M1 = M := hM
  subst hM
  unfold w_X12_line_l27F
  dsimp only
  rw [e_many2]
  have E9 := ix_a (e := (960 : Int32)) (a := 960) rfl (ix_n k1.1) (by omega)
  refine ⟨fun z => ⟨vp_of E9 (by omega), fun x5 e5 => ?_⟩, fun z => ?_⟩
  · rw [le_i] at z
    rw [cif_f (show ¬ built (M1.1 136) p from fun ⟨t, ht, e⟩ => hN t (by omega) e)] at h
    rw [i_of E9] at e5
    rw [← e5] at h iz
    have f40 : (40 : Int32).toInt = 40 := rfl
    refine ⟨fun n => ?_, fun k => ?_⟩
    · have n' : x5.toInt < 40 := by
        have : ¬ x5.toInt = 40 := fun y => n (eq_i.mpr (y.trans f40.symm))
        omega
      rw [if_pos n'] at h
      have E := ix_a (ix_a (e := (0 : Int32)) (a := 0) rfl (ix_m (e := (160 : Int32)) (a := 160) rfl (ix_n k1.1) (by omega)) (by omega)) (ix_m (e := (4 : Int32)) (a := 4) rfl (ix_n iz.1) (by omega)) (by omega)
      rw [show 0 + 160 * p.toInt.toNat + 4 * x5.toInt.toNat = 160 * p.toInt.toNat + 4 * x5.toInt.toNat from by omega] at E
      rw [e_put E (by omega)]
      refine ⟨vp_of E9 (by omega), vp_of E9 (by omega), fun M11 e11 => ?_⟩
      rw [i_of E9] at e11
      refine h M11 ?_ ?_
      · rw [e11, now_uI, now_4]
        unfold lineN
        rw [up4_o (by omega), ← e5]
      · rw [e11]; exact frM4.tr frM1
    · rw [if_neg (by rw [k]; decide)] at h
      exact mq_0 h
  · rw [le_i] at z
    have E := ix_a (e := (1026 : Int32)) (a := 1026) rfl (ix_m (e := (2 : Int32)) (a := 2) rfl ha (by omega)) (by omega)
    refine ⟨vp_of E (by omega), ?_⟩
    rw [i_of E]
    refine ⟨fun n y ey => ?_, fun k => ?_⟩
    · refine hP (y, M1) (by omega) ⟨?_, rfl, fun t ht => ?_⟩
      · show y.toInt = ((i + 1 : Nat) : Int)
        rw [ey]
        exact ix_a ha rfl (by omega)
      · by_cases e : t = i
        · subst e; exact n
        · exact hN t (by omega)
    · rw [cif_t (show built (M1.1 136) p from ⟨i, by omega, k⟩)] at h
      exact mq_0 h
theorem frC_wrL {M : Mem} {k j : Nat} {a b c d : Int32} (hk : k < 71) (h4 : k ≠ 34) : FrC M (wrL M k j a b c d) := (((frC_uI hk h4).tr (frC_uI hk h4)).tr (frC_uI hk h4)).tr (frC_uI hk h4)
theorem wrL_k {M : Mem} {k j a' b' : Nat} {a b c d : Int32} (h : a' ≠ k) : (wrL M k j a b c d).1 a' b' = M.1 a' b' := by
  unfold wrL
  rw [uI_k h, uI_k h, uI_k h, uI_k h]
theorem loc_ln {j : Nat} (h : j < 960) : loc j = some (3, j) := by grind [loc]
theorem cc_line {p act a b c : Int32} {M : Mem} {N : Nat → Int32} {q : Int32 → Mem → Prop} (hR : Rep 1 N M.1) (hI : InvN N) (h : CQ (spLine p act a b c N) M q) : w_X11_line p act a b c M q := by
  have i0 : 0 ≤ (N 4210).toInt ∧ (N 4210).toInt ≤ 6 := hI.1 4210 (by decide)
  have bad : ¬ (okI p (N 4210).toInt ∧ okLine act a b c) → q (-2) M := fun n => by unfold spLine at h; rw [if_neg n] at h; exact cq_0 hR h
  unfold w_X11_line
  simp only [e_isOut, rc0 hR, tf_z, Classical.not_not]
  refine ⟨fun n => bad (fun x => n x.1), fun k1 => s_isLine11 ?_⟩
  simp only [tf_z, Classical.not_not]
  refine ⟨fun k2 => ?_, fun n => bad (fun x => n x.2)⟩
  have iz := hI.1 (960 + p.toInt.toNat) (by omega)
  rw [rg_size (by omega)] at iz
  have iz : 0 ≤ (N (960 + p.toInt.toNat)).toInt ∧ (N (960 + p.toInt.toNat)).toInt ≤ 40 := iz
  unfold spLine at h
  rw [if_pos ⟨k1, k2⟩] at h
  refine s_isBuilt hR hI (fun b1 => ⟨fun z => absurd z (by decide), fun _ => ?_⟩) (fun b0 => ⟨fun _ => ?_, fun z => absurd rfl z⟩)
  · rw [cif_t b1] at h
    exact cq_0 hR h
  · rw [cif_f b0] at h
    have f40 : (40 : Int32).toInt = 40 := rfl
    unfold w_X6_addLine
    refine ⟨vp_of (ix_n k1.1) (by omega), fun x2 e2 => ?_⟩
    rw [tn_eq] at e2
    have e2 : x2 = M.1 3 p.toInt.toNat := e2
    rw [rd_size hR (by omega)] at e2
    rw [← e2] at h iz
    refine ⟨fun z => ?_, fun z => ?_⟩
    · rw [lt_i, f40] at z
      rw [if_pos z] at h
      have E := ix_m (ix_a (ix_m (ix_n k1.1) (w := (40 : Int32)) (i := 40) rfl (by omega)) (ix_n iz.1) (by omega)) (w := (4 : Int32)) (i := 4) rfl (by omega)
      refine s_writeLine E (k := 4) (n := 960) rfl (by omega) (by decide) ⟨vp_of (ix_n k1.1) (by omega), fun M7 e7 => ?_⟩
      rw [tn_eq] at e7
      refine h M7 ?_ ?_
      · rw [e7]
        unfold lineN
        refine rep_up (k := 1) (c := 2) ?_ (by omega) (loc_size (by omega)) ⟨by omega, by omega⟩
        rw [show (p.toInt.toNat * 40 + x2.toInt.toNat) * 4 = 160 * p.toInt.toNat + 4 * x2.toInt.toNat from by omega]
        exact rep_4 (c := 3) hR (Or.inl ⟨by omega, by omega⟩) (fun k hk => loc_ln (by omega))
      · rw [e7]
        exact (frC_wrL (by decide) (by decide)).tr (frC_uI (by decide) (by decide))
    · rw [lt_i, f40] at z
      rw [if_neg z] at h
      exact cq_0 hR h
theorem okL_4 {N : Nat → Int32} {i j : Nat} {a b c d : Int32} (h : j + 3 < i ∨ i + 3 < j) : okL (up4 N j a b c d) i ↔ okL N i := by
  unfold okL
  rw [up4_o (by omega), up4_o (by omega), up4_o (by omega), up4_o (by omega)]
theorem okL_4s {N : Nat → Int32} {j : Nat} {a b c d : Int32} (h : okLine a b c d) : okL (up4 N j a b c d) j := by
  unfold okL
  rw [up4_0, up4_1, up4_2, up4_3]
  exact h
theorem rg_line {j : Nat} (h : j < 960) : rg j = (-2147483648, 2147483647) := if_pos h
theorem inv_line {N : Nat → Int32} {l : Nat} {a b c d : Int32} (hI : InvN N) (hl : l < 240) (h : okLine a b c d) : InvN (up4 N (4 * l) a b c d) := by
  refine ⟨fun i hi => ?_, fun l' hl' => ?_, fun c' hc' => (okL_4 (by omega)).mpr (hI.2.2.1 c' hc'), fun p hp hle => ?_, fun i hi => ?_⟩
  · by_cases e : i < 960
    · rw [rg_line e]; exact i_any _
    · rw [up4_o (by omega)]; exact hI.1 i hi
  · by_cases e : l' = l
    · subst e; exact okL_4s h
    · exact (okL_4 (by omega)).mpr (hI.2.1 l' hl')
  · rw [up4_o (by omega)] at hle
    rw [up4_o (by omega)]
    exact hI.2.2.2.1 p hp hle
  · rw [up4_o (by omega), up4_o (by omega)]
    exact hI.2.2.2.2 i hi
theorem inv_size {N : Nat → Int32} {p : Nat} {v : Int32} (hI : InvN N) (hp : p < 6) (hlt : (p : Int) < (N 4210).toInt) (hv : 0 ≤ v.toInt ∧ v.toInt ≤ 40) : InvN (upN N (960 + p) v) := by
  refine ⟨fun i hi => ?_, fun l hl => (okL_up (by omega)).mpr (hI.2.1 l hl), fun c hc => (okL_up (by omega)).mpr (hI.2.2.1 c hc), fun p' hp' hle => ?_, fun i hi => ?_⟩
  · by_cases e : i = 960 + p
    · subst e
      rw [upN_s, rg_size hp]
      exact hv
    · rw [upN_o e]; exact hI.1 i hi
  · rw [upN_o (by omega)] at hle
    rw [upN_o (by omega)]
    exact hI.2.2.2.1 p' hp' hle
  · rw [upN_o (by omega), upN_o (by omega)]
    exact hI.2.2.2.2 i hi
theorem ii_line {p act a b c : Int32} {N : Nat → Int32} (hI : InvN N) : InvN (spLine p act a b c N).2 := by
  have i0 : 0 ≤ (N 4210).toInt ∧ (N 4210).toInt ≤ 6 := hI.1 4210 (by decide)
  unfold spLine
  by_cases k : okI p (N 4210).toInt ∧ okLine act a b c
  · rw [if_pos k]
    by_cases k2 : built N p
    · rw [cif_t k2]; exact hI
    · rw [cif_f k2]
      by_cases k3 : (N (960 + p.toInt.toNat)).toInt < 40
      · rw [if_pos k3]
        have k1 := k.1
        have iz := hI.1 (960 + p.toInt.toNat) (by omega)
        rw [rg_size (by omega)] at iz
        have iz : 0 ≤ (N (960 + p.toInt.toNat)).toInt ∧ (N (960 + p.toInt.toNat)).toInt ≤ 40 := iz
        show InvN (lineN _ _ act a b c _ N)
        unfold lineN
        have e4 : 160 * p.toInt.toNat + 4 * (N (960 + p.toInt.toNat)).toInt.toNat = 4 * (40 * p.toInt.toNat + (N (960 + p.toInt.toNat)).toInt.toNat) := by omega
        refine inv_size ?_ (by omega) ?_ ?_
        · rw [e4]; exact inv_line hI (by omega) k.2
        · rw [up4_o (by omega)]; omega
        · rw [iv1 (by omega) (by omega)]; omega
      · rw [if_neg k3]; exact hI
  · rw [if_neg k]; exact hI

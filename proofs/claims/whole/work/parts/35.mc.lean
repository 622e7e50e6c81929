/-! look, program, setting, noise -/
-- look
def lastL (N : Nat → Int32) : Int32 := if N 4216 = 0 then 0 else N (4162 + ((N 4216).toInt.toNat - 1))
def spLook (p : Int32) (N : Nat → Int32) : Int32 × (Nat → Int32) := if okB p ((lastL N).toInt + 1) 16 then (if (N 4216).toInt < 8 then (N 4216 + 1, upN (upN N (4162 + (N 4216).toInt.toNat) p) 4216 (N 4216 + 1)) else (-4, N)) else (-2, N)
theorem lastL_rg {N : Nat → Int32} (hI : InvN N) : 0 ≤ (lastL N).toInt ∧ (lastL N).toInt ≤ 16 := by
  have i6 : 0 ≤ (N 4216).toInt ∧ (N 4216).toInt ≤ 8 := hI.1 4216 (by decide)
  unfold lastL
  by_cases k : N 4216 = 0
  · rw [if_pos k]; decide
  · rw [if_neg k]
    have := hI.1 (4162 + ((N 4216).toInt.toNat - 1)) (by omega)
    rw [rg_look (by omega)] at this
    exact this
theorem mm_look {p : Int32} {M : Mem} {q : Int32 → Mem → Prop} (hI : InvN (M.1 136)) (h : PQ (spLook p (M.1 136)) M q) : w_X12_look p M q := by
  have i6 : 0 ≤ (M.1 136 4216).toInt ∧ (M.1 136 4216).toInt ≤ 8 := hI.1 4216 (by decide)
  have iL := lastL_rg hI
  have f16 : (16 : Int64).toInt = 16 := rfl
  have f8 : (8 : Int32).toInt = 8 := rfl
  have o1 : (1 : Int32).toInt = 1 := rfl
  have key : w_X12_look_b30 p (lastL (M.1 136)) M q := by
    unfold w_X12_look_b30
    simp only [e_in, e_many6, tf_z, Classical.not_not, f16, Int32.toInt_toInt64]
    rw [iv1 (by omega) (by omega)]
    unfold spLook at h
    refine ⟨fun k => ⟨fun n => ?_, fun n => ?_⟩, fun n => ?_⟩
    · have n' : (M.1 136 4216).toInt < 8 := by
        have : ¬ (M.1 136 4216).toInt = 8 := fun x => n (eq_i.mpr (x.trans f8.symm))
        omega
      rw [if_pos k, if_pos n'] at h
      have E := ix_a (e := (4162 : Int32)) (a := 4162) rfl (ix_n i6.1) (by omega)
      refine ⟨vp_of E (by omega), fun M10 e10 M11 e11 => ?_⟩
      rw [i_of E] at e10
      have g : M10.1 136 4216 = M.1 136 4216 := by rw [e10, uI_j (by omega)]
      rw [g] at e11
      have g2 : M11.1 136 4216 = M.1 136 4216 + 1 := by rw [e11, uI_s]
      rw [g2]
      refine h M11 ?_ ?_
      · rw [e11, now_uI, e10, now_uI]
      · rw [e11, e10]; exact frM2
    · rw [if_pos k, if_neg (by rw [n]; decide)] at h
      exact mq_0 h
    · rw [if_neg n] at h
      exact mq_0 h
  unfold w_X12_look
  simp only [e_many6]
  refine ⟨fun n => ?_, fun n => ?_⟩
  · have n0 : ¬ (M.1 136 4216).toInt = 0 := fun x => n (eq_i.mpr x)
    have E := ix_s (ix_a (e := (4162 : Int32)) (a := 4162) rfl (ix_n i6.1) (by omega)) (w := 1) (i := 1) rfl (by omega)
    refine ⟨vp_of E (by omega), ?_⟩
    rw [i_of E, show 4162 + (M.1 136 4216).toInt.toNat - 1 = 4162 + ((M.1 136 4216).toInt.toNat - 1) from by omega]
    unfold lastL at key
    rw [if_neg n] at key
    exact key
  · unfold lastL at key
    rw [if_pos n] at key
    exact key
theorem e_lastLook {M : Mem} {N : Nat → Int32} {q : Int32 → Mem → Prop} (hR : Rep 1 N M.1) (hI : InvN N) : w_X5_lastLook 12 M q = q (lastL N) M := by
  have i6 : 0 ≤ (N 4216).toInt ∧ (N 4216).toInt ≤ 8 := hI.1 4216 (by decide)
  unfold w_X5_lastLook lastL
  simp only [rc6 hR]
  by_cases k : N 4216 = 0
  · rw [if_pos k]
    exact propext ⟨fun x => x.2 k, fun x => ⟨fun n => absurd k n, fun _ => x⟩⟩
  · rw [if_neg k]
    have n0 : ¬ (N 4216).toInt = 0 := fun x => k (eq_i.mpr x)
    have E := ix_s (ix_n i6.1) (w := 1) (i := 1) rfl (by omega)
    rw [i_of E, show M.1 (12 + 2) ((N 4216).toInt.toNat - 1) = N (4162 + ((N 4216).toInt.toNat - 1)) from rd_look hR (by omega)]
    exact propext ⟨fun x => (x.1 k).2, fun x => ⟨fun _ => ⟨vp_of E (by omega), x⟩, fun n => absurd n k⟩⟩
theorem cc_look {p : Int32} {M : Mem} {N : Nat → Int32} {q : Int32 → Mem → Prop} (hR : Rep 1 N M.1) (hI : InvN N) (h : CQ (spLook p N) M q) : w_X11_look p M q := by
  have i6 : 0 ≤ (N 4216).toInt ∧ (N 4216).toInt ≤ 8 := hI.1 4216 (by decide)
  have iL := lastL_rg hI
  have f1 : (1 : Int32).toInt = 1 := rfl
  have f16 : (16 : Int32).toInt = 16 := rfl
  have f8 : (8 : Int32).toInt = 8 := rfl
  have bad : ¬ okB p ((lastL N).toInt + 1) 16 → q (-2) M := fun n => by unfold spLook at h; rw [if_neg n] at h; exact cq_0 hR h
  unfold w_X11_look w_X5_addLook
  simp only [e_isBeyond, e_lastLook hR hI, tf_z, Classical.not_not, f1, f16, rc6 hR, lt_i, f8]
  refine ⟨fun n => bad (by omega), fun k1 => ⟨fun k2 => ⟨fun k3 => ?_, fun k3 => ?_⟩, fun n => bad (by omega)⟩⟩
  · unfold spLook at h
    rw [if_pos (by omega), if_pos k3] at h
    refine ⟨vp_of (ix_n i6.1) (by omega), fun M3 e3 M4 e4 => ?_⟩
    have g : M3.1 12 3 = N 4216 := by rw [e3, uI_k (by decide), rc6 hR]
    rw [g] at e4
    have g2 : M4.1 12 3 = N 4216 + 1 := by rw [e4, uI_s]
    rw [g2]
    rw [tn_eq] at e3
    refine h M4 ?_ ?_
    · rw [e4]
      refine wr (j := 4216) (c := 11) (p := 3) ?_ rfl (by decide) (by decide) rfl
      rw [e3]
      exact wr hR (loc_look (by omega)) (by omega) (by omega) rfl
    · rw [e4, e3]
      exact (frC_uI (by decide) (by decide)).tr (frC_uI (by decide) (by decide))
  · unfold spLook at h
    rw [if_pos (by omega), if_neg k3] at h
    exact cq_0 hR h
theorem ii_look {p : Int32} {N : Nat → Int32} (hI : InvN N) : InvN (spLook p N).2 := by
  have i6 : 0 ≤ (N 4216).toInt ∧ (N 4216).toInt ≤ 8 := hI.1 4216 (by decide)
  have iL := lastL_rg hI
  unfold spLook
  by_cases k : okB p ((lastL N).toInt + 1) 16
  · rw [if_pos k]
    by_cases k2 : (N 4216).toInt < 8
    · rw [if_pos k2]
      have e1 : (N 4216 + 1).toInt = (N 4216).toInt + 1 := iv1 (by omega) (by omega)
      show InvN (upN (upN N (4162 + (N 4216).toInt.toNat) p) 4216 (N 4216 + 1))
      refine ⟨fun i hi => ?_, fun l hl => (okL_up (by omega)).mpr ((okL_up (by omega)).mpr (hI.2.1 l hl)), fun c hc => (okL_up (by omega)).mpr ((okL_up (by omega)).mpr (hI.2.2.1 c hc)), fun p' hp' hle => ?_, fun i hi hlt => ?_⟩
      · by_cases e : i = 4216
        · subst e
          rw [upN_s, e1]
          show 0 ≤ (N 4216).toInt + 1 ∧ (N 4216).toInt + 1 ≤ 8
          omega
        · rw [upN_o e]
          by_cases e2 : i = 4162 + (N 4216).toInt.toNat
          · subst e2
            rw [upN_s, rg_look (by omega)]
            show 0 ≤ p.toInt ∧ p.toInt ≤ 16
            omega
          · rw [upN_o e2]; exact hI.1 i hi
      · have hle : (upN (upN N (4162 + (N 4216).toInt.toNat) p) 4216 (N 4216 + 1) 4210).toInt ≤ (p' : Int) := hle
        rw [upN_o (by omega), upN_o (by omega)] at hle
        show upN (upN N (4162 + (N 4216).toInt.toNat) p) 4216 (N 4216 + 1) (960 + p') = 0
        rw [upN_o (by omega), upN_o (by omega)]
        exact hI.2.2.2.1 p' hp' hle
      · have hlt : (i : Int) < (upN (upN N (4162 + (N 4216).toInt.toNat) p) 4216 (N 4216 + 1) 4216).toInt := hlt
        rw [upN_s, e1] at hlt
        show 1 ≤ (upN (upN N (4162 + (N 4216).toInt.toNat) p) 4216 (N 4216 + 1) (4162 + i)).toInt
        rw [upN_o (by omega)]
        by_cases e2 : i = (N 4216).toInt.toNat
        · subst e2
          rw [upN_s]
          omega
        · rw [upN_o (by omega)]
          exact hI.2.2.2.2 i hi (by omega)
    · rw [if_neg k2]; exact hI
  · rw [if_neg k]; exact hI
-- program
def spProg (N : Nat → Int32) : Int32 × (Nat → Int32) := if (N 4210).toInt < 6 then (N 4210 + 1 - 1, upN N 4210 (N 4210 + 1)) else (-4, N)
theorem mm_prog {M : Mem} {q : Int32 → Mem → Prop} (hI : InvN (M.1 136)) (h : PQ (spProg (M.1 136)) M q) : w_X12_program M q := by
  have i0 : 0 ≤ (M.1 136 4210).toInt ∧ (M.1 136 4210).toInt ≤ 6 := hI.1 4210 (by decide)
  have f6 : (6 : Int32).toInt = 6 := rfl
  unfold w_X12_program
  simp only [e_many0]
  unfold spProg at h
  refine ⟨fun n M4 e4 => ?_, fun k => ?_⟩
  · have n' : (M.1 136 4210).toInt < 6 := by
      have : ¬ (M.1 136 4210).toInt = 6 := fun x => n (eq_i.mpr (x.trans f6.symm))
      omega
    rw [if_pos n'] at h
    have g : M4.1 136 4210 = M.1 136 4210 + 1 := by rw [e4, uI_s]
    rw [g]
    exact h M4 (by rw [e4, now_uI]) (by rw [e4]; exact frM1)
  · rw [if_neg (by rw [k]; decide)] at h
    exact mq_0 h
theorem uI_same {M : Mem} {k j : Nat} {v : Int32} (h : M.1 k j = v) : (uI M k j v).1 = M.1 := by
  funext a b
  show (if a = k ∧ b = j then v else M.1 a b) = M.1 a b
  by_cases e : a = k ∧ b = j
  · rw [if_pos e, e.1, e.2, h]
  · rw [if_neg e]
theorem cc_prog {M : Mem} {N : Nat → Int32} {q : Int32 → Mem → Prop} (hR : Rep 1 N M.1) (hI : InvN N) (h : CQ (spProg N) M q) : w_X11_program M q := by
  have i0 : 0 ≤ (N 4210).toInt ∧ (N 4210).toInt ≤ 6 := hI.1 4210 (by decide)
  have f6 : (6 : Int32).toInt = 6 := rfl
  unfold w_X11_program w_X6_addProgram
  simp only [rc0 hR, lt_i, f6]
  unfold spProg at h
  refine ⟨fun k => ⟨vp_of (ix_n i0.1) (by omega), fun M3 e3 M4 e4 => ?_⟩, fun n => ?_⟩
  · rw [if_pos k] at h
    rw [tn_eq] at e3
    have s0 : M.1 3 (N 4210).toInt.toNat = 0 := by rw [rd_size hR (by omega)]; exact hI.2.2.2.1 _ (by omega) (by omega)
    have g3 : M3.1 = M.1 := by rw [e3]; exact uI_same s0
    have g : M3.1 2 0 = N 4210 := by rw [g3, rc0 hR]
    rw [g] at e4
    have g2 : M4.1 2 0 = N 4210 + 1 := by rw [e4, uI_s]
    rw [g2]
    refine h M4 ?_ ?_
    · rw [e4]
      refine wr (M := M3) (j := 4210) (c := 1) (p := 0) ?_ rfl (by decide) (by decide) rfl
      rw [g3]
      exact hR
    · rw [e4, e3]
      exact (frC_uI (by decide) (by decide)).tr (frC_uI (by decide) (by decide))
  · rw [if_neg n] at h
    exact cq_0 hR h
theorem ii_prog {N : Nat → Int32} (hI : InvN N) : InvN (spProg N).2 := by
  have i0 : 0 ≤ (N 4210).toInt ∧ (N 4210).toInt ≤ 6 := hI.1 4210 (by decide)
  unfold spProg
  by_cases k : (N 4210).toInt < 6
  · rw [if_pos k]
    have e1 : (N 4210 + 1).toInt = (N 4210).toInt + 1 := iv1 (by omega) (by omega)
    show InvN (upN N 4210 (N 4210 + 1))
    refine ⟨fun i hi => ?_, fun l hl => (okL_up (by omega)).mpr (hI.2.1 l hl), fun c hc => (okL_up (by omega)).mpr (hI.2.2.1 c hc), fun p hp hle => ?_, fun i hi => ?_⟩
    · by_cases e : i = 4210
      · subst e
        rw [upN_s, e1]
        show 0 ≤ (N 4210).toInt + 1 ∧ (N 4210).toInt + 1 ≤ 6
        omega
      · rw [upN_o e]; exact hI.1 i hi
    · rw [upN_s, e1] at hle
      rw [upN_o (by omega)]
      exact hI.2.2.2.1 p hp (by omega)
    · rw [upN_o (by omega), upN_o (by omega)]
      exact hI.2.2.2.2 i hi
  · rw [if_neg k]; exact hI

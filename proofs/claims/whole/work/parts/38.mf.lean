/-! guess; erase, stand, sure, difference by specs -/
abbrev okGuess (m l s : Int32) : Prop := okI m 4 ∧ okB l 1 16 ∧ okB s 0 100
def guessN (at' : Nat) (l s : Int32) (N : Nat → Int32) : Nat → Int32 := upN (upN N (at' + 11) l) (at' + 12) s
def spGuess (m l s : Int32) (N : Nat → Int32) : Int32 × (Nat → Int32) := if okGuess m l s then (1, guessN (1106 + 60 * m.toInt.toNat) l s (if N (1106 + 60 * m.toInt.toNat + 11) = l then N else flN N (1106 + 60 * m.toInt.toNat + 36) 16 0)) else (-2, N)
theorem mm_guess {m l s : Int32} {M : Mem} {q : Int32 → Mem → Prop} (h : PQ (spGuess m l s (M.1 136)) M q) : w_X12_guess m l s M q := by
  have bad : ¬ okGuess m l s → q (-2) M := fun n => by unfold spGuess at h; rw [if_neg n] at h; exact mq_0 h
  have f0 : (0 : Int64).toInt = 0 := rfl
  have f1 : (1 : Int64).toInt = 1 := rfl
  have f16 : (16 : Int64).toInt = 16 := rfl
  have f2 : (100 : Int64).toInt = 100 := rfl
  unfold w_X12_guess
  simp only [e_isMachine, e_in, tf_z, Classical.not_not, f0, f1, f16, f2]
  refine ⟨fun n => bad (by omega), fun k1 => ⟨fun n => bad (by omega), fun k2 => ⟨fun k4 x ex => ?_, fun n => bad (by omega)⟩⟩⟩
  have E : x.toInt = ((1106 + 60 * m.toInt.toNat : Nat) : Int) := by rw [ex]; exact ix_a rfl (ix_m rfl (ix_n k1.1) (by omega)) (by omega)
  have G := fun (e : Int32) (w : Nat) (he : e.toInt = w) (hw : w < 60) => ix_a E he (by omega)
  unfold spGuess at h
  rw [if_pos ⟨by omega, k2, k4⟩] at h
  have tail : ∀ M1 : Mem, M1.1 136 = (if M.1 136 (1106 + 60 * m.toInt.toNat + 11) = l then M.1 136 else flN (M.1 136) (1106 + 60 * m.toInt.toNat + 36) 16 0) → FrM M M1 → w_X12_guess_b88 l s x M1 q := by
    intro M1 h1 hF
    unfold w_X12_guess_b88
    refine ⟨vp_of (G 11 11 rfl (by decide)) (by omega), fun M2 e2 => ⟨vp_of (G 12 12 rfl (by decide)) (by omega), fun M4 e4 => ?_⟩⟩
    rw [i_of (G 11 11 rfl (by decide))] at e2
    rw [i_of (G 12 12 rfl (by decide))] at e4
    refine h M4 ?_ ?_
    · rw [e4, now_uI, e2, now_uI, h1]
      rfl
    · rw [e4, e2]; exact hF.tr frM2
  have loop : ¬ (M.1 136 (1106 + 60 * m.toInt.toNat + 11) = l) → w_X12_guess_l61 l s x q (0, M) := by
    intro n
    unfold w_X12_guess_l61
    refine lfp_for (i0 := 0) (n := 16) (fun (i : Nat) (s : Int32 × Mem) => s.1.toInt = (i : Int) ∧ s.2.1 136 = flN (M.1 136) (1106 + 60 * m.toInt.toNat + 36) i 0 ∧ FrM M s.2) ?_ (by decide) ⟨rfl, flN_0.symm, FrM.rf M⟩
    intro P i st hi hJ hP
    obtain ⟨a, M1⟩ := st
    obtain ⟨ha, hM, hF⟩ := hJ
    have ha : a.toInt = i := ha
    have hM : M1.1 136 = flN (M.1 136) (1106 + 60 * m.toInt.toNat + 36) i 0 := hM
    have f16 : (16 : Int32).toInt = 16 := rfl
    unfold w_X12_guess_l61F
    dsimp only
    have E2 := ix_a (G 36 36 rfl (by decide)) ha (by omega)
    refine ⟨fun z => ?_, fun z => ⟨vp_of E2 (by omega), fun M9 e9 x10 e10 => ?_⟩⟩
    · rw [le_i, f16] at z
      have : i = 16 := by omega
      refine tail M1 ?_ hF
      rw [hM, this, if_neg n]
    · rw [le_i, f16] at z
      rw [i_of E2] at e9
      refine hP (x10, M9) (by omega) ⟨?_, ?_, ?_⟩
      · show x10.toInt = ((i + 1 : Nat) : Int)
        rw [e10]
        exact ix_a ha rfl (by omega)
      · show M9.1 136 = _
        rw [e9, now_uI, hM, flN_succ]
      · rw [e9]; exact FrM.tr hF frM1
  refine ⟨vp_of (G 11 11 rfl (by decide)) (by omega), ?_⟩
  rw [i_of (G 11 11 rfl (by decide))]
  exact ⟨fun k => tail M (by rw [if_pos k]) (FrM.rf M), fun n => loop n⟩
theorem cc_guess {m l s : Int32} {M : Mem} {N : Nat → Int32} {q : Int32 → Mem → Prop} (hR : Rep 1 N M.1) (h : CQ (spGuess m l s N) M q) : w_X11_guess m l s M q := by
  have bad : ¬ okGuess m l s → q (-2) M := fun n => by unfold spGuess at h; rw [if_neg n] at h; exact cq_0 hR h
  have f4 : (4 : Int32).toInt = 4 := rfl
  have f0 : (0 : Int32).toInt = 0 := rfl
  have f1 : (1 : Int32).toInt = 1 := rfl
  have f16 : (16 : Int32).toInt = 16 := rfl
  have f2 : (100 : Int32).toInt = 100 := rfl
  have lh : ∀ k1 : okI m 4, 11 + 6 + 4 * m.toNatClampNeg = 1 + (16 + 4 * m.toInt.toNat) := fun _ => by rw [tn_eq]; omega
  unfold w_X11_guess
  simp only [e_isOut, e_isBeyond, tf_z, Classical.not_not, f4, f0, f1, f16, f2]
  refine ⟨fun n => bad (by omega), fun k1 => ⟨fun n => bad (by omega), fun k2 => ⟨fun k4 => ⟨vp_of (ix_n k1.1) (by omega), ?_⟩, fun n => bad (by omega)⟩⟩⟩
  rw [lh k1]
  unfold spGuess at h
  rw [if_pos ⟨k1, k2, k4⟩] at h
  have L := fun (r : Nat) (h1 : 8 ≤ r) (h2 : r < 17) => loc_mach (m := m.toInt.toNat) (by omega) h1 h2
  have F : ∀ (M : Mem) (j : Nat) (v : Int32), FrC M (uI M (1 + (16 + 4 * m.toInt.toNat)) j v) := fun M j v => frC_uI (by omega) (by omega)
  have tail : ∀ M1 : Mem, Rep 1 (if N (1106 + 60 * m.toInt.toNat + 11) = l then N else flN N (1106 + 60 * m.toInt.toNat + 36) 16 0) M1.1 → FrC M M1 → w_X3_tellGuesses_b16 (1 + (16 + 4 * m.toInt.toNat)) l s M1 (fun M14 => q 1 M14) := by
    intro M1 h1 hF
    unfold w_X3_tellGuesses_b16
    intro M2 e2 M3 e3
    refine h M3 ?_ ?_
    · rw [e3]
      refine wr ?_ (L 12 (by decide) (by decide)) (by omega) (by omega) rfl
      rw [e2]
      exact wr h1 (L 11 (by decide) (by decide)) (by omega) (by omega) rfl
    · rw [e3, e2]
      exact hF.tr ((F _ _ _).tr (F _ _ _))
  unfold w_X3_tellGuesses
  have r8 : M.1 (1 + (16 + 4 * m.toInt.toNat)) 5 = N (1106 + 60 * m.toInt.toNat + 11) := rd_mach hR (r := 11) (by omega) (by decide) (by decide)
  rw [r8]
  refine ⟨fun k => tail M (by rw [if_pos k.symm]; exact hR) (FrC.rf M), fun n => ?_⟩
  refine s_fill (len_room _ (by omega)).2 (by decide) (tail _ ?_ (frC_fl (by omega) (by omega)))
  rw [if_neg (fun k => n k.symm), show 1 + (16 + 4 * m.toInt.toNat) + 3 = 1 + (19 + 4 * m.toInt.toNat) from by omega]
  exact rep_fl hR 16 (fun i hi => loc_said (by omega) hi) (by omega) (by omega)
theorem ii_guess {m l s : Int32} {N : Nat → Int32} (hI : InvN N) : InvN (spGuess m l s N).2 := by
  unfold spGuess
  by_cases k : okGuess m l s
  · rw [if_pos k]
    have R := fun (r : Nat) (hr : r < 60) => rg_mach (m := m.toInt.toNat) (by omega) hr
    have base : InvN (if N (1106 + 60 * m.toInt.toNat + 11) = l then N else flN N (1106 + 60 * m.toInt.toNat + 36) 16 0) := by
      by_cases e : N (1106 + 60 * m.toInt.toNat + 11) = l
      · rw [if_pos e]; exact hI
      · rw [if_neg e]
        refine inv_fl hI 16 (fun i hi => ?_) (by omega) (by omega)
        rw [show 1106 + 60 * m.toInt.toNat + 36 + i = 1106 + 60 * m.toInt.toNat + (36 + i) from by omega, R (36 + i) (by omega)]
        have : rgM (36 + i) = (-2147483648, 2147483647) := by grind [rgM]
        rw [this]
        exact i_any _
    show InvN (guessN _ l s _)
    unfold guessN
    refine inv_up (inv_up base (by omega) (by omega) ?_) (by omega) (by omega) ?_
    · rw [R 11 (by decide)]; exact k.2.1
    · rw [R 12 (by decide)]; exact k.2.2
  · rw [if_neg k]; exact hI
-- erase, stand, sure, difference
def spErase (N : Nat → Int32) : Int32 × (Nat → Int32) := (N 4217, upN N 4217 0)
def spStand (N : Nat → Int32) : Int32 × (Nat → Int32) := (N 4215, upN N 4215 0)
abbrev okSr (v1 v2 : Int32) : Prop := okB v1 2 1000 ∧ okB v2 0 10000
def spSure (v1 v2 : Int32) (N : Nat → Int32) : Int32 × (Nat → Int32) := if okSr v1 v2 then (1, upSure N v1 v2) else (-2, N)
theorem mm_erase {M : Mem} {q : Int32 → Mem → Prop} (h : PQ (spErase (M.1 136)) M q) : w_X12_erase M q := m_erase h
theorem cc_erase {M : Mem} {N : Nat → Int32} {q : Int32 → Mem → Prop} (hR : Rep 1 N M.1) (h : CQ (spErase N) M q) : w_X11_erase M q := c_erase hR h
theorem ii_erase {N : Nat → Int32} (hI : InvN N) : InvN (spErase N).2 := inv_up hI (by decide) (by decide) (by decide)
theorem mm_stand {M : Mem} {q : Int32 → Mem → Prop} (h : PQ (spStand (M.1 136)) M q) : w_X12_stand M q := m_stand h
theorem cc_stand {M : Mem} {N : Nat → Int32} {q : Int32 → Mem → Prop} (hR : Rep 1 N M.1) (h : CQ (spStand N) M q) : w_X11_stand M q := c_stand hR h
theorem ii_stand {N : Nat → Int32} (hI : InvN N) : InvN (spStand N).2 := inv_up hI (by decide) (by decide) (by decide)
theorem mm_sure {v1 v2 : Int32} {M : Mem} {q : Int32 → Mem → Prop} (h : PQ (spSure v1 v2 (M.1 136)) M q) : w_X12_sure v1 v2 M q := by
  unfold spSure at h
  refine m_sure (fun k => ?_) (fun k => ?_)
  · rw [if_pos (show okSr v1 v2 from k)] at h; exact h
  · rw [if_neg (show ¬ okSr v1 v2 from k)] at h; exact mq_0 h
theorem cc_sure {v1 v2 : Int32} {M : Mem} {N : Nat → Int32} {q : Int32 → Mem → Prop} (hR : Rep 1 N M.1) (h : CQ (spSure v1 v2 N) M q) : w_X11_sure v1 v2 M q := by
  unfold spSure at h
  refine c_sure hR (fun k => ?_) (fun k => ?_)
  · rw [if_pos (show okSr v1 v2 from k)] at h; exact h
  · rw [if_neg (show ¬ okSr v1 v2 from k)] at h; exact cq_0 hR h
theorem inv_k0 {N : Nat → Int32} (hI : InvN N) : InvN (upN N 4216 0) := by
  refine ⟨fun i hi => ?_, fun l hl => (okL_up (by omega)).mpr (hI.2.1 l hl), fun c hc => (okL_up (by omega)).mpr (hI.2.2.1 c hc), fun p hp => ?_, fun i hi hlt => ?_⟩
  · by_cases e : i = 4216
    · subst e
      rw [upN_s]
      decide
    · rw [upN_o e]; exact hI.1 i hi
  · rw [upN_o (by omega), upN_o (by omega)]
    exact hI.2.2.2.1 p hp
  · rw [upN_s] at hlt
    have f0 : (0 : Int32).toInt = 0 := rfl
    omega
theorem ii_sure {v1 v2 : Int32} {N : Nat → Int32} (hI : InvN N) : InvN (spSure v1 v2 N).2 := by
  unfold spSure
  by_cases k : okSr v1 v2
  · rw [if_pos k]
    exact inv_k0 (inv_up (inv_up hI (by decide) (by decide) k.1) (by decide) (by decide) k.2)
  · rw [if_neg k]; exact hI
def spDif (v : Int32) (N : Nat → Int32) : Int32 × (Nat → Int32) := (spDiff N v, N)
theorem mm_dif {v : Int32} {M : Mem} {q : Int32 → Mem → Prop} (hI : InvN (M.1 136)) (h : PQ (spDif v (M.1 136)) M q) : w_X12_difference v M q := m_difference (hI.1 4215 (by decide)) (mq_0 h)
theorem cc_dif {v : Int32} {M : Mem} {N : Nat → Int32} {q : Int32 → Mem → Prop} (hR : Rep 1 N M.1) (hI : InvN N) (h : CQ (spDif v N) M q) : w_X11_difference v M q := c_difference hR (hI.1 4215 (by decide)) (cq_0 hR h)
theorem ii_dif {v : Int32} {N : Nat → Int32} (hI : InvN N) : InvN (spDif v N).2 := hI

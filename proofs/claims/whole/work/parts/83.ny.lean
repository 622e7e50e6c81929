/-! answer in the model -/
theorem m_ans {M : Mem} {q : Int32 → Mem → Prop} (hI : InvN (M.1 136)) (h : ∀ M', FM M M' → q (spAns (M.1 136)) M') : w_X12_answer M q := by
  have i6 : 0 ≤ (M.1 136 4216).toInt ∧ (M.1 136 4216).toInt ≤ 8 := hI.1 4216 (by decide)
  have i5 : 0 ≤ (M.1 136 4215).toInt ∧ (M.1 136 4215).toInt ≤ 16 := hI.1 4215 (by decide)
  have i9 : 0 ≤ (M.1 136 4219).toInt ∧ (M.1 136 4219).toInt ≤ 10000 := hI.1 4219 (by decide)
  unfold w_X12_answer
  rw [e_many6]
  refine ⟨fun nz => ?_, fun k => ?_⟩
  · have n0 : ¬ (M.1 136 4216).toInt = 0 := fun x => nz (eq_i.mpr x)
    have iL := last_rg hI nz
    generalize hN : M.1 136 = N at *
    have sp : spAns N = anF N (N 4216).toInt.toNat 0 := by unfold spAns; rw [if_neg nz]
    rw [sp] at h
    have tail : ∀ M1, FM M M1 → (∀ M', FM M M' → q (anT N) M') → w_X12_answer_b105 (N 4216) M1 q := by
      intro M1 F1 hT
      have e1 : M1.1 136 = N := by rw [F1.n, hN]
      have E := ix_s (ix_a (e := (4162 : Int32)) (a := 4162) rfl (ix_n i6.1) (by omega)) (w := 1) (i := 1) rfl (by omega)
      have eL : N (4162 + (N 4216).toInt.toNat - 1) = lastL N := by
        unfold lastL
        rw [if_neg nz]
        congr 1
        omega
      unfold w_X12_answer_b105
      rw [i_of E, e1, eL]
      unfold anT at hT
      refine ⟨vp_of E (by omega), fun x16 e16 => ?_⟩
      subst e16
      rw [e_many5, e1, le_i]
      refine ⟨fun z M20 e20 => ?_, fun z => ?_⟩
      · rw [if_neg (by omega)] at hT
        have F20 : FrB 135 12 145 M1 M20 := by rw [e20]; exact frb_s
        have H20 : Hd 135 12 145 0 (bgF (difs N) 0 0) M20 := ⟨by rw [e20, uI_s]; rfl, fun i hi => absurd hi (by omega)⟩
        clear e20
        unfold w_X12_answer_l136
        refine lfp_for (i0 := 0) (n := (lastL N).toInt.toNat) (fun (i : Nat) (t : Int32 × Mem) => t.1.toInt = (i : Int) ∧ Hd 135 12 145 i (bgF (difs N) 0 i) t.2 ∧ FrB 135 12 145 M1 t.2) ?_ (by omega) ⟨rfl, H20, F20⟩
        clear H20 F20
        intro P i st hi hJ hP
        obtain ⟨a, M2⟩ := st
        obtain ⟨ha0, hH0, hF0⟩ := hJ
        have ha : a.toInt = (i : Int) := ha0
        have hH : Hd 135 12 145 i (bgF (difs N) 0 i) M2 := hH0
        have hF : FrB 135 12 145 M1 M2 := hF0
        clear ha0 hH0 hF0
        have F2 : FM M M2 := F1.tr hF.m
        have e2 : M2.1 136 = N := by rw [F2.n, hN]
        unfold w_X12_answer_l136F
        dsimp only
        rw [le_i, ha]
        refine ⟨fun z2 => ?_, fun z2 => ?_⟩
        · have ei : i = (lastL N).toInt.toNat := by omega
          subst ei
          refine e_middle12 hH (by omega) (by omega) ?_
          rw [e_many9, e_many9, e2, e_in, Int32.toInt_toInt64, Int32.toInt_toInt64, ti_neg (by omega), tf_z, Classical.not_not]
          have hh := hT M2 F2
          exact ⟨fun k1 => by rw [if_neg k1] at hh; exact hh, fun k1 => by rw [if_pos k1] at hh; exact hh⟩
        · have Ed := ix_a (e := (4146 : Int32)) (a := 4146) rfl ha (by omega)
          rw [i_of Ed, e2, show N (4146 + i) = difs N (0 + i) from by unfold difs; rw [Nat.zero_add]]
          refine ⟨vp_of Ed (by omega), s_sortIn hH (by omega) (fun M8 h8 f8 x ex => ?_)⟩
          refine hP (x, M8) (by omega) ⟨?_, h8, hF.tr f8⟩
          show x.toInt = ((i + 1 : Nat) : Int)
          rw [ex]; exact ix_a ha rfl (by omega)
      · rw [if_pos (by omega)] at hT
        exact hT M1 F1
    unfold w_X12_answer_l15
    refine lfp_for (i0 := 0) (n := (N 4216).toInt.toNat) (fun (i : Nat) (t : Int32 × Mem) => t.1.toInt = (i : Int) ∧ t.2 = M ∧ ∀ M', FM M M' → q (anF N ((N 4216).toInt.toNat - i) i) M') ?_ (by omega) ⟨rfl, rfl, h⟩
    intro P i st hi hJ hP
    obtain ⟨a, M1⟩ := st
    obtain ⟨ha0, hM0, hA0⟩ := hJ
    have ha : a.toInt = (i : Int) := ha0
    have hM : M1 = M := hM0
    have hA : ∀ M', FM M M' → q (anF N ((N 4216).toInt.toNat - i) i) M' := hA0
    clear ha0 hM0 hA0
    subst hM
    unfold w_X12_answer_l15F
    dsimp only
    rw [le_i, ha, e_many5, hN]
    refine ⟨fun z => tail M1 (FM.rf M1) (by rw [show (N 4216).toInt.toNat - i = 0 from by omega] at hA; exact hA), fun z => ?_⟩
    have hi8 : i < 8 := by omega
    have lk := lk_rg hI hi8 (by omega)
    have E := ix_a (e := (4162 : Int32)) (a := 4162) rfl ha (by omega)
    rw [show (N 4216).toInt.toNat - i = ((N 4216).toInt.toNat - (i + 1)) + 1 from by omega, anF] at hA
    rw [i_of E, lt_i]
    refine ⟨vp_of E (by omega), fun k => tail M1 (FM.rf M1) (by rw [if_pos k] at hA; exact hA), fun k => ⟨vp_of E (by omega), fun x27 e27 => ?_⟩⟩
    rw [if_neg k] at hA
    subst e27
    rw [e_many8, hN]
    intro x30 e30
    have assoc : ∀ y : Int32, y.toInt64 * x30 = y.toInt64 * (N 4218).toInt64 * (N 4216).toInt64 := fun y => by rw [e30, Int64.mul_assoc]
    refine s_oddsOf (by rw [hN]; exact hI) (ix_n (by omega)) (by omega) (fun x hx => ?_)
    rw [hN] at hx
    rw [show x = wayI N (N (4162 + i)) 0 from i_nat hx, assoc]
    refine ⟨fun o1 => s_oddsOf (by rw [hN]; exact hI) (ix_n (by omega)) (by omega) (fun y hy => ?_), fun o1 => ?_⟩
    · rw [hN] at hy
      rw [show y = wayI N (N (4162 + i)) 1 from i_nat hy, assoc]
      rw [if_pos o1] at hA
      refine ⟨fun o2 u eu => ?_, fun o2 => ?_⟩
      · refine hP (u, M1) (by omega) ⟨?_, rfl, by rw [if_pos o2] at hA; exact hA⟩
        show u.toInt = ((i + 1 : Nat) : Int)
        rw [eu]; exact ix_a ha rfl (by omega)
      · rw [if_neg o2] at hA
        exact hA M1 (FM.rf M1)
    · rw [if_neg o1] at hA
      exact hA M1 (FM.rf M1)
  · have := h M (FM.rf M)
    unfold spAns at this
    rw [if_pos k] at this
    exact this

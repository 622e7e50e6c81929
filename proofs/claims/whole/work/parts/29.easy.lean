-- stand
theorem m_stand {M : Mem} {q : Int32 → Mem → Prop} (h : ∀ M', M'.1 136 = upN (M.1 136) 4215 0 → FrM M M' → q (M.1 136 4215) M') : w_X12_stand M q := by
  unfold w_X12_stand
  refine s_many (k := 5) rfl (by decide) ?_
  intro M3 e
  subst e
  exact h _ now_uI (frM_uI (by decide) (by decide) (by decide))
theorem c_stand {M : Mem} {N : Nat → Int32} {q : Int32 → Mem → Prop} (hR : Rep 1 N M.1) (h : ∀ M', Rep 1 (upN N 4215 0) M'.1 → FrC M M' → q (N 4215) M') : w_X11_stand M q := by
  unfold w_X11_stand
  intro x e M2 e2
  subst e2
  rw [e, rep_at hR (j := 4215) (c := 11) (p := 1) (by decide) rfl ⟨by decide, by decide⟩]
  exact h _ (rep_up hR (j := 4215) (c := 11) (p := 1) (by decide) rfl ⟨by decide, by decide⟩) (frC_uI (by decide) (by decide))
-- sure
def okSure (v1 v2 : Int32) : Prop := (2 ≤ v1.toInt ∧ v1.toInt ≤ 1000) ∧ 0 ≤ v2.toInt ∧ v2.toInt ≤ 10000
def upSure (N : Nat → Int32) (v1 v2 : Int32) : Nat → Int32 := upN (upN (upN N 4218 v1) 4219 v2) 4216 0
theorem m_sure {v1 v2 : Int32} {M : Mem} {q : Int32 → Mem → Prop} (h1 : okSure v1 v2 → ∀ M', M'.1 136 = upSure (M.1 136) v1 v2 → FrM M M' → q 1 M') (h2 : ¬ okSure v1 v2 → q (-2) M) : w_X12_sure v1 v2 M q := by
  unfold w_X12_sure
  refine s_in ⟨fun z => h2 (fun k => tf_z.mp z k.1), fun z => s_in ⟨fun z2 M7 e7 M8 e8 M9 e9 => ?_, fun z2 => h2 (fun k => tf_z.mp z2 k.2)⟩⟩
  subst e7; subst e8; subst e9
  have k1 := Classical.byContradiction (fun n => z (tf_z.mpr n))
  have k2 := Classical.byContradiction (fun n => z2 (tf_z.mpr n))
  refine h1 ⟨k1, k2⟩ _ ?_ (((frM_uI (by decide) (by decide) (by decide)).tr (frM_uI (by decide) (by decide) (by decide))).tr (frM_uI (by decide) (by decide) (by decide)))
  rw [now_uI, now_uI, now_uI]
  rfl
theorem c_sure {v1 v2 : Int32} {M : Mem} {N : Nat → Int32} {q : Int32 → Mem → Prop} (hR : Rep 1 N M.1) (h1 : okSure v1 v2 → ∀ M', Rep 1 (upSure N v1 v2) M'.1 → FrC M M' → q 1 M') (h2 : ¬ okSure v1 v2 → q (-2) M) : w_X11_sure v1 v2 M q := by
  have a1 : (2 : Int32).toInt = 2 := rfl
  have a2 : (1000 : Int32).toInt = 1000 := rfl
  have a3 : (0 : Int32).toInt = 0 := rfl
  have a4 : (10000 : Int32).toInt = 10000 := rfl
  unfold w_X11_sure
  refine s_isBeyond ⟨fun z => h2 (fun k => z (tf0 (by have := k.1; omega))), fun z => s_isBeyond ⟨fun z2 M7 e7 M8 e8 M9 e9 => ?_, fun z2 => h2 (fun k => z2 (tf0 (by have := k.2; omega)))⟩⟩
  subst e7; subst e8; subst e9
  have k1 := tf_z.mp z
  have k2 := tf_z.mp z2
  refine h1 ⟨by omega, by omega⟩ _ ?_ (((frC_uI (by decide) (by decide)).tr (frC_uI (by decide) (by decide))).tr (frC_uI (by decide) (by decide)))
  exact rep_up (j := 4216) (c := 11) (p := 3) (rep_up (j := 4219) (c := 11) (p := 5) (rep_up (j := 4218) (c := 11) (p := 4) hR (by decide) rfl ⟨by decide, by decide⟩) (by decide) rfl ⟨by decide, by decide⟩) (by decide) rfl ⟨by decide, by decide⟩
-- difference
def spDiff (N : Nat → Int32) (v : Int32) : Int32 := if v.toInt < 0 then -2000000000 else if (N 4215).toInt ≤ v.toInt then -1000000000 else N (4146 + v.toInt.toNat)
theorem m_difference {v : Int32} {M : Mem} {q : Int32 → Mem → Prop} (hI : 0 ≤ (M.1 136 4215).toInt ∧ (M.1 136 4215).toInt ≤ 16) (h : q (spDiff (M.1 136) v) M) : w_X12_difference v M q := by
  have a0 : (0 : Int32).toInt = 0 := rfl
  have a1 : (4146 : Int32).toInt = 4146 := rfl
  unfold w_X12_difference
  unfold spDiff at h
  refine ⟨fun z => s_many (k := 5) rfl (by decide) ⟨fun z2 => ?_, fun z2 => ?_⟩, fun z => ?_⟩
  · rw [le_i] at z z2
    rw [if_neg (by omega), if_pos (by omega)] at h
    exact h
  · rw [le_i] at z z2
    have z2 : ¬ (M.1 136 4215).toInt ≤ v.toInt := z2
    rw [if_neg (by omega), if_neg (by omega)] at h
    have e : ((4146 : Int32) + v).toInt = ((4146 + v.toInt.toNat : Nat) : Int) := by
      rw [ti_add (by omega) (by omega)]
      omega
    refine ⟨vp_i.mpr ⟨by omega, by omega⟩, ?_⟩
    rw [i_of e]
    exact h
  · rw [le_i] at z
    rw [if_pos (by omega)] at h
    exact h
theorem c_difference {v : Int32} {M : Mem} {N : Nat → Int32} {q : Int32 → Mem → Prop} (hR : Rep 1 N M.1) (hI : 0 ≤ (N 4215).toInt ∧ (N 4215).toInt ≤ 16) (h : q (spDiff N v) M) : w_X11_difference v M q := by
  have a0 : (0 : Int32).toInt = 0 := rfl
  have es : M.1 12 1 = N 4215 := rep_at hR (j := 4215) (c := 11) (p := 1) (by decide) rfl ⟨by decide, by decide⟩
  unfold w_X11_difference
  unfold spDiff at h
  rw [es]
  refine ⟨fun z => s_isOut ⟨fun z2 => ?_, fun z2 => ?_⟩, fun z => ?_⟩
  · rw [le_i] at z
    have k := tf_z.mp z2
    rw [if_neg (by omega), if_neg (by omega)] at h
    refine ⟨vp_i.mpr ⟨by omega, by omega⟩, ?_⟩
    have ed : M.1 13 v.toInt.toNat = N (4146 + v.toInt.toNat) := by
      refine rep_at hR (j := 4146 + v.toInt.toNat) (c := 12) (p := v.toInt.toNat) (by omega) ?_ ⟨by omega, by omega⟩
      have hlt : v.toInt.toNat < 16 := by omega
      generalize v.toInt.toNat = i at hlt
      exact (by decide +kernel : ∀ i, i < 16 → loc (4146 + i) = some (12, i)) i hlt
    rw [tn_eq, ed]
    exact h
  · rw [le_i] at z
    have k := Classical.byContradiction (fun n => z2 (tf_z.mpr n))
    rw [if_neg (by omega), if_pos (by omega)] at h
    exact h
  · rw [le_i] at z
    rw [if_pos (by omega)] at h
    exact h
-- write
def okChar (v : Int32) : Prop := 0 ≤ v.toInt ∧ v.toInt ≤ 127
def upWrite (N : Nat → Int32) (v : Int32) : Nat → Int32 := upN (upN N (4170 + (N 4217).toInt.toNat) v) 4217 (N 4217 + 1)
theorem m_write {v : Int32} {M : Mem} {q : Int32 → Mem → Prop} (hI : 0 ≤ (M.1 136 4217).toInt ∧ (M.1 136 4217).toInt ≤ 40) (h1 : okChar v → (M.1 136 4217).toInt < 40 → ∀ M', M'.1 136 = upWrite (M.1 136) v → FrM M M' → q (M.1 136 4217 + 1) M') (h2 : okChar v → ¬ (M.1 136 4217).toInt < 40 → q (-4) M) (h3 : ¬ okChar v → q (-2) M) : w_X12_write v M q := by
  have a1 : (4170 : Int32).toInt = 4170 := rfl
  have a2 : (40 : Int32).toInt = 40 := rfl
  unfold w_X12_write
  refine s_in ⟨fun z => ?_, fun z => h3 (fun k => tf_z.mp z k)⟩
  have kc : okChar v := Classical.byContradiction (fun n => z (tf_z.mpr n))
  refine s_many (k := 7) rfl (by decide) ⟨fun z2 => s_many (k := 7) rfl (by decide) ?_, fun z2 => h2 kc (by rw [show M.1 136 4217 = 40 from z2]; decide)⟩
  have z2 : ¬ (M.1 136 4217).toInt = 40 := fun k => z2 (eq_i.mpr (k.trans a2.symm))
  have e : ((4170 : Int32) + M.1 136 4217).toInt = ((4170 + (M.1 136 4217).toInt.toNat : Nat) : Int) := by
    rw [ti_add (by omega) (by omega)]
    omega
  refine ⟨vp_i.mpr ⟨by show 0 ≤ ((4170 : Int32) + M.1 136 4217).toInt; omega, by show ((4170 : Int32) + M.1 136 4217).toInt < _; omega⟩, fun M10 e10 M11 e11 => ?_⟩
  have e10 : M10 = uI M 136 (4170 + (M.1 136 4217).toInt.toNat) v := by rw [e10]; show uI M 136 (((4170 : Int32) + M.1 136 4217)).toNatClampNeg v = _; rw [i_of e]
  have er : M10.1 136 4217 = M.1 136 4217 := by
    rw [e10]
    show (if 136 = 136 ∧ 4217 = 4170 + (M.1 136 4217).toInt.toNat then v else M.1 136 4217) = _
    rw [if_neg (by omega)]
  refine s_many (k := 7) rfl (by decide) ?_
  have ev : M11.1 136 (4210 + 7) = M.1 136 4217 + 1 := by rw [e11, er]; simp [uI]
  rw [ev]
  refine h1 kc (by omega) M11 ?_ ?_
  · rw [e11, now_uI, er, e10, now_uI]; rfl
  · rw [e11, e10]; exact (frM_uI (by decide) (by decide) (by decide)).tr (frM_uI (by decide) (by decide) (by decide))

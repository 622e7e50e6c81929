/-! a store taken from another -/
theorem s_take {o v : Nat} {M : Mem} {q : Mem → Prop} (hd : o + 32 ≤ v ∨ v + 32 ≤ o) (hz : ∀ m, m < 4 → bz (M.1 (v + (16 + 4 * m)) 11)) (hq : ∀ M', Cp o v M M' spl3 → q M') : w_X8_takeFrom o v M q := by
  have f4 : (4 : Int32).toInt = 4 := rfl
  unfold w_X8_takeFrom
  refine s_stake (cp_0 hd) rfl rfl (fun M13 h13 => ?_)
  unfold w_X8_takeFrom_l13
  refine lfp_for (i0 := 0) (n := 4) (fun (i : Nat) (s : Int32 × Mem) => s.1.toInt = (i : Int) ∧ Cp o v M s.2 (spl2 i)) ?_ (by omega) ⟨rfl, cp_w h13 (fun c p _ x => ?_)⟩
  · intro P i st hi hJ hP
    obtain ⟨a, M1⟩ := st
    obtain ⟨ha, hC⟩ := hJ
    have ha : a.toInt = i := ha
    have hC : Cp o v M M1 (spl2 i) := hC
    unfold w_X8_takeFrom_l13F
    dsimp only
    refine ⟨fun z => ?_, fun z => ?_⟩
    · rw [le_i, f4] at z
      have e4 : i = 4 := by omega
      subst e4
      unfold w_X5_takeFrom
      intro M1 e1 M2 e2 M3 e3 M4 e4 M5 e5 M6 e6 M7 e7 M8 e8 M9 e9 M10 e10
      have h1 := cp_c (c := 12) (n := 16) hC (a := o + 11 + 1) (b := v + 11 + 1) (by omega) (by omega) (by omega)
      rw [← e1] at h1
      have h2 := cp_u (c := 11) (p := 1) h1 rfl rfl (by omega)
      rw [← e2] at h2
      have h3 := cp_c (c := 13) (n := 8) h2 (a := o + 11 + 2) (b := v + 11 + 2) (by omega) (by omega) (by omega)
      rw [← e3] at h3
      have h4 := cp_u (c := 11) (p := 3) h3 rfl rfl (by omega)
      rw [← e4] at h4
      have h5 := cp_u (c := 11) (p := 4) h4 rfl rfl (by omega)
      rw [← e5] at h5
      have h6 := cp_u (c := 11) (p := 5) h5 rfl rfl (by omega)
      rw [← e6] at h6
      have h7 := cp_c (c := 14) (n := 2800) h6 rfl rfl (by omega)
      rw [← e7] at h7
      have h8 := cp_u (c := 0) (p := 4) h7 (a := o) (b := v) rfl rfl (by omega)
      rw [← e8] at h8
      have h9 := cp_c (c := 15) (n := 40) h8 rfl rfl (by omega)
      rw [← e9] at h9
      have h10 := cp_u (c := 0) (p := 6) h9 (a := o) (b := v) rfl rfl (by omega)
      rw [← e10] at h10
      refine hq M10 (cp_w h10 (fun c p _ x => ?_))
      clear h1 h2 h3 h4 h5 h6 h7 h8 h9 h10 e1 e2 e3 e4 e5 e6 e7 e8 e9 e10
      rcases x with x | ⟨y, z⟩ | ⟨y, z⟩ | y | y | y | y
      · exact Or.inl (Or.inl (Or.inl (Or.inl (Or.inl (Or.inl (Or.inl (Or.inl (Or.inl (Or.inl x)))))))))
      · rcases z with z | z <;> simp [y, z]
      · rcases z with z | z | z | z <;> simp [y, z]
      all_goals simp [y]
    · rw [le_i, f4] at z
      have hi4 : i < 4 := by omega
      refine ⟨vp_of ha (by omega), vp_of ha (by omega), ?_⟩
      rw [i_of ha]
      refine s_mtake (c0 := 16 + 4 * i) hC (by omega) (by omega) (by omega) (hz i hi4) (fun M10 h10 x12 e12 => ?_)
      refine hP (x12, M10) hi4 ⟨?_, ?_⟩
      · show x12.toInt = ((i + 1 : Nat) : Int)
        rw [e12]; exact ix_a ha rfl (by omega)
      · refine cp_w h10 (fun c p hc x => ?_)
        rcases x with x | ⟨x1, x2, x3⟩
        · exact Or.inl (Or.inl x)
        · by_cases k : c < 16 + 4 * i
          · exact Or.inl (Or.inr ⟨x1, k, x3⟩)
          · refine Or.inr ?_
            rcases x3 with ⟨y, z⟩ | ⟨y, z⟩ | ⟨y, z⟩ | ⟨y, z⟩
            · exact Or.inl ⟨by omega, z⟩
            · exact Or.inr (Or.inl ⟨by omega, z⟩)
            · exact Or.inr (Or.inr (Or.inl ⟨by omega, z⟩))
            · exact Or.inr (Or.inr (Or.inr ⟨by omega, z⟩))
  · rcases x with x | x
    · exact x
    · exact absurd x.2.1 (by omega)
theorem rep_cg {k : Nat} {N N' : Nat → Int32} {I : Nat → Nat → Int32} (h : ∀ t, t < 4230 → N' t = N t) (hR : Rep k N I) : Rep k N' I := by
  intro j hj c p hl
  rw [hR j hj c p hl]
  exact nv_congr (h j hj).symm (fun _ => (h _ (by omega)).symm) (fun _ _ _ => (h _ (by omega)).symm)
theorem inv_cg {N N' : Nat → Int32} (h : ∀ t, t < 4230 → N' t = N t) (hI : InvN N) : InvN N' := by
  refine ⟨fun j hj => by rw [h j hj]; exact hI.1 j hj, fun l hl => ?_, fun c hc => ?_, fun p hp hle => ?_, fun i hi hlt => ?_⟩
  · unfold okL
    rw [h _ (by omega), h _ (by omega), h _ (by omega), h _ (by omega)]
    exact hI.2.1 l hl
  · unfold okL
    rw [h _ (by omega), h _ (by omega), h _ (by omega), h _ (by omega)]
    exact hI.2.2.1 c hc
  · rw [h _ (by omega)] at hle
    rw [h _ (by omega)]
    exact hI.2.2.2.1 p hp hle
  · rw [h _ (by omega)] at hlt
    rw [h _ (by omega)]
    exact hI.2.2.2.2 i hi hlt
theorem rep_fr {k : Nat} {N : Nat → Int32} {M M' : Mem} (h : ∀ a, k ≤ a → a < k + 32 → M'.1 a = M.1 a) (hR : Rep k N M.1) : Rep k N M'.1 := by
  intro j hj c p hl
  have hb := loc_back j hj
  rw [hl] at hb
  simp at hb
  rw [h (k + c) (by omega) (by omega)]
  exact hR j hj c p hl
/-- the model's kept row number i -/
def Kp (M : Mem) (i : Nat) : Nat → Int32 := fun j => M.1 137 (4230 * i + j)
/-- class and model stand side by side -/
def Rel (M : Mem) : Prop := Rep 1 (M.1 136) M.1 ∧ InvN (M.1 136) ∧ (∀ i, i < 2 → M.1 34 i = M.1 138 i) ∧ ∀ i, i < 2 → ¬ M.1 138 i = 0 → Rep (71 + 32 * i) (Kp M i) M.1 ∧ InvN (Kp M i)
theorem rel_next {M M1 M2 : Mem} {N' : Nat → Int32} (h : Rel M) (hc : Rep 1 N' M1.1) (fc : FrC M M1) (hm : M2.1 136 = N') (fm : FrM M1 M2) (hI : InvN N') : Rel M2 := by
  obtain ⟨_, _, h3, h4⟩ := h
  subst hm
  refine ⟨rep_fr (fun a _ _ => fm.1 a (by omega)) hc, hI, fun i hi => ?_, fun i hi hk => ?_⟩
  · rw [fm.1 34 (by decide), fm.2.2.2.2, fc.2.2, fc.1 138 (by decide) (by decide)]
    exact h3 i hi
  · have e8 : M2.1 138 = M.1 138 := by rw [fm.2.2.2.2, fc.1 138 (by decide) (by decide)]
    have e7 : M2.1 137 = M.1 137 := by rw [fm.2.2.2.1, fc.1 137 (by decide) (by decide)]
    rw [e8] at hk
    have ek : Kp M2 i = Kp M i := by unfold Kp; rw [e7]
    rw [ek]
    exact ⟨rep_fr (fun a h1 h2 => by rw [fm.1 a (by omega), fc.1 a (by omega) (by omega)]) (h4 i hi hk).1, (h4 i hi hk).2⟩

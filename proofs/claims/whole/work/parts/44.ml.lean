/-! copying a store -/
def Cp (o v : Nat) (M0 M : Mem) (S : Nat → Nat → Prop) : Prop := (o + 32 ≤ v ∨ v + 32 ≤ o) ∧ (∀ a b, (a < o ∨ o + 32 ≤ a) → M.1 a b = M0.1 a b) ∧ M.2.1 = M0.2.1 ∧ M.2.2 = M0.2.2 ∧ ∀ c p, c < 32 → S c p → M.1 (o + c) p = M0.1 (v + c) p
theorem cp_0 {o v : Nat} {M : Mem} (h : o + 32 ≤ v ∨ v + 32 ≤ o) : Cp o v M M (fun _ _ => False) := ⟨h, fun _ _ _ => rfl, rfl, rfl, fun _ _ _ x => x.elim⟩
theorem cp_u {o v a b c p : Nat} {M0 M : Mem} {S : Nat → Nat → Prop} (h : Cp o v M0 M S) (ha : a = o + c) (hb : b = v + c) (hc : c < 32) : Cp o v M0 (uI M a p (M.1 b p)) (fun c' p' => S c' p' ∨ (c' = c ∧ p' = p)) := by
  obtain ⟨hd, h1, h2, h3, h4⟩ := h
  subst ha
  subst hb
  refine ⟨hd, fun a b hab => ?_, h2, h3, fun c' p' hc' hS => ?_⟩
  · rw [uI_k (by omega)]
    exact h1 a b hab
  · by_cases e : c' = c ∧ p' = p
    · obtain ⟨rfl, rfl⟩ := e
      rw [uI_s]
      exact h1 _ _ (by omega)
    · have hS : S c' p' := by
        rcases hS with x | x
        · exact x
        · exact absurd x e
      show (if o + c' = o + c ∧ p' = p then _ else M.1 (o + c') p') = _
      rw [if_neg (by omega)]
      exact h4 c' p' hc' hS
theorem cp_c {o v a b c n : Nat} {M0 M : Mem} {S : Nat → Nat → Prop} (h : Cp o v M0 M S) (ha : a = o + c) (hb : b = v + c) (hc : c < 32) : Cp o v M0 (cpI M b a 0 0 n) (fun c' p' => S c' p' ∨ (c' = c ∧ p' < n)) := by
  obtain ⟨hd, h1, h2, h3, h4⟩ := h
  subst ha
  subst hb
  refine ⟨hd, fun a b hab => ?_, h2, h3, fun c' p' hc' hS => ?_⟩
  · show (if a = o + c then _ else M.1 a b) = _
    rw [if_neg (by omega)]
    exact h1 a b hab
  · show (if o + c' = o + c then va_cpy (M.1 (v + c)) (M.1 (o + c)) 0 0 n p' else M.1 (o + c') p') = _
    by_cases e : c' = c
    · subst e
      rw [if_pos rfl]
      unfold va_cpy
      by_cases k : p' < n
      · rw [if_pos (by omega), show 0 + (p' - 0) = p' from by omega]
        exact h1 _ _ (by omega)
      · rw [if_neg (by omega)]
        refine h4 c' p' hc' ?_
        rcases hS with x | x
        · exact x
        · exact absurd x.2 k
    · rw [if_neg (by omega)]
      refine h4 c' p' hc' ?_
      rcases hS with x | x
      · exact x
      · exact absurd x.1 e
theorem cp_w {o v : Nat} {M0 M : Mem} {S S' : Nat → Nat → Prop} (h : Cp o v M0 M S) (hs : ∀ c p, c < 32 → S' c p → S c p) : Cp o v M0 M S' := ⟨h.1, h.2.1, h.2.2.1, h.2.2.2.1, fun c p hc x => h.2.2.2.2 c p hc (hs c p hc x)⟩
theorem cp_s {o v : Nat} {M0 M : Mem} {S : Nat → Nat → Prop} (h : Cp o v M0 M S) (c p : Nat) (hc : c < 32) : M.1 (v + c) p = M0.1 (v + c) p := h.2.1 _ _ (by have := h.1; omega)
abbrev mpl (c0 c p : Nat) : Prop := (c = c0 ∧ (p = 1 ∨ p = 2 ∨ p = 3 ∨ p = 5 ∨ p = 6 ∨ p = 8 ∨ p = 9 ∨ p = 10 ∨ p = 11)) ∨ (c = c0 + 1 ∧ p < 8) ∨ (c = c0 + 2 ∧ p < 16) ∨ (c = c0 + 3 ∧ p < 16)
theorem s_mtake {o v c0 a b : Nat} {M0 M : Mem} {S : Nat → Nat → Prop} {q : Mem → Prop} (h : Cp o v M0 M S) (ha : a = o + c0) (hb : b = v + c0) (hc : c0 + 3 < 32) (hz : bz (M0.1 (v + c0) 11)) (hq : ∀ M', Cp o v M0 M' (fun c p => S c p ∨ mpl c0 c p) → q M') : w_X3_takeFrom a b M q := by
  subst ha
  subst hb
  unfold w_X3_takeFrom
  intro M1 e1 M2 e2 M3 e3 M4 e4 M5 e5 M6 e6 M7 e7 M8 e8 M9 e9 M10 e10 M11 e11
  have h1 := cp_c (c := c0 + 1) (n := 8) h (a := o + c0 + 1) (b := v + c0 + 1) (by omega) (by omega) (by omega)
  rw [← e1] at h1
  have h2 := cp_u (c := c0) (p := 1) h1 rfl rfl (by omega)
  rw [← e2] at h2
  have h3 := cp_u (c := c0) (p := 2) h2 rfl rfl (by omega)
  rw [← e3] at h3
  have h4 := cp_u (c := c0) (p := 3) h3 rfl rfl (by omega)
  rw [← e4] at h4
  have h5 := cp_c (c := c0 + 2) (n := 16) h4 (a := o + c0 + 2) (b := v + c0 + 2) (by omega) (by omega) (by omega)
  rw [← e5] at h5
  have h6 := cp_u (c := c0) (p := 5) h5 rfl rfl (by omega)
  rw [← e6] at h6
  have h7 := cp_u (c := c0) (p := 6) h6 rfl rfl (by omega)
  rw [← e7] at h7
  have h8 := cp_c (c := c0 + 3) (n := 16) h7 (a := o + c0 + 3) (b := v + c0 + 3) (by omega) (by omega) (by omega)
  rw [← e8] at h8
  have h9 := cp_u (c := c0) (p := 8) h8 rfl rfl (by omega)
  rw [← e9] at h9
  have h10 := cp_u (c := c0) (p := 9) h9 rfl rfl (by omega)
  rw [← e10] at h10
  have h11 := cp_u (c := c0) (p := 10) h10 rfl rfl (by omega)
  rw [← e11] at h11
  refine ⟨by rw [cp_s h11 c0 11 (by omega)]; exact hz, fun M12 e12 => ?_⟩
  have h12 := cp_u (c := c0) (p := 11) h11 rfl rfl (by omega)
  rw [← e12] at h12
  refine hq M12 (cp_w h12 (fun c p _ x => ?_))
  rcases x with x | x
  · exact Or.inl (Or.inl (Or.inl (Or.inl (Or.inl (Or.inl (Or.inl (Or.inl (Or.inl (Or.inl (Or.inl (Or.inl x)))))))))))
  · clear h h1 h2 h3 h4 h5 h6 h7 h8 h9 h10 h11 h12
    rcases x with ⟨y, z⟩ | y | y | y
    · rcases z with z | z | z | z | z | z | z | z | z <;> simp [y, z]
    · simp [y]
    · simp [y]
    · simp [y]
abbrev spl1 (c p : Nat) : Prop := (c = 1 ∧ (p = 0 ∨ p = 3 ∨ p = 7 ∨ p = 10)) ∨ (c = 2 ∧ p < 6) ∨ (c = 3 ∧ p < 960) ∨ (c = 4 ∧ p < 10) ∨ (c = 5 ∧ p < 10) ∨ (c = 6 ∧ p < 40) ∨ (c = 7 ∧ p < 24) ∨ (c = 8 ∧ p < 24) ∨ (c = 9 ∧ p < 32)
theorem s_stake {o v a b : Nat} {M0 M : Mem} {q : Mem → Prop} {S : Nat → Nat → Prop} (h : Cp o v M0 M S) (ha : a = o + 1) (hb : b = v + 1) (hq : ∀ M', Cp o v M0 M' (fun c p => spl1 c p) → q M') : w_X6_takeFrom a b M q := by
  subst ha
  subst hb
  unfold w_X6_takeFrom
  intro M1 e1 M2 e2 M3 e3 M4 e4 M5 e5 M6 e6 M7 e7 M8 e8 M9 e9 M10 e10 M11 e11 M12 e12
  have h1 := cp_u (c := 1) (p := 0) h rfl rfl (by omega)
  rw [← e1] at h1
  have h2 := cp_c (c := 2) (n := 6) h1 (a := o + 1 + 1) (b := v + 1 + 1) (by omega) (by omega) (by omega)
  rw [← e2] at h2
  have h3 := cp_c (c := 3) (n := 960) h2 (a := o + 1 + 2) (b := v + 1 + 2) (by omega) (by omega) (by omega)
  rw [← e3] at h3
  have h4 := cp_u (c := 1) (p := 3) h3 rfl rfl (by omega)
  rw [← e4] at h4
  have h5 := cp_c (c := 4) (n := 10) h4 (a := o + 1 + 3) (b := v + 1 + 3) (by omega) (by omega) (by omega)
  rw [← e5] at h5
  have h6 := cp_c (c := 5) (n := 10) h5 (a := o + 1 + 4) (b := v + 1 + 4) (by omega) (by omega) (by omega)
  rw [← e6] at h6
  have h7 := cp_c (c := 6) (n := 40) h6 (a := o + 1 + 5) (b := v + 1 + 5) (by omega) (by omega) (by omega)
  rw [← e7] at h7
  have h8 := cp_u (c := 1) (p := 7) h7 rfl rfl (by omega)
  rw [← e8] at h8
  have h9 := cp_c (c := 7) (n := 24) h8 (a := o + 1 + 6) (b := v + 1 + 6) (by omega) (by omega) (by omega)
  rw [← e9] at h9
  have h10 := cp_c (c := 8) (n := 24) h9 (a := o + 1 + 7) (b := v + 1 + 7) (by omega) (by omega) (by omega)
  rw [← e10] at h10
  have h11 := cp_u (c := 1) (p := 10) h10 rfl rfl (by omega)
  rw [← e11] at h11
  have h12 := cp_c (c := 9) (n := 32) h11 (a := o + 1 + 8) (b := v + 1 + 8) (by omega) (by omega) (by omega)
  rw [← e12] at h12
  refine hq M12 (cp_w h12 (fun c p _ x => ?_))
  clear h h1 h2 h3 h4 h5 h6 h7 h8 h9 h10 h11 h12
  rcases x with ⟨y, z⟩ | y | y | y | y | y | y | y | y
  · rcases z with z | z | z | z <;> simp [y, z]
  all_goals simp [y]
abbrev spl2 (i c p : Nat) : Prop := spl1 c p ∨ (16 ≤ c ∧ c < 16 + 4 * i ∧ (((c - 16) % 4 = 0 ∧ (p = 1 ∨ p = 2 ∨ p = 3 ∨ p = 5 ∨ p = 6 ∨ p = 8 ∨ p = 9 ∨ p = 10 ∨ p = 11)) ∨ ((c - 16) % 4 = 1 ∧ p < 8) ∨ ((c - 16) % 4 = 2 ∧ p < 16) ∨ ((c - 16) % 4 = 3 ∧ p < 16)))
abbrev spl3 (c p : Nat) : Prop := spl2 4 c p ∨ (c = 0 ∧ (p = 4 ∨ p = 6)) ∨ (c = 11 ∧ (p = 1 ∨ p = 3 ∨ p = 4 ∨ p = 5)) ∨ (c = 12 ∧ p < 16) ∨ (c = 13 ∧ p < 8) ∨ (c = 14 ∧ p < 2800) ∨ (c = 15 ∧ p < 40)

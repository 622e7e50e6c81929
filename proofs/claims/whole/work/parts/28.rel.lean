/-! frames: what a call of the class, of the model leaves as it was -/
/-- a call of the class: the images and what is the model's stay -/
def FrC (M M' : Mem) : Prop := (∀ k, 71 ≤ k → k < 154 → M'.1 k = M.1 k) ∧ (∀ k, 71 ≤ k → M'.2.1 k = M.2.1 k) ∧ M'.1 34 = M.1 34
/-- a call of the model: the class's cells stay, and the kept rows -/
def FrM (M M' : Mem) : Prop := (∀ k, k < 135 → M'.1 k = M.1 k) ∧ (∀ k, k < 135 → M'.2.1 k = M.2.1 k) ∧ M'.2.2 = M.2.2 ∧ M'.1 137 = M.1 137 ∧ M'.1 138 = M.1 138
theorem FrM.rf (M : Mem) : FrM M M := ⟨fun _ _ => rfl, fun _ _ => rfl, rfl, rfl, rfl⟩
theorem FrM.tr {M M' M'' : Mem} (h : FrM M M') (h' : FrM M' M'') : FrM M M'' := ⟨fun k hk => (h'.1 k hk).trans (h.1 k hk), fun k hk => (h'.2.1 k hk).trans (h.2.1 k hk), h'.2.2.1.trans h.2.2.1, h'.2.2.2.1.trans h.2.2.2.1, h'.2.2.2.2.trans h.2.2.2.2⟩
theorem frM_uI {M : Mem} {k j : Nat} {v : Int32} (hk : 135 ≤ k) (h7 : k ≠ 137) (h8 : k ≠ 138) : FrM M (uI M k j v) := by
  have e : ∀ a, a ≠ k → (uI M k j v).1 a = M.1 a := fun a ha => by funext b; simp [uI, ha]
  exact ⟨fun a ha => e a (by omega), fun _ _ => rfl, rfl, e 137 (fun h => h7 h.symm), e 138 (fun h => h8 h.symm)⟩
theorem FrC.rf (M : Mem) : FrC M M := ⟨fun _ _ _ => rfl, fun _ _ => rfl, rfl⟩
theorem FrC.tr {M M' M'' : Mem} (h : FrC M M') (h' : FrC M' M'') : FrC M M'' := ⟨fun k h1 h2 => (h'.1 k h1 h2).trans (h.1 k h1 h2), fun k hk => (h'.2.1 k hk).trans (h.2.1 k hk), h'.2.2.trans h.2.2⟩
theorem frC_uI {M : Mem} {k j : Nat} {v : Int32} (hk : k < 71) (h4 : k ≠ 34) : FrC M (uI M k j v) := by
  have e : ∀ a, a ≠ k → (uI M k j v).1 a = M.1 a := fun a ha => by funext b; simp [uI, ha]
  exact ⟨fun a h1 _ => e a (by omega), fun _ _ => rfl, e 34 (fun h => h4 h.symm)⟩
/-- the model's row after one write -/
theorem now_uI {M : Mem} {j : Nat} {v : Int32} : (uI M 136 j v).1 136 = upN (M.1 136) j v := by
  funext b
  by_cases h : b = j <;> simp [uI, upN, h]
-- erase
theorem m_erase {M : Mem} {q : Int32 → Mem → Prop} (h : ∀ M', M'.1 136 = upN (M.1 136) 4217 0 → FrM M M' → q (M.1 136 4217) M') : w_X12_erase M q := by
  unfold w_X12_erase
  refine s_many (k := 7) rfl (by decide) ?_
  intro M3 e
  subst e
  exact h _ now_uI (frM_uI (by decide) (by decide) (by decide))
theorem c_erase {M : Mem} {N : Nat → Int32} {q : Int32 → Mem → Prop} (hR : Rep 1 N M.1) (h : ∀ M', Rep 1 (upN N 4217 0) M'.1 → FrC M M' → q (N 4217) M') : w_X11_erase M q := by
  unfold w_X11_erase
  intro x e M2 e2
  subst e2
  rw [e, rep_at hR (j := 4217) (c := 0) (p := 6) (by decide) rfl ⟨by decide, by decide⟩]
  exact h _ (rep_up hR (j := 4217) (c := 0) (p := 6) (by decide) rfl ⟨by decide, by decide⟩) (frC_uI (by decide) (by decide))

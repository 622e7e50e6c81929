-- stand
theorem m_stand {M : Mem} {q : Int32 → Mem → Prop} (h : ∀ M', M'.1 136 = upN (M.1 136) 4215 0 → FrM M M' → q (M.1 136 4215) M') : w_X12_stand M q := by
  unfold w_X12_stand
  refine s_many (k := 5) rfl (by decide) ?_
  intro M3 e
  subst e
  exact h _ now_uI (frM_uI (by decide) (by decide) (by decide))
theorem c_stand {M : Mem} {N : Nat → Int32} {q : Int32 → Mem → Prop} (hR : Rep 1 N M.1) (h : ∀ M', Rep 1 (upN N 4215 0) M'.1 → FrC M M' → q (N 4215) M') : w_X11_stand M q := by
  unfold w_X11_stand
  intro x e M2 e2
  subst e2
  rw [e, rep_at hR (j := 4215) (c := 11) (p := 1) (by decide) rfl ⟨by decide, by decide⟩]
  exact h _ (rep_up hR (j := 4215) (c := 11) (p := 1) (by decide) rfl ⟨by decide, by decide⟩) (frC_uI (by decide) (by decide))

/-! the reader of the model -/
def F22 (M M' : Mem) : Prop := (∀ a b, ¬ (a = 135 ∧ b = 22) → M'.1 a b = M.1 a b) ∧ M'.2 = M.2
theorem F22.rf {M : Mem} : F22 M M := ⟨fun _ _ _ => rfl, rfl⟩
theorem F22.tr {M M' M'' : Mem} (h : F22 M M') (h' : F22 M' M'') : F22 M M'' := ⟨fun a b k => (h'.1 a b k).trans (h.1 a b k), h'.2.trans h.2⟩
theorem f22_u {M : Mem} {v : Int32} : F22 M (uI M 135 22 v) := ⟨fun a b k => if_neg k, rfl⟩
theorem w_22 {K : Nat → Int64} {s : List Itm} {M M' : Mem} (f : F22 M M') (h : WSt K s M) : WSt K s M' := by
  obtain ⟨a, b, c⟩ := h
  refine ⟨by rw [f.1 135 27 (by decide)]; exact a, by rw [f.1 135 25 (by decide)]; exact b, sr_eq s (by funext i; exact f.1 152 i (fun x => absurd x.1 (by decide))) (by rw [f.2]) c⟩
theorem v_22 {K : Nat → Int64} {s : List Itm} {u : VF} {M M' : Mem} (f : F22 M M') (h : VSt K s u M) : VSt K s u M' := by
  obtain ⟨a, b, c, d⟩ := h
  refine ⟨by rw [f.1 135 27 (by decide)]; exact a, by rw [f.1 135 25 (by decide)]; exact b, sr_eq s (by funext i; exact f.1 152 i (fun x => absurd x.1 (by decide))) (by rw [f.2]) c, by rw [f.2]; exact d⟩
/-- marks lie on top or under a bracket -/
def wf : List Itm → Bool → Prop
  | [], _ => True
  | (c, _) :: s, m => (c < 1000 ∧ 0 < rkI c ∧ wf s true) ∨ (c = 1000 ∧ wf s false) ∨ (m = false ∧ 1000 < c ∧ wf s false)
theorem wf_w {s : List Itm} (h : wf s true) : wf s false := by
  cases s with
  | nil => trivial
  | cons x s =>
    obtain ⟨c, l⟩ := x
    rcases h with a | a | a
    · exact Or.inl a
    · exact Or.inr (Or.inl a)
    · exact absurd a.1 (by decide)
theorem wf_red {r : Nat} : ∀ (s : List Itm) (u : VF), wf s true → wf (red r s u).1 true := by
  intro s
  induction s with
  | nil => intro u h; exact h
  | cons x s ih =>
    obtain ⟨c, l⟩ := x
    intro u h
    rw [red]
    by_cases k : c < 1000 ∧ r ≤ rkI c
    · rw [if_pos k]
      refine ih _ ?_
      rcases h with a | a | a
      · exact a.2.2
      · rw [a.1] at k; exact absurd k.1 (by decide)
      · exact absurd a.1 (by decide)
    · rw [if_neg k]; exact h
theorem wf_mrk : ∀ (s : List Itm) (u : VF), wf s false → wf (mrk s u).1 true := by
  intro s
  induction s with
  | nil => intro u h; trivial
  | cons x s ih =>
    obtain ⟨c, l⟩ := x
    intro u h
    rw [mrk]
    by_cases k : (1000 : Int32) < c
    · rw [if_pos k]
      refine ih _ ?_
      rcases h with a | a | a
      · have := a.1
        rw [lt_i] at this k
        omega
      · rw [a.1] at k; exact absurd k (by decide)
      · exact a.2.2
    · rw [if_neg k]
      rcases h with a | a | a
      · exact Or.inl a
      · exact Or.inr (Or.inl a)
      · exact absurd a.2.1 k
theorem red_len {r : Nat} : ∀ (s : List Itm) (u : VF), (red r s u).1.length ≤ s.length := by
  intro s
  induction s with
  | nil => intro u; exact Nat.le_refl _
  | cons x s ih =>
    obtain ⟨c, l⟩ := x
    intro u
    rw [red]
    split
    · have := ih (fun K => ap c (l K) (u K)); rw [List.length_cons]; omega
    · exact Nat.le_refl _
theorem mrk_len : ∀ (s : List Itm) (u : VF), (mrk s u).1.length ≤ s.length := by
  intro s
  induction s with
  | nil => intro u; exact Nat.le_refl _
  | cons x s ih =>
    obtain ⟨c, l⟩ := x
    intro u
    rw [mrk]
    split
    · have := ih (fun K => mk1 c (u K)); rw [List.length_cons]; omega
    · exact Nat.le_refl _
theorem red1_top : ∀ (s : List Itm) (u : VF), wf s true → (red 1 s u).1 = [] ∨ ∃ l s', (red 1 s u).1 = (1000, l) :: s' ∧ wf s' false := by
  intro s
  induction s with
  | nil => intro u h; exact Or.inl rfl
  | cons x s ih =>
    obtain ⟨c, l⟩ := x
    intro u h
    rw [red]
    rcases h with a | a | a
    · rw [if_pos ⟨a.1, a.2.1⟩]
      exact ih _ a.2.2
    · rw [if_neg (fun k => by rw [a.1] at k; exact absurd k.1 (by decide))]
      exact Or.inr ⟨l, s, by rw [a.1], a.2⟩
    · exact absurd a.1 (by decide)
section
variable {n : Nat} {K : Nat → Int64} {M0 : Mem} {N : Nat → Int32}
theorem s_ahead12 {p : Nat} {f : Int32} {M : Mem} {q : Int32 → Mem → Prop} (hN : M0.1 136 = N) (hn : (N 4217).toInt = (n : Int)) (n40 : n ≤ 40) (hC : MBr n M0 p f M) (h : ∀ M', MBr n M0 (skp (Tx N) n p) f M' → F22 M M' → q (chr (Tx N) n (skp (Tx N) n p)) M') : w_X12_ahead M q := by
  unfold w_X12_ahead w_X12_ahead_l0
  refine lfp_intro (fun (t : Mem) => ∃ p', MBr n M0 p' f t ∧ F22 M t ∧ skp (Tx N) n p' = skp (Tx N) n p) (fun t => n - (t.1 135 22).toInt.toNat) ?_ M ⟨p, hC, F22.rf, rfl⟩
  intro P M1 hJ hP
  obtain ⟨p', hC1, hF1, hs⟩ := hJ
  have h3 := hC1.2.1
  have le := hC1.2.2.1
  have eN : M1.1 136 = N := by rw [hC1.2.2.2.n, hN]
  have E := ix_a (e := (4170 : Int32)) (a := 4170) rfl h3 (by omega)
  have out : Qp (Tx N) n p' → w_X12_ahead_b44 M1 q := fun qp => by
    rw [skp_id qp] at hs
    have h := h M1 (by rw [← hs]; exact hC1) hF1
    rw [← hs] at h
    unfold w_X12_ahead_b44
    rw [e_many7, eN, le_i, hn, h3, i_of E]
    refine ⟨fun z => ?_, fun z => ⟨vp_of E (by omega), ?_⟩⟩
    · rw [chr_end (by omega)] at h
      exact h
    · unfold chr at h
      rw [if_pos (by omega)] at h
      exact h
  unfold w_X12_ahead_l0F
  dsimp only
  rw [e_many7, eN, le_i, hn, h3, i_of E]
  refine ⟨fun z => out (fun x => by omega), fun z => ⟨vp_of E (by omega), ?_⟩⟩
  refine ⟨fun k => out (fun x => k x.2), fun k M6 e6 => ?_⟩
  have x3 := ix_a h3 (w := 1) (i := 1) rfl (by omega)
  refine hP M6 ⟨p' + 1, ?_, ?_, ?_⟩ ?_
  · rw [e6]; exact mb_p hC1 x3 (by omega)
  · rw [e6]; exact hF1.tr f22_u
  · rw [← hs, skp_sp (T := Tx N) (p := p') ⟨by omega, k⟩]
  · rw [e6, uI_s, x3, h3]
    omega
theorem s_digits12 {p : Nat} {M : Mem} {k : List Itm} {q : Int64 → Mem → Prop} (hN : M0.1 136 = N) (hn : (N 4217).toInt = (n : Int)) (n40 : n ≤ 40) (hC : MBr n M0 p (-1) M) (hW : WSt K k M) (hd : isD (chr (Tx N) n p)) (h : ∀ v M', ((¬ dg (Tx N) n 7 p = 7 ∧ 0 < dg (Tx N) n 7 p ∧ v = nu (Tx N) p (dg (Tx N) n 7 p) ∧ MBr n M0 (p + dg (Tx N) n 7 p) (-1) M') ∨ (dg (Tx N) n 7 p = 7 ∧ MBr n M0 (p + 6) (flt p 2) M')) → WSt K k M' → q v M') : w_X12_digits M q := by
  have lt : p < n := by
    apply Nat.lt_of_not_le
    intro x
    rw [chr_end x] at hd
    exact absurd hd (by decide)
  have hd0 : isD (Tx N p) := by
    unfold chr at hd
    rw [if_pos lt] at hd
    exact hd
  unfold w_X12_digits
  intro x13 e13
  have t13 : x13.toInt = (p : Int) := by rw [e13]; exact hC.2.1
  unfold w_X12_digits_l7
  refine lfp_for (i0 := 0) (n := 6) (fun (i : Nat) (t : Int64 × Mem) => t.1 = nu (Tx N) p i ∧ MBr n M0 (p + i) (-1) t.2 ∧ F22 M t.2 ∧ ∀ j, j < i → p + j < n ∧ isD (Tx N (p + j))) ?_ (by omega) ⟨rfl, hC, F22.rf, fun j hj => by omega⟩
  intro P i st hi hJ hP
  obtain ⟨v2, M1⟩ := st
  obtain ⟨hv0, hC0, hF0, hj⟩ := hJ
  have hv : v2 = nu (Tx N) p i := hv0
  have hC1 : MBr n M0 (p + i) (-1) M1 := hC0
  have hF1 : F22 M M1 := hF0
  clear hv0 hC0 hF0
  have h3 := hC1.2.1
  have le := hC1.2.2.1
  have eN : M1.1 136 = N := by rw [hC1.2.2.2.n, hN]
  have E := ix_a (e := (4170 : Int32)) (a := 4170) rfl h3 (by omega)
  have f48 : (48 : Int64).toInt = 48 := rfl
  have f57 : (57 : Int64).toInt = 57 := rfl
  have f6 : (6 : Int32).toInt = 6 := rfl
  have good : ¬ (p + i < n ∧ isD (Tx N (p + i))) → q v2 M1 := fun nd => by
    have d := dg_is (T := Tx N) (n := n) 7 p i hj (by omega) (fun _ => nd)
    refine h v2 M1 (Or.inl ⟨by omega, ?_, by rw [d]; exact hv, by rw [d]; exact hC1⟩) (w_22 hF1 hW)
    rcases Nat.eq_zero_or_pos i with z | z
    · rw [z] at nd; exact absurd ⟨lt, hd0⟩ nd
    · omega
  unfold w_X12_digits_l7F
  dsimp only
  rw [e_many7, eN, le_i, hn, h3, i_of E]
  refine ⟨fun z => good (fun x => by have := x.1; omega), fun z => ⟨vp_of E (by omega), ?_⟩⟩
  rw [e_in, tf_z, f48, f57, eN]
  have hTe : N (4170 + (p + i)) = Tx N (p + i) := rfl
  rw [hTe]
  refine ⟨fun nd => good (fun x => nd x.2), fun yd => ?_⟩
  have xs := ix_s h3 t13 (by omega)
  rw [show p + i - p = i from by omega] at xs
  rw [eq_i, xs, f6]
  refine ⟨fun k6 => ⟨vp_of E (by omega), fun x10 e10 M11 e11 => ?_⟩, fun k6 M12 e12 => ?_⟩
  · have x3 := ix_a h3 (w := 1) (i := 1) rfl (by omega)
    refine hP (x10, M11) (by omega) ⟨?_, ?_, ?_, fun j hj2 => ?_⟩
    · show x10 = nu (Tx N) p (i + 1)
      rw [e10, hv, Int64.mul_comm, i_of E]
      rfl
    · show MBr n M0 (p + (i + 1)) (-1) M11
      rw [e11]; exact mb_p hC1 x3 (by omega)
    · show F22 M M11
      rw [e11]; exact hF1.tr f22_u
    · by_cases e : j = i
      · rw [e]; exact ⟨by omega, Classical.not_not.mp yd⟩
      · exact hj j (by omega)
  · have i6 : i = 6 := by omega
    rw [i_nat t13] at e12
    have d : dg (Tx N) n 7 p = 7 := by
      refine dg_is 7 p 7 (fun j hj7 => ?_) (Nat.le_refl _) (fun x => by omega)
      by_cases e : j = 6
      · rw [e, ← i6]; exact ⟨by omega, Classical.not_not.mp yd⟩
      · exact hj j (by omega)
    rw [i6] at hC1
    refine h 0 M12 (Or.inr ⟨d, ?_⟩) ?_
    · rw [e12]; exact mb_f hC1
    · rw [e12]; exact w_u (by decide) (by decide) (w_22 hF1 hW)
end

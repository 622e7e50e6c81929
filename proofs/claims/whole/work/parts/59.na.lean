/-! the loop of a run -/
section GO
variable {N : Nat → Int32} {m L : Nat} {p : Int32} {C : Nat → Int32}
theorem goF_done {l f : Nat} {c : Int32} {s : SS} (h : L ≤ l) : goF N m p C L f l c s = (l, c, s, f) := by
  cases f with
  | zero => rfl
  | succ f => rw [goF, if_neg (by omega)]
theorem goF_step {l f : Nat} {c : Int32} {s : SS} (h : l < L) : goF N m p C L (f + 1) l c s = goF N m p C L f (stepF N m p C l s).1 (c + N (1106 + 60 * m + toN (C (4 * l)))) (stepF N m p C l s).2 := by
  rw [goF, if_pos h]
end GO
def cntF (g : Nat × Int32 × SS × Nat) (L : Nat) (t : Int32) : Nat → Int32 := fun i => if i = 0 then Int32.ofNat (2000 - g.2.2.2) else if i = 5 then (if g.1 < L then -1 else t) else g.2.2.1.2.2.2.2 i
def tmF (N : Nat → Int32) (m : Nat) (g : Nat × Int32 × SS × Nat) : Int32 := g.2.1 + g.2.2.1.2.2.2.2 2 * N (1106 + 60 * m + 10) + g.2.2.1.2.2.2.2 4 * N (1106 + 60 * m + 12)
/-- the model's cells that a run leaves -/
def FrV (M M' : Mem) : Prop := (∀ a, a ≠ 140 → a ≠ 141 → a ≠ 142 → a ≠ 143 → a ≠ 144 → a ≠ 135 → M'.1 a = M.1 a) ∧ (∀ b, b ≠ 10 → M'.1 135 b = M.1 135 b) ∧ M'.2 = M.2
theorem FrV.tr {M M' M'' : Mem} (h : FrV M M') (h' : FrV M' M'') : FrV M M'' := ⟨fun a h1 h2 h3 h4 h5 h6 => (h'.1 a h1 h2 h3 h4 h5 h6).trans (h.1 a h1 h2 h3 h4 h5 h6), fun b hb => (h'.2.1 b hb).trans (h.2.1 b hb), h'.2.2.trans h.2.2⟩
theorem FrV.rf {M : Mem} : FrV M M := ⟨fun _ _ _ _ _ _ _ => rfl, fun _ _ => rfl, rfl⟩
theorem FrV.w {M M' : Mem} (h : FrW 140 141 142 143 144 M M') : FrV M M' := ⟨fun a h1 h2 h3 h4 h5 _ => h.1 a h1 h2 h3 h4 h5, fun b _ => by rw [h.1 135 (by decide) (by decide) (by decide) (by decide) (by decide)], h.2.1⟩
theorem FrV.u {M : Mem} {a j : Nat} {v : Int32} (h : (140 ≤ a ∧ a ≤ 144) ∨ (a = 135 ∧ j = 10)) : FrV M (uI M a j v) := ⟨fun b h1 h2 h3 h4 h5 h6 => by funext t; exact uI_k (by omega), fun b hb => by rcases h with h | h; exact uI_k (by omega); exact uI_j (by omega), rfl⟩
theorem s_goesL {mI v4 p : Int32} {mn L : Nat} {M : Mem} {s0 : SS} {C : Nat → Int32} {q : Mem → Prop} (hI : InvN (M.1 136)) (hm : mI.toInt = mn) (hm4 : mn < 4) (h4 : v4.toInt = ((1106 + 60 * mn : Nat) : Int)) (hp : 0 ≤ p.toInt ∧ p.toInt ≤ 63) (hL : (M.1 135 4).toInt = (L : Int)) (hL40 : L ≤ 40) (hC : ∀ j, j < 4 * L → M.1 139 j = C j) (hk : ∀ l, l < L → okLine (C (4 * l)) (C (4 * l + 1)) (C (4 * l + 2)) (C (4 * l + 3))) (hX : XS 140 141 142 143 144 M s0) (hK0 : M.1 144 0 = 0) (hv : M.1 135 10 = 0) (h : ∀ M', (∀ i, i < 6 → M'.1 144 i = cntF (goF (M.1 136) mn p C L 2000 0 0 s0) L (tmF (M.1 136) mn (goF (M.1 136) mn p C L 2000 0 0 s0)) i) → M'.1 135 10 = tf ((goF (M.1 136) mn p C L 2000 0 0 s0).1 < L) → (∀ i, i < 16 → M'.1 142 i = (goF (M.1 136) mn p C L 2000 0 0 s0).2.2.1.2.2.1 i) → (∀ i, i < 16 → M'.1 143 i = (goF (M.1 136) mn p C L 2000 0 0 s0).2.2.1.2.2.2.1 i) → FrV M M' → q M') : w_X12_goes_l119 mI p v4 q (0, 0, M) := by
  generalize hg : goF (M.1 136) mn p C L 2000 0 0 s0 = g at h
  have f2 : (2000 : Int32).toInt = 2000 := rfl
  have fin : ∀ (v5 v6 : Int32) (M1 : Mem) (s : SS) (l f : Nat), g = (l, v6, s, f) → XS 140 141 142 143 144 M1 s → FrV M M1 → M1.1 144 0 = Int32.ofNat (2000 - f) → M1.1 135 10 = tf (l < L) → w_X12_goes_b200 v4 v6 M1 q := by
    intro v5 v6 M1 s l f eg X1 F1 k0 kv
    have e6 : M1.1 136 = M.1 136 := F1.1 136 (by decide) (by decide) (by decide) (by decide) (by decide) (by decide)
    have E10 := ix_a h4 (w := 10) (i := 10) rfl (by omega)
    have E12 := ix_a h4 (w := 12) (i := 12) rfl (by omega)
    unfold w_X12_goes_b200
    rw [kv, tf_z, i_of E10, i_of E12, e6]
    have done : ∀ (t : Int32) (M4 : Mem), M4 = uI M1 144 5 t → (if l < L then -1 else tmF (M.1 136) mn g) = t → q M4 := by
      intro t M4 e4 ht
      refine h M4 (fun i hi => ?_) ?_ (fun i hi => ?_) (fun i hi => ?_) (F1.tr ?_)
      · unfold cntF
        by_cases i0 : i = 0
        · subst i0
          rw [if_pos rfl, e4, uI_j (by decide), k0, eg]
        · rw [if_neg i0]
          by_cases i5 : i = 5
          · subst i5
            rw [if_pos rfl, e4, uI_s, ← ht, eg]
          · rw [if_neg i5, e4, uI_j i5, eg]
            exact X1.2.2.2.2 i (by omega) (by omega)
      · rw [e4, uI_k (by decide), kv, eg]
      · rw [e4, uI_k (by decide), eg]; exact X1.2.2.1 i hi
      · rw [e4, uI_k (by decide), eg]; exact X1.2.2.2.1 i hi
      · rw [e4]; exact FrV.u (Or.inl (by decide))
    refine ⟨fun nv => ⟨vp_of E10 (by omega), vp_of E12 (by omega), fun M4 e4 => done _ M4 e4 ?_⟩, fun vv M5 e5 => done _ M5 e5 ?_⟩
    · rw [if_neg nv, eg, X1.2.2.2.2 2 (by decide) (by decide), X1.2.2.2.2 4 (by decide) (by decide)]
      rfl
    · rw [if_pos (Classical.not_not.mp vv)]
  unfold w_X12_goes_l119
  refine lfp_for (i0 := 0) (n := 2001) (fun (i : Nat) (t : Int32 × Int32 × Mem) => (i ≤ 2000 ∧ t.2.2.1 135 10 = 0 ∧ t.2.2.1 144 0 = Int32.ofNat i ∧ ∃ l s, g = goF (M.1 136) mn p C L (2000 - i) l t.2.1 s ∧ t.1.toInt = (l : Int) ∧ XS 140 141 142 143 144 t.2.2 s ∧ FrV M t.2.2) ∨ (i = 2001 ∧ t.2.2.1 135 10 = 1 ∧ t.2.2.1 144 0 = Int32.ofNat 2000 ∧ ∃ l s, g = (l, t.2.1, s, 0) ∧ l < L ∧ t.1.toInt = (l : Int) ∧ XS 140 141 142 143 144 t.2.2 s ∧ FrV M t.2.2)) ?_ (by omega) (Or.inl ⟨by decide, hv, hK0, 0, s0, hg.symm, rfl, hX, FrV.rf⟩)
  intro P i st hi hJ hP
  obtain ⟨v5, v6, M1⟩ := st
  unfold w_X12_goes_l119F
  dsimp only
  rcases hJ with ⟨hi2, hv0, hk0, l, s, hg1, hl0, X0, F0⟩ | ⟨hi2, hv0, hk0, l, s, hg1, hlL, hl0, X0, F0⟩
  · have hv1 : M1.1 135 10 = 0 := hv0
    have hk1 : M1.1 144 0 = Int32.ofNat i := hk0
    have hl : v5.toInt = (l : Int) := hl0
    have X1 : XS 140 141 142 143 144 M1 s := X0
    have F1 : FrV M M1 := F0
    have hg2 : g = goF (M.1 136) mn p C L (2000 - i) l v6 s := hg1
    clear hv0 hk0 hl0 X0 F0 hg1
    have e4 : M1.1 135 4 = M.1 135 4 := F1.2.1 4 (by decide)
    have e6 : M1.1 136 = M.1 136 := F1.1 136 (by decide) (by decide) (by decide) (by decide) (by decide) (by decide)
    have e39 : M1.1 139 = M.1 139 := F1.1 139 (by decide) (by decide) (by decide) (by decide) (by decide) (by decide)
    rw [e4, hv1, hk1]
    refine ⟨fun zz => ?_, fun zz => ⟨fun n => absurd rfl n, fun _ => ⟨fun n => ?_, fun k => ?_⟩⟩⟩
    · rw [le_i, hL, hl] at zz
      rw [goF_done (by omega)] at hg2
      refine fin v5 v6 M1 s l (2000 - i) hg2 X1 F1 ?_ ?_
      · rw [hk1, show 2000 - (2000 - i) = i from by omega]
      · rw [hv1, tf0 (by omega)]
    · rw [le_i, hL, hl] at zz
      have hlL : l < L := by omega
      have ni : ¬ i = 2000 := fun x => n (by rw [x]; rfl)
      rw [show 2000 - i = (2000 - (i + 1)) + 1 from by omega, goF_step hlL] at hg2
      intro M9 e9
      have E0 := ix_m (e := (4 : Int32)) (a := 4) rfl hl (by omega)
      have W9 : FrV M1 M9 := by rw [e9]; exact FrV.u (Or.inl (by decide))
      have X9 : XS 140 141 142 143 144 M9 s := by
        obtain ⟨R, Y, O, G, K⟩ := s
        refine ⟨fun j hj => by rw [e9, uI_k (by decide)]; exact X1.1 j hj, fun j hj => by rw [e9, uI_k (by decide)]; exact X1.2.1 j hj, fun j hj => by rw [e9, uI_k (by decide)]; exact X1.2.2.1 j hj, fun j hj => by rw [e9, uI_k (by decide)]; exact X1.2.2.2.1 j hj, fun j h1 h2 => by rw [e9, uI_j (by omega)]; exact X1.2.2.2.2 j h1 h2⟩
      have e96 : M9.1 136 = M.1 136 := by rw [← e6]; funext b; rw [e9, uI_k (by decide)]
      have e939 : M9.1 139 = M.1 139 := by rw [← e39]; funext b; rw [e9, uI_k (by decide)]
      have hkl := hk l hlL
      have ra : 0 ≤ (C (4 * l)).toInt ∧ (C (4 * l)).toInt ≤ 7 := by omega
      rw [i_of E0, e939, e96, hC (4 * l) (by omega)]
      have Ea := ix_a h4 (ix_n ra.1) (by omega)
      rw [i_of Ea]
      refine ⟨vp_of E0 (by omega), vp_of Ea (by omega), fun x12 e12 => ?_⟩
      refine s_step12 (C := C) (by rw [e96]; exact hI) hm hm4 hl (by omega) hp (fun k hk4 => by rw [e939]; exact hC _ (by omega)) hkl X9 (fun x M' hx X' F' => ?_)
      rw [e96] at hx X'
      refine hP (x, x12, M') (by omega) (Or.inl ⟨by omega, ?_, ?_, _, _, ?_, hx, X', (F1.tr W9).tr (FrV.w F')⟩)
      · show M'.1 135 10 = 0
        rw [F'.1 135 (by decide) (by decide) (by decide) (by decide) (by decide), e9, uI_k (by decide), hv1]
      · show M'.1 144 0 = Int32.ofNat (i + 1)
        rw [F'.2.2, e9, uI_s]
        exact i_nat (ix_a (ti_ofNat (by omega)) rfl (by omega))
      · rw [hg2]
        show _ = goF _ _ _ _ _ _ _ x12 _
        rw [e12]
        rfl
    · rw [le_i, hL, hl] at zz
      have ei : i = 2000 := by
        have := congrArg Int32.toInt k
        rw [ti_ofNat (by omega), f2] at this
        omega
      subst ei
      intro M15 e15
      refine hP (v5, v6, M15) (by omega) (Or.inr ⟨rfl, ?_, ?_, l, s, hg2, by omega, hl, ?_, F1.tr ?_⟩)
      · show M15.1 135 10 = 1
        rw [e15, uI_s]
      · show M15.1 144 0 = _
        rw [e15, uI_k (by decide), hk1]
      · refine ⟨fun j hj => by rw [e15, uI_k (by decide)]; exact X1.1 j hj, fun j hj => by rw [e15, uI_k (by decide)]; exact X1.2.1 j hj, fun j hj => by rw [e15, uI_k (by decide)]; exact X1.2.2.1 j hj, fun j hj => by rw [e15, uI_k (by decide)]; exact X1.2.2.2.1 j hj, fun j h1 h2 => by rw [e15, uI_k (by decide)]; exact X1.2.2.2.2 j h1 h2⟩
      · rw [e15]; exact FrV.u (Or.inr ⟨rfl, rfl⟩)
  · have hv1 : M1.1 135 10 = 1 := hv0
    have hk1 : M1.1 144 0 = Int32.ofNat 2000 := hk0
    have hl : v5.toInt = (l : Int) := hl0
    have X1 : XS 140 141 142 143 144 M1 s := X0
    have F1 : FrV M M1 := F0
    have hg2 : g = (l, v6, s, 0) := hg1
    have e4 : M1.1 135 4 = M.1 135 4 := F1.2.1 4 (by decide)
    have last : w_X12_goes_b200 v4 v6 M1 q := fin v5 v6 M1 s l 0 hg2 X1 F1 hk1 (by rw [hv1, tf1 hlL])
    exact ⟨fun _ => last, fun _ => ⟨fun _ => last, fun k => absurd k (by rw [hv1]; decide)⟩⟩

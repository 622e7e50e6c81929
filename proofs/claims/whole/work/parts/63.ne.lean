/-! a run in the model, from its beginning -/
def runG (N : Nat → Int32) (m sn : Nat) (p : Int32) (pn : Nat) (ch : Int32) (O G : Nat → Int32) : Nat × Int32 × SS × Nat := goF N m p (asm N pn ch (toN (N 4211))) (toN (N (960 + pn))) 2000 0 0 (R0 N sn, fun _ => 0, O, G, fun _ => 0)
theorem s_empty12 {M : Mem} {q : Mem → Prop} (h : ∀ M', (∀ i, i < 16 → M'.1 142 i = -1) → (∀ i, i < 16 → M'.1 143 i = 0) → (∀ a, a ≠ 142 → a ≠ 143 → M'.1 a = M.1 a) → M'.2 = M.2 → q M') : w_X12_empty M q := by
  have f16 : (16 : Int32).toInt = 16 := rfl
  unfold w_X12_empty w_X12_empty_l2
  refine lfp_for (i0 := 0) (n := 16) (fun (i : Nat) (t : Int32 × Mem) => t.1.toInt = (i : Int) ∧ (∀ j, j < i → t.2.1 142 j = -1) ∧ (∀ j, j < i → t.2.1 143 j = 0) ∧ (∀ a, a ≠ 142 → a ≠ 143 → t.2.1 a = M.1 a) ∧ t.2.2 = M.2) ?_ (by omega) ⟨rfl, fun j hj => absurd hj (by omega), fun j hj => absurd hj (by omega), fun _ _ _ => rfl, rfl⟩
  intro P i st hi hJ hP
  obtain ⟨a, M1⟩ := st
  obtain ⟨ha0, h10, h20, h30, h40⟩ := hJ
  have ha : a.toInt = (i : Int) := ha0
  have h1 : ∀ j, j < i → M1.1 142 j = -1 := h10
  have h2 : ∀ j, j < i → M1.1 143 j = 0 := h20
  have h3 : ∀ a, a ≠ 142 → a ≠ 143 → M1.1 a = M.1 a := h30
  have h4 : M1.2 = M.2 := h40
  clear ha0 h10 h20 h30 h40
  unfold w_X12_empty_l2F
  dsimp only
  rw [le_i, ha, f16, i_of ha]
  refine ⟨fun z => ?_, fun z => ⟨vp_of ha (by omega), fun M3 e3 => ⟨vp_of ha (by omega), fun M5 e5 x6 e6 => ?_⟩⟩⟩
  · have e : i = 16 := by omega
    subst e
    exact h M1 h1 h2 h3 h4
  · refine hP (x6, M5) (by omega) ⟨?_, fun j hj => ?_, fun j hj => ?_, fun b hb1 hb2 => ?_, ?_⟩
    · show x6.toInt = ((i + 1 : Nat) : Int)
      rw [e6]; exact ix_a ha rfl (by omega)
    · show M5.1 142 j = -1
      rw [e5, uI_k (by decide), e3]
      by_cases e : j = i
      · subst e; rw [uI_s]
      · rw [uI_j e]; exact h1 j (by omega)
    · show M5.1 143 j = 0
      rw [e5]
      by_cases e : j = i
      · subst e; rw [uI_s]
      · rw [uI_j e, e3, uI_k (by decide)]; exact h2 j (by omega)
    · show M5.1 b = M.1 b
      rw [← h3 b hb1 hb2]
      funext t
      rw [e5, uI_k hb2, e3, uI_k hb1]
    · show M5.2 = M.2
      rw [e5]; show M3.2 = M.2; rw [e3]; exact h4
theorem s_goes12 {mI sI p : Int32} {mn sn L : Nat} {M : Mem} {O G C : Nat → Int32} {q : Mem → Prop} (hI : InvN (M.1 136)) (hm : mI.toInt = mn) (hm4 : mn < 4) (hs : sI.toInt = sn) (hs8 : sn < 8) (hp : 0 ≤ p.toInt ∧ p.toInt ≤ 63) (hL : (M.1 135 4).toInt = (L : Int)) (hL40 : L ≤ 40) (hC : ∀ j, j < 4 * L → M.1 139 j = C j) (hk : ∀ l, l < L → okLine (C (4 * l)) (C (4 * l + 1)) (C (4 * l + 2)) (C (4 * l + 3))) (hO : ∀ i, i < 16 → M.1 142 i = O i) (hG : ∀ i, i < 16 → M.1 143 i = G i) (h : ∀ M', (∀ i, i < 6 → M'.1 144 i = cntF (goF (M.1 136) mn p C L 2000 0 0 (R0 (M.1 136) sn, fun _ => 0, O, G, fun _ => 0)) L (tmF (M.1 136) mn (goF (M.1 136) mn p C L 2000 0 0 (R0 (M.1 136) sn, fun _ => 0, O, G, fun _ => 0))) i) → M'.1 135 10 = tf ((goF (M.1 136) mn p C L 2000 0 0 (R0 (M.1 136) sn, fun _ => 0, O, G, fun _ => 0)).1 < L) → (∀ i, i < 16 → M'.1 142 i = (goF (M.1 136) mn p C L 2000 0 0 (R0 (M.1 136) sn, fun _ => 0, O, G, fun _ => 0)).2.2.1.2.2.1 i) → (∀ i, i < 16 → M'.1 143 i = (goF (M.1 136) mn p C L 2000 0 0 (R0 (M.1 136) sn, fun _ => 0, O, G, fun _ => 0)).2.2.1.2.2.2.1 i) → FrV M M' → q M') : w_X12_goes mI sI p M q := by
  have f6 : (6 : Int32).toInt = 6 := rfl
  have f64 : (64 : Int32).toInt = 64 := rfl
  have f8 : (8 : Int32).toInt = 8 := rfl
  have f4 : (4 : Int32).toInt = 4 := rfl
  unfold w_X12_goes
  intro v4 e4
  have E : v4.toInt = ((1106 + 60 * mn : Nat) : Int) := by rw [e4]; exact ix_a rfl (ix_m rfl hm (by omega)) (by omega)
  clear e4
  unfold w_X12_goes_l13
  refine lfp_for (i0 := 0) (n := 6) (fun (i : Nat) (t : Int32 × Mem) => t.1.toInt = (i : Int) ∧ (∀ j, j < i → t.2.1 144 j = 0) ∧ (∀ a, a ≠ 144 → t.2.1 a = M.1 a) ∧ t.2.2 = M.2) ?_ (by omega) ⟨rfl, fun j hj => absurd hj (by omega), fun _ _ => rfl, rfl⟩
  intro P i st hi hJ hP
  obtain ⟨a, M1⟩ := st
  obtain ⟨ha0, h10, h30, h40⟩ := hJ
  have ha : a.toInt = (i : Int) := ha0
  have h1 : ∀ j, j < i → M1.1 144 j = 0 := h10
  have h3 : ∀ a, a ≠ 144 → M1.1 a = M.1 a := h30
  have hM1 : M1.2 = M.2 := h40
  clear ha0 h10 h30 h40
  unfold w_X12_goes_l13F
  dsimp only
  rw [le_i, ha, f6, i_of ha]
  refine ⟨fun z => ?_, fun z => ⟨vp_of ha (by omega), fun M3 e3 x6 e6 => ?_⟩⟩
  · have e : i = 6 := by omega
    subst e
    clear P hP z ha
    unfold w_X12_goes_l37
    refine lfp_for (i0 := 0) (n := 64) (fun (i : Nat) (t : Int32 × Mem) => t.1.toInt = (i : Int) ∧ (∀ j, j < i → t.2.1 141 j = 0) ∧ (∀ a, a ≠ 141 → t.2.1 a = M1.1 a) ∧ t.2.2 = M.2) ?_ (by omega) ⟨rfl, fun j hj => absurd hj (by omega), fun _ _ => rfl, hM1⟩
    intro P i st hi hJ hP
    obtain ⟨b, M2⟩ := st
    obtain ⟨ha0, h10, h30, h40⟩ := hJ
    have hb : b.toInt = (i : Int) := ha0
    have g1 : ∀ j, j < i → M2.1 141 j = 0 := h10
    have g3 : ∀ a, a ≠ 141 → M2.1 a = M1.1 a := h30
    have hM2 : M2.2 = M.2 := h40
    clear ha0 h10 h30 h40
    unfold w_X12_goes_l37F
    dsimp only
    rw [le_i, hb, f64, i_of hb]
    refine ⟨fun z => ?_, fun z => ⟨vp_of hb (by omega), fun M3 e3 x6 e6 => ?_⟩⟩
    · have e : i = 64 := by omega
      subst e
      clear P hP z hb
      have e26 : M2.1 136 = M.1 136 := by rw [g3 136 (by decide), h3 136 (by decide)]
      unfold w_X12_goes_l61
      refine lfp_for (i0 := 0) (n := 8) (fun (i : Nat) (t : Int32 × Mem) => t.1.toInt = (i : Int) ∧ (∀ j, j < i → t.2.1 140 j = R0 (M.1 136) sn j) ∧ (∀ a, a ≠ 140 → t.2.1 a = M2.1 a) ∧ t.2.2 = M.2) ?_ (by omega) ⟨rfl, fun j hj => absurd hj (by omega), fun _ _ => rfl, hM2⟩
      intro P i st hi hJ hP
      obtain ⟨c, M3⟩ := st
      obtain ⟨ha0, h10, h30, h40⟩ := hJ
      have hc : c.toInt = (i : Int) := ha0
      have k1 : ∀ j, j < i → M3.1 140 j = R0 (M.1 136) sn j := h10
      have k3 : ∀ a, a ≠ 140 → M3.1 a = M2.1 a := h30
      have hM3 : M3.2 = M.2 := h40
      clear ha0 h10 h30 h40
      have e36 : M3.1 136 = M.1 136 := by rw [k3 136 (by decide), e26]
      unfold w_X12_goes_l61F w_X12_goes_b101
      dsimp only
      rw [le_i, hc, f8, le_i, hc, f4, e36, i_of hc]
      have next : ∀ (v : Int32) (M17 : Mem), i < 8 → M17 = uI M3 140 i v → v = R0 (M.1 136) sn i → ∀ x : Int32, x = c + 1 → P (x, M17) := fun v M17 hi8 e17 ev x ex => by
        refine hP (x, M17) hi8 ⟨?_, fun j hj => ?_, fun a ha => ?_, ?_⟩
        · show x.toInt = ((i + 1 : Nat) : Int)
          rw [ex]; exact ix_a hc rfl (by omega)
        · show M17.1 140 j = _
          rw [e17]
          by_cases e : j = i
          · subst e; rw [uI_s, ev]
          · rw [uI_j e]; exact k1 j (by omega)
        · show M17.1 a = _
          rw [← k3 a ha]
          funext t
          rw [e17, uI_k ha]
        · show M17.2 = M.2
          rw [e17]; exact hM3
      refine ⟨fun z M20 e20 => ?_, fun z => ⟨fun z4 => ?_, fun z4 => ⟨vp_of hc (by omega), fun M17 e17 => next 0 M17 (by omega) e17 ?_⟩⟩⟩
      · have e : i = 8 := by omega
        subst e
        have a20 : ∀ a, a ≠ 135 → M20.1 a = M3.1 a := fun a ha => by funext t; rw [e20, uI_k ha]
        have a3 : ∀ a, a ≠ 140 → a ≠ 141 → a ≠ 144 → M3.1 a = M.1 a := fun a h4 h5 h6 => by rw [k3 a h4, g3 a h5, h3 a h6]
        have e206 : M20.1 136 = M.1 136 := by rw [a20 136 (by decide), e36]
        have e2039 : M20.1 139 = M.1 139 := by rw [a20 139 (by decide), a3 139 (by decide) (by decide) (by decide)]
        refine s_goesL (C := C) (L := L) (s0 := (R0 (M.1 136) sn, fun _ => 0, O, G, fun _ => 0)) (by rw [e206]; exact hI) hm hm4 E hp ?_ hL40 (fun j hj => by rw [e2039]; exact hC j hj) hk ⟨fun j hj => ?_, fun j hj => ?_, fun j hj => ?_, fun j hj => ?_, fun j h5 h6 => ?_⟩ ?_ ?_ ?_
        · rw [e20, uI_j (by decide), a3 135 (by decide) (by decide) (by decide), hL]
        · rw [a20 140 (by decide)]; exact k1 j hj
        · rw [a20 141 (by decide), k3 141 (by decide)]; exact g1 j hj
        · rw [a20 142 (by decide), a3 142 (by decide) (by decide) (by decide)]; exact hO j hj
        · rw [a20 143 (by decide), a3 143 (by decide) (by decide) (by decide)]; exact hG j hj
        · rw [a20 144 (by decide), k3 144 (by decide), g3 144 (by decide)]; exact h1 j (by omega)
        · rw [a20 144 (by decide), k3 144 (by decide), g3 144 (by decide)]; exact h1 0 (by decide)
        · rw [e20, uI_s]
        · rw [e206]
          intro M' m1 m2 m3 m4 mF
          refine h M' m1 m2 m3 m4 ⟨fun a b1 b2 b3 b4 b5 b6 => ?_, fun b hb => ?_, ?_⟩
          · rw [mF.1 a b1 b2 b3 b4 b5 b6, a20 a b6, a3 a b1 b2 b5]
          · rw [mF.2.1 b hb, e20, uI_j hb, a3 135 (by decide) (by decide) (by decide)]
          · rw [mF.2.2, e20]; exact hM3
      · have E7 := ix_s (ix_a (ix_a (e := (1074 : Int32)) (a := 1074) rfl (ix_m (e := (4 : Int32)) (a := 4) rfl hs (by omega)) (by omega)) hc (by omega)) (w := 4) (i := 4) rfl (by omega)
        rw [i_of E7]
        refine ⟨vp_of E7 (by omega), vp_of hc (by omega), fun M17 e17 => next _ M17 (by omega) e17 ?_⟩
        unfold R0
        rw [if_neg (by omega), if_pos (by omega), show 1074 + 4 * sn + i - 4 = 1074 + 4 * sn + (i - 4) from by omega]
      · unfold R0
        rw [if_pos (by omega)]
    · refine hP (x6, M3) (by omega) ⟨?_, fun j hj => ?_, fun b hb1 => ?_, ?_⟩
      · show x6.toInt = ((i + 1 : Nat) : Int)
        rw [e6]; exact ix_a hb rfl (by omega)
      · show M3.1 141 j = 0
        rw [e3]
        by_cases e : j = i
        · subst e; rw [uI_s]
        · rw [uI_j e]; exact g1 j (by omega)
      · show M3.1 b = _
        rw [← g3 b hb1]
        funext t
        rw [e3, uI_k hb1]
      · show M3.2 = M.2
        rw [e3]; exact hM2
  · refine hP (x6, M3) (by omega) ⟨?_, fun j hj => ?_, fun b hb1 => ?_, ?_⟩
    · show x6.toInt = ((i + 1 : Nat) : Int)
      rw [e6]; exact ix_a ha rfl (by omega)
    · show M3.1 144 j = 0
      rw [e3]
      by_cases e : j = i
      · subst e; rw [uI_s]
      · rw [uI_j e]; exact h1 j (by omega)
    · show M3.1 b = _
      rw [← h3 b hb1]
      funext t
      rw [e3, uI_k hb1]
    · show M3.2 = M.2
      rw [e3]; exact hM1

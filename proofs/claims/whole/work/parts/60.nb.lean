/-! the loop of a run, in the class -/
def FrY (kr kg : Nat) (M M' : Mem) : Prop := (∀ a, a ≠ 38 → a ≠ 39 → a ≠ kr → a ≠ kg → a ≠ 36 → a ≠ 35 → M'.1 a = M.1 a) ∧ (∀ b, b ≠ 1 → M'.1 35 b = M.1 35 b) ∧ M'.2 = M.2
theorem s_goL {p v1 : Int32} {mn L km kr kg : Nat} {M : Mem} {N C : Nat → Int32} {s0 : SS} {q : Mem → Prop} (hI : InvN N) (z : CZ km kr kg) (hx : CX N mn km kr kg p M) (hm4 : mn < 4) (hp : 0 ≤ p.toInt ∧ p.toInt ≤ 63) (hL : (M.1 35 3).toInt = (L : Int)) (hL40 : L ≤ 40) (hC : ∀ l, l < L → ∀ k, k < 4 → M.1 37 (4 * l + k) = nl C (4 * l + k) k) (hk : ∀ l, l < L → okLine (C (4 * l)) (C (4 * l + 1)) (C (4 * l + 2)) (C (4 * l + 3))) (hX : XS 38 39 kr kg 36 M s0) (h : ∀ M', (∀ i, i < 6 → M'.1 36 i = cntF (goF N mn p C L 2000 0 0 s0) L (tmF N mn (goF N mn p C L 2000 0 0 s0) + v1) i) → M'.1 35 1 = tf ((goF N mn p C L 2000 0 0 s0).1 < L) → (∀ i, i < 16 → M'.1 kr i = (goF N mn p C L 2000 0 0 s0).2.2.1.2.2.1 i) → (∀ i, i < 16 → M'.1 kg i = (goF N mn p C L 2000 0 0 s0).2.2.1.2.2.2.1 i) → FrY kr kg M M' → q M') : w_X7_go_l15 35 v1 q (0, 0, 0, M) := by
  generalize hg : goF N mn p C L 2000 0 0 s0 = g at h
  have f0 : (0 : Int32).toInt = 0 := rfl
  have f2 : (2000 : Int32).toInt = 2000 := rfl
  have z0 := z
  obtain ⟨⟨z1, z2, z3, z4, z5⟩, dd, z6, z7, z8, z9, z10, z11⟩ := z
  have fin : ∀ (v2 v3 v4 : Int32) (M1 : Mem) (s : SS) (l f : Nat), g = (l, v3, s, f) → v2 = Int32.ofNat (2000 - f) → ((L : Int) ≤ v4.toInt ↔ L ≤ l) → XS 38 39 kr kg 36 M1 s → FrW 38 39 kr kg 36 M M1 → w_X7_go_b106 35 v1 v2 v3 v4 M1 q := by
    intro v2 v3 v4 M1 s l f eg k0 kl X1 F1
    have x1 := CX.fr z0 hx F1
    obtain ⟨⟨x1, x2, x3⟩, ⟨y1, y2, y3, y4, y5, y6⟩, x4⟩ := x1
    have e35 : M1.1 35 = M.1 35 := F1.1 35 (by decide) (by decide) (by omega) (by omega) (by decide)
    unfold w_X7_go_b106
    intro M8 e8
    have a8 : ∀ a b, ¬ (a = 36 ∧ b = 0) → M8.1 a b = M1.1 a b := fun a b hab => by rw [e8]; exact if_neg hab
    have r8 : M8.1 35 3 = M.1 35 3 := by rw [a8 35 3 (by decide), e35]
    rw [r8, le_i, hL]
    have done : ∀ (t1 t : Int32) (M2 M4 : Mem), M2 = uI M8 35 1 t1 → t1 = tf (l < L) → M4 = uI M2 36 5 t → (if l < L then -1 else tmF N mn g + v1) = t → q M4 := by
      intro t1 t M2 M4 e2 et1 e4 ht
      have a2 : ∀ a b, ¬ (a = 35 ∧ b = 1) → M2.1 a b = M8.1 a b := fun a b hab => by rw [e2]; exact if_neg hab
      refine h M4 (fun i hi => ?_) ?_ (fun i hi => ?_) (fun i hi => ?_) ⟨fun a h1 h2 h3 h4 h5 h6 => ?_, fun b hb => ?_, ?_⟩
      · unfold cntF
        by_cases i0 : i = 0
        · subst i0
          rw [if_pos rfl, e4, uI_j (by decide), a2 36 0 (by decide), e8, uI_s, k0, eg]
        · rw [if_neg i0]
          by_cases i5 : i = 5
          · subst i5
            rw [if_pos rfl, e4, uI_s, ← ht, eg]
          · rw [if_neg i5, e4, uI_j i5, a2 36 i (by omega), a8 36 i (by omega), eg]
            exact X1.2.2.2.2 i (by omega) (by omega)
      · rw [e4, uI_k (by decide), e2, uI_s, et1, eg]
      · rw [e4, uI_k (by omega), a2 kr i (by omega), a8 kr i (by omega), eg]; exact X1.2.2.1 i hi
      · rw [e4, uI_k (by omega), a2 kg i (by omega), a8 kg i (by omega), eg]; exact X1.2.2.2.1 i hi
      · rw [← F1.1 a h1 h2 h3 h4 h5]
        funext b
        rw [e4, uI_k h5, a2 a b (by omega), a8 a b (by omega)]
      · rw [e4, uI_k (by decide), a2 35 b (by omega), a8 35 b (by omega), e35]
      · rw [e4]; show M2.2 = M.2; rw [e2]; show M8.2 = M.2; rw [e8]; exact F1.2.1
    unfold w_X7_go_b128
    refine ⟨fun kk => ⟨Or.inl rfl, fun M2 e2 => ⟨fun _ => ?_, fun n => ?_⟩⟩, fun kk => ⟨Or.inr rfl, fun M2 e2 => ⟨fun k => ?_, fun _ M7 e7 => ?_⟩⟩⟩
    · have hLl : L ≤ l := kl.mp kk
      have a2 : ∀ a b, ¬ (a = 35 ∧ b = 1) → M2.1 a b = M8.1 a b := fun a b hab => by rw [e2]; exact if_neg hab
      have g2 : M2.2.2 35 8 = some km := by rw [e2]; show M8.2.2 35 8 = _; rw [e8]; exact x1
      refine ⟨km, g2, z1, km, g2, z1, fun M6 e6 => done 0 _ M2 M6 e2 (by rw [tf0 (by omega)]) e6 ?_⟩
      rw [if_neg (by omega), show M2.1 (35 + 1) 2 = s.2.2.2.2 2 from by rw [a2 _ _ (by decide), a8 _ _ (by decide)]; exact X1.2.2.2.2 2 (by decide) (by decide), show M2.1 (35 + 1) 4 = s.2.2.2.2 4 from by rw [a2 _ _ (by decide), a8 _ _ (by decide)]; exact X1.2.2.2.2 4 (by decide) (by decide)]
      by_cases k35 : km = 35
      · rw [k35] at z1
        exact absurd z1 (by decide)
      · rw [a2 km 3 (by omega), a8 km 3 (by omega), a2 km 6 (by omega), a8 km 6 (by omega), y3, y5, eg]
        rfl
    · exact absurd (by rw [e2, uI_s]) n
    · rw [e2, uI_s] at k
      exact absurd k (by decide)
    · have hLl : l < L := by
        have : ¬ L ≤ l := fun x => kk (kl.mpr x)
        omega
      exact done 1 _ M2 M7 e2 (by rw [tf1 hLl]) e7 (by rw [if_pos hLl])
  unfold w_X7_go_l15
  refine lfp_for (i0 := 0) (n := 2000) (fun (i : Nat) (t : Int32 × Int32 × Int32 × Mem) => t.1.toInt = (i : Int) ∧ ∃ l s, g = goF N mn p C L (2000 - i) l t.2.1 s ∧ (t.2.2.1.toInt = (l : Int) ∨ ((L : Int) ≤ t.2.2.1.toInt ∧ L ≤ l)) ∧ XS 38 39 kr kg 36 t.2.2.2 s ∧ FrW 38 39 kr kg 36 M t.2.2.2) ?_ (by omega) ⟨rfl, 0, s0, hg.symm, Or.inl rfl, hX, FrW.rf⟩
  intro P i st hi hJ hP
  obtain ⟨v2, v3, v4, M1⟩ := st
  obtain ⟨ha0, l, s, hg0, hl0, X0, F0⟩ := hJ
  have ha : v2.toInt = (i : Int) := ha0
  have hg1 : g = goF N mn p C L (2000 - i) l v3 s := hg0
  have hl : v4.toInt = (l : Int) ∨ ((L : Int) ≤ v4.toInt ∧ L ≤ l) := hl0
  have X1 : XS 38 39 kr kg 36 M1 s := X0
  have F1 : FrW 38 39 kr kg 36 M M1 := F0
  clear ha0 hg0 hl0 X0 F0
  have e35 : M1.1 35 = M.1 35 := F1.1 35 (by decide) (by decide) (by omega) (by omega) (by decide)
  have e37 : M1.1 37 = M.1 37 := F1.1 37 (by decide) (by decide) (by omega) (by omega) (by decide)
  have stop : L ≤ l → w_X7_go_b106 35 v1 v2 v3 v4 M1 q := fun hLl => by
    rw [goF_done hLl] at hg1
    exact fin v2 v3 v4 M1 s l (2000 - i) hg1 (by rw [show 2000 - (2000 - i) = i from by omega]; exact i_nat ha) (by omega) X1 F1
  unfold w_X7_go_l15F w_X7_go_b101
  dsimp only
  rw [le_i, ha, f2, lt_i, f0, e35, le_i, hL]
  refine ⟨fun k => ?_, fun k => ⟨fun k2 => absurd k2 (by omega), fun k2 => ⟨fun k3 => stop (by omega), fun k3 => ?_⟩⟩⟩
  · have ei : i = 2000 := by omega
    subst ei
    have hg2 : g = (l, v3, s, 0) := hg1
    exact fin v2 v3 v4 M1 s l 0 hg2 (i_nat ha) (by omega) X1 F1
  · have hlL : l < L := by omega
    have hl : v4.toInt = (l : Int) := by omega
    have E0 := ix_m hl (w := (4 : Int32)) (i := 4) rfl (by omega)
    rw [Nat.mul_comm l 4] at E0
    have c0 : M1.1 (35 + 2) (4 * l) = C (4 * l) := by
      have := hC l hlL 0 (by decide)
      rw [show M1.1 (35 + 2) = M.1 37 from e37]
      exact this
    rw [i_of E0, c0]
    rw [show 2000 - i = (2000 - (i + 1)) + 1 from by omega, goF_step hlL] at hg1
    refine ⟨vp_of E0 (by omega), fun x14 e14 x15 e15 => ?_⟩
    have x1 := CX.fr z0 hx F1
    have hkl := hk l hlL
    have ra : 0 ≤ (C (4 * l)).toInt ∧ (C (4 * l)).toInt ≤ 7 := by omega
    rw [e14]
    have E15 : x15.toInt = ((i + 1 : Nat) : Int) := by rw [e15]; exact ix_a ha rfl (by omega)
    have ep : M1.1 (km + 1) (C (4 * l)).toNatClampNeg = N (1106 + 60 * mn + toN (C (4 * l))) := x1.2.1.2.2.2.2.2 (toN (C (4 * l))) (by unfold toN; omega)
    refine ⟨km, x1.1.1, z1, vp_of (ix_n ra.1) (by omega), fun x18 e18 => ?_⟩
    rw [ep] at e18
    have hC1 : ∀ k, k < 4 → M1.1 37 (4 * l + k) = nl C (4 * l + k) k := fun k hk4 => by rw [e37]; exact hC l hlL k hk4
    have next : ∀ x M', x.toInt = ((stepF N mn p C l s).1 : Int) ∨ ((L : Int) ≤ x.toInt ∧ L ≤ (stepF N mn p C l s).1) → XS 38 39 kr kg 36 M' (stepF N mn p C l s).2 → FrW 38 39 kr kg 36 M1 M' → P (x15, x18, x, M') := fun x M' h1 h2 h3 => by
      refine hP (x15, x18, x, M') (by omega) ⟨E15, _, _, ?_, h1, h2, F1.tr h3⟩
      rw [hg1]
      show _ = goF _ _ _ _ _ _ _ x18 _
      rw [e18]
    refine ⟨fun n7 => ⟨fun n6 => ?_, fun e6 => ?_⟩, fun e7 => ?_⟩
    · exact s_work11 hI z0 x1 hm4 hl (by omega) hp hC1 hkl n7 n6 X1 (fun x M' h1 h2 h3 => next x M' (Or.inl h1) h2 h3)
    · exact s_leapT11 (p := p) hI z0 x1 hm4 hl (by omega) hC1 hkl e6 X1 (fun x M' h1 h2 h3 => next x M' (Or.inl h1) h2 h3)
    · have es : stepF N mn p C l s = (40, s) := by
        unfold stepF
        rw [if_neg (by rw [e7]; decide), if_neg (by rw [e7]; decide), if_neg (by rw [e7]; decide), if_neg (by rw [e7]; decide), if_neg (by rw [e7]; decide), if_neg (by rw [e7]; decide), if_neg (by rw [e7]; decide)]
      refine next _ M1 (Or.inr ?_) ?_ FrW.rf
      · rw [es, hL]
        exact ⟨by omega, hL40⟩
      · rw [es]; exact X1

/-! the law's step; image, from -/
theorem law_gen {α : Type} {c m : Mem → (α → Mem → Prop) → Prop} {sp : (Nat → Int32) → α × (Nat → Int32)} (hc : ∀ M N q, Rep 1 N M.1 → InvN N → (∀ M', Rep 1 (sp N).2 M'.1 → FrC M M' → q (sp N).1 M') → c M q) (hm : ∀ M q, InvN (M.1 136) → (∀ M', M'.1 136 = (sp (M.1 136)).2 → FrM M M' → q (sp (M.1 136)).1 M') → m M q) (hi : ∀ N, InvN N → InvN (sp N).2) {M : Mem} {Q : α → α → Mem → Prop} (hR : Rel M) (h : ∀ r M', Rel M' → Q r r M') : c M (fun r1 M1 => m M1 (fun r2 M2 => Q r1 r2 M2)) := by
  refine hc M (M.1 136) _ hR.1 hR.2.1 (fun M1 h1 f1 => ?_)
  have e : M1.1 136 = M.1 136 := f1.1 136 (by decide) (by decide)
  refine hm M1 _ (by rw [e]; exact hR.2.1) (fun M2 h2 f2 => ?_)
  rw [e] at h2 ⊢
  exact h _ _ (rel_next hR h1 f1 h2 f2 (hi _ hR.2.1))
theorem cp_rep {o v : Nat} {N : Nat → Int32} {M M' : Mem} (h : Cp o v M M' spl3) (hR : Rep v N M.1) : Rep o N M'.1 := by
  intro j hj c p hl
  have hs := loc_spl j hj
  rw [hl] at hs
  have hs : c < 32 ∧ spl3 c p := of_decide_eq_true hs
  rw [h.2.2.2.2 c p hs.1 hs.2]
  exact hR j hj c p hl
theorem bz_of {x : Int32} (h : 0 ≤ x.toInt ∧ x.toInt ≤ 1) : bz x := by
  by_cases e : x.toInt = 0
  · exact Or.inl (eq_i.mpr e)
  · exact Or.inr (eq_i.mpr (show x.toInt = 1 by omega))
theorem bz_pl {k : Nat} {N : Nat → Int32} {M : Mem} (hR : Rep k N M.1) (hI : InvN N) (m : Nat) (hm : m < 4) : bz (M.1 (k + (16 + 4 * m)) 11) := by
  have e : M.1 (k + (16 + 4 * m)) (mfld 16) = N (1106 + 60 * m + 16) := rep_at hR (by omega) (loc_mach hm (by decide) (by decide)) (px_hi (by omega))
  have e : M.1 (k + (16 + 4 * m)) 11 = N (1106 + 60 * m + 16) := e
  rw [e]
  have := hI.1 (1106 + 60 * m + 16) (by omega)
  rw [rg_mach hm (by decide)] at this
  exact bz_of this
theorem law_image {v : Int32} {M : Mem} {Q : Int32 → Int32 → Mem → Prop} (hR : Rel M) (h : ∀ r M', Rel M' → Q r r M') : w_X11_image v M (fun r1 M1 => w_X12_image v M1 (fun r2 M2 => Q r1 r2 M2)) := by
  have f2 : (2 : Int32).toInt = 2 := rfl
  have g0 : (0 : Int64).toInt = 0 := rfl
  have g1 : (1 : Int64).toInt = 1 := rfl
  have f4 : (4230 : Int32).toInt = 4230 := rfl
  unfold w_X11_image
  simp only [e_isOut, tf_z, Classical.not_not, f2]
  refine ⟨fun k => ⟨vp_of (ix_n k.1) (by omega), ?_⟩, fun n => ?_⟩
  · have hi : v.toInt.toNat < 2 := by omega
    have ev := ix_n k.1
    generalize v.toInt.toNat = i at hi ev
    rw [i_of ev, show 33 + 38 + 32 * i = 71 + 32 * i from by omega]
    refine s_take (by omega) (fun m hm => bz_pl hR.1 hR.2.1 m hm) (fun M5 h5 => ⟨vp_of ev (by omega), fun M8 e8 => ?_⟩)
    have o5 : ∀ a, (a < 71 + 32 * i ∨ 103 + 32 * i ≤ a) → M5.1 a = M.1 a := fun a ha => by funext b; exact h5.2.1 a b (by omega)
    have o8 : ∀ a, a ≠ 34 → M8.1 a = M5.1 a := fun a ha => by funext b; rw [e8, uI_k ha]
    unfold w_X12_image
    simp only [e_in, tf_z, Classical.not_not, g0, g1]
    refine ⟨fun _ => ?_, fun n => absurd (by omega) n⟩
    unfold w_X12_image_l15
    refine lfp_for (i0 := 0) (n := 4230) (fun (t : Nat) (s : Int32 × Mem) => s.1.toInt = (t : Int) ∧ (∀ a, a ≠ 137 → s.2.1 a = M8.1 a) ∧ ∀ j, s.2.1 137 j = if 4230 * i ≤ j ∧ j < 4230 * i + t then M8.1 136 (j - 4230 * i) else M8.1 137 j) ?_ (by omega) ⟨rfl, fun _ _ => rfl, fun j => by rw [if_neg (by omega)]⟩
    intro P t st ht hJ hP
    obtain ⟨a, M1⟩ := st
    obtain ⟨ha, hA, hK⟩ := hJ
    have ha : a.toInt = t := ha
    have hA : ∀ a, a ≠ 137 → M1.1 a = M8.1 a := hA
    have hK : ∀ j, M1.1 137 j = if 4230 * i ≤ j ∧ j < 4230 * i + t then M8.1 136 (j - 4230 * i) else M8.1 137 j := hK
    unfold w_X12_image_l15F
    dsimp only
    refine ⟨fun z => ⟨vp_of ev (by omega), fun M3 e3 => ?_⟩, fun z => ?_⟩
    · rw [le_i, f4] at z
      have et : t = 4230 := by omega
      subst et
      rw [i_of ev] at e3
      have o3 : ∀ a, a ≠ 138 → M3.1 a = M1.1 a := fun a ha => by funext b; rw [e3, uI_k ha]
      have e136 : M3.1 136 = M.1 136 := by rw [o3 136 (by decide), hA 136 (by decide), o8 136 (by decide), o5 136 (by omega)]
      have e138 : ∀ b, b ≠ i → M3.1 138 b = M.1 138 b := fun b hb => by rw [e3, uI_j hb, hA 138 (by decide), o8 138 (by decide), o5 138 (by omega)]
      have e34 : ∀ b, b ≠ i → M3.1 34 b = M.1 34 b := fun b hb => by rw [o3 34 (by decide), hA 34 (by decide), e8, uI_j hb, o5 34 (by omega)]
      have eK : ∀ j, M3.1 137 j = if 4230 * i ≤ j ∧ j < 4230 * i + 4230 then M.1 136 (j - 4230 * i) else M.1 137 j := fun j => by
        rw [o3 137 (by decide), hK, o8 136 (by decide), o8 137 (by decide), o5 136 (by omega), o5 137 (by omega)]
      refine h 1 M3 ⟨?_, ?_, fun b hb => ?_, fun b hb hk => ?_⟩
      · rw [e136]
        exact rep_fr (fun a h1 h2 => by rw [o3 a (by omega), hA a (by omega), o8 a (by omega), o5 a (by omega)]) hR.1
      · rw [e136]; exact hR.2.1
      · by_cases e : b = i
        · subst e
          rw [o3 34 (by decide), hA 34 (by decide), e8, uI_s, e3, uI_s]
        · rw [e34 b e, e138 b e]
          exact hR.2.2.1 b hb
      · by_cases e : b = i
        · subst e
          have ek : ∀ t, t < 4230 → Kp M3 b t = M.1 136 t := fun t ht => by
            unfold Kp
            rw [eK, if_pos (by omega), show 4230 * b + t - 4230 * b = t from by omega]
          refine ⟨rep_cg ek ?_, inv_cg ek hR.2.1⟩
          exact rep_fr (M := M5) (fun a h1 h2 => by rw [o3 a (by omega), hA a (by omega), o8 a (by omega)]) (cp_rep h5 hR.1)
        · rw [e138 b e] at hk
          have ek : ∀ t, t < 4230 → Kp M3 b t = Kp M b t := fun t ht => by
            unfold Kp
            rw [eK, if_neg (by omega)]
          refine ⟨rep_cg ek ?_, inv_cg ek (hR.2.2.2 b hb hk).2⟩
          exact rep_fr (fun a h1 h2 => by rw [o3 a (by omega), hA a (by omega), o8 a (by omega), o5 a (by omega)]) (hR.2.2.2 b hb hk).1
    · rw [le_i, f4] at z
      have E := ix_a (ix_m (e := (4230 : Int32)) (a := 4230) rfl ev (by omega)) ha (by omega)
      refine ⟨vp_of ha (by omega), vp_of E (by omega), fun M6 e6 x7 e7 => ?_⟩
      rw [i_of E, i_of ha] at e6
      refine hP (x7, M6) (by omega) ⟨?_, fun a hna => ?_, fun j => ?_⟩
      · show x7.toInt = ((t + 1 : Nat) : Int)
        rw [e7]; exact ix_a ha rfl (by omega)
      · show M6.1 a = _
        rw [← hA a hna]
        funext b
        rw [e6, uI_k hna]
      · show M6.1 137 j = _
        by_cases e : j = 4230 * i + t
        · subst e
          rw [e6, uI_s, if_pos (by omega), show 4230 * i + t - 4230 * i = t from by omega, hA 136 (by decide)]
        · rw [e6, uI_j e, hK]
          by_cases k2 : 4230 * i ≤ j ∧ j < 4230 * i + t
          · rw [if_pos k2, if_pos (by omega)]
          · rw [if_neg k2, if_neg (by omega)]
  · unfold w_X12_image
    simp only [e_in, tf_z, Classical.not_not, g0, g1]
    exact ⟨fun k => absurd (by omega) n, fun _ => h _ M hR⟩
theorem law_from {v : Int32} {M : Mem} {Q : Int32 → Int32 → Mem → Prop} (hR : Rel M) (h : ∀ r M', Rel M' → Q r r M') : w_X11_from v M (fun r1 M1 => w_X12_from v M1 (fun r2 M2 => Q r1 r2 M2)) := by
  have f2 : (2 : Int32).toInt = 2 := rfl
  have g0 : (0 : Int64).toInt = 0 := rfl
  have g1 : (1 : Int64).toInt = 1 := rfl
  have f4 : (4230 : Int32).toInt = 4230 := rfl
  unfold w_X11_from
  simp only [e_isOut, tf_z, Classical.not_not, f2]
  refine ⟨fun k => ⟨vp_of (ix_n k.1) (by omega), ?_⟩, fun n => ?_⟩
  · have hi : v.toInt.toNat < 2 := by omega
    have ev := ix_n k.1
    generalize v.toInt.toNat = i at hi ev
    rw [i_of ev, show 33 + 38 + 32 * i = 71 + 32 * i from by omega, hR.2.2.1 i hi]
    refine ⟨fun n0 => ⟨vp_of ev (by omega), ?_⟩, fun k0 => ?_⟩
    · obtain ⟨rK, iK⟩ := hR.2.2.2 i hi n0
      refine s_take (by omega) (fun m hm => bz_pl rK iK m hm) (fun M5 h5 => ?_)
      have o5 : ∀ a, (a < 1 ∨ 33 ≤ a) → M5.1 a = M.1 a := fun a ha => by funext b; exact h5.2.1 a b (by omega)
      unfold w_X12_from
      simp only [e_in, tf_z, Classical.not_not, g0, g1]
      refine ⟨fun _ => ⟨vp_of ev (by omega), ?_⟩, fun n => absurd (by omega) n⟩
      rw [i_of ev, o5 138 (by omega)]
      refine ⟨fun _ => ?_, fun k0 => absurd k0 n0⟩
      unfold w_X12_from_l27
      refine lfp_for (i0 := 0) (n := 4230) (fun (t : Nat) (s : Int32 × Mem) => s.1.toInt = (t : Int) ∧ (∀ a, a ≠ 136 → s.2.1 a = M5.1 a) ∧ ∀ j, j < t → s.2.1 136 j = Kp M i j) ?_ (by omega) ⟨rfl, fun _ _ => rfl, fun j hj => absurd hj (by omega)⟩
      intro P t st ht hJ hP
      obtain ⟨a, M1⟩ := st
      obtain ⟨ha, hA, hK⟩ := hJ
      have ha : a.toInt = t := ha
      have hA : ∀ a, a ≠ 136 → M1.1 a = M5.1 a := hA
      have hK : ∀ j, j < t → M1.1 136 j = Kp M i j := hK
      unfold w_X12_from_l27F
      dsimp only
      refine ⟨fun z => ?_, fun z => ?_⟩
      · rw [le_i, f4] at z
        have et : t = 4230 := by omega
        subst et
        refine h 1 M1 ⟨rep_cg hK ?_, inv_cg hK iK, fun b hb => ?_, fun b hb hk => ?_⟩
        · exact rep_fr (M := M5) (fun a h1 h2 => hA a (by omega)) (cp_rep h5 rK)
        · rw [hA 34 (by decide), hA 138 (by decide), o5 34 (by omega), o5 138 (by omega)]
          exact hR.2.2.1 b hb
        · rw [hA 138 (by decide), o5 138 (by omega)] at hk
          have ek : Kp M1 b = Kp M b := by unfold Kp; rw [hA 137 (by decide), o5 137 (by omega)]
          rw [ek]
          exact ⟨rep_fr (fun a h1 h2 => by rw [hA a (by omega), o5 a (by omega)]) (hR.2.2.2 b hb hk).1, (hR.2.2.2 b hb hk).2⟩
      · rw [le_i, f4] at z
        have E := ix_a (ix_m (e := (4230 : Int32)) (a := 4230) rfl ev (by omega)) ha (by omega)
        refine ⟨vp_of E (by omega), vp_of ha (by omega), fun M6 e6 x7 e7 => ?_⟩
        rw [i_of E, i_of ha] at e6
        refine hP (x7, M6) (by omega) ⟨?_, fun a hna => ?_, fun j hj => ?_⟩
        · show x7.toInt = ((t + 1 : Nat) : Int)
          rw [e7]; exact ix_a ha rfl (by omega)
        · show M6.1 a = _
          rw [← hA a hna]
          funext b
          rw [e6, uI_k hna]
        · show M6.1 136 j = _
          by_cases e : j = t
          · subst e
            rw [e6, uI_s, hA 137 (by decide), o5 137 (by omega)]
            rfl
          · rw [e6, uI_j e]
            exact hK j (by omega)
    · unfold w_X12_from
      simp only [e_in, tf_z, Classical.not_not, g0, g1]
      refine ⟨fun _ => ⟨vp_of ev (by omega), ?_⟩, fun n => absurd (by omega) n⟩
      rw [i_of ev]
      exact ⟨fun n0 => absurd k0 n0, fun _ => h _ M hR⟩
  · unfold w_X12_from
    simp only [e_in, tf_z, Classical.not_not, g0, g1]
    exact ⟨fun k => absurd (by omega) n, fun _ => h _ M hR⟩

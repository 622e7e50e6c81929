/-! from the constructors' dynamic references to the common mode -/
def Stt (M : Mem) : Prop := ∀ k, k < KT → (∀ c, sh k = .inl c → ∀ j d, soff c j = some d → M.2.2 k j = some (k + d)) ∧ (isA 3 k → ∀ j, j < len k → M.2.2 k j = some (k + 6 + 4 * j)) ∧ (isA 4 k → ∀ j, j < len k → M.2.2 k j = some (k + 38 + 32 * j))
theorem arrV_ext {cA : ClassId} {n : Nat} {f f' : Nat → Value} (h : ∀ j, j < n → f j = f' j) : arrV cA n f = arrV cA n f' := by
  unfold arrV
  congr 2
  funext i
  exact h i.val i.isLt
theorem sh_arr {k t n : Nat} (hk : k < KT) (hs : sh k = .inr (t, n)) : isA t k ∧ t < 5 := by
  refine ⟨?_, ?_⟩
  · show sh k = .inr (t, len k)
    rw [hs]
    simp [len, hs]
  · have h := (by decide +kernel : ∀ k, k < KT → (sh k).elim (fun _ => true) (fun q => decide (q.1 < 5)) = true) k hk
    rw [hs] at h
    exact of_decide_eq_true h
theorem to_stat {g : Gl} {M : Mem} {H : Heap} (h : Stt M) (hP : va_P (g.1, g.2.1) vwCl (wl g KT M) H) : va_P (g.1, g.2.1) vwCl (wl g KT (stat M)) H := by
  intro k q hq
  have hlt : k < KT := by
    have := (List.getElem?_eq_some_iff.mp hq).1
    simpa [wl] using this
  rw [wl_get hlt] at hq
  cases hq
  have hat := hP k _ (wl_get hlt)
  obtain ⟨h1, h2, h3⟩ := h k hlt
  cases hs : sh k with
  | inl c =>
    have e : cE g (stat M) k = cE g M k := by
      rw [cE_o hs, cE_o hs]
      congr 2
      apply List.map_congr_left
      intro j _
      refine fv_eq rfl rfl ?_
      simp only [stat, hs]
      cases hd : soff c j with
      | none => rfl
      | some d => exact (h1 c hs j d hd).symm
    rw [e]
    exact hat
  | inr tn =>
    obtain ⟨t, n⟩ := tn
    obtain ⟨hA, ht⟩ := sh_arr hlt hs
    match t, ht, hA with
    | 0, _, hA => rw [cE_i hA] at hat ⊢; exact hat
    | 1, _, hA => rw [cE_l hA] at hat ⊢; exact hat
    | 2, _, hA => rw [cE_z hA] at hat ⊢; exact hat
    | 3, _, hA =>
      rw [cE_3 hA] at hat ⊢
      have hat : H[g.2.2.2 + k]? = some (vp_cell _ _) := hat
      show H[g.2.2.2 + k]? = some (vp_cell _ _)
      rw [hat, vp_cell_q, vp_cell_q]
      congr 1
      refine arrV_ext (fun j hj => ?_)
      rw [stat_3 hA, h2 hA j hj]
    | 4, _, hA =>
      rw [cE_4 hA] at hat ⊢
      have hat : H[g.2.2.2 + k]? = some (vp_cell _ _) := hat
      show H[g.2.2.2 + k]? = some (vp_cell _ _)
      rw [hat, vp_cell_q, vp_cell_q]
      congr 1
      refine arrV_ext (fun j hj => ?_)
      rw [stat_4 hA, h3 hA j hj]
theorem x_stat {c : CtxT} {a b pc : Nat} {lv : List (Nat × Value)} {st : List Value} {M : Mem} (h : Stt M) (k : X c (KT, a, b) pc lv st (stat M)) : X c (KT, a, b) pc lv st M := by
  obtain ⟨p, l, e, R, s, m, args, below, meth, co, Q, g⟩ := c
  exact fun H locs ls hP hS hz hl => k H locs ls (to_stat h hP) hS hz hl
def M00 : Mem := (fun _ _ => 0, fun _ _ => 0, fun _ _ => none)
/-- all that is left to be shown of a script -/
def w_start (L : Nat) (xs : Nat → Int32) : Prop := w_X11_init (uN M00 0) (fun M2 => w_X12_init (uN M2 135) (fun M4 => Stt M4 ∧ w_law_l L xs (0, M4)))
set_option maxRecDepth 100000 in
theorem cl_L_7 : Cond.classLink RL 7 "FastWhy" ∈ gtb := gt_mem 82 (by rfl) (by rfl)
set_option maxRecDepth 100000 in
theorem mi_L_9 : MI RL 9 yX11_init cX11_init 2 := ⟨gt_mem 84 (by rfl) (by rfl), gt_mem 85 (by rfl) (by rfl), gt_mem 61 (by rfl) (by rfl), gt_mem 86 (by rfl) (by rfl), ⟨by decide +kernel, by decide +kernel, by decide +kernel⟩, rfl⟩
set_option maxRecDepth 100000 in
theorem cl_L_10 : Cond.classLink RL 10 "FastWhyModel" ∈ gtb := gt_mem 1149 (by rfl) (by rfl)
set_option maxRecDepth 100000 in
theorem mi_L_12 : MI RL 12 yX12_init cX12_init 4 := ⟨gt_mem 1151 (by rfl) (by rfl), gt_mem 1152 (by rfl) (by rfl), gt_mem 74 (by rfl) (by rfl), gt_mem 1153 (by rfl) (by rfl), ⟨by decide +kernel, by decide +kernel, by decide +kernel⟩, rfl⟩
set_option maxRecDepth 100000 in
set_option maxHeartbeats 8000000 in
theorem ok_law {c : CtxT} {g : Gl} {l : Launch} {b L : Nat} {xs : Nat → Int32} (C : Cx c code 4 RL g l room_1) (Lc : Lx c g b L xs) (He : Le c) (hw : w_start L xs) : X c (0, 0, 0) 0 [(0, .ref b)] [] M00 := by
  unfold w_start at hw
  refine k_new C ci_11 s0 (by decide +kernel) cl_L_7 nw_11 in_11 ⟨Nat.le_of_ble_eq_true rfl, Nat.le_of_ble_eq_true rfl⟩ rfl dL_law_0 ?_
  refine x_kap (κ' := (1, 1, 10)) rfl ?_
  refine x_dup C dL_law_3 rfl ?_
  refine k_callI C (ok_X11_init hw) mi_L_9 ⟨Nat.le_of_ble_eq_true rfl, Nat.le_of_ble_eq_true rfl⟩ (Nat.le_of_ble_eq_true rfl) ⟨Nat.le_of_ble_eq_true rfl, Nat.le_of_ble_eq_true rfl⟩ dL_law_4 (fun rv KK M2 hw => ?_)
  obtain ⟨rfl, rfl, hw⟩ := hw
  refine x_kap (κ' := (135, 135, 15550)) rfl ?_
  show X c _ _ _ [.ref (g.2.2.2 + 0)] _
  refine x_astore_n C dL_law_7 rfl (Nat.le_of_ble_eq_true rfl) ?_
  refine k_new C ci_12 s135 (by decide +kernel) cl_L_10 nw_12 in_12 ⟨Nat.le_of_ble_eq_true rfl, Nat.le_of_ble_eq_true rfl⟩ rfl dL_law_8 ?_
  refine x_kap (κ' := (136, 136, 15580)) rfl ?_
  refine x_dup C dL_law_11 rfl ?_
  refine k_callI C (ok_X12_init hw) mi_L_12 ⟨Nat.le_of_ble_eq_true rfl, Nat.le_of_ble_eq_true rfl⟩ (Nat.le_of_ble_eq_true rfl) ⟨Nat.le_of_ble_eq_true rfl, Nat.le_of_ble_eq_true rfl⟩ dL_law_12 (fun rv KK M4 hw => ?_)
  obtain ⟨rfl, rfl, hs, hw⟩ := hw
  refine x_kap (κ' := KL) rfl ?_
  show X c _ _ _ [.ref (g.2.2.2 + 135)] _
  refine x_stat hs ?_
  refine x_astore_n C dL_law_15 rfl (Nat.le_of_ble_eq_true rfl) ?_
  refine x_iconst (v := (0 : Int32)) C dL_law_16 (by decide) ?_
  refine x_istore_n C dL_law_17 rfl (Nat.le_of_ble_eq_true rfl) ?_
  exact x_sub [0, 1, 2, 3] rfl (ok_law_l C Lc He hw)

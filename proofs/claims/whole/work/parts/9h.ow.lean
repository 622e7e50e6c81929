/-! the law, case by case -/
def V8 (L : Nat) (v3 : Int32) : Prop := vp_in (v3 + (1 : Int32)) L ∧ vp_in (v3 + (2 : Int32)) L ∧ vp_in (v3 + (3 : Int32)) L ∧ vp_in (v3 + (4 : Int32)) L ∧ vp_in (v3 + (5 : Int32)) L ∧ vp_in (v3 + (6 : Int32)) L ∧ vp_in (v3 + (7 : Int32)) L
theorem b01_z (x : Int32) : bz (b01 x) := by
  unfold b01
  by_cases h : x = 0
  · rw [if_pos h]; exact Or.inl rfl
  · rw [if_neg h]; exact Or.inr rfl
section
variable {L : Nat} {xs : Nat → Int32} {P : Int32 × Mem → Prop} {v3 : Int32} {M : Mem}
theorem lwc_0 (hv : V8 L v3) (hR : Rel M) (hP : ∀ M', Rel M' → P (v3 + 8, M')) : w_law_0 L xs P v3 M := by
  obtain ⟨h1, h2, h3, h4, h5, h6, h7⟩ := hv
  unfold w_law_0
  exact law_gen (c := fun M q => w_X11_program M q) (m := fun M q => w_X12_program M q) (sp := fun N => spProg N) (fun M N q a b c => cc_prog a b c) (fun M q b c => mm_prog b c) (fun N b => ii_prog b) (Q := fun r1 r2 M2 => r1 = r2 ∧ P (v3 + 8, M2)) hR (fun r M' h => ⟨rfl, hP M' h⟩)
theorem lwc_1 (hv : V8 L v3) (hR : Rel M) (hP : ∀ M', Rel M' → P (v3 + 8, M')) : w_law_1 L xs P v3 M := by
  obtain ⟨h1, h2, h3, h4, h5, h6, h7⟩ := hv
  unfold w_law_1
  simp only [h1, h2, h3, h4, h5, true_and]
  exact law_gen (c := fun M q => w_X11_line _ _ _ _ _ M q) (m := fun M q => w_X12_line _ _ _ _ _ M q) (sp := fun N => spLine _ _ _ _ _ N) (fun M N q a b c => cc_line a b c) (fun M q b c => mm_line b c) (fun N b => ii_line b) (Q := fun r1 r2 M2 => r1 = r2 ∧ P (v3 + 8, M2)) hR (fun r M' h => ⟨rfl, hP M' h⟩)
theorem lwc_2 (hv : V8 L v3) (hR : Rel M) (hP : ∀ M', Rel M' → P (v3 + 8, M')) : w_law_2 L xs P v3 M := by
  obtain ⟨h1, h2, h3, h4, h5, h6, h7⟩ := hv
  unfold w_law_2
  simp only [h1, h2, h3, h4, h5, h6, true_and]
  exact law_gen (c := fun M q => w_X11_change _ _ _ _ _ _ M q) (m := fun M q => w_X12_change _ _ _ _ _ _ M q) (sp := fun N => spChg _ _ _ _ _ _ N) (fun M N q a b c => cc_chg a b c) (fun M q b c => mm_chg b c) (fun N b => ii_chg b) (Q := fun r1 r2 M2 => r1 = r2 ∧ P (v3 + 8, M2)) hR (fun r M' h => ⟨rfl, hP M' h⟩)
theorem lwc_3 (hv : V8 L v3) (hR : Rel M) (hP : ∀ M', Rel M' → P (v3 + 8, M')) : w_law_3 L xs P v3 M := by
  obtain ⟨h1, h2, h3, h4, h5, h6, h7⟩ := hv
  unfold w_law_3
  simp only [h1, h2, true_and]
  exact law_gen (c := fun M q => w_X11_build _ _ M q) (m := fun M q => w_X12_build _ _ M q) (sp := fun N => spBuild _ _ N) (fun M N q a b c => cc_build a b c) (fun M q b c => mm_build b c) (fun N b => ii_build b) (Q := fun r1 r2 M2 => r1 = r2 ∧ P (v3 + 8, M2)) hR (fun r M' h => ⟨rfl, hP M' h⟩)
theorem lwc_4 (hv : V8 L v3) (hR : Rel M) (hP : ∀ M', Rel M' → P (v3 + 8, M')) : w_law_4 L xs P v3 M := by
  obtain ⟨h1, h2, h3, h4, h5, h6, h7⟩ := hv
  unfold w_law_4
  simp only [h1, h2, h3, h4, true_and]
  exact law_gen (c := fun M q => w_X11_setting _ _ _ _ M q) (m := fun M q => w_X12_setting _ _ _ _ M q) (sp := fun N => spSet _ _ _ _ N) (fun M N q a b c => cc_set a b c) (fun M q b c => mm_set b c) (fun N b => ii_set b) (Q := fun r1 r2 M2 => r1 = r2 ∧ P (v3 + 8, M2)) hR (fun r M' h => ⟨rfl, hP M' h⟩)
theorem lwc_5 (hv : V8 L v3) (hR : Rel M) (hP : ∀ M', Rel M' → P (v3 + 8, M')) : w_law_5 L xs P v3 M := by
  obtain ⟨h1, h2, h3, h4, h5, h6, h7⟩ := hv
  unfold w_law_5
  simp only [h1, h2, h3, true_and]
  exact law_gen (c := fun M q => w_X11_price _ _ _ M q) (m := fun M q => w_X12_price _ _ _ M q) (sp := fun N => spPrice _ _ _ N) (fun M N q a b c => cc_price a c) (fun M q b c => mm_price c) (fun N b => ii_price b) (Q := fun r1 r2 M2 => r1 = r2 ∧ P (v3 + 8, M2)) hR (fun r M' h => ⟨rfl, hP M' h⟩)
theorem lwc_6 (hv : V8 L v3) (hR : Rel M) (hP : ∀ M', Rel M' → P (v3 + 8, M')) : w_law_6 L xs P v3 M := by
  obtain ⟨h1, h2, h3, h4, h5, h6, h7⟩ := hv
  unfold w_law_6
  simp only [h1, h2, h3, h4, true_and]
  exact law_gen (c := fun M q => w_X11_cache _ _ _ _ M q) (m := fun M q => w_X12_cache _ _ _ _ M q) (sp := fun N => spCache _ _ _ _ N) (fun M N q a b c => cc_cache a c) (fun M q b c => mm_cache c) (fun N b => ii_cache b) (Q := fun r1 r2 M2 => r1 = r2 ∧ P (v3 + 8, M2)) hR (fun r M' h => ⟨rfl, hP M' h⟩)
theorem lwc_7 (hv : V8 L v3) (hR : Rel M) (hP : ∀ M', Rel M' → P (v3 + 8, M')) : w_law_7 L xs P v3 M := by
  obtain ⟨h1, h2, h3, h4, h5, h6, h7⟩ := hv
  unfold w_law_7
  simp only [h1, h2, h3, true_and]
  exact law_gen (c := fun M q => w_X11_guess _ _ _ M q) (m := fun M q => w_X12_guess _ _ _ M q) (sp := fun N => spGuess _ _ _ N) (fun M N q a b c => cc_guess a c) (fun M q b c => mm_guess c) (fun N b => ii_guess b) (Q := fun r1 r2 M2 => r1 = r2 ∧ P (v3 + 8, M2)) hR (fun r M' h => ⟨rfl, hP M' h⟩)
theorem lwc_8 (hv : V8 L v3) (hR : Rel M) (hP : ∀ M', Rel M' → P (v3 + 8, M')) : w_law_8 L xs P v3 M := by
  obtain ⟨h1, h2, h3, h4, h5, h6, h7⟩ := hv
  unfold w_law_8
  simp only [h1, h2, h3, h4, h5, true_and]
  exact law_gen (c := fun M q => w_X11_noise _ _ _ _ _ M q) (m := fun M q => w_X12_noise _ _ _ _ _ M q) (sp := fun N => spNoise _ _ _ _ _ N) (fun M N q a b c => cc_noise a (b01_z _) c) (fun M q b c => mm_noise (b01_z _) c) (fun N b => ii_noise b (b01_z _)) (Q := fun r1 r2 M2 => r1 = r2 ∧ P (v3 + 8, M2)) hR (fun r M' h => ⟨rfl, hP M' h⟩)
theorem lwc_9 (hv : V8 L v3) (hR : Rel M) (hP : ∀ M', Rel M' → P (v3 + 8, M')) : w_law_9 L xs P v3 M := by
  obtain ⟨h1, h2, h3, h4, h5, h6, h7⟩ := hv
  unfold w_law_9
  simp only [h1, h2, h3, h4, h5, h6, true_and]
  exact law_gen (c := fun M q => w_X11_run _ _ _ _ _ _ M q) (m := fun M q => w_X12_run _ _ _ _ _ _ M q) (sp := fun N => spRun _ _ _ _ _ _ N) (fun M N q a b c => cc_run a b (b01_z _) c) (fun M q b c => mm_run b (b01_z _) c) (fun N b => ii_run b (b01_z _)) (Q := fun r1 r2 M2 => r1 = r2 ∧ P (v3 + 8, M2)) hR (fun r M' h => ⟨rfl, hP M' h⟩)
theorem lwc_10 (hv : V8 L v3) (hR : Rel M) (hP : ∀ M', Rel M' → P (v3 + 8, M')) : w_law_10 L xs P v3 M := by
  obtain ⟨h1, h2, h3, h4, h5, h6, h7⟩ := hv
  unfold w_law_10
  simp only [h1, h2, true_and]
  exact law_gen (c := fun M q => w_X11_of _ _ M q) (m := fun M q => w_X12_of _ _ M q) (sp := fun N => spOf _ _ N) (fun M N q a b c => cc_of a b c) (fun M q b c => mm_of b c) (fun N b => ii_of b) (Q := fun r1 r2 M2 => r1 = r2 ∧ P (v3 + 8, M2)) hR (fun r M' h => ⟨rfl, hP M' h⟩)
theorem lwc_11 (hv : V8 L v3) (hR : Rel M) (hP : ∀ M', Rel M' → P (v3 + 8, M')) : w_law_11 L xs P v3 M := by
  obtain ⟨h1, h2, h3, h4, h5, h6, h7⟩ := hv
  unfold w_law_11
  simp only [h1, h2, h3, h4, true_and]
  exact law_ask (c := fun M q => w_X11_plain _ _ _ _ M q) (m := fun M q => w_X12_plain _ _ _ _ M q) (sp := fun N => spPlain _ _ _ _ N) (fun M N q a b c => c_plain a b c) (fun M q b c => m_plain b c) (Q := fun r1 r2 M2 => r1 = r2 ∧ P (v3 + 8, M2)) hR (fun r M' h => ⟨rfl, hP M' h⟩)
theorem lwc_12 (hv : V8 L v3) (hR : Rel M) (hP : ∀ M', Rel M' → P (v3 + 8, M')) : w_law_12 L xs P v3 M := by
  obtain ⟨h1, h2, h3, h4, h5, h6, h7⟩ := hv
  unfold w_law_12
  simp only [h1, h2, h3, h4, h5, true_and]
  exact law_ask (c := fun M q => w_X11_figure _ _ _ _ _ M q) (m := fun M q => w_X12_figure _ _ _ _ _ M q) (sp := fun N => spFig _ _ _ _ _ N) (fun M N q a b c => c_fig a b c) (fun M q b c => m_fig b c) (Q := fun r1 r2 M2 => r1 = r2 ∧ P (v3 + 8, M2)) hR (fun r M' h => ⟨rfl, hP M' h⟩)
theorem lwc_13 (hv : V8 L v3) (hR : Rel M) (hP : ∀ M', Rel M' → P (v3 + 8, M')) : w_law_13 L xs P v3 M := by
  obtain ⟨h1, h2, h3, h4, h5, h6, h7⟩ := hv
  unfold w_law_13
  simp only [h1, h2, h3, h4, h5, h6, h7, true_and]
  exact law_gen (c := fun M q => w_X11_pair _ _ _ _ _ _ _ M q) (m := fun M q => w_X12_pair _ _ _ _ _ _ _ M q) (sp := fun N => spPair _ _ _ _ _ _ _ N) (fun M N q a b c => cc_pair a b c) (fun M q b c => mm_pair b c) (fun N b => ii_pair b) (Q := fun r1 r2 M2 => r1 = r2 ∧ P (v3 + 8, M2)) hR (fun r M' h => ⟨rfl, hP M' h⟩)
theorem lwc_14 (hv : V8 L v3) (hR : Rel M) (hP : ∀ M', Rel M' → P (v3 + 8, M')) : w_law_14 L xs P v3 M := by
  obtain ⟨h1, h2, h3, h4, h5, h6, h7⟩ := hv
  unfold w_law_14
  simp only [h1, true_and]
  exact law_gen (c := fun M q => w_X11_difference _ M q) (m := fun M q => w_X12_difference _ M q) (sp := fun N => spDif _ N) (fun M N q a b c => cc_dif a b c) (fun M q b c => mm_dif b c) (fun N b => ii_dif b) (Q := fun r1 r2 M2 => r1 = r2 ∧ P (v3 + 8, M2)) hR (fun r M' h => ⟨rfl, hP M' h⟩)
theorem lwc_15 (hv : V8 L v3) (hR : Rel M) (hP : ∀ M', Rel M' → P (v3 + 8, M')) : w_law_15 L xs P v3 M := by
  obtain ⟨h1, h2, h3, h4, h5, h6, h7⟩ := hv
  unfold w_law_15
  exact law_gen (c := fun M q => w_X11_stand M q) (m := fun M q => w_X12_stand M q) (sp := fun N => spStand N) (fun M N q a b c => cc_stand a c) (fun M q b c => mm_stand c) (fun N b => ii_stand b) (Q := fun r1 r2 M2 => r1 = r2 ∧ P (v3 + 8, M2)) hR (fun r M' h => ⟨rfl, hP M' h⟩)
theorem lwc_16 (hv : V8 L v3) (hR : Rel M) (hP : ∀ M', Rel M' → P (v3 + 8, M')) : w_law_16 L xs P v3 M := by
  obtain ⟨h1, h2, h3, h4, h5, h6, h7⟩ := hv
  unfold w_law_16
  simp only [h1, true_and]
  exact law_ask (c := fun M q => w_X11_odds _ M q) (m := fun M q => w_X12_odds _ M q) (sp := fun N => spOdds _ N) (fun M N q a b c => c_odds a b c) (fun M q b c => m_odds b c) (Q := fun r1 r2 M2 => r1 = r2 ∧ P (v3 + 8, M2)) hR (fun r M' h => ⟨rfl, hP M' h⟩)
theorem lwc_17 (hv : V8 L v3) (hR : Rel M) (hP : ∀ M', Rel M' → P (v3 + 8, M')) : w_law_17 L xs P v3 M := by
  obtain ⟨h1, h2, h3, h4, h5, h6, h7⟩ := hv
  unfold w_law_17
  simp only [h1, true_and]
  exact law_gen (c := fun M q => w_X11_look _ M q) (m := fun M q => w_X12_look _ M q) (sp := fun N => spLook _ N) (fun M N q a b c => cc_look a b c) (fun M q b c => mm_look b c) (fun N b => ii_look b) (Q := fun r1 r2 M2 => r1 = r2 ∧ P (v3 + 8, M2)) hR (fun r M' h => ⟨rfl, hP M' h⟩)
theorem lwc_18 (hv : V8 L v3) (hR : Rel M) (hP : ∀ M', Rel M' → P (v3 + 8, M')) : w_law_18 L xs P v3 M := by
  obtain ⟨h1, h2, h3, h4, h5, h6, h7⟩ := hv
  unfold w_law_18
  simp only [h1, h2, true_and]
  exact law_gen (c := fun M q => w_X11_sure _ _ M q) (m := fun M q => w_X12_sure _ _ M q) (sp := fun N => spSure _ _ N) (fun M N q a b c => cc_sure a c) (fun M q b c => mm_sure c) (fun N b => ii_sure b) (Q := fun r1 r2 M2 => r1 = r2 ∧ P (v3 + 8, M2)) hR (fun r M' h => ⟨rfl, hP M' h⟩)
theorem lwc_19 (hv : V8 L v3) (hR : Rel M) (hP : ∀ M', Rel M' → P (v3 + 8, M')) : w_law_19 L xs P v3 M := by
  obtain ⟨h1, h2, h3, h4, h5, h6, h7⟩ := hv
  unfold w_law_19
  exact law_ask (c := fun M q => w_X11_answer M q) (m := fun M q => w_X12_answer M q) (sp := fun N => spAns N) (fun M N q a b c => c_ans a b c) (fun M q b c => m_ans b c) (Q := fun r1 r2 M2 => r1 = r2 ∧ P (v3 + 8, M2)) hR (fun r M' h => ⟨rfl, hP M' h⟩)
theorem lwc_20 (hv : V8 L v3) (hR : Rel M) (hP : ∀ M', Rel M' → P (v3 + 8, M')) : w_law_20 L xs P v3 M := by
  obtain ⟨h1, h2, h3, h4, h5, h6, h7⟩ := hv
  unfold w_law_20
  simp only [h1, h2, h3, h4, h5, h6, true_and]
  exact law_ask (c := fun M q => w_X11_step _ _ _ _ _ _ M q) (m := fun M q => w_X12_step_ _ _ _ _ _ _ M q) (sp := fun N => spStep _ _ _ _ _ _ N) (fun M N q a b c => c_step a b c) (fun M q b c => m_step b c) (Q := fun r1 r2 M2 => r1 = r2 ∧ P (v3 + 8, M2)) hR (fun r M' h => ⟨rfl, hP M' h⟩)
theorem lwc_21 (hv : V8 L v3) (hR : Rel M) (hP : ∀ M', Rel M' → P (v3 + 8, M')) : w_law_21 L xs P v3 M := by
  obtain ⟨h1, h2, h3, h4, h5, h6, h7⟩ := hv
  unfold w_law_21
  simp only [h1, h2, h3, h4, h5, h6, true_and]
  exact law_ask (c := fun M q => w_X11_back _ _ _ _ _ _ M q) (m := fun M q => w_X12_back _ _ _ _ _ _ M q) (sp := fun N => spBack _ _ _ _ _ _ N) (fun M N q a b c => c_back a b c) (fun M q b c => m_back b c) (Q := fun r1 r2 M2 => r1 = r2 ∧ P (v3 + 8, M2)) hR (fun r M' h => ⟨rfl, hP M' h⟩)
theorem lwc_22 (hv : V8 L v3) (hR : Rel M) (hP : ∀ M', Rel M' → P (v3 + 8, M')) : w_law_22 L xs P v3 M := by
  obtain ⟨h1, h2, h3, h4, h5, h6, h7⟩ := hv
  unfold w_law_22
  simp only [h1, h2, true_and]
  exact law_ask (c := fun M q => w_X11_with _ _ M q) (m := fun M q => w_X12_with _ _ M q) (sp := fun N => spWith _ _ N) (fun M N q a b c => c_with a b c) (fun M q b c => m_with b c) (Q := fun r1 r2 M2 => r1 = r2 ∧ P (v3 + 8, M2)) hR (fun r M' h => ⟨rfl, hP M' h⟩)
theorem lwc_23 (hv : V8 L v3) (hR : Rel M) (hP : ∀ M', Rel M' → P (v3 + 8, M')) : w_law_23 L xs P v3 M := by
  obtain ⟨h1, h2, h3, h4, h5, h6, h7⟩ := hv
  unfold w_law_23
  simp only [h1, h2, true_and]
  exact law_gen (c := fun M q => w_X11_keep _ _ M q) (m := fun M q => w_X12_keep _ _ M q) (sp := fun N => spKeep _ _ N) (fun M N q a b c => cc_keep a b (b01_z _) c) (fun M q b c => mm_keep b (b01_z _) c) (fun N b => ii_keep b (b01_z _)) (Q := fun r1 r2 M2 => r1 = r2 ∧ P (v3 + 8, M2)) hR (fun r M' h => ⟨rfl, hP M' h⟩)
theorem lwc_24 (hv : V8 L v3) (hR : Rel M) (hP : ∀ M', Rel M' → P (v3 + 8, M')) : w_law_24 L xs P v3 M := by
  obtain ⟨h1, h2, h3, h4, h5, h6, h7⟩ := hv
  unfold w_law_24
  simp only [h1, h2, h3, h4, h5, true_and]
  exact law_ask (c := fun M q => w_X11_fit _ _ _ _ _ M q) (m := fun M q => w_X12_fit _ _ _ _ _ M q) (sp := fun N => spFit _ _ _ _ _ N) (fun M N q a b c => c_fit a b c) (fun M q b c => m_fit b c) (Q := fun r1 r2 M2 => r1 = r2 ∧ P (v3 + 8, M2)) hR (fun r M' h => ⟨rfl, hP M' h⟩)
theorem lwc_25 (hv : V8 L v3) (hR : Rel M) (hP : ∀ M', Rel M' → P (v3 + 8, M')) : w_law_25 L xs P v3 M := by
  obtain ⟨h1, h2, h3, h4, h5, h6, h7⟩ := hv
  unfold w_law_25
  simp only [h1, h2, h3, h4, h5, h6, h7, true_and]
  exact law_ask (c := fun M q => w_X11_foretell _ _ _ _ _ _ _ M q) (m := fun M q => w_X12_foretell _ _ _ _ _ _ _ M q) (sp := fun N => spFor _ _ _ _ _ _ _ N) (fun M N q a b c => c_for a b c) (fun M q b c => m_for b c) (Q := fun r1 r2 M2 => r1 = r2 ∧ P (v3 + 8, M2)) hR (fun r M' h => ⟨rfl, hP M' h⟩)
theorem lwc_26 (hv : V8 L v3) (hR : Rel M) (hP : ∀ M', Rel M' → P (v3 + 8, M')) : w_law_26 L xs P v3 M := by
  obtain ⟨h1, h2, h3, h4, h5, h6, h7⟩ := hv
  unfold w_law_26
  simp only [h1, h2, h3, h4, true_and]
  exact law_ask (c := fun M q => w_X11_seek _ _ _ _ M q) (m := fun M q => w_X12_seek _ _ _ _ M q) (sp := fun N => spSeek _ _ _ _ N) (fun M N q a b c => c_seek a b c) (fun M q b c => m_seek b c) (Q := fun r1 r2 M2 => r1 = r2 ∧ P (v3 + 8, M2)) hR (fun r M' h => ⟨rfl, hP M' h⟩)
theorem lwc_27 (hv : V8 L v3) (hR : Rel M) (hP : ∀ M', Rel M' → P (v3 + 8, M')) : w_law_27 L xs P v3 M := by
  obtain ⟨h1, h2, h3, h4, h5, h6, h7⟩ := hv
  unfold w_law_27
  simp only [h1, true_and]
  exact law_gen (c := fun M q => w_X11_write _ M q) (m := fun M q => w_X12_write _ M q) (sp := fun N => spWrite _ N) (fun M N q a b c => cc_write a b c) (fun M q b c => mm_write b c) (fun N b => ii_write b) (Q := fun r1 r2 M2 => r1 = r2 ∧ P (v3 + 8, M2)) hR (fun r M' h => ⟨rfl, hP M' h⟩)
theorem lwc_28 (hv : V8 L v3) (hR : Rel M) (hP : ∀ M', Rel M' → P (v3 + 8, M')) : w_law_28 L xs P v3 M := by
  obtain ⟨h1, h2, h3, h4, h5, h6, h7⟩ := hv
  unfold w_law_28
  exact law_gen (c := fun M q => w_X11_erase M q) (m := fun M q => w_X12_erase M q) (sp := fun N => spErase N) (fun M N q a b c => cc_erase a c) (fun M q b c => mm_erase c) (fun N b => ii_erase b) (Q := fun r1 r2 M2 => r1 = r2 ∧ P (v3 + 8, M2)) hR (fun r M' h => ⟨rfl, hP M' h⟩)
theorem lwc_29 (hv : V8 L v3) (hR : Rel M) (hP : ∀ M', Rel M' → P (v3 + 8, M')) : w_law_29 L xs P v3 M := by
  obtain ⟨h1, h2, h3, h4, h5, h6, h7⟩ := hv
  unfold w_law_29
  exact law_ask (c := fun M q => w_X11_fault M q) (m := fun M q => w_X12_fault M q) (sp := fun N => spFault N) (fun M N q a b c => c_fault a b c) (fun M q b c => m_fault b c) (Q := fun r1 r2 M2 => r1 = r2 ∧ P (v3 + 8, M2)) hR (fun r M' h => ⟨rfl, hP M' h⟩)
theorem lwc_30 (hv : V8 L v3) (hR : Rel M) (hP : ∀ M', Rel M' → P (v3 + 8, M')) : w_law_30 L xs P v3 M := by
  obtain ⟨h1, h2, h3, h4, h5, h6, h7⟩ := hv
  unfold w_law_30
  simp only [h1, h2, h3, true_and]
  exact law_ask (c := fun M q => w_X11_rung _ _ _ M q) (m := fun M q => w_X12_rung _ _ _ M q) (sp := fun N => spRung _ _ _ N) (fun M N q a b c => c_rung a b c) (fun M q b c => m_rung b c) (Q := fun r1 r2 M2 => r1 = r2 ∧ P (v3 + 8, M2)) hR (fun r M' h => ⟨rfl, hP M' h⟩)
theorem lwc_31 (hv : V8 L v3) (hR : Rel M) (hP : ∀ M', Rel M' → P (v3 + 8, M')) : w_law_31 L xs P v3 M := by
  obtain ⟨h1, h2, h3, h4, h5, h6, h7⟩ := hv
  unfold w_law_31
  simp only [h1, h2, true_and]
  exact law_gen (c := fun M q => w_X11_forge _ _ M q) (m := fun M q => w_X12_forge _ _ M q) (sp := fun N => spForge _ _ N) (fun M N q a b c => cc_forge a b c) (fun M q b c => mm_forge b c) (fun N b => ii_forge b) (Q := fun r1 r2 M2 => r1 = r2 ∧ P (v3 + 8, M2)) hR (fun r M' h => ⟨rfl, hP M' h⟩)
theorem lwc_32 (hv : V8 L v3) (hR : Rel M) (hP : ∀ M', Rel M' → P (v3 + 8, M')) : w_law_32 L xs P v3 M := by
  obtain ⟨h1, h2, h3, h4, h5, h6, h7⟩ := hv
  unfold w_law_32
  exact law_ask (c := fun M q => w_X11_check M q) (m := fun M q => w_X12_check M q) (sp := fun N => spChk N) (fun M N q a b c => c_chk a b c) (fun M q b c => m_chk b c) (Q := fun r1 r2 M2 => r1 = r2 ∧ P (v3 + 8, M2)) hR (fun r M' h => ⟨rfl, hP M' h⟩)
theorem lwc_33 (hv : V8 L v3) (hR : Rel M) (hP : ∀ M', Rel M' → P (v3 + 8, M')) : w_law_33 L xs P v3 M := by
  obtain ⟨h1, h2, h3, h4, h5, h6, h7⟩ := hv
  unfold w_law_33
  simp only [h1, true_and]
  exact law_image hR (fun r M' h => ⟨rfl, hP M' h⟩)
theorem lwc_34 (hv : V8 L v3) (hR : Rel M) (hP : ∀ M', Rel M' → P (v3 + 8, M')) : w_law_34 L xs P v3 M := by
  obtain ⟨h1, h2, h3, h4, h5, h6, h7⟩ := hv
  unfold w_law_34
  simp only [h1, true_and]
  exact law_from hR (fun r M' h => ⟨rfl, hP M' h⟩)
theorem lwc_35 (hv : V8 L v3) (hR : Rel M) (hP : ∀ M', Rel M' → P (v3 + 8, M')) : w_law_35 L xs P v3 M := by
  obtain ⟨h1, h2, h3, h4, h5, h6, h7⟩ := hv
  unfold w_law_35
  simp only [h1, true_and]
  exact s_cnt11 hR.1 hR.2.1 (s_cnt12 hR.2.1 ⟨rfl, hP M hR⟩)
theorem lwc_36 (hv : V8 L v3) (hR : Rel M) (hP : ∀ M', Rel M' → P (v3 + 8, M')) : w_law_36 L xs P v3 M := by
  obtain ⟨h1, h2, h3, h4, h5, h6, h7⟩ := hv
  unfold w_law_36
  exact s_dig11 hR.1 hR.2.1 (s_dig12 hR.2.1 ⟨rfl, hP M hR⟩)
end
theorem law_all {L : Nat} {xs : Nat → Int32} (hL : L ≤ 4096) {M : Mem} (hR0 : Rel M) : w_law_l L xs (0, M) := by
  unfold w_law_l
  refine lfp_intro (fun (t : Int32 × Mem) => Rel t.2 ∧ 0 ≤ t.1.toInt ∧ t.1.toInt ≤ 4096) (fun t => 4097 - t.1.toInt.toNat) ?_ _ ⟨hR0, (show 0 ≤ (0 : Int32).toInt by decide), (show (0 : Int32).toInt ≤ 4096 by decide)⟩
  intro P st hJ hPP
  obtain ⟨v3, M⟩ := st
  obtain ⟨a0, b0, c0⟩ := hJ
  have hR : Rel M := a0
  have hb : 0 ≤ v3.toInt := b0
  have hc : v3.toInt ≤ 4096 := c0
  clear a0 b0 c0
  unfold w_law_F
  dsimp only
  intro hlt
  have f8 : (8 : Int32).toInt = 8 := rfl
  have oL : (Int32.ofNat L).toInt = (L : Int) := ti_ofNat (by omega)
  have eL : (Int32.ofNat L - 8).toInt = (L : Int) - 8 := by
    rw [ti_sub (by rw [oL, f8]; omega) (by rw [oL, f8]; omega), oL, f8]
  rw [lt_i, eL] at hlt
  have e3 := ix_n hb
  have hv : V8 L v3 := ⟨vp_of (ix_a e3 (w := 1) (i := 1) rfl (by omega)) (by omega), vp_of (ix_a e3 (w := 2) (i := 2) rfl (by omega)) (by omega), vp_of (ix_a e3 (w := 3) (i := 3) rfl (by omega)) (by omega), vp_of (ix_a e3 (w := 4) (i := 4) rfl (by omega)) (by omega), vp_of (ix_a e3 (w := 5) (i := 5) rfl (by omega)) (by omega), vp_of (ix_a e3 (w := 6) (i := 6) rfl (by omega)) (by omega), vp_of (ix_a e3 (w := 7) (i := 7) rfl (by omega)) (by omega)⟩
  have e8 := ix_a e3 (w := 8) (i := 8) rfl (by omega)
  have hP' : ∀ M', Rel M' → P (v3 + 8, M') := fun M' h' => by
    refine hPP (v3 + 8, M') ⟨h', ?_, ?_⟩ ?_
    · show 0 ≤ (v3 + 8).toInt
      rw [e8]; omega
    · show (v3 + 8).toInt ≤ 4096
      rw [e8]; omega
    · show 4097 - (v3 + 8).toInt.toNat < 4097 - v3.toInt.toNat
      rw [e8]
      omega
  exact ⟨vp_of e3 (by omega), fun _ => lwc_0 hv hR hP', fun _ => lwc_1 hv hR hP', fun _ => lwc_2 hv hR hP', fun _ => lwc_3 hv hR hP', fun _ => lwc_4 hv hR hP', fun _ => lwc_5 hv hR hP', fun _ => lwc_6 hv hR hP', fun _ => lwc_7 hv hR hP', fun _ => lwc_8 hv hR hP', fun _ => lwc_9 hv hR hP', fun _ => lwc_10 hv hR hP', fun _ => lwc_11 hv hR hP', fun _ => lwc_12 hv hR hP', fun _ => lwc_13 hv hR hP', fun _ => lwc_14 hv hR hP', fun _ => lwc_15 hv hR hP', fun _ => lwc_16 hv hR hP', fun _ => lwc_17 hv hR hP', fun _ => lwc_18 hv hR hP', fun _ => lwc_19 hv hR hP', fun _ => lwc_20 hv hR hP', fun _ => lwc_21 hv hR hP', fun _ => lwc_22 hv hR hP', fun _ => lwc_23 hv hR hP', fun _ => lwc_24 hv hR hP', fun _ => lwc_25 hv hR hP', fun _ => lwc_26 hv hR hP', fun _ => lwc_27 hv hR hP', fun _ => lwc_28 hv hR hP', fun _ => lwc_29 hv hR hP', fun _ => lwc_30 hv hR hP', fun _ => lwc_31 hv hR hP', fun _ => lwc_32 hv hR hP', fun _ => lwc_33 hv hR hP', fun _ => lwc_34 hv hR hP', fun _ => lwc_35 hv hR hP', fun _ => lwc_36 hv hR hP', fun _ => hP' M hR⟩

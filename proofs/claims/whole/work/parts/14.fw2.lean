def w_X11_odds_b45 (t2 : Int32) (t3 : Int32) (M : Mem) (q : Int32 → Mem → Prop) : Prop := w_X10_dealt 48 13 t2 t3 M (fun (r2 : Int32) (M1 : Mem) => q r2 M1)
set_option maxRecDepth 100000 in
set_option maxHeartbeats 4000000 in
theorem ok_X11_odds_b45 {c : CtxT} {g : Gl} {l : Launch} {t2 : Int32} {t3 : Int32} {q : Int32 → Mem → Prop} {M : Mem} (C : Cx c cX11_odds 2 RX11 g l (Rm 4 143)) (r : Rt c (some .int) (pI q) 0 0) (hw : w_X11_odds_b45 t2 t3 M q ) : X c S0 45 [] [.int t3, .int t2, .ref (g.2.2.2 + 13), .ref (g.2.2.2 + 48)] (stat M) := by
  unfold w_X11_odds_b45 at hw
  refine n_callVI s48 rfl C (ok_X10_dealt s48 s13 hw) mv_X11_211 rfl rfl ⟨Nat.le_of_ble_eq_true rfl, Nat.le_of_ble_eq_true rfl⟩ (Nat.le_of_ble_eq_true rfl) dX11_odds_45 (fun r2 M1 hw => ?_)
  exact n_ireturn C r dX11_odds_48 hw
def w_X11_odds (v1 : Int32) (M : Mem) (q : Int32 → Mem → Prop) : Prop := w_X11_isOut v1 (2 : Int32) M (fun (r4 : Int32) (M3 : Mem) => ((r4 = 0 → ((¬ v1 = (1 : Int32) → w_X11_odds_b45 (M3.1 12 1) (0 : Int32) M3 q) ∧ (v1 = (1 : Int32) → w_X11_odds_b45 (M3.1 12 1) (1 : Int32) M3 q))) ∧ (¬ r4 = 0 → q (-2 : Int32) M3)))
set_option maxRecDepth 100000 in
set_option maxHeartbeats 4000000 in
theorem ok_X11_odds {g : Gl} {l : Launch} {v1 : Int32} {M : Mem} {q : Int32 → Mem → Prop} (hw : w_X11_odds v1 M q) : CtI g l yX11_odds cX11_odds 2 (some .int) 4 143 [.ref (g.2.2.2 + 0), .int v1] M q := by
  refine n_introI (by decide +kernel) (Nat.le_of_ble_eq_true rfl) (fun c C r => ?_)
  have C : Cx c cX11_odds 2 RX11 g l (Rm 4 143) := C
  refine x_sub [0, 1] (lv' := [(0, .ref (g.2.2.2 + 0)), (1, .int v1)]) rfl ?_
  unfold w_X11_odds at hw
  refine x_iload_n C dX11_odds_0 rfl rfl ?_
  refine x_iconst (v := (2 : Int32)) C dX11_odds_1 (by decide) ?_
  refine n_callSI C (ok_X11_isOut  hw) ms_X11_87 rfl rfl ⟨Nat.le_of_ble_eq_true rfl, Nat.le_of_ble_eq_true rfl⟩ (Nat.le_of_ble_eq_true rfl) dX11_odds_2 (fun r4 M3 hw => ?_)
  refine x_if_eq (tgt := 11) C dX11_odds_5 (by decide) (fun h5 => ?_) (fun h5 => ?_)
  · replace hw := hw.1 h5
    refine x_aload_n C dX11_odds_11 rfl rfl ?_
    refine n_getS (dd := 48) C fl_X11_41 s0 (fun _ _ => rfl) rfl dX11_odds_12 ?_
    refine x_aload_n C dX11_odds_15 rfl rfl ?_
    refine n_getS (dd := 1) C fl_X11_10 s0 (fun _ _ => rfl) rfl dX11_odds_16 ?_
    refine n_getS (dd := 11) C fl_X11_196 s1 (fun _ _ => rfl) rfl dX11_odds_19 ?_
    refine n_getS (dd := 1) C fl_X11_208 s12 (fun _ _ => rfl) rfl dX11_odds_22 ?_
    refine x_aload_n C dX11_odds_25 rfl rfl ?_
    refine n_getS (dd := 1) C fl_X11_10 s0 (fun _ _ => rfl) rfl dX11_odds_26 ?_
    refine n_getS (dd := 11) C fl_X11_196 s1 (fun _ _ => rfl) rfl dX11_odds_29 ?_
    refine n_getI C fl_X11_200 s12 (fun _ _ => rfl) dX11_odds_32 ?_
    refine x_iload_n C dX11_odds_35 rfl rfl ?_
    refine x_iconst (v := (1 : Int32)) C dX11_odds_36 (by decide) ?_
    refine x_icmp_ne (tgt := 44) C dX11_odds_37 (by decide) (fun h6 => ?_) (fun h6 => ?_)
    · replace hw := hw.1 h6
      refine x_iconst (v := (0 : Int32)) C dX11_odds_44 (by decide) ?_
      exact x_sub [] rfl (ok_X11_odds_b45 C r  hw)
    · replace hw := hw.2 h6
      refine x_iconst (v := (1 : Int32)) C dX11_odds_40 (by decide) ?_
      refine x_goto (tgt := 45) C dX11_odds_41 (by decide) ?_
      exact x_sub [] rfl (ok_X11_odds_b45 C r  hw)
  · replace hw := hw.2 h5
    refine x_bipush (v := (-2 : Int32)) C dX11_odds_8 (by decide) ?_
    exact n_ireturn C r dX11_odds_10 hw

def w_X11_look (v1 : Int32) (M : Mem) (q : Int32 → Mem → Prop) : Prop := w_X11_isBeyond v1 (1 : Int32) (16 : Int32) M (fun (r2 : Int32) (M1 : Mem) => ((¬ r2 = 0 → q (-2 : Int32) M1) ∧ (r2 = 0 → w_X5_lastLook 12 M1 (fun (r5 : Int32) (M4 : Mem) => ((r5 < v1 → w_X5_addLook 12 v1 M4 (fun (r8 : Int32) (M7 : Mem) => q r8 M7)) ∧ (¬ r5 < v1 → q (-2 : Int32) M4))))))
set_option maxRecDepth 100000 in
set_option maxHeartbeats 4000000 in
theorem ok_X11_look {g : Gl} {l : Launch} {v1 : Int32} {M : Mem} {q : Int32 → Mem → Prop} (hw : w_X11_look v1 M q) : CtI g l yX11_look cX11_look 3 (some .int) 2 22 [.ref (g.2.2.2 + 0), .int v1] M q := by
  refine n_introI (by decide +kernel) (Nat.le_of_ble_eq_true rfl) (fun c C r => ?_)
  have C : Cx c cX11_look 3 RX11 g l (Rm 2 22) := C
  refine x_sub [0, 1] (lv' := [(0, .ref (g.2.2.2 + 0)), (1, .int v1)]) rfl ?_
  unfold w_X11_look at hw
  refine x_aload_n C dX11_look_0 rfl rfl ?_
  refine n_getS (dd := 1) C fl_X11_10 s0 (fun _ _ => rfl) rfl dX11_look_1 ?_
  refine n_getS (dd := 11) C fl_X11_196 s1 (fun _ _ => rfl) rfl dX11_look_4 ?_
  refine x_astore_n C dX11_look_7 rfl (Nat.le_of_ble_eq_true rfl) ?_
  refine x_iload_n C dX11_look_8 rfl rfl ?_
  refine x_iconst (v := (1 : Int32)) C dX11_look_9 (by decide) ?_
  refine x_bipush (v := (16 : Int32)) C dX11_look_10 (by decide) ?_
  refine n_callSI C (ok_X11_isBeyond  hw) ms_X11_128 rfl rfl ⟨Nat.le_of_ble_eq_true rfl, Nat.le_of_ble_eq_true rfl⟩ (Nat.le_of_ble_eq_true rfl) dX11_look_12 (fun r2 M1 hw => ?_)
  refine x_if_ne (tgt := 26) C dX11_look_15 (by decide) (fun h3 => ?_) (fun h3 => ?_)
  · replace hw := hw.1 h3
    refine x_bipush (v := (-2 : Int32)) C dX11_look_26 (by decide) ?_
    exact n_ireturn C r dX11_look_28 hw
  · replace hw := hw.2 h3
    refine x_iload_n C dX11_look_18 rfl rfl ?_
    refine x_aload_n C dX11_look_19 rfl rfl ?_
    refine n_callVI s12 rfl C (ok_X5_lastLook s12 hw) mv_X11_215 rfl rfl ⟨Nat.le_of_ble_eq_true rfl, Nat.le_of_ble_eq_true rfl⟩ (Nat.le_of_ble_eq_true rfl) dX11_look_20 (fun r5 M4 hw => ?_)
    refine x_icmp_gt (tgt := 29) C dX11_look_23 (by decide) (fun h6 => ?_) (fun h6 => ?_)
    · replace hw := hw.1 h6
      refine x_aload_n C dX11_look_29 rfl rfl ?_
      refine x_iload_n C dX11_look_30 rfl rfl ?_
      refine n_callVI s12 rfl C (ok_X5_addLook s12 hw) mv_X11_218 rfl rfl ⟨Nat.le_of_ble_eq_true rfl, Nat.le_of_ble_eq_true rfl⟩ (Nat.le_of_ble_eq_true rfl) dX11_look_31 (fun r8 M7 hw => ?_)
      exact n_ireturn C r dX11_look_34 hw
    · replace hw := hw.2 h6
      refine x_bipush (v := (-2 : Int32)) C dX11_look_26 (by decide) ?_
      exact n_ireturn C r dX11_look_28 hw

def w_X11_sure (v1 : Int32) (v2 : Int32) (M : Mem) (q : Int32 → Mem → Prop) : Prop := w_X11_isBeyond v1 (2 : Int32) (1000 : Int32) M (fun (r2 : Int32) (M1 : Mem) => ((¬ r2 = 0 → q (-2 : Int32) M1) ∧ (r2 = 0 → w_X11_isBeyond v2 (0 : Int32) (10000 : Int32) M1 (fun (r5 : Int32) (M4 : Mem) => ((r5 = 0 → ∀ M7 : Mem, M7 = uI M4 12 4 v1 → ∀ M8 : Mem, M8 = uI M7 12 5 v2 → ∀ M9 : Mem, M9 = uI M8 12 3 (0 : Int32) → q (1 : Int32) M9) ∧ (¬ r5 = 0 → q (-2 : Int32) M4))))))
set_option maxRecDepth 100000 in
set_option maxHeartbeats 4000000 in
theorem ok_X11_sure {g : Gl} {l : Launch} {v1 : Int32} {v2 : Int32} {M : Mem} {q : Int32 → Mem → Prop} (hw : w_X11_sure v1 v2 M q) : CtI g l yX11_sure cX11_sure 3 (some .int) 2 22 [.ref (g.2.2.2 + 0), .int v1, .int v2] M q := by
  refine n_introI (by decide +kernel) (Nat.le_of_ble_eq_true rfl) (fun c C r => ?_)
  have C : Cx c cX11_sure 3 RX11 g l (Rm 2 22) := C
  refine x_sub [0, 1, 2] (lv' := [(0, .ref (g.2.2.2 + 0)), (1, .int v1), (2, .int v2)]) rfl ?_
  unfold w_X11_sure at hw
  refine x_iload_n C dX11_sure_0 rfl rfl ?_
  refine x_iconst (v := (2 : Int32)) C dX11_sure_1 (by decide) ?_
  refine x_sipush (v := (1000 : Int32)) C dX11_sure_2 (by decide) ?_
  refine n_callSI C (ok_X11_isBeyond  hw) ms_X11_128 rfl rfl ⟨Nat.le_of_ble_eq_true rfl, Nat.le_of_ble_eq_true rfl⟩ (Nat.le_of_ble_eq_true rfl) dX11_sure_5 (fun r2 M1 hw => ?_)
  refine x_if_ne (tgt := 22) C dX11_sure_8 (by decide) (fun h3 => ?_) (fun h3 => ?_)
  · replace hw := hw.1 h3
    refine x_bipush (v := (-2 : Int32)) C dX11_sure_22 (by decide) ?_
    exact n_ireturn C r dX11_sure_24 hw
  · replace hw := hw.2 h3
    refine x_iload_n C dX11_sure_11 rfl rfl ?_
    refine x_iconst (v := (0 : Int32)) C dX11_sure_12 (by decide) ?_
    refine x_sipush (v := (10000 : Int32)) C dX11_sure_13 (by decide) ?_
    refine n_callSI C (ok_X11_isBeyond  hw) ms_X11_128 rfl rfl ⟨Nat.le_of_ble_eq_true rfl, Nat.le_of_ble_eq_true rfl⟩ (Nat.le_of_ble_eq_true rfl) dX11_sure_16 (fun r5 M4 hw => ?_)
    refine x_if_eq (tgt := 25) C dX11_sure_19 (by decide) (fun h6 => ?_) (fun h6 => ?_)
    · replace hw := hw.1 h6
      refine x_aload_n C dX11_sure_25 rfl rfl ?_
      refine n_getS (dd := 1) C fl_X11_10 s0 (fun _ _ => rfl) rfl dX11_sure_26 ?_
      refine n_getS (dd := 11) C fl_X11_196 s1 (fun _ _ => rfl) rfl dX11_sure_29 ?_
      refine x_iload_n C dX11_sure_32 rfl rfl ?_
      obtain ⟨M7, eM7⟩ : ∃ z : Mem, z = uI M4 12 4 v1 := ⟨_, rfl⟩
      replace hw := hw M7 eM7
      refine m_putI C fp_X11_222 s12 (fun _ _ => rfl) rfl rfl eM7 dX11_sure_33 ?_
      refine x_aload_n C dX11_sure_36 rfl rfl ?_
      refine n_getS (dd := 1) C fl_X11_10 s0 (fun _ _ => rfl) rfl dX11_sure_37 ?_
      refine n_getS (dd := 11) C fl_X11_196 s1 (fun _ _ => rfl) rfl dX11_sure_40 ?_
      refine x_iload_n C dX11_sure_43 rfl rfl ?_
      obtain ⟨M8, eM8⟩ : ∃ z : Mem, z = uI M7 12 5 v2 := ⟨_, rfl⟩
      replace hw := hw M8 eM8
      refine m_putI C fp_X11_225 s12 (fun _ _ => rfl) rfl rfl eM8 dX11_sure_44 ?_
      refine x_aload_n C dX11_sure_47 rfl rfl ?_
      refine n_getS (dd := 1) C fl_X11_10 s0 (fun _ _ => rfl) rfl dX11_sure_48 ?_
      refine n_getS (dd := 11) C fl_X11_196 s1 (fun _ _ => rfl) rfl dX11_sure_51 ?_
      refine x_iconst (v := (0 : Int32)) C dX11_sure_54 (by decide) ?_
      obtain ⟨M9, eM9⟩ : ∃ z : Mem, z = uI M8 12 3 (0 : Int32) := ⟨_, rfl⟩
      replace hw := hw M9 eM9
      refine m_putI C fp_X11_228 s12 (fun _ _ => rfl) rfl rfl eM9 dX11_sure_55 ?_
      refine x_iconst (v := (1 : Int32)) C dX11_sure_58 (by decide) ?_
      exact n_ireturn C r dX11_sure_59 hw
    · replace hw := hw.2 h6
      refine x_bipush (v := (-2 : Int32)) C dX11_sure_22 (by decide) ?_
      exact n_ireturn C r dX11_sure_24 hw

def w_X11_answer (M : Mem) (q : Int32 → Mem → Prop) : Prop := w_X5_judge 12 48 46 M (fun (r2 : Int32) (M1 : Mem) => q r2 M1)
set_option maxRecDepth 100000 in
set_option maxHeartbeats 4000000 in
theorem ok_X11_answer {g : Gl} {l : Launch} {M : Mem} {q : Int32 → Mem → Prop} (hw : w_X11_answer M q) : CtI g l yX11_answer cX11_answer 1 (some .int) 5 166 [.ref (g.2.2.2 + 0)] M q := by
  refine n_introI (by decide +kernel) (Nat.le_of_ble_eq_true rfl) (fun c C r => ?_)
  have C : Cx c cX11_answer 1 RX11 g l (Rm 5 166) := C
  refine x_sub [0] (lv' := [(0, .ref (g.2.2.2 + 0))]) rfl ?_
  unfold w_X11_answer at hw
  refine x_aload_n C dX11_answer_0 rfl rfl ?_
  refine n_getS (dd := 1) C fl_X11_10 s0 (fun _ _ => rfl) rfl dX11_answer_1 ?_
  refine n_getS (dd := 11) C fl_X11_196 s1 (fun _ _ => rfl) rfl dX11_answer_4 ?_
  refine x_aload_n C dX11_answer_7 rfl rfl ?_
  refine n_getS (dd := 48) C fl_X11_41 s0 (fun _ _ => rfl) rfl dX11_answer_8 ?_
  refine x_aload_n C dX11_answer_11 rfl rfl ?_
  refine n_getS (dd := 46) C fl_X11_34 s0 (fun _ _ => rfl) rfl dX11_answer_12 ?_
  refine n_callVI s12 rfl C (ok_X5_judge s12 s48 s46 hw) mv_X11_231 rfl rfl ⟨Nat.le_of_ble_eq_true rfl, Nat.le_of_ble_eq_true rfl⟩ (Nat.le_of_ble_eq_true rfl) dX11_answer_15 (fun r2 M1 hw => ?_)
  exact n_ireturn C r dX11_answer_18 hw

def w_X11_step (v1 : Int32) (v2 : Int32) (v3 : Int32) (v4 : Int32) (v5 : Int32) (v6 : Int32) (M : Mem) (q : Int32 → Mem → Prop) : Prop := w_X11_isNoSpot v1 v3 v4 M (fun (r2 : Int32) (M1 : Mem) => ((¬ r2 = 0 → q (-2 : Int32) M1) ∧ (r2 = 0 → w_X11_isOut v2 (M1.1 2 7) M1 (fun (r5 : Int32) (M4 : Mem) => ((¬ r5 = 0 → q (-2 : Int32) M4) ∧ (r5 = 0 → ((v2 < v1 → q (-2 : Int32) M4) ∧ (¬ v2 < v1 → w_X11_isBeyond v5 (0 : Int32) (100000 : Int32) M4 (fun (r9 : Int32) (M8 : Mem) => ((¬ r9 = 0 → q (-2 : Int32) M8) ∧ (r9 = 0 → w_X11_isOut v6 (3 : Int32) M8 (fun (r12 : Int32) (M11 : Mem) => ((r12 = 0 → w_X1_gather 52 1 v1 v2 v3 v4 M11 (fun (M14 : Mem) => w_X1_find 52 M14 (fun (r17 : Int32) (M16 : Mem) => ((¬ r17 = 0 → ((¬ v6 = 0 → ((¬ v6 = (1 : Int32) → w_X1_couldBe 52 v5 M16 (fun (r22 : Int32) (M21 : Mem) => q r22 M21)) ∧ (v6 = (1 : Int32) → q (M16.1 52 1) M16))) ∧ (v6 = 0 → q (M16.1 52 0) M16))) ∧ (r17 = 0 → q (-1 : Int32) M16))))) ∧ (¬ r12 = 0 → q (-2 : Int32) M11))))))))))))))
set_option maxRecDepth 100000 in
set_option maxHeartbeats 4000000 in
theorem ok_X11_step {g : Gl} {l : Launch} {v1 : Int32} {v2 : Int32} {v3 : Int32} {v4 : Int32} {v5 : Int32} {v6 : Int32} {M : Mem} {q : Int32 → Mem → Prop} (hw : w_X11_step v1 v2 v3 v4 v5 v6 M q) : CtI g l yX11_step cX11_step 7 (some .int) 5 96 [.ref (g.2.2.2 + 0), .int v1, .int v2, .int v3, .int v4, .int v5, .int v6] M q := by
  refine n_introI (by decide +kernel) (Nat.le_of_ble_eq_true rfl) (fun c C r => ?_)
  have C : Cx c cX11_step 7 RX11 g l (Rm 5 96) := C
  refine x_sub [0, 1, 2, 3, 4, 5, 6] (lv' := [(0, .ref (g.2.2.2 + 0)), (1, .int v1), (2, .int v2), (3, .int v3), (4, .int v4), (5, .int v5), (6, .int v6)]) rfl ?_
  unfold w_X11_step at hw
  refine x_aload_n C dX11_step_0 rfl rfl ?_
  refine x_iload_n C dX11_step_1 rfl rfl ?_
  refine x_iload_n C dX11_step_2 rfl rfl ?_
  refine x_iload C dX11_step_3 rfl ?_
  refine n_callVI s0 rfl C (ok_X11_isNoSpot  hw) mv_X11_153 rfl rfl ⟨Nat.le_of_ble_eq_true rfl, Nat.le_of_ble_eq_true rfl⟩ (Nat.le_of_ble_eq_true rfl) dX11_step_5 (fun r2 M1 hw => ?_)
  refine x_if_ne (tgt := 53) C dX11_step_8 (by decide) (fun h3 => ?_) (fun h3 => ?_)
  · replace hw := hw.1 h3
    refine x_bipush (v := (-2 : Int32)) C dX11_step_53 (by decide) ?_
    exact n_ireturn C r dX11_step_55 hw
  · replace hw := hw.2 h3
    refine x_iload_n C dX11_step_11 rfl rfl ?_
    refine x_aload_n C dX11_step_12 rfl rfl ?_
    refine n_getS (dd := 1) C fl_X11_10 s0 (fun _ _ => rfl) rfl dX11_step_13 ?_
    refine n_getS (dd := 1) C fl_X11_73 s1 (fun _ _ => rfl) rfl dX11_step_16 ?_
    refine n_getI C fl_X11_193 s2 (fun _ _ => rfl) dX11_step_19 ?_
    refine n_callSI C (ok_X11_isOut  hw) ms_X11_87 rfl rfl ⟨Nat.le_of_ble_eq_true rfl, Nat.le_of_ble_eq_true rfl⟩ (Nat.le_of_ble_eq_true rfl) dX11_step_22 (fun r5 M4 hw => ?_)
    refine x_if_ne (tgt := 53) C dX11_step_25 (by decide) (fun h6 => ?_) (fun h6 => ?_)
    · replace hw := hw.1 h6
      refine x_bipush (v := (-2 : Int32)) C dX11_step_53 (by decide) ?_
      exact n_ireturn C r dX11_step_55 hw
    · replace hw := hw.2 h6
      refine x_iload_n C dX11_step_28 rfl rfl ?_
      refine x_iload_n C dX11_step_29 rfl rfl ?_
      refine x_icmp_gt (tgt := 53) C dX11_step_30 (by decide) (fun h7 => ?_) (fun h7 => ?_)
      · replace hw := hw.1 h7
        refine x_bipush (v := (-2 : Int32)) C dX11_step_53 (by decide) ?_
        exact n_ireturn C r dX11_step_55 hw
      · replace hw := hw.2 h7
        refine x_iload C dX11_step_33 rfl ?_
        refine x_iconst (v := (0 : Int32)) C dX11_step_35 (by decide) ?_
        refine x_ldc (v := (100000 : Int32)) C dX11_step_36 kc_X11_235 ?_
        refine n_callSI C (ok_X11_isBeyond  hw) ms_X11_128 rfl rfl ⟨Nat.le_of_ble_eq_true rfl, Nat.le_of_ble_eq_true rfl⟩ (Nat.le_of_ble_eq_true rfl) dX11_step_38 (fun r9 M8 hw => ?_)
        refine x_if_ne (tgt := 53) C dX11_step_41 (by decide) (fun h10 => ?_) (fun h10 => ?_)
        · replace hw := hw.1 h10
          refine x_bipush (v := (-2 : Int32)) C dX11_step_53 (by decide) ?_
          exact n_ireturn C r dX11_step_55 hw
        · replace hw := hw.2 h10
          refine x_iload C dX11_step_44 rfl ?_
          refine x_iconst (v := (3 : Int32)) C dX11_step_46 (by decide) ?_
          refine n_callSI C (ok_X11_isOut  hw) ms_X11_87 rfl rfl ⟨Nat.le_of_ble_eq_true rfl, Nat.le_of_ble_eq_true rfl⟩ (Nat.le_of_ble_eq_true rfl) dX11_step_47 (fun r12 M11 hw => ?_)
          refine x_if_eq (tgt := 56) C dX11_step_50 (by decide) (fun h13 => ?_) (fun h13 => ?_)
          · replace hw := hw.1 h13
            refine x_aload_n C dX11_step_56 rfl rfl ?_
            refine n_getS (dd := 52) C fl_X11_48 s0 (fun _ _ => rfl) rfl dX11_step_57 ?_
            refine x_aload_n C dX11_step_60 rfl rfl ?_
            refine n_getS (dd := 1) C fl_X11_10 s0 (fun _ _ => rfl) rfl dX11_step_61 ?_
            refine x_iload_n C dX11_step_64 rfl rfl ?_
            refine x_iload_n C dX11_step_65 rfl rfl ?_
            refine x_iload_n C dX11_step_66 rfl rfl ?_
            refine x_iload C dX11_step_67 rfl ?_
            refine n_callVV s52 rfl C (ok_X1_gather s52 s1 hw) mv_X11_236 rfl rfl ⟨Nat.le_of_ble_eq_true rfl, Nat.le_of_ble_eq_true rfl⟩ (Nat.le_of_ble_eq_true rfl) dX11_step_69 (fun M14 hw => ?_)
            refine x_aload_n C dX11_step_72 rfl rfl ?_
            refine n_getS (dd := 52) C fl_X11_48 s0 (fun _ _ => rfl) rfl dX11_step_73 ?_
            refine n_callVI s52 rfl C (ok_X1_find s52 hw) mv_X11_239 rfl rfl ⟨Nat.le_of_ble_eq_true rfl, Nat.le_of_ble_eq_true rfl⟩ (Nat.le_of_ble_eq_true rfl) dX11_step_76 (fun r17 M16 hw => ?_)
            refine x_if_ne (tgt := 84) C dX11_step_79 (by decide) (fun h18 => ?_) (fun h18 => ?_)
            · replace hw := hw.1 h18
              refine x_iload C dX11_step_84 rfl ?_
              refine x_if_ne (tgt := 99) C dX11_step_86 (by decide) (fun h19 => ?_) (fun h19 => ?_)
              · replace hw := hw.1 h19
                refine x_iload C dX11_step_99 rfl ?_
                refine x_iconst (v := (1 : Int32)) C dX11_step_101 (by decide) ?_
                refine x_icmp_ne (tgt := 115) C dX11_step_102 (by decide) (fun h20 => ?_) (fun h20 => ?_)
                · replace hw := hw.1 h20
                  refine x_aload_n C dX11_step_115 rfl rfl ?_
                  refine n_getS (dd := 52) C fl_X11_48 s0 (fun _ _ => rfl) rfl dX11_step_116 ?_
                  refine x_iload C dX11_step_119 rfl ?_
                  refine n_callVI s52 rfl C (ok_X1_couldBe s52 hw) mv_X11_249 rfl rfl ⟨Nat.le_of_ble_eq_true rfl, Nat.le_of_ble_eq_true rfl⟩ (Nat.le_of_ble_eq_true rfl) dX11_step_121 (fun r22 M21 hw => ?_)
                  exact n_ireturn C r dX11_step_124 hw
                · replace hw := hw.2 h20
                  refine x_aload_n C dX11_step_105 rfl rfl ?_
                  refine n_getS (dd := 52) C fl_X11_48 s0 (fun _ _ => rfl) rfl dX11_step_106 ?_
                  refine n_getI C fl_X11_246 s52 (fun _ _ => rfl) dX11_step_109 ?_
                  refine x_goto (tgt := 124) C dX11_step_112 (by decide) ?_
                  exact n_ireturn C r dX11_step_124 hw
              · replace hw := hw.2 h19
                refine x_aload_n C dX11_step_89 rfl rfl ?_
                refine n_getS (dd := 52) C fl_X11_48 s0 (fun _ _ => rfl) rfl dX11_step_90 ?_
                refine n_getI C fl_X11_243 s52 (fun _ _ => rfl) dX11_step_93 ?_
                refine x_goto (tgt := 124) C dX11_step_96 (by decide) ?_
                exact n_ireturn C r dX11_step_124 hw
            · replace hw := hw.2 h18
              refine x_iconst (v := (-1 : Int32)) C dX11_step_82 (by decide) ?_
              exact n_ireturn C r dX11_step_83 hw
          · replace hw := hw.2 h13
            refine x_bipush (v := (-2 : Int32)) C dX11_step_53 (by decide) ?_
            exact n_ireturn C r dX11_step_55 hw

def w_X11_back (v1 : Int32) (v2 : Int32) (v3 : Int32) (v4 : Int32) (v5 : Int32) (v6 : Int32) (M : Mem) (q : Int32 → Mem → Prop) : Prop := w_X11_isNoSpot v1 v3 v4 M (fun (r2 : Int32) (M1 : Mem) => ((¬ r2 = 0 → q (-2 : Int32) M1) ∧ (r2 = 0 → w_X11_isOut v2 (M1.1 2 7) M1 (fun (r5 : Int32) (M4 : Mem) => ((¬ r5 = 0 → q (-2 : Int32) M4) ∧ (r5 = 0 → w_X11_isBeyond v5 (0 : Int32) (100000 : Int32) M4 (fun (r8 : Int32) (M7 : Mem) => ((¬ r8 = 0 → q (-2 : Int32) M7) ∧ (r8 = 0 → w_X11_isOut v6 (3 : Int32) M7 (fun (r11 : Int32) (M10 : Mem) => ((r11 = 0 → vp_in v1 24 ∧ vp_in v2 24 ∧ (((M10.1 8 (v1).toNatClampNeg) = (M10.1 8 (v2).toNatClampNeg) → w_X7_goPlain 35 1 v2 v3 v4 M10 (fun (M16 : Mem) => (((M16.1 35 1) = 0 → w_X9_ask 58 1 35 v1 v2 v3 v4 ((M16.1 36 5) + v5) M16 (fun (M19 : Mem) => ((¬ v6 = (2 : Int32) → w_X9_findLeast 58 M19 (fun (M22 : Mem) => ((¬ v6 = 0 → w_X9_fewest 58 M22 (fun (r26 : Int32) (M25 : Mem) => q r26 M25)) ∧ (v6 = 0 → q (M22.1 58 0) M22)))) ∧ (v6 = (2 : Int32) → w_X9_alone 58 M19 (fun (r28 : Int32) (M27 : Mem) => q r28 M27))))) ∧ (¬ (M16.1 35 1) = 0 → q (-3 : Int32) M16)))) ∧ (¬ (M10.1 8 (v1).toNatClampNeg) = (M10.1 8 (v2).toNatClampNeg) → q (-3 : Int32) M10))) ∧ (¬ r11 = 0 → q (-2 : Int32) M10))))))))))))
set_option maxRecDepth 100000 in
set_option maxHeartbeats 4000000 in
theorem ok_X11_back {g : Gl} {l : Launch} {v1 : Int32} {v2 : Int32} {v3 : Int32} {v4 : Int32} {v5 : Int32} {v6 : Int32} {M : Mem} {q : Int32 → Mem → Prop} (hw : w_X11_back v1 v2 v3 v4 v5 v6 M q) : CtI g l yX11_back cX11_back 7 (some .int) 8 165 [.ref (g.2.2.2 + 0), .int v1, .int v2, .int v3, .int v4, .int v5, .int v6] M q := by
  refine n_introI (by decide +kernel) (Nat.le_of_ble_eq_true rfl) (fun c C r => ?_)
  have C : Cx c cX11_back 7 RX11 g l (Rm 8 165) := C
  refine x_sub [0, 1, 2, 3, 4, 5, 6] (lv' := [(0, .ref (g.2.2.2 + 0)), (1, .int v1), (2, .int v2), (3, .int v3), (4, .int v4), (5, .int v5), (6, .int v6)]) rfl ?_
  unfold w_X11_back at hw
  refine x_aload_n C dX11_back_0 rfl rfl ?_
  refine x_iload_n C dX11_back_1 rfl rfl ?_
  refine x_iload_n C dX11_back_2 rfl rfl ?_
  refine x_iload C dX11_back_3 rfl ?_
  refine n_callVI s0 rfl C (ok_X11_isNoSpot  hw) mv_X11_153 rfl rfl ⟨Nat.le_of_ble_eq_true rfl, Nat.le_of_ble_eq_true rfl⟩ (Nat.le_of_ble_eq_true rfl) dX11_back_5 (fun r2 M1 hw => ?_)
  refine x_if_ne (tgt := 48) C dX11_back_8 (by decide) (fun h3 => ?_) (fun h3 => ?_)
  · replace hw := hw.1 h3
    refine x_bipush (v := (-2 : Int32)) C dX11_back_48 (by decide) ?_
    exact n_ireturn C r dX11_back_50 hw
  · replace hw := hw.2 h3
    refine x_iload_n C dX11_back_11 rfl rfl ?_
    refine x_aload_n C dX11_back_12 rfl rfl ?_
    refine n_getS (dd := 1) C fl_X11_10 s0 (fun _ _ => rfl) rfl dX11_back_13 ?_
    refine n_getS (dd := 1) C fl_X11_73 s1 (fun _ _ => rfl) rfl dX11_back_16 ?_
    refine n_getI C fl_X11_193 s2 (fun _ _ => rfl) dX11_back_19 ?_
    refine n_callSI C (ok_X11_isOut  hw) ms_X11_87 rfl rfl ⟨Nat.le_of_ble_eq_true rfl, Nat.le_of_ble_eq_true rfl⟩ (Nat.le_of_ble_eq_true rfl) dX11_back_22 (fun r5 M4 hw => ?_)
    refine x_if_ne (tgt := 48) C dX11_back_25 (by decide) (fun h6 => ?_) (fun h6 => ?_)
    · replace hw := hw.1 h6
      refine x_bipush (v := (-2 : Int32)) C dX11_back_48 (by decide) ?_
      exact n_ireturn C r dX11_back_50 hw
    · replace hw := hw.2 h6
      refine x_iload C dX11_back_28 rfl ?_
      refine x_iconst (v := (0 : Int32)) C dX11_back_30 (by decide) ?_
      refine x_ldc (v := (100000 : Int32)) C dX11_back_31 kc_X11_235 ?_
      refine n_callSI C (ok_X11_isBeyond  hw) ms_X11_128 rfl rfl ⟨Nat.le_of_ble_eq_true rfl, Nat.le_of_ble_eq_true rfl⟩ (Nat.le_of_ble_eq_true rfl) dX11_back_33 (fun r8 M7 hw => ?_)
      refine x_if_ne (tgt := 48) C dX11_back_36 (by decide) (fun h9 => ?_) (fun h9 => ?_)
      · replace hw := hw.1 h9
        refine x_bipush (v := (-2 : Int32)) C dX11_back_48 (by decide) ?_
        exact n_ireturn C r dX11_back_50 hw
      · replace hw := hw.2 h9
        refine x_iload C dX11_back_39 rfl ?_
        refine x_iconst (v := (3 : Int32)) C dX11_back_41 (by decide) ?_
        refine n_callSI C (ok_X11_isOut  hw) ms_X11_87 rfl rfl ⟨Nat.le_of_ble_eq_true rfl, Nat.le_of_ble_eq_true rfl⟩ (Nat.le_of_ble_eq_true rfl) dX11_back_42 (fun r11 M10 hw => ?_)
        refine x_if_eq (tgt := 51) C dX11_back_45 (by decide) (fun h12 => ?_) (fun h12 => ?_)
        · replace hw := hw.1 h12
          refine x_aload_n C dX11_back_51 rfl rfl ?_
          refine n_getS (dd := 1) C fl_X11_10 s0 (fun _ _ => rfl) rfl dX11_back_52 ?_
          refine n_getS (dd := 1) C fl_X11_73 s1 (fun _ _ => rfl) rfl dX11_back_55 ?_
          refine n_getS (dd := 6) C fl_X11_252 s2 (fun _ _ => rfl) rfl dX11_back_58 ?_
          refine x_iload_n C dX11_back_61 rfl rfl ?_
          obtain ⟨h13, hw⟩ := hw
          refine a_iald C s8 ln8 h13 dX11_back_62 ?_
          refine x_aload_n C dX11_back_63 rfl rfl ?_
          refine n_getS (dd := 1) C fl_X11_10 s0 (fun _ _ => rfl) rfl dX11_back_64 ?_
          refine n_getS (dd := 1) C fl_X11_73 s1 (fun _ _ => rfl) rfl dX11_back_67 ?_
          refine n_getS (dd := 6) C fl_X11_252 s2 (fun _ _ => rfl) rfl dX11_back_70 ?_
          refine x_iload_n C dX11_back_73 rfl rfl ?_
          obtain ⟨h14, hw⟩ := hw
          refine a_iald C s8 ln8 h14 dX11_back_74 ?_
          refine x_icmp_eq (tgt := 81) C dX11_back_75 (by decide) (fun h15 => ?_) (fun h15 => ?_)
          · replace hw := hw.1 h15
            refine x_aload_n C dX11_back_81 rfl rfl ?_
            refine n_getS (dd := 35) C fl_X11_27 s0 (fun _ _ => rfl) rfl dX11_back_82 ?_
            refine x_aload_n C dX11_back_85 rfl rfl ?_
            refine n_getS (dd := 1) C fl_X11_10 s0 (fun _ _ => rfl) rfl dX11_back_86 ?_
            refine x_iload_n C dX11_back_89 rfl rfl ?_
            refine x_iload_n C dX11_back_90 rfl rfl ?_
            refine x_iload C dX11_back_91 rfl ?_
            refine n_callVV s35 rfl C (ok_X7_goPlain s35 s1 hw) mv_X11_170 rfl rfl ⟨Nat.le_of_ble_eq_true rfl, Nat.le_of_ble_eq_true rfl⟩ (Nat.le_of_ble_eq_true rfl) dX11_back_93 (fun M16 hw => ?_)
            refine x_aload_n C dX11_back_96 rfl rfl ?_
            refine n_getS (dd := 35) C fl_X11_27 s0 (fun _ _ => rfl) rfl dX11_back_97 ?_
            refine n_getI C fl_X11_255 s35 (fun _ _ => rfl) dX11_back_100 ?_
            refine x_if_eq (tgt := 109) C dX11_back_103 (by decide) (fun h18 => ?_) (fun h18 => ?_)
            · replace hw := hw.1 h18
              refine x_aload_n C dX11_back_109 rfl rfl ?_
              refine n_getS (dd := 58) C fl_X11_55 s0 (fun _ _ => rfl) rfl dX11_back_110 ?_
              refine x_aload_n C dX11_back_113 rfl rfl ?_
              refine n_getS (dd := 1) C fl_X11_10 s0 (fun _ _ => rfl) rfl dX11_back_114 ?_
              refine x_aload_n C dX11_back_117 rfl rfl ?_
              refine n_getS (dd := 35) C fl_X11_27 s0 (fun _ _ => rfl) rfl dX11_back_118 ?_
              refine x_iload_n C dX11_back_121 rfl rfl ?_
              refine x_iload_n C dX11_back_122 rfl rfl ?_
              refine x_iload_n C dX11_back_123 rfl rfl ?_
              refine x_iload C dX11_back_124 rfl ?_
              refine x_aload_n C dX11_back_126 rfl rfl ?_
              refine n_getS (dd := 35) C fl_X11_27 s0 (fun _ _ => rfl) rfl dX11_back_127 ?_
              refine n_getS (dd := 1) C fl_X11_174 s35 (fun _ _ => rfl) rfl dX11_back_130 ?_
              refine x_iconst (v := (5 : Int32)) C dX11_back_133 (by decide) ?_
              refine a_ialdL (ni := 5) C s36 ln36 (by decide) (vin _ _ (by decide +kernel)) dX11_back_134 ?_
              refine x_iload C dX11_back_135 rfl ?_
              refine x_iadd C dX11_back_137 ?_
              refine n_callVV s58 rfl C (ok_X9_ask s58 s1 s35 hw) mv_X11_259 rfl rfl ⟨Nat.le_of_ble_eq_true rfl, Nat.le_of_ble_eq_true rfl⟩ (Nat.le_of_ble_eq_true rfl) dX11_back_138 (fun M19 hw => ?_)
              refine x_iload C dX11_back_141 rfl ?_
              refine x_iconst (v := (2 : Int32)) C dX11_back_143 (by decide) ?_
              refine x_icmp_ne (tgt := 155) C dX11_back_144 (by decide) (fun h21 => ?_) (fun h21 => ?_)
              · replace hw := hw.1 h21
                refine x_aload_n C dX11_back_155 rfl rfl ?_
                refine n_getS (dd := 58) C fl_X11_55 s0 (fun _ _ => rfl) rfl dX11_back_156 ?_
                refine n_callVV s58 rfl C (ok_X9_findLeast s58 hw) mv_X11_266 rfl rfl ⟨Nat.le_of_ble_eq_true rfl, Nat.le_of_ble_eq_true rfl⟩ (Nat.le_of_ble_eq_true rfl) dX11_back_159 (fun M22 hw => ?_)
                refine x_iload C dX11_back_162 rfl ?_
                refine x_if_ne (tgt := 177) C dX11_back_164 (by decide) (fun h24 => ?_) (fun h24 => ?_)
                · replace hw := hw.1 h24
                  refine x_aload_n C dX11_back_177 rfl rfl ?_
                  refine n_getS (dd := 58) C fl_X11_55 s0 (fun _ _ => rfl) rfl dX11_back_178 ?_
                  refine n_callVI s58 rfl C (ok_X9_fewest s58 hw) mv_X11_270 rfl rfl ⟨Nat.le_of_ble_eq_true rfl, Nat.le_of_ble_eq_true rfl⟩ (Nat.le_of_ble_eq_true rfl) dX11_back_181 (fun r26 M25 hw => ?_)
                  exact n_ireturn C r dX11_back_184 hw
                · replace hw := hw.2 h24
                  refine x_aload_n C dX11_back_167 rfl rfl ?_
                  refine n_getS (dd := 58) C fl_X11_55 s0 (fun _ _ => rfl) rfl dX11_back_168 ?_
                  refine n_getI C fl_X11_269 s58 (fun _ _ => rfl) dX11_back_171 ?_
                  refine x_goto (tgt := 184) C dX11_back_174 (by decide) ?_
                  exact n_ireturn C r dX11_back_184 hw
              · replace hw := hw.2 h21
                refine x_aload_n C dX11_back_147 rfl rfl ?_
                refine n_getS (dd := 58) C fl_X11_55 s0 (fun _ _ => rfl) rfl dX11_back_148 ?_
                refine n_callVI s58 rfl C (ok_X9_alone s58 hw) mv_X11_263 rfl rfl ⟨Nat.le_of_ble_eq_true rfl, Nat.le_of_ble_eq_true rfl⟩ (Nat.le_of_ble_eq_true rfl) dX11_back_151 (fun r28 M27 hw => ?_)
                exact n_ireturn C r dX11_back_154 hw
            · replace hw := hw.2 h18
              refine x_bipush (v := (-3 : Int32)) C dX11_back_106 (by decide) ?_
              exact n_ireturn C r dX11_back_108 hw
          · replace hw := hw.2 h15
            refine x_bipush (v := (-3 : Int32)) C dX11_back_78 (by decide) ?_
            exact n_ireturn C r dX11_back_80 hw
        · replace hw := hw.2 h12
          refine x_bipush (v := (-2 : Int32)) C dX11_back_48 (by decide) ?_
          exact n_ireturn C r dX11_back_50 hw

def w_X11_with_b113 (v1 : Int32) (v2 : Int32) (v3 : Int64) (v5 : Int64) (v7 : Int64) (v9 : Int64) (v11 : Int32) (M : Mem) (q : Int64 → Mem → Prop) (P34 : Int64 × Int64 × Int64 × Int64 × Int32 × Mem → Prop) : Prop := ∀ x1 : Int32, x1 = v11 + (1 : Int32) → P34 (v3, v5, v7, v9, x1, M)
set_option maxRecDepth 100000 in
set_option maxHeartbeats 4000000 in
theorem ok_X11_with_b113 {c : CtxT} {g : Gl} {l : Launch} {v1 : Int32} {v2 : Int32} {v3 : Int64} {v5 : Int64} {v7 : Int64} {v9 : Int64} {v11 : Int32} {q : Int64 → Mem → Prop} {P34 : Int64 × Int64 × Int64 × Int64 × Int32 × Mem → Prop} {M : Mem} (C : Cx c cX11_with 16 RX11 g l (Rm 3 44)) (r : Rt c (some .long) (pJ q) 0 0) (hP34 : ∀ (v3 : Int64) (v5 : Int64) (v7 : Int64) (v9 : Int64) (v11 : Int32) (M : Mem), P34 (v3, v5, v7, v9, v11, M) → X c S0 34 [(0, .ref (g.2.2.2 + 0)), (1, .int v1), (2, .int v2), (3, .long v3), (5, .long v5), (7, .long v7), (9, .long v9), (11, .int v11)] [] (stat M)) (hw : w_X11_with_b113 v1 v2 v3 v5 v7 v9 v11 M q P34) : X c S0 113 [(0, .ref (g.2.2.2 + 0)), (1, .int v1), (2, .int v2), (3, .long v3), (5, .long v5), (7, .long v7), (9, .long v9), (11, .int v11)] [] (stat M) := by
  unfold w_X11_with_b113 at hw
  obtain ⟨x1, ex1⟩ : ∃ z : Int32, z = v11 + (1 : Int32) := ⟨_, rfl⟩
  replace hw := hw x1 ex1
  refine x_iinc (v := x1) C dX11_with_113 rfl ex1.symm (Nat.le_of_ble_eq_true rfl) ?_
  refine x_goto (tgt := 34) C dX11_with_116 (by decide) ?_
  exact x_sub [0, 1, 2, 3, 5, 7, 9, 11] rfl (hP34 _ _ _ _ _ _ hw)
def w_X11_with_l34F (v1 : Int32) (v2 : Int32) (q : Int64 → Mem → Prop) (P34 : Int64 × Int64 × Int64 × Int64 × Int32 × Mem → Prop) (s : Int64 × Int64 × Int64 × Int64 × Int32 × Mem) : Prop := match s with
  | (v3, v5, v7, v9, v11, M) => (((M.1 1 4) ≤ v11 → q ((v3 * v9) - (v5 * v7)) M) ∧ (¬ (M.1 1 4) ≤ v11 → w_X8_isTimedOn 1 v11 v1 M (fun (r4 : Int32) (M3 : Mem) => ((r4 = 0 → w_X11_with_b113 v1 v2 v3 v5 v7 v9 v11 M3 q P34) ∧ (¬ r4 = 0 → w_X8_told 1 v11 v2 M3 (fun (r7 : Int32) (M6 : Mem) => ∀ x8 : Int64, x8 = (r7).toInt64 → w_X8_told 1 v11 (5 : Int32) M6 (fun (r10 : Int32) (M9 : Mem) => ∀ x11 : Int64, x11 = (r10).toInt64 → ∀ x12 : Int64, x12 = (v3 + (1 : Int64)) → ∀ x13 : Int64, x13 = (v5 + x8) → ∀ x14 : Int64, x14 = (v7 + x11) → ∀ x15 : Int64, x15 = (v9 + (x8 * x11)) → w_X11_with_b113 v1 v2 x12 x13 x14 x15 v11 M9 q P34)))))))
def w_X11_with_l34 (v1 : Int32) (v2 : Int32) (q : Int64 → Mem → Prop) (s : Int64 × Int64 × Int64 × Int64 × Int32 × Mem) : Prop := lfp (w_X11_with_l34F v1 v2 q ) s
set_option maxRecDepth 100000 in
set_option maxHeartbeats 4000000 in
theorem ok_X11_with_l34 {c : CtxT} {g : Gl} {l : Launch} {v1 : Int32} {v2 : Int32} {q : Int64 → Mem → Prop} {s : Int64 × Int64 × Int64 × Int64 × Int32 × Mem} (C : Cx c cX11_with 16 RX11 g l (Rm 3 44)) (r : Rt c (some .long) (pJ q) 0 0) (hw : w_X11_with_l34 v1 v2 q s) : X c S0 34 [(0, .ref (g.2.2.2 + 0)), (1, .int v1), (2, .int v2), (3, .long s.1), (5, .long s.2.1), (7, .long s.2.2.1), (9, .long s.2.2.2.1), (11, .int s.2.2.2.2.1)] [] (stat s.2.2.2.2.2) := hw (fun s => X c S0 34 [(0, .ref (g.2.2.2 + 0)), (1, .int v1), (2, .int v2), (3, .long s.1), (5, .long s.2.1), (7, .long s.2.2.1), (9, .long s.2.2.2.1), (11, .int s.2.2.2.2.1)] [] (stat s.2.2.2.2.2)) (fun s hw => by
    obtain ⟨v3, v5, v7, v9, v11, M⟩ := s
    try dsimp only [w_X11_with_l34F] at hw
    try dsimp only
    refine x_iload C dX11_with_34 rfl ?_
    refine x_aload_n C dX11_with_36 rfl rfl ?_
    refine n_getS (dd := 1) C fl_X11_10 s0 (fun _ _ => rfl) rfl dX11_with_37 ?_
    refine n_getI C fl_X11_159 s1 (fun _ _ => rfl) dX11_with_40 ?_
    refine x_icmp_ge (tgt := 119) C dX11_with_43 (by decide) (fun h2 => ?_) (fun h2 => ?_)
    · replace hw := hw.1 h2
      refine x_lload_n C dX11_with_119 rfl rfl ?_
      refine x_lload C dX11_with_120 rfl ?_
      refine x_lmul C dX11_with_122 ?_
      refine x_lload C dX11_with_123 rfl ?_
      refine x_lload C dX11_with_125 rfl ?_
      refine x_lmul C dX11_with_127 ?_
      refine x_lsub C dX11_with_128 ?_
      exact n_lreturn C r dX11_with_129 hw
    · replace hw := hw.2 h2
      refine x_aload_n C dX11_with_46 rfl rfl ?_
      refine n_getS (dd := 1) C fl_X11_10 s0 (fun _ _ => rfl) rfl dX11_with_47 ?_
      refine x_iload C dX11_with_50 rfl ?_
      refine x_iload_n C dX11_with_52 rfl rfl ?_
      refine n_callVI s1 rfl C (ok_X8_isTimedOn s1 hw) mv_X11_275 rfl rfl ⟨Nat.le_of_ble_eq_true rfl, Nat.le_of_ble_eq_true rfl⟩ (Nat.le_of_ble_eq_true rfl) dX11_with_53 (fun r4 M3 hw => ?_)
      refine x_if_eq (tgt := 113) C dX11_with_56 (by decide) (fun h5 => ?_) (fun h5 => ?_)
      · replace hw := hw.1 h5
        exact x_sub [0, 1, 2, 3, 5, 7, 9, 11] rfl (ok_X11_with_b113 C r (fun _ _ _ _ _ _ h => h) hw)
      · replace hw := hw.2 h5
        refine x_aload_n C dX11_with_59 rfl rfl ?_
        refine n_getS (dd := 1) C fl_X11_10 s0 (fun _ _ => rfl) rfl dX11_with_60 ?_
        refine x_iload C dX11_with_63 rfl ?_
        refine x_iload_n C dX11_with_65 rfl rfl ?_
        refine n_callVI s1 rfl C (ok_X8_told s1 hw) mv_X11_167 rfl rfl ⟨Nat.le_of_ble_eq_true rfl, Nat.le_of_ble_eq_true rfl⟩ (Nat.le_of_ble_eq_true rfl) dX11_with_66 (fun r7 M6 hw => ?_)
        refine x_i2l C dX11_with_69 ?_
        obtain ⟨x8, ex8⟩ : ∃ z : Int64, z = (r7).toInt64 := ⟨_, rfl⟩
        replace hw := hw x8 ex8
        refine x_topj ex8 ?_
        refine x_lstore C dX11_with_70 (Nat.le_of_ble_eq_true rfl) ?_
        refine x_aload_n C dX11_with_72 rfl rfl ?_
        refine n_getS (dd := 1) C fl_X11_10 s0 (fun _ _ => rfl) rfl dX11_with_73 ?_
        refine x_iload C dX11_with_76 rfl ?_
        refine x_iconst (v := (5 : Int32)) C dX11_with_78 (by decide) ?_
        refine n_callVI s1 rfl C (ok_X8_told s1 hw) mv_X11_167 rfl rfl ⟨Nat.le_of_ble_eq_true rfl, Nat.le_of_ble_eq_true rfl⟩ (Nat.le_of_ble_eq_true rfl) dX11_with_79 (fun r10 M9 hw => ?_)
        refine x_i2l C dX11_with_82 ?_
        obtain ⟨x11, ex11⟩ : ∃ z : Int64, z = (r10).toInt64 := ⟨_, rfl⟩
        replace hw := hw x11 ex11
        refine x_topj ex11 ?_
        refine x_lstore C dX11_with_83 (Nat.le_of_ble_eq_true rfl) ?_
        refine x_lload_n C dX11_with_85 rfl rfl ?_
        refine x_lconst (v := (1 : Int64)) C dX11_with_86 (by decide) ?_
        refine x_ladd C dX11_with_87 ?_
        obtain ⟨x12, ex12⟩ : ∃ z : Int64, z = (v3 + (1 : Int64)) := ⟨_, rfl⟩
        replace hw := hw x12 ex12
        refine x_topj ex12 ?_
        refine x_lstore_n C dX11_with_88 rfl (Nat.le_of_ble_eq_true rfl) ?_
        refine x_lload C dX11_with_89 rfl ?_
        refine x_lload C dX11_with_91 rfl ?_
        refine x_ladd C dX11_with_93 ?_
        obtain ⟨x13, ex13⟩ : ∃ z : Int64, z = (v5 + x8) := ⟨_, rfl⟩
        replace hw := hw x13 ex13
        refine x_topj ex13 ?_
        refine x_lstore C dX11_with_94 (Nat.le_of_ble_eq_true rfl) ?_
        refine x_lload C dX11_with_96 rfl ?_
        refine x_lload C dX11_with_98 rfl ?_
        refine x_ladd C dX11_with_100 ?_
        obtain ⟨x14, ex14⟩ : ∃ z : Int64, z = (v7 + x11) := ⟨_, rfl⟩
        replace hw := hw x14 ex14
        refine x_topj ex14 ?_
        refine x_lstore C dX11_with_101 (Nat.le_of_ble_eq_true rfl) ?_
        refine x_lload C dX11_with_103 rfl ?_
        refine x_lload C dX11_with_105 rfl ?_
        refine x_lload C dX11_with_107 rfl ?_
        refine x_lmul C dX11_with_109 ?_
        refine x_ladd C dX11_with_110 ?_
        obtain ⟨x15, ex15⟩ : ∃ z : Int64, z = (v9 + (x8 * x11)) := ⟨_, rfl⟩
        replace hw := hw x15 ex15
        refine x_topj ex15 ?_
        refine x_lstore C dX11_with_111 (Nat.le_of_ble_eq_true rfl) ?_
        exact x_sub [0, 1, 2, 3, 5, 7, 9, 11] rfl (ok_X11_with_b113 C r (fun _ _ _ _ _ _ h => h) hw))
def w_X11_with (v1 : Int32) (v2 : Int32) (M : Mem) (q : Int64 → Mem → Prop) : Prop := w_X11_isOut v1 (4 : Int32) M (fun (r17 : Int32) (M16 : Mem) => ((¬ r17 = 0 → q (-2000000000000000000 : Int64) M16) ∧ (r17 = 0 → w_X11_isOut v2 (5 : Int32) M16 (fun (r20 : Int32) (M19 : Mem) => ((r20 = 0 → w_X11_with_l34 v1 v2 q ((0 : Int64), (0 : Int64), (0 : Int64), (0 : Int64), (0 : Int32), M19)) ∧ (¬ r20 = 0 → q (-2000000000000000000 : Int64) M19))))))
set_option maxRecDepth 100000 in
set_option maxHeartbeats 4000000 in
theorem ok_X11_with {g : Gl} {l : Launch} {v1 : Int32} {v2 : Int32} {M : Mem} {q : Int64 → Mem → Prop} (hw : w_X11_with v1 v2 M q) : CtJ g l yX11_with cX11_with 16 (some .long) 3 44 [.ref (g.2.2.2 + 0), .int v1, .int v2] M q := by
  refine n_introJ (by decide +kernel) (Nat.le_of_ble_eq_true rfl) (fun c C r => ?_)
  have C : Cx c cX11_with 16 RX11 g l (Rm 3 44) := C
  refine x_sub [0, 1, 2] (lv' := [(0, .ref (g.2.2.2 + 0)), (1, .int v1), (2, .int v2)]) rfl ?_
  unfold w_X11_with at hw
  refine x_iload_n C dX11_with_0 rfl rfl ?_
  refine x_iconst (v := (4 : Int32)) C dX11_with_1 (by decide) ?_
  refine n_callSI C (ok_X11_isOut  hw) ms_X11_87 rfl rfl ⟨Nat.le_of_ble_eq_true rfl, Nat.le_of_ble_eq_true rfl⟩ (Nat.le_of_ble_eq_true rfl) dX11_with_2 (fun r17 M16 hw => ?_)
  refine x_if_ne (tgt := 16) C dX11_with_5 (by decide) (fun h18 => ?_) (fun h18 => ?_)
  · replace hw := hw.1 h18
    refine x_ldc2_w (v := (-2000000000000000000 : Int64)) C dX11_with_16 kc_X11_273 ?_
    exact n_lreturn C r dX11_with_19 hw
  · replace hw := hw.2 h18
    refine x_iload_n C dX11_with_8 rfl rfl ?_
    refine x_iconst (v := (5 : Int32)) C dX11_with_9 (by decide) ?_
    refine n_callSI C (ok_X11_isOut  hw) ms_X11_87 rfl rfl ⟨Nat.le_of_ble_eq_true rfl, Nat.le_of_ble_eq_true rfl⟩ (Nat.le_of_ble_eq_true rfl) dX11_with_10 (fun r20 M19 hw => ?_)
    refine x_if_eq (tgt := 20) C dX11_with_13 (by decide) (fun h21 => ?_) (fun h21 => ?_)
    · replace hw := hw.1 h21
      refine x_lconst (v := (0 : Int64)) C dX11_with_20 (by decide) ?_
      refine x_lstore_n C dX11_with_21 rfl (Nat.le_of_ble_eq_true rfl) ?_
      refine x_lconst (v := (0 : Int64)) C dX11_with_22 (by decide) ?_
      refine x_lstore C dX11_with_23 (Nat.le_of_ble_eq_true rfl) ?_
      refine x_lconst (v := (0 : Int64)) C dX11_with_25 (by decide) ?_
      refine x_lstore C dX11_with_26 (Nat.le_of_ble_eq_true rfl) ?_
      refine x_lconst (v := (0 : Int64)) C dX11_with_28 (by decide) ?_
      refine x_lstore C dX11_with_29 (Nat.le_of_ble_eq_true rfl) ?_
      refine x_iconst (v := (0 : Int32)) C dX11_with_31 (by decide) ?_
      refine x_istore C dX11_with_32 (Nat.le_of_ble_eq_true rfl) ?_
      exact x_sub [0, 1, 2, 3, 5, 7, 9, 11] rfl (ok_X11_with_l34 C r  hw)
    · replace hw := hw.2 h21
      refine x_ldc2_w (v := (-2000000000000000000 : Int64)) C dX11_with_16 kc_X11_273 ?_
      exact n_lreturn C r dX11_with_19 hw

def w_X11_keep_b26 (v1 : Int32) (t0 : Int32) (M : Mem) (q : Int32 → Mem → Prop) : Prop := w_X8_told 1 v1 (13 : Int32) M (fun (r2 : Int32) (M1 : Mem) => ((¬ r2 = t0 → w_X8_tell 1 v1 (13 : Int32) t0 M1 (fun (M4 : Mem) => q (1 : Int32) M4)) ∧ (r2 = t0 → q (-3 : Int32) M1)))
set_option maxRecDepth 100000 in
set_option maxHeartbeats 4000000 in
theorem ok_X11_keep_b26 {c : CtxT} {g : Gl} {l : Launch} {v1 : Int32} {t0 : Int32} {q : Int32 → Mem → Prop} {M : Mem} (C : Cx c cX11_keep 4 RX11 g l (Rm 2 23)) (r : Rt c (some .int) (pI q) 0 0) (hw : w_X11_keep_b26 v1 t0 M q ) : X c S0 26 [(0, .ref (g.2.2.2 + 0)), (1, .int v1)] [.int t0] (stat M) := by
  unfold w_X11_keep_b26 at hw
  refine x_istore_n C dX11_keep_26 rfl (Nat.le_of_ble_eq_true rfl) ?_
  refine x_aload_n C dX11_keep_27 rfl rfl ?_
  refine n_getS (dd := 1) C fl_X11_10 s0 (fun _ _ => rfl) rfl dX11_keep_28 ?_
  refine x_iload_n C dX11_keep_31 rfl rfl ?_
  refine x_bipush (v := (13 : Int32)) C dX11_keep_32 (by decide) ?_
  refine n_callVI s1 rfl C (ok_X8_told s1 hw) mv_X11_167 rfl rfl ⟨Nat.le_of_ble_eq_true rfl, Nat.le_of_ble_eq_true rfl⟩ (Nat.le_of_ble_eq_true rfl) dX11_keep_34 (fun r2 M1 hw => ?_)
  refine x_iload_n C dX11_keep_37 rfl rfl ?_
  refine x_icmp_ne (tgt := 44) C dX11_keep_38 (by decide) (fun h3 => ?_) (fun h3 => ?_)
  · replace hw := hw.1 h3
    refine x_aload_n C dX11_keep_44 rfl rfl ?_
    refine n_getS (dd := 1) C fl_X11_10 s0 (fun _ _ => rfl) rfl dX11_keep_45 ?_
    refine x_iload_n C dX11_keep_48 rfl rfl ?_
    refine x_bipush (v := (13 : Int32)) C dX11_keep_49 (by decide) ?_
    refine x_iload_n C dX11_keep_51 rfl rfl ?_
    refine n_callVV s1 rfl C (ok_X8_tell s1 hw) mv_X11_278 rfl rfl ⟨Nat.le_of_ble_eq_true rfl, Nat.le_of_ble_eq_true rfl⟩ (Nat.le_of_ble_eq_true rfl) dX11_keep_52 (fun M4 hw => ?_)
    refine x_iconst (v := (1 : Int32)) C dX11_keep_55 (by decide) ?_
    exact n_ireturn C r dX11_keep_56 hw
  · replace hw := hw.2 h3
    refine x_bipush (v := (-3 : Int32)) C dX11_keep_41 (by decide) ?_
    exact n_ireturn C r dX11_keep_43 hw
def w_X11_keep (v1 : Int32) (v2 : Int32) (M : Mem) (q : Int32 → Mem → Prop) : Prop := w_X11_isOut v1 (M.1 1 4) M (fun (r7 : Int32) (M6 : Mem) => ((r7 = 0 → ((v2 = 0 → w_X11_keep_b26 v1 (0 : Int32) M6 q) ∧ (¬ v2 = 0 → w_X11_keep_b26 v1 (1 : Int32) M6 q))) ∧ (¬ r7 = 0 → q (-2 : Int32) M6)))
set_option maxRecDepth 100000 in
set_option maxHeartbeats 4000000 in
theorem ok_X11_keep {g : Gl} {l : Launch} {v1 : Int32} {v2 : Int32} {M : Mem} {q : Int32 → Mem → Prop} (hw : w_X11_keep v1 v2 M q) : CtI g l yX11_keep cX11_keep 4 (some .int) 2 23 [.ref (g.2.2.2 + 0), .int v1, .int v2] M q := by
  refine n_introI (by decide +kernel) (Nat.le_of_ble_eq_true rfl) (fun c C r => ?_)
  have C : Cx c cX11_keep 4 RX11 g l (Rm 2 23) := C
  refine x_sub [0, 1, 2] (lv' := [(0, .ref (g.2.2.2 + 0)), (1, .int v1), (2, .int v2)]) rfl ?_
  unfold w_X11_keep at hw
  refine x_iload_n C dX11_keep_0 rfl rfl ?_
  refine x_aload_n C dX11_keep_1 rfl rfl ?_
  refine n_getS (dd := 1) C fl_X11_10 s0 (fun _ _ => rfl) rfl dX11_keep_2 ?_
  refine n_getI C fl_X11_159 s1 (fun _ _ => rfl) dX11_keep_5 ?_
  refine n_callSI C (ok_X11_isOut  hw) ms_X11_87 rfl rfl ⟨Nat.le_of_ble_eq_true rfl, Nat.le_of_ble_eq_true rfl⟩ (Nat.le_of_ble_eq_true rfl) dX11_keep_8 (fun r7 M6 hw => ?_)
  refine x_if_eq (tgt := 17) C dX11_keep_11 (by decide) (fun h8 => ?_) (fun h8 => ?_)
  · replace hw := hw.1 h8
    refine x_iload_n C dX11_keep_17 rfl rfl ?_
    refine x_if_eq (tgt := 25) C dX11_keep_18 (by decide) (fun h9 => ?_) (fun h9 => ?_)
    · replace hw := hw.1 h9
      refine x_iconst (v := (0 : Int32)) C dX11_keep_25 (by decide) ?_
      exact x_sub [0, 1] rfl (ok_X11_keep_b26 C r  hw)
    · replace hw := hw.2 h9
      refine x_iconst (v := (1 : Int32)) C dX11_keep_21 (by decide) ?_
      refine x_goto (tgt := 26) C dX11_keep_22 (by decide) ?_
      exact x_sub [0, 1] rfl (ok_X11_keep_b26 C r  hw)
  · replace hw := hw.2 h8
    refine x_bipush (v := (-2 : Int32)) C dX11_keep_14 (by decide) ?_
    exact n_ireturn C r dX11_keep_16 hw

def w_X11_areNoCounts_b39 (M : Mem) (q : Int32 → Mem → Prop) : Prop := q (1 : Int32) M
set_option maxRecDepth 100000 in
set_option maxHeartbeats 4000000 in
theorem ok_X11_areNoCounts_b39 {c : CtxT} {g : Gl} {l : Launch} {q : Int32 → Mem → Prop} {M : Mem} (C : Cx c cX11_areNoCounts 3 RX11 g l (Rm 2 21)) (r : Rt c (some .boolean) (pI q) 0 0) (hw : w_X11_areNoCounts_b39 M q ) : X c S0 39 [] [] (stat M) := by
  unfold w_X11_areNoCounts_b39 at hw
  refine x_iconst (v := (1 : Int32)) C dX11_areNoCounts_39 (by decide) ?_
  refine x_goto (tgt := 44) C dX11_areNoCounts_40 (by decide) ?_
  exact n_zreturn C r dX11_areNoCounts_44 (Or.inr rfl) hw
def w_X11_areNoCounts (v0 : Int32) (v1 : Int32) (v2 : Int32) (M : Mem) (q : Int32 → Mem → Prop) : Prop := w_X11_isOut v0 (5 : Int32) M (fun (r2 : Int32) (M1 : Mem) => ((¬ r2 = 0 → w_X11_areNoCounts_b39 M1 q) ∧ (r2 = 0 → w_X11_isOut v1 (5 : Int32) M1 (fun (r5 : Int32) (M4 : Mem) => ((¬ r5 = 0 → w_X11_areNoCounts_b39 M4 q) ∧ (r5 = 0 → w_X11_isOut v2 (5 : Int32) M4 (fun (r8 : Int32) (M7 : Mem) => ((¬ r8 = 0 → w_X11_areNoCounts_b39 M7 q) ∧ (r8 = 0 → ((v0 = v1 → w_X11_areNoCounts_b39 M7 q) ∧ (¬ v0 = v1 → ((v0 = v2 → w_X11_areNoCounts_b39 M7 q) ∧ (¬ v0 = v2 → ((¬ v1 = v2 → q (0 : Int32) M7) ∧ (v1 = v2 → w_X11_areNoCounts_b39 M7 q)))))))))))))))
set_option maxRecDepth 100000 in
set_option maxHeartbeats 4000000 in
theorem ok_X11_areNoCounts {g : Gl} {l : Launch} {v0 : Int32} {v1 : Int32} {v2 : Int32} {M : Mem} {q : Int32 → Mem → Prop} (hw : w_X11_areNoCounts v0 v1 v2 M q) : CtI g l yX11_areNoCounts cX11_areNoCounts 3 (some .boolean) 2 21 [.int v0, .int v1, .int v2] M q := by
  refine n_introI (by decide +kernel) (Nat.le_of_ble_eq_true rfl) (fun c C r => ?_)
  have C : Cx c cX11_areNoCounts 3 RX11 g l (Rm 2 21) := C
  refine x_sub [0, 1, 2] (lv' := [(0, .int v0), (1, .int v1), (2, .int v2)]) rfl ?_
  unfold w_X11_areNoCounts at hw
  refine x_iload_n C dX11_areNoCounts_0 rfl rfl ?_
  refine x_iconst (v := (5 : Int32)) C dX11_areNoCounts_1 (by decide) ?_
  refine n_callSI C (ok_X11_isOut  hw) ms_X11_87 rfl rfl ⟨Nat.le_of_ble_eq_true rfl, Nat.le_of_ble_eq_true rfl⟩ (Nat.le_of_ble_eq_true rfl) dX11_areNoCounts_2 (fun r2 M1 hw => ?_)
  refine x_if_ne (tgt := 39) C dX11_areNoCounts_5 (by decide) (fun h3 => ?_) (fun h3 => ?_)
  · replace hw := hw.1 h3
    exact x_sub [] rfl (ok_X11_areNoCounts_b39 C r  hw)
  · replace hw := hw.2 h3
    refine x_iload_n C dX11_areNoCounts_8 rfl rfl ?_
    refine x_iconst (v := (5 : Int32)) C dX11_areNoCounts_9 (by decide) ?_
    refine n_callSI C (ok_X11_isOut  hw) ms_X11_87 rfl rfl ⟨Nat.le_of_ble_eq_true rfl, Nat.le_of_ble_eq_true rfl⟩ (Nat.le_of_ble_eq_true rfl) dX11_areNoCounts_10 (fun r5 M4 hw => ?_)
    refine x_if_ne (tgt := 39) C dX11_areNoCounts_13 (by decide) (fun h6 => ?_) (fun h6 => ?_)
    · replace hw := hw.1 h6
      exact x_sub [] rfl (ok_X11_areNoCounts_b39 C r  hw)
    · replace hw := hw.2 h6
      refine x_iload_n C dX11_areNoCounts_16 rfl rfl ?_
      refine x_iconst (v := (5 : Int32)) C dX11_areNoCounts_17 (by decide) ?_
      refine n_callSI C (ok_X11_isOut  hw) ms_X11_87 rfl rfl ⟨Nat.le_of_ble_eq_true rfl, Nat.le_of_ble_eq_true rfl⟩ (Nat.le_of_ble_eq_true rfl) dX11_areNoCounts_18 (fun r8 M7 hw => ?_)
      refine x_if_ne (tgt := 39) C dX11_areNoCounts_21 (by decide) (fun h9 => ?_) (fun h9 => ?_)
      · replace hw := hw.1 h9
        exact x_sub [] rfl (ok_X11_areNoCounts_b39 C r  hw)
      · replace hw := hw.2 h9
        refine x_iload_n C dX11_areNoCounts_24 rfl rfl ?_
        refine x_iload_n C dX11_areNoCounts_25 rfl rfl ?_
        refine x_icmp_eq (tgt := 39) C dX11_areNoCounts_26 (by decide) (fun h10 => ?_) (fun h10 => ?_)
        · replace hw := hw.1 h10
          exact x_sub [] rfl (ok_X11_areNoCounts_b39 C r  hw)
        · replace hw := hw.2 h10
          refine x_iload_n C dX11_areNoCounts_29 rfl rfl ?_
          refine x_iload_n C dX11_areNoCounts_30 rfl rfl ?_
          refine x_icmp_eq (tgt := 39) C dX11_areNoCounts_31 (by decide) (fun h11 => ?_) (fun h11 => ?_)
          · replace hw := hw.1 h11
            exact x_sub [] rfl (ok_X11_areNoCounts_b39 C r  hw)
          · replace hw := hw.2 h11
            refine x_iload_n C dX11_areNoCounts_34 rfl rfl ?_
            refine x_iload_n C dX11_areNoCounts_35 rfl rfl ?_
            refine x_icmp_ne (tgt := 43) C dX11_areNoCounts_36 (by decide) (fun h12 => ?_) (fun h12 => ?_)
            · replace hw := hw.1 h12
              refine x_iconst (v := (0 : Int32)) C dX11_areNoCounts_43 (by decide) ?_
              exact n_zreturn C r dX11_areNoCounts_44 (Or.inl rfl) hw
            · replace hw := hw.2 h12
              exact x_sub [] rfl (ok_X11_areNoCounts_b39 C r  hw)

def w_X11_fit (v1 : Int32) (v2 : Int32) (v3 : Int32) (v4 : Int32) (v5 : Int32) (M : Mem) (q : Int64 → Mem → Prop) : Prop := w_X11_isOut v1 (4 : Int32) M (fun (r2 : Int32) (M1 : Mem) => ((¬ r2 = 0 → q (-2 : Int64) M1) ∧ (r2 = 0 → w_X11_areNoCounts v2 v3 v4 M1 (fun (r5 : Int32) (M4 : Mem) => ((¬ r5 = 0 → q (-2 : Int64) M4) ∧ (r5 = 0 → w_X11_isOut v5 (5 : Int32) M4 (fun (r8 : Int32) (M7 : Mem) => ((r8 = 0 → w_X2_find 60 1 v1 v2 v3 v4 M7 (fun (M10 : Mem) => (((3 : Int32) ≤ v5 → ((¬ v5 = (3 : Int32) → w_X2_farthest 60 M10 (fun (r15 : Int32) (M14 : Mem) => q (r15).toInt64 M14)) ∧ (v5 = (3 : Int32) → q (M10.2.1 60 1) M10))) ∧ (¬ (3 : Int32) ≤ v5 → vp_in v5 3 ∧ q ((M10.1 61 (v5).toNatClampNeg)).toInt64 M10)))) ∧ (¬ r8 = 0 → q (-2 : Int64) M7)))))))))
set_option maxRecDepth 100000 in
set_option maxHeartbeats 4000000 in
theorem ok_X11_fit {g : Gl} {l : Launch} {v1 : Int32} {v2 : Int32} {v3 : Int32} {v4 : Int32} {v5 : Int32} {M : Mem} {q : Int64 → Mem → Prop} (hw : w_X11_fit v1 v2 v3 v4 v5 M q) : CtJ g l yX11_fit cX11_fit 6 (some .long) 5 97 [.ref (g.2.2.2 + 0), .int v1, .int v2, .int v3, .int v4, .int v5] M q := by
  refine n_introJ (by decide +kernel) (Nat.le_of_ble_eq_true rfl) (fun c C r => ?_)
  have C : Cx c cX11_fit 6 RX11 g l (Rm 5 97) := C
  refine x_sub [0, 1, 2, 3, 4, 5] (lv' := [(0, .ref (g.2.2.2 + 0)), (1, .int v1), (2, .int v2), (3, .int v3), (4, .int v4), (5, .int v5)]) rfl ?_
  unfold w_X11_fit at hw
  refine x_iload_n C dX11_fit_0 rfl rfl ?_
  refine x_iconst (v := (4 : Int32)) C dX11_fit_1 (by decide) ?_
  refine n_callSI C (ok_X11_isOut  hw) ms_X11_87 rfl rfl ⟨Nat.le_of_ble_eq_true rfl, Nat.le_of_ble_eq_true rfl⟩ (Nat.le_of_ble_eq_true rfl) dX11_fit_2 (fun r2 M1 hw => ?_)
  refine x_if_ne (tgt := 27) C dX11_fit_5 (by decide) (fun h3 => ?_) (fun h3 => ?_)
  · replace hw := hw.1 h3
    refine x_ldc2_w (v := (-2 : Int64)) C dX11_fit_27 kc_X11_284 ?_
    exact n_lreturn C r dX11_fit_30 hw
  · replace hw := hw.2 h3
    refine x_iload_n C dX11_fit_8 rfl rfl ?_
    refine x_iload_n C dX11_fit_9 rfl rfl ?_
    refine x_iload C dX11_fit_10 rfl ?_
    refine n_callSI C (ok_X11_areNoCounts  hw) ms_X11_281 rfl rfl ⟨Nat.le_of_ble_eq_true rfl, Nat.le_of_ble_eq_true rfl⟩ (Nat.le_of_ble_eq_true rfl) dX11_fit_12 (fun r5 M4 hw => ?_)
    refine x_if_ne (tgt := 27) C dX11_fit_15 (by decide) (fun h6 => ?_) (fun h6 => ?_)
    · replace hw := hw.1 h6
      refine x_ldc2_w (v := (-2 : Int64)) C dX11_fit_27 kc_X11_284 ?_
      exact n_lreturn C r dX11_fit_30 hw
    · replace hw := hw.2 h6
      refine x_iload C dX11_fit_18 rfl ?_
      refine x_iconst (v := (5 : Int32)) C dX11_fit_20 (by decide) ?_
      refine n_callSI C (ok_X11_isOut  hw) ms_X11_87 rfl rfl ⟨Nat.le_of_ble_eq_true rfl, Nat.le_of_ble_eq_true rfl⟩ (Nat.le_of_ble_eq_true rfl) dX11_fit_21 (fun r8 M7 hw => ?_)
      refine x_if_eq (tgt := 31) C dX11_fit_24 (by decide) (fun h9 => ?_) (fun h9 => ?_)
      · replace hw := hw.1 h9
        refine x_aload_n C dX11_fit_31 rfl rfl ?_
        refine n_getS (dd := 60) C fl_X11_62 s0 (fun _ _ => rfl) rfl dX11_fit_32 ?_
        refine x_aload_n C dX11_fit_35 rfl rfl ?_
        refine n_getS (dd := 1) C fl_X11_10 s0 (fun _ _ => rfl) rfl dX11_fit_36 ?_
        refine x_iload_n C dX11_fit_39 rfl rfl ?_
        refine x_iload_n C dX11_fit_40 rfl rfl ?_
        refine x_iload_n C dX11_fit_41 rfl rfl ?_
        refine x_iload C dX11_fit_42 rfl ?_
        refine n_callVV s60 rfl C (ok_X2_find s60 s1 hw) mv_X11_286 rfl rfl ⟨Nat.le_of_ble_eq_true rfl, Nat.le_of_ble_eq_true rfl⟩ (Nat.le_of_ble_eq_true rfl) dX11_fit_44 (fun M10 hw => ?_)
        refine x_iload C dX11_fit_47 rfl ?_
        refine x_iconst (v := (3 : Int32)) C dX11_fit_49 (by decide) ?_
        refine x_icmp_ge (tgt := 67) C dX11_fit_50 (by decide) (fun h12 => ?_) (fun h12 => ?_)
        · replace hw := hw.1 h12
          refine x_iload C dX11_fit_67 rfl ?_
          refine x_iconst (v := (3 : Int32)) C dX11_fit_69 (by decide) ?_
          refine x_icmp_ne (tgt := 83) C dX11_fit_70 (by decide) (fun h13 => ?_) (fun h13 => ?_)
          · replace hw := hw.1 h13
            refine x_aload_n C dX11_fit_83 rfl rfl ?_
            refine n_getS (dd := 60) C fl_X11_62 s0 (fun _ _ => rfl) rfl dX11_fit_84 ?_
            refine n_callVI s60 rfl C (ok_X2_farthest s60 hw) mv_X11_295 rfl rfl ⟨Nat.le_of_ble_eq_true rfl, Nat.le_of_ble_eq_true rfl⟩ (Nat.le_of_ble_eq_true rfl) dX11_fit_87 (fun r15 M14 hw => ?_)
            refine x_i2l C dX11_fit_90 ?_
            exact n_lreturn C r dX11_fit_91 hw
          · replace hw := hw.2 h13
            refine x_aload_n C dX11_fit_73 rfl rfl ?_
            refine n_getS (dd := 60) C fl_X11_62 s0 (fun _ _ => rfl) rfl dX11_fit_74 ?_
            refine n_getJ C fl_X11_291 s60 (fun _ _ => rfl) dX11_fit_77 ?_
            refine x_goto (tgt := 91) C dX11_fit_80 (by decide) ?_
            exact n_lreturn C r dX11_fit_91 hw
        · replace hw := hw.2 h12
          refine x_aload_n C dX11_fit_53 rfl rfl ?_
          refine n_getS (dd := 60) C fl_X11_62 s0 (fun _ _ => rfl) rfl dX11_fit_54 ?_
          refine n_getS (dd := 1) C fl_X11_288 s60 (fun _ _ => rfl) rfl dX11_fit_57 ?_
          refine x_iload C dX11_fit_60 rfl ?_
          obtain ⟨h16, hw⟩ := hw
          refine a_iald C s61 ln61 h16 dX11_fit_62 ?_
          refine x_i2l C dX11_fit_63 ?_
          refine x_goto (tgt := 91) C dX11_fit_64 (by decide) ?_
          exact n_lreturn C r dX11_fit_91 hw
      · replace hw := hw.2 h9
        refine x_ldc2_w (v := (-2 : Int64)) C dX11_fit_27 kc_X11_284 ?_
        exact n_lreturn C r dX11_fit_30 hw

def w_X11_foretell (v1 : Int32) (v2 : Int32) (v3 : Int32) (v4 : Int32) (v5 : Int32) (v6 : Int32) (v7 : Int32) (M : Mem) (q : Int64 → Mem → Prop) : Prop := w_X11_isNoSpot v1 v2 v3 M (fun (r2 : Int32) (M1 : Mem) => ((¬ r2 = 0 → q (-2000000000 : Int64) M1) ∧ (r2 = 0 → w_X11_areNoCounts v4 v5 v6 M1 (fun (r5 : Int32) (M4 : Mem) => ((¬ r5 = 0 → q (-2000000000 : Int64) M4) ∧ (r5 = 0 → w_X11_isOut v7 (3 : Int32) M4 (fun (r8 : Int32) (M7 : Mem) => ((r8 = 0 → w_X7_goPlain 35 1 v1 v2 v3 M7 (fun (M10 : Mem) => (((M10.1 35 1) = 0 → w_X2_find 60 1 v2 v4 v5 v6 M10 (fun (M13 : Mem) => vp_in v4 6 ∧ vp_in v5 6 ∧ vp_in v6 6 ∧ w_X2_made 60 (M13.1 36 (v4).toNatClampNeg) (M13.1 36 (v5).toNatClampNeg) (M13.1 36 (v6).toNatClampNeg) M13 (fun (r19 : Int32) (M18 : Mem) => ∀ x20 : Int64, x20 = (r19).toInt64 → ((¬ v7 = 0 → w_X2_gatherMisses 60 1 v2 46 M18 (fun (M22 : Mem) => ((¬ (M22.1 46 1) = 0 → ((¬ v7 = (1 : Int32) → w_X0_greatest 46 M22 (fun (r27 : Int32) (M26 : Mem) => q (x20 + (r27).toInt64) M26)) ∧ (v7 = (1 : Int32) → w_X0_least 46 M22 (fun (r29 : Int32) (M28 : Mem) => q (x20 + (r29).toInt64) M28)))) ∧ ((M22.1 46 1) = 0 → q (-1000000000 : Int64) M22)))) ∧ (v7 = 0 → q x20 M18))))) ∧ (¬ (M10.1 35 1) = 0 → q (-1000000000 : Int64) M10)))) ∧ (¬ r8 = 0 → q (-2000000000 : Int64) M7)))))))))
set_option maxRecDepth 100000 in
set_option maxHeartbeats 4000000 in
theorem ok_X11_foretell {g : Gl} {l : Launch} {v1 : Int32} {v2 : Int32} {v3 : Int32} {v4 : Int32} {v5 : Int32} {v6 : Int32} {v7 : Int32} {M : Mem} {q : Int64 → Mem → Prop} (hw : w_X11_foretell v1 v2 v3 v4 v5 v6 v7 M q) : CtJ g l yX11_foretell cX11_foretell 10 (some .long) 7 145 [.ref (g.2.2.2 + 0), .int v1, .int v2, .int v3, .int v4, .int v5, .int v6, .int v7] M q := by
  refine n_introJ (by decide +kernel) (Nat.le_of_ble_eq_true rfl) (fun c C r => ?_)
  have C : Cx c cX11_foretell 10 RX11 g l (Rm 7 145) := C
  refine x_sub [0, 1, 2, 3, 4, 5, 6, 7] (lv' := [(0, .ref (g.2.2.2 + 0)), (1, .int v1), (2, .int v2), (3, .int v3), (4, .int v4), (5, .int v5), (6, .int v6), (7, .int v7)]) rfl ?_
  unfold w_X11_foretell at hw
  refine x_aload_n C dX11_foretell_0 rfl rfl ?_
  refine x_iload_n C dX11_foretell_1 rfl rfl ?_
  refine x_iload_n C dX11_foretell_2 rfl rfl ?_
  refine x_iload_n C dX11_foretell_3 rfl rfl ?_
  refine n_callVI s0 rfl C (ok_X11_isNoSpot  hw) mv_X11_153 rfl rfl ⟨Nat.le_of_ble_eq_true rfl, Nat.le_of_ble_eq_true rfl⟩ (Nat.le_of_ble_eq_true rfl) dX11_foretell_4 (fun r2 M1 hw => ?_)
  refine x_if_ne (tgt := 31) C dX11_foretell_7 (by decide) (fun h3 => ?_) (fun h3 => ?_)
  · replace hw := hw.1 h3
    refine x_ldc2_w (v := (-2000000000 : Int64)) C dX11_foretell_31 kc_X11_298 ?_
    exact n_lreturn C r dX11_foretell_34 hw
  · replace hw := hw.2 h3
    refine x_iload C dX11_foretell_10 rfl ?_
    refine x_iload C dX11_foretell_12 rfl ?_
    refine x_iload C dX11_foretell_14 rfl ?_
    refine n_callSI C (ok_X11_areNoCounts  hw) ms_X11_281 rfl rfl ⟨Nat.le_of_ble_eq_true rfl, Nat.le_of_ble_eq_true rfl⟩ (Nat.le_of_ble_eq_true rfl) dX11_foretell_16 (fun r5 M4 hw => ?_)
    refine x_if_ne (tgt := 31) C dX11_foretell_19 (by decide) (fun h6 => ?_) (fun h6 => ?_)
    · replace hw := hw.1 h6
      refine x_ldc2_w (v := (-2000000000 : Int64)) C dX11_foretell_31 kc_X11_298 ?_
      exact n_lreturn C r dX11_foretell_34 hw
    · replace hw := hw.2 h6
      refine x_iload C dX11_foretell_22 rfl ?_
      refine x_iconst (v := (3 : Int32)) C dX11_foretell_24 (by decide) ?_
      refine n_callSI C (ok_X11_isOut  hw) ms_X11_87 rfl rfl ⟨Nat.le_of_ble_eq_true rfl, Nat.le_of_ble_eq_true rfl⟩ (Nat.le_of_ble_eq_true rfl) dX11_foretell_25 (fun r8 M7 hw => ?_)
      refine x_if_eq (tgt := 35) C dX11_foretell_28 (by decide) (fun h9 => ?_) (fun h9 => ?_)
      · replace hw := hw.1 h9
        refine x_aload_n C dX11_foretell_35 rfl rfl ?_
        refine n_getS (dd := 35) C fl_X11_27 s0 (fun _ _ => rfl) rfl dX11_foretell_36 ?_
        refine x_aload_n C dX11_foretell_39 rfl rfl ?_
        refine n_getS (dd := 1) C fl_X11_10 s0 (fun _ _ => rfl) rfl dX11_foretell_40 ?_
        refine x_iload_n C dX11_foretell_43 rfl rfl ?_
        refine x_iload_n C dX11_foretell_44 rfl rfl ?_
        refine x_iload_n C dX11_foretell_45 rfl rfl ?_
        refine n_callVV s35 rfl C (ok_X7_goPlain s35 s1 hw) mv_X11_170 rfl rfl ⟨Nat.le_of_ble_eq_true rfl, Nat.le_of_ble_eq_true rfl⟩ (Nat.le_of_ble_eq_true rfl) dX11_foretell_46 (fun M10 hw => ?_)
        refine x_aload_n C dX11_foretell_49 rfl rfl ?_
        refine n_getS (dd := 35) C fl_X11_27 s0 (fun _ _ => rfl) rfl dX11_foretell_50 ?_
        refine n_getI C fl_X11_255 s35 (fun _ _ => rfl) dX11_foretell_53 ?_
        refine x_if_eq (tgt := 63) C dX11_foretell_56 (by decide) (fun h12 => ?_) (fun h12 => ?_)
        · replace hw := hw.1 h12
          refine x_aload_n C dX11_foretell_63 rfl rfl ?_
          refine n_getS (dd := 60) C fl_X11_62 s0 (fun _ _ => rfl) rfl dX11_foretell_64 ?_
          refine x_aload_n C dX11_foretell_67 rfl rfl ?_
          refine n_getS (dd := 1) C fl_X11_10 s0 (fun _ _ => rfl) rfl dX11_foretell_68 ?_
          refine x_iload_n C dX11_foretell_71 rfl rfl ?_
          refine x_iload C dX11_foretell_72 rfl ?_
          refine x_iload C dX11_foretell_74 rfl ?_
          refine x_iload C dX11_foretell_76 rfl ?_
          refine n_callVV s60 rfl C (ok_X2_find s60 s1 hw) mv_X11_286 rfl rfl ⟨Nat.le_of_ble_eq_true rfl, Nat.le_of_ble_eq_true rfl⟩ (Nat.le_of_ble_eq_true rfl) dX11_foretell_78 (fun M13 hw => ?_)
          refine x_aload_n C dX11_foretell_81 rfl rfl ?_
          refine n_getS (dd := 60) C fl_X11_62 s0 (fun _ _ => rfl) rfl dX11_foretell_82 ?_
          refine x_aload_n C dX11_foretell_85 rfl rfl ?_
          refine n_getS (dd := 35) C fl_X11_27 s0 (fun _ _ => rfl) rfl dX11_foretell_86 ?_
          refine n_getS (dd := 1) C fl_X11_174 s35 (fun _ _ => rfl) rfl dX11_foretell_89 ?_
          refine x_iload C dX11_foretell_92 rfl ?_
          obtain ⟨h15, hw⟩ := hw
          refine a_iald C s36 ln36 h15 dX11_foretell_94 ?_
          refine x_aload_n C dX11_foretell_95 rfl rfl ?_
          refine n_getS (dd := 35) C fl_X11_27 s0 (fun _ _ => rfl) rfl dX11_foretell_96 ?_
          refine n_getS (dd := 1) C fl_X11_174 s35 (fun _ _ => rfl) rfl dX11_foretell_99 ?_
          refine x_iload C dX11_foretell_102 rfl ?_
          obtain ⟨h16, hw⟩ := hw
          refine a_iald C s36 ln36 h16 dX11_foretell_104 ?_
          refine x_aload_n C dX11_foretell_105 rfl rfl ?_
          refine n_getS (dd := 35) C fl_X11_27 s0 (fun _ _ => rfl) rfl dX11_foretell_106 ?_
          refine n_getS (dd := 1) C fl_X11_174 s35 (fun _ _ => rfl) rfl dX11_foretell_109 ?_
          refine x_iload C dX11_foretell_112 rfl ?_
          obtain ⟨h17, hw⟩ := hw
          refine a_iald C s36 ln36 h17 dX11_foretell_114 ?_
          refine n_callVI s60 rfl C (ok_X2_made s60 hw) mv_X11_302 rfl rfl ⟨Nat.le_of_ble_eq_true rfl, Nat.le_of_ble_eq_true rfl⟩ (Nat.le_of_ble_eq_true rfl) dX11_foretell_115 (fun r19 M18 hw => ?_)
          refine x_i2l C dX11_foretell_118 ?_
          obtain ⟨x20, ex20⟩ : ∃ z : Int64, z = (r19).toInt64 := ⟨_, rfl⟩
          replace hw := hw x20 ex20
          refine x_topj ex20 ?_
          refine x_lstore C dX11_foretell_119 (Nat.le_of_ble_eq_true rfl) ?_
          refine x_iload C dX11_foretell_121 rfl ?_
          refine x_if_ne (tgt := 129) C dX11_foretell_123 (by decide) (fun h21 => ?_) (fun h21 => ?_)
          · replace hw := hw.1 h21
            refine x_aload_n C dX11_foretell_129 rfl rfl ?_
            refine n_getS (dd := 60) C fl_X11_62 s0 (fun _ _ => rfl) rfl dX11_foretell_130 ?_
            refine x_aload_n C dX11_foretell_133 rfl rfl ?_
            refine n_getS (dd := 1) C fl_X11_10 s0 (fun _ _ => rfl) rfl dX11_foretell_134 ?_
            refine x_iload_n C dX11_foretell_137 rfl rfl ?_
            refine x_aload_n C dX11_foretell_138 rfl rfl ?_
            refine n_getS (dd := 46) C fl_X11_34 s0 (fun _ _ => rfl) rfl dX11_foretell_139 ?_
            refine n_callVV s60 rfl C (ok_X2_gatherMisses s60 s1 s46 hw) mv_X11_306 rfl rfl ⟨Nat.le_of_ble_eq_true rfl, Nat.le_of_ble_eq_true rfl⟩ (Nat.le_of_ble_eq_true rfl) dX11_foretell_142 (fun M22 hw => ?_)
            refine x_aload_n C dX11_foretell_145 rfl rfl ?_
            refine n_getS (dd := 46) C fl_X11_34 s0 (fun _ _ => rfl) rfl dX11_foretell_146 ?_
            refine n_getI C fl_X11_181 s46 (fun _ _ => rfl) dX11_foretell_149 ?_
            refine x_if_ne (tgt := 159) C dX11_foretell_152 (by decide) (fun h24 => ?_) (fun h24 => ?_)
            · replace hw := hw.1 h24
              refine x_lload C dX11_foretell_159 rfl ?_
              refine x_iload C dX11_foretell_161 rfl ?_
              refine x_iconst (v := (1 : Int32)) C dX11_foretell_163 (by decide) ?_
              refine x_icmp_ne (tgt := 177) C dX11_foretell_164 (by decide) (fun h25 => ?_) (fun h25 => ?_)
              · replace hw := hw.1 h25
                refine x_aload_n C dX11_foretell_177 rfl rfl ?_
                refine n_getS (dd := 46) C fl_X11_34 s0 (fun _ _ => rfl) rfl dX11_foretell_178 ?_
                refine n_callVI s46 rfl C (ok_X0_greatest s46 hw) mv_X11_187 rfl rfl ⟨Nat.le_of_ble_eq_true rfl, Nat.le_of_ble_eq_true rfl⟩ (Nat.le_of_ble_eq_true rfl) dX11_foretell_181 (fun r27 M26 hw => ?_)
                refine x_i2l C dX11_foretell_184 ?_
                refine x_ladd C dX11_foretell_185 ?_
                exact n_lreturn C r dX11_foretell_186 hw
              · replace hw := hw.2 h25
                refine x_aload_n C dX11_foretell_167 rfl rfl ?_
                refine n_getS (dd := 46) C fl_X11_34 s0 (fun _ _ => rfl) rfl dX11_foretell_168 ?_
                refine n_callVI s46 rfl C (ok_X0_least s46 hw) mv_X11_184 rfl rfl ⟨Nat.le_of_ble_eq_true rfl, Nat.le_of_ble_eq_true rfl⟩ (Nat.le_of_ble_eq_true rfl) dX11_foretell_171 (fun r29 M28 hw => ?_)
                refine x_goto (tgt := 184) C dX11_foretell_174 (by decide) ?_
                refine x_i2l C dX11_foretell_184 ?_
                refine x_ladd C dX11_foretell_185 ?_
                exact n_lreturn C r dX11_foretell_186 hw
            · replace hw := hw.2 h24
              refine x_ldc2_w (v := (-1000000000 : Int64)) C dX11_foretell_155 kc_X11_300 ?_
              exact n_lreturn C r dX11_foretell_158 hw
          · replace hw := hw.2 h21
            refine x_lload C dX11_foretell_126 rfl ?_
            exact n_lreturn C r dX11_foretell_128 hw
        · replace hw := hw.2 h12
          refine x_ldc2_w (v := (-1000000000 : Int64)) C dX11_foretell_59 kc_X11_300 ?_
          exact n_lreturn C r dX11_foretell_62 hw
      · replace hw := hw.2 h9
        refine x_ldc2_w (v := (-2000000000 : Int64)) C dX11_foretell_31 kc_X11_298 ?_
        exact n_lreturn C r dX11_foretell_34 hw

def w_X11_seek_b186 (v4 : Int32) (v5 : Int32) (v8 : Int32) (M : Mem) (q : Int32 → Mem → Prop) : Prop := ((¬ v4 = 0 → q v8 M) ∧ (v4 = 0 → q v5 M))
set_option maxRecDepth 100000 in
set_option maxHeartbeats 4000000 in
theorem ok_X11_seek_b186 {c : CtxT} {g : Gl} {l : Launch} {v4 : Int32} {v5 : Int32} {v8 : Int32} {q : Int32 → Mem → Prop} {M : Mem} (C : Cx c cX11_seek 10 RX11 g l (Rm 7 145)) (r : Rt c (some .int) (pI q) 0 0) (hw : w_X11_seek_b186 v4 v5 v8 M q ) : X c S0 186 [(4, .int v4), (5, .int v5), (8, .int v8)] [] (stat M) := by
  unfold w_X11_seek_b186 at hw
  refine x_iload C dX11_seek_186 rfl ?_
  refine x_if_ne (tgt := 196) C dX11_seek_188 (by decide) (fun h1 => ?_) (fun h1 => ?_)
  · replace hw := hw.1 h1
    refine x_iload C dX11_seek_196 rfl ?_
    exact n_ireturn C r dX11_seek_198 hw
  · replace hw := hw.2 h1
    refine x_iload C dX11_seek_191 rfl ?_
    refine x_goto (tgt := 198) C dX11_seek_193 (by decide) ?_
    exact n_ireturn C r dX11_seek_198 hw
def w_X11_seek_b180 (v1 : Int32) (v2 : Int32) (v3 : Int32) (v4 : Int32) (v5 : Int32) (v6 : Int32) (v7 : Int32) (v8 : Int32) (v9 : Int32) (M : Mem) (q : Int32 → Mem → Prop) (P63 : Int32 × Int32 × Int32 × Int32 × Int32 × Mem → Prop) : Prop := ∀ x2 : Int32, x2 = v9 + (1 : Int32) → P63 (v5, v6, v7, v8, x2, M)
set_option maxRecDepth 100000 in
set_option maxHeartbeats 4000000 in
theorem ok_X11_seek_b180 {c : CtxT} {g : Gl} {l : Launch} {v1 : Int32} {v2 : Int32} {v3 : Int32} {v4 : Int32} {v5 : Int32} {v6 : Int32} {v7 : Int32} {v8 : Int32} {v9 : Int32} {q : Int32 → Mem → Prop} {P63 : Int32 × Int32 × Int32 × Int32 × Int32 × Mem → Prop} {M : Mem} (C : Cx c cX11_seek 10 RX11 g l (Rm 7 145)) (r : Rt c (some .int) (pI q) 0 0) (hP63 : ∀ (v5 : Int32) (v6 : Int32) (v7 : Int32) (v8 : Int32) (v9 : Int32) (M : Mem), P63 (v5, v6, v7, v8, v9, M) → X c S0 63 [(0, .ref (g.2.2.2 + 0)), (1, .int v1), (2, .int v2), (3, .int v3), (4, .int v4), (5, .int v5), (6, .int v6), (7, .int v7), (8, .int v8), (9, .int v9)] [] (stat M)) (hw : w_X11_seek_b180 v1 v2 v3 v4 v5 v6 v7 v8 v9 M q P63) : X c S0 180 [(0, .ref (g.2.2.2 + 0)), (1, .int v1), (2, .int v2), (3, .int v3), (4, .int v4), (5, .int v5), (6, .int v6), (7, .int v7), (8, .int v8), (9, .int v9)] [] (stat M) := by
  unfold w_X11_seek_b180 at hw
  obtain ⟨x2, ex2⟩ : ∃ z : Int32, z = v9 + (1 : Int32) := ⟨_, rfl⟩
  replace hw := hw x2 ex2
  refine x_iinc (v := x2) C dX11_seek_180 rfl ex2.symm (Nat.le_of_ble_eq_true rfl) ?_
  refine x_goto (tgt := 63) C dX11_seek_183 (by decide) ?_
  exact x_sub [0, 1, 2, 3, 4, 5, 6, 7, 8, 9] rfl (hP63 _ _ _ _ _ _ hw)
def w_X11_seek_b165 (v1 : Int32) (v2 : Int32) (v3 : Int32) (v4 : Int32) (v7 : Int32) (v8 : Int32) (v9 : Int32) (M : Mem) (q : Int32 → Mem → Prop) (P63 : Int32 × Int32 × Int32 × Int32 × Int32 × Mem → Prop) : Prop := ∀ x3 : Int32, x3 = (M.1 36 5) → w_X11_seek_b180 v1 v2 v3 v4 v9 x3 v7 v8 v9 M q P63
set_option maxRecDepth 100000 in
set_option maxHeartbeats 4000000 in
theorem ok_X11_seek_b165 {c : CtxT} {g : Gl} {l : Launch} {v1 : Int32} {v2 : Int32} {v3 : Int32} {v4 : Int32} {v7 : Int32} {v8 : Int32} {v9 : Int32} {q : Int32 → Mem → Prop} {P63 : Int32 × Int32 × Int32 × Int32 × Int32 × Mem → Prop} {M : Mem} (C : Cx c cX11_seek 10 RX11 g l (Rm 7 145)) (r : Rt c (some .int) (pI q) 0 0) (hP63 : ∀ (v5 : Int32) (v6 : Int32) (v7 : Int32) (v8 : Int32) (v9 : Int32) (M : Mem), P63 (v5, v6, v7, v8, v9, M) → X c S0 63 [(0, .ref (g.2.2.2 + 0)), (1, .int v1), (2, .int v2), (3, .int v3), (4, .int v4), (5, .int v5), (6, .int v6), (7, .int v7), (8, .int v8), (9, .int v9)] [] (stat M)) (hw : w_X11_seek_b165 v1 v2 v3 v4 v7 v8 v9 M q P63) : X c S0 165 [(0, .ref (g.2.2.2 + 0)), (1, .int v1), (2, .int v2), (3, .int v3), (4, .int v4), (7, .int v7), (8, .int v8), (9, .int v9)] [] (stat M) := by
  unfold w_X11_seek_b165 at hw
  refine x_iload C dX11_seek_165 rfl ?_
  refine x_istore C dX11_seek_167 (Nat.le_of_ble_eq_true rfl) ?_
  refine x_aload_n C dX11_seek_169 rfl rfl ?_
  refine n_getS (dd := 35) C fl_X11_27 s0 (fun _ _ => rfl) rfl dX11_seek_170 ?_
  refine n_getS (dd := 1) C fl_X11_174 s35 (fun _ _ => rfl) rfl dX11_seek_173 ?_
  refine x_iconst (v := (5 : Int32)) C dX11_seek_176 (by decide) ?_
  refine a_ialdL (ni := 5) C s36 ln36 (by decide) (vin _ _ (by decide +kernel)) dX11_seek_177 ?_
  obtain ⟨x3, ex3⟩ : ∃ z : Int32, z = (M.1 36 5) := ⟨_, rfl⟩
  replace hw := hw x3 ex3
  refine x_topi ex3 ?_
  refine x_istore C dX11_seek_178 (Nat.le_of_ble_eq_true rfl) ?_
  exact x_sub [0, 1, 2, 3, 4, 5, 6, 7, 8, 9] rfl (ok_X11_seek_b180 C r hP63 hw)
def w_X11_seek_b120 (v1 : Int32) (v2 : Int32) (v3 : Int32) (v4 : Int32) (v5 : Int32) (v6 : Int32) (v8 : Int32) (v9 : Int32) (t0 : Int32) (t1 : Int32) (M : Mem) (q : Int32 → Mem → Prop) (P63 : Int32 × Int32 × Int32 × Int32 × Int32 × Mem → Prop) : Prop := ∀ x4 : Int32, x4 = (t0 + t1) → ((x4 ≤ v3 → ∀ x6 : Int32, x6 = v8 + (1 : Int32) → ((¬ (M.1 35 1) = 0 → w_X11_seek_b180 v1 v2 v3 v4 v5 v6 x4 x6 v9 M q P63) ∧ ((M.1 35 1) = 0 → ((v5 = (-1 : Int32) → w_X11_seek_b165 v1 v2 v3 v4 x4 x6 v9 M q P63) ∧ (¬ v5 = (-1 : Int32) → ((v6 ≤ (M.1 36 5) → w_X11_seek_b180 v1 v2 v3 v4 v5 v6 x4 x6 v9 M q P63) ∧ (¬ v6 ≤ (M.1 36 5) → w_X11_seek_b165 v1 v2 v3 v4 x4 x6 v9 M q P63))))))) ∧ (¬ x4 ≤ v3 → w_X11_seek_b186 v4 v5 v8 M q))
set_option maxRecDepth 100000 in
set_option maxHeartbeats 4000000 in
theorem ok_X11_seek_b120 {c : CtxT} {g : Gl} {l : Launch} {v1 : Int32} {v2 : Int32} {v3 : Int32} {v4 : Int32} {v5 : Int32} {v6 : Int32} {v8 : Int32} {v9 : Int32} {t0 : Int32} {t1 : Int32} {q : Int32 → Mem → Prop} {P63 : Int32 × Int32 × Int32 × Int32 × Int32 × Mem → Prop} {M : Mem} (C : Cx c cX11_seek 10 RX11 g l (Rm 7 145)) (r : Rt c (some .int) (pI q) 0 0) (hP63 : ∀ (v5 : Int32) (v6 : Int32) (v7 : Int32) (v8 : Int32) (v9 : Int32) (M : Mem), P63 (v5, v6, v7, v8, v9, M) → X c S0 63 [(0, .ref (g.2.2.2 + 0)), (1, .int v1), (2, .int v2), (3, .int v3), (4, .int v4), (5, .int v5), (6, .int v6), (7, .int v7), (8, .int v8), (9, .int v9)] [] (stat M)) (hw : w_X11_seek_b120 v1 v2 v3 v4 v5 v6 v8 v9 t0 t1 M q P63) : X c S0 120 [(0, .ref (g.2.2.2 + 0)), (1, .int v1), (2, .int v2), (3, .int v3), (4, .int v4), (5, .int v5), (6, .int v6), (8, .int v8), (9, .int v9)] [.int t1, .int t0] (stat M) := by
  unfold w_X11_seek_b120 at hw
  refine x_iadd C dX11_seek_120 ?_
  obtain ⟨x4, ex4⟩ : ∃ z : Int32, z = (t0 + t1) := ⟨_, rfl⟩
  replace hw := hw x4 ex4
  refine x_topi ex4 ?_
  refine x_istore C dX11_seek_121 (Nat.le_of_ble_eq_true rfl) ?_
  refine x_iload C dX11_seek_123 rfl ?_
  refine x_iload_n C dX11_seek_125 rfl rfl ?_
  refine x_icmp_le (tgt := 132) C dX11_seek_126 (by decide) (fun h5 => ?_) (fun h5 => ?_)
  · replace hw := hw.1 h5
    obtain ⟨x6, ex6⟩ : ∃ z : Int32, z = v8 + (1 : Int32) := ⟨_, rfl⟩
    replace hw := hw x6 ex6
    refine x_iinc (v := x6) C dX11_seek_132 rfl ex6.symm (Nat.le_of_ble_eq_true rfl) ?_
    refine x_aload_n C dX11_seek_135 rfl rfl ?_
    refine n_getS (dd := 35) C fl_X11_27 s0 (fun _ _ => rfl) rfl dX11_seek_136 ?_
    refine n_getI C fl_X11_255 s35 (fun _ _ => rfl) dX11_seek_139 ?_
    refine x_if_ne (tgt := 180) C dX11_seek_142 (by decide) (fun h7 => ?_) (fun h7 => ?_)
    · replace hw := hw.1 h7
      exact x_sub [0, 1, 2, 3, 4, 5, 6, 7, 8, 9] rfl (ok_X11_seek_b180 C r hP63 hw)
    · replace hw := hw.2 h7
      refine x_iload C dX11_seek_145 rfl ?_
      refine x_iconst (v := (-1 : Int32)) C dX11_seek_147 (by decide) ?_
      refine x_icmp_eq (tgt := 165) C dX11_seek_148 (by decide) (fun h8 => ?_) (fun h8 => ?_)
      · replace hw := hw.1 h8
        exact x_sub [0, 1, 2, 3, 4, 7, 8, 9] rfl (ok_X11_seek_b165 C r hP63 hw)
      · replace hw := hw.2 h8
        refine x_aload_n C dX11_seek_151 rfl rfl ?_
        refine n_getS (dd := 35) C fl_X11_27 s0 (fun _ _ => rfl) rfl dX11_seek_152 ?_
        refine n_getS (dd := 1) C fl_X11_174 s35 (fun _ _ => rfl) rfl dX11_seek_155 ?_
        refine x_iconst (v := (5 : Int32)) C dX11_seek_158 (by decide) ?_
        refine a_ialdL (ni := 5) C s36 ln36 (by decide) (vin _ _ (by decide +kernel)) dX11_seek_159 ?_
        refine x_iload C dX11_seek_160 rfl ?_
        refine x_icmp_ge (tgt := 180) C dX11_seek_162 (by decide) (fun h9 => ?_) (fun h9 => ?_)
        · replace hw := hw.1 h9
          exact x_sub [0, 1, 2, 3, 4, 5, 6, 7, 8, 9] rfl (ok_X11_seek_b180 C r hP63 hw)
        · replace hw := hw.2 h9
          exact x_sub [0, 1, 2, 3, 4, 7, 8, 9] rfl (ok_X11_seek_b165 C r hP63 hw)
  · replace hw := hw.2 h5
    refine x_goto (tgt := 186) C dX11_seek_129 (by decide) ?_
    exact x_sub [4, 5, 8] rfl (ok_X11_seek_b186 C r  hw)
def w_X11_seek_l63F (v1 : Int32) (v2 : Int32) (v3 : Int32) (v4 : Int32) (q : Int32 → Mem → Prop) (P63 : Int32 × Int32 × Int32 × Int32 × Int32 × Mem → Prop) (s : Int32 × Int32 × Int32 × Int32 × Int32 × Mem) : Prop := match s with
  | (v5, v6, v7, v8, v9, M) => (((M.1 2 10) ≤ v9 → w_X11_seek_b186 v4 v5 v8 M q) ∧ (¬ (M.1 2 10) ≤ v9 → w_X7_goPlain 35 1 v1 v2 v9 M (fun (M11 : Mem) => (((M11.1 35 1) = 0 → w_X11_seek_b120 v1 v2 v3 v4 v5 v6 v8 v9 v7 (M11.1 36 5) M11 q P63) ∧ (¬ (M11.1 35 1) = 0 → w_X11_seek_b120 v1 v2 v3 v4 v5 v6 v8 v9 v7 (2000 : Int32) M11 q P63)))))
def w_X11_seek_l63 (v1 : Int32) (v2 : Int32) (v3 : Int32) (v4 : Int32) (q : Int32 → Mem → Prop) (s : Int32 × Int32 × Int32 × Int32 × Int32 × Mem) : Prop := lfp (w_X11_seek_l63F v1 v2 v3 v4 q ) s
set_option maxRecDepth 100000 in
set_option maxHeartbeats 4000000 in
theorem ok_X11_seek_l63 {c : CtxT} {g : Gl} {l : Launch} {v1 : Int32} {v2 : Int32} {v3 : Int32} {v4 : Int32} {q : Int32 → Mem → Prop} {s : Int32 × Int32 × Int32 × Int32 × Int32 × Mem} (C : Cx c cX11_seek 10 RX11 g l (Rm 7 145)) (r : Rt c (some .int) (pI q) 0 0) (hw : w_X11_seek_l63 v1 v2 v3 v4 q s) : X c S0 63 [(0, .ref (g.2.2.2 + 0)), (1, .int v1), (2, .int v2), (3, .int v3), (4, .int v4), (5, .int s.1), (6, .int s.2.1), (7, .int s.2.2.1), (8, .int s.2.2.2.1), (9, .int s.2.2.2.2.1)] [] (stat s.2.2.2.2.2) := hw (fun s => X c S0 63 [(0, .ref (g.2.2.2 + 0)), (1, .int v1), (2, .int v2), (3, .int v3), (4, .int v4), (5, .int s.1), (6, .int s.2.1), (7, .int s.2.2.1), (8, .int s.2.2.2.1), (9, .int s.2.2.2.2.1)] [] (stat s.2.2.2.2.2)) (fun s hw => by
    obtain ⟨v5, v6, v7, v8, v9, M⟩ := s
    try dsimp only [w_X11_seek_l63F] at hw
    try dsimp only
    refine x_iload C dX11_seek_63 rfl ?_
    refine x_aload_n C dX11_seek_65 rfl rfl ?_
    refine n_getS (dd := 1) C fl_X11_10 s0 (fun _ _ => rfl) rfl dX11_seek_66 ?_
    refine n_getS (dd := 1) C fl_X11_73 s1 (fun _ _ => rfl) rfl dX11_seek_69 ?_
    refine n_getI C fl_X11_311 s2 (fun _ _ => rfl) dX11_seek_72 ?_
    refine x_icmp_ge (tgt := 186) C dX11_seek_75 (by decide) (fun h10 => ?_) (fun h10 => ?_)
    · replace hw := hw.1 h10
      exact x_sub [4, 5, 8] rfl (ok_X11_seek_b186 C r  hw)
    · replace hw := hw.2 h10
      refine x_aload_n C dX11_seek_78 rfl rfl ?_
      refine n_getS (dd := 35) C fl_X11_27 s0 (fun _ _ => rfl) rfl dX11_seek_79 ?_
      refine x_aload_n C dX11_seek_82 rfl rfl ?_
      refine n_getS (dd := 1) C fl_X11_10 s0 (fun _ _ => rfl) rfl dX11_seek_83 ?_
      refine x_iload_n C dX11_seek_86 rfl rfl ?_
      refine x_iload_n C dX11_seek_87 rfl rfl ?_
      refine x_iload C dX11_seek_88 rfl ?_
      refine n_callVV s35 rfl C (ok_X7_goPlain s35 s1 hw) mv_X11_170 rfl rfl ⟨Nat.le_of_ble_eq_true rfl, Nat.le_of_ble_eq_true rfl⟩ (Nat.le_of_ble_eq_true rfl) dX11_seek_90 (fun M11 hw => ?_)
      refine x_iload C dX11_seek_93 rfl ?_
      refine x_aload_n C dX11_seek_95 rfl rfl ?_
      refine n_getS (dd := 35) C fl_X11_27 s0 (fun _ _ => rfl) rfl dX11_seek_96 ?_
      refine n_getI C fl_X11_255 s35 (fun _ _ => rfl) dX11_seek_99 ?_
      refine x_if_eq (tgt := 111) C dX11_seek_102 (by decide) (fun h13 => ?_) (fun h13 => ?_)
      · replace hw := hw.1 h13
        refine x_aload_n C dX11_seek_111 rfl rfl ?_
        refine n_getS (dd := 35) C fl_X11_27 s0 (fun _ _ => rfl) rfl dX11_seek_112 ?_
        refine n_getS (dd := 1) C fl_X11_174 s35 (fun _ _ => rfl) rfl dX11_seek_115 ?_
        refine x_iconst (v := (5 : Int32)) C dX11_seek_118 (by decide) ?_
        refine a_ialdL (ni := 5) C s36 ln36 (by decide) (vin _ _ (by decide +kernel)) dX11_seek_119 ?_
        exact x_sub [0, 1, 2, 3, 4, 5, 6, 8, 9] rfl (ok_X11_seek_b120 C r (fun _ _ _ _ _ _ h => h) hw)
      · replace hw := hw.2 h13
        refine x_sipush (v := (2000 : Int32)) C dX11_seek_105 (by decide) ?_
        refine x_goto (tgt := 120) C dX11_seek_108 (by decide) ?_
        exact x_sub [0, 1, 2, 3, 4, 5, 6, 8, 9] rfl (ok_X11_seek_b120 C r (fun _ _ _ _ _ _ h => h) hw))
def w_X11_seek (v1 : Int32) (v2 : Int32) (v3 : Int32) (v4 : Int32) (M : Mem) (q : Int32 → Mem → Prop) : Prop := w_X11_isOut v1 (M.1 2 7) M (fun (r15 : Int32) (M14 : Mem) => ((¬ r15 = 0 → q (-2 : Int32) M14) ∧ (r15 = 0 → w_X11_isOut v2 (4 : Int32) M14 (fun (r18 : Int32) (M17 : Mem) => ((¬ r18 = 0 → q (-2 : Int32) M17) ∧ (r18 = 0 → w_X11_isBeyond v3 (0 : Int32) (1000000 : Int32) M17 (fun (r21 : Int32) (M20 : Mem) => ((¬ r21 = 0 → q (-2 : Int32) M20) ∧ (r21 = 0 → w_X11_isOut v4 (2 : Int32) M20 (fun (r24 : Int32) (M23 : Mem) => ((r24 = 0 → w_X11_seek_l63 v1 v2 v3 v4 q ((-1 : Int32), (0 : Int32), (0 : Int32), (0 : Int32), (0 : Int32), M23)) ∧ (¬ r24 = 0 → q (-2 : Int32) M23))))))))))))
set_option maxRecDepth 100000 in
set_option maxHeartbeats 4000000 in
theorem ok_X11_seek {g : Gl} {l : Launch} {v1 : Int32} {v2 : Int32} {v3 : Int32} {v4 : Int32} {M : Mem} {q : Int32 → Mem → Prop} (hw : w_X11_seek v1 v2 v3 v4 M q) : CtI g l yX11_seek cX11_seek 10 (some .int) 7 145 [.ref (g.2.2.2 + 0), .int v1, .int v2, .int v3, .int v4] M q := by
  refine n_introI (by decide +kernel) (Nat.le_of_ble_eq_true rfl) (fun c C r => ?_)
  have C : Cx c cX11_seek 10 RX11 g l (Rm 7 145) := C
  refine x_sub [0, 1, 2, 3, 4] (lv' := [(0, .ref (g.2.2.2 + 0)), (1, .int v1), (2, .int v2), (3, .int v3), (4, .int v4)]) rfl ?_
  unfold w_X11_seek at hw
  refine x_iload_n C dX11_seek_0 rfl rfl ?_
  refine x_aload_n C dX11_seek_1 rfl rfl ?_
  refine n_getS (dd := 1) C fl_X11_10 s0 (fun _ _ => rfl) rfl dX11_seek_2 ?_
  refine n_getS (dd := 1) C fl_X11_73 s1 (fun _ _ => rfl) rfl dX11_seek_5 ?_
  refine n_getI C fl_X11_193 s2 (fun _ _ => rfl) dX11_seek_8 ?_
  refine n_callSI C (ok_X11_isOut  hw) ms_X11_87 rfl rfl ⟨Nat.le_of_ble_eq_true rfl, Nat.le_of_ble_eq_true rfl⟩ (Nat.le_of_ble_eq_true rfl) dX11_seek_11 (fun r15 M14 hw => ?_)
  refine x_if_ne (tgt := 45) C dX11_seek_14 (by decide) (fun h16 => ?_) (fun h16 => ?_)
  · replace hw := hw.1 h16
    refine x_bipush (v := (-2 : Int32)) C dX11_seek_45 (by decide) ?_
    exact n_ireturn C r dX11_seek_47 hw
  · replace hw := hw.2 h16
    refine x_iload_n C dX11_seek_17 rfl rfl ?_
    refine x_iconst (v := (4 : Int32)) C dX11_seek_18 (by decide) ?_
    refine n_callSI C (ok_X11_isOut  hw) ms_X11_87 rfl rfl ⟨Nat.le_of_ble_eq_true rfl, Nat.le_of_ble_eq_true rfl⟩ (Nat.le_of_ble_eq_true rfl) dX11_seek_19 (fun r18 M17 hw => ?_)
    refine x_if_ne (tgt := 45) C dX11_seek_22 (by decide) (fun h19 => ?_) (fun h19 => ?_)
    · replace hw := hw.1 h19
      refine x_bipush (v := (-2 : Int32)) C dX11_seek_45 (by decide) ?_
      exact n_ireturn C r dX11_seek_47 hw
    · replace hw := hw.2 h19
      refine x_iload_n C dX11_seek_25 rfl rfl ?_
      refine x_iconst (v := (0 : Int32)) C dX11_seek_26 (by decide) ?_
      refine x_ldc_w (v := (1000000 : Int32)) C dX11_seek_27 kc_X11_310 ?_
      refine n_callSI C (ok_X11_isBeyond  hw) ms_X11_128 rfl rfl ⟨Nat.le_of_ble_eq_true rfl, Nat.le_of_ble_eq_true rfl⟩ (Nat.le_of_ble_eq_true rfl) dX11_seek_30 (fun r21 M20 hw => ?_)
      refine x_if_ne (tgt := 45) C dX11_seek_33 (by decide) (fun h22 => ?_) (fun h22 => ?_)
      · replace hw := hw.1 h22
        refine x_bipush (v := (-2 : Int32)) C dX11_seek_45 (by decide) ?_
        exact n_ireturn C r dX11_seek_47 hw
      · replace hw := hw.2 h22
        refine x_iload C dX11_seek_36 rfl ?_
        refine x_iconst (v := (2 : Int32)) C dX11_seek_38 (by decide) ?_
        refine n_callSI C (ok_X11_isOut  hw) ms_X11_87 rfl rfl ⟨Nat.le_of_ble_eq_true rfl, Nat.le_of_ble_eq_true rfl⟩ (Nat.le_of_ble_eq_true rfl) dX11_seek_39 (fun r24 M23 hw => ?_)
        refine x_if_eq (tgt := 48) C dX11_seek_42 (by decide) (fun h25 => ?_) (fun h25 => ?_)
        · replace hw := hw.1 h25
          refine x_iconst (v := (-1 : Int32)) C dX11_seek_48 (by decide) ?_
          refine x_istore C dX11_seek_49 (Nat.le_of_ble_eq_true rfl) ?_
          refine x_iconst (v := (0 : Int32)) C dX11_seek_51 (by decide) ?_
          refine x_istore C dX11_seek_52 (Nat.le_of_ble_eq_true rfl) ?_
          refine x_iconst (v := (0 : Int32)) C dX11_seek_54 (by decide) ?_
          refine x_istore C dX11_seek_55 (Nat.le_of_ble_eq_true rfl) ?_
          refine x_iconst (v := (0 : Int32)) C dX11_seek_57 (by decide) ?_
          refine x_istore C dX11_seek_58 (Nat.le_of_ble_eq_true rfl) ?_
          refine x_iconst (v := (0 : Int32)) C dX11_seek_60 (by decide) ?_
          refine x_istore C dX11_seek_61 (Nat.le_of_ble_eq_true rfl) ?_
          exact x_sub [0, 1, 2, 3, 4, 5, 6, 7, 8, 9] rfl (ok_X11_seek_l63 C r  hw)
        · replace hw := hw.2 h25
          refine x_bipush (v := (-2 : Int32)) C dX11_seek_45 (by decide) ?_
          exact n_ireturn C r dX11_seek_47 hw

def w_X11_write (v1 : Int32) (M : Mem) (q : Int32 → Mem → Prop) : Prop := w_X11_isBeyond v1 (0 : Int32) (127 : Int32) M (fun (r2 : Int32) (M1 : Mem) => ((r2 = 0 → (((M1.1 1 6) < (40 : Int32) → vp_in (M1.1 1 6) 40 ∧ ∀ M6 : Mem, M6 = uI M1 16 ((M1.1 1 6)).toNatClampNeg v1 → ∀ M7 : Mem, M7 = uI M6 1 6 ((M6.1 1 6) + (1 : Int32)) → q (M7.1 1 6) M7) ∧ (¬ (M1.1 1 6) < (40 : Int32) → q (-4 : Int32) M1))) ∧ (¬ r2 = 0 → q (-2 : Int32) M1)))
set_option maxRecDepth 100000 in
set_option maxHeartbeats 4000000 in
theorem ok_X11_write {g : Gl} {l : Launch} {v1 : Int32} {M : Mem} {q : Int32 → Mem → Prop} (hw : w_X11_write v1 M q) : CtI g l yX11_write cX11_write 2 (some .int) 2 22 [.ref (g.2.2.2 + 0), .int v1] M q := by
  refine n_introI (by decide +kernel) (Nat.le_of_ble_eq_true rfl) (fun c C r => ?_)
  have C : Cx c cX11_write 2 RX11 g l (Rm 2 22) := C
  refine x_sub [0, 1] (lv' := [(0, .ref (g.2.2.2 + 0)), (1, .int v1)]) rfl ?_
  unfold w_X11_write at hw
  refine x_iload_n C dX11_write_0 rfl rfl ?_
  refine x_iconst (v := (0 : Int32)) C dX11_write_1 (by decide) ?_
  refine x_bipush (v := (127 : Int32)) C dX11_write_2 (by decide) ?_
  refine n_callSI C (ok_X11_isBeyond  hw) ms_X11_128 rfl rfl ⟨Nat.le_of_ble_eq_true rfl, Nat.le_of_ble_eq_true rfl⟩ (Nat.le_of_ble_eq_true rfl) dX11_write_4 (fun r2 M1 hw => ?_)
  refine x_if_eq (tgt := 13) C dX11_write_7 (by decide) (fun h3 => ?_) (fun h3 => ?_)
  · replace hw := hw.1 h3
    refine x_aload_n C dX11_write_13 rfl rfl ?_
    refine n_getS (dd := 1) C fl_X11_10 s0 (fun _ _ => rfl) rfl dX11_write_14 ?_
    refine n_getI C fl_X11_314 s1 (fun _ _ => rfl) dX11_write_17 ?_
    refine x_bipush (v := (40 : Int32)) C dX11_write_20 (by decide) ?_
    refine x_icmp_lt (tgt := 28) C dX11_write_22 (by decide) (fun h4 => ?_) (fun h4 => ?_)
    · replace hw := hw.1 h4
      refine x_aload_n C dX11_write_28 rfl rfl ?_
      refine n_getS (dd := 1) C fl_X11_10 s0 (fun _ _ => rfl) rfl dX11_write_29 ?_
      refine n_getS (dd := 15) C fl_X11_317 s1 (fun _ _ => rfl) rfl dX11_write_32 ?_
      refine x_aload_n C dX11_write_35 rfl rfl ?_
      refine n_getS (dd := 1) C fl_X11_10 s0 (fun _ _ => rfl) rfl dX11_write_36 ?_
      refine n_getI C fl_X11_314 s1 (fun _ _ => rfl) dX11_write_39 ?_
      refine x_iload_n C dX11_write_42 rfl rfl ?_
      obtain ⟨h5, hw⟩ := hw
      obtain ⟨M6, eM6⟩ : ∃ z : Mem, z = uI M1 16 ((M1.1 1 6)).toNatClampNeg v1 := ⟨_, rfl⟩
      replace hw := hw M6 eM6
      refine a_iast C s16 ln16 rfl h5 eM6 dX11_write_43 ?_
      refine x_aload_n C dX11_write_44 rfl rfl ?_
      refine n_getS (dd := 1) C fl_X11_10 s0 (fun _ _ => rfl) rfl dX11_write_45 ?_
      refine x_dup C dX11_write_48 rfl ?_
      refine n_getI C fl_X11_314 s1 (fun _ _ => rfl) dX11_write_49 ?_
      refine x_iconst (v := (1 : Int32)) C dX11_write_52 (by decide) ?_
      refine x_iadd C dX11_write_53 ?_
      obtain ⟨M7, eM7⟩ : ∃ z : Mem, z = uI M6 1 6 ((M6.1 1 6) + (1 : Int32)) := ⟨_, rfl⟩
      replace hw := hw M7 eM7
      refine m_putI C fp_X11_314 s1 (fun _ _ => rfl) rfl rfl eM7 dX11_write_54 ?_
      refine x_aload_n C dX11_write_57 rfl rfl ?_
      refine n_getS (dd := 1) C fl_X11_10 s0 (fun _ _ => rfl) rfl dX11_write_58 ?_
      refine n_getI C fl_X11_314 s1 (fun _ _ => rfl) dX11_write_61 ?_
      exact n_ireturn C r dX11_write_64 hw
    · replace hw := hw.2 h4
      refine x_bipush (v := (-4 : Int32)) C dX11_write_25 (by decide) ?_
      exact n_ireturn C r dX11_write_27 hw
  · replace hw := hw.2 h3
    refine x_bipush (v := (-2 : Int32)) C dX11_write_10 (by decide) ?_
    exact n_ireturn C r dX11_write_12 hw

def w_X11_erase (M : Mem) (q : Int32 → Mem → Prop) : Prop := ∀ x1 : Int32, x1 = (M.1 1 6) → ∀ M2 : Mem, M2 = uI M 1 6 (0 : Int32) → q x1 M2
set_option maxRecDepth 100000 in
set_option maxHeartbeats 4000000 in
theorem ok_X11_erase {g : Gl} {l : Launch} {M : Mem} {q : Int32 → Mem → Prop} (hw : w_X11_erase M q) : CtI g l yX11_erase cX11_erase 2 (some .int) 1 0 [.ref (g.2.2.2 + 0)] M q := by
  refine n_introI (by decide +kernel) (Nat.le_of_ble_eq_true rfl) (fun c C r => ?_)
  have C : Cx c cX11_erase 2 RX11 g l (Rm 1 0) := C
  refine x_sub [0] (lv' := [(0, .ref (g.2.2.2 + 0))]) rfl ?_
  unfold w_X11_erase at hw
  refine x_aload_n C dX11_erase_0 rfl rfl ?_
  refine n_getS (dd := 1) C fl_X11_10 s0 (fun _ _ => rfl) rfl dX11_erase_1 ?_
  refine n_getI C fl_X11_314 s1 (fun _ _ => rfl) dX11_erase_4 ?_
  obtain ⟨x1, ex1⟩ : ∃ z : Int32, z = (M.1 1 6) := ⟨_, rfl⟩
  replace hw := hw x1 ex1
  refine x_topi ex1 ?_
  refine x_istore_n C dX11_erase_7 rfl (Nat.le_of_ble_eq_true rfl) ?_
  refine x_aload_n C dX11_erase_8 rfl rfl ?_
  refine n_getS (dd := 1) C fl_X11_10 s0 (fun _ _ => rfl) rfl dX11_erase_9 ?_
  refine x_iconst (v := (0 : Int32)) C dX11_erase_12 (by decide) ?_
  obtain ⟨M2, eM2⟩ : ∃ z : Mem, z = uI M 1 6 (0 : Int32) := ⟨_, rfl⟩
  replace hw := hw M2 eM2
  refine m_putI C fp_X11_314 s1 (fun _ _ => rfl) rfl rfl eM2 dX11_erase_13 ?_
  refine x_iload_n C dX11_erase_16 rfl rfl ?_
  exact n_ireturn C r dX11_erase_17 hw

def w_X11_forge (v1 : Int32) (v2 : Int32) (M : Mem) (q : Int32 → Mem → Prop) : Prop := w_X11_isOut v1 (M.1 1 4) M (fun (r2 : Int32) (M1 : Mem) => ((¬ r2 = 0 → q (-2000000000 : Int32) M1) ∧ (r2 = 0 → w_X8_told 1 v1 (6 : Int32) M1 (fun (r5 : Int32) (M4 : Mem) => ((r5 = (1 : Int32) → q (-2000000000 : Int32) M4) ∧ (¬ r5 = (1 : Int32) → w_X11_isBeyond v2 (0 : Int32) (10000000 : Int32) M4 (fun (r8 : Int32) (M7 : Mem) => ((r8 = 0 → w_X8_told 1 v1 (5 : Int32) M7 (fun (r11 : Int32) (M10 : Mem) => w_X8_tell 1 v1 (5 : Int32) v2 M10 (fun (M12 : Mem) => q r11 M12))) ∧ (¬ r8 = 0 → q (-2000000000 : Int32) M7)))))))))
set_option maxRecDepth 100000 in
set_option maxHeartbeats 4000000 in
theorem ok_X11_forge {g : Gl} {l : Launch} {v1 : Int32} {v2 : Int32} {M : Mem} {q : Int32 → Mem → Prop} (hw : w_X11_forge v1 v2 M q) : CtI g l yX11_forge cX11_forge 4 (some .int) 2 23 [.ref (g.2.2.2 + 0), .int v1, .int v2] M q := by
  refine n_introI (by decide +kernel) (Nat.le_of_ble_eq_true rfl) (fun c C r => ?_)
  have C : Cx c cX11_forge 4 RX11 g l (Rm 2 23) := C
  refine x_sub [0, 1, 2] (lv' := [(0, .ref (g.2.2.2 + 0)), (1, .int v1), (2, .int v2)]) rfl ?_
  unfold w_X11_forge at hw
  refine x_iload_n C dX11_forge_0 rfl rfl ?_
  refine x_aload_n C dX11_forge_1 rfl rfl ?_
  refine n_getS (dd := 1) C fl_X11_10 s0 (fun _ _ => rfl) rfl dX11_forge_2 ?_
  refine n_getI C fl_X11_159 s1 (fun _ _ => rfl) dX11_forge_5 ?_
  refine n_callSI C (ok_X11_isOut  hw) ms_X11_87 rfl rfl ⟨Nat.le_of_ble_eq_true rfl, Nat.le_of_ble_eq_true rfl⟩ (Nat.le_of_ble_eq_true rfl) dX11_forge_8 (fun r2 M1 hw => ?_)
  refine x_if_ne (tgt := 39) C dX11_forge_11 (by decide) (fun h3 => ?_) (fun h3 => ?_)
  · replace hw := hw.1 h3
    refine x_ldc (v := (-2000000000 : Int32)) C dX11_forge_39 kc_X11_166 ?_
    exact n_ireturn C r dX11_forge_41 hw
  · replace hw := hw.2 h3
    refine x_aload_n C dX11_forge_14 rfl rfl ?_
    refine n_getS (dd := 1) C fl_X11_10 s0 (fun _ _ => rfl) rfl dX11_forge_15 ?_
    refine x_iload_n C dX11_forge_18 rfl rfl ?_
    refine x_bipush (v := (6 : Int32)) C dX11_forge_19 (by decide) ?_
    refine n_callVI s1 rfl C (ok_X8_told s1 hw) mv_X11_167 rfl rfl ⟨Nat.le_of_ble_eq_true rfl, Nat.le_of_ble_eq_true rfl⟩ (Nat.le_of_ble_eq_true rfl) dX11_forge_21 (fun r5 M4 hw => ?_)
    refine x_iconst (v := (1 : Int32)) C dX11_forge_24 (by decide) ?_
    refine x_icmp_eq (tgt := 39) C dX11_forge_25 (by decide) (fun h6 => ?_) (fun h6 => ?_)
    · replace hw := hw.1 h6
      refine x_ldc (v := (-2000000000 : Int32)) C dX11_forge_39 kc_X11_166 ?_
      exact n_ireturn C r dX11_forge_41 hw
    · replace hw := hw.2 h6
      refine x_iload_n C dX11_forge_28 rfl rfl ?_
      refine x_iconst (v := (0 : Int32)) C dX11_forge_29 (by decide) ?_
      refine x_ldc_w (v := (10000000 : Int32)) C dX11_forge_30 kc_X11_331 ?_
      refine n_callSI C (ok_X11_isBeyond  hw) ms_X11_128 rfl rfl ⟨Nat.le_of_ble_eq_true rfl, Nat.le_of_ble_eq_true rfl⟩ (Nat.le_of_ble_eq_true rfl) dX11_forge_33 (fun r8 M7 hw => ?_)
      refine x_if_eq (tgt := 42) C dX11_forge_36 (by decide) (fun h9 => ?_) (fun h9 => ?_)
      · replace hw := hw.1 h9
        refine x_aload_n C dX11_forge_42 rfl rfl ?_
        refine n_getS (dd := 1) C fl_X11_10 s0 (fun _ _ => rfl) rfl dX11_forge_43 ?_
        refine x_iload_n C dX11_forge_46 rfl rfl ?_
        refine x_iconst (v := (5 : Int32)) C dX11_forge_47 (by decide) ?_
        refine n_callVI s1 rfl C (ok_X8_told s1 hw) mv_X11_167 rfl rfl ⟨Nat.le_of_ble_eq_true rfl, Nat.le_of_ble_eq_true rfl⟩ (Nat.le_of_ble_eq_true rfl) dX11_forge_48 (fun r11 M10 hw => ?_)
        refine x_istore_n C dX11_forge_51 rfl (Nat.le_of_ble_eq_true rfl) ?_
        refine x_aload_n C dX11_forge_52 rfl rfl ?_
        refine n_getS (dd := 1) C fl_X11_10 s0 (fun _ _ => rfl) rfl dX11_forge_53 ?_
        refine x_iload_n C dX11_forge_56 rfl rfl ?_
        refine x_iconst (v := (5 : Int32)) C dX11_forge_57 (by decide) ?_
        refine x_iload_n C dX11_forge_58 rfl rfl ?_
        refine n_callVV s1 rfl C (ok_X8_tell s1 hw) mv_X11_278 rfl rfl ⟨Nat.le_of_ble_eq_true rfl, Nat.le_of_ble_eq_true rfl⟩ (Nat.le_of_ble_eq_true rfl) dX11_forge_59 (fun M12 hw => ?_)
        refine x_iload_n C dX11_forge_62 rfl rfl ?_
        exact n_ireturn C r dX11_forge_63 hw
      · replace hw := hw.2 h9
        refine x_ldc (v := (-2000000000 : Int32)) C dX11_forge_39 kc_X11_166 ?_
        exact n_ireturn C r dX11_forge_41 hw

def w_X11_check_b58 (v1 : Int32) (M : Mem) (q : Int32 → Mem → Prop) (P2 : Int32 × Mem → Prop) : Prop := ∀ x1 : Int32, x1 = v1 + (1 : Int32) → P2 (x1, M)
set_option maxRecDepth 100000 in
set_option maxHeartbeats 4000000 in
theorem ok_X11_check_b58 {c : CtxT} {g : Gl} {l : Launch} {v1 : Int32} {q : Int32 → Mem → Prop} {P2 : Int32 × Mem → Prop} {M : Mem} (C : Cx c cX11_check 2 RX11 g l (Rm 6 120)) (r : Rt c (some .int) (pI q) 0 0) (hP2 : ∀ (v1 : Int32) (M : Mem), P2 (v1, M) → X c S0 2 [(0, .ref (g.2.2.2 + 0)), (1, .int v1)] [] (stat M)) (hw : w_X11_check_b58 v1 M q P2) : X c S0 58 [(0, .ref (g.2.2.2 + 0)), (1, .int v1)] [] (stat M) := by
  unfold w_X11_check_b58 at hw
  obtain ⟨x1, ex1⟩ : ∃ z : Int32, z = v1 + (1 : Int32) := ⟨_, rfl⟩
  replace hw := hw x1 ex1
  refine x_iinc (v := x1) C dX11_check_58 rfl ex1.symm (Nat.le_of_ble_eq_true rfl) ?_
  refine x_goto (tgt := 2) C dX11_check_61 (by decide) ?_
  exact x_sub [0, 1] rfl (hP2 _ _ hw)
def w_X11_check_l2F (q : Int32 → Mem → Prop) (P2 : Int32 × Mem → Prop) (s : Int32 × Mem) : Prop := match s with
  | (v1, M) => (((M.1 1 4) ≤ v1 → q (-1 : Int32) M) ∧ (¬ (M.1 1 4) ≤ v1 → w_X8_told 1 v1 (12 : Int32) M (fun (r4 : Int32) (M3 : Mem) => ((¬ r4 = 0 → w_X11_check_b58 v1 M3 q P2) ∧ (r4 = 0 → w_X7_goAgain 35 1 v1 M3 (fun (M6 : Mem) => w_X8_isAsCounted 1 v1 36 M6 (fun (r9 : Int32) (M8 : Mem) => ((¬ r9 = 0 → w_X11_check_b58 v1 M8 q P2) ∧ (r9 = 0 → q v1 M8)))))))))
def w_X11_check_l2 (q : Int32 → Mem → Prop) (s : Int32 × Mem) : Prop := lfp (w_X11_check_l2F q ) s
set_option maxRecDepth 100000 in
set_option maxHeartbeats 4000000 in
theorem ok_X11_check_l2 {c : CtxT} {g : Gl} {l : Launch} {q : Int32 → Mem → Prop} {s : Int32 × Mem} (C : Cx c cX11_check 2 RX11 g l (Rm 6 120)) (r : Rt c (some .int) (pI q) 0 0) (hw : w_X11_check_l2 q s) : X c S0 2 [(0, .ref (g.2.2.2 + 0)), (1, .int s.1)] [] (stat s.2) := hw (fun s => X c S0 2 [(0, .ref (g.2.2.2 + 0)), (1, .int s.1)] [] (stat s.2)) (fun s hw => by
    obtain ⟨v1, M⟩ := s
    try dsimp only [w_X11_check_l2F] at hw
    try dsimp only
    refine x_iload_n C dX11_check_2 rfl rfl ?_
    refine x_aload_n C dX11_check_3 rfl rfl ?_
    refine n_getS (dd := 1) C fl_X11_10 s0 (fun _ _ => rfl) rfl dX11_check_4 ?_
    refine n_getI C fl_X11_159 s1 (fun _ _ => rfl) dX11_check_7 ?_
    refine x_icmp_ge (tgt := 64) C dX11_check_10 (by decide) (fun h2 => ?_) (fun h2 => ?_)
    · replace hw := hw.1 h2
      refine x_iconst (v := (-1 : Int32)) C dX11_check_64 (by decide) ?_
      exact n_ireturn C r dX11_check_65 hw
    · replace hw := hw.2 h2
      refine x_aload_n C dX11_check_13 rfl rfl ?_
      refine n_getS (dd := 1) C fl_X11_10 s0 (fun _ _ => rfl) rfl dX11_check_14 ?_
      refine x_iload_n C dX11_check_17 rfl rfl ?_
      refine x_bipush (v := (12 : Int32)) C dX11_check_18 (by decide) ?_
      refine n_callVI s1 rfl C (ok_X8_told s1 hw) mv_X11_167 rfl rfl ⟨Nat.le_of_ble_eq_true rfl, Nat.le_of_ble_eq_true rfl⟩ (Nat.le_of_ble_eq_true rfl) dX11_check_20 (fun r4 M3 hw => ?_)
      refine x_if_ne (tgt := 58) C dX11_check_23 (by decide) (fun h5 => ?_) (fun h5 => ?_)
      · replace hw := hw.1 h5
        exact x_sub [0, 1] rfl (ok_X11_check_b58 C r (fun _ _ h => h) hw)
      · replace hw := hw.2 h5
        refine x_aload_n C dX11_check_26 rfl rfl ?_
        refine n_getS (dd := 35) C fl_X11_27 s0 (fun _ _ => rfl) rfl dX11_check_27 ?_
        refine x_aload_n C dX11_check_30 rfl rfl ?_
        refine n_getS (dd := 1) C fl_X11_10 s0 (fun _ _ => rfl) rfl dX11_check_31 ?_
        refine x_iload_n C dX11_check_34 rfl rfl ?_
        refine n_callVV s35 rfl C (ok_X7_goAgain s35 s1 hw) mv_X11_332 rfl rfl ⟨Nat.le_of_ble_eq_true rfl, Nat.le_of_ble_eq_true rfl⟩ (Nat.le_of_ble_eq_true rfl) dX11_check_35 (fun M6 hw => ?_)
        refine x_aload_n C dX11_check_38 rfl rfl ?_
        refine n_getS (dd := 1) C fl_X11_10 s0 (fun _ _ => rfl) rfl dX11_check_39 ?_
        refine x_iload_n C dX11_check_42 rfl rfl ?_
        refine x_aload_n C dX11_check_43 rfl rfl ?_
        refine n_getS (dd := 35) C fl_X11_27 s0 (fun _ _ => rfl) rfl dX11_check_44 ?_
        refine n_getS (dd := 1) C fl_X11_174 s35 (fun _ _ => rfl) rfl dX11_check_47 ?_
        refine n_callVI s1 rfl C (ok_X8_isAsCounted s1 s36 hw) mv_X11_336 rfl rfl ⟨Nat.le_of_ble_eq_true rfl, Nat.le_of_ble_eq_true rfl⟩ (Nat.le_of_ble_eq_true rfl) dX11_check_50 (fun r9 M8 hw => ?_)
        refine x_if_ne (tgt := 58) C dX11_check_53 (by decide) (fun h10 => ?_) (fun h10 => ?_)
        · replace hw := hw.1 h10
          exact x_sub [0, 1] rfl (ok_X11_check_b58 C r (fun _ _ h => h) hw)
        · replace hw := hw.2 h10
          refine x_iload_n C dX11_check_56 rfl rfl ?_
          exact n_ireturn C r dX11_check_57 hw)
def w_X11_check (M : Mem) (q : Int32 → Mem → Prop) : Prop := w_X11_check_l2 q ((0 : Int32), M)
set_option maxRecDepth 100000 in
set_option maxHeartbeats 4000000 in
theorem ok_X11_check {g : Gl} {l : Launch} {M : Mem} {q : Int32 → Mem → Prop} (hw : w_X11_check M q) : CtI g l yX11_check cX11_check 2 (some .int) 6 120 [.ref (g.2.2.2 + 0)] M q := by
  refine n_introI (by decide +kernel) (Nat.le_of_ble_eq_true rfl) (fun c C r => ?_)
  have C : Cx c cX11_check 2 RX11 g l (Rm 6 120) := C
  refine x_sub [0] (lv' := [(0, .ref (g.2.2.2 + 0))]) rfl ?_
  unfold w_X11_check at hw
  refine x_iconst (v := (0 : Int32)) C dX11_check_0 (by decide) ?_
  refine x_istore_n C dX11_check_1 rfl (Nat.le_of_ble_eq_true rfl) ?_
  exact x_sub [0, 1] rfl (ok_X11_check_l2 C r  hw)

def w_X11_image (v1 : Int32) (M : Mem) (q : Int32 → Mem → Prop) : Prop := w_X11_isOut v1 (2 : Int32) M (fun (r2 : Int32) (M1 : Mem) => ((r2 = 0 → vp_in v1 2 ∧ w_X8_takeFrom (33 + 38 + 32 * (v1).toNatClampNeg) 1 M1 (fun (M5 : Mem) => vp_in v1 2 ∧ ∀ M8 : Mem, M8 = uI M5 34 (v1).toNatClampNeg (1 : Int32) → q (1 : Int32) M8)) ∧ (¬ r2 = 0 → q (-2 : Int32) M1)))
set_option maxRecDepth 100000 in
set_option maxHeartbeats 4000000 in
theorem ok_X11_image {g : Gl} {l : Launch} {v1 : Int32} {M : Mem} {q : Int32 → Mem → Prop} (hw : w_X11_image v1 M q) : CtI g l yX11_image cX11_image 2 (some .int) 3 103 [.ref (g.2.2.2 + 0), .int v1] M q := by
  refine n_introI (by decide +kernel) (Nat.le_of_ble_eq_true rfl) (fun c C r => ?_)
  have C : Cx c cX11_image 2 RX11 g l (Rm 3 103) := C
  refine x_sub [0, 1] (lv' := [(0, .ref (g.2.2.2 + 0)), (1, .int v1)]) rfl ?_
  unfold w_X11_image at hw
  refine x_iload_n C dX11_image_0 rfl rfl ?_
  refine x_iconst (v := (2 : Int32)) C dX11_image_1 (by decide) ?_
  refine n_callSI C (ok_X11_isOut  hw) ms_X11_87 rfl rfl ⟨Nat.le_of_ble_eq_true rfl, Nat.le_of_ble_eq_true rfl⟩ (Nat.le_of_ble_eq_true rfl) dX11_image_2 (fun r2 M1 hw => ?_)
  refine x_if_eq (tgt := 11) C dX11_image_5 (by decide) (fun h3 => ?_) (fun h3 => ?_)
  · replace hw := hw.1 h3
    refine x_aload_n C dX11_image_11 rfl rfl ?_
    refine n_getS (dd := 33) C fl_X11_16 s0 (fun _ _ => rfl) rfl dX11_image_12 ?_
    refine x_iload_n C dX11_image_15 rfl rfl ?_
    obtain ⟨h4, hw⟩ := hw
    refine a_aald4 C s33 ln33 h4 dX11_image_16 ?_
    refine x_aload_n C dX11_image_17 rfl rfl ?_
    refine n_getS (dd := 1) C fl_X11_10 s0 (fun _ _ => rfl) rfl dX11_image_18 ?_
    refine n_callVV (el4 s33 (ln33.symm ▸ h4)) rfl C (ok_X8_takeFrom (el4 s33 (ln33.symm ▸ h4)) s1 hw) mv_X11_340 rfl rfl ⟨Nat.le_of_ble_eq_true rfl, Nat.le_of_ble_eq_true rfl⟩ (Nat.le_of_ble_eq_true rfl) dX11_image_21 (fun M5 hw => ?_)
    refine x_aload_n C dX11_image_24 rfl rfl ?_
    refine n_getS (dd := 34) C fl_X11_20 s0 (fun _ _ => rfl) rfl dX11_image_25 ?_
    refine x_iload_n C dX11_image_28 rfl rfl ?_
    refine x_iconst (v := (1 : Int32)) C dX11_image_29 (by decide) ?_
    obtain ⟨h7, hw⟩ := hw
    obtain ⟨M8, eM8⟩ : ∃ z : Mem, z = uI M5 34 (v1).toNatClampNeg (1 : Int32) := ⟨_, rfl⟩
    replace hw := hw M8 eM8
    refine a_zast C s34 ln34 rfl h7 (Or.inr rfl) eM8 dX11_image_30 ?_
    refine x_iconst (v := (1 : Int32)) C dX11_image_31 (by decide) ?_
    exact n_ireturn C r dX11_image_32 hw
  · replace hw := hw.2 h3
    refine x_bipush (v := (-2 : Int32)) C dX11_image_8 (by decide) ?_
    exact n_ireturn C r dX11_image_10 hw

def w_X11_from (v1 : Int32) (M : Mem) (q : Int32 → Mem → Prop) : Prop := w_X11_isOut v1 (2 : Int32) M (fun (r2 : Int32) (M1 : Mem) => ((r2 = 0 → vp_in v1 2 ∧ ((¬ (M1.1 34 (v1).toNatClampNeg) = 0 → vp_in v1 2 ∧ w_X8_takeFrom 1 (33 + 38 + 32 * (v1).toNatClampNeg) M1 (fun (M7 : Mem) => q (1 : Int32) M7)) ∧ ((M1.1 34 (v1).toNatClampNeg) = 0 → q (-3 : Int32) M1))) ∧ (¬ r2 = 0 → q (-2 : Int32) M1)))
set_option maxRecDepth 100000 in
set_option maxHeartbeats 4000000 in
theorem ok_X11_from {g : Gl} {l : Launch} {v1 : Int32} {M : Mem} {q : Int32 → Mem → Prop} (hw : w_X11_from v1 M q) : CtI g l yX11_from cX11_from 2 (some .int) 3 103 [.ref (g.2.2.2 + 0), .int v1] M q := by
  refine n_introI (by decide +kernel) (Nat.le_of_ble_eq_true rfl) (fun c C r => ?_)
  have C : Cx c cX11_from 2 RX11 g l (Rm 3 103) := C
  refine x_sub [0, 1] (lv' := [(0, .ref (g.2.2.2 + 0)), (1, .int v1)]) rfl ?_
  unfold w_X11_from at hw
  refine x_iload_n C dX11_from_0 rfl rfl ?_
  refine x_iconst (v := (2 : Int32)) C dX11_from_1 (by decide) ?_
  refine n_callSI C (ok_X11_isOut  hw) ms_X11_87 rfl rfl ⟨Nat.le_of_ble_eq_true rfl, Nat.le_of_ble_eq_true rfl⟩ (Nat.le_of_ble_eq_true rfl) dX11_from_2 (fun r2 M1 hw => ?_)
  refine x_if_eq (tgt := 11) C dX11_from_5 (by decide) (fun h3 => ?_) (fun h3 => ?_)
  · replace hw := hw.1 h3
    refine x_aload_n C dX11_from_11 rfl rfl ?_
    refine n_getS (dd := 34) C fl_X11_20 s0 (fun _ _ => rfl) rfl dX11_from_12 ?_
    refine x_iload_n C dX11_from_15 rfl rfl ?_
    obtain ⟨h4, hw⟩ := hw
    refine a_zald C s34 ln34 h4 dX11_from_16 ?_
    refine x_if_ne (tgt := 23) C dX11_from_17 (by decide) (fun h5 => ?_) (fun h5 => ?_)
    · replace hw := hw.1 h5
      refine x_aload_n C dX11_from_23 rfl rfl ?_
      refine n_getS (dd := 1) C fl_X11_10 s0 (fun _ _ => rfl) rfl dX11_from_24 ?_
      refine x_aload_n C dX11_from_27 rfl rfl ?_
      refine n_getS (dd := 33) C fl_X11_16 s0 (fun _ _ => rfl) rfl dX11_from_28 ?_
      refine x_iload_n C dX11_from_31 rfl rfl ?_
      obtain ⟨h6, hw⟩ := hw
      refine a_aald4 C s33 ln33 h6 dX11_from_32 ?_
      refine n_callVV s1 rfl C (ok_X8_takeFrom s1 (el4 s33 (ln33.symm ▸ h6)) hw) mv_X11_340 rfl rfl ⟨Nat.le_of_ble_eq_true rfl, Nat.le_of_ble_eq_true rfl⟩ (Nat.le_of_ble_eq_true rfl) dX11_from_33 (fun M7 hw => ?_)
      refine x_iconst (v := (1 : Int32)) C dX11_from_36 (by decide) ?_
      exact n_ireturn C r dX11_from_37 hw
    · replace hw := hw.2 h5
      refine x_bipush (v := (-3 : Int32)) C dX11_from_20 (by decide) ?_
      exact n_ireturn C r dX11_from_22 hw
  · replace hw := hw.2 h3
    refine x_bipush (v := (-2 : Int32)) C dX11_from_8 (by decide) ?_
    exact n_ireturn C r dX11_from_10 hw

def w_X11_count (v1 : Int32) (M : Mem) (q : Int32 → Mem → Prop) : Prop := ((v1 = (0 : Int32) → q (M.1 2 0) M) ∧ (v1 = (1 : Int32) → q (M.1 2 3) M) ∧ (v1 = (2 : Int32) → q (M.1 2 7) M) ∧ (v1 = (3 : Int32) → q (M.1 2 10) M) ∧ (v1 = (4 : Int32) → q (M.1 1 4) M) ∧ (v1 = (5 : Int32) → w_X8_voidRuns 1 M (fun (r3 : Int32) (M2 : Mem) => q r3 M2)) ∧ (v1 = (6 : Int32) → q (M.1 12 1) M) ∧ (v1 = (7 : Int32) → q (M.1 12 3) M) ∧ (v1 = (8 : Int32) → q (M.1 1 6) M) ∧ (((v1).toInt < 0 ∨ 8 < (v1).toInt) → q (-2 : Int32) M))
set_option maxRecDepth 100000 in
set_option maxHeartbeats 4000000 in
theorem ok_X11_count {g : Gl} {l : Launch} {v1 : Int32} {M : Mem} {q : Int32 → Mem → Prop} (hw : w_X11_count v1 M q) : CtI g l yX11_count cX11_count 2 (some .int) 3 44 [.ref (g.2.2.2 + 0), .int v1] M q := by
  refine n_introI (by decide +kernel) (Nat.le_of_ble_eq_true rfl) (fun c C r => ?_)
  have C : Cx c cX11_count 2 RX11 g l (Rm 3 44) := C
  refine x_sub [0, 1] (lv' := [(0, .ref (g.2.2.2 + 0)), (1, .int v1)]) rfl ?_
  unfold w_X11_count at hw
  refine x_iload_n C dX11_count_0 rfl rfl ?_
  by_cases h1 : (v1).toInt < 0 ∨ 8 < (v1).toInt
  · refine x_tableOut (tgt := 142) C dX11_count_1 h1 (by decide) ?_
    replace hw := hw.2.2.2.2.2.2.2.2.2 h1
    refine x_bipush (v := (-2 : Int32)) C dX11_count_142 (by decide) ?_
    exact n_ireturn C r dX11_count_144 hw
  · have hlo : ¬ (v1).toInt < 0 := fun z => h1 (Or.inl z)
    have hhi : ¬ 8 < (v1).toInt := fun z => h1 (Or.inr z)
    have hor : (v1).toInt = 0 ∨ (v1).toInt = 1 ∨ (v1).toInt = 2 ∨ (v1).toInt = 3 ∨ (v1).toInt = 4 ∨ (v1).toInt = 5 ∨ (v1).toInt = 6 ∨ (v1).toInt = 7 ∨ (v1).toInt = 8 := by omega
    rcases hor with hor | hor | hor | hor | hor | hor | hor | hor | hor
    · have heq : v1 = (0 : Int32) := Int32.toInt_inj.mp (hor.trans (by decide))
      refine x_tableIn (off := 51) (tgt := 52) C dX11_count_1 hlo hhi (by rw [hor]; decide) (by decide) ?_
      replace hw := hw.1 heq
      refine x_aload_n C dX11_count_52 rfl rfl ?_
      refine n_getS (dd := 1) C fl_X11_10 s0 (fun _ _ => rfl) rfl dX11_count_53 ?_
      refine n_getS (dd := 1) C fl_X11_73 s1 (fun _ _ => rfl) rfl dX11_count_56 ?_
      refine n_getI C fl_X11_83 s2 (fun _ _ => rfl) dX11_count_59 ?_
      exact n_ireturn C r dX11_count_62 hw
    · have heq : v1 = (1 : Int32) := Int32.toInt_inj.mp (hor.trans (by decide))
      refine x_tableIn (off := 62) (tgt := 63) C dX11_count_1 hlo hhi (by rw [hor]; decide) (by decide) ?_
      replace hw := hw.2.1 heq
      refine x_aload_n C dX11_count_63 rfl rfl ?_
      refine n_getS (dd := 1) C fl_X11_10 s0 (fun _ _ => rfl) rfl dX11_count_64 ?_
      refine n_getS (dd := 1) C fl_X11_73 s1 (fun _ _ => rfl) rfl dX11_count_67 ?_
      refine n_getI C fl_X11_111 s2 (fun _ _ => rfl) dX11_count_70 ?_
      exact n_ireturn C r dX11_count_73 hw
    · have heq : v1 = (2 : Int32) := Int32.toInt_inj.mp (hor.trans (by decide))
      refine x_tableIn (off := 73) (tgt := 74) C dX11_count_1 hlo hhi (by rw [hor]; decide) (by decide) ?_
      replace hw := hw.2.2.1 heq
      refine x_aload_n C dX11_count_74 rfl rfl ?_
      refine n_getS (dd := 1) C fl_X11_10 s0 (fun _ _ => rfl) rfl dX11_count_75 ?_
      refine n_getS (dd := 1) C fl_X11_73 s1 (fun _ _ => rfl) rfl dX11_count_78 ?_
      refine n_getI C fl_X11_193 s2 (fun _ _ => rfl) dX11_count_81 ?_
      exact n_ireturn C r dX11_count_84 hw
    · have heq : v1 = (3 : Int32) := Int32.toInt_inj.mp (hor.trans (by decide))
      refine x_tableIn (off := 84) (tgt := 85) C dX11_count_1 hlo hhi (by rw [hor]; decide) (by decide) ?_
      replace hw := hw.2.2.2.1 heq
      refine x_aload_n C dX11_count_85 rfl rfl ?_
      refine n_getS (dd := 1) C fl_X11_10 s0 (fun _ _ => rfl) rfl dX11_count_86 ?_
      refine n_getS (dd := 1) C fl_X11_73 s1 (fun _ _ => rfl) rfl dX11_count_89 ?_
      refine n_getI C fl_X11_311 s2 (fun _ _ => rfl) dX11_count_92 ?_
      exact n_ireturn C r dX11_count_95 hw
    · have heq : v1 = (4 : Int32) := Int32.toInt_inj.mp (hor.trans (by decide))
      refine x_tableIn (off := 95) (tgt := 96) C dX11_count_1 hlo hhi (by rw [hor]; decide) (by decide) ?_
      replace hw := hw.2.2.2.2.1 heq
      refine x_aload_n C dX11_count_96 rfl rfl ?_
      refine n_getS (dd := 1) C fl_X11_10 s0 (fun _ _ => rfl) rfl dX11_count_97 ?_
      refine n_getI C fl_X11_159 s1 (fun _ _ => rfl) dX11_count_100 ?_
      exact n_ireturn C r dX11_count_103 hw
    · have heq : v1 = (5 : Int32) := Int32.toInt_inj.mp (hor.trans (by decide))
      refine x_tableIn (off := 103) (tgt := 104) C dX11_count_1 hlo hhi (by rw [hor]; decide) (by decide) ?_
      replace hw := hw.2.2.2.2.2.1 heq
      refine x_aload_n C dX11_count_104 rfl rfl ?_
      refine n_getS (dd := 1) C fl_X11_10 s0 (fun _ _ => rfl) rfl dX11_count_105 ?_
      refine n_callVI s1 rfl C (ok_X8_voidRuns s1 hw) mv_X11_344 rfl rfl ⟨Nat.le_of_ble_eq_true rfl, Nat.le_of_ble_eq_true rfl⟩ (Nat.le_of_ble_eq_true rfl) dX11_count_108 (fun r3 M2 hw => ?_)
      exact n_ireturn C r dX11_count_111 hw
    · have heq : v1 = (6 : Int32) := Int32.toInt_inj.mp (hor.trans (by decide))
      refine x_tableIn (off := 111) (tgt := 112) C dX11_count_1 hlo hhi (by rw [hor]; decide) (by decide) ?_
      replace hw := hw.2.2.2.2.2.2.1 heq
      refine x_aload_n C dX11_count_112 rfl rfl ?_
      refine n_getS (dd := 1) C fl_X11_10 s0 (fun _ _ => rfl) rfl dX11_count_113 ?_
      refine n_getS (dd := 11) C fl_X11_196 s1 (fun _ _ => rfl) rfl dX11_count_116 ?_
      refine n_getI C fl_X11_200 s12 (fun _ _ => rfl) dX11_count_119 ?_
      exact n_ireturn C r dX11_count_122 hw
    · have heq : v1 = (7 : Int32) := Int32.toInt_inj.mp (hor.trans (by decide))
      refine x_tableIn (off := 122) (tgt := 123) C dX11_count_1 hlo hhi (by rw [hor]; decide) (by decide) ?_
      replace hw := hw.2.2.2.2.2.2.2.1 heq
      refine x_aload_n C dX11_count_123 rfl rfl ?_
      refine n_getS (dd := 1) C fl_X11_10 s0 (fun _ _ => rfl) rfl dX11_count_124 ?_
      refine n_getS (dd := 11) C fl_X11_196 s1 (fun _ _ => rfl) rfl dX11_count_127 ?_
      refine n_getI C fl_X11_228 s12 (fun _ _ => rfl) dX11_count_130 ?_
      exact n_ireturn C r dX11_count_133 hw
    · have heq : v1 = (8 : Int32) := Int32.toInt_inj.mp (hor.trans (by decide))
      refine x_tableIn (off := 133) (tgt := 134) C dX11_count_1 hlo hhi (by rw [hor]; decide) (by decide) ?_
      replace hw := hw.2.2.2.2.2.2.2.2.1 heq
      refine x_aload_n C dX11_count_134 rfl rfl ?_
      refine n_getS (dd := 1) C fl_X11_10 s0 (fun _ _ => rfl) rfl dX11_count_135 ?_
      refine n_getI C fl_X11_314 s1 (fun _ _ => rfl) dX11_count_138 ?_
      exact n_ireturn C r dX11_count_141 hw

def w_X11_mixed_l3F (v2 : Nat) (v3 : Int32) (q : Int64 → Mem → Prop) (P3 : Int64 × Int32 × Mem → Prop) (s : Int64 × Int32 × Mem) : Prop := match s with
  | (v0, v4, M) => ((v3 ≤ v4 → q v0 M) ∧ (¬ v3 ≤ v4 → (((Int32.ofNat (len v2)) ≤ v4 → q v0 M) ∧ (¬ (Int32.ofNat (len v2)) ≤ v4 → vp_in v4 (len v2) ∧ ∀ x4 : Int64, x4 = (((31 : Int64) * v0) + ((M.1 v2 (v4).toNatClampNeg)).toInt64) → ∀ x5 : Int32, x5 = v4 + (1 : Int32) → P3 (x4, x5, M)))))
def w_X11_mixed_l3 (v2 : Nat) (v3 : Int32) (q : Int64 → Mem → Prop) (s : Int64 × Int32 × Mem) : Prop := lfp (w_X11_mixed_l3F v2 v3 q ) s
set_option maxRecDepth 100000 in
set_option maxHeartbeats 4000000 in
theorem ok_X11_mixed_l3 {c : CtxT} {g : Gl} {l : Launch} {v2 : Nat} {v3 : Int32} {q : Int64 → Mem → Prop} {s : Int64 × Int32 × Mem} (C : Cx c cX11_mixed 5 RX11 g l (Rm 1 0)) (r : Rt c (some .long) (pJ q) 0 0) (hv2 : isA 0 v2) (hw : w_X11_mixed_l3 v2 v3 q s) : X c S0 3 [(0, .long s.1), (2, .ref (g.2.2.2 + v2)), (3, .int v3), (4, .int s.2.1)] [] (stat s.2.2) := hw (fun s => X c S0 3 [(0, .long s.1), (2, .ref (g.2.2.2 + v2)), (3, .int v3), (4, .int s.2.1)] [] (stat s.2.2)) (fun s hw => by
    obtain ⟨v0, v4, M⟩ := s
    try dsimp only [w_X11_mixed_l3F] at hw
    try dsimp only
    refine x_iload C dX11_mixed_3 rfl ?_
    refine x_iload_n C dX11_mixed_5 rfl rfl ?_
    refine x_icmp_ge (tgt := 34) C dX11_mixed_6 (by decide) (fun h1 => ?_) (fun h1 => ?_)
    · replace hw := hw.1 h1
      refine x_lload_n C dX11_mixed_34 rfl rfl ?_
      exact n_lreturn C r dX11_mixed_35 hw
    · replace hw := hw.2 h1
      refine x_iload C dX11_mixed_9 rfl ?_
      refine x_aload_n C dX11_mixed_11 rfl rfl ?_
      refine n_alen C hv2 (by decide) dX11_mixed_12 ?_
      refine x_icmp_ge (tgt := 34) C dX11_mixed_13 (by decide) (fun h2 => ?_) (fun h2 => ?_)
      · replace hw := hw.1 h2
        refine x_lload_n C dX11_mixed_34 rfl rfl ?_
        exact n_lreturn C r dX11_mixed_35 hw
      · replace hw := hw.2 h2
        refine x_ldc2_w (v := (31 : Int64)) C dX11_mixed_16 kc_X11_349 ?_
        refine x_lload_n C dX11_mixed_19 rfl rfl ?_
        refine x_lmul C dX11_mixed_20 ?_
        refine x_aload_n C dX11_mixed_21 rfl rfl ?_
        refine x_iload C dX11_mixed_22 rfl ?_
        obtain ⟨h3, hw⟩ := hw
        refine a_iald C hv2 rfl h3 dX11_mixed_24 ?_
        refine x_i2l C dX11_mixed_25 ?_
        refine x_ladd C dX11_mixed_26 ?_
        obtain ⟨x4, ex4⟩ : ∃ z : Int64, z = (((31 : Int64) * v0) + ((M.1 v2 (v4).toNatClampNeg)).toInt64) := ⟨_, rfl⟩
        replace hw := hw x4 ex4
        refine x_topj ex4 ?_
        refine x_lstore_n C dX11_mixed_27 rfl (Nat.le_of_ble_eq_true rfl) ?_
        obtain ⟨x5, ex5⟩ : ∃ z : Int32, z = v4 + (1 : Int32) := ⟨_, rfl⟩
        replace hw := hw x5 ex5
        refine x_iinc (v := x5) C dX11_mixed_28 rfl ex5.symm (Nat.le_of_ble_eq_true rfl) ?_
        refine x_goto (tgt := 3) C dX11_mixed_31 (by decide) ?_
        exact x_sub [0, 2, 3, 4] rfl hw)
def w_X11_mixed (v0 : Int64) (v2 : Nat) (v3 : Int32) (M : Mem) (q : Int64 → Mem → Prop) : Prop := w_X11_mixed_l3 v2 v3 q (v0, (0 : Int32), M)
set_option maxRecDepth 100000 in
set_option maxHeartbeats 4000000 in
theorem ok_X11_mixed {g : Gl} {l : Launch} {v0 : Int64} {v2 : Nat} {v3 : Int32} {M : Mem} {q : Int64 → Mem → Prop} (hv2 : isA 0 v2) (hw : w_X11_mixed v0 v2 v3 M q) : CtJ g l yX11_mixed cX11_mixed 5 (some .long) 1 0 [.long v0, .ref (g.2.2.2 + v2), .int v3] M q := by
  refine n_introJ (by decide +kernel) (Nat.le_of_ble_eq_true rfl) (fun c C r => ?_)
  have C : Cx c cX11_mixed 5 RX11 g l (Rm 1 0) := C
  refine x_sub [0, 2, 3] (lv' := [(0, .long v0), (2, .ref (g.2.2.2 + v2)), (3, .int v3)]) rfl ?_
  unfold w_X11_mixed at hw
  refine x_iconst (v := (0 : Int32)) C dX11_mixed_0 (by decide) ?_
  refine x_istore C dX11_mixed_1 (Nat.le_of_ble_eq_true rfl) ?_
  exact x_sub [0, 2, 3, 4] rfl (ok_X11_mixed_l3 C r hv2 hw)

def w_X11_digest_l222F (q : Int64 → Mem → Prop) (P222 : Int64 × Int32 × Mem → Prop) (s : Int64 × Int32 × Mem) : Prop := match s with
  | (v1, v3, M) => (((4 : Int32) ≤ v3 → q v1 M) ∧ (¬ (4 : Int32) ≤ v3 → vp_in v3 4 ∧ vp_in v3 4 ∧ w_X11_mixed v1 ((11 + 6 + 4 * (v3).toNatClampNeg) + 2) (M.1 (11 + 6 + 4 * (v3).toNatClampNeg) 1) M (fun (r5 : Int64) (M4 : Mem) => vp_in v3 4 ∧ vp_in v3 4 ∧ w_X11_mixed r5 ((11 + 6 + 4 * (v3).toNatClampNeg) + 3) (M4.1 (11 + 6 + 4 * (v3).toNatClampNeg) 5) M4 (fun (r9 : Int64) (M8 : Mem) => ∀ x10 : Int32, x10 = v3 + (1 : Int32) → P222 (r9, x10, M8)))))
def w_X11_digest_l222 (q : Int64 → Mem → Prop) (s : Int64 × Int32 × Mem) : Prop := lfp (w_X11_digest_l222F q ) s
set_option maxRecDepth 100000 in
set_option maxHeartbeats 4000000 in
theorem ok_X11_digest_l222 {c : CtxT} {g : Gl} {l : Launch} {q : Int64 → Mem → Prop} {s : Int64 × Int32 × Mem} (C : Cx c cX11_digest 4 RX11 g l (Rm 4 65)) (r : Rt c (some .long) (pJ q) 0 0) (hw : w_X11_digest_l222 q s) : X c S0 222 [(0, .ref (g.2.2.2 + 0)), (1, .long s.1), (3, .int s.2.1)] [] (stat s.2.2) := hw (fun s => X c S0 222 [(0, .ref (g.2.2.2 + 0)), (1, .long s.1), (3, .int s.2.1)] [] (stat s.2.2)) (fun s hw => by
    obtain ⟨v1, v3, M⟩ := s
    try dsimp only [w_X11_digest_l222F] at hw
    try dsimp only
    refine x_iload_n C dX11_digest_222 rfl rfl ?_
    refine x_iconst (v := (4 : Int32)) C dX11_digest_223 (by decide) ?_
    refine x_icmp_ge (tgt := 291) C dX11_digest_224 (by decide) (fun h1 => ?_) (fun h1 => ?_)
    · replace hw := hw.1 h1
      refine x_lload_n C dX11_digest_291 rfl rfl ?_
      exact n_lreturn C r dX11_digest_292 hw
    · replace hw := hw.2 h1
      refine x_lload_n C dX11_digest_227 rfl rfl ?_
      refine x_aload_n C dX11_digest_228 rfl rfl ?_
      refine n_getS (dd := 1) C fl_X11_10 s0 (fun _ _ => rfl) rfl dX11_digest_229 ?_
      refine n_getS (dd := 10) C fl_X11_132 s1 (fun _ _ => rfl) rfl dX11_digest_232 ?_
      refine x_iload_n C dX11_digest_235 rfl rfl ?_
      obtain ⟨h2, hw⟩ := hw
      refine a_aald3 C s11 ln11 h2 dX11_digest_236 ?_
      refine n_getS (dd := 2) C fl_X11_367 (el3 s11 (ln11.symm ▸ h2)) (fun _ _ => rfl) rfl dX11_digest_237 ?_
      refine x_aload_n C dX11_digest_240 rfl rfl ?_
      refine n_getS (dd := 1) C fl_X11_10 s0 (fun _ _ => rfl) rfl dX11_digest_241 ?_
      refine n_getS (dd := 10) C fl_X11_132 s1 (fun _ _ => rfl) rfl dX11_digest_244 ?_
      refine x_iload_n C dX11_digest_247 rfl rfl ?_
      obtain ⟨h3, hw⟩ := hw
      refine a_aald3 C s11 ln11 h3 dX11_digest_248 ?_
      refine n_getI C fl_X11_370 (el3 s11 (ln11.symm ▸ h3)) (fun _ _ => rfl) dX11_digest_249 ?_
      refine n_callSJ C (ok_X11_mixed (ss_3_4 (el3 s11 (ln11.symm ▸ h2))) hw) ms_X11_357 rfl rfl ⟨Nat.le_of_ble_eq_true rfl, Nat.le_of_ble_eq_true rfl⟩ (Nat.le_of_ble_eq_true rfl) dX11_digest_252 (fun r5 M4 hw => ?_)
      refine x_lstore_n C dX11_digest_255 rfl (Nat.le_of_ble_eq_true rfl) ?_
      refine x_lload_n C dX11_digest_256 rfl rfl ?_
      refine x_aload_n C dX11_digest_257 rfl rfl ?_
      refine n_getS (dd := 1) C fl_X11_10 s0 (fun _ _ => rfl) rfl dX11_digest_258 ?_
      refine n_getS (dd := 10) C fl_X11_132 s1 (fun _ _ => rfl) rfl dX11_digest_261 ?_
      refine x_iload_n C dX11_digest_264 rfl rfl ?_
      obtain ⟨h6, hw⟩ := hw
      refine a_aald3 C s11 ln11 h6 dX11_digest_265 ?_
      refine n_getS (dd := 3) C fl_X11_373 (el3 s11 (ln11.symm ▸ h6)) (fun _ _ => rfl) rfl dX11_digest_266 ?_
      refine x_aload_n C dX11_digest_269 rfl rfl ?_
      refine n_getS (dd := 1) C fl_X11_10 s0 (fun _ _ => rfl) rfl dX11_digest_270 ?_
      refine n_getS (dd := 10) C fl_X11_132 s1 (fun _ _ => rfl) rfl dX11_digest_273 ?_
      refine x_iload_n C dX11_digest_276 rfl rfl ?_
      obtain ⟨h7, hw⟩ := hw
      refine a_aald3 C s11 ln11 h7 dX11_digest_277 ?_
      refine n_getI C fl_X11_376 (el3 s11 (ln11.symm ▸ h7)) (fun _ _ => rfl) dX11_digest_278 ?_
      refine n_callSJ C (ok_X11_mixed (ss_3_7 (el3 s11 (ln11.symm ▸ h6))) hw) ms_X11_357 rfl rfl ⟨Nat.le_of_ble_eq_true rfl, Nat.le_of_ble_eq_true rfl⟩ (Nat.le_of_ble_eq_true rfl) dX11_digest_281 (fun r9 M8 hw => ?_)
      refine x_lstore_n C dX11_digest_284 rfl (Nat.le_of_ble_eq_true rfl) ?_
      obtain ⟨x10, ex10⟩ : ∃ z : Int32, z = v3 + (1 : Int32) := ⟨_, rfl⟩
      replace hw := hw x10 ex10
      refine x_iinc (v := x10) C dX11_digest_285 rfl ex10.symm (Nat.le_of_ble_eq_true rfl) ?_
      refine x_goto (tgt := 222) C dX11_digest_288 (by decide) ?_
      exact x_sub [0, 1, 3] rfl hw)
def w_X11_digest_l160F (q : Int64 → Mem → Prop) (P160 : Int64 × Int32 × Mem → Prop) (s : Int64 × Int32 × Mem) : Prop := match s with
  | (v1, v3, M) => (((M.1 2 7) ≤ v3 → w_X11_digest_l222 q (v1, (0 : Int32), M)) ∧ (¬ (M.1 2 7) ≤ v3 → vp_in v3 24 ∧ ∀ x13 : Int64, x13 = (((31 : Int64) * v1) + ((M.1 8 (v3).toNatClampNeg)).toInt64) → vp_in v3 24 ∧ ∀ x15 : Int64, x15 = (((31 : Int64) * x13) + ((M.1 9 (v3).toNatClampNeg)).toInt64) → ∀ x16 : Int32, x16 = v3 + (1 : Int32) → P160 (x15, x16, M)))
def w_X11_digest_l160 (q : Int64 → Mem → Prop) (s : Int64 × Int32 × Mem) : Prop := lfp (w_X11_digest_l160F q ) s
set_option maxRecDepth 100000 in
set_option maxHeartbeats 4000000 in
theorem ok_X11_digest_l160 {c : CtxT} {g : Gl} {l : Launch} {q : Int64 → Mem → Prop} {s : Int64 × Int32 × Mem} (C : Cx c cX11_digest 4 RX11 g l (Rm 4 65)) (r : Rt c (some .long) (pJ q) 0 0) (hw : w_X11_digest_l160 q s) : X c S0 160 [(0, .ref (g.2.2.2 + 0)), (1, .long s.1), (3, .int s.2.1)] [] (stat s.2.2) := hw (fun s => X c S0 160 [(0, .ref (g.2.2.2 + 0)), (1, .long s.1), (3, .int s.2.1)] [] (stat s.2.2)) (fun s hw => by
    obtain ⟨v1, v3, M⟩ := s
    try dsimp only [w_X11_digest_l160F] at hw
    try dsimp only
    refine x_iload_n C dX11_digest_160 rfl rfl ?_
    refine x_aload_n C dX11_digest_161 rfl rfl ?_
    refine n_getS (dd := 1) C fl_X11_10 s0 (fun _ _ => rfl) rfl dX11_digest_162 ?_
    refine n_getS (dd := 1) C fl_X11_73 s1 (fun _ _ => rfl) rfl dX11_digest_165 ?_
    refine n_getI C fl_X11_193 s2 (fun _ _ => rfl) dX11_digest_168 ?_
    refine x_icmp_ge (tgt := 220) C dX11_digest_171 (by decide) (fun h11 => ?_) (fun h11 => ?_)
    · replace hw := hw.1 h11
      refine x_iconst (v := (0 : Int32)) C dX11_digest_220 (by decide) ?_
      refine x_istore_n C dX11_digest_221 rfl (Nat.le_of_ble_eq_true rfl) ?_
      exact x_sub [0, 1, 3] rfl (ok_X11_digest_l222 C r  hw)
    · replace hw := hw.2 h11
      refine x_ldc2_w (v := (31 : Int64)) C dX11_digest_174 kc_X11_349 ?_
      refine x_lload_n C dX11_digest_177 rfl rfl ?_
      refine x_lmul C dX11_digest_178 ?_
      refine x_aload_n C dX11_digest_179 rfl rfl ?_
      refine n_getS (dd := 1) C fl_X11_10 s0 (fun _ _ => rfl) rfl dX11_digest_180 ?_
      refine n_getS (dd := 1) C fl_X11_73 s1 (fun _ _ => rfl) rfl dX11_digest_183 ?_
      refine n_getS (dd := 6) C fl_X11_252 s2 (fun _ _ => rfl) rfl dX11_digest_186 ?_
      refine x_iload_n C dX11_digest_189 rfl rfl ?_
      obtain ⟨h12, hw⟩ := hw
      refine a_iald C s8 ln8 h12 dX11_digest_190 ?_
      refine x_i2l C dX11_digest_191 ?_
      refine x_ladd C dX11_digest_192 ?_
      obtain ⟨x13, ex13⟩ : ∃ z : Int64, z = (((31 : Int64) * v1) + ((M.1 8 (v3).toNatClampNeg)).toInt64) := ⟨_, rfl⟩
      replace hw := hw x13 ex13
      refine x_topj ex13 ?_
      refine x_lstore_n C dX11_digest_193 rfl (Nat.le_of_ble_eq_true rfl) ?_
      refine x_ldc2_w (v := (31 : Int64)) C dX11_digest_194 kc_X11_349 ?_
      refine x_lload_n C dX11_digest_197 rfl rfl ?_
      refine x_lmul C dX11_digest_198 ?_
      refine x_aload_n C dX11_digest_199 rfl rfl ?_
      refine n_getS (dd := 1) C fl_X11_10 s0 (fun _ _ => rfl) rfl dX11_digest_200 ?_
      refine n_getS (dd := 1) C fl_X11_73 s1 (fun _ _ => rfl) rfl dX11_digest_203 ?_
      refine n_getS (dd := 7) C fl_X11_364 s2 (fun _ _ => rfl) rfl dX11_digest_206 ?_
      refine x_iload_n C dX11_digest_209 rfl rfl ?_
      obtain ⟨h14, hw⟩ := hw
      refine a_iald C s9 ln9 h14 dX11_digest_210 ?_
      refine x_i2l C dX11_digest_211 ?_
      refine x_ladd C dX11_digest_212 ?_
      obtain ⟨x15, ex15⟩ : ∃ z : Int64, z = (((31 : Int64) * x13) + ((M.1 9 (v3).toNatClampNeg)).toInt64) := ⟨_, rfl⟩
      replace hw := hw x15 ex15
      refine x_topj ex15 ?_
      refine x_lstore_n C dX11_digest_213 rfl (Nat.le_of_ble_eq_true rfl) ?_
      obtain ⟨x16, ex16⟩ : ∃ z : Int32, z = v3 + (1 : Int32) := ⟨_, rfl⟩
      replace hw := hw x16 ex16
      refine x_iinc (v := x16) C dX11_digest_214 rfl ex16.symm (Nat.le_of_ble_eq_true rfl) ?_
      refine x_goto (tgt := 160) C dX11_digest_217 (by decide) ?_
      exact x_sub [0, 1, 3] rfl hw)
def w_X11_digest_l6F (q : Int64 → Mem → Prop) (P6 : Int64 × Int32 × Mem → Prop) (s : Int64 × Int32 × Mem) : Prop := match s with
  | (v1, v3, M) => (((8 : Int32) < v3 → w_X11_mixed v1 15 ((M.1 1 4) * (14 : Int32)) M (fun (r19 : Int64) (M18 : Mem) => w_X11_mixed r19 13 (M18.1 12 1) M18 (fun (r21 : Int64) (M20 : Mem) => w_X11_mixed r21 14 (M20.1 12 3) M20 (fun (r23 : Int64) (M22 : Mem) => ∀ x24 : Int64, x24 = (((31 : Int64) * r23) + ((M22.1 12 4)).toInt64) → ∀ x25 : Int64, x25 = (((31 : Int64) * x24) + ((M22.1 12 5)).toInt64) → w_X11_mixed x25 16 (M22.1 1 6) M22 (fun (r27 : Int64) (M26 : Mem) => w_X11_digest_l160 q (r27, (0 : Int32), M26)))))) ∧ (¬ (8 : Int32) < v3 → w_X11_count v3 M (fun (r29 : Int32) (M28 : Mem) => ∀ x30 : Int64, x30 = (((31 : Int64) * v1) + (r29).toInt64) → ∀ x31 : Int32, x31 = v3 + (1 : Int32) → P6 (x30, x31, M28))))
def w_X11_digest_l6 (q : Int64 → Mem → Prop) (s : Int64 × Int32 × Mem) : Prop := lfp (w_X11_digest_l6F q ) s
set_option maxRecDepth 100000 in
set_option maxHeartbeats 4000000 in
theorem ok_X11_digest_l6 {c : CtxT} {g : Gl} {l : Launch} {q : Int64 → Mem → Prop} {s : Int64 × Int32 × Mem} (C : Cx c cX11_digest 4 RX11 g l (Rm 4 65)) (r : Rt c (some .long) (pJ q) 0 0) (hw : w_X11_digest_l6 q s) : X c S0 6 [(0, .ref (g.2.2.2 + 0)), (1, .long s.1), (3, .int s.2.1)] [] (stat s.2.2) := hw (fun s => X c S0 6 [(0, .ref (g.2.2.2 + 0)), (1, .long s.1), (3, .int s.2.1)] [] (stat s.2.2)) (fun s hw => by
    obtain ⟨v1, v3, M⟩ := s
    try dsimp only [w_X11_digest_l6F] at hw
    try dsimp only
    refine x_iload_n C dX11_digest_6 rfl rfl ?_
    refine x_bipush (v := (8 : Int32)) C dX11_digest_7 (by decide) ?_
    refine x_icmp_gt (tgt := 31) C dX11_digest_9 (by decide) (fun h17 => ?_) (fun h17 => ?_)
    · replace hw := hw.1 h17
      refine x_lload_n C dX11_digest_31 rfl rfl ?_
      refine x_aload_n C dX11_digest_32 rfl rfl ?_
      refine n_getS (dd := 1) C fl_X11_10 s0 (fun _ _ => rfl) rfl dX11_digest_33 ?_
      refine n_getS (dd := 14) C fl_X11_354 s1 (fun _ _ => rfl) rfl dX11_digest_36 ?_
      refine x_aload_n C dX11_digest_39 rfl rfl ?_
      refine n_getS (dd := 1) C fl_X11_10 s0 (fun _ _ => rfl) rfl dX11_digest_40 ?_
      refine n_getI C fl_X11_159 s1 (fun _ _ => rfl) dX11_digest_43 ?_
      refine x_bipush (v := (14 : Int32)) C dX11_digest_46 (by decide) ?_
      refine x_imul C dX11_digest_48 ?_
      refine n_callSJ C (ok_X11_mixed s15 hw) ms_X11_357 rfl rfl ⟨Nat.le_of_ble_eq_true rfl, Nat.le_of_ble_eq_true rfl⟩ (Nat.le_of_ble_eq_true rfl) dX11_digest_49 (fun r19 M18 hw => ?_)
      refine x_lstore_n C dX11_digest_52 rfl (Nat.le_of_ble_eq_true rfl) ?_
      refine x_lload_n C dX11_digest_53 rfl rfl ?_
      refine x_aload_n C dX11_digest_54 rfl rfl ?_
      refine n_getS (dd := 1) C fl_X11_10 s0 (fun _ _ => rfl) rfl dX11_digest_55 ?_
      refine n_getS (dd := 11) C fl_X11_196 s1 (fun _ _ => rfl) rfl dX11_digest_58 ?_
      refine n_getS (dd := 1) C fl_X11_208 s12 (fun _ _ => rfl) rfl dX11_digest_61 ?_
      refine x_aload_n C dX11_digest_64 rfl rfl ?_
      refine n_getS (dd := 1) C fl_X11_10 s0 (fun _ _ => rfl) rfl dX11_digest_65 ?_
      refine n_getS (dd := 11) C fl_X11_196 s1 (fun _ _ => rfl) rfl dX11_digest_68 ?_
      refine n_getI C fl_X11_200 s12 (fun _ _ => rfl) dX11_digest_71 ?_
      refine n_callSJ C (ok_X11_mixed s13 hw) ms_X11_357 rfl rfl ⟨Nat.le_of_ble_eq_true rfl, Nat.le_of_ble_eq_true rfl⟩ (Nat.le_of_ble_eq_true rfl) dX11_digest_74 (fun r21 M20 hw => ?_)
      refine x_lstore_n C dX11_digest_77 rfl (Nat.le_of_ble_eq_true rfl) ?_
      refine x_lload_n C dX11_digest_78 rfl rfl ?_
      refine x_aload_n C dX11_digest_79 rfl rfl ?_
      refine n_getS (dd := 1) C fl_X11_10 s0 (fun _ _ => rfl) rfl dX11_digest_80 ?_
      refine n_getS (dd := 11) C fl_X11_196 s1 (fun _ _ => rfl) rfl dX11_digest_83 ?_
      refine n_getS (dd := 2) C fl_X11_361 s12 (fun _ _ => rfl) rfl dX11_digest_86 ?_
      refine x_aload_n C dX11_digest_89 rfl rfl ?_
      refine n_getS (dd := 1) C fl_X11_10 s0 (fun _ _ => rfl) rfl dX11_digest_90 ?_
      refine n_getS (dd := 11) C fl_X11_196 s1 (fun _ _ => rfl) rfl dX11_digest_93 ?_
      refine n_getI C fl_X11_228 s12 (fun _ _ => rfl) dX11_digest_96 ?_
      refine n_callSJ C (ok_X11_mixed s14 hw) ms_X11_357 rfl rfl ⟨Nat.le_of_ble_eq_true rfl, Nat.le_of_ble_eq_true rfl⟩ (Nat.le_of_ble_eq_true rfl) dX11_digest_99 (fun r23 M22 hw => ?_)
      refine x_lstore_n C dX11_digest_102 rfl (Nat.le_of_ble_eq_true rfl) ?_
      refine x_ldc2_w (v := (31 : Int64)) C dX11_digest_103 kc_X11_349 ?_
      refine x_lload_n C dX11_digest_106 rfl rfl ?_
      refine x_lmul C dX11_digest_107 ?_
      refine x_aload_n C dX11_digest_108 rfl rfl ?_
      refine n_getS (dd := 1) C fl_X11_10 s0 (fun _ _ => rfl) rfl dX11_digest_109 ?_
      refine n_getS (dd := 11) C fl_X11_196 s1 (fun _ _ => rfl) rfl dX11_digest_112 ?_
      refine n_getI C fl_X11_222 s12 (fun _ _ => rfl) dX11_digest_115 ?_
      refine x_i2l C dX11_digest_118 ?_
      refine x_ladd C dX11_digest_119 ?_
      obtain ⟨x24, ex24⟩ : ∃ z : Int64, z = (((31 : Int64) * r23) + ((M22.1 12 4)).toInt64) := ⟨_, rfl⟩
      replace hw := hw x24 ex24
      refine x_topj ex24 ?_
      refine x_lstore_n C dX11_digest_120 rfl (Nat.le_of_ble_eq_true rfl) ?_
      refine x_ldc2_w (v := (31 : Int64)) C dX11_digest_121 kc_X11_349 ?_
      refine x_lload_n C dX11_digest_124 rfl rfl ?_
      refine x_lmul C dX11_digest_125 ?_
      refine x_aload_n C dX11_digest_126 rfl rfl ?_
      refine n_getS (dd := 1) C fl_X11_10 s0 (fun _ _ => rfl) rfl dX11_digest_127 ?_
      refine n_getS (dd := 11) C fl_X11_196 s1 (fun _ _ => rfl) rfl dX11_digest_130 ?_
      refine n_getI C fl_X11_225 s12 (fun _ _ => rfl) dX11_digest_133 ?_
      refine x_i2l C dX11_digest_136 ?_
      refine x_ladd C dX11_digest_137 ?_
      obtain ⟨x25, ex25⟩ : ∃ z : Int64, z = (((31 : Int64) * x24) + ((M22.1 12 5)).toInt64) := ⟨_, rfl⟩
      replace hw := hw x25 ex25
      refine x_topj ex25 ?_
      refine x_lstore_n C dX11_digest_138 rfl (Nat.le_of_ble_eq_true rfl) ?_
      refine x_lload_n C dX11_digest_139 rfl rfl ?_
      refine x_aload_n C dX11_digest_140 rfl rfl ?_
      refine n_getS (dd := 1) C fl_X11_10 s0 (fun _ _ => rfl) rfl dX11_digest_141 ?_
      refine n_getS (dd := 15) C fl_X11_317 s1 (fun _ _ => rfl) rfl dX11_digest_144 ?_
      refine x_aload_n C dX11_digest_147 rfl rfl ?_
      refine n_getS (dd := 1) C fl_X11_10 s0 (fun _ _ => rfl) rfl dX11_digest_148 ?_
      refine n_getI C fl_X11_314 s1 (fun _ _ => rfl) dX11_digest_151 ?_
      refine n_callSJ C (ok_X11_mixed s16 hw) ms_X11_357 rfl rfl ⟨Nat.le_of_ble_eq_true rfl, Nat.le_of_ble_eq_true rfl⟩ (Nat.le_of_ble_eq_true rfl) dX11_digest_154 (fun r27 M26 hw => ?_)
      refine x_lstore_n C dX11_digest_157 rfl (Nat.le_of_ble_eq_true rfl) ?_
      refine x_iconst (v := (0 : Int32)) C dX11_digest_158 (by decide) ?_
      refine x_istore_n C dX11_digest_159 rfl (Nat.le_of_ble_eq_true rfl) ?_
      exact x_sub [0, 1, 3] rfl (ok_X11_digest_l160 C r  hw)
    · replace hw := hw.2 h17
      refine x_ldc2_w (v := (31 : Int64)) C dX11_digest_12 kc_X11_349 ?_
      refine x_lload_n C dX11_digest_15 rfl rfl ?_
      refine x_lmul C dX11_digest_16 ?_
      refine x_aload_n C dX11_digest_17 rfl rfl ?_
      refine x_iload_n C dX11_digest_18 rfl rfl ?_
      refine n_callVI s0 rfl C (ok_X11_count  hw) mv_X11_351 rfl rfl ⟨Nat.le_of_ble_eq_true rfl, Nat.le_of_ble_eq_true rfl⟩ (Nat.le_of_ble_eq_true rfl) dX11_digest_19 (fun r29 M28 hw => ?_)
      refine x_i2l C dX11_digest_22 ?_
      refine x_ladd C dX11_digest_23 ?_
      obtain ⟨x30, ex30⟩ : ∃ z : Int64, z = (((31 : Int64) * v1) + (r29).toInt64) := ⟨_, rfl⟩
      replace hw := hw x30 ex30
      refine x_topj ex30 ?_
      refine x_lstore_n C dX11_digest_24 rfl (Nat.le_of_ble_eq_true rfl) ?_
      obtain ⟨x31, ex31⟩ : ∃ z : Int32, z = v3 + (1 : Int32) := ⟨_, rfl⟩
      replace hw := hw x31 ex31
      refine x_iinc (v := x31) C dX11_digest_25 rfl ex31.symm (Nat.le_of_ble_eq_true rfl) ?_
      refine x_goto (tgt := 6) C dX11_digest_28 (by decide) ?_
      exact x_sub [0, 1, 3] rfl hw)
def w_X11_digest (M : Mem) (q : Int64 → Mem → Prop) : Prop := w_X11_digest_l6 q ((349 : Int64), (0 : Int32), M)
set_option maxRecDepth 100000 in
set_option maxHeartbeats 4000000 in
theorem ok_X11_digest {g : Gl} {l : Launch} {M : Mem} {q : Int64 → Mem → Prop} (hw : w_X11_digest M q) : CtJ g l yX11_digest cX11_digest 4 (some .long) 4 65 [.ref (g.2.2.2 + 0)] M q := by
  refine n_introJ (by decide +kernel) (Nat.le_of_ble_eq_true rfl) (fun c C r => ?_)
  have C : Cx c cX11_digest 4 RX11 g l (Rm 4 65) := C
  refine x_sub [0] (lv' := [(0, .ref (g.2.2.2 + 0))]) rfl ?_
  unfold w_X11_digest at hw
  refine x_ldc2_w (v := (349 : Int64)) C dX11_digest_0 kc_X11_347 ?_
  refine x_lstore_n C dX11_digest_3 rfl (Nat.le_of_ble_eq_true rfl) ?_
  refine x_iconst (v := (0 : Int32)) C dX11_digest_4 (by decide) ?_
  refine x_istore_n C dX11_digest_5 rfl (Nat.le_of_ble_eq_true rfl) ?_
  exact x_sub [0, 1, 3] rfl (ok_X11_digest_l6 C r  hw)


def w_X12_isThere (v1 : Int32) (v2 : Int32) (v3 : Int32) (M : Mem) (q : Int32 → Mem → Prop) : Prop := w_X12_has (2 : Int32) v1 M (fun (r2 : Int32) (M1 : Mem) => ((r2 = 0 → q (0 : Int32) M1) ∧ (¬ r2 = 0 → w_X12_isMachine v2 M1 (fun (r5 : Int32) (M4 : Mem) => ((r5 = 0 → q (0 : Int32) M4) ∧ (¬ r5 = 0 → w_X12_has (3 : Int32) v3 M4 (fun (r8 : Int32) (M7 : Mem) => ((r8 = 0 → q (0 : Int32) M7) ∧ (¬ r8 = 0 → q (1 : Int32) M7)))))))))
set_option maxRecDepth 100000 in
set_option maxHeartbeats 4000000 in
theorem ok_X12_isThere {g : Gl} {l : Launch} {v1 : Int32} {v2 : Int32} {v3 : Int32} {M : Mem} {q : Int32 → Mem → Prop} (hw : w_X12_isThere v1 v2 v3 M q) : CtI g l yX12_isThere cX12_isThere 4 (some .boolean) 3 47 [.ref (g.2.2.2 + 135), .int v1, .int v2, .int v3] M q := by
  refine n_introI (by decide +kernel) (Nat.le_of_ble_eq_true rfl) (fun c C r => ?_)
  have C : Cx c cX12_isThere 4 RX12 g l (Rm 3 47) := C
  refine x_sub [0, 1, 2, 3] (lv' := [(0, .ref (g.2.2.2 + 135)), (1, .int v1), (2, .int v2), (3, .int v3)]) rfl ?_
  unfold w_X12_isThere at hw
  refine x_aload_n C dX12_isThere_0 rfl rfl ?_
  refine x_iconst (v := (2 : Int32)) C dX12_isThere_1 (by decide) ?_
  refine x_iload_n C dX12_isThere_2 rfl rfl ?_
  refine n_callVI s135 rfl C (ok_X12_has  hw) mv_X12_84 rfl rfl ⟨Nat.le_of_ble_eq_true rfl, Nat.le_of_ble_eq_true rfl⟩ (Nat.le_of_ble_eq_true rfl) dX12_isThere_3 (fun r2 M1 hw => ?_)
  refine x_if_eq (tgt := 29) C dX12_isThere_6 (by decide) (fun h3 => ?_) (fun h3 => ?_)
  · replace hw := hw.1 h3
    refine x_iconst (v := (0 : Int32)) C dX12_isThere_29 (by decide) ?_
    exact n_zreturn C r dX12_isThere_30 (Or.inl rfl) hw
  · replace hw := hw.2 h3
    refine x_iload_n C dX12_isThere_9 rfl rfl ?_
    refine n_callSI C (ok_X12_isMachine  hw) ms_X12_100 rfl rfl ⟨Nat.le_of_ble_eq_true rfl, Nat.le_of_ble_eq_true rfl⟩ (Nat.le_of_ble_eq_true rfl) dX12_isThere_10 (fun r5 M4 hw => ?_)
    refine x_if_eq (tgt := 29) C dX12_isThere_13 (by decide) (fun h6 => ?_) (fun h6 => ?_)
    · replace hw := hw.1 h6
      refine x_iconst (v := (0 : Int32)) C dX12_isThere_29 (by decide) ?_
      exact n_zreturn C r dX12_isThere_30 (Or.inl rfl) hw
    · replace hw := hw.2 h6
      refine x_aload_n C dX12_isThere_16 rfl rfl ?_
      refine x_iconst (v := (3 : Int32)) C dX12_isThere_17 (by decide) ?_
      refine x_iload_n C dX12_isThere_18 rfl rfl ?_
      refine n_callVI s135 rfl C (ok_X12_has  hw) mv_X12_84 rfl rfl ⟨Nat.le_of_ble_eq_true rfl, Nat.le_of_ble_eq_true rfl⟩ (Nat.le_of_ble_eq_true rfl) dX12_isThere_19 (fun r8 M7 hw => ?_)
      refine x_if_eq (tgt := 29) C dX12_isThere_22 (by decide) (fun h9 => ?_) (fun h9 => ?_)
      · replace hw := hw.1 h9
        refine x_iconst (v := (0 : Int32)) C dX12_isThere_29 (by decide) ?_
        exact n_zreturn C r dX12_isThere_30 (Or.inl rfl) hw
      · replace hw := hw.2 h9
        refine x_iconst (v := (1 : Int32)) C dX12_isThere_25 (by decide) ?_
        refine x_goto (tgt := 30) C dX12_isThere_26 (by decide) ?_
        exact n_zreturn C r dX12_isThere_30 (Or.inr rfl) hw

def w_X12_run (v1 : Int32) (v2 : Int32) (v3 : Int32) (v4 : Int32) (v5 : Int32) (v6 : Int32) (M : Mem) (q : Int32 → Mem → Prop) : Prop := w_X12_isThere v1 v2 v3 M (fun (r2 : Int32) (M1 : Mem) => ((r2 = 0 → q (-2 : Int32) M1) ∧ (¬ r2 = 0 → w_X12_in (v5).toInt64 (0 : Int64) (23 : Int64) M1 (fun (r5 : Int32) (M4 : Mem) => ((¬ r5 = 0 → w_X12_many (4 : Int32) M4 (fun (r8 : Int32) (M7 : Mem) => ((¬ r8 = (200 : Int32) → w_X12_keepRun v1 v2 v3 v4 v5 v6 M7 (fun (M10 : Mem) => w_X12_many (4 : Int32) M10 (fun (r13 : Int32) (M12 : Mem) => q (r13 - (1 : Int32)) M12))) ∧ (r8 = (200 : Int32) → q (-4 : Int32) M7)))) ∧ (r5 = 0 → q (-2 : Int32) M4))))))
set_option maxRecDepth 100000 in
set_option maxHeartbeats 4000000 in
theorem ok_X12_run {g : Gl} {l : Launch} {v1 : Int32} {v2 : Int32} {v3 : Int32} {v4 : Int32} {v5 : Int32} {v6 : Int32} {M : Mem} {q : Int32 → Mem → Prop} (hw : w_X12_run v1 v2 v3 v4 v5 v6 M q) : CtI g l yX12_run cX12_run 7 (some .int) 6 138 [.ref (g.2.2.2 + 135), .int v1, .int v2, .int v3, .int v4, .int v5, .int v6] M q := by
  refine n_introI (by decide +kernel) (Nat.le_of_ble_eq_true rfl) (fun c C r => ?_)
  have C : Cx c cX12_run 7 RX12 g l (Rm 6 138) := C
  refine x_sub [0, 1, 2, 3, 4, 5, 6] (lv' := [(0, .ref (g.2.2.2 + 135)), (1, .int v1), (2, .int v2), (3, .int v3), (4, .int v4), (5, .int v5), (6, .int v6)]) rfl ?_
  unfold w_X12_run at hw
  refine x_aload_n C dX12_run_0 rfl rfl ?_
  refine x_iload_n C dX12_run_1 rfl rfl ?_
  refine x_iload_n C dX12_run_2 rfl rfl ?_
  refine x_iload_n C dX12_run_3 rfl rfl ?_
  refine n_callVI s135 rfl C (ok_X12_isThere  hw) mv_X12_152 rfl rfl ⟨Nat.le_of_ble_eq_true rfl, Nat.le_of_ble_eq_true rfl⟩ (Nat.le_of_ble_eq_true rfl) dX12_run_4 (fun r2 M1 hw => ?_)
  refine x_if_eq (tgt := 23) C dX12_run_7 (by decide) (fun h3 => ?_) (fun h3 => ?_)
  · replace hw := hw.1 h3
    refine x_bipush (v := (-2 : Int32)) C dX12_run_23 (by decide) ?_
    exact n_ireturn C r dX12_run_25 hw
  · replace hw := hw.2 h3
    refine x_iload C dX12_run_10 rfl ?_
    refine x_i2l C dX12_run_12 ?_
    refine x_lconst (v := (0 : Int64)) C dX12_run_13 (by decide) ?_
    refine x_ldc2_w (v := (23 : Int64)) C dX12_run_14 kc_X12_156 ?_
    refine n_callSI C (ok_X12_in  hw) ms_X12_70 rfl rfl ⟨Nat.le_of_ble_eq_true rfl, Nat.le_of_ble_eq_true rfl⟩ (Nat.le_of_ble_eq_true rfl) dX12_run_17 (fun r5 M4 hw => ?_)
    refine x_if_ne (tgt := 26) C dX12_run_20 (by decide) (fun h6 => ?_) (fun h6 => ?_)
    · replace hw := hw.1 h6
      refine x_aload_n C dX12_run_26 rfl rfl ?_
      refine x_iconst (v := (4 : Int32)) C dX12_run_27 (by decide) ?_
      refine n_callVI s135 rfl C (ok_X12_many  hw) mv_X12_66 rfl rfl ⟨Nat.le_of_ble_eq_true rfl, Nat.le_of_ble_eq_true rfl⟩ (Nat.le_of_ble_eq_true rfl) dX12_run_28 (fun r8 M7 hw => ?_)
      refine x_sipush (v := (200 : Int32)) C dX12_run_31 (by decide) ?_
      refine x_icmp_ne (tgt := 40) C dX12_run_34 (by decide) (fun h9 => ?_) (fun h9 => ?_)
      · replace hw := hw.1 h9
        refine x_aload_n C dX12_run_40 rfl rfl ?_
        refine x_iload_n C dX12_run_41 rfl rfl ?_
        refine x_iload_n C dX12_run_42 rfl rfl ?_
        refine x_iload_n C dX12_run_43 rfl rfl ?_
        refine x_iload C dX12_run_44 rfl ?_
        refine x_iload C dX12_run_46 rfl ?_
        refine x_iload C dX12_run_48 rfl ?_
        refine n_callVV s135 rfl C (ok_X12_keepRun  hw) mv_X12_158 rfl rfl ⟨Nat.le_of_ble_eq_true rfl, Nat.le_of_ble_eq_true rfl⟩ (Nat.le_of_ble_eq_true rfl) dX12_run_50 (fun M10 hw => ?_)
        refine x_aload_n C dX12_run_53 rfl rfl ?_
        refine x_iconst (v := (4 : Int32)) C dX12_run_54 (by decide) ?_
        refine n_callVI s135 rfl C (ok_X12_many  hw) mv_X12_66 rfl rfl ⟨Nat.le_of_ble_eq_true rfl, Nat.le_of_ble_eq_true rfl⟩ (Nat.le_of_ble_eq_true rfl) dX12_run_55 (fun r13 M12 hw => ?_)
        refine x_iconst (v := (1 : Int32)) C dX12_run_58 (by decide) ?_
        refine x_isub C dX12_run_59 ?_
        exact n_ireturn C r dX12_run_60 hw
      · replace hw := hw.2 h9
        refine x_bipush (v := (-4 : Int32)) C dX12_run_37 (by decide) ?_
        exact n_ireturn C r dX12_run_39 hw
    · replace hw := hw.2 h6
      refine x_bipush (v := (-2 : Int32)) C dX12_run_23 (by decide) ?_
      exact n_ireturn C r dX12_run_25 hw

def w_X12_of (v1 : Int32) (v2 : Int32) (M : Mem) (q : Int32 → Mem → Prop) : Prop := w_X12_has (4 : Int32) v1 M (fun (r2 : Int32) (M1 : Mem) => ((r2 = 0 → q (-2000000000 : Int32) M1) ∧ (¬ r2 = 0 → w_X12_in (v2).toInt64 (0 : Int64) (13 : Int64) M1 (fun (r5 : Int32) (M4 : Mem) => ((r5 = 0 → q (-2000000000 : Int32) M4) ∧ (¬ r5 = 0 → vp_in (((1346 : Int32) + ((14 : Int32) * v1)) + v2) 4230 ∧ q (M4.1 136 ((((1346 : Int32) + ((14 : Int32) * v1)) + v2)).toNatClampNeg) M4))))))
set_option maxRecDepth 100000 in
set_option maxHeartbeats 4000000 in
theorem ok_X12_of {g : Gl} {l : Launch} {v1 : Int32} {v2 : Int32} {M : Mem} {q : Int32 → Mem → Prop} (hw : w_X12_of v1 v2 M q) : CtI g l yX12_of cX12_of 3 (some .int) 3 47 [.ref (g.2.2.2 + 135), .int v1, .int v2] M q := by
  refine n_introI (by decide +kernel) (Nat.le_of_ble_eq_true rfl) (fun c C r => ?_)
  have C : Cx c cX12_of 3 RX12 g l (Rm 3 47) := C
  refine x_sub [0, 1, 2] (lv' := [(0, .ref (g.2.2.2 + 135)), (1, .int v1), (2, .int v2)]) rfl ?_
  unfold w_X12_of at hw
  refine x_aload_n C dX12_of_0 rfl rfl ?_
  refine x_iconst (v := (4 : Int32)) C dX12_of_1 (by decide) ?_
  refine x_iload_n C dX12_of_2 rfl rfl ?_
  refine n_callVI s135 rfl C (ok_X12_has  hw) mv_X12_84 rfl rfl ⟨Nat.le_of_ble_eq_true rfl, Nat.le_of_ble_eq_true rfl⟩ (Nat.le_of_ble_eq_true rfl) dX12_of_3 (fun r2 M1 hw => ?_)
  refine x_if_eq (tgt := 39) C dX12_of_6 (by decide) (fun h3 => ?_) (fun h3 => ?_)
  · replace hw := hw.1 h3
    refine x_ldc (v := (-2000000000 : Int32)) C dX12_of_39 kc_X12_164 ?_
    exact n_ireturn C r dX12_of_41 hw
  · replace hw := hw.2 h3
    refine x_iload_n C dX12_of_9 rfl rfl ?_
    refine x_i2l C dX12_of_10 ?_
    refine x_lconst (v := (0 : Int64)) C dX12_of_11 (by decide) ?_
    refine x_ldc2_w (v := (13 : Int64)) C dX12_of_12 kc_X12_162 ?_
    refine n_callSI C (ok_X12_in  hw) ms_X12_70 rfl rfl ⟨Nat.le_of_ble_eq_true rfl, Nat.le_of_ble_eq_true rfl⟩ (Nat.le_of_ble_eq_true rfl) dX12_of_15 (fun r5 M4 hw => ?_)
    refine x_if_eq (tgt := 39) C dX12_of_18 (by decide) (fun h6 => ?_) (fun h6 => ?_)
    · replace hw := hw.1 h6
      refine x_ldc (v := (-2000000000 : Int32)) C dX12_of_39 kc_X12_164 ?_
      exact n_ireturn C r dX12_of_41 hw
    · replace hw := hw.2 h6
      refine x_aload_n C dX12_of_21 rfl rfl ?_
      refine n_getS (dd := 1) C fl_X12_7 s135 (fun _ _ => rfl) rfl dX12_of_22 ?_
      refine x_sipush (v := (1346 : Int32)) C dX12_of_25 (by decide) ?_
      refine x_bipush (v := (14 : Int32)) C dX12_of_28 (by decide) ?_
      refine x_iload_n C dX12_of_30 rfl rfl ?_
      refine x_imul C dX12_of_31 ?_
      refine x_iadd C dX12_of_32 ?_
      refine x_iload_n C dX12_of_33 rfl rfl ?_
      refine x_iadd C dX12_of_34 ?_
      obtain ⟨h7, hw⟩ := hw
      refine a_iald C s136 ln136 h7 dX12_of_35 ?_
      refine x_goto (tgt := 41) C dX12_of_36 (by decide) ?_
      exact n_ireturn C r dX12_of_41 hw

def w_X12_goesPlain (v1 : Int32) (v2 : Int32) (v3 : Int32) (v4 : Int32) (M : Mem) (q : Mem → Prop) : Prop := w_X12_empty  M (fun (M1 : Mem) => w_X12_assemble v1 v2 M1 (fun (M3 : Mem) => w_X12_goes v3 v4 (0 : Int32) M3 (fun (M5 : Mem) => q M5)))
set_option maxRecDepth 100000 in
set_option maxHeartbeats 4000000 in
theorem ok_X12_goesPlain {g : Gl} {l : Launch} {v1 : Int32} {v2 : Int32} {v3 : Int32} {v4 : Int32} {M : Mem} {q : Mem → Prop} (hw : w_X12_goesPlain v1 v2 v3 v4 M q) : CtV g l yX12_goesPlain cX12_goesPlain 5 none 4 81 [.ref (g.2.2.2 + 135), .int v1, .int v2, .int v3, .int v4] M q := by
  refine n_introV (by decide +kernel) (Nat.le_of_ble_eq_true rfl) (fun c C r => ?_)
  have C : Cx c cX12_goesPlain 5 RX12 g l (Rm 4 81) := C
  refine x_sub [0, 1, 2, 3, 4] (lv' := [(0, .ref (g.2.2.2 + 135)), (1, .int v1), (2, .int v2), (3, .int v3), (4, .int v4)]) rfl ?_
  unfold w_X12_goesPlain at hw
  refine x_aload_n C dX12_goesPlain_0 rfl rfl ?_
  refine n_callVV s135 rfl C (ok_X12_empty  hw) mv_X12_146 rfl rfl ⟨Nat.le_of_ble_eq_true rfl, Nat.le_of_ble_eq_true rfl⟩ (Nat.le_of_ble_eq_true rfl) dX12_goesPlain_1 (fun M1 hw => ?_)
  refine x_aload_n C dX12_goesPlain_4 rfl rfl ?_
  refine x_iload_n C dX12_goesPlain_5 rfl rfl ?_
  refine x_iload_n C dX12_goesPlain_6 rfl rfl ?_
  refine n_callVV s135 rfl C (ok_X12_assemble  hw) mv_X12_132 rfl rfl ⟨Nat.le_of_ble_eq_true rfl, Nat.le_of_ble_eq_true rfl⟩ (Nat.le_of_ble_eq_true rfl) dX12_goesPlain_7 (fun M3 hw => ?_)
  refine x_aload_n C dX12_goesPlain_10 rfl rfl ?_
  refine x_iload_n C dX12_goesPlain_11 rfl rfl ?_
  refine x_iload C dX12_goesPlain_12 rfl ?_
  refine x_iconst (v := (0 : Int32)) C dX12_goesPlain_14 (by decide) ?_
  refine n_callVV s135 rfl C (ok_X12_goes  hw) mv_X12_139 rfl rfl ⟨Nat.le_of_ble_eq_true rfl, Nat.le_of_ble_eq_true rfl⟩ (Nat.le_of_ble_eq_true rfl) dX12_goesPlain_15 (fun M5 hw => ?_)
  exact n_vreturn C r dX12_goesPlain_18 hw

def w_X12_plain (v1 : Int32) (v2 : Int32) (v3 : Int32) (v4 : Int32) (M : Mem) (q : Int32 → Mem → Prop) : Prop := w_X12_isThere v1 v2 v3 M (fun (r2 : Int32) (M1 : Mem) => ((r2 = 0 → q (-2 : Int32) M1) ∧ (¬ r2 = 0 → w_X12_in (v4).toInt64 (0 : Int64) (5 : Int64) M1 (fun (r5 : Int32) (M4 : Mem) => ((¬ r5 = 0 → vp_in ((1026 : Int32) + ((2 : Int32) * v1)) 4230 ∧ vp_in (((1026 : Int32) + ((2 : Int32) * v1)) + (1 : Int32)) 4230 ∧ w_X12_goesPlain (M4.1 136 (((1026 : Int32) + ((2 : Int32) * v1))).toNatClampNeg) (M4.1 136 ((((1026 : Int32) + ((2 : Int32) * v1)) + (1 : Int32))).toNatClampNeg) v2 v3 M4 (fun (M9 : Mem) => vp_in v4 6 ∧ q (M9.1 144 (v4).toNatClampNeg) M9)) ∧ (r5 = 0 → q (-2 : Int32) M4))))))
set_option maxRecDepth 100000 in
set_option maxHeartbeats 4000000 in
theorem ok_X12_plain {g : Gl} {l : Launch} {v1 : Int32} {v2 : Int32} {v3 : Int32} {v4 : Int32} {M : Mem} {q : Int32 → Mem → Prop} (hw : w_X12_plain v1 v2 v3 v4 M q) : CtI g l yX12_plain cX12_plain 5 (some .int) 5 105 [.ref (g.2.2.2 + 135), .int v1, .int v2, .int v3, .int v4] M q := by
  refine n_introI (by decide +kernel) (Nat.le_of_ble_eq_true rfl) (fun c C r => ?_)
  have C : Cx c cX12_plain 5 RX12 g l (Rm 5 105) := C
  refine x_sub [0, 1, 2, 3, 4] (lv' := [(0, .ref (g.2.2.2 + 135)), (1, .int v1), (2, .int v2), (3, .int v3), (4, .int v4)]) rfl ?_
  unfold w_X12_plain at hw
  refine x_aload_n C dX12_plain_0 rfl rfl ?_
  refine x_iload_n C dX12_plain_1 rfl rfl ?_
  refine x_iload_n C dX12_plain_2 rfl rfl ?_
  refine x_iload_n C dX12_plain_3 rfl rfl ?_
  refine n_callVI s135 rfl C (ok_X12_isThere  hw) mv_X12_152 rfl rfl ⟨Nat.le_of_ble_eq_true rfl, Nat.le_of_ble_eq_true rfl⟩ (Nat.le_of_ble_eq_true rfl) dX12_plain_4 (fun r2 M1 hw => ?_)
  refine x_if_eq (tgt := 23) C dX12_plain_7 (by decide) (fun h3 => ?_) (fun h3 => ?_)
  · replace hw := hw.1 h3
    refine x_bipush (v := (-2 : Int32)) C dX12_plain_23 (by decide) ?_
    exact n_ireturn C r dX12_plain_25 hw
  · replace hw := hw.2 h3
    refine x_iload C dX12_plain_10 rfl ?_
    refine x_i2l C dX12_plain_12 ?_
    refine x_lconst (v := (0 : Int64)) C dX12_plain_13 (by decide) ?_
    refine x_ldc2_w (v := (5 : Int64)) C dX12_plain_14 kc_X12_165 ?_
    refine n_callSI C (ok_X12_in  hw) ms_X12_70 rfl rfl ⟨Nat.le_of_ble_eq_true rfl, Nat.le_of_ble_eq_true rfl⟩ (Nat.le_of_ble_eq_true rfl) dX12_plain_17 (fun r5 M4 hw => ?_)
    refine x_if_ne (tgt := 26) C dX12_plain_20 (by decide) (fun h6 => ?_) (fun h6 => ?_)
    · replace hw := hw.1 h6
      refine x_aload_n C dX12_plain_26 rfl rfl ?_
      refine x_aload_n C dX12_plain_27 rfl rfl ?_
      refine n_getS (dd := 1) C fl_X12_7 s135 (fun _ _ => rfl) rfl dX12_plain_28 ?_
      refine x_sipush (v := (1026 : Int32)) C dX12_plain_31 (by decide) ?_
      refine x_iconst (v := (2 : Int32)) C dX12_plain_34 (by decide) ?_
      refine x_iload_n C dX12_plain_35 rfl rfl ?_
      refine x_imul C dX12_plain_36 ?_
      refine x_iadd C dX12_plain_37 ?_
      obtain ⟨h7, hw⟩ := hw
      refine a_iald C s136 ln136 h7 dX12_plain_38 ?_
      refine x_aload_n C dX12_plain_39 rfl rfl ?_
      refine n_getS (dd := 1) C fl_X12_7 s135 (fun _ _ => rfl) rfl dX12_plain_40 ?_
      refine x_sipush (v := (1026 : Int32)) C dX12_plain_43 (by decide) ?_
      refine x_iconst (v := (2 : Int32)) C dX12_plain_46 (by decide) ?_
      refine x_iload_n C dX12_plain_47 rfl rfl ?_
      refine x_imul C dX12_plain_48 ?_
      refine x_iadd C dX12_plain_49 ?_
      refine x_iconst (v := (1 : Int32)) C dX12_plain_50 (by decide) ?_
      refine x_iadd C dX12_plain_51 ?_
      obtain ⟨h8, hw⟩ := hw
      refine a_iald C s136 ln136 h8 dX12_plain_52 ?_
      refine x_iload_n C dX12_plain_53 rfl rfl ?_
      refine x_iload_n C dX12_plain_54 rfl rfl ?_
      refine n_callVV s135 rfl C (ok_X12_goesPlain  hw) mv_X12_167 rfl rfl ⟨Nat.le_of_ble_eq_true rfl, Nat.le_of_ble_eq_true rfl⟩ (Nat.le_of_ble_eq_true rfl) dX12_plain_55 (fun M9 hw => ?_)
      refine x_aload_n C dX12_plain_58 rfl rfl ?_
      refine n_getS (dd := 9) C fl_X12_35 s135 (fun _ _ => rfl) rfl dX12_plain_59 ?_
      refine x_iload C dX12_plain_62 rfl ?_
      obtain ⟨h11, hw⟩ := hw
      refine a_iald C s144 ln144 h11 dX12_plain_64 ?_
      exact n_ireturn C r dX12_plain_65 hw
    · replace hw := hw.2 h6
      refine x_bipush (v := (-2 : Int32)) C dX12_plain_23 (by decide) ?_
      exact n_ireturn C r dX12_plain_25 hw

def w_X12_sortIn_b41 (v1 : Int32) (v2 : Int32) (M : Mem) (q : Mem → Prop) : Prop := vp_in v2 200 ∧ ∀ M2 : Mem, M2 = uI M 145 (v2).toNatClampNeg v1 → ∀ M3 : Mem, M3 = uI M2 135 12 ((M2.1 135 12) + (1 : Int32)) → q M3
set_option maxRecDepth 100000 in
set_option maxHeartbeats 4000000 in
theorem ok_X12_sortIn_b41 {c : CtxT} {g : Gl} {l : Launch} {v1 : Int32} {v2 : Int32} {q : Mem → Prop} {M : Mem} (C : Cx c cX12_sortIn 3 RX12 g l (Rm 1 0)) (r : Rt c (none) (pV q) 0 0) (hw : w_X12_sortIn_b41 v1 v2 M q ) : X c S0 41 [(0, .ref (g.2.2.2 + 135)), (1, .int v1), (2, .int v2)] [] (stat M) := by
  unfold w_X12_sortIn_b41 at hw
  refine x_aload_n C dX12_sortIn_41 rfl rfl ?_
  refine n_getS (dd := 10) C fl_X12_38 s135 (fun _ _ => rfl) rfl dX12_sortIn_42 ?_
  refine x_iload_n C dX12_sortIn_45 rfl rfl ?_
  refine x_iload_n C dX12_sortIn_46 rfl rfl ?_
  obtain ⟨h1, hw⟩ := hw
  obtain ⟨M2, eM2⟩ : ∃ z : Mem, z = uI M 145 (v2).toNatClampNeg v1 := ⟨_, rfl⟩
  replace hw := hw M2 eM2
  refine a_iast C s145 ln145 rfl h1 eM2 dX12_sortIn_47 ?_
  refine x_aload_n C dX12_sortIn_48 rfl rfl ?_
  refine x_dup C dX12_sortIn_49 rfl ?_
  refine n_getI C fl_X12_171 s135 (fun _ _ => rfl) dX12_sortIn_50 ?_
  refine x_iconst (v := (1 : Int32)) C dX12_sortIn_53 (by decide) ?_
  refine x_iadd C dX12_sortIn_54 ?_
  obtain ⟨M3, eM3⟩ : ∃ z : Mem, z = uI M2 135 12 ((M2.1 135 12) + (1 : Int32)) := ⟨_, rfl⟩
  replace hw := hw M3 eM3
  refine m_putI C fp_X12_171 s135 (fun _ _ => rfl) rfl rfl eM3 dX12_sortIn_55 ?_
  exact n_vreturn C r dX12_sortIn_58 hw
def w_X12_sortIn_l5F (v1 : Int32) (q : Mem → Prop) (P5 : Int32 × Mem → Prop) (s : Int32 × Mem) : Prop := match s with
  | (v2, M) => ((v2 ≤ 0 → w_X12_sortIn_b41 v1 v2 M q) ∧ (¬ v2 ≤ 0 → vp_in (v2 - (1 : Int32)) 200 ∧ (((M.1 145 ((v2 - (1 : Int32))).toNatClampNeg) ≤ v1 → w_X12_sortIn_b41 v1 v2 M q) ∧ (¬ (M.1 145 ((v2 - (1 : Int32))).toNatClampNeg) ≤ v1 → vp_in (v2 - (1 : Int32)) 200 ∧ vp_in v2 200 ∧ ∀ M9 : Mem, M9 = uI M 145 (v2).toNatClampNeg (M.1 145 ((v2 - (1 : Int32))).toNatClampNeg) → ∀ x10 : Int32, x10 = v2 + (-1 : Int32) → P5 (x10, M9)))))
def w_X12_sortIn_l5 (v1 : Int32) (q : Mem → Prop) (s : Int32 × Mem) : Prop := lfp (w_X12_sortIn_l5F v1 q ) s
set_option maxRecDepth 100000 in
set_option maxHeartbeats 4000000 in
theorem ok_X12_sortIn_l5 {c : CtxT} {g : Gl} {l : Launch} {v1 : Int32} {q : Mem → Prop} {s : Int32 × Mem} (C : Cx c cX12_sortIn 3 RX12 g l (Rm 1 0)) (r : Rt c (none) (pV q) 0 0) (hw : w_X12_sortIn_l5 v1 q s) : X c S0 5 [(0, .ref (g.2.2.2 + 135)), (1, .int v1), (2, .int s.1)] [] (stat s.2) := hw (fun s => X c S0 5 [(0, .ref (g.2.2.2 + 135)), (1, .int v1), (2, .int s.1)] [] (stat s.2)) (fun s hw => by
    obtain ⟨v2, M⟩ := s
    try dsimp only [w_X12_sortIn_l5F] at hw
    try dsimp only
    refine x_iload_n C dX12_sortIn_5 rfl rfl ?_
    refine x_if_le (tgt := 41) C dX12_sortIn_6 (by decide) (fun h4 => ?_) (fun h4 => ?_)
    · replace hw := hw.1 h4
      exact x_sub [0, 1, 2] rfl (ok_X12_sortIn_b41 C r  hw)
    · replace hw := hw.2 h4
      refine x_aload_n C dX12_sortIn_9 rfl rfl ?_
      refine n_getS (dd := 10) C fl_X12_38 s135 (fun _ _ => rfl) rfl dX12_sortIn_10 ?_
      refine x_iload_n C dX12_sortIn_13 rfl rfl ?_
      refine x_iconst (v := (1 : Int32)) C dX12_sortIn_14 (by decide) ?_
      refine x_isub C dX12_sortIn_15 ?_
      obtain ⟨h5, hw⟩ := hw
      refine a_iald C s145 ln145 h5 dX12_sortIn_16 ?_
      refine x_iload_n C dX12_sortIn_17 rfl rfl ?_
      refine x_icmp_le (tgt := 41) C dX12_sortIn_18 (by decide) (fun h6 => ?_) (fun h6 => ?_)
      · replace hw := hw.1 h6
        exact x_sub [0, 1, 2] rfl (ok_X12_sortIn_b41 C r  hw)
      · replace hw := hw.2 h6
        refine x_aload_n C dX12_sortIn_21 rfl rfl ?_
        refine n_getS (dd := 10) C fl_X12_38 s135 (fun _ _ => rfl) rfl dX12_sortIn_22 ?_
        refine x_iload_n C dX12_sortIn_25 rfl rfl ?_
        refine x_aload_n C dX12_sortIn_26 rfl rfl ?_
        refine n_getS (dd := 10) C fl_X12_38 s135 (fun _ _ => rfl) rfl dX12_sortIn_27 ?_
        refine x_iload_n C dX12_sortIn_30 rfl rfl ?_
        refine x_iconst (v := (1 : Int32)) C dX12_sortIn_31 (by decide) ?_
        refine x_isub C dX12_sortIn_32 ?_
        obtain ⟨h7, hw⟩ := hw
        refine a_iald C s145 ln145 h7 dX12_sortIn_33 ?_
        obtain ⟨h8, hw⟩ := hw
        obtain ⟨M9, eM9⟩ : ∃ z : Mem, z = uI M 145 (v2).toNatClampNeg (M.1 145 ((v2 - (1 : Int32))).toNatClampNeg) := ⟨_, rfl⟩
        replace hw := hw M9 eM9
        refine a_iast C s145 ln145 rfl h8 eM9 dX12_sortIn_34 ?_
        obtain ⟨x10, ex10⟩ : ∃ z : Int32, z = v2 + (-1 : Int32) := ⟨_, rfl⟩
        replace hw := hw x10 ex10
        refine x_iinc (v := x10) C dX12_sortIn_35 rfl ex10.symm (Nat.le_of_ble_eq_true rfl) ?_
        refine x_goto (tgt := 5) C dX12_sortIn_38 (by decide) ?_
        exact x_sub [0, 1, 2] rfl hw)
def w_X12_sortIn (v1 : Int32) (M : Mem) (q : Mem → Prop) : Prop := ∀ x11 : Int32, x11 = (M.1 135 12) → w_X12_sortIn_l5 v1 q (x11, M)
set_option maxRecDepth 100000 in
set_option maxHeartbeats 4000000 in
theorem ok_X12_sortIn {g : Gl} {l : Launch} {v1 : Int32} {M : Mem} {q : Mem → Prop} (hw : w_X12_sortIn v1 M q) : CtV g l yX12_sortIn cX12_sortIn 3 none 1 0 [.ref (g.2.2.2 + 135), .int v1] M q := by
  refine n_introV (by decide +kernel) (Nat.le_of_ble_eq_true rfl) (fun c C r => ?_)
  have C : Cx c cX12_sortIn 3 RX12 g l (Rm 1 0) := C
  refine x_sub [0, 1] (lv' := [(0, .ref (g.2.2.2 + 135)), (1, .int v1)]) rfl ?_
  unfold w_X12_sortIn at hw
  refine x_aload_n C dX12_sortIn_0 rfl rfl ?_
  refine n_getI C fl_X12_171 s135 (fun _ _ => rfl) dX12_sortIn_1 ?_
  obtain ⟨x11, ex11⟩ : ∃ z : Int32, z = (M.1 135 12) := ⟨_, rfl⟩
  replace hw := hw x11 ex11
  refine x_topi ex11 ?_
  refine x_istore_n C dX12_sortIn_4 rfl (Nat.le_of_ble_eq_true rfl) ?_
  exact x_sub [0, 1, 2] rfl (ok_X12_sortIn_l5 C r  hw)

def w_X12_middle (M : Mem) (q : Int32 → Mem → Prop) : Prop := ∀ x1 : Int32, x1 = ((M.1 135 12) / (2 : Int32)) → ((¬ (irm (M.1 135 12) (2 : Int32)) = (1 : Int32) → vp_in (x1 - (1 : Int32)) 200 ∧ vp_in x1 200 ∧ q (((M.1 145 ((x1 - (1 : Int32))).toNatClampNeg) + (M.1 145 (x1).toNatClampNeg)) / (2 : Int32)) M) ∧ ((irm (M.1 135 12) (2 : Int32)) = (1 : Int32) → vp_in x1 200 ∧ q (M.1 145 (x1).toNatClampNeg) M))
set_option maxRecDepth 100000 in
set_option maxHeartbeats 4000000 in
theorem ok_X12_middle {g : Gl} {l : Launch} {M : Mem} {q : Int32 → Mem → Prop} (hw : w_X12_middle M q) : CtI g l yX12_middle cX12_middle 2 (some .int) 1 0 [.ref (g.2.2.2 + 135)] M q := by
  refine n_introI (by decide +kernel) (Nat.le_of_ble_eq_true rfl) (fun c C r => ?_)
  have C : Cx c cX12_middle 2 RX12 g l (Rm 1 0) := C
  refine x_sub [0] (lv' := [(0, .ref (g.2.2.2 + 135))]) rfl ?_
  unfold w_X12_middle at hw
  refine x_aload_n C dX12_middle_0 rfl rfl ?_
  refine n_getI C fl_X12_171 s135 (fun _ _ => rfl) dX12_middle_1 ?_
  refine x_iconst (v := (2 : Int32)) C dX12_middle_4 (by decide) ?_
  refine x_idiv C dX12_middle_5 (by decide) ?_
  obtain ⟨x1, ex1⟩ : ∃ z : Int32, z = ((M.1 135 12) / (2 : Int32)) := ⟨_, rfl⟩
  replace hw := hw x1 ex1
  refine x_topi ex1 ?_
  refine x_istore_n C dX12_middle_6 rfl (Nat.le_of_ble_eq_true rfl) ?_
  refine x_aload_n C dX12_middle_7 rfl rfl ?_
  refine n_getI C fl_X12_171 s135 (fun _ _ => rfl) dX12_middle_8 ?_
  refine x_iconst (v := (2 : Int32)) C dX12_middle_11 (by decide) ?_
  refine x_iremv C dX12_middle_12 (by decide) ?_
  refine x_iconst (v := (1 : Int32)) C dX12_middle_13 (by decide) ?_
  refine x_icmp_ne (tgt := 26) C dX12_middle_14 (by decide) (fun h2 => ?_) (fun h2 => ?_)
  · replace hw := hw.1 h2
    refine x_aload_n C dX12_middle_26 rfl rfl ?_
    refine n_getS (dd := 10) C fl_X12_38 s135 (fun _ _ => rfl) rfl dX12_middle_27 ?_
    refine x_iload_n C dX12_middle_30 rfl rfl ?_
    refine x_iconst (v := (1 : Int32)) C dX12_middle_31 (by decide) ?_
    refine x_isub C dX12_middle_32 ?_
    obtain ⟨h3, hw⟩ := hw
    refine a_iald C s145 ln145 h3 dX12_middle_33 ?_
    refine x_aload_n C dX12_middle_34 rfl rfl ?_
    refine n_getS (dd := 10) C fl_X12_38 s135 (fun _ _ => rfl) rfl dX12_middle_35 ?_
    refine x_iload_n C dX12_middle_38 rfl rfl ?_
    obtain ⟨h4, hw⟩ := hw
    refine a_iald C s145 ln145 h4 dX12_middle_39 ?_
    refine x_iadd C dX12_middle_40 ?_
    refine x_iconst (v := (2 : Int32)) C dX12_middle_41 (by decide) ?_
    refine x_idiv C dX12_middle_42 (by decide) ?_
    exact n_ireturn C r dX12_middle_43 hw
  · replace hw := hw.2 h2
    refine x_aload_n C dX12_middle_17 rfl rfl ?_
    refine n_getS (dd := 10) C fl_X12_38 s135 (fun _ _ => rfl) rfl dX12_middle_18 ?_
    refine x_iload_n C dX12_middle_21 rfl rfl ?_
    obtain ⟨h5, hw⟩ := hw
    refine a_iald C s145 ln145 h5 dX12_middle_22 ?_
    refine x_goto (tgt := 43) C dX12_middle_23 (by decide) ?_
    exact n_ireturn C r dX12_middle_43 hw

def w_X12_sortRuns_b104 (v1 : Int32) (v2 : Int32) (v3 : Int32) (v4 : Int32) (v5 : Int32) (M : Mem) (q : Mem → Prop) (P8 : Int32 × Mem → Prop) : Prop := ∀ x1 : Int32, x1 = v5 + (1 : Int32) → P8 (x1, M)
set_option maxRecDepth 100000 in
set_option maxHeartbeats 4000000 in
theorem ok_X12_sortRuns_b104 {c : CtxT} {g : Gl} {l : Launch} {v1 : Int32} {v2 : Int32} {v3 : Int32} {v4 : Int32} {v5 : Int32} {q : Mem → Prop} {P8 : Int32 × Mem → Prop} {M : Mem} (C : Cx c cX12_sortRuns 7 RX12 g l (Rm 2 22)) (r : Rt c (none) (pV q) 0 0) (hP8 : ∀ (v5 : Int32) (M : Mem), P8 (v5, M) → X c S0 8 [(0, .ref (g.2.2.2 + 135)), (1, .int v1), (2, .int v2), (3, .int v3), (4, .int v4), (5, .int v5)] [] (stat M)) (hw : w_X12_sortRuns_b104 v1 v2 v3 v4 v5 M q P8) : X c S0 104 [(0, .ref (g.2.2.2 + 135)), (1, .int v1), (2, .int v2), (3, .int v3), (4, .int v4), (5, .int v5)] [] (stat M) := by
  unfold w_X12_sortRuns_b104 at hw
  obtain ⟨x1, ex1⟩ : ∃ z : Int32, z = v5 + (1 : Int32) := ⟨_, rfl⟩
  replace hw := hw x1 ex1
  refine x_iinc (v := x1) C dX12_sortRuns_104 rfl ex1.symm (Nat.le_of_ble_eq_true rfl) ?_
  refine x_goto (tgt := 8) C dX12_sortRuns_107 (by decide) ?_
  exact x_sub [0, 1, 2, 3, 4, 5] rfl (hP8 _ _ hw)
def w_X12_sortRuns_l8F (v1 : Int32) (v2 : Int32) (v3 : Int32) (v4 : Int32) (q : Mem → Prop) (P8 : Int32 × Mem → Prop) (s : Int32 × Mem) : Prop := match s with
  | (v5, M) => w_X12_many (4 : Int32) M (fun (r3 : Int32) (M2 : Mem) => ((r3 ≤ v5 → q M2) ∧ (¬ r3 ≤ v5 → ((v4 ≤ v5 → q M2) ∧ (¬ v4 ≤ v5 → ∀ x6 : Int32, x6 = ((1346 : Int32) + ((14 : Int32) * v5)) → vp_in (x6 + (6 : Int32)) 4230 ∧ ((¬ (M2.1 136 ((x6 + (6 : Int32))).toNatClampNeg) = 0 → w_X12_sortRuns_b104 v1 v2 v3 v4 v5 M2 q P8) ∧ ((M2.1 136 ((x6 + (6 : Int32))).toNatClampNeg) = 0 → vp_in (x6 + (7 : Int32)) 4230 ∧ ((¬ (M2.1 136 ((x6 + (7 : Int32))).toNatClampNeg) = v1 → w_X12_sortRuns_b104 v1 v2 v3 v4 v5 M2 q P8) ∧ ((M2.1 136 ((x6 + (7 : Int32))).toNatClampNeg) = v1 → vp_in (x6 + (8 : Int32)) 4230 ∧ ((¬ (M2.1 136 ((x6 + (8 : Int32))).toNatClampNeg) = v2 → w_X12_sortRuns_b104 v1 v2 v3 v4 v5 M2 q P8) ∧ ((M2.1 136 ((x6 + (8 : Int32))).toNatClampNeg) = v2 → vp_in (x6 + (9 : Int32)) 4230 ∧ ((¬ (M2.1 136 ((x6 + (9 : Int32))).toNatClampNeg) = v3 → w_X12_sortRuns_b104 v1 v2 v3 v4 v5 M2 q P8) ∧ ((M2.1 136 ((x6 + (9 : Int32))).toNatClampNeg) = v3 → vp_in (x6 + (5 : Int32)) 4230 ∧ w_X12_sortIn (M2.1 136 ((x6 + (5 : Int32))).toNatClampNeg) M2 (fun (M16 : Mem) => w_X12_sortRuns_b104 v1 v2 v3 v4 v5 M16 q P8))))))))))))))
def w_X12_sortRuns_l8 (v1 : Int32) (v2 : Int32) (v3 : Int32) (v4 : Int32) (q : Mem → Prop) (s : Int32 × Mem) : Prop := lfp (w_X12_sortRuns_l8F v1 v2 v3 v4 q ) s
set_option maxRecDepth 100000 in
set_option maxHeartbeats 4000000 in
theorem ok_X12_sortRuns_l8 {c : CtxT} {g : Gl} {l : Launch} {v1 : Int32} {v2 : Int32} {v3 : Int32} {v4 : Int32} {q : Mem → Prop} {s : Int32 × Mem} (C : Cx c cX12_sortRuns 7 RX12 g l (Rm 2 22)) (r : Rt c (none) (pV q) 0 0) (hw : w_X12_sortRuns_l8 v1 v2 v3 v4 q s) : X c S0 8 [(0, .ref (g.2.2.2 + 135)), (1, .int v1), (2, .int v2), (3, .int v3), (4, .int v4), (5, .int s.1)] [] (stat s.2) := hw (fun s => X c S0 8 [(0, .ref (g.2.2.2 + 135)), (1, .int v1), (2, .int v2), (3, .int v3), (4, .int v4), (5, .int s.1)] [] (stat s.2)) (fun s hw => by
    obtain ⟨v5, M⟩ := s
    try dsimp only [w_X12_sortRuns_l8F] at hw
    try dsimp only
    refine x_iload C dX12_sortRuns_8 rfl ?_
    refine x_aload_n C dX12_sortRuns_10 rfl rfl ?_
    refine x_iconst (v := (4 : Int32)) C dX12_sortRuns_11 (by decide) ?_
    refine n_callVI s135 rfl C (ok_X12_many  hw) mv_X12_66 rfl rfl ⟨Nat.le_of_ble_eq_true rfl, Nat.le_of_ble_eq_true rfl⟩ (Nat.le_of_ble_eq_true rfl) dX12_sortRuns_12 (fun r3 M2 hw => ?_)
    refine x_icmp_ge (tgt := 110) C dX12_sortRuns_15 (by decide) (fun h4 => ?_) (fun h4 => ?_)
    · replace hw := hw.1 h4
      exact n_vreturn C r dX12_sortRuns_110 hw
    · replace hw := hw.2 h4
      refine x_iload C dX12_sortRuns_18 rfl ?_
      refine x_iload C dX12_sortRuns_20 rfl ?_
      refine x_icmp_ge (tgt := 110) C dX12_sortRuns_22 (by decide) (fun h5 => ?_) (fun h5 => ?_)
      · replace hw := hw.1 h5
        exact n_vreturn C r dX12_sortRuns_110 hw
      · replace hw := hw.2 h5
        refine x_sipush (v := (1346 : Int32)) C dX12_sortRuns_25 (by decide) ?_
        refine x_bipush (v := (14 : Int32)) C dX12_sortRuns_28 (by decide) ?_
        refine x_iload C dX12_sortRuns_30 rfl ?_
        refine x_imul C dX12_sortRuns_32 ?_
        refine x_iadd C dX12_sortRuns_33 ?_
        obtain ⟨x6, ex6⟩ : ∃ z : Int32, z = ((1346 : Int32) + ((14 : Int32) * v5)) := ⟨_, rfl⟩
        replace hw := hw x6 ex6
        refine x_topi ex6 ?_
        refine x_istore C dX12_sortRuns_34 (Nat.le_of_ble_eq_true rfl) ?_
        refine x_aload_n C dX12_sortRuns_36 rfl rfl ?_
        refine n_getS (dd := 1) C fl_X12_7 s135 (fun _ _ => rfl) rfl dX12_sortRuns_37 ?_
        refine x_iload C dX12_sortRuns_40 rfl ?_
        refine x_bipush (v := (6 : Int32)) C dX12_sortRuns_42 (by decide) ?_
        refine x_iadd C dX12_sortRuns_44 ?_
        obtain ⟨h7, hw⟩ := hw
        refine a_iald C s136 ln136 h7 dX12_sortRuns_45 ?_
        refine x_if_ne (tgt := 104) C dX12_sortRuns_46 (by decide) (fun h8 => ?_) (fun h8 => ?_)
        · replace hw := hw.1 h8
          exact x_sub [0, 1, 2, 3, 4, 5] rfl (ok_X12_sortRuns_b104 C r (fun _ _ h => h) hw)
        · replace hw := hw.2 h8
          refine x_aload_n C dX12_sortRuns_49 rfl rfl ?_
          refine n_getS (dd := 1) C fl_X12_7 s135 (fun _ _ => rfl) rfl dX12_sortRuns_50 ?_
          refine x_iload C dX12_sortRuns_53 rfl ?_
          refine x_bipush (v := (7 : Int32)) C dX12_sortRuns_55 (by decide) ?_
          refine x_iadd C dX12_sortRuns_57 ?_
          obtain ⟨h9, hw⟩ := hw
          refine a_iald C s136 ln136 h9 dX12_sortRuns_58 ?_
          refine x_iload_n C dX12_sortRuns_59 rfl rfl ?_
          refine x_icmp_ne (tgt := 104) C dX12_sortRuns_60 (by decide) (fun h10 => ?_) (fun h10 => ?_)
          · replace hw := hw.1 h10
            exact x_sub [0, 1, 2, 3, 4, 5] rfl (ok_X12_sortRuns_b104 C r (fun _ _ h => h) hw)
          · replace hw := hw.2 h10
            refine x_aload_n C dX12_sortRuns_63 rfl rfl ?_
            refine n_getS (dd := 1) C fl_X12_7 s135 (fun _ _ => rfl) rfl dX12_sortRuns_64 ?_
            refine x_iload C dX12_sortRuns_67 rfl ?_
            refine x_bipush (v := (8 : Int32)) C dX12_sortRuns_69 (by decide) ?_
            refine x_iadd C dX12_sortRuns_71 ?_
            obtain ⟨h11, hw⟩ := hw
            refine a_iald C s136 ln136 h11 dX12_sortRuns_72 ?_
            refine x_iload_n C dX12_sortRuns_73 rfl rfl ?_
            refine x_icmp_ne (tgt := 104) C dX12_sortRuns_74 (by decide) (fun h12 => ?_) (fun h12 => ?_)
            · replace hw := hw.1 h12
              exact x_sub [0, 1, 2, 3, 4, 5] rfl (ok_X12_sortRuns_b104 C r (fun _ _ h => h) hw)
            · replace hw := hw.2 h12
              refine x_aload_n C dX12_sortRuns_77 rfl rfl ?_
              refine n_getS (dd := 1) C fl_X12_7 s135 (fun _ _ => rfl) rfl dX12_sortRuns_78 ?_
              refine x_iload C dX12_sortRuns_81 rfl ?_
              refine x_bipush (v := (9 : Int32)) C dX12_sortRuns_83 (by decide) ?_
              refine x_iadd C dX12_sortRuns_85 ?_
              obtain ⟨h13, hw⟩ := hw
              refine a_iald C s136 ln136 h13 dX12_sortRuns_86 ?_
              refine x_iload_n C dX12_sortRuns_87 rfl rfl ?_
              refine x_icmp_ne (tgt := 104) C dX12_sortRuns_88 (by decide) (fun h14 => ?_) (fun h14 => ?_)
              · replace hw := hw.1 h14
                exact x_sub [0, 1, 2, 3, 4, 5] rfl (ok_X12_sortRuns_b104 C r (fun _ _ h => h) hw)
              · replace hw := hw.2 h14
                refine x_aload_n C dX12_sortRuns_91 rfl rfl ?_
                refine x_aload_n C dX12_sortRuns_92 rfl rfl ?_
                refine n_getS (dd := 1) C fl_X12_7 s135 (fun _ _ => rfl) rfl dX12_sortRuns_93 ?_
                refine x_iload C dX12_sortRuns_96 rfl ?_
                refine x_iconst (v := (5 : Int32)) C dX12_sortRuns_98 (by decide) ?_
                refine x_iadd C dX12_sortRuns_99 ?_
                obtain ⟨h15, hw⟩ := hw
                refine a_iald C s136 ln136 h15 dX12_sortRuns_100 ?_
                refine n_callVV s135 rfl C (ok_X12_sortIn  hw) mv_X12_174 rfl rfl ⟨Nat.le_of_ble_eq_true rfl, Nat.le_of_ble_eq_true rfl⟩ (Nat.le_of_ble_eq_true rfl) dX12_sortRuns_101 (fun M16 hw => ?_)
                exact x_sub [0, 1, 2, 3, 4, 5] rfl (ok_X12_sortRuns_b104 C r (fun _ _ h => h) hw))
def w_X12_sortRuns (v1 : Int32) (v2 : Int32) (v3 : Int32) (v4 : Int32) (M : Mem) (q : Mem → Prop) : Prop := ∀ M18 : Mem, M18 = uI M 135 12 (0 : Int32) → w_X12_sortRuns_l8 v1 v2 v3 v4 q ((0 : Int32), M18)
set_option maxRecDepth 100000 in
set_option maxHeartbeats 4000000 in
theorem ok_X12_sortRuns {g : Gl} {l : Launch} {v1 : Int32} {v2 : Int32} {v3 : Int32} {v4 : Int32} {M : Mem} {q : Mem → Prop} (hw : w_X12_sortRuns v1 v2 v3 v4 M q) : CtV g l yX12_sortRuns cX12_sortRuns 7 none 2 22 [.ref (g.2.2.2 + 135), .int v1, .int v2, .int v3, .int v4] M q := by
  refine n_introV (by decide +kernel) (Nat.le_of_ble_eq_true rfl) (fun c C r => ?_)
  have C : Cx c cX12_sortRuns 7 RX12 g l (Rm 2 22) := C
  refine x_sub [0, 1, 2, 3, 4] (lv' := [(0, .ref (g.2.2.2 + 135)), (1, .int v1), (2, .int v2), (3, .int v3), (4, .int v4)]) rfl ?_
  unfold w_X12_sortRuns at hw
  refine x_aload_n C dX12_sortRuns_0 rfl rfl ?_
  refine x_iconst (v := (0 : Int32)) C dX12_sortRuns_1 (by decide) ?_
  obtain ⟨M18, eM18⟩ : ∃ z : Mem, z = uI M 135 12 (0 : Int32) := ⟨_, rfl⟩
  replace hw := hw M18 eM18
  refine m_putI C fp_X12_171 s135 (fun _ _ => rfl) rfl rfl eM18 dX12_sortRuns_2 ?_
  refine x_iconst (v := (0 : Int32)) C dX12_sortRuns_5 (by decide) ?_
  refine x_istore C dX12_sortRuns_6 (Nat.le_of_ble_eq_true rfl) ?_
  exact x_sub [0, 1, 2, 3, 4, 5] rfl (ok_X12_sortRuns_l8 C r  hw)

def w_X12_figure (v1 : Int32) (v2 : Int32) (v3 : Int32) (v4 : Int32) (v5 : Int32) (M : Mem) (q : Int32 → Mem → Prop) : Prop := w_X12_isThere v1 v2 v3 M (fun (r2 : Int32) (M1 : Mem) => ((r2 = 0 → q (-2 : Int32) M1) ∧ (¬ r2 = 0 → w_X12_in (v4).toInt64 (0 : Int64) (200 : Int64) M1 (fun (r5 : Int32) (M4 : Mem) => ((r5 = 0 → q (-2 : Int32) M4) ∧ (¬ r5 = 0 → w_X12_in (v5).toInt64 (0 : Int64) (3 : Int64) M4 (fun (r8 : Int32) (M7 : Mem) => ((¬ r8 = 0 → w_X12_sortRuns v1 v2 v3 v4 M7 (fun (M10 : Mem) => ((¬ v5 = 0 → ((¬ (M10.1 135 12) = 0 → ((¬ v5 = (1 : Int32) → ((¬ v5 = (2 : Int32) → w_X12_middle  M10 (fun (r17 : Int32) (M16 : Mem) => q r17 M16)) ∧ (v5 = (2 : Int32) → vp_in ((M10.1 135 12) - (1 : Int32)) 200 ∧ q (M10.1 145 (((M10.1 135 12) - (1 : Int32))).toNatClampNeg) M10))) ∧ (v5 = (1 : Int32) → q (M10.1 145 0) M10))) ∧ ((M10.1 135 12) = 0 → q (-1 : Int32) M10))) ∧ (v5 = 0 → q (M10.1 135 12) M10)))) ∧ (r8 = 0 → q (-2 : Int32) M7)))))))))
set_option maxRecDepth 100000 in
set_option maxHeartbeats 4000000 in
theorem ok_X12_figure {g : Gl} {l : Launch} {v1 : Int32} {v2 : Int32} {v3 : Int32} {v4 : Int32} {v5 : Int32} {M : Mem} {q : Int32 → Mem → Prop} (hw : w_X12_figure v1 v2 v3 v4 v5 M q) : CtI g l yX12_figure cX12_figure 6 (some .int) 4 70 [.ref (g.2.2.2 + 135), .int v1, .int v2, .int v3, .int v4, .int v5] M q := by
  refine n_introI (by decide +kernel) (Nat.le_of_ble_eq_true rfl) (fun c C r => ?_)
  have C : Cx c cX12_figure 6 RX12 g l (Rm 4 70) := C
  refine x_sub [0, 1, 2, 3, 4, 5] (lv' := [(0, .ref (g.2.2.2 + 135)), (1, .int v1), (2, .int v2), (3, .int v3), (4, .int v4), (5, .int v5)]) rfl ?_
  unfold w_X12_figure at hw
  refine x_aload_n C dX12_figure_0 rfl rfl ?_
  refine x_iload_n C dX12_figure_1 rfl rfl ?_
  refine x_iload_n C dX12_figure_2 rfl rfl ?_
  refine x_iload_n C dX12_figure_3 rfl rfl ?_
  refine n_callVI s135 rfl C (ok_X12_isThere  hw) mv_X12_152 rfl rfl ⟨Nat.le_of_ble_eq_true rfl, Nat.le_of_ble_eq_true rfl⟩ (Nat.le_of_ble_eq_true rfl) dX12_figure_4 (fun r2 M1 hw => ?_)
  refine x_if_eq (tgt := 36) C dX12_figure_7 (by decide) (fun h3 => ?_) (fun h3 => ?_)
  · replace hw := hw.1 h3
    refine x_bipush (v := (-2 : Int32)) C dX12_figure_36 (by decide) ?_
    exact n_ireturn C r dX12_figure_38 hw
  · replace hw := hw.2 h3
    refine x_iload C dX12_figure_10 rfl ?_
    refine x_i2l C dX12_figure_12 ?_
    refine x_lconst (v := (0 : Int64)) C dX12_figure_13 (by decide) ?_
    refine x_ldc2_w (v := (200 : Int64)) C dX12_figure_14 kc_X12_109 ?_
    refine n_callSI C (ok_X12_in  hw) ms_X12_70 rfl rfl ⟨Nat.le_of_ble_eq_true rfl, Nat.le_of_ble_eq_true rfl⟩ (Nat.le_of_ble_eq_true rfl) dX12_figure_17 (fun r5 M4 hw => ?_)
    refine x_if_eq (tgt := 36) C dX12_figure_20 (by decide) (fun h6 => ?_) (fun h6 => ?_)
    · replace hw := hw.1 h6
      refine x_bipush (v := (-2 : Int32)) C dX12_figure_36 (by decide) ?_
      exact n_ireturn C r dX12_figure_38 hw
    · replace hw := hw.2 h6
      refine x_iload C dX12_figure_23 rfl ?_
      refine x_i2l C dX12_figure_25 ?_
      refine x_lconst (v := (0 : Int64)) C dX12_figure_26 (by decide) ?_
      refine x_ldc2_w (v := (3 : Int64)) C dX12_figure_27 kc_X12_74 ?_
      refine n_callSI C (ok_X12_in  hw) ms_X12_70 rfl rfl ⟨Nat.le_of_ble_eq_true rfl, Nat.le_of_ble_eq_true rfl⟩ (Nat.le_of_ble_eq_true rfl) dX12_figure_30 (fun r8 M7 hw => ?_)
      refine x_if_ne (tgt := 39) C dX12_figure_33 (by decide) (fun h9 => ?_) (fun h9 => ?_)
      · replace hw := hw.1 h9
        refine x_aload_n C dX12_figure_39 rfl rfl ?_
        refine x_iload_n C dX12_figure_40 rfl rfl ?_
        refine x_iload_n C dX12_figure_41 rfl rfl ?_
        refine x_iload_n C dX12_figure_42 rfl rfl ?_
        refine x_iload C dX12_figure_43 rfl ?_
        refine n_callVV s135 rfl C (ok_X12_sortRuns  hw) mv_X12_178 rfl rfl ⟨Nat.le_of_ble_eq_true rfl, Nat.le_of_ble_eq_true rfl⟩ (Nat.le_of_ble_eq_true rfl) dX12_figure_45 (fun M10 hw => ?_)
        refine x_iload C dX12_figure_48 rfl ?_
        refine x_if_ne (tgt := 58) C dX12_figure_50 (by decide) (fun h12 => ?_) (fun h12 => ?_)
        · replace hw := hw.1 h12
          refine x_aload_n C dX12_figure_58 rfl rfl ?_
          refine n_getI C fl_X12_171 s135 (fun _ _ => rfl) dX12_figure_59 ?_
          refine x_if_ne (tgt := 69) C dX12_figure_62 (by decide) (fun h13 => ?_) (fun h13 => ?_)
          · replace hw := hw.1 h13
            refine x_iload C dX12_figure_69 rfl ?_
            refine x_iconst (v := (1 : Int32)) C dX12_figure_71 (by decide) ?_
            refine x_icmp_ne (tgt := 84) C dX12_figure_72 (by decide) (fun h14 => ?_) (fun h14 => ?_)
            · replace hw := hw.1 h14
              refine x_iload C dX12_figure_84 rfl ?_
              refine x_iconst (v := (2 : Int32)) C dX12_figure_86 (by decide) ?_
              refine x_icmp_ne (tgt := 104) C dX12_figure_87 (by decide) (fun h15 => ?_) (fun h15 => ?_)
              · replace hw := hw.1 h15
                refine x_aload_n C dX12_figure_104 rfl rfl ?_
                refine n_callVI s135 rfl C (ok_X12_middle  hw) mv_X12_181 rfl rfl ⟨Nat.le_of_ble_eq_true rfl, Nat.le_of_ble_eq_true rfl⟩ (Nat.le_of_ble_eq_true rfl) dX12_figure_105 (fun r17 M16 hw => ?_)
                exact n_ireturn C r dX12_figure_108 hw
              · replace hw := hw.2 h15
                refine x_aload_n C dX12_figure_90 rfl rfl ?_
                refine n_getS (dd := 10) C fl_X12_38 s135 (fun _ _ => rfl) rfl dX12_figure_91 ?_
                refine x_aload_n C dX12_figure_94 rfl rfl ?_
                refine n_getI C fl_X12_171 s135 (fun _ _ => rfl) dX12_figure_95 ?_
                refine x_iconst (v := (1 : Int32)) C dX12_figure_98 (by decide) ?_
                refine x_isub C dX12_figure_99 ?_
                obtain ⟨h18, hw⟩ := hw
                refine a_iald C s145 ln145 h18 dX12_figure_100 ?_
                refine x_goto (tgt := 108) C dX12_figure_101 (by decide) ?_
                exact n_ireturn C r dX12_figure_108 hw
            · replace hw := hw.2 h14
              refine x_aload_n C dX12_figure_75 rfl rfl ?_
              refine n_getS (dd := 10) C fl_X12_38 s135 (fun _ _ => rfl) rfl dX12_figure_76 ?_
              refine x_iconst (v := (0 : Int32)) C dX12_figure_79 (by decide) ?_
              refine a_ialdL (ni := 0) C s145 ln145 (by decide) (vin _ _ (by decide +kernel)) dX12_figure_80 ?_
              refine x_goto (tgt := 108) C dX12_figure_81 (by decide) ?_
              exact n_ireturn C r dX12_figure_108 hw
          · replace hw := hw.2 h13
            refine x_iconst (v := (-1 : Int32)) C dX12_figure_65 (by decide) ?_
            refine x_goto (tgt := 108) C dX12_figure_66 (by decide) ?_
            exact n_ireturn C r dX12_figure_108 hw
        · replace hw := hw.2 h12
          refine x_aload_n C dX12_figure_53 rfl rfl ?_
          refine n_getI C fl_X12_171 s135 (fun _ _ => rfl) dX12_figure_54 ?_
          exact n_ireturn C r dX12_figure_57 hw
      · replace hw := hw.2 h9
        refine x_bipush (v := (-2 : Int32)) C dX12_figure_36 (by decide) ?_
        exact n_ireturn C r dX12_figure_38 hw

def w_X12_pair_b210 (M : Mem) (q : Int32 → Mem → Prop) : Prop := w_X12_many (5 : Int32) M (fun (r2 : Int32) (M1 : Mem) => q r2 M1)
set_option maxRecDepth 100000 in
set_option maxHeartbeats 4000000 in
theorem ok_X12_pair_b210 {c : CtxT} {g : Gl} {l : Launch} {q : Int32 → Mem → Prop} {M : Mem} (C : Cx c cX12_pair 10 RX12 g l (Rm 6 138)) (r : Rt c (some .int) (pI q) 0 0) (hw : w_X12_pair_b210 M q ) : X c S0 210 [(0, .ref (g.2.2.2 + 135))] [] (stat M) := by
  unfold w_X12_pair_b210 at hw
  refine x_aload_n C dX12_pair_210 rfl rfl ?_
  refine x_iconst (v := (5 : Int32)) C dX12_pair_211 (by decide) ?_
  refine n_callVI s135 rfl C (ok_X12_many  hw) mv_X12_66 rfl rfl ⟨Nat.le_of_ble_eq_true rfl, Nat.le_of_ble_eq_true rfl⟩ (Nat.le_of_ble_eq_true rfl) dX12_pair_212 (fun r2 M1 hw => ?_)
  exact n_ireturn C r dX12_pair_215 hw
def w_X12_pair_b197 (t1 : Int32) (t2 : Int32) (M : Mem) (q : Int32 → Mem → Prop) : Prop := vp_in t1 4230 ∧ ∀ M4 : Mem, M4 = uI M 136 (t1).toNatClampNeg t2 → ∀ M5 : Mem, M5 = uI M4 136 4215 ((M4.1 136 4215) + (1 : Int32)) → w_X12_pair_b210 M5 q
set_option maxRecDepth 100000 in
set_option maxHeartbeats 4000000 in
theorem ok_X12_pair_b197 {c : CtxT} {g : Gl} {l : Launch} {t1 : Int32} {t2 : Int32} {q : Int32 → Mem → Prop} {M : Mem} (C : Cx c cX12_pair 10 RX12 g l (Rm 6 138)) (r : Rt c (some .int) (pI q) 0 0) (hw : w_X12_pair_b197 t1 t2 M q ) : X c S0 197 [(0, .ref (g.2.2.2 + 135))] [.int t2, .int t1, .ref (g.2.2.2 + 136)] (stat M) := by
  unfold w_X12_pair_b197 at hw
  obtain ⟨h3, hw⟩ := hw
  obtain ⟨M4, eM4⟩ : ∃ z : Mem, z = uI M 136 (t1).toNatClampNeg t2 := ⟨_, rfl⟩
  replace hw := hw M4 eM4
  refine a_iast C s136 ln136 rfl h3 eM4 dX12_pair_197 ?_
  refine x_aload_n C dX12_pair_198 rfl rfl ?_
  refine n_getS (dd := 1) C fl_X12_7 s135 (fun _ _ => rfl) rfl dX12_pair_199 ?_
  refine x_sipush (v := (4215 : Int32)) C dX12_pair_202 (by decide) ?_
  refine x_dup2_11 C dX12_pair_205 rfl rfl ?_
  refine a_ialdL (ni := 4215) C s136 ln136 (by decide) (vin _ _ (by decide +kernel)) dX12_pair_206 ?_
  refine x_iconst (v := (1 : Int32)) C dX12_pair_207 (by decide) ?_
  refine x_iadd C dX12_pair_208 ?_
  obtain ⟨M5, eM5⟩ : ∃ z : Mem, z = uI M4 136 4215 ((M4.1 136 4215) + (1 : Int32)) := ⟨_, rfl⟩
  replace hw := hw M5 eM5
  refine a_iast C s136 ln136 (by decide) (vin _ _ (by decide +kernel)) eM5 dX12_pair_209 ?_
  exact x_sub [0] rfl (ok_X12_pair_b210 C r  hw)
def w_X12_pair_b96 (v3 : Int32) (v4 : Int32) (v5 : Int32) (v6 : Int32) (v7 : Int32) (t1 : Int32) (M : Mem) (q : Int32 → Mem → Prop) : Prop := w_X12_keepRun t1 v3 v4 v5 v6 (1 : Int32) M (fun (M6 : Mem) => w_X12_many (4 : Int32) M6 (fun (r9 : Int32) (M8 : Mem) => ∀ x10 : Int32, x10 = ((1346 : Int32) + ((14 : Int32) * (r9 - (2 : Int32)))) → vp_in (x10 + (6 : Int32)) 4230 ∧ ((¬ (M8.1 136 ((x10 + (6 : Int32))).toNatClampNeg) = 0 → w_X12_pair_b210 M8 q) ∧ ((M8.1 136 ((x10 + (6 : Int32))).toNatClampNeg) = 0 → vp_in (x10 + (20 : Int32)) 4230 ∧ ((¬ (M8.1 136 ((x10 + (20 : Int32))).toNatClampNeg) = 0 → w_X12_pair_b210 M8 q) ∧ ((M8.1 136 ((x10 + (20 : Int32))).toNatClampNeg) = 0 → vp_in (x10 + (19 : Int32)) 4230 ∧ vp_in (x10 + (5 : Int32)) 4230 ∧ ∀ x17 : Int32, x17 = ((M8.1 136 ((x10 + (19 : Int32))).toNatClampNeg) - (M8.1 136 ((x10 + (5 : Int32))).toNatClampNeg)) → w_X12_many (5 : Int32) M8 (fun (r19 : Int32) (M18 : Mem) => ((v7 = 0 → w_X12_pair_b197 ((4146 : Int32) + r19) x17 M18 q) ∧ (¬ v7 = 0 → w_X12_pair_b197 ((4146 : Int32) + r19) (-x17) M18 q)))))))))
set_option maxRecDepth 100000 in
set_option maxHeartbeats 4000000 in
theorem ok_X12_pair_b96 {c : CtxT} {g : Gl} {l : Launch} {v3 : Int32} {v4 : Int32} {v5 : Int32} {v6 : Int32} {v7 : Int32} {t1 : Int32} {q : Int32 → Mem → Prop} {M : Mem} (C : Cx c cX12_pair 10 RX12 g l (Rm 6 138)) (r : Rt c (some .int) (pI q) 0 0) (hw : w_X12_pair_b96 v3 v4 v5 v6 v7 t1 M q ) : X c S0 96 [(0, .ref (g.2.2.2 + 135)), (3, .int v3), (4, .int v4), (5, .int v5), (6, .int v6), (7, .int v7)] [.int t1, .ref (g.2.2.2 + 135)] (stat M) := by
  unfold w_X12_pair_b96 at hw
  refine x_iload_n C dX12_pair_96 rfl rfl ?_
  refine x_iload C dX12_pair_97 rfl ?_
  refine x_iload C dX12_pair_99 rfl ?_
  refine x_iload C dX12_pair_101 rfl ?_
  refine x_iconst (v := (1 : Int32)) C dX12_pair_103 (by decide) ?_
  refine n_callVV s135 rfl C (ok_X12_keepRun  hw) mv_X12_158 rfl rfl ⟨Nat.le_of_ble_eq_true rfl, Nat.le_of_ble_eq_true rfl⟩ (Nat.le_of_ble_eq_true rfl) dX12_pair_104 (fun M6 hw => ?_)
  refine x_sipush (v := (1346 : Int32)) C dX12_pair_107 (by decide) ?_
  refine x_bipush (v := (14 : Int32)) C dX12_pair_110 (by decide) ?_
  refine x_aload_n C dX12_pair_112 rfl rfl ?_
  refine x_iconst (v := (4 : Int32)) C dX12_pair_113 (by decide) ?_
  refine n_callVI s135 rfl C (ok_X12_many  hw) mv_X12_66 rfl rfl ⟨Nat.le_of_ble_eq_true rfl, Nat.le_of_ble_eq_true rfl⟩ (Nat.le_of_ble_eq_true rfl) dX12_pair_114 (fun r9 M8 hw => ?_)
  refine x_iconst (v := (2 : Int32)) C dX12_pair_117 (by decide) ?_
  refine x_isub C dX12_pair_118 ?_
  refine x_imul C dX12_pair_119 ?_
  refine x_iadd C dX12_pair_120 ?_
  obtain ⟨x10, ex10⟩ : ∃ z : Int32, z = ((1346 : Int32) + ((14 : Int32) * (r9 - (2 : Int32)))) := ⟨_, rfl⟩
  replace hw := hw x10 ex10
  refine x_topi ex10 ?_
  refine x_istore C dX12_pair_121 (Nat.le_of_ble_eq_true rfl) ?_
  refine x_aload_n C dX12_pair_123 rfl rfl ?_
  refine n_getS (dd := 1) C fl_X12_7 s135 (fun _ _ => rfl) rfl dX12_pair_124 ?_
  refine x_iload C dX12_pair_127 rfl ?_
  refine x_bipush (v := (6 : Int32)) C dX12_pair_129 (by decide) ?_
  refine x_iadd C dX12_pair_131 ?_
  obtain ⟨h11, hw⟩ := hw
  refine a_iald C s136 ln136 h11 dX12_pair_132 ?_
  refine x_if_ne (tgt := 210) C dX12_pair_133 (by decide) (fun h12 => ?_) (fun h12 => ?_)
  · replace hw := hw.1 h12
    exact x_sub [0] rfl (ok_X12_pair_b210 C r  hw)
  · replace hw := hw.2 h12
    refine x_aload_n C dX12_pair_136 rfl rfl ?_
    refine n_getS (dd := 1) C fl_X12_7 s135 (fun _ _ => rfl) rfl dX12_pair_137 ?_
    refine x_iload C dX12_pair_140 rfl ?_
    refine x_bipush (v := (20 : Int32)) C dX12_pair_142 (by decide) ?_
    refine x_iadd C dX12_pair_144 ?_
    obtain ⟨h13, hw⟩ := hw
    refine a_iald C s136 ln136 h13 dX12_pair_145 ?_
    refine x_if_ne (tgt := 210) C dX12_pair_146 (by decide) (fun h14 => ?_) (fun h14 => ?_)
    · replace hw := hw.1 h14
      exact x_sub [0] rfl (ok_X12_pair_b210 C r  hw)
    · replace hw := hw.2 h14
      refine x_aload_n C dX12_pair_149 rfl rfl ?_
      refine n_getS (dd := 1) C fl_X12_7 s135 (fun _ _ => rfl) rfl dX12_pair_150 ?_
      refine x_iload C dX12_pair_153 rfl ?_
      refine x_bipush (v := (19 : Int32)) C dX12_pair_155 (by decide) ?_
      refine x_iadd C dX12_pair_157 ?_
      obtain ⟨h15, hw⟩ := hw
      refine a_iald C s136 ln136 h15 dX12_pair_158 ?_
      refine x_aload_n C dX12_pair_159 rfl rfl ?_
      refine n_getS (dd := 1) C fl_X12_7 s135 (fun _ _ => rfl) rfl dX12_pair_160 ?_
      refine x_iload C dX12_pair_163 rfl ?_
      refine x_iconst (v := (5 : Int32)) C dX12_pair_165 (by decide) ?_
      refine x_iadd C dX12_pair_166 ?_
      obtain ⟨h16, hw⟩ := hw
      refine a_iald C s136 ln136 h16 dX12_pair_167 ?_
      refine x_isub C dX12_pair_168 ?_
      obtain ⟨x17, ex17⟩ : ∃ z : Int32, z = ((M8.1 136 ((x10 + (19 : Int32))).toNatClampNeg) - (M8.1 136 ((x10 + (5 : Int32))).toNatClampNeg)) := ⟨_, rfl⟩
      replace hw := hw x17 ex17
      refine x_topi ex17 ?_
      refine x_istore C dX12_pair_169 (Nat.le_of_ble_eq_true rfl) ?_
      refine x_aload_n C dX12_pair_171 rfl rfl ?_
      refine n_getS (dd := 1) C fl_X12_7 s135 (fun _ _ => rfl) rfl dX12_pair_172 ?_
      refine x_sipush (v := (4146 : Int32)) C dX12_pair_175 (by decide) ?_
      refine x_aload_n C dX12_pair_178 rfl rfl ?_
      refine x_iconst (v := (5 : Int32)) C dX12_pair_179 (by decide) ?_
      refine n_callVI s135 rfl C (ok_X12_many  hw) mv_X12_66 rfl rfl ⟨Nat.le_of_ble_eq_true rfl, Nat.le_of_ble_eq_true rfl⟩ (Nat.le_of_ble_eq_true rfl) dX12_pair_180 (fun r19 M18 hw => ?_)
      refine x_iadd C dX12_pair_183 ?_
      refine x_iload C dX12_pair_184 rfl ?_
      refine x_if_eq (tgt := 195) C dX12_pair_186 (by decide) (fun h20 => ?_) (fun h20 => ?_)
      · replace hw := hw.1 h20
        refine x_iload C dX12_pair_195 rfl ?_
        exact x_sub [0] rfl (ok_X12_pair_b197 C r  hw)
      · replace hw := hw.2 h20
        refine x_iload C dX12_pair_189 rfl ?_
        refine x_ineg C dX12_pair_191 ?_
        refine x_goto (tgt := 197) C dX12_pair_192 (by decide) ?_
        exact x_sub [0] rfl (ok_X12_pair_b197 C r  hw)
def w_X12_pair_b74 (v1 : Int32) (v2 : Int32) (v3 : Int32) (v4 : Int32) (v5 : Int32) (v6 : Int32) (v7 : Int32) (t1 : Int32) (M : Mem) (q : Int32 → Mem → Prop) : Prop := w_X12_keepRun t1 v3 v4 v5 v6 (0 : Int32) M (fun (M21 : Mem) => ((v7 = 0 → w_X12_pair_b96 v3 v4 v5 v6 v7 v2 M21 q) ∧ (¬ v7 = 0 → w_X12_pair_b96 v3 v4 v5 v6 v7 v1 M21 q)))
set_option maxRecDepth 100000 in
set_option maxHeartbeats 4000000 in
theorem ok_X12_pair_b74 {c : CtxT} {g : Gl} {l : Launch} {v1 : Int32} {v2 : Int32} {v3 : Int32} {v4 : Int32} {v5 : Int32} {v6 : Int32} {v7 : Int32} {t1 : Int32} {q : Int32 → Mem → Prop} {M : Mem} (C : Cx c cX12_pair 10 RX12 g l (Rm 6 138)) (r : Rt c (some .int) (pI q) 0 0) (hw : w_X12_pair_b74 v1 v2 v3 v4 v5 v6 v7 t1 M q ) : X c S0 74 [(0, .ref (g.2.2.2 + 135)), (1, .int v1), (2, .int v2), (3, .int v3), (4, .int v4), (5, .int v5), (6, .int v6), (7, .int v7)] [.int t1, .ref (g.2.2.2 + 135)] (stat M) := by
  unfold w_X12_pair_b74 at hw
  refine x_iload_n C dX12_pair_74 rfl rfl ?_
  refine x_iload C dX12_pair_75 rfl ?_
  refine x_iload C dX12_pair_77 rfl ?_
  refine x_iload C dX12_pair_79 rfl ?_
  refine x_iconst (v := (0 : Int32)) C dX12_pair_81 (by decide) ?_
  refine n_callVV s135 rfl C (ok_X12_keepRun  hw) mv_X12_158 rfl rfl ⟨Nat.le_of_ble_eq_true rfl, Nat.le_of_ble_eq_true rfl⟩ (Nat.le_of_ble_eq_true rfl) dX12_pair_82 (fun M21 hw => ?_)
  refine x_aload_n C dX12_pair_85 rfl rfl ?_
  refine x_iload C dX12_pair_86 rfl ?_
  refine x_if_eq (tgt := 95) C dX12_pair_88 (by decide) (fun h23 => ?_) (fun h23 => ?_)
  · replace hw := hw.1 h23
    refine x_iload_n C dX12_pair_95 rfl rfl ?_
    exact x_sub [0, 3, 4, 5, 6, 7] rfl (ok_X12_pair_b96 C r  hw)
  · replace hw := hw.2 h23
    refine x_iload_n C dX12_pair_91 rfl rfl ?_
    refine x_goto (tgt := 96) C dX12_pair_92 (by decide) ?_
    exact x_sub [0, 3, 4, 5, 6, 7] rfl (ok_X12_pair_b96 C r  hw)
def w_X12_pair (v1 : Int32) (v2 : Int32) (v3 : Int32) (v4 : Int32) (v5 : Int32) (v6 : Int32) (v7 : Int32) (M : Mem) (q : Int32 → Mem → Prop) : Prop := w_X12_isThere v1 v3 v4 M (fun (r25 : Int32) (M24 : Mem) => ((r25 = 0 → q (-2 : Int32) M24) ∧ (¬ r25 = 0 → w_X12_has (2 : Int32) v2 M24 (fun (r28 : Int32) (M27 : Mem) => ((r28 = 0 → q (-2 : Int32) M27) ∧ (¬ r28 = 0 → w_X12_in (v6).toInt64 (0 : Int64) (23 : Int64) M27 (fun (r31 : Int32) (M30 : Mem) => ((¬ r31 = 0 → w_X12_many (5 : Int32) M30 (fun (r34 : Int32) (M33 : Mem) => ((¬ r34 = (16 : Int32) → w_X12_many (4 : Int32) M33 (fun (r37 : Int32) (M36 : Mem) => ((r37 ≤ (198 : Int32) → ((v7 = 0 → w_X12_pair_b74 v1 v2 v3 v4 v5 v6 v7 v1 M36 q) ∧ (¬ v7 = 0 → w_X12_pair_b74 v1 v2 v3 v4 v5 v6 v7 v2 M36 q))) ∧ (¬ r37 ≤ (198 : Int32) → q (-4 : Int32) M36)))) ∧ (r34 = (16 : Int32) → q (-3 : Int32) M33)))) ∧ (r31 = 0 → q (-2 : Int32) M30)))))))))
set_option maxRecDepth 100000 in
set_option maxHeartbeats 4000000 in
theorem ok_X12_pair {g : Gl} {l : Launch} {v1 : Int32} {v2 : Int32} {v3 : Int32} {v4 : Int32} {v5 : Int32} {v6 : Int32} {v7 : Int32} {M : Mem} {q : Int32 → Mem → Prop} (hw : w_X12_pair v1 v2 v3 v4 v5 v6 v7 M q) : CtI g l yX12_pair cX12_pair 10 (some .int) 6 138 [.ref (g.2.2.2 + 135), .int v1, .int v2, .int v3, .int v4, .int v5, .int v6, .int v7] M q := by
  refine n_introI (by decide +kernel) (Nat.le_of_ble_eq_true rfl) (fun c C r => ?_)
  have C : Cx c cX12_pair 10 RX12 g l (Rm 6 138) := C
  refine x_sub [0, 1, 2, 3, 4, 5, 6, 7] (lv' := [(0, .ref (g.2.2.2 + 135)), (1, .int v1), (2, .int v2), (3, .int v3), (4, .int v4), (5, .int v5), (6, .int v6), (7, .int v7)]) rfl ?_
  unfold w_X12_pair at hw
  refine x_aload_n C dX12_pair_0 rfl rfl ?_
  refine x_iload_n C dX12_pair_1 rfl rfl ?_
  refine x_iload_n C dX12_pair_2 rfl rfl ?_
  refine x_iload C dX12_pair_3 rfl ?_
  refine n_callVI s135 rfl C (ok_X12_isThere  hw) mv_X12_152 rfl rfl ⟨Nat.le_of_ble_eq_true rfl, Nat.le_of_ble_eq_true rfl⟩ (Nat.le_of_ble_eq_true rfl) dX12_pair_5 (fun r25 M24 hw => ?_)
  refine x_if_eq (tgt := 33) C dX12_pair_8 (by decide) (fun h26 => ?_) (fun h26 => ?_)
  · replace hw := hw.1 h26
    refine x_bipush (v := (-2 : Int32)) C dX12_pair_33 (by decide) ?_
    exact n_ireturn C r dX12_pair_35 hw
  · replace hw := hw.2 h26
    refine x_aload_n C dX12_pair_11 rfl rfl ?_
    refine x_iconst (v := (2 : Int32)) C dX12_pair_12 (by decide) ?_
    refine x_iload_n C dX12_pair_13 rfl rfl ?_
    refine n_callVI s135 rfl C (ok_X12_has  hw) mv_X12_84 rfl rfl ⟨Nat.le_of_ble_eq_true rfl, Nat.le_of_ble_eq_true rfl⟩ (Nat.le_of_ble_eq_true rfl) dX12_pair_14 (fun r28 M27 hw => ?_)
    refine x_if_eq (tgt := 33) C dX12_pair_17 (by decide) (fun h29 => ?_) (fun h29 => ?_)
    · replace hw := hw.1 h29
      refine x_bipush (v := (-2 : Int32)) C dX12_pair_33 (by decide) ?_
      exact n_ireturn C r dX12_pair_35 hw
    · replace hw := hw.2 h29
      refine x_iload C dX12_pair_20 rfl ?_
      refine x_i2l C dX12_pair_22 ?_
      refine x_lconst (v := (0 : Int64)) C dX12_pair_23 (by decide) ?_
      refine x_ldc2_w (v := (23 : Int64)) C dX12_pair_24 kc_X12_156 ?_
      refine n_callSI C (ok_X12_in  hw) ms_X12_70 rfl rfl ⟨Nat.le_of_ble_eq_true rfl, Nat.le_of_ble_eq_true rfl⟩ (Nat.le_of_ble_eq_true rfl) dX12_pair_27 (fun r31 M30 hw => ?_)
      refine x_if_ne (tgt := 36) C dX12_pair_30 (by decide) (fun h32 => ?_) (fun h32 => ?_)
      · replace hw := hw.1 h32
        refine x_aload_n C dX12_pair_36 rfl rfl ?_
        refine x_iconst (v := (5 : Int32)) C dX12_pair_37 (by decide) ?_
        refine n_callVI s135 rfl C (ok_X12_many  hw) mv_X12_66 rfl rfl ⟨Nat.le_of_ble_eq_true rfl, Nat.le_of_ble_eq_true rfl⟩ (Nat.le_of_ble_eq_true rfl) dX12_pair_38 (fun r34 M33 hw => ?_)
        refine x_bipush (v := (16 : Int32)) C dX12_pair_41 (by decide) ?_
        refine x_icmp_ne (tgt := 49) C dX12_pair_43 (by decide) (fun h35 => ?_) (fun h35 => ?_)
        · replace hw := hw.1 h35
          refine x_aload_n C dX12_pair_49 rfl rfl ?_
          refine x_iconst (v := (4 : Int32)) C dX12_pair_50 (by decide) ?_
          refine n_callVI s135 rfl C (ok_X12_many  hw) mv_X12_66 rfl rfl ⟨Nat.le_of_ble_eq_true rfl, Nat.le_of_ble_eq_true rfl⟩ (Nat.le_of_ble_eq_true rfl) dX12_pair_51 (fun r37 M36 hw => ?_)
          refine x_sipush (v := (198 : Int32)) C dX12_pair_54 (by decide) ?_
          refine x_icmp_le (tgt := 63) C dX12_pair_57 (by decide) (fun h38 => ?_) (fun h38 => ?_)
          · replace hw := hw.1 h38
            refine x_aload_n C dX12_pair_63 rfl rfl ?_
            refine x_iload C dX12_pair_64 rfl ?_
            refine x_if_eq (tgt := 73) C dX12_pair_66 (by decide) (fun h39 => ?_) (fun h39 => ?_)
            · replace hw := hw.1 h39
              refine x_iload_n C dX12_pair_73 rfl rfl ?_
              exact x_sub [0, 1, 2, 3, 4, 5, 6, 7] rfl (ok_X12_pair_b74 C r  hw)
            · replace hw := hw.2 h39
              refine x_iload_n C dX12_pair_69 rfl rfl ?_
              refine x_goto (tgt := 74) C dX12_pair_70 (by decide) ?_
              exact x_sub [0, 1, 2, 3, 4, 5, 6, 7] rfl (ok_X12_pair_b74 C r  hw)
          · replace hw := hw.2 h38
            refine x_bipush (v := (-4 : Int32)) C dX12_pair_60 (by decide) ?_
            exact n_ireturn C r dX12_pair_62 hw
        · replace hw := hw.2 h35
          refine x_bipush (v := (-3 : Int32)) C dX12_pair_46 (by decide) ?_
          exact n_ireturn C r dX12_pair_48 hw
      · replace hw := hw.2 h32
        refine x_bipush (v := (-2 : Int32)) C dX12_pair_33 (by decide) ?_
        exact n_ireturn C r dX12_pair_35 hw

def w_X12_difference (v1 : Int32) (M : Mem) (q : Int32 → Mem → Prop) : Prop := ((0 ≤ v1 → w_X12_many (5 : Int32) M (fun (r3 : Int32) (M2 : Mem) => ((r3 ≤ v1 → q (-1000000000 : Int32) M2) ∧ (¬ r3 ≤ v1 → vp_in ((4146 : Int32) + v1) 4230 ∧ q (M2.1 136 (((4146 : Int32) + v1)).toNatClampNeg) M2)))) ∧ (¬ 0 ≤ v1 → q (-2000000000 : Int32) M))
set_option maxRecDepth 100000 in
set_option maxHeartbeats 4000000 in
theorem ok_X12_difference {g : Gl} {l : Launch} {v1 : Int32} {M : Mem} {q : Int32 → Mem → Prop} (hw : w_X12_difference v1 M q) : CtI g l yX12_difference cX12_difference 2 (some .int) 2 21 [.ref (g.2.2.2 + 135), .int v1] M q := by
  refine n_introI (by decide +kernel) (Nat.le_of_ble_eq_true rfl) (fun c C r => ?_)
  have C : Cx c cX12_difference 2 RX12 g l (Rm 2 21) := C
  refine x_sub [0, 1] (lv' := [(0, .ref (g.2.2.2 + 135)), (1, .int v1)]) rfl ?_
  unfold w_X12_difference at hw
  refine x_iload_n C dX12_difference_0 rfl rfl ?_
  refine x_if_ge (tgt := 9) C dX12_difference_1 (by decide) (fun h1 => ?_) (fun h1 => ?_)
  · replace hw := hw.1 h1
    refine x_iload_n C dX12_difference_9 rfl rfl ?_
    refine x_aload_n C dX12_difference_10 rfl rfl ?_
    refine x_iconst (v := (5 : Int32)) C dX12_difference_11 (by decide) ?_
    refine n_callVI s135 rfl C (ok_X12_many  hw) mv_X12_66 rfl rfl ⟨Nat.le_of_ble_eq_true rfl, Nat.le_of_ble_eq_true rfl⟩ (Nat.le_of_ble_eq_true rfl) dX12_difference_12 (fun r3 M2 hw => ?_)
    refine x_icmp_ge (tgt := 31) C dX12_difference_15 (by decide) (fun h4 => ?_) (fun h4 => ?_)
    · replace hw := hw.1 h4
      refine x_ldc (v := (-1000000000 : Int32)) C dX12_difference_31 kc_X12_185 ?_
      exact n_ireturn C r dX12_difference_33 hw
    · replace hw := hw.2 h4
      refine x_aload_n C dX12_difference_18 rfl rfl ?_
      refine n_getS (dd := 1) C fl_X12_7 s135 (fun _ _ => rfl) rfl dX12_difference_19 ?_
      refine x_sipush (v := (4146 : Int32)) C dX12_difference_22 (by decide) ?_
      refine x_iload_n C dX12_difference_25 rfl rfl ?_
      refine x_iadd C dX12_difference_26 ?_
      obtain ⟨h5, hw⟩ := hw
      refine a_iald C s136 ln136 h5 dX12_difference_27 ?_
      refine x_goto (tgt := 33) C dX12_difference_28 (by decide) ?_
      exact n_ireturn C r dX12_difference_33 hw
  · replace hw := hw.2 h1
    refine x_ldc (v := (-2000000000 : Int32)) C dX12_difference_4 kc_X12_164 ?_
    refine x_goto (tgt := 33) C dX12_difference_6 (by decide) ?_
    exact n_ireturn C r dX12_difference_33 hw

def w_X12_stand (M : Mem) (q : Int32 → Mem → Prop) : Prop := w_X12_many (5 : Int32) M (fun (r2 : Int32) (M1 : Mem) => ∀ M3 : Mem, M3 = uI M1 136 4215 (0 : Int32) → q r2 M3)
set_option maxRecDepth 100000 in
set_option maxHeartbeats 4000000 in
theorem ok_X12_stand {g : Gl} {l : Launch} {M : Mem} {q : Int32 → Mem → Prop} (hw : w_X12_stand M q) : CtI g l yX12_stand cX12_stand 2 (some .int) 2 21 [.ref (g.2.2.2 + 135)] M q := by
  refine n_introI (by decide +kernel) (Nat.le_of_ble_eq_true rfl) (fun c C r => ?_)
  have C : Cx c cX12_stand 2 RX12 g l (Rm 2 21) := C
  refine x_sub [0] (lv' := [(0, .ref (g.2.2.2 + 135))]) rfl ?_
  unfold w_X12_stand at hw
  refine x_aload_n C dX12_stand_0 rfl rfl ?_
  refine x_iconst (v := (5 : Int32)) C dX12_stand_1 (by decide) ?_
  refine n_callVI s135 rfl C (ok_X12_many  hw) mv_X12_66 rfl rfl ⟨Nat.le_of_ble_eq_true rfl, Nat.le_of_ble_eq_true rfl⟩ (Nat.le_of_ble_eq_true rfl) dX12_stand_2 (fun r2 M1 hw => ?_)
  refine x_istore_n C dX12_stand_5 rfl (Nat.le_of_ble_eq_true rfl) ?_
  refine x_aload_n C dX12_stand_6 rfl rfl ?_
  refine n_getS (dd := 1) C fl_X12_7 s135 (fun _ _ => rfl) rfl dX12_stand_7 ?_
  refine x_sipush (v := (4215 : Int32)) C dX12_stand_10 (by decide) ?_
  refine x_iconst (v := (0 : Int32)) C dX12_stand_13 (by decide) ?_
  obtain ⟨M3, eM3⟩ : ∃ z : Mem, z = uI M1 136 4215 (0 : Int32) := ⟨_, rfl⟩
  replace hw := hw M3 eM3
  refine a_iast C s136 ln136 (by decide) (vin _ _ (by decide +kernel)) eM3 dX12_stand_14 ?_
  refine x_iload_n C dX12_stand_15 rfl rfl ?_
  exact n_ireturn C r dX12_stand_16 hw

def w_X12_oddsOf_b131 (v1 : Int32) (v2 : Int32) (v3 : Int32) (v5 : Int32) (t0 : Int32) (t1 : Int32) (M : Mem) (q : Int32 → Mem → Prop) (P37 : Int32 × Int32 × Mem → Prop) : Prop := ∀ x1 : Int32, x1 = (t0 + t1) → ∀ x2 : Int32, x2 = v5 + (1 : Int32) → P37 (x1, x2, M)
set_option maxRecDepth 100000 in
set_option maxHeartbeats 4000000 in
theorem ok_X12_oddsOf_b131 {c : CtxT} {g : Gl} {l : Launch} {v1 : Int32} {v2 : Int32} {v3 : Int32} {v5 : Int32} {t0 : Int32} {t1 : Int32} {q : Int32 → Mem → Prop} {P37 : Int32 × Int32 × Mem → Prop} {M : Mem} (C : Cx c cX12_oddsOf 8 RX12 g l (Rm 1 0)) (r : Rt c (some .int) (pI q) 0 0) (hP37 : ∀ (v4 : Int32) (v5 : Int32) (M : Mem), P37 (v4, v5, M) → X c S0 37 [(0, .ref (g.2.2.2 + 135)), (1, .int v1), (2, .int v2), (3, .int v3), (4, .int v4), (5, .int v5)] [] (stat M)) (hw : w_X12_oddsOf_b131 v1 v2 v3 v5 t0 t1 M q P37) : X c S0 131 [(0, .ref (g.2.2.2 + 135)), (1, .int v1), (2, .int v2), (3, .int v3), (5, .int v5)] [.int t1, .int t0] (stat M) := by
  unfold w_X12_oddsOf_b131 at hw
  refine x_iadd C dX12_oddsOf_131 ?_
  obtain ⟨x1, ex1⟩ : ∃ z : Int32, z = (t0 + t1) := ⟨_, rfl⟩
  replace hw := hw x1 ex1
  refine x_topi ex1 ?_
  refine x_istore C dX12_oddsOf_132 (Nat.le_of_ble_eq_true rfl) ?_
  obtain ⟨x2, ex2⟩ : ∃ z : Int32, z = v5 + (1 : Int32) := ⟨_, rfl⟩
  replace hw := hw x2 ex2
  refine x_iinc (v := x2) C dX12_oddsOf_134 rfl ex2.symm (Nat.le_of_ble_eq_true rfl) ?_
  refine x_goto (tgt := 37) C dX12_oddsOf_137 (by decide) ?_
  exact x_sub [0, 1, 2, 3, 4, 5] rfl (hP37 _ _ _ hw)
def w_X12_oddsOf_b130 (v1 : Int32) (v2 : Int32) (v3 : Int32) (v5 : Int32) (t0 : Int32) (M : Mem) (q : Int32 → Mem → Prop) (P37 : Int32 × Int32 × Mem → Prop) : Prop := w_X12_oddsOf_b131 v1 v2 v3 v5 t0 (0 : Int32) M q P37
set_option maxRecDepth 100000 in
set_option maxHeartbeats 4000000 in
theorem ok_X12_oddsOf_b130 {c : CtxT} {g : Gl} {l : Launch} {v1 : Int32} {v2 : Int32} {v3 : Int32} {v5 : Int32} {t0 : Int32} {q : Int32 → Mem → Prop} {P37 : Int32 × Int32 × Mem → Prop} {M : Mem} (C : Cx c cX12_oddsOf 8 RX12 g l (Rm 1 0)) (r : Rt c (some .int) (pI q) 0 0) (hP37 : ∀ (v4 : Int32) (v5 : Int32) (M : Mem), P37 (v4, v5, M) → X c S0 37 [(0, .ref (g.2.2.2 + 135)), (1, .int v1), (2, .int v2), (3, .int v3), (4, .int v4), (5, .int v5)] [] (stat M)) (hw : w_X12_oddsOf_b130 v1 v2 v3 v5 t0 M q P37) : X c S0 130 [(0, .ref (g.2.2.2 + 135)), (1, .int v1), (2, .int v2), (3, .int v3), (5, .int v5)] [.int t0] (stat M) := by
  unfold w_X12_oddsOf_b130 at hw
  refine x_iconst (v := (0 : Int32)) C dX12_oddsOf_130 (by decide) ?_
  exact x_sub [0, 1, 2, 3, 5] rfl (ok_X12_oddsOf_b131 C r hP37 hw)
def w_X12_oddsOf_b126 (v1 : Int32) (v2 : Int32) (v3 : Int32) (v5 : Int32) (t0 : Int32) (M : Mem) (q : Int32 → Mem → Prop) (P37 : Int32 × Int32 × Mem → Prop) : Prop := w_X12_oddsOf_b131 v1 v2 v3 v5 t0 (1 : Int32) M q P37
set_option maxRecDepth 100000 in
set_option maxHeartbeats 4000000 in
theorem ok_X12_oddsOf_b126 {c : CtxT} {g : Gl} {l : Launch} {v1 : Int32} {v2 : Int32} {v3 : Int32} {v5 : Int32} {t0 : Int32} {q : Int32 → Mem → Prop} {P37 : Int32 × Int32 × Mem → Prop} {M : Mem} (C : Cx c cX12_oddsOf 8 RX12 g l (Rm 1 0)) (r : Rt c (some .int) (pI q) 0 0) (hP37 : ∀ (v4 : Int32) (v5 : Int32) (M : Mem), P37 (v4, v5, M) → X c S0 37 [(0, .ref (g.2.2.2 + 135)), (1, .int v1), (2, .int v2), (3, .int v3), (4, .int v4), (5, .int v5)] [] (stat M)) (hw : w_X12_oddsOf_b126 v1 v2 v3 v5 t0 M q P37) : X c S0 126 [(0, .ref (g.2.2.2 + 135)), (1, .int v1), (2, .int v2), (3, .int v3), (5, .int v5)] [.int t0] (stat M) := by
  unfold w_X12_oddsOf_b126 at hw
  refine x_iconst (v := (1 : Int32)) C dX12_oddsOf_126 (by decide) ?_
  refine x_goto (tgt := 131) C dX12_oddsOf_127 (by decide) ?_
  exact x_sub [0, 1, 2, 3, 5] rfl (ok_X12_oddsOf_b131 C r hP37 hw)
def w_X12_oddsOf_b96 (v1 : Int32) (v2 : Int32) (v3 : Int32) (v4 : Int32) (v5 : Int32) (v7 : Int32) (t0 : Int32) (t1 : Int32) (M : Mem) (q : Int32 → Mem → Prop) (P37 : Int32 × Int32 × Mem → Prop) (P51 : Int32 × Int32 × Mem → Prop) : Prop := ∀ x3 : Int32, x3 = (t0 + t1) → ∀ x4 : Int32, x4 = v7 + (1 : Int32) → P51 (x3, x4, M)
set_option maxRecDepth 100000 in
set_option maxHeartbeats 4000000 in
theorem ok_X12_oddsOf_b96 {c : CtxT} {g : Gl} {l : Launch} {v1 : Int32} {v2 : Int32} {v3 : Int32} {v4 : Int32} {v5 : Int32} {v7 : Int32} {t0 : Int32} {t1 : Int32} {q : Int32 → Mem → Prop} {P37 : Int32 × Int32 × Mem → Prop} {P51 : Int32 × Int32 × Mem → Prop} {M : Mem} (C : Cx c cX12_oddsOf 8 RX12 g l (Rm 1 0)) (r : Rt c (some .int) (pI q) 0 0) (hP37 : ∀ (v4 : Int32) (v5 : Int32) (M : Mem), P37 (v4, v5, M) → X c S0 37 [(0, .ref (g.2.2.2 + 135)), (1, .int v1), (2, .int v2), (3, .int v3), (4, .int v4), (5, .int v5)] [] (stat M)) (hP51 : ∀ (v6 : Int32) (v7 : Int32) (M : Mem), P51 (v6, v7, M) → X c S0 51 [(0, .ref (g.2.2.2 + 135)), (1, .int v1), (2, .int v2), (3, .int v3), (4, .int v4), (5, .int v5), (6, .int v6), (7, .int v7)] [] (stat M)) (hw : w_X12_oddsOf_b96 v1 v2 v3 v4 v5 v7 t0 t1 M q P37 P51) : X c S0 96 [(0, .ref (g.2.2.2 + 135)), (1, .int v1), (2, .int v2), (3, .int v3), (4, .int v4), (5, .int v5), (7, .int v7)] [.int t1, .int t0] (stat M) := by
  unfold w_X12_oddsOf_b96 at hw
  refine x_iadd C dX12_oddsOf_96 ?_
  obtain ⟨x3, ex3⟩ : ∃ z : Int32, z = (t0 + t1) := ⟨_, rfl⟩
  replace hw := hw x3 ex3
  refine x_topi ex3 ?_
  refine x_istore C dX12_oddsOf_97 (Nat.le_of_ble_eq_true rfl) ?_
  obtain ⟨x4, ex4⟩ : ∃ z : Int32, z = v7 + (1 : Int32) := ⟨_, rfl⟩
  replace hw := hw x4 ex4
  refine x_iinc (v := x4) C dX12_oddsOf_99 rfl ex4.symm (Nat.le_of_ble_eq_true rfl) ?_
  refine x_goto (tgt := 51) C dX12_oddsOf_102 (by decide) ?_
  exact x_sub [0, 1, 2, 3, 4, 5, 6, 7] rfl (hP51 _ _ _ hw)
def w_X12_oddsOf_l51F (v1 : Int32) (v2 : Int32) (v3 : Int32) (v4 : Int32) (v5 : Int32) (q : Int32 → Mem → Prop) (P37 : Int32 × Int32 × Mem → Prop) (P51 : Int32 × Int32 × Mem → Prop) (s : Int32 × Int32 × Mem) : Prop := match s with
  | (v6, v7, M) => ((v1 ≤ v7 → ((v2 = 0 → ((v6 < v3 → w_X12_oddsOf_b130 v1 v2 v3 v5 v4 M q P37) ∧ (¬ v6 < v3 → w_X12_oddsOf_b126 v1 v2 v3 v5 v4 M q P37))) ∧ (¬ v2 = 0 → ((v3 < v6 → w_X12_oddsOf_b130 v1 v2 v3 v5 v4 M q P37) ∧ (¬ v3 < v6 → w_X12_oddsOf_b126 v1 v2 v3 v5 v4 M q P37))))) ∧ (¬ v1 ≤ v7 → ((¬ ((v5 >>> (v7 &&& 31)) &&& (1 : Int32)) = (1 : Int32) → vp_in ((4146 : Int32) + v7) 4230 ∧ w_X12_oddsOf_b96 v1 v2 v3 v4 v5 v7 v6 (M.1 136 (((4146 : Int32) + v7)).toNatClampNeg) M q P37 P51) ∧ (((v5 >>> (v7 &&& 31)) &&& (1 : Int32)) = (1 : Int32) → vp_in ((4146 : Int32) + v7) 4230 ∧ w_X12_oddsOf_b96 v1 v2 v3 v4 v5 v7 v6 (-(M.1 136 (((4146 : Int32) + v7)).toNatClampNeg)) M q P37 P51))))
def w_X12_oddsOf_l51 (v1 : Int32) (v2 : Int32) (v3 : Int32) (v4 : Int32) (v5 : Int32) (q : Int32 → Mem → Prop) (P37 : Int32 × Int32 × Mem → Prop) (s : Int32 × Int32 × Mem) : Prop := lfp (w_X12_oddsOf_l51F v1 v2 v3 v4 v5 q P37) s
set_option maxRecDepth 100000 in
set_option maxHeartbeats 4000000 in
theorem ok_X12_oddsOf_l51 {c : CtxT} {g : Gl} {l : Launch} {v1 : Int32} {v2 : Int32} {v3 : Int32} {v4 : Int32} {v5 : Int32} {q : Int32 → Mem → Prop} {P37 : Int32 × Int32 × Mem → Prop} {s : Int32 × Int32 × Mem} (C : Cx c cX12_oddsOf 8 RX12 g l (Rm 1 0)) (r : Rt c (some .int) (pI q) 0 0) (hP37 : ∀ (v4 : Int32) (v5 : Int32) (M : Mem), P37 (v4, v5, M) → X c S0 37 [(0, .ref (g.2.2.2 + 135)), (1, .int v1), (2, .int v2), (3, .int v3), (4, .int v4), (5, .int v5)] [] (stat M)) (hw : w_X12_oddsOf_l51 v1 v2 v3 v4 v5 q P37 s) : X c S0 51 [(0, .ref (g.2.2.2 + 135)), (1, .int v1), (2, .int v2), (3, .int v3), (4, .int v4), (5, .int v5), (6, .int s.1), (7, .int s.2.1)] [] (stat s.2.2) := hw (fun s => X c S0 51 [(0, .ref (g.2.2.2 + 135)), (1, .int v1), (2, .int v2), (3, .int v3), (4, .int v4), (5, .int v5), (6, .int s.1), (7, .int s.2.1)] [] (stat s.2.2)) (fun s hw => by
    obtain ⟨v6, v7, M⟩ := s
    try dsimp only [w_X12_oddsOf_l51F] at hw
    try dsimp only
    refine x_iload C dX12_oddsOf_51 rfl ?_
    refine x_iload_n C dX12_oddsOf_53 rfl rfl ?_
    refine x_icmp_ge (tgt := 105) C dX12_oddsOf_54 (by decide) (fun h5 => ?_) (fun h5 => ?_)
    · replace hw := hw.1 h5
      refine x_iload C dX12_oddsOf_105 rfl ?_
      refine x_iload_n C dX12_oddsOf_107 rfl rfl ?_
      refine x_if_eq (tgt := 120) C dX12_oddsOf_108 (by decide) (fun h6 => ?_) (fun h6 => ?_)
      · replace hw := hw.1 h6
        refine x_iload C dX12_oddsOf_120 rfl ?_
        refine x_iload_n C dX12_oddsOf_122 rfl rfl ?_
        refine x_icmp_lt (tgt := 130) C dX12_oddsOf_123 (by decide) (fun h7 => ?_) (fun h7 => ?_)
        · replace hw := hw.1 h7
          exact x_sub [0, 1, 2, 3, 5] rfl (ok_X12_oddsOf_b130 C r hP37 hw)
        · replace hw := hw.2 h7
          exact x_sub [0, 1, 2, 3, 5] rfl (ok_X12_oddsOf_b126 C r hP37 hw)
      · replace hw := hw.2 h6
        refine x_iload C dX12_oddsOf_111 rfl ?_
        refine x_iload_n C dX12_oddsOf_113 rfl rfl ?_
        refine x_icmp_gt (tgt := 130) C dX12_oddsOf_114 (by decide) (fun h8 => ?_) (fun h8 => ?_)
        · replace hw := hw.1 h8
          exact x_sub [0, 1, 2, 3, 5] rfl (ok_X12_oddsOf_b130 C r hP37 hw)
        · replace hw := hw.2 h8
          refine x_goto (tgt := 126) C dX12_oddsOf_117 (by decide) ?_
          exact x_sub [0, 1, 2, 3, 5] rfl (ok_X12_oddsOf_b126 C r hP37 hw)
    · replace hw := hw.2 h5
      refine x_iload C dX12_oddsOf_57 rfl ?_
      refine x_iload C dX12_oddsOf_59 rfl ?_
      refine x_iload C dX12_oddsOf_61 rfl ?_
      refine x_ishr C dX12_oddsOf_63 ?_
      refine x_iconst (v := (1 : Int32)) C dX12_oddsOf_64 (by decide) ?_
      refine x_iand C dX12_oddsOf_65 ?_
      refine x_iconst (v := (1 : Int32)) C dX12_oddsOf_66 (by decide) ?_
      refine x_icmp_ne (tgt := 85) C dX12_oddsOf_67 (by decide) (fun h9 => ?_) (fun h9 => ?_)
      · replace hw := hw.1 h9
        refine x_aload_n C dX12_oddsOf_85 rfl rfl ?_
        refine n_getS (dd := 1) C fl_X12_7 s135 (fun _ _ => rfl) rfl dX12_oddsOf_86 ?_
        refine x_sipush (v := (4146 : Int32)) C dX12_oddsOf_89 (by decide) ?_
        refine x_iload C dX12_oddsOf_92 rfl ?_
        refine x_iadd C dX12_oddsOf_94 ?_
        obtain ⟨h10, hw⟩ := hw
        refine a_iald C s136 ln136 h10 dX12_oddsOf_95 ?_
        exact x_sub [0, 1, 2, 3, 4, 5, 7] rfl (ok_X12_oddsOf_b96 C r hP37 (fun _ _ _ h => h) hw)
      · replace hw := hw.2 h9
        refine x_aload_n C dX12_oddsOf_70 rfl rfl ?_
        refine n_getS (dd := 1) C fl_X12_7 s135 (fun _ _ => rfl) rfl dX12_oddsOf_71 ?_
        refine x_sipush (v := (4146 : Int32)) C dX12_oddsOf_74 (by decide) ?_
        refine x_iload C dX12_oddsOf_77 rfl ?_
        refine x_iadd C dX12_oddsOf_79 ?_
        obtain ⟨h11, hw⟩ := hw
        refine a_iald C s136 ln136 h11 dX12_oddsOf_80 ?_
        refine x_ineg C dX12_oddsOf_81 ?_
        refine x_goto (tgt := 96) C dX12_oddsOf_82 (by decide) ?_
        exact x_sub [0, 1, 2, 3, 4, 5, 7] rfl (ok_X12_oddsOf_b96 C r hP37 (fun _ _ _ h => h) hw))
def w_X12_oddsOf_l37F (v1 : Int32) (v2 : Int32) (v3 : Int32) (q : Int32 → Mem → Prop) (P37 : Int32 × Int32 × Mem → Prop) (s : Int32 × Int32 × Mem) : Prop := match s with
  | (v4, v5, M) => ((((1 : Int32) <<< (v1 &&& 31)) ≤ v5 → q v4 M) ∧ (¬ ((1 : Int32) <<< (v1 &&& 31)) ≤ v5 → w_X12_oddsOf_l51 v1 v2 v3 v4 v5 q P37 ((0 : Int32), (0 : Int32), M)))
def w_X12_oddsOf_l37 (v1 : Int32) (v2 : Int32) (v3 : Int32) (q : Int32 → Mem → Prop) (s : Int32 × Int32 × Mem) : Prop := lfp (w_X12_oddsOf_l37F v1 v2 v3 q ) s
set_option maxRecDepth 100000 in
set_option maxHeartbeats 4000000 in
theorem ok_X12_oddsOf_l37 {c : CtxT} {g : Gl} {l : Launch} {v1 : Int32} {v2 : Int32} {v3 : Int32} {q : Int32 → Mem → Prop} {s : Int32 × Int32 × Mem} (C : Cx c cX12_oddsOf 8 RX12 g l (Rm 1 0)) (r : Rt c (some .int) (pI q) 0 0) (hw : w_X12_oddsOf_l37 v1 v2 v3 q s) : X c S0 37 [(0, .ref (g.2.2.2 + 135)), (1, .int v1), (2, .int v2), (3, .int v3), (4, .int s.1), (5, .int s.2.1)] [] (stat s.2.2) := hw (fun s => X c S0 37 [(0, .ref (g.2.2.2 + 135)), (1, .int v1), (2, .int v2), (3, .int v3), (4, .int s.1), (5, .int s.2.1)] [] (stat s.2.2)) (fun s hw => by
    obtain ⟨v4, v5, M⟩ := s
    try dsimp only [w_X12_oddsOf_l37F] at hw
    try dsimp only
    refine x_iload C dX12_oddsOf_37 rfl ?_
    refine x_iconst (v := (1 : Int32)) C dX12_oddsOf_39 (by decide) ?_
    refine x_iload_n C dX12_oddsOf_40 rfl rfl ?_
    refine x_ishl C dX12_oddsOf_41 ?_
    refine x_icmp_ge (tgt := 140) C dX12_oddsOf_42 (by decide) (fun h12 => ?_) (fun h12 => ?_)
    · replace hw := hw.1 h12
      refine x_iload C dX12_oddsOf_140 rfl ?_
      exact n_ireturn C r dX12_oddsOf_142 hw
    · replace hw := hw.2 h12
      refine x_iconst (v := (0 : Int32)) C dX12_oddsOf_45 (by decide) ?_
      refine x_istore C dX12_oddsOf_46 (Nat.le_of_ble_eq_true rfl) ?_
      refine x_iconst (v := (0 : Int32)) C dX12_oddsOf_48 (by decide) ?_
      refine x_istore C dX12_oddsOf_49 (Nat.le_of_ble_eq_true rfl) ?_
      exact x_sub [0, 1, 2, 3, 4, 5, 6, 7] rfl (ok_X12_oddsOf_l51 C r (fun _ _ _ h => h) hw))
def w_X12_oddsOf_l5F (v1 : Int32) (v2 : Int32) (q : Int32 → Mem → Prop) (P5 : Int32 × Int32 × Mem → Prop) (s : Int32 × Int32 × Mem) : Prop := match s with
  | (v3, v4, M) => ((v1 ≤ v4 → w_X12_oddsOf_l37 v1 v2 v3 q ((0 : Int32), (0 : Int32), M)) ∧ (¬ v1 ≤ v4 → vp_in ((4146 : Int32) + v4) 4230 ∧ ∀ x15 : Int32, x15 = (v3 + (M.1 136 (((4146 : Int32) + v4)).toNatClampNeg)) → ∀ x16 : Int32, x16 = v4 + (1 : Int32) → P5 (x15, x16, M)))
def w_X12_oddsOf_l5 (v1 : Int32) (v2 : Int32) (q : Int32 → Mem → Prop) (s : Int32 × Int32 × Mem) : Prop := lfp (w_X12_oddsOf_l5F v1 v2 q ) s
set_option maxRecDepth 100000 in
set_option maxHeartbeats 4000000 in
theorem ok_X12_oddsOf_l5 {c : CtxT} {g : Gl} {l : Launch} {v1 : Int32} {v2 : Int32} {q : Int32 → Mem → Prop} {s : Int32 × Int32 × Mem} (C : Cx c cX12_oddsOf 8 RX12 g l (Rm 1 0)) (r : Rt c (some .int) (pI q) 0 0) (hw : w_X12_oddsOf_l5 v1 v2 q s) : X c S0 5 [(0, .ref (g.2.2.2 + 135)), (1, .int v1), (2, .int v2), (3, .int s.1), (4, .int s.2.1)] [] (stat s.2.2) := hw (fun s => X c S0 5 [(0, .ref (g.2.2.2 + 135)), (1, .int v1), (2, .int v2), (3, .int s.1), (4, .int s.2.1)] [] (stat s.2.2)) (fun s hw => by
    obtain ⟨v3, v4, M⟩ := s
    try dsimp only [w_X12_oddsOf_l5F] at hw
    try dsimp only
    refine x_iload C dX12_oddsOf_5 rfl ?_
    refine x_iload_n C dX12_oddsOf_7 rfl rfl ?_
    refine x_icmp_ge (tgt := 31) C dX12_oddsOf_8 (by decide) (fun h13 => ?_) (fun h13 => ?_)
    · replace hw := hw.1 h13
      refine x_iconst (v := (0 : Int32)) C dX12_oddsOf_31 (by decide) ?_
      refine x_istore C dX12_oddsOf_32 (Nat.le_of_ble_eq_true rfl) ?_
      refine x_iconst (v := (0 : Int32)) C dX12_oddsOf_34 (by decide) ?_
      refine x_istore C dX12_oddsOf_35 (Nat.le_of_ble_eq_true rfl) ?_
      exact x_sub [0, 1, 2, 3, 4, 5] rfl (ok_X12_oddsOf_l37 C r  hw)
    · replace hw := hw.2 h13
      refine x_iload_n C dX12_oddsOf_11 rfl rfl ?_
      refine x_aload_n C dX12_oddsOf_12 rfl rfl ?_
      refine n_getS (dd := 1) C fl_X12_7 s135 (fun _ _ => rfl) rfl dX12_oddsOf_13 ?_
      refine x_sipush (v := (4146 : Int32)) C dX12_oddsOf_16 (by decide) ?_
      refine x_iload C dX12_oddsOf_19 rfl ?_
      refine x_iadd C dX12_oddsOf_21 ?_
      obtain ⟨h14, hw⟩ := hw
      refine a_iald C s136 ln136 h14 dX12_oddsOf_22 ?_
      refine x_iadd C dX12_oddsOf_23 ?_
      obtain ⟨x15, ex15⟩ : ∃ z : Int32, z = (v3 + (M.1 136 (((4146 : Int32) + v4)).toNatClampNeg)) := ⟨_, rfl⟩
      replace hw := hw x15 ex15
      refine x_topi ex15 ?_
      refine x_istore_n C dX12_oddsOf_24 rfl (Nat.le_of_ble_eq_true rfl) ?_
      obtain ⟨x16, ex16⟩ : ∃ z : Int32, z = v4 + (1 : Int32) := ⟨_, rfl⟩
      replace hw := hw x16 ex16
      refine x_iinc (v := x16) C dX12_oddsOf_25 rfl ex16.symm (Nat.le_of_ble_eq_true rfl) ?_
      refine x_goto (tgt := 5) C dX12_oddsOf_28 (by decide) ?_
      exact x_sub [0, 1, 2, 3, 4] rfl hw)
def w_X12_oddsOf (v1 : Int32) (v2 : Int32) (M : Mem) (q : Int32 → Mem → Prop) : Prop := w_X12_oddsOf_l5 v1 v2 q ((0 : Int32), (0 : Int32), M)
set_option maxRecDepth 100000 in
set_option maxHeartbeats 4000000 in
theorem ok_X12_oddsOf {g : Gl} {l : Launch} {v1 : Int32} {v2 : Int32} {M : Mem} {q : Int32 → Mem → Prop} (hw : w_X12_oddsOf v1 v2 M q) : CtI g l yX12_oddsOf cX12_oddsOf 8 (some .int) 1 0 [.ref (g.2.2.2 + 135), .int v1, .int v2] M q := by
  refine n_introI (by decide +kernel) (Nat.le_of_ble_eq_true rfl) (fun c C r => ?_)
  have C : Cx c cX12_oddsOf 8 RX12 g l (Rm 1 0) := C
  refine x_sub [0, 1, 2] (lv' := [(0, .ref (g.2.2.2 + 135)), (1, .int v1), (2, .int v2)]) rfl ?_
  unfold w_X12_oddsOf at hw
  refine x_iconst (v := (0 : Int32)) C dX12_oddsOf_0 (by decide) ?_
  refine x_istore_n C dX12_oddsOf_1 rfl (Nat.le_of_ble_eq_true rfl) ?_
  refine x_iconst (v := (0 : Int32)) C dX12_oddsOf_2 (by decide) ?_
  refine x_istore C dX12_oddsOf_3 (Nat.le_of_ble_eq_true rfl) ?_
  exact x_sub [0, 1, 2, 3, 4] rfl (ok_X12_oddsOf_l5 C r  hw)

def w_X12_odds_b26 (t1 : Int32) (t2 : Int32) (M : Mem) (q : Int32 → Mem → Prop) : Prop := w_X12_oddsOf t1 t2 M (fun (r2 : Int32) (M1 : Mem) => q r2 M1)
set_option maxRecDepth 100000 in
set_option maxHeartbeats 4000000 in
theorem ok_X12_odds_b26 {c : CtxT} {g : Gl} {l : Launch} {t1 : Int32} {t2 : Int32} {q : Int32 → Mem → Prop} {M : Mem} (C : Cx c cX12_odds 2 RX12 g l (Rm 2 27)) (r : Rt c (some .int) (pI q) 0 0) (hw : w_X12_odds_b26 t1 t2 M q ) : X c S0 26 [] [.int t2, .int t1, .ref (g.2.2.2 + 135)] (stat M) := by
  unfold w_X12_odds_b26 at hw
  refine n_callVI s135 rfl C (ok_X12_oddsOf  hw) mv_X12_186 rfl rfl ⟨Nat.le_of_ble_eq_true rfl, Nat.le_of_ble_eq_true rfl⟩ (Nat.le_of_ble_eq_true rfl) dX12_odds_26 (fun r2 M1 hw => ?_)
  refine x_goto (tgt := 34) C dX12_odds_29 (by decide) ?_
  exact n_ireturn C r dX12_odds_34 hw
def w_X12_odds (v1 : Int32) (M : Mem) (q : Int32 → Mem → Prop) : Prop := w_X12_in (v1).toInt64 (0 : Int64) (1 : Int64) M (fun (r4 : Int32) (M3 : Mem) => ((r4 = 0 → q (-2 : Int32) M3) ∧ (¬ r4 = 0 → w_X12_many (5 : Int32) M3 (fun (r7 : Int32) (M6 : Mem) => ((¬ v1 = (1 : Int32) → w_X12_odds_b26 r7 (0 : Int32) M6 q) ∧ (v1 = (1 : Int32) → w_X12_odds_b26 r7 (1 : Int32) M6 q))))))
set_option maxRecDepth 100000 in
set_option maxHeartbeats 4000000 in
theorem ok_X12_odds {g : Gl} {l : Launch} {v1 : Int32} {M : Mem} {q : Int32 → Mem → Prop} (hw : w_X12_odds v1 M q) : CtI g l yX12_odds cX12_odds 2 (some .int) 2 27 [.ref (g.2.2.2 + 135), .int v1] M q := by
  refine n_introI (by decide +kernel) (Nat.le_of_ble_eq_true rfl) (fun c C r => ?_)
  have C : Cx c cX12_odds 2 RX12 g l (Rm 2 27) := C
  refine x_sub [0, 1] (lv' := [(0, .ref (g.2.2.2 + 135)), (1, .int v1)]) rfl ?_
  unfold w_X12_odds at hw
  refine x_iload_n C dX12_odds_0 rfl rfl ?_
  refine x_i2l C dX12_odds_1 ?_
  refine x_lconst (v := (0 : Int64)) C dX12_odds_2 (by decide) ?_
  refine x_lconst (v := (1 : Int64)) C dX12_odds_3 (by decide) ?_
  refine n_callSI C (ok_X12_in  hw) ms_X12_70 rfl rfl ⟨Nat.le_of_ble_eq_true rfl, Nat.le_of_ble_eq_true rfl⟩ (Nat.le_of_ble_eq_true rfl) dX12_odds_4 (fun r4 M3 hw => ?_)
  refine x_if_eq (tgt := 32) C dX12_odds_7 (by decide) (fun h5 => ?_) (fun h5 => ?_)
  · replace hw := hw.1 h5
    refine x_bipush (v := (-2 : Int32)) C dX12_odds_32 (by decide) ?_
    exact n_ireturn C r dX12_odds_34 hw
  · replace hw := hw.2 h5
    refine x_aload_n C dX12_odds_10 rfl rfl ?_
    refine x_aload_n C dX12_odds_11 rfl rfl ?_
    refine x_iconst (v := (5 : Int32)) C dX12_odds_12 (by decide) ?_
    refine n_callVI s135 rfl C (ok_X12_many  hw) mv_X12_66 rfl rfl ⟨Nat.le_of_ble_eq_true rfl, Nat.le_of_ble_eq_true rfl⟩ (Nat.le_of_ble_eq_true rfl) dX12_odds_13 (fun r7 M6 hw => ?_)
    refine x_iload_n C dX12_odds_16 rfl rfl ?_
    refine x_iconst (v := (1 : Int32)) C dX12_odds_17 (by decide) ?_
    refine x_icmp_ne (tgt := 25) C dX12_odds_18 (by decide) (fun h8 => ?_) (fun h8 => ?_)
    · replace hw := hw.1 h8
      refine x_iconst (v := (0 : Int32)) C dX12_odds_25 (by decide) ?_
      exact x_sub [] rfl (ok_X12_odds_b26 C r  hw)
    · replace hw := hw.2 h8
      refine x_iconst (v := (1 : Int32)) C dX12_odds_21 (by decide) ?_
      refine x_goto (tgt := 26) C dX12_odds_22 (by decide) ?_
      exact x_sub [] rfl (ok_X12_odds_b26 C r  hw)

def w_X12_look_b30 (v1 : Int32) (t0 : Int32) (M : Mem) (q : Int32 → Mem → Prop) : Prop := w_X12_in (v1).toInt64 ((t0 + (1 : Int32))).toInt64 (16 : Int64) M (fun (r2 : Int32) (M1 : Mem) => ((¬ r2 = 0 → w_X12_many (6 : Int32) M1 (fun (r5 : Int32) (M4 : Mem) => ((¬ r5 = (8 : Int32) → w_X12_many (6 : Int32) M4 (fun (r8 : Int32) (M7 : Mem) => vp_in ((4162 : Int32) + r8) 4230 ∧ ∀ M10 : Mem, M10 = uI M7 136 (((4162 : Int32) + r8)).toNatClampNeg v1 → ∀ M11 : Mem, M11 = uI M10 136 4216 ((M10.1 136 4216) + (1 : Int32)) → w_X12_many (6 : Int32) M11 (fun (r13 : Int32) (M12 : Mem) => q r13 M12))) ∧ (r5 = (8 : Int32) → q (-4 : Int32) M4)))) ∧ (r2 = 0 → q (-2 : Int32) M1)))
set_option maxRecDepth 100000 in
set_option maxHeartbeats 4000000 in
theorem ok_X12_look_b30 {c : CtxT} {g : Gl} {l : Launch} {v1 : Int32} {t0 : Int32} {q : Int32 → Mem → Prop} {M : Mem} (C : Cx c cX12_look 3 RX12 g l (Rm 2 25)) (r : Rt c (some .int) (pI q) 0 0) (hw : w_X12_look_b30 v1 t0 M q ) : X c S0 30 [(0, .ref (g.2.2.2 + 135)), (1, .int v1)] [.int t0] (stat M) := by
  unfold w_X12_look_b30 at hw
  refine x_istore_n C dX12_look_30 rfl (Nat.le_of_ble_eq_true rfl) ?_
  refine x_iload_n C dX12_look_31 rfl rfl ?_
  refine x_i2l C dX12_look_32 ?_
  refine x_iload_n C dX12_look_33 rfl rfl ?_
  refine x_iconst (v := (1 : Int32)) C dX12_look_34 (by decide) ?_
  refine x_iadd C dX12_look_35 ?_
  refine x_i2l C dX12_look_36 ?_
  refine x_ldc2_w (v := (16 : Int64)) C dX12_look_37 kc_X12_105 ?_
  refine n_callSI C (ok_X12_in  hw) ms_X12_70 rfl rfl ⟨Nat.le_of_ble_eq_true rfl, Nat.le_of_ble_eq_true rfl⟩ (Nat.le_of_ble_eq_true rfl) dX12_look_40 (fun r2 M1 hw => ?_)
  refine x_if_ne (tgt := 49) C dX12_look_43 (by decide) (fun h3 => ?_) (fun h3 => ?_)
  · replace hw := hw.1 h3
    refine x_aload_n C dX12_look_49 rfl rfl ?_
    refine x_bipush (v := (6 : Int32)) C dX12_look_50 (by decide) ?_
    refine n_callVI s135 rfl C (ok_X12_many  hw) mv_X12_66 rfl rfl ⟨Nat.le_of_ble_eq_true rfl, Nat.le_of_ble_eq_true rfl⟩ (Nat.le_of_ble_eq_true rfl) dX12_look_52 (fun r5 M4 hw => ?_)
    refine x_bipush (v := (8 : Int32)) C dX12_look_55 (by decide) ?_
    refine x_icmp_ne (tgt := 63) C dX12_look_57 (by decide) (fun h6 => ?_) (fun h6 => ?_)
    · replace hw := hw.1 h6
      refine x_aload_n C dX12_look_63 rfl rfl ?_
      refine n_getS (dd := 1) C fl_X12_7 s135 (fun _ _ => rfl) rfl dX12_look_64 ?_
      refine x_sipush (v := (4162 : Int32)) C dX12_look_67 (by decide) ?_
      refine x_aload_n C dX12_look_70 rfl rfl ?_
      refine x_bipush (v := (6 : Int32)) C dX12_look_71 (by decide) ?_
      refine n_callVI s135 rfl C (ok_X12_many  hw) mv_X12_66 rfl rfl ⟨Nat.le_of_ble_eq_true rfl, Nat.le_of_ble_eq_true rfl⟩ (Nat.le_of_ble_eq_true rfl) dX12_look_73 (fun r8 M7 hw => ?_)
      refine x_iadd C dX12_look_76 ?_
      refine x_iload_n C dX12_look_77 rfl rfl ?_
      obtain ⟨h9, hw⟩ := hw
      obtain ⟨M10, eM10⟩ : ∃ z : Mem, z = uI M7 136 (((4162 : Int32) + r8)).toNatClampNeg v1 := ⟨_, rfl⟩
      replace hw := hw M10 eM10
      refine a_iast C s136 ln136 rfl h9 eM10 dX12_look_78 ?_
      refine x_aload_n C dX12_look_79 rfl rfl ?_
      refine n_getS (dd := 1) C fl_X12_7 s135 (fun _ _ => rfl) rfl dX12_look_80 ?_
      refine x_sipush (v := (4216 : Int32)) C dX12_look_83 (by decide) ?_
      refine x_dup2_11 C dX12_look_86 rfl rfl ?_
      refine a_ialdL (ni := 4216) C s136 ln136 (by decide) (vin _ _ (by decide +kernel)) dX12_look_87 ?_
      refine x_iconst (v := (1 : Int32)) C dX12_look_88 (by decide) ?_
      refine x_iadd C dX12_look_89 ?_
      obtain ⟨M11, eM11⟩ : ∃ z : Mem, z = uI M10 136 4216 ((M10.1 136 4216) + (1 : Int32)) := ⟨_, rfl⟩
      replace hw := hw M11 eM11
      refine a_iast C s136 ln136 (by decide) (vin _ _ (by decide +kernel)) eM11 dX12_look_90 ?_
      refine x_aload_n C dX12_look_91 rfl rfl ?_
      refine x_bipush (v := (6 : Int32)) C dX12_look_92 (by decide) ?_
      refine n_callVI s135 rfl C (ok_X12_many  hw) mv_X12_66 rfl rfl ⟨Nat.le_of_ble_eq_true rfl, Nat.le_of_ble_eq_true rfl⟩ (Nat.le_of_ble_eq_true rfl) dX12_look_94 (fun r13 M12 hw => ?_)
      exact n_ireturn C r dX12_look_97 hw
    · replace hw := hw.2 h6
      refine x_bipush (v := (-4 : Int32)) C dX12_look_60 (by decide) ?_
      exact n_ireturn C r dX12_look_62 hw
  · replace hw := hw.2 h3
    refine x_bipush (v := (-2 : Int32)) C dX12_look_46 (by decide) ?_
    exact n_ireturn C r dX12_look_48 hw
def w_X12_look (v1 : Int32) (M : Mem) (q : Int32 → Mem → Prop) : Prop := w_X12_many (6 : Int32) M (fun (r15 : Int32) (M14 : Mem) => ((¬ r15 = 0 → w_X12_many (6 : Int32) M14 (fun (r18 : Int32) (M17 : Mem) => vp_in (((4162 : Int32) + r18) - (1 : Int32)) 4230 ∧ w_X12_look_b30 v1 (M17.1 136 ((((4162 : Int32) + r18) - (1 : Int32))).toNatClampNeg) M17 q)) ∧ (r15 = 0 → w_X12_look_b30 v1 (0 : Int32) M14 q)))
set_option maxRecDepth 100000 in
set_option maxHeartbeats 4000000 in
theorem ok_X12_look {g : Gl} {l : Launch} {v1 : Int32} {M : Mem} {q : Int32 → Mem → Prop} (hw : w_X12_look v1 M q) : CtI g l yX12_look cX12_look 3 (some .int) 2 25 [.ref (g.2.2.2 + 135), .int v1] M q := by
  refine n_introI (by decide +kernel) (Nat.le_of_ble_eq_true rfl) (fun c C r => ?_)
  have C : Cx c cX12_look 3 RX12 g l (Rm 2 25) := C
  refine x_sub [0, 1] (lv' := [(0, .ref (g.2.2.2 + 135)), (1, .int v1)]) rfl ?_
  unfold w_X12_look at hw
  refine x_aload_n C dX12_look_0 rfl rfl ?_
  refine x_bipush (v := (6 : Int32)) C dX12_look_1 (by decide) ?_
  refine n_callVI s135 rfl C (ok_X12_many  hw) mv_X12_66 rfl rfl ⟨Nat.le_of_ble_eq_true rfl, Nat.le_of_ble_eq_true rfl⟩ (Nat.le_of_ble_eq_true rfl) dX12_look_3 (fun r15 M14 hw => ?_)
  refine x_if_ne (tgt := 13) C dX12_look_6 (by decide) (fun h16 => ?_) (fun h16 => ?_)
  · replace hw := hw.1 h16
    refine x_aload_n C dX12_look_13 rfl rfl ?_
    refine n_getS (dd := 1) C fl_X12_7 s135 (fun _ _ => rfl) rfl dX12_look_14 ?_
    refine x_sipush (v := (4162 : Int32)) C dX12_look_17 (by decide) ?_
    refine x_aload_n C dX12_look_20 rfl rfl ?_
    refine x_bipush (v := (6 : Int32)) C dX12_look_21 (by decide) ?_
    refine n_callVI s135 rfl C (ok_X12_many  hw) mv_X12_66 rfl rfl ⟨Nat.le_of_ble_eq_true rfl, Nat.le_of_ble_eq_true rfl⟩ (Nat.le_of_ble_eq_true rfl) dX12_look_23 (fun r18 M17 hw => ?_)
    refine x_iadd C dX12_look_26 ?_
    refine x_iconst (v := (1 : Int32)) C dX12_look_27 (by decide) ?_
    refine x_isub C dX12_look_28 ?_
    obtain ⟨h19, hw⟩ := hw
    refine a_iald C s136 ln136 h19 dX12_look_29 ?_
    exact x_sub [0, 1] rfl (ok_X12_look_b30 C r  hw)
  · replace hw := hw.2 h16
    refine x_iconst (v := (0 : Int32)) C dX12_look_9 (by decide) ?_
    refine x_goto (tgt := 30) C dX12_look_10 (by decide) ?_
    exact x_sub [0, 1] rfl (ok_X12_look_b30 C r  hw)

def w_X12_sure (v1 : Int32) (v2 : Int32) (M : Mem) (q : Int32 → Mem → Prop) : Prop := w_X12_in (v1).toInt64 (2 : Int64) (1000 : Int64) M (fun (r2 : Int32) (M1 : Mem) => ((r2 = 0 → q (-2 : Int32) M1) ∧ (¬ r2 = 0 → w_X12_in (v2).toInt64 (0 : Int64) (10000 : Int64) M1 (fun (r5 : Int32) (M4 : Mem) => ((¬ r5 = 0 → ∀ M7 : Mem, M7 = uI M4 136 4218 v1 → ∀ M8 : Mem, M8 = uI M7 136 4219 v2 → ∀ M9 : Mem, M9 = uI M8 136 4216 (0 : Int32) → q (1 : Int32) M9) ∧ (r5 = 0 → q (-2 : Int32) M4))))))
set_option maxRecDepth 100000 in
set_option maxHeartbeats 4000000 in
theorem ok_X12_sure {g : Gl} {l : Launch} {v1 : Int32} {v2 : Int32} {M : Mem} {q : Int32 → Mem → Prop} (hw : w_X12_sure v1 v2 M q) : CtI g l yX12_sure cX12_sure 3 (some .int) 2 25 [.ref (g.2.2.2 + 135), .int v1, .int v2] M q := by
  refine n_introI (by decide +kernel) (Nat.le_of_ble_eq_true rfl) (fun c C r => ?_)
  have C : Cx c cX12_sure 3 RX12 g l (Rm 2 25) := C
  refine x_sub [0, 1, 2] (lv' := [(0, .ref (g.2.2.2 + 135)), (1, .int v1), (2, .int v2)]) rfl ?_
  unfold w_X12_sure at hw
  refine x_iload_n C dX12_sure_0 rfl rfl ?_
  refine x_i2l C dX12_sure_1 ?_
  refine x_ldc2_w (v := (2 : Int64)) C dX12_sure_2 kc_X12_190 ?_
  refine x_ldc2_w (v := (1000 : Int64)) C dX12_sure_5 kc_X12_80 ?_
  refine n_callSI C (ok_X12_in  hw) ms_X12_70 rfl rfl ⟨Nat.le_of_ble_eq_true rfl, Nat.le_of_ble_eq_true rfl⟩ (Nat.le_of_ble_eq_true rfl) dX12_sure_8 (fun r2 M1 hw => ?_)
  refine x_if_eq (tgt := 26) C dX12_sure_11 (by decide) (fun h3 => ?_) (fun h3 => ?_)
  · replace hw := hw.1 h3
    refine x_bipush (v := (-2 : Int32)) C dX12_sure_26 (by decide) ?_
    exact n_ireturn C r dX12_sure_28 hw
  · replace hw := hw.2 h3
    refine x_iload_n C dX12_sure_14 rfl rfl ?_
    refine x_i2l C dX12_sure_15 ?_
    refine x_lconst (v := (0 : Int64)) C dX12_sure_16 (by decide) ?_
    refine x_ldc2_w (v := (10000 : Int64)) C dX12_sure_17 kc_X12_192 ?_
    refine n_callSI C (ok_X12_in  hw) ms_X12_70 rfl rfl ⟨Nat.le_of_ble_eq_true rfl, Nat.le_of_ble_eq_true rfl⟩ (Nat.le_of_ble_eq_true rfl) dX12_sure_20 (fun r5 M4 hw => ?_)
    refine x_if_ne (tgt := 29) C dX12_sure_23 (by decide) (fun h6 => ?_) (fun h6 => ?_)
    · replace hw := hw.1 h6
      refine x_aload_n C dX12_sure_29 rfl rfl ?_
      refine n_getS (dd := 1) C fl_X12_7 s135 (fun _ _ => rfl) rfl dX12_sure_30 ?_
      refine x_sipush (v := (4218 : Int32)) C dX12_sure_33 (by decide) ?_
      refine x_iload_n C dX12_sure_36 rfl rfl ?_
      obtain ⟨M7, eM7⟩ : ∃ z : Mem, z = uI M4 136 4218 v1 := ⟨_, rfl⟩
      replace hw := hw M7 eM7
      refine a_iast C s136 ln136 (by decide) (vin _ _ (by decide +kernel)) eM7 dX12_sure_37 ?_
      refine x_aload_n C dX12_sure_38 rfl rfl ?_
      refine n_getS (dd := 1) C fl_X12_7 s135 (fun _ _ => rfl) rfl dX12_sure_39 ?_
      refine x_sipush (v := (4219 : Int32)) C dX12_sure_42 (by decide) ?_
      refine x_iload_n C dX12_sure_45 rfl rfl ?_
      obtain ⟨M8, eM8⟩ : ∃ z : Mem, z = uI M7 136 4219 v2 := ⟨_, rfl⟩
      replace hw := hw M8 eM8
      refine a_iast C s136 ln136 (by decide) (vin _ _ (by decide +kernel)) eM8 dX12_sure_46 ?_
      refine x_aload_n C dX12_sure_47 rfl rfl ?_
      refine n_getS (dd := 1) C fl_X12_7 s135 (fun _ _ => rfl) rfl dX12_sure_48 ?_
      refine x_sipush (v := (4216 : Int32)) C dX12_sure_51 (by decide) ?_
      refine x_iconst (v := (0 : Int32)) C dX12_sure_54 (by decide) ?_
      obtain ⟨M9, eM9⟩ : ∃ z : Mem, z = uI M8 136 4216 (0 : Int32) := ⟨_, rfl⟩
      replace hw := hw M9 eM9
      refine a_iast C s136 ln136 (by decide) (vin _ _ (by decide +kernel)) eM9 dX12_sure_55 ?_
      refine x_iconst (v := (1 : Int32)) C dX12_sure_56 (by decide) ?_
      exact n_ireturn C r dX12_sure_57 hw
    · replace hw := hw.2 h6
      refine x_bipush (v := (-2 : Int32)) C dX12_sure_26 (by decide) ?_
      exact n_ireturn C r dX12_sure_28 hw

def w_X12_answer_l136F (v2 : Int32) (q : Int32 → Mem → Prop) (P136 : Int32 × Mem → Prop) (s : Int32 × Mem) : Prop := match s with
  | (v3, M) => ((v2 ≤ v3 → w_X12_middle  M (fun (r3 : Int32) (M2 : Mem) => w_X12_many (9 : Int32) M2 (fun (r5 : Int32) (M4 : Mem) => w_X12_many (9 : Int32) M4 (fun (r7 : Int32) (M6 : Mem) => w_X12_in (r3).toInt64 ((-r5)).toInt64 (r7).toInt64 M6 (fun (r9 : Int32) (M8 : Mem) => ((r9 = 0 → q (4 : Int32) M8) ∧ (¬ r9 = 0 → q (3 : Int32) M8))))))) ∧ (¬ v2 ≤ v3 → vp_in ((4146 : Int32) + v3) 4230 ∧ w_X12_sortIn (M.1 136 (((4146 : Int32) + v3)).toNatClampNeg) M (fun (M12 : Mem) => ∀ x14 : Int32, x14 = v3 + (1 : Int32) → P136 (x14, M12))))
def w_X12_answer_l136 (v2 : Int32) (q : Int32 → Mem → Prop) (s : Int32 × Mem) : Prop := lfp (w_X12_answer_l136F v2 q ) s
set_option maxRecDepth 100000 in
set_option maxHeartbeats 4000000 in
theorem ok_X12_answer_l136 {c : CtxT} {g : Gl} {l : Launch} {v2 : Int32} {q : Int32 → Mem → Prop} {s : Int32 × Mem} (C : Cx c cX12_answer 6 RX12 g l (Rm 2 27)) (r : Rt c (some .int) (pI q) 0 0) (hw : w_X12_answer_l136 v2 q s) : X c S0 136 [(0, .ref (g.2.2.2 + 135)), (2, .int v2), (3, .int s.1)] [] (stat s.2) := hw (fun s => X c S0 136 [(0, .ref (g.2.2.2 + 135)), (2, .int v2), (3, .int s.1)] [] (stat s.2)) (fun s hw => by
    obtain ⟨v3, M⟩ := s
    try dsimp only [w_X12_answer_l136F] at hw
    try dsimp only
    refine x_iload_n C dX12_answer_136 rfl rfl ?_
    refine x_iload_n C dX12_answer_137 rfl rfl ?_
    refine x_icmp_ge (tgt := 161) C dX12_answer_138 (by decide) (fun h1 => ?_) (fun h1 => ?_)
    · replace hw := hw.1 h1
      refine x_aload_n C dX12_answer_161 rfl rfl ?_
      refine n_callVI s135 rfl C (ok_X12_middle  hw) mv_X12_181 rfl rfl ⟨Nat.le_of_ble_eq_true rfl, Nat.le_of_ble_eq_true rfl⟩ (Nat.le_of_ble_eq_true rfl) dX12_answer_162 (fun r3 M2 hw => ?_)
      refine x_i2l C dX12_answer_165 ?_
      refine x_aload_n C dX12_answer_166 rfl rfl ?_
      refine x_bipush (v := (9 : Int32)) C dX12_answer_167 (by decide) ?_
      refine n_callVI s135 rfl C (ok_X12_many  hw) mv_X12_66 rfl rfl ⟨Nat.le_of_ble_eq_true rfl, Nat.le_of_ble_eq_true rfl⟩ (Nat.le_of_ble_eq_true rfl) dX12_answer_169 (fun r5 M4 hw => ?_)
      refine x_ineg C dX12_answer_172 ?_
      refine x_i2l C dX12_answer_173 ?_
      refine x_aload_n C dX12_answer_174 rfl rfl ?_
      refine x_bipush (v := (9 : Int32)) C dX12_answer_175 (by decide) ?_
      refine n_callVI s135 rfl C (ok_X12_many  hw) mv_X12_66 rfl rfl ⟨Nat.le_of_ble_eq_true rfl, Nat.le_of_ble_eq_true rfl⟩ (Nat.le_of_ble_eq_true rfl) dX12_answer_177 (fun r7 M6 hw => ?_)
      refine x_i2l C dX12_answer_180 ?_
      refine n_callSI C (ok_X12_in  hw) ms_X12_70 rfl rfl ⟨Nat.le_of_ble_eq_true rfl, Nat.le_of_ble_eq_true rfl⟩ (Nat.le_of_ble_eq_true rfl) dX12_answer_181 (fun r9 M8 hw => ?_)
      refine x_if_eq (tgt := 191) C dX12_answer_184 (by decide) (fun h10 => ?_) (fun h10 => ?_)
      · replace hw := hw.1 h10
        refine x_iconst (v := (4 : Int32)) C dX12_answer_191 (by decide) ?_
        exact n_ireturn C r dX12_answer_192 hw
      · replace hw := hw.2 h10
        refine x_iconst (v := (3 : Int32)) C dX12_answer_187 (by decide) ?_
        refine x_goto (tgt := 192) C dX12_answer_188 (by decide) ?_
        exact n_ireturn C r dX12_answer_192 hw
    · replace hw := hw.2 h1
      refine x_aload_n C dX12_answer_141 rfl rfl ?_
      refine x_aload_n C dX12_answer_142 rfl rfl ?_
      refine n_getS (dd := 1) C fl_X12_7 s135 (fun _ _ => rfl) rfl dX12_answer_143 ?_
      refine x_sipush (v := (4146 : Int32)) C dX12_answer_146 (by decide) ?_
      refine x_iload_n C dX12_answer_149 rfl rfl ?_
      refine x_iadd C dX12_answer_150 ?_
      obtain ⟨h11, hw⟩ := hw
      refine a_iald C s136 ln136 h11 dX12_answer_151 ?_
      refine n_callVV s135 rfl C (ok_X12_sortIn  hw) mv_X12_174 rfl rfl ⟨Nat.le_of_ble_eq_true rfl, Nat.le_of_ble_eq_true rfl⟩ (Nat.le_of_ble_eq_true rfl) dX12_answer_152 (fun M12 hw => ?_)
      obtain ⟨x14, ex14⟩ : ∃ z : Int32, z = v3 + (1 : Int32) := ⟨_, rfl⟩
      replace hw := hw x14 ex14
      refine x_iinc (v := x14) C dX12_answer_155 rfl ex14.symm (Nat.le_of_ble_eq_true rfl) ?_
      refine x_goto (tgt := 136) C dX12_answer_158 (by decide) ?_
      exact x_sub [0, 2, 3] rfl hw)
def w_X12_answer_b105 (v1 : Int32) (M : Mem) (q : Int32 → Mem → Prop) : Prop := vp_in (((4162 : Int32) + v1) - (1 : Int32)) 4230 ∧ ∀ x16 : Int32, x16 = (M.1 136 ((((4162 : Int32) + v1) - (1 : Int32))).toNatClampNeg) → w_X12_many (5 : Int32) M (fun (r18 : Int32) (M17 : Mem) => ((x16 ≤ r18 → ∀ M20 : Mem, M20 = uI M17 135 12 (0 : Int32) → w_X12_answer_l136 x16 q ((0 : Int32), M20)) ∧ (¬ x16 ≤ r18 → q (0 : Int32) M17)))
set_option maxRecDepth 100000 in
set_option maxHeartbeats 4000000 in
theorem ok_X12_answer_b105 {c : CtxT} {g : Gl} {l : Launch} {v1 : Int32} {q : Int32 → Mem → Prop} {M : Mem} (C : Cx c cX12_answer 6 RX12 g l (Rm 2 27)) (r : Rt c (some .int) (pI q) 0 0) (hw : w_X12_answer_b105 v1 M q ) : X c S0 105 [(0, .ref (g.2.2.2 + 135)), (1, .int v1)] [] (stat M) := by
  unfold w_X12_answer_b105 at hw
  refine x_aload_n C dX12_answer_105 rfl rfl ?_
  refine n_getS (dd := 1) C fl_X12_7 s135 (fun _ _ => rfl) rfl dX12_answer_106 ?_
  refine x_sipush (v := (4162 : Int32)) C dX12_answer_109 (by decide) ?_
  refine x_iload_n C dX12_answer_112 rfl rfl ?_
  refine x_iadd C dX12_answer_113 ?_
  refine x_iconst (v := (1 : Int32)) C dX12_answer_114 (by decide) ?_
  refine x_isub C dX12_answer_115 ?_
  obtain ⟨h15, hw⟩ := hw
  refine a_iald C s136 ln136 h15 dX12_answer_116 ?_
  obtain ⟨x16, ex16⟩ : ∃ z : Int32, z = (M.1 136 ((((4162 : Int32) + v1) - (1 : Int32))).toNatClampNeg) := ⟨_, rfl⟩
  replace hw := hw x16 ex16
  refine x_topi ex16 ?_
  refine x_istore_n C dX12_answer_117 rfl (Nat.le_of_ble_eq_true rfl) ?_
  refine x_iload_n C dX12_answer_118 rfl rfl ?_
  refine x_aload_n C dX12_answer_119 rfl rfl ?_
  refine x_iconst (v := (5 : Int32)) C dX12_answer_120 (by decide) ?_
  refine n_callVI s135 rfl C (ok_X12_many  hw) mv_X12_66 rfl rfl ⟨Nat.le_of_ble_eq_true rfl, Nat.le_of_ble_eq_true rfl⟩ (Nat.le_of_ble_eq_true rfl) dX12_answer_121 (fun r18 M17 hw => ?_)
  refine x_icmp_le (tgt := 129) C dX12_answer_124 (by decide) (fun h19 => ?_) (fun h19 => ?_)
  · replace hw := hw.1 h19
    refine x_aload_n C dX12_answer_129 rfl rfl ?_
    refine x_iconst (v := (0 : Int32)) C dX12_answer_130 (by decide) ?_
    obtain ⟨M20, eM20⟩ : ∃ z : Mem, z = uI M17 135 12 (0 : Int32) := ⟨_, rfl⟩
    replace hw := hw M20 eM20
    refine m_putI C fp_X12_171 s135 (fun _ _ => rfl) rfl rfl eM20 dX12_answer_131 ?_
    refine x_iconst (v := (0 : Int32)) C dX12_answer_134 (by decide) ?_
    refine x_istore_n C dX12_answer_135 rfl (Nat.le_of_ble_eq_true rfl) ?_
    exact x_sub [0, 2, 3] rfl (ok_X12_answer_l136 C r  hw)
  · replace hw := hw.2 h19
    refine x_iconst (v := (0 : Int32)) C dX12_answer_127 (by decide) ?_
    exact n_ireturn C r dX12_answer_128 hw
def w_X12_answer_l15F (v1 : Int32) (q : Int32 → Mem → Prop) (P15 : Int32 × Mem → Prop) (s : Int32 × Mem) : Prop := match s with
  | (v2, M) => ((v1 ≤ v2 → w_X12_answer_b105 v1 M q) ∧ (¬ v1 ≤ v2 → vp_in ((4162 : Int32) + v2) 4230 ∧ w_X12_many (5 : Int32) M (fun (r24 : Int32) (M23 : Mem) => ((r24 < (M.1 136 (((4162 : Int32) + v2)).toNatClampNeg) → w_X12_answer_b105 v1 M23 q) ∧ (¬ r24 < (M.1 136 (((4162 : Int32) + v2)).toNatClampNeg) → vp_in ((4162 : Int32) + v2) 4230 ∧ ∀ x27 : Int32, x27 = (M23.1 136 (((4162 : Int32) + v2)).toNatClampNeg) → w_X12_many (8 : Int32) M23 (fun (r29 : Int32) (M28 : Mem) => ∀ x30 : Int64, x30 = ((r29).toInt64 * (v1).toInt64) → w_X12_oddsOf x27 (0 : Int32) M28 (fun (r32 : Int32) (M31 : Mem) => ((((1 : Int64) <<< ((x27).toInt64 &&& 63)) < ((r32).toInt64 * x30) → w_X12_oddsOf x27 (1 : Int32) M31 (fun (r35 : Int32) (M34 : Mem) => ((((1 : Int64) <<< ((x27).toInt64 &&& 63)) < ((r35).toInt64 * x30) → ∀ x37 : Int32, x37 = v2 + (1 : Int32) → P15 (x37, M34)) ∧ (¬ ((1 : Int64) <<< ((x27).toInt64 &&& 63)) < ((r35).toInt64 * x30) → q (2 : Int32) M34)))) ∧ (¬ ((1 : Int64) <<< ((x27).toInt64 &&& 63)) < ((r32).toInt64 * x30) → q (1 : Int32) M31)))))))))
def w_X12_answer_l15 (v1 : Int32) (q : Int32 → Mem → Prop) (s : Int32 × Mem) : Prop := lfp (w_X12_answer_l15F v1 q ) s
set_option maxRecDepth 100000 in
set_option maxHeartbeats 4000000 in
theorem ok_X12_answer_l15 {c : CtxT} {g : Gl} {l : Launch} {v1 : Int32} {q : Int32 → Mem → Prop} {s : Int32 × Mem} (C : Cx c cX12_answer 6 RX12 g l (Rm 2 27)) (r : Rt c (some .int) (pI q) 0 0) (hw : w_X12_answer_l15 v1 q s) : X c S0 15 [(0, .ref (g.2.2.2 + 135)), (1, .int v1), (2, .int s.1)] [] (stat s.2) := hw (fun s => X c S0 15 [(0, .ref (g.2.2.2 + 135)), (1, .int v1), (2, .int s.1)] [] (stat s.2)) (fun s hw => by
    obtain ⟨v2, M⟩ := s
    try dsimp only [w_X12_answer_l15F] at hw
    try dsimp only
    refine x_iload_n C dX12_answer_15 rfl rfl ?_
    refine x_iload_n C dX12_answer_16 rfl rfl ?_
    refine x_icmp_ge (tgt := 105) C dX12_answer_17 (by decide) (fun h21 => ?_) (fun h21 => ?_)
    · replace hw := hw.1 h21
      exact x_sub [0, 1] rfl (ok_X12_answer_b105 C r  hw)
    · replace hw := hw.2 h21
      refine x_aload_n C dX12_answer_20 rfl rfl ?_
      refine n_getS (dd := 1) C fl_X12_7 s135 (fun _ _ => rfl) rfl dX12_answer_21 ?_
      refine x_sipush (v := (4162 : Int32)) C dX12_answer_24 (by decide) ?_
      refine x_iload_n C dX12_answer_27 rfl rfl ?_
      refine x_iadd C dX12_answer_28 ?_
      obtain ⟨h22, hw⟩ := hw
      refine a_iald C s136 ln136 h22 dX12_answer_29 ?_
      refine x_aload_n C dX12_answer_30 rfl rfl ?_
      refine x_iconst (v := (5 : Int32)) C dX12_answer_31 (by decide) ?_
      refine n_callVI s135 rfl C (ok_X12_many  hw) mv_X12_66 rfl rfl ⟨Nat.le_of_ble_eq_true rfl, Nat.le_of_ble_eq_true rfl⟩ (Nat.le_of_ble_eq_true rfl) dX12_answer_32 (fun r24 M23 hw => ?_)
      refine x_icmp_gt (tgt := 105) C dX12_answer_35 (by decide) (fun h25 => ?_) (fun h25 => ?_)
      · replace hw := hw.1 h25
        exact x_sub [0, 1] rfl (ok_X12_answer_b105 C r  hw)
      · replace hw := hw.2 h25
        refine x_aload_n C dX12_answer_38 rfl rfl ?_
        refine n_getS (dd := 1) C fl_X12_7 s135 (fun _ _ => rfl) rfl dX12_answer_39 ?_
        refine x_sipush (v := (4162 : Int32)) C dX12_answer_42 (by decide) ?_
        refine x_iload_n C dX12_answer_45 rfl rfl ?_
        refine x_iadd C dX12_answer_46 ?_
        obtain ⟨h26, hw⟩ := hw
        refine a_iald C s136 ln136 h26 dX12_answer_47 ?_
        obtain ⟨x27, ex27⟩ : ∃ z : Int32, z = (M23.1 136 (((4162 : Int32) + v2)).toNatClampNeg) := ⟨_, rfl⟩
        replace hw := hw x27 ex27
        refine x_topi ex27 ?_
        refine x_istore_n C dX12_answer_48 rfl (Nat.le_of_ble_eq_true rfl) ?_
        refine x_aload_n C dX12_answer_49 rfl rfl ?_
        refine x_bipush (v := (8 : Int32)) C dX12_answer_50 (by decide) ?_
        refine n_callVI s135 rfl C (ok_X12_many  hw) mv_X12_66 rfl rfl ⟨Nat.le_of_ble_eq_true rfl, Nat.le_of_ble_eq_true rfl⟩ (Nat.le_of_ble_eq_true rfl) dX12_answer_52 (fun r29 M28 hw => ?_)
        refine x_i2l C dX12_answer_55 ?_
        refine x_iload_n C dX12_answer_56 rfl rfl ?_
        refine x_i2l C dX12_answer_57 ?_
        refine x_lmul C dX12_answer_58 ?_
        obtain ⟨x30, ex30⟩ : ∃ z : Int64, z = ((r29).toInt64 * (v1).toInt64) := ⟨_, rfl⟩
        replace hw := hw x30 ex30
        refine x_topj ex30 ?_
        refine x_lstore C dX12_answer_59 (Nat.le_of_ble_eq_true rfl) ?_
        refine x_aload_n C dX12_answer_61 rfl rfl ?_
        refine x_iload_n C dX12_answer_62 rfl rfl ?_
        refine x_iconst (v := (0 : Int32)) C dX12_answer_63 (by decide) ?_
        refine n_callVI s135 rfl C (ok_X12_oddsOf  hw) mv_X12_186 rfl rfl ⟨Nat.le_of_ble_eq_true rfl, Nat.le_of_ble_eq_true rfl⟩ (Nat.le_of_ble_eq_true rfl) dX12_answer_64 (fun r32 M31 hw => ?_)
        refine x_i2l C dX12_answer_67 ?_
        refine x_lload C dX12_answer_68 rfl ?_
        refine x_lmul C dX12_answer_70 ?_
        refine x_lconst (v := (1 : Int64)) C dX12_answer_71 (by decide) ?_
        refine x_iload_n C dX12_answer_72 rfl rfl ?_
        refine x_lshl C dX12_answer_73 ?_
        refine x_lc_gt (tgt := 80) C dX12_answer_74 dX12_answer_75 (by decide) (fun h33 => ?_) (fun h33 => ?_)
        · replace hw := hw.1 h33
          refine x_aload_n C dX12_answer_80 rfl rfl ?_
          refine x_iload_n C dX12_answer_81 rfl rfl ?_
          refine x_iconst (v := (1 : Int32)) C dX12_answer_82 (by decide) ?_
          refine n_callVI s135 rfl C (ok_X12_oddsOf  hw) mv_X12_186 rfl rfl ⟨Nat.le_of_ble_eq_true rfl, Nat.le_of_ble_eq_true rfl⟩ (Nat.le_of_ble_eq_true rfl) dX12_answer_83 (fun r35 M34 hw => ?_)
          refine x_i2l C dX12_answer_86 ?_
          refine x_lload C dX12_answer_87 rfl ?_
          refine x_lmul C dX12_answer_89 ?_
          refine x_lconst (v := (1 : Int64)) C dX12_answer_90 (by decide) ?_
          refine x_iload_n C dX12_answer_91 rfl rfl ?_
          refine x_lshl C dX12_answer_92 ?_
          refine x_lc_gt (tgt := 99) C dX12_answer_93 dX12_answer_94 (by decide) (fun h36 => ?_) (fun h36 => ?_)
          · replace hw := hw.1 h36
            obtain ⟨x37, ex37⟩ : ∃ z : Int32, z = v2 + (1 : Int32) := ⟨_, rfl⟩
            replace hw := hw x37 ex37
            refine x_iinc (v := x37) C dX12_answer_99 rfl ex37.symm (Nat.le_of_ble_eq_true rfl) ?_
            refine x_goto (tgt := 15) C dX12_answer_102 (by decide) ?_
            exact x_sub [0, 1, 2] rfl hw
          · replace hw := hw.2 h36
            refine x_iconst (v := (2 : Int32)) C dX12_answer_97 (by decide) ?_
            exact n_ireturn C r dX12_answer_98 hw
        · replace hw := hw.2 h33
          refine x_iconst (v := (1 : Int32)) C dX12_answer_78 (by decide) ?_
          exact n_ireturn C r dX12_answer_79 hw)
def w_X12_answer (M : Mem) (q : Int32 → Mem → Prop) : Prop := w_X12_many (6 : Int32) M (fun (r39 : Int32) (M38 : Mem) => ((¬ r39 = 0 → w_X12_answer_l15 r39 q ((0 : Int32), M38)) ∧ (r39 = 0 → q (0 : Int32) M38)))
set_option maxRecDepth 100000 in
set_option maxHeartbeats 4000000 in
theorem ok_X12_answer {g : Gl} {l : Launch} {M : Mem} {q : Int32 → Mem → Prop} (hw : w_X12_answer M q) : CtI g l yX12_answer cX12_answer 6 (some .int) 2 27 [.ref (g.2.2.2 + 135)] M q := by
  refine n_introI (by decide +kernel) (Nat.le_of_ble_eq_true rfl) (fun c C r => ?_)
  have C : Cx c cX12_answer 6 RX12 g l (Rm 2 27) := C
  refine x_sub [0] (lv' := [(0, .ref (g.2.2.2 + 135))]) rfl ?_
  unfold w_X12_answer at hw
  refine x_aload_n C dX12_answer_0 rfl rfl ?_
  refine x_bipush (v := (6 : Int32)) C dX12_answer_1 (by decide) ?_
  refine n_callVI s135 rfl C (ok_X12_many  hw) mv_X12_66 rfl rfl ⟨Nat.le_of_ble_eq_true rfl, Nat.le_of_ble_eq_true rfl⟩ (Nat.le_of_ble_eq_true rfl) dX12_answer_3 (fun r39 M38 hw => ?_)
  refine x_istore_n C dX12_answer_6 rfl (Nat.le_of_ble_eq_true rfl) ?_
  refine x_iload_n C dX12_answer_7 rfl rfl ?_
  refine x_if_ne (tgt := 13) C dX12_answer_8 (by decide) (fun h40 => ?_) (fun h40 => ?_)
  · replace hw := hw.1 h40
    refine x_iconst (v := (0 : Int32)) C dX12_answer_13 (by decide) ?_
    refine x_istore_n C dX12_answer_14 rfl (Nat.le_of_ble_eq_true rfl) ?_
    exact x_sub [0, 1, 2] rfl (ok_X12_answer_l15 C r  hw)
  · replace hw := hw.2 h40
    refine x_iconst (v := (0 : Int32)) C dX12_answer_11 (by decide) ?_
    exact n_ireturn C r dX12_answer_12 hw

def w_X12_farOf_b79 (v2 : Int32) (v3 : Int32) (v5 : Int32) (t0 : Int32) (t1 : Int32) (M : Mem) (q : Int32 → Mem → Prop) (P39 : Int32 × Int32 × Mem → Prop) : Prop := ∀ x1 : Int32, x1 = (t0 + t1) → ∀ x2 : Int32, x2 = v5 + (1 : Int32) → P39 (x1, x2, M)
set_option maxRecDepth 100000 in
set_option maxHeartbeats 4000000 in
theorem ok_X12_farOf_b79 {c : CtxT} {g : Gl} {l : Launch} {v2 : Int32} {v3 : Int32} {v5 : Int32} {t0 : Int32} {t1 : Int32} {q : Int32 → Mem → Prop} {P39 : Int32 × Int32 × Mem → Prop} {M : Mem} (C : Cx c cX12_farOf 6 RX12 g l (Rm 2 22)) (r : Rt c (some .int) (pI q) 0 0) (hP39 : ∀ (v4 : Int32) (v5 : Int32) (M : Mem), P39 (v4, v5, M) → X c S0 39 [(0, .ref (g.2.2.2 + 135)), (2, .int v2), (3, .int v3), (4, .int v4), (5, .int v5)] [] (stat M)) (hw : w_X12_farOf_b79 v2 v3 v5 t0 t1 M q P39) : X c S0 79 [(0, .ref (g.2.2.2 + 135)), (2, .int v2), (3, .int v3), (5, .int v5)] [.int t1, .int t0] (stat M) := by
  unfold w_X12_farOf_b79 at hw
  refine x_iadd C dX12_farOf_79 ?_
  obtain ⟨x1, ex1⟩ : ∃ z : Int32, z = (t0 + t1) := ⟨_, rfl⟩
  replace hw := hw x1 ex1
  refine x_topi ex1 ?_
  refine x_istore C dX12_farOf_80 (Nat.le_of_ble_eq_true rfl) ?_
  obtain ⟨x2, ex2⟩ : ∃ z : Int32, z = v5 + (1 : Int32) := ⟨_, rfl⟩
  replace hw := hw x2 ex2
  refine x_iinc (v := x2) C dX12_farOf_82 rfl ex2.symm (Nat.le_of_ble_eq_true rfl) ?_
  refine x_goto (tgt := 39) C dX12_farOf_85 (by decide) ?_
  exact x_sub [0, 2, 3, 4, 5] rfl (hP39 _ _ _ hw)
def w_X12_farOf_l39F (v2 : Int32) (v3 : Int32) (q : Int32 → Mem → Prop) (P39 : Int32 × Int32 × Mem → Prop) (s : Int32 × Int32 × Mem) : Prop := match s with
  | (v4, v5, M) => ((v2 ≤ v5 → q v4 M) ∧ (¬ v2 ≤ v5 → vp_in v5 24 ∧ (((M.1 146 (v5).toNatClampNeg) ≤ v3 → vp_in v5 24 ∧ w_X12_farOf_b79 v2 v3 v5 v4 (v3 - (M.1 146 (v5).toNatClampNeg)) M q P39) ∧ (¬ (M.1 146 (v5).toNatClampNeg) ≤ v3 → vp_in v5 24 ∧ w_X12_farOf_b79 v2 v3 v5 v4 ((M.1 146 (v5).toNatClampNeg) - v3) M q P39))))
def w_X12_farOf_l39 (v2 : Int32) (v3 : Int32) (q : Int32 → Mem → Prop) (s : Int32 × Int32 × Mem) : Prop := lfp (w_X12_farOf_l39F v2 v3 q ) s
set_option maxRecDepth 100000 in
set_option maxHeartbeats 4000000 in
theorem ok_X12_farOf_l39 {c : CtxT} {g : Gl} {l : Launch} {v2 : Int32} {v3 : Int32} {q : Int32 → Mem → Prop} {s : Int32 × Int32 × Mem} (C : Cx c cX12_farOf 6 RX12 g l (Rm 2 22)) (r : Rt c (some .int) (pI q) 0 0) (hw : w_X12_farOf_l39 v2 v3 q s) : X c S0 39 [(0, .ref (g.2.2.2 + 135)), (2, .int v2), (3, .int v3), (4, .int s.1), (5, .int s.2.1)] [] (stat s.2.2) := hw (fun s => X c S0 39 [(0, .ref (g.2.2.2 + 135)), (2, .int v2), (3, .int v3), (4, .int s.1), (5, .int s.2.1)] [] (stat s.2.2)) (fun s hw => by
    obtain ⟨v4, v5, M⟩ := s
    try dsimp only [w_X12_farOf_l39F] at hw
    try dsimp only
    refine x_iload C dX12_farOf_39 rfl ?_
    refine x_iload_n C dX12_farOf_41 rfl rfl ?_
    refine x_icmp_ge (tgt := 88) C dX12_farOf_42 (by decide) (fun h3 => ?_) (fun h3 => ?_)
    · replace hw := hw.1 h3
      refine x_iload C dX12_farOf_88 rfl ?_
      exact n_ireturn C r dX12_farOf_90 hw
    · replace hw := hw.2 h3
      refine x_iload C dX12_farOf_45 rfl ?_
      refine x_aload_n C dX12_farOf_47 rfl rfl ?_
      refine n_getS (dd := 11) C fl_X12_41 s135 (fun _ _ => rfl) rfl dX12_farOf_48 ?_
      refine x_iload C dX12_farOf_51 rfl ?_
      obtain ⟨h4, hw⟩ := hw
      refine a_iald C s146 ln146 h4 dX12_farOf_53 ?_
      refine x_iload_n C dX12_farOf_54 rfl rfl ?_
      refine x_icmp_le (tgt := 70) C dX12_farOf_55 (by decide) (fun h5 => ?_) (fun h5 => ?_)
      · replace hw := hw.1 h5
        refine x_iload_n C dX12_farOf_70 rfl rfl ?_
        refine x_aload_n C dX12_farOf_71 rfl rfl ?_
        refine n_getS (dd := 11) C fl_X12_41 s135 (fun _ _ => rfl) rfl dX12_farOf_72 ?_
        refine x_iload C dX12_farOf_75 rfl ?_
        obtain ⟨h6, hw⟩ := hw
        refine a_iald C s146 ln146 h6 dX12_farOf_77 ?_
        refine x_isub C dX12_farOf_78 ?_
        exact x_sub [0, 2, 3, 5] rfl (ok_X12_farOf_b79 C r (fun _ _ _ h => h) hw)
      · replace hw := hw.2 h5
        refine x_aload_n C dX12_farOf_58 rfl rfl ?_
        refine n_getS (dd := 11) C fl_X12_41 s135 (fun _ _ => rfl) rfl dX12_farOf_59 ?_
        refine x_iload C dX12_farOf_62 rfl ?_
        obtain ⟨h7, hw⟩ := hw
        refine a_iald C s146 ln146 h7 dX12_farOf_64 ?_
        refine x_iload_n C dX12_farOf_65 rfl rfl ?_
        refine x_isub C dX12_farOf_66 ?_
        refine x_goto (tgt := 79) C dX12_farOf_67 (by decide) ?_
        exact x_sub [0, 2, 3, 5] rfl (ok_X12_farOf_b79 C r (fun _ _ _ h => h) hw))
def w_X12_farOf_l7F (v1 : Int32) (v2 : Int32) (q : Int32 → Mem → Prop) (P7 : Int32 × Mem → Prop) (s : Int32 × Mem) : Prop := match s with
  | (v3, M) => ((v2 ≤ v3 → w_X12_middle  M (fun (r10 : Int32) (M9 : Mem) => w_X12_farOf_l39 v2 r10 q ((0 : Int32), v1, M9))) ∧ (¬ v2 ≤ v3 → vp_in v3 24 ∧ w_X12_sortIn (M.1 146 (v3).toNatClampNeg) M (fun (M12 : Mem) => ∀ x14 : Int32, x14 = v3 + (1 : Int32) → P7 (x14, M12))))
def w_X12_farOf_l7 (v1 : Int32) (v2 : Int32) (q : Int32 → Mem → Prop) (s : Int32 × Mem) : Prop := lfp (w_X12_farOf_l7F v1 v2 q ) s
set_option maxRecDepth 100000 in
set_option maxHeartbeats 4000000 in
theorem ok_X12_farOf_l7 {c : CtxT} {g : Gl} {l : Launch} {v1 : Int32} {v2 : Int32} {q : Int32 → Mem → Prop} {s : Int32 × Mem} (C : Cx c cX12_farOf 6 RX12 g l (Rm 2 22)) (r : Rt c (some .int) (pI q) 0 0) (hw : w_X12_farOf_l7 v1 v2 q s) : X c S0 7 [(0, .ref (g.2.2.2 + 135)), (1, .int v1), (2, .int v2), (3, .int s.1)] [] (stat s.2) := hw (fun s => X c S0 7 [(0, .ref (g.2.2.2 + 135)), (1, .int v1), (2, .int v2), (3, .int s.1)] [] (stat s.2)) (fun s hw => by
    obtain ⟨v3, M⟩ := s
    try dsimp only [w_X12_farOf_l7F] at hw
    try dsimp only
    refine x_iload_n C dX12_farOf_7 rfl rfl ?_
    refine x_iload_n C dX12_farOf_8 rfl rfl ?_
    refine x_icmp_ge (tgt := 28) C dX12_farOf_9 (by decide) (fun h8 => ?_) (fun h8 => ?_)
    · replace hw := hw.1 h8
      refine x_aload_n C dX12_farOf_28 rfl rfl ?_
      refine n_callVI s135 rfl C (ok_X12_middle  hw) mv_X12_181 rfl rfl ⟨Nat.le_of_ble_eq_true rfl, Nat.le_of_ble_eq_true rfl⟩ (Nat.le_of_ble_eq_true rfl) dX12_farOf_29 (fun r10 M9 hw => ?_)
      refine x_istore_n C dX12_farOf_32 rfl (Nat.le_of_ble_eq_true rfl) ?_
      refine x_iconst (v := (0 : Int32)) C dX12_farOf_33 (by decide) ?_
      refine x_istore C dX12_farOf_34 (Nat.le_of_ble_eq_true rfl) ?_
      refine x_iload_n C dX12_farOf_36 rfl rfl ?_
      refine x_istore C dX12_farOf_37 (Nat.le_of_ble_eq_true rfl) ?_
      exact x_sub [0, 2, 3, 4, 5] rfl (ok_X12_farOf_l39 C r  hw)
    · replace hw := hw.2 h8
      refine x_aload_n C dX12_farOf_12 rfl rfl ?_
      refine x_aload_n C dX12_farOf_13 rfl rfl ?_
      refine n_getS (dd := 11) C fl_X12_41 s135 (fun _ _ => rfl) rfl dX12_farOf_14 ?_
      refine x_iload_n C dX12_farOf_17 rfl rfl ?_
      obtain ⟨h11, hw⟩ := hw
      refine a_iald C s146 ln146 h11 dX12_farOf_18 ?_
      refine n_callVV s135 rfl C (ok_X12_sortIn  hw) mv_X12_174 rfl rfl ⟨Nat.le_of_ble_eq_true rfl, Nat.le_of_ble_eq_true rfl⟩ (Nat.le_of_ble_eq_true rfl) dX12_farOf_19 (fun M12 hw => ?_)
      obtain ⟨x14, ex14⟩ : ∃ z : Int32, z = v3 + (1 : Int32) := ⟨_, rfl⟩
      replace hw := hw x14 ex14
      refine x_iinc (v := x14) C dX12_farOf_22 rfl ex14.symm (Nat.le_of_ble_eq_true rfl) ?_
      refine x_goto (tgt := 7) C dX12_farOf_25 (by decide) ?_
      exact x_sub [0, 1, 2, 3] rfl hw)
def w_X12_farOf (v1 : Int32) (v2 : Int32) (M : Mem) (q : Int32 → Mem → Prop) : Prop := ∀ M15 : Mem, M15 = uI M 135 12 (0 : Int32) → w_X12_farOf_l7 v1 v2 q (v1, M15)
set_option maxRecDepth 100000 in
set_option maxHeartbeats 4000000 in
theorem ok_X12_farOf {g : Gl} {l : Launch} {v1 : Int32} {v2 : Int32} {M : Mem} {q : Int32 → Mem → Prop} (hw : w_X12_farOf v1 v2 M q) : CtI g l yX12_farOf cX12_farOf 6 (some .int) 2 22 [.ref (g.2.2.2 + 135), .int v1, .int v2] M q := by
  refine n_introI (by decide +kernel) (Nat.le_of_ble_eq_true rfl) (fun c C r => ?_)
  have C : Cx c cX12_farOf 6 RX12 g l (Rm 2 22) := C
  refine x_sub [0, 1, 2] (lv' := [(0, .ref (g.2.2.2 + 135)), (1, .int v1), (2, .int v2)]) rfl ?_
  unfold w_X12_farOf at hw
  refine x_aload_n C dX12_farOf_0 rfl rfl ?_
  refine x_iconst (v := (0 : Int32)) C dX12_farOf_1 (by decide) ?_
  obtain ⟨M15, eM15⟩ : ∃ z : Mem, z = uI M 135 12 (0 : Int32) := ⟨_, rfl⟩
  replace hw := hw M15 eM15
  refine m_putI C fp_X12_171 s135 (fun _ _ => rfl) rfl rfl eM15 dX12_farOf_2 ?_
  refine x_iload_n C dX12_farOf_5 rfl rfl ?_
  refine x_istore_n C dX12_farOf_6 rfl (Nat.le_of_ble_eq_true rfl) ?_
  exact x_sub [0, 1, 2, 3] rfl (ok_X12_farOf_l7 C r  hw)

def w_X12_step__b247 (v5 : Int32) (v6 : Int32) (v7 : Int32) (v8 : Int32) (v10 : Int32) (t0 : Int32) (t1 : Int32) (M : Mem) (q : Int32 → Mem → Prop) (P205 : Int32 × Int32 × Mem → Prop) : Prop := ∀ x1 : Int32, x1 = (t0 ||| t1) → ∀ x2 : Int32, x2 = v10 + (1 : Int32) → P205 (x1, x2, M)
set_option maxRecDepth 100000 in
set_option maxHeartbeats 4000000 in
theorem ok_X12_step__b247 {c : CtxT} {g : Gl} {l : Launch} {v5 : Int32} {v6 : Int32} {v7 : Int32} {v8 : Int32} {v10 : Int32} {t0 : Int32} {t1 : Int32} {q : Int32 → Mem → Prop} {P205 : Int32 × Int32 × Mem → Prop} {M : Mem} (C : Cx c cX12_step_ 11 RX12 g l (Rm 4 70)) (r : Rt c (some .int) (pI q) 0 0) (hP205 : ∀ (v9 : Int32) (v10 : Int32) (M : Mem), P205 (v9, v10, M) → X c S0 205 [(0, .ref (g.2.2.2 + 135)), (5, .int v5), (6, .int v6), (7, .int v7), (8, .int v8), (9, .int v9), (10, .int v10)] [] (stat M)) (hw : w_X12_step__b247 v5 v6 v7 v8 v10 t0 t1 M q P205) : X c S0 247 [(0, .ref (g.2.2.2 + 135)), (5, .int v5), (6, .int v6), (7, .int v7), (8, .int v8), (10, .int v10)] [.int t1, .int t0] (stat M) := by
  unfold w_X12_step__b247 at hw
  refine x_ior C dX12_step__247 ?_
  obtain ⟨x1, ex1⟩ : ∃ z : Int32, z = (t0 ||| t1) := ⟨_, rfl⟩
  replace hw := hw x1 ex1
  refine x_topi ex1 ?_
  refine x_istore C dX12_step__248 (Nat.le_of_ble_eq_true rfl) ?_
  obtain ⟨x2, ex2⟩ : ∃ z : Int32, z = v10 + (1 : Int32) := ⟨_, rfl⟩
  replace hw := hw x2 ex2
  refine x_iinc (v := x2) C dX12_step__250 rfl ex2.symm (Nat.le_of_ble_eq_true rfl) ?_
  refine x_goto (tgt := 205) C dX12_step__253 (by decide) ?_
  exact x_sub [0, 5, 6, 7, 8, 9, 10] rfl (hP205 _ _ _ hw)
def w_X12_step__l205F (v5 : Int32) (v6 : Int32) (v7 : Int32) (v8 : Int32) (q : Int32 → Mem → Prop) (P205 : Int32 × Int32 × Mem → Prop) (s : Int32 × Int32 × Mem) : Prop := match s with
  | (v9, v10, M) => ((v7 ≤ v10 → ((¬ v6 = 0 → ((¬ v6 = (1 : Int32) → q v9 M) ∧ (v6 = (1 : Int32) → vp_in v8 24 ∧ q (M.1 148 (v8).toNatClampNeg) M))) ∧ (v6 = 0 → vp_in v8 24 ∧ q (M.1 147 (v8).toNatClampNeg) M))) ∧ (¬ v7 ≤ v10 → vp_in v10 24 ∧ vp_in v8 24 ∧ ((((M.1 148 (v8).toNatClampNeg) + v5) < (M.1 148 (v10).toNatClampNeg) → w_X12_step__b247 v5 v6 v7 v8 v10 v9 (0 : Int32) M q P205) ∧ (¬ ((M.1 148 (v8).toNatClampNeg) + v5) < (M.1 148 (v10).toNatClampNeg) → vp_in v10 24 ∧ w_X12_step__b247 v5 v6 v7 v8 v10 v9 ((1 : Int32) <<< ((M.1 147 (v10).toNatClampNeg) &&& 31)) M q P205))))
def w_X12_step__l205 (v5 : Int32) (v6 : Int32) (v7 : Int32) (v8 : Int32) (q : Int32 → Mem → Prop) (s : Int32 × Int32 × Mem) : Prop := lfp (w_X12_step__l205F v5 v6 v7 v8 q ) s
set_option maxRecDepth 100000 in
set_option maxHeartbeats 4000000 in
theorem ok_X12_step__l205 {c : CtxT} {g : Gl} {l : Launch} {v5 : Int32} {v6 : Int32} {v7 : Int32} {v8 : Int32} {q : Int32 → Mem → Prop} {s : Int32 × Int32 × Mem} (C : Cx c cX12_step_ 11 RX12 g l (Rm 4 70)) (r : Rt c (some .int) (pI q) 0 0) (hw : w_X12_step__l205 v5 v6 v7 v8 q s) : X c S0 205 [(0, .ref (g.2.2.2 + 135)), (5, .int v5), (6, .int v6), (7, .int v7), (8, .int v8), (9, .int s.1), (10, .int s.2.1)] [] (stat s.2.2) := hw (fun s => X c S0 205 [(0, .ref (g.2.2.2 + 135)), (5, .int v5), (6, .int v6), (7, .int v7), (8, .int v8), (9, .int s.1), (10, .int s.2.1)] [] (stat s.2.2)) (fun s hw => by
    obtain ⟨v9, v10, M⟩ := s
    try dsimp only [w_X12_step__l205F] at hw
    try dsimp only
    refine x_iload C dX12_step__205 rfl ?_
    refine x_iload C dX12_step__207 rfl ?_
    refine x_icmp_ge (tgt := 256) C dX12_step__209 (by decide) (fun h3 => ?_) (fun h3 => ?_)
    · replace hw := hw.1 h3
      refine x_iload C dX12_step__256 rfl ?_
      refine x_if_ne (tgt := 271) C dX12_step__258 (by decide) (fun h4 => ?_) (fun h4 => ?_)
      · replace hw := hw.1 h4
        refine x_iload C dX12_step__271 rfl ?_
        refine x_iconst (v := (1 : Int32)) C dX12_step__273 (by decide) ?_
        refine x_icmp_ne (tgt := 287) C dX12_step__274 (by decide) (fun h5 => ?_) (fun h5 => ?_)
        · replace hw := hw.1 h5
          refine x_iload C dX12_step__287 rfl ?_
          exact n_ireturn C r dX12_step__289 hw
        · replace hw := hw.2 h5
          refine x_aload_n C dX12_step__277 rfl rfl ?_
          refine n_getS (dd := 13) C fl_X12_47 s135 (fun _ _ => rfl) rfl dX12_step__278 ?_
          refine x_iload C dX12_step__281 rfl ?_
          obtain ⟨h6, hw⟩ := hw
          refine a_iald C s148 ln148 h6 dX12_step__283 ?_
          refine x_goto (tgt := 289) C dX12_step__284 (by decide) ?_
          exact n_ireturn C r dX12_step__289 hw
      · replace hw := hw.2 h4
        refine x_aload_n C dX12_step__261 rfl rfl ?_
        refine n_getS (dd := 12) C fl_X12_44 s135 (fun _ _ => rfl) rfl dX12_step__262 ?_
        refine x_iload C dX12_step__265 rfl ?_
        obtain ⟨h7, hw⟩ := hw
        refine a_iald C s147 ln147 h7 dX12_step__267 ?_
        refine x_goto (tgt := 289) C dX12_step__268 (by decide) ?_
        exact n_ireturn C r dX12_step__289 hw
    · replace hw := hw.2 h3
      refine x_iload C dX12_step__212 rfl ?_
      refine x_aload_n C dX12_step__214 rfl rfl ?_
      refine n_getS (dd := 13) C fl_X12_47 s135 (fun _ _ => rfl) rfl dX12_step__215 ?_
      refine x_iload C dX12_step__218 rfl ?_
      obtain ⟨h8, hw⟩ := hw
      refine a_iald C s148 ln148 h8 dX12_step__220 ?_
      refine x_aload_n C dX12_step__221 rfl rfl ?_
      refine n_getS (dd := 13) C fl_X12_47 s135 (fun _ _ => rfl) rfl dX12_step__222 ?_
      refine x_iload C dX12_step__225 rfl ?_
      obtain ⟨h9, hw⟩ := hw
      refine a_iald C s148 ln148 h9 dX12_step__227 ?_
      refine x_iload C dX12_step__228 rfl ?_
      refine x_iadd C dX12_step__230 ?_
      refine x_icmp_gt (tgt := 246) C dX12_step__231 (by decide) (fun h10 => ?_) (fun h10 => ?_)
      · replace hw := hw.1 h10
        refine x_iconst (v := (0 : Int32)) C dX12_step__246 (by decide) ?_
        exact x_sub [0, 5, 6, 7, 8, 10] rfl (ok_X12_step__b247 C r (fun _ _ _ h => h) hw)
      · replace hw := hw.2 h10
        refine x_iconst (v := (1 : Int32)) C dX12_step__234 (by decide) ?_
        refine x_aload_n C dX12_step__235 rfl rfl ?_
        refine n_getS (dd := 12) C fl_X12_44 s135 (fun _ _ => rfl) rfl dX12_step__236 ?_
        refine x_iload C dX12_step__239 rfl ?_
        obtain ⟨h11, hw⟩ := hw
        refine a_iald C s147 ln147 h11 dX12_step__241 ?_
        refine x_ishl C dX12_step__242 ?_
        refine x_goto (tgt := 247) C dX12_step__243 (by decide) ?_
        exact x_sub [0, 5, 6, 7, 8, 10] rfl (ok_X12_step__b247 C r (fun _ _ _ h => h) hw))
def w_X12_step__b191 (v5 : Int32) (v6 : Int32) (v7 : Int32) (v9 : Int32) (t0 : Int32) (M : Mem) (q : Int32 → Mem → Prop) (P137 : Int32 × Int32 × Mem → Prop) : Prop := ∀ x12 : Int32, x12 = v9 + (1 : Int32) → P137 (t0, x12, M)
set_option maxRecDepth 100000 in
set_option maxHeartbeats 4000000 in
theorem ok_X12_step__b191 {c : CtxT} {g : Gl} {l : Launch} {v5 : Int32} {v6 : Int32} {v7 : Int32} {v9 : Int32} {t0 : Int32} {q : Int32 → Mem → Prop} {P137 : Int32 × Int32 × Mem → Prop} {M : Mem} (C : Cx c cX12_step_ 11 RX12 g l (Rm 4 70)) (r : Rt c (some .int) (pI q) 0 0) (hP137 : ∀ (v8 : Int32) (v9 : Int32) (M : Mem), P137 (v8, v9, M) → X c S0 137 [(0, .ref (g.2.2.2 + 135)), (5, .int v5), (6, .int v6), (7, .int v7), (8, .int v8), (9, .int v9)] [] (stat M)) (hw : w_X12_step__b191 v5 v6 v7 v9 t0 M q P137) : X c S0 191 [(0, .ref (g.2.2.2 + 135)), (5, .int v5), (6, .int v6), (7, .int v7), (9, .int v9)] [.int t0] (stat M) := by
  unfold w_X12_step__b191 at hw
  refine x_istore C dX12_step__191 (Nat.le_of_ble_eq_true rfl) ?_
  obtain ⟨x12, ex12⟩ : ∃ z : Int32, z = v9 + (1 : Int32) := ⟨_, rfl⟩
  replace hw := hw x12 ex12
  refine x_iinc (v := x12) C dX12_step__193 rfl ex12.symm (Nat.le_of_ble_eq_true rfl) ?_
  refine x_goto (tgt := 137) C dX12_step__196 (by decide) ?_
  exact x_sub [0, 5, 6, 7, 8, 9] rfl (hP137 _ _ _ hw)
def w_X12_step__l137F (v5 : Int32) (v6 : Int32) (v7 : Int32) (q : Int32 → Mem → Prop) (P137 : Int32 × Int32 × Mem → Prop) (s : Int32 × Int32 × Mem) : Prop := match s with
  | (v8, v9, M) => ((v7 ≤ v9 → w_X12_step__l205 v5 v6 v7 v8 q ((0 : Int32), (1 : Int32), M)) ∧ (¬ v7 ≤ v9 → w_X12_farOf (0 : Int32) v9 M (fun (r15 : Int32) (M14 : Mem) => w_X12_farOf v9 v7 M14 (fun (r17 : Int32) (M16 : Mem) => vp_in v9 24 ∧ ∀ M19 : Mem, M19 = uI M16 148 (v9).toNatClampNeg (r15 + r17) → vp_in v9 24 ∧ vp_in v8 24 ∧ (((M19.1 148 (v8).toNatClampNeg) ≤ (M19.1 148 (v9).toNatClampNeg) → w_X12_step__b191 v5 v6 v7 v9 v8 M19 q P137) ∧ (¬ (M19.1 148 (v8).toNatClampNeg) ≤ (M19.1 148 (v9).toNatClampNeg) → w_X12_step__b191 v5 v6 v7 v9 v9 M19 q P137))))))
def w_X12_step__l137 (v5 : Int32) (v6 : Int32) (v7 : Int32) (q : Int32 → Mem → Prop) (s : Int32 × Int32 × Mem) : Prop := lfp (w_X12_step__l137F v5 v6 v7 q ) s
set_option maxRecDepth 100000 in
set_option maxHeartbeats 4000000 in
theorem ok_X12_step__l137 {c : CtxT} {g : Gl} {l : Launch} {v5 : Int32} {v6 : Int32} {v7 : Int32} {q : Int32 → Mem → Prop} {s : Int32 × Int32 × Mem} (C : Cx c cX12_step_ 11 RX12 g l (Rm 4 70)) (r : Rt c (some .int) (pI q) 0 0) (hw : w_X12_step__l137 v5 v6 v7 q s) : X c S0 137 [(0, .ref (g.2.2.2 + 135)), (5, .int v5), (6, .int v6), (7, .int v7), (8, .int s.1), (9, .int s.2.1)] [] (stat s.2.2) := hw (fun s => X c S0 137 [(0, .ref (g.2.2.2 + 135)), (5, .int v5), (6, .int v6), (7, .int v7), (8, .int s.1), (9, .int s.2.1)] [] (stat s.2.2)) (fun s hw => by
    obtain ⟨v8, v9, M⟩ := s
    try dsimp only [w_X12_step__l137F] at hw
    try dsimp only
    refine x_iload C dX12_step__137 rfl ?_
    refine x_iload C dX12_step__139 rfl ?_
    refine x_icmp_ge (tgt := 199) C dX12_step__141 (by decide) (fun h13 => ?_) (fun h13 => ?_)
    · replace hw := hw.1 h13
      refine x_iconst (v := (0 : Int32)) C dX12_step__199 (by decide) ?_
      refine x_istore C dX12_step__200 (Nat.le_of_ble_eq_true rfl) ?_
      refine x_iconst (v := (1 : Int32)) C dX12_step__202 (by decide) ?_
      refine x_istore C dX12_step__203 (Nat.le_of_ble_eq_true rfl) ?_
      exact x_sub [0, 5, 6, 7, 8, 9, 10] rfl (ok_X12_step__l205 C r  hw)
    · replace hw := hw.2 h13
      refine x_aload_n C dX12_step__144 rfl rfl ?_
      refine n_getS (dd := 13) C fl_X12_47 s135 (fun _ _ => rfl) rfl dX12_step__145 ?_
      refine x_iload C dX12_step__148 rfl ?_
      refine x_aload_n C dX12_step__150 rfl rfl ?_
      refine x_iconst (v := (0 : Int32)) C dX12_step__151 (by decide) ?_
      refine x_iload C dX12_step__152 rfl ?_
      refine n_callVI s135 rfl C (ok_X12_farOf  hw) mv_X12_196 rfl rfl ⟨Nat.le_of_ble_eq_true rfl, Nat.le_of_ble_eq_true rfl⟩ (Nat.le_of_ble_eq_true rfl) dX12_step__154 (fun r15 M14 hw => ?_)
      refine x_aload_n C dX12_step__157 rfl rfl ?_
      refine x_iload C dX12_step__158 rfl ?_
      refine x_iload C dX12_step__160 rfl ?_
      refine n_callVI s135 rfl C (ok_X12_farOf  hw) mv_X12_196 rfl rfl ⟨Nat.le_of_ble_eq_true rfl, Nat.le_of_ble_eq_true rfl⟩ (Nat.le_of_ble_eq_true rfl) dX12_step__162 (fun r17 M16 hw => ?_)
      refine x_iadd C dX12_step__165 ?_
      obtain ⟨h18, hw⟩ := hw
      obtain ⟨M19, eM19⟩ : ∃ z : Mem, z = uI M16 148 (v9).toNatClampNeg (r15 + r17) := ⟨_, rfl⟩
      replace hw := hw M19 eM19
      refine a_iast C s148 ln148 rfl h18 eM19 dX12_step__166 ?_
      refine x_aload_n C dX12_step__167 rfl rfl ?_
      refine n_getS (dd := 13) C fl_X12_47 s135 (fun _ _ => rfl) rfl dX12_step__168 ?_
      refine x_iload C dX12_step__171 rfl ?_
      obtain ⟨h20, hw⟩ := hw
      refine a_iald C s148 ln148 h20 dX12_step__173 ?_
      refine x_aload_n C dX12_step__174 rfl rfl ?_
      refine n_getS (dd := 13) C fl_X12_47 s135 (fun _ _ => rfl) rfl dX12_step__175 ?_
      refine x_iload C dX12_step__178 rfl ?_
      obtain ⟨h21, hw⟩ := hw
      refine a_iald C s148 ln148 h21 dX12_step__180 ?_
      refine x_icmp_ge (tgt := 189) C dX12_step__181 (by decide) (fun h22 => ?_) (fun h22 => ?_)
      · replace hw := hw.1 h22
        refine x_iload C dX12_step__189 rfl ?_
        exact x_sub [0, 5, 6, 7, 9] rfl (ok_X12_step__b191 C r (fun _ _ _ h => h) hw)
      · replace hw := hw.2 h22
        refine x_iload C dX12_step__184 rfl ?_
        refine x_goto (tgt := 191) C dX12_step__186 (by decide) ?_
        exact x_sub [0, 5, 6, 7, 9] rfl (ok_X12_step__b191 C r (fun _ _ _ h => h) hw))
def w_X12_step__b117 (v2 : Int32) (v3 : Int32) (v4 : Int32) (v5 : Int32) (v6 : Int32) (v7 : Int32) (v8 : Int32) (M : Mem) (q : Int32 → Mem → Prop) (P69 : Int32 × Int32 × Mem → Prop) : Prop := ∀ x23 : Int32, x23 = v8 + (1 : Int32) → P69 (v7, x23, M)
set_option maxRecDepth 100000 in
set_option maxHeartbeats 4000000 in
theorem ok_X12_step__b117 {c : CtxT} {g : Gl} {l : Launch} {v2 : Int32} {v3 : Int32} {v4 : Int32} {v5 : Int32} {v6 : Int32} {v7 : Int32} {v8 : Int32} {q : Int32 → Mem → Prop} {P69 : Int32 × Int32 × Mem → Prop} {M : Mem} (C : Cx c cX12_step_ 11 RX12 g l (Rm 4 70)) (r : Rt c (some .int) (pI q) 0 0) (hP69 : ∀ (v7 : Int32) (v8 : Int32) (M : Mem), P69 (v7, v8, M) → X c S0 69 [(0, .ref (g.2.2.2 + 135)), (2, .int v2), (3, .int v3), (4, .int v4), (5, .int v5), (6, .int v6), (7, .int v7), (8, .int v8)] [] (stat M)) (hw : w_X12_step__b117 v2 v3 v4 v5 v6 v7 v8 M q P69) : X c S0 117 [(0, .ref (g.2.2.2 + 135)), (2, .int v2), (3, .int v3), (4, .int v4), (5, .int v5), (6, .int v6), (7, .int v7), (8, .int v8)] [] (stat M) := by
  unfold w_X12_step__b117 at hw
  obtain ⟨x23, ex23⟩ : ∃ z : Int32, z = v8 + (1 : Int32) := ⟨_, rfl⟩
  replace hw := hw x23 ex23
  refine x_iinc (v := x23) C dX12_step__117 rfl ex23.symm (Nat.le_of_ble_eq_true rfl) ?_
  refine x_goto (tgt := 69) C dX12_step__120 (by decide) ?_
  exact x_sub [0, 2, 3, 4, 5, 6, 7, 8] rfl (hP69 _ _ _ hw)
def w_X12_step__l69F (v2 : Int32) (v3 : Int32) (v4 : Int32) (v5 : Int32) (v6 : Int32) (q : Int32 → Mem → Prop) (P69 : Int32 × Int32 × Mem → Prop) (s : Int32 × Int32 × Mem) : Prop := match s with
  | (v7, v8, M) => ((v2 < v8 → (((2 : Int32) ≤ v7 → w_X12_step__l137 v5 v6 v7 q ((1 : Int32), (1 : Int32), M)) ∧ (¬ (2 : Int32) ≤ v7 → q (-1 : Int32) M))) ∧ (¬ v2 < v8 → w_X12_sortRuns v8 v3 v4 (200 : Int32) M (fun (M26 : Mem) => (((M26.1 135 12) ≤ 0 → w_X12_step__b117 v2 v3 v4 v5 v6 v7 v8 M26 q P69) ∧ (¬ (M26.1 135 12) ≤ 0 → w_X12_middle  M26 (fun (r30 : Int32) (M29 : Mem) => vp_in v7 24 ∧ ∀ M32 : Mem, M32 = uI M29 146 (v7).toNatClampNeg r30 → vp_in v7 24 ∧ ∀ M34 : Mem, M34 = uI M32 147 (v7).toNatClampNeg v8 → ∀ x35 : Int32, x35 = v7 + (1 : Int32) → w_X12_step__b117 v2 v3 v4 v5 v6 x35 v8 M34 q P69))))))
def w_X12_step__l69 (v2 : Int32) (v3 : Int32) (v4 : Int32) (v5 : Int32) (v6 : Int32) (q : Int32 → Mem → Prop) (s : Int32 × Int32 × Mem) : Prop := lfp (w_X12_step__l69F v2 v3 v4 v5 v6 q ) s
set_option maxRecDepth 100000 in
set_option maxHeartbeats 4000000 in
theorem ok_X12_step__l69 {c : CtxT} {g : Gl} {l : Launch} {v2 : Int32} {v3 : Int32} {v4 : Int32} {v5 : Int32} {v6 : Int32} {q : Int32 → Mem → Prop} {s : Int32 × Int32 × Mem} (C : Cx c cX12_step_ 11 RX12 g l (Rm 4 70)) (r : Rt c (some .int) (pI q) 0 0) (hw : w_X12_step__l69 v2 v3 v4 v5 v6 q s) : X c S0 69 [(0, .ref (g.2.2.2 + 135)), (2, .int v2), (3, .int v3), (4, .int v4), (5, .int v5), (6, .int v6), (7, .int s.1), (8, .int s.2.1)] [] (stat s.2.2) := hw (fun s => X c S0 69 [(0, .ref (g.2.2.2 + 135)), (2, .int v2), (3, .int v3), (4, .int v4), (5, .int v5), (6, .int v6), (7, .int s.1), (8, .int s.2.1)] [] (stat s.2.2)) (fun s hw => by
    obtain ⟨v7, v8, M⟩ := s
    try dsimp only [w_X12_step__l69F] at hw
    try dsimp only
    refine x_iload C dX12_step__69 rfl ?_
    refine x_iload_n C dX12_step__71 rfl rfl ?_
    refine x_icmp_gt (tgt := 123) C dX12_step__72 (by decide) (fun h24 => ?_) (fun h24 => ?_)
    · replace hw := hw.1 h24
      refine x_iload C dX12_step__123 rfl ?_
      refine x_iconst (v := (2 : Int32)) C dX12_step__125 (by decide) ?_
      refine x_icmp_ge (tgt := 131) C dX12_step__126 (by decide) (fun h25 => ?_) (fun h25 => ?_)
      · replace hw := hw.1 h25
        refine x_iconst (v := (1 : Int32)) C dX12_step__131 (by decide) ?_
        refine x_istore C dX12_step__132 (Nat.le_of_ble_eq_true rfl) ?_
        refine x_iconst (v := (1 : Int32)) C dX12_step__134 (by decide) ?_
        refine x_istore C dX12_step__135 (Nat.le_of_ble_eq_true rfl) ?_
        exact x_sub [0, 5, 6, 7, 8, 9] rfl (ok_X12_step__l137 C r  hw)
      · replace hw := hw.2 h25
        refine x_iconst (v := (-1 : Int32)) C dX12_step__129 (by decide) ?_
        exact n_ireturn C r dX12_step__130 hw
    · replace hw := hw.2 h24
      refine x_aload_n C dX12_step__75 rfl rfl ?_
      refine x_iload C dX12_step__76 rfl ?_
      refine x_iload_n C dX12_step__78 rfl rfl ?_
      refine x_iload C dX12_step__79 rfl ?_
      refine x_sipush (v := (200 : Int32)) C dX12_step__81 (by decide) ?_
      refine n_callVV s135 rfl C (ok_X12_sortRuns  hw) mv_X12_178 rfl rfl ⟨Nat.le_of_ble_eq_true rfl, Nat.le_of_ble_eq_true rfl⟩ (Nat.le_of_ble_eq_true rfl) dX12_step__84 (fun M26 hw => ?_)
      refine x_aload_n C dX12_step__87 rfl rfl ?_
      refine n_getI C fl_X12_171 s135 (fun _ _ => rfl) dX12_step__88 ?_
      refine x_if_le (tgt := 117) C dX12_step__91 (by decide) (fun h28 => ?_) (fun h28 => ?_)
      · replace hw := hw.1 h28
        exact x_sub [0, 2, 3, 4, 5, 6, 7, 8] rfl (ok_X12_step__b117 C r (fun _ _ _ h => h) hw)
      · replace hw := hw.2 h28
        refine x_aload_n C dX12_step__94 rfl rfl ?_
        refine n_getS (dd := 11) C fl_X12_41 s135 (fun _ _ => rfl) rfl dX12_step__95 ?_
        refine x_iload C dX12_step__98 rfl ?_
        refine x_aload_n C dX12_step__100 rfl rfl ?_
        refine n_callVI s135 rfl C (ok_X12_middle  hw) mv_X12_181 rfl rfl ⟨Nat.le_of_ble_eq_true rfl, Nat.le_of_ble_eq_true rfl⟩ (Nat.le_of_ble_eq_true rfl) dX12_step__101 (fun r30 M29 hw => ?_)
        obtain ⟨h31, hw⟩ := hw
        obtain ⟨M32, eM32⟩ : ∃ z : Mem, z = uI M29 146 (v7).toNatClampNeg r30 := ⟨_, rfl⟩
        replace hw := hw M32 eM32
        refine a_iast C s146 ln146 rfl h31 eM32 dX12_step__104 ?_
        refine x_aload_n C dX12_step__105 rfl rfl ?_
        refine n_getS (dd := 12) C fl_X12_44 s135 (fun _ _ => rfl) rfl dX12_step__106 ?_
        refine x_iload C dX12_step__109 rfl ?_
        refine x_iload C dX12_step__111 rfl ?_
        obtain ⟨h33, hw⟩ := hw
        obtain ⟨M34, eM34⟩ : ∃ z : Mem, z = uI M32 147 (v7).toNatClampNeg v8 := ⟨_, rfl⟩
        replace hw := hw M34 eM34
        refine a_iast C s147 ln147 rfl h33 eM34 dX12_step__113 ?_
        obtain ⟨x35, ex35⟩ : ∃ z : Int32, z = v7 + (1 : Int32) := ⟨_, rfl⟩
        replace hw := hw x35 ex35
        refine x_iinc (v := x35) C dX12_step__114 rfl ex35.symm (Nat.le_of_ble_eq_true rfl) ?_
        exact x_sub [0, 2, 3, 4, 5, 6, 7, 8] rfl (ok_X12_step__b117 C r (fun _ _ _ h => h) hw))
def w_X12_step_ (v1 : Int32) (v2 : Int32) (v3 : Int32) (v4 : Int32) (v5 : Int32) (v6 : Int32) (M : Mem) (q : Int32 → Mem → Prop) : Prop := w_X12_has (2 : Int32) v1 M (fun (r37 : Int32) (M36 : Mem) => ((r37 = 0 → q (-2 : Int32) M36) ∧ (¬ r37 = 0 → w_X12_has (2 : Int32) v2 M36 (fun (r40 : Int32) (M39 : Mem) => ((r40 = 0 → q (-2 : Int32) M39) ∧ (¬ r40 = 0 → ((v2 < v1 → q (-2 : Int32) M39) ∧ (¬ v2 < v1 → w_X12_isThere v1 v3 v4 M39 (fun (r44 : Int32) (M43 : Mem) => ((r44 = 0 → q (-2 : Int32) M43) ∧ (¬ r44 = 0 → w_X12_in (v5).toInt64 (0 : Int64) (100000 : Int64) M43 (fun (r47 : Int32) (M46 : Mem) => ((r47 = 0 → q (-2 : Int32) M46) ∧ (¬ r47 = 0 → w_X12_in (v6).toInt64 (0 : Int64) (2 : Int64) M46 (fun (r50 : Int32) (M49 : Mem) => ((¬ r50 = 0 → w_X12_step__l69 v2 v3 v4 v5 v6 q ((0 : Int32), v1, M49)) ∧ (r50 = 0 → q (-2 : Int32) M49)))))))))))))))))
set_option maxRecDepth 100000 in
set_option maxHeartbeats 4000000 in
theorem ok_X12_step_ {g : Gl} {l : Launch} {v1 : Int32} {v2 : Int32} {v3 : Int32} {v4 : Int32} {v5 : Int32} {v6 : Int32} {M : Mem} {q : Int32 → Mem → Prop} (hw : w_X12_step_ v1 v2 v3 v4 v5 v6 M q) : CtI g l yX12_step_ cX12_step_ 11 (some .int) 4 70 [.ref (g.2.2.2 + 135), .int v1, .int v2, .int v3, .int v4, .int v5, .int v6] M q := by
  refine n_introI (by decide +kernel) (Nat.le_of_ble_eq_true rfl) (fun c C r => ?_)
  have C : Cx c cX12_step_ 11 RX12 g l (Rm 4 70) := C
  refine x_sub [0, 1, 2, 3, 4, 5, 6] (lv' := [(0, .ref (g.2.2.2 + 135)), (1, .int v1), (2, .int v2), (3, .int v3), (4, .int v4), (5, .int v5), (6, .int v6)]) rfl ?_
  unfold w_X12_step_ at hw
  refine x_aload_n C dX12_step__0 rfl rfl ?_
  refine x_iconst (v := (2 : Int32)) C dX12_step__1 (by decide) ?_
  refine x_iload_n C dX12_step__2 rfl rfl ?_
  refine n_callVI s135 rfl C (ok_X12_has  hw) mv_X12_84 rfl rfl ⟨Nat.le_of_ble_eq_true rfl, Nat.le_of_ble_eq_true rfl⟩ (Nat.le_of_ble_eq_true rfl) dX12_step__3 (fun r37 M36 hw => ?_)
  refine x_if_eq (tgt := 60) C dX12_step__6 (by decide) (fun h38 => ?_) (fun h38 => ?_)
  · replace hw := hw.1 h38
    refine x_bipush (v := (-2 : Int32)) C dX12_step__60 (by decide) ?_
    exact n_ireturn C r dX12_step__62 hw
  · replace hw := hw.2 h38
    refine x_aload_n C dX12_step__9 rfl rfl ?_
    refine x_iconst (v := (2 : Int32)) C dX12_step__10 (by decide) ?_
    refine x_iload_n C dX12_step__11 rfl rfl ?_
    refine n_callVI s135 rfl C (ok_X12_has  hw) mv_X12_84 rfl rfl ⟨Nat.le_of_ble_eq_true rfl, Nat.le_of_ble_eq_true rfl⟩ (Nat.le_of_ble_eq_true rfl) dX12_step__12 (fun r40 M39 hw => ?_)
    refine x_if_eq (tgt := 60) C dX12_step__15 (by decide) (fun h41 => ?_) (fun h41 => ?_)
    · replace hw := hw.1 h41
      refine x_bipush (v := (-2 : Int32)) C dX12_step__60 (by decide) ?_
      exact n_ireturn C r dX12_step__62 hw
    · replace hw := hw.2 h41
      refine x_iload_n C dX12_step__18 rfl rfl ?_
      refine x_iload_n C dX12_step__19 rfl rfl ?_
      refine x_icmp_gt (tgt := 60) C dX12_step__20 (by decide) (fun h42 => ?_) (fun h42 => ?_)
      · replace hw := hw.1 h42
        refine x_bipush (v := (-2 : Int32)) C dX12_step__60 (by decide) ?_
        exact n_ireturn C r dX12_step__62 hw
      · replace hw := hw.2 h42
        refine x_aload_n C dX12_step__23 rfl rfl ?_
        refine x_iload_n C dX12_step__24 rfl rfl ?_
        refine x_iload_n C dX12_step__25 rfl rfl ?_
        refine x_iload C dX12_step__26 rfl ?_
        refine n_callVI s135 rfl C (ok_X12_isThere  hw) mv_X12_152 rfl rfl ⟨Nat.le_of_ble_eq_true rfl, Nat.le_of_ble_eq_true rfl⟩ (Nat.le_of_ble_eq_true rfl) dX12_step__28 (fun r44 M43 hw => ?_)
        refine x_if_eq (tgt := 60) C dX12_step__31 (by decide) (fun h45 => ?_) (fun h45 => ?_)
        · replace hw := hw.1 h45
          refine x_bipush (v := (-2 : Int32)) C dX12_step__60 (by decide) ?_
          exact n_ireturn C r dX12_step__62 hw
        · replace hw := hw.2 h45
          refine x_iload C dX12_step__34 rfl ?_
          refine x_i2l C dX12_step__36 ?_
          refine x_lconst (v := (0 : Int64)) C dX12_step__37 (by decide) ?_
          refine x_ldc2_w (v := (100000 : Int64)) C dX12_step__38 kc_X12_194 ?_
          refine n_callSI C (ok_X12_in  hw) ms_X12_70 rfl rfl ⟨Nat.le_of_ble_eq_true rfl, Nat.le_of_ble_eq_true rfl⟩ (Nat.le_of_ble_eq_true rfl) dX12_step__41 (fun r47 M46 hw => ?_)
          refine x_if_eq (tgt := 60) C dX12_step__44 (by decide) (fun h48 => ?_) (fun h48 => ?_)
          · replace hw := hw.1 h48
            refine x_bipush (v := (-2 : Int32)) C dX12_step__60 (by decide) ?_
            exact n_ireturn C r dX12_step__62 hw
          · replace hw := hw.2 h48
            refine x_iload C dX12_step__47 rfl ?_
            refine x_i2l C dX12_step__49 ?_
            refine x_lconst (v := (0 : Int64)) C dX12_step__50 (by decide) ?_
            refine x_ldc2_w (v := (2 : Int64)) C dX12_step__51 kc_X12_190 ?_
            refine n_callSI C (ok_X12_in  hw) ms_X12_70 rfl rfl ⟨Nat.le_of_ble_eq_true rfl, Nat.le_of_ble_eq_true rfl⟩ (Nat.le_of_ble_eq_true rfl) dX12_step__54 (fun r50 M49 hw => ?_)
            refine x_if_ne (tgt := 63) C dX12_step__57 (by decide) (fun h51 => ?_) (fun h51 => ?_)
            · replace hw := hw.1 h51
              refine x_iconst (v := (0 : Int32)) C dX12_step__63 (by decide) ?_
              refine x_istore C dX12_step__64 (Nat.le_of_ble_eq_true rfl) ?_
              refine x_iload_n C dX12_step__66 rfl rfl ?_
              refine x_istore C dX12_step__67 (Nat.le_of_ble_eq_true rfl) ?_
              exact x_sub [0, 2, 3, 4, 5, 6, 7, 8] rfl (ok_X12_step__l69 C r  hw)
            · replace hw := hw.2 h51
              refine x_bipush (v := (-2 : Int32)) C dX12_step__60 (by decide) ?_
              exact n_ireturn C r dX12_step__62 hw

def w_X12_back_b428 (v3 : Int32) (v4 : Int32) (v6 : Int32) (v7 : Int32) (v8 : Int32) (v9 : Int32) (v10 : Int32) (v11 : Int32) (v12 : Int32) (v13 : Int32) (v14 : Int32) (v15 : Int32) (M : Mem) (q : Int32 → Mem → Prop) (P180 : Int32 × Int32 × Int32 × Int32 × Int32 × Mem → Prop) : Prop := ∀ x1 : Int32, x1 = v15 + (1 : Int32) → P180 (v11, v12, v13, v14, x1, M)
set_option maxRecDepth 100000 in
set_option maxHeartbeats 4000000 in
theorem ok_X12_back_b428 {c : CtxT} {g : Gl} {l : Launch} {v3 : Int32} {v4 : Int32} {v6 : Int32} {v7 : Int32} {v8 : Int32} {v9 : Int32} {v10 : Int32} {v11 : Int32} {v12 : Int32} {v13 : Int32} {v14 : Int32} {v15 : Int32} {q : Int32 → Mem → Prop} {P180 : Int32 × Int32 × Int32 × Int32 × Int32 × Mem → Prop} {M : Mem} (C : Cx c cX12_back 19 RX12 g l (Rm 5 105)) (r : Rt c (some .int) (pI q) 0 0) (hP180 : ∀ (v11 : Int32) (v12 : Int32) (v13 : Int32) (v14 : Int32) (v15 : Int32) (M : Mem), P180 (v11, v12, v13, v14, v15, M) → X c S0 180 [(0, .ref (g.2.2.2 + 135)), (3, .int v3), (4, .int v4), (6, .int v6), (7, .int v7), (8, .int v8), (9, .int v9), (10, .int v10), (11, .int v11), (12, .int v12), (13, .int v13), (14, .int v14), (15, .int v15)] [] (stat M)) (hw : w_X12_back_b428 v3 v4 v6 v7 v8 v9 v10 v11 v12 v13 v14 v15 M q P180) : X c S0 428 [(0, .ref (g.2.2.2 + 135)), (3, .int v3), (4, .int v4), (6, .int v6), (7, .int v7), (8, .int v8), (9, .int v9), (10, .int v10), (11, .int v11), (12, .int v12), (13, .int v13), (14, .int v14), (15, .int v15)] [] (stat M) := by
  unfold w_X12_back_b428 at hw
  obtain ⟨x1, ex1⟩ : ∃ z : Int32, z = v15 + (1 : Int32) := ⟨_, rfl⟩
  replace hw := hw x1 ex1
  refine x_iinc (v := x1) C dX12_back_428 rfl ex1.symm (Nat.le_of_ble_eq_true rfl) ?_
  refine x_goto (tgt := 180) C dX12_back_431 (by decide) ?_
  exact x_sub [0, 3, 4, 6, 7, 8, 9, 10, 11, 12, 13, 14, 15] rfl (hP180 _ _ _ _ _ _ hw)
def w_X12_back_b425 (v3 : Int32) (v4 : Int32) (v6 : Int32) (v7 : Int32) (v8 : Int32) (v9 : Int32) (v10 : Int32) (v11 : Int32) (v12 : Int32) (v13 : Int32) (v15 : Int32) (t0 : Int32) (t1 : Int32) (M : Mem) (q : Int32 → Mem → Prop) (P180 : Int32 × Int32 × Int32 × Int32 × Int32 × Mem → Prop) : Prop := ∀ x2 : Int32, x2 = (t0 ||| t1) → w_X12_back_b428 v3 v4 v6 v7 v8 v9 v10 v11 v12 v13 x2 v15 M q P180
set_option maxRecDepth 100000 in
set_option maxHeartbeats 4000000 in
theorem ok_X12_back_b425 {c : CtxT} {g : Gl} {l : Launch} {v3 : Int32} {v4 : Int32} {v6 : Int32} {v7 : Int32} {v8 : Int32} {v9 : Int32} {v10 : Int32} {v11 : Int32} {v12 : Int32} {v13 : Int32} {v15 : Int32} {t0 : Int32} {t1 : Int32} {q : Int32 → Mem → Prop} {P180 : Int32 × Int32 × Int32 × Int32 × Int32 × Mem → Prop} {M : Mem} (C : Cx c cX12_back 19 RX12 g l (Rm 5 105)) (r : Rt c (some .int) (pI q) 0 0) (hP180 : ∀ (v11 : Int32) (v12 : Int32) (v13 : Int32) (v14 : Int32) (v15 : Int32) (M : Mem), P180 (v11, v12, v13, v14, v15, M) → X c S0 180 [(0, .ref (g.2.2.2 + 135)), (3, .int v3), (4, .int v4), (6, .int v6), (7, .int v7), (8, .int v8), (9, .int v9), (10, .int v10), (11, .int v11), (12, .int v12), (13, .int v13), (14, .int v14), (15, .int v15)] [] (stat M)) (hw : w_X12_back_b425 v3 v4 v6 v7 v8 v9 v10 v11 v12 v13 v15 t0 t1 M q P180) : X c S0 425 [(0, .ref (g.2.2.2 + 135)), (3, .int v3), (4, .int v4), (6, .int v6), (7, .int v7), (8, .int v8), (9, .int v9), (10, .int v10), (11, .int v11), (12, .int v12), (13, .int v13), (15, .int v15)] [.int t1, .int t0] (stat M) := by
  unfold w_X12_back_b425 at hw
  refine x_ior C dX12_back_425 ?_
  obtain ⟨x2, ex2⟩ : ∃ z : Int32, z = (t0 ||| t1) := ⟨_, rfl⟩
  replace hw := hw x2 ex2
  refine x_topi ex2 ?_
  refine x_istore C dX12_back_426 (Nat.le_of_ble_eq_true rfl) ?_
  exact x_sub [0, 3, 4, 6, 7, 8, 9, 10, 11, 12, 13, 14, 15] rfl (ok_X12_back_b428 C r hP180 hw)
def w_X12_back_b424 (v3 : Int32) (v4 : Int32) (v6 : Int32) (v7 : Int32) (v8 : Int32) (v9 : Int32) (v10 : Int32) (v11 : Int32) (v12 : Int32) (v13 : Int32) (v15 : Int32) (t0 : Int32) (M : Mem) (q : Int32 → Mem → Prop) (P180 : Int32 × Int32 × Int32 × Int32 × Int32 × Mem → Prop) : Prop := w_X12_back_b425 v3 v4 v6 v7 v8 v9 v10 v11 v12 v13 v15 t0 (0 : Int32) M q P180
set_option maxRecDepth 100000 in
set_option maxHeartbeats 4000000 in
theorem ok_X12_back_b424 {c : CtxT} {g : Gl} {l : Launch} {v3 : Int32} {v4 : Int32} {v6 : Int32} {v7 : Int32} {v8 : Int32} {v9 : Int32} {v10 : Int32} {v11 : Int32} {v12 : Int32} {v13 : Int32} {v15 : Int32} {t0 : Int32} {q : Int32 → Mem → Prop} {P180 : Int32 × Int32 × Int32 × Int32 × Int32 × Mem → Prop} {M : Mem} (C : Cx c cX12_back 19 RX12 g l (Rm 5 105)) (r : Rt c (some .int) (pI q) 0 0) (hP180 : ∀ (v11 : Int32) (v12 : Int32) (v13 : Int32) (v14 : Int32) (v15 : Int32) (M : Mem), P180 (v11, v12, v13, v14, v15, M) → X c S0 180 [(0, .ref (g.2.2.2 + 135)), (3, .int v3), (4, .int v4), (6, .int v6), (7, .int v7), (8, .int v8), (9, .int v9), (10, .int v10), (11, .int v11), (12, .int v12), (13, .int v13), (14, .int v14), (15, .int v15)] [] (stat M)) (hw : w_X12_back_b424 v3 v4 v6 v7 v8 v9 v10 v11 v12 v13 v15 t0 M q P180) : X c S0 424 [(0, .ref (g.2.2.2 + 135)), (3, .int v3), (4, .int v4), (6, .int v6), (7, .int v7), (8, .int v8), (9, .int v9), (10, .int v10), (11, .int v11), (12, .int v12), (13, .int v13), (15, .int v15)] [.int t0] (stat M) := by
  unfold w_X12_back_b424 at hw
  refine x_iconst (v := (0 : Int32)) C dX12_back_424 (by decide) ?_
  exact x_sub [0, 3, 4, 6, 7, 8, 9, 10, 11, 12, 13, 15] rfl (ok_X12_back_b425 C r hP180 hw)
def w_X12_back_b401 (v3 : Int32) (v4 : Int32) (v6 : Int32) (v7 : Int32) (v8 : Int32) (v9 : Int32) (v10 : Int32) (v11 : Int32) (v12 : Int32) (v13 : Int32) (v14 : Int32) (v15 : Int32) (v16 : Int32) (M : Mem) (q : Int32 → Mem → Prop) (P180 : Int32 × Int32 × Int32 × Int32 × Int32 × Mem → Prop) : Prop := vp_in v15 1024 ∧ (((M.1 149 (v15).toNatClampNeg) = 0 → w_X12_back_b424 v3 v4 v6 v7 v8 v9 v10 v11 v12 v13 v15 v14 M q P180) ∧ (¬ (M.1 149 (v15).toNatClampNeg) = 0 → ((¬ v16 = (1 : Int32) → w_X12_back_b424 v3 v4 v6 v7 v8 v9 v10 v11 v12 v13 v15 v14 M q P180) ∧ (v16 = (1 : Int32) → w_X12_back_b425 v3 v4 v6 v7 v8 v9 v10 v11 v12 v13 v15 v14 v15 M q P180))))
set_option maxRecDepth 100000 in
set_option maxHeartbeats 4000000 in
theorem ok_X12_back_b401 {c : CtxT} {g : Gl} {l : Launch} {v3 : Int32} {v4 : Int32} {v6 : Int32} {v7 : Int32} {v8 : Int32} {v9 : Int32} {v10 : Int32} {v11 : Int32} {v12 : Int32} {v13 : Int32} {v14 : Int32} {v15 : Int32} {v16 : Int32} {q : Int32 → Mem → Prop} {P180 : Int32 × Int32 × Int32 × Int32 × Int32 × Mem → Prop} {M : Mem} (C : Cx c cX12_back 19 RX12 g l (Rm 5 105)) (r : Rt c (some .int) (pI q) 0 0) (hP180 : ∀ (v11 : Int32) (v12 : Int32) (v13 : Int32) (v14 : Int32) (v15 : Int32) (M : Mem), P180 (v11, v12, v13, v14, v15, M) → X c S0 180 [(0, .ref (g.2.2.2 + 135)), (3, .int v3), (4, .int v4), (6, .int v6), (7, .int v7), (8, .int v8), (9, .int v9), (10, .int v10), (11, .int v11), (12, .int v12), (13, .int v13), (14, .int v14), (15, .int v15)] [] (stat M)) (hw : w_X12_back_b401 v3 v4 v6 v7 v8 v9 v10 v11 v12 v13 v14 v15 v16 M q P180) : X c S0 401 [(0, .ref (g.2.2.2 + 135)), (3, .int v3), (4, .int v4), (6, .int v6), (7, .int v7), (8, .int v8), (9, .int v9), (10, .int v10), (11, .int v11), (12, .int v12), (13, .int v13), (14, .int v14), (15, .int v15), (16, .int v16)] [] (stat M) := by
  unfold w_X12_back_b401 at hw
  refine x_iload C dX12_back_401 rfl ?_
  refine x_aload_n C dX12_back_403 rfl rfl ?_
  refine n_getS (dd := 14) C fl_X12_50 s135 (fun _ _ => rfl) rfl dX12_back_404 ?_
  refine x_iload C dX12_back_407 rfl ?_
  obtain ⟨h3, hw⟩ := hw
  refine a_zald C s149 ln149 h3 dX12_back_409 ?_
  refine x_if_eq (tgt := 424) C dX12_back_410 (by decide) (fun h4 => ?_) (fun h4 => ?_)
  · replace hw := hw.1 h4
    exact x_sub [0, 3, 4, 6, 7, 8, 9, 10, 11, 12, 13, 15] rfl (ok_X12_back_b424 C r hP180 hw)
  · replace hw := hw.2 h4
    refine x_iload C dX12_back_413 rfl ?_
    refine x_iconst (v := (1 : Int32)) C dX12_back_415 (by decide) ?_
    refine x_icmp_ne (tgt := 424) C dX12_back_416 (by decide) (fun h5 => ?_) (fun h5 => ?_)
    · replace hw := hw.1 h5
      exact x_sub [0, 3, 4, 6, 7, 8, 9, 10, 11, 12, 13, 15] rfl (ok_X12_back_b424 C r hP180 hw)
    · replace hw := hw.2 h5
      refine x_iload C dX12_back_419 rfl ?_
      refine x_goto (tgt := 425) C dX12_back_421 (by decide) ?_
      exact x_sub [0, 3, 4, 6, 7, 8, 9, 10, 11, 12, 13, 15] rfl (ok_X12_back_b425 C r hP180 hw)
def w_X12_back_b399 (v3 : Int32) (v4 : Int32) (v6 : Int32) (v7 : Int32) (v8 : Int32) (v9 : Int32) (v10 : Int32) (v11 : Int32) (v12 : Int32) (v14 : Int32) (v15 : Int32) (v16 : Int32) (t0 : Int32) (M : Mem) (q : Int32 → Mem → Prop) (P180 : Int32 × Int32 × Int32 × Int32 × Int32 × Mem → Prop) : Prop := w_X12_back_b401 v3 v4 v6 v7 v8 v9 v10 v11 v12 t0 v14 v15 v16 M q P180
set_option maxRecDepth 100000 in
set_option maxHeartbeats 4000000 in
theorem ok_X12_back_b399 {c : CtxT} {g : Gl} {l : Launch} {v3 : Int32} {v4 : Int32} {v6 : Int32} {v7 : Int32} {v8 : Int32} {v9 : Int32} {v10 : Int32} {v11 : Int32} {v12 : Int32} {v14 : Int32} {v15 : Int32} {v16 : Int32} {t0 : Int32} {q : Int32 → Mem → Prop} {P180 : Int32 × Int32 × Int32 × Int32 × Int32 × Mem → Prop} {M : Mem} (C : Cx c cX12_back 19 RX12 g l (Rm 5 105)) (r : Rt c (some .int) (pI q) 0 0) (hP180 : ∀ (v11 : Int32) (v12 : Int32) (v13 : Int32) (v14 : Int32) (v15 : Int32) (M : Mem), P180 (v11, v12, v13, v14, v15, M) → X c S0 180 [(0, .ref (g.2.2.2 + 135)), (3, .int v3), (4, .int v4), (6, .int v6), (7, .int v7), (8, .int v8), (9, .int v9), (10, .int v10), (11, .int v11), (12, .int v12), (13, .int v13), (14, .int v14), (15, .int v15)] [] (stat M)) (hw : w_X12_back_b399 v3 v4 v6 v7 v8 v9 v10 v11 v12 v14 v15 v16 t0 M q P180) : X c S0 399 [(0, .ref (g.2.2.2 + 135)), (3, .int v3), (4, .int v4), (6, .int v6), (7, .int v7), (8, .int v8), (9, .int v9), (10, .int v10), (11, .int v11), (12, .int v12), (14, .int v14), (15, .int v15), (16, .int v16)] [.int t0] (stat M) := by
  unfold w_X12_back_b399 at hw
  refine x_istore C dX12_back_399 (Nat.le_of_ble_eq_true rfl) ?_
  exact x_sub [0, 3, 4, 6, 7, 8, 9, 10, 11, 12, 13, 14, 15, 16] rfl (ok_X12_back_b401 C r hP180 hw)
def w_X12_back_b383 (v3 : Int32) (v4 : Int32) (v6 : Int32) (v7 : Int32) (v8 : Int32) (v9 : Int32) (v10 : Int32) (v11 : Int32) (v13 : Int32) (v14 : Int32) (v15 : Int32) (v16 : Int32) (t0 : Int32) (M : Mem) (q : Int32 → Mem → Prop) (P180 : Int32 × Int32 × Int32 × Int32 × Int32 × Mem → Prop) : Prop := ((v13 ≤ v16 → w_X12_back_b399 v3 v4 v6 v7 v8 v9 v10 v11 t0 v14 v15 v16 v13 M q P180) ∧ (¬ v13 ≤ v16 → w_X12_back_b399 v3 v4 v6 v7 v8 v9 v10 v11 t0 v14 v15 v16 v16 M q P180))
set_option maxRecDepth 100000 in
set_option maxHeartbeats 4000000 in
theorem ok_X12_back_b383 {c : CtxT} {g : Gl} {l : Launch} {v3 : Int32} {v4 : Int32} {v6 : Int32} {v7 : Int32} {v8 : Int32} {v9 : Int32} {v10 : Int32} {v11 : Int32} {v13 : Int32} {v14 : Int32} {v15 : Int32} {v16 : Int32} {t0 : Int32} {q : Int32 → Mem → Prop} {P180 : Int32 × Int32 × Int32 × Int32 × Int32 × Mem → Prop} {M : Mem} (C : Cx c cX12_back 19 RX12 g l (Rm 5 105)) (r : Rt c (some .int) (pI q) 0 0) (hP180 : ∀ (v11 : Int32) (v12 : Int32) (v13 : Int32) (v14 : Int32) (v15 : Int32) (M : Mem), P180 (v11, v12, v13, v14, v15, M) → X c S0 180 [(0, .ref (g.2.2.2 + 135)), (3, .int v3), (4, .int v4), (6, .int v6), (7, .int v7), (8, .int v8), (9, .int v9), (10, .int v10), (11, .int v11), (12, .int v12), (13, .int v13), (14, .int v14), (15, .int v15)] [] (stat M)) (hw : w_X12_back_b383 v3 v4 v6 v7 v8 v9 v10 v11 v13 v14 v15 v16 t0 M q P180) : X c S0 383 [(0, .ref (g.2.2.2 + 135)), (3, .int v3), (4, .int v4), (6, .int v6), (7, .int v7), (8, .int v8), (9, .int v9), (10, .int v10), (11, .int v11), (13, .int v13), (14, .int v14), (15, .int v15), (16, .int v16)] [.int t0] (stat M) := by
  unfold w_X12_back_b383 at hw
  refine x_istore C dX12_back_383 (Nat.le_of_ble_eq_true rfl) ?_
  refine x_iload C dX12_back_385 rfl ?_
  refine x_iload C dX12_back_387 rfl ?_
  refine x_icmp_ge (tgt := 397) C dX12_back_389 (by decide) (fun h6 => ?_) (fun h6 => ?_)
  · replace hw := hw.1 h6
    refine x_iload C dX12_back_397 rfl ?_
    exact x_sub [0, 3, 4, 6, 7, 8, 9, 10, 11, 12, 14, 15, 16] rfl (ok_X12_back_b399 C r hP180 hw)
  · replace hw := hw.2 h6
    refine x_iload C dX12_back_392 rfl ?_
    refine x_goto (tgt := 399) C dX12_back_394 (by decide) ?_
    exact x_sub [0, 3, 4, 6, 7, 8, 9, 10, 11, 12, 14, 15, 16] rfl (ok_X12_back_b399 C r hP180 hw)
def w_X12_back_b340 (v3 : Int32) (v4 : Int32) (v6 : Int32) (v7 : Int32) (v8 : Int32) (v9 : Int32) (v10 : Int32) (v11 : Int32) (v12 : Int32) (v13 : Int32) (v14 : Int32) (v15 : Int32) (v16 : Int32) (v17 : Int32) (M : Mem) (q : Int32 → Mem → Prop) (P180 : Int32 × Int32 × Int32 × Int32 × Int32 × Mem → Prop) (P266 : Int32 × Int32 × Mem → Prop) : Prop := ∀ x7 : Int32, x7 = v17 + (1 : Int32) → P266 (v16, x7, M)
set_option maxRecDepth 100000 in
set_option maxHeartbeats 4000000 in
theorem ok_X12_back_b340 {c : CtxT} {g : Gl} {l : Launch} {v3 : Int32} {v4 : Int32} {v6 : Int32} {v7 : Int32} {v8 : Int32} {v9 : Int32} {v10 : Int32} {v11 : Int32} {v12 : Int32} {v13 : Int32} {v14 : Int32} {v15 : Int32} {v16 : Int32} {v17 : Int32} {q : Int32 → Mem → Prop} {P180 : Int32 × Int32 × Int32 × Int32 × Int32 × Mem → Prop} {P266 : Int32 × Int32 × Mem → Prop} {M : Mem} (C : Cx c cX12_back 19 RX12 g l (Rm 5 105)) (r : Rt c (some .int) (pI q) 0 0) (hP180 : ∀ (v11 : Int32) (v12 : Int32) (v13 : Int32) (v14 : Int32) (v15 : Int32) (M : Mem), P180 (v11, v12, v13, v14, v15, M) → X c S0 180 [(0, .ref (g.2.2.2 + 135)), (3, .int v3), (4, .int v4), (6, .int v6), (7, .int v7), (8, .int v8), (9, .int v9), (10, .int v10), (11, .int v11), (12, .int v12), (13, .int v13), (14, .int v14), (15, .int v15)] [] (stat M)) (hP266 : ∀ (v16 : Int32) (v17 : Int32) (M : Mem), P266 (v16, v17, M) → X c S0 266 [(0, .ref (g.2.2.2 + 135)), (3, .int v3), (4, .int v4), (6, .int v6), (7, .int v7), (8, .int v8), (9, .int v9), (10, .int v10), (11, .int v11), (12, .int v12), (13, .int v13), (14, .int v14), (15, .int v15), (16, .int v16), (17, .int v17)] [] (stat M)) (hw : w_X12_back_b340 v3 v4 v6 v7 v8 v9 v10 v11 v12 v13 v14 v15 v16 v17 M q P180 P266) : X c S0 340 [(0, .ref (g.2.2.2 + 135)), (3, .int v3), (4, .int v4), (6, .int v6), (7, .int v7), (8, .int v8), (9, .int v9), (10, .int v10), (11, .int v11), (12, .int v12), (13, .int v13), (14, .int v14), (15, .int v15), (16, .int v16), (17, .int v17)] [] (stat M) := by
  unfold w_X12_back_b340 at hw
  obtain ⟨x7, ex7⟩ : ∃ z : Int32, z = v17 + (1 : Int32) := ⟨_, rfl⟩
  replace hw := hw x7 ex7
  refine x_iinc (v := x7) C dX12_back_340 rfl ex7.symm (Nat.le_of_ble_eq_true rfl) ?_
  refine x_goto (tgt := 266) C dX12_back_343 (by decide) ?_
  exact x_sub [0, 3, 4, 6, 7, 8, 9, 10, 11, 12, 13, 14, 15, 16, 17] rfl (hP266 _ _ _ hw)
def w_X12_back_b339 (v3 : Int32) (v4 : Int32) (v6 : Int32) (v7 : Int32) (v8 : Int32) (v9 : Int32) (v10 : Int32) (v11 : Int32) (v12 : Int32) (v13 : Int32) (v14 : Int32) (v15 : Int32) (v16 : Int32) (v17 : Int32) (t1 : Int32) (t2 : Int32) (M : Mem) (q : Int32 → Mem → Prop) (P180 : Int32 × Int32 × Int32 × Int32 × Int32 × Mem → Prop) (P266 : Int32 × Int32 × Mem → Prop) : Prop := vp_in t1 1024 ∧ bz t2 ∧ ∀ M10 : Mem, M10 = uI M 150 (t1).toNatClampNeg t2 → w_X12_back_b340 v3 v4 v6 v7 v8 v9 v10 v11 v12 v13 v14 v15 v16 v17 M10 q P180 P266
set_option maxRecDepth 100000 in
set_option maxHeartbeats 4000000 in
theorem ok_X12_back_b339 {c : CtxT} {g : Gl} {l : Launch} {v3 : Int32} {v4 : Int32} {v6 : Int32} {v7 : Int32} {v8 : Int32} {v9 : Int32} {v10 : Int32} {v11 : Int32} {v12 : Int32} {v13 : Int32} {v14 : Int32} {v15 : Int32} {v16 : Int32} {v17 : Int32} {t1 : Int32} {t2 : Int32} {q : Int32 → Mem → Prop} {P180 : Int32 × Int32 × Int32 × Int32 × Int32 × Mem → Prop} {P266 : Int32 × Int32 × Mem → Prop} {M : Mem} (C : Cx c cX12_back 19 RX12 g l (Rm 5 105)) (r : Rt c (some .int) (pI q) 0 0) (hP180 : ∀ (v11 : Int32) (v12 : Int32) (v13 : Int32) (v14 : Int32) (v15 : Int32) (M : Mem), P180 (v11, v12, v13, v14, v15, M) → X c S0 180 [(0, .ref (g.2.2.2 + 135)), (3, .int v3), (4, .int v4), (6, .int v6), (7, .int v7), (8, .int v8), (9, .int v9), (10, .int v10), (11, .int v11), (12, .int v12), (13, .int v13), (14, .int v14), (15, .int v15)] [] (stat M)) (hP266 : ∀ (v16 : Int32) (v17 : Int32) (M : Mem), P266 (v16, v17, M) → X c S0 266 [(0, .ref (g.2.2.2 + 135)), (3, .int v3), (4, .int v4), (6, .int v6), (7, .int v7), (8, .int v8), (9, .int v9), (10, .int v10), (11, .int v11), (12, .int v12), (13, .int v13), (14, .int v14), (15, .int v15), (16, .int v16), (17, .int v17)] [] (stat M)) (hw : w_X12_back_b339 v3 v4 v6 v7 v8 v9 v10 v11 v12 v13 v14 v15 v16 v17 t1 t2 M q P180 P266) : X c S0 339 [(0, .ref (g.2.2.2 + 135)), (3, .int v3), (4, .int v4), (6, .int v6), (7, .int v7), (8, .int v8), (9, .int v9), (10, .int v10), (11, .int v11), (12, .int v12), (13, .int v13), (14, .int v14), (15, .int v15), (16, .int v16), (17, .int v17)] [.int t2, .int t1, .ref (g.2.2.2 + 150)] (stat M) := by
  unfold w_X12_back_b339 at hw
  obtain ⟨h8, hw⟩ := hw
  obtain ⟨h9, hw⟩ := hw
  obtain ⟨M10, eM10⟩ : ∃ z : Mem, z = uI M 150 (t1).toNatClampNeg t2 := ⟨_, rfl⟩
  replace hw := hw M10 eM10
  refine a_zast C s150 ln150 rfl h8 h9 eM10 dX12_back_339 ?_
  exact x_sub [0, 3, 4, 6, 7, 8, 9, 10, 11, 12, 13, 14, 15, 16, 17] rfl (ok_X12_back_b340 C r hP180 hP266 hw)
def w_X12_back_b334 (v3 : Int32) (v4 : Int32) (v6 : Int32) (v7 : Int32) (v8 : Int32) (v9 : Int32) (v10 : Int32) (v11 : Int32) (v12 : Int32) (v13 : Int32) (v14 : Int32) (v15 : Int32) (v16 : Int32) (v17 : Int32) (t1 : Int32) (M : Mem) (q : Int32 → Mem → Prop) (P180 : Int32 × Int32 × Int32 × Int32 × Int32 × Mem → Prop) (P266 : Int32 × Int32 × Mem → Prop) : Prop := w_X12_back_b339 v3 v4 v6 v7 v8 v9 v10 v11 v12 v13 v14 v15 v16 v17 t1 (1 : Int32) M q P180 P266
set_option maxRecDepth 100000 in
set_option maxHeartbeats 4000000 in
theorem ok_X12_back_b334 {c : CtxT} {g : Gl} {l : Launch} {v3 : Int32} {v4 : Int32} {v6 : Int32} {v7 : Int32} {v8 : Int32} {v9 : Int32} {v10 : Int32} {v11 : Int32} {v12 : Int32} {v13 : Int32} {v14 : Int32} {v15 : Int32} {v16 : Int32} {v17 : Int32} {t1 : Int32} {q : Int32 → Mem → Prop} {P180 : Int32 × Int32 × Int32 × Int32 × Int32 × Mem → Prop} {P266 : Int32 × Int32 × Mem → Prop} {M : Mem} (C : Cx c cX12_back 19 RX12 g l (Rm 5 105)) (r : Rt c (some .int) (pI q) 0 0) (hP180 : ∀ (v11 : Int32) (v12 : Int32) (v13 : Int32) (v14 : Int32) (v15 : Int32) (M : Mem), P180 (v11, v12, v13, v14, v15, M) → X c S0 180 [(0, .ref (g.2.2.2 + 135)), (3, .int v3), (4, .int v4), (6, .int v6), (7, .int v7), (8, .int v8), (9, .int v9), (10, .int v10), (11, .int v11), (12, .int v12), (13, .int v13), (14, .int v14), (15, .int v15)] [] (stat M)) (hP266 : ∀ (v16 : Int32) (v17 : Int32) (M : Mem), P266 (v16, v17, M) → X c S0 266 [(0, .ref (g.2.2.2 + 135)), (3, .int v3), (4, .int v4), (6, .int v6), (7, .int v7), (8, .int v8), (9, .int v9), (10, .int v10), (11, .int v11), (12, .int v12), (13, .int v13), (14, .int v14), (15, .int v15), (16, .int v16), (17, .int v17)] [] (stat M)) (hw : w_X12_back_b334 v3 v4 v6 v7 v8 v9 v10 v11 v12 v13 v14 v15 v16 v17 t1 M q P180 P266) : X c S0 334 [(0, .ref (g.2.2.2 + 135)), (3, .int v3), (4, .int v4), (6, .int v6), (7, .int v7), (8, .int v8), (9, .int v9), (10, .int v10), (11, .int v11), (12, .int v12), (13, .int v13), (14, .int v14), (15, .int v15), (16, .int v16), (17, .int v17)] [.int t1, .ref (g.2.2.2 + 150)] (stat M) := by
  unfold w_X12_back_b334 at hw
  refine x_iconst (v := (1 : Int32)) C dX12_back_334 (by decide) ?_
  refine x_goto (tgt := 339) C dX12_back_335 (by decide) ?_
  exact x_sub [0, 3, 4, 6, 7, 8, 9, 10, 11, 12, 13, 14, 15, 16, 17] rfl (ok_X12_back_b339 C r hP180 hP266 hw)
def w_X12_back_l266F (v3 : Int32) (v4 : Int32) (v6 : Int32) (v7 : Int32) (v8 : Int32) (v9 : Int32) (v10 : Int32) (v11 : Int32) (v12 : Int32) (v13 : Int32) (v14 : Int32) (v15 : Int32) (q : Int32 → Mem → Prop) (P180 : Int32 × Int32 × Int32 × Int32 × Int32 × Mem → Prop) (P266 : Int32 × Int32 × Mem → Prop) (s : Int32 × Int32 × Mem) : Prop := match s with
  | (v16, v17, M) => (((10 : Int32) ≤ v17 → vp_in v15 1024 ∧ (((M.1 149 (v15).toNatClampNeg) = 0 → w_X12_back_b401 v3 v4 v6 v7 v8 v9 v10 v11 v12 v13 v14 v15 v16 M q P180) ∧ (¬ (M.1 149 (v15).toNatClampNeg) = 0 → vp_in v15 1024 ∧ ((¬ (M.1 150 (v15).toNatClampNeg) = 0 → w_X12_back_b401 v3 v4 v6 v7 v8 v9 v10 v11 v12 v13 v14 v15 v16 M q P180) ∧ ((M.1 150 (v15).toNatClampNeg) = 0 → ∀ x16 : Int32, x16 = v11 + (1 : Int32) → ((v13 ≤ v16 → w_X12_back_b383 v3 v4 v6 v7 v8 v9 v10 x16 v13 v14 v15 v16 v12 M q P180) ∧ (¬ v13 ≤ v16 → w_X12_back_b383 v3 v4 v6 v7 v8 v9 v10 x16 v13 v14 v15 v16 v15 M q P180))))))) ∧ (¬ (10 : Int32) ≤ v17 → ((¬ ((v15 >>> (v17 &&& 31)) &&& (1 : Int32)) = (1 : Int32) → w_X12_back_b340 v3 v4 v6 v7 v8 v9 v10 v11 v12 v13 v14 v15 v16 v17 M q P180 P266) ∧ (((v15 >>> (v17 &&& 31)) &&& (1 : Int32)) = (1 : Int32) → ∀ x19 : Int32, x19 = v16 + (1 : Int32) → ∀ x20 : Int32, x20 = (v15 &&& (((1 : Int32) <<< (v17 &&& 31)) ^^^ (-1 : Int32))) → vp_in v15 1024 ∧ ((¬ (M.1 150 (v15).toNatClampNeg) = 0 → w_X12_back_b334 v3 v4 v6 v7 v8 v9 v10 v11 v12 v13 v14 v15 x19 v17 v15 M q P180 P266) ∧ ((M.1 150 (v15).toNatClampNeg) = 0 → vp_in x20 1024 ∧ ((¬ (M.1 149 (x20).toNatClampNeg) = 0 → w_X12_back_b334 v3 v4 v6 v7 v8 v9 v10 v11 v12 v13 v14 v15 x19 v17 v15 M q P180 P266) ∧ ((M.1 149 (x20).toNatClampNeg) = 0 → vp_in x20 1024 ∧ (((M.1 150 (x20).toNatClampNeg) = 0 → w_X12_back_b339 v3 v4 v6 v7 v8 v9 v10 v11 v12 v13 v14 v15 x19 v17 v15 (0 : Int32) M q P180 P266) ∧ (¬ (M.1 150 (x20).toNatClampNeg) = 0 → w_X12_back_b334 v3 v4 v6 v7 v8 v9 v10 v11 v12 v13 v14 v15 x19 v17 v15 M q P180 P266))))))))))
def w_X12_back_l266 (v3 : Int32) (v4 : Int32) (v6 : Int32) (v7 : Int32) (v8 : Int32) (v9 : Int32) (v10 : Int32) (v11 : Int32) (v12 : Int32) (v13 : Int32) (v14 : Int32) (v15 : Int32) (q : Int32 → Mem → Prop) (P180 : Int32 × Int32 × Int32 × Int32 × Int32 × Mem → Prop) (s : Int32 × Int32 × Mem) : Prop := lfp (w_X12_back_l266F v3 v4 v6 v7 v8 v9 v10 v11 v12 v13 v14 v15 q P180) s
set_option maxRecDepth 100000 in
set_option maxHeartbeats 4000000 in
theorem ok_X12_back_l266 {c : CtxT} {g : Gl} {l : Launch} {v3 : Int32} {v4 : Int32} {v6 : Int32} {v7 : Int32} {v8 : Int32} {v9 : Int32} {v10 : Int32} {v11 : Int32} {v12 : Int32} {v13 : Int32} {v14 : Int32} {v15 : Int32} {q : Int32 → Mem → Prop} {P180 : Int32 × Int32 × Int32 × Int32 × Int32 × Mem → Prop} {s : Int32 × Int32 × Mem} (C : Cx c cX12_back 19 RX12 g l (Rm 5 105)) (r : Rt c (some .int) (pI q) 0 0) (hP180 : ∀ (v11 : Int32) (v12 : Int32) (v13 : Int32) (v14 : Int32) (v15 : Int32) (M : Mem), P180 (v11, v12, v13, v14, v15, M) → X c S0 180 [(0, .ref (g.2.2.2 + 135)), (3, .int v3), (4, .int v4), (6, .int v6), (7, .int v7), (8, .int v8), (9, .int v9), (10, .int v10), (11, .int v11), (12, .int v12), (13, .int v13), (14, .int v14), (15, .int v15)] [] (stat M)) (hw : w_X12_back_l266 v3 v4 v6 v7 v8 v9 v10 v11 v12 v13 v14 v15 q P180 s) : X c S0 266 [(0, .ref (g.2.2.2 + 135)), (3, .int v3), (4, .int v4), (6, .int v6), (7, .int v7), (8, .int v8), (9, .int v9), (10, .int v10), (11, .int v11), (12, .int v12), (13, .int v13), (14, .int v14), (15, .int v15), (16, .int s.1), (17, .int s.2.1)] [] (stat s.2.2) := hw (fun s => X c S0 266 [(0, .ref (g.2.2.2 + 135)), (3, .int v3), (4, .int v4), (6, .int v6), (7, .int v7), (8, .int v8), (9, .int v9), (10, .int v10), (11, .int v11), (12, .int v12), (13, .int v13), (14, .int v14), (15, .int v15), (16, .int s.1), (17, .int s.2.1)] [] (stat s.2.2)) (fun s hw => by
    obtain ⟨v16, v17, M⟩ := s
    try dsimp only [w_X12_back_l266F] at hw
    try dsimp only
    refine x_iload C dX12_back_266 rfl ?_
    refine x_bipush (v := (10 : Int32)) C dX12_back_268 (by decide) ?_
    refine x_icmp_ge (tgt := 346) C dX12_back_270 (by decide) (fun h11 => ?_) (fun h11 => ?_)
    · replace hw := hw.1 h11
      refine x_aload_n C dX12_back_346 rfl rfl ?_
      refine n_getS (dd := 14) C fl_X12_50 s135 (fun _ _ => rfl) rfl dX12_back_347 ?_
      refine x_iload C dX12_back_350 rfl ?_
      obtain ⟨h12, hw⟩ := hw
      refine a_zald C s149 ln149 h12 dX12_back_352 ?_
      refine x_if_eq (tgt := 401) C dX12_back_353 (by decide) (fun h13 => ?_) (fun h13 => ?_)
      · replace hw := hw.1 h13
        exact x_sub [0, 3, 4, 6, 7, 8, 9, 10, 11, 12, 13, 14, 15, 16] rfl (ok_X12_back_b401 C r hP180 hw)
      · replace hw := hw.2 h13
        refine x_aload_n C dX12_back_356 rfl rfl ?_
        refine n_getS (dd := 15) C fl_X12_53 s135 (fun _ _ => rfl) rfl dX12_back_357 ?_
        refine x_iload C dX12_back_360 rfl ?_
        obtain ⟨h14, hw⟩ := hw
        refine a_zald C s150 ln150 h14 dX12_back_362 ?_
        refine x_if_ne (tgt := 401) C dX12_back_363 (by decide) (fun h15 => ?_) (fun h15 => ?_)
        · replace hw := hw.1 h15
          exact x_sub [0, 3, 4, 6, 7, 8, 9, 10, 11, 12, 13, 14, 15, 16] rfl (ok_X12_back_b401 C r hP180 hw)
        · replace hw := hw.2 h15
          obtain ⟨x16, ex16⟩ : ∃ z : Int32, z = v11 + (1 : Int32) := ⟨_, rfl⟩
          replace hw := hw x16 ex16
          refine x_iinc (v := x16) C dX12_back_366 rfl ex16.symm (Nat.le_of_ble_eq_true rfl) ?_
          refine x_iload C dX12_back_369 rfl ?_
          refine x_iload C dX12_back_371 rfl ?_
          refine x_icmp_ge (tgt := 381) C dX12_back_373 (by decide) (fun h17 => ?_) (fun h17 => ?_)
          · replace hw := hw.1 h17
            refine x_iload C dX12_back_381 rfl ?_
            exact x_sub [0, 3, 4, 6, 7, 8, 9, 10, 11, 13, 14, 15, 16] rfl (ok_X12_back_b383 C r hP180 hw)
          · replace hw := hw.2 h17
            refine x_iload C dX12_back_376 rfl ?_
            refine x_goto (tgt := 383) C dX12_back_378 (by decide) ?_
            exact x_sub [0, 3, 4, 6, 7, 8, 9, 10, 11, 13, 14, 15, 16] rfl (ok_X12_back_b383 C r hP180 hw)
    · replace hw := hw.2 h11
      refine x_iload C dX12_back_273 rfl ?_
      refine x_iload C dX12_back_275 rfl ?_
      refine x_ishr C dX12_back_277 ?_
      refine x_iconst (v := (1 : Int32)) C dX12_back_278 (by decide) ?_
      refine x_iand C dX12_back_279 ?_
      refine x_iconst (v := (1 : Int32)) C dX12_back_280 (by decide) ?_
      refine x_icmp_ne (tgt := 340) C dX12_back_281 (by decide) (fun h18 => ?_) (fun h18 => ?_)
      · replace hw := hw.1 h18
        exact x_sub [0, 3, 4, 6, 7, 8, 9, 10, 11, 12, 13, 14, 15, 16, 17] rfl (ok_X12_back_b340 C r hP180 (fun _ _ _ h => h) hw)
      · replace hw := hw.2 h18
        obtain ⟨x19, ex19⟩ : ∃ z : Int32, z = v16 + (1 : Int32) := ⟨_, rfl⟩
        replace hw := hw x19 ex19
        refine x_iinc (v := x19) C dX12_back_284 rfl ex19.symm (Nat.le_of_ble_eq_true rfl) ?_
        refine x_iload C dX12_back_287 rfl ?_
        refine x_iconst (v := (1 : Int32)) C dX12_back_289 (by decide) ?_
        refine x_iload C dX12_back_290 rfl ?_
        refine x_ishl C dX12_back_292 ?_
        refine x_iconst (v := (-1 : Int32)) C dX12_back_293 (by decide) ?_
        refine x_ixor C dX12_back_294 ?_
        refine x_iand C dX12_back_295 ?_
        obtain ⟨x20, ex20⟩ : ∃ z : Int32, z = (v15 &&& (((1 : Int32) <<< (v17 &&& 31)) ^^^ (-1 : Int32))) := ⟨_, rfl⟩
        replace hw := hw x20 ex20
        refine x_topi ex20 ?_
        refine x_istore C dX12_back_296 (Nat.le_of_ble_eq_true rfl) ?_
        refine x_aload_n C dX12_back_298 rfl rfl ?_
        refine n_getS (dd := 15) C fl_X12_53 s135 (fun _ _ => rfl) rfl dX12_back_299 ?_
        refine x_iload C dX12_back_302 rfl ?_
        refine x_aload_n C dX12_back_304 rfl rfl ?_
        refine n_getS (dd := 15) C fl_X12_53 s135 (fun _ _ => rfl) rfl dX12_back_305 ?_
        refine x_iload C dX12_back_308 rfl ?_
        obtain ⟨h21, hw⟩ := hw
        refine a_zald C s150 ln150 h21 dX12_back_310 ?_
        refine x_if_ne (tgt := 334) C dX12_back_311 (by decide) (fun h22 => ?_) (fun h22 => ?_)
        · replace hw := hw.1 h22
          exact x_sub [0, 3, 4, 6, 7, 8, 9, 10, 11, 12, 13, 14, 15, 16, 17] rfl (ok_X12_back_b334 C r hP180 (fun _ _ _ h => h) hw)
        · replace hw := hw.2 h22
          refine x_aload_n C dX12_back_314 rfl rfl ?_
          refine n_getS (dd := 14) C fl_X12_50 s135 (fun _ _ => rfl) rfl dX12_back_315 ?_
          refine x_iload C dX12_back_318 rfl ?_
          obtain ⟨h23, hw⟩ := hw
          refine a_zald C s149 ln149 h23 dX12_back_320 ?_
          refine x_if_ne (tgt := 334) C dX12_back_321 (by decide) (fun h24 => ?_) (fun h24 => ?_)
          · replace hw := hw.1 h24
            exact x_sub [0, 3, 4, 6, 7, 8, 9, 10, 11, 12, 13, 14, 15, 16, 17] rfl (ok_X12_back_b334 C r hP180 (fun _ _ _ h => h) hw)
          · replace hw := hw.2 h24
            refine x_aload_n C dX12_back_324 rfl rfl ?_
            refine n_getS (dd := 15) C fl_X12_53 s135 (fun _ _ => rfl) rfl dX12_back_325 ?_
            refine x_iload C dX12_back_328 rfl ?_
            obtain ⟨h25, hw⟩ := hw
            refine a_zald C s150 ln150 h25 dX12_back_330 ?_
            refine x_if_eq (tgt := 338) C dX12_back_331 (by decide) (fun h26 => ?_) (fun h26 => ?_)
            · replace hw := hw.1 h26
              refine x_iconst (v := (0 : Int32)) C dX12_back_338 (by decide) ?_
              exact x_sub [0, 3, 4, 6, 7, 8, 9, 10, 11, 12, 13, 14, 15, 16, 17] rfl (ok_X12_back_b339 C r hP180 (fun _ _ _ h => h) hw)
            · replace hw := hw.2 h26
              exact x_sub [0, 3, 4, 6, 7, 8, 9, 10, 11, 12, 13, 14, 15, 16, 17] rfl (ok_X12_back_b334 C r hP180 (fun _ _ _ h => h) hw))
def w_X12_back_b259 (v3 : Int32) (v4 : Int32) (v6 : Int32) (v7 : Int32) (v8 : Int32) (v9 : Int32) (v10 : Int32) (v11 : Int32) (v12 : Int32) (v13 : Int32) (v14 : Int32) (v15 : Int32) (t1 : Int32) (t2 : Int32) (M : Mem) (q : Int32 → Mem → Prop) (P180 : Int32 × Int32 × Int32 × Int32 × Int32 × Mem → Prop) : Prop := vp_in t1 1024 ∧ bz t2 ∧ ∀ M29 : Mem, M29 = uI M 149 (t1).toNatClampNeg t2 → w_X12_back_l266 v3 v4 v6 v7 v8 v9 v10 v11 v12 v13 v14 v15 q P180 ((0 : Int32), (0 : Int32), M29)
set_option maxRecDepth 100000 in
set_option maxHeartbeats 4000000 in
theorem ok_X12_back_b259 {c : CtxT} {g : Gl} {l : Launch} {v3 : Int32} {v4 : Int32} {v6 : Int32} {v7 : Int32} {v8 : Int32} {v9 : Int32} {v10 : Int32} {v11 : Int32} {v12 : Int32} {v13 : Int32} {v14 : Int32} {v15 : Int32} {t1 : Int32} {t2 : Int32} {q : Int32 → Mem → Prop} {P180 : Int32 × Int32 × Int32 × Int32 × Int32 × Mem → Prop} {M : Mem} (C : Cx c cX12_back 19 RX12 g l (Rm 5 105)) (r : Rt c (some .int) (pI q) 0 0) (hP180 : ∀ (v11 : Int32) (v12 : Int32) (v13 : Int32) (v14 : Int32) (v15 : Int32) (M : Mem), P180 (v11, v12, v13, v14, v15, M) → X c S0 180 [(0, .ref (g.2.2.2 + 135)), (3, .int v3), (4, .int v4), (6, .int v6), (7, .int v7), (8, .int v8), (9, .int v9), (10, .int v10), (11, .int v11), (12, .int v12), (13, .int v13), (14, .int v14), (15, .int v15)] [] (stat M)) (hw : w_X12_back_b259 v3 v4 v6 v7 v8 v9 v10 v11 v12 v13 v14 v15 t1 t2 M q P180) : X c S0 259 [(0, .ref (g.2.2.2 + 135)), (3, .int v3), (4, .int v4), (6, .int v6), (7, .int v7), (8, .int v8), (9, .int v9), (10, .int v10), (11, .int v11), (12, .int v12), (13, .int v13), (14, .int v14), (15, .int v15)] [.int t2, .int t1, .ref (g.2.2.2 + 149)] (stat M) := by
  unfold w_X12_back_b259 at hw
  obtain ⟨h27, hw⟩ := hw
  obtain ⟨h28, hw⟩ := hw
  obtain ⟨M29, eM29⟩ : ∃ z : Mem, z = uI M 149 (t1).toNatClampNeg t2 := ⟨_, rfl⟩
  replace hw := hw M29 eM29
  refine a_zast C s149 ln149 rfl h27 h28 eM29 dX12_back_259 ?_
  refine x_iconst (v := (0 : Int32)) C dX12_back_260 (by decide) ?_
  refine x_istore C dX12_back_261 (Nat.le_of_ble_eq_true rfl) ?_
  refine x_iconst (v := (0 : Int32)) C dX12_back_263 (by decide) ?_
  refine x_istore C dX12_back_264 (Nat.le_of_ble_eq_true rfl) ?_
  exact x_sub [0, 3, 4, 6, 7, 8, 9, 10, 11, 12, 13, 14, 15, 16, 17] rfl (ok_X12_back_l266 C r hP180 hw)
def w_X12_back_b258 (v3 : Int32) (v4 : Int32) (v6 : Int32) (v7 : Int32) (v8 : Int32) (v9 : Int32) (v10 : Int32) (v11 : Int32) (v12 : Int32) (v13 : Int32) (v14 : Int32) (v15 : Int32) (t1 : Int32) (M : Mem) (q : Int32 → Mem → Prop) (P180 : Int32 × Int32 × Int32 × Int32 × Int32 × Mem → Prop) : Prop := w_X12_back_b259 v3 v4 v6 v7 v8 v9 v10 v11 v12 v13 v14 v15 t1 (0 : Int32) M q P180
set_option maxRecDepth 100000 in
set_option maxHeartbeats 4000000 in
theorem ok_X12_back_b258 {c : CtxT} {g : Gl} {l : Launch} {v3 : Int32} {v4 : Int32} {v6 : Int32} {v7 : Int32} {v8 : Int32} {v9 : Int32} {v10 : Int32} {v11 : Int32} {v12 : Int32} {v13 : Int32} {v14 : Int32} {v15 : Int32} {t1 : Int32} {q : Int32 → Mem → Prop} {P180 : Int32 × Int32 × Int32 × Int32 × Int32 × Mem → Prop} {M : Mem} (C : Cx c cX12_back 19 RX12 g l (Rm 5 105)) (r : Rt c (some .int) (pI q) 0 0) (hP180 : ∀ (v11 : Int32) (v12 : Int32) (v13 : Int32) (v14 : Int32) (v15 : Int32) (M : Mem), P180 (v11, v12, v13, v14, v15, M) → X c S0 180 [(0, .ref (g.2.2.2 + 135)), (3, .int v3), (4, .int v4), (6, .int v6), (7, .int v7), (8, .int v8), (9, .int v9), (10, .int v10), (11, .int v11), (12, .int v12), (13, .int v13), (14, .int v14), (15, .int v15)] [] (stat M)) (hw : w_X12_back_b258 v3 v4 v6 v7 v8 v9 v10 v11 v12 v13 v14 v15 t1 M q P180) : X c S0 258 [(0, .ref (g.2.2.2 + 135)), (3, .int v3), (4, .int v4), (6, .int v6), (7, .int v7), (8, .int v8), (9, .int v9), (10, .int v10), (11, .int v11), (12, .int v12), (13, .int v13), (14, .int v14), (15, .int v15)] [.int t1, .ref (g.2.2.2 + 149)] (stat M) := by
  unfold w_X12_back_b258 at hw
  refine x_iconst (v := (0 : Int32)) C dX12_back_258 (by decide) ?_
  exact x_sub [0, 3, 4, 6, 7, 8, 9, 10, 11, 12, 13, 14, 15] rfl (ok_X12_back_b259 C r hP180 hw)
def w_X12_back_l180F (v3 : Int32) (v4 : Int32) (v6 : Int32) (v7 : Int32) (v8 : Int32) (v9 : Int32) (v10 : Int32) (q : Int32 → Mem → Prop) (P180 : Int32 × Int32 × Int32 × Int32 × Int32 × Mem → Prop) (s : Int32 × Int32 × Int32 × Int32 × Int32 × Mem) : Prop := match s with
  | (v11, v12, v13, v14, v15, M) => (((1024 : Int32) ≤ v15 → ((¬ v6 = 0 → ((¬ v6 = (1 : Int32) → q v14 M) ∧ (v6 = (1 : Int32) → q v12 M))) ∧ (v6 = 0 → q v11 M))) ∧ (¬ (1024 : Int32) ≤ v15 → vp_in v15 1024 ∧ ∀ M34 : Mem, M34 = uI M 149 (v15).toNatClampNeg (0 : Int32) → vp_in v15 1024 ∧ ∀ M36 : Mem, M36 = uI M34 150 (v15).toNatClampNeg (0 : Int32) → ((¬ (v15 &&& (v10 ^^^ (-1 : Int32))) = 0 → w_X12_back_b428 v3 v4 v6 v7 v8 v9 v10 v11 v12 v13 v14 v15 M36 q P180) ∧ ((v15 &&& (v10 ^^^ (-1 : Int32))) = 0 → w_X12_goesPlain v7 (v9 &&& (v15 ^^^ (-1 : Int32))) v3 v4 M36 (fun (M38 : Mem) => ((¬ (M38.1 135 10) = 0 → w_X12_back_b258 v3 v4 v6 v7 v8 v9 v10 v11 v12 v13 v14 v15 v15 M38 q P180) ∧ ((M38.1 135 10) = 0 → ((v8 < (M38.1 144 5) → w_X12_back_b258 v3 v4 v6 v7 v8 v9 v10 v11 v12 v13 v14 v15 v15 M38 q P180) ∧ (¬ v8 < (M38.1 144 5) → w_X12_back_b259 v3 v4 v6 v7 v8 v9 v10 v11 v12 v13 v14 v15 v15 (1 : Int32) M38 q P180)))))))))
def w_X12_back_l180 (v3 : Int32) (v4 : Int32) (v6 : Int32) (v7 : Int32) (v8 : Int32) (v9 : Int32) (v10 : Int32) (q : Int32 → Mem → Prop) (s : Int32 × Int32 × Int32 × Int32 × Int32 × Mem) : Prop := lfp (w_X12_back_l180F v3 v4 v6 v7 v8 v9 v10 q ) s
set_option maxRecDepth 100000 in
set_option maxHeartbeats 4000000 in
theorem ok_X12_back_l180 {c : CtxT} {g : Gl} {l : Launch} {v3 : Int32} {v4 : Int32} {v6 : Int32} {v7 : Int32} {v8 : Int32} {v9 : Int32} {v10 : Int32} {q : Int32 → Mem → Prop} {s : Int32 × Int32 × Int32 × Int32 × Int32 × Mem} (C : Cx c cX12_back 19 RX12 g l (Rm 5 105)) (r : Rt c (some .int) (pI q) 0 0) (hw : w_X12_back_l180 v3 v4 v6 v7 v8 v9 v10 q s) : X c S0 180 [(0, .ref (g.2.2.2 + 135)), (3, .int v3), (4, .int v4), (6, .int v6), (7, .int v7), (8, .int v8), (9, .int v9), (10, .int v10), (11, .int s.1), (12, .int s.2.1), (13, .int s.2.2.1), (14, .int s.2.2.2.1), (15, .int s.2.2.2.2.1)] [] (stat s.2.2.2.2.2) := hw (fun s => X c S0 180 [(0, .ref (g.2.2.2 + 135)), (3, .int v3), (4, .int v4), (6, .int v6), (7, .int v7), (8, .int v8), (9, .int v9), (10, .int v10), (11, .int s.1), (12, .int s.2.1), (13, .int s.2.2.1), (14, .int s.2.2.2.1), (15, .int s.2.2.2.2.1)] [] (stat s.2.2.2.2.2)) (fun s hw => by
    obtain ⟨v11, v12, v13, v14, v15, M⟩ := s
    try dsimp only [w_X12_back_l180F] at hw
    try dsimp only
    refine x_iload C dX12_back_180 rfl ?_
    refine x_sipush (v := (1024 : Int32)) C dX12_back_182 (by decide) ?_
    refine x_icmp_ge (tgt := 434) C dX12_back_185 (by decide) (fun h30 => ?_) (fun h30 => ?_)
    · replace hw := hw.1 h30
      refine x_iload C dX12_back_434 rfl ?_
      refine x_if_ne (tgt := 444) C dX12_back_436 (by decide) (fun h31 => ?_) (fun h31 => ?_)
      · replace hw := hw.1 h31
        refine x_iload C dX12_back_444 rfl ?_
        refine x_iconst (v := (1 : Int32)) C dX12_back_446 (by decide) ?_
        refine x_icmp_ne (tgt := 455) C dX12_back_447 (by decide) (fun h32 => ?_) (fun h32 => ?_)
        · replace hw := hw.1 h32
          refine x_iload C dX12_back_455 rfl ?_
          exact n_ireturn C r dX12_back_457 hw
        · replace hw := hw.2 h32
          refine x_iload C dX12_back_450 rfl ?_
          refine x_goto (tgt := 457) C dX12_back_452 (by decide) ?_
          exact n_ireturn C r dX12_back_457 hw
      · replace hw := hw.2 h31
        refine x_iload C dX12_back_439 rfl ?_
        refine x_goto (tgt := 457) C dX12_back_441 (by decide) ?_
        exact n_ireturn C r dX12_back_457 hw
    · replace hw := hw.2 h30
      refine x_aload_n C dX12_back_188 rfl rfl ?_
      refine n_getS (dd := 14) C fl_X12_50 s135 (fun _ _ => rfl) rfl dX12_back_189 ?_
      refine x_iload C dX12_back_192 rfl ?_
      refine x_iconst (v := (0 : Int32)) C dX12_back_194 (by decide) ?_
      obtain ⟨h33, hw⟩ := hw
      obtain ⟨M34, eM34⟩ : ∃ z : Mem, z = uI M 149 (v15).toNatClampNeg (0 : Int32) := ⟨_, rfl⟩
      replace hw := hw M34 eM34
      refine a_zast C s149 ln149 rfl h33 (Or.inl rfl) eM34 dX12_back_195 ?_
      refine x_aload_n C dX12_back_196 rfl rfl ?_
      refine n_getS (dd := 15) C fl_X12_53 s135 (fun _ _ => rfl) rfl dX12_back_197 ?_
      refine x_iload C dX12_back_200 rfl ?_
      refine x_iconst (v := (0 : Int32)) C dX12_back_202 (by decide) ?_
      obtain ⟨h35, hw⟩ := hw
      obtain ⟨M36, eM36⟩ : ∃ z : Mem, z = uI M34 150 (v15).toNatClampNeg (0 : Int32) := ⟨_, rfl⟩
      replace hw := hw M36 eM36
      refine a_zast C s150 ln150 rfl h35 (Or.inl rfl) eM36 dX12_back_203 ?_
      refine x_iload C dX12_back_204 rfl ?_
      refine x_iload C dX12_back_206 rfl ?_
      refine x_iconst (v := (-1 : Int32)) C dX12_back_208 (by decide) ?_
      refine x_ixor C dX12_back_209 ?_
      refine x_iand C dX12_back_210 ?_
      refine x_if_ne (tgt := 428) C dX12_back_211 (by decide) (fun h37 => ?_) (fun h37 => ?_)
      · replace hw := hw.1 h37
        exact x_sub [0, 3, 4, 6, 7, 8, 9, 10, 11, 12, 13, 14, 15] rfl (ok_X12_back_b428 C r (fun _ _ _ _ _ _ h => h) hw)
      · replace hw := hw.2 h37
        refine x_aload_n C dX12_back_214 rfl rfl ?_
        refine x_iload C dX12_back_215 rfl ?_
        refine x_iload C dX12_back_217 rfl ?_
        refine x_iload C dX12_back_219 rfl ?_
        refine x_iconst (v := (-1 : Int32)) C dX12_back_221 (by decide) ?_
        refine x_ixor C dX12_back_222 ?_
        refine x_iand C dX12_back_223 ?_
        refine x_iload_n C dX12_back_224 rfl rfl ?_
        refine x_iload C dX12_back_225 rfl ?_
        refine n_callVV s135 rfl C (ok_X12_goesPlain  hw) mv_X12_167 rfl rfl ⟨Nat.le_of_ble_eq_true rfl, Nat.le_of_ble_eq_true rfl⟩ (Nat.le_of_ble_eq_true rfl) dX12_back_227 (fun M38 hw => ?_)
        refine x_aload_n C dX12_back_230 rfl rfl ?_
        refine n_getS (dd := 14) C fl_X12_50 s135 (fun _ _ => rfl) rfl dX12_back_231 ?_
        refine x_iload C dX12_back_234 rfl ?_
        refine x_aload_n C dX12_back_236 rfl rfl ?_
        refine n_getI C fl_X12_119 s135 (fun _ _ => rfl) dX12_back_237 ?_
        refine x_if_ne (tgt := 258) C dX12_back_240 (by decide) (fun h40 => ?_) (fun h40 => ?_)
        · replace hw := hw.1 h40
          exact x_sub [0, 3, 4, 6, 7, 8, 9, 10, 11, 12, 13, 14, 15] rfl (ok_X12_back_b258 C r (fun _ _ _ _ _ _ h => h) hw)
        · replace hw := hw.2 h40
          refine x_aload_n C dX12_back_243 rfl rfl ?_
          refine n_getS (dd := 9) C fl_X12_35 s135 (fun _ _ => rfl) rfl dX12_back_244 ?_
          refine x_iconst (v := (5 : Int32)) C dX12_back_247 (by decide) ?_
          refine a_ialdL (ni := 5) C s144 ln144 (by decide) (vin _ _ (by decide +kernel)) dX12_back_248 ?_
          refine x_iload C dX12_back_249 rfl ?_
          refine x_icmp_gt (tgt := 258) C dX12_back_251 (by decide) (fun h41 => ?_) (fun h41 => ?_)
          · replace hw := hw.1 h41
            exact x_sub [0, 3, 4, 6, 7, 8, 9, 10, 11, 12, 13, 14, 15] rfl (ok_X12_back_b258 C r (fun _ _ _ _ _ _ h => h) hw)
          · replace hw := hw.2 h41
            refine x_iconst (v := (1 : Int32)) C dX12_back_254 (by decide) ?_
            refine x_goto (tgt := 259) C dX12_back_255 (by decide) ?_
            exact x_sub [0, 3, 4, 6, 7, 8, 9, 10, 11, 12, 13, 14, 15] rfl (ok_X12_back_b259 C r (fun _ _ _ _ _ _ h => h) hw))
def w_X12_back (v1 : Int32) (v2 : Int32) (v3 : Int32) (v4 : Int32) (v5 : Int32) (v6 : Int32) (M : Mem) (q : Int32 → Mem → Prop) : Prop := w_X12_isThere v1 v3 v4 M (fun (r43 : Int32) (M42 : Mem) => ((r43 = 0 → q (-2 : Int32) M42) ∧ (¬ r43 = 0 → w_X12_has (2 : Int32) v2 M42 (fun (r46 : Int32) (M45 : Mem) => ((r46 = 0 → q (-2 : Int32) M45) ∧ (¬ r46 = 0 → w_X12_in (v5).toInt64 (0 : Int64) (100000 : Int64) M45 (fun (r49 : Int32) (M48 : Mem) => ((r49 = 0 → q (-2 : Int32) M48) ∧ (¬ r49 = 0 → w_X12_in (v6).toInt64 (0 : Int64) (2 : Int64) M48 (fun (r52 : Int32) (M51 : Mem) => ((¬ r52 = 0 → vp_in ((1026 : Int32) + ((2 : Int32) * v1)) 4230 ∧ ∀ x55 : Int32, x55 = (M51.1 136 (((1026 : Int32) + ((2 : Int32) * v1))).toNatClampNeg) → vp_in ((1026 : Int32) + ((2 : Int32) * v2)) 4230 ∧ ((x55 = (M51.1 136 (((1026 : Int32) + ((2 : Int32) * v2))).toNatClampNeg) → vp_in (((1026 : Int32) + ((2 : Int32) * v2)) + (1 : Int32)) 4230 ∧ w_X12_goesPlain x55 (M51.1 136 ((((1026 : Int32) + ((2 : Int32) * v2)) + (1 : Int32))).toNatClampNeg) v3 v4 M51 (fun (M59 : Mem) => (((M59.1 135 10) = 0 → ∀ x62 : Int32, x62 = ((M59.1 144 5) + v5) → vp_in (((1026 : Int32) + ((2 : Int32) * v1)) + (1 : Int32)) 4230 ∧ ∀ x64 : Int32, x64 = (M59.1 136 ((((1026 : Int32) + ((2 : Int32) * v1)) + (1 : Int32))).toNatClampNeg) → vp_in (((1026 : Int32) + ((2 : Int32) * v2)) + (1 : Int32)) 4230 ∧ ∀ x66 : Int32, x66 = (x64 &&& ((M59.1 136 ((((1026 : Int32) + ((2 : Int32) * v2)) + (1 : Int32))).toNatClampNeg) ^^^ (-1 : Int32))) → w_X12_back_l180 v3 v4 v6 x55 x62 x64 x66 q ((0 : Int32), (-1 : Int32), (99 : Int32), (0 : Int32), (0 : Int32), M59)) ∧ (¬ (M59.1 135 10) = 0 → q (-3 : Int32) M59)))) ∧ (¬ x55 = (M51.1 136 (((1026 : Int32) + ((2 : Int32) * v2))).toNatClampNeg) → q (-3 : Int32) M51))) ∧ (r52 = 0 → q (-2 : Int32) M51))))))))))))
set_option maxRecDepth 100000 in
set_option maxHeartbeats 4000000 in
theorem ok_X12_back {g : Gl} {l : Launch} {v1 : Int32} {v2 : Int32} {v3 : Int32} {v4 : Int32} {v5 : Int32} {v6 : Int32} {M : Mem} {q : Int32 → Mem → Prop} (hw : w_X12_back v1 v2 v3 v4 v5 v6 M q) : CtI g l yX12_back cX12_back 19 (some .int) 5 105 [.ref (g.2.2.2 + 135), .int v1, .int v2, .int v3, .int v4, .int v5, .int v6] M q := by
  refine n_introI (by decide +kernel) (Nat.le_of_ble_eq_true rfl) (fun c C r => ?_)
  have C : Cx c cX12_back 19 RX12 g l (Rm 5 105) := C
  refine x_sub [0, 1, 2, 3, 4, 5, 6] (lv' := [(0, .ref (g.2.2.2 + 135)), (1, .int v1), (2, .int v2), (3, .int v3), (4, .int v4), (5, .int v5), (6, .int v6)]) rfl ?_
  unfold w_X12_back at hw
  refine x_aload_n C dX12_back_0 rfl rfl ?_
  refine x_iload_n C dX12_back_1 rfl rfl ?_
  refine x_iload_n C dX12_back_2 rfl rfl ?_
  refine x_iload C dX12_back_3 rfl ?_
  refine n_callVI s135 rfl C (ok_X12_isThere  hw) mv_X12_152 rfl rfl ⟨Nat.le_of_ble_eq_true rfl, Nat.le_of_ble_eq_true rfl⟩ (Nat.le_of_ble_eq_true rfl) dX12_back_5 (fun r43 M42 hw => ?_)
  refine x_if_eq (tgt := 46) C dX12_back_8 (by decide) (fun h44 => ?_) (fun h44 => ?_)
  · replace hw := hw.1 h44
    refine x_bipush (v := (-2 : Int32)) C dX12_back_46 (by decide) ?_
    exact n_ireturn C r dX12_back_48 hw
  · replace hw := hw.2 h44
    refine x_aload_n C dX12_back_11 rfl rfl ?_
    refine x_iconst (v := (2 : Int32)) C dX12_back_12 (by decide) ?_
    refine x_iload_n C dX12_back_13 rfl rfl ?_
    refine n_callVI s135 rfl C (ok_X12_has  hw) mv_X12_84 rfl rfl ⟨Nat.le_of_ble_eq_true rfl, Nat.le_of_ble_eq_true rfl⟩ (Nat.le_of_ble_eq_true rfl) dX12_back_14 (fun r46 M45 hw => ?_)
    refine x_if_eq (tgt := 46) C dX12_back_17 (by decide) (fun h47 => ?_) (fun h47 => ?_)
    · replace hw := hw.1 h47
      refine x_bipush (v := (-2 : Int32)) C dX12_back_46 (by decide) ?_
      exact n_ireturn C r dX12_back_48 hw
    · replace hw := hw.2 h47
      refine x_iload C dX12_back_20 rfl ?_
      refine x_i2l C dX12_back_22 ?_
      refine x_lconst (v := (0 : Int64)) C dX12_back_23 (by decide) ?_
      refine x_ldc2_w (v := (100000 : Int64)) C dX12_back_24 kc_X12_194 ?_
      refine n_callSI C (ok_X12_in  hw) ms_X12_70 rfl rfl ⟨Nat.le_of_ble_eq_true rfl, Nat.le_of_ble_eq_true rfl⟩ (Nat.le_of_ble_eq_true rfl) dX12_back_27 (fun r49 M48 hw => ?_)
      refine x_if_eq (tgt := 46) C dX12_back_30 (by decide) (fun h50 => ?_) (fun h50 => ?_)
      · replace hw := hw.1 h50
        refine x_bipush (v := (-2 : Int32)) C dX12_back_46 (by decide) ?_
        exact n_ireturn C r dX12_back_48 hw
      · replace hw := hw.2 h50
        refine x_iload C dX12_back_33 rfl ?_
        refine x_i2l C dX12_back_35 ?_
        refine x_lconst (v := (0 : Int64)) C dX12_back_36 (by decide) ?_
        refine x_ldc2_w (v := (2 : Int64)) C dX12_back_37 kc_X12_190 ?_
        refine n_callSI C (ok_X12_in  hw) ms_X12_70 rfl rfl ⟨Nat.le_of_ble_eq_true rfl, Nat.le_of_ble_eq_true rfl⟩ (Nat.le_of_ble_eq_true rfl) dX12_back_40 (fun r52 M51 hw => ?_)
        refine x_if_ne (tgt := 49) C dX12_back_43 (by decide) (fun h53 => ?_) (fun h53 => ?_)
        · replace hw := hw.1 h53
          refine x_aload_n C dX12_back_49 rfl rfl ?_
          refine n_getS (dd := 1) C fl_X12_7 s135 (fun _ _ => rfl) rfl dX12_back_50 ?_
          refine x_sipush (v := (1026 : Int32)) C dX12_back_53 (by decide) ?_
          refine x_iconst (v := (2 : Int32)) C dX12_back_56 (by decide) ?_
          refine x_iload_n C dX12_back_57 rfl rfl ?_
          refine x_imul C dX12_back_58 ?_
          refine x_iadd C dX12_back_59 ?_
          obtain ⟨h54, hw⟩ := hw
          refine a_iald C s136 ln136 h54 dX12_back_60 ?_
          obtain ⟨x55, ex55⟩ : ∃ z : Int32, z = (M51.1 136 (((1026 : Int32) + ((2 : Int32) * v1))).toNatClampNeg) := ⟨_, rfl⟩
          replace hw := hw x55 ex55
          refine x_topi ex55 ?_
          refine x_istore C dX12_back_61 (Nat.le_of_ble_eq_true rfl) ?_
          refine x_iload C dX12_back_63 rfl ?_
          refine x_aload_n C dX12_back_65 rfl rfl ?_
          refine n_getS (dd := 1) C fl_X12_7 s135 (fun _ _ => rfl) rfl dX12_back_66 ?_
          refine x_sipush (v := (1026 : Int32)) C dX12_back_69 (by decide) ?_
          refine x_iconst (v := (2 : Int32)) C dX12_back_72 (by decide) ?_
          refine x_iload_n C dX12_back_73 rfl rfl ?_
          refine x_imul C dX12_back_74 ?_
          refine x_iadd C dX12_back_75 ?_
          obtain ⟨h56, hw⟩ := hw
          refine a_iald C s136 ln136 h56 dX12_back_76 ?_
          refine x_icmp_eq (tgt := 83) C dX12_back_77 (by decide) (fun h57 => ?_) (fun h57 => ?_)
          · replace hw := hw.1 h57
            refine x_aload_n C dX12_back_83 rfl rfl ?_
            refine x_iload C dX12_back_84 rfl ?_
            refine x_aload_n C dX12_back_86 rfl rfl ?_
            refine n_getS (dd := 1) C fl_X12_7 s135 (fun _ _ => rfl) rfl dX12_back_87 ?_
            refine x_sipush (v := (1026 : Int32)) C dX12_back_90 (by decide) ?_
            refine x_iconst (v := (2 : Int32)) C dX12_back_93 (by decide) ?_
            refine x_iload_n C dX12_back_94 rfl rfl ?_
            refine x_imul C dX12_back_95 ?_
            refine x_iadd C dX12_back_96 ?_
            refine x_iconst (v := (1 : Int32)) C dX12_back_97 (by decide) ?_
            refine x_iadd C dX12_back_98 ?_
            obtain ⟨h58, hw⟩ := hw
            refine a_iald C s136 ln136 h58 dX12_back_99 ?_
            refine x_iload_n C dX12_back_100 rfl rfl ?_
            refine x_iload C dX12_back_101 rfl ?_
            refine n_callVV s135 rfl C (ok_X12_goesPlain  hw) mv_X12_167 rfl rfl ⟨Nat.le_of_ble_eq_true rfl, Nat.le_of_ble_eq_true rfl⟩ (Nat.le_of_ble_eq_true rfl) dX12_back_103 (fun M59 hw => ?_)
            refine x_aload_n C dX12_back_106 rfl rfl ?_
            refine n_getI C fl_X12_119 s135 (fun _ _ => rfl) dX12_back_107 ?_
            refine x_if_eq (tgt := 116) C dX12_back_110 (by decide) (fun h61 => ?_) (fun h61 => ?_)
            · replace hw := hw.1 h61
              refine x_aload_n C dX12_back_116 rfl rfl ?_
              refine n_getS (dd := 9) C fl_X12_35 s135 (fun _ _ => rfl) rfl dX12_back_117 ?_
              refine x_iconst (v := (5 : Int32)) C dX12_back_120 (by decide) ?_
              refine a_ialdL (ni := 5) C s144 ln144 (by decide) (vin _ _ (by decide +kernel)) dX12_back_121 ?_
              refine x_iload C dX12_back_122 rfl ?_
              refine x_iadd C dX12_back_124 ?_
              obtain ⟨x62, ex62⟩ : ∃ z : Int32, z = ((M59.1 144 5) + v5) := ⟨_, rfl⟩
              replace hw := hw x62 ex62
              refine x_topi ex62 ?_
              refine x_istore C dX12_back_125 (Nat.le_of_ble_eq_true rfl) ?_
              refine x_aload_n C dX12_back_127 rfl rfl ?_
              refine n_getS (dd := 1) C fl_X12_7 s135 (fun _ _ => rfl) rfl dX12_back_128 ?_
              refine x_sipush (v := (1026 : Int32)) C dX12_back_131 (by decide) ?_
              refine x_iconst (v := (2 : Int32)) C dX12_back_134 (by decide) ?_
              refine x_iload_n C dX12_back_135 rfl rfl ?_
              refine x_imul C dX12_back_136 ?_
              refine x_iadd C dX12_back_137 ?_
              refine x_iconst (v := (1 : Int32)) C dX12_back_138 (by decide) ?_
              refine x_iadd C dX12_back_139 ?_
              obtain ⟨h63, hw⟩ := hw
              refine a_iald C s136 ln136 h63 dX12_back_140 ?_
              obtain ⟨x64, ex64⟩ : ∃ z : Int32, z = (M59.1 136 ((((1026 : Int32) + ((2 : Int32) * v1)) + (1 : Int32))).toNatClampNeg) := ⟨_, rfl⟩
              replace hw := hw x64 ex64
              refine x_topi ex64 ?_
              refine x_istore C dX12_back_141 (Nat.le_of_ble_eq_true rfl) ?_
              refine x_iload C dX12_back_143 rfl ?_
              refine x_aload_n C dX12_back_145 rfl rfl ?_
              refine n_getS (dd := 1) C fl_X12_7 s135 (fun _ _ => rfl) rfl dX12_back_146 ?_
              refine x_sipush (v := (1026 : Int32)) C dX12_back_149 (by decide) ?_
              refine x_iconst (v := (2 : Int32)) C dX12_back_152 (by decide) ?_
              refine x_iload_n C dX12_back_153 rfl rfl ?_
              refine x_imul C dX12_back_154 ?_
              refine x_iadd C dX12_back_155 ?_
              refine x_iconst (v := (1 : Int32)) C dX12_back_156 (by decide) ?_
              refine x_iadd C dX12_back_157 ?_
              obtain ⟨h65, hw⟩ := hw
              refine a_iald C s136 ln136 h65 dX12_back_158 ?_
              refine x_iconst (v := (-1 : Int32)) C dX12_back_159 (by decide) ?_
              refine x_ixor C dX12_back_160 ?_
              refine x_iand C dX12_back_161 ?_
              obtain ⟨x66, ex66⟩ : ∃ z : Int32, z = (x64 &&& ((M59.1 136 ((((1026 : Int32) + ((2 : Int32) * v2)) + (1 : Int32))).toNatClampNeg) ^^^ (-1 : Int32))) := ⟨_, rfl⟩
              replace hw := hw x66 ex66
              refine x_topi ex66 ?_
              refine x_istore C dX12_back_162 (Nat.le_of_ble_eq_true rfl) ?_
              refine x_iconst (v := (0 : Int32)) C dX12_back_164 (by decide) ?_
              refine x_istore C dX12_back_165 (Nat.le_of_ble_eq_true rfl) ?_
              refine x_iconst (v := (-1 : Int32)) C dX12_back_167 (by decide) ?_
              refine x_istore C dX12_back_168 (Nat.le_of_ble_eq_true rfl) ?_
              refine x_bipush (v := (99 : Int32)) C dX12_back_170 (by decide) ?_
              refine x_istore C dX12_back_172 (Nat.le_of_ble_eq_true rfl) ?_
              refine x_iconst (v := (0 : Int32)) C dX12_back_174 (by decide) ?_
              refine x_istore C dX12_back_175 (Nat.le_of_ble_eq_true rfl) ?_
              refine x_iconst (v := (0 : Int32)) C dX12_back_177 (by decide) ?_
              refine x_istore C dX12_back_178 (Nat.le_of_ble_eq_true rfl) ?_
              exact x_sub [0, 3, 4, 6, 7, 8, 9, 10, 11, 12, 13, 14, 15] rfl (ok_X12_back_l180 C r  hw)
            · replace hw := hw.2 h61
              refine x_bipush (v := (-3 : Int32)) C dX12_back_113 (by decide) ?_
              exact n_ireturn C r dX12_back_115 hw
          · replace hw := hw.2 h57
            refine x_bipush (v := (-3 : Int32)) C dX12_back_80 (by decide) ?_
            exact n_ireturn C r dX12_back_82 hw
        · replace hw := hw.2 h53
          refine x_bipush (v := (-2 : Int32)) C dX12_back_46 (by decide) ?_
          exact n_ireturn C r dX12_back_48 hw

def w_X12_isOf (v1 : Int32) (v2 : Int32) (M : Mem) (q : Int32 → Mem → Prop) : Prop := vp_in (((1346 : Int32) + ((14 : Int32) * v1)) + (8 : Int32)) 4230 ∧ ((¬ (M.1 136 ((((1346 : Int32) + ((14 : Int32) * v1)) + (8 : Int32))).toNatClampNeg) = v2 → q (0 : Int32) M) ∧ ((M.1 136 ((((1346 : Int32) + ((14 : Int32) * v1)) + (8 : Int32))).toNatClampNeg) = v2 → vp_in (((1346 : Int32) + ((14 : Int32) * v1)) + (6 : Int32)) 4230 ∧ ((¬ (M.1 136 ((((1346 : Int32) + ((14 : Int32) * v1)) + (6 : Int32))).toNatClampNeg) = 0 → q (0 : Int32) M) ∧ ((M.1 136 ((((1346 : Int32) + ((14 : Int32) * v1)) + (6 : Int32))).toNatClampNeg) = 0 → q (1 : Int32) M))))
set_option maxRecDepth 100000 in
set_option maxHeartbeats 4000000 in
theorem ok_X12_isOf {g : Gl} {l : Launch} {v1 : Int32} {v2 : Int32} {M : Mem} {q : Int32 → Mem → Prop} (hw : w_X12_isOf v1 v2 M q) : CtI g l yX12_isOf cX12_isOf 3 (some .boolean) 1 0 [.ref (g.2.2.2 + 135), .int v1, .int v2] M q := by
  refine n_introI (by decide +kernel) (Nat.le_of_ble_eq_true rfl) (fun c C r => ?_)
  have C : Cx c cX12_isOf 3 RX12 g l (Rm 1 0) := C
  refine x_sub [0, 1, 2] (lv' := [(0, .ref (g.2.2.2 + 135)), (1, .int v1), (2, .int v2)]) rfl ?_
  unfold w_X12_isOf at hw
  refine x_aload_n C dX12_isOf_0 rfl rfl ?_
  refine n_getS (dd := 1) C fl_X12_7 s135 (fun _ _ => rfl) rfl dX12_isOf_1 ?_
  refine x_sipush (v := (1346 : Int32)) C dX12_isOf_4 (by decide) ?_
  refine x_bipush (v := (14 : Int32)) C dX12_isOf_7 (by decide) ?_
  refine x_iload_n C dX12_isOf_9 rfl rfl ?_
  refine x_imul C dX12_isOf_10 ?_
  refine x_iadd C dX12_isOf_11 ?_
  refine x_bipush (v := (8 : Int32)) C dX12_isOf_12 (by decide) ?_
  refine x_iadd C dX12_isOf_14 ?_
  obtain ⟨h1, hw⟩ := hw
  refine a_iald C s136 ln136 h1 dX12_isOf_15 ?_
  refine x_iload_n C dX12_isOf_16 rfl rfl ?_
  refine x_icmp_ne (tgt := 43) C dX12_isOf_17 (by decide) (fun h2 => ?_) (fun h2 => ?_)
  · replace hw := hw.1 h2
    refine x_iconst (v := (0 : Int32)) C dX12_isOf_43 (by decide) ?_
    exact n_zreturn C r dX12_isOf_44 (Or.inl rfl) hw
  · replace hw := hw.2 h2
    refine x_aload_n C dX12_isOf_20 rfl rfl ?_
    refine n_getS (dd := 1) C fl_X12_7 s135 (fun _ _ => rfl) rfl dX12_isOf_21 ?_
    refine x_sipush (v := (1346 : Int32)) C dX12_isOf_24 (by decide) ?_
    refine x_bipush (v := (14 : Int32)) C dX12_isOf_27 (by decide) ?_
    refine x_iload_n C dX12_isOf_29 rfl rfl ?_
    refine x_imul C dX12_isOf_30 ?_
    refine x_iadd C dX12_isOf_31 ?_
    refine x_bipush (v := (6 : Int32)) C dX12_isOf_32 (by decide) ?_
    refine x_iadd C dX12_isOf_34 ?_
    obtain ⟨h3, hw⟩ := hw
    refine a_iald C s136 ln136 h3 dX12_isOf_35 ?_
    refine x_if_ne (tgt := 43) C dX12_isOf_36 (by decide) (fun h4 => ?_) (fun h4 => ?_)
    · replace hw := hw.1 h4
      refine x_iconst (v := (0 : Int32)) C dX12_isOf_43 (by decide) ?_
      exact n_zreturn C r dX12_isOf_44 (Or.inl rfl) hw
    · replace hw := hw.2 h4
      refine x_iconst (v := (1 : Int32)) C dX12_isOf_39 (by decide) ?_
      refine x_goto (tgt := 44) C dX12_isOf_40 (by decide) ?_
      exact n_zreturn C r dX12_isOf_44 (Or.inr rfl) hw

def w_X12_isCounter (v0 : Int32) (M : Mem) (q : Int32 → Mem → Prop) : Prop := w_X12_in (v0).toInt64 (0 : Int64) (4 : Int64) M (fun (r2 : Int32) (M1 : Mem) => (bz r2 ∧ q r2 M1))
set_option maxRecDepth 100000 in
set_option maxHeartbeats 4000000 in
theorem ok_X12_isCounter {g : Gl} {l : Launch} {v0 : Int32} {M : Mem} {q : Int32 → Mem → Prop} (hw : w_X12_isCounter v0 M q) : CtI g l yX12_isCounter cX12_isCounter 1 (some .boolean) 2 25 [.int v0] M q := by
  refine n_introI (by decide +kernel) (Nat.le_of_ble_eq_true rfl) (fun c C r => ?_)
  have C : Cx c cX12_isCounter 1 RX12 g l (Rm 2 25) := C
  refine x_sub [0] (lv' := [(0, .int v0)]) rfl ?_
  unfold w_X12_isCounter at hw
  refine x_iload_n C dX12_isCounter_0 rfl rfl ?_
  refine x_i2l C dX12_isCounter_1 ?_
  refine x_lconst (v := (0 : Int64)) C dX12_isCounter_2 (by decide) ?_
  refine x_ldc2_w (v := (4 : Int64)) C dX12_isCounter_3 kc_X12_200 ?_
  refine n_callSI C (ok_X12_in  hw) ms_X12_70 rfl rfl ⟨Nat.le_of_ble_eq_true rfl, Nat.le_of_ble_eq_true rfl⟩ (Nat.le_of_ble_eq_true rfl) dX12_isCounter_6 (fun r2 M1 hw => ?_)
  exact n_zreturn C r dX12_isCounter_9 hw.1 hw.2

def w_X12_with_b118 (v1 : Int32) (v2 : Int32) (v3 : Int64) (v5 : Int64) (v7 : Int64) (v9 : Int64) (v11 : Int32) (M : Mem) (q : Int64 → Mem → Prop) (P32 : Int64 × Int64 × Int64 × Int64 × Int32 × Mem → Prop) : Prop := ∀ x1 : Int32, x1 = v11 + (1 : Int32) → P32 (v3, v5, v7, v9, x1, M)
set_option maxRecDepth 100000 in
set_option maxHeartbeats 4000000 in
theorem ok_X12_with_b118 {c : CtxT} {g : Gl} {l : Launch} {v1 : Int32} {v2 : Int32} {v3 : Int64} {v5 : Int64} {v7 : Int64} {v9 : Int64} {v11 : Int32} {q : Int64 → Mem → Prop} {P32 : Int64 × Int64 × Int64 × Int64 × Int32 × Mem → Prop} {M : Mem} (C : Cx c cX12_with 16 RX12 g l (Rm 3 45)) (r : Rt c (some .long) (pJ q) 0 0) (hP32 : ∀ (v3 : Int64) (v5 : Int64) (v7 : Int64) (v9 : Int64) (v11 : Int32) (M : Mem), P32 (v3, v5, v7, v9, v11, M) → X c S0 32 [(0, .ref (g.2.2.2 + 135)), (1, .int v1), (2, .int v2), (3, .long v3), (5, .long v5), (7, .long v7), (9, .long v9), (11, .int v11)] [] (stat M)) (hw : w_X12_with_b118 v1 v2 v3 v5 v7 v9 v11 M q P32) : X c S0 118 [(0, .ref (g.2.2.2 + 135)), (1, .int v1), (2, .int v2), (3, .long v3), (5, .long v5), (7, .long v7), (9, .long v9), (11, .int v11)] [] (stat M) := by
  unfold w_X12_with_b118 at hw
  obtain ⟨x1, ex1⟩ : ∃ z : Int32, z = v11 + (1 : Int32) := ⟨_, rfl⟩
  replace hw := hw x1 ex1
  refine x_iinc (v := x1) C dX12_with_118 rfl ex1.symm (Nat.le_of_ble_eq_true rfl) ?_
  refine x_goto (tgt := 32) C dX12_with_121 (by decide) ?_
  exact x_sub [0, 1, 2, 3, 5, 7, 9, 11] rfl (hP32 _ _ _ _ _ _ hw)
def w_X12_with_l32F (v1 : Int32) (v2 : Int32) (q : Int64 → Mem → Prop) (P32 : Int64 × Int64 × Int64 × Int64 × Int32 × Mem → Prop) (s : Int64 × Int64 × Int64 × Int64 × Int32 × Mem) : Prop := match s with
  | (v3, v5, v7, v9, v11, M) => w_X12_many (4 : Int32) M (fun (r3 : Int32) (M2 : Mem) => ((r3 ≤ v11 → q ((v3 * v5) - (v7 * v9)) M2) ∧ (¬ r3 ≤ v11 → w_X12_isOf v11 v1 M2 (fun (r6 : Int32) (M5 : Mem) => ((r6 = 0 → w_X12_with_b118 v1 v2 v3 v5 v7 v9 v11 M5 q P32) ∧ (¬ r6 = 0 → vp_in (((1346 : Int32) + ((14 : Int32) * v11)) + v2) 4230 ∧ ∀ x9 : Int64, x9 = ((M5.1 136 ((((1346 : Int32) + ((14 : Int32) * v11)) + v2)).toNatClampNeg)).toInt64 → vp_in (((1346 : Int32) + ((14 : Int32) * v11)) + (5 : Int32)) 4230 ∧ ∀ x11 : Int64, x11 = ((M5.1 136 ((((1346 : Int32) + ((14 : Int32) * v11)) + (5 : Int32))).toNatClampNeg)).toInt64 → ∀ x12 : Int64, x12 = (v3 + (1 : Int64)) → ∀ x13 : Int64, x13 = (v5 + (x9 * x11)) → ∀ x14 : Int64, x14 = (v7 + x9) → ∀ x15 : Int64, x15 = (v9 + x11) → w_X12_with_b118 v1 v2 x12 x13 x14 x15 v11 M5 q P32))))))
def w_X12_with_l32 (v1 : Int32) (v2 : Int32) (q : Int64 → Mem → Prop) (s : Int64 × Int64 × Int64 × Int64 × Int32 × Mem) : Prop := lfp (w_X12_with_l32F v1 v2 q ) s
set_option maxRecDepth 100000 in
set_option maxHeartbeats 4000000 in
theorem ok_X12_with_l32 {c : CtxT} {g : Gl} {l : Launch} {v1 : Int32} {v2 : Int32} {q : Int64 → Mem → Prop} {s : Int64 × Int64 × Int64 × Int64 × Int32 × Mem} (C : Cx c cX12_with 16 RX12 g l (Rm 3 45)) (r : Rt c (some .long) (pJ q) 0 0) (hw : w_X12_with_l32 v1 v2 q s) : X c S0 32 [(0, .ref (g.2.2.2 + 135)), (1, .int v1), (2, .int v2), (3, .long s.1), (5, .long s.2.1), (7, .long s.2.2.1), (9, .long s.2.2.2.1), (11, .int s.2.2.2.2.1)] [] (stat s.2.2.2.2.2) := hw (fun s => X c S0 32 [(0, .ref (g.2.2.2 + 135)), (1, .int v1), (2, .int v2), (3, .long s.1), (5, .long s.2.1), (7, .long s.2.2.1), (9, .long s.2.2.2.1), (11, .int s.2.2.2.2.1)] [] (stat s.2.2.2.2.2)) (fun s hw => by
    obtain ⟨v3, v5, v7, v9, v11, M⟩ := s
    try dsimp only [w_X12_with_l32F] at hw
    try dsimp only
    refine x_iload C dX12_with_32 rfl ?_
    refine x_aload_n C dX12_with_34 rfl rfl ?_
    refine x_iconst (v := (4 : Int32)) C dX12_with_35 (by decide) ?_
    refine n_callVI s135 rfl C (ok_X12_many  hw) mv_X12_66 rfl rfl ⟨Nat.le_of_ble_eq_true rfl, Nat.le_of_ble_eq_true rfl⟩ (Nat.le_of_ble_eq_true rfl) dX12_with_36 (fun r3 M2 hw => ?_)
    refine x_icmp_ge (tgt := 124) C dX12_with_39 (by decide) (fun h4 => ?_) (fun h4 => ?_)
    · replace hw := hw.1 h4
      refine x_lload_n C dX12_with_124 rfl rfl ?_
      refine x_lload C dX12_with_125 rfl ?_
      refine x_lmul C dX12_with_127 ?_
      refine x_lload C dX12_with_128 rfl ?_
      refine x_lload C dX12_with_130 rfl ?_
      refine x_lmul C dX12_with_132 ?_
      refine x_lsub C dX12_with_133 ?_
      exact n_lreturn C r dX12_with_134 hw
    · replace hw := hw.2 h4
      refine x_aload_n C dX12_with_42 rfl rfl ?_
      refine x_iload C dX12_with_43 rfl ?_
      refine x_iload_n C dX12_with_45 rfl rfl ?_
      refine n_callVI s135 rfl C (ok_X12_isOf  hw) mv_X12_207 rfl rfl ⟨Nat.le_of_ble_eq_true rfl, Nat.le_of_ble_eq_true rfl⟩ (Nat.le_of_ble_eq_true rfl) dX12_with_46 (fun r6 M5 hw => ?_)
      refine x_if_eq (tgt := 118) C dX12_with_49 (by decide) (fun h7 => ?_) (fun h7 => ?_)
      · replace hw := hw.1 h7
        exact x_sub [0, 1, 2, 3, 5, 7, 9, 11] rfl (ok_X12_with_b118 C r (fun _ _ _ _ _ _ h => h) hw)
      · replace hw := hw.2 h7
        refine x_aload_n C dX12_with_52 rfl rfl ?_
        refine n_getS (dd := 1) C fl_X12_7 s135 (fun _ _ => rfl) rfl dX12_with_53 ?_
        refine x_sipush (v := (1346 : Int32)) C dX12_with_56 (by decide) ?_
        refine x_bipush (v := (14 : Int32)) C dX12_with_59 (by decide) ?_
        refine x_iload C dX12_with_61 rfl ?_
        refine x_imul C dX12_with_63 ?_
        refine x_iadd C dX12_with_64 ?_
        refine x_iload_n C dX12_with_65 rfl rfl ?_
        refine x_iadd C dX12_with_66 ?_
        obtain ⟨h8, hw⟩ := hw
        refine a_iald C s136 ln136 h8 dX12_with_67 ?_
        refine x_i2l C dX12_with_68 ?_
        obtain ⟨x9, ex9⟩ : ∃ z : Int64, z = ((M5.1 136 ((((1346 : Int32) + ((14 : Int32) * v11)) + v2)).toNatClampNeg)).toInt64 := ⟨_, rfl⟩
        replace hw := hw x9 ex9
        refine x_topj ex9 ?_
        refine x_lstore C dX12_with_69 (Nat.le_of_ble_eq_true rfl) ?_
        refine x_aload_n C dX12_with_71 rfl rfl ?_
        refine n_getS (dd := 1) C fl_X12_7 s135 (fun _ _ => rfl) rfl dX12_with_72 ?_
        refine x_sipush (v := (1346 : Int32)) C dX12_with_75 (by decide) ?_
        refine x_bipush (v := (14 : Int32)) C dX12_with_78 (by decide) ?_
        refine x_iload C dX12_with_80 rfl ?_
        refine x_imul C dX12_with_82 ?_
        refine x_iadd C dX12_with_83 ?_
        refine x_iconst (v := (5 : Int32)) C dX12_with_84 (by decide) ?_
        refine x_iadd C dX12_with_85 ?_
        obtain ⟨h10, hw⟩ := hw
        refine a_iald C s136 ln136 h10 dX12_with_86 ?_
        refine x_i2l C dX12_with_87 ?_
        obtain ⟨x11, ex11⟩ : ∃ z : Int64, z = ((M5.1 136 ((((1346 : Int32) + ((14 : Int32) * v11)) + (5 : Int32))).toNatClampNeg)).toInt64 := ⟨_, rfl⟩
        replace hw := hw x11 ex11
        refine x_topj ex11 ?_
        refine x_lstore C dX12_with_88 (Nat.le_of_ble_eq_true rfl) ?_
        refine x_lload_n C dX12_with_90 rfl rfl ?_
        refine x_lconst (v := (1 : Int64)) C dX12_with_91 (by decide) ?_
        refine x_ladd C dX12_with_92 ?_
        obtain ⟨x12, ex12⟩ : ∃ z : Int64, z = (v3 + (1 : Int64)) := ⟨_, rfl⟩
        replace hw := hw x12 ex12
        refine x_topj ex12 ?_
        refine x_lstore_n C dX12_with_93 rfl (Nat.le_of_ble_eq_true rfl) ?_
        refine x_lload C dX12_with_94 rfl ?_
        refine x_lload C dX12_with_96 rfl ?_
        refine x_lload C dX12_with_98 rfl ?_
        refine x_lmul C dX12_with_100 ?_
        refine x_ladd C dX12_with_101 ?_
        obtain ⟨x13, ex13⟩ : ∃ z : Int64, z = (v5 + (x9 * x11)) := ⟨_, rfl⟩
        replace hw := hw x13 ex13
        refine x_topj ex13 ?_
        refine x_lstore C dX12_with_102 (Nat.le_of_ble_eq_true rfl) ?_
        refine x_lload C dX12_with_104 rfl ?_
        refine x_lload C dX12_with_106 rfl ?_
        refine x_ladd C dX12_with_108 ?_
        obtain ⟨x14, ex14⟩ : ∃ z : Int64, z = (v7 + x9) := ⟨_, rfl⟩
        replace hw := hw x14 ex14
        refine x_topj ex14 ?_
        refine x_lstore C dX12_with_109 (Nat.le_of_ble_eq_true rfl) ?_
        refine x_lload C dX12_with_111 rfl ?_
        refine x_lload C dX12_with_113 rfl ?_
        refine x_ladd C dX12_with_115 ?_
        obtain ⟨x15, ex15⟩ : ∃ z : Int64, z = (v9 + x11) := ⟨_, rfl⟩
        replace hw := hw x15 ex15
        refine x_topj ex15 ?_
        refine x_lstore C dX12_with_116 (Nat.le_of_ble_eq_true rfl) ?_
        exact x_sub [0, 1, 2, 3, 5, 7, 9, 11] rfl (ok_X12_with_b118 C r (fun _ _ _ _ _ _ h => h) hw))
def w_X12_with (v1 : Int32) (v2 : Int32) (M : Mem) (q : Int64 → Mem → Prop) : Prop := w_X12_isMachine v1 M (fun (r17 : Int32) (M16 : Mem) => ((r17 = 0 → q (-2000000000000000000 : Int64) M16) ∧ (¬ r17 = 0 → w_X12_isCounter v2 M16 (fun (r20 : Int32) (M19 : Mem) => ((¬ r20 = 0 → w_X12_with_l32 v1 v2 q ((0 : Int64), (0 : Int64), (0 : Int64), (0 : Int64), (0 : Int32), M19)) ∧ (r20 = 0 → q (-2000000000000000000 : Int64) M19))))))
set_option maxRecDepth 100000 in
set_option maxHeartbeats 4000000 in
theorem ok_X12_with {g : Gl} {l : Launch} {v1 : Int32} {v2 : Int32} {M : Mem} {q : Int64 → Mem → Prop} (hw : w_X12_with v1 v2 M q) : CtJ g l yX12_with cX12_with 16 (some .long) 3 45 [.ref (g.2.2.2 + 135), .int v1, .int v2] M q := by
  refine n_introJ (by decide +kernel) (Nat.le_of_ble_eq_true rfl) (fun c C r => ?_)
  have C : Cx c cX12_with 16 RX12 g l (Rm 3 45) := C
  refine x_sub [0, 1, 2] (lv' := [(0, .ref (g.2.2.2 + 135)), (1, .int v1), (2, .int v2)]) rfl ?_
  unfold w_X12_with at hw
  refine x_iload_n C dX12_with_0 rfl rfl ?_
  refine n_callSI C (ok_X12_isMachine  hw) ms_X12_100 rfl rfl ⟨Nat.le_of_ble_eq_true rfl, Nat.le_of_ble_eq_true rfl⟩ (Nat.le_of_ble_eq_true rfl) dX12_with_1 (fun r17 M16 hw => ?_)
  refine x_if_eq (tgt := 14) C dX12_with_4 (by decide) (fun h18 => ?_) (fun h18 => ?_)
  · replace hw := hw.1 h18
    refine x_ldc2_w (v := (-2000000000000000000 : Int64)) C dX12_with_14 kc_X12_205 ?_
    exact n_lreturn C r dX12_with_17 hw
  · replace hw := hw.2 h18
    refine x_iload_n C dX12_with_7 rfl rfl ?_
    refine n_callSI C (ok_X12_isCounter  hw) ms_X12_202 rfl rfl ⟨Nat.le_of_ble_eq_true rfl, Nat.le_of_ble_eq_true rfl⟩ (Nat.le_of_ble_eq_true rfl) dX12_with_8 (fun r20 M19 hw => ?_)
    refine x_if_ne (tgt := 18) C dX12_with_11 (by decide) (fun h21 => ?_) (fun h21 => ?_)
    · replace hw := hw.1 h21
      refine x_lconst (v := (0 : Int64)) C dX12_with_18 (by decide) ?_
      refine x_lstore_n C dX12_with_19 rfl (Nat.le_of_ble_eq_true rfl) ?_
      refine x_lconst (v := (0 : Int64)) C dX12_with_20 (by decide) ?_
      refine x_lstore C dX12_with_21 (Nat.le_of_ble_eq_true rfl) ?_
      refine x_lconst (v := (0 : Int64)) C dX12_with_23 (by decide) ?_
      refine x_lstore C dX12_with_24 (Nat.le_of_ble_eq_true rfl) ?_
      refine x_lconst (v := (0 : Int64)) C dX12_with_26 (by decide) ?_
      refine x_lstore C dX12_with_27 (Nat.le_of_ble_eq_true rfl) ?_
      refine x_iconst (v := (0 : Int32)) C dX12_with_29 (by decide) ?_
      refine x_istore C dX12_with_30 (Nat.le_of_ble_eq_true rfl) ?_
      exact x_sub [0, 1, 2, 3, 5, 7, 9, 11] rfl (ok_X12_with_l32 C r  hw)
    · replace hw := hw.2 h21
      refine x_ldc2_w (v := (-2000000000000000000 : Int64)) C dX12_with_14 kc_X12_205 ?_
      exact n_lreturn C r dX12_with_17 hw

def w_X12_keep_b39 (v2 : Int32) (v3 : Int32) (t0 : Int32) (t1 : Int32) (M : Mem) (q : Int32 → Mem → Prop) : Prop := ((¬ t0 = t1 → ((v2 = 0 → vp_in v3 4230 ∧ ∀ M4 : Mem, M4 = uI M 136 (v3).toNatClampNeg (0 : Int32) → q (1 : Int32) M4) ∧ (¬ v2 = 0 → vp_in v3 4230 ∧ ∀ M6 : Mem, M6 = uI M 136 (v3).toNatClampNeg (1 : Int32) → q (1 : Int32) M6))) ∧ (t0 = t1 → q (-3 : Int32) M))
set_option maxRecDepth 100000 in
set_option maxHeartbeats 4000000 in
theorem ok_X12_keep_b39 {c : CtxT} {g : Gl} {l : Launch} {v2 : Int32} {v3 : Int32} {t0 : Int32} {t1 : Int32} {q : Int32 → Mem → Prop} {M : Mem} (C : Cx c cX12_keep 4 RX12 g l (Rm 3 47)) (r : Rt c (some .int) (pI q) 0 0) (hw : w_X12_keep_b39 v2 v3 t0 t1 M q ) : X c S0 39 [(0, .ref (g.2.2.2 + 135)), (2, .int v2), (3, .int v3)] [.int t1, .int t0] (stat M) := by
  unfold w_X12_keep_b39 at hw
  refine x_icmp_ne (tgt := 45) C dX12_keep_39 (by decide) (fun h1 => ?_) (fun h1 => ?_)
  · replace hw := hw.1 h1
    refine x_aload_n C dX12_keep_45 rfl rfl ?_
    refine n_getS (dd := 1) C fl_X12_7 s135 (fun _ _ => rfl) rfl dX12_keep_46 ?_
    refine x_iload_n C dX12_keep_49 rfl rfl ?_
    refine x_iload_n C dX12_keep_50 rfl rfl ?_
    refine x_if_eq (tgt := 58) C dX12_keep_51 (by decide) (fun h2 => ?_) (fun h2 => ?_)
    · replace hw := hw.1 h2
      refine x_iconst (v := (0 : Int32)) C dX12_keep_58 (by decide) ?_
      obtain ⟨h3, hw⟩ := hw
      obtain ⟨M4, eM4⟩ : ∃ z : Mem, z = uI M 136 (v3).toNatClampNeg (0 : Int32) := ⟨_, rfl⟩
      replace hw := hw M4 eM4
      refine a_iast C s136 ln136 rfl h3 eM4 dX12_keep_59 ?_
      refine x_iconst (v := (1 : Int32)) C dX12_keep_60 (by decide) ?_
      exact n_ireturn C r dX12_keep_61 hw
    · replace hw := hw.2 h2
      refine x_iconst (v := (1 : Int32)) C dX12_keep_54 (by decide) ?_
      refine x_goto (tgt := 59) C dX12_keep_55 (by decide) ?_
      obtain ⟨h5, hw⟩ := hw
      obtain ⟨M6, eM6⟩ : ∃ z : Mem, z = uI M 136 (v3).toNatClampNeg (1 : Int32) := ⟨_, rfl⟩
      replace hw := hw M6 eM6
      refine a_iast C s136 ln136 rfl h5 eM6 dX12_keep_59 ?_
      refine x_iconst (v := (1 : Int32)) C dX12_keep_60 (by decide) ?_
      exact n_ireturn C r dX12_keep_61 hw
  · replace hw := hw.2 h1
    refine x_bipush (v := (-3 : Int32)) C dX12_keep_42 (by decide) ?_
    exact n_ireturn C r dX12_keep_44 hw
def w_X12_keep (v1 : Int32) (v2 : Int32) (M : Mem) (q : Int32 → Mem → Prop) : Prop := w_X12_has (4 : Int32) v1 M (fun (r8 : Int32) (M7 : Mem) => ((¬ r8 = 0 → ∀ x10 : Int32, x10 = (((1346 : Int32) + ((14 : Int32) * v1)) + (13 : Int32)) → vp_in x10 4230 ∧ ((v2 = 0 → w_X12_keep_b39 v2 x10 (M7.1 136 (x10).toNatClampNeg) (0 : Int32) M7 q) ∧ (¬ v2 = 0 → w_X12_keep_b39 v2 x10 (M7.1 136 (x10).toNatClampNeg) (1 : Int32) M7 q))) ∧ (r8 = 0 → q (-2 : Int32) M7)))
set_option maxRecDepth 100000 in
set_option maxHeartbeats 4000000 in
theorem ok_X12_keep {g : Gl} {l : Launch} {v1 : Int32} {v2 : Int32} {M : Mem} {q : Int32 → Mem → Prop} (hw : w_X12_keep v1 v2 M q) : CtI g l yX12_keep cX12_keep 4 (some .int) 3 47 [.ref (g.2.2.2 + 135), .int v1, .int v2] M q := by
  refine n_introI (by decide +kernel) (Nat.le_of_ble_eq_true rfl) (fun c C r => ?_)
  have C : Cx c cX12_keep 4 RX12 g l (Rm 3 47) := C
  refine x_sub [0, 1, 2] (lv' := [(0, .ref (g.2.2.2 + 135)), (1, .int v1), (2, .int v2)]) rfl ?_
  unfold w_X12_keep at hw
  refine x_aload_n C dX12_keep_0 rfl rfl ?_
  refine x_iconst (v := (4 : Int32)) C dX12_keep_1 (by decide) ?_
  refine x_iload_n C dX12_keep_2 rfl rfl ?_
  refine n_callVI s135 rfl C (ok_X12_has  hw) mv_X12_84 rfl rfl ⟨Nat.le_of_ble_eq_true rfl, Nat.le_of_ble_eq_true rfl⟩ (Nat.le_of_ble_eq_true rfl) dX12_keep_3 (fun r8 M7 hw => ?_)
  refine x_if_ne (tgt := 12) C dX12_keep_6 (by decide) (fun h9 => ?_) (fun h9 => ?_)
  · replace hw := hw.1 h9
    refine x_sipush (v := (1346 : Int32)) C dX12_keep_12 (by decide) ?_
    refine x_bipush (v := (14 : Int32)) C dX12_keep_15 (by decide) ?_
    refine x_iload_n C dX12_keep_17 rfl rfl ?_
    refine x_imul C dX12_keep_18 ?_
    refine x_iadd C dX12_keep_19 ?_
    refine x_bipush (v := (13 : Int32)) C dX12_keep_20 (by decide) ?_
    refine x_iadd C dX12_keep_22 ?_
    obtain ⟨x10, ex10⟩ : ∃ z : Int32, z = (((1346 : Int32) + ((14 : Int32) * v1)) + (13 : Int32)) := ⟨_, rfl⟩
    replace hw := hw x10 ex10
    refine x_topi ex10 ?_
    refine x_istore_n C dX12_keep_23 rfl (Nat.le_of_ble_eq_true rfl) ?_
    refine x_aload_n C dX12_keep_24 rfl rfl ?_
    refine n_getS (dd := 1) C fl_X12_7 s135 (fun _ _ => rfl) rfl dX12_keep_25 ?_
    refine x_iload_n C dX12_keep_28 rfl rfl ?_
    obtain ⟨h11, hw⟩ := hw
    refine a_iald C s136 ln136 h11 dX12_keep_29 ?_
    refine x_iload_n C dX12_keep_30 rfl rfl ?_
    refine x_if_eq (tgt := 38) C dX12_keep_31 (by decide) (fun h12 => ?_) (fun h12 => ?_)
    · replace hw := hw.1 h12
      refine x_iconst (v := (0 : Int32)) C dX12_keep_38 (by decide) ?_
      exact x_sub [0, 2, 3] rfl (ok_X12_keep_b39 C r  hw)
    · replace hw := hw.2 h12
      refine x_iconst (v := (1 : Int32)) C dX12_keep_34 (by decide) ?_
      refine x_goto (tgt := 39) C dX12_keep_35 (by decide) ?_
      exact x_sub [0, 2, 3] rfl (ok_X12_keep_b39 C r  hw)
  · replace hw := hw.2 h9
    refine x_bipush (v := (-2 : Int32)) C dX12_keep_9 (by decide) ?_
    exact n_ireturn C r dX12_keep_11 hw

def w_X12_made (v1 : Int32) (v2 : Int32) (v3 : Int32) (v4 : Int32) (v5 : Int32) (v6 : Int32) (v7 : Int32) (M : Mem) (q : Int64 → Mem → Prop) : Prop := ∀ x1 : Int32, x1 = ((1346 : Int32) + ((14 : Int32) * v1)) → vp_in (x1 + v2) 4230 ∧ vp_in (x1 + v3) 4230 ∧ vp_in (x1 + v4) 4230 ∧ q ((((v5).toInt64 * ((M.1 136 ((x1 + v2)).toNatClampNeg)).toInt64) + ((v6).toInt64 * ((M.1 136 ((x1 + v3)).toNatClampNeg)).toInt64)) + ((v7).toInt64 * ((M.1 136 ((x1 + v4)).toNatClampNeg)).toInt64)) M
set_option maxRecDepth 100000 in
set_option maxHeartbeats 4000000 in
theorem ok_X12_made {g : Gl} {l : Launch} {v1 : Int32} {v2 : Int32} {v3 : Int32} {v4 : Int32} {v5 : Int32} {v6 : Int32} {v7 : Int32} {M : Mem} {q : Int64 → Mem → Prop} (hw : w_X12_made v1 v2 v3 v4 v5 v6 v7 M q) : CtJ g l yX12_made cX12_made 9 (some .long) 1 0 [.ref (g.2.2.2 + 135), .int v1, .int v2, .int v3, .int v4, .int v5, .int v6, .int v7] M q := by
  refine n_introJ (by decide +kernel) (Nat.le_of_ble_eq_true rfl) (fun c C r => ?_)
  have C : Cx c cX12_made 9 RX12 g l (Rm 1 0) := C
  refine x_sub [0, 1, 2, 3, 4, 5, 6, 7] (lv' := [(0, .ref (g.2.2.2 + 135)), (1, .int v1), (2, .int v2), (3, .int v3), (4, .int v4), (5, .int v5), (6, .int v6), (7, .int v7)]) rfl ?_
  unfold w_X12_made at hw
  refine x_sipush (v := (1346 : Int32)) C dX12_made_0 (by decide) ?_
  refine x_bipush (v := (14 : Int32)) C dX12_made_3 (by decide) ?_
  refine x_iload_n C dX12_made_5 rfl rfl ?_
  refine x_imul C dX12_made_6 ?_
  refine x_iadd C dX12_made_7 ?_
  obtain ⟨x1, ex1⟩ : ∃ z : Int32, z = ((1346 : Int32) + ((14 : Int32) * v1)) := ⟨_, rfl⟩
  replace hw := hw x1 ex1
  refine x_topi ex1 ?_
  refine x_istore C dX12_made_8 (Nat.le_of_ble_eq_true rfl) ?_
  refine x_iload C dX12_made_10 rfl ?_
  refine x_i2l C dX12_made_12 ?_
  refine x_aload_n C dX12_made_13 rfl rfl ?_
  refine n_getS (dd := 1) C fl_X12_7 s135 (fun _ _ => rfl) rfl dX12_made_14 ?_
  refine x_iload C dX12_made_17 rfl ?_
  refine x_iload_n C dX12_made_19 rfl rfl ?_
  refine x_iadd C dX12_made_20 ?_
  obtain ⟨h2, hw⟩ := hw
  refine a_iald C s136 ln136 h2 dX12_made_21 ?_
  refine x_i2l C dX12_made_22 ?_
  refine x_lmul C dX12_made_23 ?_
  refine x_iload C dX12_made_24 rfl ?_
  refine x_i2l C dX12_made_26 ?_
  refine x_aload_n C dX12_made_27 rfl rfl ?_
  refine n_getS (dd := 1) C fl_X12_7 s135 (fun _ _ => rfl) rfl dX12_made_28 ?_
  refine x_iload C dX12_made_31 rfl ?_
  refine x_iload_n C dX12_made_33 rfl rfl ?_
  refine x_iadd C dX12_made_34 ?_
  obtain ⟨h3, hw⟩ := hw
  refine a_iald C s136 ln136 h3 dX12_made_35 ?_
  refine x_i2l C dX12_made_36 ?_
  refine x_lmul C dX12_made_37 ?_
  refine x_ladd C dX12_made_38 ?_
  refine x_iload C dX12_made_39 rfl ?_
  refine x_i2l C dX12_made_41 ?_
  refine x_aload_n C dX12_made_42 rfl rfl ?_
  refine n_getS (dd := 1) C fl_X12_7 s135 (fun _ _ => rfl) rfl dX12_made_43 ?_
  refine x_iload C dX12_made_46 rfl ?_
  refine x_iload C dX12_made_48 rfl ?_
  refine x_iadd C dX12_made_50 ?_
  obtain ⟨h4, hw⟩ := hw
  refine a_iald C s136 ln136 h4 dX12_made_51 ?_
  refine x_i2l C dX12_made_52 ?_
  refine x_lmul C dX12_made_53 ?_
  refine x_ladd C dX12_made_54 ?_
  exact n_lreturn C r dX12_made_55 hw


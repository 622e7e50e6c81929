def w_X12_in (v0 : Int64) (v2 : Int64) (v4 : Int64) (M : Mem) (q : Int32 → Mem → Prop) : Prop := ((v0 < v2 → q (0 : Int32) M) ∧ (¬ v0 < v2 → ((v4 < v0 → q (0 : Int32) M) ∧ (¬ v4 < v0 → q (1 : Int32) M))))
set_option maxRecDepth 100000 in
set_option maxHeartbeats 4000000 in
theorem ok_X12_in {g : Gl} {l : Launch} {v0 : Int64} {v2 : Int64} {v4 : Int64} {M : Mem} {q : Int32 → Mem → Prop} (hw : w_X12_in v0 v2 v4 M q) : CtI g l yX12_in cX12_in 6 (some .boolean) 1 0 [.long v0, .long v2, .long v4] M q := by
  refine n_introI (by decide +kernel) (Nat.le_of_ble_eq_true rfl) (fun c C r => ?_)
  have C : Cx c cX12_in 6 RX12 g l (Rm 1 0) := C
  refine x_sub [0, 2, 4] (lv' := [(0, .long v0), (2, .long v2), (4, .long v4)]) rfl ?_
  unfold w_X12_in at hw
  refine x_lload_n C dX12_in_0 rfl rfl ?_
  refine x_lload_n C dX12_in_1 rfl rfl ?_
  refine x_lc_lt (tgt := 17) C dX12_in_2 dX12_in_3 (by decide) (fun h1 => ?_) (fun h1 => ?_)
  · replace hw := hw.1 h1
    refine x_iconst (v := (0 : Int32)) C dX12_in_17 (by decide) ?_
    exact n_zreturn C r dX12_in_18 (Or.inl rfl) hw
  · replace hw := hw.2 h1
    refine x_lload_n C dX12_in_6 rfl rfl ?_
    refine x_lload C dX12_in_7 rfl ?_
    refine x_lc_gt (tgt := 17) C dX12_in_9 dX12_in_10 (by decide) (fun h2 => ?_) (fun h2 => ?_)
    · replace hw := hw.1 h2
      refine x_iconst (v := (0 : Int32)) C dX12_in_17 (by decide) ?_
      exact n_zreturn C r dX12_in_18 (Or.inl rfl) hw
    · replace hw := hw.2 h2
      refine x_iconst (v := (1 : Int32)) C dX12_in_13 (by decide) ?_
      refine x_goto (tgt := 18) C dX12_in_14 (by decide) ?_
      exact n_zreturn C r dX12_in_18 (Or.inr rfl) hw

def w_X12_many (v1 : Int32) (M : Mem) (q : Int32 → Mem → Prop) : Prop := vp_in ((4210 : Int32) + v1) 4230 ∧ q (M.1 136 (((4210 : Int32) + v1)).toNatClampNeg) M
set_option maxRecDepth 100000 in
set_option maxHeartbeats 4000000 in
theorem ok_X12_many {g : Gl} {l : Launch} {v1 : Int32} {M : Mem} {q : Int32 → Mem → Prop} (hw : w_X12_many v1 M q) : CtI g l yX12_many cX12_many 2 (some .int) 1 0 [.ref (g.2.2.2 + 135), .int v1] M q := by
  refine n_introI (by decide +kernel) (Nat.le_of_ble_eq_true rfl) (fun c C r => ?_)
  have C : Cx c cX12_many 2 RX12 g l (Rm 1 0) := C
  refine x_sub [0, 1] (lv' := [(0, .ref (g.2.2.2 + 135)), (1, .int v1)]) rfl ?_
  unfold w_X12_many at hw
  refine x_aload_n C dX12_many_0 rfl rfl ?_
  refine n_getS (dd := 1) C fl_X12_7 s135 (fun _ _ => rfl) rfl dX12_many_1 ?_
  refine x_sipush (v := (4210 : Int32)) C dX12_many_4 (by decide) ?_
  refine x_iload_n C dX12_many_7 rfl rfl ?_
  refine x_iadd C dX12_many_8 ?_
  obtain ⟨h1, hw⟩ := hw
  refine a_iald C s136 ln136 h1 dX12_many_9 ?_
  exact n_ireturn C r dX12_many_10 hw

def w_X12_has (v1 : Int32) (v2 : Int32) (M : Mem) (q : Int32 → Mem → Prop) : Prop := w_X12_many v1 M (fun (r2 : Int32) (M1 : Mem) => w_X12_in (v2).toInt64 (0 : Int64) ((r2 - (1 : Int32))).toInt64 M1 (fun (r4 : Int32) (M3 : Mem) => (bz r4 ∧ q r4 M3)))
set_option maxRecDepth 100000 in
set_option maxHeartbeats 4000000 in
theorem ok_X12_has {g : Gl} {l : Launch} {v1 : Int32} {v2 : Int32} {M : Mem} {q : Int32 → Mem → Prop} (hw : w_X12_has v1 v2 M q) : CtI g l yX12_has cX12_has 3 (some .boolean) 2 25 [.ref (g.2.2.2 + 135), .int v1, .int v2] M q := by
  refine n_introI (by decide +kernel) (Nat.le_of_ble_eq_true rfl) (fun c C r => ?_)
  have C : Cx c cX12_has 3 RX12 g l (Rm 2 25) := C
  refine x_sub [0, 1, 2] (lv' := [(0, .ref (g.2.2.2 + 135)), (1, .int v1), (2, .int v2)]) rfl ?_
  unfold w_X12_has at hw
  refine x_iload_n C dX12_has_0 rfl rfl ?_
  refine x_i2l C dX12_has_1 ?_
  refine x_lconst (v := (0 : Int64)) C dX12_has_2 (by decide) ?_
  refine x_aload_n C dX12_has_3 rfl rfl ?_
  refine x_iload_n C dX12_has_4 rfl rfl ?_
  refine n_callVI s135 rfl C (ok_X12_many  hw) mv_X12_66 rfl rfl ⟨Nat.le_of_ble_eq_true rfl, Nat.le_of_ble_eq_true rfl⟩ (Nat.le_of_ble_eq_true rfl) dX12_has_5 (fun r2 M1 hw => ?_)
  refine x_iconst (v := (1 : Int32)) C dX12_has_8 (by decide) ?_
  refine x_isub C dX12_has_9 ?_
  refine x_i2l C dX12_has_10 ?_
  refine n_callSI C (ok_X12_in  hw) ms_X12_70 rfl rfl ⟨Nat.le_of_ble_eq_true rfl, Nat.le_of_ble_eq_true rfl⟩ (Nat.le_of_ble_eq_true rfl) dX12_has_11 (fun r4 M3 hw => ?_)
  exact n_zreturn C r dX12_has_14 hw.1 hw.2

def w_X12_isMachine (v0 : Int32) (M : Mem) (q : Int32 → Mem → Prop) : Prop := w_X12_in (v0).toInt64 (0 : Int64) (3 : Int64) M (fun (r2 : Int32) (M1 : Mem) => (bz r2 ∧ q r2 M1))
set_option maxRecDepth 100000 in
set_option maxHeartbeats 4000000 in
theorem ok_X12_isMachine {g : Gl} {l : Launch} {v0 : Int32} {M : Mem} {q : Int32 → Mem → Prop} (hw : w_X12_isMachine v0 M q) : CtI g l yX12_isMachine cX12_isMachine 1 (some .boolean) 2 25 [.int v0] M q := by
  refine n_introI (by decide +kernel) (Nat.le_of_ble_eq_true rfl) (fun c C r => ?_)
  have C : Cx c cX12_isMachine 1 RX12 g l (Rm 2 25) := C
  refine x_sub [0] (lv' := [(0, .int v0)]) rfl ?_
  unfold w_X12_isMachine at hw
  refine x_iload_n C dX12_isMachine_0 rfl rfl ?_
  refine x_i2l C dX12_isMachine_1 ?_
  refine x_lconst (v := (0 : Int64)) C dX12_isMachine_2 (by decide) ?_
  refine x_ldc2_w (v := (3 : Int64)) C dX12_isMachine_3 kc_X12_74 ?_
  refine n_callSI C (ok_X12_in  hw) ms_X12_70 rfl rfl ⟨Nat.le_of_ble_eq_true rfl, Nat.le_of_ble_eq_true rfl⟩ (Nat.le_of_ble_eq_true rfl) dX12_isMachine_6 (fun r2 M1 hw => ?_)
  exact n_zreturn C r dX12_isMachine_9 hw.1 hw.2

def w_X12_program (M : Mem) (q : Int32 → Mem → Prop) : Prop := w_X12_many (0 : Int32) M (fun (r2 : Int32) (M1 : Mem) => ((¬ r2 = (6 : Int32) → ∀ M4 : Mem, M4 = uI M1 136 4210 ((M1.1 136 4210) + (1 : Int32)) → w_X12_many (0 : Int32) M4 (fun (r6 : Int32) (M5 : Mem) => q (r6 - (1 : Int32)) M5)) ∧ (r2 = (6 : Int32) → q (-4 : Int32) M1)))
set_option maxRecDepth 100000 in
set_option maxHeartbeats 4000000 in
theorem ok_X12_program {g : Gl} {l : Launch} {M : Mem} {q : Int32 → Mem → Prop} (hw : w_X12_program M q) : CtI g l yX12_program cX12_program 1 (some .int) 2 21 [.ref (g.2.2.2 + 135)] M q := by
  refine n_introI (by decide +kernel) (Nat.le_of_ble_eq_true rfl) (fun c C r => ?_)
  have C : Cx c cX12_program 1 RX12 g l (Rm 2 21) := C
  refine x_sub [0] (lv' := [(0, .ref (g.2.2.2 + 135))]) rfl ?_
  unfold w_X12_program at hw
  refine x_aload_n C dX12_program_0 rfl rfl ?_
  refine x_iconst (v := (0 : Int32)) C dX12_program_1 (by decide) ?_
  refine n_callVI s135 rfl C (ok_X12_many  hw) mv_X12_66 rfl rfl ⟨Nat.le_of_ble_eq_true rfl, Nat.le_of_ble_eq_true rfl⟩ (Nat.le_of_ble_eq_true rfl) dX12_program_2 (fun r2 M1 hw => ?_)
  refine x_bipush (v := (6 : Int32)) C dX12_program_5 (by decide) ?_
  refine x_icmp_ne (tgt := 13) C dX12_program_7 (by decide) (fun h3 => ?_) (fun h3 => ?_)
  · replace hw := hw.1 h3
    refine x_aload_n C dX12_program_13 rfl rfl ?_
    refine n_getS (dd := 1) C fl_X12_7 s135 (fun _ _ => rfl) rfl dX12_program_14 ?_
    refine x_sipush (v := (4210 : Int32)) C dX12_program_17 (by decide) ?_
    refine x_dup2_11 C dX12_program_20 rfl rfl ?_
    refine a_ialdL (ni := 4210) C s136 ln136 (by decide) (vin _ _ (by decide +kernel)) dX12_program_21 ?_
    refine x_iconst (v := (1 : Int32)) C dX12_program_22 (by decide) ?_
    refine x_iadd C dX12_program_23 ?_
    obtain ⟨M4, eM4⟩ : ∃ z : Mem, z = uI M1 136 4210 ((M1.1 136 4210) + (1 : Int32)) := ⟨_, rfl⟩
    replace hw := hw M4 eM4
    refine a_iast C s136 ln136 (by decide) (vin _ _ (by decide +kernel)) eM4 dX12_program_24 ?_
    refine x_aload_n C dX12_program_25 rfl rfl ?_
    refine x_iconst (v := (0 : Int32)) C dX12_program_26 (by decide) ?_
    refine n_callVI s135 rfl C (ok_X12_many  hw) mv_X12_66 rfl rfl ⟨Nat.le_of_ble_eq_true rfl, Nat.le_of_ble_eq_true rfl⟩ (Nat.le_of_ble_eq_true rfl) dX12_program_27 (fun r6 M5 hw => ?_)
    refine x_iconst (v := (1 : Int32)) C dX12_program_30 (by decide) ?_
    refine x_isub C dX12_program_31 ?_
    exact n_ireturn C r dX12_program_32 hw
  · replace hw := hw.2 h3
    refine x_bipush (v := (-4 : Int32)) C dX12_program_10 (by decide) ?_
    exact n_ireturn C r dX12_program_12 hw

def w_X12_isLine_b97 (M : Mem) (q : Int32 → Mem → Prop) : Prop := q (1 : Int32) M
set_option maxRecDepth 100000 in
set_option maxHeartbeats 4000000 in
theorem ok_X12_isLine_b97 {c : CtxT} {g : Gl} {l : Launch} {q : Int32 → Mem → Prop} {M : Mem} (C : Cx c cX12_isLine 4 RX12 g l (Rm 2 25)) (r : Rt c (some .boolean) (pI q) 0 0) (hw : w_X12_isLine_b97 M q ) : X c S0 97 [] [] (stat M) := by
  unfold w_X12_isLine_b97 at hw
  refine x_iconst (v := (1 : Int32)) C dX12_isLine_97 (by decide) ?_
  refine x_goto (tgt := 102) C dX12_isLine_98 (by decide) ?_
  exact n_zreturn C r dX12_isLine_102 (Or.inr rfl) hw
def w_X12_isLine (v0 : Int32) (v1 : Int32) (v2 : Int32) (v3 : Int32) (M : Mem) (q : Int32 → Mem → Prop) : Prop := w_X12_in (v0).toInt64 (0 : Int64) (7 : Int64) M (fun (r2 : Int32) (M1 : Mem) => ((¬ r2 = 0 → ((¬ v0 = (7 : Int32) → w_X12_in (v1).toInt64 (0 : Int64) (7 : Int64) M1 (fun (r6 : Int32) (M5 : Mem) => ((¬ r6 = 0 → ((¬ v0 = 0 → ((¬ v0 = (6 : Int32) → w_X12_in (v2).toInt64 (0 : Int64) (7 : Int64) M5 (fun (r11 : Int32) (M10 : Mem) => ((r11 = 0 → q (0 : Int32) M10) ∧ (¬ r11 = 0 → (((3 : Int32) < v0 → w_X12_isLine_b97 M10 q) ∧ (¬ (3 : Int32) < v0 → w_X12_in (v3).toInt64 (0 : Int64) (7 : Int64) M10 (fun (r15 : Int32) (M14 : Mem) => ((r15 = 0 → q (0 : Int32) M14) ∧ (¬ r15 = 0 → w_X12_isLine_b97 M14 q))))))))) ∧ (v0 = (6 : Int32) → w_X12_in (v2).toInt64 (0 : Int64) (39 : Int64) M5 (fun (r18 : Int32) (M17 : Mem) => (bz r18 ∧ q r18 M17))))) ∧ (v0 = 0 → w_X12_in (v2).toInt64 (-1000 : Int64) (1000 : Int64) M5 (fun (r20 : Int32) (M19 : Mem) => (bz r20 ∧ q r20 M19))))) ∧ (r6 = 0 → q (0 : Int32) M5)))) ∧ (v0 = (7 : Int32) → q (1 : Int32) M1))) ∧ (r2 = 0 → q (0 : Int32) M1)))
set_option maxRecDepth 100000 in
set_option maxHeartbeats 4000000 in
theorem ok_X12_isLine {g : Gl} {l : Launch} {v0 : Int32} {v1 : Int32} {v2 : Int32} {v3 : Int32} {M : Mem} {q : Int32 → Mem → Prop} (hw : w_X12_isLine v0 v1 v2 v3 M q) : CtI g l yX12_isLine cX12_isLine 4 (some .boolean) 2 25 [.int v0, .int v1, .int v2, .int v3] M q := by
  refine n_introI (by decide +kernel) (Nat.le_of_ble_eq_true rfl) (fun c C r => ?_)
  have C : Cx c cX12_isLine 4 RX12 g l (Rm 2 25) := C
  refine x_sub [0, 1, 2, 3] (lv' := [(0, .int v0), (1, .int v1), (2, .int v2), (3, .int v3)]) rfl ?_
  unfold w_X12_isLine at hw
  refine x_iload_n C dX12_isLine_0 rfl rfl ?_
  refine x_i2l C dX12_isLine_1 ?_
  refine x_lconst (v := (0 : Int64)) C dX12_isLine_2 (by decide) ?_
  refine x_ldc2_w (v := (7 : Int64)) C dX12_isLine_3 kc_X12_76 ?_
  refine n_callSI C (ok_X12_in  hw) ms_X12_70 rfl rfl ⟨Nat.le_of_ble_eq_true rfl, Nat.le_of_ble_eq_true rfl⟩ (Nat.le_of_ble_eq_true rfl) dX12_isLine_6 (fun r2 M1 hw => ?_)
  refine x_if_ne (tgt := 14) C dX12_isLine_9 (by decide) (fun h3 => ?_) (fun h3 => ?_)
  · replace hw := hw.1 h3
    refine x_iload_n C dX12_isLine_14 rfl rfl ?_
    refine x_bipush (v := (7 : Int32)) C dX12_isLine_15 (by decide) ?_
    refine x_icmp_ne (tgt := 22) C dX12_isLine_17 (by decide) (fun h4 => ?_) (fun h4 => ?_)
    · replace hw := hw.1 h4
      refine x_iload_n C dX12_isLine_22 rfl rfl ?_
      refine x_i2l C dX12_isLine_23 ?_
      refine x_lconst (v := (0 : Int64)) C dX12_isLine_24 (by decide) ?_
      refine x_ldc2_w (v := (7 : Int64)) C dX12_isLine_25 kc_X12_76 ?_
      refine n_callSI C (ok_X12_in  hw) ms_X12_70 rfl rfl ⟨Nat.le_of_ble_eq_true rfl, Nat.le_of_ble_eq_true rfl⟩ (Nat.le_of_ble_eq_true rfl) dX12_isLine_28 (fun r6 M5 hw => ?_)
      refine x_if_ne (tgt := 36) C dX12_isLine_31 (by decide) (fun h7 => ?_) (fun h7 => ?_)
      · replace hw := hw.1 h7
        refine x_iload_n C dX12_isLine_36 rfl rfl ?_
        refine x_if_ne (tgt := 52) C dX12_isLine_37 (by decide) (fun h8 => ?_) (fun h8 => ?_)
        · replace hw := hw.1 h8
          refine x_iload_n C dX12_isLine_52 rfl rfl ?_
          refine x_bipush (v := (6 : Int32)) C dX12_isLine_53 (by decide) ?_
          refine x_icmp_ne (tgt := 68) C dX12_isLine_55 (by decide) (fun h9 => ?_) (fun h9 => ?_)
          · replace hw := hw.1 h9
            refine x_iload_n C dX12_isLine_68 rfl rfl ?_
            refine x_i2l C dX12_isLine_69 ?_
            refine x_lconst (v := (0 : Int64)) C dX12_isLine_70 (by decide) ?_
            refine x_ldc2_w (v := (7 : Int64)) C dX12_isLine_71 kc_X12_76 ?_
            refine n_callSI C (ok_X12_in  hw) ms_X12_70 rfl rfl ⟨Nat.le_of_ble_eq_true rfl, Nat.le_of_ble_eq_true rfl⟩ (Nat.le_of_ble_eq_true rfl) dX12_isLine_74 (fun r11 M10 hw => ?_)
            refine x_if_eq (tgt := 101) C dX12_isLine_77 (by decide) (fun h12 => ?_) (fun h12 => ?_)
            · replace hw := hw.1 h12
              refine x_iconst (v := (0 : Int32)) C dX12_isLine_101 (by decide) ?_
              exact n_zreturn C r dX12_isLine_102 (Or.inl rfl) hw
            · replace hw := hw.2 h12
              refine x_iload_n C dX12_isLine_80 rfl rfl ?_
              refine x_iconst (v := (3 : Int32)) C dX12_isLine_81 (by decide) ?_
              refine x_icmp_gt (tgt := 97) C dX12_isLine_82 (by decide) (fun h13 => ?_) (fun h13 => ?_)
              · replace hw := hw.1 h13
                exact x_sub [] rfl (ok_X12_isLine_b97 C r  hw)
              · replace hw := hw.2 h13
                refine x_iload_n C dX12_isLine_85 rfl rfl ?_
                refine x_i2l C dX12_isLine_86 ?_
                refine x_lconst (v := (0 : Int64)) C dX12_isLine_87 (by decide) ?_
                refine x_ldc2_w (v := (7 : Int64)) C dX12_isLine_88 kc_X12_76 ?_
                refine n_callSI C (ok_X12_in  hw) ms_X12_70 rfl rfl ⟨Nat.le_of_ble_eq_true rfl, Nat.le_of_ble_eq_true rfl⟩ (Nat.le_of_ble_eq_true rfl) dX12_isLine_91 (fun r15 M14 hw => ?_)
                refine x_if_eq (tgt := 101) C dX12_isLine_94 (by decide) (fun h16 => ?_) (fun h16 => ?_)
                · replace hw := hw.1 h16
                  refine x_iconst (v := (0 : Int32)) C dX12_isLine_101 (by decide) ?_
                  exact n_zreturn C r dX12_isLine_102 (Or.inl rfl) hw
                · replace hw := hw.2 h16
                  exact x_sub [] rfl (ok_X12_isLine_b97 C r  hw)
          · replace hw := hw.2 h9
            refine x_iload_n C dX12_isLine_58 rfl rfl ?_
            refine x_i2l C dX12_isLine_59 ?_
            refine x_lconst (v := (0 : Int64)) C dX12_isLine_60 (by decide) ?_
            refine x_ldc2_w (v := (39 : Int64)) C dX12_isLine_61 kc_X12_82 ?_
            refine n_callSI C (ok_X12_in  hw) ms_X12_70 rfl rfl ⟨Nat.le_of_ble_eq_true rfl, Nat.le_of_ble_eq_true rfl⟩ (Nat.le_of_ble_eq_true rfl) dX12_isLine_64 (fun r18 M17 hw => ?_)
            exact n_zreturn C r dX12_isLine_67 hw.1 hw.2
        · replace hw := hw.2 h8
          refine x_iload_n C dX12_isLine_40 rfl rfl ?_
          refine x_i2l C dX12_isLine_41 ?_
          refine x_ldc2_w (v := (-1000 : Int64)) C dX12_isLine_42 kc_X12_78 ?_
          refine x_ldc2_w (v := (1000 : Int64)) C dX12_isLine_45 kc_X12_80 ?_
          refine n_callSI C (ok_X12_in  hw) ms_X12_70 rfl rfl ⟨Nat.le_of_ble_eq_true rfl, Nat.le_of_ble_eq_true rfl⟩ (Nat.le_of_ble_eq_true rfl) dX12_isLine_48 (fun r20 M19 hw => ?_)
          exact n_zreturn C r dX12_isLine_51 hw.1 hw.2
      · replace hw := hw.2 h7
        refine x_iconst (v := (0 : Int32)) C dX12_isLine_34 (by decide) ?_
        exact n_zreturn C r dX12_isLine_35 (Or.inl rfl) hw
    · replace hw := hw.2 h4
      refine x_iconst (v := (1 : Int32)) C dX12_isLine_20 (by decide) ?_
      exact n_zreturn C r dX12_isLine_21 (Or.inr rfl) hw
  · replace hw := hw.2 h3
    refine x_iconst (v := (0 : Int32)) C dX12_isLine_12 (by decide) ?_
    exact n_zreturn C r dX12_isLine_13 (Or.inl rfl) hw

def w_X12_put (v1 : Int32) (v2 : Int32) (v3 : Int32) (v4 : Int32) (v5 : Int32) (M : Mem) (q : Mem → Prop) : Prop := vp_in v1 4230 ∧ ∀ M2 : Mem, M2 = uI M 136 (v1).toNatClampNeg v2 → vp_in (v1 + (1 : Int32)) 4230 ∧ ∀ M4 : Mem, M4 = uI M2 136 ((v1 + (1 : Int32))).toNatClampNeg v3 → vp_in (v1 + (2 : Int32)) 4230 ∧ ∀ M6 : Mem, M6 = uI M4 136 ((v1 + (2 : Int32))).toNatClampNeg v4 → vp_in (v1 + (3 : Int32)) 4230 ∧ ∀ M8 : Mem, M8 = uI M6 136 ((v1 + (3 : Int32))).toNatClampNeg v5 → q M8
set_option maxRecDepth 100000 in
set_option maxHeartbeats 4000000 in
theorem ok_X12_put {g : Gl} {l : Launch} {v1 : Int32} {v2 : Int32} {v3 : Int32} {v4 : Int32} {v5 : Int32} {M : Mem} {q : Mem → Prop} (hw : w_X12_put v1 v2 v3 v4 v5 M q) : CtV g l yX12_put cX12_put 6 none 1 0 [.ref (g.2.2.2 + 135), .int v1, .int v2, .int v3, .int v4, .int v5] M q := by
  refine n_introV (by decide +kernel) (Nat.le_of_ble_eq_true rfl) (fun c C r => ?_)
  have C : Cx c cX12_put 6 RX12 g l (Rm 1 0) := C
  refine x_sub [0, 1, 2, 3, 4, 5] (lv' := [(0, .ref (g.2.2.2 + 135)), (1, .int v1), (2, .int v2), (3, .int v3), (4, .int v4), (5, .int v5)]) rfl ?_
  unfold w_X12_put at hw
  refine x_aload_n C dX12_put_0 rfl rfl ?_
  refine n_getS (dd := 1) C fl_X12_7 s135 (fun _ _ => rfl) rfl dX12_put_1 ?_
  refine x_iload_n C dX12_put_4 rfl rfl ?_
  refine x_iload_n C dX12_put_5 rfl rfl ?_
  obtain ⟨h1, hw⟩ := hw
  obtain ⟨M2, eM2⟩ : ∃ z : Mem, z = uI M 136 (v1).toNatClampNeg v2 := ⟨_, rfl⟩
  replace hw := hw M2 eM2
  refine a_iast C s136 ln136 rfl h1 eM2 dX12_put_6 ?_
  refine x_aload_n C dX12_put_7 rfl rfl ?_
  refine n_getS (dd := 1) C fl_X12_7 s135 (fun _ _ => rfl) rfl dX12_put_8 ?_
  refine x_iload_n C dX12_put_11 rfl rfl ?_
  refine x_iconst (v := (1 : Int32)) C dX12_put_12 (by decide) ?_
  refine x_iadd C dX12_put_13 ?_
  refine x_iload_n C dX12_put_14 rfl rfl ?_
  obtain ⟨h3, hw⟩ := hw
  obtain ⟨M4, eM4⟩ : ∃ z : Mem, z = uI M2 136 ((v1 + (1 : Int32))).toNatClampNeg v3 := ⟨_, rfl⟩
  replace hw := hw M4 eM4
  refine a_iast C s136 ln136 rfl h3 eM4 dX12_put_15 ?_
  refine x_aload_n C dX12_put_16 rfl rfl ?_
  refine n_getS (dd := 1) C fl_X12_7 s135 (fun _ _ => rfl) rfl dX12_put_17 ?_
  refine x_iload_n C dX12_put_20 rfl rfl ?_
  refine x_iconst (v := (2 : Int32)) C dX12_put_21 (by decide) ?_
  refine x_iadd C dX12_put_22 ?_
  refine x_iload C dX12_put_23 rfl ?_
  obtain ⟨h5, hw⟩ := hw
  obtain ⟨M6, eM6⟩ : ∃ z : Mem, z = uI M4 136 ((v1 + (2 : Int32))).toNatClampNeg v4 := ⟨_, rfl⟩
  replace hw := hw M6 eM6
  refine a_iast C s136 ln136 rfl h5 eM6 dX12_put_25 ?_
  refine x_aload_n C dX12_put_26 rfl rfl ?_
  refine n_getS (dd := 1) C fl_X12_7 s135 (fun _ _ => rfl) rfl dX12_put_27 ?_
  refine x_iload_n C dX12_put_30 rfl rfl ?_
  refine x_iconst (v := (3 : Int32)) C dX12_put_31 (by decide) ?_
  refine x_iadd C dX12_put_32 ?_
  refine x_iload C dX12_put_33 rfl ?_
  obtain ⟨h7, hw⟩ := hw
  obtain ⟨M8, eM8⟩ : ∃ z : Mem, z = uI M6 136 ((v1 + (3 : Int32))).toNatClampNeg v5 := ⟨_, rfl⟩
  replace hw := hw M8 eM8
  refine a_iast C s136 ln136 rfl h7 eM8 dX12_put_35 ?_
  exact n_vreturn C r dX12_put_36 hw

def w_X12_line_l27F (v1 : Int32) (v2 : Int32) (v3 : Int32) (v4 : Int32) (v5 : Int32) (q : Int32 → Mem → Prop) (P27 : Int32 × Mem → Prop) (s : Int32 × Mem) : Prop := match s with
  | (v6, M) => w_X12_many (2 : Int32) M (fun (r2 : Int32) (M1 : Mem) => ((r2 ≤ v6 → vp_in ((960 : Int32) + v1) 4230 ∧ ∀ x5 : Int32, x5 = (M1.1 136 (((960 : Int32) + v1)).toNatClampNeg) → ((¬ x5 = (40 : Int32) → w_X12_put (((0 : Int32) + ((160 : Int32) * v1)) + ((4 : Int32) * x5)) v2 v3 v4 v5 M1 (fun (M7 : Mem) => vp_in ((960 : Int32) + v1) 4230 ∧ vp_in ((960 : Int32) + v1) 4230 ∧ ∀ M11 : Mem, M11 = uI M7 136 (((960 : Int32) + v1)).toNatClampNeg ((M7.1 136 (((960 : Int32) + v1)).toNatClampNeg) + (1 : Int32)) → q x5 M11)) ∧ (x5 = (40 : Int32) → q (-4 : Int32) M1))) ∧ (¬ r2 ≤ v6 → vp_in ((1026 : Int32) + ((2 : Int32) * v6)) 4230 ∧ ((¬ (M1.1 136 (((1026 : Int32) + ((2 : Int32) * v6))).toNatClampNeg) = v1 → ∀ x14 : Int32, x14 = v6 + (1 : Int32) → P27 (x14, M1)) ∧ ((M1.1 136 (((1026 : Int32) + ((2 : Int32) * v6))).toNatClampNeg) = v1 → q (-3 : Int32) M1)))))
def w_X12_line_l27 (v1 : Int32) (v2 : Int32) (v3 : Int32) (v4 : Int32) (v5 : Int32) (q : Int32 → Mem → Prop) (s : Int32 × Mem) : Prop := lfp (w_X12_line_l27F v1 v2 v3 v4 v5 q ) s
set_option maxRecDepth 100000 in
set_option maxHeartbeats 4000000 in
theorem ok_X12_line_l27 {c : CtxT} {g : Gl} {l : Launch} {v1 : Int32} {v2 : Int32} {v3 : Int32} {v4 : Int32} {v5 : Int32} {q : Int32 → Mem → Prop} {s : Int32 × Mem} (C : Cx c cX12_line 7 RX12 g l (Rm 3 48)) (r : Rt c (some .int) (pI q) 0 0) (hw : w_X12_line_l27 v1 v2 v3 v4 v5 q s) : X c S0 27 [(0, .ref (g.2.2.2 + 135)), (1, .int v1), (2, .int v2), (3, .int v3), (4, .int v4), (5, .int v5), (6, .int s.1)] [] (stat s.2) := hw (fun s => X c S0 27 [(0, .ref (g.2.2.2 + 135)), (1, .int v1), (2, .int v2), (3, .int v3), (4, .int v4), (5, .int v5), (6, .int s.1)] [] (stat s.2)) (fun s hw => by
    obtain ⟨v6, M⟩ := s
    try dsimp only [w_X12_line_l27F] at hw
    try dsimp only
    refine x_iload C dX12_line_27 rfl ?_
    refine x_aload_n C dX12_line_29 rfl rfl ?_
    refine x_iconst (v := (2 : Int32)) C dX12_line_30 (by decide) ?_
    refine n_callVI s135 rfl C (ok_X12_many  hw) mv_X12_66 rfl rfl ⟨Nat.le_of_ble_eq_true rfl, Nat.le_of_ble_eq_true rfl⟩ (Nat.le_of_ble_eq_true rfl) dX12_line_31 (fun r2 M1 hw => ?_)
    refine x_icmp_ge (tgt := 63) C dX12_line_34 (by decide) (fun h3 => ?_) (fun h3 => ?_)
    · replace hw := hw.1 h3
      refine x_aload_n C dX12_line_63 rfl rfl ?_
      refine n_getS (dd := 1) C fl_X12_7 s135 (fun _ _ => rfl) rfl dX12_line_64 ?_
      refine x_sipush (v := (960 : Int32)) C dX12_line_67 (by decide) ?_
      refine x_iload_n C dX12_line_70 rfl rfl ?_
      refine x_iadd C dX12_line_71 ?_
      obtain ⟨h4, hw⟩ := hw
      refine a_iald C s136 ln136 h4 dX12_line_72 ?_
      obtain ⟨x5, ex5⟩ : ∃ z : Int32, z = (M1.1 136 (((960 : Int32) + v1)).toNatClampNeg) := ⟨_, rfl⟩
      replace hw := hw x5 ex5
      refine x_topi ex5 ?_
      refine x_istore C dX12_line_73 (Nat.le_of_ble_eq_true rfl) ?_
      refine x_iload C dX12_line_75 rfl ?_
      refine x_bipush (v := (40 : Int32)) C dX12_line_77 (by decide) ?_
      refine x_icmp_ne (tgt := 85) C dX12_line_79 (by decide) (fun h6 => ?_) (fun h6 => ?_)
      · replace hw := hw.1 h6
        refine x_aload_n C dX12_line_85 rfl rfl ?_
        refine x_iconst (v := (0 : Int32)) C dX12_line_86 (by decide) ?_
        refine x_sipush (v := (160 : Int32)) C dX12_line_87 (by decide) ?_
        refine x_iload_n C dX12_line_90 rfl rfl ?_
        refine x_imul C dX12_line_91 ?_
        refine x_iadd C dX12_line_92 ?_
        refine x_iconst (v := (4 : Int32)) C dX12_line_93 (by decide) ?_
        refine x_iload C dX12_line_94 rfl ?_
        refine x_imul C dX12_line_96 ?_
        refine x_iadd C dX12_line_97 ?_
        refine x_iload_n C dX12_line_98 rfl rfl ?_
        refine x_iload_n C dX12_line_99 rfl rfl ?_
        refine x_iload C dX12_line_100 rfl ?_
        refine x_iload C dX12_line_102 rfl ?_
        refine n_callVV s135 rfl C (ok_X12_put  hw) mv_X12_92 rfl rfl ⟨Nat.le_of_ble_eq_true rfl, Nat.le_of_ble_eq_true rfl⟩ (Nat.le_of_ble_eq_true rfl) dX12_line_104 (fun M7 hw => ?_)
        refine x_aload_n C dX12_line_107 rfl rfl ?_
        refine n_getS (dd := 1) C fl_X12_7 s135 (fun _ _ => rfl) rfl dX12_line_108 ?_
        refine x_sipush (v := (960 : Int32)) C dX12_line_111 (by decide) ?_
        refine x_iload_n C dX12_line_114 rfl rfl ?_
        refine x_iadd C dX12_line_115 ?_
        refine x_dup2_11 C dX12_line_116 rfl rfl ?_
        obtain ⟨h9, hw⟩ := hw
        refine a_iald C s136 ln136 h9 dX12_line_117 ?_
        refine x_iconst (v := (1 : Int32)) C dX12_line_118 (by decide) ?_
        refine x_iadd C dX12_line_119 ?_
        obtain ⟨h10, hw⟩ := hw
        obtain ⟨M11, eM11⟩ : ∃ z : Mem, z = uI M7 136 (((960 : Int32) + v1)).toNatClampNeg ((M7.1 136 (((960 : Int32) + v1)).toNatClampNeg) + (1 : Int32)) := ⟨_, rfl⟩
        replace hw := hw M11 eM11
        refine a_iast C s136 ln136 rfl h10 eM11 dX12_line_120 ?_
        refine x_iload C dX12_line_121 rfl ?_
        exact n_ireturn C r dX12_line_123 hw
      · replace hw := hw.2 h6
        refine x_bipush (v := (-4 : Int32)) C dX12_line_82 (by decide) ?_
        exact n_ireturn C r dX12_line_84 hw
    · replace hw := hw.2 h3
      refine x_aload_n C dX12_line_37 rfl rfl ?_
      refine n_getS (dd := 1) C fl_X12_7 s135 (fun _ _ => rfl) rfl dX12_line_38 ?_
      refine x_sipush (v := (1026 : Int32)) C dX12_line_41 (by decide) ?_
      refine x_iconst (v := (2 : Int32)) C dX12_line_44 (by decide) ?_
      refine x_iload C dX12_line_45 rfl ?_
      refine x_imul C dX12_line_47 ?_
      refine x_iadd C dX12_line_48 ?_
      obtain ⟨h12, hw⟩ := hw
      refine a_iald C s136 ln136 h12 dX12_line_49 ?_
      refine x_iload_n C dX12_line_50 rfl rfl ?_
      refine x_icmp_ne (tgt := 57) C dX12_line_51 (by decide) (fun h13 => ?_) (fun h13 => ?_)
      · replace hw := hw.1 h13
        obtain ⟨x14, ex14⟩ : ∃ z : Int32, z = v6 + (1 : Int32) := ⟨_, rfl⟩
        replace hw := hw x14 ex14
        refine x_iinc (v := x14) C dX12_line_57 rfl ex14.symm (Nat.le_of_ble_eq_true rfl) ?_
        refine x_goto (tgt := 27) C dX12_line_60 (by decide) ?_
        exact x_sub [0, 1, 2, 3, 4, 5, 6] rfl hw
      · replace hw := hw.2 h13
        refine x_bipush (v := (-3 : Int32)) C dX12_line_54 (by decide) ?_
        exact n_ireturn C r dX12_line_56 hw)
def w_X12_line (v1 : Int32) (v2 : Int32) (v3 : Int32) (v4 : Int32) (v5 : Int32) (M : Mem) (q : Int32 → Mem → Prop) : Prop := w_X12_has (0 : Int32) v1 M (fun (r16 : Int32) (M15 : Mem) => ((r16 = 0 → q (-2 : Int32) M15) ∧ (¬ r16 = 0 → w_X12_isLine v2 v3 v4 v5 M15 (fun (r19 : Int32) (M18 : Mem) => ((¬ r19 = 0 → w_X12_line_l27 v1 v2 v3 v4 v5 q ((0 : Int32), M18)) ∧ (r19 = 0 → q (-2 : Int32) M18))))))
set_option maxRecDepth 100000 in
set_option maxHeartbeats 4000000 in
theorem ok_X12_line {g : Gl} {l : Launch} {v1 : Int32} {v2 : Int32} {v3 : Int32} {v4 : Int32} {v5 : Int32} {M : Mem} {q : Int32 → Mem → Prop} (hw : w_X12_line v1 v2 v3 v4 v5 M q) : CtI g l yX12_line cX12_line 7 (some .int) 3 48 [.ref (g.2.2.2 + 135), .int v1, .int v2, .int v3, .int v4, .int v5] M q := by
  refine n_introI (by decide +kernel) (Nat.le_of_ble_eq_true rfl) (fun c C r => ?_)
  have C : Cx c cX12_line 7 RX12 g l (Rm 3 48) := C
  refine x_sub [0, 1, 2, 3, 4, 5] (lv' := [(0, .ref (g.2.2.2 + 135)), (1, .int v1), (2, .int v2), (3, .int v3), (4, .int v4), (5, .int v5)]) rfl ?_
  unfold w_X12_line at hw
  refine x_aload_n C dX12_line_0 rfl rfl ?_
  refine x_iconst (v := (0 : Int32)) C dX12_line_1 (by decide) ?_
  refine x_iload_n C dX12_line_2 rfl rfl ?_
  refine n_callVI s135 rfl C (ok_X12_has  hw) mv_X12_84 rfl rfl ⟨Nat.le_of_ble_eq_true rfl, Nat.le_of_ble_eq_true rfl⟩ (Nat.le_of_ble_eq_true rfl) dX12_line_3 (fun r16 M15 hw => ?_)
  refine x_if_eq (tgt := 21) C dX12_line_6 (by decide) (fun h17 => ?_) (fun h17 => ?_)
  · replace hw := hw.1 h17
    refine x_bipush (v := (-2 : Int32)) C dX12_line_21 (by decide) ?_
    exact n_ireturn C r dX12_line_23 hw
  · replace hw := hw.2 h17
    refine x_iload_n C dX12_line_9 rfl rfl ?_
    refine x_iload_n C dX12_line_10 rfl rfl ?_
    refine x_iload C dX12_line_11 rfl ?_
    refine x_iload C dX12_line_13 rfl ?_
    refine n_callSI C (ok_X12_isLine  hw) ms_X12_88 rfl rfl ⟨Nat.le_of_ble_eq_true rfl, Nat.le_of_ble_eq_true rfl⟩ (Nat.le_of_ble_eq_true rfl) dX12_line_15 (fun r19 M18 hw => ?_)
    refine x_if_ne (tgt := 24) C dX12_line_18 (by decide) (fun h20 => ?_) (fun h20 => ?_)
    · replace hw := hw.1 h20
      refine x_iconst (v := (0 : Int32)) C dX12_line_24 (by decide) ?_
      refine x_istore C dX12_line_25 (Nat.le_of_ble_eq_true rfl) ?_
      exact x_sub [0, 1, 2, 3, 4, 5, 6] rfl (ok_X12_line_l27 C r  hw)
    · replace hw := hw.2 h20
      refine x_bipush (v := (-2 : Int32)) C dX12_line_21 (by decide) ?_
      exact n_ireturn C r dX12_line_23 hw

def w_X12_change (v1 : Int32) (v2 : Int32) (v3 : Int32) (v4 : Int32) (v5 : Int32) (v6 : Int32) (M : Mem) (q : Int32 → Mem → Prop) : Prop := w_X12_has (0 : Int32) v1 M (fun (r2 : Int32) (M1 : Mem) => ((r2 = 0 → q (-2 : Int32) M1) ∧ (¬ r2 = 0 → vp_in ((960 : Int32) + v1) 4230 ∧ w_X12_in (v2).toInt64 (0 : Int64) (((M1.1 136 (((960 : Int32) + v1)).toNatClampNeg) - (1 : Int32))).toInt64 M1 (fun (r6 : Int32) (M5 : Mem) => ((r6 = 0 → q (-2 : Int32) M5) ∧ (¬ r6 = 0 → w_X12_isLine v3 v4 v5 v6 M5 (fun (r9 : Int32) (M8 : Mem) => ((¬ r9 = 0 → w_X12_many (1 : Int32) M8 (fun (r12 : Int32) (M11 : Mem) => ((¬ r12 = (10 : Int32) → vp_in ((966 : Int32) + ((6 : Int32) * r12)) 4230 ∧ ∀ M15 : Mem, M15 = uI M11 136 (((966 : Int32) + ((6 : Int32) * r12))).toNatClampNeg v1 → vp_in (((966 : Int32) + ((6 : Int32) * r12)) + (1 : Int32)) 4230 ∧ ∀ M17 : Mem, M17 = uI M15 136 ((((966 : Int32) + ((6 : Int32) * r12)) + (1 : Int32))).toNatClampNeg v2 → w_X12_put (((966 : Int32) + ((6 : Int32) * r12)) + (2 : Int32)) v3 v4 v5 v6 M17 (fun (M18 : Mem) => ∀ M20 : Mem, M20 = uI M18 136 4211 ((M18.1 136 4211) + (1 : Int32)) → q r12 M20)) ∧ (r12 = (10 : Int32) → q (-4 : Int32) M11)))) ∧ (r9 = 0 → q (-2 : Int32) M8)))))))))
set_option maxRecDepth 100000 in
set_option maxHeartbeats 4000000 in
theorem ok_X12_change {g : Gl} {l : Launch} {v1 : Int32} {v2 : Int32} {v3 : Int32} {v4 : Int32} {v5 : Int32} {v6 : Int32} {M : Mem} {q : Int32 → Mem → Prop} (hw : w_X12_change v1 v2 v3 v4 v5 v6 M q) : CtI g l yX12_change cX12_change 8 (some .int) 3 48 [.ref (g.2.2.2 + 135), .int v1, .int v2, .int v3, .int v4, .int v5, .int v6] M q := by
  refine n_introI (by decide +kernel) (Nat.le_of_ble_eq_true rfl) (fun c C r => ?_)
  have C : Cx c cX12_change 8 RX12 g l (Rm 3 48) := C
  refine x_sub [0, 1, 2, 3, 4, 5, 6] (lv' := [(0, .ref (g.2.2.2 + 135)), (1, .int v1), (2, .int v2), (3, .int v3), (4, .int v4), (5, .int v5), (6, .int v6)]) rfl ?_
  unfold w_X12_change at hw
  refine x_aload_n C dX12_change_0 rfl rfl ?_
  refine x_iconst (v := (0 : Int32)) C dX12_change_1 (by decide) ?_
  refine x_iload_n C dX12_change_2 rfl rfl ?_
  refine n_callVI s135 rfl C (ok_X12_has  hw) mv_X12_84 rfl rfl ⟨Nat.le_of_ble_eq_true rfl, Nat.le_of_ble_eq_true rfl⟩ (Nat.le_of_ble_eq_true rfl) dX12_change_3 (fun r2 M1 hw => ?_)
  refine x_if_eq (tgt := 44) C dX12_change_6 (by decide) (fun h3 => ?_) (fun h3 => ?_)
  · replace hw := hw.1 h3
    refine x_bipush (v := (-2 : Int32)) C dX12_change_44 (by decide) ?_
    exact n_ireturn C r dX12_change_46 hw
  · replace hw := hw.2 h3
    refine x_iload_n C dX12_change_9 rfl rfl ?_
    refine x_i2l C dX12_change_10 ?_
    refine x_lconst (v := (0 : Int64)) C dX12_change_11 (by decide) ?_
    refine x_aload_n C dX12_change_12 rfl rfl ?_
    refine n_getS (dd := 1) C fl_X12_7 s135 (fun _ _ => rfl) rfl dX12_change_13 ?_
    refine x_sipush (v := (960 : Int32)) C dX12_change_16 (by decide) ?_
    refine x_iload_n C dX12_change_19 rfl rfl ?_
    refine x_iadd C dX12_change_20 ?_
    obtain ⟨h4, hw⟩ := hw
    refine a_iald C s136 ln136 h4 dX12_change_21 ?_
    refine x_iconst (v := (1 : Int32)) C dX12_change_22 (by decide) ?_
    refine x_isub C dX12_change_23 ?_
    refine x_i2l C dX12_change_24 ?_
    refine n_callSI C (ok_X12_in  hw) ms_X12_70 rfl rfl ⟨Nat.le_of_ble_eq_true rfl, Nat.le_of_ble_eq_true rfl⟩ (Nat.le_of_ble_eq_true rfl) dX12_change_25 (fun r6 M5 hw => ?_)
    refine x_if_eq (tgt := 44) C dX12_change_28 (by decide) (fun h7 => ?_) (fun h7 => ?_)
    · replace hw := hw.1 h7
      refine x_bipush (v := (-2 : Int32)) C dX12_change_44 (by decide) ?_
      exact n_ireturn C r dX12_change_46 hw
    · replace hw := hw.2 h7
      refine x_iload_n C dX12_change_31 rfl rfl ?_
      refine x_iload C dX12_change_32 rfl ?_
      refine x_iload C dX12_change_34 rfl ?_
      refine x_iload C dX12_change_36 rfl ?_
      refine n_callSI C (ok_X12_isLine  hw) ms_X12_88 rfl rfl ⟨Nat.le_of_ble_eq_true rfl, Nat.le_of_ble_eq_true rfl⟩ (Nat.le_of_ble_eq_true rfl) dX12_change_38 (fun r9 M8 hw => ?_)
      refine x_if_ne (tgt := 47) C dX12_change_41 (by decide) (fun h10 => ?_) (fun h10 => ?_)
      · replace hw := hw.1 h10
        refine x_aload_n C dX12_change_47 rfl rfl ?_
        refine x_iconst (v := (1 : Int32)) C dX12_change_48 (by decide) ?_
        refine n_callVI s135 rfl C (ok_X12_many  hw) mv_X12_66 rfl rfl ⟨Nat.le_of_ble_eq_true rfl, Nat.le_of_ble_eq_true rfl⟩ (Nat.le_of_ble_eq_true rfl) dX12_change_49 (fun r12 M11 hw => ?_)
        refine x_istore C dX12_change_52 (Nat.le_of_ble_eq_true rfl) ?_
        refine x_iload C dX12_change_54 rfl ?_
        refine x_bipush (v := (10 : Int32)) C dX12_change_56 (by decide) ?_
        refine x_icmp_ne (tgt := 64) C dX12_change_58 (by decide) (fun h13 => ?_) (fun h13 => ?_)
        · replace hw := hw.1 h13
          refine x_aload_n C dX12_change_64 rfl rfl ?_
          refine n_getS (dd := 1) C fl_X12_7 s135 (fun _ _ => rfl) rfl dX12_change_65 ?_
          refine x_sipush (v := (966 : Int32)) C dX12_change_68 (by decide) ?_
          refine x_bipush (v := (6 : Int32)) C dX12_change_71 (by decide) ?_
          refine x_iload C dX12_change_73 rfl ?_
          refine x_imul C dX12_change_75 ?_
          refine x_iadd C dX12_change_76 ?_
          refine x_iload_n C dX12_change_77 rfl rfl ?_
          obtain ⟨h14, hw⟩ := hw
          obtain ⟨M15, eM15⟩ : ∃ z : Mem, z = uI M11 136 (((966 : Int32) + ((6 : Int32) * r12))).toNatClampNeg v1 := ⟨_, rfl⟩
          replace hw := hw M15 eM15
          refine a_iast C s136 ln136 rfl h14 eM15 dX12_change_78 ?_
          refine x_aload_n C dX12_change_79 rfl rfl ?_
          refine n_getS (dd := 1) C fl_X12_7 s135 (fun _ _ => rfl) rfl dX12_change_80 ?_
          refine x_sipush (v := (966 : Int32)) C dX12_change_83 (by decide) ?_
          refine x_bipush (v := (6 : Int32)) C dX12_change_86 (by decide) ?_
          refine x_iload C dX12_change_88 rfl ?_
          refine x_imul C dX12_change_90 ?_
          refine x_iadd C dX12_change_91 ?_
          refine x_iconst (v := (1 : Int32)) C dX12_change_92 (by decide) ?_
          refine x_iadd C dX12_change_93 ?_
          refine x_iload_n C dX12_change_94 rfl rfl ?_
          obtain ⟨h16, hw⟩ := hw
          obtain ⟨M17, eM17⟩ : ∃ z : Mem, z = uI M15 136 ((((966 : Int32) + ((6 : Int32) * r12)) + (1 : Int32))).toNatClampNeg v2 := ⟨_, rfl⟩
          replace hw := hw M17 eM17
          refine a_iast C s136 ln136 rfl h16 eM17 dX12_change_95 ?_
          refine x_aload_n C dX12_change_96 rfl rfl ?_
          refine x_sipush (v := (966 : Int32)) C dX12_change_97 (by decide) ?_
          refine x_bipush (v := (6 : Int32)) C dX12_change_100 (by decide) ?_
          refine x_iload C dX12_change_102 rfl ?_
          refine x_imul C dX12_change_104 ?_
          refine x_iadd C dX12_change_105 ?_
          refine x_iconst (v := (2 : Int32)) C dX12_change_106 (by decide) ?_
          refine x_iadd C dX12_change_107 ?_
          refine x_iload_n C dX12_change_108 rfl rfl ?_
          refine x_iload C dX12_change_109 rfl ?_
          refine x_iload C dX12_change_111 rfl ?_
          refine x_iload C dX12_change_113 rfl ?_
          refine n_callVV s135 rfl C (ok_X12_put  hw) mv_X12_92 rfl rfl ⟨Nat.le_of_ble_eq_true rfl, Nat.le_of_ble_eq_true rfl⟩ (Nat.le_of_ble_eq_true rfl) dX12_change_115 (fun M18 hw => ?_)
          refine x_aload_n C dX12_change_118 rfl rfl ?_
          refine n_getS (dd := 1) C fl_X12_7 s135 (fun _ _ => rfl) rfl dX12_change_119 ?_
          refine x_sipush (v := (4211 : Int32)) C dX12_change_122 (by decide) ?_
          refine x_dup2_11 C dX12_change_125 rfl rfl ?_
          refine a_ialdL (ni := 4211) C s136 ln136 (by decide) (vin _ _ (by decide +kernel)) dX12_change_126 ?_
          refine x_iconst (v := (1 : Int32)) C dX12_change_127 (by decide) ?_
          refine x_iadd C dX12_change_128 ?_
          obtain ⟨M20, eM20⟩ : ∃ z : Mem, z = uI M18 136 4211 ((M18.1 136 4211) + (1 : Int32)) := ⟨_, rfl⟩
          replace hw := hw M20 eM20
          refine a_iast C s136 ln136 (by decide) (vin _ _ (by decide +kernel)) eM20 dX12_change_129 ?_
          refine x_iload C dX12_change_130 rfl ?_
          exact n_ireturn C r dX12_change_132 hw
        · replace hw := hw.2 h13
          refine x_bipush (v := (-4 : Int32)) C dX12_change_61 (by decide) ?_
          exact n_ireturn C r dX12_change_63 hw
      · replace hw := hw.2 h10
        refine x_bipush (v := (-2 : Int32)) C dX12_change_44 (by decide) ?_
        exact n_ireturn C r dX12_change_46 hw

def w_X12_build_b133 (v1 : Int32) (v2 : Int32) (v3 : Int32) (M : Mem) (q : Int32 → Mem → Prop) (P33 : Int32 × Mem → Prop) : Prop := ∀ x1 : Int32, x1 = v3 + (1 : Int32) → P33 (x1, M)
set_option maxRecDepth 100000 in
set_option maxHeartbeats 4000000 in
theorem ok_X12_build_b133 {c : CtxT} {g : Gl} {l : Launch} {v1 : Int32} {v2 : Int32} {v3 : Int32} {q : Int32 → Mem → Prop} {P33 : Int32 × Mem → Prop} {M : Mem} (C : Cx c cX12_build 5 RX12 g l (Rm 3 47)) (r : Rt c (some .int) (pI q) 0 0) (hP33 : ∀ (v3 : Int32) (M : Mem), P33 (v3, M) → X c S0 33 [(0, .ref (g.2.2.2 + 135)), (1, .int v1), (2, .int v2), (3, .int v3)] [] (stat M)) (hw : w_X12_build_b133 v1 v2 v3 M q P33) : X c S0 133 [(0, .ref (g.2.2.2 + 135)), (1, .int v1), (2, .int v2), (3, .int v3)] [] (stat M) := by
  unfold w_X12_build_b133 at hw
  obtain ⟨x1, ex1⟩ : ∃ z : Int32, z = v3 + (1 : Int32) := ⟨_, rfl⟩
  replace hw := hw x1 ex1
  refine x_iinc (v := x1) C dX12_build_133 rfl ex1.symm (Nat.le_of_ble_eq_true rfl) ?_
  refine x_goto (tgt := 33) C dX12_build_136 (by decide) ?_
  exact x_sub [0, 1, 2, 3] rfl (hP33 _ _ hw)
def w_X12_build_b127 (v1 : Int32) (v2 : Int32) (v3 : Int32) (v4 : Int32) (M : Mem) (q : Int32 → Mem → Prop) (P33 : Int32 × Mem → Prop) (P74 : Int32 × Mem → Prop) : Prop := ∀ x2 : Int32, x2 = v4 + (1 : Int32) → P74 (x2, M)
set_option maxRecDepth 100000 in
set_option maxHeartbeats 4000000 in
theorem ok_X12_build_b127 {c : CtxT} {g : Gl} {l : Launch} {v1 : Int32} {v2 : Int32} {v3 : Int32} {v4 : Int32} {q : Int32 → Mem → Prop} {P33 : Int32 × Mem → Prop} {P74 : Int32 × Mem → Prop} {M : Mem} (C : Cx c cX12_build 5 RX12 g l (Rm 3 47)) (r : Rt c (some .int) (pI q) 0 0) (hP33 : ∀ (v3 : Int32) (M : Mem), P33 (v3, M) → X c S0 33 [(0, .ref (g.2.2.2 + 135)), (1, .int v1), (2, .int v2), (3, .int v3)] [] (stat M)) (hP74 : ∀ (v4 : Int32) (M : Mem), P74 (v4, M) → X c S0 74 [(0, .ref (g.2.2.2 + 135)), (1, .int v1), (2, .int v2), (3, .int v3), (4, .int v4)] [] (stat M)) (hw : w_X12_build_b127 v1 v2 v3 v4 M q P33 P74) : X c S0 127 [(0, .ref (g.2.2.2 + 135)), (1, .int v1), (2, .int v2), (3, .int v3), (4, .int v4)] [] (stat M) := by
  unfold w_X12_build_b127 at hw
  obtain ⟨x2, ex2⟩ : ∃ z : Int32, z = v4 + (1 : Int32) := ⟨_, rfl⟩
  replace hw := hw x2 ex2
  refine x_iinc (v := x2) C dX12_build_127 rfl ex2.symm (Nat.le_of_ble_eq_true rfl) ?_
  refine x_goto (tgt := 74) C dX12_build_130 (by decide) ?_
  exact x_sub [0, 1, 2, 3, 4] rfl (hP74 _ _ hw)
def w_X12_build_l74F (v1 : Int32) (v2 : Int32) (v3 : Int32) (q : Int32 → Mem → Prop) (P33 : Int32 × Mem → Prop) (P74 : Int32 × Mem → Prop) (s : Int32 × Mem) : Prop := match s with
  | (v4, M) => ((v3 ≤ v4 → w_X12_build_b133 v1 v2 v3 M q P33) ∧ (¬ v3 ≤ v4 → ((¬ ((v2 >>> (v4 &&& 31)) &&& (1 : Int32)) = (1 : Int32) → w_X12_build_b127 v1 v2 v3 v4 M q P33 P74) ∧ (((v2 >>> (v4 &&& 31)) &&& (1 : Int32)) = (1 : Int32) → vp_in (((966 : Int32) + ((6 : Int32) * v4)) + (1 : Int32)) 4230 ∧ vp_in (((966 : Int32) + ((6 : Int32) * v3)) + (1 : Int32)) 4230 ∧ ((¬ (M.1 136 ((((966 : Int32) + ((6 : Int32) * v4)) + (1 : Int32))).toNatClampNeg) = (M.1 136 ((((966 : Int32) + ((6 : Int32) * v3)) + (1 : Int32))).toNatClampNeg) → w_X12_build_b127 v1 v2 v3 v4 M q P33 P74) ∧ ((M.1 136 ((((966 : Int32) + ((6 : Int32) * v4)) + (1 : Int32))).toNatClampNeg) = (M.1 136 ((((966 : Int32) + ((6 : Int32) * v3)) + (1 : Int32))).toNatClampNeg) → q (-3 : Int32) M))))))
def w_X12_build_l74 (v1 : Int32) (v2 : Int32) (v3 : Int32) (q : Int32 → Mem → Prop) (P33 : Int32 × Mem → Prop) (s : Int32 × Mem) : Prop := lfp (w_X12_build_l74F v1 v2 v3 q P33) s
set_option maxRecDepth 100000 in
set_option maxHeartbeats 4000000 in
theorem ok_X12_build_l74 {c : CtxT} {g : Gl} {l : Launch} {v1 : Int32} {v2 : Int32} {v3 : Int32} {q : Int32 → Mem → Prop} {P33 : Int32 × Mem → Prop} {s : Int32 × Mem} (C : Cx c cX12_build 5 RX12 g l (Rm 3 47)) (r : Rt c (some .int) (pI q) 0 0) (hP33 : ∀ (v3 : Int32) (M : Mem), P33 (v3, M) → X c S0 33 [(0, .ref (g.2.2.2 + 135)), (1, .int v1), (2, .int v2), (3, .int v3)] [] (stat M)) (hw : w_X12_build_l74 v1 v2 v3 q P33 s) : X c S0 74 [(0, .ref (g.2.2.2 + 135)), (1, .int v1), (2, .int v2), (3, .int v3), (4, .int s.1)] [] (stat s.2) := hw (fun s => X c S0 74 [(0, .ref (g.2.2.2 + 135)), (1, .int v1), (2, .int v2), (3, .int v3), (4, .int s.1)] [] (stat s.2)) (fun s hw => by
    obtain ⟨v4, M⟩ := s
    try dsimp only [w_X12_build_l74F] at hw
    try dsimp only
    refine x_iload C dX12_build_74 rfl ?_
    refine x_iload_n C dX12_build_76 rfl rfl ?_
    refine x_icmp_ge (tgt := 133) C dX12_build_77 (by decide) (fun h3 => ?_) (fun h3 => ?_)
    · replace hw := hw.1 h3
      exact x_sub [0, 1, 2, 3] rfl (ok_X12_build_b133 C r hP33 hw)
    · replace hw := hw.2 h3
      refine x_iload_n C dX12_build_80 rfl rfl ?_
      refine x_iload C dX12_build_81 rfl ?_
      refine x_ishr C dX12_build_83 ?_
      refine x_iconst (v := (1 : Int32)) C dX12_build_84 (by decide) ?_
      refine x_iand C dX12_build_85 ?_
      refine x_iconst (v := (1 : Int32)) C dX12_build_86 (by decide) ?_
      refine x_icmp_ne (tgt := 127) C dX12_build_87 (by decide) (fun h4 => ?_) (fun h4 => ?_)
      · replace hw := hw.1 h4
        exact x_sub [0, 1, 2, 3, 4] rfl (ok_X12_build_b127 C r hP33 (fun _ _ h => h) hw)
      · replace hw := hw.2 h4
        refine x_aload_n C dX12_build_90 rfl rfl ?_
        refine n_getS (dd := 1) C fl_X12_7 s135 (fun _ _ => rfl) rfl dX12_build_91 ?_
        refine x_sipush (v := (966 : Int32)) C dX12_build_94 (by decide) ?_
        refine x_bipush (v := (6 : Int32)) C dX12_build_97 (by decide) ?_
        refine x_iload C dX12_build_99 rfl ?_
        refine x_imul C dX12_build_101 ?_
        refine x_iadd C dX12_build_102 ?_
        refine x_iconst (v := (1 : Int32)) C dX12_build_103 (by decide) ?_
        refine x_iadd C dX12_build_104 ?_
        obtain ⟨h5, hw⟩ := hw
        refine a_iald C s136 ln136 h5 dX12_build_105 ?_
        refine x_aload_n C dX12_build_106 rfl rfl ?_
        refine n_getS (dd := 1) C fl_X12_7 s135 (fun _ _ => rfl) rfl dX12_build_107 ?_
        refine x_sipush (v := (966 : Int32)) C dX12_build_110 (by decide) ?_
        refine x_bipush (v := (6 : Int32)) C dX12_build_113 (by decide) ?_
        refine x_iload_n C dX12_build_115 rfl rfl ?_
        refine x_imul C dX12_build_116 ?_
        refine x_iadd C dX12_build_117 ?_
        refine x_iconst (v := (1 : Int32)) C dX12_build_118 (by decide) ?_
        refine x_iadd C dX12_build_119 ?_
        obtain ⟨h6, hw⟩ := hw
        refine a_iald C s136 ln136 h6 dX12_build_120 ?_
        refine x_icmp_ne (tgt := 127) C dX12_build_121 (by decide) (fun h7 => ?_) (fun h7 => ?_)
        · replace hw := hw.1 h7
          exact x_sub [0, 1, 2, 3, 4] rfl (ok_X12_build_b127 C r hP33 (fun _ _ h => h) hw)
        · replace hw := hw.2 h7
          refine x_bipush (v := (-3 : Int32)) C dX12_build_124 (by decide) ?_
          exact n_ireturn C r dX12_build_126 hw)
def w_X12_build_l33F (v1 : Int32) (v2 : Int32) (q : Int32 → Mem → Prop) (P33 : Int32 × Mem → Prop) (s : Int32 × Mem) : Prop := match s with
  | (v3, M) => w_X12_many (1 : Int32) M (fun (r9 : Int32) (M8 : Mem) => ((r9 ≤ v3 → w_X12_many (2 : Int32) M8 (fun (r12 : Int32) (M11 : Mem) => ((¬ r12 = (24 : Int32) → vp_in ((1026 : Int32) + ((2 : Int32) * r12)) 4230 ∧ ∀ M15 : Mem, M15 = uI M11 136 (((1026 : Int32) + ((2 : Int32) * r12))).toNatClampNeg v1 → vp_in (((1026 : Int32) + ((2 : Int32) * r12)) + (1 : Int32)) 4230 ∧ ∀ M17 : Mem, M17 = uI M15 136 ((((1026 : Int32) + ((2 : Int32) * r12)) + (1 : Int32))).toNatClampNeg v2 → ∀ M18 : Mem, M18 = uI M17 136 4212 ((M17.1 136 4212) + (1 : Int32)) → q r12 M18) ∧ (r12 = (24 : Int32) → q (-4 : Int32) M11)))) ∧ (¬ r9 ≤ v3 → ((¬ ((v2 >>> (v3 &&& 31)) &&& (1 : Int32)) = (1 : Int32) → w_X12_build_b133 v1 v2 v3 M8 q P33) ∧ (((v2 >>> (v3 &&& 31)) &&& (1 : Int32)) = (1 : Int32) → vp_in ((966 : Int32) + ((6 : Int32) * v3)) 4230 ∧ (((M8.1 136 (((966 : Int32) + ((6 : Int32) * v3))).toNatClampNeg) = v1 → w_X12_build_l74 v1 v2 v3 q P33 ((0 : Int32), M8)) ∧ (¬ (M8.1 136 (((966 : Int32) + ((6 : Int32) * v3))).toNatClampNeg) = v1 → q (-3 : Int32) M8)))))))
def w_X12_build_l33 (v1 : Int32) (v2 : Int32) (q : Int32 → Mem → Prop) (s : Int32 × Mem) : Prop := lfp (w_X12_build_l33F v1 v2 q ) s
set_option maxRecDepth 100000 in
set_option maxHeartbeats 4000000 in
theorem ok_X12_build_l33 {c : CtxT} {g : Gl} {l : Launch} {v1 : Int32} {v2 : Int32} {q : Int32 → Mem → Prop} {s : Int32 × Mem} (C : Cx c cX12_build 5 RX12 g l (Rm 3 47)) (r : Rt c (some .int) (pI q) 0 0) (hw : w_X12_build_l33 v1 v2 q s) : X c S0 33 [(0, .ref (g.2.2.2 + 135)), (1, .int v1), (2, .int v2), (3, .int s.1)] [] (stat s.2) := hw (fun s => X c S0 33 [(0, .ref (g.2.2.2 + 135)), (1, .int v1), (2, .int v2), (3, .int s.1)] [] (stat s.2)) (fun s hw => by
    obtain ⟨v3, M⟩ := s
    try dsimp only [w_X12_build_l33F] at hw
    try dsimp only
    refine x_iload_n C dX12_build_33 rfl rfl ?_
    refine x_aload_n C dX12_build_34 rfl rfl ?_
    refine x_iconst (v := (1 : Int32)) C dX12_build_35 (by decide) ?_
    refine n_callVI s135 rfl C (ok_X12_many  hw) mv_X12_66 rfl rfl ⟨Nat.le_of_ble_eq_true rfl, Nat.le_of_ble_eq_true rfl⟩ (Nat.le_of_ble_eq_true rfl) dX12_build_36 (fun r9 M8 hw => ?_)
    refine x_icmp_ge (tgt := 139) C dX12_build_39 (by decide) (fun h10 => ?_) (fun h10 => ?_)
    · replace hw := hw.1 h10
      refine x_aload_n C dX12_build_139 rfl rfl ?_
      refine x_iconst (v := (2 : Int32)) C dX12_build_140 (by decide) ?_
      refine n_callVI s135 rfl C (ok_X12_many  hw) mv_X12_66 rfl rfl ⟨Nat.le_of_ble_eq_true rfl, Nat.le_of_ble_eq_true rfl⟩ (Nat.le_of_ble_eq_true rfl) dX12_build_141 (fun r12 M11 hw => ?_)
      refine x_istore_n C dX12_build_144 rfl (Nat.le_of_ble_eq_true rfl) ?_
      refine x_iload_n C dX12_build_145 rfl rfl ?_
      refine x_bipush (v := (24 : Int32)) C dX12_build_146 (by decide) ?_
      refine x_icmp_ne (tgt := 154) C dX12_build_148 (by decide) (fun h13 => ?_) (fun h13 => ?_)
      · replace hw := hw.1 h13
        refine x_aload_n C dX12_build_154 rfl rfl ?_
        refine n_getS (dd := 1) C fl_X12_7 s135 (fun _ _ => rfl) rfl dX12_build_155 ?_
        refine x_sipush (v := (1026 : Int32)) C dX12_build_158 (by decide) ?_
        refine x_iconst (v := (2 : Int32)) C dX12_build_161 (by decide) ?_
        refine x_iload_n C dX12_build_162 rfl rfl ?_
        refine x_imul C dX12_build_163 ?_
        refine x_iadd C dX12_build_164 ?_
        refine x_iload_n C dX12_build_165 rfl rfl ?_
        obtain ⟨h14, hw⟩ := hw
        obtain ⟨M15, eM15⟩ : ∃ z : Mem, z = uI M11 136 (((1026 : Int32) + ((2 : Int32) * r12))).toNatClampNeg v1 := ⟨_, rfl⟩
        replace hw := hw M15 eM15
        refine a_iast C s136 ln136 rfl h14 eM15 dX12_build_166 ?_
        refine x_aload_n C dX12_build_167 rfl rfl ?_
        refine n_getS (dd := 1) C fl_X12_7 s135 (fun _ _ => rfl) rfl dX12_build_168 ?_
        refine x_sipush (v := (1026 : Int32)) C dX12_build_171 (by decide) ?_
        refine x_iconst (v := (2 : Int32)) C dX12_build_174 (by decide) ?_
        refine x_iload_n C dX12_build_175 rfl rfl ?_
        refine x_imul C dX12_build_176 ?_
        refine x_iadd C dX12_build_177 ?_
        refine x_iconst (v := (1 : Int32)) C dX12_build_178 (by decide) ?_
        refine x_iadd C dX12_build_179 ?_
        refine x_iload_n C dX12_build_180 rfl rfl ?_
        obtain ⟨h16, hw⟩ := hw
        obtain ⟨M17, eM17⟩ : ∃ z : Mem, z = uI M15 136 ((((1026 : Int32) + ((2 : Int32) * r12)) + (1 : Int32))).toNatClampNeg v2 := ⟨_, rfl⟩
        replace hw := hw M17 eM17
        refine a_iast C s136 ln136 rfl h16 eM17 dX12_build_181 ?_
        refine x_aload_n C dX12_build_182 rfl rfl ?_
        refine n_getS (dd := 1) C fl_X12_7 s135 (fun _ _ => rfl) rfl dX12_build_183 ?_
        refine x_sipush (v := (4212 : Int32)) C dX12_build_186 (by decide) ?_
        refine x_dup2_11 C dX12_build_189 rfl rfl ?_
        refine a_ialdL (ni := 4212) C s136 ln136 (by decide) (vin _ _ (by decide +kernel)) dX12_build_190 ?_
        refine x_iconst (v := (1 : Int32)) C dX12_build_191 (by decide) ?_
        refine x_iadd C dX12_build_192 ?_
        obtain ⟨M18, eM18⟩ : ∃ z : Mem, z = uI M17 136 4212 ((M17.1 136 4212) + (1 : Int32)) := ⟨_, rfl⟩
        replace hw := hw M18 eM18
        refine a_iast C s136 ln136 (by decide) (vin _ _ (by decide +kernel)) eM18 dX12_build_193 ?_
        refine x_iload_n C dX12_build_194 rfl rfl ?_
        exact n_ireturn C r dX12_build_195 hw
      · replace hw := hw.2 h13
        refine x_bipush (v := (-4 : Int32)) C dX12_build_151 (by decide) ?_
        exact n_ireturn C r dX12_build_153 hw
    · replace hw := hw.2 h10
      refine x_iload_n C dX12_build_42 rfl rfl ?_
      refine x_iload_n C dX12_build_43 rfl rfl ?_
      refine x_ishr C dX12_build_44 ?_
      refine x_iconst (v := (1 : Int32)) C dX12_build_45 (by decide) ?_
      refine x_iand C dX12_build_46 ?_
      refine x_iconst (v := (1 : Int32)) C dX12_build_47 (by decide) ?_
      refine x_icmp_ne (tgt := 133) C dX12_build_48 (by decide) (fun h19 => ?_) (fun h19 => ?_)
      · replace hw := hw.1 h19
        exact x_sub [0, 1, 2, 3] rfl (ok_X12_build_b133 C r (fun _ _ h => h) hw)
      · replace hw := hw.2 h19
        refine x_aload_n C dX12_build_51 rfl rfl ?_
        refine n_getS (dd := 1) C fl_X12_7 s135 (fun _ _ => rfl) rfl dX12_build_52 ?_
        refine x_sipush (v := (966 : Int32)) C dX12_build_55 (by decide) ?_
        refine x_bipush (v := (6 : Int32)) C dX12_build_58 (by decide) ?_
        refine x_iload_n C dX12_build_60 rfl rfl ?_
        refine x_imul C dX12_build_61 ?_
        refine x_iadd C dX12_build_62 ?_
        obtain ⟨h20, hw⟩ := hw
        refine a_iald C s136 ln136 h20 dX12_build_63 ?_
        refine x_iload_n C dX12_build_64 rfl rfl ?_
        refine x_icmp_eq (tgt := 71) C dX12_build_65 (by decide) (fun h21 => ?_) (fun h21 => ?_)
        · replace hw := hw.1 h21
          refine x_iconst (v := (0 : Int32)) C dX12_build_71 (by decide) ?_
          refine x_istore C dX12_build_72 (Nat.le_of_ble_eq_true rfl) ?_
          exact x_sub [0, 1, 2, 3, 4] rfl (ok_X12_build_l74 C r (fun _ _ h => h) hw)
        · replace hw := hw.2 h21
          refine x_bipush (v := (-3 : Int32)) C dX12_build_68 (by decide) ?_
          exact n_ireturn C r dX12_build_70 hw)
def w_X12_build (v1 : Int32) (v2 : Int32) (M : Mem) (q : Int32 → Mem → Prop) : Prop := w_X12_has (0 : Int32) v1 M (fun (r23 : Int32) (M22 : Mem) => ((r23 = 0 → q (-2 : Int32) M22) ∧ (¬ r23 = 0 → w_X12_many (1 : Int32) M22 (fun (r26 : Int32) (M25 : Mem) => w_X12_in (v2).toInt64 (0 : Int64) ((((1 : Int32) <<< (r26 &&& 31)) - (1 : Int32))).toInt64 M25 (fun (r28 : Int32) (M27 : Mem) => ((¬ r28 = 0 → w_X12_build_l33 v1 v2 q ((0 : Int32), M27)) ∧ (r28 = 0 → q (-2 : Int32) M27)))))))
set_option maxRecDepth 100000 in
set_option maxHeartbeats 4000000 in
theorem ok_X12_build {g : Gl} {l : Launch} {v1 : Int32} {v2 : Int32} {M : Mem} {q : Int32 → Mem → Prop} (hw : w_X12_build v1 v2 M q) : CtI g l yX12_build cX12_build 5 (some .int) 3 47 [.ref (g.2.2.2 + 135), .int v1, .int v2] M q := by
  refine n_introI (by decide +kernel) (Nat.le_of_ble_eq_true rfl) (fun c C r => ?_)
  have C : Cx c cX12_build 5 RX12 g l (Rm 3 47) := C
  refine x_sub [0, 1, 2] (lv' := [(0, .ref (g.2.2.2 + 135)), (1, .int v1), (2, .int v2)]) rfl ?_
  unfold w_X12_build at hw
  refine x_aload_n C dX12_build_0 rfl rfl ?_
  refine x_iconst (v := (0 : Int32)) C dX12_build_1 (by decide) ?_
  refine x_iload_n C dX12_build_2 rfl rfl ?_
  refine n_callVI s135 rfl C (ok_X12_has  hw) mv_X12_84 rfl rfl ⟨Nat.le_of_ble_eq_true rfl, Nat.le_of_ble_eq_true rfl⟩ (Nat.le_of_ble_eq_true rfl) dX12_build_3 (fun r23 M22 hw => ?_)
  refine x_if_eq (tgt := 28) C dX12_build_6 (by decide) (fun h24 => ?_) (fun h24 => ?_)
  · replace hw := hw.1 h24
    refine x_bipush (v := (-2 : Int32)) C dX12_build_28 (by decide) ?_
    exact n_ireturn C r dX12_build_30 hw
  · replace hw := hw.2 h24
    refine x_iload_n C dX12_build_9 rfl rfl ?_
    refine x_i2l C dX12_build_10 ?_
    refine x_lconst (v := (0 : Int64)) C dX12_build_11 (by decide) ?_
    refine x_iconst (v := (1 : Int32)) C dX12_build_12 (by decide) ?_
    refine x_aload_n C dX12_build_13 rfl rfl ?_
    refine x_iconst (v := (1 : Int32)) C dX12_build_14 (by decide) ?_
    refine n_callVI s135 rfl C (ok_X12_many  hw) mv_X12_66 rfl rfl ⟨Nat.le_of_ble_eq_true rfl, Nat.le_of_ble_eq_true rfl⟩ (Nat.le_of_ble_eq_true rfl) dX12_build_15 (fun r26 M25 hw => ?_)
    refine x_ishl C dX12_build_18 ?_
    refine x_iconst (v := (1 : Int32)) C dX12_build_19 (by decide) ?_
    refine x_isub C dX12_build_20 ?_
    refine x_i2l C dX12_build_21 ?_
    refine n_callSI C (ok_X12_in  hw) ms_X12_70 rfl rfl ⟨Nat.le_of_ble_eq_true rfl, Nat.le_of_ble_eq_true rfl⟩ (Nat.le_of_ble_eq_true rfl) dX12_build_22 (fun r28 M27 hw => ?_)
    refine x_if_ne (tgt := 31) C dX12_build_25 (by decide) (fun h29 => ?_) (fun h29 => ?_)
    · replace hw := hw.1 h29
      refine x_iconst (v := (0 : Int32)) C dX12_build_31 (by decide) ?_
      refine x_istore_n C dX12_build_32 rfl (Nat.le_of_ble_eq_true rfl) ?_
      exact x_sub [0, 1, 2, 3] rfl (ok_X12_build_l33 C r  hw)
    · replace hw := hw.2 h29
      refine x_bipush (v := (-2 : Int32)) C dX12_build_28 (by decide) ?_
      exact n_ireturn C r dX12_build_30 hw

def w_X12_isStart (v0 : Int32) (M : Mem) (q : Int32 → Mem → Prop) : Prop := w_X12_in (v0).toInt64 (-1000 : Int64) (1000 : Int64) M (fun (r2 : Int32) (M1 : Mem) => (bz r2 ∧ q r2 M1))
set_option maxRecDepth 100000 in
set_option maxHeartbeats 4000000 in
theorem ok_X12_isStart {g : Gl} {l : Launch} {v0 : Int32} {M : Mem} {q : Int32 → Mem → Prop} (hw : w_X12_isStart v0 M q) : CtI g l yX12_isStart cX12_isStart 1 (some .boolean) 2 25 [.int v0] M q := by
  refine n_introI (by decide +kernel) (Nat.le_of_ble_eq_true rfl) (fun c C r => ?_)
  have C : Cx c cX12_isStart 1 RX12 g l (Rm 2 25) := C
  refine x_sub [0] (lv' := [(0, .int v0)]) rfl ?_
  unfold w_X12_isStart at hw
  refine x_iload_n C dX12_isStart_0 rfl rfl ?_
  refine x_i2l C dX12_isStart_1 ?_
  refine x_ldc2_w (v := (-1000 : Int64)) C dX12_isStart_2 kc_X12_78 ?_
  refine x_ldc2_w (v := (1000 : Int64)) C dX12_isStart_5 kc_X12_80 ?_
  refine n_callSI C (ok_X12_in  hw) ms_X12_70 rfl rfl ⟨Nat.le_of_ble_eq_true rfl, Nat.le_of_ble_eq_true rfl⟩ (Nat.le_of_ble_eq_true rfl) dX12_isStart_8 (fun r2 M1 hw => ?_)
  exact n_zreturn C r dX12_isStart_11 hw.1 hw.2

def w_X12_setting (v1 : Int32) (v2 : Int32) (v3 : Int32) (v4 : Int32) (M : Mem) (q : Int32 → Mem → Prop) : Prop := w_X12_isStart v1 M (fun (r2 : Int32) (M1 : Mem) => ((r2 = 0 → q (-2 : Int32) M1) ∧ (¬ r2 = 0 → w_X12_isStart v2 M1 (fun (r5 : Int32) (M4 : Mem) => ((r5 = 0 → q (-2 : Int32) M4) ∧ (¬ r5 = 0 → w_X12_isStart v3 M4 (fun (r8 : Int32) (M7 : Mem) => ((r8 = 0 → q (-2 : Int32) M7) ∧ (¬ r8 = 0 → w_X12_isStart v4 M7 (fun (r11 : Int32) (M10 : Mem) => ((¬ r11 = 0 → w_X12_many (3 : Int32) M10 (fun (r14 : Int32) (M13 : Mem) => ((¬ r14 = (8 : Int32) → w_X12_put ((1074 : Int32) + ((4 : Int32) * r14)) v1 v2 v3 v4 M13 (fun (M16 : Mem) => ∀ M18 : Mem, M18 = uI M16 136 4213 ((M16.1 136 4213) + (1 : Int32)) → q r14 M18)) ∧ (r14 = (8 : Int32) → q (-4 : Int32) M13)))) ∧ (r11 = 0 → q (-2 : Int32) M10))))))))))))
set_option maxRecDepth 100000 in
set_option maxHeartbeats 4000000 in
theorem ok_X12_setting {g : Gl} {l : Launch} {v1 : Int32} {v2 : Int32} {v3 : Int32} {v4 : Int32} {M : Mem} {q : Int32 → Mem → Prop} (hw : w_X12_setting v1 v2 v3 v4 M q) : CtI g l yX12_setting cX12_setting 6 (some .int) 3 45 [.ref (g.2.2.2 + 135), .int v1, .int v2, .int v3, .int v4] M q := by
  refine n_introI (by decide +kernel) (Nat.le_of_ble_eq_true rfl) (fun c C r => ?_)
  have C : Cx c cX12_setting 6 RX12 g l (Rm 3 45) := C
  refine x_sub [0, 1, 2, 3, 4] (lv' := [(0, .ref (g.2.2.2 + 135)), (1, .int v1), (2, .int v2), (3, .int v3), (4, .int v4)]) rfl ?_
  unfold w_X12_setting at hw
  refine x_iload_n C dX12_setting_0 rfl rfl ?_
  refine n_callSI C (ok_X12_isStart  hw) ms_X12_96 rfl rfl ⟨Nat.le_of_ble_eq_true rfl, Nat.le_of_ble_eq_true rfl⟩ (Nat.le_of_ble_eq_true rfl) dX12_setting_1 (fun r2 M1 hw => ?_)
  refine x_if_eq (tgt := 29) C dX12_setting_4 (by decide) (fun h3 => ?_) (fun h3 => ?_)
  · replace hw := hw.1 h3
    refine x_bipush (v := (-2 : Int32)) C dX12_setting_29 (by decide) ?_
    exact n_ireturn C r dX12_setting_31 hw
  · replace hw := hw.2 h3
    refine x_iload_n C dX12_setting_7 rfl rfl ?_
    refine n_callSI C (ok_X12_isStart  hw) ms_X12_96 rfl rfl ⟨Nat.le_of_ble_eq_true rfl, Nat.le_of_ble_eq_true rfl⟩ (Nat.le_of_ble_eq_true rfl) dX12_setting_8 (fun r5 M4 hw => ?_)
    refine x_if_eq (tgt := 29) C dX12_setting_11 (by decide) (fun h6 => ?_) (fun h6 => ?_)
    · replace hw := hw.1 h6
      refine x_bipush (v := (-2 : Int32)) C dX12_setting_29 (by decide) ?_
      exact n_ireturn C r dX12_setting_31 hw
    · replace hw := hw.2 h6
      refine x_iload_n C dX12_setting_14 rfl rfl ?_
      refine n_callSI C (ok_X12_isStart  hw) ms_X12_96 rfl rfl ⟨Nat.le_of_ble_eq_true rfl, Nat.le_of_ble_eq_true rfl⟩ (Nat.le_of_ble_eq_true rfl) dX12_setting_15 (fun r8 M7 hw => ?_)
      refine x_if_eq (tgt := 29) C dX12_setting_18 (by decide) (fun h9 => ?_) (fun h9 => ?_)
      · replace hw := hw.1 h9
        refine x_bipush (v := (-2 : Int32)) C dX12_setting_29 (by decide) ?_
        exact n_ireturn C r dX12_setting_31 hw
      · replace hw := hw.2 h9
        refine x_iload C dX12_setting_21 rfl ?_
        refine n_callSI C (ok_X12_isStart  hw) ms_X12_96 rfl rfl ⟨Nat.le_of_ble_eq_true rfl, Nat.le_of_ble_eq_true rfl⟩ (Nat.le_of_ble_eq_true rfl) dX12_setting_23 (fun r11 M10 hw => ?_)
        refine x_if_ne (tgt := 32) C dX12_setting_26 (by decide) (fun h12 => ?_) (fun h12 => ?_)
        · replace hw := hw.1 h12
          refine x_aload_n C dX12_setting_32 rfl rfl ?_
          refine x_iconst (v := (3 : Int32)) C dX12_setting_33 (by decide) ?_
          refine n_callVI s135 rfl C (ok_X12_many  hw) mv_X12_66 rfl rfl ⟨Nat.le_of_ble_eq_true rfl, Nat.le_of_ble_eq_true rfl⟩ (Nat.le_of_ble_eq_true rfl) dX12_setting_34 (fun r14 M13 hw => ?_)
          refine x_istore C dX12_setting_37 (Nat.le_of_ble_eq_true rfl) ?_
          refine x_iload C dX12_setting_39 rfl ?_
          refine x_bipush (v := (8 : Int32)) C dX12_setting_41 (by decide) ?_
          refine x_icmp_ne (tgt := 49) C dX12_setting_43 (by decide) (fun h15 => ?_) (fun h15 => ?_)
          · replace hw := hw.1 h15
            refine x_aload_n C dX12_setting_49 rfl rfl ?_
            refine x_sipush (v := (1074 : Int32)) C dX12_setting_50 (by decide) ?_
            refine x_iconst (v := (4 : Int32)) C dX12_setting_53 (by decide) ?_
            refine x_iload C dX12_setting_54 rfl ?_
            refine x_imul C dX12_setting_56 ?_
            refine x_iadd C dX12_setting_57 ?_
            refine x_iload_n C dX12_setting_58 rfl rfl ?_
            refine x_iload_n C dX12_setting_59 rfl rfl ?_
            refine x_iload_n C dX12_setting_60 rfl rfl ?_
            refine x_iload C dX12_setting_61 rfl ?_
            refine n_callVV s135 rfl C (ok_X12_put  hw) mv_X12_92 rfl rfl ⟨Nat.le_of_ble_eq_true rfl, Nat.le_of_ble_eq_true rfl⟩ (Nat.le_of_ble_eq_true rfl) dX12_setting_63 (fun M16 hw => ?_)
            refine x_aload_n C dX12_setting_66 rfl rfl ?_
            refine n_getS (dd := 1) C fl_X12_7 s135 (fun _ _ => rfl) rfl dX12_setting_67 ?_
            refine x_sipush (v := (4213 : Int32)) C dX12_setting_70 (by decide) ?_
            refine x_dup2_11 C dX12_setting_73 rfl rfl ?_
            refine a_ialdL (ni := 4213) C s136 ln136 (by decide) (vin _ _ (by decide +kernel)) dX12_setting_74 ?_
            refine x_iconst (v := (1 : Int32)) C dX12_setting_75 (by decide) ?_
            refine x_iadd C dX12_setting_76 ?_
            obtain ⟨M18, eM18⟩ : ∃ z : Mem, z = uI M16 136 4213 ((M16.1 136 4213) + (1 : Int32)) := ⟨_, rfl⟩
            replace hw := hw M18 eM18
            refine a_iast C s136 ln136 (by decide) (vin _ _ (by decide +kernel)) eM18 dX12_setting_77 ?_
            refine x_iload C dX12_setting_78 rfl ?_
            exact n_ireturn C r dX12_setting_80 hw
          · replace hw := hw.2 h15
            refine x_bipush (v := (-4 : Int32)) C dX12_setting_46 (by decide) ?_
            exact n_ireturn C r dX12_setting_48 hw
        · replace hw := hw.2 h12
          refine x_bipush (v := (-2 : Int32)) C dX12_setting_29 (by decide) ?_
          exact n_ireturn C r dX12_setting_31 hw

def w_X12_price (v1 : Int32) (v2 : Int32) (v3 : Int32) (M : Mem) (q : Int32 → Mem → Prop) : Prop := w_X12_isMachine v1 M (fun (r2 : Int32) (M1 : Mem) => ((r2 = 0 → q (-2 : Int32) M1) ∧ (¬ r2 = 0 → w_X12_in (v2).toInt64 (0 : Int64) (7 : Int64) M1 (fun (r5 : Int32) (M4 : Mem) => ((r5 = 0 → q (-2 : Int32) M4) ∧ (¬ r5 = 0 → w_X12_in (v3).toInt64 (0 : Int64) (50 : Int64) M4 (fun (r8 : Int32) (M7 : Mem) => ((¬ r8 = 0 → ∀ x10 : Int32, x10 = (((1106 : Int32) + ((60 : Int32) * v1)) + v2) → vp_in x10 4230 ∧ ∀ x12 : Int32, x12 = (M7.1 136 (x10).toNatClampNeg) → vp_in x10 4230 ∧ ∀ M14 : Mem, M14 = uI M7 136 (x10).toNatClampNeg v3 → q x12 M14) ∧ (r8 = 0 → q (-2 : Int32) M7)))))))))
set_option maxRecDepth 100000 in
set_option maxHeartbeats 4000000 in
theorem ok_X12_price {g : Gl} {l : Launch} {v1 : Int32} {v2 : Int32} {v3 : Int32} {M : Mem} {q : Int32 → Mem → Prop} (hw : w_X12_price v1 v2 v3 M q) : CtI g l yX12_price cX12_price 6 (some .int) 3 45 [.ref (g.2.2.2 + 135), .int v1, .int v2, .int v3] M q := by
  refine n_introI (by decide +kernel) (Nat.le_of_ble_eq_true rfl) (fun c C r => ?_)
  have C : Cx c cX12_price 6 RX12 g l (Rm 3 45) := C
  refine x_sub [0, 1, 2, 3] (lv' := [(0, .ref (g.2.2.2 + 135)), (1, .int v1), (2, .int v2), (3, .int v3)]) rfl ?_
  unfold w_X12_price at hw
  refine x_iload_n C dX12_price_0 rfl rfl ?_
  refine n_callSI C (ok_X12_isMachine  hw) ms_X12_100 rfl rfl ⟨Nat.le_of_ble_eq_true rfl, Nat.le_of_ble_eq_true rfl⟩ (Nat.le_of_ble_eq_true rfl) dX12_price_1 (fun r2 M1 hw => ?_)
  refine x_if_eq (tgt := 31) C dX12_price_4 (by decide) (fun h3 => ?_) (fun h3 => ?_)
  · replace hw := hw.1 h3
    refine x_bipush (v := (-2 : Int32)) C dX12_price_31 (by decide) ?_
    exact n_ireturn C r dX12_price_33 hw
  · replace hw := hw.2 h3
    refine x_iload_n C dX12_price_7 rfl rfl ?_
    refine x_i2l C dX12_price_8 ?_
    refine x_lconst (v := (0 : Int64)) C dX12_price_9 (by decide) ?_
    refine x_ldc2_w (v := (7 : Int64)) C dX12_price_10 kc_X12_76 ?_
    refine n_callSI C (ok_X12_in  hw) ms_X12_70 rfl rfl ⟨Nat.le_of_ble_eq_true rfl, Nat.le_of_ble_eq_true rfl⟩ (Nat.le_of_ble_eq_true rfl) dX12_price_13 (fun r5 M4 hw => ?_)
    refine x_if_eq (tgt := 31) C dX12_price_16 (by decide) (fun h6 => ?_) (fun h6 => ?_)
    · replace hw := hw.1 h6
      refine x_bipush (v := (-2 : Int32)) C dX12_price_31 (by decide) ?_
      exact n_ireturn C r dX12_price_33 hw
    · replace hw := hw.2 h6
      refine x_iload_n C dX12_price_19 rfl rfl ?_
      refine x_i2l C dX12_price_20 ?_
      refine x_lconst (v := (0 : Int64)) C dX12_price_21 (by decide) ?_
      refine x_ldc2_w (v := (50 : Int64)) C dX12_price_22 kc_X12_103 ?_
      refine n_callSI C (ok_X12_in  hw) ms_X12_70 rfl rfl ⟨Nat.le_of_ble_eq_true rfl, Nat.le_of_ble_eq_true rfl⟩ (Nat.le_of_ble_eq_true rfl) dX12_price_25 (fun r8 M7 hw => ?_)
      refine x_if_ne (tgt := 34) C dX12_price_28 (by decide) (fun h9 => ?_) (fun h9 => ?_)
      · replace hw := hw.1 h9
        refine x_sipush (v := (1106 : Int32)) C dX12_price_34 (by decide) ?_
        refine x_bipush (v := (60 : Int32)) C dX12_price_37 (by decide) ?_
        refine x_iload_n C dX12_price_39 rfl rfl ?_
        refine x_imul C dX12_price_40 ?_
        refine x_iadd C dX12_price_41 ?_
        refine x_iload_n C dX12_price_42 rfl rfl ?_
        refine x_iadd C dX12_price_43 ?_
        obtain ⟨x10, ex10⟩ : ∃ z : Int32, z = (((1106 : Int32) + ((60 : Int32) * v1)) + v2) := ⟨_, rfl⟩
        replace hw := hw x10 ex10
        refine x_topi ex10 ?_
        refine x_istore C dX12_price_44 (Nat.le_of_ble_eq_true rfl) ?_
        refine x_aload_n C dX12_price_46 rfl rfl ?_
        refine n_getS (dd := 1) C fl_X12_7 s135 (fun _ _ => rfl) rfl dX12_price_47 ?_
        refine x_iload C dX12_price_50 rfl ?_
        obtain ⟨h11, hw⟩ := hw
        refine a_iald C s136 ln136 h11 dX12_price_52 ?_
        obtain ⟨x12, ex12⟩ : ∃ z : Int32, z = (M7.1 136 (x10).toNatClampNeg) := ⟨_, rfl⟩
        replace hw := hw x12 ex12
        refine x_topi ex12 ?_
        refine x_istore C dX12_price_53 (Nat.le_of_ble_eq_true rfl) ?_
        refine x_aload_n C dX12_price_55 rfl rfl ?_
        refine n_getS (dd := 1) C fl_X12_7 s135 (fun _ _ => rfl) rfl dX12_price_56 ?_
        refine x_iload C dX12_price_59 rfl ?_
        refine x_iload_n C dX12_price_61 rfl rfl ?_
        obtain ⟨h13, hw⟩ := hw
        obtain ⟨M14, eM14⟩ : ∃ z : Mem, z = uI M7 136 (x10).toNatClampNeg v3 := ⟨_, rfl⟩
        replace hw := hw M14 eM14
        refine a_iast C s136 ln136 rfl h13 eM14 dX12_price_62 ?_
        refine x_iload C dX12_price_63 rfl ?_
        exact n_ireturn C r dX12_price_65 hw
      · replace hw := hw.2 h9
        refine x_bipush (v := (-2 : Int32)) C dX12_price_31 (by decide) ?_
        exact n_ireturn C r dX12_price_33 hw

def w_X12_cache_b115 (v2 : Int32) (v3 : Int32) (v4 : Int32) (v5 : Int32) (M : Mem) (q : Int32 → Mem → Prop) : Prop := vp_in (v5 + (8 : Int32)) 4230 ∧ ∀ M2 : Mem, M2 = uI M 136 ((v5 + (8 : Int32))).toNatClampNeg v2 → vp_in (v5 + (9 : Int32)) 4230 ∧ ∀ M4 : Mem, M4 = uI M2 136 ((v5 + (9 : Int32))).toNatClampNeg v3 → vp_in (v5 + (10 : Int32)) 4230 ∧ ∀ M6 : Mem, M6 = uI M4 136 ((v5 + (10 : Int32))).toNatClampNeg v4 → q (1 : Int32) M6
set_option maxRecDepth 100000 in
set_option maxHeartbeats 4000000 in
theorem ok_X12_cache_b115 {c : CtxT} {g : Gl} {l : Launch} {v2 : Int32} {v3 : Int32} {v4 : Int32} {v5 : Int32} {q : Int32 → Mem → Prop} {M : Mem} (C : Cx c cX12_cache 7 RX12 g l (Rm 3 45)) (r : Rt c (some .int) (pI q) 0 0) (hw : w_X12_cache_b115 v2 v3 v4 v5 M q ) : X c S0 115 [(0, .ref (g.2.2.2 + 135)), (2, .int v2), (3, .int v3), (4, .int v4), (5, .int v5)] [] (stat M) := by
  unfold w_X12_cache_b115 at hw
  refine x_aload_n C dX12_cache_115 rfl rfl ?_
  refine n_getS (dd := 1) C fl_X12_7 s135 (fun _ _ => rfl) rfl dX12_cache_116 ?_
  refine x_iload C dX12_cache_119 rfl ?_
  refine x_bipush (v := (8 : Int32)) C dX12_cache_121 (by decide) ?_
  refine x_iadd C dX12_cache_123 ?_
  refine x_iload_n C dX12_cache_124 rfl rfl ?_
  obtain ⟨h1, hw⟩ := hw
  obtain ⟨M2, eM2⟩ : ∃ z : Mem, z = uI M 136 ((v5 + (8 : Int32))).toNatClampNeg v2 := ⟨_, rfl⟩
  replace hw := hw M2 eM2
  refine a_iast C s136 ln136 rfl h1 eM2 dX12_cache_125 ?_
  refine x_aload_n C dX12_cache_126 rfl rfl ?_
  refine n_getS (dd := 1) C fl_X12_7 s135 (fun _ _ => rfl) rfl dX12_cache_127 ?_
  refine x_iload C dX12_cache_130 rfl ?_
  refine x_bipush (v := (9 : Int32)) C dX12_cache_132 (by decide) ?_
  refine x_iadd C dX12_cache_134 ?_
  refine x_iload_n C dX12_cache_135 rfl rfl ?_
  obtain ⟨h3, hw⟩ := hw
  obtain ⟨M4, eM4⟩ : ∃ z : Mem, z = uI M2 136 ((v5 + (9 : Int32))).toNatClampNeg v3 := ⟨_, rfl⟩
  replace hw := hw M4 eM4
  refine a_iast C s136 ln136 rfl h3 eM4 dX12_cache_136 ?_
  refine x_aload_n C dX12_cache_137 rfl rfl ?_
  refine n_getS (dd := 1) C fl_X12_7 s135 (fun _ _ => rfl) rfl dX12_cache_138 ?_
  refine x_iload C dX12_cache_141 rfl ?_
  refine x_bipush (v := (10 : Int32)) C dX12_cache_143 (by decide) ?_
  refine x_iadd C dX12_cache_145 ?_
  refine x_iload C dX12_cache_146 rfl ?_
  obtain ⟨h5, hw⟩ := hw
  obtain ⟨M6, eM6⟩ : ∃ z : Mem, z = uI M4 136 ((v5 + (10 : Int32))).toNatClampNeg v4 := ⟨_, rfl⟩
  replace hw := hw M6 eM6
  refine a_iast C s136 ln136 rfl h5 eM6 dX12_cache_148 ?_
  refine x_iconst (v := (1 : Int32)) C dX12_cache_149 (by decide) ?_
  exact n_ireturn C r dX12_cache_150 hw
def w_X12_cache_l88F (v2 : Int32) (v3 : Int32) (v4 : Int32) (v5 : Int32) (q : Int32 → Mem → Prop) (P88 : Int32 × Mem → Prop) (s : Int32 × Mem) : Prop := match s with
  | (v6, M) => (((16 : Int32) ≤ v6 → w_X12_cache_b115 v2 v3 v4 v5 M q) ∧ (¬ (16 : Int32) ≤ v6 → vp_in ((v5 + (20 : Int32)) + v6) 4230 ∧ ∀ M9 : Mem, M9 = uI M 136 (((v5 + (20 : Int32)) + v6)).toNatClampNeg (-1 : Int32) → ∀ x10 : Int32, x10 = v6 + (1 : Int32) → P88 (x10, M9)))
def w_X12_cache_l88 (v2 : Int32) (v3 : Int32) (v4 : Int32) (v5 : Int32) (q : Int32 → Mem → Prop) (s : Int32 × Mem) : Prop := lfp (w_X12_cache_l88F v2 v3 v4 v5 q ) s
set_option maxRecDepth 100000 in
set_option maxHeartbeats 4000000 in
theorem ok_X12_cache_l88 {c : CtxT} {g : Gl} {l : Launch} {v2 : Int32} {v3 : Int32} {v4 : Int32} {v5 : Int32} {q : Int32 → Mem → Prop} {s : Int32 × Mem} (C : Cx c cX12_cache 7 RX12 g l (Rm 3 45)) (r : Rt c (some .int) (pI q) 0 0) (hw : w_X12_cache_l88 v2 v3 v4 v5 q s) : X c S0 88 [(0, .ref (g.2.2.2 + 135)), (2, .int v2), (3, .int v3), (4, .int v4), (5, .int v5), (6, .int s.1)] [] (stat s.2) := hw (fun s => X c S0 88 [(0, .ref (g.2.2.2 + 135)), (2, .int v2), (3, .int v3), (4, .int v4), (5, .int v5), (6, .int s.1)] [] (stat s.2)) (fun s hw => by
    obtain ⟨v6, M⟩ := s
    try dsimp only [w_X12_cache_l88F] at hw
    try dsimp only
    refine x_iload C dX12_cache_88 rfl ?_
    refine x_bipush (v := (16 : Int32)) C dX12_cache_90 (by decide) ?_
    refine x_icmp_ge (tgt := 115) C dX12_cache_92 (by decide) (fun h7 => ?_) (fun h7 => ?_)
    · replace hw := hw.1 h7
      exact x_sub [0, 2, 3, 4, 5] rfl (ok_X12_cache_b115 C r  hw)
    · replace hw := hw.2 h7
      refine x_aload_n C dX12_cache_95 rfl rfl ?_
      refine n_getS (dd := 1) C fl_X12_7 s135 (fun _ _ => rfl) rfl dX12_cache_96 ?_
      refine x_iload C dX12_cache_99 rfl ?_
      refine x_bipush (v := (20 : Int32)) C dX12_cache_101 (by decide) ?_
      refine x_iadd C dX12_cache_103 ?_
      refine x_iload C dX12_cache_104 rfl ?_
      refine x_iadd C dX12_cache_106 ?_
      refine x_iconst (v := (-1 : Int32)) C dX12_cache_107 (by decide) ?_
      obtain ⟨h8, hw⟩ := hw
      obtain ⟨M9, eM9⟩ : ∃ z : Mem, z = uI M 136 (((v5 + (20 : Int32)) + v6)).toNatClampNeg (-1 : Int32) := ⟨_, rfl⟩
      replace hw := hw M9 eM9
      refine a_iast C s136 ln136 rfl h8 eM9 dX12_cache_108 ?_
      obtain ⟨x10, ex10⟩ : ∃ z : Int32, z = v6 + (1 : Int32) := ⟨_, rfl⟩
      replace hw := hw x10 ex10
      refine x_iinc (v := x10) C dX12_cache_109 rfl ex10.symm (Nat.le_of_ble_eq_true rfl) ?_
      refine x_goto (tgt := 88) C dX12_cache_112 (by decide) ?_
      exact x_sub [0, 2, 3, 4, 5, 6] rfl hw)
def w_X12_cache_b85 (v2 : Int32) (v3 : Int32) (v4 : Int32) (v5 : Int32) (M : Mem) (q : Int32 → Mem → Prop) : Prop := w_X12_cache_l88 v2 v3 v4 v5 q ((0 : Int32), M)
set_option maxRecDepth 100000 in
set_option maxHeartbeats 4000000 in
theorem ok_X12_cache_b85 {c : CtxT} {g : Gl} {l : Launch} {v2 : Int32} {v3 : Int32} {v4 : Int32} {v5 : Int32} {q : Int32 → Mem → Prop} {M : Mem} (C : Cx c cX12_cache 7 RX12 g l (Rm 3 45)) (r : Rt c (some .int) (pI q) 0 0) (hw : w_X12_cache_b85 v2 v3 v4 v5 M q ) : X c S0 85 [(0, .ref (g.2.2.2 + 135)), (2, .int v2), (3, .int v3), (4, .int v4), (5, .int v5)] [] (stat M) := by
  unfold w_X12_cache_b85 at hw
  refine x_iconst (v := (0 : Int32)) C dX12_cache_85 (by decide) ?_
  refine x_istore C dX12_cache_86 (Nat.le_of_ble_eq_true rfl) ?_
  exact x_sub [0, 2, 3, 4, 5, 6] rfl (ok_X12_cache_l88 C r  hw)
def w_X12_cache (v1 : Int32) (v2 : Int32) (v3 : Int32) (v4 : Int32) (M : Mem) (q : Int32 → Mem → Prop) : Prop := w_X12_isMachine v1 M (fun (r12 : Int32) (M11 : Mem) => ((r12 = 0 → q (-2 : Int32) M11) ∧ (¬ r12 = 0 → w_X12_in (v2).toInt64 (1 : Int64) (16 : Int64) M11 (fun (r15 : Int32) (M14 : Mem) => ((r15 = 0 → q (-2 : Int32) M14) ∧ (¬ r15 = 0 → w_X12_in (v3).toInt64 (1 : Int64) (8 : Int64) M14 (fun (r18 : Int32) (M17 : Mem) => ((r18 = 0 → q (-2 : Int32) M17) ∧ (¬ r18 = 0 → w_X12_in (v4).toInt64 (0 : Int64) (200 : Int64) M17 (fun (r21 : Int32) (M20 : Mem) => ((¬ r21 = 0 → ∀ x23 : Int32, x23 = ((1106 : Int32) + ((60 : Int32) * v1)) → vp_in (x23 + (8 : Int32)) 4230 ∧ ((¬ (M20.1 136 ((x23 + (8 : Int32))).toNatClampNeg) = v2 → w_X12_cache_b85 v2 v3 v4 x23 M20 q) ∧ ((M20.1 136 ((x23 + (8 : Int32))).toNatClampNeg) = v2 → vp_in (x23 + (9 : Int32)) 4230 ∧ (((M20.1 136 ((x23 + (9 : Int32))).toNatClampNeg) = v3 → w_X12_cache_b115 v2 v3 v4 x23 M20 q) ∧ (¬ (M20.1 136 ((x23 + (9 : Int32))).toNatClampNeg) = v3 → w_X12_cache_b85 v2 v3 v4 x23 M20 q))))) ∧ (r21 = 0 → q (-2 : Int32) M20))))))))))))
set_option maxRecDepth 100000 in
set_option maxHeartbeats 4000000 in
theorem ok_X12_cache {g : Gl} {l : Launch} {v1 : Int32} {v2 : Int32} {v3 : Int32} {v4 : Int32} {M : Mem} {q : Int32 → Mem → Prop} (hw : w_X12_cache v1 v2 v3 v4 M q) : CtI g l yX12_cache cX12_cache 7 (some .int) 3 45 [.ref (g.2.2.2 + 135), .int v1, .int v2, .int v3, .int v4] M q := by
  refine n_introI (by decide +kernel) (Nat.le_of_ble_eq_true rfl) (fun c C r => ?_)
  have C : Cx c cX12_cache 7 RX12 g l (Rm 3 45) := C
  refine x_sub [0, 1, 2, 3, 4] (lv' := [(0, .ref (g.2.2.2 + 135)), (1, .int v1), (2, .int v2), (3, .int v3), (4, .int v4)]) rfl ?_
  unfold w_X12_cache at hw
  refine x_iload_n C dX12_cache_0 rfl rfl ?_
  refine n_callSI C (ok_X12_isMachine  hw) ms_X12_100 rfl rfl ⟨Nat.le_of_ble_eq_true rfl, Nat.le_of_ble_eq_true rfl⟩ (Nat.le_of_ble_eq_true rfl) dX12_cache_1 (fun r12 M11 hw => ?_)
  refine x_if_eq (tgt := 44) C dX12_cache_4 (by decide) (fun h13 => ?_) (fun h13 => ?_)
  · replace hw := hw.1 h13
    refine x_bipush (v := (-2 : Int32)) C dX12_cache_44 (by decide) ?_
    exact n_ireturn C r dX12_cache_46 hw
  · replace hw := hw.2 h13
    refine x_iload_n C dX12_cache_7 rfl rfl ?_
    refine x_i2l C dX12_cache_8 ?_
    refine x_lconst (v := (1 : Int64)) C dX12_cache_9 (by decide) ?_
    refine x_ldc2_w (v := (16 : Int64)) C dX12_cache_10 kc_X12_105 ?_
    refine n_callSI C (ok_X12_in  hw) ms_X12_70 rfl rfl ⟨Nat.le_of_ble_eq_true rfl, Nat.le_of_ble_eq_true rfl⟩ (Nat.le_of_ble_eq_true rfl) dX12_cache_13 (fun r15 M14 hw => ?_)
    refine x_if_eq (tgt := 44) C dX12_cache_16 (by decide) (fun h16 => ?_) (fun h16 => ?_)
    · replace hw := hw.1 h16
      refine x_bipush (v := (-2 : Int32)) C dX12_cache_44 (by decide) ?_
      exact n_ireturn C r dX12_cache_46 hw
    · replace hw := hw.2 h16
      refine x_iload_n C dX12_cache_19 rfl rfl ?_
      refine x_i2l C dX12_cache_20 ?_
      refine x_lconst (v := (1 : Int64)) C dX12_cache_21 (by decide) ?_
      refine x_ldc2_w (v := (8 : Int64)) C dX12_cache_22 kc_X12_107 ?_
      refine n_callSI C (ok_X12_in  hw) ms_X12_70 rfl rfl ⟨Nat.le_of_ble_eq_true rfl, Nat.le_of_ble_eq_true rfl⟩ (Nat.le_of_ble_eq_true rfl) dX12_cache_25 (fun r18 M17 hw => ?_)
      refine x_if_eq (tgt := 44) C dX12_cache_28 (by decide) (fun h19 => ?_) (fun h19 => ?_)
      · replace hw := hw.1 h19
        refine x_bipush (v := (-2 : Int32)) C dX12_cache_44 (by decide) ?_
        exact n_ireturn C r dX12_cache_46 hw
      · replace hw := hw.2 h19
        refine x_iload C dX12_cache_31 rfl ?_
        refine x_i2l C dX12_cache_33 ?_
        refine x_lconst (v := (0 : Int64)) C dX12_cache_34 (by decide) ?_
        refine x_ldc2_w (v := (200 : Int64)) C dX12_cache_35 kc_X12_109 ?_
        refine n_callSI C (ok_X12_in  hw) ms_X12_70 rfl rfl ⟨Nat.le_of_ble_eq_true rfl, Nat.le_of_ble_eq_true rfl⟩ (Nat.le_of_ble_eq_true rfl) dX12_cache_38 (fun r21 M20 hw => ?_)
        refine x_if_ne (tgt := 47) C dX12_cache_41 (by decide) (fun h22 => ?_) (fun h22 => ?_)
        · replace hw := hw.1 h22
          refine x_sipush (v := (1106 : Int32)) C dX12_cache_47 (by decide) ?_
          refine x_bipush (v := (60 : Int32)) C dX12_cache_50 (by decide) ?_
          refine x_iload_n C dX12_cache_52 rfl rfl ?_
          refine x_imul C dX12_cache_53 ?_
          refine x_iadd C dX12_cache_54 ?_
          obtain ⟨x23, ex23⟩ : ∃ z : Int32, z = ((1106 : Int32) + ((60 : Int32) * v1)) := ⟨_, rfl⟩
          replace hw := hw x23 ex23
          refine x_topi ex23 ?_
          refine x_istore C dX12_cache_55 (Nat.le_of_ble_eq_true rfl) ?_
          refine x_aload_n C dX12_cache_57 rfl rfl ?_
          refine n_getS (dd := 1) C fl_X12_7 s135 (fun _ _ => rfl) rfl dX12_cache_58 ?_
          refine x_iload C dX12_cache_61 rfl ?_
          refine x_bipush (v := (8 : Int32)) C dX12_cache_63 (by decide) ?_
          refine x_iadd C dX12_cache_65 ?_
          obtain ⟨h24, hw⟩ := hw
          refine a_iald C s136 ln136 h24 dX12_cache_66 ?_
          refine x_iload_n C dX12_cache_67 rfl rfl ?_
          refine x_icmp_ne (tgt := 85) C dX12_cache_68 (by decide) (fun h25 => ?_) (fun h25 => ?_)
          · replace hw := hw.1 h25
            exact x_sub [0, 2, 3, 4, 5] rfl (ok_X12_cache_b85 C r  hw)
          · replace hw := hw.2 h25
            refine x_aload_n C dX12_cache_71 rfl rfl ?_
            refine n_getS (dd := 1) C fl_X12_7 s135 (fun _ _ => rfl) rfl dX12_cache_72 ?_
            refine x_iload C dX12_cache_75 rfl ?_
            refine x_bipush (v := (9 : Int32)) C dX12_cache_77 (by decide) ?_
            refine x_iadd C dX12_cache_79 ?_
            obtain ⟨h26, hw⟩ := hw
            refine a_iald C s136 ln136 h26 dX12_cache_80 ?_
            refine x_iload_n C dX12_cache_81 rfl rfl ?_
            refine x_icmp_eq (tgt := 115) C dX12_cache_82 (by decide) (fun h27 => ?_) (fun h27 => ?_)
            · replace hw := hw.1 h27
              exact x_sub [0, 2, 3, 4, 5] rfl (ok_X12_cache_b115 C r  hw)
            · replace hw := hw.2 h27
              exact x_sub [0, 2, 3, 4, 5] rfl (ok_X12_cache_b85 C r  hw)
        · replace hw := hw.2 h22
          refine x_bipush (v := (-2 : Int32)) C dX12_cache_44 (by decide) ?_
          exact n_ireturn C r dX12_cache_46 hw

def w_X12_guess_b88 (v2 : Int32) (v3 : Int32) (v4 : Int32) (M : Mem) (q : Int32 → Mem → Prop) : Prop := vp_in (v4 + (11 : Int32)) 4230 ∧ ∀ M2 : Mem, M2 = uI M 136 ((v4 + (11 : Int32))).toNatClampNeg v2 → vp_in (v4 + (12 : Int32)) 4230 ∧ ∀ M4 : Mem, M4 = uI M2 136 ((v4 + (12 : Int32))).toNatClampNeg v3 → q (1 : Int32) M4
set_option maxRecDepth 100000 in
set_option maxHeartbeats 4000000 in
theorem ok_X12_guess_b88 {c : CtxT} {g : Gl} {l : Launch} {v2 : Int32} {v3 : Int32} {v4 : Int32} {q : Int32 → Mem → Prop} {M : Mem} (C : Cx c cX12_guess 6 RX12 g l (Rm 3 45)) (r : Rt c (some .int) (pI q) 0 0) (hw : w_X12_guess_b88 v2 v3 v4 M q ) : X c S0 88 [(0, .ref (g.2.2.2 + 135)), (2, .int v2), (3, .int v3), (4, .int v4)] [] (stat M) := by
  unfold w_X12_guess_b88 at hw
  refine x_aload_n C dX12_guess_88 rfl rfl ?_
  refine n_getS (dd := 1) C fl_X12_7 s135 (fun _ _ => rfl) rfl dX12_guess_89 ?_
  refine x_iload C dX12_guess_92 rfl ?_
  refine x_bipush (v := (11 : Int32)) C dX12_guess_94 (by decide) ?_
  refine x_iadd C dX12_guess_96 ?_
  refine x_iload_n C dX12_guess_97 rfl rfl ?_
  obtain ⟨h1, hw⟩ := hw
  obtain ⟨M2, eM2⟩ : ∃ z : Mem, z = uI M 136 ((v4 + (11 : Int32))).toNatClampNeg v2 := ⟨_, rfl⟩
  replace hw := hw M2 eM2
  refine a_iast C s136 ln136 rfl h1 eM2 dX12_guess_98 ?_
  refine x_aload_n C dX12_guess_99 rfl rfl ?_
  refine n_getS (dd := 1) C fl_X12_7 s135 (fun _ _ => rfl) rfl dX12_guess_100 ?_
  refine x_iload C dX12_guess_103 rfl ?_
  refine x_bipush (v := (12 : Int32)) C dX12_guess_105 (by decide) ?_
  refine x_iadd C dX12_guess_107 ?_
  refine x_iload_n C dX12_guess_108 rfl rfl ?_
  obtain ⟨h3, hw⟩ := hw
  obtain ⟨M4, eM4⟩ : ∃ z : Mem, z = uI M2 136 ((v4 + (12 : Int32))).toNatClampNeg v3 := ⟨_, rfl⟩
  replace hw := hw M4 eM4
  refine a_iast C s136 ln136 rfl h3 eM4 dX12_guess_109 ?_
  refine x_iconst (v := (1 : Int32)) C dX12_guess_110 (by decide) ?_
  exact n_ireturn C r dX12_guess_111 hw
def w_X12_guess_l61F (v2 : Int32) (v3 : Int32) (v4 : Int32) (q : Int32 → Mem → Prop) (P61 : Int32 × Mem → Prop) (s : Int32 × Mem) : Prop := match s with
  | (v5, M) => (((16 : Int32) ≤ v5 → w_X12_guess_b88 v2 v3 v4 M q) ∧ (¬ (16 : Int32) ≤ v5 → vp_in ((v4 + (36 : Int32)) + v5) 4230 ∧ ∀ M7 : Mem, M7 = uI M 136 (((v4 + (36 : Int32)) + v5)).toNatClampNeg (0 : Int32) → ∀ x8 : Int32, x8 = v5 + (1 : Int32) → P61 (x8, M7)))
def w_X12_guess_l61 (v2 : Int32) (v3 : Int32) (v4 : Int32) (q : Int32 → Mem → Prop) (s : Int32 × Mem) : Prop := lfp (w_X12_guess_l61F v2 v3 v4 q ) s
set_option maxRecDepth 100000 in
set_option maxHeartbeats 4000000 in
theorem ok_X12_guess_l61 {c : CtxT} {g : Gl} {l : Launch} {v2 : Int32} {v3 : Int32} {v4 : Int32} {q : Int32 → Mem → Prop} {s : Int32 × Mem} (C : Cx c cX12_guess 6 RX12 g l (Rm 3 45)) (r : Rt c (some .int) (pI q) 0 0) (hw : w_X12_guess_l61 v2 v3 v4 q s) : X c S0 61 [(0, .ref (g.2.2.2 + 135)), (2, .int v2), (3, .int v3), (4, .int v4), (5, .int s.1)] [] (stat s.2) := hw (fun s => X c S0 61 [(0, .ref (g.2.2.2 + 135)), (2, .int v2), (3, .int v3), (4, .int v4), (5, .int s.1)] [] (stat s.2)) (fun s hw => by
    obtain ⟨v5, M⟩ := s
    try dsimp only [w_X12_guess_l61F] at hw
    try dsimp only
    refine x_iload C dX12_guess_61 rfl ?_
    refine x_bipush (v := (16 : Int32)) C dX12_guess_63 (by decide) ?_
    refine x_icmp_ge (tgt := 88) C dX12_guess_65 (by decide) (fun h5 => ?_) (fun h5 => ?_)
    · replace hw := hw.1 h5
      exact x_sub [0, 2, 3, 4] rfl (ok_X12_guess_b88 C r  hw)
    · replace hw := hw.2 h5
      refine x_aload_n C dX12_guess_68 rfl rfl ?_
      refine n_getS (dd := 1) C fl_X12_7 s135 (fun _ _ => rfl) rfl dX12_guess_69 ?_
      refine x_iload C dX12_guess_72 rfl ?_
      refine x_bipush (v := (36 : Int32)) C dX12_guess_74 (by decide) ?_
      refine x_iadd C dX12_guess_76 ?_
      refine x_iload C dX12_guess_77 rfl ?_
      refine x_iadd C dX12_guess_79 ?_
      refine x_iconst (v := (0 : Int32)) C dX12_guess_80 (by decide) ?_
      obtain ⟨h6, hw⟩ := hw
      obtain ⟨M7, eM7⟩ : ∃ z : Mem, z = uI M 136 (((v4 + (36 : Int32)) + v5)).toNatClampNeg (0 : Int32) := ⟨_, rfl⟩
      replace hw := hw M7 eM7
      refine a_iast C s136 ln136 rfl h6 eM7 dX12_guess_81 ?_
      obtain ⟨x8, ex8⟩ : ∃ z : Int32, z = v5 + (1 : Int32) := ⟨_, rfl⟩
      replace hw := hw x8 ex8
      refine x_iinc (v := x8) C dX12_guess_82 rfl ex8.symm (Nat.le_of_ble_eq_true rfl) ?_
      refine x_goto (tgt := 61) C dX12_guess_85 (by decide) ?_
      exact x_sub [0, 2, 3, 4, 5] rfl hw)
def w_X12_guess (v1 : Int32) (v2 : Int32) (v3 : Int32) (M : Mem) (q : Int32 → Mem → Prop) : Prop := w_X12_isMachine v1 M (fun (r10 : Int32) (M9 : Mem) => ((r10 = 0 → q (-2 : Int32) M9) ∧ (¬ r10 = 0 → w_X12_in (v2).toInt64 (1 : Int64) (16 : Int64) M9 (fun (r13 : Int32) (M12 : Mem) => ((r13 = 0 → q (-2 : Int32) M12) ∧ (¬ r13 = 0 → w_X12_in (v3).toInt64 (0 : Int64) (100 : Int64) M12 (fun (r16 : Int32) (M15 : Mem) => ((¬ r16 = 0 → ∀ x18 : Int32, x18 = ((1106 : Int32) + ((60 : Int32) * v1)) → vp_in (x18 + (11 : Int32)) 4230 ∧ (((M15.1 136 ((x18 + (11 : Int32))).toNatClampNeg) = v2 → w_X12_guess_b88 v2 v3 x18 M15 q) ∧ (¬ (M15.1 136 ((x18 + (11 : Int32))).toNatClampNeg) = v2 → w_X12_guess_l61 v2 v3 x18 q ((0 : Int32), M15)))) ∧ (r16 = 0 → q (-2 : Int32) M15)))))))))
set_option maxRecDepth 100000 in
set_option maxHeartbeats 4000000 in
theorem ok_X12_guess {g : Gl} {l : Launch} {v1 : Int32} {v2 : Int32} {v3 : Int32} {M : Mem} {q : Int32 → Mem → Prop} (hw : w_X12_guess v1 v2 v3 M q) : CtI g l yX12_guess cX12_guess 6 (some .int) 3 45 [.ref (g.2.2.2 + 135), .int v1, .int v2, .int v3] M q := by
  refine n_introI (by decide +kernel) (Nat.le_of_ble_eq_true rfl) (fun c C r => ?_)
  have C : Cx c cX12_guess 6 RX12 g l (Rm 3 45) := C
  refine x_sub [0, 1, 2, 3] (lv' := [(0, .ref (g.2.2.2 + 135)), (1, .int v1), (2, .int v2), (3, .int v3)]) rfl ?_
  unfold w_X12_guess at hw
  refine x_iload_n C dX12_guess_0 rfl rfl ?_
  refine n_callSI C (ok_X12_isMachine  hw) ms_X12_100 rfl rfl ⟨Nat.le_of_ble_eq_true rfl, Nat.le_of_ble_eq_true rfl⟩ (Nat.le_of_ble_eq_true rfl) dX12_guess_1 (fun r10 M9 hw => ?_)
  refine x_if_eq (tgt := 31) C dX12_guess_4 (by decide) (fun h11 => ?_) (fun h11 => ?_)
  · replace hw := hw.1 h11
    refine x_bipush (v := (-2 : Int32)) C dX12_guess_31 (by decide) ?_
    exact n_ireturn C r dX12_guess_33 hw
  · replace hw := hw.2 h11
    refine x_iload_n C dX12_guess_7 rfl rfl ?_
    refine x_i2l C dX12_guess_8 ?_
    refine x_lconst (v := (1 : Int64)) C dX12_guess_9 (by decide) ?_
    refine x_ldc2_w (v := (16 : Int64)) C dX12_guess_10 kc_X12_105 ?_
    refine n_callSI C (ok_X12_in  hw) ms_X12_70 rfl rfl ⟨Nat.le_of_ble_eq_true rfl, Nat.le_of_ble_eq_true rfl⟩ (Nat.le_of_ble_eq_true rfl) dX12_guess_13 (fun r13 M12 hw => ?_)
    refine x_if_eq (tgt := 31) C dX12_guess_16 (by decide) (fun h14 => ?_) (fun h14 => ?_)
    · replace hw := hw.1 h14
      refine x_bipush (v := (-2 : Int32)) C dX12_guess_31 (by decide) ?_
      exact n_ireturn C r dX12_guess_33 hw
    · replace hw := hw.2 h14
      refine x_iload_n C dX12_guess_19 rfl rfl ?_
      refine x_i2l C dX12_guess_20 ?_
      refine x_lconst (v := (0 : Int64)) C dX12_guess_21 (by decide) ?_
      refine x_ldc2_w (v := (100 : Int64)) C dX12_guess_22 kc_X12_111 ?_
      refine n_callSI C (ok_X12_in  hw) ms_X12_70 rfl rfl ⟨Nat.le_of_ble_eq_true rfl, Nat.le_of_ble_eq_true rfl⟩ (Nat.le_of_ble_eq_true rfl) dX12_guess_25 (fun r16 M15 hw => ?_)
      refine x_if_ne (tgt := 34) C dX12_guess_28 (by decide) (fun h17 => ?_) (fun h17 => ?_)
      · replace hw := hw.1 h17
        refine x_sipush (v := (1106 : Int32)) C dX12_guess_34 (by decide) ?_
        refine x_bipush (v := (60 : Int32)) C dX12_guess_37 (by decide) ?_
        refine x_iload_n C dX12_guess_39 rfl rfl ?_
        refine x_imul C dX12_guess_40 ?_
        refine x_iadd C dX12_guess_41 ?_
        obtain ⟨x18, ex18⟩ : ∃ z : Int32, z = ((1106 : Int32) + ((60 : Int32) * v1)) := ⟨_, rfl⟩
        replace hw := hw x18 ex18
        refine x_topi ex18 ?_
        refine x_istore C dX12_guess_42 (Nat.le_of_ble_eq_true rfl) ?_
        refine x_aload_n C dX12_guess_44 rfl rfl ?_
        refine n_getS (dd := 1) C fl_X12_7 s135 (fun _ _ => rfl) rfl dX12_guess_45 ?_
        refine x_iload C dX12_guess_48 rfl ?_
        refine x_bipush (v := (11 : Int32)) C dX12_guess_50 (by decide) ?_
        refine x_iadd C dX12_guess_52 ?_
        obtain ⟨h19, hw⟩ := hw
        refine a_iald C s136 ln136 h19 dX12_guess_53 ?_
        refine x_iload_n C dX12_guess_54 rfl rfl ?_
        refine x_icmp_eq (tgt := 88) C dX12_guess_55 (by decide) (fun h20 => ?_) (fun h20 => ?_)
        · replace hw := hw.1 h20
          exact x_sub [0, 2, 3, 4] rfl (ok_X12_guess_b88 C r  hw)
        · replace hw := hw.2 h20
          refine x_iconst (v := (0 : Int32)) C dX12_guess_58 (by decide) ?_
          refine x_istore C dX12_guess_59 (Nat.le_of_ble_eq_true rfl) ?_
          exact x_sub [0, 2, 3, 4, 5] rfl (ok_X12_guess_l61 C r  hw)
      · replace hw := hw.2 h17
        refine x_bipush (v := (-2 : Int32)) C dX12_guess_31 (by decide) ?_
        exact n_ireturn C r dX12_guess_33 hw

def w_X12_noise (v1 : Int32) (v2 : Int32) (v3 : Int32) (v4 : Int32) (v5 : Int32) (M : Mem) (q : Int32 → Mem → Prop) : Prop := w_X12_isMachine v1 M (fun (r2 : Int32) (M1 : Mem) => ((r2 = 0 → q (-2 : Int32) M1) ∧ (¬ r2 = 0 → w_X12_in (v2).toInt64 (0 : Int64) (20 : Int64) M1 (fun (r5 : Int32) (M4 : Mem) => ((r5 = 0 → q (-2 : Int32) M4) ∧ (¬ r5 = 0 → w_X12_in (v3).toInt64 (0 : Int64) (1000 : Int64) M4 (fun (r8 : Int32) (M7 : Mem) => ((r8 = 0 → q (-2 : Int32) M7) ∧ (¬ r8 = 0 → w_X12_in (v4).toInt64 (0 : Int64) (100 : Int64) M7 (fun (r11 : Int32) (M10 : Mem) => ((¬ r11 = 0 → ∀ x13 : Int32, x13 = ((1106 : Int32) + ((60 : Int32) * v1)) → vp_in (x13 + (13 : Int32)) 4230 ∧ ∀ M15 : Mem, M15 = uI M10 136 ((x13 + (13 : Int32))).toNatClampNeg v2 → vp_in (x13 + (14 : Int32)) 4230 ∧ ∀ M17 : Mem, M17 = uI M15 136 ((x13 + (14 : Int32))).toNatClampNeg v3 → vp_in (x13 + (15 : Int32)) 4230 ∧ ∀ M19 : Mem, M19 = uI M17 136 ((x13 + (15 : Int32))).toNatClampNeg v4 → ((v5 = 0 → vp_in (x13 + (16 : Int32)) 4230 ∧ ∀ M22 : Mem, M22 = uI M19 136 ((x13 + (16 : Int32))).toNatClampNeg (0 : Int32) → q (1 : Int32) M22) ∧ (¬ v5 = 0 → vp_in (x13 + (16 : Int32)) 4230 ∧ ∀ M24 : Mem, M24 = uI M19 136 ((x13 + (16 : Int32))).toNatClampNeg (1 : Int32) → q (1 : Int32) M24))) ∧ (r11 = 0 → q (-2 : Int32) M10))))))))))))
set_option maxRecDepth 100000 in
set_option maxHeartbeats 4000000 in
theorem ok_X12_noise {g : Gl} {l : Launch} {v1 : Int32} {v2 : Int32} {v3 : Int32} {v4 : Int32} {v5 : Int32} {M : Mem} {q : Int32 → Mem → Prop} (hw : w_X12_noise v1 v2 v3 v4 v5 M q) : CtI g l yX12_noise cX12_noise 7 (some .int) 3 45 [.ref (g.2.2.2 + 135), .int v1, .int v2, .int v3, .int v4, .int v5] M q := by
  refine n_introI (by decide +kernel) (Nat.le_of_ble_eq_true rfl) (fun c C r => ?_)
  have C : Cx c cX12_noise 7 RX12 g l (Rm 3 45) := C
  refine x_sub [0, 1, 2, 3, 4, 5] (lv' := [(0, .ref (g.2.2.2 + 135)), (1, .int v1), (2, .int v2), (3, .int v3), (4, .int v4), (5, .int v5)]) rfl ?_
  unfold w_X12_noise at hw
  refine x_iload_n C dX12_noise_0 rfl rfl ?_
  refine n_callSI C (ok_X12_isMachine  hw) ms_X12_100 rfl rfl ⟨Nat.le_of_ble_eq_true rfl, Nat.le_of_ble_eq_true rfl⟩ (Nat.le_of_ble_eq_true rfl) dX12_noise_1 (fun r2 M1 hw => ?_)
  refine x_if_eq (tgt := 44) C dX12_noise_4 (by decide) (fun h3 => ?_) (fun h3 => ?_)
  · replace hw := hw.1 h3
    refine x_bipush (v := (-2 : Int32)) C dX12_noise_44 (by decide) ?_
    exact n_ireturn C r dX12_noise_46 hw
  · replace hw := hw.2 h3
    refine x_iload_n C dX12_noise_7 rfl rfl ?_
    refine x_i2l C dX12_noise_8 ?_
    refine x_lconst (v := (0 : Int64)) C dX12_noise_9 (by decide) ?_
    refine x_ldc2_w (v := (20 : Int64)) C dX12_noise_10 kc_X12_113 ?_
    refine n_callSI C (ok_X12_in  hw) ms_X12_70 rfl rfl ⟨Nat.le_of_ble_eq_true rfl, Nat.le_of_ble_eq_true rfl⟩ (Nat.le_of_ble_eq_true rfl) dX12_noise_13 (fun r5 M4 hw => ?_)
    refine x_if_eq (tgt := 44) C dX12_noise_16 (by decide) (fun h6 => ?_) (fun h6 => ?_)
    · replace hw := hw.1 h6
      refine x_bipush (v := (-2 : Int32)) C dX12_noise_44 (by decide) ?_
      exact n_ireturn C r dX12_noise_46 hw
    · replace hw := hw.2 h6
      refine x_iload_n C dX12_noise_19 rfl rfl ?_
      refine x_i2l C dX12_noise_20 ?_
      refine x_lconst (v := (0 : Int64)) C dX12_noise_21 (by decide) ?_
      refine x_ldc2_w (v := (1000 : Int64)) C dX12_noise_22 kc_X12_80 ?_
      refine n_callSI C (ok_X12_in  hw) ms_X12_70 rfl rfl ⟨Nat.le_of_ble_eq_true rfl, Nat.le_of_ble_eq_true rfl⟩ (Nat.le_of_ble_eq_true rfl) dX12_noise_25 (fun r8 M7 hw => ?_)
      refine x_if_eq (tgt := 44) C dX12_noise_28 (by decide) (fun h9 => ?_) (fun h9 => ?_)
      · replace hw := hw.1 h9
        refine x_bipush (v := (-2 : Int32)) C dX12_noise_44 (by decide) ?_
        exact n_ireturn C r dX12_noise_46 hw
      · replace hw := hw.2 h9
        refine x_iload C dX12_noise_31 rfl ?_
        refine x_i2l C dX12_noise_33 ?_
        refine x_lconst (v := (0 : Int64)) C dX12_noise_34 (by decide) ?_
        refine x_ldc2_w (v := (100 : Int64)) C dX12_noise_35 kc_X12_111 ?_
        refine n_callSI C (ok_X12_in  hw) ms_X12_70 rfl rfl ⟨Nat.le_of_ble_eq_true rfl, Nat.le_of_ble_eq_true rfl⟩ (Nat.le_of_ble_eq_true rfl) dX12_noise_38 (fun r11 M10 hw => ?_)
        refine x_if_ne (tgt := 47) C dX12_noise_41 (by decide) (fun h12 => ?_) (fun h12 => ?_)
        · replace hw := hw.1 h12
          refine x_sipush (v := (1106 : Int32)) C dX12_noise_47 (by decide) ?_
          refine x_bipush (v := (60 : Int32)) C dX12_noise_50 (by decide) ?_
          refine x_iload_n C dX12_noise_52 rfl rfl ?_
          refine x_imul C dX12_noise_53 ?_
          refine x_iadd C dX12_noise_54 ?_
          obtain ⟨x13, ex13⟩ : ∃ z : Int32, z = ((1106 : Int32) + ((60 : Int32) * v1)) := ⟨_, rfl⟩
          replace hw := hw x13 ex13
          refine x_topi ex13 ?_
          refine x_istore C dX12_noise_55 (Nat.le_of_ble_eq_true rfl) ?_
          refine x_aload_n C dX12_noise_57 rfl rfl ?_
          refine n_getS (dd := 1) C fl_X12_7 s135 (fun _ _ => rfl) rfl dX12_noise_58 ?_
          refine x_iload C dX12_noise_61 rfl ?_
          refine x_bipush (v := (13 : Int32)) C dX12_noise_63 (by decide) ?_
          refine x_iadd C dX12_noise_65 ?_
          refine x_iload_n C dX12_noise_66 rfl rfl ?_
          obtain ⟨h14, hw⟩ := hw
          obtain ⟨M15, eM15⟩ : ∃ z : Mem, z = uI M10 136 ((x13 + (13 : Int32))).toNatClampNeg v2 := ⟨_, rfl⟩
          replace hw := hw M15 eM15
          refine a_iast C s136 ln136 rfl h14 eM15 dX12_noise_67 ?_
          refine x_aload_n C dX12_noise_68 rfl rfl ?_
          refine n_getS (dd := 1) C fl_X12_7 s135 (fun _ _ => rfl) rfl dX12_noise_69 ?_
          refine x_iload C dX12_noise_72 rfl ?_
          refine x_bipush (v := (14 : Int32)) C dX12_noise_74 (by decide) ?_
          refine x_iadd C dX12_noise_76 ?_
          refine x_iload_n C dX12_noise_77 rfl rfl ?_
          obtain ⟨h16, hw⟩ := hw
          obtain ⟨M17, eM17⟩ : ∃ z : Mem, z = uI M15 136 ((x13 + (14 : Int32))).toNatClampNeg v3 := ⟨_, rfl⟩
          replace hw := hw M17 eM17
          refine a_iast C s136 ln136 rfl h16 eM17 dX12_noise_78 ?_
          refine x_aload_n C dX12_noise_79 rfl rfl ?_
          refine n_getS (dd := 1) C fl_X12_7 s135 (fun _ _ => rfl) rfl dX12_noise_80 ?_
          refine x_iload C dX12_noise_83 rfl ?_
          refine x_bipush (v := (15 : Int32)) C dX12_noise_85 (by decide) ?_
          refine x_iadd C dX12_noise_87 ?_
          refine x_iload C dX12_noise_88 rfl ?_
          obtain ⟨h18, hw⟩ := hw
          obtain ⟨M19, eM19⟩ : ∃ z : Mem, z = uI M17 136 ((x13 + (15 : Int32))).toNatClampNeg v4 := ⟨_, rfl⟩
          replace hw := hw M19 eM19
          refine a_iast C s136 ln136 rfl h18 eM19 dX12_noise_90 ?_
          refine x_aload_n C dX12_noise_91 rfl rfl ?_
          refine n_getS (dd := 1) C fl_X12_7 s135 (fun _ _ => rfl) rfl dX12_noise_92 ?_
          refine x_iload C dX12_noise_95 rfl ?_
          refine x_bipush (v := (16 : Int32)) C dX12_noise_97 (by decide) ?_
          refine x_iadd C dX12_noise_99 ?_
          refine x_iload C dX12_noise_100 rfl ?_
          refine x_if_eq (tgt := 109) C dX12_noise_102 (by decide) (fun h20 => ?_) (fun h20 => ?_)
          · replace hw := hw.1 h20
            refine x_iconst (v := (0 : Int32)) C dX12_noise_109 (by decide) ?_
            obtain ⟨h21, hw⟩ := hw
            obtain ⟨M22, eM22⟩ : ∃ z : Mem, z = uI M19 136 ((x13 + (16 : Int32))).toNatClampNeg (0 : Int32) := ⟨_, rfl⟩
            replace hw := hw M22 eM22
            refine a_iast C s136 ln136 rfl h21 eM22 dX12_noise_110 ?_
            refine x_iconst (v := (1 : Int32)) C dX12_noise_111 (by decide) ?_
            exact n_ireturn C r dX12_noise_112 hw
          · replace hw := hw.2 h20
            refine x_iconst (v := (1 : Int32)) C dX12_noise_105 (by decide) ?_
            refine x_goto (tgt := 110) C dX12_noise_106 (by decide) ?_
            obtain ⟨h23, hw⟩ := hw
            obtain ⟨M24, eM24⟩ : ∃ z : Mem, z = uI M19 136 ((x13 + (16 : Int32))).toNatClampNeg (1 : Int32) := ⟨_, rfl⟩
            replace hw := hw M24 eM24
            refine a_iast C s136 ln136 rfl h23 eM24 dX12_noise_110 ?_
            refine x_iconst (v := (1 : Int32)) C dX12_noise_111 (by decide) ?_
            exact n_ireturn C r dX12_noise_112 hw
        · replace hw := hw.2 h12
          refine x_bipush (v := (-2 : Int32)) C dX12_noise_44 (by decide) ?_
          exact n_ireturn C r dX12_noise_46 hw

def w_X12_assemble_b134 (v2 : Int32) (v3 : Int32) (M : Mem) (q : Mem → Prop) (P54 : Int32 × Mem → Prop) : Prop := ∀ x1 : Int32, x1 = v3 + (1 : Int32) → P54 (x1, M)
set_option maxRecDepth 100000 in
set_option maxHeartbeats 4000000 in
theorem ok_X12_assemble_b134 {c : CtxT} {g : Gl} {l : Launch} {v2 : Int32} {v3 : Int32} {q : Mem → Prop} {P54 : Int32 × Mem → Prop} {M : Mem} (C : Cx c cX12_assemble 6 RX12 g l (Rm 2 21)) (r : Rt c (none) (pV q) 0 0) (hP54 : ∀ (v3 : Int32) (M : Mem), P54 (v3, M) → X c S0 54 [(0, .ref (g.2.2.2 + 135)), (2, .int v2), (3, .int v3)] [] (stat M)) (hw : w_X12_assemble_b134 v2 v3 M q P54) : X c S0 134 [(0, .ref (g.2.2.2 + 135)), (2, .int v2), (3, .int v3)] [] (stat M) := by
  unfold w_X12_assemble_b134 at hw
  obtain ⟨x1, ex1⟩ : ∃ z : Int32, z = v3 + (1 : Int32) := ⟨_, rfl⟩
  replace hw := hw x1 ex1
  refine x_iinc (v := x1) C dX12_assemble_134 rfl ex1.symm (Nat.le_of_ble_eq_true rfl) ?_
  refine x_goto (tgt := 54) C dX12_assemble_137 (by decide) ?_
  exact x_sub [0, 2, 3] rfl (hP54 _ _ hw)
def w_X12_assemble_l94F (v2 : Int32) (v3 : Int32) (v4 : Int32) (q : Mem → Prop) (P54 : Int32 × Mem → Prop) (P94 : Int32 × Mem → Prop) (s : Int32 × Mem) : Prop := match s with
  | (v5, M) => (((4 : Int32) ≤ v5 → w_X12_assemble_b134 v2 v3 M q P54) ∧ (¬ (4 : Int32) ≤ v5 → vp_in ((((966 : Int32) + ((6 : Int32) * v3)) + (2 : Int32)) + v5) 4230 ∧ vp_in (v4 + v5) 160 ∧ ∀ M5 : Mem, M5 = uI M 139 ((v4 + v5)).toNatClampNeg (M.1 136 (((((966 : Int32) + ((6 : Int32) * v3)) + (2 : Int32)) + v5)).toNatClampNeg) → ∀ x6 : Int32, x6 = v5 + (1 : Int32) → P94 (x6, M5)))
def w_X12_assemble_l94 (v2 : Int32) (v3 : Int32) (v4 : Int32) (q : Mem → Prop) (P54 : Int32 × Mem → Prop) (s : Int32 × Mem) : Prop := lfp (w_X12_assemble_l94F v2 v3 v4 q P54) s
set_option maxRecDepth 100000 in
set_option maxHeartbeats 4000000 in
theorem ok_X12_assemble_l94 {c : CtxT} {g : Gl} {l : Launch} {v2 : Int32} {v3 : Int32} {v4 : Int32} {q : Mem → Prop} {P54 : Int32 × Mem → Prop} {s : Int32 × Mem} (C : Cx c cX12_assemble 6 RX12 g l (Rm 2 21)) (r : Rt c (none) (pV q) 0 0) (hP54 : ∀ (v3 : Int32) (M : Mem), P54 (v3, M) → X c S0 54 [(0, .ref (g.2.2.2 + 135)), (2, .int v2), (3, .int v3)] [] (stat M)) (hw : w_X12_assemble_l94 v2 v3 v4 q P54 s) : X c S0 94 [(0, .ref (g.2.2.2 + 135)), (2, .int v2), (3, .int v3), (4, .int v4), (5, .int s.1)] [] (stat s.2) := hw (fun s => X c S0 94 [(0, .ref (g.2.2.2 + 135)), (2, .int v2), (3, .int v3), (4, .int v4), (5, .int s.1)] [] (stat s.2)) (fun s hw => by
    obtain ⟨v5, M⟩ := s
    try dsimp only [w_X12_assemble_l94F] at hw
    try dsimp only
    refine x_iload C dX12_assemble_94 rfl ?_
    refine x_iconst (v := (4 : Int32)) C dX12_assemble_96 (by decide) ?_
    refine x_icmp_ge (tgt := 134) C dX12_assemble_97 (by decide) (fun h2 => ?_) (fun h2 => ?_)
    · replace hw := hw.1 h2
      exact x_sub [0, 2, 3] rfl (ok_X12_assemble_b134 C r hP54 hw)
    · replace hw := hw.2 h2
      refine x_aload_n C dX12_assemble_100 rfl rfl ?_
      refine n_getS (dd := 4) C fl_X12_20 s135 (fun _ _ => rfl) rfl dX12_assemble_101 ?_
      refine x_iload C dX12_assemble_104 rfl ?_
      refine x_iload C dX12_assemble_106 rfl ?_
      refine x_iadd C dX12_assemble_108 ?_
      refine x_aload_n C dX12_assemble_109 rfl rfl ?_
      refine n_getS (dd := 1) C fl_X12_7 s135 (fun _ _ => rfl) rfl dX12_assemble_110 ?_
      refine x_sipush (v := (966 : Int32)) C dX12_assemble_113 (by decide) ?_
      refine x_bipush (v := (6 : Int32)) C dX12_assemble_116 (by decide) ?_
      refine x_iload_n C dX12_assemble_118 rfl rfl ?_
      refine x_imul C dX12_assemble_119 ?_
      refine x_iadd C dX12_assemble_120 ?_
      refine x_iconst (v := (2 : Int32)) C dX12_assemble_121 (by decide) ?_
      refine x_iadd C dX12_assemble_122 ?_
      refine x_iload C dX12_assemble_123 rfl ?_
      refine x_iadd C dX12_assemble_125 ?_
      obtain ⟨h3, hw⟩ := hw
      refine a_iald C s136 ln136 h3 dX12_assemble_126 ?_
      obtain ⟨h4, hw⟩ := hw
      obtain ⟨M5, eM5⟩ : ∃ z : Mem, z = uI M 139 ((v4 + v5)).toNatClampNeg (M.1 136 (((((966 : Int32) + ((6 : Int32) * v3)) + (2 : Int32)) + v5)).toNatClampNeg) := ⟨_, rfl⟩
      replace hw := hw M5 eM5
      refine a_iast C s139 ln139 rfl h4 eM5 dX12_assemble_127 ?_
      obtain ⟨x6, ex6⟩ : ∃ z : Int32, z = v5 + (1 : Int32) := ⟨_, rfl⟩
      replace hw := hw x6 ex6
      refine x_iinc (v := x6) C dX12_assemble_128 rfl ex6.symm (Nat.le_of_ble_eq_true rfl) ?_
      refine x_goto (tgt := 94) C dX12_assemble_131 (by decide) ?_
      exact x_sub [0, 2, 3, 4, 5] rfl hw)
def w_X12_assemble_l54F (v2 : Int32) (q : Mem → Prop) (P54 : Int32 × Mem → Prop) (s : Int32 × Mem) : Prop := match s with
  | (v3, M) => w_X12_many (1 : Int32) M (fun (r8 : Int32) (M7 : Mem) => ((r8 ≤ v3 → q M7) ∧ (¬ r8 ≤ v3 → ((¬ ((v2 >>> (v3 &&& 31)) &&& (1 : Int32)) = (1 : Int32) → w_X12_assemble_b134 v2 v3 M7 q P54) ∧ (((v2 >>> (v3 &&& 31)) &&& (1 : Int32)) = (1 : Int32) → vp_in (((966 : Int32) + ((6 : Int32) * v3)) + (1 : Int32)) 4230 ∧ ∀ x12 : Int32, x12 = ((4 : Int32) * (M7.1 136 ((((966 : Int32) + ((6 : Int32) * v3)) + (1 : Int32))).toNatClampNeg)) → w_X12_assemble_l94 v2 v3 x12 q P54 ((0 : Int32), M7))))))
def w_X12_assemble_l54 (v2 : Int32) (q : Mem → Prop) (s : Int32 × Mem) : Prop := lfp (w_X12_assemble_l54F v2 q ) s
set_option maxRecDepth 100000 in
set_option maxHeartbeats 4000000 in
theorem ok_X12_assemble_l54 {c : CtxT} {g : Gl} {l : Launch} {v2 : Int32} {q : Mem → Prop} {s : Int32 × Mem} (C : Cx c cX12_assemble 6 RX12 g l (Rm 2 21)) (r : Rt c (none) (pV q) 0 0) (hw : w_X12_assemble_l54 v2 q s) : X c S0 54 [(0, .ref (g.2.2.2 + 135)), (2, .int v2), (3, .int s.1)] [] (stat s.2) := hw (fun s => X c S0 54 [(0, .ref (g.2.2.2 + 135)), (2, .int v2), (3, .int s.1)] [] (stat s.2)) (fun s hw => by
    obtain ⟨v3, M⟩ := s
    try dsimp only [w_X12_assemble_l54F] at hw
    try dsimp only
    refine x_iload_n C dX12_assemble_54 rfl rfl ?_
    refine x_aload_n C dX12_assemble_55 rfl rfl ?_
    refine x_iconst (v := (1 : Int32)) C dX12_assemble_56 (by decide) ?_
    refine n_callVI s135 rfl C (ok_X12_many  hw) mv_X12_66 rfl rfl ⟨Nat.le_of_ble_eq_true rfl, Nat.le_of_ble_eq_true rfl⟩ (Nat.le_of_ble_eq_true rfl) dX12_assemble_57 (fun r8 M7 hw => ?_)
    refine x_icmp_ge (tgt := 140) C dX12_assemble_60 (by decide) (fun h9 => ?_) (fun h9 => ?_)
    · replace hw := hw.1 h9
      exact n_vreturn C r dX12_assemble_140 hw
    · replace hw := hw.2 h9
      refine x_iload_n C dX12_assemble_63 rfl rfl ?_
      refine x_iload_n C dX12_assemble_64 rfl rfl ?_
      refine x_ishr C dX12_assemble_65 ?_
      refine x_iconst (v := (1 : Int32)) C dX12_assemble_66 (by decide) ?_
      refine x_iand C dX12_assemble_67 ?_
      refine x_iconst (v := (1 : Int32)) C dX12_assemble_68 (by decide) ?_
      refine x_icmp_ne (tgt := 134) C dX12_assemble_69 (by decide) (fun h10 => ?_) (fun h10 => ?_)
      · replace hw := hw.1 h10
        exact x_sub [0, 2, 3] rfl (ok_X12_assemble_b134 C r (fun _ _ h => h) hw)
      · replace hw := hw.2 h10
        refine x_iconst (v := (4 : Int32)) C dX12_assemble_72 (by decide) ?_
        refine x_aload_n C dX12_assemble_73 rfl rfl ?_
        refine n_getS (dd := 1) C fl_X12_7 s135 (fun _ _ => rfl) rfl dX12_assemble_74 ?_
        refine x_sipush (v := (966 : Int32)) C dX12_assemble_77 (by decide) ?_
        refine x_bipush (v := (6 : Int32)) C dX12_assemble_80 (by decide) ?_
        refine x_iload_n C dX12_assemble_82 rfl rfl ?_
        refine x_imul C dX12_assemble_83 ?_
        refine x_iadd C dX12_assemble_84 ?_
        refine x_iconst (v := (1 : Int32)) C dX12_assemble_85 (by decide) ?_
        refine x_iadd C dX12_assemble_86 ?_
        obtain ⟨h11, hw⟩ := hw
        refine a_iald C s136 ln136 h11 dX12_assemble_87 ?_
        refine x_imul C dX12_assemble_88 ?_
        obtain ⟨x12, ex12⟩ : ∃ z : Int32, z = ((4 : Int32) * (M7.1 136 ((((966 : Int32) + ((6 : Int32) * v3)) + (1 : Int32))).toNatClampNeg)) := ⟨_, rfl⟩
        replace hw := hw x12 ex12
        refine x_topi ex12 ?_
        refine x_istore C dX12_assemble_89 (Nat.le_of_ble_eq_true rfl) ?_
        refine x_iconst (v := (0 : Int32)) C dX12_assemble_91 (by decide) ?_
        refine x_istore C dX12_assemble_92 (Nat.le_of_ble_eq_true rfl) ?_
        exact x_sub [0, 2, 3, 4, 5] rfl (ok_X12_assemble_l94 C r (fun _ _ h => h) hw))
def w_X12_assemble_l16F (v1 : Int32) (v2 : Int32) (q : Mem → Prop) (P16 : Int32 × Mem → Prop) (s : Int32 × Mem) : Prop := match s with
  | (v3, M) => ((((4 : Int32) * (M.1 135 4)) ≤ v3 → w_X12_assemble_l54 v2 q ((0 : Int32), M)) ∧ (¬ ((4 : Int32) * (M.1 135 4)) ≤ v3 → vp_in (((0 : Int32) + ((160 : Int32) * v1)) + v3) 4230 ∧ vp_in v3 160 ∧ ∀ M16 : Mem, M16 = uI M 139 (v3).toNatClampNeg (M.1 136 ((((0 : Int32) + ((160 : Int32) * v1)) + v3)).toNatClampNeg) → ∀ x17 : Int32, x17 = v3 + (1 : Int32) → P16 (x17, M16)))
def w_X12_assemble_l16 (v1 : Int32) (v2 : Int32) (q : Mem → Prop) (s : Int32 × Mem) : Prop := lfp (w_X12_assemble_l16F v1 v2 q ) s
set_option maxRecDepth 100000 in
set_option maxHeartbeats 4000000 in
theorem ok_X12_assemble_l16 {c : CtxT} {g : Gl} {l : Launch} {v1 : Int32} {v2 : Int32} {q : Mem → Prop} {s : Int32 × Mem} (C : Cx c cX12_assemble 6 RX12 g l (Rm 2 21)) (r : Rt c (none) (pV q) 0 0) (hw : w_X12_assemble_l16 v1 v2 q s) : X c S0 16 [(0, .ref (g.2.2.2 + 135)), (1, .int v1), (2, .int v2), (3, .int s.1)] [] (stat s.2) := hw (fun s => X c S0 16 [(0, .ref (g.2.2.2 + 135)), (1, .int v1), (2, .int v2), (3, .int s.1)] [] (stat s.2)) (fun s hw => by
    obtain ⟨v3, M⟩ := s
    try dsimp only [w_X12_assemble_l16F] at hw
    try dsimp only
    refine x_iload_n C dX12_assemble_16 rfl rfl ?_
    refine x_iconst (v := (4 : Int32)) C dX12_assemble_17 (by decide) ?_
    refine x_aload_n C dX12_assemble_18 rfl rfl ?_
    refine n_getI C fl_X12_115 s135 (fun _ _ => rfl) dX12_assemble_19 ?_
    refine x_imul C dX12_assemble_22 ?_
    refine x_icmp_ge (tgt := 52) C dX12_assemble_23 (by decide) (fun h13 => ?_) (fun h13 => ?_)
    · replace hw := hw.1 h13
      refine x_iconst (v := (0 : Int32)) C dX12_assemble_52 (by decide) ?_
      refine x_istore_n C dX12_assemble_53 rfl (Nat.le_of_ble_eq_true rfl) ?_
      exact x_sub [0, 2, 3] rfl (ok_X12_assemble_l54 C r  hw)
    · replace hw := hw.2 h13
      refine x_aload_n C dX12_assemble_26 rfl rfl ?_
      refine n_getS (dd := 4) C fl_X12_20 s135 (fun _ _ => rfl) rfl dX12_assemble_27 ?_
      refine x_iload_n C dX12_assemble_30 rfl rfl ?_
      refine x_aload_n C dX12_assemble_31 rfl rfl ?_
      refine n_getS (dd := 1) C fl_X12_7 s135 (fun _ _ => rfl) rfl dX12_assemble_32 ?_
      refine x_iconst (v := (0 : Int32)) C dX12_assemble_35 (by decide) ?_
      refine x_sipush (v := (160 : Int32)) C dX12_assemble_36 (by decide) ?_
      refine x_iload_n C dX12_assemble_39 rfl rfl ?_
      refine x_imul C dX12_assemble_40 ?_
      refine x_iadd C dX12_assemble_41 ?_
      refine x_iload_n C dX12_assemble_42 rfl rfl ?_
      refine x_iadd C dX12_assemble_43 ?_
      obtain ⟨h14, hw⟩ := hw
      refine a_iald C s136 ln136 h14 dX12_assemble_44 ?_
      obtain ⟨h15, hw⟩ := hw
      obtain ⟨M16, eM16⟩ : ∃ z : Mem, z = uI M 139 (v3).toNatClampNeg (M.1 136 ((((0 : Int32) + ((160 : Int32) * v1)) + v3)).toNatClampNeg) := ⟨_, rfl⟩
      replace hw := hw M16 eM16
      refine a_iast C s139 ln139 rfl h15 eM16 dX12_assemble_45 ?_
      obtain ⟨x17, ex17⟩ : ∃ z : Int32, z = v3 + (1 : Int32) := ⟨_, rfl⟩
      replace hw := hw x17 ex17
      refine x_iinc (v := x17) C dX12_assemble_46 rfl ex17.symm (Nat.le_of_ble_eq_true rfl) ?_
      refine x_goto (tgt := 16) C dX12_assemble_49 (by decide) ?_
      exact x_sub [0, 1, 2, 3] rfl hw)
def w_X12_assemble (v1 : Int32) (v2 : Int32) (M : Mem) (q : Mem → Prop) : Prop := vp_in ((960 : Int32) + v1) 4230 ∧ ∀ M19 : Mem, M19 = uI M 135 4 (M.1 136 (((960 : Int32) + v1)).toNatClampNeg) → w_X12_assemble_l16 v1 v2 q ((0 : Int32), M19)
set_option maxRecDepth 100000 in
set_option maxHeartbeats 4000000 in
theorem ok_X12_assemble {g : Gl} {l : Launch} {v1 : Int32} {v2 : Int32} {M : Mem} {q : Mem → Prop} (hw : w_X12_assemble v1 v2 M q) : CtV g l yX12_assemble cX12_assemble 6 none 2 21 [.ref (g.2.2.2 + 135), .int v1, .int v2] M q := by
  refine n_introV (by decide +kernel) (Nat.le_of_ble_eq_true rfl) (fun c C r => ?_)
  have C : Cx c cX12_assemble 6 RX12 g l (Rm 2 21) := C
  refine x_sub [0, 1, 2] (lv' := [(0, .ref (g.2.2.2 + 135)), (1, .int v1), (2, .int v2)]) rfl ?_
  unfold w_X12_assemble at hw
  refine x_aload_n C dX12_assemble_0 rfl rfl ?_
  refine x_aload_n C dX12_assemble_1 rfl rfl ?_
  refine n_getS (dd := 1) C fl_X12_7 s135 (fun _ _ => rfl) rfl dX12_assemble_2 ?_
  refine x_sipush (v := (960 : Int32)) C dX12_assemble_5 (by decide) ?_
  refine x_iload_n C dX12_assemble_8 rfl rfl ?_
  refine x_iadd C dX12_assemble_9 ?_
  obtain ⟨h18, hw⟩ := hw
  refine a_iald C s136 ln136 h18 dX12_assemble_10 ?_
  obtain ⟨M19, eM19⟩ : ∃ z : Mem, z = uI M 135 4 (M.1 136 (((960 : Int32) + v1)).toNatClampNeg) := ⟨_, rfl⟩
  replace hw := hw M19 eM19
  refine m_putI C fp_X12_115 s135 (fun _ _ => rfl) rfl rfl eM19 dX12_assemble_11 ?_
  refine x_iconst (v := (0 : Int32)) C dX12_assemble_14 (by decide) ?_
  refine x_istore_n C dX12_assemble_15 rfl (Nat.le_of_ble_eq_true rfl) ?_
  exact x_sub [0, 1, 2, 3] rfl (ok_X12_assemble_l16 C r  hw)

def w_X12_empty_l2F (q : Mem → Prop) (P2 : Int32 × Mem → Prop) (s : Int32 × Mem) : Prop := match s with
  | (v1, M) => (((16 : Int32) ≤ v1 → q M) ∧ (¬ (16 : Int32) ≤ v1 → vp_in v1 16 ∧ ∀ M3 : Mem, M3 = uI M 142 (v1).toNatClampNeg (-1 : Int32) → vp_in v1 16 ∧ ∀ M5 : Mem, M5 = uI M3 143 (v1).toNatClampNeg (0 : Int32) → ∀ x6 : Int32, x6 = v1 + (1 : Int32) → P2 (x6, M5)))
def w_X12_empty_l2 (q : Mem → Prop) (s : Int32 × Mem) : Prop := lfp (w_X12_empty_l2F q ) s
set_option maxRecDepth 100000 in
set_option maxHeartbeats 4000000 in
theorem ok_X12_empty_l2 {c : CtxT} {g : Gl} {l : Launch} {q : Mem → Prop} {s : Int32 × Mem} (C : Cx c cX12_empty 2 RX12 g l (Rm 1 0)) (r : Rt c (none) (pV q) 0 0) (hw : w_X12_empty_l2 q s) : X c S0 2 [(0, .ref (g.2.2.2 + 135)), (1, .int s.1)] [] (stat s.2) := hw (fun s => X c S0 2 [(0, .ref (g.2.2.2 + 135)), (1, .int s.1)] [] (stat s.2)) (fun s hw => by
    obtain ⟨v1, M⟩ := s
    try dsimp only [w_X12_empty_l2F] at hw
    try dsimp only
    refine x_iload_n C dX12_empty_2 rfl rfl ?_
    refine x_bipush (v := (16 : Int32)) C dX12_empty_3 (by decide) ?_
    refine x_icmp_ge (tgt := 28) C dX12_empty_5 (by decide) (fun h1 => ?_) (fun h1 => ?_)
    · replace hw := hw.1 h1
      exact n_vreturn C r dX12_empty_28 hw
    · replace hw := hw.2 h1
      refine x_aload_n C dX12_empty_8 rfl rfl ?_
      refine n_getS (dd := 7) C fl_X12_29 s135 (fun _ _ => rfl) rfl dX12_empty_9 ?_
      refine x_iload_n C dX12_empty_12 rfl rfl ?_
      refine x_iconst (v := (-1 : Int32)) C dX12_empty_13 (by decide) ?_
      obtain ⟨h2, hw⟩ := hw
      obtain ⟨M3, eM3⟩ : ∃ z : Mem, z = uI M 142 (v1).toNatClampNeg (-1 : Int32) := ⟨_, rfl⟩
      replace hw := hw M3 eM3
      refine a_iast C s142 ln142 rfl h2 eM3 dX12_empty_14 ?_
      refine x_aload_n C dX12_empty_15 rfl rfl ?_
      refine n_getS (dd := 8) C fl_X12_32 s135 (fun _ _ => rfl) rfl dX12_empty_16 ?_
      refine x_iload_n C dX12_empty_19 rfl rfl ?_
      refine x_iconst (v := (0 : Int32)) C dX12_empty_20 (by decide) ?_
      obtain ⟨h4, hw⟩ := hw
      obtain ⟨M5, eM5⟩ : ∃ z : Mem, z = uI M3 143 (v1).toNatClampNeg (0 : Int32) := ⟨_, rfl⟩
      replace hw := hw M5 eM5
      refine a_iast C s143 ln143 rfl h4 eM5 dX12_empty_21 ?_
      obtain ⟨x6, ex6⟩ : ∃ z : Int32, z = v1 + (1 : Int32) := ⟨_, rfl⟩
      replace hw := hw x6 ex6
      refine x_iinc (v := x6) C dX12_empty_22 rfl ex6.symm (Nat.le_of_ble_eq_true rfl) ?_
      refine x_goto (tgt := 2) C dX12_empty_25 (by decide) ?_
      exact x_sub [0, 1] rfl hw)
def w_X12_empty (M : Mem) (q : Mem → Prop) : Prop := w_X12_empty_l2 q ((0 : Int32), M)
set_option maxRecDepth 100000 in
set_option maxHeartbeats 4000000 in
theorem ok_X12_empty {g : Gl} {l : Launch} {M : Mem} {q : Mem → Prop} (hw : w_X12_empty M q) : CtV g l yX12_empty cX12_empty 2 none 1 0 [.ref (g.2.2.2 + 135)] M q := by
  refine n_introV (by decide +kernel) (Nat.le_of_ble_eq_true rfl) (fun c C r => ?_)
  have C : Cx c cX12_empty 2 RX12 g l (Rm 1 0) := C
  refine x_sub [0] (lv' := [(0, .ref (g.2.2.2 + 135))]) rfl ?_
  unfold w_X12_empty at hw
  refine x_iconst (v := (0 : Int32)) C dX12_empty_0 (by decide) ?_
  refine x_istore_n C dX12_empty_1 rfl (Nat.le_of_ble_eq_true rfl) ?_
  exact x_sub [0, 1] rfl (ok_X12_empty_l2 C r  hw)

def w_X12_fetch_b102 (v2 : Int32) (v3 : Int32) (v4 : Int32) (M : Mem) (q : Mem → Prop) (P12 : Int32 × Mem → Prop) : Prop := ∀ x1 : Int32, x1 = v4 + (1 : Int32) → P12 (x1, M)
set_option maxRecDepth 100000 in
set_option maxHeartbeats 4000000 in
theorem ok_X12_fetch_b102 {c : CtxT} {g : Gl} {l : Launch} {v2 : Int32} {v3 : Int32} {v4 : Int32} {q : Mem → Prop} {P12 : Int32 × Mem → Prop} {M : Mem} (C : Cx c cX12_fetch 5 RX12 g l (Rm 1 0)) (r : Rt c (none) (pV q) 0 0) (hP12 : ∀ (v4 : Int32) (M : Mem), P12 (v4, M) → X c S0 12 [(0, .ref (g.2.2.2 + 135)), (2, .int v2), (3, .int v3), (4, .int v4)] [] (stat M)) (hw : w_X12_fetch_b102 v2 v3 v4 M q P12) : X c S0 102 [(0, .ref (g.2.2.2 + 135)), (2, .int v2), (3, .int v3), (4, .int v4)] [] (stat M) := by
  unfold w_X12_fetch_b102 at hw
  obtain ⟨x1, ex1⟩ : ∃ z : Int32, z = v4 + (1 : Int32) := ⟨_, rfl⟩
  replace hw := hw x1 ex1
  refine x_iinc (v := x1) C dX12_fetch_102 rfl ex1.symm (Nat.le_of_ble_eq_true rfl) ?_
  refine x_goto (tgt := 12) C dX12_fetch_105 (by decide) ?_
  exact x_sub [0, 2, 3, 4] rfl (hP12 _ _ hw)
def w_X12_fetch_l12F (v2 : Int32) (v3 : Int32) (q : Mem → Prop) (P12 : Int32 × Mem → Prop) (s : Int32 × Mem) : Prop := match s with
  | (v4, M) => (((16 : Int32) ≤ v4 → q M) ∧ (¬ (16 : Int32) ≤ v4 → ((v2 = 0 → vp_in ((v3 + (20 : Int32)) + v4) 4230 ∧ vp_in v4 16 ∧ ∀ M6 : Mem, M6 = uI M 142 (v4).toNatClampNeg (M.1 136 (((v3 + (20 : Int32)) + v4)).toNatClampNeg) → vp_in ((v3 + (36 : Int32)) + v4) 4230 ∧ vp_in v4 16 ∧ ∀ M9 : Mem, M9 = uI M6 143 (v4).toNatClampNeg (M6.1 136 (((v3 + (36 : Int32)) + v4)).toNatClampNeg) → w_X12_fetch_b102 v2 v3 v4 M9 q P12) ∧ (¬ v2 = 0 → vp_in v4 16 ∧ vp_in ((v3 + (20 : Int32)) + v4) 4230 ∧ ∀ M12 : Mem, M12 = uI M 136 (((v3 + (20 : Int32)) + v4)).toNatClampNeg (M.1 142 (v4).toNatClampNeg) → vp_in v4 16 ∧ vp_in ((v3 + (36 : Int32)) + v4) 4230 ∧ ∀ M15 : Mem, M15 = uI M12 136 (((v3 + (36 : Int32)) + v4)).toNatClampNeg (M12.1 143 (v4).toNatClampNeg) → w_X12_fetch_b102 v2 v3 v4 M15 q P12))))
def w_X12_fetch_l12 (v2 : Int32) (v3 : Int32) (q : Mem → Prop) (s : Int32 × Mem) : Prop := lfp (w_X12_fetch_l12F v2 v3 q ) s
set_option maxRecDepth 100000 in
set_option maxHeartbeats 4000000 in
theorem ok_X12_fetch_l12 {c : CtxT} {g : Gl} {l : Launch} {v2 : Int32} {v3 : Int32} {q : Mem → Prop} {s : Int32 × Mem} (C : Cx c cX12_fetch 5 RX12 g l (Rm 1 0)) (r : Rt c (none) (pV q) 0 0) (hw : w_X12_fetch_l12 v2 v3 q s) : X c S0 12 [(0, .ref (g.2.2.2 + 135)), (2, .int v2), (3, .int v3), (4, .int s.1)] [] (stat s.2) := hw (fun s => X c S0 12 [(0, .ref (g.2.2.2 + 135)), (2, .int v2), (3, .int v3), (4, .int s.1)] [] (stat s.2)) (fun s hw => by
    obtain ⟨v4, M⟩ := s
    try dsimp only [w_X12_fetch_l12F] at hw
    try dsimp only
    refine x_iload C dX12_fetch_12 rfl ?_
    refine x_bipush (v := (16 : Int32)) C dX12_fetch_14 (by decide) ?_
    refine x_icmp_ge (tgt := 108) C dX12_fetch_16 (by decide) (fun h2 => ?_) (fun h2 => ?_)
    · replace hw := hw.1 h2
      exact n_vreturn C r dX12_fetch_108 hw
    · replace hw := hw.2 h2
      refine x_iload_n C dX12_fetch_19 rfl rfl ?_
      refine x_if_eq (tgt := 64) C dX12_fetch_20 (by decide) (fun h3 => ?_) (fun h3 => ?_)
      · replace hw := hw.1 h3
        refine x_aload_n C dX12_fetch_64 rfl rfl ?_
        refine n_getS (dd := 7) C fl_X12_29 s135 (fun _ _ => rfl) rfl dX12_fetch_65 ?_
        refine x_iload C dX12_fetch_68 rfl ?_
        refine x_aload_n C dX12_fetch_70 rfl rfl ?_
        refine n_getS (dd := 1) C fl_X12_7 s135 (fun _ _ => rfl) rfl dX12_fetch_71 ?_
        refine x_iload_n C dX12_fetch_74 rfl rfl ?_
        refine x_bipush (v := (20 : Int32)) C dX12_fetch_75 (by decide) ?_
        refine x_iadd C dX12_fetch_77 ?_
        refine x_iload C dX12_fetch_78 rfl ?_
        refine x_iadd C dX12_fetch_80 ?_
        obtain ⟨h4, hw⟩ := hw
        refine a_iald C s136 ln136 h4 dX12_fetch_81 ?_
        obtain ⟨h5, hw⟩ := hw
        obtain ⟨M6, eM6⟩ : ∃ z : Mem, z = uI M 142 (v4).toNatClampNeg (M.1 136 (((v3 + (20 : Int32)) + v4)).toNatClampNeg) := ⟨_, rfl⟩
        replace hw := hw M6 eM6
        refine a_iast C s142 ln142 rfl h5 eM6 dX12_fetch_82 ?_
        refine x_aload_n C dX12_fetch_83 rfl rfl ?_
        refine n_getS (dd := 8) C fl_X12_32 s135 (fun _ _ => rfl) rfl dX12_fetch_84 ?_
        refine x_iload C dX12_fetch_87 rfl ?_
        refine x_aload_n C dX12_fetch_89 rfl rfl ?_
        refine n_getS (dd := 1) C fl_X12_7 s135 (fun _ _ => rfl) rfl dX12_fetch_90 ?_
        refine x_iload_n C dX12_fetch_93 rfl rfl ?_
        refine x_bipush (v := (36 : Int32)) C dX12_fetch_94 (by decide) ?_
        refine x_iadd C dX12_fetch_96 ?_
        refine x_iload C dX12_fetch_97 rfl ?_
        refine x_iadd C dX12_fetch_99 ?_
        obtain ⟨h7, hw⟩ := hw
        refine a_iald C s136 ln136 h7 dX12_fetch_100 ?_
        obtain ⟨h8, hw⟩ := hw
        obtain ⟨M9, eM9⟩ : ∃ z : Mem, z = uI M6 143 (v4).toNatClampNeg (M6.1 136 (((v3 + (36 : Int32)) + v4)).toNatClampNeg) := ⟨_, rfl⟩
        replace hw := hw M9 eM9
        refine a_iast C s143 ln143 rfl h8 eM9 dX12_fetch_101 ?_
        exact x_sub [0, 2, 3, 4] rfl (ok_X12_fetch_b102 C r (fun _ _ h => h) hw)
      · replace hw := hw.2 h3
        refine x_aload_n C dX12_fetch_23 rfl rfl ?_
        refine n_getS (dd := 1) C fl_X12_7 s135 (fun _ _ => rfl) rfl dX12_fetch_24 ?_
        refine x_iload_n C dX12_fetch_27 rfl rfl ?_
        refine x_bipush (v := (20 : Int32)) C dX12_fetch_28 (by decide) ?_
        refine x_iadd C dX12_fetch_30 ?_
        refine x_iload C dX12_fetch_31 rfl ?_
        refine x_iadd C dX12_fetch_33 ?_
        refine x_aload_n C dX12_fetch_34 rfl rfl ?_
        refine n_getS (dd := 7) C fl_X12_29 s135 (fun _ _ => rfl) rfl dX12_fetch_35 ?_
        refine x_iload C dX12_fetch_38 rfl ?_
        obtain ⟨h10, hw⟩ := hw
        refine a_iald C s142 ln142 h10 dX12_fetch_40 ?_
        obtain ⟨h11, hw⟩ := hw
        obtain ⟨M12, eM12⟩ : ∃ z : Mem, z = uI M 136 (((v3 + (20 : Int32)) + v4)).toNatClampNeg (M.1 142 (v4).toNatClampNeg) := ⟨_, rfl⟩
        replace hw := hw M12 eM12
        refine a_iast C s136 ln136 rfl h11 eM12 dX12_fetch_41 ?_
        refine x_aload_n C dX12_fetch_42 rfl rfl ?_
        refine n_getS (dd := 1) C fl_X12_7 s135 (fun _ _ => rfl) rfl dX12_fetch_43 ?_
        refine x_iload_n C dX12_fetch_46 rfl rfl ?_
        refine x_bipush (v := (36 : Int32)) C dX12_fetch_47 (by decide) ?_
        refine x_iadd C dX12_fetch_49 ?_
        refine x_iload C dX12_fetch_50 rfl ?_
        refine x_iadd C dX12_fetch_52 ?_
        refine x_aload_n C dX12_fetch_53 rfl rfl ?_
        refine n_getS (dd := 8) C fl_X12_32 s135 (fun _ _ => rfl) rfl dX12_fetch_54 ?_
        refine x_iload C dX12_fetch_57 rfl ?_
        obtain ⟨h13, hw⟩ := hw
        refine a_iald C s143 ln143 h13 dX12_fetch_59 ?_
        obtain ⟨h14, hw⟩ := hw
        obtain ⟨M15, eM15⟩ : ∃ z : Mem, z = uI M12 136 (((v3 + (36 : Int32)) + v4)).toNatClampNeg (M12.1 143 (v4).toNatClampNeg) := ⟨_, rfl⟩
        replace hw := hw M15 eM15
        refine a_iast C s136 ln136 rfl h14 eM15 dX12_fetch_60 ?_
        refine x_goto (tgt := 102) C dX12_fetch_61 (by decide) ?_
        exact x_sub [0, 2, 3, 4] rfl (ok_X12_fetch_b102 C r (fun _ _ h => h) hw))
def w_X12_fetch (v1 : Int32) (v2 : Int32) (M : Mem) (q : Mem → Prop) : Prop := ∀ x16 : Int32, x16 = ((1106 : Int32) + ((60 : Int32) * v1)) → w_X12_fetch_l12 v2 x16 q ((0 : Int32), M)
set_option maxRecDepth 100000 in
set_option maxHeartbeats 4000000 in
theorem ok_X12_fetch {g : Gl} {l : Launch} {v1 : Int32} {v2 : Int32} {M : Mem} {q : Mem → Prop} (hw : w_X12_fetch v1 v2 M q) : CtV g l yX12_fetch cX12_fetch 5 none 1 0 [.ref (g.2.2.2 + 135), .int v1, .int v2] M q := by
  refine n_introV (by decide +kernel) (Nat.le_of_ble_eq_true rfl) (fun c C r => ?_)
  have C : Cx c cX12_fetch 5 RX12 g l (Rm 1 0) := C
  refine x_sub [0, 1, 2] (lv' := [(0, .ref (g.2.2.2 + 135)), (1, .int v1), (2, .int v2)]) rfl ?_
  unfold w_X12_fetch at hw
  refine x_sipush (v := (1106 : Int32)) C dX12_fetch_0 (by decide) ?_
  refine x_bipush (v := (60 : Int32)) C dX12_fetch_3 (by decide) ?_
  refine x_iload_n C dX12_fetch_5 rfl rfl ?_
  refine x_imul C dX12_fetch_6 ?_
  refine x_iadd C dX12_fetch_7 ?_
  obtain ⟨x16, ex16⟩ : ∃ z : Int32, z = ((1106 : Int32) + ((60 : Int32) * v1)) := ⟨_, rfl⟩
  replace hw := hw x16 ex16
  refine x_topi ex16 ?_
  refine x_istore_n C dX12_fetch_8 rfl (Nat.le_of_ble_eq_true rfl) ?_
  refine x_iconst (v := (0 : Int32)) C dX12_fetch_9 (by decide) ?_
  refine x_istore C dX12_fetch_10 (Nat.le_of_ble_eq_true rfl) ?_
  exact x_sub [0, 2, 3, 4] rfl (ok_X12_fetch_l12 C r  hw)

def w_X12_touch (v1 : Int32) (v2 : Int32) (v3 : Int32) (M : Mem) (q : Mem → Prop) : Prop := ∀ x1 : Int32, x1 = ((1106 : Int32) + ((60 : Int32) * v1)) → vp_in (x1 + (9 : Int32)) 4230 ∧ ¬ (M.1 136 ((x1 + (9 : Int32))).toNatClampNeg) = 0 ∧ ∀ x4 : Int32, x4 = ((v2 + v3) / (M.1 136 ((x1 + (9 : Int32))).toNatClampNeg)) → vp_in (x1 + (8 : Int32)) 4230 ∧ ¬ (M.1 136 ((x1 + (8 : Int32))).toNatClampNeg) = 0 ∧ ∀ x7 : Int32, x7 = (irm x4 (M.1 136 ((x1 + (8 : Int32))).toNatClampNeg)) → ∀ M8 : Mem, M8 = uI M 144 1 ((M.1 144 1) + (1 : Int32)) → vp_in x7 16 ∧ (((M8.1 142 (x7).toNatClampNeg) = x4 → q M8) ∧ (¬ (M8.1 142 (x7).toNatClampNeg) = x4 → vp_in x7 16 ∧ ∀ M12 : Mem, M12 = uI M8 142 (x7).toNatClampNeg x4 → ∀ M13 : Mem, M13 = uI M12 144 2 ((M12.1 144 2) + (1 : Int32)) → q M13))
set_option maxRecDepth 100000 in
set_option maxHeartbeats 4000000 in
theorem ok_X12_touch {g : Gl} {l : Launch} {v1 : Int32} {v2 : Int32} {v3 : Int32} {M : Mem} {q : Mem → Prop} (hw : w_X12_touch v1 v2 v3 M q) : CtV g l yX12_touch cX12_touch 7 none 1 0 [.ref (g.2.2.2 + 135), .int v1, .int v2, .int v3] M q := by
  refine n_introV (by decide +kernel) (Nat.le_of_ble_eq_true rfl) (fun c C r => ?_)
  have C : Cx c cX12_touch 7 RX12 g l (Rm 1 0) := C
  refine x_sub [0, 1, 2, 3] (lv' := [(0, .ref (g.2.2.2 + 135)), (1, .int v1), (2, .int v2), (3, .int v3)]) rfl ?_
  unfold w_X12_touch at hw
  refine x_sipush (v := (1106 : Int32)) C dX12_touch_0 (by decide) ?_
  refine x_bipush (v := (60 : Int32)) C dX12_touch_3 (by decide) ?_
  refine x_iload_n C dX12_touch_5 rfl rfl ?_
  refine x_imul C dX12_touch_6 ?_
  refine x_iadd C dX12_touch_7 ?_
  obtain ⟨x1, ex1⟩ : ∃ z : Int32, z = ((1106 : Int32) + ((60 : Int32) * v1)) := ⟨_, rfl⟩
  replace hw := hw x1 ex1
  refine x_topi ex1 ?_
  refine x_istore C dX12_touch_8 (Nat.le_of_ble_eq_true rfl) ?_
  refine x_iload_n C dX12_touch_10 rfl rfl ?_
  refine x_iload_n C dX12_touch_11 rfl rfl ?_
  refine x_iadd C dX12_touch_12 ?_
  refine x_aload_n C dX12_touch_13 rfl rfl ?_
  refine n_getS (dd := 1) C fl_X12_7 s135 (fun _ _ => rfl) rfl dX12_touch_14 ?_
  refine x_iload C dX12_touch_17 rfl ?_
  refine x_bipush (v := (9 : Int32)) C dX12_touch_19 (by decide) ?_
  refine x_iadd C dX12_touch_21 ?_
  obtain ⟨h2, hw⟩ := hw
  refine a_iald C s136 ln136 h2 dX12_touch_22 ?_
  obtain ⟨h3, hw⟩ := hw
  refine x_idiv C dX12_touch_23 h3 ?_
  obtain ⟨x4, ex4⟩ : ∃ z : Int32, z = ((v2 + v3) / (M.1 136 ((x1 + (9 : Int32))).toNatClampNeg)) := ⟨_, rfl⟩
  replace hw := hw x4 ex4
  refine x_topi ex4 ?_
  refine x_istore C dX12_touch_24 (Nat.le_of_ble_eq_true rfl) ?_
  refine x_iload C dX12_touch_26 rfl ?_
  refine x_aload_n C dX12_touch_28 rfl rfl ?_
  refine n_getS (dd := 1) C fl_X12_7 s135 (fun _ _ => rfl) rfl dX12_touch_29 ?_
  refine x_iload C dX12_touch_32 rfl ?_
  refine x_bipush (v := (8 : Int32)) C dX12_touch_34 (by decide) ?_
  refine x_iadd C dX12_touch_36 ?_
  obtain ⟨h5, hw⟩ := hw
  refine a_iald C s136 ln136 h5 dX12_touch_37 ?_
  obtain ⟨h6, hw⟩ := hw
  refine x_iremv C dX12_touch_38 h6 ?_
  obtain ⟨x7, ex7⟩ : ∃ z : Int32, z = (irm x4 (M.1 136 ((x1 + (8 : Int32))).toNatClampNeg)) := ⟨_, rfl⟩
  replace hw := hw x7 ex7
  refine x_topi ex7 ?_
  refine x_istore C dX12_touch_39 (Nat.le_of_ble_eq_true rfl) ?_
  refine x_aload_n C dX12_touch_41 rfl rfl ?_
  refine n_getS (dd := 9) C fl_X12_35 s135 (fun _ _ => rfl) rfl dX12_touch_42 ?_
  refine x_iconst (v := (1 : Int32)) C dX12_touch_45 (by decide) ?_
  refine x_dup2_11 C dX12_touch_46 rfl rfl ?_
  refine a_ialdL (ni := 1) C s144 ln144 (by decide) (vin _ _ (by decide +kernel)) dX12_touch_47 ?_
  refine x_iconst (v := (1 : Int32)) C dX12_touch_48 (by decide) ?_
  refine x_iadd C dX12_touch_49 ?_
  obtain ⟨M8, eM8⟩ : ∃ z : Mem, z = uI M 144 1 ((M.1 144 1) + (1 : Int32)) := ⟨_, rfl⟩
  replace hw := hw M8 eM8
  refine a_iast C s144 ln144 (by decide) (vin _ _ (by decide +kernel)) eM8 dX12_touch_50 ?_
  refine x_aload_n C dX12_touch_51 rfl rfl ?_
  refine n_getS (dd := 7) C fl_X12_29 s135 (fun _ _ => rfl) rfl dX12_touch_52 ?_
  refine x_iload C dX12_touch_55 rfl ?_
  obtain ⟨h9, hw⟩ := hw
  refine a_iald C s142 ln142 h9 dX12_touch_57 ?_
  refine x_iload C dX12_touch_58 rfl ?_
  refine x_icmp_eq (tgt := 82) C dX12_touch_60 (by decide) (fun h10 => ?_) (fun h10 => ?_)
  · replace hw := hw.1 h10
    exact n_vreturn C r dX12_touch_82 hw
  · replace hw := hw.2 h10
    refine x_aload_n C dX12_touch_63 rfl rfl ?_
    refine n_getS (dd := 7) C fl_X12_29 s135 (fun _ _ => rfl) rfl dX12_touch_64 ?_
    refine x_iload C dX12_touch_67 rfl ?_
    refine x_iload C dX12_touch_69 rfl ?_
    obtain ⟨h11, hw⟩ := hw
    obtain ⟨M12, eM12⟩ : ∃ z : Mem, z = uI M8 142 (x7).toNatClampNeg x4 := ⟨_, rfl⟩
    replace hw := hw M12 eM12
    refine a_iast C s142 ln142 rfl h11 eM12 dX12_touch_71 ?_
    refine x_aload_n C dX12_touch_72 rfl rfl ?_
    refine n_getS (dd := 9) C fl_X12_35 s135 (fun _ _ => rfl) rfl dX12_touch_73 ?_
    refine x_iconst (v := (2 : Int32)) C dX12_touch_76 (by decide) ?_
    refine x_dup2_11 C dX12_touch_77 rfl rfl ?_
    refine a_ialdL (ni := 2) C s144 ln144 (by decide) (vin _ _ (by decide +kernel)) dX12_touch_78 ?_
    refine x_iconst (v := (1 : Int32)) C dX12_touch_79 (by decide) ?_
    refine x_iadd C dX12_touch_80 ?_
    obtain ⟨M13, eM13⟩ : ∃ z : Mem, z = uI M12 144 2 ((M12.1 144 2) + (1 : Int32)) := ⟨_, rfl⟩
    replace hw := hw M13 eM13
    refine a_iast C s144 ln144 (by decide) (vin _ _ (by decide +kernel)) eM13 dX12_touch_81 ?_
    exact n_vreturn C r dX12_touch_82 hw

def w_X12_step_b179 (v1 : Int32) (v2 : Int32) (v3 : Int32) (v4 : Int32) (v5 : Int32) (M : Mem) (q : Int32 → Mem → Prop) : Prop := vp_in v5 8 ∧ ∀ x2 : Int32, x2 = ((M.1 140 (v5).toNatClampNeg) &&& (63 : Int32)) → w_X12_touch v1 x2 v3 M (fun (M3 : Mem) => vp_in ((4 : Int32) * v2) 160 ∧ ((¬ (M3.1 139 (((4 : Int32) * v2)).toNatClampNeg) = (4 : Int32) → vp_in v4 8 ∧ vp_in x2 64 ∧ ∀ M9 : Mem, M9 = uI M3 141 (x2).toNatClampNeg (M3.1 140 (v4).toNatClampNeg) → q (v2 + (1 : Int32)) M9) ∧ ((M3.1 139 (((4 : Int32) * v2)).toNatClampNeg) = (4 : Int32) → vp_in x2 64 ∧ vp_in v4 8 ∧ ∀ M12 : Mem, M12 = uI M3 140 (v4).toNatClampNeg (M3.1 141 (x2).toNatClampNeg) → q (v2 + (1 : Int32)) M12)))
set_option maxRecDepth 100000 in
set_option maxHeartbeats 4000000 in
theorem ok_X12_step_b179 {c : CtxT} {g : Gl} {l : Launch} {v1 : Int32} {v2 : Int32} {v3 : Int32} {v4 : Int32} {v5 : Int32} {q : Int32 → Mem → Prop} {M : Mem} (C : Cx c cX12_step 10 RX12 g l (Rm 2 26)) (r : Rt c (some .int) (pI q) 0 0) (hw : w_X12_step_b179 v1 v2 v3 v4 v5 M q ) : X c S0 179 [(0, .ref (g.2.2.2 + 135)), (1, .int v1), (2, .int v2), (3, .int v3), (4, .int v4), (5, .int v5)] [] (stat M) := by
  unfold w_X12_step_b179 at hw
  refine x_aload_n C dX12_step_179 rfl rfl ?_
  refine n_getS (dd := 5) C fl_X12_23 s135 (fun _ _ => rfl) rfl dX12_step_180 ?_
  refine x_iload C dX12_step_183 rfl ?_
  obtain ⟨h1, hw⟩ := hw
  refine a_iald C s140 ln140 h1 dX12_step_185 ?_
  refine x_bipush (v := (63 : Int32)) C dX12_step_186 (by decide) ?_
  refine x_iand C dX12_step_188 ?_
  obtain ⟨x2, ex2⟩ : ∃ z : Int32, z = ((M.1 140 (v5).toNatClampNeg) &&& (63 : Int32)) := ⟨_, rfl⟩
  replace hw := hw x2 ex2
  refine x_topi ex2 ?_
  refine x_istore C dX12_step_189 (Nat.le_of_ble_eq_true rfl) ?_
  refine x_aload_n C dX12_step_191 rfl rfl ?_
  refine x_iload_n C dX12_step_192 rfl rfl ?_
  refine x_iload C dX12_step_193 rfl ?_
  refine x_iload_n C dX12_step_195 rfl rfl ?_
  refine n_callVV s135 rfl C (ok_X12_touch  hw) mv_X12_127 rfl rfl ⟨Nat.le_of_ble_eq_true rfl, Nat.le_of_ble_eq_true rfl⟩ (Nat.le_of_ble_eq_true rfl) dX12_step_196 (fun M3 hw => ?_)
  refine x_aload_n C dX12_step_199 rfl rfl ?_
  refine n_getS (dd := 4) C fl_X12_20 s135 (fun _ _ => rfl) rfl dX12_step_200 ?_
  refine x_iconst (v := (4 : Int32)) C dX12_step_203 (by decide) ?_
  refine x_iload_n C dX12_step_204 rfl rfl ?_
  refine x_imul C dX12_step_205 ?_
  obtain ⟨h5, hw⟩ := hw
  refine a_iald C s139 ln139 h5 dX12_step_206 ?_
  refine x_iconst (v := (4 : Int32)) C dX12_step_207 (by decide) ?_
  refine x_icmp_ne (tgt := 228) C dX12_step_208 (by decide) (fun h6 => ?_) (fun h6 => ?_)
  · replace hw := hw.1 h6
    refine x_aload_n C dX12_step_228 rfl rfl ?_
    refine n_getS (dd := 6) C fl_X12_26 s135 (fun _ _ => rfl) rfl dX12_step_229 ?_
    refine x_iload C dX12_step_232 rfl ?_
    refine x_aload_n C dX12_step_234 rfl rfl ?_
    refine n_getS (dd := 5) C fl_X12_23 s135 (fun _ _ => rfl) rfl dX12_step_235 ?_
    refine x_iload C dX12_step_238 rfl ?_
    obtain ⟨h7, hw⟩ := hw
    refine a_iald C s140 ln140 h7 dX12_step_240 ?_
    obtain ⟨h8, hw⟩ := hw
    obtain ⟨M9, eM9⟩ : ∃ z : Mem, z = uI M3 141 (x2).toNatClampNeg (M3.1 140 (v4).toNatClampNeg) := ⟨_, rfl⟩
    replace hw := hw M9 eM9
    refine a_iast C s141 ln141 rfl h8 eM9 dX12_step_241 ?_
    refine x_iload_n C dX12_step_242 rfl rfl ?_
    refine x_iconst (v := (1 : Int32)) C dX12_step_243 (by decide) ?_
    refine x_iadd C dX12_step_244 ?_
    exact n_ireturn C r dX12_step_245 hw
  · replace hw := hw.2 h6
    refine x_aload_n C dX12_step_211 rfl rfl ?_
    refine n_getS (dd := 5) C fl_X12_23 s135 (fun _ _ => rfl) rfl dX12_step_212 ?_
    refine x_iload C dX12_step_215 rfl ?_
    refine x_aload_n C dX12_step_217 rfl rfl ?_
    refine n_getS (dd := 6) C fl_X12_26 s135 (fun _ _ => rfl) rfl dX12_step_218 ?_
    refine x_iload C dX12_step_221 rfl ?_
    obtain ⟨h10, hw⟩ := hw
    refine a_iald C s141 ln141 h10 dX12_step_223 ?_
    obtain ⟨h11, hw⟩ := hw
    obtain ⟨M12, eM12⟩ : ∃ z : Mem, z = uI M3 140 (v4).toNatClampNeg (M3.1 141 (x2).toNatClampNeg) := ⟨_, rfl⟩
    replace hw := hw M12 eM12
    refine a_iast C s140 ln140 rfl h11 eM12 dX12_step_224 ?_
    refine x_goto (tgt := 242) C dX12_step_225 (by decide) ?_
    refine x_iload_n C dX12_step_242 rfl rfl ?_
    refine x_iconst (v := (1 : Int32)) C dX12_step_243 (by decide) ?_
    refine x_iadd C dX12_step_244 ?_
    exact n_ireturn C r dX12_step_245 hw
def w_X12_step_b317 (v2 : Int32) (v5 : Int32) (v8 : Int32) (v9 : Int32) (t1 : Int32) (t2 : Int32) (t3 : Int32) (M : Mem) (q : Int32 → Mem → Prop) : Prop := vp_in t1 6 ∧ ∀ M14 : Mem, M14 = uI M 144 (t1).toNatClampNeg (t2 + t3) → vp_in v9 16 ∧ ∀ M16 : Mem, M16 = uI M14 143 (v9).toNatClampNeg v8 → ((¬ v8 = (1 : Int32) → q (v2 + (1 : Int32)) M16) ∧ (v8 = (1 : Int32) → q v5 M16))
set_option maxRecDepth 100000 in
set_option maxHeartbeats 4000000 in
theorem ok_X12_step_b317 {c : CtxT} {g : Gl} {l : Launch} {v2 : Int32} {v5 : Int32} {v8 : Int32} {v9 : Int32} {t1 : Int32} {t2 : Int32} {t3 : Int32} {q : Int32 → Mem → Prop} {M : Mem} (C : Cx c cX12_step 10 RX12 g l (Rm 2 26)) (r : Rt c (some .int) (pI q) 0 0) (hw : w_X12_step_b317 v2 v5 v8 v9 t1 t2 t3 M q ) : X c S0 317 [(0, .ref (g.2.2.2 + 135)), (2, .int v2), (5, .int v5), (8, .int v8), (9, .int v9)] [.int t3, .int t2, .int t1, .ref (g.2.2.2 + 144)] (stat M) := by
  unfold w_X12_step_b317 at hw
  refine x_iadd C dX12_step_317 ?_
  obtain ⟨h13, hw⟩ := hw
  obtain ⟨M14, eM14⟩ : ∃ z : Mem, z = uI M 144 (t1).toNatClampNeg (t2 + t3) := ⟨_, rfl⟩
  replace hw := hw M14 eM14
  refine a_iast C s144 ln144 rfl h13 eM14 dX12_step_318 ?_
  refine x_aload_n C dX12_step_319 rfl rfl ?_
  refine n_getS (dd := 8) C fl_X12_32 s135 (fun _ _ => rfl) rfl dX12_step_320 ?_
  refine x_iload C dX12_step_323 rfl ?_
  refine x_iload C dX12_step_325 rfl ?_
  obtain ⟨h15, hw⟩ := hw
  obtain ⟨M16, eM16⟩ : ∃ z : Mem, z = uI M14 143 (v9).toNatClampNeg v8 := ⟨_, rfl⟩
  replace hw := hw M16 eM16
  refine a_iast C s143 ln143 rfl h15 eM16 dX12_step_327 ?_
  refine x_iload C dX12_step_328 rfl ?_
  refine x_iconst (v := (1 : Int32)) C dX12_step_330 (by decide) ?_
  refine x_icmp_ne (tgt := 339) C dX12_step_331 (by decide) (fun h17 => ?_) (fun h17 => ?_)
  · replace hw := hw.1 h17
    refine x_iload_n C dX12_step_339 rfl rfl ?_
    refine x_iconst (v := (1 : Int32)) C dX12_step_340 (by decide) ?_
    refine x_iadd C dX12_step_341 ?_
    exact n_ireturn C r dX12_step_342 hw
  · replace hw := hw.2 h17
    refine x_iload C dX12_step_334 rfl ?_
    refine x_goto (tgt := 342) C dX12_step_336 (by decide) ?_
    exact n_ireturn C r dX12_step_342 hw
def w_X12_step_b261 (v1 : Int32) (v2 : Int32) (v5 : Int32) (t0 : Int32) (M : Mem) (q : Int32 → Mem → Prop) : Prop := vp_in (((1106 : Int32) + ((60 : Int32) * v1)) + (11 : Int32)) 4230 ∧ ¬ (M.1 136 ((((1106 : Int32) + ((60 : Int32) * v1)) + (11 : Int32))).toNatClampNeg) = 0 ∧ ∀ x20 : Int32, x20 = (irm v2 (M.1 136 ((((1106 : Int32) + ((60 : Int32) * v1)) + (11 : Int32))).toNatClampNeg)) → ∀ M21 : Mem, M21 = uI M 144 3 ((M.1 144 3) + (1 : Int32)) → vp_in x20 16 ∧ ((¬ (M21.1 143 (x20).toNatClampNeg) = t0 → w_X12_step_b317 v2 v5 t0 x20 (4 : Int32) (M21.1 144 4) (1 : Int32) M21 q) ∧ ((M21.1 143 (x20).toNatClampNeg) = t0 → w_X12_step_b317 v2 v5 t0 x20 (4 : Int32) (M21.1 144 4) (0 : Int32) M21 q))
set_option maxRecDepth 100000 in
set_option maxHeartbeats 4000000 in
theorem ok_X12_step_b261 {c : CtxT} {g : Gl} {l : Launch} {v1 : Int32} {v2 : Int32} {v5 : Int32} {t0 : Int32} {q : Int32 → Mem → Prop} {M : Mem} (C : Cx c cX12_step 10 RX12 g l (Rm 2 26)) (r : Rt c (some .int) (pI q) 0 0) (hw : w_X12_step_b261 v1 v2 v5 t0 M q ) : X c S0 261 [(0, .ref (g.2.2.2 + 135)), (1, .int v1), (2, .int v2), (5, .int v5)] [.int t0] (stat M) := by
  unfold w_X12_step_b261 at hw
  refine x_istore C dX12_step_261 (Nat.le_of_ble_eq_true rfl) ?_
  refine x_iload_n C dX12_step_263 rfl rfl ?_
  refine x_aload_n C dX12_step_264 rfl rfl ?_
  refine n_getS (dd := 1) C fl_X12_7 s135 (fun _ _ => rfl) rfl dX12_step_265 ?_
  refine x_sipush (v := (1106 : Int32)) C dX12_step_268 (by decide) ?_
  refine x_bipush (v := (60 : Int32)) C dX12_step_271 (by decide) ?_
  refine x_iload_n C dX12_step_273 rfl rfl ?_
  refine x_imul C dX12_step_274 ?_
  refine x_iadd C dX12_step_275 ?_
  refine x_bipush (v := (11 : Int32)) C dX12_step_276 (by decide) ?_
  refine x_iadd C dX12_step_278 ?_
  obtain ⟨h18, hw⟩ := hw
  refine a_iald C s136 ln136 h18 dX12_step_279 ?_
  obtain ⟨h19, hw⟩ := hw
  refine x_iremv C dX12_step_280 h19 ?_
  obtain ⟨x20, ex20⟩ : ∃ z : Int32, z = (irm v2 (M.1 136 ((((1106 : Int32) + ((60 : Int32) * v1)) + (11 : Int32))).toNatClampNeg)) := ⟨_, rfl⟩
  replace hw := hw x20 ex20
  refine x_topi ex20 ?_
  refine x_istore C dX12_step_281 (Nat.le_of_ble_eq_true rfl) ?_
  refine x_aload_n C dX12_step_283 rfl rfl ?_
  refine n_getS (dd := 9) C fl_X12_35 s135 (fun _ _ => rfl) rfl dX12_step_284 ?_
  refine x_iconst (v := (3 : Int32)) C dX12_step_287 (by decide) ?_
  refine x_dup2_11 C dX12_step_288 rfl rfl ?_
  refine a_ialdL (ni := 3) C s144 ln144 (by decide) (vin _ _ (by decide +kernel)) dX12_step_289 ?_
  refine x_iconst (v := (1 : Int32)) C dX12_step_290 (by decide) ?_
  refine x_iadd C dX12_step_291 ?_
  obtain ⟨M21, eM21⟩ : ∃ z : Mem, z = uI M 144 3 ((M.1 144 3) + (1 : Int32)) := ⟨_, rfl⟩
  replace hw := hw M21 eM21
  refine a_iast C s144 ln144 (by decide) (vin _ _ (by decide +kernel)) eM21 dX12_step_292 ?_
  refine x_aload_n C dX12_step_293 rfl rfl ?_
  refine n_getS (dd := 9) C fl_X12_35 s135 (fun _ _ => rfl) rfl dX12_step_294 ?_
  refine x_iconst (v := (4 : Int32)) C dX12_step_297 (by decide) ?_
  refine x_dup2_11 C dX12_step_298 rfl rfl ?_
  refine a_ialdL (ni := 4) C s144 ln144 (by decide) (vin _ _ (by decide +kernel)) dX12_step_299 ?_
  refine x_aload_n C dX12_step_300 rfl rfl ?_
  refine n_getS (dd := 8) C fl_X12_32 s135 (fun _ _ => rfl) rfl dX12_step_301 ?_
  refine x_iload C dX12_step_304 rfl ?_
  obtain ⟨h22, hw⟩ := hw
  refine a_iald C s143 ln143 h22 dX12_step_306 ?_
  refine x_iload C dX12_step_307 rfl ?_
  refine x_icmp_ne (tgt := 316) C dX12_step_309 (by decide) (fun h23 => ?_) (fun h23 => ?_)
  · replace hw := hw.1 h23
    refine x_iconst (v := (1 : Int32)) C dX12_step_316 (by decide) ?_
    exact x_sub [0, 2, 5, 8, 9] rfl (ok_X12_step_b317 C r  hw)
  · replace hw := hw.2 h23
    refine x_iconst (v := (0 : Int32)) C dX12_step_312 (by decide) ?_
    refine x_goto (tgt := 317) C dX12_step_313 (by decide) ?_
    exact x_sub [0, 2, 5, 8, 9] rfl (ok_X12_step_b317 C r  hw)
def w_X12_step (v1 : Int32) (v2 : Int32) (v3 : Int32) (M : Mem) (q : Int32 → Mem → Prop) : Prop := vp_in (((4 : Int32) * v2) + (1 : Int32)) 160 ∧ ∀ x25 : Int32, x25 = (M.1 139 ((((4 : Int32) * v2) + (1 : Int32))).toNatClampNeg) → vp_in (((4 : Int32) * v2) + (2 : Int32)) 160 ∧ ∀ x27 : Int32, x27 = (M.1 139 ((((4 : Int32) * v2) + (2 : Int32))).toNatClampNeg) → vp_in (((4 : Int32) * v2) + (3 : Int32)) 160 ∧ ∀ x29 : Int32, x29 = (M.1 139 ((((4 : Int32) * v2) + (3 : Int32))).toNatClampNeg) → vp_in ((4 : Int32) * v2) 160 ∧ (((M.1 139 (((4 : Int32) * v2)).toNatClampNeg) = (0 : Int32) → vp_in x25 8 ∧ ∀ M33 : Mem, M33 = uI M 140 (x25).toNatClampNeg x27 → q (v2 + (1 : Int32)) M33) ∧ ((M.1 139 (((4 : Int32) * v2)).toNatClampNeg) = (1 : Int32) → vp_in x27 8 ∧ vp_in x29 8 ∧ vp_in x25 8 ∧ ∀ M37 : Mem, M37 = uI M 140 (x25).toNatClampNeg ((M.1 140 (x27).toNatClampNeg) + (M.1 140 (x29).toNatClampNeg)) → q (v2 + (1 : Int32)) M37) ∧ ((M.1 139 (((4 : Int32) * v2)).toNatClampNeg) = (2 : Int32) → vp_in x27 8 ∧ vp_in x29 8 ∧ vp_in x25 8 ∧ ∀ M41 : Mem, M41 = uI M 140 (x25).toNatClampNeg ((M.1 140 (x27).toNatClampNeg) - (M.1 140 (x29).toNatClampNeg)) → q (v2 + (1 : Int32)) M41) ∧ ((M.1 139 (((4 : Int32) * v2)).toNatClampNeg) = (3 : Int32) → vp_in x27 8 ∧ vp_in x29 8 ∧ vp_in x25 8 ∧ ∀ M45 : Mem, M45 = uI M 140 (x25).toNatClampNeg ((M.1 140 (x27).toNatClampNeg) * (M.1 140 (x29).toNatClampNeg)) → q (v2 + (1 : Int32)) M45) ∧ ((M.1 139 (((4 : Int32) * v2)).toNatClampNeg) = (4 : Int32) → w_X12_step_b179 v1 v2 v3 x25 x27 M q) ∧ ((M.1 139 (((4 : Int32) * v2)).toNatClampNeg) = (5 : Int32) → w_X12_step_b179 v1 v2 v3 x25 x27 M q) ∧ ((M.1 139 (((4 : Int32) * v2)).toNatClampNeg) = (6 : Int32) → vp_in x25 8 ∧ (((M.1 140 (x25).toNatClampNeg) ≤ 0 → w_X12_step_b261 v1 v2 x27 (0 : Int32) M q) ∧ (¬ (M.1 140 (x25).toNatClampNeg) ≤ 0 → w_X12_step_b261 v1 v2 x27 (1 : Int32) M q))) ∧ ((((M.1 139 (((4 : Int32) * v2)).toNatClampNeg)).toInt < 0 ∨ 6 < ((M.1 139 (((4 : Int32) * v2)).toNatClampNeg)).toInt) → q (40 : Int32) M))
set_option maxRecDepth 100000 in
set_option maxHeartbeats 4000000 in
theorem ok_X12_step {g : Gl} {l : Launch} {v1 : Int32} {v2 : Int32} {v3 : Int32} {M : Mem} {q : Int32 → Mem → Prop} (hw : w_X12_step v1 v2 v3 M q) : CtI g l yX12_step cX12_step 10 (some .int) 2 26 [.ref (g.2.2.2 + 135), .int v1, .int v2, .int v3] M q := by
  refine n_introI (by decide +kernel) (Nat.le_of_ble_eq_true rfl) (fun c C r => ?_)
  have C : Cx c cX12_step 10 RX12 g l (Rm 2 26) := C
  refine x_sub [0, 1, 2, 3] (lv' := [(0, .ref (g.2.2.2 + 135)), (1, .int v1), (2, .int v2), (3, .int v3)]) rfl ?_
  unfold w_X12_step at hw
  refine x_aload_n C dX12_step_0 rfl rfl ?_
  refine n_getS (dd := 4) C fl_X12_20 s135 (fun _ _ => rfl) rfl dX12_step_1 ?_
  refine x_iconst (v := (4 : Int32)) C dX12_step_4 (by decide) ?_
  refine x_iload_n C dX12_step_5 rfl rfl ?_
  refine x_imul C dX12_step_6 ?_
  refine x_iconst (v := (1 : Int32)) C dX12_step_7 (by decide) ?_
  refine x_iadd C dX12_step_8 ?_
  obtain ⟨h24, hw⟩ := hw
  refine a_iald C s139 ln139 h24 dX12_step_9 ?_
  obtain ⟨x25, ex25⟩ : ∃ z : Int32, z = (M.1 139 ((((4 : Int32) * v2) + (1 : Int32))).toNatClampNeg) := ⟨_, rfl⟩
  replace hw := hw x25 ex25
  refine x_topi ex25 ?_
  refine x_istore C dX12_step_10 (Nat.le_of_ble_eq_true rfl) ?_
  refine x_aload_n C dX12_step_12 rfl rfl ?_
  refine n_getS (dd := 4) C fl_X12_20 s135 (fun _ _ => rfl) rfl dX12_step_13 ?_
  refine x_iconst (v := (4 : Int32)) C dX12_step_16 (by decide) ?_
  refine x_iload_n C dX12_step_17 rfl rfl ?_
  refine x_imul C dX12_step_18 ?_
  refine x_iconst (v := (2 : Int32)) C dX12_step_19 (by decide) ?_
  refine x_iadd C dX12_step_20 ?_
  obtain ⟨h26, hw⟩ := hw
  refine a_iald C s139 ln139 h26 dX12_step_21 ?_
  obtain ⟨x27, ex27⟩ : ∃ z : Int32, z = (M.1 139 ((((4 : Int32) * v2) + (2 : Int32))).toNatClampNeg) := ⟨_, rfl⟩
  replace hw := hw x27 ex27
  refine x_topi ex27 ?_
  refine x_istore C dX12_step_22 (Nat.le_of_ble_eq_true rfl) ?_
  refine x_aload_n C dX12_step_24 rfl rfl ?_
  refine n_getS (dd := 4) C fl_X12_20 s135 (fun _ _ => rfl) rfl dX12_step_25 ?_
  refine x_iconst (v := (4 : Int32)) C dX12_step_28 (by decide) ?_
  refine x_iload_n C dX12_step_29 rfl rfl ?_
  refine x_imul C dX12_step_30 ?_
  refine x_iconst (v := (3 : Int32)) C dX12_step_31 (by decide) ?_
  refine x_iadd C dX12_step_32 ?_
  obtain ⟨h28, hw⟩ := hw
  refine a_iald C s139 ln139 h28 dX12_step_33 ?_
  obtain ⟨x29, ex29⟩ : ∃ z : Int32, z = (M.1 139 ((((4 : Int32) * v2) + (3 : Int32))).toNatClampNeg) := ⟨_, rfl⟩
  replace hw := hw x29 ex29
  refine x_topi ex29 ?_
  refine x_istore C dX12_step_34 (Nat.le_of_ble_eq_true rfl) ?_
  refine x_aload_n C dX12_step_36 rfl rfl ?_
  refine n_getS (dd := 4) C fl_X12_20 s135 (fun _ _ => rfl) rfl dX12_step_37 ?_
  refine x_iconst (v := (4 : Int32)) C dX12_step_40 (by decide) ?_
  refine x_iload_n C dX12_step_41 rfl rfl ?_
  refine x_imul C dX12_step_42 ?_
  obtain ⟨h30, hw⟩ := hw
  refine a_iald C s139 ln139 h30 dX12_step_43 ?_
  by_cases h31 : ((M.1 139 (((4 : Int32) * v2)).toNatClampNeg)).toInt < 0 ∨ 6 < ((M.1 139 (((4 : Int32) * v2)).toNatClampNeg)).toInt
  · refine x_tableOut (tgt := 343) C dX12_step_44 h31 (by decide) ?_
    replace hw := hw.2.2.2.2.2.2.2 h31
    refine x_bipush (v := (40 : Int32)) C dX12_step_343 (by decide) ?_
    exact n_ireturn C r dX12_step_345 hw
  · have hlo : ¬ ((M.1 139 (((4 : Int32) * v2)).toNatClampNeg)).toInt < 0 := fun z => h31 (Or.inl z)
    have hhi : ¬ 6 < ((M.1 139 (((4 : Int32) * v2)).toNatClampNeg)).toInt := fun z => h31 (Or.inr z)
    have hor : ((M.1 139 (((4 : Int32) * v2)).toNatClampNeg)).toInt = 0 ∨ ((M.1 139 (((4 : Int32) * v2)).toNatClampNeg)).toInt = 1 ∨ ((M.1 139 (((4 : Int32) * v2)).toNatClampNeg)).toInt = 2 ∨ ((M.1 139 (((4 : Int32) * v2)).toNatClampNeg)).toInt = 3 ∨ ((M.1 139 (((4 : Int32) * v2)).toNatClampNeg)).toInt = 4 ∨ ((M.1 139 (((4 : Int32) * v2)).toNatClampNeg)).toInt = 5 ∨ ((M.1 139 (((4 : Int32) * v2)).toNatClampNeg)).toInt = 6 := by omega
    rcases hor with hor | hor | hor | hor | hor | hor | hor
    · have heq : (M.1 139 (((4 : Int32) * v2)).toNatClampNeg) = (0 : Int32) := Int32.toInt_inj.mp (hor.trans (by decide))
      refine x_tableIn (off := 44) (tgt := 88) C dX12_step_44 hlo hhi (by rw [hor]; decide) (by decide) ?_
      replace hw := hw.1 heq
      refine x_aload_n C dX12_step_88 rfl rfl ?_
      refine n_getS (dd := 5) C fl_X12_23 s135 (fun _ _ => rfl) rfl dX12_step_89 ?_
      refine x_iload C dX12_step_92 rfl ?_
      refine x_iload C dX12_step_94 rfl ?_
      obtain ⟨h32, hw⟩ := hw
      obtain ⟨M33, eM33⟩ : ∃ z : Mem, z = uI M 140 (x25).toNatClampNeg x27 := ⟨_, rfl⟩
      replace hw := hw M33 eM33
      refine a_iast C s140 ln140 rfl h32 eM33 dX12_step_96 ?_
      refine x_iload_n C dX12_step_97 rfl rfl ?_
      refine x_iconst (v := (1 : Int32)) C dX12_step_98 (by decide) ?_
      refine x_iadd C dX12_step_99 ?_
      exact n_ireturn C r dX12_step_100 hw
    · have heq : (M.1 139 (((4 : Int32) * v2)).toNatClampNeg) = (1 : Int32) := Int32.toInt_inj.mp (hor.trans (by decide))
      refine x_tableIn (off := 57) (tgt := 101) C dX12_step_44 hlo hhi (by rw [hor]; decide) (by decide) ?_
      replace hw := hw.2.1 heq
      refine x_aload_n C dX12_step_101 rfl rfl ?_
      refine n_getS (dd := 5) C fl_X12_23 s135 (fun _ _ => rfl) rfl dX12_step_102 ?_
      refine x_iload C dX12_step_105 rfl ?_
      refine x_aload_n C dX12_step_107 rfl rfl ?_
      refine n_getS (dd := 5) C fl_X12_23 s135 (fun _ _ => rfl) rfl dX12_step_108 ?_
      refine x_iload C dX12_step_111 rfl ?_
      obtain ⟨h34, hw⟩ := hw
      refine a_iald C s140 ln140 h34 dX12_step_113 ?_
      refine x_aload_n C dX12_step_114 rfl rfl ?_
      refine n_getS (dd := 5) C fl_X12_23 s135 (fun _ _ => rfl) rfl dX12_step_115 ?_
      refine x_iload C dX12_step_118 rfl ?_
      obtain ⟨h35, hw⟩ := hw
      refine a_iald C s140 ln140 h35 dX12_step_120 ?_
      refine x_iadd C dX12_step_121 ?_
      obtain ⟨h36, hw⟩ := hw
      obtain ⟨M37, eM37⟩ : ∃ z : Mem, z = uI M 140 (x25).toNatClampNeg ((M.1 140 (x27).toNatClampNeg) + (M.1 140 (x29).toNatClampNeg)) := ⟨_, rfl⟩
      replace hw := hw M37 eM37
      refine a_iast C s140 ln140 rfl h36 eM37 dX12_step_122 ?_
      refine x_iload_n C dX12_step_123 rfl rfl ?_
      refine x_iconst (v := (1 : Int32)) C dX12_step_124 (by decide) ?_
      refine x_iadd C dX12_step_125 ?_
      exact n_ireturn C r dX12_step_126 hw
    · have heq : (M.1 139 (((4 : Int32) * v2)).toNatClampNeg) = (2 : Int32) := Int32.toInt_inj.mp (hor.trans (by decide))
      refine x_tableIn (off := 83) (tgt := 127) C dX12_step_44 hlo hhi (by rw [hor]; decide) (by decide) ?_
      replace hw := hw.2.2.1 heq
      refine x_aload_n C dX12_step_127 rfl rfl ?_
      refine n_getS (dd := 5) C fl_X12_23 s135 (fun _ _ => rfl) rfl dX12_step_128 ?_
      refine x_iload C dX12_step_131 rfl ?_
      refine x_aload_n C dX12_step_133 rfl rfl ?_
      refine n_getS (dd := 5) C fl_X12_23 s135 (fun _ _ => rfl) rfl dX12_step_134 ?_
      refine x_iload C dX12_step_137 rfl ?_
      obtain ⟨h38, hw⟩ := hw
      refine a_iald C s140 ln140 h38 dX12_step_139 ?_
      refine x_aload_n C dX12_step_140 rfl rfl ?_
      refine n_getS (dd := 5) C fl_X12_23 s135 (fun _ _ => rfl) rfl dX12_step_141 ?_
      refine x_iload C dX12_step_144 rfl ?_
      obtain ⟨h39, hw⟩ := hw
      refine a_iald C s140 ln140 h39 dX12_step_146 ?_
      refine x_isub C dX12_step_147 ?_
      obtain ⟨h40, hw⟩ := hw
      obtain ⟨M41, eM41⟩ : ∃ z : Mem, z = uI M 140 (x25).toNatClampNeg ((M.1 140 (x27).toNatClampNeg) - (M.1 140 (x29).toNatClampNeg)) := ⟨_, rfl⟩
      replace hw := hw M41 eM41
      refine a_iast C s140 ln140 rfl h40 eM41 dX12_step_148 ?_
      refine x_iload_n C dX12_step_149 rfl rfl ?_
      refine x_iconst (v := (1 : Int32)) C dX12_step_150 (by decide) ?_
      refine x_iadd C dX12_step_151 ?_
      exact n_ireturn C r dX12_step_152 hw
    · have heq : (M.1 139 (((4 : Int32) * v2)).toNatClampNeg) = (3 : Int32) := Int32.toInt_inj.mp (hor.trans (by decide))
      refine x_tableIn (off := 109) (tgt := 153) C dX12_step_44 hlo hhi (by rw [hor]; decide) (by decide) ?_
      replace hw := hw.2.2.2.1 heq
      refine x_aload_n C dX12_step_153 rfl rfl ?_
      refine n_getS (dd := 5) C fl_X12_23 s135 (fun _ _ => rfl) rfl dX12_step_154 ?_
      refine x_iload C dX12_step_157 rfl ?_
      refine x_aload_n C dX12_step_159 rfl rfl ?_
      refine n_getS (dd := 5) C fl_X12_23 s135 (fun _ _ => rfl) rfl dX12_step_160 ?_
      refine x_iload C dX12_step_163 rfl ?_
      obtain ⟨h42, hw⟩ := hw
      refine a_iald C s140 ln140 h42 dX12_step_165 ?_
      refine x_aload_n C dX12_step_166 rfl rfl ?_
      refine n_getS (dd := 5) C fl_X12_23 s135 (fun _ _ => rfl) rfl dX12_step_167 ?_
      refine x_iload C dX12_step_170 rfl ?_
      obtain ⟨h43, hw⟩ := hw
      refine a_iald C s140 ln140 h43 dX12_step_172 ?_
      refine x_imul C dX12_step_173 ?_
      obtain ⟨h44, hw⟩ := hw
      obtain ⟨M45, eM45⟩ : ∃ z : Mem, z = uI M 140 (x25).toNatClampNeg ((M.1 140 (x27).toNatClampNeg) * (M.1 140 (x29).toNatClampNeg)) := ⟨_, rfl⟩
      replace hw := hw M45 eM45
      refine a_iast C s140 ln140 rfl h44 eM45 dX12_step_174 ?_
      refine x_iload_n C dX12_step_175 rfl rfl ?_
      refine x_iconst (v := (1 : Int32)) C dX12_step_176 (by decide) ?_
      refine x_iadd C dX12_step_177 ?_
      exact n_ireturn C r dX12_step_178 hw
    · have heq : (M.1 139 (((4 : Int32) * v2)).toNatClampNeg) = (4 : Int32) := Int32.toInt_inj.mp (hor.trans (by decide))
      refine x_tableIn (off := 135) (tgt := 179) C dX12_step_44 hlo hhi (by rw [hor]; decide) (by decide) ?_
      replace hw := hw.2.2.2.2.1 heq
      exact x_sub [0, 1, 2, 3, 4, 5] rfl (ok_X12_step_b179 C r  hw)
    · have heq : (M.1 139 (((4 : Int32) * v2)).toNatClampNeg) = (5 : Int32) := Int32.toInt_inj.mp (hor.trans (by decide))
      refine x_tableIn (off := 135) (tgt := 179) C dX12_step_44 hlo hhi (by rw [hor]; decide) (by decide) ?_
      replace hw := hw.2.2.2.2.2.1 heq
      exact x_sub [0, 1, 2, 3, 4, 5] rfl (ok_X12_step_b179 C r  hw)
    · have heq : (M.1 139 (((4 : Int32) * v2)).toNatClampNeg) = (6 : Int32) := Int32.toInt_inj.mp (hor.trans (by decide))
      refine x_tableIn (off := 202) (tgt := 246) C dX12_step_44 hlo hhi (by rw [hor]; decide) (by decide) ?_
      replace hw := hw.2.2.2.2.2.2.1 heq
      refine x_aload_n C dX12_step_246 rfl rfl ?_
      refine n_getS (dd := 5) C fl_X12_23 s135 (fun _ _ => rfl) rfl dX12_step_247 ?_
      refine x_iload C dX12_step_250 rfl ?_
      obtain ⟨h46, hw⟩ := hw
      refine a_iald C s140 ln140 h46 dX12_step_252 ?_
      refine x_if_le (tgt := 260) C dX12_step_253 (by decide) (fun h47 => ?_) (fun h47 => ?_)
      · replace hw := hw.1 h47
        refine x_iconst (v := (0 : Int32)) C dX12_step_260 (by decide) ?_
        exact x_sub [0, 1, 2, 5] rfl (ok_X12_step_b261 C r  hw)
      · replace hw := hw.2 h47
        refine x_iconst (v := (1 : Int32)) C dX12_step_256 (by decide) ?_
        refine x_goto (tgt := 261) C dX12_step_257 (by decide) ?_
        exact x_sub [0, 1, 2, 5] rfl (ok_X12_step_b261 C r  hw)

def w_X12_goes_b200 (v4 : Int32) (v6 : Int32) (M : Mem) (q : Mem → Prop) : Prop := (((M.1 135 10) = 0 → vp_in (v4 + (10 : Int32)) 4230 ∧ vp_in (v4 + (12 : Int32)) 4230 ∧ ∀ M4 : Mem, M4 = uI M 144 5 ((v6 + ((M.1 144 2) * (M.1 136 ((v4 + (10 : Int32))).toNatClampNeg))) + ((M.1 144 4) * (M.1 136 ((v4 + (12 : Int32))).toNatClampNeg))) → q M4) ∧ (¬ (M.1 135 10) = 0 → ∀ M5 : Mem, M5 = uI M 144 5 (-1 : Int32) → q M5))
set_option maxRecDepth 100000 in
set_option maxHeartbeats 4000000 in
theorem ok_X12_goes_b200 {c : CtxT} {g : Gl} {l : Launch} {v4 : Int32} {v6 : Int32} {q : Mem → Prop} {M : Mem} (C : Cx c cX12_goes 7 RX12 g l (Rm 3 55)) (r : Rt c (none) (pV q) 0 0) (hw : w_X12_goes_b200 v4 v6 M q ) : X c S0 200 [(0, .ref (g.2.2.2 + 135)), (4, .int v4), (6, .int v6)] [] (stat M) := by
  unfold w_X12_goes_b200 at hw
  refine x_aload_n C dX12_goes_200 rfl rfl ?_
  refine n_getS (dd := 9) C fl_X12_35 s135 (fun _ _ => rfl) rfl dX12_goes_201 ?_
  refine x_iconst (v := (5 : Int32)) C dX12_goes_204 (by decide) ?_
  refine x_aload_n C dX12_goes_205 rfl rfl ?_
  refine n_getI C fl_X12_119 s135 (fun _ _ => rfl) dX12_goes_206 ?_
  refine x_if_eq (tgt := 216) C dX12_goes_209 (by decide) (fun h1 => ?_) (fun h1 => ?_)
  · replace hw := hw.1 h1
    refine x_iload C dX12_goes_216 rfl ?_
    refine x_aload_n C dX12_goes_218 rfl rfl ?_
    refine n_getS (dd := 9) C fl_X12_35 s135 (fun _ _ => rfl) rfl dX12_goes_219 ?_
    refine x_iconst (v := (2 : Int32)) C dX12_goes_222 (by decide) ?_
    refine a_ialdL (ni := 2) C s144 ln144 (by decide) (vin _ _ (by decide +kernel)) dX12_goes_223 ?_
    refine x_aload_n C dX12_goes_224 rfl rfl ?_
    refine n_getS (dd := 1) C fl_X12_7 s135 (fun _ _ => rfl) rfl dX12_goes_225 ?_
    refine x_iload C dX12_goes_228 rfl ?_
    refine x_bipush (v := (10 : Int32)) C dX12_goes_230 (by decide) ?_
    refine x_iadd C dX12_goes_232 ?_
    obtain ⟨h2, hw⟩ := hw
    refine a_iald C s136 ln136 h2 dX12_goes_233 ?_
    refine x_imul C dX12_goes_234 ?_
    refine x_iadd C dX12_goes_235 ?_
    refine x_aload_n C dX12_goes_236 rfl rfl ?_
    refine n_getS (dd := 9) C fl_X12_35 s135 (fun _ _ => rfl) rfl dX12_goes_237 ?_
    refine x_iconst (v := (4 : Int32)) C dX12_goes_240 (by decide) ?_
    refine a_ialdL (ni := 4) C s144 ln144 (by decide) (vin _ _ (by decide +kernel)) dX12_goes_241 ?_
    refine x_aload_n C dX12_goes_242 rfl rfl ?_
    refine n_getS (dd := 1) C fl_X12_7 s135 (fun _ _ => rfl) rfl dX12_goes_243 ?_
    refine x_iload C dX12_goes_246 rfl ?_
    refine x_bipush (v := (12 : Int32)) C dX12_goes_248 (by decide) ?_
    refine x_iadd C dX12_goes_250 ?_
    obtain ⟨h3, hw⟩ := hw
    refine a_iald C s136 ln136 h3 dX12_goes_251 ?_
    refine x_imul C dX12_goes_252 ?_
    refine x_iadd C dX12_goes_253 ?_
    obtain ⟨M4, eM4⟩ : ∃ z : Mem, z = uI M 144 5 ((v6 + ((M.1 144 2) * (M.1 136 ((v4 + (10 : Int32))).toNatClampNeg))) + ((M.1 144 4) * (M.1 136 ((v4 + (12 : Int32))).toNatClampNeg))) := ⟨_, rfl⟩
    replace hw := hw M4 eM4
    refine a_iast C s144 ln144 (by decide) (vin _ _ (by decide +kernel)) eM4 dX12_goes_254 ?_
    exact n_vreturn C r dX12_goes_255 hw
  · replace hw := hw.2 h1
    refine x_iconst (v := (-1 : Int32)) C dX12_goes_212 (by decide) ?_
    refine x_goto (tgt := 254) C dX12_goes_213 (by decide) ?_
    obtain ⟨M5, eM5⟩ : ∃ z : Mem, z = uI M 144 5 (-1 : Int32) := ⟨_, rfl⟩
    replace hw := hw M5 eM5
    refine a_iast C s144 ln144 (by decide) (vin _ _ (by decide +kernel)) eM5 dX12_goes_254 ?_
    exact n_vreturn C r dX12_goes_255 hw
def w_X12_goes_l119F (v1 : Int32) (v3 : Int32) (v4 : Int32) (q : Mem → Prop) (P119 : Int32 × Int32 × Mem → Prop) (s : Int32 × Int32 × Mem) : Prop := match s with
  | (v5, v6, M) => (((M.1 135 4) ≤ v5 → w_X12_goes_b200 v4 v6 M q) ∧ (¬ (M.1 135 4) ≤ v5 → ((¬ (M.1 135 10) = 0 → w_X12_goes_b200 v4 v6 M q) ∧ ((M.1 135 10) = 0 → ((¬ (M.1 144 0) = (2000 : Int32) → ∀ M9 : Mem, M9 = uI M 144 0 ((M.1 144 0) + (1 : Int32)) → vp_in ((4 : Int32) * v5) 160 ∧ vp_in (v4 + (M9.1 139 (((4 : Int32) * v5)).toNatClampNeg)) 4230 ∧ ∀ x12 : Int32, x12 = (v6 + (M9.1 136 ((v4 + (M9.1 139 (((4 : Int32) * v5)).toNatClampNeg))).toNatClampNeg)) → w_X12_step v1 v5 v3 M9 (fun (r14 : Int32) (M13 : Mem) => P119 (r14, x12, M13))) ∧ ((M.1 144 0) = (2000 : Int32) → ∀ M15 : Mem, M15 = uI M 135 10 (1 : Int32) → P119 (v5, v6, M15)))))))
def w_X12_goes_l119 (v1 : Int32) (v3 : Int32) (v4 : Int32) (q : Mem → Prop) (s : Int32 × Int32 × Mem) : Prop := lfp (w_X12_goes_l119F v1 v3 v4 q ) s
set_option maxRecDepth 100000 in
set_option maxHeartbeats 4000000 in
theorem ok_X12_goes_l119 {c : CtxT} {g : Gl} {l : Launch} {v1 : Int32} {v3 : Int32} {v4 : Int32} {q : Mem → Prop} {s : Int32 × Int32 × Mem} (C : Cx c cX12_goes 7 RX12 g l (Rm 3 55)) (r : Rt c (none) (pV q) 0 0) (hw : w_X12_goes_l119 v1 v3 v4 q s) : X c S0 119 [(0, .ref (g.2.2.2 + 135)), (1, .int v1), (3, .int v3), (4, .int v4), (5, .int s.1), (6, .int s.2.1)] [] (stat s.2.2) := hw (fun s => X c S0 119 [(0, .ref (g.2.2.2 + 135)), (1, .int v1), (3, .int v3), (4, .int v4), (5, .int s.1), (6, .int s.2.1)] [] (stat s.2.2)) (fun s hw => by
    obtain ⟨v5, v6, M⟩ := s
    try dsimp only [w_X12_goes_l119F] at hw
    try dsimp only
    refine x_iload C dX12_goes_119 rfl ?_
    refine x_aload_n C dX12_goes_121 rfl rfl ?_
    refine n_getI C fl_X12_115 s135 (fun _ _ => rfl) dX12_goes_122 ?_
    refine x_icmp_ge (tgt := 200) C dX12_goes_125 (by decide) (fun h6 => ?_) (fun h6 => ?_)
    · replace hw := hw.1 h6
      exact x_sub [0, 4, 6] rfl (ok_X12_goes_b200 C r  hw)
    · replace hw := hw.2 h6
      refine x_aload_n C dX12_goes_128 rfl rfl ?_
      refine n_getI C fl_X12_119 s135 (fun _ _ => rfl) dX12_goes_129 ?_
      refine x_if_ne (tgt := 200) C dX12_goes_132 (by decide) (fun h7 => ?_) (fun h7 => ?_)
      · replace hw := hw.1 h7
        exact x_sub [0, 4, 6] rfl (ok_X12_goes_b200 C r  hw)
      · replace hw := hw.2 h7
        refine x_aload_n C dX12_goes_135 rfl rfl ?_
        refine n_getS (dd := 9) C fl_X12_35 s135 (fun _ _ => rfl) rfl dX12_goes_136 ?_
        refine x_iconst (v := (0 : Int32)) C dX12_goes_139 (by decide) ?_
        refine a_ialdL (ni := 0) C s144 ln144 (by decide) (vin _ _ (by decide +kernel)) dX12_goes_140 ?_
        refine x_sipush (v := (2000 : Int32)) C dX12_goes_141 (by decide) ?_
        refine x_icmp_ne (tgt := 155) C dX12_goes_144 (by decide) (fun h8 => ?_) (fun h8 => ?_)
        · replace hw := hw.1 h8
          refine x_aload_n C dX12_goes_155 rfl rfl ?_
          refine n_getS (dd := 9) C fl_X12_35 s135 (fun _ _ => rfl) rfl dX12_goes_156 ?_
          refine x_iconst (v := (0 : Int32)) C dX12_goes_159 (by decide) ?_
          refine x_dup2_11 C dX12_goes_160 rfl rfl ?_
          refine a_ialdL (ni := 0) C s144 ln144 (by decide) (vin _ _ (by decide +kernel)) dX12_goes_161 ?_
          refine x_iconst (v := (1 : Int32)) C dX12_goes_162 (by decide) ?_
          refine x_iadd C dX12_goes_163 ?_
          obtain ⟨M9, eM9⟩ : ∃ z : Mem, z = uI M 144 0 ((M.1 144 0) + (1 : Int32)) := ⟨_, rfl⟩
          replace hw := hw M9 eM9
          refine a_iast C s144 ln144 (by decide) (vin _ _ (by decide +kernel)) eM9 dX12_goes_164 ?_
          refine x_iload C dX12_goes_165 rfl ?_
          refine x_aload_n C dX12_goes_167 rfl rfl ?_
          refine n_getS (dd := 1) C fl_X12_7 s135 (fun _ _ => rfl) rfl dX12_goes_168 ?_
          refine x_iload C dX12_goes_171 rfl ?_
          refine x_aload_n C dX12_goes_173 rfl rfl ?_
          refine n_getS (dd := 4) C fl_X12_20 s135 (fun _ _ => rfl) rfl dX12_goes_174 ?_
          refine x_iconst (v := (4 : Int32)) C dX12_goes_177 (by decide) ?_
          refine x_iload C dX12_goes_178 rfl ?_
          refine x_imul C dX12_goes_180 ?_
          obtain ⟨h10, hw⟩ := hw
          refine a_iald C s139 ln139 h10 dX12_goes_181 ?_
          refine x_iadd C dX12_goes_182 ?_
          obtain ⟨h11, hw⟩ := hw
          refine a_iald C s136 ln136 h11 dX12_goes_183 ?_
          refine x_iadd C dX12_goes_184 ?_
          obtain ⟨x12, ex12⟩ : ∃ z : Int32, z = (v6 + (M9.1 136 ((v4 + (M9.1 139 (((4 : Int32) * v5)).toNatClampNeg))).toNatClampNeg)) := ⟨_, rfl⟩
          replace hw := hw x12 ex12
          refine x_topi ex12 ?_
          refine x_istore C dX12_goes_185 (Nat.le_of_ble_eq_true rfl) ?_
          refine x_aload_n C dX12_goes_187 rfl rfl ?_
          refine x_iload_n C dX12_goes_188 rfl rfl ?_
          refine x_iload C dX12_goes_189 rfl ?_
          refine x_iload_n C dX12_goes_191 rfl rfl ?_
          refine n_callVI s135 rfl C (ok_X12_step  hw) mv_X12_123 rfl rfl ⟨Nat.le_of_ble_eq_true rfl, Nat.le_of_ble_eq_true rfl⟩ (Nat.le_of_ble_eq_true rfl) dX12_goes_192 (fun r14 M13 hw => ?_)
          refine x_istore C dX12_goes_195 (Nat.le_of_ble_eq_true rfl) ?_
          refine x_goto (tgt := 119) C dX12_goes_197 (by decide) ?_
          exact x_sub [0, 1, 3, 4, 5, 6] rfl hw
        · replace hw := hw.2 h8
          refine x_aload_n C dX12_goes_147 rfl rfl ?_
          refine x_iconst (v := (1 : Int32)) C dX12_goes_148 (by decide) ?_
          obtain ⟨M15, eM15⟩ : ∃ z : Mem, z = uI M 135 10 (1 : Int32) := ⟨_, rfl⟩
          replace hw := hw M15 eM15
          refine m_putI C fp_X12_119 s135 (fun _ _ => rfl) rfl rfl eM15 dX12_goes_149 ?_
          refine x_goto (tgt := 119) C dX12_goes_152 (by decide) ?_
          exact x_sub [0, 1, 3, 4, 5, 6] rfl hw)
def w_X12_goes_b101 (v1 : Int32) (v2 : Int32) (v3 : Int32) (v4 : Int32) (v5 : Int32) (t1 : Int32) (t2 : Int32) (M : Mem) (q : Mem → Prop) (P61 : Int32 × Mem → Prop) : Prop := vp_in t1 8 ∧ ∀ M17 : Mem, M17 = uI M 140 (t1).toNatClampNeg t2 → ∀ x18 : Int32, x18 = v5 + (1 : Int32) → P61 (x18, M17)
set_option maxRecDepth 100000 in
set_option maxHeartbeats 4000000 in
theorem ok_X12_goes_b101 {c : CtxT} {g : Gl} {l : Launch} {v1 : Int32} {v2 : Int32} {v3 : Int32} {v4 : Int32} {v5 : Int32} {t1 : Int32} {t2 : Int32} {q : Mem → Prop} {P61 : Int32 × Mem → Prop} {M : Mem} (C : Cx c cX12_goes 7 RX12 g l (Rm 3 55)) (r : Rt c (none) (pV q) 0 0) (hP61 : ∀ (v5 : Int32) (M : Mem), P61 (v5, M) → X c S0 61 [(0, .ref (g.2.2.2 + 135)), (1, .int v1), (2, .int v2), (3, .int v3), (4, .int v4), (5, .int v5)] [] (stat M)) (hw : w_X12_goes_b101 v1 v2 v3 v4 v5 t1 t2 M q P61) : X c S0 101 [(0, .ref (g.2.2.2 + 135)), (1, .int v1), (2, .int v2), (3, .int v3), (4, .int v4), (5, .int v5)] [.int t2, .int t1, .ref (g.2.2.2 + 140)] (stat M) := by
  unfold w_X12_goes_b101 at hw
  obtain ⟨h16, hw⟩ := hw
  obtain ⟨M17, eM17⟩ : ∃ z : Mem, z = uI M 140 (t1).toNatClampNeg t2 := ⟨_, rfl⟩
  replace hw := hw M17 eM17
  refine a_iast C s140 ln140 rfl h16 eM17 dX12_goes_101 ?_
  obtain ⟨x18, ex18⟩ : ∃ z : Int32, z = v5 + (1 : Int32) := ⟨_, rfl⟩
  replace hw := hw x18 ex18
  refine x_iinc (v := x18) C dX12_goes_102 rfl ex18.symm (Nat.le_of_ble_eq_true rfl) ?_
  refine x_goto (tgt := 61) C dX12_goes_105 (by decide) ?_
  exact x_sub [0, 1, 2, 3, 4, 5] rfl (hP61 _ _ hw)
def w_X12_goes_l61F (v1 : Int32) (v2 : Int32) (v3 : Int32) (v4 : Int32) (q : Mem → Prop) (P61 : Int32 × Mem → Prop) (s : Int32 × Mem) : Prop := match s with
  | (v5, M) => (((8 : Int32) ≤ v5 → ∀ M20 : Mem, M20 = uI M 135 10 (0 : Int32) → w_X12_goes_l119 v1 v3 v4 q ((0 : Int32), (0 : Int32), M20)) ∧ (¬ (8 : Int32) ≤ v5 → (((4 : Int32) ≤ v5 → vp_in ((((1074 : Int32) + ((4 : Int32) * v2)) + v5) - (4 : Int32)) 4230 ∧ w_X12_goes_b101 v1 v2 v3 v4 v5 v5 (M.1 136 (((((1074 : Int32) + ((4 : Int32) * v2)) + v5) - (4 : Int32))).toNatClampNeg) M q P61) ∧ (¬ (4 : Int32) ≤ v5 → w_X12_goes_b101 v1 v2 v3 v4 v5 v5 (0 : Int32) M q P61))))
def w_X12_goes_l61 (v1 : Int32) (v2 : Int32) (v3 : Int32) (v4 : Int32) (q : Mem → Prop) (s : Int32 × Mem) : Prop := lfp (w_X12_goes_l61F v1 v2 v3 v4 q ) s
set_option maxRecDepth 100000 in
set_option maxHeartbeats 4000000 in
theorem ok_X12_goes_l61 {c : CtxT} {g : Gl} {l : Launch} {v1 : Int32} {v2 : Int32} {v3 : Int32} {v4 : Int32} {q : Mem → Prop} {s : Int32 × Mem} (C : Cx c cX12_goes 7 RX12 g l (Rm 3 55)) (r : Rt c (none) (pV q) 0 0) (hw : w_X12_goes_l61 v1 v2 v3 v4 q s) : X c S0 61 [(0, .ref (g.2.2.2 + 135)), (1, .int v1), (2, .int v2), (3, .int v3), (4, .int v4), (5, .int s.1)] [] (stat s.2) := hw (fun s => X c S0 61 [(0, .ref (g.2.2.2 + 135)), (1, .int v1), (2, .int v2), (3, .int v3), (4, .int v4), (5, .int s.1)] [] (stat s.2)) (fun s hw => by
    obtain ⟨v5, M⟩ := s
    try dsimp only [w_X12_goes_l61F] at hw
    try dsimp only
    refine x_iload C dX12_goes_61 rfl ?_
    refine x_bipush (v := (8 : Int32)) C dX12_goes_63 (by decide) ?_
    refine x_icmp_ge (tgt := 108) C dX12_goes_65 (by decide) (fun h19 => ?_) (fun h19 => ?_)
    · replace hw := hw.1 h19
      refine x_iconst (v := (0 : Int32)) C dX12_goes_108 (by decide) ?_
      refine x_istore C dX12_goes_109 (Nat.le_of_ble_eq_true rfl) ?_
      refine x_iconst (v := (0 : Int32)) C dX12_goes_111 (by decide) ?_
      refine x_istore C dX12_goes_112 (Nat.le_of_ble_eq_true rfl) ?_
      refine x_aload_n C dX12_goes_114 rfl rfl ?_
      refine x_iconst (v := (0 : Int32)) C dX12_goes_115 (by decide) ?_
      obtain ⟨M20, eM20⟩ : ∃ z : Mem, z = uI M 135 10 (0 : Int32) := ⟨_, rfl⟩
      replace hw := hw M20 eM20
      refine m_putI C fp_X12_119 s135 (fun _ _ => rfl) rfl rfl eM20 dX12_goes_116 ?_
      exact x_sub [0, 1, 3, 4, 5, 6] rfl (ok_X12_goes_l119 C r  hw)
    · replace hw := hw.2 h19
      refine x_aload_n C dX12_goes_68 rfl rfl ?_
      refine n_getS (dd := 5) C fl_X12_23 s135 (fun _ _ => rfl) rfl dX12_goes_69 ?_
      refine x_iload C dX12_goes_72 rfl ?_
      refine x_iload C dX12_goes_74 rfl ?_
      refine x_iconst (v := (4 : Int32)) C dX12_goes_76 (by decide) ?_
      refine x_icmp_ge (tgt := 84) C dX12_goes_77 (by decide) (fun h21 => ?_) (fun h21 => ?_)
      · replace hw := hw.1 h21
        refine x_aload_n C dX12_goes_84 rfl rfl ?_
        refine n_getS (dd := 1) C fl_X12_7 s135 (fun _ _ => rfl) rfl dX12_goes_85 ?_
        refine x_sipush (v := (1074 : Int32)) C dX12_goes_88 (by decide) ?_
        refine x_iconst (v := (4 : Int32)) C dX12_goes_91 (by decide) ?_
        refine x_iload_n C dX12_goes_92 rfl rfl ?_
        refine x_imul C dX12_goes_93 ?_
        refine x_iadd C dX12_goes_94 ?_
        refine x_iload C dX12_goes_95 rfl ?_
        refine x_iadd C dX12_goes_97 ?_
        refine x_iconst (v := (4 : Int32)) C dX12_goes_98 (by decide) ?_
        refine x_isub C dX12_goes_99 ?_
        obtain ⟨h22, hw⟩ := hw
        refine a_iald C s136 ln136 h22 dX12_goes_100 ?_
        exact x_sub [0, 1, 2, 3, 4, 5] rfl (ok_X12_goes_b101 C r (fun _ _ h => h) hw)
      · replace hw := hw.2 h21
        refine x_iconst (v := (0 : Int32)) C dX12_goes_80 (by decide) ?_
        refine x_goto (tgt := 101) C dX12_goes_81 (by decide) ?_
        exact x_sub [0, 1, 2, 3, 4, 5] rfl (ok_X12_goes_b101 C r (fun _ _ h => h) hw))
def w_X12_goes_l37F (v1 : Int32) (v2 : Int32) (v3 : Int32) (v4 : Int32) (q : Mem → Prop) (P37 : Int32 × Mem → Prop) (s : Int32 × Mem) : Prop := match s with
  | (v5, M) => (((64 : Int32) ≤ v5 → w_X12_goes_l61 v1 v2 v3 v4 q ((0 : Int32), M)) ∧ (¬ (64 : Int32) ≤ v5 → vp_in v5 64 ∧ ∀ M25 : Mem, M25 = uI M 141 (v5).toNatClampNeg (0 : Int32) → ∀ x26 : Int32, x26 = v5 + (1 : Int32) → P37 (x26, M25)))
def w_X12_goes_l37 (v1 : Int32) (v2 : Int32) (v3 : Int32) (v4 : Int32) (q : Mem → Prop) (s : Int32 × Mem) : Prop := lfp (w_X12_goes_l37F v1 v2 v3 v4 q ) s
set_option maxRecDepth 100000 in
set_option maxHeartbeats 4000000 in
theorem ok_X12_goes_l37 {c : CtxT} {g : Gl} {l : Launch} {v1 : Int32} {v2 : Int32} {v3 : Int32} {v4 : Int32} {q : Mem → Prop} {s : Int32 × Mem} (C : Cx c cX12_goes 7 RX12 g l (Rm 3 55)) (r : Rt c (none) (pV q) 0 0) (hw : w_X12_goes_l37 v1 v2 v3 v4 q s) : X c S0 37 [(0, .ref (g.2.2.2 + 135)), (1, .int v1), (2, .int v2), (3, .int v3), (4, .int v4), (5, .int s.1)] [] (stat s.2) := hw (fun s => X c S0 37 [(0, .ref (g.2.2.2 + 135)), (1, .int v1), (2, .int v2), (3, .int v3), (4, .int v4), (5, .int s.1)] [] (stat s.2)) (fun s hw => by
    obtain ⟨v5, M⟩ := s
    try dsimp only [w_X12_goes_l37F] at hw
    try dsimp only
    refine x_iload C dX12_goes_37 rfl ?_
    refine x_bipush (v := (64 : Int32)) C dX12_goes_39 (by decide) ?_
    refine x_icmp_ge (tgt := 58) C dX12_goes_41 (by decide) (fun h23 => ?_) (fun h23 => ?_)
    · replace hw := hw.1 h23
      refine x_iconst (v := (0 : Int32)) C dX12_goes_58 (by decide) ?_
      refine x_istore C dX12_goes_59 (Nat.le_of_ble_eq_true rfl) ?_
      exact x_sub [0, 1, 2, 3, 4, 5] rfl (ok_X12_goes_l61 C r  hw)
    · replace hw := hw.2 h23
      refine x_aload_n C dX12_goes_44 rfl rfl ?_
      refine n_getS (dd := 6) C fl_X12_26 s135 (fun _ _ => rfl) rfl dX12_goes_45 ?_
      refine x_iload C dX12_goes_48 rfl ?_
      refine x_iconst (v := (0 : Int32)) C dX12_goes_50 (by decide) ?_
      obtain ⟨h24, hw⟩ := hw
      obtain ⟨M25, eM25⟩ : ∃ z : Mem, z = uI M 141 (v5).toNatClampNeg (0 : Int32) := ⟨_, rfl⟩
      replace hw := hw M25 eM25
      refine a_iast C s141 ln141 rfl h24 eM25 dX12_goes_51 ?_
      obtain ⟨x26, ex26⟩ : ∃ z : Int32, z = v5 + (1 : Int32) := ⟨_, rfl⟩
      replace hw := hw x26 ex26
      refine x_iinc (v := x26) C dX12_goes_52 rfl ex26.symm (Nat.le_of_ble_eq_true rfl) ?_
      refine x_goto (tgt := 37) C dX12_goes_55 (by decide) ?_
      exact x_sub [0, 1, 2, 3, 4, 5] rfl hw)
def w_X12_goes_l13F (v1 : Int32) (v2 : Int32) (v3 : Int32) (v4 : Int32) (q : Mem → Prop) (P13 : Int32 × Mem → Prop) (s : Int32 × Mem) : Prop := match s with
  | (v5, M) => (((6 : Int32) ≤ v5 → w_X12_goes_l37 v1 v2 v3 v4 q ((0 : Int32), M)) ∧ (¬ (6 : Int32) ≤ v5 → vp_in v5 6 ∧ ∀ M29 : Mem, M29 = uI M 144 (v5).toNatClampNeg (0 : Int32) → ∀ x30 : Int32, x30 = v5 + (1 : Int32) → P13 (x30, M29)))
def w_X12_goes_l13 (v1 : Int32) (v2 : Int32) (v3 : Int32) (v4 : Int32) (q : Mem → Prop) (s : Int32 × Mem) : Prop := lfp (w_X12_goes_l13F v1 v2 v3 v4 q ) s
set_option maxRecDepth 100000 in
set_option maxHeartbeats 4000000 in
theorem ok_X12_goes_l13 {c : CtxT} {g : Gl} {l : Launch} {v1 : Int32} {v2 : Int32} {v3 : Int32} {v4 : Int32} {q : Mem → Prop} {s : Int32 × Mem} (C : Cx c cX12_goes 7 RX12 g l (Rm 3 55)) (r : Rt c (none) (pV q) 0 0) (hw : w_X12_goes_l13 v1 v2 v3 v4 q s) : X c S0 13 [(0, .ref (g.2.2.2 + 135)), (1, .int v1), (2, .int v2), (3, .int v3), (4, .int v4), (5, .int s.1)] [] (stat s.2) := hw (fun s => X c S0 13 [(0, .ref (g.2.2.2 + 135)), (1, .int v1), (2, .int v2), (3, .int v3), (4, .int v4), (5, .int s.1)] [] (stat s.2)) (fun s hw => by
    obtain ⟨v5, M⟩ := s
    try dsimp only [w_X12_goes_l13F] at hw
    try dsimp only
    refine x_iload C dX12_goes_13 rfl ?_
    refine x_bipush (v := (6 : Int32)) C dX12_goes_15 (by decide) ?_
    refine x_icmp_ge (tgt := 34) C dX12_goes_17 (by decide) (fun h27 => ?_) (fun h27 => ?_)
    · replace hw := hw.1 h27
      refine x_iconst (v := (0 : Int32)) C dX12_goes_34 (by decide) ?_
      refine x_istore C dX12_goes_35 (Nat.le_of_ble_eq_true rfl) ?_
      exact x_sub [0, 1, 2, 3, 4, 5] rfl (ok_X12_goes_l37 C r  hw)
    · replace hw := hw.2 h27
      refine x_aload_n C dX12_goes_20 rfl rfl ?_
      refine n_getS (dd := 9) C fl_X12_35 s135 (fun _ _ => rfl) rfl dX12_goes_21 ?_
      refine x_iload C dX12_goes_24 rfl ?_
      refine x_iconst (v := (0 : Int32)) C dX12_goes_26 (by decide) ?_
      obtain ⟨h28, hw⟩ := hw
      obtain ⟨M29, eM29⟩ : ∃ z : Mem, z = uI M 144 (v5).toNatClampNeg (0 : Int32) := ⟨_, rfl⟩
      replace hw := hw M29 eM29
      refine a_iast C s144 ln144 rfl h28 eM29 dX12_goes_27 ?_
      obtain ⟨x30, ex30⟩ : ∃ z : Int32, z = v5 + (1 : Int32) := ⟨_, rfl⟩
      replace hw := hw x30 ex30
      refine x_iinc (v := x30) C dX12_goes_28 rfl ex30.symm (Nat.le_of_ble_eq_true rfl) ?_
      refine x_goto (tgt := 13) C dX12_goes_31 (by decide) ?_
      exact x_sub [0, 1, 2, 3, 4, 5] rfl hw)
def w_X12_goes (v1 : Int32) (v2 : Int32) (v3 : Int32) (M : Mem) (q : Mem → Prop) : Prop := ∀ x31 : Int32, x31 = ((1106 : Int32) + ((60 : Int32) * v1)) → w_X12_goes_l13 v1 v2 v3 x31 q ((0 : Int32), M)
set_option maxRecDepth 100000 in
set_option maxHeartbeats 4000000 in
theorem ok_X12_goes {g : Gl} {l : Launch} {v1 : Int32} {v2 : Int32} {v3 : Int32} {M : Mem} {q : Mem → Prop} (hw : w_X12_goes v1 v2 v3 M q) : CtV g l yX12_goes cX12_goes 7 none 3 55 [.ref (g.2.2.2 + 135), .int v1, .int v2, .int v3] M q := by
  refine n_introV (by decide +kernel) (Nat.le_of_ble_eq_true rfl) (fun c C r => ?_)
  have C : Cx c cX12_goes 7 RX12 g l (Rm 3 55) := C
  refine x_sub [0, 1, 2, 3] (lv' := [(0, .ref (g.2.2.2 + 135)), (1, .int v1), (2, .int v2), (3, .int v3)]) rfl ?_
  unfold w_X12_goes at hw
  refine x_sipush (v := (1106 : Int32)) C dX12_goes_0 (by decide) ?_
  refine x_bipush (v := (60 : Int32)) C dX12_goes_3 (by decide) ?_
  refine x_iload_n C dX12_goes_5 rfl rfl ?_
  refine x_imul C dX12_goes_6 ?_
  refine x_iadd C dX12_goes_7 ?_
  obtain ⟨x31, ex31⟩ : ∃ z : Int32, z = ((1106 : Int32) + ((60 : Int32) * v1)) := ⟨_, rfl⟩
  replace hw := hw x31 ex31
  refine x_topi ex31 ?_
  refine x_istore C dX12_goes_8 (Nat.le_of_ble_eq_true rfl) ?_
  refine x_iconst (v := (0 : Int32)) C dX12_goes_10 (by decide) ?_
  refine x_istore C dX12_goes_11 (Nat.le_of_ble_eq_true rfl) ?_
  exact x_sub [0, 1, 2, 3, 4, 5] rfl (ok_X12_goes_l13 C r  hw)

def w_X12_bits (v1 : Int32) (M : Mem) (q : Int32 → Mem → Prop) : Prop := q (iush v1 (16 : Int32)) M
set_option maxRecDepth 100000 in
set_option maxHeartbeats 4000000 in
theorem ok_X12_bits {g : Gl} {l : Launch} {v1 : Int32} {M : Mem} {q : Int32 → Mem → Prop} (hw : w_X12_bits v1 M q) : CtI g l yX12_bits cX12_bits 2 (some .int) 1 0 [.ref (g.2.2.2 + 135), .int v1] M q := by
  refine n_introI (by decide +kernel) (Nat.le_of_ble_eq_true rfl) (fun c C r => ?_)
  have C : Cx c cX12_bits 2 RX12 g l (Rm 1 0) := C
  refine x_sub [0, 1] (lv' := [(0, .ref (g.2.2.2 + 135)), (1, .int v1)]) rfl ?_
  unfold w_X12_bits at hw
  refine x_iload_n C dX12_bits_0 rfl rfl ?_
  refine x_bipush (v := (16 : Int32)) C dX12_bits_1 (by decide) ?_
  refine x_iushv C dX12_bits_3 ?_
  exact n_ireturn C r dX12_bits_4 hw

def w_X12_goesBy_b164 (t1 : Int32) (t2 : Int32) (t3 : Int32) (M : Mem) (q : Mem → Prop) : Prop := vp_in t1 6 ∧ ∀ M2 : Mem, M2 = uI M 144 (t1).toNatClampNeg (t2 + (t3 + (0 : Int32))) → q M2
set_option maxRecDepth 100000 in
set_option maxHeartbeats 4000000 in
theorem ok_X12_goesBy_b164 {c : CtxT} {g : Gl} {l : Launch} {t1 : Int32} {t2 : Int32} {t3 : Int32} {q : Mem → Prop} {M : Mem} (C : Cx c cX12_goesBy 10 RX12 g l (Rm 4 81)) (r : Rt c (none) (pV q) 0 0) (hw : w_X12_goesBy_b164 t1 t2 t3 M q ) : X c S0 164 [] [.int t3, .int t2, .int t1, .ref (g.2.2.2 + 144)] (stat M) := by
  unfold w_X12_goesBy_b164 at hw
  refine x_iconst (v := (0 : Int32)) C dX12_goesBy_164 (by decide) ?_
  refine x_iadd C dX12_goesBy_165 ?_
  refine x_iadd C dX12_goesBy_166 ?_
  obtain ⟨h1, hw⟩ := hw
  obtain ⟨M2, eM2⟩ : ∃ z : Mem, z = uI M 144 (t1).toNatClampNeg (t2 + (t3 + (0 : Int32))) := ⟨_, rfl⟩
  replace hw := hw M2 eM2
  refine a_iast C s144 ln144 rfl h1 eM2 dX12_goesBy_167 ?_
  exact n_vreturn C r dX12_goesBy_168 hw
def w_X12_goesBy_b92 (v5 : Int32) (v6 : Int32) (v8 : Int32) (t1 : Int32) (t2 : Int32) (t3 : Int32) (M : Mem) (q : Mem → Prop) : Prop := w_X12_goes t1 t2 t3 M (fun (M3 : Mem) => ((¬ (M3.1 135 10) = 0 → q M3) ∧ ((M3.1 135 10) = 0 → vp_in (v6 + (15 : Int32)) 4230 ∧ ∀ x7 : Int32, x7 = (M3.1 136 ((v6 + (15 : Int32))).toNatClampNeg) → vp_in (v6 + (13 : Int32)) 4230 ∧ ((x7 ≤ 0 → w_X12_goesBy_b164 (5 : Int32) (M3.1 144 5) ((M3.1 136 ((v6 + (13 : Int32))).toNatClampNeg) * v5) M3 q) ∧ (¬ x7 ≤ 0 → w_X12_bits v8 M3 (fun (r11 : Int32) (M10 : Mem) => ¬ x7 = 0 ∧ ((¬ (irm r11 x7) = 0 → w_X12_goesBy_b164 (5 : Int32) (M3.1 144 5) ((M3.1 136 ((v6 + (13 : Int32))).toNatClampNeg) * v5) M10 q) ∧ ((irm r11 x7) = 0 → vp_in (v6 + (14 : Int32)) 4230 ∧ ∀ M15 : Mem, M15 = uI M10 144 5 ((M3.1 144 5) + (((M3.1 136 ((v6 + (13 : Int32))).toNatClampNeg) * v5) + (M10.1 136 ((v6 + (14 : Int32))).toNatClampNeg))) → q M15))))))))
set_option maxRecDepth 100000 in
set_option maxHeartbeats 4000000 in
theorem ok_X12_goesBy_b92 {c : CtxT} {g : Gl} {l : Launch} {v5 : Int32} {v6 : Int32} {v8 : Int32} {t1 : Int32} {t2 : Int32} {t3 : Int32} {q : Mem → Prop} {M : Mem} (C : Cx c cX12_goesBy 10 RX12 g l (Rm 4 81)) (r : Rt c (none) (pV q) 0 0) (hw : w_X12_goesBy_b92 v5 v6 v8 t1 t2 t3 M q ) : X c S0 92 [(0, .ref (g.2.2.2 + 135)), (5, .int v5), (6, .int v6), (8, .int v8)] [.int t3, .int t2, .int t1, .ref (g.2.2.2 + 135)] (stat M) := by
  unfold w_X12_goesBy_b92 at hw
  refine n_callVV s135 rfl C (ok_X12_goes  hw) mv_X12_139 rfl rfl ⟨Nat.le_of_ble_eq_true rfl, Nat.le_of_ble_eq_true rfl⟩ (Nat.le_of_ble_eq_true rfl) dX12_goesBy_92 (fun M3 hw => ?_)
  refine x_aload_n C dX12_goesBy_95 rfl rfl ?_
  refine n_getI C fl_X12_119 s135 (fun _ _ => rfl) dX12_goesBy_96 ?_
  refine x_if_ne (tgt := 168) C dX12_goesBy_99 (by decide) (fun h5 => ?_) (fun h5 => ?_)
  · replace hw := hw.1 h5
    exact n_vreturn C r dX12_goesBy_168 hw
  · replace hw := hw.2 h5
    refine x_aload_n C dX12_goesBy_102 rfl rfl ?_
    refine n_getS (dd := 1) C fl_X12_7 s135 (fun _ _ => rfl) rfl dX12_goesBy_103 ?_
    refine x_iload C dX12_goesBy_106 rfl ?_
    refine x_bipush (v := (15 : Int32)) C dX12_goesBy_108 (by decide) ?_
    refine x_iadd C dX12_goesBy_110 ?_
    obtain ⟨h6, hw⟩ := hw
    refine a_iald C s136 ln136 h6 dX12_goesBy_111 ?_
    obtain ⟨x7, ex7⟩ : ∃ z : Int32, z = (M3.1 136 ((v6 + (15 : Int32))).toNatClampNeg) := ⟨_, rfl⟩
    replace hw := hw x7 ex7
    refine x_topi ex7 ?_
    refine x_istore C dX12_goesBy_112 (Nat.le_of_ble_eq_true rfl) ?_
    refine x_aload_n C dX12_goesBy_114 rfl rfl ?_
    refine n_getS (dd := 9) C fl_X12_35 s135 (fun _ _ => rfl) rfl dX12_goesBy_115 ?_
    refine x_iconst (v := (5 : Int32)) C dX12_goesBy_118 (by decide) ?_
    refine x_dup2_11 C dX12_goesBy_119 rfl rfl ?_
    refine a_ialdL (ni := 5) C s144 ln144 (by decide) (vin _ _ (by decide +kernel)) dX12_goesBy_120 ?_
    refine x_aload_n C dX12_goesBy_121 rfl rfl ?_
    refine n_getS (dd := 1) C fl_X12_7 s135 (fun _ _ => rfl) rfl dX12_goesBy_122 ?_
    refine x_iload C dX12_goesBy_125 rfl ?_
    refine x_bipush (v := (13 : Int32)) C dX12_goesBy_127 (by decide) ?_
    refine x_iadd C dX12_goesBy_129 ?_
    obtain ⟨h8, hw⟩ := hw
    refine a_iald C s136 ln136 h8 dX12_goesBy_130 ?_
    refine x_iload C dX12_goesBy_131 rfl ?_
    refine x_imul C dX12_goesBy_133 ?_
    refine x_iload C dX12_goesBy_134 rfl ?_
    refine x_if_le (tgt := 164) C dX12_goesBy_136 (by decide) (fun h9 => ?_) (fun h9 => ?_)
    · replace hw := hw.1 h9
      exact x_sub [] rfl (ok_X12_goesBy_b164 C r  hw)
    · replace hw := hw.2 h9
      refine x_aload_n C dX12_goesBy_139 rfl rfl ?_
      refine x_iload C dX12_goesBy_140 rfl ?_
      refine n_callVI s135 rfl C (ok_X12_bits  hw) mv_X12_136 rfl rfl ⟨Nat.le_of_ble_eq_true rfl, Nat.le_of_ble_eq_true rfl⟩ (Nat.le_of_ble_eq_true rfl) dX12_goesBy_142 (fun r11 M10 hw => ?_)
      refine x_iload C dX12_goesBy_145 rfl ?_
      obtain ⟨h12, hw⟩ := hw
      refine x_iremv C dX12_goesBy_147 h12 ?_
      refine x_if_ne (tgt := 164) C dX12_goesBy_148 (by decide) (fun h13 => ?_) (fun h13 => ?_)
      · replace hw := hw.1 h13
        exact x_sub [] rfl (ok_X12_goesBy_b164 C r  hw)
      · replace hw := hw.2 h13
        refine x_aload_n C dX12_goesBy_151 rfl rfl ?_
        refine n_getS (dd := 1) C fl_X12_7 s135 (fun _ _ => rfl) rfl dX12_goesBy_152 ?_
        refine x_iload C dX12_goesBy_155 rfl ?_
        refine x_bipush (v := (14 : Int32)) C dX12_goesBy_157 (by decide) ?_
        refine x_iadd C dX12_goesBy_159 ?_
        obtain ⟨h14, hw⟩ := hw
        refine a_iald C s136 ln136 h14 dX12_goesBy_160 ?_
        refine x_goto (tgt := 165) C dX12_goesBy_161 (by decide) ?_
        refine x_iadd C dX12_goesBy_165 ?_
        refine x_iadd C dX12_goesBy_166 ?_
        obtain ⟨M15, eM15⟩ : ∃ z : Mem, z = uI M10 144 5 ((M3.1 144 5) + (((M3.1 136 ((v6 + (13 : Int32))).toNatClampNeg) * v5) + (M10.1 136 ((v6 + (14 : Int32))).toNatClampNeg))) := ⟨_, rfl⟩
        replace hw := hw M15 eM15
        refine a_iast C s144 ln144 (by decide) (vin _ _ (by decide +kernel)) eM15 dX12_goesBy_167 ?_
        exact n_vreturn C r dX12_goesBy_168 hw
def w_X12_goesBy (v1 : Int32) (v2 : Int32) (v3 : Int32) (v4 : Int32) (v5 : Int32) (M : Mem) (q : Mem → Prop) : Prop := ∀ x16 : Int32, x16 = ((1106 : Int32) + ((60 : Int32) * v2)) → ∀ x17 : Int32, x17 = ((v4 * (1103515245 : Int32)) + (12345 : Int32)) → ∀ x18 : Int32, x18 = ((x17 * (1103515245 : Int32)) + (12345 : Int32)) → vp_in ((1026 : Int32) + ((2 : Int32) * v1)) 4230 ∧ vp_in (((1026 : Int32) + ((2 : Int32) * v1)) + (1 : Int32)) 4230 ∧ w_X12_assemble (M.1 136 (((1026 : Int32) + ((2 : Int32) * v1))).toNatClampNeg) (M.1 136 ((((1026 : Int32) + ((2 : Int32) * v1)) + (1 : Int32))).toNatClampNeg) M (fun (M21 : Mem) => vp_in (x16 + (16 : Int32)) 4230 ∧ ((¬ (M21.1 136 ((x16 + (16 : Int32))).toNatClampNeg) = (1 : Int32) → w_X12_goesBy_b92 v5 x16 x18 v2 v3 (0 : Int32) M21 q) ∧ ((M21.1 136 ((x16 + (16 : Int32))).toNatClampNeg) = (1 : Int32) → w_X12_bits x17 M21 (fun (r26 : Int32) (M25 : Mem) => w_X12_goesBy_b92 v5 x16 x18 v2 v3 (irm r26 (64 : Int32)) M25 q))))
set_option maxRecDepth 100000 in
set_option maxHeartbeats 4000000 in
theorem ok_X12_goesBy {g : Gl} {l : Launch} {v1 : Int32} {v2 : Int32} {v3 : Int32} {v4 : Int32} {v5 : Int32} {M : Mem} {q : Mem → Prop} (hw : w_X12_goesBy v1 v2 v3 v4 v5 M q) : CtV g l yX12_goesBy cX12_goesBy 10 none 4 81 [.ref (g.2.2.2 + 135), .int v1, .int v2, .int v3, .int v4, .int v5] M q := by
  refine n_introV (by decide +kernel) (Nat.le_of_ble_eq_true rfl) (fun c C r => ?_)
  have C : Cx c cX12_goesBy 10 RX12 g l (Rm 4 81) := C
  refine x_sub [0, 1, 2, 3, 4, 5] (lv' := [(0, .ref (g.2.2.2 + 135)), (1, .int v1), (2, .int v2), (3, .int v3), (4, .int v4), (5, .int v5)]) rfl ?_
  unfold w_X12_goesBy at hw
  refine x_sipush (v := (1106 : Int32)) C dX12_goesBy_0 (by decide) ?_
  refine x_bipush (v := (60 : Int32)) C dX12_goesBy_3 (by decide) ?_
  refine x_iload_n C dX12_goesBy_5 rfl rfl ?_
  refine x_imul C dX12_goesBy_6 ?_
  refine x_iadd C dX12_goesBy_7 ?_
  obtain ⟨x16, ex16⟩ : ∃ z : Int32, z = ((1106 : Int32) + ((60 : Int32) * v2)) := ⟨_, rfl⟩
  replace hw := hw x16 ex16
  refine x_topi ex16 ?_
  refine x_istore C dX12_goesBy_8 (Nat.le_of_ble_eq_true rfl) ?_
  refine x_iload C dX12_goesBy_10 rfl ?_
  refine x_ldc (v := (1103515245 : Int32)) C dX12_goesBy_12 kc_X12_131 ?_
  refine x_imul C dX12_goesBy_14 ?_
  refine x_sipush (v := (12345 : Int32)) C dX12_goesBy_15 (by decide) ?_
  refine x_iadd C dX12_goesBy_18 ?_
  obtain ⟨x17, ex17⟩ : ∃ z : Int32, z = ((v4 * (1103515245 : Int32)) + (12345 : Int32)) := ⟨_, rfl⟩
  replace hw := hw x17 ex17
  refine x_topi ex17 ?_
  refine x_istore C dX12_goesBy_19 (Nat.le_of_ble_eq_true rfl) ?_
  refine x_iload C dX12_goesBy_21 rfl ?_
  refine x_ldc (v := (1103515245 : Int32)) C dX12_goesBy_23 kc_X12_131 ?_
  refine x_imul C dX12_goesBy_25 ?_
  refine x_sipush (v := (12345 : Int32)) C dX12_goesBy_26 (by decide) ?_
  refine x_iadd C dX12_goesBy_29 ?_
  obtain ⟨x18, ex18⟩ : ∃ z : Int32, z = ((x17 * (1103515245 : Int32)) + (12345 : Int32)) := ⟨_, rfl⟩
  replace hw := hw x18 ex18
  refine x_topi ex18 ?_
  refine x_istore C dX12_goesBy_30 (Nat.le_of_ble_eq_true rfl) ?_
  refine x_aload_n C dX12_goesBy_32 rfl rfl ?_
  refine x_aload_n C dX12_goesBy_33 rfl rfl ?_
  refine n_getS (dd := 1) C fl_X12_7 s135 (fun _ _ => rfl) rfl dX12_goesBy_34 ?_
  refine x_sipush (v := (1026 : Int32)) C dX12_goesBy_37 (by decide) ?_
  refine x_iconst (v := (2 : Int32)) C dX12_goesBy_40 (by decide) ?_
  refine x_iload_n C dX12_goesBy_41 rfl rfl ?_
  refine x_imul C dX12_goesBy_42 ?_
  refine x_iadd C dX12_goesBy_43 ?_
  obtain ⟨h19, hw⟩ := hw
  refine a_iald C s136 ln136 h19 dX12_goesBy_44 ?_
  refine x_aload_n C dX12_goesBy_45 rfl rfl ?_
  refine n_getS (dd := 1) C fl_X12_7 s135 (fun _ _ => rfl) rfl dX12_goesBy_46 ?_
  refine x_sipush (v := (1026 : Int32)) C dX12_goesBy_49 (by decide) ?_
  refine x_iconst (v := (2 : Int32)) C dX12_goesBy_52 (by decide) ?_
  refine x_iload_n C dX12_goesBy_53 rfl rfl ?_
  refine x_imul C dX12_goesBy_54 ?_
  refine x_iadd C dX12_goesBy_55 ?_
  refine x_iconst (v := (1 : Int32)) C dX12_goesBy_56 (by decide) ?_
  refine x_iadd C dX12_goesBy_57 ?_
  obtain ⟨h20, hw⟩ := hw
  refine a_iald C s136 ln136 h20 dX12_goesBy_58 ?_
  refine n_callVV s135 rfl C (ok_X12_assemble  hw) mv_X12_132 rfl rfl ⟨Nat.le_of_ble_eq_true rfl, Nat.le_of_ble_eq_true rfl⟩ (Nat.le_of_ble_eq_true rfl) dX12_goesBy_59 (fun M21 hw => ?_)
  refine x_aload_n C dX12_goesBy_62 rfl rfl ?_
  refine x_iload_n C dX12_goesBy_63 rfl rfl ?_
  refine x_iload_n C dX12_goesBy_64 rfl rfl ?_
  refine x_aload_n C dX12_goesBy_65 rfl rfl ?_
  refine n_getS (dd := 1) C fl_X12_7 s135 (fun _ _ => rfl) rfl dX12_goesBy_66 ?_
  refine x_iload C dX12_goesBy_69 rfl ?_
  refine x_bipush (v := (16 : Int32)) C dX12_goesBy_71 (by decide) ?_
  refine x_iadd C dX12_goesBy_73 ?_
  obtain ⟨h23, hw⟩ := hw
  refine a_iald C s136 ln136 h23 dX12_goesBy_74 ?_
  refine x_iconst (v := (1 : Int32)) C dX12_goesBy_75 (by decide) ?_
  refine x_icmp_ne (tgt := 91) C dX12_goesBy_76 (by decide) (fun h24 => ?_) (fun h24 => ?_)
  · replace hw := hw.1 h24
    refine x_iconst (v := (0 : Int32)) C dX12_goesBy_91 (by decide) ?_
    exact x_sub [0, 5, 6, 8] rfl (ok_X12_goesBy_b92 C r  hw)
  · replace hw := hw.2 h24
    refine x_aload_n C dX12_goesBy_79 rfl rfl ?_
    refine x_iload C dX12_goesBy_80 rfl ?_
    refine n_callVI s135 rfl C (ok_X12_bits  hw) mv_X12_136 rfl rfl ⟨Nat.le_of_ble_eq_true rfl, Nat.le_of_ble_eq_true rfl⟩ (Nat.le_of_ble_eq_true rfl) dX12_goesBy_82 (fun r26 M25 hw => ?_)
    refine x_bipush (v := (64 : Int32)) C dX12_goesBy_85 (by decide) ?_
    refine x_iremv C dX12_goesBy_87 (by decide) ?_
    refine x_goto (tgt := 92) C dX12_goesBy_88 (by decide) ?_
    exact x_sub [0, 5, 6, 8] rfl (ok_X12_goesBy_b92 C r  hw)

def w_X12_keepRun_b180 (v7 : Int32) (t1 : Int32) (t2 : Int32) (M : Mem) (q : Mem → Prop) : Prop := vp_in t1 4230 ∧ ∀ M2 : Mem, M2 = uI M 136 (t1).toNatClampNeg t2 → vp_in (v7 + (13 : Int32)) 4230 ∧ ∀ M4 : Mem, M4 = uI M2 136 ((v7 + (13 : Int32))).toNatClampNeg (0 : Int32) → ∀ M5 : Mem, M5 = uI M4 136 4214 ((M4.1 136 4214) + (1 : Int32)) → q M5
set_option maxRecDepth 100000 in
set_option maxHeartbeats 4000000 in
theorem ok_X12_keepRun_b180 {c : CtxT} {g : Gl} {l : Launch} {v7 : Int32} {t1 : Int32} {t2 : Int32} {q : Mem → Prop} {M : Mem} (C : Cx c cX12_keepRun 9 RX12 g l (Rm 5 110)) (r : Rt c (none) (pV q) 0 0) (hw : w_X12_keepRun_b180 v7 t1 t2 M q ) : X c S0 180 [(0, .ref (g.2.2.2 + 135)), (7, .int v7)] [.int t2, .int t1, .ref (g.2.2.2 + 136)] (stat M) := by
  unfold w_X12_keepRun_b180 at hw
  obtain ⟨h1, hw⟩ := hw
  obtain ⟨M2, eM2⟩ : ∃ z : Mem, z = uI M 136 (t1).toNatClampNeg t2 := ⟨_, rfl⟩
  replace hw := hw M2 eM2
  refine a_iast C s136 ln136 rfl h1 eM2 dX12_keepRun_180 ?_
  refine x_aload_n C dX12_keepRun_181 rfl rfl ?_
  refine n_getS (dd := 1) C fl_X12_7 s135 (fun _ _ => rfl) rfl dX12_keepRun_182 ?_
  refine x_iload C dX12_keepRun_185 rfl ?_
  refine x_bipush (v := (13 : Int32)) C dX12_keepRun_187 (by decide) ?_
  refine x_iadd C dX12_keepRun_189 ?_
  refine x_iconst (v := (0 : Int32)) C dX12_keepRun_190 (by decide) ?_
  obtain ⟨h3, hw⟩ := hw
  obtain ⟨M4, eM4⟩ : ∃ z : Mem, z = uI M2 136 ((v7 + (13 : Int32))).toNatClampNeg (0 : Int32) := ⟨_, rfl⟩
  replace hw := hw M4 eM4
  refine a_iast C s136 ln136 rfl h3 eM4 dX12_keepRun_191 ?_
  refine x_aload_n C dX12_keepRun_192 rfl rfl ?_
  refine n_getS (dd := 1) C fl_X12_7 s135 (fun _ _ => rfl) rfl dX12_keepRun_193 ?_
  refine x_sipush (v := (4214 : Int32)) C dX12_keepRun_196 (by decide) ?_
  refine x_dup2_11 C dX12_keepRun_199 rfl rfl ?_
  refine a_ialdL (ni := 4214) C s136 ln136 (by decide) (vin _ _ (by decide +kernel)) dX12_keepRun_200 ?_
  refine x_iconst (v := (1 : Int32)) C dX12_keepRun_201 (by decide) ?_
  refine x_iadd C dX12_keepRun_202 ?_
  obtain ⟨M5, eM5⟩ : ∃ z : Mem, z = uI M4 136 4214 ((M4.1 136 4214) + (1 : Int32)) := ⟨_, rfl⟩
  replace hw := hw M5 eM5
  refine a_iast C s136 ln136 (by decide) (vin _ _ (by decide +kernel)) eM5 dX12_keepRun_203 ?_
  exact n_vreturn C r dX12_keepRun_204 hw
def w_X12_keepRun_b103 (v1 : Int32) (v2 : Int32) (v3 : Int32) (v4 : Int32) (v5 : Int32) (v6 : Int32) (v7 : Int32) (t1 : Int32) (t2 : Int32) (M : Mem) (q : Mem → Prop) : Prop := vp_in t1 4230 ∧ ∀ M7 : Mem, M7 = uI M 136 (t1).toNatClampNeg t2 → vp_in (v7 + (7 : Int32)) 4230 ∧ ∀ M9 : Mem, M9 = uI M7 136 ((v7 + (7 : Int32))).toNatClampNeg v1 → vp_in (v7 + (8 : Int32)) 4230 ∧ ∀ M11 : Mem, M11 = uI M9 136 ((v7 + (8 : Int32))).toNatClampNeg v2 → vp_in (v7 + (9 : Int32)) 4230 ∧ ∀ M13 : Mem, M13 = uI M11 136 ((v7 + (9 : Int32))).toNatClampNeg v3 → vp_in (v7 + (10 : Int32)) 4230 ∧ ∀ M15 : Mem, M15 = uI M13 136 ((v7 + (10 : Int32))).toNatClampNeg v4 → vp_in (v7 + (11 : Int32)) 4230 ∧ ∀ M17 : Mem, M17 = uI M15 136 ((v7 + (11 : Int32))).toNatClampNeg v5 → ((v6 = 0 → w_X12_keepRun_b180 v7 (v7 + (12 : Int32)) (0 : Int32) M17 q) ∧ (¬ v6 = 0 → w_X12_keepRun_b180 v7 (v7 + (12 : Int32)) (1 : Int32) M17 q))
set_option maxRecDepth 100000 in
set_option maxHeartbeats 4000000 in
theorem ok_X12_keepRun_b103 {c : CtxT} {g : Gl} {l : Launch} {v1 : Int32} {v2 : Int32} {v3 : Int32} {v4 : Int32} {v5 : Int32} {v6 : Int32} {v7 : Int32} {t1 : Int32} {t2 : Int32} {q : Mem → Prop} {M : Mem} (C : Cx c cX12_keepRun 9 RX12 g l (Rm 5 110)) (r : Rt c (none) (pV q) 0 0) (hw : w_X12_keepRun_b103 v1 v2 v3 v4 v5 v6 v7 t1 t2 M q ) : X c S0 103 [(0, .ref (g.2.2.2 + 135)), (1, .int v1), (2, .int v2), (3, .int v3), (4, .int v4), (5, .int v5), (6, .int v6), (7, .int v7)] [.int t2, .int t1, .ref (g.2.2.2 + 136)] (stat M) := by
  unfold w_X12_keepRun_b103 at hw
  obtain ⟨h6, hw⟩ := hw
  obtain ⟨M7, eM7⟩ : ∃ z : Mem, z = uI M 136 (t1).toNatClampNeg t2 := ⟨_, rfl⟩
  replace hw := hw M7 eM7
  refine a_iast C s136 ln136 rfl h6 eM7 dX12_keepRun_103 ?_
  refine x_aload_n C dX12_keepRun_104 rfl rfl ?_
  refine n_getS (dd := 1) C fl_X12_7 s135 (fun _ _ => rfl) rfl dX12_keepRun_105 ?_
  refine x_iload C dX12_keepRun_108 rfl ?_
  refine x_bipush (v := (7 : Int32)) C dX12_keepRun_110 (by decide) ?_
  refine x_iadd C dX12_keepRun_112 ?_
  refine x_iload_n C dX12_keepRun_113 rfl rfl ?_
  obtain ⟨h8, hw⟩ := hw
  obtain ⟨M9, eM9⟩ : ∃ z : Mem, z = uI M7 136 ((v7 + (7 : Int32))).toNatClampNeg v1 := ⟨_, rfl⟩
  replace hw := hw M9 eM9
  refine a_iast C s136 ln136 rfl h8 eM9 dX12_keepRun_114 ?_
  refine x_aload_n C dX12_keepRun_115 rfl rfl ?_
  refine n_getS (dd := 1) C fl_X12_7 s135 (fun _ _ => rfl) rfl dX12_keepRun_116 ?_
  refine x_iload C dX12_keepRun_119 rfl ?_
  refine x_bipush (v := (8 : Int32)) C dX12_keepRun_121 (by decide) ?_
  refine x_iadd C dX12_keepRun_123 ?_
  refine x_iload_n C dX12_keepRun_124 rfl rfl ?_
  obtain ⟨h10, hw⟩ := hw
  obtain ⟨M11, eM11⟩ : ∃ z : Mem, z = uI M9 136 ((v7 + (8 : Int32))).toNatClampNeg v2 := ⟨_, rfl⟩
  replace hw := hw M11 eM11
  refine a_iast C s136 ln136 rfl h10 eM11 dX12_keepRun_125 ?_
  refine x_aload_n C dX12_keepRun_126 rfl rfl ?_
  refine n_getS (dd := 1) C fl_X12_7 s135 (fun _ _ => rfl) rfl dX12_keepRun_127 ?_
  refine x_iload C dX12_keepRun_130 rfl ?_
  refine x_bipush (v := (9 : Int32)) C dX12_keepRun_132 (by decide) ?_
  refine x_iadd C dX12_keepRun_134 ?_
  refine x_iload_n C dX12_keepRun_135 rfl rfl ?_
  obtain ⟨h12, hw⟩ := hw
  obtain ⟨M13, eM13⟩ : ∃ z : Mem, z = uI M11 136 ((v7 + (9 : Int32))).toNatClampNeg v3 := ⟨_, rfl⟩
  replace hw := hw M13 eM13
  refine a_iast C s136 ln136 rfl h12 eM13 dX12_keepRun_136 ?_
  refine x_aload_n C dX12_keepRun_137 rfl rfl ?_
  refine n_getS (dd := 1) C fl_X12_7 s135 (fun _ _ => rfl) rfl dX12_keepRun_138 ?_
  refine x_iload C dX12_keepRun_141 rfl ?_
  refine x_bipush (v := (10 : Int32)) C dX12_keepRun_143 (by decide) ?_
  refine x_iadd C dX12_keepRun_145 ?_
  refine x_iload C dX12_keepRun_146 rfl ?_
  obtain ⟨h14, hw⟩ := hw
  obtain ⟨M15, eM15⟩ : ∃ z : Mem, z = uI M13 136 ((v7 + (10 : Int32))).toNatClampNeg v4 := ⟨_, rfl⟩
  replace hw := hw M15 eM15
  refine a_iast C s136 ln136 rfl h14 eM15 dX12_keepRun_148 ?_
  refine x_aload_n C dX12_keepRun_149 rfl rfl ?_
  refine n_getS (dd := 1) C fl_X12_7 s135 (fun _ _ => rfl) rfl dX12_keepRun_150 ?_
  refine x_iload C dX12_keepRun_153 rfl ?_
  refine x_bipush (v := (11 : Int32)) C dX12_keepRun_155 (by decide) ?_
  refine x_iadd C dX12_keepRun_157 ?_
  refine x_iload C dX12_keepRun_158 rfl ?_
  obtain ⟨h16, hw⟩ := hw
  obtain ⟨M17, eM17⟩ : ∃ z : Mem, z = uI M15 136 ((v7 + (11 : Int32))).toNatClampNeg v5 := ⟨_, rfl⟩
  replace hw := hw M17 eM17
  refine a_iast C s136 ln136 rfl h16 eM17 dX12_keepRun_160 ?_
  refine x_aload_n C dX12_keepRun_161 rfl rfl ?_
  refine n_getS (dd := 1) C fl_X12_7 s135 (fun _ _ => rfl) rfl dX12_keepRun_162 ?_
  refine x_iload C dX12_keepRun_165 rfl ?_
  refine x_bipush (v := (12 : Int32)) C dX12_keepRun_167 (by decide) ?_
  refine x_iadd C dX12_keepRun_169 ?_
  refine x_iload C dX12_keepRun_170 rfl ?_
  refine x_if_eq (tgt := 179) C dX12_keepRun_172 (by decide) (fun h18 => ?_) (fun h18 => ?_)
  · replace hw := hw.1 h18
    refine x_iconst (v := (0 : Int32)) C dX12_keepRun_179 (by decide) ?_
    exact x_sub [0, 7] rfl (ok_X12_keepRun_b180 C r  hw)
  · replace hw := hw.2 h18
    refine x_iconst (v := (1 : Int32)) C dX12_keepRun_175 (by decide) ?_
    refine x_goto (tgt := 180) C dX12_keepRun_176 (by decide) ?_
    exact x_sub [0, 7] rfl (ok_X12_keepRun_b180 C r  hw)
def w_X12_keepRun_l52F (v1 : Int32) (v2 : Int32) (v3 : Int32) (v4 : Int32) (v5 : Int32) (v6 : Int32) (v7 : Int32) (q : Mem → Prop) (P52 : Int32 × Mem → Prop) (s : Int32 × Mem) : Prop := match s with
  | (v8, M) => (((6 : Int32) ≤ v8 → (((M.1 135 10) = 0 → w_X12_keepRun_b103 v1 v2 v3 v4 v5 v6 v7 (v7 + (6 : Int32)) (0 : Int32) M q) ∧ (¬ (M.1 135 10) = 0 → w_X12_keepRun_b103 v1 v2 v3 v4 v5 v6 v7 (v7 + (6 : Int32)) (1 : Int32) M q))) ∧ (¬ (6 : Int32) ≤ v8 → vp_in v8 6 ∧ vp_in (v7 + v8) 4230 ∧ ∀ M23 : Mem, M23 = uI M 136 ((v7 + v8)).toNatClampNeg (M.1 144 (v8).toNatClampNeg) → ∀ x24 : Int32, x24 = v8 + (1 : Int32) → P52 (x24, M23)))
def w_X12_keepRun_l52 (v1 : Int32) (v2 : Int32) (v3 : Int32) (v4 : Int32) (v5 : Int32) (v6 : Int32) (v7 : Int32) (q : Mem → Prop) (s : Int32 × Mem) : Prop := lfp (w_X12_keepRun_l52F v1 v2 v3 v4 v5 v6 v7 q ) s
set_option maxRecDepth 100000 in
set_option maxHeartbeats 4000000 in
theorem ok_X12_keepRun_l52 {c : CtxT} {g : Gl} {l : Launch} {v1 : Int32} {v2 : Int32} {v3 : Int32} {v4 : Int32} {v5 : Int32} {v6 : Int32} {v7 : Int32} {q : Mem → Prop} {s : Int32 × Mem} (C : Cx c cX12_keepRun 9 RX12 g l (Rm 5 110)) (r : Rt c (none) (pV q) 0 0) (hw : w_X12_keepRun_l52 v1 v2 v3 v4 v5 v6 v7 q s) : X c S0 52 [(0, .ref (g.2.2.2 + 135)), (1, .int v1), (2, .int v2), (3, .int v3), (4, .int v4), (5, .int v5), (6, .int v6), (7, .int v7), (8, .int s.1)] [] (stat s.2) := hw (fun s => X c S0 52 [(0, .ref (g.2.2.2 + 135)), (1, .int v1), (2, .int v2), (3, .int v3), (4, .int v4), (5, .int v5), (6, .int v6), (7, .int v7), (8, .int s.1)] [] (stat s.2)) (fun s hw => by
    obtain ⟨v8, M⟩ := s
    try dsimp only [w_X12_keepRun_l52F] at hw
    try dsimp only
    refine x_iload C dX12_keepRun_52 rfl ?_
    refine x_bipush (v := (6 : Int32)) C dX12_keepRun_54 (by decide) ?_
    refine x_icmp_ge (tgt := 82) C dX12_keepRun_56 (by decide) (fun h19 => ?_) (fun h19 => ?_)
    · replace hw := hw.1 h19
      refine x_aload_n C dX12_keepRun_82 rfl rfl ?_
      refine n_getS (dd := 1) C fl_X12_7 s135 (fun _ _ => rfl) rfl dX12_keepRun_83 ?_
      refine x_iload C dX12_keepRun_86 rfl ?_
      refine x_bipush (v := (6 : Int32)) C dX12_keepRun_88 (by decide) ?_
      refine x_iadd C dX12_keepRun_90 ?_
      refine x_aload_n C dX12_keepRun_91 rfl rfl ?_
      refine n_getI C fl_X12_119 s135 (fun _ _ => rfl) dX12_keepRun_92 ?_
      refine x_if_eq (tgt := 102) C dX12_keepRun_95 (by decide) (fun h20 => ?_) (fun h20 => ?_)
      · replace hw := hw.1 h20
        refine x_iconst (v := (0 : Int32)) C dX12_keepRun_102 (by decide) ?_
        exact x_sub [0, 1, 2, 3, 4, 5, 6, 7] rfl (ok_X12_keepRun_b103 C r  hw)
      · replace hw := hw.2 h20
        refine x_iconst (v := (1 : Int32)) C dX12_keepRun_98 (by decide) ?_
        refine x_goto (tgt := 103) C dX12_keepRun_99 (by decide) ?_
        exact x_sub [0, 1, 2, 3, 4, 5, 6, 7] rfl (ok_X12_keepRun_b103 C r  hw)
    · replace hw := hw.2 h19
      refine x_aload_n C dX12_keepRun_59 rfl rfl ?_
      refine n_getS (dd := 1) C fl_X12_7 s135 (fun _ _ => rfl) rfl dX12_keepRun_60 ?_
      refine x_iload C dX12_keepRun_63 rfl ?_
      refine x_iload C dX12_keepRun_65 rfl ?_
      refine x_iadd C dX12_keepRun_67 ?_
      refine x_aload_n C dX12_keepRun_68 rfl rfl ?_
      refine n_getS (dd := 9) C fl_X12_35 s135 (fun _ _ => rfl) rfl dX12_keepRun_69 ?_
      refine x_iload C dX12_keepRun_72 rfl ?_
      obtain ⟨h21, hw⟩ := hw
      refine a_iald C s144 ln144 h21 dX12_keepRun_74 ?_
      obtain ⟨h22, hw⟩ := hw
      obtain ⟨M23, eM23⟩ : ∃ z : Mem, z = uI M 136 ((v7 + v8)).toNatClampNeg (M.1 144 (v8).toNatClampNeg) := ⟨_, rfl⟩
      replace hw := hw M23 eM23
      refine a_iast C s136 ln136 rfl h22 eM23 dX12_keepRun_75 ?_
      obtain ⟨x24, ex24⟩ : ∃ z : Int32, z = v8 + (1 : Int32) := ⟨_, rfl⟩
      replace hw := hw x24 ex24
      refine x_iinc (v := x24) C dX12_keepRun_76 rfl ex24.symm (Nat.le_of_ble_eq_true rfl) ?_
      refine x_goto (tgt := 52) C dX12_keepRun_79 (by decide) ?_
      exact x_sub [0, 1, 2, 3, 4, 5, 6, 7, 8] rfl hw)
def w_X12_keepRun_b18 (v1 : Int32) (v2 : Int32) (v3 : Int32) (v4 : Int32) (v5 : Int32) (v6 : Int32) (M : Mem) (q : Mem → Prop) : Prop := w_X12_goesBy v1 v2 v3 v4 v5 M (fun (M25 : Mem) => w_X12_fetch v2 (1 : Int32) M25 (fun (M27 : Mem) => w_X12_many (4 : Int32) M27 (fun (r30 : Int32) (M29 : Mem) => ∀ x31 : Int32, x31 = ((1346 : Int32) + ((14 : Int32) * r30)) → w_X12_keepRun_l52 v1 v2 v3 v4 v5 v6 x31 q ((0 : Int32), M29))))
set_option maxRecDepth 100000 in
set_option maxHeartbeats 4000000 in
theorem ok_X12_keepRun_b18 {c : CtxT} {g : Gl} {l : Launch} {v1 : Int32} {v2 : Int32} {v3 : Int32} {v4 : Int32} {v5 : Int32} {v6 : Int32} {q : Mem → Prop} {M : Mem} (C : Cx c cX12_keepRun 9 RX12 g l (Rm 5 110)) (r : Rt c (none) (pV q) 0 0) (hw : w_X12_keepRun_b18 v1 v2 v3 v4 v5 v6 M q ) : X c S0 18 [(0, .ref (g.2.2.2 + 135)), (1, .int v1), (2, .int v2), (3, .int v3), (4, .int v4), (5, .int v5), (6, .int v6)] [] (stat M) := by
  unfold w_X12_keepRun_b18 at hw
  refine x_aload_n C dX12_keepRun_18 rfl rfl ?_
  refine x_iload_n C dX12_keepRun_19 rfl rfl ?_
  refine x_iload_n C dX12_keepRun_20 rfl rfl ?_
  refine x_iload_n C dX12_keepRun_21 rfl rfl ?_
  refine x_iload C dX12_keepRun_22 rfl ?_
  refine x_iload C dX12_keepRun_24 rfl ?_
  refine n_callVV s135 rfl C (ok_X12_goesBy  hw) mv_X12_149 rfl rfl ⟨Nat.le_of_ble_eq_true rfl, Nat.le_of_ble_eq_true rfl⟩ (Nat.le_of_ble_eq_true rfl) dX12_keepRun_26 (fun M25 hw => ?_)
  refine x_aload_n C dX12_keepRun_29 rfl rfl ?_
  refine x_iload_n C dX12_keepRun_30 rfl rfl ?_
  refine x_iconst (v := (1 : Int32)) C dX12_keepRun_31 (by decide) ?_
  refine n_callVV s135 rfl C (ok_X12_fetch  hw) mv_X12_142 rfl rfl ⟨Nat.le_of_ble_eq_true rfl, Nat.le_of_ble_eq_true rfl⟩ (Nat.le_of_ble_eq_true rfl) dX12_keepRun_32 (fun M27 hw => ?_)
  refine x_sipush (v := (1346 : Int32)) C dX12_keepRun_35 (by decide) ?_
  refine x_bipush (v := (14 : Int32)) C dX12_keepRun_38 (by decide) ?_
  refine x_aload_n C dX12_keepRun_40 rfl rfl ?_
  refine x_iconst (v := (4 : Int32)) C dX12_keepRun_41 (by decide) ?_
  refine n_callVI s135 rfl C (ok_X12_many  hw) mv_X12_66 rfl rfl ⟨Nat.le_of_ble_eq_true rfl, Nat.le_of_ble_eq_true rfl⟩ (Nat.le_of_ble_eq_true rfl) dX12_keepRun_42 (fun r30 M29 hw => ?_)
  refine x_imul C dX12_keepRun_45 ?_
  refine x_iadd C dX12_keepRun_46 ?_
  obtain ⟨x31, ex31⟩ : ∃ z : Int32, z = ((1346 : Int32) + ((14 : Int32) * r30)) := ⟨_, rfl⟩
  replace hw := hw x31 ex31
  refine x_topi ex31 ?_
  refine x_istore C dX12_keepRun_47 (Nat.le_of_ble_eq_true rfl) ?_
  refine x_iconst (v := (0 : Int32)) C dX12_keepRun_49 (by decide) ?_
  refine x_istore C dX12_keepRun_50 (Nat.le_of_ble_eq_true rfl) ?_
  exact x_sub [0, 1, 2, 3, 4, 5, 6, 7, 8] rfl (ok_X12_keepRun_l52 C r  hw)
def w_X12_keepRun (v1 : Int32) (v2 : Int32) (v3 : Int32) (v4 : Int32) (v5 : Int32) (v6 : Int32) (M : Mem) (q : Mem → Prop) : Prop := ((v6 = 0 → w_X12_empty  M (fun (M33 : Mem) => w_X12_keepRun_b18 v1 v2 v3 v4 v5 v6 M33 q)) ∧ (¬ v6 = 0 → w_X12_fetch v2 (0 : Int32) M (fun (M35 : Mem) => w_X12_keepRun_b18 v1 v2 v3 v4 v5 v6 M35 q)))
set_option maxRecDepth 100000 in
set_option maxHeartbeats 4000000 in
theorem ok_X12_keepRun {g : Gl} {l : Launch} {v1 : Int32} {v2 : Int32} {v3 : Int32} {v4 : Int32} {v5 : Int32} {v6 : Int32} {M : Mem} {q : Mem → Prop} (hw : w_X12_keepRun v1 v2 v3 v4 v5 v6 M q) : CtV g l yX12_keepRun cX12_keepRun 9 none 5 110 [.ref (g.2.2.2 + 135), .int v1, .int v2, .int v3, .int v4, .int v5, .int v6] M q := by
  refine n_introV (by decide +kernel) (Nat.le_of_ble_eq_true rfl) (fun c C r => ?_)
  have C : Cx c cX12_keepRun 9 RX12 g l (Rm 5 110) := C
  refine x_sub [0, 1, 2, 3, 4, 5, 6] (lv' := [(0, .ref (g.2.2.2 + 135)), (1, .int v1), (2, .int v2), (3, .int v3), (4, .int v4), (5, .int v5), (6, .int v6)]) rfl ?_
  unfold w_X12_keepRun at hw
  refine x_iload C dX12_keepRun_0 rfl ?_
  refine x_if_eq (tgt := 14) C dX12_keepRun_2 (by decide) (fun h32 => ?_) (fun h32 => ?_)
  · replace hw := hw.1 h32
    refine x_aload_n C dX12_keepRun_14 rfl rfl ?_
    refine n_callVV s135 rfl C (ok_X12_empty  hw) mv_X12_146 rfl rfl ⟨Nat.le_of_ble_eq_true rfl, Nat.le_of_ble_eq_true rfl⟩ (Nat.le_of_ble_eq_true rfl) dX12_keepRun_15 (fun M33 hw => ?_)
    exact x_sub [0, 1, 2, 3, 4, 5, 6] rfl (ok_X12_keepRun_b18 C r  hw)
  · replace hw := hw.2 h32
    refine x_aload_n C dX12_keepRun_5 rfl rfl ?_
    refine x_iload_n C dX12_keepRun_6 rfl rfl ?_
    refine x_iconst (v := (0 : Int32)) C dX12_keepRun_7 (by decide) ?_
    refine n_callVV s135 rfl C (ok_X12_fetch  hw) mv_X12_142 rfl rfl ⟨Nat.le_of_ble_eq_true rfl, Nat.le_of_ble_eq_true rfl⟩ (Nat.le_of_ble_eq_true rfl) dX12_keepRun_8 (fun M35 hw => ?_)
    refine x_goto (tgt := 18) C dX12_keepRun_11 (by decide) ?_
    exact x_sub [0, 1, 2, 3, 4, 5, 6] rfl (ok_X12_keepRun_b18 C r  hw)


def w_X11_program (M : Mem) (q : Int32 → Mem → Prop) : Prop := w_X6_addProgram 2 M (fun (r2 : Int32) (M1 : Mem) => q r2 M1)
set_option maxRecDepth 100000 in
set_option maxHeartbeats 4000000 in
theorem ok_X11_program {g : Gl} {l : Launch} {M : Mem} {q : Int32 → Mem → Prop} (hw : w_X11_program M q) : CtI g l yX11_program cX11_program 1 (some .int) 2 20 [.ref (g.2.2.2 + 0)] M q := by
  refine n_introI (by decide +kernel) (Nat.le_of_ble_eq_true rfl) (fun c C r => ?_)
  have C : Cx c cX11_program 1 RX11 g l (Rm 2 20) := C
  refine x_sub [0] (lv' := [(0, .ref (g.2.2.2 + 0))]) rfl ?_
  unfold w_X11_program at hw
  refine x_aload_n C dX11_program_0 rfl rfl ?_
  refine n_getS (dd := 1) C fl_X11_10 s0 (fun _ _ => rfl) rfl dX11_program_1 ?_
  refine n_getS (dd := 1) C fl_X11_73 s1 (fun _ _ => rfl) rfl dX11_program_4 ?_
  refine n_callVI s2 rfl C (ok_X6_addProgram s2 hw) mv_X11_77 rfl rfl ⟨Nat.le_of_ble_eq_true rfl, Nat.le_of_ble_eq_true rfl⟩ (Nat.le_of_ble_eq_true rfl) dX11_program_7 (fun r2 M1 hw => ?_)
  exact n_ireturn C r dX11_program_10 hw

def w_X11_isLine_b70 (v1 : Int32) (v2 : Int32) (v3 : Int32) (M : Mem) (q : Int32 → Mem → Prop) : Prop := w_X11_isOut v1 (8 : Int32) M (fun (r2 : Int32) (M1 : Mem) => ((¬ r2 = 0 → q (0 : Int32) M1) ∧ (r2 = 0 → w_X11_isOut v2 (8 : Int32) M1 (fun (r5 : Int32) (M4 : Mem) => ((¬ r5 = 0 → q (0 : Int32) M4) ∧ (r5 = 0 → w_X11_isOut v3 (8 : Int32) M4 (fun (r8 : Int32) (M7 : Mem) => ((¬ r8 = 0 → q (0 : Int32) M7) ∧ (r8 = 0 → q (1 : Int32) M7)))))))))
set_option maxRecDepth 100000 in
set_option maxHeartbeats 4000000 in
theorem ok_X11_isLine_b70 {c : CtxT} {g : Gl} {l : Launch} {v1 : Int32} {v2 : Int32} {v3 : Int32} {q : Int32 → Mem → Prop} {M : Mem} (C : Cx c cX11_isLine 4 RX11 g l (Rm 3 42)) (r : Rt c (some .boolean) (pI q) 0 0) (hw : w_X11_isLine_b70 v1 v2 v3 M q ) : X c S0 70 [(1, .int v1), (2, .int v2), (3, .int v3)] [] (stat M) := by
  unfold w_X11_isLine_b70 at hw
  refine x_iload_n C dX11_isLine_70 rfl rfl ?_
  refine x_bipush (v := (8 : Int32)) C dX11_isLine_71 (by decide) ?_
  refine n_callSI C (ok_X11_isOut  hw) ms_X11_87 rfl rfl ⟨Nat.le_of_ble_eq_true rfl, Nat.le_of_ble_eq_true rfl⟩ (Nat.le_of_ble_eq_true rfl) dX11_isLine_73 (fun r2 M1 hw => ?_)
  refine x_if_ne (tgt := 101) C dX11_isLine_76 (by decide) (fun h3 => ?_) (fun h3 => ?_)
  · replace hw := hw.1 h3
    refine x_iconst (v := (0 : Int32)) C dX11_isLine_101 (by decide) ?_
    exact n_zreturn C r dX11_isLine_102 (Or.inl rfl) hw
  · replace hw := hw.2 h3
    refine x_iload_n C dX11_isLine_79 rfl rfl ?_
    refine x_bipush (v := (8 : Int32)) C dX11_isLine_80 (by decide) ?_
    refine n_callSI C (ok_X11_isOut  hw) ms_X11_87 rfl rfl ⟨Nat.le_of_ble_eq_true rfl, Nat.le_of_ble_eq_true rfl⟩ (Nat.le_of_ble_eq_true rfl) dX11_isLine_82 (fun r5 M4 hw => ?_)
    refine x_if_ne (tgt := 101) C dX11_isLine_85 (by decide) (fun h6 => ?_) (fun h6 => ?_)
    · replace hw := hw.1 h6
      refine x_iconst (v := (0 : Int32)) C dX11_isLine_101 (by decide) ?_
      exact n_zreturn C r dX11_isLine_102 (Or.inl rfl) hw
    · replace hw := hw.2 h6
      refine x_iload_n C dX11_isLine_88 rfl rfl ?_
      refine x_bipush (v := (8 : Int32)) C dX11_isLine_89 (by decide) ?_
      refine n_callSI C (ok_X11_isOut  hw) ms_X11_87 rfl rfl ⟨Nat.le_of_ble_eq_true rfl, Nat.le_of_ble_eq_true rfl⟩ (Nat.le_of_ble_eq_true rfl) dX11_isLine_91 (fun r8 M7 hw => ?_)
      refine x_if_ne (tgt := 101) C dX11_isLine_94 (by decide) (fun h9 => ?_) (fun h9 => ?_)
      · replace hw := hw.1 h9
        refine x_iconst (v := (0 : Int32)) C dX11_isLine_101 (by decide) ?_
        exact n_zreturn C r dX11_isLine_102 (Or.inl rfl) hw
      · replace hw := hw.2 h9
        refine x_iconst (v := (1 : Int32)) C dX11_isLine_97 (by decide) ?_
        refine x_goto (tgt := 102) C dX11_isLine_98 (by decide) ?_
        exact n_zreturn C r dX11_isLine_102 (Or.inr rfl) hw
def w_X11_isLine_b103 (v1 : Int32) (v2 : Int32) (M : Mem) (q : Int32 → Mem → Prop) : Prop := w_X11_isOut v1 (8 : Int32) M (fun (r11 : Int32) (M10 : Mem) => ((¬ r11 = 0 → q (0 : Int32) M10) ∧ (r11 = 0 → w_X11_isOut v2 (8 : Int32) M10 (fun (r14 : Int32) (M13 : Mem) => ((¬ r14 = 0 → q (0 : Int32) M13) ∧ (r14 = 0 → q (1 : Int32) M13))))))
set_option maxRecDepth 100000 in
set_option maxHeartbeats 4000000 in
theorem ok_X11_isLine_b103 {c : CtxT} {g : Gl} {l : Launch} {v1 : Int32} {v2 : Int32} {q : Int32 → Mem → Prop} {M : Mem} (C : Cx c cX11_isLine 4 RX11 g l (Rm 3 42)) (r : Rt c (some .boolean) (pI q) 0 0) (hw : w_X11_isLine_b103 v1 v2 M q ) : X c S0 103 [(1, .int v1), (2, .int v2)] [] (stat M) := by
  unfold w_X11_isLine_b103 at hw
  refine x_iload_n C dX11_isLine_103 rfl rfl ?_
  refine x_bipush (v := (8 : Int32)) C dX11_isLine_104 (by decide) ?_
  refine n_callSI C (ok_X11_isOut  hw) ms_X11_87 rfl rfl ⟨Nat.le_of_ble_eq_true rfl, Nat.le_of_ble_eq_true rfl⟩ (Nat.le_of_ble_eq_true rfl) dX11_isLine_106 (fun r11 M10 hw => ?_)
  refine x_if_ne (tgt := 125) C dX11_isLine_109 (by decide) (fun h12 => ?_) (fun h12 => ?_)
  · replace hw := hw.1 h12
    refine x_iconst (v := (0 : Int32)) C dX11_isLine_125 (by decide) ?_
    exact n_zreturn C r dX11_isLine_126 (Or.inl rfl) hw
  · replace hw := hw.2 h12
    refine x_iload_n C dX11_isLine_112 rfl rfl ?_
    refine x_bipush (v := (8 : Int32)) C dX11_isLine_113 (by decide) ?_
    refine n_callSI C (ok_X11_isOut  hw) ms_X11_87 rfl rfl ⟨Nat.le_of_ble_eq_true rfl, Nat.le_of_ble_eq_true rfl⟩ (Nat.le_of_ble_eq_true rfl) dX11_isLine_115 (fun r14 M13 hw => ?_)
    refine x_if_ne (tgt := 125) C dX11_isLine_118 (by decide) (fun h15 => ?_) (fun h15 => ?_)
    · replace hw := hw.1 h15
      refine x_iconst (v := (0 : Int32)) C dX11_isLine_125 (by decide) ?_
      exact n_zreturn C r dX11_isLine_126 (Or.inl rfl) hw
    · replace hw := hw.2 h15
      refine x_iconst (v := (1 : Int32)) C dX11_isLine_121 (by decide) ?_
      refine x_goto (tgt := 126) C dX11_isLine_122 (by decide) ?_
      exact n_zreturn C r dX11_isLine_126 (Or.inr rfl) hw
def w_X11_isLine (v0 : Int32) (v1 : Int32) (v2 : Int32) (v3 : Int32) (M : Mem) (q : Int32 → Mem → Prop) : Prop := ((v0 = (0 : Int32) → w_X11_isOut v1 (8 : Int32) M (fun (r18 : Int32) (M17 : Mem) => ((¬ r18 = 0 → q (0 : Int32) M17) ∧ (r18 = 0 → w_X11_isNotSmall v2 M17 (fun (r21 : Int32) (M20 : Mem) => ((¬ r21 = 0 → q (0 : Int32) M20) ∧ (r21 = 0 → q (1 : Int32) M20))))))) ∧ (v0 = (1 : Int32) → w_X11_isLine_b70 v1 v2 v3 M q) ∧ (v0 = (2 : Int32) → w_X11_isLine_b70 v1 v2 v3 M q) ∧ (v0 = (3 : Int32) → w_X11_isLine_b70 v1 v2 v3 M q) ∧ (v0 = (4 : Int32) → w_X11_isLine_b103 v1 v2 M q) ∧ (v0 = (5 : Int32) → w_X11_isLine_b103 v1 v2 M q) ∧ (v0 = (6 : Int32) → w_X11_isOut v1 (8 : Int32) M (fun (r24 : Int32) (M23 : Mem) => ((¬ r24 = 0 → q (0 : Int32) M23) ∧ (r24 = 0 → w_X11_isOut v2 (40 : Int32) M23 (fun (r27 : Int32) (M26 : Mem) => ((¬ r27 = 0 → q (0 : Int32) M26) ∧ (r27 = 0 → q (1 : Int32) M26))))))) ∧ (v0 = (7 : Int32) → q (1 : Int32) M) ∧ (((v0).toInt < 0 ∨ 7 < (v0).toInt) → q (0 : Int32) M))
set_option maxRecDepth 100000 in
set_option maxHeartbeats 4000000 in
theorem ok_X11_isLine {g : Gl} {l : Launch} {v0 : Int32} {v1 : Int32} {v2 : Int32} {v3 : Int32} {M : Mem} {q : Int32 → Mem → Prop} (hw : w_X11_isLine v0 v1 v2 v3 M q) : CtI g l yX11_isLine cX11_isLine 4 (some .boolean) 3 42 [.int v0, .int v1, .int v2, .int v3] M q := by
  refine n_introI (by decide +kernel) (Nat.le_of_ble_eq_true rfl) (fun c C r => ?_)
  have C : Cx c cX11_isLine 4 RX11 g l (Rm 3 42) := C
  refine x_sub [0, 1, 2, 3] (lv' := [(0, .int v0), (1, .int v1), (2, .int v2), (3, .int v3)]) rfl ?_
  unfold w_X11_isLine at hw
  refine x_iload_n C dX11_isLine_0 rfl rfl ?_
  by_cases h16 : (v0).toInt < 0 ∨ 7 < (v0).toInt
  · refine x_tableOut (tgt := 153) C dX11_isLine_1 h16 (by decide) ?_
    replace hw := hw.2.2.2.2.2.2.2.2 h16
    refine x_iconst (v := (0 : Int32)) C dX11_isLine_153 (by decide) ?_
    exact n_zreturn C r dX11_isLine_154 (Or.inl rfl) hw
  · have hlo : ¬ (v0).toInt < 0 := fun z => h16 (Or.inl z)
    have hhi : ¬ 7 < (v0).toInt := fun z => h16 (Or.inr z)
    have hor : (v0).toInt = 0 ∨ (v0).toInt = 1 ∨ (v0).toInt = 2 ∨ (v0).toInt = 3 ∨ (v0).toInt = 4 ∨ (v0).toInt = 5 ∨ (v0).toInt = 6 ∨ (v0).toInt = 7 := by omega
    rcases hor with hor | hor | hor | hor | hor | hor | hor | hor
    · have heq : v0 = (0 : Int32) := Int32.toInt_inj.mp (hor.trans (by decide))
      refine x_tableIn (off := 47) (tgt := 48) C dX11_isLine_1 hlo hhi (by rw [hor]; decide) (by decide) ?_
      replace hw := hw.1 heq
      refine x_iload_n C dX11_isLine_48 rfl rfl ?_
      refine x_bipush (v := (8 : Int32)) C dX11_isLine_49 (by decide) ?_
      refine n_callSI C (ok_X11_isOut  hw) ms_X11_87 rfl rfl ⟨Nat.le_of_ble_eq_true rfl, Nat.le_of_ble_eq_true rfl⟩ (Nat.le_of_ble_eq_true rfl) dX11_isLine_51 (fun r18 M17 hw => ?_)
      refine x_if_ne (tgt := 68) C dX11_isLine_54 (by decide) (fun h19 => ?_) (fun h19 => ?_)
      · replace hw := hw.1 h19
        refine x_iconst (v := (0 : Int32)) C dX11_isLine_68 (by decide) ?_
        exact n_zreturn C r dX11_isLine_69 (Or.inl rfl) hw
      · replace hw := hw.2 h19
        refine x_iload_n C dX11_isLine_57 rfl rfl ?_
        refine n_callSI C (ok_X11_isNotSmall  hw) ms_X11_121 rfl rfl ⟨Nat.le_of_ble_eq_true rfl, Nat.le_of_ble_eq_true rfl⟩ (Nat.le_of_ble_eq_true rfl) dX11_isLine_58 (fun r21 M20 hw => ?_)
        refine x_if_ne (tgt := 68) C dX11_isLine_61 (by decide) (fun h22 => ?_) (fun h22 => ?_)
        · replace hw := hw.1 h22
          refine x_iconst (v := (0 : Int32)) C dX11_isLine_68 (by decide) ?_
          exact n_zreturn C r dX11_isLine_69 (Or.inl rfl) hw
        · replace hw := hw.2 h22
          refine x_iconst (v := (1 : Int32)) C dX11_isLine_64 (by decide) ?_
          refine x_goto (tgt := 69) C dX11_isLine_65 (by decide) ?_
          exact n_zreturn C r dX11_isLine_69 (Or.inr rfl) hw
    · have heq : v0 = (1 : Int32) := Int32.toInt_inj.mp (hor.trans (by decide))
      refine x_tableIn (off := 69) (tgt := 70) C dX11_isLine_1 hlo hhi (by rw [hor]; decide) (by decide) ?_
      replace hw := hw.2.1 heq
      exact x_sub [1, 2, 3] rfl (ok_X11_isLine_b70 C r  hw)
    · have heq : v0 = (2 : Int32) := Int32.toInt_inj.mp (hor.trans (by decide))
      refine x_tableIn (off := 69) (tgt := 70) C dX11_isLine_1 hlo hhi (by rw [hor]; decide) (by decide) ?_
      replace hw := hw.2.2.1 heq
      exact x_sub [1, 2, 3] rfl (ok_X11_isLine_b70 C r  hw)
    · have heq : v0 = (3 : Int32) := Int32.toInt_inj.mp (hor.trans (by decide))
      refine x_tableIn (off := 69) (tgt := 70) C dX11_isLine_1 hlo hhi (by rw [hor]; decide) (by decide) ?_
      replace hw := hw.2.2.2.1 heq
      exact x_sub [1, 2, 3] rfl (ok_X11_isLine_b70 C r  hw)
    · have heq : v0 = (4 : Int32) := Int32.toInt_inj.mp (hor.trans (by decide))
      refine x_tableIn (off := 102) (tgt := 103) C dX11_isLine_1 hlo hhi (by rw [hor]; decide) (by decide) ?_
      replace hw := hw.2.2.2.2.1 heq
      exact x_sub [1, 2] rfl (ok_X11_isLine_b103 C r  hw)
    · have heq : v0 = (5 : Int32) := Int32.toInt_inj.mp (hor.trans (by decide))
      refine x_tableIn (off := 102) (tgt := 103) C dX11_isLine_1 hlo hhi (by rw [hor]; decide) (by decide) ?_
      replace hw := hw.2.2.2.2.2.1 heq
      exact x_sub [1, 2] rfl (ok_X11_isLine_b103 C r  hw)
    · have heq : v0 = (6 : Int32) := Int32.toInt_inj.mp (hor.trans (by decide))
      refine x_tableIn (off := 126) (tgt := 127) C dX11_isLine_1 hlo hhi (by rw [hor]; decide) (by decide) ?_
      replace hw := hw.2.2.2.2.2.2.1 heq
      refine x_iload_n C dX11_isLine_127 rfl rfl ?_
      refine x_bipush (v := (8 : Int32)) C dX11_isLine_128 (by decide) ?_
      refine n_callSI C (ok_X11_isOut  hw) ms_X11_87 rfl rfl ⟨Nat.le_of_ble_eq_true rfl, Nat.le_of_ble_eq_true rfl⟩ (Nat.le_of_ble_eq_true rfl) dX11_isLine_130 (fun r24 M23 hw => ?_)
      refine x_if_ne (tgt := 149) C dX11_isLine_133 (by decide) (fun h25 => ?_) (fun h25 => ?_)
      · replace hw := hw.1 h25
        refine x_iconst (v := (0 : Int32)) C dX11_isLine_149 (by decide) ?_
        exact n_zreturn C r dX11_isLine_150 (Or.inl rfl) hw
      · replace hw := hw.2 h25
        refine x_iload_n C dX11_isLine_136 rfl rfl ?_
        refine x_bipush (v := (40 : Int32)) C dX11_isLine_137 (by decide) ?_
        refine n_callSI C (ok_X11_isOut  hw) ms_X11_87 rfl rfl ⟨Nat.le_of_ble_eq_true rfl, Nat.le_of_ble_eq_true rfl⟩ (Nat.le_of_ble_eq_true rfl) dX11_isLine_139 (fun r27 M26 hw => ?_)
        refine x_if_ne (tgt := 149) C dX11_isLine_142 (by decide) (fun h28 => ?_) (fun h28 => ?_)
        · replace hw := hw.1 h28
          refine x_iconst (v := (0 : Int32)) C dX11_isLine_149 (by decide) ?_
          exact n_zreturn C r dX11_isLine_150 (Or.inl rfl) hw
        · replace hw := hw.2 h28
          refine x_iconst (v := (1 : Int32)) C dX11_isLine_145 (by decide) ?_
          refine x_goto (tgt := 150) C dX11_isLine_146 (by decide) ?_
          exact n_zreturn C r dX11_isLine_150 (Or.inr rfl) hw
    · have heq : v0 = (7 : Int32) := Int32.toInt_inj.mp (hor.trans (by decide))
      refine x_tableIn (off := 150) (tgt := 151) C dX11_isLine_1 hlo hhi (by rw [hor]; decide) (by decide) ?_
      replace hw := hw.2.2.2.2.2.2.2.1 heq
      refine x_iconst (v := (1 : Int32)) C dX11_isLine_151 (by decide) ?_
      exact n_zreturn C r dX11_isLine_152 (Or.inr rfl) hw

def w_X11_line (v1 : Int32) (v2 : Int32) (v3 : Int32) (v4 : Int32) (v5 : Int32) (M : Mem) (q : Int32 → Mem → Prop) : Prop := w_X11_isOut v1 (M.1 2 0) M (fun (r2 : Int32) (M1 : Mem) => ((¬ r2 = 0 → q (-2 : Int32) M1) ∧ (r2 = 0 → w_X11_isLine v2 v3 v4 v5 M1 (fun (r5 : Int32) (M4 : Mem) => ((¬ r5 = 0 → w_X6_isBuilt 2 v1 M4 (fun (r8 : Int32) (M7 : Mem) => ((r8 = 0 → w_X6_addLine 2 v1 v2 v3 v4 v5 M7 (fun (r11 : Int32) (M10 : Mem) => q r11 M10)) ∧ (¬ r8 = 0 → q (-3 : Int32) M7)))) ∧ (r5 = 0 → q (-2 : Int32) M4))))))
set_option maxRecDepth 100000 in
set_option maxHeartbeats 4000000 in
theorem ok_X11_line {g : Gl} {l : Launch} {v1 : Int32} {v2 : Int32} {v3 : Int32} {v4 : Int32} {v5 : Int32} {M : Mem} {q : Int32 → Mem → Prop} (hw : w_X11_line v1 v2 v3 v4 v5 M q) : CtI g l yX11_line cX11_line 7 (some .int) 4 65 [.ref (g.2.2.2 + 0), .int v1, .int v2, .int v3, .int v4, .int v5] M q := by
  refine n_introI (by decide +kernel) (Nat.le_of_ble_eq_true rfl) (fun c C r => ?_)
  have C : Cx c cX11_line 7 RX11 g l (Rm 4 65) := C
  refine x_sub [0, 1, 2, 3, 4, 5] (lv' := [(0, .ref (g.2.2.2 + 0)), (1, .int v1), (2, .int v2), (3, .int v3), (4, .int v4), (5, .int v5)]) rfl ?_
  unfold w_X11_line at hw
  refine x_aload_n C dX11_line_0 rfl rfl ?_
  refine n_getS (dd := 1) C fl_X11_10 s0 (fun _ _ => rfl) rfl dX11_line_1 ?_
  refine n_getS (dd := 1) C fl_X11_73 s1 (fun _ _ => rfl) rfl dX11_line_4 ?_
  refine x_astore C dX11_line_7 (Nat.le_of_ble_eq_true rfl) ?_
  refine x_iload_n C dX11_line_9 rfl rfl ?_
  refine x_aload C dX11_line_10 rfl ?_
  refine n_getI C fl_X11_83 s2 (fun _ _ => rfl) dX11_line_12 ?_
  refine n_callSI C (ok_X11_isOut  hw) ms_X11_87 rfl rfl ⟨Nat.le_of_ble_eq_true rfl, Nat.le_of_ble_eq_true rfl⟩ (Nat.le_of_ble_eq_true rfl) dX11_line_15 (fun r2 M1 hw => ?_)
  refine x_if_ne (tgt := 33) C dX11_line_18 (by decide) (fun h3 => ?_) (fun h3 => ?_)
  · replace hw := hw.1 h3
    refine x_bipush (v := (-2 : Int32)) C dX11_line_33 (by decide) ?_
    exact n_ireturn C r dX11_line_35 hw
  · replace hw := hw.2 h3
    refine x_iload_n C dX11_line_21 rfl rfl ?_
    refine x_iload_n C dX11_line_22 rfl rfl ?_
    refine x_iload C dX11_line_23 rfl ?_
    refine x_iload C dX11_line_25 rfl ?_
    refine n_callSI C (ok_X11_isLine  hw) ms_X11_91 rfl rfl ⟨Nat.le_of_ble_eq_true rfl, Nat.le_of_ble_eq_true rfl⟩ (Nat.le_of_ble_eq_true rfl) dX11_line_27 (fun r5 M4 hw => ?_)
    refine x_if_ne (tgt := 36) C dX11_line_30 (by decide) (fun h6 => ?_) (fun h6 => ?_)
    · replace hw := hw.1 h6
      refine x_aload C dX11_line_36 rfl ?_
      refine x_iload_n C dX11_line_38 rfl rfl ?_
      refine n_callVI s2 rfl C (ok_X6_isBuilt s2 hw) mv_X11_95 rfl rfl ⟨Nat.le_of_ble_eq_true rfl, Nat.le_of_ble_eq_true rfl⟩ (Nat.le_of_ble_eq_true rfl) dX11_line_39 (fun r8 M7 hw => ?_)
      refine x_if_eq (tgt := 48) C dX11_line_42 (by decide) (fun h9 => ?_) (fun h9 => ?_)
      · replace hw := hw.1 h9
        refine x_aload C dX11_line_48 rfl ?_
        refine x_iload_n C dX11_line_50 rfl rfl ?_
        refine x_iload_n C dX11_line_51 rfl rfl ?_
        refine x_iload_n C dX11_line_52 rfl rfl ?_
        refine x_iload C dX11_line_53 rfl ?_
        refine x_iload C dX11_line_55 rfl ?_
        refine n_callVI s2 rfl C (ok_X6_addLine s2 hw) mv_X11_99 rfl rfl ⟨Nat.le_of_ble_eq_true rfl, Nat.le_of_ble_eq_true rfl⟩ (Nat.le_of_ble_eq_true rfl) dX11_line_57 (fun r11 M10 hw => ?_)
        exact n_ireturn C r dX11_line_60 hw
      · replace hw := hw.2 h9
        refine x_bipush (v := (-3 : Int32)) C dX11_line_45 (by decide) ?_
        exact n_ireturn C r dX11_line_47 hw
    · replace hw := hw.2 h6
      refine x_bipush (v := (-2 : Int32)) C dX11_line_33 (by decide) ?_
      exact n_ireturn C r dX11_line_35 hw

def w_X11_change (v1 : Int32) (v2 : Int32) (v3 : Int32) (v4 : Int32) (v5 : Int32) (v6 : Int32) (M : Mem) (q : Int32 → Mem → Prop) : Prop := w_X11_isOut v1 (M.1 2 0) M (fun (r2 : Int32) (M1 : Mem) => ((¬ r2 = 0 → q (-2 : Int32) M1) ∧ (r2 = 0 → vp_in v1 6 ∧ w_X11_isOut v2 (M1.1 3 (v1).toNatClampNeg) M1 (fun (r6 : Int32) (M5 : Mem) => ((¬ r6 = 0 → q (-2 : Int32) M5) ∧ (r6 = 0 → w_X11_isLine v3 v4 v5 v6 M5 (fun (r9 : Int32) (M8 : Mem) => ((¬ r9 = 0 → w_X6_addChange 2 v1 v2 v3 v4 v5 v6 M8 (fun (r12 : Int32) (M11 : Mem) => q r12 M11)) ∧ (r9 = 0 → q (-2 : Int32) M8)))))))))
set_option maxRecDepth 100000 in
set_option maxHeartbeats 4000000 in
theorem ok_X11_change {g : Gl} {l : Launch} {v1 : Int32} {v2 : Int32} {v3 : Int32} {v4 : Int32} {v5 : Int32} {v6 : Int32} {M : Mem} {q : Int32 → Mem → Prop} (hw : w_X11_change v1 v2 v3 v4 v5 v6 M q) : CtI g l yX11_change cX11_change 8 (some .int) 4 65 [.ref (g.2.2.2 + 0), .int v1, .int v2, .int v3, .int v4, .int v5, .int v6] M q := by
  refine n_introI (by decide +kernel) (Nat.le_of_ble_eq_true rfl) (fun c C r => ?_)
  have C : Cx c cX11_change 8 RX11 g l (Rm 4 65) := C
  refine x_sub [0, 1, 2, 3, 4, 5, 6] (lv' := [(0, .ref (g.2.2.2 + 0)), (1, .int v1), (2, .int v2), (3, .int v3), (4, .int v4), (5, .int v5), (6, .int v6)]) rfl ?_
  unfold w_X11_change at hw
  refine x_aload_n C dX11_change_0 rfl rfl ?_
  refine n_getS (dd := 1) C fl_X11_10 s0 (fun _ _ => rfl) rfl dX11_change_1 ?_
  refine n_getS (dd := 1) C fl_X11_73 s1 (fun _ _ => rfl) rfl dX11_change_4 ?_
  refine x_astore C dX11_change_7 (Nat.le_of_ble_eq_true rfl) ?_
  refine x_iload_n C dX11_change_9 rfl rfl ?_
  refine x_aload C dX11_change_10 rfl ?_
  refine n_getI C fl_X11_83 s2 (fun _ _ => rfl) dX11_change_12 ?_
  refine n_callSI C (ok_X11_isOut  hw) ms_X11_87 rfl rfl ⟨Nat.le_of_ble_eq_true rfl, Nat.le_of_ble_eq_true rfl⟩ (Nat.le_of_ble_eq_true rfl) dX11_change_15 (fun r2 M1 hw => ?_)
  refine x_if_ne (tgt := 48) C dX11_change_18 (by decide) (fun h3 => ?_) (fun h3 => ?_)
  · replace hw := hw.1 h3
    refine x_bipush (v := (-2 : Int32)) C dX11_change_48 (by decide) ?_
    exact n_ireturn C r dX11_change_50 hw
  · replace hw := hw.2 h3
    refine x_iload_n C dX11_change_21 rfl rfl ?_
    refine x_aload C dX11_change_22 rfl ?_
    refine n_getS (dd := 1) C fl_X11_103 s2 (fun _ _ => rfl) rfl dX11_change_24 ?_
    refine x_iload_n C dX11_change_27 rfl rfl ?_
    obtain ⟨h4, hw⟩ := hw
    refine a_iald C s3 ln3 h4 dX11_change_28 ?_
    refine n_callSI C (ok_X11_isOut  hw) ms_X11_87 rfl rfl ⟨Nat.le_of_ble_eq_true rfl, Nat.le_of_ble_eq_true rfl⟩ (Nat.le_of_ble_eq_true rfl) dX11_change_29 (fun r6 M5 hw => ?_)
    refine x_if_ne (tgt := 48) C dX11_change_32 (by decide) (fun h7 => ?_) (fun h7 => ?_)
    · replace hw := hw.1 h7
      refine x_bipush (v := (-2 : Int32)) C dX11_change_48 (by decide) ?_
      exact n_ireturn C r dX11_change_50 hw
    · replace hw := hw.2 h7
      refine x_iload_n C dX11_change_35 rfl rfl ?_
      refine x_iload C dX11_change_36 rfl ?_
      refine x_iload C dX11_change_38 rfl ?_
      refine x_iload C dX11_change_40 rfl ?_
      refine n_callSI C (ok_X11_isLine  hw) ms_X11_91 rfl rfl ⟨Nat.le_of_ble_eq_true rfl, Nat.le_of_ble_eq_true rfl⟩ (Nat.le_of_ble_eq_true rfl) dX11_change_42 (fun r9 M8 hw => ?_)
      refine x_if_ne (tgt := 51) C dX11_change_45 (by decide) (fun h10 => ?_) (fun h10 => ?_)
      · replace hw := hw.1 h10
        refine x_aload C dX11_change_51 rfl ?_
        refine x_iload_n C dX11_change_53 rfl rfl ?_
        refine x_iload_n C dX11_change_54 rfl rfl ?_
        refine x_iload_n C dX11_change_55 rfl rfl ?_
        refine x_iload C dX11_change_56 rfl ?_
        refine x_iload C dX11_change_58 rfl ?_
        refine x_iload C dX11_change_60 rfl ?_
        refine n_callVI s2 rfl C (ok_X6_addChange s2 hw) mv_X11_107 rfl rfl ⟨Nat.le_of_ble_eq_true rfl, Nat.le_of_ble_eq_true rfl⟩ (Nat.le_of_ble_eq_true rfl) dX11_change_62 (fun r12 M11 hw => ?_)
        exact n_ireturn C r dX11_change_65 hw
      · replace hw := hw.2 h10
        refine x_bipush (v := (-2 : Int32)) C dX11_change_48 (by decide) ?_
        exact n_ireturn C r dX11_change_50 hw

def w_X11_build (v1 : Int32) (v2 : Int32) (M : Mem) (q : Int32 → Mem → Prop) : Prop := w_X11_isOut v1 (M.1 2 0) M (fun (r2 : Int32) (M1 : Mem) => ((¬ r2 = 0 → q (-2 : Int32) M1) ∧ (r2 = 0 → w_X11_isOut v2 ((1 : Int32) <<< ((M1.1 2 3) &&& 31)) M1 (fun (r5 : Int32) (M4 : Mem) => ((r5 = 0 → w_X6_fits 2 v1 v2 M4 (fun (r8 : Int32) (M7 : Mem) => ((¬ r8 = 0 → w_X6_addBuild 2 v1 v2 M7 (fun (r11 : Int32) (M10 : Mem) => q r11 M10)) ∧ (r8 = 0 → q (-3 : Int32) M7)))) ∧ (¬ r5 = 0 → q (-2 : Int32) M4))))))
set_option maxRecDepth 100000 in
set_option maxHeartbeats 4000000 in
theorem ok_X11_build {g : Gl} {l : Launch} {v1 : Int32} {v2 : Int32} {M : Mem} {q : Int32 → Mem → Prop} (hw : w_X11_build v1 v2 M q) : CtI g l yX11_build cX11_build 4 (some .int) 2 27 [.ref (g.2.2.2 + 0), .int v1, .int v2] M q := by
  refine n_introI (by decide +kernel) (Nat.le_of_ble_eq_true rfl) (fun c C r => ?_)
  have C : Cx c cX11_build 4 RX11 g l (Rm 2 27) := C
  refine x_sub [0, 1, 2] (lv' := [(0, .ref (g.2.2.2 + 0)), (1, .int v1), (2, .int v2)]) rfl ?_
  unfold w_X11_build at hw
  refine x_aload_n C dX11_build_0 rfl rfl ?_
  refine n_getS (dd := 1) C fl_X11_10 s0 (fun _ _ => rfl) rfl dX11_build_1 ?_
  refine n_getS (dd := 1) C fl_X11_73 s1 (fun _ _ => rfl) rfl dX11_build_4 ?_
  refine x_astore_n C dX11_build_7 rfl (Nat.le_of_ble_eq_true rfl) ?_
  refine x_iload_n C dX11_build_8 rfl rfl ?_
  refine x_aload_n C dX11_build_9 rfl rfl ?_
  refine n_getI C fl_X11_83 s2 (fun _ _ => rfl) dX11_build_10 ?_
  refine n_callSI C (ok_X11_isOut  hw) ms_X11_87 rfl rfl ⟨Nat.le_of_ble_eq_true rfl, Nat.le_of_ble_eq_true rfl⟩ (Nat.le_of_ble_eq_true rfl) dX11_build_13 (fun r2 M1 hw => ?_)
  refine x_if_ne (tgt := 32) C dX11_build_16 (by decide) (fun h3 => ?_) (fun h3 => ?_)
  · replace hw := hw.1 h3
    refine x_bipush (v := (-2 : Int32)) C dX11_build_32 (by decide) ?_
    exact n_ireturn C r dX11_build_34 hw
  · replace hw := hw.2 h3
    refine x_iload_n C dX11_build_19 rfl rfl ?_
    refine x_iconst (v := (1 : Int32)) C dX11_build_20 (by decide) ?_
    refine x_aload_n C dX11_build_21 rfl rfl ?_
    refine n_getI C fl_X11_111 s2 (fun _ _ => rfl) dX11_build_22 ?_
    refine x_ishl C dX11_build_25 ?_
    refine n_callSI C (ok_X11_isOut  hw) ms_X11_87 rfl rfl ⟨Nat.le_of_ble_eq_true rfl, Nat.le_of_ble_eq_true rfl⟩ (Nat.le_of_ble_eq_true rfl) dX11_build_26 (fun r5 M4 hw => ?_)
    refine x_if_eq (tgt := 35) C dX11_build_29 (by decide) (fun h6 => ?_) (fun h6 => ?_)
    · replace hw := hw.1 h6
      refine x_aload_n C dX11_build_35 rfl rfl ?_
      refine x_iload_n C dX11_build_36 rfl rfl ?_
      refine x_iload_n C dX11_build_37 rfl rfl ?_
      refine n_callVI s2 rfl C (ok_X6_fits s2 hw) mv_X11_114 rfl rfl ⟨Nat.le_of_ble_eq_true rfl, Nat.le_of_ble_eq_true rfl⟩ (Nat.le_of_ble_eq_true rfl) dX11_build_38 (fun r8 M7 hw => ?_)
      refine x_if_ne (tgt := 47) C dX11_build_41 (by decide) (fun h9 => ?_) (fun h9 => ?_)
      · replace hw := hw.1 h9
        refine x_aload_n C dX11_build_47 rfl rfl ?_
        refine x_iload_n C dX11_build_48 rfl rfl ?_
        refine x_iload_n C dX11_build_49 rfl rfl ?_
        refine n_callVI s2 rfl C (ok_X6_addBuild s2 hw) mv_X11_117 rfl rfl ⟨Nat.le_of_ble_eq_true rfl, Nat.le_of_ble_eq_true rfl⟩ (Nat.le_of_ble_eq_true rfl) dX11_build_50 (fun r11 M10 hw => ?_)
        exact n_ireturn C r dX11_build_53 hw
      · replace hw := hw.2 h9
        refine x_bipush (v := (-3 : Int32)) C dX11_build_44 (by decide) ?_
        exact n_ireturn C r dX11_build_46 hw
    · replace hw := hw.2 h6
      refine x_bipush (v := (-2 : Int32)) C dX11_build_32 (by decide) ?_
      exact n_ireturn C r dX11_build_34 hw

def w_X11_setting (v1 : Int32) (v2 : Int32) (v3 : Int32) (v4 : Int32) (M : Mem) (q : Int32 → Mem → Prop) : Prop := w_X11_isNotSmall v1 M (fun (r2 : Int32) (M1 : Mem) => ((¬ r2 = 0 → q (-2 : Int32) M1) ∧ (r2 = 0 → w_X11_isNotSmall v2 M1 (fun (r5 : Int32) (M4 : Mem) => ((¬ r5 = 0 → q (-2 : Int32) M4) ∧ (r5 = 0 → w_X11_isNotSmall v3 M4 (fun (r8 : Int32) (M7 : Mem) => ((¬ r8 = 0 → q (-2 : Int32) M7) ∧ (r8 = 0 → w_X11_isNotSmall v4 M7 (fun (r11 : Int32) (M10 : Mem) => ((r11 = 0 → w_X6_addSetting 2 v1 v2 v3 v4 M10 (fun (r14 : Int32) (M13 : Mem) => q r14 M13)) ∧ (¬ r11 = 0 → q (-2 : Int32) M10))))))))))))
set_option maxRecDepth 100000 in
set_option maxHeartbeats 4000000 in
theorem ok_X11_setting {g : Gl} {l : Launch} {v1 : Int32} {v2 : Int32} {v3 : Int32} {v4 : Int32} {M : Mem} {q : Int32 → Mem → Prop} (hw : w_X11_setting v1 v2 v3 v4 M q) : CtI g l yX11_setting cX11_setting 5 (some .int) 3 42 [.ref (g.2.2.2 + 0), .int v1, .int v2, .int v3, .int v4] M q := by
  refine n_introI (by decide +kernel) (Nat.le_of_ble_eq_true rfl) (fun c C r => ?_)
  have C : Cx c cX11_setting 5 RX11 g l (Rm 3 42) := C
  refine x_sub [0, 1, 2, 3, 4] (lv' := [(0, .ref (g.2.2.2 + 0)), (1, .int v1), (2, .int v2), (3, .int v3), (4, .int v4)]) rfl ?_
  unfold w_X11_setting at hw
  refine x_iload_n C dX11_setting_0 rfl rfl ?_
  refine n_callSI C (ok_X11_isNotSmall  hw) ms_X11_121 rfl rfl ⟨Nat.le_of_ble_eq_true rfl, Nat.le_of_ble_eq_true rfl⟩ (Nat.le_of_ble_eq_true rfl) dX11_setting_1 (fun r2 M1 hw => ?_)
  refine x_if_ne (tgt := 29) C dX11_setting_4 (by decide) (fun h3 => ?_) (fun h3 => ?_)
  · replace hw := hw.1 h3
    refine x_bipush (v := (-2 : Int32)) C dX11_setting_29 (by decide) ?_
    exact n_ireturn C r dX11_setting_31 hw
  · replace hw := hw.2 h3
    refine x_iload_n C dX11_setting_7 rfl rfl ?_
    refine n_callSI C (ok_X11_isNotSmall  hw) ms_X11_121 rfl rfl ⟨Nat.le_of_ble_eq_true rfl, Nat.le_of_ble_eq_true rfl⟩ (Nat.le_of_ble_eq_true rfl) dX11_setting_8 (fun r5 M4 hw => ?_)
    refine x_if_ne (tgt := 29) C dX11_setting_11 (by decide) (fun h6 => ?_) (fun h6 => ?_)
    · replace hw := hw.1 h6
      refine x_bipush (v := (-2 : Int32)) C dX11_setting_29 (by decide) ?_
      exact n_ireturn C r dX11_setting_31 hw
    · replace hw := hw.2 h6
      refine x_iload_n C dX11_setting_14 rfl rfl ?_
      refine n_callSI C (ok_X11_isNotSmall  hw) ms_X11_121 rfl rfl ⟨Nat.le_of_ble_eq_true rfl, Nat.le_of_ble_eq_true rfl⟩ (Nat.le_of_ble_eq_true rfl) dX11_setting_15 (fun r8 M7 hw => ?_)
      refine x_if_ne (tgt := 29) C dX11_setting_18 (by decide) (fun h9 => ?_) (fun h9 => ?_)
      · replace hw := hw.1 h9
        refine x_bipush (v := (-2 : Int32)) C dX11_setting_29 (by decide) ?_
        exact n_ireturn C r dX11_setting_31 hw
      · replace hw := hw.2 h9
        refine x_iload C dX11_setting_21 rfl ?_
        refine n_callSI C (ok_X11_isNotSmall  hw) ms_X11_121 rfl rfl ⟨Nat.le_of_ble_eq_true rfl, Nat.le_of_ble_eq_true rfl⟩ (Nat.le_of_ble_eq_true rfl) dX11_setting_23 (fun r11 M10 hw => ?_)
        refine x_if_eq (tgt := 32) C dX11_setting_26 (by decide) (fun h12 => ?_) (fun h12 => ?_)
        · replace hw := hw.1 h12
          refine x_aload_n C dX11_setting_32 rfl rfl ?_
          refine n_getS (dd := 1) C fl_X11_10 s0 (fun _ _ => rfl) rfl dX11_setting_33 ?_
          refine n_getS (dd := 1) C fl_X11_73 s1 (fun _ _ => rfl) rfl dX11_setting_36 ?_
          refine x_iload_n C dX11_setting_39 rfl rfl ?_
          refine x_iload_n C dX11_setting_40 rfl rfl ?_
          refine x_iload_n C dX11_setting_41 rfl rfl ?_
          refine x_iload C dX11_setting_42 rfl ?_
          refine n_callVI s2 rfl C (ok_X6_addSetting s2 hw) mv_X11_124 rfl rfl ⟨Nat.le_of_ble_eq_true rfl, Nat.le_of_ble_eq_true rfl⟩ (Nat.le_of_ble_eq_true rfl) dX11_setting_44 (fun r14 M13 hw => ?_)
          exact n_ireturn C r dX11_setting_47 hw
        · replace hw := hw.2 h12
          refine x_bipush (v := (-2 : Int32)) C dX11_setting_29 (by decide) ?_
          exact n_ireturn C r dX11_setting_31 hw

def w_X11_price (v1 : Int32) (v2 : Int32) (v3 : Int32) (M : Mem) (q : Int32 → Mem → Prop) : Prop := w_X11_isOut v1 (4 : Int32) M (fun (r2 : Int32) (M1 : Mem) => ((¬ r2 = 0 → q (-2 : Int32) M1) ∧ (r2 = 0 → w_X11_isOut v2 (8 : Int32) M1 (fun (r5 : Int32) (M4 : Mem) => ((¬ r5 = 0 → q (-2 : Int32) M4) ∧ (r5 = 0 → w_X11_isBeyond v3 (0 : Int32) (50 : Int32) M4 (fun (r8 : Int32) (M7 : Mem) => ((r8 = 0 → vp_in v1 4 ∧ vp_in v2 8 ∧ ∀ x12 : Int32, x12 = (M7.1 ((11 + 6 + 4 * (v1).toNatClampNeg) + 1) (v2).toNatClampNeg) → vp_in v2 8 ∧ ∀ M14 : Mem, M14 = uI M7 ((11 + 6 + 4 * (v1).toNatClampNeg) + 1) (v2).toNatClampNeg v3 → q x12 M14) ∧ (¬ r8 = 0 → q (-2 : Int32) M7)))))))))
set_option maxRecDepth 100000 in
set_option maxHeartbeats 4000000 in
theorem ok_X11_price {g : Gl} {l : Launch} {v1 : Int32} {v2 : Int32} {v3 : Int32} {M : Mem} {q : Int32 → Mem → Prop} (hw : w_X11_price v1 v2 v3 M q) : CtI g l yX11_price cX11_price 6 (some .int) 2 22 [.ref (g.2.2.2 + 0), .int v1, .int v2, .int v3] M q := by
  refine n_introI (by decide +kernel) (Nat.le_of_ble_eq_true rfl) (fun c C r => ?_)
  have C : Cx c cX11_price 6 RX11 g l (Rm 2 22) := C
  refine x_sub [0, 1, 2, 3] (lv' := [(0, .ref (g.2.2.2 + 0)), (1, .int v1), (2, .int v2), (3, .int v3)]) rfl ?_
  unfold w_X11_price at hw
  refine x_iload_n C dX11_price_0 rfl rfl ?_
  refine x_iconst (v := (4 : Int32)) C dX11_price_1 (by decide) ?_
  refine n_callSI C (ok_X11_isOut  hw) ms_X11_87 rfl rfl ⟨Nat.le_of_ble_eq_true rfl, Nat.le_of_ble_eq_true rfl⟩ (Nat.le_of_ble_eq_true rfl) dX11_price_2 (fun r2 M1 hw => ?_)
  refine x_if_ne (tgt := 27) C dX11_price_5 (by decide) (fun h3 => ?_) (fun h3 => ?_)
  · replace hw := hw.1 h3
    refine x_bipush (v := (-2 : Int32)) C dX11_price_27 (by decide) ?_
    exact n_ireturn C r dX11_price_29 hw
  · replace hw := hw.2 h3
    refine x_iload_n C dX11_price_8 rfl rfl ?_
    refine x_bipush (v := (8 : Int32)) C dX11_price_9 (by decide) ?_
    refine n_callSI C (ok_X11_isOut  hw) ms_X11_87 rfl rfl ⟨Nat.le_of_ble_eq_true rfl, Nat.le_of_ble_eq_true rfl⟩ (Nat.le_of_ble_eq_true rfl) dX11_price_11 (fun r5 M4 hw => ?_)
    refine x_if_ne (tgt := 27) C dX11_price_14 (by decide) (fun h6 => ?_) (fun h6 => ?_)
    · replace hw := hw.1 h6
      refine x_bipush (v := (-2 : Int32)) C dX11_price_27 (by decide) ?_
      exact n_ireturn C r dX11_price_29 hw
    · replace hw := hw.2 h6
      refine x_iload_n C dX11_price_17 rfl rfl ?_
      refine x_iconst (v := (0 : Int32)) C dX11_price_18 (by decide) ?_
      refine x_bipush (v := (50 : Int32)) C dX11_price_19 (by decide) ?_
      refine n_callSI C (ok_X11_isBeyond  hw) ms_X11_128 rfl rfl ⟨Nat.le_of_ble_eq_true rfl, Nat.le_of_ble_eq_true rfl⟩ (Nat.le_of_ble_eq_true rfl) dX11_price_21 (fun r8 M7 hw => ?_)
      refine x_if_eq (tgt := 30) C dX11_price_24 (by decide) (fun h9 => ?_) (fun h9 => ?_)
      · replace hw := hw.1 h9
        refine x_aload_n C dX11_price_30 rfl rfl ?_
        refine n_getS (dd := 1) C fl_X11_10 s0 (fun _ _ => rfl) rfl dX11_price_31 ?_
        refine n_getS (dd := 10) C fl_X11_132 s1 (fun _ _ => rfl) rfl dX11_price_34 ?_
        refine x_iload_n C dX11_price_37 rfl rfl ?_
        obtain ⟨h10, hw⟩ := hw
        refine a_aald3 C s11 ln11 h10 dX11_price_38 ?_
        refine n_getS (dd := 1) C fl_X11_136 (el3 s11 (ln11.symm ▸ h10)) (fun _ _ => rfl) rfl dX11_price_39 ?_
        refine x_astore C dX11_price_42 (Nat.le_of_ble_eq_true rfl) ?_
        refine x_aload C dX11_price_44 rfl ?_
        refine x_iload_n C dX11_price_46 rfl rfl ?_
        obtain ⟨h11, hw⟩ := hw
        refine a_iald C (ss_3_0 (el3 s11 (ln11.symm ▸ h10))) (sl_3_0 (el3 s11 (ln11.symm ▸ h10))) h11 dX11_price_47 ?_
        obtain ⟨x12, ex12⟩ : ∃ z : Int32, z = (M7.1 ((11 + 6 + 4 * (v1).toNatClampNeg) + 1) (v2).toNatClampNeg) := ⟨_, rfl⟩
        replace hw := hw x12 ex12
        refine x_topi ex12 ?_
        refine x_istore C dX11_price_48 (Nat.le_of_ble_eq_true rfl) ?_
        refine x_aload C dX11_price_50 rfl ?_
        refine x_iload_n C dX11_price_52 rfl rfl ?_
        refine x_iload_n C dX11_price_53 rfl rfl ?_
        obtain ⟨h13, hw⟩ := hw
        obtain ⟨M14, eM14⟩ : ∃ z : Mem, z = uI M7 ((11 + 6 + 4 * (v1).toNatClampNeg) + 1) (v2).toNatClampNeg v3 := ⟨_, rfl⟩
        replace hw := hw M14 eM14
        refine a_iast C (ss_3_0 (el3 s11 (ln11.symm ▸ h10))) (sl_3_0 (el3 s11 (ln11.symm ▸ h10))) rfl h13 eM14 dX11_price_54 ?_
        refine x_iload C dX11_price_55 rfl ?_
        exact n_ireturn C r dX11_price_57 hw
      · replace hw := hw.2 h9
        refine x_bipush (v := (-2 : Int32)) C dX11_price_27 (by decide) ?_
        exact n_ireturn C r dX11_price_29 hw

def w_X11_cache (v1 : Int32) (v2 : Int32) (v3 : Int32) (v4 : Int32) (M : Mem) (q : Int32 → Mem → Prop) : Prop := w_X11_isOut v1 (4 : Int32) M (fun (r2 : Int32) (M1 : Mem) => ((¬ r2 = 0 → q (-2 : Int32) M1) ∧ (r2 = 0 → w_X11_isBeyond v2 (1 : Int32) (16 : Int32) M1 (fun (r5 : Int32) (M4 : Mem) => ((¬ r5 = 0 → q (-2 : Int32) M4) ∧ (r5 = 0 → w_X11_isBeyond v3 (1 : Int32) (8 : Int32) M4 (fun (r8 : Int32) (M7 : Mem) => ((¬ r8 = 0 → q (-2 : Int32) M7) ∧ (r8 = 0 → w_X11_isBeyond v4 (0 : Int32) (200 : Int32) M7 (fun (r11 : Int32) (M10 : Mem) => ((r11 = 0 → vp_in v1 4 ∧ w_X3_tellCache (11 + 6 + 4 * (v1).toNatClampNeg) v2 v3 v4 M10 (fun (M14 : Mem) => q (1 : Int32) M14)) ∧ (¬ r11 = 0 → q (-2 : Int32) M10))))))))))))
set_option maxRecDepth 100000 in
set_option maxHeartbeats 4000000 in
theorem ok_X11_cache {g : Gl} {l : Launch} {v1 : Int32} {v2 : Int32} {v3 : Int32} {v4 : Int32} {M : Mem} {q : Int32 → Mem → Prop} (hw : w_X11_cache v1 v2 v3 v4 M q) : CtI g l yX11_cache cX11_cache 5 (some .int) 3 46 [.ref (g.2.2.2 + 0), .int v1, .int v2, .int v3, .int v4] M q := by
  refine n_introI (by decide +kernel) (Nat.le_of_ble_eq_true rfl) (fun c C r => ?_)
  have C : Cx c cX11_cache 5 RX11 g l (Rm 3 46) := C
  refine x_sub [0, 1, 2, 3, 4] (lv' := [(0, .ref (g.2.2.2 + 0)), (1, .int v1), (2, .int v2), (3, .int v3), (4, .int v4)]) rfl ?_
  unfold w_X11_cache at hw
  refine x_iload_n C dX11_cache_0 rfl rfl ?_
  refine x_iconst (v := (4 : Int32)) C dX11_cache_1 (by decide) ?_
  refine n_callSI C (ok_X11_isOut  hw) ms_X11_87 rfl rfl ⟨Nat.le_of_ble_eq_true rfl, Nat.le_of_ble_eq_true rfl⟩ (Nat.le_of_ble_eq_true rfl) dX11_cache_2 (fun r2 M1 hw => ?_)
  refine x_if_ne (tgt := 40) C dX11_cache_5 (by decide) (fun h3 => ?_) (fun h3 => ?_)
  · replace hw := hw.1 h3
    refine x_bipush (v := (-2 : Int32)) C dX11_cache_40 (by decide) ?_
    exact n_ireturn C r dX11_cache_42 hw
  · replace hw := hw.2 h3
    refine x_iload_n C dX11_cache_8 rfl rfl ?_
    refine x_iconst (v := (1 : Int32)) C dX11_cache_9 (by decide) ?_
    refine x_bipush (v := (16 : Int32)) C dX11_cache_10 (by decide) ?_
    refine n_callSI C (ok_X11_isBeyond  hw) ms_X11_128 rfl rfl ⟨Nat.le_of_ble_eq_true rfl, Nat.le_of_ble_eq_true rfl⟩ (Nat.le_of_ble_eq_true rfl) dX11_cache_12 (fun r5 M4 hw => ?_)
    refine x_if_ne (tgt := 40) C dX11_cache_15 (by decide) (fun h6 => ?_) (fun h6 => ?_)
    · replace hw := hw.1 h6
      refine x_bipush (v := (-2 : Int32)) C dX11_cache_40 (by decide) ?_
      exact n_ireturn C r dX11_cache_42 hw
    · replace hw := hw.2 h6
      refine x_iload_n C dX11_cache_18 rfl rfl ?_
      refine x_iconst (v := (1 : Int32)) C dX11_cache_19 (by decide) ?_
      refine x_bipush (v := (8 : Int32)) C dX11_cache_20 (by decide) ?_
      refine n_callSI C (ok_X11_isBeyond  hw) ms_X11_128 rfl rfl ⟨Nat.le_of_ble_eq_true rfl, Nat.le_of_ble_eq_true rfl⟩ (Nat.le_of_ble_eq_true rfl) dX11_cache_22 (fun r8 M7 hw => ?_)
      refine x_if_ne (tgt := 40) C dX11_cache_25 (by decide) (fun h9 => ?_) (fun h9 => ?_)
      · replace hw := hw.1 h9
        refine x_bipush (v := (-2 : Int32)) C dX11_cache_40 (by decide) ?_
        exact n_ireturn C r dX11_cache_42 hw
      · replace hw := hw.2 h9
        refine x_iload C dX11_cache_28 rfl ?_
        refine x_iconst (v := (0 : Int32)) C dX11_cache_30 (by decide) ?_
        refine x_sipush (v := (200 : Int32)) C dX11_cache_31 (by decide) ?_
        refine n_callSI C (ok_X11_isBeyond  hw) ms_X11_128 rfl rfl ⟨Nat.le_of_ble_eq_true rfl, Nat.le_of_ble_eq_true rfl⟩ (Nat.le_of_ble_eq_true rfl) dX11_cache_34 (fun r11 M10 hw => ?_)
        refine x_if_eq (tgt := 43) C dX11_cache_37 (by decide) (fun h12 => ?_) (fun h12 => ?_)
        · replace hw := hw.1 h12
          refine x_aload_n C dX11_cache_43 rfl rfl ?_
          refine n_getS (dd := 1) C fl_X11_10 s0 (fun _ _ => rfl) rfl dX11_cache_44 ?_
          refine n_getS (dd := 10) C fl_X11_132 s1 (fun _ _ => rfl) rfl dX11_cache_47 ?_
          refine x_iload_n C dX11_cache_50 rfl rfl ?_
          obtain ⟨h13, hw⟩ := hw
          refine a_aald3 C s11 ln11 h13 dX11_cache_51 ?_
          refine x_iload_n C dX11_cache_52 rfl rfl ?_
          refine x_iload_n C dX11_cache_53 rfl rfl ?_
          refine x_iload C dX11_cache_54 rfl ?_
          refine n_callVV (el3 s11 (ln11.symm ▸ h13)) rfl C (ok_X3_tellCache (el3 s11 (ln11.symm ▸ h13)) hw) mv_X11_141 rfl rfl ⟨Nat.le_of_ble_eq_true rfl, Nat.le_of_ble_eq_true rfl⟩ (Nat.le_of_ble_eq_true rfl) dX11_cache_56 (fun M14 hw => ?_)
          refine x_iconst (v := (1 : Int32)) C dX11_cache_59 (by decide) ?_
          exact n_ireturn C r dX11_cache_60 hw
        · replace hw := hw.2 h12
          refine x_bipush (v := (-2 : Int32)) C dX11_cache_40 (by decide) ?_
          exact n_ireturn C r dX11_cache_42 hw

def w_X11_guess (v1 : Int32) (v2 : Int32) (v3 : Int32) (M : Mem) (q : Int32 → Mem → Prop) : Prop := w_X11_isOut v1 (4 : Int32) M (fun (r2 : Int32) (M1 : Mem) => ((¬ r2 = 0 → q (-2 : Int32) M1) ∧ (r2 = 0 → w_X11_isBeyond v2 (1 : Int32) (16 : Int32) M1 (fun (r5 : Int32) (M4 : Mem) => ((¬ r5 = 0 → q (-2 : Int32) M4) ∧ (r5 = 0 → w_X11_isBeyond v3 (0 : Int32) (100 : Int32) M4 (fun (r8 : Int32) (M7 : Mem) => ((r8 = 0 → vp_in v1 4 ∧ w_X3_tellGuesses (11 + 6 + 4 * (v1).toNatClampNeg) v2 v3 M7 (fun (M11 : Mem) => q (1 : Int32) M11)) ∧ (¬ r8 = 0 → q (-2 : Int32) M7)))))))))
set_option maxRecDepth 100000 in
set_option maxHeartbeats 4000000 in
theorem ok_X11_guess {g : Gl} {l : Launch} {v1 : Int32} {v2 : Int32} {v3 : Int32} {M : Mem} {q : Int32 → Mem → Prop} (hw : w_X11_guess v1 v2 v3 M q) : CtI g l yX11_guess cX11_guess 4 (some .int) 3 45 [.ref (g.2.2.2 + 0), .int v1, .int v2, .int v3] M q := by
  refine n_introI (by decide +kernel) (Nat.le_of_ble_eq_true rfl) (fun c C r => ?_)
  have C : Cx c cX11_guess 4 RX11 g l (Rm 3 45) := C
  refine x_sub [0, 1, 2, 3] (lv' := [(0, .ref (g.2.2.2 + 0)), (1, .int v1), (2, .int v2), (3, .int v3)]) rfl ?_
  unfold w_X11_guess at hw
  refine x_iload_n C dX11_guess_0 rfl rfl ?_
  refine x_iconst (v := (4 : Int32)) C dX11_guess_1 (by decide) ?_
  refine n_callSI C (ok_X11_isOut  hw) ms_X11_87 rfl rfl ⟨Nat.le_of_ble_eq_true rfl, Nat.le_of_ble_eq_true rfl⟩ (Nat.le_of_ble_eq_true rfl) dX11_guess_2 (fun r2 M1 hw => ?_)
  refine x_if_ne (tgt := 28) C dX11_guess_5 (by decide) (fun h3 => ?_) (fun h3 => ?_)
  · replace hw := hw.1 h3
    refine x_bipush (v := (-2 : Int32)) C dX11_guess_28 (by decide) ?_
    exact n_ireturn C r dX11_guess_30 hw
  · replace hw := hw.2 h3
    refine x_iload_n C dX11_guess_8 rfl rfl ?_
    refine x_iconst (v := (1 : Int32)) C dX11_guess_9 (by decide) ?_
    refine x_bipush (v := (16 : Int32)) C dX11_guess_10 (by decide) ?_
    refine n_callSI C (ok_X11_isBeyond  hw) ms_X11_128 rfl rfl ⟨Nat.le_of_ble_eq_true rfl, Nat.le_of_ble_eq_true rfl⟩ (Nat.le_of_ble_eq_true rfl) dX11_guess_12 (fun r5 M4 hw => ?_)
    refine x_if_ne (tgt := 28) C dX11_guess_15 (by decide) (fun h6 => ?_) (fun h6 => ?_)
    · replace hw := hw.1 h6
      refine x_bipush (v := (-2 : Int32)) C dX11_guess_28 (by decide) ?_
      exact n_ireturn C r dX11_guess_30 hw
    · replace hw := hw.2 h6
      refine x_iload_n C dX11_guess_18 rfl rfl ?_
      refine x_iconst (v := (0 : Int32)) C dX11_guess_19 (by decide) ?_
      refine x_bipush (v := (100 : Int32)) C dX11_guess_20 (by decide) ?_
      refine n_callSI C (ok_X11_isBeyond  hw) ms_X11_128 rfl rfl ⟨Nat.le_of_ble_eq_true rfl, Nat.le_of_ble_eq_true rfl⟩ (Nat.le_of_ble_eq_true rfl) dX11_guess_22 (fun r8 M7 hw => ?_)
      refine x_if_eq (tgt := 31) C dX11_guess_25 (by decide) (fun h9 => ?_) (fun h9 => ?_)
      · replace hw := hw.1 h9
        refine x_aload_n C dX11_guess_31 rfl rfl ?_
        refine n_getS (dd := 1) C fl_X11_10 s0 (fun _ _ => rfl) rfl dX11_guess_32 ?_
        refine n_getS (dd := 10) C fl_X11_132 s1 (fun _ _ => rfl) rfl dX11_guess_35 ?_
        refine x_iload_n C dX11_guess_38 rfl rfl ?_
        obtain ⟨h10, hw⟩ := hw
        refine a_aald3 C s11 ln11 h10 dX11_guess_39 ?_
        refine x_iload_n C dX11_guess_40 rfl rfl ?_
        refine x_iload_n C dX11_guess_41 rfl rfl ?_
        refine n_callVV (el3 s11 (ln11.symm ▸ h10)) rfl C (ok_X3_tellGuesses (el3 s11 (ln11.symm ▸ h10)) hw) mv_X11_145 rfl rfl ⟨Nat.le_of_ble_eq_true rfl, Nat.le_of_ble_eq_true rfl⟩ (Nat.le_of_ble_eq_true rfl) dX11_guess_42 (fun M11 hw => ?_)
        refine x_iconst (v := (1 : Int32)) C dX11_guess_45 (by decide) ?_
        exact n_ireturn C r dX11_guess_46 hw
      · replace hw := hw.2 h9
        refine x_bipush (v := (-2 : Int32)) C dX11_guess_28 (by decide) ?_
        exact n_ireturn C r dX11_guess_30 hw

def w_X11_noise (v1 : Int32) (v2 : Int32) (v3 : Int32) (v4 : Int32) (v5 : Int32) (M : Mem) (q : Int32 → Mem → Prop) : Prop := w_X11_isOut v1 (4 : Int32) M (fun (r2 : Int32) (M1 : Mem) => ((¬ r2 = 0 → q (-2 : Int32) M1) ∧ (r2 = 0 → w_X11_isBeyond v2 (0 : Int32) (20 : Int32) M1 (fun (r5 : Int32) (M4 : Mem) => ((¬ r5 = 0 → q (-2 : Int32) M4) ∧ (r5 = 0 → w_X11_isBeyond v3 (0 : Int32) (1000 : Int32) M4 (fun (r8 : Int32) (M7 : Mem) => ((¬ r8 = 0 → q (-2 : Int32) M7) ∧ (r8 = 0 → w_X11_isBeyond v4 (0 : Int32) (100 : Int32) M7 (fun (r11 : Int32) (M10 : Mem) => ((r11 = 0 → vp_in v1 4 ∧ w_X3_tellNoise (11 + 6 + 4 * (v1).toNatClampNeg) v2 v3 v4 v5 M10 (fun (M14 : Mem) => q (1 : Int32) M14)) ∧ (¬ r11 = 0 → q (-2 : Int32) M10))))))))))))
set_option maxRecDepth 100000 in
set_option maxHeartbeats 4000000 in
theorem ok_X11_noise {g : Gl} {l : Launch} {v1 : Int32} {v2 : Int32} {v3 : Int32} {v4 : Int32} {v5 : Int32} {M : Mem} {q : Int32 → Mem → Prop} (hw : w_X11_noise v1 v2 v3 v4 v5 M q) : CtI g l yX11_noise cX11_noise 6 (some .int) 2 24 [.ref (g.2.2.2 + 0), .int v1, .int v2, .int v3, .int v4, .int v5] M q := by
  refine n_introI (by decide +kernel) (Nat.le_of_ble_eq_true rfl) (fun c C r => ?_)
  have C : Cx c cX11_noise 6 RX11 g l (Rm 2 24) := C
  refine x_sub [0, 1, 2, 3, 4, 5] (lv' := [(0, .ref (g.2.2.2 + 0)), (1, .int v1), (2, .int v2), (3, .int v3), (4, .int v4), (5, .int v5)]) rfl ?_
  unfold w_X11_noise at hw
  refine x_iload_n C dX11_noise_0 rfl rfl ?_
  refine x_iconst (v := (4 : Int32)) C dX11_noise_1 (by decide) ?_
  refine n_callSI C (ok_X11_isOut  hw) ms_X11_87 rfl rfl ⟨Nat.le_of_ble_eq_true rfl, Nat.le_of_ble_eq_true rfl⟩ (Nat.le_of_ble_eq_true rfl) dX11_noise_2 (fun r2 M1 hw => ?_)
  refine x_if_ne (tgt := 40) C dX11_noise_5 (by decide) (fun h3 => ?_) (fun h3 => ?_)
  · replace hw := hw.1 h3
    refine x_bipush (v := (-2 : Int32)) C dX11_noise_40 (by decide) ?_
    exact n_ireturn C r dX11_noise_42 hw
  · replace hw := hw.2 h3
    refine x_iload_n C dX11_noise_8 rfl rfl ?_
    refine x_iconst (v := (0 : Int32)) C dX11_noise_9 (by decide) ?_
    refine x_bipush (v := (20 : Int32)) C dX11_noise_10 (by decide) ?_
    refine n_callSI C (ok_X11_isBeyond  hw) ms_X11_128 rfl rfl ⟨Nat.le_of_ble_eq_true rfl, Nat.le_of_ble_eq_true rfl⟩ (Nat.le_of_ble_eq_true rfl) dX11_noise_12 (fun r5 M4 hw => ?_)
    refine x_if_ne (tgt := 40) C dX11_noise_15 (by decide) (fun h6 => ?_) (fun h6 => ?_)
    · replace hw := hw.1 h6
      refine x_bipush (v := (-2 : Int32)) C dX11_noise_40 (by decide) ?_
      exact n_ireturn C r dX11_noise_42 hw
    · replace hw := hw.2 h6
      refine x_iload_n C dX11_noise_18 rfl rfl ?_
      refine x_iconst (v := (0 : Int32)) C dX11_noise_19 (by decide) ?_
      refine x_sipush (v := (1000 : Int32)) C dX11_noise_20 (by decide) ?_
      refine n_callSI C (ok_X11_isBeyond  hw) ms_X11_128 rfl rfl ⟨Nat.le_of_ble_eq_true rfl, Nat.le_of_ble_eq_true rfl⟩ (Nat.le_of_ble_eq_true rfl) dX11_noise_23 (fun r8 M7 hw => ?_)
      refine x_if_ne (tgt := 40) C dX11_noise_26 (by decide) (fun h9 => ?_) (fun h9 => ?_)
      · replace hw := hw.1 h9
        refine x_bipush (v := (-2 : Int32)) C dX11_noise_40 (by decide) ?_
        exact n_ireturn C r dX11_noise_42 hw
      · replace hw := hw.2 h9
        refine x_iload C dX11_noise_29 rfl ?_
        refine x_iconst (v := (0 : Int32)) C dX11_noise_31 (by decide) ?_
        refine x_bipush (v := (100 : Int32)) C dX11_noise_32 (by decide) ?_
        refine n_callSI C (ok_X11_isBeyond  hw) ms_X11_128 rfl rfl ⟨Nat.le_of_ble_eq_true rfl, Nat.le_of_ble_eq_true rfl⟩ (Nat.le_of_ble_eq_true rfl) dX11_noise_34 (fun r11 M10 hw => ?_)
        refine x_if_eq (tgt := 43) C dX11_noise_37 (by decide) (fun h12 => ?_) (fun h12 => ?_)
        · replace hw := hw.1 h12
          refine x_aload_n C dX11_noise_43 rfl rfl ?_
          refine n_getS (dd := 1) C fl_X11_10 s0 (fun _ _ => rfl) rfl dX11_noise_44 ?_
          refine n_getS (dd := 10) C fl_X11_132 s1 (fun _ _ => rfl) rfl dX11_noise_47 ?_
          refine x_iload_n C dX11_noise_50 rfl rfl ?_
          obtain ⟨h13, hw⟩ := hw
          refine a_aald3 C s11 ln11 h13 dX11_noise_51 ?_
          refine x_iload_n C dX11_noise_52 rfl rfl ?_
          refine x_iload_n C dX11_noise_53 rfl rfl ?_
          refine x_iload C dX11_noise_54 rfl ?_
          refine x_iload C dX11_noise_56 rfl ?_
          refine n_callVV (el3 s11 (ln11.symm ▸ h13)) rfl C (ok_X3_tellNoise (el3 s11 (ln11.symm ▸ h13)) hw) mv_X11_149 rfl rfl ⟨Nat.le_of_ble_eq_true rfl, Nat.le_of_ble_eq_true rfl⟩ (Nat.le_of_ble_eq_true rfl) dX11_noise_58 (fun M14 hw => ?_)
          refine x_iconst (v := (1 : Int32)) C dX11_noise_61 (by decide) ?_
          exact n_ireturn C r dX11_noise_62 hw
        · replace hw := hw.2 h12
          refine x_bipush (v := (-2 : Int32)) C dX11_noise_40 (by decide) ?_
          exact n_ireturn C r dX11_noise_42 hw

def w_X11_isNoSpot_b42 (M : Mem) (q : Int32 → Mem → Prop) : Prop := q (1 : Int32) M
set_option maxRecDepth 100000 in
set_option maxHeartbeats 4000000 in
theorem ok_X11_isNoSpot_b42 {c : CtxT} {g : Gl} {l : Launch} {q : Int32 → Mem → Prop} {M : Mem} (C : Cx c cX11_isNoSpot 4 RX11 g l (Rm 2 21)) (r : Rt c (some .boolean) (pI q) 0 0) (hw : w_X11_isNoSpot_b42 M q ) : X c S0 42 [] [] (stat M) := by
  unfold w_X11_isNoSpot_b42 at hw
  refine x_iconst (v := (1 : Int32)) C dX11_isNoSpot_42 (by decide) ?_
  refine x_goto (tgt := 47) C dX11_isNoSpot_43 (by decide) ?_
  exact n_zreturn C r dX11_isNoSpot_47 (Or.inr rfl) hw
def w_X11_isNoSpot (v1 : Int32) (v2 : Int32) (v3 : Int32) (M : Mem) (q : Int32 → Mem → Prop) : Prop := w_X11_isOut v1 (M.1 2 7) M (fun (r2 : Int32) (M1 : Mem) => ((¬ r2 = 0 → w_X11_isNoSpot_b42 M1 q) ∧ (r2 = 0 → w_X11_isOut v2 (4 : Int32) M1 (fun (r5 : Int32) (M4 : Mem) => ((¬ r5 = 0 → w_X11_isNoSpot_b42 M4 q) ∧ (r5 = 0 → w_X11_isOut v3 (M4.1 2 10) M4 (fun (r8 : Int32) (M7 : Mem) => ((r8 = 0 → q (0 : Int32) M7) ∧ (¬ r8 = 0 → w_X11_isNoSpot_b42 M7 q)))))))))
set_option maxRecDepth 100000 in
set_option maxHeartbeats 4000000 in
theorem ok_X11_isNoSpot {g : Gl} {l : Launch} {v1 : Int32} {v2 : Int32} {v3 : Int32} {M : Mem} {q : Int32 → Mem → Prop} (hw : w_X11_isNoSpot v1 v2 v3 M q) : CtI g l yX11_isNoSpot cX11_isNoSpot 4 (some .boolean) 2 21 [.ref (g.2.2.2 + 0), .int v1, .int v2, .int v3] M q := by
  refine n_introI (by decide +kernel) (Nat.le_of_ble_eq_true rfl) (fun c C r => ?_)
  have C : Cx c cX11_isNoSpot 4 RX11 g l (Rm 2 21) := C
  refine x_sub [0, 1, 2, 3] (lv' := [(0, .ref (g.2.2.2 + 0)), (1, .int v1), (2, .int v2), (3, .int v3)]) rfl ?_
  unfold w_X11_isNoSpot at hw
  refine x_iload_n C dX11_isNoSpot_0 rfl rfl ?_
  refine x_aload_n C dX11_isNoSpot_1 rfl rfl ?_
  refine n_getS (dd := 1) C fl_X11_10 s0 (fun _ _ => rfl) rfl dX11_isNoSpot_2 ?_
  refine n_getS (dd := 1) C fl_X11_73 s1 (fun _ _ => rfl) rfl dX11_isNoSpot_5 ?_
  refine n_getI C fl_X11_193 s2 (fun _ _ => rfl) dX11_isNoSpot_8 ?_
  refine n_callSI C (ok_X11_isOut  hw) ms_X11_87 rfl rfl ⟨Nat.le_of_ble_eq_true rfl, Nat.le_of_ble_eq_true rfl⟩ (Nat.le_of_ble_eq_true rfl) dX11_isNoSpot_11 (fun r2 M1 hw => ?_)
  refine x_if_ne (tgt := 42) C dX11_isNoSpot_14 (by decide) (fun h3 => ?_) (fun h3 => ?_)
  · replace hw := hw.1 h3
    exact x_sub [] rfl (ok_X11_isNoSpot_b42 C r  hw)
  · replace hw := hw.2 h3
    refine x_iload_n C dX11_isNoSpot_17 rfl rfl ?_
    refine x_iconst (v := (4 : Int32)) C dX11_isNoSpot_18 (by decide) ?_
    refine n_callSI C (ok_X11_isOut  hw) ms_X11_87 rfl rfl ⟨Nat.le_of_ble_eq_true rfl, Nat.le_of_ble_eq_true rfl⟩ (Nat.le_of_ble_eq_true rfl) dX11_isNoSpot_19 (fun r5 M4 hw => ?_)
    refine x_if_ne (tgt := 42) C dX11_isNoSpot_22 (by decide) (fun h6 => ?_) (fun h6 => ?_)
    · replace hw := hw.1 h6
      exact x_sub [] rfl (ok_X11_isNoSpot_b42 C r  hw)
    · replace hw := hw.2 h6
      refine x_iload_n C dX11_isNoSpot_25 rfl rfl ?_
      refine x_aload_n C dX11_isNoSpot_26 rfl rfl ?_
      refine n_getS (dd := 1) C fl_X11_10 s0 (fun _ _ => rfl) rfl dX11_isNoSpot_27 ?_
      refine n_getS (dd := 1) C fl_X11_73 s1 (fun _ _ => rfl) rfl dX11_isNoSpot_30 ?_
      refine n_getI C fl_X11_311 s2 (fun _ _ => rfl) dX11_isNoSpot_33 ?_
      refine n_callSI C (ok_X11_isOut  hw) ms_X11_87 rfl rfl ⟨Nat.le_of_ble_eq_true rfl, Nat.le_of_ble_eq_true rfl⟩ (Nat.le_of_ble_eq_true rfl) dX11_isNoSpot_36 (fun r8 M7 hw => ?_)
      refine x_if_eq (tgt := 46) C dX11_isNoSpot_39 (by decide) (fun h9 => ?_) (fun h9 => ?_)
      · replace hw := hw.1 h9
        refine x_iconst (v := (0 : Int32)) C dX11_isNoSpot_46 (by decide) ?_
        exact n_zreturn C r dX11_isNoSpot_47 (Or.inl rfl) hw
      · replace hw := hw.2 h9
        exact x_sub [] rfl (ok_X11_isNoSpot_b42 C r  hw)

def w_X11_isNoHour (v0 : Int32) (M : Mem) (q : Int32 → Mem → Prop) : Prop := w_X11_isBeyond v0 (0 : Int32) (23 : Int32) M (fun (r2 : Int32) (M1 : Mem) => (bz r2 ∧ q r2 M1))
set_option maxRecDepth 100000 in
set_option maxHeartbeats 4000000 in
theorem ok_X11_isNoHour {g : Gl} {l : Launch} {v0 : Int32} {M : Mem} {q : Int32 → Mem → Prop} (hw : w_X11_isNoHour v0 M q) : CtI g l yX11_isNoHour cX11_isNoHour 1 (some .boolean) 2 22 [.int v0] M q := by
  refine n_introI (by decide +kernel) (Nat.le_of_ble_eq_true rfl) (fun c C r => ?_)
  have C : Cx c cX11_isNoHour 1 RX11 g l (Rm 2 22) := C
  refine x_sub [0] (lv' := [(0, .int v0)]) rfl ?_
  unfold w_X11_isNoHour at hw
  refine x_iload_n C dX11_isNoHour_0 rfl rfl ?_
  refine x_iconst (v := (0 : Int32)) C dX11_isNoHour_1 (by decide) ?_
  refine x_bipush (v := (23 : Int32)) C dX11_isNoHour_2 (by decide) ?_
  refine n_callSI C (ok_X11_isBeyond  hw) ms_X11_128 rfl rfl ⟨Nat.le_of_ble_eq_true rfl, Nat.le_of_ble_eq_true rfl⟩ (Nat.le_of_ble_eq_true rfl) dX11_isNoHour_4 (fun r2 M1 hw => ?_)
  exact n_zreturn C r dX11_isNoHour_7 hw.1 hw.2

def w_X11_goAndKeep_b123 (v7 : Int32) (t1 : Int32) (t2 : Int32) (t3 : Int32) (M : Mem) (q : Int32 → Mem → Prop) : Prop := w_X8_tell 1 t1 t2 t3 M (fun (M1 : Mem) => w_X8_tell 1 v7 (13 : Int32) (0 : Int32) M1 (fun (M3 : Mem) => q v7 M3))
set_option maxRecDepth 100000 in
set_option maxHeartbeats 4000000 in
theorem ok_X11_goAndKeep_b123 {c : CtxT} {g : Gl} {l : Launch} {v7 : Int32} {t1 : Int32} {t2 : Int32} {t3 : Int32} {q : Int32 → Mem → Prop} {M : Mem} (C : Cx c cX11_goAndKeep 8 RX11 g l (Rm 6 123)) (r : Rt c (some .int) (pI q) 0 0) (hw : w_X11_goAndKeep_b123 v7 t1 t2 t3 M q ) : X c S0 123 [(0, .ref (g.2.2.2 + 0)), (7, .int v7)] [.int t3, .int t2, .int t1, .ref (g.2.2.2 + 1)] (stat M) := by
  unfold w_X11_goAndKeep_b123 at hw
  refine n_callVV s1 rfl C (ok_X8_tell s1 hw) mv_X11_278 rfl rfl ⟨Nat.le_of_ble_eq_true rfl, Nat.le_of_ble_eq_true rfl⟩ (Nat.le_of_ble_eq_true rfl) dX11_goAndKeep_123 (fun M1 hw => ?_)
  refine x_aload_n C dX11_goAndKeep_126 rfl rfl ?_
  refine n_getS (dd := 1) C fl_X11_10 s0 (fun _ _ => rfl) rfl dX11_goAndKeep_127 ?_
  refine x_iload C dX11_goAndKeep_130 rfl ?_
  refine x_bipush (v := (13 : Int32)) C dX11_goAndKeep_132 (by decide) ?_
  refine x_iconst (v := (0 : Int32)) C dX11_goAndKeep_134 (by decide) ?_
  refine n_callVV s1 rfl C (ok_X8_tell s1 hw) mv_X11_278 rfl rfl ⟨Nat.le_of_ble_eq_true rfl, Nat.le_of_ble_eq_true rfl⟩ (Nat.le_of_ble_eq_true rfl) dX11_goAndKeep_135 (fun M3 hw => ?_)
  refine x_iload C dX11_goAndKeep_138 rfl ?_
  exact n_ireturn C r dX11_goAndKeep_140 hw
def w_X11_goAndKeep (v1 : Int32) (v2 : Int32) (v3 : Int32) (v4 : Int32) (v5 : Int32) (v6 : Int32) (M : Mem) (q : Int32 → Mem → Prop) : Prop := w_X7_goKept 35 1 v1 v2 v3 v4 v5 v6 M (fun (M5 : Mem) => w_X8_addRun 1 36 (M5.1 35 1) M5 (fun (r8 : Int32) (M7 : Mem) => w_X8_tell 1 r8 (7 : Int32) v1 M7 (fun (M9 : Mem) => w_X8_tell 1 r8 (8 : Int32) v2 M9 (fun (M11 : Mem) => w_X8_tell 1 r8 (9 : Int32) v3 M11 (fun (M13 : Mem) => w_X8_tell 1 r8 (10 : Int32) v4 M13 (fun (M15 : Mem) => w_X8_tell 1 r8 (11 : Int32) v5 M15 (fun (M17 : Mem) => ((v6 = 0 → w_X11_goAndKeep_b123 r8 r8 (12 : Int32) (0 : Int32) M17 q) ∧ (¬ v6 = 0 → w_X11_goAndKeep_b123 r8 r8 (12 : Int32) (1 : Int32) M17 q)))))))))
set_option maxRecDepth 100000 in
set_option maxHeartbeats 4000000 in
theorem ok_X11_goAndKeep {g : Gl} {l : Launch} {v1 : Int32} {v2 : Int32} {v3 : Int32} {v4 : Int32} {v5 : Int32} {v6 : Int32} {M : Mem} {q : Int32 → Mem → Prop} (hw : w_X11_goAndKeep v1 v2 v3 v4 v5 v6 M q) : CtI g l yX11_goAndKeep cX11_goAndKeep 8 (some .int) 6 123 [.ref (g.2.2.2 + 0), .int v1, .int v2, .int v3, .int v4, .int v5, .int v6] M q := by
  refine n_introI (by decide +kernel) (Nat.le_of_ble_eq_true rfl) (fun c C r => ?_)
  have C : Cx c cX11_goAndKeep 8 RX11 g l (Rm 6 123) := C
  refine x_sub [0, 1, 2, 3, 4, 5, 6] (lv' := [(0, .ref (g.2.2.2 + 0)), (1, .int v1), (2, .int v2), (3, .int v3), (4, .int v4), (5, .int v5), (6, .int v6)]) rfl ?_
  unfold w_X11_goAndKeep at hw
  refine x_aload_n C dX11_goAndKeep_0 rfl rfl ?_
  refine n_getS (dd := 35) C fl_X11_27 s0 (fun _ _ => rfl) rfl dX11_goAndKeep_1 ?_
  refine x_aload_n C dX11_goAndKeep_4 rfl rfl ?_
  refine n_getS (dd := 1) C fl_X11_10 s0 (fun _ _ => rfl) rfl dX11_goAndKeep_5 ?_
  refine x_iload_n C dX11_goAndKeep_8 rfl rfl ?_
  refine x_iload_n C dX11_goAndKeep_9 rfl rfl ?_
  refine x_iload_n C dX11_goAndKeep_10 rfl rfl ?_
  refine x_iload C dX11_goAndKeep_11 rfl ?_
  refine x_iload C dX11_goAndKeep_13 rfl ?_
  refine x_iload C dX11_goAndKeep_15 rfl ?_
  refine n_callVV s35 rfl C (ok_X7_goKept s35 s1 hw) mv_X11_379 rfl rfl ⟨Nat.le_of_ble_eq_true rfl, Nat.le_of_ble_eq_true rfl⟩ (Nat.le_of_ble_eq_true rfl) dX11_goAndKeep_17 (fun M5 hw => ?_)
  refine x_aload_n C dX11_goAndKeep_20 rfl rfl ?_
  refine n_getS (dd := 1) C fl_X11_10 s0 (fun _ _ => rfl) rfl dX11_goAndKeep_21 ?_
  refine x_aload_n C dX11_goAndKeep_24 rfl rfl ?_
  refine n_getS (dd := 35) C fl_X11_27 s0 (fun _ _ => rfl) rfl dX11_goAndKeep_25 ?_
  refine n_getS (dd := 1) C fl_X11_174 s35 (fun _ _ => rfl) rfl dX11_goAndKeep_28 ?_
  refine x_aload_n C dX11_goAndKeep_31 rfl rfl ?_
  refine n_getS (dd := 35) C fl_X11_27 s0 (fun _ _ => rfl) rfl dX11_goAndKeep_32 ?_
  refine n_getI C fl_X11_255 s35 (fun _ _ => rfl) dX11_goAndKeep_35 ?_
  refine n_callVI s1 rfl C (ok_X8_addRun s1 s36 hw) mv_X11_383 rfl rfl ⟨Nat.le_of_ble_eq_true rfl, Nat.le_of_ble_eq_true rfl⟩ (Nat.le_of_ble_eq_true rfl) dX11_goAndKeep_38 (fun r8 M7 hw => ?_)
  refine x_istore C dX11_goAndKeep_41 (Nat.le_of_ble_eq_true rfl) ?_
  refine x_aload_n C dX11_goAndKeep_43 rfl rfl ?_
  refine n_getS (dd := 1) C fl_X11_10 s0 (fun _ _ => rfl) rfl dX11_goAndKeep_44 ?_
  refine x_iload C dX11_goAndKeep_47 rfl ?_
  refine x_bipush (v := (7 : Int32)) C dX11_goAndKeep_49 (by decide) ?_
  refine x_iload_n C dX11_goAndKeep_51 rfl rfl ?_
  refine n_callVV s1 rfl C (ok_X8_tell s1 hw) mv_X11_278 rfl rfl ⟨Nat.le_of_ble_eq_true rfl, Nat.le_of_ble_eq_true rfl⟩ (Nat.le_of_ble_eq_true rfl) dX11_goAndKeep_52 (fun M9 hw => ?_)
  refine x_aload_n C dX11_goAndKeep_55 rfl rfl ?_
  refine n_getS (dd := 1) C fl_X11_10 s0 (fun _ _ => rfl) rfl dX11_goAndKeep_56 ?_
  refine x_iload C dX11_goAndKeep_59 rfl ?_
  refine x_bipush (v := (8 : Int32)) C dX11_goAndKeep_61 (by decide) ?_
  refine x_iload_n C dX11_goAndKeep_63 rfl rfl ?_
  refine n_callVV s1 rfl C (ok_X8_tell s1 hw) mv_X11_278 rfl rfl ⟨Nat.le_of_ble_eq_true rfl, Nat.le_of_ble_eq_true rfl⟩ (Nat.le_of_ble_eq_true rfl) dX11_goAndKeep_64 (fun M11 hw => ?_)
  refine x_aload_n C dX11_goAndKeep_67 rfl rfl ?_
  refine n_getS (dd := 1) C fl_X11_10 s0 (fun _ _ => rfl) rfl dX11_goAndKeep_68 ?_
  refine x_iload C dX11_goAndKeep_71 rfl ?_
  refine x_bipush (v := (9 : Int32)) C dX11_goAndKeep_73 (by decide) ?_
  refine x_iload_n C dX11_goAndKeep_75 rfl rfl ?_
  refine n_callVV s1 rfl C (ok_X8_tell s1 hw) mv_X11_278 rfl rfl ⟨Nat.le_of_ble_eq_true rfl, Nat.le_of_ble_eq_true rfl⟩ (Nat.le_of_ble_eq_true rfl) dX11_goAndKeep_76 (fun M13 hw => ?_)
  refine x_aload_n C dX11_goAndKeep_79 rfl rfl ?_
  refine n_getS (dd := 1) C fl_X11_10 s0 (fun _ _ => rfl) rfl dX11_goAndKeep_80 ?_
  refine x_iload C dX11_goAndKeep_83 rfl ?_
  refine x_bipush (v := (10 : Int32)) C dX11_goAndKeep_85 (by decide) ?_
  refine x_iload C dX11_goAndKeep_87 rfl ?_
  refine n_callVV s1 rfl C (ok_X8_tell s1 hw) mv_X11_278 rfl rfl ⟨Nat.le_of_ble_eq_true rfl, Nat.le_of_ble_eq_true rfl⟩ (Nat.le_of_ble_eq_true rfl) dX11_goAndKeep_89 (fun M15 hw => ?_)
  refine x_aload_n C dX11_goAndKeep_92 rfl rfl ?_
  refine n_getS (dd := 1) C fl_X11_10 s0 (fun _ _ => rfl) rfl dX11_goAndKeep_93 ?_
  refine x_iload C dX11_goAndKeep_96 rfl ?_
  refine x_bipush (v := (11 : Int32)) C dX11_goAndKeep_98 (by decide) ?_
  refine x_iload C dX11_goAndKeep_100 rfl ?_
  refine n_callVV s1 rfl C (ok_X8_tell s1 hw) mv_X11_278 rfl rfl ⟨Nat.le_of_ble_eq_true rfl, Nat.le_of_ble_eq_true rfl⟩ (Nat.le_of_ble_eq_true rfl) dX11_goAndKeep_102 (fun M17 hw => ?_)
  refine x_aload_n C dX11_goAndKeep_105 rfl rfl ?_
  refine n_getS (dd := 1) C fl_X11_10 s0 (fun _ _ => rfl) rfl dX11_goAndKeep_106 ?_
  refine x_iload C dX11_goAndKeep_109 rfl ?_
  refine x_bipush (v := (12 : Int32)) C dX11_goAndKeep_111 (by decide) ?_
  refine x_iload C dX11_goAndKeep_113 rfl ?_
  refine x_if_eq (tgt := 122) C dX11_goAndKeep_115 (by decide) (fun h19 => ?_) (fun h19 => ?_)
  · replace hw := hw.1 h19
    refine x_iconst (v := (0 : Int32)) C dX11_goAndKeep_122 (by decide) ?_
    exact x_sub [0, 7] rfl (ok_X11_goAndKeep_b123 C r  hw)
  · replace hw := hw.2 h19
    refine x_iconst (v := (1 : Int32)) C dX11_goAndKeep_118 (by decide) ?_
    refine x_goto (tgt := 123) C dX11_goAndKeep_119 (by decide) ?_
    exact x_sub [0, 7] rfl (ok_X11_goAndKeep_b123 C r  hw)

def w_X11_run (v1 : Int32) (v2 : Int32) (v3 : Int32) (v4 : Int32) (v5 : Int32) (v6 : Int32) (M : Mem) (q : Int32 → Mem → Prop) : Prop := w_X11_isNoSpot v1 v2 v3 M (fun (r2 : Int32) (M1 : Mem) => ((¬ r2 = 0 → q (-2 : Int32) M1) ∧ (r2 = 0 → w_X11_isNoHour v5 M1 (fun (r5 : Int32) (M4 : Mem) => ((r5 = 0 → (((M4.1 1 4) < (200 : Int32) → w_X11_goAndKeep v1 v2 v3 v4 v5 v6 M4 (fun (r9 : Int32) (M8 : Mem) => q r9 M8)) ∧ (¬ (M4.1 1 4) < (200 : Int32) → q (-4 : Int32) M4))) ∧ (¬ r5 = 0 → q (-2 : Int32) M4))))))
set_option maxRecDepth 100000 in
set_option maxHeartbeats 4000000 in
theorem ok_X11_run {g : Gl} {l : Launch} {v1 : Int32} {v2 : Int32} {v3 : Int32} {v4 : Int32} {v5 : Int32} {v6 : Int32} {M : Mem} {q : Int32 → Mem → Prop} (hw : w_X11_run v1 v2 v3 v4 v5 v6 M q) : CtI g l yX11_run cX11_run 7 (some .int) 7 150 [.ref (g.2.2.2 + 0), .int v1, .int v2, .int v3, .int v4, .int v5, .int v6] M q := by
  refine n_introI (by decide +kernel) (Nat.le_of_ble_eq_true rfl) (fun c C r => ?_)
  have C : Cx c cX11_run 7 RX11 g l (Rm 7 150) := C
  refine x_sub [0, 1, 2, 3, 4, 5, 6] (lv' := [(0, .ref (g.2.2.2 + 0)), (1, .int v1), (2, .int v2), (3, .int v3), (4, .int v4), (5, .int v5), (6, .int v6)]) rfl ?_
  unfold w_X11_run at hw
  refine x_aload_n C dX11_run_0 rfl rfl ?_
  refine x_iload_n C dX11_run_1 rfl rfl ?_
  refine x_iload_n C dX11_run_2 rfl rfl ?_
  refine x_iload_n C dX11_run_3 rfl rfl ?_
  refine n_callVI s0 rfl C (ok_X11_isNoSpot  hw) mv_X11_153 rfl rfl ⟨Nat.le_of_ble_eq_true rfl, Nat.le_of_ble_eq_true rfl⟩ (Nat.le_of_ble_eq_true rfl) dX11_run_4 (fun r2 M1 hw => ?_)
  refine x_if_ne (tgt := 18) C dX11_run_7 (by decide) (fun h3 => ?_) (fun h3 => ?_)
  · replace hw := hw.1 h3
    refine x_bipush (v := (-2 : Int32)) C dX11_run_18 (by decide) ?_
    exact n_ireturn C r dX11_run_20 hw
  · replace hw := hw.2 h3
    refine x_iload C dX11_run_10 rfl ?_
    refine n_callSI C (ok_X11_isNoHour  hw) ms_X11_156 rfl rfl ⟨Nat.le_of_ble_eq_true rfl, Nat.le_of_ble_eq_true rfl⟩ (Nat.le_of_ble_eq_true rfl) dX11_run_12 (fun r5 M4 hw => ?_)
    refine x_if_eq (tgt := 21) C dX11_run_15 (by decide) (fun h6 => ?_) (fun h6 => ?_)
    · replace hw := hw.1 h6
      refine x_aload_n C dX11_run_21 rfl rfl ?_
      refine n_getS (dd := 1) C fl_X11_10 s0 (fun _ _ => rfl) rfl dX11_run_22 ?_
      refine n_getI C fl_X11_159 s1 (fun _ _ => rfl) dX11_run_25 ?_
      refine x_sipush (v := (200 : Int32)) C dX11_run_28 (by decide) ?_
      refine x_icmp_lt (tgt := 37) C dX11_run_31 (by decide) (fun h7 => ?_) (fun h7 => ?_)
      · replace hw := hw.1 h7
        refine x_aload_n C dX11_run_37 rfl rfl ?_
        refine x_iload_n C dX11_run_38 rfl rfl ?_
        refine x_iload_n C dX11_run_39 rfl rfl ?_
        refine x_iload_n C dX11_run_40 rfl rfl ?_
        refine x_iload C dX11_run_41 rfl ?_
        refine x_iload C dX11_run_43 rfl ?_
        refine x_iload C dX11_run_45 rfl ?_
        refine n_callVI s0 rfl C (ok_X11_goAndKeep  hw) mv_X11_162 rfl rfl ⟨Nat.le_of_ble_eq_true rfl, Nat.le_of_ble_eq_true rfl⟩ (Nat.le_of_ble_eq_true rfl) dX11_run_47 (fun r9 M8 hw => ?_)
        exact n_ireturn C r dX11_run_50 hw
      · replace hw := hw.2 h7
        refine x_bipush (v := (-4 : Int32)) C dX11_run_34 (by decide) ?_
        exact n_ireturn C r dX11_run_36 hw
    · replace hw := hw.2 h6
      refine x_bipush (v := (-2 : Int32)) C dX11_run_18 (by decide) ?_
      exact n_ireturn C r dX11_run_20 hw

def w_X11_of (v1 : Int32) (v2 : Int32) (M : Mem) (q : Int32 → Mem → Prop) : Prop := w_X11_isOut v1 (M.1 1 4) M (fun (r2 : Int32) (M1 : Mem) => ((¬ r2 = 0 → q (-2000000000 : Int32) M1) ∧ (r2 = 0 → w_X11_isOut v2 (14 : Int32) M1 (fun (r5 : Int32) (M4 : Mem) => ((r5 = 0 → w_X8_told 1 v1 v2 M4 (fun (r8 : Int32) (M7 : Mem) => q r8 M7)) ∧ (¬ r5 = 0 → q (-2000000000 : Int32) M4))))))
set_option maxRecDepth 100000 in
set_option maxHeartbeats 4000000 in
theorem ok_X11_of {g : Gl} {l : Launch} {v1 : Int32} {v2 : Int32} {M : Mem} {q : Int32 → Mem → Prop} (hw : w_X11_of v1 v2 M q) : CtI g l yX11_of cX11_of 3 (some .int) 2 22 [.ref (g.2.2.2 + 0), .int v1, .int v2] M q := by
  refine n_introI (by decide +kernel) (Nat.le_of_ble_eq_true rfl) (fun c C r => ?_)
  have C : Cx c cX11_of 3 RX11 g l (Rm 2 22) := C
  refine x_sub [0, 1, 2] (lv' := [(0, .ref (g.2.2.2 + 0)), (1, .int v1), (2, .int v2)]) rfl ?_
  unfold w_X11_of at hw
  refine x_iload_n C dX11_of_0 rfl rfl ?_
  refine x_aload_n C dX11_of_1 rfl rfl ?_
  refine n_getS (dd := 1) C fl_X11_10 s0 (fun _ _ => rfl) rfl dX11_of_2 ?_
  refine n_getI C fl_X11_159 s1 (fun _ _ => rfl) dX11_of_5 ?_
  refine n_callSI C (ok_X11_isOut  hw) ms_X11_87 rfl rfl ⟨Nat.le_of_ble_eq_true rfl, Nat.le_of_ble_eq_true rfl⟩ (Nat.le_of_ble_eq_true rfl) dX11_of_8 (fun r2 M1 hw => ?_)
  refine x_if_ne (tgt := 23) C dX11_of_11 (by decide) (fun h3 => ?_) (fun h3 => ?_)
  · replace hw := hw.1 h3
    refine x_ldc (v := (-2000000000 : Int32)) C dX11_of_23 kc_X11_166 ?_
    exact n_ireturn C r dX11_of_25 hw
  · replace hw := hw.2 h3
    refine x_iload_n C dX11_of_14 rfl rfl ?_
    refine x_bipush (v := (14 : Int32)) C dX11_of_15 (by decide) ?_
    refine n_callSI C (ok_X11_isOut  hw) ms_X11_87 rfl rfl ⟨Nat.le_of_ble_eq_true rfl, Nat.le_of_ble_eq_true rfl⟩ (Nat.le_of_ble_eq_true rfl) dX11_of_17 (fun r5 M4 hw => ?_)
    refine x_if_eq (tgt := 26) C dX11_of_20 (by decide) (fun h6 => ?_) (fun h6 => ?_)
    · replace hw := hw.1 h6
      refine x_aload_n C dX11_of_26 rfl rfl ?_
      refine n_getS (dd := 1) C fl_X11_10 s0 (fun _ _ => rfl) rfl dX11_of_27 ?_
      refine x_iload_n C dX11_of_30 rfl rfl ?_
      refine x_iload_n C dX11_of_31 rfl rfl ?_
      refine n_callVI s1 rfl C (ok_X8_told s1 hw) mv_X11_167 rfl rfl ⟨Nat.le_of_ble_eq_true rfl, Nat.le_of_ble_eq_true rfl⟩ (Nat.le_of_ble_eq_true rfl) dX11_of_32 (fun r8 M7 hw => ?_)
      exact n_ireturn C r dX11_of_35 hw
    · replace hw := hw.2 h6
      refine x_ldc (v := (-2000000000 : Int32)) C dX11_of_23 kc_X11_166 ?_
      exact n_ireturn C r dX11_of_25 hw

def w_X11_plain (v1 : Int32) (v2 : Int32) (v3 : Int32) (v4 : Int32) (M : Mem) (q : Int32 → Mem → Prop) : Prop := w_X11_isNoSpot v1 v2 v3 M (fun (r2 : Int32) (M1 : Mem) => ((¬ r2 = 0 → q (-2 : Int32) M1) ∧ (r2 = 0 → w_X11_isOut v4 (6 : Int32) M1 (fun (r5 : Int32) (M4 : Mem) => ((r5 = 0 → w_X7_goPlain 35 1 v1 v2 v3 M4 (fun (M7 : Mem) => vp_in v4 6 ∧ q (M7.1 36 (v4).toNatClampNeg) M7)) ∧ (¬ r5 = 0 → q (-2 : Int32) M4))))))
set_option maxRecDepth 100000 in
set_option maxHeartbeats 4000000 in
theorem ok_X11_plain {g : Gl} {l : Launch} {v1 : Int32} {v2 : Int32} {v3 : Int32} {v4 : Int32} {M : Mem} {q : Int32 → Mem → Prop} (hw : w_X11_plain v1 v2 v3 v4 M q) : CtI g l yX11_plain cX11_plain 5 (some .int) 7 145 [.ref (g.2.2.2 + 0), .int v1, .int v2, .int v3, .int v4] M q := by
  refine n_introI (by decide +kernel) (Nat.le_of_ble_eq_true rfl) (fun c C r => ?_)
  have C : Cx c cX11_plain 5 RX11 g l (Rm 7 145) := C
  refine x_sub [0, 1, 2, 3, 4] (lv' := [(0, .ref (g.2.2.2 + 0)), (1, .int v1), (2, .int v2), (3, .int v3), (4, .int v4)]) rfl ?_
  unfold w_X11_plain at hw
  refine x_aload_n C dX11_plain_0 rfl rfl ?_
  refine x_iload_n C dX11_plain_1 rfl rfl ?_
  refine x_iload_n C dX11_plain_2 rfl rfl ?_
  refine x_iload_n C dX11_plain_3 rfl rfl ?_
  refine n_callVI s0 rfl C (ok_X11_isNoSpot  hw) mv_X11_153 rfl rfl ⟨Nat.le_of_ble_eq_true rfl, Nat.le_of_ble_eq_true rfl⟩ (Nat.le_of_ble_eq_true rfl) dX11_plain_4 (fun r2 M1 hw => ?_)
  refine x_if_ne (tgt := 20) C dX11_plain_7 (by decide) (fun h3 => ?_) (fun h3 => ?_)
  · replace hw := hw.1 h3
    refine x_bipush (v := (-2 : Int32)) C dX11_plain_20 (by decide) ?_
    exact n_ireturn C r dX11_plain_22 hw
  · replace hw := hw.2 h3
    refine x_iload C dX11_plain_10 rfl ?_
    refine x_bipush (v := (6 : Int32)) C dX11_plain_12 (by decide) ?_
    refine n_callSI C (ok_X11_isOut  hw) ms_X11_87 rfl rfl ⟨Nat.le_of_ble_eq_true rfl, Nat.le_of_ble_eq_true rfl⟩ (Nat.le_of_ble_eq_true rfl) dX11_plain_14 (fun r5 M4 hw => ?_)
    refine x_if_eq (tgt := 23) C dX11_plain_17 (by decide) (fun h6 => ?_) (fun h6 => ?_)
    · replace hw := hw.1 h6
      refine x_aload_n C dX11_plain_23 rfl rfl ?_
      refine n_getS (dd := 35) C fl_X11_27 s0 (fun _ _ => rfl) rfl dX11_plain_24 ?_
      refine x_aload_n C dX11_plain_27 rfl rfl ?_
      refine n_getS (dd := 1) C fl_X11_10 s0 (fun _ _ => rfl) rfl dX11_plain_28 ?_
      refine x_iload_n C dX11_plain_31 rfl rfl ?_
      refine x_iload_n C dX11_plain_32 rfl rfl ?_
      refine x_iload_n C dX11_plain_33 rfl rfl ?_
      refine n_callVV s35 rfl C (ok_X7_goPlain s35 s1 hw) mv_X11_170 rfl rfl ⟨Nat.le_of_ble_eq_true rfl, Nat.le_of_ble_eq_true rfl⟩ (Nat.le_of_ble_eq_true rfl) dX11_plain_34 (fun M7 hw => ?_)
      refine x_aload_n C dX11_plain_37 rfl rfl ?_
      refine n_getS (dd := 35) C fl_X11_27 s0 (fun _ _ => rfl) rfl dX11_plain_38 ?_
      refine n_getS (dd := 1) C fl_X11_174 s35 (fun _ _ => rfl) rfl dX11_plain_41 ?_
      refine x_iload C dX11_plain_44 rfl ?_
      obtain ⟨h9, hw⟩ := hw
      refine a_iald C s36 ln36 h9 dX11_plain_46 ?_
      exact n_ireturn C r dX11_plain_47 hw
    · replace hw := hw.2 h6
      refine x_bipush (v := (-2 : Int32)) C dX11_plain_20 (by decide) ?_
      exact n_ireturn C r dX11_plain_22 hw

def w_X11_figure (v1 : Int32) (v2 : Int32) (v3 : Int32) (v4 : Int32) (v5 : Int32) (M : Mem) (q : Int32 → Mem → Prop) : Prop := w_X11_isNoSpot v1 v2 v3 M (fun (r2 : Int32) (M1 : Mem) => ((¬ r2 = 0 → q (-2 : Int32) M1) ∧ (r2 = 0 → w_X11_isBeyond v4 (0 : Int32) (200 : Int32) M1 (fun (r5 : Int32) (M4 : Mem) => ((¬ r5 = 0 → q (-2 : Int32) M4) ∧ (r5 = 0 → w_X11_isOut v5 (4 : Int32) M4 (fun (r8 : Int32) (M7 : Mem) => ((r8 = 0 → w_X8_gather 1 46 v1 v2 v3 v4 M7 (fun (M10 : Mem) => ((¬ v5 = 0 → ((¬ (M10.1 46 1) = 0 → ((¬ v5 = (1 : Int32) → ((¬ v5 = (2 : Int32) → w_X0_middle 46 M10 (fun (r17 : Int32) (M16 : Mem) => q r17 M16)) ∧ (v5 = (2 : Int32) → w_X0_greatest 46 M10 (fun (r19 : Int32) (M18 : Mem) => q r19 M18)))) ∧ (v5 = (1 : Int32) → w_X0_least 46 M10 (fun (r21 : Int32) (M20 : Mem) => q r21 M20)))) ∧ ((M10.1 46 1) = 0 → q (-1 : Int32) M10))) ∧ (v5 = 0 → q (M10.1 46 1) M10)))) ∧ (¬ r8 = 0 → q (-2 : Int32) M7)))))))))
set_option maxRecDepth 100000 in
set_option maxHeartbeats 4000000 in
theorem ok_X11_figure {g : Gl} {l : Launch} {v1 : Int32} {v2 : Int32} {v3 : Int32} {v4 : Int32} {v5 : Int32} {M : Mem} {q : Int32 → Mem → Prop} (hw : w_X11_figure v1 v2 v3 v4 v5 M q) : CtI g l yX11_figure cX11_figure 6 (some .int) 4 70 [.ref (g.2.2.2 + 0), .int v1, .int v2, .int v3, .int v4, .int v5] M q := by
  refine n_introI (by decide +kernel) (Nat.le_of_ble_eq_true rfl) (fun c C r => ?_)
  have C : Cx c cX11_figure 6 RX11 g l (Rm 4 70) := C
  refine x_sub [0, 1, 2, 3, 4, 5] (lv' := [(0, .ref (g.2.2.2 + 0)), (1, .int v1), (2, .int v2), (3, .int v3), (4, .int v4), (5, .int v5)]) rfl ?_
  unfold w_X11_figure at hw
  refine x_aload_n C dX11_figure_0 rfl rfl ?_
  refine x_iload_n C dX11_figure_1 rfl rfl ?_
  refine x_iload_n C dX11_figure_2 rfl rfl ?_
  refine x_iload_n C dX11_figure_3 rfl rfl ?_
  refine n_callVI s0 rfl C (ok_X11_isNoSpot  hw) mv_X11_153 rfl rfl ⟨Nat.le_of_ble_eq_true rfl, Nat.le_of_ble_eq_true rfl⟩ (Nat.le_of_ble_eq_true rfl) dX11_figure_4 (fun r2 M1 hw => ?_)
  refine x_if_ne (tgt := 31) C dX11_figure_7 (by decide) (fun h3 => ?_) (fun h3 => ?_)
  · replace hw := hw.1 h3
    refine x_bipush (v := (-2 : Int32)) C dX11_figure_31 (by decide) ?_
    exact n_ireturn C r dX11_figure_33 hw
  · replace hw := hw.2 h3
    refine x_iload C dX11_figure_10 rfl ?_
    refine x_iconst (v := (0 : Int32)) C dX11_figure_12 (by decide) ?_
    refine x_sipush (v := (200 : Int32)) C dX11_figure_13 (by decide) ?_
    refine n_callSI C (ok_X11_isBeyond  hw) ms_X11_128 rfl rfl ⟨Nat.le_of_ble_eq_true rfl, Nat.le_of_ble_eq_true rfl⟩ (Nat.le_of_ble_eq_true rfl) dX11_figure_16 (fun r5 M4 hw => ?_)
    refine x_if_ne (tgt := 31) C dX11_figure_19 (by decide) (fun h6 => ?_) (fun h6 => ?_)
    · replace hw := hw.1 h6
      refine x_bipush (v := (-2 : Int32)) C dX11_figure_31 (by decide) ?_
      exact n_ireturn C r dX11_figure_33 hw
    · replace hw := hw.2 h6
      refine x_iload C dX11_figure_22 rfl ?_
      refine x_iconst (v := (4 : Int32)) C dX11_figure_24 (by decide) ?_
      refine n_callSI C (ok_X11_isOut  hw) ms_X11_87 rfl rfl ⟨Nat.le_of_ble_eq_true rfl, Nat.le_of_ble_eq_true rfl⟩ (Nat.le_of_ble_eq_true rfl) dX11_figure_25 (fun r8 M7 hw => ?_)
      refine x_if_eq (tgt := 34) C dX11_figure_28 (by decide) (fun h9 => ?_) (fun h9 => ?_)
      · replace hw := hw.1 h9
        refine x_aload_n C dX11_figure_34 rfl rfl ?_
        refine n_getS (dd := 1) C fl_X11_10 s0 (fun _ _ => rfl) rfl dX11_figure_35 ?_
        refine x_aload_n C dX11_figure_38 rfl rfl ?_
        refine n_getS (dd := 46) C fl_X11_34 s0 (fun _ _ => rfl) rfl dX11_figure_39 ?_
        refine x_iload_n C dX11_figure_42 rfl rfl ?_
        refine x_iload_n C dX11_figure_43 rfl rfl ?_
        refine x_iload_n C dX11_figure_44 rfl rfl ?_
        refine x_iload C dX11_figure_45 rfl ?_
        refine n_callVV s1 rfl C (ok_X8_gather s1 s46 hw) mv_X11_177 rfl rfl ⟨Nat.le_of_ble_eq_true rfl, Nat.le_of_ble_eq_true rfl⟩ (Nat.le_of_ble_eq_true rfl) dX11_figure_47 (fun M10 hw => ?_)
        refine x_iload C dX11_figure_50 rfl ?_
        refine x_if_ne (tgt := 63) C dX11_figure_52 (by decide) (fun h12 => ?_) (fun h12 => ?_)
        · replace hw := hw.1 h12
          refine x_aload_n C dX11_figure_63 rfl rfl ?_
          refine n_getS (dd := 46) C fl_X11_34 s0 (fun _ _ => rfl) rfl dX11_figure_64 ?_
          refine n_getI C fl_X11_181 s46 (fun _ _ => rfl) dX11_figure_67 ?_
          refine x_if_ne (tgt := 75) C dX11_figure_70 (by decide) (fun h13 => ?_) (fun h13 => ?_)
          · replace hw := hw.1 h13
            refine x_iload C dX11_figure_75 rfl ?_
            refine x_iconst (v := (1 : Int32)) C dX11_figure_77 (by decide) ?_
            refine x_icmp_ne (tgt := 91) C dX11_figure_78 (by decide) (fun h14 => ?_) (fun h14 => ?_)
            · replace hw := hw.1 h14
              refine x_iload C dX11_figure_91 rfl ?_
              refine x_iconst (v := (2 : Int32)) C dX11_figure_93 (by decide) ?_
              refine x_icmp_ne (tgt := 107) C dX11_figure_94 (by decide) (fun h15 => ?_) (fun h15 => ?_)
              · replace hw := hw.1 h15
                refine x_aload_n C dX11_figure_107 rfl rfl ?_
                refine n_getS (dd := 46) C fl_X11_34 s0 (fun _ _ => rfl) rfl dX11_figure_108 ?_
                refine n_callVI s46 rfl C (ok_X0_middle s46 hw) mv_X11_190 rfl rfl ⟨Nat.le_of_ble_eq_true rfl, Nat.le_of_ble_eq_true rfl⟩ (Nat.le_of_ble_eq_true rfl) dX11_figure_111 (fun r17 M16 hw => ?_)
                exact n_ireturn C r dX11_figure_114 hw
              · replace hw := hw.2 h15
                refine x_aload_n C dX11_figure_97 rfl rfl ?_
                refine n_getS (dd := 46) C fl_X11_34 s0 (fun _ _ => rfl) rfl dX11_figure_98 ?_
                refine n_callVI s46 rfl C (ok_X0_greatest s46 hw) mv_X11_187 rfl rfl ⟨Nat.le_of_ble_eq_true rfl, Nat.le_of_ble_eq_true rfl⟩ (Nat.le_of_ble_eq_true rfl) dX11_figure_101 (fun r19 M18 hw => ?_)
                refine x_goto (tgt := 114) C dX11_figure_104 (by decide) ?_
                exact n_ireturn C r dX11_figure_114 hw
            · replace hw := hw.2 h14
              refine x_aload_n C dX11_figure_81 rfl rfl ?_
              refine n_getS (dd := 46) C fl_X11_34 s0 (fun _ _ => rfl) rfl dX11_figure_82 ?_
              refine n_callVI s46 rfl C (ok_X0_least s46 hw) mv_X11_184 rfl rfl ⟨Nat.le_of_ble_eq_true rfl, Nat.le_of_ble_eq_true rfl⟩ (Nat.le_of_ble_eq_true rfl) dX11_figure_85 (fun r21 M20 hw => ?_)
              refine x_goto (tgt := 114) C dX11_figure_88 (by decide) ?_
              exact n_ireturn C r dX11_figure_114 hw
          · replace hw := hw.2 h13
            refine x_iconst (v := (-1 : Int32)) C dX11_figure_73 (by decide) ?_
            exact n_ireturn C r dX11_figure_74 hw
        · replace hw := hw.2 h12
          refine x_aload_n C dX11_figure_55 rfl rfl ?_
          refine n_getS (dd := 46) C fl_X11_34 s0 (fun _ _ => rfl) rfl dX11_figure_56 ?_
          refine n_getI C fl_X11_181 s46 (fun _ _ => rfl) dX11_figure_59 ?_
          exact n_ireturn C r dX11_figure_62 hw
      · replace hw := hw.2 h9
        refine x_bipush (v := (-2 : Int32)) C dX11_figure_31 (by decide) ?_
        exact n_ireturn C r dX11_figure_33 hw

def w_X11_pair_b197 (M : Mem) (q : Int32 → Mem → Prop) : Prop := q (M.1 12 1) M
set_option maxRecDepth 100000 in
set_option maxHeartbeats 4000000 in
theorem ok_X11_pair_b197 {c : CtxT} {g : Gl} {l : Launch} {q : Int32 → Mem → Prop} {M : Mem} (C : Cx c cX11_pair 11 RX11 g l (Rm 7 150)) (r : Rt c (some .int) (pI q) 0 0) (hw : w_X11_pair_b197 M q ) : X c S0 197 [(0, .ref (g.2.2.2 + 0))] [] (stat M) := by
  unfold w_X11_pair_b197 at hw
  refine x_aload_n C dX11_pair_197 rfl rfl ?_
  refine n_getS (dd := 1) C fl_X11_10 s0 (fun _ _ => rfl) rfl dX11_pair_198 ?_
  refine n_getS (dd := 11) C fl_X11_196 s1 (fun _ _ => rfl) rfl dX11_pair_201 ?_
  refine n_getI C fl_X11_200 s12 (fun _ _ => rfl) dX11_pair_204 ?_
  exact n_ireturn C r dX11_pair_207 hw
def w_X11_pair_b194 (t1 : Int32) (M : Mem) (q : Int32 → Mem → Prop) : Prop := w_X5_add 12 t1 M (fun (M1 : Mem) => w_X11_pair_b197 M1 q)
set_option maxRecDepth 100000 in
set_option maxHeartbeats 4000000 in
theorem ok_X11_pair_b194 {c : CtxT} {g : Gl} {l : Launch} {t1 : Int32} {q : Int32 → Mem → Prop} {M : Mem} (C : Cx c cX11_pair 11 RX11 g l (Rm 7 150)) (r : Rt c (some .int) (pI q) 0 0) (hw : w_X11_pair_b194 t1 M q ) : X c S0 194 [(0, .ref (g.2.2.2 + 0))] [.int t1, .ref (g.2.2.2 + 12)] (stat M) := by
  unfold w_X11_pair_b194 at hw
  refine n_callVV s12 rfl C (ok_X5_add s12 hw) mv_X11_203 rfl rfl ⟨Nat.le_of_ble_eq_true rfl, Nat.le_of_ble_eq_true rfl⟩ (Nat.le_of_ble_eq_true rfl) dX11_pair_194 (fun M1 hw => ?_)
  exact x_sub [0] rfl (ok_X11_pair_b197 C r  hw)
def w_X11_pair_b110 (v3 : Int32) (v4 : Int32) (v5 : Int32) (v6 : Int32) (v7 : Int32) (v8 : Int32) (t1 : Int32) (M : Mem) (q : Int32 → Mem → Prop) : Prop := w_X11_goAndKeep t1 v3 v4 v5 v6 (1 : Int32) M (fun (r4 : Int32) (M3 : Mem) => w_X8_told 1 v8 (6 : Int32) M3 (fun (r6 : Int32) (M5 : Mem) => ((¬ r6 = 0 → w_X11_pair_b197 M5 q) ∧ (r6 = 0 → w_X8_told 1 r4 (6 : Int32) M5 (fun (r9 : Int32) (M8 : Mem) => ((¬ r9 = 0 → w_X11_pair_b197 M8 q) ∧ (r9 = 0 → w_X8_told 1 r4 (5 : Int32) M8 (fun (r12 : Int32) (M11 : Mem) => w_X8_told 1 v8 (5 : Int32) M11 (fun (r14 : Int32) (M13 : Mem) => ∀ x15 : Int32, x15 = (r12 - r14) → ((v7 = 0 → w_X11_pair_b194 x15 M13 q) ∧ (¬ v7 = 0 → w_X11_pair_b194 (-x15) M13 q)))))))))))
set_option maxRecDepth 100000 in
set_option maxHeartbeats 4000000 in
theorem ok_X11_pair_b110 {c : CtxT} {g : Gl} {l : Launch} {v3 : Int32} {v4 : Int32} {v5 : Int32} {v6 : Int32} {v7 : Int32} {v8 : Int32} {t1 : Int32} {q : Int32 → Mem → Prop} {M : Mem} (C : Cx c cX11_pair 11 RX11 g l (Rm 7 150)) (r : Rt c (some .int) (pI q) 0 0) (hw : w_X11_pair_b110 v3 v4 v5 v6 v7 v8 t1 M q ) : X c S0 110 [(0, .ref (g.2.2.2 + 0)), (3, .int v3), (4, .int v4), (5, .int v5), (6, .int v6), (7, .int v7), (8, .int v8)] [.int t1, .ref (g.2.2.2 + 0)] (stat M) := by
  unfold w_X11_pair_b110 at hw
  refine x_iload_n C dX11_pair_110 rfl rfl ?_
  refine x_iload C dX11_pair_111 rfl ?_
  refine x_iload C dX11_pair_113 rfl ?_
  refine x_iload C dX11_pair_115 rfl ?_
  refine x_iconst (v := (1 : Int32)) C dX11_pair_117 (by decide) ?_
  refine n_callVI s0 rfl C (ok_X11_goAndKeep  hw) mv_X11_162 rfl rfl ⟨Nat.le_of_ble_eq_true rfl, Nat.le_of_ble_eq_true rfl⟩ (Nat.le_of_ble_eq_true rfl) dX11_pair_118 (fun r4 M3 hw => ?_)
  refine x_istore C dX11_pair_121 (Nat.le_of_ble_eq_true rfl) ?_
  refine x_aload_n C dX11_pair_123 rfl rfl ?_
  refine n_getS (dd := 1) C fl_X11_10 s0 (fun _ _ => rfl) rfl dX11_pair_124 ?_
  refine x_iload C dX11_pair_127 rfl ?_
  refine x_bipush (v := (6 : Int32)) C dX11_pair_129 (by decide) ?_
  refine n_callVI s1 rfl C (ok_X8_told s1 hw) mv_X11_167 rfl rfl ⟨Nat.le_of_ble_eq_true rfl, Nat.le_of_ble_eq_true rfl⟩ (Nat.le_of_ble_eq_true rfl) dX11_pair_131 (fun r6 M5 hw => ?_)
  refine x_if_ne (tgt := 197) C dX11_pair_134 (by decide) (fun h7 => ?_) (fun h7 => ?_)
  · replace hw := hw.1 h7
    exact x_sub [0] rfl (ok_X11_pair_b197 C r  hw)
  · replace hw := hw.2 h7
    refine x_aload_n C dX11_pair_137 rfl rfl ?_
    refine n_getS (dd := 1) C fl_X11_10 s0 (fun _ _ => rfl) rfl dX11_pair_138 ?_
    refine x_iload C dX11_pair_141 rfl ?_
    refine x_bipush (v := (6 : Int32)) C dX11_pair_143 (by decide) ?_
    refine n_callVI s1 rfl C (ok_X8_told s1 hw) mv_X11_167 rfl rfl ⟨Nat.le_of_ble_eq_true rfl, Nat.le_of_ble_eq_true rfl⟩ (Nat.le_of_ble_eq_true rfl) dX11_pair_145 (fun r9 M8 hw => ?_)
    refine x_if_ne (tgt := 197) C dX11_pair_148 (by decide) (fun h10 => ?_) (fun h10 => ?_)
    · replace hw := hw.1 h10
      exact x_sub [0] rfl (ok_X11_pair_b197 C r  hw)
    · replace hw := hw.2 h10
      refine x_aload_n C dX11_pair_151 rfl rfl ?_
      refine n_getS (dd := 1) C fl_X11_10 s0 (fun _ _ => rfl) rfl dX11_pair_152 ?_
      refine x_iload C dX11_pair_155 rfl ?_
      refine x_iconst (v := (5 : Int32)) C dX11_pair_157 (by decide) ?_
      refine n_callVI s1 rfl C (ok_X8_told s1 hw) mv_X11_167 rfl rfl ⟨Nat.le_of_ble_eq_true rfl, Nat.le_of_ble_eq_true rfl⟩ (Nat.le_of_ble_eq_true rfl) dX11_pair_158 (fun r12 M11 hw => ?_)
      refine x_aload_n C dX11_pair_161 rfl rfl ?_
      refine n_getS (dd := 1) C fl_X11_10 s0 (fun _ _ => rfl) rfl dX11_pair_162 ?_
      refine x_iload C dX11_pair_165 rfl ?_
      refine x_iconst (v := (5 : Int32)) C dX11_pair_167 (by decide) ?_
      refine n_callVI s1 rfl C (ok_X8_told s1 hw) mv_X11_167 rfl rfl ⟨Nat.le_of_ble_eq_true rfl, Nat.le_of_ble_eq_true rfl⟩ (Nat.le_of_ble_eq_true rfl) dX11_pair_168 (fun r14 M13 hw => ?_)
      refine x_isub C dX11_pair_171 ?_
      obtain ⟨x15, ex15⟩ : ∃ z : Int32, z = (r12 - r14) := ⟨_, rfl⟩
      replace hw := hw x15 ex15
      refine x_topi ex15 ?_
      refine x_istore C dX11_pair_172 (Nat.le_of_ble_eq_true rfl) ?_
      refine x_aload_n C dX11_pair_174 rfl rfl ?_
      refine n_getS (dd := 1) C fl_X11_10 s0 (fun _ _ => rfl) rfl dX11_pair_175 ?_
      refine n_getS (dd := 11) C fl_X11_196 s1 (fun _ _ => rfl) rfl dX11_pair_178 ?_
      refine x_iload C dX11_pair_181 rfl ?_
      refine x_if_eq (tgt := 192) C dX11_pair_183 (by decide) (fun h16 => ?_) (fun h16 => ?_)
      · replace hw := hw.1 h16
        refine x_iload C dX11_pair_192 rfl ?_
        exact x_sub [0] rfl (ok_X11_pair_b194 C r  hw)
      · replace hw := hw.2 h16
        refine x_iload C dX11_pair_186 rfl ?_
        refine x_ineg C dX11_pair_188 ?_
        refine x_goto (tgt := 194) C dX11_pair_189 (by decide) ?_
        exact x_sub [0] rfl (ok_X11_pair_b194 C r  hw)
def w_X11_pair_b86 (v1 : Int32) (v2 : Int32) (v3 : Int32) (v4 : Int32) (v5 : Int32) (v6 : Int32) (v7 : Int32) (t1 : Int32) (M : Mem) (q : Int32 → Mem → Prop) : Prop := w_X11_goAndKeep t1 v3 v4 v5 v6 (0 : Int32) M (fun (r18 : Int32) (M17 : Mem) => ((v7 = 0 → w_X11_pair_b110 v3 v4 v5 v6 v7 r18 v2 M17 q) ∧ (¬ v7 = 0 → w_X11_pair_b110 v3 v4 v5 v6 v7 r18 v1 M17 q)))
set_option maxRecDepth 100000 in
set_option maxHeartbeats 4000000 in
theorem ok_X11_pair_b86 {c : CtxT} {g : Gl} {l : Launch} {v1 : Int32} {v2 : Int32} {v3 : Int32} {v4 : Int32} {v5 : Int32} {v6 : Int32} {v7 : Int32} {t1 : Int32} {q : Int32 → Mem → Prop} {M : Mem} (C : Cx c cX11_pair 11 RX11 g l (Rm 7 150)) (r : Rt c (some .int) (pI q) 0 0) (hw : w_X11_pair_b86 v1 v2 v3 v4 v5 v6 v7 t1 M q ) : X c S0 86 [(0, .ref (g.2.2.2 + 0)), (1, .int v1), (2, .int v2), (3, .int v3), (4, .int v4), (5, .int v5), (6, .int v6), (7, .int v7)] [.int t1, .ref (g.2.2.2 + 0)] (stat M) := by
  unfold w_X11_pair_b86 at hw
  refine x_iload_n C dX11_pair_86 rfl rfl ?_
  refine x_iload C dX11_pair_87 rfl ?_
  refine x_iload C dX11_pair_89 rfl ?_
  refine x_iload C dX11_pair_91 rfl ?_
  refine x_iconst (v := (0 : Int32)) C dX11_pair_93 (by decide) ?_
  refine n_callVI s0 rfl C (ok_X11_goAndKeep  hw) mv_X11_162 rfl rfl ⟨Nat.le_of_ble_eq_true rfl, Nat.le_of_ble_eq_true rfl⟩ (Nat.le_of_ble_eq_true rfl) dX11_pair_94 (fun r18 M17 hw => ?_)
  refine x_istore C dX11_pair_97 (Nat.le_of_ble_eq_true rfl) ?_
  refine x_aload_n C dX11_pair_99 rfl rfl ?_
  refine x_iload C dX11_pair_100 rfl ?_
  refine x_if_eq (tgt := 109) C dX11_pair_102 (by decide) (fun h19 => ?_) (fun h19 => ?_)
  · replace hw := hw.1 h19
    refine x_iload_n C dX11_pair_109 rfl rfl ?_
    exact x_sub [0, 3, 4, 5, 6, 7, 8] rfl (ok_X11_pair_b110 C r  hw)
  · replace hw := hw.2 h19
    refine x_iload_n C dX11_pair_105 rfl rfl ?_
    refine x_goto (tgt := 110) C dX11_pair_106 (by decide) ?_
    exact x_sub [0, 3, 4, 5, 6, 7, 8] rfl (ok_X11_pair_b110 C r  hw)
def w_X11_pair (v1 : Int32) (v2 : Int32) (v3 : Int32) (v4 : Int32) (v5 : Int32) (v6 : Int32) (v7 : Int32) (M : Mem) (q : Int32 → Mem → Prop) : Prop := w_X11_isNoSpot v1 v3 v4 M (fun (r21 : Int32) (M20 : Mem) => ((¬ r21 = 0 → q (-2 : Int32) M20) ∧ (r21 = 0 → w_X11_isOut v2 (M20.1 2 7) M20 (fun (r24 : Int32) (M23 : Mem) => ((¬ r24 = 0 → q (-2 : Int32) M23) ∧ (r24 = 0 → w_X11_isNoHour v6 M23 (fun (r27 : Int32) (M26 : Mem) => ((r27 = 0 → (((M26.1 12 1) < (16 : Int32) → ((((M26.1 1 4) + (2 : Int32)) ≤ (200 : Int32) → ((v7 = 0 → w_X11_pair_b86 v1 v2 v3 v4 v5 v6 v7 v1 M26 q) ∧ (¬ v7 = 0 → w_X11_pair_b86 v1 v2 v3 v4 v5 v6 v7 v2 M26 q))) ∧ (¬ ((M26.1 1 4) + (2 : Int32)) ≤ (200 : Int32) → q (-4 : Int32) M26))) ∧ (¬ (M26.1 12 1) < (16 : Int32) → q (-3 : Int32) M26))) ∧ (¬ r27 = 0 → q (-2 : Int32) M26)))))))))
set_option maxRecDepth 100000 in
set_option maxHeartbeats 4000000 in
theorem ok_X11_pair {g : Gl} {l : Launch} {v1 : Int32} {v2 : Int32} {v3 : Int32} {v4 : Int32} {v5 : Int32} {v6 : Int32} {v7 : Int32} {M : Mem} {q : Int32 → Mem → Prop} (hw : w_X11_pair v1 v2 v3 v4 v5 v6 v7 M q) : CtI g l yX11_pair cX11_pair 11 (some .int) 7 150 [.ref (g.2.2.2 + 0), .int v1, .int v2, .int v3, .int v4, .int v5, .int v6, .int v7] M q := by
  refine n_introI (by decide +kernel) (Nat.le_of_ble_eq_true rfl) (fun c C r => ?_)
  have C : Cx c cX11_pair 11 RX11 g l (Rm 7 150) := C
  refine x_sub [0, 1, 2, 3, 4, 5, 6, 7] (lv' := [(0, .ref (g.2.2.2 + 0)), (1, .int v1), (2, .int v2), (3, .int v3), (4, .int v4), (5, .int v5), (6, .int v6), (7, .int v7)]) rfl ?_
  unfold w_X11_pair at hw
  refine x_aload_n C dX11_pair_0 rfl rfl ?_
  refine x_iload_n C dX11_pair_1 rfl rfl ?_
  refine x_iload_n C dX11_pair_2 rfl rfl ?_
  refine x_iload C dX11_pair_3 rfl ?_
  refine n_callVI s0 rfl C (ok_X11_isNoSpot  hw) mv_X11_153 rfl rfl ⟨Nat.le_of_ble_eq_true rfl, Nat.le_of_ble_eq_true rfl⟩ (Nat.le_of_ble_eq_true rfl) dX11_pair_5 (fun r21 M20 hw => ?_)
  refine x_if_ne (tgt := 36) C dX11_pair_8 (by decide) (fun h22 => ?_) (fun h22 => ?_)
  · replace hw := hw.1 h22
    refine x_bipush (v := (-2 : Int32)) C dX11_pair_36 (by decide) ?_
    exact n_ireturn C r dX11_pair_38 hw
  · replace hw := hw.2 h22
    refine x_iload_n C dX11_pair_11 rfl rfl ?_
    refine x_aload_n C dX11_pair_12 rfl rfl ?_
    refine n_getS (dd := 1) C fl_X11_10 s0 (fun _ _ => rfl) rfl dX11_pair_13 ?_
    refine n_getS (dd := 1) C fl_X11_73 s1 (fun _ _ => rfl) rfl dX11_pair_16 ?_
    refine n_getI C fl_X11_193 s2 (fun _ _ => rfl) dX11_pair_19 ?_
    refine n_callSI C (ok_X11_isOut  hw) ms_X11_87 rfl rfl ⟨Nat.le_of_ble_eq_true rfl, Nat.le_of_ble_eq_true rfl⟩ (Nat.le_of_ble_eq_true rfl) dX11_pair_22 (fun r24 M23 hw => ?_)
    refine x_if_ne (tgt := 36) C dX11_pair_25 (by decide) (fun h25 => ?_) (fun h25 => ?_)
    · replace hw := hw.1 h25
      refine x_bipush (v := (-2 : Int32)) C dX11_pair_36 (by decide) ?_
      exact n_ireturn C r dX11_pair_38 hw
    · replace hw := hw.2 h25
      refine x_iload C dX11_pair_28 rfl ?_
      refine n_callSI C (ok_X11_isNoHour  hw) ms_X11_156 rfl rfl ⟨Nat.le_of_ble_eq_true rfl, Nat.le_of_ble_eq_true rfl⟩ (Nat.le_of_ble_eq_true rfl) dX11_pair_30 (fun r27 M26 hw => ?_)
      refine x_if_eq (tgt := 39) C dX11_pair_33 (by decide) (fun h28 => ?_) (fun h28 => ?_)
      · replace hw := hw.1 h28
        refine x_aload_n C dX11_pair_39 rfl rfl ?_
        refine n_getS (dd := 1) C fl_X11_10 s0 (fun _ _ => rfl) rfl dX11_pair_40 ?_
        refine n_getS (dd := 11) C fl_X11_196 s1 (fun _ _ => rfl) rfl dX11_pair_43 ?_
        refine n_getI C fl_X11_200 s12 (fun _ _ => rfl) dX11_pair_46 ?_
        refine x_bipush (v := (16 : Int32)) C dX11_pair_49 (by decide) ?_
        refine x_icmp_lt (tgt := 57) C dX11_pair_51 (by decide) (fun h29 => ?_) (fun h29 => ?_)
        · replace hw := hw.1 h29
          refine x_aload_n C dX11_pair_57 rfl rfl ?_
          refine n_getS (dd := 1) C fl_X11_10 s0 (fun _ _ => rfl) rfl dX11_pair_58 ?_
          refine n_getI C fl_X11_159 s1 (fun _ _ => rfl) dX11_pair_61 ?_
          refine x_iconst (v := (2 : Int32)) C dX11_pair_64 (by decide) ?_
          refine x_iadd C dX11_pair_65 ?_
          refine x_sipush (v := (200 : Int32)) C dX11_pair_66 (by decide) ?_
          refine x_icmp_le (tgt := 75) C dX11_pair_69 (by decide) (fun h30 => ?_) (fun h30 => ?_)
          · replace hw := hw.1 h30
            refine x_aload_n C dX11_pair_75 rfl rfl ?_
            refine x_iload C dX11_pair_76 rfl ?_
            refine x_if_eq (tgt := 85) C dX11_pair_78 (by decide) (fun h31 => ?_) (fun h31 => ?_)
            · replace hw := hw.1 h31
              refine x_iload_n C dX11_pair_85 rfl rfl ?_
              exact x_sub [0, 1, 2, 3, 4, 5, 6, 7] rfl (ok_X11_pair_b86 C r  hw)
            · replace hw := hw.2 h31
              refine x_iload_n C dX11_pair_81 rfl rfl ?_
              refine x_goto (tgt := 86) C dX11_pair_82 (by decide) ?_
              exact x_sub [0, 1, 2, 3, 4, 5, 6, 7] rfl (ok_X11_pair_b86 C r  hw)
          · replace hw := hw.2 h30
            refine x_bipush (v := (-4 : Int32)) C dX11_pair_72 (by decide) ?_
            exact n_ireturn C r dX11_pair_74 hw
        · replace hw := hw.2 h29
          refine x_bipush (v := (-3 : Int32)) C dX11_pair_54 (by decide) ?_
          exact n_ireturn C r dX11_pair_56 hw
      · replace hw := hw.2 h28
        refine x_bipush (v := (-2 : Int32)) C dX11_pair_36 (by decide) ?_
        exact n_ireturn C r dX11_pair_38 hw

def w_X11_difference (v1 : Int32) (M : Mem) (q : Int32 → Mem → Prop) : Prop := ((0 ≤ v1 → w_X11_isOut v1 (M.1 12 1) M (fun (r3 : Int32) (M2 : Mem) => ((r3 = 0 → vp_in v1 16 ∧ q (M2.1 13 (v1).toNatClampNeg) M2) ∧ (¬ r3 = 0 → q (-1000000000 : Int32) M2)))) ∧ (¬ 0 ≤ v1 → q (-2000000000 : Int32) M))
set_option maxRecDepth 100000 in
set_option maxHeartbeats 4000000 in
theorem ok_X11_difference {g : Gl} {l : Launch} {v1 : Int32} {M : Mem} {q : Int32 → Mem → Prop} (hw : w_X11_difference v1 M q) : CtI g l yX11_difference cX11_difference 2 (some .int) 2 21 [.ref (g.2.2.2 + 0), .int v1] M q := by
  refine n_introI (by decide +kernel) (Nat.le_of_ble_eq_true rfl) (fun c C r => ?_)
  have C : Cx c cX11_difference 2 RX11 g l (Rm 2 21) := C
  refine x_sub [0, 1] (lv' := [(0, .ref (g.2.2.2 + 0)), (1, .int v1)]) rfl ?_
  unfold w_X11_difference at hw
  refine x_iload_n C dX11_difference_0 rfl rfl ?_
  refine x_if_ge (tgt := 7) C dX11_difference_1 (by decide) (fun h1 => ?_) (fun h1 => ?_)
  · replace hw := hw.1 h1
    refine x_iload_n C dX11_difference_7 rfl rfl ?_
    refine x_aload_n C dX11_difference_8 rfl rfl ?_
    refine n_getS (dd := 1) C fl_X11_10 s0 (fun _ _ => rfl) rfl dX11_difference_9 ?_
    refine n_getS (dd := 11) C fl_X11_196 s1 (fun _ _ => rfl) rfl dX11_difference_12 ?_
    refine n_getI C fl_X11_200 s12 (fun _ _ => rfl) dX11_difference_15 ?_
    refine n_callSI C (ok_X11_isOut  hw) ms_X11_87 rfl rfl ⟨Nat.le_of_ble_eq_true rfl, Nat.le_of_ble_eq_true rfl⟩ (Nat.le_of_ble_eq_true rfl) dX11_difference_18 (fun r3 M2 hw => ?_)
    refine x_if_eq (tgt := 29) C dX11_difference_21 (by decide) (fun h4 => ?_) (fun h4 => ?_)
    · replace hw := hw.1 h4
      refine x_aload_n C dX11_difference_29 rfl rfl ?_
      refine n_getS (dd := 1) C fl_X11_10 s0 (fun _ _ => rfl) rfl dX11_difference_30 ?_
      refine n_getS (dd := 11) C fl_X11_196 s1 (fun _ _ => rfl) rfl dX11_difference_33 ?_
      refine n_getS (dd := 1) C fl_X11_208 s12 (fun _ _ => rfl) rfl dX11_difference_36 ?_
      refine x_iload_n C dX11_difference_39 rfl rfl ?_
      obtain ⟨h5, hw⟩ := hw
      refine a_iald C s13 ln13 h5 dX11_difference_40 ?_
      exact n_ireturn C r dX11_difference_41 hw
    · replace hw := hw.2 h4
      refine x_ldc (v := (-1000000000 : Int32)) C dX11_difference_24 kc_X11_207 ?_
      refine x_goto (tgt := 41) C dX11_difference_26 (by decide) ?_
      exact n_ireturn C r dX11_difference_41 hw
  · replace hw := hw.2 h1
    refine x_ldc (v := (-2000000000 : Int32)) C dX11_difference_4 kc_X11_166 ?_
    exact n_ireturn C r dX11_difference_6 hw

def w_X11_stand (M : Mem) (q : Int32 → Mem → Prop) : Prop := ∀ x1 : Int32, x1 = (M.1 12 1) → ∀ M2 : Mem, M2 = uI M 12 1 (0 : Int32) → q x1 M2
set_option maxRecDepth 100000 in
set_option maxHeartbeats 4000000 in
theorem ok_X11_stand {g : Gl} {l : Launch} {M : Mem} {q : Int32 → Mem → Prop} (hw : w_X11_stand M q) : CtI g l yX11_stand cX11_stand 2 (some .int) 1 0 [.ref (g.2.2.2 + 0)] M q := by
  refine n_introI (by decide +kernel) (Nat.le_of_ble_eq_true rfl) (fun c C r => ?_)
  have C : Cx c cX11_stand 2 RX11 g l (Rm 1 0) := C
  refine x_sub [0] (lv' := [(0, .ref (g.2.2.2 + 0))]) rfl ?_
  unfold w_X11_stand at hw
  refine x_aload_n C dX11_stand_0 rfl rfl ?_
  refine n_getS (dd := 1) C fl_X11_10 s0 (fun _ _ => rfl) rfl dX11_stand_1 ?_
  refine n_getS (dd := 11) C fl_X11_196 s1 (fun _ _ => rfl) rfl dX11_stand_4 ?_
  refine n_getI C fl_X11_200 s12 (fun _ _ => rfl) dX11_stand_7 ?_
  obtain ⟨x1, ex1⟩ : ∃ z : Int32, z = (M.1 12 1) := ⟨_, rfl⟩
  replace hw := hw x1 ex1
  refine x_topi ex1 ?_
  refine x_istore_n C dX11_stand_10 rfl (Nat.le_of_ble_eq_true rfl) ?_
  refine x_aload_n C dX11_stand_11 rfl rfl ?_
  refine n_getS (dd := 1) C fl_X11_10 s0 (fun _ _ => rfl) rfl dX11_stand_12 ?_
  refine n_getS (dd := 11) C fl_X11_196 s1 (fun _ _ => rfl) rfl dX11_stand_15 ?_
  refine x_iconst (v := (0 : Int32)) C dX11_stand_18 (by decide) ?_
  obtain ⟨M2, eM2⟩ : ∃ z : Mem, z = uI M 12 1 (0 : Int32) := ⟨_, rfl⟩
  replace hw := hw M2 eM2
  refine m_putI C fp_X11_200 s12 (fun _ _ => rfl) rfl rfl eM2 dX11_stand_19 ?_
  refine x_iload_n C dX11_stand_22 rfl rfl ?_
  exact n_ireturn C r dX11_stand_23 hw


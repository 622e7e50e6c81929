def w_X12_size (v0 : Int64) (M : Mem) (q : Int64 → Mem → Prop) : Prop := (((0 : Int64) ≤ v0 → q v0 M) ∧ (¬ (0 : Int64) ≤ v0 → q (-v0) M))
set_option maxRecDepth 100000 in
set_option maxHeartbeats 4000000 in
theorem ok_X12_size {g : Gl} {l : Launch} {v0 : Int64} {M : Mem} {q : Int64 → Mem → Prop} (hw : w_X12_size v0 M q) : CtJ g l yX12_size cX12_size 2 (some .long) 1 0 [.long v0] M q := by
  refine n_introJ (by decide +kernel) (Nat.le_of_ble_eq_true rfl) (fun c C r => ?_)
  have C : Cx c cX12_size 2 RX12 g l (Rm 1 0) := C
  refine x_sub [0] (lv' := [(0, .long v0)]) rfl ?_
  unfold w_X12_size at hw
  refine x_lload_n C dX12_size_0 rfl rfl ?_
  refine x_lconst (v := (0 : Int64)) C dX12_size_1 (by decide) ?_
  refine x_lc_ge (tgt := 11) C dX12_size_2 dX12_size_3 (by decide) (fun h1 => ?_) (fun h1 => ?_)
  · replace hw := hw.1 h1
    refine x_lload_n C dX12_size_11 rfl rfl ?_
    exact n_lreturn C r dX12_size_12 hw
  · replace hw := hw.2 h1
    refine x_lload_n C dX12_size_6 rfl rfl ?_
    refine x_lneg C dX12_size_7 ?_
    refine x_goto (tgt := 12) C dX12_size_8 (by decide) ?_
    exact n_lreturn C r dX12_size_12 hw

def w_X12_fitAll_b180 (v1 : Int32) (v2 : Int32) (v3 : Int32) (v4 : Int32) (v5 : Int32) (M : Mem) (q : Mem → Prop) (P10 : Int32 × Mem → Prop) : Prop := ∀ x1 : Int32, x1 = v5 + (1 : Int32) → P10 (x1, M)
set_option maxRecDepth 100000 in
set_option maxHeartbeats 4000000 in
theorem ok_X12_fitAll_b180 {c : CtxT} {g : Gl} {l : Launch} {v1 : Int32} {v2 : Int32} {v3 : Int32} {v4 : Int32} {v5 : Int32} {q : Mem → Prop} {P10 : Int32 × Mem → Prop} {M : Mem} (C : Cx c cX12_fitAll 12 RX12 g l (Rm 2 28)) (r : Rt c (none) (pV q) 0 0) (hP10 : ∀ (v5 : Int32) (M : Mem), P10 (v5, M) → X c S0 10 [(0, .ref (g.2.2.2 + 135)), (1, .int v1), (2, .int v2), (3, .int v3), (4, .int v4), (5, .int v5)] [] (stat M)) (hw : w_X12_fitAll_b180 v1 v2 v3 v4 v5 M q P10) : X c S0 180 [(0, .ref (g.2.2.2 + 135)), (1, .int v1), (2, .int v2), (3, .int v3), (4, .int v4), (5, .int v5)] [] (stat M) := by
  unfold w_X12_fitAll_b180 at hw
  obtain ⟨x1, ex1⟩ : ∃ z : Int32, z = v5 + (1 : Int32) := ⟨_, rfl⟩
  replace hw := hw x1 ex1
  refine x_iinc (v := x1) C dX12_fitAll_180 rfl ex1.symm (Nat.le_of_ble_eq_true rfl) ?_
  refine x_goto (tgt := 10) C dX12_fitAll_183 (by decide) ?_
  exact x_sub [0, 1, 2, 3, 4, 5] rfl (hP10 _ _ hw)
def w_X12_fitAll_b156 (v1 : Int32) (v2 : Int32) (v3 : Int32) (v4 : Int32) (v5 : Int32) (v6 : Int32) (v7 : Int32) (v8 : Int32) (v9 : Int64) (M : Mem) (q : Mem → Prop) (P10 : Int32 × Mem → Prop) : Prop := ∀ M2 : Mem, M2 = uJ M 135 21 v9 → ∀ M3 : Mem, M3 = uI M2 135 18 v6 → ∀ M4 : Mem, M4 = uI M3 135 19 v7 → ∀ M5 : Mem, M5 = uI M4 135 20 v8 → w_X12_fitAll_b180 v1 v2 v3 v4 v5 M5 q P10
set_option maxRecDepth 100000 in
set_option maxHeartbeats 4000000 in
theorem ok_X12_fitAll_b156 {c : CtxT} {g : Gl} {l : Launch} {v1 : Int32} {v2 : Int32} {v3 : Int32} {v4 : Int32} {v5 : Int32} {v6 : Int32} {v7 : Int32} {v8 : Int32} {v9 : Int64} {q : Mem → Prop} {P10 : Int32 × Mem → Prop} {M : Mem} (C : Cx c cX12_fitAll 12 RX12 g l (Rm 2 28)) (r : Rt c (none) (pV q) 0 0) (hP10 : ∀ (v5 : Int32) (M : Mem), P10 (v5, M) → X c S0 10 [(0, .ref (g.2.2.2 + 135)), (1, .int v1), (2, .int v2), (3, .int v3), (4, .int v4), (5, .int v5)] [] (stat M)) (hw : w_X12_fitAll_b156 v1 v2 v3 v4 v5 v6 v7 v8 v9 M q P10) : X c S0 156 [(0, .ref (g.2.2.2 + 135)), (1, .int v1), (2, .int v2), (3, .int v3), (4, .int v4), (5, .int v5), (6, .int v6), (7, .int v7), (8, .int v8), (9, .long v9)] [] (stat M) := by
  unfold w_X12_fitAll_b156 at hw
  refine x_aload_n C dX12_fitAll_156 rfl rfl ?_
  refine x_lload C dX12_fitAll_157 rfl ?_
  obtain ⟨M2, eM2⟩ : ∃ z : Mem, z = uJ M 135 21 v9 := ⟨_, rfl⟩
  replace hw := hw M2 eM2
  refine m_putJ C fp_X12_212 s135 (fun _ _ => rfl) rfl rfl eM2 dX12_fitAll_159 ?_
  refine x_aload_n C dX12_fitAll_162 rfl rfl ?_
  refine x_iload C dX12_fitAll_163 rfl ?_
  obtain ⟨M3, eM3⟩ : ∃ z : Mem, z = uI M2 135 18 v6 := ⟨_, rfl⟩
  replace hw := hw M3 eM3
  refine m_putI C fp_X12_224 s135 (fun _ _ => rfl) rfl rfl eM3 dX12_fitAll_165 ?_
  refine x_aload_n C dX12_fitAll_168 rfl rfl ?_
  refine x_iload C dX12_fitAll_169 rfl ?_
  obtain ⟨M4, eM4⟩ : ∃ z : Mem, z = uI M3 135 19 v7 := ⟨_, rfl⟩
  replace hw := hw M4 eM4
  refine m_putI C fp_X12_227 s135 (fun _ _ => rfl) rfl rfl eM4 dX12_fitAll_171 ?_
  refine x_aload_n C dX12_fitAll_174 rfl rfl ?_
  refine x_iload C dX12_fitAll_175 rfl ?_
  obtain ⟨M5, eM5⟩ : ∃ z : Mem, z = uI M4 135 20 v8 := ⟨_, rfl⟩
  replace hw := hw M5 eM5
  refine m_putI C fp_X12_230 s135 (fun _ _ => rfl) rfl rfl eM5 dX12_fitAll_177 ?_
  exact x_sub [0, 1, 2, 3, 4, 5] rfl (ok_X12_fitAll_b180 C r hP10 hw)
def w_X12_fitAll_b131 (v1 : Int32) (v2 : Int32) (v3 : Int32) (v4 : Int32) (v5 : Int32) (v6 : Int32) (v7 : Int32) (v8 : Int32) (v9 : Int64) (v11 : Int32) (M : Mem) (q : Mem → Prop) (P10 : Int32 × Mem → Prop) (P49 : Int64 × Int32 × Mem → Prop) : Prop := ∀ x6 : Int32, x6 = v11 + (1 : Int32) → P49 (v9, x6, M)
set_option maxRecDepth 100000 in
set_option maxHeartbeats 4000000 in
theorem ok_X12_fitAll_b131 {c : CtxT} {g : Gl} {l : Launch} {v1 : Int32} {v2 : Int32} {v3 : Int32} {v4 : Int32} {v5 : Int32} {v6 : Int32} {v7 : Int32} {v8 : Int32} {v9 : Int64} {v11 : Int32} {q : Mem → Prop} {P10 : Int32 × Mem → Prop} {P49 : Int64 × Int32 × Mem → Prop} {M : Mem} (C : Cx c cX12_fitAll 12 RX12 g l (Rm 2 28)) (r : Rt c (none) (pV q) 0 0) (hP10 : ∀ (v5 : Int32) (M : Mem), P10 (v5, M) → X c S0 10 [(0, .ref (g.2.2.2 + 135)), (1, .int v1), (2, .int v2), (3, .int v3), (4, .int v4), (5, .int v5)] [] (stat M)) (hP49 : ∀ (v9 : Int64) (v11 : Int32) (M : Mem), P49 (v9, v11, M) → X c S0 49 [(0, .ref (g.2.2.2 + 135)), (1, .int v1), (2, .int v2), (3, .int v3), (4, .int v4), (5, .int v5), (6, .int v6), (7, .int v7), (8, .int v8), (9, .long v9), (11, .int v11)] [] (stat M)) (hw : w_X12_fitAll_b131 v1 v2 v3 v4 v5 v6 v7 v8 v9 v11 M q P10 P49) : X c S0 131 [(0, .ref (g.2.2.2 + 135)), (1, .int v1), (2, .int v2), (3, .int v3), (4, .int v4), (5, .int v5), (6, .int v6), (7, .int v7), (8, .int v8), (9, .long v9), (11, .int v11)] [] (stat M) := by
  unfold w_X12_fitAll_b131 at hw
  obtain ⟨x6, ex6⟩ : ∃ z : Int32, z = v11 + (1 : Int32) := ⟨_, rfl⟩
  replace hw := hw x6 ex6
  refine x_iinc (v := x6) C dX12_fitAll_131 rfl ex6.symm (Nat.le_of_ble_eq_true rfl) ?_
  refine x_goto (tgt := 49) C dX12_fitAll_134 (by decide) ?_
  exact x_sub [0, 1, 2, 3, 4, 5, 6, 7, 8, 9, 11] rfl (hP49 _ _ _ hw)
def w_X12_fitAll_l49F (v1 : Int32) (v2 : Int32) (v3 : Int32) (v4 : Int32) (v5 : Int32) (v6 : Int32) (v7 : Int32) (v8 : Int32) (q : Mem → Prop) (P10 : Int32 × Mem → Prop) (P49 : Int64 × Int32 × Mem → Prop) (s : Int64 × Int32 × Mem) : Prop := match s with
  | (v9, v11, M) => w_X12_many (4 : Int32) M (fun (r8 : Int32) (M7 : Mem) => ((r8 ≤ v11 → (((M7.2.1 135 21) < (0 : Int64) → w_X12_fitAll_b156 v1 v2 v3 v4 v5 v6 v7 v8 v9 M7 q P10) ∧ (¬ (M7.2.1 135 21) < (0 : Int64) → (((M7.2.1 135 21) ≤ v9 → w_X12_fitAll_b180 v1 v2 v3 v4 v5 M7 q P10) ∧ (¬ (M7.2.1 135 21) ≤ v9 → w_X12_fitAll_b156 v1 v2 v3 v4 v5 v6 v7 v8 v9 M7 q P10))))) ∧ (¬ r8 ≤ v11 → w_X12_isOf v11 v1 M7 (fun (r13 : Int32) (M12 : Mem) => ((r13 = 0 → w_X12_fitAll_b131 v1 v2 v3 v4 v5 v6 v7 v8 v9 v11 M12 q P10 P49) ∧ (¬ r13 = 0 → vp_in (((1346 : Int32) + ((14 : Int32) * v11)) + (13 : Int32)) 4230 ∧ ((¬ (M12.1 136 ((((1346 : Int32) + ((14 : Int32) * v11)) + (13 : Int32))).toNatClampNeg) = 0 → w_X12_fitAll_b131 v1 v2 v3 v4 v5 v6 v7 v8 v9 v11 M12 q P10 P49) ∧ ((M12.1 136 ((((1346 : Int32) + ((14 : Int32) * v11)) + (13 : Int32))).toNatClampNeg) = 0 → vp_in (((1346 : Int32) + ((14 : Int32) * v11)) + (5 : Int32)) 4230 ∧ w_X12_made v11 v2 v3 v4 v6 v7 v8 M12 (fun (r19 : Int64) (M18 : Mem) => w_X12_size (((M12.1 136 ((((1346 : Int32) + ((14 : Int32) * v11)) + (5 : Int32))).toNatClampNeg)).toInt64 - r19) M18 (fun (r21 : Int64) (M20 : Mem) => ∀ x22 : Int64, x22 = (v9 + r21) → w_X12_fitAll_b131 v1 v2 v3 v4 v5 v6 v7 v8 x22 v11 M20 q P10 P49))))))))))
def w_X12_fitAll_l49 (v1 : Int32) (v2 : Int32) (v3 : Int32) (v4 : Int32) (v5 : Int32) (v6 : Int32) (v7 : Int32) (v8 : Int32) (q : Mem → Prop) (P10 : Int32 × Mem → Prop) (s : Int64 × Int32 × Mem) : Prop := lfp (w_X12_fitAll_l49F v1 v2 v3 v4 v5 v6 v7 v8 q P10) s
set_option maxRecDepth 100000 in
set_option maxHeartbeats 4000000 in
theorem ok_X12_fitAll_l49 {c : CtxT} {g : Gl} {l : Launch} {v1 : Int32} {v2 : Int32} {v3 : Int32} {v4 : Int32} {v5 : Int32} {v6 : Int32} {v7 : Int32} {v8 : Int32} {q : Mem → Prop} {P10 : Int32 × Mem → Prop} {s : Int64 × Int32 × Mem} (C : Cx c cX12_fitAll 12 RX12 g l (Rm 2 28)) (r : Rt c (none) (pV q) 0 0) (hP10 : ∀ (v5 : Int32) (M : Mem), P10 (v5, M) → X c S0 10 [(0, .ref (g.2.2.2 + 135)), (1, .int v1), (2, .int v2), (3, .int v3), (4, .int v4), (5, .int v5)] [] (stat M)) (hw : w_X12_fitAll_l49 v1 v2 v3 v4 v5 v6 v7 v8 q P10 s) : X c S0 49 [(0, .ref (g.2.2.2 + 135)), (1, .int v1), (2, .int v2), (3, .int v3), (4, .int v4), (5, .int v5), (6, .int v6), (7, .int v7), (8, .int v8), (9, .long s.1), (11, .int s.2.1)] [] (stat s.2.2) := hw (fun s => X c S0 49 [(0, .ref (g.2.2.2 + 135)), (1, .int v1), (2, .int v2), (3, .int v3), (4, .int v4), (5, .int v5), (6, .int v6), (7, .int v7), (8, .int v8), (9, .long s.1), (11, .int s.2.1)] [] (stat s.2.2)) (fun s hw => by
    obtain ⟨v9, v11, M⟩ := s
    try dsimp only [w_X12_fitAll_l49F] at hw
    try dsimp only
    refine x_iload C dX12_fitAll_49 rfl ?_
    refine x_aload_n C dX12_fitAll_51 rfl rfl ?_
    refine x_iconst (v := (4 : Int32)) C dX12_fitAll_52 (by decide) ?_
    refine n_callVI s135 rfl C (ok_X12_many  hw) mv_X12_66 rfl rfl ⟨Nat.le_of_ble_eq_true rfl, Nat.le_of_ble_eq_true rfl⟩ (Nat.le_of_ble_eq_true rfl) dX12_fitAll_53 (fun r8 M7 hw => ?_)
    refine x_icmp_ge (tgt := 137) C dX12_fitAll_56 (by decide) (fun h9 => ?_) (fun h9 => ?_)
    · replace hw := hw.1 h9
      refine x_aload_n C dX12_fitAll_137 rfl rfl ?_
      refine n_getJ C fl_X12_212 s135 (fun _ _ => rfl) dX12_fitAll_138 ?_
      refine x_lconst (v := (0 : Int64)) C dX12_fitAll_141 (by decide) ?_
      refine x_lc_lt (tgt := 156) C dX12_fitAll_142 dX12_fitAll_143 (by decide) (fun h10 => ?_) (fun h10 => ?_)
      · replace hw := hw.1 h10
        exact x_sub [0, 1, 2, 3, 4, 5, 6, 7, 8, 9] rfl (ok_X12_fitAll_b156 C r hP10 hw)
      · replace hw := hw.2 h10
        refine x_lload C dX12_fitAll_146 rfl ?_
        refine x_aload_n C dX12_fitAll_148 rfl rfl ?_
        refine n_getJ C fl_X12_212 s135 (fun _ _ => rfl) dX12_fitAll_149 ?_
        refine x_lc_ge (tgt := 180) C dX12_fitAll_152 dX12_fitAll_153 (by decide) (fun h11 => ?_) (fun h11 => ?_)
        · replace hw := hw.1 h11
          exact x_sub [0, 1, 2, 3, 4, 5] rfl (ok_X12_fitAll_b180 C r hP10 hw)
        · replace hw := hw.2 h11
          exact x_sub [0, 1, 2, 3, 4, 5, 6, 7, 8, 9] rfl (ok_X12_fitAll_b156 C r hP10 hw)
    · replace hw := hw.2 h9
      refine x_aload_n C dX12_fitAll_59 rfl rfl ?_
      refine x_iload C dX12_fitAll_60 rfl ?_
      refine x_iload_n C dX12_fitAll_62 rfl rfl ?_
      refine n_callVI s135 rfl C (ok_X12_isOf  hw) mv_X12_207 rfl rfl ⟨Nat.le_of_ble_eq_true rfl, Nat.le_of_ble_eq_true rfl⟩ (Nat.le_of_ble_eq_true rfl) dX12_fitAll_63 (fun r13 M12 hw => ?_)
      refine x_if_eq (tgt := 131) C dX12_fitAll_66 (by decide) (fun h14 => ?_) (fun h14 => ?_)
      · replace hw := hw.1 h14
        exact x_sub [0, 1, 2, 3, 4, 5, 6, 7, 8, 9, 11] rfl (ok_X12_fitAll_b131 C r hP10 (fun _ _ _ h => h) hw)
      · replace hw := hw.2 h14
        refine x_aload_n C dX12_fitAll_69 rfl rfl ?_
        refine n_getS (dd := 1) C fl_X12_7 s135 (fun _ _ => rfl) rfl dX12_fitAll_70 ?_
        refine x_sipush (v := (1346 : Int32)) C dX12_fitAll_73 (by decide) ?_
        refine x_bipush (v := (14 : Int32)) C dX12_fitAll_76 (by decide) ?_
        refine x_iload C dX12_fitAll_78 rfl ?_
        refine x_imul C dX12_fitAll_80 ?_
        refine x_iadd C dX12_fitAll_81 ?_
        refine x_bipush (v := (13 : Int32)) C dX12_fitAll_82 (by decide) ?_
        refine x_iadd C dX12_fitAll_84 ?_
        obtain ⟨h15, hw⟩ := hw
        refine a_iald C s136 ln136 h15 dX12_fitAll_85 ?_
        refine x_if_ne (tgt := 131) C dX12_fitAll_86 (by decide) (fun h16 => ?_) (fun h16 => ?_)
        · replace hw := hw.1 h16
          exact x_sub [0, 1, 2, 3, 4, 5, 6, 7, 8, 9, 11] rfl (ok_X12_fitAll_b131 C r hP10 (fun _ _ _ h => h) hw)
        · replace hw := hw.2 h16
          refine x_lload C dX12_fitAll_89 rfl ?_
          refine x_aload_n C dX12_fitAll_91 rfl rfl ?_
          refine n_getS (dd := 1) C fl_X12_7 s135 (fun _ _ => rfl) rfl dX12_fitAll_92 ?_
          refine x_sipush (v := (1346 : Int32)) C dX12_fitAll_95 (by decide) ?_
          refine x_bipush (v := (14 : Int32)) C dX12_fitAll_98 (by decide) ?_
          refine x_iload C dX12_fitAll_100 rfl ?_
          refine x_imul C dX12_fitAll_102 ?_
          refine x_iadd C dX12_fitAll_103 ?_
          refine x_iconst (v := (5 : Int32)) C dX12_fitAll_104 (by decide) ?_
          refine x_iadd C dX12_fitAll_105 ?_
          obtain ⟨h17, hw⟩ := hw
          refine a_iald C s136 ln136 h17 dX12_fitAll_106 ?_
          refine x_i2l C dX12_fitAll_107 ?_
          refine x_aload_n C dX12_fitAll_108 rfl rfl ?_
          refine x_iload C dX12_fitAll_109 rfl ?_
          refine x_iload_n C dX12_fitAll_111 rfl rfl ?_
          refine x_iload_n C dX12_fitAll_112 rfl rfl ?_
          refine x_iload C dX12_fitAll_113 rfl ?_
          refine x_iload C dX12_fitAll_115 rfl ?_
          refine x_iload C dX12_fitAll_117 rfl ?_
          refine x_iload C dX12_fitAll_119 rfl ?_
          refine n_callVJ s135 rfl C (ok_X12_made  hw) mv_X12_216 rfl rfl ⟨Nat.le_of_ble_eq_true rfl, Nat.le_of_ble_eq_true rfl⟩ (Nat.le_of_ble_eq_true rfl) dX12_fitAll_121 (fun r19 M18 hw => ?_)
          refine x_lsub C dX12_fitAll_124 ?_
          refine n_callSJ C (ok_X12_size  hw) ms_X12_220 rfl rfl ⟨Nat.le_of_ble_eq_true rfl, Nat.le_of_ble_eq_true rfl⟩ (Nat.le_of_ble_eq_true rfl) dX12_fitAll_125 (fun r21 M20 hw => ?_)
          refine x_ladd C dX12_fitAll_128 ?_
          obtain ⟨x22, ex22⟩ : ∃ z : Int64, z = (v9 + r21) := ⟨_, rfl⟩
          replace hw := hw x22 ex22
          refine x_topj ex22 ?_
          refine x_lstore C dX12_fitAll_129 (Nat.le_of_ble_eq_true rfl) ?_
          exact x_sub [0, 1, 2, 3, 4, 5, 6, 7, 8, 9, 11] rfl (ok_X12_fitAll_b131 C r hP10 (fun _ _ _ h => h) hw))
def w_X12_fitAll_l10F (v1 : Int32) (v2 : Int32) (v3 : Int32) (v4 : Int32) (q : Mem → Prop) (P10 : Int32 × Mem → Prop) (s : Int32 × Mem) : Prop := match s with
  | (v5, M) => (((2197 : Int32) ≤ v5 → q M) ∧ (¬ (2197 : Int32) ≤ v5 → ∀ x24 : Int32, x24 = (v5 / (169 : Int32)) → ∀ x25 : Int32, x25 = (irm (v5 / (13 : Int32)) (13 : Int32)) → ∀ x26 : Int32, x26 = (irm v5 (13 : Int32)) → w_X12_fitAll_l49 v1 v2 v3 v4 v5 x24 x25 x26 q P10 ((0 : Int64), (0 : Int32), M)))
def w_X12_fitAll_l10 (v1 : Int32) (v2 : Int32) (v3 : Int32) (v4 : Int32) (q : Mem → Prop) (s : Int32 × Mem) : Prop := lfp (w_X12_fitAll_l10F v1 v2 v3 v4 q ) s
set_option maxRecDepth 100000 in
set_option maxHeartbeats 4000000 in
theorem ok_X12_fitAll_l10 {c : CtxT} {g : Gl} {l : Launch} {v1 : Int32} {v2 : Int32} {v3 : Int32} {v4 : Int32} {q : Mem → Prop} {s : Int32 × Mem} (C : Cx c cX12_fitAll 12 RX12 g l (Rm 2 28)) (r : Rt c (none) (pV q) 0 0) (hw : w_X12_fitAll_l10 v1 v2 v3 v4 q s) : X c S0 10 [(0, .ref (g.2.2.2 + 135)), (1, .int v1), (2, .int v2), (3, .int v3), (4, .int v4), (5, .int s.1)] [] (stat s.2) := hw (fun s => X c S0 10 [(0, .ref (g.2.2.2 + 135)), (1, .int v1), (2, .int v2), (3, .int v3), (4, .int v4), (5, .int s.1)] [] (stat s.2)) (fun s hw => by
    obtain ⟨v5, M⟩ := s
    try dsimp only [w_X12_fitAll_l10F] at hw
    try dsimp only
    refine x_iload C dX12_fitAll_10 rfl ?_
    refine x_sipush (v := (2197 : Int32)) C dX12_fitAll_12 (by decide) ?_
    refine x_icmp_ge (tgt := 186) C dX12_fitAll_15 (by decide) (fun h23 => ?_) (fun h23 => ?_)
    · replace hw := hw.1 h23
      exact n_vreturn C r dX12_fitAll_186 hw
    · replace hw := hw.2 h23
      refine x_iload C dX12_fitAll_18 rfl ?_
      refine x_sipush (v := (169 : Int32)) C dX12_fitAll_20 (by decide) ?_
      refine x_idiv C dX12_fitAll_23 (by decide) ?_
      obtain ⟨x24, ex24⟩ : ∃ z : Int32, z = (v5 / (169 : Int32)) := ⟨_, rfl⟩
      replace hw := hw x24 ex24
      refine x_topi ex24 ?_
      refine x_istore C dX12_fitAll_24 (Nat.le_of_ble_eq_true rfl) ?_
      refine x_iload C dX12_fitAll_26 rfl ?_
      refine x_bipush (v := (13 : Int32)) C dX12_fitAll_28 (by decide) ?_
      refine x_idiv C dX12_fitAll_30 (by decide) ?_
      refine x_bipush (v := (13 : Int32)) C dX12_fitAll_31 (by decide) ?_
      refine x_iremv C dX12_fitAll_33 (by decide) ?_
      obtain ⟨x25, ex25⟩ : ∃ z : Int32, z = (irm (v5 / (13 : Int32)) (13 : Int32)) := ⟨_, rfl⟩
      replace hw := hw x25 ex25
      refine x_topi ex25 ?_
      refine x_istore C dX12_fitAll_34 (Nat.le_of_ble_eq_true rfl) ?_
      refine x_iload C dX12_fitAll_36 rfl ?_
      refine x_bipush (v := (13 : Int32)) C dX12_fitAll_38 (by decide) ?_
      refine x_iremv C dX12_fitAll_40 (by decide) ?_
      obtain ⟨x26, ex26⟩ : ∃ z : Int32, z = (irm v5 (13 : Int32)) := ⟨_, rfl⟩
      replace hw := hw x26 ex26
      refine x_topi ex26 ?_
      refine x_istore C dX12_fitAll_41 (Nat.le_of_ble_eq_true rfl) ?_
      refine x_lconst (v := (0 : Int64)) C dX12_fitAll_43 (by decide) ?_
      refine x_lstore C dX12_fitAll_44 (Nat.le_of_ble_eq_true rfl) ?_
      refine x_iconst (v := (0 : Int32)) C dX12_fitAll_46 (by decide) ?_
      refine x_istore C dX12_fitAll_47 (Nat.le_of_ble_eq_true rfl) ?_
      exact x_sub [0, 1, 2, 3, 4, 5, 6, 7, 8, 9, 11] rfl (ok_X12_fitAll_l49 C r (fun _ _ h => h) hw))
def w_X12_fitAll (v1 : Int32) (v2 : Int32) (v3 : Int32) (v4 : Int32) (M : Mem) (q : Mem → Prop) : Prop := ∀ M27 : Mem, M27 = uJ M 135 21 (-1 : Int64) → w_X12_fitAll_l10 v1 v2 v3 v4 q ((0 : Int32), M27)
set_option maxRecDepth 100000 in
set_option maxHeartbeats 4000000 in
theorem ok_X12_fitAll {g : Gl} {l : Launch} {v1 : Int32} {v2 : Int32} {v3 : Int32} {v4 : Int32} {M : Mem} {q : Mem → Prop} (hw : w_X12_fitAll v1 v2 v3 v4 M q) : CtV g l yX12_fitAll cX12_fitAll 12 none 2 28 [.ref (g.2.2.2 + 135), .int v1, .int v2, .int v3, .int v4] M q := by
  refine n_introV (by decide +kernel) (Nat.le_of_ble_eq_true rfl) (fun c C r => ?_)
  have C : Cx c cX12_fitAll 12 RX12 g l (Rm 2 28) := C
  refine x_sub [0, 1, 2, 3, 4] (lv' := [(0, .ref (g.2.2.2 + 135)), (1, .int v1), (2, .int v2), (3, .int v3), (4, .int v4)]) rfl ?_
  unfold w_X12_fitAll at hw
  refine x_aload_n C dX12_fitAll_0 rfl rfl ?_
  refine x_ldc2_w (v := (-1 : Int64)) C dX12_fitAll_1 kc_X12_210 ?_
  obtain ⟨M27, eM27⟩ : ∃ z : Mem, z = uJ M 135 21 (-1 : Int64) := ⟨_, rfl⟩
  replace hw := hw M27 eM27
  refine m_putJ C fp_X12_212 s135 (fun _ _ => rfl) rfl rfl eM27 dX12_fitAll_4 ?_
  refine x_iconst (v := (0 : Int32)) C dX12_fitAll_7 (by decide) ?_
  refine x_istore C dX12_fitAll_8 (Nat.le_of_ble_eq_true rfl) ?_
  exact x_sub [0, 1, 2, 3, 4, 5] rfl (ok_X12_fitAll_l10 C r  hw)

def w_X12_areCounters (v0 : Int32) (v1 : Int32) (v2 : Int32) (M : Mem) (q : Int32 → Mem → Prop) : Prop := w_X12_isCounter v0 M (fun (r2 : Int32) (M1 : Mem) => ((r2 = 0 → q (0 : Int32) M1) ∧ (¬ r2 = 0 → w_X12_isCounter v1 M1 (fun (r5 : Int32) (M4 : Mem) => ((r5 = 0 → q (0 : Int32) M4) ∧ (¬ r5 = 0 → w_X12_isCounter v2 M4 (fun (r8 : Int32) (M7 : Mem) => ((r8 = 0 → q (0 : Int32) M7) ∧ (¬ r8 = 0 → ((v0 = v1 → q (0 : Int32) M7) ∧ (¬ v0 = v1 → ((v0 = v2 → q (0 : Int32) M7) ∧ (¬ v0 = v2 → ((v1 = v2 → q (0 : Int32) M7) ∧ (¬ v1 = v2 → q (1 : Int32) M7)))))))))))))))
set_option maxRecDepth 100000 in
set_option maxHeartbeats 4000000 in
theorem ok_X12_areCounters {g : Gl} {l : Launch} {v0 : Int32} {v1 : Int32} {v2 : Int32} {M : Mem} {q : Int32 → Mem → Prop} (hw : w_X12_areCounters v0 v1 v2 M q) : CtI g l yX12_areCounters cX12_areCounters 3 (some .boolean) 3 45 [.int v0, .int v1, .int v2] M q := by
  refine n_introI (by decide +kernel) (Nat.le_of_ble_eq_true rfl) (fun c C r => ?_)
  have C : Cx c cX12_areCounters 3 RX12 g l (Rm 3 45) := C
  refine x_sub [0, 1, 2] (lv' := [(0, .int v0), (1, .int v1), (2, .int v2)]) rfl ?_
  unfold w_X12_areCounters at hw
  refine x_iload_n C dX12_areCounters_0 rfl rfl ?_
  refine n_callSI C (ok_X12_isCounter  hw) ms_X12_202 rfl rfl ⟨Nat.le_of_ble_eq_true rfl, Nat.le_of_ble_eq_true rfl⟩ (Nat.le_of_ble_eq_true rfl) dX12_areCounters_1 (fun r2 M1 hw => ?_)
  refine x_if_eq (tgt := 40) C dX12_areCounters_4 (by decide) (fun h3 => ?_) (fun h3 => ?_)
  · replace hw := hw.1 h3
    refine x_iconst (v := (0 : Int32)) C dX12_areCounters_40 (by decide) ?_
    exact n_zreturn C r dX12_areCounters_41 (Or.inl rfl) hw
  · replace hw := hw.2 h3
    refine x_iload_n C dX12_areCounters_7 rfl rfl ?_
    refine n_callSI C (ok_X12_isCounter  hw) ms_X12_202 rfl rfl ⟨Nat.le_of_ble_eq_true rfl, Nat.le_of_ble_eq_true rfl⟩ (Nat.le_of_ble_eq_true rfl) dX12_areCounters_8 (fun r5 M4 hw => ?_)
    refine x_if_eq (tgt := 40) C dX12_areCounters_11 (by decide) (fun h6 => ?_) (fun h6 => ?_)
    · replace hw := hw.1 h6
      refine x_iconst (v := (0 : Int32)) C dX12_areCounters_40 (by decide) ?_
      exact n_zreturn C r dX12_areCounters_41 (Or.inl rfl) hw
    · replace hw := hw.2 h6
      refine x_iload_n C dX12_areCounters_14 rfl rfl ?_
      refine n_callSI C (ok_X12_isCounter  hw) ms_X12_202 rfl rfl ⟨Nat.le_of_ble_eq_true rfl, Nat.le_of_ble_eq_true rfl⟩ (Nat.le_of_ble_eq_true rfl) dX12_areCounters_15 (fun r8 M7 hw => ?_)
      refine x_if_eq (tgt := 40) C dX12_areCounters_18 (by decide) (fun h9 => ?_) (fun h9 => ?_)
      · replace hw := hw.1 h9
        refine x_iconst (v := (0 : Int32)) C dX12_areCounters_40 (by decide) ?_
        exact n_zreturn C r dX12_areCounters_41 (Or.inl rfl) hw
      · replace hw := hw.2 h9
        refine x_iload_n C dX12_areCounters_21 rfl rfl ?_
        refine x_iload_n C dX12_areCounters_22 rfl rfl ?_
        refine x_icmp_eq (tgt := 40) C dX12_areCounters_23 (by decide) (fun h10 => ?_) (fun h10 => ?_)
        · replace hw := hw.1 h10
          refine x_iconst (v := (0 : Int32)) C dX12_areCounters_40 (by decide) ?_
          exact n_zreturn C r dX12_areCounters_41 (Or.inl rfl) hw
        · replace hw := hw.2 h10
          refine x_iload_n C dX12_areCounters_26 rfl rfl ?_
          refine x_iload_n C dX12_areCounters_27 rfl rfl ?_
          refine x_icmp_eq (tgt := 40) C dX12_areCounters_28 (by decide) (fun h11 => ?_) (fun h11 => ?_)
          · replace hw := hw.1 h11
            refine x_iconst (v := (0 : Int32)) C dX12_areCounters_40 (by decide) ?_
            exact n_zreturn C r dX12_areCounters_41 (Or.inl rfl) hw
          · replace hw := hw.2 h11
            refine x_iload_n C dX12_areCounters_31 rfl rfl ?_
            refine x_iload_n C dX12_areCounters_32 rfl rfl ?_
            refine x_icmp_eq (tgt := 40) C dX12_areCounters_33 (by decide) (fun h12 => ?_) (fun h12 => ?_)
            · replace hw := hw.1 h12
              refine x_iconst (v := (0 : Int32)) C dX12_areCounters_40 (by decide) ?_
              exact n_zreturn C r dX12_areCounters_41 (Or.inl rfl) hw
            · replace hw := hw.2 h12
              refine x_iconst (v := (1 : Int32)) C dX12_areCounters_36 (by decide) ?_
              refine x_goto (tgt := 41) C dX12_areCounters_37 (by decide) ?_
              exact n_zreturn C r dX12_areCounters_41 (Or.inr rfl) hw

def w_X12_fit_b225 (v1 : Int32) (v2 : Int32) (v3 : Int32) (v4 : Int32) (v6 : Int32) (v7 : Int64) (v9 : Int32) (M : Mem) (q : Int64 → Mem → Prop) (P106 : Int32 × Int64 × Int32 × Mem → Prop) : Prop := ∀ x1 : Int32, x1 = v9 + (1 : Int32) → P106 (v6, v7, x1, M)
set_option maxRecDepth 100000 in
set_option maxHeartbeats 4000000 in
theorem ok_X12_fit_b225 {c : CtxT} {g : Gl} {l : Launch} {v1 : Int32} {v2 : Int32} {v3 : Int32} {v4 : Int32} {v6 : Int32} {v7 : Int64} {v9 : Int32} {q : Int64 → Mem → Prop} {P106 : Int32 × Int64 × Int32 × Mem → Prop} {M : Mem} (C : Cx c cX12_fit 12 RX12 g l (Rm 4 67)) (r : Rt c (some .long) (pJ q) 0 0) (hP106 : ∀ (v6 : Int32) (v7 : Int64) (v9 : Int32) (M : Mem), P106 (v6, v7, v9, M) → X c S0 106 [(0, .ref (g.2.2.2 + 135)), (1, .int v1), (2, .int v2), (3, .int v3), (4, .int v4), (6, .int v6), (7, .long v7), (9, .int v9)] [] (stat M)) (hw : w_X12_fit_b225 v1 v2 v3 v4 v6 v7 v9 M q P106) : X c S0 225 [(0, .ref (g.2.2.2 + 135)), (1, .int v1), (2, .int v2), (3, .int v3), (4, .int v4), (6, .int v6), (7, .long v7), (9, .int v9)] [] (stat M) := by
  unfold w_X12_fit_b225 at hw
  obtain ⟨x1, ex1⟩ : ∃ z : Int32, z = v9 + (1 : Int32) := ⟨_, rfl⟩
  replace hw := hw x1 ex1
  refine x_iinc (v := x1) C dX12_fit_225 rfl ex1.symm (Nat.le_of_ble_eq_true rfl) ?_
  refine x_goto (tgt := 106) C dX12_fit_228 (by decide) ?_
  exact x_sub [0, 1, 2, 3, 4, 6, 7, 9] rfl (hP106 _ _ _ _ hw)
def w_X12_fit_b223 (v1 : Int32) (v2 : Int32) (v3 : Int32) (v4 : Int32) (v6 : Int32) (v9 : Int32) (t0 : Int64) (M : Mem) (q : Int64 → Mem → Prop) (P106 : Int32 × Int64 × Int32 × Mem → Prop) : Prop := w_X12_fit_b225 v1 v2 v3 v4 v6 t0 v9 M q P106
set_option maxRecDepth 100000 in
set_option maxHeartbeats 4000000 in
theorem ok_X12_fit_b223 {c : CtxT} {g : Gl} {l : Launch} {v1 : Int32} {v2 : Int32} {v3 : Int32} {v4 : Int32} {v6 : Int32} {v9 : Int32} {t0 : Int64} {q : Int64 → Mem → Prop} {P106 : Int32 × Int64 × Int32 × Mem → Prop} {M : Mem} (C : Cx c cX12_fit 12 RX12 g l (Rm 4 67)) (r : Rt c (some .long) (pJ q) 0 0) (hP106 : ∀ (v6 : Int32) (v7 : Int64) (v9 : Int32) (M : Mem), P106 (v6, v7, v9, M) → X c S0 106 [(0, .ref (g.2.2.2 + 135)), (1, .int v1), (2, .int v2), (3, .int v3), (4, .int v4), (6, .int v6), (7, .long v7), (9, .int v9)] [] (stat M)) (hw : w_X12_fit_b223 v1 v2 v3 v4 v6 v9 t0 M q P106) : X c S0 223 [(0, .ref (g.2.2.2 + 135)), (1, .int v1), (2, .int v2), (3, .int v3), (4, .int v4), (6, .int v6), (9, .int v9)] [.long t0] (stat M) := by
  unfold w_X12_fit_b223 at hw
  refine x_lstore C dX12_fit_223 (Nat.le_of_ble_eq_true rfl) ?_
  exact x_sub [0, 1, 2, 3, 4, 6, 7, 9] rfl (ok_X12_fit_b225 C r hP106 hw)
def w_X12_fit_b206 (v1 : Int32) (v2 : Int32) (v3 : Int32) (v4 : Int32) (v7 : Int64) (v9 : Int32) (v10 : Int64) (t0 : Int32) (M : Mem) (q : Int64 → Mem → Prop) (P106 : Int32 × Int64 × Int32 × Mem → Prop) : Prop := ((v10 ≤ v7 → w_X12_fit_b223 v1 v2 v3 v4 t0 v9 v7 M q P106) ∧ (¬ v10 ≤ v7 → w_X12_fit_b223 v1 v2 v3 v4 t0 v9 v10 M q P106))
set_option maxRecDepth 100000 in
set_option maxHeartbeats 4000000 in
theorem ok_X12_fit_b206 {c : CtxT} {g : Gl} {l : Launch} {v1 : Int32} {v2 : Int32} {v3 : Int32} {v4 : Int32} {v7 : Int64} {v9 : Int32} {v10 : Int64} {t0 : Int32} {q : Int64 → Mem → Prop} {P106 : Int32 × Int64 × Int32 × Mem → Prop} {M : Mem} (C : Cx c cX12_fit 12 RX12 g l (Rm 4 67)) (r : Rt c (some .long) (pJ q) 0 0) (hP106 : ∀ (v6 : Int32) (v7 : Int64) (v9 : Int32) (M : Mem), P106 (v6, v7, v9, M) → X c S0 106 [(0, .ref (g.2.2.2 + 135)), (1, .int v1), (2, .int v2), (3, .int v3), (4, .int v4), (6, .int v6), (7, .long v7), (9, .int v9)] [] (stat M)) (hw : w_X12_fit_b206 v1 v2 v3 v4 v7 v9 v10 t0 M q P106) : X c S0 206 [(0, .ref (g.2.2.2 + 135)), (1, .int v1), (2, .int v2), (3, .int v3), (4, .int v4), (7, .long v7), (9, .int v9), (10, .long v10)] [.int t0] (stat M) := by
  unfold w_X12_fit_b206 at hw
  refine x_istore C dX12_fit_206 (Nat.le_of_ble_eq_true rfl) ?_
  refine x_lload C dX12_fit_208 rfl ?_
  refine x_lload C dX12_fit_210 rfl ?_
  refine x_lc_le (tgt := 221) C dX12_fit_212 dX12_fit_213 (by decide) (fun h2 => ?_) (fun h2 => ?_)
  · replace hw := hw.1 h2
    refine x_lload C dX12_fit_221 rfl ?_
    exact x_sub [0, 1, 2, 3, 4, 6, 9] rfl (ok_X12_fit_b223 C r hP106 hw)
  · replace hw := hw.2 h2
    refine x_lload C dX12_fit_216 rfl ?_
    refine x_goto (tgt := 223) C dX12_fit_218 (by decide) ?_
    exact x_sub [0, 1, 2, 3, 4, 6, 9] rfl (ok_X12_fit_b223 C r hP106 hw)
def w_X12_fit_l106F (v1 : Int32) (v2 : Int32) (v3 : Int32) (v4 : Int32) (q : Int64 → Mem → Prop) (P106 : Int32 × Int64 × Int32 × Mem → Prop) (s : Int32 × Int64 × Int32 × Mem) : Prop := match s with
  | (v6, v7, v9, M) => w_X12_many (4 : Int32) M (fun (r4 : Int32) (M3 : Mem) => ((r4 ≤ v9 → q (v6).toInt64 M3) ∧ (¬ r4 ≤ v9 → w_X12_isOf v9 v1 M3 (fun (r7 : Int32) (M6 : Mem) => ((r7 = 0 → w_X12_fit_b225 v1 v2 v3 v4 v6 v7 v9 M6 q P106) ∧ (¬ r7 = 0 → vp_in (((1346 : Int32) + ((14 : Int32) * v9)) + (13 : Int32)) 4230 ∧ ((¬ (M6.1 136 ((((1346 : Int32) + ((14 : Int32) * v9)) + (13 : Int32))).toNatClampNeg) = 0 → w_X12_fit_b225 v1 v2 v3 v4 v6 v7 v9 M6 q P106) ∧ ((M6.1 136 ((((1346 : Int32) + ((14 : Int32) * v9)) + (13 : Int32))).toNatClampNeg) = 0 → vp_in (((1346 : Int32) + ((14 : Int32) * v9)) + (5 : Int32)) 4230 ∧ w_X12_made v9 v2 v3 v4 (M6.1 135 18) (M6.1 135 19) (M6.1 135 20) M6 (fun (r13 : Int64) (M12 : Mem) => w_X12_size (((M6.1 136 ((((1346 : Int32) + ((14 : Int32) * v9)) + (5 : Int32))).toNatClampNeg)).toInt64 - r13) M12 (fun (r15 : Int64) (M14 : Mem) => ((r15 ≤ v7 → w_X12_fit_b206 v1 v2 v3 v4 v7 v9 r15 v6 M14 q P106) ∧ (¬ r15 ≤ v7 → w_X12_fit_b206 v1 v2 v3 v4 v7 v9 r15 v9 M14 q P106))))))))))))
def w_X12_fit_l106 (v1 : Int32) (v2 : Int32) (v3 : Int32) (v4 : Int32) (q : Int64 → Mem → Prop) (s : Int32 × Int64 × Int32 × Mem) : Prop := lfp (w_X12_fit_l106F v1 v2 v3 v4 q ) s
set_option maxRecDepth 100000 in
set_option maxHeartbeats 4000000 in
theorem ok_X12_fit_l106 {c : CtxT} {g : Gl} {l : Launch} {v1 : Int32} {v2 : Int32} {v3 : Int32} {v4 : Int32} {q : Int64 → Mem → Prop} {s : Int32 × Int64 × Int32 × Mem} (C : Cx c cX12_fit 12 RX12 g l (Rm 4 67)) (r : Rt c (some .long) (pJ q) 0 0) (hw : w_X12_fit_l106 v1 v2 v3 v4 q s) : X c S0 106 [(0, .ref (g.2.2.2 + 135)), (1, .int v1), (2, .int v2), (3, .int v3), (4, .int v4), (6, .int s.1), (7, .long s.2.1), (9, .int s.2.2.1)] [] (stat s.2.2.2) := hw (fun s => X c S0 106 [(0, .ref (g.2.2.2 + 135)), (1, .int v1), (2, .int v2), (3, .int v3), (4, .int v4), (6, .int s.1), (7, .long s.2.1), (9, .int s.2.2.1)] [] (stat s.2.2.2)) (fun s hw => by
    obtain ⟨v6, v7, v9, M⟩ := s
    try dsimp only [w_X12_fit_l106F] at hw
    try dsimp only
    refine x_iload C dX12_fit_106 rfl ?_
    refine x_aload_n C dX12_fit_108 rfl rfl ?_
    refine x_iconst (v := (4 : Int32)) C dX12_fit_109 (by decide) ?_
    refine n_callVI s135 rfl C (ok_X12_many  hw) mv_X12_66 rfl rfl ⟨Nat.le_of_ble_eq_true rfl, Nat.le_of_ble_eq_true rfl⟩ (Nat.le_of_ble_eq_true rfl) dX12_fit_110 (fun r4 M3 hw => ?_)
    refine x_icmp_ge (tgt := 231) C dX12_fit_113 (by decide) (fun h5 => ?_) (fun h5 => ?_)
    · replace hw := hw.1 h5
      refine x_iload C dX12_fit_231 rfl ?_
      refine x_i2l C dX12_fit_233 ?_
      exact n_lreturn C r dX12_fit_234 hw
    · replace hw := hw.2 h5
      refine x_aload_n C dX12_fit_116 rfl rfl ?_
      refine x_iload C dX12_fit_117 rfl ?_
      refine x_iload_n C dX12_fit_119 rfl rfl ?_
      refine n_callVI s135 rfl C (ok_X12_isOf  hw) mv_X12_207 rfl rfl ⟨Nat.le_of_ble_eq_true rfl, Nat.le_of_ble_eq_true rfl⟩ (Nat.le_of_ble_eq_true rfl) dX12_fit_120 (fun r7 M6 hw => ?_)
      refine x_if_eq (tgt := 225) C dX12_fit_123 (by decide) (fun h8 => ?_) (fun h8 => ?_)
      · replace hw := hw.1 h8
        exact x_sub [0, 1, 2, 3, 4, 6, 7, 9] rfl (ok_X12_fit_b225 C r (fun _ _ _ _ h => h) hw)
      · replace hw := hw.2 h8
        refine x_aload_n C dX12_fit_126 rfl rfl ?_
        refine n_getS (dd := 1) C fl_X12_7 s135 (fun _ _ => rfl) rfl dX12_fit_127 ?_
        refine x_sipush (v := (1346 : Int32)) C dX12_fit_130 (by decide) ?_
        refine x_bipush (v := (14 : Int32)) C dX12_fit_133 (by decide) ?_
        refine x_iload C dX12_fit_135 rfl ?_
        refine x_imul C dX12_fit_137 ?_
        refine x_iadd C dX12_fit_138 ?_
        refine x_bipush (v := (13 : Int32)) C dX12_fit_139 (by decide) ?_
        refine x_iadd C dX12_fit_141 ?_
        obtain ⟨h9, hw⟩ := hw
        refine a_iald C s136 ln136 h9 dX12_fit_142 ?_
        refine x_if_ne (tgt := 225) C dX12_fit_143 (by decide) (fun h10 => ?_) (fun h10 => ?_)
        · replace hw := hw.1 h10
          exact x_sub [0, 1, 2, 3, 4, 6, 7, 9] rfl (ok_X12_fit_b225 C r (fun _ _ _ _ h => h) hw)
        · replace hw := hw.2 h10
          refine x_aload_n C dX12_fit_146 rfl rfl ?_
          refine n_getS (dd := 1) C fl_X12_7 s135 (fun _ _ => rfl) rfl dX12_fit_147 ?_
          refine x_sipush (v := (1346 : Int32)) C dX12_fit_150 (by decide) ?_
          refine x_bipush (v := (14 : Int32)) C dX12_fit_153 (by decide) ?_
          refine x_iload C dX12_fit_155 rfl ?_
          refine x_imul C dX12_fit_157 ?_
          refine x_iadd C dX12_fit_158 ?_
          refine x_iconst (v := (5 : Int32)) C dX12_fit_159 (by decide) ?_
          refine x_iadd C dX12_fit_160 ?_
          obtain ⟨h11, hw⟩ := hw
          refine a_iald C s136 ln136 h11 dX12_fit_161 ?_
          refine x_i2l C dX12_fit_162 ?_
          refine x_aload_n C dX12_fit_163 rfl rfl ?_
          refine x_iload C dX12_fit_164 rfl ?_
          refine x_iload_n C dX12_fit_166 rfl rfl ?_
          refine x_iload_n C dX12_fit_167 rfl rfl ?_
          refine x_iload C dX12_fit_168 rfl ?_
          refine x_aload_n C dX12_fit_170 rfl rfl ?_
          refine n_getI C fl_X12_224 s135 (fun _ _ => rfl) dX12_fit_171 ?_
          refine x_aload_n C dX12_fit_174 rfl rfl ?_
          refine n_getI C fl_X12_227 s135 (fun _ _ => rfl) dX12_fit_175 ?_
          refine x_aload_n C dX12_fit_178 rfl rfl ?_
          refine n_getI C fl_X12_230 s135 (fun _ _ => rfl) dX12_fit_179 ?_
          refine n_callVJ s135 rfl C (ok_X12_made  hw) mv_X12_216 rfl rfl ⟨Nat.le_of_ble_eq_true rfl, Nat.le_of_ble_eq_true rfl⟩ (Nat.le_of_ble_eq_true rfl) dX12_fit_182 (fun r13 M12 hw => ?_)
          refine x_lsub C dX12_fit_185 ?_
          refine n_callSJ C (ok_X12_size  hw) ms_X12_220 rfl rfl ⟨Nat.le_of_ble_eq_true rfl, Nat.le_of_ble_eq_true rfl⟩ (Nat.le_of_ble_eq_true rfl) dX12_fit_186 (fun r15 M14 hw => ?_)
          refine x_lstore C dX12_fit_189 (Nat.le_of_ble_eq_true rfl) ?_
          refine x_lload C dX12_fit_191 rfl ?_
          refine x_lload C dX12_fit_193 rfl ?_
          refine x_lc_le (tgt := 204) C dX12_fit_195 dX12_fit_196 (by decide) (fun h16 => ?_) (fun h16 => ?_)
          · replace hw := hw.1 h16
            refine x_iload C dX12_fit_204 rfl ?_
            exact x_sub [0, 1, 2, 3, 4, 7, 9, 10] rfl (ok_X12_fit_b206 C r (fun _ _ _ _ h => h) hw)
          · replace hw := hw.2 h16
            refine x_iload C dX12_fit_199 rfl ?_
            refine x_goto (tgt := 206) C dX12_fit_201 (by decide) ?_
            exact x_sub [0, 1, 2, 3, 4, 7, 9, 10] rfl (ok_X12_fit_b206 C r (fun _ _ _ _ h => h) hw))
def w_X12_fit (v1 : Int32) (v2 : Int32) (v3 : Int32) (v4 : Int32) (v5 : Int32) (M : Mem) (q : Int64 → Mem → Prop) : Prop := w_X12_isMachine v1 M (fun (r18 : Int32) (M17 : Mem) => ((r18 = 0 → q (-2 : Int64) M17) ∧ (¬ r18 = 0 → w_X12_areCounters v2 v3 v4 M17 (fun (r21 : Int32) (M20 : Mem) => ((r21 = 0 → q (-2 : Int64) M20) ∧ (¬ r21 = 0 → w_X12_in (v5).toInt64 (0 : Int64) (4 : Int64) M20 (fun (r24 : Int32) (M23 : Mem) => ((¬ r24 = 0 → w_X12_fitAll v1 v2 v3 v4 M23 (fun (M26 : Mem) => (((4 : Int32) ≤ v5 → w_X12_fit_l106 v1 v2 v3 v4 q ((-1 : Int32), (-1 : Int64), (0 : Int32), M26)) ∧ (¬ (4 : Int32) ≤ v5 → ((¬ v5 = 0 → ((¬ v5 = (1 : Int32) → ((¬ v5 = (2 : Int32) → q (M26.2.1 135 21) M26) ∧ (v5 = (2 : Int32) → q ((M26.1 135 20)).toInt64 M26))) ∧ (v5 = (1 : Int32) → q ((M26.1 135 19)).toInt64 M26))) ∧ (v5 = 0 → q ((M26.1 135 18)).toInt64 M26)))))) ∧ (r24 = 0 → q (-2 : Int64) M23)))))))))
set_option maxRecDepth 100000 in
set_option maxHeartbeats 4000000 in
theorem ok_X12_fit {g : Gl} {l : Launch} {v1 : Int32} {v2 : Int32} {v3 : Int32} {v4 : Int32} {v5 : Int32} {M : Mem} {q : Int64 → Mem → Prop} (hw : w_X12_fit v1 v2 v3 v4 v5 M q) : CtJ g l yX12_fit cX12_fit 12 (some .long) 4 67 [.ref (g.2.2.2 + 135), .int v1, .int v2, .int v3, .int v4, .int v5] M q := by
  refine n_introJ (by decide +kernel) (Nat.le_of_ble_eq_true rfl) (fun c C r => ?_)
  have C : Cx c cX12_fit 12 RX12 g l (Rm 4 67) := C
  refine x_sub [0, 1, 2, 3, 4, 5] (lv' := [(0, .ref (g.2.2.2 + 135)), (1, .int v1), (2, .int v2), (3, .int v3), (4, .int v4), (5, .int v5)]) rfl ?_
  unfold w_X12_fit at hw
  refine x_iload_n C dX12_fit_0 rfl rfl ?_
  refine n_callSI C (ok_X12_isMachine  hw) ms_X12_100 rfl rfl ⟨Nat.le_of_ble_eq_true rfl, Nat.le_of_ble_eq_true rfl⟩ (Nat.le_of_ble_eq_true rfl) dX12_fit_1 (fun r18 M17 hw => ?_)
  refine x_if_eq (tgt := 30) C dX12_fit_4 (by decide) (fun h19 => ?_) (fun h19 => ?_)
  · replace hw := hw.1 h19
    refine x_ldc2_w (v := (-2 : Int64)) C dX12_fit_30 kc_X12_236 ?_
    exact n_lreturn C r dX12_fit_33 hw
  · replace hw := hw.2 h19
    refine x_iload_n C dX12_fit_7 rfl rfl ?_
    refine x_iload_n C dX12_fit_8 rfl rfl ?_
    refine x_iload C dX12_fit_9 rfl ?_
    refine n_callSI C (ok_X12_areCounters  hw) ms_X12_233 rfl rfl ⟨Nat.le_of_ble_eq_true rfl, Nat.le_of_ble_eq_true rfl⟩ (Nat.le_of_ble_eq_true rfl) dX12_fit_11 (fun r21 M20 hw => ?_)
    refine x_if_eq (tgt := 30) C dX12_fit_14 (by decide) (fun h22 => ?_) (fun h22 => ?_)
    · replace hw := hw.1 h22
      refine x_ldc2_w (v := (-2 : Int64)) C dX12_fit_30 kc_X12_236 ?_
      exact n_lreturn C r dX12_fit_33 hw
    · replace hw := hw.2 h22
      refine x_iload C dX12_fit_17 rfl ?_
      refine x_i2l C dX12_fit_19 ?_
      refine x_lconst (v := (0 : Int64)) C dX12_fit_20 (by decide) ?_
      refine x_ldc2_w (v := (4 : Int64)) C dX12_fit_21 kc_X12_200 ?_
      refine n_callSI C (ok_X12_in  hw) ms_X12_70 rfl rfl ⟨Nat.le_of_ble_eq_true rfl, Nat.le_of_ble_eq_true rfl⟩ (Nat.le_of_ble_eq_true rfl) dX12_fit_24 (fun r24 M23 hw => ?_)
      refine x_if_ne (tgt := 34) C dX12_fit_27 (by decide) (fun h25 => ?_) (fun h25 => ?_)
      · replace hw := hw.1 h25
        refine x_aload_n C dX12_fit_34 rfl rfl ?_
        refine x_iload_n C dX12_fit_35 rfl rfl ?_
        refine x_iload_n C dX12_fit_36 rfl rfl ?_
        refine x_iload_n C dX12_fit_37 rfl rfl ?_
        refine x_iload C dX12_fit_38 rfl ?_
        refine n_callVV s135 rfl C (ok_X12_fitAll  hw) mv_X12_238 rfl rfl ⟨Nat.le_of_ble_eq_true rfl, Nat.le_of_ble_eq_true rfl⟩ (Nat.le_of_ble_eq_true rfl) dX12_fit_40 (fun M26 hw => ?_)
        refine x_iload C dX12_fit_43 rfl ?_
        refine x_iconst (v := (4 : Int32)) C dX12_fit_45 (by decide) ?_
        refine x_icmp_ge (tgt := 95) C dX12_fit_46 (by decide) (fun h28 => ?_) (fun h28 => ?_)
        · replace hw := hw.1 h28
          refine x_iconst (v := (-1 : Int32)) C dX12_fit_95 (by decide) ?_
          refine x_istore C dX12_fit_96 (Nat.le_of_ble_eq_true rfl) ?_
          refine x_ldc2_w (v := (-1 : Int64)) C dX12_fit_98 kc_X12_210 ?_
          refine x_lstore C dX12_fit_101 (Nat.le_of_ble_eq_true rfl) ?_
          refine x_iconst (v := (0 : Int32)) C dX12_fit_103 (by decide) ?_
          refine x_istore C dX12_fit_104 (Nat.le_of_ble_eq_true rfl) ?_
          exact x_sub [0, 1, 2, 3, 4, 6, 7, 9] rfl (ok_X12_fit_l106 C r  hw)
        · replace hw := hw.2 h28
          refine x_iload C dX12_fit_49 rfl ?_
          refine x_if_ne (tgt := 62) C dX12_fit_51 (by decide) (fun h29 => ?_) (fun h29 => ?_)
          · replace hw := hw.1 h29
            refine x_iload C dX12_fit_62 rfl ?_
            refine x_iconst (v := (1 : Int32)) C dX12_fit_64 (by decide) ?_
            refine x_icmp_ne (tgt := 76) C dX12_fit_65 (by decide) (fun h30 => ?_) (fun h30 => ?_)
            · replace hw := hw.1 h30
              refine x_iload C dX12_fit_76 rfl ?_
              refine x_iconst (v := (2 : Int32)) C dX12_fit_78 (by decide) ?_
              refine x_icmp_ne (tgt := 90) C dX12_fit_79 (by decide) (fun h31 => ?_) (fun h31 => ?_)
              · replace hw := hw.1 h31
                refine x_aload_n C dX12_fit_90 rfl rfl ?_
                refine n_getJ C fl_X12_212 s135 (fun _ _ => rfl) dX12_fit_91 ?_
                exact n_lreturn C r dX12_fit_94 hw
              · replace hw := hw.2 h31
                refine x_aload_n C dX12_fit_82 rfl rfl ?_
                refine n_getI C fl_X12_230 s135 (fun _ _ => rfl) dX12_fit_83 ?_
                refine x_i2l C dX12_fit_86 ?_
                refine x_goto (tgt := 94) C dX12_fit_87 (by decide) ?_
                exact n_lreturn C r dX12_fit_94 hw
            · replace hw := hw.2 h30
              refine x_aload_n C dX12_fit_68 rfl rfl ?_
              refine n_getI C fl_X12_227 s135 (fun _ _ => rfl) dX12_fit_69 ?_
              refine x_i2l C dX12_fit_72 ?_
              refine x_goto (tgt := 94) C dX12_fit_73 (by decide) ?_
              exact n_lreturn C r dX12_fit_94 hw
          · replace hw := hw.2 h29
            refine x_aload_n C dX12_fit_54 rfl rfl ?_
            refine n_getI C fl_X12_224 s135 (fun _ _ => rfl) dX12_fit_55 ?_
            refine x_i2l C dX12_fit_58 ?_
            refine x_goto (tgt := 94) C dX12_fit_59 (by decide) ?_
            exact n_lreturn C r dX12_fit_94 hw
      · replace hw := hw.2 h25
        refine x_ldc2_w (v := (-2 : Int64)) C dX12_fit_30 kc_X12_236 ?_
        exact n_lreturn C r dX12_fit_33 hw

def w_X12_foretell_b283 (v2 : Int32) (v4 : Int32) (v5 : Int32) (v6 : Int32) (v7 : Int32) (v8 : Int64) (v10 : Int32) (v11 : Int64) (v13 : Int32) (M : Mem) (q : Int64 → Mem → Prop) (P156 : Int32 × Int64 × Int32 × Mem → Prop) : Prop := ∀ x1 : Int32, x1 = v13 + (1 : Int32) → P156 (v10, v11, x1, M)
set_option maxRecDepth 100000 in
set_option maxHeartbeats 4000000 in
theorem ok_X12_foretell_b283 {c : CtxT} {g : Gl} {l : Launch} {v2 : Int32} {v4 : Int32} {v5 : Int32} {v6 : Int32} {v7 : Int32} {v8 : Int64} {v10 : Int32} {v11 : Int64} {v13 : Int32} {q : Int64 → Mem → Prop} {P156 : Int32 × Int64 × Int32 × Mem → Prop} {M : Mem} (C : Cx c cX12_foretell 16 RX12 g l (Rm 5 105)) (r : Rt c (some .long) (pJ q) 0 0) (hP156 : ∀ (v10 : Int32) (v11 : Int64) (v13 : Int32) (M : Mem), P156 (v10, v11, v13, M) → X c S0 156 [(0, .ref (g.2.2.2 + 135)), (2, .int v2), (4, .int v4), (5, .int v5), (6, .int v6), (7, .int v7), (8, .long v8), (10, .int v10), (11, .long v11), (13, .int v13)] [] (stat M)) (hw : w_X12_foretell_b283 v2 v4 v5 v6 v7 v8 v10 v11 v13 M q P156) : X c S0 283 [(0, .ref (g.2.2.2 + 135)), (2, .int v2), (4, .int v4), (5, .int v5), (6, .int v6), (7, .int v7), (8, .long v8), (10, .int v10), (11, .long v11), (13, .int v13)] [] (stat M) := by
  unfold w_X12_foretell_b283 at hw
  obtain ⟨x1, ex1⟩ : ∃ z : Int32, z = v13 + (1 : Int32) := ⟨_, rfl⟩
  replace hw := hw x1 ex1
  refine x_iinc (v := x1) C dX12_foretell_283 rfl ex1.symm (Nat.le_of_ble_eq_true rfl) ?_
  refine x_goto (tgt := 156) C dX12_foretell_286 (by decide) ?_
  exact x_sub [0, 2, 4, 5, 6, 7, 8, 10, 11, 13] rfl (hP156 _ _ _ _ hw)
def w_X12_foretell_b278 (v2 : Int32) (v4 : Int32) (v5 : Int32) (v6 : Int32) (v7 : Int32) (v8 : Int64) (v13 : Int32) (t0 : Int64) (M : Mem) (q : Int64 → Mem → Prop) (P156 : Int32 × Int64 × Int32 × Mem → Prop) : Prop := w_X12_foretell_b283 v2 v4 v5 v6 v7 v8 (1 : Int32) t0 v13 M q P156
set_option maxRecDepth 100000 in
set_option maxHeartbeats 4000000 in
theorem ok_X12_foretell_b278 {c : CtxT} {g : Gl} {l : Launch} {v2 : Int32} {v4 : Int32} {v5 : Int32} {v6 : Int32} {v7 : Int32} {v8 : Int64} {v13 : Int32} {t0 : Int64} {q : Int64 → Mem → Prop} {P156 : Int32 × Int64 × Int32 × Mem → Prop} {M : Mem} (C : Cx c cX12_foretell 16 RX12 g l (Rm 5 105)) (r : Rt c (some .long) (pJ q) 0 0) (hP156 : ∀ (v10 : Int32) (v11 : Int64) (v13 : Int32) (M : Mem), P156 (v10, v11, v13, M) → X c S0 156 [(0, .ref (g.2.2.2 + 135)), (2, .int v2), (4, .int v4), (5, .int v5), (6, .int v6), (7, .int v7), (8, .long v8), (10, .int v10), (11, .long v11), (13, .int v13)] [] (stat M)) (hw : w_X12_foretell_b278 v2 v4 v5 v6 v7 v8 v13 t0 M q P156) : X c S0 278 [(0, .ref (g.2.2.2 + 135)), (2, .int v2), (4, .int v4), (5, .int v5), (6, .int v6), (7, .int v7), (8, .long v8), (13, .int v13)] [.long t0] (stat M) := by
  unfold w_X12_foretell_b278 at hw
  refine x_lstore C dX12_foretell_278 (Nat.le_of_ble_eq_true rfl) ?_
  refine x_iconst (v := (1 : Int32)) C dX12_foretell_280 (by decide) ?_
  refine x_istore C dX12_foretell_281 (Nat.le_of_ble_eq_true rfl) ?_
  exact x_sub [0, 2, 4, 5, 6, 7, 8, 10, 11, 13] rfl (ok_X12_foretell_b283 C r hP156 hw)
def w_X12_foretell_b271 (v2 : Int32) (v4 : Int32) (v5 : Int32) (v6 : Int32) (v7 : Int32) (v8 : Int64) (v13 : Int32) (v14 : Int64) (M : Mem) (q : Int64 → Mem → Prop) (P156 : Int32 × Int64 × Int32 × Mem → Prop) : Prop := w_X12_foretell_b278 v2 v4 v5 v6 v7 v8 v13 v14 M q P156
set_option maxRecDepth 100000 in
set_option maxHeartbeats 4000000 in
theorem ok_X12_foretell_b271 {c : CtxT} {g : Gl} {l : Launch} {v2 : Int32} {v4 : Int32} {v5 : Int32} {v6 : Int32} {v7 : Int32} {v8 : Int64} {v13 : Int32} {v14 : Int64} {q : Int64 → Mem → Prop} {P156 : Int32 × Int64 × Int32 × Mem → Prop} {M : Mem} (C : Cx c cX12_foretell 16 RX12 g l (Rm 5 105)) (r : Rt c (some .long) (pJ q) 0 0) (hP156 : ∀ (v10 : Int32) (v11 : Int64) (v13 : Int32) (M : Mem), P156 (v10, v11, v13, M) → X c S0 156 [(0, .ref (g.2.2.2 + 135)), (2, .int v2), (4, .int v4), (5, .int v5), (6, .int v6), (7, .int v7), (8, .long v8), (10, .int v10), (11, .long v11), (13, .int v13)] [] (stat M)) (hw : w_X12_foretell_b271 v2 v4 v5 v6 v7 v8 v13 v14 M q P156) : X c S0 271 [(0, .ref (g.2.2.2 + 135)), (2, .int v2), (4, .int v4), (5, .int v5), (6, .int v6), (7, .int v7), (8, .long v8), (13, .int v13), (14, .long v14)] [] (stat M) := by
  unfold w_X12_foretell_b271 at hw
  refine x_lload C dX12_foretell_271 rfl ?_
  refine x_goto (tgt := 278) C dX12_foretell_273 (by decide) ?_
  exact x_sub [0, 2, 4, 5, 6, 7, 8, 13] rfl (ok_X12_foretell_b278 C r hP156 hw)
def w_X12_foretell_b276 (v2 : Int32) (v4 : Int32) (v5 : Int32) (v6 : Int32) (v7 : Int32) (v8 : Int64) (v11 : Int64) (v13 : Int32) (M : Mem) (q : Int64 → Mem → Prop) (P156 : Int32 × Int64 × Int32 × Mem → Prop) : Prop := w_X12_foretell_b278 v2 v4 v5 v6 v7 v8 v13 v11 M q P156
set_option maxRecDepth 100000 in
set_option maxHeartbeats 4000000 in
theorem ok_X12_foretell_b276 {c : CtxT} {g : Gl} {l : Launch} {v2 : Int32} {v4 : Int32} {v5 : Int32} {v6 : Int32} {v7 : Int32} {v8 : Int64} {v11 : Int64} {v13 : Int32} {q : Int64 → Mem → Prop} {P156 : Int32 × Int64 × Int32 × Mem → Prop} {M : Mem} (C : Cx c cX12_foretell 16 RX12 g l (Rm 5 105)) (r : Rt c (some .long) (pJ q) 0 0) (hP156 : ∀ (v10 : Int32) (v11 : Int64) (v13 : Int32) (M : Mem), P156 (v10, v11, v13, M) → X c S0 156 [(0, .ref (g.2.2.2 + 135)), (2, .int v2), (4, .int v4), (5, .int v5), (6, .int v6), (7, .int v7), (8, .long v8), (10, .int v10), (11, .long v11), (13, .int v13)] [] (stat M)) (hw : w_X12_foretell_b276 v2 v4 v5 v6 v7 v8 v11 v13 M q P156) : X c S0 276 [(0, .ref (g.2.2.2 + 135)), (2, .int v2), (4, .int v4), (5, .int v5), (6, .int v6), (7, .int v7), (8, .long v8), (11, .long v11), (13, .int v13)] [] (stat M) := by
  unfold w_X12_foretell_b276 at hw
  refine x_lload C dX12_foretell_276 rfl ?_
  exact x_sub [0, 2, 4, 5, 6, 7, 8, 13] rfl (ok_X12_foretell_b278 C r hP156 hw)
def w_X12_foretell_l156F (v2 : Int32) (v4 : Int32) (v5 : Int32) (v6 : Int32) (v7 : Int32) (v8 : Int64) (q : Int64 → Mem → Prop) (P156 : Int32 × Int64 × Int32 × Mem → Prop) (s : Int32 × Int64 × Int32 × Mem) : Prop := match s with
  | (v10, v11, v13, M) => w_X12_many (4 : Int32) M (fun (r3 : Int32) (M2 : Mem) => ((r3 ≤ v13 → ((v10 = 0 → q (-1000000000 : Int64) M2) ∧ (¬ v10 = 0 → q (v8 + v11) M2))) ∧ (¬ r3 ≤ v13 → w_X12_isOf v13 v2 M2 (fun (r7 : Int32) (M6 : Mem) => ((r7 = 0 → w_X12_foretell_b283 v2 v4 v5 v6 v7 v8 v10 v11 v13 M6 q P156) ∧ (¬ r7 = 0 → vp_in (((1346 : Int32) + ((14 : Int32) * v13)) + (13 : Int32)) 4230 ∧ ((¬ (M6.1 136 ((((1346 : Int32) + ((14 : Int32) * v13)) + (13 : Int32))).toNatClampNeg) = (1 : Int32) → w_X12_foretell_b283 v2 v4 v5 v6 v7 v8 v10 v11 v13 M6 q P156) ∧ ((M6.1 136 ((((1346 : Int32) + ((14 : Int32) * v13)) + (13 : Int32))).toNatClampNeg) = (1 : Int32) → vp_in (((1346 : Int32) + ((14 : Int32) * v13)) + (5 : Int32)) 4230 ∧ w_X12_made v13 v4 v5 v6 (M6.1 135 18) (M6.1 135 19) (M6.1 135 20) M6 (fun (r13 : Int64) (M12 : Mem) => ∀ x14 : Int64, x14 = (((M6.1 136 ((((1346 : Int32) + ((14 : Int32) * v13)) + (5 : Int32))).toNatClampNeg)).toInt64 - r13) → ((v10 = 0 → w_X12_foretell_b271 v2 v4 v5 v6 v7 v8 v13 x14 M12 q P156) ∧ (¬ v10 = 0 → ((¬ v7 = (1 : Int32) → ((x14 ≤ v11 → w_X12_foretell_b276 v2 v4 v5 v6 v7 v8 v11 v13 M12 q P156) ∧ (¬ x14 ≤ v11 → w_X12_foretell_b271 v2 v4 v5 v6 v7 v8 v13 x14 M12 q P156))) ∧ (v7 = (1 : Int32) → ((v11 ≤ x14 → w_X12_foretell_b276 v2 v4 v5 v6 v7 v8 v11 v13 M12 q P156) ∧ (¬ v11 ≤ x14 → w_X12_foretell_b271 v2 v4 v5 v6 v7 v8 v13 x14 M12 q P156)))))))))))))))
def w_X12_foretell_l156 (v2 : Int32) (v4 : Int32) (v5 : Int32) (v6 : Int32) (v7 : Int32) (v8 : Int64) (q : Int64 → Mem → Prop) (s : Int32 × Int64 × Int32 × Mem) : Prop := lfp (w_X12_foretell_l156F v2 v4 v5 v6 v7 v8 q ) s
set_option maxRecDepth 100000 in
set_option maxHeartbeats 4000000 in
theorem ok_X12_foretell_l156 {c : CtxT} {g : Gl} {l : Launch} {v2 : Int32} {v4 : Int32} {v5 : Int32} {v6 : Int32} {v7 : Int32} {v8 : Int64} {q : Int64 → Mem → Prop} {s : Int32 × Int64 × Int32 × Mem} (C : Cx c cX12_foretell 16 RX12 g l (Rm 5 105)) (r : Rt c (some .long) (pJ q) 0 0) (hw : w_X12_foretell_l156 v2 v4 v5 v6 v7 v8 q s) : X c S0 156 [(0, .ref (g.2.2.2 + 135)), (2, .int v2), (4, .int v4), (5, .int v5), (6, .int v6), (7, .int v7), (8, .long v8), (10, .int s.1), (11, .long s.2.1), (13, .int s.2.2.1)] [] (stat s.2.2.2) := hw (fun s => X c S0 156 [(0, .ref (g.2.2.2 + 135)), (2, .int v2), (4, .int v4), (5, .int v5), (6, .int v6), (7, .int v7), (8, .long v8), (10, .int s.1), (11, .long s.2.1), (13, .int s.2.2.1)] [] (stat s.2.2.2)) (fun s hw => by
    obtain ⟨v10, v11, v13, M⟩ := s
    try dsimp only [w_X12_foretell_l156F] at hw
    try dsimp only
    refine x_iload C dX12_foretell_156 rfl ?_
    refine x_aload_n C dX12_foretell_158 rfl rfl ?_
    refine x_iconst (v := (4 : Int32)) C dX12_foretell_159 (by decide) ?_
    refine n_callVI s135 rfl C (ok_X12_many  hw) mv_X12_66 rfl rfl ⟨Nat.le_of_ble_eq_true rfl, Nat.le_of_ble_eq_true rfl⟩ (Nat.le_of_ble_eq_true rfl) dX12_foretell_160 (fun r3 M2 hw => ?_)
    refine x_icmp_ge (tgt := 289) C dX12_foretell_163 (by decide) (fun h4 => ?_) (fun h4 => ?_)
    · replace hw := hw.1 h4
      refine x_iload C dX12_foretell_289 rfl ?_
      refine x_if_eq (tgt := 302) C dX12_foretell_291 (by decide) (fun h5 => ?_) (fun h5 => ?_)
      · replace hw := hw.1 h5
        refine x_ldc2_w (v := (-1000000000 : Int64)) C dX12_foretell_302 kc_X12_243 ?_
        exact n_lreturn C r dX12_foretell_305 hw
      · replace hw := hw.2 h5
        refine x_lload C dX12_foretell_294 rfl ?_
        refine x_lload C dX12_foretell_296 rfl ?_
        refine x_ladd C dX12_foretell_298 ?_
        refine x_goto (tgt := 305) C dX12_foretell_299 (by decide) ?_
        exact n_lreturn C r dX12_foretell_305 hw
    · replace hw := hw.2 h4
      refine x_aload_n C dX12_foretell_166 rfl rfl ?_
      refine x_iload C dX12_foretell_167 rfl ?_
      refine x_iload_n C dX12_foretell_169 rfl rfl ?_
      refine n_callVI s135 rfl C (ok_X12_isOf  hw) mv_X12_207 rfl rfl ⟨Nat.le_of_ble_eq_true rfl, Nat.le_of_ble_eq_true rfl⟩ (Nat.le_of_ble_eq_true rfl) dX12_foretell_170 (fun r7 M6 hw => ?_)
      refine x_if_eq (tgt := 283) C dX12_foretell_173 (by decide) (fun h8 => ?_) (fun h8 => ?_)
      · replace hw := hw.1 h8
        exact x_sub [0, 2, 4, 5, 6, 7, 8, 10, 11, 13] rfl (ok_X12_foretell_b283 C r (fun _ _ _ _ h => h) hw)
      · replace hw := hw.2 h8
        refine x_aload_n C dX12_foretell_176 rfl rfl ?_
        refine n_getS (dd := 1) C fl_X12_7 s135 (fun _ _ => rfl) rfl dX12_foretell_177 ?_
        refine x_sipush (v := (1346 : Int32)) C dX12_foretell_180 (by decide) ?_
        refine x_bipush (v := (14 : Int32)) C dX12_foretell_183 (by decide) ?_
        refine x_iload C dX12_foretell_185 rfl ?_
        refine x_imul C dX12_foretell_187 ?_
        refine x_iadd C dX12_foretell_188 ?_
        refine x_bipush (v := (13 : Int32)) C dX12_foretell_189 (by decide) ?_
        refine x_iadd C dX12_foretell_191 ?_
        obtain ⟨h9, hw⟩ := hw
        refine a_iald C s136 ln136 h9 dX12_foretell_192 ?_
        refine x_iconst (v := (1 : Int32)) C dX12_foretell_193 (by decide) ?_
        refine x_icmp_ne (tgt := 283) C dX12_foretell_194 (by decide) (fun h10 => ?_) (fun h10 => ?_)
        · replace hw := hw.1 h10
          exact x_sub [0, 2, 4, 5, 6, 7, 8, 10, 11, 13] rfl (ok_X12_foretell_b283 C r (fun _ _ _ _ h => h) hw)
        · replace hw := hw.2 h10
          refine x_aload_n C dX12_foretell_197 rfl rfl ?_
          refine n_getS (dd := 1) C fl_X12_7 s135 (fun _ _ => rfl) rfl dX12_foretell_198 ?_
          refine x_sipush (v := (1346 : Int32)) C dX12_foretell_201 (by decide) ?_
          refine x_bipush (v := (14 : Int32)) C dX12_foretell_204 (by decide) ?_
          refine x_iload C dX12_foretell_206 rfl ?_
          refine x_imul C dX12_foretell_208 ?_
          refine x_iadd C dX12_foretell_209 ?_
          refine x_iconst (v := (5 : Int32)) C dX12_foretell_210 (by decide) ?_
          refine x_iadd C dX12_foretell_211 ?_
          obtain ⟨h11, hw⟩ := hw
          refine a_iald C s136 ln136 h11 dX12_foretell_212 ?_
          refine x_i2l C dX12_foretell_213 ?_
          refine x_aload_n C dX12_foretell_214 rfl rfl ?_
          refine x_iload C dX12_foretell_215 rfl ?_
          refine x_iload C dX12_foretell_217 rfl ?_
          refine x_iload C dX12_foretell_219 rfl ?_
          refine x_iload C dX12_foretell_221 rfl ?_
          refine x_aload_n C dX12_foretell_223 rfl rfl ?_
          refine n_getI C fl_X12_224 s135 (fun _ _ => rfl) dX12_foretell_224 ?_
          refine x_aload_n C dX12_foretell_227 rfl rfl ?_
          refine n_getI C fl_X12_227 s135 (fun _ _ => rfl) dX12_foretell_228 ?_
          refine x_aload_n C dX12_foretell_231 rfl rfl ?_
          refine n_getI C fl_X12_230 s135 (fun _ _ => rfl) dX12_foretell_232 ?_
          refine n_callVJ s135 rfl C (ok_X12_made  hw) mv_X12_216 rfl rfl ⟨Nat.le_of_ble_eq_true rfl, Nat.le_of_ble_eq_true rfl⟩ (Nat.le_of_ble_eq_true rfl) dX12_foretell_235 (fun r13 M12 hw => ?_)
          refine x_lsub C dX12_foretell_238 ?_
          obtain ⟨x14, ex14⟩ : ∃ z : Int64, z = (((M6.1 136 ((((1346 : Int32) + ((14 : Int32) * v13)) + (5 : Int32))).toNatClampNeg)).toInt64 - r13) := ⟨_, rfl⟩
          replace hw := hw x14 ex14
          refine x_topj ex14 ?_
          refine x_lstore C dX12_foretell_239 (Nat.le_of_ble_eq_true rfl) ?_
          refine x_iload C dX12_foretell_241 rfl ?_
          refine x_if_eq (tgt := 271) C dX12_foretell_243 (by decide) (fun h15 => ?_) (fun h15 => ?_)
          · replace hw := hw.1 h15
            exact x_sub [0, 2, 4, 5, 6, 7, 8, 13, 14] rfl (ok_X12_foretell_b271 C r (fun _ _ _ _ h => h) hw)
          · replace hw := hw.2 h15
            refine x_iload C dX12_foretell_246 rfl ?_
            refine x_iconst (v := (1 : Int32)) C dX12_foretell_248 (by decide) ?_
            refine x_icmp_ne (tgt := 263) C dX12_foretell_249 (by decide) (fun h16 => ?_) (fun h16 => ?_)
            · replace hw := hw.1 h16
              refine x_lload C dX12_foretell_263 rfl ?_
              refine x_lload C dX12_foretell_265 rfl ?_
              refine x_lc_le (tgt := 276) C dX12_foretell_267 dX12_foretell_268 (by decide) (fun h17 => ?_) (fun h17 => ?_)
              · replace hw := hw.1 h17
                exact x_sub [0, 2, 4, 5, 6, 7, 8, 11, 13] rfl (ok_X12_foretell_b276 C r (fun _ _ _ _ h => h) hw)
              · replace hw := hw.2 h17
                exact x_sub [0, 2, 4, 5, 6, 7, 8, 13, 14] rfl (ok_X12_foretell_b271 C r (fun _ _ _ _ h => h) hw)
            · replace hw := hw.2 h16
              refine x_lload C dX12_foretell_252 rfl ?_
              refine x_lload C dX12_foretell_254 rfl ?_
              refine x_lc_ge (tgt := 276) C dX12_foretell_256 dX12_foretell_257 (by decide) (fun h18 => ?_) (fun h18 => ?_)
              · replace hw := hw.1 h18
                exact x_sub [0, 2, 4, 5, 6, 7, 8, 11, 13] rfl (ok_X12_foretell_b276 C r (fun _ _ _ _ h => h) hw)
              · replace hw := hw.2 h18
                refine x_goto (tgt := 271) C dX12_foretell_260 (by decide) ?_
                exact x_sub [0, 2, 4, 5, 6, 7, 8, 13, 14] rfl (ok_X12_foretell_b271 C r (fun _ _ _ _ h => h) hw))
def w_X12_foretell (v1 : Int32) (v2 : Int32) (v3 : Int32) (v4 : Int32) (v5 : Int32) (v6 : Int32) (v7 : Int32) (M : Mem) (q : Int64 → Mem → Prop) : Prop := w_X12_isThere v1 v2 v3 M (fun (r20 : Int32) (M19 : Mem) => ((r20 = 0 → q (-2000000000 : Int64) M19) ∧ (¬ r20 = 0 → w_X12_areCounters v4 v5 v6 M19 (fun (r23 : Int32) (M22 : Mem) => ((r23 = 0 → q (-2000000000 : Int64) M22) ∧ (¬ r23 = 0 → w_X12_in (v7).toInt64 (0 : Int64) (2 : Int64) M22 (fun (r26 : Int32) (M25 : Mem) => ((¬ r26 = 0 → vp_in ((1026 : Int32) + ((2 : Int32) * v1)) 4230 ∧ vp_in (((1026 : Int32) + ((2 : Int32) * v1)) + (1 : Int32)) 4230 ∧ w_X12_goesPlain (M25.1 136 (((1026 : Int32) + ((2 : Int32) * v1))).toNatClampNeg) (M25.1 136 ((((1026 : Int32) + ((2 : Int32) * v1)) + (1 : Int32))).toNatClampNeg) v2 v3 M25 (fun (M30 : Mem) => (((M30.1 135 10) = 0 → w_X12_fitAll v2 v4 v5 v6 M30 (fun (M33 : Mem) => vp_in v4 6 ∧ vp_in v5 6 ∧ vp_in v6 6 ∧ ∀ x38 : Int64, x38 = (((((M33.1 135 18)).toInt64 * ((M33.1 144 (v4).toNatClampNeg)).toInt64) + (((M33.1 135 19)).toInt64 * ((M33.1 144 (v5).toNatClampNeg)).toInt64)) + (((M33.1 135 20)).toInt64 * ((M33.1 144 (v6).toNatClampNeg)).toInt64)) → ((¬ v7 = 0 → w_X12_foretell_l156 v2 v4 v5 v6 v7 x38 q ((0 : Int32), (0 : Int64), (0 : Int32), M33)) ∧ (v7 = 0 → q x38 M33)))) ∧ (¬ (M30.1 135 10) = 0 → q (-1000000000 : Int64) M30)))) ∧ (r26 = 0 → q (-2000000000 : Int64) M25)))))))))
set_option maxRecDepth 100000 in
set_option maxHeartbeats 4000000 in
theorem ok_X12_foretell {g : Gl} {l : Launch} {v1 : Int32} {v2 : Int32} {v3 : Int32} {v4 : Int32} {v5 : Int32} {v6 : Int32} {v7 : Int32} {M : Mem} {q : Int64 → Mem → Prop} (hw : w_X12_foretell v1 v2 v3 v4 v5 v6 v7 M q) : CtJ g l yX12_foretell cX12_foretell 16 (some .long) 5 105 [.ref (g.2.2.2 + 135), .int v1, .int v2, .int v3, .int v4, .int v5, .int v6, .int v7] M q := by
  refine n_introJ (by decide +kernel) (Nat.le_of_ble_eq_true rfl) (fun c C r => ?_)
  have C : Cx c cX12_foretell 16 RX12 g l (Rm 5 105) := C
  refine x_sub [0, 1, 2, 3, 4, 5, 6, 7] (lv' := [(0, .ref (g.2.2.2 + 135)), (1, .int v1), (2, .int v2), (3, .int v3), (4, .int v4), (5, .int v5), (6, .int v6), (7, .int v7)]) rfl ?_
  unfold w_X12_foretell at hw
  refine x_aload_n C dX12_foretell_0 rfl rfl ?_
  refine x_iload_n C dX12_foretell_1 rfl rfl ?_
  refine x_iload_n C dX12_foretell_2 rfl rfl ?_
  refine x_iload_n C dX12_foretell_3 rfl rfl ?_
  refine n_callVI s135 rfl C (ok_X12_isThere  hw) mv_X12_152 rfl rfl ⟨Nat.le_of_ble_eq_true rfl, Nat.le_of_ble_eq_true rfl⟩ (Nat.le_of_ble_eq_true rfl) dX12_foretell_4 (fun r20 M19 hw => ?_)
  refine x_if_eq (tgt := 35) C dX12_foretell_7 (by decide) (fun h21 => ?_) (fun h21 => ?_)
  · replace hw := hw.1 h21
    refine x_ldc2_w (v := (-2000000000 : Int64)) C dX12_foretell_35 kc_X12_241 ?_
    exact n_lreturn C r dX12_foretell_38 hw
  · replace hw := hw.2 h21
    refine x_iload C dX12_foretell_10 rfl ?_
    refine x_iload C dX12_foretell_12 rfl ?_
    refine x_iload C dX12_foretell_14 rfl ?_
    refine n_callSI C (ok_X12_areCounters  hw) ms_X12_233 rfl rfl ⟨Nat.le_of_ble_eq_true rfl, Nat.le_of_ble_eq_true rfl⟩ (Nat.le_of_ble_eq_true rfl) dX12_foretell_16 (fun r23 M22 hw => ?_)
    refine x_if_eq (tgt := 35) C dX12_foretell_19 (by decide) (fun h24 => ?_) (fun h24 => ?_)
    · replace hw := hw.1 h24
      refine x_ldc2_w (v := (-2000000000 : Int64)) C dX12_foretell_35 kc_X12_241 ?_
      exact n_lreturn C r dX12_foretell_38 hw
    · replace hw := hw.2 h24
      refine x_iload C dX12_foretell_22 rfl ?_
      refine x_i2l C dX12_foretell_24 ?_
      refine x_lconst (v := (0 : Int64)) C dX12_foretell_25 (by decide) ?_
      refine x_ldc2_w (v := (2 : Int64)) C dX12_foretell_26 kc_X12_190 ?_
      refine n_callSI C (ok_X12_in  hw) ms_X12_70 rfl rfl ⟨Nat.le_of_ble_eq_true rfl, Nat.le_of_ble_eq_true rfl⟩ (Nat.le_of_ble_eq_true rfl) dX12_foretell_29 (fun r26 M25 hw => ?_)
      refine x_if_ne (tgt := 39) C dX12_foretell_32 (by decide) (fun h27 => ?_) (fun h27 => ?_)
      · replace hw := hw.1 h27
        refine x_aload_n C dX12_foretell_39 rfl rfl ?_
        refine x_aload_n C dX12_foretell_40 rfl rfl ?_
        refine n_getS (dd := 1) C fl_X12_7 s135 (fun _ _ => rfl) rfl dX12_foretell_41 ?_
        refine x_sipush (v := (1026 : Int32)) C dX12_foretell_44 (by decide) ?_
        refine x_iconst (v := (2 : Int32)) C dX12_foretell_47 (by decide) ?_
        refine x_iload_n C dX12_foretell_48 rfl rfl ?_
        refine x_imul C dX12_foretell_49 ?_
        refine x_iadd C dX12_foretell_50 ?_
        obtain ⟨h28, hw⟩ := hw
        refine a_iald C s136 ln136 h28 dX12_foretell_51 ?_
        refine x_aload_n C dX12_foretell_52 rfl rfl ?_
        refine n_getS (dd := 1) C fl_X12_7 s135 (fun _ _ => rfl) rfl dX12_foretell_53 ?_
        refine x_sipush (v := (1026 : Int32)) C dX12_foretell_56 (by decide) ?_
        refine x_iconst (v := (2 : Int32)) C dX12_foretell_59 (by decide) ?_
        refine x_iload_n C dX12_foretell_60 rfl rfl ?_
        refine x_imul C dX12_foretell_61 ?_
        refine x_iadd C dX12_foretell_62 ?_
        refine x_iconst (v := (1 : Int32)) C dX12_foretell_63 (by decide) ?_
        refine x_iadd C dX12_foretell_64 ?_
        obtain ⟨h29, hw⟩ := hw
        refine a_iald C s136 ln136 h29 dX12_foretell_65 ?_
        refine x_iload_n C dX12_foretell_66 rfl rfl ?_
        refine x_iload_n C dX12_foretell_67 rfl rfl ?_
        refine n_callVV s135 rfl C (ok_X12_goesPlain  hw) mv_X12_167 rfl rfl ⟨Nat.le_of_ble_eq_true rfl, Nat.le_of_ble_eq_true rfl⟩ (Nat.le_of_ble_eq_true rfl) dX12_foretell_68 (fun M30 hw => ?_)
        refine x_aload_n C dX12_foretell_71 rfl rfl ?_
        refine n_getI C fl_X12_119 s135 (fun _ _ => rfl) dX12_foretell_72 ?_
        refine x_if_eq (tgt := 82) C dX12_foretell_75 (by decide) (fun h32 => ?_) (fun h32 => ?_)
        · replace hw := hw.1 h32
          refine x_aload_n C dX12_foretell_82 rfl rfl ?_
          refine x_iload_n C dX12_foretell_83 rfl rfl ?_
          refine x_iload C dX12_foretell_84 rfl ?_
          refine x_iload C dX12_foretell_86 rfl ?_
          refine x_iload C dX12_foretell_88 rfl ?_
          refine n_callVV s135 rfl C (ok_X12_fitAll  hw) mv_X12_238 rfl rfl ⟨Nat.le_of_ble_eq_true rfl, Nat.le_of_ble_eq_true rfl⟩ (Nat.le_of_ble_eq_true rfl) dX12_foretell_90 (fun M33 hw => ?_)
          refine x_aload_n C dX12_foretell_93 rfl rfl ?_
          refine n_getI C fl_X12_224 s135 (fun _ _ => rfl) dX12_foretell_94 ?_
          refine x_i2l C dX12_foretell_97 ?_
          refine x_aload_n C dX12_foretell_98 rfl rfl ?_
          refine n_getS (dd := 9) C fl_X12_35 s135 (fun _ _ => rfl) rfl dX12_foretell_99 ?_
          refine x_iload C dX12_foretell_102 rfl ?_
          obtain ⟨h35, hw⟩ := hw
          refine a_iald C s144 ln144 h35 dX12_foretell_104 ?_
          refine x_i2l C dX12_foretell_105 ?_
          refine x_lmul C dX12_foretell_106 ?_
          refine x_aload_n C dX12_foretell_107 rfl rfl ?_
          refine n_getI C fl_X12_227 s135 (fun _ _ => rfl) dX12_foretell_108 ?_
          refine x_i2l C dX12_foretell_111 ?_
          refine x_aload_n C dX12_foretell_112 rfl rfl ?_
          refine n_getS (dd := 9) C fl_X12_35 s135 (fun _ _ => rfl) rfl dX12_foretell_113 ?_
          refine x_iload C dX12_foretell_116 rfl ?_
          obtain ⟨h36, hw⟩ := hw
          refine a_iald C s144 ln144 h36 dX12_foretell_118 ?_
          refine x_i2l C dX12_foretell_119 ?_
          refine x_lmul C dX12_foretell_120 ?_
          refine x_ladd C dX12_foretell_121 ?_
          refine x_aload_n C dX12_foretell_122 rfl rfl ?_
          refine n_getI C fl_X12_230 s135 (fun _ _ => rfl) dX12_foretell_123 ?_
          refine x_i2l C dX12_foretell_126 ?_
          refine x_aload_n C dX12_foretell_127 rfl rfl ?_
          refine n_getS (dd := 9) C fl_X12_35 s135 (fun _ _ => rfl) rfl dX12_foretell_128 ?_
          refine x_iload C dX12_foretell_131 rfl ?_
          obtain ⟨h37, hw⟩ := hw
          refine a_iald C s144 ln144 h37 dX12_foretell_133 ?_
          refine x_i2l C dX12_foretell_134 ?_
          refine x_lmul C dX12_foretell_135 ?_
          refine x_ladd C dX12_foretell_136 ?_
          obtain ⟨x38, ex38⟩ : ∃ z : Int64, z = (((((M33.1 135 18)).toInt64 * ((M33.1 144 (v4).toNatClampNeg)).toInt64) + (((M33.1 135 19)).toInt64 * ((M33.1 144 (v5).toNatClampNeg)).toInt64)) + (((M33.1 135 20)).toInt64 * ((M33.1 144 (v6).toNatClampNeg)).toInt64)) := ⟨_, rfl⟩
          replace hw := hw x38 ex38
          refine x_topj ex38 ?_
          refine x_lstore C dX12_foretell_137 (Nat.le_of_ble_eq_true rfl) ?_
          refine x_iload C dX12_foretell_139 rfl ?_
          refine x_if_ne (tgt := 147) C dX12_foretell_141 (by decide) (fun h39 => ?_) (fun h39 => ?_)
          · replace hw := hw.1 h39
            refine x_iconst (v := (0 : Int32)) C dX12_foretell_147 (by decide) ?_
            refine x_istore C dX12_foretell_148 (Nat.le_of_ble_eq_true rfl) ?_
            refine x_lconst (v := (0 : Int64)) C dX12_foretell_150 (by decide) ?_
            refine x_lstore C dX12_foretell_151 (Nat.le_of_ble_eq_true rfl) ?_
            refine x_iconst (v := (0 : Int32)) C dX12_foretell_153 (by decide) ?_
            refine x_istore C dX12_foretell_154 (Nat.le_of_ble_eq_true rfl) ?_
            exact x_sub [0, 2, 4, 5, 6, 7, 8, 10, 11, 13] rfl (ok_X12_foretell_l156 C r  hw)
          · replace hw := hw.2 h39
            refine x_lload C dX12_foretell_144 rfl ?_
            exact n_lreturn C r dX12_foretell_146 hw
        · replace hw := hw.2 h32
          refine x_ldc2_w (v := (-1000000000 : Int64)) C dX12_foretell_78 kc_X12_243 ?_
          exact n_lreturn C r dX12_foretell_81 hw
      · replace hw := hw.2 h27
        refine x_ldc2_w (v := (-2000000000 : Int64)) C dX12_foretell_35 kc_X12_241 ?_
        exact n_lreturn C r dX12_foretell_38 hw

def w_X12_seek_b179 (v1 : Int32) (v2 : Int32) (v3 : Int32) (v4 : Int32) (v5 : Int32) (v6 : Int32) (v7 : Int32) (v8 : Int32) (v9 : Int32) (M : Mem) (q : Int32 → Mem → Prop) (P57 : Int32 × Int32 × Int32 × Int32 × Int32 × Mem → Prop) : Prop := ∀ x1 : Int32, x1 = v9 + (1 : Int32) → P57 (v5, v6, v7, v8, x1, M)
set_option maxRecDepth 100000 in
set_option maxHeartbeats 4000000 in
theorem ok_X12_seek_b179 {c : CtxT} {g : Gl} {l : Launch} {v1 : Int32} {v2 : Int32} {v3 : Int32} {v4 : Int32} {v5 : Int32} {v6 : Int32} {v7 : Int32} {v8 : Int32} {v9 : Int32} {q : Int32 → Mem → Prop} {P57 : Int32 × Int32 × Int32 × Int32 × Int32 × Mem → Prop} {M : Mem} (C : Cx c cX12_seek 10 RX12 g l (Rm 5 105)) (r : Rt c (some .int) (pI q) 0 0) (hP57 : ∀ (v5 : Int32) (v6 : Int32) (v7 : Int32) (v8 : Int32) (v9 : Int32) (M : Mem), P57 (v5, v6, v7, v8, v9, M) → X c S0 57 [(0, .ref (g.2.2.2 + 135)), (1, .int v1), (2, .int v2), (3, .int v3), (4, .int v4), (5, .int v5), (6, .int v6), (7, .int v7), (8, .int v8), (9, .int v9)] [] (stat M)) (hw : w_X12_seek_b179 v1 v2 v3 v4 v5 v6 v7 v8 v9 M q P57) : X c S0 179 [(0, .ref (g.2.2.2 + 135)), (1, .int v1), (2, .int v2), (3, .int v3), (4, .int v4), (5, .int v5), (6, .int v6), (7, .int v7), (8, .int v8), (9, .int v9)] [] (stat M) := by
  unfold w_X12_seek_b179 at hw
  obtain ⟨x1, ex1⟩ : ∃ z : Int32, z = v9 + (1 : Int32) := ⟨_, rfl⟩
  replace hw := hw x1 ex1
  refine x_iinc (v := x1) C dX12_seek_179 rfl ex1.symm (Nat.le_of_ble_eq_true rfl) ?_
  refine x_goto (tgt := 57) C dX12_seek_182 (by decide) ?_
  exact x_sub [0, 1, 2, 3, 4, 5, 6, 7, 8, 9] rfl (hP57 _ _ _ _ _ _ hw)
def w_X12_seek_b167 (v1 : Int32) (v2 : Int32) (v3 : Int32) (v4 : Int32) (v5 : Int32) (v6 : Int32) (v9 : Int32) (M : Mem) (q : Int32 → Mem → Prop) (P57 : Int32 × Int32 × Int32 × Int32 × Int32 × Mem → Prop) : Prop := ∀ x2 : Int32, x2 = (M.1 144 5) → w_X12_seek_b179 v1 v2 v3 v4 v5 v6 v9 x2 v9 M q P57
set_option maxRecDepth 100000 in
set_option maxHeartbeats 4000000 in
theorem ok_X12_seek_b167 {c : CtxT} {g : Gl} {l : Launch} {v1 : Int32} {v2 : Int32} {v3 : Int32} {v4 : Int32} {v5 : Int32} {v6 : Int32} {v9 : Int32} {q : Int32 → Mem → Prop} {P57 : Int32 × Int32 × Int32 × Int32 × Int32 × Mem → Prop} {M : Mem} (C : Cx c cX12_seek 10 RX12 g l (Rm 5 105)) (r : Rt c (some .int) (pI q) 0 0) (hP57 : ∀ (v5 : Int32) (v6 : Int32) (v7 : Int32) (v8 : Int32) (v9 : Int32) (M : Mem), P57 (v5, v6, v7, v8, v9, M) → X c S0 57 [(0, .ref (g.2.2.2 + 135)), (1, .int v1), (2, .int v2), (3, .int v3), (4, .int v4), (5, .int v5), (6, .int v6), (7, .int v7), (8, .int v8), (9, .int v9)] [] (stat M)) (hw : w_X12_seek_b167 v1 v2 v3 v4 v5 v6 v9 M q P57) : X c S0 167 [(0, .ref (g.2.2.2 + 135)), (1, .int v1), (2, .int v2), (3, .int v3), (4, .int v4), (5, .int v5), (6, .int v6), (9, .int v9)] [] (stat M) := by
  unfold w_X12_seek_b167 at hw
  refine x_iload C dX12_seek_167 rfl ?_
  refine x_istore C dX12_seek_169 (Nat.le_of_ble_eq_true rfl) ?_
  refine x_aload_n C dX12_seek_171 rfl rfl ?_
  refine n_getS (dd := 9) C fl_X12_35 s135 (fun _ _ => rfl) rfl dX12_seek_172 ?_
  refine x_iconst (v := (5 : Int32)) C dX12_seek_175 (by decide) ?_
  refine a_ialdL (ni := 5) C s144 ln144 (by decide) (vin _ _ (by decide +kernel)) dX12_seek_176 ?_
  obtain ⟨x2, ex2⟩ : ∃ z : Int32, z = (M.1 144 5) := ⟨_, rfl⟩
  replace hw := hw x2 ex2
  refine x_topi ex2 ?_
  refine x_istore C dX12_seek_177 (Nat.le_of_ble_eq_true rfl) ?_
  exact x_sub [0, 1, 2, 3, 4, 5, 6, 7, 8, 9] rfl (ok_X12_seek_b179 C r hP57 hw)
def w_X12_seek_b121 (v1 : Int32) (v2 : Int32) (v3 : Int32) (v4 : Int32) (v5 : Int32) (v7 : Int32) (v8 : Int32) (v9 : Int32) (t0 : Int32) (t1 : Int32) (M : Mem) (q : Int32 → Mem → Prop) (P57 : Int32 × Int32 × Int32 × Int32 × Int32 × Mem → Prop) : Prop := ∀ x3 : Int32, x3 = (t0 + t1) → ((x3 ≤ v3 → ∀ x5 : Int32, x5 = v5 + (1 : Int32) → ((¬ (M.1 135 10) = 0 → w_X12_seek_b179 v1 v2 v3 v4 x5 x3 v7 v8 v9 M q P57) ∧ ((M.1 135 10) = 0 → ((v7 = (-1 : Int32) → w_X12_seek_b167 v1 v2 v3 v4 x5 x3 v9 M q P57) ∧ (¬ v7 = (-1 : Int32) → ((v8 ≤ (M.1 144 5) → w_X12_seek_b179 v1 v2 v3 v4 x5 x3 v7 v8 v9 M q P57) ∧ (¬ v8 ≤ (M.1 144 5) → w_X12_seek_b167 v1 v2 v3 v4 x5 x3 v9 M q P57))))))) ∧ (¬ x3 ≤ v3 → w_X12_many (3 : Int32) M (fun (r10 : Int32) (M9 : Mem) => w_X12_seek_b179 v1 v2 v3 v4 v5 x3 v7 v8 r10 M9 q P57)))
set_option maxRecDepth 100000 in
set_option maxHeartbeats 4000000 in
theorem ok_X12_seek_b121 {c : CtxT} {g : Gl} {l : Launch} {v1 : Int32} {v2 : Int32} {v3 : Int32} {v4 : Int32} {v5 : Int32} {v7 : Int32} {v8 : Int32} {v9 : Int32} {t0 : Int32} {t1 : Int32} {q : Int32 → Mem → Prop} {P57 : Int32 × Int32 × Int32 × Int32 × Int32 × Mem → Prop} {M : Mem} (C : Cx c cX12_seek 10 RX12 g l (Rm 5 105)) (r : Rt c (some .int) (pI q) 0 0) (hP57 : ∀ (v5 : Int32) (v6 : Int32) (v7 : Int32) (v8 : Int32) (v9 : Int32) (M : Mem), P57 (v5, v6, v7, v8, v9, M) → X c S0 57 [(0, .ref (g.2.2.2 + 135)), (1, .int v1), (2, .int v2), (3, .int v3), (4, .int v4), (5, .int v5), (6, .int v6), (7, .int v7), (8, .int v8), (9, .int v9)] [] (stat M)) (hw : w_X12_seek_b121 v1 v2 v3 v4 v5 v7 v8 v9 t0 t1 M q P57) : X c S0 121 [(0, .ref (g.2.2.2 + 135)), (1, .int v1), (2, .int v2), (3, .int v3), (4, .int v4), (5, .int v5), (7, .int v7), (8, .int v8), (9, .int v9)] [.int t1, .int t0] (stat M) := by
  unfold w_X12_seek_b121 at hw
  refine x_iadd C dX12_seek_121 ?_
  obtain ⟨x3, ex3⟩ : ∃ z : Int32, z = (t0 + t1) := ⟨_, rfl⟩
  replace hw := hw x3 ex3
  refine x_topi ex3 ?_
  refine x_istore C dX12_seek_122 (Nat.le_of_ble_eq_true rfl) ?_
  refine x_iload C dX12_seek_124 rfl ?_
  refine x_iload_n C dX12_seek_126 rfl rfl ?_
  refine x_icmp_le (tgt := 140) C dX12_seek_127 (by decide) (fun h4 => ?_) (fun h4 => ?_)
  · replace hw := hw.1 h4
    obtain ⟨x5, ex5⟩ : ∃ z : Int32, z = v5 + (1 : Int32) := ⟨_, rfl⟩
    replace hw := hw x5 ex5
    refine x_iinc (v := x5) C dX12_seek_140 rfl ex5.symm (Nat.le_of_ble_eq_true rfl) ?_
    refine x_aload_n C dX12_seek_143 rfl rfl ?_
    refine n_getI C fl_X12_119 s135 (fun _ _ => rfl) dX12_seek_144 ?_
    refine x_if_ne (tgt := 179) C dX12_seek_147 (by decide) (fun h6 => ?_) (fun h6 => ?_)
    · replace hw := hw.1 h6
      exact x_sub [0, 1, 2, 3, 4, 5, 6, 7, 8, 9] rfl (ok_X12_seek_b179 C r hP57 hw)
    · replace hw := hw.2 h6
      refine x_iload C dX12_seek_150 rfl ?_
      refine x_iconst (v := (-1 : Int32)) C dX12_seek_152 (by decide) ?_
      refine x_icmp_eq (tgt := 167) C dX12_seek_153 (by decide) (fun h7 => ?_) (fun h7 => ?_)
      · replace hw := hw.1 h7
        exact x_sub [0, 1, 2, 3, 4, 5, 6, 9] rfl (ok_X12_seek_b167 C r hP57 hw)
      · replace hw := hw.2 h7
        refine x_aload_n C dX12_seek_156 rfl rfl ?_
        refine n_getS (dd := 9) C fl_X12_35 s135 (fun _ _ => rfl) rfl dX12_seek_157 ?_
        refine x_iconst (v := (5 : Int32)) C dX12_seek_160 (by decide) ?_
        refine a_ialdL (ni := 5) C s144 ln144 (by decide) (vin _ _ (by decide +kernel)) dX12_seek_161 ?_
        refine x_iload C dX12_seek_162 rfl ?_
        refine x_icmp_ge (tgt := 179) C dX12_seek_164 (by decide) (fun h8 => ?_) (fun h8 => ?_)
        · replace hw := hw.1 h8
          exact x_sub [0, 1, 2, 3, 4, 5, 6, 7, 8, 9] rfl (ok_X12_seek_b179 C r hP57 hw)
        · replace hw := hw.2 h8
          exact x_sub [0, 1, 2, 3, 4, 5, 6, 9] rfl (ok_X12_seek_b167 C r hP57 hw)
  · replace hw := hw.2 h4
    refine x_aload_n C dX12_seek_130 rfl rfl ?_
    refine x_iconst (v := (3 : Int32)) C dX12_seek_131 (by decide) ?_
    refine n_callVI s135 rfl C (ok_X12_many  hw) mv_X12_66 rfl rfl ⟨Nat.le_of_ble_eq_true rfl, Nat.le_of_ble_eq_true rfl⟩ (Nat.le_of_ble_eq_true rfl) dX12_seek_132 (fun r10 M9 hw => ?_)
    refine x_istore C dX12_seek_135 (Nat.le_of_ble_eq_true rfl) ?_
    refine x_goto (tgt := 179) C dX12_seek_137 (by decide) ?_
    exact x_sub [0, 1, 2, 3, 4, 5, 6, 7, 8, 9] rfl (ok_X12_seek_b179 C r hP57 hw)
def w_X12_seek_l57F (v1 : Int32) (v2 : Int32) (v3 : Int32) (v4 : Int32) (q : Int32 → Mem → Prop) (P57 : Int32 × Int32 × Int32 × Int32 × Int32 × Mem → Prop) (s : Int32 × Int32 × Int32 × Int32 × Int32 × Mem) : Prop := match s with
  | (v5, v6, v7, v8, v9, M) => w_X12_many (3 : Int32) M (fun (r12 : Int32) (M11 : Mem) => ((r12 ≤ v9 → ((¬ v4 = 0 → q v5 M11) ∧ (v4 = 0 → q v7 M11))) ∧ (¬ r12 ≤ v9 → vp_in ((1026 : Int32) + ((2 : Int32) * v1)) 4230 ∧ vp_in (((1026 : Int32) + ((2 : Int32) * v1)) + (1 : Int32)) 4230 ∧ w_X12_goesPlain (M11.1 136 (((1026 : Int32) + ((2 : Int32) * v1))).toNatClampNeg) (M11.1 136 ((((1026 : Int32) + ((2 : Int32) * v1)) + (1 : Int32))).toNatClampNeg) v2 v9 M11 (fun (M17 : Mem) => (((M17.1 135 10) = 0 → w_X12_seek_b121 v1 v2 v3 v4 v5 v7 v8 v9 v6 (M17.1 144 5) M17 q P57) ∧ (¬ (M17.1 135 10) = 0 → w_X12_seek_b121 v1 v2 v3 v4 v5 v7 v8 v9 v6 (2000 : Int32) M17 q P57))))))
def w_X12_seek_l57 (v1 : Int32) (v2 : Int32) (v3 : Int32) (v4 : Int32) (q : Int32 → Mem → Prop) (s : Int32 × Int32 × Int32 × Int32 × Int32 × Mem) : Prop := lfp (w_X12_seek_l57F v1 v2 v3 v4 q ) s
set_option maxRecDepth 100000 in
set_option maxHeartbeats 4000000 in
theorem ok_X12_seek_l57 {c : CtxT} {g : Gl} {l : Launch} {v1 : Int32} {v2 : Int32} {v3 : Int32} {v4 : Int32} {q : Int32 → Mem → Prop} {s : Int32 × Int32 × Int32 × Int32 × Int32 × Mem} (C : Cx c cX12_seek 10 RX12 g l (Rm 5 105)) (r : Rt c (some .int) (pI q) 0 0) (hw : w_X12_seek_l57 v1 v2 v3 v4 q s) : X c S0 57 [(0, .ref (g.2.2.2 + 135)), (1, .int v1), (2, .int v2), (3, .int v3), (4, .int v4), (5, .int s.1), (6, .int s.2.1), (7, .int s.2.2.1), (8, .int s.2.2.2.1), (9, .int s.2.2.2.2.1)] [] (stat s.2.2.2.2.2) := hw (fun s => X c S0 57 [(0, .ref (g.2.2.2 + 135)), (1, .int v1), (2, .int v2), (3, .int v3), (4, .int v4), (5, .int s.1), (6, .int s.2.1), (7, .int s.2.2.1), (8, .int s.2.2.2.1), (9, .int s.2.2.2.2.1)] [] (stat s.2.2.2.2.2)) (fun s hw => by
    obtain ⟨v5, v6, v7, v8, v9, M⟩ := s
    try dsimp only [w_X12_seek_l57F] at hw
    try dsimp only
    refine x_iload C dX12_seek_57 rfl ?_
    refine x_aload_n C dX12_seek_59 rfl rfl ?_
    refine x_iconst (v := (3 : Int32)) C dX12_seek_60 (by decide) ?_
    refine n_callVI s135 rfl C (ok_X12_many  hw) mv_X12_66 rfl rfl ⟨Nat.le_of_ble_eq_true rfl, Nat.le_of_ble_eq_true rfl⟩ (Nat.le_of_ble_eq_true rfl) dX12_seek_61 (fun r12 M11 hw => ?_)
    refine x_icmp_ge (tgt := 185) C dX12_seek_64 (by decide) (fun h13 => ?_) (fun h13 => ?_)
    · replace hw := hw.1 h13
      refine x_iload C dX12_seek_185 rfl ?_
      refine x_if_ne (tgt := 195) C dX12_seek_187 (by decide) (fun h14 => ?_) (fun h14 => ?_)
      · replace hw := hw.1 h14
        refine x_iload C dX12_seek_195 rfl ?_
        exact n_ireturn C r dX12_seek_197 hw
      · replace hw := hw.2 h14
        refine x_iload C dX12_seek_190 rfl ?_
        refine x_goto (tgt := 197) C dX12_seek_192 (by decide) ?_
        exact n_ireturn C r dX12_seek_197 hw
    · replace hw := hw.2 h13
      refine x_aload_n C dX12_seek_67 rfl rfl ?_
      refine x_aload_n C dX12_seek_68 rfl rfl ?_
      refine n_getS (dd := 1) C fl_X12_7 s135 (fun _ _ => rfl) rfl dX12_seek_69 ?_
      refine x_sipush (v := (1026 : Int32)) C dX12_seek_72 (by decide) ?_
      refine x_iconst (v := (2 : Int32)) C dX12_seek_75 (by decide) ?_
      refine x_iload_n C dX12_seek_76 rfl rfl ?_
      refine x_imul C dX12_seek_77 ?_
      refine x_iadd C dX12_seek_78 ?_
      obtain ⟨h15, hw⟩ := hw
      refine a_iald C s136 ln136 h15 dX12_seek_79 ?_
      refine x_aload_n C dX12_seek_80 rfl rfl ?_
      refine n_getS (dd := 1) C fl_X12_7 s135 (fun _ _ => rfl) rfl dX12_seek_81 ?_
      refine x_sipush (v := (1026 : Int32)) C dX12_seek_84 (by decide) ?_
      refine x_iconst (v := (2 : Int32)) C dX12_seek_87 (by decide) ?_
      refine x_iload_n C dX12_seek_88 rfl rfl ?_
      refine x_imul C dX12_seek_89 ?_
      refine x_iadd C dX12_seek_90 ?_
      refine x_iconst (v := (1 : Int32)) C dX12_seek_91 (by decide) ?_
      refine x_iadd C dX12_seek_92 ?_
      obtain ⟨h16, hw⟩ := hw
      refine a_iald C s136 ln136 h16 dX12_seek_93 ?_
      refine x_iload_n C dX12_seek_94 rfl rfl ?_
      refine x_iload C dX12_seek_95 rfl ?_
      refine n_callVV s135 rfl C (ok_X12_goesPlain  hw) mv_X12_167 rfl rfl ⟨Nat.le_of_ble_eq_true rfl, Nat.le_of_ble_eq_true rfl⟩ (Nat.le_of_ble_eq_true rfl) dX12_seek_97 (fun M17 hw => ?_)
      refine x_iload C dX12_seek_100 rfl ?_
      refine x_aload_n C dX12_seek_102 rfl rfl ?_
      refine n_getI C fl_X12_119 s135 (fun _ _ => rfl) dX12_seek_103 ?_
      refine x_if_eq (tgt := 115) C dX12_seek_106 (by decide) (fun h19 => ?_) (fun h19 => ?_)
      · replace hw := hw.1 h19
        refine x_aload_n C dX12_seek_115 rfl rfl ?_
        refine n_getS (dd := 9) C fl_X12_35 s135 (fun _ _ => rfl) rfl dX12_seek_116 ?_
        refine x_iconst (v := (5 : Int32)) C dX12_seek_119 (by decide) ?_
        refine a_ialdL (ni := 5) C s144 ln144 (by decide) (vin _ _ (by decide +kernel)) dX12_seek_120 ?_
        exact x_sub [0, 1, 2, 3, 4, 5, 7, 8, 9] rfl (ok_X12_seek_b121 C r (fun _ _ _ _ _ _ h => h) hw)
      · replace hw := hw.2 h19
        refine x_sipush (v := (2000 : Int32)) C dX12_seek_109 (by decide) ?_
        refine x_goto (tgt := 121) C dX12_seek_112 (by decide) ?_
        exact x_sub [0, 1, 2, 3, 4, 5, 7, 8, 9] rfl (ok_X12_seek_b121 C r (fun _ _ _ _ _ _ h => h) hw))
def w_X12_seek (v1 : Int32) (v2 : Int32) (v3 : Int32) (v4 : Int32) (M : Mem) (q : Int32 → Mem → Prop) : Prop := w_X12_has (2 : Int32) v1 M (fun (r21 : Int32) (M20 : Mem) => ((r21 = 0 → q (-2 : Int32) M20) ∧ (¬ r21 = 0 → w_X12_isMachine v2 M20 (fun (r24 : Int32) (M23 : Mem) => ((r24 = 0 → q (-2 : Int32) M23) ∧ (¬ r24 = 0 → w_X12_in (v3).toInt64 (0 : Int64) (1000000 : Int64) M23 (fun (r27 : Int32) (M26 : Mem) => ((r27 = 0 → q (-2 : Int32) M26) ∧ (¬ r27 = 0 → w_X12_in (v4).toInt64 (0 : Int64) (1 : Int64) M26 (fun (r30 : Int32) (M29 : Mem) => ((¬ r30 = 0 → w_X12_seek_l57 v1 v2 v3 v4 q ((0 : Int32), (0 : Int32), (-1 : Int32), (0 : Int32), (0 : Int32), M29)) ∧ (r30 = 0 → q (-2 : Int32) M29))))))))))))
set_option maxRecDepth 100000 in
set_option maxHeartbeats 4000000 in
theorem ok_X12_seek {g : Gl} {l : Launch} {v1 : Int32} {v2 : Int32} {v3 : Int32} {v4 : Int32} {M : Mem} {q : Int32 → Mem → Prop} (hw : w_X12_seek v1 v2 v3 v4 M q) : CtI g l yX12_seek cX12_seek 10 (some .int) 5 105 [.ref (g.2.2.2 + 135), .int v1, .int v2, .int v3, .int v4] M q := by
  refine n_introI (by decide +kernel) (Nat.le_of_ble_eq_true rfl) (fun c C r => ?_)
  have C : Cx c cX12_seek 10 RX12 g l (Rm 5 105) := C
  refine x_sub [0, 1, 2, 3, 4] (lv' := [(0, .ref (g.2.2.2 + 135)), (1, .int v1), (2, .int v2), (3, .int v3), (4, .int v4)]) rfl ?_
  unfold w_X12_seek at hw
  refine x_aload_n C dX12_seek_0 rfl rfl ?_
  refine x_iconst (v := (2 : Int32)) C dX12_seek_1 (by decide) ?_
  refine x_iload_n C dX12_seek_2 rfl rfl ?_
  refine n_callVI s135 rfl C (ok_X12_has  hw) mv_X12_84 rfl rfl ⟨Nat.le_of_ble_eq_true rfl, Nat.le_of_ble_eq_true rfl⟩ (Nat.le_of_ble_eq_true rfl) dX12_seek_3 (fun r21 M20 hw => ?_)
  refine x_if_eq (tgt := 39) C dX12_seek_6 (by decide) (fun h22 => ?_) (fun h22 => ?_)
  · replace hw := hw.1 h22
    refine x_bipush (v := (-2 : Int32)) C dX12_seek_39 (by decide) ?_
    exact n_ireturn C r dX12_seek_41 hw
  · replace hw := hw.2 h22
    refine x_iload_n C dX12_seek_9 rfl rfl ?_
    refine n_callSI C (ok_X12_isMachine  hw) ms_X12_100 rfl rfl ⟨Nat.le_of_ble_eq_true rfl, Nat.le_of_ble_eq_true rfl⟩ (Nat.le_of_ble_eq_true rfl) dX12_seek_10 (fun r24 M23 hw => ?_)
    refine x_if_eq (tgt := 39) C dX12_seek_13 (by decide) (fun h25 => ?_) (fun h25 => ?_)
    · replace hw := hw.1 h25
      refine x_bipush (v := (-2 : Int32)) C dX12_seek_39 (by decide) ?_
      exact n_ireturn C r dX12_seek_41 hw
    · replace hw := hw.2 h25
      refine x_iload_n C dX12_seek_16 rfl rfl ?_
      refine x_i2l C dX12_seek_17 ?_
      refine x_lconst (v := (0 : Int64)) C dX12_seek_18 (by decide) ?_
      refine x_ldc2_w (v := (1000000 : Int64)) C dX12_seek_19 kc_X12_245 ?_
      refine n_callSI C (ok_X12_in  hw) ms_X12_70 rfl rfl ⟨Nat.le_of_ble_eq_true rfl, Nat.le_of_ble_eq_true rfl⟩ (Nat.le_of_ble_eq_true rfl) dX12_seek_22 (fun r27 M26 hw => ?_)
      refine x_if_eq (tgt := 39) C dX12_seek_25 (by decide) (fun h28 => ?_) (fun h28 => ?_)
      · replace hw := hw.1 h28
        refine x_bipush (v := (-2 : Int32)) C dX12_seek_39 (by decide) ?_
        exact n_ireturn C r dX12_seek_41 hw
      · replace hw := hw.2 h28
        refine x_iload C dX12_seek_28 rfl ?_
        refine x_i2l C dX12_seek_30 ?_
        refine x_lconst (v := (0 : Int64)) C dX12_seek_31 (by decide) ?_
        refine x_lconst (v := (1 : Int64)) C dX12_seek_32 (by decide) ?_
        refine n_callSI C (ok_X12_in  hw) ms_X12_70 rfl rfl ⟨Nat.le_of_ble_eq_true rfl, Nat.le_of_ble_eq_true rfl⟩ (Nat.le_of_ble_eq_true rfl) dX12_seek_33 (fun r30 M29 hw => ?_)
        refine x_if_ne (tgt := 42) C dX12_seek_36 (by decide) (fun h31 => ?_) (fun h31 => ?_)
        · replace hw := hw.1 h31
          refine x_iconst (v := (0 : Int32)) C dX12_seek_42 (by decide) ?_
          refine x_istore C dX12_seek_43 (Nat.le_of_ble_eq_true rfl) ?_
          refine x_iconst (v := (0 : Int32)) C dX12_seek_45 (by decide) ?_
          refine x_istore C dX12_seek_46 (Nat.le_of_ble_eq_true rfl) ?_
          refine x_iconst (v := (-1 : Int32)) C dX12_seek_48 (by decide) ?_
          refine x_istore C dX12_seek_49 (Nat.le_of_ble_eq_true rfl) ?_
          refine x_iconst (v := (0 : Int32)) C dX12_seek_51 (by decide) ?_
          refine x_istore C dX12_seek_52 (Nat.le_of_ble_eq_true rfl) ?_
          refine x_iconst (v := (0 : Int32)) C dX12_seek_54 (by decide) ?_
          refine x_istore C dX12_seek_55 (Nat.le_of_ble_eq_true rfl) ?_
          exact x_sub [0, 1, 2, 3, 4, 5, 6, 7, 8, 9] rfl (ok_X12_seek_l57 C r  hw)
        · replace hw := hw.2 h31
          refine x_bipush (v := (-2 : Int32)) C dX12_seek_39 (by decide) ?_
          exact n_ireturn C r dX12_seek_41 hw

def w_X12_write (v1 : Int32) (M : Mem) (q : Int32 → Mem → Prop) : Prop := w_X12_in (v1).toInt64 (0 : Int64) (127 : Int64) M (fun (r2 : Int32) (M1 : Mem) => ((¬ r2 = 0 → w_X12_many (7 : Int32) M1 (fun (r5 : Int32) (M4 : Mem) => ((¬ r5 = (40 : Int32) → w_X12_many (7 : Int32) M4 (fun (r8 : Int32) (M7 : Mem) => vp_in ((4170 : Int32) + r8) 4230 ∧ ∀ M10 : Mem, M10 = uI M7 136 (((4170 : Int32) + r8)).toNatClampNeg v1 → ∀ M11 : Mem, M11 = uI M10 136 4217 ((M10.1 136 4217) + (1 : Int32)) → w_X12_many (7 : Int32) M11 (fun (r13 : Int32) (M12 : Mem) => q r13 M12))) ∧ (r5 = (40 : Int32) → q (-4 : Int32) M4)))) ∧ (r2 = 0 → q (-2 : Int32) M1)))
set_option maxRecDepth 100000 in
set_option maxHeartbeats 4000000 in
theorem ok_X12_write {g : Gl} {l : Launch} {v1 : Int32} {M : Mem} {q : Int32 → Mem → Prop} (hw : w_X12_write v1 M q) : CtI g l yX12_write cX12_write 2 (some .int) 2 25 [.ref (g.2.2.2 + 135), .int v1] M q := by
  refine n_introI (by decide +kernel) (Nat.le_of_ble_eq_true rfl) (fun c C r => ?_)
  have C : Cx c cX12_write 2 RX12 g l (Rm 2 25) := C
  refine x_sub [0, 1] (lv' := [(0, .ref (g.2.2.2 + 135)), (1, .int v1)]) rfl ?_
  unfold w_X12_write at hw
  refine x_iload_n C dX12_write_0 rfl rfl ?_
  refine x_i2l C dX12_write_1 ?_
  refine x_lconst (v := (0 : Int64)) C dX12_write_2 (by decide) ?_
  refine x_ldc2_w (v := (127 : Int64)) C dX12_write_3 kc_X12_247 ?_
  refine n_callSI C (ok_X12_in  hw) ms_X12_70 rfl rfl ⟨Nat.le_of_ble_eq_true rfl, Nat.le_of_ble_eq_true rfl⟩ (Nat.le_of_ble_eq_true rfl) dX12_write_6 (fun r2 M1 hw => ?_)
  refine x_if_ne (tgt := 15) C dX12_write_9 (by decide) (fun h3 => ?_) (fun h3 => ?_)
  · replace hw := hw.1 h3
    refine x_aload_n C dX12_write_15 rfl rfl ?_
    refine x_bipush (v := (7 : Int32)) C dX12_write_16 (by decide) ?_
    refine n_callVI s135 rfl C (ok_X12_many  hw) mv_X12_66 rfl rfl ⟨Nat.le_of_ble_eq_true rfl, Nat.le_of_ble_eq_true rfl⟩ (Nat.le_of_ble_eq_true rfl) dX12_write_18 (fun r5 M4 hw => ?_)
    refine x_bipush (v := (40 : Int32)) C dX12_write_21 (by decide) ?_
    refine x_icmp_ne (tgt := 29) C dX12_write_23 (by decide) (fun h6 => ?_) (fun h6 => ?_)
    · replace hw := hw.1 h6
      refine x_aload_n C dX12_write_29 rfl rfl ?_
      refine n_getS (dd := 1) C fl_X12_7 s135 (fun _ _ => rfl) rfl dX12_write_30 ?_
      refine x_sipush (v := (4170 : Int32)) C dX12_write_33 (by decide) ?_
      refine x_aload_n C dX12_write_36 rfl rfl ?_
      refine x_bipush (v := (7 : Int32)) C dX12_write_37 (by decide) ?_
      refine n_callVI s135 rfl C (ok_X12_many  hw) mv_X12_66 rfl rfl ⟨Nat.le_of_ble_eq_true rfl, Nat.le_of_ble_eq_true rfl⟩ (Nat.le_of_ble_eq_true rfl) dX12_write_39 (fun r8 M7 hw => ?_)
      refine x_iadd C dX12_write_42 ?_
      refine x_iload_n C dX12_write_43 rfl rfl ?_
      obtain ⟨h9, hw⟩ := hw
      obtain ⟨M10, eM10⟩ : ∃ z : Mem, z = uI M7 136 (((4170 : Int32) + r8)).toNatClampNeg v1 := ⟨_, rfl⟩
      replace hw := hw M10 eM10
      refine a_iast C s136 ln136 rfl h9 eM10 dX12_write_44 ?_
      refine x_aload_n C dX12_write_45 rfl rfl ?_
      refine n_getS (dd := 1) C fl_X12_7 s135 (fun _ _ => rfl) rfl dX12_write_46 ?_
      refine x_sipush (v := (4217 : Int32)) C dX12_write_49 (by decide) ?_
      refine x_dup2_11 C dX12_write_52 rfl rfl ?_
      refine a_ialdL (ni := 4217) C s136 ln136 (by decide) (vin _ _ (by decide +kernel)) dX12_write_53 ?_
      refine x_iconst (v := (1 : Int32)) C dX12_write_54 (by decide) ?_
      refine x_iadd C dX12_write_55 ?_
      obtain ⟨M11, eM11⟩ : ∃ z : Mem, z = uI M10 136 4217 ((M10.1 136 4217) + (1 : Int32)) := ⟨_, rfl⟩
      replace hw := hw M11 eM11
      refine a_iast C s136 ln136 (by decide) (vin _ _ (by decide +kernel)) eM11 dX12_write_56 ?_
      refine x_aload_n C dX12_write_57 rfl rfl ?_
      refine x_bipush (v := (7 : Int32)) C dX12_write_58 (by decide) ?_
      refine n_callVI s135 rfl C (ok_X12_many  hw) mv_X12_66 rfl rfl ⟨Nat.le_of_ble_eq_true rfl, Nat.le_of_ble_eq_true rfl⟩ (Nat.le_of_ble_eq_true rfl) dX12_write_60 (fun r13 M12 hw => ?_)
      exact n_ireturn C r dX12_write_63 hw
    · replace hw := hw.2 h6
      refine x_bipush (v := (-4 : Int32)) C dX12_write_26 (by decide) ?_
      exact n_ireturn C r dX12_write_28 hw
  · replace hw := hw.2 h3
    refine x_bipush (v := (-2 : Int32)) C dX12_write_12 (by decide) ?_
    exact n_ireturn C r dX12_write_14 hw

def w_X12_erase (M : Mem) (q : Int32 → Mem → Prop) : Prop := w_X12_many (7 : Int32) M (fun (r2 : Int32) (M1 : Mem) => ∀ M3 : Mem, M3 = uI M1 136 4217 (0 : Int32) → q r2 M3)
set_option maxRecDepth 100000 in
set_option maxHeartbeats 4000000 in
theorem ok_X12_erase {g : Gl} {l : Launch} {M : Mem} {q : Int32 → Mem → Prop} (hw : w_X12_erase M q) : CtI g l yX12_erase cX12_erase 2 (some .int) 2 21 [.ref (g.2.2.2 + 135)] M q := by
  refine n_introI (by decide +kernel) (Nat.le_of_ble_eq_true rfl) (fun c C r => ?_)
  have C : Cx c cX12_erase 2 RX12 g l (Rm 2 21) := C
  refine x_sub [0] (lv' := [(0, .ref (g.2.2.2 + 135))]) rfl ?_
  unfold w_X12_erase at hw
  refine x_aload_n C dX12_erase_0 rfl rfl ?_
  refine x_bipush (v := (7 : Int32)) C dX12_erase_1 (by decide) ?_
  refine n_callVI s135 rfl C (ok_X12_many  hw) mv_X12_66 rfl rfl ⟨Nat.le_of_ble_eq_true rfl, Nat.le_of_ble_eq_true rfl⟩ (Nat.le_of_ble_eq_true rfl) dX12_erase_3 (fun r2 M1 hw => ?_)
  refine x_istore_n C dX12_erase_6 rfl (Nat.le_of_ble_eq_true rfl) ?_
  refine x_aload_n C dX12_erase_7 rfl rfl ?_
  refine n_getS (dd := 1) C fl_X12_7 s135 (fun _ _ => rfl) rfl dX12_erase_8 ?_
  refine x_sipush (v := (4217 : Int32)) C dX12_erase_11 (by decide) ?_
  refine x_iconst (v := (0 : Int32)) C dX12_erase_14 (by decide) ?_
  obtain ⟨M3, eM3⟩ : ∃ z : Mem, z = uI M1 136 4217 (0 : Int32) := ⟨_, rfl⟩
  replace hw := hw M3 eM3
  refine a_iast C s136 ln136 (by decide) (vin _ _ (by decide +kernel)) eM3 dX12_erase_15 ?_
  refine x_iload_n C dX12_erase_16 rfl rfl ?_
  exact n_ireturn C r dX12_erase_17 hw

def w_X12_ahead_b44 (M : Mem) (q : Int32 → Mem → Prop) : Prop := w_X12_many (7 : Int32) M (fun (r2 : Int32) (M1 : Mem) => ((r2 ≤ (M.1 135 22) → q (-1 : Int32) M1) ∧ (¬ r2 ≤ (M.1 135 22) → vp_in ((4170 : Int32) + (M1.1 135 22)) 4230 ∧ q (M1.1 136 (((4170 : Int32) + (M1.1 135 22))).toNatClampNeg) M1)))
set_option maxRecDepth 100000 in
set_option maxHeartbeats 4000000 in
theorem ok_X12_ahead_b44 {c : CtxT} {g : Gl} {l : Launch} {q : Int32 → Mem → Prop} {M : Mem} (C : Cx c cX12_ahead 1 RX12 g l (Rm 2 21)) (r : Rt c (some .int) (pI q) 0 0) (hw : w_X12_ahead_b44 M q ) : X c S0 44 [(0, .ref (g.2.2.2 + 135))] [] (stat M) := by
  unfold w_X12_ahead_b44 at hw
  refine x_aload_n C dX12_ahead_44 rfl rfl ?_
  refine n_getI C fl_X12_249 s135 (fun _ _ => rfl) dX12_ahead_45 ?_
  refine x_aload_n C dX12_ahead_48 rfl rfl ?_
  refine x_bipush (v := (7 : Int32)) C dX12_ahead_49 (by decide) ?_
  refine n_callVI s135 rfl C (ok_X12_many  hw) mv_X12_66 rfl rfl ⟨Nat.le_of_ble_eq_true rfl, Nat.le_of_ble_eq_true rfl⟩ (Nat.le_of_ble_eq_true rfl) dX12_ahead_51 (fun r2 M1 hw => ?_)
  refine x_icmp_ge (tgt := 73) C dX12_ahead_54 (by decide) (fun h3 => ?_) (fun h3 => ?_)
  · replace hw := hw.1 h3
    refine x_iconst (v := (-1 : Int32)) C dX12_ahead_73 (by decide) ?_
    exact n_ireturn C r dX12_ahead_74 hw
  · replace hw := hw.2 h3
    refine x_aload_n C dX12_ahead_57 rfl rfl ?_
    refine n_getS (dd := 1) C fl_X12_7 s135 (fun _ _ => rfl) rfl dX12_ahead_58 ?_
    refine x_sipush (v := (4170 : Int32)) C dX12_ahead_61 (by decide) ?_
    refine x_aload_n C dX12_ahead_64 rfl rfl ?_
    refine n_getI C fl_X12_249 s135 (fun _ _ => rfl) dX12_ahead_65 ?_
    refine x_iadd C dX12_ahead_68 ?_
    obtain ⟨h4, hw⟩ := hw
    refine a_iald C s136 ln136 h4 dX12_ahead_69 ?_
    refine x_goto (tgt := 74) C dX12_ahead_70 (by decide) ?_
    exact n_ireturn C r dX12_ahead_74 hw
def w_X12_ahead_l0F (q : Int32 → Mem → Prop) (P0 : Mem → Prop) (s : Mem) : Prop := match s with
  | M => w_X12_many (7 : Int32) M (fun (r6 : Int32) (M5 : Mem) => ((r6 ≤ (M.1 135 22) → w_X12_ahead_b44 M5 q) ∧ (¬ r6 ≤ (M.1 135 22) → vp_in ((4170 : Int32) + (M5.1 135 22)) 4230 ∧ ((¬ (M5.1 136 (((4170 : Int32) + (M5.1 135 22))).toNatClampNeg) = (32 : Int32) → w_X12_ahead_b44 M5 q) ∧ ((M5.1 136 (((4170 : Int32) + (M5.1 135 22))).toNatClampNeg) = (32 : Int32) → ∀ M10 : Mem, M10 = uI M5 135 22 ((M5.1 135 22) + (1 : Int32)) → P0 M10)))))
def w_X12_ahead_l0 (q : Int32 → Mem → Prop) (s : Mem) : Prop := lfp (w_X12_ahead_l0F q ) s
set_option maxRecDepth 100000 in
set_option maxHeartbeats 4000000 in
theorem ok_X12_ahead_l0 {c : CtxT} {g : Gl} {l : Launch} {q : Int32 → Mem → Prop} {s : Mem} (C : Cx c cX12_ahead 1 RX12 g l (Rm 2 21)) (r : Rt c (some .int) (pI q) 0 0) (hw : w_X12_ahead_l0 q s) : X c S0 0 [(0, .ref (g.2.2.2 + 135))] [] (stat s) := hw (fun s => X c S0 0 [(0, .ref (g.2.2.2 + 135))] [] (stat s)) (fun s hw => by
    obtain ⟨M, eM⟩ : ∃ z : Mem, z = s := ⟨_, rfl⟩
    rw [← eM] at hw ⊢
    try dsimp only [w_X12_ahead_l0F] at hw
    try dsimp only
    refine x_aload_n C dX12_ahead_0 rfl rfl ?_
    refine n_getI C fl_X12_249 s135 (fun _ _ => rfl) dX12_ahead_1 ?_
    refine x_aload_n C dX12_ahead_4 rfl rfl ?_
    refine x_bipush (v := (7 : Int32)) C dX12_ahead_5 (by decide) ?_
    refine n_callVI s135 rfl C (ok_X12_many  hw) mv_X12_66 rfl rfl ⟨Nat.le_of_ble_eq_true rfl, Nat.le_of_ble_eq_true rfl⟩ (Nat.le_of_ble_eq_true rfl) dX12_ahead_7 (fun r6 M5 hw => ?_)
    refine x_icmp_ge (tgt := 44) C dX12_ahead_10 (by decide) (fun h7 => ?_) (fun h7 => ?_)
    · replace hw := hw.1 h7
      exact x_sub [0] rfl (ok_X12_ahead_b44 C r  hw)
    · replace hw := hw.2 h7
      refine x_aload_n C dX12_ahead_13 rfl rfl ?_
      refine n_getS (dd := 1) C fl_X12_7 s135 (fun _ _ => rfl) rfl dX12_ahead_14 ?_
      refine x_sipush (v := (4170 : Int32)) C dX12_ahead_17 (by decide) ?_
      refine x_aload_n C dX12_ahead_20 rfl rfl ?_
      refine n_getI C fl_X12_249 s135 (fun _ _ => rfl) dX12_ahead_21 ?_
      refine x_iadd C dX12_ahead_24 ?_
      obtain ⟨h8, hw⟩ := hw
      refine a_iald C s136 ln136 h8 dX12_ahead_25 ?_
      refine x_bipush (v := (32 : Int32)) C dX12_ahead_26 (by decide) ?_
      refine x_icmp_ne (tgt := 44) C dX12_ahead_28 (by decide) (fun h9 => ?_) (fun h9 => ?_)
      · replace hw := hw.1 h9
        exact x_sub [0] rfl (ok_X12_ahead_b44 C r  hw)
      · replace hw := hw.2 h9
        refine x_aload_n C dX12_ahead_31 rfl rfl ?_
        refine x_dup C dX12_ahead_32 rfl ?_
        refine n_getI C fl_X12_249 s135 (fun _ _ => rfl) dX12_ahead_33 ?_
        refine x_iconst (v := (1 : Int32)) C dX12_ahead_36 (by decide) ?_
        refine x_iadd C dX12_ahead_37 ?_
        obtain ⟨M10, eM10⟩ : ∃ z : Mem, z = uI M5 135 22 ((M5.1 135 22) + (1 : Int32)) := ⟨_, rfl⟩
        replace hw := hw M10 eM10
        refine m_putI C fp_X12_249 s135 (fun _ _ => rfl) rfl rfl eM10 dX12_ahead_38 ?_
        refine x_goto (tgt := 0) C dX12_ahead_41 (by decide) ?_
        exact x_sub [0] rfl hw)
def w_X12_ahead (M : Mem) (q : Int32 → Mem → Prop) : Prop := w_X12_ahead_l0 q M
set_option maxRecDepth 100000 in
set_option maxHeartbeats 4000000 in
theorem ok_X12_ahead {g : Gl} {l : Launch} {M : Mem} {q : Int32 → Mem → Prop} (hw : w_X12_ahead M q) : CtI g l yX12_ahead cX12_ahead 1 (some .int) 2 21 [.ref (g.2.2.2 + 135)] M q := by
  refine n_introI (by decide +kernel) (Nat.le_of_ble_eq_true rfl) (fun c C r => ?_)
  have C : Cx c cX12_ahead 1 RX12 g l (Rm 2 21) := C
  refine x_sub [0] (lv' := [(0, .ref (g.2.2.2 + 135))]) rfl ?_
  unfold w_X12_ahead at hw
  exact x_sub [0] rfl (ok_X12_ahead_l0 C r  hw)

def w_X12_rank (v0 : Int32) (M : Mem) (q : Int32 → Mem → Prop) : Prop := ((v0 = (38 : Int32) → q (2 : Int32) M) ∧ (v0 = (42 : Int32) → q (5 : Int32) M) ∧ (v0 = (43 : Int32) → q (4 : Int32) M) ∧ (v0 = (45 : Int32) → q (4 : Int32) M) ∧ (v0 = (47 : Int32) → q (5 : Int32) M) ∧ (v0 = (60 : Int32) → q (3 : Int32) M) ∧ (v0 = (61 : Int32) → q (3 : Int32) M) ∧ (v0 = (62 : Int32) → q (3 : Int32) M) ∧ (v0 = (124 : Int32) → q (1 : Int32) M) ∧ (¬ v0 = (38 : Int32) → ¬ v0 = (42 : Int32) → ¬ v0 = (43 : Int32) → ¬ v0 = (45 : Int32) → ¬ v0 = (47 : Int32) → ¬ v0 = (60 : Int32) → ¬ v0 = (61 : Int32) → ¬ v0 = (62 : Int32) → ¬ v0 = (124 : Int32) → q (0 : Int32) M))
set_option maxRecDepth 100000 in
set_option maxHeartbeats 4000000 in
theorem ok_X12_rank {g : Gl} {l : Launch} {v0 : Int32} {M : Mem} {q : Int32 → Mem → Prop} (hw : w_X12_rank v0 M q) : CtI g l yX12_rank cX12_rank 1 (some .int) 1 0 [.int v0] M q := by
  refine n_introI (by decide +kernel) (Nat.le_of_ble_eq_true rfl) (fun c C r => ?_)
  have C : Cx c cX12_rank 1 RX12 g l (Rm 1 0) := C
  refine x_sub [0] (lv' := [(0, .int v0)]) rfl ?_
  unfold w_X12_rank at hw
  refine x_iload_n C dX12_rank_0 rfl rfl ?_
  by_cases h900 : v0 = (38 : Int32)
  · refine x_lookup (off := 85) (tgt := 86) C dX12_rank_1 (by decide) (by rw [h900]; decide) (by decide) ?_
    replace hw := hw.1 h900
    refine x_iconst (v := (2 : Int32)) C dX12_rank_86 (by decide) ?_
    exact n_ireturn C r dX12_rank_87 hw
  by_cases h901 : v0 = (42 : Int32)
  · refine x_lookup (off := 91) (tgt := 92) C dX12_rank_1 (by decide) (by rw [h901]; decide) (by decide) ?_
    replace hw := hw.2.1 h901
    refine x_iconst (v := (5 : Int32)) C dX12_rank_92 (by decide) ?_
    exact n_ireturn C r dX12_rank_93 hw
  by_cases h902 : v0 = (43 : Int32)
  · refine x_lookup (off := 89) (tgt := 90) C dX12_rank_1 (by decide) (by rw [h902]; decide) (by decide) ?_
    replace hw := hw.2.2.1 h902
    refine x_iconst (v := (4 : Int32)) C dX12_rank_90 (by decide) ?_
    exact n_ireturn C r dX12_rank_91 hw
  by_cases h903 : v0 = (45 : Int32)
  · refine x_lookup (off := 89) (tgt := 90) C dX12_rank_1 (by decide) (by rw [h903]; decide) (by decide) ?_
    replace hw := hw.2.2.2.1 h903
    refine x_iconst (v := (4 : Int32)) C dX12_rank_90 (by decide) ?_
    exact n_ireturn C r dX12_rank_91 hw
  by_cases h904 : v0 = (47 : Int32)
  · refine x_lookup (off := 91) (tgt := 92) C dX12_rank_1 (by decide) (by rw [h904]; decide) (by decide) ?_
    replace hw := hw.2.2.2.2.1 h904
    refine x_iconst (v := (5 : Int32)) C dX12_rank_92 (by decide) ?_
    exact n_ireturn C r dX12_rank_93 hw
  by_cases h905 : v0 = (60 : Int32)
  · refine x_lookup (off := 87) (tgt := 88) C dX12_rank_1 (by decide) (by rw [h905]; decide) (by decide) ?_
    replace hw := hw.2.2.2.2.2.1 h905
    refine x_iconst (v := (3 : Int32)) C dX12_rank_88 (by decide) ?_
    exact n_ireturn C r dX12_rank_89 hw
  by_cases h906 : v0 = (61 : Int32)
  · refine x_lookup (off := 87) (tgt := 88) C dX12_rank_1 (by decide) (by rw [h906]; decide) (by decide) ?_
    replace hw := hw.2.2.2.2.2.2.1 h906
    refine x_iconst (v := (3 : Int32)) C dX12_rank_88 (by decide) ?_
    exact n_ireturn C r dX12_rank_89 hw
  by_cases h907 : v0 = (62 : Int32)
  · refine x_lookup (off := 87) (tgt := 88) C dX12_rank_1 (by decide) (by rw [h907]; decide) (by decide) ?_
    replace hw := hw.2.2.2.2.2.2.2.1 h907
    refine x_iconst (v := (3 : Int32)) C dX12_rank_88 (by decide) ?_
    exact n_ireturn C r dX12_rank_89 hw
  by_cases h908 : v0 = (124 : Int32)
  · refine x_lookup (off := 83) (tgt := 84) C dX12_rank_1 (by decide) (by rw [h908]; decide) (by decide) ?_
    replace hw := hw.2.2.2.2.2.2.2.2.1 h908
    refine x_iconst (v := (1 : Int32)) C dX12_rank_84 (by decide) ?_
    exact n_ireturn C r dX12_rank_85 hw
  refine x_lookup (off := 93) (tgt := 94) C dX12_rank_1 (by decide) (by simp only [lv_osw h900 (show ((38 : Int32)).toInt = 38 by decide), lv_osw h901 (show ((42 : Int32)).toInt = 42 by decide), lv_osw h902 (show ((43 : Int32)).toInt = 43 by decide), lv_osw h903 (show ((45 : Int32)).toInt = 45 by decide), lv_osw h904 (show ((47 : Int32)).toInt = 47 by decide), lv_osw h905 (show ((60 : Int32)).toInt = 60 by decide), lv_osw h906 (show ((61 : Int32)).toInt = 61 by decide), lv_osw h907 (show ((62 : Int32)).toInt = 62 by decide), lv_osw h908 (show ((124 : Int32)).toInt = 124 by decide)]; rfl) (by decide) ?_
  replace hw := hw.2.2.2.2.2.2.2.2.2 h900 h901 h902 h903 h904 h905 h906 h907 h908
  refine x_iconst (v := (0 : Int32)) C dX12_rank_94 (by decide) ?_
  exact n_ireturn C r dX12_rank_95 hw

def w_X12_works_b259 (v5 : Int64) (M : Mem) (q : Mem → Prop) : Prop := vp_in ((M.1 135 25) - (1 : Int32)) 64 ∧ ∀ M2 : Mem, M2 = uJ M 151 (((M.1 135 25) - (1 : Int32))).toNatClampNeg v5 → q M2
set_option maxRecDepth 100000 in
set_option maxHeartbeats 4000000 in
theorem ok_X12_works_b259 {c : CtxT} {g : Gl} {l : Launch} {v5 : Int64} {q : Mem → Prop} {M : Mem} (C : Cx c cX12_works 7 RX12 g l (Rm 1 0)) (r : Rt c (none) (pV q) 0 0) (hw : w_X12_works_b259 v5 M q ) : X c S0 259 [(0, .ref (g.2.2.2 + 135)), (5, .long v5)] [] (stat M) := by
  unfold w_X12_works_b259 at hw
  refine x_aload_n C dX12_works_259 rfl rfl ?_
  refine n_getS (dd := 16) C fl_X12_56 s135 (fun _ _ => rfl) rfl dX12_works_260 ?_
  refine x_aload_n C dX12_works_263 rfl rfl ?_
  refine n_getI C fl_X12_255 s135 (fun _ _ => rfl) dX12_works_264 ?_
  refine x_iconst (v := (1 : Int32)) C dX12_works_267 (by decide) ?_
  refine x_isub C dX12_works_268 ?_
  refine x_lload C dX12_works_269 rfl ?_
  obtain ⟨h1, hw⟩ := hw
  obtain ⟨M2, eM2⟩ : ∃ z : Mem, z = uJ M 151 (((M.1 135 25) - (1 : Int32))).toNatClampNeg v5 := ⟨_, rfl⟩
  replace hw := hw M2 eM2
  refine a_last C s151 ln151 rfl h1 eM2 dX12_works_271 ?_
  exact n_vreturn C r dX12_works_272 hw
def w_X12_works_b167 (t0 : Int64) (M : Mem) (q : Mem → Prop) : Prop := w_X12_works_b259 t0 M q
set_option maxRecDepth 100000 in
set_option maxHeartbeats 4000000 in
theorem ok_X12_works_b167 {c : CtxT} {g : Gl} {l : Launch} {t0 : Int64} {q : Mem → Prop} {M : Mem} (C : Cx c cX12_works 7 RX12 g l (Rm 1 0)) (r : Rt c (none) (pV q) 0 0) (hw : w_X12_works_b167 t0 M q ) : X c S0 167 [(0, .ref (g.2.2.2 + 135))] [.long t0] (stat M) := by
  unfold w_X12_works_b167 at hw
  refine x_lstore C dX12_works_167 (Nat.le_of_ble_eq_true rfl) ?_
  refine x_goto (tgt := 259) C dX12_works_169 (by decide) ?_
  exact x_sub [0, 5] rfl (ok_X12_works_b259 C r  hw)
def w_X12_works_b166 (M : Mem) (q : Mem → Prop) : Prop := w_X12_works_b167 (0 : Int64) M q
set_option maxRecDepth 100000 in
set_option maxHeartbeats 4000000 in
theorem ok_X12_works_b166 {c : CtxT} {g : Gl} {l : Launch} {q : Mem → Prop} {M : Mem} (C : Cx c cX12_works 7 RX12 g l (Rm 1 0)) (r : Rt c (none) (pV q) 0 0) (hw : w_X12_works_b166 M q ) : X c S0 166 [(0, .ref (g.2.2.2 + 135))] [] (stat M) := by
  unfold w_X12_works_b166 at hw
  refine x_lconst (v := (0 : Int64)) C dX12_works_166 (by decide) ?_
  exact x_sub [0] rfl (ok_X12_works_b167 C r  hw)
def w_X12_works_b183 (t0 : Int64) (M : Mem) (q : Mem → Prop) : Prop := w_X12_works_b259 t0 M q
set_option maxRecDepth 100000 in
set_option maxHeartbeats 4000000 in
theorem ok_X12_works_b183 {c : CtxT} {g : Gl} {l : Launch} {t0 : Int64} {q : Mem → Prop} {M : Mem} (C : Cx c cX12_works 7 RX12 g l (Rm 1 0)) (r : Rt c (none) (pV q) 0 0) (hw : w_X12_works_b183 t0 M q ) : X c S0 183 [(0, .ref (g.2.2.2 + 135))] [.long t0] (stat M) := by
  unfold w_X12_works_b183 at hw
  refine x_lstore C dX12_works_183 (Nat.le_of_ble_eq_true rfl) ?_
  refine x_goto (tgt := 259) C dX12_works_185 (by decide) ?_
  exact x_sub [0, 5] rfl (ok_X12_works_b259 C r  hw)
def w_X12_works_b215 (t0 : Int64) (M : Mem) (q : Mem → Prop) : Prop := w_X12_works_b259 t0 M q
set_option maxRecDepth 100000 in
set_option maxHeartbeats 4000000 in
theorem ok_X12_works_b215 {c : CtxT} {g : Gl} {l : Launch} {t0 : Int64} {q : Mem → Prop} {M : Mem} (C : Cx c cX12_works 7 RX12 g l (Rm 1 0)) (r : Rt c (none) (pV q) 0 0) (hw : w_X12_works_b215 t0 M q ) : X c S0 215 [(0, .ref (g.2.2.2 + 135))] [.long t0] (stat M) := by
  unfold w_X12_works_b215 at hw
  refine x_lstore C dX12_works_215 (Nat.le_of_ble_eq_true rfl) ?_
  refine x_goto (tgt := 259) C dX12_works_217 (by decide) ?_
  exact x_sub [0, 5] rfl (ok_X12_works_b259 C r  hw)
def w_X12_works_b199 (t0 : Int64) (M : Mem) (q : Mem → Prop) : Prop := w_X12_works_b259 t0 M q
set_option maxRecDepth 100000 in
set_option maxHeartbeats 4000000 in
theorem ok_X12_works_b199 {c : CtxT} {g : Gl} {l : Launch} {t0 : Int64} {q : Mem → Prop} {M : Mem} (C : Cx c cX12_works 7 RX12 g l (Rm 1 0)) (r : Rt c (none) (pV q) 0 0) (hw : w_X12_works_b199 t0 M q ) : X c S0 199 [(0, .ref (g.2.2.2 + 135))] [.long t0] (stat M) := by
  unfold w_X12_works_b199 at hw
  refine x_lstore C dX12_works_199 (Nat.le_of_ble_eq_true rfl) ?_
  refine x_goto (tgt := 259) C dX12_works_201 (by decide) ?_
  exact x_sub [0, 5] rfl (ok_X12_works_b259 C r  hw)
def w_X12_works_b145 (t0 : Int64) (M : Mem) (q : Mem → Prop) : Prop := w_X12_works_b259 t0 M q
set_option maxRecDepth 100000 in
set_option maxHeartbeats 4000000 in
theorem ok_X12_works_b145 {c : CtxT} {g : Gl} {l : Launch} {t0 : Int64} {q : Mem → Prop} {M : Mem} (C : Cx c cX12_works 7 RX12 g l (Rm 1 0)) (r : Rt c (none) (pV q) 0 0) (hw : w_X12_works_b145 t0 M q ) : X c S0 145 [(0, .ref (g.2.2.2 + 135))] [.long t0] (stat M) := by
  unfold w_X12_works_b145 at hw
  refine x_lstore C dX12_works_145 (Nat.le_of_ble_eq_true rfl) ?_
  refine x_goto (tgt := 259) C dX12_works_147 (by decide) ?_
  exact x_sub [0, 5] rfl (ok_X12_works_b259 C r  hw)
def w_X12_works_b140 (M : Mem) (q : Mem → Prop) : Prop := w_X12_works_b145 (1 : Int64) M q
set_option maxRecDepth 100000 in
set_option maxHeartbeats 4000000 in
theorem ok_X12_works_b140 {c : CtxT} {g : Gl} {l : Launch} {q : Mem → Prop} {M : Mem} (C : Cx c cX12_works 7 RX12 g l (Rm 1 0)) (r : Rt c (none) (pV q) 0 0) (hw : w_X12_works_b140 M q ) : X c S0 140 [(0, .ref (g.2.2.2 + 135))] [] (stat M) := by
  unfold w_X12_works_b140 at hw
  refine x_lconst (v := (1 : Int64)) C dX12_works_140 (by decide) ?_
  refine x_goto (tgt := 145) C dX12_works_141 (by decide) ?_
  exact x_sub [0] rfl (ok_X12_works_b145 C r  hw)
def w_X12_works_b257 (t0 : Int64) (M : Mem) (q : Mem → Prop) : Prop := w_X12_works_b259 t0 M q
set_option maxRecDepth 100000 in
set_option maxHeartbeats 4000000 in
theorem ok_X12_works_b257 {c : CtxT} {g : Gl} {l : Launch} {t0 : Int64} {q : Mem → Prop} {M : Mem} (C : Cx c cX12_works 7 RX12 g l (Rm 1 0)) (r : Rt c (none) (pV q) 0 0) (hw : w_X12_works_b257 t0 M q ) : X c S0 257 [(0, .ref (g.2.2.2 + 135))] [.long t0] (stat M) := by
  unfold w_X12_works_b257 at hw
  refine x_lstore C dX12_works_257 (Nat.le_of_ble_eq_true rfl) ?_
  exact x_sub [0, 5] rfl (ok_X12_works_b259 C r  hw)
def w_X12_works (M : Mem) (q : Mem → Prop) : Prop := ∀ M3 : Mem, M3 = uI M 135 27 ((M.1 135 27) - (1 : Int32)) → ∀ M4 : Mem, M4 = uI M3 135 25 ((M3.1 135 25) - (1 : Int32)) → vp_in ((M4.1 135 25) - (1 : Int32)) 64 ∧ ∀ x6 : Int64, x6 = (M4.2.1 151 (((M4.1 135 25) - (1 : Int32))).toNatClampNeg) → vp_in (M4.1 135 25) 64 ∧ ∀ x8 : Int64, x8 = (M4.2.1 151 ((M4.1 135 25)).toNatClampNeg) → vp_in (M4.1 135 27) 128 ∧ (((M4.1 152 ((M4.1 135 27)).toNatClampNeg) = (38 : Int32) → ((x6 = (0 : Int64) → w_X12_works_b166 M4 q) ∧ (¬ x6 = (0 : Int64) → ((x8 = (0 : Int64) → w_X12_works_b166 M4 q) ∧ (¬ x8 = (0 : Int64) → w_X12_works_b167 (1 : Int64) M4 q))))) ∧ ((M4.1 152 ((M4.1 135 27)).toNatClampNeg) = (42 : Int32) → ∀ x12 : Int64, x12 = (x6 * x8) → w_X12_works_b259 x12 M4 q) ∧ ((M4.1 152 ((M4.1 135 27)).toNatClampNeg) = (43 : Int32) → ∀ x13 : Int64, x13 = (x6 + x8) → w_X12_works_b259 x13 M4 q) ∧ ((M4.1 152 ((M4.1 135 27)).toNatClampNeg) = (45 : Int32) → ∀ x14 : Int64, x14 = (x6 - x8) → w_X12_works_b259 x14 M4 q) ∧ ((M4.1 152 ((M4.1 135 27)).toNatClampNeg) = (60 : Int32) → ((x8 ≤ x6 → w_X12_works_b183 (0 : Int64) M4 q) ∧ (¬ x8 ≤ x6 → w_X12_works_b183 (1 : Int64) M4 q))) ∧ ((M4.1 152 ((M4.1 135 27)).toNatClampNeg) = (61 : Int32) → ((¬ x6 = x8 → w_X12_works_b215 (0 : Int64) M4 q) ∧ (x6 = x8 → w_X12_works_b215 (1 : Int64) M4 q))) ∧ ((M4.1 152 ((M4.1 135 27)).toNatClampNeg) = (62 : Int32) → ((x6 ≤ x8 → w_X12_works_b199 (0 : Int64) M4 q) ∧ (¬ x6 ≤ x8 → w_X12_works_b199 (1 : Int64) M4 q))) ∧ ((M4.1 152 ((M4.1 135 27)).toNatClampNeg) = (124 : Int32) → ((¬ x6 = (0 : Int64) → w_X12_works_b140 M4 q) ∧ (x6 = (0 : Int64) → ((x8 = (0 : Int64) → w_X12_works_b145 (0 : Int64) M4 q) ∧ (¬ x8 = (0 : Int64) → w_X12_works_b140 M4 q))))) ∧ (¬ (M4.1 152 ((M4.1 135 27)).toNatClampNeg) = (38 : Int32) → ¬ (M4.1 152 ((M4.1 135 27)).toNatClampNeg) = (42 : Int32) → ¬ (M4.1 152 ((M4.1 135 27)).toNatClampNeg) = (43 : Int32) → ¬ (M4.1 152 ((M4.1 135 27)).toNatClampNeg) = (45 : Int32) → ¬ (M4.1 152 ((M4.1 135 27)).toNatClampNeg) = (60 : Int32) → ¬ (M4.1 152 ((M4.1 135 27)).toNatClampNeg) = (61 : Int32) → ¬ (M4.1 152 ((M4.1 135 27)).toNatClampNeg) = (62 : Int32) → ¬ (M4.1 152 ((M4.1 135 27)).toNatClampNeg) = (124 : Int32) → ((¬ x8 = (0 : Int64) → ¬ x8 = 0 ∧ w_X12_works_b257 (x6 / x8) M4 q) ∧ (x8 = (0 : Int64) → w_X12_works_b257 (0 : Int64) M4 q))))
set_option maxRecDepth 100000 in
set_option maxHeartbeats 4000000 in
theorem ok_X12_works {g : Gl} {l : Launch} {M : Mem} {q : Mem → Prop} (hw : w_X12_works M q) : CtV g l yX12_works cX12_works 7 none 1 0 [.ref (g.2.2.2 + 135)] M q := by
  refine n_introV (by decide +kernel) (Nat.le_of_ble_eq_true rfl) (fun c C r => ?_)
  have C : Cx c cX12_works 7 RX12 g l (Rm 1 0) := C
  refine x_sub [0] (lv' := [(0, .ref (g.2.2.2 + 135))]) rfl ?_
  unfold w_X12_works at hw
  refine x_aload_n C dX12_works_0 rfl rfl ?_
  refine x_dup C dX12_works_1 rfl ?_
  refine n_getI C fl_X12_252 s135 (fun _ _ => rfl) dX12_works_2 ?_
  refine x_iconst (v := (1 : Int32)) C dX12_works_5 (by decide) ?_
  refine x_isub C dX12_works_6 ?_
  obtain ⟨M3, eM3⟩ : ∃ z : Mem, z = uI M 135 27 ((M.1 135 27) - (1 : Int32)) := ⟨_, rfl⟩
  replace hw := hw M3 eM3
  refine m_putI C fp_X12_252 s135 (fun _ _ => rfl) rfl rfl eM3 dX12_works_7 ?_
  refine x_aload_n C dX12_works_10 rfl rfl ?_
  refine x_dup C dX12_works_11 rfl ?_
  refine n_getI C fl_X12_255 s135 (fun _ _ => rfl) dX12_works_12 ?_
  refine x_iconst (v := (1 : Int32)) C dX12_works_15 (by decide) ?_
  refine x_isub C dX12_works_16 ?_
  obtain ⟨M4, eM4⟩ : ∃ z : Mem, z = uI M3 135 25 ((M3.1 135 25) - (1 : Int32)) := ⟨_, rfl⟩
  replace hw := hw M4 eM4
  refine m_putI C fp_X12_255 s135 (fun _ _ => rfl) rfl rfl eM4 dX12_works_17 ?_
  refine x_aload_n C dX12_works_20 rfl rfl ?_
  refine n_getS (dd := 16) C fl_X12_56 s135 (fun _ _ => rfl) rfl dX12_works_21 ?_
  refine x_aload_n C dX12_works_24 rfl rfl ?_
  refine n_getI C fl_X12_255 s135 (fun _ _ => rfl) dX12_works_25 ?_
  refine x_iconst (v := (1 : Int32)) C dX12_works_28 (by decide) ?_
  refine x_isub C dX12_works_29 ?_
  obtain ⟨h5, hw⟩ := hw
  refine a_lald C s151 ln151 h5 dX12_works_30 ?_
  obtain ⟨x6, ex6⟩ : ∃ z : Int64, z = (M4.2.1 151 (((M4.1 135 25) - (1 : Int32))).toNatClampNeg) := ⟨_, rfl⟩
  replace hw := hw x6 ex6
  refine x_topj ex6 ?_
  refine x_lstore_n C dX12_works_31 rfl (Nat.le_of_ble_eq_true rfl) ?_
  refine x_aload_n C dX12_works_32 rfl rfl ?_
  refine n_getS (dd := 16) C fl_X12_56 s135 (fun _ _ => rfl) rfl dX12_works_33 ?_
  refine x_aload_n C dX12_works_36 rfl rfl ?_
  refine n_getI C fl_X12_255 s135 (fun _ _ => rfl) dX12_works_37 ?_
  obtain ⟨h7, hw⟩ := hw
  refine a_lald C s151 ln151 h7 dX12_works_40 ?_
  obtain ⟨x8, ex8⟩ : ∃ z : Int64, z = (M4.2.1 151 ((M4.1 135 25)).toNatClampNeg) := ⟨_, rfl⟩
  replace hw := hw x8 ex8
  refine x_topj ex8 ?_
  refine x_lstore_n C dX12_works_41 rfl (Nat.le_of_ble_eq_true rfl) ?_
  refine x_lconst (v := (0 : Int64)) C dX12_works_42 (by decide) ?_
  refine x_lstore C dX12_works_43 (Nat.le_of_ble_eq_true rfl) ?_
  refine x_aload_n C dX12_works_45 rfl rfl ?_
  refine n_getS (dd := 17) C fl_X12_60 s135 (fun _ _ => rfl) rfl dX12_works_46 ?_
  refine x_aload_n C dX12_works_49 rfl rfl ?_
  refine n_getI C fl_X12_252 s135 (fun _ _ => rfl) dX12_works_50 ?_
  obtain ⟨h9, hw⟩ := hw
  refine a_iald C s152 ln152 h9 dX12_works_53 ?_
  by_cases h900 : (M4.1 152 ((M4.1 135 27)).toNatClampNeg) = (38 : Int32)
  · refine x_lookup (off := 96) (tgt := 150) C dX12_works_54 (by decide) (by rw [h900]; decide) (by decide) ?_
    replace hw := hw.1 h900
    refine x_lload_n C dX12_works_150 rfl rfl ?_
    refine x_lconst (v := (0 : Int64)) C dX12_works_151 (by decide) ?_
    refine x_lc_eq (tgt := 166) C dX12_works_152 dX12_works_153 (by decide) (fun h10 => ?_) (fun h10 => ?_)
    · replace hw := hw.1 h10
      exact x_sub [0] rfl (ok_X12_works_b166 C r  hw)
    · replace hw := hw.2 h10
      refine x_lload_n C dX12_works_156 rfl rfl ?_
      refine x_lconst (v := (0 : Int64)) C dX12_works_157 (by decide) ?_
      refine x_lc_eq (tgt := 166) C dX12_works_158 dX12_works_159 (by decide) (fun h11 => ?_) (fun h11 => ?_)
      · replace hw := hw.1 h11
        exact x_sub [0] rfl (ok_X12_works_b166 C r  hw)
      · replace hw := hw.2 h11
        refine x_lconst (v := (1 : Int64)) C dX12_works_162 (by decide) ?_
        refine x_goto (tgt := 167) C dX12_works_163 (by decide) ?_
        exact x_sub [0] rfl (ok_X12_works_b167 C r  hw)
  by_cases h901 : (M4.1 152 ((M4.1 135 27)).toNatClampNeg) = (42 : Int32)
  · refine x_lookup (off := 182) (tgt := 236) C dX12_works_54 (by decide) (by rw [h901]; decide) (by decide) ?_
    replace hw := hw.2.1 h901
    refine x_lload_n C dX12_works_236 rfl rfl ?_
    refine x_lload_n C dX12_works_237 rfl rfl ?_
    refine x_lmul C dX12_works_238 ?_
    obtain ⟨x12, ex12⟩ : ∃ z : Int64, z = (x6 * x8) := ⟨_, rfl⟩
    replace hw := hw x12 ex12
    refine x_topj ex12 ?_
    refine x_lstore C dX12_works_239 (Nat.le_of_ble_eq_true rfl) ?_
    refine x_goto (tgt := 259) C dX12_works_241 (by decide) ?_
    exact x_sub [0, 5] rfl (ok_X12_works_b259 C r  hw)
  by_cases h902 : (M4.1 152 ((M4.1 135 27)).toNatClampNeg) = (43 : Int32)
  · refine x_lookup (off := 166) (tgt := 220) C dX12_works_54 (by decide) (by rw [h902]; decide) (by decide) ?_
    replace hw := hw.2.2.1 h902
    refine x_lload_n C dX12_works_220 rfl rfl ?_
    refine x_lload_n C dX12_works_221 rfl rfl ?_
    refine x_ladd C dX12_works_222 ?_
    obtain ⟨x13, ex13⟩ : ∃ z : Int64, z = (x6 + x8) := ⟨_, rfl⟩
    replace hw := hw x13 ex13
    refine x_topj ex13 ?_
    refine x_lstore C dX12_works_223 (Nat.le_of_ble_eq_true rfl) ?_
    refine x_goto (tgt := 259) C dX12_works_225 (by decide) ?_
    exact x_sub [0, 5] rfl (ok_X12_works_b259 C r  hw)
  by_cases h903 : (M4.1 152 ((M4.1 135 27)).toNatClampNeg) = (45 : Int32)
  · refine x_lookup (off := 174) (tgt := 228) C dX12_works_54 (by decide) (by rw [h903]; decide) (by decide) ?_
    replace hw := hw.2.2.2.1 h903
    refine x_lload_n C dX12_works_228 rfl rfl ?_
    refine x_lload_n C dX12_works_229 rfl rfl ?_
    refine x_lsub C dX12_works_230 ?_
    obtain ⟨x14, ex14⟩ : ∃ z : Int64, z = (x6 - x8) := ⟨_, rfl⟩
    replace hw := hw x14 ex14
    refine x_topj ex14 ?_
    refine x_lstore C dX12_works_231 (Nat.le_of_ble_eq_true rfl) ?_
    refine x_goto (tgt := 259) C dX12_works_233 (by decide) ?_
    exact x_sub [0, 5] rfl (ok_X12_works_b259 C r  hw)
  by_cases h904 : (M4.1 152 ((M4.1 135 27)).toNatClampNeg) = (60 : Int32)
  · refine x_lookup (off := 118) (tgt := 172) C dX12_works_54 (by decide) (by rw [h904]; decide) (by decide) ?_
    replace hw := hw.2.2.2.2.1 h904
    refine x_lload_n C dX12_works_172 rfl rfl ?_
    refine x_lload_n C dX12_works_173 rfl rfl ?_
    refine x_lc_ge (tgt := 182) C dX12_works_174 dX12_works_175 (by decide) (fun h15 => ?_) (fun h15 => ?_)
    · replace hw := hw.1 h15
      refine x_lconst (v := (0 : Int64)) C dX12_works_182 (by decide) ?_
      exact x_sub [0] rfl (ok_X12_works_b183 C r  hw)
    · replace hw := hw.2 h15
      refine x_lconst (v := (1 : Int64)) C dX12_works_178 (by decide) ?_
      refine x_goto (tgt := 183) C dX12_works_179 (by decide) ?_
      exact x_sub [0] rfl (ok_X12_works_b183 C r  hw)
  by_cases h905 : (M4.1 152 ((M4.1 135 27)).toNatClampNeg) = (61 : Int32)
  · refine x_lookup (off := 150) (tgt := 204) C dX12_works_54 (by decide) (by rw [h905]; decide) (by decide) ?_
    replace hw := hw.2.2.2.2.2.1 h905
    refine x_lload_n C dX12_works_204 rfl rfl ?_
    refine x_lload_n C dX12_works_205 rfl rfl ?_
    refine x_lc_ne (tgt := 214) C dX12_works_206 dX12_works_207 (by decide) (fun h16 => ?_) (fun h16 => ?_)
    · replace hw := hw.1 h16
      refine x_lconst (v := (0 : Int64)) C dX12_works_214 (by decide) ?_
      exact x_sub [0] rfl (ok_X12_works_b215 C r  hw)
    · replace hw := hw.2 h16
      refine x_lconst (v := (1 : Int64)) C dX12_works_210 (by decide) ?_
      refine x_goto (tgt := 215) C dX12_works_211 (by decide) ?_
      exact x_sub [0] rfl (ok_X12_works_b215 C r  hw)
  by_cases h906 : (M4.1 152 ((M4.1 135 27)).toNatClampNeg) = (62 : Int32)
  · refine x_lookup (off := 134) (tgt := 188) C dX12_works_54 (by decide) (by rw [h906]; decide) (by decide) ?_
    replace hw := hw.2.2.2.2.2.2.1 h906
    refine x_lload_n C dX12_works_188 rfl rfl ?_
    refine x_lload_n C dX12_works_189 rfl rfl ?_
    refine x_lc_le (tgt := 198) C dX12_works_190 dX12_works_191 (by decide) (fun h17 => ?_) (fun h17 => ?_)
    · replace hw := hw.1 h17
      refine x_lconst (v := (0 : Int64)) C dX12_works_198 (by decide) ?_
      exact x_sub [0] rfl (ok_X12_works_b199 C r  hw)
    · replace hw := hw.2 h17
      refine x_lconst (v := (1 : Int64)) C dX12_works_194 (by decide) ?_
      refine x_goto (tgt := 199) C dX12_works_195 (by decide) ?_
      exact x_sub [0] rfl (ok_X12_works_b199 C r  hw)
  by_cases h907 : (M4.1 152 ((M4.1 135 27)).toNatClampNeg) = (124 : Int32)
  · refine x_lookup (off := 74) (tgt := 128) C dX12_works_54 (by decide) (by rw [h907]; decide) (by decide) ?_
    replace hw := hw.2.2.2.2.2.2.2.1 h907
    refine x_lload_n C dX12_works_128 rfl rfl ?_
    refine x_lconst (v := (0 : Int64)) C dX12_works_129 (by decide) ?_
    refine x_lc_ne (tgt := 140) C dX12_works_130 dX12_works_131 (by decide) (fun h18 => ?_) (fun h18 => ?_)
    · replace hw := hw.1 h18
      exact x_sub [0] rfl (ok_X12_works_b140 C r  hw)
    · replace hw := hw.2 h18
      refine x_lload_n C dX12_works_134 rfl rfl ?_
      refine x_lconst (v := (0 : Int64)) C dX12_works_135 (by decide) ?_
      refine x_lc_eq (tgt := 144) C dX12_works_136 dX12_works_137 (by decide) (fun h19 => ?_) (fun h19 => ?_)
      · replace hw := hw.1 h19
        refine x_lconst (v := (0 : Int64)) C dX12_works_144 (by decide) ?_
        exact x_sub [0] rfl (ok_X12_works_b145 C r  hw)
      · replace hw := hw.2 h19
        exact x_sub [0] rfl (ok_X12_works_b140 C r  hw)
  refine x_lookup (off := 190) (tgt := 244) C dX12_works_54 (by decide) (by simp only [lv_osw h900 (show ((38 : Int32)).toInt = 38 by decide), lv_osw h901 (show ((42 : Int32)).toInt = 42 by decide), lv_osw h902 (show ((43 : Int32)).toInt = 43 by decide), lv_osw h903 (show ((45 : Int32)).toInt = 45 by decide), lv_osw h904 (show ((60 : Int32)).toInt = 60 by decide), lv_osw h905 (show ((61 : Int32)).toInt = 61 by decide), lv_osw h906 (show ((62 : Int32)).toInt = 62 by decide), lv_osw h907 (show ((124 : Int32)).toInt = 124 by decide)]; rfl) (by decide) ?_
  replace hw := hw.2.2.2.2.2.2.2.2 h900 h901 h902 h903 h904 h905 h906 h907
  refine x_lload_n C dX12_works_244 rfl rfl ?_
  refine x_lconst (v := (0 : Int64)) C dX12_works_245 (by decide) ?_
  refine x_lc_ne (tgt := 254) C dX12_works_246 dX12_works_247 (by decide) (fun h20 => ?_) (fun h20 => ?_)
  · replace hw := hw.1 h20
    refine x_lload_n C dX12_works_254 rfl rfl ?_
    refine x_lload_n C dX12_works_255 rfl rfl ?_
    obtain ⟨h21, hw⟩ := hw
    refine x_ldiv C dX12_works_256 h21 ?_
    exact x_sub [0] rfl (ok_X12_works_b257 C r  hw)
  · replace hw := hw.2 h20
    refine x_lconst (v := (0 : Int64)) C dX12_works_250 (by decide) ?_
    refine x_goto (tgt := 257) C dX12_works_251 (by decide) ?_
    exact x_sub [0] rfl (ok_X12_works_b257 C r  hw)

def w_X12_worksDown_l0F (v1 : Int32) (q : Mem → Prop) (P0 : Mem → Prop) (s : Mem) : Prop := match s with
  | M => (((M.1 135 27) ≤ 0 → q M) ∧ (¬ (M.1 135 27) ≤ 0 → vp_in ((M.1 135 27) - (1 : Int32)) 128 ∧ (((1000 : Int32) ≤ (M.1 152 (((M.1 135 27) - (1 : Int32))).toNatClampNeg) → q M) ∧ (¬ (1000 : Int32) ≤ (M.1 152 (((M.1 135 27) - (1 : Int32))).toNatClampNeg) → vp_in ((M.1 135 27) - (1 : Int32)) 128 ∧ w_X12_rank (M.1 152 (((M.1 135 27) - (1 : Int32))).toNatClampNeg) M (fun (r6 : Int32) (M5 : Mem) => ((r6 < v1 → q M5) ∧ (¬ r6 < v1 → w_X12_works  M5 (fun (M8 : Mem) => P0 M8))))))))
def w_X12_worksDown_l0 (v1 : Int32) (q : Mem → Prop) (s : Mem) : Prop := lfp (w_X12_worksDown_l0F v1 q ) s
set_option maxRecDepth 100000 in
set_option maxHeartbeats 4000000 in
theorem ok_X12_worksDown_l0 {c : CtxT} {g : Gl} {l : Launch} {v1 : Int32} {q : Mem → Prop} {s : Mem} (C : Cx c cX12_worksDown 2 RX12 g l (Rm 2 26)) (r : Rt c (none) (pV q) 0 0) (hw : w_X12_worksDown_l0 v1 q s) : X c S0 0 [(0, .ref (g.2.2.2 + 135)), (1, .int v1)] [] (stat s) := hw (fun s => X c S0 0 [(0, .ref (g.2.2.2 + 135)), (1, .int v1)] [] (stat s)) (fun s hw => by
    obtain ⟨M, eM⟩ : ∃ z : Mem, z = s := ⟨_, rfl⟩
    rw [← eM] at hw ⊢
    try dsimp only [w_X12_worksDown_l0F] at hw
    try dsimp only
    refine x_aload_n C dX12_worksDown_0 rfl rfl ?_
    refine n_getI C fl_X12_252 s135 (fun _ _ => rfl) dX12_worksDown_1 ?_
    refine x_if_le (tgt := 49) C dX12_worksDown_4 (by decide) (fun h1 => ?_) (fun h1 => ?_)
    · replace hw := hw.1 h1
      exact n_vreturn C r dX12_worksDown_49 hw
    · replace hw := hw.2 h1
      refine x_aload_n C dX12_worksDown_7 rfl rfl ?_
      refine n_getS (dd := 17) C fl_X12_60 s135 (fun _ _ => rfl) rfl dX12_worksDown_8 ?_
      refine x_aload_n C dX12_worksDown_11 rfl rfl ?_
      refine n_getI C fl_X12_252 s135 (fun _ _ => rfl) dX12_worksDown_12 ?_
      refine x_iconst (v := (1 : Int32)) C dX12_worksDown_15 (by decide) ?_
      refine x_isub C dX12_worksDown_16 ?_
      obtain ⟨h2, hw⟩ := hw
      refine a_iald C s152 ln152 h2 dX12_worksDown_17 ?_
      refine x_sipush (v := (1000 : Int32)) C dX12_worksDown_18 (by decide) ?_
      refine x_icmp_ge (tgt := 49) C dX12_worksDown_21 (by decide) (fun h3 => ?_) (fun h3 => ?_)
      · replace hw := hw.1 h3
        exact n_vreturn C r dX12_worksDown_49 hw
      · replace hw := hw.2 h3
        refine x_aload_n C dX12_worksDown_24 rfl rfl ?_
        refine n_getS (dd := 17) C fl_X12_60 s135 (fun _ _ => rfl) rfl dX12_worksDown_25 ?_
        refine x_aload_n C dX12_worksDown_28 rfl rfl ?_
        refine n_getI C fl_X12_252 s135 (fun _ _ => rfl) dX12_worksDown_29 ?_
        refine x_iconst (v := (1 : Int32)) C dX12_worksDown_32 (by decide) ?_
        refine x_isub C dX12_worksDown_33 ?_
        obtain ⟨h4, hw⟩ := hw
        refine a_iald C s152 ln152 h4 dX12_worksDown_34 ?_
        refine n_callSI C (ok_X12_rank  hw) ms_X12_258 rfl rfl ⟨Nat.le_of_ble_eq_true rfl, Nat.le_of_ble_eq_true rfl⟩ (Nat.le_of_ble_eq_true rfl) dX12_worksDown_35 (fun r6 M5 hw => ?_)
        refine x_iload_n C dX12_worksDown_38 rfl rfl ?_
        refine x_icmp_lt (tgt := 49) C dX12_worksDown_39 (by decide) (fun h7 => ?_) (fun h7 => ?_)
        · replace hw := hw.1 h7
          exact n_vreturn C r dX12_worksDown_49 hw
        · replace hw := hw.2 h7
          refine x_aload_n C dX12_worksDown_42 rfl rfl ?_
          refine n_callVV s135 rfl C (ok_X12_works  hw) mv_X12_261 rfl rfl ⟨Nat.le_of_ble_eq_true rfl, Nat.le_of_ble_eq_true rfl⟩ (Nat.le_of_ble_eq_true rfl) dX12_worksDown_43 (fun M8 hw => ?_)
          refine x_goto (tgt := 0) C dX12_worksDown_46 (by decide) ?_
          exact x_sub [0, 1] rfl hw)
def w_X12_worksDown (v1 : Int32) (M : Mem) (q : Mem → Prop) : Prop := w_X12_worksDown_l0 v1 q M
set_option maxRecDepth 100000 in
set_option maxHeartbeats 4000000 in
theorem ok_X12_worksDown {g : Gl} {l : Launch} {v1 : Int32} {M : Mem} {q : Mem → Prop} (hw : w_X12_worksDown v1 M q) : CtV g l yX12_worksDown cX12_worksDown 2 none 2 26 [.ref (g.2.2.2 + 135), .int v1] M q := by
  refine n_introV (by decide +kernel) (Nat.le_of_ble_eq_true rfl) (fun c C r => ?_)
  have C : Cx c cX12_worksDown 2 RX12 g l (Rm 2 26) := C
  refine x_sub [0, 1] (lv' := [(0, .ref (g.2.2.2 + 135)), (1, .int v1)]) rfl ?_
  unfold w_X12_worksDown at hw
  exact x_sub [0, 1] rfl (ok_X12_worksDown_l0 C r  hw)

def w_X12_stands_b73 (v3 : Int64) (M : Mem) (q : Mem → Prop) : Prop := vp_in (M.1 135 25) 64 ∧ ∀ M2 : Mem, M2 = uJ M 151 ((M.1 135 25)).toNatClampNeg v3 → ∀ M3 : Mem, M3 = uI M2 135 25 ((M2.1 135 25) + (1 : Int32)) → q M3
set_option maxRecDepth 100000 in
set_option maxHeartbeats 4000000 in
theorem ok_X12_stands_b73 {c : CtxT} {g : Gl} {l : Launch} {v3 : Int64} {q : Mem → Prop} {M : Mem} (C : Cx c cX12_stands 5 RX12 g l (Rm 1 0)) (r : Rt c (none) (pV q) 0 0) (hw : w_X12_stands_b73 v3 M q ) : X c S0 73 [(0, .ref (g.2.2.2 + 135)), (3, .long v3)] [] (stat M) := by
  unfold w_X12_stands_b73 at hw
  refine x_aload_n C dX12_stands_73 rfl rfl ?_
  refine n_getS (dd := 16) C fl_X12_56 s135 (fun _ _ => rfl) rfl dX12_stands_74 ?_
  refine x_aload_n C dX12_stands_77 rfl rfl ?_
  refine n_getI C fl_X12_255 s135 (fun _ _ => rfl) dX12_stands_78 ?_
  refine x_lload_n C dX12_stands_81 rfl rfl ?_
  obtain ⟨h1, hw⟩ := hw
  obtain ⟨M2, eM2⟩ : ∃ z : Mem, z = uJ M 151 ((M.1 135 25)).toNatClampNeg v3 := ⟨_, rfl⟩
  replace hw := hw M2 eM2
  refine a_last C s151 ln151 rfl h1 eM2 dX12_stands_82 ?_
  refine x_aload_n C dX12_stands_83 rfl rfl ?_
  refine x_dup C dX12_stands_84 rfl ?_
  refine n_getI C fl_X12_255 s135 (fun _ _ => rfl) dX12_stands_85 ?_
  refine x_iconst (v := (1 : Int32)) C dX12_stands_88 (by decide) ?_
  refine x_iadd C dX12_stands_89 ?_
  obtain ⟨M3, eM3⟩ : ∃ z : Mem, z = uI M2 135 25 ((M2.1 135 25) + (1 : Int32)) := ⟨_, rfl⟩
  replace hw := hw M3 eM3
  refine m_putI C fp_X12_255 s135 (fun _ _ => rfl) rfl rfl eM3 dX12_stands_90 ?_
  exact n_vreturn C r dX12_stands_93 hw
def w_X12_stands_b59 (t0 : Int64) (M : Mem) (q : Mem → Prop) (P2 : Int64 × Mem → Prop) : Prop := ∀ M4 : Mem, M4 = uI M 135 27 ((M.1 135 27) - (1 : Int32)) → P2 (t0, M4)
set_option maxRecDepth 100000 in
set_option maxHeartbeats 4000000 in
theorem ok_X12_stands_b59 {c : CtxT} {g : Gl} {l : Launch} {t0 : Int64} {q : Mem → Prop} {P2 : Int64 × Mem → Prop} {M : Mem} (C : Cx c cX12_stands 5 RX12 g l (Rm 1 0)) (r : Rt c (none) (pV q) 0 0) (hP2 : ∀ (v3 : Int64) (M : Mem), P2 (v3, M) → X c S0 2 [(0, .ref (g.2.2.2 + 135)), (3, .long v3)] [] (stat M)) (hw : w_X12_stands_b59 t0 M q P2) : X c S0 59 [(0, .ref (g.2.2.2 + 135))] [.long t0] (stat M) := by
  unfold w_X12_stands_b59 at hw
  refine x_lstore_n C dX12_stands_59 rfl (Nat.le_of_ble_eq_true rfl) ?_
  refine x_aload_n C dX12_stands_60 rfl rfl ?_
  refine x_dup C dX12_stands_61 rfl ?_
  refine n_getI C fl_X12_252 s135 (fun _ _ => rfl) dX12_stands_62 ?_
  refine x_iconst (v := (1 : Int32)) C dX12_stands_65 (by decide) ?_
  refine x_isub C dX12_stands_66 ?_
  obtain ⟨M4, eM4⟩ : ∃ z : Mem, z = uI M 135 27 ((M.1 135 27) - (1 : Int32)) := ⟨_, rfl⟩
  replace hw := hw M4 eM4
  refine m_putI C fp_X12_252 s135 (fun _ _ => rfl) rfl rfl eM4 dX12_stands_67 ?_
  refine x_goto (tgt := 2) C dX12_stands_70 (by decide) ?_
  exact x_sub [0, 3] rfl (hP2 _ _ hw)
def w_X12_stands_l2F (q : Mem → Prop) (P2 : Int64 × Mem → Prop) (s : Int64 × Mem) : Prop := match s with
  | (v3, M) => (((M.1 135 27) ≤ 0 → w_X12_stands_b73 v3 M q) ∧ (¬ (M.1 135 27) ≤ 0 → vp_in ((M.1 135 27) - (1 : Int32)) 128 ∧ (((M.1 152 (((M.1 135 27) - (1 : Int32))).toNatClampNeg) ≤ (1000 : Int32) → w_X12_stands_b73 v3 M q) ∧ (¬ (M.1 152 (((M.1 135 27) - (1 : Int32))).toNatClampNeg) ≤ (1000 : Int32) → vp_in ((M.1 135 27) - (1 : Int32)) 128 ∧ ((¬ (M.1 152 (((M.1 135 27) - (1 : Int32))).toNatClampNeg) = (1001 : Int32) → w_X12_stands_b59 (-v3) M q P2) ∧ ((M.1 152 (((M.1 135 27) - (1 : Int32))).toNatClampNeg) = (1001 : Int32) → ((¬ v3 = (0 : Int64) → w_X12_stands_b59 (0 : Int64) M q P2) ∧ (v3 = (0 : Int64) → w_X12_stands_b59 (1 : Int64) M q P2))))))))
def w_X12_stands_l2 (q : Mem → Prop) (s : Int64 × Mem) : Prop := lfp (w_X12_stands_l2F q ) s
set_option maxRecDepth 100000 in
set_option maxHeartbeats 4000000 in
theorem ok_X12_stands_l2 {c : CtxT} {g : Gl} {l : Launch} {q : Mem → Prop} {s : Int64 × Mem} (C : Cx c cX12_stands 5 RX12 g l (Rm 1 0)) (r : Rt c (none) (pV q) 0 0) (hw : w_X12_stands_l2 q s) : X c S0 2 [(0, .ref (g.2.2.2 + 135)), (3, .long s.1)] [] (stat s.2) := hw (fun s => X c S0 2 [(0, .ref (g.2.2.2 + 135)), (3, .long s.1)] [] (stat s.2)) (fun s hw => by
    obtain ⟨v3, M⟩ := s
    try dsimp only [w_X12_stands_l2F] at hw
    try dsimp only
    refine x_aload_n C dX12_stands_2 rfl rfl ?_
    refine n_getI C fl_X12_252 s135 (fun _ _ => rfl) dX12_stands_3 ?_
    refine x_if_le (tgt := 73) C dX12_stands_6 (by decide) (fun h5 => ?_) (fun h5 => ?_)
    · replace hw := hw.1 h5
      exact x_sub [0, 3] rfl (ok_X12_stands_b73 C r  hw)
    · replace hw := hw.2 h5
      refine x_aload_n C dX12_stands_9 rfl rfl ?_
      refine n_getS (dd := 17) C fl_X12_60 s135 (fun _ _ => rfl) rfl dX12_stands_10 ?_
      refine x_aload_n C dX12_stands_13 rfl rfl ?_
      refine n_getI C fl_X12_252 s135 (fun _ _ => rfl) dX12_stands_14 ?_
      refine x_iconst (v := (1 : Int32)) C dX12_stands_17 (by decide) ?_
      refine x_isub C dX12_stands_18 ?_
      obtain ⟨h6, hw⟩ := hw
      refine a_iald C s152 ln152 h6 dX12_stands_19 ?_
      refine x_sipush (v := (1000 : Int32)) C dX12_stands_20 (by decide) ?_
      refine x_icmp_le (tgt := 73) C dX12_stands_23 (by decide) (fun h7 => ?_) (fun h7 => ?_)
      · replace hw := hw.1 h7
        exact x_sub [0, 3] rfl (ok_X12_stands_b73 C r  hw)
      · replace hw := hw.2 h7
        refine x_aload_n C dX12_stands_26 rfl rfl ?_
        refine n_getS (dd := 17) C fl_X12_60 s135 (fun _ _ => rfl) rfl dX12_stands_27 ?_
        refine x_aload_n C dX12_stands_30 rfl rfl ?_
        refine n_getI C fl_X12_252 s135 (fun _ _ => rfl) dX12_stands_31 ?_
        refine x_iconst (v := (1 : Int32)) C dX12_stands_34 (by decide) ?_
        refine x_isub C dX12_stands_35 ?_
        obtain ⟨h8, hw⟩ := hw
        refine a_iald C s152 ln152 h8 dX12_stands_36 ?_
        refine x_sipush (v := (1001 : Int32)) C dX12_stands_37 (by decide) ?_
        refine x_icmp_ne (tgt := 57) C dX12_stands_40 (by decide) (fun h9 => ?_) (fun h9 => ?_)
        · replace hw := hw.1 h9
          refine x_lload_n C dX12_stands_57 rfl rfl ?_
          refine x_lneg C dX12_stands_58 ?_
          exact x_sub [0] rfl (ok_X12_stands_b59 C r (fun _ _ h => h) hw)
        · replace hw := hw.2 h9
          refine x_lload_n C dX12_stands_43 rfl rfl ?_
          refine x_lconst (v := (0 : Int64)) C dX12_stands_44 (by decide) ?_
          refine x_lc_ne (tgt := 53) C dX12_stands_45 dX12_stands_46 (by decide) (fun h10 => ?_) (fun h10 => ?_)
          · replace hw := hw.1 h10
            refine x_lconst (v := (0 : Int64)) C dX12_stands_53 (by decide) ?_
            refine x_goto (tgt := 59) C dX12_stands_54 (by decide) ?_
            exact x_sub [0] rfl (ok_X12_stands_b59 C r (fun _ _ h => h) hw)
          · replace hw := hw.2 h10
            refine x_lconst (v := (1 : Int64)) C dX12_stands_49 (by decide) ?_
            refine x_goto (tgt := 59) C dX12_stands_50 (by decide) ?_
            exact x_sub [0] rfl (ok_X12_stands_b59 C r (fun _ _ h => h) hw))
def w_X12_stands (v1 : Int64) (M : Mem) (q : Mem → Prop) : Prop := w_X12_stands_l2 q (v1, M)
set_option maxRecDepth 100000 in
set_option maxHeartbeats 4000000 in
theorem ok_X12_stands {g : Gl} {l : Launch} {v1 : Int64} {M : Mem} {q : Mem → Prop} (hw : w_X12_stands v1 M q) : CtV g l yX12_stands cX12_stands 5 none 1 0 [.ref (g.2.2.2 + 135), .long v1] M q := by
  refine n_introV (by decide +kernel) (Nat.le_of_ble_eq_true rfl) (fun c C r => ?_)
  have C : Cx c cX12_stands 5 RX12 g l (Rm 1 0) := C
  refine x_sub [0, 1] (lv' := [(0, .ref (g.2.2.2 + 135)), (1, .long v1)]) rfl ?_
  unfold w_X12_stands at hw
  refine x_lload_n C dX12_stands_0 rfl rfl ?_
  refine x_lstore_n C dX12_stands_1 rfl (Nat.le_of_ble_eq_true rfl) ?_
  exact x_sub [0, 3] rfl (ok_X12_stands_l2 C r  hw)

def w_X12_nameOf (v1 : Int32) (M : Mem) (q : Int32 → Mem → Prop) : Prop := ((¬ v1 = (110 : Int32) → ((¬ v1 = (109 : Int32) → ((¬ v1 = (108 : Int32) → ((¬ v1 = (103 : Int32) → ((¬ v1 = (112 : Int32) → ((¬ v1 = (98 : Int32) → q (-1 : Int32) M) ∧ (v1 = (98 : Int32) → q (5 : Int32) M))) ∧ (v1 = (112 : Int32) → q (4 : Int32) M))) ∧ (v1 = (103 : Int32) → q (3 : Int32) M))) ∧ (v1 = (108 : Int32) → q (2 : Int32) M))) ∧ (v1 = (109 : Int32) → q (1 : Int32) M))) ∧ (v1 = (110 : Int32) → q (0 : Int32) M))
set_option maxRecDepth 100000 in
set_option maxHeartbeats 4000000 in
theorem ok_X12_nameOf {g : Gl} {l : Launch} {v1 : Int32} {M : Mem} {q : Int32 → Mem → Prop} (hw : w_X12_nameOf v1 M q) : CtI g l yX12_nameOf cX12_nameOf 2 (some .int) 1 0 [.ref (g.2.2.2 + 135), .int v1] M q := by
  refine n_introI (by decide +kernel) (Nat.le_of_ble_eq_true rfl) (fun c C r => ?_)
  have C : Cx c cX12_nameOf 2 RX12 g l (Rm 1 0) := C
  refine x_sub [0, 1] (lv' := [(0, .ref (g.2.2.2 + 135)), (1, .int v1)]) rfl ?_
  unfold w_X12_nameOf at hw
  refine x_iload_n C dX12_nameOf_0 rfl rfl ?_
  refine x_bipush (v := (110 : Int32)) C dX12_nameOf_1 (by decide) ?_
  refine x_icmp_ne (tgt := 10) C dX12_nameOf_3 (by decide) (fun h1 => ?_) (fun h1 => ?_)
  · replace hw := hw.1 h1
    refine x_iload_n C dX12_nameOf_10 rfl rfl ?_
    refine x_bipush (v := (109 : Int32)) C dX12_nameOf_11 (by decide) ?_
    refine x_icmp_ne (tgt := 20) C dX12_nameOf_13 (by decide) (fun h2 => ?_) (fun h2 => ?_)
    · replace hw := hw.1 h2
      refine x_iload_n C dX12_nameOf_20 rfl rfl ?_
      refine x_bipush (v := (108 : Int32)) C dX12_nameOf_21 (by decide) ?_
      refine x_icmp_ne (tgt := 30) C dX12_nameOf_23 (by decide) (fun h3 => ?_) (fun h3 => ?_)
      · replace hw := hw.1 h3
        refine x_iload_n C dX12_nameOf_30 rfl rfl ?_
        refine x_bipush (v := (103 : Int32)) C dX12_nameOf_31 (by decide) ?_
        refine x_icmp_ne (tgt := 40) C dX12_nameOf_33 (by decide) (fun h4 => ?_) (fun h4 => ?_)
        · replace hw := hw.1 h4
          refine x_iload_n C dX12_nameOf_40 rfl rfl ?_
          refine x_bipush (v := (112 : Int32)) C dX12_nameOf_41 (by decide) ?_
          refine x_icmp_ne (tgt := 50) C dX12_nameOf_43 (by decide) (fun h5 => ?_) (fun h5 => ?_)
          · replace hw := hw.1 h5
            refine x_iload_n C dX12_nameOf_50 rfl rfl ?_
            refine x_bipush (v := (98 : Int32)) C dX12_nameOf_51 (by decide) ?_
            refine x_icmp_ne (tgt := 60) C dX12_nameOf_53 (by decide) (fun h6 => ?_) (fun h6 => ?_)
            · replace hw := hw.1 h6
              refine x_iconst (v := (-1 : Int32)) C dX12_nameOf_60 (by decide) ?_
              exact n_ireturn C r dX12_nameOf_61 hw
            · replace hw := hw.2 h6
              refine x_iconst (v := (5 : Int32)) C dX12_nameOf_56 (by decide) ?_
              refine x_goto (tgt := 61) C dX12_nameOf_57 (by decide) ?_
              exact n_ireturn C r dX12_nameOf_61 hw
          · replace hw := hw.2 h5
            refine x_iconst (v := (4 : Int32)) C dX12_nameOf_46 (by decide) ?_
            refine x_goto (tgt := 61) C dX12_nameOf_47 (by decide) ?_
            exact n_ireturn C r dX12_nameOf_61 hw
        · replace hw := hw.2 h4
          refine x_iconst (v := (3 : Int32)) C dX12_nameOf_36 (by decide) ?_
          refine x_goto (tgt := 61) C dX12_nameOf_37 (by decide) ?_
          exact n_ireturn C r dX12_nameOf_61 hw
      · replace hw := hw.2 h3
        refine x_iconst (v := (2 : Int32)) C dX12_nameOf_26 (by decide) ?_
        refine x_goto (tgt := 61) C dX12_nameOf_27 (by decide) ?_
        exact n_ireturn C r dX12_nameOf_61 hw
    · replace hw := hw.2 h2
      refine x_iconst (v := (1 : Int32)) C dX12_nameOf_16 (by decide) ?_
      refine x_goto (tgt := 61) C dX12_nameOf_17 (by decide) ?_
      exact n_ireturn C r dX12_nameOf_61 hw
  · replace hw := hw.2 h1
    refine x_iconst (v := (0 : Int32)) C dX12_nameOf_6 (by decide) ?_
    refine x_goto (tgt := 61) C dX12_nameOf_7 (by decide) ?_
    exact n_ireturn C r dX12_nameOf_61 hw

def w_X12_digits_l7F (v1 : Int32) (q : Int64 → Mem → Prop) (P7 : Int64 × Mem → Prop) (s : Int64 × Mem) : Prop := match s with
  | (v2, M) => w_X12_many (7 : Int32) M (fun (r2 : Int32) (M1 : Mem) => ((r2 ≤ (M.1 135 22) → q v2 M1) ∧ (¬ r2 ≤ (M.1 135 22) → vp_in ((4170 : Int32) + (M1.1 135 22)) 4230 ∧ w_X12_in ((M1.1 136 (((4170 : Int32) + (M1.1 135 22))).toNatClampNeg)).toInt64 (48 : Int64) (57 : Int64) M1 (fun (r6 : Int32) (M5 : Mem) => ((r6 = 0 → q v2 M5) ∧ (¬ r6 = 0 → ((¬ ((M5.1 135 22) - v1) = (6 : Int32) → vp_in ((4170 : Int32) + (M5.1 135 22)) 4230 ∧ ∀ x10 : Int64, x10 = ((((10 : Int64) * v2) + ((M5.1 136 (((4170 : Int32) + (M5.1 135 22))).toNatClampNeg)).toInt64) - (48 : Int64)) → ∀ M11 : Mem, M11 = uI M5 135 22 ((M5.1 135 22) + (1 : Int32)) → P7 (x10, M11)) ∧ (((M5.1 135 22) - v1) = (6 : Int32) → ∀ M12 : Mem, M12 = uI M5 135 23 (((10 : Int32) * v1) + (2 : Int32)) → q (0 : Int64) M12))))))))
def w_X12_digits_l7 (v1 : Int32) (q : Int64 → Mem → Prop) (s : Int64 × Mem) : Prop := lfp (w_X12_digits_l7F v1 q ) s
set_option maxRecDepth 100000 in
set_option maxHeartbeats 4000000 in
theorem ok_X12_digits_l7 {c : CtxT} {g : Gl} {l : Launch} {v1 : Int32} {q : Int64 → Mem → Prop} {s : Int64 × Mem} (C : Cx c cX12_digits 4 RX12 g l (Rm 2 25)) (r : Rt c (some .long) (pJ q) 0 0) (hw : w_X12_digits_l7 v1 q s) : X c S0 7 [(0, .ref (g.2.2.2 + 135)), (1, .int v1), (2, .long s.1)] [] (stat s.2) := hw (fun s => X c S0 7 [(0, .ref (g.2.2.2 + 135)), (1, .int v1), (2, .long s.1)] [] (stat s.2)) (fun s hw => by
    obtain ⟨v2, M⟩ := s
    try dsimp only [w_X12_digits_l7F] at hw
    try dsimp only
    refine x_aload_n C dX12_digits_7 rfl rfl ?_
    refine n_getI C fl_X12_249 s135 (fun _ _ => rfl) dX12_digits_8 ?_
    refine x_aload_n C dX12_digits_11 rfl rfl ?_
    refine x_bipush (v := (7 : Int32)) C dX12_digits_12 (by decide) ?_
    refine n_callVI s135 rfl C (ok_X12_many  hw) mv_X12_66 rfl rfl ⟨Nat.le_of_ble_eq_true rfl, Nat.le_of_ble_eq_true rfl⟩ (Nat.le_of_ble_eq_true rfl) dX12_digits_14 (fun r2 M1 hw => ?_)
    refine x_icmp_ge (tgt := 107) C dX12_digits_17 (by decide) (fun h3 => ?_) (fun h3 => ?_)
    · replace hw := hw.1 h3
      refine x_lload_n C dX12_digits_107 rfl rfl ?_
      exact n_lreturn C r dX12_digits_108 hw
    · replace hw := hw.2 h3
      refine x_aload_n C dX12_digits_20 rfl rfl ?_
      refine n_getS (dd := 1) C fl_X12_7 s135 (fun _ _ => rfl) rfl dX12_digits_21 ?_
      refine x_sipush (v := (4170 : Int32)) C dX12_digits_24 (by decide) ?_
      refine x_aload_n C dX12_digits_27 rfl rfl ?_
      refine n_getI C fl_X12_249 s135 (fun _ _ => rfl) dX12_digits_28 ?_
      refine x_iadd C dX12_digits_31 ?_
      obtain ⟨h4, hw⟩ := hw
      refine a_iald C s136 ln136 h4 dX12_digits_32 ?_
      refine x_i2l C dX12_digits_33 ?_
      refine x_ldc2_w (v := (48 : Int64)) C dX12_digits_34 kc_X12_264 ?_
      refine x_ldc2_w (v := (57 : Int64)) C dX12_digits_37 kc_X12_266 ?_
      refine n_callSI C (ok_X12_in  hw) ms_X12_70 rfl rfl ⟨Nat.le_of_ble_eq_true rfl, Nat.le_of_ble_eq_true rfl⟩ (Nat.le_of_ble_eq_true rfl) dX12_digits_40 (fun r6 M5 hw => ?_)
      refine x_if_eq (tgt := 107) C dX12_digits_43 (by decide) (fun h7 => ?_) (fun h7 => ?_)
      · replace hw := hw.1 h7
        refine x_lload_n C dX12_digits_107 rfl rfl ?_
        exact n_lreturn C r dX12_digits_108 hw
      · replace hw := hw.2 h7
        refine x_aload_n C dX12_digits_46 rfl rfl ?_
        refine n_getI C fl_X12_249 s135 (fun _ _ => rfl) dX12_digits_47 ?_
        refine x_iload_n C dX12_digits_50 rfl rfl ?_
        refine x_isub C dX12_digits_51 ?_
        refine x_bipush (v := (6 : Int32)) C dX12_digits_52 (by decide) ?_
        refine x_icmp_ne (tgt := 69) C dX12_digits_54 (by decide) (fun h8 => ?_) (fun h8 => ?_)
        · replace hw := hw.1 h8
          refine x_ldc2_w (v := (10 : Int64)) C dX12_digits_69 kc_X12_271 ?_
          refine x_lload_n C dX12_digits_72 rfl rfl ?_
          refine x_lmul C dX12_digits_73 ?_
          refine x_aload_n C dX12_digits_74 rfl rfl ?_
          refine n_getS (dd := 1) C fl_X12_7 s135 (fun _ _ => rfl) rfl dX12_digits_75 ?_
          refine x_sipush (v := (4170 : Int32)) C dX12_digits_78 (by decide) ?_
          refine x_aload_n C dX12_digits_81 rfl rfl ?_
          refine n_getI C fl_X12_249 s135 (fun _ _ => rfl) dX12_digits_82 ?_
          refine x_iadd C dX12_digits_85 ?_
          obtain ⟨h9, hw⟩ := hw
          refine a_iald C s136 ln136 h9 dX12_digits_86 ?_
          refine x_i2l C dX12_digits_87 ?_
          refine x_ladd C dX12_digits_88 ?_
          refine x_ldc2_w (v := (48 : Int64)) C dX12_digits_89 kc_X12_264 ?_
          refine x_lsub C dX12_digits_92 ?_
          obtain ⟨x10, ex10⟩ : ∃ z : Int64, z = ((((10 : Int64) * v2) + ((M5.1 136 (((4170 : Int32) + (M5.1 135 22))).toNatClampNeg)).toInt64) - (48 : Int64)) := ⟨_, rfl⟩
          replace hw := hw x10 ex10
          refine x_topj ex10 ?_
          refine x_lstore_n C dX12_digits_93 rfl (Nat.le_of_ble_eq_true rfl) ?_
          refine x_aload_n C dX12_digits_94 rfl rfl ?_
          refine x_dup C dX12_digits_95 rfl ?_
          refine n_getI C fl_X12_249 s135 (fun _ _ => rfl) dX12_digits_96 ?_
          refine x_iconst (v := (1 : Int32)) C dX12_digits_99 (by decide) ?_
          refine x_iadd C dX12_digits_100 ?_
          obtain ⟨M11, eM11⟩ : ∃ z : Mem, z = uI M5 135 22 ((M5.1 135 22) + (1 : Int32)) := ⟨_, rfl⟩
          replace hw := hw M11 eM11
          refine m_putI C fp_X12_249 s135 (fun _ _ => rfl) rfl rfl eM11 dX12_digits_101 ?_
          refine x_goto (tgt := 7) C dX12_digits_104 (by decide) ?_
          exact x_sub [0, 1, 2] rfl hw
        · replace hw := hw.2 h8
          refine x_aload_n C dX12_digits_57 rfl rfl ?_
          refine x_bipush (v := (10 : Int32)) C dX12_digits_58 (by decide) ?_
          refine x_iload_n C dX12_digits_60 rfl rfl ?_
          refine x_imul C dX12_digits_61 ?_
          refine x_iconst (v := (2 : Int32)) C dX12_digits_62 (by decide) ?_
          refine x_iadd C dX12_digits_63 ?_
          obtain ⟨M12, eM12⟩ : ∃ z : Mem, z = uI M5 135 23 (((10 : Int32) * v1) + (2 : Int32)) := ⟨_, rfl⟩
          replace hw := hw M12 eM12
          refine m_putI C fp_X12_268 s135 (fun _ _ => rfl) rfl rfl eM12 dX12_digits_64 ?_
          refine x_lconst (v := (0 : Int64)) C dX12_digits_67 (by decide) ?_
          exact n_lreturn C r dX12_digits_68 hw)
def w_X12_digits (M : Mem) (q : Int64 → Mem → Prop) : Prop := ∀ x13 : Int32, x13 = (M.1 135 22) → w_X12_digits_l7 x13 q ((0 : Int64), M)
set_option maxRecDepth 100000 in
set_option maxHeartbeats 4000000 in
theorem ok_X12_digits {g : Gl} {l : Launch} {M : Mem} {q : Int64 → Mem → Prop} (hw : w_X12_digits M q) : CtJ g l yX12_digits cX12_digits 4 (some .long) 2 25 [.ref (g.2.2.2 + 135)] M q := by
  refine n_introJ (by decide +kernel) (Nat.le_of_ble_eq_true rfl) (fun c C r => ?_)
  have C : Cx c cX12_digits 4 RX12 g l (Rm 2 25) := C
  refine x_sub [0] (lv' := [(0, .ref (g.2.2.2 + 135))]) rfl ?_
  unfold w_X12_digits at hw
  refine x_aload_n C dX12_digits_0 rfl rfl ?_
  refine n_getI C fl_X12_249 s135 (fun _ _ => rfl) dX12_digits_1 ?_
  obtain ⟨x13, ex13⟩ : ∃ z : Int32, z = (M.1 135 22) := ⟨_, rfl⟩
  replace hw := hw x13 ex13
  refine x_topi ex13 ?_
  refine x_istore_n C dX12_digits_4 rfl (Nat.le_of_ble_eq_true rfl) ?_
  refine x_lconst (v := (0 : Int64)) C dX12_digits_5 (by decide) ?_
  refine x_lstore_n C dX12_digits_6 rfl (Nat.le_of_ble_eq_true rfl) ?_
  exact x_sub [0, 1, 2] rfl (ok_X12_digits_l7 C r  hw)

def w_X12_reads_b509 (t1 : Int64) (M : Mem) (q : Int32 → Mem → Prop) : Prop := ∀ M1 : Mem, M1 = uJ M 135 29 t1 → ((¬ (M1.1 135 23) = (-1 : Int32) → q (0 : Int32) M1) ∧ ((M1.1 135 23) = (-1 : Int32) → q (1 : Int32) M1))
set_option maxRecDepth 100000 in
set_option maxHeartbeats 4000000 in
theorem ok_X12_reads_b509 {c : CtxT} {g : Gl} {l : Launch} {t1 : Int64} {q : Int32 → Mem → Prop} {M : Mem} (C : Cx c cX12_reads 5 RX12 g l (Rm 3 48)) (r : Rt c (some .boolean) (pI q) 0 0) (hw : w_X12_reads_b509 t1 M q ) : X c S0 509 [(0, .ref (g.2.2.2 + 135))] [.long t1, .ref (g.2.2.2 + 135)] (stat M) := by
  unfold w_X12_reads_b509 at hw
  obtain ⟨M1, eM1⟩ : ∃ z : Mem, z = uJ M 135 29 t1 := ⟨_, rfl⟩
  replace hw := hw M1 eM1
  refine m_putJ C fp_X12_290 s135 (fun _ _ => rfl) rfl rfl eM1 dX12_reads_509 ?_
  refine x_aload_n C dX12_reads_512 rfl rfl ?_
  refine n_getI C fl_X12_268 s135 (fun _ _ => rfl) dX12_reads_513 ?_
  refine x_iconst (v := (-1 : Int32)) C dX12_reads_516 (by decide) ?_
  refine x_icmp_ne (tgt := 524) C dX12_reads_517 (by decide) (fun h2 => ?_) (fun h2 => ?_)
  · replace hw := hw.1 h2
    refine x_iconst (v := (0 : Int32)) C dX12_reads_524 (by decide) ?_
    exact n_zreturn C r dX12_reads_525 (Or.inl rfl) hw
  · replace hw := hw.2 h2
    refine x_iconst (v := (1 : Int32)) C dX12_reads_520 (by decide) ?_
    refine x_goto (tgt := 525) C dX12_reads_521 (by decide) ?_
    exact n_zreturn C r dX12_reads_525 (Or.inr rfl) hw
def w_X12_reads_b490 (M : Mem) (q : Int32 → Mem → Prop) : Prop := ((¬ (M.1 135 23) = (-1 : Int32) → w_X12_reads_b509 (0 : Int64) M q) ∧ ((M.1 135 23) = (-1 : Int32) → w_X12_reads_b509 (M.2.1 151 0) M q))
set_option maxRecDepth 100000 in
set_option maxHeartbeats 4000000 in
theorem ok_X12_reads_b490 {c : CtxT} {g : Gl} {l : Launch} {q : Int32 → Mem → Prop} {M : Mem} (C : Cx c cX12_reads 5 RX12 g l (Rm 3 48)) (r : Rt c (some .boolean) (pI q) 0 0) (hw : w_X12_reads_b490 M q ) : X c S0 490 [(0, .ref (g.2.2.2 + 135))] [] (stat M) := by
  unfold w_X12_reads_b490 at hw
  refine x_aload_n C dX12_reads_490 rfl rfl ?_
  refine x_aload_n C dX12_reads_491 rfl rfl ?_
  refine n_getI C fl_X12_268 s135 (fun _ _ => rfl) dX12_reads_492 ?_
  refine x_iconst (v := (-1 : Int32)) C dX12_reads_495 (by decide) ?_
  refine x_icmp_ne (tgt := 508) C dX12_reads_496 (by decide) (fun h3 => ?_) (fun h3 => ?_)
  · replace hw := hw.1 h3
    refine x_lconst (v := (0 : Int64)) C dX12_reads_508 (by decide) ?_
    exact x_sub [0] rfl (ok_X12_reads_b509 C r  hw)
  · replace hw := hw.2 h3
    refine x_aload_n C dX12_reads_499 rfl rfl ?_
    refine n_getS (dd := 16) C fl_X12_56 s135 (fun _ _ => rfl) rfl dX12_reads_500 ?_
    refine x_iconst (v := (0 : Int32)) C dX12_reads_503 (by decide) ?_
    refine a_laldL (ni := 0) C s151 ln151 (by decide) (vin _ _ (by decide +kernel)) dX12_reads_504 ?_
    refine x_goto (tgt := 509) C dX12_reads_505 (by decide) ?_
    exact x_sub [0] rfl (ok_X12_reads_b509 C r  hw)
def w_X12_reads_b487 (v1 : Int32) (v2 : Int32) (v3 : Int32) (M : Mem) (q : Int32 → Mem → Prop) (P26 : Int32 × Int32 × Int32 × Mem → Prop) : Prop := P26 (v1, v2, v3, M)
set_option maxRecDepth 100000 in
set_option maxHeartbeats 4000000 in
theorem ok_X12_reads_b487 {c : CtxT} {g : Gl} {l : Launch} {v1 : Int32} {v2 : Int32} {v3 : Int32} {q : Int32 → Mem → Prop} {P26 : Int32 × Int32 × Int32 × Mem → Prop} {M : Mem} (C : Cx c cX12_reads 5 RX12 g l (Rm 3 48)) (r : Rt c (some .boolean) (pI q) 0 0) (hP26 : ∀ (v1 : Int32) (v2 : Int32) (v3 : Int32) (M : Mem), P26 (v1, v2, v3, M) → X c S0 26 [(0, .ref (g.2.2.2 + 135)), (1, .int v1), (2, .int v2), (3, .int v3)] [] (stat M)) (hw : w_X12_reads_b487 v1 v2 v3 M q P26) : X c S0 487 [(0, .ref (g.2.2.2 + 135)), (1, .int v1), (2, .int v2), (3, .int v3)] [] (stat M) := by
  unfold w_X12_reads_b487 at hw
  refine x_goto (tgt := 26) C dX12_reads_487 (by decide) ?_
  exact x_sub [0, 1, 2, 3] rfl (hP26 _ _ _ _ hw)
def w_X12_reads_b474 (v1 : Int32) (v2 : Int32) (v3 : Int32) (M : Mem) (q : Int32 → Mem → Prop) (P26 : Int32 × Int32 × Int32 × Mem → Prop) : Prop := ∀ M4 : Mem, M4 = uI M 135 23 (((10 : Int32) * (M.1 135 22)) + (1 : Int32)) → w_X12_reads_b487 v1 v2 v3 M4 q P26
set_option maxRecDepth 100000 in
set_option maxHeartbeats 4000000 in
theorem ok_X12_reads_b474 {c : CtxT} {g : Gl} {l : Launch} {v1 : Int32} {v2 : Int32} {v3 : Int32} {q : Int32 → Mem → Prop} {P26 : Int32 × Int32 × Int32 × Mem → Prop} {M : Mem} (C : Cx c cX12_reads 5 RX12 g l (Rm 3 48)) (r : Rt c (some .boolean) (pI q) 0 0) (hP26 : ∀ (v1 : Int32) (v2 : Int32) (v3 : Int32) (M : Mem), P26 (v1, v2, v3, M) → X c S0 26 [(0, .ref (g.2.2.2 + 135)), (1, .int v1), (2, .int v2), (3, .int v3)] [] (stat M)) (hw : w_X12_reads_b474 v1 v2 v3 M q P26) : X c S0 474 [(0, .ref (g.2.2.2 + 135)), (1, .int v1), (2, .int v2), (3, .int v3)] [] (stat M) := by
  unfold w_X12_reads_b474 at hw
  refine x_aload_n C dX12_reads_474 rfl rfl ?_
  refine x_bipush (v := (10 : Int32)) C dX12_reads_475 (by decide) ?_
  refine x_aload_n C dX12_reads_477 rfl rfl ?_
  refine n_getI C fl_X12_249 s135 (fun _ _ => rfl) dX12_reads_478 ?_
  refine x_imul C dX12_reads_481 ?_
  refine x_iconst (v := (1 : Int32)) C dX12_reads_482 (by decide) ?_
  refine x_iadd C dX12_reads_483 ?_
  obtain ⟨M4, eM4⟩ : ∃ z : Mem, z = uI M 135 23 (((10 : Int32) * (M.1 135 22)) + (1 : Int32)) := ⟨_, rfl⟩
  replace hw := hw M4 eM4
  refine m_putI C fp_X12_268 s135 (fun _ _ => rfl) rfl rfl eM4 dX12_reads_484 ?_
  exact x_sub [0, 1, 2, 3] rfl (ok_X12_reads_b487 C r hP26 hw)
def w_X12_reads_b418 (v1 : Int32) (v3 : Int32) (v4 : Int32) (M : Mem) (q : Int32 → Mem → Prop) (P26 : Int32 × Int32 × Int32 × Mem → Prop) : Prop := ∀ M5 : Mem, M5 = uI M 135 22 ((M.1 135 22) + (1 : Int32)) → vp_in (M5.1 135 27) 128 ∧ ∀ M7 : Mem, M7 = uI M5 152 ((M5.1 135 27)).toNatClampNeg v4 → ∀ M8 : Mem, M8 = uI M7 135 27 ((M7.1 135 27) + (1 : Int32)) → w_X12_reads_b487 v1 (1 : Int32) v3 M8 q P26
set_option maxRecDepth 100000 in
set_option maxHeartbeats 4000000 in
theorem ok_X12_reads_b418 {c : CtxT} {g : Gl} {l : Launch} {v1 : Int32} {v3 : Int32} {v4 : Int32} {q : Int32 → Mem → Prop} {P26 : Int32 × Int32 × Int32 × Mem → Prop} {M : Mem} (C : Cx c cX12_reads 5 RX12 g l (Rm 3 48)) (r : Rt c (some .boolean) (pI q) 0 0) (hP26 : ∀ (v1 : Int32) (v2 : Int32) (v3 : Int32) (M : Mem), P26 (v1, v2, v3, M) → X c S0 26 [(0, .ref (g.2.2.2 + 135)), (1, .int v1), (2, .int v2), (3, .int v3)] [] (stat M)) (hw : w_X12_reads_b418 v1 v3 v4 M q P26) : X c S0 418 [(0, .ref (g.2.2.2 + 135)), (1, .int v1), (3, .int v3), (4, .int v4)] [] (stat M) := by
  unfold w_X12_reads_b418 at hw
  refine x_aload_n C dX12_reads_418 rfl rfl ?_
  refine x_dup C dX12_reads_419 rfl ?_
  refine n_getI C fl_X12_249 s135 (fun _ _ => rfl) dX12_reads_420 ?_
  refine x_iconst (v := (1 : Int32)) C dX12_reads_423 (by decide) ?_
  refine x_iadd C dX12_reads_424 ?_
  obtain ⟨M5, eM5⟩ : ∃ z : Mem, z = uI M 135 22 ((M.1 135 22) + (1 : Int32)) := ⟨_, rfl⟩
  replace hw := hw M5 eM5
  refine m_putI C fp_X12_249 s135 (fun _ _ => rfl) rfl rfl eM5 dX12_reads_425 ?_
  refine x_aload_n C dX12_reads_428 rfl rfl ?_
  refine n_getS (dd := 17) C fl_X12_60 s135 (fun _ _ => rfl) rfl dX12_reads_429 ?_
  refine x_aload_n C dX12_reads_432 rfl rfl ?_
  refine n_getI C fl_X12_252 s135 (fun _ _ => rfl) dX12_reads_433 ?_
  refine x_iload C dX12_reads_436 rfl ?_
  obtain ⟨h6, hw⟩ := hw
  obtain ⟨M7, eM7⟩ : ∃ z : Mem, z = uI M5 152 ((M5.1 135 27)).toNatClampNeg v4 := ⟨_, rfl⟩
  replace hw := hw M7 eM7
  refine a_iast C s152 ln152 rfl h6 eM7 dX12_reads_438 ?_
  refine x_aload_n C dX12_reads_439 rfl rfl ?_
  refine x_dup C dX12_reads_440 rfl ?_
  refine n_getI C fl_X12_252 s135 (fun _ _ => rfl) dX12_reads_441 ?_
  refine x_iconst (v := (1 : Int32)) C dX12_reads_444 (by decide) ?_
  refine x_iadd C dX12_reads_445 ?_
  obtain ⟨M8, eM8⟩ : ∃ z : Mem, z = uI M7 135 27 ((M7.1 135 27) + (1 : Int32)) := ⟨_, rfl⟩
  replace hw := hw M8 eM8
  refine m_putI C fp_X12_252 s135 (fun _ _ => rfl) rfl rfl eM8 dX12_reads_446 ?_
  refine x_iconst (v := (1 : Int32)) C dX12_reads_449 (by decide) ?_
  refine x_istore_n C dX12_reads_450 rfl (Nat.le_of_ble_eq_true rfl) ?_
  refine x_goto (tgt := 487) C dX12_reads_451 (by decide) ?_
  exact x_sub [0, 1, 2, 3] rfl (ok_X12_reads_b487 C r hP26 hw)
def w_X12_reads_b348 (v1 : Int32) (v2 : Int32) (v3 : Int32) (v4 : Int32) (t1 : Int32) (M : Mem) (q : Int32 → Mem → Prop) (P26 : Int32 × Int32 × Int32 × Mem → Prop) : Prop := w_X12_worksDown t1 M (fun (M9 : Mem) => w_X12_rank v4 M9 (fun (r12 : Int32) (M11 : Mem) => ((¬ r12 = (3 : Int32) → w_X12_reads_b418 v1 v3 v4 M11 q P26) ∧ (r12 = (3 : Int32) → (((M11.1 135 27) ≤ 0 → w_X12_reads_b418 v1 v3 v4 M11 q P26) ∧ (¬ (M11.1 135 27) ≤ 0 → vp_in ((M11.1 135 27) - (1 : Int32)) 128 ∧ (((1000 : Int32) ≤ (M11.1 152 (((M11.1 135 27) - (1 : Int32))).toNatClampNeg) → w_X12_reads_b418 v1 v3 v4 M11 q P26) ∧ (¬ (1000 : Int32) ≤ (M11.1 152 (((M11.1 135 27) - (1 : Int32))).toNatClampNeg) → vp_in ((M11.1 135 27) - (1 : Int32)) 128 ∧ w_X12_rank (M11.1 152 (((M11.1 135 27) - (1 : Int32))).toNatClampNeg) M11 (fun (r19 : Int32) (M18 : Mem) => ((¬ r19 = (3 : Int32) → w_X12_reads_b418 v1 v3 v4 M18 q P26) ∧ (r19 = (3 : Int32) → ∀ M21 : Mem, M21 = uI M18 135 23 (((10 : Int32) * (M18.1 135 22)) + (1 : Int32)) → w_X12_reads_b487 v1 v2 v3 M21 q P26)))))))))))
set_option maxRecDepth 100000 in
set_option maxHeartbeats 4000000 in
theorem ok_X12_reads_b348 {c : CtxT} {g : Gl} {l : Launch} {v1 : Int32} {v2 : Int32} {v3 : Int32} {v4 : Int32} {t1 : Int32} {q : Int32 → Mem → Prop} {P26 : Int32 × Int32 × Int32 × Mem → Prop} {M : Mem} (C : Cx c cX12_reads 5 RX12 g l (Rm 3 48)) (r : Rt c (some .boolean) (pI q) 0 0) (hP26 : ∀ (v1 : Int32) (v2 : Int32) (v3 : Int32) (M : Mem), P26 (v1, v2, v3, M) → X c S0 26 [(0, .ref (g.2.2.2 + 135)), (1, .int v1), (2, .int v2), (3, .int v3)] [] (stat M)) (hw : w_X12_reads_b348 v1 v2 v3 v4 t1 M q P26) : X c S0 348 [(0, .ref (g.2.2.2 + 135)), (1, .int v1), (2, .int v2), (3, .int v3), (4, .int v4)] [.int t1, .ref (g.2.2.2 + 135)] (stat M) := by
  unfold w_X12_reads_b348 at hw
  refine n_callVV s135 rfl C (ok_X12_worksDown  hw) mv_X12_287 rfl rfl ⟨Nat.le_of_ble_eq_true rfl, Nat.le_of_ble_eq_true rfl⟩ (Nat.le_of_ble_eq_true rfl) dX12_reads_348 (fun M9 hw => ?_)
  refine x_iload C dX12_reads_351 rfl ?_
  refine n_callSI C (ok_X12_rank  hw) ms_X12_258 rfl rfl ⟨Nat.le_of_ble_eq_true rfl, Nat.le_of_ble_eq_true rfl⟩ (Nat.le_of_ble_eq_true rfl) dX12_reads_353 (fun r12 M11 hw => ?_)
  refine x_iconst (v := (3 : Int32)) C dX12_reads_356 (by decide) ?_
  refine x_icmp_ne (tgt := 418) C dX12_reads_357 (by decide) (fun h13 => ?_) (fun h13 => ?_)
  · replace hw := hw.1 h13
    exact x_sub [0, 1, 3, 4] rfl (ok_X12_reads_b418 C r hP26 hw)
  · replace hw := hw.2 h13
    refine x_aload_n C dX12_reads_360 rfl rfl ?_
    refine n_getI C fl_X12_252 s135 (fun _ _ => rfl) dX12_reads_361 ?_
    refine x_if_le (tgt := 418) C dX12_reads_364 (by decide) (fun h14 => ?_) (fun h14 => ?_)
    · replace hw := hw.1 h14
      exact x_sub [0, 1, 3, 4] rfl (ok_X12_reads_b418 C r hP26 hw)
    · replace hw := hw.2 h14
      refine x_aload_n C dX12_reads_367 rfl rfl ?_
      refine n_getS (dd := 17) C fl_X12_60 s135 (fun _ _ => rfl) rfl dX12_reads_368 ?_
      refine x_aload_n C dX12_reads_371 rfl rfl ?_
      refine n_getI C fl_X12_252 s135 (fun _ _ => rfl) dX12_reads_372 ?_
      refine x_iconst (v := (1 : Int32)) C dX12_reads_375 (by decide) ?_
      refine x_isub C dX12_reads_376 ?_
      obtain ⟨h15, hw⟩ := hw
      refine a_iald C s152 ln152 h15 dX12_reads_377 ?_
      refine x_sipush (v := (1000 : Int32)) C dX12_reads_378 (by decide) ?_
      refine x_icmp_ge (tgt := 418) C dX12_reads_381 (by decide) (fun h16 => ?_) (fun h16 => ?_)
      · replace hw := hw.1 h16
        exact x_sub [0, 1, 3, 4] rfl (ok_X12_reads_b418 C r hP26 hw)
      · replace hw := hw.2 h16
        refine x_aload_n C dX12_reads_384 rfl rfl ?_
        refine n_getS (dd := 17) C fl_X12_60 s135 (fun _ _ => rfl) rfl dX12_reads_385 ?_
        refine x_aload_n C dX12_reads_388 rfl rfl ?_
        refine n_getI C fl_X12_252 s135 (fun _ _ => rfl) dX12_reads_389 ?_
        refine x_iconst (v := (1 : Int32)) C dX12_reads_392 (by decide) ?_
        refine x_isub C dX12_reads_393 ?_
        obtain ⟨h17, hw⟩ := hw
        refine a_iald C s152 ln152 h17 dX12_reads_394 ?_
        refine n_callSI C (ok_X12_rank  hw) ms_X12_258 rfl rfl ⟨Nat.le_of_ble_eq_true rfl, Nat.le_of_ble_eq_true rfl⟩ (Nat.le_of_ble_eq_true rfl) dX12_reads_395 (fun r19 M18 hw => ?_)
        refine x_iconst (v := (3 : Int32)) C dX12_reads_398 (by decide) ?_
        refine x_icmp_ne (tgt := 418) C dX12_reads_399 (by decide) (fun h20 => ?_) (fun h20 => ?_)
        · replace hw := hw.1 h20
          exact x_sub [0, 1, 3, 4] rfl (ok_X12_reads_b418 C r hP26 hw)
        · replace hw := hw.2 h20
          refine x_aload_n C dX12_reads_402 rfl rfl ?_
          refine x_bipush (v := (10 : Int32)) C dX12_reads_403 (by decide) ?_
          refine x_aload_n C dX12_reads_405 rfl rfl ?_
          refine n_getI C fl_X12_249 s135 (fun _ _ => rfl) dX12_reads_406 ?_
          refine x_imul C dX12_reads_409 ?_
          refine x_iconst (v := (1 : Int32)) C dX12_reads_410 (by decide) ?_
          refine x_iadd C dX12_reads_411 ?_
          obtain ⟨M21, eM21⟩ : ∃ z : Mem, z = uI M18 135 23 (((10 : Int32) * (M18.1 135 22)) + (1 : Int32)) := ⟨_, rfl⟩
          replace hw := hw M21 eM21
          refine m_putI C fp_X12_268 s135 (fun _ _ => rfl) rfl rfl eM21 dX12_reads_412 ?_
          refine x_goto (tgt := 487) C dX12_reads_415 (by decide) ?_
          exact x_sub [0, 1, 2, 3] rfl (ok_X12_reads_b487 C r hP26 hw)
def w_X12_reads_b321 (v1 : Int32) (v2 : Int32) (v3 : Int32) (v4 : Int32) (M : Mem) (q : Int32 → Mem → Prop) (P26 : Int32 × Int32 × Int32 × Mem → Prop) : Prop := w_X12_rank v4 M (fun (r23 : Int32) (M22 : Mem) => ((r23 ≤ 0 → ((¬ v4 = (-1 : Int32) → w_X12_reads_b474 v1 v2 v3 M22 q P26) ∧ (v4 = (-1 : Int32) → ((¬ v1 = 0 → w_X12_reads_b474 v1 v2 v3 M22 q P26) ∧ (v1 = 0 → w_X12_worksDown (1 : Int32) M22 (fun (M27 : Mem) => w_X12_reads_b487 v1 v2 (0 : Int32) M27 q P26)))))) ∧ (¬ r23 ≤ 0 → w_X12_rank v4 M22 (fun (r30 : Int32) (M29 : Mem) => ((¬ r30 = (3 : Int32) → w_X12_rank v4 M29 (fun (r33 : Int32) (M32 : Mem) => w_X12_reads_b348 v1 v2 v3 v4 r33 M32 q P26)) ∧ (r30 = (3 : Int32) → w_X12_reads_b348 v1 v2 v3 v4 (4 : Int32) M29 q P26))))))
set_option maxRecDepth 100000 in
set_option maxHeartbeats 4000000 in
theorem ok_X12_reads_b321 {c : CtxT} {g : Gl} {l : Launch} {v1 : Int32} {v2 : Int32} {v3 : Int32} {v4 : Int32} {q : Int32 → Mem → Prop} {P26 : Int32 × Int32 × Int32 × Mem → Prop} {M : Mem} (C : Cx c cX12_reads 5 RX12 g l (Rm 3 48)) (r : Rt c (some .boolean) (pI q) 0 0) (hP26 : ∀ (v1 : Int32) (v2 : Int32) (v3 : Int32) (M : Mem), P26 (v1, v2, v3, M) → X c S0 26 [(0, .ref (g.2.2.2 + 135)), (1, .int v1), (2, .int v2), (3, .int v3)] [] (stat M)) (hw : w_X12_reads_b321 v1 v2 v3 v4 M q P26) : X c S0 321 [(0, .ref (g.2.2.2 + 135)), (1, .int v1), (2, .int v2), (3, .int v3), (4, .int v4)] [] (stat M) := by
  unfold w_X12_reads_b321 at hw
  refine x_iload C dX12_reads_321 rfl ?_
  refine n_callSI C (ok_X12_rank  hw) ms_X12_258 rfl rfl ⟨Nat.le_of_ble_eq_true rfl, Nat.le_of_ble_eq_true rfl⟩ (Nat.le_of_ble_eq_true rfl) dX12_reads_323 (fun r23 M22 hw => ?_)
  refine x_if_le (tgt := 454) C dX12_reads_326 (by decide) (fun h24 => ?_) (fun h24 => ?_)
  · replace hw := hw.1 h24
    refine x_iload C dX12_reads_454 rfl ?_
    refine x_iconst (v := (-1 : Int32)) C dX12_reads_456 (by decide) ?_
    refine x_icmp_ne (tgt := 474) C dX12_reads_457 (by decide) (fun h25 => ?_) (fun h25 => ?_)
    · replace hw := hw.1 h25
      exact x_sub [0, 1, 2, 3] rfl (ok_X12_reads_b474 C r hP26 hw)
    · replace hw := hw.2 h25
      refine x_iload_n C dX12_reads_460 rfl rfl ?_
      refine x_if_ne (tgt := 474) C dX12_reads_461 (by decide) (fun h26 => ?_) (fun h26 => ?_)
      · replace hw := hw.1 h26
        exact x_sub [0, 1, 2, 3] rfl (ok_X12_reads_b474 C r hP26 hw)
      · replace hw := hw.2 h26
        refine x_aload_n C dX12_reads_464 rfl rfl ?_
        refine x_iconst (v := (1 : Int32)) C dX12_reads_465 (by decide) ?_
        refine n_callVV s135 rfl C (ok_X12_worksDown  hw) mv_X12_287 rfl rfl ⟨Nat.le_of_ble_eq_true rfl, Nat.le_of_ble_eq_true rfl⟩ (Nat.le_of_ble_eq_true rfl) dX12_reads_466 (fun M27 hw => ?_)
        refine x_iconst (v := (0 : Int32)) C dX12_reads_469 (by decide) ?_
        refine x_istore_n C dX12_reads_470 rfl (Nat.le_of_ble_eq_true rfl) ?_
        refine x_goto (tgt := 487) C dX12_reads_471 (by decide) ?_
        exact x_sub [0, 1, 2, 3] rfl (ok_X12_reads_b487 C r hP26 hw)
  · replace hw := hw.2 h24
    refine x_aload_n C dX12_reads_329 rfl rfl ?_
    refine x_iload C dX12_reads_330 rfl ?_
    refine n_callSI C (ok_X12_rank  hw) ms_X12_258 rfl rfl ⟨Nat.le_of_ble_eq_true rfl, Nat.le_of_ble_eq_true rfl⟩ (Nat.le_of_ble_eq_true rfl) dX12_reads_332 (fun r30 M29 hw => ?_)
    refine x_iconst (v := (3 : Int32)) C dX12_reads_335 (by decide) ?_
    refine x_icmp_ne (tgt := 343) C dX12_reads_336 (by decide) (fun h31 => ?_) (fun h31 => ?_)
    · replace hw := hw.1 h31
      refine x_iload C dX12_reads_343 rfl ?_
      refine n_callSI C (ok_X12_rank  hw) ms_X12_258 rfl rfl ⟨Nat.le_of_ble_eq_true rfl, Nat.le_of_ble_eq_true rfl⟩ (Nat.le_of_ble_eq_true rfl) dX12_reads_345 (fun r33 M32 hw => ?_)
      exact x_sub [0, 1, 2, 3, 4] rfl (ok_X12_reads_b348 C r hP26 hw)
    · replace hw := hw.2 h31
      refine x_iconst (v := (4 : Int32)) C dX12_reads_339 (by decide) ?_
      refine x_goto (tgt := 348) C dX12_reads_340 (by decide) ?_
      exact x_sub [0, 1, 2, 3, 4] rfl (ok_X12_reads_b348 C r hP26 hw)
def w_X12_reads_b164 (v1 : Int32) (v2 : Int32) (v3 : Int32) (t1 : Int32) (t2 : Int32) (M : Mem) (q : Int32 → Mem → Prop) (P26 : Int32 × Int32 × Int32 × Mem → Prop) : Prop := vp_in t1 128 ∧ ∀ M35 : Mem, M35 = uI M 152 (t1).toNatClampNeg t2 → ∀ M36 : Mem, M36 = uI M35 135 27 ((M35.1 135 27) + (1 : Int32)) → w_X12_reads_b487 v1 v2 v3 M36 q P26
set_option maxRecDepth 100000 in
set_option maxHeartbeats 4000000 in
theorem ok_X12_reads_b164 {c : CtxT} {g : Gl} {l : Launch} {v1 : Int32} {v2 : Int32} {v3 : Int32} {t1 : Int32} {t2 : Int32} {q : Int32 → Mem → Prop} {P26 : Int32 × Int32 × Int32 × Mem → Prop} {M : Mem} (C : Cx c cX12_reads 5 RX12 g l (Rm 3 48)) (r : Rt c (some .boolean) (pI q) 0 0) (hP26 : ∀ (v1 : Int32) (v2 : Int32) (v3 : Int32) (M : Mem), P26 (v1, v2, v3, M) → X c S0 26 [(0, .ref (g.2.2.2 + 135)), (1, .int v1), (2, .int v2), (3, .int v3)] [] (stat M)) (hw : w_X12_reads_b164 v1 v2 v3 t1 t2 M q P26) : X c S0 164 [(0, .ref (g.2.2.2 + 135)), (1, .int v1), (2, .int v2), (3, .int v3)] [.int t2, .int t1, .ref (g.2.2.2 + 152)] (stat M) := by
  unfold w_X12_reads_b164 at hw
  obtain ⟨h34, hw⟩ := hw
  obtain ⟨M35, eM35⟩ : ∃ z : Mem, z = uI M 152 (t1).toNatClampNeg t2 := ⟨_, rfl⟩
  replace hw := hw M35 eM35
  refine a_iast C s152 ln152 rfl h34 eM35 dX12_reads_164 ?_
  refine x_aload_n C dX12_reads_165 rfl rfl ?_
  refine x_dup C dX12_reads_166 rfl ?_
  refine n_getI C fl_X12_252 s135 (fun _ _ => rfl) dX12_reads_167 ?_
  refine x_iconst (v := (1 : Int32)) C dX12_reads_170 (by decide) ?_
  refine x_iadd C dX12_reads_171 ?_
  obtain ⟨M36, eM36⟩ : ∃ z : Mem, z = uI M35 135 27 ((M35.1 135 27) + (1 : Int32)) := ⟨_, rfl⟩
  replace hw := hw M36 eM36
  refine m_putI C fp_X12_252 s135 (fun _ _ => rfl) rfl rfl eM36 dX12_reads_172 ?_
  refine x_goto (tgt := 487) C dX12_reads_175 (by decide) ?_
  exact x_sub [0, 1, 2, 3] rfl (ok_X12_reads_b487 C r hP26 hw)
def w_X12_reads_b130 (v1 : Int32) (v2 : Int32) (v3 : Int32) (v4 : Int32) (M : Mem) (q : Int32 → Mem → Prop) (P26 : Int32 × Int32 × Int32 × Mem → Prop) : Prop := ∀ M37 : Mem, M37 = uI M 135 22 ((M.1 135 22) + (1 : Int32)) → ((¬ v4 = (33 : Int32) → w_X12_reads_b164 v1 v2 v3 (M37.1 135 27) (1002 : Int32) M37 q P26) ∧ (v4 = (33 : Int32) → w_X12_reads_b164 v1 v2 v3 (M37.1 135 27) (1001 : Int32) M37 q P26))
set_option maxRecDepth 100000 in
set_option maxHeartbeats 4000000 in
theorem ok_X12_reads_b130 {c : CtxT} {g : Gl} {l : Launch} {v1 : Int32} {v2 : Int32} {v3 : Int32} {v4 : Int32} {q : Int32 → Mem → Prop} {P26 : Int32 × Int32 × Int32 × Mem → Prop} {M : Mem} (C : Cx c cX12_reads 5 RX12 g l (Rm 3 48)) (r : Rt c (some .boolean) (pI q) 0 0) (hP26 : ∀ (v1 : Int32) (v2 : Int32) (v3 : Int32) (M : Mem), P26 (v1, v2, v3, M) → X c S0 26 [(0, .ref (g.2.2.2 + 135)), (1, .int v1), (2, .int v2), (3, .int v3)] [] (stat M)) (hw : w_X12_reads_b130 v1 v2 v3 v4 M q P26) : X c S0 130 [(0, .ref (g.2.2.2 + 135)), (1, .int v1), (2, .int v2), (3, .int v3), (4, .int v4)] [] (stat M) := by
  unfold w_X12_reads_b130 at hw
  refine x_aload_n C dX12_reads_130 rfl rfl ?_
  refine x_dup C dX12_reads_131 rfl ?_
  refine n_getI C fl_X12_249 s135 (fun _ _ => rfl) dX12_reads_132 ?_
  refine x_iconst (v := (1 : Int32)) C dX12_reads_135 (by decide) ?_
  refine x_iadd C dX12_reads_136 ?_
  obtain ⟨M37, eM37⟩ : ∃ z : Mem, z = uI M 135 22 ((M.1 135 22) + (1 : Int32)) := ⟨_, rfl⟩
  replace hw := hw M37 eM37
  refine m_putI C fp_X12_249 s135 (fun _ _ => rfl) rfl rfl eM37 dX12_reads_137 ?_
  refine x_aload_n C dX12_reads_140 rfl rfl ?_
  refine n_getS (dd := 17) C fl_X12_60 s135 (fun _ _ => rfl) rfl dX12_reads_141 ?_
  refine x_aload_n C dX12_reads_144 rfl rfl ?_
  refine n_getI C fl_X12_252 s135 (fun _ _ => rfl) dX12_reads_145 ?_
  refine x_iload C dX12_reads_148 rfl ?_
  refine x_bipush (v := (33 : Int32)) C dX12_reads_150 (by decide) ?_
  refine x_icmp_ne (tgt := 161) C dX12_reads_152 (by decide) (fun h38 => ?_) (fun h38 => ?_)
  · replace hw := hw.1 h38
    refine x_sipush (v := (1002 : Int32)) C dX12_reads_161 (by decide) ?_
    exact x_sub [0, 1, 2, 3] rfl (ok_X12_reads_b164 C r hP26 hw)
  · replace hw := hw.2 h38
    refine x_sipush (v := (1001 : Int32)) C dX12_reads_155 (by decide) ?_
    refine x_goto (tgt := 164) C dX12_reads_158 (by decide) ?_
    exact x_sub [0, 1, 2, 3] rfl (ok_X12_reads_b164 C r hP26 hw)
def w_X12_reads_b249 (v1 : Int32) (v2 : Int32) (v3 : Int32) (t1 : Int32) (t2 : Int32) (M : Mem) (q : Int32 → Mem → Prop) (P26 : Int32 × Int32 × Int32 × Mem → Prop) : Prop := ∀ M39 : Mem, M39 = uI M 135 23 (t1 + t2) → w_X12_reads_b487 v1 v2 v3 M39 q P26
set_option maxRecDepth 100000 in
set_option maxHeartbeats 4000000 in
theorem ok_X12_reads_b249 {c : CtxT} {g : Gl} {l : Launch} {v1 : Int32} {v2 : Int32} {v3 : Int32} {t1 : Int32} {t2 : Int32} {q : Int32 → Mem → Prop} {P26 : Int32 × Int32 × Int32 × Mem → Prop} {M : Mem} (C : Cx c cX12_reads 5 RX12 g l (Rm 3 48)) (r : Rt c (some .boolean) (pI q) 0 0) (hP26 : ∀ (v1 : Int32) (v2 : Int32) (v3 : Int32) (M : Mem), P26 (v1, v2, v3, M) → X c S0 26 [(0, .ref (g.2.2.2 + 135)), (1, .int v1), (2, .int v2), (3, .int v3)] [] (stat M)) (hw : w_X12_reads_b249 v1 v2 v3 t1 t2 M q P26) : X c S0 249 [(0, .ref (g.2.2.2 + 135)), (1, .int v1), (2, .int v2), (3, .int v3)] [.int t2, .int t1, .ref (g.2.2.2 + 135)] (stat M) := by
  unfold w_X12_reads_b249 at hw
  refine x_iadd C dX12_reads_249 ?_
  obtain ⟨M39, eM39⟩ : ∃ z : Mem, z = uI M 135 23 (t1 + t2) := ⟨_, rfl⟩
  replace hw := hw M39 eM39
  refine m_putI C fp_X12_268 s135 (fun _ _ => rfl) rfl rfl eM39 dX12_reads_250 ?_
  refine x_goto (tgt := 487) C dX12_reads_253 (by decide) ?_
  exact x_sub [0, 1, 2, 3] rfl (ok_X12_reads_b487 C r hP26 hw)
def w_X12_reads_b229 (v1 : Int32) (v2 : Int32) (v3 : Int32) (v4 : Int32) (M : Mem) (q : Int32 → Mem → Prop) (P26 : Int32 × Int32 × Int32 × Mem → Prop) : Prop := ((¬ v4 = (40 : Int32) → w_X12_reads_b249 v1 v2 v3 ((10 : Int32) * (M.1 135 22)) (1 : Int32) M q P26) ∧ (v4 = (40 : Int32) → w_X12_reads_b249 v1 v2 v3 ((10 : Int32) * (M.1 135 22)) (3 : Int32) M q P26))
set_option maxRecDepth 100000 in
set_option maxHeartbeats 4000000 in
theorem ok_X12_reads_b229 {c : CtxT} {g : Gl} {l : Launch} {v1 : Int32} {v2 : Int32} {v3 : Int32} {v4 : Int32} {q : Int32 → Mem → Prop} {P26 : Int32 × Int32 × Int32 × Mem → Prop} {M : Mem} (C : Cx c cX12_reads 5 RX12 g l (Rm 3 48)) (r : Rt c (some .boolean) (pI q) 0 0) (hP26 : ∀ (v1 : Int32) (v2 : Int32) (v3 : Int32) (M : Mem), P26 (v1, v2, v3, M) → X c S0 26 [(0, .ref (g.2.2.2 + 135)), (1, .int v1), (2, .int v2), (3, .int v3)] [] (stat M)) (hw : w_X12_reads_b229 v1 v2 v3 v4 M q P26) : X c S0 229 [(0, .ref (g.2.2.2 + 135)), (1, .int v1), (2, .int v2), (3, .int v3), (4, .int v4)] [] (stat M) := by
  unfold w_X12_reads_b229 at hw
  refine x_aload_n C dX12_reads_229 rfl rfl ?_
  refine x_bipush (v := (10 : Int32)) C dX12_reads_230 (by decide) ?_
  refine x_aload_n C dX12_reads_232 rfl rfl ?_
  refine n_getI C fl_X12_249 s135 (fun _ _ => rfl) dX12_reads_233 ?_
  refine x_imul C dX12_reads_236 ?_
  refine x_iload C dX12_reads_237 rfl ?_
  refine x_bipush (v := (40 : Int32)) C dX12_reads_239 (by decide) ?_
  refine x_icmp_ne (tgt := 248) C dX12_reads_241 (by decide) (fun h40 => ?_) (fun h40 => ?_)
  · replace hw := hw.1 h40
    refine x_iconst (v := (1 : Int32)) C dX12_reads_248 (by decide) ?_
    exact x_sub [0, 1, 2, 3] rfl (ok_X12_reads_b249 C r hP26 hw)
  · replace hw := hw.2 h40
    refine x_iconst (v := (3 : Int32)) C dX12_reads_244 (by decide) ?_
    refine x_goto (tgt := 249) C dX12_reads_245 (by decide) ?_
    exact x_sub [0, 1, 2, 3] rfl (ok_X12_reads_b249 C r hP26 hw)
def w_X12_reads_l26F (q : Int32 → Mem → Prop) (P26 : Int32 × Int32 × Int32 × Mem → Prop) (s : Int32 × Int32 × Int32 × Mem) : Prop := match s with
  | (v1, v2, v3, M) => ((v3 = 0 → w_X12_reads_b490 M q) ∧ (¬ v3 = 0 → ((¬ (M.1 135 23) = (-1 : Int32) → w_X12_reads_b490 M q) ∧ ((M.1 135 23) = (-1 : Int32) → w_X12_ahead  M (fun (r44 : Int32) (M43 : Mem) => ((v2 = 0 → ((¬ r44 = (41 : Int32) → w_X12_reads_b321 v1 v2 v3 r44 M43 q P26) ∧ (r44 = (41 : Int32) → ((v1 ≤ 0 → w_X12_reads_b321 v1 v2 v3 r44 M43 q P26) ∧ (¬ v1 ≤ 0 → ∀ M48 : Mem, M48 = uI M43 135 22 ((M43.1 135 22) + (1 : Int32)) → ∀ x49 : Int32, x49 = v1 + (-1 : Int32) → w_X12_worksDown (1 : Int32) M48 (fun (M50 : Mem) => ∀ M52 : Mem, M52 = uI M50 135 27 ((M50.1 135 27) - (1 : Int32)) → ∀ M53 : Mem, M53 = uI M52 135 25 ((M52.1 135 25) - (1 : Int32)) → vp_in (M53.1 135 25) 64 ∧ w_X12_stands (M53.2.1 151 ((M53.1 135 25)).toNatClampNeg) M53 (fun (M55 : Mem) => w_X12_reads_b487 x49 v2 v3 M55 q P26))))))) ∧ (¬ v2 = 0 → w_X12_in (r44).toInt64 (48 : Int64) (57 : Int64) M43 (fun (r58 : Int32) (M57 : Mem) => ((r58 = 0 → w_X12_nameOf r44 M57 (fun (r61 : Int32) (M60 : Mem) => ((r61 = (-1 : Int32) → ((r44 = (33 : Int32) → w_X12_reads_b130 v1 v2 v3 r44 M60 q P26) ∧ (¬ r44 = (33 : Int32) → ((¬ r44 = (45 : Int32) → ((¬ r44 = (40 : Int32) → w_X12_reads_b229 v1 v2 v3 r44 M60 q P26) ∧ (r44 = (40 : Int32) → (((8 : Int32) ≤ v1 → w_X12_reads_b229 v1 v2 v3 r44 M60 q P26) ∧ (¬ (8 : Int32) ≤ v1 → ∀ M67 : Mem, M67 = uI M60 135 22 ((M60.1 135 22) + (1 : Int32)) → ∀ x68 : Int32, x68 = v1 + (1 : Int32) → vp_in (M67.1 135 27) 128 ∧ ∀ M70 : Mem, M70 = uI M67 152 ((M67.1 135 27)).toNatClampNeg (1000 : Int32) → ∀ M71 : Mem, M71 = uI M70 135 27 ((M70.1 135 27) + (1 : Int32)) → w_X12_reads_b487 x68 v2 v3 M71 q P26))))) ∧ (r44 = (45 : Int32) → w_X12_reads_b130 v1 v2 v3 r44 M60 q P26))))) ∧ (¬ r61 = (-1 : Int32) → ∀ M72 : Mem, M72 = uI M60 135 22 ((M60.1 135 22) + (1 : Int32)) → w_X12_nameOf r44 M72 (fun (r74 : Int32) (M73 : Mem) => vp_in r74 6 ∧ w_X12_stands (M73.2.1 153 (r74).toNatClampNeg) M73 (fun (M76 : Mem) => w_X12_reads_b487 v1 (0 : Int32) v3 M76 q P26)))))) ∧ (¬ r58 = 0 → w_X12_digits  M57 (fun (r79 : Int64) (M78 : Mem) => w_X12_stands r79 M78 (fun (M80 : Mem) => w_X12_reads_b487 v1 (0 : Int32) v3 M80 q P26))))))))))))
def w_X12_reads_l26 (q : Int32 → Mem → Prop) (s : Int32 × Int32 × Int32 × Mem) : Prop := lfp (w_X12_reads_l26F q ) s
set_option maxRecDepth 100000 in
set_option maxHeartbeats 4000000 in
theorem ok_X12_reads_l26 {c : CtxT} {g : Gl} {l : Launch} {q : Int32 → Mem → Prop} {s : Int32 × Int32 × Int32 × Mem} (C : Cx c cX12_reads 5 RX12 g l (Rm 3 48)) (r : Rt c (some .boolean) (pI q) 0 0) (hw : w_X12_reads_l26 q s) : X c S0 26 [(0, .ref (g.2.2.2 + 135)), (1, .int s.1), (2, .int s.2.1), (3, .int s.2.2.1)] [] (stat s.2.2.2) := hw (fun s => X c S0 26 [(0, .ref (g.2.2.2 + 135)), (1, .int s.1), (2, .int s.2.1), (3, .int s.2.2.1)] [] (stat s.2.2.2)) (fun s hw => by
    obtain ⟨v1, v2, v3, M⟩ := s
    try dsimp only [w_X12_reads_l26F] at hw
    try dsimp only
    refine x_iload_n C dX12_reads_26 rfl rfl ?_
    refine x_if_eq (tgt := 490) C dX12_reads_27 (by decide) (fun h41 => ?_) (fun h41 => ?_)
    · replace hw := hw.1 h41
      exact x_sub [0] rfl (ok_X12_reads_b490 C r  hw)
    · replace hw := hw.2 h41
      refine x_aload_n C dX12_reads_30 rfl rfl ?_
      refine n_getI C fl_X12_268 s135 (fun _ _ => rfl) dX12_reads_31 ?_
      refine x_iconst (v := (-1 : Int32)) C dX12_reads_34 (by decide) ?_
      refine x_icmp_ne (tgt := 490) C dX12_reads_35 (by decide) (fun h42 => ?_) (fun h42 => ?_)
      · replace hw := hw.1 h42
        exact x_sub [0] rfl (ok_X12_reads_b490 C r  hw)
      · replace hw := hw.2 h42
        refine x_aload_n C dX12_reads_38 rfl rfl ?_
        refine n_callVI s135 rfl C (ok_X12_ahead  hw) mv_X12_273 rfl rfl ⟨Nat.le_of_ble_eq_true rfl, Nat.le_of_ble_eq_true rfl⟩ (Nat.le_of_ble_eq_true rfl) dX12_reads_39 (fun r44 M43 hw => ?_)
        refine x_istore C dX12_reads_42 (Nat.le_of_ble_eq_true rfl) ?_
        refine x_iload_n C dX12_reads_44 rfl rfl ?_
        refine x_if_eq (tgt := 256) C dX12_reads_45 (by decide) (fun h45 => ?_) (fun h45 => ?_)
        · replace hw := hw.1 h45
          refine x_iload C dX12_reads_256 rfl ?_
          refine x_bipush (v := (41 : Int32)) C dX12_reads_258 (by decide) ?_
          refine x_icmp_ne (tgt := 321) C dX12_reads_260 (by decide) (fun h46 => ?_) (fun h46 => ?_)
          · replace hw := hw.1 h46
            exact x_sub [0, 1, 2, 3, 4] rfl (ok_X12_reads_b321 C r (fun _ _ _ _ h => h) hw)
          · replace hw := hw.2 h46
            refine x_iload_n C dX12_reads_263 rfl rfl ?_
            refine x_if_le (tgt := 321) C dX12_reads_264 (by decide) (fun h47 => ?_) (fun h47 => ?_)
            · replace hw := hw.1 h47
              exact x_sub [0, 1, 2, 3, 4] rfl (ok_X12_reads_b321 C r (fun _ _ _ _ h => h) hw)
            · replace hw := hw.2 h47
              refine x_aload_n C dX12_reads_267 rfl rfl ?_
              refine x_dup C dX12_reads_268 rfl ?_
              refine n_getI C fl_X12_249 s135 (fun _ _ => rfl) dX12_reads_269 ?_
              refine x_iconst (v := (1 : Int32)) C dX12_reads_272 (by decide) ?_
              refine x_iadd C dX12_reads_273 ?_
              obtain ⟨M48, eM48⟩ : ∃ z : Mem, z = uI M43 135 22 ((M43.1 135 22) + (1 : Int32)) := ⟨_, rfl⟩
              replace hw := hw M48 eM48
              refine m_putI C fp_X12_249 s135 (fun _ _ => rfl) rfl rfl eM48 dX12_reads_274 ?_
              obtain ⟨x49, ex49⟩ : ∃ z : Int32, z = v1 + (-1 : Int32) := ⟨_, rfl⟩
              replace hw := hw x49 ex49
              refine x_iinc (v := x49) C dX12_reads_277 rfl ex49.symm (Nat.le_of_ble_eq_true rfl) ?_
              refine x_aload_n C dX12_reads_280 rfl rfl ?_
              refine x_iconst (v := (1 : Int32)) C dX12_reads_281 (by decide) ?_
              refine n_callVV s135 rfl C (ok_X12_worksDown  hw) mv_X12_287 rfl rfl ⟨Nat.le_of_ble_eq_true rfl, Nat.le_of_ble_eq_true rfl⟩ (Nat.le_of_ble_eq_true rfl) dX12_reads_282 (fun M50 hw => ?_)
              refine x_aload_n C dX12_reads_285 rfl rfl ?_
              refine x_dup C dX12_reads_286 rfl ?_
              refine n_getI C fl_X12_252 s135 (fun _ _ => rfl) dX12_reads_287 ?_
              refine x_iconst (v := (1 : Int32)) C dX12_reads_290 (by decide) ?_
              refine x_isub C dX12_reads_291 ?_
              obtain ⟨M52, eM52⟩ : ∃ z : Mem, z = uI M50 135 27 ((M50.1 135 27) - (1 : Int32)) := ⟨_, rfl⟩
              replace hw := hw M52 eM52
              refine m_putI C fp_X12_252 s135 (fun _ _ => rfl) rfl rfl eM52 dX12_reads_292 ?_
              refine x_aload_n C dX12_reads_295 rfl rfl ?_
              refine x_dup C dX12_reads_296 rfl ?_
              refine n_getI C fl_X12_255 s135 (fun _ _ => rfl) dX12_reads_297 ?_
              refine x_iconst (v := (1 : Int32)) C dX12_reads_300 (by decide) ?_
              refine x_isub C dX12_reads_301 ?_
              obtain ⟨M53, eM53⟩ : ∃ z : Mem, z = uI M52 135 25 ((M52.1 135 25) - (1 : Int32)) := ⟨_, rfl⟩
              replace hw := hw M53 eM53
              refine m_putI C fp_X12_255 s135 (fun _ _ => rfl) rfl rfl eM53 dX12_reads_302 ?_
              refine x_aload_n C dX12_reads_305 rfl rfl ?_
              refine x_aload_n C dX12_reads_306 rfl rfl ?_
              refine n_getS (dd := 16) C fl_X12_56 s135 (fun _ _ => rfl) rfl dX12_reads_307 ?_
              refine x_aload_n C dX12_reads_310 rfl rfl ?_
              refine n_getI C fl_X12_255 s135 (fun _ _ => rfl) dX12_reads_311 ?_
              obtain ⟨h54, hw⟩ := hw
              refine a_lald C s151 ln151 h54 dX12_reads_314 ?_
              refine n_callVV s135 rfl C (ok_X12_stands  hw) mv_X12_280 rfl rfl ⟨Nat.le_of_ble_eq_true rfl, Nat.le_of_ble_eq_true rfl⟩ (Nat.le_of_ble_eq_true rfl) dX12_reads_315 (fun M55 hw => ?_)
              refine x_goto (tgt := 487) C dX12_reads_318 (by decide) ?_
              exact x_sub [0, 1, 2, 3] rfl (ok_X12_reads_b487 C r (fun _ _ _ _ h => h) hw)
        · replace hw := hw.2 h45
          refine x_iload C dX12_reads_48 rfl ?_
          refine x_i2l C dX12_reads_50 ?_
          refine x_ldc2_w (v := (48 : Int64)) C dX12_reads_51 kc_X12_264 ?_
          refine x_ldc2_w (v := (57 : Int64)) C dX12_reads_54 kc_X12_266 ?_
          refine n_callSI C (ok_X12_in  hw) ms_X12_70 rfl rfl ⟨Nat.le_of_ble_eq_true rfl, Nat.le_of_ble_eq_true rfl⟩ (Nat.le_of_ble_eq_true rfl) dX12_reads_57 (fun r58 M57 hw => ?_)
          refine x_if_eq (tgt := 76) C dX12_reads_60 (by decide) (fun h59 => ?_) (fun h59 => ?_)
          · replace hw := hw.1 h59
            refine x_aload_n C dX12_reads_76 rfl rfl ?_
            refine x_iload C dX12_reads_77 rfl ?_
            refine n_callVI s135 rfl C (ok_X12_nameOf  hw) mv_X12_284 rfl rfl ⟨Nat.le_of_ble_eq_true rfl, Nat.le_of_ble_eq_true rfl⟩ (Nat.le_of_ble_eq_true rfl) dX12_reads_79 (fun r61 M60 hw => ?_)
            refine x_iconst (v := (-1 : Int32)) C dX12_reads_82 (by decide) ?_
            refine x_icmp_eq (tgt := 116) C dX12_reads_83 (by decide) (fun h62 => ?_) (fun h62 => ?_)
            · replace hw := hw.1 h62
              refine x_iload C dX12_reads_116 rfl ?_
              refine x_bipush (v := (33 : Int32)) C dX12_reads_118 (by decide) ?_
              refine x_icmp_eq (tgt := 130) C dX12_reads_120 (by decide) (fun h63 => ?_) (fun h63 => ?_)
              · replace hw := hw.1 h63
                exact x_sub [0, 1, 2, 3, 4] rfl (ok_X12_reads_b130 C r (fun _ _ _ _ h => h) hw)
              · replace hw := hw.2 h63
                refine x_iload C dX12_reads_123 rfl ?_
                refine x_bipush (v := (45 : Int32)) C dX12_reads_125 (by decide) ?_
                refine x_icmp_ne (tgt := 178) C dX12_reads_127 (by decide) (fun h64 => ?_) (fun h64 => ?_)
                · replace hw := hw.1 h64
                  refine x_iload C dX12_reads_178 rfl ?_
                  refine x_bipush (v := (40 : Int32)) C dX12_reads_180 (by decide) ?_
                  refine x_icmp_ne (tgt := 229) C dX12_reads_182 (by decide) (fun h65 => ?_) (fun h65 => ?_)
                  · replace hw := hw.1 h65
                    exact x_sub [0, 1, 2, 3, 4] rfl (ok_X12_reads_b229 C r (fun _ _ _ _ h => h) hw)
                  · replace hw := hw.2 h65
                    refine x_iload_n C dX12_reads_185 rfl rfl ?_
                    refine x_bipush (v := (8 : Int32)) C dX12_reads_186 (by decide) ?_
                    refine x_icmp_ge (tgt := 229) C dX12_reads_188 (by decide) (fun h66 => ?_) (fun h66 => ?_)
                    · replace hw := hw.1 h66
                      exact x_sub [0, 1, 2, 3, 4] rfl (ok_X12_reads_b229 C r (fun _ _ _ _ h => h) hw)
                    · replace hw := hw.2 h66
                      refine x_aload_n C dX12_reads_191 rfl rfl ?_
                      refine x_dup C dX12_reads_192 rfl ?_
                      refine n_getI C fl_X12_249 s135 (fun _ _ => rfl) dX12_reads_193 ?_
                      refine x_iconst (v := (1 : Int32)) C dX12_reads_196 (by decide) ?_
                      refine x_iadd C dX12_reads_197 ?_
                      obtain ⟨M67, eM67⟩ : ∃ z : Mem, z = uI M60 135 22 ((M60.1 135 22) + (1 : Int32)) := ⟨_, rfl⟩
                      replace hw := hw M67 eM67
                      refine m_putI C fp_X12_249 s135 (fun _ _ => rfl) rfl rfl eM67 dX12_reads_198 ?_
                      obtain ⟨x68, ex68⟩ : ∃ z : Int32, z = v1 + (1 : Int32) := ⟨_, rfl⟩
                      replace hw := hw x68 ex68
                      refine x_iinc (v := x68) C dX12_reads_201 rfl ex68.symm (Nat.le_of_ble_eq_true rfl) ?_
                      refine x_aload_n C dX12_reads_204 rfl rfl ?_
                      refine n_getS (dd := 17) C fl_X12_60 s135 (fun _ _ => rfl) rfl dX12_reads_205 ?_
                      refine x_aload_n C dX12_reads_208 rfl rfl ?_
                      refine n_getI C fl_X12_252 s135 (fun _ _ => rfl) dX12_reads_209 ?_
                      refine x_sipush (v := (1000 : Int32)) C dX12_reads_212 (by decide) ?_
                      obtain ⟨h69, hw⟩ := hw
                      obtain ⟨M70, eM70⟩ : ∃ z : Mem, z = uI M67 152 ((M67.1 135 27)).toNatClampNeg (1000 : Int32) := ⟨_, rfl⟩
                      replace hw := hw M70 eM70
                      refine a_iast C s152 ln152 rfl h69 eM70 dX12_reads_215 ?_
                      refine x_aload_n C dX12_reads_216 rfl rfl ?_
                      refine x_dup C dX12_reads_217 rfl ?_
                      refine n_getI C fl_X12_252 s135 (fun _ _ => rfl) dX12_reads_218 ?_
                      refine x_iconst (v := (1 : Int32)) C dX12_reads_221 (by decide) ?_
                      refine x_iadd C dX12_reads_222 ?_
                      obtain ⟨M71, eM71⟩ : ∃ z : Mem, z = uI M70 135 27 ((M70.1 135 27) + (1 : Int32)) := ⟨_, rfl⟩
                      replace hw := hw M71 eM71
                      refine m_putI C fp_X12_252 s135 (fun _ _ => rfl) rfl rfl eM71 dX12_reads_223 ?_
                      refine x_goto (tgt := 487) C dX12_reads_226 (by decide) ?_
                      exact x_sub [0, 1, 2, 3] rfl (ok_X12_reads_b487 C r (fun _ _ _ _ h => h) hw)
                · replace hw := hw.2 h64
                  exact x_sub [0, 1, 2, 3, 4] rfl (ok_X12_reads_b130 C r (fun _ _ _ _ h => h) hw)
            · replace hw := hw.2 h62
              refine x_aload_n C dX12_reads_86 rfl rfl ?_
              refine x_dup C dX12_reads_87 rfl ?_
              refine n_getI C fl_X12_249 s135 (fun _ _ => rfl) dX12_reads_88 ?_
              refine x_iconst (v := (1 : Int32)) C dX12_reads_91 (by decide) ?_
              refine x_iadd C dX12_reads_92 ?_
              obtain ⟨M72, eM72⟩ : ∃ z : Mem, z = uI M60 135 22 ((M60.1 135 22) + (1 : Int32)) := ⟨_, rfl⟩
              replace hw := hw M72 eM72
              refine m_putI C fp_X12_249 s135 (fun _ _ => rfl) rfl rfl eM72 dX12_reads_93 ?_
              refine x_aload_n C dX12_reads_96 rfl rfl ?_
              refine x_aload_n C dX12_reads_97 rfl rfl ?_
              refine n_getS (dd := 18) C fl_X12_63 s135 (fun _ _ => rfl) rfl dX12_reads_98 ?_
              refine x_aload_n C dX12_reads_101 rfl rfl ?_
              refine x_iload C dX12_reads_102 rfl ?_
              refine n_callVI s135 rfl C (ok_X12_nameOf  hw) mv_X12_284 rfl rfl ⟨Nat.le_of_ble_eq_true rfl, Nat.le_of_ble_eq_true rfl⟩ (Nat.le_of_ble_eq_true rfl) dX12_reads_104 (fun r74 M73 hw => ?_)
              obtain ⟨h75, hw⟩ := hw
              refine a_lald C s153 ln153 h75 dX12_reads_107 ?_
              refine n_callVV s135 rfl C (ok_X12_stands  hw) mv_X12_280 rfl rfl ⟨Nat.le_of_ble_eq_true rfl, Nat.le_of_ble_eq_true rfl⟩ (Nat.le_of_ble_eq_true rfl) dX12_reads_108 (fun M76 hw => ?_)
              refine x_iconst (v := (0 : Int32)) C dX12_reads_111 (by decide) ?_
              refine x_istore_n C dX12_reads_112 rfl (Nat.le_of_ble_eq_true rfl) ?_
              refine x_goto (tgt := 487) C dX12_reads_113 (by decide) ?_
              exact x_sub [0, 1, 2, 3] rfl (ok_X12_reads_b487 C r (fun _ _ _ _ h => h) hw)
          · replace hw := hw.2 h59
            refine x_aload_n C dX12_reads_63 rfl rfl ?_
            refine x_aload_n C dX12_reads_64 rfl rfl ?_
            refine n_callVJ s135 rfl C (ok_X12_digits  hw) mv_X12_276 rfl rfl ⟨Nat.le_of_ble_eq_true rfl, Nat.le_of_ble_eq_true rfl⟩ (Nat.le_of_ble_eq_true rfl) dX12_reads_65 (fun r79 M78 hw => ?_)
            refine n_callVV s135 rfl C (ok_X12_stands  hw) mv_X12_280 rfl rfl ⟨Nat.le_of_ble_eq_true rfl, Nat.le_of_ble_eq_true rfl⟩ (Nat.le_of_ble_eq_true rfl) dX12_reads_68 (fun M80 hw => ?_)
            refine x_iconst (v := (0 : Int32)) C dX12_reads_71 (by decide) ?_
            refine x_istore_n C dX12_reads_72 rfl (Nat.le_of_ble_eq_true rfl) ?_
            refine x_goto (tgt := 487) C dX12_reads_73 (by decide) ?_
            exact x_sub [0, 1, 2, 3] rfl (ok_X12_reads_b487 C r (fun _ _ _ _ h => h) hw))
def w_X12_reads (M : Mem) (q : Int32 → Mem → Prop) : Prop := ∀ M82 : Mem, M82 = uI M 135 22 (0 : Int32) → ∀ M83 : Mem, M83 = uI M82 135 23 (-1 : Int32) → ∀ M84 : Mem, M84 = uI M83 135 25 (0 : Int32) → ∀ M85 : Mem, M85 = uI M84 135 27 (0 : Int32) → w_X12_reads_l26 q ((0 : Int32), (1 : Int32), (1 : Int32), M85)
set_option maxRecDepth 100000 in
set_option maxHeartbeats 4000000 in
theorem ok_X12_reads {g : Gl} {l : Launch} {M : Mem} {q : Int32 → Mem → Prop} (hw : w_X12_reads M q) : CtI g l yX12_reads cX12_reads 5 (some .boolean) 3 48 [.ref (g.2.2.2 + 135)] M q := by
  refine n_introI (by decide +kernel) (Nat.le_of_ble_eq_true rfl) (fun c C r => ?_)
  have C : Cx c cX12_reads 5 RX12 g l (Rm 3 48) := C
  refine x_sub [0] (lv' := [(0, .ref (g.2.2.2 + 135))]) rfl ?_
  unfold w_X12_reads at hw
  refine x_aload_n C dX12_reads_0 rfl rfl ?_
  refine x_iconst (v := (0 : Int32)) C dX12_reads_1 (by decide) ?_
  obtain ⟨M82, eM82⟩ : ∃ z : Mem, z = uI M 135 22 (0 : Int32) := ⟨_, rfl⟩
  replace hw := hw M82 eM82
  refine m_putI C fp_X12_249 s135 (fun _ _ => rfl) rfl rfl eM82 dX12_reads_2 ?_
  refine x_aload_n C dX12_reads_5 rfl rfl ?_
  refine x_iconst (v := (-1 : Int32)) C dX12_reads_6 (by decide) ?_
  obtain ⟨M83, eM83⟩ : ∃ z : Mem, z = uI M82 135 23 (-1 : Int32) := ⟨_, rfl⟩
  replace hw := hw M83 eM83
  refine m_putI C fp_X12_268 s135 (fun _ _ => rfl) rfl rfl eM83 dX12_reads_7 ?_
  refine x_aload_n C dX12_reads_10 rfl rfl ?_
  refine x_iconst (v := (0 : Int32)) C dX12_reads_11 (by decide) ?_
  obtain ⟨M84, eM84⟩ : ∃ z : Mem, z = uI M83 135 25 (0 : Int32) := ⟨_, rfl⟩
  replace hw := hw M84 eM84
  refine m_putI C fp_X12_255 s135 (fun _ _ => rfl) rfl rfl eM84 dX12_reads_12 ?_
  refine x_aload_n C dX12_reads_15 rfl rfl ?_
  refine x_iconst (v := (0 : Int32)) C dX12_reads_16 (by decide) ?_
  obtain ⟨M85, eM85⟩ : ∃ z : Mem, z = uI M84 135 27 (0 : Int32) := ⟨_, rfl⟩
  replace hw := hw M85 eM85
  refine m_putI C fp_X12_252 s135 (fun _ _ => rfl) rfl rfl eM85 dX12_reads_17 ?_
  refine x_iconst (v := (0 : Int32)) C dX12_reads_20 (by decide) ?_
  refine x_istore_n C dX12_reads_21 rfl (Nat.le_of_ble_eq_true rfl) ?_
  refine x_iconst (v := (1 : Int32)) C dX12_reads_22 (by decide) ?_
  refine x_istore_n C dX12_reads_23 rfl (Nat.le_of_ble_eq_true rfl) ?_
  refine x_iconst (v := (1 : Int32)) C dX12_reads_24 (by decide) ?_
  refine x_istore_n C dX12_reads_25 rfl (Nat.le_of_ble_eq_true rfl) ?_
  exact x_sub [0, 1, 2, 3] rfl (ok_X12_reads_l26 C r  hw)

def w_X12_fault (M : Mem) (q : Int32 → Mem → Prop) : Prop := w_X12_reads  M (fun (r2 : Int32) (M1 : Mem) => q (M1.1 135 23) M1)
set_option maxRecDepth 100000 in
set_option maxHeartbeats 4000000 in
theorem ok_X12_fault {g : Gl} {l : Launch} {M : Mem} {q : Int32 → Mem → Prop} (hw : w_X12_fault M q) : CtI g l yX12_fault cX12_fault 2 (some .int) 4 72 [.ref (g.2.2.2 + 135)] M q := by
  refine n_introI (by decide +kernel) (Nat.le_of_ble_eq_true rfl) (fun c C r => ?_)
  have C : Cx c cX12_fault 2 RX12 g l (Rm 4 72) := C
  refine x_sub [0] (lv' := [(0, .ref (g.2.2.2 + 135))]) rfl ?_
  unfold w_X12_fault at hw
  refine x_aload_n C dX12_fault_0 rfl rfl ?_
  refine n_callVI s135 rfl C (ok_X12_reads  hw) mv_X12_293 rfl rfl ⟨Nat.le_of_ble_eq_true rfl, Nat.le_of_ble_eq_true rfl⟩ (Nat.le_of_ble_eq_true rfl) dX12_fault_1 (fun r2 M1 hw => ?_)
  refine x_istore_n C dX12_fault_4 rfl (Nat.le_of_ble_eq_true rfl) ?_
  refine x_aload_n C dX12_fault_5 rfl rfl ?_
  refine n_getI C fl_X12_268 s135 (fun _ _ => rfl) dX12_fault_6 ?_
  exact n_ireturn C r dX12_fault_9 hw

def w_X12_rung_b190 (v1 : Int32) (v2 : Int32) (v3 : Int32) (v4 : Int32) (v6 : Int32) (v7 : Int32) (M : Mem) (q : Int32 → Mem → Prop) (P50 : Int32 × Int32 × Int32 × Mem → Prop) : Prop := ∀ x1 : Int32, x1 = v6 + (1 : Int32) → P50 (v4, v7, x1, M)
set_option maxRecDepth 100000 in
set_option maxHeartbeats 4000000 in
theorem ok_X12_rung_b190 {c : CtxT} {g : Gl} {l : Launch} {v1 : Int32} {v2 : Int32} {v3 : Int32} {v4 : Int32} {v6 : Int32} {v7 : Int32} {q : Int32 → Mem → Prop} {P50 : Int32 × Int32 × Int32 × Mem → Prop} {M : Mem} (C : Cx c cX12_rung 9 RX12 g l (Rm 4 72)) (r : Rt c (some .int) (pI q) 0 0) (hP50 : ∀ (v4 : Int32) (v5 : Int32) (v6 : Int32) (M : Mem), P50 (v4, v5, v6, M) → X c S0 50 [(0, .ref (g.2.2.2 + 135)), (1, .int v1), (2, .int v2), (3, .int v3), (4, .int v4), (5, .int v5), (6, .int v6)] [] (stat M)) (hw : w_X12_rung_b190 v1 v2 v3 v4 v6 v7 M q P50) : X c S0 190 [(0, .ref (g.2.2.2 + 135)), (1, .int v1), (2, .int v2), (3, .int v3), (4, .int v4), (6, .int v6), (7, .int v7)] [] (stat M) := by
  unfold w_X12_rung_b190 at hw
  refine x_iload C dX12_rung_190 rfl ?_
  refine x_istore C dX12_rung_192 (Nat.le_of_ble_eq_true rfl) ?_
  obtain ⟨x1, ex1⟩ : ∃ z : Int32, z = v6 + (1 : Int32) := ⟨_, rfl⟩
  replace hw := hw x1 ex1
  refine x_iinc (v := x1) C dX12_rung_194 rfl ex1.symm (Nat.le_of_ble_eq_true rfl) ?_
  refine x_goto (tgt := 50) C dX12_rung_197 (by decide) ?_
  exact x_sub [0, 1, 2, 3, 4, 5, 6] rfl (hP50 _ _ _ _ hw)
def w_X12_rung_b187 (v1 : Int32) (v2 : Int32) (v3 : Int32) (v6 : Int32) (v7 : Int32) (t0 : Int32) (t1 : Int32) (M : Mem) (q : Int32 → Mem → Prop) (P50 : Int32 × Int32 × Int32 × Mem → Prop) : Prop := ∀ x2 : Int32, x2 = (t0 ||| t1) → w_X12_rung_b190 v1 v2 v3 x2 v6 v7 M q P50
set_option maxRecDepth 100000 in
set_option maxHeartbeats 4000000 in
theorem ok_X12_rung_b187 {c : CtxT} {g : Gl} {l : Launch} {v1 : Int32} {v2 : Int32} {v3 : Int32} {v6 : Int32} {v7 : Int32} {t0 : Int32} {t1 : Int32} {q : Int32 → Mem → Prop} {P50 : Int32 × Int32 × Int32 × Mem → Prop} {M : Mem} (C : Cx c cX12_rung 9 RX12 g l (Rm 4 72)) (r : Rt c (some .int) (pI q) 0 0) (hP50 : ∀ (v4 : Int32) (v5 : Int32) (v6 : Int32) (M : Mem), P50 (v4, v5, v6, M) → X c S0 50 [(0, .ref (g.2.2.2 + 135)), (1, .int v1), (2, .int v2), (3, .int v3), (4, .int v4), (5, .int v5), (6, .int v6)] [] (stat M)) (hw : w_X12_rung_b187 v1 v2 v3 v6 v7 t0 t1 M q P50) : X c S0 187 [(0, .ref (g.2.2.2 + 135)), (1, .int v1), (2, .int v2), (3, .int v3), (6, .int v6), (7, .int v7)] [.int t1, .int t0] (stat M) := by
  unfold w_X12_rung_b187 at hw
  refine x_ior C dX12_rung_187 ?_
  obtain ⟨x2, ex2⟩ : ∃ z : Int32, z = (t0 ||| t1) := ⟨_, rfl⟩
  replace hw := hw x2 ex2
  refine x_topi ex2 ?_
  refine x_istore C dX12_rung_188 (Nat.le_of_ble_eq_true rfl) ?_
  exact x_sub [0, 1, 2, 3, 4, 6, 7] rfl (ok_X12_rung_b190 C r hP50 hw)
def w_X12_rung_b84 (v1 : Int32) (v2 : Int32) (v3 : Int32) (v4 : Int32) (v5 : Int32) (v6 : Int32) (t0 : Int32) (M : Mem) (q : Int32 → Mem → Prop) (P50 : Int32 × Int32 × Int32 × Mem → Prop) : Prop := (((M.1 135 12) ≤ 0 → w_X12_rung_b190 v1 v2 v3 v4 v6 t0 M q P50) ∧ (¬ (M.1 135 12) ≤ 0 → ∀ M4 : Mem, M4 = uJ M 153 0 ((M.1 135 12)).toInt64 → ∀ M5 : Mem, M5 = uJ M4 153 1 (t0).toInt64 → ∀ M6 : Mem, M6 = uJ M5 153 2 ((M5.1 145 0)).toInt64 → vp_in ((M6.1 135 12) - (1 : Int32)) 200 ∧ ∀ M8 : Mem, M8 = uJ M6 153 3 ((M6.1 145 (((M6.1 135 12) - (1 : Int32))).toNatClampNeg)).toInt64 → ∀ M9 : Mem, M9 = uJ M8 153 4 (v5).toInt64 → ∀ M10 : Mem, M10 = uJ M9 153 5 (v6).toInt64 → w_X12_reads  M10 (fun (r12 : Int32) (M11 : Mem) => (((M11.2.1 135 29) = (0 : Int64) → w_X12_rung_b187 v1 v2 v3 v6 t0 v4 (0 : Int32) M11 q P50) ∧ (¬ (M11.2.1 135 29) = (0 : Int64) → w_X12_rung_b187 v1 v2 v3 v6 t0 v4 ((1 : Int32) <<< (v6 &&& 31)) M11 q P50)))))
set_option maxRecDepth 100000 in
set_option maxHeartbeats 4000000 in
theorem ok_X12_rung_b84 {c : CtxT} {g : Gl} {l : Launch} {v1 : Int32} {v2 : Int32} {v3 : Int32} {v4 : Int32} {v5 : Int32} {v6 : Int32} {t0 : Int32} {q : Int32 → Mem → Prop} {P50 : Int32 × Int32 × Int32 × Mem → Prop} {M : Mem} (C : Cx c cX12_rung 9 RX12 g l (Rm 4 72)) (r : Rt c (some .int) (pI q) 0 0) (hP50 : ∀ (v4 : Int32) (v5 : Int32) (v6 : Int32) (M : Mem), P50 (v4, v5, v6, M) → X c S0 50 [(0, .ref (g.2.2.2 + 135)), (1, .int v1), (2, .int v2), (3, .int v3), (4, .int v4), (5, .int v5), (6, .int v6)] [] (stat M)) (hw : w_X12_rung_b84 v1 v2 v3 v4 v5 v6 t0 M q P50) : X c S0 84 [(0, .ref (g.2.2.2 + 135)), (1, .int v1), (2, .int v2), (3, .int v3), (4, .int v4), (5, .int v5), (6, .int v6)] [.int t0] (stat M) := by
  unfold w_X12_rung_b84 at hw
  refine x_istore C dX12_rung_84 (Nat.le_of_ble_eq_true rfl) ?_
  refine x_aload_n C dX12_rung_86 rfl rfl ?_
  refine n_getI C fl_X12_171 s135 (fun _ _ => rfl) dX12_rung_87 ?_
  refine x_if_le (tgt := 190) C dX12_rung_90 (by decide) (fun h3 => ?_) (fun h3 => ?_)
  · replace hw := hw.1 h3
    exact x_sub [0, 1, 2, 3, 4, 6, 7] rfl (ok_X12_rung_b190 C r hP50 hw)
  · replace hw := hw.2 h3
    refine x_aload_n C dX12_rung_93 rfl rfl ?_
    refine n_getS (dd := 18) C fl_X12_63 s135 (fun _ _ => rfl) rfl dX12_rung_94 ?_
    refine x_iconst (v := (0 : Int32)) C dX12_rung_97 (by decide) ?_
    refine x_aload_n C dX12_rung_98 rfl rfl ?_
    refine n_getI C fl_X12_171 s135 (fun _ _ => rfl) dX12_rung_99 ?_
    refine x_i2l C dX12_rung_102 ?_
    obtain ⟨M4, eM4⟩ : ∃ z : Mem, z = uJ M 153 0 ((M.1 135 12)).toInt64 := ⟨_, rfl⟩
    replace hw := hw M4 eM4
    refine a_last C s153 ln153 (by decide) (vin _ _ (by decide +kernel)) eM4 dX12_rung_103 ?_
    refine x_aload_n C dX12_rung_104 rfl rfl ?_
    refine n_getS (dd := 18) C fl_X12_63 s135 (fun _ _ => rfl) rfl dX12_rung_105 ?_
    refine x_iconst (v := (1 : Int32)) C dX12_rung_108 (by decide) ?_
    refine x_iload C dX12_rung_109 rfl ?_
    refine x_i2l C dX12_rung_111 ?_
    obtain ⟨M5, eM5⟩ : ∃ z : Mem, z = uJ M4 153 1 (t0).toInt64 := ⟨_, rfl⟩
    replace hw := hw M5 eM5
    refine a_last C s153 ln153 (by decide) (vin _ _ (by decide +kernel)) eM5 dX12_rung_112 ?_
    refine x_aload_n C dX12_rung_113 rfl rfl ?_
    refine n_getS (dd := 18) C fl_X12_63 s135 (fun _ _ => rfl) rfl dX12_rung_114 ?_
    refine x_iconst (v := (2 : Int32)) C dX12_rung_117 (by decide) ?_
    refine x_aload_n C dX12_rung_118 rfl rfl ?_
    refine n_getS (dd := 10) C fl_X12_38 s135 (fun _ _ => rfl) rfl dX12_rung_119 ?_
    refine x_iconst (v := (0 : Int32)) C dX12_rung_122 (by decide) ?_
    refine a_ialdL (ni := 0) C s145 ln145 (by decide) (vin _ _ (by decide +kernel)) dX12_rung_123 ?_
    refine x_i2l C dX12_rung_124 ?_
    obtain ⟨M6, eM6⟩ : ∃ z : Mem, z = uJ M5 153 2 ((M5.1 145 0)).toInt64 := ⟨_, rfl⟩
    replace hw := hw M6 eM6
    refine a_last C s153 ln153 (by decide) (vin _ _ (by decide +kernel)) eM6 dX12_rung_125 ?_
    refine x_aload_n C dX12_rung_126 rfl rfl ?_
    refine n_getS (dd := 18) C fl_X12_63 s135 (fun _ _ => rfl) rfl dX12_rung_127 ?_
    refine x_iconst (v := (3 : Int32)) C dX12_rung_130 (by decide) ?_
    refine x_aload_n C dX12_rung_131 rfl rfl ?_
    refine n_getS (dd := 10) C fl_X12_38 s135 (fun _ _ => rfl) rfl dX12_rung_132 ?_
    refine x_aload_n C dX12_rung_135 rfl rfl ?_
    refine n_getI C fl_X12_171 s135 (fun _ _ => rfl) dX12_rung_136 ?_
    refine x_iconst (v := (1 : Int32)) C dX12_rung_139 (by decide) ?_
    refine x_isub C dX12_rung_140 ?_
    obtain ⟨h7, hw⟩ := hw
    refine a_iald C s145 ln145 h7 dX12_rung_141 ?_
    refine x_i2l C dX12_rung_142 ?_
    obtain ⟨M8, eM8⟩ : ∃ z : Mem, z = uJ M6 153 3 ((M6.1 145 (((M6.1 135 12) - (1 : Int32))).toNatClampNeg)).toInt64 := ⟨_, rfl⟩
    replace hw := hw M8 eM8
    refine a_last C s153 ln153 (by decide) (vin _ _ (by decide +kernel)) eM8 dX12_rung_143 ?_
    refine x_aload_n C dX12_rung_144 rfl rfl ?_
    refine n_getS (dd := 18) C fl_X12_63 s135 (fun _ _ => rfl) rfl dX12_rung_145 ?_
    refine x_iconst (v := (4 : Int32)) C dX12_rung_148 (by decide) ?_
    refine x_iload C dX12_rung_149 rfl ?_
    refine x_i2l C dX12_rung_151 ?_
    obtain ⟨M9, eM9⟩ : ∃ z : Mem, z = uJ M8 153 4 (v5).toInt64 := ⟨_, rfl⟩
    replace hw := hw M9 eM9
    refine a_last C s153 ln153 (by decide) (vin _ _ (by decide +kernel)) eM9 dX12_rung_152 ?_
    refine x_aload_n C dX12_rung_153 rfl rfl ?_
    refine n_getS (dd := 18) C fl_X12_63 s135 (fun _ _ => rfl) rfl dX12_rung_154 ?_
    refine x_iconst (v := (5 : Int32)) C dX12_rung_157 (by decide) ?_
    refine x_iload C dX12_rung_158 rfl ?_
    refine x_i2l C dX12_rung_160 ?_
    obtain ⟨M10, eM10⟩ : ∃ z : Mem, z = uJ M9 153 5 (v6).toInt64 := ⟨_, rfl⟩
    replace hw := hw M10 eM10
    refine a_last C s153 ln153 (by decide) (vin _ _ (by decide +kernel)) eM10 dX12_rung_161 ?_
    refine x_aload_n C dX12_rung_162 rfl rfl ?_
    refine n_callVI s135 rfl C (ok_X12_reads  hw) mv_X12_293 rfl rfl ⟨Nat.le_of_ble_eq_true rfl, Nat.le_of_ble_eq_true rfl⟩ (Nat.le_of_ble_eq_true rfl) dX12_rung_163 (fun r12 M11 hw => ?_)
    refine x_istore C dX12_rung_166 (Nat.le_of_ble_eq_true rfl) ?_
    refine x_iload C dX12_rung_168 rfl ?_
    refine x_aload_n C dX12_rung_170 rfl rfl ?_
    refine n_getJ C fl_X12_290 s135 (fun _ _ => rfl) dX12_rung_171 ?_
    refine x_lconst (v := (0 : Int64)) C dX12_rung_174 (by decide) ?_
    refine x_lc_eq (tgt := 186) C dX12_rung_175 dX12_rung_176 (by decide) (fun h13 => ?_) (fun h13 => ?_)
    · replace hw := hw.1 h13
      refine x_iconst (v := (0 : Int32)) C dX12_rung_186 (by decide) ?_
      exact x_sub [0, 1, 2, 3, 6, 7] rfl (ok_X12_rung_b187 C r hP50 hw)
    · replace hw := hw.2 h13
      refine x_iconst (v := (1 : Int32)) C dX12_rung_179 (by decide) ?_
      refine x_iload C dX12_rung_180 rfl ?_
      refine x_ishl C dX12_rung_182 ?_
      refine x_goto (tgt := 187) C dX12_rung_183 (by decide) ?_
      exact x_sub [0, 1, 2, 3, 6, 7] rfl (ok_X12_rung_b187 C r hP50 hw)
def w_X12_rung_l50F (v1 : Int32) (v2 : Int32) (v3 : Int32) (q : Int32 → Mem → Prop) (P50 : Int32 × Int32 × Int32 × Mem → Prop) (s : Int32 × Int32 × Int32 × Mem) : Prop := match s with
  | (v4, v5, v6, M) => w_X12_many (2 : Int32) M (fun (r15 : Int32) (M14 : Mem) => ((r15 ≤ v6 → q v4 M14) ∧ (¬ r15 ≤ v6 → w_X12_sortRuns v6 v1 v2 v3 M14 (fun (M17 : Mem) => ((¬ (M17.1 135 12) = 0 → w_X12_middle  M17 (fun (r21 : Int32) (M20 : Mem) => w_X12_rung_b84 v1 v2 v3 v4 v5 v6 r21 M20 q P50)) ∧ ((M17.1 135 12) = 0 → w_X12_rung_b84 v1 v2 v3 v4 v5 v6 (0 : Int32) M17 q P50))))))
def w_X12_rung_l50 (v1 : Int32) (v2 : Int32) (v3 : Int32) (q : Int32 → Mem → Prop) (s : Int32 × Int32 × Int32 × Mem) : Prop := lfp (w_X12_rung_l50F v1 v2 v3 q ) s
set_option maxRecDepth 100000 in
set_option maxHeartbeats 4000000 in
theorem ok_X12_rung_l50 {c : CtxT} {g : Gl} {l : Launch} {v1 : Int32} {v2 : Int32} {v3 : Int32} {q : Int32 → Mem → Prop} {s : Int32 × Int32 × Int32 × Mem} (C : Cx c cX12_rung 9 RX12 g l (Rm 4 72)) (r : Rt c (some .int) (pI q) 0 0) (hw : w_X12_rung_l50 v1 v2 v3 q s) : X c S0 50 [(0, .ref (g.2.2.2 + 135)), (1, .int v1), (2, .int v2), (3, .int v3), (4, .int s.1), (5, .int s.2.1), (6, .int s.2.2.1)] [] (stat s.2.2.2) := hw (fun s => X c S0 50 [(0, .ref (g.2.2.2 + 135)), (1, .int v1), (2, .int v2), (3, .int v3), (4, .int s.1), (5, .int s.2.1), (6, .int s.2.2.1)] [] (stat s.2.2.2)) (fun s hw => by
    obtain ⟨v4, v5, v6, M⟩ := s
    try dsimp only [w_X12_rung_l50F] at hw
    try dsimp only
    refine x_iload C dX12_rung_50 rfl ?_
    refine x_aload_n C dX12_rung_52 rfl rfl ?_
    refine x_iconst (v := (2 : Int32)) C dX12_rung_53 (by decide) ?_
    refine n_callVI s135 rfl C (ok_X12_many  hw) mv_X12_66 rfl rfl ⟨Nat.le_of_ble_eq_true rfl, Nat.le_of_ble_eq_true rfl⟩ (Nat.le_of_ble_eq_true rfl) dX12_rung_54 (fun r15 M14 hw => ?_)
    refine x_icmp_ge (tgt := 200) C dX12_rung_57 (by decide) (fun h16 => ?_) (fun h16 => ?_)
    · replace hw := hw.1 h16
      refine x_iload C dX12_rung_200 rfl ?_
      exact n_ireturn C r dX12_rung_202 hw
    · replace hw := hw.2 h16
      refine x_aload_n C dX12_rung_60 rfl rfl ?_
      refine x_iload C dX12_rung_61 rfl ?_
      refine x_iload_n C dX12_rung_63 rfl rfl ?_
      refine x_iload_n C dX12_rung_64 rfl rfl ?_
      refine x_iload_n C dX12_rung_65 rfl rfl ?_
      refine n_callVV s135 rfl C (ok_X12_sortRuns  hw) mv_X12_178 rfl rfl ⟨Nat.le_of_ble_eq_true rfl, Nat.le_of_ble_eq_true rfl⟩ (Nat.le_of_ble_eq_true rfl) dX12_rung_66 (fun M17 hw => ?_)
      refine x_aload_n C dX12_rung_69 rfl rfl ?_
      refine n_getI C fl_X12_171 s135 (fun _ _ => rfl) dX12_rung_70 ?_
      refine x_if_ne (tgt := 80) C dX12_rung_73 (by decide) (fun h19 => ?_) (fun h19 => ?_)
      · replace hw := hw.1 h19
        refine x_aload_n C dX12_rung_80 rfl rfl ?_
        refine n_callVI s135 rfl C (ok_X12_middle  hw) mv_X12_181 rfl rfl ⟨Nat.le_of_ble_eq_true rfl, Nat.le_of_ble_eq_true rfl⟩ (Nat.le_of_ble_eq_true rfl) dX12_rung_81 (fun r21 M20 hw => ?_)
        exact x_sub [0, 1, 2, 3, 4, 5, 6] rfl (ok_X12_rung_b84 C r (fun _ _ _ _ h => h) hw)
      · replace hw := hw.2 h19
        refine x_iconst (v := (0 : Int32)) C dX12_rung_76 (by decide) ?_
        refine x_goto (tgt := 84) C dX12_rung_77 (by decide) ?_
        exact x_sub [0, 1, 2, 3, 4, 5, 6] rfl (ok_X12_rung_b84 C r (fun _ _ _ _ h => h) hw))
def w_X12_rung (v1 : Int32) (v2 : Int32) (v3 : Int32) (M : Mem) (q : Int32 → Mem → Prop) : Prop := w_X12_isMachine v1 M (fun (r23 : Int32) (M22 : Mem) => ((r23 = 0 → q (-2 : Int32) M22) ∧ (¬ r23 = 0 → w_X12_has (3 : Int32) v2 M22 (fun (r26 : Int32) (M25 : Mem) => ((r26 = 0 → q (-2 : Int32) M25) ∧ (¬ r26 = 0 → w_X12_in (v3).toInt64 (0 : Int64) (200 : Int64) M25 (fun (r29 : Int32) (M28 : Mem) => ((¬ r29 = 0 → w_X12_reads  M28 (fun (r32 : Int32) (M31 : Mem) => ((¬ r32 = 0 → w_X12_rung_l50 v1 v2 v3 q ((0 : Int32), (0 : Int32), (0 : Int32), M31)) ∧ (r32 = 0 → q (-3 : Int32) M31)))) ∧ (r29 = 0 → q (-2 : Int32) M28)))))))))
set_option maxRecDepth 100000 in
set_option maxHeartbeats 4000000 in
theorem ok_X12_rung {g : Gl} {l : Launch} {v1 : Int32} {v2 : Int32} {v3 : Int32} {M : Mem} {q : Int32 → Mem → Prop} (hw : w_X12_rung v1 v2 v3 M q) : CtI g l yX12_rung cX12_rung 9 (some .int) 4 72 [.ref (g.2.2.2 + 135), .int v1, .int v2, .int v3] M q := by
  refine n_introI (by decide +kernel) (Nat.le_of_ble_eq_true rfl) (fun c C r => ?_)
  have C : Cx c cX12_rung 9 RX12 g l (Rm 4 72) := C
  refine x_sub [0, 1, 2, 3] (lv' := [(0, .ref (g.2.2.2 + 135)), (1, .int v1), (2, .int v2), (3, .int v3)]) rfl ?_
  unfold w_X12_rung at hw
  refine x_iload_n C dX12_rung_0 rfl rfl ?_
  refine n_callSI C (ok_X12_isMachine  hw) ms_X12_100 rfl rfl ⟨Nat.le_of_ble_eq_true rfl, Nat.le_of_ble_eq_true rfl⟩ (Nat.le_of_ble_eq_true rfl) dX12_rung_1 (fun r23 M22 hw => ?_)
  refine x_if_eq (tgt := 28) C dX12_rung_4 (by decide) (fun h24 => ?_) (fun h24 => ?_)
  · replace hw := hw.1 h24
    refine x_bipush (v := (-2 : Int32)) C dX12_rung_28 (by decide) ?_
    exact n_ireturn C r dX12_rung_30 hw
  · replace hw := hw.2 h24
    refine x_aload_n C dX12_rung_7 rfl rfl ?_
    refine x_iconst (v := (3 : Int32)) C dX12_rung_8 (by decide) ?_
    refine x_iload_n C dX12_rung_9 rfl rfl ?_
    refine n_callVI s135 rfl C (ok_X12_has  hw) mv_X12_84 rfl rfl ⟨Nat.le_of_ble_eq_true rfl, Nat.le_of_ble_eq_true rfl⟩ (Nat.le_of_ble_eq_true rfl) dX12_rung_10 (fun r26 M25 hw => ?_)
    refine x_if_eq (tgt := 28) C dX12_rung_13 (by decide) (fun h27 => ?_) (fun h27 => ?_)
    · replace hw := hw.1 h27
      refine x_bipush (v := (-2 : Int32)) C dX12_rung_28 (by decide) ?_
      exact n_ireturn C r dX12_rung_30 hw
    · replace hw := hw.2 h27
      refine x_iload_n C dX12_rung_16 rfl rfl ?_
      refine x_i2l C dX12_rung_17 ?_
      refine x_lconst (v := (0 : Int64)) C dX12_rung_18 (by decide) ?_
      refine x_ldc2_w (v := (200 : Int64)) C dX12_rung_19 kc_X12_109 ?_
      refine n_callSI C (ok_X12_in  hw) ms_X12_70 rfl rfl ⟨Nat.le_of_ble_eq_true rfl, Nat.le_of_ble_eq_true rfl⟩ (Nat.le_of_ble_eq_true rfl) dX12_rung_22 (fun r29 M28 hw => ?_)
      refine x_if_ne (tgt := 31) C dX12_rung_25 (by decide) (fun h30 => ?_) (fun h30 => ?_)
      · replace hw := hw.1 h30
        refine x_aload_n C dX12_rung_31 rfl rfl ?_
        refine n_callVI s135 rfl C (ok_X12_reads  hw) mv_X12_293 rfl rfl ⟨Nat.le_of_ble_eq_true rfl, Nat.le_of_ble_eq_true rfl⟩ (Nat.le_of_ble_eq_true rfl) dX12_rung_32 (fun r32 M31 hw => ?_)
        refine x_if_ne (tgt := 41) C dX12_rung_35 (by decide) (fun h33 => ?_) (fun h33 => ?_)
        · replace hw := hw.1 h33
          refine x_iconst (v := (0 : Int32)) C dX12_rung_41 (by decide) ?_
          refine x_istore C dX12_rung_42 (Nat.le_of_ble_eq_true rfl) ?_
          refine x_iconst (v := (0 : Int32)) C dX12_rung_44 (by decide) ?_
          refine x_istore C dX12_rung_45 (Nat.le_of_ble_eq_true rfl) ?_
          refine x_iconst (v := (0 : Int32)) C dX12_rung_47 (by decide) ?_
          refine x_istore C dX12_rung_48 (Nat.le_of_ble_eq_true rfl) ?_
          exact x_sub [0, 1, 2, 3, 4, 5, 6] rfl (ok_X12_rung_l50 C r  hw)
        · replace hw := hw.2 h33
          refine x_bipush (v := (-3 : Int32)) C dX12_rung_38 (by decide) ?_
          exact n_ireturn C r dX12_rung_40 hw
      · replace hw := hw.2 h30
        refine x_bipush (v := (-2 : Int32)) C dX12_rung_28 (by decide) ?_
        exact n_ireturn C r dX12_rung_30 hw

def w_X12_forge (v1 : Int32) (v2 : Int32) (M : Mem) (q : Int32 → Mem → Prop) : Prop := w_X12_has (4 : Int32) v1 M (fun (r2 : Int32) (M1 : Mem) => ((r2 = 0 → q (-2000000000 : Int32) M1) ∧ (¬ r2 = 0 → vp_in (((1346 : Int32) + ((14 : Int32) * v1)) + (6 : Int32)) 4230 ∧ (((M1.1 136 ((((1346 : Int32) + ((14 : Int32) * v1)) + (6 : Int32))).toNatClampNeg) = (1 : Int32) → q (-2000000000 : Int32) M1) ∧ (¬ (M1.1 136 ((((1346 : Int32) + ((14 : Int32) * v1)) + (6 : Int32))).toNatClampNeg) = (1 : Int32) → w_X12_in (v2).toInt64 (0 : Int64) (10000000 : Int64) M1 (fun (r7 : Int32) (M6 : Mem) => ((¬ r7 = 0 → vp_in (((1346 : Int32) + ((14 : Int32) * v1)) + (5 : Int32)) 4230 ∧ ∀ x10 : Int32, x10 = (M6.1 136 ((((1346 : Int32) + ((14 : Int32) * v1)) + (5 : Int32))).toNatClampNeg) → vp_in (((1346 : Int32) + ((14 : Int32) * v1)) + (5 : Int32)) 4230 ∧ ∀ M12 : Mem, M12 = uI M6 136 ((((1346 : Int32) + ((14 : Int32) * v1)) + (5 : Int32))).toNatClampNeg v2 → q x10 M12) ∧ (r7 = 0 → q (-2000000000 : Int32) M6))))))))
set_option maxRecDepth 100000 in
set_option maxHeartbeats 4000000 in
theorem ok_X12_forge {g : Gl} {l : Launch} {v1 : Int32} {v2 : Int32} {M : Mem} {q : Int32 → Mem → Prop} (hw : w_X12_forge v1 v2 M q) : CtI g l yX12_forge cX12_forge 4 (some .int) 3 47 [.ref (g.2.2.2 + 135), .int v1, .int v2] M q := by
  refine n_introI (by decide +kernel) (Nat.le_of_ble_eq_true rfl) (fun c C r => ?_)
  have C : Cx c cX12_forge 4 RX12 g l (Rm 3 47) := C
  refine x_sub [0, 1, 2] (lv' := [(0, .ref (g.2.2.2 + 135)), (1, .int v1), (2, .int v2)]) rfl ?_
  unfold w_X12_forge at hw
  refine x_aload_n C dX12_forge_0 rfl rfl ?_
  refine x_iconst (v := (4 : Int32)) C dX12_forge_1 (by decide) ?_
  refine x_iload_n C dX12_forge_2 rfl rfl ?_
  refine n_callVI s135 rfl C (ok_X12_has  hw) mv_X12_84 rfl rfl ⟨Nat.le_of_ble_eq_true rfl, Nat.le_of_ble_eq_true rfl⟩ (Nat.le_of_ble_eq_true rfl) dX12_forge_3 (fun r2 M1 hw => ?_)
  refine x_if_eq (tgt := 41) C dX12_forge_6 (by decide) (fun h3 => ?_) (fun h3 => ?_)
  · replace hw := hw.1 h3
    refine x_ldc (v := (-2000000000 : Int32)) C dX12_forge_41 kc_X12_164 ?_
    exact n_ireturn C r dX12_forge_43 hw
  · replace hw := hw.2 h3
    refine x_aload_n C dX12_forge_9 rfl rfl ?_
    refine n_getS (dd := 1) C fl_X12_7 s135 (fun _ _ => rfl) rfl dX12_forge_10 ?_
    refine x_sipush (v := (1346 : Int32)) C dX12_forge_13 (by decide) ?_
    refine x_bipush (v := (14 : Int32)) C dX12_forge_16 (by decide) ?_
    refine x_iload_n C dX12_forge_18 rfl rfl ?_
    refine x_imul C dX12_forge_19 ?_
    refine x_iadd C dX12_forge_20 ?_
    refine x_bipush (v := (6 : Int32)) C dX12_forge_21 (by decide) ?_
    refine x_iadd C dX12_forge_23 ?_
    obtain ⟨h4, hw⟩ := hw
    refine a_iald C s136 ln136 h4 dX12_forge_24 ?_
    refine x_iconst (v := (1 : Int32)) C dX12_forge_25 (by decide) ?_
    refine x_icmp_eq (tgt := 41) C dX12_forge_26 (by decide) (fun h5 => ?_) (fun h5 => ?_)
    · replace hw := hw.1 h5
      refine x_ldc (v := (-2000000000 : Int32)) C dX12_forge_41 kc_X12_164 ?_
      exact n_ireturn C r dX12_forge_43 hw
    · replace hw := hw.2 h5
      refine x_iload_n C dX12_forge_29 rfl rfl ?_
      refine x_i2l C dX12_forge_30 ?_
      refine x_lconst (v := (0 : Int64)) C dX12_forge_31 (by decide) ?_
      refine x_ldc2_w (v := (10000000 : Int64)) C dX12_forge_32 kc_X12_297 ?_
      refine n_callSI C (ok_X12_in  hw) ms_X12_70 rfl rfl ⟨Nat.le_of_ble_eq_true rfl, Nat.le_of_ble_eq_true rfl⟩ (Nat.le_of_ble_eq_true rfl) dX12_forge_35 (fun r7 M6 hw => ?_)
      refine x_if_ne (tgt := 44) C dX12_forge_38 (by decide) (fun h8 => ?_) (fun h8 => ?_)
      · replace hw := hw.1 h8
        refine x_aload_n C dX12_forge_44 rfl rfl ?_
        refine n_getS (dd := 1) C fl_X12_7 s135 (fun _ _ => rfl) rfl dX12_forge_45 ?_
        refine x_sipush (v := (1346 : Int32)) C dX12_forge_48 (by decide) ?_
        refine x_bipush (v := (14 : Int32)) C dX12_forge_51 (by decide) ?_
        refine x_iload_n C dX12_forge_53 rfl rfl ?_
        refine x_imul C dX12_forge_54 ?_
        refine x_iadd C dX12_forge_55 ?_
        refine x_iconst (v := (5 : Int32)) C dX12_forge_56 (by decide) ?_
        refine x_iadd C dX12_forge_57 ?_
        obtain ⟨h9, hw⟩ := hw
        refine a_iald C s136 ln136 h9 dX12_forge_58 ?_
        obtain ⟨x10, ex10⟩ : ∃ z : Int32, z = (M6.1 136 ((((1346 : Int32) + ((14 : Int32) * v1)) + (5 : Int32))).toNatClampNeg) := ⟨_, rfl⟩
        replace hw := hw x10 ex10
        refine x_topi ex10 ?_
        refine x_istore_n C dX12_forge_59 rfl (Nat.le_of_ble_eq_true rfl) ?_
        refine x_aload_n C dX12_forge_60 rfl rfl ?_
        refine n_getS (dd := 1) C fl_X12_7 s135 (fun _ _ => rfl) rfl dX12_forge_61 ?_
        refine x_sipush (v := (1346 : Int32)) C dX12_forge_64 (by decide) ?_
        refine x_bipush (v := (14 : Int32)) C dX12_forge_67 (by decide) ?_
        refine x_iload_n C dX12_forge_69 rfl rfl ?_
        refine x_imul C dX12_forge_70 ?_
        refine x_iadd C dX12_forge_71 ?_
        refine x_iconst (v := (5 : Int32)) C dX12_forge_72 (by decide) ?_
        refine x_iadd C dX12_forge_73 ?_
        refine x_iload_n C dX12_forge_74 rfl rfl ?_
        obtain ⟨h11, hw⟩ := hw
        obtain ⟨M12, eM12⟩ : ∃ z : Mem, z = uI M6 136 ((((1346 : Int32) + ((14 : Int32) * v1)) + (5 : Int32))).toNatClampNeg v2 := ⟨_, rfl⟩
        replace hw := hw M12 eM12
        refine a_iast C s136 ln136 rfl h11 eM12 dX12_forge_75 ?_
        refine x_iload_n C dX12_forge_76 rfl rfl ?_
        exact n_ireturn C r dX12_forge_77 hw
      · replace hw := hw.2 h8
        refine x_ldc (v := (-2000000000 : Int32)) C dX12_forge_41 kc_X12_164 ?_
        exact n_ireturn C r dX12_forge_43 hw

def w_X12_check_b118 (v1 : Int32) (M : Mem) (q : Int32 → Mem → Prop) (P2 : Int32 × Mem → Prop) : Prop := ∀ x1 : Int32, x1 = v1 + (1 : Int32) → P2 (x1, M)
set_option maxRecDepth 100000 in
set_option maxHeartbeats 4000000 in
theorem ok_X12_check_b118 {c : CtxT} {g : Gl} {l : Launch} {v1 : Int32} {q : Int32 → Mem → Prop} {P2 : Int32 × Mem → Prop} {M : Mem} (C : Cx c cX12_check 4 RX12 g l (Rm 5 110)) (r : Rt c (some .int) (pI q) 0 0) (hP2 : ∀ (v1 : Int32) (M : Mem), P2 (v1, M) → X c S0 2 [(0, .ref (g.2.2.2 + 135)), (1, .int v1)] [] (stat M)) (hw : w_X12_check_b118 v1 M q P2) : X c S0 118 [(0, .ref (g.2.2.2 + 135)), (1, .int v1)] [] (stat M) := by
  unfold w_X12_check_b118 at hw
  obtain ⟨x1, ex1⟩ : ∃ z : Int32, z = v1 + (1 : Int32) := ⟨_, rfl⟩
  replace hw := hw x1 ex1
  refine x_iinc (v := x1) C dX12_check_118 rfl ex1.symm (Nat.le_of_ble_eq_true rfl) ?_
  refine x_goto (tgt := 2) C dX12_check_121 (by decide) ?_
  exact x_sub [0, 1] rfl (hP2 _ _ hw)
def w_X12_check_l87F (v1 : Int32) (v2 : Int32) (q : Int32 → Mem → Prop) (P2 : Int32 × Mem → Prop) (P87 : Int32 × Mem → Prop) (s : Int32 × Mem) : Prop := match s with
  | (v3, M) => (((6 : Int32) ≤ v3 → w_X12_check_b118 v1 M q P2) ∧ (¬ (6 : Int32) ≤ v3 → vp_in v3 6 ∧ vp_in (v2 + v3) 4230 ∧ (((M.1 144 (v3).toNatClampNeg) = (M.1 136 ((v2 + v3)).toNatClampNeg) → ∀ x6 : Int32, x6 = v3 + (1 : Int32) → P87 (x6, M)) ∧ (¬ (M.1 144 (v3).toNatClampNeg) = (M.1 136 ((v2 + v3)).toNatClampNeg) → q v1 M))))
def w_X12_check_l87 (v1 : Int32) (v2 : Int32) (q : Int32 → Mem → Prop) (P2 : Int32 × Mem → Prop) (s : Int32 × Mem) : Prop := lfp (w_X12_check_l87F v1 v2 q P2) s
set_option maxRecDepth 100000 in
set_option maxHeartbeats 4000000 in
theorem ok_X12_check_l87 {c : CtxT} {g : Gl} {l : Launch} {v1 : Int32} {v2 : Int32} {q : Int32 → Mem → Prop} {P2 : Int32 × Mem → Prop} {s : Int32 × Mem} (C : Cx c cX12_check 4 RX12 g l (Rm 5 110)) (r : Rt c (some .int) (pI q) 0 0) (hP2 : ∀ (v1 : Int32) (M : Mem), P2 (v1, M) → X c S0 2 [(0, .ref (g.2.2.2 + 135)), (1, .int v1)] [] (stat M)) (hw : w_X12_check_l87 v1 v2 q P2 s) : X c S0 87 [(0, .ref (g.2.2.2 + 135)), (1, .int v1), (2, .int v2), (3, .int s.1)] [] (stat s.2) := hw (fun s => X c S0 87 [(0, .ref (g.2.2.2 + 135)), (1, .int v1), (2, .int v2), (3, .int s.1)] [] (stat s.2)) (fun s hw => by
    obtain ⟨v3, M⟩ := s
    try dsimp only [w_X12_check_l87F] at hw
    try dsimp only
    refine x_iload_n C dX12_check_87 rfl rfl ?_
    refine x_bipush (v := (6 : Int32)) C dX12_check_88 (by decide) ?_
    refine x_icmp_ge (tgt := 118) C dX12_check_90 (by decide) (fun h2 => ?_) (fun h2 => ?_)
    · replace hw := hw.1 h2
      exact x_sub [0, 1] rfl (ok_X12_check_b118 C r hP2 hw)
    · replace hw := hw.2 h2
      refine x_aload_n C dX12_check_93 rfl rfl ?_
      refine n_getS (dd := 9) C fl_X12_35 s135 (fun _ _ => rfl) rfl dX12_check_94 ?_
      refine x_iload_n C dX12_check_97 rfl rfl ?_
      obtain ⟨h3, hw⟩ := hw
      refine a_iald C s144 ln144 h3 dX12_check_98 ?_
      refine x_aload_n C dX12_check_99 rfl rfl ?_
      refine n_getS (dd := 1) C fl_X12_7 s135 (fun _ _ => rfl) rfl dX12_check_100 ?_
      refine x_iload_n C dX12_check_103 rfl rfl ?_
      refine x_iload_n C dX12_check_104 rfl rfl ?_
      refine x_iadd C dX12_check_105 ?_
      obtain ⟨h4, hw⟩ := hw
      refine a_iald C s136 ln136 h4 dX12_check_106 ?_
      refine x_icmp_eq (tgt := 112) C dX12_check_107 (by decide) (fun h5 => ?_) (fun h5 => ?_)
      · replace hw := hw.1 h5
        obtain ⟨x6, ex6⟩ : ∃ z : Int32, z = v3 + (1 : Int32) := ⟨_, rfl⟩
        replace hw := hw x6 ex6
        refine x_iinc (v := x6) C dX12_check_112 rfl ex6.symm (Nat.le_of_ble_eq_true rfl) ?_
        refine x_goto (tgt := 87) C dX12_check_115 (by decide) ?_
        exact x_sub [0, 1, 2, 3] rfl hw
      · replace hw := hw.2 h5
        refine x_iload_n C dX12_check_110 rfl rfl ?_
        exact n_ireturn C r dX12_check_111 hw)
def w_X12_check_l2F (q : Int32 → Mem → Prop) (P2 : Int32 × Mem → Prop) (s : Int32 × Mem) : Prop := match s with
  | (v1, M) => w_X12_many (4 : Int32) M (fun (r8 : Int32) (M7 : Mem) => ((r8 ≤ v1 → q (-1 : Int32) M7) ∧ (¬ r8 ≤ v1 → ∀ x10 : Int32, x10 = ((1346 : Int32) + ((14 : Int32) * v1)) → vp_in (x10 + (12 : Int32)) 4230 ∧ ((¬ (M7.1 136 ((x10 + (12 : Int32))).toNatClampNeg) = 0 → w_X12_check_b118 v1 M7 q P2) ∧ ((M7.1 136 ((x10 + (12 : Int32))).toNatClampNeg) = 0 → w_X12_empty  M7 (fun (M13 : Mem) => vp_in (x10 + (7 : Int32)) 4230 ∧ vp_in (x10 + (8 : Int32)) 4230 ∧ vp_in (x10 + (9 : Int32)) 4230 ∧ vp_in (x10 + (10 : Int32)) 4230 ∧ vp_in (x10 + (11 : Int32)) 4230 ∧ w_X12_goesBy (M13.1 136 ((x10 + (7 : Int32))).toNatClampNeg) (M13.1 136 ((x10 + (8 : Int32))).toNatClampNeg) (M13.1 136 ((x10 + (9 : Int32))).toNatClampNeg) (M13.1 136 ((x10 + (10 : Int32))).toNatClampNeg) (M13.1 136 ((x10 + (11 : Int32))).toNatClampNeg) M13 (fun (M20 : Mem) => w_X12_check_l87 v1 x10 q P2 ((0 : Int32), M20))))))))
def w_X12_check_l2 (q : Int32 → Mem → Prop) (s : Int32 × Mem) : Prop := lfp (w_X12_check_l2F q ) s
set_option maxRecDepth 100000 in
set_option maxHeartbeats 4000000 in
theorem ok_X12_check_l2 {c : CtxT} {g : Gl} {l : Launch} {q : Int32 → Mem → Prop} {s : Int32 × Mem} (C : Cx c cX12_check 4 RX12 g l (Rm 5 110)) (r : Rt c (some .int) (pI q) 0 0) (hw : w_X12_check_l2 q s) : X c S0 2 [(0, .ref (g.2.2.2 + 135)), (1, .int s.1)] [] (stat s.2) := hw (fun s => X c S0 2 [(0, .ref (g.2.2.2 + 135)), (1, .int s.1)] [] (stat s.2)) (fun s hw => by
    obtain ⟨v1, M⟩ := s
    try dsimp only [w_X12_check_l2F] at hw
    try dsimp only
    refine x_iload_n C dX12_check_2 rfl rfl ?_
    refine x_aload_n C dX12_check_3 rfl rfl ?_
    refine x_iconst (v := (4 : Int32)) C dX12_check_4 (by decide) ?_
    refine n_callVI s135 rfl C (ok_X12_many  hw) mv_X12_66 rfl rfl ⟨Nat.le_of_ble_eq_true rfl, Nat.le_of_ble_eq_true rfl⟩ (Nat.le_of_ble_eq_true rfl) dX12_check_5 (fun r8 M7 hw => ?_)
    refine x_icmp_ge (tgt := 124) C dX12_check_8 (by decide) (fun h9 => ?_) (fun h9 => ?_)
    · replace hw := hw.1 h9
      refine x_iconst (v := (-1 : Int32)) C dX12_check_124 (by decide) ?_
      exact n_ireturn C r dX12_check_125 hw
    · replace hw := hw.2 h9
      refine x_sipush (v := (1346 : Int32)) C dX12_check_11 (by decide) ?_
      refine x_bipush (v := (14 : Int32)) C dX12_check_14 (by decide) ?_
      refine x_iload_n C dX12_check_16 rfl rfl ?_
      refine x_imul C dX12_check_17 ?_
      refine x_iadd C dX12_check_18 ?_
      obtain ⟨x10, ex10⟩ : ∃ z : Int32, z = ((1346 : Int32) + ((14 : Int32) * v1)) := ⟨_, rfl⟩
      replace hw := hw x10 ex10
      refine x_topi ex10 ?_
      refine x_istore_n C dX12_check_19 rfl (Nat.le_of_ble_eq_true rfl) ?_
      refine x_aload_n C dX12_check_20 rfl rfl ?_
      refine n_getS (dd := 1) C fl_X12_7 s135 (fun _ _ => rfl) rfl dX12_check_21 ?_
      refine x_iload_n C dX12_check_24 rfl rfl ?_
      refine x_bipush (v := (12 : Int32)) C dX12_check_25 (by decide) ?_
      refine x_iadd C dX12_check_27 ?_
      obtain ⟨h11, hw⟩ := hw
      refine a_iald C s136 ln136 h11 dX12_check_28 ?_
      refine x_if_ne (tgt := 118) C dX12_check_29 (by decide) (fun h12 => ?_) (fun h12 => ?_)
      · replace hw := hw.1 h12
        exact x_sub [0, 1] rfl (ok_X12_check_b118 C r (fun _ _ h => h) hw)
      · replace hw := hw.2 h12
        refine x_aload_n C dX12_check_32 rfl rfl ?_
        refine n_callVV s135 rfl C (ok_X12_empty  hw) mv_X12_146 rfl rfl ⟨Nat.le_of_ble_eq_true rfl, Nat.le_of_ble_eq_true rfl⟩ (Nat.le_of_ble_eq_true rfl) dX12_check_33 (fun M13 hw => ?_)
        refine x_aload_n C dX12_check_36 rfl rfl ?_
        refine x_aload_n C dX12_check_37 rfl rfl ?_
        refine n_getS (dd := 1) C fl_X12_7 s135 (fun _ _ => rfl) rfl dX12_check_38 ?_
        refine x_iload_n C dX12_check_41 rfl rfl ?_
        refine x_bipush (v := (7 : Int32)) C dX12_check_42 (by decide) ?_
        refine x_iadd C dX12_check_44 ?_
        obtain ⟨h15, hw⟩ := hw
        refine a_iald C s136 ln136 h15 dX12_check_45 ?_
        refine x_aload_n C dX12_check_46 rfl rfl ?_
        refine n_getS (dd := 1) C fl_X12_7 s135 (fun _ _ => rfl) rfl dX12_check_47 ?_
        refine x_iload_n C dX12_check_50 rfl rfl ?_
        refine x_bipush (v := (8 : Int32)) C dX12_check_51 (by decide) ?_
        refine x_iadd C dX12_check_53 ?_
        obtain ⟨h16, hw⟩ := hw
        refine a_iald C s136 ln136 h16 dX12_check_54 ?_
        refine x_aload_n C dX12_check_55 rfl rfl ?_
        refine n_getS (dd := 1) C fl_X12_7 s135 (fun _ _ => rfl) rfl dX12_check_56 ?_
        refine x_iload_n C dX12_check_59 rfl rfl ?_
        refine x_bipush (v := (9 : Int32)) C dX12_check_60 (by decide) ?_
        refine x_iadd C dX12_check_62 ?_
        obtain ⟨h17, hw⟩ := hw
        refine a_iald C s136 ln136 h17 dX12_check_63 ?_
        refine x_aload_n C dX12_check_64 rfl rfl ?_
        refine n_getS (dd := 1) C fl_X12_7 s135 (fun _ _ => rfl) rfl dX12_check_65 ?_
        refine x_iload_n C dX12_check_68 rfl rfl ?_
        refine x_bipush (v := (10 : Int32)) C dX12_check_69 (by decide) ?_
        refine x_iadd C dX12_check_71 ?_
        obtain ⟨h18, hw⟩ := hw
        refine a_iald C s136 ln136 h18 dX12_check_72 ?_
        refine x_aload_n C dX12_check_73 rfl rfl ?_
        refine n_getS (dd := 1) C fl_X12_7 s135 (fun _ _ => rfl) rfl dX12_check_74 ?_
        refine x_iload_n C dX12_check_77 rfl rfl ?_
        refine x_bipush (v := (11 : Int32)) C dX12_check_78 (by decide) ?_
        refine x_iadd C dX12_check_80 ?_
        obtain ⟨h19, hw⟩ := hw
        refine a_iald C s136 ln136 h19 dX12_check_81 ?_
        refine n_callVV s135 rfl C (ok_X12_goesBy  hw) mv_X12_149 rfl rfl ⟨Nat.le_of_ble_eq_true rfl, Nat.le_of_ble_eq_true rfl⟩ (Nat.le_of_ble_eq_true rfl) dX12_check_82 (fun M20 hw => ?_)
        refine x_iconst (v := (0 : Int32)) C dX12_check_85 (by decide) ?_
        refine x_istore_n C dX12_check_86 rfl (Nat.le_of_ble_eq_true rfl) ?_
        exact x_sub [0, 1, 2, 3] rfl (ok_X12_check_l87 C r (fun _ _ h => h) hw))
def w_X12_check (M : Mem) (q : Int32 → Mem → Prop) : Prop := w_X12_check_l2 q ((0 : Int32), M)
set_option maxRecDepth 100000 in
set_option maxHeartbeats 4000000 in
theorem ok_X12_check {g : Gl} {l : Launch} {M : Mem} {q : Int32 → Mem → Prop} (hw : w_X12_check M q) : CtI g l yX12_check cX12_check 4 (some .int) 5 110 [.ref (g.2.2.2 + 135)] M q := by
  refine n_introI (by decide +kernel) (Nat.le_of_ble_eq_true rfl) (fun c C r => ?_)
  have C : Cx c cX12_check 4 RX12 g l (Rm 5 110) := C
  refine x_sub [0] (lv' := [(0, .ref (g.2.2.2 + 135))]) rfl ?_
  unfold w_X12_check at hw
  refine x_iconst (v := (0 : Int32)) C dX12_check_0 (by decide) ?_
  refine x_istore_n C dX12_check_1 rfl (Nat.le_of_ble_eq_true rfl) ?_
  exact x_sub [0, 1] rfl (ok_X12_check_l2 C r  hw)

def w_X12_image_l15F (v1 : Int32) (q : Int32 → Mem → Prop) (P15 : Int32 × Mem → Prop) (s : Int32 × Mem) : Prop := match s with
  | (v2, M) => (((4230 : Int32) ≤ v2 → vp_in v1 2 ∧ ∀ M3 : Mem, M3 = uI M 138 (v1).toNatClampNeg (1 : Int32) → q (1 : Int32) M3) ∧ (¬ (4230 : Int32) ≤ v2 → vp_in v2 4230 ∧ vp_in (((4230 : Int32) * v1) + v2) 8460 ∧ ∀ M6 : Mem, M6 = uI M 137 ((((4230 : Int32) * v1) + v2)).toNatClampNeg (M.1 136 (v2).toNatClampNeg) → ∀ x7 : Int32, x7 = v2 + (1 : Int32) → P15 (x7, M6)))
def w_X12_image_l15 (v1 : Int32) (q : Int32 → Mem → Prop) (s : Int32 × Mem) : Prop := lfp (w_X12_image_l15F v1 q ) s
set_option maxRecDepth 100000 in
set_option maxHeartbeats 4000000 in
theorem ok_X12_image_l15 {c : CtxT} {g : Gl} {l : Launch} {v1 : Int32} {q : Int32 → Mem → Prop} {s : Int32 × Mem} (C : Cx c cX12_image 3 RX12 g l (Rm 2 25)) (r : Rt c (some .int) (pI q) 0 0) (hw : w_X12_image_l15 v1 q s) : X c S0 15 [(0, .ref (g.2.2.2 + 135)), (1, .int v1), (2, .int s.1)] [] (stat s.2) := hw (fun s => X c S0 15 [(0, .ref (g.2.2.2 + 135)), (1, .int v1), (2, .int s.1)] [] (stat s.2)) (fun s hw => by
    obtain ⟨v2, M⟩ := s
    try dsimp only [w_X12_image_l15F] at hw
    try dsimp only
    refine x_iload_n C dX12_image_15 rfl rfl ?_
    refine x_sipush (v := (4230 : Int32)) C dX12_image_16 (by decide) ?_
    refine x_icmp_ge (tgt := 46) C dX12_image_19 (by decide) (fun h1 => ?_) (fun h1 => ?_)
    · replace hw := hw.1 h1
      refine x_aload_n C dX12_image_46 rfl rfl ?_
      refine n_getS (dd := 3) C fl_X12_16 s135 (fun _ _ => rfl) rfl dX12_image_47 ?_
      refine x_iload_n C dX12_image_50 rfl rfl ?_
      refine x_iconst (v := (1 : Int32)) C dX12_image_51 (by decide) ?_
      obtain ⟨h2, hw⟩ := hw
      obtain ⟨M3, eM3⟩ : ∃ z : Mem, z = uI M 138 (v1).toNatClampNeg (1 : Int32) := ⟨_, rfl⟩
      replace hw := hw M3 eM3
      refine a_zast C s138 ln138 rfl h2 (Or.inr rfl) eM3 dX12_image_52 ?_
      refine x_iconst (v := (1 : Int32)) C dX12_image_53 (by decide) ?_
      exact n_ireturn C r dX12_image_54 hw
    · replace hw := hw.2 h1
      refine x_aload_n C dX12_image_22 rfl rfl ?_
      refine n_getS (dd := 2) C fl_X12_13 s135 (fun _ _ => rfl) rfl dX12_image_23 ?_
      refine x_sipush (v := (4230 : Int32)) C dX12_image_26 (by decide) ?_
      refine x_iload_n C dX12_image_29 rfl rfl ?_
      refine x_imul C dX12_image_30 ?_
      refine x_iload_n C dX12_image_31 rfl rfl ?_
      refine x_iadd C dX12_image_32 ?_
      refine x_aload_n C dX12_image_33 rfl rfl ?_
      refine n_getS (dd := 1) C fl_X12_7 s135 (fun _ _ => rfl) rfl dX12_image_34 ?_
      refine x_iload_n C dX12_image_37 rfl rfl ?_
      obtain ⟨h4, hw⟩ := hw
      refine a_iald C s136 ln136 h4 dX12_image_38 ?_
      obtain ⟨h5, hw⟩ := hw
      obtain ⟨M6, eM6⟩ : ∃ z : Mem, z = uI M 137 ((((4230 : Int32) * v1) + v2)).toNatClampNeg (M.1 136 (v2).toNatClampNeg) := ⟨_, rfl⟩
      replace hw := hw M6 eM6
      refine a_iast C s137 ln137 rfl h5 eM6 dX12_image_39 ?_
      obtain ⟨x7, ex7⟩ : ∃ z : Int32, z = v2 + (1 : Int32) := ⟨_, rfl⟩
      replace hw := hw x7 ex7
      refine x_iinc (v := x7) C dX12_image_40 rfl ex7.symm (Nat.le_of_ble_eq_true rfl) ?_
      refine x_goto (tgt := 15) C dX12_image_43 (by decide) ?_
      exact x_sub [0, 1, 2] rfl hw)
def w_X12_image (v1 : Int32) (M : Mem) (q : Int32 → Mem → Prop) : Prop := w_X12_in (v1).toInt64 (0 : Int64) (1 : Int64) M (fun (r9 : Int32) (M8 : Mem) => ((¬ r9 = 0 → w_X12_image_l15 v1 q ((0 : Int32), M8)) ∧ (r9 = 0 → q (-2 : Int32) M8)))
set_option maxRecDepth 100000 in
set_option maxHeartbeats 4000000 in
theorem ok_X12_image {g : Gl} {l : Launch} {v1 : Int32} {M : Mem} {q : Int32 → Mem → Prop} (hw : w_X12_image v1 M q) : CtI g l yX12_image cX12_image 3 (some .int) 2 25 [.ref (g.2.2.2 + 135), .int v1] M q := by
  refine n_introI (by decide +kernel) (Nat.le_of_ble_eq_true rfl) (fun c C r => ?_)
  have C : Cx c cX12_image 3 RX12 g l (Rm 2 25) := C
  refine x_sub [0, 1] (lv' := [(0, .ref (g.2.2.2 + 135)), (1, .int v1)]) rfl ?_
  unfold w_X12_image at hw
  refine x_iload_n C dX12_image_0 rfl rfl ?_
  refine x_i2l C dX12_image_1 ?_
  refine x_lconst (v := (0 : Int64)) C dX12_image_2 (by decide) ?_
  refine x_lconst (v := (1 : Int64)) C dX12_image_3 (by decide) ?_
  refine n_callSI C (ok_X12_in  hw) ms_X12_70 rfl rfl ⟨Nat.le_of_ble_eq_true rfl, Nat.le_of_ble_eq_true rfl⟩ (Nat.le_of_ble_eq_true rfl) dX12_image_4 (fun r9 M8 hw => ?_)
  refine x_if_ne (tgt := 13) C dX12_image_7 (by decide) (fun h10 => ?_) (fun h10 => ?_)
  · replace hw := hw.1 h10
    refine x_iconst (v := (0 : Int32)) C dX12_image_13 (by decide) ?_
    refine x_istore_n C dX12_image_14 rfl (Nat.le_of_ble_eq_true rfl) ?_
    exact x_sub [0, 1, 2] rfl (ok_X12_image_l15 C r  hw)
  · replace hw := hw.2 h10
    refine x_bipush (v := (-2 : Int32)) C dX12_image_10 (by decide) ?_
    exact n_ireturn C r dX12_image_12 hw

def w_X12_from_l27F (v1 : Int32) (q : Int32 → Mem → Prop) (P27 : Int32 × Mem → Prop) (s : Int32 × Mem) : Prop := match s with
  | (v2, M) => (((4230 : Int32) ≤ v2 → q (1 : Int32) M) ∧ (¬ (4230 : Int32) ≤ v2 → vp_in (((4230 : Int32) * v1) + v2) 8460 ∧ vp_in v2 4230 ∧ ∀ M4 : Mem, M4 = uI M 136 (v2).toNatClampNeg (M.1 137 ((((4230 : Int32) * v1) + v2)).toNatClampNeg) → ∀ x5 : Int32, x5 = v2 + (1 : Int32) → P27 (x5, M4)))
def w_X12_from_l27 (v1 : Int32) (q : Int32 → Mem → Prop) (s : Int32 × Mem) : Prop := lfp (w_X12_from_l27F v1 q ) s
set_option maxRecDepth 100000 in
set_option maxHeartbeats 4000000 in
theorem ok_X12_from_l27 {c : CtxT} {g : Gl} {l : Launch} {v1 : Int32} {q : Int32 → Mem → Prop} {s : Int32 × Mem} (C : Cx c cX12_from 3 RX12 g l (Rm 2 25)) (r : Rt c (some .int) (pI q) 0 0) (hw : w_X12_from_l27 v1 q s) : X c S0 27 [(0, .ref (g.2.2.2 + 135)), (1, .int v1), (2, .int s.1)] [] (stat s.2) := hw (fun s => X c S0 27 [(0, .ref (g.2.2.2 + 135)), (1, .int v1), (2, .int s.1)] [] (stat s.2)) (fun s hw => by
    obtain ⟨v2, M⟩ := s
    try dsimp only [w_X12_from_l27F] at hw
    try dsimp only
    refine x_iload_n C dX12_from_27 rfl rfl ?_
    refine x_sipush (v := (4230 : Int32)) C dX12_from_28 (by decide) ?_
    refine x_icmp_ge (tgt := 58) C dX12_from_31 (by decide) (fun h1 => ?_) (fun h1 => ?_)
    · replace hw := hw.1 h1
      refine x_iconst (v := (1 : Int32)) C dX12_from_58 (by decide) ?_
      exact n_ireturn C r dX12_from_59 hw
    · replace hw := hw.2 h1
      refine x_aload_n C dX12_from_34 rfl rfl ?_
      refine n_getS (dd := 1) C fl_X12_7 s135 (fun _ _ => rfl) rfl dX12_from_35 ?_
      refine x_iload_n C dX12_from_38 rfl rfl ?_
      refine x_aload_n C dX12_from_39 rfl rfl ?_
      refine n_getS (dd := 2) C fl_X12_13 s135 (fun _ _ => rfl) rfl dX12_from_40 ?_
      refine x_sipush (v := (4230 : Int32)) C dX12_from_43 (by decide) ?_
      refine x_iload_n C dX12_from_46 rfl rfl ?_
      refine x_imul C dX12_from_47 ?_
      refine x_iload_n C dX12_from_48 rfl rfl ?_
      refine x_iadd C dX12_from_49 ?_
      obtain ⟨h2, hw⟩ := hw
      refine a_iald C s137 ln137 h2 dX12_from_50 ?_
      obtain ⟨h3, hw⟩ := hw
      obtain ⟨M4, eM4⟩ : ∃ z : Mem, z = uI M 136 (v2).toNatClampNeg (M.1 137 ((((4230 : Int32) * v1) + v2)).toNatClampNeg) := ⟨_, rfl⟩
      replace hw := hw M4 eM4
      refine a_iast C s136 ln136 rfl h3 eM4 dX12_from_51 ?_
      obtain ⟨x5, ex5⟩ : ∃ z : Int32, z = v2 + (1 : Int32) := ⟨_, rfl⟩
      replace hw := hw x5 ex5
      refine x_iinc (v := x5) C dX12_from_52 rfl ex5.symm (Nat.le_of_ble_eq_true rfl) ?_
      refine x_goto (tgt := 27) C dX12_from_55 (by decide) ?_
      exact x_sub [0, 1, 2] rfl hw)
def w_X12_from (v1 : Int32) (M : Mem) (q : Int32 → Mem → Prop) : Prop := w_X12_in (v1).toInt64 (0 : Int64) (1 : Int64) M (fun (r7 : Int32) (M6 : Mem) => ((¬ r7 = 0 → vp_in v1 2 ∧ ((¬ (M6.1 138 (v1).toNatClampNeg) = 0 → w_X12_from_l27 v1 q ((0 : Int32), M6)) ∧ ((M6.1 138 (v1).toNatClampNeg) = 0 → q (-3 : Int32) M6))) ∧ (r7 = 0 → q (-2 : Int32) M6)))
set_option maxRecDepth 100000 in
set_option maxHeartbeats 4000000 in
theorem ok_X12_from {g : Gl} {l : Launch} {v1 : Int32} {M : Mem} {q : Int32 → Mem → Prop} (hw : w_X12_from v1 M q) : CtI g l yX12_from cX12_from 3 (some .int) 2 25 [.ref (g.2.2.2 + 135), .int v1] M q := by
  refine n_introI (by decide +kernel) (Nat.le_of_ble_eq_true rfl) (fun c C r => ?_)
  have C : Cx c cX12_from 3 RX12 g l (Rm 2 25) := C
  refine x_sub [0, 1] (lv' := [(0, .ref (g.2.2.2 + 135)), (1, .int v1)]) rfl ?_
  unfold w_X12_from at hw
  refine x_iload_n C dX12_from_0 rfl rfl ?_
  refine x_i2l C dX12_from_1 ?_
  refine x_lconst (v := (0 : Int64)) C dX12_from_2 (by decide) ?_
  refine x_lconst (v := (1 : Int64)) C dX12_from_3 (by decide) ?_
  refine n_callSI C (ok_X12_in  hw) ms_X12_70 rfl rfl ⟨Nat.le_of_ble_eq_true rfl, Nat.le_of_ble_eq_true rfl⟩ (Nat.le_of_ble_eq_true rfl) dX12_from_4 (fun r7 M6 hw => ?_)
  refine x_if_ne (tgt := 13) C dX12_from_7 (by decide) (fun h8 => ?_) (fun h8 => ?_)
  · replace hw := hw.1 h8
    refine x_aload_n C dX12_from_13 rfl rfl ?_
    refine n_getS (dd := 3) C fl_X12_16 s135 (fun _ _ => rfl) rfl dX12_from_14 ?_
    refine x_iload_n C dX12_from_17 rfl rfl ?_
    obtain ⟨h9, hw⟩ := hw
    refine a_zald C s138 ln138 h9 dX12_from_18 ?_
    refine x_if_ne (tgt := 25) C dX12_from_19 (by decide) (fun h10 => ?_) (fun h10 => ?_)
    · replace hw := hw.1 h10
      refine x_iconst (v := (0 : Int32)) C dX12_from_25 (by decide) ?_
      refine x_istore_n C dX12_from_26 rfl (Nat.le_of_ble_eq_true rfl) ?_
      exact x_sub [0, 1, 2] rfl (ok_X12_from_l27 C r  hw)
    · replace hw := hw.2 h10
      refine x_bipush (v := (-3 : Int32)) C dX12_from_22 (by decide) ?_
      exact n_ireturn C r dX12_from_24 hw
  · replace hw := hw.2 h8
    refine x_bipush (v := (-2 : Int32)) C dX12_from_10 (by decide) ?_
    exact n_ireturn C r dX12_from_12 hw

def w_X12_count_l43F (q : Int32 → Mem → Prop) (P43 : Int32 × Int32 × Mem → Prop) (s : Int32 × Int32 × Mem) : Prop := match s with
  | (v2, v3, M) => w_X12_many (4 : Int32) M (fun (r2 : Int32) (M1 : Mem) => ((r2 ≤ v3 → q v2 M1) ∧ (¬ r2 ≤ v3 → vp_in (((1346 : Int32) + ((14 : Int32) * v3)) + (6 : Int32)) 4230 ∧ ∀ x5 : Int32, x5 = (v2 + (M1.1 136 ((((1346 : Int32) + ((14 : Int32) * v3)) + (6 : Int32))).toNatClampNeg)) → ∀ x6 : Int32, x6 = v3 + (1 : Int32) → P43 (x5, x6, M1))))
def w_X12_count_l43 (q : Int32 → Mem → Prop) (s : Int32 × Int32 × Mem) : Prop := lfp (w_X12_count_l43F q ) s
set_option maxRecDepth 100000 in
set_option maxHeartbeats 4000000 in
theorem ok_X12_count_l43 {c : CtxT} {g : Gl} {l : Launch} {q : Int32 → Mem → Prop} {s : Int32 × Int32 × Mem} (C : Cx c cX12_count 4 RX12 g l (Rm 2 25)) (r : Rt c (some .int) (pI q) 0 0) (hw : w_X12_count_l43 q s) : X c S0 43 [(0, .ref (g.2.2.2 + 135)), (2, .int s.1), (3, .int s.2.1)] [] (stat s.2.2) := hw (fun s => X c S0 43 [(0, .ref (g.2.2.2 + 135)), (2, .int s.1), (3, .int s.2.1)] [] (stat s.2.2)) (fun s hw => by
    obtain ⟨v2, v3, M⟩ := s
    try dsimp only [w_X12_count_l43F] at hw
    try dsimp only
    refine x_iload_n C dX12_count_43 rfl rfl ?_
    refine x_aload_n C dX12_count_44 rfl rfl ?_
    refine x_iconst (v := (4 : Int32)) C dX12_count_45 (by decide) ?_
    refine n_callVI s135 rfl C (ok_X12_many  hw) mv_X12_66 rfl rfl ⟨Nat.le_of_ble_eq_true rfl, Nat.le_of_ble_eq_true rfl⟩ (Nat.le_of_ble_eq_true rfl) dX12_count_46 (fun r2 M1 hw => ?_)
    refine x_icmp_ge (tgt := 77) C dX12_count_49 (by decide) (fun h3 => ?_) (fun h3 => ?_)
    · replace hw := hw.1 h3
      refine x_iload_n C dX12_count_77 rfl rfl ?_
      exact n_ireturn C r dX12_count_78 hw
    · replace hw := hw.2 h3
      refine x_iload_n C dX12_count_52 rfl rfl ?_
      refine x_aload_n C dX12_count_53 rfl rfl ?_
      refine n_getS (dd := 1) C fl_X12_7 s135 (fun _ _ => rfl) rfl dX12_count_54 ?_
      refine x_sipush (v := (1346 : Int32)) C dX12_count_57 (by decide) ?_
      refine x_bipush (v := (14 : Int32)) C dX12_count_60 (by decide) ?_
      refine x_iload_n C dX12_count_62 rfl rfl ?_
      refine x_imul C dX12_count_63 ?_
      refine x_iadd C dX12_count_64 ?_
      refine x_bipush (v := (6 : Int32)) C dX12_count_65 (by decide) ?_
      refine x_iadd C dX12_count_67 ?_
      obtain ⟨h4, hw⟩ := hw
      refine a_iald C s136 ln136 h4 dX12_count_68 ?_
      refine x_iadd C dX12_count_69 ?_
      obtain ⟨x5, ex5⟩ : ∃ z : Int32, z = (v2 + (M1.1 136 ((((1346 : Int32) + ((14 : Int32) * v3)) + (6 : Int32))).toNatClampNeg)) := ⟨_, rfl⟩
      replace hw := hw x5 ex5
      refine x_topi ex5 ?_
      refine x_istore_n C dX12_count_70 rfl (Nat.le_of_ble_eq_true rfl) ?_
      obtain ⟨x6, ex6⟩ : ∃ z : Int32, z = v3 + (1 : Int32) := ⟨_, rfl⟩
      replace hw := hw x6 ex6
      refine x_iinc (v := x6) C dX12_count_71 rfl ex6.symm (Nat.le_of_ble_eq_true rfl) ?_
      refine x_goto (tgt := 43) C dX12_count_74 (by decide) ?_
      exact x_sub [0, 2, 3] rfl hw)
def w_X12_count (v1 : Int32) (M : Mem) (q : Int32 → Mem → Prop) : Prop := w_X12_in (v1).toInt64 (0 : Int64) (8 : Int64) M (fun (r8 : Int32) (M7 : Mem) => ((¬ r8 = 0 → (((5 : Int32) ≤ v1 → ((v1 ≤ (5 : Int32) → w_X12_count_l43 q ((0 : Int32), (0 : Int32), M7)) ∧ (¬ v1 ≤ (5 : Int32) → w_X12_many (v1 - (1 : Int32)) M7 (fun (r13 : Int32) (M12 : Mem) => q r13 M12)))) ∧ (¬ (5 : Int32) ≤ v1 → w_X12_many v1 M7 (fun (r15 : Int32) (M14 : Mem) => q r15 M14)))) ∧ (r8 = 0 → q (-2 : Int32) M7)))
set_option maxRecDepth 100000 in
set_option maxHeartbeats 4000000 in
theorem ok_X12_count {g : Gl} {l : Launch} {v1 : Int32} {M : Mem} {q : Int32 → Mem → Prop} (hw : w_X12_count v1 M q) : CtI g l yX12_count cX12_count 4 (some .int) 2 25 [.ref (g.2.2.2 + 135), .int v1] M q := by
  refine n_introI (by decide +kernel) (Nat.le_of_ble_eq_true rfl) (fun c C r => ?_)
  have C : Cx c cX12_count 4 RX12 g l (Rm 2 25) := C
  refine x_sub [0, 1] (lv' := [(0, .ref (g.2.2.2 + 135)), (1, .int v1)]) rfl ?_
  unfold w_X12_count at hw
  refine x_iload_n C dX12_count_0 rfl rfl ?_
  refine x_i2l C dX12_count_1 ?_
  refine x_lconst (v := (0 : Int64)) C dX12_count_2 (by decide) ?_
  refine x_ldc2_w (v := (8 : Int64)) C dX12_count_3 kc_X12_107 ?_
  refine n_callSI C (ok_X12_in  hw) ms_X12_70 rfl rfl ⟨Nat.le_of_ble_eq_true rfl, Nat.le_of_ble_eq_true rfl⟩ (Nat.le_of_ble_eq_true rfl) dX12_count_6 (fun r8 M7 hw => ?_)
  refine x_if_ne (tgt := 15) C dX12_count_9 (by decide) (fun h9 => ?_) (fun h9 => ?_)
  · replace hw := hw.1 h9
    refine x_iload_n C dX12_count_15 rfl rfl ?_
    refine x_iconst (v := (5 : Int32)) C dX12_count_16 (by decide) ?_
    refine x_icmp_ge (tgt := 26) C dX12_count_17 (by decide) (fun h10 => ?_) (fun h10 => ?_)
    · replace hw := hw.1 h10
      refine x_iload_n C dX12_count_26 rfl rfl ?_
      refine x_iconst (v := (5 : Int32)) C dX12_count_27 (by decide) ?_
      refine x_icmp_le (tgt := 39) C dX12_count_28 (by decide) (fun h11 => ?_) (fun h11 => ?_)
      · replace hw := hw.1 h11
        refine x_iconst (v := (0 : Int32)) C dX12_count_39 (by decide) ?_
        refine x_istore_n C dX12_count_40 rfl (Nat.le_of_ble_eq_true rfl) ?_
        refine x_iconst (v := (0 : Int32)) C dX12_count_41 (by decide) ?_
        refine x_istore_n C dX12_count_42 rfl (Nat.le_of_ble_eq_true rfl) ?_
        exact x_sub [0, 2, 3] rfl (ok_X12_count_l43 C r  hw)
      · replace hw := hw.2 h11
        refine x_aload_n C dX12_count_31 rfl rfl ?_
        refine x_iload_n C dX12_count_32 rfl rfl ?_
        refine x_iconst (v := (1 : Int32)) C dX12_count_33 (by decide) ?_
        refine x_isub C dX12_count_34 ?_
        refine n_callVI s135 rfl C (ok_X12_many  hw) mv_X12_66 rfl rfl ⟨Nat.le_of_ble_eq_true rfl, Nat.le_of_ble_eq_true rfl⟩ (Nat.le_of_ble_eq_true rfl) dX12_count_35 (fun r13 M12 hw => ?_)
        exact n_ireturn C r dX12_count_38 hw
    · replace hw := hw.2 h10
      refine x_aload_n C dX12_count_20 rfl rfl ?_
      refine x_iload_n C dX12_count_21 rfl rfl ?_
      refine n_callVI s135 rfl C (ok_X12_many  hw) mv_X12_66 rfl rfl ⟨Nat.le_of_ble_eq_true rfl, Nat.le_of_ble_eq_true rfl⟩ (Nat.le_of_ble_eq_true rfl) dX12_count_22 (fun r15 M14 hw => ?_)
      exact n_ireturn C r dX12_count_25 hw
  · replace hw := hw.2 h9
    refine x_bipush (v := (-2 : Int32)) C dX12_count_12 (by decide) ?_
    exact n_ireturn C r dX12_count_14 hw

def w_X12_sums_l6F (v3 : Int32) (v4 : Int32) (q : Int64 → Mem → Prop) (P6 : Int64 × Int32 × Mem → Prop) (s : Int64 × Int32 × Mem) : Prop := match s with
  | (v5, v7, M) => ((v4 ≤ v7 → q v5 M) ∧ (¬ v4 ≤ v7 → vp_in (v3 + v7) 4230 ∧ ∀ x3 : Int64, x3 = (((31 : Int64) * v5) + ((M.1 136 ((v3 + v7)).toNatClampNeg)).toInt64) → ∀ x4 : Int32, x4 = v7 + (1 : Int32) → P6 (x3, x4, M)))
def w_X12_sums_l6 (v3 : Int32) (v4 : Int32) (q : Int64 → Mem → Prop) (s : Int64 × Int32 × Mem) : Prop := lfp (w_X12_sums_l6F v3 v4 q ) s
set_option maxRecDepth 100000 in
set_option maxHeartbeats 4000000 in
theorem ok_X12_sums_l6 {c : CtxT} {g : Gl} {l : Launch} {v3 : Int32} {v4 : Int32} {q : Int64 → Mem → Prop} {s : Int64 × Int32 × Mem} (C : Cx c cX12_sums 8 RX12 g l (Rm 1 0)) (r : Rt c (some .long) (pJ q) 0 0) (hw : w_X12_sums_l6 v3 v4 q s) : X c S0 6 [(0, .ref (g.2.2.2 + 135)), (3, .int v3), (4, .int v4), (5, .long s.1), (7, .int s.2.1)] [] (stat s.2.2) := hw (fun s => X c S0 6 [(0, .ref (g.2.2.2 + 135)), (3, .int v3), (4, .int v4), (5, .long s.1), (7, .int s.2.1)] [] (stat s.2.2)) (fun s hw => by
    obtain ⟨v5, v7, M⟩ := s
    try dsimp only [w_X12_sums_l6F] at hw
    try dsimp only
    refine x_iload C dX12_sums_6 rfl ?_
    refine x_iload C dX12_sums_8 rfl ?_
    refine x_icmp_ge (tgt := 38) C dX12_sums_10 (by decide) (fun h1 => ?_) (fun h1 => ?_)
    · replace hw := hw.1 h1
      refine x_lload C dX12_sums_38 rfl ?_
      exact n_lreturn C r dX12_sums_40 hw
    · replace hw := hw.2 h1
      refine x_ldc2_w (v := (31 : Int64)) C dX12_sums_13 kc_X12_299 ?_
      refine x_lload C dX12_sums_16 rfl ?_
      refine x_lmul C dX12_sums_18 ?_
      refine x_aload_n C dX12_sums_19 rfl rfl ?_
      refine n_getS (dd := 1) C fl_X12_7 s135 (fun _ _ => rfl) rfl dX12_sums_20 ?_
      refine x_iload_n C dX12_sums_23 rfl rfl ?_
      refine x_iload C dX12_sums_24 rfl ?_
      refine x_iadd C dX12_sums_26 ?_
      obtain ⟨h2, hw⟩ := hw
      refine a_iald C s136 ln136 h2 dX12_sums_27 ?_
      refine x_i2l C dX12_sums_28 ?_
      refine x_ladd C dX12_sums_29 ?_
      obtain ⟨x3, ex3⟩ : ∃ z : Int64, z = (((31 : Int64) * v5) + ((M.1 136 ((v3 + v7)).toNatClampNeg)).toInt64) := ⟨_, rfl⟩
      replace hw := hw x3 ex3
      refine x_topj ex3 ?_
      refine x_lstore C dX12_sums_30 (Nat.le_of_ble_eq_true rfl) ?_
      obtain ⟨x4, ex4⟩ : ∃ z : Int32, z = v7 + (1 : Int32) := ⟨_, rfl⟩
      replace hw := hw x4 ex4
      refine x_iinc (v := x4) C dX12_sums_32 rfl ex4.symm (Nat.le_of_ble_eq_true rfl) ?_
      refine x_goto (tgt := 6) C dX12_sums_35 (by decide) ?_
      exact x_sub [0, 3, 4, 5, 7] rfl hw)
def w_X12_sums (v1 : Int64) (v3 : Int32) (v4 : Int32) (M : Mem) (q : Int64 → Mem → Prop) : Prop := w_X12_sums_l6 v3 v4 q (v1, (0 : Int32), M)
set_option maxRecDepth 100000 in
set_option maxHeartbeats 4000000 in
theorem ok_X12_sums {g : Gl} {l : Launch} {v1 : Int64} {v3 : Int32} {v4 : Int32} {M : Mem} {q : Int64 → Mem → Prop} (hw : w_X12_sums v1 v3 v4 M q) : CtJ g l yX12_sums cX12_sums 8 (some .long) 1 0 [.ref (g.2.2.2 + 135), .long v1, .int v3, .int v4] M q := by
  refine n_introJ (by decide +kernel) (Nat.le_of_ble_eq_true rfl) (fun c C r => ?_)
  have C : Cx c cX12_sums 8 RX12 g l (Rm 1 0) := C
  refine x_sub [0, 1, 3, 4] (lv' := [(0, .ref (g.2.2.2 + 135)), (1, .long v1), (3, .int v3), (4, .int v4)]) rfl ?_
  unfold w_X12_sums at hw
  refine x_lload_n C dX12_sums_0 rfl rfl ?_
  refine x_lstore C dX12_sums_1 (Nat.le_of_ble_eq_true rfl) ?_
  refine x_iconst (v := (0 : Int32)) C dX12_sums_3 (by decide) ?_
  refine x_istore C dX12_sums_4 (Nat.le_of_ble_eq_true rfl) ?_
  exact x_sub [0, 3, 4, 5, 7] rfl (ok_X12_sums_l6 C r  hw)

def w_X12_digest_l120F (q : Int64 → Mem → Prop) (P120 : Int64 × Int32 × Mem → Prop) (s : Int64 × Int32 × Mem) : Prop := match s with
  | (v1, v3, M) => (((4 : Int32) ≤ v3 → q v1 M) ∧ (¬ (4 : Int32) ≤ v3 → ∀ x2 : Int32, x2 = ((1106 : Int32) + ((60 : Int32) * v3)) → vp_in (x2 + (8 : Int32)) 4230 ∧ w_X12_sums v1 (x2 + (20 : Int32)) (M.1 136 ((x2 + (8 : Int32))).toNatClampNeg) M (fun (r5 : Int64) (M4 : Mem) => vp_in (x2 + (11 : Int32)) 4230 ∧ w_X12_sums r5 (x2 + (36 : Int32)) (M4.1 136 ((x2 + (11 : Int32))).toNatClampNeg) M4 (fun (r8 : Int64) (M7 : Mem) => ∀ x9 : Int32, x9 = v3 + (1 : Int32) → P120 (r8, x9, M7)))))
def w_X12_digest_l120 (q : Int64 → Mem → Prop) (s : Int64 × Int32 × Mem) : Prop := lfp (w_X12_digest_l120F q ) s
set_option maxRecDepth 100000 in
set_option maxHeartbeats 4000000 in
theorem ok_X12_digest_l120 {c : CtxT} {g : Gl} {l : Launch} {q : Int64 → Mem → Prop} {s : Int64 × Int32 × Mem} (C : Cx c cX12_digest 5 RX12 g l (Rm 3 48)) (r : Rt c (some .long) (pJ q) 0 0) (hw : w_X12_digest_l120 q s) : X c S0 120 [(0, .ref (g.2.2.2 + 135)), (1, .long s.1), (3, .int s.2.1)] [] (stat s.2.2) := hw (fun s => X c S0 120 [(0, .ref (g.2.2.2 + 135)), (1, .long s.1), (3, .int s.2.1)] [] (stat s.2.2)) (fun s hw => by
    obtain ⟨v1, v3, M⟩ := s
    try dsimp only [w_X12_digest_l120F] at hw
    try dsimp only
    refine x_iload_n C dX12_digest_120 rfl rfl ?_
    refine x_iconst (v := (4 : Int32)) C dX12_digest_121 (by decide) ?_
    refine x_icmp_ge (tgt := 183) C dX12_digest_122 (by decide) (fun h1 => ?_) (fun h1 => ?_)
    · replace hw := hw.1 h1
      refine x_lload_n C dX12_digest_183 rfl rfl ?_
      exact n_lreturn C r dX12_digest_184 hw
    · replace hw := hw.2 h1
      refine x_sipush (v := (1106 : Int32)) C dX12_digest_125 (by decide) ?_
      refine x_bipush (v := (60 : Int32)) C dX12_digest_128 (by decide) ?_
      refine x_iload_n C dX12_digest_130 rfl rfl ?_
      refine x_imul C dX12_digest_131 ?_
      refine x_iadd C dX12_digest_132 ?_
      obtain ⟨x2, ex2⟩ : ∃ z : Int32, z = ((1106 : Int32) + ((60 : Int32) * v3)) := ⟨_, rfl⟩
      replace hw := hw x2 ex2
      refine x_topi ex2 ?_
      refine x_istore C dX12_digest_133 (Nat.le_of_ble_eq_true rfl) ?_
      refine x_aload_n C dX12_digest_135 rfl rfl ?_
      refine x_lload_n C dX12_digest_136 rfl rfl ?_
      refine x_iload C dX12_digest_137 rfl ?_
      refine x_bipush (v := (20 : Int32)) C dX12_digest_139 (by decide) ?_
      refine x_iadd C dX12_digest_141 ?_
      refine x_aload_n C dX12_digest_142 rfl rfl ?_
      refine n_getS (dd := 1) C fl_X12_7 s135 (fun _ _ => rfl) rfl dX12_digest_143 ?_
      refine x_iload C dX12_digest_146 rfl ?_
      refine x_bipush (v := (8 : Int32)) C dX12_digest_148 (by decide) ?_
      refine x_iadd C dX12_digest_150 ?_
      obtain ⟨h3, hw⟩ := hw
      refine a_iald C s136 ln136 h3 dX12_digest_151 ?_
      refine n_callVJ s135 rfl C (ok_X12_sums  hw) mv_X12_306 rfl rfl ⟨Nat.le_of_ble_eq_true rfl, Nat.le_of_ble_eq_true rfl⟩ (Nat.le_of_ble_eq_true rfl) dX12_digest_152 (fun r5 M4 hw => ?_)
      refine x_lstore_n C dX12_digest_155 rfl (Nat.le_of_ble_eq_true rfl) ?_
      refine x_aload_n C dX12_digest_156 rfl rfl ?_
      refine x_lload_n C dX12_digest_157 rfl rfl ?_
      refine x_iload C dX12_digest_158 rfl ?_
      refine x_bipush (v := (36 : Int32)) C dX12_digest_160 (by decide) ?_
      refine x_iadd C dX12_digest_162 ?_
      refine x_aload_n C dX12_digest_163 rfl rfl ?_
      refine n_getS (dd := 1) C fl_X12_7 s135 (fun _ _ => rfl) rfl dX12_digest_164 ?_
      refine x_iload C dX12_digest_167 rfl ?_
      refine x_bipush (v := (11 : Int32)) C dX12_digest_169 (by decide) ?_
      refine x_iadd C dX12_digest_171 ?_
      obtain ⟨h6, hw⟩ := hw
      refine a_iald C s136 ln136 h6 dX12_digest_172 ?_
      refine n_callVJ s135 rfl C (ok_X12_sums  hw) mv_X12_306 rfl rfl ⟨Nat.le_of_ble_eq_true rfl, Nat.le_of_ble_eq_true rfl⟩ (Nat.le_of_ble_eq_true rfl) dX12_digest_173 (fun r8 M7 hw => ?_)
      refine x_lstore_n C dX12_digest_176 rfl (Nat.le_of_ble_eq_true rfl) ?_
      obtain ⟨x9, ex9⟩ : ∃ z : Int32, z = v3 + (1 : Int32) := ⟨_, rfl⟩
      replace hw := hw x9 ex9
      refine x_iinc (v := x9) C dX12_digest_177 rfl ex9.symm (Nat.le_of_ble_eq_true rfl) ?_
      refine x_goto (tgt := 120) C dX12_digest_180 (by decide) ?_
      exact x_sub [0, 1, 3] rfl hw)
def w_X12_digest_l6F (q : Int64 → Mem → Prop) (P6 : Int64 × Int32 × Mem → Prop) (s : Int64 × Int32 × Mem) : Prop := match s with
  | (v1, v3, M) => (((9 : Int32) ≤ v3 → w_X12_many (4 : Int32) M (fun (r12 : Int32) (M11 : Mem) => w_X12_sums v1 (1346 : Int32) ((14 : Int32) * r12) M11 (fun (r14 : Int64) (M13 : Mem) => w_X12_many (5 : Int32) M13 (fun (r16 : Int32) (M15 : Mem) => w_X12_sums r14 (4146 : Int32) r16 M15 (fun (r18 : Int64) (M17 : Mem) => w_X12_many (6 : Int32) M17 (fun (r20 : Int32) (M19 : Mem) => w_X12_sums r18 (4162 : Int32) r20 M19 (fun (r22 : Int64) (M21 : Mem) => w_X12_sums r22 (4218 : Int32) (2 : Int32) M21 (fun (r24 : Int64) (M23 : Mem) => w_X12_many (7 : Int32) M23 (fun (r26 : Int32) (M25 : Mem) => w_X12_sums r24 (4170 : Int32) r26 M25 (fun (r28 : Int64) (M27 : Mem) => w_X12_many (2 : Int32) M27 (fun (r30 : Int32) (M29 : Mem) => w_X12_sums r28 (1026 : Int32) ((2 : Int32) * r30) M29 (fun (r32 : Int64) (M31 : Mem) => w_X12_digest_l120 q (r32, (0 : Int32), M31))))))))))))) ∧ (¬ (9 : Int32) ≤ v3 → w_X12_count v3 M (fun (r34 : Int32) (M33 : Mem) => ∀ x35 : Int64, x35 = (((31 : Int64) * v1) + (r34).toInt64) → ∀ x36 : Int32, x36 = v3 + (1 : Int32) → P6 (x35, x36, M33))))
def w_X12_digest_l6 (q : Int64 → Mem → Prop) (s : Int64 × Int32 × Mem) : Prop := lfp (w_X12_digest_l6F q ) s
set_option maxRecDepth 100000 in
set_option maxHeartbeats 4000000 in
theorem ok_X12_digest_l6 {c : CtxT} {g : Gl} {l : Launch} {q : Int64 → Mem → Prop} {s : Int64 × Int32 × Mem} (C : Cx c cX12_digest 5 RX12 g l (Rm 3 48)) (r : Rt c (some .long) (pJ q) 0 0) (hw : w_X12_digest_l6 q s) : X c S0 6 [(0, .ref (g.2.2.2 + 135)), (1, .long s.1), (3, .int s.2.1)] [] (stat s.2.2) := hw (fun s => X c S0 6 [(0, .ref (g.2.2.2 + 135)), (1, .long s.1), (3, .int s.2.1)] [] (stat s.2.2)) (fun s hw => by
    obtain ⟨v1, v3, M⟩ := s
    try dsimp only [w_X12_digest_l6F] at hw
    try dsimp only
    refine x_iload_n C dX12_digest_6 rfl rfl ?_
    refine x_bipush (v := (9 : Int32)) C dX12_digest_7 (by decide) ?_
    refine x_icmp_ge (tgt := 31) C dX12_digest_9 (by decide) (fun h10 => ?_) (fun h10 => ?_)
    · replace hw := hw.1 h10
      refine x_aload_n C dX12_digest_31 rfl rfl ?_
      refine x_lload_n C dX12_digest_32 rfl rfl ?_
      refine x_sipush (v := (1346 : Int32)) C dX12_digest_33 (by decide) ?_
      refine x_bipush (v := (14 : Int32)) C dX12_digest_36 (by decide) ?_
      refine x_aload_n C dX12_digest_38 rfl rfl ?_
      refine x_iconst (v := (4 : Int32)) C dX12_digest_39 (by decide) ?_
      refine n_callVI s135 rfl C (ok_X12_many  hw) mv_X12_66 rfl rfl ⟨Nat.le_of_ble_eq_true rfl, Nat.le_of_ble_eq_true rfl⟩ (Nat.le_of_ble_eq_true rfl) dX12_digest_40 (fun r12 M11 hw => ?_)
      refine x_imul C dX12_digest_43 ?_
      refine n_callVJ s135 rfl C (ok_X12_sums  hw) mv_X12_306 rfl rfl ⟨Nat.le_of_ble_eq_true rfl, Nat.le_of_ble_eq_true rfl⟩ (Nat.le_of_ble_eq_true rfl) dX12_digest_44 (fun r14 M13 hw => ?_)
      refine x_lstore_n C dX12_digest_47 rfl (Nat.le_of_ble_eq_true rfl) ?_
      refine x_aload_n C dX12_digest_48 rfl rfl ?_
      refine x_lload_n C dX12_digest_49 rfl rfl ?_
      refine x_sipush (v := (4146 : Int32)) C dX12_digest_50 (by decide) ?_
      refine x_aload_n C dX12_digest_53 rfl rfl ?_
      refine x_iconst (v := (5 : Int32)) C dX12_digest_54 (by decide) ?_
      refine n_callVI s135 rfl C (ok_X12_many  hw) mv_X12_66 rfl rfl ⟨Nat.le_of_ble_eq_true rfl, Nat.le_of_ble_eq_true rfl⟩ (Nat.le_of_ble_eq_true rfl) dX12_digest_55 (fun r16 M15 hw => ?_)
      refine n_callVJ s135 rfl C (ok_X12_sums  hw) mv_X12_306 rfl rfl ⟨Nat.le_of_ble_eq_true rfl, Nat.le_of_ble_eq_true rfl⟩ (Nat.le_of_ble_eq_true rfl) dX12_digest_58 (fun r18 M17 hw => ?_)
      refine x_lstore_n C dX12_digest_61 rfl (Nat.le_of_ble_eq_true rfl) ?_
      refine x_aload_n C dX12_digest_62 rfl rfl ?_
      refine x_lload_n C dX12_digest_63 rfl rfl ?_
      refine x_sipush (v := (4162 : Int32)) C dX12_digest_64 (by decide) ?_
      refine x_aload_n C dX12_digest_67 rfl rfl ?_
      refine x_bipush (v := (6 : Int32)) C dX12_digest_68 (by decide) ?_
      refine n_callVI s135 rfl C (ok_X12_many  hw) mv_X12_66 rfl rfl ⟨Nat.le_of_ble_eq_true rfl, Nat.le_of_ble_eq_true rfl⟩ (Nat.le_of_ble_eq_true rfl) dX12_digest_70 (fun r20 M19 hw => ?_)
      refine n_callVJ s135 rfl C (ok_X12_sums  hw) mv_X12_306 rfl rfl ⟨Nat.le_of_ble_eq_true rfl, Nat.le_of_ble_eq_true rfl⟩ (Nat.le_of_ble_eq_true rfl) dX12_digest_73 (fun r22 M21 hw => ?_)
      refine x_lstore_n C dX12_digest_76 rfl (Nat.le_of_ble_eq_true rfl) ?_
      refine x_aload_n C dX12_digest_77 rfl rfl ?_
      refine x_lload_n C dX12_digest_78 rfl rfl ?_
      refine x_sipush (v := (4218 : Int32)) C dX12_digest_79 (by decide) ?_
      refine x_iconst (v := (2 : Int32)) C dX12_digest_82 (by decide) ?_
      refine n_callVJ s135 rfl C (ok_X12_sums  hw) mv_X12_306 rfl rfl ⟨Nat.le_of_ble_eq_true rfl, Nat.le_of_ble_eq_true rfl⟩ (Nat.le_of_ble_eq_true rfl) dX12_digest_83 (fun r24 M23 hw => ?_)
      refine x_lstore_n C dX12_digest_86 rfl (Nat.le_of_ble_eq_true rfl) ?_
      refine x_aload_n C dX12_digest_87 rfl rfl ?_
      refine x_lload_n C dX12_digest_88 rfl rfl ?_
      refine x_sipush (v := (4170 : Int32)) C dX12_digest_89 (by decide) ?_
      refine x_aload_n C dX12_digest_92 rfl rfl ?_
      refine x_bipush (v := (7 : Int32)) C dX12_digest_93 (by decide) ?_
      refine n_callVI s135 rfl C (ok_X12_many  hw) mv_X12_66 rfl rfl ⟨Nat.le_of_ble_eq_true rfl, Nat.le_of_ble_eq_true rfl⟩ (Nat.le_of_ble_eq_true rfl) dX12_digest_95 (fun r26 M25 hw => ?_)
      refine n_callVJ s135 rfl C (ok_X12_sums  hw) mv_X12_306 rfl rfl ⟨Nat.le_of_ble_eq_true rfl, Nat.le_of_ble_eq_true rfl⟩ (Nat.le_of_ble_eq_true rfl) dX12_digest_98 (fun r28 M27 hw => ?_)
      refine x_lstore_n C dX12_digest_101 rfl (Nat.le_of_ble_eq_true rfl) ?_
      refine x_aload_n C dX12_digest_102 rfl rfl ?_
      refine x_lload_n C dX12_digest_103 rfl rfl ?_
      refine x_sipush (v := (1026 : Int32)) C dX12_digest_104 (by decide) ?_
      refine x_iconst (v := (2 : Int32)) C dX12_digest_107 (by decide) ?_
      refine x_aload_n C dX12_digest_108 rfl rfl ?_
      refine x_iconst (v := (2 : Int32)) C dX12_digest_109 (by decide) ?_
      refine n_callVI s135 rfl C (ok_X12_many  hw) mv_X12_66 rfl rfl ⟨Nat.le_of_ble_eq_true rfl, Nat.le_of_ble_eq_true rfl⟩ (Nat.le_of_ble_eq_true rfl) dX12_digest_110 (fun r30 M29 hw => ?_)
      refine x_imul C dX12_digest_113 ?_
      refine n_callVJ s135 rfl C (ok_X12_sums  hw) mv_X12_306 rfl rfl ⟨Nat.le_of_ble_eq_true rfl, Nat.le_of_ble_eq_true rfl⟩ (Nat.le_of_ble_eq_true rfl) dX12_digest_114 (fun r32 M31 hw => ?_)
      refine x_lstore_n C dX12_digest_117 rfl (Nat.le_of_ble_eq_true rfl) ?_
      refine x_iconst (v := (0 : Int32)) C dX12_digest_118 (by decide) ?_
      refine x_istore_n C dX12_digest_119 rfl (Nat.le_of_ble_eq_true rfl) ?_
      exact x_sub [0, 1, 3] rfl (ok_X12_digest_l120 C r  hw)
    · replace hw := hw.2 h10
      refine x_ldc2_w (v := (31 : Int64)) C dX12_digest_12 kc_X12_299 ?_
      refine x_lload_n C dX12_digest_15 rfl rfl ?_
      refine x_lmul C dX12_digest_16 ?_
      refine x_aload_n C dX12_digest_17 rfl rfl ?_
      refine x_iload_n C dX12_digest_18 rfl rfl ?_
      refine n_callVI s135 rfl C (ok_X12_count  hw) mv_X12_303 rfl rfl ⟨Nat.le_of_ble_eq_true rfl, Nat.le_of_ble_eq_true rfl⟩ (Nat.le_of_ble_eq_true rfl) dX12_digest_19 (fun r34 M33 hw => ?_)
      refine x_i2l C dX12_digest_22 ?_
      refine x_ladd C dX12_digest_23 ?_
      obtain ⟨x35, ex35⟩ : ∃ z : Int64, z = (((31 : Int64) * v1) + (r34).toInt64) := ⟨_, rfl⟩
      replace hw := hw x35 ex35
      refine x_topj ex35 ?_
      refine x_lstore_n C dX12_digest_24 rfl (Nat.le_of_ble_eq_true rfl) ?_
      obtain ⟨x36, ex36⟩ : ∃ z : Int32, z = v3 + (1 : Int32) := ⟨_, rfl⟩
      replace hw := hw x36 ex36
      refine x_iinc (v := x36) C dX12_digest_25 rfl ex36.symm (Nat.le_of_ble_eq_true rfl) ?_
      refine x_goto (tgt := 6) C dX12_digest_28 (by decide) ?_
      exact x_sub [0, 1, 3] rfl hw)
def w_X12_digest (M : Mem) (q : Int64 → Mem → Prop) : Prop := w_X12_digest_l6 q ((349 : Int64), (0 : Int32), M)
set_option maxRecDepth 100000 in
set_option maxHeartbeats 4000000 in
theorem ok_X12_digest {g : Gl} {l : Launch} {M : Mem} {q : Int64 → Mem → Prop} (hw : w_X12_digest M q) : CtJ g l yX12_digest cX12_digest 5 (some .long) 3 48 [.ref (g.2.2.2 + 135)] M q := by
  refine n_introJ (by decide +kernel) (Nat.le_of_ble_eq_true rfl) (fun c C r => ?_)
  have C : Cx c cX12_digest 5 RX12 g l (Rm 3 48) := C
  refine x_sub [0] (lv' := [(0, .ref (g.2.2.2 + 135))]) rfl ?_
  unfold w_X12_digest at hw
  refine x_ldc2_w (v := (349 : Int64)) C dX12_digest_0 kc_X12_301 ?_
  refine x_lstore_n C dX12_digest_3 rfl (Nat.le_of_ble_eq_true rfl) ?_
  refine x_iconst (v := (0 : Int32)) C dX12_digest_4 (by decide) ?_
  refine x_istore_n C dX12_digest_5 rfl (Nat.le_of_ble_eq_true rfl) ?_
  exact x_sub [0, 1, 3] rfl (ok_X12_digest_l6 C r  hw)


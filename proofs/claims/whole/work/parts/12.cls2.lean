def w_X10_addToEach_b75 (o : Nat) (v1 : Nat) (v2 : Int32) (v3 : Int32) (v4 : Int32) (v5 : Int32) (v6 : Int32) (M : Mem) (q : Mem → Prop) (P9 : Int32 × Int32 × Int32 × Mem → Prop) : Prop := ∀ x1 : Int32, x1 = v6 + (1 : Int32) → P9 (v4, v5, x1, M)
set_option maxRecDepth 100000 in
set_option maxHeartbeats 4000000 in
theorem ok_X10_addToEach_b75 {c : CtxT} {g : Gl} {l : Launch} {o : Nat} {v1 : Nat} {v2 : Int32} {v3 : Int32} {v4 : Int32} {v5 : Int32} {v6 : Int32} {q : Mem → Prop} {P9 : Int32 × Int32 × Int32 × Mem → Prop} {M : Mem} (C : Cx c cX10_addToEach 7 RX10 g l (Rm 1 60)) (r : Rt c (none) (pV q) 0 0) (ho : sh o = .inl 10) (hv1 : isA 0 v1) (hP9 : ∀ (v4 : Int32) (v5 : Int32) (v6 : Int32) (M : Mem), P9 (v4, v5, v6, M) → X c S0 9 [(0, .ref (g.2.2.2 + o)), (1, .ref (g.2.2.2 + v1)), (2, .int v2), (3, .int v3), (4, .int v4), (5, .int v5), (6, .int v6)] [] (stat M)) (hw : w_X10_addToEach_b75 o v1 v2 v3 v4 v5 v6 M q P9) : X c S0 75 [(0, .ref (g.2.2.2 + o)), (1, .ref (g.2.2.2 + v1)), (2, .int v2), (3, .int v3), (4, .int v4), (5, .int v5), (6, .int v6)] [] (stat M) := by
  unfold w_X10_addToEach_b75 at hw
  obtain ⟨x1, ex1⟩ : ∃ z : Int32, z = v6 + (1 : Int32) := ⟨_, rfl⟩
  replace hw := hw x1 ex1
  refine x_iinc (v := x1) C dX10_addToEach_75 rfl ex1.symm (Nat.le_of_ble_eq_true rfl) ?_
  refine x_goto (tgt := 9) C dX10_addToEach_78 (by decide) ?_
  exact x_sub [0, 1, 2, 3, 4, 5, 6] rfl (hP9 _ _ _ _ hw)
def w_X10_addToEach_b42 (o : Nat) (v1 : Nat) (v2 : Int32) (v3 : Int32) (v4 : Int32) (v5 : Int32) (v6 : Int32) (M : Mem) (q : Mem → Prop) (P9 : Int32 × Int32 × Int32 × Mem → Prop) : Prop := vp_in v4 (len v1) ∧ vp_in v6 256 ∧ ∀ M4 : Mem, M4 = uI M (o + 3) (v6).toNatClampNeg (M.1 v1 (v4).toNatClampNeg) → ∀ x5 : Int32, x5 = v4 + (1 : Int32) → w_X10_addToEach_b75 o v1 v2 v3 x5 v5 v6 M4 q P9
set_option maxRecDepth 100000 in
set_option maxHeartbeats 4000000 in
theorem ok_X10_addToEach_b42 {c : CtxT} {g : Gl} {l : Launch} {o : Nat} {v1 : Nat} {v2 : Int32} {v3 : Int32} {v4 : Int32} {v5 : Int32} {v6 : Int32} {q : Mem → Prop} {P9 : Int32 × Int32 × Int32 × Mem → Prop} {M : Mem} (C : Cx c cX10_addToEach 7 RX10 g l (Rm 1 60)) (r : Rt c (none) (pV q) 0 0) (ho : sh o = .inl 10) (hv1 : isA 0 v1) (hP9 : ∀ (v4 : Int32) (v5 : Int32) (v6 : Int32) (M : Mem), P9 (v4, v5, v6, M) → X c S0 9 [(0, .ref (g.2.2.2 + o)), (1, .ref (g.2.2.2 + v1)), (2, .int v2), (3, .int v3), (4, .int v4), (5, .int v5), (6, .int v6)] [] (stat M)) (hw : w_X10_addToEach_b42 o v1 v2 v3 v4 v5 v6 M q P9) : X c S0 42 [(0, .ref (g.2.2.2 + o)), (1, .ref (g.2.2.2 + v1)), (2, .int v2), (3, .int v3), (4, .int v4), (5, .int v5), (6, .int v6)] [] (stat M) := by
  unfold w_X10_addToEach_b42 at hw
  refine x_aload_n C dX10_addToEach_42 rfl rfl ?_
  refine n_getS (dd := 3) C fl_X10_16 ho (fun _ _ => rfl) rfl dX10_addToEach_43 ?_
  refine x_iload C dX10_addToEach_46 rfl ?_
  refine x_aload_n C dX10_addToEach_48 rfl rfl ?_
  refine x_iload C dX10_addToEach_49 rfl ?_
  obtain ⟨h2, hw⟩ := hw
  refine a_iald C hv1 rfl h2 dX10_addToEach_51 ?_
  obtain ⟨h3, hw⟩ := hw
  obtain ⟨M4, eM4⟩ : ∃ z : Mem, z = uI M (o + 3) (v6).toNatClampNeg (M.1 v1 (v4).toNatClampNeg) := ⟨_, rfl⟩
  replace hw := hw M4 eM4
  refine a_iast C (ss_10_2 ho) (sl_10_2 ho) rfl h3 eM4 dX10_addToEach_52 ?_
  obtain ⟨x5, ex5⟩ : ∃ z : Int32, z = v4 + (1 : Int32) := ⟨_, rfl⟩
  replace hw := hw x5 ex5
  refine x_iinc (v := x5) C dX10_addToEach_53 rfl ex5.symm (Nat.le_of_ble_eq_true rfl) ?_
  refine x_goto (tgt := 75) C dX10_addToEach_56 (by decide) ?_
  exact x_sub [0, 1, 2, 3, 4, 5, 6] rfl (ok_X10_addToEach_b75 C r ho hv1 hP9 hw)
def w_X10_addToEach_b59 (o : Nat) (v1 : Nat) (v2 : Int32) (v3 : Int32) (v4 : Int32) (v5 : Int32) (v6 : Int32) (M : Mem) (q : Mem → Prop) (P9 : Int32 × Int32 × Int32 × Mem → Prop) : Prop := vp_in v5 (len v1) ∧ vp_in v6 256 ∧ ∀ M8 : Mem, M8 = uI M (o + 3) (v6).toNatClampNeg ((M.1 v1 (v5).toNatClampNeg) + v3) → ∀ x9 : Int32, x9 = v5 + (1 : Int32) → w_X10_addToEach_b75 o v1 v2 v3 v4 x9 v6 M8 q P9
set_option maxRecDepth 100000 in
set_option maxHeartbeats 4000000 in
theorem ok_X10_addToEach_b59 {c : CtxT} {g : Gl} {l : Launch} {o : Nat} {v1 : Nat} {v2 : Int32} {v3 : Int32} {v4 : Int32} {v5 : Int32} {v6 : Int32} {q : Mem → Prop} {P9 : Int32 × Int32 × Int32 × Mem → Prop} {M : Mem} (C : Cx c cX10_addToEach 7 RX10 g l (Rm 1 60)) (r : Rt c (none) (pV q) 0 0) (ho : sh o = .inl 10) (hv1 : isA 0 v1) (hP9 : ∀ (v4 : Int32) (v5 : Int32) (v6 : Int32) (M : Mem), P9 (v4, v5, v6, M) → X c S0 9 [(0, .ref (g.2.2.2 + o)), (1, .ref (g.2.2.2 + v1)), (2, .int v2), (3, .int v3), (4, .int v4), (5, .int v5), (6, .int v6)] [] (stat M)) (hw : w_X10_addToEach_b59 o v1 v2 v3 v4 v5 v6 M q P9) : X c S0 59 [(0, .ref (g.2.2.2 + o)), (1, .ref (g.2.2.2 + v1)), (2, .int v2), (3, .int v3), (4, .int v4), (5, .int v5), (6, .int v6)] [] (stat M) := by
  unfold w_X10_addToEach_b59 at hw
  refine x_aload_n C dX10_addToEach_59 rfl rfl ?_
  refine n_getS (dd := 3) C fl_X10_16 ho (fun _ _ => rfl) rfl dX10_addToEach_60 ?_
  refine x_iload C dX10_addToEach_63 rfl ?_
  refine x_aload_n C dX10_addToEach_65 rfl rfl ?_
  refine x_iload C dX10_addToEach_66 rfl ?_
  obtain ⟨h6, hw⟩ := hw
  refine a_iald C hv1 rfl h6 dX10_addToEach_68 ?_
  refine x_iload_n C dX10_addToEach_69 rfl rfl ?_
  refine x_iadd C dX10_addToEach_70 ?_
  obtain ⟨h7, hw⟩ := hw
  obtain ⟨M8, eM8⟩ : ∃ z : Mem, z = uI M (o + 3) (v6).toNatClampNeg ((M.1 v1 (v5).toNatClampNeg) + v3) := ⟨_, rfl⟩
  replace hw := hw M8 eM8
  refine a_iast C (ss_10_2 ho) (sl_10_2 ho) rfl h7 eM8 dX10_addToEach_71 ?_
  obtain ⟨x9, ex9⟩ : ∃ z : Int32, z = v5 + (1 : Int32) := ⟨_, rfl⟩
  replace hw := hw x9 ex9
  refine x_iinc (v := x9) C dX10_addToEach_72 rfl ex9.symm (Nat.le_of_ble_eq_true rfl) ?_
  exact x_sub [0, 1, 2, 3, 4, 5, 6] rfl (ok_X10_addToEach_b75 C r ho hv1 hP9 hw)
def w_X10_addToEach_l9F (o : Nat) (v1 : Nat) (v2 : Int32) (v3 : Int32) (q : Mem → Prop) (P9 : Int32 × Int32 × Int32 × Mem → Prop) (s : Int32 × Int32 × Int32 × Mem) : Prop := match s with
  | (v4, v5, v6, M) => (((v2 * (2 : Int32)) ≤ v6 → ¬ (v2 * (2 : Int32)) < 0 ∧ 0 + ((v2 * (2 : Int32))).toNatClampNeg ≤ 256 ∧ 0 + ((v2 * (2 : Int32))).toNatClampNeg ≤ (len v1) ∧ ∀ M14 : Mem, M14 = cpI M (o + 3) v1 0 0 ((v2 * (2 : Int32))).toNatClampNeg → q M14) ∧ (¬ (v2 * (2 : Int32)) ≤ v6 → ((v2 ≤ v5 → w_X10_addToEach_b42 o v1 v2 v3 v4 v5 v6 M q P9) ∧ (¬ v2 ≤ v5 → ((v2 ≤ v4 → w_X10_addToEach_b59 o v1 v2 v3 v4 v5 v6 M q P9) ∧ (¬ v2 ≤ v4 → vp_in v4 (len v1) ∧ vp_in v5 (len v1) ∧ ((((M.1 v1 (v5).toNatClampNeg) + v3) < (M.1 v1 (v4).toNatClampNeg) → w_X10_addToEach_b59 o v1 v2 v3 v4 v5 v6 M q P9) ∧ (¬ ((M.1 v1 (v5).toNatClampNeg) + v3) < (M.1 v1 (v4).toNatClampNeg) → w_X10_addToEach_b42 o v1 v2 v3 v4 v5 v6 M q P9))))))))
def w_X10_addToEach_l9 (o : Nat) (v1 : Nat) (v2 : Int32) (v3 : Int32) (q : Mem → Prop) (s : Int32 × Int32 × Int32 × Mem) : Prop := lfp (w_X10_addToEach_l9F o v1 v2 v3 q ) s
set_option maxRecDepth 100000 in
set_option maxHeartbeats 4000000 in
theorem ok_X10_addToEach_l9 {c : CtxT} {g : Gl} {l : Launch} {o : Nat} {v1 : Nat} {v2 : Int32} {v3 : Int32} {q : Mem → Prop} {s : Int32 × Int32 × Int32 × Mem} (C : Cx c cX10_addToEach 7 RX10 g l (Rm 1 60)) (r : Rt c (none) (pV q) 0 0) (ho : sh o = .inl 10) (hv1 : isA 0 v1) (hw : w_X10_addToEach_l9 o v1 v2 v3 q s) : X c S0 9 [(0, .ref (g.2.2.2 + o)), (1, .ref (g.2.2.2 + v1)), (2, .int v2), (3, .int v3), (4, .int s.1), (5, .int s.2.1), (6, .int s.2.2.1)] [] (stat s.2.2.2) := hw (fun s => X c S0 9 [(0, .ref (g.2.2.2 + o)), (1, .ref (g.2.2.2 + v1)), (2, .int v2), (3, .int v3), (4, .int s.1), (5, .int s.2.1), (6, .int s.2.2.1)] [] (stat s.2.2.2)) (fun s hw => by
    obtain ⟨v4, v5, v6, M⟩ := s
    try dsimp only [w_X10_addToEach_l9F] at hw
    try dsimp only
    refine x_iload C dX10_addToEach_9 rfl ?_
    refine x_iload_n C dX10_addToEach_11 rfl rfl ?_
    refine x_iconst (v := (2 : Int32)) C dX10_addToEach_12 (by decide) ?_
    refine x_imul C dX10_addToEach_13 ?_
    refine x_icmp_ge (tgt := 81) C dX10_addToEach_14 (by decide) (fun h10 => ?_) (fun h10 => ?_)
    · replace hw := hw.1 h10
      refine x_aload_n C dX10_addToEach_81 rfl rfl ?_
      refine n_getS (dd := 3) C fl_X10_16 ho (fun _ _ => rfl) rfl dX10_addToEach_82 ?_
      refine x_iconst (v := (0 : Int32)) C dX10_addToEach_85 (by decide) ?_
      refine x_aload_n C dX10_addToEach_86 rfl rfl ?_
      refine x_iconst (v := (0 : Int32)) C dX10_addToEach_87 (by decide) ?_
      refine x_iload_n C dX10_addToEach_88 rfl rfl ?_
      refine x_iconst (v := (2 : Int32)) C dX10_addToEach_89 (by decide) ?_
      refine x_imul C dX10_addToEach_90 ?_
      obtain ⟨h11, hw⟩ := hw
      obtain ⟨h12, hw⟩ := hw
      obtain ⟨h13, hw⟩ := hw
      obtain ⟨M14, eM14⟩ : ∃ z : Mem, z = cpI M (o + 3) v1 0 0 ((v2 * (2 : Int32))).toNatClampNeg := ⟨_, rfl⟩
      replace hw := hw M14 eM14
      refine a_copy C ac_X10_27 ac_native ac_static ac_init (ss_10_2 ho) hv1 (sl_10_2 ho) rfl (by decide) (by decide) rfl (by decide) (by decide) h11 h12 h13 eM14 (Nat.le_of_ble_eq_true rfl) (Nat.le_of_ble_eq_true rfl) (Nat.le_of_ble_eq_true rfl) dX10_addToEach_91 ?_
      exact n_vreturn C r dX10_addToEach_94 hw
    · replace hw := hw.2 h10
      refine x_iload C dX10_addToEach_17 rfl ?_
      refine x_iload_n C dX10_addToEach_19 rfl rfl ?_
      refine x_icmp_ge (tgt := 42) C dX10_addToEach_20 (by decide) (fun h15 => ?_) (fun h15 => ?_)
      · replace hw := hw.1 h15
        exact x_sub [0, 1, 2, 3, 4, 5, 6] rfl (ok_X10_addToEach_b42 C r ho hv1 (fun _ _ _ _ h => h) hw)
      · replace hw := hw.2 h15
        refine x_iload C dX10_addToEach_23 rfl ?_
        refine x_iload_n C dX10_addToEach_25 rfl rfl ?_
        refine x_icmp_ge (tgt := 59) C dX10_addToEach_26 (by decide) (fun h16 => ?_) (fun h16 => ?_)
        · replace hw := hw.1 h16
          exact x_sub [0, 1, 2, 3, 4, 5, 6] rfl (ok_X10_addToEach_b59 C r ho hv1 (fun _ _ _ _ h => h) hw)
        · replace hw := hw.2 h16
          refine x_aload_n C dX10_addToEach_29 rfl rfl ?_
          refine x_iload C dX10_addToEach_30 rfl ?_
          obtain ⟨h17, hw⟩ := hw
          refine a_iald C hv1 rfl h17 dX10_addToEach_32 ?_
          refine x_aload_n C dX10_addToEach_33 rfl rfl ?_
          refine x_iload C dX10_addToEach_34 rfl ?_
          obtain ⟨h18, hw⟩ := hw
          refine a_iald C hv1 rfl h18 dX10_addToEach_36 ?_
          refine x_iload_n C dX10_addToEach_37 rfl rfl ?_
          refine x_iadd C dX10_addToEach_38 ?_
          refine x_icmp_gt (tgt := 59) C dX10_addToEach_39 (by decide) (fun h19 => ?_) (fun h19 => ?_)
          · replace hw := hw.1 h19
            exact x_sub [0, 1, 2, 3, 4, 5, 6] rfl (ok_X10_addToEach_b59 C r ho hv1 (fun _ _ _ _ h => h) hw)
          · replace hw := hw.2 h19
            exact x_sub [0, 1, 2, 3, 4, 5, 6] rfl (ok_X10_addToEach_b42 C r ho hv1 (fun _ _ _ _ h => h) hw))
def w_X10_addToEach (o : Nat) (v1 : Nat) (v2 : Int32) (v3 : Int32) (M : Mem) (q : Mem → Prop) : Prop := w_X10_addToEach_l9 o v1 v2 v3 q ((0 : Int32), (0 : Int32), (0 : Int32), M)
set_option maxRecDepth 100000 in
set_option maxHeartbeats 4000000 in
theorem ok_X10_addToEach {g : Gl} {l : Launch} {o : Nat} {v1 : Nat} {v2 : Int32} {v3 : Int32} {M : Mem} {q : Mem → Prop} (ho : sh o = .inl 10) (hv1 : isA 0 v1) (hw : w_X10_addToEach o v1 v2 v3 M q) : CtV g l yX10_addToEach cX10_addToEach 7 none 1 60 [.ref (g.2.2.2 + o), .ref (g.2.2.2 + v1), .int v2, .int v3] M q := by
  refine n_introV (by decide +kernel) (Nat.le_of_ble_eq_true rfl) (fun c C r => ?_)
  have C : Cx c cX10_addToEach 7 RX10 g l (Rm 1 60) := C
  refine x_sub [0, 1, 2, 3] (lv' := [(0, .ref (g.2.2.2 + o)), (1, .ref (g.2.2.2 + v1)), (2, .int v2), (3, .int v3)]) rfl ?_
  unfold w_X10_addToEach at hw
  refine x_iconst (v := (0 : Int32)) C dX10_addToEach_0 (by decide) ?_
  refine x_istore C dX10_addToEach_1 (Nat.le_of_ble_eq_true rfl) ?_
  refine x_iconst (v := (0 : Int32)) C dX10_addToEach_3 (by decide) ?_
  refine x_istore C dX10_addToEach_4 (Nat.le_of_ble_eq_true rfl) ?_
  refine x_iconst (v := (0 : Int32)) C dX10_addToEach_6 (by decide) ?_
  refine x_istore C dX10_addToEach_7 (Nat.le_of_ble_eq_true rfl) ?_
  exact x_sub [0, 1, 2, 3, 4, 5, 6] rfl (ok_X10_addToEach_l9 C r ho hv1 hw)

def w_X10_sumsOfSets_l11F (o : Nat) (v1 : Nat) (v3 : Int32) (v4 : Int32) (v5 : Nat) (q : Int32 → Mem → Prop) (P11 : Int32 × Int32 × Mem → Prop) (s : Int32 × Int32 × Mem) : Prop := match s with
  | (v6, v7, M) => ((v3 ≤ v7 → q v6 M) ∧ (¬ v3 ≤ v7 → (((256 : Int32) < (v6 * (2 : Int32)) → q v6 M) ∧ (¬ (256 : Int32) < (v6 * (2 : Int32)) → vp_in v7 (len v1) ∧ w_X10_addToEach o v5 v6 ((M.1 v1 (v7).toNatClampNeg) * v4) M (fun (M4 : Mem) => ∀ x6 : Int32, x6 = (v6 * (2 : Int32)) → ∀ x7 : Int32, x7 = v7 + (1 : Int32) → P11 (x6, x7, M4))))))
def w_X10_sumsOfSets_l11 (o : Nat) (v1 : Nat) (v3 : Int32) (v4 : Int32) (v5 : Nat) (q : Int32 → Mem → Prop) (s : Int32 × Int32 × Mem) : Prop := lfp (w_X10_sumsOfSets_l11F o v1 v3 v4 v5 q ) s
set_option maxRecDepth 100000 in
set_option maxHeartbeats 4000000 in
theorem ok_X10_sumsOfSets_l11 {c : CtxT} {g : Gl} {l : Launch} {o : Nat} {v1 : Nat} {v3 : Int32} {v4 : Int32} {v5 : Nat} {q : Int32 → Mem → Prop} {s : Int32 × Int32 × Mem} (C : Cx c cX10_sumsOfSets 8 RX10 g l (Rm 2 86)) (r : Rt c (some .int) (pI q) 0 0) (ho : sh o = .inl 10) (hv1 : isA 0 v1) (hv5 : isA 0 v5) (hw : w_X10_sumsOfSets_l11 o v1 v3 v4 v5 q s) : X c S0 11 [(0, .ref (g.2.2.2 + o)), (1, .ref (g.2.2.2 + v1)), (3, .int v3), (4, .int v4), (5, .ref (g.2.2.2 + v5)), (6, .int s.1), (7, .int s.2.1)] [] (stat s.2.2) := hw (fun s => X c S0 11 [(0, .ref (g.2.2.2 + o)), (1, .ref (g.2.2.2 + v1)), (3, .int v3), (4, .int v4), (5, .ref (g.2.2.2 + v5)), (6, .int s.1), (7, .int s.2.1)] [] (stat s.2.2)) (fun s hw => by
    obtain ⟨v6, v7, M⟩ := s
    try dsimp only [w_X10_sumsOfSets_l11F] at hw
    try dsimp only
    refine x_iload C dX10_sumsOfSets_11 rfl ?_
    refine x_iload_n C dX10_sumsOfSets_13 rfl rfl ?_
    refine x_icmp_ge (tgt := 54) C dX10_sumsOfSets_14 (by decide) (fun h1 => ?_) (fun h1 => ?_)
    · replace hw := hw.1 h1
      refine x_iload C dX10_sumsOfSets_54 rfl ?_
      exact n_ireturn C r dX10_sumsOfSets_56 hw
    · replace hw := hw.2 h1
      refine x_iload C dX10_sumsOfSets_17 rfl ?_
      refine x_iconst (v := (2 : Int32)) C dX10_sumsOfSets_19 (by decide) ?_
      refine x_imul C dX10_sumsOfSets_20 ?_
      refine x_sipush (v := (256 : Int32)) C dX10_sumsOfSets_21 (by decide) ?_
      refine x_icmp_gt (tgt := 54) C dX10_sumsOfSets_24 (by decide) (fun h2 => ?_) (fun h2 => ?_)
      · replace hw := hw.1 h2
        refine x_iload C dX10_sumsOfSets_54 rfl ?_
        exact n_ireturn C r dX10_sumsOfSets_56 hw
      · replace hw := hw.2 h2
        refine x_aload_n C dX10_sumsOfSets_27 rfl rfl ?_
        refine x_aload C dX10_sumsOfSets_28 rfl ?_
        refine x_iload C dX10_sumsOfSets_30 rfl ?_
        refine x_aload_n C dX10_sumsOfSets_32 rfl rfl ?_
        refine x_iload C dX10_sumsOfSets_33 rfl ?_
        obtain ⟨h3, hw⟩ := hw
        refine a_iald C hv1 rfl h3 dX10_sumsOfSets_35 ?_
        refine x_iload C dX10_sumsOfSets_36 rfl ?_
        refine x_imul C dX10_sumsOfSets_38 ?_
        refine n_callVV ho rfl C (ok_X10_addToEach ho hv5 hw) mv_X10_23 rfl rfl ⟨Nat.le_of_ble_eq_true rfl, Nat.le_of_ble_eq_true rfl⟩ (Nat.le_of_ble_eq_true rfl) dX10_sumsOfSets_39 (fun M4 hw => ?_)
        refine x_iload C dX10_sumsOfSets_42 rfl ?_
        refine x_iconst (v := (2 : Int32)) C dX10_sumsOfSets_44 (by decide) ?_
        refine x_imul C dX10_sumsOfSets_45 ?_
        obtain ⟨x6, ex6⟩ : ∃ z : Int32, z = (v6 * (2 : Int32)) := ⟨_, rfl⟩
        replace hw := hw x6 ex6
        refine x_topi ex6 ?_
        refine x_istore C dX10_sumsOfSets_46 (Nat.le_of_ble_eq_true rfl) ?_
        obtain ⟨x7, ex7⟩ : ∃ z : Int32, z = v7 + (1 : Int32) := ⟨_, rfl⟩
        replace hw := hw x7 ex7
        refine x_iinc (v := x7) C dX10_sumsOfSets_48 rfl ex7.symm (Nat.le_of_ble_eq_true rfl) ?_
        refine x_goto (tgt := 11) C dX10_sumsOfSets_51 (by decide) ?_
        exact x_sub [0, 1, 3, 4, 5, 6, 7] rfl hw)
def w_X10_sumsOfSets (o : Nat) (v1 : Nat) (v2 : Int32) (v3 : Int32) (v4 : Int32) (v5 : Nat) (M : Mem) (q : Int32 → Mem → Prop) : Prop := vp_in (0 : Int32) (len v5) ∧ ∀ M9 : Mem, M9 = uI M v5 0 (0 : Int32) → w_X10_sumsOfSets_l11 o v1 v3 v4 v5 q ((1 : Int32), v2, M9)
set_option maxRecDepth 100000 in
set_option maxHeartbeats 4000000 in
theorem ok_X10_sumsOfSets {g : Gl} {l : Launch} {o : Nat} {v1 : Nat} {v2 : Int32} {v3 : Int32} {v4 : Int32} {v5 : Nat} {M : Mem} {q : Int32 → Mem → Prop} (ho : sh o = .inl 10) (hv1 : isA 0 v1) (hv5 : isA 0 v5) (hw : w_X10_sumsOfSets o v1 v2 v3 v4 v5 M q) : CtI g l yX10_sumsOfSets cX10_sumsOfSets 8 (some .int) 2 86 [.ref (g.2.2.2 + o), .ref (g.2.2.2 + v1), .int v2, .int v3, .int v4, .ref (g.2.2.2 + v5)] M q := by
  refine n_introI (by decide +kernel) (Nat.le_of_ble_eq_true rfl) (fun c C r => ?_)
  have C : Cx c cX10_sumsOfSets 8 RX10 g l (Rm 2 86) := C
  refine x_sub [0, 1, 2, 3, 4, 5] (lv' := [(0, .ref (g.2.2.2 + o)), (1, .ref (g.2.2.2 + v1)), (2, .int v2), (3, .int v3), (4, .int v4), (5, .ref (g.2.2.2 + v5))]) rfl ?_
  unfold w_X10_sumsOfSets at hw
  refine x_aload C dX10_sumsOfSets_0 rfl ?_
  refine x_iconst (v := (0 : Int32)) C dX10_sumsOfSets_2 (by decide) ?_
  refine x_iconst (v := (0 : Int32)) C dX10_sumsOfSets_3 (by decide) ?_
  obtain ⟨h8, hw⟩ := hw
  obtain ⟨M9, eM9⟩ : ∃ z : Mem, z = uI M v5 0 (0 : Int32) := ⟨_, rfl⟩
  replace hw := hw M9 eM9
  refine a_iast C hv5 rfl (by decide) h8 eM9 dX10_sumsOfSets_4 ?_
  refine x_iconst (v := (1 : Int32)) C dX10_sumsOfSets_5 (by decide) ?_
  refine x_istore C dX10_sumsOfSets_6 (Nat.le_of_ble_eq_true rfl) ?_
  refine x_iload_n C dX10_sumsOfSets_8 rfl rfl ?_
  refine x_istore C dX10_sumsOfSets_9 (Nat.le_of_ble_eq_true rfl) ?_
  exact x_sub [0, 1, 3, 4, 5, 6, 7] rfl (ok_X10_sumsOfSets_l11 C r ho hv1 hv5 hw)

def w_X10_dealt_b96 (o : Nat) (v6 : Int32) (v8 : Int32) (v9 : Int32) (v10 : Int32) (M : Mem) (q : Int32 → Mem → Prop) (P58 : Int32 × Int32 × Int32 × Mem → Prop) : Prop := ∀ x1 : Int32, x1 = (v8 + v9) → ∀ x2 : Int32, x2 = v10 + (1 : Int32) → P58 (x1, v9, x2, M)
set_option maxRecDepth 100000 in
set_option maxHeartbeats 4000000 in
theorem ok_X10_dealt_b96 {c : CtxT} {g : Gl} {l : Launch} {o : Nat} {v6 : Int32} {v8 : Int32} {v9 : Int32} {v10 : Int32} {q : Int32 → Mem → Prop} {P58 : Int32 × Int32 × Int32 × Mem → Prop} {M : Mem} (C : Cx c cX10_dealt 11 RX10 g l (Rm 3 113)) (r : Rt c (some .int) (pI q) 0 0) (ho : sh o = .inl 10) (hP58 : ∀ (v8 : Int32) (v9 : Int32) (v10 : Int32) (M : Mem), P58 (v8, v9, v10, M) → X c S0 58 [(0, .ref (g.2.2.2 + o)), (6, .int v6), (8, .int v8), (9, .int v9), (10, .int v10)] [] (stat M)) (hw : w_X10_dealt_b96 o v6 v8 v9 v10 M q P58) : X c S0 96 [(0, .ref (g.2.2.2 + o)), (6, .int v6), (8, .int v8), (9, .int v9), (10, .int v10)] [] (stat M) := by
  unfold w_X10_dealt_b96 at hw
  refine x_iload C dX10_dealt_96 rfl ?_
  refine x_iload C dX10_dealt_98 rfl ?_
  refine x_iadd C dX10_dealt_100 ?_
  obtain ⟨x1, ex1⟩ : ∃ z : Int32, z = (v8 + v9) := ⟨_, rfl⟩
  replace hw := hw x1 ex1
  refine x_topi ex1 ?_
  refine x_istore C dX10_dealt_101 (Nat.le_of_ble_eq_true rfl) ?_
  obtain ⟨x2, ex2⟩ : ∃ z : Int32, z = v10 + (1 : Int32) := ⟨_, rfl⟩
  replace hw := hw x2 ex2
  refine x_iinc (v := x2) C dX10_dealt_103 rfl ex2.symm (Nat.le_of_ble_eq_true rfl) ?_
  refine x_goto (tgt := 58) C dX10_dealt_106 (by decide) ?_
  exact x_sub [0, 6, 8, 9, 10] rfl (hP58 _ _ _ _ hw)
def w_X10_dealt_l65F (o : Nat) (v6 : Int32) (v8 : Int32) (v10 : Int32) (q : Int32 → Mem → Prop) (P58 : Int32 × Int32 × Int32 × Mem → Prop) (P65 : Int32 × Mem → Prop) (s : Int32 × Mem) : Prop := match s with
  | (v9, M) => ((v9 ≤ 0 → w_X10_dealt_b96 o v6 v8 v9 v10 M q P58) ∧ (¬ v9 ≤ 0 → vp_in v10 256 ∧ vp_in (v9 - (1 : Int32)) 256 ∧ ((((M.1 (o + 1) (v10).toNatClampNeg) + (M.1 (o + 2) ((v9 - (1 : Int32))).toNatClampNeg)) ≤ 0 → w_X10_dealt_b96 o v6 v8 v9 v10 M q P58) ∧ (¬ ((M.1 (o + 1) (v10).toNatClampNeg) + (M.1 (o + 2) ((v9 - (1 : Int32))).toNatClampNeg)) ≤ 0 → ∀ x7 : Int32, x7 = v9 + (-1 : Int32) → P65 (x7, M)))))
def w_X10_dealt_l65 (o : Nat) (v6 : Int32) (v8 : Int32) (v10 : Int32) (q : Int32 → Mem → Prop) (P58 : Int32 × Int32 × Int32 × Mem → Prop) (s : Int32 × Mem) : Prop := lfp (w_X10_dealt_l65F o v6 v8 v10 q P58) s
set_option maxRecDepth 100000 in
set_option maxHeartbeats 4000000 in
theorem ok_X10_dealt_l65 {c : CtxT} {g : Gl} {l : Launch} {o : Nat} {v6 : Int32} {v8 : Int32} {v10 : Int32} {q : Int32 → Mem → Prop} {P58 : Int32 × Int32 × Int32 × Mem → Prop} {s : Int32 × Mem} (C : Cx c cX10_dealt 11 RX10 g l (Rm 3 113)) (r : Rt c (some .int) (pI q) 0 0) (ho : sh o = .inl 10) (hP58 : ∀ (v8 : Int32) (v9 : Int32) (v10 : Int32) (M : Mem), P58 (v8, v9, v10, M) → X c S0 58 [(0, .ref (g.2.2.2 + o)), (6, .int v6), (8, .int v8), (9, .int v9), (10, .int v10)] [] (stat M)) (hw : w_X10_dealt_l65 o v6 v8 v10 q P58 s) : X c S0 65 [(0, .ref (g.2.2.2 + o)), (6, .int v6), (8, .int v8), (9, .int s.1), (10, .int v10)] [] (stat s.2) := hw (fun s => X c S0 65 [(0, .ref (g.2.2.2 + o)), (6, .int v6), (8, .int v8), (9, .int s.1), (10, .int v10)] [] (stat s.2)) (fun s hw => by
    obtain ⟨v9, M⟩ := s
    try dsimp only [w_X10_dealt_l65F] at hw
    try dsimp only
    refine x_iload C dX10_dealt_65 rfl ?_
    refine x_if_le (tgt := 96) C dX10_dealt_67 (by decide) (fun h3 => ?_) (fun h3 => ?_)
    · replace hw := hw.1 h3
      exact x_sub [0, 6, 8, 9, 10] rfl (ok_X10_dealt_b96 C r ho hP58 hw)
    · replace hw := hw.2 h3
      refine x_aload_n C dX10_dealt_70 rfl rfl ?_
      refine n_getS (dd := 1) C fl_X10_9 ho (fun _ _ => rfl) rfl dX10_dealt_71 ?_
      refine x_iload C dX10_dealt_74 rfl ?_
      obtain ⟨h4, hw⟩ := hw
      refine a_iald C (ss_10_0 ho) (sl_10_0 ho) h4 dX10_dealt_76 ?_
      refine x_aload_n C dX10_dealt_77 rfl rfl ?_
      refine n_getS (dd := 2) C fl_X10_13 ho (fun _ _ => rfl) rfl dX10_dealt_78 ?_
      refine x_iload C dX10_dealt_81 rfl ?_
      refine x_iconst (v := (1 : Int32)) C dX10_dealt_83 (by decide) ?_
      refine x_isub C dX10_dealt_84 ?_
      obtain ⟨h5, hw⟩ := hw
      refine a_iald C (ss_10_1 ho) (sl_10_1 ho) h5 dX10_dealt_85 ?_
      refine x_iadd C dX10_dealt_86 ?_
      refine x_if_le (tgt := 96) C dX10_dealt_87 (by decide) (fun h6 => ?_) (fun h6 => ?_)
      · replace hw := hw.1 h6
        exact x_sub [0, 6, 8, 9, 10] rfl (ok_X10_dealt_b96 C r ho hP58 hw)
      · replace hw := hw.2 h6
        obtain ⟨x7, ex7⟩ : ∃ z : Int32, z = v9 + (-1 : Int32) := ⟨_, rfl⟩
        replace hw := hw x7 ex7
        refine x_iinc (v := x7) C dX10_dealt_90 rfl ex7.symm (Nat.le_of_ble_eq_true rfl) ?_
        refine x_goto (tgt := 65) C dX10_dealt_93 (by decide) ?_
        exact x_sub [0, 6, 8, 9, 10] rfl hw)
def w_X10_dealt_l58F (o : Nat) (v6 : Int32) (q : Int32 → Mem → Prop) (P58 : Int32 × Int32 × Int32 × Mem → Prop) (s : Int32 × Int32 × Int32 × Mem) : Prop := match s with
  | (v8, v9, v10, M) => ((v6 ≤ v10 → q v8 M) ∧ (¬ v6 ≤ v10 → w_X10_dealt_l65 o v6 v8 v10 q P58 (v9, M)))
def w_X10_dealt_l58 (o : Nat) (v6 : Int32) (q : Int32 → Mem → Prop) (s : Int32 × Int32 × Int32 × Mem) : Prop := lfp (w_X10_dealt_l58F o v6 q ) s
set_option maxRecDepth 100000 in
set_option maxHeartbeats 4000000 in
theorem ok_X10_dealt_l58 {c : CtxT} {g : Gl} {l : Launch} {o : Nat} {v6 : Int32} {q : Int32 → Mem → Prop} {s : Int32 × Int32 × Int32 × Mem} (C : Cx c cX10_dealt 11 RX10 g l (Rm 3 113)) (r : Rt c (some .int) (pI q) 0 0) (ho : sh o = .inl 10) (hw : w_X10_dealt_l58 o v6 q s) : X c S0 58 [(0, .ref (g.2.2.2 + o)), (6, .int v6), (8, .int s.1), (9, .int s.2.1), (10, .int s.2.2.1)] [] (stat s.2.2.2) := hw (fun s => X c S0 58 [(0, .ref (g.2.2.2 + o)), (6, .int v6), (8, .int s.1), (9, .int s.2.1), (10, .int s.2.2.1)] [] (stat s.2.2.2)) (fun s hw => by
    obtain ⟨v8, v9, v10, M⟩ := s
    try dsimp only [w_X10_dealt_l58F] at hw
    try dsimp only
    refine x_iload C dX10_dealt_58 rfl ?_
    refine x_iload C dX10_dealt_60 rfl ?_
    refine x_icmp_ge (tgt := 109) C dX10_dealt_62 (by decide) (fun h8 => ?_) (fun h8 => ?_)
    · replace hw := hw.1 h8
      refine x_iload C dX10_dealt_109 rfl ?_
      exact n_ireturn C r dX10_dealt_111 hw
    · replace hw := hw.2 h8
      exact x_sub [0, 6, 8, 9, 10] rfl (ok_X10_dealt_l65 C r ho (fun _ _ _ _ h => h) hw))
def w_X10_dealt_b14 (o : Nat) (v1 : Nat) (v2 : Int32) (v4 : Int32) (t0 : Int32) (M : Mem) (q : Int32 → Mem → Prop) : Prop := w_X10_sumsOfSets o v1 (0 : Int32) v4 t0 (o + 1) M (fun (r10 : Int32) (M9 : Mem) => w_X10_sumsOfSets o v1 v4 v2 t0 (o + 2) M9 (fun (r12 : Int32) (M11 : Mem) => w_X10_dealt_l58 o r10 q ((0 : Int32), r12, (0 : Int32), M11)))
set_option maxRecDepth 100000 in
set_option maxHeartbeats 4000000 in
theorem ok_X10_dealt_b14 {c : CtxT} {g : Gl} {l : Launch} {o : Nat} {v1 : Nat} {v2 : Int32} {v4 : Int32} {t0 : Int32} {q : Int32 → Mem → Prop} {M : Mem} (C : Cx c cX10_dealt 11 RX10 g l (Rm 3 113)) (r : Rt c (some .int) (pI q) 0 0) (ho : sh o = .inl 10) (hv1 : isA 0 v1) (hw : w_X10_dealt_b14 o v1 v2 v4 t0 M q ) : X c S0 14 [(0, .ref (g.2.2.2 + o)), (1, .ref (g.2.2.2 + v1)), (2, .int v2), (4, .int v4)] [.int t0] (stat M) := by
  unfold w_X10_dealt_b14 at hw
  refine x_istore C dX10_dealt_14 (Nat.le_of_ble_eq_true rfl) ?_
  refine x_aload_n C dX10_dealt_16 rfl rfl ?_
  refine x_aload_n C dX10_dealt_17 rfl rfl ?_
  refine x_iconst (v := (0 : Int32)) C dX10_dealt_18 (by decide) ?_
  refine x_iload C dX10_dealt_19 rfl ?_
  refine x_iload C dX10_dealt_21 rfl ?_
  refine x_aload_n C dX10_dealt_23 rfl rfl ?_
  refine n_getS (dd := 1) C fl_X10_9 ho (fun _ _ => rfl) rfl dX10_dealt_24 ?_
  refine n_callVI ho rfl C (ok_X10_sumsOfSets ho hv1 (ss_10_0 ho) hw) mv_X10_19 rfl rfl ⟨Nat.le_of_ble_eq_true rfl, Nat.le_of_ble_eq_true rfl⟩ (Nat.le_of_ble_eq_true rfl) dX10_dealt_27 (fun r10 M9 hw => ?_)
  refine x_istore C dX10_dealt_30 (Nat.le_of_ble_eq_true rfl) ?_
  refine x_aload_n C dX10_dealt_32 rfl rfl ?_
  refine x_aload_n C dX10_dealt_33 rfl rfl ?_
  refine x_iload C dX10_dealt_34 rfl ?_
  refine x_iload_n C dX10_dealt_36 rfl rfl ?_
  refine x_iload C dX10_dealt_37 rfl ?_
  refine x_aload_n C dX10_dealt_39 rfl rfl ?_
  refine n_getS (dd := 2) C fl_X10_13 ho (fun _ _ => rfl) rfl dX10_dealt_40 ?_
  refine n_callVI ho rfl C (ok_X10_sumsOfSets ho hv1 (ss_10_1 ho) hw) mv_X10_19 rfl rfl ⟨Nat.le_of_ble_eq_true rfl, Nat.le_of_ble_eq_true rfl⟩ (Nat.le_of_ble_eq_true rfl) dX10_dealt_43 (fun r12 M11 hw => ?_)
  refine x_istore C dX10_dealt_46 (Nat.le_of_ble_eq_true rfl) ?_
  refine x_iconst (v := (0 : Int32)) C dX10_dealt_48 (by decide) ?_
  refine x_istore C dX10_dealt_49 (Nat.le_of_ble_eq_true rfl) ?_
  refine x_iload C dX10_dealt_51 rfl ?_
  refine x_istore C dX10_dealt_53 (Nat.le_of_ble_eq_true rfl) ?_
  refine x_iconst (v := (0 : Int32)) C dX10_dealt_55 (by decide) ?_
  refine x_istore C dX10_dealt_56 (Nat.le_of_ble_eq_true rfl) ?_
  exact x_sub [0, 6, 8, 9, 10] rfl (ok_X10_dealt_l58 C r ho hw)
def w_X10_dealt (o : Nat) (v1 : Nat) (v2 : Int32) (v3 : Int32) (M : Mem) (q : Int32 → Mem → Prop) : Prop := ∀ x13 : Int32, x13 = (v2 / (2 : Int32)) → ((v3 = 0 → w_X10_dealt_b14 o v1 v2 x13 (1 : Int32) M q) ∧ (¬ v3 = 0 → w_X10_dealt_b14 o v1 v2 x13 (-1 : Int32) M q))
set_option maxRecDepth 100000 in
set_option maxHeartbeats 4000000 in
theorem ok_X10_dealt {g : Gl} {l : Launch} {o : Nat} {v1 : Nat} {v2 : Int32} {v3 : Int32} {M : Mem} {q : Int32 → Mem → Prop} (ho : sh o = .inl 10) (hv1 : isA 0 v1) (hw : w_X10_dealt o v1 v2 v3 M q) : CtI g l yX10_dealt cX10_dealt 11 (some .int) 3 113 [.ref (g.2.2.2 + o), .ref (g.2.2.2 + v1), .int v2, .int v3] M q := by
  refine n_introI (by decide +kernel) (Nat.le_of_ble_eq_true rfl) (fun c C r => ?_)
  have C : Cx c cX10_dealt 11 RX10 g l (Rm 3 113) := C
  refine x_sub [0, 1, 2, 3] (lv' := [(0, .ref (g.2.2.2 + o)), (1, .ref (g.2.2.2 + v1)), (2, .int v2), (3, .int v3)]) rfl ?_
  unfold w_X10_dealt at hw
  refine x_iload_n C dX10_dealt_0 rfl rfl ?_
  refine x_iconst (v := (2 : Int32)) C dX10_dealt_1 (by decide) ?_
  refine x_idiv C dX10_dealt_2 (by decide) ?_
  obtain ⟨x13, ex13⟩ : ∃ z : Int32, z = (v2 / (2 : Int32)) := ⟨_, rfl⟩
  replace hw := hw x13 ex13
  refine x_topi ex13 ?_
  refine x_istore C dX10_dealt_3 (Nat.le_of_ble_eq_true rfl) ?_
  refine x_iload_n C dX10_dealt_5 rfl rfl ?_
  refine x_if_eq (tgt := 13) C dX10_dealt_6 (by decide) (fun h14 => ?_) (fun h14 => ?_)
  · replace hw := hw.1 h14
    refine x_iconst (v := (1 : Int32)) C dX10_dealt_13 (by decide) ?_
    exact x_sub [0, 1, 2, 4] rfl (ok_X10_dealt_b14 C r ho hv1 hw)
  · replace hw := hw.2 h14
    refine x_iconst (v := (-1 : Int32)) C dX10_dealt_9 (by decide) ?_
    refine x_goto (tgt := 14) C dX10_dealt_10 (by decide) ?_
    exact x_sub [0, 1, 2, 4] rfl (ok_X10_dealt_b14 C r ho hv1 hw)

def w_X5_isRare (o : Nat) (v1 : Int32) (v2 : Int32) (M : Mem) (q : Int32 → Mem → Prop) : Prop := ((((1 : Int64) <<< ((v2).toInt64 &&& 63)) < (((v1).toInt64 * ((M.1 o 4)).toInt64) * ((M.1 o 3)).toInt64) → q (0 : Int32) M) ∧ (¬ ((1 : Int64) <<< ((v2).toInt64 &&& 63)) < (((v1).toInt64 * ((M.1 o 4)).toInt64) * ((M.1 o 3)).toInt64) → q (1 : Int32) M))
set_option maxRecDepth 100000 in
set_option maxHeartbeats 4000000 in
theorem ok_X5_isRare {g : Gl} {l : Launch} {o : Nat} {v1 : Int32} {v2 : Int32} {M : Mem} {q : Int32 → Mem → Prop} (ho : sh o = .inl 5) (hw : w_X5_isRare o v1 v2 M q) : CtI g l yX5_isRare cX5_isRare 3 (some .boolean) 1 0 [.ref (g.2.2.2 + o), .int v1, .int v2] M q := by
  refine n_introI (by decide +kernel) (Nat.le_of_ble_eq_true rfl) (fun c C r => ?_)
  have C : Cx c cX5_isRare 3 RX5 g l (Rm 1 0) := C
  refine x_sub [0, 1, 2] (lv' := [(0, .ref (g.2.2.2 + o)), (1, .int v1), (2, .int v2)]) rfl ?_
  unfold w_X5_isRare at hw
  refine x_iload_n C dX5_isRare_0 rfl rfl ?_
  refine x_i2l C dX5_isRare_1 ?_
  refine x_aload_n C dX5_isRare_2 rfl rfl ?_
  refine n_getI C fl_X5_18 ho (fun _ _ => rfl) dX5_isRare_3 ?_
  refine x_i2l C dX5_isRare_6 ?_
  refine x_lmul C dX5_isRare_7 ?_
  refine x_aload_n C dX5_isRare_8 rfl rfl ?_
  refine n_getI C fl_X5_31 ho (fun _ _ => rfl) dX5_isRare_9 ?_
  refine x_i2l C dX5_isRare_12 ?_
  refine x_lmul C dX5_isRare_13 ?_
  refine x_lconst (v := (1 : Int64)) C dX5_isRare_14 (by decide) ?_
  refine x_iload_n C dX5_isRare_15 rfl rfl ?_
  refine x_lshl C dX5_isRare_16 ?_
  refine x_lc_gt (tgt := 25) C dX5_isRare_17 dX5_isRare_18 (by decide) (fun h1 => ?_) (fun h1 => ?_)
  · replace hw := hw.1 h1
    refine x_iconst (v := (0 : Int32)) C dX5_isRare_25 (by decide) ?_
    exact n_zreturn C r dX5_isRare_26 (Or.inl rfl) hw
  · replace hw := hw.2 h1
    refine x_iconst (v := (1 : Int32)) C dX5_isRare_21 (by decide) ?_
    refine x_goto (tgt := 26) C dX5_isRare_22 (by decide) ?_
    exact n_zreturn C r dX5_isRare_26 (Or.inr rfl) hw

def w_X5_judge_l115F (o : Nat) (v2 : Nat) (q : Int32 → Mem → Prop) (P115 : Int32 × Mem → Prop) (s : Int32 × Mem) : Prop := match s with
  | (v3, M) => w_X5_lastLook o M (fun (r2 : Int32) (M1 : Mem) => ((r2 ≤ v3 → w_X0_middle v2 M1 (fun (r5 : Int32) (M4 : Mem) => (((M4.1 o 5) < (iabs r5) → q (4 : Int32) M4) ∧ (¬ (M4.1 o 5) < (iabs r5) → q (3 : Int32) M4)))) ∧ (¬ r2 ≤ v3 → vp_in v3 16 ∧ w_X0_add v2 (M1.1 (o + 1) (v3).toNatClampNeg) M1 (fun (M8 : Mem) => ∀ x10 : Int32, x10 = v3 + (1 : Int32) → P115 (x10, M8)))))
def w_X5_judge_l115 (o : Nat) (v2 : Nat) (q : Int32 → Mem → Prop) (s : Int32 × Mem) : Prop := lfp (w_X5_judge_l115F o v2 q ) s
set_option maxRecDepth 100000 in
set_option maxHeartbeats 4000000 in
theorem ok_X5_judge_l115 {c : CtxT} {g : Gl} {l : Launch} {o : Nat} {v2 : Nat} {q : Int32 → Mem → Prop} {s : Int32 × Mem} (C : Cx c cX5_judge 4 RX5 g l (Rm 4 143)) (r : Rt c (some .int) (pI q) 0 0) (ho : sh o = .inl 5) (hv2 : sh v2 = .inl 0) (hw : w_X5_judge_l115 o v2 q s) : X c S0 115 [(0, .ref (g.2.2.2 + o)), (2, .ref (g.2.2.2 + v2)), (3, .int s.1)] [] (stat s.2) := hw (fun s => X c S0 115 [(0, .ref (g.2.2.2 + o)), (2, .ref (g.2.2.2 + v2)), (3, .int s.1)] [] (stat s.2)) (fun s hw => by
    obtain ⟨v3, M⟩ := s
    try dsimp only [w_X5_judge_l115F] at hw
    try dsimp only
    refine x_iload_n C dX5_judge_115 rfl rfl ?_
    refine x_aload_n C dX5_judge_116 rfl rfl ?_
    refine n_callVI ho rfl C (ok_X5_lastLook ho hw) mv_X5_47 rfl rfl ⟨Nat.le_of_ble_eq_true rfl, Nat.le_of_ble_eq_true rfl⟩ (Nat.le_of_ble_eq_true rfl) dX5_judge_117 (fun r2 M1 hw => ?_)
    refine x_icmp_ge (tgt := 139) C dX5_judge_120 (by decide) (fun h3 => ?_) (fun h3 => ?_)
    · replace hw := hw.1 h3
      refine x_aload_n C dX5_judge_139 rfl rfl ?_
      refine n_callVI hv2 rfl C (ok_X0_middle hv2 hw) mv_X5_60 rfl rfl ⟨Nat.le_of_ble_eq_true rfl, Nat.le_of_ble_eq_true rfl⟩ (Nat.le_of_ble_eq_true rfl) dX5_judge_140 (fun r5 M4 hw => ?_)
      refine x_mabs C ms_X5_63 (Nat.le_of_ble_eq_true rfl) (Nat.le_of_ble_eq_true rfl) (Nat.le_of_ble_eq_true rfl) dX5_judge_143 ?_
      refine x_aload_n C dX5_judge_146 rfl rfl ?_
      refine n_getI C fl_X5_34 ho (fun _ _ => rfl) dX5_judge_147 ?_
      refine x_icmp_gt (tgt := 157) C dX5_judge_150 (by decide) (fun h6 => ?_) (fun h6 => ?_)
      · replace hw := hw.1 h6
        refine x_iconst (v := (4 : Int32)) C dX5_judge_157 (by decide) ?_
        exact n_ireturn C r dX5_judge_158 hw
      · replace hw := hw.2 h6
        refine x_iconst (v := (3 : Int32)) C dX5_judge_153 (by decide) ?_
        refine x_goto (tgt := 158) C dX5_judge_154 (by decide) ?_
        exact n_ireturn C r dX5_judge_158 hw
    · replace hw := hw.2 h3
      refine x_aload_n C dX5_judge_123 rfl rfl ?_
      refine x_aload_n C dX5_judge_124 rfl rfl ?_
      refine n_getS (dd := 1) C fl_X5_9 ho (fun _ _ => rfl) rfl dX5_judge_125 ?_
      refine x_iload_n C dX5_judge_128 rfl rfl ?_
      obtain ⟨h7, hw⟩ := hw
      refine a_iald C (ss_5_0 ho) (sl_5_0 ho) h7 dX5_judge_129 ?_
      refine n_callVV hv2 rfl C (ok_X0_add hv2 hw) mv_X5_56 rfl rfl ⟨Nat.le_of_ble_eq_true rfl, Nat.le_of_ble_eq_true rfl⟩ (Nat.le_of_ble_eq_true rfl) dX5_judge_130 (fun M8 hw => ?_)
      obtain ⟨x10, ex10⟩ : ∃ z : Int32, z = v3 + (1 : Int32) := ⟨_, rfl⟩
      replace hw := hw x10 ex10
      refine x_iinc (v := x10) C dX5_judge_133 rfl ex10.symm (Nat.le_of_ble_eq_true rfl) ?_
      refine x_goto (tgt := 115) C dX5_judge_136 (by decide) ?_
      exact x_sub [0, 2, 3] rfl hw)
def w_X5_judge_b89 (o : Nat) (v2 : Nat) (M : Mem) (q : Int32 → Mem → Prop) : Prop := (((M.1 o 3) = 0 → q (0 : Int32) M) ∧ (¬ (M.1 o 3) = 0 → w_X5_lastLook o M (fun (r13 : Int32) (M12 : Mem) => ((r13 ≤ (M.1 o 1) → w_X0_clear v2 M12 (fun (M15 : Mem) => w_X5_judge_l115 o v2 q ((0 : Int32), M15))) ∧ (¬ r13 ≤ (M.1 o 1) → q (0 : Int32) M12)))))
set_option maxRecDepth 100000 in
set_option maxHeartbeats 4000000 in
theorem ok_X5_judge_b89 {c : CtxT} {g : Gl} {l : Launch} {o : Nat} {v2 : Nat} {q : Int32 → Mem → Prop} {M : Mem} (C : Cx c cX5_judge 4 RX5 g l (Rm 4 143)) (r : Rt c (some .int) (pI q) 0 0) (ho : sh o = .inl 5) (hv2 : sh v2 = .inl 0) (hw : w_X5_judge_b89 o v2 M q ) : X c S0 89 [(0, .ref (g.2.2.2 + o)), (2, .ref (g.2.2.2 + v2))] [] (stat M) := by
  unfold w_X5_judge_b89 at hw
  refine x_aload_n C dX5_judge_89 rfl rfl ?_
  refine n_getI C fl_X5_31 ho (fun _ _ => rfl) dX5_judge_90 ?_
  refine x_if_eq (tgt := 107) C dX5_judge_93 (by decide) (fun h11 => ?_) (fun h11 => ?_)
  · replace hw := hw.1 h11
    refine x_iconst (v := (0 : Int32)) C dX5_judge_107 (by decide) ?_
    exact n_ireturn C r dX5_judge_108 hw
  · replace hw := hw.2 h11
    refine x_aload_n C dX5_judge_96 rfl rfl ?_
    refine n_getI C fl_X5_28 ho (fun _ _ => rfl) dX5_judge_97 ?_
    refine x_aload_n C dX5_judge_100 rfl rfl ?_
    refine n_callVI ho rfl C (ok_X5_lastLook ho hw) mv_X5_47 rfl rfl ⟨Nat.le_of_ble_eq_true rfl, Nat.le_of_ble_eq_true rfl⟩ (Nat.le_of_ble_eq_true rfl) dX5_judge_101 (fun r13 M12 hw => ?_)
    refine x_icmp_ge (tgt := 109) C dX5_judge_104 (by decide) (fun h14 => ?_) (fun h14 => ?_)
    · replace hw := hw.1 h14
      refine x_aload_n C dX5_judge_109 rfl rfl ?_
      refine n_callVV hv2 rfl C (ok_X0_clear hv2 hw) mv_X5_51 rfl rfl ⟨Nat.le_of_ble_eq_true rfl, Nat.le_of_ble_eq_true rfl⟩ (Nat.le_of_ble_eq_true rfl) dX5_judge_110 (fun M15 hw => ?_)
      refine x_iconst (v := (0 : Int32)) C dX5_judge_113 (by decide) ?_
      refine x_istore_n C dX5_judge_114 rfl (Nat.le_of_ble_eq_true rfl) ?_
      exact x_sub [0, 2, 3] rfl (ok_X5_judge_l115 C r ho hv2 hw)
    · replace hw := hw.2 h14
      refine x_iconst (v := (0 : Int32)) C dX5_judge_107 (by decide) ?_
      exact n_ireturn C r dX5_judge_108 hw
def w_X5_judge_l2F (o : Nat) (v1 : Nat) (v2 : Nat) (q : Int32 → Mem → Prop) (P2 : Int32 × Mem → Prop) (s : Int32 × Mem) : Prop := match s with
  | (v3, M) => (((M.1 o 3) ≤ v3 → w_X5_judge_b89 o v2 M q) ∧ (¬ (M.1 o 3) ≤ v3 → vp_in v3 8 ∧ (((M.1 o 1) < (M.1 (o + 2) (v3).toNatClampNeg) → w_X5_judge_b89 o v2 M q) ∧ (¬ (M.1 o 1) < (M.1 (o + 2) (v3).toNatClampNeg) → vp_in v3 8 ∧ w_X10_dealt v1 (o + 1) (M.1 (o + 2) (v3).toNatClampNeg) (0 : Int32) M (fun (r22 : Int32) (M21 : Mem) => vp_in v3 8 ∧ w_X5_isRare o r22 (M21.1 (o + 2) (v3).toNatClampNeg) M21 (fun (r25 : Int32) (M24 : Mem) => ((r25 = 0 → vp_in v3 8 ∧ w_X10_dealt v1 (o + 1) (M24.1 (o + 2) (v3).toNatClampNeg) (1 : Int32) M24 (fun (r29 : Int32) (M28 : Mem) => vp_in v3 8 ∧ w_X5_isRare o r29 (M28.1 (o + 2) (v3).toNatClampNeg) M28 (fun (r32 : Int32) (M31 : Mem) => ((r32 = 0 → ∀ x34 : Int32, x34 = v3 + (1 : Int32) → P2 (x34, M31)) ∧ (¬ r32 = 0 → q (2 : Int32) M31))))) ∧ (¬ r25 = 0 → q (1 : Int32) M24))))))))
def w_X5_judge_l2 (o : Nat) (v1 : Nat) (v2 : Nat) (q : Int32 → Mem → Prop) (s : Int32 × Mem) : Prop := lfp (w_X5_judge_l2F o v1 v2 q ) s
set_option maxRecDepth 100000 in
set_option maxHeartbeats 4000000 in
theorem ok_X5_judge_l2 {c : CtxT} {g : Gl} {l : Launch} {o : Nat} {v1 : Nat} {v2 : Nat} {q : Int32 → Mem → Prop} {s : Int32 × Mem} (C : Cx c cX5_judge 4 RX5 g l (Rm 4 143)) (r : Rt c (some .int) (pI q) 0 0) (ho : sh o = .inl 5) (hv1 : sh v1 = .inl 10) (hv2 : sh v2 = .inl 0) (hw : w_X5_judge_l2 o v1 v2 q s) : X c S0 2 [(0, .ref (g.2.2.2 + o)), (1, .ref (g.2.2.2 + v1)), (2, .ref (g.2.2.2 + v2)), (3, .int s.1)] [] (stat s.2) := hw (fun s => X c S0 2 [(0, .ref (g.2.2.2 + o)), (1, .ref (g.2.2.2 + v1)), (2, .ref (g.2.2.2 + v2)), (3, .int s.1)] [] (stat s.2)) (fun s hw => by
    obtain ⟨v3, M⟩ := s
    try dsimp only [w_X5_judge_l2F] at hw
    try dsimp only
    refine x_iload_n C dX5_judge_2 rfl rfl ?_
    refine x_aload_n C dX5_judge_3 rfl rfl ?_
    refine n_getI C fl_X5_31 ho (fun _ _ => rfl) dX5_judge_4 ?_
    refine x_icmp_ge (tgt := 89) C dX5_judge_7 (by decide) (fun h17 => ?_) (fun h17 => ?_)
    · replace hw := hw.1 h17
      exact x_sub [0, 2] rfl (ok_X5_judge_b89 C r ho hv2 hw)
    · replace hw := hw.2 h17
      refine x_aload_n C dX5_judge_10 rfl rfl ?_
      refine n_getS (dd := 2) C fl_X5_15 ho (fun _ _ => rfl) rfl dX5_judge_11 ?_
      refine x_iload_n C dX5_judge_14 rfl rfl ?_
      obtain ⟨h18, hw⟩ := hw
      refine a_iald C (ss_5_2 ho) (sl_5_2 ho) h18 dX5_judge_15 ?_
      refine x_aload_n C dX5_judge_16 rfl rfl ?_
      refine n_getI C fl_X5_28 ho (fun _ _ => rfl) dX5_judge_17 ?_
      refine x_icmp_gt (tgt := 89) C dX5_judge_20 (by decide) (fun h19 => ?_) (fun h19 => ?_)
      · replace hw := hw.1 h19
        exact x_sub [0, 2] rfl (ok_X5_judge_b89 C r ho hv2 hw)
      · replace hw := hw.2 h19
        refine x_aload_n C dX5_judge_23 rfl rfl ?_
        refine x_aload_n C dX5_judge_24 rfl rfl ?_
        refine x_aload_n C dX5_judge_25 rfl rfl ?_
        refine n_getS (dd := 1) C fl_X5_9 ho (fun _ _ => rfl) rfl dX5_judge_26 ?_
        refine x_aload_n C dX5_judge_29 rfl rfl ?_
        refine n_getS (dd := 2) C fl_X5_15 ho (fun _ _ => rfl) rfl dX5_judge_30 ?_
        refine x_iload_n C dX5_judge_33 rfl rfl ?_
        obtain ⟨h20, hw⟩ := hw
        refine a_iald C (ss_5_2 ho) (sl_5_2 ho) h20 dX5_judge_34 ?_
        refine x_iconst (v := (0 : Int32)) C dX5_judge_35 (by decide) ?_
        refine n_callVI hv1 rfl C (ok_X10_dealt hv1 (ss_5_0 ho) hw) mv_X5_37 rfl rfl ⟨Nat.le_of_ble_eq_true rfl, Nat.le_of_ble_eq_true rfl⟩ (Nat.le_of_ble_eq_true rfl) dX5_judge_36 (fun r22 M21 hw => ?_)
        refine x_aload_n C dX5_judge_39 rfl rfl ?_
        refine n_getS (dd := 2) C fl_X5_15 ho (fun _ _ => rfl) rfl dX5_judge_40 ?_
        refine x_iload_n C dX5_judge_43 rfl rfl ?_
        obtain ⟨h23, hw⟩ := hw
        refine a_iald C (ss_5_2 ho) (sl_5_2 ho) h23 dX5_judge_44 ?_
        refine n_callVI ho rfl C (ok_X5_isRare ho hw) mv_X5_43 rfl rfl ⟨Nat.le_of_ble_eq_true rfl, Nat.le_of_ble_eq_true rfl⟩ (Nat.le_of_ble_eq_true rfl) dX5_judge_45 (fun r25 M24 hw => ?_)
        refine x_if_eq (tgt := 53) C dX5_judge_48 (by decide) (fun h26 => ?_) (fun h26 => ?_)
        · replace hw := hw.1 h26
          refine x_aload_n C dX5_judge_53 rfl rfl ?_
          refine x_aload_n C dX5_judge_54 rfl rfl ?_
          refine x_aload_n C dX5_judge_55 rfl rfl ?_
          refine n_getS (dd := 1) C fl_X5_9 ho (fun _ _ => rfl) rfl dX5_judge_56 ?_
          refine x_aload_n C dX5_judge_59 rfl rfl ?_
          refine n_getS (dd := 2) C fl_X5_15 ho (fun _ _ => rfl) rfl dX5_judge_60 ?_
          refine x_iload_n C dX5_judge_63 rfl rfl ?_
          obtain ⟨h27, hw⟩ := hw
          refine a_iald C (ss_5_2 ho) (sl_5_2 ho) h27 dX5_judge_64 ?_
          refine x_iconst (v := (1 : Int32)) C dX5_judge_65 (by decide) ?_
          refine n_callVI hv1 rfl C (ok_X10_dealt hv1 (ss_5_0 ho) hw) mv_X5_37 rfl rfl ⟨Nat.le_of_ble_eq_true rfl, Nat.le_of_ble_eq_true rfl⟩ (Nat.le_of_ble_eq_true rfl) dX5_judge_66 (fun r29 M28 hw => ?_)
          refine x_aload_n C dX5_judge_69 rfl rfl ?_
          refine n_getS (dd := 2) C fl_X5_15 ho (fun _ _ => rfl) rfl dX5_judge_70 ?_
          refine x_iload_n C dX5_judge_73 rfl rfl ?_
          obtain ⟨h30, hw⟩ := hw
          refine a_iald C (ss_5_2 ho) (sl_5_2 ho) h30 dX5_judge_74 ?_
          refine n_callVI ho rfl C (ok_X5_isRare ho hw) mv_X5_43 rfl rfl ⟨Nat.le_of_ble_eq_true rfl, Nat.le_of_ble_eq_true rfl⟩ (Nat.le_of_ble_eq_true rfl) dX5_judge_75 (fun r32 M31 hw => ?_)
          refine x_if_eq (tgt := 83) C dX5_judge_78 (by decide) (fun h33 => ?_) (fun h33 => ?_)
          · replace hw := hw.1 h33
            obtain ⟨x34, ex34⟩ : ∃ z : Int32, z = v3 + (1 : Int32) := ⟨_, rfl⟩
            replace hw := hw x34 ex34
            refine x_iinc (v := x34) C dX5_judge_83 rfl ex34.symm (Nat.le_of_ble_eq_true rfl) ?_
            refine x_goto (tgt := 2) C dX5_judge_86 (by decide) ?_
            exact x_sub [0, 1, 2, 3] rfl hw
          · replace hw := hw.2 h33
            refine x_iconst (v := (2 : Int32)) C dX5_judge_81 (by decide) ?_
            exact n_ireturn C r dX5_judge_82 hw
        · replace hw := hw.2 h26
          refine x_iconst (v := (1 : Int32)) C dX5_judge_51 (by decide) ?_
          exact n_ireturn C r dX5_judge_52 hw)
def w_X5_judge (o : Nat) (v1 : Nat) (v2 : Nat) (M : Mem) (q : Int32 → Mem → Prop) : Prop := w_X5_judge_l2 o v1 v2 q ((0 : Int32), M)
set_option maxRecDepth 100000 in
set_option maxHeartbeats 4000000 in
theorem ok_X5_judge {g : Gl} {l : Launch} {o : Nat} {v1 : Nat} {v2 : Nat} {M : Mem} {q : Int32 → Mem → Prop} (ho : sh o = .inl 5) (hv1 : sh v1 = .inl 10) (hv2 : sh v2 = .inl 0) (hw : w_X5_judge o v1 v2 M q) : CtI g l yX5_judge cX5_judge 4 (some .int) 4 143 [.ref (g.2.2.2 + o), .ref (g.2.2.2 + v1), .ref (g.2.2.2 + v2)] M q := by
  refine n_introI (by decide +kernel) (Nat.le_of_ble_eq_true rfl) (fun c C r => ?_)
  have C : Cx c cX5_judge 4 RX5 g l (Rm 4 143) := C
  refine x_sub [0, 1, 2] (lv' := [(0, .ref (g.2.2.2 + o)), (1, .ref (g.2.2.2 + v1)), (2, .ref (g.2.2.2 + v2))]) rfl ?_
  unfold w_X5_judge at hw
  refine x_iconst (v := (0 : Int32)) C dX5_judge_0 (by decide) ?_
  refine x_istore_n C dX5_judge_1 rfl (Nat.le_of_ble_eq_true rfl) ?_
  exact x_sub [0, 1, 2, 3] rfl (ok_X5_judge_l2 C r ho hv1 hv2 hw)

def w_X6_takeFrom (o : Nat) (v1 : Nat) (M : Mem) (q : Mem → Prop) : Prop := ∀ M1 : Mem, M1 = uI M o 0 (M.1 v1 0) → ∀ M2 : Mem, M2 = cpI M1 (v1 + 1) (o + 1) 0 0 6 → ∀ M3 : Mem, M3 = cpI M2 (v1 + 2) (o + 2) 0 0 960 → ∀ M4 : Mem, M4 = uI M3 o 3 (M3.1 v1 3) → ∀ M5 : Mem, M5 = cpI M4 (v1 + 3) (o + 3) 0 0 10 → ∀ M6 : Mem, M6 = cpI M5 (v1 + 4) (o + 4) 0 0 10 → ∀ M7 : Mem, M7 = cpI M6 (v1 + 5) (o + 5) 0 0 40 → ∀ M8 : Mem, M8 = uI M7 o 7 (M7.1 v1 7) → ∀ M9 : Mem, M9 = cpI M8 (v1 + 6) (o + 6) 0 0 24 → ∀ M10 : Mem, M10 = cpI M9 (v1 + 7) (o + 7) 0 0 24 → ∀ M11 : Mem, M11 = uI M10 o 10 (M10.1 v1 10) → ∀ M12 : Mem, M12 = cpI M11 (v1 + 8) (o + 8) 0 0 32 → q M12
set_option maxRecDepth 100000 in
set_option maxHeartbeats 4000000 in
theorem ok_X6_takeFrom {g : Gl} {l : Launch} {o : Nat} {v1 : Nat} {M : Mem} {q : Mem → Prop} (ho : sh o = .inl 6) (hv1 : sh v1 = .inl 6) (hw : w_X6_takeFrom o v1 M q) : CtV g l yX6_takeFrom cX6_takeFrom 2 none 1 60 [.ref (g.2.2.2 + o), .ref (g.2.2.2 + v1)] M q := by
  refine n_introV (by decide +kernel) (Nat.le_of_ble_eq_true rfl) (fun c C r => ?_)
  have C : Cx c cX6_takeFrom 2 RX6 g l (Rm 1 60) := C
  refine x_sub [0, 1] (lv' := [(0, .ref (g.2.2.2 + o)), (1, .ref (g.2.2.2 + v1))]) rfl ?_
  unfold w_X6_takeFrom at hw
  refine x_aload_n C dX6_takeFrom_0 rfl rfl ?_
  refine x_aload_n C dX6_takeFrom_1 rfl rfl ?_
  refine n_getI C fl_X6_36 hv1 (fun _ _ => rfl) dX6_takeFrom_2 ?_
  obtain ⟨M1, eM1⟩ : ∃ z : Mem, z = uI M o 0 (M.1 v1 0) := ⟨_, rfl⟩
  replace hw := hw M1 eM1
  refine m_putI C fp_X6_36 ho (fun _ _ => rfl) rfl rfl eM1 dX6_takeFrom_5 ?_
  refine x_aload_n C dX6_takeFrom_8 rfl rfl ?_
  refine n_getS (dd := 1) C fl_X6_9 hv1 (fun _ _ => rfl) rfl dX6_takeFrom_9 ?_
  refine x_iconst (v := (0 : Int32)) C dX6_takeFrom_12 (by decide) ?_
  refine x_aload_n C dX6_takeFrom_13 rfl rfl ?_
  refine n_getS (dd := 1) C fl_X6_9 ho (fun _ _ => rfl) rfl dX6_takeFrom_14 ?_
  refine x_iconst (v := (0 : Int32)) C dX6_takeFrom_17 (by decide) ?_
  refine x_aload_n C dX6_takeFrom_18 rfl rfl ?_
  refine n_getS (dd := 1) C fl_X6_9 ho (fun _ _ => rfl) rfl dX6_takeFrom_19 ?_
  refine m_alenL (v := (6 : Int32)) C (ss_6_1 ho) (by decide) (by rw [(sl_6_1 ho)]; decide) dX6_takeFrom_22 ?_
  obtain ⟨M2, eM2⟩ : ∃ z : Mem, z = cpI M1 (v1 + 1) (o + 1) 0 0 6 := ⟨_, rfl⟩
  replace hw := hw M2 eM2
  refine a_copy C ac_X6_40 ac_native ac_static ac_init (ss_6_1 hv1) (ss_6_1 ho) (sl_6_1 hv1) (sl_6_1 ho) (by decide) (by decide) (by decide) (by decide) (by decide) (by decide) (by decide) (by decide) eM2 (Nat.le_of_ble_eq_true rfl) (Nat.le_of_ble_eq_true rfl) (Nat.le_of_ble_eq_true rfl) dX6_takeFrom_23 ?_
  refine x_aload_n C dX6_takeFrom_26 rfl rfl ?_
  refine n_getS (dd := 2) C fl_X6_15 hv1 (fun _ _ => rfl) rfl dX6_takeFrom_27 ?_
  refine x_iconst (v := (0 : Int32)) C dX6_takeFrom_30 (by decide) ?_
  refine x_aload_n C dX6_takeFrom_31 rfl rfl ?_
  refine n_getS (dd := 2) C fl_X6_15 ho (fun _ _ => rfl) rfl dX6_takeFrom_32 ?_
  refine x_iconst (v := (0 : Int32)) C dX6_takeFrom_35 (by decide) ?_
  refine x_aload_n C dX6_takeFrom_36 rfl rfl ?_
  refine n_getS (dd := 2) C fl_X6_15 ho (fun _ _ => rfl) rfl dX6_takeFrom_37 ?_
  refine m_alenL (v := (960 : Int32)) C (ss_6_2 ho) (by decide) (by rw [(sl_6_2 ho)]; decide) dX6_takeFrom_40 ?_
  obtain ⟨M3, eM3⟩ : ∃ z : Mem, z = cpI M2 (v1 + 2) (o + 2) 0 0 960 := ⟨_, rfl⟩
  replace hw := hw M3 eM3
  refine a_copy C ac_X6_40 ac_native ac_static ac_init (ss_6_2 hv1) (ss_6_2 ho) (sl_6_2 hv1) (sl_6_2 ho) (by decide) (by decide) (by decide) (by decide) (by decide) (by decide) (by decide) (by decide) eM3 (Nat.le_of_ble_eq_true rfl) (Nat.le_of_ble_eq_true rfl) (Nat.le_of_ble_eq_true rfl) dX6_takeFrom_41 ?_
  refine x_aload_n C dX6_takeFrom_44 rfl rfl ?_
  refine x_aload_n C dX6_takeFrom_45 rfl rfl ?_
  refine n_getI C fl_X6_46 hv1 (fun _ _ => rfl) dX6_takeFrom_46 ?_
  obtain ⟨M4, eM4⟩ : ∃ z : Mem, z = uI M3 o 3 (M3.1 v1 3) := ⟨_, rfl⟩
  replace hw := hw M4 eM4
  refine m_putI C fp_X6_46 ho (fun _ _ => rfl) rfl rfl eM4 dX6_takeFrom_49 ?_
  refine x_aload_n C dX6_takeFrom_52 rfl rfl ?_
  refine n_getS (dd := 3) C fl_X6_18 hv1 (fun _ _ => rfl) rfl dX6_takeFrom_53 ?_
  refine x_iconst (v := (0 : Int32)) C dX6_takeFrom_56 (by decide) ?_
  refine x_aload_n C dX6_takeFrom_57 rfl rfl ?_
  refine n_getS (dd := 3) C fl_X6_18 ho (fun _ _ => rfl) rfl dX6_takeFrom_58 ?_
  refine x_iconst (v := (0 : Int32)) C dX6_takeFrom_61 (by decide) ?_
  refine x_aload_n C dX6_takeFrom_62 rfl rfl ?_
  refine n_getS (dd := 3) C fl_X6_18 ho (fun _ _ => rfl) rfl dX6_takeFrom_63 ?_
  refine m_alenL (v := (10 : Int32)) C (ss_6_4 ho) (by decide) (by rw [(sl_6_4 ho)]; decide) dX6_takeFrom_66 ?_
  obtain ⟨M5, eM5⟩ : ∃ z : Mem, z = cpI M4 (v1 + 3) (o + 3) 0 0 10 := ⟨_, rfl⟩
  replace hw := hw M5 eM5
  refine a_copy C ac_X6_40 ac_native ac_static ac_init (ss_6_4 hv1) (ss_6_4 ho) (sl_6_4 hv1) (sl_6_4 ho) (by decide) (by decide) (by decide) (by decide) (by decide) (by decide) (by decide) (by decide) eM5 (Nat.le_of_ble_eq_true rfl) (Nat.le_of_ble_eq_true rfl) (Nat.le_of_ble_eq_true rfl) dX6_takeFrom_67 ?_
  refine x_aload_n C dX6_takeFrom_70 rfl rfl ?_
  refine n_getS (dd := 4) C fl_X6_21 hv1 (fun _ _ => rfl) rfl dX6_takeFrom_71 ?_
  refine x_iconst (v := (0 : Int32)) C dX6_takeFrom_74 (by decide) ?_
  refine x_aload_n C dX6_takeFrom_75 rfl rfl ?_
  refine n_getS (dd := 4) C fl_X6_21 ho (fun _ _ => rfl) rfl dX6_takeFrom_76 ?_
  refine x_iconst (v := (0 : Int32)) C dX6_takeFrom_79 (by decide) ?_
  refine x_aload_n C dX6_takeFrom_80 rfl rfl ?_
  refine n_getS (dd := 4) C fl_X6_21 ho (fun _ _ => rfl) rfl dX6_takeFrom_81 ?_
  refine m_alenL (v := (10 : Int32)) C (ss_6_5 ho) (by decide) (by rw [(sl_6_5 ho)]; decide) dX6_takeFrom_84 ?_
  obtain ⟨M6, eM6⟩ : ∃ z : Mem, z = cpI M5 (v1 + 4) (o + 4) 0 0 10 := ⟨_, rfl⟩
  replace hw := hw M6 eM6
  refine a_copy C ac_X6_40 ac_native ac_static ac_init (ss_6_5 hv1) (ss_6_5 ho) (sl_6_5 hv1) (sl_6_5 ho) (by decide) (by decide) (by decide) (by decide) (by decide) (by decide) (by decide) (by decide) eM6 (Nat.le_of_ble_eq_true rfl) (Nat.le_of_ble_eq_true rfl) (Nat.le_of_ble_eq_true rfl) dX6_takeFrom_85 ?_
  refine x_aload_n C dX6_takeFrom_88 rfl rfl ?_
  refine n_getS (dd := 5) C fl_X6_24 hv1 (fun _ _ => rfl) rfl dX6_takeFrom_89 ?_
  refine x_iconst (v := (0 : Int32)) C dX6_takeFrom_92 (by decide) ?_
  refine x_aload_n C dX6_takeFrom_93 rfl rfl ?_
  refine n_getS (dd := 5) C fl_X6_24 ho (fun _ _ => rfl) rfl dX6_takeFrom_94 ?_
  refine x_iconst (v := (0 : Int32)) C dX6_takeFrom_97 (by decide) ?_
  refine x_aload_n C dX6_takeFrom_98 rfl rfl ?_
  refine n_getS (dd := 5) C fl_X6_24 ho (fun _ _ => rfl) rfl dX6_takeFrom_99 ?_
  refine m_alenL (v := (40 : Int32)) C (ss_6_6 ho) (by decide) (by rw [(sl_6_6 ho)]; decide) dX6_takeFrom_102 ?_
  obtain ⟨M7, eM7⟩ : ∃ z : Mem, z = cpI M6 (v1 + 5) (o + 5) 0 0 40 := ⟨_, rfl⟩
  replace hw := hw M7 eM7
  refine a_copy C ac_X6_40 ac_native ac_static ac_init (ss_6_6 hv1) (ss_6_6 ho) (sl_6_6 hv1) (sl_6_6 ho) (by decide) (by decide) (by decide) (by decide) (by decide) (by decide) (by decide) (by decide) eM7 (Nat.le_of_ble_eq_true rfl) (Nat.le_of_ble_eq_true rfl) (Nat.le_of_ble_eq_true rfl) dX6_takeFrom_103 ?_
  refine x_aload_n C dX6_takeFrom_106 rfl rfl ?_
  refine x_aload_n C dX6_takeFrom_107 rfl rfl ?_
  refine n_getI C fl_X6_49 hv1 (fun _ _ => rfl) dX6_takeFrom_108 ?_
  obtain ⟨M8, eM8⟩ : ∃ z : Mem, z = uI M7 o 7 (M7.1 v1 7) := ⟨_, rfl⟩
  replace hw := hw M8 eM8
  refine m_putI C fp_X6_49 ho (fun _ _ => rfl) rfl rfl eM8 dX6_takeFrom_111 ?_
  refine x_aload_n C dX6_takeFrom_114 rfl rfl ?_
  refine n_getS (dd := 6) C fl_X6_27 hv1 (fun _ _ => rfl) rfl dX6_takeFrom_115 ?_
  refine x_iconst (v := (0 : Int32)) C dX6_takeFrom_118 (by decide) ?_
  refine x_aload_n C dX6_takeFrom_119 rfl rfl ?_
  refine n_getS (dd := 6) C fl_X6_27 ho (fun _ _ => rfl) rfl dX6_takeFrom_120 ?_
  refine x_iconst (v := (0 : Int32)) C dX6_takeFrom_123 (by decide) ?_
  refine x_aload_n C dX6_takeFrom_124 rfl rfl ?_
  refine n_getS (dd := 6) C fl_X6_27 ho (fun _ _ => rfl) rfl dX6_takeFrom_125 ?_
  refine m_alenL (v := (24 : Int32)) C (ss_6_8 ho) (by decide) (by rw [(sl_6_8 ho)]; decide) dX6_takeFrom_128 ?_
  obtain ⟨M9, eM9⟩ : ∃ z : Mem, z = cpI M8 (v1 + 6) (o + 6) 0 0 24 := ⟨_, rfl⟩
  replace hw := hw M9 eM9
  refine a_copy C ac_X6_40 ac_native ac_static ac_init (ss_6_8 hv1) (ss_6_8 ho) (sl_6_8 hv1) (sl_6_8 ho) (by decide) (by decide) (by decide) (by decide) (by decide) (by decide) (by decide) (by decide) eM9 (Nat.le_of_ble_eq_true rfl) (Nat.le_of_ble_eq_true rfl) (Nat.le_of_ble_eq_true rfl) dX6_takeFrom_129 ?_
  refine x_aload_n C dX6_takeFrom_132 rfl rfl ?_
  refine n_getS (dd := 7) C fl_X6_30 hv1 (fun _ _ => rfl) rfl dX6_takeFrom_133 ?_
  refine x_iconst (v := (0 : Int32)) C dX6_takeFrom_136 (by decide) ?_
  refine x_aload_n C dX6_takeFrom_137 rfl rfl ?_
  refine n_getS (dd := 7) C fl_X6_30 ho (fun _ _ => rfl) rfl dX6_takeFrom_138 ?_
  refine x_iconst (v := (0 : Int32)) C dX6_takeFrom_141 (by decide) ?_
  refine x_aload_n C dX6_takeFrom_142 rfl rfl ?_
  refine n_getS (dd := 7) C fl_X6_30 ho (fun _ _ => rfl) rfl dX6_takeFrom_143 ?_
  refine m_alenL (v := (24 : Int32)) C (ss_6_9 ho) (by decide) (by rw [(sl_6_9 ho)]; decide) dX6_takeFrom_146 ?_
  obtain ⟨M10, eM10⟩ : ∃ z : Mem, z = cpI M9 (v1 + 7) (o + 7) 0 0 24 := ⟨_, rfl⟩
  replace hw := hw M10 eM10
  refine a_copy C ac_X6_40 ac_native ac_static ac_init (ss_6_9 hv1) (ss_6_9 ho) (sl_6_9 hv1) (sl_6_9 ho) (by decide) (by decide) (by decide) (by decide) (by decide) (by decide) (by decide) (by decide) eM10 (Nat.le_of_ble_eq_true rfl) (Nat.le_of_ble_eq_true rfl) (Nat.le_of_ble_eq_true rfl) dX6_takeFrom_147 ?_
  refine x_aload_n C dX6_takeFrom_150 rfl rfl ?_
  refine x_aload_n C dX6_takeFrom_151 rfl rfl ?_
  refine n_getI C fl_X6_52 hv1 (fun _ _ => rfl) dX6_takeFrom_152 ?_
  obtain ⟨M11, eM11⟩ : ∃ z : Mem, z = uI M10 o 10 (M10.1 v1 10) := ⟨_, rfl⟩
  replace hw := hw M11 eM11
  refine m_putI C fp_X6_52 ho (fun _ _ => rfl) rfl rfl eM11 dX6_takeFrom_155 ?_
  refine x_aload_n C dX6_takeFrom_158 rfl rfl ?_
  refine n_getS (dd := 8) C fl_X6_33 hv1 (fun _ _ => rfl) rfl dX6_takeFrom_159 ?_
  refine x_iconst (v := (0 : Int32)) C dX6_takeFrom_162 (by decide) ?_
  refine x_aload_n C dX6_takeFrom_163 rfl rfl ?_
  refine n_getS (dd := 8) C fl_X6_33 ho (fun _ _ => rfl) rfl dX6_takeFrom_164 ?_
  refine x_iconst (v := (0 : Int32)) C dX6_takeFrom_167 (by decide) ?_
  refine x_aload_n C dX6_takeFrom_168 rfl rfl ?_
  refine n_getS (dd := 8) C fl_X6_33 ho (fun _ _ => rfl) rfl dX6_takeFrom_169 ?_
  refine m_alenL (v := (32 : Int32)) C (ss_6_11 ho) (by decide) (by rw [(sl_6_11 ho)]; decide) dX6_takeFrom_172 ?_
  obtain ⟨M12, eM12⟩ : ∃ z : Mem, z = cpI M11 (v1 + 8) (o + 8) 0 0 32 := ⟨_, rfl⟩
  replace hw := hw M12 eM12
  refine a_copy C ac_X6_40 ac_native ac_static ac_init (ss_6_11 hv1) (ss_6_11 ho) (sl_6_11 hv1) (sl_6_11 ho) (by decide) (by decide) (by decide) (by decide) (by decide) (by decide) (by decide) (by decide) eM12 (Nat.le_of_ble_eq_true rfl) (Nat.le_of_ble_eq_true rfl) (Nat.le_of_ble_eq_true rfl) dX6_takeFrom_173 ?_
  exact n_vreturn C r dX6_takeFrom_176 hw

def w_X6_addProgram (o : Nat) (M : Mem) (q : Int32 → Mem → Prop) : Prop := (((M.1 o 0) < (6 : Int32) → vp_in (M.1 o 0) 6 ∧ ∀ M3 : Mem, M3 = uI M (o + 1) ((M.1 o 0)).toNatClampNeg (0 : Int32) → ∀ M4 : Mem, M4 = uI M3 o 0 ((M3.1 o 0) + (1 : Int32)) → q ((M4.1 o 0) - (1 : Int32)) M4) ∧ (¬ (M.1 o 0) < (6 : Int32) → q (-4 : Int32) M))
set_option maxRecDepth 100000 in
set_option maxHeartbeats 4000000 in
theorem ok_X6_addProgram {g : Gl} {l : Launch} {o : Nat} {M : Mem} {q : Int32 → Mem → Prop} (ho : sh o = .inl 6) (hw : w_X6_addProgram o M q) : CtI g l yX6_addProgram cX6_addProgram 1 (some .int) 1 0 [.ref (g.2.2.2 + o)] M q := by
  refine n_introI (by decide +kernel) (Nat.le_of_ble_eq_true rfl) (fun c C r => ?_)
  have C : Cx c cX6_addProgram 1 RX6 g l (Rm 1 0) := C
  refine x_sub [0] (lv' := [(0, .ref (g.2.2.2 + o))]) rfl ?_
  unfold w_X6_addProgram at hw
  refine x_aload_n C dX6_addProgram_0 rfl rfl ?_
  refine n_getI C fl_X6_36 ho (fun _ _ => rfl) dX6_addProgram_1 ?_
  refine x_bipush (v := (6 : Int32)) C dX6_addProgram_4 (by decide) ?_
  refine x_icmp_lt (tgt := 12) C dX6_addProgram_6 (by decide) (fun h1 => ?_) (fun h1 => ?_)
  · replace hw := hw.1 h1
    refine x_aload_n C dX6_addProgram_12 rfl rfl ?_
    refine n_getS (dd := 1) C fl_X6_9 ho (fun _ _ => rfl) rfl dX6_addProgram_13 ?_
    refine x_aload_n C dX6_addProgram_16 rfl rfl ?_
    refine n_getI C fl_X6_36 ho (fun _ _ => rfl) dX6_addProgram_17 ?_
    refine x_iconst (v := (0 : Int32)) C dX6_addProgram_20 (by decide) ?_
    obtain ⟨h2, hw⟩ := hw
    obtain ⟨M3, eM3⟩ : ∃ z : Mem, z = uI M (o + 1) ((M.1 o 0)).toNatClampNeg (0 : Int32) := ⟨_, rfl⟩
    replace hw := hw M3 eM3
    refine a_iast C (ss_6_1 ho) (sl_6_1 ho) rfl h2 eM3 dX6_addProgram_21 ?_
    refine x_aload_n C dX6_addProgram_22 rfl rfl ?_
    refine x_dup C dX6_addProgram_23 rfl ?_
    refine n_getI C fl_X6_36 ho (fun _ _ => rfl) dX6_addProgram_24 ?_
    refine x_iconst (v := (1 : Int32)) C dX6_addProgram_27 (by decide) ?_
    refine x_iadd C dX6_addProgram_28 ?_
    obtain ⟨M4, eM4⟩ : ∃ z : Mem, z = uI M3 o 0 ((M3.1 o 0) + (1 : Int32)) := ⟨_, rfl⟩
    replace hw := hw M4 eM4
    refine m_putI C fp_X6_36 ho (fun _ _ => rfl) rfl rfl eM4 dX6_addProgram_29 ?_
    refine x_aload_n C dX6_addProgram_32 rfl rfl ?_
    refine n_getI C fl_X6_36 ho (fun _ _ => rfl) dX6_addProgram_33 ?_
    refine x_iconst (v := (1 : Int32)) C dX6_addProgram_36 (by decide) ?_
    refine x_isub C dX6_addProgram_37 ?_
    exact n_ireturn C r dX6_addProgram_38 hw
  · replace hw := hw.2 h1
    refine x_bipush (v := (-4 : Int32)) C dX6_addProgram_9 (by decide) ?_
    exact n_ireturn C r dX6_addProgram_11 hw

def w_X6_addLine (o : Nat) (v1 : Int32) (v2 : Int32) (v3 : Int32) (v4 : Int32) (v5 : Int32) (M : Mem) (q : Int32 → Mem → Prop) : Prop := vp_in v1 6 ∧ ∀ x2 : Int32, x2 = (M.1 (o + 1) (v1).toNatClampNeg) → ((x2 < (40 : Int32) → w_X11_writeLine (o + 2) (((v1 * (40 : Int32)) + x2) * (4 : Int32)) v2 v3 v4 v5 M (fun (M4 : Mem) => vp_in v1 6 ∧ ∀ M7 : Mem, M7 = uI M4 (o + 1) (v1).toNatClampNeg (x2 + (1 : Int32)) → q x2 M7)) ∧ (¬ x2 < (40 : Int32) → q (-4 : Int32) M))
set_option maxRecDepth 100000 in
set_option maxHeartbeats 4000000 in
theorem ok_X6_addLine {g : Gl} {l : Launch} {o : Nat} {v1 : Int32} {v2 : Int32} {v3 : Int32} {v4 : Int32} {v5 : Int32} {M : Mem} {q : Int32 → Mem → Prop} (ho : sh o = .inl 6) (hw : w_X6_addLine o v1 v2 v3 v4 v5 M q) : CtI g l yX6_addLine cX6_addLine 7 (some .int) 2 25 [.ref (g.2.2.2 + o), .int v1, .int v2, .int v3, .int v4, .int v5] M q := by
  refine n_introI (by decide +kernel) (Nat.le_of_ble_eq_true rfl) (fun c C r => ?_)
  have C : Cx c cX6_addLine 7 RX6 g l (Rm 2 25) := C
  refine x_sub [0, 1, 2, 3, 4, 5] (lv' := [(0, .ref (g.2.2.2 + o)), (1, .int v1), (2, .int v2), (3, .int v3), (4, .int v4), (5, .int v5)]) rfl ?_
  unfold w_X6_addLine at hw
  refine x_aload_n C dX6_addLine_0 rfl rfl ?_
  refine n_getS (dd := 1) C fl_X6_9 ho (fun _ _ => rfl) rfl dX6_addLine_1 ?_
  refine x_iload_n C dX6_addLine_4 rfl rfl ?_
  obtain ⟨h1, hw⟩ := hw
  refine a_iald C (ss_6_1 ho) (sl_6_1 ho) h1 dX6_addLine_5 ?_
  obtain ⟨x2, ex2⟩ : ∃ z : Int32, z = (M.1 (o + 1) (v1).toNatClampNeg) := ⟨_, rfl⟩
  replace hw := hw x2 ex2
  refine x_topi ex2 ?_
  refine x_istore C dX6_addLine_6 (Nat.le_of_ble_eq_true rfl) ?_
  refine x_iload C dX6_addLine_8 rfl ?_
  refine x_bipush (v := (40 : Int32)) C dX6_addLine_10 (by decide) ?_
  refine x_icmp_lt (tgt := 18) C dX6_addLine_12 (by decide) (fun h3 => ?_) (fun h3 => ?_)
  · replace hw := hw.1 h3
    refine x_aload_n C dX6_addLine_18 rfl rfl ?_
    refine n_getS (dd := 2) C fl_X6_15 ho (fun _ _ => rfl) rfl dX6_addLine_19 ?_
    refine x_iload_n C dX6_addLine_22 rfl rfl ?_
    refine x_bipush (v := (40 : Int32)) C dX6_addLine_23 (by decide) ?_
    refine x_imul C dX6_addLine_25 ?_
    refine x_iload C dX6_addLine_26 rfl ?_
    refine x_iadd C dX6_addLine_28 ?_
    refine x_iconst (v := (4 : Int32)) C dX6_addLine_29 (by decide) ?_
    refine x_imul C dX6_addLine_30 ?_
    refine x_iload_n C dX6_addLine_31 rfl rfl ?_
    refine x_iload_n C dX6_addLine_32 rfl rfl ?_
    refine x_iload C dX6_addLine_33 rfl ?_
    refine x_iload C dX6_addLine_35 rfl ?_
    refine n_callNV C (ok_X11_writeLine (ss_6_2 ho) hw) mn_X6_55 rfl rfl ⟨Nat.le_of_ble_eq_true rfl, Nat.le_of_ble_eq_true rfl⟩ (Nat.le_of_ble_eq_true rfl) dX6_addLine_37 (fun M4 hw => ?_)
    refine x_aload_n C dX6_addLine_40 rfl rfl ?_
    refine n_getS (dd := 1) C fl_X6_9 ho (fun _ _ => rfl) rfl dX6_addLine_41 ?_
    refine x_iload_n C dX6_addLine_44 rfl rfl ?_
    refine x_iload C dX6_addLine_45 rfl ?_
    refine x_iconst (v := (1 : Int32)) C dX6_addLine_47 (by decide) ?_
    refine x_iadd C dX6_addLine_48 ?_
    obtain ⟨h6, hw⟩ := hw
    obtain ⟨M7, eM7⟩ : ∃ z : Mem, z = uI M4 (o + 1) (v1).toNatClampNeg (x2 + (1 : Int32)) := ⟨_, rfl⟩
    replace hw := hw M7 eM7
    refine a_iast C (ss_6_1 ho) (sl_6_1 ho) rfl h6 eM7 dX6_addLine_49 ?_
    refine x_iload C dX6_addLine_50 rfl ?_
    exact n_ireturn C r dX6_addLine_52 hw
  · replace hw := hw.2 h3
    refine x_bipush (v := (-4 : Int32)) C dX6_addLine_15 (by decide) ?_
    exact n_ireturn C r dX6_addLine_17 hw

def w_X6_addChange (o : Nat) (v1 : Int32) (v2 : Int32) (v3 : Int32) (v4 : Int32) (v5 : Int32) (v6 : Int32) (M : Mem) (q : Int32 → Mem → Prop) : Prop := (((M.1 o 3) < (10 : Int32) → w_X11_writeLine (o + 5) ((M.1 o 3) * (4 : Int32)) v3 v4 v5 v6 M (fun (M2 : Mem) => vp_in (M2.1 o 3) 10 ∧ ∀ M5 : Mem, M5 = uI M2 (o + 3) ((M2.1 o 3)).toNatClampNeg v1 → vp_in (M5.1 o 3) 10 ∧ ∀ M7 : Mem, M7 = uI M5 (o + 4) ((M5.1 o 3)).toNatClampNeg v2 → ∀ M8 : Mem, M8 = uI M7 o 3 ((M7.1 o 3) + (1 : Int32)) → q ((M8.1 o 3) - (1 : Int32)) M8)) ∧ (¬ (M.1 o 3) < (10 : Int32) → q (-4 : Int32) M))
set_option maxRecDepth 100000 in
set_option maxHeartbeats 4000000 in
theorem ok_X6_addChange {g : Gl} {l : Launch} {o : Nat} {v1 : Int32} {v2 : Int32} {v3 : Int32} {v4 : Int32} {v5 : Int32} {v6 : Int32} {M : Mem} {q : Int32 → Mem → Prop} (ho : sh o = .inl 6) (hw : w_X6_addChange o v1 v2 v3 v4 v5 v6 M q) : CtI g l yX6_addChange cX6_addChange 7 (some .int) 2 25 [.ref (g.2.2.2 + o), .int v1, .int v2, .int v3, .int v4, .int v5, .int v6] M q := by
  refine n_introI (by decide +kernel) (Nat.le_of_ble_eq_true rfl) (fun c C r => ?_)
  have C : Cx c cX6_addChange 7 RX6 g l (Rm 2 25) := C
  refine x_sub [0, 1, 2, 3, 4, 5, 6] (lv' := [(0, .ref (g.2.2.2 + o)), (1, .int v1), (2, .int v2), (3, .int v3), (4, .int v4), (5, .int v5), (6, .int v6)]) rfl ?_
  unfold w_X6_addChange at hw
  refine x_aload_n C dX6_addChange_0 rfl rfl ?_
  refine n_getI C fl_X6_46 ho (fun _ _ => rfl) dX6_addChange_1 ?_
  refine x_bipush (v := (10 : Int32)) C dX6_addChange_4 (by decide) ?_
  refine x_icmp_lt (tgt := 12) C dX6_addChange_6 (by decide) (fun h1 => ?_) (fun h1 => ?_)
  · replace hw := hw.1 h1
    refine x_aload_n C dX6_addChange_12 rfl rfl ?_
    refine n_getS (dd := 5) C fl_X6_24 ho (fun _ _ => rfl) rfl dX6_addChange_13 ?_
    refine x_aload_n C dX6_addChange_16 rfl rfl ?_
    refine n_getI C fl_X6_46 ho (fun _ _ => rfl) dX6_addChange_17 ?_
    refine x_iconst (v := (4 : Int32)) C dX6_addChange_20 (by decide) ?_
    refine x_imul C dX6_addChange_21 ?_
    refine x_iload_n C dX6_addChange_22 rfl rfl ?_
    refine x_iload C dX6_addChange_23 rfl ?_
    refine x_iload C dX6_addChange_25 rfl ?_
    refine x_iload C dX6_addChange_27 rfl ?_
    refine n_callNV C (ok_X11_writeLine (ss_6_6 ho) hw) mn_X6_55 rfl rfl ⟨Nat.le_of_ble_eq_true rfl, Nat.le_of_ble_eq_true rfl⟩ (Nat.le_of_ble_eq_true rfl) dX6_addChange_29 (fun M2 hw => ?_)
    refine x_aload_n C dX6_addChange_32 rfl rfl ?_
    refine n_getS (dd := 3) C fl_X6_18 ho (fun _ _ => rfl) rfl dX6_addChange_33 ?_
    refine x_aload_n C dX6_addChange_36 rfl rfl ?_
    refine n_getI C fl_X6_46 ho (fun _ _ => rfl) dX6_addChange_37 ?_
    refine x_iload_n C dX6_addChange_40 rfl rfl ?_
    obtain ⟨h4, hw⟩ := hw
    obtain ⟨M5, eM5⟩ : ∃ z : Mem, z = uI M2 (o + 3) ((M2.1 o 3)).toNatClampNeg v1 := ⟨_, rfl⟩
    replace hw := hw M5 eM5
    refine a_iast C (ss_6_4 ho) (sl_6_4 ho) rfl h4 eM5 dX6_addChange_41 ?_
    refine x_aload_n C dX6_addChange_42 rfl rfl ?_
    refine n_getS (dd := 4) C fl_X6_21 ho (fun _ _ => rfl) rfl dX6_addChange_43 ?_
    refine x_aload_n C dX6_addChange_46 rfl rfl ?_
    refine n_getI C fl_X6_46 ho (fun _ _ => rfl) dX6_addChange_47 ?_
    refine x_iload_n C dX6_addChange_50 rfl rfl ?_
    obtain ⟨h6, hw⟩ := hw
    obtain ⟨M7, eM7⟩ : ∃ z : Mem, z = uI M5 (o + 4) ((M5.1 o 3)).toNatClampNeg v2 := ⟨_, rfl⟩
    replace hw := hw M7 eM7
    refine a_iast C (ss_6_5 ho) (sl_6_5 ho) rfl h6 eM7 dX6_addChange_51 ?_
    refine x_aload_n C dX6_addChange_52 rfl rfl ?_
    refine x_dup C dX6_addChange_53 rfl ?_
    refine n_getI C fl_X6_46 ho (fun _ _ => rfl) dX6_addChange_54 ?_
    refine x_iconst (v := (1 : Int32)) C dX6_addChange_57 (by decide) ?_
    refine x_iadd C dX6_addChange_58 ?_
    obtain ⟨M8, eM8⟩ : ∃ z : Mem, z = uI M7 o 3 ((M7.1 o 3) + (1 : Int32)) := ⟨_, rfl⟩
    replace hw := hw M8 eM8
    refine m_putI C fp_X6_46 ho (fun _ _ => rfl) rfl rfl eM8 dX6_addChange_59 ?_
    refine x_aload_n C dX6_addChange_62 rfl rfl ?_
    refine n_getI C fl_X6_46 ho (fun _ _ => rfl) dX6_addChange_63 ?_
    refine x_iconst (v := (1 : Int32)) C dX6_addChange_66 (by decide) ?_
    refine x_isub C dX6_addChange_67 ?_
    exact n_ireturn C r dX6_addChange_68 hw
  · replace hw := hw.2 h1
    refine x_bipush (v := (-4 : Int32)) C dX6_addChange_9 (by decide) ?_
    exact n_ireturn C r dX6_addChange_11 hw

def w_X6_addBuild (o : Nat) (v1 : Int32) (v2 : Int32) (M : Mem) (q : Int32 → Mem → Prop) : Prop := (((M.1 o 7) < (24 : Int32) → vp_in (M.1 o 7) 24 ∧ ∀ M3 : Mem, M3 = uI M (o + 6) ((M.1 o 7)).toNatClampNeg v1 → vp_in (M3.1 o 7) 24 ∧ ∀ M5 : Mem, M5 = uI M3 (o + 7) ((M3.1 o 7)).toNatClampNeg v2 → ∀ M6 : Mem, M6 = uI M5 o 7 ((M5.1 o 7) + (1 : Int32)) → q ((M6.1 o 7) - (1 : Int32)) M6) ∧ (¬ (M.1 o 7) < (24 : Int32) → q (-4 : Int32) M))
set_option maxRecDepth 100000 in
set_option maxHeartbeats 4000000 in
theorem ok_X6_addBuild {g : Gl} {l : Launch} {o : Nat} {v1 : Int32} {v2 : Int32} {M : Mem} {q : Int32 → Mem → Prop} (ho : sh o = .inl 6) (hw : w_X6_addBuild o v1 v2 M q) : CtI g l yX6_addBuild cX6_addBuild 3 (some .int) 1 0 [.ref (g.2.2.2 + o), .int v1, .int v2] M q := by
  refine n_introI (by decide +kernel) (Nat.le_of_ble_eq_true rfl) (fun c C r => ?_)
  have C : Cx c cX6_addBuild 3 RX6 g l (Rm 1 0) := C
  refine x_sub [0, 1, 2] (lv' := [(0, .ref (g.2.2.2 + o)), (1, .int v1), (2, .int v2)]) rfl ?_
  unfold w_X6_addBuild at hw
  refine x_aload_n C dX6_addBuild_0 rfl rfl ?_
  refine n_getI C fl_X6_49 ho (fun _ _ => rfl) dX6_addBuild_1 ?_
  refine x_bipush (v := (24 : Int32)) C dX6_addBuild_4 (by decide) ?_
  refine x_icmp_lt (tgt := 12) C dX6_addBuild_6 (by decide) (fun h1 => ?_) (fun h1 => ?_)
  · replace hw := hw.1 h1
    refine x_aload_n C dX6_addBuild_12 rfl rfl ?_
    refine n_getS (dd := 6) C fl_X6_27 ho (fun _ _ => rfl) rfl dX6_addBuild_13 ?_
    refine x_aload_n C dX6_addBuild_16 rfl rfl ?_
    refine n_getI C fl_X6_49 ho (fun _ _ => rfl) dX6_addBuild_17 ?_
    refine x_iload_n C dX6_addBuild_20 rfl rfl ?_
    obtain ⟨h2, hw⟩ := hw
    obtain ⟨M3, eM3⟩ : ∃ z : Mem, z = uI M (o + 6) ((M.1 o 7)).toNatClampNeg v1 := ⟨_, rfl⟩
    replace hw := hw M3 eM3
    refine a_iast C (ss_6_8 ho) (sl_6_8 ho) rfl h2 eM3 dX6_addBuild_21 ?_
    refine x_aload_n C dX6_addBuild_22 rfl rfl ?_
    refine n_getS (dd := 7) C fl_X6_30 ho (fun _ _ => rfl) rfl dX6_addBuild_23 ?_
    refine x_aload_n C dX6_addBuild_26 rfl rfl ?_
    refine n_getI C fl_X6_49 ho (fun _ _ => rfl) dX6_addBuild_27 ?_
    refine x_iload_n C dX6_addBuild_30 rfl rfl ?_
    obtain ⟨h4, hw⟩ := hw
    obtain ⟨M5, eM5⟩ : ∃ z : Mem, z = uI M3 (o + 7) ((M3.1 o 7)).toNatClampNeg v2 := ⟨_, rfl⟩
    replace hw := hw M5 eM5
    refine a_iast C (ss_6_9 ho) (sl_6_9 ho) rfl h4 eM5 dX6_addBuild_31 ?_
    refine x_aload_n C dX6_addBuild_32 rfl rfl ?_
    refine x_dup C dX6_addBuild_33 rfl ?_
    refine n_getI C fl_X6_49 ho (fun _ _ => rfl) dX6_addBuild_34 ?_
    refine x_iconst (v := (1 : Int32)) C dX6_addBuild_37 (by decide) ?_
    refine x_iadd C dX6_addBuild_38 ?_
    obtain ⟨M6, eM6⟩ : ∃ z : Mem, z = uI M5 o 7 ((M5.1 o 7) + (1 : Int32)) := ⟨_, rfl⟩
    replace hw := hw M6 eM6
    refine m_putI C fp_X6_49 ho (fun _ _ => rfl) rfl rfl eM6 dX6_addBuild_39 ?_
    refine x_aload_n C dX6_addBuild_42 rfl rfl ?_
    refine n_getI C fl_X6_49 ho (fun _ _ => rfl) dX6_addBuild_43 ?_
    refine x_iconst (v := (1 : Int32)) C dX6_addBuild_46 (by decide) ?_
    refine x_isub C dX6_addBuild_47 ?_
    exact n_ireturn C r dX6_addBuild_48 hw
  · replace hw := hw.2 h1
    refine x_bipush (v := (-4 : Int32)) C dX6_addBuild_9 (by decide) ?_
    exact n_ireturn C r dX6_addBuild_11 hw

def w_X6_addSetting (o : Nat) (v1 : Int32) (v2 : Int32) (v3 : Int32) (v4 : Int32) (M : Mem) (q : Int32 → Mem → Prop) : Prop := (((M.1 o 10) < (8 : Int32) → ∀ x2 : Int32, x2 = ((M.1 o 10) * (4 : Int32)) → vp_in x2 32 ∧ ∀ M4 : Mem, M4 = uI M (o + 8) (x2).toNatClampNeg v1 → vp_in (x2 + (1 : Int32)) 32 ∧ ∀ M6 : Mem, M6 = uI M4 (o + 8) ((x2 + (1 : Int32))).toNatClampNeg v2 → vp_in (x2 + (2 : Int32)) 32 ∧ ∀ M8 : Mem, M8 = uI M6 (o + 8) ((x2 + (2 : Int32))).toNatClampNeg v3 → vp_in (x2 + (3 : Int32)) 32 ∧ ∀ M10 : Mem, M10 = uI M8 (o + 8) ((x2 + (3 : Int32))).toNatClampNeg v4 → ∀ M11 : Mem, M11 = uI M10 o 10 ((M10.1 o 10) + (1 : Int32)) → q ((M11.1 o 10) - (1 : Int32)) M11) ∧ (¬ (M.1 o 10) < (8 : Int32) → q (-4 : Int32) M))
set_option maxRecDepth 100000 in
set_option maxHeartbeats 4000000 in
theorem ok_X6_addSetting {g : Gl} {l : Launch} {o : Nat} {v1 : Int32} {v2 : Int32} {v3 : Int32} {v4 : Int32} {M : Mem} {q : Int32 → Mem → Prop} (ho : sh o = .inl 6) (hw : w_X6_addSetting o v1 v2 v3 v4 M q) : CtI g l yX6_addSetting cX6_addSetting 6 (some .int) 1 0 [.ref (g.2.2.2 + o), .int v1, .int v2, .int v3, .int v4] M q := by
  refine n_introI (by decide +kernel) (Nat.le_of_ble_eq_true rfl) (fun c C r => ?_)
  have C : Cx c cX6_addSetting 6 RX6 g l (Rm 1 0) := C
  refine x_sub [0, 1, 2, 3, 4] (lv' := [(0, .ref (g.2.2.2 + o)), (1, .int v1), (2, .int v2), (3, .int v3), (4, .int v4)]) rfl ?_
  unfold w_X6_addSetting at hw
  refine x_aload_n C dX6_addSetting_0 rfl rfl ?_
  refine n_getI C fl_X6_52 ho (fun _ _ => rfl) dX6_addSetting_1 ?_
  refine x_bipush (v := (8 : Int32)) C dX6_addSetting_4 (by decide) ?_
  refine x_icmp_lt (tgt := 12) C dX6_addSetting_6 (by decide) (fun h1 => ?_) (fun h1 => ?_)
  · replace hw := hw.1 h1
    refine x_aload_n C dX6_addSetting_12 rfl rfl ?_
    refine n_getI C fl_X6_52 ho (fun _ _ => rfl) dX6_addSetting_13 ?_
    refine x_iconst (v := (4 : Int32)) C dX6_addSetting_16 (by decide) ?_
    refine x_imul C dX6_addSetting_17 ?_
    obtain ⟨x2, ex2⟩ : ∃ z : Int32, z = ((M.1 o 10) * (4 : Int32)) := ⟨_, rfl⟩
    replace hw := hw x2 ex2
    refine x_topi ex2 ?_
    refine x_istore C dX6_addSetting_18 (Nat.le_of_ble_eq_true rfl) ?_
    refine x_aload_n C dX6_addSetting_20 rfl rfl ?_
    refine n_getS (dd := 8) C fl_X6_33 ho (fun _ _ => rfl) rfl dX6_addSetting_21 ?_
    refine x_iload C dX6_addSetting_24 rfl ?_
    refine x_iload_n C dX6_addSetting_26 rfl rfl ?_
    obtain ⟨h3, hw⟩ := hw
    obtain ⟨M4, eM4⟩ : ∃ z : Mem, z = uI M (o + 8) (x2).toNatClampNeg v1 := ⟨_, rfl⟩
    replace hw := hw M4 eM4
    refine a_iast C (ss_6_11 ho) (sl_6_11 ho) rfl h3 eM4 dX6_addSetting_27 ?_
    refine x_aload_n C dX6_addSetting_28 rfl rfl ?_
    refine n_getS (dd := 8) C fl_X6_33 ho (fun _ _ => rfl) rfl dX6_addSetting_29 ?_
    refine x_iload C dX6_addSetting_32 rfl ?_
    refine x_iconst (v := (1 : Int32)) C dX6_addSetting_34 (by decide) ?_
    refine x_iadd C dX6_addSetting_35 ?_
    refine x_iload_n C dX6_addSetting_36 rfl rfl ?_
    obtain ⟨h5, hw⟩ := hw
    obtain ⟨M6, eM6⟩ : ∃ z : Mem, z = uI M4 (o + 8) ((x2 + (1 : Int32))).toNatClampNeg v2 := ⟨_, rfl⟩
    replace hw := hw M6 eM6
    refine a_iast C (ss_6_11 ho) (sl_6_11 ho) rfl h5 eM6 dX6_addSetting_37 ?_
    refine x_aload_n C dX6_addSetting_38 rfl rfl ?_
    refine n_getS (dd := 8) C fl_X6_33 ho (fun _ _ => rfl) rfl dX6_addSetting_39 ?_
    refine x_iload C dX6_addSetting_42 rfl ?_
    refine x_iconst (v := (2 : Int32)) C dX6_addSetting_44 (by decide) ?_
    refine x_iadd C dX6_addSetting_45 ?_
    refine x_iload_n C dX6_addSetting_46 rfl rfl ?_
    obtain ⟨h7, hw⟩ := hw
    obtain ⟨M8, eM8⟩ : ∃ z : Mem, z = uI M6 (o + 8) ((x2 + (2 : Int32))).toNatClampNeg v3 := ⟨_, rfl⟩
    replace hw := hw M8 eM8
    refine a_iast C (ss_6_11 ho) (sl_6_11 ho) rfl h7 eM8 dX6_addSetting_47 ?_
    refine x_aload_n C dX6_addSetting_48 rfl rfl ?_
    refine n_getS (dd := 8) C fl_X6_33 ho (fun _ _ => rfl) rfl dX6_addSetting_49 ?_
    refine x_iload C dX6_addSetting_52 rfl ?_
    refine x_iconst (v := (3 : Int32)) C dX6_addSetting_54 (by decide) ?_
    refine x_iadd C dX6_addSetting_55 ?_
    refine x_iload C dX6_addSetting_56 rfl ?_
    obtain ⟨h9, hw⟩ := hw
    obtain ⟨M10, eM10⟩ : ∃ z : Mem, z = uI M8 (o + 8) ((x2 + (3 : Int32))).toNatClampNeg v4 := ⟨_, rfl⟩
    replace hw := hw M10 eM10
    refine a_iast C (ss_6_11 ho) (sl_6_11 ho) rfl h9 eM10 dX6_addSetting_58 ?_
    refine x_aload_n C dX6_addSetting_59 rfl rfl ?_
    refine x_dup C dX6_addSetting_60 rfl ?_
    refine n_getI C fl_X6_52 ho (fun _ _ => rfl) dX6_addSetting_61 ?_
    refine x_iconst (v := (1 : Int32)) C dX6_addSetting_64 (by decide) ?_
    refine x_iadd C dX6_addSetting_65 ?_
    obtain ⟨M11, eM11⟩ : ∃ z : Mem, z = uI M10 o 10 ((M10.1 o 10) + (1 : Int32)) := ⟨_, rfl⟩
    replace hw := hw M11 eM11
    refine m_putI C fp_X6_52 ho (fun _ _ => rfl) rfl rfl eM11 dX6_addSetting_66 ?_
    refine x_aload_n C dX6_addSetting_69 rfl rfl ?_
    refine n_getI C fl_X6_52 ho (fun _ _ => rfl) dX6_addSetting_70 ?_
    refine x_iconst (v := (1 : Int32)) C dX6_addSetting_73 (by decide) ?_
    refine x_isub C dX6_addSetting_74 ?_
    exact n_ireturn C r dX6_addSetting_75 hw
  · replace hw := hw.2 h1
    refine x_bipush (v := (-4 : Int32)) C dX6_addSetting_9 (by decide) ?_
    exact n_ireturn C r dX6_addSetting_11 hw

def w_X6_isBuilt_l2F (o : Nat) (v1 : Int32) (q : Int32 → Mem → Prop) (P2 : Int32 × Mem → Prop) (s : Int32 × Mem) : Prop := match s with
  | (v2, M) => (((M.1 o 7) ≤ v2 → q (0 : Int32) M) ∧ (¬ (M.1 o 7) ≤ v2 → vp_in v2 24 ∧ ((¬ (M.1 (o + 6) (v2).toNatClampNeg) = v1 → ∀ x4 : Int32, x4 = v2 + (1 : Int32) → P2 (x4, M)) ∧ ((M.1 (o + 6) (v2).toNatClampNeg) = v1 → q (1 : Int32) M))))
def w_X6_isBuilt_l2 (o : Nat) (v1 : Int32) (q : Int32 → Mem → Prop) (s : Int32 × Mem) : Prop := lfp (w_X6_isBuilt_l2F o v1 q ) s
set_option maxRecDepth 100000 in
set_option maxHeartbeats 4000000 in
theorem ok_X6_isBuilt_l2 {c : CtxT} {g : Gl} {l : Launch} {o : Nat} {v1 : Int32} {q : Int32 → Mem → Prop} {s : Int32 × Mem} (C : Cx c cX6_isBuilt 3 RX6 g l (Rm 1 0)) (r : Rt c (some .boolean) (pI q) 0 0) (ho : sh o = .inl 6) (hw : w_X6_isBuilt_l2 o v1 q s) : X c S0 2 [(0, .ref (g.2.2.2 + o)), (1, .int v1), (2, .int s.1)] [] (stat s.2) := hw (fun s => X c S0 2 [(0, .ref (g.2.2.2 + o)), (1, .int v1), (2, .int s.1)] [] (stat s.2)) (fun s hw => by
    obtain ⟨v2, M⟩ := s
    try dsimp only [w_X6_isBuilt_l2F] at hw
    try dsimp only
    refine x_iload_n C dX6_isBuilt_2 rfl rfl ?_
    refine x_aload_n C dX6_isBuilt_3 rfl rfl ?_
    refine n_getI C fl_X6_49 ho (fun _ _ => rfl) dX6_isBuilt_4 ?_
    refine x_icmp_ge (tgt := 28) C dX6_isBuilt_7 (by decide) (fun h1 => ?_) (fun h1 => ?_)
    · replace hw := hw.1 h1
      refine x_iconst (v := (0 : Int32)) C dX6_isBuilt_28 (by decide) ?_
      exact n_zreturn C r dX6_isBuilt_29 (Or.inl rfl) hw
    · replace hw := hw.2 h1
      refine x_aload_n C dX6_isBuilt_10 rfl rfl ?_
      refine n_getS (dd := 6) C fl_X6_27 ho (fun _ _ => rfl) rfl dX6_isBuilt_11 ?_
      refine x_iload_n C dX6_isBuilt_14 rfl rfl ?_
      obtain ⟨h2, hw⟩ := hw
      refine a_iald C (ss_6_8 ho) (sl_6_8 ho) h2 dX6_isBuilt_15 ?_
      refine x_iload_n C dX6_isBuilt_16 rfl rfl ?_
      refine x_icmp_ne (tgt := 22) C dX6_isBuilt_17 (by decide) (fun h3 => ?_) (fun h3 => ?_)
      · replace hw := hw.1 h3
        obtain ⟨x4, ex4⟩ : ∃ z : Int32, z = v2 + (1 : Int32) := ⟨_, rfl⟩
        replace hw := hw x4 ex4
        refine x_iinc (v := x4) C dX6_isBuilt_22 rfl ex4.symm (Nat.le_of_ble_eq_true rfl) ?_
        refine x_goto (tgt := 2) C dX6_isBuilt_25 (by decide) ?_
        exact x_sub [0, 1, 2] rfl hw
      · replace hw := hw.2 h3
        refine x_iconst (v := (1 : Int32)) C dX6_isBuilt_20 (by decide) ?_
        exact n_zreturn C r dX6_isBuilt_21 (Or.inr rfl) hw)
def w_X6_isBuilt (o : Nat) (v1 : Int32) (M : Mem) (q : Int32 → Mem → Prop) : Prop := w_X6_isBuilt_l2 o v1 q ((0 : Int32), M)
set_option maxRecDepth 100000 in
set_option maxHeartbeats 4000000 in
theorem ok_X6_isBuilt {g : Gl} {l : Launch} {o : Nat} {v1 : Int32} {M : Mem} {q : Int32 → Mem → Prop} (ho : sh o = .inl 6) (hw : w_X6_isBuilt o v1 M q) : CtI g l yX6_isBuilt cX6_isBuilt 3 (some .boolean) 1 0 [.ref (g.2.2.2 + o), .int v1] M q := by
  refine n_introI (by decide +kernel) (Nat.le_of_ble_eq_true rfl) (fun c C r => ?_)
  have C : Cx c cX6_isBuilt 3 RX6 g l (Rm 1 0) := C
  refine x_sub [0, 1] (lv' := [(0, .ref (g.2.2.2 + o)), (1, .int v1)]) rfl ?_
  unfold w_X6_isBuilt at hw
  refine x_iconst (v := (0 : Int32)) C dX6_isBuilt_0 (by decide) ?_
  refine x_istore_n C dX6_isBuilt_1 rfl (Nat.le_of_ble_eq_true rfl) ?_
  exact x_sub [0, 1, 2] rfl (ok_X6_isBuilt_l2 C r ho hw)

def w_X6_fits_b62 (o : Nat) (v1 : Int32) (v2 : Int32) (v3 : Int64) (v5 : Int32) (M : Mem) (q : Int32 → Mem → Prop) (P5 : Int64 × Int32 × Mem → Prop) : Prop := ∀ x1 : Int32, x1 = v5 + (1 : Int32) → P5 (v3, x1, M)
set_option maxRecDepth 100000 in
set_option maxHeartbeats 4000000 in
theorem ok_X6_fits_b62 {c : CtxT} {g : Gl} {l : Launch} {o : Nat} {v1 : Int32} {v2 : Int32} {v3 : Int64} {v5 : Int32} {q : Int32 → Mem → Prop} {P5 : Int64 × Int32 × Mem → Prop} {M : Mem} (C : Cx c cX6_fits 8 RX6 g l (Rm 1 0)) (r : Rt c (some .boolean) (pI q) 0 0) (ho : sh o = .inl 6) (hP5 : ∀ (v3 : Int64) (v5 : Int32) (M : Mem), P5 (v3, v5, M) → X c S0 5 [(0, .ref (g.2.2.2 + o)), (1, .int v1), (2, .int v2), (3, .long v3), (5, .int v5)] [] (stat M)) (hw : w_X6_fits_b62 o v1 v2 v3 v5 M q P5) : X c S0 62 [(0, .ref (g.2.2.2 + o)), (1, .int v1), (2, .int v2), (3, .long v3), (5, .int v5)] [] (stat M) := by
  unfold w_X6_fits_b62 at hw
  obtain ⟨x1, ex1⟩ : ∃ z : Int32, z = v5 + (1 : Int32) := ⟨_, rfl⟩
  replace hw := hw x1 ex1
  refine x_iinc (v := x1) C dX6_fits_62 rfl ex1.symm (Nat.le_of_ble_eq_true rfl) ?_
  refine x_goto (tgt := 5) C dX6_fits_65 (by decide) ?_
  exact x_sub [0, 1, 2, 3, 5] rfl (hP5 _ _ _ hw)
def w_X6_fits_l5F (o : Nat) (v1 : Int32) (v2 : Int32) (q : Int32 → Mem → Prop) (P5 : Int64 × Int32 × Mem → Prop) (s : Int64 × Int32 × Mem) : Prop := match s with
  | (v3, v5, M) => (((M.1 o 3) ≤ v5 → q (1 : Int32) M) ∧ (¬ (M.1 o 3) ≤ v5 → ((¬ ((v2 >>> (v5 &&& 31)) &&& (1 : Int32)) = (1 : Int32) → w_X6_fits_b62 o v1 v2 v3 v5 M q P5) ∧ (((v2 >>> (v5 &&& 31)) &&& (1 : Int32)) = (1 : Int32) → vp_in v5 10 ∧ ∀ x5 : Int64, x5 = ((1 : Int64) <<< (((M.1 (o + 4) (v5).toNatClampNeg)).toInt64 &&& 63)) → vp_in v5 10 ∧ ((¬ (M.1 (o + 3) (v5).toNatClampNeg) = v1 → q (0 : Int32) M) ∧ ((M.1 (o + 3) (v5).toNatClampNeg) = v1 → (((v3 &&& x5) = (0 : Int64) → ∀ x9 : Int64, x9 = (v3 ||| x5) → w_X6_fits_b62 o v1 v2 x9 v5 M q P5) ∧ (¬ (v3 &&& x5) = (0 : Int64) → q (0 : Int32) M))))))))
def w_X6_fits_l5 (o : Nat) (v1 : Int32) (v2 : Int32) (q : Int32 → Mem → Prop) (s : Int64 × Int32 × Mem) : Prop := lfp (w_X6_fits_l5F o v1 v2 q ) s
set_option maxRecDepth 100000 in
set_option maxHeartbeats 4000000 in
theorem ok_X6_fits_l5 {c : CtxT} {g : Gl} {l : Launch} {o : Nat} {v1 : Int32} {v2 : Int32} {q : Int32 → Mem → Prop} {s : Int64 × Int32 × Mem} (C : Cx c cX6_fits 8 RX6 g l (Rm 1 0)) (r : Rt c (some .boolean) (pI q) 0 0) (ho : sh o = .inl 6) (hw : w_X6_fits_l5 o v1 v2 q s) : X c S0 5 [(0, .ref (g.2.2.2 + o)), (1, .int v1), (2, .int v2), (3, .long s.1), (5, .int s.2.1)] [] (stat s.2.2) := hw (fun s => X c S0 5 [(0, .ref (g.2.2.2 + o)), (1, .int v1), (2, .int v2), (3, .long s.1), (5, .int s.2.1)] [] (stat s.2.2)) (fun s hw => by
    obtain ⟨v3, v5, M⟩ := s
    try dsimp only [w_X6_fits_l5F] at hw
    try dsimp only
    refine x_iload C dX6_fits_5 rfl ?_
    refine x_aload_n C dX6_fits_7 rfl rfl ?_
    refine n_getI C fl_X6_46 ho (fun _ _ => rfl) dX6_fits_8 ?_
    refine x_icmp_ge (tgt := 68) C dX6_fits_11 (by decide) (fun h2 => ?_) (fun h2 => ?_)
    · replace hw := hw.1 h2
      refine x_iconst (v := (1 : Int32)) C dX6_fits_68 (by decide) ?_
      exact n_zreturn C r dX6_fits_69 (Or.inr rfl) hw
    · replace hw := hw.2 h2
      refine x_iload_n C dX6_fits_14 rfl rfl ?_
      refine x_iload C dX6_fits_15 rfl ?_
      refine x_ishr C dX6_fits_17 ?_
      refine x_iconst (v := (1 : Int32)) C dX6_fits_18 (by decide) ?_
      refine x_iand C dX6_fits_19 ?_
      refine x_iconst (v := (1 : Int32)) C dX6_fits_20 (by decide) ?_
      refine x_icmp_ne (tgt := 62) C dX6_fits_21 (by decide) (fun h3 => ?_) (fun h3 => ?_)
      · replace hw := hw.1 h3
        exact x_sub [0, 1, 2, 3, 5] rfl (ok_X6_fits_b62 C r ho (fun _ _ _ h => h) hw)
      · replace hw := hw.2 h3
        refine x_lconst (v := (1 : Int64)) C dX6_fits_24 (by decide) ?_
        refine x_aload_n C dX6_fits_25 rfl rfl ?_
        refine n_getS (dd := 4) C fl_X6_21 ho (fun _ _ => rfl) rfl dX6_fits_26 ?_
        refine x_iload C dX6_fits_29 rfl ?_
        obtain ⟨h4, hw⟩ := hw
        refine a_iald C (ss_6_5 ho) (sl_6_5 ho) h4 dX6_fits_31 ?_
        refine x_lshl C dX6_fits_32 ?_
        obtain ⟨x5, ex5⟩ : ∃ z : Int64, z = ((1 : Int64) <<< (((M.1 (o + 4) (v5).toNatClampNeg)).toInt64 &&& 63)) := ⟨_, rfl⟩
        replace hw := hw x5 ex5
        refine x_topj ex5 ?_
        refine x_lstore C dX6_fits_33 (Nat.le_of_ble_eq_true rfl) ?_
        refine x_aload_n C dX6_fits_35 rfl rfl ?_
        refine n_getS (dd := 3) C fl_X6_18 ho (fun _ _ => rfl) rfl dX6_fits_36 ?_
        refine x_iload C dX6_fits_39 rfl ?_
        obtain ⟨h6, hw⟩ := hw
        refine a_iald C (ss_6_4 ho) (sl_6_4 ho) h6 dX6_fits_41 ?_
        refine x_iload_n C dX6_fits_42 rfl rfl ?_
        refine x_icmp_ne (tgt := 55) C dX6_fits_43 (by decide) (fun h7 => ?_) (fun h7 => ?_)
        · replace hw := hw.1 h7
          refine x_iconst (v := (0 : Int32)) C dX6_fits_55 (by decide) ?_
          exact n_zreturn C r dX6_fits_56 (Or.inl rfl) hw
        · replace hw := hw.2 h7
          refine x_lload_n C dX6_fits_46 rfl rfl ?_
          refine x_lload C dX6_fits_47 rfl ?_
          refine x_land C dX6_fits_49 ?_
          refine x_lconst (v := (0 : Int64)) C dX6_fits_50 (by decide) ?_
          refine x_lc_eq (tgt := 57) C dX6_fits_51 dX6_fits_52 (by decide) (fun h8 => ?_) (fun h8 => ?_)
          · replace hw := hw.1 h8
            refine x_lload_n C dX6_fits_57 rfl rfl ?_
            refine x_lload C dX6_fits_58 rfl ?_
            refine x_lor C dX6_fits_60 ?_
            obtain ⟨x9, ex9⟩ : ∃ z : Int64, z = (v3 ||| x5) := ⟨_, rfl⟩
            replace hw := hw x9 ex9
            refine x_topj ex9 ?_
            refine x_lstore_n C dX6_fits_61 rfl (Nat.le_of_ble_eq_true rfl) ?_
            exact x_sub [0, 1, 2, 3, 5] rfl (ok_X6_fits_b62 C r ho (fun _ _ _ h => h) hw)
          · replace hw := hw.2 h8
            refine x_iconst (v := (0 : Int32)) C dX6_fits_55 (by decide) ?_
            exact n_zreturn C r dX6_fits_56 (Or.inl rfl) hw)
def w_X6_fits (o : Nat) (v1 : Int32) (v2 : Int32) (M : Mem) (q : Int32 → Mem → Prop) : Prop := w_X6_fits_l5 o v1 v2 q ((0 : Int64), (0 : Int32), M)
set_option maxRecDepth 100000 in
set_option maxHeartbeats 4000000 in
theorem ok_X6_fits {g : Gl} {l : Launch} {o : Nat} {v1 : Int32} {v2 : Int32} {M : Mem} {q : Int32 → Mem → Prop} (ho : sh o = .inl 6) (hw : w_X6_fits o v1 v2 M q) : CtI g l yX6_fits cX6_fits 8 (some .boolean) 1 0 [.ref (g.2.2.2 + o), .int v1, .int v2] M q := by
  refine n_introI (by decide +kernel) (Nat.le_of_ble_eq_true rfl) (fun c C r => ?_)
  have C : Cx c cX6_fits 8 RX6 g l (Rm 1 0) := C
  refine x_sub [0, 1, 2] (lv' := [(0, .ref (g.2.2.2 + o)), (1, .int v1), (2, .int v2)]) rfl ?_
  unfold w_X6_fits at hw
  refine x_lconst (v := (0 : Int64)) C dX6_fits_0 (by decide) ?_
  refine x_lstore_n C dX6_fits_1 rfl (Nat.le_of_ble_eq_true rfl) ?_
  refine x_iconst (v := (0 : Int32)) C dX6_fits_2 (by decide) ?_
  refine x_istore C dX6_fits_3 (Nat.le_of_ble_eq_true rfl) ?_
  exact x_sub [0, 1, 2, 3, 5] rfl (ok_X6_fits_l5 C r ho hw)

def w_X7_empty (o : Nat) (M : Mem) (q : Mem → Prop) : Prop := ∃ k1 : Nat, M.2.2 o 9 = some k1 ∧ isA 0 k1 ∧ w_J7_fill_53178 k1 (-1 : Int32) M (fun (M2 : Mem) => ∃ k4 : Nat, M2.2.2 o 10 = some k4 ∧ isA 0 k4 ∧ w_J7_fill_53178 k4 (0 : Int32) M2 (fun (M5 : Mem) => q M5))
set_option maxRecDepth 100000 in
set_option maxHeartbeats 4000000 in
theorem ok_X7_empty {g : Gl} {l : Launch} {o : Nat} {M : Mem} {q : Mem → Prop} (ho : sh o = .inl 7) (hw : w_X7_empty o M q) : CtV g l yX7_empty cX7_empty 1 none 2 23 [.ref (g.2.2.2 + o)] M q := by
  refine n_introV (by decide +kernel) (Nat.le_of_ble_eq_true rfl) (fun c C r => ?_)
  have C : Cx c cX7_empty 1 RX7 g l (Rm 2 23) := C
  refine x_sub [0] (lv' := [(0, .ref (g.2.2.2 + o))]) rfl ?_
  unfold w_X7_empty at hw
  refine x_aload_n C dX7_empty_0 rfl rfl ?_
  obtain ⟨k1, rk1, sk1, hw⟩ := hw
  refine n_getR C fl_X7_37 ho (fun _ _ => rfl) rfl rk1 dX7_empty_1 ?_
  refine x_iconst (v := (-1 : Int32)) C dX7_empty_4 (by decide) ?_
  refine n_callSV C (ok_J7_fill_53178 sk1 hw) ms_X7_96 rfl rfl ⟨Nat.le_of_ble_eq_true rfl, Nat.le_of_ble_eq_true rfl⟩ (Nat.le_of_ble_eq_true rfl) dX7_empty_5 (fun M2 hw => ?_)
  refine x_aload_n C dX7_empty_8 rfl rfl ?_
  obtain ⟨k4, rk4, sk4, hw⟩ := hw
  refine n_getR C fl_X7_40 ho (fun _ _ => rfl) rfl rk4 dX7_empty_9 ?_
  refine x_iconst (v := (0 : Int32)) C dX7_empty_12 (by decide) ?_
  refine n_callSV C (ok_J7_fill_53178 sk4 hw) ms_X7_96 rfl rfl ⟨Nat.le_of_ble_eq_true rfl, Nat.le_of_ble_eq_true rfl⟩ (Nat.le_of_ble_eq_true rfl) dX7_empty_13 (fun M5 hw => ?_)
  exact n_vreturn C r dX7_empty_16 hw

def w_X7_begin_b81 (o : Nat) (v1 : Nat) (v3 : Int32) (v4 : Int32) (v5 : Int32) (M : Mem) (q : Mem → Prop) (P37 : Int32 × Mem → Prop) : Prop := ∀ x1 : Int32, x1 = v5 + (1 : Int32) → P37 (x1, M)
set_option maxRecDepth 100000 in
set_option maxHeartbeats 4000000 in
theorem ok_X7_begin_b81 {c : CtxT} {g : Gl} {l : Launch} {o : Nat} {v1 : Nat} {v3 : Int32} {v4 : Int32} {v5 : Int32} {q : Mem → Prop} {P37 : Int32 × Mem → Prop} {M : Mem} (C : Cx c cX7_begin 6 RX7 g l (Rm 2 60)) (r : Rt c (none) (pV q) 0 0) (ho : sh o = .inl 7) (hv1 : sh v1 = .inl 6) (hP37 : ∀ (v5 : Int32) (M : Mem), P37 (v5, M) → X c S0 37 [(0, .ref (g.2.2.2 + o)), (1, .ref (g.2.2.2 + v1)), (3, .int v3), (4, .int v4), (5, .int v5)] [] (stat M)) (hw : w_X7_begin_b81 o v1 v3 v4 v5 M q P37) : X c S0 81 [(0, .ref (g.2.2.2 + o)), (1, .ref (g.2.2.2 + v1)), (3, .int v3), (4, .int v4), (5, .int v5)] [] (stat M) := by
  unfold w_X7_begin_b81 at hw
  obtain ⟨x1, ex1⟩ : ∃ z : Int32, z = v5 + (1 : Int32) := ⟨_, rfl⟩
  replace hw := hw x1 ex1
  refine x_iinc (v := x1) C dX7_begin_81 rfl ex1.symm (Nat.le_of_ble_eq_true rfl) ?_
  refine x_goto (tgt := 37) C dX7_begin_84 (by decide) ?_
  exact x_sub [0, 1, 3, 4, 5] rfl (hP37 _ _ hw)
def w_X7_begin_l37F (o : Nat) (v1 : Nat) (v3 : Int32) (v4 : Int32) (q : Mem → Prop) (P37 : Int32 × Mem → Prop) (s : Int32 × Mem) : Prop := match s with
  | (v5, M) => (((M.1 v1 3) ≤ v5 → w_J7_fill_53178 (o + 4) (0 : Int32) M (fun (M3 : Mem) => w_J7_fill_53178 (o + 3) (0 : Int32) M3 (fun (M5 : Mem) => ¬ (v4 * (4 : Int32)) < 0 ∧ ((v4 * (4 : Int32))).toNatClampNeg + 4 ≤ 32 ∧ ∀ M9 : Mem, M9 = cpI M5 (v1 + 8) (o + 3) ((v4 * (4 : Int32))).toNatClampNeg 4 4 → q M9))) ∧ (¬ (M.1 v1 3) ≤ v5 → ((¬ ((v3 >>> (v5 &&& 31)) &&& (1 : Int32)) = (1 : Int32) → w_X7_begin_b81 o v1 v3 v4 v5 M q P37) ∧ (((v3 >>> (v5 &&& 31)) &&& (1 : Int32)) = (1 : Int32) → vp_in v5 10 ∧ ¬ (v5 * (4 : Int32)) < 0 ∧ ¬ ((M.1 (v1 + 4) (v5).toNatClampNeg) * (4 : Int32)) < 0 ∧ ((v5 * (4 : Int32))).toNatClampNeg + 4 ≤ 40 ∧ (((M.1 (v1 + 4) (v5).toNatClampNeg) * (4 : Int32))).toNatClampNeg + 4 ≤ 160 ∧ ∀ M16 : Mem, M16 = cpI M (v1 + 5) (o + 2) ((v5 * (4 : Int32))).toNatClampNeg (((M.1 (v1 + 4) (v5).toNatClampNeg) * (4 : Int32))).toNatClampNeg 4 → w_X7_begin_b81 o v1 v3 v4 v5 M16 q P37))))
def w_X7_begin_l37 (o : Nat) (v1 : Nat) (v3 : Int32) (v4 : Int32) (q : Mem → Prop) (s : Int32 × Mem) : Prop := lfp (w_X7_begin_l37F o v1 v3 v4 q ) s
set_option maxRecDepth 100000 in
set_option maxHeartbeats 4000000 in
theorem ok_X7_begin_l37 {c : CtxT} {g : Gl} {l : Launch} {o : Nat} {v1 : Nat} {v3 : Int32} {v4 : Int32} {q : Mem → Prop} {s : Int32 × Mem} (C : Cx c cX7_begin 6 RX7 g l (Rm 2 60)) (r : Rt c (none) (pV q) 0 0) (ho : sh o = .inl 7) (hv1 : sh v1 = .inl 6) (hw : w_X7_begin_l37 o v1 v3 v4 q s) : X c S0 37 [(0, .ref (g.2.2.2 + o)), (1, .ref (g.2.2.2 + v1)), (3, .int v3), (4, .int v4), (5, .int s.1)] [] (stat s.2) := hw (fun s => X c S0 37 [(0, .ref (g.2.2.2 + o)), (1, .ref (g.2.2.2 + v1)), (3, .int v3), (4, .int v4), (5, .int s.1)] [] (stat s.2)) (fun s hw => by
    obtain ⟨v5, M⟩ := s
    try dsimp only [w_X7_begin_l37F] at hw
    try dsimp only
    refine x_iload C dX7_begin_37 rfl ?_
    refine x_aload_n C dX7_begin_39 rfl rfl ?_
    refine n_getI C fl_X7_115 hv1 (fun _ _ => rfl) dX7_begin_40 ?_
    refine x_icmp_ge (tgt := 87) C dX7_begin_43 (by decide) (fun h2 => ?_) (fun h2 => ?_)
    · replace hw := hw.1 h2
      refine x_aload_n C dX7_begin_87 rfl rfl ?_
      refine n_getS (dd := 4) C fl_X7_21 ho (fun _ _ => rfl) rfl dX7_begin_88 ?_
      refine x_iconst (v := (0 : Int32)) C dX7_begin_91 (by decide) ?_
      refine n_callSV C (ok_J7_fill_53178 (ss_7_5 ho) hw) ms_X7_96 rfl rfl ⟨Nat.le_of_ble_eq_true rfl, Nat.le_of_ble_eq_true rfl⟩ (Nat.le_of_ble_eq_true rfl) dX7_begin_92 (fun M3 hw => ?_)
      refine x_aload_n C dX7_begin_95 rfl rfl ?_
      refine n_getS (dd := 3) C fl_X7_18 ho (fun _ _ => rfl) rfl dX7_begin_96 ?_
      refine x_iconst (v := (0 : Int32)) C dX7_begin_99 (by decide) ?_
      refine n_callSV C (ok_J7_fill_53178 (ss_7_4 ho) hw) ms_X7_96 rfl rfl ⟨Nat.le_of_ble_eq_true rfl, Nat.le_of_ble_eq_true rfl⟩ (Nat.le_of_ble_eq_true rfl) dX7_begin_100 (fun M5 hw => ?_)
      refine x_aload_n C dX7_begin_103 rfl rfl ?_
      refine n_getS (dd := 8) C fl_X7_124 hv1 (fun _ _ => rfl) rfl dX7_begin_104 ?_
      refine x_iload C dX7_begin_107 rfl ?_
      refine x_iconst (v := (4 : Int32)) C dX7_begin_109 (by decide) ?_
      refine x_imul C dX7_begin_110 ?_
      refine x_aload_n C dX7_begin_111 rfl rfl ?_
      refine n_getS (dd := 3) C fl_X7_18 ho (fun _ _ => rfl) rfl dX7_begin_112 ?_
      refine x_iconst (v := (4 : Int32)) C dX7_begin_115 (by decide) ?_
      refine x_iconst (v := (4 : Int32)) C dX7_begin_116 (by decide) ?_
      obtain ⟨h7, hw⟩ := hw
      obtain ⟨h8, hw⟩ := hw
      obtain ⟨M9, eM9⟩ : ∃ z : Mem, z = cpI M5 (v1 + 8) (o + 3) ((v4 * (4 : Int32))).toNatClampNeg 4 4 := ⟨_, rfl⟩
      replace hw := hw M9 eM9
      refine a_copy C ac_X7_109 ac_native ac_static ac_init (ss_6_11 hv1) (ss_7_4 ho) (sl_6_11 hv1) (sl_7_4 ho) rfl (by decide) (by decide) h7 (by decide) (by decide) h8 (by decide) eM9 (Nat.le_of_ble_eq_true rfl) (Nat.le_of_ble_eq_true rfl) (Nat.le_of_ble_eq_true rfl) dX7_begin_117 ?_
      exact n_vreturn C r dX7_begin_120 hw
    · replace hw := hw.2 h2
      refine x_iload_n C dX7_begin_46 rfl rfl ?_
      refine x_iload C dX7_begin_47 rfl ?_
      refine x_ishr C dX7_begin_49 ?_
      refine x_iconst (v := (1 : Int32)) C dX7_begin_50 (by decide) ?_
      refine x_iand C dX7_begin_51 ?_
      refine x_iconst (v := (1 : Int32)) C dX7_begin_52 (by decide) ?_
      refine x_icmp_ne (tgt := 81) C dX7_begin_53 (by decide) (fun h10 => ?_) (fun h10 => ?_)
      · replace hw := hw.1 h10
        exact x_sub [0, 1, 3, 4, 5] rfl (ok_X7_begin_b81 C r ho hv1 (fun _ _ h => h) hw)
      · replace hw := hw.2 h10
        refine x_aload_n C dX7_begin_56 rfl rfl ?_
        refine n_getS (dd := 5) C fl_X7_118 hv1 (fun _ _ => rfl) rfl dX7_begin_57 ?_
        refine x_iload C dX7_begin_60 rfl ?_
        refine x_iconst (v := (4 : Int32)) C dX7_begin_62 (by decide) ?_
        refine x_imul C dX7_begin_63 ?_
        refine x_aload_n C dX7_begin_64 rfl rfl ?_
        refine n_getS (dd := 2) C fl_X7_15 ho (fun _ _ => rfl) rfl dX7_begin_65 ?_
        refine x_aload_n C dX7_begin_68 rfl rfl ?_
        refine n_getS (dd := 4) C fl_X7_121 hv1 (fun _ _ => rfl) rfl dX7_begin_69 ?_
        refine x_iload C dX7_begin_72 rfl ?_
        obtain ⟨h11, hw⟩ := hw
        refine a_iald C (ss_6_5 hv1) (sl_6_5 hv1) h11 dX7_begin_74 ?_
        refine x_iconst (v := (4 : Int32)) C dX7_begin_75 (by decide) ?_
        refine x_imul C dX7_begin_76 ?_
        refine x_iconst (v := (4 : Int32)) C dX7_begin_77 (by decide) ?_
        obtain ⟨h12, hw⟩ := hw
        obtain ⟨h13, hw⟩ := hw
        obtain ⟨h14, hw⟩ := hw
        obtain ⟨h15, hw⟩ := hw
        obtain ⟨M16, eM16⟩ : ∃ z : Mem, z = cpI M (v1 + 5) (o + 2) ((v5 * (4 : Int32))).toNatClampNeg (((M.1 (v1 + 4) (v5).toNatClampNeg) * (4 : Int32))).toNatClampNeg 4 := ⟨_, rfl⟩
        replace hw := hw M16 eM16
        refine a_copy C ac_X7_109 ac_native ac_static ac_init (ss_6_6 hv1) (ss_7_2 ho) (sl_6_6 hv1) (sl_7_2 ho) rfl rfl (by decide) h12 h13 (by decide) h14 h15 eM16 (Nat.le_of_ble_eq_true rfl) (Nat.le_of_ble_eq_true rfl) (Nat.le_of_ble_eq_true rfl) dX7_begin_78 ?_
        exact x_sub [0, 1, 3, 4, 5] rfl (ok_X7_begin_b81 C r ho hv1 (fun _ _ h => h) hw))
def w_X7_begin (o : Nat) (v1 : Nat) (v2 : Int32) (v3 : Int32) (v4 : Int32) (M : Mem) (q : Mem → Prop) : Prop := vp_in v2 6 ∧ ∀ M18 : Mem, M18 = uI M o 3 (M.1 (v1 + 1) (v2).toNatClampNeg) → ¬ ((v2 * (40 : Int32)) * (4 : Int32)) < 0 ∧ ¬ ((M18.1 o 3) * (4 : Int32)) < 0 ∧ (((v2 * (40 : Int32)) * (4 : Int32))).toNatClampNeg + (((M18.1 o 3) * (4 : Int32))).toNatClampNeg ≤ 960 ∧ 0 + (((M18.1 o 3) * (4 : Int32))).toNatClampNeg ≤ 160 ∧ ∀ M23 : Mem, M23 = cpI M18 (v1 + 2) (o + 2) (((v2 * (40 : Int32)) * (4 : Int32))).toNatClampNeg 0 (((M18.1 o 3) * (4 : Int32))).toNatClampNeg → w_X7_begin_l37 o v1 v3 v4 q ((0 : Int32), M23)
set_option maxRecDepth 100000 in
set_option maxHeartbeats 4000000 in
theorem ok_X7_begin {g : Gl} {l : Launch} {o : Nat} {v1 : Nat} {v2 : Int32} {v3 : Int32} {v4 : Int32} {M : Mem} {q : Mem → Prop} (ho : sh o = .inl 7) (hv1 : sh v1 = .inl 6) (hw : w_X7_begin o v1 v2 v3 v4 M q) : CtV g l yX7_begin cX7_begin 6 none 2 60 [.ref (g.2.2.2 + o), .ref (g.2.2.2 + v1), .int v2, .int v3, .int v4] M q := by
  refine n_introV (by decide +kernel) (Nat.le_of_ble_eq_true rfl) (fun c C r => ?_)
  have C : Cx c cX7_begin 6 RX7 g l (Rm 2 60) := C
  refine x_sub [0, 1, 2, 3, 4] (lv' := [(0, .ref (g.2.2.2 + o)), (1, .ref (g.2.2.2 + v1)), (2, .int v2), (3, .int v3), (4, .int v4)]) rfl ?_
  unfold w_X7_begin at hw
  refine x_aload_n C dX7_begin_0 rfl rfl ?_
  refine x_aload_n C dX7_begin_1 rfl rfl ?_
  refine n_getS (dd := 1) C fl_X7_102 hv1 (fun _ _ => rfl) rfl dX7_begin_2 ?_
  refine x_iload_n C dX7_begin_5 rfl rfl ?_
  obtain ⟨h17, hw⟩ := hw
  refine a_iald C (ss_6_1 hv1) (sl_6_1 hv1) h17 dX7_begin_6 ?_
  obtain ⟨M18, eM18⟩ : ∃ z : Mem, z = uI M o 3 (M.1 (v1 + 1) (v2).toNatClampNeg) := ⟨_, rfl⟩
  replace hw := hw M18 eM18
  refine m_putI C fp_X7_105 ho (fun _ _ => rfl) rfl rfl eM18 dX7_begin_7 ?_
  refine x_aload_n C dX7_begin_10 rfl rfl ?_
  refine n_getS (dd := 2) C fl_X7_108 hv1 (fun _ _ => rfl) rfl dX7_begin_11 ?_
  refine x_iload_n C dX7_begin_14 rfl rfl ?_
  refine x_bipush (v := (40 : Int32)) C dX7_begin_15 (by decide) ?_
  refine x_imul C dX7_begin_17 ?_
  refine x_iconst (v := (4 : Int32)) C dX7_begin_18 (by decide) ?_
  refine x_imul C dX7_begin_19 ?_
  refine x_aload_n C dX7_begin_20 rfl rfl ?_
  refine n_getS (dd := 2) C fl_X7_15 ho (fun _ _ => rfl) rfl dX7_begin_21 ?_
  refine x_iconst (v := (0 : Int32)) C dX7_begin_24 (by decide) ?_
  refine x_aload_n C dX7_begin_25 rfl rfl ?_
  refine n_getI C fl_X7_105 ho (fun _ _ => rfl) dX7_begin_26 ?_
  refine x_iconst (v := (4 : Int32)) C dX7_begin_29 (by decide) ?_
  refine x_imul C dX7_begin_30 ?_
  obtain ⟨h19, hw⟩ := hw
  obtain ⟨h20, hw⟩ := hw
  obtain ⟨h21, hw⟩ := hw
  obtain ⟨h22, hw⟩ := hw
  obtain ⟨M23, eM23⟩ : ∃ z : Mem, z = cpI M18 (v1 + 2) (o + 2) (((v2 * (40 : Int32)) * (4 : Int32))).toNatClampNeg 0 (((M18.1 o 3) * (4 : Int32))).toNatClampNeg := ⟨_, rfl⟩
  replace hw := hw M23 eM23
  refine a_copy C ac_X7_109 ac_native ac_static ac_init (ss_6_2 hv1) (ss_7_2 ho) (sl_6_2 hv1) (sl_7_2 ho) rfl (by decide) rfl h19 (by decide) h20 h21 h22 eM23 (Nat.le_of_ble_eq_true rfl) (Nat.le_of_ble_eq_true rfl) (Nat.le_of_ble_eq_true rfl) dX7_begin_31 ?_
  refine x_iconst (v := (0 : Int32)) C dX7_begin_34 (by decide) ?_
  refine x_istore C dX7_begin_35 (Nat.le_of_ble_eq_true rfl) ?_
  exact x_sub [0, 1, 3, 4, 5] rfl (ok_X7_begin_l37 C r ho hv1 hw)

def w_X7_leap_b73 (o : Nat) (v1 : Int32) (v2 : Int32) (M : Mem) (q : Int32 → Mem → Prop) : Prop := ((¬ v2 = (1 : Int32) → q (v1 + (1 : Int32)) M) ∧ (v2 = (1 : Int32) → vp_in ((v1 * (4 : Int32)) + (2 : Int32)) 160 ∧ q (M.1 (o + 2) (((v1 * (4 : Int32)) + (2 : Int32))).toNatClampNeg) M))
set_option maxRecDepth 100000 in
set_option maxHeartbeats 4000000 in
theorem ok_X7_leap_b73 {c : CtxT} {g : Gl} {l : Launch} {o : Nat} {v1 : Int32} {v2 : Int32} {q : Int32 → Mem → Prop} {M : Mem} (C : Cx c cX7_leap 4 RX7 g l (Rm 2 22)) (r : Rt c (some .int) (pI q) 0 0) (ho : sh o = .inl 7) (hw : w_X7_leap_b73 o v1 v2 M q ) : X c S0 73 [(0, .ref (g.2.2.2 + o)), (1, .int v1), (2, .int v2)] [] (stat M) := by
  unfold w_X7_leap_b73 at hw
  refine x_iload_n C dX7_leap_73 rfl rfl ?_
  refine x_iconst (v := (1 : Int32)) C dX7_leap_74 (by decide) ?_
  refine x_icmp_ne (tgt := 91) C dX7_leap_75 (by decide) (fun h1 => ?_) (fun h1 => ?_)
  · replace hw := hw.1 h1
    refine x_iload_n C dX7_leap_91 rfl rfl ?_
    refine x_iconst (v := (1 : Int32)) C dX7_leap_92 (by decide) ?_
    refine x_iadd C dX7_leap_93 ?_
    exact n_ireturn C r dX7_leap_94 hw
  · replace hw := hw.2 h1
    refine x_aload_n C dX7_leap_78 rfl rfl ?_
    refine n_getS (dd := 2) C fl_X7_15 ho (fun _ _ => rfl) rfl dX7_leap_79 ?_
    refine x_iload_n C dX7_leap_82 rfl rfl ?_
    refine x_iconst (v := (4 : Int32)) C dX7_leap_83 (by decide) ?_
    refine x_imul C dX7_leap_84 ?_
    refine x_iconst (v := (2 : Int32)) C dX7_leap_85 (by decide) ?_
    refine x_iadd C dX7_leap_86 ?_
    obtain ⟨h2, hw⟩ := hw
    refine a_iald C (ss_7_2 ho) (sl_7_2 ho) h2 dX7_leap_87 ?_
    refine x_goto (tgt := 94) C dX7_leap_88 (by decide) ?_
    exact n_ireturn C r dX7_leap_94 hw
def w_X7_leap_b23 (o : Nat) (v1 : Int32) (t0 : Int32) (M : Mem) (q : Int32 → Mem → Prop) : Prop := ∃ k3 : Nat, M.2.2 o 8 = some k3 ∧ sh k3 = .inl 3 ∧ w_X11_leftOver v1 (M.1 k3 5) M (fun (r5 : Int32) (M4 : Mem) => ∀ M6 : Mem, M6 = uI M4 (o + 1) 3 ((M4.1 (o + 1) 3) + (1 : Int32)) → ∃ k7 : Nat, M6.2.2 o 10 = some k7 ∧ isA 0 k7 ∧ vp_in r5 (len k7) ∧ (((M6.1 k7 (r5).toNatClampNeg) = t0 → w_X7_leap_b73 o v1 t0 M6 q) ∧ (¬ (M6.1 k7 (r5).toNatClampNeg) = t0 → ∀ M10 : Mem, M10 = uI M6 (o + 1) 4 ((M6.1 (o + 1) 4) + (1 : Int32)) → ∃ k11 : Nat, M10.2.2 o 10 = some k11 ∧ isA 0 k11 ∧ vp_in r5 (len k11) ∧ ∀ M13 : Mem, M13 = uI M10 k11 (r5).toNatClampNeg t0 → w_X7_leap_b73 o v1 t0 M13 q)))
set_option maxRecDepth 100000 in
set_option maxHeartbeats 4000000 in
theorem ok_X7_leap_b23 {c : CtxT} {g : Gl} {l : Launch} {o : Nat} {v1 : Int32} {t0 : Int32} {q : Int32 → Mem → Prop} {M : Mem} (C : Cx c cX7_leap 4 RX7 g l (Rm 2 22)) (r : Rt c (some .int) (pI q) 0 0) (ho : sh o = .inl 7) (hw : w_X7_leap_b23 o v1 t0 M q ) : X c S0 23 [(0, .ref (g.2.2.2 + o)), (1, .int v1)] [.int t0] (stat M) := by
  unfold w_X7_leap_b23 at hw
  refine x_istore_n C dX7_leap_23 rfl (Nat.le_of_ble_eq_true rfl) ?_
  refine x_iload_n C dX7_leap_24 rfl rfl ?_
  refine x_aload_n C dX7_leap_25 rfl rfl ?_
  obtain ⟨k3, rk3, sk3, hw⟩ := hw
  refine n_getR C fl_X7_33 ho (fun _ _ => rfl) rfl rk3 dX7_leap_26 ?_
  refine n_getI C fl_X7_160 sk3 (fun _ _ => rfl) dX7_leap_29 ?_
  refine n_callNI C (ok_X11_leftOver  hw) mn_X7_149 rfl rfl ⟨Nat.le_of_ble_eq_true rfl, Nat.le_of_ble_eq_true rfl⟩ (Nat.le_of_ble_eq_true rfl) dX7_leap_32 (fun r5 M4 hw => ?_)
  refine x_istore_n C dX7_leap_35 rfl (Nat.le_of_ble_eq_true rfl) ?_
  refine x_aload_n C dX7_leap_36 rfl rfl ?_
  refine n_getS (dd := 1) C fl_X7_9 ho (fun _ _ => rfl) rfl dX7_leap_37 ?_
  refine x_iconst (v := (3 : Int32)) C dX7_leap_40 (by decide) ?_
  refine x_dup2_11 C dX7_leap_41 rfl rfl ?_
  refine a_ialdL (ni := 3) C (ss_7_0 ho) (sl_7_0 ho) (by decide) (vin _ _ (by decide +kernel)) dX7_leap_42 ?_
  refine x_iconst (v := (1 : Int32)) C dX7_leap_43 (by decide) ?_
  refine x_iadd C dX7_leap_44 ?_
  obtain ⟨M6, eM6⟩ : ∃ z : Mem, z = uI M4 (o + 1) 3 ((M4.1 (o + 1) 3) + (1 : Int32)) := ⟨_, rfl⟩
  replace hw := hw M6 eM6
  refine a_iast C (ss_7_0 ho) (sl_7_0 ho) (by decide) (vin _ _ (by decide +kernel)) eM6 dX7_leap_45 ?_
  refine x_aload_n C dX7_leap_46 rfl rfl ?_
  obtain ⟨k7, rk7, sk7, hw⟩ := hw
  refine n_getR C fl_X7_40 ho (fun _ _ => rfl) rfl rk7 dX7_leap_47 ?_
  refine x_iload_n C dX7_leap_50 rfl rfl ?_
  obtain ⟨h8, hw⟩ := hw
  refine a_iald C sk7 rfl h8 dX7_leap_51 ?_
  refine x_iload_n C dX7_leap_52 rfl rfl ?_
  refine x_icmp_eq (tgt := 73) C dX7_leap_53 (by decide) (fun h9 => ?_) (fun h9 => ?_)
  · replace hw := hw.1 h9
    exact x_sub [0, 1, 2] rfl (ok_X7_leap_b73 C r ho hw)
  · replace hw := hw.2 h9
    refine x_aload_n C dX7_leap_56 rfl rfl ?_
    refine n_getS (dd := 1) C fl_X7_9 ho (fun _ _ => rfl) rfl dX7_leap_57 ?_
    refine x_iconst (v := (4 : Int32)) C dX7_leap_60 (by decide) ?_
    refine x_dup2_11 C dX7_leap_61 rfl rfl ?_
    refine a_ialdL (ni := 4) C (ss_7_0 ho) (sl_7_0 ho) (by decide) (vin _ _ (by decide +kernel)) dX7_leap_62 ?_
    refine x_iconst (v := (1 : Int32)) C dX7_leap_63 (by decide) ?_
    refine x_iadd C dX7_leap_64 ?_
    obtain ⟨M10, eM10⟩ : ∃ z : Mem, z = uI M6 (o + 1) 4 ((M6.1 (o + 1) 4) + (1 : Int32)) := ⟨_, rfl⟩
    replace hw := hw M10 eM10
    refine a_iast C (ss_7_0 ho) (sl_7_0 ho) (by decide) (vin _ _ (by decide +kernel)) eM10 dX7_leap_65 ?_
    refine x_aload_n C dX7_leap_66 rfl rfl ?_
    obtain ⟨k11, rk11, sk11, hw⟩ := hw
    refine n_getR C fl_X7_40 ho (fun _ _ => rfl) rfl rk11 dX7_leap_67 ?_
    refine x_iload_n C dX7_leap_70 rfl rfl ?_
    refine x_iload_n C dX7_leap_71 rfl rfl ?_
    obtain ⟨h12, hw⟩ := hw
    obtain ⟨M13, eM13⟩ : ∃ z : Mem, z = uI M10 k11 (r5).toNatClampNeg t0 := ⟨_, rfl⟩
    replace hw := hw M13 eM13
    refine a_iast C sk11 rfl rfl h12 eM13 dX7_leap_72 ?_
    exact x_sub [0, 1, 2] rfl (ok_X7_leap_b73 C r ho hw)
def w_X7_leap (o : Nat) (v1 : Int32) (M : Mem) (q : Int32 → Mem → Prop) : Prop := vp_in ((v1 * (4 : Int32)) + (1 : Int32)) 160 ∧ vp_in (M.1 (o + 2) (((v1 * (4 : Int32)) + (1 : Int32))).toNatClampNeg) 8 ∧ (((M.1 (o + 3) ((M.1 (o + 2) (((v1 * (4 : Int32)) + (1 : Int32))).toNatClampNeg)).toNatClampNeg) ≤ 0 → w_X7_leap_b23 o v1 (0 : Int32) M q) ∧ (¬ (M.1 (o + 3) ((M.1 (o + 2) (((v1 * (4 : Int32)) + (1 : Int32))).toNatClampNeg)).toNatClampNeg) ≤ 0 → w_X7_leap_b23 o v1 (1 : Int32) M q))
set_option maxRecDepth 100000 in
set_option maxHeartbeats 4000000 in
theorem ok_X7_leap {g : Gl} {l : Launch} {o : Nat} {v1 : Int32} {M : Mem} {q : Int32 → Mem → Prop} (ho : sh o = .inl 7) (hw : w_X7_leap o v1 M q) : CtI g l yX7_leap cX7_leap 4 (some .int) 2 22 [.ref (g.2.2.2 + o), .int v1] M q := by
  refine n_introI (by decide +kernel) (Nat.le_of_ble_eq_true rfl) (fun c C r => ?_)
  have C : Cx c cX7_leap 4 RX7 g l (Rm 2 22) := C
  refine x_sub [0, 1] (lv' := [(0, .ref (g.2.2.2 + o)), (1, .int v1)]) rfl ?_
  unfold w_X7_leap at hw
  refine x_aload_n C dX7_leap_0 rfl rfl ?_
  refine n_getS (dd := 3) C fl_X7_18 ho (fun _ _ => rfl) rfl dX7_leap_1 ?_
  refine x_aload_n C dX7_leap_4 rfl rfl ?_
  refine n_getS (dd := 2) C fl_X7_15 ho (fun _ _ => rfl) rfl dX7_leap_5 ?_
  refine x_iload_n C dX7_leap_8 rfl rfl ?_
  refine x_iconst (v := (4 : Int32)) C dX7_leap_9 (by decide) ?_
  refine x_imul C dX7_leap_10 ?_
  refine x_iconst (v := (1 : Int32)) C dX7_leap_11 (by decide) ?_
  refine x_iadd C dX7_leap_12 ?_
  obtain ⟨h14, hw⟩ := hw
  refine a_iald C (ss_7_2 ho) (sl_7_2 ho) h14 dX7_leap_13 ?_
  obtain ⟨h15, hw⟩ := hw
  refine a_iald C (ss_7_4 ho) (sl_7_4 ho) h15 dX7_leap_14 ?_
  refine x_if_le (tgt := 22) C dX7_leap_15 (by decide) (fun h16 => ?_) (fun h16 => ?_)
  · replace hw := hw.1 h16
    refine x_iconst (v := (0 : Int32)) C dX7_leap_22 (by decide) ?_
    exact x_sub [0, 1] rfl (ok_X7_leap_b23 C r ho hw)
  · replace hw := hw.2 h16
    refine x_iconst (v := (1 : Int32)) C dX7_leap_18 (by decide) ?_
    refine x_goto (tgt := 23) C dX7_leap_19 (by decide) ?_
    exact x_sub [0, 1] rfl (ok_X7_leap_b23 C r ho hw)

def w_X7_touched (o : Nat) (v1 : Int32) (M : Mem) (q : Int32 → Mem → Prop) : Prop := w_X11_leftOver v1 (64 : Int32) M (fun (r2 : Int32) (M1 : Mem) => ∃ k3 : Nat, M1.2.2 o 8 = some k3 ∧ sh k3 = .inl 3 ∧ w_X11_cutBy (r2 + (M1.1 o 11)) (M1.1 k3 2) M1 (fun (r5 : Int32) (M4 : Mem) => ∃ k6 : Nat, M4.2.2 o 8 = some k6 ∧ sh k6 = .inl 3 ∧ w_X11_leftOver r5 (M4.1 k6 1) M4 (fun (r8 : Int32) (M7 : Mem) => ∀ M9 : Mem, M9 = uI M7 (o + 1) 1 ((M7.1 (o + 1) 1) + (1 : Int32)) → ∃ k10 : Nat, M9.2.2 o 9 = some k10 ∧ isA 0 k10 ∧ vp_in r8 (len k10) ∧ (((M9.1 k10 (r8).toNatClampNeg) = r5 → q r2 M9) ∧ (¬ (M9.1 k10 (r8).toNatClampNeg) = r5 → ∀ M13 : Mem, M13 = uI M9 (o + 1) 2 ((M9.1 (o + 1) 2) + (1 : Int32)) → ∃ k14 : Nat, M13.2.2 o 9 = some k14 ∧ isA 0 k14 ∧ vp_in r8 (len k14) ∧ ∀ M16 : Mem, M16 = uI M13 k14 (r8).toNatClampNeg r5 → q r2 M16)))))
set_option maxRecDepth 100000 in
set_option maxHeartbeats 4000000 in
theorem ok_X7_touched {g : Gl} {l : Launch} {o : Nat} {v1 : Int32} {M : Mem} {q : Int32 → Mem → Prop} (ho : sh o = .inl 7) (hw : w_X7_touched o v1 M q) : CtI g l yX7_touched cX7_touched 5 (some .int) 2 22 [.ref (g.2.2.2 + o), .int v1] M q := by
  refine n_introI (by decide +kernel) (Nat.le_of_ble_eq_true rfl) (fun c C r => ?_)
  have C : Cx c cX7_touched 5 RX7 g l (Rm 2 22) := C
  refine x_sub [0, 1] (lv' := [(0, .ref (g.2.2.2 + o)), (1, .int v1)]) rfl ?_
  unfold w_X7_touched at hw
  refine x_iload_n C dX7_touched_0 rfl rfl ?_
  refine x_bipush (v := (64 : Int32)) C dX7_touched_1 (by decide) ?_
  refine n_callNI C (ok_X11_leftOver  hw) mn_X7_149 rfl rfl ⟨Nat.le_of_ble_eq_true rfl, Nat.le_of_ble_eq_true rfl⟩ (Nat.le_of_ble_eq_true rfl) dX7_touched_3 (fun r2 M1 hw => ?_)
  refine x_istore_n C dX7_touched_6 rfl (Nat.le_of_ble_eq_true rfl) ?_
  refine x_iload_n C dX7_touched_7 rfl rfl ?_
  refine x_aload_n C dX7_touched_8 rfl rfl ?_
  refine n_getI C fl_X7_58 ho (fun _ _ => rfl) dX7_touched_9 ?_
  refine x_iadd C dX7_touched_12 ?_
  refine x_aload_n C dX7_touched_13 rfl rfl ?_
  obtain ⟨k3, rk3, sk3, hw⟩ := hw
  refine n_getR C fl_X7_33 ho (fun _ _ => rfl) rfl rk3 dX7_touched_14 ?_
  refine n_getI C fl_X7_152 sk3 (fun _ _ => rfl) dX7_touched_17 ?_
  refine n_callNI C (ok_X11_cutBy  hw) mn_X7_155 rfl rfl ⟨Nat.le_of_ble_eq_true rfl, Nat.le_of_ble_eq_true rfl⟩ (Nat.le_of_ble_eq_true rfl) dX7_touched_20 (fun r5 M4 hw => ?_)
  refine x_istore_n C dX7_touched_23 rfl (Nat.le_of_ble_eq_true rfl) ?_
  refine x_iload_n C dX7_touched_24 rfl rfl ?_
  refine x_aload_n C dX7_touched_25 rfl rfl ?_
  obtain ⟨k6, rk6, sk6, hw⟩ := hw
  refine n_getR C fl_X7_33 ho (fun _ _ => rfl) rfl rk6 dX7_touched_26 ?_
  refine n_getI C fl_X7_158 sk6 (fun _ _ => rfl) dX7_touched_29 ?_
  refine n_callNI C (ok_X11_leftOver  hw) mn_X7_149 rfl rfl ⟨Nat.le_of_ble_eq_true rfl, Nat.le_of_ble_eq_true rfl⟩ (Nat.le_of_ble_eq_true rfl) dX7_touched_32 (fun r8 M7 hw => ?_)
  refine x_istore C dX7_touched_35 (Nat.le_of_ble_eq_true rfl) ?_
  refine x_aload_n C dX7_touched_37 rfl rfl ?_
  refine n_getS (dd := 1) C fl_X7_9 ho (fun _ _ => rfl) rfl dX7_touched_38 ?_
  refine x_iconst (v := (1 : Int32)) C dX7_touched_41 (by decide) ?_
  refine x_dup2_11 C dX7_touched_42 rfl rfl ?_
  refine a_ialdL (ni := 1) C (ss_7_0 ho) (sl_7_0 ho) (by decide) (vin _ _ (by decide +kernel)) dX7_touched_43 ?_
  refine x_iconst (v := (1 : Int32)) C dX7_touched_44 (by decide) ?_
  refine x_iadd C dX7_touched_45 ?_
  obtain ⟨M9, eM9⟩ : ∃ z : Mem, z = uI M7 (o + 1) 1 ((M7.1 (o + 1) 1) + (1 : Int32)) := ⟨_, rfl⟩
  replace hw := hw M9 eM9
  refine a_iast C (ss_7_0 ho) (sl_7_0 ho) (by decide) (vin _ _ (by decide +kernel)) eM9 dX7_touched_46 ?_
  refine x_aload_n C dX7_touched_47 rfl rfl ?_
  obtain ⟨k10, rk10, sk10, hw⟩ := hw
  refine n_getR C fl_X7_37 ho (fun _ _ => rfl) rfl rk10 dX7_touched_48 ?_
  refine x_iload C dX7_touched_51 rfl ?_
  obtain ⟨h11, hw⟩ := hw
  refine a_iald C sk10 rfl h11 dX7_touched_53 ?_
  refine x_iload_n C dX7_touched_54 rfl rfl ?_
  refine x_icmp_eq (tgt := 76) C dX7_touched_55 (by decide) (fun h12 => ?_) (fun h12 => ?_)
  · replace hw := hw.1 h12
    refine x_iload_n C dX7_touched_76 rfl rfl ?_
    exact n_ireturn C r dX7_touched_77 hw
  · replace hw := hw.2 h12
    refine x_aload_n C dX7_touched_58 rfl rfl ?_
    refine n_getS (dd := 1) C fl_X7_9 ho (fun _ _ => rfl) rfl dX7_touched_59 ?_
    refine x_iconst (v := (2 : Int32)) C dX7_touched_62 (by decide) ?_
    refine x_dup2_11 C dX7_touched_63 rfl rfl ?_
    refine a_ialdL (ni := 2) C (ss_7_0 ho) (sl_7_0 ho) (by decide) (vin _ _ (by decide +kernel)) dX7_touched_64 ?_
    refine x_iconst (v := (1 : Int32)) C dX7_touched_65 (by decide) ?_
    refine x_iadd C dX7_touched_66 ?_
    obtain ⟨M13, eM13⟩ : ∃ z : Mem, z = uI M9 (o + 1) 2 ((M9.1 (o + 1) 2) + (1 : Int32)) := ⟨_, rfl⟩
    replace hw := hw M13 eM13
    refine a_iast C (ss_7_0 ho) (sl_7_0 ho) (by decide) (vin _ _ (by decide +kernel)) eM13 dX7_touched_67 ?_
    refine x_aload_n C dX7_touched_68 rfl rfl ?_
    obtain ⟨k14, rk14, sk14, hw⟩ := hw
    refine n_getR C fl_X7_37 ho (fun _ _ => rfl) rfl rk14 dX7_touched_69 ?_
    refine x_iload C dX7_touched_72 rfl ?_
    refine x_iload_n C dX7_touched_74 rfl rfl ?_
    obtain ⟨h15, hw⟩ := hw
    obtain ⟨M16, eM16⟩ : ∃ z : Mem, z = uI M13 k14 (r8).toNatClampNeg r5 := ⟨_, rfl⟩
    replace hw := hw M16 eM16
    refine a_iast C sk14 rfl rfl h15 eM16 dX7_touched_75 ?_
    refine x_iload_n C dX7_touched_76 rfl rfl ?_
    exact n_ireturn C r dX7_touched_77 hw

def w_X7_work (o : Nat) (v1 : Int32) (v2 : Int32) (M : Mem) (q : Int32 → Mem → Prop) : Prop := vp_in ((v2 * (4 : Int32)) + (1 : Int32)) 160 ∧ ∀ x2 : Int32, x2 = (M.1 (o + 2) (((v2 * (4 : Int32)) + (1 : Int32))).toNatClampNeg) → vp_in ((v2 * (4 : Int32)) + (2 : Int32)) 160 ∧ ∀ x4 : Int32, x4 = (M.1 (o + 2) (((v2 * (4 : Int32)) + (2 : Int32))).toNatClampNeg) → vp_in ((v2 * (4 : Int32)) + (3 : Int32)) 160 ∧ ∀ x6 : Int32, x6 = (M.1 (o + 2) (((v2 * (4 : Int32)) + (3 : Int32))).toNatClampNeg) → ((v1 = (0 : Int32) → vp_in x2 8 ∧ ∀ M15 : Mem, M15 = uI M (o + 3) (x2).toNatClampNeg x4 → q (v2 + (1 : Int32)) M15) ∧ (v1 = (1 : Int32) → vp_in x4 8 ∧ vp_in x6 8 ∧ vp_in x2 8 ∧ ∀ M19 : Mem, M19 = uI M (o + 3) (x2).toNatClampNeg ((M.1 (o + 3) (x4).toNatClampNeg) + (M.1 (o + 3) (x6).toNatClampNeg)) → q (v2 + (1 : Int32)) M19) ∧ (v1 = (2 : Int32) → vp_in x4 8 ∧ vp_in x6 8 ∧ vp_in x2 8 ∧ ∀ M23 : Mem, M23 = uI M (o + 3) (x2).toNatClampNeg ((M.1 (o + 3) (x4).toNatClampNeg) - (M.1 (o + 3) (x6).toNatClampNeg)) → q (v2 + (1 : Int32)) M23) ∧ (v1 = (3 : Int32) → vp_in x4 8 ∧ vp_in x6 8 ∧ vp_in x2 8 ∧ ∀ M27 : Mem, M27 = uI M (o + 3) (x2).toNatClampNeg ((M.1 (o + 3) (x4).toNatClampNeg) * (M.1 (o + 3) (x6).toNatClampNeg)) → q (v2 + (1 : Int32)) M27) ∧ (v1 = (4 : Int32) → vp_in x4 8 ∧ w_X7_touched o (M.1 (o + 3) (x4).toNatClampNeg) M (fun (r30 : Int32) (M29 : Mem) => vp_in r30 64 ∧ vp_in x2 8 ∧ ∀ M33 : Mem, M33 = uI M29 (o + 3) (x2).toNatClampNeg (M29.1 (o + 4) (r30).toNatClampNeg) → q (v2 + (1 : Int32)) M33)) ∧ (((v1).toInt < 0 ∨ 4 < (v1).toInt) → vp_in x4 8 ∧ w_X7_touched o (M.1 (o + 3) (x4).toNatClampNeg) M (fun (r10 : Int32) (M9 : Mem) => vp_in x2 8 ∧ vp_in r10 64 ∧ ∀ M13 : Mem, M13 = uI M9 (o + 4) (r10).toNatClampNeg (M9.1 (o + 3) (x2).toNatClampNeg) → q (v2 + (1 : Int32)) M13)))
set_option maxRecDepth 100000 in
set_option maxHeartbeats 4000000 in
theorem ok_X7_work {g : Gl} {l : Launch} {o : Nat} {v1 : Int32} {v2 : Int32} {M : Mem} {q : Int32 → Mem → Prop} (ho : sh o = .inl 7) (hw : w_X7_work o v1 v2 M q) : CtI g l yX7_work cX7_work 6 (some .int) 3 46 [.ref (g.2.2.2 + o), .int v1, .int v2] M q := by
  refine n_introI (by decide +kernel) (Nat.le_of_ble_eq_true rfl) (fun c C r => ?_)
  have C : Cx c cX7_work 6 RX7 g l (Rm 3 46) := C
  refine x_sub [0, 1, 2] (lv' := [(0, .ref (g.2.2.2 + o)), (1, .int v1), (2, .int v2)]) rfl ?_
  unfold w_X7_work at hw
  refine x_aload_n C dX7_work_0 rfl rfl ?_
  refine n_getS (dd := 2) C fl_X7_15 ho (fun _ _ => rfl) rfl dX7_work_1 ?_
  refine x_iload_n C dX7_work_4 rfl rfl ?_
  refine x_iconst (v := (4 : Int32)) C dX7_work_5 (by decide) ?_
  refine x_imul C dX7_work_6 ?_
  refine x_iconst (v := (1 : Int32)) C dX7_work_7 (by decide) ?_
  refine x_iadd C dX7_work_8 ?_
  obtain ⟨h1, hw⟩ := hw
  refine a_iald C (ss_7_2 ho) (sl_7_2 ho) h1 dX7_work_9 ?_
  obtain ⟨x2, ex2⟩ : ∃ z : Int32, z = (M.1 (o + 2) (((v2 * (4 : Int32)) + (1 : Int32))).toNatClampNeg) := ⟨_, rfl⟩
  replace hw := hw x2 ex2
  refine x_topi ex2 ?_
  refine x_istore_n C dX7_work_10 rfl (Nat.le_of_ble_eq_true rfl) ?_
  refine x_aload_n C dX7_work_11 rfl rfl ?_
  refine n_getS (dd := 2) C fl_X7_15 ho (fun _ _ => rfl) rfl dX7_work_12 ?_
  refine x_iload_n C dX7_work_15 rfl rfl ?_
  refine x_iconst (v := (4 : Int32)) C dX7_work_16 (by decide) ?_
  refine x_imul C dX7_work_17 ?_
  refine x_iconst (v := (2 : Int32)) C dX7_work_18 (by decide) ?_
  refine x_iadd C dX7_work_19 ?_
  obtain ⟨h3, hw⟩ := hw
  refine a_iald C (ss_7_2 ho) (sl_7_2 ho) h3 dX7_work_20 ?_
  obtain ⟨x4, ex4⟩ : ∃ z : Int32, z = (M.1 (o + 2) (((v2 * (4 : Int32)) + (2 : Int32))).toNatClampNeg) := ⟨_, rfl⟩
  replace hw := hw x4 ex4
  refine x_topi ex4 ?_
  refine x_istore C dX7_work_21 (Nat.le_of_ble_eq_true rfl) ?_
  refine x_aload_n C dX7_work_23 rfl rfl ?_
  refine n_getS (dd := 2) C fl_X7_15 ho (fun _ _ => rfl) rfl dX7_work_24 ?_
  refine x_iload_n C dX7_work_27 rfl rfl ?_
  refine x_iconst (v := (4 : Int32)) C dX7_work_28 (by decide) ?_
  refine x_imul C dX7_work_29 ?_
  refine x_iconst (v := (3 : Int32)) C dX7_work_30 (by decide) ?_
  refine x_iadd C dX7_work_31 ?_
  obtain ⟨h5, hw⟩ := hw
  refine a_iald C (ss_7_2 ho) (sl_7_2 ho) h5 dX7_work_32 ?_
  obtain ⟨x6, ex6⟩ : ∃ z : Int32, z = (M.1 (o + 2) (((v2 * (4 : Int32)) + (3 : Int32))).toNatClampNeg) := ⟨_, rfl⟩
  replace hw := hw x6 ex6
  refine x_topi ex6 ?_
  refine x_istore C dX7_work_33 (Nat.le_of_ble_eq_true rfl) ?_
  refine x_iload_n C dX7_work_35 rfl rfl ?_
  by_cases h7 : (v1).toInt < 0 ∨ 4 < (v1).toInt
  · refine x_tableOut (tgt := 180) C dX7_work_36 h7 (by decide) ?_
    replace hw := hw.2.2.2.2.2 h7
    refine x_aload_n C dX7_work_180 rfl rfl ?_
    refine n_getS (dd := 4) C fl_X7_21 ho (fun _ _ => rfl) rfl dX7_work_181 ?_
    refine x_aload_n C dX7_work_184 rfl rfl ?_
    refine x_aload_n C dX7_work_185 rfl rfl ?_
    refine n_getS (dd := 3) C fl_X7_18 ho (fun _ _ => rfl) rfl dX7_work_186 ?_
    refine x_iload C dX7_work_189 rfl ?_
    obtain ⟨h8, hw⟩ := hw
    refine a_iald C (ss_7_4 ho) (sl_7_4 ho) h8 dX7_work_191 ?_
    refine n_callVI ho rfl C (ok_X7_touched ho hw) mv_X7_146 rfl rfl ⟨Nat.le_of_ble_eq_true rfl, Nat.le_of_ble_eq_true rfl⟩ (Nat.le_of_ble_eq_true rfl) dX7_work_192 (fun r10 M9 hw => ?_)
    refine x_aload_n C dX7_work_195 rfl rfl ?_
    refine n_getS (dd := 3) C fl_X7_18 ho (fun _ _ => rfl) rfl dX7_work_196 ?_
    refine x_iload_n C dX7_work_199 rfl rfl ?_
    obtain ⟨h11, hw⟩ := hw
    refine a_iald C (ss_7_4 ho) (sl_7_4 ho) h11 dX7_work_200 ?_
    obtain ⟨h12, hw⟩ := hw
    obtain ⟨M13, eM13⟩ : ∃ z : Mem, z = uI M9 (o + 4) (r10).toNatClampNeg (M9.1 (o + 3) (x2).toNatClampNeg) := ⟨_, rfl⟩
    replace hw := hw M13 eM13
    refine a_iast C (ss_7_5 ho) (sl_7_5 ho) rfl h12 eM13 dX7_work_201 ?_
    refine x_iload_n C dX7_work_202 rfl rfl ?_
    refine x_iconst (v := (1 : Int32)) C dX7_work_203 (by decide) ?_
    refine x_iadd C dX7_work_204 ?_
    exact n_ireturn C r dX7_work_205 hw
  · have hlo : ¬ (v1).toInt < 0 := fun z => h7 (Or.inl z)
    have hhi : ¬ 4 < (v1).toInt := fun z => h7 (Or.inr z)
    have hor : (v1).toInt = 0 ∨ (v1).toInt = 1 ∨ (v1).toInt = 2 ∨ (v1).toInt = 3 ∨ (v1).toInt = 4 := by omega
    rcases hor with hor | hor | hor | hor | hor
    · have heq : v1 = (0 : Int32) := Int32.toInt_inj.mp (hor.trans (by decide))
      refine x_tableIn (off := 36) (tgt := 72) C dX7_work_36 hlo hhi (by rw [hor]; decide) (by decide) ?_
      replace hw := hw.1 heq
      refine x_aload_n C dX7_work_72 rfl rfl ?_
      refine n_getS (dd := 3) C fl_X7_18 ho (fun _ _ => rfl) rfl dX7_work_73 ?_
      refine x_iload_n C dX7_work_76 rfl rfl ?_
      refine x_iload C dX7_work_77 rfl ?_
      obtain ⟨h14, hw⟩ := hw
      obtain ⟨M15, eM15⟩ : ∃ z : Mem, z = uI M (o + 3) (x2).toNatClampNeg x4 := ⟨_, rfl⟩
      replace hw := hw M15 eM15
      refine a_iast C (ss_7_4 ho) (sl_7_4 ho) rfl h14 eM15 dX7_work_79 ?_
      refine x_goto (tgt := 202) C dX7_work_80 (by decide) ?_
      refine x_iload_n C dX7_work_202 rfl rfl ?_
      refine x_iconst (v := (1 : Int32)) C dX7_work_203 (by decide) ?_
      refine x_iadd C dX7_work_204 ?_
      exact n_ireturn C r dX7_work_205 hw
    · have heq : v1 = (1 : Int32) := Int32.toInt_inj.mp (hor.trans (by decide))
      refine x_tableIn (off := 47) (tgt := 83) C dX7_work_36 hlo hhi (by rw [hor]; decide) (by decide) ?_
      replace hw := hw.2.1 heq
      refine x_aload_n C dX7_work_83 rfl rfl ?_
      refine n_getS (dd := 3) C fl_X7_18 ho (fun _ _ => rfl) rfl dX7_work_84 ?_
      refine x_iload_n C dX7_work_87 rfl rfl ?_
      refine x_aload_n C dX7_work_88 rfl rfl ?_
      refine n_getS (dd := 3) C fl_X7_18 ho (fun _ _ => rfl) rfl dX7_work_89 ?_
      refine x_iload C dX7_work_92 rfl ?_
      obtain ⟨h16, hw⟩ := hw
      refine a_iald C (ss_7_4 ho) (sl_7_4 ho) h16 dX7_work_94 ?_
      refine x_aload_n C dX7_work_95 rfl rfl ?_
      refine n_getS (dd := 3) C fl_X7_18 ho (fun _ _ => rfl) rfl dX7_work_96 ?_
      refine x_iload C dX7_work_99 rfl ?_
      obtain ⟨h17, hw⟩ := hw
      refine a_iald C (ss_7_4 ho) (sl_7_4 ho) h17 dX7_work_101 ?_
      refine x_iadd C dX7_work_102 ?_
      obtain ⟨h18, hw⟩ := hw
      obtain ⟨M19, eM19⟩ : ∃ z : Mem, z = uI M (o + 3) (x2).toNatClampNeg ((M.1 (o + 3) (x4).toNatClampNeg) + (M.1 (o + 3) (x6).toNatClampNeg)) := ⟨_, rfl⟩
      replace hw := hw M19 eM19
      refine a_iast C (ss_7_4 ho) (sl_7_4 ho) rfl h18 eM19 dX7_work_103 ?_
      refine x_goto (tgt := 202) C dX7_work_104 (by decide) ?_
      refine x_iload_n C dX7_work_202 rfl rfl ?_
      refine x_iconst (v := (1 : Int32)) C dX7_work_203 (by decide) ?_
      refine x_iadd C dX7_work_204 ?_
      exact n_ireturn C r dX7_work_205 hw
    · have heq : v1 = (2 : Int32) := Int32.toInt_inj.mp (hor.trans (by decide))
      refine x_tableIn (off := 71) (tgt := 107) C dX7_work_36 hlo hhi (by rw [hor]; decide) (by decide) ?_
      replace hw := hw.2.2.1 heq
      refine x_aload_n C dX7_work_107 rfl rfl ?_
      refine n_getS (dd := 3) C fl_X7_18 ho (fun _ _ => rfl) rfl dX7_work_108 ?_
      refine x_iload_n C dX7_work_111 rfl rfl ?_
      refine x_aload_n C dX7_work_112 rfl rfl ?_
      refine n_getS (dd := 3) C fl_X7_18 ho (fun _ _ => rfl) rfl dX7_work_113 ?_
      refine x_iload C dX7_work_116 rfl ?_
      obtain ⟨h20, hw⟩ := hw
      refine a_iald C (ss_7_4 ho) (sl_7_4 ho) h20 dX7_work_118 ?_
      refine x_aload_n C dX7_work_119 rfl rfl ?_
      refine n_getS (dd := 3) C fl_X7_18 ho (fun _ _ => rfl) rfl dX7_work_120 ?_
      refine x_iload C dX7_work_123 rfl ?_
      obtain ⟨h21, hw⟩ := hw
      refine a_iald C (ss_7_4 ho) (sl_7_4 ho) h21 dX7_work_125 ?_
      refine x_isub C dX7_work_126 ?_
      obtain ⟨h22, hw⟩ := hw
      obtain ⟨M23, eM23⟩ : ∃ z : Mem, z = uI M (o + 3) (x2).toNatClampNeg ((M.1 (o + 3) (x4).toNatClampNeg) - (M.1 (o + 3) (x6).toNatClampNeg)) := ⟨_, rfl⟩
      replace hw := hw M23 eM23
      refine a_iast C (ss_7_4 ho) (sl_7_4 ho) rfl h22 eM23 dX7_work_127 ?_
      refine x_goto (tgt := 202) C dX7_work_128 (by decide) ?_
      refine x_iload_n C dX7_work_202 rfl rfl ?_
      refine x_iconst (v := (1 : Int32)) C dX7_work_203 (by decide) ?_
      refine x_iadd C dX7_work_204 ?_
      exact n_ireturn C r dX7_work_205 hw
    · have heq : v1 = (3 : Int32) := Int32.toInt_inj.mp (hor.trans (by decide))
      refine x_tableIn (off := 95) (tgt := 131) C dX7_work_36 hlo hhi (by rw [hor]; decide) (by decide) ?_
      replace hw := hw.2.2.2.1 heq
      refine x_aload_n C dX7_work_131 rfl rfl ?_
      refine n_getS (dd := 3) C fl_X7_18 ho (fun _ _ => rfl) rfl dX7_work_132 ?_
      refine x_iload_n C dX7_work_135 rfl rfl ?_
      refine x_aload_n C dX7_work_136 rfl rfl ?_
      refine n_getS (dd := 3) C fl_X7_18 ho (fun _ _ => rfl) rfl dX7_work_137 ?_
      refine x_iload C dX7_work_140 rfl ?_
      obtain ⟨h24, hw⟩ := hw
      refine a_iald C (ss_7_4 ho) (sl_7_4 ho) h24 dX7_work_142 ?_
      refine x_aload_n C dX7_work_143 rfl rfl ?_
      refine n_getS (dd := 3) C fl_X7_18 ho (fun _ _ => rfl) rfl dX7_work_144 ?_
      refine x_iload C dX7_work_147 rfl ?_
      obtain ⟨h25, hw⟩ := hw
      refine a_iald C (ss_7_4 ho) (sl_7_4 ho) h25 dX7_work_149 ?_
      refine x_imul C dX7_work_150 ?_
      obtain ⟨h26, hw⟩ := hw
      obtain ⟨M27, eM27⟩ : ∃ z : Mem, z = uI M (o + 3) (x2).toNatClampNeg ((M.1 (o + 3) (x4).toNatClampNeg) * (M.1 (o + 3) (x6).toNatClampNeg)) := ⟨_, rfl⟩
      replace hw := hw M27 eM27
      refine a_iast C (ss_7_4 ho) (sl_7_4 ho) rfl h26 eM27 dX7_work_151 ?_
      refine x_goto (tgt := 202) C dX7_work_152 (by decide) ?_
      refine x_iload_n C dX7_work_202 rfl rfl ?_
      refine x_iconst (v := (1 : Int32)) C dX7_work_203 (by decide) ?_
      refine x_iadd C dX7_work_204 ?_
      exact n_ireturn C r dX7_work_205 hw
    · have heq : v1 = (4 : Int32) := Int32.toInt_inj.mp (hor.trans (by decide))
      refine x_tableIn (off := 119) (tgt := 155) C dX7_work_36 hlo hhi (by rw [hor]; decide) (by decide) ?_
      replace hw := hw.2.2.2.2.1 heq
      refine x_aload_n C dX7_work_155 rfl rfl ?_
      refine n_getS (dd := 3) C fl_X7_18 ho (fun _ _ => rfl) rfl dX7_work_156 ?_
      refine x_iload_n C dX7_work_159 rfl rfl ?_
      refine x_aload_n C dX7_work_160 rfl rfl ?_
      refine n_getS (dd := 4) C fl_X7_21 ho (fun _ _ => rfl) rfl dX7_work_161 ?_
      refine x_aload_n C dX7_work_164 rfl rfl ?_
      refine x_aload_n C dX7_work_165 rfl rfl ?_
      refine n_getS (dd := 3) C fl_X7_18 ho (fun _ _ => rfl) rfl dX7_work_166 ?_
      refine x_iload C dX7_work_169 rfl ?_
      obtain ⟨h28, hw⟩ := hw
      refine a_iald C (ss_7_4 ho) (sl_7_4 ho) h28 dX7_work_171 ?_
      refine n_callVI ho rfl C (ok_X7_touched ho hw) mv_X7_146 rfl rfl ⟨Nat.le_of_ble_eq_true rfl, Nat.le_of_ble_eq_true rfl⟩ (Nat.le_of_ble_eq_true rfl) dX7_work_172 (fun r30 M29 hw => ?_)
      obtain ⟨h31, hw⟩ := hw
      refine a_iald C (ss_7_5 ho) (sl_7_5 ho) h31 dX7_work_175 ?_
      obtain ⟨h32, hw⟩ := hw
      obtain ⟨M33, eM33⟩ : ∃ z : Mem, z = uI M29 (o + 3) (x2).toNatClampNeg (M29.1 (o + 4) (r30).toNatClampNeg) := ⟨_, rfl⟩
      replace hw := hw M33 eM33
      refine a_iast C (ss_7_4 ho) (sl_7_4 ho) rfl h32 eM33 dX7_work_176 ?_
      refine x_goto (tgt := 202) C dX7_work_177 (by decide) ?_
      refine x_iload_n C dX7_work_202 rfl rfl ?_
      refine x_iconst (v := (1 : Int32)) C dX7_work_203 (by decide) ?_
      refine x_iadd C dX7_work_204 ?_
      exact n_ireturn C r dX7_work_205 hw

def w_X7_go_b128 (o : Nat) (v1 : Int32) (v3 : Int32) (t1 : Int32) (M : Mem) (q : Mem → Prop) : Prop := bz t1 ∧ ∀ M1 : Mem, M1 = uI M o 1 t1 → (((M1.1 o 1) = 0 → ∃ k4 : Nat, M1.2.2 o 8 = some k4 ∧ sh k4 = .inl 3 ∧ ∃ k5 : Nat, M1.2.2 o 8 = some k5 ∧ sh k5 = .inl 3 ∧ ∀ M6 : Mem, M6 = uI M1 (o + 1) 5 (((v3 + ((M1.1 (o + 1) 2) * (M1.1 k4 3))) + ((M1.1 (o + 1) 4) * (M1.1 k5 6))) + v1) → q M6) ∧ (¬ (M1.1 o 1) = 0 → ∀ M7 : Mem, M7 = uI M1 (o + 1) 5 (-1 : Int32) → q M7))
set_option maxRecDepth 100000 in
set_option maxHeartbeats 4000000 in
theorem ok_X7_go_b128 {c : CtxT} {g : Gl} {l : Launch} {o : Nat} {v1 : Int32} {v3 : Int32} {t1 : Int32} {q : Mem → Prop} {M : Mem} (C : Cx c cX7_go 6 RX7 g l (Rm 4 71)) (r : Rt c (none) (pV q) 0 0) (ho : sh o = .inl 7) (hw : w_X7_go_b128 o v1 v3 t1 M q ) : X c S0 128 [(0, .ref (g.2.2.2 + o)), (1, .int v1), (3, .int v3)] [.int t1, .ref (g.2.2.2 + o)] (stat M) := by
  unfold w_X7_go_b128 at hw
  obtain ⟨h2, hw⟩ := hw
  obtain ⟨M1, eM1⟩ : ∃ z : Mem, z = uI M o 1 t1 := ⟨_, rfl⟩
  replace hw := hw M1 eM1
  refine m_putI C fp_X7_136 ho (fun _ _ => rfl) (bz_n h2) (bz_f h2) eM1 dX7_go_128 ?_
  refine x_aload_n C dX7_go_131 rfl rfl ?_
  refine n_getS (dd := 1) C fl_X7_9 ho (fun _ _ => rfl) rfl dX7_go_132 ?_
  refine x_iconst (v := (5 : Int32)) C dX7_go_135 (by decide) ?_
  refine x_aload_n C dX7_go_136 rfl rfl ?_
  refine n_getI C fl_X7_136 ho (fun _ _ => rfl) dX7_go_137 ?_
  refine x_if_eq (tgt := 147) C dX7_go_140 (by decide) (fun h3 => ?_) (fun h3 => ?_)
  · replace hw := hw.1 h3
    refine x_iload_n C dX7_go_147 rfl rfl ?_
    refine x_aload_n C dX7_go_148 rfl rfl ?_
    refine n_getS (dd := 1) C fl_X7_9 ho (fun _ _ => rfl) rfl dX7_go_149 ?_
    refine x_iconst (v := (2 : Int32)) C dX7_go_152 (by decide) ?_
    refine a_ialdL (ni := 2) C (ss_7_0 ho) (sl_7_0 ho) (by decide) (vin _ _ (by decide +kernel)) dX7_go_153 ?_
    refine x_aload_n C dX7_go_154 rfl rfl ?_
    obtain ⟨k4, rk4, sk4, hw⟩ := hw
    refine n_getR C fl_X7_33 ho (fun _ _ => rfl) rfl rk4 dX7_go_155 ?_
    refine n_getI C fl_X7_140 sk4 (fun _ _ => rfl) dX7_go_158 ?_
    refine x_imul C dX7_go_161 ?_
    refine x_iadd C dX7_go_162 ?_
    refine x_aload_n C dX7_go_163 rfl rfl ?_
    refine n_getS (dd := 1) C fl_X7_9 ho (fun _ _ => rfl) rfl dX7_go_164 ?_
    refine x_iconst (v := (4 : Int32)) C dX7_go_167 (by decide) ?_
    refine a_ialdL (ni := 4) C (ss_7_0 ho) (sl_7_0 ho) (by decide) (vin _ _ (by decide +kernel)) dX7_go_168 ?_
    refine x_aload_n C dX7_go_169 rfl rfl ?_
    obtain ⟨k5, rk5, sk5, hw⟩ := hw
    refine n_getR C fl_X7_33 ho (fun _ _ => rfl) rfl rk5 dX7_go_170 ?_
    refine n_getI C fl_X7_143 sk5 (fun _ _ => rfl) dX7_go_173 ?_
    refine x_imul C dX7_go_176 ?_
    refine x_iadd C dX7_go_177 ?_
    refine x_iload_n C dX7_go_178 rfl rfl ?_
    refine x_iadd C dX7_go_179 ?_
    obtain ⟨M6, eM6⟩ : ∃ z : Mem, z = uI M1 (o + 1) 5 (((v3 + ((M1.1 (o + 1) 2) * (M1.1 k4 3))) + ((M1.1 (o + 1) 4) * (M1.1 k5 6))) + v1) := ⟨_, rfl⟩
    replace hw := hw M6 eM6
    refine a_iast C (ss_7_0 ho) (sl_7_0 ho) (by decide) (vin _ _ (by decide +kernel)) eM6 dX7_go_180 ?_
    exact n_vreturn C r dX7_go_181 hw
  · replace hw := hw.2 h3
    refine x_iconst (v := (-1 : Int32)) C dX7_go_143 (by decide) ?_
    refine x_goto (tgt := 180) C dX7_go_144 (by decide) ?_
    obtain ⟨M7, eM7⟩ : ∃ z : Mem, z = uI M1 (o + 1) 5 (-1 : Int32) := ⟨_, rfl⟩
    replace hw := hw M7 eM7
    refine a_iast C (ss_7_0 ho) (sl_7_0 ho) (by decide) (vin _ _ (by decide +kernel)) eM7 dX7_go_180 ?_
    exact n_vreturn C r dX7_go_181 hw
def w_X7_go_b106 (o : Nat) (v1 : Int32) (v2 : Int32) (v3 : Int32) (v4 : Int32) (M : Mem) (q : Mem → Prop) : Prop := ∀ M8 : Mem, M8 = uI M (o + 1) 0 v2 → (((M8.1 o 3) ≤ v4 → w_X7_go_b128 o v1 v3 (0 : Int32) M8 q) ∧ (¬ (M8.1 o 3) ≤ v4 → w_X7_go_b128 o v1 v3 (1 : Int32) M8 q))
set_option maxRecDepth 100000 in
set_option maxHeartbeats 4000000 in
theorem ok_X7_go_b106 {c : CtxT} {g : Gl} {l : Launch} {o : Nat} {v1 : Int32} {v2 : Int32} {v3 : Int32} {v4 : Int32} {q : Mem → Prop} {M : Mem} (C : Cx c cX7_go 6 RX7 g l (Rm 4 71)) (r : Rt c (none) (pV q) 0 0) (ho : sh o = .inl 7) (hw : w_X7_go_b106 o v1 v2 v3 v4 M q ) : X c S0 106 [(0, .ref (g.2.2.2 + o)), (1, .int v1), (2, .int v2), (3, .int v3), (4, .int v4)] [] (stat M) := by
  unfold w_X7_go_b106 at hw
  refine x_aload_n C dX7_go_106 rfl rfl ?_
  refine n_getS (dd := 1) C fl_X7_9 ho (fun _ _ => rfl) rfl dX7_go_107 ?_
  refine x_iconst (v := (0 : Int32)) C dX7_go_110 (by decide) ?_
  refine x_iload_n C dX7_go_111 rfl rfl ?_
  obtain ⟨M8, eM8⟩ : ∃ z : Mem, z = uI M (o + 1) 0 v2 := ⟨_, rfl⟩
  replace hw := hw M8 eM8
  refine a_iast C (ss_7_0 ho) (sl_7_0 ho) (by decide) (vin _ _ (by decide +kernel)) eM8 dX7_go_112 ?_
  refine x_aload_n C dX7_go_113 rfl rfl ?_
  refine x_iload C dX7_go_114 rfl ?_
  refine x_aload_n C dX7_go_116 rfl rfl ?_
  refine n_getI C fl_X7_105 ho (fun _ _ => rfl) dX7_go_117 ?_
  refine x_icmp_ge (tgt := 127) C dX7_go_120 (by decide) (fun h9 => ?_) (fun h9 => ?_)
  · replace hw := hw.1 h9
    refine x_iconst (v := (0 : Int32)) C dX7_go_127 (by decide) ?_
    exact x_sub [0, 1, 3] rfl (ok_X7_go_b128 C r ho hw)
  · replace hw := hw.2 h9
    refine x_iconst (v := (1 : Int32)) C dX7_go_123 (by decide) ?_
    refine x_goto (tgt := 128) C dX7_go_124 (by decide) ?_
    exact x_sub [0, 1, 3] rfl (ok_X7_go_b128 C r ho hw)
def w_X7_go_b101 (o : Nat) (v1 : Int32) (v2 : Int32) (v3 : Int32) (t0 : Int32) (M : Mem) (q : Mem → Prop) (P15 : Int32 × Int32 × Int32 × Mem → Prop) : Prop := P15 (v2, v3, t0, M)
set_option maxRecDepth 100000 in
set_option maxHeartbeats 4000000 in
theorem ok_X7_go_b101 {c : CtxT} {g : Gl} {l : Launch} {o : Nat} {v1 : Int32} {v2 : Int32} {v3 : Int32} {t0 : Int32} {q : Mem → Prop} {P15 : Int32 × Int32 × Int32 × Mem → Prop} {M : Mem} (C : Cx c cX7_go 6 RX7 g l (Rm 4 71)) (r : Rt c (none) (pV q) 0 0) (ho : sh o = .inl 7) (hP15 : ∀ (v2 : Int32) (v3 : Int32) (v4 : Int32) (M : Mem), P15 (v2, v3, v4, M) → X c S0 15 [(0, .ref (g.2.2.2 + o)), (1, .int v1), (2, .int v2), (3, .int v3), (4, .int v4)] [] (stat M)) (hw : w_X7_go_b101 o v1 v2 v3 t0 M q P15) : X c S0 101 [(0, .ref (g.2.2.2 + o)), (1, .int v1), (2, .int v2), (3, .int v3)] [.int t0] (stat M) := by
  unfold w_X7_go_b101 at hw
  refine x_istore C dX7_go_101 (Nat.le_of_ble_eq_true rfl) ?_
  refine x_goto (tgt := 15) C dX7_go_103 (by decide) ?_
  exact x_sub [0, 1, 2, 3, 4] rfl (hP15 _ _ _ _ hw)
def w_X7_go_l15F (o : Nat) (v1 : Int32) (q : Mem → Prop) (P15 : Int32 × Int32 × Int32 × Mem → Prop) (s : Int32 × Int32 × Int32 × Mem) : Prop := match s with
  | (v2, v3, v4, M) => (((2000 : Int32) ≤ v2 → w_X7_go_b106 o v1 v2 v3 v4 M q) ∧ (¬ (2000 : Int32) ≤ v2 → ((v4 < 0 → w_X7_go_b106 o v1 v2 v3 v4 M q) ∧ (¬ v4 < 0 → (((M.1 o 3) ≤ v4 → w_X7_go_b106 o v1 v2 v3 v4 M q) ∧ (¬ (M.1 o 3) ≤ v4 → vp_in (v4 * (4 : Int32)) 160 ∧ ∀ x14 : Int32, x14 = (M.1 (o + 2) ((v4 * (4 : Int32))).toNatClampNeg) → ∀ x15 : Int32, x15 = v2 + (1 : Int32) → ∃ k16 : Nat, M.2.2 o 8 = some k16 ∧ sh k16 = .inl 3 ∧ vp_in x14 8 ∧ ∀ x18 : Int32, x18 = (v3 + (M.1 (k16 + 1) (x14).toNatClampNeg)) → ((¬ x14 = (7 : Int32) → ((¬ x14 = (6 : Int32) → w_X7_work o x14 v4 M (fun (r22 : Int32) (M21 : Mem) => w_X7_go_b101 o v1 x15 x18 r22 M21 q P15)) ∧ (x14 = (6 : Int32) → w_X7_leap o v4 M (fun (r24 : Int32) (M23 : Mem) => w_X7_go_b101 o v1 x15 x18 r24 M23 q P15)))) ∧ (x14 = (7 : Int32) → w_X7_go_b101 o v1 x15 x18 (M.1 o 3) M q P15))))))))
def w_X7_go_l15 (o : Nat) (v1 : Int32) (q : Mem → Prop) (s : Int32 × Int32 × Int32 × Mem) : Prop := lfp (w_X7_go_l15F o v1 q ) s
set_option maxRecDepth 100000 in
set_option maxHeartbeats 4000000 in
theorem ok_X7_go_l15 {c : CtxT} {g : Gl} {l : Launch} {o : Nat} {v1 : Int32} {q : Mem → Prop} {s : Int32 × Int32 × Int32 × Mem} (C : Cx c cX7_go 6 RX7 g l (Rm 4 71)) (r : Rt c (none) (pV q) 0 0) (ho : sh o = .inl 7) (hw : w_X7_go_l15 o v1 q s) : X c S0 15 [(0, .ref (g.2.2.2 + o)), (1, .int v1), (2, .int s.1), (3, .int s.2.1), (4, .int s.2.2.1)] [] (stat s.2.2.2) := hw (fun s => X c S0 15 [(0, .ref (g.2.2.2 + o)), (1, .int v1), (2, .int s.1), (3, .int s.2.1), (4, .int s.2.2.1)] [] (stat s.2.2.2)) (fun s hw => by
    obtain ⟨v2, v3, v4, M⟩ := s
    try dsimp only [w_X7_go_l15F] at hw
    try dsimp only
    refine x_iload_n C dX7_go_15 rfl rfl ?_
    refine x_sipush (v := (2000 : Int32)) C dX7_go_16 (by decide) ?_
    refine x_icmp_ge (tgt := 106) C dX7_go_19 (by decide) (fun h10 => ?_) (fun h10 => ?_)
    · replace hw := hw.1 h10
      exact x_sub [0, 1, 2, 3, 4] rfl (ok_X7_go_b106 C r ho hw)
    · replace hw := hw.2 h10
      refine x_iload C dX7_go_22 rfl ?_
      refine x_if_lt (tgt := 106) C dX7_go_24 (by decide) (fun h11 => ?_) (fun h11 => ?_)
      · replace hw := hw.1 h11
        exact x_sub [0, 1, 2, 3, 4] rfl (ok_X7_go_b106 C r ho hw)
      · replace hw := hw.2 h11
        refine x_iload C dX7_go_27 rfl ?_
        refine x_aload_n C dX7_go_29 rfl rfl ?_
        refine n_getI C fl_X7_105 ho (fun _ _ => rfl) dX7_go_30 ?_
        refine x_icmp_ge (tgt := 106) C dX7_go_33 (by decide) (fun h12 => ?_) (fun h12 => ?_)
        · replace hw := hw.1 h12
          exact x_sub [0, 1, 2, 3, 4] rfl (ok_X7_go_b106 C r ho hw)
        · replace hw := hw.2 h12
          refine x_aload_n C dX7_go_36 rfl rfl ?_
          refine n_getS (dd := 2) C fl_X7_15 ho (fun _ _ => rfl) rfl dX7_go_37 ?_
          refine x_iload C dX7_go_40 rfl ?_
          refine x_iconst (v := (4 : Int32)) C dX7_go_42 (by decide) ?_
          refine x_imul C dX7_go_43 ?_
          obtain ⟨h13, hw⟩ := hw
          refine a_iald C (ss_7_2 ho) (sl_7_2 ho) h13 dX7_go_44 ?_
          obtain ⟨x14, ex14⟩ : ∃ z : Int32, z = (M.1 (o + 2) ((v4 * (4 : Int32))).toNatClampNeg) := ⟨_, rfl⟩
          replace hw := hw x14 ex14
          refine x_topi ex14 ?_
          refine x_istore C dX7_go_45 (Nat.le_of_ble_eq_true rfl) ?_
          obtain ⟨x15, ex15⟩ : ∃ z : Int32, z = v2 + (1 : Int32) := ⟨_, rfl⟩
          replace hw := hw x15 ex15
          refine x_iinc (v := x15) C dX7_go_47 rfl ex15.symm (Nat.le_of_ble_eq_true rfl) ?_
          refine x_iload_n C dX7_go_50 rfl rfl ?_
          refine x_aload_n C dX7_go_51 rfl rfl ?_
          obtain ⟨k16, rk16, sk16, hw⟩ := hw
          refine n_getR C fl_X7_33 ho (fun _ _ => rfl) rfl rk16 dX7_go_52 ?_
          refine n_getS (dd := 1) C fl_X7_127 sk16 (fun _ _ => rfl) rfl dX7_go_55 ?_
          refine x_iload C dX7_go_58 rfl ?_
          obtain ⟨h17, hw⟩ := hw
          refine a_iald C (ss_3_0 sk16) (sl_3_0 sk16) h17 dX7_go_60 ?_
          refine x_iadd C dX7_go_61 ?_
          obtain ⟨x18, ex18⟩ : ∃ z : Int32, z = (v3 + (M.1 (k16 + 1) (x14).toNatClampNeg)) := ⟨_, rfl⟩
          replace hw := hw x18 ex18
          refine x_topi ex18 ?_
          refine x_istore_n C dX7_go_62 rfl (Nat.le_of_ble_eq_true rfl) ?_
          refine x_iload C dX7_go_63 rfl ?_
          refine x_bipush (v := (7 : Int32)) C dX7_go_65 (by decide) ?_
          refine x_icmp_ne (tgt := 77) C dX7_go_67 (by decide) (fun h19 => ?_) (fun h19 => ?_)
          · replace hw := hw.1 h19
            refine x_iload C dX7_go_77 rfl ?_
            refine x_bipush (v := (6 : Int32)) C dX7_go_79 (by decide) ?_
            refine x_icmp_ne (tgt := 93) C dX7_go_81 (by decide) (fun h20 => ?_) (fun h20 => ?_)
            · replace hw := hw.1 h20
              refine x_aload_n C dX7_go_93 rfl rfl ?_
              refine x_iload C dX7_go_94 rfl ?_
              refine x_iload C dX7_go_96 rfl ?_
              refine n_callVI ho rfl C (ok_X7_work ho hw) mv_X7_133 rfl rfl ⟨Nat.le_of_ble_eq_true rfl, Nat.le_of_ble_eq_true rfl⟩ (Nat.le_of_ble_eq_true rfl) dX7_go_98 (fun r22 M21 hw => ?_)
              exact x_sub [0, 1, 2, 3] rfl (ok_X7_go_b101 C r ho (fun _ _ _ _ h => h) hw)
            · replace hw := hw.2 h20
              refine x_aload_n C dX7_go_84 rfl rfl ?_
              refine x_iload C dX7_go_85 rfl ?_
              refine n_callVI ho rfl C (ok_X7_leap ho hw) mv_X7_130 rfl rfl ⟨Nat.le_of_ble_eq_true rfl, Nat.le_of_ble_eq_true rfl⟩ (Nat.le_of_ble_eq_true rfl) dX7_go_87 (fun r24 M23 hw => ?_)
              refine x_goto (tgt := 101) C dX7_go_90 (by decide) ?_
              exact x_sub [0, 1, 2, 3] rfl (ok_X7_go_b101 C r ho (fun _ _ _ _ h => h) hw)
          · replace hw := hw.2 h19
            refine x_aload_n C dX7_go_70 rfl rfl ?_
            refine n_getI C fl_X7_105 ho (fun _ _ => rfl) dX7_go_71 ?_
            refine x_goto (tgt := 101) C dX7_go_74 (by decide) ?_
            exact x_sub [0, 1, 2, 3] rfl (ok_X7_go_b101 C r ho (fun _ _ _ _ h => h) hw))
def w_X7_go (o : Nat) (v1 : Int32) (M : Mem) (q : Mem → Prop) : Prop := w_J7_fill_53178 (o + 1) (0 : Int32) M (fun (M25 : Mem) => w_X7_go_l15 o v1 q ((0 : Int32), (0 : Int32), (0 : Int32), M25))
set_option maxRecDepth 100000 in
set_option maxHeartbeats 4000000 in
theorem ok_X7_go {g : Gl} {l : Launch} {o : Nat} {v1 : Int32} {M : Mem} {q : Mem → Prop} (ho : sh o = .inl 7) (hw : w_X7_go o v1 M q) : CtV g l yX7_go cX7_go 6 none 4 71 [.ref (g.2.2.2 + o), .int v1] M q := by
  refine n_introV (by decide +kernel) (Nat.le_of_ble_eq_true rfl) (fun c C r => ?_)
  have C : Cx c cX7_go 6 RX7 g l (Rm 4 71) := C
  refine x_sub [0, 1] (lv' := [(0, .ref (g.2.2.2 + o)), (1, .int v1)]) rfl ?_
  unfold w_X7_go at hw
  refine x_aload_n C dX7_go_0 rfl rfl ?_
  refine n_getS (dd := 1) C fl_X7_9 ho (fun _ _ => rfl) rfl dX7_go_1 ?_
  refine x_iconst (v := (0 : Int32)) C dX7_go_4 (by decide) ?_
  refine n_callSV C (ok_J7_fill_53178 (ss_7_0 ho) hw) ms_X7_96 rfl rfl ⟨Nat.le_of_ble_eq_true rfl, Nat.le_of_ble_eq_true rfl⟩ (Nat.le_of_ble_eq_true rfl) dX7_go_5 (fun M25 hw => ?_)
  refine x_iconst (v := (0 : Int32)) C dX7_go_8 (by decide) ?_
  refine x_istore_n C dX7_go_9 rfl (Nat.le_of_ble_eq_true rfl) ?_
  refine x_iconst (v := (0 : Int32)) C dX7_go_10 (by decide) ?_
  refine x_istore_n C dX7_go_11 rfl (Nat.le_of_ble_eq_true rfl) ?_
  refine x_iconst (v := (0 : Int32)) C dX7_go_12 (by decide) ?_
  refine x_istore C dX7_go_13 (Nat.le_of_ble_eq_true rfl) ?_
  exact x_sub [0, 1, 2, 3, 4] rfl (ok_X7_go_l15 C r ho hw)

def w_X7_goKept_b41 (o : Nat) (v1 : Nat) (v2 : Int32) (v4 : Int32) (v5 : Int32) (v6 : Int32) (M : Mem) (q : Mem → Prop) : Prop := ∃ k1 : Nat, M.2.2 o 8 = some k1 ∧ sh k1 = .inl 3 ∧ w_X3_placeBy k1 v5 M (fun (r3 : Int32) (M2 : Mem) => ∀ M4 : Mem, M4 = uI M2 o 11 r3 → vp_in v2 24 ∧ vp_in v2 24 ∧ w_X7_begin o (v1 + 1) (M4.1 ((v1 + 1) + 6) (v2).toNatClampNeg) (M4.1 ((v1 + 1) + 7) (v2).toNatClampNeg) v4 M4 (fun (M7 : Mem) => ∃ k9 : Nat, M7.2.2 o 8 = some k9 ∧ sh k9 = .inl 3 ∧ w_X3_noiseBy k9 v5 v6 M7 (fun (r11 : Int32) (M10 : Mem) => w_X7_go o r11 M10 (fun (M12 : Mem) => q M12))))
set_option maxRecDepth 100000 in
set_option maxHeartbeats 4000000 in
theorem ok_X7_goKept_b41 {c : CtxT} {g : Gl} {l : Launch} {o : Nat} {v1 : Nat} {v2 : Int32} {v4 : Int32} {v5 : Int32} {v6 : Int32} {q : Mem → Prop} {M : Mem} (C : Cx c cX7_goKept 8 RX7 g l (Rm 5 96)) (r : Rt c (none) (pV q) 0 0) (ho : sh o = .inl 7) (hv1 : sh v1 = .inl 8) (hw : w_X7_goKept_b41 o v1 v2 v4 v5 v6 M q ) : X c S0 41 [(0, .ref (g.2.2.2 + o)), (1, .ref (g.2.2.2 + v1)), (2, .int v2), (4, .int v4), (5, .int v5), (6, .int v6)] [] (stat M) := by
  unfold w_X7_goKept_b41 at hw
  refine x_aload_n C dX7_goKept_41 rfl rfl ?_
  refine x_aload_n C dX7_goKept_42 rfl rfl ?_
  obtain ⟨k1, rk1, sk1, hw⟩ := hw
  refine n_getR C fl_X7_33 ho (fun _ _ => rfl) rfl rk1 dX7_goKept_43 ?_
  refine x_iload C dX7_goKept_46 rfl ?_
  refine n_callVI sk1 rfl C (ok_X3_placeBy sk1 hw) mv_X7_54 rfl rfl ⟨Nat.le_of_ble_eq_true rfl, Nat.le_of_ble_eq_true rfl⟩ (Nat.le_of_ble_eq_true rfl) dX7_goKept_48 (fun r3 M2 hw => ?_)
  obtain ⟨M4, eM4⟩ : ∃ z : Mem, z = uI M2 o 11 r3 := ⟨_, rfl⟩
  replace hw := hw M4 eM4
  refine m_putI C fp_X7_58 ho (fun _ _ => rfl) rfl rfl eM4 dX7_goKept_51 ?_
  refine x_aload_n C dX7_goKept_54 rfl rfl ?_
  refine x_aload_n C dX7_goKept_55 rfl rfl ?_
  refine n_getS (dd := 1) C fl_X7_62 hv1 (fun _ _ => rfl) rfl dX7_goKept_56 ?_
  refine x_aload_n C dX7_goKept_59 rfl rfl ?_
  refine n_getS (dd := 1) C fl_X7_62 hv1 (fun _ _ => rfl) rfl dX7_goKept_60 ?_
  refine n_getS (dd := 6) C fl_X7_66 (ss_8_0 hv1) (fun _ _ => rfl) rfl dX7_goKept_63 ?_
  refine x_iload_n C dX7_goKept_66 rfl rfl ?_
  obtain ⟨h5, hw⟩ := hw
  refine a_iald C (ss_6_8 (ss_8_0 hv1)) (sl_6_8 (ss_8_0 hv1)) h5 dX7_goKept_67 ?_
  refine x_aload_n C dX7_goKept_68 rfl rfl ?_
  refine n_getS (dd := 1) C fl_X7_62 hv1 (fun _ _ => rfl) rfl dX7_goKept_69 ?_
  refine n_getS (dd := 7) C fl_X7_71 (ss_8_0 hv1) (fun _ _ => rfl) rfl dX7_goKept_72 ?_
  refine x_iload_n C dX7_goKept_75 rfl rfl ?_
  obtain ⟨h6, hw⟩ := hw
  refine a_iald C (ss_6_9 (ss_8_0 hv1)) (sl_6_9 (ss_8_0 hv1)) h6 dX7_goKept_76 ?_
  refine x_iload C dX7_goKept_77 rfl ?_
  refine n_callVV ho rfl C (ok_X7_begin ho (ss_8_0 hv1) hw) mv_X7_74 rfl rfl ⟨Nat.le_of_ble_eq_true rfl, Nat.le_of_ble_eq_true rfl⟩ (Nat.le_of_ble_eq_true rfl) dX7_goKept_79 (fun M7 hw => ?_)
  refine x_aload_n C dX7_goKept_82 rfl rfl ?_
  refine x_aload_n C dX7_goKept_83 rfl rfl ?_
  obtain ⟨k9, rk9, sk9, hw⟩ := hw
  refine n_getR C fl_X7_33 ho (fun _ _ => rfl) rfl rk9 dX7_goKept_84 ?_
  refine x_iload C dX7_goKept_87 rfl ?_
  refine x_iload C dX7_goKept_89 rfl ?_
  refine n_callVI sk9 rfl C (ok_X3_noiseBy sk9 hw) mv_X7_78 rfl rfl ⟨Nat.le_of_ble_eq_true rfl, Nat.le_of_ble_eq_true rfl⟩ (Nat.le_of_ble_eq_true rfl) dX7_goKept_91 (fun r11 M10 hw => ?_)
  refine n_callVV ho rfl C (ok_X7_go ho hw) mv_X7_82 rfl rfl ⟨Nat.le_of_ble_eq_true rfl, Nat.le_of_ble_eq_true rfl⟩ (Nat.le_of_ble_eq_true rfl) dX7_goKept_94 (fun M12 hw => ?_)
  exact n_vreturn C r dX7_goKept_97 hw
def w_X7_goKept (o : Nat) (v1 : Nat) (v2 : Int32) (v3 : Int32) (v4 : Int32) (v5 : Int32) (v6 : Int32) (v7 : Int32) (M : Mem) (q : Mem → Prop) : Prop := vp_in v3 4 ∧ ∀ M15 : Mem, M15 = uR M o 8 (some ((v1 + 10) + 6 + 4 * (v3).toNatClampNeg)) → ∃ k16 : Nat, M15.2.2 o 8 = some k16 ∧ sh k16 = .inl 3 ∧ ∀ M17 : Mem, M17 = uR M15 o 9 (some (k16 + 2)) → ∃ k18 : Nat, M17.2.2 o 8 = some k18 ∧ sh k18 = .inl 3 ∧ ∀ M19 : Mem, M19 = uR M17 o 10 (some (k18 + 3)) → ((¬ v7 = 0 → w_X7_goKept_b41 o v1 v2 v4 v5 v6 M19 q) ∧ (v7 = 0 → w_X7_empty o M19 (fun (M21 : Mem) => w_X7_goKept_b41 o v1 v2 v4 v5 v6 M21 q)))
set_option maxRecDepth 100000 in
set_option maxHeartbeats 4000000 in
theorem ok_X7_goKept {g : Gl} {l : Launch} {o : Nat} {v1 : Nat} {v2 : Int32} {v3 : Int32} {v4 : Int32} {v5 : Int32} {v6 : Int32} {v7 : Int32} {M : Mem} {q : Mem → Prop} (ho : sh o = .inl 7) (hv1 : sh v1 = .inl 8) (hw : w_X7_goKept o v1 v2 v3 v4 v5 v6 v7 M q) : CtV g l yX7_goKept cX7_goKept 8 none 5 96 [.ref (g.2.2.2 + o), .ref (g.2.2.2 + v1), .int v2, .int v3, .int v4, .int v5, .int v6, .int v7] M q := by
  refine n_introV (by decide +kernel) (Nat.le_of_ble_eq_true rfl) (fun c C r => ?_)
  have C : Cx c cX7_goKept 8 RX7 g l (Rm 5 96) := C
  refine x_sub [0, 1, 2, 3, 4, 5, 6, 7] (lv' := [(0, .ref (g.2.2.2 + o)), (1, .ref (g.2.2.2 + v1)), (2, .int v2), (3, .int v3), (4, .int v4), (5, .int v5), (6, .int v6), (7, .int v7)]) rfl ?_
  unfold w_X7_goKept at hw
  refine x_aload_n C dX7_goKept_0 rfl rfl ?_
  refine x_aload_n C dX7_goKept_1 rfl rfl ?_
  refine n_getS (dd := 10) C fl_X7_43 hv1 (fun _ _ => rfl) rfl dX7_goKept_2 ?_
  refine x_iload_n C dX7_goKept_5 rfl rfl ?_
  obtain ⟨h14, hw⟩ := hw
  refine a_aald3 C (ss_8_1 hv1) (sl_8_1 hv1) h14 dX7_goKept_6 ?_
  obtain ⟨M15, eM15⟩ : ∃ z : Mem, z = uR M o 8 (some ((v1 + 10) + 6 + 4 * (v3).toNatClampNeg)) := ⟨_, rfl⟩
  replace hw := hw M15 eM15
  refine m_putR C fp_X7_33 ho (fun _ _ => rfl) rfl (fun _ => rfl) (fun _ => rfl) eM15 dX7_goKept_7 ?_
  refine x_aload_n C dX7_goKept_10 rfl rfl ?_
  refine x_aload_n C dX7_goKept_11 rfl rfl ?_
  obtain ⟨k16, rk16, sk16, hw⟩ := hw
  refine n_getR C fl_X7_33 ho (fun _ _ => rfl) rfl rk16 dX7_goKept_12 ?_
  refine n_getS (dd := 2) C fl_X7_49 sk16 (fun _ _ => rfl) rfl dX7_goKept_15 ?_
  obtain ⟨M17, eM17⟩ : ∃ z : Mem, z = uR M15 o 9 (some (k16 + 2)) := ⟨_, rfl⟩
  replace hw := hw M17 eM17
  refine m_putR C fp_X7_37 ho (fun _ _ => rfl) rfl (fun _ => rfl) (fun _ => rfl) eM17 dX7_goKept_18 ?_
  refine x_aload_n C dX7_goKept_21 rfl rfl ?_
  refine x_aload_n C dX7_goKept_22 rfl rfl ?_
  obtain ⟨k18, rk18, sk18, hw⟩ := hw
  refine n_getR C fl_X7_33 ho (fun _ _ => rfl) rfl rk18 dX7_goKept_23 ?_
  refine n_getS (dd := 3) C fl_X7_50 sk18 (fun _ _ => rfl) rfl dX7_goKept_26 ?_
  obtain ⟨M19, eM19⟩ : ∃ z : Mem, z = uR M17 o 10 (some (k18 + 3)) := ⟨_, rfl⟩
  replace hw := hw M19 eM19
  refine m_putR C fp_X7_40 ho (fun _ _ => rfl) rfl (fun _ => rfl) (fun _ => rfl) eM19 dX7_goKept_29 ?_
  refine x_iload C dX7_goKept_32 rfl ?_
  refine x_if_ne (tgt := 41) C dX7_goKept_34 (by decide) (fun h20 => ?_) (fun h20 => ?_)
  · replace hw := hw.1 h20
    exact x_sub [0, 1, 2, 4, 5, 6] rfl (ok_X7_goKept_b41 C r ho hv1 hw)
  · replace hw := hw.2 h20
    refine x_aload_n C dX7_goKept_37 rfl rfl ?_
    refine n_callVV ho rfl C (ok_X7_empty ho hw) mv_X7_51 rfl rfl ⟨Nat.le_of_ble_eq_true rfl, Nat.le_of_ble_eq_true rfl⟩ (Nat.le_of_ble_eq_true rfl) dX7_goKept_38 (fun M21 hw => ?_)
    exact x_sub [0, 1, 2, 4, 5, 6] rfl (ok_X7_goKept_b41 C r ho hv1 hw)

def w_X7_useOwn (o : Nat) (M : Mem) (q : Mem → Prop) : Prop := ∀ M1 : Mem, M1 = uR M o 9 (some (o + 5)) → ∀ M2 : Mem, M2 = uR M1 o 10 (some (o + 6)) → w_X7_empty o M2 (fun (M3 : Mem) => q M3)
set_option maxRecDepth 100000 in
set_option maxHeartbeats 4000000 in
theorem ok_X7_useOwn {g : Gl} {l : Launch} {o : Nat} {M : Mem} {q : Mem → Prop} (ho : sh o = .inl 7) (hw : w_X7_useOwn o M q) : CtV g l yX7_useOwn cX7_useOwn 1 none 3 43 [.ref (g.2.2.2 + o)] M q := by
  refine n_introV (by decide +kernel) (Nat.le_of_ble_eq_true rfl) (fun c C r => ?_)
  have C : Cx c cX7_useOwn 1 RX7 g l (Rm 3 43) := C
  refine x_sub [0] (lv' := [(0, .ref (g.2.2.2 + o))]) rfl ?_
  unfold w_X7_useOwn at hw
  refine x_aload_n C dX7_useOwn_0 rfl rfl ?_
  refine x_aload_n C dX7_useOwn_1 rfl rfl ?_
  refine n_getS (dd := 5) C fl_X7_24 ho (fun _ _ => rfl) rfl dX7_useOwn_2 ?_
  obtain ⟨M1, eM1⟩ : ∃ z : Mem, z = uR M o 9 (some (o + 5)) := ⟨_, rfl⟩
  replace hw := hw M1 eM1
  refine m_putR C fp_X7_37 ho (fun _ _ => rfl) rfl (fun _ => rfl) (fun _ => rfl) eM1 dX7_useOwn_5 ?_
  refine x_aload_n C dX7_useOwn_8 rfl rfl ?_
  refine x_aload_n C dX7_useOwn_9 rfl rfl ?_
  refine n_getS (dd := 6) C fl_X7_27 ho (fun _ _ => rfl) rfl dX7_useOwn_10 ?_
  obtain ⟨M2, eM2⟩ : ∃ z : Mem, z = uR M1 o 10 (some (o + 6)) := ⟨_, rfl⟩
  replace hw := hw M2 eM2
  refine m_putR C fp_X7_40 ho (fun _ _ => rfl) rfl (fun _ => rfl) (fun _ => rfl) eM2 dX7_useOwn_13 ?_
  refine x_aload_n C dX7_useOwn_16 rfl rfl ?_
  refine n_callVV ho rfl C (ok_X7_empty ho hw) mv_X7_51 rfl rfl ⟨Nat.le_of_ble_eq_true rfl, Nat.le_of_ble_eq_true rfl⟩ (Nat.le_of_ble_eq_true rfl) dX7_useOwn_17 (fun M3 hw => ?_)
  exact n_vreturn C r dX7_useOwn_20 hw

def w_X7_goPlainWith (o : Nat) (v1 : Nat) (v2 : Int32) (v3 : Int32) (v4 : Int32) (v5 : Int32) (M : Mem) (q : Mem → Prop) : Prop := vp_in v4 4 ∧ ∀ M2 : Mem, M2 = uR M o 8 (some ((v1 + 10) + 6 + 4 * (v4).toNatClampNeg)) → w_X7_useOwn o M2 (fun (M3 : Mem) => ∀ M5 : Mem, M5 = uI M3 o 11 (0 : Int32) → vp_in v2 24 ∧ w_X7_begin o (v1 + 1) (M5.1 ((v1 + 1) + 6) (v2).toNatClampNeg) v3 v5 M5 (fun (M7 : Mem) => w_X7_go o (0 : Int32) M7 (fun (M9 : Mem) => q M9)))
set_option maxRecDepth 100000 in
set_option maxHeartbeats 4000000 in
theorem ok_X7_goPlainWith {g : Gl} {l : Launch} {o : Nat} {v1 : Nat} {v2 : Int32} {v3 : Int32} {v4 : Int32} {v5 : Int32} {M : Mem} {q : Mem → Prop} (ho : sh o = .inl 7) (hv1 : sh v1 = .inl 8) (hw : w_X7_goPlainWith o v1 v2 v3 v4 v5 M q) : CtV g l yX7_goPlainWith cX7_goPlainWith 6 none 5 96 [.ref (g.2.2.2 + o), .ref (g.2.2.2 + v1), .int v2, .int v3, .int v4, .int v5] M q := by
  refine n_introV (by decide +kernel) (Nat.le_of_ble_eq_true rfl) (fun c C r => ?_)
  have C : Cx c cX7_goPlainWith 6 RX7 g l (Rm 5 96) := C
  refine x_sub [0, 1, 2, 3, 4, 5] (lv' := [(0, .ref (g.2.2.2 + o)), (1, .ref (g.2.2.2 + v1)), (2, .int v2), (3, .int v3), (4, .int v4), (5, .int v5)]) rfl ?_
  unfold w_X7_goPlainWith at hw
  refine x_aload_n C dX7_goPlainWith_0 rfl rfl ?_
  refine x_aload_n C dX7_goPlainWith_1 rfl rfl ?_
  refine n_getS (dd := 10) C fl_X7_43 hv1 (fun _ _ => rfl) rfl dX7_goPlainWith_2 ?_
  refine x_iload C dX7_goPlainWith_5 rfl ?_
  obtain ⟨h1, hw⟩ := hw
  refine a_aald3 C (ss_8_1 hv1) (sl_8_1 hv1) h1 dX7_goPlainWith_7 ?_
  obtain ⟨M2, eM2⟩ : ∃ z : Mem, z = uR M o 8 (some ((v1 + 10) + 6 + 4 * (v4).toNatClampNeg)) := ⟨_, rfl⟩
  replace hw := hw M2 eM2
  refine m_putR C fp_X7_33 ho (fun _ _ => rfl) rfl (fun _ => rfl) (fun _ => rfl) eM2 dX7_goPlainWith_8 ?_
  refine x_aload_n C dX7_goPlainWith_11 rfl rfl ?_
  refine n_callVV ho rfl C (ok_X7_useOwn ho hw) mv_X7_90 rfl rfl ⟨Nat.le_of_ble_eq_true rfl, Nat.le_of_ble_eq_true rfl⟩ (Nat.le_of_ble_eq_true rfl) dX7_goPlainWith_12 (fun M3 hw => ?_)
  refine x_aload_n C dX7_goPlainWith_15 rfl rfl ?_
  refine x_iconst (v := (0 : Int32)) C dX7_goPlainWith_16 (by decide) ?_
  obtain ⟨M5, eM5⟩ : ∃ z : Mem, z = uI M3 o 11 (0 : Int32) := ⟨_, rfl⟩
  replace hw := hw M5 eM5
  refine m_putI C fp_X7_58 ho (fun _ _ => rfl) rfl rfl eM5 dX7_goPlainWith_17 ?_
  refine x_aload_n C dX7_goPlainWith_20 rfl rfl ?_
  refine x_aload_n C dX7_goPlainWith_21 rfl rfl ?_
  refine n_getS (dd := 1) C fl_X7_62 hv1 (fun _ _ => rfl) rfl dX7_goPlainWith_22 ?_
  refine x_aload_n C dX7_goPlainWith_25 rfl rfl ?_
  refine n_getS (dd := 1) C fl_X7_62 hv1 (fun _ _ => rfl) rfl dX7_goPlainWith_26 ?_
  refine n_getS (dd := 6) C fl_X7_66 (ss_8_0 hv1) (fun _ _ => rfl) rfl dX7_goPlainWith_29 ?_
  refine x_iload_n C dX7_goPlainWith_32 rfl rfl ?_
  obtain ⟨h6, hw⟩ := hw
  refine a_iald C (ss_6_8 (ss_8_0 hv1)) (sl_6_8 (ss_8_0 hv1)) h6 dX7_goPlainWith_33 ?_
  refine x_iload_n C dX7_goPlainWith_34 rfl rfl ?_
  refine x_iload C dX7_goPlainWith_35 rfl ?_
  refine n_callVV ho rfl C (ok_X7_begin ho (ss_8_0 hv1) hw) mv_X7_74 rfl rfl ⟨Nat.le_of_ble_eq_true rfl, Nat.le_of_ble_eq_true rfl⟩ (Nat.le_of_ble_eq_true rfl) dX7_goPlainWith_37 (fun M7 hw => ?_)
  refine x_aload_n C dX7_goPlainWith_40 rfl rfl ?_
  refine x_iconst (v := (0 : Int32)) C dX7_goPlainWith_41 (by decide) ?_
  refine n_callVV ho rfl C (ok_X7_go ho hw) mv_X7_82 rfl rfl ⟨Nat.le_of_ble_eq_true rfl, Nat.le_of_ble_eq_true rfl⟩ (Nat.le_of_ble_eq_true rfl) dX7_goPlainWith_42 (fun M9 hw => ?_)
  exact n_vreturn C r dX7_goPlainWith_45 hw

def w_X7_goPlain (o : Nat) (v1 : Nat) (v2 : Int32) (v3 : Int32) (v4 : Int32) (M : Mem) (q : Mem → Prop) : Prop := vp_in v2 24 ∧ w_X7_goPlainWith o v1 v2 (M.1 ((v1 + 1) + 7) (v2).toNatClampNeg) v3 v4 M (fun (M2 : Mem) => q M2)
set_option maxRecDepth 100000 in
set_option maxHeartbeats 4000000 in
theorem ok_X7_goPlain {g : Gl} {l : Launch} {o : Nat} {v1 : Nat} {v2 : Int32} {v3 : Int32} {v4 : Int32} {M : Mem} {q : Mem → Prop} (ho : sh o = .inl 7) (hv1 : sh v1 = .inl 8) (hw : w_X7_goPlain o v1 v2 v3 v4 M q) : CtV g l yX7_goPlain cX7_goPlain 5 none 6 121 [.ref (g.2.2.2 + o), .ref (g.2.2.2 + v1), .int v2, .int v3, .int v4] M q := by
  refine n_introV (by decide +kernel) (Nat.le_of_ble_eq_true rfl) (fun c C r => ?_)
  have C : Cx c cX7_goPlain 5 RX7 g l (Rm 6 121) := C
  refine x_sub [0, 1, 2, 3, 4] (lv' := [(0, .ref (g.2.2.2 + o)), (1, .ref (g.2.2.2 + v1)), (2, .int v2), (3, .int v3), (4, .int v4)]) rfl ?_
  unfold w_X7_goPlain at hw
  refine x_aload_n C dX7_goPlain_0 rfl rfl ?_
  refine x_aload_n C dX7_goPlain_1 rfl rfl ?_
  refine x_iload_n C dX7_goPlain_2 rfl rfl ?_
  refine x_aload_n C dX7_goPlain_3 rfl rfl ?_
  refine n_getS (dd := 1) C fl_X7_62 hv1 (fun _ _ => rfl) rfl dX7_goPlain_4 ?_
  refine n_getS (dd := 7) C fl_X7_71 (ss_8_0 hv1) (fun _ _ => rfl) rfl dX7_goPlain_7 ?_
  refine x_iload_n C dX7_goPlain_10 rfl rfl ?_
  obtain ⟨h1, hw⟩ := hw
  refine a_iald C (ss_6_9 (ss_8_0 hv1)) (sl_6_9 (ss_8_0 hv1)) h1 dX7_goPlain_11 ?_
  refine x_iload_n C dX7_goPlain_12 rfl rfl ?_
  refine x_iload C dX7_goPlain_13 rfl ?_
  refine n_callVV ho rfl C (ok_X7_goPlainWith ho hv1 hw) mv_X7_86 rfl rfl ⟨Nat.le_of_ble_eq_true rfl, Nat.le_of_ble_eq_true rfl⟩ (Nat.le_of_ble_eq_true rfl) dX7_goPlain_15 (fun M2 hw => ?_)
  exact n_vreturn C r dX7_goPlain_18 hw

def w_X7_goAgain (o : Nat) (v1 : Nat) (v2 : Int32) (M : Mem) (q : Mem → Prop) : Prop := w_X8_told v1 v2 (7 : Int32) M (fun (r2 : Int32) (M1 : Mem) => w_X8_told v1 v2 (10 : Int32) M1 (fun (r4 : Int32) (M3 : Mem) => w_X8_told v1 v2 (8 : Int32) M3 (fun (r6 : Int32) (M5 : Mem) => vp_in r6 4 ∧ ∀ M8 : Mem, M8 = uR M5 o 8 (some ((v1 + 10) + 6 + 4 * (r6).toNatClampNeg)) → w_X7_useOwn o M8 (fun (M9 : Mem) => ∃ k11 : Nat, M9.2.2 o 8 = some k11 ∧ sh k11 = .inl 3 ∧ w_X3_placeBy k11 r4 M9 (fun (r13 : Int32) (M12 : Mem) => ∀ M14 : Mem, M14 = uI M12 o 11 r13 → vp_in r2 24 ∧ vp_in r2 24 ∧ w_X8_told v1 v2 (9 : Int32) M14 (fun (r18 : Int32) (M17 : Mem) => w_X7_begin o (v1 + 1) (M14.1 ((v1 + 1) + 6) (r2).toNatClampNeg) (M14.1 ((v1 + 1) + 7) (r2).toNatClampNeg) r18 M17 (fun (M19 : Mem) => ∃ k21 : Nat, M19.2.2 o 8 = some k21 ∧ sh k21 = .inl 3 ∧ w_X8_told v1 v2 (11 : Int32) M19 (fun (r23 : Int32) (M22 : Mem) => w_X3_noiseBy k21 r4 r23 M22 (fun (r25 : Int32) (M24 : Mem) => w_X7_go o r25 M24 (fun (M26 : Mem) => q M26))))))))))
set_option maxRecDepth 100000 in
set_option maxHeartbeats 4000000 in
theorem ok_X7_goAgain {g : Gl} {l : Launch} {o : Nat} {v1 : Nat} {v2 : Int32} {M : Mem} {q : Mem → Prop} (ho : sh o = .inl 7) (hv1 : sh v1 = .inl 8) (hw : w_X7_goAgain o v1 v2 M q) : CtV g l yX7_goAgain cX7_goAgain 5 none 5 96 [.ref (g.2.2.2 + o), .ref (g.2.2.2 + v1), .int v2] M q := by
  refine n_introV (by decide +kernel) (Nat.le_of_ble_eq_true rfl) (fun c C r => ?_)
  have C : Cx c cX7_goAgain 5 RX7 g l (Rm 5 96) := C
  refine x_sub [0, 1, 2] (lv' := [(0, .ref (g.2.2.2 + o)), (1, .ref (g.2.2.2 + v1)), (2, .int v2)]) rfl ?_
  unfold w_X7_goAgain at hw
  refine x_aload_n C dX7_goAgain_0 rfl rfl ?_
  refine x_iload_n C dX7_goAgain_1 rfl rfl ?_
  refine x_bipush (v := (7 : Int32)) C dX7_goAgain_2 (by decide) ?_
  refine n_callVI hv1 rfl C (ok_X8_told hv1 hw) mv_X7_93 rfl rfl ⟨Nat.le_of_ble_eq_true rfl, Nat.le_of_ble_eq_true rfl⟩ (Nat.le_of_ble_eq_true rfl) dX7_goAgain_4 (fun r2 M1 hw => ?_)
  refine x_istore_n C dX7_goAgain_7 rfl (Nat.le_of_ble_eq_true rfl) ?_
  refine x_aload_n C dX7_goAgain_8 rfl rfl ?_
  refine x_iload_n C dX7_goAgain_9 rfl rfl ?_
  refine x_bipush (v := (10 : Int32)) C dX7_goAgain_10 (by decide) ?_
  refine n_callVI hv1 rfl C (ok_X8_told hv1 hw) mv_X7_93 rfl rfl ⟨Nat.le_of_ble_eq_true rfl, Nat.le_of_ble_eq_true rfl⟩ (Nat.le_of_ble_eq_true rfl) dX7_goAgain_12 (fun r4 M3 hw => ?_)
  refine x_istore C dX7_goAgain_15 (Nat.le_of_ble_eq_true rfl) ?_
  refine x_aload_n C dX7_goAgain_17 rfl rfl ?_
  refine x_aload_n C dX7_goAgain_18 rfl rfl ?_
  refine n_getS (dd := 10) C fl_X7_43 hv1 (fun _ _ => rfl) rfl dX7_goAgain_19 ?_
  refine x_aload_n C dX7_goAgain_22 rfl rfl ?_
  refine x_iload_n C dX7_goAgain_23 rfl rfl ?_
  refine x_bipush (v := (8 : Int32)) C dX7_goAgain_24 (by decide) ?_
  refine n_callVI hv1 rfl C (ok_X8_told hv1 hw) mv_X7_93 rfl rfl ⟨Nat.le_of_ble_eq_true rfl, Nat.le_of_ble_eq_true rfl⟩ (Nat.le_of_ble_eq_true rfl) dX7_goAgain_26 (fun r6 M5 hw => ?_)
  obtain ⟨h7, hw⟩ := hw
  refine a_aald3 C (ss_8_1 hv1) (sl_8_1 hv1) h7 dX7_goAgain_29 ?_
  obtain ⟨M8, eM8⟩ : ∃ z : Mem, z = uR M5 o 8 (some ((v1 + 10) + 6 + 4 * (r6).toNatClampNeg)) := ⟨_, rfl⟩
  replace hw := hw M8 eM8
  refine m_putR C fp_X7_33 ho (fun _ _ => rfl) rfl (fun _ => rfl) (fun _ => rfl) eM8 dX7_goAgain_30 ?_
  refine x_aload_n C dX7_goAgain_33 rfl rfl ?_
  refine n_callVV ho rfl C (ok_X7_useOwn ho hw) mv_X7_90 rfl rfl ⟨Nat.le_of_ble_eq_true rfl, Nat.le_of_ble_eq_true rfl⟩ (Nat.le_of_ble_eq_true rfl) dX7_goAgain_34 (fun M9 hw => ?_)
  refine x_aload_n C dX7_goAgain_37 rfl rfl ?_
  refine x_aload_n C dX7_goAgain_38 rfl rfl ?_
  obtain ⟨k11, rk11, sk11, hw⟩ := hw
  refine n_getR C fl_X7_33 ho (fun _ _ => rfl) rfl rk11 dX7_goAgain_39 ?_
  refine x_iload C dX7_goAgain_42 rfl ?_
  refine n_callVI sk11 rfl C (ok_X3_placeBy sk11 hw) mv_X7_54 rfl rfl ⟨Nat.le_of_ble_eq_true rfl, Nat.le_of_ble_eq_true rfl⟩ (Nat.le_of_ble_eq_true rfl) dX7_goAgain_44 (fun r13 M12 hw => ?_)
  obtain ⟨M14, eM14⟩ : ∃ z : Mem, z = uI M12 o 11 r13 := ⟨_, rfl⟩
  replace hw := hw M14 eM14
  refine m_putI C fp_X7_58 ho (fun _ _ => rfl) rfl rfl eM14 dX7_goAgain_47 ?_
  refine x_aload_n C dX7_goAgain_50 rfl rfl ?_
  refine x_aload_n C dX7_goAgain_51 rfl rfl ?_
  refine n_getS (dd := 1) C fl_X7_62 hv1 (fun _ _ => rfl) rfl dX7_goAgain_52 ?_
  refine x_aload_n C dX7_goAgain_55 rfl rfl ?_
  refine n_getS (dd := 1) C fl_X7_62 hv1 (fun _ _ => rfl) rfl dX7_goAgain_56 ?_
  refine n_getS (dd := 6) C fl_X7_66 (ss_8_0 hv1) (fun _ _ => rfl) rfl dX7_goAgain_59 ?_
  refine x_iload_n C dX7_goAgain_62 rfl rfl ?_
  obtain ⟨h15, hw⟩ := hw
  refine a_iald C (ss_6_8 (ss_8_0 hv1)) (sl_6_8 (ss_8_0 hv1)) h15 dX7_goAgain_63 ?_
  refine x_aload_n C dX7_goAgain_64 rfl rfl ?_
  refine n_getS (dd := 1) C fl_X7_62 hv1 (fun _ _ => rfl) rfl dX7_goAgain_65 ?_
  refine n_getS (dd := 7) C fl_X7_71 (ss_8_0 hv1) (fun _ _ => rfl) rfl dX7_goAgain_68 ?_
  refine x_iload_n C dX7_goAgain_71 rfl rfl ?_
  obtain ⟨h16, hw⟩ := hw
  refine a_iald C (ss_6_9 (ss_8_0 hv1)) (sl_6_9 (ss_8_0 hv1)) h16 dX7_goAgain_72 ?_
  refine x_aload_n C dX7_goAgain_73 rfl rfl ?_
  refine x_iload_n C dX7_goAgain_74 rfl rfl ?_
  refine x_bipush (v := (9 : Int32)) C dX7_goAgain_75 (by decide) ?_
  refine n_callVI hv1 rfl C (ok_X8_told hv1 hw) mv_X7_93 rfl rfl ⟨Nat.le_of_ble_eq_true rfl, Nat.le_of_ble_eq_true rfl⟩ (Nat.le_of_ble_eq_true rfl) dX7_goAgain_77 (fun r18 M17 hw => ?_)
  refine n_callVV ho rfl C (ok_X7_begin ho (ss_8_0 hv1) hw) mv_X7_74 rfl rfl ⟨Nat.le_of_ble_eq_true rfl, Nat.le_of_ble_eq_true rfl⟩ (Nat.le_of_ble_eq_true rfl) dX7_goAgain_80 (fun M19 hw => ?_)
  refine x_aload_n C dX7_goAgain_83 rfl rfl ?_
  refine x_aload_n C dX7_goAgain_84 rfl rfl ?_
  obtain ⟨k21, rk21, sk21, hw⟩ := hw
  refine n_getR C fl_X7_33 ho (fun _ _ => rfl) rfl rk21 dX7_goAgain_85 ?_
  refine x_iload C dX7_goAgain_88 rfl ?_
  refine x_aload_n C dX7_goAgain_90 rfl rfl ?_
  refine x_iload_n C dX7_goAgain_91 rfl rfl ?_
  refine x_bipush (v := (11 : Int32)) C dX7_goAgain_92 (by decide) ?_
  refine n_callVI hv1 rfl C (ok_X8_told hv1 hw) mv_X7_93 rfl rfl ⟨Nat.le_of_ble_eq_true rfl, Nat.le_of_ble_eq_true rfl⟩ (Nat.le_of_ble_eq_true rfl) dX7_goAgain_94 (fun r23 M22 hw => ?_)
  refine n_callVI sk21 rfl C (ok_X3_noiseBy sk21 hw) mv_X7_78 rfl rfl ⟨Nat.le_of_ble_eq_true rfl, Nat.le_of_ble_eq_true rfl⟩ (Nat.le_of_ble_eq_true rfl) dX7_goAgain_97 (fun r25 M24 hw => ?_)
  refine n_callVV ho rfl C (ok_X7_go ho hw) mv_X7_82 rfl rfl ⟨Nat.le_of_ble_eq_true rfl, Nat.le_of_ble_eq_true rfl⟩ (Nat.le_of_ble_eq_true rfl) dX7_goAgain_100 (fun M26 hw => ?_)
  exact n_vreturn C r dX7_goAgain_103 hw

def w_X8_takeFrom_l13F (o : Nat) (v1 : Nat) (q : Mem → Prop) (P13 : Int32 × Mem → Prop) (s : Int32 × Mem) : Prop := match s with
  | (v2, M) => (((4 : Int32) ≤ v2 → w_X5_takeFrom (o + 11) (v1 + 11) M (fun (M2 : Mem) => ∀ M4 : Mem, M4 = cpI M2 (v1 + 14) (o + 14) 0 0 2800 → ∀ M5 : Mem, M5 = uI M4 o 4 (M4.1 v1 4) → ∀ M6 : Mem, M6 = cpI M5 (v1 + 15) (o + 15) 0 0 40 → ∀ M7 : Mem, M7 = uI M6 o 6 (M6.1 v1 6) → q M7)) ∧ (¬ (4 : Int32) ≤ v2 → vp_in v2 4 ∧ vp_in v2 4 ∧ w_X3_takeFrom ((o + 10) + 6 + 4 * (v2).toNatClampNeg) ((v1 + 10) + 6 + 4 * (v2).toNatClampNeg) M (fun (M10 : Mem) => ∀ x12 : Int32, x12 = v2 + (1 : Int32) → P13 (x12, M10))))
def w_X8_takeFrom_l13 (o : Nat) (v1 : Nat) (q : Mem → Prop) (s : Int32 × Mem) : Prop := lfp (w_X8_takeFrom_l13F o v1 q ) s
set_option maxRecDepth 100000 in
set_option maxHeartbeats 4000000 in
theorem ok_X8_takeFrom_l13 {c : CtxT} {g : Gl} {l : Launch} {o : Nat} {v1 : Nat} {q : Mem → Prop} {s : Int32 × Mem} (C : Cx c cX8_takeFrom 3 RX8 g l (Rm 2 81)) (r : Rt c (none) (pV q) 0 0) (ho : sh o = .inl 8) (hv1 : sh v1 = .inl 8) (hw : w_X8_takeFrom_l13 o v1 q s) : X c S0 13 [(0, .ref (g.2.2.2 + o)), (1, .ref (g.2.2.2 + v1)), (2, .int s.1)] [] (stat s.2) := hw (fun s => X c S0 13 [(0, .ref (g.2.2.2 + o)), (1, .ref (g.2.2.2 + v1)), (2, .int s.1)] [] (stat s.2)) (fun s hw => by
    obtain ⟨v2, M⟩ := s
    try dsimp only [w_X8_takeFrom_l13F] at hw
    try dsimp only
    refine x_iload_n C dX8_takeFrom_13 rfl rfl ?_
    refine x_iconst (v := (4 : Int32)) C dX8_takeFrom_14 (by decide) ?_
    refine x_icmp_ge (tgt := 39) C dX8_takeFrom_15 (by decide) (fun h1 => ?_) (fun h1 => ?_)
    · replace hw := hw.1 h1
      refine x_aload_n C dX8_takeFrom_39 rfl rfl ?_
      refine n_getS (dd := 11) C fl_X8_27 ho (fun _ _ => rfl) rfl dX8_takeFrom_40 ?_
      refine x_aload_n C dX8_takeFrom_43 rfl rfl ?_
      refine n_getS (dd := 11) C fl_X8_27 hv1 (fun _ _ => rfl) rfl dX8_takeFrom_44 ?_
      refine n_callVV (ss_8_2 ho) rfl C (ok_X5_takeFrom (ss_8_2 ho) (ss_8_2 hv1) hw) mv_X8_46 rfl rfl ⟨Nat.le_of_ble_eq_true rfl, Nat.le_of_ble_eq_true rfl⟩ (Nat.le_of_ble_eq_true rfl) dX8_takeFrom_47 (fun M2 hw => ?_)
      refine x_aload_n C dX8_takeFrom_50 rfl rfl ?_
      refine n_getS (dd := 14) C fl_X8_31 hv1 (fun _ _ => rfl) rfl dX8_takeFrom_51 ?_
      refine x_iconst (v := (0 : Int32)) C dX8_takeFrom_54 (by decide) ?_
      refine x_aload_n C dX8_takeFrom_55 rfl rfl ?_
      refine n_getS (dd := 14) C fl_X8_31 ho (fun _ _ => rfl) rfl dX8_takeFrom_56 ?_
      refine x_iconst (v := (0 : Int32)) C dX8_takeFrom_59 (by decide) ?_
      refine x_aload_n C dX8_takeFrom_60 rfl rfl ?_
      refine n_getS (dd := 14) C fl_X8_31 ho (fun _ _ => rfl) rfl dX8_takeFrom_61 ?_
      refine m_alenL (v := (2800 : Int32)) C (ss_8_3 ho) (by decide) (by rw [(sl_8_3 ho)]; decide) dX8_takeFrom_64 ?_
      obtain ⟨M4, eM4⟩ : ∃ z : Mem, z = cpI M2 (v1 + 14) (o + 14) 0 0 2800 := ⟨_, rfl⟩
      replace hw := hw M4 eM4
      refine a_copy C ac_X8_49 ac_native ac_static ac_init (ss_8_3 hv1) (ss_8_3 ho) (sl_8_3 hv1) (sl_8_3 ho) (by decide) (by decide) (by decide) (by decide) (by decide) (by decide) (by decide) (by decide) eM4 (Nat.le_of_ble_eq_true rfl) (Nat.le_of_ble_eq_true rfl) (Nat.le_of_ble_eq_true rfl) dX8_takeFrom_65 ?_
      refine x_aload_n C dX8_takeFrom_68 rfl rfl ?_
      refine x_aload_n C dX8_takeFrom_69 rfl rfl ?_
      refine n_getI C fl_X8_55 hv1 (fun _ _ => rfl) dX8_takeFrom_70 ?_
      obtain ⟨M5, eM5⟩ : ∃ z : Mem, z = uI M4 o 4 (M4.1 v1 4) := ⟨_, rfl⟩
      replace hw := hw M5 eM5
      refine m_putI C fp_X8_55 ho (fun _ _ => rfl) rfl rfl eM5 dX8_takeFrom_73 ?_
      refine x_aload_n C dX8_takeFrom_76 rfl rfl ?_
      refine n_getS (dd := 15) C fl_X8_35 hv1 (fun _ _ => rfl) rfl dX8_takeFrom_77 ?_
      refine x_iconst (v := (0 : Int32)) C dX8_takeFrom_80 (by decide) ?_
      refine x_aload_n C dX8_takeFrom_81 rfl rfl ?_
      refine n_getS (dd := 15) C fl_X8_35 ho (fun _ _ => rfl) rfl dX8_takeFrom_82 ?_
      refine x_iconst (v := (0 : Int32)) C dX8_takeFrom_85 (by decide) ?_
      refine x_aload_n C dX8_takeFrom_86 rfl rfl ?_
      refine n_getS (dd := 15) C fl_X8_35 ho (fun _ _ => rfl) rfl dX8_takeFrom_87 ?_
      refine m_alenL (v := (40 : Int32)) C (ss_8_5 ho) (by decide) (by rw [(sl_8_5 ho)]; decide) dX8_takeFrom_90 ?_
      obtain ⟨M6, eM6⟩ : ∃ z : Mem, z = cpI M5 (v1 + 15) (o + 15) 0 0 40 := ⟨_, rfl⟩
      replace hw := hw M6 eM6
      refine a_copy C ac_X8_49 ac_native ac_static ac_init (ss_8_5 hv1) (ss_8_5 ho) (sl_8_5 hv1) (sl_8_5 ho) (by decide) (by decide) (by decide) (by decide) (by decide) (by decide) (by decide) (by decide) eM6 (Nat.le_of_ble_eq_true rfl) (Nat.le_of_ble_eq_true rfl) (Nat.le_of_ble_eq_true rfl) dX8_takeFrom_91 ?_
      refine x_aload_n C dX8_takeFrom_94 rfl rfl ?_
      refine x_aload_n C dX8_takeFrom_95 rfl rfl ?_
      refine n_getI C fl_X8_59 hv1 (fun _ _ => rfl) dX8_takeFrom_96 ?_
      obtain ⟨M7, eM7⟩ : ∃ z : Mem, z = uI M6 o 6 (M6.1 v1 6) := ⟨_, rfl⟩
      replace hw := hw M7 eM7
      refine m_putI C fp_X8_59 ho (fun _ _ => rfl) rfl rfl eM7 dX8_takeFrom_99 ?_
      exact n_vreturn C r dX8_takeFrom_102 hw
    · replace hw := hw.2 h1
      refine x_aload_n C dX8_takeFrom_18 rfl rfl ?_
      refine n_getS (dd := 10) C fl_X8_20 ho (fun _ _ => rfl) rfl dX8_takeFrom_19 ?_
      refine x_iload_n C dX8_takeFrom_22 rfl rfl ?_
      obtain ⟨h8, hw⟩ := hw
      refine a_aald3 C (ss_8_1 ho) (sl_8_1 ho) h8 dX8_takeFrom_23 ?_
      refine x_aload_n C dX8_takeFrom_24 rfl rfl ?_
      refine n_getS (dd := 10) C fl_X8_20 hv1 (fun _ _ => rfl) rfl dX8_takeFrom_25 ?_
      refine x_iload_n C dX8_takeFrom_28 rfl rfl ?_
      obtain ⟨h9, hw⟩ := hw
      refine a_aald3 C (ss_8_1 hv1) (sl_8_1 hv1) h9 dX8_takeFrom_29 ?_
      refine n_callVV (el3 (ss_8_1 ho) ((sl_8_1 ho).symm ▸ h8)) rfl C (ok_X3_takeFrom (el3 (ss_8_1 ho) ((sl_8_1 ho).symm ▸ h8)) (el3 (ss_8_1 hv1) ((sl_8_1 hv1).symm ▸ h9)) hw) mv_X8_43 rfl rfl ⟨Nat.le_of_ble_eq_true rfl, Nat.le_of_ble_eq_true rfl⟩ (Nat.le_of_ble_eq_true rfl) dX8_takeFrom_30 (fun M10 hw => ?_)
      obtain ⟨x12, ex12⟩ : ∃ z : Int32, z = v2 + (1 : Int32) := ⟨_, rfl⟩
      replace hw := hw x12 ex12
      refine x_iinc (v := x12) C dX8_takeFrom_33 rfl ex12.symm (Nat.le_of_ble_eq_true rfl) ?_
      refine x_goto (tgt := 13) C dX8_takeFrom_36 (by decide) ?_
      exact x_sub [0, 1, 2] rfl hw)
def w_X8_takeFrom (o : Nat) (v1 : Nat) (M : Mem) (q : Mem → Prop) : Prop := w_X6_takeFrom (o + 1) (v1 + 1) M (fun (M13 : Mem) => w_X8_takeFrom_l13 o v1 q ((0 : Int32), M13))
set_option maxRecDepth 100000 in
set_option maxHeartbeats 4000000 in
theorem ok_X8_takeFrom {g : Gl} {l : Launch} {o : Nat} {v1 : Nat} {M : Mem} {q : Mem → Prop} (ho : sh o = .inl 8) (hv1 : sh v1 = .inl 8) (hw : w_X8_takeFrom o v1 M q) : CtV g l yX8_takeFrom cX8_takeFrom 3 none 2 81 [.ref (g.2.2.2 + o), .ref (g.2.2.2 + v1)] M q := by
  refine n_introV (by decide +kernel) (Nat.le_of_ble_eq_true rfl) (fun c C r => ?_)
  have C : Cx c cX8_takeFrom 3 RX8 g l (Rm 2 81) := C
  refine x_sub [0, 1] (lv' := [(0, .ref (g.2.2.2 + o)), (1, .ref (g.2.2.2 + v1))]) rfl ?_
  unfold w_X8_takeFrom at hw
  refine x_aload_n C dX8_takeFrom_0 rfl rfl ?_
  refine n_getS (dd := 1) C fl_X8_12 ho (fun _ _ => rfl) rfl dX8_takeFrom_1 ?_
  refine x_aload_n C dX8_takeFrom_4 rfl rfl ?_
  refine n_getS (dd := 1) C fl_X8_12 hv1 (fun _ _ => rfl) rfl dX8_takeFrom_5 ?_
  refine n_callVV (ss_8_0 ho) rfl C (ok_X6_takeFrom (ss_8_0 ho) (ss_8_0 hv1) hw) mv_X8_39 rfl rfl ⟨Nat.le_of_ble_eq_true rfl, Nat.le_of_ble_eq_true rfl⟩ (Nat.le_of_ble_eq_true rfl) dX8_takeFrom_8 (fun M13 hw => ?_)
  refine x_iconst (v := (0 : Int32)) C dX8_takeFrom_11 (by decide) ?_
  refine x_istore_n C dX8_takeFrom_12 rfl (Nat.le_of_ble_eq_true rfl) ?_
  exact x_sub [0, 1, 2] rfl (ok_X8_takeFrom_l13 C r ho hv1 hw)

def w_X8_tell (o : Nat) (v1 : Int32) (v2 : Int32) (v3 : Int32) (M : Mem) (q : Mem → Prop) : Prop := vp_in ((v1 * (14 : Int32)) + v2) 2800 ∧ ∀ M2 : Mem, M2 = uI M (o + 14) (((v1 * (14 : Int32)) + v2)).toNatClampNeg v3 → q M2
set_option maxRecDepth 100000 in
set_option maxHeartbeats 4000000 in
theorem ok_X8_tell {g : Gl} {l : Launch} {o : Nat} {v1 : Int32} {v2 : Int32} {v3 : Int32} {M : Mem} {q : Mem → Prop} (ho : sh o = .inl 8) (hw : w_X8_tell o v1 v2 v3 M q) : CtV g l yX8_tell cX8_tell 4 none 1 0 [.ref (g.2.2.2 + o), .int v1, .int v2, .int v3] M q := by
  refine n_introV (by decide +kernel) (Nat.le_of_ble_eq_true rfl) (fun c C r => ?_)
  have C : Cx c cX8_tell 4 RX8 g l (Rm 1 0) := C
  refine x_sub [0, 1, 2, 3] (lv' := [(0, .ref (g.2.2.2 + o)), (1, .int v1), (2, .int v2), (3, .int v3)]) rfl ?_
  unfold w_X8_tell at hw
  refine x_aload_n C dX8_tell_0 rfl rfl ?_
  refine n_getS (dd := 14) C fl_X8_31 ho (fun _ _ => rfl) rfl dX8_tell_1 ?_
  refine x_iload_n C dX8_tell_4 rfl rfl ?_
  refine x_bipush (v := (14 : Int32)) C dX8_tell_5 (by decide) ?_
  refine x_imul C dX8_tell_7 ?_
  refine x_iload_n C dX8_tell_8 rfl rfl ?_
  refine x_iadd C dX8_tell_9 ?_
  refine x_iload_n C dX8_tell_10 rfl rfl ?_
  obtain ⟨h1, hw⟩ := hw
  obtain ⟨M2, eM2⟩ : ∃ z : Mem, z = uI M (o + 14) (((v1 * (14 : Int32)) + v2)).toNatClampNeg v3 := ⟨_, rfl⟩
  replace hw := hw M2 eM2
  refine a_iast C (ss_8_3 ho) (sl_8_3 ho) rfl h1 eM2 dX8_tell_11 ?_
  exact n_vreturn C r dX8_tell_12 hw

def w_X8_addRun_b41 (o : Nat) (t1 : Int32) (t2 : Int32) (t3 : Int32) (M : Mem) (q : Int32 → Mem → Prop) : Prop := w_X8_tell o t1 t2 t3 M (fun (M1 : Mem) => ∀ M3 : Mem, M3 = uI M1 o 4 ((M1.1 o 4) + (1 : Int32)) → q ((M3.1 o 4) - (1 : Int32)) M3)
set_option maxRecDepth 100000 in
set_option maxHeartbeats 4000000 in
theorem ok_X8_addRun_b41 {c : CtxT} {g : Gl} {l : Launch} {o : Nat} {t1 : Int32} {t2 : Int32} {t3 : Int32} {q : Int32 → Mem → Prop} {M : Mem} (C : Cx c cX8_addRun 4 RX8 g l (Rm 2 23)) (r : Rt c (some .int) (pI q) 0 0) (ho : sh o = .inl 8) (hw : w_X8_addRun_b41 o t1 t2 t3 M q ) : X c S0 41 [(0, .ref (g.2.2.2 + o))] [.int t3, .int t2, .int t1, .ref (g.2.2.2 + o)] (stat M) := by
  unfold w_X8_addRun_b41 at hw
  refine n_callVV ho rfl C (ok_X8_tell ho hw) mv_X8_62 rfl rfl ⟨Nat.le_of_ble_eq_true rfl, Nat.le_of_ble_eq_true rfl⟩ (Nat.le_of_ble_eq_true rfl) dX8_addRun_41 (fun M1 hw => ?_)
  refine x_aload_n C dX8_addRun_44 rfl rfl ?_
  refine x_dup C dX8_addRun_45 rfl ?_
  refine n_getI C fl_X8_55 ho (fun _ _ => rfl) dX8_addRun_46 ?_
  refine x_iconst (v := (1 : Int32)) C dX8_addRun_49 (by decide) ?_
  refine x_iadd C dX8_addRun_50 ?_
  obtain ⟨M3, eM3⟩ : ∃ z : Mem, z = uI M1 o 4 ((M1.1 o 4) + (1 : Int32)) := ⟨_, rfl⟩
  replace hw := hw M3 eM3
  refine m_putI C fp_X8_55 ho (fun _ _ => rfl) rfl rfl eM3 dX8_addRun_51 ?_
  refine x_aload_n C dX8_addRun_54 rfl rfl ?_
  refine n_getI C fl_X8_55 ho (fun _ _ => rfl) dX8_addRun_55 ?_
  refine x_iconst (v := (1 : Int32)) C dX8_addRun_58 (by decide) ?_
  refine x_isub C dX8_addRun_59 ?_
  exact n_ireturn C r dX8_addRun_60 hw
def w_X8_addRun_l2F (o : Nat) (v1 : Nat) (v2 : Int32) (q : Int32 → Mem → Prop) (P2 : Int32 × Mem → Prop) (s : Int32 × Mem) : Prop := match s with
  | (v3, M) => (((5 : Int32) < v3 → ((v2 = 0 → w_X8_addRun_b41 o (M.1 o 4) (6 : Int32) (0 : Int32) M q) ∧ (¬ v2 = 0 → w_X8_addRun_b41 o (M.1 o 4) (6 : Int32) (1 : Int32) M q))) ∧ (¬ (5 : Int32) < v3 → vp_in v3 (len v1) ∧ w_X8_tell o (M.1 o 4) v3 (M.1 v1 (v3).toNatClampNeg) M (fun (M7 : Mem) => ∀ x9 : Int32, x9 = v3 + (1 : Int32) → P2 (x9, M7))))
def w_X8_addRun_l2 (o : Nat) (v1 : Nat) (v2 : Int32) (q : Int32 → Mem → Prop) (s : Int32 × Mem) : Prop := lfp (w_X8_addRun_l2F o v1 v2 q ) s
set_option maxRecDepth 100000 in
set_option maxHeartbeats 4000000 in
theorem ok_X8_addRun_l2 {c : CtxT} {g : Gl} {l : Launch} {o : Nat} {v1 : Nat} {v2 : Int32} {q : Int32 → Mem → Prop} {s : Int32 × Mem} (C : Cx c cX8_addRun 4 RX8 g l (Rm 2 23)) (r : Rt c (some .int) (pI q) 0 0) (ho : sh o = .inl 8) (hv1 : isA 0 v1) (hw : w_X8_addRun_l2 o v1 v2 q s) : X c S0 2 [(0, .ref (g.2.2.2 + o)), (1, .ref (g.2.2.2 + v1)), (2, .int v2), (3, .int s.1)] [] (stat s.2) := hw (fun s => X c S0 2 [(0, .ref (g.2.2.2 + o)), (1, .ref (g.2.2.2 + v1)), (2, .int v2), (3, .int s.1)] [] (stat s.2)) (fun s hw => by
    obtain ⟨v3, M⟩ := s
    try dsimp only [w_X8_addRun_l2F] at hw
    try dsimp only
    refine x_iload_n C dX8_addRun_2 rfl rfl ?_
    refine x_iconst (v := (5 : Int32)) C dX8_addRun_3 (by decide) ?_
    refine x_icmp_gt (tgt := 25) C dX8_addRun_4 (by decide) (fun h4 => ?_) (fun h4 => ?_)
    · replace hw := hw.1 h4
      refine x_aload_n C dX8_addRun_25 rfl rfl ?_
      refine x_aload_n C dX8_addRun_26 rfl rfl ?_
      refine n_getI C fl_X8_55 ho (fun _ _ => rfl) dX8_addRun_27 ?_
      refine x_bipush (v := (6 : Int32)) C dX8_addRun_30 (by decide) ?_
      refine x_iload_n C dX8_addRun_32 rfl rfl ?_
      refine x_if_eq (tgt := 40) C dX8_addRun_33 (by decide) (fun h5 => ?_) (fun h5 => ?_)
      · replace hw := hw.1 h5
        refine x_iconst (v := (0 : Int32)) C dX8_addRun_40 (by decide) ?_
        exact x_sub [0] rfl (ok_X8_addRun_b41 C r ho hw)
      · replace hw := hw.2 h5
        refine x_iconst (v := (1 : Int32)) C dX8_addRun_36 (by decide) ?_
        refine x_goto (tgt := 41) C dX8_addRun_37 (by decide) ?_
        exact x_sub [0] rfl (ok_X8_addRun_b41 C r ho hw)
    · replace hw := hw.2 h4
      refine x_aload_n C dX8_addRun_7 rfl rfl ?_
      refine x_aload_n C dX8_addRun_8 rfl rfl ?_
      refine n_getI C fl_X8_55 ho (fun _ _ => rfl) dX8_addRun_9 ?_
      refine x_iload_n C dX8_addRun_12 rfl rfl ?_
      refine x_aload_n C dX8_addRun_13 rfl rfl ?_
      refine x_iload_n C dX8_addRun_14 rfl rfl ?_
      obtain ⟨h6, hw⟩ := hw
      refine a_iald C hv1 rfl h6 dX8_addRun_15 ?_
      refine n_callVV ho rfl C (ok_X8_tell ho hw) mv_X8_62 rfl rfl ⟨Nat.le_of_ble_eq_true rfl, Nat.le_of_ble_eq_true rfl⟩ (Nat.le_of_ble_eq_true rfl) dX8_addRun_16 (fun M7 hw => ?_)
      obtain ⟨x9, ex9⟩ : ∃ z : Int32, z = v3 + (1 : Int32) := ⟨_, rfl⟩
      replace hw := hw x9 ex9
      refine x_iinc (v := x9) C dX8_addRun_19 rfl ex9.symm (Nat.le_of_ble_eq_true rfl) ?_
      refine x_goto (tgt := 2) C dX8_addRun_22 (by decide) ?_
      exact x_sub [0, 1, 2, 3] rfl hw)
def w_X8_addRun (o : Nat) (v1 : Nat) (v2 : Int32) (M : Mem) (q : Int32 → Mem → Prop) : Prop := w_X8_addRun_l2 o v1 v2 q ((0 : Int32), M)
set_option maxRecDepth 100000 in
set_option maxHeartbeats 4000000 in
theorem ok_X8_addRun {g : Gl} {l : Launch} {o : Nat} {v1 : Nat} {v2 : Int32} {M : Mem} {q : Int32 → Mem → Prop} (ho : sh o = .inl 8) (hv1 : isA 0 v1) (hw : w_X8_addRun o v1 v2 M q) : CtI g l yX8_addRun cX8_addRun 4 (some .int) 2 23 [.ref (g.2.2.2 + o), .ref (g.2.2.2 + v1), .int v2] M q := by
  refine n_introI (by decide +kernel) (Nat.le_of_ble_eq_true rfl) (fun c C r => ?_)
  have C : Cx c cX8_addRun 4 RX8 g l (Rm 2 23) := C
  refine x_sub [0, 1, 2] (lv' := [(0, .ref (g.2.2.2 + o)), (1, .ref (g.2.2.2 + v1)), (2, .int v2)]) rfl ?_
  unfold w_X8_addRun at hw
  refine x_iconst (v := (0 : Int32)) C dX8_addRun_0 (by decide) ?_
  refine x_istore_n C dX8_addRun_1 rfl (Nat.le_of_ble_eq_true rfl) ?_
  exact x_sub [0, 1, 2, 3] rfl (ok_X8_addRun_l2 C r ho hv1 hw)

def w_X8_isAsCounted_l2F (o : Nat) (v1 : Int32) (v2 : Nat) (q : Int32 → Mem → Prop) (P2 : Int32 × Mem → Prop) (s : Int32 × Mem) : Prop := match s with
  | (v3, M) => (((5 : Int32) < v3 → q (1 : Int32) M) ∧ (¬ (5 : Int32) < v3 → w_X8_told o v1 v3 M (fun (r3 : Int32) (M2 : Mem) => vp_in v3 (len v2) ∧ ((r3 = (M2.1 v2 (v3).toNatClampNeg) → ∀ x6 : Int32, x6 = v3 + (1 : Int32) → P2 (x6, M2)) ∧ (¬ r3 = (M2.1 v2 (v3).toNatClampNeg) → q (0 : Int32) M2)))))
def w_X8_isAsCounted_l2 (o : Nat) (v1 : Int32) (v2 : Nat) (q : Int32 → Mem → Prop) (s : Int32 × Mem) : Prop := lfp (w_X8_isAsCounted_l2F o v1 v2 q ) s
set_option maxRecDepth 100000 in
set_option maxHeartbeats 4000000 in
theorem ok_X8_isAsCounted_l2 {c : CtxT} {g : Gl} {l : Launch} {o : Nat} {v1 : Int32} {v2 : Nat} {q : Int32 → Mem → Prop} {s : Int32 × Mem} (C : Cx c cX8_isAsCounted 4 RX8 g l (Rm 2 22)) (r : Rt c (some .boolean) (pI q) 0 0) (ho : sh o = .inl 8) (hv2 : isA 0 v2) (hw : w_X8_isAsCounted_l2 o v1 v2 q s) : X c S0 2 [(0, .ref (g.2.2.2 + o)), (1, .int v1), (2, .ref (g.2.2.2 + v2)), (3, .int s.1)] [] (stat s.2) := hw (fun s => X c S0 2 [(0, .ref (g.2.2.2 + o)), (1, .int v1), (2, .ref (g.2.2.2 + v2)), (3, .int s.1)] [] (stat s.2)) (fun s hw => by
    obtain ⟨v3, M⟩ := s
    try dsimp only [w_X8_isAsCounted_l2F] at hw
    try dsimp only
    refine x_iload_n C dX8_isAsCounted_2 rfl rfl ?_
    refine x_iconst (v := (5 : Int32)) C dX8_isAsCounted_3 (by decide) ?_
    refine x_icmp_gt (tgt := 27) C dX8_isAsCounted_4 (by decide) (fun h1 => ?_) (fun h1 => ?_)
    · replace hw := hw.1 h1
      refine x_iconst (v := (1 : Int32)) C dX8_isAsCounted_27 (by decide) ?_
      exact n_zreturn C r dX8_isAsCounted_28 (Or.inr rfl) hw
    · replace hw := hw.2 h1
      refine x_aload_n C dX8_isAsCounted_7 rfl rfl ?_
      refine x_iload_n C dX8_isAsCounted_8 rfl rfl ?_
      refine x_iload_n C dX8_isAsCounted_9 rfl rfl ?_
      refine n_callVI ho rfl C (ok_X8_told ho hw) mv_X8_66 rfl rfl ⟨Nat.le_of_ble_eq_true rfl, Nat.le_of_ble_eq_true rfl⟩ (Nat.le_of_ble_eq_true rfl) dX8_isAsCounted_10 (fun r3 M2 hw => ?_)
      refine x_aload_n C dX8_isAsCounted_13 rfl rfl ?_
      refine x_iload_n C dX8_isAsCounted_14 rfl rfl ?_
      obtain ⟨h4, hw⟩ := hw
      refine a_iald C hv2 rfl h4 dX8_isAsCounted_15 ?_
      refine x_icmp_eq (tgt := 21) C dX8_isAsCounted_16 (by decide) (fun h5 => ?_) (fun h5 => ?_)
      · replace hw := hw.1 h5
        obtain ⟨x6, ex6⟩ : ∃ z : Int32, z = v3 + (1 : Int32) := ⟨_, rfl⟩
        replace hw := hw x6 ex6
        refine x_iinc (v := x6) C dX8_isAsCounted_21 rfl ex6.symm (Nat.le_of_ble_eq_true rfl) ?_
        refine x_goto (tgt := 2) C dX8_isAsCounted_24 (by decide) ?_
        exact x_sub [0, 1, 2, 3] rfl hw
      · replace hw := hw.2 h5
        refine x_iconst (v := (0 : Int32)) C dX8_isAsCounted_19 (by decide) ?_
        exact n_zreturn C r dX8_isAsCounted_20 (Or.inl rfl) hw)
def w_X8_isAsCounted (o : Nat) (v1 : Int32) (v2 : Nat) (M : Mem) (q : Int32 → Mem → Prop) : Prop := w_X8_isAsCounted_l2 o v1 v2 q ((0 : Int32), M)
set_option maxRecDepth 100000 in
set_option maxHeartbeats 4000000 in
theorem ok_X8_isAsCounted {g : Gl} {l : Launch} {o : Nat} {v1 : Int32} {v2 : Nat} {M : Mem} {q : Int32 → Mem → Prop} (ho : sh o = .inl 8) (hv2 : isA 0 v2) (hw : w_X8_isAsCounted o v1 v2 M q) : CtI g l yX8_isAsCounted cX8_isAsCounted 4 (some .boolean) 2 22 [.ref (g.2.2.2 + o), .int v1, .ref (g.2.2.2 + v2)] M q := by
  refine n_introI (by decide +kernel) (Nat.le_of_ble_eq_true rfl) (fun c C r => ?_)
  have C : Cx c cX8_isAsCounted 4 RX8 g l (Rm 2 22) := C
  refine x_sub [0, 1, 2] (lv' := [(0, .ref (g.2.2.2 + o)), (1, .int v1), (2, .ref (g.2.2.2 + v2))]) rfl ?_
  unfold w_X8_isAsCounted at hw
  refine x_iconst (v := (0 : Int32)) C dX8_isAsCounted_0 (by decide) ?_
  refine x_istore_n C dX8_isAsCounted_1 rfl (Nat.le_of_ble_eq_true rfl) ?_
  exact x_sub [0, 1, 2, 3] rfl (ok_X8_isAsCounted_l2 C r ho hv2 hw)

def w_X8_voidRuns_l4F (o : Nat) (q : Int32 → Mem → Prop) (P4 : Int32 × Int32 × Mem → Prop) (s : Int32 × Int32 × Mem) : Prop := match s with
  | (v1, v2, M) => (((M.1 o 4) ≤ v2 → q v1 M) ∧ (¬ (M.1 o 4) ≤ v2 → w_X8_told o v2 (6 : Int32) M (fun (r3 : Int32) (M2 : Mem) => ∀ x4 : Int32, x4 = (v1 + r3) → ∀ x5 : Int32, x5 = v2 + (1 : Int32) → P4 (x4, x5, M2))))
def w_X8_voidRuns_l4 (o : Nat) (q : Int32 → Mem → Prop) (s : Int32 × Int32 × Mem) : Prop := lfp (w_X8_voidRuns_l4F o q ) s
set_option maxRecDepth 100000 in
set_option maxHeartbeats 4000000 in
theorem ok_X8_voidRuns_l4 {c : CtxT} {g : Gl} {l : Launch} {o : Nat} {q : Int32 → Mem → Prop} {s : Int32 × Int32 × Mem} (C : Cx c cX8_voidRuns 3 RX8 g l (Rm 2 22)) (r : Rt c (some .int) (pI q) 0 0) (ho : sh o = .inl 8) (hw : w_X8_voidRuns_l4 o q s) : X c S0 4 [(0, .ref (g.2.2.2 + o)), (1, .int s.1), (2, .int s.2.1)] [] (stat s.2.2) := hw (fun s => X c S0 4 [(0, .ref (g.2.2.2 + o)), (1, .int s.1), (2, .int s.2.1)] [] (stat s.2.2)) (fun s hw => by
    obtain ⟨v1, v2, M⟩ := s
    try dsimp only [w_X8_voidRuns_l4F] at hw
    try dsimp only
    refine x_iload_n C dX8_voidRuns_4 rfl rfl ?_
    refine x_aload_n C dX8_voidRuns_5 rfl rfl ?_
    refine n_getI C fl_X8_55 ho (fun _ _ => rfl) dX8_voidRuns_6 ?_
    refine x_icmp_ge (tgt := 28) C dX8_voidRuns_9 (by decide) (fun h1 => ?_) (fun h1 => ?_)
    · replace hw := hw.1 h1
      refine x_iload_n C dX8_voidRuns_28 rfl rfl ?_
      exact n_ireturn C r dX8_voidRuns_29 hw
    · replace hw := hw.2 h1
      refine x_iload_n C dX8_voidRuns_12 rfl rfl ?_
      refine x_aload_n C dX8_voidRuns_13 rfl rfl ?_
      refine x_iload_n C dX8_voidRuns_14 rfl rfl ?_
      refine x_bipush (v := (6 : Int32)) C dX8_voidRuns_15 (by decide) ?_
      refine n_callVI ho rfl C (ok_X8_told ho hw) mv_X8_66 rfl rfl ⟨Nat.le_of_ble_eq_true rfl, Nat.le_of_ble_eq_true rfl⟩ (Nat.le_of_ble_eq_true rfl) dX8_voidRuns_17 (fun r3 M2 hw => ?_)
      refine x_iadd C dX8_voidRuns_20 ?_
      obtain ⟨x4, ex4⟩ : ∃ z : Int32, z = (v1 + r3) := ⟨_, rfl⟩
      replace hw := hw x4 ex4
      refine x_topi ex4 ?_
      refine x_istore_n C dX8_voidRuns_21 rfl (Nat.le_of_ble_eq_true rfl) ?_
      obtain ⟨x5, ex5⟩ : ∃ z : Int32, z = v2 + (1 : Int32) := ⟨_, rfl⟩
      replace hw := hw x5 ex5
      refine x_iinc (v := x5) C dX8_voidRuns_22 rfl ex5.symm (Nat.le_of_ble_eq_true rfl) ?_
      refine x_goto (tgt := 4) C dX8_voidRuns_25 (by decide) ?_
      exact x_sub [0, 1, 2] rfl hw)
def w_X8_voidRuns (o : Nat) (M : Mem) (q : Int32 → Mem → Prop) : Prop := w_X8_voidRuns_l4 o q ((0 : Int32), (0 : Int32), M)
set_option maxRecDepth 100000 in
set_option maxHeartbeats 4000000 in
theorem ok_X8_voidRuns {g : Gl} {l : Launch} {o : Nat} {M : Mem} {q : Int32 → Mem → Prop} (ho : sh o = .inl 8) (hw : w_X8_voidRuns o M q) : CtI g l yX8_voidRuns cX8_voidRuns 3 (some .int) 2 22 [.ref (g.2.2.2 + o)] M q := by
  refine n_introI (by decide +kernel) (Nat.le_of_ble_eq_true rfl) (fun c C r => ?_)
  have C : Cx c cX8_voidRuns 3 RX8 g l (Rm 2 22) := C
  refine x_sub [0] (lv' := [(0, .ref (g.2.2.2 + o))]) rfl ?_
  unfold w_X8_voidRuns at hw
  refine x_iconst (v := (0 : Int32)) C dX8_voidRuns_0 (by decide) ?_
  refine x_istore_n C dX8_voidRuns_1 rfl (Nat.le_of_ble_eq_true rfl) ?_
  refine x_iconst (v := (0 : Int32)) C dX8_voidRuns_2 (by decide) ?_
  refine x_istore_n C dX8_voidRuns_3 rfl (Nat.le_of_ble_eq_true rfl) ?_
  exact x_sub [0, 1, 2] rfl (ok_X8_voidRuns_l4 C r ho hw)

def w_X9_ask (o : Nat) (v1 : Nat) (v2 : Nat) (v3 : Int32) (v4 : Int32) (v5 : Int32) (v6 : Int32) (v7 : Int32) (M : Mem) (q : Mem → Prop) : Prop := ∀ M1 : Mem, M1 = uR M o 2 (some v1) → ∀ M2 : Mem, M2 = uR M1 o 3 (some v2) → ∀ M3 : Mem, M3 = uI M2 o 4 v3 → ∀ M4 : Mem, M4 = uI M3 o 5 v5 → ∀ M5 : Mem, M5 = uI M4 o 6 v6 → ∀ M6 : Mem, M6 = uI M5 o 7 v7 → vp_in v3 24 ∧ vp_in v4 24 ∧ ∀ M9 : Mem, M9 = uI M6 o 8 ((M6.1 ((v1 + 1) + 7) (v3).toNatClampNeg) &&& ((M6.1 ((v1 + 1) + 7) (v4).toNatClampNeg) ^^^ (-1 : Int32))) → q M9
set_option maxRecDepth 100000 in
set_option maxHeartbeats 4000000 in
theorem ok_X9_ask {g : Gl} {l : Launch} {o : Nat} {v1 : Nat} {v2 : Nat} {v3 : Int32} {v4 : Int32} {v5 : Int32} {v6 : Int32} {v7 : Int32} {M : Mem} {q : Mem → Prop} (ho : sh o = .inl 9) (hv1 : sh v1 = .inl 8) (hv2 : sh v2 = .inl 7) (hw : w_X9_ask o v1 v2 v3 v4 v5 v6 v7 M q) : CtV g l yX9_ask cX9_ask 8 none 1 0 [.ref (g.2.2.2 + o), .ref (g.2.2.2 + v1), .ref (g.2.2.2 + v2), .int v3, .int v4, .int v5, .int v6, .int v7] M q := by
  refine n_introV (by decide +kernel) (Nat.le_of_ble_eq_true rfl) (fun c C r => ?_)
  have C : Cx c cX9_ask 8 RX9 g l (Rm 1 0) := C
  refine x_sub [0, 1, 2, 3, 4, 5, 6, 7] (lv' := [(0, .ref (g.2.2.2 + o)), (1, .ref (g.2.2.2 + v1)), (2, .ref (g.2.2.2 + v2)), (3, .int v3), (4, .int v4), (5, .int v5), (6, .int v6), (7, .int v7)]) rfl ?_
  unfold w_X9_ask at hw
  refine x_aload_n C dX9_ask_0 rfl rfl ?_
  refine x_aload_n C dX9_ask_1 rfl rfl ?_
  obtain ⟨M1, eM1⟩ : ∃ z : Mem, z = uR M o 2 (some v1) := ⟨_, rfl⟩
  replace hw := hw M1 eM1
  refine m_putR C fp_X9_15 ho (fun _ _ => rfl) rfl (fun _ => rfl) (fun _ => rfl) eM1 dX9_ask_2 ?_
  refine x_aload_n C dX9_ask_5 rfl rfl ?_
  refine x_aload_n C dX9_ask_6 rfl rfl ?_
  obtain ⟨M2, eM2⟩ : ∃ z : Mem, z = uR M1 o 3 (some v2) := ⟨_, rfl⟩
  replace hw := hw M2 eM2
  refine m_putR C fp_X9_19 ho (fun _ _ => rfl) rfl (fun _ => rfl) (fun _ => rfl) eM2 dX9_ask_7 ?_
  refine x_aload_n C dX9_ask_10 rfl rfl ?_
  refine x_iload_n C dX9_ask_11 rfl rfl ?_
  obtain ⟨M3, eM3⟩ : ∃ z : Mem, z = uI M2 o 4 v3 := ⟨_, rfl⟩
  replace hw := hw M3 eM3
  refine m_putI C fp_X9_23 ho (fun _ _ => rfl) rfl rfl eM3 dX9_ask_12 ?_
  refine x_aload_n C dX9_ask_15 rfl rfl ?_
  refine x_iload C dX9_ask_16 rfl ?_
  obtain ⟨M4, eM4⟩ : ∃ z : Mem, z = uI M3 o 5 v5 := ⟨_, rfl⟩
  replace hw := hw M4 eM4
  refine m_putI C fp_X9_27 ho (fun _ _ => rfl) rfl rfl eM4 dX9_ask_18 ?_
  refine x_aload_n C dX9_ask_21 rfl rfl ?_
  refine x_iload C dX9_ask_22 rfl ?_
  obtain ⟨M5, eM5⟩ : ∃ z : Mem, z = uI M4 o 6 v6 := ⟨_, rfl⟩
  replace hw := hw M5 eM5
  refine m_putI C fp_X9_30 ho (fun _ _ => rfl) rfl rfl eM5 dX9_ask_24 ?_
  refine x_aload_n C dX9_ask_27 rfl rfl ?_
  refine x_iload C dX9_ask_28 rfl ?_
  obtain ⟨M6, eM6⟩ : ∃ z : Mem, z = uI M5 o 7 v7 := ⟨_, rfl⟩
  replace hw := hw M6 eM6
  refine m_putI C fp_X9_33 ho (fun _ _ => rfl) rfl rfl eM6 dX9_ask_30 ?_
  refine x_aload_n C dX9_ask_33 rfl rfl ?_
  refine x_aload_n C dX9_ask_34 rfl rfl ?_
  refine n_getS (dd := 1) C fl_X9_36 hv1 (fun _ _ => rfl) rfl dX9_ask_35 ?_
  refine n_getS (dd := 7) C fl_X9_42 (ss_8_0 hv1) (fun _ _ => rfl) rfl dX9_ask_38 ?_
  refine x_iload_n C dX9_ask_41 rfl rfl ?_
  obtain ⟨h7, hw⟩ := hw
  refine a_iald C (ss_6_9 (ss_8_0 hv1)) (sl_6_9 (ss_8_0 hv1)) h7 dX9_ask_42 ?_
  refine x_aload_n C dX9_ask_43 rfl rfl ?_
  refine n_getS (dd := 1) C fl_X9_36 hv1 (fun _ _ => rfl) rfl dX9_ask_44 ?_
  refine n_getS (dd := 7) C fl_X9_42 (ss_8_0 hv1) (fun _ _ => rfl) rfl dX9_ask_47 ?_
  refine x_iload C dX9_ask_50 rfl ?_
  obtain ⟨h8, hw⟩ := hw
  refine a_iald C (ss_6_9 (ss_8_0 hv1)) (sl_6_9 (ss_8_0 hv1)) h8 dX9_ask_52 ?_
  refine x_iconst (v := (-1 : Int32)) C dX9_ask_53 (by decide) ?_
  refine x_ixor C dX9_ask_54 ?_
  refine x_iand C dX9_ask_55 ?_
  obtain ⟨M9, eM9⟩ : ∃ z : Mem, z = uI M6 o 8 ((M6.1 ((v1 + 1) + 7) (v3).toNatClampNeg) &&& ((M6.1 ((v1 + 1) + 7) (v4).toNatClampNeg) ^^^ (-1 : Int32))) := ⟨_, rfl⟩
  replace hw := hw M9 eM9
  refine m_putI C fp_X9_47 ho (fun _ _ => rfl) rfl rfl eM9 dX9_ask_56 ?_
  exact n_vreturn C r dX9_ask_59 hw

def w_X9_holdsFound_l2F (o : Nat) (v1 : Int32) (q : Int32 → Mem → Prop) (P2 : Int32 × Mem → Prop) (s : Int32 × Mem) : Prop := match s with
  | (v2, M) => (((M.1 o 0) ≤ v2 → q (0 : Int32) M) ∧ (¬ (M.1 o 0) ≤ v2 → vp_in v2 252 ∧ ((¬ ((M.1 (o + 1) (v2).toNatClampNeg) &&& (v1 ^^^ (-1 : Int32))) = 0 → ∀ x4 : Int32, x4 = v2 + (1 : Int32) → P2 (x4, M)) ∧ (((M.1 (o + 1) (v2).toNatClampNeg) &&& (v1 ^^^ (-1 : Int32))) = 0 → q (1 : Int32) M))))
def w_X9_holdsFound_l2 (o : Nat) (v1 : Int32) (q : Int32 → Mem → Prop) (s : Int32 × Mem) : Prop := lfp (w_X9_holdsFound_l2F o v1 q ) s
set_option maxRecDepth 100000 in
set_option maxHeartbeats 4000000 in
theorem ok_X9_holdsFound_l2 {c : CtxT} {g : Gl} {l : Launch} {o : Nat} {v1 : Int32} {q : Int32 → Mem → Prop} {s : Int32 × Mem} (C : Cx c cX9_holdsFound 3 RX9 g l (Rm 1 0)) (r : Rt c (some .boolean) (pI q) 0 0) (ho : sh o = .inl 9) (hw : w_X9_holdsFound_l2 o v1 q s) : X c S0 2 [(0, .ref (g.2.2.2 + o)), (1, .int v1), (2, .int s.1)] [] (stat s.2) := hw (fun s => X c S0 2 [(0, .ref (g.2.2.2 + o)), (1, .int v1), (2, .int s.1)] [] (stat s.2)) (fun s hw => by
    obtain ⟨v2, M⟩ := s
    try dsimp only [w_X9_holdsFound_l2F] at hw
    try dsimp only
    refine x_iload_n C dX9_holdsFound_2 rfl rfl ?_
    refine x_aload_n C dX9_holdsFound_3 rfl rfl ?_
    refine n_getI C fl_X9_50 ho (fun _ _ => rfl) dX9_holdsFound_4 ?_
    refine x_icmp_ge (tgt := 31) C dX9_holdsFound_7 (by decide) (fun h1 => ?_) (fun h1 => ?_)
    · replace hw := hw.1 h1
      refine x_iconst (v := (0 : Int32)) C dX9_holdsFound_31 (by decide) ?_
      exact n_zreturn C r dX9_holdsFound_32 (Or.inl rfl) hw
    · replace hw := hw.2 h1
      refine x_aload_n C dX9_holdsFound_10 rfl rfl ?_
      refine n_getS (dd := 1) C fl_X9_11 ho (fun _ _ => rfl) rfl dX9_holdsFound_11 ?_
      refine x_iload_n C dX9_holdsFound_14 rfl rfl ?_
      obtain ⟨h2, hw⟩ := hw
      refine a_iald C (ss_9_1 ho) (sl_9_1 ho) h2 dX9_holdsFound_15 ?_
      refine x_iload_n C dX9_holdsFound_16 rfl rfl ?_
      refine x_iconst (v := (-1 : Int32)) C dX9_holdsFound_17 (by decide) ?_
      refine x_ixor C dX9_holdsFound_18 ?_
      refine x_iand C dX9_holdsFound_19 ?_
      refine x_if_ne (tgt := 25) C dX9_holdsFound_20 (by decide) (fun h3 => ?_) (fun h3 => ?_)
      · replace hw := hw.1 h3
        obtain ⟨x4, ex4⟩ : ∃ z : Int32, z = v2 + (1 : Int32) := ⟨_, rfl⟩
        replace hw := hw x4 ex4
        refine x_iinc (v := x4) C dX9_holdsFound_25 rfl ex4.symm (Nat.le_of_ble_eq_true rfl) ?_
        refine x_goto (tgt := 2) C dX9_holdsFound_28 (by decide) ?_
        exact x_sub [0, 1, 2] rfl hw
      · replace hw := hw.2 h3
        refine x_iconst (v := (1 : Int32)) C dX9_holdsFound_23 (by decide) ?_
        exact n_zreturn C r dX9_holdsFound_24 (Or.inr rfl) hw)
def w_X9_holdsFound (o : Nat) (v1 : Int32) (M : Mem) (q : Int32 → Mem → Prop) : Prop := w_X9_holdsFound_l2 o v1 q ((0 : Int32), M)
set_option maxRecDepth 100000 in
set_option maxHeartbeats 4000000 in
theorem ok_X9_holdsFound {g : Gl} {l : Launch} {o : Nat} {v1 : Int32} {M : Mem} {q : Int32 → Mem → Prop} (ho : sh o = .inl 9) (hw : w_X9_holdsFound o v1 M q) : CtI g l yX9_holdsFound cX9_holdsFound 3 (some .boolean) 1 0 [.ref (g.2.2.2 + o), .int v1] M q := by
  refine n_introI (by decide +kernel) (Nat.le_of_ble_eq_true rfl) (fun c C r => ?_)
  have C : Cx c cX9_holdsFound 3 RX9 g l (Rm 1 0) := C
  refine x_sub [0, 1] (lv' := [(0, .ref (g.2.2.2 + o)), (1, .int v1)]) rfl ?_
  unfold w_X9_holdsFound at hw
  refine x_iconst (v := (0 : Int32)) C dX9_holdsFound_0 (by decide) ?_
  refine x_istore_n C dX9_holdsFound_1 rfl (Nat.le_of_ble_eq_true rfl) ?_
  exact x_sub [0, 1, 2] rfl (ok_X9_holdsFound_l2 C r ho hw)

def w_X9_brings (o : Nat) (v1 : Int32) (M : Mem) (q : Int32 → Mem → Prop) : Prop := ∃ k1 : Nat, M.2.2 o 2 = some k1 ∧ sh k1 = .inl 8 ∧ ∃ k2 : Nat, M.2.2 o 3 = some k2 ∧ sh k2 = .inl 7 ∧ ∃ k3 : Nat, M.2.2 o 3 = some k3 ∧ sh k3 = .inl 7 ∧ ∃ k4 : Nat, M.2.2 o 2 = some k4 ∧ sh k4 = .inl 8 ∧ ∃ k5 : Nat, M.2.2 o 2 = some k5 ∧ sh k5 = .inl 8 ∧ vp_in (M.1 o 4) 24 ∧ w_X7_goPlainWith k3 k4 (M.1 o 4) ((M.1 ((k5 + 1) + 7) ((M.1 o 4)).toNatClampNeg) &&& (v1 ^^^ (-1 : Int32))) (M.1 o 5) (M.1 o 6) M (fun (M7 : Mem) => ∃ k9 : Nat, M7.2.2 o 3 = some k9 ∧ sh k9 = .inl 7 ∧ ((¬ (M7.1 k9 1) = 0 → q (0 : Int32) M7) ∧ ((M7.1 k9 1) = 0 → ∃ k11 : Nat, M7.2.2 o 3 = some k11 ∧ sh k11 = .inl 7 ∧ (((M7.1 o 7) < (M7.1 (k11 + 1) 5) → q (0 : Int32) M7) ∧ (¬ (M7.1 o 7) < (M7.1 (k11 + 1) 5) → q (1 : Int32) M7)))))
set_option maxRecDepth 100000 in
set_option maxHeartbeats 4000000 in
theorem ok_X9_brings {g : Gl} {l : Launch} {o : Nat} {v1 : Int32} {M : Mem} {q : Int32 → Mem → Prop} (ho : sh o = .inl 9) (hw : w_X9_brings o v1 M q) : CtI g l yX9_brings cX9_brings 2 (some .boolean) 6 121 [.ref (g.2.2.2 + o), .int v1] M q := by
  refine n_introI (by decide +kernel) (Nat.le_of_ble_eq_true rfl) (fun c C r => ?_)
  have C : Cx c cX9_brings 2 RX9 g l (Rm 6 121) := C
  refine x_sub [0, 1] (lv' := [(0, .ref (g.2.2.2 + o)), (1, .int v1)]) rfl ?_
  unfold w_X9_brings at hw
  refine x_aload_n C dX9_brings_0 rfl rfl ?_
  obtain ⟨k1, rk1, sk1, hw⟩ := hw
  refine n_getR C fl_X9_15 ho (fun _ _ => rfl) rfl rk1 dX9_brings_1 ?_
  refine x_ifnull C dX9_brings_4 ?_
  refine x_aload_n C dX9_brings_7 rfl rfl ?_
  obtain ⟨k2, rk2, sk2, hw⟩ := hw
  refine n_getR C fl_X9_19 ho (fun _ _ => rfl) rfl rk2 dX9_brings_8 ?_
  refine x_ifnonnull (tgt := 16) C dX9_brings_11 (by decide) ?_
  refine x_aload_n C dX9_brings_16 rfl rfl ?_
  obtain ⟨k3, rk3, sk3, hw⟩ := hw
  refine n_getR C fl_X9_19 ho (fun _ _ => rfl) rfl rk3 dX9_brings_17 ?_
  refine x_aload_n C dX9_brings_20 rfl rfl ?_
  obtain ⟨k4, rk4, sk4, hw⟩ := hw
  refine n_getR C fl_X9_15 ho (fun _ _ => rfl) rfl rk4 dX9_brings_21 ?_
  refine x_aload_n C dX9_brings_24 rfl rfl ?_
  refine n_getI C fl_X9_23 ho (fun _ _ => rfl) dX9_brings_25 ?_
  refine x_aload_n C dX9_brings_28 rfl rfl ?_
  obtain ⟨k5, rk5, sk5, hw⟩ := hw
  refine n_getR C fl_X9_15 ho (fun _ _ => rfl) rfl rk5 dX9_brings_29 ?_
  refine n_getS (dd := 1) C fl_X9_36 sk5 (fun _ _ => rfl) rfl dX9_brings_32 ?_
  refine n_getS (dd := 7) C fl_X9_42 (ss_8_0 sk5) (fun _ _ => rfl) rfl dX9_brings_35 ?_
  refine x_aload_n C dX9_brings_38 rfl rfl ?_
  refine n_getI C fl_X9_23 ho (fun _ _ => rfl) dX9_brings_39 ?_
  obtain ⟨h6, hw⟩ := hw
  refine a_iald C (ss_6_9 (ss_8_0 sk5)) (sl_6_9 (ss_8_0 sk5)) h6 dX9_brings_42 ?_
  refine x_iload_n C dX9_brings_43 rfl rfl ?_
  refine x_iconst (v := (-1 : Int32)) C dX9_brings_44 (by decide) ?_
  refine x_ixor C dX9_brings_45 ?_
  refine x_iand C dX9_brings_46 ?_
  refine x_aload_n C dX9_brings_47 rfl rfl ?_
  refine n_getI C fl_X9_27 ho (fun _ _ => rfl) dX9_brings_48 ?_
  refine x_aload_n C dX9_brings_51 rfl rfl ?_
  refine n_getI C fl_X9_30 ho (fun _ _ => rfl) dX9_brings_52 ?_
  refine n_callVV sk3 rfl C (ok_X7_goPlainWith sk3 sk4 hw) mv_X9_66 rfl rfl ⟨Nat.le_of_ble_eq_true rfl, Nat.le_of_ble_eq_true rfl⟩ (Nat.le_of_ble_eq_true rfl) dX9_brings_55 (fun M7 hw => ?_)
  refine x_aload_n C dX9_brings_58 rfl rfl ?_
  obtain ⟨k9, rk9, sk9, hw⟩ := hw
  refine n_getR C fl_X9_19 ho (fun _ _ => rfl) rfl rk9 dX9_brings_59 ?_
  refine n_getI C fl_X9_72 sk9 (fun _ _ => rfl) dX9_brings_62 ?_
  refine x_if_ne (tgt := 88) C dX9_brings_65 (by decide) (fun h10 => ?_) (fun h10 => ?_)
  · replace hw := hw.1 h10
    refine x_iconst (v := (0 : Int32)) C dX9_brings_88 (by decide) ?_
    exact n_zreturn C r dX9_brings_89 (Or.inl rfl) hw
  · replace hw := hw.2 h10
    refine x_aload_n C dX9_brings_68 rfl rfl ?_
    obtain ⟨k11, rk11, sk11, hw⟩ := hw
    refine n_getR C fl_X9_19 ho (fun _ _ => rfl) rfl rk11 dX9_brings_69 ?_
    refine n_getS (dd := 1) C fl_X9_76 sk11 (fun _ _ => rfl) rfl dX9_brings_72 ?_
    refine x_iconst (v := (5 : Int32)) C dX9_brings_75 (by decide) ?_
    refine a_ialdL (ni := 5) C (ss_7_0 sk11) (sl_7_0 sk11) (by decide) (vin _ _ (by decide +kernel)) dX9_brings_76 ?_
    refine x_aload_n C dX9_brings_77 rfl rfl ?_
    refine n_getI C fl_X9_33 ho (fun _ _ => rfl) dX9_brings_78 ?_
    refine x_icmp_gt (tgt := 88) C dX9_brings_81 (by decide) (fun h12 => ?_) (fun h12 => ?_)
    · replace hw := hw.1 h12
      refine x_iconst (v := (0 : Int32)) C dX9_brings_88 (by decide) ?_
      exact n_zreturn C r dX9_brings_89 (Or.inl rfl) hw
    · replace hw := hw.2 h12
      refine x_iconst (v := (1 : Int32)) C dX9_brings_84 (by decide) ?_
      refine x_goto (tgt := 89) C dX9_brings_85 (by decide) ?_
      exact n_zreturn C r dX9_brings_89 (Or.inr rfl) hw

def w_X9_findLeast_b70 (o : Nat) (v1 : Int32) (v2 : Int32) (v3 : Int32) (M : Mem) (q : Mem → Prop) (P19 : Int32 × Int32 × Mem → Prop) : Prop := ∀ x1 : Int32, x1 = ((v1 - (M.1 o 8)) &&& (M.1 o 8)) → ∀ x2 : Int32, x2 = v3 + (1 : Int32) → P19 (x1, x2, M)
set_option maxRecDepth 100000 in
set_option maxHeartbeats 4000000 in
theorem ok_X9_findLeast_b70 {c : CtxT} {g : Gl} {l : Launch} {o : Nat} {v1 : Int32} {v2 : Int32} {v3 : Int32} {q : Mem → Prop} {P19 : Int32 × Int32 × Mem → Prop} {M : Mem} (C : Cx c cX9_findLeast 4 RX9 g l (Rm 7 142)) (r : Rt c (none) (pV q) 0 0) (ho : sh o = .inl 9) (hP19 : ∀ (v1 : Int32) (v3 : Int32) (M : Mem), P19 (v1, v3, M) → X c S0 19 [(0, .ref (g.2.2.2 + o)), (1, .int v1), (2, .int v2), (3, .int v3)] [] (stat M)) (hw : w_X9_findLeast_b70 o v1 v2 v3 M q P19) : X c S0 70 [(0, .ref (g.2.2.2 + o)), (1, .int v1), (2, .int v2), (3, .int v3)] [] (stat M) := by
  unfold w_X9_findLeast_b70 at hw
  refine x_iload_n C dX9_findLeast_70 rfl rfl ?_
  refine x_aload_n C dX9_findLeast_71 rfl rfl ?_
  refine n_getI C fl_X9_47 ho (fun _ _ => rfl) dX9_findLeast_72 ?_
  refine x_isub C dX9_findLeast_75 ?_
  refine x_aload_n C dX9_findLeast_76 rfl rfl ?_
  refine n_getI C fl_X9_47 ho (fun _ _ => rfl) dX9_findLeast_77 ?_
  refine x_iand C dX9_findLeast_80 ?_
  obtain ⟨x1, ex1⟩ : ∃ z : Int32, z = ((v1 - (M.1 o 8)) &&& (M.1 o 8)) := ⟨_, rfl⟩
  replace hw := hw x1 ex1
  refine x_topi ex1 ?_
  refine x_istore_n C dX9_findLeast_81 rfl (Nat.le_of_ble_eq_true rfl) ?_
  obtain ⟨x2, ex2⟩ : ∃ z : Int32, z = v3 + (1 : Int32) := ⟨_, rfl⟩
  replace hw := hw x2 ex2
  refine x_iinc (v := x2) C dX9_findLeast_82 rfl ex2.symm (Nat.le_of_ble_eq_true rfl) ?_
  refine x_goto (tgt := 19) C dX9_findLeast_85 (by decide) ?_
  exact x_sub [0, 1, 2, 3] rfl (hP19 _ _ _ hw)
def w_X9_findLeast_l19F (o : Nat) (v2 : Int32) (q : Mem → Prop) (P19 : Int32 × Int32 × Mem → Prop) (s : Int32 × Int32 × Mem) : Prop := match s with
  | (v1, v3, M) => ((v2 ≤ v3 → q M) ∧ (¬ v2 ≤ v3 → (((252 : Int32) ≤ (M.1 o 0) → q M) ∧ (¬ (252 : Int32) ≤ (M.1 o 0) → w_X9_holdsFound o v1 M (fun (r6 : Int32) (M5 : Mem) => ((¬ r6 = 0 → w_X9_findLeast_b70 o v1 v2 v3 M5 q P19) ∧ (r6 = 0 → w_X9_brings o v1 M5 (fun (r9 : Int32) (M8 : Mem) => ((r9 = 0 → w_X9_findLeast_b70 o v1 v2 v3 M8 q P19) ∧ (¬ r9 = 0 → vp_in (M8.1 o 0) 252 ∧ ∀ M12 : Mem, M12 = uI M8 (o + 1) ((M8.1 o 0)).toNatClampNeg v1 → ∀ M13 : Mem, M13 = uI M12 o 0 ((M12.1 o 0) + (1 : Int32)) → w_X9_findLeast_b70 o v1 v2 v3 M13 q P19))))))))))
def w_X9_findLeast_l19 (o : Nat) (v2 : Int32) (q : Mem → Prop) (s : Int32 × Int32 × Mem) : Prop := lfp (w_X9_findLeast_l19F o v2 q ) s
set_option maxRecDepth 100000 in
set_option maxHeartbeats 4000000 in
theorem ok_X9_findLeast_l19 {c : CtxT} {g : Gl} {l : Launch} {o : Nat} {v2 : Int32} {q : Mem → Prop} {s : Int32 × Int32 × Mem} (C : Cx c cX9_findLeast 4 RX9 g l (Rm 7 142)) (r : Rt c (none) (pV q) 0 0) (ho : sh o = .inl 9) (hw : w_X9_findLeast_l19 o v2 q s) : X c S0 19 [(0, .ref (g.2.2.2 + o)), (1, .int s.1), (2, .int v2), (3, .int s.2.1)] [] (stat s.2.2) := hw (fun s => X c S0 19 [(0, .ref (g.2.2.2 + o)), (1, .int s.1), (2, .int v2), (3, .int s.2.1)] [] (stat s.2.2)) (fun s hw => by
    obtain ⟨v1, v3, M⟩ := s
    try dsimp only [w_X9_findLeast_l19F] at hw
    try dsimp only
    refine x_iload_n C dX9_findLeast_19 rfl rfl ?_
    refine x_iload_n C dX9_findLeast_20 rfl rfl ?_
    refine x_icmp_ge (tgt := 88) C dX9_findLeast_21 (by decide) (fun h3 => ?_) (fun h3 => ?_)
    · replace hw := hw.1 h3
      exact n_vreturn C r dX9_findLeast_88 hw
    · replace hw := hw.2 h3
      refine x_aload_n C dX9_findLeast_24 rfl rfl ?_
      refine n_getI C fl_X9_50 ho (fun _ _ => rfl) dX9_findLeast_25 ?_
      refine x_sipush (v := (252 : Int32)) C dX9_findLeast_28 (by decide) ?_
      refine x_icmp_ge (tgt := 88) C dX9_findLeast_31 (by decide) (fun h4 => ?_) (fun h4 => ?_)
      · replace hw := hw.1 h4
        exact n_vreturn C r dX9_findLeast_88 hw
      · replace hw := hw.2 h4
        refine x_aload_n C dX9_findLeast_34 rfl rfl ?_
        refine x_iload_n C dX9_findLeast_35 rfl rfl ?_
        refine n_callVI ho rfl C (ok_X9_holdsFound ho hw) mv_X9_59 rfl rfl ⟨Nat.le_of_ble_eq_true rfl, Nat.le_of_ble_eq_true rfl⟩ (Nat.le_of_ble_eq_true rfl) dX9_findLeast_36 (fun r6 M5 hw => ?_)
        refine x_if_ne (tgt := 70) C dX9_findLeast_39 (by decide) (fun h7 => ?_) (fun h7 => ?_)
        · replace hw := hw.1 h7
          exact x_sub [0, 1, 2, 3] rfl (ok_X9_findLeast_b70 C r ho (fun _ _ _ h => h) hw)
        · replace hw := hw.2 h7
          refine x_aload_n C dX9_findLeast_42 rfl rfl ?_
          refine x_iload_n C dX9_findLeast_43 rfl rfl ?_
          refine n_callVI ho rfl C (ok_X9_brings ho hw) mv_X9_63 rfl rfl ⟨Nat.le_of_ble_eq_true rfl, Nat.le_of_ble_eq_true rfl⟩ (Nat.le_of_ble_eq_true rfl) dX9_findLeast_44 (fun r9 M8 hw => ?_)
          refine x_if_eq (tgt := 70) C dX9_findLeast_47 (by decide) (fun h10 => ?_) (fun h10 => ?_)
          · replace hw := hw.1 h10
            exact x_sub [0, 1, 2, 3] rfl (ok_X9_findLeast_b70 C r ho (fun _ _ _ h => h) hw)
          · replace hw := hw.2 h10
            refine x_aload_n C dX9_findLeast_50 rfl rfl ?_
            refine n_getS (dd := 1) C fl_X9_11 ho (fun _ _ => rfl) rfl dX9_findLeast_51 ?_
            refine x_aload_n C dX9_findLeast_54 rfl rfl ?_
            refine n_getI C fl_X9_50 ho (fun _ _ => rfl) dX9_findLeast_55 ?_
            refine x_iload_n C dX9_findLeast_58 rfl rfl ?_
            obtain ⟨h11, hw⟩ := hw
            obtain ⟨M12, eM12⟩ : ∃ z : Mem, z = uI M8 (o + 1) ((M8.1 o 0)).toNatClampNeg v1 := ⟨_, rfl⟩
            replace hw := hw M12 eM12
            refine a_iast C (ss_9_1 ho) (sl_9_1 ho) rfl h11 eM12 dX9_findLeast_59 ?_
            refine x_aload_n C dX9_findLeast_60 rfl rfl ?_
            refine x_dup C dX9_findLeast_61 rfl ?_
            refine n_getI C fl_X9_50 ho (fun _ _ => rfl) dX9_findLeast_62 ?_
            refine x_iconst (v := (1 : Int32)) C dX9_findLeast_65 (by decide) ?_
            refine x_iadd C dX9_findLeast_66 ?_
            obtain ⟨M13, eM13⟩ : ∃ z : Mem, z = uI M12 o 0 ((M12.1 o 0) + (1 : Int32)) := ⟨_, rfl⟩
            replace hw := hw M13 eM13
            refine m_putI C fp_X9_50 ho (fun _ _ => rfl) rfl rfl eM13 dX9_findLeast_67 ?_
            exact x_sub [0, 1, 2, 3] rfl (ok_X9_findLeast_b70 C r ho (fun _ _ _ h => h) hw))
def w_X9_findLeast (o : Nat) (M : Mem) (q : Mem → Prop) : Prop := ∀ M14 : Mem, M14 = uI M o 0 (0 : Int32) → w_J6_bitCount_0f7a4 (M14.1 o 8) M14 (fun (r16 : Int32) (M15 : Mem) => ∀ x17 : Int32, x17 = ((1 : Int32) <<< (r16 &&& 31)) → w_X9_findLeast_l19 o x17 q ((0 : Int32), (0 : Int32), M15))
set_option maxRecDepth 100000 in
set_option maxHeartbeats 4000000 in
theorem ok_X9_findLeast {g : Gl} {l : Launch} {o : Nat} {M : Mem} {q : Mem → Prop} (ho : sh o = .inl 9) (hw : w_X9_findLeast o M q) : CtV g l yX9_findLeast cX9_findLeast 4 none 7 142 [.ref (g.2.2.2 + o)] M q := by
  refine n_introV (by decide +kernel) (Nat.le_of_ble_eq_true rfl) (fun c C r => ?_)
  have C : Cx c cX9_findLeast 4 RX9 g l (Rm 7 142) := C
  refine x_sub [0] (lv' := [(0, .ref (g.2.2.2 + o))]) rfl ?_
  unfold w_X9_findLeast at hw
  refine x_aload_n C dX9_findLeast_0 rfl rfl ?_
  refine x_iconst (v := (0 : Int32)) C dX9_findLeast_1 (by decide) ?_
  obtain ⟨M14, eM14⟩ : ∃ z : Mem, z = uI M o 0 (0 : Int32) := ⟨_, rfl⟩
  replace hw := hw M14 eM14
  refine m_putI C fp_X9_50 ho (fun _ _ => rfl) rfl rfl eM14 dX9_findLeast_2 ?_
  refine x_iconst (v := (0 : Int32)) C dX9_findLeast_5 (by decide) ?_
  refine x_istore_n C dX9_findLeast_6 rfl (Nat.le_of_ble_eq_true rfl) ?_
  refine x_iconst (v := (1 : Int32)) C dX9_findLeast_7 (by decide) ?_
  refine x_aload_n C dX9_findLeast_8 rfl rfl ?_
  refine n_getI C fl_X9_47 ho (fun _ _ => rfl) dX9_findLeast_9 ?_
  refine n_callSI C (ok_J6_bitCount_0f7a4  hw) ms_X9_53 rfl rfl ⟨Nat.le_of_ble_eq_true rfl, Nat.le_of_ble_eq_true rfl⟩ (Nat.le_of_ble_eq_true rfl) dX9_findLeast_12 (fun r16 M15 hw => ?_)
  refine x_ishl C dX9_findLeast_15 ?_
  obtain ⟨x17, ex17⟩ : ∃ z : Int32, z = ((1 : Int32) <<< (r16 &&& 31)) := ⟨_, rfl⟩
  replace hw := hw x17 ex17
  refine x_topi ex17 ?_
  refine x_istore_n C dX9_findLeast_16 rfl (Nat.le_of_ble_eq_true rfl) ?_
  refine x_iconst (v := (0 : Int32)) C dX9_findLeast_17 (by decide) ?_
  refine x_istore_n C dX9_findLeast_18 rfl (Nat.le_of_ble_eq_true rfl) ?_
  exact x_sub [0, 1, 2, 3] rfl (ok_X9_findLeast_l19 C r ho hw)

def w_X9_fewest_b40 (o : Nat) (v1 : Int32) (v2 : Int32) (M : Mem) (q : Int32 → Mem → Prop) (P4 : Int32 × Int32 × Mem → Prop) : Prop := ∀ x1 : Int32, x1 = v2 + (1 : Int32) → P4 (v1, x1, M)
set_option maxRecDepth 100000 in
set_option maxHeartbeats 4000000 in
theorem ok_X9_fewest_b40 {c : CtxT} {g : Gl} {l : Launch} {o : Nat} {v1 : Int32} {v2 : Int32} {q : Int32 → Mem → Prop} {P4 : Int32 × Int32 × Mem → Prop} {M : Mem} (C : Cx c cX9_fewest 3 RX9 g l (Rm 2 20)) (r : Rt c (some .int) (pI q) 0 0) (ho : sh o = .inl 9) (hP4 : ∀ (v1 : Int32) (v2 : Int32) (M : Mem), P4 (v1, v2, M) → X c S0 4 [(0, .ref (g.2.2.2 + o)), (1, .int v1), (2, .int v2)] [] (stat M)) (hw : w_X9_fewest_b40 o v1 v2 M q P4) : X c S0 40 [(0, .ref (g.2.2.2 + o)), (1, .int v1), (2, .int v2)] [] (stat M) := by
  unfold w_X9_fewest_b40 at hw
  obtain ⟨x1, ex1⟩ : ∃ z : Int32, z = v2 + (1 : Int32) := ⟨_, rfl⟩
  replace hw := hw x1 ex1
  refine x_iinc (v := x1) C dX9_fewest_40 rfl ex1.symm (Nat.le_of_ble_eq_true rfl) ?_
  refine x_goto (tgt := 4) C dX9_fewest_43 (by decide) ?_
  exact x_sub [0, 1, 2] rfl (hP4 _ _ _ hw)
def w_X9_fewest_b33 (o : Nat) (v2 : Int32) (M : Mem) (q : Int32 → Mem → Prop) (P4 : Int32 × Int32 × Mem → Prop) : Prop := vp_in v2 252 ∧ ∀ x3 : Int32, x3 = (M.1 (o + 1) (v2).toNatClampNeg) → w_X9_fewest_b40 o x3 v2 M q P4
set_option maxRecDepth 100000 in
set_option maxHeartbeats 4000000 in
theorem ok_X9_fewest_b33 {c : CtxT} {g : Gl} {l : Launch} {o : Nat} {v2 : Int32} {q : Int32 → Mem → Prop} {P4 : Int32 × Int32 × Mem → Prop} {M : Mem} (C : Cx c cX9_fewest 3 RX9 g l (Rm 2 20)) (r : Rt c (some .int) (pI q) 0 0) (ho : sh o = .inl 9) (hP4 : ∀ (v1 : Int32) (v2 : Int32) (M : Mem), P4 (v1, v2, M) → X c S0 4 [(0, .ref (g.2.2.2 + o)), (1, .int v1), (2, .int v2)] [] (stat M)) (hw : w_X9_fewest_b33 o v2 M q P4) : X c S0 33 [(0, .ref (g.2.2.2 + o)), (2, .int v2)] [] (stat M) := by
  unfold w_X9_fewest_b33 at hw
  refine x_aload_n C dX9_fewest_33 rfl rfl ?_
  refine n_getS (dd := 1) C fl_X9_11 ho (fun _ _ => rfl) rfl dX9_fewest_34 ?_
  refine x_iload_n C dX9_fewest_37 rfl rfl ?_
  obtain ⟨h2, hw⟩ := hw
  refine a_iald C (ss_9_1 ho) (sl_9_1 ho) h2 dX9_fewest_38 ?_
  obtain ⟨x3, ex3⟩ : ∃ z : Int32, z = (M.1 (o + 1) (v2).toNatClampNeg) := ⟨_, rfl⟩
  replace hw := hw x3 ex3
  refine x_topi ex3 ?_
  refine x_istore_n C dX9_fewest_39 rfl (Nat.le_of_ble_eq_true rfl) ?_
  exact x_sub [0, 1, 2] rfl (ok_X9_fewest_b40 C r ho hP4 hw)
def w_X9_fewest_l4F (o : Nat) (q : Int32 → Mem → Prop) (P4 : Int32 × Int32 × Mem → Prop) (s : Int32 × Int32 × Mem) : Prop := match s with
  | (v1, v2, M) => (((M.1 o 0) ≤ v2 → q v1 M) ∧ (¬ (M.1 o 0) ≤ v2 → ((v1 = (-1 : Int32) → w_X9_fewest_b33 o v2 M q P4) ∧ (¬ v1 = (-1 : Int32) → vp_in v2 252 ∧ w_J6_bitCount_0f7a4 (M.1 (o + 1) (v2).toNatClampNeg) M (fun (r8 : Int32) (M7 : Mem) => w_J6_bitCount_0f7a4 v1 M7 (fun (r10 : Int32) (M9 : Mem) => ((r10 ≤ r8 → w_X9_fewest_b40 o v1 v2 M9 q P4) ∧ (¬ r10 ≤ r8 → w_X9_fewest_b33 o v2 M9 q P4))))))))
def w_X9_fewest_l4 (o : Nat) (q : Int32 → Mem → Prop) (s : Int32 × Int32 × Mem) : Prop := lfp (w_X9_fewest_l4F o q ) s
set_option maxRecDepth 100000 in
set_option maxHeartbeats 4000000 in
theorem ok_X9_fewest_l4 {c : CtxT} {g : Gl} {l : Launch} {o : Nat} {q : Int32 → Mem → Prop} {s : Int32 × Int32 × Mem} (C : Cx c cX9_fewest 3 RX9 g l (Rm 2 20)) (r : Rt c (some .int) (pI q) 0 0) (ho : sh o = .inl 9) (hw : w_X9_fewest_l4 o q s) : X c S0 4 [(0, .ref (g.2.2.2 + o)), (1, .int s.1), (2, .int s.2.1)] [] (stat s.2.2) := hw (fun s => X c S0 4 [(0, .ref (g.2.2.2 + o)), (1, .int s.1), (2, .int s.2.1)] [] (stat s.2.2)) (fun s hw => by
    obtain ⟨v1, v2, M⟩ := s
    try dsimp only [w_X9_fewest_l4F] at hw
    try dsimp only
    refine x_iload_n C dX9_fewest_4 rfl rfl ?_
    refine x_aload_n C dX9_fewest_5 rfl rfl ?_
    refine n_getI C fl_X9_50 ho (fun _ _ => rfl) dX9_fewest_6 ?_
    refine x_icmp_ge (tgt := 46) C dX9_fewest_9 (by decide) (fun h4 => ?_) (fun h4 => ?_)
    · replace hw := hw.1 h4
      refine x_iload_n C dX9_fewest_46 rfl rfl ?_
      exact n_ireturn C r dX9_fewest_47 hw
    · replace hw := hw.2 h4
      refine x_iload_n C dX9_fewest_12 rfl rfl ?_
      refine x_iconst (v := (-1 : Int32)) C dX9_fewest_13 (by decide) ?_
      refine x_icmp_eq (tgt := 33) C dX9_fewest_14 (by decide) (fun h5 => ?_) (fun h5 => ?_)
      · replace hw := hw.1 h5
        exact x_sub [0, 2] rfl (ok_X9_fewest_b33 C r ho (fun _ _ _ h => h) hw)
      · replace hw := hw.2 h5
        refine x_aload_n C dX9_fewest_17 rfl rfl ?_
        refine n_getS (dd := 1) C fl_X9_11 ho (fun _ _ => rfl) rfl dX9_fewest_18 ?_
        refine x_iload_n C dX9_fewest_21 rfl rfl ?_
        obtain ⟨h6, hw⟩ := hw
        refine a_iald C (ss_9_1 ho) (sl_9_1 ho) h6 dX9_fewest_22 ?_
        refine n_callSI C (ok_J6_bitCount_0f7a4  hw) ms_X9_53 rfl rfl ⟨Nat.le_of_ble_eq_true rfl, Nat.le_of_ble_eq_true rfl⟩ (Nat.le_of_ble_eq_true rfl) dX9_fewest_23 (fun r8 M7 hw => ?_)
        refine x_iload_n C dX9_fewest_26 rfl rfl ?_
        refine n_callSI C (ok_J6_bitCount_0f7a4  hw) ms_X9_53 rfl rfl ⟨Nat.le_of_ble_eq_true rfl, Nat.le_of_ble_eq_true rfl⟩ (Nat.le_of_ble_eq_true rfl) dX9_fewest_27 (fun r10 M9 hw => ?_)
        refine x_icmp_ge (tgt := 40) C dX9_fewest_30 (by decide) (fun h11 => ?_) (fun h11 => ?_)
        · replace hw := hw.1 h11
          exact x_sub [0, 1, 2] rfl (ok_X9_fewest_b40 C r ho (fun _ _ _ h => h) hw)
        · replace hw := hw.2 h11
          exact x_sub [0, 2] rfl (ok_X9_fewest_b33 C r ho (fun _ _ _ h => h) hw))
def w_X9_fewest (o : Nat) (M : Mem) (q : Int32 → Mem → Prop) : Prop := w_X9_fewest_l4 o q ((-1 : Int32), (0 : Int32), M)
set_option maxRecDepth 100000 in
set_option maxHeartbeats 4000000 in
theorem ok_X9_fewest {g : Gl} {l : Launch} {o : Nat} {M : Mem} {q : Int32 → Mem → Prop} (ho : sh o = .inl 9) (hw : w_X9_fewest o M q) : CtI g l yX9_fewest cX9_fewest 3 (some .int) 2 20 [.ref (g.2.2.2 + o)] M q := by
  refine n_introI (by decide +kernel) (Nat.le_of_ble_eq_true rfl) (fun c C r => ?_)
  have C : Cx c cX9_fewest 3 RX9 g l (Rm 2 20) := C
  refine x_sub [0] (lv' := [(0, .ref (g.2.2.2 + o))]) rfl ?_
  unfold w_X9_fewest at hw
  refine x_iconst (v := (-1 : Int32)) C dX9_fewest_0 (by decide) ?_
  refine x_istore_n C dX9_fewest_1 rfl (Nat.le_of_ble_eq_true rfl) ?_
  refine x_iconst (v := (0 : Int32)) C dX9_fewest_2 (by decide) ?_
  refine x_istore_n C dX9_fewest_3 rfl (Nat.le_of_ble_eq_true rfl) ?_
  exact x_sub [0, 1, 2] rfl (ok_X9_fewest_l4 C r ho hw)

def w_X9_alone_b38 (o : Nat) (v1 : Int32) (v2 : Int32) (M : Mem) (q : Int32 → Mem → Prop) (P4 : Int32 × Int32 × Mem → Prop) : Prop := ∀ x1 : Int32, x1 = v2 + (1 : Int32) → P4 (v1, x1, M)
set_option maxRecDepth 100000 in
set_option maxHeartbeats 4000000 in
theorem ok_X9_alone_b38 {c : CtxT} {g : Gl} {l : Launch} {o : Nat} {v1 : Int32} {v2 : Int32} {q : Int32 → Mem → Prop} {P4 : Int32 × Int32 × Mem → Prop} {M : Mem} (C : Cx c cX9_alone 3 RX9 g l (Rm 7 142)) (r : Rt c (some .int) (pI q) 0 0) (ho : sh o = .inl 9) (hP4 : ∀ (v1 : Int32) (v2 : Int32) (M : Mem), P4 (v1, v2, M) → X c S0 4 [(0, .ref (g.2.2.2 + o)), (1, .int v1), (2, .int v2)] [] (stat M)) (hw : w_X9_alone_b38 o v1 v2 M q P4) : X c S0 38 [(0, .ref (g.2.2.2 + o)), (1, .int v1), (2, .int v2)] [] (stat M) := by
  unfold w_X9_alone_b38 at hw
  obtain ⟨x1, ex1⟩ : ∃ z : Int32, z = v2 + (1 : Int32) := ⟨_, rfl⟩
  replace hw := hw x1 ex1
  refine x_iinc (v := x1) C dX9_alone_38 rfl ex1.symm (Nat.le_of_ble_eq_true rfl) ?_
  refine x_goto (tgt := 4) C dX9_alone_41 (by decide) ?_
  exact x_sub [0, 1, 2] rfl (hP4 _ _ _ hw)
def w_X9_alone_l4F (o : Nat) (q : Int32 → Mem → Prop) (P4 : Int32 × Int32 × Mem → Prop) (s : Int32 × Int32 × Mem) : Prop := match s with
  | (v1, v2, M) => (((10 : Int32) ≤ v2 → q v1 M) ∧ (¬ (10 : Int32) ≤ v2 → ((¬ (((M.1 o 8) >>> (v2 &&& 31)) &&& (1 : Int32)) = (1 : Int32) → w_X9_alone_b38 o v1 v2 M q P4) ∧ ((((M.1 o 8) >>> (v2 &&& 31)) &&& (1 : Int32)) = (1 : Int32) → w_X9_brings o ((1 : Int32) <<< (v2 &&& 31)) M (fun (r5 : Int32) (M4 : Mem) => ((r5 = 0 → w_X9_alone_b38 o v1 v2 M4 q P4) ∧ (¬ r5 = 0 → ∀ x7 : Int32, x7 = (v1 ||| ((1 : Int32) <<< (v2 &&& 31))) → w_X9_alone_b38 o x7 v2 M4 q P4)))))))
def w_X9_alone_l4 (o : Nat) (q : Int32 → Mem → Prop) (s : Int32 × Int32 × Mem) : Prop := lfp (w_X9_alone_l4F o q ) s
set_option maxRecDepth 100000 in
set_option maxHeartbeats 4000000 in
theorem ok_X9_alone_l4 {c : CtxT} {g : Gl} {l : Launch} {o : Nat} {q : Int32 → Mem → Prop} {s : Int32 × Int32 × Mem} (C : Cx c cX9_alone 3 RX9 g l (Rm 7 142)) (r : Rt c (some .int) (pI q) 0 0) (ho : sh o = .inl 9) (hw : w_X9_alone_l4 o q s) : X c S0 4 [(0, .ref (g.2.2.2 + o)), (1, .int s.1), (2, .int s.2.1)] [] (stat s.2.2) := hw (fun s => X c S0 4 [(0, .ref (g.2.2.2 + o)), (1, .int s.1), (2, .int s.2.1)] [] (stat s.2.2)) (fun s hw => by
    obtain ⟨v1, v2, M⟩ := s
    try dsimp only [w_X9_alone_l4F] at hw
    try dsimp only
    refine x_iload_n C dX9_alone_4 rfl rfl ?_
    refine x_bipush (v := (10 : Int32)) C dX9_alone_5 (by decide) ?_
    refine x_icmp_ge (tgt := 44) C dX9_alone_7 (by decide) (fun h2 => ?_) (fun h2 => ?_)
    · replace hw := hw.1 h2
      refine x_iload_n C dX9_alone_44 rfl rfl ?_
      exact n_ireturn C r dX9_alone_45 hw
    · replace hw := hw.2 h2
      refine x_aload_n C dX9_alone_10 rfl rfl ?_
      refine n_getI C fl_X9_47 ho (fun _ _ => rfl) dX9_alone_11 ?_
      refine x_iload_n C dX9_alone_14 rfl rfl ?_
      refine x_ishr C dX9_alone_15 ?_
      refine x_iconst (v := (1 : Int32)) C dX9_alone_16 (by decide) ?_
      refine x_iand C dX9_alone_17 ?_
      refine x_iconst (v := (1 : Int32)) C dX9_alone_18 (by decide) ?_
      refine x_icmp_ne (tgt := 38) C dX9_alone_19 (by decide) (fun h3 => ?_) (fun h3 => ?_)
      · replace hw := hw.1 h3
        exact x_sub [0, 1, 2] rfl (ok_X9_alone_b38 C r ho (fun _ _ _ h => h) hw)
      · replace hw := hw.2 h3
        refine x_aload_n C dX9_alone_22 rfl rfl ?_
        refine x_iconst (v := (1 : Int32)) C dX9_alone_23 (by decide) ?_
        refine x_iload_n C dX9_alone_24 rfl rfl ?_
        refine x_ishl C dX9_alone_25 ?_
        refine n_callVI ho rfl C (ok_X9_brings ho hw) mv_X9_63 rfl rfl ⟨Nat.le_of_ble_eq_true rfl, Nat.le_of_ble_eq_true rfl⟩ (Nat.le_of_ble_eq_true rfl) dX9_alone_26 (fun r5 M4 hw => ?_)
        refine x_if_eq (tgt := 38) C dX9_alone_29 (by decide) (fun h6 => ?_) (fun h6 => ?_)
        · replace hw := hw.1 h6
          exact x_sub [0, 1, 2] rfl (ok_X9_alone_b38 C r ho (fun _ _ _ h => h) hw)
        · replace hw := hw.2 h6
          refine x_iload_n C dX9_alone_32 rfl rfl ?_
          refine x_iconst (v := (1 : Int32)) C dX9_alone_33 (by decide) ?_
          refine x_iload_n C dX9_alone_34 rfl rfl ?_
          refine x_ishl C dX9_alone_35 ?_
          refine x_ior C dX9_alone_36 ?_
          obtain ⟨x7, ex7⟩ : ∃ z : Int32, z = (v1 ||| ((1 : Int32) <<< (v2 &&& 31))) := ⟨_, rfl⟩
          replace hw := hw x7 ex7
          refine x_topi ex7 ?_
          refine x_istore_n C dX9_alone_37 rfl (Nat.le_of_ble_eq_true rfl) ?_
          exact x_sub [0, 1, 2] rfl (ok_X9_alone_b38 C r ho (fun _ _ _ h => h) hw))
def w_X9_alone (o : Nat) (M : Mem) (q : Int32 → Mem → Prop) : Prop := w_X9_alone_l4 o q ((0 : Int32), (0 : Int32), M)
set_option maxRecDepth 100000 in
set_option maxHeartbeats 4000000 in
theorem ok_X9_alone {g : Gl} {l : Launch} {o : Nat} {M : Mem} {q : Int32 → Mem → Prop} (ho : sh o = .inl 9) (hw : w_X9_alone o M q) : CtI g l yX9_alone cX9_alone 3 (some .int) 7 142 [.ref (g.2.2.2 + o)] M q := by
  refine n_introI (by decide +kernel) (Nat.le_of_ble_eq_true rfl) (fun c C r => ?_)
  have C : Cx c cX9_alone 3 RX9 g l (Rm 7 142) := C
  refine x_sub [0] (lv' := [(0, .ref (g.2.2.2 + o))]) rfl ?_
  unfold w_X9_alone at hw
  refine x_iconst (v := (0 : Int32)) C dX9_alone_0 (by decide) ?_
  refine x_istore_n C dX9_alone_1 rfl (Nat.le_of_ble_eq_true rfl) ?_
  refine x_iconst (v := (0 : Int32)) C dX9_alone_2 (by decide) ?_
  refine x_istore_n C dX9_alone_3 rfl (Nat.le_of_ble_eq_true rfl) ?_
  exact x_sub [0, 1, 2] rfl (ok_X9_alone_l4 C r ho hw)


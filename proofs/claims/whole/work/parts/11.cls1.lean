def w_X11_writeLine_b69 (v5 : Int32) (t0 : Nat) (t1 : Int32) (M : Mem) (q : Mem → Prop) : Prop := vp_in t1 (len t0) ∧ ∀ M2 : Mem, M2 = uI M t0 (t1).toNatClampNeg v5 → q M2
set_option maxRecDepth 100000 in
set_option maxHeartbeats 4000000 in
theorem ok_X11_writeLine_b69 {c : CtxT} {g : Gl} {l : Launch} {v5 : Int32} {t0 : Nat} {t1 : Int32} {q : Mem → Prop} {M : Mem} (C : Cx c cX11_writeLine 6 RX11 g l (Rm 1 0)) (r : Rt c (none) (pV q) 0 0) (ht0 : isA 0 t0) (hw : w_X11_writeLine_b69 v5 t0 t1 M q ) : X c S0 69 [(5, .int v5)] [.int t1, .ref (g.2.2.2 + t0)] (stat M) := by
  unfold w_X11_writeLine_b69 at hw
  refine x_iload C dX11_writeLine_69 rfl ?_
  refine x_goto (tgt := 75) C dX11_writeLine_71 (by decide) ?_
  obtain ⟨h1, hw⟩ := hw
  obtain ⟨M2, eM2⟩ : ∃ z : Mem, z = uI M t0 (t1).toNatClampNeg v5 := ⟨_, rfl⟩
  replace hw := hw M2 eM2
  refine a_iast C ht0 rfl rfl h1 eM2 dX11_writeLine_75 ?_
  exact n_vreturn C r dX11_writeLine_76 hw
def w_X11_writeLine_b49 (v0 : Nat) (v1 : Int32) (v2 : Int32) (v5 : Int32) (t0 : Nat) (t1 : Int32) (t2 : Int32) (M : Mem) (q : Mem → Prop) : Prop := vp_in t1 (len t0) ∧ ∀ M4 : Mem, M4 = uI M t0 (t1).toNatClampNeg t2 → ((v2 = (1 : Int32) → w_X11_writeLine_b69 v5 v0 (v1 + (3 : Int32)) M4 q) ∧ (¬ v2 = (1 : Int32) → ((v2 = (2 : Int32) → w_X11_writeLine_b69 v5 v0 (v1 + (3 : Int32)) M4 q) ∧ (¬ v2 = (2 : Int32) → ((¬ v2 = (3 : Int32) → vp_in (v1 + (3 : Int32)) (len v0) ∧ ∀ M9 : Mem, M9 = uI M4 v0 ((v1 + (3 : Int32))).toNatClampNeg (0 : Int32) → q M9) ∧ (v2 = (3 : Int32) → w_X11_writeLine_b69 v5 v0 (v1 + (3 : Int32)) M4 q))))))
set_option maxRecDepth 100000 in
set_option maxHeartbeats 4000000 in
theorem ok_X11_writeLine_b49 {c : CtxT} {g : Gl} {l : Launch} {v0 : Nat} {v1 : Int32} {v2 : Int32} {v5 : Int32} {t0 : Nat} {t1 : Int32} {t2 : Int32} {q : Mem → Prop} {M : Mem} (C : Cx c cX11_writeLine 6 RX11 g l (Rm 1 0)) (r : Rt c (none) (pV q) 0 0) (hv0 : isA 0 v0) (ht0 : isA 0 t0) (hw : w_X11_writeLine_b49 v0 v1 v2 v5 t0 t1 t2 M q ) : X c S0 49 [(0, .ref (g.2.2.2 + v0)), (1, .int v1), (2, .int v2), (5, .int v5)] [.int t2, .int t1, .ref (g.2.2.2 + t0)] (stat M) := by
  unfold w_X11_writeLine_b49 at hw
  obtain ⟨h3, hw⟩ := hw
  obtain ⟨M4, eM4⟩ : ∃ z : Mem, z = uI M t0 (t1).toNatClampNeg t2 := ⟨_, rfl⟩
  replace hw := hw M4 eM4
  refine a_iast C ht0 rfl rfl h3 eM4 dX11_writeLine_49 ?_
  refine x_aload_n C dX11_writeLine_50 rfl rfl ?_
  refine x_iload_n C dX11_writeLine_51 rfl rfl ?_
  refine x_iconst (v := (3 : Int32)) C dX11_writeLine_52 (by decide) ?_
  refine x_iadd C dX11_writeLine_53 ?_
  refine x_iload_n C dX11_writeLine_54 rfl rfl ?_
  refine x_iconst (v := (1 : Int32)) C dX11_writeLine_55 (by decide) ?_
  refine x_icmp_eq (tgt := 69) C dX11_writeLine_56 (by decide) (fun h5 => ?_) (fun h5 => ?_)
  · replace hw := hw.1 h5
    exact x_sub [5] rfl (ok_X11_writeLine_b69 C r hv0 hw)
  · replace hw := hw.2 h5
    refine x_iload_n C dX11_writeLine_59 rfl rfl ?_
    refine x_iconst (v := (2 : Int32)) C dX11_writeLine_60 (by decide) ?_
    refine x_icmp_eq (tgt := 69) C dX11_writeLine_61 (by decide) (fun h6 => ?_) (fun h6 => ?_)
    · replace hw := hw.1 h6
      exact x_sub [5] rfl (ok_X11_writeLine_b69 C r hv0 hw)
    · replace hw := hw.2 h6
      refine x_iload_n C dX11_writeLine_64 rfl rfl ?_
      refine x_iconst (v := (3 : Int32)) C dX11_writeLine_65 (by decide) ?_
      refine x_icmp_ne (tgt := 74) C dX11_writeLine_66 (by decide) (fun h7 => ?_) (fun h7 => ?_)
      · replace hw := hw.1 h7
        refine x_iconst (v := (0 : Int32)) C dX11_writeLine_74 (by decide) ?_
        obtain ⟨h8, hw⟩ := hw
        obtain ⟨M9, eM9⟩ : ∃ z : Mem, z = uI M4 v0 ((v1 + (3 : Int32))).toNatClampNeg (0 : Int32) := ⟨_, rfl⟩
        replace hw := hw M9 eM9
        refine a_iast C hv0 rfl rfl h8 eM9 dX11_writeLine_75 ?_
        exact n_vreturn C r dX11_writeLine_76 hw
      · replace hw := hw.2 h7
        exact x_sub [5] rfl (ok_X11_writeLine_b69 C r hv0 hw)
def w_X11_writeLine_b32 (v0 : Nat) (v1 : Int32) (v2 : Int32) (v4 : Int32) (v5 : Int32) (t0 : Nat) (t1 : Int32) (t2 : Int32) (M : Mem) (q : Mem → Prop) : Prop := vp_in t1 (len t0) ∧ ∀ M11 : Mem, M11 = uI M t0 (t1).toNatClampNeg t2 → ((¬ v2 = (7 : Int32) → w_X11_writeLine_b49 v0 v1 v2 v5 v0 (v1 + (2 : Int32)) v4 M11 q) ∧ (v2 = (7 : Int32) → w_X11_writeLine_b49 v0 v1 v2 v5 v0 (v1 + (2 : Int32)) (0 : Int32) M11 q))
set_option maxRecDepth 100000 in
set_option maxHeartbeats 4000000 in
theorem ok_X11_writeLine_b32 {c : CtxT} {g : Gl} {l : Launch} {v0 : Nat} {v1 : Int32} {v2 : Int32} {v4 : Int32} {v5 : Int32} {t0 : Nat} {t1 : Int32} {t2 : Int32} {q : Mem → Prop} {M : Mem} (C : Cx c cX11_writeLine 6 RX11 g l (Rm 1 0)) (r : Rt c (none) (pV q) 0 0) (hv0 : isA 0 v0) (ht0 : isA 0 t0) (hw : w_X11_writeLine_b32 v0 v1 v2 v4 v5 t0 t1 t2 M q ) : X c S0 32 [(0, .ref (g.2.2.2 + v0)), (1, .int v1), (2, .int v2), (4, .int v4), (5, .int v5)] [.int t2, .int t1, .ref (g.2.2.2 + t0)] (stat M) := by
  unfold w_X11_writeLine_b32 at hw
  obtain ⟨h10, hw⟩ := hw
  obtain ⟨M11, eM11⟩ : ∃ z : Mem, z = uI M t0 (t1).toNatClampNeg t2 := ⟨_, rfl⟩
  replace hw := hw M11 eM11
  refine a_iast C ht0 rfl rfl h10 eM11 dX11_writeLine_32 ?_
  refine x_aload_n C dX11_writeLine_33 rfl rfl ?_
  refine x_iload_n C dX11_writeLine_34 rfl rfl ?_
  refine x_iconst (v := (2 : Int32)) C dX11_writeLine_35 (by decide) ?_
  refine x_iadd C dX11_writeLine_36 ?_
  refine x_iload_n C dX11_writeLine_37 rfl rfl ?_
  refine x_bipush (v := (7 : Int32)) C dX11_writeLine_38 (by decide) ?_
  refine x_icmp_ne (tgt := 47) C dX11_writeLine_40 (by decide) (fun h12 => ?_) (fun h12 => ?_)
  · replace hw := hw.1 h12
    refine x_iload C dX11_writeLine_47 rfl ?_
    exact x_sub [0, 1, 2, 5] rfl (ok_X11_writeLine_b49 C r hv0 hv0 hw)
  · replace hw := hw.2 h12
    refine x_iconst (v := (0 : Int32)) C dX11_writeLine_43 (by decide) ?_
    refine x_goto (tgt := 49) C dX11_writeLine_44 (by decide) ?_
    exact x_sub [0, 1, 2, 5] rfl (ok_X11_writeLine_b49 C r hv0 hv0 hw)
def w_X11_writeLine (v0 : Nat) (v1 : Int32) (v2 : Int32) (v3 : Int32) (v4 : Int32) (v5 : Int32) (M : Mem) (q : Mem → Prop) : Prop := ((v1 < 0 → q M) ∧ (¬ v1 < 0 → (((v1 + (4 : Int32)) ≤ (Int32.ofNat (len v0)) → vp_in v1 (len v0) ∧ ∀ M16 : Mem, M16 = uI M v0 (v1).toNatClampNeg v2 → ((¬ v2 = (7 : Int32) → w_X11_writeLine_b32 v0 v1 v2 v4 v5 v0 (v1 + (1 : Int32)) v3 M16 q) ∧ (v2 = (7 : Int32) → w_X11_writeLine_b32 v0 v1 v2 v4 v5 v0 (v1 + (1 : Int32)) (0 : Int32) M16 q))) ∧ (¬ (v1 + (4 : Int32)) ≤ (Int32.ofNat (len v0)) → q M))))
set_option maxRecDepth 100000 in
set_option maxHeartbeats 4000000 in
theorem ok_X11_writeLine {g : Gl} {l : Launch} {v0 : Nat} {v1 : Int32} {v2 : Int32} {v3 : Int32} {v4 : Int32} {v5 : Int32} {M : Mem} {q : Mem → Prop} (hv0 : isA 0 v0) (hw : w_X11_writeLine v0 v1 v2 v3 v4 v5 M q) : CtV g l yX11_writeLine cX11_writeLine 6 none 1 0 [.ref (g.2.2.2 + v0), .int v1, .int v2, .int v3, .int v4, .int v5] M q := by
  refine n_introV (by decide +kernel) (Nat.le_of_ble_eq_true rfl) (fun c C r => ?_)
  have C : Cx c cX11_writeLine 6 RX11 g l (Rm 1 0) := C
  refine x_sub [0, 1, 2, 3, 4, 5] (lv' := [(0, .ref (g.2.2.2 + v0)), (1, .int v1), (2, .int v2), (3, .int v3), (4, .int v4), (5, .int v5)]) rfl ?_
  unfold w_X11_writeLine at hw
  refine x_iload_n C dX11_writeLine_0 rfl rfl ?_
  refine x_if_lt (tgt := 12) C dX11_writeLine_1 (by decide) (fun h13 => ?_) (fun h13 => ?_)
  · replace hw := hw.1 h13
    exact n_vreturn C r dX11_writeLine_12 hw
  · replace hw := hw.2 h13
    refine x_iload_n C dX11_writeLine_4 rfl rfl ?_
    refine x_iconst (v := (4 : Int32)) C dX11_writeLine_5 (by decide) ?_
    refine x_iadd C dX11_writeLine_6 ?_
    refine x_aload_n C dX11_writeLine_7 rfl rfl ?_
    refine n_alen C hv0 (by decide) dX11_writeLine_8 ?_
    refine x_icmp_le (tgt := 13) C dX11_writeLine_9 (by decide) (fun h14 => ?_) (fun h14 => ?_)
    · replace hw := hw.1 h14
      refine x_aload_n C dX11_writeLine_13 rfl rfl ?_
      refine x_iload_n C dX11_writeLine_14 rfl rfl ?_
      refine x_iload_n C dX11_writeLine_15 rfl rfl ?_
      obtain ⟨h15, hw⟩ := hw
      obtain ⟨M16, eM16⟩ : ∃ z : Mem, z = uI M v0 (v1).toNatClampNeg v2 := ⟨_, rfl⟩
      replace hw := hw M16 eM16
      refine a_iast C hv0 rfl rfl h15 eM16 dX11_writeLine_16 ?_
      refine x_aload_n C dX11_writeLine_17 rfl rfl ?_
      refine x_iload_n C dX11_writeLine_18 rfl rfl ?_
      refine x_iconst (v := (1 : Int32)) C dX11_writeLine_19 (by decide) ?_
      refine x_iadd C dX11_writeLine_20 ?_
      refine x_iload_n C dX11_writeLine_21 rfl rfl ?_
      refine x_bipush (v := (7 : Int32)) C dX11_writeLine_22 (by decide) ?_
      refine x_icmp_ne (tgt := 31) C dX11_writeLine_24 (by decide) (fun h17 => ?_) (fun h17 => ?_)
      · replace hw := hw.1 h17
        refine x_iload_n C dX11_writeLine_31 rfl rfl ?_
        exact x_sub [0, 1, 2, 4, 5] rfl (ok_X11_writeLine_b32 C r hv0 hv0 hw)
      · replace hw := hw.2 h17
        refine x_iconst (v := (0 : Int32)) C dX11_writeLine_27 (by decide) ?_
        refine x_goto (tgt := 32) C dX11_writeLine_28 (by decide) ?_
        exact x_sub [0, 1, 2, 4, 5] rfl (ok_X11_writeLine_b32 C r hv0 hv0 hw)
    · replace hw := hw.2 h14
      exact n_vreturn C r dX11_writeLine_12 hw

def w_X11_cutBy (v0 : Int32) (v1 : Int32) (M : Mem) (q : Int32 → Mem → Prop) : Prop := (((1 : Int32) ≤ v1 → ¬ v1 = 0 ∧ q (v0 / v1) M) ∧ (¬ (1 : Int32) ≤ v1 → q (0 : Int32) M))
set_option maxRecDepth 100000 in
set_option maxHeartbeats 4000000 in
theorem ok_X11_cutBy {g : Gl} {l : Launch} {v0 : Int32} {v1 : Int32} {M : Mem} {q : Int32 → Mem → Prop} (hw : w_X11_cutBy v0 v1 M q) : CtI g l yX11_cutBy cX11_cutBy 2 (some .int) 1 0 [.int v0, .int v1] M q := by
  refine n_introI (by decide +kernel) (Nat.le_of_ble_eq_true rfl) (fun c C r => ?_)
  have C : Cx c cX11_cutBy 2 RX11 g l (Rm 1 0) := C
  refine x_sub [0, 1] (lv' := [(0, .int v0), (1, .int v1)]) rfl ?_
  unfold w_X11_cutBy at hw
  refine x_iload_n C dX11_cutBy_0 rfl rfl ?_
  refine x_iconst (v := (1 : Int32)) C dX11_cutBy_1 (by decide) ?_
  refine x_icmp_ge (tgt := 9) C dX11_cutBy_2 (by decide) (fun h1 => ?_) (fun h1 => ?_)
  · replace hw := hw.1 h1
    refine x_iload_n C dX11_cutBy_9 rfl rfl ?_
    refine x_iload_n C dX11_cutBy_10 rfl rfl ?_
    obtain ⟨h2, hw⟩ := hw
    refine x_idiv C dX11_cutBy_11 h2 ?_
    exact n_ireturn C r dX11_cutBy_12 hw
  · replace hw := hw.2 h1
    refine x_iconst (v := (0 : Int32)) C dX11_cutBy_5 (by decide) ?_
    refine x_goto (tgt := 12) C dX11_cutBy_6 (by decide) ?_
    exact n_ireturn C r dX11_cutBy_12 hw

def w_X11_isNotSmall (v0 : Int32) (M : Mem) (q : Int32 → Mem → Prop) : Prop := w_X11_isBeyond v0 (-1000 : Int32) (1000 : Int32) M (fun (r2 : Int32) (M1 : Mem) => (bz r2 ∧ q r2 M1))
set_option maxRecDepth 100000 in
set_option maxHeartbeats 4000000 in
theorem ok_X11_isNotSmall {g : Gl} {l : Launch} {v0 : Int32} {M : Mem} {q : Int32 → Mem → Prop} (hw : w_X11_isNotSmall v0 M q) : CtI g l yX11_isNotSmall cX11_isNotSmall 1 (some .boolean) 2 22 [.int v0] M q := by
  refine n_introI (by decide +kernel) (Nat.le_of_ble_eq_true rfl) (fun c C r => ?_)
  have C : Cx c cX11_isNotSmall 1 RX11 g l (Rm 2 22) := C
  refine x_sub [0] (lv' := [(0, .int v0)]) rfl ?_
  unfold w_X11_isNotSmall at hw
  refine x_iload_n C dX11_isNotSmall_0 rfl rfl ?_
  refine x_sipush (v := (-1000 : Int32)) C dX11_isNotSmall_1 (by decide) ?_
  refine x_sipush (v := (1000 : Int32)) C dX11_isNotSmall_4 (by decide) ?_
  refine n_callSI C (ok_X11_isBeyond  hw) ms_X11_128 rfl rfl ⟨Nat.le_of_ble_eq_true rfl, Nat.le_of_ble_eq_true rfl⟩ (Nat.le_of_ble_eq_true rfl) dX11_isNotSmall_7 (fun r2 M1 hw => ?_)
  exact n_zreturn C r dX11_isNotSmall_10 hw.1 hw.2

def w_J6_bitCount_0f7a4 (v0 : Int32) (M : Mem) (q : Int32 → Mem → Prop) : Prop := ∀ x1 : Int32, x1 = (v0 - ((iush v0 (1 : Int32)) &&& (1431655765 : Int32))) → ∀ x2 : Int32, x2 = ((x1 &&& (858993459 : Int32)) + ((iush x1 (2 : Int32)) &&& (858993459 : Int32))) → ∀ x3 : Int32, x3 = ((x2 + (iush x2 (4 : Int32))) &&& (252645135 : Int32)) → ∀ x4 : Int32, x4 = (x3 + (iush x3 (8 : Int32))) → ∀ x5 : Int32, x5 = (x4 + (iush x4 (16 : Int32))) → q (x5 &&& (63 : Int32)) M
set_option maxRecDepth 100000 in
set_option maxHeartbeats 4000000 in
theorem ok_J6_bitCount_0f7a4 {g : Gl} {l : Launch} {v0 : Int32} {M : Mem} {q : Int32 → Mem → Prop} (hw : w_J6_bitCount_0f7a4 v0 M q) : CtI g l yJ6_bitCount_0f7a4 cJ6_bitCount_0f7a4 1 (some .int) 1 0 [.int v0] M q := by
  refine n_introI (by decide +kernel) (Nat.le_of_ble_eq_true rfl) (fun c C r => ?_)
  have C : Cx c cJ6_bitCount_0f7a4 1 RJ6 g l (Rm 1 0) := C
  refine x_sub [0] (lv' := [(0, .int v0)]) rfl ?_
  unfold w_J6_bitCount_0f7a4 at hw
  refine x_iload_n C dJ6_bitCount_0f7a4_0 rfl rfl ?_
  refine x_iload_n C dJ6_bitCount_0f7a4_1 rfl rfl ?_
  refine x_iconst (v := (1 : Int32)) C dJ6_bitCount_0f7a4_2 (by decide) ?_
  refine x_iushv C dJ6_bitCount_0f7a4_3 ?_
  refine x_ldc_w (v := (1431655765 : Int32)) C dJ6_bitCount_0f7a4_4 kc_J6_265 ?_
  refine x_iand C dJ6_bitCount_0f7a4_7 ?_
  refine x_isub C dJ6_bitCount_0f7a4_8 ?_
  obtain ⟨x1, ex1⟩ : ∃ z : Int32, z = (v0 - ((iush v0 (1 : Int32)) &&& (1431655765 : Int32))) := ⟨_, rfl⟩
  replace hw := hw x1 ex1
  refine x_topi ex1 ?_
  refine x_istore_n C dJ6_bitCount_0f7a4_9 rfl (Nat.le_of_ble_eq_true rfl) ?_
  refine x_iload_n C dJ6_bitCount_0f7a4_10 rfl rfl ?_
  refine x_ldc_w (v := (858993459 : Int32)) C dJ6_bitCount_0f7a4_11 kc_J6_266 ?_
  refine x_iand C dJ6_bitCount_0f7a4_14 ?_
  refine x_iload_n C dJ6_bitCount_0f7a4_15 rfl rfl ?_
  refine x_iconst (v := (2 : Int32)) C dJ6_bitCount_0f7a4_16 (by decide) ?_
  refine x_iushv C dJ6_bitCount_0f7a4_17 ?_
  refine x_ldc_w (v := (858993459 : Int32)) C dJ6_bitCount_0f7a4_18 kc_J6_266 ?_
  refine x_iand C dJ6_bitCount_0f7a4_21 ?_
  refine x_iadd C dJ6_bitCount_0f7a4_22 ?_
  obtain ⟨x2, ex2⟩ : ∃ z : Int32, z = ((x1 &&& (858993459 : Int32)) + ((iush x1 (2 : Int32)) &&& (858993459 : Int32))) := ⟨_, rfl⟩
  replace hw := hw x2 ex2
  refine x_topi ex2 ?_
  refine x_istore_n C dJ6_bitCount_0f7a4_23 rfl (Nat.le_of_ble_eq_true rfl) ?_
  refine x_iload_n C dJ6_bitCount_0f7a4_24 rfl rfl ?_
  refine x_iload_n C dJ6_bitCount_0f7a4_25 rfl rfl ?_
  refine x_iconst (v := (4 : Int32)) C dJ6_bitCount_0f7a4_26 (by decide) ?_
  refine x_iushv C dJ6_bitCount_0f7a4_27 ?_
  refine x_iadd C dJ6_bitCount_0f7a4_28 ?_
  refine x_ldc_w (v := (252645135 : Int32)) C dJ6_bitCount_0f7a4_29 kc_J6_267 ?_
  refine x_iand C dJ6_bitCount_0f7a4_32 ?_
  obtain ⟨x3, ex3⟩ : ∃ z : Int32, z = ((x2 + (iush x2 (4 : Int32))) &&& (252645135 : Int32)) := ⟨_, rfl⟩
  replace hw := hw x3 ex3
  refine x_topi ex3 ?_
  refine x_istore_n C dJ6_bitCount_0f7a4_33 rfl (Nat.le_of_ble_eq_true rfl) ?_
  refine x_iload_n C dJ6_bitCount_0f7a4_34 rfl rfl ?_
  refine x_iload_n C dJ6_bitCount_0f7a4_35 rfl rfl ?_
  refine x_bipush (v := (8 : Int32)) C dJ6_bitCount_0f7a4_36 (by decide) ?_
  refine x_iushv C dJ6_bitCount_0f7a4_38 ?_
  refine x_iadd C dJ6_bitCount_0f7a4_39 ?_
  obtain ⟨x4, ex4⟩ : ∃ z : Int32, z = (x3 + (iush x3 (8 : Int32))) := ⟨_, rfl⟩
  replace hw := hw x4 ex4
  refine x_topi ex4 ?_
  refine x_istore_n C dJ6_bitCount_0f7a4_40 rfl (Nat.le_of_ble_eq_true rfl) ?_
  refine x_iload_n C dJ6_bitCount_0f7a4_41 rfl rfl ?_
  refine x_iload_n C dJ6_bitCount_0f7a4_42 rfl rfl ?_
  refine x_bipush (v := (16 : Int32)) C dJ6_bitCount_0f7a4_43 (by decide) ?_
  refine x_iushv C dJ6_bitCount_0f7a4_45 ?_
  refine x_iadd C dJ6_bitCount_0f7a4_46 ?_
  obtain ⟨x5, ex5⟩ : ∃ z : Int32, z = (x4 + (iush x4 (16 : Int32))) := ⟨_, rfl⟩
  replace hw := hw x5 ex5
  refine x_topi ex5 ?_
  refine x_istore_n C dJ6_bitCount_0f7a4_47 rfl (Nat.le_of_ble_eq_true rfl) ?_
  refine x_iload_n C dJ6_bitCount_0f7a4_48 rfl rfl ?_
  refine x_bipush (v := (63 : Int32)) C dJ6_bitCount_0f7a4_49 (by decide) ?_
  refine x_iand C dJ6_bitCount_0f7a4_51 ?_
  exact n_ireturn C r dJ6_bitCount_0f7a4_52 hw

def w_J7_fill_53178_l5F (v0 : Nat) (v1 : Int32) (v3 : Int32) (q : Mem → Prop) (P5 : Int32 × Mem → Prop) (s : Int32 × Mem) : Prop := match s with
  | (v2, M) => ((v3 ≤ v2 → q M) ∧ (¬ v3 ≤ v2 → vp_in v2 (len v0) ∧ ∀ M3 : Mem, M3 = uI M v0 (v2).toNatClampNeg v1 → ∀ x4 : Int32, x4 = v2 + (1 : Int32) → P5 (x4, M3)))
def w_J7_fill_53178_l5 (v0 : Nat) (v1 : Int32) (v3 : Int32) (q : Mem → Prop) (s : Int32 × Mem) : Prop := lfp (w_J7_fill_53178_l5F v0 v1 v3 q ) s
set_option maxRecDepth 100000 in
set_option maxHeartbeats 4000000 in
theorem ok_J7_fill_53178_l5 {c : CtxT} {g : Gl} {l : Launch} {v0 : Nat} {v1 : Int32} {v3 : Int32} {q : Mem → Prop} {s : Int32 × Mem} (C : Cx c cJ7_fill_53178 4 RJ7 g l (Rm 1 0)) (r : Rt c (none) (pV q) 0 0) (hv0 : isA 0 v0) (hw : w_J7_fill_53178_l5 v0 v1 v3 q s) : X c S0 5 [(0, .ref (g.2.2.2 + v0)), (1, .int v1), (2, .int s.1), (3, .int v3)] [] (stat s.2) := hw (fun s => X c S0 5 [(0, .ref (g.2.2.2 + v0)), (1, .int v1), (2, .int s.1), (3, .int v3)] [] (stat s.2)) (fun s hw => by
    obtain ⟨v2, M⟩ := s
    try dsimp only [w_J7_fill_53178_l5F] at hw
    try dsimp only
    refine x_iload_n C dJ7_fill_53178_5 rfl rfl ?_
    refine x_iload_n C dJ7_fill_53178_6 rfl rfl ?_
    refine x_icmp_ge (tgt := 20) C dJ7_fill_53178_7 (by decide) (fun h1 => ?_) (fun h1 => ?_)
    · replace hw := hw.1 h1
      exact n_vreturn C r dJ7_fill_53178_20 hw
    · replace hw := hw.2 h1
      refine x_aload_n C dJ7_fill_53178_10 rfl rfl ?_
      refine x_iload_n C dJ7_fill_53178_11 rfl rfl ?_
      refine x_iload_n C dJ7_fill_53178_12 rfl rfl ?_
      obtain ⟨h2, hw⟩ := hw
      obtain ⟨M3, eM3⟩ : ∃ z : Mem, z = uI M v0 (v2).toNatClampNeg v1 := ⟨_, rfl⟩
      replace hw := hw M3 eM3
      refine a_iast C hv0 rfl rfl h2 eM3 dJ7_fill_53178_13 ?_
      obtain ⟨x4, ex4⟩ : ∃ z : Int32, z = v2 + (1 : Int32) := ⟨_, rfl⟩
      replace hw := hw x4 ex4
      refine x_iinc (v := x4) C dJ7_fill_53178_14 rfl ex4.symm (Nat.le_of_ble_eq_true rfl) ?_
      refine x_goto (tgt := 5) C dJ7_fill_53178_17 (by decide) ?_
      exact x_sub [0, 1, 2, 3] rfl hw)
def w_J7_fill_53178 (v0 : Nat) (v1 : Int32) (M : Mem) (q : Mem → Prop) : Prop := ∀ x5 : Int32, x5 = (Int32.ofNat (len v0)) → w_J7_fill_53178_l5 v0 v1 x5 q ((0 : Int32), M)
set_option maxRecDepth 100000 in
set_option maxHeartbeats 4000000 in
theorem ok_J7_fill_53178 {g : Gl} {l : Launch} {v0 : Nat} {v1 : Int32} {M : Mem} {q : Mem → Prop} (hv0 : isA 0 v0) (hw : w_J7_fill_53178 v0 v1 M q) : CtV g l yJ7_fill_53178 cJ7_fill_53178 4 none 1 0 [.ref (g.2.2.2 + v0), .int v1] M q := by
  refine n_introV (by decide +kernel) (Nat.le_of_ble_eq_true rfl) (fun c C r => ?_)
  have C : Cx c cJ7_fill_53178 4 RJ7 g l (Rm 1 0) := C
  refine x_sub [0, 1] (lv' := [(0, .ref (g.2.2.2 + v0)), (1, .int v1)]) rfl ?_
  unfold w_J7_fill_53178 at hw
  refine x_iconst (v := (0 : Int32)) C dJ7_fill_53178_0 (by decide) ?_
  refine x_istore_n C dJ7_fill_53178_1 rfl (Nat.le_of_ble_eq_true rfl) ?_
  refine x_aload_n C dJ7_fill_53178_2 rfl rfl ?_
  refine n_alen C hv0 (by decide) dJ7_fill_53178_3 ?_
  obtain ⟨x5, ex5⟩ : ∃ z : Int32, z = (Int32.ofNat (len v0)) := ⟨_, rfl⟩
  replace hw := hw x5 ex5
  refine x_topi ex5 ?_
  refine x_istore_n C dJ7_fill_53178_4 rfl (Nat.le_of_ble_eq_true rfl) ?_
  exact x_sub [0, 1, 2, 3] rfl (ok_J7_fill_53178_l5 C r hv0 hw)

def w_X8_told (o : Nat) (v1 : Int32) (v2 : Int32) (M : Mem) (q : Int32 → Mem → Prop) : Prop := vp_in ((v1 * (14 : Int32)) + v2) 2800 ∧ q (M.1 (o + 14) (((v1 * (14 : Int32)) + v2)).toNatClampNeg) M
set_option maxRecDepth 100000 in
set_option maxHeartbeats 4000000 in
theorem ok_X8_told {g : Gl} {l : Launch} {o : Nat} {v1 : Int32} {v2 : Int32} {M : Mem} {q : Int32 → Mem → Prop} (ho : sh o = .inl 8) (hw : w_X8_told o v1 v2 M q) : CtI g l yX8_told cX8_told 3 (some .int) 1 0 [.ref (g.2.2.2 + o), .int v1, .int v2] M q := by
  refine n_introI (by decide +kernel) (Nat.le_of_ble_eq_true rfl) (fun c C r => ?_)
  have C : Cx c cX8_told 3 RX8 g l (Rm 1 0) := C
  refine x_sub [0, 1, 2] (lv' := [(0, .ref (g.2.2.2 + o)), (1, .int v1), (2, .int v2)]) rfl ?_
  unfold w_X8_told at hw
  refine x_aload_n C dX8_told_0 rfl rfl ?_
  refine n_getS (dd := 14) C fl_X8_31 ho (fun _ _ => rfl) rfl dX8_told_1 ?_
  refine x_iload_n C dX8_told_4 rfl rfl ?_
  refine x_bipush (v := (14 : Int32)) C dX8_told_5 (by decide) ?_
  refine x_imul C dX8_told_7 ?_
  refine x_iload_n C dX8_told_8 rfl rfl ?_
  refine x_iadd C dX8_told_9 ?_
  obtain ⟨h1, hw⟩ := hw
  refine a_iald C (ss_8_3 ho) (sl_8_3 ho) h1 dX8_told_10 ?_
  exact n_ireturn C r dX8_told_11 hw

def w_X8_isTimedOn (o : Nat) (v1 : Int32) (v2 : Int32) (M : Mem) (q : Int32 → Mem → Prop) : Prop := w_X8_told o v1 (8 : Int32) M (fun (r2 : Int32) (M1 : Mem) => ((¬ r2 = v2 → q (0 : Int32) M1) ∧ (r2 = v2 → w_X8_told o v1 (6 : Int32) M1 (fun (r5 : Int32) (M4 : Mem) => ((¬ r5 = 0 → q (0 : Int32) M4) ∧ (r5 = 0 → q (1 : Int32) M4))))))
set_option maxRecDepth 100000 in
set_option maxHeartbeats 4000000 in
theorem ok_X8_isTimedOn {g : Gl} {l : Launch} {o : Nat} {v1 : Int32} {v2 : Int32} {M : Mem} {q : Int32 → Mem → Prop} (ho : sh o = .inl 8) (hw : w_X8_isTimedOn o v1 v2 M q) : CtI g l yX8_isTimedOn cX8_isTimedOn 3 (some .boolean) 2 22 [.ref (g.2.2.2 + o), .int v1, .int v2] M q := by
  refine n_introI (by decide +kernel) (Nat.le_of_ble_eq_true rfl) (fun c C r => ?_)
  have C : Cx c cX8_isTimedOn 3 RX8 g l (Rm 2 22) := C
  refine x_sub [0, 1, 2] (lv' := [(0, .ref (g.2.2.2 + o)), (1, .int v1), (2, .int v2)]) rfl ?_
  unfold w_X8_isTimedOn at hw
  refine x_aload_n C dX8_isTimedOn_0 rfl rfl ?_
  refine x_iload_n C dX8_isTimedOn_1 rfl rfl ?_
  refine x_bipush (v := (8 : Int32)) C dX8_isTimedOn_2 (by decide) ?_
  refine n_callVI ho rfl C (ok_X8_told ho hw) mv_X8_66 rfl rfl ⟨Nat.le_of_ble_eq_true rfl, Nat.le_of_ble_eq_true rfl⟩ (Nat.le_of_ble_eq_true rfl) dX8_isTimedOn_4 (fun r2 M1 hw => ?_)
  refine x_iload_n C dX8_isTimedOn_7 rfl rfl ?_
  refine x_icmp_ne (tgt := 25) C dX8_isTimedOn_8 (by decide) (fun h3 => ?_) (fun h3 => ?_)
  · replace hw := hw.1 h3
    refine x_iconst (v := (0 : Int32)) C dX8_isTimedOn_25 (by decide) ?_
    exact n_zreturn C r dX8_isTimedOn_26 (Or.inl rfl) hw
  · replace hw := hw.2 h3
    refine x_aload_n C dX8_isTimedOn_11 rfl rfl ?_
    refine x_iload_n C dX8_isTimedOn_12 rfl rfl ?_
    refine x_bipush (v := (6 : Int32)) C dX8_isTimedOn_13 (by decide) ?_
    refine n_callVI ho rfl C (ok_X8_told ho hw) mv_X8_66 rfl rfl ⟨Nat.le_of_ble_eq_true rfl, Nat.le_of_ble_eq_true rfl⟩ (Nat.le_of_ble_eq_true rfl) dX8_isTimedOn_15 (fun r5 M4 hw => ?_)
    refine x_if_ne (tgt := 25) C dX8_isTimedOn_18 (by decide) (fun h6 => ?_) (fun h6 => ?_)
    · replace hw := hw.1 h6
      refine x_iconst (v := (0 : Int32)) C dX8_isTimedOn_25 (by decide) ?_
      exact n_zreturn C r dX8_isTimedOn_26 (Or.inl rfl) hw
    · replace hw := hw.2 h6
      refine x_iconst (v := (1 : Int32)) C dX8_isTimedOn_21 (by decide) ?_
      refine x_goto (tgt := 26) C dX8_isTimedOn_22 (by decide) ?_
      exact n_zreturn C r dX8_isTimedOn_26 (Or.inr rfl) hw

def w_X8_gather_b69 (o : Nat) (v1 : Nat) (v2 : Int32) (v3 : Int32) (v4 : Int32) (v5 : Int32) (v6 : Int32) (M : Mem) (q : Mem → Prop) (P7 : Int32 × Mem → Prop) : Prop := ∀ x1 : Int32, x1 = v6 + (1 : Int32) → P7 (x1, M)
set_option maxRecDepth 100000 in
set_option maxHeartbeats 4000000 in
theorem ok_X8_gather_b69 {c : CtxT} {g : Gl} {l : Launch} {o : Nat} {v1 : Nat} {v2 : Int32} {v3 : Int32} {v4 : Int32} {v5 : Int32} {v6 : Int32} {q : Mem → Prop} {P7 : Int32 × Mem → Prop} {M : Mem} (C : Cx c cX8_gather 7 RX8 g l (Rm 3 44)) (r : Rt c (none) (pV q) 0 0) (ho : sh o = .inl 8) (hv1 : sh v1 = .inl 0) (hP7 : ∀ (v6 : Int32) (M : Mem), P7 (v6, M) → X c S0 7 [(0, .ref (g.2.2.2 + o)), (1, .ref (g.2.2.2 + v1)), (2, .int v2), (3, .int v3), (4, .int v4), (5, .int v5), (6, .int v6)] [] (stat M)) (hw : w_X8_gather_b69 o v1 v2 v3 v4 v5 v6 M q P7) : X c S0 69 [(0, .ref (g.2.2.2 + o)), (1, .ref (g.2.2.2 + v1)), (2, .int v2), (3, .int v3), (4, .int v4), (5, .int v5), (6, .int v6)] [] (stat M) := by
  unfold w_X8_gather_b69 at hw
  obtain ⟨x1, ex1⟩ : ∃ z : Int32, z = v6 + (1 : Int32) := ⟨_, rfl⟩
  replace hw := hw x1 ex1
  refine x_iinc (v := x1) C dX8_gather_69 rfl ex1.symm (Nat.le_of_ble_eq_true rfl) ?_
  refine x_goto (tgt := 7) C dX8_gather_72 (by decide) ?_
  exact x_sub [0, 1, 2, 3, 4, 5, 6] rfl (hP7 _ _ hw)
def w_X8_gather_l7F (o : Nat) (v1 : Nat) (v2 : Int32) (v3 : Int32) (v4 : Int32) (v5 : Int32) (q : Mem → Prop) (P7 : Int32 × Mem → Prop) (s : Int32 × Mem) : Prop := match s with
  | (v6, M) => (((M.1 o 4) ≤ v6 → q M) ∧ (¬ (M.1 o 4) ≤ v6 → ((v5 ≤ v6 → q M) ∧ (¬ v5 ≤ v6 → w_X8_isTimedOn o v6 v3 M (fun (r5 : Int32) (M4 : Mem) => ((r5 = 0 → w_X8_gather_b69 o v1 v2 v3 v4 v5 v6 M4 q P7) ∧ (¬ r5 = 0 → w_X8_told o v6 (7 : Int32) M4 (fun (r8 : Int32) (M7 : Mem) => ((¬ r8 = v2 → w_X8_gather_b69 o v1 v2 v3 v4 v5 v6 M7 q P7) ∧ (r8 = v2 → w_X8_told o v6 (9 : Int32) M7 (fun (r11 : Int32) (M10 : Mem) => ((¬ r11 = v4 → w_X8_gather_b69 o v1 v2 v3 v4 v5 v6 M10 q P7) ∧ (r11 = v4 → w_X8_told o v6 (5 : Int32) M10 (fun (r14 : Int32) (M13 : Mem) => w_X0_add v1 r14 M13 (fun (M15 : Mem) => w_X8_gather_b69 o v1 v2 v3 v4 v5 v6 M15 q P7)))))))))))))))
def w_X8_gather_l7 (o : Nat) (v1 : Nat) (v2 : Int32) (v3 : Int32) (v4 : Int32) (v5 : Int32) (q : Mem → Prop) (s : Int32 × Mem) : Prop := lfp (w_X8_gather_l7F o v1 v2 v3 v4 v5 q ) s
set_option maxRecDepth 100000 in
set_option maxHeartbeats 4000000 in
theorem ok_X8_gather_l7 {c : CtxT} {g : Gl} {l : Launch} {o : Nat} {v1 : Nat} {v2 : Int32} {v3 : Int32} {v4 : Int32} {v5 : Int32} {q : Mem → Prop} {s : Int32 × Mem} (C : Cx c cX8_gather 7 RX8 g l (Rm 3 44)) (r : Rt c (none) (pV q) 0 0) (ho : sh o = .inl 8) (hv1 : sh v1 = .inl 0) (hw : w_X8_gather_l7 o v1 v2 v3 v4 v5 q s) : X c S0 7 [(0, .ref (g.2.2.2 + o)), (1, .ref (g.2.2.2 + v1)), (2, .int v2), (3, .int v3), (4, .int v4), (5, .int v5), (6, .int s.1)] [] (stat s.2) := hw (fun s => X c S0 7 [(0, .ref (g.2.2.2 + o)), (1, .ref (g.2.2.2 + v1)), (2, .int v2), (3, .int v3), (4, .int v4), (5, .int v5), (6, .int s.1)] [] (stat s.2)) (fun s hw => by
    obtain ⟨v6, M⟩ := s
    try dsimp only [w_X8_gather_l7F] at hw
    try dsimp only
    refine x_iload C dX8_gather_7 rfl ?_
    refine x_aload_n C dX8_gather_9 rfl rfl ?_
    refine n_getI C fl_X8_55 ho (fun _ _ => rfl) dX8_gather_10 ?_
    refine x_icmp_ge (tgt := 75) C dX8_gather_13 (by decide) (fun h2 => ?_) (fun h2 => ?_)
    · replace hw := hw.1 h2
      exact n_vreturn C r dX8_gather_75 hw
    · replace hw := hw.2 h2
      refine x_iload C dX8_gather_16 rfl ?_
      refine x_iload C dX8_gather_18 rfl ?_
      refine x_icmp_ge (tgt := 75) C dX8_gather_20 (by decide) (fun h3 => ?_) (fun h3 => ?_)
      · replace hw := hw.1 h3
        exact n_vreturn C r dX8_gather_75 hw
      · replace hw := hw.2 h3
        refine x_aload_n C dX8_gather_23 rfl rfl ?_
        refine x_iload C dX8_gather_24 rfl ?_
        refine x_iload_n C dX8_gather_26 rfl rfl ?_
        refine n_callVI ho rfl C (ok_X8_isTimedOn ho hw) mv_X8_75 rfl rfl ⟨Nat.le_of_ble_eq_true rfl, Nat.le_of_ble_eq_true rfl⟩ (Nat.le_of_ble_eq_true rfl) dX8_gather_27 (fun r5 M4 hw => ?_)
        refine x_if_eq (tgt := 69) C dX8_gather_30 (by decide) (fun h6 => ?_) (fun h6 => ?_)
        · replace hw := hw.1 h6
          exact x_sub [0, 1, 2, 3, 4, 5, 6] rfl (ok_X8_gather_b69 C r ho hv1 (fun _ _ h => h) hw)
        · replace hw := hw.2 h6
          refine x_aload_n C dX8_gather_33 rfl rfl ?_
          refine x_iload C dX8_gather_34 rfl ?_
          refine x_bipush (v := (7 : Int32)) C dX8_gather_36 (by decide) ?_
          refine n_callVI ho rfl C (ok_X8_told ho hw) mv_X8_66 rfl rfl ⟨Nat.le_of_ble_eq_true rfl, Nat.le_of_ble_eq_true rfl⟩ (Nat.le_of_ble_eq_true rfl) dX8_gather_38 (fun r8 M7 hw => ?_)
          refine x_iload_n C dX8_gather_41 rfl rfl ?_
          refine x_icmp_ne (tgt := 69) C dX8_gather_42 (by decide) (fun h9 => ?_) (fun h9 => ?_)
          · replace hw := hw.1 h9
            exact x_sub [0, 1, 2, 3, 4, 5, 6] rfl (ok_X8_gather_b69 C r ho hv1 (fun _ _ h => h) hw)
          · replace hw := hw.2 h9
            refine x_aload_n C dX8_gather_45 rfl rfl ?_
            refine x_iload C dX8_gather_46 rfl ?_
            refine x_bipush (v := (9 : Int32)) C dX8_gather_48 (by decide) ?_
            refine n_callVI ho rfl C (ok_X8_told ho hw) mv_X8_66 rfl rfl ⟨Nat.le_of_ble_eq_true rfl, Nat.le_of_ble_eq_true rfl⟩ (Nat.le_of_ble_eq_true rfl) dX8_gather_50 (fun r11 M10 hw => ?_)
            refine x_iload C dX8_gather_53 rfl ?_
            refine x_icmp_ne (tgt := 69) C dX8_gather_55 (by decide) (fun h12 => ?_) (fun h12 => ?_)
            · replace hw := hw.1 h12
              exact x_sub [0, 1, 2, 3, 4, 5, 6] rfl (ok_X8_gather_b69 C r ho hv1 (fun _ _ h => h) hw)
            · replace hw := hw.2 h12
              refine x_aload_n C dX8_gather_58 rfl rfl ?_
              refine x_aload_n C dX8_gather_59 rfl rfl ?_
              refine x_iload C dX8_gather_60 rfl ?_
              refine x_iconst (v := (5 : Int32)) C dX8_gather_62 (by decide) ?_
              refine n_callVI ho rfl C (ok_X8_told ho hw) mv_X8_66 rfl rfl ⟨Nat.le_of_ble_eq_true rfl, Nat.le_of_ble_eq_true rfl⟩ (Nat.le_of_ble_eq_true rfl) dX8_gather_63 (fun r14 M13 hw => ?_)
              refine n_callVV hv1 rfl C (ok_X0_add hv1 hw) mv_X8_79 rfl rfl ⟨Nat.le_of_ble_eq_true rfl, Nat.le_of_ble_eq_true rfl⟩ (Nat.le_of_ble_eq_true rfl) dX8_gather_66 (fun M15 hw => ?_)
              exact x_sub [0, 1, 2, 3, 4, 5, 6] rfl (ok_X8_gather_b69 C r ho hv1 (fun _ _ h => h) hw))
def w_X8_gather (o : Nat) (v1 : Nat) (v2 : Int32) (v3 : Int32) (v4 : Int32) (v5 : Int32) (M : Mem) (q : Mem → Prop) : Prop := w_X0_clear v1 M (fun (M17 : Mem) => w_X8_gather_l7 o v1 v2 v3 v4 v5 q ((0 : Int32), M17))
set_option maxRecDepth 100000 in
set_option maxHeartbeats 4000000 in
theorem ok_X8_gather {g : Gl} {l : Launch} {o : Nat} {v1 : Nat} {v2 : Int32} {v3 : Int32} {v4 : Int32} {v5 : Int32} {M : Mem} {q : Mem → Prop} (ho : sh o = .inl 8) (hv1 : sh v1 = .inl 0) (hw : w_X8_gather o v1 v2 v3 v4 v5 M q) : CtV g l yX8_gather cX8_gather 7 none 3 44 [.ref (g.2.2.2 + o), .ref (g.2.2.2 + v1), .int v2, .int v3, .int v4, .int v5] M q := by
  refine n_introV (by decide +kernel) (Nat.le_of_ble_eq_true rfl) (fun c C r => ?_)
  have C : Cx c cX8_gather 7 RX8 g l (Rm 3 44) := C
  refine x_sub [0, 1, 2, 3, 4, 5] (lv' := [(0, .ref (g.2.2.2 + o)), (1, .ref (g.2.2.2 + v1)), (2, .int v2), (3, .int v3), (4, .int v4), (5, .int v5)]) rfl ?_
  unfold w_X8_gather at hw
  refine x_aload_n C dX8_gather_0 rfl rfl ?_
  refine n_callVV hv1 rfl C (ok_X0_clear hv1 hw) mv_X8_70 rfl rfl ⟨Nat.le_of_ble_eq_true rfl, Nat.le_of_ble_eq_true rfl⟩ (Nat.le_of_ble_eq_true rfl) dX8_gather_1 (fun M17 hw => ?_)
  refine x_iconst (v := (0 : Int32)) C dX8_gather_4 (by decide) ?_
  refine x_istore C dX8_gather_5 (Nat.le_of_ble_eq_true rfl) ?_
  exact x_sub [0, 1, 2, 3, 4, 5, 6] rfl (ok_X8_gather_l7 C r ho hv1 hw)

def w_X1_gather_b88 (o : Nat) (v1 : Nat) (v3 : Int32) (v4 : Int32) (v5 : Int32) (v6 : Int32) (M : Mem) (q : Mem → Prop) (P8 : Int32 × Mem → Prop) : Prop := ∀ x1 : Int32, x1 = v6 + (1 : Int32) → P8 (x1, M)
set_option maxRecDepth 100000 in
set_option maxHeartbeats 4000000 in
theorem ok_X1_gather_b88 {c : CtxT} {g : Gl} {l : Launch} {o : Nat} {v1 : Nat} {v3 : Int32} {v4 : Int32} {v5 : Int32} {v6 : Int32} {q : Mem → Prop} {P8 : Int32 × Mem → Prop} {M : Mem} (C : Cx c cX1_gather 7 RX1 g l (Rm 4 70)) (r : Rt c (none) (pV q) 0 0) (ho : sh o = .inl 1) (hv1 : sh v1 = .inl 8) (hP8 : ∀ (v6 : Int32) (M : Mem), P8 (v6, M) → X c S0 8 [(0, .ref (g.2.2.2 + o)), (1, .ref (g.2.2.2 + v1)), (3, .int v3), (4, .int v4), (5, .int v5), (6, .int v6)] [] (stat M)) (hw : w_X1_gather_b88 o v1 v3 v4 v5 v6 M q P8) : X c S0 88 [(0, .ref (g.2.2.2 + o)), (1, .ref (g.2.2.2 + v1)), (3, .int v3), (4, .int v4), (5, .int v5), (6, .int v6)] [] (stat M) := by
  unfold w_X1_gather_b88 at hw
  obtain ⟨x1, ex1⟩ : ∃ z : Int32, z = v6 + (1 : Int32) := ⟨_, rfl⟩
  replace hw := hw x1 ex1
  refine x_iinc (v := x1) C dX1_gather_88 rfl ex1.symm (Nat.le_of_ble_eq_true rfl) ?_
  refine x_goto (tgt := 8) C dX1_gather_91 (by decide) ?_
  exact x_sub [0, 1, 3, 4, 5, 6] rfl (hP8 _ _ hw)
def w_X1_gather_l8F (o : Nat) (v1 : Nat) (v3 : Int32) (v4 : Int32) (v5 : Int32) (q : Mem → Prop) (P8 : Int32 × Mem → Prop) (s : Int32 × Mem) : Prop := match s with
  | (v6, M) => ((v3 < v6 → q M) ∧ (¬ v3 < v6 → (((24 : Int32) ≤ (M.1 o 5) → q M) ∧ (¬ (24 : Int32) ≤ (M.1 o 5) → w_X8_gather v1 (o + 4) v6 v4 v5 (M.1 v1 4) M (fun (M4 : Mem) => (((M4.1 (o + 4) 1) ≤ 0 → w_X1_gather_b88 o v1 v3 v4 v5 v6 M4 q P8) ∧ (¬ (M4.1 (o + 4) 1) ≤ 0 → vp_in (M4.1 o 5) 24 ∧ ∀ M8 : Mem, M8 = uI M4 (o + 1) ((M4.1 o 5)).toNatClampNeg v6 → w_X0_middle (o + 4) M8 (fun (r10 : Int32) (M9 : Mem) => vp_in (M8.1 o 5) 24 ∧ ∀ M12 : Mem, M12 = uI M9 (o + 2) ((M8.1 o 5)).toNatClampNeg r10 → ∀ M13 : Mem, M13 = uI M12 o 5 ((M12.1 o 5) + (1 : Int32)) → w_X1_gather_b88 o v1 v3 v4 v5 v6 M13 q P8))))))))
def w_X1_gather_l8 (o : Nat) (v1 : Nat) (v3 : Int32) (v4 : Int32) (v5 : Int32) (q : Mem → Prop) (s : Int32 × Mem) : Prop := lfp (w_X1_gather_l8F o v1 v3 v4 v5 q ) s
set_option maxRecDepth 100000 in
set_option maxHeartbeats 4000000 in
theorem ok_X1_gather_l8 {c : CtxT} {g : Gl} {l : Launch} {o : Nat} {v1 : Nat} {v3 : Int32} {v4 : Int32} {v5 : Int32} {q : Mem → Prop} {s : Int32 × Mem} (C : Cx c cX1_gather 7 RX1 g l (Rm 4 70)) (r : Rt c (none) (pV q) 0 0) (ho : sh o = .inl 1) (hv1 : sh v1 = .inl 8) (hw : w_X1_gather_l8 o v1 v3 v4 v5 q s) : X c S0 8 [(0, .ref (g.2.2.2 + o)), (1, .ref (g.2.2.2 + v1)), (3, .int v3), (4, .int v4), (5, .int v5), (6, .int s.1)] [] (stat s.2) := hw (fun s => X c S0 8 [(0, .ref (g.2.2.2 + o)), (1, .ref (g.2.2.2 + v1)), (3, .int v3), (4, .int v4), (5, .int v5), (6, .int s.1)] [] (stat s.2)) (fun s hw => by
    obtain ⟨v6, M⟩ := s
    try dsimp only [w_X1_gather_l8F] at hw
    try dsimp only
    refine x_iload C dX1_gather_8 rfl ?_
    refine x_iload_n C dX1_gather_10 rfl rfl ?_
    refine x_icmp_gt (tgt := 94) C dX1_gather_11 (by decide) (fun h2 => ?_) (fun h2 => ?_)
    · replace hw := hw.1 h2
      exact n_vreturn C r dX1_gather_94 hw
    · replace hw := hw.2 h2
      refine x_aload_n C dX1_gather_14 rfl rfl ?_
      refine n_getI C fl_X1_28 ho (fun _ _ => rfl) dX1_gather_15 ?_
      refine x_bipush (v := (24 : Int32)) C dX1_gather_18 (by decide) ?_
      refine x_icmp_ge (tgt := 94) C dX1_gather_20 (by decide) (fun h3 => ?_) (fun h3 => ?_)
      · replace hw := hw.1 h3
        exact n_vreturn C r dX1_gather_94 hw
      · replace hw := hw.2 h3
        refine x_aload_n C dX1_gather_23 rfl rfl ?_
        refine x_aload_n C dX1_gather_24 rfl rfl ?_
        refine n_getS (dd := 4) C fl_X1_24 ho (fun _ _ => rfl) rfl dX1_gather_25 ?_
        refine x_iload C dX1_gather_28 rfl ?_
        refine x_iload C dX1_gather_30 rfl ?_
        refine x_iload C dX1_gather_32 rfl ?_
        refine x_aload_n C dX1_gather_34 rfl rfl ?_
        refine n_getI C fl_X1_32 hv1 (fun _ _ => rfl) dX1_gather_35 ?_
        refine n_callVV hv1 rfl C (ok_X8_gather hv1 (ss_1_6 ho) hw) mv_X1_37 rfl rfl ⟨Nat.le_of_ble_eq_true rfl, Nat.le_of_ble_eq_true rfl⟩ (Nat.le_of_ble_eq_true rfl) dX1_gather_38 (fun M4 hw => ?_)
        refine x_aload_n C dX1_gather_41 rfl rfl ?_
        refine n_getS (dd := 4) C fl_X1_24 ho (fun _ _ => rfl) rfl dX1_gather_42 ?_
        refine n_getI C fl_X1_41 (ss_1_6 ho) (fun _ _ => rfl) dX1_gather_45 ?_
        refine x_if_le (tgt := 88) C dX1_gather_48 (by decide) (fun h6 => ?_) (fun h6 => ?_)
        · replace hw := hw.1 h6
          exact x_sub [0, 1, 3, 4, 5, 6] rfl (ok_X1_gather_b88 C r ho hv1 (fun _ _ h => h) hw)
        · replace hw := hw.2 h6
          refine x_aload_n C dX1_gather_51 rfl rfl ?_
          refine n_getS (dd := 1) C fl_X1_9 ho (fun _ _ => rfl) rfl dX1_gather_52 ?_
          refine x_aload_n C dX1_gather_55 rfl rfl ?_
          refine n_getI C fl_X1_28 ho (fun _ _ => rfl) dX1_gather_56 ?_
          refine x_iload C dX1_gather_59 rfl ?_
          obtain ⟨h7, hw⟩ := hw
          obtain ⟨M8, eM8⟩ : ∃ z : Mem, z = uI M4 (o + 1) ((M4.1 o 5)).toNatClampNeg v6 := ⟨_, rfl⟩
          replace hw := hw M8 eM8
          refine a_iast C (ss_1_2 ho) (sl_1_2 ho) rfl h7 eM8 dX1_gather_61 ?_
          refine x_aload_n C dX1_gather_62 rfl rfl ?_
          refine n_getS (dd := 2) C fl_X1_15 ho (fun _ _ => rfl) rfl dX1_gather_63 ?_
          refine x_aload_n C dX1_gather_66 rfl rfl ?_
          refine n_getI C fl_X1_28 ho (fun _ _ => rfl) dX1_gather_67 ?_
          refine x_aload_n C dX1_gather_70 rfl rfl ?_
          refine n_getS (dd := 4) C fl_X1_24 ho (fun _ _ => rfl) rfl dX1_gather_71 ?_
          refine n_callVI (ss_1_6 ho) rfl C (ok_X0_middle (ss_1_6 ho) hw) mv_X1_42 rfl rfl ⟨Nat.le_of_ble_eq_true rfl, Nat.le_of_ble_eq_true rfl⟩ (Nat.le_of_ble_eq_true rfl) dX1_gather_74 (fun r10 M9 hw => ?_)
          obtain ⟨h11, hw⟩ := hw
          obtain ⟨M12, eM12⟩ : ∃ z : Mem, z = uI M9 (o + 2) ((M8.1 o 5)).toNatClampNeg r10 := ⟨_, rfl⟩
          replace hw := hw M12 eM12
          refine a_iast C (ss_1_3 ho) (sl_1_3 ho) rfl h11 eM12 dX1_gather_77 ?_
          refine x_aload_n C dX1_gather_78 rfl rfl ?_
          refine x_dup C dX1_gather_79 rfl ?_
          refine n_getI C fl_X1_28 ho (fun _ _ => rfl) dX1_gather_80 ?_
          refine x_iconst (v := (1 : Int32)) C dX1_gather_83 (by decide) ?_
          refine x_iadd C dX1_gather_84 ?_
          obtain ⟨M13, eM13⟩ : ∃ z : Mem, z = uI M12 o 5 ((M12.1 o 5) + (1 : Int32)) := ⟨_, rfl⟩
          replace hw := hw M13 eM13
          refine m_putI C fp_X1_28 ho (fun _ _ => rfl) rfl rfl eM13 dX1_gather_85 ?_
          exact x_sub [0, 1, 3, 4, 5, 6] rfl (ok_X1_gather_b88 C r ho hv1 (fun _ _ h => h) hw))
def w_X1_gather (o : Nat) (v1 : Nat) (v2 : Int32) (v3 : Int32) (v4 : Int32) (v5 : Int32) (M : Mem) (q : Mem → Prop) : Prop := ∀ M14 : Mem, M14 = uI M o 5 (0 : Int32) → w_X1_gather_l8 o v1 v3 v4 v5 q (v2, M14)
set_option maxRecDepth 100000 in
set_option maxHeartbeats 4000000 in
theorem ok_X1_gather {g : Gl} {l : Launch} {o : Nat} {v1 : Nat} {v2 : Int32} {v3 : Int32} {v4 : Int32} {v5 : Int32} {M : Mem} {q : Mem → Prop} (ho : sh o = .inl 1) (hv1 : sh v1 = .inl 8) (hw : w_X1_gather o v1 v2 v3 v4 v5 M q) : CtV g l yX1_gather cX1_gather 7 none 4 70 [.ref (g.2.2.2 + o), .ref (g.2.2.2 + v1), .int v2, .int v3, .int v4, .int v5] M q := by
  refine n_introV (by decide +kernel) (Nat.le_of_ble_eq_true rfl) (fun c C r => ?_)
  have C : Cx c cX1_gather 7 RX1 g l (Rm 4 70) := C
  refine x_sub [0, 1, 2, 3, 4, 5] (lv' := [(0, .ref (g.2.2.2 + o)), (1, .ref (g.2.2.2 + v1)), (2, .int v2), (3, .int v3), (4, .int v4), (5, .int v5)]) rfl ?_
  unfold w_X1_gather at hw
  refine x_aload_n C dX1_gather_0 rfl rfl ?_
  refine x_iconst (v := (0 : Int32)) C dX1_gather_1 (by decide) ?_
  obtain ⟨M14, eM14⟩ : ∃ z : Mem, z = uI M o 5 (0 : Int32) := ⟨_, rfl⟩
  replace hw := hw M14 eM14
  refine m_putI C fp_X1_28 ho (fun _ _ => rfl) rfl rfl eM14 dX1_gather_2 ?_
  refine x_iload_n C dX1_gather_5 rfl rfl ?_
  refine x_istore C dX1_gather_6 (Nat.le_of_ble_eq_true rfl) ?_
  exact x_sub [0, 1, 3, 4, 5, 6] rfl (ok_X1_gather_l8 C r ho hv1 hw)

def w_X1_farness_l38F (o : Nat) (v2 : Int32) (q : Int32 → Mem → Prop) (P38 : Int32 × Int32 × Mem → Prop) (s : Int32 × Int32 × Mem) : Prop := match s with
  | (v3, v4, M) => ((v2 ≤ v4 → q v3 M) ∧ (¬ v2 ≤ v4 → vp_in v4 24 ∧ w_X0_middle (o + 4) M (fun (r4 : Int32) (M3 : Mem) => ∀ x5 : Int32, x5 = (v3 + (iabs ((M.1 (o + 2) (v4).toNatClampNeg) - r4))) → ∀ x6 : Int32, x6 = v4 + (1 : Int32) → P38 (x5, x6, M3))))
def w_X1_farness_l38 (o : Nat) (v2 : Int32) (q : Int32 → Mem → Prop) (s : Int32 × Int32 × Mem) : Prop := lfp (w_X1_farness_l38F o v2 q ) s
set_option maxRecDepth 100000 in
set_option maxHeartbeats 4000000 in
theorem ok_X1_farness_l38 {c : CtxT} {g : Gl} {l : Launch} {o : Nat} {v2 : Int32} {q : Int32 → Mem → Prop} {s : Int32 × Int32 × Mem} (C : Cx c cX1_farness 5 RX1 g l (Rm 2 24)) (r : Rt c (some .int) (pI q) 0 0) (ho : sh o = .inl 1) (hw : w_X1_farness_l38 o v2 q s) : X c S0 38 [(0, .ref (g.2.2.2 + o)), (2, .int v2), (3, .int s.1), (4, .int s.2.1)] [] (stat s.2.2) := hw (fun s => X c S0 38 [(0, .ref (g.2.2.2 + o)), (2, .int v2), (3, .int s.1), (4, .int s.2.1)] [] (stat s.2.2)) (fun s hw => by
    obtain ⟨v3, v4, M⟩ := s
    try dsimp only [w_X1_farness_l38F] at hw
    try dsimp only
    refine x_iload C dX1_farness_38 rfl ?_
    refine x_iload_n C dX1_farness_40 rfl rfl ?_
    refine x_icmp_ge (tgt := 71) C dX1_farness_41 (by decide) (fun h1 => ?_) (fun h1 => ?_)
    · replace hw := hw.1 h1
      refine x_iload_n C dX1_farness_71 rfl rfl ?_
      exact n_ireturn C r dX1_farness_72 hw
    · replace hw := hw.2 h1
      refine x_iload_n C dX1_farness_44 rfl rfl ?_
      refine x_aload_n C dX1_farness_45 rfl rfl ?_
      refine n_getS (dd := 2) C fl_X1_15 ho (fun _ _ => rfl) rfl dX1_farness_46 ?_
      refine x_iload C dX1_farness_49 rfl ?_
      obtain ⟨h2, hw⟩ := hw
      refine a_iald C (ss_1_3 ho) (sl_1_3 ho) h2 dX1_farness_51 ?_
      refine x_aload_n C dX1_farness_52 rfl rfl ?_
      refine n_getS (dd := 4) C fl_X1_24 ho (fun _ _ => rfl) rfl dX1_farness_53 ?_
      refine n_callVI (ss_1_6 ho) rfl C (ok_X0_middle (ss_1_6 ho) hw) mv_X1_42 rfl rfl ⟨Nat.le_of_ble_eq_true rfl, Nat.le_of_ble_eq_true rfl⟩ (Nat.le_of_ble_eq_true rfl) dX1_farness_56 (fun r4 M3 hw => ?_)
      refine x_isub C dX1_farness_59 ?_
      refine x_mabs C ms_X1_63 (Nat.le_of_ble_eq_true rfl) (Nat.le_of_ble_eq_true rfl) (Nat.le_of_ble_eq_true rfl) dX1_farness_60 ?_
      refine x_iadd C dX1_farness_63 ?_
      obtain ⟨x5, ex5⟩ : ∃ z : Int32, z = (v3 + (iabs ((M.1 (o + 2) (v4).toNatClampNeg) - r4))) := ⟨_, rfl⟩
      replace hw := hw x5 ex5
      refine x_topi ex5 ?_
      refine x_istore_n C dX1_farness_64 rfl (Nat.le_of_ble_eq_true rfl) ?_
      obtain ⟨x6, ex6⟩ : ∃ z : Int32, z = v4 + (1 : Int32) := ⟨_, rfl⟩
      replace hw := hw x6 ex6
      refine x_iinc (v := x6) C dX1_farness_65 rfl ex6.symm (Nat.le_of_ble_eq_true rfl) ?_
      refine x_goto (tgt := 38) C dX1_farness_68 (by decide) ?_
      exact x_sub [0, 2, 3, 4] rfl hw)
def w_X1_farness_l9F (o : Nat) (v1 : Int32) (v2 : Int32) (q : Int32 → Mem → Prop) (P9 : Int32 × Mem → Prop) (s : Int32 × Mem) : Prop := match s with
  | (v3, M) => ((v2 ≤ v3 → w_X1_farness_l38 o v2 q ((0 : Int32), v1, M)) ∧ (¬ v2 ≤ v3 → vp_in v3 24 ∧ w_X0_add (o + 4) (M.1 (o + 2) (v3).toNatClampNeg) M (fun (M9 : Mem) => ∀ x11 : Int32, x11 = v3 + (1 : Int32) → P9 (x11, M9))))
def w_X1_farness_l9 (o : Nat) (v1 : Int32) (v2 : Int32) (q : Int32 → Mem → Prop) (s : Int32 × Mem) : Prop := lfp (w_X1_farness_l9F o v1 v2 q ) s
set_option maxRecDepth 100000 in
set_option maxHeartbeats 4000000 in
theorem ok_X1_farness_l9 {c : CtxT} {g : Gl} {l : Launch} {o : Nat} {v1 : Int32} {v2 : Int32} {q : Int32 → Mem → Prop} {s : Int32 × Mem} (C : Cx c cX1_farness 5 RX1 g l (Rm 2 24)) (r : Rt c (some .int) (pI q) 0 0) (ho : sh o = .inl 1) (hw : w_X1_farness_l9 o v1 v2 q s) : X c S0 9 [(0, .ref (g.2.2.2 + o)), (1, .int v1), (2, .int v2), (3, .int s.1)] [] (stat s.2) := hw (fun s => X c S0 9 [(0, .ref (g.2.2.2 + o)), (1, .int v1), (2, .int v2), (3, .int s.1)] [] (stat s.2)) (fun s hw => by
    obtain ⟨v3, M⟩ := s
    try dsimp only [w_X1_farness_l9F] at hw
    try dsimp only
    refine x_iload_n C dX1_farness_9 rfl rfl ?_
    refine x_iload_n C dX1_farness_10 rfl rfl ?_
    refine x_icmp_ge (tgt := 33) C dX1_farness_11 (by decide) (fun h7 => ?_) (fun h7 => ?_)
    · replace hw := hw.1 h7
      refine x_iconst (v := (0 : Int32)) C dX1_farness_33 (by decide) ?_
      refine x_istore_n C dX1_farness_34 rfl (Nat.le_of_ble_eq_true rfl) ?_
      refine x_iload_n C dX1_farness_35 rfl rfl ?_
      refine x_istore C dX1_farness_36 (Nat.le_of_ble_eq_true rfl) ?_
      exact x_sub [0, 2, 3, 4] rfl (ok_X1_farness_l38 C r ho hw)
    · replace hw := hw.2 h7
      refine x_aload_n C dX1_farness_14 rfl rfl ?_
      refine n_getS (dd := 4) C fl_X1_24 ho (fun _ _ => rfl) rfl dX1_farness_15 ?_
      refine x_aload_n C dX1_farness_18 rfl rfl ?_
      refine n_getS (dd := 2) C fl_X1_15 ho (fun _ _ => rfl) rfl dX1_farness_19 ?_
      refine x_iload_n C dX1_farness_22 rfl rfl ?_
      obtain ⟨h8, hw⟩ := hw
      refine a_iald C (ss_1_3 ho) (sl_1_3 ho) h8 dX1_farness_23 ?_
      refine n_callVV (ss_1_6 ho) rfl C (ok_X0_add (ss_1_6 ho) hw) mv_X1_59 rfl rfl ⟨Nat.le_of_ble_eq_true rfl, Nat.le_of_ble_eq_true rfl⟩ (Nat.le_of_ble_eq_true rfl) dX1_farness_24 (fun M9 hw => ?_)
      obtain ⟨x11, ex11⟩ : ∃ z : Int32, z = v3 + (1 : Int32) := ⟨_, rfl⟩
      replace hw := hw x11 ex11
      refine x_iinc (v := x11) C dX1_farness_27 rfl ex11.symm (Nat.le_of_ble_eq_true rfl) ?_
      refine x_goto (tgt := 9) C dX1_farness_30 (by decide) ?_
      exact x_sub [0, 1, 2, 3] rfl hw)
def w_X1_farness (o : Nat) (v1 : Int32) (v2 : Int32) (M : Mem) (q : Int32 → Mem → Prop) : Prop := w_X0_clear (o + 4) M (fun (M12 : Mem) => w_X1_farness_l9 o v1 v2 q (v1, M12))
set_option maxRecDepth 100000 in
set_option maxHeartbeats 4000000 in
theorem ok_X1_farness {g : Gl} {l : Launch} {o : Nat} {v1 : Int32} {v2 : Int32} {M : Mem} {q : Int32 → Mem → Prop} (ho : sh o = .inl 1) (hw : w_X1_farness o v1 v2 M q) : CtI g l yX1_farness cX1_farness 5 (some .int) 2 24 [.ref (g.2.2.2 + o), .int v1, .int v2] M q := by
  refine n_introI (by decide +kernel) (Nat.le_of_ble_eq_true rfl) (fun c C r => ?_)
  have C : Cx c cX1_farness 5 RX1 g l (Rm 2 24) := C
  refine x_sub [0, 1, 2] (lv' := [(0, .ref (g.2.2.2 + o)), (1, .int v1), (2, .int v2)]) rfl ?_
  unfold w_X1_farness at hw
  refine x_aload_n C dX1_farness_0 rfl rfl ?_
  refine n_getS (dd := 4) C fl_X1_24 ho (fun _ _ => rfl) rfl dX1_farness_1 ?_
  refine n_callVV (ss_1_6 ho) rfl C (ok_X0_clear (ss_1_6 ho) hw) mv_X1_56 rfl rfl ⟨Nat.le_of_ble_eq_true rfl, Nat.le_of_ble_eq_true rfl⟩ (Nat.le_of_ble_eq_true rfl) dX1_farness_4 (fun M12 hw => ?_)
  refine x_iload_n C dX1_farness_7 rfl rfl ?_
  refine x_istore_n C dX1_farness_8 rfl (Nat.le_of_ble_eq_true rfl) ?_
  exact x_sub [0, 1, 2, 3] rfl (ok_X1_farness_l9 C r ho hw)

def w_X1_find_b70 (o : Nat) (v1 : Int32) (M : Mem) (q : Int32 → Mem → Prop) (P2 : Int32 × Mem → Prop) : Prop := ∀ x1 : Int32, x1 = v1 + (1 : Int32) → P2 (x1, M)
set_option maxRecDepth 100000 in
set_option maxHeartbeats 4000000 in
theorem ok_X1_find_b70 {c : CtxT} {g : Gl} {l : Launch} {o : Nat} {v1 : Int32} {q : Int32 → Mem → Prop} {P2 : Int32 × Mem → Prop} {M : Mem} (C : Cx c cX1_find 2 RX1 g l (Rm 3 48)) (r : Rt c (some .boolean) (pI q) 0 0) (ho : sh o = .inl 1) (hP2 : ∀ (v1 : Int32) (M : Mem), P2 (v1, M) → X c S0 2 [(0, .ref (g.2.2.2 + o)), (1, .int v1)] [] (stat M)) (hw : w_X1_find_b70 o v1 M q P2) : X c S0 70 [(0, .ref (g.2.2.2 + o)), (1, .int v1)] [] (stat M) := by
  unfold w_X1_find_b70 at hw
  obtain ⟨x1, ex1⟩ : ∃ z : Int32, z = v1 + (1 : Int32) := ⟨_, rfl⟩
  replace hw := hw x1 ex1
  refine x_iinc (v := x1) C dX1_find_70 rfl ex1.symm (Nat.le_of_ble_eq_true rfl) ?_
  refine x_goto (tgt := 2) C dX1_find_73 (by decide) ?_
  exact x_sub [0, 1] rfl (hP2 _ _ hw)
def w_X1_find_b50 (o : Nat) (v1 : Int32) (M : Mem) (q : Int32 → Mem → Prop) (P2 : Int32 × Mem → Prop) : Prop := vp_in v1 24 ∧ ∀ M3 : Mem, M3 = uI M o 1 (M.1 (o + 3) (v1).toNatClampNeg) → vp_in v1 24 ∧ ∀ M5 : Mem, M5 = uI M3 o 0 (M3.1 (o + 1) (v1).toNatClampNeg) → w_X1_find_b70 o v1 M5 q P2
set_option maxRecDepth 100000 in
set_option maxHeartbeats 4000000 in
theorem ok_X1_find_b50 {c : CtxT} {g : Gl} {l : Launch} {o : Nat} {v1 : Int32} {q : Int32 → Mem → Prop} {P2 : Int32 × Mem → Prop} {M : Mem} (C : Cx c cX1_find 2 RX1 g l (Rm 3 48)) (r : Rt c (some .boolean) (pI q) 0 0) (ho : sh o = .inl 1) (hP2 : ∀ (v1 : Int32) (M : Mem), P2 (v1, M) → X c S0 2 [(0, .ref (g.2.2.2 + o)), (1, .int v1)] [] (stat M)) (hw : w_X1_find_b50 o v1 M q P2) : X c S0 50 [(0, .ref (g.2.2.2 + o)), (1, .int v1)] [] (stat M) := by
  unfold w_X1_find_b50 at hw
  refine x_aload_n C dX1_find_50 rfl rfl ?_
  refine x_aload_n C dX1_find_51 rfl rfl ?_
  refine n_getS (dd := 3) C fl_X1_18 ho (fun _ _ => rfl) rfl dX1_find_52 ?_
  refine x_iload_n C dX1_find_55 rfl rfl ?_
  obtain ⟨h2, hw⟩ := hw
  refine a_iald C (ss_1_4 ho) (sl_1_4 ho) h2 dX1_find_56 ?_
  obtain ⟨M3, eM3⟩ : ∃ z : Mem, z = uI M o 1 (M.1 (o + 3) (v1).toNatClampNeg) := ⟨_, rfl⟩
  replace hw := hw M3 eM3
  refine m_putI C fp_X1_50 ho (fun _ _ => rfl) rfl rfl eM3 dX1_find_57 ?_
  refine x_aload_n C dX1_find_60 rfl rfl ?_
  refine x_aload_n C dX1_find_61 rfl rfl ?_
  refine n_getS (dd := 1) C fl_X1_9 ho (fun _ _ => rfl) rfl dX1_find_62 ?_
  refine x_iload_n C dX1_find_65 rfl rfl ?_
  obtain ⟨h4, hw⟩ := hw
  refine a_iald C (ss_1_2 ho) (sl_1_2 ho) h4 dX1_find_66 ?_
  obtain ⟨M5, eM5⟩ : ∃ z : Mem, z = uI M3 o 0 (M3.1 (o + 1) (v1).toNatClampNeg) := ⟨_, rfl⟩
  replace hw := hw M5 eM5
  refine m_putI C fp_X1_53 ho (fun _ _ => rfl) rfl rfl eM5 dX1_find_67 ?_
  exact x_sub [0, 1] rfl (ok_X1_find_b70 C r ho hP2 hw)
def w_X1_find_l2F (o : Nat) (q : Int32 → Mem → Prop) (P2 : Int32 × Mem → Prop) (s : Int32 × Mem) : Prop := match s with
  | (v1, M) => (((M.1 o 5) ≤ v1 → (((M.1 o 5) < (2 : Int32) → q (0 : Int32) M) ∧ (¬ (M.1 o 5) < (2 : Int32) → q (1 : Int32) M))) ∧ (¬ (M.1 o 5) ≤ v1 → w_X1_farness o (0 : Int32) v1 M (fun (r9 : Int32) (M8 : Mem) => w_X1_farness o v1 (M8.1 o 5) M8 (fun (r11 : Int32) (M10 : Mem) => vp_in v1 24 ∧ ∀ M13 : Mem, M13 = uI M10 (o + 3) (v1).toNatClampNeg (r9 + r11) → ((v1 = (1 : Int32) → w_X1_find_b50 o v1 M13 q P2) ∧ (¬ v1 = (1 : Int32) → vp_in v1 24 ∧ (((M13.1 o 1) ≤ (M13.1 (o + 3) (v1).toNatClampNeg) → w_X1_find_b70 o v1 M13 q P2) ∧ (¬ (M13.1 o 1) ≤ (M13.1 (o + 3) (v1).toNatClampNeg) → w_X1_find_b50 o v1 M13 q P2))))))))
def w_X1_find_l2 (o : Nat) (q : Int32 → Mem → Prop) (s : Int32 × Mem) : Prop := lfp (w_X1_find_l2F o q ) s
set_option maxRecDepth 100000 in
set_option maxHeartbeats 4000000 in
theorem ok_X1_find_l2 {c : CtxT} {g : Gl} {l : Launch} {o : Nat} {q : Int32 → Mem → Prop} {s : Int32 × Mem} (C : Cx c cX1_find 2 RX1 g l (Rm 3 48)) (r : Rt c (some .boolean) (pI q) 0 0) (ho : sh o = .inl 1) (hw : w_X1_find_l2 o q s) : X c S0 2 [(0, .ref (g.2.2.2 + o)), (1, .int s.1)] [] (stat s.2) := hw (fun s => X c S0 2 [(0, .ref (g.2.2.2 + o)), (1, .int s.1)] [] (stat s.2)) (fun s hw => by
    obtain ⟨v1, M⟩ := s
    try dsimp only [w_X1_find_l2F] at hw
    try dsimp only
    refine x_iload_n C dX1_find_2 rfl rfl ?_
    refine x_aload_n C dX1_find_3 rfl rfl ?_
    refine n_getI C fl_X1_28 ho (fun _ _ => rfl) dX1_find_4 ?_
    refine x_icmp_ge (tgt := 76) C dX1_find_7 (by decide) (fun h6 => ?_) (fun h6 => ?_)
    · replace hw := hw.1 h6
      refine x_aload_n C dX1_find_76 rfl rfl ?_
      refine n_getI C fl_X1_28 ho (fun _ _ => rfl) dX1_find_77 ?_
      refine x_iconst (v := (2 : Int32)) C dX1_find_80 (by decide) ?_
      refine x_icmp_lt (tgt := 88) C dX1_find_81 (by decide) (fun h7 => ?_) (fun h7 => ?_)
      · replace hw := hw.1 h7
        refine x_iconst (v := (0 : Int32)) C dX1_find_88 (by decide) ?_
        exact n_zreturn C r dX1_find_89 (Or.inl rfl) hw
      · replace hw := hw.2 h7
        refine x_iconst (v := (1 : Int32)) C dX1_find_84 (by decide) ?_
        refine x_goto (tgt := 89) C dX1_find_85 (by decide) ?_
        exact n_zreturn C r dX1_find_89 (Or.inr rfl) hw
    · replace hw := hw.2 h6
      refine x_aload_n C dX1_find_10 rfl rfl ?_
      refine n_getS (dd := 3) C fl_X1_18 ho (fun _ _ => rfl) rfl dX1_find_11 ?_
      refine x_iload_n C dX1_find_14 rfl rfl ?_
      refine x_aload_n C dX1_find_15 rfl rfl ?_
      refine x_iconst (v := (0 : Int32)) C dX1_find_16 (by decide) ?_
      refine x_iload_n C dX1_find_17 rfl rfl ?_
      refine n_callVI ho rfl C (ok_X1_farness ho hw) mv_X1_46 rfl rfl ⟨Nat.le_of_ble_eq_true rfl, Nat.le_of_ble_eq_true rfl⟩ (Nat.le_of_ble_eq_true rfl) dX1_find_18 (fun r9 M8 hw => ?_)
      refine x_aload_n C dX1_find_21 rfl rfl ?_
      refine x_iload_n C dX1_find_22 rfl rfl ?_
      refine x_aload_n C dX1_find_23 rfl rfl ?_
      refine n_getI C fl_X1_28 ho (fun _ _ => rfl) dX1_find_24 ?_
      refine n_callVI ho rfl C (ok_X1_farness ho hw) mv_X1_46 rfl rfl ⟨Nat.le_of_ble_eq_true rfl, Nat.le_of_ble_eq_true rfl⟩ (Nat.le_of_ble_eq_true rfl) dX1_find_27 (fun r11 M10 hw => ?_)
      refine x_iadd C dX1_find_30 ?_
      obtain ⟨h12, hw⟩ := hw
      obtain ⟨M13, eM13⟩ : ∃ z : Mem, z = uI M10 (o + 3) (v1).toNatClampNeg (r9 + r11) := ⟨_, rfl⟩
      replace hw := hw M13 eM13
      refine a_iast C (ss_1_4 ho) (sl_1_4 ho) rfl h12 eM13 dX1_find_31 ?_
      refine x_iload_n C dX1_find_32 rfl rfl ?_
      refine x_iconst (v := (1 : Int32)) C dX1_find_33 (by decide) ?_
      refine x_icmp_eq (tgt := 50) C dX1_find_34 (by decide) (fun h14 => ?_) (fun h14 => ?_)
      · replace hw := hw.1 h14
        exact x_sub [0, 1] rfl (ok_X1_find_b50 C r ho (fun _ _ h => h) hw)
      · replace hw := hw.2 h14
        refine x_aload_n C dX1_find_37 rfl rfl ?_
        refine n_getS (dd := 3) C fl_X1_18 ho (fun _ _ => rfl) rfl dX1_find_38 ?_
        refine x_iload_n C dX1_find_41 rfl rfl ?_
        obtain ⟨h15, hw⟩ := hw
        refine a_iald C (ss_1_4 ho) (sl_1_4 ho) h15 dX1_find_42 ?_
        refine x_aload_n C dX1_find_43 rfl rfl ?_
        refine n_getI C fl_X1_50 ho (fun _ _ => rfl) dX1_find_44 ?_
        refine x_icmp_ge (tgt := 70) C dX1_find_47 (by decide) (fun h16 => ?_) (fun h16 => ?_)
        · replace hw := hw.1 h16
          exact x_sub [0, 1] rfl (ok_X1_find_b70 C r ho (fun _ _ h => h) hw)
        · replace hw := hw.2 h16
          exact x_sub [0, 1] rfl (ok_X1_find_b50 C r ho (fun _ _ h => h) hw))
def w_X1_find (o : Nat) (M : Mem) (q : Int32 → Mem → Prop) : Prop := w_X1_find_l2 o q ((1 : Int32), M)
set_option maxRecDepth 100000 in
set_option maxHeartbeats 4000000 in
theorem ok_X1_find {g : Gl} {l : Launch} {o : Nat} {M : Mem} {q : Int32 → Mem → Prop} (ho : sh o = .inl 1) (hw : w_X1_find o M q) : CtI g l yX1_find cX1_find 2 (some .boolean) 3 48 [.ref (g.2.2.2 + o)] M q := by
  refine n_introI (by decide +kernel) (Nat.le_of_ble_eq_true rfl) (fun c C r => ?_)
  have C : Cx c cX1_find 2 RX1 g l (Rm 3 48) := C
  refine x_sub [0] (lv' := [(0, .ref (g.2.2.2 + o))]) rfl ?_
  unfold w_X1_find at hw
  refine x_iconst (v := (1 : Int32)) C dX1_find_0 (by decide) ?_
  refine x_istore_n C dX1_find_1 rfl (Nat.le_of_ble_eq_true rfl) ?_
  exact x_sub [0, 1] rfl (ok_X1_find_l2 C r ho hw)

def w_X1_couldBe_b38 (o : Nat) (v1 : Int32) (v2 : Int32) (v3 : Int32) (M : Mem) (q : Int32 → Mem → Prop) (P4 : Int32 × Int32 × Mem → Prop) : Prop := ∀ x1 : Int32, x1 = v3 + (1 : Int32) → P4 (v2, x1, M)
set_option maxRecDepth 100000 in
set_option maxHeartbeats 4000000 in
theorem ok_X1_couldBe_b38 {c : CtxT} {g : Gl} {l : Launch} {o : Nat} {v1 : Int32} {v2 : Int32} {v3 : Int32} {q : Int32 → Mem → Prop} {P4 : Int32 × Int32 × Mem → Prop} {M : Mem} (C : Cx c cX1_couldBe 4 RX1 g l (Rm 1 0)) (r : Rt c (some .int) (pI q) 0 0) (ho : sh o = .inl 1) (hP4 : ∀ (v2 : Int32) (v3 : Int32) (M : Mem), P4 (v2, v3, M) → X c S0 4 [(0, .ref (g.2.2.2 + o)), (1, .int v1), (2, .int v2), (3, .int v3)] [] (stat M)) (hw : w_X1_couldBe_b38 o v1 v2 v3 M q P4) : X c S0 38 [(0, .ref (g.2.2.2 + o)), (1, .int v1), (2, .int v2), (3, .int v3)] [] (stat M) := by
  unfold w_X1_couldBe_b38 at hw
  obtain ⟨x1, ex1⟩ : ∃ z : Int32, z = v3 + (1 : Int32) := ⟨_, rfl⟩
  replace hw := hw x1 ex1
  refine x_iinc (v := x1) C dX1_couldBe_38 rfl ex1.symm (Nat.le_of_ble_eq_true rfl) ?_
  refine x_goto (tgt := 4) C dX1_couldBe_41 (by decide) ?_
  exact x_sub [0, 1, 2, 3] rfl (hP4 _ _ _ hw)
def w_X1_couldBe_l4F (o : Nat) (v1 : Int32) (q : Int32 → Mem → Prop) (P4 : Int32 × Int32 × Mem → Prop) (s : Int32 × Int32 × Mem) : Prop := match s with
  | (v2, v3, M) => (((M.1 o 5) ≤ v3 → q v2 M) ∧ (¬ (M.1 o 5) ≤ v3 → vp_in v3 24 ∧ ((((M.1 o 1) + v1) < (M.1 (o + 3) (v3).toNatClampNeg) → w_X1_couldBe_b38 o v1 v2 v3 M q P4) ∧ (¬ ((M.1 o 1) + v1) < (M.1 (o + 3) (v3).toNatClampNeg) → vp_in v3 24 ∧ ∀ x6 : Int32, x6 = (v2 ||| ((1 : Int32) <<< ((M.1 (o + 1) (v3).toNatClampNeg) &&& 31))) → w_X1_couldBe_b38 o v1 x6 v3 M q P4))))
def w_X1_couldBe_l4 (o : Nat) (v1 : Int32) (q : Int32 → Mem → Prop) (s : Int32 × Int32 × Mem) : Prop := lfp (w_X1_couldBe_l4F o v1 q ) s
set_option maxRecDepth 100000 in
set_option maxHeartbeats 4000000 in
theorem ok_X1_couldBe_l4 {c : CtxT} {g : Gl} {l : Launch} {o : Nat} {v1 : Int32} {q : Int32 → Mem → Prop} {s : Int32 × Int32 × Mem} (C : Cx c cX1_couldBe 4 RX1 g l (Rm 1 0)) (r : Rt c (some .int) (pI q) 0 0) (ho : sh o = .inl 1) (hw : w_X1_couldBe_l4 o v1 q s) : X c S0 4 [(0, .ref (g.2.2.2 + o)), (1, .int v1), (2, .int s.1), (3, .int s.2.1)] [] (stat s.2.2) := hw (fun s => X c S0 4 [(0, .ref (g.2.2.2 + o)), (1, .int v1), (2, .int s.1), (3, .int s.2.1)] [] (stat s.2.2)) (fun s hw => by
    obtain ⟨v2, v3, M⟩ := s
    try dsimp only [w_X1_couldBe_l4F] at hw
    try dsimp only
    refine x_iload_n C dX1_couldBe_4 rfl rfl ?_
    refine x_aload_n C dX1_couldBe_5 rfl rfl ?_
    refine n_getI C fl_X1_28 ho (fun _ _ => rfl) dX1_couldBe_6 ?_
    refine x_icmp_ge (tgt := 44) C dX1_couldBe_9 (by decide) (fun h2 => ?_) (fun h2 => ?_)
    · replace hw := hw.1 h2
      refine x_iload_n C dX1_couldBe_44 rfl rfl ?_
      exact n_ireturn C r dX1_couldBe_45 hw
    · replace hw := hw.2 h2
      refine x_aload_n C dX1_couldBe_12 rfl rfl ?_
      refine n_getS (dd := 3) C fl_X1_18 ho (fun _ _ => rfl) rfl dX1_couldBe_13 ?_
      refine x_iload_n C dX1_couldBe_16 rfl rfl ?_
      obtain ⟨h3, hw⟩ := hw
      refine a_iald C (ss_1_4 ho) (sl_1_4 ho) h3 dX1_couldBe_17 ?_
      refine x_aload_n C dX1_couldBe_18 rfl rfl ?_
      refine n_getI C fl_X1_50 ho (fun _ _ => rfl) dX1_couldBe_19 ?_
      refine x_iload_n C dX1_couldBe_22 rfl rfl ?_
      refine x_iadd C dX1_couldBe_23 ?_
      refine x_icmp_gt (tgt := 38) C dX1_couldBe_24 (by decide) (fun h4 => ?_) (fun h4 => ?_)
      · replace hw := hw.1 h4
        exact x_sub [0, 1, 2, 3] rfl (ok_X1_couldBe_b38 C r ho (fun _ _ _ h => h) hw)
      · replace hw := hw.2 h4
        refine x_iload_n C dX1_couldBe_27 rfl rfl ?_
        refine x_iconst (v := (1 : Int32)) C dX1_couldBe_28 (by decide) ?_
        refine x_aload_n C dX1_couldBe_29 rfl rfl ?_
        refine n_getS (dd := 1) C fl_X1_9 ho (fun _ _ => rfl) rfl dX1_couldBe_30 ?_
        refine x_iload_n C dX1_couldBe_33 rfl rfl ?_
        obtain ⟨h5, hw⟩ := hw
        refine a_iald C (ss_1_2 ho) (sl_1_2 ho) h5 dX1_couldBe_34 ?_
        refine x_ishl C dX1_couldBe_35 ?_
        refine x_ior C dX1_couldBe_36 ?_
        obtain ⟨x6, ex6⟩ : ∃ z : Int32, z = (v2 ||| ((1 : Int32) <<< ((M.1 (o + 1) (v3).toNatClampNeg) &&& 31))) := ⟨_, rfl⟩
        replace hw := hw x6 ex6
        refine x_topi ex6 ?_
        refine x_istore_n C dX1_couldBe_37 rfl (Nat.le_of_ble_eq_true rfl) ?_
        exact x_sub [0, 1, 2, 3] rfl (ok_X1_couldBe_b38 C r ho (fun _ _ _ h => h) hw))
def w_X1_couldBe (o : Nat) (v1 : Int32) (M : Mem) (q : Int32 → Mem → Prop) : Prop := w_X1_couldBe_l4 o v1 q ((0 : Int32), (1 : Int32), M)
set_option maxRecDepth 100000 in
set_option maxHeartbeats 4000000 in
theorem ok_X1_couldBe {g : Gl} {l : Launch} {o : Nat} {v1 : Int32} {M : Mem} {q : Int32 → Mem → Prop} (ho : sh o = .inl 1) (hw : w_X1_couldBe o v1 M q) : CtI g l yX1_couldBe cX1_couldBe 4 (some .int) 1 0 [.ref (g.2.2.2 + o), .int v1] M q := by
  refine n_introI (by decide +kernel) (Nat.le_of_ble_eq_true rfl) (fun c C r => ?_)
  have C : Cx c cX1_couldBe 4 RX1 g l (Rm 1 0) := C
  refine x_sub [0, 1] (lv' := [(0, .ref (g.2.2.2 + o)), (1, .int v1)]) rfl ?_
  unfold w_X1_couldBe at hw
  refine x_iconst (v := (0 : Int32)) C dX1_couldBe_0 (by decide) ?_
  refine x_istore_n C dX1_couldBe_1 rfl (Nat.le_of_ble_eq_true rfl) ?_
  refine x_iconst (v := (1 : Int32)) C dX1_couldBe_2 (by decide) ?_
  refine x_istore_n C dX1_couldBe_3 rfl (Nat.le_of_ble_eq_true rfl) ?_
  exact x_sub [0, 1, 2, 3] rfl (ok_X1_couldBe_l4 C r ho hw)

def w_X2_gatherRuns_b139 (o : Nat) (v1 : Nat) (v2 : Int32) (v3 : Int32) (M : Mem) (q : Mem → Prop) (P7 : Int32 × Mem → Prop) : Prop := ∀ x1 : Int32, x1 = v3 + (1 : Int32) → P7 (x1, M)
set_option maxRecDepth 100000 in
set_option maxHeartbeats 4000000 in
theorem ok_X2_gatherRuns_b139 {c : CtxT} {g : Gl} {l : Launch} {o : Nat} {v1 : Nat} {v2 : Int32} {v3 : Int32} {q : Mem → Prop} {P7 : Int32 × Mem → Prop} {M : Mem} (C : Cx c cX2_gatherRuns 4 RX2 g l (Rm 3 44)) (r : Rt c (none) (pV q) 0 0) (ho : sh o = .inl 2) (hv1 : sh v1 = .inl 8) (hP7 : ∀ (v3 : Int32) (M : Mem), P7 (v3, M) → X c S0 7 [(0, .ref (g.2.2.2 + o)), (1, .ref (g.2.2.2 + v1)), (2, .int v2), (3, .int v3)] [] (stat M)) (hw : w_X2_gatherRuns_b139 o v1 v2 v3 M q P7) : X c S0 139 [(0, .ref (g.2.2.2 + o)), (1, .ref (g.2.2.2 + v1)), (2, .int v2), (3, .int v3)] [] (stat M) := by
  unfold w_X2_gatherRuns_b139 at hw
  obtain ⟨x1, ex1⟩ : ∃ z : Int32, z = v3 + (1 : Int32) := ⟨_, rfl⟩
  replace hw := hw x1 ex1
  refine x_iinc (v := x1) C dX2_gatherRuns_139 rfl ex1.symm (Nat.le_of_ble_eq_true rfl) ?_
  refine x_goto (tgt := 7) C dX2_gatherRuns_142 (by decide) ?_
  exact x_sub [0, 1, 2, 3] rfl (hP7 _ _ hw)
def w_X2_gatherRuns_l7F (o : Nat) (v1 : Nat) (v2 : Int32) (q : Mem → Prop) (P7 : Int32 × Mem → Prop) (s : Int32 × Mem) : Prop := match s with
  | (v3, M) => (((M.1 v1 4) ≤ v3 → q M) ∧ (¬ (M.1 v1 4) ≤ v3 → (((200 : Int32) ≤ (M.1 o 8) → q M) ∧ (¬ (200 : Int32) ≤ (M.1 o 8) → w_X8_isTimedOn v1 v3 v2 M (fun (r5 : Int32) (M4 : Mem) => ((r5 = 0 → w_X2_gatherRuns_b139 o v1 v2 v3 M4 q P7) ∧ (¬ r5 = 0 → w_X8_told v1 v3 (13 : Int32) M4 (fun (r8 : Int32) (M7 : Mem) => ((¬ r8 = 0 → w_X2_gatherRuns_b139 o v1 v2 v3 M7 q P7) ∧ (r8 = 0 → vp_in (M7.1 o 8) 200 ∧ ∀ M11 : Mem, M11 = uI M7 (o + 3) ((M7.1 o 8)).toNatClampNeg v3 → w_X8_told v1 v3 (M11.1 (o + 2) 0) M11 (fun (r13 : Int32) (M12 : Mem) => vp_in (M11.1 o 8) 200 ∧ ∀ M15 : Mem, M15 = uI M12 (o + 4) ((M11.1 o 8)).toNatClampNeg r13 → w_X8_told v1 v3 (M15.1 (o + 2) 1) M15 (fun (r17 : Int32) (M16 : Mem) => vp_in (M15.1 o 8) 200 ∧ ∀ M19 : Mem, M19 = uI M16 (o + 5) ((M15.1 o 8)).toNatClampNeg r17 → w_X8_told v1 v3 (M19.1 (o + 2) 2) M19 (fun (r21 : Int32) (M20 : Mem) => vp_in (M19.1 o 8) 200 ∧ ∀ M23 : Mem, M23 = uI M20 (o + 6) ((M19.1 o 8)).toNatClampNeg r21 → w_X8_told v1 v3 (5 : Int32) M23 (fun (r25 : Int32) (M24 : Mem) => vp_in (M23.1 o 8) 200 ∧ ∀ M27 : Mem, M27 = uI M24 (o + 7) ((M23.1 o 8)).toNatClampNeg r25 → ∀ M28 : Mem, M28 = uI M27 o 8 ((M27.1 o 8) + (1 : Int32)) → w_X2_gatherRuns_b139 o v1 v2 v3 M28 q P7))))))))))))))
def w_X2_gatherRuns_l7 (o : Nat) (v1 : Nat) (v2 : Int32) (q : Mem → Prop) (s : Int32 × Mem) : Prop := lfp (w_X2_gatherRuns_l7F o v1 v2 q ) s
set_option maxRecDepth 100000 in
set_option maxHeartbeats 4000000 in
theorem ok_X2_gatherRuns_l7 {c : CtxT} {g : Gl} {l : Launch} {o : Nat} {v1 : Nat} {v2 : Int32} {q : Mem → Prop} {s : Int32 × Mem} (C : Cx c cX2_gatherRuns 4 RX2 g l (Rm 3 44)) (r : Rt c (none) (pV q) 0 0) (ho : sh o = .inl 2) (hv1 : sh v1 = .inl 8) (hw : w_X2_gatherRuns_l7 o v1 v2 q s) : X c S0 7 [(0, .ref (g.2.2.2 + o)), (1, .ref (g.2.2.2 + v1)), (2, .int v2), (3, .int s.1)] [] (stat s.2) := hw (fun s => X c S0 7 [(0, .ref (g.2.2.2 + o)), (1, .ref (g.2.2.2 + v1)), (2, .int v2), (3, .int s.1)] [] (stat s.2)) (fun s hw => by
    obtain ⟨v3, M⟩ := s
    try dsimp only [w_X2_gatherRuns_l7F] at hw
    try dsimp only
    refine x_iload_n C dX2_gatherRuns_7 rfl rfl ?_
    refine x_aload_n C dX2_gatherRuns_8 rfl rfl ?_
    refine n_getI C fl_X2_70 hv1 (fun _ _ => rfl) dX2_gatherRuns_9 ?_
    refine x_icmp_ge (tgt := 145) C dX2_gatherRuns_12 (by decide) (fun h2 => ?_) (fun h2 => ?_)
    · replace hw := hw.1 h2
      exact n_vreturn C r dX2_gatherRuns_145 hw
    · replace hw := hw.2 h2
      refine x_aload_n C dX2_gatherRuns_15 rfl rfl ?_
      refine n_getI C fl_X2_51 ho (fun _ _ => rfl) dX2_gatherRuns_16 ?_
      refine x_sipush (v := (200 : Int32)) C dX2_gatherRuns_19 (by decide) ?_
      refine x_icmp_ge (tgt := 145) C dX2_gatherRuns_22 (by decide) (fun h3 => ?_) (fun h3 => ?_)
      · replace hw := hw.1 h3
        exact n_vreturn C r dX2_gatherRuns_145 hw
      · replace hw := hw.2 h3
        refine x_aload_n C dX2_gatherRuns_25 rfl rfl ?_
        refine x_iload_n C dX2_gatherRuns_26 rfl rfl ?_
        refine x_iload_n C dX2_gatherRuns_27 rfl rfl ?_
        refine n_callVI hv1 rfl C (ok_X8_isTimedOn hv1 hw) mv_X2_74 rfl rfl ⟨Nat.le_of_ble_eq_true rfl, Nat.le_of_ble_eq_true rfl⟩ (Nat.le_of_ble_eq_true rfl) dX2_gatherRuns_28 (fun r5 M4 hw => ?_)
        refine x_if_eq (tgt := 139) C dX2_gatherRuns_31 (by decide) (fun h6 => ?_) (fun h6 => ?_)
        · replace hw := hw.1 h6
          exact x_sub [0, 1, 2, 3] rfl (ok_X2_gatherRuns_b139 C r ho hv1 (fun _ _ h => h) hw)
        · replace hw := hw.2 h6
          refine x_aload_n C dX2_gatherRuns_34 rfl rfl ?_
          refine x_iload_n C dX2_gatherRuns_35 rfl rfl ?_
          refine x_bipush (v := (13 : Int32)) C dX2_gatherRuns_36 (by decide) ?_
          refine n_callVI hv1 rfl C (ok_X8_told hv1 hw) mv_X2_78 rfl rfl ⟨Nat.le_of_ble_eq_true rfl, Nat.le_of_ble_eq_true rfl⟩ (Nat.le_of_ble_eq_true rfl) dX2_gatherRuns_38 (fun r8 M7 hw => ?_)
          refine x_if_ne (tgt := 139) C dX2_gatherRuns_41 (by decide) (fun h9 => ?_) (fun h9 => ?_)
          · replace hw := hw.1 h9
            exact x_sub [0, 1, 2, 3] rfl (ok_X2_gatherRuns_b139 C r ho hv1 (fun _ _ h => h) hw)
          · replace hw := hw.2 h9
            refine x_aload_n C dX2_gatherRuns_44 rfl rfl ?_
            refine n_getS (dd := 3) C fl_X2_18 ho (fun _ _ => rfl) rfl dX2_gatherRuns_45 ?_
            refine x_aload_n C dX2_gatherRuns_48 rfl rfl ?_
            refine n_getI C fl_X2_51 ho (fun _ _ => rfl) dX2_gatherRuns_49 ?_
            refine x_iload_n C dX2_gatherRuns_52 rfl rfl ?_
            obtain ⟨h10, hw⟩ := hw
            obtain ⟨M11, eM11⟩ : ∃ z : Mem, z = uI M7 (o + 3) ((M7.1 o 8)).toNatClampNeg v3 := ⟨_, rfl⟩
            replace hw := hw M11 eM11
            refine a_iast C (ss_2_3 ho) (sl_2_3 ho) rfl h10 eM11 dX2_gatherRuns_53 ?_
            refine x_aload_n C dX2_gatherRuns_54 rfl rfl ?_
            refine n_getS (dd := 4) C fl_X2_21 ho (fun _ _ => rfl) rfl dX2_gatherRuns_55 ?_
            refine x_aload_n C dX2_gatherRuns_58 rfl rfl ?_
            refine n_getI C fl_X2_51 ho (fun _ _ => rfl) dX2_gatherRuns_59 ?_
            refine x_aload_n C dX2_gatherRuns_62 rfl rfl ?_
            refine x_iload_n C dX2_gatherRuns_63 rfl rfl ?_
            refine x_aload_n C dX2_gatherRuns_64 rfl rfl ?_
            refine n_getS (dd := 2) C fl_X2_15 ho (fun _ _ => rfl) rfl dX2_gatherRuns_65 ?_
            refine x_iconst (v := (0 : Int32)) C dX2_gatherRuns_68 (by decide) ?_
            refine a_ialdL (ni := 0) C (ss_2_2 ho) (sl_2_2 ho) (by decide) (vin _ _ (by decide +kernel)) dX2_gatherRuns_69 ?_
            refine n_callVI hv1 rfl C (ok_X8_told hv1 hw) mv_X2_78 rfl rfl ⟨Nat.le_of_ble_eq_true rfl, Nat.le_of_ble_eq_true rfl⟩ (Nat.le_of_ble_eq_true rfl) dX2_gatherRuns_70 (fun r13 M12 hw => ?_)
            obtain ⟨h14, hw⟩ := hw
            obtain ⟨M15, eM15⟩ : ∃ z : Mem, z = uI M12 (o + 4) ((M11.1 o 8)).toNatClampNeg r13 := ⟨_, rfl⟩
            replace hw := hw M15 eM15
            refine a_iast C (ss_2_4 ho) (sl_2_4 ho) rfl h14 eM15 dX2_gatherRuns_73 ?_
            refine x_aload_n C dX2_gatherRuns_74 rfl rfl ?_
            refine n_getS (dd := 5) C fl_X2_24 ho (fun _ _ => rfl) rfl dX2_gatherRuns_75 ?_
            refine x_aload_n C dX2_gatherRuns_78 rfl rfl ?_
            refine n_getI C fl_X2_51 ho (fun _ _ => rfl) dX2_gatherRuns_79 ?_
            refine x_aload_n C dX2_gatherRuns_82 rfl rfl ?_
            refine x_iload_n C dX2_gatherRuns_83 rfl rfl ?_
            refine x_aload_n C dX2_gatherRuns_84 rfl rfl ?_
            refine n_getS (dd := 2) C fl_X2_15 ho (fun _ _ => rfl) rfl dX2_gatherRuns_85 ?_
            refine x_iconst (v := (1 : Int32)) C dX2_gatherRuns_88 (by decide) ?_
            refine a_ialdL (ni := 1) C (ss_2_2 ho) (sl_2_2 ho) (by decide) (vin _ _ (by decide +kernel)) dX2_gatherRuns_89 ?_
            refine n_callVI hv1 rfl C (ok_X8_told hv1 hw) mv_X2_78 rfl rfl ⟨Nat.le_of_ble_eq_true rfl, Nat.le_of_ble_eq_true rfl⟩ (Nat.le_of_ble_eq_true rfl) dX2_gatherRuns_90 (fun r17 M16 hw => ?_)
            obtain ⟨h18, hw⟩ := hw
            obtain ⟨M19, eM19⟩ : ∃ z : Mem, z = uI M16 (o + 5) ((M15.1 o 8)).toNatClampNeg r17 := ⟨_, rfl⟩
            replace hw := hw M19 eM19
            refine a_iast C (ss_2_5 ho) (sl_2_5 ho) rfl h18 eM19 dX2_gatherRuns_93 ?_
            refine x_aload_n C dX2_gatherRuns_94 rfl rfl ?_
            refine n_getS (dd := 6) C fl_X2_27 ho (fun _ _ => rfl) rfl dX2_gatherRuns_95 ?_
            refine x_aload_n C dX2_gatherRuns_98 rfl rfl ?_
            refine n_getI C fl_X2_51 ho (fun _ _ => rfl) dX2_gatherRuns_99 ?_
            refine x_aload_n C dX2_gatherRuns_102 rfl rfl ?_
            refine x_iload_n C dX2_gatherRuns_103 rfl rfl ?_
            refine x_aload_n C dX2_gatherRuns_104 rfl rfl ?_
            refine n_getS (dd := 2) C fl_X2_15 ho (fun _ _ => rfl) rfl dX2_gatherRuns_105 ?_
            refine x_iconst (v := (2 : Int32)) C dX2_gatherRuns_108 (by decide) ?_
            refine a_ialdL (ni := 2) C (ss_2_2 ho) (sl_2_2 ho) (by decide) (vin _ _ (by decide +kernel)) dX2_gatherRuns_109 ?_
            refine n_callVI hv1 rfl C (ok_X8_told hv1 hw) mv_X2_78 rfl rfl ⟨Nat.le_of_ble_eq_true rfl, Nat.le_of_ble_eq_true rfl⟩ (Nat.le_of_ble_eq_true rfl) dX2_gatherRuns_110 (fun r21 M20 hw => ?_)
            obtain ⟨h22, hw⟩ := hw
            obtain ⟨M23, eM23⟩ : ∃ z : Mem, z = uI M20 (o + 6) ((M19.1 o 8)).toNatClampNeg r21 := ⟨_, rfl⟩
            replace hw := hw M23 eM23
            refine a_iast C (ss_2_6 ho) (sl_2_6 ho) rfl h22 eM23 dX2_gatherRuns_113 ?_
            refine x_aload_n C dX2_gatherRuns_114 rfl rfl ?_
            refine n_getS (dd := 7) C fl_X2_30 ho (fun _ _ => rfl) rfl dX2_gatherRuns_115 ?_
            refine x_aload_n C dX2_gatherRuns_118 rfl rfl ?_
            refine n_getI C fl_X2_51 ho (fun _ _ => rfl) dX2_gatherRuns_119 ?_
            refine x_aload_n C dX2_gatherRuns_122 rfl rfl ?_
            refine x_iload_n C dX2_gatherRuns_123 rfl rfl ?_
            refine x_iconst (v := (5 : Int32)) C dX2_gatherRuns_124 (by decide) ?_
            refine n_callVI hv1 rfl C (ok_X8_told hv1 hw) mv_X2_78 rfl rfl ⟨Nat.le_of_ble_eq_true rfl, Nat.le_of_ble_eq_true rfl⟩ (Nat.le_of_ble_eq_true rfl) dX2_gatherRuns_125 (fun r25 M24 hw => ?_)
            obtain ⟨h26, hw⟩ := hw
            obtain ⟨M27, eM27⟩ : ∃ z : Mem, z = uI M24 (o + 7) ((M23.1 o 8)).toNatClampNeg r25 := ⟨_, rfl⟩
            replace hw := hw M27 eM27
            refine a_iast C (ss_2_7 ho) (sl_2_7 ho) rfl h26 eM27 dX2_gatherRuns_128 ?_
            refine x_aload_n C dX2_gatherRuns_129 rfl rfl ?_
            refine x_dup C dX2_gatherRuns_130 rfl ?_
            refine n_getI C fl_X2_51 ho (fun _ _ => rfl) dX2_gatherRuns_131 ?_
            refine x_iconst (v := (1 : Int32)) C dX2_gatherRuns_134 (by decide) ?_
            refine x_iadd C dX2_gatherRuns_135 ?_
            obtain ⟨M28, eM28⟩ : ∃ z : Mem, z = uI M27 o 8 ((M27.1 o 8) + (1 : Int32)) := ⟨_, rfl⟩
            replace hw := hw M28 eM28
            refine m_putI C fp_X2_51 ho (fun _ _ => rfl) rfl rfl eM28 dX2_gatherRuns_136 ?_
            exact x_sub [0, 1, 2, 3] rfl (ok_X2_gatherRuns_b139 C r ho hv1 (fun _ _ h => h) hw))
def w_X2_gatherRuns (o : Nat) (v1 : Nat) (v2 : Int32) (M : Mem) (q : Mem → Prop) : Prop := ∀ M29 : Mem, M29 = uI M o 8 (0 : Int32) → w_X2_gatherRuns_l7 o v1 v2 q ((0 : Int32), M29)
set_option maxRecDepth 100000 in
set_option maxHeartbeats 4000000 in
theorem ok_X2_gatherRuns {g : Gl} {l : Launch} {o : Nat} {v1 : Nat} {v2 : Int32} {M : Mem} {q : Mem → Prop} (ho : sh o = .inl 2) (hv1 : sh v1 = .inl 8) (hw : w_X2_gatherRuns o v1 v2 M q) : CtV g l yX2_gatherRuns cX2_gatherRuns 4 none 3 44 [.ref (g.2.2.2 + o), .ref (g.2.2.2 + v1), .int v2] M q := by
  refine n_introV (by decide +kernel) (Nat.le_of_ble_eq_true rfl) (fun c C r => ?_)
  have C : Cx c cX2_gatherRuns 4 RX2 g l (Rm 3 44) := C
  refine x_sub [0, 1, 2] (lv' := [(0, .ref (g.2.2.2 + o)), (1, .ref (g.2.2.2 + v1)), (2, .int v2)]) rfl ?_
  unfold w_X2_gatherRuns at hw
  refine x_aload_n C dX2_gatherRuns_0 rfl rfl ?_
  refine x_iconst (v := (0 : Int32)) C dX2_gatherRuns_1 (by decide) ?_
  obtain ⟨M29, eM29⟩ : ∃ z : Mem, z = uI M o 8 (0 : Int32) := ⟨_, rfl⟩
  replace hw := hw M29 eM29
  refine m_putI C fp_X2_51 ho (fun _ _ => rfl) rfl rfl eM29 dX2_gatherRuns_2 ?_
  refine x_iconst (v := (0 : Int32)) C dX2_gatherRuns_5 (by decide) ?_
  refine x_istore_n C dX2_gatherRuns_6 rfl (Nat.le_of_ble_eq_true rfl) ?_
  exact x_sub [0, 1, 2, 3] rfl (ok_X2_gatherRuns_l7 C r ho hv1 hw)

def w_X2_take (o : Nat) (v1 : Int32) (v2 : Int32) (v3 : Int32) (v4 : Int64) (M : Mem) (q : Mem → Prop) : Prop := ∀ M1 : Mem, M1 = uI M (o + 1) 0 v1 → ∀ M2 : Mem, M2 = uI M1 (o + 1) 1 v2 → ∀ M3 : Mem, M3 = uI M2 (o + 1) 2 v3 → ∀ M4 : Mem, M4 = uJ M3 o 1 v4 → q M4
set_option maxRecDepth 100000 in
set_option maxHeartbeats 4000000 in
theorem ok_X2_take {g : Gl} {l : Launch} {o : Nat} {v1 : Int32} {v2 : Int32} {v3 : Int32} {v4 : Int64} {M : Mem} {q : Mem → Prop} (ho : sh o = .inl 2) (hw : w_X2_take o v1 v2 v3 v4 M q) : CtV g l yX2_take cX2_take 6 none 1 0 [.ref (g.2.2.2 + o), .int v1, .int v2, .int v3, .long v4] M q := by
  refine n_introV (by decide +kernel) (Nat.le_of_ble_eq_true rfl) (fun c C r => ?_)
  have C : Cx c cX2_take 6 RX2 g l (Rm 1 0) := C
  refine x_sub [0, 1, 2, 3, 4] (lv' := [(0, .ref (g.2.2.2 + o)), (1, .int v1), (2, .int v2), (3, .int v3), (4, .long v4)]) rfl ?_
  unfold w_X2_take at hw
  refine x_aload_n C dX2_take_0 rfl rfl ?_
  refine n_getS (dd := 1) C fl_X2_9 ho (fun _ _ => rfl) rfl dX2_take_1 ?_
  refine x_iconst (v := (0 : Int32)) C dX2_take_4 (by decide) ?_
  refine x_iload_n C dX2_take_5 rfl rfl ?_
  obtain ⟨M1, eM1⟩ : ∃ z : Mem, z = uI M (o + 1) 0 v1 := ⟨_, rfl⟩
  replace hw := hw M1 eM1
  refine a_iast C (ss_2_0 ho) (sl_2_0 ho) (by decide) (vin _ _ (by decide +kernel)) eM1 dX2_take_6 ?_
  refine x_aload_n C dX2_take_7 rfl rfl ?_
  refine n_getS (dd := 1) C fl_X2_9 ho (fun _ _ => rfl) rfl dX2_take_8 ?_
  refine x_iconst (v := (1 : Int32)) C dX2_take_11 (by decide) ?_
  refine x_iload_n C dX2_take_12 rfl rfl ?_
  obtain ⟨M2, eM2⟩ : ∃ z : Mem, z = uI M1 (o + 1) 1 v2 := ⟨_, rfl⟩
  replace hw := hw M2 eM2
  refine a_iast C (ss_2_0 ho) (sl_2_0 ho) (by decide) (vin _ _ (by decide +kernel)) eM2 dX2_take_13 ?_
  refine x_aload_n C dX2_take_14 rfl rfl ?_
  refine n_getS (dd := 1) C fl_X2_9 ho (fun _ _ => rfl) rfl dX2_take_15 ?_
  refine x_iconst (v := (2 : Int32)) C dX2_take_18 (by decide) ?_
  refine x_iload_n C dX2_take_19 rfl rfl ?_
  obtain ⟨M3, eM3⟩ : ∃ z : Mem, z = uI M2 (o + 1) 2 v3 := ⟨_, rfl⟩
  replace hw := hw M3 eM3
  refine a_iast C (ss_2_0 ho) (sl_2_0 ho) (by decide) (vin _ _ (by decide +kernel)) eM3 dX2_take_20 ?_
  refine x_aload_n C dX2_take_21 rfl rfl ?_
  refine x_lload C dX2_take_22 rfl ?_
  obtain ⟨M4, eM4⟩ : ∃ z : Mem, z = uJ M3 o 1 v4 := ⟨_, rfl⟩
  replace hw := hw M4 eM4
  refine m_putJ C fp_X2_43 ho (fun _ _ => rfl) rfl rfl eM4 dX2_take_24 ?_
  exact n_vreturn C r dX2_take_27 hw

def w_X2_farness_l6F (o : Nat) (v1 : Int32) (v2 : Int32) (v3 : Int32) (v4 : Int64) (q : Int64 → Mem → Prop) (P6 : Int64 × Int32 × Mem → Prop) (s : Int64 × Int32 × Mem) : Prop := match s with
  | (v6, v8, M) => (((M.1 o 8) ≤ v8 → q v6 M) ∧ (¬ (M.1 o 8) ≤ v8 → ((v4 ≤ v6 → q v6 M) ∧ (¬ v4 ≤ v6 → vp_in v8 200 ∧ vp_in v8 200 ∧ vp_in v8 200 ∧ vp_in v8 200 ∧ ∀ x7 : Int64, x7 = (v6 + ((iabs ((((M.1 (o + 7) (v8).toNatClampNeg) - (v1 * (M.1 (o + 4) (v8).toNatClampNeg))) - (v2 * (M.1 (o + 5) (v8).toNatClampNeg))) - (v3 * (M.1 (o + 6) (v8).toNatClampNeg))))).toInt64) → ∀ x8 : Int32, x8 = v8 + (1 : Int32) → P6 (x7, x8, M)))))
def w_X2_farness_l6 (o : Nat) (v1 : Int32) (v2 : Int32) (v3 : Int32) (v4 : Int64) (q : Int64 → Mem → Prop) (s : Int64 × Int32 × Mem) : Prop := lfp (w_X2_farness_l6F o v1 v2 v3 v4 q ) s
set_option maxRecDepth 100000 in
set_option maxHeartbeats 4000000 in
theorem ok_X2_farness_l6 {c : CtxT} {g : Gl} {l : Launch} {o : Nat} {v1 : Int32} {v2 : Int32} {v3 : Int32} {v4 : Int64} {q : Int64 → Mem → Prop} {s : Int64 × Int32 × Mem} (C : Cx c cX2_farness 9 RX2 g l (Rm 1 24)) (r : Rt c (some .long) (pJ q) 0 0) (ho : sh o = .inl 2) (hw : w_X2_farness_l6 o v1 v2 v3 v4 q s) : X c S0 6 [(0, .ref (g.2.2.2 + o)), (1, .int v1), (2, .int v2), (3, .int v3), (4, .long v4), (6, .long s.1), (8, .int s.2.1)] [] (stat s.2.2) := hw (fun s => X c S0 6 [(0, .ref (g.2.2.2 + o)), (1, .int v1), (2, .int v2), (3, .int v3), (4, .long v4), (6, .long s.1), (8, .int s.2.1)] [] (stat s.2.2)) (fun s hw => by
    obtain ⟨v6, v8, M⟩ := s
    try dsimp only [w_X2_farness_l6F] at hw
    try dsimp only
    refine x_iload C dX2_farness_6 rfl ?_
    refine x_aload_n C dX2_farness_8 rfl rfl ?_
    refine n_getI C fl_X2_51 ho (fun _ _ => rfl) dX2_farness_9 ?_
    refine x_icmp_ge (tgt := 75) C dX2_farness_12 (by decide) (fun h1 => ?_) (fun h1 => ?_)
    · replace hw := hw.1 h1
      refine x_lload C dX2_farness_75 rfl ?_
      exact n_lreturn C r dX2_farness_77 hw
    · replace hw := hw.2 h1
      refine x_lload C dX2_farness_15 rfl ?_
      refine x_lload C dX2_farness_17 rfl ?_
      refine x_lc_ge (tgt := 75) C dX2_farness_19 dX2_farness_20 (by decide) (fun h2 => ?_) (fun h2 => ?_)
      · replace hw := hw.1 h2
        refine x_lload C dX2_farness_75 rfl ?_
        exact n_lreturn C r dX2_farness_77 hw
      · replace hw := hw.2 h2
        refine x_lload C dX2_farness_23 rfl ?_
        refine x_aload_n C dX2_farness_25 rfl rfl ?_
        refine n_getS (dd := 7) C fl_X2_30 ho (fun _ _ => rfl) rfl dX2_farness_26 ?_
        refine x_iload C dX2_farness_29 rfl ?_
        obtain ⟨h3, hw⟩ := hw
        refine a_iald C (ss_2_7 ho) (sl_2_7 ho) h3 dX2_farness_31 ?_
        refine x_iload_n C dX2_farness_32 rfl rfl ?_
        refine x_aload_n C dX2_farness_33 rfl rfl ?_
        refine n_getS (dd := 4) C fl_X2_21 ho (fun _ _ => rfl) rfl dX2_farness_34 ?_
        refine x_iload C dX2_farness_37 rfl ?_
        obtain ⟨h4, hw⟩ := hw
        refine a_iald C (ss_2_4 ho) (sl_2_4 ho) h4 dX2_farness_39 ?_
        refine x_imul C dX2_farness_40 ?_
        refine x_isub C dX2_farness_41 ?_
        refine x_iload_n C dX2_farness_42 rfl rfl ?_
        refine x_aload_n C dX2_farness_43 rfl rfl ?_
        refine n_getS (dd := 5) C fl_X2_24 ho (fun _ _ => rfl) rfl dX2_farness_44 ?_
        refine x_iload C dX2_farness_47 rfl ?_
        obtain ⟨h5, hw⟩ := hw
        refine a_iald C (ss_2_5 ho) (sl_2_5 ho) h5 dX2_farness_49 ?_
        refine x_imul C dX2_farness_50 ?_
        refine x_isub C dX2_farness_51 ?_
        refine x_iload_n C dX2_farness_52 rfl rfl ?_
        refine x_aload_n C dX2_farness_53 rfl rfl ?_
        refine n_getS (dd := 6) C fl_X2_27 ho (fun _ _ => rfl) rfl dX2_farness_54 ?_
        refine x_iload C dX2_farness_57 rfl ?_
        obtain ⟨h6, hw⟩ := hw
        refine a_iald C (ss_2_6 ho) (sl_2_6 ho) h6 dX2_farness_59 ?_
        refine x_imul C dX2_farness_60 ?_
        refine x_isub C dX2_farness_61 ?_
        refine x_mabs C ms_X2_59 (Nat.le_of_ble_eq_true rfl) (Nat.le_of_ble_eq_true rfl) (Nat.le_of_ble_eq_true rfl) dX2_farness_62 ?_
        refine x_i2l C dX2_farness_65 ?_
        refine x_ladd C dX2_farness_66 ?_
        obtain ⟨x7, ex7⟩ : ∃ z : Int64, z = (v6 + ((iabs ((((M.1 (o + 7) (v8).toNatClampNeg) - (v1 * (M.1 (o + 4) (v8).toNatClampNeg))) - (v2 * (M.1 (o + 5) (v8).toNatClampNeg))) - (v3 * (M.1 (o + 6) (v8).toNatClampNeg))))).toInt64) := ⟨_, rfl⟩
        replace hw := hw x7 ex7
        refine x_topj ex7 ?_
        refine x_lstore C dX2_farness_67 (Nat.le_of_ble_eq_true rfl) ?_
        obtain ⟨x8, ex8⟩ : ∃ z : Int32, z = v8 + (1 : Int32) := ⟨_, rfl⟩
        replace hw := hw x8 ex8
        refine x_iinc (v := x8) C dX2_farness_69 rfl ex8.symm (Nat.le_of_ble_eq_true rfl) ?_
        refine x_goto (tgt := 6) C dX2_farness_72 (by decide) ?_
        exact x_sub [0, 1, 2, 3, 4, 6, 8] rfl hw)
def w_X2_farness (o : Nat) (v1 : Int32) (v2 : Int32) (v3 : Int32) (v4 : Int64) (M : Mem) (q : Int64 → Mem → Prop) : Prop := w_X2_farness_l6 o v1 v2 v3 v4 q ((0 : Int64), (0 : Int32), M)
set_option maxRecDepth 100000 in
set_option maxHeartbeats 4000000 in
theorem ok_X2_farness {g : Gl} {l : Launch} {o : Nat} {v1 : Int32} {v2 : Int32} {v3 : Int32} {v4 : Int64} {M : Mem} {q : Int64 → Mem → Prop} (ho : sh o = .inl 2) (hw : w_X2_farness o v1 v2 v3 v4 M q) : CtJ g l yX2_farness cX2_farness 9 (some .long) 1 24 [.ref (g.2.2.2 + o), .int v1, .int v2, .int v3, .long v4] M q := by
  refine n_introJ (by decide +kernel) (Nat.le_of_ble_eq_true rfl) (fun c C r => ?_)
  have C : Cx c cX2_farness 9 RX2 g l (Rm 1 24) := C
  refine x_sub [0, 1, 2, 3, 4] (lv' := [(0, .ref (g.2.2.2 + o)), (1, .int v1), (2, .int v2), (3, .int v3), (4, .long v4)]) rfl ?_
  unfold w_X2_farness at hw
  refine x_lconst (v := (0 : Int64)) C dX2_farness_0 (by decide) ?_
  refine x_lstore C dX2_farness_1 (Nat.le_of_ble_eq_true rfl) ?_
  refine x_iconst (v := (0 : Int32)) C dX2_farness_3 (by decide) ?_
  refine x_istore C dX2_farness_4 (Nat.le_of_ble_eq_true rfl) ?_
  exact x_sub [0, 1, 2, 3, 4, 6, 8] rfl (ok_X2_farness_l6 C r ho hw)

def w_X2_find_b107 (o : Nat) (v6 : Int32) (v7 : Int32) (v8 : Int32) (M : Mem) (q : Mem → Prop) (P42 : Int32 × Mem → Prop) (P52 : Int32 × Mem → Prop) (P62 : Int32 × Mem → Prop) : Prop := ∀ x1 : Int32, x1 = v8 + (1 : Int32) → P62 (x1, M)
set_option maxRecDepth 100000 in
set_option maxHeartbeats 4000000 in
theorem ok_X2_find_b107 {c : CtxT} {g : Gl} {l : Launch} {o : Nat} {v6 : Int32} {v7 : Int32} {v8 : Int32} {q : Mem → Prop} {P42 : Int32 × Mem → Prop} {P52 : Int32 × Mem → Prop} {P62 : Int32 × Mem → Prop} {M : Mem} (C : Cx c cX2_find 11 RX2 g l (Rm 4 67)) (r : Rt c (none) (pV q) 0 0) (ho : sh o = .inl 2) (hP42 : ∀ (v6 : Int32) (M : Mem), P42 (v6, M) → X c S0 42 [(0, .ref (g.2.2.2 + o)), (6, .int v6)] [] (stat M)) (hP52 : ∀ (v7 : Int32) (M : Mem), P52 (v7, M) → X c S0 52 [(0, .ref (g.2.2.2 + o)), (6, .int v6), (7, .int v7)] [] (stat M)) (hP62 : ∀ (v8 : Int32) (M : Mem), P62 (v8, M) → X c S0 62 [(0, .ref (g.2.2.2 + o)), (6, .int v6), (7, .int v7), (8, .int v8)] [] (stat M)) (hw : w_X2_find_b107 o v6 v7 v8 M q P42 P52 P62) : X c S0 107 [(0, .ref (g.2.2.2 + o)), (6, .int v6), (7, .int v7), (8, .int v8)] [] (stat M) := by
  unfold w_X2_find_b107 at hw
  obtain ⟨x1, ex1⟩ : ∃ z : Int32, z = v8 + (1 : Int32) := ⟨_, rfl⟩
  replace hw := hw x1 ex1
  refine x_iinc (v := x1) C dX2_find_107 rfl ex1.symm (Nat.le_of_ble_eq_true rfl) ?_
  refine x_goto (tgt := 62) C dX2_find_110 (by decide) ?_
  exact x_sub [0, 6, 7, 8] rfl (hP62 _ _ hw)
def w_X2_find_l62F (o : Nat) (v6 : Int32) (v7 : Int32) (q : Mem → Prop) (P42 : Int32 × Mem → Prop) (P52 : Int32 × Mem → Prop) (P62 : Int32 × Mem → Prop) (s : Int32 × Mem) : Prop := match s with
  | (v8, M) => (((12 : Int32) < v8 → ∀ x3 : Int32, x3 = v7 + (1 : Int32) → P52 (x3, M)) ∧ (¬ (12 : Int32) < v8 → w_X2_farness o v6 v7 v8 (M.2.1 o 1) M (fun (r5 : Int64) (M4 : Mem) => (((M4.2.1 o 1) ≤ r5 → w_X2_find_b107 o v6 v7 v8 M4 q P42 P52 P62) ∧ (¬ (M4.2.1 o 1) ≤ r5 → w_X2_take o v6 v7 v8 r5 M4 (fun (M7 : Mem) => w_X2_find_b107 o v6 v7 v8 M7 q P42 P52 P62))))))
def w_X2_find_l62 (o : Nat) (v6 : Int32) (v7 : Int32) (q : Mem → Prop) (P42 : Int32 × Mem → Prop) (P52 : Int32 × Mem → Prop) (s : Int32 × Mem) : Prop := lfp (w_X2_find_l62F o v6 v7 q P42 P52) s
set_option maxRecDepth 100000 in
set_option maxHeartbeats 4000000 in
theorem ok_X2_find_l62 {c : CtxT} {g : Gl} {l : Launch} {o : Nat} {v6 : Int32} {v7 : Int32} {q : Mem → Prop} {P42 : Int32 × Mem → Prop} {P52 : Int32 × Mem → Prop} {s : Int32 × Mem} (C : Cx c cX2_find 11 RX2 g l (Rm 4 67)) (r : Rt c (none) (pV q) 0 0) (ho : sh o = .inl 2) (hP42 : ∀ (v6 : Int32) (M : Mem), P42 (v6, M) → X c S0 42 [(0, .ref (g.2.2.2 + o)), (6, .int v6)] [] (stat M)) (hP52 : ∀ (v7 : Int32) (M : Mem), P52 (v7, M) → X c S0 52 [(0, .ref (g.2.2.2 + o)), (6, .int v6), (7, .int v7)] [] (stat M)) (hw : w_X2_find_l62 o v6 v7 q P42 P52 s) : X c S0 62 [(0, .ref (g.2.2.2 + o)), (6, .int v6), (7, .int v7), (8, .int s.1)] [] (stat s.2) := hw (fun s => X c S0 62 [(0, .ref (g.2.2.2 + o)), (6, .int v6), (7, .int v7), (8, .int s.1)] [] (stat s.2)) (fun s hw => by
    obtain ⟨v8, M⟩ := s
    try dsimp only [w_X2_find_l62F] at hw
    try dsimp only
    refine x_iload C dX2_find_62 rfl ?_
    refine x_bipush (v := (12 : Int32)) C dX2_find_64 (by decide) ?_
    refine x_icmp_gt (tgt := 113) C dX2_find_66 (by decide) (fun h2 => ?_) (fun h2 => ?_)
    · replace hw := hw.1 h2
      obtain ⟨x3, ex3⟩ : ∃ z : Int32, z = v7 + (1 : Int32) := ⟨_, rfl⟩
      replace hw := hw x3 ex3
      refine x_iinc (v := x3) C dX2_find_113 rfl ex3.symm (Nat.le_of_ble_eq_true rfl) ?_
      refine x_goto (tgt := 52) C dX2_find_116 (by decide) ?_
      exact x_sub [0, 6, 7] rfl (hP52 _ _ hw)
    · replace hw := hw.2 h2
      refine x_aload_n C dX2_find_69 rfl rfl ?_
      refine x_iload C dX2_find_70 rfl ?_
      refine x_iload C dX2_find_72 rfl ?_
      refine x_iload C dX2_find_74 rfl ?_
      refine x_aload_n C dX2_find_76 rfl rfl ?_
      refine n_getJ C fl_X2_43 ho (fun _ _ => rfl) dX2_find_77 ?_
      refine n_callVJ ho rfl C (ok_X2_farness ho hw) mv_X2_47 rfl rfl ⟨Nat.le_of_ble_eq_true rfl, Nat.le_of_ble_eq_true rfl⟩ (Nat.le_of_ble_eq_true rfl) dX2_find_80 (fun r5 M4 hw => ?_)
      refine x_lstore C dX2_find_83 (Nat.le_of_ble_eq_true rfl) ?_
      refine x_lload C dX2_find_85 rfl ?_
      refine x_aload_n C dX2_find_87 rfl rfl ?_
      refine n_getJ C fl_X2_43 ho (fun _ _ => rfl) dX2_find_88 ?_
      refine x_lc_ge (tgt := 107) C dX2_find_91 dX2_find_92 (by decide) (fun h6 => ?_) (fun h6 => ?_)
      · replace hw := hw.1 h6
        exact x_sub [0, 6, 7, 8] rfl (ok_X2_find_b107 C r ho hP42 hP52 (fun _ _ h => h) hw)
      · replace hw := hw.2 h6
        refine x_aload_n C dX2_find_95 rfl rfl ?_
        refine x_iload C dX2_find_96 rfl ?_
        refine x_iload C dX2_find_98 rfl ?_
        refine x_iload C dX2_find_100 rfl ?_
        refine x_lload C dX2_find_102 rfl ?_
        refine n_callVV ho rfl C (ok_X2_take ho hw) mv_X2_39 rfl rfl ⟨Nat.le_of_ble_eq_true rfl, Nat.le_of_ble_eq_true rfl⟩ (Nat.le_of_ble_eq_true rfl) dX2_find_104 (fun M7 hw => ?_)
        exact x_sub [0, 6, 7, 8] rfl (ok_X2_find_b107 C r ho hP42 hP52 (fun _ _ h => h) hw))
def w_X2_find_l52F (o : Nat) (v6 : Int32) (q : Mem → Prop) (P42 : Int32 × Mem → Prop) (P52 : Int32 × Mem → Prop) (s : Int32 × Mem) : Prop := match s with
  | (v7, M) => (((12 : Int32) < v7 → ∀ x10 : Int32, x10 = v6 + (1 : Int32) → P42 (x10, M)) ∧ (¬ (12 : Int32) < v7 → w_X2_find_l62 o v6 v7 q P42 P52 ((0 : Int32), M)))
def w_X2_find_l52 (o : Nat) (v6 : Int32) (q : Mem → Prop) (P42 : Int32 × Mem → Prop) (s : Int32 × Mem) : Prop := lfp (w_X2_find_l52F o v6 q P42) s
set_option maxRecDepth 100000 in
set_option maxHeartbeats 4000000 in
theorem ok_X2_find_l52 {c : CtxT} {g : Gl} {l : Launch} {o : Nat} {v6 : Int32} {q : Mem → Prop} {P42 : Int32 × Mem → Prop} {s : Int32 × Mem} (C : Cx c cX2_find 11 RX2 g l (Rm 4 67)) (r : Rt c (none) (pV q) 0 0) (ho : sh o = .inl 2) (hP42 : ∀ (v6 : Int32) (M : Mem), P42 (v6, M) → X c S0 42 [(0, .ref (g.2.2.2 + o)), (6, .int v6)] [] (stat M)) (hw : w_X2_find_l52 o v6 q P42 s) : X c S0 52 [(0, .ref (g.2.2.2 + o)), (6, .int v6), (7, .int s.1)] [] (stat s.2) := hw (fun s => X c S0 52 [(0, .ref (g.2.2.2 + o)), (6, .int v6), (7, .int s.1)] [] (stat s.2)) (fun s hw => by
    obtain ⟨v7, M⟩ := s
    try dsimp only [w_X2_find_l52F] at hw
    try dsimp only
    refine x_iload C dX2_find_52 rfl ?_
    refine x_bipush (v := (12 : Int32)) C dX2_find_54 (by decide) ?_
    refine x_icmp_gt (tgt := 119) C dX2_find_56 (by decide) (fun h9 => ?_) (fun h9 => ?_)
    · replace hw := hw.1 h9
      obtain ⟨x10, ex10⟩ : ∃ z : Int32, z = v6 + (1 : Int32) := ⟨_, rfl⟩
      replace hw := hw x10 ex10
      refine x_iinc (v := x10) C dX2_find_119 rfl ex10.symm (Nat.le_of_ble_eq_true rfl) ?_
      refine x_goto (tgt := 42) C dX2_find_122 (by decide) ?_
      exact x_sub [0, 6] rfl (hP42 _ _ hw)
    · replace hw := hw.2 h9
      refine x_iconst (v := (0 : Int32)) C dX2_find_59 (by decide) ?_
      refine x_istore C dX2_find_60 (Nat.le_of_ble_eq_true rfl) ?_
      exact x_sub [0, 6, 7, 8] rfl (ok_X2_find_l62 C r ho hP42 (fun _ _ h => h) hw))
def w_X2_find_l42F (o : Nat) (q : Mem → Prop) (P42 : Int32 × Mem → Prop) (s : Int32 × Mem) : Prop := match s with
  | (v6, M) => (((12 : Int32) < v6 → q M) ∧ (¬ (12 : Int32) < v6 → w_X2_find_l52 o v6 q P42 ((0 : Int32), M)))
def w_X2_find_l42 (o : Nat) (q : Mem → Prop) (s : Int32 × Mem) : Prop := lfp (w_X2_find_l42F o q ) s
set_option maxRecDepth 100000 in
set_option maxHeartbeats 4000000 in
theorem ok_X2_find_l42 {c : CtxT} {g : Gl} {l : Launch} {o : Nat} {q : Mem → Prop} {s : Int32 × Mem} (C : Cx c cX2_find 11 RX2 g l (Rm 4 67)) (r : Rt c (none) (pV q) 0 0) (ho : sh o = .inl 2) (hw : w_X2_find_l42 o q s) : X c S0 42 [(0, .ref (g.2.2.2 + o)), (6, .int s.1)] [] (stat s.2) := hw (fun s => X c S0 42 [(0, .ref (g.2.2.2 + o)), (6, .int s.1)] [] (stat s.2)) (fun s hw => by
    obtain ⟨v6, M⟩ := s
    try dsimp only [w_X2_find_l42F] at hw
    try dsimp only
    refine x_iload C dX2_find_42 rfl ?_
    refine x_bipush (v := (12 : Int32)) C dX2_find_44 (by decide) ?_
    refine x_icmp_gt (tgt := 125) C dX2_find_46 (by decide) (fun h11 => ?_) (fun h11 => ?_)
    · replace hw := hw.1 h11
      exact n_vreturn C r dX2_find_125 hw
    · replace hw := hw.2 h11
      refine x_iconst (v := (0 : Int32)) C dX2_find_49 (by decide) ?_
      refine x_istore C dX2_find_50 (Nat.le_of_ble_eq_true rfl) ?_
      exact x_sub [0, 6, 7] rfl (ok_X2_find_l52 C r ho (fun _ _ h => h) hw))
def w_X2_find (o : Nat) (v1 : Nat) (v2 : Int32) (v3 : Int32) (v4 : Int32) (v5 : Int32) (M : Mem) (q : Mem → Prop) : Prop := ∀ M12 : Mem, M12 = uI M (o + 2) 0 v3 → ∀ M13 : Mem, M13 = uI M12 (o + 2) 1 v4 → ∀ M14 : Mem, M14 = uI M13 (o + 2) 2 v5 → w_X2_gatherRuns o v1 v2 M14 (fun (M15 : Mem) => w_X2_take o (0 : Int32) (0 : Int32) (0 : Int32) (1099511627776 : Int64) M15 (fun (M17 : Mem) => w_X2_find_l42 o q ((0 : Int32), M17)))
set_option maxRecDepth 100000 in
set_option maxHeartbeats 4000000 in
theorem ok_X2_find {g : Gl} {l : Launch} {o : Nat} {v1 : Nat} {v2 : Int32} {v3 : Int32} {v4 : Int32} {v5 : Int32} {M : Mem} {q : Mem → Prop} (ho : sh o = .inl 2) (hv1 : sh v1 = .inl 8) (hw : w_X2_find o v1 v2 v3 v4 v5 M q) : CtV g l yX2_find cX2_find 11 none 4 67 [.ref (g.2.2.2 + o), .ref (g.2.2.2 + v1), .int v2, .int v3, .int v4, .int v5] M q := by
  refine n_introV (by decide +kernel) (Nat.le_of_ble_eq_true rfl) (fun c C r => ?_)
  have C : Cx c cX2_find 11 RX2 g l (Rm 4 67) := C
  refine x_sub [0, 1, 2, 3, 4, 5] (lv' := [(0, .ref (g.2.2.2 + o)), (1, .ref (g.2.2.2 + v1)), (2, .int v2), (3, .int v3), (4, .int v4), (5, .int v5)]) rfl ?_
  unfold w_X2_find at hw
  refine x_aload_n C dX2_find_0 rfl rfl ?_
  refine n_getS (dd := 2) C fl_X2_15 ho (fun _ _ => rfl) rfl dX2_find_1 ?_
  refine x_iconst (v := (0 : Int32)) C dX2_find_4 (by decide) ?_
  refine x_iload_n C dX2_find_5 rfl rfl ?_
  obtain ⟨M12, eM12⟩ : ∃ z : Mem, z = uI M (o + 2) 0 v3 := ⟨_, rfl⟩
  replace hw := hw M12 eM12
  refine a_iast C (ss_2_2 ho) (sl_2_2 ho) (by decide) (vin _ _ (by decide +kernel)) eM12 dX2_find_6 ?_
  refine x_aload_n C dX2_find_7 rfl rfl ?_
  refine n_getS (dd := 2) C fl_X2_15 ho (fun _ _ => rfl) rfl dX2_find_8 ?_
  refine x_iconst (v := (1 : Int32)) C dX2_find_11 (by decide) ?_
  refine x_iload C dX2_find_12 rfl ?_
  obtain ⟨M13, eM13⟩ : ∃ z : Mem, z = uI M12 (o + 2) 1 v4 := ⟨_, rfl⟩
  replace hw := hw M13 eM13
  refine a_iast C (ss_2_2 ho) (sl_2_2 ho) (by decide) (vin _ _ (by decide +kernel)) eM13 dX2_find_14 ?_
  refine x_aload_n C dX2_find_15 rfl rfl ?_
  refine n_getS (dd := 2) C fl_X2_15 ho (fun _ _ => rfl) rfl dX2_find_16 ?_
  refine x_iconst (v := (2 : Int32)) C dX2_find_19 (by decide) ?_
  refine x_iload C dX2_find_20 rfl ?_
  obtain ⟨M14, eM14⟩ : ∃ z : Mem, z = uI M13 (o + 2) 2 v5 := ⟨_, rfl⟩
  replace hw := hw M14 eM14
  refine a_iast C (ss_2_2 ho) (sl_2_2 ho) (by decide) (vin _ _ (by decide +kernel)) eM14 dX2_find_22 ?_
  refine x_aload_n C dX2_find_23 rfl rfl ?_
  refine x_aload_n C dX2_find_24 rfl rfl ?_
  refine x_iload_n C dX2_find_25 rfl rfl ?_
  refine n_callVV ho rfl C (ok_X2_gatherRuns ho hv1 hw) mv_X2_33 rfl rfl ⟨Nat.le_of_ble_eq_true rfl, Nat.le_of_ble_eq_true rfl⟩ (Nat.le_of_ble_eq_true rfl) dX2_find_26 (fun M15 hw => ?_)
  refine x_aload_n C dX2_find_29 rfl rfl ?_
  refine x_iconst (v := (0 : Int32)) C dX2_find_30 (by decide) ?_
  refine x_iconst (v := (0 : Int32)) C dX2_find_31 (by decide) ?_
  refine x_iconst (v := (0 : Int32)) C dX2_find_32 (by decide) ?_
  refine x_ldc2_w (v := (1099511627776 : Int64)) C dX2_find_33 kc_X2_37 ?_
  refine n_callVV ho rfl C (ok_X2_take ho hw) mv_X2_39 rfl rfl ⟨Nat.le_of_ble_eq_true rfl, Nat.le_of_ble_eq_true rfl⟩ (Nat.le_of_ble_eq_true rfl) dX2_find_36 (fun M17 hw => ?_)
  refine x_iconst (v := (0 : Int32)) C dX2_find_39 (by decide) ?_
  refine x_istore C dX2_find_40 (Nat.le_of_ble_eq_true rfl) ?_
  exact x_sub [0, 6] rfl (ok_X2_find_l42 C r ho hw)

def w_X2_made (o : Nat) (v1 : Int32) (v2 : Int32) (v3 : Int32) (M : Mem) (q : Int32 → Mem → Prop) : Prop := q ((((M.1 (o + 1) 0) * v1) + ((M.1 (o + 1) 1) * v2)) + ((M.1 (o + 1) 2) * v3)) M
set_option maxRecDepth 100000 in
set_option maxHeartbeats 4000000 in
theorem ok_X2_made {g : Gl} {l : Launch} {o : Nat} {v1 : Int32} {v2 : Int32} {v3 : Int32} {M : Mem} {q : Int32 → Mem → Prop} (ho : sh o = .inl 2) (hw : w_X2_made o v1 v2 v3 M q) : CtI g l yX2_made cX2_made 4 (some .int) 1 0 [.ref (g.2.2.2 + o), .int v1, .int v2, .int v3] M q := by
  refine n_introI (by decide +kernel) (Nat.le_of_ble_eq_true rfl) (fun c C r => ?_)
  have C : Cx c cX2_made 4 RX2 g l (Rm 1 0) := C
  refine x_sub [0, 1, 2, 3] (lv' := [(0, .ref (g.2.2.2 + o)), (1, .int v1), (2, .int v2), (3, .int v3)]) rfl ?_
  unfold w_X2_made at hw
  refine x_aload_n C dX2_made_0 rfl rfl ?_
  refine n_getS (dd := 1) C fl_X2_9 ho (fun _ _ => rfl) rfl dX2_made_1 ?_
  refine x_iconst (v := (0 : Int32)) C dX2_made_4 (by decide) ?_
  refine a_ialdL (ni := 0) C (ss_2_0 ho) (sl_2_0 ho) (by decide) (vin _ _ (by decide +kernel)) dX2_made_5 ?_
  refine x_iload_n C dX2_made_6 rfl rfl ?_
  refine x_imul C dX2_made_7 ?_
  refine x_aload_n C dX2_made_8 rfl rfl ?_
  refine n_getS (dd := 1) C fl_X2_9 ho (fun _ _ => rfl) rfl dX2_made_9 ?_
  refine x_iconst (v := (1 : Int32)) C dX2_made_12 (by decide) ?_
  refine a_ialdL (ni := 1) C (ss_2_0 ho) (sl_2_0 ho) (by decide) (vin _ _ (by decide +kernel)) dX2_made_13 ?_
  refine x_iload_n C dX2_made_14 rfl rfl ?_
  refine x_imul C dX2_made_15 ?_
  refine x_iadd C dX2_made_16 ?_
  refine x_aload_n C dX2_made_17 rfl rfl ?_
  refine n_getS (dd := 1) C fl_X2_9 ho (fun _ _ => rfl) rfl dX2_made_18 ?_
  refine x_iconst (v := (2 : Int32)) C dX2_made_21 (by decide) ?_
  refine a_ialdL (ni := 2) C (ss_2_0 ho) (sl_2_0 ho) (by decide) (vin _ _ (by decide +kernel)) dX2_made_22 ?_
  refine x_iload_n C dX2_made_23 rfl rfl ?_
  refine x_imul C dX2_made_24 ?_
  refine x_iadd C dX2_made_25 ?_
  exact n_ireturn C r dX2_made_26 hw

def w_X2_farthest_b64 (o : Nat) (v1 : Int32) (v2 : Int32) (v3 : Int32) (M : Mem) (q : Int32 → Mem → Prop) (P6 : Int32 × Int32 × Int32 × Mem → Prop) : Prop := ∀ x1 : Int32, x1 = v3 + (1 : Int32) → P6 (v1, v2, x1, M)
set_option maxRecDepth 100000 in
set_option maxHeartbeats 4000000 in
theorem ok_X2_farthest_b64 {c : CtxT} {g : Gl} {l : Launch} {o : Nat} {v1 : Int32} {v2 : Int32} {v3 : Int32} {q : Int32 → Mem → Prop} {P6 : Int32 × Int32 × Int32 × Mem → Prop} {M : Mem} (C : Cx c cX2_farthest 5 RX2 g l (Rm 2 24)) (r : Rt c (some .int) (pI q) 0 0) (ho : sh o = .inl 2) (hP6 : ∀ (v1 : Int32) (v2 : Int32) (v3 : Int32) (M : Mem), P6 (v1, v2, v3, M) → X c S0 6 [(0, .ref (g.2.2.2 + o)), (1, .int v1), (2, .int v2), (3, .int v3)] [] (stat M)) (hw : w_X2_farthest_b64 o v1 v2 v3 M q P6) : X c S0 64 [(0, .ref (g.2.2.2 + o)), (1, .int v1), (2, .int v2), (3, .int v3)] [] (stat M) := by
  unfold w_X2_farthest_b64 at hw
  obtain ⟨x1, ex1⟩ : ∃ z : Int32, z = v3 + (1 : Int32) := ⟨_, rfl⟩
  replace hw := hw x1 ex1
  refine x_iinc (v := x1) C dX2_farthest_64 rfl ex1.symm (Nat.le_of_ble_eq_true rfl) ?_
  refine x_goto (tgt := 6) C dX2_farthest_67 (by decide) ?_
  exact x_sub [0, 1, 2, 3] rfl (hP6 _ _ _ _ hw)
def w_X2_farthest_l6F (o : Nat) (q : Int32 → Mem → Prop) (P6 : Int32 × Int32 × Int32 × Mem → Prop) (s : Int32 × Int32 × Int32 × Mem) : Prop := match s with
  | (v1, v2, v3, M) => (((M.1 o 8) ≤ v3 → q v1 M) ∧ (¬ (M.1 o 8) ≤ v3 → vp_in v3 200 ∧ vp_in v3 200 ∧ vp_in v3 200 ∧ vp_in v3 200 ∧ w_X2_made o (M.1 (o + 4) (v3).toNatClampNeg) (M.1 (o + 5) (v3).toNatClampNeg) (M.1 (o + 6) (v3).toNatClampNeg) M (fun (r8 : Int32) (M7 : Mem) => ∀ x9 : Int32, x9 = (iabs ((M.1 (o + 7) (v3).toNatClampNeg) - r8)) → ((x9 ≤ v2 → w_X2_farthest_b64 o v1 v2 v3 M7 q P6) ∧ (¬ x9 ≤ v2 → vp_in v3 200 ∧ ∀ x12 : Int32, x12 = (M7.1 (o + 3) (v3).toNatClampNeg) → w_X2_farthest_b64 o x12 x9 v3 M7 q P6)))))
def w_X2_farthest_l6 (o : Nat) (q : Int32 → Mem → Prop) (s : Int32 × Int32 × Int32 × Mem) : Prop := lfp (w_X2_farthest_l6F o q ) s
set_option maxRecDepth 100000 in
set_option maxHeartbeats 4000000 in
theorem ok_X2_farthest_l6 {c : CtxT} {g : Gl} {l : Launch} {o : Nat} {q : Int32 → Mem → Prop} {s : Int32 × Int32 × Int32 × Mem} (C : Cx c cX2_farthest 5 RX2 g l (Rm 2 24)) (r : Rt c (some .int) (pI q) 0 0) (ho : sh o = .inl 2) (hw : w_X2_farthest_l6 o q s) : X c S0 6 [(0, .ref (g.2.2.2 + o)), (1, .int s.1), (2, .int s.2.1), (3, .int s.2.2.1)] [] (stat s.2.2.2) := hw (fun s => X c S0 6 [(0, .ref (g.2.2.2 + o)), (1, .int s.1), (2, .int s.2.1), (3, .int s.2.2.1)] [] (stat s.2.2.2)) (fun s hw => by
    obtain ⟨v1, v2, v3, M⟩ := s
    try dsimp only [w_X2_farthest_l6F] at hw
    try dsimp only
    refine x_iload_n C dX2_farthest_6 rfl rfl ?_
    refine x_aload_n C dX2_farthest_7 rfl rfl ?_
    refine n_getI C fl_X2_51 ho (fun _ _ => rfl) dX2_farthest_8 ?_
    refine x_icmp_ge (tgt := 70) C dX2_farthest_11 (by decide) (fun h2 => ?_) (fun h2 => ?_)
    · replace hw := hw.1 h2
      refine x_iload_n C dX2_farthest_70 rfl rfl ?_
      exact n_ireturn C r dX2_farthest_71 hw
    · replace hw := hw.2 h2
      refine x_aload_n C dX2_farthest_14 rfl rfl ?_
      refine n_getS (dd := 7) C fl_X2_30 ho (fun _ _ => rfl) rfl dX2_farthest_15 ?_
      refine x_iload_n C dX2_farthest_18 rfl rfl ?_
      obtain ⟨h3, hw⟩ := hw
      refine a_iald C (ss_2_7 ho) (sl_2_7 ho) h3 dX2_farthest_19 ?_
      refine x_aload_n C dX2_farthest_20 rfl rfl ?_
      refine x_aload_n C dX2_farthest_21 rfl rfl ?_
      refine n_getS (dd := 4) C fl_X2_21 ho (fun _ _ => rfl) rfl dX2_farthest_22 ?_
      refine x_iload_n C dX2_farthest_25 rfl rfl ?_
      obtain ⟨h4, hw⟩ := hw
      refine a_iald C (ss_2_4 ho) (sl_2_4 ho) h4 dX2_farthest_26 ?_
      refine x_aload_n C dX2_farthest_27 rfl rfl ?_
      refine n_getS (dd := 5) C fl_X2_24 ho (fun _ _ => rfl) rfl dX2_farthest_28 ?_
      refine x_iload_n C dX2_farthest_31 rfl rfl ?_
      obtain ⟨h5, hw⟩ := hw
      refine a_iald C (ss_2_5 ho) (sl_2_5 ho) h5 dX2_farthest_32 ?_
      refine x_aload_n C dX2_farthest_33 rfl rfl ?_
      refine n_getS (dd := 6) C fl_X2_27 ho (fun _ _ => rfl) rfl dX2_farthest_34 ?_
      refine x_iload_n C dX2_farthest_37 rfl rfl ?_
      obtain ⟨h6, hw⟩ := hw
      refine a_iald C (ss_2_6 ho) (sl_2_6 ho) h6 dX2_farthest_38 ?_
      refine n_callVI ho rfl C (ok_X2_made ho hw) mv_X2_55 rfl rfl ⟨Nat.le_of_ble_eq_true rfl, Nat.le_of_ble_eq_true rfl⟩ (Nat.le_of_ble_eq_true rfl) dX2_farthest_39 (fun r8 M7 hw => ?_)
      refine x_isub C dX2_farthest_42 ?_
      refine x_mabs C ms_X2_59 (Nat.le_of_ble_eq_true rfl) (Nat.le_of_ble_eq_true rfl) (Nat.le_of_ble_eq_true rfl) dX2_farthest_43 ?_
      obtain ⟨x9, ex9⟩ : ∃ z : Int32, z = (iabs ((M.1 (o + 7) (v3).toNatClampNeg) - r8)) := ⟨_, rfl⟩
      replace hw := hw x9 ex9
      refine x_topi ex9 ?_
      refine x_istore C dX2_farthest_46 (Nat.le_of_ble_eq_true rfl) ?_
      refine x_iload C dX2_farthest_48 rfl ?_
      refine x_iload_n C dX2_farthest_50 rfl rfl ?_
      refine x_icmp_le (tgt := 64) C dX2_farthest_51 (by decide) (fun h10 => ?_) (fun h10 => ?_)
      · replace hw := hw.1 h10
        exact x_sub [0, 1, 2, 3] rfl (ok_X2_farthest_b64 C r ho (fun _ _ _ _ h => h) hw)
      · replace hw := hw.2 h10
        refine x_iload C dX2_farthest_54 rfl ?_
        refine x_istore_n C dX2_farthest_56 rfl (Nat.le_of_ble_eq_true rfl) ?_
        refine x_aload_n C dX2_farthest_57 rfl rfl ?_
        refine n_getS (dd := 3) C fl_X2_18 ho (fun _ _ => rfl) rfl dX2_farthest_58 ?_
        refine x_iload_n C dX2_farthest_61 rfl rfl ?_
        obtain ⟨h11, hw⟩ := hw
        refine a_iald C (ss_2_3 ho) (sl_2_3 ho) h11 dX2_farthest_62 ?_
        obtain ⟨x12, ex12⟩ : ∃ z : Int32, z = (M7.1 (o + 3) (v3).toNatClampNeg) := ⟨_, rfl⟩
        replace hw := hw x12 ex12
        refine x_topi ex12 ?_
        refine x_istore_n C dX2_farthest_63 rfl (Nat.le_of_ble_eq_true rfl) ?_
        exact x_sub [0, 1, 2, 3] rfl (ok_X2_farthest_b64 C r ho (fun _ _ _ _ h => h) hw))
def w_X2_farthest (o : Nat) (M : Mem) (q : Int32 → Mem → Prop) : Prop := w_X2_farthest_l6 o q ((-1 : Int32), (-1 : Int32), (0 : Int32), M)
set_option maxRecDepth 100000 in
set_option maxHeartbeats 4000000 in
theorem ok_X2_farthest {g : Gl} {l : Launch} {o : Nat} {M : Mem} {q : Int32 → Mem → Prop} (ho : sh o = .inl 2) (hw : w_X2_farthest o M q) : CtI g l yX2_farthest cX2_farthest 5 (some .int) 2 24 [.ref (g.2.2.2 + o)] M q := by
  refine n_introI (by decide +kernel) (Nat.le_of_ble_eq_true rfl) (fun c C r => ?_)
  have C : Cx c cX2_farthest 5 RX2 g l (Rm 2 24) := C
  refine x_sub [0] (lv' := [(0, .ref (g.2.2.2 + o))]) rfl ?_
  unfold w_X2_farthest at hw
  refine x_iconst (v := (-1 : Int32)) C dX2_farthest_0 (by decide) ?_
  refine x_istore_n C dX2_farthest_1 rfl (Nat.le_of_ble_eq_true rfl) ?_
  refine x_iconst (v := (-1 : Int32)) C dX2_farthest_2 (by decide) ?_
  refine x_istore_n C dX2_farthest_3 rfl (Nat.le_of_ble_eq_true rfl) ?_
  refine x_iconst (v := (0 : Int32)) C dX2_farthest_4 (by decide) ?_
  refine x_istore_n C dX2_farthest_5 rfl (Nat.le_of_ble_eq_true rfl) ?_
  exact x_sub [0, 1, 2, 3] rfl (ok_X2_farthest_l6 C r ho hw)

def w_X2_gatherMisses_b90 (o : Nat) (v1 : Nat) (v2 : Int32) (v3 : Nat) (v4 : Int32) (M : Mem) (q : Mem → Prop) (P7 : Int32 × Mem → Prop) : Prop := ∀ x1 : Int32, x1 = v4 + (1 : Int32) → P7 (x1, M)
set_option maxRecDepth 100000 in
set_option maxHeartbeats 4000000 in
theorem ok_X2_gatherMisses_b90 {c : CtxT} {g : Gl} {l : Launch} {o : Nat} {v1 : Nat} {v2 : Int32} {v3 : Nat} {v4 : Int32} {q : Mem → Prop} {P7 : Int32 × Mem → Prop} {M : Mem} (C : Cx c cX2_gatherMisses 5 RX2 g l (Rm 3 44)) (r : Rt c (none) (pV q) 0 0) (ho : sh o = .inl 2) (hv1 : sh v1 = .inl 8) (hv3 : sh v3 = .inl 0) (hP7 : ∀ (v4 : Int32) (M : Mem), P7 (v4, M) → X c S0 7 [(0, .ref (g.2.2.2 + o)), (1, .ref (g.2.2.2 + v1)), (2, .int v2), (3, .ref (g.2.2.2 + v3)), (4, .int v4)] [] (stat M)) (hw : w_X2_gatherMisses_b90 o v1 v2 v3 v4 M q P7) : X c S0 90 [(0, .ref (g.2.2.2 + o)), (1, .ref (g.2.2.2 + v1)), (2, .int v2), (3, .ref (g.2.2.2 + v3)), (4, .int v4)] [] (stat M) := by
  unfold w_X2_gatherMisses_b90 at hw
  obtain ⟨x1, ex1⟩ : ∃ z : Int32, z = v4 + (1 : Int32) := ⟨_, rfl⟩
  replace hw := hw x1 ex1
  refine x_iinc (v := x1) C dX2_gatherMisses_90 rfl ex1.symm (Nat.le_of_ble_eq_true rfl) ?_
  refine x_goto (tgt := 7) C dX2_gatherMisses_93 (by decide) ?_
  exact x_sub [0, 1, 2, 3, 4] rfl (hP7 _ _ hw)
def w_X2_gatherMisses_l7F (o : Nat) (v1 : Nat) (v2 : Int32) (v3 : Nat) (q : Mem → Prop) (P7 : Int32 × Mem → Prop) (s : Int32 × Mem) : Prop := match s with
  | (v4, M) => (((M.1 v1 4) ≤ v4 → q M) ∧ (¬ (M.1 v1 4) ≤ v4 → w_X8_isTimedOn v1 v4 v2 M (fun (r4 : Int32) (M3 : Mem) => ((r4 = 0 → w_X2_gatherMisses_b90 o v1 v2 v3 v4 M3 q P7) ∧ (¬ r4 = 0 → w_X8_told v1 v4 (13 : Int32) M3 (fun (r7 : Int32) (M6 : Mem) => ((¬ r7 = (1 : Int32) → w_X2_gatherMisses_b90 o v1 v2 v3 v4 M6 q P7) ∧ (r7 = (1 : Int32) → w_X8_told v1 v4 (5 : Int32) M6 (fun (r10 : Int32) (M9 : Mem) => w_X8_told v1 v4 (M9.1 (o + 2) 0) M9 (fun (r12 : Int32) (M11 : Mem) => w_X8_told v1 v4 (M11.1 (o + 2) 1) M11 (fun (r14 : Int32) (M13 : Mem) => w_X8_told v1 v4 (M13.1 (o + 2) 2) M13 (fun (r16 : Int32) (M15 : Mem) => w_X2_made o r12 r14 r16 M15 (fun (r18 : Int32) (M17 : Mem) => w_X0_add v3 (r10 - r18) M17 (fun (M19 : Mem) => w_X2_gatherMisses_b90 o v1 v2 v3 v4 M19 q P7))))))))))))))
def w_X2_gatherMisses_l7 (o : Nat) (v1 : Nat) (v2 : Int32) (v3 : Nat) (q : Mem → Prop) (s : Int32 × Mem) : Prop := lfp (w_X2_gatherMisses_l7F o v1 v2 v3 q ) s
set_option maxRecDepth 100000 in
set_option maxHeartbeats 4000000 in
theorem ok_X2_gatherMisses_l7 {c : CtxT} {g : Gl} {l : Launch} {o : Nat} {v1 : Nat} {v2 : Int32} {v3 : Nat} {q : Mem → Prop} {s : Int32 × Mem} (C : Cx c cX2_gatherMisses 5 RX2 g l (Rm 3 44)) (r : Rt c (none) (pV q) 0 0) (ho : sh o = .inl 2) (hv1 : sh v1 = .inl 8) (hv3 : sh v3 = .inl 0) (hw : w_X2_gatherMisses_l7 o v1 v2 v3 q s) : X c S0 7 [(0, .ref (g.2.2.2 + o)), (1, .ref (g.2.2.2 + v1)), (2, .int v2), (3, .ref (g.2.2.2 + v3)), (4, .int s.1)] [] (stat s.2) := hw (fun s => X c S0 7 [(0, .ref (g.2.2.2 + o)), (1, .ref (g.2.2.2 + v1)), (2, .int v2), (3, .ref (g.2.2.2 + v3)), (4, .int s.1)] [] (stat s.2)) (fun s hw => by
    obtain ⟨v4, M⟩ := s
    try dsimp only [w_X2_gatherMisses_l7F] at hw
    try dsimp only
    refine x_iload C dX2_gatherMisses_7 rfl ?_
    refine x_aload_n C dX2_gatherMisses_9 rfl rfl ?_
    refine n_getI C fl_X2_70 hv1 (fun _ _ => rfl) dX2_gatherMisses_10 ?_
    refine x_icmp_ge (tgt := 96) C dX2_gatherMisses_13 (by decide) (fun h2 => ?_) (fun h2 => ?_)
    · replace hw := hw.1 h2
      exact n_vreturn C r dX2_gatherMisses_96 hw
    · replace hw := hw.2 h2
      refine x_aload_n C dX2_gatherMisses_16 rfl rfl ?_
      refine x_iload C dX2_gatherMisses_17 rfl ?_
      refine x_iload_n C dX2_gatherMisses_19 rfl rfl ?_
      refine n_callVI hv1 rfl C (ok_X8_isTimedOn hv1 hw) mv_X2_74 rfl rfl ⟨Nat.le_of_ble_eq_true rfl, Nat.le_of_ble_eq_true rfl⟩ (Nat.le_of_ble_eq_true rfl) dX2_gatherMisses_20 (fun r4 M3 hw => ?_)
      refine x_if_eq (tgt := 90) C dX2_gatherMisses_23 (by decide) (fun h5 => ?_) (fun h5 => ?_)
      · replace hw := hw.1 h5
        exact x_sub [0, 1, 2, 3, 4] rfl (ok_X2_gatherMisses_b90 C r ho hv1 hv3 (fun _ _ h => h) hw)
      · replace hw := hw.2 h5
        refine x_aload_n C dX2_gatherMisses_26 rfl rfl ?_
        refine x_iload C dX2_gatherMisses_27 rfl ?_
        refine x_bipush (v := (13 : Int32)) C dX2_gatherMisses_29 (by decide) ?_
        refine n_callVI hv1 rfl C (ok_X8_told hv1 hw) mv_X2_78 rfl rfl ⟨Nat.le_of_ble_eq_true rfl, Nat.le_of_ble_eq_true rfl⟩ (Nat.le_of_ble_eq_true rfl) dX2_gatherMisses_31 (fun r7 M6 hw => ?_)
        refine x_iconst (v := (1 : Int32)) C dX2_gatherMisses_34 (by decide) ?_
        refine x_icmp_ne (tgt := 90) C dX2_gatherMisses_35 (by decide) (fun h8 => ?_) (fun h8 => ?_)
        · replace hw := hw.1 h8
          exact x_sub [0, 1, 2, 3, 4] rfl (ok_X2_gatherMisses_b90 C r ho hv1 hv3 (fun _ _ h => h) hw)
        · replace hw := hw.2 h8
          refine x_aload_n C dX2_gatherMisses_38 rfl rfl ?_
          refine x_aload_n C dX2_gatherMisses_39 rfl rfl ?_
          refine x_iload C dX2_gatherMisses_40 rfl ?_
          refine x_iconst (v := (5 : Int32)) C dX2_gatherMisses_42 (by decide) ?_
          refine n_callVI hv1 rfl C (ok_X8_told hv1 hw) mv_X2_78 rfl rfl ⟨Nat.le_of_ble_eq_true rfl, Nat.le_of_ble_eq_true rfl⟩ (Nat.le_of_ble_eq_true rfl) dX2_gatherMisses_43 (fun r10 M9 hw => ?_)
          refine x_aload_n C dX2_gatherMisses_46 rfl rfl ?_
          refine x_aload_n C dX2_gatherMisses_47 rfl rfl ?_
          refine x_iload C dX2_gatherMisses_48 rfl ?_
          refine x_aload_n C dX2_gatherMisses_50 rfl rfl ?_
          refine n_getS (dd := 2) C fl_X2_15 ho (fun _ _ => rfl) rfl dX2_gatherMisses_51 ?_
          refine x_iconst (v := (0 : Int32)) C dX2_gatherMisses_54 (by decide) ?_
          refine a_ialdL (ni := 0) C (ss_2_2 ho) (sl_2_2 ho) (by decide) (vin _ _ (by decide +kernel)) dX2_gatherMisses_55 ?_
          refine n_callVI hv1 rfl C (ok_X8_told hv1 hw) mv_X2_78 rfl rfl ⟨Nat.le_of_ble_eq_true rfl, Nat.le_of_ble_eq_true rfl⟩ (Nat.le_of_ble_eq_true rfl) dX2_gatherMisses_56 (fun r12 M11 hw => ?_)
          refine x_aload_n C dX2_gatherMisses_59 rfl rfl ?_
          refine x_iload C dX2_gatherMisses_60 rfl ?_
          refine x_aload_n C dX2_gatherMisses_62 rfl rfl ?_
          refine n_getS (dd := 2) C fl_X2_15 ho (fun _ _ => rfl) rfl dX2_gatherMisses_63 ?_
          refine x_iconst (v := (1 : Int32)) C dX2_gatherMisses_66 (by decide) ?_
          refine a_ialdL (ni := 1) C (ss_2_2 ho) (sl_2_2 ho) (by decide) (vin _ _ (by decide +kernel)) dX2_gatherMisses_67 ?_
          refine n_callVI hv1 rfl C (ok_X8_told hv1 hw) mv_X2_78 rfl rfl ⟨Nat.le_of_ble_eq_true rfl, Nat.le_of_ble_eq_true rfl⟩ (Nat.le_of_ble_eq_true rfl) dX2_gatherMisses_68 (fun r14 M13 hw => ?_)
          refine x_aload_n C dX2_gatherMisses_71 rfl rfl ?_
          refine x_iload C dX2_gatherMisses_72 rfl ?_
          refine x_aload_n C dX2_gatherMisses_74 rfl rfl ?_
          refine n_getS (dd := 2) C fl_X2_15 ho (fun _ _ => rfl) rfl dX2_gatherMisses_75 ?_
          refine x_iconst (v := (2 : Int32)) C dX2_gatherMisses_78 (by decide) ?_
          refine a_ialdL (ni := 2) C (ss_2_2 ho) (sl_2_2 ho) (by decide) (vin _ _ (by decide +kernel)) dX2_gatherMisses_79 ?_
          refine n_callVI hv1 rfl C (ok_X8_told hv1 hw) mv_X2_78 rfl rfl ⟨Nat.le_of_ble_eq_true rfl, Nat.le_of_ble_eq_true rfl⟩ (Nat.le_of_ble_eq_true rfl) dX2_gatherMisses_80 (fun r16 M15 hw => ?_)
          refine n_callVI ho rfl C (ok_X2_made ho hw) mv_X2_55 rfl rfl ⟨Nat.le_of_ble_eq_true rfl, Nat.le_of_ble_eq_true rfl⟩ (Nat.le_of_ble_eq_true rfl) dX2_gatherMisses_83 (fun r18 M17 hw => ?_)
          refine x_isub C dX2_gatherMisses_86 ?_
          refine n_callVV hv3 rfl C (ok_X0_add hv3 hw) mv_X2_82 rfl rfl ⟨Nat.le_of_ble_eq_true rfl, Nat.le_of_ble_eq_true rfl⟩ (Nat.le_of_ble_eq_true rfl) dX2_gatherMisses_87 (fun M19 hw => ?_)
          exact x_sub [0, 1, 2, 3, 4] rfl (ok_X2_gatherMisses_b90 C r ho hv1 hv3 (fun _ _ h => h) hw))
def w_X2_gatherMisses (o : Nat) (v1 : Nat) (v2 : Int32) (v3 : Nat) (M : Mem) (q : Mem → Prop) : Prop := w_X0_clear v3 M (fun (M21 : Mem) => w_X2_gatherMisses_l7 o v1 v2 v3 q ((0 : Int32), M21))
set_option maxRecDepth 100000 in
set_option maxHeartbeats 4000000 in
theorem ok_X2_gatherMisses {g : Gl} {l : Launch} {o : Nat} {v1 : Nat} {v2 : Int32} {v3 : Nat} {M : Mem} {q : Mem → Prop} (ho : sh o = .inl 2) (hv1 : sh v1 = .inl 8) (hv3 : sh v3 = .inl 0) (hw : w_X2_gatherMisses o v1 v2 v3 M q) : CtV g l yX2_gatherMisses cX2_gatherMisses 5 none 3 44 [.ref (g.2.2.2 + o), .ref (g.2.2.2 + v1), .int v2, .ref (g.2.2.2 + v3)] M q := by
  refine n_introV (by decide +kernel) (Nat.le_of_ble_eq_true rfl) (fun c C r => ?_)
  have C : Cx c cX2_gatherMisses 5 RX2 g l (Rm 3 44) := C
  refine x_sub [0, 1, 2, 3] (lv' := [(0, .ref (g.2.2.2 + o)), (1, .ref (g.2.2.2 + v1)), (2, .int v2), (3, .ref (g.2.2.2 + v3))]) rfl ?_
  unfold w_X2_gatherMisses at hw
  refine x_aload_n C dX2_gatherMisses_0 rfl rfl ?_
  refine n_callVV hv3 rfl C (ok_X0_clear hv3 hw) mv_X2_65 rfl rfl ⟨Nat.le_of_ble_eq_true rfl, Nat.le_of_ble_eq_true rfl⟩ (Nat.le_of_ble_eq_true rfl) dX2_gatherMisses_1 (fun M21 hw => ?_)
  refine x_iconst (v := (0 : Int32)) C dX2_gatherMisses_4 (by decide) ?_
  refine x_istore C dX2_gatherMisses_5 (Nat.le_of_ble_eq_true rfl) ?_
  exact x_sub [0, 1, 2, 3, 4] rfl (ok_X2_gatherMisses_l7 C r ho hv1 hv3 hw)

def w_X3_takeFrom (o : Nat) (v1 : Nat) (M : Mem) (q : Mem → Prop) : Prop := ∀ M1 : Mem, M1 = cpI M (v1 + 1) (o + 1) 0 0 8 → ∀ M2 : Mem, M2 = uI M1 o 1 (M1.1 v1 1) → ∀ M3 : Mem, M3 = uI M2 o 2 (M2.1 v1 2) → ∀ M4 : Mem, M4 = uI M3 o 3 (M3.1 v1 3) → ∀ M5 : Mem, M5 = cpI M4 (v1 + 2) (o + 2) 0 0 16 → ∀ M6 : Mem, M6 = uI M5 o 5 (M5.1 v1 5) → ∀ M7 : Mem, M7 = uI M6 o 6 (M6.1 v1 6) → ∀ M8 : Mem, M8 = cpI M7 (v1 + 3) (o + 3) 0 0 16 → ∀ M9 : Mem, M9 = uI M8 o 8 (M8.1 v1 8) → ∀ M10 : Mem, M10 = uI M9 o 9 (M9.1 v1 9) → ∀ M11 : Mem, M11 = uI M10 o 10 (M10.1 v1 10) → bz (M11.1 v1 11) ∧ ∀ M12 : Mem, M12 = uI M11 o 11 (M11.1 v1 11) → q M12
set_option maxRecDepth 100000 in
set_option maxHeartbeats 4000000 in
theorem ok_X3_takeFrom {g : Gl} {l : Launch} {o : Nat} {v1 : Nat} {M : Mem} {q : Mem → Prop} (ho : sh o = .inl 3) (hv1 : sh v1 = .inl 3) (hw : w_X3_takeFrom o v1 M q) : CtV g l yX3_takeFrom cX3_takeFrom 2 none 1 60 [.ref (g.2.2.2 + o), .ref (g.2.2.2 + v1)] M q := by
  refine n_introV (by decide +kernel) (Nat.le_of_ble_eq_true rfl) (fun c C r => ?_)
  have C : Cx c cX3_takeFrom 2 RX3 g l (Rm 1 60) := C
  refine x_sub [0, 1] (lv' := [(0, .ref (g.2.2.2 + o)), (1, .ref (g.2.2.2 + v1))]) rfl ?_
  unfold w_X3_takeFrom at hw
  refine x_aload_n C dX3_takeFrom_0 rfl rfl ?_
  refine n_getS (dd := 1) C fl_X3_9 hv1 (fun _ _ => rfl) rfl dX3_takeFrom_1 ?_
  refine x_iconst (v := (0 : Int32)) C dX3_takeFrom_4 (by decide) ?_
  refine x_aload_n C dX3_takeFrom_5 rfl rfl ?_
  refine n_getS (dd := 1) C fl_X3_9 ho (fun _ _ => rfl) rfl dX3_takeFrom_6 ?_
  refine x_iconst (v := (0 : Int32)) C dX3_takeFrom_9 (by decide) ?_
  refine x_aload_n C dX3_takeFrom_10 rfl rfl ?_
  refine n_getS (dd := 1) C fl_X3_9 ho (fun _ _ => rfl) rfl dX3_takeFrom_11 ?_
  refine m_alenL (v := (8 : Int32)) C (ss_3_0 ho) (by decide) (by rw [(sl_3_0 ho)]; decide) dX3_takeFrom_14 ?_
  obtain ⟨M1, eM1⟩ : ∃ z : Mem, z = cpI M (v1 + 1) (o + 1) 0 0 8 := ⟨_, rfl⟩
  replace hw := hw M1 eM1
  refine a_copy C ac_X3_43 ac_native ac_static ac_init (ss_3_0 hv1) (ss_3_0 ho) (sl_3_0 hv1) (sl_3_0 ho) (by decide) (by decide) (by decide) (by decide) (by decide) (by decide) (by decide) (by decide) eM1 (Nat.le_of_ble_eq_true rfl) (Nat.le_of_ble_eq_true rfl) (Nat.le_of_ble_eq_true rfl) dX3_takeFrom_15 ?_
  refine x_aload_n C dX3_takeFrom_18 rfl rfl ?_
  refine x_aload_n C dX3_takeFrom_19 rfl rfl ?_
  refine n_getI C fl_X3_15 hv1 (fun _ _ => rfl) dX3_takeFrom_20 ?_
  obtain ⟨M2, eM2⟩ : ∃ z : Mem, z = uI M1 o 1 (M1.1 v1 1) := ⟨_, rfl⟩
  replace hw := hw M2 eM2
  refine m_putI C fp_X3_15 ho (fun _ _ => rfl) rfl rfl eM2 dX3_takeFrom_23 ?_
  refine x_aload_n C dX3_takeFrom_26 rfl rfl ?_
  refine x_aload_n C dX3_takeFrom_27 rfl rfl ?_
  refine n_getI C fl_X3_19 hv1 (fun _ _ => rfl) dX3_takeFrom_28 ?_
  obtain ⟨M3, eM3⟩ : ∃ z : Mem, z = uI M2 o 2 (M2.1 v1 2) := ⟨_, rfl⟩
  replace hw := hw M3 eM3
  refine m_putI C fp_X3_19 ho (fun _ _ => rfl) rfl rfl eM3 dX3_takeFrom_31 ?_
  refine x_aload_n C dX3_takeFrom_34 rfl rfl ?_
  refine x_aload_n C dX3_takeFrom_35 rfl rfl ?_
  refine n_getI C fl_X3_22 hv1 (fun _ _ => rfl) dX3_takeFrom_36 ?_
  obtain ⟨M4, eM4⟩ : ∃ z : Mem, z = uI M3 o 3 (M3.1 v1 3) := ⟨_, rfl⟩
  replace hw := hw M4 eM4
  refine m_putI C fp_X3_22 ho (fun _ _ => rfl) rfl rfl eM4 dX3_takeFrom_39 ?_
  refine x_aload_n C dX3_takeFrom_42 rfl rfl ?_
  refine n_getS (dd := 2) C fl_X3_25 hv1 (fun _ _ => rfl) rfl dX3_takeFrom_43 ?_
  refine x_iconst (v := (0 : Int32)) C dX3_takeFrom_46 (by decide) ?_
  refine x_aload_n C dX3_takeFrom_47 rfl rfl ?_
  refine n_getS (dd := 2) C fl_X3_25 ho (fun _ _ => rfl) rfl dX3_takeFrom_48 ?_
  refine x_iconst (v := (0 : Int32)) C dX3_takeFrom_51 (by decide) ?_
  refine x_aload_n C dX3_takeFrom_52 rfl rfl ?_
  refine n_getS (dd := 2) C fl_X3_25 ho (fun _ _ => rfl) rfl dX3_takeFrom_53 ?_
  refine m_alenL (v := (16 : Int32)) C (ss_3_4 ho) (by decide) (by rw [(sl_3_4 ho)]; decide) dX3_takeFrom_56 ?_
  obtain ⟨M5, eM5⟩ : ∃ z : Mem, z = cpI M4 (v1 + 2) (o + 2) 0 0 16 := ⟨_, rfl⟩
  replace hw := hw M5 eM5
  refine a_copy C ac_X3_43 ac_native ac_static ac_init (ss_3_4 hv1) (ss_3_4 ho) (sl_3_4 hv1) (sl_3_4 ho) (by decide) (by decide) (by decide) (by decide) (by decide) (by decide) (by decide) (by decide) eM5 (Nat.le_of_ble_eq_true rfl) (Nat.le_of_ble_eq_true rfl) (Nat.le_of_ble_eq_true rfl) dX3_takeFrom_57 ?_
  refine x_aload_n C dX3_takeFrom_60 rfl rfl ?_
  refine x_aload_n C dX3_takeFrom_61 rfl rfl ?_
  refine n_getI C fl_X3_28 hv1 (fun _ _ => rfl) dX3_takeFrom_62 ?_
  obtain ⟨M6, eM6⟩ : ∃ z : Mem, z = uI M5 o 5 (M5.1 v1 5) := ⟨_, rfl⟩
  replace hw := hw M6 eM6
  refine m_putI C fp_X3_28 ho (fun _ _ => rfl) rfl rfl eM6 dX3_takeFrom_65 ?_
  refine x_aload_n C dX3_takeFrom_68 rfl rfl ?_
  refine x_aload_n C dX3_takeFrom_69 rfl rfl ?_
  refine n_getI C fl_X3_31 hv1 (fun _ _ => rfl) dX3_takeFrom_70 ?_
  obtain ⟨M7, eM7⟩ : ∃ z : Mem, z = uI M6 o 6 (M6.1 v1 6) := ⟨_, rfl⟩
  replace hw := hw M7 eM7
  refine m_putI C fp_X3_31 ho (fun _ _ => rfl) rfl rfl eM7 dX3_takeFrom_73 ?_
  refine x_aload_n C dX3_takeFrom_76 rfl rfl ?_
  refine n_getS (dd := 3) C fl_X3_34 hv1 (fun _ _ => rfl) rfl dX3_takeFrom_77 ?_
  refine x_iconst (v := (0 : Int32)) C dX3_takeFrom_80 (by decide) ?_
  refine x_aload_n C dX3_takeFrom_81 rfl rfl ?_
  refine n_getS (dd := 3) C fl_X3_34 ho (fun _ _ => rfl) rfl dX3_takeFrom_82 ?_
  refine x_iconst (v := (0 : Int32)) C dX3_takeFrom_85 (by decide) ?_
  refine x_aload_n C dX3_takeFrom_86 rfl rfl ?_
  refine n_getS (dd := 3) C fl_X3_34 ho (fun _ _ => rfl) rfl dX3_takeFrom_87 ?_
  refine m_alenL (v := (16 : Int32)) C (ss_3_7 ho) (by decide) (by rw [(sl_3_7 ho)]; decide) dX3_takeFrom_90 ?_
  obtain ⟨M8, eM8⟩ : ∃ z : Mem, z = cpI M7 (v1 + 3) (o + 3) 0 0 16 := ⟨_, rfl⟩
  replace hw := hw M8 eM8
  refine a_copy C ac_X3_43 ac_native ac_static ac_init (ss_3_7 hv1) (ss_3_7 ho) (sl_3_7 hv1) (sl_3_7 ho) (by decide) (by decide) (by decide) (by decide) (by decide) (by decide) (by decide) (by decide) eM8 (Nat.le_of_ble_eq_true rfl) (Nat.le_of_ble_eq_true rfl) (Nat.le_of_ble_eq_true rfl) dX3_takeFrom_91 ?_
  refine x_aload_n C dX3_takeFrom_94 rfl rfl ?_
  refine x_aload_n C dX3_takeFrom_95 rfl rfl ?_
  refine n_getI C fl_X3_49 hv1 (fun _ _ => rfl) dX3_takeFrom_96 ?_
  obtain ⟨M9, eM9⟩ : ∃ z : Mem, z = uI M8 o 8 (M8.1 v1 8) := ⟨_, rfl⟩
  replace hw := hw M9 eM9
  refine m_putI C fp_X3_49 ho (fun _ _ => rfl) rfl rfl eM9 dX3_takeFrom_99 ?_
  refine x_aload_n C dX3_takeFrom_102 rfl rfl ?_
  refine x_aload_n C dX3_takeFrom_103 rfl rfl ?_
  refine n_getI C fl_X3_52 hv1 (fun _ _ => rfl) dX3_takeFrom_104 ?_
  obtain ⟨M10, eM10⟩ : ∃ z : Mem, z = uI M9 o 9 (M9.1 v1 9) := ⟨_, rfl⟩
  replace hw := hw M10 eM10
  refine m_putI C fp_X3_52 ho (fun _ _ => rfl) rfl rfl eM10 dX3_takeFrom_107 ?_
  refine x_aload_n C dX3_takeFrom_110 rfl rfl ?_
  refine x_aload_n C dX3_takeFrom_111 rfl rfl ?_
  refine n_getI C fl_X3_55 hv1 (fun _ _ => rfl) dX3_takeFrom_112 ?_
  obtain ⟨M11, eM11⟩ : ∃ z : Mem, z = uI M10 o 10 (M10.1 v1 10) := ⟨_, rfl⟩
  replace hw := hw M11 eM11
  refine m_putI C fp_X3_55 ho (fun _ _ => rfl) rfl rfl eM11 dX3_takeFrom_115 ?_
  refine x_aload_n C dX3_takeFrom_118 rfl rfl ?_
  refine x_aload_n C dX3_takeFrom_119 rfl rfl ?_
  refine n_getI C fl_X3_58 hv1 (fun _ _ => rfl) dX3_takeFrom_120 ?_
  obtain ⟨h13, hw⟩ := hw
  obtain ⟨M12, eM12⟩ : ∃ z : Mem, z = uI M11 o 11 (M11.1 v1 11) := ⟨_, rfl⟩
  replace hw := hw M12 eM12
  refine m_putI C fp_X3_58 ho (fun _ _ => rfl) (bz_n h13) (bz_f h13) eM12 dX3_takeFrom_123 ?_
  exact n_vreturn C r dX3_takeFrom_126 hw

def w_X3_tellCache_b24 (o : Nat) (v1 : Int32) (v2 : Int32) (v3 : Int32) (M : Mem) (q : Mem → Prop) : Prop := ∀ M1 : Mem, M1 = uI M o 1 v1 → ∀ M2 : Mem, M2 = uI M1 o 2 v2 → ∀ M3 : Mem, M3 = uI M2 o 3 v3 → q M3
set_option maxRecDepth 100000 in
set_option maxHeartbeats 4000000 in
theorem ok_X3_tellCache_b24 {c : CtxT} {g : Gl} {l : Launch} {o : Nat} {v1 : Int32} {v2 : Int32} {v3 : Int32} {q : Mem → Prop} {M : Mem} (C : Cx c cX3_tellCache 4 RX3 g l (Rm 2 23)) (r : Rt c (none) (pV q) 0 0) (ho : sh o = .inl 3) (hw : w_X3_tellCache_b24 o v1 v2 v3 M q ) : X c S0 24 [(0, .ref (g.2.2.2 + o)), (1, .int v1), (2, .int v2), (3, .int v3)] [] (stat M) := by
  unfold w_X3_tellCache_b24 at hw
  refine x_aload_n C dX3_tellCache_24 rfl rfl ?_
  refine x_iload_n C dX3_tellCache_25 rfl rfl ?_
  obtain ⟨M1, eM1⟩ : ∃ z : Mem, z = uI M o 1 v1 := ⟨_, rfl⟩
  replace hw := hw M1 eM1
  refine m_putI C fp_X3_15 ho (fun _ _ => rfl) rfl rfl eM1 dX3_tellCache_26 ?_
  refine x_aload_n C dX3_tellCache_29 rfl rfl ?_
  refine x_iload_n C dX3_tellCache_30 rfl rfl ?_
  obtain ⟨M2, eM2⟩ : ∃ z : Mem, z = uI M1 o 2 v2 := ⟨_, rfl⟩
  replace hw := hw M2 eM2
  refine m_putI C fp_X3_19 ho (fun _ _ => rfl) rfl rfl eM2 dX3_tellCache_31 ?_
  refine x_aload_n C dX3_tellCache_34 rfl rfl ?_
  refine x_iload_n C dX3_tellCache_35 rfl rfl ?_
  obtain ⟨M3, eM3⟩ : ∃ z : Mem, z = uI M2 o 3 v3 := ⟨_, rfl⟩
  replace hw := hw M3 eM3
  refine m_putI C fp_X3_22 ho (fun _ _ => rfl) rfl rfl eM3 dX3_tellCache_36 ?_
  exact n_vreturn C r dX3_tellCache_39 hw
def w_X3_tellCache_b16 (o : Nat) (v1 : Int32) (v2 : Int32) (v3 : Int32) (M : Mem) (q : Mem → Prop) : Prop := w_J7_fill_53178 (o + 2) (-1 : Int32) M (fun (M4 : Mem) => w_X3_tellCache_b24 o v1 v2 v3 M4 q)
set_option maxRecDepth 100000 in
set_option maxHeartbeats 4000000 in
theorem ok_X3_tellCache_b16 {c : CtxT} {g : Gl} {l : Launch} {o : Nat} {v1 : Int32} {v2 : Int32} {v3 : Int32} {q : Mem → Prop} {M : Mem} (C : Cx c cX3_tellCache 4 RX3 g l (Rm 2 23)) (r : Rt c (none) (pV q) 0 0) (ho : sh o = .inl 3) (hw : w_X3_tellCache_b16 o v1 v2 v3 M q ) : X c S0 16 [(0, .ref (g.2.2.2 + o)), (1, .int v1), (2, .int v2), (3, .int v3)] [] (stat M) := by
  unfold w_X3_tellCache_b16 at hw
  refine x_aload_n C dX3_tellCache_16 rfl rfl ?_
  refine n_getS (dd := 2) C fl_X3_25 ho (fun _ _ => rfl) rfl dX3_tellCache_17 ?_
  refine x_iconst (v := (-1 : Int32)) C dX3_tellCache_20 (by decide) ?_
  refine n_callSV C (ok_J7_fill_53178 (ss_3_4 ho) hw) ms_X3_37 rfl rfl ⟨Nat.le_of_ble_eq_true rfl, Nat.le_of_ble_eq_true rfl⟩ (Nat.le_of_ble_eq_true rfl) dX3_tellCache_21 (fun M4 hw => ?_)
  exact x_sub [0, 1, 2, 3] rfl (ok_X3_tellCache_b24 C r ho hw)
def w_X3_tellCache (o : Nat) (v1 : Int32) (v2 : Int32) (v3 : Int32) (M : Mem) (q : Mem → Prop) : Prop := ((¬ v1 = (M.1 o 1) → w_X3_tellCache_b16 o v1 v2 v3 M q) ∧ (v1 = (M.1 o 1) → ((v2 = (M.1 o 2) → w_X3_tellCache_b24 o v1 v2 v3 M q) ∧ (¬ v2 = (M.1 o 2) → w_X3_tellCache_b16 o v1 v2 v3 M q))))
set_option maxRecDepth 100000 in
set_option maxHeartbeats 4000000 in
theorem ok_X3_tellCache {g : Gl} {l : Launch} {o : Nat} {v1 : Int32} {v2 : Int32} {v3 : Int32} {M : Mem} {q : Mem → Prop} (ho : sh o = .inl 3) (hw : w_X3_tellCache o v1 v2 v3 M q) : CtV g l yX3_tellCache cX3_tellCache 4 none 2 23 [.ref (g.2.2.2 + o), .int v1, .int v2, .int v3] M q := by
  refine n_introV (by decide +kernel) (Nat.le_of_ble_eq_true rfl) (fun c C r => ?_)
  have C : Cx c cX3_tellCache 4 RX3 g l (Rm 2 23) := C
  refine x_sub [0, 1, 2, 3] (lv' := [(0, .ref (g.2.2.2 + o)), (1, .int v1), (2, .int v2), (3, .int v3)]) rfl ?_
  unfold w_X3_tellCache at hw
  refine x_iload_n C dX3_tellCache_0 rfl rfl ?_
  refine x_aload_n C dX3_tellCache_1 rfl rfl ?_
  refine n_getI C fl_X3_15 ho (fun _ _ => rfl) dX3_tellCache_2 ?_
  refine x_icmp_ne (tgt := 16) C dX3_tellCache_5 (by decide) (fun h6 => ?_) (fun h6 => ?_)
  · replace hw := hw.1 h6
    exact x_sub [0, 1, 2, 3] rfl (ok_X3_tellCache_b16 C r ho hw)
  · replace hw := hw.2 h6
    refine x_iload_n C dX3_tellCache_8 rfl rfl ?_
    refine x_aload_n C dX3_tellCache_9 rfl rfl ?_
    refine n_getI C fl_X3_19 ho (fun _ _ => rfl) dX3_tellCache_10 ?_
    refine x_icmp_eq (tgt := 24) C dX3_tellCache_13 (by decide) (fun h7 => ?_) (fun h7 => ?_)
    · replace hw := hw.1 h7
      exact x_sub [0, 1, 2, 3] rfl (ok_X3_tellCache_b24 C r ho hw)
    · replace hw := hw.2 h7
      exact x_sub [0, 1, 2, 3] rfl (ok_X3_tellCache_b16 C r ho hw)

def w_X3_tellGuesses_b16 (o : Nat) (v1 : Int32) (v2 : Int32) (M : Mem) (q : Mem → Prop) : Prop := ∀ M1 : Mem, M1 = uI M o 5 v1 → ∀ M2 : Mem, M2 = uI M1 o 6 v2 → q M2
set_option maxRecDepth 100000 in
set_option maxHeartbeats 4000000 in
theorem ok_X3_tellGuesses_b16 {c : CtxT} {g : Gl} {l : Launch} {o : Nat} {v1 : Int32} {v2 : Int32} {q : Mem → Prop} {M : Mem} (C : Cx c cX3_tellGuesses 3 RX3 g l (Rm 2 23)) (r : Rt c (none) (pV q) 0 0) (ho : sh o = .inl 3) (hw : w_X3_tellGuesses_b16 o v1 v2 M q ) : X c S0 16 [(0, .ref (g.2.2.2 + o)), (1, .int v1), (2, .int v2)] [] (stat M) := by
  unfold w_X3_tellGuesses_b16 at hw
  refine x_aload_n C dX3_tellGuesses_16 rfl rfl ?_
  refine x_iload_n C dX3_tellGuesses_17 rfl rfl ?_
  obtain ⟨M1, eM1⟩ : ∃ z : Mem, z = uI M o 5 v1 := ⟨_, rfl⟩
  replace hw := hw M1 eM1
  refine m_putI C fp_X3_28 ho (fun _ _ => rfl) rfl rfl eM1 dX3_tellGuesses_18 ?_
  refine x_aload_n C dX3_tellGuesses_21 rfl rfl ?_
  refine x_iload_n C dX3_tellGuesses_22 rfl rfl ?_
  obtain ⟨M2, eM2⟩ : ∃ z : Mem, z = uI M1 o 6 v2 := ⟨_, rfl⟩
  replace hw := hw M2 eM2
  refine m_putI C fp_X3_31 ho (fun _ _ => rfl) rfl rfl eM2 dX3_tellGuesses_23 ?_
  exact n_vreturn C r dX3_tellGuesses_26 hw
def w_X3_tellGuesses (o : Nat) (v1 : Int32) (v2 : Int32) (M : Mem) (q : Mem → Prop) : Prop := ((v1 = (M.1 o 5) → w_X3_tellGuesses_b16 o v1 v2 M q) ∧ (¬ v1 = (M.1 o 5) → w_J7_fill_53178 (o + 3) (0 : Int32) M (fun (M4 : Mem) => w_X3_tellGuesses_b16 o v1 v2 M4 q)))
set_option maxRecDepth 100000 in
set_option maxHeartbeats 4000000 in
theorem ok_X3_tellGuesses {g : Gl} {l : Launch} {o : Nat} {v1 : Int32} {v2 : Int32} {M : Mem} {q : Mem → Prop} (ho : sh o = .inl 3) (hw : w_X3_tellGuesses o v1 v2 M q) : CtV g l yX3_tellGuesses cX3_tellGuesses 3 none 2 23 [.ref (g.2.2.2 + o), .int v1, .int v2] M q := by
  refine n_introV (by decide +kernel) (Nat.le_of_ble_eq_true rfl) (fun c C r => ?_)
  have C : Cx c cX3_tellGuesses 3 RX3 g l (Rm 2 23) := C
  refine x_sub [0, 1, 2] (lv' := [(0, .ref (g.2.2.2 + o)), (1, .int v1), (2, .int v2)]) rfl ?_
  unfold w_X3_tellGuesses at hw
  refine x_iload_n C dX3_tellGuesses_0 rfl rfl ?_
  refine x_aload_n C dX3_tellGuesses_1 rfl rfl ?_
  refine n_getI C fl_X3_28 ho (fun _ _ => rfl) dX3_tellGuesses_2 ?_
  refine x_icmp_eq (tgt := 16) C dX3_tellGuesses_5 (by decide) (fun h3 => ?_) (fun h3 => ?_)
  · replace hw := hw.1 h3
    exact x_sub [0, 1, 2] rfl (ok_X3_tellGuesses_b16 C r ho hw)
  · replace hw := hw.2 h3
    refine x_aload_n C dX3_tellGuesses_8 rfl rfl ?_
    refine n_getS (dd := 3) C fl_X3_34 ho (fun _ _ => rfl) rfl dX3_tellGuesses_9 ?_
    refine x_iconst (v := (0 : Int32)) C dX3_tellGuesses_12 (by decide) ?_
    refine n_callSV C (ok_J7_fill_53178 (ss_3_7 ho) hw) ms_X3_37 rfl rfl ⟨Nat.le_of_ble_eq_true rfl, Nat.le_of_ble_eq_true rfl⟩ (Nat.le_of_ble_eq_true rfl) dX3_tellGuesses_13 (fun M4 hw => ?_)
    exact x_sub [0, 1, 2] rfl (ok_X3_tellGuesses_b16 C r ho hw)

def w_X3_tellNoise (o : Nat) (v1 : Int32) (v2 : Int32) (v3 : Int32) (v4 : Int32) (M : Mem) (q : Mem → Prop) : Prop := ∀ M1 : Mem, M1 = uI M o 8 v1 → ∀ M2 : Mem, M2 = uI M1 o 9 v2 → ∀ M3 : Mem, M3 = uI M2 o 10 v3 → bz v4 ∧ ∀ M4 : Mem, M4 = uI M3 o 11 v4 → q M4
set_option maxRecDepth 100000 in
set_option maxHeartbeats 4000000 in
theorem ok_X3_tellNoise {g : Gl} {l : Launch} {o : Nat} {v1 : Int32} {v2 : Int32} {v3 : Int32} {v4 : Int32} {M : Mem} {q : Mem → Prop} (ho : sh o = .inl 3) (hw : w_X3_tellNoise o v1 v2 v3 v4 M q) : CtV g l yX3_tellNoise cX3_tellNoise 5 none 1 0 [.ref (g.2.2.2 + o), .int v1, .int v2, .int v3, .int v4] M q := by
  refine n_introV (by decide +kernel) (Nat.le_of_ble_eq_true rfl) (fun c C r => ?_)
  have C : Cx c cX3_tellNoise 5 RX3 g l (Rm 1 0) := C
  refine x_sub [0, 1, 2, 3, 4] (lv' := [(0, .ref (g.2.2.2 + o)), (1, .int v1), (2, .int v2), (3, .int v3), (4, .int v4)]) rfl ?_
  unfold w_X3_tellNoise at hw
  refine x_aload_n C dX3_tellNoise_0 rfl rfl ?_
  refine x_iload_n C dX3_tellNoise_1 rfl rfl ?_
  obtain ⟨M1, eM1⟩ : ∃ z : Mem, z = uI M o 8 v1 := ⟨_, rfl⟩
  replace hw := hw M1 eM1
  refine m_putI C fp_X3_49 ho (fun _ _ => rfl) rfl rfl eM1 dX3_tellNoise_2 ?_
  refine x_aload_n C dX3_tellNoise_5 rfl rfl ?_
  refine x_iload_n C dX3_tellNoise_6 rfl rfl ?_
  obtain ⟨M2, eM2⟩ : ∃ z : Mem, z = uI M1 o 9 v2 := ⟨_, rfl⟩
  replace hw := hw M2 eM2
  refine m_putI C fp_X3_52 ho (fun _ _ => rfl) rfl rfl eM2 dX3_tellNoise_7 ?_
  refine x_aload_n C dX3_tellNoise_10 rfl rfl ?_
  refine x_iload_n C dX3_tellNoise_11 rfl rfl ?_
  obtain ⟨M3, eM3⟩ : ∃ z : Mem, z = uI M2 o 10 v3 := ⟨_, rfl⟩
  replace hw := hw M3 eM3
  refine m_putI C fp_X3_55 ho (fun _ _ => rfl) rfl rfl eM3 dX3_tellNoise_12 ?_
  refine x_aload_n C dX3_tellNoise_15 rfl rfl ?_
  refine x_iload C dX3_tellNoise_16 rfl ?_
  obtain ⟨h5, hw⟩ := hw
  obtain ⟨M4, eM4⟩ : ∃ z : Mem, z = uI M3 o 11 v4 := ⟨_, rfl⟩
  replace hw := hw M4 eM4
  refine m_putI C fp_X3_58 ho (fun _ _ => rfl) (bz_n h5) (bz_f h5) eM4 dX3_tellNoise_18 ?_
  exact n_vreturn C r dX3_tellNoise_21 hw

def w_X3_drawn (v0 : Int32) (M : Mem) (q : Int32 → Mem → Prop) : Prop := q ((v0 * (1103515245 : Int32)) + (12345 : Int32)) M
set_option maxRecDepth 100000 in
set_option maxHeartbeats 4000000 in
theorem ok_X3_drawn {g : Gl} {l : Launch} {v0 : Int32} {M : Mem} {q : Int32 → Mem → Prop} (hw : w_X3_drawn v0 M q) : CtI g l yX3_drawn cX3_drawn 1 (some .int) 1 0 [.int v0] M q := by
  refine n_introI (by decide +kernel) (Nat.le_of_ble_eq_true rfl) (fun c C r => ?_)
  have C : Cx c cX3_drawn 1 RX3 g l (Rm 1 0) := C
  refine x_sub [0] (lv' := [(0, .int v0)]) rfl ?_
  unfold w_X3_drawn at hw
  refine x_iload_n C dX3_drawn_0 rfl rfl ?_
  refine x_ldc (v := (1103515245 : Int32)) C dX3_drawn_1 kc_X3_73 ?_
  refine x_imul C dX3_drawn_3 ?_
  refine x_sipush (v := (12345 : Int32)) C dX3_drawn_4 (by decide) ?_
  refine x_iadd C dX3_drawn_7 ?_
  exact n_ireturn C r dX3_drawn_8 hw

def w_X3_highBits (v0 : Int32) (M : Mem) (q : Int32 → Mem → Prop) : Prop := q (iush v0 (16 : Int32)) M
set_option maxRecDepth 100000 in
set_option maxHeartbeats 4000000 in
theorem ok_X3_highBits {g : Gl} {l : Launch} {v0 : Int32} {M : Mem} {q : Int32 → Mem → Prop} (hw : w_X3_highBits v0 M q) : CtI g l yX3_highBits cX3_highBits 1 (some .int) 1 0 [.int v0] M q := by
  refine n_introI (by decide +kernel) (Nat.le_of_ble_eq_true rfl) (fun c C r => ?_)
  have C : Cx c cX3_highBits 1 RX3 g l (Rm 1 0) := C
  refine x_sub [0] (lv' := [(0, .int v0)]) rfl ?_
  unfold w_X3_highBits at hw
  refine x_iload_n C dX3_highBits_0 rfl rfl ?_
  refine x_bipush (v := (16 : Int32)) C dX3_highBits_1 (by decide) ?_
  refine x_iushv C dX3_highBits_3 ?_
  exact n_ireturn C r dX3_highBits_4 hw

def w_X3_placeBy (o : Nat) (v1 : Int32) (M : Mem) (q : Int32 → Mem → Prop) : Prop := (((M.1 o 11) = 0 → q (0 : Int32) M) ∧ (¬ (M.1 o 11) = 0 → w_X3_drawn v1 M (fun (r3 : Int32) (M2 : Mem) => w_X3_highBits r3 M2 (fun (r5 : Int32) (M4 : Mem) => w_X11_leftOver r5 (64 : Int32) M4 (fun (r7 : Int32) (M6 : Mem) => q r7 M6)))))
set_option maxRecDepth 100000 in
set_option maxHeartbeats 4000000 in
theorem ok_X3_placeBy {g : Gl} {l : Launch} {o : Nat} {v1 : Int32} {M : Mem} {q : Int32 → Mem → Prop} (ho : sh o = .inl 3) (hw : w_X3_placeBy o v1 M q) : CtI g l yX3_placeBy cX3_placeBy 2 (some .int) 2 22 [.ref (g.2.2.2 + o), .int v1] M q := by
  refine n_introI (by decide +kernel) (Nat.le_of_ble_eq_true rfl) (fun c C r => ?_)
  have C : Cx c cX3_placeBy 2 RX3 g l (Rm 2 22) := C
  refine x_sub [0, 1] (lv' := [(0, .ref (g.2.2.2 + o)), (1, .int v1)]) rfl ?_
  unfold w_X3_placeBy at hw
  refine x_aload_n C dX3_placeBy_0 rfl rfl ?_
  refine n_getI C fl_X3_58 ho (fun _ _ => rfl) dX3_placeBy_1 ?_
  refine x_if_eq (tgt := 22) C dX3_placeBy_4 (by decide) (fun h1 => ?_) (fun h1 => ?_)
  · replace hw := hw.1 h1
    refine x_iconst (v := (0 : Int32)) C dX3_placeBy_22 (by decide) ?_
    exact n_ireturn C r dX3_placeBy_23 hw
  · replace hw := hw.2 h1
    refine x_iload_n C dX3_placeBy_7 rfl rfl ?_
    refine n_callSI C (ok_X3_drawn  hw) ms_X3_62 rfl rfl ⟨Nat.le_of_ble_eq_true rfl, Nat.le_of_ble_eq_true rfl⟩ (Nat.le_of_ble_eq_true rfl) dX3_placeBy_8 (fun r3 M2 hw => ?_)
    refine n_callSI C (ok_X3_highBits  hw) ms_X3_66 rfl rfl ⟨Nat.le_of_ble_eq_true rfl, Nat.le_of_ble_eq_true rfl⟩ (Nat.le_of_ble_eq_true rfl) dX3_placeBy_11 (fun r5 M4 hw => ?_)
    refine x_bipush (v := (64 : Int32)) C dX3_placeBy_14 (by decide) ?_
    refine n_callNI C (ok_X11_leftOver  hw) mn_X3_69 rfl rfl ⟨Nat.le_of_ble_eq_true rfl, Nat.le_of_ble_eq_true rfl⟩ (Nat.le_of_ble_eq_true rfl) dX3_placeBy_16 (fun r7 M6 hw => ?_)
    refine x_goto (tgt := 23) C dX3_placeBy_19 (by decide) ?_
    exact n_ireturn C r dX3_placeBy_23 hw

def w_X3_noiseBy_b32 (o : Nat) (v2 : Int32) (t0 : Int32) (M : Mem) (q : Int32 → Mem → Prop) : Prop := ((t0 = 0 → q (((M.1 o 8) * v2) + (0 : Int32)) M) ∧ (¬ t0 = 0 → q (((M.1 o 8) * v2) + (M.1 o 9)) M))
set_option maxRecDepth 100000 in
set_option maxHeartbeats 4000000 in
theorem ok_X3_noiseBy_b32 {c : CtxT} {g : Gl} {l : Launch} {o : Nat} {v2 : Int32} {t0 : Int32} {q : Int32 → Mem → Prop} {M : Mem} (C : Cx c cX3_noiseBy 4 RX3 g l (Rm 2 22)) (r : Rt c (some .int) (pI q) 0 0) (ho : sh o = .inl 3) (hw : w_X3_noiseBy_b32 o v2 t0 M q ) : X c S0 32 [(0, .ref (g.2.2.2 + o)), (2, .int v2)] [.int t0] (stat M) := by
  unfold w_X3_noiseBy_b32 at hw
  refine x_istore_n C dX3_noiseBy_32 rfl (Nat.le_of_ble_eq_true rfl) ?_
  refine x_aload_n C dX3_noiseBy_33 rfl rfl ?_
  refine n_getI C fl_X3_49 ho (fun _ _ => rfl) dX3_noiseBy_34 ?_
  refine x_iload_n C dX3_noiseBy_37 rfl rfl ?_
  refine x_imul C dX3_noiseBy_38 ?_
  refine x_iload_n C dX3_noiseBy_39 rfl rfl ?_
  refine x_if_eq (tgt := 50) C dX3_noiseBy_40 (by decide) (fun h1 => ?_) (fun h1 => ?_)
  · replace hw := hw.1 h1
    refine x_iconst (v := (0 : Int32)) C dX3_noiseBy_50 (by decide) ?_
    refine x_iadd C dX3_noiseBy_51 ?_
    exact n_ireturn C r dX3_noiseBy_52 hw
  · replace hw := hw.2 h1
    refine x_aload_n C dX3_noiseBy_43 rfl rfl ?_
    refine n_getI C fl_X3_52 ho (fun _ _ => rfl) dX3_noiseBy_44 ?_
    refine x_goto (tgt := 51) C dX3_noiseBy_47 (by decide) ?_
    refine x_iadd C dX3_noiseBy_51 ?_
    exact n_ireturn C r dX3_noiseBy_52 hw
def w_X3_noiseBy_b31 (o : Nat) (v2 : Int32) (M : Mem) (q : Int32 → Mem → Prop) : Prop := w_X3_noiseBy_b32 o v2 (0 : Int32) M q
set_option maxRecDepth 100000 in
set_option maxHeartbeats 4000000 in
theorem ok_X3_noiseBy_b31 {c : CtxT} {g : Gl} {l : Launch} {o : Nat} {v2 : Int32} {q : Int32 → Mem → Prop} {M : Mem} (C : Cx c cX3_noiseBy 4 RX3 g l (Rm 2 22)) (r : Rt c (some .int) (pI q) 0 0) (ho : sh o = .inl 3) (hw : w_X3_noiseBy_b31 o v2 M q ) : X c S0 31 [(0, .ref (g.2.2.2 + o)), (2, .int v2)] [] (stat M) := by
  unfold w_X3_noiseBy_b31 at hw
  refine x_iconst (v := (0 : Int32)) C dX3_noiseBy_31 (by decide) ?_
  exact x_sub [0, 2] rfl (ok_X3_noiseBy_b32 C r ho hw)
def w_X3_noiseBy (o : Nat) (v1 : Int32) (v2 : Int32) (M : Mem) (q : Int32 → Mem → Prop) : Prop := (((M.1 o 10) ≤ 0 → w_X3_noiseBy_b31 o v2 M q) ∧ (¬ (M.1 o 10) ≤ 0 → w_X3_drawn v1 M (fun (r4 : Int32) (M3 : Mem) => w_X3_drawn r4 M3 (fun (r6 : Int32) (M5 : Mem) => w_X3_highBits r6 M5 (fun (r8 : Int32) (M7 : Mem) => w_X11_leftOver r8 (M7.1 o 10) M7 (fun (r10 : Int32) (M9 : Mem) => ((¬ r10 = 0 → w_X3_noiseBy_b31 o v2 M9 q) ∧ (r10 = 0 → w_X3_noiseBy_b32 o v2 (1 : Int32) M9 q))))))))
set_option maxRecDepth 100000 in
set_option maxHeartbeats 4000000 in
theorem ok_X3_noiseBy {g : Gl} {l : Launch} {o : Nat} {v1 : Int32} {v2 : Int32} {M : Mem} {q : Int32 → Mem → Prop} (ho : sh o = .inl 3) (hw : w_X3_noiseBy o v1 v2 M q) : CtI g l yX3_noiseBy cX3_noiseBy 4 (some .int) 2 22 [.ref (g.2.2.2 + o), .int v1, .int v2] M q := by
  refine n_introI (by decide +kernel) (Nat.le_of_ble_eq_true rfl) (fun c C r => ?_)
  have C : Cx c cX3_noiseBy 4 RX3 g l (Rm 2 22) := C
  refine x_sub [0, 1, 2] (lv' := [(0, .ref (g.2.2.2 + o)), (1, .int v1), (2, .int v2)]) rfl ?_
  unfold w_X3_noiseBy at hw
  refine x_aload_n C dX3_noiseBy_0 rfl rfl ?_
  refine n_getI C fl_X3_55 ho (fun _ _ => rfl) dX3_noiseBy_1 ?_
  refine x_if_le (tgt := 31) C dX3_noiseBy_4 (by decide) (fun h2 => ?_) (fun h2 => ?_)
  · replace hw := hw.1 h2
    exact x_sub [0, 2] rfl (ok_X3_noiseBy_b31 C r ho hw)
  · replace hw := hw.2 h2
    refine x_iload_n C dX3_noiseBy_7 rfl rfl ?_
    refine n_callSI C (ok_X3_drawn  hw) ms_X3_62 rfl rfl ⟨Nat.le_of_ble_eq_true rfl, Nat.le_of_ble_eq_true rfl⟩ (Nat.le_of_ble_eq_true rfl) dX3_noiseBy_8 (fun r4 M3 hw => ?_)
    refine n_callSI C (ok_X3_drawn  hw) ms_X3_62 rfl rfl ⟨Nat.le_of_ble_eq_true rfl, Nat.le_of_ble_eq_true rfl⟩ (Nat.le_of_ble_eq_true rfl) dX3_noiseBy_11 (fun r6 M5 hw => ?_)
    refine n_callSI C (ok_X3_highBits  hw) ms_X3_66 rfl rfl ⟨Nat.le_of_ble_eq_true rfl, Nat.le_of_ble_eq_true rfl⟩ (Nat.le_of_ble_eq_true rfl) dX3_noiseBy_14 (fun r8 M7 hw => ?_)
    refine x_aload_n C dX3_noiseBy_17 rfl rfl ?_
    refine n_getI C fl_X3_55 ho (fun _ _ => rfl) dX3_noiseBy_18 ?_
    refine n_callNI C (ok_X11_leftOver  hw) mn_X3_69 rfl rfl ⟨Nat.le_of_ble_eq_true rfl, Nat.le_of_ble_eq_true rfl⟩ (Nat.le_of_ble_eq_true rfl) dX3_noiseBy_21 (fun r10 M9 hw => ?_)
    refine x_if_ne (tgt := 31) C dX3_noiseBy_24 (by decide) (fun h11 => ?_) (fun h11 => ?_)
    · replace hw := hw.1 h11
      exact x_sub [0, 2] rfl (ok_X3_noiseBy_b31 C r ho hw)
    · replace hw := hw.2 h11
      refine x_iconst (v := (1 : Int32)) C dX3_noiseBy_27 (by decide) ?_
      refine x_goto (tgt := 32) C dX3_noiseBy_28 (by decide) ?_
      exact x_sub [0, 2] rfl (ok_X3_noiseBy_b32 C r ho hw)

def w_X4_know (o : Nat) (v1 : Nat) (v2 : Int32) (v3 : Int32) (M : Mem) (q : Mem → Prop) : Prop := ∀ M1 : Mem, M1 = uJ M (o + 2) 0 ((M.1 v1 1)).toInt64 → w_X0_middle v1 M1 (fun (r3 : Int32) (M2 : Mem) => ∀ M4 : Mem, M4 = uJ M2 (o + 2) 1 (r3).toInt64 → w_X0_least v1 M4 (fun (r6 : Int32) (M5 : Mem) => ∀ M7 : Mem, M7 = uJ M5 (o + 2) 2 (r6).toInt64 → w_X0_greatest v1 M7 (fun (r9 : Int32) (M8 : Mem) => ∀ M10 : Mem, M10 = uJ M8 (o + 2) 3 (r9).toInt64 → ∀ M11 : Mem, M11 = uJ M10 (o + 2) 4 (v2).toInt64 → ∀ M12 : Mem, M12 = uJ M11 (o + 2) 5 (v3).toInt64 → q M12)))
set_option maxRecDepth 100000 in
set_option maxHeartbeats 4000000 in
theorem ok_X4_know {g : Gl} {l : Launch} {o : Nat} {v1 : Nat} {v2 : Int32} {v3 : Int32} {M : Mem} {q : Mem → Prop} (ho : sh o = .inl 4) (hv1 : sh v1 = .inl 0) (hw : w_X4_know o v1 v2 v3 M q) : CtV g l yX4_know cX4_know 4 none 2 20 [.ref (g.2.2.2 + o), .ref (g.2.2.2 + v1), .int v2, .int v3] M q := by
  refine n_introV (by decide +kernel) (Nat.le_of_ble_eq_true rfl) (fun c C r => ?_)
  have C : Cx c cX4_know 4 RX4 g l (Rm 2 20) := C
  refine x_sub [0, 1, 2, 3] (lv' := [(0, .ref (g.2.2.2 + o)), (1, .ref (g.2.2.2 + v1)), (2, .int v2), (3, .int v3)]) rfl ?_
  unfold w_X4_know at hw
  refine x_aload_n C dX4_know_0 rfl rfl ?_
  refine n_getS (dd := 2) C fl_X4_19 ho (fun _ _ => rfl) rfl dX4_know_1 ?_
  refine x_iconst (v := (0 : Int32)) C dX4_know_4 (by decide) ?_
  refine x_aload_n C dX4_know_5 rfl rfl ?_
  refine n_getI C fl_X4_23 hv1 (fun _ _ => rfl) dX4_know_6 ?_
  refine x_i2l C dX4_know_9 ?_
  obtain ⟨M1, eM1⟩ : ∃ z : Mem, z = uJ M (o + 2) 0 ((M.1 v1 1)).toInt64 := ⟨_, rfl⟩
  replace hw := hw M1 eM1
  refine a_last C (ss_4_4 ho) (sl_4_4 ho) (by decide) (vin _ _ (by decide +kernel)) eM1 dX4_know_10 ?_
  refine x_aload_n C dX4_know_11 rfl rfl ?_
  refine n_getS (dd := 2) C fl_X4_19 ho (fun _ _ => rfl) rfl dX4_know_12 ?_
  refine x_iconst (v := (1 : Int32)) C dX4_know_15 (by decide) ?_
  refine x_aload_n C dX4_know_16 rfl rfl ?_
  refine n_callVI hv1 rfl C (ok_X0_middle hv1 hw) mv_X4_28 rfl rfl ⟨Nat.le_of_ble_eq_true rfl, Nat.le_of_ble_eq_true rfl⟩ (Nat.le_of_ble_eq_true rfl) dX4_know_17 (fun r3 M2 hw => ?_)
  refine x_i2l C dX4_know_20 ?_
  obtain ⟨M4, eM4⟩ : ∃ z : Mem, z = uJ M2 (o + 2) 1 (r3).toInt64 := ⟨_, rfl⟩
  replace hw := hw M4 eM4
  refine a_last C (ss_4_4 ho) (sl_4_4 ho) (by decide) (vin _ _ (by decide +kernel)) eM4 dX4_know_21 ?_
  refine x_aload_n C dX4_know_22 rfl rfl ?_
  refine n_getS (dd := 2) C fl_X4_19 ho (fun _ _ => rfl) rfl dX4_know_23 ?_
  refine x_iconst (v := (2 : Int32)) C dX4_know_26 (by decide) ?_
  refine x_aload_n C dX4_know_27 rfl rfl ?_
  refine n_callVI hv1 rfl C (ok_X0_least hv1 hw) mv_X4_32 rfl rfl ⟨Nat.le_of_ble_eq_true rfl, Nat.le_of_ble_eq_true rfl⟩ (Nat.le_of_ble_eq_true rfl) dX4_know_28 (fun r6 M5 hw => ?_)
  refine x_i2l C dX4_know_31 ?_
  obtain ⟨M7, eM7⟩ : ∃ z : Mem, z = uJ M5 (o + 2) 2 (r6).toInt64 := ⟨_, rfl⟩
  replace hw := hw M7 eM7
  refine a_last C (ss_4_4 ho) (sl_4_4 ho) (by decide) (vin _ _ (by decide +kernel)) eM7 dX4_know_32 ?_
  refine x_aload_n C dX4_know_33 rfl rfl ?_
  refine n_getS (dd := 2) C fl_X4_19 ho (fun _ _ => rfl) rfl dX4_know_34 ?_
  refine x_iconst (v := (3 : Int32)) C dX4_know_37 (by decide) ?_
  refine x_aload_n C dX4_know_38 rfl rfl ?_
  refine n_callVI hv1 rfl C (ok_X0_greatest hv1 hw) mv_X4_35 rfl rfl ⟨Nat.le_of_ble_eq_true rfl, Nat.le_of_ble_eq_true rfl⟩ (Nat.le_of_ble_eq_true rfl) dX4_know_39 (fun r9 M8 hw => ?_)
  refine x_i2l C dX4_know_42 ?_
  obtain ⟨M10, eM10⟩ : ∃ z : Mem, z = uJ M8 (o + 2) 3 (r9).toInt64 := ⟨_, rfl⟩
  replace hw := hw M10 eM10
  refine a_last C (ss_4_4 ho) (sl_4_4 ho) (by decide) (vin _ _ (by decide +kernel)) eM10 dX4_know_43 ?_
  refine x_aload_n C dX4_know_44 rfl rfl ?_
  refine n_getS (dd := 2) C fl_X4_19 ho (fun _ _ => rfl) rfl dX4_know_45 ?_
  refine x_iconst (v := (4 : Int32)) C dX4_know_48 (by decide) ?_
  refine x_iload_n C dX4_know_49 rfl rfl ?_
  refine x_i2l C dX4_know_50 ?_
  obtain ⟨M11, eM11⟩ : ∃ z : Mem, z = uJ M10 (o + 2) 4 (v2).toInt64 := ⟨_, rfl⟩
  replace hw := hw M11 eM11
  refine a_last C (ss_4_4 ho) (sl_4_4 ho) (by decide) (vin _ _ (by decide +kernel)) eM11 dX4_know_51 ?_
  refine x_aload_n C dX4_know_52 rfl rfl ?_
  refine n_getS (dd := 2) C fl_X4_19 ho (fun _ _ => rfl) rfl dX4_know_53 ?_
  refine x_iconst (v := (5 : Int32)) C dX4_know_56 (by decide) ?_
  refine x_iload_n C dX4_know_57 rfl rfl ?_
  refine x_i2l C dX4_know_58 ?_
  obtain ⟨M12, eM12⟩ : ∃ z : Mem, z = uJ M11 (o + 2) 5 (v3).toInt64 := ⟨_, rfl⟩
  replace hw := hw M12 eM12
  refine a_last C (ss_4_4 ho) (sl_4_4 ho) (by decide) (vin _ _ (by decide +kernel)) eM12 dX4_know_59 ?_
  exact n_vreturn C r dX4_know_60 hw

def w_X4_isDigit (v0 : Int32) (M : Mem) (q : Int32 → Mem → Prop) : Prop := ((v0 < (48 : Int32) → q (0 : Int32) M) ∧ (¬ v0 < (48 : Int32) → (((57 : Int32) < v0 → q (0 : Int32) M) ∧ (¬ (57 : Int32) < v0 → q (1 : Int32) M))))
set_option maxRecDepth 100000 in
set_option maxHeartbeats 4000000 in
theorem ok_X4_isDigit {g : Gl} {l : Launch} {v0 : Int32} {M : Mem} {q : Int32 → Mem → Prop} (hw : w_X4_isDigit v0 M q) : CtI g l yX4_isDigit cX4_isDigit 1 (some .boolean) 1 0 [.int v0] M q := by
  refine n_introI (by decide +kernel) (Nat.le_of_ble_eq_true rfl) (fun c C r => ?_)
  have C : Cx c cX4_isDigit 1 RX4 g l (Rm 1 0) := C
  refine x_sub [0] (lv' := [(0, .int v0)]) rfl ?_
  unfold w_X4_isDigit at hw
  refine x_iload_n C dX4_isDigit_0 rfl rfl ?_
  refine x_bipush (v := (48 : Int32)) C dX4_isDigit_1 (by decide) ?_
  refine x_icmp_lt (tgt := 16) C dX4_isDigit_3 (by decide) (fun h1 => ?_) (fun h1 => ?_)
  · replace hw := hw.1 h1
    refine x_iconst (v := (0 : Int32)) C dX4_isDigit_16 (by decide) ?_
    exact n_zreturn C r dX4_isDigit_17 (Or.inl rfl) hw
  · replace hw := hw.2 h1
    refine x_iload_n C dX4_isDigit_6 rfl rfl ?_
    refine x_bipush (v := (57 : Int32)) C dX4_isDigit_7 (by decide) ?_
    refine x_icmp_gt (tgt := 16) C dX4_isDigit_9 (by decide) (fun h2 => ?_) (fun h2 => ?_)
    · replace hw := hw.1 h2
      refine x_iconst (v := (0 : Int32)) C dX4_isDigit_16 (by decide) ?_
      exact n_zreturn C r dX4_isDigit_17 (Or.inl rfl) hw
    · replace hw := hw.2 h2
      refine x_iconst (v := (1 : Int32)) C dX4_isDigit_12 (by decide) ?_
      refine x_goto (tgt := 17) C dX4_isDigit_13 (by decide) ?_
      exact n_zreturn C r dX4_isDigit_17 (Or.inr rfl) hw

def w_X4_fail (o : Nat) (v1 : Int32) (M : Mem) (q : Int64 → Mem → Prop) : Prop := ((¬ (M.1 o 0) = (-1 : Int32) → q (0 : Int64) M) ∧ ((M.1 o 0) = (-1 : Int32) → ∀ M2 : Mem, M2 = uI M o 0 (((10 : Int32) * (M.1 o 3)) + v1) → q (0 : Int64) M2))
set_option maxRecDepth 100000 in
set_option maxHeartbeats 4000000 in
theorem ok_X4_fail {g : Gl} {l : Launch} {o : Nat} {v1 : Int32} {M : Mem} {q : Int64 → Mem → Prop} (ho : sh o = .inl 4) (hw : w_X4_fail o v1 M q) : CtJ g l yX4_fail cX4_fail 2 (some .long) 1 0 [.ref (g.2.2.2 + o), .int v1] M q := by
  refine n_introJ (by decide +kernel) (Nat.le_of_ble_eq_true rfl) (fun c C r => ?_)
  have C : Cx c cX4_fail 2 RX4 g l (Rm 1 0) := C
  refine x_sub [0, 1] (lv' := [(0, .ref (g.2.2.2 + o)), (1, .int v1)]) rfl ?_
  unfold w_X4_fail at hw
  refine x_aload_n C dX4_fail_0 rfl rfl ?_
  refine n_getI C fl_X4_9 ho (fun _ _ => rfl) dX4_fail_1 ?_
  refine x_iconst (v := (-1 : Int32)) C dX4_fail_4 (by decide) ?_
  refine x_icmp_ne (tgt := 21) C dX4_fail_5 (by decide) (fun h1 => ?_) (fun h1 => ?_)
  · replace hw := hw.1 h1
    refine x_lconst (v := (0 : Int64)) C dX4_fail_21 (by decide) ?_
    exact n_lreturn C r dX4_fail_22 hw
  · replace hw := hw.2 h1
    refine x_aload_n C dX4_fail_8 rfl rfl ?_
    refine x_bipush (v := (10 : Int32)) C dX4_fail_9 (by decide) ?_
    refine x_aload_n C dX4_fail_11 rfl rfl ?_
    refine n_getI C fl_X4_54 ho (fun _ _ => rfl) dX4_fail_12 ?_
    refine x_imul C dX4_fail_15 ?_
    refine x_iload_n C dX4_fail_16 rfl rfl ?_
    refine x_iadd C dX4_fail_17 ?_
    obtain ⟨M2, eM2⟩ : ∃ z : Mem, z = uI M o 0 (((10 : Int32) * (M.1 o 3)) + v1) := ⟨_, rfl⟩
    replace hw := hw M2 eM2
    refine m_putI C fp_X4_9 ho (fun _ _ => rfl) rfl rfl eM2 dX4_fail_18 ?_
    refine x_lconst (v := (0 : Int64)) C dX4_fail_21 (by decide) ?_
    exact n_lreturn C r dX4_fail_22 hw

def w_X4_number_b119 (o : Nat) (v1 : Int64) (M : Mem) (q : Int64 → Mem → Prop) : Prop := ∀ M1 : Mem, M1 = uI M o 3 ((M.1 o 3) + (6 : Int32)) → q v1 M1
set_option maxRecDepth 100000 in
set_option maxHeartbeats 4000000 in
theorem ok_X4_number_b119 {c : CtxT} {g : Gl} {l : Launch} {o : Nat} {v1 : Int64} {q : Int64 → Mem → Prop} {M : Mem} (C : Cx c cX4_number 4 RX4 g l (Rm 2 21)) (r : Rt c (some .long) (pJ q) 0 0) (ho : sh o = .inl 4) (hw : w_X4_number_b119 o v1 M q ) : X c S0 119 [(0, .ref (g.2.2.2 + o)), (1, .long v1)] [] (stat M) := by
  unfold w_X4_number_b119 at hw
  refine x_aload_n C dX4_number_119 rfl rfl ?_
  refine x_dup C dX4_number_120 rfl ?_
  refine n_getI C fl_X4_54 ho (fun _ _ => rfl) dX4_number_121 ?_
  refine x_bipush (v := (6 : Int32)) C dX4_number_124 (by decide) ?_
  refine x_iadd C dX4_number_126 ?_
  obtain ⟨M1, eM1⟩ : ∃ z : Mem, z = uI M o 3 ((M.1 o 3) + (6 : Int32)) := ⟨_, rfl⟩
  replace hw := hw M1 eM1
  refine m_putI C fp_X4_54 ho (fun _ _ => rfl) rfl rfl eM1 dX4_number_127 ?_
  refine x_lload_n C dX4_number_130 rfl rfl ?_
  exact n_lreturn C r dX4_number_131 hw
def w_X4_number_b40 (o : Nat) (v1 : Int64) (v3 : Int32) (M : Mem) (q : Int64 → Mem → Prop) : Prop := ∀ M2 : Mem, M2 = uI M o 3 ((M.1 o 3) + v3) → q v1 M2
set_option maxRecDepth 100000 in
set_option maxHeartbeats 4000000 in
theorem ok_X4_number_b40 {c : CtxT} {g : Gl} {l : Launch} {o : Nat} {v1 : Int64} {v3 : Int32} {q : Int64 → Mem → Prop} {M : Mem} (C : Cx c cX4_number 4 RX4 g l (Rm 2 21)) (r : Rt c (some .long) (pJ q) 0 0) (ho : sh o = .inl 4) (hw : w_X4_number_b40 o v1 v3 M q ) : X c S0 40 [(0, .ref (g.2.2.2 + o)), (1, .long v1), (3, .int v3)] [] (stat M) := by
  unfold w_X4_number_b40 at hw
  refine x_aload_n C dX4_number_40 rfl rfl ?_
  refine x_dup C dX4_number_41 rfl ?_
  refine n_getI C fl_X4_54 ho (fun _ _ => rfl) dX4_number_42 ?_
  refine x_iload_n C dX4_number_45 rfl rfl ?_
  refine x_iadd C dX4_number_46 ?_
  obtain ⟨M2, eM2⟩ : ∃ z : Mem, z = uI M o 3 ((M.1 o 3) + v3) := ⟨_, rfl⟩
  replace hw := hw M2 eM2
  refine m_putI C fp_X4_54 ho (fun _ _ => rfl) rfl rfl eM2 dX4_number_47 ?_
  refine x_lload_n C dX4_number_50 rfl rfl ?_
  exact n_lreturn C r dX4_number_51 hw
def w_X4_number_l4F (o : Nat) (q : Int64 → Mem → Prop) (P4 : Int64 × Int32 × Mem → Prop) (s : Int64 × Int32 × Mem) : Prop := match s with
  | (v1, v3, M) => (((6 : Int32) ≤ v3 → (((M.1 o 2) ≤ ((M.1 o 3) + (6 : Int32)) → w_X4_number_b119 o v1 M q) ∧ (¬ (M.1 o 2) ≤ ((M.1 o 3) + (6 : Int32)) → vp_in ((M.1 o 3) + (6 : Int32)) 40 ∧ w_X4_isDigit (M.1 (o + 1) (((M.1 o 3) + (6 : Int32))).toNatClampNeg) M (fun (r7 : Int32) (M6 : Mem) => ((r7 = 0 → w_X4_number_b119 o v1 M6 q) ∧ (¬ r7 = 0 → w_X4_fail o (2 : Int32) M6 (fun (r10 : Int64) (M9 : Mem) => q r10 M9))))))) ∧ (¬ (6 : Int32) ≤ v3 → (((M.1 o 2) ≤ ((M.1 o 3) + v3) → w_X4_number_b40 o v1 v3 M q) ∧ (¬ (M.1 o 2) ≤ ((M.1 o 3) + v3) → vp_in ((M.1 o 3) + v3) 40 ∧ w_X4_isDigit (M.1 (o + 1) (((M.1 o 3) + v3)).toNatClampNeg) M (fun (r14 : Int32) (M13 : Mem) => ((¬ r14 = 0 → vp_in ((M13.1 o 3) + v3) 40 ∧ ∀ x17 : Int64, x17 = (((v1 * (10 : Int64)) + ((M13.1 (o + 1) (((M13.1 o 3) + v3)).toNatClampNeg)).toInt64) - (48 : Int64)) → ∀ x18 : Int32, x18 = v3 + (1 : Int32) → P4 (x17, x18, M13)) ∧ (r14 = 0 → w_X4_number_b40 o v1 v3 M13 q)))))))
def w_X4_number_l4 (o : Nat) (q : Int64 → Mem → Prop) (s : Int64 × Int32 × Mem) : Prop := lfp (w_X4_number_l4F o q ) s
set_option maxRecDepth 100000 in
set_option maxHeartbeats 4000000 in
theorem ok_X4_number_l4 {c : CtxT} {g : Gl} {l : Launch} {o : Nat} {q : Int64 → Mem → Prop} {s : Int64 × Int32 × Mem} (C : Cx c cX4_number 4 RX4 g l (Rm 2 21)) (r : Rt c (some .long) (pJ q) 0 0) (ho : sh o = .inl 4) (hw : w_X4_number_l4 o q s) : X c S0 4 [(0, .ref (g.2.2.2 + o)), (1, .long s.1), (3, .int s.2.1)] [] (stat s.2.2) := hw (fun s => X c S0 4 [(0, .ref (g.2.2.2 + o)), (1, .long s.1), (3, .int s.2.1)] [] (stat s.2.2)) (fun s hw => by
    obtain ⟨v1, v3, M⟩ := s
    try dsimp only [w_X4_number_l4F] at hw
    try dsimp only
    refine x_iload_n C dX4_number_4 rfl rfl ?_
    refine x_bipush (v := (6 : Int32)) C dX4_number_5 (by decide) ?_
    refine x_icmp_ge (tgt := 81) C dX4_number_7 (by decide) (fun h3 => ?_) (fun h3 => ?_)
    · replace hw := hw.1 h3
      refine x_aload_n C dX4_number_81 rfl rfl ?_
      refine n_getI C fl_X4_54 ho (fun _ _ => rfl) dX4_number_82 ?_
      refine x_bipush (v := (6 : Int32)) C dX4_number_85 (by decide) ?_
      refine x_iadd C dX4_number_87 ?_
      refine x_aload_n C dX4_number_88 rfl rfl ?_
      refine n_getI C fl_X4_47 ho (fun _ _ => rfl) dX4_number_89 ?_
      refine x_icmp_ge (tgt := 119) C dX4_number_92 (by decide) (fun h4 => ?_) (fun h4 => ?_)
      · replace hw := hw.1 h4
        exact x_sub [0, 1] rfl (ok_X4_number_b119 C r ho hw)
      · replace hw := hw.2 h4
        refine x_aload_n C dX4_number_95 rfl rfl ?_
        refine n_getS (dd := 1) C fl_X4_15 ho (fun _ _ => rfl) rfl dX4_number_96 ?_
        refine x_aload_n C dX4_number_99 rfl rfl ?_
        refine n_getI C fl_X4_54 ho (fun _ _ => rfl) dX4_number_100 ?_
        refine x_bipush (v := (6 : Int32)) C dX4_number_103 (by decide) ?_
        refine x_iadd C dX4_number_105 ?_
        obtain ⟨h5, hw⟩ := hw
        refine a_iald C (ss_4_1 ho) (sl_4_1 ho) h5 dX4_number_106 ?_
        refine n_callSI C (ok_X4_isDigit  hw) ms_X4_95 rfl rfl ⟨Nat.le_of_ble_eq_true rfl, Nat.le_of_ble_eq_true rfl⟩ (Nat.le_of_ble_eq_true rfl) dX4_number_107 (fun r7 M6 hw => ?_)
        refine x_if_eq (tgt := 119) C dX4_number_110 (by decide) (fun h8 => ?_) (fun h8 => ?_)
        · replace hw := hw.1 h8
          exact x_sub [0, 1] rfl (ok_X4_number_b119 C r ho hw)
        · replace hw := hw.2 h8
          refine x_aload_n C dX4_number_113 rfl rfl ?_
          refine x_iconst (v := (2 : Int32)) C dX4_number_114 (by decide) ?_
          refine n_callVJ ho rfl C (ok_X4_fail ho hw) mv_X4_64 rfl rfl ⟨Nat.le_of_ble_eq_true rfl, Nat.le_of_ble_eq_true rfl⟩ (Nat.le_of_ble_eq_true rfl) dX4_number_115 (fun r10 M9 hw => ?_)
          exact n_lreturn C r dX4_number_118 hw
    · replace hw := hw.2 h3
      refine x_aload_n C dX4_number_10 rfl rfl ?_
      refine n_getI C fl_X4_54 ho (fun _ _ => rfl) dX4_number_11 ?_
      refine x_iload_n C dX4_number_14 rfl rfl ?_
      refine x_iadd C dX4_number_15 ?_
      refine x_aload_n C dX4_number_16 rfl rfl ?_
      refine n_getI C fl_X4_47 ho (fun _ _ => rfl) dX4_number_17 ?_
      refine x_icmp_ge (tgt := 40) C dX4_number_20 (by decide) (fun h11 => ?_) (fun h11 => ?_)
      · replace hw := hw.1 h11
        exact x_sub [0, 1, 3] rfl (ok_X4_number_b40 C r ho hw)
      · replace hw := hw.2 h11
        refine x_aload_n C dX4_number_23 rfl rfl ?_
        refine n_getS (dd := 1) C fl_X4_15 ho (fun _ _ => rfl) rfl dX4_number_24 ?_
        refine x_aload_n C dX4_number_27 rfl rfl ?_
        refine n_getI C fl_X4_54 ho (fun _ _ => rfl) dX4_number_28 ?_
        refine x_iload_n C dX4_number_31 rfl rfl ?_
        refine x_iadd C dX4_number_32 ?_
        obtain ⟨h12, hw⟩ := hw
        refine a_iald C (ss_4_1 ho) (sl_4_1 ho) h12 dX4_number_33 ?_
        refine n_callSI C (ok_X4_isDigit  hw) ms_X4_95 rfl rfl ⟨Nat.le_of_ble_eq_true rfl, Nat.le_of_ble_eq_true rfl⟩ (Nat.le_of_ble_eq_true rfl) dX4_number_34 (fun r14 M13 hw => ?_)
        refine x_if_ne (tgt := 52) C dX4_number_37 (by decide) (fun h15 => ?_) (fun h15 => ?_)
        · replace hw := hw.1 h15
          refine x_lload_n C dX4_number_52 rfl rfl ?_
          refine x_ldc2_w (v := (10 : Int64)) C dX4_number_53 kc_X4_116 ?_
          refine x_lmul C dX4_number_56 ?_
          refine x_aload_n C dX4_number_57 rfl rfl ?_
          refine n_getS (dd := 1) C fl_X4_15 ho (fun _ _ => rfl) rfl dX4_number_58 ?_
          refine x_aload_n C dX4_number_61 rfl rfl ?_
          refine n_getI C fl_X4_54 ho (fun _ _ => rfl) dX4_number_62 ?_
          refine x_iload_n C dX4_number_65 rfl rfl ?_
          refine x_iadd C dX4_number_66 ?_
          obtain ⟨h16, hw⟩ := hw
          refine a_iald C (ss_4_1 ho) (sl_4_1 ho) h16 dX4_number_67 ?_
          refine x_i2l C dX4_number_68 ?_
          refine x_ladd C dX4_number_69 ?_
          refine x_ldc2_w (v := (48 : Int64)) C dX4_number_70 kc_X4_118 ?_
          refine x_lsub C dX4_number_73 ?_
          obtain ⟨x17, ex17⟩ : ∃ z : Int64, z = (((v1 * (10 : Int64)) + ((M13.1 (o + 1) (((M13.1 o 3) + v3)).toNatClampNeg)).toInt64) - (48 : Int64)) := ⟨_, rfl⟩
          replace hw := hw x17 ex17
          refine x_topj ex17 ?_
          refine x_lstore_n C dX4_number_74 rfl (Nat.le_of_ble_eq_true rfl) ?_
          obtain ⟨x18, ex18⟩ : ∃ z : Int32, z = v3 + (1 : Int32) := ⟨_, rfl⟩
          replace hw := hw x18 ex18
          refine x_iinc (v := x18) C dX4_number_75 rfl ex18.symm (Nat.le_of_ble_eq_true rfl) ?_
          refine x_goto (tgt := 4) C dX4_number_78 (by decide) ?_
          exact x_sub [0, 1, 3] rfl hw
        · replace hw := hw.2 h15
          exact x_sub [0, 1, 3] rfl (ok_X4_number_b40 C r ho hw))
def w_X4_number (o : Nat) (M : Mem) (q : Int64 → Mem → Prop) : Prop := w_X4_number_l4 o q ((0 : Int64), (0 : Int32), M)
set_option maxRecDepth 100000 in
set_option maxHeartbeats 4000000 in
theorem ok_X4_number {g : Gl} {l : Launch} {o : Nat} {M : Mem} {q : Int64 → Mem → Prop} (ho : sh o = .inl 4) (hw : w_X4_number o M q) : CtJ g l yX4_number cX4_number 4 (some .long) 2 21 [.ref (g.2.2.2 + o)] M q := by
  refine n_introJ (by decide +kernel) (Nat.le_of_ble_eq_true rfl) (fun c C r => ?_)
  have C : Cx c cX4_number 4 RX4 g l (Rm 2 21) := C
  refine x_sub [0] (lv' := [(0, .ref (g.2.2.2 + o))]) rfl ?_
  unfold w_X4_number at hw
  refine x_lconst (v := (0 : Int64)) C dX4_number_0 (by decide) ?_
  refine x_lstore_n C dX4_number_1 rfl (Nat.le_of_ble_eq_true rfl) ?_
  refine x_iconst (v := (0 : Int32)) C dX4_number_2 (by decide) ?_
  refine x_istore_n C dX4_number_3 rfl (Nat.le_of_ble_eq_true rfl) ?_
  exact x_sub [0, 1, 3] rfl (ok_X4_number_l4 C r ho hw)

def w_X4_ahead_b38 (o : Nat) (M : Mem) (q : Int32 → Mem → Prop) : Prop := (((M.1 o 2) ≤ (M.1 o 3) → q (-1 : Int32) M) ∧ (¬ (M.1 o 2) ≤ (M.1 o 3) → vp_in (M.1 o 3) 40 ∧ q (M.1 (o + 1) ((M.1 o 3)).toNatClampNeg) M))
set_option maxRecDepth 100000 in
set_option maxHeartbeats 4000000 in
theorem ok_X4_ahead_b38 {c : CtxT} {g : Gl} {l : Launch} {o : Nat} {q : Int32 → Mem → Prop} {M : Mem} (C : Cx c cX4_ahead 1 RX4 g l (Rm 1 0)) (r : Rt c (some .int) (pI q) 0 0) (ho : sh o = .inl 4) (hw : w_X4_ahead_b38 o M q ) : X c S0 38 [(0, .ref (g.2.2.2 + o))] [] (stat M) := by
  unfold w_X4_ahead_b38 at hw
  refine x_aload_n C dX4_ahead_38 rfl rfl ?_
  refine n_getI C fl_X4_54 ho (fun _ _ => rfl) dX4_ahead_39 ?_
  refine x_aload_n C dX4_ahead_42 rfl rfl ?_
  refine n_getI C fl_X4_47 ho (fun _ _ => rfl) dX4_ahead_43 ?_
  refine x_icmp_ge (tgt := 61) C dX4_ahead_46 (by decide) (fun h1 => ?_) (fun h1 => ?_)
  · replace hw := hw.1 h1
    refine x_iconst (v := (-1 : Int32)) C dX4_ahead_61 (by decide) ?_
    exact n_ireturn C r dX4_ahead_62 hw
  · replace hw := hw.2 h1
    refine x_aload_n C dX4_ahead_49 rfl rfl ?_
    refine n_getS (dd := 1) C fl_X4_15 ho (fun _ _ => rfl) rfl dX4_ahead_50 ?_
    refine x_aload_n C dX4_ahead_53 rfl rfl ?_
    refine n_getI C fl_X4_54 ho (fun _ _ => rfl) dX4_ahead_54 ?_
    obtain ⟨h2, hw⟩ := hw
    refine a_iald C (ss_4_1 ho) (sl_4_1 ho) h2 dX4_ahead_57 ?_
    refine x_goto (tgt := 62) C dX4_ahead_58 (by decide) ?_
    exact n_ireturn C r dX4_ahead_62 hw
def w_X4_ahead_l0F (o : Nat) (q : Int32 → Mem → Prop) (P0 : Mem → Prop) (s : Mem) : Prop := match s with
  | M => (((M.1 o 2) ≤ (M.1 o 3) → w_X4_ahead_b38 o M q) ∧ (¬ (M.1 o 2) ≤ (M.1 o 3) → vp_in (M.1 o 3) 40 ∧ ((¬ (M.1 (o + 1) ((M.1 o 3)).toNatClampNeg) = (32 : Int32) → w_X4_ahead_b38 o M q) ∧ ((M.1 (o + 1) ((M.1 o 3)).toNatClampNeg) = (32 : Int32) → ∀ M6 : Mem, M6 = uI M o 3 ((M.1 o 3) + (1 : Int32)) → P0 M6))))
def w_X4_ahead_l0 (o : Nat) (q : Int32 → Mem → Prop) (s : Mem) : Prop := lfp (w_X4_ahead_l0F o q ) s
set_option maxRecDepth 100000 in
set_option maxHeartbeats 4000000 in
theorem ok_X4_ahead_l0 {c : CtxT} {g : Gl} {l : Launch} {o : Nat} {q : Int32 → Mem → Prop} {s : Mem} (C : Cx c cX4_ahead 1 RX4 g l (Rm 1 0)) (r : Rt c (some .int) (pI q) 0 0) (ho : sh o = .inl 4) (hw : w_X4_ahead_l0 o q s) : X c S0 0 [(0, .ref (g.2.2.2 + o))] [] (stat s) := hw (fun s => X c S0 0 [(0, .ref (g.2.2.2 + o))] [] (stat s)) (fun s hw => by
    obtain ⟨M, eM⟩ : ∃ z : Mem, z = s := ⟨_, rfl⟩
    rw [← eM] at hw ⊢
    try dsimp only [w_X4_ahead_l0F] at hw
    try dsimp only
    refine x_aload_n C dX4_ahead_0 rfl rfl ?_
    refine n_getI C fl_X4_54 ho (fun _ _ => rfl) dX4_ahead_1 ?_
    refine x_aload_n C dX4_ahead_4 rfl rfl ?_
    refine n_getI C fl_X4_47 ho (fun _ _ => rfl) dX4_ahead_5 ?_
    refine x_icmp_ge (tgt := 38) C dX4_ahead_8 (by decide) (fun h3 => ?_) (fun h3 => ?_)
    · replace hw := hw.1 h3
      exact x_sub [0] rfl (ok_X4_ahead_b38 C r ho hw)
    · replace hw := hw.2 h3
      refine x_aload_n C dX4_ahead_11 rfl rfl ?_
      refine n_getS (dd := 1) C fl_X4_15 ho (fun _ _ => rfl) rfl dX4_ahead_12 ?_
      refine x_aload_n C dX4_ahead_15 rfl rfl ?_
      refine n_getI C fl_X4_54 ho (fun _ _ => rfl) dX4_ahead_16 ?_
      obtain ⟨h4, hw⟩ := hw
      refine a_iald C (ss_4_1 ho) (sl_4_1 ho) h4 dX4_ahead_19 ?_
      refine x_bipush (v := (32 : Int32)) C dX4_ahead_20 (by decide) ?_
      refine x_icmp_ne (tgt := 38) C dX4_ahead_22 (by decide) (fun h5 => ?_) (fun h5 => ?_)
      · replace hw := hw.1 h5
        exact x_sub [0] rfl (ok_X4_ahead_b38 C r ho hw)
      · replace hw := hw.2 h5
        refine x_aload_n C dX4_ahead_25 rfl rfl ?_
        refine x_dup C dX4_ahead_26 rfl ?_
        refine n_getI C fl_X4_54 ho (fun _ _ => rfl) dX4_ahead_27 ?_
        refine x_iconst (v := (1 : Int32)) C dX4_ahead_30 (by decide) ?_
        refine x_iadd C dX4_ahead_31 ?_
        obtain ⟨M6, eM6⟩ : ∃ z : Mem, z = uI M o 3 ((M.1 o 3) + (1 : Int32)) := ⟨_, rfl⟩
        replace hw := hw M6 eM6
        refine m_putI C fp_X4_54 ho (fun _ _ => rfl) rfl rfl eM6 dX4_ahead_32 ?_
        refine x_goto (tgt := 0) C dX4_ahead_35 (by decide) ?_
        exact x_sub [0] rfl hw)
def w_X4_ahead (o : Nat) (M : Mem) (q : Int32 → Mem → Prop) : Prop := w_X4_ahead_l0 o q M
set_option maxRecDepth 100000 in
set_option maxHeartbeats 4000000 in
theorem ok_X4_ahead {g : Gl} {l : Launch} {o : Nat} {M : Mem} {q : Int32 → Mem → Prop} (ho : sh o = .inl 4) (hw : w_X4_ahead o M q) : CtI g l yX4_ahead cX4_ahead 1 (some .int) 1 0 [.ref (g.2.2.2 + o)] M q := by
  refine n_introI (by decide +kernel) (Nat.le_of_ble_eq_true rfl) (fun c C r => ?_)
  have C : Cx c cX4_ahead 1 RX4 g l (Rm 1 0) := C
  refine x_sub [0] (lv' := [(0, .ref (g.2.2.2 + o))]) rfl ?_
  unfold w_X4_ahead at hw
  exact x_sub [0] rfl (ok_X4_ahead_l0 C r ho hw)

def w_X4_takes (o : Nat) (v1 : Int32) (M : Mem) (q : Int32 → Mem → Prop) : Prop := ((¬ (M.1 o 0) = (-1 : Int32) → q (0 : Int32) M) ∧ ((M.1 o 0) = (-1 : Int32) → w_X4_ahead o M (fun (r3 : Int32) (M2 : Mem) => ((r3 = v1 → ∀ M5 : Mem, M5 = uI M2 o 3 ((M2.1 o 3) + (1 : Int32)) → q (1 : Int32) M5) ∧ (¬ r3 = v1 → q (0 : Int32) M2)))))
set_option maxRecDepth 100000 in
set_option maxHeartbeats 4000000 in
theorem ok_X4_takes {g : Gl} {l : Launch} {o : Nat} {v1 : Int32} {M : Mem} {q : Int32 → Mem → Prop} (ho : sh o = .inl 4) (hw : w_X4_takes o v1 M q) : CtI g l yX4_takes cX4_takes 2 (some .boolean) 2 20 [.ref (g.2.2.2 + o), .int v1] M q := by
  refine n_introI (by decide +kernel) (Nat.le_of_ble_eq_true rfl) (fun c C r => ?_)
  have C : Cx c cX4_takes 2 RX4 g l (Rm 2 20) := C
  refine x_sub [0, 1] (lv' := [(0, .ref (g.2.2.2 + o)), (1, .int v1)]) rfl ?_
  unfold w_X4_takes at hw
  refine x_aload_n C dX4_takes_0 rfl rfl ?_
  refine n_getI C fl_X4_9 ho (fun _ _ => rfl) dX4_takes_1 ?_
  refine x_iconst (v := (-1 : Int32)) C dX4_takes_4 (by decide) ?_
  refine x_icmp_ne (tgt := 16) C dX4_takes_5 (by decide) (fun h1 => ?_) (fun h1 => ?_)
  · replace hw := hw.1 h1
    refine x_iconst (v := (0 : Int32)) C dX4_takes_16 (by decide) ?_
    exact n_zreturn C r dX4_takes_17 (Or.inl rfl) hw
  · replace hw := hw.2 h1
    refine x_aload_n C dX4_takes_8 rfl rfl ?_
    refine n_callVI ho rfl C (ok_X4_ahead ho hw) mv_X4_61 rfl rfl ⟨Nat.le_of_ble_eq_true rfl, Nat.le_of_ble_eq_true rfl⟩ (Nat.le_of_ble_eq_true rfl) dX4_takes_9 (fun r3 M2 hw => ?_)
    refine x_iload_n C dX4_takes_12 rfl rfl ?_
    refine x_icmp_eq (tgt := 18) C dX4_takes_13 (by decide) (fun h4 => ?_) (fun h4 => ?_)
    · replace hw := hw.1 h4
      refine x_aload_n C dX4_takes_18 rfl rfl ?_
      refine x_dup C dX4_takes_19 rfl ?_
      refine n_getI C fl_X4_54 ho (fun _ _ => rfl) dX4_takes_20 ?_
      refine x_iconst (v := (1 : Int32)) C dX4_takes_23 (by decide) ?_
      refine x_iadd C dX4_takes_24 ?_
      obtain ⟨M5, eM5⟩ : ∃ z : Mem, z = uI M2 o 3 ((M2.1 o 3) + (1 : Int32)) := ⟨_, rfl⟩
      replace hw := hw M5 eM5
      refine m_putI C fp_X4_54 ho (fun _ _ => rfl) rfl rfl eM5 dX4_takes_25 ?_
      refine x_iconst (v := (1 : Int32)) C dX4_takes_28 (by decide) ?_
      exact n_zreturn C r dX4_takes_29 (Or.inr rfl) hw
    · replace hw := hw.2 h4
      refine x_iconst (v := (0 : Int32)) C dX4_takes_16 (by decide) ?_
      exact n_zreturn C r dX4_takes_17 (Or.inl rfl) hw

def w_X4_truth (v0 : Int32) (M : Mem) (q : Int64 → Mem → Prop) : Prop := ((v0 = 0 → q (0 : Int64) M) ∧ (¬ v0 = 0 → q (1 : Int64) M))
set_option maxRecDepth 100000 in
set_option maxHeartbeats 4000000 in
theorem ok_X4_truth {g : Gl} {l : Launch} {v0 : Int32} {M : Mem} {q : Int64 → Mem → Prop} (hw : w_X4_truth v0 M q) : CtJ g l yX4_truth cX4_truth 1 (some .long) 1 0 [.int v0] M q := by
  refine n_introJ (by decide +kernel) (Nat.le_of_ble_eq_true rfl) (fun c C r => ?_)
  have C : Cx c cX4_truth 1 RX4 g l (Rm 1 0) := C
  refine x_sub [0] (lv' := [(0, .int v0)]) rfl ?_
  unfold w_X4_truth at hw
  refine x_iload_n C dX4_truth_0 rfl rfl ?_
  refine x_if_eq (tgt := 8) C dX4_truth_1 (by decide) (fun h1 => ?_) (fun h1 => ?_)
  · replace hw := hw.1 h1
    refine x_lconst (v := (0 : Int64)) C dX4_truth_8 (by decide) ?_
    exact n_lreturn C r dX4_truth_9 hw
  · replace hw := hw.2 h1
    refine x_lconst (v := (1 : Int64)) C dX4_truth_4 (by decide) ?_
    refine x_goto (tgt := 9) C dX4_truth_5 (by decide) ?_
    exact n_lreturn C r dX4_truth_9 hw

def w_X5_takeFrom (o : Nat) (v1 : Nat) (M : Mem) (q : Mem → Prop) : Prop := ∀ M1 : Mem, M1 = cpI M (v1 + 1) (o + 1) 0 0 16 → ∀ M2 : Mem, M2 = uI M1 o 1 (M1.1 v1 1) → ∀ M3 : Mem, M3 = cpI M2 (v1 + 2) (o + 2) 0 0 8 → ∀ M4 : Mem, M4 = uI M3 o 3 (M3.1 v1 3) → ∀ M5 : Mem, M5 = uI M4 o 4 (M4.1 v1 4) → ∀ M6 : Mem, M6 = uI M5 o 5 (M5.1 v1 5) → q M6
set_option maxRecDepth 100000 in
set_option maxHeartbeats 4000000 in
theorem ok_X5_takeFrom {g : Gl} {l : Launch} {o : Nat} {v1 : Nat} {M : Mem} {q : Mem → Prop} (ho : sh o = .inl 5) (hv1 : sh v1 = .inl 5) (hw : w_X5_takeFrom o v1 M q) : CtV g l yX5_takeFrom cX5_takeFrom 2 none 1 60 [.ref (g.2.2.2 + o), .ref (g.2.2.2 + v1)] M q := by
  refine n_introV (by decide +kernel) (Nat.le_of_ble_eq_true rfl) (fun c C r => ?_)
  have C : Cx c cX5_takeFrom 2 RX5 g l (Rm 1 60) := C
  refine x_sub [0, 1] (lv' := [(0, .ref (g.2.2.2 + o)), (1, .ref (g.2.2.2 + v1))]) rfl ?_
  unfold w_X5_takeFrom at hw
  refine x_aload_n C dX5_takeFrom_0 rfl rfl ?_
  refine n_getS (dd := 1) C fl_X5_9 hv1 (fun _ _ => rfl) rfl dX5_takeFrom_1 ?_
  refine x_iconst (v := (0 : Int32)) C dX5_takeFrom_4 (by decide) ?_
  refine x_aload_n C dX5_takeFrom_5 rfl rfl ?_
  refine n_getS (dd := 1) C fl_X5_9 ho (fun _ _ => rfl) rfl dX5_takeFrom_6 ?_
  refine x_iconst (v := (0 : Int32)) C dX5_takeFrom_9 (by decide) ?_
  refine x_aload_n C dX5_takeFrom_10 rfl rfl ?_
  refine n_getS (dd := 1) C fl_X5_9 ho (fun _ _ => rfl) rfl dX5_takeFrom_11 ?_
  refine m_alenL (v := (16 : Int32)) C (ss_5_0 ho) (by decide) (by rw [(sl_5_0 ho)]; decide) dX5_takeFrom_14 ?_
  obtain ⟨M1, eM1⟩ : ∃ z : Mem, z = cpI M (v1 + 1) (o + 1) 0 0 16 := ⟨_, rfl⟩
  replace hw := hw M1 eM1
  refine a_copy C ac_X5_22 ac_native ac_static ac_init (ss_5_0 hv1) (ss_5_0 ho) (sl_5_0 hv1) (sl_5_0 ho) (by decide) (by decide) (by decide) (by decide) (by decide) (by decide) (by decide) (by decide) eM1 (Nat.le_of_ble_eq_true rfl) (Nat.le_of_ble_eq_true rfl) (Nat.le_of_ble_eq_true rfl) dX5_takeFrom_15 ?_
  refine x_aload_n C dX5_takeFrom_18 rfl rfl ?_
  refine x_aload_n C dX5_takeFrom_19 rfl rfl ?_
  refine n_getI C fl_X5_28 hv1 (fun _ _ => rfl) dX5_takeFrom_20 ?_
  obtain ⟨M2, eM2⟩ : ∃ z : Mem, z = uI M1 o 1 (M1.1 v1 1) := ⟨_, rfl⟩
  replace hw := hw M2 eM2
  refine m_putI C fp_X5_28 ho (fun _ _ => rfl) rfl rfl eM2 dX5_takeFrom_23 ?_
  refine x_aload_n C dX5_takeFrom_26 rfl rfl ?_
  refine n_getS (dd := 2) C fl_X5_15 hv1 (fun _ _ => rfl) rfl dX5_takeFrom_27 ?_
  refine x_iconst (v := (0 : Int32)) C dX5_takeFrom_30 (by decide) ?_
  refine x_aload_n C dX5_takeFrom_31 rfl rfl ?_
  refine n_getS (dd := 2) C fl_X5_15 ho (fun _ _ => rfl) rfl dX5_takeFrom_32 ?_
  refine x_iconst (v := (0 : Int32)) C dX5_takeFrom_35 (by decide) ?_
  refine x_aload_n C dX5_takeFrom_36 rfl rfl ?_
  refine n_getS (dd := 2) C fl_X5_15 ho (fun _ _ => rfl) rfl dX5_takeFrom_37 ?_
  refine m_alenL (v := (8 : Int32)) C (ss_5_2 ho) (by decide) (by rw [(sl_5_2 ho)]; decide) dX5_takeFrom_40 ?_
  obtain ⟨M3, eM3⟩ : ∃ z : Mem, z = cpI M2 (v1 + 2) (o + 2) 0 0 8 := ⟨_, rfl⟩
  replace hw := hw M3 eM3
  refine a_copy C ac_X5_22 ac_native ac_static ac_init (ss_5_2 hv1) (ss_5_2 ho) (sl_5_2 hv1) (sl_5_2 ho) (by decide) (by decide) (by decide) (by decide) (by decide) (by decide) (by decide) (by decide) eM3 (Nat.le_of_ble_eq_true rfl) (Nat.le_of_ble_eq_true rfl) (Nat.le_of_ble_eq_true rfl) dX5_takeFrom_41 ?_
  refine x_aload_n C dX5_takeFrom_44 rfl rfl ?_
  refine x_aload_n C dX5_takeFrom_45 rfl rfl ?_
  refine n_getI C fl_X5_31 hv1 (fun _ _ => rfl) dX5_takeFrom_46 ?_
  obtain ⟨M4, eM4⟩ : ∃ z : Mem, z = uI M3 o 3 (M3.1 v1 3) := ⟨_, rfl⟩
  replace hw := hw M4 eM4
  refine m_putI C fp_X5_31 ho (fun _ _ => rfl) rfl rfl eM4 dX5_takeFrom_49 ?_
  refine x_aload_n C dX5_takeFrom_52 rfl rfl ?_
  refine x_aload_n C dX5_takeFrom_53 rfl rfl ?_
  refine n_getI C fl_X5_18 hv1 (fun _ _ => rfl) dX5_takeFrom_54 ?_
  obtain ⟨M5, eM5⟩ : ∃ z : Mem, z = uI M4 o 4 (M4.1 v1 4) := ⟨_, rfl⟩
  replace hw := hw M5 eM5
  refine m_putI C fp_X5_18 ho (fun _ _ => rfl) rfl rfl eM5 dX5_takeFrom_57 ?_
  refine x_aload_n C dX5_takeFrom_60 rfl rfl ?_
  refine x_aload_n C dX5_takeFrom_61 rfl rfl ?_
  refine n_getI C fl_X5_34 hv1 (fun _ _ => rfl) dX5_takeFrom_62 ?_
  obtain ⟨M6, eM6⟩ : ∃ z : Mem, z = uI M5 o 5 (M5.1 v1 5) := ⟨_, rfl⟩
  replace hw := hw M6 eM6
  refine m_putI C fp_X5_34 ho (fun _ _ => rfl) rfl rfl eM6 dX5_takeFrom_65 ?_
  exact n_vreturn C r dX5_takeFrom_68 hw

def w_X5_add (o : Nat) (v1 : Int32) (M : Mem) (q : Mem → Prop) : Prop := (((16 : Int32) ≤ (M.1 o 1) → q M) ∧ (¬ (16 : Int32) ≤ (M.1 o 1) → vp_in (M.1 o 1) 16 ∧ ∀ M3 : Mem, M3 = uI M (o + 1) ((M.1 o 1)).toNatClampNeg v1 → ∀ M4 : Mem, M4 = uI M3 o 1 ((M3.1 o 1) + (1 : Int32)) → q M4))
set_option maxRecDepth 100000 in
set_option maxHeartbeats 4000000 in
theorem ok_X5_add {g : Gl} {l : Launch} {o : Nat} {v1 : Int32} {M : Mem} {q : Mem → Prop} (ho : sh o = .inl 5) (hw : w_X5_add o v1 M q) : CtV g l yX5_add cX5_add 2 none 1 0 [.ref (g.2.2.2 + o), .int v1] M q := by
  refine n_introV (by decide +kernel) (Nat.le_of_ble_eq_true rfl) (fun c C r => ?_)
  have C : Cx c cX5_add 2 RX5 g l (Rm 1 0) := C
  refine x_sub [0, 1] (lv' := [(0, .ref (g.2.2.2 + o)), (1, .int v1)]) rfl ?_
  unfold w_X5_add at hw
  refine x_aload_n C dX5_add_0 rfl rfl ?_
  refine n_getI C fl_X5_28 ho (fun _ _ => rfl) dX5_add_1 ?_
  refine x_bipush (v := (16 : Int32)) C dX5_add_4 (by decide) ?_
  refine x_icmp_ge (tgt := 29) C dX5_add_6 (by decide) (fun h1 => ?_) (fun h1 => ?_)
  · replace hw := hw.1 h1
    exact n_vreturn C r dX5_add_29 hw
  · replace hw := hw.2 h1
    refine x_aload_n C dX5_add_9 rfl rfl ?_
    refine n_getS (dd := 1) C fl_X5_9 ho (fun _ _ => rfl) rfl dX5_add_10 ?_
    refine x_aload_n C dX5_add_13 rfl rfl ?_
    refine n_getI C fl_X5_28 ho (fun _ _ => rfl) dX5_add_14 ?_
    refine x_iload_n C dX5_add_17 rfl rfl ?_
    obtain ⟨h2, hw⟩ := hw
    obtain ⟨M3, eM3⟩ : ∃ z : Mem, z = uI M (o + 1) ((M.1 o 1)).toNatClampNeg v1 := ⟨_, rfl⟩
    replace hw := hw M3 eM3
    refine a_iast C (ss_5_0 ho) (sl_5_0 ho) rfl h2 eM3 dX5_add_18 ?_
    refine x_aload_n C dX5_add_19 rfl rfl ?_
    refine x_dup C dX5_add_20 rfl ?_
    refine n_getI C fl_X5_28 ho (fun _ _ => rfl) dX5_add_21 ?_
    refine x_iconst (v := (1 : Int32)) C dX5_add_24 (by decide) ?_
    refine x_iadd C dX5_add_25 ?_
    obtain ⟨M4, eM4⟩ : ∃ z : Mem, z = uI M3 o 1 ((M3.1 o 1) + (1 : Int32)) := ⟨_, rfl⟩
    replace hw := hw M4 eM4
    refine m_putI C fp_X5_28 ho (fun _ _ => rfl) rfl rfl eM4 dX5_add_26 ?_
    exact n_vreturn C r dX5_add_29 hw

def w_X5_lastLook (o : Nat) (M : Mem) (q : Int32 → Mem → Prop) : Prop := ((¬ (M.1 o 3) = 0 → vp_in ((M.1 o 3) - (1 : Int32)) 8 ∧ q (M.1 (o + 2) (((M.1 o 3) - (1 : Int32))).toNatClampNeg) M) ∧ ((M.1 o 3) = 0 → q (0 : Int32) M))
set_option maxRecDepth 100000 in
set_option maxHeartbeats 4000000 in
theorem ok_X5_lastLook {g : Gl} {l : Launch} {o : Nat} {M : Mem} {q : Int32 → Mem → Prop} (ho : sh o = .inl 5) (hw : w_X5_lastLook o M q) : CtI g l yX5_lastLook cX5_lastLook 1 (some .int) 1 0 [.ref (g.2.2.2 + o)] M q := by
  refine n_introI (by decide +kernel) (Nat.le_of_ble_eq_true rfl) (fun c C r => ?_)
  have C : Cx c cX5_lastLook 1 RX5 g l (Rm 1 0) := C
  refine x_sub [0] (lv' := [(0, .ref (g.2.2.2 + o))]) rfl ?_
  unfold w_X5_lastLook at hw
  refine x_aload_n C dX5_lastLook_0 rfl rfl ?_
  refine n_getI C fl_X5_31 ho (fun _ _ => rfl) dX5_lastLook_1 ?_
  refine x_if_ne (tgt := 11) C dX5_lastLook_4 (by decide) (fun h1 => ?_) (fun h1 => ?_)
  · replace hw := hw.1 h1
    refine x_aload_n C dX5_lastLook_11 rfl rfl ?_
    refine n_getS (dd := 2) C fl_X5_15 ho (fun _ _ => rfl) rfl dX5_lastLook_12 ?_
    refine x_aload_n C dX5_lastLook_15 rfl rfl ?_
    refine n_getI C fl_X5_31 ho (fun _ _ => rfl) dX5_lastLook_16 ?_
    refine x_iconst (v := (1 : Int32)) C dX5_lastLook_19 (by decide) ?_
    refine x_isub C dX5_lastLook_20 ?_
    obtain ⟨h2, hw⟩ := hw
    refine a_iald C (ss_5_2 ho) (sl_5_2 ho) h2 dX5_lastLook_21 ?_
    exact n_ireturn C r dX5_lastLook_22 hw
  · replace hw := hw.2 h1
    refine x_iconst (v := (0 : Int32)) C dX5_lastLook_7 (by decide) ?_
    refine x_goto (tgt := 22) C dX5_lastLook_8 (by decide) ?_
    exact n_ireturn C r dX5_lastLook_22 hw

def w_X5_addLook (o : Nat) (v1 : Int32) (M : Mem) (q : Int32 → Mem → Prop) : Prop := (((M.1 o 3) < (8 : Int32) → vp_in (M.1 o 3) 8 ∧ ∀ M3 : Mem, M3 = uI M (o + 2) ((M.1 o 3)).toNatClampNeg v1 → ∀ M4 : Mem, M4 = uI M3 o 3 ((M3.1 o 3) + (1 : Int32)) → q (M4.1 o 3) M4) ∧ (¬ (M.1 o 3) < (8 : Int32) → q (-4 : Int32) M))
set_option maxRecDepth 100000 in
set_option maxHeartbeats 4000000 in
theorem ok_X5_addLook {g : Gl} {l : Launch} {o : Nat} {v1 : Int32} {M : Mem} {q : Int32 → Mem → Prop} (ho : sh o = .inl 5) (hw : w_X5_addLook o v1 M q) : CtI g l yX5_addLook cX5_addLook 2 (some .int) 1 0 [.ref (g.2.2.2 + o), .int v1] M q := by
  refine n_introI (by decide +kernel) (Nat.le_of_ble_eq_true rfl) (fun c C r => ?_)
  have C : Cx c cX5_addLook 2 RX5 g l (Rm 1 0) := C
  refine x_sub [0, 1] (lv' := [(0, .ref (g.2.2.2 + o)), (1, .int v1)]) rfl ?_
  unfold w_X5_addLook at hw
  refine x_aload_n C dX5_addLook_0 rfl rfl ?_
  refine n_getI C fl_X5_31 ho (fun _ _ => rfl) dX5_addLook_1 ?_
  refine x_bipush (v := (8 : Int32)) C dX5_addLook_4 (by decide) ?_
  refine x_icmp_lt (tgt := 12) C dX5_addLook_6 (by decide) (fun h1 => ?_) (fun h1 => ?_)
  · replace hw := hw.1 h1
    refine x_aload_n C dX5_addLook_12 rfl rfl ?_
    refine n_getS (dd := 2) C fl_X5_15 ho (fun _ _ => rfl) rfl dX5_addLook_13 ?_
    refine x_aload_n C dX5_addLook_16 rfl rfl ?_
    refine n_getI C fl_X5_31 ho (fun _ _ => rfl) dX5_addLook_17 ?_
    refine x_iload_n C dX5_addLook_20 rfl rfl ?_
    obtain ⟨h2, hw⟩ := hw
    obtain ⟨M3, eM3⟩ : ∃ z : Mem, z = uI M (o + 2) ((M.1 o 3)).toNatClampNeg v1 := ⟨_, rfl⟩
    replace hw := hw M3 eM3
    refine a_iast C (ss_5_2 ho) (sl_5_2 ho) rfl h2 eM3 dX5_addLook_21 ?_
    refine x_aload_n C dX5_addLook_22 rfl rfl ?_
    refine x_dup C dX5_addLook_23 rfl ?_
    refine n_getI C fl_X5_31 ho (fun _ _ => rfl) dX5_addLook_24 ?_
    refine x_iconst (v := (1 : Int32)) C dX5_addLook_27 (by decide) ?_
    refine x_iadd C dX5_addLook_28 ?_
    obtain ⟨M4, eM4⟩ : ∃ z : Mem, z = uI M3 o 3 ((M3.1 o 3) + (1 : Int32)) := ⟨_, rfl⟩
    replace hw := hw M4 eM4
    refine m_putI C fp_X5_31 ho (fun _ _ => rfl) rfl rfl eM4 dX5_addLook_29 ?_
    refine x_aload_n C dX5_addLook_32 rfl rfl ?_
    refine n_getI C fl_X5_31 ho (fun _ _ => rfl) dX5_addLook_33 ?_
    exact n_ireturn C r dX5_addLook_36 hw
  · replace hw := hw.2 h1
    refine x_bipush (v := (-4 : Int32)) C dX5_addLook_9 (by decide) ?_
    exact n_ireturn C r dX5_addLook_11 hw


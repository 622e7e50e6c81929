def w_X0_clear (o : Nat) (M : Mem) (q : Mem → Prop) : Prop := ∀ M1 : Mem, M1 = uI M o 1 (0 : Int32) → q M1
set_option maxRecDepth 100000 in
set_option maxHeartbeats 4000000 in
theorem ok_X0_clear {g : Gl} {l : Launch} {o : Nat} {M : Mem} {q : Mem → Prop} (ho : sh o = .inl 0) (hw : w_X0_clear o M q) : CtV g l yX0_clear cX0_clear 1 none 1 0 [.ref (g.2.2.2 + o)] M q := by
  refine n_introV (by decide +kernel) (Nat.le_of_ble_eq_true rfl) (fun c C r => ?_)
  have C : Cx c cX0_clear 1 RX0 g l (Rm 1 0) := C
  refine x_sub [0] (lv' := [(0, .ref (g.2.2.2 + o))]) rfl ?_
  unfold w_X0_clear at hw
  refine x_aload_n C dX0_clear_0 rfl rfl ?_
  refine x_iconst (v := (0 : Int32)) C dX0_clear_1 (by decide) ?_
  obtain ⟨M1, eM1⟩ : ∃ z : Mem, z = uI M o 1 (0 : Int32) := ⟨_, rfl⟩
  replace hw := hw M1 eM1
  refine m_putI C fp_X0_15 ho (fun _ _ => rfl) rfl rfl eM1 dX0_clear_2 ?_
  exact n_vreturn C r dX0_clear_5 hw

def w_X0_add_b54 (o : Nat) (v1 : Int32) (v2 : Int32) (M : Mem) (q : Mem → Prop) : Prop := vp_in v2 200 ∧ ∀ M2 : Mem, M2 = uI M (o + 1) (v2).toNatClampNeg v1 → ∀ M3 : Mem, M3 = uI M2 o 1 ((M2.1 o 1) + (1 : Int32)) → q M3
set_option maxRecDepth 100000 in
set_option maxHeartbeats 4000000 in
theorem ok_X0_add_b54 {c : CtxT} {g : Gl} {l : Launch} {o : Nat} {v1 : Int32} {v2 : Int32} {q : Mem → Prop} {M : Mem} (C : Cx c cX0_add 3 RX0 g l (Rm 1 0)) (r : Rt c (none) (pV q) 0 0) (ho : sh o = .inl 0) (hw : w_X0_add_b54 o v1 v2 M q ) : X c S0 54 [(0, .ref (g.2.2.2 + o)), (1, .int v1), (2, .int v2)] [] (stat M) := by
  unfold w_X0_add_b54 at hw
  refine x_aload_n C dX0_add_54 rfl rfl ?_
  refine n_getS (dd := 1) C fl_X0_9 ho (fun _ _ => rfl) rfl dX0_add_55 ?_
  refine x_iload_n C dX0_add_58 rfl rfl ?_
  refine x_iload_n C dX0_add_59 rfl rfl ?_
  obtain ⟨h1, hw⟩ := hw
  obtain ⟨M2, eM2⟩ : ∃ z : Mem, z = uI M (o + 1) (v2).toNatClampNeg v1 := ⟨_, rfl⟩
  replace hw := hw M2 eM2
  refine a_iast C (ss_0_0 ho) (sl_0_0 ho) rfl h1 eM2 dX0_add_60 ?_
  refine x_aload_n C dX0_add_61 rfl rfl ?_
  refine x_dup C dX0_add_62 rfl ?_
  refine n_getI C fl_X0_15 ho (fun _ _ => rfl) dX0_add_63 ?_
  refine x_iconst (v := (1 : Int32)) C dX0_add_66 (by decide) ?_
  refine x_iadd C dX0_add_67 ?_
  obtain ⟨M3, eM3⟩ : ∃ z : Mem, z = uI M2 o 1 ((M2.1 o 1) + (1 : Int32)) := ⟨_, rfl⟩
  replace hw := hw M3 eM3
  refine m_putI C fp_X0_15 ho (fun _ _ => rfl) rfl rfl eM3 dX0_add_68 ?_
  exact n_vreturn C r dX0_add_71 hw
def w_X0_add_l18F (o : Nat) (v1 : Int32) (q : Mem → Prop) (P18 : Int32 × Mem → Prop) (s : Int32 × Mem) : Prop := match s with
  | (v2, M) => ((v2 ≤ 0 → w_X0_add_b54 o v1 v2 M q) ∧ (¬ v2 ≤ 0 → vp_in (v2 - (1 : Int32)) 200 ∧ (((M.1 (o + 1) ((v2 - (1 : Int32))).toNatClampNeg) ≤ v1 → w_X0_add_b54 o v1 v2 M q) ∧ (¬ (M.1 (o + 1) ((v2 - (1 : Int32))).toNatClampNeg) ≤ v1 → vp_in (v2 - (1 : Int32)) 200 ∧ vp_in v2 200 ∧ ∀ M9 : Mem, M9 = uI M (o + 1) (v2).toNatClampNeg (M.1 (o + 1) ((v2 - (1 : Int32))).toNatClampNeg) → ∀ x10 : Int32, x10 = v2 + (-1 : Int32) → P18 (x10, M9)))))
def w_X0_add_l18 (o : Nat) (v1 : Int32) (q : Mem → Prop) (s : Int32 × Mem) : Prop := lfp (w_X0_add_l18F o v1 q ) s
set_option maxRecDepth 100000 in
set_option maxHeartbeats 4000000 in
theorem ok_X0_add_l18 {c : CtxT} {g : Gl} {l : Launch} {o : Nat} {v1 : Int32} {q : Mem → Prop} {s : Int32 × Mem} (C : Cx c cX0_add 3 RX0 g l (Rm 1 0)) (r : Rt c (none) (pV q) 0 0) (ho : sh o = .inl 0) (hw : w_X0_add_l18 o v1 q s) : X c S0 18 [(0, .ref (g.2.2.2 + o)), (1, .int v1), (2, .int s.1)] [] (stat s.2) := hw (fun s => X c S0 18 [(0, .ref (g.2.2.2 + o)), (1, .int v1), (2, .int s.1)] [] (stat s.2)) (fun s hw => by
    obtain ⟨v2, M⟩ := s
    dsimp only [w_X0_add_l18F] at hw
    dsimp only
    refine x_iload_n C dX0_add_18 rfl rfl ?_
    refine x_if_le (tgt := 54) C dX0_add_19 (by decide) (fun h4 => ?_) (fun h4 => ?_)
    · replace hw := hw.1 h4
      exact x_sub [0, 1, 2] rfl (ok_X0_add_b54 C r ho hw)
    · replace hw := hw.2 h4
      refine x_aload_n C dX0_add_22 rfl rfl ?_
      refine n_getS (dd := 1) C fl_X0_9 ho (fun _ _ => rfl) rfl dX0_add_23 ?_
      refine x_iload_n C dX0_add_26 rfl rfl ?_
      refine x_iconst (v := (1 : Int32)) C dX0_add_27 (by decide) ?_
      refine x_isub C dX0_add_28 ?_
      obtain ⟨h5, hw⟩ := hw
      refine a_iald C (ss_0_0 ho) (sl_0_0 ho) h5 dX0_add_29 ?_
      refine x_iload_n C dX0_add_30 rfl rfl ?_
      refine x_icmp_le (tgt := 54) C dX0_add_31 (by decide) (fun h6 => ?_) (fun h6 => ?_)
      · replace hw := hw.1 h6
        exact x_sub [0, 1, 2] rfl (ok_X0_add_b54 C r ho hw)
      · replace hw := hw.2 h6
        refine x_aload_n C dX0_add_34 rfl rfl ?_
        refine n_getS (dd := 1) C fl_X0_9 ho (fun _ _ => rfl) rfl dX0_add_35 ?_
        refine x_iload_n C dX0_add_38 rfl rfl ?_
        refine x_aload_n C dX0_add_39 rfl rfl ?_
        refine n_getS (dd := 1) C fl_X0_9 ho (fun _ _ => rfl) rfl dX0_add_40 ?_
        refine x_iload_n C dX0_add_43 rfl rfl ?_
        refine x_iconst (v := (1 : Int32)) C dX0_add_44 (by decide) ?_
        refine x_isub C dX0_add_45 ?_
        obtain ⟨h7, hw⟩ := hw
        refine a_iald C (ss_0_0 ho) (sl_0_0 ho) h7 dX0_add_46 ?_
        obtain ⟨h8, hw⟩ := hw
        obtain ⟨M9, eM9⟩ : ∃ z : Mem, z = uI M (o + 1) (v2).toNatClampNeg (M.1 (o + 1) ((v2 - (1 : Int32))).toNatClampNeg) := ⟨_, rfl⟩
        replace hw := hw M9 eM9
        refine a_iast C (ss_0_0 ho) (sl_0_0 ho) rfl h8 eM9 dX0_add_47 ?_
        obtain ⟨x10, ex10⟩ : ∃ z : Int32, z = v2 + (-1 : Int32) := ⟨_, rfl⟩
        replace hw := hw x10 ex10
        refine x_iinc (v := x10) C dX0_add_48 rfl ex10.symm (Nat.le_of_ble_eq_true rfl) ?_
        refine x_goto (tgt := 18) C dX0_add_51 (by decide) ?_
        exact x_sub [0, 1, 2] rfl hw)
def w_X0_add (o : Nat) (v1 : Int32) (M : Mem) (q : Mem → Prop) : Prop := (((M.1 o 1) < (200 : Int32) → ∀ x12 : Int32, x12 = (M.1 o 1) → w_X0_add_l18 o v1 q (x12, M)) ∧ (¬ (M.1 o 1) < (200 : Int32) → q M))
set_option maxRecDepth 100000 in
set_option maxHeartbeats 4000000 in
theorem ok_X0_add {g : Gl} {l : Launch} {o : Nat} {v1 : Int32} {M : Mem} {q : Mem → Prop} (ho : sh o = .inl 0) (hw : w_X0_add o v1 M q) : CtV g l yX0_add cX0_add 3 none 1 0 [.ref (g.2.2.2 + o), .int v1] M q := by
  refine n_introV (by decide +kernel) (Nat.le_of_ble_eq_true rfl) (fun c C r => ?_)
  have C : Cx c cX0_add 3 RX0 g l (Rm 1 0) := C
  refine x_sub [0, 1] (lv' := [(0, .ref (g.2.2.2 + o)), (1, .int v1)]) rfl ?_
  unfold w_X0_add at hw
  refine x_aload_n C dX0_add_0 rfl rfl ?_
  refine n_getI C fl_X0_15 ho (fun _ _ => rfl) dX0_add_1 ?_
  refine x_aload_n C dX0_add_4 rfl rfl ?_
  refine n_getS (dd := 1) C fl_X0_9 ho (fun _ _ => rfl) rfl dX0_add_5 ?_
  refine m_alenL (v := (200 : Int32)) C (ss_0_0 ho) (by decide) (by rw [(sl_0_0 ho)]; decide) dX0_add_8 ?_
  refine x_icmp_lt (tgt := 13) C dX0_add_9 (by decide) (fun h11 => ?_) (fun h11 => ?_)
  · replace hw := hw.1 h11
    refine x_aload_n C dX0_add_13 rfl rfl ?_
    refine n_getI C fl_X0_15 ho (fun _ _ => rfl) dX0_add_14 ?_
    obtain ⟨x12, ex12⟩ : ∃ z : Int32, z = (M.1 o 1) := ⟨_, rfl⟩
    replace hw := hw x12 ex12
    refine x_topi ex12 ?_
    refine x_istore_n C dX0_add_17 rfl (Nat.le_of_ble_eq_true rfl) ?_
    exact x_sub [0, 1, 2] rfl (ok_X0_add_l18 C r ho hw)
  · replace hw := hw.2 h11
    exact n_vreturn C r dX0_add_12 hw

def w_X0_least (o : Nat) (M : Mem) (q : Int32 → Mem → Prop) : Prop := ((¬ (M.1 o 1) = 0 → q (M.1 (o + 1) 0) M) ∧ ((M.1 o 1) = 0 → q (0 : Int32) M))
set_option maxRecDepth 100000 in
set_option maxHeartbeats 4000000 in
theorem ok_X0_least {g : Gl} {l : Launch} {o : Nat} {M : Mem} {q : Int32 → Mem → Prop} (ho : sh o = .inl 0) (hw : w_X0_least o M q) : CtI g l yX0_least cX0_least 1 (some .int) 1 0 [.ref (g.2.2.2 + o)] M q := by
  refine n_introI (by decide +kernel) (Nat.le_of_ble_eq_true rfl) (fun c C r => ?_)
  have C : Cx c cX0_least 1 RX0 g l (Rm 1 0) := C
  refine x_sub [0] (lv' := [(0, .ref (g.2.2.2 + o))]) rfl ?_
  unfold w_X0_least at hw
  refine x_aload_n C dX0_least_0 rfl rfl ?_
  refine n_getI C fl_X0_15 ho (fun _ _ => rfl) dX0_least_1 ?_
  refine x_if_ne (tgt := 11) C dX0_least_4 (by decide) (fun h1 => ?_) (fun h1 => ?_)
  · replace hw := hw.1 h1
    refine x_aload_n C dX0_least_11 rfl rfl ?_
    refine n_getS (dd := 1) C fl_X0_9 ho (fun _ _ => rfl) rfl dX0_least_12 ?_
    refine x_iconst (v := (0 : Int32)) C dX0_least_15 (by decide) ?_
    refine a_ialdL (ni := 0) C (ss_0_0 ho) (sl_0_0 ho) (by decide) (vin _ _ (by decide +kernel)) dX0_least_16 ?_
    exact n_ireturn C r dX0_least_17 hw
  · replace hw := hw.2 h1
    refine x_iconst (v := (0 : Int32)) C dX0_least_7 (by decide) ?_
    refine x_goto (tgt := 17) C dX0_least_8 (by decide) ?_
    exact n_ireturn C r dX0_least_17 hw

def w_X0_greatest (o : Nat) (M : Mem) (q : Int32 → Mem → Prop) : Prop := ((¬ (M.1 o 1) = 0 → vp_in ((M.1 o 1) - (1 : Int32)) 200 ∧ q (M.1 (o + 1) (((M.1 o 1) - (1 : Int32))).toNatClampNeg) M) ∧ ((M.1 o 1) = 0 → q (0 : Int32) M))
set_option maxRecDepth 100000 in
set_option maxHeartbeats 4000000 in
theorem ok_X0_greatest {g : Gl} {l : Launch} {o : Nat} {M : Mem} {q : Int32 → Mem → Prop} (ho : sh o = .inl 0) (hw : w_X0_greatest o M q) : CtI g l yX0_greatest cX0_greatest 1 (some .int) 1 0 [.ref (g.2.2.2 + o)] M q := by
  refine n_introI (by decide +kernel) (Nat.le_of_ble_eq_true rfl) (fun c C r => ?_)
  have C : Cx c cX0_greatest 1 RX0 g l (Rm 1 0) := C
  refine x_sub [0] (lv' := [(0, .ref (g.2.2.2 + o))]) rfl ?_
  unfold w_X0_greatest at hw
  refine x_aload_n C dX0_greatest_0 rfl rfl ?_
  refine n_getI C fl_X0_15 ho (fun _ _ => rfl) dX0_greatest_1 ?_
  refine x_if_ne (tgt := 11) C dX0_greatest_4 (by decide) (fun h1 => ?_) (fun h1 => ?_)
  · replace hw := hw.1 h1
    refine x_aload_n C dX0_greatest_11 rfl rfl ?_
    refine n_getS (dd := 1) C fl_X0_9 ho (fun _ _ => rfl) rfl dX0_greatest_12 ?_
    refine x_aload_n C dX0_greatest_15 rfl rfl ?_
    refine n_getI C fl_X0_15 ho (fun _ _ => rfl) dX0_greatest_16 ?_
    refine x_iconst (v := (1 : Int32)) C dX0_greatest_19 (by decide) ?_
    refine x_isub C dX0_greatest_20 ?_
    obtain ⟨h2, hw⟩ := hw
    refine a_iald C (ss_0_0 ho) (sl_0_0 ho) h2 dX0_greatest_21 ?_
    exact n_ireturn C r dX0_greatest_22 hw
  · replace hw := hw.2 h1
    refine x_iconst (v := (0 : Int32)) C dX0_greatest_7 (by decide) ?_
    refine x_goto (tgt := 22) C dX0_greatest_8 (by decide) ?_
    exact n_ireturn C r dX0_greatest_22 hw

def w_X0_middle (o : Nat) (M : Mem) (q : Int32 → Mem → Prop) : Prop := ((¬ (M.1 o 1) = 0 → ((¬ (irm (M.1 o 1) (2 : Int32)) = (1 : Int32) → vp_in (((M.1 o 1) / (2 : Int32)) - (1 : Int32)) 200 ∧ vp_in ((M.1 o 1) / (2 : Int32)) 200 ∧ q (((M.1 (o + 1) ((((M.1 o 1) / (2 : Int32)) - (1 : Int32))).toNatClampNeg) + (M.1 (o + 1) (((M.1 o 1) / (2 : Int32))).toNatClampNeg)) / (2 : Int32)) M) ∧ ((irm (M.1 o 1) (2 : Int32)) = (1 : Int32) → vp_in ((M.1 o 1) / (2 : Int32)) 200 ∧ q (M.1 (o + 1) (((M.1 o 1) / (2 : Int32))).toNatClampNeg) M))) ∧ ((M.1 o 1) = 0 → q (0 : Int32) M))
set_option maxRecDepth 100000 in
set_option maxHeartbeats 4000000 in
theorem ok_X0_middle {g : Gl} {l : Launch} {o : Nat} {M : Mem} {q : Int32 → Mem → Prop} (ho : sh o = .inl 0) (hw : w_X0_middle o M q) : CtI g l yX0_middle cX0_middle 1 (some .int) 1 0 [.ref (g.2.2.2 + o)] M q := by
  refine n_introI (by decide +kernel) (Nat.le_of_ble_eq_true rfl) (fun c C r => ?_)
  have C : Cx c cX0_middle 1 RX0 g l (Rm 1 0) := C
  refine x_sub [0] (lv' := [(0, .ref (g.2.2.2 + o))]) rfl ?_
  unfold w_X0_middle at hw
  refine x_aload_n C dX0_middle_0 rfl rfl ?_
  refine n_getI C fl_X0_15 ho (fun _ _ => rfl) dX0_middle_1 ?_
  refine x_if_ne (tgt := 9) C dX0_middle_4 (by decide) (fun h1 => ?_) (fun h1 => ?_)
  · replace hw := hw.1 h1
    refine x_aload_n C dX0_middle_9 rfl rfl ?_
    refine n_getI C fl_X0_15 ho (fun _ _ => rfl) dX0_middle_10 ?_
    refine x_iconst (v := (2 : Int32)) C dX0_middle_13 (by decide) ?_
    refine x_iremv C dX0_middle_14 (by decide) ?_
    refine x_iconst (v := (1 : Int32)) C dX0_middle_15 (by decide) ?_
    refine x_icmp_ne (tgt := 33) C dX0_middle_16 (by decide) (fun h2 => ?_) (fun h2 => ?_)
    · replace hw := hw.1 h2
      refine x_aload_n C dX0_middle_33 rfl rfl ?_
      refine n_getS (dd := 1) C fl_X0_9 ho (fun _ _ => rfl) rfl dX0_middle_34 ?_
      refine x_aload_n C dX0_middle_37 rfl rfl ?_
      refine n_getI C fl_X0_15 ho (fun _ _ => rfl) dX0_middle_38 ?_
      refine x_iconst (v := (2 : Int32)) C dX0_middle_41 (by decide) ?_
      refine x_idiv C dX0_middle_42 (by decide) ?_
      refine x_iconst (v := (1 : Int32)) C dX0_middle_43 (by decide) ?_
      refine x_isub C dX0_middle_44 ?_
      obtain ⟨h3, hw⟩ := hw
      refine a_iald C (ss_0_0 ho) (sl_0_0 ho) h3 dX0_middle_45 ?_
      refine x_aload_n C dX0_middle_46 rfl rfl ?_
      refine n_getS (dd := 1) C fl_X0_9 ho (fun _ _ => rfl) rfl dX0_middle_47 ?_
      refine x_aload_n C dX0_middle_50 rfl rfl ?_
      refine n_getI C fl_X0_15 ho (fun _ _ => rfl) dX0_middle_51 ?_
      refine x_iconst (v := (2 : Int32)) C dX0_middle_54 (by decide) ?_
      refine x_idiv C dX0_middle_55 (by decide) ?_
      obtain ⟨h4, hw⟩ := hw
      refine a_iald C (ss_0_0 ho) (sl_0_0 ho) h4 dX0_middle_56 ?_
      refine x_iadd C dX0_middle_57 ?_
      refine x_iconst (v := (2 : Int32)) C dX0_middle_58 (by decide) ?_
      refine x_idiv C dX0_middle_59 (by decide) ?_
      exact n_ireturn C r dX0_middle_60 hw
    · replace hw := hw.2 h2
      refine x_aload_n C dX0_middle_19 rfl rfl ?_
      refine n_getS (dd := 1) C fl_X0_9 ho (fun _ _ => rfl) rfl dX0_middle_20 ?_
      refine x_aload_n C dX0_middle_23 rfl rfl ?_
      refine n_getI C fl_X0_15 ho (fun _ _ => rfl) dX0_middle_24 ?_
      refine x_iconst (v := (2 : Int32)) C dX0_middle_27 (by decide) ?_
      refine x_idiv C dX0_middle_28 (by decide) ?_
      obtain ⟨h5, hw⟩ := hw
      refine a_iald C (ss_0_0 ho) (sl_0_0 ho) h5 dX0_middle_29 ?_
      refine x_goto (tgt := 60) C dX0_middle_30 (by decide) ?_
      exact n_ireturn C r dX0_middle_60 hw
  · replace hw := hw.2 h1
    refine x_iconst (v := (0 : Int32)) C dX0_middle_7 (by decide) ?_
    exact n_ireturn C r dX0_middle_8 hw

def w_X11_isOut_b9 (M : Mem) (q : Int32 → Mem → Prop) : Prop := q (1 : Int32) M
set_option maxRecDepth 100000 in
set_option maxHeartbeats 4000000 in
theorem ok_X11_isOut_b9 {c : CtxT} {g : Gl} {l : Launch} {q : Int32 → Mem → Prop} {M : Mem} (C : Cx c cX11_isOut 2 RX11 g l (Rm 1 0)) (r : Rt c (some .boolean) (pI q) 0 0) (hw : w_X11_isOut_b9 M q ) : X c S0 9 [] [] (stat M) := by
  unfold w_X11_isOut_b9 at hw
  refine x_iconst (v := (1 : Int32)) C dX11_isOut_9 (by decide) ?_
  refine x_goto (tgt := 14) C dX11_isOut_10 (by decide) ?_
  exact n_zreturn C r dX11_isOut_14 (Or.inr rfl) hw
def w_X11_isOut (v0 : Int32) (v1 : Int32) (M : Mem) (q : Int32 → Mem → Prop) : Prop := ((v0 < 0 → w_X11_isOut_b9 M q) ∧ (¬ v0 < 0 → ((v0 < v1 → q (0 : Int32) M) ∧ (¬ v0 < v1 → w_X11_isOut_b9 M q))))
set_option maxRecDepth 100000 in
set_option maxHeartbeats 4000000 in
theorem ok_X11_isOut {g : Gl} {l : Launch} {v0 : Int32} {v1 : Int32} {M : Mem} {q : Int32 → Mem → Prop} (hw : w_X11_isOut v0 v1 M q) : CtI g l yX11_isOut cX11_isOut 2 (some .boolean) 1 0 [.int v0, .int v1] M q := by
  refine n_introI (by decide +kernel) (Nat.le_of_ble_eq_true rfl) (fun c C r => ?_)
  have C : Cx c cX11_isOut 2 RX11 g l (Rm 1 0) := C
  refine x_sub [0, 1] (lv' := [(0, .int v0), (1, .int v1)]) rfl ?_
  unfold w_X11_isOut at hw
  refine x_iload_n C dX11_isOut_0 rfl rfl ?_
  refine x_if_lt (tgt := 9) C dX11_isOut_1 (by decide) (fun h1 => ?_) (fun h1 => ?_)
  · replace hw := hw.1 h1
    exact x_sub [] rfl (ok_X11_isOut_b9 C r  hw)
  · replace hw := hw.2 h1
    refine x_iload_n C dX11_isOut_4 rfl rfl ?_
    refine x_iload_n C dX11_isOut_5 rfl rfl ?_
    refine x_icmp_lt (tgt := 13) C dX11_isOut_6 (by decide) (fun h2 => ?_) (fun h2 => ?_)
    · replace hw := hw.1 h2
      refine x_iconst (v := (0 : Int32)) C dX11_isOut_13 (by decide) ?_
      exact n_zreturn C r dX11_isOut_14 (Or.inl rfl) hw
    · replace hw := hw.2 h2
      exact x_sub [] rfl (ok_X11_isOut_b9 C r  hw)

def w_X11_isBeyond_b10 (M : Mem) (q : Int32 → Mem → Prop) : Prop := q (1 : Int32) M
set_option maxRecDepth 100000 in
set_option maxHeartbeats 4000000 in
theorem ok_X11_isBeyond_b10 {c : CtxT} {g : Gl} {l : Launch} {q : Int32 → Mem → Prop} {M : Mem} (C : Cx c cX11_isBeyond 3 RX11 g l (Rm 1 0)) (r : Rt c (some .boolean) (pI q) 0 0) (hw : w_X11_isBeyond_b10 M q ) : X c S0 10 [] [] (stat M) := by
  unfold w_X11_isBeyond_b10 at hw
  refine x_iconst (v := (1 : Int32)) C dX11_isBeyond_10 (by decide) ?_
  refine x_goto (tgt := 15) C dX11_isBeyond_11 (by decide) ?_
  exact n_zreturn C r dX11_isBeyond_15 (Or.inr rfl) hw
def w_X11_isBeyond (v0 : Int32) (v1 : Int32) (v2 : Int32) (M : Mem) (q : Int32 → Mem → Prop) : Prop := ((v0 < v1 → w_X11_isBeyond_b10 M q) ∧ (¬ v0 < v1 → ((v0 ≤ v2 → q (0 : Int32) M) ∧ (¬ v0 ≤ v2 → w_X11_isBeyond_b10 M q))))
set_option maxRecDepth 100000 in
set_option maxHeartbeats 4000000 in
theorem ok_X11_isBeyond {g : Gl} {l : Launch} {v0 : Int32} {v1 : Int32} {v2 : Int32} {M : Mem} {q : Int32 → Mem → Prop} (hw : w_X11_isBeyond v0 v1 v2 M q) : CtI g l yX11_isBeyond cX11_isBeyond 3 (some .boolean) 1 0 [.int v0, .int v1, .int v2] M q := by
  refine n_introI (by decide +kernel) (Nat.le_of_ble_eq_true rfl) (fun c C r => ?_)
  have C : Cx c cX11_isBeyond 3 RX11 g l (Rm 1 0) := C
  refine x_sub [0, 1, 2] (lv' := [(0, .int v0), (1, .int v1), (2, .int v2)]) rfl ?_
  unfold w_X11_isBeyond at hw
  refine x_iload_n C dX11_isBeyond_0 rfl rfl ?_
  refine x_iload_n C dX11_isBeyond_1 rfl rfl ?_
  refine x_icmp_lt (tgt := 10) C dX11_isBeyond_2 (by decide) (fun h1 => ?_) (fun h1 => ?_)
  · replace hw := hw.1 h1
    exact x_sub [] rfl (ok_X11_isBeyond_b10 C r  hw)
  · replace hw := hw.2 h1
    refine x_iload_n C dX11_isBeyond_5 rfl rfl ?_
    refine x_iload_n C dX11_isBeyond_6 rfl rfl ?_
    refine x_icmp_le (tgt := 14) C dX11_isBeyond_7 (by decide) (fun h2 => ?_) (fun h2 => ?_)
    · replace hw := hw.1 h2
      refine x_iconst (v := (0 : Int32)) C dX11_isBeyond_14 (by decide) ?_
      exact n_zreturn C r dX11_isBeyond_15 (Or.inl rfl) hw
    · replace hw := hw.2 h2
      exact x_sub [] rfl (ok_X11_isBeyond_b10 C r  hw)

def w_X11_leftOver (v0 : Int32) (v1 : Int32) (M : Mem) (q : Int32 → Mem → Prop) : Prop := (((1 : Int32) ≤ v1 → ¬ v1 = 0 ∧ ∀ x3 : Int32, x3 = (irm v0 v1) → ((0 ≤ x3 → q x3 M) ∧ (¬ 0 ≤ x3 → q (x3 + v1) M))) ∧ (¬ (1 : Int32) ≤ v1 → q (0 : Int32) M))
set_option maxRecDepth 100000 in
set_option maxHeartbeats 4000000 in
theorem ok_X11_leftOver {g : Gl} {l : Launch} {v0 : Int32} {v1 : Int32} {M : Mem} {q : Int32 → Mem → Prop} (hw : w_X11_leftOver v0 v1 M q) : CtI g l yX11_leftOver cX11_leftOver 3 (some .int) 1 0 [.int v0, .int v1] M q := by
  refine n_introI (by decide +kernel) (Nat.le_of_ble_eq_true rfl) (fun c C r => ?_)
  have C : Cx c cX11_leftOver 3 RX11 g l (Rm 1 0) := C
  refine x_sub [0, 1] (lv' := [(0, .int v0), (1, .int v1)]) rfl ?_
  unfold w_X11_leftOver at hw
  refine x_iload_n C dX11_leftOver_0 rfl rfl ?_
  refine x_iconst (v := (1 : Int32)) C dX11_leftOver_1 (by decide) ?_
  refine x_icmp_ge (tgt := 7) C dX11_leftOver_2 (by decide) (fun h1 => ?_) (fun h1 => ?_)
  · replace hw := hw.1 h1
    refine x_iload_n C dX11_leftOver_7 rfl rfl ?_
    refine x_iload_n C dX11_leftOver_8 rfl rfl ?_
    obtain ⟨h2, hw⟩ := hw
    refine x_iremv C dX11_leftOver_9 h2 ?_
    obtain ⟨x3, ex3⟩ : ∃ z : Int32, z = (irm v0 v1) := ⟨_, rfl⟩
    replace hw := hw x3 ex3
    refine x_topi ex3 ?_
    refine x_istore_n C dX11_leftOver_10 rfl (Nat.le_of_ble_eq_true rfl) ?_
    refine x_iload_n C dX11_leftOver_11 rfl rfl ?_
    refine x_if_ge (tgt := 21) C dX11_leftOver_12 (by decide) (fun h4 => ?_) (fun h4 => ?_)
    · replace hw := hw.1 h4
      refine x_iload_n C dX11_leftOver_21 rfl rfl ?_
      exact n_ireturn C r dX11_leftOver_22 hw
    · replace hw := hw.2 h4
      refine x_iload_n C dX11_leftOver_15 rfl rfl ?_
      refine x_iload_n C dX11_leftOver_16 rfl rfl ?_
      refine x_iadd C dX11_leftOver_17 ?_
      refine x_goto (tgt := 22) C dX11_leftOver_18 (by decide) ?_
      exact n_ireturn C r dX11_leftOver_22 hw
  · replace hw := hw.2 h1
    refine x_iconst (v := (0 : Int32)) C dX11_leftOver_5 (by decide) ?_
    exact n_ireturn C r dX11_leftOver_6 hw


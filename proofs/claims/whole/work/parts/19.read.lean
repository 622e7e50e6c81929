def w_X4_within (V : Nat → Int32 → Mem → (Int64 → Mem → Prop) → Prop) (o : Nat) (v1 : Int32) (M : Mem) (q : Int64 → Mem → Prop) : Prop := ∀ M1 : Mem, M1 = uI M o 3 ((M.1 o 3) + (1 : Int32)) → V o v1 M1 (fun (r3 : Int64) (M2 : Mem) => w_X4_takes o (41 : Int32) M2 (fun (r5 : Int32) (M4 : Mem) => ((¬ r5 = 0 → q r3 M4) ∧ (r5 = 0 → w_X4_fail o (1 : Int32) M4 (fun (r8 : Int64) (M7 : Mem) => q r3 M7)))))
set_option maxRecDepth 100000 in
set_option maxHeartbeats 4000000 in
theorem ok_X4_within {g : Gl} {l : Launch} {V : Nat → Int32 → Mem → (Int64 → Mem → Prop) → Prop} {frV loV : Nat} {o : Nat} {v1 : Int32} {M : Mem} {q : Int64 → Mem → Prop} (hV : ∀ {o : Nat} {v1 : Int32} {M : Mem} {q : Int64 → Mem → Prop}, sh o = .inl 4 → V o v1 M q → CtJ g l yX4_value cX4_value 7 (some .long) frV loV [.ref (g.2.2.2 + o), .int v1] M q) (ho : sh o = .inl 4) (hw : w_X4_within V o v1 M q) : CtJ g l yX4_within cX4_within 4 (some .long) (frV + 3) (loV + 41) [.ref (g.2.2.2 + o), .int v1] M q := by
  refine n_introJ (by decide +kernel) (Nat.le_of_ble_eq_true rfl) (fun c C r => ?_)
  have C : Cx c cX4_within 4 RX4 g l (Rm (frV + 3) (loV + 41)) := C
  refine x_sub [0, 1] (lv' := [(0, .ref (g.2.2.2 + o)), (1, .int v1)]) rfl ?_
  unfold w_X4_within at hw
  refine x_aload_n C dX4_within_0 rfl rfl ?_
  refine x_dup C dX4_within_1 rfl ?_
  refine n_getI C fl_X4_54 ho (fun _ _ => rfl) dX4_within_2 ?_
  refine x_iconst (v := (1 : Int32)) C dX4_within_5 (by decide) ?_
  refine x_iadd C dX4_within_6 ?_
  obtain ⟨M1, eM1⟩ : ∃ z : Mem, z = uI M o 3 ((M.1 o 3) + (1 : Int32)) := ⟨_, rfl⟩
  replace hw := hw M1 eM1
  refine m_putI C fp_X4_54 ho (fun _ _ => rfl) rfl rfl eM1 dX4_within_7 ?_
  refine x_aload_n C dX4_within_10 rfl rfl ?_
  refine x_iload_n C dX4_within_11 rfl rfl ?_
  refine n_callVJ ho rfl C (hV ho hw) mv_X4_57 rfl rfl ⟨by show frV + 1 ≤ frV + 3; omega, by show 8 + (7 + 11) + (loV) ≤ loV + 41; omega⟩ (Nat.le_of_ble_eq_true rfl) dX4_within_12 (fun r3 M2 hw => ?_)
  refine x_lstore_n C dX4_within_15 rfl (Nat.le_of_ble_eq_true rfl) ?_
  refine x_aload_n C dX4_within_16 rfl rfl ?_
  refine x_bipush (v := (41 : Int32)) C dX4_within_17 (by decide) ?_
  refine n_callVI ho rfl C (ok_X4_takes ho hw) mv_X4_70 rfl rfl ⟨by show 2 + 1 ≤ frV + 3; omega, by show 8 + (2 + 11) + (20) ≤ loV + 41; omega⟩ (Nat.le_of_ble_eq_true rfl) dX4_within_19 (fun r5 M4 hw => ?_)
  refine x_if_ne (tgt := 31) C dX4_within_22 (by decide) (fun h6 => ?_) (fun h6 => ?_)
  · replace hw := hw.1 h6
    refine x_lload_n C dX4_within_31 rfl rfl ?_
    exact n_lreturn C r dX4_within_32 hw
  · replace hw := hw.2 h6
    refine x_aload_n C dX4_within_25 rfl rfl ?_
    refine x_iconst (v := (1 : Int32)) C dX4_within_26 (by decide) ?_
    refine n_callVJ ho rfl C (ok_X4_fail ho hw) mv_X4_64 rfl rfl ⟨by show 1 + 1 ≤ frV + 3; omega, by show 8 + (2 + 11) + (0) ≤ loV + 41; omega⟩ (Nat.le_of_ble_eq_true rfl) dX4_within_27 (fun r8 M7 hw => ?_)
    refine x_pop2_2 C dX4_within_30 rfl ?_
    refine x_lload_n C dX4_within_31 rfl rfl ?_
    exact n_lreturn C r dX4_within_32 hw

def w_X4_bare_b70 (V : Nat → Int32 → Mem → (Int64 → Mem → Prop) → Prop) (o : Nat) (v1 : Int32) (v2 : Int32) (M : Mem) (q : Int64 → Mem → Prop) : Prop := ((v2 = (40 : Int32) → (((8 : Int32) ≤ v1 → w_X4_fail o (3 : Int32) M (fun (r4 : Int64) (M3 : Mem) => q r4 M3)) ∧ (¬ (8 : Int32) ≤ v1 → w_X4_within V o (v1 + (1 : Int32)) M (fun (r6 : Int64) (M5 : Mem) => q r6 M5)))) ∧ (¬ v2 = (40 : Int32) → w_X4_fail o (1 : Int32) M (fun (r8 : Int64) (M7 : Mem) => q r8 M7)))
set_option maxRecDepth 100000 in
set_option maxHeartbeats 4000000 in
theorem ok_X4_bare_b70 {c : CtxT} {g : Gl} {l : Launch} {V : Nat → Int32 → Mem → (Int64 → Mem → Prop) → Prop} {frV loV : Nat} {o : Nat} {v1 : Int32} {v2 : Int32} {q : Int64 → Mem → Prop} {M : Mem} (C : Cx c cX4_bare 4 RX4 g l (Rm (frV + 5) (loV + 131))) (r : Rt c (some .long) (pJ q) 0 0) (hV : ∀ {o : Nat} {v1 : Int32} {M : Mem} {q : Int64 → Mem → Prop}, sh o = .inl 4 → V o v1 M q → CtJ g l yX4_value cX4_value 7 (some .long) frV loV [.ref (g.2.2.2 + o), .int v1] M q) (ho : sh o = .inl 4) (hw : w_X4_bare_b70 V o v1 v2 M q ) : X c S0 70 [(0, .ref (g.2.2.2 + o)), (1, .int v1), (2, .int v2)] [] (stat M) := by
  unfold w_X4_bare_b70 at hw
  refine x_iload_n C dX4_bare_70 rfl rfl ?_
  refine x_bipush (v := (40 : Int32)) C dX4_bare_71 (by decide) ?_
  refine x_icmp_eq (tgt := 82) C dX4_bare_73 (by decide) (fun h1 => ?_) (fun h1 => ?_)
  · replace hw := hw.1 h1
    refine x_iload_n C dX4_bare_82 rfl rfl ?_
    refine x_bipush (v := (8 : Int32)) C dX4_bare_83 (by decide) ?_
    refine x_icmp_ge (tgt := 98) C dX4_bare_85 (by decide) (fun h2 => ?_) (fun h2 => ?_)
    · replace hw := hw.1 h2
      refine x_aload_n C dX4_bare_98 rfl rfl ?_
      refine x_iconst (v := (3 : Int32)) C dX4_bare_99 (by decide) ?_
      refine n_callVJ ho rfl C (ok_X4_fail ho hw) mv_X4_64 rfl rfl ⟨by show 1 + 1 ≤ frV + 5; omega, by show 8 + (2 + 11) + (0) ≤ loV + 131; omega⟩ (Nat.le_of_ble_eq_true rfl) dX4_bare_100 (fun r4 M3 hw => ?_)
      exact n_lreturn C r dX4_bare_103 hw
    · replace hw := hw.2 h2
      refine x_aload_n C dX4_bare_88 rfl rfl ?_
      refine x_iload_n C dX4_bare_89 rfl rfl ?_
      refine x_iconst (v := (1 : Int32)) C dX4_bare_90 (by decide) ?_
      refine x_iadd C dX4_bare_91 ?_
      refine n_callVJ ho rfl C (ok_X4_within hV ho hw) mv_X4_113 rfl rfl ⟨by show frV + 3 + 1 ≤ frV + 5; omega, by show 8 + (4 + 11) + (loV + 41) ≤ loV + 131; omega⟩ (Nat.le_of_ble_eq_true rfl) dX4_bare_92 (fun r6 M5 hw => ?_)
      refine x_goto (tgt := 103) C dX4_bare_95 (by decide) ?_
      exact n_lreturn C r dX4_bare_103 hw
  · replace hw := hw.2 h1
    refine x_aload_n C dX4_bare_76 rfl rfl ?_
    refine x_iconst (v := (1 : Int32)) C dX4_bare_77 (by decide) ?_
    refine n_callVJ ho rfl C (ok_X4_fail ho hw) mv_X4_64 rfl rfl ⟨by show 1 + 1 ≤ frV + 5; omega, by show 8 + (2 + 11) + (0) ≤ loV + 131; omega⟩ (Nat.le_of_ble_eq_true rfl) dX4_bare_78 (fun r8 M7 hw => ?_)
    exact n_lreturn C r dX4_bare_81 hw
def w_X4_bare_l19F (V : Nat → Int32 → Mem → (Int64 → Mem → Prop) → Prop) (o : Nat) (v1 : Int32) (v2 : Int32) (q : Int64 → Mem → Prop) (P19 : Int32 × Mem → Prop) (s : Int32 × Mem) : Prop := match s with
  | (v3, M) => (((6 : Int32) ≤ v3 → w_X4_bare_b70 V o v1 v2 M q) ∧ (¬ (6 : Int32) ≤ v3 → (((6 : Int32) ≤ v3 → w_X4_bare_b70 V o v1 v2 M q) ∧ (¬ (6 : Int32) ≤ v3 → vp_in v3 6 ∧ ((¬ (txb (v3).toNatClampNeg) = v2 → ∀ x13 : Int32, x13 = v3 + (1 : Int32) → P19 (x13, M)) ∧ ((txb (v3).toNatClampNeg) = v2 → ∀ M14 : Mem, M14 = uI M o 3 ((M.1 o 3) + (1 : Int32)) → vp_in v3 6 ∧ q (M14.2.1 (o + 2) (v3).toNatClampNeg) M14))))))
def w_X4_bare_l19 (V : Nat → Int32 → Mem → (Int64 → Mem → Prop) → Prop) (o : Nat) (v1 : Int32) (v2 : Int32) (q : Int64 → Mem → Prop) (s : Int32 × Mem) : Prop := lfp (w_X4_bare_l19F V o v1 v2 q ) s
set_option maxRecDepth 100000 in
set_option maxHeartbeats 4000000 in
theorem ok_X4_bare_l19 {c : CtxT} {g : Gl} {l : Launch} {V : Nat → Int32 → Mem → (Int64 → Mem → Prop) → Prop} {frV loV : Nat} {o : Nat} {v1 : Int32} {v2 : Int32} {q : Int64 → Mem → Prop} {s : Int32 × Mem} (C : Cx c cX4_bare 4 RX4 g l (Rm (frV + 5) (loV + 131))) (r : Rt c (some .long) (pJ q) 0 0) (hV : ∀ {o : Nat} {v1 : Int32} {M : Mem} {q : Int64 → Mem → Prop}, sh o = .inl 4 → V o v1 M q → CtJ g l yX4_value cX4_value 7 (some .long) frV loV [.ref (g.2.2.2 + o), .int v1] M q) (ho : sh o = .inl 4) (hw : w_X4_bare_l19 V o v1 v2 q s) : X c S0 19 [(0, .ref (g.2.2.2 + o)), (1, .int v1), (2, .int v2), (3, .int s.1)] [] (stat s.2) := hw (fun s => X c S0 19 [(0, .ref (g.2.2.2 + o)), (1, .int v1), (2, .int v2), (3, .int s.1)] [] (stat s.2)) (fun s hw => by
    obtain ⟨v3, M⟩ := s
    try dsimp only [w_X4_bare_l19F] at hw
    try dsimp only
    refine x_iload_n C dX4_bare_19 rfl rfl ?_
    refine x_aload_n C dX4_bare_20 rfl rfl ?_
    refine n_getS (dd := 2) C fl_X4_19 ho (fun _ _ => rfl) rfl dX4_bare_21 ?_
    refine m_alenL (v := (6 : Int32)) C (ss_4_4 ho) (by decide) (by rw [(sl_4_4 ho)]; decide) dX4_bare_24 ?_
    refine x_icmp_ge (tgt := 70) C dX4_bare_25 (by decide) (fun h9 => ?_) (fun h9 => ?_)
    · replace hw := hw.1 h9
      exact x_sub [0, 1, 2] rfl (ok_X4_bare_b70 C r hV ho hw)
    · replace hw := hw.2 h9
      refine x_iload_n C dX4_bare_28 rfl rfl ?_
      refine x_ldcS C dX4_bare_29 ?_
      refine n_callT rfl C (ok_J0_length_8abf5 (v1 := 0) (q := fun v z => 6 = v ∧ M = z) ⟨rfl, rfl⟩) mv_X4_104 rfl rfl ⟨by show 3 + 1 ≤ frV + 5; omega, by show 8 + (1 + 11) + (60) ≤ loV + 131; omega⟩ (Nat.le_of_ble_eq_true rfl) dX4_bare_31 (fun v z hv => ?_)
      obtain ⟨rfl, rfl⟩ := hv
      refine x_icmp_ge (tgt := 70) C dX4_bare_34 (by decide) (fun h10 => ?_) (fun h10 => ?_)
      · replace hw := hw.1 h10
        exact x_sub [0, 1, 2] rfl (ok_X4_bare_b70 C r hV ho hw)
      · replace hw := hw.2 h10
        refine x_ldcS C dX4_bare_37 ?_
        refine x_iload_n C dX4_bare_39 rfl rfl ?_
        obtain ⟨h11, hw⟩ := hw
        refine n_callT rfl C (ok_J0_charAt_5068e (q := fun v z => txb (v3).toNatClampNeg = v ∧ M = z) h11 ⟨rfl, rfl⟩) mv_X4_109 rfl rfl ⟨by show 4 + 1 ≤ frV + 5; omega, by show 8 + (2 + 11) + (110) ≤ loV + 131; omega⟩ (Nat.le_of_ble_eq_true rfl) dX4_bare_40 (fun v z hv => ?_)
        obtain ⟨rfl, rfl⟩ := hv
        refine x_iload_n C dX4_bare_43 rfl rfl ?_
        refine x_icmp_ne (tgt := 64) C dX4_bare_44 (by decide) (fun h12 => ?_) (fun h12 => ?_)
        · replace hw := hw.1 h12
          obtain ⟨x13, ex13⟩ : ∃ z : Int32, z = v3 + (1 : Int32) := ⟨_, rfl⟩
          replace hw := hw x13 ex13
          refine x_iinc (v := x13) C dX4_bare_64 rfl ex13.symm (Nat.le_of_ble_eq_true rfl) ?_
          refine x_goto (tgt := 19) C dX4_bare_67 (by decide) ?_
          exact x_sub [0, 1, 2, 3] rfl hw
        · replace hw := hw.2 h12
          refine x_aload_n C dX4_bare_47 rfl rfl ?_
          refine x_dup C dX4_bare_48 rfl ?_
          refine n_getI C fl_X4_54 ho (fun _ _ => rfl) dX4_bare_49 ?_
          refine x_iconst (v := (1 : Int32)) C dX4_bare_52 (by decide) ?_
          refine x_iadd C dX4_bare_53 ?_
          obtain ⟨M14, eM14⟩ : ∃ z : Mem, z = uI M o 3 ((M.1 o 3) + (1 : Int32)) := ⟨_, rfl⟩
          replace hw := hw M14 eM14
          refine m_putI C fp_X4_54 ho (fun _ _ => rfl) rfl rfl eM14 dX4_bare_54 ?_
          refine x_aload_n C dX4_bare_57 rfl rfl ?_
          refine n_getS (dd := 2) C fl_X4_19 ho (fun _ _ => rfl) rfl dX4_bare_58 ?_
          refine x_iload_n C dX4_bare_61 rfl rfl ?_
          obtain ⟨h15, hw⟩ := hw
          refine a_lald C (ss_4_4 ho) (sl_4_4 ho) h15 dX4_bare_62 ?_
          exact n_lreturn C r dX4_bare_63 hw)
def w_X4_bare (V : Nat → Int32 → Mem → (Int64 → Mem → Prop) → Prop) (o : Nat) (v1 : Int32) (M : Mem) (q : Int64 → Mem → Prop) : Prop := w_X4_ahead o M (fun (r17 : Int32) (M16 : Mem) => w_X4_isDigit r17 M16 (fun (r19 : Int32) (M18 : Mem) => ((r19 = 0 → w_X4_bare_l19 V o v1 r17 q ((0 : Int32), M18)) ∧ (¬ r19 = 0 → w_X4_number o M18 (fun (r22 : Int64) (M21 : Mem) => q r22 M21)))))
set_option maxRecDepth 100000 in
set_option maxHeartbeats 4000000 in
theorem ok_X4_bare {g : Gl} {l : Launch} {V : Nat → Int32 → Mem → (Int64 → Mem → Prop) → Prop} {frV loV : Nat} {o : Nat} {v1 : Int32} {M : Mem} {q : Int64 → Mem → Prop} (hV : ∀ {o : Nat} {v1 : Int32} {M : Mem} {q : Int64 → Mem → Prop}, sh o = .inl 4 → V o v1 M q → CtJ g l yX4_value cX4_value 7 (some .long) frV loV [.ref (g.2.2.2 + o), .int v1] M q) (ho : sh o = .inl 4) (hw : w_X4_bare V o v1 M q) : CtJ g l yX4_bare cX4_bare 4 (some .long) (frV + 5) (loV + 131) [.ref (g.2.2.2 + o), .int v1] M q := by
  refine n_introJ (by decide +kernel) (Nat.le_of_ble_eq_true rfl) (fun c C r => ?_)
  have C : Cx c cX4_bare 4 RX4 g l (Rm (frV + 5) (loV + 131)) := C
  refine x_sub [0, 1] (lv' := [(0, .ref (g.2.2.2 + o)), (1, .int v1)]) rfl ?_
  unfold w_X4_bare at hw
  refine x_aload_n C dX4_bare_0 rfl rfl ?_
  refine n_callVI ho rfl C (ok_X4_ahead ho hw) mv_X4_61 rfl rfl ⟨by show 1 + 1 ≤ frV + 5; omega, by show 8 + (1 + 11) + (0) ≤ loV + 131; omega⟩ (Nat.le_of_ble_eq_true rfl) dX4_bare_1 (fun r17 M16 hw => ?_)
  refine x_istore_n C dX4_bare_4 rfl (Nat.le_of_ble_eq_true rfl) ?_
  refine x_iload_n C dX4_bare_5 rfl rfl ?_
  refine n_callSI C (ok_X4_isDigit  hw) ms_X4_95 rfl rfl ⟨by show 1 + 1 ≤ frV + 5; omega, by show 8 + (1 + 11) + (0) ≤ loV + 131; omega⟩ (Nat.le_of_ble_eq_true rfl) dX4_bare_6 (fun r19 M18 hw => ?_)
  refine x_if_eq (tgt := 17) C dX4_bare_9 (by decide) (fun h20 => ?_) (fun h20 => ?_)
  · replace hw := hw.1 h20
    refine x_iconst (v := (0 : Int32)) C dX4_bare_17 (by decide) ?_
    refine x_istore_n C dX4_bare_18 rfl (Nat.le_of_ble_eq_true rfl) ?_
    exact x_sub [0, 1, 2, 3] rfl (ok_X4_bare_l19 C r hV ho hw)
  · replace hw := hw.2 h20
    refine x_aload_n C dX4_bare_12 rfl rfl ?_
    refine n_callVJ ho rfl C (ok_X4_number ho hw) mv_X4_98 rfl rfl ⟨by show 2 + 1 ≤ frV + 5; omega, by show 8 + (4 + 11) + (21) ≤ loV + 131; omega⟩ (Nat.le_of_ble_eq_true rfl) dX4_bare_13 (fun r22 M21 hw => ?_)
    exact n_lreturn C r dX4_bare_16 hw

def w_X4_unit_b108 (V : Nat → Int32 → Mem → (Int64 → Mem → Prop) → Prop) (o : Nat) (v2 : Int64) (v4 : Int32) (v7 : Int32) (t0 : Int64) (M : Mem) (q : Int64 → Mem → Prop) (P69 : Int64 × Int32 × Mem → Prop) : Prop := ∀ x1 : Int32, x1 = v7 + (1 : Int32) → P69 (t0, x1, M)
set_option maxRecDepth 100000 in
set_option maxHeartbeats 4000000 in
theorem ok_X4_unit_b108 {c : CtxT} {g : Gl} {l : Launch} {V : Nat → Int32 → Mem → (Int64 → Mem → Prop) → Prop} {frV loV : Nat} {o : Nat} {v2 : Int64} {v4 : Int32} {v7 : Int32} {t0 : Int64} {q : Int64 → Mem → Prop} {P69 : Int64 × Int32 × Mem → Prop} {M : Mem} (C : Cx c cX4_unit 8 RX4 g l (Rm (frV + 6) (loV + 154))) (r : Rt c (some .long) (pJ q) 0 0) (hV : ∀ {o : Nat} {v1 : Int32} {M : Mem} {q : Int64 → Mem → Prop}, sh o = .inl 4 → V o v1 M q → CtJ g l yX4_value cX4_value 7 (some .long) frV loV [.ref (g.2.2.2 + o), .int v1] M q) (ho : sh o = .inl 4) (hP69 : ∀ (v5 : Int64) (v7 : Int32) (M : Mem), P69 (v5, v7, M) → X c S0 69 [(2, .long v2), (4, .int v4), (5, .long v5), (7, .int v7)] [] (stat M)) (hw : w_X4_unit_b108 V o v2 v4 v7 t0 M q P69) : X c S0 108 [(2, .long v2), (4, .int v4), (7, .int v7)] [.long t0] (stat M) := by
  unfold w_X4_unit_b108 at hw
  refine x_lstore C dX4_unit_108 (Nat.le_of_ble_eq_true rfl) ?_
  obtain ⟨x1, ex1⟩ : ∃ z : Int32, z = v7 + (1 : Int32) := ⟨_, rfl⟩
  replace hw := hw x1 ex1
  refine x_iinc (v := x1) C dX4_unit_110 rfl ex1.symm (Nat.le_of_ble_eq_true rfl) ?_
  refine x_goto (tgt := 69) C dX4_unit_113 (by decide) ?_
  exact x_sub [2, 4, 5, 7] rfl (hP69 _ _ _ hw)
def w_X4_unit_b99 (V : Nat → Int32 → Mem → (Int64 → Mem → Prop) → Prop) (o : Nat) (v2 : Int64) (v4 : Int32) (v7 : Int32) (t0 : Int32) (M : Mem) (q : Int64 → Mem → Prop) (P69 : Int64 × Int32 × Mem → Prop) : Prop := w_X4_truth t0 M (fun (r3 : Int64) (M2 : Mem) => w_X4_unit_b108 V o v2 v4 v7 r3 M2 q P69)
set_option maxRecDepth 100000 in
set_option maxHeartbeats 4000000 in
theorem ok_X4_unit_b99 {c : CtxT} {g : Gl} {l : Launch} {V : Nat → Int32 → Mem → (Int64 → Mem → Prop) → Prop} {frV loV : Nat} {o : Nat} {v2 : Int64} {v4 : Int32} {v7 : Int32} {t0 : Int32} {q : Int64 → Mem → Prop} {P69 : Int64 × Int32 × Mem → Prop} {M : Mem} (C : Cx c cX4_unit 8 RX4 g l (Rm (frV + 6) (loV + 154))) (r : Rt c (some .long) (pJ q) 0 0) (hV : ∀ {o : Nat} {v1 : Int32} {M : Mem} {q : Int64 → Mem → Prop}, sh o = .inl 4 → V o v1 M q → CtJ g l yX4_value cX4_value 7 (some .long) frV loV [.ref (g.2.2.2 + o), .int v1] M q) (ho : sh o = .inl 4) (hP69 : ∀ (v5 : Int64) (v7 : Int32) (M : Mem), P69 (v5, v7, M) → X c S0 69 [(2, .long v2), (4, .int v4), (5, .long v5), (7, .int v7)] [] (stat M)) (hw : w_X4_unit_b99 V o v2 v4 v7 t0 M q P69) : X c S0 99 [(2, .long v2), (4, .int v4), (7, .int v7)] [.int t0] (stat M) := by
  unfold w_X4_unit_b99 at hw
  refine n_callSJ C (ok_X4_truth  hw) ms_X4_74 rfl rfl ⟨by show 1 + 1 ≤ frV + 6; omega, by show 8 + (1 + 11) + (0) ≤ loV + 154; omega⟩ (Nat.le_of_ble_eq_true rfl) dX4_unit_99 (fun r3 M2 hw => ?_)
  refine x_goto (tgt := 108) C dX4_unit_102 (by decide) ?_
  exact x_sub [2, 4, 7] rfl (ok_X4_unit_b108 C r hV ho hP69 hw)
def w_X4_unit_l69F (V : Nat → Int32 → Mem → (Int64 → Mem → Prop) → Prop) (o : Nat) (v2 : Int64) (v4 : Int32) (q : Int64 → Mem → Prop) (P69 : Int64 × Int32 × Mem → Prop) (s : Int64 × Int32 × Mem) : Prop := match s with
  | (v5, v7, M) => ((v4 ≤ v7 → q v5 M) ∧ (¬ v4 ≤ v7 → ((¬ ((v2 >>> ((v7).toInt64 &&& 63)) &&& (1 : Int64)) = (1 : Int64) → w_X4_unit_b108 V o v2 v4 v7 (-v5) M q P69) ∧ (((v2 >>> ((v7).toInt64 &&& 63)) &&& (1 : Int64)) = (1 : Int64) → ((¬ v5 = (0 : Int64) → w_X4_unit_b99 V o v2 v4 v7 (0 : Int32) M q P69) ∧ (v5 = (0 : Int64) → w_X4_unit_b99 V o v2 v4 v7 (1 : Int32) M q P69))))))
def w_X4_unit_l69 (V : Nat → Int32 → Mem → (Int64 → Mem → Prop) → Prop) (o : Nat) (v2 : Int64) (v4 : Int32) (q : Int64 → Mem → Prop) (s : Int64 × Int32 × Mem) : Prop := lfp (w_X4_unit_l69F V o v2 v4 q ) s
set_option maxRecDepth 100000 in
set_option maxHeartbeats 4000000 in
theorem ok_X4_unit_l69 {c : CtxT} {g : Gl} {l : Launch} {V : Nat → Int32 → Mem → (Int64 → Mem → Prop) → Prop} {frV loV : Nat} {o : Nat} {v2 : Int64} {v4 : Int32} {q : Int64 → Mem → Prop} {s : Int64 × Int32 × Mem} (C : Cx c cX4_unit 8 RX4 g l (Rm (frV + 6) (loV + 154))) (r : Rt c (some .long) (pJ q) 0 0) (hV : ∀ {o : Nat} {v1 : Int32} {M : Mem} {q : Int64 → Mem → Prop}, sh o = .inl 4 → V o v1 M q → CtJ g l yX4_value cX4_value 7 (some .long) frV loV [.ref (g.2.2.2 + o), .int v1] M q) (ho : sh o = .inl 4) (hw : w_X4_unit_l69 V o v2 v4 q s) : X c S0 69 [(2, .long v2), (4, .int v4), (5, .long s.1), (7, .int s.2.1)] [] (stat s.2.2) := hw (fun s => X c S0 69 [(2, .long v2), (4, .int v4), (5, .long s.1), (7, .int s.2.1)] [] (stat s.2.2)) (fun s hw => by
    obtain ⟨v5, v7, M⟩ := s
    try dsimp only [w_X4_unit_l69F] at hw
    try dsimp only
    refine x_iload C dX4_unit_69 rfl ?_
    refine x_iload C dX4_unit_71 rfl ?_
    refine x_icmp_ge (tgt := 116) C dX4_unit_73 (by decide) (fun h4 => ?_) (fun h4 => ?_)
    · replace hw := hw.1 h4
      refine x_lload C dX4_unit_116 rfl ?_
      exact n_lreturn C r dX4_unit_118 hw
    · replace hw := hw.2 h4
      refine x_lload_n C dX4_unit_76 rfl rfl ?_
      refine x_iload C dX4_unit_77 rfl ?_
      refine x_lshr C dX4_unit_79 ?_
      refine x_lconst (v := (1 : Int64)) C dX4_unit_80 (by decide) ?_
      refine x_land C dX4_unit_81 ?_
      refine x_lconst (v := (1 : Int64)) C dX4_unit_82 (by decide) ?_
      refine x_lc_ne (tgt := 105) C dX4_unit_83 dX4_unit_84 (by decide) (fun h5 => ?_) (fun h5 => ?_)
      · replace hw := hw.1 h5
        refine x_lload C dX4_unit_105 rfl ?_
        refine x_lneg C dX4_unit_107 ?_
        exact x_sub [2, 4, 7] rfl (ok_X4_unit_b108 C r hV ho (fun _ _ _ h => h) hw)
      · replace hw := hw.2 h5
        refine x_lload C dX4_unit_87 rfl ?_
        refine x_lconst (v := (0 : Int64)) C dX4_unit_89 (by decide) ?_
        refine x_lc_ne (tgt := 98) C dX4_unit_90 dX4_unit_91 (by decide) (fun h6 => ?_) (fun h6 => ?_)
        · replace hw := hw.1 h6
          refine x_iconst (v := (0 : Int32)) C dX4_unit_98 (by decide) ?_
          exact x_sub [2, 4, 7] rfl (ok_X4_unit_b99 C r hV ho (fun _ _ _ h => h) hw)
        · replace hw := hw.2 h6
          refine x_iconst (v := (1 : Int32)) C dX4_unit_94 (by decide) ?_
          refine x_goto (tgt := 99) C dX4_unit_95 (by decide) ?_
          exact x_sub [2, 4, 7] rfl (ok_X4_unit_b99 C r hV ho (fun _ _ _ h => h) hw))
def w_X4_unit_b59 (V : Nat → Int32 → Mem → (Int64 → Mem → Prop) → Prop) (o : Nat) (v1 : Int32) (v2 : Int64) (v4 : Int32) (M : Mem) (q : Int64 → Mem → Prop) : Prop := w_X4_bare V o v1 M (fun (r8 : Int64) (M7 : Mem) => w_X4_unit_l69 V o v2 v4 q (r8, (0 : Int32), M7))
set_option maxRecDepth 100000 in
set_option maxHeartbeats 4000000 in
theorem ok_X4_unit_b59 {c : CtxT} {g : Gl} {l : Launch} {V : Nat → Int32 → Mem → (Int64 → Mem → Prop) → Prop} {frV loV : Nat} {o : Nat} {v1 : Int32} {v2 : Int64} {v4 : Int32} {q : Int64 → Mem → Prop} {M : Mem} (C : Cx c cX4_unit 8 RX4 g l (Rm (frV + 6) (loV + 154))) (r : Rt c (some .long) (pJ q) 0 0) (hV : ∀ {o : Nat} {v1 : Int32} {M : Mem} {q : Int64 → Mem → Prop}, sh o = .inl 4 → V o v1 M q → CtJ g l yX4_value cX4_value 7 (some .long) frV loV [.ref (g.2.2.2 + o), .int v1] M q) (ho : sh o = .inl 4) (hw : w_X4_unit_b59 V o v1 v2 v4 M q ) : X c S0 59 [(0, .ref (g.2.2.2 + o)), (1, .int v1), (2, .long v2), (4, .int v4)] [] (stat M) := by
  unfold w_X4_unit_b59 at hw
  refine x_aload_n C dX4_unit_59 rfl rfl ?_
  refine x_iload_n C dX4_unit_60 rfl rfl ?_
  refine n_callVJ ho rfl C (ok_X4_bare hV ho hw) mv_X4_92 rfl rfl ⟨by show frV + 5 + 1 ≤ frV + 6; omega, by show 8 + (4 + 11) + (loV + 131) ≤ loV + 154; omega⟩ (Nat.le_of_ble_eq_true rfl) dX4_unit_61 (fun r8 M7 hw => ?_)
  refine x_lstore C dX4_unit_64 (Nat.le_of_ble_eq_true rfl) ?_
  refine x_iconst (v := (0 : Int32)) C dX4_unit_66 (by decide) ?_
  refine x_istore C dX4_unit_67 (Nat.le_of_ble_eq_true rfl) ?_
  exact x_sub [2, 4, 5, 7] rfl (ok_X4_unit_l69 C r hV ho hw)
def w_X4_unit_b50 (V : Nat → Int32 → Mem → (Int64 → Mem → Prop) → Prop) (o : Nat) (v1 : Int32) (v2 : Int64) (v4 : Int32) (v5 : Int32) (M : Mem) (q : Int64 → Mem → Prop) (P8 : Int64 × Int32 × Int32 × Mem → Prop) : Prop := ∀ x9 : Int32, x9 = v4 + (1 : Int32) → ∀ x10 : Int32, x10 = v5 + (1 : Int32) → P8 (v2, x9, x10, M)
set_option maxRecDepth 100000 in
set_option maxHeartbeats 4000000 in
theorem ok_X4_unit_b50 {c : CtxT} {g : Gl} {l : Launch} {V : Nat → Int32 → Mem → (Int64 → Mem → Prop) → Prop} {frV loV : Nat} {o : Nat} {v1 : Int32} {v2 : Int64} {v4 : Int32} {v5 : Int32} {q : Int64 → Mem → Prop} {P8 : Int64 × Int32 × Int32 × Mem → Prop} {M : Mem} (C : Cx c cX4_unit 8 RX4 g l (Rm (frV + 6) (loV + 154))) (r : Rt c (some .long) (pJ q) 0 0) (hV : ∀ {o : Nat} {v1 : Int32} {M : Mem} {q : Int64 → Mem → Prop}, sh o = .inl 4 → V o v1 M q → CtJ g l yX4_value cX4_value 7 (some .long) frV loV [.ref (g.2.2.2 + o), .int v1] M q) (ho : sh o = .inl 4) (hP8 : ∀ (v2 : Int64) (v4 : Int32) (v5 : Int32) (M : Mem), P8 (v2, v4, v5, M) → X c S0 8 [(0, .ref (g.2.2.2 + o)), (1, .int v1), (2, .long v2), (4, .int v4), (5, .int v5)] [] (stat M)) (hw : w_X4_unit_b50 V o v1 v2 v4 v5 M q P8) : X c S0 50 [(0, .ref (g.2.2.2 + o)), (1, .int v1), (2, .long v2), (4, .int v4), (5, .int v5)] [] (stat M) := by
  unfold w_X4_unit_b50 at hw
  obtain ⟨x9, ex9⟩ : ∃ z : Int32, z = v4 + (1 : Int32) := ⟨_, rfl⟩
  replace hw := hw x9 ex9
  refine x_iinc (v := x9) C dX4_unit_50 rfl ex9.symm (Nat.le_of_ble_eq_true rfl) ?_
  obtain ⟨x10, ex10⟩ : ∃ z : Int32, z = v5 + (1 : Int32) := ⟨_, rfl⟩
  replace hw := hw x10 ex10
  refine x_iinc (v := x10) C dX4_unit_53 rfl ex10.symm (Nat.le_of_ble_eq_true rfl) ?_
  refine x_goto (tgt := 8) C dX4_unit_56 (by decide) ?_
  exact x_sub [0, 1, 2, 4, 5] rfl (hP8 _ _ _ _ hw)
def w_X4_unit_l8F (V : Nat → Int32 → Mem → (Int64 → Mem → Prop) → Prop) (o : Nat) (v1 : Int32) (q : Int64 → Mem → Prop) (P8 : Int64 × Int32 × Int32 × Mem → Prop) (s : Int64 × Int32 × Int32 × Mem) : Prop := match s with
  | (v2, v4, v5, M) => (((40 : Int32) ≤ v5 → w_X4_unit_b59 V o v1 v2 v4 M q) ∧ (¬ (40 : Int32) ≤ v5 → w_X4_takes o (33 : Int32) M (fun (r13 : Int32) (M12 : Mem) => ((r13 = 0 → w_X4_takes o (45 : Int32) M12 (fun (r16 : Int32) (M15 : Mem) => ((r16 = 0 → w_X4_unit_b59 V o v1 v2 v4 M15 q) ∧ (¬ r16 = 0 → ∀ x18 : Int64, x18 = (v2 * (2 : Int64)) → w_X4_unit_b50 V o v1 x18 v4 v5 M15 q P8)))) ∧ (¬ r13 = 0 → ∀ x19 : Int64, x19 = ((v2 * (2 : Int64)) + (1 : Int64)) → w_X4_unit_b50 V o v1 x19 v4 v5 M12 q P8)))))
def w_X4_unit_l8 (V : Nat → Int32 → Mem → (Int64 → Mem → Prop) → Prop) (o : Nat) (v1 : Int32) (q : Int64 → Mem → Prop) (s : Int64 × Int32 × Int32 × Mem) : Prop := lfp (w_X4_unit_l8F V o v1 q ) s
set_option maxRecDepth 100000 in
set_option maxHeartbeats 4000000 in
theorem ok_X4_unit_l8 {c : CtxT} {g : Gl} {l : Launch} {V : Nat → Int32 → Mem → (Int64 → Mem → Prop) → Prop} {frV loV : Nat} {o : Nat} {v1 : Int32} {q : Int64 → Mem → Prop} {s : Int64 × Int32 × Int32 × Mem} (C : Cx c cX4_unit 8 RX4 g l (Rm (frV + 6) (loV + 154))) (r : Rt c (some .long) (pJ q) 0 0) (hV : ∀ {o : Nat} {v1 : Int32} {M : Mem} {q : Int64 → Mem → Prop}, sh o = .inl 4 → V o v1 M q → CtJ g l yX4_value cX4_value 7 (some .long) frV loV [.ref (g.2.2.2 + o), .int v1] M q) (ho : sh o = .inl 4) (hw : w_X4_unit_l8 V o v1 q s) : X c S0 8 [(0, .ref (g.2.2.2 + o)), (1, .int v1), (2, .long s.1), (4, .int s.2.1), (5, .int s.2.2.1)] [] (stat s.2.2.2) := hw (fun s => X c S0 8 [(0, .ref (g.2.2.2 + o)), (1, .int v1), (2, .long s.1), (4, .int s.2.1), (5, .int s.2.2.1)] [] (stat s.2.2.2)) (fun s hw => by
    obtain ⟨v2, v4, v5, M⟩ := s
    try dsimp only [w_X4_unit_l8F] at hw
    try dsimp only
    refine x_iload C dX4_unit_8 rfl ?_
    refine x_bipush (v := (40 : Int32)) C dX4_unit_10 (by decide) ?_
    refine x_icmp_ge (tgt := 59) C dX4_unit_12 (by decide) (fun h11 => ?_) (fun h11 => ?_)
    · replace hw := hw.1 h11
      exact x_sub [0, 1, 2, 4] rfl (ok_X4_unit_b59 C r hV ho hw)
    · replace hw := hw.2 h11
      refine x_aload_n C dX4_unit_15 rfl rfl ?_
      refine x_bipush (v := (33 : Int32)) C dX4_unit_16 (by decide) ?_
      refine n_callVI ho rfl C (ok_X4_takes ho hw) mv_X4_70 rfl rfl ⟨by show 2 + 1 ≤ frV + 6; omega, by show 8 + (2 + 11) + (20) ≤ loV + 154; omega⟩ (Nat.le_of_ble_eq_true rfl) dX4_unit_18 (fun r13 M12 hw => ?_)
      refine x_if_eq (tgt := 35) C dX4_unit_21 (by decide) (fun h14 => ?_) (fun h14 => ?_)
      · replace hw := hw.1 h14
        refine x_aload_n C dX4_unit_35 rfl rfl ?_
        refine x_bipush (v := (45 : Int32)) C dX4_unit_36 (by decide) ?_
        refine n_callVI ho rfl C (ok_X4_takes ho hw) mv_X4_70 rfl rfl ⟨by show 2 + 1 ≤ frV + 6; omega, by show 8 + (2 + 11) + (20) ≤ loV + 154; omega⟩ (Nat.le_of_ble_eq_true rfl) dX4_unit_38 (fun r16 M15 hw => ?_)
        refine x_if_eq (tgt := 59) C dX4_unit_41 (by decide) (fun h17 => ?_) (fun h17 => ?_)
        · replace hw := hw.1 h17
          exact x_sub [0, 1, 2, 4] rfl (ok_X4_unit_b59 C r hV ho hw)
        · replace hw := hw.2 h17
          refine x_lload_n C dX4_unit_44 rfl rfl ?_
          refine x_ldc2_w (v := (2 : Int64)) C dX4_unit_45 kc_X4_90 ?_
          refine x_lmul C dX4_unit_48 ?_
          obtain ⟨x18, ex18⟩ : ∃ z : Int64, z = (v2 * (2 : Int64)) := ⟨_, rfl⟩
          replace hw := hw x18 ex18
          refine x_topj ex18 ?_
          refine x_lstore_n C dX4_unit_49 rfl (Nat.le_of_ble_eq_true rfl) ?_
          exact x_sub [0, 1, 2, 4, 5] rfl (ok_X4_unit_b50 C r hV ho (fun _ _ _ _ h => h) hw)
      · replace hw := hw.2 h14
        refine x_lload_n C dX4_unit_24 rfl rfl ?_
        refine x_ldc2_w (v := (2 : Int64)) C dX4_unit_25 kc_X4_90 ?_
        refine x_lmul C dX4_unit_28 ?_
        refine x_lconst (v := (1 : Int64)) C dX4_unit_29 (by decide) ?_
        refine x_ladd C dX4_unit_30 ?_
        obtain ⟨x19, ex19⟩ : ∃ z : Int64, z = ((v2 * (2 : Int64)) + (1 : Int64)) := ⟨_, rfl⟩
        replace hw := hw x19 ex19
        refine x_topj ex19 ?_
        refine x_lstore_n C dX4_unit_31 rfl (Nat.le_of_ble_eq_true rfl) ?_
        refine x_goto (tgt := 50) C dX4_unit_32 (by decide) ?_
        exact x_sub [0, 1, 2, 4, 5] rfl (ok_X4_unit_b50 C r hV ho (fun _ _ _ _ h => h) hw))
def w_X4_unit (V : Nat → Int32 → Mem → (Int64 → Mem → Prop) → Prop) (o : Nat) (v1 : Int32) (M : Mem) (q : Int64 → Mem → Prop) : Prop := w_X4_unit_l8 V o v1 q ((0 : Int64), (0 : Int32), (0 : Int32), M)
set_option maxRecDepth 100000 in
set_option maxHeartbeats 4000000 in
theorem ok_X4_unit {g : Gl} {l : Launch} {V : Nat → Int32 → Mem → (Int64 → Mem → Prop) → Prop} {frV loV : Nat} {o : Nat} {v1 : Int32} {M : Mem} {q : Int64 → Mem → Prop} (hV : ∀ {o : Nat} {v1 : Int32} {M : Mem} {q : Int64 → Mem → Prop}, sh o = .inl 4 → V o v1 M q → CtJ g l yX4_value cX4_value 7 (some .long) frV loV [.ref (g.2.2.2 + o), .int v1] M q) (ho : sh o = .inl 4) (hw : w_X4_unit V o v1 M q) : CtJ g l yX4_unit cX4_unit 8 (some .long) (frV + 6) (loV + 154) [.ref (g.2.2.2 + o), .int v1] M q := by
  refine n_introJ (by decide +kernel) (Nat.le_of_ble_eq_true rfl) (fun c C r => ?_)
  have C : Cx c cX4_unit 8 RX4 g l (Rm (frV + 6) (loV + 154)) := C
  refine x_sub [0, 1] (lv' := [(0, .ref (g.2.2.2 + o)), (1, .int v1)]) rfl ?_
  unfold w_X4_unit at hw
  refine x_lconst (v := (0 : Int64)) C dX4_unit_0 (by decide) ?_
  refine x_lstore_n C dX4_unit_1 rfl (Nat.le_of_ble_eq_true rfl) ?_
  refine x_iconst (v := (0 : Int32)) C dX4_unit_2 (by decide) ?_
  refine x_istore C dX4_unit_3 (Nat.le_of_ble_eq_true rfl) ?_
  refine x_iconst (v := (0 : Int32)) C dX4_unit_5 (by decide) ?_
  refine x_istore C dX4_unit_6 (Nat.le_of_ble_eq_true rfl) ?_
  exact x_sub [0, 1, 2, 4, 5] rfl (ok_X4_unit_l8 C r hV ho hw)

def w_X4_term_b68 (V : Nat → Int32 → Mem → (Int64 → Mem → Prop) → Prop) (o : Nat) (v1 : Int32) (v2 : Int64) (v4 : Int32) (M : Mem) (q : Int64 → Mem → Prop) (P9 : Int64 × Int32 × Mem → Prop) : Prop := ∀ x1 : Int32, x1 = v4 + (1 : Int32) → P9 (v2, x1, M)
set_option maxRecDepth 100000 in
set_option maxHeartbeats 4000000 in
theorem ok_X4_term_b68 {c : CtxT} {g : Gl} {l : Launch} {V : Nat → Int32 → Mem → (Int64 → Mem → Prop) → Prop} {frV loV : Nat} {o : Nat} {v1 : Int32} {v2 : Int64} {v4 : Int32} {q : Int64 → Mem → Prop} {P9 : Int64 × Int32 × Mem → Prop} {M : Mem} (C : Cx c cX4_term 7 RX4 g l (Rm (frV + 7) (loV + 181))) (r : Rt c (some .long) (pJ q) 0 0) (hV : ∀ {o : Nat} {v1 : Int32} {M : Mem} {q : Int64 → Mem → Prop}, sh o = .inl 4 → V o v1 M q → CtJ g l yX4_value cX4_value 7 (some .long) frV loV [.ref (g.2.2.2 + o), .int v1] M q) (ho : sh o = .inl 4) (hP9 : ∀ (v2 : Int64) (v4 : Int32) (M : Mem), P9 (v2, v4, M) → X c S0 9 [(0, .ref (g.2.2.2 + o)), (1, .int v1), (2, .long v2), (4, .int v4)] [] (stat M)) (hw : w_X4_term_b68 V o v1 v2 v4 M q P9) : X c S0 68 [(0, .ref (g.2.2.2 + o)), (1, .int v1), (2, .long v2), (4, .int v4)] [] (stat M) := by
  unfold w_X4_term_b68 at hw
  obtain ⟨x1, ex1⟩ : ∃ z : Int32, z = v4 + (1 : Int32) := ⟨_, rfl⟩
  replace hw := hw x1 ex1
  refine x_iinc (v := x1) C dX4_term_68 rfl ex1.symm (Nat.le_of_ble_eq_true rfl) ?_
  refine x_goto (tgt := 9) C dX4_term_71 (by decide) ?_
  exact x_sub [0, 1, 2, 4] rfl (hP9 _ _ _ hw)
def w_X4_term_b67 (V : Nat → Int32 → Mem → (Int64 → Mem → Prop) → Prop) (o : Nat) (v1 : Int32) (v4 : Int32) (t0 : Int64) (M : Mem) (q : Int64 → Mem → Prop) (P9 : Int64 × Int32 × Mem → Prop) : Prop := w_X4_term_b68 V o v1 t0 v4 M q P9
set_option maxRecDepth 100000 in
set_option maxHeartbeats 4000000 in
theorem ok_X4_term_b67 {c : CtxT} {g : Gl} {l : Launch} {V : Nat → Int32 → Mem → (Int64 → Mem → Prop) → Prop} {frV loV : Nat} {o : Nat} {v1 : Int32} {v4 : Int32} {t0 : Int64} {q : Int64 → Mem → Prop} {P9 : Int64 × Int32 × Mem → Prop} {M : Mem} (C : Cx c cX4_term 7 RX4 g l (Rm (frV + 7) (loV + 181))) (r : Rt c (some .long) (pJ q) 0 0) (hV : ∀ {o : Nat} {v1 : Int32} {M : Mem} {q : Int64 → Mem → Prop}, sh o = .inl 4 → V o v1 M q → CtJ g l yX4_value cX4_value 7 (some .long) frV loV [.ref (g.2.2.2 + o), .int v1] M q) (ho : sh o = .inl 4) (hP9 : ∀ (v2 : Int64) (v4 : Int32) (M : Mem), P9 (v2, v4, M) → X c S0 9 [(0, .ref (g.2.2.2 + o)), (1, .int v1), (2, .long v2), (4, .int v4)] [] (stat M)) (hw : w_X4_term_b67 V o v1 v4 t0 M q P9) : X c S0 67 [(0, .ref (g.2.2.2 + o)), (1, .int v1), (4, .int v4)] [.long t0] (stat M) := by
  unfold w_X4_term_b67 at hw
  refine x_lstore_n C dX4_term_67 rfl (Nat.le_of_ble_eq_true rfl) ?_
  exact x_sub [0, 1, 2, 4] rfl (ok_X4_term_b68 C r hV ho hP9 hw)
def w_X4_term_l9F (V : Nat → Int32 → Mem → (Int64 → Mem → Prop) → Prop) (o : Nat) (v1 : Int32) (q : Int64 → Mem → Prop) (P9 : Int64 × Int32 × Mem → Prop) (s : Int64 × Int32 × Mem) : Prop := match s with
  | (v2, v4, M) => (((40 : Int32) ≤ v4 → q v2 M) ∧ (¬ (40 : Int32) ≤ v4 → w_X4_takes o (42 : Int32) M (fun (r4 : Int32) (M3 : Mem) => ((r4 = 0 → w_X4_takes o (47 : Int32) M3 (fun (r7 : Int32) (M6 : Mem) => ((r7 = 0 → q v2 M6) ∧ (¬ r7 = 0 → w_X4_unit V o v1 M6 (fun (r10 : Int64) (M9 : Mem) => ((¬ r10 = (0 : Int64) → ¬ r10 = 0 ∧ w_X4_term_b67 V o v1 v4 (v2 / r10) M9 q P9) ∧ (r10 = (0 : Int64) → w_X4_term_b67 V o v1 v4 (0 : Int64) M9 q P9))))))) ∧ (¬ r4 = 0 → w_X4_unit V o v1 M3 (fun (r14 : Int64) (M13 : Mem) => ∀ x15 : Int64, x15 = (v2 * r14) → w_X4_term_b68 V o v1 x15 v4 M13 q P9))))))
def w_X4_term_l9 (V : Nat → Int32 → Mem → (Int64 → Mem → Prop) → Prop) (o : Nat) (v1 : Int32) (q : Int64 → Mem → Prop) (s : Int64 × Int32 × Mem) : Prop := lfp (w_X4_term_l9F V o v1 q ) s
set_option maxRecDepth 100000 in
set_option maxHeartbeats 4000000 in
theorem ok_X4_term_l9 {c : CtxT} {g : Gl} {l : Launch} {V : Nat → Int32 → Mem → (Int64 → Mem → Prop) → Prop} {frV loV : Nat} {o : Nat} {v1 : Int32} {q : Int64 → Mem → Prop} {s : Int64 × Int32 × Mem} (C : Cx c cX4_term 7 RX4 g l (Rm (frV + 7) (loV + 181))) (r : Rt c (some .long) (pJ q) 0 0) (hV : ∀ {o : Nat} {v1 : Int32} {M : Mem} {q : Int64 → Mem → Prop}, sh o = .inl 4 → V o v1 M q → CtJ g l yX4_value cX4_value 7 (some .long) frV loV [.ref (g.2.2.2 + o), .int v1] M q) (ho : sh o = .inl 4) (hw : w_X4_term_l9 V o v1 q s) : X c S0 9 [(0, .ref (g.2.2.2 + o)), (1, .int v1), (2, .long s.1), (4, .int s.2.1)] [] (stat s.2.2) := hw (fun s => X c S0 9 [(0, .ref (g.2.2.2 + o)), (1, .int v1), (2, .long s.1), (4, .int s.2.1)] [] (stat s.2.2)) (fun s hw => by
    obtain ⟨v2, v4, M⟩ := s
    try dsimp only [w_X4_term_l9F] at hw
    try dsimp only
    refine x_iload C dX4_term_9 rfl ?_
    refine x_bipush (v := (40 : Int32)) C dX4_term_11 (by decide) ?_
    refine x_icmp_ge (tgt := 74) C dX4_term_13 (by decide) (fun h2 => ?_) (fun h2 => ?_)
    · replace hw := hw.1 h2
      refine x_lload_n C dX4_term_74 rfl rfl ?_
      exact n_lreturn C r dX4_term_75 hw
    · replace hw := hw.2 h2
      refine x_aload_n C dX4_term_16 rfl rfl ?_
      refine x_bipush (v := (42 : Int32)) C dX4_term_17 (by decide) ?_
      refine n_callVI ho rfl C (ok_X4_takes ho hw) mv_X4_70 rfl rfl ⟨by show 2 + 1 ≤ frV + 7; omega, by show 8 + (2 + 11) + (20) ≤ loV + 181; omega⟩ (Nat.le_of_ble_eq_true rfl) dX4_term_19 (fun r4 M3 hw => ?_)
      refine x_if_eq (tgt := 36) C dX4_term_22 (by decide) (fun h5 => ?_) (fun h5 => ?_)
      · replace hw := hw.1 h5
        refine x_aload_n C dX4_term_36 rfl rfl ?_
        refine x_bipush (v := (47 : Int32)) C dX4_term_37 (by decide) ?_
        refine n_callVI ho rfl C (ok_X4_takes ho hw) mv_X4_70 rfl rfl ⟨by show 2 + 1 ≤ frV + 7; omega, by show 8 + (2 + 11) + (20) ≤ loV + 181; omega⟩ (Nat.le_of_ble_eq_true rfl) dX4_term_39 (fun r7 M6 hw => ?_)
        refine x_if_eq (tgt := 74) C dX4_term_42 (by decide) (fun h8 => ?_) (fun h8 => ?_)
        · replace hw := hw.1 h8
          refine x_lload_n C dX4_term_74 rfl rfl ?_
          exact n_lreturn C r dX4_term_75 hw
        · replace hw := hw.2 h8
          refine x_aload_n C dX4_term_45 rfl rfl ?_
          refine x_iload_n C dX4_term_46 rfl rfl ?_
          refine n_callVJ ho rfl C (ok_X4_unit hV ho hw) mv_X4_87 rfl rfl ⟨by show frV + 6 + 1 ≤ frV + 7; omega, by show 8 + (8 + 11) + (loV + 154) ≤ loV + 181; omega⟩ (Nat.le_of_ble_eq_true rfl) dX4_term_47 (fun r10 M9 hw => ?_)
          refine x_lstore C dX4_term_50 (Nat.le_of_ble_eq_true rfl) ?_
          refine x_lload C dX4_term_52 rfl ?_
          refine x_lconst (v := (0 : Int64)) C dX4_term_54 (by decide) ?_
          refine x_lc_ne (tgt := 63) C dX4_term_55 dX4_term_56 (by decide) (fun h11 => ?_) (fun h11 => ?_)
          · replace hw := hw.1 h11
            refine x_lload_n C dX4_term_63 rfl rfl ?_
            refine x_lload C dX4_term_64 rfl ?_
            obtain ⟨h12, hw⟩ := hw
            refine x_ldiv C dX4_term_66 h12 ?_
            exact x_sub [0, 1, 4] rfl (ok_X4_term_b67 C r hV ho (fun _ _ _ h => h) hw)
          · replace hw := hw.2 h11
            refine x_lconst (v := (0 : Int64)) C dX4_term_59 (by decide) ?_
            refine x_goto (tgt := 67) C dX4_term_60 (by decide) ?_
            exact x_sub [0, 1, 4] rfl (ok_X4_term_b67 C r hV ho (fun _ _ _ h => h) hw)
      · replace hw := hw.2 h5
        refine x_lload_n C dX4_term_25 rfl rfl ?_
        refine x_aload_n C dX4_term_26 rfl rfl ?_
        refine x_iload_n C dX4_term_27 rfl rfl ?_
        refine n_callVJ ho rfl C (ok_X4_unit hV ho hw) mv_X4_87 rfl rfl ⟨by show frV + 6 + 1 ≤ frV + 7; omega, by show 8 + (8 + 11) + (loV + 154) ≤ loV + 181; omega⟩ (Nat.le_of_ble_eq_true rfl) dX4_term_28 (fun r14 M13 hw => ?_)
        refine x_lmul C dX4_term_31 ?_
        obtain ⟨x15, ex15⟩ : ∃ z : Int64, z = (v2 * r14) := ⟨_, rfl⟩
        replace hw := hw x15 ex15
        refine x_topj ex15 ?_
        refine x_lstore_n C dX4_term_32 rfl (Nat.le_of_ble_eq_true rfl) ?_
        refine x_goto (tgt := 68) C dX4_term_33 (by decide) ?_
        exact x_sub [0, 1, 2, 4] rfl (ok_X4_term_b68 C r hV ho (fun _ _ _ h => h) hw))
def w_X4_term (V : Nat → Int32 → Mem → (Int64 → Mem → Prop) → Prop) (o : Nat) (v1 : Int32) (M : Mem) (q : Int64 → Mem → Prop) : Prop := w_X4_unit V o v1 M (fun (r17 : Int64) (M16 : Mem) => w_X4_term_l9 V o v1 q (r17, (0 : Int32), M16))
set_option maxRecDepth 100000 in
set_option maxHeartbeats 4000000 in
theorem ok_X4_term {g : Gl} {l : Launch} {V : Nat → Int32 → Mem → (Int64 → Mem → Prop) → Prop} {frV loV : Nat} {o : Nat} {v1 : Int32} {M : Mem} {q : Int64 → Mem → Prop} (hV : ∀ {o : Nat} {v1 : Int32} {M : Mem} {q : Int64 → Mem → Prop}, sh o = .inl 4 → V o v1 M q → CtJ g l yX4_value cX4_value 7 (some .long) frV loV [.ref (g.2.2.2 + o), .int v1] M q) (ho : sh o = .inl 4) (hw : w_X4_term V o v1 M q) : CtJ g l yX4_term cX4_term 7 (some .long) (frV + 7) (loV + 181) [.ref (g.2.2.2 + o), .int v1] M q := by
  refine n_introJ (by decide +kernel) (Nat.le_of_ble_eq_true rfl) (fun c C r => ?_)
  have C : Cx c cX4_term 7 RX4 g l (Rm (frV + 7) (loV + 181)) := C
  refine x_sub [0, 1] (lv' := [(0, .ref (g.2.2.2 + o)), (1, .int v1)]) rfl ?_
  unfold w_X4_term at hw
  refine x_aload_n C dX4_term_0 rfl rfl ?_
  refine x_iload_n C dX4_term_1 rfl rfl ?_
  refine n_callVJ ho rfl C (ok_X4_unit hV ho hw) mv_X4_87 rfl rfl ⟨by show frV + 6 + 1 ≤ frV + 7; omega, by show 8 + (8 + 11) + (loV + 154) ≤ loV + 181; omega⟩ (Nat.le_of_ble_eq_true rfl) dX4_term_2 (fun r17 M16 hw => ?_)
  refine x_lstore_n C dX4_term_5 rfl (Nat.le_of_ble_eq_true rfl) ?_
  refine x_iconst (v := (0 : Int32)) C dX4_term_6 (by decide) ?_
  refine x_istore C dX4_term_7 (Nat.le_of_ble_eq_true rfl) ?_
  exact x_sub [0, 1, 2, 4] rfl (ok_X4_term_l9 C r hV ho hw)

def w_X4_sum_b53 (V : Nat → Int32 → Mem → (Int64 → Mem → Prop) → Prop) (o : Nat) (v1 : Int32) (v2 : Int64) (v4 : Int32) (M : Mem) (q : Int64 → Mem → Prop) (P9 : Int64 × Int32 × Mem → Prop) : Prop := ∀ x1 : Int32, x1 = v4 + (1 : Int32) → P9 (v2, x1, M)
set_option maxRecDepth 100000 in
set_option maxHeartbeats 4000000 in
theorem ok_X4_sum_b53 {c : CtxT} {g : Gl} {l : Launch} {V : Nat → Int32 → Mem → (Int64 → Mem → Prop) → Prop} {frV loV : Nat} {o : Nat} {v1 : Int32} {v2 : Int64} {v4 : Int32} {q : Int64 → Mem → Prop} {P9 : Int64 × Int32 × Mem → Prop} {M : Mem} (C : Cx c cX4_sum 5 RX4 g l (Rm (frV + 8) (loV + 207))) (r : Rt c (some .long) (pJ q) 0 0) (hV : ∀ {o : Nat} {v1 : Int32} {M : Mem} {q : Int64 → Mem → Prop}, sh o = .inl 4 → V o v1 M q → CtJ g l yX4_value cX4_value 7 (some .long) frV loV [.ref (g.2.2.2 + o), .int v1] M q) (ho : sh o = .inl 4) (hP9 : ∀ (v2 : Int64) (v4 : Int32) (M : Mem), P9 (v2, v4, M) → X c S0 9 [(0, .ref (g.2.2.2 + o)), (1, .int v1), (2, .long v2), (4, .int v4)] [] (stat M)) (hw : w_X4_sum_b53 V o v1 v2 v4 M q P9) : X c S0 53 [(0, .ref (g.2.2.2 + o)), (1, .int v1), (2, .long v2), (4, .int v4)] [] (stat M) := by
  unfold w_X4_sum_b53 at hw
  obtain ⟨x1, ex1⟩ : ∃ z : Int32, z = v4 + (1 : Int32) := ⟨_, rfl⟩
  replace hw := hw x1 ex1
  refine x_iinc (v := x1) C dX4_sum_53 rfl ex1.symm (Nat.le_of_ble_eq_true rfl) ?_
  refine x_goto (tgt := 9) C dX4_sum_56 (by decide) ?_
  exact x_sub [0, 1, 2, 4] rfl (hP9 _ _ _ hw)
def w_X4_sum_l9F (V : Nat → Int32 → Mem → (Int64 → Mem → Prop) → Prop) (o : Nat) (v1 : Int32) (q : Int64 → Mem → Prop) (P9 : Int64 × Int32 × Mem → Prop) (s : Int64 × Int32 × Mem) : Prop := match s with
  | (v2, v4, M) => (((40 : Int32) ≤ v4 → q v2 M) ∧ (¬ (40 : Int32) ≤ v4 → w_X4_takes o (43 : Int32) M (fun (r4 : Int32) (M3 : Mem) => ((r4 = 0 → w_X4_takes o (45 : Int32) M3 (fun (r7 : Int32) (M6 : Mem) => ((r7 = 0 → q v2 M6) ∧ (¬ r7 = 0 → w_X4_term V o v1 M6 (fun (r10 : Int64) (M9 : Mem) => ∀ x11 : Int64, x11 = (v2 - r10) → w_X4_sum_b53 V o v1 x11 v4 M9 q P9))))) ∧ (¬ r4 = 0 → w_X4_term V o v1 M3 (fun (r13 : Int64) (M12 : Mem) => ∀ x14 : Int64, x14 = (v2 + r13) → w_X4_sum_b53 V o v1 x14 v4 M12 q P9))))))
def w_X4_sum_l9 (V : Nat → Int32 → Mem → (Int64 → Mem → Prop) → Prop) (o : Nat) (v1 : Int32) (q : Int64 → Mem → Prop) (s : Int64 × Int32 × Mem) : Prop := lfp (w_X4_sum_l9F V o v1 q ) s
set_option maxRecDepth 100000 in
set_option maxHeartbeats 4000000 in
theorem ok_X4_sum_l9 {c : CtxT} {g : Gl} {l : Launch} {V : Nat → Int32 → Mem → (Int64 → Mem → Prop) → Prop} {frV loV : Nat} {o : Nat} {v1 : Int32} {q : Int64 → Mem → Prop} {s : Int64 × Int32 × Mem} (C : Cx c cX4_sum 5 RX4 g l (Rm (frV + 8) (loV + 207))) (r : Rt c (some .long) (pJ q) 0 0) (hV : ∀ {o : Nat} {v1 : Int32} {M : Mem} {q : Int64 → Mem → Prop}, sh o = .inl 4 → V o v1 M q → CtJ g l yX4_value cX4_value 7 (some .long) frV loV [.ref (g.2.2.2 + o), .int v1] M q) (ho : sh o = .inl 4) (hw : w_X4_sum_l9 V o v1 q s) : X c S0 9 [(0, .ref (g.2.2.2 + o)), (1, .int v1), (2, .long s.1), (4, .int s.2.1)] [] (stat s.2.2) := hw (fun s => X c S0 9 [(0, .ref (g.2.2.2 + o)), (1, .int v1), (2, .long s.1), (4, .int s.2.1)] [] (stat s.2.2)) (fun s hw => by
    obtain ⟨v2, v4, M⟩ := s
    try dsimp only [w_X4_sum_l9F] at hw
    try dsimp only
    refine x_iload C dX4_sum_9 rfl ?_
    refine x_bipush (v := (40 : Int32)) C dX4_sum_11 (by decide) ?_
    refine x_icmp_ge (tgt := 59) C dX4_sum_13 (by decide) (fun h2 => ?_) (fun h2 => ?_)
    · replace hw := hw.1 h2
      refine x_lload_n C dX4_sum_59 rfl rfl ?_
      exact n_lreturn C r dX4_sum_60 hw
    · replace hw := hw.2 h2
      refine x_aload_n C dX4_sum_16 rfl rfl ?_
      refine x_bipush (v := (43 : Int32)) C dX4_sum_17 (by decide) ?_
      refine n_callVI ho rfl C (ok_X4_takes ho hw) mv_X4_70 rfl rfl ⟨by show 2 + 1 ≤ frV + 8; omega, by show 8 + (2 + 11) + (20) ≤ loV + 207; omega⟩ (Nat.le_of_ble_eq_true rfl) dX4_sum_19 (fun r4 M3 hw => ?_)
      refine x_if_eq (tgt := 36) C dX4_sum_22 (by decide) (fun h5 => ?_) (fun h5 => ?_)
      · replace hw := hw.1 h5
        refine x_aload_n C dX4_sum_36 rfl rfl ?_
        refine x_bipush (v := (45 : Int32)) C dX4_sum_37 (by decide) ?_
        refine n_callVI ho rfl C (ok_X4_takes ho hw) mv_X4_70 rfl rfl ⟨by show 2 + 1 ≤ frV + 8; omega, by show 8 + (2 + 11) + (20) ≤ loV + 207; omega⟩ (Nat.le_of_ble_eq_true rfl) dX4_sum_39 (fun r7 M6 hw => ?_)
        refine x_if_eq (tgt := 59) C dX4_sum_42 (by decide) (fun h8 => ?_) (fun h8 => ?_)
        · replace hw := hw.1 h8
          refine x_lload_n C dX4_sum_59 rfl rfl ?_
          exact n_lreturn C r dX4_sum_60 hw
        · replace hw := hw.2 h8
          refine x_lload_n C dX4_sum_45 rfl rfl ?_
          refine x_aload_n C dX4_sum_46 rfl rfl ?_
          refine x_iload_n C dX4_sum_47 rfl rfl ?_
          refine n_callVJ ho rfl C (ok_X4_term hV ho hw) mv_X4_84 rfl rfl ⟨by show frV + 7 + 1 ≤ frV + 8; omega, by show 8 + (7 + 11) + (loV + 181) ≤ loV + 207; omega⟩ (Nat.le_of_ble_eq_true rfl) dX4_sum_48 (fun r10 M9 hw => ?_)
          refine x_lsub C dX4_sum_51 ?_
          obtain ⟨x11, ex11⟩ : ∃ z : Int64, z = (v2 - r10) := ⟨_, rfl⟩
          replace hw := hw x11 ex11
          refine x_topj ex11 ?_
          refine x_lstore_n C dX4_sum_52 rfl (Nat.le_of_ble_eq_true rfl) ?_
          exact x_sub [0, 1, 2, 4] rfl (ok_X4_sum_b53 C r hV ho (fun _ _ _ h => h) hw)
      · replace hw := hw.2 h5
        refine x_lload_n C dX4_sum_25 rfl rfl ?_
        refine x_aload_n C dX4_sum_26 rfl rfl ?_
        refine x_iload_n C dX4_sum_27 rfl rfl ?_
        refine n_callVJ ho rfl C (ok_X4_term hV ho hw) mv_X4_84 rfl rfl ⟨by show frV + 7 + 1 ≤ frV + 8; omega, by show 8 + (7 + 11) + (loV + 181) ≤ loV + 207; omega⟩ (Nat.le_of_ble_eq_true rfl) dX4_sum_28 (fun r13 M12 hw => ?_)
        refine x_ladd C dX4_sum_31 ?_
        obtain ⟨x14, ex14⟩ : ∃ z : Int64, z = (v2 + r13) := ⟨_, rfl⟩
        replace hw := hw x14 ex14
        refine x_topj ex14 ?_
        refine x_lstore_n C dX4_sum_32 rfl (Nat.le_of_ble_eq_true rfl) ?_
        refine x_goto (tgt := 53) C dX4_sum_33 (by decide) ?_
        exact x_sub [0, 1, 2, 4] rfl (ok_X4_sum_b53 C r hV ho (fun _ _ _ h => h) hw))
def w_X4_sum (V : Nat → Int32 → Mem → (Int64 → Mem → Prop) → Prop) (o : Nat) (v1 : Int32) (M : Mem) (q : Int64 → Mem → Prop) : Prop := w_X4_term V o v1 M (fun (r16 : Int64) (M15 : Mem) => w_X4_sum_l9 V o v1 q (r16, (0 : Int32), M15))
set_option maxRecDepth 100000 in
set_option maxHeartbeats 4000000 in
theorem ok_X4_sum {g : Gl} {l : Launch} {V : Nat → Int32 → Mem → (Int64 → Mem → Prop) → Prop} {frV loV : Nat} {o : Nat} {v1 : Int32} {M : Mem} {q : Int64 → Mem → Prop} (hV : ∀ {o : Nat} {v1 : Int32} {M : Mem} {q : Int64 → Mem → Prop}, sh o = .inl 4 → V o v1 M q → CtJ g l yX4_value cX4_value 7 (some .long) frV loV [.ref (g.2.2.2 + o), .int v1] M q) (ho : sh o = .inl 4) (hw : w_X4_sum V o v1 M q) : CtJ g l yX4_sum cX4_sum 5 (some .long) (frV + 8) (loV + 207) [.ref (g.2.2.2 + o), .int v1] M q := by
  refine n_introJ (by decide +kernel) (Nat.le_of_ble_eq_true rfl) (fun c C r => ?_)
  have C : Cx c cX4_sum 5 RX4 g l (Rm (frV + 8) (loV + 207)) := C
  refine x_sub [0, 1] (lv' := [(0, .ref (g.2.2.2 + o)), (1, .int v1)]) rfl ?_
  unfold w_X4_sum at hw
  refine x_aload_n C dX4_sum_0 rfl rfl ?_
  refine x_iload_n C dX4_sum_1 rfl rfl ?_
  refine n_callVJ ho rfl C (ok_X4_term hV ho hw) mv_X4_84 rfl rfl ⟨by show frV + 7 + 1 ≤ frV + 8; omega, by show 8 + (7 + 11) + (loV + 181) ≤ loV + 207; omega⟩ (Nat.le_of_ble_eq_true rfl) dX4_sum_2 (fun r16 M15 hw => ?_)
  refine x_lstore_n C dX4_sum_5 rfl (Nat.le_of_ble_eq_true rfl) ?_
  refine x_iconst (v := (0 : Int32)) C dX4_sum_6 (by decide) ?_
  refine x_istore C dX4_sum_7 (Nat.le_of_ble_eq_true rfl) ?_
  exact x_sub [0, 1, 2, 4] rfl (ok_X4_sum_l9 C r hV ho hw)

def w_X4_held_b86 (V : Nat → Int32 → Mem → (Int64 → Mem → Prop) → Prop) (o : Nat) (t0 : Int32) (M : Mem) (q : Int64 → Mem → Prop) : Prop := w_X4_truth t0 M (fun (r2 : Int64) (M1 : Mem) => q r2 M1)
set_option maxRecDepth 100000 in
set_option maxHeartbeats 4000000 in
theorem ok_X4_held_b86 {c : CtxT} {g : Gl} {l : Launch} {V : Nat → Int32 → Mem → (Int64 → Mem → Prop) → Prop} {frV loV : Nat} {o : Nat} {t0 : Int32} {q : Int64 → Mem → Prop} {M : Mem} (C : Cx c cX4_held 4 RX4 g l (Rm (frV + 9) (loV + 231))) (r : Rt c (some .long) (pJ q) 0 0) (hV : ∀ {o : Nat} {v1 : Int32} {M : Mem} {q : Int64 → Mem → Prop}, sh o = .inl 4 → V o v1 M q → CtJ g l yX4_value cX4_value 7 (some .long) frV loV [.ref (g.2.2.2 + o), .int v1] M q) (ho : sh o = .inl 4) (hw : w_X4_held_b86 V o t0 M q ) : X c S0 86 [] [.int t0] (stat M) := by
  unfold w_X4_held_b86 at hw
  refine n_callSJ C (ok_X4_truth  hw) ms_X4_74 rfl rfl ⟨by show 1 + 1 ≤ frV + 9; omega, by show 8 + (1 + 11) + (0) ≤ loV + 231; omega⟩ (Nat.le_of_ble_eq_true rfl) dX4_held_86 (fun r2 M1 hw => ?_)
  exact n_lreturn C r dX4_held_89 hw
def w_X4_held_b58 (V : Nat → Int32 → Mem → (Int64 → Mem → Prop) → Prop) (o : Nat) (t0 : Int32) (M : Mem) (q : Int64 → Mem → Prop) : Prop := w_X4_truth t0 M (fun (r4 : Int64) (M3 : Mem) => q r4 M3)
set_option maxRecDepth 100000 in
set_option maxHeartbeats 4000000 in
theorem ok_X4_held_b58 {c : CtxT} {g : Gl} {l : Launch} {V : Nat → Int32 → Mem → (Int64 → Mem → Prop) → Prop} {frV loV : Nat} {o : Nat} {t0 : Int32} {q : Int64 → Mem → Prop} {M : Mem} (C : Cx c cX4_held 4 RX4 g l (Rm (frV + 9) (loV + 231))) (r : Rt c (some .long) (pJ q) 0 0) (hV : ∀ {o : Nat} {v1 : Int32} {M : Mem} {q : Int64 → Mem → Prop}, sh o = .inl 4 → V o v1 M q → CtJ g l yX4_value cX4_value 7 (some .long) frV loV [.ref (g.2.2.2 + o), .int v1] M q) (ho : sh o = .inl 4) (hw : w_X4_held_b58 V o t0 M q ) : X c S0 58 [] [.int t0] (stat M) := by
  unfold w_X4_held_b58 at hw
  refine n_callSJ C (ok_X4_truth  hw) ms_X4_74 rfl rfl ⟨by show 1 + 1 ≤ frV + 9; omega, by show 8 + (1 + 11) + (0) ≤ loV + 231; omega⟩ (Nat.le_of_ble_eq_true rfl) dX4_held_58 (fun r4 M3 hw => ?_)
  exact n_lreturn C r dX4_held_61 hw
def w_X4_held_b30 (V : Nat → Int32 → Mem → (Int64 → Mem → Prop) → Prop) (o : Nat) (t0 : Int32) (M : Mem) (q : Int64 → Mem → Prop) : Prop := w_X4_truth t0 M (fun (r6 : Int64) (M5 : Mem) => q r6 M5)
set_option maxRecDepth 100000 in
set_option maxHeartbeats 4000000 in
theorem ok_X4_held_b30 {c : CtxT} {g : Gl} {l : Launch} {V : Nat → Int32 → Mem → (Int64 → Mem → Prop) → Prop} {frV loV : Nat} {o : Nat} {t0 : Int32} {q : Int64 → Mem → Prop} {M : Mem} (C : Cx c cX4_held 4 RX4 g l (Rm (frV + 9) (loV + 231))) (r : Rt c (some .long) (pJ q) 0 0) (hV : ∀ {o : Nat} {v1 : Int32} {M : Mem} {q : Int64 → Mem → Prop}, sh o = .inl 4 → V o v1 M q → CtJ g l yX4_value cX4_value 7 (some .long) frV loV [.ref (g.2.2.2 + o), .int v1] M q) (ho : sh o = .inl 4) (hw : w_X4_held_b30 V o t0 M q ) : X c S0 30 [] [.int t0] (stat M) := by
  unfold w_X4_held_b30 at hw
  refine n_callSJ C (ok_X4_truth  hw) ms_X4_74 rfl rfl ⟨by show 1 + 1 ≤ frV + 9; omega, by show 8 + (1 + 11) + (0) ≤ loV + 231; omega⟩ (Nat.le_of_ble_eq_true rfl) dX4_held_30 (fun r6 M5 hw => ?_)
  exact n_lreturn C r dX4_held_33 hw
def w_X4_held (V : Nat → Int32 → Mem → (Int64 → Mem → Prop) → Prop) (o : Nat) (v1 : Int32) (M : Mem) (q : Int64 → Mem → Prop) : Prop := w_X4_sum V o v1 M (fun (r8 : Int64) (M7 : Mem) => w_X4_takes o (60 : Int32) M7 (fun (r10 : Int32) (M9 : Mem) => ((r10 = 0 → w_X4_takes o (62 : Int32) M9 (fun (r13 : Int32) (M12 : Mem) => ((r13 = 0 → w_X4_takes o (61 : Int32) M12 (fun (r16 : Int32) (M15 : Mem) => ((r16 = 0 → q r8 M15) ∧ (¬ r16 = 0 → w_X4_sum V o v1 M15 (fun (r19 : Int64) (M18 : Mem) => ((¬ r8 = r19 → w_X4_held_b86 V o (0 : Int32) M18 q) ∧ (r8 = r19 → w_X4_held_b86 V o (1 : Int32) M18 q))))))) ∧ (¬ r13 = 0 → w_X4_sum V o v1 M12 (fun (r22 : Int64) (M21 : Mem) => ((r8 ≤ r22 → w_X4_held_b58 V o (0 : Int32) M21 q) ∧ (¬ r8 ≤ r22 → w_X4_held_b58 V o (1 : Int32) M21 q))))))) ∧ (¬ r10 = 0 → w_X4_sum V o v1 M9 (fun (r25 : Int64) (M24 : Mem) => ((r25 ≤ r8 → w_X4_held_b30 V o (0 : Int32) M24 q) ∧ (¬ r25 ≤ r8 → w_X4_held_b30 V o (1 : Int32) M24 q)))))))
set_option maxRecDepth 100000 in
set_option maxHeartbeats 4000000 in
theorem ok_X4_held {g : Gl} {l : Launch} {V : Nat → Int32 → Mem → (Int64 → Mem → Prop) → Prop} {frV loV : Nat} {o : Nat} {v1 : Int32} {M : Mem} {q : Int64 → Mem → Prop} (hV : ∀ {o : Nat} {v1 : Int32} {M : Mem} {q : Int64 → Mem → Prop}, sh o = .inl 4 → V o v1 M q → CtJ g l yX4_value cX4_value 7 (some .long) frV loV [.ref (g.2.2.2 + o), .int v1] M q) (ho : sh o = .inl 4) (hw : w_X4_held V o v1 M q) : CtJ g l yX4_held cX4_held 4 (some .long) (frV + 9) (loV + 231) [.ref (g.2.2.2 + o), .int v1] M q := by
  refine n_introJ (by decide +kernel) (Nat.le_of_ble_eq_true rfl) (fun c C r => ?_)
  have C : Cx c cX4_held 4 RX4 g l (Rm (frV + 9) (loV + 231)) := C
  refine x_sub [0, 1] (lv' := [(0, .ref (g.2.2.2 + o)), (1, .int v1)]) rfl ?_
  unfold w_X4_held at hw
  refine x_aload_n C dX4_held_0 rfl rfl ?_
  refine x_iload_n C dX4_held_1 rfl rfl ?_
  refine n_callVJ ho rfl C (ok_X4_sum hV ho hw) mv_X4_81 rfl rfl ⟨by show frV + 8 + 1 ≤ frV + 9; omega, by show 8 + (5 + 11) + (loV + 207) ≤ loV + 231; omega⟩ (Nat.le_of_ble_eq_true rfl) dX4_held_2 (fun r8 M7 hw => ?_)
  refine x_lstore_n C dX4_held_5 rfl (Nat.le_of_ble_eq_true rfl) ?_
  refine x_aload_n C dX4_held_6 rfl rfl ?_
  refine x_bipush (v := (60 : Int32)) C dX4_held_7 (by decide) ?_
  refine n_callVI ho rfl C (ok_X4_takes ho hw) mv_X4_70 rfl rfl ⟨by show 2 + 1 ≤ frV + 9; omega, by show 8 + (2 + 11) + (20) ≤ loV + 231; omega⟩ (Nat.le_of_ble_eq_true rfl) dX4_held_9 (fun r10 M9 hw => ?_)
  refine x_if_eq (tgt := 34) C dX4_held_12 (by decide) (fun h11 => ?_) (fun h11 => ?_)
  · replace hw := hw.1 h11
    refine x_aload_n C dX4_held_34 rfl rfl ?_
    refine x_bipush (v := (62 : Int32)) C dX4_held_35 (by decide) ?_
    refine n_callVI ho rfl C (ok_X4_takes ho hw) mv_X4_70 rfl rfl ⟨by show 2 + 1 ≤ frV + 9; omega, by show 8 + (2 + 11) + (20) ≤ loV + 231; omega⟩ (Nat.le_of_ble_eq_true rfl) dX4_held_37 (fun r13 M12 hw => ?_)
    refine x_if_eq (tgt := 62) C dX4_held_40 (by decide) (fun h14 => ?_) (fun h14 => ?_)
    · replace hw := hw.1 h14
      refine x_aload_n C dX4_held_62 rfl rfl ?_
      refine x_bipush (v := (61 : Int32)) C dX4_held_63 (by decide) ?_
      refine n_callVI ho rfl C (ok_X4_takes ho hw) mv_X4_70 rfl rfl ⟨by show 2 + 1 ≤ frV + 9; omega, by show 8 + (2 + 11) + (20) ≤ loV + 231; omega⟩ (Nat.le_of_ble_eq_true rfl) dX4_held_65 (fun r16 M15 hw => ?_)
      refine x_if_eq (tgt := 90) C dX4_held_68 (by decide) (fun h17 => ?_) (fun h17 => ?_)
      · replace hw := hw.1 h17
        refine x_lload_n C dX4_held_90 rfl rfl ?_
        exact n_lreturn C r dX4_held_91 hw
      · replace hw := hw.2 h17
        refine x_lload_n C dX4_held_71 rfl rfl ?_
        refine x_aload_n C dX4_held_72 rfl rfl ?_
        refine x_iload_n C dX4_held_73 rfl rfl ?_
        refine n_callVJ ho rfl C (ok_X4_sum hV ho hw) mv_X4_81 rfl rfl ⟨by show frV + 8 + 1 ≤ frV + 9; omega, by show 8 + (5 + 11) + (loV + 207) ≤ loV + 231; omega⟩ (Nat.le_of_ble_eq_true rfl) dX4_held_74 (fun r19 M18 hw => ?_)
        refine x_lc_ne (tgt := 85) C dX4_held_77 dX4_held_78 (by decide) (fun h20 => ?_) (fun h20 => ?_)
        · replace hw := hw.1 h20
          refine x_iconst (v := (0 : Int32)) C dX4_held_85 (by decide) ?_
          exact x_sub [] rfl (ok_X4_held_b86 C r hV ho hw)
        · replace hw := hw.2 h20
          refine x_iconst (v := (1 : Int32)) C dX4_held_81 (by decide) ?_
          refine x_goto (tgt := 86) C dX4_held_82 (by decide) ?_
          exact x_sub [] rfl (ok_X4_held_b86 C r hV ho hw)
    · replace hw := hw.2 h14
      refine x_lload_n C dX4_held_43 rfl rfl ?_
      refine x_aload_n C dX4_held_44 rfl rfl ?_
      refine x_iload_n C dX4_held_45 rfl rfl ?_
      refine n_callVJ ho rfl C (ok_X4_sum hV ho hw) mv_X4_81 rfl rfl ⟨by show frV + 8 + 1 ≤ frV + 9; omega, by show 8 + (5 + 11) + (loV + 207) ≤ loV + 231; omega⟩ (Nat.le_of_ble_eq_true rfl) dX4_held_46 (fun r22 M21 hw => ?_)
      refine x_lc_le (tgt := 57) C dX4_held_49 dX4_held_50 (by decide) (fun h23 => ?_) (fun h23 => ?_)
      · replace hw := hw.1 h23
        refine x_iconst (v := (0 : Int32)) C dX4_held_57 (by decide) ?_
        exact x_sub [] rfl (ok_X4_held_b58 C r hV ho hw)
      · replace hw := hw.2 h23
        refine x_iconst (v := (1 : Int32)) C dX4_held_53 (by decide) ?_
        refine x_goto (tgt := 58) C dX4_held_54 (by decide) ?_
        exact x_sub [] rfl (ok_X4_held_b58 C r hV ho hw)
  · replace hw := hw.2 h11
    refine x_lload_n C dX4_held_15 rfl rfl ?_
    refine x_aload_n C dX4_held_16 rfl rfl ?_
    refine x_iload_n C dX4_held_17 rfl rfl ?_
    refine n_callVJ ho rfl C (ok_X4_sum hV ho hw) mv_X4_81 rfl rfl ⟨by show frV + 8 + 1 ≤ frV + 9; omega, by show 8 + (5 + 11) + (loV + 207) ≤ loV + 231; omega⟩ (Nat.le_of_ble_eq_true rfl) dX4_held_18 (fun r25 M24 hw => ?_)
    refine x_lc_ge (tgt := 29) C dX4_held_21 dX4_held_22 (by decide) (fun h26 => ?_) (fun h26 => ?_)
    · replace hw := hw.1 h26
      refine x_iconst (v := (0 : Int32)) C dX4_held_29 (by decide) ?_
      exact x_sub [] rfl (ok_X4_held_b30 C r hV ho hw)
    · replace hw := hw.2 h26
      refine x_iconst (v := (1 : Int32)) C dX4_held_25 (by decide) ?_
      refine x_goto (tgt := 30) C dX4_held_26 (by decide) ?_
      exact x_sub [] rfl (ok_X4_held_b30 C r hV ho hw)

def w_X4_both_b50 (V : Nat → Int32 → Mem → (Int64 → Mem → Prop) → Prop) (o : Nat) (v1 : Int32) (v4 : Int32) (t0 : Int32) (M : Mem) (q : Int64 → Mem → Prop) (P9 : Int64 × Int32 × Mem → Prop) : Prop := w_X4_truth t0 M (fun (r2 : Int64) (M1 : Mem) => ∀ x3 : Int32, x3 = v4 + (1 : Int32) → P9 (r2, x3, M1))
set_option maxRecDepth 100000 in
set_option maxHeartbeats 4000000 in
theorem ok_X4_both_b50 {c : CtxT} {g : Gl} {l : Launch} {V : Nat → Int32 → Mem → (Int64 → Mem → Prop) → Prop} {frV loV : Nat} {o : Nat} {v1 : Int32} {v4 : Int32} {t0 : Int32} {q : Int64 → Mem → Prop} {P9 : Int64 × Int32 × Mem → Prop} {M : Mem} (C : Cx c cX4_both 7 RX4 g l (Rm (frV + 10) (loV + 254))) (r : Rt c (some .long) (pJ q) 0 0) (hV : ∀ {o : Nat} {v1 : Int32} {M : Mem} {q : Int64 → Mem → Prop}, sh o = .inl 4 → V o v1 M q → CtJ g l yX4_value cX4_value 7 (some .long) frV loV [.ref (g.2.2.2 + o), .int v1] M q) (ho : sh o = .inl 4) (hP9 : ∀ (v2 : Int64) (v4 : Int32) (M : Mem), P9 (v2, v4, M) → X c S0 9 [(0, .ref (g.2.2.2 + o)), (1, .int v1), (2, .long v2), (4, .int v4)] [] (stat M)) (hw : w_X4_both_b50 V o v1 v4 t0 M q P9) : X c S0 50 [(0, .ref (g.2.2.2 + o)), (1, .int v1), (4, .int v4)] [.int t0] (stat M) := by
  unfold w_X4_both_b50 at hw
  refine n_callSJ C (ok_X4_truth  hw) ms_X4_74 rfl rfl ⟨by show 1 + 1 ≤ frV + 10; omega, by show 8 + (1 + 11) + (0) ≤ loV + 254; omega⟩ (Nat.le_of_ble_eq_true rfl) dX4_both_50 (fun r2 M1 hw => ?_)
  refine x_lstore_n C dX4_both_53 rfl (Nat.le_of_ble_eq_true rfl) ?_
  obtain ⟨x3, ex3⟩ : ∃ z : Int32, z = v4 + (1 : Int32) := ⟨_, rfl⟩
  replace hw := hw x3 ex3
  refine x_iinc (v := x3) C dX4_both_54 rfl ex3.symm (Nat.le_of_ble_eq_true rfl) ?_
  refine x_goto (tgt := 9) C dX4_both_57 (by decide) ?_
  exact x_sub [0, 1, 2, 4] rfl (hP9 _ _ _ hw)
def w_X4_both_b49 (V : Nat → Int32 → Mem → (Int64 → Mem → Prop) → Prop) (o : Nat) (v1 : Int32) (v4 : Int32) (M : Mem) (q : Int64 → Mem → Prop) (P9 : Int64 × Int32 × Mem → Prop) : Prop := w_X4_both_b50 V o v1 v4 (0 : Int32) M q P9
set_option maxRecDepth 100000 in
set_option maxHeartbeats 4000000 in
theorem ok_X4_both_b49 {c : CtxT} {g : Gl} {l : Launch} {V : Nat → Int32 → Mem → (Int64 → Mem → Prop) → Prop} {frV loV : Nat} {o : Nat} {v1 : Int32} {v4 : Int32} {q : Int64 → Mem → Prop} {P9 : Int64 × Int32 × Mem → Prop} {M : Mem} (C : Cx c cX4_both 7 RX4 g l (Rm (frV + 10) (loV + 254))) (r : Rt c (some .long) (pJ q) 0 0) (hV : ∀ {o : Nat} {v1 : Int32} {M : Mem} {q : Int64 → Mem → Prop}, sh o = .inl 4 → V o v1 M q → CtJ g l yX4_value cX4_value 7 (some .long) frV loV [.ref (g.2.2.2 + o), .int v1] M q) (ho : sh o = .inl 4) (hP9 : ∀ (v2 : Int64) (v4 : Int32) (M : Mem), P9 (v2, v4, M) → X c S0 9 [(0, .ref (g.2.2.2 + o)), (1, .int v1), (2, .long v2), (4, .int v4)] [] (stat M)) (hw : w_X4_both_b49 V o v1 v4 M q P9) : X c S0 49 [(0, .ref (g.2.2.2 + o)), (1, .int v1), (4, .int v4)] [] (stat M) := by
  unfold w_X4_both_b49 at hw
  refine x_iconst (v := (0 : Int32)) C dX4_both_49 (by decide) ?_
  exact x_sub [0, 1, 4] rfl (ok_X4_both_b50 C r hV ho hP9 hw)
def w_X4_both_l9F (V : Nat → Int32 → Mem → (Int64 → Mem → Prop) → Prop) (o : Nat) (v1 : Int32) (q : Int64 → Mem → Prop) (P9 : Int64 × Int32 × Mem → Prop) (s : Int64 × Int32 × Mem) : Prop := match s with
  | (v2, v4, M) => (((40 : Int32) ≤ v4 → q v2 M) ∧ (¬ (40 : Int32) ≤ v4 → w_X4_takes o (38 : Int32) M (fun (r6 : Int32) (M5 : Mem) => ((r6 = 0 → q v2 M5) ∧ (¬ r6 = 0 → w_X4_held V o v1 M5 (fun (r9 : Int64) (M8 : Mem) => ((v2 = (0 : Int64) → w_X4_both_b49 V o v1 v4 M8 q P9) ∧ (¬ v2 = (0 : Int64) → ((r9 = (0 : Int64) → w_X4_both_b49 V o v1 v4 M8 q P9) ∧ (¬ r9 = (0 : Int64) → w_X4_both_b50 V o v1 v4 (1 : Int32) M8 q P9))))))))))
def w_X4_both_l9 (V : Nat → Int32 → Mem → (Int64 → Mem → Prop) → Prop) (o : Nat) (v1 : Int32) (q : Int64 → Mem → Prop) (s : Int64 × Int32 × Mem) : Prop := lfp (w_X4_both_l9F V o v1 q ) s
set_option maxRecDepth 100000 in
set_option maxHeartbeats 4000000 in
theorem ok_X4_both_l9 {c : CtxT} {g : Gl} {l : Launch} {V : Nat → Int32 → Mem → (Int64 → Mem → Prop) → Prop} {frV loV : Nat} {o : Nat} {v1 : Int32} {q : Int64 → Mem → Prop} {s : Int64 × Int32 × Mem} (C : Cx c cX4_both 7 RX4 g l (Rm (frV + 10) (loV + 254))) (r : Rt c (some .long) (pJ q) 0 0) (hV : ∀ {o : Nat} {v1 : Int32} {M : Mem} {q : Int64 → Mem → Prop}, sh o = .inl 4 → V o v1 M q → CtJ g l yX4_value cX4_value 7 (some .long) frV loV [.ref (g.2.2.2 + o), .int v1] M q) (ho : sh o = .inl 4) (hw : w_X4_both_l9 V o v1 q s) : X c S0 9 [(0, .ref (g.2.2.2 + o)), (1, .int v1), (2, .long s.1), (4, .int s.2.1)] [] (stat s.2.2) := hw (fun s => X c S0 9 [(0, .ref (g.2.2.2 + o)), (1, .int v1), (2, .long s.1), (4, .int s.2.1)] [] (stat s.2.2)) (fun s hw => by
    obtain ⟨v2, v4, M⟩ := s
    try dsimp only [w_X4_both_l9F] at hw
    try dsimp only
    refine x_iload C dX4_both_9 rfl ?_
    refine x_bipush (v := (40 : Int32)) C dX4_both_11 (by decide) ?_
    refine x_icmp_ge (tgt := 60) C dX4_both_13 (by decide) (fun h4 => ?_) (fun h4 => ?_)
    · replace hw := hw.1 h4
      refine x_lload_n C dX4_both_60 rfl rfl ?_
      exact n_lreturn C r dX4_both_61 hw
    · replace hw := hw.2 h4
      refine x_aload_n C dX4_both_16 rfl rfl ?_
      refine x_bipush (v := (38 : Int32)) C dX4_both_17 (by decide) ?_
      refine n_callVI ho rfl C (ok_X4_takes ho hw) mv_X4_70 rfl rfl ⟨by show 2 + 1 ≤ frV + 10; omega, by show 8 + (2 + 11) + (20) ≤ loV + 254; omega⟩ (Nat.le_of_ble_eq_true rfl) dX4_both_19 (fun r6 M5 hw => ?_)
      refine x_if_eq (tgt := 60) C dX4_both_22 (by decide) (fun h7 => ?_) (fun h7 => ?_)
      · replace hw := hw.1 h7
        refine x_lload_n C dX4_both_60 rfl rfl ?_
        exact n_lreturn C r dX4_both_61 hw
      · replace hw := hw.2 h7
        refine x_aload_n C dX4_both_25 rfl rfl ?_
        refine x_iload_n C dX4_both_26 rfl rfl ?_
        refine n_callVJ ho rfl C (ok_X4_held hV ho hw) mv_X4_78 rfl rfl ⟨by show frV + 9 + 1 ≤ frV + 10; omega, by show 8 + (4 + 11) + (loV + 231) ≤ loV + 254; omega⟩ (Nat.le_of_ble_eq_true rfl) dX4_both_27 (fun r9 M8 hw => ?_)
        refine x_lstore C dX4_both_30 (Nat.le_of_ble_eq_true rfl) ?_
        refine x_lload_n C dX4_both_32 rfl rfl ?_
        refine x_lconst (v := (0 : Int64)) C dX4_both_33 (by decide) ?_
        refine x_lc_eq (tgt := 49) C dX4_both_34 dX4_both_35 (by decide) (fun h10 => ?_) (fun h10 => ?_)
        · replace hw := hw.1 h10
          exact x_sub [0, 1, 4] rfl (ok_X4_both_b49 C r hV ho (fun _ _ _ h => h) hw)
        · replace hw := hw.2 h10
          refine x_lload C dX4_both_38 rfl ?_
          refine x_lconst (v := (0 : Int64)) C dX4_both_40 (by decide) ?_
          refine x_lc_eq (tgt := 49) C dX4_both_41 dX4_both_42 (by decide) (fun h11 => ?_) (fun h11 => ?_)
          · replace hw := hw.1 h11
            exact x_sub [0, 1, 4] rfl (ok_X4_both_b49 C r hV ho (fun _ _ _ h => h) hw)
          · replace hw := hw.2 h11
            refine x_iconst (v := (1 : Int32)) C dX4_both_45 (by decide) ?_
            refine x_goto (tgt := 50) C dX4_both_46 (by decide) ?_
            exact x_sub [0, 1, 4] rfl (ok_X4_both_b50 C r hV ho (fun _ _ _ h => h) hw))
def w_X4_both (V : Nat → Int32 → Mem → (Int64 → Mem → Prop) → Prop) (o : Nat) (v1 : Int32) (M : Mem) (q : Int64 → Mem → Prop) : Prop := w_X4_held V o v1 M (fun (r13 : Int64) (M12 : Mem) => w_X4_both_l9 V o v1 q (r13, (0 : Int32), M12))
set_option maxRecDepth 100000 in
set_option maxHeartbeats 4000000 in
theorem ok_X4_both {g : Gl} {l : Launch} {V : Nat → Int32 → Mem → (Int64 → Mem → Prop) → Prop} {frV loV : Nat} {o : Nat} {v1 : Int32} {M : Mem} {q : Int64 → Mem → Prop} (hV : ∀ {o : Nat} {v1 : Int32} {M : Mem} {q : Int64 → Mem → Prop}, sh o = .inl 4 → V o v1 M q → CtJ g l yX4_value cX4_value 7 (some .long) frV loV [.ref (g.2.2.2 + o), .int v1] M q) (ho : sh o = .inl 4) (hw : w_X4_both V o v1 M q) : CtJ g l yX4_both cX4_both 7 (some .long) (frV + 10) (loV + 254) [.ref (g.2.2.2 + o), .int v1] M q := by
  refine n_introJ (by decide +kernel) (Nat.le_of_ble_eq_true rfl) (fun c C r => ?_)
  have C : Cx c cX4_both 7 RX4 g l (Rm (frV + 10) (loV + 254)) := C
  refine x_sub [0, 1] (lv' := [(0, .ref (g.2.2.2 + o)), (1, .int v1)]) rfl ?_
  unfold w_X4_both at hw
  refine x_aload_n C dX4_both_0 rfl rfl ?_
  refine x_iload_n C dX4_both_1 rfl rfl ?_
  refine n_callVJ ho rfl C (ok_X4_held hV ho hw) mv_X4_78 rfl rfl ⟨by show frV + 9 + 1 ≤ frV + 10; omega, by show 8 + (4 + 11) + (loV + 231) ≤ loV + 254; omega⟩ (Nat.le_of_ble_eq_true rfl) dX4_both_2 (fun r13 M12 hw => ?_)
  refine x_lstore_n C dX4_both_5 rfl (Nat.le_of_ble_eq_true rfl) ?_
  refine x_iconst (v := (0 : Int32)) C dX4_both_6 (by decide) ?_
  refine x_istore C dX4_both_7 (Nat.le_of_ble_eq_true rfl) ?_
  exact x_sub [0, 1, 2, 4] rfl (ok_X4_both_l9 C r hV ho hw)

def w_X4_value_b50 (V : Nat → Int32 → Mem → (Int64 → Mem → Prop) → Prop) (o : Nat) (v1 : Int32) (v4 : Int32) (t0 : Int32) (M : Mem) (q : Int64 → Mem → Prop) (P9 : Int64 × Int32 × Mem → Prop) : Prop := w_X4_truth t0 M (fun (r2 : Int64) (M1 : Mem) => ∀ x3 : Int32, x3 = v4 + (1 : Int32) → P9 (r2, x3, M1))
set_option maxRecDepth 100000 in
set_option maxHeartbeats 4000000 in
theorem ok_X4_value_b50 {c : CtxT} {g : Gl} {l : Launch} {V : Nat → Int32 → Mem → (Int64 → Mem → Prop) → Prop} {frV loV : Nat} {o : Nat} {v1 : Int32} {v4 : Int32} {t0 : Int32} {q : Int64 → Mem → Prop} {P9 : Int64 × Int32 × Mem → Prop} {M : Mem} (C : Cx c cX4_value 7 RX4 g l (Rm (frV + 11) (loV + 280))) (r : Rt c (some .long) (pJ q) 0 0) (hV : ∀ {o : Nat} {v1 : Int32} {M : Mem} {q : Int64 → Mem → Prop}, sh o = .inl 4 → V o v1 M q → CtJ g l yX4_value cX4_value 7 (some .long) frV loV [.ref (g.2.2.2 + o), .int v1] M q) (ho : sh o = .inl 4) (hP9 : ∀ (v2 : Int64) (v4 : Int32) (M : Mem), P9 (v2, v4, M) → X c S0 9 [(0, .ref (g.2.2.2 + o)), (1, .int v1), (2, .long v2), (4, .int v4)] [] (stat M)) (hw : w_X4_value_b50 V o v1 v4 t0 M q P9) : X c S0 50 [(0, .ref (g.2.2.2 + o)), (1, .int v1), (4, .int v4)] [.int t0] (stat M) := by
  unfold w_X4_value_b50 at hw
  refine n_callSJ C (ok_X4_truth  hw) ms_X4_74 rfl rfl ⟨by show 1 + 1 ≤ frV + 11; omega, by show 8 + (1 + 11) + (0) ≤ loV + 280; omega⟩ (Nat.le_of_ble_eq_true rfl) dX4_value_50 (fun r2 M1 hw => ?_)
  refine x_lstore_n C dX4_value_53 rfl (Nat.le_of_ble_eq_true rfl) ?_
  obtain ⟨x3, ex3⟩ : ∃ z : Int32, z = v4 + (1 : Int32) := ⟨_, rfl⟩
  replace hw := hw x3 ex3
  refine x_iinc (v := x3) C dX4_value_54 rfl ex3.symm (Nat.le_of_ble_eq_true rfl) ?_
  refine x_goto (tgt := 9) C dX4_value_57 (by decide) ?_
  exact x_sub [0, 1, 2, 4] rfl (hP9 _ _ _ hw)
def w_X4_value_b45 (V : Nat → Int32 → Mem → (Int64 → Mem → Prop) → Prop) (o : Nat) (v1 : Int32) (v4 : Int32) (M : Mem) (q : Int64 → Mem → Prop) (P9 : Int64 × Int32 × Mem → Prop) : Prop := w_X4_value_b50 V o v1 v4 (1 : Int32) M q P9
set_option maxRecDepth 100000 in
set_option maxHeartbeats 4000000 in
theorem ok_X4_value_b45 {c : CtxT} {g : Gl} {l : Launch} {V : Nat → Int32 → Mem → (Int64 → Mem → Prop) → Prop} {frV loV : Nat} {o : Nat} {v1 : Int32} {v4 : Int32} {q : Int64 → Mem → Prop} {P9 : Int64 × Int32 × Mem → Prop} {M : Mem} (C : Cx c cX4_value 7 RX4 g l (Rm (frV + 11) (loV + 280))) (r : Rt c (some .long) (pJ q) 0 0) (hV : ∀ {o : Nat} {v1 : Int32} {M : Mem} {q : Int64 → Mem → Prop}, sh o = .inl 4 → V o v1 M q → CtJ g l yX4_value cX4_value 7 (some .long) frV loV [.ref (g.2.2.2 + o), .int v1] M q) (ho : sh o = .inl 4) (hP9 : ∀ (v2 : Int64) (v4 : Int32) (M : Mem), P9 (v2, v4, M) → X c S0 9 [(0, .ref (g.2.2.2 + o)), (1, .int v1), (2, .long v2), (4, .int v4)] [] (stat M)) (hw : w_X4_value_b45 V o v1 v4 M q P9) : X c S0 45 [(0, .ref (g.2.2.2 + o)), (1, .int v1), (4, .int v4)] [] (stat M) := by
  unfold w_X4_value_b45 at hw
  refine x_iconst (v := (1 : Int32)) C dX4_value_45 (by decide) ?_
  refine x_goto (tgt := 50) C dX4_value_46 (by decide) ?_
  exact x_sub [0, 1, 4] rfl (ok_X4_value_b50 C r hV ho hP9 hw)
def w_X4_value_l9F (V : Nat → Int32 → Mem → (Int64 → Mem → Prop) → Prop) (o : Nat) (v1 : Int32) (q : Int64 → Mem → Prop) (P9 : Int64 × Int32 × Mem → Prop) (s : Int64 × Int32 × Mem) : Prop := match s with
  | (v2, v4, M) => (((40 : Int32) ≤ v4 → q v2 M) ∧ (¬ (40 : Int32) ≤ v4 → w_X4_takes o (124 : Int32) M (fun (r6 : Int32) (M5 : Mem) => ((r6 = 0 → q v2 M5) ∧ (¬ r6 = 0 → w_X4_both V o v1 M5 (fun (r9 : Int64) (M8 : Mem) => ((¬ v2 = (0 : Int64) → w_X4_value_b45 V o v1 v4 M8 q P9) ∧ (v2 = (0 : Int64) → ((r9 = (0 : Int64) → w_X4_value_b50 V o v1 v4 (0 : Int32) M8 q P9) ∧ (¬ r9 = (0 : Int64) → w_X4_value_b45 V o v1 v4 M8 q P9))))))))))
def w_X4_value_l9 (V : Nat → Int32 → Mem → (Int64 → Mem → Prop) → Prop) (o : Nat) (v1 : Int32) (q : Int64 → Mem → Prop) (s : Int64 × Int32 × Mem) : Prop := lfp (w_X4_value_l9F V o v1 q ) s
set_option maxRecDepth 100000 in
set_option maxHeartbeats 4000000 in
theorem ok_X4_value_l9 {c : CtxT} {g : Gl} {l : Launch} {V : Nat → Int32 → Mem → (Int64 → Mem → Prop) → Prop} {frV loV : Nat} {o : Nat} {v1 : Int32} {q : Int64 → Mem → Prop} {s : Int64 × Int32 × Mem} (C : Cx c cX4_value 7 RX4 g l (Rm (frV + 11) (loV + 280))) (r : Rt c (some .long) (pJ q) 0 0) (hV : ∀ {o : Nat} {v1 : Int32} {M : Mem} {q : Int64 → Mem → Prop}, sh o = .inl 4 → V o v1 M q → CtJ g l yX4_value cX4_value 7 (some .long) frV loV [.ref (g.2.2.2 + o), .int v1] M q) (ho : sh o = .inl 4) (hw : w_X4_value_l9 V o v1 q s) : X c S0 9 [(0, .ref (g.2.2.2 + o)), (1, .int v1), (2, .long s.1), (4, .int s.2.1)] [] (stat s.2.2) := hw (fun s => X c S0 9 [(0, .ref (g.2.2.2 + o)), (1, .int v1), (2, .long s.1), (4, .int s.2.1)] [] (stat s.2.2)) (fun s hw => by
    obtain ⟨v2, v4, M⟩ := s
    try dsimp only [w_X4_value_l9F] at hw
    try dsimp only
    refine x_iload C dX4_value_9 rfl ?_
    refine x_bipush (v := (40 : Int32)) C dX4_value_11 (by decide) ?_
    refine x_icmp_ge (tgt := 60) C dX4_value_13 (by decide) (fun h4 => ?_) (fun h4 => ?_)
    · replace hw := hw.1 h4
      refine x_lload_n C dX4_value_60 rfl rfl ?_
      exact n_lreturn C r dX4_value_61 hw
    · replace hw := hw.2 h4
      refine x_aload_n C dX4_value_16 rfl rfl ?_
      refine x_bipush (v := (124 : Int32)) C dX4_value_17 (by decide) ?_
      refine n_callVI ho rfl C (ok_X4_takes ho hw) mv_X4_70 rfl rfl ⟨by show 2 + 1 ≤ frV + 11; omega, by show 8 + (2 + 11) + (20) ≤ loV + 280; omega⟩ (Nat.le_of_ble_eq_true rfl) dX4_value_19 (fun r6 M5 hw => ?_)
      refine x_if_eq (tgt := 60) C dX4_value_22 (by decide) (fun h7 => ?_) (fun h7 => ?_)
      · replace hw := hw.1 h7
        refine x_lload_n C dX4_value_60 rfl rfl ?_
        exact n_lreturn C r dX4_value_61 hw
      · replace hw := hw.2 h7
        refine x_aload_n C dX4_value_25 rfl rfl ?_
        refine x_iload_n C dX4_value_26 rfl rfl ?_
        refine n_callVJ ho rfl C (ok_X4_both hV ho hw) mv_X4_67 rfl rfl ⟨by show frV + 10 + 1 ≤ frV + 11; omega, by show 8 + (7 + 11) + (loV + 254) ≤ loV + 280; omega⟩ (Nat.le_of_ble_eq_true rfl) dX4_value_27 (fun r9 M8 hw => ?_)
        refine x_lstore C dX4_value_30 (Nat.le_of_ble_eq_true rfl) ?_
        refine x_lload_n C dX4_value_32 rfl rfl ?_
        refine x_lconst (v := (0 : Int64)) C dX4_value_33 (by decide) ?_
        refine x_lc_ne (tgt := 45) C dX4_value_34 dX4_value_35 (by decide) (fun h10 => ?_) (fun h10 => ?_)
        · replace hw := hw.1 h10
          exact x_sub [0, 1, 4] rfl (ok_X4_value_b45 C r hV ho (fun _ _ _ h => h) hw)
        · replace hw := hw.2 h10
          refine x_lload C dX4_value_38 rfl ?_
          refine x_lconst (v := (0 : Int64)) C dX4_value_40 (by decide) ?_
          refine x_lc_eq (tgt := 49) C dX4_value_41 dX4_value_42 (by decide) (fun h11 => ?_) (fun h11 => ?_)
          · replace hw := hw.1 h11
            refine x_iconst (v := (0 : Int32)) C dX4_value_49 (by decide) ?_
            exact x_sub [0, 1, 4] rfl (ok_X4_value_b50 C r hV ho (fun _ _ _ h => h) hw)
          · replace hw := hw.2 h11
            exact x_sub [0, 1, 4] rfl (ok_X4_value_b45 C r hV ho (fun _ _ _ h => h) hw))
def w_X4_value (V : Nat → Int32 → Mem → (Int64 → Mem → Prop) → Prop) (o : Nat) (v1 : Int32) (M : Mem) (q : Int64 → Mem → Prop) : Prop := w_X4_both V o v1 M (fun (r13 : Int64) (M12 : Mem) => w_X4_value_l9 V o v1 q (r13, (0 : Int32), M12))
set_option maxRecDepth 100000 in
set_option maxHeartbeats 4000000 in
theorem ok_X4_value {g : Gl} {l : Launch} {V : Nat → Int32 → Mem → (Int64 → Mem → Prop) → Prop} {frV loV : Nat} {o : Nat} {v1 : Int32} {M : Mem} {q : Int64 → Mem → Prop} (hV : ∀ {o : Nat} {v1 : Int32} {M : Mem} {q : Int64 → Mem → Prop}, sh o = .inl 4 → V o v1 M q → CtJ g l yX4_value cX4_value 7 (some .long) frV loV [.ref (g.2.2.2 + o), .int v1] M q) (ho : sh o = .inl 4) (hw : w_X4_value V o v1 M q) : CtJ g l yX4_value cX4_value 7 (some .long) (frV + 11) (loV + 280) [.ref (g.2.2.2 + o), .int v1] M q := by
  refine n_introJ (by decide +kernel) (Nat.le_of_ble_eq_true rfl) (fun c C r => ?_)
  have C : Cx c cX4_value 7 RX4 g l (Rm (frV + 11) (loV + 280)) := C
  refine x_sub [0, 1] (lv' := [(0, .ref (g.2.2.2 + o)), (1, .int v1)]) rfl ?_
  unfold w_X4_value at hw
  refine x_aload_n C dX4_value_0 rfl rfl ?_
  refine x_iload_n C dX4_value_1 rfl rfl ?_
  refine n_callVJ ho rfl C (ok_X4_both hV ho hw) mv_X4_67 rfl rfl ⟨by show frV + 10 + 1 ≤ frV + 11; omega, by show 8 + (7 + 11) + (loV + 254) ≤ loV + 280; omega⟩ (Nat.le_of_ble_eq_true rfl) dX4_value_2 (fun r13 M12 hw => ?_)
  refine x_lstore_n C dX4_value_5 rfl (Nat.le_of_ble_eq_true rfl) ?_
  refine x_iconst (v := (0 : Int32)) C dX4_value_6 (by decide) ?_
  refine x_istore C dX4_value_7 (Nat.le_of_ble_eq_true rfl) ?_
  exact x_sub [0, 1, 2, 4] rfl (ok_X4_value_l9 C r hV ho hw)

def w_valN : Nat → (Nat → Int32 → Mem → (Int64 → Mem → Prop) → Prop)
  | 0 => fun _ _ _ _ => False
  | n + 1 => w_X4_value (w_valN n)
theorem ok_valN (n : Nat) {g : Gl} {l : Launch} : ∀ {o : Nat} {v1 : Int32} {M : Mem} {q : Int64 → Mem → Prop}, sh o = .inl 4 → w_valN n o v1 M q → CtJ g l yX4_value cX4_value 7 (some .long) (n * 11) (n * 280) [.ref (g.2.2.2 + o), .int v1] M q := by
  induction n with
  | zero => intro o v1 M q _ hw; exact hw.elim
  | succ n ih =>
    intro o v1 M q ho hw
    have h := ok_X4_value (g := g) (l := l) (frV := n * 11) (loV := n * 280) (V := w_valN n) (fun h1 h2 => ih h1 h2) ho hw
    rw [Nat.succ_mul, Nat.succ_mul]
    exact h
def w_X4_work (o : Nat) (v1 : Nat) (v2 : Int32) (M : Mem) (q : Int64 → Mem → Prop) : Prop := ∀ M1 : Mem, M1 = uI M o 2 (imin (imax v2 (0 : Int32)) (imin (Int32.ofNat (len v1)) (40 : Int32))) → ¬ (M1.1 o 2) < 0 ∧ 0 + ((M1.1 o 2)).toNatClampNeg ≤ (len v1) ∧ 0 + ((M1.1 o 2)).toNatClampNeg ≤ 40 ∧ ∀ M5 : Mem, M5 = cpI M1 v1 (o + 1) 0 0 ((M1.1 o 2)).toNatClampNeg → ∀ M6 : Mem, M6 = uI M5 o 3 (0 : Int32) → ∀ M7 : Mem, M7 = uI M6 o 0 (-1 : Int32) → w_valN 10 o (0 : Int32) M7 (fun (r9 : Int64) (M8 : Mem) => w_X4_ahead o M8 (fun (r11 : Int32) (M10 : Mem) => ((r11 = (-1 : Int32) → q r9 M10) ∧ (¬ r11 = (-1 : Int32) → w_X4_fail o (1 : Int32) M10 (fun (r14 : Int64) (M13 : Mem) => q r9 M13)))))
set_option maxRecDepth 100000 in
set_option maxHeartbeats 4000000 in
theorem ok_X4_work {g : Gl} {l : Launch} {o : Nat} {v1 : Nat} {v2 : Int32} {M : Mem} {q : Int64 → Mem → Prop} (ho : sh o = .inl 4) (hv1 : isA 0 v1) (hw : w_X4_work o v1 v2 M q) : CtJ g l yX4_work cX4_work 5 (some .long) 111 2826 [.ref (g.2.2.2 + o), .ref (g.2.2.2 + v1), .int v2] M q := by
  refine n_introJ (by decide +kernel) (Nat.le_of_ble_eq_true rfl) (fun c C r => ?_)
  have C : Cx c cX4_work 5 RX4 g l (Rm 111 2826) := C
  refine x_sub [0, 1, 2] (lv' := [(0, .ref (g.2.2.2 + o)), (1, .ref (g.2.2.2 + v1)), (2, .int v2)]) rfl ?_
  unfold w_X4_work at hw
  refine x_aload_n C dX4_work_0 rfl rfl ?_
  refine x_iload_n C dX4_work_1 rfl rfl ?_
  refine x_iconst (v := (0 : Int32)) C dX4_work_2 (by decide) ?_
  refine x_mmax C ms_X4_38 (Nat.le_of_ble_eq_true rfl) (Nat.le_of_ble_eq_true rfl) (Nat.le_of_ble_eq_true rfl) dX4_work_3 ?_
  refine x_aload_n C dX4_work_6 rfl rfl ?_
  refine n_alen C hv1 (by decide) dX4_work_7 ?_
  refine x_bipush (v := (40 : Int32)) C dX4_work_8 (by decide) ?_
  refine x_mmin C ms_X4_44 (Nat.le_of_ble_eq_true rfl) (Nat.le_of_ble_eq_true rfl) (Nat.le_of_ble_eq_true rfl) dX4_work_10 ?_
  refine x_mmin C ms_X4_44 (Nat.le_of_ble_eq_true rfl) (Nat.le_of_ble_eq_true rfl) (Nat.le_of_ble_eq_true rfl) dX4_work_13 ?_
  obtain ⟨M1, eM1⟩ : ∃ z : Mem, z = uI M o 2 (imin (imax v2 (0 : Int32)) (imin (Int32.ofNat (len v1)) (40 : Int32))) := ⟨_, rfl⟩
  replace hw := hw M1 eM1
  refine m_putI C fp_X4_47 ho (fun _ _ => rfl) rfl rfl eM1 dX4_work_16 ?_
  refine x_aload_n C dX4_work_19 rfl rfl ?_
  refine x_iconst (v := (0 : Int32)) C dX4_work_20 (by decide) ?_
  refine x_aload_n C dX4_work_21 rfl rfl ?_
  refine n_getS (dd := 1) C fl_X4_15 ho (fun _ _ => rfl) rfl dX4_work_22 ?_
  refine x_iconst (v := (0 : Int32)) C dX4_work_25 (by decide) ?_
  refine x_aload_n C dX4_work_26 rfl rfl ?_
  refine n_getI C fl_X4_47 ho (fun _ _ => rfl) dX4_work_27 ?_
  obtain ⟨h2, hw⟩ := hw
  obtain ⟨h3, hw⟩ := hw
  obtain ⟨h4, hw⟩ := hw
  obtain ⟨M5, eM5⟩ : ∃ z : Mem, z = cpI M1 v1 (o + 1) 0 0 ((M1.1 o 2)).toNatClampNeg := ⟨_, rfl⟩
  replace hw := hw M5 eM5
  refine a_copy C ac_X4_48 ac_native ac_static ac_init hv1 (ss_4_1 ho) rfl (sl_4_1 ho) (by decide) (by decide) rfl (by decide) (by decide) h2 h3 h4 eM5 (Nat.le_of_ble_eq_true rfl) (Nat.le_of_ble_eq_true rfl) (Nat.le_of_ble_eq_true rfl) dX4_work_30 ?_
  refine x_aload_n C dX4_work_33 rfl rfl ?_
  refine x_iconst (v := (0 : Int32)) C dX4_work_34 (by decide) ?_
  obtain ⟨M6, eM6⟩ : ∃ z : Mem, z = uI M5 o 3 (0 : Int32) := ⟨_, rfl⟩
  replace hw := hw M6 eM6
  refine m_putI C fp_X4_54 ho (fun _ _ => rfl) rfl rfl eM6 dX4_work_35 ?_
  refine x_aload_n C dX4_work_38 rfl rfl ?_
  refine x_iconst (v := (-1 : Int32)) C dX4_work_39 (by decide) ?_
  obtain ⟨M7, eM7⟩ : ∃ z : Mem, z = uI M6 o 0 (-1 : Int32) := ⟨_, rfl⟩
  replace hw := hw M7 eM7
  refine m_putI C fp_X4_9 ho (fun _ _ => rfl) rfl rfl eM7 dX4_work_40 ?_
  refine x_aload_n C dX4_work_43 rfl rfl ?_
  refine x_iconst (v := (0 : Int32)) C dX4_work_44 (by decide) ?_
  refine n_callVJ ho rfl C (ok_valN 10 ho hw) mv_X4_57 rfl rfl ⟨Nat.le_of_ble_eq_true rfl, Nat.le_of_ble_eq_true rfl⟩ (Nat.le_of_ble_eq_true rfl) dX4_work_45 (fun r9 M8 hw => ?_)
  refine x_lstore_n C dX4_work_48 rfl (Nat.le_of_ble_eq_true rfl) ?_
  refine x_aload_n C dX4_work_49 rfl rfl ?_
  refine n_callVI ho rfl C (ok_X4_ahead ho hw) mv_X4_61 rfl rfl ⟨Nat.le_of_ble_eq_true rfl, Nat.le_of_ble_eq_true rfl⟩ (Nat.le_of_ble_eq_true rfl) dX4_work_50 (fun r11 M10 hw => ?_)
  refine x_iconst (v := (-1 : Int32)) C dX4_work_53 (by decide) ?_
  refine x_icmp_eq (tgt := 63) C dX4_work_54 (by decide) (fun h12 => ?_) (fun h12 => ?_)
  · replace hw := hw.1 h12
    refine x_lload_n C dX4_work_63 rfl rfl ?_
    exact n_lreturn C r dX4_work_64 hw
  · replace hw := hw.2 h12
    refine x_aload_n C dX4_work_57 rfl rfl ?_
    refine x_iconst (v := (1 : Int32)) C dX4_work_58 (by decide) ?_
    refine n_callVJ ho rfl C (ok_X4_fail ho hw) mv_X4_64 rfl rfl ⟨Nat.le_of_ble_eq_true rfl, Nat.le_of_ble_eq_true rfl⟩ (Nat.le_of_ble_eq_true rfl) dX4_work_59 (fun r14 M13 hw => ?_)
    refine x_pop2_2 C dX4_work_62 rfl ?_
    refine x_lload_n C dX4_work_63 rfl rfl ?_
    exact n_lreturn C r dX4_work_64 hw

def w_X11_fault (M : Mem) (q : Int32 → Mem → Prop) : Prop := w_X4_work 68 16 (M.1 1 6) M (fun (r2 : Int64) (M1 : Mem) => q (M1.1 68 0) M1)
set_option maxRecDepth 100000 in
set_option maxHeartbeats 4000000 in
theorem ok_X11_fault {g : Gl} {l : Launch} {M : Mem} {q : Int32 → Mem → Prop} (hw : w_X11_fault M q) : CtI g l yX11_fault cX11_fault 1 (some .int) 112 2850 [.ref (g.2.2.2 + 0)] M q := by
  refine n_introI (by decide +kernel) (Nat.le_of_ble_eq_true rfl) (fun c C r => ?_)
  have C : Cx c cX11_fault 1 RX11 g l (Rm 112 2850) := C
  refine x_sub [0] (lv' := [(0, .ref (g.2.2.2 + 0))]) rfl ?_
  unfold w_X11_fault at hw
  refine x_aload_n C dX11_fault_0 rfl rfl ?_
  refine n_getS (dd := 68) C fl_X11_69 s0 (fun _ _ => rfl) rfl dX11_fault_1 ?_
  refine x_aload_n C dX11_fault_4 rfl rfl ?_
  refine n_getS (dd := 1) C fl_X11_10 s0 (fun _ _ => rfl) rfl dX11_fault_5 ?_
  refine n_getS (dd := 15) C fl_X11_317 s1 (fun _ _ => rfl) rfl dX11_fault_8 ?_
  refine x_aload_n C dX11_fault_11 rfl rfl ?_
  refine n_getS (dd := 1) C fl_X11_10 s0 (fun _ _ => rfl) rfl dX11_fault_12 ?_
  refine n_getI C fl_X11_314 s1 (fun _ _ => rfl) dX11_fault_15 ?_
  refine n_callVJ s68 rfl C (ok_X4_work s68 s16 hw) mv_X11_320 rfl rfl ⟨Nat.le_of_ble_eq_true rfl, Nat.le_of_ble_eq_true rfl⟩ (Nat.le_of_ble_eq_true rfl) dX11_fault_18 (fun r2 M1 hw => ?_)
  refine x_pop2_2 C dX11_fault_21 rfl ?_
  refine x_aload_n C dX11_fault_22 rfl rfl ?_
  refine n_getS (dd := 68) C fl_X11_69 s0 (fun _ _ => rfl) rfl dX11_fault_23 ?_
  refine n_getI C fl_X11_324 s68 (fun _ _ => rfl) dX11_fault_26 ?_
  exact n_ireturn C r dX11_fault_29 hw

def w_X11_rung_b175 (v1 : Int32) (v2 : Int32) (v3 : Int32) (v4 : Int32) (v6 : Int32) (M : Mem) (q : Int32 → Mem → Prop) (P84 : Int32 × Int32 × Int32 × Mem → Prop) : Prop := w_X0_middle 46 M (fun (r2 : Int32) (M1 : Mem) => ∀ x3 : Int32, x3 = v6 + (1 : Int32) → P84 (v4, r2, x3, M1))
set_option maxRecDepth 100000 in
set_option maxHeartbeats 4000000 in
theorem ok_X11_rung_b175 {c : CtxT} {g : Gl} {l : Launch} {v1 : Int32} {v2 : Int32} {v3 : Int32} {v4 : Int32} {v6 : Int32} {q : Int32 → Mem → Prop} {P84 : Int32 × Int32 × Int32 × Mem → Prop} {M : Mem} (C : Cx c cX11_rung 7 RX11 g l (Rm 112 2850)) (r : Rt c (some .int) (pI q) 0 0) (hP84 : ∀ (v4 : Int32) (v5 : Int32) (v6 : Int32) (M : Mem), P84 (v4, v5, v6, M) → X c S0 84 [(0, .ref (g.2.2.2 + 0)), (1, .int v1), (2, .int v2), (3, .int v3), (4, .int v4), (5, .int v5), (6, .int v6)] [] (stat M)) (hw : w_X11_rung_b175 v1 v2 v3 v4 v6 M q P84) : X c S0 175 [(0, .ref (g.2.2.2 + 0)), (1, .int v1), (2, .int v2), (3, .int v3), (4, .int v4), (6, .int v6)] [] (stat M) := by
  unfold w_X11_rung_b175 at hw
  refine x_aload_n C dX11_rung_175 rfl rfl ?_
  refine n_getS (dd := 46) C fl_X11_34 s0 (fun _ _ => rfl) rfl dX11_rung_176 ?_
  refine n_callVI s46 rfl C (ok_X0_middle s46 hw) mv_X11_190 rfl rfl ⟨Nat.le_of_ble_eq_true rfl, Nat.le_of_ble_eq_true rfl⟩ (Nat.le_of_ble_eq_true rfl) dX11_rung_179 (fun r2 M1 hw => ?_)
  refine x_istore C dX11_rung_182 (Nat.le_of_ble_eq_true rfl) ?_
  obtain ⟨x3, ex3⟩ : ∃ z : Int32, z = v6 + (1 : Int32) := ⟨_, rfl⟩
  replace hw := hw x3 ex3
  refine x_iinc (v := x3) C dX11_rung_184 rfl ex3.symm (Nat.le_of_ble_eq_true rfl) ?_
  refine x_goto (tgt := 84) C dX11_rung_187 (by decide) ?_
  exact x_sub [0, 1, 2, 3, 4, 5, 6] rfl (hP84 _ _ _ _ hw)
def w_X11_rung_l84F (v1 : Int32) (v2 : Int32) (v3 : Int32) (q : Int32 → Mem → Prop) (P84 : Int32 × Int32 × Int32 × Mem → Prop) (s : Int32 × Int32 × Int32 × Mem) : Prop := match s with
  | (v4, v5, v6, M) => (((M.1 2 7) ≤ v6 → q v4 M) ∧ (¬ (M.1 2 7) ≤ v6 → w_X8_gather 1 46 v6 v1 v2 v3 M (fun (M5 : Mem) => w_X4_know 68 46 v5 v6 M5 (fun (M7 : Mem) => (((M7.1 46 1) ≤ 0 → w_X11_rung_b175 v1 v2 v3 v4 v6 M7 q P84) ∧ (¬ (M7.1 46 1) ≤ 0 → w_X4_work 68 16 (M7.1 1 6) M7 (fun (r11 : Int64) (M10 : Mem) => ((r11 = (0 : Int64) → w_X11_rung_b175 v1 v2 v3 v4 v6 M10 q P84) ∧ (¬ r11 = (0 : Int64) → ∀ x13 : Int32, x13 = (v4 ||| ((1 : Int32) <<< (v6 &&& 31))) → w_X11_rung_b175 v1 v2 v3 x13 v6 M10 q P84)))))))))
def w_X11_rung_l84 (v1 : Int32) (v2 : Int32) (v3 : Int32) (q : Int32 → Mem → Prop) (s : Int32 × Int32 × Int32 × Mem) : Prop := lfp (w_X11_rung_l84F v1 v2 v3 q ) s
set_option maxRecDepth 100000 in
set_option maxHeartbeats 4000000 in
theorem ok_X11_rung_l84 {c : CtxT} {g : Gl} {l : Launch} {v1 : Int32} {v2 : Int32} {v3 : Int32} {q : Int32 → Mem → Prop} {s : Int32 × Int32 × Int32 × Mem} (C : Cx c cX11_rung 7 RX11 g l (Rm 112 2850)) (r : Rt c (some .int) (pI q) 0 0) (hw : w_X11_rung_l84 v1 v2 v3 q s) : X c S0 84 [(0, .ref (g.2.2.2 + 0)), (1, .int v1), (2, .int v2), (3, .int v3), (4, .int s.1), (5, .int s.2.1), (6, .int s.2.2.1)] [] (stat s.2.2.2) := hw (fun s => X c S0 84 [(0, .ref (g.2.2.2 + 0)), (1, .int v1), (2, .int v2), (3, .int v3), (4, .int s.1), (5, .int s.2.1), (6, .int s.2.2.1)] [] (stat s.2.2.2)) (fun s hw => by
    obtain ⟨v4, v5, v6, M⟩ := s
    try dsimp only [w_X11_rung_l84F] at hw
    try dsimp only
    refine x_iload C dX11_rung_84 rfl ?_
    refine x_aload_n C dX11_rung_86 rfl rfl ?_
    refine n_getS (dd := 1) C fl_X11_10 s0 (fun _ _ => rfl) rfl dX11_rung_87 ?_
    refine n_getS (dd := 1) C fl_X11_73 s1 (fun _ _ => rfl) rfl dX11_rung_90 ?_
    refine n_getI C fl_X11_193 s2 (fun _ _ => rfl) dX11_rung_93 ?_
    refine x_icmp_ge (tgt := 190) C dX11_rung_96 (by decide) (fun h4 => ?_) (fun h4 => ?_)
    · replace hw := hw.1 h4
      refine x_iload C dX11_rung_190 rfl ?_
      exact n_ireturn C r dX11_rung_192 hw
    · replace hw := hw.2 h4
      refine x_aload_n C dX11_rung_99 rfl rfl ?_
      refine n_getS (dd := 1) C fl_X11_10 s0 (fun _ _ => rfl) rfl dX11_rung_100 ?_
      refine x_aload_n C dX11_rung_103 rfl rfl ?_
      refine n_getS (dd := 46) C fl_X11_34 s0 (fun _ _ => rfl) rfl dX11_rung_104 ?_
      refine x_iload C dX11_rung_107 rfl ?_
      refine x_iload_n C dX11_rung_109 rfl rfl ?_
      refine x_iload_n C dX11_rung_110 rfl rfl ?_
      refine x_iload_n C dX11_rung_111 rfl rfl ?_
      refine n_callVV s1 rfl C (ok_X8_gather s1 s46 hw) mv_X11_177 rfl rfl ⟨Nat.le_of_ble_eq_true rfl, Nat.le_of_ble_eq_true rfl⟩ (Nat.le_of_ble_eq_true rfl) dX11_rung_112 (fun M5 hw => ?_)
      refine x_aload_n C dX11_rung_115 rfl rfl ?_
      refine n_getS (dd := 68) C fl_X11_69 s0 (fun _ _ => rfl) rfl dX11_rung_116 ?_
      refine x_aload_n C dX11_rung_119 rfl rfl ?_
      refine n_getS (dd := 46) C fl_X11_34 s0 (fun _ _ => rfl) rfl dX11_rung_120 ?_
      refine x_iload C dX11_rung_123 rfl ?_
      refine x_iload C dX11_rung_125 rfl ?_
      refine n_callVV s68 rfl C (ok_X4_know s68 s46 hw) mv_X11_327 rfl rfl ⟨Nat.le_of_ble_eq_true rfl, Nat.le_of_ble_eq_true rfl⟩ (Nat.le_of_ble_eq_true rfl) dX11_rung_127 (fun M7 hw => ?_)
      refine x_aload_n C dX11_rung_130 rfl rfl ?_
      refine n_getS (dd := 46) C fl_X11_34 s0 (fun _ _ => rfl) rfl dX11_rung_131 ?_
      refine n_getI C fl_X11_181 s46 (fun _ _ => rfl) dX11_rung_134 ?_
      refine x_if_le (tgt := 175) C dX11_rung_137 (by decide) (fun h9 => ?_) (fun h9 => ?_)
      · replace hw := hw.1 h9
        exact x_sub [0, 1, 2, 3, 4, 6] rfl (ok_X11_rung_b175 C r (fun _ _ _ _ h => h) hw)
      · replace hw := hw.2 h9
        refine x_aload_n C dX11_rung_140 rfl rfl ?_
        refine n_getS (dd := 68) C fl_X11_69 s0 (fun _ _ => rfl) rfl dX11_rung_141 ?_
        refine x_aload_n C dX11_rung_144 rfl rfl ?_
        refine n_getS (dd := 1) C fl_X11_10 s0 (fun _ _ => rfl) rfl dX11_rung_145 ?_
        refine n_getS (dd := 15) C fl_X11_317 s1 (fun _ _ => rfl) rfl dX11_rung_148 ?_
        refine x_aload_n C dX11_rung_151 rfl rfl ?_
        refine n_getS (dd := 1) C fl_X11_10 s0 (fun _ _ => rfl) rfl dX11_rung_152 ?_
        refine n_getI C fl_X11_314 s1 (fun _ _ => rfl) dX11_rung_155 ?_
        refine n_callVJ s68 rfl C (ok_X4_work s68 s16 hw) mv_X11_320 rfl rfl ⟨Nat.le_of_ble_eq_true rfl, Nat.le_of_ble_eq_true rfl⟩ (Nat.le_of_ble_eq_true rfl) dX11_rung_158 (fun r11 M10 hw => ?_)
        refine x_lconst (v := (0 : Int64)) C dX11_rung_161 (by decide) ?_
        refine x_lc_eq (tgt := 175) C dX11_rung_162 dX11_rung_163 (by decide) (fun h12 => ?_) (fun h12 => ?_)
        · replace hw := hw.1 h12
          exact x_sub [0, 1, 2, 3, 4, 6] rfl (ok_X11_rung_b175 C r (fun _ _ _ _ h => h) hw)
        · replace hw := hw.2 h12
          refine x_iload C dX11_rung_166 rfl ?_
          refine x_iconst (v := (1 : Int32)) C dX11_rung_168 (by decide) ?_
          refine x_iload C dX11_rung_169 rfl ?_
          refine x_ishl C dX11_rung_171 ?_
          refine x_ior C dX11_rung_172 ?_
          obtain ⟨x13, ex13⟩ : ∃ z : Int32, z = (v4 ||| ((1 : Int32) <<< (v6 &&& 31))) := ⟨_, rfl⟩
          replace hw := hw x13 ex13
          refine x_topi ex13 ?_
          refine x_istore C dX11_rung_173 (Nat.le_of_ble_eq_true rfl) ?_
          exact x_sub [0, 1, 2, 3, 4, 6] rfl (ok_X11_rung_b175 C r (fun _ _ _ _ h => h) hw))
def w_X11_rung (v1 : Int32) (v2 : Int32) (v3 : Int32) (M : Mem) (q : Int32 → Mem → Prop) : Prop := w_X11_isOut v1 (4 : Int32) M (fun (r15 : Int32) (M14 : Mem) => ((¬ r15 = 0 → q (-2 : Int32) M14) ∧ (r15 = 0 → w_X11_isOut v2 (M14.1 2 10) M14 (fun (r18 : Int32) (M17 : Mem) => ((¬ r18 = 0 → q (-2 : Int32) M17) ∧ (r18 = 0 → w_X11_isBeyond v3 (0 : Int32) (200 : Int32) M17 (fun (r21 : Int32) (M20 : Mem) => ((r21 = 0 → w_X4_work 68 16 (M20.1 1 6) M20 (fun (r24 : Int64) (M23 : Mem) => (((M23.1 68 0) = (-1 : Int32) → w_X11_rung_l84 v1 v2 v3 q ((0 : Int32), (0 : Int32), (0 : Int32), M23)) ∧ (¬ (M23.1 68 0) = (-1 : Int32) → q (-3 : Int32) M23)))) ∧ (¬ r21 = 0 → q (-2 : Int32) M20)))))))))
set_option maxRecDepth 100000 in
set_option maxHeartbeats 4000000 in
theorem ok_X11_rung {g : Gl} {l : Launch} {v1 : Int32} {v2 : Int32} {v3 : Int32} {M : Mem} {q : Int32 → Mem → Prop} (hw : w_X11_rung v1 v2 v3 M q) : CtI g l yX11_rung cX11_rung 7 (some .int) 112 2850 [.ref (g.2.2.2 + 0), .int v1, .int v2, .int v3] M q := by
  refine n_introI (by decide +kernel) (Nat.le_of_ble_eq_true rfl) (fun c C r => ?_)
  have C : Cx c cX11_rung 7 RX11 g l (Rm 112 2850) := C
  refine x_sub [0, 1, 2, 3] (lv' := [(0, .ref (g.2.2.2 + 0)), (1, .int v1), (2, .int v2), (3, .int v3)]) rfl ?_
  unfold w_X11_rung at hw
  refine x_iload_n C dX11_rung_0 rfl rfl ?_
  refine x_iconst (v := (4 : Int32)) C dX11_rung_1 (by decide) ?_
  refine n_callSI C (ok_X11_isOut  hw) ms_X11_87 rfl rfl ⟨Nat.le_of_ble_eq_true rfl, Nat.le_of_ble_eq_true rfl⟩ (Nat.le_of_ble_eq_true rfl) dX11_rung_2 (fun r15 M14 hw => ?_)
  refine x_if_ne (tgt := 36) C dX11_rung_5 (by decide) (fun h16 => ?_) (fun h16 => ?_)
  · replace hw := hw.1 h16
    refine x_bipush (v := (-2 : Int32)) C dX11_rung_36 (by decide) ?_
    exact n_ireturn C r dX11_rung_38 hw
  · replace hw := hw.2 h16
    refine x_iload_n C dX11_rung_8 rfl rfl ?_
    refine x_aload_n C dX11_rung_9 rfl rfl ?_
    refine n_getS (dd := 1) C fl_X11_10 s0 (fun _ _ => rfl) rfl dX11_rung_10 ?_
    refine n_getS (dd := 1) C fl_X11_73 s1 (fun _ _ => rfl) rfl dX11_rung_13 ?_
    refine n_getI C fl_X11_311 s2 (fun _ _ => rfl) dX11_rung_16 ?_
    refine n_callSI C (ok_X11_isOut  hw) ms_X11_87 rfl rfl ⟨Nat.le_of_ble_eq_true rfl, Nat.le_of_ble_eq_true rfl⟩ (Nat.le_of_ble_eq_true rfl) dX11_rung_19 (fun r18 M17 hw => ?_)
    refine x_if_ne (tgt := 36) C dX11_rung_22 (by decide) (fun h19 => ?_) (fun h19 => ?_)
    · replace hw := hw.1 h19
      refine x_bipush (v := (-2 : Int32)) C dX11_rung_36 (by decide) ?_
      exact n_ireturn C r dX11_rung_38 hw
    · replace hw := hw.2 h19
      refine x_iload_n C dX11_rung_25 rfl rfl ?_
      refine x_iconst (v := (0 : Int32)) C dX11_rung_26 (by decide) ?_
      refine x_sipush (v := (200 : Int32)) C dX11_rung_27 (by decide) ?_
      refine n_callSI C (ok_X11_isBeyond  hw) ms_X11_128 rfl rfl ⟨Nat.le_of_ble_eq_true rfl, Nat.le_of_ble_eq_true rfl⟩ (Nat.le_of_ble_eq_true rfl) dX11_rung_30 (fun r21 M20 hw => ?_)
      refine x_if_eq (tgt := 39) C dX11_rung_33 (by decide) (fun h22 => ?_) (fun h22 => ?_)
      · replace hw := hw.1 h22
        refine x_aload_n C dX11_rung_39 rfl rfl ?_
        refine n_getS (dd := 68) C fl_X11_69 s0 (fun _ _ => rfl) rfl dX11_rung_40 ?_
        refine x_aload_n C dX11_rung_43 rfl rfl ?_
        refine n_getS (dd := 1) C fl_X11_10 s0 (fun _ _ => rfl) rfl dX11_rung_44 ?_
        refine n_getS (dd := 15) C fl_X11_317 s1 (fun _ _ => rfl) rfl dX11_rung_47 ?_
        refine x_aload_n C dX11_rung_50 rfl rfl ?_
        refine n_getS (dd := 1) C fl_X11_10 s0 (fun _ _ => rfl) rfl dX11_rung_51 ?_
        refine n_getI C fl_X11_314 s1 (fun _ _ => rfl) dX11_rung_54 ?_
        refine n_callVJ s68 rfl C (ok_X4_work s68 s16 hw) mv_X11_320 rfl rfl ⟨Nat.le_of_ble_eq_true rfl, Nat.le_of_ble_eq_true rfl⟩ (Nat.le_of_ble_eq_true rfl) dX11_rung_57 (fun r24 M23 hw => ?_)
        refine x_pop2_2 C dX11_rung_60 rfl ?_
        refine x_aload_n C dX11_rung_61 rfl rfl ?_
        refine n_getS (dd := 68) C fl_X11_69 s0 (fun _ _ => rfl) rfl dX11_rung_62 ?_
        refine n_getI C fl_X11_324 s68 (fun _ _ => rfl) dX11_rung_65 ?_
        refine x_iconst (v := (-1 : Int32)) C dX11_rung_68 (by decide) ?_
        refine x_icmp_eq (tgt := 75) C dX11_rung_69 (by decide) (fun h25 => ?_) (fun h25 => ?_)
        · replace hw := hw.1 h25
          refine x_iconst (v := (0 : Int32)) C dX11_rung_75 (by decide) ?_
          refine x_istore C dX11_rung_76 (Nat.le_of_ble_eq_true rfl) ?_
          refine x_iconst (v := (0 : Int32)) C dX11_rung_78 (by decide) ?_
          refine x_istore C dX11_rung_79 (Nat.le_of_ble_eq_true rfl) ?_
          refine x_iconst (v := (0 : Int32)) C dX11_rung_81 (by decide) ?_
          refine x_istore C dX11_rung_82 (Nat.le_of_ble_eq_true rfl) ?_
          exact x_sub [0, 1, 2, 3, 4, 5, 6] rfl (ok_X11_rung_l84 C r  hw)
        · replace hw := hw.2 h25
          refine x_bipush (v := (-3 : Int32)) C dX11_rung_72 (by decide) ?_
          exact n_ireturn C r dX11_rung_74 hw
      · replace hw := hw.2 h22
        refine x_bipush (v := (-2 : Int32)) C dX11_rung_36 (by decide) ?_
        exact n_ireturn C r dX11_rung_38 hw


set_option maxRecDepth 100000 in
def w_X0_init (o : Nat) (M : Mem) (q : Mem → Prop) : Prop := ∀ M1 : Mem, M1 = uN M (o + 1) → ∀ M2 : Mem, M2 = uR M1 o 0 (some (o + 1)) → q M2
set_option maxRecDepth 100000 in
set_option maxHeartbeats 16000000 in
theorem ok_X0_init {g : Gl} {l : Launch} {o : Nat} {M : Mem} {q : Mem → Prop} (ho : sh o = .inl 0) (hw : w_X0_init o M q) : Ct g l yX0_init cX0_init 1 none 1 20 [.ref (g.2.2.2 + o)] (o + 1) 1 200 M (fun rv K z => rv = none ∧ K = (o + 2) ∧ q z) := by
  refine ct_intro (by decide +kernel) (Nat.le_of_ble_eq_true rfl) (fun c C r hin => ?_)
  have C : Cx c cX0_init 1 RX0 g l { frames := 1, cells := 1, slots := 200, locals := 20 } := C
  refine x_sub [0] (lv' := [(0, .ref (g.2.2.2 + o))]) rfl ?_
  unfold w_X0_init at hw
  refine x_aload_n C dX0_init_0 rfl rfl ?_
  refine k_objInit C oi_X0 oi_inst oi_code (Nat.le_of_ble_eq_true rfl) (Nat.le_of_ble_eq_true rfl) (Nat.le_of_ble_eq_true rfl) dX0_init_1 ?_
  refine x_aload_n C dX0_init_4 rfl rfl ?_
  refine x_sipush (v := (200 : Int32)) C dX0_init_5 (by decide) ?_
  obtain ⟨M1, eM1⟩ : ∃ z : Mem, z = uN M (o + 1) := ⟨_, rfl⟩
  replace hw := hw M1 eM1
  refine k_newa (atype := .int) (N := 200) C ax_int rfl (Or.inl ⟨rfl, rfl⟩) (sx_0_1 ho) (sy_0_1 ho) (by decide) (by decide) (by decide +kernel) ⟨Nat.le_of_ble_eq_true rfl, Nat.le_of_ble_eq_true rfl⟩ eM1 dX0_init_8 ?_
  refine x_kap (κ' := ((o + 2), 1, 200)) rfl ?_
  clear eM1
  obtain ⟨M2, eM2⟩ : ∃ z : Mem, z = uR M1 o 0 (some (o + 1)) := ⟨_, rfl⟩
  replace hw := hw M2 eM2
  refine k_putFR C hin ff_X0_9 (by show o < (o + 2); omega) ho (fun _ _ => rfl) (fun _ => rfl) (fun _ => rfl) eM2 dX0_init_10 ?_
  clear eM2
  try clear M1
  exact x_vreturn C r dX0_init_13 ⟨rfl, rfl, hw⟩

set_option maxRecDepth 100000 in
def w_X10_init (o : Nat) (M : Mem) (q : Mem → Prop) : Prop := ∀ M1 : Mem, M1 = uN M (o + 1) → ∀ M2 : Mem, M2 = uR M1 o 0 (some (o + 1)) → ∀ M3 : Mem, M3 = uN M2 (o + 2) → ∀ M4 : Mem, M4 = uR M3 o 1 (some (o + 2)) → ∀ M5 : Mem, M5 = uN M4 (o + 3) → ∀ M6 : Mem, M6 = uR M5 o 2 (some (o + 3)) → q M6
set_option maxRecDepth 100000 in
set_option maxHeartbeats 16000000 in
theorem ok_X10_init {g : Gl} {l : Launch} {o : Nat} {M : Mem} {q : Mem → Prop} (ho : sh o = .inl 10) (hw : w_X10_init o M q) : Ct g l yX10_init cX10_init 1 none 1 20 [.ref (g.2.2.2 + o)] (o + 1) 3 768 M (fun rv K z => rv = none ∧ K = (o + 4) ∧ q z) := by
  refine ct_intro (by decide +kernel) (Nat.le_of_ble_eq_true rfl) (fun c C r hin => ?_)
  have C : Cx c cX10_init 1 RX10 g l { frames := 1, cells := 3, slots := 768, locals := 20 } := C
  refine x_sub [0] (lv' := [(0, .ref (g.2.2.2 + o))]) rfl ?_
  unfold w_X10_init at hw
  refine x_aload_n C dX10_init_0 rfl rfl ?_
  refine k_objInit C oi_X10 oi_inst oi_code (Nat.le_of_ble_eq_true rfl) (Nat.le_of_ble_eq_true rfl) (Nat.le_of_ble_eq_true rfl) dX10_init_1 ?_
  refine x_aload_n C dX10_init_4 rfl rfl ?_
  refine x_sipush (v := (256 : Int32)) C dX10_init_5 (by decide) ?_
  obtain ⟨M1, eM1⟩ : ∃ z : Mem, z = uN M (o + 1) := ⟨_, rfl⟩
  replace hw := hw M1 eM1
  refine k_newa (atype := .int) (N := 256) C ax_int rfl (Or.inl ⟨rfl, rfl⟩) (sx_10_1 ho) (sy_10_1 ho) (by decide) (by decide) (by decide +kernel) ⟨Nat.le_of_ble_eq_true rfl, Nat.le_of_ble_eq_true rfl⟩ eM1 dX10_init_8 ?_
  refine x_kap (κ' := ((o + 2), 1, 256)) rfl ?_
  clear eM1
  obtain ⟨M2, eM2⟩ : ∃ z : Mem, z = uR M1 o 0 (some (o + 1)) := ⟨_, rfl⟩
  replace hw := hw M2 eM2
  refine k_putFR C hin ff_X10_9 (by show o < (o + 2); omega) ho (fun _ _ => rfl) (fun _ => rfl) (fun _ => rfl) eM2 dX10_init_10 ?_
  clear eM2
  try clear M1
  refine x_aload_n C dX10_init_13 rfl rfl ?_
  refine x_sipush (v := (256 : Int32)) C dX10_init_14 (by decide) ?_
  obtain ⟨M3, eM3⟩ : ∃ z : Mem, z = uN M2 (o + 2) := ⟨_, rfl⟩
  replace hw := hw M3 eM3
  refine k_newa (atype := .int) (N := 256) C ax_int rfl (Or.inl ⟨rfl, rfl⟩) (sx_10_2 ho) (sy_10_2 ho) (by decide) (by decide) (by decide +kernel) ⟨Nat.le_of_ble_eq_true rfl, Nat.le_of_ble_eq_true rfl⟩ eM3 dX10_init_17 ?_
  refine x_kap (κ' := ((o + 3), 2, 512)) rfl ?_
  clear eM3
  try clear M2
  obtain ⟨M4, eM4⟩ : ∃ z : Mem, z = uR M3 o 1 (some (o + 2)) := ⟨_, rfl⟩
  replace hw := hw M4 eM4
  refine k_putFR C hin ff_X10_13 (by show o < (o + 3); omega) ho (fun _ _ => rfl) (fun _ => rfl) (fun _ => rfl) eM4 dX10_init_19 ?_
  clear eM4
  try clear M3
  refine x_aload_n C dX10_init_22 rfl rfl ?_
  refine x_sipush (v := (256 : Int32)) C dX10_init_23 (by decide) ?_
  obtain ⟨M5, eM5⟩ : ∃ z : Mem, z = uN M4 (o + 3) := ⟨_, rfl⟩
  replace hw := hw M5 eM5
  refine k_newa (atype := .int) (N := 256) C ax_int rfl (Or.inl ⟨rfl, rfl⟩) (sx_10_3 ho) (sy_10_3 ho) (by decide) (by decide) (by decide +kernel) ⟨Nat.le_of_ble_eq_true rfl, Nat.le_of_ble_eq_true rfl⟩ eM5 dX10_init_26 ?_
  refine x_kap (κ' := ((o + 4), 3, 768)) rfl ?_
  clear eM5
  try clear M4
  obtain ⟨M6, eM6⟩ : ∃ z : Mem, z = uR M5 o 2 (some (o + 3)) := ⟨_, rfl⟩
  replace hw := hw M6 eM6
  refine k_putFR C hin ff_X10_16 (by show o < (o + 4); omega) ho (fun _ _ => rfl) (fun _ => rfl) (fun _ => rfl) eM6 dX10_init_28 ?_
  clear eM6
  try clear M5
  exact x_vreturn C r dX10_init_31 ⟨rfl, rfl, hw⟩

set_option maxRecDepth 100000 in
def w_X4_init (o : Nat) (M : Mem) (q : Mem → Prop) : Prop := ∀ M1 : Mem, M1 = uI M o 0 (-1 : Int32) → ∀ M2 : Mem, M2 = uN M1 (o + 1) → ∀ M3 : Mem, M3 = uR M2 o 1 (some (o + 1)) → ∀ M4 : Mem, M4 = uN M3 (o + 2) → ∀ M5 : Mem, M5 = uR M4 o 4 (some (o + 2)) → q M5
set_option maxRecDepth 100000 in
set_option maxHeartbeats 16000000 in
theorem ok_X4_init {g : Gl} {l : Launch} {o : Nat} {M : Mem} {q : Mem → Prop} (ho : sh o = .inl 4) (hw : w_X4_init o M q) : Ct g l yX4_init cX4_init 1 none 1 20 [.ref (g.2.2.2 + o)] (o + 1) 2 46 M (fun rv K z => rv = none ∧ K = (o + 3) ∧ q z) := by
  refine ct_intro (by decide +kernel) (Nat.le_of_ble_eq_true rfl) (fun c C r hin => ?_)
  have C : Cx c cX4_init 1 RX4 g l { frames := 1, cells := 2, slots := 46, locals := 20 } := C
  refine x_sub [0] (lv' := [(0, .ref (g.2.2.2 + o))]) rfl ?_
  unfold w_X4_init at hw
  refine x_aload_n C dX4_init_0 rfl rfl ?_
  refine k_objInit C oi_X4 oi_inst oi_code (Nat.le_of_ble_eq_true rfl) (Nat.le_of_ble_eq_true rfl) (Nat.le_of_ble_eq_true rfl) dX4_init_1 ?_
  refine x_aload_n C dX4_init_4 rfl rfl ?_
  refine x_iconst (v := (-1 : Int32)) C dX4_init_5 (by decide) ?_
  obtain ⟨M1, eM1⟩ : ∃ z : Mem, z = uI M o 0 (-1 : Int32) := ⟨_, rfl⟩
  replace hw := hw M1 eM1
  refine k_putI C fp_X4_9 (by show o < (o + 1); omega) ho (fun _ _ => rfl) rfl rfl eM1 dX4_init_6 ?_
  clear eM1
  refine x_aload_n C dX4_init_9 rfl rfl ?_
  refine x_bipush (v := (40 : Int32)) C dX4_init_10 (by decide) ?_
  obtain ⟨M2, eM2⟩ : ∃ z : Mem, z = uN M1 (o + 1) := ⟨_, rfl⟩
  replace hw := hw M2 eM2
  refine k_newa (atype := .int) (N := 40) C ax_int rfl (Or.inl ⟨rfl, rfl⟩) (sx_4_1 ho) (sy_4_1 ho) (by decide) (by decide) (by decide +kernel) ⟨Nat.le_of_ble_eq_true rfl, Nat.le_of_ble_eq_true rfl⟩ eM2 dX4_init_12 ?_
  refine x_kap (κ' := ((o + 2), 1, 40)) rfl ?_
  clear eM2
  try clear M1
  obtain ⟨M3, eM3⟩ : ∃ z : Mem, z = uR M2 o 1 (some (o + 1)) := ⟨_, rfl⟩
  replace hw := hw M3 eM3
  refine k_putFR C hin ff_X4_15 (by show o < (o + 2); omega) ho (fun _ _ => rfl) (fun _ => rfl) (fun _ => rfl) eM3 dX4_init_14 ?_
  clear eM3
  try clear M2
  refine x_aload_n C dX4_init_17 rfl rfl ?_
  refine x_bipush (v := (6 : Int32)) C dX4_init_18 (by decide) ?_
  obtain ⟨M4, eM4⟩ : ∃ z : Mem, z = uN M3 (o + 2) := ⟨_, rfl⟩
  replace hw := hw M4 eM4
  refine k_newa (atype := .long) (N := 6) C ax_long rfl (Or.inr (Or.inl ⟨rfl, rfl⟩)) (sx_4_2 ho) (sy_4_2 ho) (by decide) (by decide) (by decide +kernel) ⟨Nat.le_of_ble_eq_true rfl, Nat.le_of_ble_eq_true rfl⟩ eM4 dX4_init_20 ?_
  refine x_kap (κ' := ((o + 3), 2, 46)) rfl ?_
  clear eM4
  try clear M3
  obtain ⟨M5, eM5⟩ : ∃ z : Mem, z = uR M4 o 4 (some (o + 2)) := ⟨_, rfl⟩
  replace hw := hw M5 eM5
  refine k_putFR C hin ff_X4_19 (by show o < (o + 3); omega) ho (fun _ _ => rfl) (fun _ => rfl) (fun _ => rfl) eM5 dX4_init_22 ?_
  clear eM5
  try clear M4
  exact x_vreturn C r dX4_init_25 ⟨rfl, rfl, hw⟩

set_option maxRecDepth 100000 in
def w_X5_init (o : Nat) (M : Mem) (q : Mem → Prop) : Prop := ∀ M1 : Mem, M1 = uN M (o + 1) → ∀ M2 : Mem, M2 = uR M1 o 0 (some (o + 1)) → ∀ M3 : Mem, M3 = uN M2 (o + 2) → ∀ M4 : Mem, M4 = uR M3 o 2 (some (o + 2)) → ∀ M5 : Mem, M5 = uI M4 o 4 (20 : Int32) → q M5
set_option maxRecDepth 100000 in
set_option maxHeartbeats 16000000 in
theorem ok_X5_init {g : Gl} {l : Launch} {o : Nat} {M : Mem} {q : Mem → Prop} (ho : sh o = .inl 5) (hw : w_X5_init o M q) : Ct g l yX5_init cX5_init 1 none 1 20 [.ref (g.2.2.2 + o)] (o + 1) 2 24 M (fun rv K z => rv = none ∧ K = (o + 3) ∧ q z) := by
  refine ct_intro (by decide +kernel) (Nat.le_of_ble_eq_true rfl) (fun c C r hin => ?_)
  have C : Cx c cX5_init 1 RX5 g l { frames := 1, cells := 2, slots := 24, locals := 20 } := C
  refine x_sub [0] (lv' := [(0, .ref (g.2.2.2 + o))]) rfl ?_
  unfold w_X5_init at hw
  refine x_aload_n C dX5_init_0 rfl rfl ?_
  refine k_objInit C oi_X5 oi_inst oi_code (Nat.le_of_ble_eq_true rfl) (Nat.le_of_ble_eq_true rfl) (Nat.le_of_ble_eq_true rfl) dX5_init_1 ?_
  refine x_aload_n C dX5_init_4 rfl rfl ?_
  refine x_bipush (v := (16 : Int32)) C dX5_init_5 (by decide) ?_
  obtain ⟨M1, eM1⟩ : ∃ z : Mem, z = uN M (o + 1) := ⟨_, rfl⟩
  replace hw := hw M1 eM1
  refine k_newa (atype := .int) (N := 16) C ax_int rfl (Or.inl ⟨rfl, rfl⟩) (sx_5_1 ho) (sy_5_1 ho) (by decide) (by decide) (by decide +kernel) ⟨Nat.le_of_ble_eq_true rfl, Nat.le_of_ble_eq_true rfl⟩ eM1 dX5_init_7 ?_
  refine x_kap (κ' := ((o + 2), 1, 16)) rfl ?_
  clear eM1
  obtain ⟨M2, eM2⟩ : ∃ z : Mem, z = uR M1 o 0 (some (o + 1)) := ⟨_, rfl⟩
  replace hw := hw M2 eM2
  refine k_putFR C hin ff_X5_9 (by show o < (o + 2); omega) ho (fun _ _ => rfl) (fun _ => rfl) (fun _ => rfl) eM2 dX5_init_9 ?_
  clear eM2
  try clear M1
  refine x_aload_n C dX5_init_12 rfl rfl ?_
  refine x_bipush (v := (8 : Int32)) C dX5_init_13 (by decide) ?_
  obtain ⟨M3, eM3⟩ : ∃ z : Mem, z = uN M2 (o + 2) := ⟨_, rfl⟩
  replace hw := hw M3 eM3
  refine k_newa (atype := .int) (N := 8) C ax_int rfl (Or.inl ⟨rfl, rfl⟩) (sx_5_2 ho) (sy_5_2 ho) (by decide) (by decide) (by decide +kernel) ⟨Nat.le_of_ble_eq_true rfl, Nat.le_of_ble_eq_true rfl⟩ eM3 dX5_init_15 ?_
  refine x_kap (κ' := ((o + 3), 2, 24)) rfl ?_
  clear eM3
  try clear M2
  obtain ⟨M4, eM4⟩ : ∃ z : Mem, z = uR M3 o 2 (some (o + 2)) := ⟨_, rfl⟩
  replace hw := hw M4 eM4
  refine k_putFR C hin ff_X5_15 (by show o < (o + 3); omega) ho (fun _ _ => rfl) (fun _ => rfl) (fun _ => rfl) eM4 dX5_init_17 ?_
  clear eM4
  try clear M3
  refine x_aload_n C dX5_init_20 rfl rfl ?_
  refine x_bipush (v := (20 : Int32)) C dX5_init_21 (by decide) ?_
  obtain ⟨M5, eM5⟩ : ∃ z : Mem, z = uI M4 o 4 (20 : Int32) := ⟨_, rfl⟩
  replace hw := hw M5 eM5
  refine k_putI C fp_X5_18 (by show o < (o + 3); omega) ho (fun _ _ => rfl) rfl rfl eM5 dX5_init_23 ?_
  clear eM5
  try clear M4
  exact x_vreturn C r dX5_init_26 ⟨rfl, rfl, hw⟩

set_option maxRecDepth 100000 in
def w_X1_init (o : Nat) (M : Mem) (q : Mem → Prop) : Prop := ∀ M1 : Mem, M1 = uN M (o + 1) → ∀ M2 : Mem, M2 = uR M1 o 2 (some (o + 1)) → ∀ M3 : Mem, M3 = uN M2 (o + 2) → ∀ M4 : Mem, M4 = uR M3 o 3 (some (o + 2)) → ∀ M5 : Mem, M5 = uN M4 (o + 3) → ∀ M6 : Mem, M6 = uR M5 o 4 (some (o + 3)) → ∀ M7 : Mem, M7 = uN M6 (o + 4) → w_X0_init (o + 4) M7 (fun (M8 : Mem) => ∀ M9 : Mem, M9 = uR M8 o 6 (some (o + 4)) → q M9)
set_option maxRecDepth 100000 in
set_option maxHeartbeats 16000000 in
theorem ok_X1_init {g : Gl} {l : Launch} {o : Nat} {M : Mem} {q : Mem → Prop} (ho : sh o = .inl 1) (hw : w_X1_init o M q) : Ct g l yX1_init cX1_init 1 none 2 40 [.ref (g.2.2.2 + o)] (o + 1) 5 274 M (fun rv K z => rv = none ∧ K = (o + 6) ∧ q z) := by
  refine ct_intro (by decide +kernel) (Nat.le_of_ble_eq_true rfl) (fun c C r hin => ?_)
  have C : Cx c cX1_init 1 RX1 g l { frames := 2, cells := 5, slots := 274, locals := 40 } := C
  refine x_sub [0] (lv' := [(0, .ref (g.2.2.2 + o))]) rfl ?_
  unfold w_X1_init at hw
  refine x_aload_n C dX1_init_0 rfl rfl ?_
  refine k_objInit C oi_X1 oi_inst oi_code (Nat.le_of_ble_eq_true rfl) (Nat.le_of_ble_eq_true rfl) (Nat.le_of_ble_eq_true rfl) dX1_init_1 ?_
  refine x_aload_n C dX1_init_4 rfl rfl ?_
  refine x_bipush (v := (24 : Int32)) C dX1_init_5 (by decide) ?_
  obtain ⟨M1, eM1⟩ : ∃ z : Mem, z = uN M (o + 1) := ⟨_, rfl⟩
  replace hw := hw M1 eM1
  refine k_newa (atype := .int) (N := 24) C ax_int rfl (Or.inl ⟨rfl, rfl⟩) (sx_1_1 ho) (sy_1_1 ho) (by decide) (by decide) (by decide +kernel) ⟨Nat.le_of_ble_eq_true rfl, Nat.le_of_ble_eq_true rfl⟩ eM1 dX1_init_7 ?_
  refine x_kap (κ' := ((o + 2), 1, 24)) rfl ?_
  clear eM1
  obtain ⟨M2, eM2⟩ : ∃ z : Mem, z = uR M1 o 2 (some (o + 1)) := ⟨_, rfl⟩
  replace hw := hw M2 eM2
  refine k_putFR C hin ff_X1_9 (by show o < (o + 2); omega) ho (fun _ _ => rfl) (fun _ => rfl) (fun _ => rfl) eM2 dX1_init_9 ?_
  clear eM2
  try clear M1
  refine x_aload_n C dX1_init_12 rfl rfl ?_
  refine x_bipush (v := (24 : Int32)) C dX1_init_13 (by decide) ?_
  obtain ⟨M3, eM3⟩ : ∃ z : Mem, z = uN M2 (o + 2) := ⟨_, rfl⟩
  replace hw := hw M3 eM3
  refine k_newa (atype := .int) (N := 24) C ax_int rfl (Or.inl ⟨rfl, rfl⟩) (sx_1_2 ho) (sy_1_2 ho) (by decide) (by decide) (by decide +kernel) ⟨Nat.le_of_ble_eq_true rfl, Nat.le_of_ble_eq_true rfl⟩ eM3 dX1_init_15 ?_
  refine x_kap (κ' := ((o + 3), 2, 48)) rfl ?_
  clear eM3
  try clear M2
  obtain ⟨M4, eM4⟩ : ∃ z : Mem, z = uR M3 o 3 (some (o + 2)) := ⟨_, rfl⟩
  replace hw := hw M4 eM4
  refine k_putFR C hin ff_X1_15 (by show o < (o + 3); omega) ho (fun _ _ => rfl) (fun _ => rfl) (fun _ => rfl) eM4 dX1_init_17 ?_
  clear eM4
  try clear M3
  refine x_aload_n C dX1_init_20 rfl rfl ?_
  refine x_bipush (v := (24 : Int32)) C dX1_init_21 (by decide) ?_
  obtain ⟨M5, eM5⟩ : ∃ z : Mem, z = uN M4 (o + 3) := ⟨_, rfl⟩
  replace hw := hw M5 eM5
  refine k_newa (atype := .int) (N := 24) C ax_int rfl (Or.inl ⟨rfl, rfl⟩) (sx_1_3 ho) (sy_1_3 ho) (by decide) (by decide) (by decide +kernel) ⟨Nat.le_of_ble_eq_true rfl, Nat.le_of_ble_eq_true rfl⟩ eM5 dX1_init_23 ?_
  refine x_kap (κ' := ((o + 4), 3, 72)) rfl ?_
  clear eM5
  try clear M4
  obtain ⟨M6, eM6⟩ : ∃ z : Mem, z = uR M5 o 4 (some (o + 3)) := ⟨_, rfl⟩
  replace hw := hw M6 eM6
  refine k_putFR C hin ff_X1_18 (by show o < (o + 4); omega) ho (fun _ _ => rfl) (fun _ => rfl) (fun _ => rfl) eM6 dX1_init_25 ?_
  clear eM6
  try clear M5
  refine x_aload_n C dX1_init_28 rfl rfl ?_
  obtain ⟨M7, eM7⟩ : ∃ z : Mem, z = uN M6 (o + 4) := ⟨_, rfl⟩
  replace hw := hw M7 eM7
  refine k_new C ci_0 (sx_1_4 ho) (by decide +kernel) cl_X1_21 nw_0 in_0 ⟨Nat.le_of_ble_eq_true rfl, Nat.le_of_ble_eq_true rfl⟩ eM7 dX1_init_29 ?_
  refine x_kap (κ' := ((o + 5), 4, 74)) rfl ?_
  clear eM7
  try clear M6
  refine x_dup C dX1_init_32 rfl ?_
  refine k_callIN C (ok_X0_init (sx_1_4 ho) hw) mi_X1_23 ⟨Nat.le_of_ble_eq_true rfl, Nat.le_of_ble_eq_true rfl⟩ (Nat.le_of_ble_eq_true rfl) ⟨Nat.le_of_ble_eq_true rfl, Nat.le_of_ble_eq_true rfl⟩ dX1_init_33 (fun rv KK M8 hw => ?_)
  obtain ⟨rfl, rfl, hw⟩ := hw
  refine x_kap (κ' := ((o + 6), 5, 274)) rfl ?_
  show X c _ _ _ [.ref (g.2.2.2 + (o + 4)), .ref (g.2.2.2 + o)] _
  try clear M7
  obtain ⟨M9, eM9⟩ : ∃ z : Mem, z = uR M8 o 6 (some (o + 4)) := ⟨_, rfl⟩
  replace hw := hw M9 eM9
  refine k_putFR C hin ff_X1_24 (by show o < (o + 6); omega) ho (fun _ _ => rfl) (fun _ => rfl) (fun _ => rfl) eM9 dX1_init_36 ?_
  clear eM9
  try clear M8
  exact x_vreturn C r dX1_init_39 ⟨rfl, rfl, hw⟩

set_option maxRecDepth 100000 in
def w_X3_init (o : Nat) (M : Mem) (q : Mem → Prop) : Prop := ∀ M1 : Mem, M1 = uN M (o + 1) → ∀ M2 : Mem, M2 = uR M1 o 0 (some (o + 1)) → ∀ M3 : Mem, M3 = uI M2 o 1 (4 : Int32) → ∀ M4 : Mem, M4 = uI M3 o 2 (4 : Int32) → ∀ M5 : Mem, M5 = uI M4 o 3 (10 : Int32) → ∀ M6 : Mem, M6 = uN M5 (o + 2) → ∀ M7 : Mem, M7 = uR M6 o 4 (some (o + 2)) → ∀ M8 : Mem, M8 = uI M7 o 5 (4 : Int32) → ∀ M9 : Mem, M9 = uI M8 o 6 (5 : Int32) → ∀ M10 : Mem, M10 = uN M9 (o + 3) → ∀ M11 : Mem, M11 = uR M10 o 7 (some (o + 3)) → M11.2.2 o 0 = some (o + 1) ∧ ∀ M13 : Mem, M13 = flI M11 (o + 1) 8 (1 : Int32) → M13.2.2 o 4 = some (o + 2) ∧ ∀ M15 : Mem, M15 = flI M13 (o + 2) 16 (-1 : Int32) → q M15
set_option maxRecDepth 100000 in
set_option maxHeartbeats 16000000 in
theorem ok_X3_init {g : Gl} {l : Launch} {o : Nat} {M : Mem} {q : Mem → Prop} (ho : sh o = .inl 3) (hw : w_X3_init o M q) : Ct g l yX3_init cX3_init 1 none 2 23 [.ref (g.2.2.2 + o)] (o + 1) 3 40 M (fun rv K z => rv = none ∧ K = (o + 4) ∧ q z) := by
  refine ct_intro (by decide +kernel) (Nat.le_of_ble_eq_true rfl) (fun c C r hin => ?_)
  have C : Cx c cX3_init 1 RX3 g l { frames := 2, cells := 3, slots := 40, locals := 23 } := C
  refine x_sub [0] (lv' := [(0, .ref (g.2.2.2 + o))]) rfl ?_
  unfold w_X3_init at hw
  refine x_aload_n C dX3_init_0 rfl rfl ?_
  refine k_objInit C oi_X3 oi_inst oi_code (Nat.le_of_ble_eq_true rfl) (Nat.le_of_ble_eq_true rfl) (Nat.le_of_ble_eq_true rfl) dX3_init_1 ?_
  refine x_aload_n C dX3_init_4 rfl rfl ?_
  refine x_bipush (v := (8 : Int32)) C dX3_init_5 (by decide) ?_
  obtain ⟨M1, eM1⟩ : ∃ z : Mem, z = uN M (o + 1) := ⟨_, rfl⟩
  replace hw := hw M1 eM1
  refine k_newa (atype := .int) (N := 8) C ax_int rfl (Or.inl ⟨rfl, rfl⟩) (sx_3_1 ho) (sy_3_1 ho) (by decide) (by decide) (by decide +kernel) ⟨Nat.le_of_ble_eq_true rfl, Nat.le_of_ble_eq_true rfl⟩ eM1 dX3_init_7 ?_
  refine x_kap (κ' := ((o + 2), 1, 8)) rfl ?_
  clear eM1
  obtain ⟨M2, eM2⟩ : ∃ z : Mem, z = uR M1 o 0 (some (o + 1)) := ⟨_, rfl⟩
  replace hw := hw M2 eM2
  refine k_putFR C hin ff_X3_9 (by show o < (o + 2); omega) ho (fun _ _ => rfl) (fun _ => rfl) (fun _ => rfl) eM2 dX3_init_9 ?_
  clear eM2
  try clear M1
  refine x_aload_n C dX3_init_12 rfl rfl ?_
  refine x_iconst (v := (4 : Int32)) C dX3_init_13 (by decide) ?_
  obtain ⟨M3, eM3⟩ : ∃ z : Mem, z = uI M2 o 1 (4 : Int32) := ⟨_, rfl⟩
  replace hw := hw M3 eM3
  refine k_putI C fp_X3_15 (by show o < (o + 2); omega) ho (fun _ _ => rfl) rfl rfl eM3 dX3_init_14 ?_
  clear eM3
  try clear M2
  refine x_aload_n C dX3_init_17 rfl rfl ?_
  refine x_iconst (v := (4 : Int32)) C dX3_init_18 (by decide) ?_
  obtain ⟨M4, eM4⟩ : ∃ z : Mem, z = uI M3 o 2 (4 : Int32) := ⟨_, rfl⟩
  replace hw := hw M4 eM4
  refine k_putI C fp_X3_19 (by show o < (o + 2); omega) ho (fun _ _ => rfl) rfl rfl eM4 dX3_init_19 ?_
  clear eM4
  try clear M3
  refine x_aload_n C dX3_init_22 rfl rfl ?_
  refine x_bipush (v := (10 : Int32)) C dX3_init_23 (by decide) ?_
  obtain ⟨M5, eM5⟩ : ∃ z : Mem, z = uI M4 o 3 (10 : Int32) := ⟨_, rfl⟩
  replace hw := hw M5 eM5
  refine k_putI C fp_X3_22 (by show o < (o + 2); omega) ho (fun _ _ => rfl) rfl rfl eM5 dX3_init_25 ?_
  clear eM5
  try clear M4
  refine x_aload_n C dX3_init_28 rfl rfl ?_
  refine x_bipush (v := (16 : Int32)) C dX3_init_29 (by decide) ?_
  obtain ⟨M6, eM6⟩ : ∃ z : Mem, z = uN M5 (o + 2) := ⟨_, rfl⟩
  replace hw := hw M6 eM6
  refine k_newa (atype := .int) (N := 16) C ax_int rfl (Or.inl ⟨rfl, rfl⟩) (sx_3_2 ho) (sy_3_2 ho) (by decide) (by decide) (by decide +kernel) ⟨Nat.le_of_ble_eq_true rfl, Nat.le_of_ble_eq_true rfl⟩ eM6 dX3_init_31 ?_
  refine x_kap (κ' := ((o + 3), 2, 24)) rfl ?_
  clear eM6
  try clear M5
  obtain ⟨M7, eM7⟩ : ∃ z : Mem, z = uR M6 o 4 (some (o + 2)) := ⟨_, rfl⟩
  replace hw := hw M7 eM7
  refine k_putFR C hin ff_X3_25 (by show o < (o + 3); omega) ho (fun _ _ => rfl) (fun _ => rfl) (fun _ => rfl) eM7 dX3_init_33 ?_
  clear eM7
  try clear M6
  refine x_aload_n C dX3_init_36 rfl rfl ?_
  refine x_iconst (v := (4 : Int32)) C dX3_init_37 (by decide) ?_
  obtain ⟨M8, eM8⟩ : ∃ z : Mem, z = uI M7 o 5 (4 : Int32) := ⟨_, rfl⟩
  replace hw := hw M8 eM8
  refine k_putI C fp_X3_28 (by show o < (o + 3); omega) ho (fun _ _ => rfl) rfl rfl eM8 dX3_init_38 ?_
  clear eM8
  try clear M7
  refine x_aload_n C dX3_init_41 rfl rfl ?_
  refine x_iconst (v := (5 : Int32)) C dX3_init_42 (by decide) ?_
  obtain ⟨M9, eM9⟩ : ∃ z : Mem, z = uI M8 o 6 (5 : Int32) := ⟨_, rfl⟩
  replace hw := hw M9 eM9
  refine k_putI C fp_X3_31 (by show o < (o + 3); omega) ho (fun _ _ => rfl) rfl rfl eM9 dX3_init_43 ?_
  clear eM9
  try clear M8
  refine x_aload_n C dX3_init_46 rfl rfl ?_
  refine x_bipush (v := (16 : Int32)) C dX3_init_47 (by decide) ?_
  obtain ⟨M10, eM10⟩ : ∃ z : Mem, z = uN M9 (o + 3) := ⟨_, rfl⟩
  replace hw := hw M10 eM10
  refine k_newa (atype := .int) (N := 16) C ax_int rfl (Or.inl ⟨rfl, rfl⟩) (sx_3_3 ho) (sy_3_3 ho) (by decide) (by decide) (by decide +kernel) ⟨Nat.le_of_ble_eq_true rfl, Nat.le_of_ble_eq_true rfl⟩ eM10 dX3_init_49 ?_
  refine x_kap (κ' := ((o + 4), 3, 40)) rfl ?_
  clear eM10
  try clear M9
  obtain ⟨M11, eM11⟩ : ∃ z : Mem, z = uR M10 o 7 (some (o + 3)) := ⟨_, rfl⟩
  replace hw := hw M11 eM11
  refine k_putFR C hin ff_X3_34 (by show o < (o + 4); omega) ho (fun _ _ => rfl) (fun _ => rfl) (fun _ => rfl) eM11 dX3_init_51 ?_
  clear eM11
  try clear M10
  refine x_aload_n C dX3_init_54 rfl rfl ?_
  obtain ⟨h12, hw⟩ := hw
  refine k_getR C fl_X3_9 (by show o < (o + 4); omega) ho (fun _ _ => rfl) h12 dX3_init_55 ?_
  refine x_iconst (v := (1 : Int32)) C dX3_init_58 (by decide) ?_
  obtain ⟨M13, eM13⟩ : ∃ z : Mem, z = flI M11 (o + 1) 8 (1 : Int32) := ⟨_, rfl⟩
  replace hw := hw M13 eM13
  refine xg_callS (rest := []) C (ok_fillG (post := fun rv K z => rv = none ∧ K = (o + 4) ∧ M13 = z) (by show (o + 1) < (o + 4); omega) (sx_3_1 ho) (by rw [(sy_3_1 ho)]; decide) ⟨rfl, rfl, by rw [(sy_3_1 ho)]; exact eM13⟩) ms_X3_37 rfl rfl ⟨Nat.le_of_ble_eq_true rfl, Nat.le_of_ble_eq_true rfl⟩ (Nat.le_of_ble_eq_true rfl) ⟨Nat.le_of_ble_eq_true rfl, Nat.le_of_ble_eq_true rfl⟩ dX3_init_59 (fun rv K z hz => ?_)
  obtain ⟨rfl, rfl, rfl⟩ := hz
  refine x_kap (κ' := ((o + 4), 3, 40)) rfl ?_
  show X c _ _ _ [] _
  clear eM13
  try clear M11
  refine x_aload_n C dX3_init_62 rfl rfl ?_
  obtain ⟨h14, hw⟩ := hw
  refine k_getR C fl_X3_25 (by show o < (o + 4); omega) ho (fun _ _ => rfl) h14 dX3_init_63 ?_
  refine x_iconst (v := (-1 : Int32)) C dX3_init_66 (by decide) ?_
  obtain ⟨M15, eM15⟩ : ∃ z : Mem, z = flI M13 (o + 2) 16 (-1 : Int32) := ⟨_, rfl⟩
  replace hw := hw M15 eM15
  refine xg_callS (rest := []) C (ok_fillG (post := fun rv K z => rv = none ∧ K = (o + 4) ∧ M15 = z) (by show (o + 2) < (o + 4); omega) (sx_3_2 ho) (by rw [(sy_3_2 ho)]; decide) ⟨rfl, rfl, by rw [(sy_3_2 ho)]; exact eM15⟩) ms_X3_37 rfl rfl ⟨Nat.le_of_ble_eq_true rfl, Nat.le_of_ble_eq_true rfl⟩ (Nat.le_of_ble_eq_true rfl) ⟨Nat.le_of_ble_eq_true rfl, Nat.le_of_ble_eq_true rfl⟩ dX3_init_67 (fun rv K z hz => ?_)
  obtain ⟨rfl, rfl, rfl⟩ := hz
  refine x_kap (κ' := ((o + 4), 3, 40)) rfl ?_
  show X c _ _ _ [] _
  clear eM15
  try clear M13
  exact x_vreturn C r dX3_init_70 ⟨rfl, rfl, hw⟩

set_option maxRecDepth 100000 in
def w_X9_init (o : Nat) (M : Mem) (q : Mem → Prop) : Prop := ∀ M1 : Mem, M1 = uN M (o + 1) → ∀ M2 : Mem, M2 = uR M1 o 1 (some (o + 1)) → q M2
set_option maxRecDepth 100000 in
set_option maxHeartbeats 16000000 in
theorem ok_X9_init {g : Gl} {l : Launch} {o : Nat} {M : Mem} {q : Mem → Prop} (ho : sh o = .inl 9) (hw : w_X9_init o M q) : Ct g l yX9_init cX9_init 1 none 1 20 [.ref (g.2.2.2 + o)] (o + 1) 1 252 M (fun rv K z => rv = none ∧ K = (o + 2) ∧ q z) := by
  refine ct_intro (by decide +kernel) (Nat.le_of_ble_eq_true rfl) (fun c C r hin => ?_)
  have C : Cx c cX9_init 1 RX9 g l { frames := 1, cells := 1, slots := 252, locals := 20 } := C
  refine x_sub [0] (lv' := [(0, .ref (g.2.2.2 + o))]) rfl ?_
  unfold w_X9_init at hw
  refine x_aload_n C dX9_init_0 rfl rfl ?_
  refine k_objInit C oi_X9 oi_inst oi_code (Nat.le_of_ble_eq_true rfl) (Nat.le_of_ble_eq_true rfl) (Nat.le_of_ble_eq_true rfl) dX9_init_1 ?_
  refine x_aload_n C dX9_init_4 rfl rfl ?_
  refine x_sipush (v := (252 : Int32)) C dX9_init_5 (by decide) ?_
  obtain ⟨M1, eM1⟩ : ∃ z : Mem, z = uN M (o + 1) := ⟨_, rfl⟩
  replace hw := hw M1 eM1
  refine k_newa (atype := .int) (N := 252) C ax_int rfl (Or.inl ⟨rfl, rfl⟩) (sx_9_1 ho) (sy_9_1 ho) (by decide) (by decide) (by decide +kernel) ⟨Nat.le_of_ble_eq_true rfl, Nat.le_of_ble_eq_true rfl⟩ eM1 dX9_init_8 ?_
  refine x_kap (κ' := ((o + 2), 1, 252)) rfl ?_
  clear eM1
  obtain ⟨M2, eM2⟩ : ∃ z : Mem, z = uR M1 o 1 (some (o + 1)) := ⟨_, rfl⟩
  replace hw := hw M2 eM2
  refine k_putFR C hin ff_X9_11 (by show o < (o + 2); omega) ho (fun _ _ => rfl) (fun _ => rfl) (fun _ => rfl) eM2 dX9_init_10 ?_
  clear eM2
  try clear M1
  exact x_vreturn C r dX9_init_13 ⟨rfl, rfl, hw⟩

set_option maxRecDepth 100000 in
def w_X6_init (o : Nat) (M : Mem) (q : Mem → Prop) : Prop := ∀ M1 : Mem, M1 = uN M (o + 1) → ∀ M2 : Mem, M2 = uR M1 o 1 (some (o + 1)) → ∀ M3 : Mem, M3 = uN M2 (o + 2) → ∀ M4 : Mem, M4 = uR M3 o 2 (some (o + 2)) → ∀ M5 : Mem, M5 = uN M4 (o + 3) → ∀ M6 : Mem, M6 = uR M5 o 4 (some (o + 3)) → ∀ M7 : Mem, M7 = uN M6 (o + 4) → ∀ M8 : Mem, M8 = uR M7 o 5 (some (o + 4)) → ∀ M9 : Mem, M9 = uN M8 (o + 5) → ∀ M10 : Mem, M10 = uR M9 o 6 (some (o + 5)) → ∀ M11 : Mem, M11 = uN M10 (o + 6) → ∀ M12 : Mem, M12 = uR M11 o 8 (some (o + 6)) → ∀ M13 : Mem, M13 = uN M12 (o + 7) → ∀ M14 : Mem, M14 = uR M13 o 9 (some (o + 7)) → ∀ M15 : Mem, M15 = uN M14 (o + 8) → ∀ M16 : Mem, M16 = uR M15 o 11 (some (o + 8)) → q M16
set_option maxRecDepth 100000 in
set_option maxHeartbeats 16000000 in
theorem ok_X6_init {g : Gl} {l : Launch} {o : Nat} {M : Mem} {q : Mem → Prop} (ho : sh o = .inl 6) (hw : w_X6_init o M q) : Ct g l yX6_init cX6_init 1 none 1 20 [.ref (g.2.2.2 + o)] (o + 1) 8 1106 M (fun rv K z => rv = none ∧ K = (o + 9) ∧ q z) := by
  refine ct_intro (by decide +kernel) (Nat.le_of_ble_eq_true rfl) (fun c C r hin => ?_)
  have C : Cx c cX6_init 1 RX6 g l { frames := 1, cells := 8, slots := 1106, locals := 20 } := C
  refine x_sub [0] (lv' := [(0, .ref (g.2.2.2 + o))]) rfl ?_
  unfold w_X6_init at hw
  refine x_aload_n C dX6_init_0 rfl rfl ?_
  refine k_objInit C oi_X6 oi_inst oi_code (Nat.le_of_ble_eq_true rfl) (Nat.le_of_ble_eq_true rfl) (Nat.le_of_ble_eq_true rfl) dX6_init_1 ?_
  refine x_aload_n C dX6_init_4 rfl rfl ?_
  refine x_bipush (v := (6 : Int32)) C dX6_init_5 (by decide) ?_
  obtain ⟨M1, eM1⟩ : ∃ z : Mem, z = uN M (o + 1) := ⟨_, rfl⟩
  replace hw := hw M1 eM1
  refine k_newa (atype := .int) (N := 6) C ax_int rfl (Or.inl ⟨rfl, rfl⟩) (sx_6_1 ho) (sy_6_1 ho) (by decide) (by decide) (by decide +kernel) ⟨Nat.le_of_ble_eq_true rfl, Nat.le_of_ble_eq_true rfl⟩ eM1 dX6_init_7 ?_
  refine x_kap (κ' := ((o + 2), 1, 6)) rfl ?_
  clear eM1
  obtain ⟨M2, eM2⟩ : ∃ z : Mem, z = uR M1 o 1 (some (o + 1)) := ⟨_, rfl⟩
  replace hw := hw M2 eM2
  refine k_putFR C hin ff_X6_9 (by show o < (o + 2); omega) ho (fun _ _ => rfl) (fun _ => rfl) (fun _ => rfl) eM2 dX6_init_9 ?_
  clear eM2
  try clear M1
  refine x_aload_n C dX6_init_12 rfl rfl ?_
  refine x_sipush (v := (960 : Int32)) C dX6_init_13 (by decide) ?_
  obtain ⟨M3, eM3⟩ : ∃ z : Mem, z = uN M2 (o + 2) := ⟨_, rfl⟩
  replace hw := hw M3 eM3
  refine k_newa (atype := .int) (N := 960) C ax_int rfl (Or.inl ⟨rfl, rfl⟩) (sx_6_2 ho) (sy_6_2 ho) (by decide) (by decide) (by decide +kernel) ⟨Nat.le_of_ble_eq_true rfl, Nat.le_of_ble_eq_true rfl⟩ eM3 dX6_init_16 ?_
  refine x_kap (κ' := ((o + 3), 2, 966)) rfl ?_
  clear eM3
  try clear M2
  obtain ⟨M4, eM4⟩ : ∃ z : Mem, z = uR M3 o 2 (some (o + 2)) := ⟨_, rfl⟩
  replace hw := hw M4 eM4
  refine k_putFR C hin ff_X6_15 (by show o < (o + 3); omega) ho (fun _ _ => rfl) (fun _ => rfl) (fun _ => rfl) eM4 dX6_init_18 ?_
  clear eM4
  try clear M3
  refine x_aload_n C dX6_init_21 rfl rfl ?_
  refine x_bipush (v := (10 : Int32)) C dX6_init_22 (by decide) ?_
  obtain ⟨M5, eM5⟩ : ∃ z : Mem, z = uN M4 (o + 3) := ⟨_, rfl⟩
  replace hw := hw M5 eM5
  refine k_newa (atype := .int) (N := 10) C ax_int rfl (Or.inl ⟨rfl, rfl⟩) (sx_6_3 ho) (sy_6_3 ho) (by decide) (by decide) (by decide +kernel) ⟨Nat.le_of_ble_eq_true rfl, Nat.le_of_ble_eq_true rfl⟩ eM5 dX6_init_24 ?_
  refine x_kap (κ' := ((o + 4), 3, 976)) rfl ?_
  clear eM5
  try clear M4
  obtain ⟨M6, eM6⟩ : ∃ z : Mem, z = uR M5 o 4 (some (o + 3)) := ⟨_, rfl⟩
  replace hw := hw M6 eM6
  refine k_putFR C hin ff_X6_18 (by show o < (o + 4); omega) ho (fun _ _ => rfl) (fun _ => rfl) (fun _ => rfl) eM6 dX6_init_26 ?_
  clear eM6
  try clear M5
  refine x_aload_n C dX6_init_29 rfl rfl ?_
  refine x_bipush (v := (10 : Int32)) C dX6_init_30 (by decide) ?_
  obtain ⟨M7, eM7⟩ : ∃ z : Mem, z = uN M6 (o + 4) := ⟨_, rfl⟩
  replace hw := hw M7 eM7
  refine k_newa (atype := .int) (N := 10) C ax_int rfl (Or.inl ⟨rfl, rfl⟩) (sx_6_4 ho) (sy_6_4 ho) (by decide) (by decide) (by decide +kernel) ⟨Nat.le_of_ble_eq_true rfl, Nat.le_of_ble_eq_true rfl⟩ eM7 dX6_init_32 ?_
  refine x_kap (κ' := ((o + 5), 4, 986)) rfl ?_
  clear eM7
  try clear M6
  obtain ⟨M8, eM8⟩ : ∃ z : Mem, z = uR M7 o 5 (some (o + 4)) := ⟨_, rfl⟩
  replace hw := hw M8 eM8
  refine k_putFR C hin ff_X6_21 (by show o < (o + 5); omega) ho (fun _ _ => rfl) (fun _ => rfl) (fun _ => rfl) eM8 dX6_init_34 ?_
  clear eM8
  try clear M7
  refine x_aload_n C dX6_init_37 rfl rfl ?_
  refine x_bipush (v := (40 : Int32)) C dX6_init_38 (by decide) ?_
  obtain ⟨M9, eM9⟩ : ∃ z : Mem, z = uN M8 (o + 5) := ⟨_, rfl⟩
  replace hw := hw M9 eM9
  refine k_newa (atype := .int) (N := 40) C ax_int rfl (Or.inl ⟨rfl, rfl⟩) (sx_6_5 ho) (sy_6_5 ho) (by decide) (by decide) (by decide +kernel) ⟨Nat.le_of_ble_eq_true rfl, Nat.le_of_ble_eq_true rfl⟩ eM9 dX6_init_40 ?_
  refine x_kap (κ' := ((o + 6), 5, 1026)) rfl ?_
  clear eM9
  try clear M8
  obtain ⟨M10, eM10⟩ : ∃ z : Mem, z = uR M9 o 6 (some (o + 5)) := ⟨_, rfl⟩
  replace hw := hw M10 eM10
  refine k_putFR C hin ff_X6_24 (by show o < (o + 6); omega) ho (fun _ _ => rfl) (fun _ => rfl) (fun _ => rfl) eM10 dX6_init_42 ?_
  clear eM10
  try clear M9
  refine x_aload_n C dX6_init_45 rfl rfl ?_
  refine x_bipush (v := (24 : Int32)) C dX6_init_46 (by decide) ?_
  obtain ⟨M11, eM11⟩ : ∃ z : Mem, z = uN M10 (o + 6) := ⟨_, rfl⟩
  replace hw := hw M11 eM11
  refine k_newa (atype := .int) (N := 24) C ax_int rfl (Or.inl ⟨rfl, rfl⟩) (sx_6_6 ho) (sy_6_6 ho) (by decide) (by decide) (by decide +kernel) ⟨Nat.le_of_ble_eq_true rfl, Nat.le_of_ble_eq_true rfl⟩ eM11 dX6_init_48 ?_
  refine x_kap (κ' := ((o + 7), 6, 1050)) rfl ?_
  clear eM11
  try clear M10
  obtain ⟨M12, eM12⟩ : ∃ z : Mem, z = uR M11 o 8 (some (o + 6)) := ⟨_, rfl⟩
  replace hw := hw M12 eM12
  refine k_putFR C hin ff_X6_27 (by show o < (o + 7); omega) ho (fun _ _ => rfl) (fun _ => rfl) (fun _ => rfl) eM12 dX6_init_50 ?_
  clear eM12
  try clear M11
  refine x_aload_n C dX6_init_53 rfl rfl ?_
  refine x_bipush (v := (24 : Int32)) C dX6_init_54 (by decide) ?_
  obtain ⟨M13, eM13⟩ : ∃ z : Mem, z = uN M12 (o + 7) := ⟨_, rfl⟩
  replace hw := hw M13 eM13
  refine k_newa (atype := .int) (N := 24) C ax_int rfl (Or.inl ⟨rfl, rfl⟩) (sx_6_7 ho) (sy_6_7 ho) (by decide) (by decide) (by decide +kernel) ⟨Nat.le_of_ble_eq_true rfl, Nat.le_of_ble_eq_true rfl⟩ eM13 dX6_init_56 ?_
  refine x_kap (κ' := ((o + 8), 7, 1074)) rfl ?_
  clear eM13
  try clear M12
  obtain ⟨M14, eM14⟩ : ∃ z : Mem, z = uR M13 o 9 (some (o + 7)) := ⟨_, rfl⟩
  replace hw := hw M14 eM14
  refine k_putFR C hin ff_X6_30 (by show o < (o + 8); omega) ho (fun _ _ => rfl) (fun _ => rfl) (fun _ => rfl) eM14 dX6_init_58 ?_
  clear eM14
  try clear M13
  refine x_aload_n C dX6_init_61 rfl rfl ?_
  refine x_bipush (v := (32 : Int32)) C dX6_init_62 (by decide) ?_
  obtain ⟨M15, eM15⟩ : ∃ z : Mem, z = uN M14 (o + 8) := ⟨_, rfl⟩
  replace hw := hw M15 eM15
  refine k_newa (atype := .int) (N := 32) C ax_int rfl (Or.inl ⟨rfl, rfl⟩) (sx_6_8 ho) (sy_6_8 ho) (by decide) (by decide) (by decide +kernel) ⟨Nat.le_of_ble_eq_true rfl, Nat.le_of_ble_eq_true rfl⟩ eM15 dX6_init_64 ?_
  refine x_kap (κ' := ((o + 9), 8, 1106)) rfl ?_
  clear eM15
  try clear M14
  obtain ⟨M16, eM16⟩ : ∃ z : Mem, z = uR M15 o 11 (some (o + 8)) := ⟨_, rfl⟩
  replace hw := hw M16 eM16
  refine k_putFR C hin ff_X6_33 (by show o < (o + 9); omega) ho (fun _ _ => rfl) (fun _ => rfl) (fun _ => rfl) eM16 dX6_init_66 ?_
  clear eM16
  try clear M15
  exact x_vreturn C r dX6_init_69 ⟨rfl, rfl, hw⟩

set_option maxRecDepth 100000 in
def w_X8_init (o : Nat) (M : Mem) (q : Mem → Prop) : Prop := ∀ M1 : Mem, M1 = uN M (o + 1) → w_X6_init (o + 1) M1 (fun (M2 : Mem) => ∀ M3 : Mem, M3 = uR M2 o 0 (some (o + 1)) → ∀ M4 : Mem, M4 = uN M3 (o + 10) → ∀ M5 : Mem, M5 = uR M4 o 1 (some (o + 10)) → ∀ M6 : Mem, M6 = uN M5 (o + 11) → w_X5_init (o + 11) M6 (fun (M7 : Mem) => ∀ M8 : Mem, M8 = uR M7 o 2 (some (o + 11)) → ∀ M9 : Mem, M9 = uN M8 (o + 14) → ∀ M10 : Mem, M10 = uR M9 o 3 (some (o + 14)) → ∀ M11 : Mem, M11 = uN M10 (o + 15) → ∀ M12 : Mem, M12 = uR M11 o 5 (some (o + 15)) → M12.2.2 o 1 = some (o + 10) ∧ ∀ M14 : Mem, M14 = uN M12 (o + 16) → w_X3_init (o + 16) M14 (fun (M15 : Mem) => ∀ M16 : Mem, M16 = uR M15 (o + 10) 0 (some (o + 16)) → M16.2.2 o 1 = some (o + 10) ∧ ∀ M18 : Mem, M18 = uN M16 (o + 20) → w_X3_init (o + 20) M18 (fun (M19 : Mem) => ∀ M20 : Mem, M20 = uR M19 (o + 10) 1 (some (o + 20)) → M20.2.2 o 1 = some (o + 10) ∧ ∀ M22 : Mem, M22 = uN M20 (o + 24) → w_X3_init (o + 24) M22 (fun (M23 : Mem) => ∀ M24 : Mem, M24 = uR M23 (o + 10) 2 (some (o + 24)) → M24.2.2 o 1 = some (o + 10) ∧ ∀ M26 : Mem, M26 = uN M24 (o + 28) → w_X3_init (o + 28) M26 (fun (M27 : Mem) => ∀ M28 : Mem, M28 = uR M27 (o + 10) 3 (some (o + 28)) → q M28))))))
set_option maxRecDepth 100000 in
set_option maxHeartbeats 16000000 in
theorem ok_X8_init {g : Gl} {l : Launch} {o : Nat} {M : Mem} {q : Mem → Prop} (ho : sh o = .inl 8) (hw : w_X8_init o M q) : Ct g l yX8_init cX8_init 2 none 3 43 [.ref (g.2.2.2 + o)] (o + 1) 31 4200 M (fun rv K z => rv = none ∧ K = (o + 32) ∧ q z) := by
  refine ct_intro (by decide +kernel) (Nat.le_of_ble_eq_true rfl) (fun c C r hin => ?_)
  have C : Cx c cX8_init 2 RX8 g l { frames := 3, cells := 31, slots := 4200, locals := 43 } := C
  refine x_sub [0] (lv' := [(0, .ref (g.2.2.2 + o))]) rfl ?_
  unfold w_X8_init at hw
  refine x_aload_n C dX8_init_0 rfl rfl ?_
  refine k_objInit C oi_X8 oi_inst oi_code (Nat.le_of_ble_eq_true rfl) (Nat.le_of_ble_eq_true rfl) (Nat.le_of_ble_eq_true rfl) dX8_init_1 ?_
  refine x_aload_n C dX8_init_4 rfl rfl ?_
  obtain ⟨M1, eM1⟩ : ∃ z : Mem, z = uN M (o + 1) := ⟨_, rfl⟩
  replace hw := hw M1 eM1
  refine k_new C ci_6 (sx_8_1 ho) (by decide +kernel) cl_X8_9 nw_6 in_6 ⟨Nat.le_of_ble_eq_true rfl, Nat.le_of_ble_eq_true rfl⟩ eM1 dX8_init_5 ?_
  refine x_kap (κ' := ((o + 2), 1, 12)) rfl ?_
  clear eM1
  refine x_dup C dX8_init_8 rfl ?_
  refine k_callIN C (ok_X6_init (sx_8_1 ho) hw) mi_X8_11 ⟨Nat.le_of_ble_eq_true rfl, Nat.le_of_ble_eq_true rfl⟩ (Nat.le_of_ble_eq_true rfl) ⟨Nat.le_of_ble_eq_true rfl, Nat.le_of_ble_eq_true rfl⟩ dX8_init_9 (fun rv KK M2 hw => ?_)
  obtain ⟨rfl, rfl, hw⟩ := hw
  refine x_kap (κ' := ((o + 10), 9, 1118)) rfl ?_
  show X c _ _ _ [.ref (g.2.2.2 + (o + 1)), .ref (g.2.2.2 + o)] _
  try clear M1
  obtain ⟨M3, eM3⟩ : ∃ z : Mem, z = uR M2 o 0 (some (o + 1)) := ⟨_, rfl⟩
  replace hw := hw M3 eM3
  refine k_putFR C hin ff_X8_12 (by show o < (o + 10); omega) ho (fun _ _ => rfl) (fun _ => rfl) (fun _ => rfl) eM3 dX8_init_12 ?_
  clear eM3
  try clear M2
  refine x_aload_n C dX8_init_15 rfl rfl ?_
  refine x_iconst (v := (4 : Int32)) C dX8_init_16 (by decide) ?_
  obtain ⟨M4, eM4⟩ : ∃ z : Mem, z = uN M3 (o + 10) := ⟨_, rfl⟩
  replace hw := hw M4 eM4
  refine k_newq (N := 4) C cl_X8_18 (Or.inl ⟨rfl, rfl⟩) (sx_8_10 ho) (sy_8_10 ho) (by decide) (by decide) (by decide) ⟨Nat.le_of_ble_eq_true rfl, Nat.le_of_ble_eq_true rfl⟩ eM4 dX8_init_17 ?_
  refine x_kap (κ' := ((o + 11), 10, 1122)) rfl ?_
  clear eM4
  try clear M3
  obtain ⟨M5, eM5⟩ : ∃ z : Mem, z = uR M4 o 1 (some (o + 10)) := ⟨_, rfl⟩
  replace hw := hw M5 eM5
  refine k_putFR C hin ff_X8_20 (by show o < (o + 11); omega) ho (fun _ _ => rfl) (fun _ => rfl) (fun _ => rfl) eM5 dX8_init_20 ?_
  clear eM5
  try clear M4
  refine x_aload_n C dX8_init_23 rfl rfl ?_
  obtain ⟨M6, eM6⟩ : ∃ z : Mem, z = uN M5 (o + 11) := ⟨_, rfl⟩
  replace hw := hw M6 eM6
  refine k_new C ci_5 (sx_8_11 ho) (by decide +kernel) cl_X8_24 nw_5 in_5 ⟨Nat.le_of_ble_eq_true rfl, Nat.le_of_ble_eq_true rfl⟩ eM6 dX8_init_24 ?_
  refine x_kap (κ' := ((o + 12), 11, 1128)) rfl ?_
  clear eM6
  try clear M5
  refine x_dup C dX8_init_27 rfl ?_
  refine k_callIN C (ok_X5_init (sx_8_11 ho) hw) mi_X8_26 ⟨Nat.le_of_ble_eq_true rfl, Nat.le_of_ble_eq_true rfl⟩ (Nat.le_of_ble_eq_true rfl) ⟨Nat.le_of_ble_eq_true rfl, Nat.le_of_ble_eq_true rfl⟩ dX8_init_28 (fun rv KK M7 hw => ?_)
  obtain ⟨rfl, rfl, hw⟩ := hw
  refine x_kap (κ' := ((o + 14), 13, 1152)) rfl ?_
  show X c _ _ _ [.ref (g.2.2.2 + (o + 11)), .ref (g.2.2.2 + o)] _
  try clear M6
  obtain ⟨M8, eM8⟩ : ∃ z : Mem, z = uR M7 o 2 (some (o + 11)) := ⟨_, rfl⟩
  replace hw := hw M8 eM8
  refine k_putFR C hin ff_X8_27 (by show o < (o + 14); omega) ho (fun _ _ => rfl) (fun _ => rfl) (fun _ => rfl) eM8 dX8_init_31 ?_
  clear eM8
  try clear M7
  refine x_aload_n C dX8_init_34 rfl rfl ?_
  refine x_sipush (v := (2800 : Int32)) C dX8_init_35 (by decide) ?_
  obtain ⟨M9, eM9⟩ : ∃ z : Mem, z = uN M8 (o + 14) := ⟨_, rfl⟩
  replace hw := hw M9 eM9
  refine k_newa (atype := .int) (N := 2800) C ax_int rfl (Or.inl ⟨rfl, rfl⟩) (sx_8_14 ho) (sy_8_14 ho) (by decide) (by decide) (by decide +kernel) ⟨Nat.le_of_ble_eq_true rfl, Nat.le_of_ble_eq_true rfl⟩ eM9 dX8_init_38 ?_
  refine x_kap (κ' := ((o + 15), 14, 3952)) rfl ?_
  clear eM9
  try clear M8
  obtain ⟨M10, eM10⟩ : ∃ z : Mem, z = uR M9 o 3 (some (o + 14)) := ⟨_, rfl⟩
  replace hw := hw M10 eM10
  refine k_putFR C hin ff_X8_31 (by show o < (o + 15); omega) ho (fun _ _ => rfl) (fun _ => rfl) (fun _ => rfl) eM10 dX8_init_40 ?_
  clear eM10
  try clear M9
  refine x_aload_n C dX8_init_43 rfl rfl ?_
  refine x_bipush (v := (40 : Int32)) C dX8_init_44 (by decide) ?_
  obtain ⟨M11, eM11⟩ : ∃ z : Mem, z = uN M10 (o + 15) := ⟨_, rfl⟩
  replace hw := hw M11 eM11
  refine k_newa (atype := .int) (N := 40) C ax_int rfl (Or.inl ⟨rfl, rfl⟩) (sx_8_15 ho) (sy_8_15 ho) (by decide) (by decide) (by decide +kernel) ⟨Nat.le_of_ble_eq_true rfl, Nat.le_of_ble_eq_true rfl⟩ eM11 dX8_init_46 ?_
  refine x_kap (κ' := ((o + 16), 15, 3992)) rfl ?_
  clear eM11
  try clear M10
  obtain ⟨M12, eM12⟩ : ∃ z : Mem, z = uR M11 o 5 (some (o + 15)) := ⟨_, rfl⟩
  replace hw := hw M12 eM12
  refine k_putFR C hin ff_X8_35 (by show o < (o + 16); omega) ho (fun _ _ => rfl) (fun _ => rfl) (fun _ => rfl) eM12 dX8_init_48 ?_
  clear eM12
  try clear M11
  refine x_iconst (v := (0 : Int32)) C dX8_init_51 (by decide) ?_
  refine x_istore_n C dX8_init_52 rfl (Nat.le_of_ble_eq_true rfl) ?_
  refine x_sub [0, 1] (lv' := [(0, .ref (g.2.2.2 + o)), (1, .int (0 : Int32))]) rfl ?_
  refine x_iload_n C dX8_init_53 rfl rfl ?_
  refine x_iconst (v := (4 : Int32)) C dX8_init_54 (by decide) ?_
  refine x_icmp_ge (tgt := 77) C dX8_init_55 (by decide) (fun h => absurd h (by decide)) (fun _ => ?_)
  refine x_aload_n C dX8_init_58 rfl rfl ?_
  obtain ⟨h13, hw⟩ := hw
  refine k_getR C fl_X8_20 (by show o < (o + 16); omega) ho (fun _ _ => rfl) h13 dX8_init_59 ?_
  refine x_iload_n C dX8_init_62 rfl rfl ?_
  obtain ⟨M14, eM14⟩ : ∃ z : Mem, z = uN M12 (o + 16) := ⟨_, rfl⟩
  replace hw := hw M14 eM14
  refine k_new C ci_3 (sx_8_16 ho) (by decide +kernel) cl_X8_18 nw_3 in_3 ⟨Nat.le_of_ble_eq_true rfl, Nat.le_of_ble_eq_true rfl⟩ eM14 dX8_init_63 ?_
  refine x_kap (κ' := ((o + 17), 16, 4004)) rfl ?_
  clear eM14
  try clear M12
  refine x_dup C dX8_init_66 rfl ?_
  refine k_callI C (ok_X3_init (sx_8_16 ho) hw) mi_X8_38 ⟨Nat.le_of_ble_eq_true rfl, Nat.le_of_ble_eq_true rfl⟩ (Nat.le_of_ble_eq_true rfl) ⟨Nat.le_of_ble_eq_true rfl, Nat.le_of_ble_eq_true rfl⟩ dX8_init_67 (fun rv KK M15 hw => ?_)
  obtain ⟨rfl, rfl, hw⟩ := hw
  refine x_kap (κ' := ((o + 20), 19, 4044)) rfl ?_
  show X c _ _ _ [.ref (g.2.2.2 + (o + 16)), .int (0 : Int32), .ref (g.2.2.2 + (o + 10))] _
  try clear M14
  obtain ⟨M16, eM16⟩ : ∃ z : Mem, z = uR M15 (o + 10) 0 (some (o + 16)) := ⟨_, rfl⟩
  replace hw := hw M16 eM16
  refine k_aast (ni := 0) (r := (RX3, TX3, 12)) C (by show (o + 10) < (o + 20); omega) (by show (o + 16) < (o + 20); omega) (Or.inl ⟨rfl, rfl⟩) (sx_8_10 ho) (sx_8_16 ho) rfl (by decide) (by rw [(sy_8_10 ho)]; exact vin _ _ (by decide +kernel)) eM16 dX8_init_70 ?_
  clear eM16
  try clear M15
  refine x_iinc (v := (1 : Int32)) C dX8_init_71 rfl (by decide) (Nat.le_of_ble_eq_true rfl) ?_
  refine x_sub [0, 1] (lv' := [(0, .ref (g.2.2.2 + o)), (1, .int (1 : Int32))]) rfl ?_
  refine x_goto (tgt := 53) C dX8_init_74 (by decide) ?_
  refine x_iload_n C dX8_init_53 rfl rfl ?_
  refine x_iconst (v := (4 : Int32)) C dX8_init_54 (by decide) ?_
  refine x_icmp_ge (tgt := 77) C dX8_init_55 (by decide) (fun h => absurd h (by decide)) (fun _ => ?_)
  refine x_aload_n C dX8_init_58 rfl rfl ?_
  obtain ⟨h17, hw⟩ := hw
  refine k_getR C fl_X8_20 (by show o < (o + 20); omega) ho (fun _ _ => rfl) h17 dX8_init_59 ?_
  refine x_iload_n C dX8_init_62 rfl rfl ?_
  obtain ⟨M18, eM18⟩ : ∃ z : Mem, z = uN M16 (o + 20) := ⟨_, rfl⟩
  replace hw := hw M18 eM18
  refine k_new C ci_3 (sx_8_20 ho) (by decide +kernel) cl_X8_18 nw_3 in_3 ⟨Nat.le_of_ble_eq_true rfl, Nat.le_of_ble_eq_true rfl⟩ eM18 dX8_init_63 ?_
  refine x_kap (κ' := ((o + 21), 20, 4056)) rfl ?_
  clear eM18
  try clear M16
  refine x_dup C dX8_init_66 rfl ?_
  refine k_callI C (ok_X3_init (sx_8_20 ho) hw) mi_X8_38 ⟨Nat.le_of_ble_eq_true rfl, Nat.le_of_ble_eq_true rfl⟩ (Nat.le_of_ble_eq_true rfl) ⟨Nat.le_of_ble_eq_true rfl, Nat.le_of_ble_eq_true rfl⟩ dX8_init_67 (fun rv KK M19 hw => ?_)
  obtain ⟨rfl, rfl, hw⟩ := hw
  refine x_kap (κ' := ((o + 24), 23, 4096)) rfl ?_
  show X c _ _ _ [.ref (g.2.2.2 + (o + 20)), .int (1 : Int32), .ref (g.2.2.2 + (o + 10))] _
  try clear M18
  obtain ⟨M20, eM20⟩ : ∃ z : Mem, z = uR M19 (o + 10) 1 (some (o + 20)) := ⟨_, rfl⟩
  replace hw := hw M20 eM20
  refine k_aast (ni := 1) (r := (RX3, TX3, 12)) C (by show (o + 10) < (o + 24); omega) (by show (o + 20) < (o + 24); omega) (Or.inl ⟨rfl, rfl⟩) (sx_8_10 ho) (sx_8_20 ho) rfl (by decide) (by rw [(sy_8_10 ho)]; exact vin _ _ (by decide +kernel)) eM20 dX8_init_70 ?_
  clear eM20
  try clear M19
  refine x_iinc (v := (2 : Int32)) C dX8_init_71 rfl (by decide) (Nat.le_of_ble_eq_true rfl) ?_
  refine x_sub [0, 1] (lv' := [(0, .ref (g.2.2.2 + o)), (1, .int (2 : Int32))]) rfl ?_
  refine x_goto (tgt := 53) C dX8_init_74 (by decide) ?_
  refine x_iload_n C dX8_init_53 rfl rfl ?_
  refine x_iconst (v := (4 : Int32)) C dX8_init_54 (by decide) ?_
  refine x_icmp_ge (tgt := 77) C dX8_init_55 (by decide) (fun h => absurd h (by decide)) (fun _ => ?_)
  refine x_aload_n C dX8_init_58 rfl rfl ?_
  obtain ⟨h21, hw⟩ := hw
  refine k_getR C fl_X8_20 (by show o < (o + 24); omega) ho (fun _ _ => rfl) h21 dX8_init_59 ?_
  refine x_iload_n C dX8_init_62 rfl rfl ?_
  obtain ⟨M22, eM22⟩ : ∃ z : Mem, z = uN M20 (o + 24) := ⟨_, rfl⟩
  replace hw := hw M22 eM22
  refine k_new C ci_3 (sx_8_24 ho) (by decide +kernel) cl_X8_18 nw_3 in_3 ⟨Nat.le_of_ble_eq_true rfl, Nat.le_of_ble_eq_true rfl⟩ eM22 dX8_init_63 ?_
  refine x_kap (κ' := ((o + 25), 24, 4108)) rfl ?_
  clear eM22
  try clear M20
  refine x_dup C dX8_init_66 rfl ?_
  refine k_callI C (ok_X3_init (sx_8_24 ho) hw) mi_X8_38 ⟨Nat.le_of_ble_eq_true rfl, Nat.le_of_ble_eq_true rfl⟩ (Nat.le_of_ble_eq_true rfl) ⟨Nat.le_of_ble_eq_true rfl, Nat.le_of_ble_eq_true rfl⟩ dX8_init_67 (fun rv KK M23 hw => ?_)
  obtain ⟨rfl, rfl, hw⟩ := hw
  refine x_kap (κ' := ((o + 28), 27, 4148)) rfl ?_
  show X c _ _ _ [.ref (g.2.2.2 + (o + 24)), .int (2 : Int32), .ref (g.2.2.2 + (o + 10))] _
  try clear M22
  obtain ⟨M24, eM24⟩ : ∃ z : Mem, z = uR M23 (o + 10) 2 (some (o + 24)) := ⟨_, rfl⟩
  replace hw := hw M24 eM24
  refine k_aast (ni := 2) (r := (RX3, TX3, 12)) C (by show (o + 10) < (o + 28); omega) (by show (o + 24) < (o + 28); omega) (Or.inl ⟨rfl, rfl⟩) (sx_8_10 ho) (sx_8_24 ho) rfl (by decide) (by rw [(sy_8_10 ho)]; exact vin _ _ (by decide +kernel)) eM24 dX8_init_70 ?_
  clear eM24
  try clear M23
  refine x_iinc (v := (3 : Int32)) C dX8_init_71 rfl (by decide) (Nat.le_of_ble_eq_true rfl) ?_
  refine x_sub [0, 1] (lv' := [(0, .ref (g.2.2.2 + o)), (1, .int (3 : Int32))]) rfl ?_
  refine x_goto (tgt := 53) C dX8_init_74 (by decide) ?_
  refine x_iload_n C dX8_init_53 rfl rfl ?_
  refine x_iconst (v := (4 : Int32)) C dX8_init_54 (by decide) ?_
  refine x_icmp_ge (tgt := 77) C dX8_init_55 (by decide) (fun h => absurd h (by decide)) (fun _ => ?_)
  refine x_aload_n C dX8_init_58 rfl rfl ?_
  obtain ⟨h25, hw⟩ := hw
  refine k_getR C fl_X8_20 (by show o < (o + 28); omega) ho (fun _ _ => rfl) h25 dX8_init_59 ?_
  refine x_iload_n C dX8_init_62 rfl rfl ?_
  obtain ⟨M26, eM26⟩ : ∃ z : Mem, z = uN M24 (o + 28) := ⟨_, rfl⟩
  replace hw := hw M26 eM26
  refine k_new C ci_3 (sx_8_28 ho) (by decide +kernel) cl_X8_18 nw_3 in_3 ⟨Nat.le_of_ble_eq_true rfl, Nat.le_of_ble_eq_true rfl⟩ eM26 dX8_init_63 ?_
  refine x_kap (κ' := ((o + 29), 28, 4160)) rfl ?_
  clear eM26
  try clear M24
  refine x_dup C dX8_init_66 rfl ?_
  refine k_callI C (ok_X3_init (sx_8_28 ho) hw) mi_X8_38 ⟨Nat.le_of_ble_eq_true rfl, Nat.le_of_ble_eq_true rfl⟩ (Nat.le_of_ble_eq_true rfl) ⟨Nat.le_of_ble_eq_true rfl, Nat.le_of_ble_eq_true rfl⟩ dX8_init_67 (fun rv KK M27 hw => ?_)
  obtain ⟨rfl, rfl, hw⟩ := hw
  refine x_kap (κ' := ((o + 32), 31, 4200)) rfl ?_
  show X c _ _ _ [.ref (g.2.2.2 + (o + 28)), .int (3 : Int32), .ref (g.2.2.2 + (o + 10))] _
  try clear M26
  obtain ⟨M28, eM28⟩ : ∃ z : Mem, z = uR M27 (o + 10) 3 (some (o + 28)) := ⟨_, rfl⟩
  replace hw := hw M28 eM28
  refine k_aast (ni := 3) (r := (RX3, TX3, 12)) C (by show (o + 10) < (o + 32); omega) (by show (o + 28) < (o + 32); omega) (Or.inl ⟨rfl, rfl⟩) (sx_8_10 ho) (sx_8_28 ho) rfl (by decide) (by rw [(sy_8_10 ho)]; exact vin _ _ (by decide +kernel)) eM28 dX8_init_70 ?_
  clear eM28
  try clear M27
  refine x_iinc (v := (4 : Int32)) C dX8_init_71 rfl (by decide) (Nat.le_of_ble_eq_true rfl) ?_
  refine x_sub [0, 1] (lv' := [(0, .ref (g.2.2.2 + o)), (1, .int (4 : Int32))]) rfl ?_
  refine x_goto (tgt := 53) C dX8_init_74 (by decide) ?_
  refine x_iload_n C dX8_init_53 rfl rfl ?_
  refine x_iconst (v := (4 : Int32)) C dX8_init_54 (by decide) ?_
  refine x_icmp_ge (tgt := 77) C dX8_init_55 (by decide) (fun _ => ?_) (fun h => absurd (by decide) h)
  exact x_vreturn C r dX8_init_77 ⟨rfl, rfl, hw⟩

set_option maxRecDepth 100000 in
def w_X2_init (o : Nat) (M : Mem) (q : Mem → Prop) : Prop := ∀ M1 : Mem, M1 = uN M (o + 1) → ∀ M2 : Mem, M2 = uR M1 o 0 (some (o + 1)) → ∀ M3 : Mem, M3 = uN M2 (o + 2) → ∀ M4 : Mem, M4 = uR M3 o 2 (some (o + 2)) → ∀ M5 : Mem, M5 = uN M4 (o + 3) → ∀ M6 : Mem, M6 = uR M5 o 3 (some (o + 3)) → ∀ M7 : Mem, M7 = uN M6 (o + 4) → ∀ M8 : Mem, M8 = uR M7 o 4 (some (o + 4)) → ∀ M9 : Mem, M9 = uN M8 (o + 5) → ∀ M10 : Mem, M10 = uR M9 o 5 (some (o + 5)) → ∀ M11 : Mem, M11 = uN M10 (o + 6) → ∀ M12 : Mem, M12 = uR M11 o 6 (some (o + 6)) → ∀ M13 : Mem, M13 = uN M12 (o + 7) → ∀ M14 : Mem, M14 = uR M13 o 7 (some (o + 7)) → q M14
set_option maxRecDepth 100000 in
set_option maxHeartbeats 16000000 in
theorem ok_X2_init {g : Gl} {l : Launch} {o : Nat} {M : Mem} {q : Mem → Prop} (ho : sh o = .inl 2) (hw : w_X2_init o M q) : Ct g l yX2_init cX2_init 1 none 1 20 [.ref (g.2.2.2 + o)] (o + 1) 7 1006 M (fun rv K z => rv = none ∧ K = (o + 8) ∧ q z) := by
  refine ct_intro (by decide +kernel) (Nat.le_of_ble_eq_true rfl) (fun c C r hin => ?_)
  have C : Cx c cX2_init 1 RX2 g l { frames := 1, cells := 7, slots := 1006, locals := 20 } := C
  refine x_sub [0] (lv' := [(0, .ref (g.2.2.2 + o))]) rfl ?_
  unfold w_X2_init at hw
  refine x_aload_n C dX2_init_0 rfl rfl ?_
  refine k_objInit C oi_X2 oi_inst oi_code (Nat.le_of_ble_eq_true rfl) (Nat.le_of_ble_eq_true rfl) (Nat.le_of_ble_eq_true rfl) dX2_init_1 ?_
  refine x_aload_n C dX2_init_4 rfl rfl ?_
  refine x_iconst (v := (3 : Int32)) C dX2_init_5 (by decide) ?_
  obtain ⟨M1, eM1⟩ : ∃ z : Mem, z = uN M (o + 1) := ⟨_, rfl⟩
  replace hw := hw M1 eM1
  refine k_newa (atype := .int) (N := 3) C ax_int rfl (Or.inl ⟨rfl, rfl⟩) (sx_2_1 ho) (sy_2_1 ho) (by decide) (by decide) (by decide +kernel) ⟨Nat.le_of_ble_eq_true rfl, Nat.le_of_ble_eq_true rfl⟩ eM1 dX2_init_6 ?_
  refine x_kap (κ' := ((o + 2), 1, 3)) rfl ?_
  clear eM1
  obtain ⟨M2, eM2⟩ : ∃ z : Mem, z = uR M1 o 0 (some (o + 1)) := ⟨_, rfl⟩
  replace hw := hw M2 eM2
  refine k_putFR C hin ff_X2_9 (by show o < (o + 2); omega) ho (fun _ _ => rfl) (fun _ => rfl) (fun _ => rfl) eM2 dX2_init_8 ?_
  clear eM2
  try clear M1
  refine x_aload_n C dX2_init_11 rfl rfl ?_
  refine x_iconst (v := (3 : Int32)) C dX2_init_12 (by decide) ?_
  obtain ⟨M3, eM3⟩ : ∃ z : Mem, z = uN M2 (o + 2) := ⟨_, rfl⟩
  replace hw := hw M3 eM3
  refine k_newa (atype := .int) (N := 3) C ax_int rfl (Or.inl ⟨rfl, rfl⟩) (sx_2_2 ho) (sy_2_2 ho) (by decide) (by decide) (by decide +kernel) ⟨Nat.le_of_ble_eq_true rfl, Nat.le_of_ble_eq_true rfl⟩ eM3 dX2_init_13 ?_
  refine x_kap (κ' := ((o + 3), 2, 6)) rfl ?_
  clear eM3
  try clear M2
  obtain ⟨M4, eM4⟩ : ∃ z : Mem, z = uR M3 o 2 (some (o + 2)) := ⟨_, rfl⟩
  replace hw := hw M4 eM4
  refine k_putFR C hin ff_X2_15 (by show o < (o + 3); omega) ho (fun _ _ => rfl) (fun _ => rfl) (fun _ => rfl) eM4 dX2_init_15 ?_
  clear eM4
  try clear M3
  refine x_aload_n C dX2_init_18 rfl rfl ?_
  refine x_sipush (v := (200 : Int32)) C dX2_init_19 (by decide) ?_
  obtain ⟨M5, eM5⟩ : ∃ z : Mem, z = uN M4 (o + 3) := ⟨_, rfl⟩
  replace hw := hw M5 eM5
  refine k_newa (atype := .int) (N := 200) C ax_int rfl (Or.inl ⟨rfl, rfl⟩) (sx_2_3 ho) (sy_2_3 ho) (by decide) (by decide) (by decide +kernel) ⟨Nat.le_of_ble_eq_true rfl, Nat.le_of_ble_eq_true rfl⟩ eM5 dX2_init_22 ?_
  refine x_kap (κ' := ((o + 4), 3, 206)) rfl ?_
  clear eM5
  try clear M4
  obtain ⟨M6, eM6⟩ : ∃ z : Mem, z = uR M5 o 3 (some (o + 3)) := ⟨_, rfl⟩
  replace hw := hw M6 eM6
  refine k_putFR C hin ff_X2_18 (by show o < (o + 4); omega) ho (fun _ _ => rfl) (fun _ => rfl) (fun _ => rfl) eM6 dX2_init_24 ?_
  clear eM6
  try clear M5
  refine x_aload_n C dX2_init_27 rfl rfl ?_
  refine x_sipush (v := (200 : Int32)) C dX2_init_28 (by decide) ?_
  obtain ⟨M7, eM7⟩ : ∃ z : Mem, z = uN M6 (o + 4) := ⟨_, rfl⟩
  replace hw := hw M7 eM7
  refine k_newa (atype := .int) (N := 200) C ax_int rfl (Or.inl ⟨rfl, rfl⟩) (sx_2_4 ho) (sy_2_4 ho) (by decide) (by decide) (by decide +kernel) ⟨Nat.le_of_ble_eq_true rfl, Nat.le_of_ble_eq_true rfl⟩ eM7 dX2_init_31 ?_
  refine x_kap (κ' := ((o + 5), 4, 406)) rfl ?_
  clear eM7
  try clear M6
  obtain ⟨M8, eM8⟩ : ∃ z : Mem, z = uR M7 o 4 (some (o + 4)) := ⟨_, rfl⟩
  replace hw := hw M8 eM8
  refine k_putFR C hin ff_X2_21 (by show o < (o + 5); omega) ho (fun _ _ => rfl) (fun _ => rfl) (fun _ => rfl) eM8 dX2_init_33 ?_
  clear eM8
  try clear M7
  refine x_aload_n C dX2_init_36 rfl rfl ?_
  refine x_sipush (v := (200 : Int32)) C dX2_init_37 (by decide) ?_
  obtain ⟨M9, eM9⟩ : ∃ z : Mem, z = uN M8 (o + 5) := ⟨_, rfl⟩
  replace hw := hw M9 eM9
  refine k_newa (atype := .int) (N := 200) C ax_int rfl (Or.inl ⟨rfl, rfl⟩) (sx_2_5 ho) (sy_2_5 ho) (by decide) (by decide) (by decide +kernel) ⟨Nat.le_of_ble_eq_true rfl, Nat.le_of_ble_eq_true rfl⟩ eM9 dX2_init_40 ?_
  refine x_kap (κ' := ((o + 6), 5, 606)) rfl ?_
  clear eM9
  try clear M8
  obtain ⟨M10, eM10⟩ : ∃ z : Mem, z = uR M9 o 5 (some (o + 5)) := ⟨_, rfl⟩
  replace hw := hw M10 eM10
  refine k_putFR C hin ff_X2_24 (by show o < (o + 6); omega) ho (fun _ _ => rfl) (fun _ => rfl) (fun _ => rfl) eM10 dX2_init_42 ?_
  clear eM10
  try clear M9
  refine x_aload_n C dX2_init_45 rfl rfl ?_
  refine x_sipush (v := (200 : Int32)) C dX2_init_46 (by decide) ?_
  obtain ⟨M11, eM11⟩ : ∃ z : Mem, z = uN M10 (o + 6) := ⟨_, rfl⟩
  replace hw := hw M11 eM11
  refine k_newa (atype := .int) (N := 200) C ax_int rfl (Or.inl ⟨rfl, rfl⟩) (sx_2_6 ho) (sy_2_6 ho) (by decide) (by decide) (by decide +kernel) ⟨Nat.le_of_ble_eq_true rfl, Nat.le_of_ble_eq_true rfl⟩ eM11 dX2_init_49 ?_
  refine x_kap (κ' := ((o + 7), 6, 806)) rfl ?_
  clear eM11
  try clear M10
  obtain ⟨M12, eM12⟩ : ∃ z : Mem, z = uR M11 o 6 (some (o + 6)) := ⟨_, rfl⟩
  replace hw := hw M12 eM12
  refine k_putFR C hin ff_X2_27 (by show o < (o + 7); omega) ho (fun _ _ => rfl) (fun _ => rfl) (fun _ => rfl) eM12 dX2_init_51 ?_
  clear eM12
  try clear M11
  refine x_aload_n C dX2_init_54 rfl rfl ?_
  refine x_sipush (v := (200 : Int32)) C dX2_init_55 (by decide) ?_
  obtain ⟨M13, eM13⟩ : ∃ z : Mem, z = uN M12 (o + 7) := ⟨_, rfl⟩
  replace hw := hw M13 eM13
  refine k_newa (atype := .int) (N := 200) C ax_int rfl (Or.inl ⟨rfl, rfl⟩) (sx_2_7 ho) (sy_2_7 ho) (by decide) (by decide) (by decide +kernel) ⟨Nat.le_of_ble_eq_true rfl, Nat.le_of_ble_eq_true rfl⟩ eM13 dX2_init_58 ?_
  refine x_kap (κ' := ((o + 8), 7, 1006)) rfl ?_
  clear eM13
  try clear M12
  obtain ⟨M14, eM14⟩ : ∃ z : Mem, z = uR M13 o 7 (some (o + 7)) := ⟨_, rfl⟩
  replace hw := hw M14 eM14
  refine k_putFR C hin ff_X2_30 (by show o < (o + 8); omega) ho (fun _ _ => rfl) (fun _ => rfl) (fun _ => rfl) eM14 dX2_init_60 ?_
  clear eM14
  try clear M13
  exact x_vreturn C r dX2_init_63 ⟨rfl, rfl, hw⟩

set_option maxRecDepth 100000 in
def w_X7_init (o : Nat) (M : Mem) (q : Mem → Prop) : Prop := ∀ M1 : Mem, M1 = uN M (o + 1) → ∀ M2 : Mem, M2 = uR M1 o 0 (some (o + 1)) → ∀ M3 : Mem, M3 = uN M2 (o + 2) → ∀ M4 : Mem, M4 = uR M3 o 2 (some (o + 2)) → ∀ M5 : Mem, M5 = uN M4 (o + 3) → ∀ M6 : Mem, M6 = uR M5 o 4 (some (o + 3)) → ∀ M7 : Mem, M7 = uN M6 (o + 4) → ∀ M8 : Mem, M8 = uR M7 o 5 (some (o + 4)) → ∀ M9 : Mem, M9 = uN M8 (o + 5) → ∀ M10 : Mem, M10 = uR M9 o 6 (some (o + 5)) → ∀ M11 : Mem, M11 = uN M10 (o + 6) → ∀ M12 : Mem, M12 = uR M11 o 7 (some (o + 6)) → ∀ M13 : Mem, M13 = uN M12 (o + 7) → w_X3_init (o + 7) M13 (fun (M14 : Mem) => ∀ M15 : Mem, M15 = uR M14 o 8 (some (o + 7)) → M15.2.2 o 6 = some (o + 5) ∧ ∀ M17 : Mem, M17 = uR M15 o 9 (some (o + 5)) → M17.2.2 o 7 = some (o + 6) ∧ ∀ M19 : Mem, M19 = uR M17 o 10 (some (o + 6)) → q M19)
set_option maxRecDepth 100000 in
set_option maxHeartbeats 16000000 in
theorem ok_X7_init {g : Gl} {l : Launch} {o : Nat} {M : Mem} {q : Mem → Prop} (ho : sh o = .inl 7) (hw : w_X7_init o M q) : Ct g l yX7_init cX7_init 1 none 3 43 [.ref (g.2.2.2 + o)] (o + 1) 10 322 M (fun rv K z => rv = none ∧ K = (o + 11) ∧ q z) := by
  refine ct_intro (by decide +kernel) (Nat.le_of_ble_eq_true rfl) (fun c C r hin => ?_)
  have C : Cx c cX7_init 1 RX7 g l { frames := 3, cells := 10, slots := 322, locals := 43 } := C
  refine x_sub [0] (lv' := [(0, .ref (g.2.2.2 + o))]) rfl ?_
  unfold w_X7_init at hw
  refine x_aload_n C dX7_init_0 rfl rfl ?_
  refine k_objInit C oi_X7 oi_inst oi_code (Nat.le_of_ble_eq_true rfl) (Nat.le_of_ble_eq_true rfl) (Nat.le_of_ble_eq_true rfl) dX7_init_1 ?_
  refine x_aload_n C dX7_init_4 rfl rfl ?_
  refine x_bipush (v := (6 : Int32)) C dX7_init_5 (by decide) ?_
  obtain ⟨M1, eM1⟩ : ∃ z : Mem, z = uN M (o + 1) := ⟨_, rfl⟩
  replace hw := hw M1 eM1
  refine k_newa (atype := .int) (N := 6) C ax_int rfl (Or.inl ⟨rfl, rfl⟩) (sx_7_1 ho) (sy_7_1 ho) (by decide) (by decide) (by decide +kernel) ⟨Nat.le_of_ble_eq_true rfl, Nat.le_of_ble_eq_true rfl⟩ eM1 dX7_init_7 ?_
  refine x_kap (κ' := ((o + 2), 1, 6)) rfl ?_
  clear eM1
  obtain ⟨M2, eM2⟩ : ∃ z : Mem, z = uR M1 o 0 (some (o + 1)) := ⟨_, rfl⟩
  replace hw := hw M2 eM2
  refine k_putFR C hin ff_X7_9 (by show o < (o + 2); omega) ho (fun _ _ => rfl) (fun _ => rfl) (fun _ => rfl) eM2 dX7_init_9 ?_
  clear eM2
  try clear M1
  refine x_aload_n C dX7_init_12 rfl rfl ?_
  refine x_sipush (v := (160 : Int32)) C dX7_init_13 (by decide) ?_
  obtain ⟨M3, eM3⟩ : ∃ z : Mem, z = uN M2 (o + 2) := ⟨_, rfl⟩
  replace hw := hw M3 eM3
  refine k_newa (atype := .int) (N := 160) C ax_int rfl (Or.inl ⟨rfl, rfl⟩) (sx_7_2 ho) (sy_7_2 ho) (by decide) (by decide) (by decide +kernel) ⟨Nat.le_of_ble_eq_true rfl, Nat.le_of_ble_eq_true rfl⟩ eM3 dX7_init_16 ?_
  refine x_kap (κ' := ((o + 3), 2, 166)) rfl ?_
  clear eM3
  try clear M2
  obtain ⟨M4, eM4⟩ : ∃ z : Mem, z = uR M3 o 2 (some (o + 2)) := ⟨_, rfl⟩
  replace hw := hw M4 eM4
  refine k_putFR C hin ff_X7_15 (by show o < (o + 3); omega) ho (fun _ _ => rfl) (fun _ => rfl) (fun _ => rfl) eM4 dX7_init_18 ?_
  clear eM4
  try clear M3
  refine x_aload_n C dX7_init_21 rfl rfl ?_
  refine x_bipush (v := (8 : Int32)) C dX7_init_22 (by decide) ?_
  obtain ⟨M5, eM5⟩ : ∃ z : Mem, z = uN M4 (o + 3) := ⟨_, rfl⟩
  replace hw := hw M5 eM5
  refine k_newa (atype := .int) (N := 8) C ax_int rfl (Or.inl ⟨rfl, rfl⟩) (sx_7_3 ho) (sy_7_3 ho) (by decide) (by decide) (by decide +kernel) ⟨Nat.le_of_ble_eq_true rfl, Nat.le_of_ble_eq_true rfl⟩ eM5 dX7_init_24 ?_
  refine x_kap (κ' := ((o + 4), 3, 174)) rfl ?_
  clear eM5
  try clear M4
  obtain ⟨M6, eM6⟩ : ∃ z : Mem, z = uR M5 o 4 (some (o + 3)) := ⟨_, rfl⟩
  replace hw := hw M6 eM6
  refine k_putFR C hin ff_X7_18 (by show o < (o + 4); omega) ho (fun _ _ => rfl) (fun _ => rfl) (fun _ => rfl) eM6 dX7_init_26 ?_
  clear eM6
  try clear M5
  refine x_aload_n C dX7_init_29 rfl rfl ?_
  refine x_bipush (v := (64 : Int32)) C dX7_init_30 (by decide) ?_
  obtain ⟨M7, eM7⟩ : ∃ z : Mem, z = uN M6 (o + 4) := ⟨_, rfl⟩
  replace hw := hw M7 eM7
  refine k_newa (atype := .int) (N := 64) C ax_int rfl (Or.inl ⟨rfl, rfl⟩) (sx_7_4 ho) (sy_7_4 ho) (by decide) (by decide) (by decide +kernel) ⟨Nat.le_of_ble_eq_true rfl, Nat.le_of_ble_eq_true rfl⟩ eM7 dX7_init_32 ?_
  refine x_kap (κ' := ((o + 5), 4, 238)) rfl ?_
  clear eM7
  try clear M6
  obtain ⟨M8, eM8⟩ : ∃ z : Mem, z = uR M7 o 5 (some (o + 4)) := ⟨_, rfl⟩
  replace hw := hw M8 eM8
  refine k_putFR C hin ff_X7_21 (by show o < (o + 5); omega) ho (fun _ _ => rfl) (fun _ => rfl) (fun _ => rfl) eM8 dX7_init_34 ?_
  clear eM8
  try clear M7
  refine x_aload_n C dX7_init_37 rfl rfl ?_
  refine x_bipush (v := (16 : Int32)) C dX7_init_38 (by decide) ?_
  obtain ⟨M9, eM9⟩ : ∃ z : Mem, z = uN M8 (o + 5) := ⟨_, rfl⟩
  replace hw := hw M9 eM9
  refine k_newa (atype := .int) (N := 16) C ax_int rfl (Or.inl ⟨rfl, rfl⟩) (sx_7_5 ho) (sy_7_5 ho) (by decide) (by decide) (by decide +kernel) ⟨Nat.le_of_ble_eq_true rfl, Nat.le_of_ble_eq_true rfl⟩ eM9 dX7_init_40 ?_
  refine x_kap (κ' := ((o + 6), 5, 254)) rfl ?_
  clear eM9
  try clear M8
  obtain ⟨M10, eM10⟩ : ∃ z : Mem, z = uR M9 o 6 (some (o + 5)) := ⟨_, rfl⟩
  replace hw := hw M10 eM10
  refine k_putFR C hin ff_X7_24 (by show o < (o + 6); omega) ho (fun _ _ => rfl) (fun _ => rfl) (fun _ => rfl) eM10 dX7_init_42 ?_
  clear eM10
  try clear M9
  refine x_aload_n C dX7_init_45 rfl rfl ?_
  refine x_bipush (v := (16 : Int32)) C dX7_init_46 (by decide) ?_
  obtain ⟨M11, eM11⟩ : ∃ z : Mem, z = uN M10 (o + 6) := ⟨_, rfl⟩
  replace hw := hw M11 eM11
  refine k_newa (atype := .int) (N := 16) C ax_int rfl (Or.inl ⟨rfl, rfl⟩) (sx_7_6 ho) (sy_7_6 ho) (by decide) (by decide) (by decide +kernel) ⟨Nat.le_of_ble_eq_true rfl, Nat.le_of_ble_eq_true rfl⟩ eM11 dX7_init_48 ?_
  refine x_kap (κ' := ((o + 7), 6, 270)) rfl ?_
  clear eM11
  try clear M10
  obtain ⟨M12, eM12⟩ : ∃ z : Mem, z = uR M11 o 7 (some (o + 6)) := ⟨_, rfl⟩
  replace hw := hw M12 eM12
  refine k_putFR C hin ff_X7_27 (by show o < (o + 7); omega) ho (fun _ _ => rfl) (fun _ => rfl) (fun _ => rfl) eM12 dX7_init_50 ?_
  clear eM12
  try clear M11
  refine x_aload_n C dX7_init_53 rfl rfl ?_
  obtain ⟨M13, eM13⟩ : ∃ z : Mem, z = uN M12 (o + 7) := ⟨_, rfl⟩
  replace hw := hw M13 eM13
  refine k_new C ci_3 (sx_7_7 ho) (by decide +kernel) cl_X7_30 nw_3 in_3 ⟨Nat.le_of_ble_eq_true rfl, Nat.le_of_ble_eq_true rfl⟩ eM13 dX7_init_54 ?_
  refine x_kap (κ' := ((o + 8), 7, 282)) rfl ?_
  clear eM13
  try clear M12
  refine x_dup C dX7_init_57 rfl ?_
  refine k_callI C (ok_X3_init (sx_7_7 ho) hw) mi_X7_32 ⟨Nat.le_of_ble_eq_true rfl, Nat.le_of_ble_eq_true rfl⟩ (Nat.le_of_ble_eq_true rfl) ⟨Nat.le_of_ble_eq_true rfl, Nat.le_of_ble_eq_true rfl⟩ dX7_init_58 (fun rv KK M14 hw => ?_)
  obtain ⟨rfl, rfl, hw⟩ := hw
  refine x_kap (κ' := ((o + 11), 10, 322)) rfl ?_
  show X c _ _ _ [.ref (g.2.2.2 + (o + 7)), .ref (g.2.2.2 + o)] _
  try clear M13
  obtain ⟨M15, eM15⟩ : ∃ z : Mem, z = uR M14 o 8 (some (o + 7)) := ⟨_, rfl⟩
  replace hw := hw M15 eM15
  refine k_putR C fp_X7_33 (by show o < (o + 11); omega) ho (fun _ _ => rfl) (fun _ => rfl) (fun _ => rfl) eM15 dX7_init_61 ?_
  clear eM15
  try clear M14
  refine x_aload_n C dX7_init_64 rfl rfl ?_
  refine x_aload_n C dX7_init_65 rfl rfl ?_
  obtain ⟨h16, hw⟩ := hw
  refine k_getR C fl_X7_24 (by show o < (o + 11); omega) ho (fun _ _ => rfl) h16 dX7_init_66 ?_
  obtain ⟨M17, eM17⟩ : ∃ z : Mem, z = uR M15 o 9 (some (o + 5)) := ⟨_, rfl⟩
  replace hw := hw M17 eM17
  refine k_putR C fp_X7_37 (by show o < (o + 11); omega) ho (fun _ _ => rfl) (fun _ => rfl) (fun _ => rfl) eM17 dX7_init_69 ?_
  clear eM17
  try clear M15
  refine x_aload_n C dX7_init_72 rfl rfl ?_
  refine x_aload_n C dX7_init_73 rfl rfl ?_
  obtain ⟨h18, hw⟩ := hw
  refine k_getR C fl_X7_27 (by show o < (o + 11); omega) ho (fun _ _ => rfl) h18 dX7_init_74 ?_
  obtain ⟨M19, eM19⟩ : ∃ z : Mem, z = uR M17 o 10 (some (o + 6)) := ⟨_, rfl⟩
  replace hw := hw M19 eM19
  refine k_putR C fp_X7_40 (by show o < (o + 11); omega) ho (fun _ _ => rfl) (fun _ => rfl) (fun _ => rfl) eM19 dX7_init_77 ?_
  clear eM19
  try clear M17
  exact x_vreturn C r dX7_init_80 ⟨rfl, rfl, hw⟩

set_option maxRecDepth 100000 in
def w_X11_init (M : Mem) (q : Mem → Prop) : Prop := ∀ M1 : Mem, M1 = uN M 1 → w_X8_init 1 M1 (fun (M2 : Mem) => ∀ M3 : Mem, M3 = uR M2 0 0 (some 1) → ∀ M4 : Mem, M4 = uN M3 33 → ∀ M5 : Mem, M5 = uR M4 0 1 (some 33) → ∀ M6 : Mem, M6 = uN M5 34 → ∀ M7 : Mem, M7 = uR M6 0 2 (some 34) → ∀ M8 : Mem, M8 = uN M7 35 → w_X7_init 35 M8 (fun (M9 : Mem) => ∀ M10 : Mem, M10 = uR M9 0 3 (some 35) → ∀ M11 : Mem, M11 = uN M10 46 → w_X0_init 46 M11 (fun (M12 : Mem) => ∀ M13 : Mem, M13 = uR M12 0 4 (some 46) → ∀ M14 : Mem, M14 = uN M13 48 → w_X10_init 48 M14 (fun (M15 : Mem) => ∀ M16 : Mem, M16 = uR M15 0 5 (some 48) → ∀ M17 : Mem, M17 = uN M16 52 → w_X1_init 52 M17 (fun (M18 : Mem) => ∀ M19 : Mem, M19 = uR M18 0 6 (some 52) → ∀ M20 : Mem, M20 = uN M19 58 → w_X9_init 58 M20 (fun (M21 : Mem) => ∀ M22 : Mem, M22 = uR M21 0 7 (some 58) → ∀ M23 : Mem, M23 = uN M22 60 → w_X2_init 60 M23 (fun (M24 : Mem) => ∀ M25 : Mem, M25 = uR M24 0 8 (some 60) → ∀ M26 : Mem, M26 = uN M25 68 → w_X4_init 68 M26 (fun (M27 : Mem) => ∀ M28 : Mem, M28 = uR M27 0 9 (some 68) → M28.2.2 0 1 = some 33 ∧ ∀ M30 : Mem, M30 = uN M28 71 → w_X8_init 71 M30 (fun (M31 : Mem) => ∀ M32 : Mem, M32 = uR M31 33 0 (some 71) → M32.2.2 0 1 = some 33 ∧ ∀ M34 : Mem, M34 = uN M32 103 → w_X8_init 103 M34 (fun (M35 : Mem) => ∀ M36 : Mem, M36 = uR M35 33 1 (some 103) → q M36))))))))))
set_option maxRecDepth 100000 in
set_option maxHeartbeats 16000000 in
theorem ok_X11_init {g : Gl} {l : Launch} {M : Mem} {q : Mem → Prop} (hw : w_X11_init M q) : Ct g l yX11_init cX11_init 2 none 4 64 [.ref (g.2.2.2 + 0)] 1 134 15540 M (fun rv K z => rv = none ∧ K = 135 ∧ q z) := by
  refine ct_intro (by decide +kernel) (Nat.le_of_ble_eq_true rfl) (fun c C r hin => ?_)
  have C : Cx c cX11_init 2 RX11 g l { frames := 4, cells := 134, slots := 15540, locals := 64 } := C
  refine x_sub [0] (lv' := [(0, .ref (g.2.2.2 + 0))]) rfl ?_
  unfold w_X11_init at hw
  refine x_aload_n C dX11_init_0 rfl rfl ?_
  refine k_objInit C oi_X11 oi_inst oi_code (Nat.le_of_ble_eq_true rfl) (Nat.le_of_ble_eq_true rfl) (Nat.le_of_ble_eq_true rfl) dX11_init_1 ?_
  refine x_aload_n C dX11_init_4 rfl rfl ?_
  obtain ⟨M1, eM1⟩ : ∃ z : Mem, z = uN M 1 := ⟨_, rfl⟩
  replace hw := hw M1 eM1
  refine k_new C ci_8 s1 (by decide +kernel) cl_X11_7 nw_8 in_8 ⟨Nat.le_of_ble_eq_true rfl, Nat.le_of_ble_eq_true rfl⟩ eM1 dX11_init_5 ?_
  refine x_kap (κ' := (2, 1, 7)) rfl ?_
  clear eM1
  refine x_dup C dX11_init_8 rfl ?_
  refine k_callI C (ok_X8_init s1 hw) mi_X11_9 ⟨Nat.le_of_ble_eq_true rfl, Nat.le_of_ble_eq_true rfl⟩ (Nat.le_of_ble_eq_true rfl) ⟨Nat.le_of_ble_eq_true rfl, Nat.le_of_ble_eq_true rfl⟩ dX11_init_9 (fun rv KK M2 hw => ?_)
  obtain ⟨rfl, rfl, hw⟩ := hw
  refine x_kap (κ' := (33, 32, 4207)) rfl ?_
  show X c _ _ _ [.ref (g.2.2.2 + 1), .ref (g.2.2.2 + 0)] _
  try clear M1
  obtain ⟨M3, eM3⟩ : ∃ z : Mem, z = uR M2 0 0 (some 1) := ⟨_, rfl⟩
  replace hw := hw M3 eM3
  refine k_putFR C hin ff_X11_10 (by decide) s0 (fun _ _ => rfl) (fun _ => rfl) (fun _ => rfl) eM3 dX11_init_12 ?_
  clear eM3
  try clear M2
  refine x_aload_n C dX11_init_15 rfl rfl ?_
  refine x_iconst (v := (2 : Int32)) C dX11_init_16 (by decide) ?_
  obtain ⟨M4, eM4⟩ : ∃ z : Mem, z = uN M3 33 := ⟨_, rfl⟩
  replace hw := hw M4 eM4
  refine k_newq (N := 2) C cl_X11_7 (Or.inr ⟨rfl, rfl⟩) s33 ln33 (by decide) (by decide) (by decide) ⟨Nat.le_of_ble_eq_true rfl, Nat.le_of_ble_eq_true rfl⟩ eM4 dX11_init_17 ?_
  refine x_kap (κ' := (34, 33, 4209)) rfl ?_
  clear eM4
  try clear M3
  obtain ⟨M5, eM5⟩ : ∃ z : Mem, z = uR M4 0 1 (some 33) := ⟨_, rfl⟩
  replace hw := hw M5 eM5
  refine k_putFR C hin ff_X11_16 (by decide) s0 (fun _ _ => rfl) (fun _ => rfl) (fun _ => rfl) eM5 dX11_init_20 ?_
  clear eM5
  try clear M4
  refine x_aload_n C dX11_init_23 rfl rfl ?_
  refine x_iconst (v := (2 : Int32)) C dX11_init_24 (by decide) ?_
  obtain ⟨M6, eM6⟩ : ∃ z : Mem, z = uN M5 34 := ⟨_, rfl⟩
  replace hw := hw M6 eM6
  refine k_newa (atype := .boolean) (N := 2) C ax_boolean rfl (Or.inr (Or.inr ⟨rfl, rfl⟩)) s34 ln34 (by decide) (by decide) (by decide +kernel) ⟨Nat.le_of_ble_eq_true rfl, Nat.le_of_ble_eq_true rfl⟩ eM6 dX11_init_25 ?_
  refine x_kap (κ' := (35, 34, 4211)) rfl ?_
  clear eM6
  try clear M5
  obtain ⟨M7, eM7⟩ : ∃ z : Mem, z = uR M6 0 2 (some 34) := ⟨_, rfl⟩
  replace hw := hw M7 eM7
  refine k_putFR C hin ff_X11_20 (by decide) s0 (fun _ _ => rfl) (fun _ => rfl) (fun _ => rfl) eM7 dX11_init_27 ?_
  clear eM7
  try clear M6
  refine x_aload_n C dX11_init_30 rfl rfl ?_
  obtain ⟨M8, eM8⟩ : ∃ z : Mem, z = uN M7 35 := ⟨_, rfl⟩
  replace hw := hw M8 eM8
  refine k_new C ci_7 s35 (by decide +kernel) cl_X11_24 nw_7 in_7 ⟨Nat.le_of_ble_eq_true rfl, Nat.le_of_ble_eq_true rfl⟩ eM8 dX11_init_31 ?_
  refine x_kap (κ' := (36, 35, 4223)) rfl ?_
  clear eM8
  try clear M7
  refine x_dup C dX11_init_34 rfl ?_
  refine k_callIN C (ok_X7_init s35 hw) mi_X11_26 ⟨Nat.le_of_ble_eq_true rfl, Nat.le_of_ble_eq_true rfl⟩ (Nat.le_of_ble_eq_true rfl) ⟨Nat.le_of_ble_eq_true rfl, Nat.le_of_ble_eq_true rfl⟩ dX11_init_35 (fun rv KK M9 hw => ?_)
  obtain ⟨rfl, rfl, hw⟩ := hw
  refine x_kap (κ' := (46, 45, 4545)) rfl ?_
  show X c _ _ _ [.ref (g.2.2.2 + 35), .ref (g.2.2.2 + 0)] _
  try clear M8
  obtain ⟨M10, eM10⟩ : ∃ z : Mem, z = uR M9 0 3 (some 35) := ⟨_, rfl⟩
  replace hw := hw M10 eM10
  refine k_putFR C hin ff_X11_27 (by decide) s0 (fun _ _ => rfl) (fun _ => rfl) (fun _ => rfl) eM10 dX11_init_38 ?_
  clear eM10
  try clear M9
  refine x_aload_n C dX11_init_41 rfl rfl ?_
  obtain ⟨M11, eM11⟩ : ∃ z : Mem, z = uN M10 46 := ⟨_, rfl⟩
  replace hw := hw M11 eM11
  refine k_new C ci_0 s46 (by decide +kernel) cl_X11_31 nw_0 in_0 ⟨Nat.le_of_ble_eq_true rfl, Nat.le_of_ble_eq_true rfl⟩ eM11 dX11_init_42 ?_
  refine x_kap (κ' := (47, 46, 4547)) rfl ?_
  clear eM11
  try clear M10
  refine x_dup C dX11_init_45 rfl ?_
  refine k_callIN C (ok_X0_init s46 hw) mi_X11_33 ⟨Nat.le_of_ble_eq_true rfl, Nat.le_of_ble_eq_true rfl⟩ (Nat.le_of_ble_eq_true rfl) ⟨Nat.le_of_ble_eq_true rfl, Nat.le_of_ble_eq_true rfl⟩ dX11_init_46 (fun rv KK M12 hw => ?_)
  obtain ⟨rfl, rfl, hw⟩ := hw
  refine x_kap (κ' := (48, 47, 4747)) rfl ?_
  show X c _ _ _ [.ref (g.2.2.2 + 46), .ref (g.2.2.2 + 0)] _
  try clear M11
  obtain ⟨M13, eM13⟩ : ∃ z : Mem, z = uR M12 0 4 (some 46) := ⟨_, rfl⟩
  replace hw := hw M13 eM13
  refine k_putFR C hin ff_X11_34 (by decide) s0 (fun _ _ => rfl) (fun _ => rfl) (fun _ => rfl) eM13 dX11_init_49 ?_
  clear eM13
  try clear M12
  refine x_aload_n C dX11_init_52 rfl rfl ?_
  obtain ⟨M14, eM14⟩ : ∃ z : Mem, z = uN M13 48 := ⟨_, rfl⟩
  replace hw := hw M14 eM14
  refine k_new C ci_10 s48 (by decide +kernel) cl_X11_38 nw_10 in_10 ⟨Nat.le_of_ble_eq_true rfl, Nat.le_of_ble_eq_true rfl⟩ eM14 dX11_init_53 ?_
  refine x_kap (κ' := (49, 48, 4750)) rfl ?_
  clear eM14
  try clear M13
  refine x_dup C dX11_init_56 rfl ?_
  refine k_callIN C (ok_X10_init s48 hw) mi_X11_40 ⟨Nat.le_of_ble_eq_true rfl, Nat.le_of_ble_eq_true rfl⟩ (Nat.le_of_ble_eq_true rfl) ⟨Nat.le_of_ble_eq_true rfl, Nat.le_of_ble_eq_true rfl⟩ dX11_init_57 (fun rv KK M15 hw => ?_)
  obtain ⟨rfl, rfl, hw⟩ := hw
  refine x_kap (κ' := (52, 51, 5518)) rfl ?_
  show X c _ _ _ [.ref (g.2.2.2 + 48), .ref (g.2.2.2 + 0)] _
  try clear M14
  obtain ⟨M16, eM16⟩ : ∃ z : Mem, z = uR M15 0 5 (some 48) := ⟨_, rfl⟩
  replace hw := hw M16 eM16
  refine k_putFR C hin ff_X11_41 (by decide) s0 (fun _ _ => rfl) (fun _ => rfl) (fun _ => rfl) eM16 dX11_init_60 ?_
  clear eM16
  try clear M15
  refine x_aload_n C dX11_init_63 rfl rfl ?_
  obtain ⟨M17, eM17⟩ : ∃ z : Mem, z = uN M16 52 := ⟨_, rfl⟩
  replace hw := hw M17 eM17
  refine k_new C ci_1 s52 (by decide +kernel) cl_X11_45 nw_1 in_1 ⟨Nat.le_of_ble_eq_true rfl, Nat.le_of_ble_eq_true rfl⟩ eM17 dX11_init_64 ?_
  refine x_kap (κ' := (53, 52, 5525)) rfl ?_
  clear eM17
  try clear M16
  refine x_dup C dX11_init_67 rfl ?_
  refine k_callIN C (ok_X1_init s52 hw) mi_X11_47 ⟨Nat.le_of_ble_eq_true rfl, Nat.le_of_ble_eq_true rfl⟩ (Nat.le_of_ble_eq_true rfl) ⟨Nat.le_of_ble_eq_true rfl, Nat.le_of_ble_eq_true rfl⟩ dX11_init_68 (fun rv KK M18 hw => ?_)
  obtain ⟨rfl, rfl, hw⟩ := hw
  refine x_kap (κ' := (58, 57, 5799)) rfl ?_
  show X c _ _ _ [.ref (g.2.2.2 + 52), .ref (g.2.2.2 + 0)] _
  try clear M17
  obtain ⟨M19, eM19⟩ : ∃ z : Mem, z = uR M18 0 6 (some 52) := ⟨_, rfl⟩
  replace hw := hw M19 eM19
  refine k_putFR C hin ff_X11_48 (by decide) s0 (fun _ _ => rfl) (fun _ => rfl) (fun _ => rfl) eM19 dX11_init_71 ?_
  clear eM19
  try clear M18
  refine x_aload_n C dX11_init_74 rfl rfl ?_
  obtain ⟨M20, eM20⟩ : ∃ z : Mem, z = uN M19 58 := ⟨_, rfl⟩
  replace hw := hw M20 eM20
  refine k_new C ci_9 s58 (by decide +kernel) cl_X11_52 nw_9 in_9 ⟨Nat.le_of_ble_eq_true rfl, Nat.le_of_ble_eq_true rfl⟩ eM20 dX11_init_75 ?_
  refine x_kap (κ' := (59, 58, 5808)) rfl ?_
  clear eM20
  try clear M19
  refine x_dup C dX11_init_78 rfl ?_
  refine k_callIN C (ok_X9_init s58 hw) mi_X11_54 ⟨Nat.le_of_ble_eq_true rfl, Nat.le_of_ble_eq_true rfl⟩ (Nat.le_of_ble_eq_true rfl) ⟨Nat.le_of_ble_eq_true rfl, Nat.le_of_ble_eq_true rfl⟩ dX11_init_79 (fun rv KK M21 hw => ?_)
  obtain ⟨rfl, rfl, hw⟩ := hw
  refine x_kap (κ' := (60, 59, 6060)) rfl ?_
  show X c _ _ _ [.ref (g.2.2.2 + 58), .ref (g.2.2.2 + 0)] _
  try clear M20
  obtain ⟨M22, eM22⟩ : ∃ z : Mem, z = uR M21 0 7 (some 58) := ⟨_, rfl⟩
  replace hw := hw M22 eM22
  refine k_putFR C hin ff_X11_55 (by decide) s0 (fun _ _ => rfl) (fun _ => rfl) (fun _ => rfl) eM22 dX11_init_82 ?_
  clear eM22
  try clear M21
  refine x_aload_n C dX11_init_85 rfl rfl ?_
  obtain ⟨M23, eM23⟩ : ∃ z : Mem, z = uN M22 60 := ⟨_, rfl⟩
  replace hw := hw M23 eM23
  refine k_new C ci_2 s60 (by decide +kernel) cl_X11_59 nw_2 in_2 ⟨Nat.le_of_ble_eq_true rfl, Nat.le_of_ble_eq_true rfl⟩ eM23 dX11_init_86 ?_
  refine x_kap (κ' := (61, 60, 6069)) rfl ?_
  clear eM23
  try clear M22
  refine x_dup C dX11_init_89 rfl ?_
  refine k_callIN C (ok_X2_init s60 hw) mi_X11_61 ⟨Nat.le_of_ble_eq_true rfl, Nat.le_of_ble_eq_true rfl⟩ (Nat.le_of_ble_eq_true rfl) ⟨Nat.le_of_ble_eq_true rfl, Nat.le_of_ble_eq_true rfl⟩ dX11_init_90 (fun rv KK M24 hw => ?_)
  obtain ⟨rfl, rfl, hw⟩ := hw
  refine x_kap (κ' := (68, 67, 7075)) rfl ?_
  show X c _ _ _ [.ref (g.2.2.2 + 60), .ref (g.2.2.2 + 0)] _
  try clear M23
  obtain ⟨M25, eM25⟩ : ∃ z : Mem, z = uR M24 0 8 (some 60) := ⟨_, rfl⟩
  replace hw := hw M25 eM25
  refine k_putFR C hin ff_X11_62 (by decide) s0 (fun _ _ => rfl) (fun _ => rfl) (fun _ => rfl) eM25 dX11_init_93 ?_
  clear eM25
  try clear M24
  refine x_aload_n C dX11_init_96 rfl rfl ?_
  obtain ⟨M26, eM26⟩ : ∃ z : Mem, z = uN M25 68 := ⟨_, rfl⟩
  replace hw := hw M26 eM26
  refine k_new C ci_4 s68 (by decide +kernel) cl_X11_66 nw_4 in_4 ⟨Nat.le_of_ble_eq_true rfl, Nat.le_of_ble_eq_true rfl⟩ eM26 dX11_init_97 ?_
  refine x_kap (κ' := (69, 68, 7080)) rfl ?_
  clear eM26
  try clear M25
  refine x_dup C dX11_init_100 rfl ?_
  refine k_callIN C (ok_X4_init s68 hw) mi_X11_68 ⟨Nat.le_of_ble_eq_true rfl, Nat.le_of_ble_eq_true rfl⟩ (Nat.le_of_ble_eq_true rfl) ⟨Nat.le_of_ble_eq_true rfl, Nat.le_of_ble_eq_true rfl⟩ dX11_init_101 (fun rv KK M27 hw => ?_)
  obtain ⟨rfl, rfl, hw⟩ := hw
  refine x_kap (κ' := (71, 70, 7126)) rfl ?_
  show X c _ _ _ [.ref (g.2.2.2 + 68), .ref (g.2.2.2 + 0)] _
  try clear M26
  obtain ⟨M28, eM28⟩ : ∃ z : Mem, z = uR M27 0 9 (some 68) := ⟨_, rfl⟩
  replace hw := hw M28 eM28
  refine k_putFR C hin ff_X11_69 (by decide) s0 (fun _ _ => rfl) (fun _ => rfl) (fun _ => rfl) eM28 dX11_init_104 ?_
  clear eM28
  try clear M27
  refine x_iconst (v := (0 : Int32)) C dX11_init_107 (by decide) ?_
  refine x_istore_n C dX11_init_108 rfl (Nat.le_of_ble_eq_true rfl) ?_
  refine x_sub [0, 1] (lv' := [(0, .ref (g.2.2.2 + 0)), (1, .int (0 : Int32))]) rfl ?_
  refine x_iload_n C dX11_init_109 rfl rfl ?_
  refine x_iconst (v := (2 : Int32)) C dX11_init_110 (by decide) ?_
  refine x_icmp_ge (tgt := 133) C dX11_init_111 (by decide) (fun h => absurd h (by decide)) (fun _ => ?_)
  refine x_aload_n C dX11_init_114 rfl rfl ?_
  obtain ⟨h29, hw⟩ := hw
  refine k_getR C fl_X11_16 (by decide) s0 (fun _ _ => rfl) h29 dX11_init_115 ?_
  refine x_iload_n C dX11_init_118 rfl rfl ?_
  obtain ⟨M30, eM30⟩ : ∃ z : Mem, z = uN M28 71 := ⟨_, rfl⟩
  replace hw := hw M30 eM30
  refine k_new C ci_8 s71 (by decide +kernel) cl_X11_7 nw_8 in_8 ⟨Nat.le_of_ble_eq_true rfl, Nat.le_of_ble_eq_true rfl⟩ eM30 dX11_init_119 ?_
  refine x_kap (κ' := (72, 71, 7133)) rfl ?_
  clear eM30
  try clear M28
  refine x_dup C dX11_init_122 rfl ?_
  refine k_callI C (ok_X8_init s71 hw) mi_X11_9 ⟨Nat.le_of_ble_eq_true rfl, Nat.le_of_ble_eq_true rfl⟩ (Nat.le_of_ble_eq_true rfl) ⟨Nat.le_of_ble_eq_true rfl, Nat.le_of_ble_eq_true rfl⟩ dX11_init_123 (fun rv KK M31 hw => ?_)
  obtain ⟨rfl, rfl, hw⟩ := hw
  refine x_kap (κ' := (103, 102, 11333)) rfl ?_
  show X c _ _ _ [.ref (g.2.2.2 + 71), .int (0 : Int32), .ref (g.2.2.2 + 33)] _
  try clear M30
  obtain ⟨M32, eM32⟩ : ∃ z : Mem, z = uR M31 33 0 (some 71) := ⟨_, rfl⟩
  replace hw := hw M32 eM32
  refine k_aast (ni := 0) (r := (RX8, TX8, 7)) C (by decide) (by decide) (Or.inr ⟨rfl, rfl⟩) s33 s71 rfl (by decide) (by rw [ln33]; exact vin _ _ (by decide +kernel)) eM32 dX11_init_126 ?_
  clear eM32
  try clear M31
  refine x_iinc (v := (1 : Int32)) C dX11_init_127 rfl (by decide) (Nat.le_of_ble_eq_true rfl) ?_
  refine x_sub [0, 1] (lv' := [(0, .ref (g.2.2.2 + 0)), (1, .int (1 : Int32))]) rfl ?_
  refine x_goto (tgt := 109) C dX11_init_130 (by decide) ?_
  refine x_iload_n C dX11_init_109 rfl rfl ?_
  refine x_iconst (v := (2 : Int32)) C dX11_init_110 (by decide) ?_
  refine x_icmp_ge (tgt := 133) C dX11_init_111 (by decide) (fun h => absurd h (by decide)) (fun _ => ?_)
  refine x_aload_n C dX11_init_114 rfl rfl ?_
  obtain ⟨h33, hw⟩ := hw
  refine k_getR C fl_X11_16 (by decide) s0 (fun _ _ => rfl) h33 dX11_init_115 ?_
  refine x_iload_n C dX11_init_118 rfl rfl ?_
  obtain ⟨M34, eM34⟩ : ∃ z : Mem, z = uN M32 103 := ⟨_, rfl⟩
  replace hw := hw M34 eM34
  refine k_new C ci_8 s103 (by decide +kernel) cl_X11_7 nw_8 in_8 ⟨Nat.le_of_ble_eq_true rfl, Nat.le_of_ble_eq_true rfl⟩ eM34 dX11_init_119 ?_
  refine x_kap (κ' := (104, 103, 11340)) rfl ?_
  clear eM34
  try clear M32
  refine x_dup C dX11_init_122 rfl ?_
  refine k_callI C (ok_X8_init s103 hw) mi_X11_9 ⟨Nat.le_of_ble_eq_true rfl, Nat.le_of_ble_eq_true rfl⟩ (Nat.le_of_ble_eq_true rfl) ⟨Nat.le_of_ble_eq_true rfl, Nat.le_of_ble_eq_true rfl⟩ dX11_init_123 (fun rv KK M35 hw => ?_)
  obtain ⟨rfl, rfl, hw⟩ := hw
  refine x_kap (κ' := (135, 134, 15540)) rfl ?_
  show X c _ _ _ [.ref (g.2.2.2 + 103), .int (1 : Int32), .ref (g.2.2.2 + 33)] _
  try clear M34
  obtain ⟨M36, eM36⟩ : ∃ z : Mem, z = uR M35 33 1 (some 103) := ⟨_, rfl⟩
  replace hw := hw M36 eM36
  refine k_aast (ni := 1) (r := (RX8, TX8, 7)) C (by decide) (by decide) (Or.inr ⟨rfl, rfl⟩) s33 s103 rfl (by decide) (by rw [ln33]; exact vin _ _ (by decide +kernel)) eM36 dX11_init_126 ?_
  clear eM36
  try clear M35
  refine x_iinc (v := (2 : Int32)) C dX11_init_127 rfl (by decide) (Nat.le_of_ble_eq_true rfl) ?_
  refine x_sub [0, 1] (lv' := [(0, .ref (g.2.2.2 + 0)), (1, .int (2 : Int32))]) rfl ?_
  refine x_goto (tgt := 109) C dX11_init_130 (by decide) ?_
  refine x_iload_n C dX11_init_109 rfl rfl ?_
  refine x_iconst (v := (2 : Int32)) C dX11_init_110 (by decide) ?_
  refine x_icmp_ge (tgt := 133) C dX11_init_111 (by decide) (fun _ => ?_) (fun h => absurd (by decide) h)
  exact x_vreturn C r dX11_init_133 ⟨rfl, rfl, hw⟩

set_option maxRecDepth 100000 in
def w_X12_init (M : Mem) (q : Mem → Prop) : Prop := ∀ M1 : Mem, M1 = uN M 136 → ∀ M2 : Mem, M2 = uR M1 135 0 (some 136) → ∀ M3 : Mem, M3 = uN M2 137 → ∀ M4 : Mem, M4 = uR M3 135 1 (some 137) → ∀ M5 : Mem, M5 = uN M4 138 → ∀ M6 : Mem, M6 = uR M5 135 2 (some 138) → ∀ M7 : Mem, M7 = uN M6 139 → ∀ M8 : Mem, M8 = uR M7 135 3 (some 139) → ∀ M9 : Mem, M9 = uN M8 140 → ∀ M10 : Mem, M10 = uR M9 135 5 (some 140) → ∀ M11 : Mem, M11 = uN M10 141 → ∀ M12 : Mem, M12 = uR M11 135 6 (some 141) → ∀ M13 : Mem, M13 = uN M12 142 → ∀ M14 : Mem, M14 = uR M13 135 7 (some 142) → ∀ M15 : Mem, M15 = uN M14 143 → ∀ M16 : Mem, M16 = uR M15 135 8 (some 143) → ∀ M17 : Mem, M17 = uN M16 144 → ∀ M18 : Mem, M18 = uR M17 135 9 (some 144) → ∀ M19 : Mem, M19 = uN M18 145 → ∀ M20 : Mem, M20 = uR M19 135 11 (some 145) → ∀ M21 : Mem, M21 = uN M20 146 → ∀ M22 : Mem, M22 = uR M21 135 13 (some 146) → ∀ M23 : Mem, M23 = uN M22 147 → ∀ M24 : Mem, M24 = uR M23 135 14 (some 147) → ∀ M25 : Mem, M25 = uN M24 148 → ∀ M26 : Mem, M26 = uR M25 135 15 (some 148) → ∀ M27 : Mem, M27 = uN M26 149 → ∀ M28 : Mem, M28 = uR M27 135 16 (some 149) → ∀ M29 : Mem, M29 = uN M28 150 → ∀ M30 : Mem, M30 = uR M29 135 17 (some 150) → ∀ M31 : Mem, M31 = uN M30 151 → ∀ M32 : Mem, M32 = uR M31 135 24 (some 151) → ∀ M33 : Mem, M33 = uN M32 152 → ∀ M34 : Mem, M34 = uR M33 135 26 (some 152) → ∀ M35 : Mem, M35 = uN M34 153 → ∀ M36 : Mem, M36 = uR M35 135 28 (some 153) → M36.2.2 135 0 = some 136 ∧ ∀ M38 : Mem, M38 = uI M36 136 1106 (1 : Int32) → M38.2.2 135 0 = some 136 ∧ ∀ M40 : Mem, M40 = uI M38 136 1107 (1 : Int32) → M40.2.2 135 0 = some 136 ∧ ∀ M42 : Mem, M42 = uI M40 136 1108 (1 : Int32) → M42.2.2 135 0 = some 136 ∧ ∀ M44 : Mem, M44 = uI M42 136 1109 (1 : Int32) → M44.2.2 135 0 = some 136 ∧ ∀ M46 : Mem, M46 = uI M44 136 1110 (1 : Int32) → M46.2.2 135 0 = some 136 ∧ ∀ M48 : Mem, M48 = uI M46 136 1111 (1 : Int32) → M48.2.2 135 0 = some 136 ∧ ∀ M50 : Mem, M50 = uI M48 136 1112 (1 : Int32) → M50.2.2 135 0 = some 136 ∧ ∀ M52 : Mem, M52 = uI M50 136 1113 (1 : Int32) → M52.2.2 135 0 = some 136 ∧ ∀ M54 : Mem, M54 = uI M52 136 1114 (4 : Int32) → M54.2.2 135 0 = some 136 ∧ ∀ M56 : Mem, M56 = uI M54 136 1115 (4 : Int32) → M56.2.2 135 0 = some 136 ∧ ∀ M58 : Mem, M58 = uI M56 136 1116 (10 : Int32) → M58.2.2 135 0 = some 136 ∧ ∀ M60 : Mem, M60 = uI M58 136 1117 (4 : Int32) → M60.2.2 135 0 = some 136 ∧ ∀ M62 : Mem, M62 = uI M60 136 1118 (5 : Int32) → M62.2.2 135 0 = some 136 ∧ ∀ M64 : Mem, M64 = uI M62 136 1126 (-1 : Int32) → M64.2.2 135 0 = some 136 ∧ ∀ M66 : Mem, M66 = uI M64 136 1127 (-1 : Int32) → M66.2.2 135 0 = some 136 ∧ ∀ M68 : Mem, M68 = uI M66 136 1128 (-1 : Int32) → M68.2.2 135 0 = some 136 ∧ ∀ M70 : Mem, M70 = uI M68 136 1129 (-1 : Int32) → M70.2.2 135 0 = some 136 ∧ ∀ M72 : Mem, M72 = uI M70 136 1130 (-1 : Int32) → M72.2.2 135 0 = some 136 ∧ ∀ M74 : Mem, M74 = uI M72 136 1131 (-1 : Int32) → M74.2.2 135 0 = some 136 ∧ ∀ M76 : Mem, M76 = uI M74 136 1132 (-1 : Int32) → M76.2.2 135 0 = some 136 ∧ ∀ M78 : Mem, M78 = uI M76 136 1133 (-1 : Int32) → M78.2.2 135 0 = some 136 ∧ ∀ M80 : Mem, M80 = uI M78 136 1134 (-1 : Int32) → M80.2.2 135 0 = some 136 ∧ ∀ M82 : Mem, M82 = uI M80 136 1135 (-1 : Int32) → M82.2.2 135 0 = some 136 ∧ ∀ M84 : Mem, M84 = uI M82 136 1136 (-1 : Int32) → M84.2.2 135 0 = some 136 ∧ ∀ M86 : Mem, M86 = uI M84 136 1137 (-1 : Int32) → M86.2.2 135 0 = some 136 ∧ ∀ M88 : Mem, M88 = uI M86 136 1138 (-1 : Int32) → M88.2.2 135 0 = some 136 ∧ ∀ M90 : Mem, M90 = uI M88 136 1139 (-1 : Int32) → M90.2.2 135 0 = some 136 ∧ ∀ M92 : Mem, M92 = uI M90 136 1140 (-1 : Int32) → M92.2.2 135 0 = some 136 ∧ ∀ M94 : Mem, M94 = uI M92 136 1141 (-1 : Int32) → M94.2.2 135 0 = some 136 ∧ ∀ M96 : Mem, M96 = uI M94 136 1166 (1 : Int32) → M96.2.2 135 0 = some 136 ∧ ∀ M98 : Mem, M98 = uI M96 136 1167 (1 : Int32) → M98.2.2 135 0 = some 136 ∧ ∀ M100 : Mem, M100 = uI M98 136 1168 (1 : Int32) → M100.2.2 135 0 = some 136 ∧ ∀ M102 : Mem, M102 = uI M100 136 1169 (1 : Int32) → M102.2.2 135 0 = some 136 ∧ ∀ M104 : Mem, M104 = uI M102 136 1170 (1 : Int32) → M104.2.2 135 0 = some 136 ∧ ∀ M106 : Mem, M106 = uI M104 136 1171 (1 : Int32) → M106.2.2 135 0 = some 136 ∧ ∀ M108 : Mem, M108 = uI M106 136 1172 (1 : Int32) → M108.2.2 135 0 = some 136 ∧ ∀ M110 : Mem, M110 = uI M108 136 1173 (1 : Int32) → M110.2.2 135 0 = some 136 ∧ ∀ M112 : Mem, M112 = uI M110 136 1174 (4 : Int32) → M112.2.2 135 0 = some 136 ∧ ∀ M114 : Mem, M114 = uI M112 136 1175 (4 : Int32) → M114.2.2 135 0 = some 136 ∧ ∀ M116 : Mem, M116 = uI M114 136 1176 (10 : Int32) → M116.2.2 135 0 = some 136 ∧ ∀ M118 : Mem, M118 = uI M116 136 1177 (4 : Int32) → M118.2.2 135 0 = some 136 ∧ ∀ M120 : Mem, M120 = uI M118 136 1178 (5 : Int32) → M120.2.2 135 0 = some 136 ∧ ∀ M122 : Mem, M122 = uI M120 136 1186 (-1 : Int32) → M122.2.2 135 0 = some 136 ∧ ∀ M124 : Mem, M124 = uI M122 136 1187 (-1 : Int32) → M124.2.2 135 0 = some 136 ∧ ∀ M126 : Mem, M126 = uI M124 136 1188 (-1 : Int32) → M126.2.2 135 0 = some 136 ∧ ∀ M128 : Mem, M128 = uI M126 136 1189 (-1 : Int32) → M128.2.2 135 0 = some 136 ∧ ∀ M130 : Mem, M130 = uI M128 136 1190 (-1 : Int32) → M130.2.2 135 0 = some 136 ∧ ∀ M132 : Mem, M132 = uI M130 136 1191 (-1 : Int32) → M132.2.2 135 0 = some 136 ∧ ∀ M134 : Mem, M134 = uI M132 136 1192 (-1 : Int32) → M134.2.2 135 0 = some 136 ∧ ∀ M136 : Mem, M136 = uI M134 136 1193 (-1 : Int32) → M136.2.2 135 0 = some 136 ∧ ∀ M138 : Mem, M138 = uI M136 136 1194 (-1 : Int32) → M138.2.2 135 0 = some 136 ∧ ∀ M140 : Mem, M140 = uI M138 136 1195 (-1 : Int32) → M140.2.2 135 0 = some 136 ∧ ∀ M142 : Mem, M142 = uI M140 136 1196 (-1 : Int32) → M142.2.2 135 0 = some 136 ∧ ∀ M144 : Mem, M144 = uI M142 136 1197 (-1 : Int32) → M144.2.2 135 0 = some 136 ∧ ∀ M146 : Mem, M146 = uI M144 136 1198 (-1 : Int32) → M146.2.2 135 0 = some 136 ∧ ∀ M148 : Mem, M148 = uI M146 136 1199 (-1 : Int32) → M148.2.2 135 0 = some 136 ∧ ∀ M150 : Mem, M150 = uI M148 136 1200 (-1 : Int32) → M150.2.2 135 0 = some 136 ∧ ∀ M152 : Mem, M152 = uI M150 136 1201 (-1 : Int32) → M152.2.2 135 0 = some 136 ∧ ∀ M154 : Mem, M154 = uI M152 136 1226 (1 : Int32) → M154.2.2 135 0 = some 136 ∧ ∀ M156 : Mem, M156 = uI M154 136 1227 (1 : Int32) → M156.2.2 135 0 = some 136 ∧ ∀ M158 : Mem, M158 = uI M156 136 1228 (1 : Int32) → M158.2.2 135 0 = some 136 ∧ ∀ M160 : Mem, M160 = uI M158 136 1229 (1 : Int32) → M160.2.2 135 0 = some 136 ∧ ∀ M162 : Mem, M162 = uI M160 136 1230 (1 : Int32) → M162.2.2 135 0 = some 136 ∧ ∀ M164 : Mem, M164 = uI M162 136 1231 (1 : Int32) → M164.2.2 135 0 = some 136 ∧ ∀ M166 : Mem, M166 = uI M164 136 1232 (1 : Int32) → M166.2.2 135 0 = some 136 ∧ ∀ M168 : Mem, M168 = uI M166 136 1233 (1 : Int32) → M168.2.2 135 0 = some 136 ∧ ∀ M170 : Mem, M170 = uI M168 136 1234 (4 : Int32) → M170.2.2 135 0 = some 136 ∧ ∀ M172 : Mem, M172 = uI M170 136 1235 (4 : Int32) → M172.2.2 135 0 = some 136 ∧ ∀ M174 : Mem, M174 = uI M172 136 1236 (10 : Int32) → M174.2.2 135 0 = some 136 ∧ ∀ M176 : Mem, M176 = uI M174 136 1237 (4 : Int32) → M176.2.2 135 0 = some 136 ∧ ∀ M178 : Mem, M178 = uI M176 136 1238 (5 : Int32) → M178.2.2 135 0 = some 136 ∧ ∀ M180 : Mem, M180 = uI M178 136 1246 (-1 : Int32) → M180.2.2 135 0 = some 136 ∧ ∀ M182 : Mem, M182 = uI M180 136 1247 (-1 : Int32) → M182.2.2 135 0 = some 136 ∧ ∀ M184 : Mem, M184 = uI M182 136 1248 (-1 : Int32) → M184.2.2 135 0 = some 136 ∧ ∀ M186 : Mem, M186 = uI M184 136 1249 (-1 : Int32) → M186.2.2 135 0 = some 136 ∧ ∀ M188 : Mem, M188 = uI M186 136 1250 (-1 : Int32) → M188.2.2 135 0 = some 136 ∧ ∀ M190 : Mem, M190 = uI M188 136 1251 (-1 : Int32) → M190.2.2 135 0 = some 136 ∧ ∀ M192 : Mem, M192 = uI M190 136 1252 (-1 : Int32) → M192.2.2 135 0 = some 136 ∧ ∀ M194 : Mem, M194 = uI M192 136 1253 (-1 : Int32) → M194.2.2 135 0 = some 136 ∧ ∀ M196 : Mem, M196 = uI M194 136 1254 (-1 : Int32) → M196.2.2 135 0 = some 136 ∧ ∀ M198 : Mem, M198 = uI M196 136 1255 (-1 : Int32) → M198.2.2 135 0 = some 136 ∧ ∀ M200 : Mem, M200 = uI M198 136 1256 (-1 : Int32) → M200.2.2 135 0 = some 136 ∧ ∀ M202 : Mem, M202 = uI M200 136 1257 (-1 : Int32) → M202.2.2 135 0 = some 136 ∧ ∀ M204 : Mem, M204 = uI M202 136 1258 (-1 : Int32) → M204.2.2 135 0 = some 136 ∧ ∀ M206 : Mem, M206 = uI M204 136 1259 (-1 : Int32) → M206.2.2 135 0 = some 136 ∧ ∀ M208 : Mem, M208 = uI M206 136 1260 (-1 : Int32) → M208.2.2 135 0 = some 136 ∧ ∀ M210 : Mem, M210 = uI M208 136 1261 (-1 : Int32) → M210.2.2 135 0 = some 136 ∧ ∀ M212 : Mem, M212 = uI M210 136 1286 (1 : Int32) → M212.2.2 135 0 = some 136 ∧ ∀ M214 : Mem, M214 = uI M212 136 1287 (1 : Int32) → M214.2.2 135 0 = some 136 ∧ ∀ M216 : Mem, M216 = uI M214 136 1288 (1 : Int32) → M216.2.2 135 0 = some 136 ∧ ∀ M218 : Mem, M218 = uI M216 136 1289 (1 : Int32) → M218.2.2 135 0 = some 136 ∧ ∀ M220 : Mem, M220 = uI M218 136 1290 (1 : Int32) → M220.2.2 135 0 = some 136 ∧ ∀ M222 : Mem, M222 = uI M220 136 1291 (1 : Int32) → M222.2.2 135 0 = some 136 ∧ ∀ M224 : Mem, M224 = uI M222 136 1292 (1 : Int32) → M224.2.2 135 0 = some 136 ∧ ∀ M226 : Mem, M226 = uI M224 136 1293 (1 : Int32) → M226.2.2 135 0 = some 136 ∧ ∀ M228 : Mem, M228 = uI M226 136 1294 (4 : Int32) → M228.2.2 135 0 = some 136 ∧ ∀ M230 : Mem, M230 = uI M228 136 1295 (4 : Int32) → M230.2.2 135 0 = some 136 ∧ ∀ M232 : Mem, M232 = uI M230 136 1296 (10 : Int32) → M232.2.2 135 0 = some 136 ∧ ∀ M234 : Mem, M234 = uI M232 136 1297 (4 : Int32) → M234.2.2 135 0 = some 136 ∧ ∀ M236 : Mem, M236 = uI M234 136 1298 (5 : Int32) → M236.2.2 135 0 = some 136 ∧ ∀ M238 : Mem, M238 = uI M236 136 1306 (-1 : Int32) → M238.2.2 135 0 = some 136 ∧ ∀ M240 : Mem, M240 = uI M238 136 1307 (-1 : Int32) → M240.2.2 135 0 = some 136 ∧ ∀ M242 : Mem, M242 = uI M240 136 1308 (-1 : Int32) → M242.2.2 135 0 = some 136 ∧ ∀ M244 : Mem, M244 = uI M242 136 1309 (-1 : Int32) → M244.2.2 135 0 = some 136 ∧ ∀ M246 : Mem, M246 = uI M244 136 1310 (-1 : Int32) → M246.2.2 135 0 = some 136 ∧ ∀ M248 : Mem, M248 = uI M246 136 1311 (-1 : Int32) → M248.2.2 135 0 = some 136 ∧ ∀ M250 : Mem, M250 = uI M248 136 1312 (-1 : Int32) → M250.2.2 135 0 = some 136 ∧ ∀ M252 : Mem, M252 = uI M250 136 1313 (-1 : Int32) → M252.2.2 135 0 = some 136 ∧ ∀ M254 : Mem, M254 = uI M252 136 1314 (-1 : Int32) → M254.2.2 135 0 = some 136 ∧ ∀ M256 : Mem, M256 = uI M254 136 1315 (-1 : Int32) → M256.2.2 135 0 = some 136 ∧ ∀ M258 : Mem, M258 = uI M256 136 1316 (-1 : Int32) → M258.2.2 135 0 = some 136 ∧ ∀ M260 : Mem, M260 = uI M258 136 1317 (-1 : Int32) → M260.2.2 135 0 = some 136 ∧ ∀ M262 : Mem, M262 = uI M260 136 1318 (-1 : Int32) → M262.2.2 135 0 = some 136 ∧ ∀ M264 : Mem, M264 = uI M262 136 1319 (-1 : Int32) → M264.2.2 135 0 = some 136 ∧ ∀ M266 : Mem, M266 = uI M264 136 1320 (-1 : Int32) → M266.2.2 135 0 = some 136 ∧ ∀ M268 : Mem, M268 = uI M266 136 1321 (-1 : Int32) → M268.2.2 135 0 = some 136 ∧ ∀ M270 : Mem, M270 = uI M268 136 4218 (20 : Int32) → q M270
set_option maxRecDepth 100000 in
set_option maxHeartbeats 16000000 in
theorem ok_X12_init {g : Gl} {l : Launch} {M : Mem} {q : Mem → Prop} (hw : w_X12_init M q) : Ct g l yX12_init cX12_init 4 none 1 20 [.ref (g.2.2.2 + 135)] 136 18 15480 M (fun rv K z => rv = none ∧ K = 154 ∧ q z) := by
  refine ct_intro (by decide +kernel) (Nat.le_of_ble_eq_true rfl) (fun c C r hin => ?_)
  have C : Cx c cX12_init 4 RX12 g l { frames := 1, cells := 18, slots := 15480, locals := 20 } := C
  refine x_sub [0] (lv' := [(0, .ref (g.2.2.2 + 135))]) rfl ?_
  unfold w_X12_init at hw
  refine x_aload_n C dX12_init_0 rfl rfl ?_
  refine k_objInit C oi_X12 oi_inst oi_code (Nat.le_of_ble_eq_true rfl) (Nat.le_of_ble_eq_true rfl) (Nat.le_of_ble_eq_true rfl) dX12_init_1 ?_
  refine x_aload_n C dX12_init_4 rfl rfl ?_
  refine x_sipush (v := (4230 : Int32)) C dX12_init_5 (by decide) ?_
  obtain ⟨M1, eM1⟩ : ∃ z : Mem, z = uN M 136 := ⟨_, rfl⟩
  replace hw := hw M1 eM1
  refine k_newa (atype := .int) (N := 4230) C ax_int rfl (Or.inl ⟨rfl, rfl⟩) s136 ln136 (by decide) (by decide) (by decide +kernel) ⟨Nat.le_of_ble_eq_true rfl, Nat.le_of_ble_eq_true rfl⟩ eM1 dX12_init_8 ?_
  refine x_kap (κ' := (137, 1, 4230)) rfl ?_
  clear eM1
  obtain ⟨M2, eM2⟩ : ∃ z : Mem, z = uR M1 135 0 (some 136) := ⟨_, rfl⟩
  replace hw := hw M2 eM2
  refine k_putFR C hin ff_X12_7 (by decide) s135 (fun _ _ => rfl) (fun _ => rfl) (fun _ => rfl) eM2 dX12_init_10 ?_
  clear eM2
  try clear M1
  refine x_aload_n C dX12_init_13 rfl rfl ?_
  refine x_sipush (v := (8460 : Int32)) C dX12_init_14 (by decide) ?_
  obtain ⟨M3, eM3⟩ : ∃ z : Mem, z = uN M2 137 := ⟨_, rfl⟩
  replace hw := hw M3 eM3
  refine k_newa (atype := .int) (N := 8460) C ax_int rfl (Or.inl ⟨rfl, rfl⟩) s137 ln137 (by decide) (by decide) (by decide +kernel) ⟨Nat.le_of_ble_eq_true rfl, Nat.le_of_ble_eq_true rfl⟩ eM3 dX12_init_17 ?_
  refine x_kap (κ' := (138, 2, 12690)) rfl ?_
  clear eM3
  try clear M2
  obtain ⟨M4, eM4⟩ : ∃ z : Mem, z = uR M3 135 1 (some 137) := ⟨_, rfl⟩
  replace hw := hw M4 eM4
  refine k_putFR C hin ff_X12_13 (by decide) s135 (fun _ _ => rfl) (fun _ => rfl) (fun _ => rfl) eM4 dX12_init_19 ?_
  clear eM4
  try clear M3
  refine x_aload_n C dX12_init_22 rfl rfl ?_
  refine x_iconst (v := (2 : Int32)) C dX12_init_23 (by decide) ?_
  obtain ⟨M5, eM5⟩ : ∃ z : Mem, z = uN M4 138 := ⟨_, rfl⟩
  replace hw := hw M5 eM5
  refine k_newa (atype := .boolean) (N := 2) C ax_boolean rfl (Or.inr (Or.inr ⟨rfl, rfl⟩)) s138 ln138 (by decide) (by decide) (by decide +kernel) ⟨Nat.le_of_ble_eq_true rfl, Nat.le_of_ble_eq_true rfl⟩ eM5 dX12_init_24 ?_
  refine x_kap (κ' := (139, 3, 12692)) rfl ?_
  clear eM5
  try clear M4
  obtain ⟨M6, eM6⟩ : ∃ z : Mem, z = uR M5 135 2 (some 138) := ⟨_, rfl⟩
  replace hw := hw M6 eM6
  refine k_putFR C hin ff_X12_16 (by decide) s135 (fun _ _ => rfl) (fun _ => rfl) (fun _ => rfl) eM6 dX12_init_26 ?_
  clear eM6
  try clear M5
  refine x_aload_n C dX12_init_29 rfl rfl ?_
  refine x_sipush (v := (160 : Int32)) C dX12_init_30 (by decide) ?_
  obtain ⟨M7, eM7⟩ : ∃ z : Mem, z = uN M6 139 := ⟨_, rfl⟩
  replace hw := hw M7 eM7
  refine k_newa (atype := .int) (N := 160) C ax_int rfl (Or.inl ⟨rfl, rfl⟩) s139 ln139 (by decide) (by decide) (by decide +kernel) ⟨Nat.le_of_ble_eq_true rfl, Nat.le_of_ble_eq_true rfl⟩ eM7 dX12_init_33 ?_
  refine x_kap (κ' := (140, 4, 12852)) rfl ?_
  clear eM7
  try clear M6
  obtain ⟨M8, eM8⟩ : ∃ z : Mem, z = uR M7 135 3 (some 139) := ⟨_, rfl⟩
  replace hw := hw M8 eM8
  refine k_putFR C hin ff_X12_20 (by decide) s135 (fun _ _ => rfl) (fun _ => rfl) (fun _ => rfl) eM8 dX12_init_35 ?_
  clear eM8
  try clear M7
  refine x_aload_n C dX12_init_38 rfl rfl ?_
  refine x_bipush (v := (8 : Int32)) C dX12_init_39 (by decide) ?_
  obtain ⟨M9, eM9⟩ : ∃ z : Mem, z = uN M8 140 := ⟨_, rfl⟩
  replace hw := hw M9 eM9
  refine k_newa (atype := .int) (N := 8) C ax_int rfl (Or.inl ⟨rfl, rfl⟩) s140 ln140 (by decide) (by decide) (by decide +kernel) ⟨Nat.le_of_ble_eq_true rfl, Nat.le_of_ble_eq_true rfl⟩ eM9 dX12_init_41 ?_
  refine x_kap (κ' := (141, 5, 12860)) rfl ?_
  clear eM9
  try clear M8
  obtain ⟨M10, eM10⟩ : ∃ z : Mem, z = uR M9 135 5 (some 140) := ⟨_, rfl⟩
  replace hw := hw M10 eM10
  refine k_putFR C hin ff_X12_23 (by decide) s135 (fun _ _ => rfl) (fun _ => rfl) (fun _ => rfl) eM10 dX12_init_43 ?_
  clear eM10
  try clear M9
  refine x_aload_n C dX12_init_46 rfl rfl ?_
  refine x_bipush (v := (64 : Int32)) C dX12_init_47 (by decide) ?_
  obtain ⟨M11, eM11⟩ : ∃ z : Mem, z = uN M10 141 := ⟨_, rfl⟩
  replace hw := hw M11 eM11
  refine k_newa (atype := .int) (N := 64) C ax_int rfl (Or.inl ⟨rfl, rfl⟩) s141 ln141 (by decide) (by decide) (by decide +kernel) ⟨Nat.le_of_ble_eq_true rfl, Nat.le_of_ble_eq_true rfl⟩ eM11 dX12_init_49 ?_
  refine x_kap (κ' := (142, 6, 12924)) rfl ?_
  clear eM11
  try clear M10
  obtain ⟨M12, eM12⟩ : ∃ z : Mem, z = uR M11 135 6 (some 141) := ⟨_, rfl⟩
  replace hw := hw M12 eM12
  refine k_putFR C hin ff_X12_26 (by decide) s135 (fun _ _ => rfl) (fun _ => rfl) (fun _ => rfl) eM12 dX12_init_51 ?_
  clear eM12
  try clear M11
  refine x_aload_n C dX12_init_54 rfl rfl ?_
  refine x_bipush (v := (16 : Int32)) C dX12_init_55 (by decide) ?_
  obtain ⟨M13, eM13⟩ : ∃ z : Mem, z = uN M12 142 := ⟨_, rfl⟩
  replace hw := hw M13 eM13
  refine k_newa (atype := .int) (N := 16) C ax_int rfl (Or.inl ⟨rfl, rfl⟩) s142 ln142 (by decide) (by decide) (by decide +kernel) ⟨Nat.le_of_ble_eq_true rfl, Nat.le_of_ble_eq_true rfl⟩ eM13 dX12_init_57 ?_
  refine x_kap (κ' := (143, 7, 12940)) rfl ?_
  clear eM13
  try clear M12
  obtain ⟨M14, eM14⟩ : ∃ z : Mem, z = uR M13 135 7 (some 142) := ⟨_, rfl⟩
  replace hw := hw M14 eM14
  refine k_putFR C hin ff_X12_29 (by decide) s135 (fun _ _ => rfl) (fun _ => rfl) (fun _ => rfl) eM14 dX12_init_59 ?_
  clear eM14
  try clear M13
  refine x_aload_n C dX12_init_62 rfl rfl ?_
  refine x_bipush (v := (16 : Int32)) C dX12_init_63 (by decide) ?_
  obtain ⟨M15, eM15⟩ : ∃ z : Mem, z = uN M14 143 := ⟨_, rfl⟩
  replace hw := hw M15 eM15
  refine k_newa (atype := .int) (N := 16) C ax_int rfl (Or.inl ⟨rfl, rfl⟩) s143 ln143 (by decide) (by decide) (by decide +kernel) ⟨Nat.le_of_ble_eq_true rfl, Nat.le_of_ble_eq_true rfl⟩ eM15 dX12_init_65 ?_
  refine x_kap (κ' := (144, 8, 12956)) rfl ?_
  clear eM15
  try clear M14
  obtain ⟨M16, eM16⟩ : ∃ z : Mem, z = uR M15 135 8 (some 143) := ⟨_, rfl⟩
  replace hw := hw M16 eM16
  refine k_putFR C hin ff_X12_32 (by decide) s135 (fun _ _ => rfl) (fun _ => rfl) (fun _ => rfl) eM16 dX12_init_67 ?_
  clear eM16
  try clear M15
  refine x_aload_n C dX12_init_70 rfl rfl ?_
  refine x_bipush (v := (6 : Int32)) C dX12_init_71 (by decide) ?_
  obtain ⟨M17, eM17⟩ : ∃ z : Mem, z = uN M16 144 := ⟨_, rfl⟩
  replace hw := hw M17 eM17
  refine k_newa (atype := .int) (N := 6) C ax_int rfl (Or.inl ⟨rfl, rfl⟩) s144 ln144 (by decide) (by decide) (by decide +kernel) ⟨Nat.le_of_ble_eq_true rfl, Nat.le_of_ble_eq_true rfl⟩ eM17 dX12_init_73 ?_
  refine x_kap (κ' := (145, 9, 12962)) rfl ?_
  clear eM17
  try clear M16
  obtain ⟨M18, eM18⟩ : ∃ z : Mem, z = uR M17 135 9 (some 144) := ⟨_, rfl⟩
  replace hw := hw M18 eM18
  refine k_putFR C hin ff_X12_35 (by decide) s135 (fun _ _ => rfl) (fun _ => rfl) (fun _ => rfl) eM18 dX12_init_75 ?_
  clear eM18
  try clear M17
  refine x_aload_n C dX12_init_78 rfl rfl ?_
  refine x_sipush (v := (200 : Int32)) C dX12_init_79 (by decide) ?_
  obtain ⟨M19, eM19⟩ : ∃ z : Mem, z = uN M18 145 := ⟨_, rfl⟩
  replace hw := hw M19 eM19
  refine k_newa (atype := .int) (N := 200) C ax_int rfl (Or.inl ⟨rfl, rfl⟩) s145 ln145 (by decide) (by decide) (by decide +kernel) ⟨Nat.le_of_ble_eq_true rfl, Nat.le_of_ble_eq_true rfl⟩ eM19 dX12_init_82 ?_
  refine x_kap (κ' := (146, 10, 13162)) rfl ?_
  clear eM19
  try clear M18
  obtain ⟨M20, eM20⟩ : ∃ z : Mem, z = uR M19 135 11 (some 145) := ⟨_, rfl⟩
  replace hw := hw M20 eM20
  refine k_putFR C hin ff_X12_38 (by decide) s135 (fun _ _ => rfl) (fun _ => rfl) (fun _ => rfl) eM20 dX12_init_84 ?_
  clear eM20
  try clear M19
  refine x_aload_n C dX12_init_87 rfl rfl ?_
  refine x_bipush (v := (24 : Int32)) C dX12_init_88 (by decide) ?_
  obtain ⟨M21, eM21⟩ : ∃ z : Mem, z = uN M20 146 := ⟨_, rfl⟩
  replace hw := hw M21 eM21
  refine k_newa (atype := .int) (N := 24) C ax_int rfl (Or.inl ⟨rfl, rfl⟩) s146 ln146 (by decide) (by decide) (by decide +kernel) ⟨Nat.le_of_ble_eq_true rfl, Nat.le_of_ble_eq_true rfl⟩ eM21 dX12_init_90 ?_
  refine x_kap (κ' := (147, 11, 13186)) rfl ?_
  clear eM21
  try clear M20
  obtain ⟨M22, eM22⟩ : ∃ z : Mem, z = uR M21 135 13 (some 146) := ⟨_, rfl⟩
  replace hw := hw M22 eM22
  refine k_putFR C hin ff_X12_41 (by decide) s135 (fun _ _ => rfl) (fun _ => rfl) (fun _ => rfl) eM22 dX12_init_92 ?_
  clear eM22
  try clear M21
  refine x_aload_n C dX12_init_95 rfl rfl ?_
  refine x_bipush (v := (24 : Int32)) C dX12_init_96 (by decide) ?_
  obtain ⟨M23, eM23⟩ : ∃ z : Mem, z = uN M22 147 := ⟨_, rfl⟩
  replace hw := hw M23 eM23
  refine k_newa (atype := .int) (N := 24) C ax_int rfl (Or.inl ⟨rfl, rfl⟩) s147 ln147 (by decide) (by decide) (by decide +kernel) ⟨Nat.le_of_ble_eq_true rfl, Nat.le_of_ble_eq_true rfl⟩ eM23 dX12_init_98 ?_
  refine x_kap (κ' := (148, 12, 13210)) rfl ?_
  clear eM23
  try clear M22
  obtain ⟨M24, eM24⟩ : ∃ z : Mem, z = uR M23 135 14 (some 147) := ⟨_, rfl⟩
  replace hw := hw M24 eM24
  refine k_putFR C hin ff_X12_44 (by decide) s135 (fun _ _ => rfl) (fun _ => rfl) (fun _ => rfl) eM24 dX12_init_100 ?_
  clear eM24
  try clear M23
  refine x_aload_n C dX12_init_103 rfl rfl ?_
  refine x_bipush (v := (24 : Int32)) C dX12_init_104 (by decide) ?_
  obtain ⟨M25, eM25⟩ : ∃ z : Mem, z = uN M24 148 := ⟨_, rfl⟩
  replace hw := hw M25 eM25
  refine k_newa (atype := .int) (N := 24) C ax_int rfl (Or.inl ⟨rfl, rfl⟩) s148 ln148 (by decide) (by decide) (by decide +kernel) ⟨Nat.le_of_ble_eq_true rfl, Nat.le_of_ble_eq_true rfl⟩ eM25 dX12_init_106 ?_
  refine x_kap (κ' := (149, 13, 13234)) rfl ?_
  clear eM25
  try clear M24
  obtain ⟨M26, eM26⟩ : ∃ z : Mem, z = uR M25 135 15 (some 148) := ⟨_, rfl⟩
  replace hw := hw M26 eM26
  refine k_putFR C hin ff_X12_47 (by decide) s135 (fun _ _ => rfl) (fun _ => rfl) (fun _ => rfl) eM26 dX12_init_108 ?_
  clear eM26
  try clear M25
  refine x_aload_n C dX12_init_111 rfl rfl ?_
  refine x_sipush (v := (1024 : Int32)) C dX12_init_112 (by decide) ?_
  obtain ⟨M27, eM27⟩ : ∃ z : Mem, z = uN M26 149 := ⟨_, rfl⟩
  replace hw := hw M27 eM27
  refine k_newa (atype := .boolean) (N := 1024) C ax_boolean rfl (Or.inr (Or.inr ⟨rfl, rfl⟩)) s149 ln149 (by decide) (by decide) (by decide +kernel) ⟨Nat.le_of_ble_eq_true rfl, Nat.le_of_ble_eq_true rfl⟩ eM27 dX12_init_115 ?_
  refine x_kap (κ' := (150, 14, 14258)) rfl ?_
  clear eM27
  try clear M26
  obtain ⟨M28, eM28⟩ : ∃ z : Mem, z = uR M27 135 16 (some 149) := ⟨_, rfl⟩
  replace hw := hw M28 eM28
  refine k_putFR C hin ff_X12_50 (by decide) s135 (fun _ _ => rfl) (fun _ => rfl) (fun _ => rfl) eM28 dX12_init_117 ?_
  clear eM28
  try clear M27
  refine x_aload_n C dX12_init_120 rfl rfl ?_
  refine x_sipush (v := (1024 : Int32)) C dX12_init_121 (by decide) ?_
  obtain ⟨M29, eM29⟩ : ∃ z : Mem, z = uN M28 150 := ⟨_, rfl⟩
  replace hw := hw M29 eM29
  refine k_newa (atype := .boolean) (N := 1024) C ax_boolean rfl (Or.inr (Or.inr ⟨rfl, rfl⟩)) s150 ln150 (by decide) (by decide) (by decide +kernel) ⟨Nat.le_of_ble_eq_true rfl, Nat.le_of_ble_eq_true rfl⟩ eM29 dX12_init_124 ?_
  refine x_kap (κ' := (151, 15, 15282)) rfl ?_
  clear eM29
  try clear M28
  obtain ⟨M30, eM30⟩ : ∃ z : Mem, z = uR M29 135 17 (some 150) := ⟨_, rfl⟩
  replace hw := hw M30 eM30
  refine k_putFR C hin ff_X12_53 (by decide) s135 (fun _ _ => rfl) (fun _ => rfl) (fun _ => rfl) eM30 dX12_init_126 ?_
  clear eM30
  try clear M29
  refine x_aload_n C dX12_init_129 rfl rfl ?_
  refine x_bipush (v := (64 : Int32)) C dX12_init_130 (by decide) ?_
  obtain ⟨M31, eM31⟩ : ∃ z : Mem, z = uN M30 151 := ⟨_, rfl⟩
  replace hw := hw M31 eM31
  refine k_newa (atype := .long) (N := 64) C ax_long rfl (Or.inr (Or.inl ⟨rfl, rfl⟩)) s151 ln151 (by decide) (by decide) (by decide +kernel) ⟨Nat.le_of_ble_eq_true rfl, Nat.le_of_ble_eq_true rfl⟩ eM31 dX12_init_132 ?_
  refine x_kap (κ' := (152, 16, 15346)) rfl ?_
  clear eM31
  try clear M30
  obtain ⟨M32, eM32⟩ : ∃ z : Mem, z = uR M31 135 24 (some 151) := ⟨_, rfl⟩
  replace hw := hw M32 eM32
  refine k_putFR C hin ff_X12_56 (by decide) s135 (fun _ _ => rfl) (fun _ => rfl) (fun _ => rfl) eM32 dX12_init_134 ?_
  clear eM32
  try clear M31
  refine x_aload_n C dX12_init_137 rfl rfl ?_
  refine x_sipush (v := (128 : Int32)) C dX12_init_138 (by decide) ?_
  obtain ⟨M33, eM33⟩ : ∃ z : Mem, z = uN M32 152 := ⟨_, rfl⟩
  replace hw := hw M33 eM33
  refine k_newa (atype := .int) (N := 128) C ax_int rfl (Or.inl ⟨rfl, rfl⟩) s152 ln152 (by decide) (by decide) (by decide +kernel) ⟨Nat.le_of_ble_eq_true rfl, Nat.le_of_ble_eq_true rfl⟩ eM33 dX12_init_141 ?_
  refine x_kap (κ' := (153, 17, 15474)) rfl ?_
  clear eM33
  try clear M32
  obtain ⟨M34, eM34⟩ : ∃ z : Mem, z = uR M33 135 26 (some 152) := ⟨_, rfl⟩
  replace hw := hw M34 eM34
  refine k_putFR C hin ff_X12_60 (by decide) s135 (fun _ _ => rfl) (fun _ => rfl) (fun _ => rfl) eM34 dX12_init_143 ?_
  clear eM34
  try clear M33
  refine x_aload_n C dX12_init_146 rfl rfl ?_
  refine x_bipush (v := (6 : Int32)) C dX12_init_147 (by decide) ?_
  obtain ⟨M35, eM35⟩ : ∃ z : Mem, z = uN M34 153 := ⟨_, rfl⟩
  replace hw := hw M35 eM35
  refine k_newa (atype := .long) (N := 6) C ax_long rfl (Or.inr (Or.inl ⟨rfl, rfl⟩)) s153 ln153 (by decide) (by decide) (by decide +kernel) ⟨Nat.le_of_ble_eq_true rfl, Nat.le_of_ble_eq_true rfl⟩ eM35 dX12_init_149 ?_
  refine x_kap (κ' := (154, 18, 15480)) rfl ?_
  clear eM35
  try clear M34
  obtain ⟨M36, eM36⟩ : ∃ z : Mem, z = uR M35 135 28 (some 153) := ⟨_, rfl⟩
  replace hw := hw M36 eM36
  refine k_putFR C hin ff_X12_63 (by decide) s135 (fun _ _ => rfl) (fun _ => rfl) (fun _ => rfl) eM36 dX12_init_151 ?_
  clear eM36
  try clear M35
  refine x_iconst (v := (0 : Int32)) C dX12_init_154 (by decide) ?_
  refine x_istore_n C dX12_init_155 rfl (Nat.le_of_ble_eq_true rfl) ?_
  refine x_sub [0, 1] (lv' := [(0, .ref (g.2.2.2 + 135)), (1, .int (0 : Int32))]) rfl ?_
  refine x_iload_n C dX12_init_156 rfl rfl ?_
  refine x_iconst (v := (4 : Int32)) C dX12_init_157 (by decide) ?_
  refine x_icmp_ge (tgt := 276) C dX12_init_158 (by decide) (fun h => absurd h (by decide)) (fun _ => ?_)
  refine x_sipush (v := (1106 : Int32)) C dX12_init_161 (by decide) ?_
  refine x_bipush (v := (60 : Int32)) C dX12_init_164 (by decide) ?_
  refine x_iload_n C dX12_init_166 rfl rfl ?_
  refine x_imul C dX12_init_167 ?_
  refine x_topi (x := (0 : Int32)) (by decide) ?_
  refine x_iadd C dX12_init_168 ?_
  refine x_topi (x := (1106 : Int32)) (by decide) ?_
  refine x_istore_n C dX12_init_169 rfl (Nat.le_of_ble_eq_true rfl) ?_
  refine x_sub [0, 1, 2] (lv' := [(0, .ref (g.2.2.2 + 135)), (1, .int (0 : Int32)), (2, .int (1106 : Int32))]) rfl ?_
  refine x_iconst (v := (0 : Int32)) C dX12_init_170 (by decide) ?_
  refine x_istore_n C dX12_init_171 rfl (Nat.le_of_ble_eq_true rfl) ?_
  refine x_sub [0, 1, 2, 3] (lv' := [(0, .ref (g.2.2.2 + 135)), (1, .int (0 : Int32)), (2, .int (1106 : Int32)), (3, .int (0 : Int32))]) rfl ?_
  refine x_iload_n C dX12_init_172 rfl rfl ?_
  refine x_bipush (v := (8 : Int32)) C dX12_init_173 (by decide) ?_
  refine x_icmp_ge (tgt := 193) C dX12_init_175 (by decide) (fun h => absurd h (by decide)) (fun _ => ?_)
  refine x_aload_n C dX12_init_178 rfl rfl ?_
  obtain ⟨h37, hw⟩ := hw
  refine k_getR C fl_X12_7 (by decide) s135 (fun _ _ => rfl) h37 dX12_init_179 ?_
  refine x_iload_n C dX12_init_182 rfl rfl ?_
  refine x_iload_n C dX12_init_183 rfl rfl ?_
  refine x_iadd C dX12_init_184 ?_
  refine x_topi (x := (1106 : Int32)) (by decide) ?_
  refine x_iconst (v := (1 : Int32)) C dX12_init_185 (by decide) ?_
  obtain ⟨M38, eM38⟩ : ∃ z : Mem, z = uI M36 136 1106 (1 : Int32) := ⟨_, rfl⟩
  replace hw := hw M38 eM38
  refine k_iast (ni := 1106) C (by decide) s136 (by decide) (by rw [ln136]; exact vin _ _ (by decide +kernel)) eM38 dX12_init_186 ?_
  clear eM38
  try clear M36
  refine x_iinc (v := (1 : Int32)) C dX12_init_187 rfl (by decide) (Nat.le_of_ble_eq_true rfl) ?_
  refine x_sub [0, 1, 2, 3] (lv' := [(0, .ref (g.2.2.2 + 135)), (1, .int (0 : Int32)), (2, .int (1106 : Int32)), (3, .int (1 : Int32))]) rfl ?_
  refine x_goto (tgt := 172) C dX12_init_190 (by decide) ?_
  refine x_iload_n C dX12_init_172 rfl rfl ?_
  refine x_bipush (v := (8 : Int32)) C dX12_init_173 (by decide) ?_
  refine x_icmp_ge (tgt := 193) C dX12_init_175 (by decide) (fun h => absurd h (by decide)) (fun _ => ?_)
  refine x_aload_n C dX12_init_178 rfl rfl ?_
  obtain ⟨h39, hw⟩ := hw
  refine k_getR C fl_X12_7 (by decide) s135 (fun _ _ => rfl) h39 dX12_init_179 ?_
  refine x_iload_n C dX12_init_182 rfl rfl ?_
  refine x_iload_n C dX12_init_183 rfl rfl ?_
  refine x_iadd C dX12_init_184 ?_
  refine x_topi (x := (1107 : Int32)) (by decide) ?_
  refine x_iconst (v := (1 : Int32)) C dX12_init_185 (by decide) ?_
  obtain ⟨M40, eM40⟩ : ∃ z : Mem, z = uI M38 136 1107 (1 : Int32) := ⟨_, rfl⟩
  replace hw := hw M40 eM40
  refine k_iast (ni := 1107) C (by decide) s136 (by decide) (by rw [ln136]; exact vin _ _ (by decide +kernel)) eM40 dX12_init_186 ?_
  clear eM40
  try clear M38
  refine x_iinc (v := (2 : Int32)) C dX12_init_187 rfl (by decide) (Nat.le_of_ble_eq_true rfl) ?_
  refine x_sub [0, 1, 2, 3] (lv' := [(0, .ref (g.2.2.2 + 135)), (1, .int (0 : Int32)), (2, .int (1106 : Int32)), (3, .int (2 : Int32))]) rfl ?_
  refine x_goto (tgt := 172) C dX12_init_190 (by decide) ?_
  refine x_iload_n C dX12_init_172 rfl rfl ?_
  refine x_bipush (v := (8 : Int32)) C dX12_init_173 (by decide) ?_
  refine x_icmp_ge (tgt := 193) C dX12_init_175 (by decide) (fun h => absurd h (by decide)) (fun _ => ?_)
  refine x_aload_n C dX12_init_178 rfl rfl ?_
  obtain ⟨h41, hw⟩ := hw
  refine k_getR C fl_X12_7 (by decide) s135 (fun _ _ => rfl) h41 dX12_init_179 ?_
  refine x_iload_n C dX12_init_182 rfl rfl ?_
  refine x_iload_n C dX12_init_183 rfl rfl ?_
  refine x_iadd C dX12_init_184 ?_
  refine x_topi (x := (1108 : Int32)) (by decide) ?_
  refine x_iconst (v := (1 : Int32)) C dX12_init_185 (by decide) ?_
  obtain ⟨M42, eM42⟩ : ∃ z : Mem, z = uI M40 136 1108 (1 : Int32) := ⟨_, rfl⟩
  replace hw := hw M42 eM42
  refine k_iast (ni := 1108) C (by decide) s136 (by decide) (by rw [ln136]; exact vin _ _ (by decide +kernel)) eM42 dX12_init_186 ?_
  clear eM42
  try clear M40
  refine x_iinc (v := (3 : Int32)) C dX12_init_187 rfl (by decide) (Nat.le_of_ble_eq_true rfl) ?_
  refine x_sub [0, 1, 2, 3] (lv' := [(0, .ref (g.2.2.2 + 135)), (1, .int (0 : Int32)), (2, .int (1106 : Int32)), (3, .int (3 : Int32))]) rfl ?_
  refine x_goto (tgt := 172) C dX12_init_190 (by decide) ?_
  refine x_iload_n C dX12_init_172 rfl rfl ?_
  refine x_bipush (v := (8 : Int32)) C dX12_init_173 (by decide) ?_
  refine x_icmp_ge (tgt := 193) C dX12_init_175 (by decide) (fun h => absurd h (by decide)) (fun _ => ?_)
  refine x_aload_n C dX12_init_178 rfl rfl ?_
  obtain ⟨h43, hw⟩ := hw
  refine k_getR C fl_X12_7 (by decide) s135 (fun _ _ => rfl) h43 dX12_init_179 ?_
  refine x_iload_n C dX12_init_182 rfl rfl ?_
  refine x_iload_n C dX12_init_183 rfl rfl ?_
  refine x_iadd C dX12_init_184 ?_
  refine x_topi (x := (1109 : Int32)) (by decide) ?_
  refine x_iconst (v := (1 : Int32)) C dX12_init_185 (by decide) ?_
  obtain ⟨M44, eM44⟩ : ∃ z : Mem, z = uI M42 136 1109 (1 : Int32) := ⟨_, rfl⟩
  replace hw := hw M44 eM44
  refine k_iast (ni := 1109) C (by decide) s136 (by decide) (by rw [ln136]; exact vin _ _ (by decide +kernel)) eM44 dX12_init_186 ?_
  clear eM44
  try clear M42
  refine x_iinc (v := (4 : Int32)) C dX12_init_187 rfl (by decide) (Nat.le_of_ble_eq_true rfl) ?_
  refine x_sub [0, 1, 2, 3] (lv' := [(0, .ref (g.2.2.2 + 135)), (1, .int (0 : Int32)), (2, .int (1106 : Int32)), (3, .int (4 : Int32))]) rfl ?_
  refine x_goto (tgt := 172) C dX12_init_190 (by decide) ?_
  refine x_iload_n C dX12_init_172 rfl rfl ?_
  refine x_bipush (v := (8 : Int32)) C dX12_init_173 (by decide) ?_
  refine x_icmp_ge (tgt := 193) C dX12_init_175 (by decide) (fun h => absurd h (by decide)) (fun _ => ?_)
  refine x_aload_n C dX12_init_178 rfl rfl ?_
  obtain ⟨h45, hw⟩ := hw
  refine k_getR C fl_X12_7 (by decide) s135 (fun _ _ => rfl) h45 dX12_init_179 ?_
  refine x_iload_n C dX12_init_182 rfl rfl ?_
  refine x_iload_n C dX12_init_183 rfl rfl ?_
  refine x_iadd C dX12_init_184 ?_
  refine x_topi (x := (1110 : Int32)) (by decide) ?_
  refine x_iconst (v := (1 : Int32)) C dX12_init_185 (by decide) ?_
  obtain ⟨M46, eM46⟩ : ∃ z : Mem, z = uI M44 136 1110 (1 : Int32) := ⟨_, rfl⟩
  replace hw := hw M46 eM46
  refine k_iast (ni := 1110) C (by decide) s136 (by decide) (by rw [ln136]; exact vin _ _ (by decide +kernel)) eM46 dX12_init_186 ?_
  clear eM46
  try clear M44
  refine x_iinc (v := (5 : Int32)) C dX12_init_187 rfl (by decide) (Nat.le_of_ble_eq_true rfl) ?_
  refine x_sub [0, 1, 2, 3] (lv' := [(0, .ref (g.2.2.2 + 135)), (1, .int (0 : Int32)), (2, .int (1106 : Int32)), (3, .int (5 : Int32))]) rfl ?_
  refine x_goto (tgt := 172) C dX12_init_190 (by decide) ?_
  refine x_iload_n C dX12_init_172 rfl rfl ?_
  refine x_bipush (v := (8 : Int32)) C dX12_init_173 (by decide) ?_
  refine x_icmp_ge (tgt := 193) C dX12_init_175 (by decide) (fun h => absurd h (by decide)) (fun _ => ?_)
  refine x_aload_n C dX12_init_178 rfl rfl ?_
  obtain ⟨h47, hw⟩ := hw
  refine k_getR C fl_X12_7 (by decide) s135 (fun _ _ => rfl) h47 dX12_init_179 ?_
  refine x_iload_n C dX12_init_182 rfl rfl ?_
  refine x_iload_n C dX12_init_183 rfl rfl ?_
  refine x_iadd C dX12_init_184 ?_
  refine x_topi (x := (1111 : Int32)) (by decide) ?_
  refine x_iconst (v := (1 : Int32)) C dX12_init_185 (by decide) ?_
  obtain ⟨M48, eM48⟩ : ∃ z : Mem, z = uI M46 136 1111 (1 : Int32) := ⟨_, rfl⟩
  replace hw := hw M48 eM48
  refine k_iast (ni := 1111) C (by decide) s136 (by decide) (by rw [ln136]; exact vin _ _ (by decide +kernel)) eM48 dX12_init_186 ?_
  clear eM48
  try clear M46
  refine x_iinc (v := (6 : Int32)) C dX12_init_187 rfl (by decide) (Nat.le_of_ble_eq_true rfl) ?_
  refine x_sub [0, 1, 2, 3] (lv' := [(0, .ref (g.2.2.2 + 135)), (1, .int (0 : Int32)), (2, .int (1106 : Int32)), (3, .int (6 : Int32))]) rfl ?_
  refine x_goto (tgt := 172) C dX12_init_190 (by decide) ?_
  refine x_iload_n C dX12_init_172 rfl rfl ?_
  refine x_bipush (v := (8 : Int32)) C dX12_init_173 (by decide) ?_
  refine x_icmp_ge (tgt := 193) C dX12_init_175 (by decide) (fun h => absurd h (by decide)) (fun _ => ?_)
  refine x_aload_n C dX12_init_178 rfl rfl ?_
  obtain ⟨h49, hw⟩ := hw
  refine k_getR C fl_X12_7 (by decide) s135 (fun _ _ => rfl) h49 dX12_init_179 ?_
  refine x_iload_n C dX12_init_182 rfl rfl ?_
  refine x_iload_n C dX12_init_183 rfl rfl ?_
  refine x_iadd C dX12_init_184 ?_
  refine x_topi (x := (1112 : Int32)) (by decide) ?_
  refine x_iconst (v := (1 : Int32)) C dX12_init_185 (by decide) ?_
  obtain ⟨M50, eM50⟩ : ∃ z : Mem, z = uI M48 136 1112 (1 : Int32) := ⟨_, rfl⟩
  replace hw := hw M50 eM50
  refine k_iast (ni := 1112) C (by decide) s136 (by decide) (by rw [ln136]; exact vin _ _ (by decide +kernel)) eM50 dX12_init_186 ?_
  clear eM50
  try clear M48
  refine x_iinc (v := (7 : Int32)) C dX12_init_187 rfl (by decide) (Nat.le_of_ble_eq_true rfl) ?_
  refine x_sub [0, 1, 2, 3] (lv' := [(0, .ref (g.2.2.2 + 135)), (1, .int (0 : Int32)), (2, .int (1106 : Int32)), (3, .int (7 : Int32))]) rfl ?_
  refine x_goto (tgt := 172) C dX12_init_190 (by decide) ?_
  refine x_iload_n C dX12_init_172 rfl rfl ?_
  refine x_bipush (v := (8 : Int32)) C dX12_init_173 (by decide) ?_
  refine x_icmp_ge (tgt := 193) C dX12_init_175 (by decide) (fun h => absurd h (by decide)) (fun _ => ?_)
  refine x_aload_n C dX12_init_178 rfl rfl ?_
  obtain ⟨h51, hw⟩ := hw
  refine k_getR C fl_X12_7 (by decide) s135 (fun _ _ => rfl) h51 dX12_init_179 ?_
  refine x_iload_n C dX12_init_182 rfl rfl ?_
  refine x_iload_n C dX12_init_183 rfl rfl ?_
  refine x_iadd C dX12_init_184 ?_
  refine x_topi (x := (1113 : Int32)) (by decide) ?_
  refine x_iconst (v := (1 : Int32)) C dX12_init_185 (by decide) ?_
  obtain ⟨M52, eM52⟩ : ∃ z : Mem, z = uI M50 136 1113 (1 : Int32) := ⟨_, rfl⟩
  replace hw := hw M52 eM52
  refine k_iast (ni := 1113) C (by decide) s136 (by decide) (by rw [ln136]; exact vin _ _ (by decide +kernel)) eM52 dX12_init_186 ?_
  clear eM52
  try clear M50
  refine x_iinc (v := (8 : Int32)) C dX12_init_187 rfl (by decide) (Nat.le_of_ble_eq_true rfl) ?_
  refine x_sub [0, 1, 2, 3] (lv' := [(0, .ref (g.2.2.2 + 135)), (1, .int (0 : Int32)), (2, .int (1106 : Int32)), (3, .int (8 : Int32))]) rfl ?_
  refine x_goto (tgt := 172) C dX12_init_190 (by decide) ?_
  refine x_iload_n C dX12_init_172 rfl rfl ?_
  refine x_bipush (v := (8 : Int32)) C dX12_init_173 (by decide) ?_
  refine x_icmp_ge (tgt := 193) C dX12_init_175 (by decide) (fun _ => ?_) (fun h => absurd (by decide) h)
  refine x_aload_n C dX12_init_193 rfl rfl ?_
  obtain ⟨h53, hw⟩ := hw
  refine k_getR C fl_X12_7 (by decide) s135 (fun _ _ => rfl) h53 dX12_init_194 ?_
  refine x_iload_n C dX12_init_197 rfl rfl ?_
  refine x_bipush (v := (8 : Int32)) C dX12_init_198 (by decide) ?_
  refine x_iadd C dX12_init_200 ?_
  refine x_topi (x := (1114 : Int32)) (by decide) ?_
  refine x_iconst (v := (4 : Int32)) C dX12_init_201 (by decide) ?_
  obtain ⟨M54, eM54⟩ : ∃ z : Mem, z = uI M52 136 1114 (4 : Int32) := ⟨_, rfl⟩
  replace hw := hw M54 eM54
  refine k_iast (ni := 1114) C (by decide) s136 (by decide) (by rw [ln136]; exact vin _ _ (by decide +kernel)) eM54 dX12_init_202 ?_
  clear eM54
  try clear M52
  refine x_aload_n C dX12_init_203 rfl rfl ?_
  obtain ⟨h55, hw⟩ := hw
  refine k_getR C fl_X12_7 (by decide) s135 (fun _ _ => rfl) h55 dX12_init_204 ?_
  refine x_iload_n C dX12_init_207 rfl rfl ?_
  refine x_bipush (v := (9 : Int32)) C dX12_init_208 (by decide) ?_
  refine x_iadd C dX12_init_210 ?_
  refine x_topi (x := (1115 : Int32)) (by decide) ?_
  refine x_iconst (v := (4 : Int32)) C dX12_init_211 (by decide) ?_
  obtain ⟨M56, eM56⟩ : ∃ z : Mem, z = uI M54 136 1115 (4 : Int32) := ⟨_, rfl⟩
  replace hw := hw M56 eM56
  refine k_iast (ni := 1115) C (by decide) s136 (by decide) (by rw [ln136]; exact vin _ _ (by decide +kernel)) eM56 dX12_init_212 ?_
  clear eM56
  try clear M54
  refine x_aload_n C dX12_init_213 rfl rfl ?_
  obtain ⟨h57, hw⟩ := hw
  refine k_getR C fl_X12_7 (by decide) s135 (fun _ _ => rfl) h57 dX12_init_214 ?_
  refine x_iload_n C dX12_init_217 rfl rfl ?_
  refine x_bipush (v := (10 : Int32)) C dX12_init_218 (by decide) ?_
  refine x_iadd C dX12_init_220 ?_
  refine x_topi (x := (1116 : Int32)) (by decide) ?_
  refine x_bipush (v := (10 : Int32)) C dX12_init_221 (by decide) ?_
  obtain ⟨M58, eM58⟩ : ∃ z : Mem, z = uI M56 136 1116 (10 : Int32) := ⟨_, rfl⟩
  replace hw := hw M58 eM58
  refine k_iast (ni := 1116) C (by decide) s136 (by decide) (by rw [ln136]; exact vin _ _ (by decide +kernel)) eM58 dX12_init_223 ?_
  clear eM58
  try clear M56
  refine x_aload_n C dX12_init_224 rfl rfl ?_
  obtain ⟨h59, hw⟩ := hw
  refine k_getR C fl_X12_7 (by decide) s135 (fun _ _ => rfl) h59 dX12_init_225 ?_
  refine x_iload_n C dX12_init_228 rfl rfl ?_
  refine x_bipush (v := (11 : Int32)) C dX12_init_229 (by decide) ?_
  refine x_iadd C dX12_init_231 ?_
  refine x_topi (x := (1117 : Int32)) (by decide) ?_
  refine x_iconst (v := (4 : Int32)) C dX12_init_232 (by decide) ?_
  obtain ⟨M60, eM60⟩ : ∃ z : Mem, z = uI M58 136 1117 (4 : Int32) := ⟨_, rfl⟩
  replace hw := hw M60 eM60
  refine k_iast (ni := 1117) C (by decide) s136 (by decide) (by rw [ln136]; exact vin _ _ (by decide +kernel)) eM60 dX12_init_233 ?_
  clear eM60
  try clear M58
  refine x_aload_n C dX12_init_234 rfl rfl ?_
  obtain ⟨h61, hw⟩ := hw
  refine k_getR C fl_X12_7 (by decide) s135 (fun _ _ => rfl) h61 dX12_init_235 ?_
  refine x_iload_n C dX12_init_238 rfl rfl ?_
  refine x_bipush (v := (12 : Int32)) C dX12_init_239 (by decide) ?_
  refine x_iadd C dX12_init_241 ?_
  refine x_topi (x := (1118 : Int32)) (by decide) ?_
  refine x_iconst (v := (5 : Int32)) C dX12_init_242 (by decide) ?_
  obtain ⟨M62, eM62⟩ : ∃ z : Mem, z = uI M60 136 1118 (5 : Int32) := ⟨_, rfl⟩
  replace hw := hw M62 eM62
  refine k_iast (ni := 1118) C (by decide) s136 (by decide) (by rw [ln136]; exact vin _ _ (by decide +kernel)) eM62 dX12_init_243 ?_
  clear eM62
  try clear M60
  refine x_iconst (v := (0 : Int32)) C dX12_init_244 (by decide) ?_
  refine x_istore_n C dX12_init_245 rfl (Nat.le_of_ble_eq_true rfl) ?_
  refine x_sub [0, 1, 2, 3] (lv' := [(0, .ref (g.2.2.2 + 135)), (1, .int (0 : Int32)), (2, .int (1106 : Int32)), (3, .int (0 : Int32))]) rfl ?_
  refine x_iload_n C dX12_init_246 rfl rfl ?_
  refine x_bipush (v := (16 : Int32)) C dX12_init_247 (by decide) ?_
  refine x_icmp_ge (tgt := 270) C dX12_init_249 (by decide) (fun h => absurd h (by decide)) (fun _ => ?_)
  refine x_aload_n C dX12_init_252 rfl rfl ?_
  obtain ⟨h63, hw⟩ := hw
  refine k_getR C fl_X12_7 (by decide) s135 (fun _ _ => rfl) h63 dX12_init_253 ?_
  refine x_iload_n C dX12_init_256 rfl rfl ?_
  refine x_bipush (v := (20 : Int32)) C dX12_init_257 (by decide) ?_
  refine x_iadd C dX12_init_259 ?_
  refine x_topi (x := (1126 : Int32)) (by decide) ?_
  refine x_iload_n C dX12_init_260 rfl rfl ?_
  refine x_iadd C dX12_init_261 ?_
  refine x_topi (x := (1126 : Int32)) (by decide) ?_
  refine x_iconst (v := (-1 : Int32)) C dX12_init_262 (by decide) ?_
  obtain ⟨M64, eM64⟩ : ∃ z : Mem, z = uI M62 136 1126 (-1 : Int32) := ⟨_, rfl⟩
  replace hw := hw M64 eM64
  refine k_iast (ni := 1126) C (by decide) s136 (by decide) (by rw [ln136]; exact vin _ _ (by decide +kernel)) eM64 dX12_init_263 ?_
  clear eM64
  try clear M62
  refine x_iinc (v := (1 : Int32)) C dX12_init_264 rfl (by decide) (Nat.le_of_ble_eq_true rfl) ?_
  refine x_sub [0, 1, 2, 3] (lv' := [(0, .ref (g.2.2.2 + 135)), (1, .int (0 : Int32)), (2, .int (1106 : Int32)), (3, .int (1 : Int32))]) rfl ?_
  refine x_goto (tgt := 246) C dX12_init_267 (by decide) ?_
  refine x_iload_n C dX12_init_246 rfl rfl ?_
  refine x_bipush (v := (16 : Int32)) C dX12_init_247 (by decide) ?_
  refine x_icmp_ge (tgt := 270) C dX12_init_249 (by decide) (fun h => absurd h (by decide)) (fun _ => ?_)
  refine x_aload_n C dX12_init_252 rfl rfl ?_
  obtain ⟨h65, hw⟩ := hw
  refine k_getR C fl_X12_7 (by decide) s135 (fun _ _ => rfl) h65 dX12_init_253 ?_
  refine x_iload_n C dX12_init_256 rfl rfl ?_
  refine x_bipush (v := (20 : Int32)) C dX12_init_257 (by decide) ?_
  refine x_iadd C dX12_init_259 ?_
  refine x_topi (x := (1126 : Int32)) (by decide) ?_
  refine x_iload_n C dX12_init_260 rfl rfl ?_
  refine x_iadd C dX12_init_261 ?_
  refine x_topi (x := (1127 : Int32)) (by decide) ?_
  refine x_iconst (v := (-1 : Int32)) C dX12_init_262 (by decide) ?_
  obtain ⟨M66, eM66⟩ : ∃ z : Mem, z = uI M64 136 1127 (-1 : Int32) := ⟨_, rfl⟩
  replace hw := hw M66 eM66
  refine k_iast (ni := 1127) C (by decide) s136 (by decide) (by rw [ln136]; exact vin _ _ (by decide +kernel)) eM66 dX12_init_263 ?_
  clear eM66
  try clear M64
  refine x_iinc (v := (2 : Int32)) C dX12_init_264 rfl (by decide) (Nat.le_of_ble_eq_true rfl) ?_
  refine x_sub [0, 1, 2, 3] (lv' := [(0, .ref (g.2.2.2 + 135)), (1, .int (0 : Int32)), (2, .int (1106 : Int32)), (3, .int (2 : Int32))]) rfl ?_
  refine x_goto (tgt := 246) C dX12_init_267 (by decide) ?_
  refine x_iload_n C dX12_init_246 rfl rfl ?_
  refine x_bipush (v := (16 : Int32)) C dX12_init_247 (by decide) ?_
  refine x_icmp_ge (tgt := 270) C dX12_init_249 (by decide) (fun h => absurd h (by decide)) (fun _ => ?_)
  refine x_aload_n C dX12_init_252 rfl rfl ?_
  obtain ⟨h67, hw⟩ := hw
  refine k_getR C fl_X12_7 (by decide) s135 (fun _ _ => rfl) h67 dX12_init_253 ?_
  refine x_iload_n C dX12_init_256 rfl rfl ?_
  refine x_bipush (v := (20 : Int32)) C dX12_init_257 (by decide) ?_
  refine x_iadd C dX12_init_259 ?_
  refine x_topi (x := (1126 : Int32)) (by decide) ?_
  refine x_iload_n C dX12_init_260 rfl rfl ?_
  refine x_iadd C dX12_init_261 ?_
  refine x_topi (x := (1128 : Int32)) (by decide) ?_
  refine x_iconst (v := (-1 : Int32)) C dX12_init_262 (by decide) ?_
  obtain ⟨M68, eM68⟩ : ∃ z : Mem, z = uI M66 136 1128 (-1 : Int32) := ⟨_, rfl⟩
  replace hw := hw M68 eM68
  refine k_iast (ni := 1128) C (by decide) s136 (by decide) (by rw [ln136]; exact vin _ _ (by decide +kernel)) eM68 dX12_init_263 ?_
  clear eM68
  try clear M66
  refine x_iinc (v := (3 : Int32)) C dX12_init_264 rfl (by decide) (Nat.le_of_ble_eq_true rfl) ?_
  refine x_sub [0, 1, 2, 3] (lv' := [(0, .ref (g.2.2.2 + 135)), (1, .int (0 : Int32)), (2, .int (1106 : Int32)), (3, .int (3 : Int32))]) rfl ?_
  refine x_goto (tgt := 246) C dX12_init_267 (by decide) ?_
  refine x_iload_n C dX12_init_246 rfl rfl ?_
  refine x_bipush (v := (16 : Int32)) C dX12_init_247 (by decide) ?_
  refine x_icmp_ge (tgt := 270) C dX12_init_249 (by decide) (fun h => absurd h (by decide)) (fun _ => ?_)
  refine x_aload_n C dX12_init_252 rfl rfl ?_
  obtain ⟨h69, hw⟩ := hw
  refine k_getR C fl_X12_7 (by decide) s135 (fun _ _ => rfl) h69 dX12_init_253 ?_
  refine x_iload_n C dX12_init_256 rfl rfl ?_
  refine x_bipush (v := (20 : Int32)) C dX12_init_257 (by decide) ?_
  refine x_iadd C dX12_init_259 ?_
  refine x_topi (x := (1126 : Int32)) (by decide) ?_
  refine x_iload_n C dX12_init_260 rfl rfl ?_
  refine x_iadd C dX12_init_261 ?_
  refine x_topi (x := (1129 : Int32)) (by decide) ?_
  refine x_iconst (v := (-1 : Int32)) C dX12_init_262 (by decide) ?_
  obtain ⟨M70, eM70⟩ : ∃ z : Mem, z = uI M68 136 1129 (-1 : Int32) := ⟨_, rfl⟩
  replace hw := hw M70 eM70
  refine k_iast (ni := 1129) C (by decide) s136 (by decide) (by rw [ln136]; exact vin _ _ (by decide +kernel)) eM70 dX12_init_263 ?_
  clear eM70
  try clear M68
  refine x_iinc (v := (4 : Int32)) C dX12_init_264 rfl (by decide) (Nat.le_of_ble_eq_true rfl) ?_
  refine x_sub [0, 1, 2, 3] (lv' := [(0, .ref (g.2.2.2 + 135)), (1, .int (0 : Int32)), (2, .int (1106 : Int32)), (3, .int (4 : Int32))]) rfl ?_
  refine x_goto (tgt := 246) C dX12_init_267 (by decide) ?_
  refine x_iload_n C dX12_init_246 rfl rfl ?_
  refine x_bipush (v := (16 : Int32)) C dX12_init_247 (by decide) ?_
  refine x_icmp_ge (tgt := 270) C dX12_init_249 (by decide) (fun h => absurd h (by decide)) (fun _ => ?_)
  refine x_aload_n C dX12_init_252 rfl rfl ?_
  obtain ⟨h71, hw⟩ := hw
  refine k_getR C fl_X12_7 (by decide) s135 (fun _ _ => rfl) h71 dX12_init_253 ?_
  refine x_iload_n C dX12_init_256 rfl rfl ?_
  refine x_bipush (v := (20 : Int32)) C dX12_init_257 (by decide) ?_
  refine x_iadd C dX12_init_259 ?_
  refine x_topi (x := (1126 : Int32)) (by decide) ?_
  refine x_iload_n C dX12_init_260 rfl rfl ?_
  refine x_iadd C dX12_init_261 ?_
  refine x_topi (x := (1130 : Int32)) (by decide) ?_
  refine x_iconst (v := (-1 : Int32)) C dX12_init_262 (by decide) ?_
  obtain ⟨M72, eM72⟩ : ∃ z : Mem, z = uI M70 136 1130 (-1 : Int32) := ⟨_, rfl⟩
  replace hw := hw M72 eM72
  refine k_iast (ni := 1130) C (by decide) s136 (by decide) (by rw [ln136]; exact vin _ _ (by decide +kernel)) eM72 dX12_init_263 ?_
  clear eM72
  try clear M70
  refine x_iinc (v := (5 : Int32)) C dX12_init_264 rfl (by decide) (Nat.le_of_ble_eq_true rfl) ?_
  refine x_sub [0, 1, 2, 3] (lv' := [(0, .ref (g.2.2.2 + 135)), (1, .int (0 : Int32)), (2, .int (1106 : Int32)), (3, .int (5 : Int32))]) rfl ?_
  refine x_goto (tgt := 246) C dX12_init_267 (by decide) ?_
  refine x_iload_n C dX12_init_246 rfl rfl ?_
  refine x_bipush (v := (16 : Int32)) C dX12_init_247 (by decide) ?_
  refine x_icmp_ge (tgt := 270) C dX12_init_249 (by decide) (fun h => absurd h (by decide)) (fun _ => ?_)
  refine x_aload_n C dX12_init_252 rfl rfl ?_
  obtain ⟨h73, hw⟩ := hw
  refine k_getR C fl_X12_7 (by decide) s135 (fun _ _ => rfl) h73 dX12_init_253 ?_
  refine x_iload_n C dX12_init_256 rfl rfl ?_
  refine x_bipush (v := (20 : Int32)) C dX12_init_257 (by decide) ?_
  refine x_iadd C dX12_init_259 ?_
  refine x_topi (x := (1126 : Int32)) (by decide) ?_
  refine x_iload_n C dX12_init_260 rfl rfl ?_
  refine x_iadd C dX12_init_261 ?_
  refine x_topi (x := (1131 : Int32)) (by decide) ?_
  refine x_iconst (v := (-1 : Int32)) C dX12_init_262 (by decide) ?_
  obtain ⟨M74, eM74⟩ : ∃ z : Mem, z = uI M72 136 1131 (-1 : Int32) := ⟨_, rfl⟩
  replace hw := hw M74 eM74
  refine k_iast (ni := 1131) C (by decide) s136 (by decide) (by rw [ln136]; exact vin _ _ (by decide +kernel)) eM74 dX12_init_263 ?_
  clear eM74
  try clear M72
  refine x_iinc (v := (6 : Int32)) C dX12_init_264 rfl (by decide) (Nat.le_of_ble_eq_true rfl) ?_
  refine x_sub [0, 1, 2, 3] (lv' := [(0, .ref (g.2.2.2 + 135)), (1, .int (0 : Int32)), (2, .int (1106 : Int32)), (3, .int (6 : Int32))]) rfl ?_
  refine x_goto (tgt := 246) C dX12_init_267 (by decide) ?_
  refine x_iload_n C dX12_init_246 rfl rfl ?_
  refine x_bipush (v := (16 : Int32)) C dX12_init_247 (by decide) ?_
  refine x_icmp_ge (tgt := 270) C dX12_init_249 (by decide) (fun h => absurd h (by decide)) (fun _ => ?_)
  refine x_aload_n C dX12_init_252 rfl rfl ?_
  obtain ⟨h75, hw⟩ := hw
  refine k_getR C fl_X12_7 (by decide) s135 (fun _ _ => rfl) h75 dX12_init_253 ?_
  refine x_iload_n C dX12_init_256 rfl rfl ?_
  refine x_bipush (v := (20 : Int32)) C dX12_init_257 (by decide) ?_
  refine x_iadd C dX12_init_259 ?_
  refine x_topi (x := (1126 : Int32)) (by decide) ?_
  refine x_iload_n C dX12_init_260 rfl rfl ?_
  refine x_iadd C dX12_init_261 ?_
  refine x_topi (x := (1132 : Int32)) (by decide) ?_
  refine x_iconst (v := (-1 : Int32)) C dX12_init_262 (by decide) ?_
  obtain ⟨M76, eM76⟩ : ∃ z : Mem, z = uI M74 136 1132 (-1 : Int32) := ⟨_, rfl⟩
  replace hw := hw M76 eM76
  refine k_iast (ni := 1132) C (by decide) s136 (by decide) (by rw [ln136]; exact vin _ _ (by decide +kernel)) eM76 dX12_init_263 ?_
  clear eM76
  try clear M74
  refine x_iinc (v := (7 : Int32)) C dX12_init_264 rfl (by decide) (Nat.le_of_ble_eq_true rfl) ?_
  refine x_sub [0, 1, 2, 3] (lv' := [(0, .ref (g.2.2.2 + 135)), (1, .int (0 : Int32)), (2, .int (1106 : Int32)), (3, .int (7 : Int32))]) rfl ?_
  refine x_goto (tgt := 246) C dX12_init_267 (by decide) ?_
  refine x_iload_n C dX12_init_246 rfl rfl ?_
  refine x_bipush (v := (16 : Int32)) C dX12_init_247 (by decide) ?_
  refine x_icmp_ge (tgt := 270) C dX12_init_249 (by decide) (fun h => absurd h (by decide)) (fun _ => ?_)
  refine x_aload_n C dX12_init_252 rfl rfl ?_
  obtain ⟨h77, hw⟩ := hw
  refine k_getR C fl_X12_7 (by decide) s135 (fun _ _ => rfl) h77 dX12_init_253 ?_
  refine x_iload_n C dX12_init_256 rfl rfl ?_
  refine x_bipush (v := (20 : Int32)) C dX12_init_257 (by decide) ?_
  refine x_iadd C dX12_init_259 ?_
  refine x_topi (x := (1126 : Int32)) (by decide) ?_
  refine x_iload_n C dX12_init_260 rfl rfl ?_
  refine x_iadd C dX12_init_261 ?_
  refine x_topi (x := (1133 : Int32)) (by decide) ?_
  refine x_iconst (v := (-1 : Int32)) C dX12_init_262 (by decide) ?_
  obtain ⟨M78, eM78⟩ : ∃ z : Mem, z = uI M76 136 1133 (-1 : Int32) := ⟨_, rfl⟩
  replace hw := hw M78 eM78
  refine k_iast (ni := 1133) C (by decide) s136 (by decide) (by rw [ln136]; exact vin _ _ (by decide +kernel)) eM78 dX12_init_263 ?_
  clear eM78
  try clear M76
  refine x_iinc (v := (8 : Int32)) C dX12_init_264 rfl (by decide) (Nat.le_of_ble_eq_true rfl) ?_
  refine x_sub [0, 1, 2, 3] (lv' := [(0, .ref (g.2.2.2 + 135)), (1, .int (0 : Int32)), (2, .int (1106 : Int32)), (3, .int (8 : Int32))]) rfl ?_
  refine x_goto (tgt := 246) C dX12_init_267 (by decide) ?_
  refine x_iload_n C dX12_init_246 rfl rfl ?_
  refine x_bipush (v := (16 : Int32)) C dX12_init_247 (by decide) ?_
  refine x_icmp_ge (tgt := 270) C dX12_init_249 (by decide) (fun h => absurd h (by decide)) (fun _ => ?_)
  refine x_aload_n C dX12_init_252 rfl rfl ?_
  obtain ⟨h79, hw⟩ := hw
  refine k_getR C fl_X12_7 (by decide) s135 (fun _ _ => rfl) h79 dX12_init_253 ?_
  refine x_iload_n C dX12_init_256 rfl rfl ?_
  refine x_bipush (v := (20 : Int32)) C dX12_init_257 (by decide) ?_
  refine x_iadd C dX12_init_259 ?_
  refine x_topi (x := (1126 : Int32)) (by decide) ?_
  refine x_iload_n C dX12_init_260 rfl rfl ?_
  refine x_iadd C dX12_init_261 ?_
  refine x_topi (x := (1134 : Int32)) (by decide) ?_
  refine x_iconst (v := (-1 : Int32)) C dX12_init_262 (by decide) ?_
  obtain ⟨M80, eM80⟩ : ∃ z : Mem, z = uI M78 136 1134 (-1 : Int32) := ⟨_, rfl⟩
  replace hw := hw M80 eM80
  refine k_iast (ni := 1134) C (by decide) s136 (by decide) (by rw [ln136]; exact vin _ _ (by decide +kernel)) eM80 dX12_init_263 ?_
  clear eM80
  try clear M78
  refine x_iinc (v := (9 : Int32)) C dX12_init_264 rfl (by decide) (Nat.le_of_ble_eq_true rfl) ?_
  refine x_sub [0, 1, 2, 3] (lv' := [(0, .ref (g.2.2.2 + 135)), (1, .int (0 : Int32)), (2, .int (1106 : Int32)), (3, .int (9 : Int32))]) rfl ?_
  refine x_goto (tgt := 246) C dX12_init_267 (by decide) ?_
  refine x_iload_n C dX12_init_246 rfl rfl ?_
  refine x_bipush (v := (16 : Int32)) C dX12_init_247 (by decide) ?_
  refine x_icmp_ge (tgt := 270) C dX12_init_249 (by decide) (fun h => absurd h (by decide)) (fun _ => ?_)
  refine x_aload_n C dX12_init_252 rfl rfl ?_
  obtain ⟨h81, hw⟩ := hw
  refine k_getR C fl_X12_7 (by decide) s135 (fun _ _ => rfl) h81 dX12_init_253 ?_
  refine x_iload_n C dX12_init_256 rfl rfl ?_
  refine x_bipush (v := (20 : Int32)) C dX12_init_257 (by decide) ?_
  refine x_iadd C dX12_init_259 ?_
  refine x_topi (x := (1126 : Int32)) (by decide) ?_
  refine x_iload_n C dX12_init_260 rfl rfl ?_
  refine x_iadd C dX12_init_261 ?_
  refine x_topi (x := (1135 : Int32)) (by decide) ?_
  refine x_iconst (v := (-1 : Int32)) C dX12_init_262 (by decide) ?_
  obtain ⟨M82, eM82⟩ : ∃ z : Mem, z = uI M80 136 1135 (-1 : Int32) := ⟨_, rfl⟩
  replace hw := hw M82 eM82
  refine k_iast (ni := 1135) C (by decide) s136 (by decide) (by rw [ln136]; exact vin _ _ (by decide +kernel)) eM82 dX12_init_263 ?_
  clear eM82
  try clear M80
  refine x_iinc (v := (10 : Int32)) C dX12_init_264 rfl (by decide) (Nat.le_of_ble_eq_true rfl) ?_
  refine x_sub [0, 1, 2, 3] (lv' := [(0, .ref (g.2.2.2 + 135)), (1, .int (0 : Int32)), (2, .int (1106 : Int32)), (3, .int (10 : Int32))]) rfl ?_
  refine x_goto (tgt := 246) C dX12_init_267 (by decide) ?_
  refine x_iload_n C dX12_init_246 rfl rfl ?_
  refine x_bipush (v := (16 : Int32)) C dX12_init_247 (by decide) ?_
  refine x_icmp_ge (tgt := 270) C dX12_init_249 (by decide) (fun h => absurd h (by decide)) (fun _ => ?_)
  refine x_aload_n C dX12_init_252 rfl rfl ?_
  obtain ⟨h83, hw⟩ := hw
  refine k_getR C fl_X12_7 (by decide) s135 (fun _ _ => rfl) h83 dX12_init_253 ?_
  refine x_iload_n C dX12_init_256 rfl rfl ?_
  refine x_bipush (v := (20 : Int32)) C dX12_init_257 (by decide) ?_
  refine x_iadd C dX12_init_259 ?_
  refine x_topi (x := (1126 : Int32)) (by decide) ?_
  refine x_iload_n C dX12_init_260 rfl rfl ?_
  refine x_iadd C dX12_init_261 ?_
  refine x_topi (x := (1136 : Int32)) (by decide) ?_
  refine x_iconst (v := (-1 : Int32)) C dX12_init_262 (by decide) ?_
  obtain ⟨M84, eM84⟩ : ∃ z : Mem, z = uI M82 136 1136 (-1 : Int32) := ⟨_, rfl⟩
  replace hw := hw M84 eM84
  refine k_iast (ni := 1136) C (by decide) s136 (by decide) (by rw [ln136]; exact vin _ _ (by decide +kernel)) eM84 dX12_init_263 ?_
  clear eM84
  try clear M82
  refine x_iinc (v := (11 : Int32)) C dX12_init_264 rfl (by decide) (Nat.le_of_ble_eq_true rfl) ?_
  refine x_sub [0, 1, 2, 3] (lv' := [(0, .ref (g.2.2.2 + 135)), (1, .int (0 : Int32)), (2, .int (1106 : Int32)), (3, .int (11 : Int32))]) rfl ?_
  refine x_goto (tgt := 246) C dX12_init_267 (by decide) ?_
  refine x_iload_n C dX12_init_246 rfl rfl ?_
  refine x_bipush (v := (16 : Int32)) C dX12_init_247 (by decide) ?_
  refine x_icmp_ge (tgt := 270) C dX12_init_249 (by decide) (fun h => absurd h (by decide)) (fun _ => ?_)
  refine x_aload_n C dX12_init_252 rfl rfl ?_
  obtain ⟨h85, hw⟩ := hw
  refine k_getR C fl_X12_7 (by decide) s135 (fun _ _ => rfl) h85 dX12_init_253 ?_
  refine x_iload_n C dX12_init_256 rfl rfl ?_
  refine x_bipush (v := (20 : Int32)) C dX12_init_257 (by decide) ?_
  refine x_iadd C dX12_init_259 ?_
  refine x_topi (x := (1126 : Int32)) (by decide) ?_
  refine x_iload_n C dX12_init_260 rfl rfl ?_
  refine x_iadd C dX12_init_261 ?_
  refine x_topi (x := (1137 : Int32)) (by decide) ?_
  refine x_iconst (v := (-1 : Int32)) C dX12_init_262 (by decide) ?_
  obtain ⟨M86, eM86⟩ : ∃ z : Mem, z = uI M84 136 1137 (-1 : Int32) := ⟨_, rfl⟩
  replace hw := hw M86 eM86
  refine k_iast (ni := 1137) C (by decide) s136 (by decide) (by rw [ln136]; exact vin _ _ (by decide +kernel)) eM86 dX12_init_263 ?_
  clear eM86
  try clear M84
  refine x_iinc (v := (12 : Int32)) C dX12_init_264 rfl (by decide) (Nat.le_of_ble_eq_true rfl) ?_
  refine x_sub [0, 1, 2, 3] (lv' := [(0, .ref (g.2.2.2 + 135)), (1, .int (0 : Int32)), (2, .int (1106 : Int32)), (3, .int (12 : Int32))]) rfl ?_
  refine x_goto (tgt := 246) C dX12_init_267 (by decide) ?_
  refine x_iload_n C dX12_init_246 rfl rfl ?_
  refine x_bipush (v := (16 : Int32)) C dX12_init_247 (by decide) ?_
  refine x_icmp_ge (tgt := 270) C dX12_init_249 (by decide) (fun h => absurd h (by decide)) (fun _ => ?_)
  refine x_aload_n C dX12_init_252 rfl rfl ?_
  obtain ⟨h87, hw⟩ := hw
  refine k_getR C fl_X12_7 (by decide) s135 (fun _ _ => rfl) h87 dX12_init_253 ?_
  refine x_iload_n C dX12_init_256 rfl rfl ?_
  refine x_bipush (v := (20 : Int32)) C dX12_init_257 (by decide) ?_
  refine x_iadd C dX12_init_259 ?_
  refine x_topi (x := (1126 : Int32)) (by decide) ?_
  refine x_iload_n C dX12_init_260 rfl rfl ?_
  refine x_iadd C dX12_init_261 ?_
  refine x_topi (x := (1138 : Int32)) (by decide) ?_
  refine x_iconst (v := (-1 : Int32)) C dX12_init_262 (by decide) ?_
  obtain ⟨M88, eM88⟩ : ∃ z : Mem, z = uI M86 136 1138 (-1 : Int32) := ⟨_, rfl⟩
  replace hw := hw M88 eM88
  refine k_iast (ni := 1138) C (by decide) s136 (by decide) (by rw [ln136]; exact vin _ _ (by decide +kernel)) eM88 dX12_init_263 ?_
  clear eM88
  try clear M86
  refine x_iinc (v := (13 : Int32)) C dX12_init_264 rfl (by decide) (Nat.le_of_ble_eq_true rfl) ?_
  refine x_sub [0, 1, 2, 3] (lv' := [(0, .ref (g.2.2.2 + 135)), (1, .int (0 : Int32)), (2, .int (1106 : Int32)), (3, .int (13 : Int32))]) rfl ?_
  refine x_goto (tgt := 246) C dX12_init_267 (by decide) ?_
  refine x_iload_n C dX12_init_246 rfl rfl ?_
  refine x_bipush (v := (16 : Int32)) C dX12_init_247 (by decide) ?_
  refine x_icmp_ge (tgt := 270) C dX12_init_249 (by decide) (fun h => absurd h (by decide)) (fun _ => ?_)
  refine x_aload_n C dX12_init_252 rfl rfl ?_
  obtain ⟨h89, hw⟩ := hw
  refine k_getR C fl_X12_7 (by decide) s135 (fun _ _ => rfl) h89 dX12_init_253 ?_
  refine x_iload_n C dX12_init_256 rfl rfl ?_
  refine x_bipush (v := (20 : Int32)) C dX12_init_257 (by decide) ?_
  refine x_iadd C dX12_init_259 ?_
  refine x_topi (x := (1126 : Int32)) (by decide) ?_
  refine x_iload_n C dX12_init_260 rfl rfl ?_
  refine x_iadd C dX12_init_261 ?_
  refine x_topi (x := (1139 : Int32)) (by decide) ?_
  refine x_iconst (v := (-1 : Int32)) C dX12_init_262 (by decide) ?_
  obtain ⟨M90, eM90⟩ : ∃ z : Mem, z = uI M88 136 1139 (-1 : Int32) := ⟨_, rfl⟩
  replace hw := hw M90 eM90
  refine k_iast (ni := 1139) C (by decide) s136 (by decide) (by rw [ln136]; exact vin _ _ (by decide +kernel)) eM90 dX12_init_263 ?_
  clear eM90
  try clear M88
  refine x_iinc (v := (14 : Int32)) C dX12_init_264 rfl (by decide) (Nat.le_of_ble_eq_true rfl) ?_
  refine x_sub [0, 1, 2, 3] (lv' := [(0, .ref (g.2.2.2 + 135)), (1, .int (0 : Int32)), (2, .int (1106 : Int32)), (3, .int (14 : Int32))]) rfl ?_
  refine x_goto (tgt := 246) C dX12_init_267 (by decide) ?_
  refine x_iload_n C dX12_init_246 rfl rfl ?_
  refine x_bipush (v := (16 : Int32)) C dX12_init_247 (by decide) ?_
  refine x_icmp_ge (tgt := 270) C dX12_init_249 (by decide) (fun h => absurd h (by decide)) (fun _ => ?_)
  refine x_aload_n C dX12_init_252 rfl rfl ?_
  obtain ⟨h91, hw⟩ := hw
  refine k_getR C fl_X12_7 (by decide) s135 (fun _ _ => rfl) h91 dX12_init_253 ?_
  refine x_iload_n C dX12_init_256 rfl rfl ?_
  refine x_bipush (v := (20 : Int32)) C dX12_init_257 (by decide) ?_
  refine x_iadd C dX12_init_259 ?_
  refine x_topi (x := (1126 : Int32)) (by decide) ?_
  refine x_iload_n C dX12_init_260 rfl rfl ?_
  refine x_iadd C dX12_init_261 ?_
  refine x_topi (x := (1140 : Int32)) (by decide) ?_
  refine x_iconst (v := (-1 : Int32)) C dX12_init_262 (by decide) ?_
  obtain ⟨M92, eM92⟩ : ∃ z : Mem, z = uI M90 136 1140 (-1 : Int32) := ⟨_, rfl⟩
  replace hw := hw M92 eM92
  refine k_iast (ni := 1140) C (by decide) s136 (by decide) (by rw [ln136]; exact vin _ _ (by decide +kernel)) eM92 dX12_init_263 ?_
  clear eM92
  try clear M90
  refine x_iinc (v := (15 : Int32)) C dX12_init_264 rfl (by decide) (Nat.le_of_ble_eq_true rfl) ?_
  refine x_sub [0, 1, 2, 3] (lv' := [(0, .ref (g.2.2.2 + 135)), (1, .int (0 : Int32)), (2, .int (1106 : Int32)), (3, .int (15 : Int32))]) rfl ?_
  refine x_goto (tgt := 246) C dX12_init_267 (by decide) ?_
  refine x_iload_n C dX12_init_246 rfl rfl ?_
  refine x_bipush (v := (16 : Int32)) C dX12_init_247 (by decide) ?_
  refine x_icmp_ge (tgt := 270) C dX12_init_249 (by decide) (fun h => absurd h (by decide)) (fun _ => ?_)
  refine x_aload_n C dX12_init_252 rfl rfl ?_
  obtain ⟨h93, hw⟩ := hw
  refine k_getR C fl_X12_7 (by decide) s135 (fun _ _ => rfl) h93 dX12_init_253 ?_
  refine x_iload_n C dX12_init_256 rfl rfl ?_
  refine x_bipush (v := (20 : Int32)) C dX12_init_257 (by decide) ?_
  refine x_iadd C dX12_init_259 ?_
  refine x_topi (x := (1126 : Int32)) (by decide) ?_
  refine x_iload_n C dX12_init_260 rfl rfl ?_
  refine x_iadd C dX12_init_261 ?_
  refine x_topi (x := (1141 : Int32)) (by decide) ?_
  refine x_iconst (v := (-1 : Int32)) C dX12_init_262 (by decide) ?_
  obtain ⟨M94, eM94⟩ : ∃ z : Mem, z = uI M92 136 1141 (-1 : Int32) := ⟨_, rfl⟩
  replace hw := hw M94 eM94
  refine k_iast (ni := 1141) C (by decide) s136 (by decide) (by rw [ln136]; exact vin _ _ (by decide +kernel)) eM94 dX12_init_263 ?_
  clear eM94
  try clear M92
  refine x_iinc (v := (16 : Int32)) C dX12_init_264 rfl (by decide) (Nat.le_of_ble_eq_true rfl) ?_
  refine x_sub [0, 1, 2, 3] (lv' := [(0, .ref (g.2.2.2 + 135)), (1, .int (0 : Int32)), (2, .int (1106 : Int32)), (3, .int (16 : Int32))]) rfl ?_
  refine x_goto (tgt := 246) C dX12_init_267 (by decide) ?_
  refine x_iload_n C dX12_init_246 rfl rfl ?_
  refine x_bipush (v := (16 : Int32)) C dX12_init_247 (by decide) ?_
  refine x_icmp_ge (tgt := 270) C dX12_init_249 (by decide) (fun _ => ?_) (fun h => absurd (by decide) h)
  refine x_iinc (v := (1 : Int32)) C dX12_init_270 rfl (by decide) (Nat.le_of_ble_eq_true rfl) ?_
  refine x_sub [0, 1, 2, 3] (lv' := [(0, .ref (g.2.2.2 + 135)), (1, .int (1 : Int32)), (2, .int (1106 : Int32)), (3, .int (16 : Int32))]) rfl ?_
  refine x_goto (tgt := 156) C dX12_init_273 (by decide) ?_
  refine x_iload_n C dX12_init_156 rfl rfl ?_
  refine x_iconst (v := (4 : Int32)) C dX12_init_157 (by decide) ?_
  refine x_icmp_ge (tgt := 276) C dX12_init_158 (by decide) (fun h => absurd h (by decide)) (fun _ => ?_)
  refine x_sipush (v := (1106 : Int32)) C dX12_init_161 (by decide) ?_
  refine x_bipush (v := (60 : Int32)) C dX12_init_164 (by decide) ?_
  refine x_iload_n C dX12_init_166 rfl rfl ?_
  refine x_imul C dX12_init_167 ?_
  refine x_topi (x := (60 : Int32)) (by decide) ?_
  refine x_iadd C dX12_init_168 ?_
  refine x_topi (x := (1166 : Int32)) (by decide) ?_
  refine x_istore_n C dX12_init_169 rfl (Nat.le_of_ble_eq_true rfl) ?_
  refine x_sub [0, 1, 2, 3] (lv' := [(0, .ref (g.2.2.2 + 135)), (1, .int (1 : Int32)), (2, .int (1166 : Int32)), (3, .int (16 : Int32))]) rfl ?_
  refine x_iconst (v := (0 : Int32)) C dX12_init_170 (by decide) ?_
  refine x_istore_n C dX12_init_171 rfl (Nat.le_of_ble_eq_true rfl) ?_
  refine x_sub [0, 1, 2, 3] (lv' := [(0, .ref (g.2.2.2 + 135)), (1, .int (1 : Int32)), (2, .int (1166 : Int32)), (3, .int (0 : Int32))]) rfl ?_
  refine x_iload_n C dX12_init_172 rfl rfl ?_
  refine x_bipush (v := (8 : Int32)) C dX12_init_173 (by decide) ?_
  refine x_icmp_ge (tgt := 193) C dX12_init_175 (by decide) (fun h => absurd h (by decide)) (fun _ => ?_)
  refine x_aload_n C dX12_init_178 rfl rfl ?_
  obtain ⟨h95, hw⟩ := hw
  refine k_getR C fl_X12_7 (by decide) s135 (fun _ _ => rfl) h95 dX12_init_179 ?_
  refine x_iload_n C dX12_init_182 rfl rfl ?_
  refine x_iload_n C dX12_init_183 rfl rfl ?_
  refine x_iadd C dX12_init_184 ?_
  refine x_topi (x := (1166 : Int32)) (by decide) ?_
  refine x_iconst (v := (1 : Int32)) C dX12_init_185 (by decide) ?_
  obtain ⟨M96, eM96⟩ : ∃ z : Mem, z = uI M94 136 1166 (1 : Int32) := ⟨_, rfl⟩
  replace hw := hw M96 eM96
  refine k_iast (ni := 1166) C (by decide) s136 (by decide) (by rw [ln136]; exact vin _ _ (by decide +kernel)) eM96 dX12_init_186 ?_
  clear eM96
  try clear M94
  refine x_iinc (v := (1 : Int32)) C dX12_init_187 rfl (by decide) (Nat.le_of_ble_eq_true rfl) ?_
  refine x_sub [0, 1, 2, 3] (lv' := [(0, .ref (g.2.2.2 + 135)), (1, .int (1 : Int32)), (2, .int (1166 : Int32)), (3, .int (1 : Int32))]) rfl ?_
  refine x_goto (tgt := 172) C dX12_init_190 (by decide) ?_
  refine x_iload_n C dX12_init_172 rfl rfl ?_
  refine x_bipush (v := (8 : Int32)) C dX12_init_173 (by decide) ?_
  refine x_icmp_ge (tgt := 193) C dX12_init_175 (by decide) (fun h => absurd h (by decide)) (fun _ => ?_)
  refine x_aload_n C dX12_init_178 rfl rfl ?_
  obtain ⟨h97, hw⟩ := hw
  refine k_getR C fl_X12_7 (by decide) s135 (fun _ _ => rfl) h97 dX12_init_179 ?_
  refine x_iload_n C dX12_init_182 rfl rfl ?_
  refine x_iload_n C dX12_init_183 rfl rfl ?_
  refine x_iadd C dX12_init_184 ?_
  refine x_topi (x := (1167 : Int32)) (by decide) ?_
  refine x_iconst (v := (1 : Int32)) C dX12_init_185 (by decide) ?_
  obtain ⟨M98, eM98⟩ : ∃ z : Mem, z = uI M96 136 1167 (1 : Int32) := ⟨_, rfl⟩
  replace hw := hw M98 eM98
  refine k_iast (ni := 1167) C (by decide) s136 (by decide) (by rw [ln136]; exact vin _ _ (by decide +kernel)) eM98 dX12_init_186 ?_
  clear eM98
  try clear M96
  refine x_iinc (v := (2 : Int32)) C dX12_init_187 rfl (by decide) (Nat.le_of_ble_eq_true rfl) ?_
  refine x_sub [0, 1, 2, 3] (lv' := [(0, .ref (g.2.2.2 + 135)), (1, .int (1 : Int32)), (2, .int (1166 : Int32)), (3, .int (2 : Int32))]) rfl ?_
  refine x_goto (tgt := 172) C dX12_init_190 (by decide) ?_
  refine x_iload_n C dX12_init_172 rfl rfl ?_
  refine x_bipush (v := (8 : Int32)) C dX12_init_173 (by decide) ?_
  refine x_icmp_ge (tgt := 193) C dX12_init_175 (by decide) (fun h => absurd h (by decide)) (fun _ => ?_)
  refine x_aload_n C dX12_init_178 rfl rfl ?_
  obtain ⟨h99, hw⟩ := hw
  refine k_getR C fl_X12_7 (by decide) s135 (fun _ _ => rfl) h99 dX12_init_179 ?_
  refine x_iload_n C dX12_init_182 rfl rfl ?_
  refine x_iload_n C dX12_init_183 rfl rfl ?_
  refine x_iadd C dX12_init_184 ?_
  refine x_topi (x := (1168 : Int32)) (by decide) ?_
  refine x_iconst (v := (1 : Int32)) C dX12_init_185 (by decide) ?_
  obtain ⟨M100, eM100⟩ : ∃ z : Mem, z = uI M98 136 1168 (1 : Int32) := ⟨_, rfl⟩
  replace hw := hw M100 eM100
  refine k_iast (ni := 1168) C (by decide) s136 (by decide) (by rw [ln136]; exact vin _ _ (by decide +kernel)) eM100 dX12_init_186 ?_
  clear eM100
  try clear M98
  refine x_iinc (v := (3 : Int32)) C dX12_init_187 rfl (by decide) (Nat.le_of_ble_eq_true rfl) ?_
  refine x_sub [0, 1, 2, 3] (lv' := [(0, .ref (g.2.2.2 + 135)), (1, .int (1 : Int32)), (2, .int (1166 : Int32)), (3, .int (3 : Int32))]) rfl ?_
  refine x_goto (tgt := 172) C dX12_init_190 (by decide) ?_
  refine x_iload_n C dX12_init_172 rfl rfl ?_
  refine x_bipush (v := (8 : Int32)) C dX12_init_173 (by decide) ?_
  refine x_icmp_ge (tgt := 193) C dX12_init_175 (by decide) (fun h => absurd h (by decide)) (fun _ => ?_)
  refine x_aload_n C dX12_init_178 rfl rfl ?_
  obtain ⟨h101, hw⟩ := hw
  refine k_getR C fl_X12_7 (by decide) s135 (fun _ _ => rfl) h101 dX12_init_179 ?_
  refine x_iload_n C dX12_init_182 rfl rfl ?_
  refine x_iload_n C dX12_init_183 rfl rfl ?_
  refine x_iadd C dX12_init_184 ?_
  refine x_topi (x := (1169 : Int32)) (by decide) ?_
  refine x_iconst (v := (1 : Int32)) C dX12_init_185 (by decide) ?_
  obtain ⟨M102, eM102⟩ : ∃ z : Mem, z = uI M100 136 1169 (1 : Int32) := ⟨_, rfl⟩
  replace hw := hw M102 eM102
  refine k_iast (ni := 1169) C (by decide) s136 (by decide) (by rw [ln136]; exact vin _ _ (by decide +kernel)) eM102 dX12_init_186 ?_
  clear eM102
  try clear M100
  refine x_iinc (v := (4 : Int32)) C dX12_init_187 rfl (by decide) (Nat.le_of_ble_eq_true rfl) ?_
  refine x_sub [0, 1, 2, 3] (lv' := [(0, .ref (g.2.2.2 + 135)), (1, .int (1 : Int32)), (2, .int (1166 : Int32)), (3, .int (4 : Int32))]) rfl ?_
  refine x_goto (tgt := 172) C dX12_init_190 (by decide) ?_
  refine x_iload_n C dX12_init_172 rfl rfl ?_
  refine x_bipush (v := (8 : Int32)) C dX12_init_173 (by decide) ?_
  refine x_icmp_ge (tgt := 193) C dX12_init_175 (by decide) (fun h => absurd h (by decide)) (fun _ => ?_)
  refine x_aload_n C dX12_init_178 rfl rfl ?_
  obtain ⟨h103, hw⟩ := hw
  refine k_getR C fl_X12_7 (by decide) s135 (fun _ _ => rfl) h103 dX12_init_179 ?_
  refine x_iload_n C dX12_init_182 rfl rfl ?_
  refine x_iload_n C dX12_init_183 rfl rfl ?_
  refine x_iadd C dX12_init_184 ?_
  refine x_topi (x := (1170 : Int32)) (by decide) ?_
  refine x_iconst (v := (1 : Int32)) C dX12_init_185 (by decide) ?_
  obtain ⟨M104, eM104⟩ : ∃ z : Mem, z = uI M102 136 1170 (1 : Int32) := ⟨_, rfl⟩
  replace hw := hw M104 eM104
  refine k_iast (ni := 1170) C (by decide) s136 (by decide) (by rw [ln136]; exact vin _ _ (by decide +kernel)) eM104 dX12_init_186 ?_
  clear eM104
  try clear M102
  refine x_iinc (v := (5 : Int32)) C dX12_init_187 rfl (by decide) (Nat.le_of_ble_eq_true rfl) ?_
  refine x_sub [0, 1, 2, 3] (lv' := [(0, .ref (g.2.2.2 + 135)), (1, .int (1 : Int32)), (2, .int (1166 : Int32)), (3, .int (5 : Int32))]) rfl ?_
  refine x_goto (tgt := 172) C dX12_init_190 (by decide) ?_
  refine x_iload_n C dX12_init_172 rfl rfl ?_
  refine x_bipush (v := (8 : Int32)) C dX12_init_173 (by decide) ?_
  refine x_icmp_ge (tgt := 193) C dX12_init_175 (by decide) (fun h => absurd h (by decide)) (fun _ => ?_)
  refine x_aload_n C dX12_init_178 rfl rfl ?_
  obtain ⟨h105, hw⟩ := hw
  refine k_getR C fl_X12_7 (by decide) s135 (fun _ _ => rfl) h105 dX12_init_179 ?_
  refine x_iload_n C dX12_init_182 rfl rfl ?_
  refine x_iload_n C dX12_init_183 rfl rfl ?_
  refine x_iadd C dX12_init_184 ?_
  refine x_topi (x := (1171 : Int32)) (by decide) ?_
  refine x_iconst (v := (1 : Int32)) C dX12_init_185 (by decide) ?_
  obtain ⟨M106, eM106⟩ : ∃ z : Mem, z = uI M104 136 1171 (1 : Int32) := ⟨_, rfl⟩
  replace hw := hw M106 eM106
  refine k_iast (ni := 1171) C (by decide) s136 (by decide) (by rw [ln136]; exact vin _ _ (by decide +kernel)) eM106 dX12_init_186 ?_
  clear eM106
  try clear M104
  refine x_iinc (v := (6 : Int32)) C dX12_init_187 rfl (by decide) (Nat.le_of_ble_eq_true rfl) ?_
  refine x_sub [0, 1, 2, 3] (lv' := [(0, .ref (g.2.2.2 + 135)), (1, .int (1 : Int32)), (2, .int (1166 : Int32)), (3, .int (6 : Int32))]) rfl ?_
  refine x_goto (tgt := 172) C dX12_init_190 (by decide) ?_
  refine x_iload_n C dX12_init_172 rfl rfl ?_
  refine x_bipush (v := (8 : Int32)) C dX12_init_173 (by decide) ?_
  refine x_icmp_ge (tgt := 193) C dX12_init_175 (by decide) (fun h => absurd h (by decide)) (fun _ => ?_)
  refine x_aload_n C dX12_init_178 rfl rfl ?_
  obtain ⟨h107, hw⟩ := hw
  refine k_getR C fl_X12_7 (by decide) s135 (fun _ _ => rfl) h107 dX12_init_179 ?_
  refine x_iload_n C dX12_init_182 rfl rfl ?_
  refine x_iload_n C dX12_init_183 rfl rfl ?_
  refine x_iadd C dX12_init_184 ?_
  refine x_topi (x := (1172 : Int32)) (by decide) ?_
  refine x_iconst (v := (1 : Int32)) C dX12_init_185 (by decide) ?_
  obtain ⟨M108, eM108⟩ : ∃ z : Mem, z = uI M106 136 1172 (1 : Int32) := ⟨_, rfl⟩
  replace hw := hw M108 eM108
  refine k_iast (ni := 1172) C (by decide) s136 (by decide) (by rw [ln136]; exact vin _ _ (by decide +kernel)) eM108 dX12_init_186 ?_
  clear eM108
  try clear M106
  refine x_iinc (v := (7 : Int32)) C dX12_init_187 rfl (by decide) (Nat.le_of_ble_eq_true rfl) ?_
  refine x_sub [0, 1, 2, 3] (lv' := [(0, .ref (g.2.2.2 + 135)), (1, .int (1 : Int32)), (2, .int (1166 : Int32)), (3, .int (7 : Int32))]) rfl ?_
  refine x_goto (tgt := 172) C dX12_init_190 (by decide) ?_
  refine x_iload_n C dX12_init_172 rfl rfl ?_
  refine x_bipush (v := (8 : Int32)) C dX12_init_173 (by decide) ?_
  refine x_icmp_ge (tgt := 193) C dX12_init_175 (by decide) (fun h => absurd h (by decide)) (fun _ => ?_)
  refine x_aload_n C dX12_init_178 rfl rfl ?_
  obtain ⟨h109, hw⟩ := hw
  refine k_getR C fl_X12_7 (by decide) s135 (fun _ _ => rfl) h109 dX12_init_179 ?_
  refine x_iload_n C dX12_init_182 rfl rfl ?_
  refine x_iload_n C dX12_init_183 rfl rfl ?_
  refine x_iadd C dX12_init_184 ?_
  refine x_topi (x := (1173 : Int32)) (by decide) ?_
  refine x_iconst (v := (1 : Int32)) C dX12_init_185 (by decide) ?_
  obtain ⟨M110, eM110⟩ : ∃ z : Mem, z = uI M108 136 1173 (1 : Int32) := ⟨_, rfl⟩
  replace hw := hw M110 eM110
  refine k_iast (ni := 1173) C (by decide) s136 (by decide) (by rw [ln136]; exact vin _ _ (by decide +kernel)) eM110 dX12_init_186 ?_
  clear eM110
  try clear M108
  refine x_iinc (v := (8 : Int32)) C dX12_init_187 rfl (by decide) (Nat.le_of_ble_eq_true rfl) ?_
  refine x_sub [0, 1, 2, 3] (lv' := [(0, .ref (g.2.2.2 + 135)), (1, .int (1 : Int32)), (2, .int (1166 : Int32)), (3, .int (8 : Int32))]) rfl ?_
  refine x_goto (tgt := 172) C dX12_init_190 (by decide) ?_
  refine x_iload_n C dX12_init_172 rfl rfl ?_
  refine x_bipush (v := (8 : Int32)) C dX12_init_173 (by decide) ?_
  refine x_icmp_ge (tgt := 193) C dX12_init_175 (by decide) (fun _ => ?_) (fun h => absurd (by decide) h)
  refine x_aload_n C dX12_init_193 rfl rfl ?_
  obtain ⟨h111, hw⟩ := hw
  refine k_getR C fl_X12_7 (by decide) s135 (fun _ _ => rfl) h111 dX12_init_194 ?_
  refine x_iload_n C dX12_init_197 rfl rfl ?_
  refine x_bipush (v := (8 : Int32)) C dX12_init_198 (by decide) ?_
  refine x_iadd C dX12_init_200 ?_
  refine x_topi (x := (1174 : Int32)) (by decide) ?_
  refine x_iconst (v := (4 : Int32)) C dX12_init_201 (by decide) ?_
  obtain ⟨M112, eM112⟩ : ∃ z : Mem, z = uI M110 136 1174 (4 : Int32) := ⟨_, rfl⟩
  replace hw := hw M112 eM112
  refine k_iast (ni := 1174) C (by decide) s136 (by decide) (by rw [ln136]; exact vin _ _ (by decide +kernel)) eM112 dX12_init_202 ?_
  clear eM112
  try clear M110
  refine x_aload_n C dX12_init_203 rfl rfl ?_
  obtain ⟨h113, hw⟩ := hw
  refine k_getR C fl_X12_7 (by decide) s135 (fun _ _ => rfl) h113 dX12_init_204 ?_
  refine x_iload_n C dX12_init_207 rfl rfl ?_
  refine x_bipush (v := (9 : Int32)) C dX12_init_208 (by decide) ?_
  refine x_iadd C dX12_init_210 ?_
  refine x_topi (x := (1175 : Int32)) (by decide) ?_
  refine x_iconst (v := (4 : Int32)) C dX12_init_211 (by decide) ?_
  obtain ⟨M114, eM114⟩ : ∃ z : Mem, z = uI M112 136 1175 (4 : Int32) := ⟨_, rfl⟩
  replace hw := hw M114 eM114
  refine k_iast (ni := 1175) C (by decide) s136 (by decide) (by rw [ln136]; exact vin _ _ (by decide +kernel)) eM114 dX12_init_212 ?_
  clear eM114
  try clear M112
  refine x_aload_n C dX12_init_213 rfl rfl ?_
  obtain ⟨h115, hw⟩ := hw
  refine k_getR C fl_X12_7 (by decide) s135 (fun _ _ => rfl) h115 dX12_init_214 ?_
  refine x_iload_n C dX12_init_217 rfl rfl ?_
  refine x_bipush (v := (10 : Int32)) C dX12_init_218 (by decide) ?_
  refine x_iadd C dX12_init_220 ?_
  refine x_topi (x := (1176 : Int32)) (by decide) ?_
  refine x_bipush (v := (10 : Int32)) C dX12_init_221 (by decide) ?_
  obtain ⟨M116, eM116⟩ : ∃ z : Mem, z = uI M114 136 1176 (10 : Int32) := ⟨_, rfl⟩
  replace hw := hw M116 eM116
  refine k_iast (ni := 1176) C (by decide) s136 (by decide) (by rw [ln136]; exact vin _ _ (by decide +kernel)) eM116 dX12_init_223 ?_
  clear eM116
  try clear M114
  refine x_aload_n C dX12_init_224 rfl rfl ?_
  obtain ⟨h117, hw⟩ := hw
  refine k_getR C fl_X12_7 (by decide) s135 (fun _ _ => rfl) h117 dX12_init_225 ?_
  refine x_iload_n C dX12_init_228 rfl rfl ?_
  refine x_bipush (v := (11 : Int32)) C dX12_init_229 (by decide) ?_
  refine x_iadd C dX12_init_231 ?_
  refine x_topi (x := (1177 : Int32)) (by decide) ?_
  refine x_iconst (v := (4 : Int32)) C dX12_init_232 (by decide) ?_
  obtain ⟨M118, eM118⟩ : ∃ z : Mem, z = uI M116 136 1177 (4 : Int32) := ⟨_, rfl⟩
  replace hw := hw M118 eM118
  refine k_iast (ni := 1177) C (by decide) s136 (by decide) (by rw [ln136]; exact vin _ _ (by decide +kernel)) eM118 dX12_init_233 ?_
  clear eM118
  try clear M116
  refine x_aload_n C dX12_init_234 rfl rfl ?_
  obtain ⟨h119, hw⟩ := hw
  refine k_getR C fl_X12_7 (by decide) s135 (fun _ _ => rfl) h119 dX12_init_235 ?_
  refine x_iload_n C dX12_init_238 rfl rfl ?_
  refine x_bipush (v := (12 : Int32)) C dX12_init_239 (by decide) ?_
  refine x_iadd C dX12_init_241 ?_
  refine x_topi (x := (1178 : Int32)) (by decide) ?_
  refine x_iconst (v := (5 : Int32)) C dX12_init_242 (by decide) ?_
  obtain ⟨M120, eM120⟩ : ∃ z : Mem, z = uI M118 136 1178 (5 : Int32) := ⟨_, rfl⟩
  replace hw := hw M120 eM120
  refine k_iast (ni := 1178) C (by decide) s136 (by decide) (by rw [ln136]; exact vin _ _ (by decide +kernel)) eM120 dX12_init_243 ?_
  clear eM120
  try clear M118
  refine x_iconst (v := (0 : Int32)) C dX12_init_244 (by decide) ?_
  refine x_istore_n C dX12_init_245 rfl (Nat.le_of_ble_eq_true rfl) ?_
  refine x_sub [0, 1, 2, 3] (lv' := [(0, .ref (g.2.2.2 + 135)), (1, .int (1 : Int32)), (2, .int (1166 : Int32)), (3, .int (0 : Int32))]) rfl ?_
  refine x_iload_n C dX12_init_246 rfl rfl ?_
  refine x_bipush (v := (16 : Int32)) C dX12_init_247 (by decide) ?_
  refine x_icmp_ge (tgt := 270) C dX12_init_249 (by decide) (fun h => absurd h (by decide)) (fun _ => ?_)
  refine x_aload_n C dX12_init_252 rfl rfl ?_
  obtain ⟨h121, hw⟩ := hw
  refine k_getR C fl_X12_7 (by decide) s135 (fun _ _ => rfl) h121 dX12_init_253 ?_
  refine x_iload_n C dX12_init_256 rfl rfl ?_
  refine x_bipush (v := (20 : Int32)) C dX12_init_257 (by decide) ?_
  refine x_iadd C dX12_init_259 ?_
  refine x_topi (x := (1186 : Int32)) (by decide) ?_
  refine x_iload_n C dX12_init_260 rfl rfl ?_
  refine x_iadd C dX12_init_261 ?_
  refine x_topi (x := (1186 : Int32)) (by decide) ?_
  refine x_iconst (v := (-1 : Int32)) C dX12_init_262 (by decide) ?_
  obtain ⟨M122, eM122⟩ : ∃ z : Mem, z = uI M120 136 1186 (-1 : Int32) := ⟨_, rfl⟩
  replace hw := hw M122 eM122
  refine k_iast (ni := 1186) C (by decide) s136 (by decide) (by rw [ln136]; exact vin _ _ (by decide +kernel)) eM122 dX12_init_263 ?_
  clear eM122
  try clear M120
  refine x_iinc (v := (1 : Int32)) C dX12_init_264 rfl (by decide) (Nat.le_of_ble_eq_true rfl) ?_
  refine x_sub [0, 1, 2, 3] (lv' := [(0, .ref (g.2.2.2 + 135)), (1, .int (1 : Int32)), (2, .int (1166 : Int32)), (3, .int (1 : Int32))]) rfl ?_
  refine x_goto (tgt := 246) C dX12_init_267 (by decide) ?_
  refine x_iload_n C dX12_init_246 rfl rfl ?_
  refine x_bipush (v := (16 : Int32)) C dX12_init_247 (by decide) ?_
  refine x_icmp_ge (tgt := 270) C dX12_init_249 (by decide) (fun h => absurd h (by decide)) (fun _ => ?_)
  refine x_aload_n C dX12_init_252 rfl rfl ?_
  obtain ⟨h123, hw⟩ := hw
  refine k_getR C fl_X12_7 (by decide) s135 (fun _ _ => rfl) h123 dX12_init_253 ?_
  refine x_iload_n C dX12_init_256 rfl rfl ?_
  refine x_bipush (v := (20 : Int32)) C dX12_init_257 (by decide) ?_
  refine x_iadd C dX12_init_259 ?_
  refine x_topi (x := (1186 : Int32)) (by decide) ?_
  refine x_iload_n C dX12_init_260 rfl rfl ?_
  refine x_iadd C dX12_init_261 ?_
  refine x_topi (x := (1187 : Int32)) (by decide) ?_
  refine x_iconst (v := (-1 : Int32)) C dX12_init_262 (by decide) ?_
  obtain ⟨M124, eM124⟩ : ∃ z : Mem, z = uI M122 136 1187 (-1 : Int32) := ⟨_, rfl⟩
  replace hw := hw M124 eM124
  refine k_iast (ni := 1187) C (by decide) s136 (by decide) (by rw [ln136]; exact vin _ _ (by decide +kernel)) eM124 dX12_init_263 ?_
  clear eM124
  try clear M122
  refine x_iinc (v := (2 : Int32)) C dX12_init_264 rfl (by decide) (Nat.le_of_ble_eq_true rfl) ?_
  refine x_sub [0, 1, 2, 3] (lv' := [(0, .ref (g.2.2.2 + 135)), (1, .int (1 : Int32)), (2, .int (1166 : Int32)), (3, .int (2 : Int32))]) rfl ?_
  refine x_goto (tgt := 246) C dX12_init_267 (by decide) ?_
  refine x_iload_n C dX12_init_246 rfl rfl ?_
  refine x_bipush (v := (16 : Int32)) C dX12_init_247 (by decide) ?_
  refine x_icmp_ge (tgt := 270) C dX12_init_249 (by decide) (fun h => absurd h (by decide)) (fun _ => ?_)
  refine x_aload_n C dX12_init_252 rfl rfl ?_
  obtain ⟨h125, hw⟩ := hw
  refine k_getR C fl_X12_7 (by decide) s135 (fun _ _ => rfl) h125 dX12_init_253 ?_
  refine x_iload_n C dX12_init_256 rfl rfl ?_
  refine x_bipush (v := (20 : Int32)) C dX12_init_257 (by decide) ?_
  refine x_iadd C dX12_init_259 ?_
  refine x_topi (x := (1186 : Int32)) (by decide) ?_
  refine x_iload_n C dX12_init_260 rfl rfl ?_
  refine x_iadd C dX12_init_261 ?_
  refine x_topi (x := (1188 : Int32)) (by decide) ?_
  refine x_iconst (v := (-1 : Int32)) C dX12_init_262 (by decide) ?_
  obtain ⟨M126, eM126⟩ : ∃ z : Mem, z = uI M124 136 1188 (-1 : Int32) := ⟨_, rfl⟩
  replace hw := hw M126 eM126
  refine k_iast (ni := 1188) C (by decide) s136 (by decide) (by rw [ln136]; exact vin _ _ (by decide +kernel)) eM126 dX12_init_263 ?_
  clear eM126
  try clear M124
  refine x_iinc (v := (3 : Int32)) C dX12_init_264 rfl (by decide) (Nat.le_of_ble_eq_true rfl) ?_
  refine x_sub [0, 1, 2, 3] (lv' := [(0, .ref (g.2.2.2 + 135)), (1, .int (1 : Int32)), (2, .int (1166 : Int32)), (3, .int (3 : Int32))]) rfl ?_
  refine x_goto (tgt := 246) C dX12_init_267 (by decide) ?_
  refine x_iload_n C dX12_init_246 rfl rfl ?_
  refine x_bipush (v := (16 : Int32)) C dX12_init_247 (by decide) ?_
  refine x_icmp_ge (tgt := 270) C dX12_init_249 (by decide) (fun h => absurd h (by decide)) (fun _ => ?_)
  refine x_aload_n C dX12_init_252 rfl rfl ?_
  obtain ⟨h127, hw⟩ := hw
  refine k_getR C fl_X12_7 (by decide) s135 (fun _ _ => rfl) h127 dX12_init_253 ?_
  refine x_iload_n C dX12_init_256 rfl rfl ?_
  refine x_bipush (v := (20 : Int32)) C dX12_init_257 (by decide) ?_
  refine x_iadd C dX12_init_259 ?_
  refine x_topi (x := (1186 : Int32)) (by decide) ?_
  refine x_iload_n C dX12_init_260 rfl rfl ?_
  refine x_iadd C dX12_init_261 ?_
  refine x_topi (x := (1189 : Int32)) (by decide) ?_
  refine x_iconst (v := (-1 : Int32)) C dX12_init_262 (by decide) ?_
  obtain ⟨M128, eM128⟩ : ∃ z : Mem, z = uI M126 136 1189 (-1 : Int32) := ⟨_, rfl⟩
  replace hw := hw M128 eM128
  refine k_iast (ni := 1189) C (by decide) s136 (by decide) (by rw [ln136]; exact vin _ _ (by decide +kernel)) eM128 dX12_init_263 ?_
  clear eM128
  try clear M126
  refine x_iinc (v := (4 : Int32)) C dX12_init_264 rfl (by decide) (Nat.le_of_ble_eq_true rfl) ?_
  refine x_sub [0, 1, 2, 3] (lv' := [(0, .ref (g.2.2.2 + 135)), (1, .int (1 : Int32)), (2, .int (1166 : Int32)), (3, .int (4 : Int32))]) rfl ?_
  refine x_goto (tgt := 246) C dX12_init_267 (by decide) ?_
  refine x_iload_n C dX12_init_246 rfl rfl ?_
  refine x_bipush (v := (16 : Int32)) C dX12_init_247 (by decide) ?_
  refine x_icmp_ge (tgt := 270) C dX12_init_249 (by decide) (fun h => absurd h (by decide)) (fun _ => ?_)
  refine x_aload_n C dX12_init_252 rfl rfl ?_
  obtain ⟨h129, hw⟩ := hw
  refine k_getR C fl_X12_7 (by decide) s135 (fun _ _ => rfl) h129 dX12_init_253 ?_
  refine x_iload_n C dX12_init_256 rfl rfl ?_
  refine x_bipush (v := (20 : Int32)) C dX12_init_257 (by decide) ?_
  refine x_iadd C dX12_init_259 ?_
  refine x_topi (x := (1186 : Int32)) (by decide) ?_
  refine x_iload_n C dX12_init_260 rfl rfl ?_
  refine x_iadd C dX12_init_261 ?_
  refine x_topi (x := (1190 : Int32)) (by decide) ?_
  refine x_iconst (v := (-1 : Int32)) C dX12_init_262 (by decide) ?_
  obtain ⟨M130, eM130⟩ : ∃ z : Mem, z = uI M128 136 1190 (-1 : Int32) := ⟨_, rfl⟩
  replace hw := hw M130 eM130
  refine k_iast (ni := 1190) C (by decide) s136 (by decide) (by rw [ln136]; exact vin _ _ (by decide +kernel)) eM130 dX12_init_263 ?_
  clear eM130
  try clear M128
  refine x_iinc (v := (5 : Int32)) C dX12_init_264 rfl (by decide) (Nat.le_of_ble_eq_true rfl) ?_
  refine x_sub [0, 1, 2, 3] (lv' := [(0, .ref (g.2.2.2 + 135)), (1, .int (1 : Int32)), (2, .int (1166 : Int32)), (3, .int (5 : Int32))]) rfl ?_
  refine x_goto (tgt := 246) C dX12_init_267 (by decide) ?_
  refine x_iload_n C dX12_init_246 rfl rfl ?_
  refine x_bipush (v := (16 : Int32)) C dX12_init_247 (by decide) ?_
  refine x_icmp_ge (tgt := 270) C dX12_init_249 (by decide) (fun h => absurd h (by decide)) (fun _ => ?_)
  refine x_aload_n C dX12_init_252 rfl rfl ?_
  obtain ⟨h131, hw⟩ := hw
  refine k_getR C fl_X12_7 (by decide) s135 (fun _ _ => rfl) h131 dX12_init_253 ?_
  refine x_iload_n C dX12_init_256 rfl rfl ?_
  refine x_bipush (v := (20 : Int32)) C dX12_init_257 (by decide) ?_
  refine x_iadd C dX12_init_259 ?_
  refine x_topi (x := (1186 : Int32)) (by decide) ?_
  refine x_iload_n C dX12_init_260 rfl rfl ?_
  refine x_iadd C dX12_init_261 ?_
  refine x_topi (x := (1191 : Int32)) (by decide) ?_
  refine x_iconst (v := (-1 : Int32)) C dX12_init_262 (by decide) ?_
  obtain ⟨M132, eM132⟩ : ∃ z : Mem, z = uI M130 136 1191 (-1 : Int32) := ⟨_, rfl⟩
  replace hw := hw M132 eM132
  refine k_iast (ni := 1191) C (by decide) s136 (by decide) (by rw [ln136]; exact vin _ _ (by decide +kernel)) eM132 dX12_init_263 ?_
  clear eM132
  try clear M130
  refine x_iinc (v := (6 : Int32)) C dX12_init_264 rfl (by decide) (Nat.le_of_ble_eq_true rfl) ?_
  refine x_sub [0, 1, 2, 3] (lv' := [(0, .ref (g.2.2.2 + 135)), (1, .int (1 : Int32)), (2, .int (1166 : Int32)), (3, .int (6 : Int32))]) rfl ?_
  refine x_goto (tgt := 246) C dX12_init_267 (by decide) ?_
  refine x_iload_n C dX12_init_246 rfl rfl ?_
  refine x_bipush (v := (16 : Int32)) C dX12_init_247 (by decide) ?_
  refine x_icmp_ge (tgt := 270) C dX12_init_249 (by decide) (fun h => absurd h (by decide)) (fun _ => ?_)
  refine x_aload_n C dX12_init_252 rfl rfl ?_
  obtain ⟨h133, hw⟩ := hw
  refine k_getR C fl_X12_7 (by decide) s135 (fun _ _ => rfl) h133 dX12_init_253 ?_
  refine x_iload_n C dX12_init_256 rfl rfl ?_
  refine x_bipush (v := (20 : Int32)) C dX12_init_257 (by decide) ?_
  refine x_iadd C dX12_init_259 ?_
  refine x_topi (x := (1186 : Int32)) (by decide) ?_
  refine x_iload_n C dX12_init_260 rfl rfl ?_
  refine x_iadd C dX12_init_261 ?_
  refine x_topi (x := (1192 : Int32)) (by decide) ?_
  refine x_iconst (v := (-1 : Int32)) C dX12_init_262 (by decide) ?_
  obtain ⟨M134, eM134⟩ : ∃ z : Mem, z = uI M132 136 1192 (-1 : Int32) := ⟨_, rfl⟩
  replace hw := hw M134 eM134
  refine k_iast (ni := 1192) C (by decide) s136 (by decide) (by rw [ln136]; exact vin _ _ (by decide +kernel)) eM134 dX12_init_263 ?_
  clear eM134
  try clear M132
  refine x_iinc (v := (7 : Int32)) C dX12_init_264 rfl (by decide) (Nat.le_of_ble_eq_true rfl) ?_
  refine x_sub [0, 1, 2, 3] (lv' := [(0, .ref (g.2.2.2 + 135)), (1, .int (1 : Int32)), (2, .int (1166 : Int32)), (3, .int (7 : Int32))]) rfl ?_
  refine x_goto (tgt := 246) C dX12_init_267 (by decide) ?_
  refine x_iload_n C dX12_init_246 rfl rfl ?_
  refine x_bipush (v := (16 : Int32)) C dX12_init_247 (by decide) ?_
  refine x_icmp_ge (tgt := 270) C dX12_init_249 (by decide) (fun h => absurd h (by decide)) (fun _ => ?_)
  refine x_aload_n C dX12_init_252 rfl rfl ?_
  obtain ⟨h135, hw⟩ := hw
  refine k_getR C fl_X12_7 (by decide) s135 (fun _ _ => rfl) h135 dX12_init_253 ?_
  refine x_iload_n C dX12_init_256 rfl rfl ?_
  refine x_bipush (v := (20 : Int32)) C dX12_init_257 (by decide) ?_
  refine x_iadd C dX12_init_259 ?_
  refine x_topi (x := (1186 : Int32)) (by decide) ?_
  refine x_iload_n C dX12_init_260 rfl rfl ?_
  refine x_iadd C dX12_init_261 ?_
  refine x_topi (x := (1193 : Int32)) (by decide) ?_
  refine x_iconst (v := (-1 : Int32)) C dX12_init_262 (by decide) ?_
  obtain ⟨M136, eM136⟩ : ∃ z : Mem, z = uI M134 136 1193 (-1 : Int32) := ⟨_, rfl⟩
  replace hw := hw M136 eM136
  refine k_iast (ni := 1193) C (by decide) s136 (by decide) (by rw [ln136]; exact vin _ _ (by decide +kernel)) eM136 dX12_init_263 ?_
  clear eM136
  try clear M134
  refine x_iinc (v := (8 : Int32)) C dX12_init_264 rfl (by decide) (Nat.le_of_ble_eq_true rfl) ?_
  refine x_sub [0, 1, 2, 3] (lv' := [(0, .ref (g.2.2.2 + 135)), (1, .int (1 : Int32)), (2, .int (1166 : Int32)), (3, .int (8 : Int32))]) rfl ?_
  refine x_goto (tgt := 246) C dX12_init_267 (by decide) ?_
  refine x_iload_n C dX12_init_246 rfl rfl ?_
  refine x_bipush (v := (16 : Int32)) C dX12_init_247 (by decide) ?_
  refine x_icmp_ge (tgt := 270) C dX12_init_249 (by decide) (fun h => absurd h (by decide)) (fun _ => ?_)
  refine x_aload_n C dX12_init_252 rfl rfl ?_
  obtain ⟨h137, hw⟩ := hw
  refine k_getR C fl_X12_7 (by decide) s135 (fun _ _ => rfl) h137 dX12_init_253 ?_
  refine x_iload_n C dX12_init_256 rfl rfl ?_
  refine x_bipush (v := (20 : Int32)) C dX12_init_257 (by decide) ?_
  refine x_iadd C dX12_init_259 ?_
  refine x_topi (x := (1186 : Int32)) (by decide) ?_
  refine x_iload_n C dX12_init_260 rfl rfl ?_
  refine x_iadd C dX12_init_261 ?_
  refine x_topi (x := (1194 : Int32)) (by decide) ?_
  refine x_iconst (v := (-1 : Int32)) C dX12_init_262 (by decide) ?_
  obtain ⟨M138, eM138⟩ : ∃ z : Mem, z = uI M136 136 1194 (-1 : Int32) := ⟨_, rfl⟩
  replace hw := hw M138 eM138
  refine k_iast (ni := 1194) C (by decide) s136 (by decide) (by rw [ln136]; exact vin _ _ (by decide +kernel)) eM138 dX12_init_263 ?_
  clear eM138
  try clear M136
  refine x_iinc (v := (9 : Int32)) C dX12_init_264 rfl (by decide) (Nat.le_of_ble_eq_true rfl) ?_
  refine x_sub [0, 1, 2, 3] (lv' := [(0, .ref (g.2.2.2 + 135)), (1, .int (1 : Int32)), (2, .int (1166 : Int32)), (3, .int (9 : Int32))]) rfl ?_
  refine x_goto (tgt := 246) C dX12_init_267 (by decide) ?_
  refine x_iload_n C dX12_init_246 rfl rfl ?_
  refine x_bipush (v := (16 : Int32)) C dX12_init_247 (by decide) ?_
  refine x_icmp_ge (tgt := 270) C dX12_init_249 (by decide) (fun h => absurd h (by decide)) (fun _ => ?_)
  refine x_aload_n C dX12_init_252 rfl rfl ?_
  obtain ⟨h139, hw⟩ := hw
  refine k_getR C fl_X12_7 (by decide) s135 (fun _ _ => rfl) h139 dX12_init_253 ?_
  refine x_iload_n C dX12_init_256 rfl rfl ?_
  refine x_bipush (v := (20 : Int32)) C dX12_init_257 (by decide) ?_
  refine x_iadd C dX12_init_259 ?_
  refine x_topi (x := (1186 : Int32)) (by decide) ?_
  refine x_iload_n C dX12_init_260 rfl rfl ?_
  refine x_iadd C dX12_init_261 ?_
  refine x_topi (x := (1195 : Int32)) (by decide) ?_
  refine x_iconst (v := (-1 : Int32)) C dX12_init_262 (by decide) ?_
  obtain ⟨M140, eM140⟩ : ∃ z : Mem, z = uI M138 136 1195 (-1 : Int32) := ⟨_, rfl⟩
  replace hw := hw M140 eM140
  refine k_iast (ni := 1195) C (by decide) s136 (by decide) (by rw [ln136]; exact vin _ _ (by decide +kernel)) eM140 dX12_init_263 ?_
  clear eM140
  try clear M138
  refine x_iinc (v := (10 : Int32)) C dX12_init_264 rfl (by decide) (Nat.le_of_ble_eq_true rfl) ?_
  refine x_sub [0, 1, 2, 3] (lv' := [(0, .ref (g.2.2.2 + 135)), (1, .int (1 : Int32)), (2, .int (1166 : Int32)), (3, .int (10 : Int32))]) rfl ?_
  refine x_goto (tgt := 246) C dX12_init_267 (by decide) ?_
  refine x_iload_n C dX12_init_246 rfl rfl ?_
  refine x_bipush (v := (16 : Int32)) C dX12_init_247 (by decide) ?_
  refine x_icmp_ge (tgt := 270) C dX12_init_249 (by decide) (fun h => absurd h (by decide)) (fun _ => ?_)
  refine x_aload_n C dX12_init_252 rfl rfl ?_
  obtain ⟨h141, hw⟩ := hw
  refine k_getR C fl_X12_7 (by decide) s135 (fun _ _ => rfl) h141 dX12_init_253 ?_
  refine x_iload_n C dX12_init_256 rfl rfl ?_
  refine x_bipush (v := (20 : Int32)) C dX12_init_257 (by decide) ?_
  refine x_iadd C dX12_init_259 ?_
  refine x_topi (x := (1186 : Int32)) (by decide) ?_
  refine x_iload_n C dX12_init_260 rfl rfl ?_
  refine x_iadd C dX12_init_261 ?_
  refine x_topi (x := (1196 : Int32)) (by decide) ?_
  refine x_iconst (v := (-1 : Int32)) C dX12_init_262 (by decide) ?_
  obtain ⟨M142, eM142⟩ : ∃ z : Mem, z = uI M140 136 1196 (-1 : Int32) := ⟨_, rfl⟩
  replace hw := hw M142 eM142
  refine k_iast (ni := 1196) C (by decide) s136 (by decide) (by rw [ln136]; exact vin _ _ (by decide +kernel)) eM142 dX12_init_263 ?_
  clear eM142
  try clear M140
  refine x_iinc (v := (11 : Int32)) C dX12_init_264 rfl (by decide) (Nat.le_of_ble_eq_true rfl) ?_
  refine x_sub [0, 1, 2, 3] (lv' := [(0, .ref (g.2.2.2 + 135)), (1, .int (1 : Int32)), (2, .int (1166 : Int32)), (3, .int (11 : Int32))]) rfl ?_
  refine x_goto (tgt := 246) C dX12_init_267 (by decide) ?_
  refine x_iload_n C dX12_init_246 rfl rfl ?_
  refine x_bipush (v := (16 : Int32)) C dX12_init_247 (by decide) ?_
  refine x_icmp_ge (tgt := 270) C dX12_init_249 (by decide) (fun h => absurd h (by decide)) (fun _ => ?_)
  refine x_aload_n C dX12_init_252 rfl rfl ?_
  obtain ⟨h143, hw⟩ := hw
  refine k_getR C fl_X12_7 (by decide) s135 (fun _ _ => rfl) h143 dX12_init_253 ?_
  refine x_iload_n C dX12_init_256 rfl rfl ?_
  refine x_bipush (v := (20 : Int32)) C dX12_init_257 (by decide) ?_
  refine x_iadd C dX12_init_259 ?_
  refine x_topi (x := (1186 : Int32)) (by decide) ?_
  refine x_iload_n C dX12_init_260 rfl rfl ?_
  refine x_iadd C dX12_init_261 ?_
  refine x_topi (x := (1197 : Int32)) (by decide) ?_
  refine x_iconst (v := (-1 : Int32)) C dX12_init_262 (by decide) ?_
  obtain ⟨M144, eM144⟩ : ∃ z : Mem, z = uI M142 136 1197 (-1 : Int32) := ⟨_, rfl⟩
  replace hw := hw M144 eM144
  refine k_iast (ni := 1197) C (by decide) s136 (by decide) (by rw [ln136]; exact vin _ _ (by decide +kernel)) eM144 dX12_init_263 ?_
  clear eM144
  try clear M142
  refine x_iinc (v := (12 : Int32)) C dX12_init_264 rfl (by decide) (Nat.le_of_ble_eq_true rfl) ?_
  refine x_sub [0, 1, 2, 3] (lv' := [(0, .ref (g.2.2.2 + 135)), (1, .int (1 : Int32)), (2, .int (1166 : Int32)), (3, .int (12 : Int32))]) rfl ?_
  refine x_goto (tgt := 246) C dX12_init_267 (by decide) ?_
  refine x_iload_n C dX12_init_246 rfl rfl ?_
  refine x_bipush (v := (16 : Int32)) C dX12_init_247 (by decide) ?_
  refine x_icmp_ge (tgt := 270) C dX12_init_249 (by decide) (fun h => absurd h (by decide)) (fun _ => ?_)
  refine x_aload_n C dX12_init_252 rfl rfl ?_
  obtain ⟨h145, hw⟩ := hw
  refine k_getR C fl_X12_7 (by decide) s135 (fun _ _ => rfl) h145 dX12_init_253 ?_
  refine x_iload_n C dX12_init_256 rfl rfl ?_
  refine x_bipush (v := (20 : Int32)) C dX12_init_257 (by decide) ?_
  refine x_iadd C dX12_init_259 ?_
  refine x_topi (x := (1186 : Int32)) (by decide) ?_
  refine x_iload_n C dX12_init_260 rfl rfl ?_
  refine x_iadd C dX12_init_261 ?_
  refine x_topi (x := (1198 : Int32)) (by decide) ?_
  refine x_iconst (v := (-1 : Int32)) C dX12_init_262 (by decide) ?_
  obtain ⟨M146, eM146⟩ : ∃ z : Mem, z = uI M144 136 1198 (-1 : Int32) := ⟨_, rfl⟩
  replace hw := hw M146 eM146
  refine k_iast (ni := 1198) C (by decide) s136 (by decide) (by rw [ln136]; exact vin _ _ (by decide +kernel)) eM146 dX12_init_263 ?_
  clear eM146
  try clear M144
  refine x_iinc (v := (13 : Int32)) C dX12_init_264 rfl (by decide) (Nat.le_of_ble_eq_true rfl) ?_
  refine x_sub [0, 1, 2, 3] (lv' := [(0, .ref (g.2.2.2 + 135)), (1, .int (1 : Int32)), (2, .int (1166 : Int32)), (3, .int (13 : Int32))]) rfl ?_
  refine x_goto (tgt := 246) C dX12_init_267 (by decide) ?_
  refine x_iload_n C dX12_init_246 rfl rfl ?_
  refine x_bipush (v := (16 : Int32)) C dX12_init_247 (by decide) ?_
  refine x_icmp_ge (tgt := 270) C dX12_init_249 (by decide) (fun h => absurd h (by decide)) (fun _ => ?_)
  refine x_aload_n C dX12_init_252 rfl rfl ?_
  obtain ⟨h147, hw⟩ := hw
  refine k_getR C fl_X12_7 (by decide) s135 (fun _ _ => rfl) h147 dX12_init_253 ?_
  refine x_iload_n C dX12_init_256 rfl rfl ?_
  refine x_bipush (v := (20 : Int32)) C dX12_init_257 (by decide) ?_
  refine x_iadd C dX12_init_259 ?_
  refine x_topi (x := (1186 : Int32)) (by decide) ?_
  refine x_iload_n C dX12_init_260 rfl rfl ?_
  refine x_iadd C dX12_init_261 ?_
  refine x_topi (x := (1199 : Int32)) (by decide) ?_
  refine x_iconst (v := (-1 : Int32)) C dX12_init_262 (by decide) ?_
  obtain ⟨M148, eM148⟩ : ∃ z : Mem, z = uI M146 136 1199 (-1 : Int32) := ⟨_, rfl⟩
  replace hw := hw M148 eM148
  refine k_iast (ni := 1199) C (by decide) s136 (by decide) (by rw [ln136]; exact vin _ _ (by decide +kernel)) eM148 dX12_init_263 ?_
  clear eM148
  try clear M146
  refine x_iinc (v := (14 : Int32)) C dX12_init_264 rfl (by decide) (Nat.le_of_ble_eq_true rfl) ?_
  refine x_sub [0, 1, 2, 3] (lv' := [(0, .ref (g.2.2.2 + 135)), (1, .int (1 : Int32)), (2, .int (1166 : Int32)), (3, .int (14 : Int32))]) rfl ?_
  refine x_goto (tgt := 246) C dX12_init_267 (by decide) ?_
  refine x_iload_n C dX12_init_246 rfl rfl ?_
  refine x_bipush (v := (16 : Int32)) C dX12_init_247 (by decide) ?_
  refine x_icmp_ge (tgt := 270) C dX12_init_249 (by decide) (fun h => absurd h (by decide)) (fun _ => ?_)
  refine x_aload_n C dX12_init_252 rfl rfl ?_
  obtain ⟨h149, hw⟩ := hw
  refine k_getR C fl_X12_7 (by decide) s135 (fun _ _ => rfl) h149 dX12_init_253 ?_
  refine x_iload_n C dX12_init_256 rfl rfl ?_
  refine x_bipush (v := (20 : Int32)) C dX12_init_257 (by decide) ?_
  refine x_iadd C dX12_init_259 ?_
  refine x_topi (x := (1186 : Int32)) (by decide) ?_
  refine x_iload_n C dX12_init_260 rfl rfl ?_
  refine x_iadd C dX12_init_261 ?_
  refine x_topi (x := (1200 : Int32)) (by decide) ?_
  refine x_iconst (v := (-1 : Int32)) C dX12_init_262 (by decide) ?_
  obtain ⟨M150, eM150⟩ : ∃ z : Mem, z = uI M148 136 1200 (-1 : Int32) := ⟨_, rfl⟩
  replace hw := hw M150 eM150
  refine k_iast (ni := 1200) C (by decide) s136 (by decide) (by rw [ln136]; exact vin _ _ (by decide +kernel)) eM150 dX12_init_263 ?_
  clear eM150
  try clear M148
  refine x_iinc (v := (15 : Int32)) C dX12_init_264 rfl (by decide) (Nat.le_of_ble_eq_true rfl) ?_
  refine x_sub [0, 1, 2, 3] (lv' := [(0, .ref (g.2.2.2 + 135)), (1, .int (1 : Int32)), (2, .int (1166 : Int32)), (3, .int (15 : Int32))]) rfl ?_
  refine x_goto (tgt := 246) C dX12_init_267 (by decide) ?_
  refine x_iload_n C dX12_init_246 rfl rfl ?_
  refine x_bipush (v := (16 : Int32)) C dX12_init_247 (by decide) ?_
  refine x_icmp_ge (tgt := 270) C dX12_init_249 (by decide) (fun h => absurd h (by decide)) (fun _ => ?_)
  refine x_aload_n C dX12_init_252 rfl rfl ?_
  obtain ⟨h151, hw⟩ := hw
  refine k_getR C fl_X12_7 (by decide) s135 (fun _ _ => rfl) h151 dX12_init_253 ?_
  refine x_iload_n C dX12_init_256 rfl rfl ?_
  refine x_bipush (v := (20 : Int32)) C dX12_init_257 (by decide) ?_
  refine x_iadd C dX12_init_259 ?_
  refine x_topi (x := (1186 : Int32)) (by decide) ?_
  refine x_iload_n C dX12_init_260 rfl rfl ?_
  refine x_iadd C dX12_init_261 ?_
  refine x_topi (x := (1201 : Int32)) (by decide) ?_
  refine x_iconst (v := (-1 : Int32)) C dX12_init_262 (by decide) ?_
  obtain ⟨M152, eM152⟩ : ∃ z : Mem, z = uI M150 136 1201 (-1 : Int32) := ⟨_, rfl⟩
  replace hw := hw M152 eM152
  refine k_iast (ni := 1201) C (by decide) s136 (by decide) (by rw [ln136]; exact vin _ _ (by decide +kernel)) eM152 dX12_init_263 ?_
  clear eM152
  try clear M150
  refine x_iinc (v := (16 : Int32)) C dX12_init_264 rfl (by decide) (Nat.le_of_ble_eq_true rfl) ?_
  refine x_sub [0, 1, 2, 3] (lv' := [(0, .ref (g.2.2.2 + 135)), (1, .int (1 : Int32)), (2, .int (1166 : Int32)), (3, .int (16 : Int32))]) rfl ?_
  refine x_goto (tgt := 246) C dX12_init_267 (by decide) ?_
  refine x_iload_n C dX12_init_246 rfl rfl ?_
  refine x_bipush (v := (16 : Int32)) C dX12_init_247 (by decide) ?_
  refine x_icmp_ge (tgt := 270) C dX12_init_249 (by decide) (fun _ => ?_) (fun h => absurd (by decide) h)
  refine x_iinc (v := (2 : Int32)) C dX12_init_270 rfl (by decide) (Nat.le_of_ble_eq_true rfl) ?_
  refine x_sub [0, 1, 2, 3] (lv' := [(0, .ref (g.2.2.2 + 135)), (1, .int (2 : Int32)), (2, .int (1166 : Int32)), (3, .int (16 : Int32))]) rfl ?_
  refine x_goto (tgt := 156) C dX12_init_273 (by decide) ?_
  refine x_iload_n C dX12_init_156 rfl rfl ?_
  refine x_iconst (v := (4 : Int32)) C dX12_init_157 (by decide) ?_
  refine x_icmp_ge (tgt := 276) C dX12_init_158 (by decide) (fun h => absurd h (by decide)) (fun _ => ?_)
  refine x_sipush (v := (1106 : Int32)) C dX12_init_161 (by decide) ?_
  refine x_bipush (v := (60 : Int32)) C dX12_init_164 (by decide) ?_
  refine x_iload_n C dX12_init_166 rfl rfl ?_
  refine x_imul C dX12_init_167 ?_
  refine x_topi (x := (120 : Int32)) (by decide) ?_
  refine x_iadd C dX12_init_168 ?_
  refine x_topi (x := (1226 : Int32)) (by decide) ?_
  refine x_istore_n C dX12_init_169 rfl (Nat.le_of_ble_eq_true rfl) ?_
  refine x_sub [0, 1, 2, 3] (lv' := [(0, .ref (g.2.2.2 + 135)), (1, .int (2 : Int32)), (2, .int (1226 : Int32)), (3, .int (16 : Int32))]) rfl ?_
  refine x_iconst (v := (0 : Int32)) C dX12_init_170 (by decide) ?_
  refine x_istore_n C dX12_init_171 rfl (Nat.le_of_ble_eq_true rfl) ?_
  refine x_sub [0, 1, 2, 3] (lv' := [(0, .ref (g.2.2.2 + 135)), (1, .int (2 : Int32)), (2, .int (1226 : Int32)), (3, .int (0 : Int32))]) rfl ?_
  refine x_iload_n C dX12_init_172 rfl rfl ?_
  refine x_bipush (v := (8 : Int32)) C dX12_init_173 (by decide) ?_
  refine x_icmp_ge (tgt := 193) C dX12_init_175 (by decide) (fun h => absurd h (by decide)) (fun _ => ?_)
  refine x_aload_n C dX12_init_178 rfl rfl ?_
  obtain ⟨h153, hw⟩ := hw
  refine k_getR C fl_X12_7 (by decide) s135 (fun _ _ => rfl) h153 dX12_init_179 ?_
  refine x_iload_n C dX12_init_182 rfl rfl ?_
  refine x_iload_n C dX12_init_183 rfl rfl ?_
  refine x_iadd C dX12_init_184 ?_
  refine x_topi (x := (1226 : Int32)) (by decide) ?_
  refine x_iconst (v := (1 : Int32)) C dX12_init_185 (by decide) ?_
  obtain ⟨M154, eM154⟩ : ∃ z : Mem, z = uI M152 136 1226 (1 : Int32) := ⟨_, rfl⟩
  replace hw := hw M154 eM154
  refine k_iast (ni := 1226) C (by decide) s136 (by decide) (by rw [ln136]; exact vin _ _ (by decide +kernel)) eM154 dX12_init_186 ?_
  clear eM154
  try clear M152
  refine x_iinc (v := (1 : Int32)) C dX12_init_187 rfl (by decide) (Nat.le_of_ble_eq_true rfl) ?_
  refine x_sub [0, 1, 2, 3] (lv' := [(0, .ref (g.2.2.2 + 135)), (1, .int (2 : Int32)), (2, .int (1226 : Int32)), (3, .int (1 : Int32))]) rfl ?_
  refine x_goto (tgt := 172) C dX12_init_190 (by decide) ?_
  refine x_iload_n C dX12_init_172 rfl rfl ?_
  refine x_bipush (v := (8 : Int32)) C dX12_init_173 (by decide) ?_
  refine x_icmp_ge (tgt := 193) C dX12_init_175 (by decide) (fun h => absurd h (by decide)) (fun _ => ?_)
  refine x_aload_n C dX12_init_178 rfl rfl ?_
  obtain ⟨h155, hw⟩ := hw
  refine k_getR C fl_X12_7 (by decide) s135 (fun _ _ => rfl) h155 dX12_init_179 ?_
  refine x_iload_n C dX12_init_182 rfl rfl ?_
  refine x_iload_n C dX12_init_183 rfl rfl ?_
  refine x_iadd C dX12_init_184 ?_
  refine x_topi (x := (1227 : Int32)) (by decide) ?_
  refine x_iconst (v := (1 : Int32)) C dX12_init_185 (by decide) ?_
  obtain ⟨M156, eM156⟩ : ∃ z : Mem, z = uI M154 136 1227 (1 : Int32) := ⟨_, rfl⟩
  replace hw := hw M156 eM156
  refine k_iast (ni := 1227) C (by decide) s136 (by decide) (by rw [ln136]; exact vin _ _ (by decide +kernel)) eM156 dX12_init_186 ?_
  clear eM156
  try clear M154
  refine x_iinc (v := (2 : Int32)) C dX12_init_187 rfl (by decide) (Nat.le_of_ble_eq_true rfl) ?_
  refine x_sub [0, 1, 2, 3] (lv' := [(0, .ref (g.2.2.2 + 135)), (1, .int (2 : Int32)), (2, .int (1226 : Int32)), (3, .int (2 : Int32))]) rfl ?_
  refine x_goto (tgt := 172) C dX12_init_190 (by decide) ?_
  refine x_iload_n C dX12_init_172 rfl rfl ?_
  refine x_bipush (v := (8 : Int32)) C dX12_init_173 (by decide) ?_
  refine x_icmp_ge (tgt := 193) C dX12_init_175 (by decide) (fun h => absurd h (by decide)) (fun _ => ?_)
  refine x_aload_n C dX12_init_178 rfl rfl ?_
  obtain ⟨h157, hw⟩ := hw
  refine k_getR C fl_X12_7 (by decide) s135 (fun _ _ => rfl) h157 dX12_init_179 ?_
  refine x_iload_n C dX12_init_182 rfl rfl ?_
  refine x_iload_n C dX12_init_183 rfl rfl ?_
  refine x_iadd C dX12_init_184 ?_
  refine x_topi (x := (1228 : Int32)) (by decide) ?_
  refine x_iconst (v := (1 : Int32)) C dX12_init_185 (by decide) ?_
  obtain ⟨M158, eM158⟩ : ∃ z : Mem, z = uI M156 136 1228 (1 : Int32) := ⟨_, rfl⟩
  replace hw := hw M158 eM158
  refine k_iast (ni := 1228) C (by decide) s136 (by decide) (by rw [ln136]; exact vin _ _ (by decide +kernel)) eM158 dX12_init_186 ?_
  clear eM158
  try clear M156
  refine x_iinc (v := (3 : Int32)) C dX12_init_187 rfl (by decide) (Nat.le_of_ble_eq_true rfl) ?_
  refine x_sub [0, 1, 2, 3] (lv' := [(0, .ref (g.2.2.2 + 135)), (1, .int (2 : Int32)), (2, .int (1226 : Int32)), (3, .int (3 : Int32))]) rfl ?_
  refine x_goto (tgt := 172) C dX12_init_190 (by decide) ?_
  refine x_iload_n C dX12_init_172 rfl rfl ?_
  refine x_bipush (v := (8 : Int32)) C dX12_init_173 (by decide) ?_
  refine x_icmp_ge (tgt := 193) C dX12_init_175 (by decide) (fun h => absurd h (by decide)) (fun _ => ?_)
  refine x_aload_n C dX12_init_178 rfl rfl ?_
  obtain ⟨h159, hw⟩ := hw
  refine k_getR C fl_X12_7 (by decide) s135 (fun _ _ => rfl) h159 dX12_init_179 ?_
  refine x_iload_n C dX12_init_182 rfl rfl ?_
  refine x_iload_n C dX12_init_183 rfl rfl ?_
  refine x_iadd C dX12_init_184 ?_
  refine x_topi (x := (1229 : Int32)) (by decide) ?_
  refine x_iconst (v := (1 : Int32)) C dX12_init_185 (by decide) ?_
  obtain ⟨M160, eM160⟩ : ∃ z : Mem, z = uI M158 136 1229 (1 : Int32) := ⟨_, rfl⟩
  replace hw := hw M160 eM160
  refine k_iast (ni := 1229) C (by decide) s136 (by decide) (by rw [ln136]; exact vin _ _ (by decide +kernel)) eM160 dX12_init_186 ?_
  clear eM160
  try clear M158
  refine x_iinc (v := (4 : Int32)) C dX12_init_187 rfl (by decide) (Nat.le_of_ble_eq_true rfl) ?_
  refine x_sub [0, 1, 2, 3] (lv' := [(0, .ref (g.2.2.2 + 135)), (1, .int (2 : Int32)), (2, .int (1226 : Int32)), (3, .int (4 : Int32))]) rfl ?_
  refine x_goto (tgt := 172) C dX12_init_190 (by decide) ?_
  refine x_iload_n C dX12_init_172 rfl rfl ?_
  refine x_bipush (v := (8 : Int32)) C dX12_init_173 (by decide) ?_
  refine x_icmp_ge (tgt := 193) C dX12_init_175 (by decide) (fun h => absurd h (by decide)) (fun _ => ?_)
  refine x_aload_n C dX12_init_178 rfl rfl ?_
  obtain ⟨h161, hw⟩ := hw
  refine k_getR C fl_X12_7 (by decide) s135 (fun _ _ => rfl) h161 dX12_init_179 ?_
  refine x_iload_n C dX12_init_182 rfl rfl ?_
  refine x_iload_n C dX12_init_183 rfl rfl ?_
  refine x_iadd C dX12_init_184 ?_
  refine x_topi (x := (1230 : Int32)) (by decide) ?_
  refine x_iconst (v := (1 : Int32)) C dX12_init_185 (by decide) ?_
  obtain ⟨M162, eM162⟩ : ∃ z : Mem, z = uI M160 136 1230 (1 : Int32) := ⟨_, rfl⟩
  replace hw := hw M162 eM162
  refine k_iast (ni := 1230) C (by decide) s136 (by decide) (by rw [ln136]; exact vin _ _ (by decide +kernel)) eM162 dX12_init_186 ?_
  clear eM162
  try clear M160
  refine x_iinc (v := (5 : Int32)) C dX12_init_187 rfl (by decide) (Nat.le_of_ble_eq_true rfl) ?_
  refine x_sub [0, 1, 2, 3] (lv' := [(0, .ref (g.2.2.2 + 135)), (1, .int (2 : Int32)), (2, .int (1226 : Int32)), (3, .int (5 : Int32))]) rfl ?_
  refine x_goto (tgt := 172) C dX12_init_190 (by decide) ?_
  refine x_iload_n C dX12_init_172 rfl rfl ?_
  refine x_bipush (v := (8 : Int32)) C dX12_init_173 (by decide) ?_
  refine x_icmp_ge (tgt := 193) C dX12_init_175 (by decide) (fun h => absurd h (by decide)) (fun _ => ?_)
  refine x_aload_n C dX12_init_178 rfl rfl ?_
  obtain ⟨h163, hw⟩ := hw
  refine k_getR C fl_X12_7 (by decide) s135 (fun _ _ => rfl) h163 dX12_init_179 ?_
  refine x_iload_n C dX12_init_182 rfl rfl ?_
  refine x_iload_n C dX12_init_183 rfl rfl ?_
  refine x_iadd C dX12_init_184 ?_
  refine x_topi (x := (1231 : Int32)) (by decide) ?_
  refine x_iconst (v := (1 : Int32)) C dX12_init_185 (by decide) ?_
  obtain ⟨M164, eM164⟩ : ∃ z : Mem, z = uI M162 136 1231 (1 : Int32) := ⟨_, rfl⟩
  replace hw := hw M164 eM164
  refine k_iast (ni := 1231) C (by decide) s136 (by decide) (by rw [ln136]; exact vin _ _ (by decide +kernel)) eM164 dX12_init_186 ?_
  clear eM164
  try clear M162
  refine x_iinc (v := (6 : Int32)) C dX12_init_187 rfl (by decide) (Nat.le_of_ble_eq_true rfl) ?_
  refine x_sub [0, 1, 2, 3] (lv' := [(0, .ref (g.2.2.2 + 135)), (1, .int (2 : Int32)), (2, .int (1226 : Int32)), (3, .int (6 : Int32))]) rfl ?_
  refine x_goto (tgt := 172) C dX12_init_190 (by decide) ?_
  refine x_iload_n C dX12_init_172 rfl rfl ?_
  refine x_bipush (v := (8 : Int32)) C dX12_init_173 (by decide) ?_
  refine x_icmp_ge (tgt := 193) C dX12_init_175 (by decide) (fun h => absurd h (by decide)) (fun _ => ?_)
  refine x_aload_n C dX12_init_178 rfl rfl ?_
  obtain ⟨h165, hw⟩ := hw
  refine k_getR C fl_X12_7 (by decide) s135 (fun _ _ => rfl) h165 dX12_init_179 ?_
  refine x_iload_n C dX12_init_182 rfl rfl ?_
  refine x_iload_n C dX12_init_183 rfl rfl ?_
  refine x_iadd C dX12_init_184 ?_
  refine x_topi (x := (1232 : Int32)) (by decide) ?_
  refine x_iconst (v := (1 : Int32)) C dX12_init_185 (by decide) ?_
  obtain ⟨M166, eM166⟩ : ∃ z : Mem, z = uI M164 136 1232 (1 : Int32) := ⟨_, rfl⟩
  replace hw := hw M166 eM166
  refine k_iast (ni := 1232) C (by decide) s136 (by decide) (by rw [ln136]; exact vin _ _ (by decide +kernel)) eM166 dX12_init_186 ?_
  clear eM166
  try clear M164
  refine x_iinc (v := (7 : Int32)) C dX12_init_187 rfl (by decide) (Nat.le_of_ble_eq_true rfl) ?_
  refine x_sub [0, 1, 2, 3] (lv' := [(0, .ref (g.2.2.2 + 135)), (1, .int (2 : Int32)), (2, .int (1226 : Int32)), (3, .int (7 : Int32))]) rfl ?_
  refine x_goto (tgt := 172) C dX12_init_190 (by decide) ?_
  refine x_iload_n C dX12_init_172 rfl rfl ?_
  refine x_bipush (v := (8 : Int32)) C dX12_init_173 (by decide) ?_
  refine x_icmp_ge (tgt := 193) C dX12_init_175 (by decide) (fun h => absurd h (by decide)) (fun _ => ?_)
  refine x_aload_n C dX12_init_178 rfl rfl ?_
  obtain ⟨h167, hw⟩ := hw
  refine k_getR C fl_X12_7 (by decide) s135 (fun _ _ => rfl) h167 dX12_init_179 ?_
  refine x_iload_n C dX12_init_182 rfl rfl ?_
  refine x_iload_n C dX12_init_183 rfl rfl ?_
  refine x_iadd C dX12_init_184 ?_
  refine x_topi (x := (1233 : Int32)) (by decide) ?_
  refine x_iconst (v := (1 : Int32)) C dX12_init_185 (by decide) ?_
  obtain ⟨M168, eM168⟩ : ∃ z : Mem, z = uI M166 136 1233 (1 : Int32) := ⟨_, rfl⟩
  replace hw := hw M168 eM168
  refine k_iast (ni := 1233) C (by decide) s136 (by decide) (by rw [ln136]; exact vin _ _ (by decide +kernel)) eM168 dX12_init_186 ?_
  clear eM168
  try clear M166
  refine x_iinc (v := (8 : Int32)) C dX12_init_187 rfl (by decide) (Nat.le_of_ble_eq_true rfl) ?_
  refine x_sub [0, 1, 2, 3] (lv' := [(0, .ref (g.2.2.2 + 135)), (1, .int (2 : Int32)), (2, .int (1226 : Int32)), (3, .int (8 : Int32))]) rfl ?_
  refine x_goto (tgt := 172) C dX12_init_190 (by decide) ?_
  refine x_iload_n C dX12_init_172 rfl rfl ?_
  refine x_bipush (v := (8 : Int32)) C dX12_init_173 (by decide) ?_
  refine x_icmp_ge (tgt := 193) C dX12_init_175 (by decide) (fun _ => ?_) (fun h => absurd (by decide) h)
  refine x_aload_n C dX12_init_193 rfl rfl ?_
  obtain ⟨h169, hw⟩ := hw
  refine k_getR C fl_X12_7 (by decide) s135 (fun _ _ => rfl) h169 dX12_init_194 ?_
  refine x_iload_n C dX12_init_197 rfl rfl ?_
  refine x_bipush (v := (8 : Int32)) C dX12_init_198 (by decide) ?_
  refine x_iadd C dX12_init_200 ?_
  refine x_topi (x := (1234 : Int32)) (by decide) ?_
  refine x_iconst (v := (4 : Int32)) C dX12_init_201 (by decide) ?_
  obtain ⟨M170, eM170⟩ : ∃ z : Mem, z = uI M168 136 1234 (4 : Int32) := ⟨_, rfl⟩
  replace hw := hw M170 eM170
  refine k_iast (ni := 1234) C (by decide) s136 (by decide) (by rw [ln136]; exact vin _ _ (by decide +kernel)) eM170 dX12_init_202 ?_
  clear eM170
  try clear M168
  refine x_aload_n C dX12_init_203 rfl rfl ?_
  obtain ⟨h171, hw⟩ := hw
  refine k_getR C fl_X12_7 (by decide) s135 (fun _ _ => rfl) h171 dX12_init_204 ?_
  refine x_iload_n C dX12_init_207 rfl rfl ?_
  refine x_bipush (v := (9 : Int32)) C dX12_init_208 (by decide) ?_
  refine x_iadd C dX12_init_210 ?_
  refine x_topi (x := (1235 : Int32)) (by decide) ?_
  refine x_iconst (v := (4 : Int32)) C dX12_init_211 (by decide) ?_
  obtain ⟨M172, eM172⟩ : ∃ z : Mem, z = uI M170 136 1235 (4 : Int32) := ⟨_, rfl⟩
  replace hw := hw M172 eM172
  refine k_iast (ni := 1235) C (by decide) s136 (by decide) (by rw [ln136]; exact vin _ _ (by decide +kernel)) eM172 dX12_init_212 ?_
  clear eM172
  try clear M170
  refine x_aload_n C dX12_init_213 rfl rfl ?_
  obtain ⟨h173, hw⟩ := hw
  refine k_getR C fl_X12_7 (by decide) s135 (fun _ _ => rfl) h173 dX12_init_214 ?_
  refine x_iload_n C dX12_init_217 rfl rfl ?_
  refine x_bipush (v := (10 : Int32)) C dX12_init_218 (by decide) ?_
  refine x_iadd C dX12_init_220 ?_
  refine x_topi (x := (1236 : Int32)) (by decide) ?_
  refine x_bipush (v := (10 : Int32)) C dX12_init_221 (by decide) ?_
  obtain ⟨M174, eM174⟩ : ∃ z : Mem, z = uI M172 136 1236 (10 : Int32) := ⟨_, rfl⟩
  replace hw := hw M174 eM174
  refine k_iast (ni := 1236) C (by decide) s136 (by decide) (by rw [ln136]; exact vin _ _ (by decide +kernel)) eM174 dX12_init_223 ?_
  clear eM174
  try clear M172
  refine x_aload_n C dX12_init_224 rfl rfl ?_
  obtain ⟨h175, hw⟩ := hw
  refine k_getR C fl_X12_7 (by decide) s135 (fun _ _ => rfl) h175 dX12_init_225 ?_
  refine x_iload_n C dX12_init_228 rfl rfl ?_
  refine x_bipush (v := (11 : Int32)) C dX12_init_229 (by decide) ?_
  refine x_iadd C dX12_init_231 ?_
  refine x_topi (x := (1237 : Int32)) (by decide) ?_
  refine x_iconst (v := (4 : Int32)) C dX12_init_232 (by decide) ?_
  obtain ⟨M176, eM176⟩ : ∃ z : Mem, z = uI M174 136 1237 (4 : Int32) := ⟨_, rfl⟩
  replace hw := hw M176 eM176
  refine k_iast (ni := 1237) C (by decide) s136 (by decide) (by rw [ln136]; exact vin _ _ (by decide +kernel)) eM176 dX12_init_233 ?_
  clear eM176
  try clear M174
  refine x_aload_n C dX12_init_234 rfl rfl ?_
  obtain ⟨h177, hw⟩ := hw
  refine k_getR C fl_X12_7 (by decide) s135 (fun _ _ => rfl) h177 dX12_init_235 ?_
  refine x_iload_n C dX12_init_238 rfl rfl ?_
  refine x_bipush (v := (12 : Int32)) C dX12_init_239 (by decide) ?_
  refine x_iadd C dX12_init_241 ?_
  refine x_topi (x := (1238 : Int32)) (by decide) ?_
  refine x_iconst (v := (5 : Int32)) C dX12_init_242 (by decide) ?_
  obtain ⟨M178, eM178⟩ : ∃ z : Mem, z = uI M176 136 1238 (5 : Int32) := ⟨_, rfl⟩
  replace hw := hw M178 eM178
  refine k_iast (ni := 1238) C (by decide) s136 (by decide) (by rw [ln136]; exact vin _ _ (by decide +kernel)) eM178 dX12_init_243 ?_
  clear eM178
  try clear M176
  refine x_iconst (v := (0 : Int32)) C dX12_init_244 (by decide) ?_
  refine x_istore_n C dX12_init_245 rfl (Nat.le_of_ble_eq_true rfl) ?_
  refine x_sub [0, 1, 2, 3] (lv' := [(0, .ref (g.2.2.2 + 135)), (1, .int (2 : Int32)), (2, .int (1226 : Int32)), (3, .int (0 : Int32))]) rfl ?_
  refine x_iload_n C dX12_init_246 rfl rfl ?_
  refine x_bipush (v := (16 : Int32)) C dX12_init_247 (by decide) ?_
  refine x_icmp_ge (tgt := 270) C dX12_init_249 (by decide) (fun h => absurd h (by decide)) (fun _ => ?_)
  refine x_aload_n C dX12_init_252 rfl rfl ?_
  obtain ⟨h179, hw⟩ := hw
  refine k_getR C fl_X12_7 (by decide) s135 (fun _ _ => rfl) h179 dX12_init_253 ?_
  refine x_iload_n C dX12_init_256 rfl rfl ?_
  refine x_bipush (v := (20 : Int32)) C dX12_init_257 (by decide) ?_
  refine x_iadd C dX12_init_259 ?_
  refine x_topi (x := (1246 : Int32)) (by decide) ?_
  refine x_iload_n C dX12_init_260 rfl rfl ?_
  refine x_iadd C dX12_init_261 ?_
  refine x_topi (x := (1246 : Int32)) (by decide) ?_
  refine x_iconst (v := (-1 : Int32)) C dX12_init_262 (by decide) ?_
  obtain ⟨M180, eM180⟩ : ∃ z : Mem, z = uI M178 136 1246 (-1 : Int32) := ⟨_, rfl⟩
  replace hw := hw M180 eM180
  refine k_iast (ni := 1246) C (by decide) s136 (by decide) (by rw [ln136]; exact vin _ _ (by decide +kernel)) eM180 dX12_init_263 ?_
  clear eM180
  try clear M178
  refine x_iinc (v := (1 : Int32)) C dX12_init_264 rfl (by decide) (Nat.le_of_ble_eq_true rfl) ?_
  refine x_sub [0, 1, 2, 3] (lv' := [(0, .ref (g.2.2.2 + 135)), (1, .int (2 : Int32)), (2, .int (1226 : Int32)), (3, .int (1 : Int32))]) rfl ?_
  refine x_goto (tgt := 246) C dX12_init_267 (by decide) ?_
  refine x_iload_n C dX12_init_246 rfl rfl ?_
  refine x_bipush (v := (16 : Int32)) C dX12_init_247 (by decide) ?_
  refine x_icmp_ge (tgt := 270) C dX12_init_249 (by decide) (fun h => absurd h (by decide)) (fun _ => ?_)
  refine x_aload_n C dX12_init_252 rfl rfl ?_
  obtain ⟨h181, hw⟩ := hw
  refine k_getR C fl_X12_7 (by decide) s135 (fun _ _ => rfl) h181 dX12_init_253 ?_
  refine x_iload_n C dX12_init_256 rfl rfl ?_
  refine x_bipush (v := (20 : Int32)) C dX12_init_257 (by decide) ?_
  refine x_iadd C dX12_init_259 ?_
  refine x_topi (x := (1246 : Int32)) (by decide) ?_
  refine x_iload_n C dX12_init_260 rfl rfl ?_
  refine x_iadd C dX12_init_261 ?_
  refine x_topi (x := (1247 : Int32)) (by decide) ?_
  refine x_iconst (v := (-1 : Int32)) C dX12_init_262 (by decide) ?_
  obtain ⟨M182, eM182⟩ : ∃ z : Mem, z = uI M180 136 1247 (-1 : Int32) := ⟨_, rfl⟩
  replace hw := hw M182 eM182
  refine k_iast (ni := 1247) C (by decide) s136 (by decide) (by rw [ln136]; exact vin _ _ (by decide +kernel)) eM182 dX12_init_263 ?_
  clear eM182
  try clear M180
  refine x_iinc (v := (2 : Int32)) C dX12_init_264 rfl (by decide) (Nat.le_of_ble_eq_true rfl) ?_
  refine x_sub [0, 1, 2, 3] (lv' := [(0, .ref (g.2.2.2 + 135)), (1, .int (2 : Int32)), (2, .int (1226 : Int32)), (3, .int (2 : Int32))]) rfl ?_
  refine x_goto (tgt := 246) C dX12_init_267 (by decide) ?_
  refine x_iload_n C dX12_init_246 rfl rfl ?_
  refine x_bipush (v := (16 : Int32)) C dX12_init_247 (by decide) ?_
  refine x_icmp_ge (tgt := 270) C dX12_init_249 (by decide) (fun h => absurd h (by decide)) (fun _ => ?_)
  refine x_aload_n C dX12_init_252 rfl rfl ?_
  obtain ⟨h183, hw⟩ := hw
  refine k_getR C fl_X12_7 (by decide) s135 (fun _ _ => rfl) h183 dX12_init_253 ?_
  refine x_iload_n C dX12_init_256 rfl rfl ?_
  refine x_bipush (v := (20 : Int32)) C dX12_init_257 (by decide) ?_
  refine x_iadd C dX12_init_259 ?_
  refine x_topi (x := (1246 : Int32)) (by decide) ?_
  refine x_iload_n C dX12_init_260 rfl rfl ?_
  refine x_iadd C dX12_init_261 ?_
  refine x_topi (x := (1248 : Int32)) (by decide) ?_
  refine x_iconst (v := (-1 : Int32)) C dX12_init_262 (by decide) ?_
  obtain ⟨M184, eM184⟩ : ∃ z : Mem, z = uI M182 136 1248 (-1 : Int32) := ⟨_, rfl⟩
  replace hw := hw M184 eM184
  refine k_iast (ni := 1248) C (by decide) s136 (by decide) (by rw [ln136]; exact vin _ _ (by decide +kernel)) eM184 dX12_init_263 ?_
  clear eM184
  try clear M182
  refine x_iinc (v := (3 : Int32)) C dX12_init_264 rfl (by decide) (Nat.le_of_ble_eq_true rfl) ?_
  refine x_sub [0, 1, 2, 3] (lv' := [(0, .ref (g.2.2.2 + 135)), (1, .int (2 : Int32)), (2, .int (1226 : Int32)), (3, .int (3 : Int32))]) rfl ?_
  refine x_goto (tgt := 246) C dX12_init_267 (by decide) ?_
  refine x_iload_n C dX12_init_246 rfl rfl ?_
  refine x_bipush (v := (16 : Int32)) C dX12_init_247 (by decide) ?_
  refine x_icmp_ge (tgt := 270) C dX12_init_249 (by decide) (fun h => absurd h (by decide)) (fun _ => ?_)
  refine x_aload_n C dX12_init_252 rfl rfl ?_
  obtain ⟨h185, hw⟩ := hw
  refine k_getR C fl_X12_7 (by decide) s135 (fun _ _ => rfl) h185 dX12_init_253 ?_
  refine x_iload_n C dX12_init_256 rfl rfl ?_
  refine x_bipush (v := (20 : Int32)) C dX12_init_257 (by decide) ?_
  refine x_iadd C dX12_init_259 ?_
  refine x_topi (x := (1246 : Int32)) (by decide) ?_
  refine x_iload_n C dX12_init_260 rfl rfl ?_
  refine x_iadd C dX12_init_261 ?_
  refine x_topi (x := (1249 : Int32)) (by decide) ?_
  refine x_iconst (v := (-1 : Int32)) C dX12_init_262 (by decide) ?_
  obtain ⟨M186, eM186⟩ : ∃ z : Mem, z = uI M184 136 1249 (-1 : Int32) := ⟨_, rfl⟩
  replace hw := hw M186 eM186
  refine k_iast (ni := 1249) C (by decide) s136 (by decide) (by rw [ln136]; exact vin _ _ (by decide +kernel)) eM186 dX12_init_263 ?_
  clear eM186
  try clear M184
  refine x_iinc (v := (4 : Int32)) C dX12_init_264 rfl (by decide) (Nat.le_of_ble_eq_true rfl) ?_
  refine x_sub [0, 1, 2, 3] (lv' := [(0, .ref (g.2.2.2 + 135)), (1, .int (2 : Int32)), (2, .int (1226 : Int32)), (3, .int (4 : Int32))]) rfl ?_
  refine x_goto (tgt := 246) C dX12_init_267 (by decide) ?_
  refine x_iload_n C dX12_init_246 rfl rfl ?_
  refine x_bipush (v := (16 : Int32)) C dX12_init_247 (by decide) ?_
  refine x_icmp_ge (tgt := 270) C dX12_init_249 (by decide) (fun h => absurd h (by decide)) (fun _ => ?_)
  refine x_aload_n C dX12_init_252 rfl rfl ?_
  obtain ⟨h187, hw⟩ := hw
  refine k_getR C fl_X12_7 (by decide) s135 (fun _ _ => rfl) h187 dX12_init_253 ?_
  refine x_iload_n C dX12_init_256 rfl rfl ?_
  refine x_bipush (v := (20 : Int32)) C dX12_init_257 (by decide) ?_
  refine x_iadd C dX12_init_259 ?_
  refine x_topi (x := (1246 : Int32)) (by decide) ?_
  refine x_iload_n C dX12_init_260 rfl rfl ?_
  refine x_iadd C dX12_init_261 ?_
  refine x_topi (x := (1250 : Int32)) (by decide) ?_
  refine x_iconst (v := (-1 : Int32)) C dX12_init_262 (by decide) ?_
  obtain ⟨M188, eM188⟩ : ∃ z : Mem, z = uI M186 136 1250 (-1 : Int32) := ⟨_, rfl⟩
  replace hw := hw M188 eM188
  refine k_iast (ni := 1250) C (by decide) s136 (by decide) (by rw [ln136]; exact vin _ _ (by decide +kernel)) eM188 dX12_init_263 ?_
  clear eM188
  try clear M186
  refine x_iinc (v := (5 : Int32)) C dX12_init_264 rfl (by decide) (Nat.le_of_ble_eq_true rfl) ?_
  refine x_sub [0, 1, 2, 3] (lv' := [(0, .ref (g.2.2.2 + 135)), (1, .int (2 : Int32)), (2, .int (1226 : Int32)), (3, .int (5 : Int32))]) rfl ?_
  refine x_goto (tgt := 246) C dX12_init_267 (by decide) ?_
  refine x_iload_n C dX12_init_246 rfl rfl ?_
  refine x_bipush (v := (16 : Int32)) C dX12_init_247 (by decide) ?_
  refine x_icmp_ge (tgt := 270) C dX12_init_249 (by decide) (fun h => absurd h (by decide)) (fun _ => ?_)
  refine x_aload_n C dX12_init_252 rfl rfl ?_
  obtain ⟨h189, hw⟩ := hw
  refine k_getR C fl_X12_7 (by decide) s135 (fun _ _ => rfl) h189 dX12_init_253 ?_
  refine x_iload_n C dX12_init_256 rfl rfl ?_
  refine x_bipush (v := (20 : Int32)) C dX12_init_257 (by decide) ?_
  refine x_iadd C dX12_init_259 ?_
  refine x_topi (x := (1246 : Int32)) (by decide) ?_
  refine x_iload_n C dX12_init_260 rfl rfl ?_
  refine x_iadd C dX12_init_261 ?_
  refine x_topi (x := (1251 : Int32)) (by decide) ?_
  refine x_iconst (v := (-1 : Int32)) C dX12_init_262 (by decide) ?_
  obtain ⟨M190, eM190⟩ : ∃ z : Mem, z = uI M188 136 1251 (-1 : Int32) := ⟨_, rfl⟩
  replace hw := hw M190 eM190
  refine k_iast (ni := 1251) C (by decide) s136 (by decide) (by rw [ln136]; exact vin _ _ (by decide +kernel)) eM190 dX12_init_263 ?_
  clear eM190
  try clear M188
  refine x_iinc (v := (6 : Int32)) C dX12_init_264 rfl (by decide) (Nat.le_of_ble_eq_true rfl) ?_
  refine x_sub [0, 1, 2, 3] (lv' := [(0, .ref (g.2.2.2 + 135)), (1, .int (2 : Int32)), (2, .int (1226 : Int32)), (3, .int (6 : Int32))]) rfl ?_
  refine x_goto (tgt := 246) C dX12_init_267 (by decide) ?_
  refine x_iload_n C dX12_init_246 rfl rfl ?_
  refine x_bipush (v := (16 : Int32)) C dX12_init_247 (by decide) ?_
  refine x_icmp_ge (tgt := 270) C dX12_init_249 (by decide) (fun h => absurd h (by decide)) (fun _ => ?_)
  refine x_aload_n C dX12_init_252 rfl rfl ?_
  obtain ⟨h191, hw⟩ := hw
  refine k_getR C fl_X12_7 (by decide) s135 (fun _ _ => rfl) h191 dX12_init_253 ?_
  refine x_iload_n C dX12_init_256 rfl rfl ?_
  refine x_bipush (v := (20 : Int32)) C dX12_init_257 (by decide) ?_
  refine x_iadd C dX12_init_259 ?_
  refine x_topi (x := (1246 : Int32)) (by decide) ?_
  refine x_iload_n C dX12_init_260 rfl rfl ?_
  refine x_iadd C dX12_init_261 ?_
  refine x_topi (x := (1252 : Int32)) (by decide) ?_
  refine x_iconst (v := (-1 : Int32)) C dX12_init_262 (by decide) ?_
  obtain ⟨M192, eM192⟩ : ∃ z : Mem, z = uI M190 136 1252 (-1 : Int32) := ⟨_, rfl⟩
  replace hw := hw M192 eM192
  refine k_iast (ni := 1252) C (by decide) s136 (by decide) (by rw [ln136]; exact vin _ _ (by decide +kernel)) eM192 dX12_init_263 ?_
  clear eM192
  try clear M190
  refine x_iinc (v := (7 : Int32)) C dX12_init_264 rfl (by decide) (Nat.le_of_ble_eq_true rfl) ?_
  refine x_sub [0, 1, 2, 3] (lv' := [(0, .ref (g.2.2.2 + 135)), (1, .int (2 : Int32)), (2, .int (1226 : Int32)), (3, .int (7 : Int32))]) rfl ?_
  refine x_goto (tgt := 246) C dX12_init_267 (by decide) ?_
  refine x_iload_n C dX12_init_246 rfl rfl ?_
  refine x_bipush (v := (16 : Int32)) C dX12_init_247 (by decide) ?_
  refine x_icmp_ge (tgt := 270) C dX12_init_249 (by decide) (fun h => absurd h (by decide)) (fun _ => ?_)
  refine x_aload_n C dX12_init_252 rfl rfl ?_
  obtain ⟨h193, hw⟩ := hw
  refine k_getR C fl_X12_7 (by decide) s135 (fun _ _ => rfl) h193 dX12_init_253 ?_
  refine x_iload_n C dX12_init_256 rfl rfl ?_
  refine x_bipush (v := (20 : Int32)) C dX12_init_257 (by decide) ?_
  refine x_iadd C dX12_init_259 ?_
  refine x_topi (x := (1246 : Int32)) (by decide) ?_
  refine x_iload_n C dX12_init_260 rfl rfl ?_
  refine x_iadd C dX12_init_261 ?_
  refine x_topi (x := (1253 : Int32)) (by decide) ?_
  refine x_iconst (v := (-1 : Int32)) C dX12_init_262 (by decide) ?_
  obtain ⟨M194, eM194⟩ : ∃ z : Mem, z = uI M192 136 1253 (-1 : Int32) := ⟨_, rfl⟩
  replace hw := hw M194 eM194
  refine k_iast (ni := 1253) C (by decide) s136 (by decide) (by rw [ln136]; exact vin _ _ (by decide +kernel)) eM194 dX12_init_263 ?_
  clear eM194
  try clear M192
  refine x_iinc (v := (8 : Int32)) C dX12_init_264 rfl (by decide) (Nat.le_of_ble_eq_true rfl) ?_
  refine x_sub [0, 1, 2, 3] (lv' := [(0, .ref (g.2.2.2 + 135)), (1, .int (2 : Int32)), (2, .int (1226 : Int32)), (3, .int (8 : Int32))]) rfl ?_
  refine x_goto (tgt := 246) C dX12_init_267 (by decide) ?_
  refine x_iload_n C dX12_init_246 rfl rfl ?_
  refine x_bipush (v := (16 : Int32)) C dX12_init_247 (by decide) ?_
  refine x_icmp_ge (tgt := 270) C dX12_init_249 (by decide) (fun h => absurd h (by decide)) (fun _ => ?_)
  refine x_aload_n C dX12_init_252 rfl rfl ?_
  obtain ⟨h195, hw⟩ := hw
  refine k_getR C fl_X12_7 (by decide) s135 (fun _ _ => rfl) h195 dX12_init_253 ?_
  refine x_iload_n C dX12_init_256 rfl rfl ?_
  refine x_bipush (v := (20 : Int32)) C dX12_init_257 (by decide) ?_
  refine x_iadd C dX12_init_259 ?_
  refine x_topi (x := (1246 : Int32)) (by decide) ?_
  refine x_iload_n C dX12_init_260 rfl rfl ?_
  refine x_iadd C dX12_init_261 ?_
  refine x_topi (x := (1254 : Int32)) (by decide) ?_
  refine x_iconst (v := (-1 : Int32)) C dX12_init_262 (by decide) ?_
  obtain ⟨M196, eM196⟩ : ∃ z : Mem, z = uI M194 136 1254 (-1 : Int32) := ⟨_, rfl⟩
  replace hw := hw M196 eM196
  refine k_iast (ni := 1254) C (by decide) s136 (by decide) (by rw [ln136]; exact vin _ _ (by decide +kernel)) eM196 dX12_init_263 ?_
  clear eM196
  try clear M194
  refine x_iinc (v := (9 : Int32)) C dX12_init_264 rfl (by decide) (Nat.le_of_ble_eq_true rfl) ?_
  refine x_sub [0, 1, 2, 3] (lv' := [(0, .ref (g.2.2.2 + 135)), (1, .int (2 : Int32)), (2, .int (1226 : Int32)), (3, .int (9 : Int32))]) rfl ?_
  refine x_goto (tgt := 246) C dX12_init_267 (by decide) ?_
  refine x_iload_n C dX12_init_246 rfl rfl ?_
  refine x_bipush (v := (16 : Int32)) C dX12_init_247 (by decide) ?_
  refine x_icmp_ge (tgt := 270) C dX12_init_249 (by decide) (fun h => absurd h (by decide)) (fun _ => ?_)
  refine x_aload_n C dX12_init_252 rfl rfl ?_
  obtain ⟨h197, hw⟩ := hw
  refine k_getR C fl_X12_7 (by decide) s135 (fun _ _ => rfl) h197 dX12_init_253 ?_
  refine x_iload_n C dX12_init_256 rfl rfl ?_
  refine x_bipush (v := (20 : Int32)) C dX12_init_257 (by decide) ?_
  refine x_iadd C dX12_init_259 ?_
  refine x_topi (x := (1246 : Int32)) (by decide) ?_
  refine x_iload_n C dX12_init_260 rfl rfl ?_
  refine x_iadd C dX12_init_261 ?_
  refine x_topi (x := (1255 : Int32)) (by decide) ?_
  refine x_iconst (v := (-1 : Int32)) C dX12_init_262 (by decide) ?_
  obtain ⟨M198, eM198⟩ : ∃ z : Mem, z = uI M196 136 1255 (-1 : Int32) := ⟨_, rfl⟩
  replace hw := hw M198 eM198
  refine k_iast (ni := 1255) C (by decide) s136 (by decide) (by rw [ln136]; exact vin _ _ (by decide +kernel)) eM198 dX12_init_263 ?_
  clear eM198
  try clear M196
  refine x_iinc (v := (10 : Int32)) C dX12_init_264 rfl (by decide) (Nat.le_of_ble_eq_true rfl) ?_
  refine x_sub [0, 1, 2, 3] (lv' := [(0, .ref (g.2.2.2 + 135)), (1, .int (2 : Int32)), (2, .int (1226 : Int32)), (3, .int (10 : Int32))]) rfl ?_
  refine x_goto (tgt := 246) C dX12_init_267 (by decide) ?_
  refine x_iload_n C dX12_init_246 rfl rfl ?_
  refine x_bipush (v := (16 : Int32)) C dX12_init_247 (by decide) ?_
  refine x_icmp_ge (tgt := 270) C dX12_init_249 (by decide) (fun h => absurd h (by decide)) (fun _ => ?_)
  refine x_aload_n C dX12_init_252 rfl rfl ?_
  obtain ⟨h199, hw⟩ := hw
  refine k_getR C fl_X12_7 (by decide) s135 (fun _ _ => rfl) h199 dX12_init_253 ?_
  refine x_iload_n C dX12_init_256 rfl rfl ?_
  refine x_bipush (v := (20 : Int32)) C dX12_init_257 (by decide) ?_
  refine x_iadd C dX12_init_259 ?_
  refine x_topi (x := (1246 : Int32)) (by decide) ?_
  refine x_iload_n C dX12_init_260 rfl rfl ?_
  refine x_iadd C dX12_init_261 ?_
  refine x_topi (x := (1256 : Int32)) (by decide) ?_
  refine x_iconst (v := (-1 : Int32)) C dX12_init_262 (by decide) ?_
  obtain ⟨M200, eM200⟩ : ∃ z : Mem, z = uI M198 136 1256 (-1 : Int32) := ⟨_, rfl⟩
  replace hw := hw M200 eM200
  refine k_iast (ni := 1256) C (by decide) s136 (by decide) (by rw [ln136]; exact vin _ _ (by decide +kernel)) eM200 dX12_init_263 ?_
  clear eM200
  try clear M198
  refine x_iinc (v := (11 : Int32)) C dX12_init_264 rfl (by decide) (Nat.le_of_ble_eq_true rfl) ?_
  refine x_sub [0, 1, 2, 3] (lv' := [(0, .ref (g.2.2.2 + 135)), (1, .int (2 : Int32)), (2, .int (1226 : Int32)), (3, .int (11 : Int32))]) rfl ?_
  refine x_goto (tgt := 246) C dX12_init_267 (by decide) ?_
  refine x_iload_n C dX12_init_246 rfl rfl ?_
  refine x_bipush (v := (16 : Int32)) C dX12_init_247 (by decide) ?_
  refine x_icmp_ge (tgt := 270) C dX12_init_249 (by decide) (fun h => absurd h (by decide)) (fun _ => ?_)
  refine x_aload_n C dX12_init_252 rfl rfl ?_
  obtain ⟨h201, hw⟩ := hw
  refine k_getR C fl_X12_7 (by decide) s135 (fun _ _ => rfl) h201 dX12_init_253 ?_
  refine x_iload_n C dX12_init_256 rfl rfl ?_
  refine x_bipush (v := (20 : Int32)) C dX12_init_257 (by decide) ?_
  refine x_iadd C dX12_init_259 ?_
  refine x_topi (x := (1246 : Int32)) (by decide) ?_
  refine x_iload_n C dX12_init_260 rfl rfl ?_
  refine x_iadd C dX12_init_261 ?_
  refine x_topi (x := (1257 : Int32)) (by decide) ?_
  refine x_iconst (v := (-1 : Int32)) C dX12_init_262 (by decide) ?_
  obtain ⟨M202, eM202⟩ : ∃ z : Mem, z = uI M200 136 1257 (-1 : Int32) := ⟨_, rfl⟩
  replace hw := hw M202 eM202
  refine k_iast (ni := 1257) C (by decide) s136 (by decide) (by rw [ln136]; exact vin _ _ (by decide +kernel)) eM202 dX12_init_263 ?_
  clear eM202
  try clear M200
  refine x_iinc (v := (12 : Int32)) C dX12_init_264 rfl (by decide) (Nat.le_of_ble_eq_true rfl) ?_
  refine x_sub [0, 1, 2, 3] (lv' := [(0, .ref (g.2.2.2 + 135)), (1, .int (2 : Int32)), (2, .int (1226 : Int32)), (3, .int (12 : Int32))]) rfl ?_
  refine x_goto (tgt := 246) C dX12_init_267 (by decide) ?_
  refine x_iload_n C dX12_init_246 rfl rfl ?_
  refine x_bipush (v := (16 : Int32)) C dX12_init_247 (by decide) ?_
  refine x_icmp_ge (tgt := 270) C dX12_init_249 (by decide) (fun h => absurd h (by decide)) (fun _ => ?_)
  refine x_aload_n C dX12_init_252 rfl rfl ?_
  obtain ⟨h203, hw⟩ := hw
  refine k_getR C fl_X12_7 (by decide) s135 (fun _ _ => rfl) h203 dX12_init_253 ?_
  refine x_iload_n C dX12_init_256 rfl rfl ?_
  refine x_bipush (v := (20 : Int32)) C dX12_init_257 (by decide) ?_
  refine x_iadd C dX12_init_259 ?_
  refine x_topi (x := (1246 : Int32)) (by decide) ?_
  refine x_iload_n C dX12_init_260 rfl rfl ?_
  refine x_iadd C dX12_init_261 ?_
  refine x_topi (x := (1258 : Int32)) (by decide) ?_
  refine x_iconst (v := (-1 : Int32)) C dX12_init_262 (by decide) ?_
  obtain ⟨M204, eM204⟩ : ∃ z : Mem, z = uI M202 136 1258 (-1 : Int32) := ⟨_, rfl⟩
  replace hw := hw M204 eM204
  refine k_iast (ni := 1258) C (by decide) s136 (by decide) (by rw [ln136]; exact vin _ _ (by decide +kernel)) eM204 dX12_init_263 ?_
  clear eM204
  try clear M202
  refine x_iinc (v := (13 : Int32)) C dX12_init_264 rfl (by decide) (Nat.le_of_ble_eq_true rfl) ?_
  refine x_sub [0, 1, 2, 3] (lv' := [(0, .ref (g.2.2.2 + 135)), (1, .int (2 : Int32)), (2, .int (1226 : Int32)), (3, .int (13 : Int32))]) rfl ?_
  refine x_goto (tgt := 246) C dX12_init_267 (by decide) ?_
  refine x_iload_n C dX12_init_246 rfl rfl ?_
  refine x_bipush (v := (16 : Int32)) C dX12_init_247 (by decide) ?_
  refine x_icmp_ge (tgt := 270) C dX12_init_249 (by decide) (fun h => absurd h (by decide)) (fun _ => ?_)
  refine x_aload_n C dX12_init_252 rfl rfl ?_
  obtain ⟨h205, hw⟩ := hw
  refine k_getR C fl_X12_7 (by decide) s135 (fun _ _ => rfl) h205 dX12_init_253 ?_
  refine x_iload_n C dX12_init_256 rfl rfl ?_
  refine x_bipush (v := (20 : Int32)) C dX12_init_257 (by decide) ?_
  refine x_iadd C dX12_init_259 ?_
  refine x_topi (x := (1246 : Int32)) (by decide) ?_
  refine x_iload_n C dX12_init_260 rfl rfl ?_
  refine x_iadd C dX12_init_261 ?_
  refine x_topi (x := (1259 : Int32)) (by decide) ?_
  refine x_iconst (v := (-1 : Int32)) C dX12_init_262 (by decide) ?_
  obtain ⟨M206, eM206⟩ : ∃ z : Mem, z = uI M204 136 1259 (-1 : Int32) := ⟨_, rfl⟩
  replace hw := hw M206 eM206
  refine k_iast (ni := 1259) C (by decide) s136 (by decide) (by rw [ln136]; exact vin _ _ (by decide +kernel)) eM206 dX12_init_263 ?_
  clear eM206
  try clear M204
  refine x_iinc (v := (14 : Int32)) C dX12_init_264 rfl (by decide) (Nat.le_of_ble_eq_true rfl) ?_
  refine x_sub [0, 1, 2, 3] (lv' := [(0, .ref (g.2.2.2 + 135)), (1, .int (2 : Int32)), (2, .int (1226 : Int32)), (3, .int (14 : Int32))]) rfl ?_
  refine x_goto (tgt := 246) C dX12_init_267 (by decide) ?_
  refine x_iload_n C dX12_init_246 rfl rfl ?_
  refine x_bipush (v := (16 : Int32)) C dX12_init_247 (by decide) ?_
  refine x_icmp_ge (tgt := 270) C dX12_init_249 (by decide) (fun h => absurd h (by decide)) (fun _ => ?_)
  refine x_aload_n C dX12_init_252 rfl rfl ?_
  obtain ⟨h207, hw⟩ := hw
  refine k_getR C fl_X12_7 (by decide) s135 (fun _ _ => rfl) h207 dX12_init_253 ?_
  refine x_iload_n C dX12_init_256 rfl rfl ?_
  refine x_bipush (v := (20 : Int32)) C dX12_init_257 (by decide) ?_
  refine x_iadd C dX12_init_259 ?_
  refine x_topi (x := (1246 : Int32)) (by decide) ?_
  refine x_iload_n C dX12_init_260 rfl rfl ?_
  refine x_iadd C dX12_init_261 ?_
  refine x_topi (x := (1260 : Int32)) (by decide) ?_
  refine x_iconst (v := (-1 : Int32)) C dX12_init_262 (by decide) ?_
  obtain ⟨M208, eM208⟩ : ∃ z : Mem, z = uI M206 136 1260 (-1 : Int32) := ⟨_, rfl⟩
  replace hw := hw M208 eM208
  refine k_iast (ni := 1260) C (by decide) s136 (by decide) (by rw [ln136]; exact vin _ _ (by decide +kernel)) eM208 dX12_init_263 ?_
  clear eM208
  try clear M206
  refine x_iinc (v := (15 : Int32)) C dX12_init_264 rfl (by decide) (Nat.le_of_ble_eq_true rfl) ?_
  refine x_sub [0, 1, 2, 3] (lv' := [(0, .ref (g.2.2.2 + 135)), (1, .int (2 : Int32)), (2, .int (1226 : Int32)), (3, .int (15 : Int32))]) rfl ?_
  refine x_goto (tgt := 246) C dX12_init_267 (by decide) ?_
  refine x_iload_n C dX12_init_246 rfl rfl ?_
  refine x_bipush (v := (16 : Int32)) C dX12_init_247 (by decide) ?_
  refine x_icmp_ge (tgt := 270) C dX12_init_249 (by decide) (fun h => absurd h (by decide)) (fun _ => ?_)
  refine x_aload_n C dX12_init_252 rfl rfl ?_
  obtain ⟨h209, hw⟩ := hw
  refine k_getR C fl_X12_7 (by decide) s135 (fun _ _ => rfl) h209 dX12_init_253 ?_
  refine x_iload_n C dX12_init_256 rfl rfl ?_
  refine x_bipush (v := (20 : Int32)) C dX12_init_257 (by decide) ?_
  refine x_iadd C dX12_init_259 ?_
  refine x_topi (x := (1246 : Int32)) (by decide) ?_
  refine x_iload_n C dX12_init_260 rfl rfl ?_
  refine x_iadd C dX12_init_261 ?_
  refine x_topi (x := (1261 : Int32)) (by decide) ?_
  refine x_iconst (v := (-1 : Int32)) C dX12_init_262 (by decide) ?_
  obtain ⟨M210, eM210⟩ : ∃ z : Mem, z = uI M208 136 1261 (-1 : Int32) := ⟨_, rfl⟩
  replace hw := hw M210 eM210
  refine k_iast (ni := 1261) C (by decide) s136 (by decide) (by rw [ln136]; exact vin _ _ (by decide +kernel)) eM210 dX12_init_263 ?_
  clear eM210
  try clear M208
  refine x_iinc (v := (16 : Int32)) C dX12_init_264 rfl (by decide) (Nat.le_of_ble_eq_true rfl) ?_
  refine x_sub [0, 1, 2, 3] (lv' := [(0, .ref (g.2.2.2 + 135)), (1, .int (2 : Int32)), (2, .int (1226 : Int32)), (3, .int (16 : Int32))]) rfl ?_
  refine x_goto (tgt := 246) C dX12_init_267 (by decide) ?_
  refine x_iload_n C dX12_init_246 rfl rfl ?_
  refine x_bipush (v := (16 : Int32)) C dX12_init_247 (by decide) ?_
  refine x_icmp_ge (tgt := 270) C dX12_init_249 (by decide) (fun _ => ?_) (fun h => absurd (by decide) h)
  refine x_iinc (v := (3 : Int32)) C dX12_init_270 rfl (by decide) (Nat.le_of_ble_eq_true rfl) ?_
  refine x_sub [0, 1, 2, 3] (lv' := [(0, .ref (g.2.2.2 + 135)), (1, .int (3 : Int32)), (2, .int (1226 : Int32)), (3, .int (16 : Int32))]) rfl ?_
  refine x_goto (tgt := 156) C dX12_init_273 (by decide) ?_
  refine x_iload_n C dX12_init_156 rfl rfl ?_
  refine x_iconst (v := (4 : Int32)) C dX12_init_157 (by decide) ?_
  refine x_icmp_ge (tgt := 276) C dX12_init_158 (by decide) (fun h => absurd h (by decide)) (fun _ => ?_)
  refine x_sipush (v := (1106 : Int32)) C dX12_init_161 (by decide) ?_
  refine x_bipush (v := (60 : Int32)) C dX12_init_164 (by decide) ?_
  refine x_iload_n C dX12_init_166 rfl rfl ?_
  refine x_imul C dX12_init_167 ?_
  refine x_topi (x := (180 : Int32)) (by decide) ?_
  refine x_iadd C dX12_init_168 ?_
  refine x_topi (x := (1286 : Int32)) (by decide) ?_
  refine x_istore_n C dX12_init_169 rfl (Nat.le_of_ble_eq_true rfl) ?_
  refine x_sub [0, 1, 2, 3] (lv' := [(0, .ref (g.2.2.2 + 135)), (1, .int (3 : Int32)), (2, .int (1286 : Int32)), (3, .int (16 : Int32))]) rfl ?_
  refine x_iconst (v := (0 : Int32)) C dX12_init_170 (by decide) ?_
  refine x_istore_n C dX12_init_171 rfl (Nat.le_of_ble_eq_true rfl) ?_
  refine x_sub [0, 1, 2, 3] (lv' := [(0, .ref (g.2.2.2 + 135)), (1, .int (3 : Int32)), (2, .int (1286 : Int32)), (3, .int (0 : Int32))]) rfl ?_
  refine x_iload_n C dX12_init_172 rfl rfl ?_
  refine x_bipush (v := (8 : Int32)) C dX12_init_173 (by decide) ?_
  refine x_icmp_ge (tgt := 193) C dX12_init_175 (by decide) (fun h => absurd h (by decide)) (fun _ => ?_)
  refine x_aload_n C dX12_init_178 rfl rfl ?_
  obtain ⟨h211, hw⟩ := hw
  refine k_getR C fl_X12_7 (by decide) s135 (fun _ _ => rfl) h211 dX12_init_179 ?_
  refine x_iload_n C dX12_init_182 rfl rfl ?_
  refine x_iload_n C dX12_init_183 rfl rfl ?_
  refine x_iadd C dX12_init_184 ?_
  refine x_topi (x := (1286 : Int32)) (by decide) ?_
  refine x_iconst (v := (1 : Int32)) C dX12_init_185 (by decide) ?_
  obtain ⟨M212, eM212⟩ : ∃ z : Mem, z = uI M210 136 1286 (1 : Int32) := ⟨_, rfl⟩
  replace hw := hw M212 eM212
  refine k_iast (ni := 1286) C (by decide) s136 (by decide) (by rw [ln136]; exact vin _ _ (by decide +kernel)) eM212 dX12_init_186 ?_
  clear eM212
  try clear M210
  refine x_iinc (v := (1 : Int32)) C dX12_init_187 rfl (by decide) (Nat.le_of_ble_eq_true rfl) ?_
  refine x_sub [0, 1, 2, 3] (lv' := [(0, .ref (g.2.2.2 + 135)), (1, .int (3 : Int32)), (2, .int (1286 : Int32)), (3, .int (1 : Int32))]) rfl ?_
  refine x_goto (tgt := 172) C dX12_init_190 (by decide) ?_
  refine x_iload_n C dX12_init_172 rfl rfl ?_
  refine x_bipush (v := (8 : Int32)) C dX12_init_173 (by decide) ?_
  refine x_icmp_ge (tgt := 193) C dX12_init_175 (by decide) (fun h => absurd h (by decide)) (fun _ => ?_)
  refine x_aload_n C dX12_init_178 rfl rfl ?_
  obtain ⟨h213, hw⟩ := hw
  refine k_getR C fl_X12_7 (by decide) s135 (fun _ _ => rfl) h213 dX12_init_179 ?_
  refine x_iload_n C dX12_init_182 rfl rfl ?_
  refine x_iload_n C dX12_init_183 rfl rfl ?_
  refine x_iadd C dX12_init_184 ?_
  refine x_topi (x := (1287 : Int32)) (by decide) ?_
  refine x_iconst (v := (1 : Int32)) C dX12_init_185 (by decide) ?_
  obtain ⟨M214, eM214⟩ : ∃ z : Mem, z = uI M212 136 1287 (1 : Int32) := ⟨_, rfl⟩
  replace hw := hw M214 eM214
  refine k_iast (ni := 1287) C (by decide) s136 (by decide) (by rw [ln136]; exact vin _ _ (by decide +kernel)) eM214 dX12_init_186 ?_
  clear eM214
  try clear M212
  refine x_iinc (v := (2 : Int32)) C dX12_init_187 rfl (by decide) (Nat.le_of_ble_eq_true rfl) ?_
  refine x_sub [0, 1, 2, 3] (lv' := [(0, .ref (g.2.2.2 + 135)), (1, .int (3 : Int32)), (2, .int (1286 : Int32)), (3, .int (2 : Int32))]) rfl ?_
  refine x_goto (tgt := 172) C dX12_init_190 (by decide) ?_
  refine x_iload_n C dX12_init_172 rfl rfl ?_
  refine x_bipush (v := (8 : Int32)) C dX12_init_173 (by decide) ?_
  refine x_icmp_ge (tgt := 193) C dX12_init_175 (by decide) (fun h => absurd h (by decide)) (fun _ => ?_)
  refine x_aload_n C dX12_init_178 rfl rfl ?_
  obtain ⟨h215, hw⟩ := hw
  refine k_getR C fl_X12_7 (by decide) s135 (fun _ _ => rfl) h215 dX12_init_179 ?_
  refine x_iload_n C dX12_init_182 rfl rfl ?_
  refine x_iload_n C dX12_init_183 rfl rfl ?_
  refine x_iadd C dX12_init_184 ?_
  refine x_topi (x := (1288 : Int32)) (by decide) ?_
  refine x_iconst (v := (1 : Int32)) C dX12_init_185 (by decide) ?_
  obtain ⟨M216, eM216⟩ : ∃ z : Mem, z = uI M214 136 1288 (1 : Int32) := ⟨_, rfl⟩
  replace hw := hw M216 eM216
  refine k_iast (ni := 1288) C (by decide) s136 (by decide) (by rw [ln136]; exact vin _ _ (by decide +kernel)) eM216 dX12_init_186 ?_
  clear eM216
  try clear M214
  refine x_iinc (v := (3 : Int32)) C dX12_init_187 rfl (by decide) (Nat.le_of_ble_eq_true rfl) ?_
  refine x_sub [0, 1, 2, 3] (lv' := [(0, .ref (g.2.2.2 + 135)), (1, .int (3 : Int32)), (2, .int (1286 : Int32)), (3, .int (3 : Int32))]) rfl ?_
  refine x_goto (tgt := 172) C dX12_init_190 (by decide) ?_
  refine x_iload_n C dX12_init_172 rfl rfl ?_
  refine x_bipush (v := (8 : Int32)) C dX12_init_173 (by decide) ?_
  refine x_icmp_ge (tgt := 193) C dX12_init_175 (by decide) (fun h => absurd h (by decide)) (fun _ => ?_)
  refine x_aload_n C dX12_init_178 rfl rfl ?_
  obtain ⟨h217, hw⟩ := hw
  refine k_getR C fl_X12_7 (by decide) s135 (fun _ _ => rfl) h217 dX12_init_179 ?_
  refine x_iload_n C dX12_init_182 rfl rfl ?_
  refine x_iload_n C dX12_init_183 rfl rfl ?_
  refine x_iadd C dX12_init_184 ?_
  refine x_topi (x := (1289 : Int32)) (by decide) ?_
  refine x_iconst (v := (1 : Int32)) C dX12_init_185 (by decide) ?_
  obtain ⟨M218, eM218⟩ : ∃ z : Mem, z = uI M216 136 1289 (1 : Int32) := ⟨_, rfl⟩
  replace hw := hw M218 eM218
  refine k_iast (ni := 1289) C (by decide) s136 (by decide) (by rw [ln136]; exact vin _ _ (by decide +kernel)) eM218 dX12_init_186 ?_
  clear eM218
  try clear M216
  refine x_iinc (v := (4 : Int32)) C dX12_init_187 rfl (by decide) (Nat.le_of_ble_eq_true rfl) ?_
  refine x_sub [0, 1, 2, 3] (lv' := [(0, .ref (g.2.2.2 + 135)), (1, .int (3 : Int32)), (2, .int (1286 : Int32)), (3, .int (4 : Int32))]) rfl ?_
  refine x_goto (tgt := 172) C dX12_init_190 (by decide) ?_
  refine x_iload_n C dX12_init_172 rfl rfl ?_
  refine x_bipush (v := (8 : Int32)) C dX12_init_173 (by decide) ?_
  refine x_icmp_ge (tgt := 193) C dX12_init_175 (by decide) (fun h => absurd h (by decide)) (fun _ => ?_)
  refine x_aload_n C dX12_init_178 rfl rfl ?_
  obtain ⟨h219, hw⟩ := hw
  refine k_getR C fl_X12_7 (by decide) s135 (fun _ _ => rfl) h219 dX12_init_179 ?_
  refine x_iload_n C dX12_init_182 rfl rfl ?_
  refine x_iload_n C dX12_init_183 rfl rfl ?_
  refine x_iadd C dX12_init_184 ?_
  refine x_topi (x := (1290 : Int32)) (by decide) ?_
  refine x_iconst (v := (1 : Int32)) C dX12_init_185 (by decide) ?_
  obtain ⟨M220, eM220⟩ : ∃ z : Mem, z = uI M218 136 1290 (1 : Int32) := ⟨_, rfl⟩
  replace hw := hw M220 eM220
  refine k_iast (ni := 1290) C (by decide) s136 (by decide) (by rw [ln136]; exact vin _ _ (by decide +kernel)) eM220 dX12_init_186 ?_
  clear eM220
  try clear M218
  refine x_iinc (v := (5 : Int32)) C dX12_init_187 rfl (by decide) (Nat.le_of_ble_eq_true rfl) ?_
  refine x_sub [0, 1, 2, 3] (lv' := [(0, .ref (g.2.2.2 + 135)), (1, .int (3 : Int32)), (2, .int (1286 : Int32)), (3, .int (5 : Int32))]) rfl ?_
  refine x_goto (tgt := 172) C dX12_init_190 (by decide) ?_
  refine x_iload_n C dX12_init_172 rfl rfl ?_
  refine x_bipush (v := (8 : Int32)) C dX12_init_173 (by decide) ?_
  refine x_icmp_ge (tgt := 193) C dX12_init_175 (by decide) (fun h => absurd h (by decide)) (fun _ => ?_)
  refine x_aload_n C dX12_init_178 rfl rfl ?_
  obtain ⟨h221, hw⟩ := hw
  refine k_getR C fl_X12_7 (by decide) s135 (fun _ _ => rfl) h221 dX12_init_179 ?_
  refine x_iload_n C dX12_init_182 rfl rfl ?_
  refine x_iload_n C dX12_init_183 rfl rfl ?_
  refine x_iadd C dX12_init_184 ?_
  refine x_topi (x := (1291 : Int32)) (by decide) ?_
  refine x_iconst (v := (1 : Int32)) C dX12_init_185 (by decide) ?_
  obtain ⟨M222, eM222⟩ : ∃ z : Mem, z = uI M220 136 1291 (1 : Int32) := ⟨_, rfl⟩
  replace hw := hw M222 eM222
  refine k_iast (ni := 1291) C (by decide) s136 (by decide) (by rw [ln136]; exact vin _ _ (by decide +kernel)) eM222 dX12_init_186 ?_
  clear eM222
  try clear M220
  refine x_iinc (v := (6 : Int32)) C dX12_init_187 rfl (by decide) (Nat.le_of_ble_eq_true rfl) ?_
  refine x_sub [0, 1, 2, 3] (lv' := [(0, .ref (g.2.2.2 + 135)), (1, .int (3 : Int32)), (2, .int (1286 : Int32)), (3, .int (6 : Int32))]) rfl ?_
  refine x_goto (tgt := 172) C dX12_init_190 (by decide) ?_
  refine x_iload_n C dX12_init_172 rfl rfl ?_
  refine x_bipush (v := (8 : Int32)) C dX12_init_173 (by decide) ?_
  refine x_icmp_ge (tgt := 193) C dX12_init_175 (by decide) (fun h => absurd h (by decide)) (fun _ => ?_)
  refine x_aload_n C dX12_init_178 rfl rfl ?_
  obtain ⟨h223, hw⟩ := hw
  refine k_getR C fl_X12_7 (by decide) s135 (fun _ _ => rfl) h223 dX12_init_179 ?_
  refine x_iload_n C dX12_init_182 rfl rfl ?_
  refine x_iload_n C dX12_init_183 rfl rfl ?_
  refine x_iadd C dX12_init_184 ?_
  refine x_topi (x := (1292 : Int32)) (by decide) ?_
  refine x_iconst (v := (1 : Int32)) C dX12_init_185 (by decide) ?_
  obtain ⟨M224, eM224⟩ : ∃ z : Mem, z = uI M222 136 1292 (1 : Int32) := ⟨_, rfl⟩
  replace hw := hw M224 eM224
  refine k_iast (ni := 1292) C (by decide) s136 (by decide) (by rw [ln136]; exact vin _ _ (by decide +kernel)) eM224 dX12_init_186 ?_
  clear eM224
  try clear M222
  refine x_iinc (v := (7 : Int32)) C dX12_init_187 rfl (by decide) (Nat.le_of_ble_eq_true rfl) ?_
  refine x_sub [0, 1, 2, 3] (lv' := [(0, .ref (g.2.2.2 + 135)), (1, .int (3 : Int32)), (2, .int (1286 : Int32)), (3, .int (7 : Int32))]) rfl ?_
  refine x_goto (tgt := 172) C dX12_init_190 (by decide) ?_
  refine x_iload_n C dX12_init_172 rfl rfl ?_
  refine x_bipush (v := (8 : Int32)) C dX12_init_173 (by decide) ?_
  refine x_icmp_ge (tgt := 193) C dX12_init_175 (by decide) (fun h => absurd h (by decide)) (fun _ => ?_)
  refine x_aload_n C dX12_init_178 rfl rfl ?_
  obtain ⟨h225, hw⟩ := hw
  refine k_getR C fl_X12_7 (by decide) s135 (fun _ _ => rfl) h225 dX12_init_179 ?_
  refine x_iload_n C dX12_init_182 rfl rfl ?_
  refine x_iload_n C dX12_init_183 rfl rfl ?_
  refine x_iadd C dX12_init_184 ?_
  refine x_topi (x := (1293 : Int32)) (by decide) ?_
  refine x_iconst (v := (1 : Int32)) C dX12_init_185 (by decide) ?_
  obtain ⟨M226, eM226⟩ : ∃ z : Mem, z = uI M224 136 1293 (1 : Int32) := ⟨_, rfl⟩
  replace hw := hw M226 eM226
  refine k_iast (ni := 1293) C (by decide) s136 (by decide) (by rw [ln136]; exact vin _ _ (by decide +kernel)) eM226 dX12_init_186 ?_
  clear eM226
  try clear M224
  refine x_iinc (v := (8 : Int32)) C dX12_init_187 rfl (by decide) (Nat.le_of_ble_eq_true rfl) ?_
  refine x_sub [0, 1, 2, 3] (lv' := [(0, .ref (g.2.2.2 + 135)), (1, .int (3 : Int32)), (2, .int (1286 : Int32)), (3, .int (8 : Int32))]) rfl ?_
  refine x_goto (tgt := 172) C dX12_init_190 (by decide) ?_
  refine x_iload_n C dX12_init_172 rfl rfl ?_
  refine x_bipush (v := (8 : Int32)) C dX12_init_173 (by decide) ?_
  refine x_icmp_ge (tgt := 193) C dX12_init_175 (by decide) (fun _ => ?_) (fun h => absurd (by decide) h)
  refine x_aload_n C dX12_init_193 rfl rfl ?_
  obtain ⟨h227, hw⟩ := hw
  refine k_getR C fl_X12_7 (by decide) s135 (fun _ _ => rfl) h227 dX12_init_194 ?_
  refine x_iload_n C dX12_init_197 rfl rfl ?_
  refine x_bipush (v := (8 : Int32)) C dX12_init_198 (by decide) ?_
  refine x_iadd C dX12_init_200 ?_
  refine x_topi (x := (1294 : Int32)) (by decide) ?_
  refine x_iconst (v := (4 : Int32)) C dX12_init_201 (by decide) ?_
  obtain ⟨M228, eM228⟩ : ∃ z : Mem, z = uI M226 136 1294 (4 : Int32) := ⟨_, rfl⟩
  replace hw := hw M228 eM228
  refine k_iast (ni := 1294) C (by decide) s136 (by decide) (by rw [ln136]; exact vin _ _ (by decide +kernel)) eM228 dX12_init_202 ?_
  clear eM228
  try clear M226
  refine x_aload_n C dX12_init_203 rfl rfl ?_
  obtain ⟨h229, hw⟩ := hw
  refine k_getR C fl_X12_7 (by decide) s135 (fun _ _ => rfl) h229 dX12_init_204 ?_
  refine x_iload_n C dX12_init_207 rfl rfl ?_
  refine x_bipush (v := (9 : Int32)) C dX12_init_208 (by decide) ?_
  refine x_iadd C dX12_init_210 ?_
  refine x_topi (x := (1295 : Int32)) (by decide) ?_
  refine x_iconst (v := (4 : Int32)) C dX12_init_211 (by decide) ?_
  obtain ⟨M230, eM230⟩ : ∃ z : Mem, z = uI M228 136 1295 (4 : Int32) := ⟨_, rfl⟩
  replace hw := hw M230 eM230
  refine k_iast (ni := 1295) C (by decide) s136 (by decide) (by rw [ln136]; exact vin _ _ (by decide +kernel)) eM230 dX12_init_212 ?_
  clear eM230
  try clear M228
  refine x_aload_n C dX12_init_213 rfl rfl ?_
  obtain ⟨h231, hw⟩ := hw
  refine k_getR C fl_X12_7 (by decide) s135 (fun _ _ => rfl) h231 dX12_init_214 ?_
  refine x_iload_n C dX12_init_217 rfl rfl ?_
  refine x_bipush (v := (10 : Int32)) C dX12_init_218 (by decide) ?_
  refine x_iadd C dX12_init_220 ?_
  refine x_topi (x := (1296 : Int32)) (by decide) ?_
  refine x_bipush (v := (10 : Int32)) C dX12_init_221 (by decide) ?_
  obtain ⟨M232, eM232⟩ : ∃ z : Mem, z = uI M230 136 1296 (10 : Int32) := ⟨_, rfl⟩
  replace hw := hw M232 eM232
  refine k_iast (ni := 1296) C (by decide) s136 (by decide) (by rw [ln136]; exact vin _ _ (by decide +kernel)) eM232 dX12_init_223 ?_
  clear eM232
  try clear M230
  refine x_aload_n C dX12_init_224 rfl rfl ?_
  obtain ⟨h233, hw⟩ := hw
  refine k_getR C fl_X12_7 (by decide) s135 (fun _ _ => rfl) h233 dX12_init_225 ?_
  refine x_iload_n C dX12_init_228 rfl rfl ?_
  refine x_bipush (v := (11 : Int32)) C dX12_init_229 (by decide) ?_
  refine x_iadd C dX12_init_231 ?_
  refine x_topi (x := (1297 : Int32)) (by decide) ?_
  refine x_iconst (v := (4 : Int32)) C dX12_init_232 (by decide) ?_
  obtain ⟨M234, eM234⟩ : ∃ z : Mem, z = uI M232 136 1297 (4 : Int32) := ⟨_, rfl⟩
  replace hw := hw M234 eM234
  refine k_iast (ni := 1297) C (by decide) s136 (by decide) (by rw [ln136]; exact vin _ _ (by decide +kernel)) eM234 dX12_init_233 ?_
  clear eM234
  try clear M232
  refine x_aload_n C dX12_init_234 rfl rfl ?_
  obtain ⟨h235, hw⟩ := hw
  refine k_getR C fl_X12_7 (by decide) s135 (fun _ _ => rfl) h235 dX12_init_235 ?_
  refine x_iload_n C dX12_init_238 rfl rfl ?_
  refine x_bipush (v := (12 : Int32)) C dX12_init_239 (by decide) ?_
  refine x_iadd C dX12_init_241 ?_
  refine x_topi (x := (1298 : Int32)) (by decide) ?_
  refine x_iconst (v := (5 : Int32)) C dX12_init_242 (by decide) ?_
  obtain ⟨M236, eM236⟩ : ∃ z : Mem, z = uI M234 136 1298 (5 : Int32) := ⟨_, rfl⟩
  replace hw := hw M236 eM236
  refine k_iast (ni := 1298) C (by decide) s136 (by decide) (by rw [ln136]; exact vin _ _ (by decide +kernel)) eM236 dX12_init_243 ?_
  clear eM236
  try clear M234
  refine x_iconst (v := (0 : Int32)) C dX12_init_244 (by decide) ?_
  refine x_istore_n C dX12_init_245 rfl (Nat.le_of_ble_eq_true rfl) ?_
  refine x_sub [0, 1, 2, 3] (lv' := [(0, .ref (g.2.2.2 + 135)), (1, .int (3 : Int32)), (2, .int (1286 : Int32)), (3, .int (0 : Int32))]) rfl ?_
  refine x_iload_n C dX12_init_246 rfl rfl ?_
  refine x_bipush (v := (16 : Int32)) C dX12_init_247 (by decide) ?_
  refine x_icmp_ge (tgt := 270) C dX12_init_249 (by decide) (fun h => absurd h (by decide)) (fun _ => ?_)
  refine x_aload_n C dX12_init_252 rfl rfl ?_
  obtain ⟨h237, hw⟩ := hw
  refine k_getR C fl_X12_7 (by decide) s135 (fun _ _ => rfl) h237 dX12_init_253 ?_
  refine x_iload_n C dX12_init_256 rfl rfl ?_
  refine x_bipush (v := (20 : Int32)) C dX12_init_257 (by decide) ?_
  refine x_iadd C dX12_init_259 ?_
  refine x_topi (x := (1306 : Int32)) (by decide) ?_
  refine x_iload_n C dX12_init_260 rfl rfl ?_
  refine x_iadd C dX12_init_261 ?_
  refine x_topi (x := (1306 : Int32)) (by decide) ?_
  refine x_iconst (v := (-1 : Int32)) C dX12_init_262 (by decide) ?_
  obtain ⟨M238, eM238⟩ : ∃ z : Mem, z = uI M236 136 1306 (-1 : Int32) := ⟨_, rfl⟩
  replace hw := hw M238 eM238
  refine k_iast (ni := 1306) C (by decide) s136 (by decide) (by rw [ln136]; exact vin _ _ (by decide +kernel)) eM238 dX12_init_263 ?_
  clear eM238
  try clear M236
  refine x_iinc (v := (1 : Int32)) C dX12_init_264 rfl (by decide) (Nat.le_of_ble_eq_true rfl) ?_
  refine x_sub [0, 1, 2, 3] (lv' := [(0, .ref (g.2.2.2 + 135)), (1, .int (3 : Int32)), (2, .int (1286 : Int32)), (3, .int (1 : Int32))]) rfl ?_
  refine x_goto (tgt := 246) C dX12_init_267 (by decide) ?_
  refine x_iload_n C dX12_init_246 rfl rfl ?_
  refine x_bipush (v := (16 : Int32)) C dX12_init_247 (by decide) ?_
  refine x_icmp_ge (tgt := 270) C dX12_init_249 (by decide) (fun h => absurd h (by decide)) (fun _ => ?_)
  refine x_aload_n C dX12_init_252 rfl rfl ?_
  obtain ⟨h239, hw⟩ := hw
  refine k_getR C fl_X12_7 (by decide) s135 (fun _ _ => rfl) h239 dX12_init_253 ?_
  refine x_iload_n C dX12_init_256 rfl rfl ?_
  refine x_bipush (v := (20 : Int32)) C dX12_init_257 (by decide) ?_
  refine x_iadd C dX12_init_259 ?_
  refine x_topi (x := (1306 : Int32)) (by decide) ?_
  refine x_iload_n C dX12_init_260 rfl rfl ?_
  refine x_iadd C dX12_init_261 ?_
  refine x_topi (x := (1307 : Int32)) (by decide) ?_
  refine x_iconst (v := (-1 : Int32)) C dX12_init_262 (by decide) ?_
  obtain ⟨M240, eM240⟩ : ∃ z : Mem, z = uI M238 136 1307 (-1 : Int32) := ⟨_, rfl⟩
  replace hw := hw M240 eM240
  refine k_iast (ni := 1307) C (by decide) s136 (by decide) (by rw [ln136]; exact vin _ _ (by decide +kernel)) eM240 dX12_init_263 ?_
  clear eM240
  try clear M238
  refine x_iinc (v := (2 : Int32)) C dX12_init_264 rfl (by decide) (Nat.le_of_ble_eq_true rfl) ?_
  refine x_sub [0, 1, 2, 3] (lv' := [(0, .ref (g.2.2.2 + 135)), (1, .int (3 : Int32)), (2, .int (1286 : Int32)), (3, .int (2 : Int32))]) rfl ?_
  refine x_goto (tgt := 246) C dX12_init_267 (by decide) ?_
  refine x_iload_n C dX12_init_246 rfl rfl ?_
  refine x_bipush (v := (16 : Int32)) C dX12_init_247 (by decide) ?_
  refine x_icmp_ge (tgt := 270) C dX12_init_249 (by decide) (fun h => absurd h (by decide)) (fun _ => ?_)
  refine x_aload_n C dX12_init_252 rfl rfl ?_
  obtain ⟨h241, hw⟩ := hw
  refine k_getR C fl_X12_7 (by decide) s135 (fun _ _ => rfl) h241 dX12_init_253 ?_
  refine x_iload_n C dX12_init_256 rfl rfl ?_
  refine x_bipush (v := (20 : Int32)) C dX12_init_257 (by decide) ?_
  refine x_iadd C dX12_init_259 ?_
  refine x_topi (x := (1306 : Int32)) (by decide) ?_
  refine x_iload_n C dX12_init_260 rfl rfl ?_
  refine x_iadd C dX12_init_261 ?_
  refine x_topi (x := (1308 : Int32)) (by decide) ?_
  refine x_iconst (v := (-1 : Int32)) C dX12_init_262 (by decide) ?_
  obtain ⟨M242, eM242⟩ : ∃ z : Mem, z = uI M240 136 1308 (-1 : Int32) := ⟨_, rfl⟩
  replace hw := hw M242 eM242
  refine k_iast (ni := 1308) C (by decide) s136 (by decide) (by rw [ln136]; exact vin _ _ (by decide +kernel)) eM242 dX12_init_263 ?_
  clear eM242
  try clear M240
  refine x_iinc (v := (3 : Int32)) C dX12_init_264 rfl (by decide) (Nat.le_of_ble_eq_true rfl) ?_
  refine x_sub [0, 1, 2, 3] (lv' := [(0, .ref (g.2.2.2 + 135)), (1, .int (3 : Int32)), (2, .int (1286 : Int32)), (3, .int (3 : Int32))]) rfl ?_
  refine x_goto (tgt := 246) C dX12_init_267 (by decide) ?_
  refine x_iload_n C dX12_init_246 rfl rfl ?_
  refine x_bipush (v := (16 : Int32)) C dX12_init_247 (by decide) ?_
  refine x_icmp_ge (tgt := 270) C dX12_init_249 (by decide) (fun h => absurd h (by decide)) (fun _ => ?_)
  refine x_aload_n C dX12_init_252 rfl rfl ?_
  obtain ⟨h243, hw⟩ := hw
  refine k_getR C fl_X12_7 (by decide) s135 (fun _ _ => rfl) h243 dX12_init_253 ?_
  refine x_iload_n C dX12_init_256 rfl rfl ?_
  refine x_bipush (v := (20 : Int32)) C dX12_init_257 (by decide) ?_
  refine x_iadd C dX12_init_259 ?_
  refine x_topi (x := (1306 : Int32)) (by decide) ?_
  refine x_iload_n C dX12_init_260 rfl rfl ?_
  refine x_iadd C dX12_init_261 ?_
  refine x_topi (x := (1309 : Int32)) (by decide) ?_
  refine x_iconst (v := (-1 : Int32)) C dX12_init_262 (by decide) ?_
  obtain ⟨M244, eM244⟩ : ∃ z : Mem, z = uI M242 136 1309 (-1 : Int32) := ⟨_, rfl⟩
  replace hw := hw M244 eM244
  refine k_iast (ni := 1309) C (by decide) s136 (by decide) (by rw [ln136]; exact vin _ _ (by decide +kernel)) eM244 dX12_init_263 ?_
  clear eM244
  try clear M242
  refine x_iinc (v := (4 : Int32)) C dX12_init_264 rfl (by decide) (Nat.le_of_ble_eq_true rfl) ?_
  refine x_sub [0, 1, 2, 3] (lv' := [(0, .ref (g.2.2.2 + 135)), (1, .int (3 : Int32)), (2, .int (1286 : Int32)), (3, .int (4 : Int32))]) rfl ?_
  refine x_goto (tgt := 246) C dX12_init_267 (by decide) ?_
  refine x_iload_n C dX12_init_246 rfl rfl ?_
  refine x_bipush (v := (16 : Int32)) C dX12_init_247 (by decide) ?_
  refine x_icmp_ge (tgt := 270) C dX12_init_249 (by decide) (fun h => absurd h (by decide)) (fun _ => ?_)
  refine x_aload_n C dX12_init_252 rfl rfl ?_
  obtain ⟨h245, hw⟩ := hw
  refine k_getR C fl_X12_7 (by decide) s135 (fun _ _ => rfl) h245 dX12_init_253 ?_
  refine x_iload_n C dX12_init_256 rfl rfl ?_
  refine x_bipush (v := (20 : Int32)) C dX12_init_257 (by decide) ?_
  refine x_iadd C dX12_init_259 ?_
  refine x_topi (x := (1306 : Int32)) (by decide) ?_
  refine x_iload_n C dX12_init_260 rfl rfl ?_
  refine x_iadd C dX12_init_261 ?_
  refine x_topi (x := (1310 : Int32)) (by decide) ?_
  refine x_iconst (v := (-1 : Int32)) C dX12_init_262 (by decide) ?_
  obtain ⟨M246, eM246⟩ : ∃ z : Mem, z = uI M244 136 1310 (-1 : Int32) := ⟨_, rfl⟩
  replace hw := hw M246 eM246
  refine k_iast (ni := 1310) C (by decide) s136 (by decide) (by rw [ln136]; exact vin _ _ (by decide +kernel)) eM246 dX12_init_263 ?_
  clear eM246
  try clear M244
  refine x_iinc (v := (5 : Int32)) C dX12_init_264 rfl (by decide) (Nat.le_of_ble_eq_true rfl) ?_
  refine x_sub [0, 1, 2, 3] (lv' := [(0, .ref (g.2.2.2 + 135)), (1, .int (3 : Int32)), (2, .int (1286 : Int32)), (3, .int (5 : Int32))]) rfl ?_
  refine x_goto (tgt := 246) C dX12_init_267 (by decide) ?_
  refine x_iload_n C dX12_init_246 rfl rfl ?_
  refine x_bipush (v := (16 : Int32)) C dX12_init_247 (by decide) ?_
  refine x_icmp_ge (tgt := 270) C dX12_init_249 (by decide) (fun h => absurd h (by decide)) (fun _ => ?_)
  refine x_aload_n C dX12_init_252 rfl rfl ?_
  obtain ⟨h247, hw⟩ := hw
  refine k_getR C fl_X12_7 (by decide) s135 (fun _ _ => rfl) h247 dX12_init_253 ?_
  refine x_iload_n C dX12_init_256 rfl rfl ?_
  refine x_bipush (v := (20 : Int32)) C dX12_init_257 (by decide) ?_
  refine x_iadd C dX12_init_259 ?_
  refine x_topi (x := (1306 : Int32)) (by decide) ?_
  refine x_iload_n C dX12_init_260 rfl rfl ?_
  refine x_iadd C dX12_init_261 ?_
  refine x_topi (x := (1311 : Int32)) (by decide) ?_
  refine x_iconst (v := (-1 : Int32)) C dX12_init_262 (by decide) ?_
  obtain ⟨M248, eM248⟩ : ∃ z : Mem, z = uI M246 136 1311 (-1 : Int32) := ⟨_, rfl⟩
  replace hw := hw M248 eM248
  refine k_iast (ni := 1311) C (by decide) s136 (by decide) (by rw [ln136]; exact vin _ _ (by decide +kernel)) eM248 dX12_init_263 ?_
  clear eM248
  try clear M246
  refine x_iinc (v := (6 : Int32)) C dX12_init_264 rfl (by decide) (Nat.le_of_ble_eq_true rfl) ?_
  refine x_sub [0, 1, 2, 3] (lv' := [(0, .ref (g.2.2.2 + 135)), (1, .int (3 : Int32)), (2, .int (1286 : Int32)), (3, .int (6 : Int32))]) rfl ?_
  refine x_goto (tgt := 246) C dX12_init_267 (by decide) ?_
  refine x_iload_n C dX12_init_246 rfl rfl ?_
  refine x_bipush (v := (16 : Int32)) C dX12_init_247 (by decide) ?_
  refine x_icmp_ge (tgt := 270) C dX12_init_249 (by decide) (fun h => absurd h (by decide)) (fun _ => ?_)
  refine x_aload_n C dX12_init_252 rfl rfl ?_
  obtain ⟨h249, hw⟩ := hw
  refine k_getR C fl_X12_7 (by decide) s135 (fun _ _ => rfl) h249 dX12_init_253 ?_
  refine x_iload_n C dX12_init_256 rfl rfl ?_
  refine x_bipush (v := (20 : Int32)) C dX12_init_257 (by decide) ?_
  refine x_iadd C dX12_init_259 ?_
  refine x_topi (x := (1306 : Int32)) (by decide) ?_
  refine x_iload_n C dX12_init_260 rfl rfl ?_
  refine x_iadd C dX12_init_261 ?_
  refine x_topi (x := (1312 : Int32)) (by decide) ?_
  refine x_iconst (v := (-1 : Int32)) C dX12_init_262 (by decide) ?_
  obtain ⟨M250, eM250⟩ : ∃ z : Mem, z = uI M248 136 1312 (-1 : Int32) := ⟨_, rfl⟩
  replace hw := hw M250 eM250
  refine k_iast (ni := 1312) C (by decide) s136 (by decide) (by rw [ln136]; exact vin _ _ (by decide +kernel)) eM250 dX12_init_263 ?_
  clear eM250
  try clear M248
  refine x_iinc (v := (7 : Int32)) C dX12_init_264 rfl (by decide) (Nat.le_of_ble_eq_true rfl) ?_
  refine x_sub [0, 1, 2, 3] (lv' := [(0, .ref (g.2.2.2 + 135)), (1, .int (3 : Int32)), (2, .int (1286 : Int32)), (3, .int (7 : Int32))]) rfl ?_
  refine x_goto (tgt := 246) C dX12_init_267 (by decide) ?_
  refine x_iload_n C dX12_init_246 rfl rfl ?_
  refine x_bipush (v := (16 : Int32)) C dX12_init_247 (by decide) ?_
  refine x_icmp_ge (tgt := 270) C dX12_init_249 (by decide) (fun h => absurd h (by decide)) (fun _ => ?_)
  refine x_aload_n C dX12_init_252 rfl rfl ?_
  obtain ⟨h251, hw⟩ := hw
  refine k_getR C fl_X12_7 (by decide) s135 (fun _ _ => rfl) h251 dX12_init_253 ?_
  refine x_iload_n C dX12_init_256 rfl rfl ?_
  refine x_bipush (v := (20 : Int32)) C dX12_init_257 (by decide) ?_
  refine x_iadd C dX12_init_259 ?_
  refine x_topi (x := (1306 : Int32)) (by decide) ?_
  refine x_iload_n C dX12_init_260 rfl rfl ?_
  refine x_iadd C dX12_init_261 ?_
  refine x_topi (x := (1313 : Int32)) (by decide) ?_
  refine x_iconst (v := (-1 : Int32)) C dX12_init_262 (by decide) ?_
  obtain ⟨M252, eM252⟩ : ∃ z : Mem, z = uI M250 136 1313 (-1 : Int32) := ⟨_, rfl⟩
  replace hw := hw M252 eM252
  refine k_iast (ni := 1313) C (by decide) s136 (by decide) (by rw [ln136]; exact vin _ _ (by decide +kernel)) eM252 dX12_init_263 ?_
  clear eM252
  try clear M250
  refine x_iinc (v := (8 : Int32)) C dX12_init_264 rfl (by decide) (Nat.le_of_ble_eq_true rfl) ?_
  refine x_sub [0, 1, 2, 3] (lv' := [(0, .ref (g.2.2.2 + 135)), (1, .int (3 : Int32)), (2, .int (1286 : Int32)), (3, .int (8 : Int32))]) rfl ?_
  refine x_goto (tgt := 246) C dX12_init_267 (by decide) ?_
  refine x_iload_n C dX12_init_246 rfl rfl ?_
  refine x_bipush (v := (16 : Int32)) C dX12_init_247 (by decide) ?_
  refine x_icmp_ge (tgt := 270) C dX12_init_249 (by decide) (fun h => absurd h (by decide)) (fun _ => ?_)
  refine x_aload_n C dX12_init_252 rfl rfl ?_
  obtain ⟨h253, hw⟩ := hw
  refine k_getR C fl_X12_7 (by decide) s135 (fun _ _ => rfl) h253 dX12_init_253 ?_
  refine x_iload_n C dX12_init_256 rfl rfl ?_
  refine x_bipush (v := (20 : Int32)) C dX12_init_257 (by decide) ?_
  refine x_iadd C dX12_init_259 ?_
  refine x_topi (x := (1306 : Int32)) (by decide) ?_
  refine x_iload_n C dX12_init_260 rfl rfl ?_
  refine x_iadd C dX12_init_261 ?_
  refine x_topi (x := (1314 : Int32)) (by decide) ?_
  refine x_iconst (v := (-1 : Int32)) C dX12_init_262 (by decide) ?_
  obtain ⟨M254, eM254⟩ : ∃ z : Mem, z = uI M252 136 1314 (-1 : Int32) := ⟨_, rfl⟩
  replace hw := hw M254 eM254
  refine k_iast (ni := 1314) C (by decide) s136 (by decide) (by rw [ln136]; exact vin _ _ (by decide +kernel)) eM254 dX12_init_263 ?_
  clear eM254
  try clear M252
  refine x_iinc (v := (9 : Int32)) C dX12_init_264 rfl (by decide) (Nat.le_of_ble_eq_true rfl) ?_
  refine x_sub [0, 1, 2, 3] (lv' := [(0, .ref (g.2.2.2 + 135)), (1, .int (3 : Int32)), (2, .int (1286 : Int32)), (3, .int (9 : Int32))]) rfl ?_
  refine x_goto (tgt := 246) C dX12_init_267 (by decide) ?_
  refine x_iload_n C dX12_init_246 rfl rfl ?_
  refine x_bipush (v := (16 : Int32)) C dX12_init_247 (by decide) ?_
  refine x_icmp_ge (tgt := 270) C dX12_init_249 (by decide) (fun h => absurd h (by decide)) (fun _ => ?_)
  refine x_aload_n C dX12_init_252 rfl rfl ?_
  obtain ⟨h255, hw⟩ := hw
  refine k_getR C fl_X12_7 (by decide) s135 (fun _ _ => rfl) h255 dX12_init_253 ?_
  refine x_iload_n C dX12_init_256 rfl rfl ?_
  refine x_bipush (v := (20 : Int32)) C dX12_init_257 (by decide) ?_
  refine x_iadd C dX12_init_259 ?_
  refine x_topi (x := (1306 : Int32)) (by decide) ?_
  refine x_iload_n C dX12_init_260 rfl rfl ?_
  refine x_iadd C dX12_init_261 ?_
  refine x_topi (x := (1315 : Int32)) (by decide) ?_
  refine x_iconst (v := (-1 : Int32)) C dX12_init_262 (by decide) ?_
  obtain ⟨M256, eM256⟩ : ∃ z : Mem, z = uI M254 136 1315 (-1 : Int32) := ⟨_, rfl⟩
  replace hw := hw M256 eM256
  refine k_iast (ni := 1315) C (by decide) s136 (by decide) (by rw [ln136]; exact vin _ _ (by decide +kernel)) eM256 dX12_init_263 ?_
  clear eM256
  try clear M254
  refine x_iinc (v := (10 : Int32)) C dX12_init_264 rfl (by decide) (Nat.le_of_ble_eq_true rfl) ?_
  refine x_sub [0, 1, 2, 3] (lv' := [(0, .ref (g.2.2.2 + 135)), (1, .int (3 : Int32)), (2, .int (1286 : Int32)), (3, .int (10 : Int32))]) rfl ?_
  refine x_goto (tgt := 246) C dX12_init_267 (by decide) ?_
  refine x_iload_n C dX12_init_246 rfl rfl ?_
  refine x_bipush (v := (16 : Int32)) C dX12_init_247 (by decide) ?_
  refine x_icmp_ge (tgt := 270) C dX12_init_249 (by decide) (fun h => absurd h (by decide)) (fun _ => ?_)
  refine x_aload_n C dX12_init_252 rfl rfl ?_
  obtain ⟨h257, hw⟩ := hw
  refine k_getR C fl_X12_7 (by decide) s135 (fun _ _ => rfl) h257 dX12_init_253 ?_
  refine x_iload_n C dX12_init_256 rfl rfl ?_
  refine x_bipush (v := (20 : Int32)) C dX12_init_257 (by decide) ?_
  refine x_iadd C dX12_init_259 ?_
  refine x_topi (x := (1306 : Int32)) (by decide) ?_
  refine x_iload_n C dX12_init_260 rfl rfl ?_
  refine x_iadd C dX12_init_261 ?_
  refine x_topi (x := (1316 : Int32)) (by decide) ?_
  refine x_iconst (v := (-1 : Int32)) C dX12_init_262 (by decide) ?_
  obtain ⟨M258, eM258⟩ : ∃ z : Mem, z = uI M256 136 1316 (-1 : Int32) := ⟨_, rfl⟩
  replace hw := hw M258 eM258
  refine k_iast (ni := 1316) C (by decide) s136 (by decide) (by rw [ln136]; exact vin _ _ (by decide +kernel)) eM258 dX12_init_263 ?_
  clear eM258
  try clear M256
  refine x_iinc (v := (11 : Int32)) C dX12_init_264 rfl (by decide) (Nat.le_of_ble_eq_true rfl) ?_
  refine x_sub [0, 1, 2, 3] (lv' := [(0, .ref (g.2.2.2 + 135)), (1, .int (3 : Int32)), (2, .int (1286 : Int32)), (3, .int (11 : Int32))]) rfl ?_
  refine x_goto (tgt := 246) C dX12_init_267 (by decide) ?_
  refine x_iload_n C dX12_init_246 rfl rfl ?_
  refine x_bipush (v := (16 : Int32)) C dX12_init_247 (by decide) ?_
  refine x_icmp_ge (tgt := 270) C dX12_init_249 (by decide) (fun h => absurd h (by decide)) (fun _ => ?_)
  refine x_aload_n C dX12_init_252 rfl rfl ?_
  obtain ⟨h259, hw⟩ := hw
  refine k_getR C fl_X12_7 (by decide) s135 (fun _ _ => rfl) h259 dX12_init_253 ?_
  refine x_iload_n C dX12_init_256 rfl rfl ?_
  refine x_bipush (v := (20 : Int32)) C dX12_init_257 (by decide) ?_
  refine x_iadd C dX12_init_259 ?_
  refine x_topi (x := (1306 : Int32)) (by decide) ?_
  refine x_iload_n C dX12_init_260 rfl rfl ?_
  refine x_iadd C dX12_init_261 ?_
  refine x_topi (x := (1317 : Int32)) (by decide) ?_
  refine x_iconst (v := (-1 : Int32)) C dX12_init_262 (by decide) ?_
  obtain ⟨M260, eM260⟩ : ∃ z : Mem, z = uI M258 136 1317 (-1 : Int32) := ⟨_, rfl⟩
  replace hw := hw M260 eM260
  refine k_iast (ni := 1317) C (by decide) s136 (by decide) (by rw [ln136]; exact vin _ _ (by decide +kernel)) eM260 dX12_init_263 ?_
  clear eM260
  try clear M258
  refine x_iinc (v := (12 : Int32)) C dX12_init_264 rfl (by decide) (Nat.le_of_ble_eq_true rfl) ?_
  refine x_sub [0, 1, 2, 3] (lv' := [(0, .ref (g.2.2.2 + 135)), (1, .int (3 : Int32)), (2, .int (1286 : Int32)), (3, .int (12 : Int32))]) rfl ?_
  refine x_goto (tgt := 246) C dX12_init_267 (by decide) ?_
  refine x_iload_n C dX12_init_246 rfl rfl ?_
  refine x_bipush (v := (16 : Int32)) C dX12_init_247 (by decide) ?_
  refine x_icmp_ge (tgt := 270) C dX12_init_249 (by decide) (fun h => absurd h (by decide)) (fun _ => ?_)
  refine x_aload_n C dX12_init_252 rfl rfl ?_
  obtain ⟨h261, hw⟩ := hw
  refine k_getR C fl_X12_7 (by decide) s135 (fun _ _ => rfl) h261 dX12_init_253 ?_
  refine x_iload_n C dX12_init_256 rfl rfl ?_
  refine x_bipush (v := (20 : Int32)) C dX12_init_257 (by decide) ?_
  refine x_iadd C dX12_init_259 ?_
  refine x_topi (x := (1306 : Int32)) (by decide) ?_
  refine x_iload_n C dX12_init_260 rfl rfl ?_
  refine x_iadd C dX12_init_261 ?_
  refine x_topi (x := (1318 : Int32)) (by decide) ?_
  refine x_iconst (v := (-1 : Int32)) C dX12_init_262 (by decide) ?_
  obtain ⟨M262, eM262⟩ : ∃ z : Mem, z = uI M260 136 1318 (-1 : Int32) := ⟨_, rfl⟩
  replace hw := hw M262 eM262
  refine k_iast (ni := 1318) C (by decide) s136 (by decide) (by rw [ln136]; exact vin _ _ (by decide +kernel)) eM262 dX12_init_263 ?_
  clear eM262
  try clear M260
  refine x_iinc (v := (13 : Int32)) C dX12_init_264 rfl (by decide) (Nat.le_of_ble_eq_true rfl) ?_
  refine x_sub [0, 1, 2, 3] (lv' := [(0, .ref (g.2.2.2 + 135)), (1, .int (3 : Int32)), (2, .int (1286 : Int32)), (3, .int (13 : Int32))]) rfl ?_
  refine x_goto (tgt := 246) C dX12_init_267 (by decide) ?_
  refine x_iload_n C dX12_init_246 rfl rfl ?_
  refine x_bipush (v := (16 : Int32)) C dX12_init_247 (by decide) ?_
  refine x_icmp_ge (tgt := 270) C dX12_init_249 (by decide) (fun h => absurd h (by decide)) (fun _ => ?_)
  refine x_aload_n C dX12_init_252 rfl rfl ?_
  obtain ⟨h263, hw⟩ := hw
  refine k_getR C fl_X12_7 (by decide) s135 (fun _ _ => rfl) h263 dX12_init_253 ?_
  refine x_iload_n C dX12_init_256 rfl rfl ?_
  refine x_bipush (v := (20 : Int32)) C dX12_init_257 (by decide) ?_
  refine x_iadd C dX12_init_259 ?_
  refine x_topi (x := (1306 : Int32)) (by decide) ?_
  refine x_iload_n C dX12_init_260 rfl rfl ?_
  refine x_iadd C dX12_init_261 ?_
  refine x_topi (x := (1319 : Int32)) (by decide) ?_
  refine x_iconst (v := (-1 : Int32)) C dX12_init_262 (by decide) ?_
  obtain ⟨M264, eM264⟩ : ∃ z : Mem, z = uI M262 136 1319 (-1 : Int32) := ⟨_, rfl⟩
  replace hw := hw M264 eM264
  refine k_iast (ni := 1319) C (by decide) s136 (by decide) (by rw [ln136]; exact vin _ _ (by decide +kernel)) eM264 dX12_init_263 ?_
  clear eM264
  try clear M262
  refine x_iinc (v := (14 : Int32)) C dX12_init_264 rfl (by decide) (Nat.le_of_ble_eq_true rfl) ?_
  refine x_sub [0, 1, 2, 3] (lv' := [(0, .ref (g.2.2.2 + 135)), (1, .int (3 : Int32)), (2, .int (1286 : Int32)), (3, .int (14 : Int32))]) rfl ?_
  refine x_goto (tgt := 246) C dX12_init_267 (by decide) ?_
  refine x_iload_n C dX12_init_246 rfl rfl ?_
  refine x_bipush (v := (16 : Int32)) C dX12_init_247 (by decide) ?_
  refine x_icmp_ge (tgt := 270) C dX12_init_249 (by decide) (fun h => absurd h (by decide)) (fun _ => ?_)
  refine x_aload_n C dX12_init_252 rfl rfl ?_
  obtain ⟨h265, hw⟩ := hw
  refine k_getR C fl_X12_7 (by decide) s135 (fun _ _ => rfl) h265 dX12_init_253 ?_
  refine x_iload_n C dX12_init_256 rfl rfl ?_
  refine x_bipush (v := (20 : Int32)) C dX12_init_257 (by decide) ?_
  refine x_iadd C dX12_init_259 ?_
  refine x_topi (x := (1306 : Int32)) (by decide) ?_
  refine x_iload_n C dX12_init_260 rfl rfl ?_
  refine x_iadd C dX12_init_261 ?_
  refine x_topi (x := (1320 : Int32)) (by decide) ?_
  refine x_iconst (v := (-1 : Int32)) C dX12_init_262 (by decide) ?_
  obtain ⟨M266, eM266⟩ : ∃ z : Mem, z = uI M264 136 1320 (-1 : Int32) := ⟨_, rfl⟩
  replace hw := hw M266 eM266
  refine k_iast (ni := 1320) C (by decide) s136 (by decide) (by rw [ln136]; exact vin _ _ (by decide +kernel)) eM266 dX12_init_263 ?_
  clear eM266
  try clear M264
  refine x_iinc (v := (15 : Int32)) C dX12_init_264 rfl (by decide) (Nat.le_of_ble_eq_true rfl) ?_
  refine x_sub [0, 1, 2, 3] (lv' := [(0, .ref (g.2.2.2 + 135)), (1, .int (3 : Int32)), (2, .int (1286 : Int32)), (3, .int (15 : Int32))]) rfl ?_
  refine x_goto (tgt := 246) C dX12_init_267 (by decide) ?_
  refine x_iload_n C dX12_init_246 rfl rfl ?_
  refine x_bipush (v := (16 : Int32)) C dX12_init_247 (by decide) ?_
  refine x_icmp_ge (tgt := 270) C dX12_init_249 (by decide) (fun h => absurd h (by decide)) (fun _ => ?_)
  refine x_aload_n C dX12_init_252 rfl rfl ?_
  obtain ⟨h267, hw⟩ := hw
  refine k_getR C fl_X12_7 (by decide) s135 (fun _ _ => rfl) h267 dX12_init_253 ?_
  refine x_iload_n C dX12_init_256 rfl rfl ?_
  refine x_bipush (v := (20 : Int32)) C dX12_init_257 (by decide) ?_
  refine x_iadd C dX12_init_259 ?_
  refine x_topi (x := (1306 : Int32)) (by decide) ?_
  refine x_iload_n C dX12_init_260 rfl rfl ?_
  refine x_iadd C dX12_init_261 ?_
  refine x_topi (x := (1321 : Int32)) (by decide) ?_
  refine x_iconst (v := (-1 : Int32)) C dX12_init_262 (by decide) ?_
  obtain ⟨M268, eM268⟩ : ∃ z : Mem, z = uI M266 136 1321 (-1 : Int32) := ⟨_, rfl⟩
  replace hw := hw M268 eM268
  refine k_iast (ni := 1321) C (by decide) s136 (by decide) (by rw [ln136]; exact vin _ _ (by decide +kernel)) eM268 dX12_init_263 ?_
  clear eM268
  try clear M266
  refine x_iinc (v := (16 : Int32)) C dX12_init_264 rfl (by decide) (Nat.le_of_ble_eq_true rfl) ?_
  refine x_sub [0, 1, 2, 3] (lv' := [(0, .ref (g.2.2.2 + 135)), (1, .int (3 : Int32)), (2, .int (1286 : Int32)), (3, .int (16 : Int32))]) rfl ?_
  refine x_goto (tgt := 246) C dX12_init_267 (by decide) ?_
  refine x_iload_n C dX12_init_246 rfl rfl ?_
  refine x_bipush (v := (16 : Int32)) C dX12_init_247 (by decide) ?_
  refine x_icmp_ge (tgt := 270) C dX12_init_249 (by decide) (fun _ => ?_) (fun h => absurd (by decide) h)
  refine x_iinc (v := (4 : Int32)) C dX12_init_270 rfl (by decide) (Nat.le_of_ble_eq_true rfl) ?_
  refine x_sub [0, 1, 2, 3] (lv' := [(0, .ref (g.2.2.2 + 135)), (1, .int (4 : Int32)), (2, .int (1286 : Int32)), (3, .int (16 : Int32))]) rfl ?_
  refine x_goto (tgt := 156) C dX12_init_273 (by decide) ?_
  refine x_iload_n C dX12_init_156 rfl rfl ?_
  refine x_iconst (v := (4 : Int32)) C dX12_init_157 (by decide) ?_
  refine x_icmp_ge (tgt := 276) C dX12_init_158 (by decide) (fun _ => ?_) (fun h => absurd (by decide) h)
  refine x_aload_n C dX12_init_276 rfl rfl ?_
  obtain ⟨h269, hw⟩ := hw
  refine k_getR C fl_X12_7 (by decide) s135 (fun _ _ => rfl) h269 dX12_init_277 ?_
  refine x_sipush (v := (4218 : Int32)) C dX12_init_280 (by decide) ?_
  refine x_bipush (v := (20 : Int32)) C dX12_init_283 (by decide) ?_
  obtain ⟨M270, eM270⟩ : ∃ z : Mem, z = uI M268 136 4218 (20 : Int32) := ⟨_, rfl⟩
  replace hw := hw M270 eM270
  refine k_iast (ni := 4218) C (by decide) s136 (by decide) (by rw [ln136]; exact vin _ _ (by decide +kernel)) eM270 dX12_init_285 ?_
  clear eM270
  try clear M268
  exact x_vreturn C r dX12_init_286 ⟨rfl, rfl, hw⟩


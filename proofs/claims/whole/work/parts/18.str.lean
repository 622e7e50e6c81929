def txb (k : Nat) : Int32 := ([110, 109, 108, 103, 112, 98] : List Int32).getD k 0
theorem x_ldcS {c : CtxT} {pc : Nat} {lv : List (Nat × Value)} {st : List Value} {M : Mem} {cc : ByteArray} {nL : Nat} {g : Gl} {l : Launch} {rm : Room} (C : Cx c cc nL "FastWhy$Reader" g l rm) (d : decode cc pc = .ok (.ldc 102, 2)) (kk : X c S0 (pc + 2) lv (.ref (g.2.1 99 0) :: st) M) : X c S0 pc lv st M := by
  obtain ⟨p, l, e, R, s, m, args, below, meth, co, Q, g⟩ := c
  obtain ⟨rfl, rfl, hx, hb, hml, hown, hts, hK, hN, hsz, hlk, hstr, rfl⟩ := C
  exact fun H locs ls hP hS hz hl => va_ldcS hx hb hown hstr.1 d (kk H locs ls hP hS hz hl)
theorem x_strval {c : CtxT} {pc : Nat} {lv : List (Nat × Value)} {st : List Value} {M : Mem} {cc : ByteArray} {nL : Nat} {own : String} {g : Gl} {l : Launch} {rm : Room} {index : Nat} (C : Cx c cc nL own g l rm) (h : Cond.fieldLink own index "java/lang/String" "value" "[B" ∈ gtb) (d : decode cc pc = .ok (.getfield index, 3)) (kk : X c S0 (pc + 3) lv (.ref (g.2.1 99 1) :: st) M) : X c S0 pc lv (.ref (g.2.1 99 0) :: st) M := by
  obtain ⟨p, l, e, R, s, m, args, below, meth, co, Q, g⟩ := c
  obtain ⟨rfl, rfl, hx, hb, hml, hown, hts, hK, hN, hsz, hlk, hstr, rfl⟩ := C
  exact fun H locs ls hP hS hz hl => vk_getf hx hb (hstr.2.1.1 0 (by decide)).2.2.1 hS hown (hts _ h) (fun _ h => h) d (kk H locs ls hP hS hz hl)
theorem x_strcod {c : CtxT} {pc : Nat} {lv : List (Nat × Value)} {st : List Value} {M : Mem} {cc : ByteArray} {nL : Nat} {own : String} {g : Gl} {l : Launch} {rm : Room} {index : Nat} (C : Cx c cc nL own g l rm) (h : Cond.fieldLink own index "java/lang/String" "coder" "B" ∈ gtb) (d : decode cc pc = .ok (.getfield index, 3)) (kk : X c S0 (pc + 3) lv (.int 0 :: st) M) : X c S0 pc lv (.ref (g.2.1 99 0) :: st) M := by
  obtain ⟨p, l, e, R, s, m, args, below, meth, co, Q, g⟩ := c
  obtain ⟨rfl, rfl, hx, hb, hml, hown, hts, hK, hN, hsz, hlk, hstr, rfl⟩ := C
  exact fun H locs ls hP hS hz hl => vk_getf hx hb (hstr.2.1.1 0 (by decide)).2.1 hS hown (hts _ h) (fun _ h => h) d (kk H locs ls hP hS hz hl)
theorem x_strcs {c : CtxT} {pc : Nat} {lv : List (Nat × Value)} {st : List Value} {M : Mem} {cc : ByteArray} {nL : Nat} {own : String} {g : Gl} {l : Launch} {rm : Room} {index : Nat} (C : Cx c cc nL own g l rm) (h : Cond.fieldLink own index "java/lang/String" "COMPACT_STRINGS" "Z" ∈ gtb) (d : decode cc pc = .ok (.getstatic index, 3)) (kk : X c S0 (pc + 3) lv (.int 1 :: st) M) : X c S0 pc lv st M := by
  obtain ⟨p, l, e, R, s, m, args, below, meth, co, Q, g⟩ := c
  obtain ⟨rfl, rfl, hx, hb, hml, hown, hts, hK, hN, hsz, hlk, hstr, rfl⟩ := C
  exact fun H locs ls hP hS hz hl => va_gets hx hb hstr.2.2.1 hS hown (hts _ h) (fun _ h => h) d (kk H locs ls hP hS hz hl)
theorem x_strfm {c : CtxT} {pc : Nat} {lv : List (Nat × Value)} {st : List Value} {M : Mem} {cc : ByteArray} {nL : Nat} {own : String} {g : Gl} {l : Launch} {rm : Room} {index : Nat} (C : Cx c cc nL own g l rm) (h : Cond.fieldLink own index "jdk/internal/util/Preconditions" "SIOOBE_FORMATTER" "Ljava/util/function/BiFunction;" ∈ gtb) (d : decode cc pc = .ok (.getstatic index, 3)) (kk : ∀ v : Value, v.category = 1 → X c S0 (pc + 3) lv (v :: st) M) : X c S0 pc lv st M := by
  obtain ⟨p, l, e, R, s, m, args, below, meth, co, Q, g⟩ := c
  obtain ⟨rfl, rfl, hx, hb, hml, hown, hts, hK, hN, hsz, hlk, hstr, rfl⟩ := C
  intro H locs ls hP hS hz hl
  rcases hstr.2.2.2 with hq | ⟨t, hq⟩
  · exact va_gets hx hb hq hS hown (hts _ h) (fun _ h => h) d (kk .null rfl H locs ls hP hS hz hl)
  · exact va_gets hx hb hq hS hown (hts _ h) (fun _ h => h) d (kk (.ref t) rfl H locs ls hP hS hz hl)
theorem x_pop {c : CtxT} {pc : Nat} {lv : List (Nat × Value)} {st : List Value} {M : Mem} {cc : ByteArray} {nL : Nat} {own : String} {g : Gl} {l : Launch} {rm : Room} {v : Value} (C : Cx c cc nL own g l rm) (d : decode cc pc = .ok (.pop, 1)) (hv : v.category = 1) (kk : X c S0 (pc + 1) lv st M) : X c S0 pc lv (v :: st) M := by
  obtain ⟨p, l, e, R, s, m, args, below, meth, co, Q, g⟩ := c
  obtain ⟨rfl, rfl, hx, hb, hml, hown, hts, hK, hN, hsz, hlk, hstr, rfl⟩ := C
  exact fun H locs ls hP hS hz hl => lv_pop hx hb d hv (kk H locs ls hP hS hz hl)
theorem x_strlen {c : CtxT} {pc : Nat} {lv : List (Nat × Value)} {st : List Value} {M : Mem} {cc : ByteArray} {nL : Nat} {own : String} {g : Gl} {l : Launch} {rm : Room} (C : Cx c cc nL own g l rm) (d : decode cc pc = .ok (.arraylength, 1)) (kk : X c S0 (pc + 1) lv (.int 6 :: st) M) : X c S0 pc lv (.ref (g.2.1 99 1) :: st) M := by
  obtain ⟨p, l, e, R, s, m, args, below, meth, co, Q, g⟩ := c
  obtain ⟨rfl, rfl, hx, hb, hml, hown, hts, hK, hN, hsz, hlk, hstr, rfl⟩ := C
  exact fun H locs ls hP hS hz hl => va_tlen hx hb (hstr.2.1.1 0 (by decide)).2.2.2 hS (by decide) d (kk H locs ls hP hS hz hl)
theorem x_strat {c : CtxT} {pc : Nat} {lv : List (Nat × Value)} {st : List Value} {M : Mem} {cc : ByteArray} {nL : Nat} {own : String} {g : Gl} {l : Launch} {rm : Room} {i : Int32} (C : Cx c cc nL own g l rm) (hin : vp_in i 6) (d : decode cc pc = .ok (.baload, 1)) (kk : X c S0 (pc + 1) lv (.int (txb i.toNatClampNeg) :: st) M) : X c S0 pc lv (.int i :: .ref (g.2.1 99 1) :: st) M := by
  obtain ⟨p, l, e, R, s, m, args, below, meth, co, Q, g⟩ := c
  obtain ⟨rfl, rfl, hx, hb, hml, hown, hts, hK, hN, hsz, hlk, hstr, rfl⟩ := C
  exact fun H locs ls hP hS hz hl => va_tb hx hb (hstr.2.1.1 0 (by decide)).2.2.2 hS hin rfl d (kk H locs ls hP hS hz hl)
theorem x_i2c {c : CtxT} {pc : Nat} {lv : List (Nat × Value)} {st : List Value} {M : Mem} {cc : ByteArray} {nL : Nat} {own : String} {g : Gl} {l : Launch} {rm : Room} {x v : Int32} (C : Cx c cc nL own g l rm) (d : decode cc pc = .ok (.i2c, 1)) (hv : (x.toUInt32 % 65536).toInt32 = v) (kk : X c S0 (pc + 1) lv (.int v :: st) M) : X c S0 pc lv (.int x :: st) M := by
  obtain ⟨p, l, e, R, s, m, args, below, meth, co, Q, g⟩ := c
  obtain ⟨rfl, rfl, hx, hb, hml, hown, hts, hK, hN, hsz, hlk, hstr, rfl⟩ := C
  exact fun H locs ls hP hS hz hl => lv_i2c hx hb d hv (kk H locs ls hP hS hz hl)
theorem x_nreturn {c : CtxT} {pc : Nat} {lv : List (Nat × Value)} {M : Mem} {cc : ByteArray} {nL : Nat} {own : String} {g : Gl} {l : Launch} {rm : Room} {q : Int32 → Mem → Prop} {v : Int32} {ty : FieldType} (C : Cx c cc nL own g l rm) (r : Rt c (some ty) (pI q) 0 0) (d : decode cc pc = .ok (.ireturn, 1)) (hn : narrow ty (.int v) = .int v) (h : q v M) : X c S0 pc lv [.int v] (stat M) := by
  obtain ⟨p, l, e, R, s, m, args, below, meth, co, Q, g⟩ := c
  obtain ⟨rfl, rfl, hx, hb, hml, hown, hts, hK, hN, hsz, hlk, hstr, rfl⟩ := C
  obtain ⟨rfl, hret⟩ := r
  exact fun H locs ls hP hS hz hl => W.zret hx hb hret hn (fun t ht hW => qm_in hP hS hz hK hN hsz hstr ⟨v, M, rfl, rfl, rfl, h⟩ ht hW) hS.2.2 d hlk
theorem n_introF {g : Gl} {l : Launch} {y : MethodName} {bytes : ByteArray} {maxL fr lo : Nat} {ret : Option FieldType} {as : List Value} {M : Mem} {q : Int32 → Mem → Prop} (hy : plainFor y = true) (hn : (lg_sl as).length ≤ maxL) (body : ∀ c : CtxT, Cx c bytes maxL y.cls g l (Rm fr lo) → Rt c ret (pI q) 0 0 → X c S0 0 (lv_args 0 as) [] (stat M)) : CtI g l y bytes maxL ret fr lo as M q := by
  refine va_MetF (cc := bytes) (maxL := maxL) (ret := ret) hy rfl ?_
  intro p e s m args below meth c s₁ B hml hv
  obtain ⟨rfl, hP, hz, hK, hN, hsz, hstr⟩ := hv
  have hts := atoms_spec (ws := Cond.code y bytes maxL ret :: gtb) B.pre
  have hl := lv_entry as (n := maxL) hn
  rw [lg_entry_eq]
  exact body (p, l, e, _, s, m, as.toArray, below, meth, c, _, g) ⟨rfl, rfl, B.exec, B.bytes, hml, findClass_of_methodNamed B.named, fun w hw => hts w (List.mem_cons_of_mem _ hw), hK, hN, hsz, B.notSynchronized, hstr, rfl⟩ ⟨rfl, B.returns⟩ s.heap [] _ hP va_S.rf hz (by rw [hml]; exact hl)
theorem n_introFV {g : Gl} {l : Launch} {y : MethodName} {bytes : ByteArray} {maxL fr lo : Nat} {ret : Option FieldType} {as : List Value} {M : Mem} {q : Mem → Prop} (hy : plainFor y = true) (hn : (lg_sl as).length ≤ maxL) (body : ∀ c : CtxT, Cx c bytes maxL y.cls g l (Rm fr lo) → Rt c ret (pV q) 0 0 → X c S0 0 (lv_args 0 as) [] (stat M)) : CtV g l y bytes maxL ret fr lo as M q := by
  refine va_MetF (cc := bytes) (maxL := maxL) (ret := ret) hy rfl ?_
  intro p e s m args below meth c s₁ B hml hv
  obtain ⟨rfl, hP, hz, hK, hN, hsz, hstr⟩ := hv
  have hts := atoms_spec (ws := Cond.code y bytes maxL ret :: gtb) B.pre
  have hl := lv_entry as (n := maxL) hn
  rw [lg_entry_eq]
  exact body (p, l, e, _, s, m, as.toArray, below, meth, c, _, g) ⟨rfl, rfl, B.exec, B.bytes, hml, findClass_of_methodNamed B.named, fun w hw => hts w (List.mem_cons_of_mem _ hw), hK, hN, hsz, B.notSynchronized, hstr, rfl⟩ ⟨rfl, B.returns⟩ s.heap [] _ hP va_S.rf hz (by rw [hml]; exact hl)
theorem n_callT {c : CtxT} {pc : Nat} {lv : List (Nat × Value)} {st : List Value} {M : Mem} {cc : ByteArray} {nL : Nat} {own : String} {g : Gl} {l : Launch} {rm : Room} {rest : List Value} {index : Nat} {y : MethodName} {bytes : ByteArray} {maxL fr lo : Nat} {ret : Option FieldType} {as : List Value} {n : Nat} {q : Int32 → Mem → Prop} (hc : y.cls = "java/lang/String") (C : Cx c cc nL own g l rm) (hM : CtI g l y bytes maxL ret fr lo (.ref (g.2.1 99 0) :: as) M q) (ml : MV own index y bytes maxL ret n) (hst : st = as.reverse ++ .ref (g.2.1 99 0) :: rest) (hn : as.length = n) (hR : fr + 1 ≤ rm.frames ∧ 8 + (maxL + 11) + lo ≤ rm.locals) (hroom : (rest.map fun v => v.category).sum ≤ 8) (d : decode cc pc = .ok (.invokevirtual index, 3)) (k : ∀ (v : Int32) (M' : Mem), q v M' → X c S0 (pc + 3) lv (.int v :: rest) (stat M')) : X c S0 pc lv st (stat M) := by
  obtain ⟨p, l, e, R, s, m, args, below, meth, co, Q, g⟩ := c
  obtain ⟨rfl, rfl, hx, hb, hml, hown, hts, hK, hN, hsz, hlk, hstr, rfl⟩ := C
  obtain ⟨m1, m2, m3, m4, m5, m6⟩ := ml
  intro H locs ls hP hS hz hl
  subst hst
  have hrec := vk_recv (i := 0) hstr.2.1 (by decide) hS
  refine qm_call (va_runV (C := y.cls) (As := as) (rest := rest) ⟨hx, hb, hml, hown, hts⟩ hM ⟨callB_of n hts (good_code m5) rfl rfl rfl (hts _ m4) (hts _ m1) m6 hR, hts _ m2, hts _ m3⟩ ⟨hld_blind, by rw [hc]; exact hrec, fun U hU hW => ⟨rfl, hld_at hP hz hK hN (Nat.le_trans hsz hS.1) (hstr.kept (fun a h1 h2 => hS.2.1 a h1 h2)) U hU hW⟩⟩ rfl hn (hl.1.trans hml) rfl (lv_room hroom) d ⟨Nat.zero_le _, Nat.zero_le _⟩) hS (fun r K M' H1 locs1 hp hP1 hS1 hz1 => ?_)
  obtain ⟨v, M0, rfl, rfl, rfl, h⟩ := hp
  exact k v M0 h H1 locs1 ls hP1 hS1 hz1 hl
set_option maxRecDepth 100000 in
theorem mv_J0_335 : MV RJ0 335 yJ0_coder_7d493 cJ0_coder_7d493 1 (some .byte) 0 := ⟨gt_mem 1022 (by rfl) (by rfl), gt_mem 1023 (by rfl) (by rfl), gt_mem 1024 (by rfl) (by rfl), gt_mem 78 (by rfl) (by rfl), gt_mem 1025 (by rfl) (by rfl), ⟨by decide +kernel, by decide +kernel, by decide +kernel⟩⟩
set_option maxRecDepth 100000 in
theorem mv_J0_492 : MV RJ0 492 yJ0_isLatin1_aae02 cJ0_isLatin1_aae02 1 (some .boolean) 0 := ⟨gt_mem 1032 (by rfl) (by rfl), gt_mem 1033 (by rfl) (by rfl), gt_mem 1034 (by rfl) (by rfl), gt_mem 78 (by rfl) (by rfl), gt_mem 1035 (by rfl) (by rfl), ⟨by decide +kernel, by decide +kernel, by decide +kernel⟩⟩
set_option maxRecDepth 100000 in
theorem ms_J0_495 : MS RJ0 495 yJ1_charAt_3b067 cJ1_charAt_3b067 2 (some .char) 2 := ⟨gt_mem 1036 (by rfl) (by rfl), gt_mem 1037 (by rfl) (by rfl), gt_mem 79 (by rfl) (by rfl), gt_mem 1038 (by rfl) (by rfl), ⟨by decide +kernel, by decide +kernel, by decide +kernel⟩⟩
set_option maxRecDepth 100000 in
theorem mv_X4_104 : MV RX4 104 yJ0_length_8abf5 cJ0_length_8abf5 1 (some .int) 0 := ⟨gt_mem 1018 (by rfl) (by rfl), gt_mem 1019 (by rfl) (by rfl), gt_mem 1020 (by rfl) (by rfl), gt_mem 78 (by rfl) (by rfl), gt_mem 1021 (by rfl) (by rfl), ⟨by decide +kernel, by decide +kernel, by decide +kernel⟩⟩
set_option maxRecDepth 100000 in
theorem mv_X4_109 : MV RX4 109 yJ0_charAt_5068e cJ0_charAt_5068e 2 (some .char) 1 := ⟨gt_mem 1028 (by rfl) (by rfl), gt_mem 1029 (by rfl) (by rfl), gt_mem 1030 (by rfl) (by rfl), gt_mem 78 (by rfl) (by rfl), gt_mem 1031 (by rfl) (by rfl), ⟨by decide +kernel, by decide +kernel, by decide +kernel⟩⟩
set_option maxRecDepth 100000 in
theorem fs_val : Cond.fieldLink RJ0 9 "java/lang/String" "value" "[B" ∈ gtb := gt_mem 1573 (by rfl) (by rfl)
set_option maxRecDepth 100000 in
theorem fs_cod : Cond.fieldLink RJ0 15 "java/lang/String" "coder" "B" ∈ gtb := gt_mem 1574 (by rfl) (by rfl)
set_option maxRecDepth 100000 in
theorem fs_cs : Cond.fieldLink RJ0 38 "java/lang/String" "COMPACT_STRINGS" "Z" ∈ gtb := gt_mem 1026 (by rfl) (by rfl)
set_option maxRecDepth 100000 in
set_option maxHeartbeats 4000000 in
theorem ok_J0_coder_7d493 {g : Gl} {l : Launch} {v1 : Int32} {M : Mem} {q : Int32 → Mem → Prop} (hw : q 0 M) : CtI g l yJ0_coder_7d493 cJ0_coder_7d493 1 (some .byte) 1 0 [.ref (g.2.1 99 0)] M q := by
  refine n_introF (by decide +kernel) (Nat.le_of_ble_eq_true rfl) (fun c C r => ?_)
  have C : Cx c cJ0_coder_7d493 1 RJ0 g l (Rm 1 0) := C
  refine x_sub [0] (lv' := [(0, .ref (g.2.1 99 0))]) rfl ?_
  refine x_strcs C fs_cs dJ0_coder_7d493_0 ?_
  refine x_if_eq (tgt := 13) C dJ0_coder_7d493_3 (by decide) (fun h => absurd h (by decide)) (fun _ => ?_)
  refine x_aload_n C dJ0_coder_7d493_6 rfl rfl ?_
  refine x_strcod C fs_cod dJ0_coder_7d493_7 ?_
  refine x_goto (tgt := 14) C dJ0_coder_7d493_10 (by decide) ?_
  exact x_nreturn C r dJ0_coder_7d493_14 (by decide) hw
set_option maxRecDepth 100000 in
set_option maxHeartbeats 4000000 in
theorem ok_J0_isLatin1_aae02 {g : Gl} {l : Launch} {v1 : Int32} {M : Mem} {q : Int32 → Mem → Prop} (hw : q 1 M) : CtI g l yJ0_isLatin1_aae02 cJ0_isLatin1_aae02 1 (some .boolean) 1 0 [.ref (g.2.1 99 0)] M q := by
  refine n_introF (by decide +kernel) (Nat.le_of_ble_eq_true rfl) (fun c C r => ?_)
  have C : Cx c cJ0_isLatin1_aae02 1 RJ0 g l (Rm 1 0) := C
  refine x_sub [0] (lv' := [(0, .ref (g.2.1 99 0))]) rfl ?_
  refine x_strcs C fs_cs dJ0_isLatin1_aae02_0 ?_
  refine x_if_eq (tgt := 17) C dJ0_isLatin1_aae02_3 (by decide) (fun h => absurd h (by decide)) (fun _ => ?_)
  refine x_aload_n C dJ0_isLatin1_aae02_6 rfl rfl ?_
  refine x_strcod C fs_cod dJ0_isLatin1_aae02_7 ?_
  refine x_if_ne (tgt := 17) C dJ0_isLatin1_aae02_10 (by decide) (fun h => absurd rfl h) (fun _ => ?_)
  refine x_iconst (v := (1 : Int32)) C dJ0_isLatin1_aae02_13 (by decide) ?_
  refine x_goto (tgt := 18) C dJ0_isLatin1_aae02_14 (by decide) ?_
  exact x_nreturn C r dJ0_isLatin1_aae02_18 (by decide) hw
set_option maxRecDepth 100000 in
set_option maxHeartbeats 4000000 in
theorem ok_J0_length_8abf5 {g : Gl} {l : Launch} {v1 : Int32} {M : Mem} {q : Int32 → Mem → Prop} (hw : q 6 M) : CtI g l yJ0_length_8abf5 cJ0_length_8abf5 1 (some .int) 3 60 [.ref (g.2.1 99 0)] M q := by
  refine n_introF (by decide +kernel) (Nat.le_of_ble_eq_true rfl) (fun c C r => ?_)
  have C : Cx c cJ0_length_8abf5 1 RJ0 g l (Rm 3 60) := C
  refine x_sub [0] (lv' := [(0, .ref (g.2.1 99 0))]) rfl ?_
  refine x_aload_n C dJ0_length_8abf5_0 rfl rfl ?_
  refine x_strval C fs_val dJ0_length_8abf5_1 ?_
  refine x_strlen C dJ0_length_8abf5_4 ?_
  refine x_aload_n C dJ0_length_8abf5_5 rfl rfl ?_
  refine n_callT rfl C (ok_J0_coder_7d493 (q := fun v M' => v = 0 ∧ M' = M) ⟨rfl, rfl⟩ (v1 := 0)) mv_J0_335 rfl rfl ⟨Nat.le_of_ble_eq_true rfl, Nat.le_of_ble_eq_true rfl⟩ (Nat.le_of_ble_eq_true rfl) dJ0_length_8abf5_6 (fun v M2 hv => ?_)
  obtain ⟨rfl, rfl⟩ := hv
  refine x_ishr C dJ0_length_8abf5_9 ?_
  exact x_nreturn C r dJ0_length_8abf5_10 rfl hw
set_option maxRecDepth 100000 in
theorem ms_J0_1059 : MS RJ0 1059 yJ3_checkIndex_8e157 cJ3_checkIndex_8e157 3 (some .int) 3 := ⟨gt_mem 1044 (by rfl) (by rfl), gt_mem 1045 (by rfl) (by rfl), gt_mem 80 (by rfl) (by rfl), gt_mem 1046 (by rfl) (by rfl), ⟨by decide +kernel, by decide +kernel, by decide +kernel⟩⟩
set_option maxRecDepth 100000 in
theorem ms_J1_9 : MS RJ1 9 yJ0_checkIndex_df160 cJ0_checkIndex_df160 2 none 2 := ⟨gt_mem 1039 (by rfl) (by rfl), gt_mem 1040 (by rfl) (by rfl), gt_mem 78 (by rfl) (by rfl), gt_mem 1041 (by rfl) (by rfl), ⟨by decide +kernel, by decide +kernel, by decide +kernel⟩⟩
set_option maxRecDepth 100000 in
theorem fs_fm : Cond.fieldLink RJ0 1053 "jdk/internal/util/Preconditions" "SIOOBE_FORMATTER" "Ljava/util/function/BiFunction;" ∈ gtb := gt_mem 1042 (by rfl) (by rfl)
set_option maxRecDepth 100000 in
set_option maxHeartbeats 4000000 in
theorem ok_J3_checkIndex_8e157 {g : Gl} {l : Launch} {v0 v1 : Int32} {u : Value} (hu : u.category = 1) {M : Mem} {q : Int32 → Mem → Prop} (h1 : ¬ v0 < 0) (h2 : v0 < v1) (hw : q v0 M) : CtI g l yJ3_checkIndex_8e157 cJ3_checkIndex_8e157 3 (some .int) 1 0 [.int v0, .int v1, u] M q := by
  refine n_introF (by decide +kernel) (by cases u <;> first | exact Nat.le_of_ble_eq_true rfl | exact absurd (show (2 : Nat) = 1 from hu) (by decide)) (fun c C r => ?_)
  have C : Cx c cJ3_checkIndex_8e157 3 RJ3 g l (Rm 1 0) := C
  refine x_sub [0, 1] (lv' := [(0, .int v0), (1, .int v1)]) rfl ?_
  refine x_iload_n C dJ3_checkIndex_8e157_0 rfl rfl ?_
  refine x_if_lt (tgt := 9) C dJ3_checkIndex_8e157_1 (by decide) (fun h => absurd h h1) (fun _ => ?_)
  refine x_iload_n C dJ3_checkIndex_8e157_4 rfl rfl ?_
  refine x_iload_n C dJ3_checkIndex_8e157_5 rfl rfl ?_
  refine x_icmp_lt (tgt := 16) C dJ3_checkIndex_8e157_6 (by decide) (fun _ => ?_) (fun h => absurd h2 h)
  refine x_iload_n C dJ3_checkIndex_8e157_16 rfl rfl ?_
  exact n_ireturn C r dJ3_checkIndex_8e157_17 hw
set_option maxRecDepth 100000 in
set_option maxHeartbeats 4000000 in
theorem ok_J0_checkIndex_df160 {g : Gl} {l : Launch} {v0 v1 : Int32} {M : Mem} {q : Mem → Prop} (h1 : ¬ v0 < 0) (h2 : v0 < v1) (hw : q M) : CtV g l yJ0_checkIndex_df160 cJ0_checkIndex_df160 2 none 2 30 [.int v0, .int v1] M q := by
  refine n_introFV (by decide +kernel) (Nat.le_of_ble_eq_true rfl) (fun c C r => ?_)
  have C : Cx c cJ0_checkIndex_df160 2 RJ0 g l (Rm 2 30) := C
  refine x_sub [0, 1] (lv' := [(0, .int v0), (1, .int v1)]) rfl ?_
  refine x_iload_n C dJ0_checkIndex_df160_0 rfl rfl ?_
  refine x_iload_n C dJ0_checkIndex_df160_1 rfl rfl ?_
  refine x_strfm C fs_fm dJ0_checkIndex_df160_2 (fun u hu => ?_)
  refine n_callSI C (ok_J3_checkIndex_8e157 hu (q := fun _ M' => q M') h1 h2 hw) ms_J0_1059 rfl rfl ⟨Nat.le_of_ble_eq_true rfl, Nat.le_of_ble_eq_true rfl⟩ (Nat.le_of_ble_eq_true rfl) dJ0_checkIndex_df160_5 (fun v M2 hw => ?_)
  refine x_pop C dJ0_checkIndex_df160_8 rfl ?_
  exact n_vreturn C r dJ0_checkIndex_df160_9 hw
set_option maxRecDepth 100000 in
set_option maxHeartbeats 4000000 in
theorem ok_J1_charAt_3b067 {g : Gl} {l : Launch} {v1 : Int32} {M : Mem} {q : Int32 → Mem → Prop} (h0 : vp_in v1 6) (hw : q (txb v1.toNatClampNeg) M) : CtI g l yJ1_charAt_3b067 cJ1_charAt_3b067 2 (some .char) 3 60 [.ref (g.2.1 99 1), .int v1] M q := by
  refine n_introF (by decide +kernel) (Nat.le_of_ble_eq_true rfl) (fun c C r => ?_)
  have C : Cx c cJ1_charAt_3b067 2 RJ1 g l (Rm 3 60) := C
  refine x_sub [0, 1] (lv' := [(0, .ref (g.2.1 99 1)), (1, .int v1)]) rfl ?_
  have hlt := vp_lt h0
  have h1 : ¬ v1 < 0 := fun z => h0 (Or.inl z)
  have h2 : v1 < 6 := by
    have e1 : (0 : Int) ≤ v1.toInt := by simpa using Int32.le_iff_toInt_le.mp (Int32.not_lt.mp h1)
    have e2 : v1.toInt.toNat < 6 := hlt
    refine Int32.lt_iff_toInt_lt.mpr ?_
    show v1.toInt < 6
    omega
  refine x_iload_n C dJ1_charAt_3b067_0 rfl rfl ?_
  refine x_aload_n C dJ1_charAt_3b067_1 rfl rfl ?_
  refine x_strlen C dJ1_charAt_3b067_2 ?_
  refine n_callSV C (ok_J0_checkIndex_df160 (q := fun M' => q (txb v1.toNatClampNeg) M') h1 h2 hw) ms_J1_9 rfl rfl ⟨Nat.le_of_ble_eq_true rfl, Nat.le_of_ble_eq_true rfl⟩ (Nat.le_of_ble_eq_true rfl) dJ1_charAt_3b067_3 (fun M2 hw => ?_)
  refine x_aload_n C dJ1_charAt_3b067_6 rfl rfl ?_
  refine x_iload_n C dJ1_charAt_3b067_7 rfl rfl ?_
  refine x_strat C h0 dJ1_charAt_3b067_8 ?_
  refine x_sipush (v := (255 : Int32)) C dJ1_charAt_3b067_9 (by decide) ?_
  refine x_iand C dJ1_charAt_3b067_12 ?_
  have key : ∀ k, k < 6 → (((txb k &&& 255).toUInt32 % 65536).toInt32 = txb k ∧ narrow .char (.int (txb k)) = .int (txb k)) := by decide +kernel
  refine x_i2c C dJ1_charAt_3b067_13 (key _ hlt).1 ?_
  exact x_nreturn C r dJ1_charAt_3b067_14 (key _ hlt).2 hw
set_option maxRecDepth 100000 in
set_option maxHeartbeats 4000000 in
theorem ok_J0_charAt_5068e {g : Gl} {l : Launch} {v1 : Int32} {M : Mem} {q : Int32 → Mem → Prop} (h0 : vp_in v1 6) (hw : q (txb v1.toNatClampNeg) M) : CtI g l yJ0_charAt_5068e cJ0_charAt_5068e 2 (some .char) 4 110 [.ref (g.2.1 99 0), .int v1] M q := by
  refine n_introF (by decide +kernel) (Nat.le_of_ble_eq_true rfl) (fun c C r => ?_)
  have C : Cx c cJ0_charAt_5068e 2 RJ0 g l (Rm 4 110) := C
  refine x_sub [0, 1] (lv' := [(0, .ref (g.2.1 99 0)), (1, .int v1)]) rfl ?_
  have key : ∀ k, k < 6 → narrow .char (.int (txb k)) = .int (txb k) := by decide +kernel
  refine x_aload_n C dJ0_charAt_5068e_0 rfl rfl ?_
  refine n_callT rfl C (ok_J0_isLatin1_aae02 (q := fun v M' => v = 1 ∧ M' = M) ⟨rfl, rfl⟩ (v1 := 0)) mv_J0_492 rfl rfl ⟨Nat.le_of_ble_eq_true rfl, Nat.le_of_ble_eq_true rfl⟩ (Nat.le_of_ble_eq_true rfl) dJ0_charAt_5068e_1 (fun v M2 hv => ?_)
  obtain ⟨rfl, rfl⟩ := hv
  refine x_if_eq (tgt := 16) C dJ0_charAt_5068e_4 (by decide) (fun h => absurd h (by decide)) (fun _ => ?_)
  refine x_aload_n C dJ0_charAt_5068e_7 rfl rfl ?_
  refine x_strval C fs_val dJ0_charAt_5068e_8 ?_
  refine x_iload_n C dJ0_charAt_5068e_11 rfl rfl ?_
  refine n_callSI C (ok_J1_charAt_3b067 h0 (q := fun v M' => v = txb v1.toNatClampNeg ∧ q v M') ⟨rfl, hw⟩) ms_J0_495 rfl rfl ⟨Nat.le_of_ble_eq_true rfl, Nat.le_of_ble_eq_true rfl⟩ (Nat.le_of_ble_eq_true rfl) dJ0_charAt_5068e_12 (fun v M3 hv => ?_)
  obtain ⟨rfl, hw⟩ := hv
  exact x_nreturn C r dJ0_charAt_5068e_15 (key _ (vp_lt h0)) hw

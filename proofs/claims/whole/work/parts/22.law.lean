def R_law0 : String := "FastWhyLaw"
abbrev KL : Nat × Nat × Nat := (KT, 154, 31060)
/-- the script, as the law's context has it -/
def Lx (c : CtxT) (g : Gl) (b L : Nat) (xs : Nat → Int32) : Prop := match c with
  | (_, _, _, _, s, _, _, _, _, _, _, _) => va_X b L xs s s.heap ∧ b < s.heap.size ∧ b < g.2.2.2
def b01 (x : Int32) : Int32 := if x = 0 then 0 else 1
section XL
variable {c : CtxT} {κ : Nat × Nat × Nat} {pc : Nat} {lv : List (Nat × Value)} {st rest : List Value} {M : Mem} {cc : ByteArray} {nL : Nat} {own : String} {g : Gl} {l : Launch} {rm : Room} {b L : Nat} {xs : Nat → Int32}
theorem l_sld {i : Int32} (C : Cx c cc nL own g l rm) (Lc : Lx c g b L xs) (hin : vp_in i L) (d : decode cc pc = .ok (.iaload, 1)) (kk : X c κ (pc + 1) lv (.int (xs i.toNatClampNeg) :: st) M) : X c κ pc lv (.int i :: .ref b :: st) M := by
  obtain ⟨p, l, e, R, s, m, args, below, meth, co, Q, g⟩ := c
  obtain ⟨rfl, rfl, hx, hb, hml, hown, hts, hK, hN, hsz, hlk, hstr, rfl⟩ := C
  exact fun H locs ls hP hS hz hl => va_sld hx hb Lc.1 Lc.2.1 (Nat.not_le.mpr Lc.2.2) hS hin d (kk H locs ls hP hS hz hl)
theorem l_slen (C : Cx c cc nL own g l rm) (Lc : Lx c g b L xs) (d : decode cc pc = .ok (.arraylength, 1)) (kk : X c κ (pc + 1) lv (.int (Int32.ofNat L) :: st) M) : X c κ pc lv (.ref b :: st) M := by
  obtain ⟨p, l, e, R, s, m, args, below, meth, co, Q, g⟩ := c
  obtain ⟨rfl, rfl, hx, hb, hml, hown, hts, hK, hN, hsz, hlk, hstr, rfl⟩ := C
  exact fun H locs ls hP hS hz hl => va_slen hx hb Lc.1 Lc.2.1 (Nat.not_le.mpr Lc.2.2) hS d (kk H locs ls hP hS hz hl)
theorem l_b01 {x : Int32} {off1 off2 : Int} {tgt1 tgt2 : Nat} (C : Cx c cc nL own g l rm) (d1 : decode cc pc = .ok (.ifCond .eq off1, 3)) (h1 : (pc : Int) + off1 = (tgt1 : Int)) (d2 : decode cc (pc + 3) = .ok (.iconst 1, 1)) (d3 : decode cc (pc + 3 + 1) = .ok (.goto off2, 3)) (h2 : ((pc + 3 + 1 : Nat) : Int) + off2 = (tgt2 : Int)) (d4 : decode cc tgt1 = .ok (.iconst 0, 1)) (h3 : tgt1 + 1 = tgt2) (kk : X c κ tgt2 lv (.int (b01 x) :: st) M) : X c κ pc lv (.int x :: st) M := by
  subst h3
  refine x_if_eq C d1 h1 (fun h => ?_) (fun h => ?_)
  · refine x_iconst (v := 0) C d4 (by decide) ?_
    rw [show b01 x = 0 by simp [b01, h]] at kk
    exact kk
  · refine x_iconst (v := 1) C d2 (by decide) ?_
    refine x_goto C d3 h2 ?_
    rw [show b01 x = 1 by simp [b01, h]] at kk
    exact kk
variable {index : Nat} {y : MethodName} {bytes : ByteArray} {maxL fr lo : Nat} {ret : Option FieldType} {as : List Value} {n : Nat}
theorem l_callVI {q : Int32 → Mem → Prop} {bb ci N : Nat} {T : u_T} (hs : sh bb = .inl ci) (hc : vwCl[ci]? = some (y.cls, T, N)) (C : Cx c cc nL own g l rm) (hM : CtI g l y bytes maxL ret fr lo (.ref (g.2.2.2 + bb) :: as) M q) (ml : MV own index y bytes maxL ret n) (hst : st = as.reverse ++ .ref (g.2.2.2 + bb) :: rest) (hn : as.length = n) (hR : fr + 1 ≤ rm.frames ∧ 8 + (maxL + 11) + lo ≤ rm.locals) (hroom : (rest.map fun v => v.category).sum ≤ 8) (hf : 154 ≤ rm.cells ∧ 31060 ≤ rm.slots) (d : decode cc pc = .ok (.invokevirtual index, 3)) (k : ∀ (v : Int32) (M' : Mem), q v M' → X c KL (pc + 3) lv (.int v :: rest) (stat M')) : X c KL pc lv st (stat M) := xg_callV (κ := KL) C hM (sh_lt hs) hs hc ml hst hn hR hroom hf d (fun r K M' h => by obtain ⟨v, M0, rfl, rfl, rfl, h⟩ := h; exact k v M0 h)
theorem l_callVJ {q : Int64 → Mem → Prop} {bb ci N : Nat} {T : u_T} (hs : sh bb = .inl ci) (hc : vwCl[ci]? = some (y.cls, T, N)) (C : Cx c cc nL own g l rm) (hM : CtJ g l y bytes maxL ret fr lo (.ref (g.2.2.2 + bb) :: as) M q) (ml : MV own index y bytes maxL ret n) (hst : st = as.reverse ++ .ref (g.2.2.2 + bb) :: rest) (hn : as.length = n) (hR : fr + 1 ≤ rm.frames ∧ 8 + (maxL + 11) + lo ≤ rm.locals) (hroom : (rest.map fun v => v.category).sum ≤ 8) (hf : 154 ≤ rm.cells ∧ 31060 ≤ rm.slots) (d : decode cc pc = .ok (.invokevirtual index, 3)) (k : ∀ (v : Int64) (M' : Mem), q v M' → X c KL (pc + 3) lv (.long v :: rest) (stat M')) : X c KL pc lv st (stat M) := xg_callV (κ := KL) C hM (sh_lt hs) hs hc ml hst hn hR hroom hf d (fun r K M' h => by obtain ⟨v, M0, rfl, rfl, rfl, h⟩ := h; exact k v M0 h)
end XL
theorem ok_law_end {c : CtxT} {g : Gl} {l : Launch} {b L : Nat} {xs : Nat → Int32} {P : Int32 × Mem → Prop} {v3 : Int32} {M : Mem} (C : Cx c code 4 RL g l room_1) (Lc : Lx c g b L xs) (hP : ∀ (v3 : Int32) (M : Mem), P (v3, M) → X c KL 18 [(0, .ref b), (1, .ref (g.2.2.2 + 0)), (2, .ref (g.2.2.2 + 135)), (3, .int v3)] [] (stat M)) (hw : P (v3 + 8, M)) : X c KL 1781 [(0, .ref b), (1, .ref (g.2.2.2 + 0)), (2, .ref (g.2.2.2 + 135)), (3, .int v3)] [] (stat M) := by
  refine x_iinc (v := v3 + 8) C dL_law_1781 rfl rfl (Nat.le_of_ble_eq_true rfl) ?_
  refine x_goto (tgt := 18) C dL_law_1784 (by decide) ?_
  exact x_sub [0, 1, 2, 3] rfl (hP _ _ hw)
def w_law_0 (L : Nat) (xs : Nat → Int32) (P : Int32 × Mem → Prop) (v3 : Int32) (M : Mem) : Prop := w_X11_program M (fun (r2 : Int32) (M1 : Mem) => w_X12_program M1 (fun (r4 : Int32) (M3 : Mem) => r2 = r4 ∧ P (v3 + 8, M3)))
set_option maxRecDepth 100000 in
set_option maxHeartbeats 8000000 in
theorem ok_law_0 {c : CtxT} {g : Gl} {l : Launch} {b L : Nat} {xs : Nat → Int32} {P : Int32 × Mem → Prop} {v3 : Int32} {M : Mem} (C : Cx c code 4 RL g l room_1) (Lc : Lx c g b L xs) (hP : ∀ (v3 : Int32) (M : Mem), P (v3, M) → X c KL 18 [(0, .ref b), (1, .ref (g.2.2.2 + 0)), (2, .ref (g.2.2.2 + 135)), (3, .int v3)] [] (stat M)) (hw : w_law_0 L xs P v3 M) : X c KL 196 [(0, .ref b), (1, .ref (g.2.2.2 + 0)), (2, .ref (g.2.2.2 + 135)), (3, .int v3)] [] (stat M) := by
  unfold w_law_0 at hw
  refine x_aload_n C dL_law_196 rfl rfl ?_
  refine l_callVI s0 rfl C (ok_X11_program hw) mv_L_13 rfl rfl ⟨Nat.le_of_ble_eq_true rfl, Nat.le_of_ble_eq_true rfl⟩ (Nat.le_of_ble_eq_true rfl) ⟨Nat.le_of_ble_eq_true rfl, Nat.le_of_ble_eq_true rfl⟩ dL_law_197 (fun r2 M1 hw => ?_)
  refine x_aload_n C dL_law_200 rfl rfl ?_
  refine l_callVI s135 rfl C (ok_X12_program hw) mv_L_17 rfl rfl ⟨Nat.le_of_ble_eq_true rfl, Nat.le_of_ble_eq_true rfl⟩ (Nat.le_of_ble_eq_true rfl) ⟨Nat.le_of_ble_eq_true rfl, Nat.le_of_ble_eq_true rfl⟩ dL_law_201 (fun r4 M3 hw => ?_)
  obtain ⟨h5, hw⟩ := hw
  refine x_icmp_eq (tgt := 1781) C dL_law_204 (by decide) (fun _ => ?_) (fun z => absurd h5 z)
  exact ok_law_end C Lc hP hw
def w_law_1 (L : Nat) (xs : Nat → Int32) (P : Int32 × Mem → Prop) (v3 : Int32) (M : Mem) : Prop := vp_in (v3 + (1 : Int32)) L ∧ vp_in (v3 + (2 : Int32)) L ∧ vp_in (v3 + (3 : Int32)) L ∧ vp_in (v3 + (4 : Int32)) L ∧ vp_in (v3 + (5 : Int32)) L ∧ w_X11_line (xs ((v3 + (1 : Int32))).toNatClampNeg) (xs ((v3 + (2 : Int32))).toNatClampNeg) (xs ((v3 + (3 : Int32))).toNatClampNeg) (xs ((v3 + (4 : Int32))).toNatClampNeg) (xs ((v3 + (5 : Int32))).toNatClampNeg) M (fun (r12 : Int32) (M11 : Mem) => vp_in (v3 + (1 : Int32)) L ∧ vp_in (v3 + (2 : Int32)) L ∧ vp_in (v3 + (3 : Int32)) L ∧ vp_in (v3 + (4 : Int32)) L ∧ vp_in (v3 + (5 : Int32)) L ∧ w_X12_line (xs ((v3 + (1 : Int32))).toNatClampNeg) (xs ((v3 + (2 : Int32))).toNatClampNeg) (xs ((v3 + (3 : Int32))).toNatClampNeg) (xs ((v3 + (4 : Int32))).toNatClampNeg) (xs ((v3 + (5 : Int32))).toNatClampNeg) M11 (fun (r19 : Int32) (M18 : Mem) => r12 = r19 ∧ P (v3 + 8, M18)))
set_option maxRecDepth 100000 in
set_option maxHeartbeats 8000000 in
theorem ok_law_1 {c : CtxT} {g : Gl} {l : Launch} {b L : Nat} {xs : Nat → Int32} {P : Int32 × Mem → Prop} {v3 : Int32} {M : Mem} (C : Cx c code 4 RL g l room_1) (Lc : Lx c g b L xs) (hP : ∀ (v3 : Int32) (M : Mem), P (v3, M) → X c KL 18 [(0, .ref b), (1, .ref (g.2.2.2 + 0)), (2, .ref (g.2.2.2 + 135)), (3, .int v3)] [] (stat M)) (hw : w_law_1 L xs P v3 M) : X c KL 209 [(0, .ref b), (1, .ref (g.2.2.2 + 0)), (2, .ref (g.2.2.2 + 135)), (3, .int v3)] [] (stat M) := by
  unfold w_law_1 at hw
  refine x_aload_n C dL_law_209 rfl rfl ?_
  refine x_aload_n C dL_law_210 rfl rfl ?_
  refine x_iload_n C dL_law_211 rfl rfl ?_
  refine x_iconst (v := (1 : Int32)) C dL_law_212 (by decide) ?_
  refine x_iadd C dL_law_213 ?_
  obtain ⟨h6, hw⟩ := hw
  refine l_sld C Lc h6 dL_law_214 ?_
  refine x_aload_n C dL_law_215 rfl rfl ?_
  refine x_iload_n C dL_law_216 rfl rfl ?_
  refine x_iconst (v := (2 : Int32)) C dL_law_217 (by decide) ?_
  refine x_iadd C dL_law_218 ?_
  obtain ⟨h7, hw⟩ := hw
  refine l_sld C Lc h7 dL_law_219 ?_
  refine x_aload_n C dL_law_220 rfl rfl ?_
  refine x_iload_n C dL_law_221 rfl rfl ?_
  refine x_iconst (v := (3 : Int32)) C dL_law_222 (by decide) ?_
  refine x_iadd C dL_law_223 ?_
  obtain ⟨h8, hw⟩ := hw
  refine l_sld C Lc h8 dL_law_224 ?_
  refine x_aload_n C dL_law_225 rfl rfl ?_
  refine x_iload_n C dL_law_226 rfl rfl ?_
  refine x_iconst (v := (4 : Int32)) C dL_law_227 (by decide) ?_
  refine x_iadd C dL_law_228 ?_
  obtain ⟨h9, hw⟩ := hw
  refine l_sld C Lc h9 dL_law_229 ?_
  refine x_aload_n C dL_law_230 rfl rfl ?_
  refine x_iload_n C dL_law_231 rfl rfl ?_
  refine x_iconst (v := (5 : Int32)) C dL_law_232 (by decide) ?_
  refine x_iadd C dL_law_233 ?_
  obtain ⟨h10, hw⟩ := hw
  refine l_sld C Lc h10 dL_law_234 ?_
  refine l_callVI s0 rfl C (ok_X11_line hw) mv_L_18 rfl rfl ⟨Nat.le_of_ble_eq_true rfl, Nat.le_of_ble_eq_true rfl⟩ (Nat.le_of_ble_eq_true rfl) ⟨Nat.le_of_ble_eq_true rfl, Nat.le_of_ble_eq_true rfl⟩ dL_law_235 (fun r12 M11 hw => ?_)
  refine x_aload_n C dL_law_238 rfl rfl ?_
  refine x_aload_n C dL_law_239 rfl rfl ?_
  refine x_iload_n C dL_law_240 rfl rfl ?_
  refine x_iconst (v := (1 : Int32)) C dL_law_241 (by decide) ?_
  refine x_iadd C dL_law_242 ?_
  obtain ⟨h13, hw⟩ := hw
  refine l_sld C Lc h13 dL_law_243 ?_
  refine x_aload_n C dL_law_244 rfl rfl ?_
  refine x_iload_n C dL_law_245 rfl rfl ?_
  refine x_iconst (v := (2 : Int32)) C dL_law_246 (by decide) ?_
  refine x_iadd C dL_law_247 ?_
  obtain ⟨h14, hw⟩ := hw
  refine l_sld C Lc h14 dL_law_248 ?_
  refine x_aload_n C dL_law_249 rfl rfl ?_
  refine x_iload_n C dL_law_250 rfl rfl ?_
  refine x_iconst (v := (3 : Int32)) C dL_law_251 (by decide) ?_
  refine x_iadd C dL_law_252 ?_
  obtain ⟨h15, hw⟩ := hw
  refine l_sld C Lc h15 dL_law_253 ?_
  refine x_aload_n C dL_law_254 rfl rfl ?_
  refine x_iload_n C dL_law_255 rfl rfl ?_
  refine x_iconst (v := (4 : Int32)) C dL_law_256 (by decide) ?_
  refine x_iadd C dL_law_257 ?_
  obtain ⟨h16, hw⟩ := hw
  refine l_sld C Lc h16 dL_law_258 ?_
  refine x_aload_n C dL_law_259 rfl rfl ?_
  refine x_iload_n C dL_law_260 rfl rfl ?_
  refine x_iconst (v := (5 : Int32)) C dL_law_261 (by decide) ?_
  refine x_iadd C dL_law_262 ?_
  obtain ⟨h17, hw⟩ := hw
  refine l_sld C Lc h17 dL_law_263 ?_
  refine l_callVI s135 rfl C (ok_X12_line hw) mv_L_22 rfl rfl ⟨Nat.le_of_ble_eq_true rfl, Nat.le_of_ble_eq_true rfl⟩ (Nat.le_of_ble_eq_true rfl) ⟨Nat.le_of_ble_eq_true rfl, Nat.le_of_ble_eq_true rfl⟩ dL_law_264 (fun r19 M18 hw => ?_)
  obtain ⟨h20, hw⟩ := hw
  refine x_icmp_eq (tgt := 1781) C dL_law_267 (by decide) (fun _ => ?_) (fun z => absurd h20 z)
  exact ok_law_end C Lc hP hw
def w_law_2 (L : Nat) (xs : Nat → Int32) (P : Int32 × Mem → Prop) (v3 : Int32) (M : Mem) : Prop := vp_in (v3 + (1 : Int32)) L ∧ vp_in (v3 + (2 : Int32)) L ∧ vp_in (v3 + (3 : Int32)) L ∧ vp_in (v3 + (4 : Int32)) L ∧ vp_in (v3 + (5 : Int32)) L ∧ vp_in (v3 + (6 : Int32)) L ∧ w_X11_change (xs ((v3 + (1 : Int32))).toNatClampNeg) (xs ((v3 + (2 : Int32))).toNatClampNeg) (xs ((v3 + (3 : Int32))).toNatClampNeg) (xs ((v3 + (4 : Int32))).toNatClampNeg) (xs ((v3 + (5 : Int32))).toNatClampNeg) (xs ((v3 + (6 : Int32))).toNatClampNeg) M (fun (r28 : Int32) (M27 : Mem) => vp_in (v3 + (1 : Int32)) L ∧ vp_in (v3 + (2 : Int32)) L ∧ vp_in (v3 + (3 : Int32)) L ∧ vp_in (v3 + (4 : Int32)) L ∧ vp_in (v3 + (5 : Int32)) L ∧ vp_in (v3 + (6 : Int32)) L ∧ w_X12_change (xs ((v3 + (1 : Int32))).toNatClampNeg) (xs ((v3 + (2 : Int32))).toNatClampNeg) (xs ((v3 + (3 : Int32))).toNatClampNeg) (xs ((v3 + (4 : Int32))).toNatClampNeg) (xs ((v3 + (5 : Int32))).toNatClampNeg) (xs ((v3 + (6 : Int32))).toNatClampNeg) M27 (fun (r36 : Int32) (M35 : Mem) => r28 = r36 ∧ P (v3 + 8, M35)))
set_option maxRecDepth 100000 in
set_option maxHeartbeats 8000000 in
theorem ok_law_2 {c : CtxT} {g : Gl} {l : Launch} {b L : Nat} {xs : Nat → Int32} {P : Int32 × Mem → Prop} {v3 : Int32} {M : Mem} (C : Cx c code 4 RL g l room_1) (Lc : Lx c g b L xs) (hP : ∀ (v3 : Int32) (M : Mem), P (v3, M) → X c KL 18 [(0, .ref b), (1, .ref (g.2.2.2 + 0)), (2, .ref (g.2.2.2 + 135)), (3, .int v3)] [] (stat M)) (hw : w_law_2 L xs P v3 M) : X c KL 272 [(0, .ref b), (1, .ref (g.2.2.2 + 0)), (2, .ref (g.2.2.2 + 135)), (3, .int v3)] [] (stat M) := by
  unfold w_law_2 at hw
  refine x_aload_n C dL_law_272 rfl rfl ?_
  refine x_aload_n C dL_law_273 rfl rfl ?_
  refine x_iload_n C dL_law_274 rfl rfl ?_
  refine x_iconst (v := (1 : Int32)) C dL_law_275 (by decide) ?_
  refine x_iadd C dL_law_276 ?_
  obtain ⟨h21, hw⟩ := hw
  refine l_sld C Lc h21 dL_law_277 ?_
  refine x_aload_n C dL_law_278 rfl rfl ?_
  refine x_iload_n C dL_law_279 rfl rfl ?_
  refine x_iconst (v := (2 : Int32)) C dL_law_280 (by decide) ?_
  refine x_iadd C dL_law_281 ?_
  obtain ⟨h22, hw⟩ := hw
  refine l_sld C Lc h22 dL_law_282 ?_
  refine x_aload_n C dL_law_283 rfl rfl ?_
  refine x_iload_n C dL_law_284 rfl rfl ?_
  refine x_iconst (v := (3 : Int32)) C dL_law_285 (by decide) ?_
  refine x_iadd C dL_law_286 ?_
  obtain ⟨h23, hw⟩ := hw
  refine l_sld C Lc h23 dL_law_287 ?_
  refine x_aload_n C dL_law_288 rfl rfl ?_
  refine x_iload_n C dL_law_289 rfl rfl ?_
  refine x_iconst (v := (4 : Int32)) C dL_law_290 (by decide) ?_
  refine x_iadd C dL_law_291 ?_
  obtain ⟨h24, hw⟩ := hw
  refine l_sld C Lc h24 dL_law_292 ?_
  refine x_aload_n C dL_law_293 rfl rfl ?_
  refine x_iload_n C dL_law_294 rfl rfl ?_
  refine x_iconst (v := (5 : Int32)) C dL_law_295 (by decide) ?_
  refine x_iadd C dL_law_296 ?_
  obtain ⟨h25, hw⟩ := hw
  refine l_sld C Lc h25 dL_law_297 ?_
  refine x_aload_n C dL_law_298 rfl rfl ?_
  refine x_iload_n C dL_law_299 rfl rfl ?_
  refine x_bipush (v := (6 : Int32)) C dL_law_300 (by decide) ?_
  refine x_iadd C dL_law_302 ?_
  obtain ⟨h26, hw⟩ := hw
  refine l_sld C Lc h26 dL_law_303 ?_
  refine l_callVI s0 rfl C (ok_X11_change hw) mv_L_23 rfl rfl ⟨Nat.le_of_ble_eq_true rfl, Nat.le_of_ble_eq_true rfl⟩ (Nat.le_of_ble_eq_true rfl) ⟨Nat.le_of_ble_eq_true rfl, Nat.le_of_ble_eq_true rfl⟩ dL_law_304 (fun r28 M27 hw => ?_)
  refine x_aload_n C dL_law_307 rfl rfl ?_
  refine x_aload_n C dL_law_308 rfl rfl ?_
  refine x_iload_n C dL_law_309 rfl rfl ?_
  refine x_iconst (v := (1 : Int32)) C dL_law_310 (by decide) ?_
  refine x_iadd C dL_law_311 ?_
  obtain ⟨h29, hw⟩ := hw
  refine l_sld C Lc h29 dL_law_312 ?_
  refine x_aload_n C dL_law_313 rfl rfl ?_
  refine x_iload_n C dL_law_314 rfl rfl ?_
  refine x_iconst (v := (2 : Int32)) C dL_law_315 (by decide) ?_
  refine x_iadd C dL_law_316 ?_
  obtain ⟨h30, hw⟩ := hw
  refine l_sld C Lc h30 dL_law_317 ?_
  refine x_aload_n C dL_law_318 rfl rfl ?_
  refine x_iload_n C dL_law_319 rfl rfl ?_
  refine x_iconst (v := (3 : Int32)) C dL_law_320 (by decide) ?_
  refine x_iadd C dL_law_321 ?_
  obtain ⟨h31, hw⟩ := hw
  refine l_sld C Lc h31 dL_law_322 ?_
  refine x_aload_n C dL_law_323 rfl rfl ?_
  refine x_iload_n C dL_law_324 rfl rfl ?_
  refine x_iconst (v := (4 : Int32)) C dL_law_325 (by decide) ?_
  refine x_iadd C dL_law_326 ?_
  obtain ⟨h32, hw⟩ := hw
  refine l_sld C Lc h32 dL_law_327 ?_
  refine x_aload_n C dL_law_328 rfl rfl ?_
  refine x_iload_n C dL_law_329 rfl rfl ?_
  refine x_iconst (v := (5 : Int32)) C dL_law_330 (by decide) ?_
  refine x_iadd C dL_law_331 ?_
  obtain ⟨h33, hw⟩ := hw
  refine l_sld C Lc h33 dL_law_332 ?_
  refine x_aload_n C dL_law_333 rfl rfl ?_
  refine x_iload_n C dL_law_334 rfl rfl ?_
  refine x_bipush (v := (6 : Int32)) C dL_law_335 (by decide) ?_
  refine x_iadd C dL_law_337 ?_
  obtain ⟨h34, hw⟩ := hw
  refine l_sld C Lc h34 dL_law_338 ?_
  refine l_callVI s135 rfl C (ok_X12_change hw) mv_L_27 rfl rfl ⟨Nat.le_of_ble_eq_true rfl, Nat.le_of_ble_eq_true rfl⟩ (Nat.le_of_ble_eq_true rfl) ⟨Nat.le_of_ble_eq_true rfl, Nat.le_of_ble_eq_true rfl⟩ dL_law_339 (fun r36 M35 hw => ?_)
  obtain ⟨h37, hw⟩ := hw
  refine x_icmp_eq (tgt := 1781) C dL_law_342 (by decide) (fun _ => ?_) (fun z => absurd h37 z)
  exact ok_law_end C Lc hP hw
def w_law_3 (L : Nat) (xs : Nat → Int32) (P : Int32 × Mem → Prop) (v3 : Int32) (M : Mem) : Prop := vp_in (v3 + (1 : Int32)) L ∧ vp_in (v3 + (2 : Int32)) L ∧ w_X11_build (xs ((v3 + (1 : Int32))).toNatClampNeg) (xs ((v3 + (2 : Int32))).toNatClampNeg) M (fun (r41 : Int32) (M40 : Mem) => vp_in (v3 + (1 : Int32)) L ∧ vp_in (v3 + (2 : Int32)) L ∧ w_X12_build (xs ((v3 + (1 : Int32))).toNatClampNeg) (xs ((v3 + (2 : Int32))).toNatClampNeg) M40 (fun (r45 : Int32) (M44 : Mem) => r41 = r45 ∧ P (v3 + 8, M44)))
set_option maxRecDepth 100000 in
set_option maxHeartbeats 8000000 in
theorem ok_law_3 {c : CtxT} {g : Gl} {l : Launch} {b L : Nat} {xs : Nat → Int32} {P : Int32 × Mem → Prop} {v3 : Int32} {M : Mem} (C : Cx c code 4 RL g l room_1) (Lc : Lx c g b L xs) (hP : ∀ (v3 : Int32) (M : Mem), P (v3, M) → X c KL 18 [(0, .ref b), (1, .ref (g.2.2.2 + 0)), (2, .ref (g.2.2.2 + 135)), (3, .int v3)] [] (stat M)) (hw : w_law_3 L xs P v3 M) : X c KL 347 [(0, .ref b), (1, .ref (g.2.2.2 + 0)), (2, .ref (g.2.2.2 + 135)), (3, .int v3)] [] (stat M) := by
  unfold w_law_3 at hw
  refine x_aload_n C dL_law_347 rfl rfl ?_
  refine x_aload_n C dL_law_348 rfl rfl ?_
  refine x_iload_n C dL_law_349 rfl rfl ?_
  refine x_iconst (v := (1 : Int32)) C dL_law_350 (by decide) ?_
  refine x_iadd C dL_law_351 ?_
  obtain ⟨h38, hw⟩ := hw
  refine l_sld C Lc h38 dL_law_352 ?_
  refine x_aload_n C dL_law_353 rfl rfl ?_
  refine x_iload_n C dL_law_354 rfl rfl ?_
  refine x_iconst (v := (2 : Int32)) C dL_law_355 (by decide) ?_
  refine x_iadd C dL_law_356 ?_
  obtain ⟨h39, hw⟩ := hw
  refine l_sld C Lc h39 dL_law_357 ?_
  refine l_callVI s0 rfl C (ok_X11_build hw) mv_L_28 rfl rfl ⟨Nat.le_of_ble_eq_true rfl, Nat.le_of_ble_eq_true rfl⟩ (Nat.le_of_ble_eq_true rfl) ⟨Nat.le_of_ble_eq_true rfl, Nat.le_of_ble_eq_true rfl⟩ dL_law_358 (fun r41 M40 hw => ?_)
  refine x_aload_n C dL_law_361 rfl rfl ?_
  refine x_aload_n C dL_law_362 rfl rfl ?_
  refine x_iload_n C dL_law_363 rfl rfl ?_
  refine x_iconst (v := (1 : Int32)) C dL_law_364 (by decide) ?_
  refine x_iadd C dL_law_365 ?_
  obtain ⟨h42, hw⟩ := hw
  refine l_sld C Lc h42 dL_law_366 ?_
  refine x_aload_n C dL_law_367 rfl rfl ?_
  refine x_iload_n C dL_law_368 rfl rfl ?_
  refine x_iconst (v := (2 : Int32)) C dL_law_369 (by decide) ?_
  refine x_iadd C dL_law_370 ?_
  obtain ⟨h43, hw⟩ := hw
  refine l_sld C Lc h43 dL_law_371 ?_
  refine l_callVI s135 rfl C (ok_X12_build hw) mv_L_32 rfl rfl ⟨Nat.le_of_ble_eq_true rfl, Nat.le_of_ble_eq_true rfl⟩ (Nat.le_of_ble_eq_true rfl) ⟨Nat.le_of_ble_eq_true rfl, Nat.le_of_ble_eq_true rfl⟩ dL_law_372 (fun r45 M44 hw => ?_)
  obtain ⟨h46, hw⟩ := hw
  refine x_icmp_eq (tgt := 1781) C dL_law_375 (by decide) (fun _ => ?_) (fun z => absurd h46 z)
  exact ok_law_end C Lc hP hw
def w_law_4 (L : Nat) (xs : Nat → Int32) (P : Int32 × Mem → Prop) (v3 : Int32) (M : Mem) : Prop := vp_in (v3 + (1 : Int32)) L ∧ vp_in (v3 + (2 : Int32)) L ∧ vp_in (v3 + (3 : Int32)) L ∧ vp_in (v3 + (4 : Int32)) L ∧ w_X11_setting (xs ((v3 + (1 : Int32))).toNatClampNeg) (xs ((v3 + (2 : Int32))).toNatClampNeg) (xs ((v3 + (3 : Int32))).toNatClampNeg) (xs ((v3 + (4 : Int32))).toNatClampNeg) M (fun (r52 : Int32) (M51 : Mem) => vp_in (v3 + (1 : Int32)) L ∧ vp_in (v3 + (2 : Int32)) L ∧ vp_in (v3 + (3 : Int32)) L ∧ vp_in (v3 + (4 : Int32)) L ∧ w_X12_setting (xs ((v3 + (1 : Int32))).toNatClampNeg) (xs ((v3 + (2 : Int32))).toNatClampNeg) (xs ((v3 + (3 : Int32))).toNatClampNeg) (xs ((v3 + (4 : Int32))).toNatClampNeg) M51 (fun (r58 : Int32) (M57 : Mem) => r52 = r58 ∧ P (v3 + 8, M57)))
set_option maxRecDepth 100000 in
set_option maxHeartbeats 8000000 in
theorem ok_law_4 {c : CtxT} {g : Gl} {l : Launch} {b L : Nat} {xs : Nat → Int32} {P : Int32 × Mem → Prop} {v3 : Int32} {M : Mem} (C : Cx c code 4 RL g l room_1) (Lc : Lx c g b L xs) (hP : ∀ (v3 : Int32) (M : Mem), P (v3, M) → X c KL 18 [(0, .ref b), (1, .ref (g.2.2.2 + 0)), (2, .ref (g.2.2.2 + 135)), (3, .int v3)] [] (stat M)) (hw : w_law_4 L xs P v3 M) : X c KL 380 [(0, .ref b), (1, .ref (g.2.2.2 + 0)), (2, .ref (g.2.2.2 + 135)), (3, .int v3)] [] (stat M) := by
  unfold w_law_4 at hw
  refine x_aload_n C dL_law_380 rfl rfl ?_
  refine x_aload_n C dL_law_381 rfl rfl ?_
  refine x_iload_n C dL_law_382 rfl rfl ?_
  refine x_iconst (v := (1 : Int32)) C dL_law_383 (by decide) ?_
  refine x_iadd C dL_law_384 ?_
  obtain ⟨h47, hw⟩ := hw
  refine l_sld C Lc h47 dL_law_385 ?_
  refine x_aload_n C dL_law_386 rfl rfl ?_
  refine x_iload_n C dL_law_387 rfl rfl ?_
  refine x_iconst (v := (2 : Int32)) C dL_law_388 (by decide) ?_
  refine x_iadd C dL_law_389 ?_
  obtain ⟨h48, hw⟩ := hw
  refine l_sld C Lc h48 dL_law_390 ?_
  refine x_aload_n C dL_law_391 rfl rfl ?_
  refine x_iload_n C dL_law_392 rfl rfl ?_
  refine x_iconst (v := (3 : Int32)) C dL_law_393 (by decide) ?_
  refine x_iadd C dL_law_394 ?_
  obtain ⟨h49, hw⟩ := hw
  refine l_sld C Lc h49 dL_law_395 ?_
  refine x_aload_n C dL_law_396 rfl rfl ?_
  refine x_iload_n C dL_law_397 rfl rfl ?_
  refine x_iconst (v := (4 : Int32)) C dL_law_398 (by decide) ?_
  refine x_iadd C dL_law_399 ?_
  obtain ⟨h50, hw⟩ := hw
  refine l_sld C Lc h50 dL_law_400 ?_
  refine l_callVI s0 rfl C (ok_X11_setting hw) mv_L_33 rfl rfl ⟨Nat.le_of_ble_eq_true rfl, Nat.le_of_ble_eq_true rfl⟩ (Nat.le_of_ble_eq_true rfl) ⟨Nat.le_of_ble_eq_true rfl, Nat.le_of_ble_eq_true rfl⟩ dL_law_401 (fun r52 M51 hw => ?_)
  refine x_aload_n C dL_law_404 rfl rfl ?_
  refine x_aload_n C dL_law_405 rfl rfl ?_
  refine x_iload_n C dL_law_406 rfl rfl ?_
  refine x_iconst (v := (1 : Int32)) C dL_law_407 (by decide) ?_
  refine x_iadd C dL_law_408 ?_
  obtain ⟨h53, hw⟩ := hw
  refine l_sld C Lc h53 dL_law_409 ?_
  refine x_aload_n C dL_law_410 rfl rfl ?_
  refine x_iload_n C dL_law_411 rfl rfl ?_
  refine x_iconst (v := (2 : Int32)) C dL_law_412 (by decide) ?_
  refine x_iadd C dL_law_413 ?_
  obtain ⟨h54, hw⟩ := hw
  refine l_sld C Lc h54 dL_law_414 ?_
  refine x_aload_n C dL_law_415 rfl rfl ?_
  refine x_iload_n C dL_law_416 rfl rfl ?_
  refine x_iconst (v := (3 : Int32)) C dL_law_417 (by decide) ?_
  refine x_iadd C dL_law_418 ?_
  obtain ⟨h55, hw⟩ := hw
  refine l_sld C Lc h55 dL_law_419 ?_
  refine x_aload_n C dL_law_420 rfl rfl ?_
  refine x_iload_n C dL_law_421 rfl rfl ?_
  refine x_iconst (v := (4 : Int32)) C dL_law_422 (by decide) ?_
  refine x_iadd C dL_law_423 ?_
  obtain ⟨h56, hw⟩ := hw
  refine l_sld C Lc h56 dL_law_424 ?_
  refine l_callVI s135 rfl C (ok_X12_setting hw) mv_L_37 rfl rfl ⟨Nat.le_of_ble_eq_true rfl, Nat.le_of_ble_eq_true rfl⟩ (Nat.le_of_ble_eq_true rfl) ⟨Nat.le_of_ble_eq_true rfl, Nat.le_of_ble_eq_true rfl⟩ dL_law_425 (fun r58 M57 hw => ?_)
  obtain ⟨h59, hw⟩ := hw
  refine x_icmp_eq (tgt := 1781) C dL_law_428 (by decide) (fun _ => ?_) (fun z => absurd h59 z)
  exact ok_law_end C Lc hP hw
def w_law_5 (L : Nat) (xs : Nat → Int32) (P : Int32 × Mem → Prop) (v3 : Int32) (M : Mem) : Prop := vp_in (v3 + (1 : Int32)) L ∧ vp_in (v3 + (2 : Int32)) L ∧ vp_in (v3 + (3 : Int32)) L ∧ w_X11_price (xs ((v3 + (1 : Int32))).toNatClampNeg) (xs ((v3 + (2 : Int32))).toNatClampNeg) (xs ((v3 + (3 : Int32))).toNatClampNeg) M (fun (r64 : Int32) (M63 : Mem) => vp_in (v3 + (1 : Int32)) L ∧ vp_in (v3 + (2 : Int32)) L ∧ vp_in (v3 + (3 : Int32)) L ∧ w_X12_price (xs ((v3 + (1 : Int32))).toNatClampNeg) (xs ((v3 + (2 : Int32))).toNatClampNeg) (xs ((v3 + (3 : Int32))).toNatClampNeg) M63 (fun (r69 : Int32) (M68 : Mem) => r64 = r69 ∧ P (v3 + 8, M68)))
set_option maxRecDepth 100000 in
set_option maxHeartbeats 8000000 in
theorem ok_law_5 {c : CtxT} {g : Gl} {l : Launch} {b L : Nat} {xs : Nat → Int32} {P : Int32 × Mem → Prop} {v3 : Int32} {M : Mem} (C : Cx c code 4 RL g l room_1) (Lc : Lx c g b L xs) (hP : ∀ (v3 : Int32) (M : Mem), P (v3, M) → X c KL 18 [(0, .ref b), (1, .ref (g.2.2.2 + 0)), (2, .ref (g.2.2.2 + 135)), (3, .int v3)] [] (stat M)) (hw : w_law_5 L xs P v3 M) : X c KL 433 [(0, .ref b), (1, .ref (g.2.2.2 + 0)), (2, .ref (g.2.2.2 + 135)), (3, .int v3)] [] (stat M) := by
  unfold w_law_5 at hw
  refine x_aload_n C dL_law_433 rfl rfl ?_
  refine x_aload_n C dL_law_434 rfl rfl ?_
  refine x_iload_n C dL_law_435 rfl rfl ?_
  refine x_iconst (v := (1 : Int32)) C dL_law_436 (by decide) ?_
  refine x_iadd C dL_law_437 ?_
  obtain ⟨h60, hw⟩ := hw
  refine l_sld C Lc h60 dL_law_438 ?_
  refine x_aload_n C dL_law_439 rfl rfl ?_
  refine x_iload_n C dL_law_440 rfl rfl ?_
  refine x_iconst (v := (2 : Int32)) C dL_law_441 (by decide) ?_
  refine x_iadd C dL_law_442 ?_
  obtain ⟨h61, hw⟩ := hw
  refine l_sld C Lc h61 dL_law_443 ?_
  refine x_aload_n C dL_law_444 rfl rfl ?_
  refine x_iload_n C dL_law_445 rfl rfl ?_
  refine x_iconst (v := (3 : Int32)) C dL_law_446 (by decide) ?_
  refine x_iadd C dL_law_447 ?_
  obtain ⟨h62, hw⟩ := hw
  refine l_sld C Lc h62 dL_law_448 ?_
  refine l_callVI s0 rfl C (ok_X11_price hw) mv_L_38 rfl rfl ⟨Nat.le_of_ble_eq_true rfl, Nat.le_of_ble_eq_true rfl⟩ (Nat.le_of_ble_eq_true rfl) ⟨Nat.le_of_ble_eq_true rfl, Nat.le_of_ble_eq_true rfl⟩ dL_law_449 (fun r64 M63 hw => ?_)
  refine x_aload_n C dL_law_452 rfl rfl ?_
  refine x_aload_n C dL_law_453 rfl rfl ?_
  refine x_iload_n C dL_law_454 rfl rfl ?_
  refine x_iconst (v := (1 : Int32)) C dL_law_455 (by decide) ?_
  refine x_iadd C dL_law_456 ?_
  obtain ⟨h65, hw⟩ := hw
  refine l_sld C Lc h65 dL_law_457 ?_
  refine x_aload_n C dL_law_458 rfl rfl ?_
  refine x_iload_n C dL_law_459 rfl rfl ?_
  refine x_iconst (v := (2 : Int32)) C dL_law_460 (by decide) ?_
  refine x_iadd C dL_law_461 ?_
  obtain ⟨h66, hw⟩ := hw
  refine l_sld C Lc h66 dL_law_462 ?_
  refine x_aload_n C dL_law_463 rfl rfl ?_
  refine x_iload_n C dL_law_464 rfl rfl ?_
  refine x_iconst (v := (3 : Int32)) C dL_law_465 (by decide) ?_
  refine x_iadd C dL_law_466 ?_
  obtain ⟨h67, hw⟩ := hw
  refine l_sld C Lc h67 dL_law_467 ?_
  refine l_callVI s135 rfl C (ok_X12_price hw) mv_L_42 rfl rfl ⟨Nat.le_of_ble_eq_true rfl, Nat.le_of_ble_eq_true rfl⟩ (Nat.le_of_ble_eq_true rfl) ⟨Nat.le_of_ble_eq_true rfl, Nat.le_of_ble_eq_true rfl⟩ dL_law_468 (fun r69 M68 hw => ?_)
  obtain ⟨h70, hw⟩ := hw
  refine x_icmp_eq (tgt := 1781) C dL_law_471 (by decide) (fun _ => ?_) (fun z => absurd h70 z)
  exact ok_law_end C Lc hP hw
def w_law_6 (L : Nat) (xs : Nat → Int32) (P : Int32 × Mem → Prop) (v3 : Int32) (M : Mem) : Prop := vp_in (v3 + (1 : Int32)) L ∧ vp_in (v3 + (2 : Int32)) L ∧ vp_in (v3 + (3 : Int32)) L ∧ vp_in (v3 + (4 : Int32)) L ∧ w_X11_cache (xs ((v3 + (1 : Int32))).toNatClampNeg) (xs ((v3 + (2 : Int32))).toNatClampNeg) (xs ((v3 + (3 : Int32))).toNatClampNeg) (xs ((v3 + (4 : Int32))).toNatClampNeg) M (fun (r76 : Int32) (M75 : Mem) => vp_in (v3 + (1 : Int32)) L ∧ vp_in (v3 + (2 : Int32)) L ∧ vp_in (v3 + (3 : Int32)) L ∧ vp_in (v3 + (4 : Int32)) L ∧ w_X12_cache (xs ((v3 + (1 : Int32))).toNatClampNeg) (xs ((v3 + (2 : Int32))).toNatClampNeg) (xs ((v3 + (3 : Int32))).toNatClampNeg) (xs ((v3 + (4 : Int32))).toNatClampNeg) M75 (fun (r82 : Int32) (M81 : Mem) => r76 = r82 ∧ P (v3 + 8, M81)))
set_option maxRecDepth 100000 in
set_option maxHeartbeats 8000000 in
theorem ok_law_6 {c : CtxT} {g : Gl} {l : Launch} {b L : Nat} {xs : Nat → Int32} {P : Int32 × Mem → Prop} {v3 : Int32} {M : Mem} (C : Cx c code 4 RL g l room_1) (Lc : Lx c g b L xs) (hP : ∀ (v3 : Int32) (M : Mem), P (v3, M) → X c KL 18 [(0, .ref b), (1, .ref (g.2.2.2 + 0)), (2, .ref (g.2.2.2 + 135)), (3, .int v3)] [] (stat M)) (hw : w_law_6 L xs P v3 M) : X c KL 476 [(0, .ref b), (1, .ref (g.2.2.2 + 0)), (2, .ref (g.2.2.2 + 135)), (3, .int v3)] [] (stat M) := by
  unfold w_law_6 at hw
  refine x_aload_n C dL_law_476 rfl rfl ?_
  refine x_aload_n C dL_law_477 rfl rfl ?_
  refine x_iload_n C dL_law_478 rfl rfl ?_
  refine x_iconst (v := (1 : Int32)) C dL_law_479 (by decide) ?_
  refine x_iadd C dL_law_480 ?_
  obtain ⟨h71, hw⟩ := hw
  refine l_sld C Lc h71 dL_law_481 ?_
  refine x_aload_n C dL_law_482 rfl rfl ?_
  refine x_iload_n C dL_law_483 rfl rfl ?_
  refine x_iconst (v := (2 : Int32)) C dL_law_484 (by decide) ?_
  refine x_iadd C dL_law_485 ?_
  obtain ⟨h72, hw⟩ := hw
  refine l_sld C Lc h72 dL_law_486 ?_
  refine x_aload_n C dL_law_487 rfl rfl ?_
  refine x_iload_n C dL_law_488 rfl rfl ?_
  refine x_iconst (v := (3 : Int32)) C dL_law_489 (by decide) ?_
  refine x_iadd C dL_law_490 ?_
  obtain ⟨h73, hw⟩ := hw
  refine l_sld C Lc h73 dL_law_491 ?_
  refine x_aload_n C dL_law_492 rfl rfl ?_
  refine x_iload_n C dL_law_493 rfl rfl ?_
  refine x_iconst (v := (4 : Int32)) C dL_law_494 (by decide) ?_
  refine x_iadd C dL_law_495 ?_
  obtain ⟨h74, hw⟩ := hw
  refine l_sld C Lc h74 dL_law_496 ?_
  refine l_callVI s0 rfl C (ok_X11_cache hw) mv_L_43 rfl rfl ⟨Nat.le_of_ble_eq_true rfl, Nat.le_of_ble_eq_true rfl⟩ (Nat.le_of_ble_eq_true rfl) ⟨Nat.le_of_ble_eq_true rfl, Nat.le_of_ble_eq_true rfl⟩ dL_law_497 (fun r76 M75 hw => ?_)
  refine x_aload_n C dL_law_500 rfl rfl ?_
  refine x_aload_n C dL_law_501 rfl rfl ?_
  refine x_iload_n C dL_law_502 rfl rfl ?_
  refine x_iconst (v := (1 : Int32)) C dL_law_503 (by decide) ?_
  refine x_iadd C dL_law_504 ?_
  obtain ⟨h77, hw⟩ := hw
  refine l_sld C Lc h77 dL_law_505 ?_
  refine x_aload_n C dL_law_506 rfl rfl ?_
  refine x_iload_n C dL_law_507 rfl rfl ?_
  refine x_iconst (v := (2 : Int32)) C dL_law_508 (by decide) ?_
  refine x_iadd C dL_law_509 ?_
  obtain ⟨h78, hw⟩ := hw
  refine l_sld C Lc h78 dL_law_510 ?_
  refine x_aload_n C dL_law_511 rfl rfl ?_
  refine x_iload_n C dL_law_512 rfl rfl ?_
  refine x_iconst (v := (3 : Int32)) C dL_law_513 (by decide) ?_
  refine x_iadd C dL_law_514 ?_
  obtain ⟨h79, hw⟩ := hw
  refine l_sld C Lc h79 dL_law_515 ?_
  refine x_aload_n C dL_law_516 rfl rfl ?_
  refine x_iload_n C dL_law_517 rfl rfl ?_
  refine x_iconst (v := (4 : Int32)) C dL_law_518 (by decide) ?_
  refine x_iadd C dL_law_519 ?_
  obtain ⟨h80, hw⟩ := hw
  refine l_sld C Lc h80 dL_law_520 ?_
  refine l_callVI s135 rfl C (ok_X12_cache hw) mv_L_46 rfl rfl ⟨Nat.le_of_ble_eq_true rfl, Nat.le_of_ble_eq_true rfl⟩ (Nat.le_of_ble_eq_true rfl) ⟨Nat.le_of_ble_eq_true rfl, Nat.le_of_ble_eq_true rfl⟩ dL_law_521 (fun r82 M81 hw => ?_)
  obtain ⟨h83, hw⟩ := hw
  refine x_icmp_eq (tgt := 1781) C dL_law_524 (by decide) (fun _ => ?_) (fun z => absurd h83 z)
  exact ok_law_end C Lc hP hw
def w_law_7 (L : Nat) (xs : Nat → Int32) (P : Int32 × Mem → Prop) (v3 : Int32) (M : Mem) : Prop := vp_in (v3 + (1 : Int32)) L ∧ vp_in (v3 + (2 : Int32)) L ∧ vp_in (v3 + (3 : Int32)) L ∧ w_X11_guess (xs ((v3 + (1 : Int32))).toNatClampNeg) (xs ((v3 + (2 : Int32))).toNatClampNeg) (xs ((v3 + (3 : Int32))).toNatClampNeg) M (fun (r88 : Int32) (M87 : Mem) => vp_in (v3 + (1 : Int32)) L ∧ vp_in (v3 + (2 : Int32)) L ∧ vp_in (v3 + (3 : Int32)) L ∧ w_X12_guess (xs ((v3 + (1 : Int32))).toNatClampNeg) (xs ((v3 + (2 : Int32))).toNatClampNeg) (xs ((v3 + (3 : Int32))).toNatClampNeg) M87 (fun (r93 : Int32) (M92 : Mem) => r88 = r93 ∧ P (v3 + 8, M92)))
set_option maxRecDepth 100000 in
set_option maxHeartbeats 8000000 in
theorem ok_law_7 {c : CtxT} {g : Gl} {l : Launch} {b L : Nat} {xs : Nat → Int32} {P : Int32 × Mem → Prop} {v3 : Int32} {M : Mem} (C : Cx c code 4 RL g l room_1) (Lc : Lx c g b L xs) (hP : ∀ (v3 : Int32) (M : Mem), P (v3, M) → X c KL 18 [(0, .ref b), (1, .ref (g.2.2.2 + 0)), (2, .ref (g.2.2.2 + 135)), (3, .int v3)] [] (stat M)) (hw : w_law_7 L xs P v3 M) : X c KL 529 [(0, .ref b), (1, .ref (g.2.2.2 + 0)), (2, .ref (g.2.2.2 + 135)), (3, .int v3)] [] (stat M) := by
  unfold w_law_7 at hw
  refine x_aload_n C dL_law_529 rfl rfl ?_
  refine x_aload_n C dL_law_530 rfl rfl ?_
  refine x_iload_n C dL_law_531 rfl rfl ?_
  refine x_iconst (v := (1 : Int32)) C dL_law_532 (by decide) ?_
  refine x_iadd C dL_law_533 ?_
  obtain ⟨h84, hw⟩ := hw
  refine l_sld C Lc h84 dL_law_534 ?_
  refine x_aload_n C dL_law_535 rfl rfl ?_
  refine x_iload_n C dL_law_536 rfl rfl ?_
  refine x_iconst (v := (2 : Int32)) C dL_law_537 (by decide) ?_
  refine x_iadd C dL_law_538 ?_
  obtain ⟨h85, hw⟩ := hw
  refine l_sld C Lc h85 dL_law_539 ?_
  refine x_aload_n C dL_law_540 rfl rfl ?_
  refine x_iload_n C dL_law_541 rfl rfl ?_
  refine x_iconst (v := (3 : Int32)) C dL_law_542 (by decide) ?_
  refine x_iadd C dL_law_543 ?_
  obtain ⟨h86, hw⟩ := hw
  refine l_sld C Lc h86 dL_law_544 ?_
  refine l_callVI s0 rfl C (ok_X11_guess hw) mv_L_47 rfl rfl ⟨Nat.le_of_ble_eq_true rfl, Nat.le_of_ble_eq_true rfl⟩ (Nat.le_of_ble_eq_true rfl) ⟨Nat.le_of_ble_eq_true rfl, Nat.le_of_ble_eq_true rfl⟩ dL_law_545 (fun r88 M87 hw => ?_)
  refine x_aload_n C dL_law_548 rfl rfl ?_
  refine x_aload_n C dL_law_549 rfl rfl ?_
  refine x_iload_n C dL_law_550 rfl rfl ?_
  refine x_iconst (v := (1 : Int32)) C dL_law_551 (by decide) ?_
  refine x_iadd C dL_law_552 ?_
  obtain ⟨h89, hw⟩ := hw
  refine l_sld C Lc h89 dL_law_553 ?_
  refine x_aload_n C dL_law_554 rfl rfl ?_
  refine x_iload_n C dL_law_555 rfl rfl ?_
  refine x_iconst (v := (2 : Int32)) C dL_law_556 (by decide) ?_
  refine x_iadd C dL_law_557 ?_
  obtain ⟨h90, hw⟩ := hw
  refine l_sld C Lc h90 dL_law_558 ?_
  refine x_aload_n C dL_law_559 rfl rfl ?_
  refine x_iload_n C dL_law_560 rfl rfl ?_
  refine x_iconst (v := (3 : Int32)) C dL_law_561 (by decide) ?_
  refine x_iadd C dL_law_562 ?_
  obtain ⟨h91, hw⟩ := hw
  refine l_sld C Lc h91 dL_law_563 ?_
  refine l_callVI s135 rfl C (ok_X12_guess hw) mv_L_50 rfl rfl ⟨Nat.le_of_ble_eq_true rfl, Nat.le_of_ble_eq_true rfl⟩ (Nat.le_of_ble_eq_true rfl) ⟨Nat.le_of_ble_eq_true rfl, Nat.le_of_ble_eq_true rfl⟩ dL_law_564 (fun r93 M92 hw => ?_)
  obtain ⟨h94, hw⟩ := hw
  refine x_icmp_eq (tgt := 1781) C dL_law_567 (by decide) (fun _ => ?_) (fun z => absurd h94 z)
  exact ok_law_end C Lc hP hw
def w_law_8 (L : Nat) (xs : Nat → Int32) (P : Int32 × Mem → Prop) (v3 : Int32) (M : Mem) : Prop := vp_in (v3 + (1 : Int32)) L ∧ vp_in (v3 + (2 : Int32)) L ∧ vp_in (v3 + (3 : Int32)) L ∧ vp_in (v3 + (4 : Int32)) L ∧ vp_in (v3 + (5 : Int32)) L ∧ w_X11_noise (xs ((v3 + (1 : Int32))).toNatClampNeg) (xs ((v3 + (2 : Int32))).toNatClampNeg) (xs ((v3 + (3 : Int32))).toNatClampNeg) (xs ((v3 + (4 : Int32))).toNatClampNeg) (b01 (xs ((v3 + (5 : Int32))).toNatClampNeg)) M (fun (r101 : Int32) (M100 : Mem) => vp_in (v3 + (1 : Int32)) L ∧ vp_in (v3 + (2 : Int32)) L ∧ vp_in (v3 + (3 : Int32)) L ∧ vp_in (v3 + (4 : Int32)) L ∧ vp_in (v3 + (5 : Int32)) L ∧ w_X12_noise (xs ((v3 + (1 : Int32))).toNatClampNeg) (xs ((v3 + (2 : Int32))).toNatClampNeg) (xs ((v3 + (3 : Int32))).toNatClampNeg) (xs ((v3 + (4 : Int32))).toNatClampNeg) (b01 (xs ((v3 + (5 : Int32))).toNatClampNeg)) M100 (fun (r108 : Int32) (M107 : Mem) => r101 = r108 ∧ P (v3 + 8, M107)))
set_option maxRecDepth 100000 in
set_option maxHeartbeats 8000000 in
theorem ok_law_8 {c : CtxT} {g : Gl} {l : Launch} {b L : Nat} {xs : Nat → Int32} {P : Int32 × Mem → Prop} {v3 : Int32} {M : Mem} (C : Cx c code 4 RL g l room_1) (Lc : Lx c g b L xs) (hP : ∀ (v3 : Int32) (M : Mem), P (v3, M) → X c KL 18 [(0, .ref b), (1, .ref (g.2.2.2 + 0)), (2, .ref (g.2.2.2 + 135)), (3, .int v3)] [] (stat M)) (hw : w_law_8 L xs P v3 M) : X c KL 572 [(0, .ref b), (1, .ref (g.2.2.2 + 0)), (2, .ref (g.2.2.2 + 135)), (3, .int v3)] [] (stat M) := by
  unfold w_law_8 at hw
  refine x_aload_n C dL_law_572 rfl rfl ?_
  refine x_aload_n C dL_law_573 rfl rfl ?_
  refine x_iload_n C dL_law_574 rfl rfl ?_
  refine x_iconst (v := (1 : Int32)) C dL_law_575 (by decide) ?_
  refine x_iadd C dL_law_576 ?_
  obtain ⟨h95, hw⟩ := hw
  refine l_sld C Lc h95 dL_law_577 ?_
  refine x_aload_n C dL_law_578 rfl rfl ?_
  refine x_iload_n C dL_law_579 rfl rfl ?_
  refine x_iconst (v := (2 : Int32)) C dL_law_580 (by decide) ?_
  refine x_iadd C dL_law_581 ?_
  obtain ⟨h96, hw⟩ := hw
  refine l_sld C Lc h96 dL_law_582 ?_
  refine x_aload_n C dL_law_583 rfl rfl ?_
  refine x_iload_n C dL_law_584 rfl rfl ?_
  refine x_iconst (v := (3 : Int32)) C dL_law_585 (by decide) ?_
  refine x_iadd C dL_law_586 ?_
  obtain ⟨h97, hw⟩ := hw
  refine l_sld C Lc h97 dL_law_587 ?_
  refine x_aload_n C dL_law_588 rfl rfl ?_
  refine x_iload_n C dL_law_589 rfl rfl ?_
  refine x_iconst (v := (4 : Int32)) C dL_law_590 (by decide) ?_
  refine x_iadd C dL_law_591 ?_
  obtain ⟨h98, hw⟩ := hw
  refine l_sld C Lc h98 dL_law_592 ?_
  refine x_aload_n C dL_law_593 rfl rfl ?_
  refine x_iload_n C dL_law_594 rfl rfl ?_
  refine x_iconst (v := (5 : Int32)) C dL_law_595 (by decide) ?_
  refine x_iadd C dL_law_596 ?_
  obtain ⟨h99, hw⟩ := hw
  refine l_sld C Lc h99 dL_law_597 ?_
  refine l_b01 (tgt1 := 605) (tgt2 := 606) C dL_law_598 (by decide) dL_law_601 dL_law_602 (by decide) dL_law_605 rfl ?_
  refine l_callVI s0 rfl C (ok_X11_noise hw) mv_L_51 rfl rfl ⟨Nat.le_of_ble_eq_true rfl, Nat.le_of_ble_eq_true rfl⟩ (Nat.le_of_ble_eq_true rfl) ⟨Nat.le_of_ble_eq_true rfl, Nat.le_of_ble_eq_true rfl⟩ dL_law_606 (fun r101 M100 hw => ?_)
  refine x_aload_n C dL_law_609 rfl rfl ?_
  refine x_aload_n C dL_law_610 rfl rfl ?_
  refine x_iload_n C dL_law_611 rfl rfl ?_
  refine x_iconst (v := (1 : Int32)) C dL_law_612 (by decide) ?_
  refine x_iadd C dL_law_613 ?_
  obtain ⟨h102, hw⟩ := hw
  refine l_sld C Lc h102 dL_law_614 ?_
  refine x_aload_n C dL_law_615 rfl rfl ?_
  refine x_iload_n C dL_law_616 rfl rfl ?_
  refine x_iconst (v := (2 : Int32)) C dL_law_617 (by decide) ?_
  refine x_iadd C dL_law_618 ?_
  obtain ⟨h103, hw⟩ := hw
  refine l_sld C Lc h103 dL_law_619 ?_
  refine x_aload_n C dL_law_620 rfl rfl ?_
  refine x_iload_n C dL_law_621 rfl rfl ?_
  refine x_iconst (v := (3 : Int32)) C dL_law_622 (by decide) ?_
  refine x_iadd C dL_law_623 ?_
  obtain ⟨h104, hw⟩ := hw
  refine l_sld C Lc h104 dL_law_624 ?_
  refine x_aload_n C dL_law_625 rfl rfl ?_
  refine x_iload_n C dL_law_626 rfl rfl ?_
  refine x_iconst (v := (4 : Int32)) C dL_law_627 (by decide) ?_
  refine x_iadd C dL_law_628 ?_
  obtain ⟨h105, hw⟩ := hw
  refine l_sld C Lc h105 dL_law_629 ?_
  refine x_aload_n C dL_law_630 rfl rfl ?_
  refine x_iload_n C dL_law_631 rfl rfl ?_
  refine x_iconst (v := (5 : Int32)) C dL_law_632 (by decide) ?_
  refine x_iadd C dL_law_633 ?_
  obtain ⟨h106, hw⟩ := hw
  refine l_sld C Lc h106 dL_law_634 ?_
  refine l_b01 (tgt1 := 642) (tgt2 := 643) C dL_law_635 (by decide) dL_law_638 dL_law_639 (by decide) dL_law_642 rfl ?_
  refine l_callVI s135 rfl C (ok_X12_noise hw) mv_L_55 rfl rfl ⟨Nat.le_of_ble_eq_true rfl, Nat.le_of_ble_eq_true rfl⟩ (Nat.le_of_ble_eq_true rfl) ⟨Nat.le_of_ble_eq_true rfl, Nat.le_of_ble_eq_true rfl⟩ dL_law_643 (fun r108 M107 hw => ?_)
  obtain ⟨h109, hw⟩ := hw
  refine x_icmp_eq (tgt := 1781) C dL_law_646 (by decide) (fun _ => ?_) (fun z => absurd h109 z)
  exact ok_law_end C Lc hP hw
def w_law_9 (L : Nat) (xs : Nat → Int32) (P : Int32 × Mem → Prop) (v3 : Int32) (M : Mem) : Prop := vp_in (v3 + (1 : Int32)) L ∧ vp_in (v3 + (2 : Int32)) L ∧ vp_in (v3 + (3 : Int32)) L ∧ vp_in (v3 + (4 : Int32)) L ∧ vp_in (v3 + (5 : Int32)) L ∧ vp_in (v3 + (6 : Int32)) L ∧ w_X11_run (xs ((v3 + (1 : Int32))).toNatClampNeg) (xs ((v3 + (2 : Int32))).toNatClampNeg) (xs ((v3 + (3 : Int32))).toNatClampNeg) (xs ((v3 + (4 : Int32))).toNatClampNeg) (xs ((v3 + (5 : Int32))).toNatClampNeg) (b01 (xs ((v3 + (6 : Int32))).toNatClampNeg)) M (fun (r117 : Int32) (M116 : Mem) => vp_in (v3 + (1 : Int32)) L ∧ vp_in (v3 + (2 : Int32)) L ∧ vp_in (v3 + (3 : Int32)) L ∧ vp_in (v3 + (4 : Int32)) L ∧ vp_in (v3 + (5 : Int32)) L ∧ vp_in (v3 + (6 : Int32)) L ∧ w_X12_run (xs ((v3 + (1 : Int32))).toNatClampNeg) (xs ((v3 + (2 : Int32))).toNatClampNeg) (xs ((v3 + (3 : Int32))).toNatClampNeg) (xs ((v3 + (4 : Int32))).toNatClampNeg) (xs ((v3 + (5 : Int32))).toNatClampNeg) (b01 (xs ((v3 + (6 : Int32))).toNatClampNeg)) M116 (fun (r125 : Int32) (M124 : Mem) => r117 = r125 ∧ P (v3 + 8, M124)))
set_option maxRecDepth 100000 in
set_option maxHeartbeats 8000000 in
theorem ok_law_9 {c : CtxT} {g : Gl} {l : Launch} {b L : Nat} {xs : Nat → Int32} {P : Int32 × Mem → Prop} {v3 : Int32} {M : Mem} (C : Cx c code 4 RL g l room_1) (Lc : Lx c g b L xs) (hP : ∀ (v3 : Int32) (M : Mem), P (v3, M) → X c KL 18 [(0, .ref b), (1, .ref (g.2.2.2 + 0)), (2, .ref (g.2.2.2 + 135)), (3, .int v3)] [] (stat M)) (hw : w_law_9 L xs P v3 M) : X c KL 651 [(0, .ref b), (1, .ref (g.2.2.2 + 0)), (2, .ref (g.2.2.2 + 135)), (3, .int v3)] [] (stat M) := by
  unfold w_law_9 at hw
  refine x_aload_n C dL_law_651 rfl rfl ?_
  refine x_aload_n C dL_law_652 rfl rfl ?_
  refine x_iload_n C dL_law_653 rfl rfl ?_
  refine x_iconst (v := (1 : Int32)) C dL_law_654 (by decide) ?_
  refine x_iadd C dL_law_655 ?_
  obtain ⟨h110, hw⟩ := hw
  refine l_sld C Lc h110 dL_law_656 ?_
  refine x_aload_n C dL_law_657 rfl rfl ?_
  refine x_iload_n C dL_law_658 rfl rfl ?_
  refine x_iconst (v := (2 : Int32)) C dL_law_659 (by decide) ?_
  refine x_iadd C dL_law_660 ?_
  obtain ⟨h111, hw⟩ := hw
  refine l_sld C Lc h111 dL_law_661 ?_
  refine x_aload_n C dL_law_662 rfl rfl ?_
  refine x_iload_n C dL_law_663 rfl rfl ?_
  refine x_iconst (v := (3 : Int32)) C dL_law_664 (by decide) ?_
  refine x_iadd C dL_law_665 ?_
  obtain ⟨h112, hw⟩ := hw
  refine l_sld C Lc h112 dL_law_666 ?_
  refine x_aload_n C dL_law_667 rfl rfl ?_
  refine x_iload_n C dL_law_668 rfl rfl ?_
  refine x_iconst (v := (4 : Int32)) C dL_law_669 (by decide) ?_
  refine x_iadd C dL_law_670 ?_
  obtain ⟨h113, hw⟩ := hw
  refine l_sld C Lc h113 dL_law_671 ?_
  refine x_aload_n C dL_law_672 rfl rfl ?_
  refine x_iload_n C dL_law_673 rfl rfl ?_
  refine x_iconst (v := (5 : Int32)) C dL_law_674 (by decide) ?_
  refine x_iadd C dL_law_675 ?_
  obtain ⟨h114, hw⟩ := hw
  refine l_sld C Lc h114 dL_law_676 ?_
  refine x_aload_n C dL_law_677 rfl rfl ?_
  refine x_iload_n C dL_law_678 rfl rfl ?_
  refine x_bipush (v := (6 : Int32)) C dL_law_679 (by decide) ?_
  refine x_iadd C dL_law_681 ?_
  obtain ⟨h115, hw⟩ := hw
  refine l_sld C Lc h115 dL_law_682 ?_
  refine l_b01 (tgt1 := 690) (tgt2 := 691) C dL_law_683 (by decide) dL_law_686 dL_law_687 (by decide) dL_law_690 rfl ?_
  refine l_callVI s0 rfl C (ok_X11_run hw) mv_L_56 rfl rfl ⟨Nat.le_of_ble_eq_true rfl, Nat.le_of_ble_eq_true rfl⟩ (Nat.le_of_ble_eq_true rfl) ⟨Nat.le_of_ble_eq_true rfl, Nat.le_of_ble_eq_true rfl⟩ dL_law_691 (fun r117 M116 hw => ?_)
  refine x_aload_n C dL_law_694 rfl rfl ?_
  refine x_aload_n C dL_law_695 rfl rfl ?_
  refine x_iload_n C dL_law_696 rfl rfl ?_
  refine x_iconst (v := (1 : Int32)) C dL_law_697 (by decide) ?_
  refine x_iadd C dL_law_698 ?_
  obtain ⟨h118, hw⟩ := hw
  refine l_sld C Lc h118 dL_law_699 ?_
  refine x_aload_n C dL_law_700 rfl rfl ?_
  refine x_iload_n C dL_law_701 rfl rfl ?_
  refine x_iconst (v := (2 : Int32)) C dL_law_702 (by decide) ?_
  refine x_iadd C dL_law_703 ?_
  obtain ⟨h119, hw⟩ := hw
  refine l_sld C Lc h119 dL_law_704 ?_
  refine x_aload_n C dL_law_705 rfl rfl ?_
  refine x_iload_n C dL_law_706 rfl rfl ?_
  refine x_iconst (v := (3 : Int32)) C dL_law_707 (by decide) ?_
  refine x_iadd C dL_law_708 ?_
  obtain ⟨h120, hw⟩ := hw
  refine l_sld C Lc h120 dL_law_709 ?_
  refine x_aload_n C dL_law_710 rfl rfl ?_
  refine x_iload_n C dL_law_711 rfl rfl ?_
  refine x_iconst (v := (4 : Int32)) C dL_law_712 (by decide) ?_
  refine x_iadd C dL_law_713 ?_
  obtain ⟨h121, hw⟩ := hw
  refine l_sld C Lc h121 dL_law_714 ?_
  refine x_aload_n C dL_law_715 rfl rfl ?_
  refine x_iload_n C dL_law_716 rfl rfl ?_
  refine x_iconst (v := (5 : Int32)) C dL_law_717 (by decide) ?_
  refine x_iadd C dL_law_718 ?_
  obtain ⟨h122, hw⟩ := hw
  refine l_sld C Lc h122 dL_law_719 ?_
  refine x_aload_n C dL_law_720 rfl rfl ?_
  refine x_iload_n C dL_law_721 rfl rfl ?_
  refine x_bipush (v := (6 : Int32)) C dL_law_722 (by decide) ?_
  refine x_iadd C dL_law_724 ?_
  obtain ⟨h123, hw⟩ := hw
  refine l_sld C Lc h123 dL_law_725 ?_
  refine l_b01 (tgt1 := 733) (tgt2 := 734) C dL_law_726 (by decide) dL_law_729 dL_law_730 (by decide) dL_law_733 rfl ?_
  refine l_callVI s135 rfl C (ok_X12_run hw) mv_L_60 rfl rfl ⟨Nat.le_of_ble_eq_true rfl, Nat.le_of_ble_eq_true rfl⟩ (Nat.le_of_ble_eq_true rfl) ⟨Nat.le_of_ble_eq_true rfl, Nat.le_of_ble_eq_true rfl⟩ dL_law_734 (fun r125 M124 hw => ?_)
  obtain ⟨h126, hw⟩ := hw
  refine x_icmp_eq (tgt := 1781) C dL_law_737 (by decide) (fun _ => ?_) (fun z => absurd h126 z)
  exact ok_law_end C Lc hP hw
def w_law_10 (L : Nat) (xs : Nat → Int32) (P : Int32 × Mem → Prop) (v3 : Int32) (M : Mem) : Prop := vp_in (v3 + (1 : Int32)) L ∧ vp_in (v3 + (2 : Int32)) L ∧ w_X11_of (xs ((v3 + (1 : Int32))).toNatClampNeg) (xs ((v3 + (2 : Int32))).toNatClampNeg) M (fun (r130 : Int32) (M129 : Mem) => vp_in (v3 + (1 : Int32)) L ∧ vp_in (v3 + (2 : Int32)) L ∧ w_X12_of (xs ((v3 + (1 : Int32))).toNatClampNeg) (xs ((v3 + (2 : Int32))).toNatClampNeg) M129 (fun (r134 : Int32) (M133 : Mem) => r130 = r134 ∧ P (v3 + 8, M133)))
set_option maxRecDepth 100000 in
set_option maxHeartbeats 8000000 in
theorem ok_law_10 {c : CtxT} {g : Gl} {l : Launch} {b L : Nat} {xs : Nat → Int32} {P : Int32 × Mem → Prop} {v3 : Int32} {M : Mem} (C : Cx c code 4 RL g l room_1) (Lc : Lx c g b L xs) (hP : ∀ (v3 : Int32) (M : Mem), P (v3, M) → X c KL 18 [(0, .ref b), (1, .ref (g.2.2.2 + 0)), (2, .ref (g.2.2.2 + 135)), (3, .int v3)] [] (stat M)) (hw : w_law_10 L xs P v3 M) : X c KL 742 [(0, .ref b), (1, .ref (g.2.2.2 + 0)), (2, .ref (g.2.2.2 + 135)), (3, .int v3)] [] (stat M) := by
  unfold w_law_10 at hw
  refine x_aload_n C dL_law_742 rfl rfl ?_
  refine x_aload_n C dL_law_743 rfl rfl ?_
  refine x_iload_n C dL_law_744 rfl rfl ?_
  refine x_iconst (v := (1 : Int32)) C dL_law_745 (by decide) ?_
  refine x_iadd C dL_law_746 ?_
  obtain ⟨h127, hw⟩ := hw
  refine l_sld C Lc h127 dL_law_747 ?_
  refine x_aload_n C dL_law_748 rfl rfl ?_
  refine x_iload_n C dL_law_749 rfl rfl ?_
  refine x_iconst (v := (2 : Int32)) C dL_law_750 (by decide) ?_
  refine x_iadd C dL_law_751 ?_
  obtain ⟨h128, hw⟩ := hw
  refine l_sld C Lc h128 dL_law_752 ?_
  refine l_callVI s0 rfl C (ok_X11_of hw) mv_L_61 rfl rfl ⟨Nat.le_of_ble_eq_true rfl, Nat.le_of_ble_eq_true rfl⟩ (Nat.le_of_ble_eq_true rfl) ⟨Nat.le_of_ble_eq_true rfl, Nat.le_of_ble_eq_true rfl⟩ dL_law_753 (fun r130 M129 hw => ?_)
  refine x_aload_n C dL_law_756 rfl rfl ?_
  refine x_aload_n C dL_law_757 rfl rfl ?_
  refine x_iload_n C dL_law_758 rfl rfl ?_
  refine x_iconst (v := (1 : Int32)) C dL_law_759 (by decide) ?_
  refine x_iadd C dL_law_760 ?_
  obtain ⟨h131, hw⟩ := hw
  refine l_sld C Lc h131 dL_law_761 ?_
  refine x_aload_n C dL_law_762 rfl rfl ?_
  refine x_iload_n C dL_law_763 rfl rfl ?_
  refine x_iconst (v := (2 : Int32)) C dL_law_764 (by decide) ?_
  refine x_iadd C dL_law_765 ?_
  obtain ⟨h132, hw⟩ := hw
  refine l_sld C Lc h132 dL_law_766 ?_
  refine l_callVI s135 rfl C (ok_X12_of hw) mv_L_64 rfl rfl ⟨Nat.le_of_ble_eq_true rfl, Nat.le_of_ble_eq_true rfl⟩ (Nat.le_of_ble_eq_true rfl) ⟨Nat.le_of_ble_eq_true rfl, Nat.le_of_ble_eq_true rfl⟩ dL_law_767 (fun r134 M133 hw => ?_)
  obtain ⟨h135, hw⟩ := hw
  refine x_icmp_eq (tgt := 1781) C dL_law_770 (by decide) (fun _ => ?_) (fun z => absurd h135 z)
  exact ok_law_end C Lc hP hw
def w_law_11 (L : Nat) (xs : Nat → Int32) (P : Int32 × Mem → Prop) (v3 : Int32) (M : Mem) : Prop := vp_in (v3 + (1 : Int32)) L ∧ vp_in (v3 + (2 : Int32)) L ∧ vp_in (v3 + (3 : Int32)) L ∧ vp_in (v3 + (4 : Int32)) L ∧ w_X11_plain (xs ((v3 + (1 : Int32))).toNatClampNeg) (xs ((v3 + (2 : Int32))).toNatClampNeg) (xs ((v3 + (3 : Int32))).toNatClampNeg) (xs ((v3 + (4 : Int32))).toNatClampNeg) M (fun (r141 : Int32) (M140 : Mem) => vp_in (v3 + (1 : Int32)) L ∧ vp_in (v3 + (2 : Int32)) L ∧ vp_in (v3 + (3 : Int32)) L ∧ vp_in (v3 + (4 : Int32)) L ∧ w_X12_plain (xs ((v3 + (1 : Int32))).toNatClampNeg) (xs ((v3 + (2 : Int32))).toNatClampNeg) (xs ((v3 + (3 : Int32))).toNatClampNeg) (xs ((v3 + (4 : Int32))).toNatClampNeg) M140 (fun (r147 : Int32) (M146 : Mem) => r141 = r147 ∧ P (v3 + 8, M146)))
set_option maxRecDepth 100000 in
set_option maxHeartbeats 8000000 in
theorem ok_law_11 {c : CtxT} {g : Gl} {l : Launch} {b L : Nat} {xs : Nat → Int32} {P : Int32 × Mem → Prop} {v3 : Int32} {M : Mem} (C : Cx c code 4 RL g l room_1) (Lc : Lx c g b L xs) (hP : ∀ (v3 : Int32) (M : Mem), P (v3, M) → X c KL 18 [(0, .ref b), (1, .ref (g.2.2.2 + 0)), (2, .ref (g.2.2.2 + 135)), (3, .int v3)] [] (stat M)) (hw : w_law_11 L xs P v3 M) : X c KL 775 [(0, .ref b), (1, .ref (g.2.2.2 + 0)), (2, .ref (g.2.2.2 + 135)), (3, .int v3)] [] (stat M) := by
  unfold w_law_11 at hw
  refine x_aload_n C dL_law_775 rfl rfl ?_
  refine x_aload_n C dL_law_776 rfl rfl ?_
  refine x_iload_n C dL_law_777 rfl rfl ?_
  refine x_iconst (v := (1 : Int32)) C dL_law_778 (by decide) ?_
  refine x_iadd C dL_law_779 ?_
  obtain ⟨h136, hw⟩ := hw
  refine l_sld C Lc h136 dL_law_780 ?_
  refine x_aload_n C dL_law_781 rfl rfl ?_
  refine x_iload_n C dL_law_782 rfl rfl ?_
  refine x_iconst (v := (2 : Int32)) C dL_law_783 (by decide) ?_
  refine x_iadd C dL_law_784 ?_
  obtain ⟨h137, hw⟩ := hw
  refine l_sld C Lc h137 dL_law_785 ?_
  refine x_aload_n C dL_law_786 rfl rfl ?_
  refine x_iload_n C dL_law_787 rfl rfl ?_
  refine x_iconst (v := (3 : Int32)) C dL_law_788 (by decide) ?_
  refine x_iadd C dL_law_789 ?_
  obtain ⟨h138, hw⟩ := hw
  refine l_sld C Lc h138 dL_law_790 ?_
  refine x_aload_n C dL_law_791 rfl rfl ?_
  refine x_iload_n C dL_law_792 rfl rfl ?_
  refine x_iconst (v := (4 : Int32)) C dL_law_793 (by decide) ?_
  refine x_iadd C dL_law_794 ?_
  obtain ⟨h139, hw⟩ := hw
  refine l_sld C Lc h139 dL_law_795 ?_
  refine l_callVI s0 rfl C (ok_X11_plain hw) mv_L_65 rfl rfl ⟨Nat.le_of_ble_eq_true rfl, Nat.le_of_ble_eq_true rfl⟩ (Nat.le_of_ble_eq_true rfl) ⟨Nat.le_of_ble_eq_true rfl, Nat.le_of_ble_eq_true rfl⟩ dL_law_796 (fun r141 M140 hw => ?_)
  refine x_aload_n C dL_law_799 rfl rfl ?_
  refine x_aload_n C dL_law_800 rfl rfl ?_
  refine x_iload_n C dL_law_801 rfl rfl ?_
  refine x_iconst (v := (1 : Int32)) C dL_law_802 (by decide) ?_
  refine x_iadd C dL_law_803 ?_
  obtain ⟨h142, hw⟩ := hw
  refine l_sld C Lc h142 dL_law_804 ?_
  refine x_aload_n C dL_law_805 rfl rfl ?_
  refine x_iload_n C dL_law_806 rfl rfl ?_
  refine x_iconst (v := (2 : Int32)) C dL_law_807 (by decide) ?_
  refine x_iadd C dL_law_808 ?_
  obtain ⟨h143, hw⟩ := hw
  refine l_sld C Lc h143 dL_law_809 ?_
  refine x_aload_n C dL_law_810 rfl rfl ?_
  refine x_iload_n C dL_law_811 rfl rfl ?_
  refine x_iconst (v := (3 : Int32)) C dL_law_812 (by decide) ?_
  refine x_iadd C dL_law_813 ?_
  obtain ⟨h144, hw⟩ := hw
  refine l_sld C Lc h144 dL_law_814 ?_
  refine x_aload_n C dL_law_815 rfl rfl ?_
  refine x_iload_n C dL_law_816 rfl rfl ?_
  refine x_iconst (v := (4 : Int32)) C dL_law_817 (by decide) ?_
  refine x_iadd C dL_law_818 ?_
  obtain ⟨h145, hw⟩ := hw
  refine l_sld C Lc h145 dL_law_819 ?_
  refine l_callVI s135 rfl C (ok_X12_plain hw) mv_L_68 rfl rfl ⟨Nat.le_of_ble_eq_true rfl, Nat.le_of_ble_eq_true rfl⟩ (Nat.le_of_ble_eq_true rfl) ⟨Nat.le_of_ble_eq_true rfl, Nat.le_of_ble_eq_true rfl⟩ dL_law_820 (fun r147 M146 hw => ?_)
  obtain ⟨h148, hw⟩ := hw
  refine x_icmp_eq (tgt := 1781) C dL_law_823 (by decide) (fun _ => ?_) (fun z => absurd h148 z)
  exact ok_law_end C Lc hP hw
def w_law_12 (L : Nat) (xs : Nat → Int32) (P : Int32 × Mem → Prop) (v3 : Int32) (M : Mem) : Prop := vp_in (v3 + (1 : Int32)) L ∧ vp_in (v3 + (2 : Int32)) L ∧ vp_in (v3 + (3 : Int32)) L ∧ vp_in (v3 + (4 : Int32)) L ∧ vp_in (v3 + (5 : Int32)) L ∧ w_X11_figure (xs ((v3 + (1 : Int32))).toNatClampNeg) (xs ((v3 + (2 : Int32))).toNatClampNeg) (xs ((v3 + (3 : Int32))).toNatClampNeg) (xs ((v3 + (4 : Int32))).toNatClampNeg) (xs ((v3 + (5 : Int32))).toNatClampNeg) M (fun (r155 : Int32) (M154 : Mem) => vp_in (v3 + (1 : Int32)) L ∧ vp_in (v3 + (2 : Int32)) L ∧ vp_in (v3 + (3 : Int32)) L ∧ vp_in (v3 + (4 : Int32)) L ∧ vp_in (v3 + (5 : Int32)) L ∧ w_X12_figure (xs ((v3 + (1 : Int32))).toNatClampNeg) (xs ((v3 + (2 : Int32))).toNatClampNeg) (xs ((v3 + (3 : Int32))).toNatClampNeg) (xs ((v3 + (4 : Int32))).toNatClampNeg) (xs ((v3 + (5 : Int32))).toNatClampNeg) M154 (fun (r162 : Int32) (M161 : Mem) => r155 = r162 ∧ P (v3 + 8, M161)))
set_option maxRecDepth 100000 in
set_option maxHeartbeats 8000000 in
theorem ok_law_12 {c : CtxT} {g : Gl} {l : Launch} {b L : Nat} {xs : Nat → Int32} {P : Int32 × Mem → Prop} {v3 : Int32} {M : Mem} (C : Cx c code 4 RL g l room_1) (Lc : Lx c g b L xs) (hP : ∀ (v3 : Int32) (M : Mem), P (v3, M) → X c KL 18 [(0, .ref b), (1, .ref (g.2.2.2 + 0)), (2, .ref (g.2.2.2 + 135)), (3, .int v3)] [] (stat M)) (hw : w_law_12 L xs P v3 M) : X c KL 828 [(0, .ref b), (1, .ref (g.2.2.2 + 0)), (2, .ref (g.2.2.2 + 135)), (3, .int v3)] [] (stat M) := by
  unfold w_law_12 at hw
  refine x_aload_n C dL_law_828 rfl rfl ?_
  refine x_aload_n C dL_law_829 rfl rfl ?_
  refine x_iload_n C dL_law_830 rfl rfl ?_
  refine x_iconst (v := (1 : Int32)) C dL_law_831 (by decide) ?_
  refine x_iadd C dL_law_832 ?_
  obtain ⟨h149, hw⟩ := hw
  refine l_sld C Lc h149 dL_law_833 ?_
  refine x_aload_n C dL_law_834 rfl rfl ?_
  refine x_iload_n C dL_law_835 rfl rfl ?_
  refine x_iconst (v := (2 : Int32)) C dL_law_836 (by decide) ?_
  refine x_iadd C dL_law_837 ?_
  obtain ⟨h150, hw⟩ := hw
  refine l_sld C Lc h150 dL_law_838 ?_
  refine x_aload_n C dL_law_839 rfl rfl ?_
  refine x_iload_n C dL_law_840 rfl rfl ?_
  refine x_iconst (v := (3 : Int32)) C dL_law_841 (by decide) ?_
  refine x_iadd C dL_law_842 ?_
  obtain ⟨h151, hw⟩ := hw
  refine l_sld C Lc h151 dL_law_843 ?_
  refine x_aload_n C dL_law_844 rfl rfl ?_
  refine x_iload_n C dL_law_845 rfl rfl ?_
  refine x_iconst (v := (4 : Int32)) C dL_law_846 (by decide) ?_
  refine x_iadd C dL_law_847 ?_
  obtain ⟨h152, hw⟩ := hw
  refine l_sld C Lc h152 dL_law_848 ?_
  refine x_aload_n C dL_law_849 rfl rfl ?_
  refine x_iload_n C dL_law_850 rfl rfl ?_
  refine x_iconst (v := (5 : Int32)) C dL_law_851 (by decide) ?_
  refine x_iadd C dL_law_852 ?_
  obtain ⟨h153, hw⟩ := hw
  refine l_sld C Lc h153 dL_law_853 ?_
  refine l_callVI s0 rfl C (ok_X11_figure hw) mv_L_69 rfl rfl ⟨Nat.le_of_ble_eq_true rfl, Nat.le_of_ble_eq_true rfl⟩ (Nat.le_of_ble_eq_true rfl) ⟨Nat.le_of_ble_eq_true rfl, Nat.le_of_ble_eq_true rfl⟩ dL_law_854 (fun r155 M154 hw => ?_)
  refine x_aload_n C dL_law_857 rfl rfl ?_
  refine x_aload_n C dL_law_858 rfl rfl ?_
  refine x_iload_n C dL_law_859 rfl rfl ?_
  refine x_iconst (v := (1 : Int32)) C dL_law_860 (by decide) ?_
  refine x_iadd C dL_law_861 ?_
  obtain ⟨h156, hw⟩ := hw
  refine l_sld C Lc h156 dL_law_862 ?_
  refine x_aload_n C dL_law_863 rfl rfl ?_
  refine x_iload_n C dL_law_864 rfl rfl ?_
  refine x_iconst (v := (2 : Int32)) C dL_law_865 (by decide) ?_
  refine x_iadd C dL_law_866 ?_
  obtain ⟨h157, hw⟩ := hw
  refine l_sld C Lc h157 dL_law_867 ?_
  refine x_aload_n C dL_law_868 rfl rfl ?_
  refine x_iload_n C dL_law_869 rfl rfl ?_
  refine x_iconst (v := (3 : Int32)) C dL_law_870 (by decide) ?_
  refine x_iadd C dL_law_871 ?_
  obtain ⟨h158, hw⟩ := hw
  refine l_sld C Lc h158 dL_law_872 ?_
  refine x_aload_n C dL_law_873 rfl rfl ?_
  refine x_iload_n C dL_law_874 rfl rfl ?_
  refine x_iconst (v := (4 : Int32)) C dL_law_875 (by decide) ?_
  refine x_iadd C dL_law_876 ?_
  obtain ⟨h159, hw⟩ := hw
  refine l_sld C Lc h159 dL_law_877 ?_
  refine x_aload_n C dL_law_878 rfl rfl ?_
  refine x_iload_n C dL_law_879 rfl rfl ?_
  refine x_iconst (v := (5 : Int32)) C dL_law_880 (by decide) ?_
  refine x_iadd C dL_law_881 ?_
  obtain ⟨h160, hw⟩ := hw
  refine l_sld C Lc h160 dL_law_882 ?_
  refine l_callVI s135 rfl C (ok_X12_figure hw) mv_L_72 rfl rfl ⟨Nat.le_of_ble_eq_true rfl, Nat.le_of_ble_eq_true rfl⟩ (Nat.le_of_ble_eq_true rfl) ⟨Nat.le_of_ble_eq_true rfl, Nat.le_of_ble_eq_true rfl⟩ dL_law_883 (fun r162 M161 hw => ?_)
  obtain ⟨h163, hw⟩ := hw
  refine x_icmp_eq (tgt := 1781) C dL_law_886 (by decide) (fun _ => ?_) (fun z => absurd h163 z)
  exact ok_law_end C Lc hP hw
def w_law_13 (L : Nat) (xs : Nat → Int32) (P : Int32 × Mem → Prop) (v3 : Int32) (M : Mem) : Prop := vp_in (v3 + (1 : Int32)) L ∧ vp_in (v3 + (2 : Int32)) L ∧ vp_in (v3 + (3 : Int32)) L ∧ vp_in (v3 + (4 : Int32)) L ∧ vp_in (v3 + (5 : Int32)) L ∧ vp_in (v3 + (6 : Int32)) L ∧ vp_in (v3 + (7 : Int32)) L ∧ w_X11_pair (xs ((v3 + (1 : Int32))).toNatClampNeg) (xs ((v3 + (2 : Int32))).toNatClampNeg) (xs ((v3 + (3 : Int32))).toNatClampNeg) (xs ((v3 + (4 : Int32))).toNatClampNeg) (xs ((v3 + (5 : Int32))).toNatClampNeg) (xs ((v3 + (6 : Int32))).toNatClampNeg) (b01 (xs ((v3 + (7 : Int32))).toNatClampNeg)) M (fun (r172 : Int32) (M171 : Mem) => vp_in (v3 + (1 : Int32)) L ∧ vp_in (v3 + (2 : Int32)) L ∧ vp_in (v3 + (3 : Int32)) L ∧ vp_in (v3 + (4 : Int32)) L ∧ vp_in (v3 + (5 : Int32)) L ∧ vp_in (v3 + (6 : Int32)) L ∧ vp_in (v3 + (7 : Int32)) L ∧ w_X12_pair (xs ((v3 + (1 : Int32))).toNatClampNeg) (xs ((v3 + (2 : Int32))).toNatClampNeg) (xs ((v3 + (3 : Int32))).toNatClampNeg) (xs ((v3 + (4 : Int32))).toNatClampNeg) (xs ((v3 + (5 : Int32))).toNatClampNeg) (xs ((v3 + (6 : Int32))).toNatClampNeg) (b01 (xs ((v3 + (7 : Int32))).toNatClampNeg)) M171 (fun (r181 : Int32) (M180 : Mem) => r172 = r181 ∧ P (v3 + 8, M180)))
set_option maxRecDepth 100000 in
set_option maxHeartbeats 8000000 in
theorem ok_law_13 {c : CtxT} {g : Gl} {l : Launch} {b L : Nat} {xs : Nat → Int32} {P : Int32 × Mem → Prop} {v3 : Int32} {M : Mem} (C : Cx c code 4 RL g l room_1) (Lc : Lx c g b L xs) (hP : ∀ (v3 : Int32) (M : Mem), P (v3, M) → X c KL 18 [(0, .ref b), (1, .ref (g.2.2.2 + 0)), (2, .ref (g.2.2.2 + 135)), (3, .int v3)] [] (stat M)) (hw : w_law_13 L xs P v3 M) : X c KL 891 [(0, .ref b), (1, .ref (g.2.2.2 + 0)), (2, .ref (g.2.2.2 + 135)), (3, .int v3)] [] (stat M) := by
  unfold w_law_13 at hw
  refine x_aload_n C dL_law_891 rfl rfl ?_
  refine x_aload_n C dL_law_892 rfl rfl ?_
  refine x_iload_n C dL_law_893 rfl rfl ?_
  refine x_iconst (v := (1 : Int32)) C dL_law_894 (by decide) ?_
  refine x_iadd C dL_law_895 ?_
  obtain ⟨h164, hw⟩ := hw
  refine l_sld C Lc h164 dL_law_896 ?_
  refine x_aload_n C dL_law_897 rfl rfl ?_
  refine x_iload_n C dL_law_898 rfl rfl ?_
  refine x_iconst (v := (2 : Int32)) C dL_law_899 (by decide) ?_
  refine x_iadd C dL_law_900 ?_
  obtain ⟨h165, hw⟩ := hw
  refine l_sld C Lc h165 dL_law_901 ?_
  refine x_aload_n C dL_law_902 rfl rfl ?_
  refine x_iload_n C dL_law_903 rfl rfl ?_
  refine x_iconst (v := (3 : Int32)) C dL_law_904 (by decide) ?_
  refine x_iadd C dL_law_905 ?_
  obtain ⟨h166, hw⟩ := hw
  refine l_sld C Lc h166 dL_law_906 ?_
  refine x_aload_n C dL_law_907 rfl rfl ?_
  refine x_iload_n C dL_law_908 rfl rfl ?_
  refine x_iconst (v := (4 : Int32)) C dL_law_909 (by decide) ?_
  refine x_iadd C dL_law_910 ?_
  obtain ⟨h167, hw⟩ := hw
  refine l_sld C Lc h167 dL_law_911 ?_
  refine x_aload_n C dL_law_912 rfl rfl ?_
  refine x_iload_n C dL_law_913 rfl rfl ?_
  refine x_iconst (v := (5 : Int32)) C dL_law_914 (by decide) ?_
  refine x_iadd C dL_law_915 ?_
  obtain ⟨h168, hw⟩ := hw
  refine l_sld C Lc h168 dL_law_916 ?_
  refine x_aload_n C dL_law_917 rfl rfl ?_
  refine x_iload_n C dL_law_918 rfl rfl ?_
  refine x_bipush (v := (6 : Int32)) C dL_law_919 (by decide) ?_
  refine x_iadd C dL_law_921 ?_
  obtain ⟨h169, hw⟩ := hw
  refine l_sld C Lc h169 dL_law_922 ?_
  refine x_aload_n C dL_law_923 rfl rfl ?_
  refine x_iload_n C dL_law_924 rfl rfl ?_
  refine x_bipush (v := (7 : Int32)) C dL_law_925 (by decide) ?_
  refine x_iadd C dL_law_927 ?_
  obtain ⟨h170, hw⟩ := hw
  refine l_sld C Lc h170 dL_law_928 ?_
  refine l_b01 (tgt1 := 936) (tgt2 := 937) C dL_law_929 (by decide) dL_law_932 dL_law_933 (by decide) dL_law_936 rfl ?_
  refine l_callVI s0 rfl C (ok_X11_pair hw) mv_L_73 rfl rfl ⟨Nat.le_of_ble_eq_true rfl, Nat.le_of_ble_eq_true rfl⟩ (Nat.le_of_ble_eq_true rfl) ⟨Nat.le_of_ble_eq_true rfl, Nat.le_of_ble_eq_true rfl⟩ dL_law_937 (fun r172 M171 hw => ?_)
  refine x_aload_n C dL_law_940 rfl rfl ?_
  refine x_aload_n C dL_law_941 rfl rfl ?_
  refine x_iload_n C dL_law_942 rfl rfl ?_
  refine x_iconst (v := (1 : Int32)) C dL_law_943 (by decide) ?_
  refine x_iadd C dL_law_944 ?_
  obtain ⟨h173, hw⟩ := hw
  refine l_sld C Lc h173 dL_law_945 ?_
  refine x_aload_n C dL_law_946 rfl rfl ?_
  refine x_iload_n C dL_law_947 rfl rfl ?_
  refine x_iconst (v := (2 : Int32)) C dL_law_948 (by decide) ?_
  refine x_iadd C dL_law_949 ?_
  obtain ⟨h174, hw⟩ := hw
  refine l_sld C Lc h174 dL_law_950 ?_
  refine x_aload_n C dL_law_951 rfl rfl ?_
  refine x_iload_n C dL_law_952 rfl rfl ?_
  refine x_iconst (v := (3 : Int32)) C dL_law_953 (by decide) ?_
  refine x_iadd C dL_law_954 ?_
  obtain ⟨h175, hw⟩ := hw
  refine l_sld C Lc h175 dL_law_955 ?_
  refine x_aload_n C dL_law_956 rfl rfl ?_
  refine x_iload_n C dL_law_957 rfl rfl ?_
  refine x_iconst (v := (4 : Int32)) C dL_law_958 (by decide) ?_
  refine x_iadd C dL_law_959 ?_
  obtain ⟨h176, hw⟩ := hw
  refine l_sld C Lc h176 dL_law_960 ?_
  refine x_aload_n C dL_law_961 rfl rfl ?_
  refine x_iload_n C dL_law_962 rfl rfl ?_
  refine x_iconst (v := (5 : Int32)) C dL_law_963 (by decide) ?_
  refine x_iadd C dL_law_964 ?_
  obtain ⟨h177, hw⟩ := hw
  refine l_sld C Lc h177 dL_law_965 ?_
  refine x_aload_n C dL_law_966 rfl rfl ?_
  refine x_iload_n C dL_law_967 rfl rfl ?_
  refine x_bipush (v := (6 : Int32)) C dL_law_968 (by decide) ?_
  refine x_iadd C dL_law_970 ?_
  obtain ⟨h178, hw⟩ := hw
  refine l_sld C Lc h178 dL_law_971 ?_
  refine x_aload_n C dL_law_972 rfl rfl ?_
  refine x_iload_n C dL_law_973 rfl rfl ?_
  refine x_bipush (v := (7 : Int32)) C dL_law_974 (by decide) ?_
  refine x_iadd C dL_law_976 ?_
  obtain ⟨h179, hw⟩ := hw
  refine l_sld C Lc h179 dL_law_977 ?_
  refine l_b01 (tgt1 := 985) (tgt2 := 986) C dL_law_978 (by decide) dL_law_981 dL_law_982 (by decide) dL_law_985 rfl ?_
  refine l_callVI s135 rfl C (ok_X12_pair hw) mv_L_77 rfl rfl ⟨Nat.le_of_ble_eq_true rfl, Nat.le_of_ble_eq_true rfl⟩ (Nat.le_of_ble_eq_true rfl) ⟨Nat.le_of_ble_eq_true rfl, Nat.le_of_ble_eq_true rfl⟩ dL_law_986 (fun r181 M180 hw => ?_)
  obtain ⟨h182, hw⟩ := hw
  refine x_icmp_eq (tgt := 1781) C dL_law_989 (by decide) (fun _ => ?_) (fun z => absurd h182 z)
  exact ok_law_end C Lc hP hw
def w_law_14 (L : Nat) (xs : Nat → Int32) (P : Int32 × Mem → Prop) (v3 : Int32) (M : Mem) : Prop := vp_in (v3 + (1 : Int32)) L ∧ w_X11_difference (xs ((v3 + (1 : Int32))).toNatClampNeg) M (fun (r185 : Int32) (M184 : Mem) => vp_in (v3 + (1 : Int32)) L ∧ w_X12_difference (xs ((v3 + (1 : Int32))).toNatClampNeg) M184 (fun (r188 : Int32) (M187 : Mem) => r185 = r188 ∧ P (v3 + 8, M187)))
set_option maxRecDepth 100000 in
set_option maxHeartbeats 8000000 in
theorem ok_law_14 {c : CtxT} {g : Gl} {l : Launch} {b L : Nat} {xs : Nat → Int32} {P : Int32 × Mem → Prop} {v3 : Int32} {M : Mem} (C : Cx c code 4 RL g l room_1) (Lc : Lx c g b L xs) (hP : ∀ (v3 : Int32) (M : Mem), P (v3, M) → X c KL 18 [(0, .ref b), (1, .ref (g.2.2.2 + 0)), (2, .ref (g.2.2.2 + 135)), (3, .int v3)] [] (stat M)) (hw : w_law_14 L xs P v3 M) : X c KL 994 [(0, .ref b), (1, .ref (g.2.2.2 + 0)), (2, .ref (g.2.2.2 + 135)), (3, .int v3)] [] (stat M) := by
  unfold w_law_14 at hw
  refine x_aload_n C dL_law_994 rfl rfl ?_
  refine x_aload_n C dL_law_995 rfl rfl ?_
  refine x_iload_n C dL_law_996 rfl rfl ?_
  refine x_iconst (v := (1 : Int32)) C dL_law_997 (by decide) ?_
  refine x_iadd C dL_law_998 ?_
  obtain ⟨h183, hw⟩ := hw
  refine l_sld C Lc h183 dL_law_999 ?_
  refine l_callVI s0 rfl C (ok_X11_difference hw) mv_L_78 rfl rfl ⟨Nat.le_of_ble_eq_true rfl, Nat.le_of_ble_eq_true rfl⟩ (Nat.le_of_ble_eq_true rfl) ⟨Nat.le_of_ble_eq_true rfl, Nat.le_of_ble_eq_true rfl⟩ dL_law_1000 (fun r185 M184 hw => ?_)
  refine x_aload_n C dL_law_1003 rfl rfl ?_
  refine x_aload_n C dL_law_1004 rfl rfl ?_
  refine x_iload_n C dL_law_1005 rfl rfl ?_
  refine x_iconst (v := (1 : Int32)) C dL_law_1006 (by decide) ?_
  refine x_iadd C dL_law_1007 ?_
  obtain ⟨h186, hw⟩ := hw
  refine l_sld C Lc h186 dL_law_1008 ?_
  refine l_callVI s135 rfl C (ok_X12_difference hw) mv_L_82 rfl rfl ⟨Nat.le_of_ble_eq_true rfl, Nat.le_of_ble_eq_true rfl⟩ (Nat.le_of_ble_eq_true rfl) ⟨Nat.le_of_ble_eq_true rfl, Nat.le_of_ble_eq_true rfl⟩ dL_law_1009 (fun r188 M187 hw => ?_)
  obtain ⟨h189, hw⟩ := hw
  refine x_icmp_eq (tgt := 1781) C dL_law_1012 (by decide) (fun _ => ?_) (fun z => absurd h189 z)
  exact ok_law_end C Lc hP hw
def w_law_15 (L : Nat) (xs : Nat → Int32) (P : Int32 × Mem → Prop) (v3 : Int32) (M : Mem) : Prop := w_X11_stand M (fun (r191 : Int32) (M190 : Mem) => w_X12_stand M190 (fun (r193 : Int32) (M192 : Mem) => r191 = r193 ∧ P (v3 + 8, M192)))
set_option maxRecDepth 100000 in
set_option maxHeartbeats 8000000 in
theorem ok_law_15 {c : CtxT} {g : Gl} {l : Launch} {b L : Nat} {xs : Nat → Int32} {P : Int32 × Mem → Prop} {v3 : Int32} {M : Mem} (C : Cx c code 4 RL g l room_1) (Lc : Lx c g b L xs) (hP : ∀ (v3 : Int32) (M : Mem), P (v3, M) → X c KL 18 [(0, .ref b), (1, .ref (g.2.2.2 + 0)), (2, .ref (g.2.2.2 + 135)), (3, .int v3)] [] (stat M)) (hw : w_law_15 L xs P v3 M) : X c KL 1017 [(0, .ref b), (1, .ref (g.2.2.2 + 0)), (2, .ref (g.2.2.2 + 135)), (3, .int v3)] [] (stat M) := by
  unfold w_law_15 at hw
  refine x_aload_n C dL_law_1017 rfl rfl ?_
  refine l_callVI s0 rfl C (ok_X11_stand hw) mv_L_83 rfl rfl ⟨Nat.le_of_ble_eq_true rfl, Nat.le_of_ble_eq_true rfl⟩ (Nat.le_of_ble_eq_true rfl) ⟨Nat.le_of_ble_eq_true rfl, Nat.le_of_ble_eq_true rfl⟩ dL_law_1018 (fun r191 M190 hw => ?_)
  refine x_aload_n C dL_law_1021 rfl rfl ?_
  refine l_callVI s135 rfl C (ok_X12_stand hw) mv_L_86 rfl rfl ⟨Nat.le_of_ble_eq_true rfl, Nat.le_of_ble_eq_true rfl⟩ (Nat.le_of_ble_eq_true rfl) ⟨Nat.le_of_ble_eq_true rfl, Nat.le_of_ble_eq_true rfl⟩ dL_law_1022 (fun r193 M192 hw => ?_)
  obtain ⟨h194, hw⟩ := hw
  refine x_icmp_eq (tgt := 1781) C dL_law_1025 (by decide) (fun _ => ?_) (fun z => absurd h194 z)
  exact ok_law_end C Lc hP hw
def w_law_16 (L : Nat) (xs : Nat → Int32) (P : Int32 × Mem → Prop) (v3 : Int32) (M : Mem) : Prop := vp_in (v3 + (1 : Int32)) L ∧ w_X11_odds (xs ((v3 + (1 : Int32))).toNatClampNeg) M (fun (r197 : Int32) (M196 : Mem) => vp_in (v3 + (1 : Int32)) L ∧ w_X12_odds (xs ((v3 + (1 : Int32))).toNatClampNeg) M196 (fun (r200 : Int32) (M199 : Mem) => r197 = r200 ∧ P (v3 + 8, M199)))
set_option maxRecDepth 100000 in
set_option maxHeartbeats 8000000 in
theorem ok_law_16 {c : CtxT} {g : Gl} {l : Launch} {b L : Nat} {xs : Nat → Int32} {P : Int32 × Mem → Prop} {v3 : Int32} {M : Mem} (C : Cx c code 4 RL g l room_1) (Lc : Lx c g b L xs) (hP : ∀ (v3 : Int32) (M : Mem), P (v3, M) → X c KL 18 [(0, .ref b), (1, .ref (g.2.2.2 + 0)), (2, .ref (g.2.2.2 + 135)), (3, .int v3)] [] (stat M)) (hw : w_law_16 L xs P v3 M) : X c KL 1030 [(0, .ref b), (1, .ref (g.2.2.2 + 0)), (2, .ref (g.2.2.2 + 135)), (3, .int v3)] [] (stat M) := by
  unfold w_law_16 at hw
  refine x_aload_n C dL_law_1030 rfl rfl ?_
  refine x_aload_n C dL_law_1031 rfl rfl ?_
  refine x_iload_n C dL_law_1032 rfl rfl ?_
  refine x_iconst (v := (1 : Int32)) C dL_law_1033 (by decide) ?_
  refine x_iadd C dL_law_1034 ?_
  obtain ⟨h195, hw⟩ := hw
  refine l_sld C Lc h195 dL_law_1035 ?_
  refine l_callVI s0 rfl C (ok_X11_odds hw) mv_L_87 rfl rfl ⟨Nat.le_of_ble_eq_true rfl, Nat.le_of_ble_eq_true rfl⟩ (Nat.le_of_ble_eq_true rfl) ⟨Nat.le_of_ble_eq_true rfl, Nat.le_of_ble_eq_true rfl⟩ dL_law_1036 (fun r197 M196 hw => ?_)
  refine x_aload_n C dL_law_1039 rfl rfl ?_
  refine x_aload_n C dL_law_1040 rfl rfl ?_
  refine x_iload_n C dL_law_1041 rfl rfl ?_
  refine x_iconst (v := (1 : Int32)) C dL_law_1042 (by decide) ?_
  refine x_iadd C dL_law_1043 ?_
  obtain ⟨h198, hw⟩ := hw
  refine l_sld C Lc h198 dL_law_1044 ?_
  refine l_callVI s135 rfl C (ok_X12_odds hw) mv_L_90 rfl rfl ⟨Nat.le_of_ble_eq_true rfl, Nat.le_of_ble_eq_true rfl⟩ (Nat.le_of_ble_eq_true rfl) ⟨Nat.le_of_ble_eq_true rfl, Nat.le_of_ble_eq_true rfl⟩ dL_law_1045 (fun r200 M199 hw => ?_)
  obtain ⟨h201, hw⟩ := hw
  refine x_icmp_eq (tgt := 1781) C dL_law_1048 (by decide) (fun _ => ?_) (fun z => absurd h201 z)
  exact ok_law_end C Lc hP hw
def w_law_17 (L : Nat) (xs : Nat → Int32) (P : Int32 × Mem → Prop) (v3 : Int32) (M : Mem) : Prop := vp_in (v3 + (1 : Int32)) L ∧ w_X11_look (xs ((v3 + (1 : Int32))).toNatClampNeg) M (fun (r204 : Int32) (M203 : Mem) => vp_in (v3 + (1 : Int32)) L ∧ w_X12_look (xs ((v3 + (1 : Int32))).toNatClampNeg) M203 (fun (r207 : Int32) (M206 : Mem) => r204 = r207 ∧ P (v3 + 8, M206)))
set_option maxRecDepth 100000 in
set_option maxHeartbeats 8000000 in
theorem ok_law_17 {c : CtxT} {g : Gl} {l : Launch} {b L : Nat} {xs : Nat → Int32} {P : Int32 × Mem → Prop} {v3 : Int32} {M : Mem} (C : Cx c code 4 RL g l room_1) (Lc : Lx c g b L xs) (hP : ∀ (v3 : Int32) (M : Mem), P (v3, M) → X c KL 18 [(0, .ref b), (1, .ref (g.2.2.2 + 0)), (2, .ref (g.2.2.2 + 135)), (3, .int v3)] [] (stat M)) (hw : w_law_17 L xs P v3 M) : X c KL 1053 [(0, .ref b), (1, .ref (g.2.2.2 + 0)), (2, .ref (g.2.2.2 + 135)), (3, .int v3)] [] (stat M) := by
  unfold w_law_17 at hw
  refine x_aload_n C dL_law_1053 rfl rfl ?_
  refine x_aload_n C dL_law_1054 rfl rfl ?_
  refine x_iload_n C dL_law_1055 rfl rfl ?_
  refine x_iconst (v := (1 : Int32)) C dL_law_1056 (by decide) ?_
  refine x_iadd C dL_law_1057 ?_
  obtain ⟨h202, hw⟩ := hw
  refine l_sld C Lc h202 dL_law_1058 ?_
  refine l_callVI s0 rfl C (ok_X11_look hw) mv_L_91 rfl rfl ⟨Nat.le_of_ble_eq_true rfl, Nat.le_of_ble_eq_true rfl⟩ (Nat.le_of_ble_eq_true rfl) ⟨Nat.le_of_ble_eq_true rfl, Nat.le_of_ble_eq_true rfl⟩ dL_law_1059 (fun r204 M203 hw => ?_)
  refine x_aload_n C dL_law_1062 rfl rfl ?_
  refine x_aload_n C dL_law_1063 rfl rfl ?_
  refine x_iload_n C dL_law_1064 rfl rfl ?_
  refine x_iconst (v := (1 : Int32)) C dL_law_1065 (by decide) ?_
  refine x_iadd C dL_law_1066 ?_
  obtain ⟨h205, hw⟩ := hw
  refine l_sld C Lc h205 dL_law_1067 ?_
  refine l_callVI s135 rfl C (ok_X12_look hw) mv_L_94 rfl rfl ⟨Nat.le_of_ble_eq_true rfl, Nat.le_of_ble_eq_true rfl⟩ (Nat.le_of_ble_eq_true rfl) ⟨Nat.le_of_ble_eq_true rfl, Nat.le_of_ble_eq_true rfl⟩ dL_law_1068 (fun r207 M206 hw => ?_)
  obtain ⟨h208, hw⟩ := hw
  refine x_icmp_eq (tgt := 1781) C dL_law_1071 (by decide) (fun _ => ?_) (fun z => absurd h208 z)
  exact ok_law_end C Lc hP hw
def w_law_18 (L : Nat) (xs : Nat → Int32) (P : Int32 × Mem → Prop) (v3 : Int32) (M : Mem) : Prop := vp_in (v3 + (1 : Int32)) L ∧ vp_in (v3 + (2 : Int32)) L ∧ w_X11_sure (xs ((v3 + (1 : Int32))).toNatClampNeg) (xs ((v3 + (2 : Int32))).toNatClampNeg) M (fun (r212 : Int32) (M211 : Mem) => vp_in (v3 + (1 : Int32)) L ∧ vp_in (v3 + (2 : Int32)) L ∧ w_X12_sure (xs ((v3 + (1 : Int32))).toNatClampNeg) (xs ((v3 + (2 : Int32))).toNatClampNeg) M211 (fun (r216 : Int32) (M215 : Mem) => r212 = r216 ∧ P (v3 + 8, M215)))
set_option maxRecDepth 100000 in
set_option maxHeartbeats 8000000 in
theorem ok_law_18 {c : CtxT} {g : Gl} {l : Launch} {b L : Nat} {xs : Nat → Int32} {P : Int32 × Mem → Prop} {v3 : Int32} {M : Mem} (C : Cx c code 4 RL g l room_1) (Lc : Lx c g b L xs) (hP : ∀ (v3 : Int32) (M : Mem), P (v3, M) → X c KL 18 [(0, .ref b), (1, .ref (g.2.2.2 + 0)), (2, .ref (g.2.2.2 + 135)), (3, .int v3)] [] (stat M)) (hw : w_law_18 L xs P v3 M) : X c KL 1076 [(0, .ref b), (1, .ref (g.2.2.2 + 0)), (2, .ref (g.2.2.2 + 135)), (3, .int v3)] [] (stat M) := by
  unfold w_law_18 at hw
  refine x_aload_n C dL_law_1076 rfl rfl ?_
  refine x_aload_n C dL_law_1077 rfl rfl ?_
  refine x_iload_n C dL_law_1078 rfl rfl ?_
  refine x_iconst (v := (1 : Int32)) C dL_law_1079 (by decide) ?_
  refine x_iadd C dL_law_1080 ?_
  obtain ⟨h209, hw⟩ := hw
  refine l_sld C Lc h209 dL_law_1081 ?_
  refine x_aload_n C dL_law_1082 rfl rfl ?_
  refine x_iload_n C dL_law_1083 rfl rfl ?_
  refine x_iconst (v := (2 : Int32)) C dL_law_1084 (by decide) ?_
  refine x_iadd C dL_law_1085 ?_
  obtain ⟨h210, hw⟩ := hw
  refine l_sld C Lc h210 dL_law_1086 ?_
  refine l_callVI s0 rfl C (ok_X11_sure hw) mv_L_95 rfl rfl ⟨Nat.le_of_ble_eq_true rfl, Nat.le_of_ble_eq_true rfl⟩ (Nat.le_of_ble_eq_true rfl) ⟨Nat.le_of_ble_eq_true rfl, Nat.le_of_ble_eq_true rfl⟩ dL_law_1087 (fun r212 M211 hw => ?_)
  refine x_aload_n C dL_law_1090 rfl rfl ?_
  refine x_aload_n C dL_law_1091 rfl rfl ?_
  refine x_iload_n C dL_law_1092 rfl rfl ?_
  refine x_iconst (v := (1 : Int32)) C dL_law_1093 (by decide) ?_
  refine x_iadd C dL_law_1094 ?_
  obtain ⟨h213, hw⟩ := hw
  refine l_sld C Lc h213 dL_law_1095 ?_
  refine x_aload_n C dL_law_1096 rfl rfl ?_
  refine x_iload_n C dL_law_1097 rfl rfl ?_
  refine x_iconst (v := (2 : Int32)) C dL_law_1098 (by decide) ?_
  refine x_iadd C dL_law_1099 ?_
  obtain ⟨h214, hw⟩ := hw
  refine l_sld C Lc h214 dL_law_1100 ?_
  refine l_callVI s135 rfl C (ok_X12_sure hw) mv_L_98 rfl rfl ⟨Nat.le_of_ble_eq_true rfl, Nat.le_of_ble_eq_true rfl⟩ (Nat.le_of_ble_eq_true rfl) ⟨Nat.le_of_ble_eq_true rfl, Nat.le_of_ble_eq_true rfl⟩ dL_law_1101 (fun r216 M215 hw => ?_)
  obtain ⟨h217, hw⟩ := hw
  refine x_icmp_eq (tgt := 1781) C dL_law_1104 (by decide) (fun _ => ?_) (fun z => absurd h217 z)
  exact ok_law_end C Lc hP hw
def w_law_19 (L : Nat) (xs : Nat → Int32) (P : Int32 × Mem → Prop) (v3 : Int32) (M : Mem) : Prop := w_X11_answer M (fun (r219 : Int32) (M218 : Mem) => w_X12_answer M218 (fun (r221 : Int32) (M220 : Mem) => r219 = r221 ∧ P (v3 + 8, M220)))
set_option maxRecDepth 100000 in
set_option maxHeartbeats 8000000 in
theorem ok_law_19 {c : CtxT} {g : Gl} {l : Launch} {b L : Nat} {xs : Nat → Int32} {P : Int32 × Mem → Prop} {v3 : Int32} {M : Mem} (C : Cx c code 4 RL g l room_1) (Lc : Lx c g b L xs) (hP : ∀ (v3 : Int32) (M : Mem), P (v3, M) → X c KL 18 [(0, .ref b), (1, .ref (g.2.2.2 + 0)), (2, .ref (g.2.2.2 + 135)), (3, .int v3)] [] (stat M)) (hw : w_law_19 L xs P v3 M) : X c KL 1109 [(0, .ref b), (1, .ref (g.2.2.2 + 0)), (2, .ref (g.2.2.2 + 135)), (3, .int v3)] [] (stat M) := by
  unfold w_law_19 at hw
  refine x_aload_n C dL_law_1109 rfl rfl ?_
  refine l_callVI s0 rfl C (ok_X11_answer hw) mv_L_99 rfl rfl ⟨Nat.le_of_ble_eq_true rfl, Nat.le_of_ble_eq_true rfl⟩ (Nat.le_of_ble_eq_true rfl) ⟨Nat.le_of_ble_eq_true rfl, Nat.le_of_ble_eq_true rfl⟩ dL_law_1110 (fun r219 M218 hw => ?_)
  refine x_aload_n C dL_law_1113 rfl rfl ?_
  refine l_callVI s135 rfl C (ok_X12_answer hw) mv_L_102 rfl rfl ⟨Nat.le_of_ble_eq_true rfl, Nat.le_of_ble_eq_true rfl⟩ (Nat.le_of_ble_eq_true rfl) ⟨Nat.le_of_ble_eq_true rfl, Nat.le_of_ble_eq_true rfl⟩ dL_law_1114 (fun r221 M220 hw => ?_)
  obtain ⟨h222, hw⟩ := hw
  refine x_icmp_eq (tgt := 1781) C dL_law_1117 (by decide) (fun _ => ?_) (fun z => absurd h222 z)
  exact ok_law_end C Lc hP hw
def w_law_20 (L : Nat) (xs : Nat → Int32) (P : Int32 × Mem → Prop) (v3 : Int32) (M : Mem) : Prop := vp_in (v3 + (1 : Int32)) L ∧ vp_in (v3 + (2 : Int32)) L ∧ vp_in (v3 + (3 : Int32)) L ∧ vp_in (v3 + (4 : Int32)) L ∧ vp_in (v3 + (5 : Int32)) L ∧ vp_in (v3 + (6 : Int32)) L ∧ w_X11_step (xs ((v3 + (1 : Int32))).toNatClampNeg) (xs ((v3 + (2 : Int32))).toNatClampNeg) (xs ((v3 + (3 : Int32))).toNatClampNeg) (xs ((v3 + (4 : Int32))).toNatClampNeg) (xs ((v3 + (5 : Int32))).toNatClampNeg) (xs ((v3 + (6 : Int32))).toNatClampNeg) M (fun (r230 : Int32) (M229 : Mem) => vp_in (v3 + (1 : Int32)) L ∧ vp_in (v3 + (2 : Int32)) L ∧ vp_in (v3 + (3 : Int32)) L ∧ vp_in (v3 + (4 : Int32)) L ∧ vp_in (v3 + (5 : Int32)) L ∧ vp_in (v3 + (6 : Int32)) L ∧ w_X12_step_ (xs ((v3 + (1 : Int32))).toNatClampNeg) (xs ((v3 + (2 : Int32))).toNatClampNeg) (xs ((v3 + (3 : Int32))).toNatClampNeg) (xs ((v3 + (4 : Int32))).toNatClampNeg) (xs ((v3 + (5 : Int32))).toNatClampNeg) (xs ((v3 + (6 : Int32))).toNatClampNeg) M229 (fun (r238 : Int32) (M237 : Mem) => r230 = r238 ∧ P (v3 + 8, M237)))
set_option maxRecDepth 100000 in
set_option maxHeartbeats 8000000 in
theorem ok_law_20 {c : CtxT} {g : Gl} {l : Launch} {b L : Nat} {xs : Nat → Int32} {P : Int32 × Mem → Prop} {v3 : Int32} {M : Mem} (C : Cx c code 4 RL g l room_1) (Lc : Lx c g b L xs) (hP : ∀ (v3 : Int32) (M : Mem), P (v3, M) → X c KL 18 [(0, .ref b), (1, .ref (g.2.2.2 + 0)), (2, .ref (g.2.2.2 + 135)), (3, .int v3)] [] (stat M)) (hw : w_law_20 L xs P v3 M) : X c KL 1122 [(0, .ref b), (1, .ref (g.2.2.2 + 0)), (2, .ref (g.2.2.2 + 135)), (3, .int v3)] [] (stat M) := by
  unfold w_law_20 at hw
  refine x_aload_n C dL_law_1122 rfl rfl ?_
  refine x_aload_n C dL_law_1123 rfl rfl ?_
  refine x_iload_n C dL_law_1124 rfl rfl ?_
  refine x_iconst (v := (1 : Int32)) C dL_law_1125 (by decide) ?_
  refine x_iadd C dL_law_1126 ?_
  obtain ⟨h223, hw⟩ := hw
  refine l_sld C Lc h223 dL_law_1127 ?_
  refine x_aload_n C dL_law_1128 rfl rfl ?_
  refine x_iload_n C dL_law_1129 rfl rfl ?_
  refine x_iconst (v := (2 : Int32)) C dL_law_1130 (by decide) ?_
  refine x_iadd C dL_law_1131 ?_
  obtain ⟨h224, hw⟩ := hw
  refine l_sld C Lc h224 dL_law_1132 ?_
  refine x_aload_n C dL_law_1133 rfl rfl ?_
  refine x_iload_n C dL_law_1134 rfl rfl ?_
  refine x_iconst (v := (3 : Int32)) C dL_law_1135 (by decide) ?_
  refine x_iadd C dL_law_1136 ?_
  obtain ⟨h225, hw⟩ := hw
  refine l_sld C Lc h225 dL_law_1137 ?_
  refine x_aload_n C dL_law_1138 rfl rfl ?_
  refine x_iload_n C dL_law_1139 rfl rfl ?_
  refine x_iconst (v := (4 : Int32)) C dL_law_1140 (by decide) ?_
  refine x_iadd C dL_law_1141 ?_
  obtain ⟨h226, hw⟩ := hw
  refine l_sld C Lc h226 dL_law_1142 ?_
  refine x_aload_n C dL_law_1143 rfl rfl ?_
  refine x_iload_n C dL_law_1144 rfl rfl ?_
  refine x_iconst (v := (5 : Int32)) C dL_law_1145 (by decide) ?_
  refine x_iadd C dL_law_1146 ?_
  obtain ⟨h227, hw⟩ := hw
  refine l_sld C Lc h227 dL_law_1147 ?_
  refine x_aload_n C dL_law_1148 rfl rfl ?_
  refine x_iload_n C dL_law_1149 rfl rfl ?_
  refine x_bipush (v := (6 : Int32)) C dL_law_1150 (by decide) ?_
  refine x_iadd C dL_law_1152 ?_
  obtain ⟨h228, hw⟩ := hw
  refine l_sld C Lc h228 dL_law_1153 ?_
  refine l_callVI s0 rfl C (ok_X11_step hw) mv_L_103 rfl rfl ⟨Nat.le_of_ble_eq_true rfl, Nat.le_of_ble_eq_true rfl⟩ (Nat.le_of_ble_eq_true rfl) ⟨Nat.le_of_ble_eq_true rfl, Nat.le_of_ble_eq_true rfl⟩ dL_law_1154 (fun r230 M229 hw => ?_)
  refine x_aload_n C dL_law_1157 rfl rfl ?_
  refine x_aload_n C dL_law_1158 rfl rfl ?_
  refine x_iload_n C dL_law_1159 rfl rfl ?_
  refine x_iconst (v := (1 : Int32)) C dL_law_1160 (by decide) ?_
  refine x_iadd C dL_law_1161 ?_
  obtain ⟨h231, hw⟩ := hw
  refine l_sld C Lc h231 dL_law_1162 ?_
  refine x_aload_n C dL_law_1163 rfl rfl ?_
  refine x_iload_n C dL_law_1164 rfl rfl ?_
  refine x_iconst (v := (2 : Int32)) C dL_law_1165 (by decide) ?_
  refine x_iadd C dL_law_1166 ?_
  obtain ⟨h232, hw⟩ := hw
  refine l_sld C Lc h232 dL_law_1167 ?_
  refine x_aload_n C dL_law_1168 rfl rfl ?_
  refine x_iload_n C dL_law_1169 rfl rfl ?_
  refine x_iconst (v := (3 : Int32)) C dL_law_1170 (by decide) ?_
  refine x_iadd C dL_law_1171 ?_
  obtain ⟨h233, hw⟩ := hw
  refine l_sld C Lc h233 dL_law_1172 ?_
  refine x_aload_n C dL_law_1173 rfl rfl ?_
  refine x_iload_n C dL_law_1174 rfl rfl ?_
  refine x_iconst (v := (4 : Int32)) C dL_law_1175 (by decide) ?_
  refine x_iadd C dL_law_1176 ?_
  obtain ⟨h234, hw⟩ := hw
  refine l_sld C Lc h234 dL_law_1177 ?_
  refine x_aload_n C dL_law_1178 rfl rfl ?_
  refine x_iload_n C dL_law_1179 rfl rfl ?_
  refine x_iconst (v := (5 : Int32)) C dL_law_1180 (by decide) ?_
  refine x_iadd C dL_law_1181 ?_
  obtain ⟨h235, hw⟩ := hw
  refine l_sld C Lc h235 dL_law_1182 ?_
  refine x_aload_n C dL_law_1183 rfl rfl ?_
  refine x_iload_n C dL_law_1184 rfl rfl ?_
  refine x_bipush (v := (6 : Int32)) C dL_law_1185 (by decide) ?_
  refine x_iadd C dL_law_1187 ?_
  obtain ⟨h236, hw⟩ := hw
  refine l_sld C Lc h236 dL_law_1188 ?_
  refine l_callVI s135 rfl C (ok_X12_step_ hw) mv_L_106 rfl rfl ⟨Nat.le_of_ble_eq_true rfl, Nat.le_of_ble_eq_true rfl⟩ (Nat.le_of_ble_eq_true rfl) ⟨Nat.le_of_ble_eq_true rfl, Nat.le_of_ble_eq_true rfl⟩ dL_law_1189 (fun r238 M237 hw => ?_)
  obtain ⟨h239, hw⟩ := hw
  refine x_icmp_eq (tgt := 1781) C dL_law_1192 (by decide) (fun _ => ?_) (fun z => absurd h239 z)
  exact ok_law_end C Lc hP hw
def w_law_21 (L : Nat) (xs : Nat → Int32) (P : Int32 × Mem → Prop) (v3 : Int32) (M : Mem) : Prop := vp_in (v3 + (1 : Int32)) L ∧ vp_in (v3 + (2 : Int32)) L ∧ vp_in (v3 + (3 : Int32)) L ∧ vp_in (v3 + (4 : Int32)) L ∧ vp_in (v3 + (5 : Int32)) L ∧ vp_in (v3 + (6 : Int32)) L ∧ w_X11_back (xs ((v3 + (1 : Int32))).toNatClampNeg) (xs ((v3 + (2 : Int32))).toNatClampNeg) (xs ((v3 + (3 : Int32))).toNatClampNeg) (xs ((v3 + (4 : Int32))).toNatClampNeg) (xs ((v3 + (5 : Int32))).toNatClampNeg) (xs ((v3 + (6 : Int32))).toNatClampNeg) M (fun (r247 : Int32) (M246 : Mem) => vp_in (v3 + (1 : Int32)) L ∧ vp_in (v3 + (2 : Int32)) L ∧ vp_in (v3 + (3 : Int32)) L ∧ vp_in (v3 + (4 : Int32)) L ∧ vp_in (v3 + (5 : Int32)) L ∧ vp_in (v3 + (6 : Int32)) L ∧ w_X12_back (xs ((v3 + (1 : Int32))).toNatClampNeg) (xs ((v3 + (2 : Int32))).toNatClampNeg) (xs ((v3 + (3 : Int32))).toNatClampNeg) (xs ((v3 + (4 : Int32))).toNatClampNeg) (xs ((v3 + (5 : Int32))).toNatClampNeg) (xs ((v3 + (6 : Int32))).toNatClampNeg) M246 (fun (r255 : Int32) (M254 : Mem) => r247 = r255 ∧ P (v3 + 8, M254)))
set_option maxRecDepth 100000 in
set_option maxHeartbeats 8000000 in
theorem ok_law_21 {c : CtxT} {g : Gl} {l : Launch} {b L : Nat} {xs : Nat → Int32} {P : Int32 × Mem → Prop} {v3 : Int32} {M : Mem} (C : Cx c code 4 RL g l room_1) (Lc : Lx c g b L xs) (hP : ∀ (v3 : Int32) (M : Mem), P (v3, M) → X c KL 18 [(0, .ref b), (1, .ref (g.2.2.2 + 0)), (2, .ref (g.2.2.2 + 135)), (3, .int v3)] [] (stat M)) (hw : w_law_21 L xs P v3 M) : X c KL 1197 [(0, .ref b), (1, .ref (g.2.2.2 + 0)), (2, .ref (g.2.2.2 + 135)), (3, .int v3)] [] (stat M) := by
  unfold w_law_21 at hw
  refine x_aload_n C dL_law_1197 rfl rfl ?_
  refine x_aload_n C dL_law_1198 rfl rfl ?_
  refine x_iload_n C dL_law_1199 rfl rfl ?_
  refine x_iconst (v := (1 : Int32)) C dL_law_1200 (by decide) ?_
  refine x_iadd C dL_law_1201 ?_
  obtain ⟨h240, hw⟩ := hw
  refine l_sld C Lc h240 dL_law_1202 ?_
  refine x_aload_n C dL_law_1203 rfl rfl ?_
  refine x_iload_n C dL_law_1204 rfl rfl ?_
  refine x_iconst (v := (2 : Int32)) C dL_law_1205 (by decide) ?_
  refine x_iadd C dL_law_1206 ?_
  obtain ⟨h241, hw⟩ := hw
  refine l_sld C Lc h241 dL_law_1207 ?_
  refine x_aload_n C dL_law_1208 rfl rfl ?_
  refine x_iload_n C dL_law_1209 rfl rfl ?_
  refine x_iconst (v := (3 : Int32)) C dL_law_1210 (by decide) ?_
  refine x_iadd C dL_law_1211 ?_
  obtain ⟨h242, hw⟩ := hw
  refine l_sld C Lc h242 dL_law_1212 ?_
  refine x_aload_n C dL_law_1213 rfl rfl ?_
  refine x_iload_n C dL_law_1214 rfl rfl ?_
  refine x_iconst (v := (4 : Int32)) C dL_law_1215 (by decide) ?_
  refine x_iadd C dL_law_1216 ?_
  obtain ⟨h243, hw⟩ := hw
  refine l_sld C Lc h243 dL_law_1217 ?_
  refine x_aload_n C dL_law_1218 rfl rfl ?_
  refine x_iload_n C dL_law_1219 rfl rfl ?_
  refine x_iconst (v := (5 : Int32)) C dL_law_1220 (by decide) ?_
  refine x_iadd C dL_law_1221 ?_
  obtain ⟨h244, hw⟩ := hw
  refine l_sld C Lc h244 dL_law_1222 ?_
  refine x_aload_n C dL_law_1223 rfl rfl ?_
  refine x_iload_n C dL_law_1224 rfl rfl ?_
  refine x_bipush (v := (6 : Int32)) C dL_law_1225 (by decide) ?_
  refine x_iadd C dL_law_1227 ?_
  obtain ⟨h245, hw⟩ := hw
  refine l_sld C Lc h245 dL_law_1228 ?_
  refine l_callVI s0 rfl C (ok_X11_back hw) mv_L_107 rfl rfl ⟨Nat.le_of_ble_eq_true rfl, Nat.le_of_ble_eq_true rfl⟩ (Nat.le_of_ble_eq_true rfl) ⟨Nat.le_of_ble_eq_true rfl, Nat.le_of_ble_eq_true rfl⟩ dL_law_1229 (fun r247 M246 hw => ?_)
  refine x_aload_n C dL_law_1232 rfl rfl ?_
  refine x_aload_n C dL_law_1233 rfl rfl ?_
  refine x_iload_n C dL_law_1234 rfl rfl ?_
  refine x_iconst (v := (1 : Int32)) C dL_law_1235 (by decide) ?_
  refine x_iadd C dL_law_1236 ?_
  obtain ⟨h248, hw⟩ := hw
  refine l_sld C Lc h248 dL_law_1237 ?_
  refine x_aload_n C dL_law_1238 rfl rfl ?_
  refine x_iload_n C dL_law_1239 rfl rfl ?_
  refine x_iconst (v := (2 : Int32)) C dL_law_1240 (by decide) ?_
  refine x_iadd C dL_law_1241 ?_
  obtain ⟨h249, hw⟩ := hw
  refine l_sld C Lc h249 dL_law_1242 ?_
  refine x_aload_n C dL_law_1243 rfl rfl ?_
  refine x_iload_n C dL_law_1244 rfl rfl ?_
  refine x_iconst (v := (3 : Int32)) C dL_law_1245 (by decide) ?_
  refine x_iadd C dL_law_1246 ?_
  obtain ⟨h250, hw⟩ := hw
  refine l_sld C Lc h250 dL_law_1247 ?_
  refine x_aload_n C dL_law_1248 rfl rfl ?_
  refine x_iload_n C dL_law_1249 rfl rfl ?_
  refine x_iconst (v := (4 : Int32)) C dL_law_1250 (by decide) ?_
  refine x_iadd C dL_law_1251 ?_
  obtain ⟨h251, hw⟩ := hw
  refine l_sld C Lc h251 dL_law_1252 ?_
  refine x_aload_n C dL_law_1253 rfl rfl ?_
  refine x_iload_n C dL_law_1254 rfl rfl ?_
  refine x_iconst (v := (5 : Int32)) C dL_law_1255 (by decide) ?_
  refine x_iadd C dL_law_1256 ?_
  obtain ⟨h252, hw⟩ := hw
  refine l_sld C Lc h252 dL_law_1257 ?_
  refine x_aload_n C dL_law_1258 rfl rfl ?_
  refine x_iload_n C dL_law_1259 rfl rfl ?_
  refine x_bipush (v := (6 : Int32)) C dL_law_1260 (by decide) ?_
  refine x_iadd C dL_law_1262 ?_
  obtain ⟨h253, hw⟩ := hw
  refine l_sld C Lc h253 dL_law_1263 ?_
  refine l_callVI s135 rfl C (ok_X12_back hw) mv_L_110 rfl rfl ⟨Nat.le_of_ble_eq_true rfl, Nat.le_of_ble_eq_true rfl⟩ (Nat.le_of_ble_eq_true rfl) ⟨Nat.le_of_ble_eq_true rfl, Nat.le_of_ble_eq_true rfl⟩ dL_law_1264 (fun r255 M254 hw => ?_)
  obtain ⟨h256, hw⟩ := hw
  refine x_icmp_eq (tgt := 1781) C dL_law_1267 (by decide) (fun _ => ?_) (fun z => absurd h256 z)
  exact ok_law_end C Lc hP hw
def w_law_22 (L : Nat) (xs : Nat → Int32) (P : Int32 × Mem → Prop) (v3 : Int32) (M : Mem) : Prop := vp_in (v3 + (1 : Int32)) L ∧ vp_in (v3 + (2 : Int32)) L ∧ w_X11_with (xs ((v3 + (1 : Int32))).toNatClampNeg) (xs ((v3 + (2 : Int32))).toNatClampNeg) M (fun (r260 : Int64) (M259 : Mem) => vp_in (v3 + (1 : Int32)) L ∧ vp_in (v3 + (2 : Int32)) L ∧ w_X12_with (xs ((v3 + (1 : Int32))).toNatClampNeg) (xs ((v3 + (2 : Int32))).toNatClampNeg) M259 (fun (r264 : Int64) (M263 : Mem) => r260 = r264 ∧ P (v3 + 8, M263)))
set_option maxRecDepth 100000 in
set_option maxHeartbeats 8000000 in
theorem ok_law_22 {c : CtxT} {g : Gl} {l : Launch} {b L : Nat} {xs : Nat → Int32} {P : Int32 × Mem → Prop} {v3 : Int32} {M : Mem} (C : Cx c code 4 RL g l room_1) (Lc : Lx c g b L xs) (hP : ∀ (v3 : Int32) (M : Mem), P (v3, M) → X c KL 18 [(0, .ref b), (1, .ref (g.2.2.2 + 0)), (2, .ref (g.2.2.2 + 135)), (3, .int v3)] [] (stat M)) (hw : w_law_22 L xs P v3 M) : X c KL 1272 [(0, .ref b), (1, .ref (g.2.2.2 + 0)), (2, .ref (g.2.2.2 + 135)), (3, .int v3)] [] (stat M) := by
  unfold w_law_22 at hw
  refine x_aload_n C dL_law_1272 rfl rfl ?_
  refine x_aload_n C dL_law_1273 rfl rfl ?_
  refine x_iload_n C dL_law_1274 rfl rfl ?_
  refine x_iconst (v := (1 : Int32)) C dL_law_1275 (by decide) ?_
  refine x_iadd C dL_law_1276 ?_
  obtain ⟨h257, hw⟩ := hw
  refine l_sld C Lc h257 dL_law_1277 ?_
  refine x_aload_n C dL_law_1278 rfl rfl ?_
  refine x_iload_n C dL_law_1279 rfl rfl ?_
  refine x_iconst (v := (2 : Int32)) C dL_law_1280 (by decide) ?_
  refine x_iadd C dL_law_1281 ?_
  obtain ⟨h258, hw⟩ := hw
  refine l_sld C Lc h258 dL_law_1282 ?_
  refine l_callVJ s0 rfl C (ok_X11_with hw) mv_L_111 rfl rfl ⟨Nat.le_of_ble_eq_true rfl, Nat.le_of_ble_eq_true rfl⟩ (Nat.le_of_ble_eq_true rfl) ⟨Nat.le_of_ble_eq_true rfl, Nat.le_of_ble_eq_true rfl⟩ dL_law_1283 (fun r260 M259 hw => ?_)
  refine x_aload_n C dL_law_1286 rfl rfl ?_
  refine x_aload_n C dL_law_1287 rfl rfl ?_
  refine x_iload_n C dL_law_1288 rfl rfl ?_
  refine x_iconst (v := (1 : Int32)) C dL_law_1289 (by decide) ?_
  refine x_iadd C dL_law_1290 ?_
  obtain ⟨h261, hw⟩ := hw
  refine l_sld C Lc h261 dL_law_1291 ?_
  refine x_aload_n C dL_law_1292 rfl rfl ?_
  refine x_iload_n C dL_law_1293 rfl rfl ?_
  refine x_iconst (v := (2 : Int32)) C dL_law_1294 (by decide) ?_
  refine x_iadd C dL_law_1295 ?_
  obtain ⟨h262, hw⟩ := hw
  refine l_sld C Lc h262 dL_law_1296 ?_
  refine l_callVJ s135 rfl C (ok_X12_with hw) mv_L_115 rfl rfl ⟨Nat.le_of_ble_eq_true rfl, Nat.le_of_ble_eq_true rfl⟩ (Nat.le_of_ble_eq_true rfl) ⟨Nat.le_of_ble_eq_true rfl, Nat.le_of_ble_eq_true rfl⟩ dL_law_1297 (fun r264 M263 hw => ?_)
  obtain ⟨h265, hw⟩ := hw
  refine x_lc_eq (tgt := 1781) C dL_law_1300 dL_law_1301 (by decide) (fun _ => ?_) (fun z => absurd h265 z)
  exact ok_law_end C Lc hP hw
def w_law_23 (L : Nat) (xs : Nat → Int32) (P : Int32 × Mem → Prop) (v3 : Int32) (M : Mem) : Prop := vp_in (v3 + (1 : Int32)) L ∧ vp_in (v3 + (2 : Int32)) L ∧ w_X11_keep (xs ((v3 + (1 : Int32))).toNatClampNeg) (b01 (xs ((v3 + (2 : Int32))).toNatClampNeg)) M (fun (r269 : Int32) (M268 : Mem) => vp_in (v3 + (1 : Int32)) L ∧ vp_in (v3 + (2 : Int32)) L ∧ w_X12_keep (xs ((v3 + (1 : Int32))).toNatClampNeg) (b01 (xs ((v3 + (2 : Int32))).toNatClampNeg)) M268 (fun (r273 : Int32) (M272 : Mem) => r269 = r273 ∧ P (v3 + 8, M272)))
set_option maxRecDepth 100000 in
set_option maxHeartbeats 8000000 in
theorem ok_law_23 {c : CtxT} {g : Gl} {l : Launch} {b L : Nat} {xs : Nat → Int32} {P : Int32 × Mem → Prop} {v3 : Int32} {M : Mem} (C : Cx c code 4 RL g l room_1) (Lc : Lx c g b L xs) (hP : ∀ (v3 : Int32) (M : Mem), P (v3, M) → X c KL 18 [(0, .ref b), (1, .ref (g.2.2.2 + 0)), (2, .ref (g.2.2.2 + 135)), (3, .int v3)] [] (stat M)) (hw : w_law_23 L xs P v3 M) : X c KL 1306 [(0, .ref b), (1, .ref (g.2.2.2 + 0)), (2, .ref (g.2.2.2 + 135)), (3, .int v3)] [] (stat M) := by
  unfold w_law_23 at hw
  refine x_aload_n C dL_law_1306 rfl rfl ?_
  refine x_aload_n C dL_law_1307 rfl rfl ?_
  refine x_iload_n C dL_law_1308 rfl rfl ?_
  refine x_iconst (v := (1 : Int32)) C dL_law_1309 (by decide) ?_
  refine x_iadd C dL_law_1310 ?_
  obtain ⟨h266, hw⟩ := hw
  refine l_sld C Lc h266 dL_law_1311 ?_
  refine x_aload_n C dL_law_1312 rfl rfl ?_
  refine x_iload_n C dL_law_1313 rfl rfl ?_
  refine x_iconst (v := (2 : Int32)) C dL_law_1314 (by decide) ?_
  refine x_iadd C dL_law_1315 ?_
  obtain ⟨h267, hw⟩ := hw
  refine l_sld C Lc h267 dL_law_1316 ?_
  refine l_b01 (tgt1 := 1324) (tgt2 := 1325) C dL_law_1317 (by decide) dL_law_1320 dL_law_1321 (by decide) dL_law_1324 rfl ?_
  refine l_callVI s0 rfl C (ok_X11_keep hw) mv_L_116 rfl rfl ⟨Nat.le_of_ble_eq_true rfl, Nat.le_of_ble_eq_true rfl⟩ (Nat.le_of_ble_eq_true rfl) ⟨Nat.le_of_ble_eq_true rfl, Nat.le_of_ble_eq_true rfl⟩ dL_law_1325 (fun r269 M268 hw => ?_)
  refine x_aload_n C dL_law_1328 rfl rfl ?_
  refine x_aload_n C dL_law_1329 rfl rfl ?_
  refine x_iload_n C dL_law_1330 rfl rfl ?_
  refine x_iconst (v := (1 : Int32)) C dL_law_1331 (by decide) ?_
  refine x_iadd C dL_law_1332 ?_
  obtain ⟨h270, hw⟩ := hw
  refine l_sld C Lc h270 dL_law_1333 ?_
  refine x_aload_n C dL_law_1334 rfl rfl ?_
  refine x_iload_n C dL_law_1335 rfl rfl ?_
  refine x_iconst (v := (2 : Int32)) C dL_law_1336 (by decide) ?_
  refine x_iadd C dL_law_1337 ?_
  obtain ⟨h271, hw⟩ := hw
  refine l_sld C Lc h271 dL_law_1338 ?_
  refine l_b01 (tgt1 := 1346) (tgt2 := 1347) C dL_law_1339 (by decide) dL_law_1342 dL_law_1343 (by decide) dL_law_1346 rfl ?_
  refine l_callVI s135 rfl C (ok_X12_keep hw) mv_L_120 rfl rfl ⟨Nat.le_of_ble_eq_true rfl, Nat.le_of_ble_eq_true rfl⟩ (Nat.le_of_ble_eq_true rfl) ⟨Nat.le_of_ble_eq_true rfl, Nat.le_of_ble_eq_true rfl⟩ dL_law_1347 (fun r273 M272 hw => ?_)
  obtain ⟨h274, hw⟩ := hw
  refine x_icmp_eq (tgt := 1781) C dL_law_1350 (by decide) (fun _ => ?_) (fun z => absurd h274 z)
  exact ok_law_end C Lc hP hw
def w_law_24 (L : Nat) (xs : Nat → Int32) (P : Int32 × Mem → Prop) (v3 : Int32) (M : Mem) : Prop := vp_in (v3 + (1 : Int32)) L ∧ vp_in (v3 + (2 : Int32)) L ∧ vp_in (v3 + (3 : Int32)) L ∧ vp_in (v3 + (4 : Int32)) L ∧ vp_in (v3 + (5 : Int32)) L ∧ w_X11_fit (xs ((v3 + (1 : Int32))).toNatClampNeg) (xs ((v3 + (2 : Int32))).toNatClampNeg) (xs ((v3 + (3 : Int32))).toNatClampNeg) (xs ((v3 + (4 : Int32))).toNatClampNeg) (xs ((v3 + (5 : Int32))).toNatClampNeg) M (fun (r281 : Int64) (M280 : Mem) => vp_in (v3 + (1 : Int32)) L ∧ vp_in (v3 + (2 : Int32)) L ∧ vp_in (v3 + (3 : Int32)) L ∧ vp_in (v3 + (4 : Int32)) L ∧ vp_in (v3 + (5 : Int32)) L ∧ w_X12_fit (xs ((v3 + (1 : Int32))).toNatClampNeg) (xs ((v3 + (2 : Int32))).toNatClampNeg) (xs ((v3 + (3 : Int32))).toNatClampNeg) (xs ((v3 + (4 : Int32))).toNatClampNeg) (xs ((v3 + (5 : Int32))).toNatClampNeg) M280 (fun (r288 : Int64) (M287 : Mem) => r281 = r288 ∧ P (v3 + 8, M287)))
set_option maxRecDepth 100000 in
set_option maxHeartbeats 8000000 in
theorem ok_law_24 {c : CtxT} {g : Gl} {l : Launch} {b L : Nat} {xs : Nat → Int32} {P : Int32 × Mem → Prop} {v3 : Int32} {M : Mem} (C : Cx c code 4 RL g l room_1) (Lc : Lx c g b L xs) (hP : ∀ (v3 : Int32) (M : Mem), P (v3, M) → X c KL 18 [(0, .ref b), (1, .ref (g.2.2.2 + 0)), (2, .ref (g.2.2.2 + 135)), (3, .int v3)] [] (stat M)) (hw : w_law_24 L xs P v3 M) : X c KL 1355 [(0, .ref b), (1, .ref (g.2.2.2 + 0)), (2, .ref (g.2.2.2 + 135)), (3, .int v3)] [] (stat M) := by
  unfold w_law_24 at hw
  refine x_aload_n C dL_law_1355 rfl rfl ?_
  refine x_aload_n C dL_law_1356 rfl rfl ?_
  refine x_iload_n C dL_law_1357 rfl rfl ?_
  refine x_iconst (v := (1 : Int32)) C dL_law_1358 (by decide) ?_
  refine x_iadd C dL_law_1359 ?_
  obtain ⟨h275, hw⟩ := hw
  refine l_sld C Lc h275 dL_law_1360 ?_
  refine x_aload_n C dL_law_1361 rfl rfl ?_
  refine x_iload_n C dL_law_1362 rfl rfl ?_
  refine x_iconst (v := (2 : Int32)) C dL_law_1363 (by decide) ?_
  refine x_iadd C dL_law_1364 ?_
  obtain ⟨h276, hw⟩ := hw
  refine l_sld C Lc h276 dL_law_1365 ?_
  refine x_aload_n C dL_law_1366 rfl rfl ?_
  refine x_iload_n C dL_law_1367 rfl rfl ?_
  refine x_iconst (v := (3 : Int32)) C dL_law_1368 (by decide) ?_
  refine x_iadd C dL_law_1369 ?_
  obtain ⟨h277, hw⟩ := hw
  refine l_sld C Lc h277 dL_law_1370 ?_
  refine x_aload_n C dL_law_1371 rfl rfl ?_
  refine x_iload_n C dL_law_1372 rfl rfl ?_
  refine x_iconst (v := (4 : Int32)) C dL_law_1373 (by decide) ?_
  refine x_iadd C dL_law_1374 ?_
  obtain ⟨h278, hw⟩ := hw
  refine l_sld C Lc h278 dL_law_1375 ?_
  refine x_aload_n C dL_law_1376 rfl rfl ?_
  refine x_iload_n C dL_law_1377 rfl rfl ?_
  refine x_iconst (v := (5 : Int32)) C dL_law_1378 (by decide) ?_
  refine x_iadd C dL_law_1379 ?_
  obtain ⟨h279, hw⟩ := hw
  refine l_sld C Lc h279 dL_law_1380 ?_
  refine l_callVJ s0 rfl C (ok_X11_fit hw) mv_L_121 rfl rfl ⟨Nat.le_of_ble_eq_true rfl, Nat.le_of_ble_eq_true rfl⟩ (Nat.le_of_ble_eq_true rfl) ⟨Nat.le_of_ble_eq_true rfl, Nat.le_of_ble_eq_true rfl⟩ dL_law_1381 (fun r281 M280 hw => ?_)
  refine x_aload_n C dL_law_1384 rfl rfl ?_
  refine x_aload_n C dL_law_1385 rfl rfl ?_
  refine x_iload_n C dL_law_1386 rfl rfl ?_
  refine x_iconst (v := (1 : Int32)) C dL_law_1387 (by decide) ?_
  refine x_iadd C dL_law_1388 ?_
  obtain ⟨h282, hw⟩ := hw
  refine l_sld C Lc h282 dL_law_1389 ?_
  refine x_aload_n C dL_law_1390 rfl rfl ?_
  refine x_iload_n C dL_law_1391 rfl rfl ?_
  refine x_iconst (v := (2 : Int32)) C dL_law_1392 (by decide) ?_
  refine x_iadd C dL_law_1393 ?_
  obtain ⟨h283, hw⟩ := hw
  refine l_sld C Lc h283 dL_law_1394 ?_
  refine x_aload_n C dL_law_1395 rfl rfl ?_
  refine x_iload_n C dL_law_1396 rfl rfl ?_
  refine x_iconst (v := (3 : Int32)) C dL_law_1397 (by decide) ?_
  refine x_iadd C dL_law_1398 ?_
  obtain ⟨h284, hw⟩ := hw
  refine l_sld C Lc h284 dL_law_1399 ?_
  refine x_aload_n C dL_law_1400 rfl rfl ?_
  refine x_iload_n C dL_law_1401 rfl rfl ?_
  refine x_iconst (v := (4 : Int32)) C dL_law_1402 (by decide) ?_
  refine x_iadd C dL_law_1403 ?_
  obtain ⟨h285, hw⟩ := hw
  refine l_sld C Lc h285 dL_law_1404 ?_
  refine x_aload_n C dL_law_1405 rfl rfl ?_
  refine x_iload_n C dL_law_1406 rfl rfl ?_
  refine x_iconst (v := (5 : Int32)) C dL_law_1407 (by decide) ?_
  refine x_iadd C dL_law_1408 ?_
  obtain ⟨h286, hw⟩ := hw
  refine l_sld C Lc h286 dL_law_1409 ?_
  refine l_callVJ s135 rfl C (ok_X12_fit hw) mv_L_125 rfl rfl ⟨Nat.le_of_ble_eq_true rfl, Nat.le_of_ble_eq_true rfl⟩ (Nat.le_of_ble_eq_true rfl) ⟨Nat.le_of_ble_eq_true rfl, Nat.le_of_ble_eq_true rfl⟩ dL_law_1410 (fun r288 M287 hw => ?_)
  obtain ⟨h289, hw⟩ := hw
  refine x_lc_eq (tgt := 1781) C dL_law_1413 dL_law_1414 (by decide) (fun _ => ?_) (fun z => absurd h289 z)
  exact ok_law_end C Lc hP hw
def w_law_25 (L : Nat) (xs : Nat → Int32) (P : Int32 × Mem → Prop) (v3 : Int32) (M : Mem) : Prop := vp_in (v3 + (1 : Int32)) L ∧ vp_in (v3 + (2 : Int32)) L ∧ vp_in (v3 + (3 : Int32)) L ∧ vp_in (v3 + (4 : Int32)) L ∧ vp_in (v3 + (5 : Int32)) L ∧ vp_in (v3 + (6 : Int32)) L ∧ vp_in (v3 + (7 : Int32)) L ∧ w_X11_foretell (xs ((v3 + (1 : Int32))).toNatClampNeg) (xs ((v3 + (2 : Int32))).toNatClampNeg) (xs ((v3 + (3 : Int32))).toNatClampNeg) (xs ((v3 + (4 : Int32))).toNatClampNeg) (xs ((v3 + (5 : Int32))).toNatClampNeg) (xs ((v3 + (6 : Int32))).toNatClampNeg) (xs ((v3 + (7 : Int32))).toNatClampNeg) M (fun (r298 : Int64) (M297 : Mem) => vp_in (v3 + (1 : Int32)) L ∧ vp_in (v3 + (2 : Int32)) L ∧ vp_in (v3 + (3 : Int32)) L ∧ vp_in (v3 + (4 : Int32)) L ∧ vp_in (v3 + (5 : Int32)) L ∧ vp_in (v3 + (6 : Int32)) L ∧ vp_in (v3 + (7 : Int32)) L ∧ w_X12_foretell (xs ((v3 + (1 : Int32))).toNatClampNeg) (xs ((v3 + (2 : Int32))).toNatClampNeg) (xs ((v3 + (3 : Int32))).toNatClampNeg) (xs ((v3 + (4 : Int32))).toNatClampNeg) (xs ((v3 + (5 : Int32))).toNatClampNeg) (xs ((v3 + (6 : Int32))).toNatClampNeg) (xs ((v3 + (7 : Int32))).toNatClampNeg) M297 (fun (r307 : Int64) (M306 : Mem) => r298 = r307 ∧ P (v3 + 8, M306)))
set_option maxRecDepth 100000 in
set_option maxHeartbeats 8000000 in
theorem ok_law_25 {c : CtxT} {g : Gl} {l : Launch} {b L : Nat} {xs : Nat → Int32} {P : Int32 × Mem → Prop} {v3 : Int32} {M : Mem} (C : Cx c code 4 RL g l room_1) (Lc : Lx c g b L xs) (hP : ∀ (v3 : Int32) (M : Mem), P (v3, M) → X c KL 18 [(0, .ref b), (1, .ref (g.2.2.2 + 0)), (2, .ref (g.2.2.2 + 135)), (3, .int v3)] [] (stat M)) (hw : w_law_25 L xs P v3 M) : X c KL 1419 [(0, .ref b), (1, .ref (g.2.2.2 + 0)), (2, .ref (g.2.2.2 + 135)), (3, .int v3)] [] (stat M) := by
  unfold w_law_25 at hw
  refine x_aload_n C dL_law_1419 rfl rfl ?_
  refine x_aload_n C dL_law_1420 rfl rfl ?_
  refine x_iload_n C dL_law_1421 rfl rfl ?_
  refine x_iconst (v := (1 : Int32)) C dL_law_1422 (by decide) ?_
  refine x_iadd C dL_law_1423 ?_
  obtain ⟨h290, hw⟩ := hw
  refine l_sld C Lc h290 dL_law_1424 ?_
  refine x_aload_n C dL_law_1425 rfl rfl ?_
  refine x_iload_n C dL_law_1426 rfl rfl ?_
  refine x_iconst (v := (2 : Int32)) C dL_law_1427 (by decide) ?_
  refine x_iadd C dL_law_1428 ?_
  obtain ⟨h291, hw⟩ := hw
  refine l_sld C Lc h291 dL_law_1429 ?_
  refine x_aload_n C dL_law_1430 rfl rfl ?_
  refine x_iload_n C dL_law_1431 rfl rfl ?_
  refine x_iconst (v := (3 : Int32)) C dL_law_1432 (by decide) ?_
  refine x_iadd C dL_law_1433 ?_
  obtain ⟨h292, hw⟩ := hw
  refine l_sld C Lc h292 dL_law_1434 ?_
  refine x_aload_n C dL_law_1435 rfl rfl ?_
  refine x_iload_n C dL_law_1436 rfl rfl ?_
  refine x_iconst (v := (4 : Int32)) C dL_law_1437 (by decide) ?_
  refine x_iadd C dL_law_1438 ?_
  obtain ⟨h293, hw⟩ := hw
  refine l_sld C Lc h293 dL_law_1439 ?_
  refine x_aload_n C dL_law_1440 rfl rfl ?_
  refine x_iload_n C dL_law_1441 rfl rfl ?_
  refine x_iconst (v := (5 : Int32)) C dL_law_1442 (by decide) ?_
  refine x_iadd C dL_law_1443 ?_
  obtain ⟨h294, hw⟩ := hw
  refine l_sld C Lc h294 dL_law_1444 ?_
  refine x_aload_n C dL_law_1445 rfl rfl ?_
  refine x_iload_n C dL_law_1446 rfl rfl ?_
  refine x_bipush (v := (6 : Int32)) C dL_law_1447 (by decide) ?_
  refine x_iadd C dL_law_1449 ?_
  obtain ⟨h295, hw⟩ := hw
  refine l_sld C Lc h295 dL_law_1450 ?_
  refine x_aload_n C dL_law_1451 rfl rfl ?_
  refine x_iload_n C dL_law_1452 rfl rfl ?_
  refine x_bipush (v := (7 : Int32)) C dL_law_1453 (by decide) ?_
  refine x_iadd C dL_law_1455 ?_
  obtain ⟨h296, hw⟩ := hw
  refine l_sld C Lc h296 dL_law_1456 ?_
  refine l_callVJ s0 rfl C (ok_X11_foretell hw) mv_L_126 rfl rfl ⟨Nat.le_of_ble_eq_true rfl, Nat.le_of_ble_eq_true rfl⟩ (Nat.le_of_ble_eq_true rfl) ⟨Nat.le_of_ble_eq_true rfl, Nat.le_of_ble_eq_true rfl⟩ dL_law_1457 (fun r298 M297 hw => ?_)
  refine x_aload_n C dL_law_1460 rfl rfl ?_
  refine x_aload_n C dL_law_1461 rfl rfl ?_
  refine x_iload_n C dL_law_1462 rfl rfl ?_
  refine x_iconst (v := (1 : Int32)) C dL_law_1463 (by decide) ?_
  refine x_iadd C dL_law_1464 ?_
  obtain ⟨h299, hw⟩ := hw
  refine l_sld C Lc h299 dL_law_1465 ?_
  refine x_aload_n C dL_law_1466 rfl rfl ?_
  refine x_iload_n C dL_law_1467 rfl rfl ?_
  refine x_iconst (v := (2 : Int32)) C dL_law_1468 (by decide) ?_
  refine x_iadd C dL_law_1469 ?_
  obtain ⟨h300, hw⟩ := hw
  refine l_sld C Lc h300 dL_law_1470 ?_
  refine x_aload_n C dL_law_1471 rfl rfl ?_
  refine x_iload_n C dL_law_1472 rfl rfl ?_
  refine x_iconst (v := (3 : Int32)) C dL_law_1473 (by decide) ?_
  refine x_iadd C dL_law_1474 ?_
  obtain ⟨h301, hw⟩ := hw
  refine l_sld C Lc h301 dL_law_1475 ?_
  refine x_aload_n C dL_law_1476 rfl rfl ?_
  refine x_iload_n C dL_law_1477 rfl rfl ?_
  refine x_iconst (v := (4 : Int32)) C dL_law_1478 (by decide) ?_
  refine x_iadd C dL_law_1479 ?_
  obtain ⟨h302, hw⟩ := hw
  refine l_sld C Lc h302 dL_law_1480 ?_
  refine x_aload_n C dL_law_1481 rfl rfl ?_
  refine x_iload_n C dL_law_1482 rfl rfl ?_
  refine x_iconst (v := (5 : Int32)) C dL_law_1483 (by decide) ?_
  refine x_iadd C dL_law_1484 ?_
  obtain ⟨h303, hw⟩ := hw
  refine l_sld C Lc h303 dL_law_1485 ?_
  refine x_aload_n C dL_law_1486 rfl rfl ?_
  refine x_iload_n C dL_law_1487 rfl rfl ?_
  refine x_bipush (v := (6 : Int32)) C dL_law_1488 (by decide) ?_
  refine x_iadd C dL_law_1490 ?_
  obtain ⟨h304, hw⟩ := hw
  refine l_sld C Lc h304 dL_law_1491 ?_
  refine x_aload_n C dL_law_1492 rfl rfl ?_
  refine x_iload_n C dL_law_1493 rfl rfl ?_
  refine x_bipush (v := (7 : Int32)) C dL_law_1494 (by decide) ?_
  refine x_iadd C dL_law_1496 ?_
  obtain ⟨h305, hw⟩ := hw
  refine l_sld C Lc h305 dL_law_1497 ?_
  refine l_callVJ s135 rfl C (ok_X12_foretell hw) mv_L_130 rfl rfl ⟨Nat.le_of_ble_eq_true rfl, Nat.le_of_ble_eq_true rfl⟩ (Nat.le_of_ble_eq_true rfl) ⟨Nat.le_of_ble_eq_true rfl, Nat.le_of_ble_eq_true rfl⟩ dL_law_1498 (fun r307 M306 hw => ?_)
  obtain ⟨h308, hw⟩ := hw
  refine x_lc_eq (tgt := 1781) C dL_law_1501 dL_law_1502 (by decide) (fun _ => ?_) (fun z => absurd h308 z)
  exact ok_law_end C Lc hP hw
def w_law_26 (L : Nat) (xs : Nat → Int32) (P : Int32 × Mem → Prop) (v3 : Int32) (M : Mem) : Prop := vp_in (v3 + (1 : Int32)) L ∧ vp_in (v3 + (2 : Int32)) L ∧ vp_in (v3 + (3 : Int32)) L ∧ vp_in (v3 + (4 : Int32)) L ∧ w_X11_seek (xs ((v3 + (1 : Int32))).toNatClampNeg) (xs ((v3 + (2 : Int32))).toNatClampNeg) (xs ((v3 + (3 : Int32))).toNatClampNeg) (xs ((v3 + (4 : Int32))).toNatClampNeg) M (fun (r314 : Int32) (M313 : Mem) => vp_in (v3 + (1 : Int32)) L ∧ vp_in (v3 + (2 : Int32)) L ∧ vp_in (v3 + (3 : Int32)) L ∧ vp_in (v3 + (4 : Int32)) L ∧ w_X12_seek (xs ((v3 + (1 : Int32))).toNatClampNeg) (xs ((v3 + (2 : Int32))).toNatClampNeg) (xs ((v3 + (3 : Int32))).toNatClampNeg) (xs ((v3 + (4 : Int32))).toNatClampNeg) M313 (fun (r320 : Int32) (M319 : Mem) => r314 = r320 ∧ P (v3 + 8, M319)))
set_option maxRecDepth 100000 in
set_option maxHeartbeats 8000000 in
theorem ok_law_26 {c : CtxT} {g : Gl} {l : Launch} {b L : Nat} {xs : Nat → Int32} {P : Int32 × Mem → Prop} {v3 : Int32} {M : Mem} (C : Cx c code 4 RL g l room_1) (Lc : Lx c g b L xs) (hP : ∀ (v3 : Int32) (M : Mem), P (v3, M) → X c KL 18 [(0, .ref b), (1, .ref (g.2.2.2 + 0)), (2, .ref (g.2.2.2 + 135)), (3, .int v3)] [] (stat M)) (hw : w_law_26 L xs P v3 M) : X c KL 1507 [(0, .ref b), (1, .ref (g.2.2.2 + 0)), (2, .ref (g.2.2.2 + 135)), (3, .int v3)] [] (stat M) := by
  unfold w_law_26 at hw
  refine x_aload_n C dL_law_1507 rfl rfl ?_
  refine x_aload_n C dL_law_1508 rfl rfl ?_
  refine x_iload_n C dL_law_1509 rfl rfl ?_
  refine x_iconst (v := (1 : Int32)) C dL_law_1510 (by decide) ?_
  refine x_iadd C dL_law_1511 ?_
  obtain ⟨h309, hw⟩ := hw
  refine l_sld C Lc h309 dL_law_1512 ?_
  refine x_aload_n C dL_law_1513 rfl rfl ?_
  refine x_iload_n C dL_law_1514 rfl rfl ?_
  refine x_iconst (v := (2 : Int32)) C dL_law_1515 (by decide) ?_
  refine x_iadd C dL_law_1516 ?_
  obtain ⟨h310, hw⟩ := hw
  refine l_sld C Lc h310 dL_law_1517 ?_
  refine x_aload_n C dL_law_1518 rfl rfl ?_
  refine x_iload_n C dL_law_1519 rfl rfl ?_
  refine x_iconst (v := (3 : Int32)) C dL_law_1520 (by decide) ?_
  refine x_iadd C dL_law_1521 ?_
  obtain ⟨h311, hw⟩ := hw
  refine l_sld C Lc h311 dL_law_1522 ?_
  refine x_aload_n C dL_law_1523 rfl rfl ?_
  refine x_iload_n C dL_law_1524 rfl rfl ?_
  refine x_iconst (v := (4 : Int32)) C dL_law_1525 (by decide) ?_
  refine x_iadd C dL_law_1526 ?_
  obtain ⟨h312, hw⟩ := hw
  refine l_sld C Lc h312 dL_law_1527 ?_
  refine l_callVI s0 rfl C (ok_X11_seek hw) mv_L_131 rfl rfl ⟨Nat.le_of_ble_eq_true rfl, Nat.le_of_ble_eq_true rfl⟩ (Nat.le_of_ble_eq_true rfl) ⟨Nat.le_of_ble_eq_true rfl, Nat.le_of_ble_eq_true rfl⟩ dL_law_1528 (fun r314 M313 hw => ?_)
  refine x_aload_n C dL_law_1531 rfl rfl ?_
  refine x_aload_n C dL_law_1532 rfl rfl ?_
  refine x_iload_n C dL_law_1533 rfl rfl ?_
  refine x_iconst (v := (1 : Int32)) C dL_law_1534 (by decide) ?_
  refine x_iadd C dL_law_1535 ?_
  obtain ⟨h315, hw⟩ := hw
  refine l_sld C Lc h315 dL_law_1536 ?_
  refine x_aload_n C dL_law_1537 rfl rfl ?_
  refine x_iload_n C dL_law_1538 rfl rfl ?_
  refine x_iconst (v := (2 : Int32)) C dL_law_1539 (by decide) ?_
  refine x_iadd C dL_law_1540 ?_
  obtain ⟨h316, hw⟩ := hw
  refine l_sld C Lc h316 dL_law_1541 ?_
  refine x_aload_n C dL_law_1542 rfl rfl ?_
  refine x_iload_n C dL_law_1543 rfl rfl ?_
  refine x_iconst (v := (3 : Int32)) C dL_law_1544 (by decide) ?_
  refine x_iadd C dL_law_1545 ?_
  obtain ⟨h317, hw⟩ := hw
  refine l_sld C Lc h317 dL_law_1546 ?_
  refine x_aload_n C dL_law_1547 rfl rfl ?_
  refine x_iload_n C dL_law_1548 rfl rfl ?_
  refine x_iconst (v := (4 : Int32)) C dL_law_1549 (by decide) ?_
  refine x_iadd C dL_law_1550 ?_
  obtain ⟨h318, hw⟩ := hw
  refine l_sld C Lc h318 dL_law_1551 ?_
  refine l_callVI s135 rfl C (ok_X12_seek hw) mv_L_134 rfl rfl ⟨Nat.le_of_ble_eq_true rfl, Nat.le_of_ble_eq_true rfl⟩ (Nat.le_of_ble_eq_true rfl) ⟨Nat.le_of_ble_eq_true rfl, Nat.le_of_ble_eq_true rfl⟩ dL_law_1552 (fun r320 M319 hw => ?_)
  obtain ⟨h321, hw⟩ := hw
  refine x_icmp_eq (tgt := 1781) C dL_law_1555 (by decide) (fun _ => ?_) (fun z => absurd h321 z)
  exact ok_law_end C Lc hP hw
def w_law_27 (L : Nat) (xs : Nat → Int32) (P : Int32 × Mem → Prop) (v3 : Int32) (M : Mem) : Prop := vp_in (v3 + (1 : Int32)) L ∧ w_X11_write (xs ((v3 + (1 : Int32))).toNatClampNeg) M (fun (r324 : Int32) (M323 : Mem) => vp_in (v3 + (1 : Int32)) L ∧ w_X12_write (xs ((v3 + (1 : Int32))).toNatClampNeg) M323 (fun (r327 : Int32) (M326 : Mem) => r324 = r327 ∧ P (v3 + 8, M326)))
set_option maxRecDepth 100000 in
set_option maxHeartbeats 8000000 in
theorem ok_law_27 {c : CtxT} {g : Gl} {l : Launch} {b L : Nat} {xs : Nat → Int32} {P : Int32 × Mem → Prop} {v3 : Int32} {M : Mem} (C : Cx c code 4 RL g l room_1) (Lc : Lx c g b L xs) (hP : ∀ (v3 : Int32) (M : Mem), P (v3, M) → X c KL 18 [(0, .ref b), (1, .ref (g.2.2.2 + 0)), (2, .ref (g.2.2.2 + 135)), (3, .int v3)] [] (stat M)) (hw : w_law_27 L xs P v3 M) : X c KL 1560 [(0, .ref b), (1, .ref (g.2.2.2 + 0)), (2, .ref (g.2.2.2 + 135)), (3, .int v3)] [] (stat M) := by
  unfold w_law_27 at hw
  refine x_aload_n C dL_law_1560 rfl rfl ?_
  refine x_aload_n C dL_law_1561 rfl rfl ?_
  refine x_iload_n C dL_law_1562 rfl rfl ?_
  refine x_iconst (v := (1 : Int32)) C dL_law_1563 (by decide) ?_
  refine x_iadd C dL_law_1564 ?_
  obtain ⟨h322, hw⟩ := hw
  refine l_sld C Lc h322 dL_law_1565 ?_
  refine l_callVI s0 rfl C (ok_X11_write hw) mv_L_135 rfl rfl ⟨Nat.le_of_ble_eq_true rfl, Nat.le_of_ble_eq_true rfl⟩ (Nat.le_of_ble_eq_true rfl) ⟨Nat.le_of_ble_eq_true rfl, Nat.le_of_ble_eq_true rfl⟩ dL_law_1566 (fun r324 M323 hw => ?_)
  refine x_aload_n C dL_law_1569 rfl rfl ?_
  refine x_aload_n C dL_law_1570 rfl rfl ?_
  refine x_iload_n C dL_law_1571 rfl rfl ?_
  refine x_iconst (v := (1 : Int32)) C dL_law_1572 (by decide) ?_
  refine x_iadd C dL_law_1573 ?_
  obtain ⟨h325, hw⟩ := hw
  refine l_sld C Lc h325 dL_law_1574 ?_
  refine l_callVI s135 rfl C (ok_X12_write hw) mv_L_138 rfl rfl ⟨Nat.le_of_ble_eq_true rfl, Nat.le_of_ble_eq_true rfl⟩ (Nat.le_of_ble_eq_true rfl) ⟨Nat.le_of_ble_eq_true rfl, Nat.le_of_ble_eq_true rfl⟩ dL_law_1575 (fun r327 M326 hw => ?_)
  obtain ⟨h328, hw⟩ := hw
  refine x_icmp_eq (tgt := 1781) C dL_law_1578 (by decide) (fun _ => ?_) (fun z => absurd h328 z)
  exact ok_law_end C Lc hP hw
def w_law_28 (L : Nat) (xs : Nat → Int32) (P : Int32 × Mem → Prop) (v3 : Int32) (M : Mem) : Prop := w_X11_erase M (fun (r330 : Int32) (M329 : Mem) => w_X12_erase M329 (fun (r332 : Int32) (M331 : Mem) => r330 = r332 ∧ P (v3 + 8, M331)))
set_option maxRecDepth 100000 in
set_option maxHeartbeats 8000000 in
theorem ok_law_28 {c : CtxT} {g : Gl} {l : Launch} {b L : Nat} {xs : Nat → Int32} {P : Int32 × Mem → Prop} {v3 : Int32} {M : Mem} (C : Cx c code 4 RL g l room_1) (Lc : Lx c g b L xs) (hP : ∀ (v3 : Int32) (M : Mem), P (v3, M) → X c KL 18 [(0, .ref b), (1, .ref (g.2.2.2 + 0)), (2, .ref (g.2.2.2 + 135)), (3, .int v3)] [] (stat M)) (hw : w_law_28 L xs P v3 M) : X c KL 1583 [(0, .ref b), (1, .ref (g.2.2.2 + 0)), (2, .ref (g.2.2.2 + 135)), (3, .int v3)] [] (stat M) := by
  unfold w_law_28 at hw
  refine x_aload_n C dL_law_1583 rfl rfl ?_
  refine l_callVI s0 rfl C (ok_X11_erase hw) mv_L_139 rfl rfl ⟨Nat.le_of_ble_eq_true rfl, Nat.le_of_ble_eq_true rfl⟩ (Nat.le_of_ble_eq_true rfl) ⟨Nat.le_of_ble_eq_true rfl, Nat.le_of_ble_eq_true rfl⟩ dL_law_1584 (fun r330 M329 hw => ?_)
  refine x_aload_n C dL_law_1587 rfl rfl ?_
  refine l_callVI s135 rfl C (ok_X12_erase hw) mv_L_142 rfl rfl ⟨Nat.le_of_ble_eq_true rfl, Nat.le_of_ble_eq_true rfl⟩ (Nat.le_of_ble_eq_true rfl) ⟨Nat.le_of_ble_eq_true rfl, Nat.le_of_ble_eq_true rfl⟩ dL_law_1588 (fun r332 M331 hw => ?_)
  obtain ⟨h333, hw⟩ := hw
  refine x_icmp_eq (tgt := 1781) C dL_law_1591 (by decide) (fun _ => ?_) (fun z => absurd h333 z)
  exact ok_law_end C Lc hP hw
def w_law_29 (L : Nat) (xs : Nat → Int32) (P : Int32 × Mem → Prop) (v3 : Int32) (M : Mem) : Prop := w_X11_fault M (fun (r335 : Int32) (M334 : Mem) => w_X12_fault M334 (fun (r337 : Int32) (M336 : Mem) => r335 = r337 ∧ P (v3 + 8, M336)))
set_option maxRecDepth 100000 in
set_option maxHeartbeats 8000000 in
theorem ok_law_29 {c : CtxT} {g : Gl} {l : Launch} {b L : Nat} {xs : Nat → Int32} {P : Int32 × Mem → Prop} {v3 : Int32} {M : Mem} (C : Cx c code 4 RL g l room_1) (Lc : Lx c g b L xs) (hP : ∀ (v3 : Int32) (M : Mem), P (v3, M) → X c KL 18 [(0, .ref b), (1, .ref (g.2.2.2 + 0)), (2, .ref (g.2.2.2 + 135)), (3, .int v3)] [] (stat M)) (hw : w_law_29 L xs P v3 M) : X c KL 1596 [(0, .ref b), (1, .ref (g.2.2.2 + 0)), (2, .ref (g.2.2.2 + 135)), (3, .int v3)] [] (stat M) := by
  unfold w_law_29 at hw
  refine x_aload_n C dL_law_1596 rfl rfl ?_
  refine l_callVI s0 rfl C (ok_X11_fault hw) mv_L_143 rfl rfl ⟨Nat.le_of_ble_eq_true rfl, Nat.le_of_ble_eq_true rfl⟩ (Nat.le_of_ble_eq_true rfl) ⟨Nat.le_of_ble_eq_true rfl, Nat.le_of_ble_eq_true rfl⟩ dL_law_1597 (fun r335 M334 hw => ?_)
  refine x_aload_n C dL_law_1600 rfl rfl ?_
  refine l_callVI s135 rfl C (ok_X12_fault hw) mv_L_146 rfl rfl ⟨Nat.le_of_ble_eq_true rfl, Nat.le_of_ble_eq_true rfl⟩ (Nat.le_of_ble_eq_true rfl) ⟨Nat.le_of_ble_eq_true rfl, Nat.le_of_ble_eq_true rfl⟩ dL_law_1601 (fun r337 M336 hw => ?_)
  obtain ⟨h338, hw⟩ := hw
  refine x_icmp_eq (tgt := 1781) C dL_law_1604 (by decide) (fun _ => ?_) (fun z => absurd h338 z)
  exact ok_law_end C Lc hP hw
def w_law_30 (L : Nat) (xs : Nat → Int32) (P : Int32 × Mem → Prop) (v3 : Int32) (M : Mem) : Prop := vp_in (v3 + (1 : Int32)) L ∧ vp_in (v3 + (2 : Int32)) L ∧ vp_in (v3 + (3 : Int32)) L ∧ w_X11_rung (xs ((v3 + (1 : Int32))).toNatClampNeg) (xs ((v3 + (2 : Int32))).toNatClampNeg) (xs ((v3 + (3 : Int32))).toNatClampNeg) M (fun (r343 : Int32) (M342 : Mem) => vp_in (v3 + (1 : Int32)) L ∧ vp_in (v3 + (2 : Int32)) L ∧ vp_in (v3 + (3 : Int32)) L ∧ w_X12_rung (xs ((v3 + (1 : Int32))).toNatClampNeg) (xs ((v3 + (2 : Int32))).toNatClampNeg) (xs ((v3 + (3 : Int32))).toNatClampNeg) M342 (fun (r348 : Int32) (M347 : Mem) => r343 = r348 ∧ P (v3 + 8, M347)))
set_option maxRecDepth 100000 in
set_option maxHeartbeats 8000000 in
theorem ok_law_30 {c : CtxT} {g : Gl} {l : Launch} {b L : Nat} {xs : Nat → Int32} {P : Int32 × Mem → Prop} {v3 : Int32} {M : Mem} (C : Cx c code 4 RL g l room_1) (Lc : Lx c g b L xs) (hP : ∀ (v3 : Int32) (M : Mem), P (v3, M) → X c KL 18 [(0, .ref b), (1, .ref (g.2.2.2 + 0)), (2, .ref (g.2.2.2 + 135)), (3, .int v3)] [] (stat M)) (hw : w_law_30 L xs P v3 M) : X c KL 1609 [(0, .ref b), (1, .ref (g.2.2.2 + 0)), (2, .ref (g.2.2.2 + 135)), (3, .int v3)] [] (stat M) := by
  unfold w_law_30 at hw
  refine x_aload_n C dL_law_1609 rfl rfl ?_
  refine x_aload_n C dL_law_1610 rfl rfl ?_
  refine x_iload_n C dL_law_1611 rfl rfl ?_
  refine x_iconst (v := (1 : Int32)) C dL_law_1612 (by decide) ?_
  refine x_iadd C dL_law_1613 ?_
  obtain ⟨h339, hw⟩ := hw
  refine l_sld C Lc h339 dL_law_1614 ?_
  refine x_aload_n C dL_law_1615 rfl rfl ?_
  refine x_iload_n C dL_law_1616 rfl rfl ?_
  refine x_iconst (v := (2 : Int32)) C dL_law_1617 (by decide) ?_
  refine x_iadd C dL_law_1618 ?_
  obtain ⟨h340, hw⟩ := hw
  refine l_sld C Lc h340 dL_law_1619 ?_
  refine x_aload_n C dL_law_1620 rfl rfl ?_
  refine x_iload_n C dL_law_1621 rfl rfl ?_
  refine x_iconst (v := (3 : Int32)) C dL_law_1622 (by decide) ?_
  refine x_iadd C dL_law_1623 ?_
  obtain ⟨h341, hw⟩ := hw
  refine l_sld C Lc h341 dL_law_1624 ?_
  refine l_callVI s0 rfl C (ok_X11_rung hw) mv_L_147 rfl rfl ⟨Nat.le_of_ble_eq_true rfl, Nat.le_of_ble_eq_true rfl⟩ (Nat.le_of_ble_eq_true rfl) ⟨Nat.le_of_ble_eq_true rfl, Nat.le_of_ble_eq_true rfl⟩ dL_law_1625 (fun r343 M342 hw => ?_)
  refine x_aload_n C dL_law_1628 rfl rfl ?_
  refine x_aload_n C dL_law_1629 rfl rfl ?_
  refine x_iload_n C dL_law_1630 rfl rfl ?_
  refine x_iconst (v := (1 : Int32)) C dL_law_1631 (by decide) ?_
  refine x_iadd C dL_law_1632 ?_
  obtain ⟨h344, hw⟩ := hw
  refine l_sld C Lc h344 dL_law_1633 ?_
  refine x_aload_n C dL_law_1634 rfl rfl ?_
  refine x_iload_n C dL_law_1635 rfl rfl ?_
  refine x_iconst (v := (2 : Int32)) C dL_law_1636 (by decide) ?_
  refine x_iadd C dL_law_1637 ?_
  obtain ⟨h345, hw⟩ := hw
  refine l_sld C Lc h345 dL_law_1638 ?_
  refine x_aload_n C dL_law_1639 rfl rfl ?_
  refine x_iload_n C dL_law_1640 rfl rfl ?_
  refine x_iconst (v := (3 : Int32)) C dL_law_1641 (by decide) ?_
  refine x_iadd C dL_law_1642 ?_
  obtain ⟨h346, hw⟩ := hw
  refine l_sld C Lc h346 dL_law_1643 ?_
  refine l_callVI s135 rfl C (ok_X12_rung hw) mv_L_150 rfl rfl ⟨Nat.le_of_ble_eq_true rfl, Nat.le_of_ble_eq_true rfl⟩ (Nat.le_of_ble_eq_true rfl) ⟨Nat.le_of_ble_eq_true rfl, Nat.le_of_ble_eq_true rfl⟩ dL_law_1644 (fun r348 M347 hw => ?_)
  obtain ⟨h349, hw⟩ := hw
  refine x_icmp_eq (tgt := 1781) C dL_law_1647 (by decide) (fun _ => ?_) (fun z => absurd h349 z)
  exact ok_law_end C Lc hP hw
def w_law_31 (L : Nat) (xs : Nat → Int32) (P : Int32 × Mem → Prop) (v3 : Int32) (M : Mem) : Prop := vp_in (v3 + (1 : Int32)) L ∧ vp_in (v3 + (2 : Int32)) L ∧ w_X11_forge (xs ((v3 + (1 : Int32))).toNatClampNeg) (xs ((v3 + (2 : Int32))).toNatClampNeg) M (fun (r353 : Int32) (M352 : Mem) => vp_in (v3 + (1 : Int32)) L ∧ vp_in (v3 + (2 : Int32)) L ∧ w_X12_forge (xs ((v3 + (1 : Int32))).toNatClampNeg) (xs ((v3 + (2 : Int32))).toNatClampNeg) M352 (fun (r357 : Int32) (M356 : Mem) => r353 = r357 ∧ P (v3 + 8, M356)))
set_option maxRecDepth 100000 in
set_option maxHeartbeats 8000000 in
theorem ok_law_31 {c : CtxT} {g : Gl} {l : Launch} {b L : Nat} {xs : Nat → Int32} {P : Int32 × Mem → Prop} {v3 : Int32} {M : Mem} (C : Cx c code 4 RL g l room_1) (Lc : Lx c g b L xs) (hP : ∀ (v3 : Int32) (M : Mem), P (v3, M) → X c KL 18 [(0, .ref b), (1, .ref (g.2.2.2 + 0)), (2, .ref (g.2.2.2 + 135)), (3, .int v3)] [] (stat M)) (hw : w_law_31 L xs P v3 M) : X c KL 1652 [(0, .ref b), (1, .ref (g.2.2.2 + 0)), (2, .ref (g.2.2.2 + 135)), (3, .int v3)] [] (stat M) := by
  unfold w_law_31 at hw
  refine x_aload_n C dL_law_1652 rfl rfl ?_
  refine x_aload_n C dL_law_1653 rfl rfl ?_
  refine x_iload_n C dL_law_1654 rfl rfl ?_
  refine x_iconst (v := (1 : Int32)) C dL_law_1655 (by decide) ?_
  refine x_iadd C dL_law_1656 ?_
  obtain ⟨h350, hw⟩ := hw
  refine l_sld C Lc h350 dL_law_1657 ?_
  refine x_aload_n C dL_law_1658 rfl rfl ?_
  refine x_iload_n C dL_law_1659 rfl rfl ?_
  refine x_iconst (v := (2 : Int32)) C dL_law_1660 (by decide) ?_
  refine x_iadd C dL_law_1661 ?_
  obtain ⟨h351, hw⟩ := hw
  refine l_sld C Lc h351 dL_law_1662 ?_
  refine l_callVI s0 rfl C (ok_X11_forge hw) mv_L_151 rfl rfl ⟨Nat.le_of_ble_eq_true rfl, Nat.le_of_ble_eq_true rfl⟩ (Nat.le_of_ble_eq_true rfl) ⟨Nat.le_of_ble_eq_true rfl, Nat.le_of_ble_eq_true rfl⟩ dL_law_1663 (fun r353 M352 hw => ?_)
  refine x_aload_n C dL_law_1666 rfl rfl ?_
  refine x_aload_n C dL_law_1667 rfl rfl ?_
  refine x_iload_n C dL_law_1668 rfl rfl ?_
  refine x_iconst (v := (1 : Int32)) C dL_law_1669 (by decide) ?_
  refine x_iadd C dL_law_1670 ?_
  obtain ⟨h354, hw⟩ := hw
  refine l_sld C Lc h354 dL_law_1671 ?_
  refine x_aload_n C dL_law_1672 rfl rfl ?_
  refine x_iload_n C dL_law_1673 rfl rfl ?_
  refine x_iconst (v := (2 : Int32)) C dL_law_1674 (by decide) ?_
  refine x_iadd C dL_law_1675 ?_
  obtain ⟨h355, hw⟩ := hw
  refine l_sld C Lc h355 dL_law_1676 ?_
  refine l_callVI s135 rfl C (ok_X12_forge hw) mv_L_154 rfl rfl ⟨Nat.le_of_ble_eq_true rfl, Nat.le_of_ble_eq_true rfl⟩ (Nat.le_of_ble_eq_true rfl) ⟨Nat.le_of_ble_eq_true rfl, Nat.le_of_ble_eq_true rfl⟩ dL_law_1677 (fun r357 M356 hw => ?_)
  obtain ⟨h358, hw⟩ := hw
  refine x_icmp_eq (tgt := 1781) C dL_law_1680 (by decide) (fun _ => ?_) (fun z => absurd h358 z)
  exact ok_law_end C Lc hP hw
def w_law_32 (L : Nat) (xs : Nat → Int32) (P : Int32 × Mem → Prop) (v3 : Int32) (M : Mem) : Prop := w_X11_check M (fun (r360 : Int32) (M359 : Mem) => w_X12_check M359 (fun (r362 : Int32) (M361 : Mem) => r360 = r362 ∧ P (v3 + 8, M361)))
set_option maxRecDepth 100000 in
set_option maxHeartbeats 8000000 in
theorem ok_law_32 {c : CtxT} {g : Gl} {l : Launch} {b L : Nat} {xs : Nat → Int32} {P : Int32 × Mem → Prop} {v3 : Int32} {M : Mem} (C : Cx c code 4 RL g l room_1) (Lc : Lx c g b L xs) (hP : ∀ (v3 : Int32) (M : Mem), P (v3, M) → X c KL 18 [(0, .ref b), (1, .ref (g.2.2.2 + 0)), (2, .ref (g.2.2.2 + 135)), (3, .int v3)] [] (stat M)) (hw : w_law_32 L xs P v3 M) : X c KL 1685 [(0, .ref b), (1, .ref (g.2.2.2 + 0)), (2, .ref (g.2.2.2 + 135)), (3, .int v3)] [] (stat M) := by
  unfold w_law_32 at hw
  refine x_aload_n C dL_law_1685 rfl rfl ?_
  refine l_callVI s0 rfl C (ok_X11_check hw) mv_L_155 rfl rfl ⟨Nat.le_of_ble_eq_true rfl, Nat.le_of_ble_eq_true rfl⟩ (Nat.le_of_ble_eq_true rfl) ⟨Nat.le_of_ble_eq_true rfl, Nat.le_of_ble_eq_true rfl⟩ dL_law_1686 (fun r360 M359 hw => ?_)
  refine x_aload_n C dL_law_1689 rfl rfl ?_
  refine l_callVI s135 rfl C (ok_X12_check hw) mv_L_158 rfl rfl ⟨Nat.le_of_ble_eq_true rfl, Nat.le_of_ble_eq_true rfl⟩ (Nat.le_of_ble_eq_true rfl) ⟨Nat.le_of_ble_eq_true rfl, Nat.le_of_ble_eq_true rfl⟩ dL_law_1690 (fun r362 M361 hw => ?_)
  obtain ⟨h363, hw⟩ := hw
  refine x_icmp_eq (tgt := 1781) C dL_law_1693 (by decide) (fun _ => ?_) (fun z => absurd h363 z)
  exact ok_law_end C Lc hP hw
def w_law_33 (L : Nat) (xs : Nat → Int32) (P : Int32 × Mem → Prop) (v3 : Int32) (M : Mem) : Prop := vp_in (v3 + (1 : Int32)) L ∧ w_X11_image (xs ((v3 + (1 : Int32))).toNatClampNeg) M (fun (r366 : Int32) (M365 : Mem) => vp_in (v3 + (1 : Int32)) L ∧ w_X12_image (xs ((v3 + (1 : Int32))).toNatClampNeg) M365 (fun (r369 : Int32) (M368 : Mem) => r366 = r369 ∧ P (v3 + 8, M368)))
set_option maxRecDepth 100000 in
set_option maxHeartbeats 8000000 in
theorem ok_law_33 {c : CtxT} {g : Gl} {l : Launch} {b L : Nat} {xs : Nat → Int32} {P : Int32 × Mem → Prop} {v3 : Int32} {M : Mem} (C : Cx c code 4 RL g l room_1) (Lc : Lx c g b L xs) (hP : ∀ (v3 : Int32) (M : Mem), P (v3, M) → X c KL 18 [(0, .ref b), (1, .ref (g.2.2.2 + 0)), (2, .ref (g.2.2.2 + 135)), (3, .int v3)] [] (stat M)) (hw : w_law_33 L xs P v3 M) : X c KL 1698 [(0, .ref b), (1, .ref (g.2.2.2 + 0)), (2, .ref (g.2.2.2 + 135)), (3, .int v3)] [] (stat M) := by
  unfold w_law_33 at hw
  refine x_aload_n C dL_law_1698 rfl rfl ?_
  refine x_aload_n C dL_law_1699 rfl rfl ?_
  refine x_iload_n C dL_law_1700 rfl rfl ?_
  refine x_iconst (v := (1 : Int32)) C dL_law_1701 (by decide) ?_
  refine x_iadd C dL_law_1702 ?_
  obtain ⟨h364, hw⟩ := hw
  refine l_sld C Lc h364 dL_law_1703 ?_
  refine l_callVI s0 rfl C (ok_X11_image hw) mv_L_159 rfl rfl ⟨Nat.le_of_ble_eq_true rfl, Nat.le_of_ble_eq_true rfl⟩ (Nat.le_of_ble_eq_true rfl) ⟨Nat.le_of_ble_eq_true rfl, Nat.le_of_ble_eq_true rfl⟩ dL_law_1704 (fun r366 M365 hw => ?_)
  refine x_aload_n C dL_law_1707 rfl rfl ?_
  refine x_aload_n C dL_law_1708 rfl rfl ?_
  refine x_iload_n C dL_law_1709 rfl rfl ?_
  refine x_iconst (v := (1 : Int32)) C dL_law_1710 (by decide) ?_
  refine x_iadd C dL_law_1711 ?_
  obtain ⟨h367, hw⟩ := hw
  refine l_sld C Lc h367 dL_law_1712 ?_
  refine l_callVI s135 rfl C (ok_X12_image hw) mv_L_162 rfl rfl ⟨Nat.le_of_ble_eq_true rfl, Nat.le_of_ble_eq_true rfl⟩ (Nat.le_of_ble_eq_true rfl) ⟨Nat.le_of_ble_eq_true rfl, Nat.le_of_ble_eq_true rfl⟩ dL_law_1713 (fun r369 M368 hw => ?_)
  obtain ⟨h370, hw⟩ := hw
  refine x_icmp_eq (tgt := 1781) C dL_law_1716 (by decide) (fun _ => ?_) (fun z => absurd h370 z)
  exact ok_law_end C Lc hP hw
def w_law_34 (L : Nat) (xs : Nat → Int32) (P : Int32 × Mem → Prop) (v3 : Int32) (M : Mem) : Prop := vp_in (v3 + (1 : Int32)) L ∧ w_X11_from (xs ((v3 + (1 : Int32))).toNatClampNeg) M (fun (r373 : Int32) (M372 : Mem) => vp_in (v3 + (1 : Int32)) L ∧ w_X12_from (xs ((v3 + (1 : Int32))).toNatClampNeg) M372 (fun (r376 : Int32) (M375 : Mem) => r373 = r376 ∧ P (v3 + 8, M375)))
set_option maxRecDepth 100000 in
set_option maxHeartbeats 8000000 in
theorem ok_law_34 {c : CtxT} {g : Gl} {l : Launch} {b L : Nat} {xs : Nat → Int32} {P : Int32 × Mem → Prop} {v3 : Int32} {M : Mem} (C : Cx c code 4 RL g l room_1) (Lc : Lx c g b L xs) (hP : ∀ (v3 : Int32) (M : Mem), P (v3, M) → X c KL 18 [(0, .ref b), (1, .ref (g.2.2.2 + 0)), (2, .ref (g.2.2.2 + 135)), (3, .int v3)] [] (stat M)) (hw : w_law_34 L xs P v3 M) : X c KL 1721 [(0, .ref b), (1, .ref (g.2.2.2 + 0)), (2, .ref (g.2.2.2 + 135)), (3, .int v3)] [] (stat M) := by
  unfold w_law_34 at hw
  refine x_aload_n C dL_law_1721 rfl rfl ?_
  refine x_aload_n C dL_law_1722 rfl rfl ?_
  refine x_iload_n C dL_law_1723 rfl rfl ?_
  refine x_iconst (v := (1 : Int32)) C dL_law_1724 (by decide) ?_
  refine x_iadd C dL_law_1725 ?_
  obtain ⟨h371, hw⟩ := hw
  refine l_sld C Lc h371 dL_law_1726 ?_
  refine l_callVI s0 rfl C (ok_X11_from hw) mv_L_163 rfl rfl ⟨Nat.le_of_ble_eq_true rfl, Nat.le_of_ble_eq_true rfl⟩ (Nat.le_of_ble_eq_true rfl) ⟨Nat.le_of_ble_eq_true rfl, Nat.le_of_ble_eq_true rfl⟩ dL_law_1727 (fun r373 M372 hw => ?_)
  refine x_aload_n C dL_law_1730 rfl rfl ?_
  refine x_aload_n C dL_law_1731 rfl rfl ?_
  refine x_iload_n C dL_law_1732 rfl rfl ?_
  refine x_iconst (v := (1 : Int32)) C dL_law_1733 (by decide) ?_
  refine x_iadd C dL_law_1734 ?_
  obtain ⟨h374, hw⟩ := hw
  refine l_sld C Lc h374 dL_law_1735 ?_
  refine l_callVI s135 rfl C (ok_X12_from hw) mv_L_166 rfl rfl ⟨Nat.le_of_ble_eq_true rfl, Nat.le_of_ble_eq_true rfl⟩ (Nat.le_of_ble_eq_true rfl) ⟨Nat.le_of_ble_eq_true rfl, Nat.le_of_ble_eq_true rfl⟩ dL_law_1736 (fun r376 M375 hw => ?_)
  obtain ⟨h377, hw⟩ := hw
  refine x_icmp_eq (tgt := 1781) C dL_law_1739 (by decide) (fun _ => ?_) (fun z => absurd h377 z)
  exact ok_law_end C Lc hP hw
def w_law_35 (L : Nat) (xs : Nat → Int32) (P : Int32 × Mem → Prop) (v3 : Int32) (M : Mem) : Prop := vp_in (v3 + (1 : Int32)) L ∧ w_X11_count (xs ((v3 + (1 : Int32))).toNatClampNeg) M (fun (r380 : Int32) (M379 : Mem) => vp_in (v3 + (1 : Int32)) L ∧ w_X12_count (xs ((v3 + (1 : Int32))).toNatClampNeg) M379 (fun (r383 : Int32) (M382 : Mem) => r380 = r383 ∧ P (v3 + 8, M382)))
set_option maxRecDepth 100000 in
set_option maxHeartbeats 8000000 in
theorem ok_law_35 {c : CtxT} {g : Gl} {l : Launch} {b L : Nat} {xs : Nat → Int32} {P : Int32 × Mem → Prop} {v3 : Int32} {M : Mem} (C : Cx c code 4 RL g l room_1) (Lc : Lx c g b L xs) (hP : ∀ (v3 : Int32) (M : Mem), P (v3, M) → X c KL 18 [(0, .ref b), (1, .ref (g.2.2.2 + 0)), (2, .ref (g.2.2.2 + 135)), (3, .int v3)] [] (stat M)) (hw : w_law_35 L xs P v3 M) : X c KL 1744 [(0, .ref b), (1, .ref (g.2.2.2 + 0)), (2, .ref (g.2.2.2 + 135)), (3, .int v3)] [] (stat M) := by
  unfold w_law_35 at hw
  refine x_aload_n C dL_law_1744 rfl rfl ?_
  refine x_aload_n C dL_law_1745 rfl rfl ?_
  refine x_iload_n C dL_law_1746 rfl rfl ?_
  refine x_iconst (v := (1 : Int32)) C dL_law_1747 (by decide) ?_
  refine x_iadd C dL_law_1748 ?_
  obtain ⟨h378, hw⟩ := hw
  refine l_sld C Lc h378 dL_law_1749 ?_
  refine l_callVI s0 rfl C (ok_X11_count hw) mv_L_167 rfl rfl ⟨Nat.le_of_ble_eq_true rfl, Nat.le_of_ble_eq_true rfl⟩ (Nat.le_of_ble_eq_true rfl) ⟨Nat.le_of_ble_eq_true rfl, Nat.le_of_ble_eq_true rfl⟩ dL_law_1750 (fun r380 M379 hw => ?_)
  refine x_aload_n C dL_law_1753 rfl rfl ?_
  refine x_aload_n C dL_law_1754 rfl rfl ?_
  refine x_iload_n C dL_law_1755 rfl rfl ?_
  refine x_iconst (v := (1 : Int32)) C dL_law_1756 (by decide) ?_
  refine x_iadd C dL_law_1757 ?_
  obtain ⟨h381, hw⟩ := hw
  refine l_sld C Lc h381 dL_law_1758 ?_
  refine l_callVI s135 rfl C (ok_X12_count hw) mv_L_170 rfl rfl ⟨Nat.le_of_ble_eq_true rfl, Nat.le_of_ble_eq_true rfl⟩ (Nat.le_of_ble_eq_true rfl) ⟨Nat.le_of_ble_eq_true rfl, Nat.le_of_ble_eq_true rfl⟩ dL_law_1759 (fun r383 M382 hw => ?_)
  obtain ⟨h384, hw⟩ := hw
  refine x_icmp_eq (tgt := 1781) C dL_law_1762 (by decide) (fun _ => ?_) (fun z => absurd h384 z)
  exact ok_law_end C Lc hP hw
def w_law_36 (L : Nat) (xs : Nat → Int32) (P : Int32 × Mem → Prop) (v3 : Int32) (M : Mem) : Prop := w_X11_digest M (fun (r386 : Int64) (M385 : Mem) => w_X12_digest M385 (fun (r388 : Int64) (M387 : Mem) => r386 = r388 ∧ P (v3 + 8, M387)))
set_option maxRecDepth 100000 in
set_option maxHeartbeats 8000000 in
theorem ok_law_36 {c : CtxT} {g : Gl} {l : Launch} {b L : Nat} {xs : Nat → Int32} {P : Int32 × Mem → Prop} {v3 : Int32} {M : Mem} (C : Cx c code 4 RL g l room_1) (Lc : Lx c g b L xs) (hP : ∀ (v3 : Int32) (M : Mem), P (v3, M) → X c KL 18 [(0, .ref b), (1, .ref (g.2.2.2 + 0)), (2, .ref (g.2.2.2 + 135)), (3, .int v3)] [] (stat M)) (hw : w_law_36 L xs P v3 M) : X c KL 1767 [(0, .ref b), (1, .ref (g.2.2.2 + 0)), (2, .ref (g.2.2.2 + 135)), (3, .int v3)] [] (stat M) := by
  unfold w_law_36 at hw
  refine x_aload_n C dL_law_1767 rfl rfl ?_
  refine l_callVJ s0 rfl C (ok_X11_digest hw) mv_L_171 rfl rfl ⟨Nat.le_of_ble_eq_true rfl, Nat.le_of_ble_eq_true rfl⟩ (Nat.le_of_ble_eq_true rfl) ⟨Nat.le_of_ble_eq_true rfl, Nat.le_of_ble_eq_true rfl⟩ dL_law_1768 (fun r386 M385 hw => ?_)
  refine x_aload_n C dL_law_1771 rfl rfl ?_
  refine l_callVJ s135 rfl C (ok_X12_digest hw) mv_L_175 rfl rfl ⟨Nat.le_of_ble_eq_true rfl, Nat.le_of_ble_eq_true rfl⟩ (Nat.le_of_ble_eq_true rfl) ⟨Nat.le_of_ble_eq_true rfl, Nat.le_of_ble_eq_true rfl⟩ dL_law_1772 (fun r388 M387 hw => ?_)
  obtain ⟨h389, hw⟩ := hw
  refine x_lc_eq (tgt := 1781) C dL_law_1775 dL_law_1776 (by decide) (fun _ => ?_) (fun z => absurd h389 z)
  exact ok_law_end C Lc hP hw
def w_law_F (L : Nat) (xs : Nat → Int32) (P : Int32 × Mem → Prop) (s : Int32 × Mem) : Prop := match s with
  | (v3, M) => ¬ (Int32.ofNat L - 8) < v3 → (vp_in v3 L ∧ ((xs (v3).toNatClampNeg &&& 63) = (0 : Int32) → w_law_0 L xs P v3 M) ∧ ((xs (v3).toNatClampNeg &&& 63) = (1 : Int32) → w_law_1 L xs P v3 M) ∧ ((xs (v3).toNatClampNeg &&& 63) = (2 : Int32) → w_law_2 L xs P v3 M) ∧ ((xs (v3).toNatClampNeg &&& 63) = (3 : Int32) → w_law_3 L xs P v3 M) ∧ ((xs (v3).toNatClampNeg &&& 63) = (4 : Int32) → w_law_4 L xs P v3 M) ∧ ((xs (v3).toNatClampNeg &&& 63) = (5 : Int32) → w_law_5 L xs P v3 M) ∧ ((xs (v3).toNatClampNeg &&& 63) = (6 : Int32) → w_law_6 L xs P v3 M) ∧ ((xs (v3).toNatClampNeg &&& 63) = (7 : Int32) → w_law_7 L xs P v3 M) ∧ ((xs (v3).toNatClampNeg &&& 63) = (8 : Int32) → w_law_8 L xs P v3 M) ∧ ((xs (v3).toNatClampNeg &&& 63) = (9 : Int32) → w_law_9 L xs P v3 M) ∧ ((xs (v3).toNatClampNeg &&& 63) = (10 : Int32) → w_law_10 L xs P v3 M) ∧ ((xs (v3).toNatClampNeg &&& 63) = (11 : Int32) → w_law_11 L xs P v3 M) ∧ ((xs (v3).toNatClampNeg &&& 63) = (12 : Int32) → w_law_12 L xs P v3 M) ∧ ((xs (v3).toNatClampNeg &&& 63) = (13 : Int32) → w_law_13 L xs P v3 M) ∧ ((xs (v3).toNatClampNeg &&& 63) = (14 : Int32) → w_law_14 L xs P v3 M) ∧ ((xs (v3).toNatClampNeg &&& 63) = (15 : Int32) → w_law_15 L xs P v3 M) ∧ ((xs (v3).toNatClampNeg &&& 63) = (16 : Int32) → w_law_16 L xs P v3 M) ∧ ((xs (v3).toNatClampNeg &&& 63) = (17 : Int32) → w_law_17 L xs P v3 M) ∧ ((xs (v3).toNatClampNeg &&& 63) = (18 : Int32) → w_law_18 L xs P v3 M) ∧ ((xs (v3).toNatClampNeg &&& 63) = (19 : Int32) → w_law_19 L xs P v3 M) ∧ ((xs (v3).toNatClampNeg &&& 63) = (20 : Int32) → w_law_20 L xs P v3 M) ∧ ((xs (v3).toNatClampNeg &&& 63) = (21 : Int32) → w_law_21 L xs P v3 M) ∧ ((xs (v3).toNatClampNeg &&& 63) = (22 : Int32) → w_law_22 L xs P v3 M) ∧ ((xs (v3).toNatClampNeg &&& 63) = (23 : Int32) → w_law_23 L xs P v3 M) ∧ ((xs (v3).toNatClampNeg &&& 63) = (24 : Int32) → w_law_24 L xs P v3 M) ∧ ((xs (v3).toNatClampNeg &&& 63) = (25 : Int32) → w_law_25 L xs P v3 M) ∧ ((xs (v3).toNatClampNeg &&& 63) = (26 : Int32) → w_law_26 L xs P v3 M) ∧ ((xs (v3).toNatClampNeg &&& 63) = (27 : Int32) → w_law_27 L xs P v3 M) ∧ ((xs (v3).toNatClampNeg &&& 63) = (28 : Int32) → w_law_28 L xs P v3 M) ∧ ((xs (v3).toNatClampNeg &&& 63) = (29 : Int32) → w_law_29 L xs P v3 M) ∧ ((xs (v3).toNatClampNeg &&& 63) = (30 : Int32) → w_law_30 L xs P v3 M) ∧ ((xs (v3).toNatClampNeg &&& 63) = (31 : Int32) → w_law_31 L xs P v3 M) ∧ ((xs (v3).toNatClampNeg &&& 63) = (32 : Int32) → w_law_32 L xs P v3 M) ∧ ((xs (v3).toNatClampNeg &&& 63) = (33 : Int32) → w_law_33 L xs P v3 M) ∧ ((xs (v3).toNatClampNeg &&& 63) = (34 : Int32) → w_law_34 L xs P v3 M) ∧ ((xs (v3).toNatClampNeg &&& 63) = (35 : Int32) → w_law_35 L xs P v3 M) ∧ ((xs (v3).toNatClampNeg &&& 63) = (36 : Int32) → w_law_36 L xs P v3 M) ∧ ((((xs (v3).toNatClampNeg &&& 63)).toInt < 0 ∨ 36 < ((xs (v3).toNatClampNeg &&& 63)).toInt) → P (v3 + 8, M)))
def w_law_l (L : Nat) (xs : Nat → Int32) (s : Int32 × Mem) : Prop := lfp (w_law_F L xs) s
/-- the end of the law -/
def Le (c : CtxT) : Prop := ∀ (κ : Nat × Nat × Nat) (pc : Nat) (lv : List (Nat × Value)) (M : Mem), κ = KL → decode code pc = .ok (.ireturn, 1) → X c κ pc lv [.int 1] M
set_option maxRecDepth 100000 in
set_option maxHeartbeats 8000000 in
theorem ok_law_l {c : CtxT} {g : Gl} {l : Launch} {b L : Nat} {xs : Nat → Int32} {s : Int32 × Mem} (C : Cx c code 4 RL g l room_1) (Lc : Lx c g b L xs) (He : Le c) (hw : w_law_l L xs s) : X c KL 18 [(0, .ref b), (1, .ref (g.2.2.2 + 0)), (2, .ref (g.2.2.2 + 135)), (3, .int s.1)] [] (stat s.2) := hw (fun s => X c KL 18 [(0, .ref b), (1, .ref (g.2.2.2 + 0)), (2, .ref (g.2.2.2 + 135)), (3, .int s.1)] [] (stat s.2)) (fun s hw => by
    obtain ⟨v3, M⟩ := s
    dsimp only [w_law_F] at hw
    dsimp only
    refine x_iload_n C dL_law_18 rfl rfl ?_
    refine x_aload_n C dL_law_19 rfl rfl ?_
    refine l_slen C Lc dL_law_20 ?_
    refine x_bipush (v := (8 : Int32)) C dL_law_21 (by decide) ?_
    refine x_isub C dL_law_23 ?_
    refine x_icmp_gt (tgt := 1787) C dL_law_24 (by decide) (fun _ => ?_) (fun h0 => ?_)
    · refine x_iconst (v := (1 : Int32)) C dL_law_1787 (by decide) ?_
      exact He KL _ _ _ rfl dL_law_1788
    replace hw := hw h0
    obtain ⟨h1, hw⟩ := hw
    refine x_aload_n C dL_law_27 rfl rfl ?_
    refine x_iload_n C dL_law_28 rfl rfl ?_
    refine l_sld C Lc h1 dL_law_29 ?_
    refine x_bipush (v := (63 : Int32)) C dL_law_30 (by decide) ?_
    refine x_iand C dL_law_32 ?_
    by_cases hx : ((xs (v3).toNatClampNeg &&& 63)).toInt < 0 ∨ 36 < ((xs (v3).toNatClampNeg &&& 63)).toInt
    · refine x_tableOut (tgt := 1781) C dL_law_33 hx (by decide) ?_
      exact x_sub [0, 1, 2, 3] rfl (ok_law_end (P := fun s => X c KL 18 [(0, .ref b), (1, .ref (g.2.2.2 + 0)), (2, .ref (g.2.2.2 + 135)), (3, .int s.1)] [] (stat s.2)) C Lc (fun _ _ h => h) (hw.2.2.2.2.2.2.2.2.2.2.2.2.2.2.2.2.2.2.2.2.2.2.2.2.2.2.2.2.2.2.2.2.2.2.2.2.2 hx))
    have hlo : ¬ ((xs (v3).toNatClampNeg &&& 63)).toInt < 0 := fun z => hx (Or.inl z)
    have hhi : ¬ 36 < ((xs (v3).toNatClampNeg &&& 63)).toInt := fun z => hx (Or.inr z)
    have hor : ((xs (v3).toNatClampNeg &&& 63)).toInt = 0 ∨ ((xs (v3).toNatClampNeg &&& 63)).toInt = 1 ∨ ((xs (v3).toNatClampNeg &&& 63)).toInt = 2 ∨ ((xs (v3).toNatClampNeg &&& 63)).toInt = 3 ∨ ((xs (v3).toNatClampNeg &&& 63)).toInt = 4 ∨ ((xs (v3).toNatClampNeg &&& 63)).toInt = 5 ∨ ((xs (v3).toNatClampNeg &&& 63)).toInt = 6 ∨ ((xs (v3).toNatClampNeg &&& 63)).toInt = 7 ∨ ((xs (v3).toNatClampNeg &&& 63)).toInt = 8 ∨ ((xs (v3).toNatClampNeg &&& 63)).toInt = 9 ∨ ((xs (v3).toNatClampNeg &&& 63)).toInt = 10 ∨ ((xs (v3).toNatClampNeg &&& 63)).toInt = 11 ∨ ((xs (v3).toNatClampNeg &&& 63)).toInt = 12 ∨ ((xs (v3).toNatClampNeg &&& 63)).toInt = 13 ∨ ((xs (v3).toNatClampNeg &&& 63)).toInt = 14 ∨ ((xs (v3).toNatClampNeg &&& 63)).toInt = 15 ∨ ((xs (v3).toNatClampNeg &&& 63)).toInt = 16 ∨ ((xs (v3).toNatClampNeg &&& 63)).toInt = 17 ∨ ((xs (v3).toNatClampNeg &&& 63)).toInt = 18 ∨ ((xs (v3).toNatClampNeg &&& 63)).toInt = 19 ∨ ((xs (v3).toNatClampNeg &&& 63)).toInt = 20 ∨ ((xs (v3).toNatClampNeg &&& 63)).toInt = 21 ∨ ((xs (v3).toNatClampNeg &&& 63)).toInt = 22 ∨ ((xs (v3).toNatClampNeg &&& 63)).toInt = 23 ∨ ((xs (v3).toNatClampNeg &&& 63)).toInt = 24 ∨ ((xs (v3).toNatClampNeg &&& 63)).toInt = 25 ∨ ((xs (v3).toNatClampNeg &&& 63)).toInt = 26 ∨ ((xs (v3).toNatClampNeg &&& 63)).toInt = 27 ∨ ((xs (v3).toNatClampNeg &&& 63)).toInt = 28 ∨ ((xs (v3).toNatClampNeg &&& 63)).toInt = 29 ∨ ((xs (v3).toNatClampNeg &&& 63)).toInt = 30 ∨ ((xs (v3).toNatClampNeg &&& 63)).toInt = 31 ∨ ((xs (v3).toNatClampNeg &&& 63)).toInt = 32 ∨ ((xs (v3).toNatClampNeg &&& 63)).toInt = 33 ∨ ((xs (v3).toNatClampNeg &&& 63)).toInt = 34 ∨ ((xs (v3).toNatClampNeg &&& 63)).toInt = 35 ∨ ((xs (v3).toNatClampNeg &&& 63)).toInt = 36 := by omega
    rcases hor with hor | hor | hor | hor | hor | hor | hor | hor | hor | hor | hor | hor | hor | hor | hor | hor | hor | hor | hor | hor | hor | hor | hor | hor | hor | hor | hor | hor | hor | hor | hor | hor | hor | hor | hor | hor | hor
    · refine x_tableIn (off := 163) (tgt := 196) C dL_law_33 hlo hhi (by rw [hor]; decide) (by decide) ?_
      exact x_sub [0, 1, 2, 3] rfl (ok_law_0 C Lc (fun _ _ h => h) (hw.1 (Int32.toInt_inj.mp (hor.trans (by decide)))))
    · refine x_tableIn (off := 176) (tgt := 209) C dL_law_33 hlo hhi (by rw [hor]; decide) (by decide) ?_
      exact x_sub [0, 1, 2, 3] rfl (ok_law_1 C Lc (fun _ _ h => h) (hw.2.1 (Int32.toInt_inj.mp (hor.trans (by decide)))))
    · refine x_tableIn (off := 239) (tgt := 272) C dL_law_33 hlo hhi (by rw [hor]; decide) (by decide) ?_
      exact x_sub [0, 1, 2, 3] rfl (ok_law_2 C Lc (fun _ _ h => h) (hw.2.2.1 (Int32.toInt_inj.mp (hor.trans (by decide)))))
    · refine x_tableIn (off := 314) (tgt := 347) C dL_law_33 hlo hhi (by rw [hor]; decide) (by decide) ?_
      exact x_sub [0, 1, 2, 3] rfl (ok_law_3 C Lc (fun _ _ h => h) (hw.2.2.2.1 (Int32.toInt_inj.mp (hor.trans (by decide)))))
    · refine x_tableIn (off := 347) (tgt := 380) C dL_law_33 hlo hhi (by rw [hor]; decide) (by decide) ?_
      exact x_sub [0, 1, 2, 3] rfl (ok_law_4 C Lc (fun _ _ h => h) (hw.2.2.2.2.1 (Int32.toInt_inj.mp (hor.trans (by decide)))))
    · refine x_tableIn (off := 400) (tgt := 433) C dL_law_33 hlo hhi (by rw [hor]; decide) (by decide) ?_
      exact x_sub [0, 1, 2, 3] rfl (ok_law_5 C Lc (fun _ _ h => h) (hw.2.2.2.2.2.1 (Int32.toInt_inj.mp (hor.trans (by decide)))))
    · refine x_tableIn (off := 443) (tgt := 476) C dL_law_33 hlo hhi (by rw [hor]; decide) (by decide) ?_
      exact x_sub [0, 1, 2, 3] rfl (ok_law_6 C Lc (fun _ _ h => h) (hw.2.2.2.2.2.2.1 (Int32.toInt_inj.mp (hor.trans (by decide)))))
    · refine x_tableIn (off := 496) (tgt := 529) C dL_law_33 hlo hhi (by rw [hor]; decide) (by decide) ?_
      exact x_sub [0, 1, 2, 3] rfl (ok_law_7 C Lc (fun _ _ h => h) (hw.2.2.2.2.2.2.2.1 (Int32.toInt_inj.mp (hor.trans (by decide)))))
    · refine x_tableIn (off := 539) (tgt := 572) C dL_law_33 hlo hhi (by rw [hor]; decide) (by decide) ?_
      exact x_sub [0, 1, 2, 3] rfl (ok_law_8 C Lc (fun _ _ h => h) (hw.2.2.2.2.2.2.2.2.1 (Int32.toInt_inj.mp (hor.trans (by decide)))))
    · refine x_tableIn (off := 618) (tgt := 651) C dL_law_33 hlo hhi (by rw [hor]; decide) (by decide) ?_
      exact x_sub [0, 1, 2, 3] rfl (ok_law_9 C Lc (fun _ _ h => h) (hw.2.2.2.2.2.2.2.2.2.1 (Int32.toInt_inj.mp (hor.trans (by decide)))))
    · refine x_tableIn (off := 709) (tgt := 742) C dL_law_33 hlo hhi (by rw [hor]; decide) (by decide) ?_
      exact x_sub [0, 1, 2, 3] rfl (ok_law_10 C Lc (fun _ _ h => h) (hw.2.2.2.2.2.2.2.2.2.2.1 (Int32.toInt_inj.mp (hor.trans (by decide)))))
    · refine x_tableIn (off := 742) (tgt := 775) C dL_law_33 hlo hhi (by rw [hor]; decide) (by decide) ?_
      exact x_sub [0, 1, 2, 3] rfl (ok_law_11 C Lc (fun _ _ h => h) (hw.2.2.2.2.2.2.2.2.2.2.2.1 (Int32.toInt_inj.mp (hor.trans (by decide)))))
    · refine x_tableIn (off := 795) (tgt := 828) C dL_law_33 hlo hhi (by rw [hor]; decide) (by decide) ?_
      exact x_sub [0, 1, 2, 3] rfl (ok_law_12 C Lc (fun _ _ h => h) (hw.2.2.2.2.2.2.2.2.2.2.2.2.1 (Int32.toInt_inj.mp (hor.trans (by decide)))))
    · refine x_tableIn (off := 858) (tgt := 891) C dL_law_33 hlo hhi (by rw [hor]; decide) (by decide) ?_
      exact x_sub [0, 1, 2, 3] rfl (ok_law_13 C Lc (fun _ _ h => h) (hw.2.2.2.2.2.2.2.2.2.2.2.2.2.1 (Int32.toInt_inj.mp (hor.trans (by decide)))))
    · refine x_tableIn (off := 961) (tgt := 994) C dL_law_33 hlo hhi (by rw [hor]; decide) (by decide) ?_
      exact x_sub [0, 1, 2, 3] rfl (ok_law_14 C Lc (fun _ _ h => h) (hw.2.2.2.2.2.2.2.2.2.2.2.2.2.2.1 (Int32.toInt_inj.mp (hor.trans (by decide)))))
    · refine x_tableIn (off := 984) (tgt := 1017) C dL_law_33 hlo hhi (by rw [hor]; decide) (by decide) ?_
      exact x_sub [0, 1, 2, 3] rfl (ok_law_15 C Lc (fun _ _ h => h) (hw.2.2.2.2.2.2.2.2.2.2.2.2.2.2.2.1 (Int32.toInt_inj.mp (hor.trans (by decide)))))
    · refine x_tableIn (off := 997) (tgt := 1030) C dL_law_33 hlo hhi (by rw [hor]; decide) (by decide) ?_
      exact x_sub [0, 1, 2, 3] rfl (ok_law_16 C Lc (fun _ _ h => h) (hw.2.2.2.2.2.2.2.2.2.2.2.2.2.2.2.2.1 (Int32.toInt_inj.mp (hor.trans (by decide)))))
    · refine x_tableIn (off := 1020) (tgt := 1053) C dL_law_33 hlo hhi (by rw [hor]; decide) (by decide) ?_
      exact x_sub [0, 1, 2, 3] rfl (ok_law_17 C Lc (fun _ _ h => h) (hw.2.2.2.2.2.2.2.2.2.2.2.2.2.2.2.2.2.1 (Int32.toInt_inj.mp (hor.trans (by decide)))))
    · refine x_tableIn (off := 1043) (tgt := 1076) C dL_law_33 hlo hhi (by rw [hor]; decide) (by decide) ?_
      exact x_sub [0, 1, 2, 3] rfl (ok_law_18 C Lc (fun _ _ h => h) (hw.2.2.2.2.2.2.2.2.2.2.2.2.2.2.2.2.2.2.1 (Int32.toInt_inj.mp (hor.trans (by decide)))))
    · refine x_tableIn (off := 1076) (tgt := 1109) C dL_law_33 hlo hhi (by rw [hor]; decide) (by decide) ?_
      exact x_sub [0, 1, 2, 3] rfl (ok_law_19 C Lc (fun _ _ h => h) (hw.2.2.2.2.2.2.2.2.2.2.2.2.2.2.2.2.2.2.2.1 (Int32.toInt_inj.mp (hor.trans (by decide)))))
    · refine x_tableIn (off := 1089) (tgt := 1122) C dL_law_33 hlo hhi (by rw [hor]; decide) (by decide) ?_
      exact x_sub [0, 1, 2, 3] rfl (ok_law_20 C Lc (fun _ _ h => h) (hw.2.2.2.2.2.2.2.2.2.2.2.2.2.2.2.2.2.2.2.2.1 (Int32.toInt_inj.mp (hor.trans (by decide)))))
    · refine x_tableIn (off := 1164) (tgt := 1197) C dL_law_33 hlo hhi (by rw [hor]; decide) (by decide) ?_
      exact x_sub [0, 1, 2, 3] rfl (ok_law_21 C Lc (fun _ _ h => h) (hw.2.2.2.2.2.2.2.2.2.2.2.2.2.2.2.2.2.2.2.2.2.1 (Int32.toInt_inj.mp (hor.trans (by decide)))))
    · refine x_tableIn (off := 1239) (tgt := 1272) C dL_law_33 hlo hhi (by rw [hor]; decide) (by decide) ?_
      exact x_sub [0, 1, 2, 3] rfl (ok_law_22 C Lc (fun _ _ h => h) (hw.2.2.2.2.2.2.2.2.2.2.2.2.2.2.2.2.2.2.2.2.2.2.1 (Int32.toInt_inj.mp (hor.trans (by decide)))))
    · refine x_tableIn (off := 1273) (tgt := 1306) C dL_law_33 hlo hhi (by rw [hor]; decide) (by decide) ?_
      exact x_sub [0, 1, 2, 3] rfl (ok_law_23 C Lc (fun _ _ h => h) (hw.2.2.2.2.2.2.2.2.2.2.2.2.2.2.2.2.2.2.2.2.2.2.2.1 (Int32.toInt_inj.mp (hor.trans (by decide)))))
    · refine x_tableIn (off := 1322) (tgt := 1355) C dL_law_33 hlo hhi (by rw [hor]; decide) (by decide) ?_
      exact x_sub [0, 1, 2, 3] rfl (ok_law_24 C Lc (fun _ _ h => h) (hw.2.2.2.2.2.2.2.2.2.2.2.2.2.2.2.2.2.2.2.2.2.2.2.2.1 (Int32.toInt_inj.mp (hor.trans (by decide)))))
    · refine x_tableIn (off := 1386) (tgt := 1419) C dL_law_33 hlo hhi (by rw [hor]; decide) (by decide) ?_
      exact x_sub [0, 1, 2, 3] rfl (ok_law_25 C Lc (fun _ _ h => h) (hw.2.2.2.2.2.2.2.2.2.2.2.2.2.2.2.2.2.2.2.2.2.2.2.2.2.1 (Int32.toInt_inj.mp (hor.trans (by decide)))))
    · refine x_tableIn (off := 1474) (tgt := 1507) C dL_law_33 hlo hhi (by rw [hor]; decide) (by decide) ?_
      exact x_sub [0, 1, 2, 3] rfl (ok_law_26 C Lc (fun _ _ h => h) (hw.2.2.2.2.2.2.2.2.2.2.2.2.2.2.2.2.2.2.2.2.2.2.2.2.2.2.1 (Int32.toInt_inj.mp (hor.trans (by decide)))))
    · refine x_tableIn (off := 1527) (tgt := 1560) C dL_law_33 hlo hhi (by rw [hor]; decide) (by decide) ?_
      exact x_sub [0, 1, 2, 3] rfl (ok_law_27 C Lc (fun _ _ h => h) (hw.2.2.2.2.2.2.2.2.2.2.2.2.2.2.2.2.2.2.2.2.2.2.2.2.2.2.2.1 (Int32.toInt_inj.mp (hor.trans (by decide)))))
    · refine x_tableIn (off := 1550) (tgt := 1583) C dL_law_33 hlo hhi (by rw [hor]; decide) (by decide) ?_
      exact x_sub [0, 1, 2, 3] rfl (ok_law_28 C Lc (fun _ _ h => h) (hw.2.2.2.2.2.2.2.2.2.2.2.2.2.2.2.2.2.2.2.2.2.2.2.2.2.2.2.2.1 (Int32.toInt_inj.mp (hor.trans (by decide)))))
    · refine x_tableIn (off := 1563) (tgt := 1596) C dL_law_33 hlo hhi (by rw [hor]; decide) (by decide) ?_
      exact x_sub [0, 1, 2, 3] rfl (ok_law_29 C Lc (fun _ _ h => h) (hw.2.2.2.2.2.2.2.2.2.2.2.2.2.2.2.2.2.2.2.2.2.2.2.2.2.2.2.2.2.1 (Int32.toInt_inj.mp (hor.trans (by decide)))))
    · refine x_tableIn (off := 1576) (tgt := 1609) C dL_law_33 hlo hhi (by rw [hor]; decide) (by decide) ?_
      exact x_sub [0, 1, 2, 3] rfl (ok_law_30 C Lc (fun _ _ h => h) (hw.2.2.2.2.2.2.2.2.2.2.2.2.2.2.2.2.2.2.2.2.2.2.2.2.2.2.2.2.2.2.1 (Int32.toInt_inj.mp (hor.trans (by decide)))))
    · refine x_tableIn (off := 1619) (tgt := 1652) C dL_law_33 hlo hhi (by rw [hor]; decide) (by decide) ?_
      exact x_sub [0, 1, 2, 3] rfl (ok_law_31 C Lc (fun _ _ h => h) (hw.2.2.2.2.2.2.2.2.2.2.2.2.2.2.2.2.2.2.2.2.2.2.2.2.2.2.2.2.2.2.2.1 (Int32.toInt_inj.mp (hor.trans (by decide)))))
    · refine x_tableIn (off := 1652) (tgt := 1685) C dL_law_33 hlo hhi (by rw [hor]; decide) (by decide) ?_
      exact x_sub [0, 1, 2, 3] rfl (ok_law_32 C Lc (fun _ _ h => h) (hw.2.2.2.2.2.2.2.2.2.2.2.2.2.2.2.2.2.2.2.2.2.2.2.2.2.2.2.2.2.2.2.2.1 (Int32.toInt_inj.mp (hor.trans (by decide)))))
    · refine x_tableIn (off := 1665) (tgt := 1698) C dL_law_33 hlo hhi (by rw [hor]; decide) (by decide) ?_
      exact x_sub [0, 1, 2, 3] rfl (ok_law_33 C Lc (fun _ _ h => h) (hw.2.2.2.2.2.2.2.2.2.2.2.2.2.2.2.2.2.2.2.2.2.2.2.2.2.2.2.2.2.2.2.2.2.1 (Int32.toInt_inj.mp (hor.trans (by decide)))))
    · refine x_tableIn (off := 1688) (tgt := 1721) C dL_law_33 hlo hhi (by rw [hor]; decide) (by decide) ?_
      exact x_sub [0, 1, 2, 3] rfl (ok_law_34 C Lc (fun _ _ h => h) (hw.2.2.2.2.2.2.2.2.2.2.2.2.2.2.2.2.2.2.2.2.2.2.2.2.2.2.2.2.2.2.2.2.2.2.1 (Int32.toInt_inj.mp (hor.trans (by decide)))))
    · refine x_tableIn (off := 1711) (tgt := 1744) C dL_law_33 hlo hhi (by rw [hor]; decide) (by decide) ?_
      exact x_sub [0, 1, 2, 3] rfl (ok_law_35 C Lc (fun _ _ h => h) (hw.2.2.2.2.2.2.2.2.2.2.2.2.2.2.2.2.2.2.2.2.2.2.2.2.2.2.2.2.2.2.2.2.2.2.2.1 (Int32.toInt_inj.mp (hor.trans (by decide)))))
    · refine x_tableIn (off := 1734) (tgt := 1767) C dL_law_33 hlo hhi (by rw [hor]; decide) (by decide) ?_
      exact x_sub [0, 1, 2, 3] rfl (ok_law_36 C Lc (fun _ _ h => h) (hw.2.2.2.2.2.2.2.2.2.2.2.2.2.2.2.2.2.2.2.2.2.2.2.2.2.2.2.2.2.2.2.2.2.2.2.2.1 (Int32.toInt_inj.mp (hor.trans (by decide))))))

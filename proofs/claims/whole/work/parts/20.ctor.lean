/-! making cells -/
theorem wl_push {g : Gl} {K : Nat} {M : Mem} {H H1 : Heap} (hP : va_P (g.1, g.2.1) vwCl (wl g K M) H) (hk : ∀ q : Nat, q < H.size → H1[q]? = H[q]?) (hat : va_at (g.1, g.2.1) vwCl (g.2.2.2 + K, cE g (uN M K) K) H1) : va_P (g.1, g.2.1) vwCl (wl g (K + 1) (uN M K)) H1 := by
  intro k q hq
  have hlt : k < K + 1 := by
    have := (List.getElem?_eq_some_iff.mp hq).1
    simpa [wl] using this
  rw [wl_get hlt] at hq
  cases hq
  by_cases h : k = K
  · subst h; exact hat
  · have h1 := hP k _ (wl_get (by omega))
    rw [← uN_ne (g := g) (M := M) (k := K) k h] at h1
    exact h1.kept (hk _ h1.lt)
def okTy (t : FieldType) : Bool := match t with
  | .int => true
  | .boolean => true
  | .long => true
  | .object _ => true
  | .array _ => true
  | _ => false
theorem fv_new {sz : Nat} {M : Mem} {k j : Nat} {t : FieldType} (h : okTy t = true) : defaultValue t = fv sz (uN M k) k j t := by
  cases t <;> first | rfl | (simp [fv, uN, defaultValue, va_rf]; done) | (cases h)
section XK
variable {c : CtxT} {κ : Nat × Nat × Nat} {pc : Nat} {lv : List (Nat × Value)} {st rest : List Value} {M M1 : Mem} {cc : ByteArray} {nL : Nat} {own : String} {g : Gl} {l : Launch} {rm : Room}
theorem k_new {ci index N : Nat} {Cn : String} {T : u_T} (C : Cx c cc nL own g l rm) (hci : CI ci Cn T N) (hs : sh κ.1 = .inl ci) (hty : ∀ j, j < N → okTy (cty ci j) = true) (w1 : Cond.classLink own index Cn ∈ gtb) (w2 : Cond.instantiable Cn N ∈ gtb) (w3 : Cond.initialized Cn ∈ gtb) (hr : κ.2.1 + 1 ≤ rm.cells ∧ κ.2.2 + N ≤ rm.slots) (hM : M1 = uN M κ.1) (d : decode cc pc = .ok (.new index, 3)) (kk : X c (κ.1 + 1, κ.2.1 + 1, κ.2.2 + N) (pc + 3) lv (.ref (g.2.2.2 + κ.1) :: st) M1) : X c κ pc lv st M := by
  obtain ⟨p, l, e, R, s, m, args, below, meth, co, Q, g⟩ := c
  obtain ⟨rfl, rfl, hx, hb, hml, hown, hts, hK, hN, hsz, hlk, hstr, rfl⟩ := C
  obtain ⟨h1, h2, h3, h4, h5⟩ := hci
  have hKT : κ.1 < KT := sh_lt hs
  intro H locs ls hP hS hz hl
  have hKn := hK.1 ci _ h1
  refine W.newcK hx hb hown (hts _ w1) (hts _ w2) (hts _ w3) rfl d hr.1 hr.2 hKn.2.1 (hz hKT) fun H1 kC hkC e1 z1 o1 => ?_
  subst hM
  refine kk H1 locs ls (wl_push hP (fun q hq => o1 q (by rw [← hz hKT]; exact hq)) ?_) ⟨Nat.le_trans hS.1 (by rw [z1, hz hKT]; omega), fun q q1 q2 => (o1 q (by rw [← hz hKT]; exact Nat.lt_of_lt_of_le q1 hS.1)).trans (hS.2.1 q q1 q2), hS.2.2⟩ (fun _ => by rw [z1]; omega) hl
  rw [cE_o hs]
  refine ⟨_, h1, (u_born (cty ci) hts h3 hKn hkC e1 h4).to (fun j hj => ?_)⟩
  show _ = vp_V _ j
  rw [fv_new (sz := g.2.2.2) (M := M) (k := κ.1) (j := j) (hty j hj)]
  simp [vp_V, h2, hj]
theorem k_newa {atype : ArrayType} {n : Int32} {N t : Nat} {ty : FieldType} (C : Cx c cc nL own g l rm) (w1 : Cond.arrayClass (newarray.typeOf atype) ∈ gtb) (ht : newarray.typeOf atype = ty) (hq : (t = 0 ∧ ty = .int) ∨ (t = 1 ∧ ty = .long) ∨ (t = 2 ∧ ty = .boolean)) (hs : isA t κ.1) (hl0 : len κ.1 = N) (hn : ¬ n < 0) (hN : n.toNatClampNeg = N) (hby : N * componentBytes ty ≤ 536870912) (hr : κ.2.1 + 1 ≤ rm.cells ∧ κ.2.2 + N ≤ rm.slots) (hM : M1 = uN M κ.1) (d : decode cc pc = .ok (.newarray atype, 2)) (kk : X c (κ.1 + 1, κ.2.1 + 1, κ.2.2 + N) (pc + 2) lv (.ref (g.2.2.2 + κ.1) :: st) M1) : X c κ pc lv (.int n :: st) M := by
  obtain ⟨p, l, e, R, s, m, args, below, meth, co, Q, g⟩ := c
  obtain ⟨rfl, rfl, hx, hb, hml, hown, hts, hK, hN0, hsz, hlk, hstr, rfl⟩ := C
  have hKT : κ.1 < KT := isA_lt (by rcases hq with h | h | h <;> omega) hs
  intro H locs ls hP hS hz hl
  subst ht
  refine va_newaK hx hb (hts _ w1) rfl d rfl hn hN hby hr.1 hr.2 (hz hKT) fun H1 cA e1 z1 o1 hAr hNm => ?_
  subst hM
  refine kk H1 locs ls (wl_push hP (fun q hq => o1 q (by rw [← hz hKT]; exact hq)) ?_) ⟨Nat.le_trans hS.1 (by rw [z1, hz hKT]; omega), fun q q1 q2 => (o1 q (by rw [← hz hKT]; exact Nat.lt_of_lt_of_le q1 hS.1)).trans (hS.2.1 q q1 q2), hS.2.2⟩ (fun _ => by rw [z1]; omega) hl
  rcases hq with ⟨rfl, hq⟩ | ⟨rfl, hq⟩ | ⟨rfl, hq⟩
  · rw [cE_i hs, hl0]
    have hc : cA = g.2.2.1 0 := by
      have h9 : s.vm.findClass ("[" ++ FieldType.int.toString) = some (g.2.2.1 0) := (hK.2 0 _ rfl).2
      rw [hq] at hNm
      exact Option.some.inj (hNm.symm.trans h9)
    show H1[_]? = some (vp_cell _ _)
    rw [vp_cell_i, e1, hq, hc]
    simp [uN, defaultValue]
  · rw [cE_l hs, hl0]
    have hc : cA = g.2.2.1 1 := by
      have h9 : s.vm.findClass ("[" ++ FieldType.long.toString) = some (g.2.2.1 1) := (hK.2 1 _ rfl).2
      rw [hq] at hNm
      exact Option.some.inj (hNm.symm.trans h9)
    show H1[_]? = some (vp_cell _ _)
    rw [vp_cell_l, e1, hq, hc]
    simp [uN, defaultValue]
  · rw [cE_z hs, hl0]
    have hc : cA = g.2.2.1 2 := by
      have h9 : s.vm.findClass ("[" ++ FieldType.boolean.toString) = some (g.2.2.1 2) := (hK.2 2 _ rfl).2
      rw [hq] at hNm
      exact Option.some.inj (hNm.symm.trans h9)
    show H1[_]? = some (vp_cell _ _)
    rw [vp_cell_i, e1, hq, hc]
    simp [uN, defaultValue]
theorem k_newq {index : Nat} {n : Int32} {N t : Nat} {Cn : String} (C : Cx c cc nL own g l rm) (w1 : Cond.classLink own index Cn ∈ gtb) (hq : (t = 3 ∧ Cn = "FastWhy$Machine") ∨ (t = 4 ∧ Cn = "FastWhy$Store")) (hs : isA t κ.1) (hl0 : len κ.1 = N) (hn : ¬ n < 0) (hN : n.toNatClampNeg = N) (hby : N * 4 ≤ 536870912) (hr : κ.2.1 + 1 ≤ rm.cells ∧ κ.2.2 + N ≤ rm.slots) (hM : M1 = uN M κ.1) (d : decode cc pc = .ok (.anewarray index, 3)) (kk : X c (κ.1 + 1, κ.2.1 + 1, κ.2.2 + N) (pc + 3) lv (.ref (g.2.2.2 + κ.1) :: st) M1) : X c κ pc lv (.int n :: st) M := by
  obtain ⟨p, l, e, R, s, m, args, below, meth, co, Q, g⟩ := c
  obtain ⟨rfl, rfl, hx, hb, hml, hown, hts, hK, hN0, hsz, hlk, hstr, rfl⟩ := C
  have hKT : κ.1 < KT := isA_lt (by rcases hq with h | h <;> omega) hs
  intro H locs ls hP hS hz hl
  subst hN
  have hover : va_AO Cn s := by
    rcases hq with ⟨-, rfl⟩ | ⟨-, rfl⟩
    · exact hN0.2.1
    · exact hN0.2.2
  refine W.anew hx hb hown (hts _ w1) (va_AO.use hover) rfl d rfl hn hby hr.1 hr.2 fun cA kA comp f1 f2 f3 f4 => ?_
  generalize hH1 : H.push ({ cls := cA, slots := Array.replicate n.toNatClampNeg .null, vm := .none } : Cell) = H1
  have z1 : H1.size = H.size + 1 := by rw [← hH1, Array.size_push]
  have e1 : H1[H.size]? = some (arrV cA n.toNatClampNeg (fun _ => .null)) := by rw [← hH1, Array.getElem?_push_size, ← arrV_new]
  have o1 : ∀ q : Nat, q < H.size → H1[q]? = H[q]? := fun q hq => by rw [← hH1, Array.getElem?_push, if_neg (Nat.ne_of_lt hq)]
  subst hM
  rw [hz hKT]
  refine kk H1 locs ls (wl_push hP o1 ?_) ⟨Nat.le_trans hS.1 (by rw [z1]; omega), fun q q1 q2 => (o1 q (Nat.lt_of_lt_of_le q1 hS.1)).trans (hS.2.1 q q1 q2), hS.2.2⟩ (fun _ => by rw [z1, hz hKT]; show _ = g.2.2.2 + (κ.1 + 1); omega) hl
  rw [hz hKT] at e1
  rcases hq with ⟨rfl, rfl⟩ | ⟨rfl, rfl⟩
  · obtain ⟨kA', comp', g1, g2, g3, g4⟩ := (hK.2 3 _ rfl).2
    have hc : cA = g.2.2.1 3 := Option.some.inj (f1.symm.trans g4)
    rw [cE_3 hs, hl0]
    show H1[_]? = some (vp_cell _ _)
    rw [vp_cell_q, e1, hc]
    simp [uN, va_rf]
  · obtain ⟨kA', comp', g1, g2, g3, g4⟩ := (hK.2 4 _ rfl).2
    have hc : cA = g.2.2.1 4 := Option.some.inj (f1.symm.trans g4)
    rw [cE_4 hs, hl0]
    show H1[_]? = some (vp_cell _ _)
    rw [vp_cell_q, e1, hc]
    simp [uN, va_rf]
theorem k_aast {k v ni t ci : Nat} {i : Int32} {r : vw_C} (C : Cx c cc nL own g l rm) (hk : k < κ.1) (hv : v < κ.1) (hq : (t = 3 ∧ r.1 = "FastWhy$Machine") ∨ (t = 4 ∧ r.1 = "FastWhy$Store")) (hs : isA t k) (hsv : sh v = .inl ci) (hc : vwCl[ci]? = some r) (hi : i.toNatClampNeg = ni) (hin : vp_in i (len k)) (hM : M1 = uR M k ni (some v)) (d : decode cc pc = .ok (.aastore, 1)) (kk : X c κ (pc + 1) lv st M1) : X c κ pc lv (.ref (g.2.2.2 + v) :: .int i :: .ref (g.2.2.2 + k) :: st) M := by
  obtain ⟨p, l, e, R, s, m, args, below, meth, co, Q, g⟩ := c
  obtain ⟨rfl, rfl, hx, hb, hml, hown, hts, hK, hN0, hsz, hlk, hstr, rfl⟩ := C
  intro H locs ls hP hS hz hl
  have hlt := vp_lt hin
  have h0 : ¬ i < 0 := fun q => hin (Or.inl q)
  obtain ⟨r', hr', cellV, g1, g2, g3, -⟩ : va_at (g.1, g.2.1) vwCl (g.2.2.2 + v, .inr (ci, _)) H := by
    have := hP v _ (wl_get hv); rw [cE_o hsv] at this; exact this
  have hcls := (hK.1 ci r hc).2
  obtain ⟨kC, hkC, -⟩ := hcls.2
  subst hi; subst hM
  rcases hq with ⟨rfl, hr1⟩ | ⟨rfl, hr1⟩
  · obtain ⟨kA, comp, k1, k2, k3, -⟩ := (hK.2 3 _ rfl).2
    rw [← hr1] at k3
    have hcomp : comp = g.1 ci := Option.some.inj (k3.symm.trans hcls.1)
    subst hcomp
    have hat : H[g.2.2.2 + k]? = some (arrV (g.2.2.1 3) (len k) (fun j => va_rf ((M.2.2 k j).map (fun q => g.2.2.2 + q)))) := by
      have := hP k _ (wl_get hk); rw [cE_3 hs] at this; exact this
    refine W.aast hx hb hat (fun q h => by cases h) (fun h => by cases h) k1 k2 rfl hkC ⟨h0, by rw [arrV_size]; exact hlt⟩ g1 (fun q h => by rw [g3] at h; cases h) (by rw [g2]; exact hkC) (by rw [g2]; exact va_assign hcls) rfl rfl d fun H1 e1 e2 e3 => ?_
    refine kk H1 _ ls (wl_put hP hk e3 ?_ (fun a h => uR_ne a h)) (hS.put e2 e3 (Nat.le_add_right _ _)) (fun h => e2.trans (hz h)) hl
    rw [cE_3 hs]
    show H1[_]? = some (vp_cell _ _)
    rw [vp_cell_q, e1, arrV_store]
    congr 2
    funext q
    by_cases hq : q = i.toNatClampNeg <;> simp [updV, uR, va_rf, hq]
  · obtain ⟨kA, comp, k1, k2, k3, -⟩ := (hK.2 4 _ rfl).2
    rw [← hr1] at k3
    have hcomp : comp = g.1 ci := Option.some.inj (k3.symm.trans hcls.1)
    subst hcomp
    have hat : H[g.2.2.2 + k]? = some (arrV (g.2.2.1 4) (len k) (fun j => va_rf ((M.2.2 k j).map (fun q => g.2.2.2 + q)))) := by
      have := hP k _ (wl_get hk); rw [cE_4 hs] at this; exact this
    refine W.aast hx hb hat (fun q h => by cases h) (fun h => by cases h) k1 k2 rfl hkC ⟨h0, by rw [arrV_size]; exact hlt⟩ g1 (fun q h => by rw [g3] at h; cases h) (by rw [g2]; exact hkC) (by rw [g2]; exact va_assign hcls) rfl rfl d fun H1 e1 e2 e3 => ?_
    refine kk H1 _ ls (wl_put hP hk e3 ?_ (fun a h => uR_ne a h)) (hS.put e2 e3 (Nat.le_add_right _ _)) (fun h => e2.trans (hz h)) hl
    rw [cE_4 hs]
    show H1[_]? = some (vp_cell _ _)
    rw [vp_cell_q, e1, arrV_store]
    congr 2
    funext q
    by_cases hq : q = i.toNatClampNeg <;> simp [updV, uR, va_rf, hq]
theorem k_objInit {idx a : Nat} (C : Cx c cc nL own g l rm) (w1 : Cond.methodLink own idx Lib.objectInit ∈ gtb) (w2 : Cond.instanceMethod Lib.objectInit ∈ gtb) (w3 : Cond.code Lib.objectInit ⟨#[0xb1]⟩ 1 none ∈ gtb) (hf : 1 ≤ rm.frames) (hlo : 20 ≤ rm.locals) (hroom : (st.map fun v => v.category).sum ≤ 8) (d : decode cc pc = .ok (.invokespecial idx, 3)) (kk : X c κ (pc + 3) lv st M) : X c κ pc lv (.ref a :: st) M := by
  obtain ⟨p, l, e, R, s, m, args, below, meth, co, Q, g⟩ := c
  obtain ⟨rfl, rfl, hx, hb, hml, hown, hts, hK, hN0, hsz, hlk, hstr, rfl⟩ := C
  exact fun H locs ls hP hS hz hl => W.objInit hx hb hown (hts _ w1) (hts _ w2) (hts _ w3) rfl hl.1 rfl d hf (by show 2 * 0 + _ + 12 ≤ _; omega) (kk H locs ls hP hS hz hl)
def MI (own : String) (index : Nat) (y : MethodName) (bytes : ByteArray) (maxL : Nat) : Prop := Cond.methodLink own index y ∈ gtb ∧ Cond.instanceMethod y ∈ gtb ∧ Cond.initialized y.cls ∈ gtb ∧ Cond.code y bytes maxL none ∈ gtb ∧ (y.cls ≠ "java/lang/invoke/MethodHandle" ∧ y.cls ≠ "java/lang/invoke/VarHandle" ∧ (parseMethodDescriptor y.desc).map (fun d => d.parameters.length) = some 0) ∧ y.name = "<init>"
def MIN (own : String) (index : Nat) (y : MethodName) (host : String) (bytes : ByteArray) (maxL : Nat) : Prop := (own, index, y, host) ∈ nestW ∧ Cond.instanceMethod y ∈ gtb ∧ Cond.initialized y.cls ∈ gtb ∧ Cond.code y bytes maxL none ∈ gtb ∧ (y.cls ≠ "java/lang/invoke/MethodHandle" ∧ y.cls ≠ "java/lang/invoke/VarHandle" ∧ (parseMethodDescriptor y.desc).map (fun d => d.parameters.length) = some 0) ∧ y.name = "<init>"
variable {index : Nat} {y : MethodName} {bytes : ByteArray} {maxL fr lo mc ms : Nat} {post : Option Value → Nat → Mem → Prop}
theorem k_callI {b : Nat} (C : Cx c cc nL own g l rm) (hM : Ct g l y bytes maxL none fr lo [.ref (g.2.2.2 + b)] κ.1 mc ms M post) (ml : MI own index y bytes maxL) (hR : fr + 1 ≤ rm.frames ∧ 8 + (maxL + 11) + lo ≤ rm.locals) (hroom : (rest.map fun v => v.category).sum ≤ 8) (hf : κ.2.1 + mc ≤ rm.cells ∧ κ.2.2 + ms ≤ rm.slots) (d : decode cc pc = .ok (.invokespecial index, 3)) (k : ∀ (r : Option Value) (K : Nat) (M' : Mem), post r K M' → X c (K, κ.2.1 + mc, κ.2.2 + ms) (pc + 3) lv (r.toList ++ rest) M') : X c κ pc lv (.ref (g.2.2.2 + b) :: rest) M := by
  obtain ⟨p, l, e, R, s, m, args, below, meth, co, Q, g⟩ := c
  obtain ⟨rfl, rfl, hx, hb, hml, hown, hts, hK, hN, hsz, hlk, hstr, rfl⟩ := C
  obtain ⟨m1, m2, m3, m4, m5, m6⟩ := ml
  intro H locs ls hP hS hz hl
  refine qm_call (va_runI (As := []) (rest := rest) ⟨hx, hb, hml, hown, hts⟩ hM ⟨callB_of 0 hts (good_code m4) rfl rfl rfl (hts _ m3) (hts _ m1) m5 hR, m6, hts _ m2⟩ ⟨hld_blind, fun U hU hW => ⟨rfl, hld_at hP hz hK hN (Nat.le_trans hsz hS.1) (hstr.kept (fun a h1 h2 => hS.2.1 a h1 h2)) U hU hW⟩⟩ rfl rfl (hl.1.trans hml) rfl (lv_room hroom) d hf) hS (fun r K M' H1 locs1 hp hP1 hS1 hz1 => k r K M' hp H1 locs1 ls hP1 hS1 hz1 hl)
theorem k_callIN {b : Nat} {host : String} (C : Cx c cc nL own g l rm) (hM : Ct g l y bytes maxL none fr lo [.ref (g.2.2.2 + b)] κ.1 mc ms M post) (ml : MIN own index y host bytes maxL) (hR : fr + 1 ≤ rm.frames ∧ 8 + (maxL + 11) + lo ≤ rm.locals) (hroom : (rest.map fun v => v.category).sum ≤ 8) (hf : κ.2.1 + mc ≤ rm.cells ∧ κ.2.2 + ms ≤ rm.slots) (d : decode cc pc = .ok (.invokespecial index, 3)) (k : ∀ (r : Option Value) (K : Nat) (M' : Mem), post r K M' → X c (K, κ.2.1 + mc, κ.2.2 + ms) (pc + 3) lv (r.toList ++ rest) M') : X c κ pc lv (.ref (g.2.2.2 + b) :: rest) M := by
  obtain ⟨p, l, e, R, s, m, args, below, meth, co, Q, g⟩ := c
  obtain ⟨rfl, rfl, hx, hb, hml, hown, hts, hK, hN, hsz, hlk, hstr, rfl⟩ := C
  obtain ⟨m1, m2, m3, m4, m5, m6⟩ := ml
  intro H locs ls hP hS hz hl
  refine qm_call (va_runIN (As := []) (rest := rest) ⟨hx, hb, hml, hown, hts⟩ hM ⟨va_cnB 0 hts (good_code m4) rfl rfl rfl (hN.1 _ m1) (hts _ m3) m5 hR, m6, hts _ m2⟩ ⟨hld_blind, fun U hU hW => ⟨rfl, hld_at hP hz hK hN (Nat.le_trans hsz hS.1) (hstr.kept (fun a h1 h2 => hS.2.1 a h1 h2)) U hU hW⟩⟩ rfl rfl (hl.1.trans hml) rfl (lv_room hroom) d hf) hS (fun r K M' H1 locs1 hp hP1 hS1 hz1 => k r K M' hp H1 locs1 ls hP1 hS1 hz1 hl)
end XK
/-- a row filled -/
def flI (M : Mem) (k n : Nat) (v : Int32) : Mem := (fun a b => if a = k ∧ b < n then v else M.1 a b, M.2.1, M.2.2)
theorem flI_0 (M : Mem) (k : Nat) (v : Int32) : flI M k 0 v = M := by
  refine Prod.ext ?_ rfl
  funext a b
  simp [flI]
theorem flI_succ (M : Mem) (k n : Nat) (v : Int32) : uI (flI M k n v) k n v = flI M k (n + 1) v := by
  refine Prod.ext ?_ rfl
  funext a b
  simp only [uI, flI]
  by_cases h1 : a = k
  · by_cases h2 : b = n
    · simp [h1, h2]
    · by_cases h3 : b < n
      · have : b < n + 1 := by omega
        simp [h1, h3, this]
      · have : ¬ b < n + 1 := by omega
        simp [h1, h2, h3, this]
  · simp [h1]
set_option maxRecDepth 100000 in
set_option maxHeartbeats 4000000 in
/-- Arrays.fill at any time -/
theorem ok_fillG {g : Gl} {l : Launch} {k K : Nat} {v : Int32} {M : Mem} {post : Option Value → Nat → Mem → Prop} (hk : k < K) (hs : isA 0 k) (hL : len k < 2 ^ 31) (hw : post none K (flI M k (len k) v)) : Ct g l yJ7_fill_53178 cJ7_fill_53178 4 none 1 0 [.ref (g.2.2.2 + k), .int v] K 0 0 M post := by
  refine ct_intro (by decide +kernel) (Nat.le_of_ble_eq_true rfl) (fun c C r _ => ?_)
  have C : Cx c cJ7_fill_53178 4 RJ7 g l (Rm 1 0) := C
  refine x_sub [0, 1] (lv' := [(0, .ref (g.2.2.2 + k)), (1, .int v)]) rfl ?_
  refine x_iconst (v := (0 : Int32)) C dJ7_fill_53178_0 (by decide) ?_
  refine x_istore_n C dJ7_fill_53178_1 rfl (Nat.le_of_ble_eq_true rfl) ?_
  refine x_aload_n C dJ7_fill_53178_2 rfl rfl ?_
  refine xg_alen C hk hs (by decide) dJ7_fill_53178_3 ?_
  refine x_istore_n C dJ7_fill_53178_4 rfl (Nat.le_of_ble_eq_true rfl) ?_
  refine x_sub [0, 1, 2, 3] (lv' := [(0, .ref (g.2.2.2 + k)), (1, .int v), (2, .int 0), (3, .int (Int32.ofNat (len k)))]) rfl ?_
  have key : ∀ n i : Nat, i + n = len k → X c (K, 0, 0) 5 [(0, .ref (g.2.2.2 + k)), (1, .int v), (2, .int (Int32.ofNat i)), (3, .int (Int32.ofNat (len k)))] [] (flI M k i v) := by
    intro n
    induction n with
    | zero =>
      intro i hi
      refine x_iload_n C dJ7_fill_53178_5 rfl rfl ?_
      refine x_iload_n C dJ7_fill_53178_6 rfl rfl ?_
      refine x_icmp_ge (tgt := 20) C dJ7_fill_53178_7 (by decide) (fun _ => ?_) (fun h => ?_)
      · rw [show i = len k by omega]
        exact x_vreturn C r dJ7_fill_53178_20 hw
      · exact absurd (by rw [show i = len k by omega]; exact Int32.le_refl _) h
    | succ n ih =>
      intro i hi
      have h1 : (Int32.ofNat i).toInt = i := Int32.toInt_ofNat_of_lt (by omega)
      have h2 : (Int32.ofNat (len k)).toInt = len k := Int32.toInt_ofNat_of_lt (by omega)
      have h3 : (Int32.ofNat i).toNatClampNeg = i := by show (Int32.ofNat i).toInt.toNat = i; rw [h1]; omega
      refine x_iload_n C dJ7_fill_53178_5 rfl rfl ?_
      refine x_iload_n C dJ7_fill_53178_6 rfl rfl ?_
      refine x_icmp_ge (tgt := 20) C dJ7_fill_53178_7 (by decide) (fun h => ?_) (fun _ => ?_)
      · have := Int32.le_iff_toInt_le.mp h
        rw [h1, h2] at this
        omega
      · refine x_aload_n C dJ7_fill_53178_10 rfl rfl ?_
        refine x_iload_n C dJ7_fill_53178_11 rfl rfl ?_
        refine x_iload_n C dJ7_fill_53178_12 rfl rfl ?_
        refine xg_iast C hk hs (fun h => ?_) dJ7_fill_53178_13 ?_
        · rcases h with h | h
          · have := Int32.lt_iff_toInt_lt.mp h
            rw [h1] at this
            simp at this
            omega
          · rw [h3] at h; omega
        rw [h3, flI_succ]
        refine x_iinc (v := Int32.ofNat (i + 1)) C dJ7_fill_53178_14 rfl ?_ (Nat.le_of_ble_eq_true rfl) ?_
        · apply Int32.toInt_inj.mp
          have h4 : (Int32.ofNat (i + 1)).toInt = ((i + 1 : Nat) : Int) := Int32.toInt_ofNat_of_lt (by omega)
          rw [h4, Int32.toInt_add, h1]
          show Int.bmod ((i : Int) + 1) (2 ^ 32) = _
          rw [Int.bmod_def]
          omega
        refine x_goto (tgt := 5) C dJ7_fill_53178_17 (by decide) ?_
        exact x_sub [0, 1, 2, 3] rfl (ih (i + 1) (by omega))
  have := key (len k) 0 (by omega)
  rw [flI_0] at this
  exact this
theorem x_kap {c : CtxT} {κ κ' : Nat × Nat × Nat} {pc : Nat} {lv : List (Nat × Value)} {st : List Value} {M : Mem} (h : κ = κ') (k : X c κ' pc lv st M) : X c κ pc lv st M := h ▸ k
section XKR
variable {c : CtxT} {κ κ' : Nat × Nat × Nat} {pc : Nat} {lv : List (Nat × Value)} {st : List Value} {M M1 : Mem} {cc : ByteArray} {nL : Nat} {own : String} {g : Gl} {l : Launch} {rm : Room}
theorem k_getR {k ci j index k' : Nat} (C : Cx c cc nL own g l rm) (f : FL own index ci j) (hk : k < κ.1) (hs : sh k = .inl ci) (ht : ∀ (sz : Nat) (N : Mem), fv sz N k j (cty ci j) = va_rf ((N.2.2 k j).map (fun q => sz + q))) (hr : M.2.2 k j = some k') (d : decode cc pc = .ok (.getfield index, 3)) (kk : X c κ (pc + 3) lv (.ref (g.2.2.2 + k') :: st) M) : X c κ pc lv (.ref (g.2.2.2 + k) :: st) M := xg_get C f hk hs ((ht _ _).trans (by rw [hr]; rfl)) d kk
theorem k_putFR {k ci j index v : Nat} (C : Cx c cc nL own g l rm) (hin : c.2.2.2.2.2.2.2.2.1.name = "<init>") (f : FF own index ci j) (hk : k < κ.1) (hs : sh k = .inl ci) (ht : ∀ (sz : Nat) (N : Mem), fv sz N k j (cty ci j) = va_rf ((N.2.2 k j).map (fun q => sz + q))) (hn : ∀ a, narrow (cty ci j) (.ref a) = .ref a) (hf : ∀ a, fits (cty ci j) (.ref a) = true) (hM : M1 = uR M k j (some v)) (d : decode cc pc = .ok (.putfield index, 3)) (kk : X c κ (pc + 3) lv st M1) : X c κ pc lv (.ref (g.2.2.2 + v) :: .ref (g.2.2.2 + k) :: st) M := by
  subst hM
  exact xg_putF (M' := uR M k j (some v)) C hin f hk hs (hn _) (hf _) ((ht _ _).trans (by simp [uR, va_rf])) (fun i hi => fv_eq rfl rfl (by simp [uR, hi])) (fun a h => uR_ne a h) d kk
theorem k_putR {k ci j index v : Nat} (C : Cx c cc nL own g l rm) (f : FP own index ci j) (hk : k < κ.1) (hs : sh k = .inl ci) (ht : ∀ (sz : Nat) (N : Mem), fv sz N k j (cty ci j) = va_rf ((N.2.2 k j).map (fun q => sz + q))) (hn : ∀ a, narrow (cty ci j) (.ref a) = .ref a) (hf : ∀ a, fits (cty ci j) (.ref a) = true) (hM : M1 = uR M k j (some v)) (d : decode cc pc = .ok (.putfield index, 3)) (kk : X c κ (pc + 3) lv st M1) : X c κ pc lv (.ref (g.2.2.2 + v) :: .ref (g.2.2.2 + k) :: st) M := by
  subst hM
  exact xg_put (M' := uR M k j (some v)) C f hk hs (hn _) (hf _) ((ht _ _).trans (by simp [uR, va_rf])) (fun i hi => fv_eq rfl rfl (by simp [uR, hi])) (fun a h => uR_ne a h) d kk
theorem k_putI {k ci j index : Nat} {v : Int32} (C : Cx c cc nL own g l rm) (f : FP own index ci j) (hk : k < κ.1) (hs : sh k = .inl ci) (ht : ∀ (sz : Nat) (N : Mem), fv sz N k j (cty ci j) = .int (N.1 k j)) (hn : narrow (cty ci j) (.int v) = .int v) (hf : fits (cty ci j) (.int v) = true) (hM : M1 = uI M k j v) (d : decode cc pc = .ok (.putfield index, 3)) (kk : X c κ (pc + 3) lv st M1) : X c κ pc lv (.int v :: .ref (g.2.2.2 + k) :: st) M := by
  subst hM
  exact xg_put (M' := uI M k j v) C f hk hs hn hf ((ht _ _).trans (by simp [uI])) (fun i hi => fv_eq (by simp [uI, hi]) rfl rfl) (fun a h => uI_ne a h) d kk
theorem k_iast {k ni : Nat} {i x : Int32} (C : Cx c cc nL own g l rm) (hk : k < κ.1) (hs : isA 0 k) (hi : i.toNatClampNeg = ni) (hin : vp_in i (len k)) (hM : M1 = uI M k ni x) (d : decode cc pc = .ok (.iastore, 1)) (kk : X c κ (pc + 1) lv st M1) : X c κ pc lv (.int x :: .int i :: .ref (g.2.2.2 + k) :: st) M := by
  subst hi; subst hM
  exact xg_iast C hk hs hin d kk
end XKR
set_option maxRecDepth 100000 in
theorem oi_inst : Cond.instanceMethod Lib.objectInit ∈ gtb := gt_mem 88 (by rfl) (by rfl)
set_option maxRecDepth 100000 in
theorem oi_code : Cond.code Lib.objectInit ⟨#[0xb1]⟩ 1 none ∈ gtb := gt_mem 89 (by decide +kernel) (by rfl)
set_option maxRecDepth 100000 in
theorem ax_int : Cond.arrayClass .int ∈ gtb := gt_mem 155 (by rfl) (by rfl)
set_option maxRecDepth 100000 in
theorem ax_long : Cond.arrayClass .long ∈ gtb := gt_mem 490 (by rfl) (by rfl)
set_option maxRecDepth 100000 in
theorem ax_boolean : Cond.arrayClass .boolean ∈ gtb := gt_mem 331 (by rfl) (by rfl)
set_option maxRecDepth 100000 in
theorem in_0 : Cond.initialized RX0 ∈ gtb := gt_mem 68 (by rfl) (by rfl)
set_option maxRecDepth 100000 in
theorem nw_0 : Cond.instantiable RX0 2 ∈ gtb := gt_mem 333 (by rfl) (by rfl)
set_option maxRecDepth 100000 in
theorem in_1 : Cond.initialized RX1 ∈ gtb := gt_mem 70 (by rfl) (by rfl)
set_option maxRecDepth 100000 in
theorem nw_1 : Cond.instantiable RX1 7 ∈ gtb := gt_mem 365 (by rfl) (by rfl)
set_option maxRecDepth 100000 in
theorem in_2 : Cond.initialized RX2 ∈ gtb := gt_mem 72 (by rfl) (by rfl)
set_option maxRecDepth 100000 in
theorem nw_2 : Cond.instantiable RX2 9 ∈ gtb := gt_mem 432 (by rfl) (by rfl)
set_option maxRecDepth 100000 in
theorem in_3 : Cond.initialized RX3 ∈ gtb := gt_mem 65 (by rfl) (by rfl)
set_option maxRecDepth 100000 in
theorem nw_3 : Cond.instantiable RX3 12 ∈ gtb := gt_mem 189 (by rfl) (by rfl)
set_option maxRecDepth 100000 in
theorem in_4 : Cond.initialized RX4 ∈ gtb := gt_mem 73 (by rfl) (by rfl)
set_option maxRecDepth 100000 in
theorem nw_4 : Cond.instantiable RX4 5 ∈ gtb := gt_mem 468 (by rfl) (by rfl)
set_option maxRecDepth 100000 in
theorem in_5 : Cond.initialized RX5 ∈ gtb := gt_mem 64 (by rfl) (by rfl)
set_option maxRecDepth 100000 in
theorem nw_5 : Cond.instantiable RX5 6 ∈ gtb := gt_mem 159 (by rfl) (by rfl)
set_option maxRecDepth 100000 in
theorem in_6 : Cond.initialized RX6 ∈ gtb := gt_mem 63 (by rfl) (by rfl)
set_option maxRecDepth 100000 in
theorem nw_6 : Cond.instantiable RX6 12 ∈ gtb := gt_mem 97 (by rfl) (by rfl)
set_option maxRecDepth 100000 in
theorem in_7 : Cond.initialized RX7 ∈ gtb := gt_mem 67 (by rfl) (by rfl)
set_option maxRecDepth 100000 in
theorem nw_7 : Cond.instantiable RX7 12 ∈ gtb := gt_mem 283 (by rfl) (by rfl)
set_option maxRecDepth 100000 in
theorem in_8 : Cond.initialized RX8 ∈ gtb := gt_mem 62 (by rfl) (by rfl)
set_option maxRecDepth 100000 in
theorem nw_8 : Cond.instantiable RX8 7 ∈ gtb := gt_mem 91 (by rfl) (by rfl)
set_option maxRecDepth 100000 in
theorem in_9 : Cond.initialized RX9 ∈ gtb := gt_mem 71 (by rfl) (by rfl)
set_option maxRecDepth 100000 in
theorem nw_9 : Cond.instantiable RX9 9 ∈ gtb := gt_mem 397 (by rfl) (by rfl)
set_option maxRecDepth 100000 in
theorem in_10 : Cond.initialized RX10 ∈ gtb := gt_mem 69 (by rfl) (by rfl)
set_option maxRecDepth 100000 in
theorem nw_10 : Cond.instantiable RX10 3 ∈ gtb := gt_mem 349 (by rfl) (by rfl)
set_option maxRecDepth 100000 in
theorem in_11 : Cond.initialized RX11 ∈ gtb := gt_mem 61 (by rfl) (by rfl)
set_option maxRecDepth 100000 in
theorem nw_11 : Cond.instantiable RX11 10 ∈ gtb := gt_mem 83 (by rfl) (by rfl)
set_option maxRecDepth 100000 in
theorem in_12 : Cond.initialized RX12 ∈ gtb := gt_mem 74 (by rfl) (by rfl)
set_option maxRecDepth 100000 in
theorem nw_12 : Cond.instantiable RX12 30 ∈ gtb := gt_mem 1150 (by rfl) (by rfl)
set_option maxRecDepth 100000 in
theorem oi_X0 : Cond.methodLink RX0 3 Lib.objectInit ∈ gtb := gt_mem 337 (by rfl) (by rfl)
set_option maxRecDepth 100000 in
theorem oi_X1 : Cond.methodLink RX1 3 Lib.objectInit ∈ gtb := gt_mem 369 (by rfl) (by rfl)
set_option maxRecDepth 100000 in
theorem cl_X1_21 : Cond.classLink RX1 21 "FastWhy$Bag" ∈ gtb := gt_mem 370 (by rfl) (by rfl)
set_option maxRecDepth 100000 in
theorem mi_X1_23 : MIN RX1 23 yX0_init "FastWhy" cX0_init 1 := ⟨by decide +kernel, gt_mem 335 (by rfl) (by rfl), gt_mem 68 (by rfl) (by rfl), gt_mem 336 (by rfl) (by rfl), ⟨by decide +kernel, by decide +kernel, by decide +kernel⟩, rfl⟩
set_option maxRecDepth 100000 in
theorem oi_X2 : Cond.methodLink RX2 3 Lib.objectInit ∈ gtb := gt_mem 436 (by rfl) (by rfl)
set_option maxRecDepth 100000 in
theorem oi_X3 : Cond.methodLink RX3 3 Lib.objectInit ∈ gtb := gt_mem 193 (by rfl) (by rfl)
set_option maxRecDepth 100000 in
theorem oi_X4 : Cond.methodLink RX4 3 Lib.objectInit ∈ gtb := gt_mem 472 (by rfl) (by rfl)
set_option maxRecDepth 100000 in
theorem oi_X5 : Cond.methodLink RX5 3 Lib.objectInit ∈ gtb := gt_mem 163 (by rfl) (by rfl)
set_option maxRecDepth 100000 in
theorem oi_X6 : Cond.methodLink RX6 3 Lib.objectInit ∈ gtb := gt_mem 101 (by rfl) (by rfl)
set_option maxRecDepth 100000 in
theorem oi_X7 : Cond.methodLink RX7 3 Lib.objectInit ∈ gtb := gt_mem 287 (by rfl) (by rfl)
set_option maxRecDepth 100000 in
theorem cl_X7_30 : Cond.classLink RX7 30 "FastWhy$Machine" ∈ gtb := gt_mem 288 (by rfl) (by rfl)
set_option maxRecDepth 100000 in
theorem mi_X7_32 : MI RX7 32 yX3_init cX3_init 1 := ⟨gt_mem 289 (by rfl) (by rfl), gt_mem 191 (by rfl) (by rfl), gt_mem 65 (by rfl) (by rfl), gt_mem 192 (by rfl) (by rfl), ⟨by decide +kernel, by decide +kernel, by decide +kernel⟩, rfl⟩
set_option maxRecDepth 100000 in
theorem oi_X8 : Cond.methodLink RX8 3 Lib.objectInit ∈ gtb := gt_mem 95 (by rfl) (by rfl)
set_option maxRecDepth 100000 in
theorem cl_X8_9 : Cond.classLink RX8 9 "FastWhy$Source" ∈ gtb := gt_mem 96 (by rfl) (by rfl)
set_option maxRecDepth 100000 in
theorem mi_X8_11 : MIN RX8 11 yX6_init "FastWhy" cX6_init 1 := ⟨by decide +kernel, gt_mem 99 (by rfl) (by rfl), gt_mem 63 (by rfl) (by rfl), gt_mem 100 (by rfl) (by rfl), ⟨by decide +kernel, by decide +kernel, by decide +kernel⟩, rfl⟩
set_option maxRecDepth 100000 in
theorem cl_X8_18 : Cond.classLink RX8 18 "FastWhy$Machine" ∈ gtb := gt_mem 156 (by rfl) (by rfl)
set_option maxRecDepth 100000 in
theorem cl_X8_24 : Cond.classLink RX8 24 "FastWhy$Sitting" ∈ gtb := gt_mem 158 (by rfl) (by rfl)
set_option maxRecDepth 100000 in
theorem mi_X8_26 : MIN RX8 26 yX5_init "FastWhy" cX5_init 1 := ⟨by decide +kernel, gt_mem 161 (by rfl) (by rfl), gt_mem 64 (by rfl) (by rfl), gt_mem 162 (by rfl) (by rfl), ⟨by decide +kernel, by decide +kernel, by decide +kernel⟩, rfl⟩
set_option maxRecDepth 100000 in
theorem mi_X8_38 : MI RX8 38 yX3_init cX3_init 1 := ⟨gt_mem 190 (by rfl) (by rfl), gt_mem 191 (by rfl) (by rfl), gt_mem 65 (by rfl) (by rfl), gt_mem 192 (by rfl) (by rfl), ⟨by decide +kernel, by decide +kernel, by decide +kernel⟩, rfl⟩
set_option maxRecDepth 100000 in
theorem oi_X9 : Cond.methodLink RX9 3 Lib.objectInit ∈ gtb := gt_mem 401 (by rfl) (by rfl)
set_option maxRecDepth 100000 in
theorem oi_X10 : Cond.methodLink RX10 1 Lib.objectInit ∈ gtb := gt_mem 353 (by rfl) (by rfl)
set_option maxRecDepth 100000 in
theorem oi_X11 : Cond.methodLink RX11 1 Lib.objectInit ∈ gtb := gt_mem 87 (by rfl) (by rfl)
set_option maxRecDepth 100000 in
theorem cl_X11_7 : Cond.classLink RX11 7 "FastWhy$Store" ∈ gtb := gt_mem 90 (by rfl) (by rfl)
set_option maxRecDepth 100000 in
theorem mi_X11_9 : MI RX11 9 yX8_init cX8_init 2 := ⟨gt_mem 92 (by rfl) (by rfl), gt_mem 93 (by rfl) (by rfl), gt_mem 62 (by rfl) (by rfl), gt_mem 94 (by rfl) (by rfl), ⟨by decide +kernel, by decide +kernel, by decide +kernel⟩, rfl⟩
set_option maxRecDepth 100000 in
theorem cl_X11_24 : Cond.classLink RX11 24 "FastWhy$Stepper" ∈ gtb := gt_mem 282 (by rfl) (by rfl)
set_option maxRecDepth 100000 in
theorem mi_X11_26 : MIN RX11 26 yX7_init "FastWhy" cX7_init 1 := ⟨by decide +kernel, gt_mem 285 (by rfl) (by rfl), gt_mem 67 (by rfl) (by rfl), gt_mem 286 (by rfl) (by rfl), ⟨by decide +kernel, by decide +kernel, by decide +kernel⟩, rfl⟩
set_option maxRecDepth 100000 in
theorem cl_X11_31 : Cond.classLink RX11 31 "FastWhy$Bag" ∈ gtb := gt_mem 332 (by rfl) (by rfl)
set_option maxRecDepth 100000 in
theorem mi_X11_33 : MIN RX11 33 yX0_init "FastWhy" cX0_init 1 := ⟨by decide +kernel, gt_mem 335 (by rfl) (by rfl), gt_mem 68 (by rfl) (by rfl), gt_mem 336 (by rfl) (by rfl), ⟨by decide +kernel, by decide +kernel, by decide +kernel⟩, rfl⟩
set_option maxRecDepth 100000 in
theorem cl_X11_38 : Cond.classLink RX11 38 "FastWhy$Ways" ∈ gtb := gt_mem 348 (by rfl) (by rfl)
set_option maxRecDepth 100000 in
theorem mi_X11_40 : MIN RX11 40 yX10_init "FastWhy" cX10_init 1 := ⟨by decide +kernel, gt_mem 351 (by rfl) (by rfl), gt_mem 69 (by rfl) (by rfl), gt_mem 352 (by rfl) (by rfl), ⟨by decide +kernel, by decide +kernel, by decide +kernel⟩, rfl⟩
set_option maxRecDepth 100000 in
theorem cl_X11_45 : Cond.classLink RX11 45 "FastWhy$Dating" ∈ gtb := gt_mem 364 (by rfl) (by rfl)
set_option maxRecDepth 100000 in
theorem mi_X11_47 : MIN RX11 47 yX1_init "FastWhy" cX1_init 1 := ⟨by decide +kernel, gt_mem 367 (by rfl) (by rfl), gt_mem 70 (by rfl) (by rfl), gt_mem 368 (by rfl) (by rfl), ⟨by decide +kernel, by decide +kernel, by decide +kernel⟩, rfl⟩
set_option maxRecDepth 100000 in
theorem cl_X11_52 : Cond.classLink RX11 52 "FastWhy$Undoing" ∈ gtb := gt_mem 396 (by rfl) (by rfl)
set_option maxRecDepth 100000 in
theorem mi_X11_54 : MIN RX11 54 yX9_init "FastWhy" cX9_init 1 := ⟨by decide +kernel, gt_mem 399 (by rfl) (by rfl), gt_mem 71 (by rfl) (by rfl), gt_mem 400 (by rfl) (by rfl), ⟨by decide +kernel, by decide +kernel, by decide +kernel⟩, rfl⟩
set_option maxRecDepth 100000 in
theorem cl_X11_59 : Cond.classLink RX11 59 "FastWhy$Fitting" ∈ gtb := gt_mem 431 (by rfl) (by rfl)
set_option maxRecDepth 100000 in
theorem mi_X11_61 : MIN RX11 61 yX2_init "FastWhy" cX2_init 1 := ⟨by decide +kernel, gt_mem 434 (by rfl) (by rfl), gt_mem 72 (by rfl) (by rfl), gt_mem 435 (by rfl) (by rfl), ⟨by decide +kernel, by decide +kernel, by decide +kernel⟩, rfl⟩
set_option maxRecDepth 100000 in
theorem cl_X11_66 : Cond.classLink RX11 66 "FastWhy$Reader" ∈ gtb := gt_mem 467 (by rfl) (by rfl)
set_option maxRecDepth 100000 in
theorem mi_X11_68 : MIN RX11 68 yX4_init "FastWhy" cX4_init 1 := ⟨by decide +kernel, gt_mem 470 (by rfl) (by rfl), gt_mem 73 (by rfl) (by rfl), gt_mem 471 (by rfl) (by rfl), ⟨by decide +kernel, by decide +kernel, by decide +kernel⟩, rfl⟩
set_option maxRecDepth 100000 in
theorem oi_X12 : Cond.methodLink RX12 1 Lib.objectInit ∈ gtb := gt_mem 1154 (by rfl) (by rfl)
set_option maxRecDepth 20000 in
theorem sx_0_1 {o : Nat} (h : sh o = .inl 0) : isA 0 (o + 1) := (by decide +kernel : ∀ k, k < KT → sh k = .inl 0 → sh (k + 1) = .inr (0, len (k + 1))) o (sh_lt h) h
set_option maxRecDepth 20000 in
theorem sy_0_1 {o : Nat} (h : sh o = .inl 0) : len (o + 1) = 200 := (by decide +kernel : ∀ k, k < KT → sh k = .inl 0 → len (k + 1) = 200) o (sh_lt h) h
set_option maxRecDepth 20000 in
theorem sx_1_1 {o : Nat} (h : sh o = .inl 1) : isA 0 (o + 1) := (by decide +kernel : ∀ k, k < KT → sh k = .inl 1 → sh (k + 1) = .inr (0, len (k + 1))) o (sh_lt h) h
set_option maxRecDepth 20000 in
theorem sy_1_1 {o : Nat} (h : sh o = .inl 1) : len (o + 1) = 24 := (by decide +kernel : ∀ k, k < KT → sh k = .inl 1 → len (k + 1) = 24) o (sh_lt h) h
set_option maxRecDepth 20000 in
theorem sx_1_2 {o : Nat} (h : sh o = .inl 1) : isA 0 (o + 2) := (by decide +kernel : ∀ k, k < KT → sh k = .inl 1 → sh (k + 2) = .inr (0, len (k + 2))) o (sh_lt h) h
set_option maxRecDepth 20000 in
theorem sy_1_2 {o : Nat} (h : sh o = .inl 1) : len (o + 2) = 24 := (by decide +kernel : ∀ k, k < KT → sh k = .inl 1 → len (k + 2) = 24) o (sh_lt h) h
set_option maxRecDepth 20000 in
theorem sx_1_3 {o : Nat} (h : sh o = .inl 1) : isA 0 (o + 3) := (by decide +kernel : ∀ k, k < KT → sh k = .inl 1 → sh (k + 3) = .inr (0, len (k + 3))) o (sh_lt h) h
set_option maxRecDepth 20000 in
theorem sy_1_3 {o : Nat} (h : sh o = .inl 1) : len (o + 3) = 24 := (by decide +kernel : ∀ k, k < KT → sh k = .inl 1 → len (k + 3) = 24) o (sh_lt h) h
set_option maxRecDepth 20000 in
theorem sx_1_4 {o : Nat} (h : sh o = .inl 1) : sh (o + 4) = .inl 0 := (by decide +kernel : ∀ k, k < KT → sh k = .inl 1 → sh (k + 4) = .inl 0) o (sh_lt h) h
set_option maxRecDepth 20000 in
theorem sx_2_1 {o : Nat} (h : sh o = .inl 2) : isA 0 (o + 1) := (by decide +kernel : ∀ k, k < KT → sh k = .inl 2 → sh (k + 1) = .inr (0, len (k + 1))) o (sh_lt h) h
set_option maxRecDepth 20000 in
theorem sy_2_1 {o : Nat} (h : sh o = .inl 2) : len (o + 1) = 3 := (by decide +kernel : ∀ k, k < KT → sh k = .inl 2 → len (k + 1) = 3) o (sh_lt h) h
set_option maxRecDepth 20000 in
theorem sx_2_2 {o : Nat} (h : sh o = .inl 2) : isA 0 (o + 2) := (by decide +kernel : ∀ k, k < KT → sh k = .inl 2 → sh (k + 2) = .inr (0, len (k + 2))) o (sh_lt h) h
set_option maxRecDepth 20000 in
theorem sy_2_2 {o : Nat} (h : sh o = .inl 2) : len (o + 2) = 3 := (by decide +kernel : ∀ k, k < KT → sh k = .inl 2 → len (k + 2) = 3) o (sh_lt h) h
set_option maxRecDepth 20000 in
theorem sx_2_3 {o : Nat} (h : sh o = .inl 2) : isA 0 (o + 3) := (by decide +kernel : ∀ k, k < KT → sh k = .inl 2 → sh (k + 3) = .inr (0, len (k + 3))) o (sh_lt h) h
set_option maxRecDepth 20000 in
theorem sy_2_3 {o : Nat} (h : sh o = .inl 2) : len (o + 3) = 200 := (by decide +kernel : ∀ k, k < KT → sh k = .inl 2 → len (k + 3) = 200) o (sh_lt h) h
set_option maxRecDepth 20000 in
theorem sx_2_4 {o : Nat} (h : sh o = .inl 2) : isA 0 (o + 4) := (by decide +kernel : ∀ k, k < KT → sh k = .inl 2 → sh (k + 4) = .inr (0, len (k + 4))) o (sh_lt h) h
set_option maxRecDepth 20000 in
theorem sy_2_4 {o : Nat} (h : sh o = .inl 2) : len (o + 4) = 200 := (by decide +kernel : ∀ k, k < KT → sh k = .inl 2 → len (k + 4) = 200) o (sh_lt h) h
set_option maxRecDepth 20000 in
theorem sx_2_5 {o : Nat} (h : sh o = .inl 2) : isA 0 (o + 5) := (by decide +kernel : ∀ k, k < KT → sh k = .inl 2 → sh (k + 5) = .inr (0, len (k + 5))) o (sh_lt h) h
set_option maxRecDepth 20000 in
theorem sy_2_5 {o : Nat} (h : sh o = .inl 2) : len (o + 5) = 200 := (by decide +kernel : ∀ k, k < KT → sh k = .inl 2 → len (k + 5) = 200) o (sh_lt h) h
set_option maxRecDepth 20000 in
theorem sx_2_6 {o : Nat} (h : sh o = .inl 2) : isA 0 (o + 6) := (by decide +kernel : ∀ k, k < KT → sh k = .inl 2 → sh (k + 6) = .inr (0, len (k + 6))) o (sh_lt h) h
set_option maxRecDepth 20000 in
theorem sy_2_6 {o : Nat} (h : sh o = .inl 2) : len (o + 6) = 200 := (by decide +kernel : ∀ k, k < KT → sh k = .inl 2 → len (k + 6) = 200) o (sh_lt h) h
set_option maxRecDepth 20000 in
theorem sx_2_7 {o : Nat} (h : sh o = .inl 2) : isA 0 (o + 7) := (by decide +kernel : ∀ k, k < KT → sh k = .inl 2 → sh (k + 7) = .inr (0, len (k + 7))) o (sh_lt h) h
set_option maxRecDepth 20000 in
theorem sy_2_7 {o : Nat} (h : sh o = .inl 2) : len (o + 7) = 200 := (by decide +kernel : ∀ k, k < KT → sh k = .inl 2 → len (k + 7) = 200) o (sh_lt h) h
set_option maxRecDepth 20000 in
theorem sx_3_1 {o : Nat} (h : sh o = .inl 3) : isA 0 (o + 1) := (by decide +kernel : ∀ k, k < KT → sh k = .inl 3 → sh (k + 1) = .inr (0, len (k + 1))) o (sh_lt h) h
set_option maxRecDepth 20000 in
theorem sy_3_1 {o : Nat} (h : sh o = .inl 3) : len (o + 1) = 8 := (by decide +kernel : ∀ k, k < KT → sh k = .inl 3 → len (k + 1) = 8) o (sh_lt h) h
set_option maxRecDepth 20000 in
theorem sx_3_2 {o : Nat} (h : sh o = .inl 3) : isA 0 (o + 2) := (by decide +kernel : ∀ k, k < KT → sh k = .inl 3 → sh (k + 2) = .inr (0, len (k + 2))) o (sh_lt h) h
set_option maxRecDepth 20000 in
theorem sy_3_2 {o : Nat} (h : sh o = .inl 3) : len (o + 2) = 16 := (by decide +kernel : ∀ k, k < KT → sh k = .inl 3 → len (k + 2) = 16) o (sh_lt h) h
set_option maxRecDepth 20000 in
theorem sx_3_3 {o : Nat} (h : sh o = .inl 3) : isA 0 (o + 3) := (by decide +kernel : ∀ k, k < KT → sh k = .inl 3 → sh (k + 3) = .inr (0, len (k + 3))) o (sh_lt h) h
set_option maxRecDepth 20000 in
theorem sy_3_3 {o : Nat} (h : sh o = .inl 3) : len (o + 3) = 16 := (by decide +kernel : ∀ k, k < KT → sh k = .inl 3 → len (k + 3) = 16) o (sh_lt h) h
set_option maxRecDepth 20000 in
theorem sx_4_1 {o : Nat} (h : sh o = .inl 4) : isA 0 (o + 1) := (by decide +kernel : ∀ k, k < KT → sh k = .inl 4 → sh (k + 1) = .inr (0, len (k + 1))) o (sh_lt h) h
set_option maxRecDepth 20000 in
theorem sy_4_1 {o : Nat} (h : sh o = .inl 4) : len (o + 1) = 40 := (by decide +kernel : ∀ k, k < KT → sh k = .inl 4 → len (k + 1) = 40) o (sh_lt h) h
set_option maxRecDepth 20000 in
theorem sx_4_2 {o : Nat} (h : sh o = .inl 4) : isA 1 (o + 2) := (by decide +kernel : ∀ k, k < KT → sh k = .inl 4 → sh (k + 2) = .inr (1, len (k + 2))) o (sh_lt h) h
set_option maxRecDepth 20000 in
theorem sy_4_2 {o : Nat} (h : sh o = .inl 4) : len (o + 2) = 6 := (by decide +kernel : ∀ k, k < KT → sh k = .inl 4 → len (k + 2) = 6) o (sh_lt h) h
set_option maxRecDepth 20000 in
theorem sx_5_1 {o : Nat} (h : sh o = .inl 5) : isA 0 (o + 1) := (by decide +kernel : ∀ k, k < KT → sh k = .inl 5 → sh (k + 1) = .inr (0, len (k + 1))) o (sh_lt h) h
set_option maxRecDepth 20000 in
theorem sy_5_1 {o : Nat} (h : sh o = .inl 5) : len (o + 1) = 16 := (by decide +kernel : ∀ k, k < KT → sh k = .inl 5 → len (k + 1) = 16) o (sh_lt h) h
set_option maxRecDepth 20000 in
theorem sx_5_2 {o : Nat} (h : sh o = .inl 5) : isA 0 (o + 2) := (by decide +kernel : ∀ k, k < KT → sh k = .inl 5 → sh (k + 2) = .inr (0, len (k + 2))) o (sh_lt h) h
set_option maxRecDepth 20000 in
theorem sy_5_2 {o : Nat} (h : sh o = .inl 5) : len (o + 2) = 8 := (by decide +kernel : ∀ k, k < KT → sh k = .inl 5 → len (k + 2) = 8) o (sh_lt h) h
set_option maxRecDepth 20000 in
theorem sx_6_1 {o : Nat} (h : sh o = .inl 6) : isA 0 (o + 1) := (by decide +kernel : ∀ k, k < KT → sh k = .inl 6 → sh (k + 1) = .inr (0, len (k + 1))) o (sh_lt h) h
set_option maxRecDepth 20000 in
theorem sy_6_1 {o : Nat} (h : sh o = .inl 6) : len (o + 1) = 6 := (by decide +kernel : ∀ k, k < KT → sh k = .inl 6 → len (k + 1) = 6) o (sh_lt h) h
set_option maxRecDepth 20000 in
theorem sx_6_2 {o : Nat} (h : sh o = .inl 6) : isA 0 (o + 2) := (by decide +kernel : ∀ k, k < KT → sh k = .inl 6 → sh (k + 2) = .inr (0, len (k + 2))) o (sh_lt h) h
set_option maxRecDepth 20000 in
theorem sy_6_2 {o : Nat} (h : sh o = .inl 6) : len (o + 2) = 960 := (by decide +kernel : ∀ k, k < KT → sh k = .inl 6 → len (k + 2) = 960) o (sh_lt h) h
set_option maxRecDepth 20000 in
theorem sx_6_3 {o : Nat} (h : sh o = .inl 6) : isA 0 (o + 3) := (by decide +kernel : ∀ k, k < KT → sh k = .inl 6 → sh (k + 3) = .inr (0, len (k + 3))) o (sh_lt h) h
set_option maxRecDepth 20000 in
theorem sy_6_3 {o : Nat} (h : sh o = .inl 6) : len (o + 3) = 10 := (by decide +kernel : ∀ k, k < KT → sh k = .inl 6 → len (k + 3) = 10) o (sh_lt h) h
set_option maxRecDepth 20000 in
theorem sx_6_4 {o : Nat} (h : sh o = .inl 6) : isA 0 (o + 4) := (by decide +kernel : ∀ k, k < KT → sh k = .inl 6 → sh (k + 4) = .inr (0, len (k + 4))) o (sh_lt h) h
set_option maxRecDepth 20000 in
theorem sy_6_4 {o : Nat} (h : sh o = .inl 6) : len (o + 4) = 10 := (by decide +kernel : ∀ k, k < KT → sh k = .inl 6 → len (k + 4) = 10) o (sh_lt h) h
set_option maxRecDepth 20000 in
theorem sx_6_5 {o : Nat} (h : sh o = .inl 6) : isA 0 (o + 5) := (by decide +kernel : ∀ k, k < KT → sh k = .inl 6 → sh (k + 5) = .inr (0, len (k + 5))) o (sh_lt h) h
set_option maxRecDepth 20000 in
theorem sy_6_5 {o : Nat} (h : sh o = .inl 6) : len (o + 5) = 40 := (by decide +kernel : ∀ k, k < KT → sh k = .inl 6 → len (k + 5) = 40) o (sh_lt h) h
set_option maxRecDepth 20000 in
theorem sx_6_6 {o : Nat} (h : sh o = .inl 6) : isA 0 (o + 6) := (by decide +kernel : ∀ k, k < KT → sh k = .inl 6 → sh (k + 6) = .inr (0, len (k + 6))) o (sh_lt h) h
set_option maxRecDepth 20000 in
theorem sy_6_6 {o : Nat} (h : sh o = .inl 6) : len (o + 6) = 24 := (by decide +kernel : ∀ k, k < KT → sh k = .inl 6 → len (k + 6) = 24) o (sh_lt h) h
set_option maxRecDepth 20000 in
theorem sx_6_7 {o : Nat} (h : sh o = .inl 6) : isA 0 (o + 7) := (by decide +kernel : ∀ k, k < KT → sh k = .inl 6 → sh (k + 7) = .inr (0, len (k + 7))) o (sh_lt h) h
set_option maxRecDepth 20000 in
theorem sy_6_7 {o : Nat} (h : sh o = .inl 6) : len (o + 7) = 24 := (by decide +kernel : ∀ k, k < KT → sh k = .inl 6 → len (k + 7) = 24) o (sh_lt h) h
set_option maxRecDepth 20000 in
theorem sx_6_8 {o : Nat} (h : sh o = .inl 6) : isA 0 (o + 8) := (by decide +kernel : ∀ k, k < KT → sh k = .inl 6 → sh (k + 8) = .inr (0, len (k + 8))) o (sh_lt h) h
set_option maxRecDepth 20000 in
theorem sy_6_8 {o : Nat} (h : sh o = .inl 6) : len (o + 8) = 32 := (by decide +kernel : ∀ k, k < KT → sh k = .inl 6 → len (k + 8) = 32) o (sh_lt h) h
set_option maxRecDepth 20000 in
theorem sx_7_1 {o : Nat} (h : sh o = .inl 7) : isA 0 (o + 1) := (by decide +kernel : ∀ k, k < KT → sh k = .inl 7 → sh (k + 1) = .inr (0, len (k + 1))) o (sh_lt h) h
set_option maxRecDepth 20000 in
theorem sy_7_1 {o : Nat} (h : sh o = .inl 7) : len (o + 1) = 6 := (by decide +kernel : ∀ k, k < KT → sh k = .inl 7 → len (k + 1) = 6) o (sh_lt h) h
set_option maxRecDepth 20000 in
theorem sx_7_2 {o : Nat} (h : sh o = .inl 7) : isA 0 (o + 2) := (by decide +kernel : ∀ k, k < KT → sh k = .inl 7 → sh (k + 2) = .inr (0, len (k + 2))) o (sh_lt h) h
set_option maxRecDepth 20000 in
theorem sy_7_2 {o : Nat} (h : sh o = .inl 7) : len (o + 2) = 160 := (by decide +kernel : ∀ k, k < KT → sh k = .inl 7 → len (k + 2) = 160) o (sh_lt h) h
set_option maxRecDepth 20000 in
theorem sx_7_3 {o : Nat} (h : sh o = .inl 7) : isA 0 (o + 3) := (by decide +kernel : ∀ k, k < KT → sh k = .inl 7 → sh (k + 3) = .inr (0, len (k + 3))) o (sh_lt h) h
set_option maxRecDepth 20000 in
theorem sy_7_3 {o : Nat} (h : sh o = .inl 7) : len (o + 3) = 8 := (by decide +kernel : ∀ k, k < KT → sh k = .inl 7 → len (k + 3) = 8) o (sh_lt h) h
set_option maxRecDepth 20000 in
theorem sx_7_4 {o : Nat} (h : sh o = .inl 7) : isA 0 (o + 4) := (by decide +kernel : ∀ k, k < KT → sh k = .inl 7 → sh (k + 4) = .inr (0, len (k + 4))) o (sh_lt h) h
set_option maxRecDepth 20000 in
theorem sy_7_4 {o : Nat} (h : sh o = .inl 7) : len (o + 4) = 64 := (by decide +kernel : ∀ k, k < KT → sh k = .inl 7 → len (k + 4) = 64) o (sh_lt h) h
set_option maxRecDepth 20000 in
theorem sx_7_5 {o : Nat} (h : sh o = .inl 7) : isA 0 (o + 5) := (by decide +kernel : ∀ k, k < KT → sh k = .inl 7 → sh (k + 5) = .inr (0, len (k + 5))) o (sh_lt h) h
set_option maxRecDepth 20000 in
theorem sy_7_5 {o : Nat} (h : sh o = .inl 7) : len (o + 5) = 16 := (by decide +kernel : ∀ k, k < KT → sh k = .inl 7 → len (k + 5) = 16) o (sh_lt h) h
set_option maxRecDepth 20000 in
theorem sx_7_6 {o : Nat} (h : sh o = .inl 7) : isA 0 (o + 6) := (by decide +kernel : ∀ k, k < KT → sh k = .inl 7 → sh (k + 6) = .inr (0, len (k + 6))) o (sh_lt h) h
set_option maxRecDepth 20000 in
theorem sy_7_6 {o : Nat} (h : sh o = .inl 7) : len (o + 6) = 16 := (by decide +kernel : ∀ k, k < KT → sh k = .inl 7 → len (k + 6) = 16) o (sh_lt h) h
set_option maxRecDepth 20000 in
theorem sx_7_7 {o : Nat} (h : sh o = .inl 7) : sh (o + 7) = .inl 3 := (by decide +kernel : ∀ k, k < KT → sh k = .inl 7 → sh (k + 7) = .inl 3) o (sh_lt h) h
set_option maxRecDepth 20000 in
theorem sx_8_1 {o : Nat} (h : sh o = .inl 8) : sh (o + 1) = .inl 6 := (by decide +kernel : ∀ k, k < KT → sh k = .inl 8 → sh (k + 1) = .inl 6) o (sh_lt h) h
set_option maxRecDepth 20000 in
theorem sx_8_10 {o : Nat} (h : sh o = .inl 8) : isA 3 (o + 10) := (by decide +kernel : ∀ k, k < KT → sh k = .inl 8 → sh (k + 10) = .inr (3, len (k + 10))) o (sh_lt h) h
set_option maxRecDepth 20000 in
theorem sy_8_10 {o : Nat} (h : sh o = .inl 8) : len (o + 10) = 4 := (by decide +kernel : ∀ k, k < KT → sh k = .inl 8 → len (k + 10) = 4) o (sh_lt h) h
set_option maxRecDepth 20000 in
theorem sx_8_11 {o : Nat} (h : sh o = .inl 8) : sh (o + 11) = .inl 5 := (by decide +kernel : ∀ k, k < KT → sh k = .inl 8 → sh (k + 11) = .inl 5) o (sh_lt h) h
set_option maxRecDepth 20000 in
theorem sx_8_14 {o : Nat} (h : sh o = .inl 8) : isA 0 (o + 14) := (by decide +kernel : ∀ k, k < KT → sh k = .inl 8 → sh (k + 14) = .inr (0, len (k + 14))) o (sh_lt h) h
set_option maxRecDepth 20000 in
theorem sy_8_14 {o : Nat} (h : sh o = .inl 8) : len (o + 14) = 2800 := (by decide +kernel : ∀ k, k < KT → sh k = .inl 8 → len (k + 14) = 2800) o (sh_lt h) h
set_option maxRecDepth 20000 in
theorem sx_8_15 {o : Nat} (h : sh o = .inl 8) : isA 0 (o + 15) := (by decide +kernel : ∀ k, k < KT → sh k = .inl 8 → sh (k + 15) = .inr (0, len (k + 15))) o (sh_lt h) h
set_option maxRecDepth 20000 in
theorem sy_8_15 {o : Nat} (h : sh o = .inl 8) : len (o + 15) = 40 := (by decide +kernel : ∀ k, k < KT → sh k = .inl 8 → len (k + 15) = 40) o (sh_lt h) h
set_option maxRecDepth 20000 in
theorem sx_8_16 {o : Nat} (h : sh o = .inl 8) : sh (o + 16) = .inl 3 := (by decide +kernel : ∀ k, k < KT → sh k = .inl 8 → sh (k + 16) = .inl 3) o (sh_lt h) h
set_option maxRecDepth 20000 in
theorem sx_8_20 {o : Nat} (h : sh o = .inl 8) : sh (o + 20) = .inl 3 := (by decide +kernel : ∀ k, k < KT → sh k = .inl 8 → sh (k + 20) = .inl 3) o (sh_lt h) h
set_option maxRecDepth 20000 in
theorem sx_8_24 {o : Nat} (h : sh o = .inl 8) : sh (o + 24) = .inl 3 := (by decide +kernel : ∀ k, k < KT → sh k = .inl 8 → sh (k + 24) = .inl 3) o (sh_lt h) h
set_option maxRecDepth 20000 in
theorem sx_8_28 {o : Nat} (h : sh o = .inl 8) : sh (o + 28) = .inl 3 := (by decide +kernel : ∀ k, k < KT → sh k = .inl 8 → sh (k + 28) = .inl 3) o (sh_lt h) h
set_option maxRecDepth 20000 in
theorem sx_9_1 {o : Nat} (h : sh o = .inl 9) : isA 0 (o + 1) := (by decide +kernel : ∀ k, k < KT → sh k = .inl 9 → sh (k + 1) = .inr (0, len (k + 1))) o (sh_lt h) h
set_option maxRecDepth 20000 in
theorem sy_9_1 {o : Nat} (h : sh o = .inl 9) : len (o + 1) = 252 := (by decide +kernel : ∀ k, k < KT → sh k = .inl 9 → len (k + 1) = 252) o (sh_lt h) h
set_option maxRecDepth 20000 in
theorem sx_10_1 {o : Nat} (h : sh o = .inl 10) : isA 0 (o + 1) := (by decide +kernel : ∀ k, k < KT → sh k = .inl 10 → sh (k + 1) = .inr (0, len (k + 1))) o (sh_lt h) h
set_option maxRecDepth 20000 in
theorem sy_10_1 {o : Nat} (h : sh o = .inl 10) : len (o + 1) = 256 := (by decide +kernel : ∀ k, k < KT → sh k = .inl 10 → len (k + 1) = 256) o (sh_lt h) h
set_option maxRecDepth 20000 in
theorem sx_10_2 {o : Nat} (h : sh o = .inl 10) : isA 0 (o + 2) := (by decide +kernel : ∀ k, k < KT → sh k = .inl 10 → sh (k + 2) = .inr (0, len (k + 2))) o (sh_lt h) h
set_option maxRecDepth 20000 in
theorem sy_10_2 {o : Nat} (h : sh o = .inl 10) : len (o + 2) = 256 := (by decide +kernel : ∀ k, k < KT → sh k = .inl 10 → len (k + 2) = 256) o (sh_lt h) h
set_option maxRecDepth 20000 in
theorem sx_10_3 {o : Nat} (h : sh o = .inl 10) : isA 0 (o + 3) := (by decide +kernel : ∀ k, k < KT → sh k = .inl 10 → sh (k + 3) = .inr (0, len (k + 3))) o (sh_lt h) h
set_option maxRecDepth 20000 in
theorem sy_10_3 {o : Nat} (h : sh o = .inl 10) : len (o + 3) = 256 := (by decide +kernel : ∀ k, k < KT → sh k = .inl 10 → len (k + 3) = 256) o (sh_lt h) h

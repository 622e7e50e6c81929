def isA (t k : Nat) : Prop := sh k = .inr (t, len k)
/-- what the tables say of class number ci -/
def CI (ci : Nat) (C : String) (T : u_T) (N : Nat) : Prop := vwCl[ci]? = some (C, T, N) ∧ cnf ci = N ∧ (∀ w ∈ u_ws C T N, w ∈ gtb) ∧ (∀ k, k < N → parseFieldDescriptor (T k).2.2.1 = some (cty ci k)) ∧ ∀ a, a < N → ∀ b, b < N → a ≠ b → (T a).2.1 ≠ (T b).2.1
/-- the pool entry of own at index is field j of class ci -/
def FL (own : String) (index ci j : Nat) : Prop := ∃ (C : String) (T : u_T) (N : Nat), CI ci C T N ∧ j < N ∧ Cond.fieldLink own index (T j).1 (T j).2.1 (T j).2.2.1 ∈ gtb
/-- .. and not final -/
def FP (own : String) (index ci j : Nat) : Prop := ∃ (C : String) (T : u_T) (N : Nat), CI ci C T N ∧ j < N ∧ Cond.fieldLink own index (T j).1 (T j).2.1 (T j).2.2.1 ∈ gtb ∧ (T j).2.2.2 = false
/-- .. final, of own -/
def FF (own : String) (index ci j : Nat) : Prop := ∃ (C : String) (T : u_T) (N : Nat), CI ci C T N ∧ j < N ∧ Cond.fieldLink own index (T j).1 (T j).2.1 (T j).2.2.1 ∈ gtb ∧ (T j).2.2.2 = true ∧ (T j).1 = own
def MS (own : String) (index : Nat) (y : MethodName) (bytes : ByteArray) (maxL : Nat) (ret : Option FieldType) (n : Nat) : Prop := Cond.methodLink own index y ∈ gtb ∧ Cond.static y ∈ gtb ∧ Cond.initialized y.cls ∈ gtb ∧ Cond.code y bytes maxL ret ∈ gtb ∧ (y.cls ≠ "java/lang/invoke/MethodHandle" ∧ y.cls ≠ "java/lang/invoke/VarHandle" ∧ (parseMethodDescriptor y.desc).map (fun d => d.parameters.length) = some n)
def MV (own : String) (index : Nat) (y : MethodName) (bytes : ByteArray) (maxL : Nat) (ret : Option FieldType) (n : Nat) : Prop := Cond.methodLink own index y ∈ gtb ∧ Cond.instanceMethod y ∈ gtb ∧ Cond.selects y.cls y y ∈ gtb ∧ Cond.initialized y.cls ∈ gtb ∧ Cond.code y bytes maxL ret ∈ gtb ∧ (y.cls ≠ "java/lang/invoke/MethodHandle" ∧ y.cls ≠ "java/lang/invoke/VarHandle" ∧ (parseMethodDescriptor y.desc).map (fun d => d.parameters.length) = some n)
def MN (own : String) (index : Nat) (y : MethodName) (host : String) (bytes : ByteArray) (maxL : Nat) (ret : Option FieldType) (n : Nat) : Prop := (own, index, y, host) ∈ nestW ∧ Cond.static y ∈ gtb ∧ Cond.initialized y.cls ∈ gtb ∧ Cond.code y bytes maxL ret ∈ gtb ∧ (y.cls ≠ "java/lang/invoke/MethodHandle" ∧ y.cls ≠ "java/lang/invoke/VarHandle" ∧ (parseMethodDescriptor y.desc).map (fun d => d.parameters.length) = some n)
theorem cE_o {g : Gl} {M : Mem} {k ci : Nat} (hs : sh k = .inl ci) : cE g M k = .inr (ci, (List.range (cnf ci)).map (fun j => fv g.2.2.2 M k j (cty ci j))) := by simp only [cE, hs]
theorem cE_i {g : Gl} {M : Mem} {k : Nat} (hs : isA 0 k) : cE g M k = .inl (g.2.2.1 0, len k, .inl (M.1 k)) := by
  have hs : sh k = _ := hs
  simp only [cE, hs]
theorem cE_l {g : Gl} {M : Mem} {k : Nat} (hs : isA 1 k) : cE g M k = .inl (g.2.2.1 1, len k, .inr (.inl (M.2.1 k))) := by
  have hs : sh k = _ := hs
  simp only [cE, hs]
theorem cE_z {g : Gl} {M : Mem} {k : Nat} (hs : isA 2 k) : cE g M k = .inl (g.2.2.1 2, len k, .inl (M.1 k)) := by
  have hs : sh k = _ := hs
  simp only [cE, hs]
theorem cE_3 {g : Gl} {M : Mem} {k : Nat} (hs : isA 3 k) : cE g M k = .inl (g.2.2.1 3, len k, .inr (.inr (.inr (.inr (fun i => (M.2.2 k i).map (fun q => g.2.2.2 + q)))))) := by
  have hs : sh k = _ := hs
  simp only [cE, hs]
theorem cE_4 {g : Gl} {M : Mem} {k : Nat} (hs : isA 4 k) : cE g M k = .inl (g.2.2.1 4, len k, .inr (.inr (.inr (.inr (fun i => (M.2.2 k i).map (fun q => g.2.2.2 + q)))))) := by
  have hs : sh k = _ := hs
  simp only [cE, hs]
theorem range_set {n j : Nat} {f f' : Nat → Value} {v : Value} (hv : f' j = v) (ho : ∀ i, i ≠ j → f' i = f i) : ((List.range n).map f).set j v = (List.range n).map f' := by
  apply List.ext_getElem?
  intro i
  subst hv
  by_cases hi : i = j
  · subst hi
    by_cases hK : i < n
    · rw [List.getElem?_set_self (by simpa using hK)]; simp [hK]
    · rw [List.getElem?_eq_none (by simp; omega), List.getElem?_eq_none (by simp; omega)]
  · rw [List.getElem?_set_ne (fun h => hi h.symm)]
    by_cases hK : i < n
    · simp [hK, ho i hi]
    · rw [List.getElem?_eq_none (by simp; omega), List.getElem?_eq_none (by simp; omega)]
theorem fv_eq {sz : Nat} {M M' : Mem} {k j : Nat} {t : FieldType} (h1 : M'.1 k j = M.1 k j) (h2 : M'.2.1 k j = M.2.1 k j) (h3 : M'.2.2 k j = M.2.2 k j) : fv sz M' k j t = fv sz M k j t := by simp only [fv, h1, h2, h3]
section XM
variable {c : CtxT} {κ : Nat × Nat × Nat} {pc : Nat} {lv : List (Nat × Value)} {st : List Value} {M M' : Mem} {cc : ByteArray} {nL : Nat} {own : String} {g : Gl} {l : Launch} {rm : Room}
theorem xg_get {k ci j index : Nat} {v : Value} (C : Cx c cc nL own g l rm) (f : FL own index ci j) (hk : k < κ.1) (hs : sh k = .inl ci) (hv : fv g.2.2.2 M k j (cty ci j) = v) (d : decode cc pc = .ok (.getfield index, 3)) (kk : X c κ (pc + 3) lv (v :: st) M) : X c κ pc lv (.ref (g.2.2.2 + k) :: st) M := by
  obtain ⟨p, l, e, R, s, m, args, below, meth, co, Q, g⟩ := c
  obtain ⟨rfl, rfl, hx, hb, hml, hown, hts, hK, hN, hsz, hlk, hstr, rfl⟩ := C
  obtain ⟨C, T, N, ⟨h1, h2, h3, h4, h5⟩, hj, hl0⟩ := f
  refine fun H locs ls hP hS hz hl => va_get hx hb hts h3 hown hK hP k ((wl_get hk).trans (by rw [cE_o hs])) h1 j hj (hts _ hl0) (fun _ h => h) ?_ d (kk H locs ls hP hS hz hl)
  rw [List.getElem?_map, List.getElem?_range (by rw [h2]; exact hj)]
  exact congrArg some hv
theorem wl_put {g : Gl} {K k : Nat} {M M' : Mem} {H H1 : Heap} (hP : va_P (g.1, g.2.1) vwCl (wl g K M) H) (hk : k < K) (oq : ∀ q : Nat, q ≠ g.2.2.2 + k → H1[q]? = H[q]?) (he : va_at (g.1, g.2.1) vwCl (g.2.2.2 + k, cE g M' k) H1) (hr : ∀ a, a ≠ k → cE g M' a = cE g M a) : va_P (g.1, g.2.1) vwCl (wl g K M') H1 := by
  have h := va_P.set hP (wl_D g K M) (wl_get hk) he oq
  rw [wl_set rfl hr] at h
  exact h
theorem xg_put {k ci j index : Nat} {v : Value} (C : Cx c cc nL own g l rm) (f : FP own index ci j) (hk : k < κ.1) (hs : sh k = .inl ci) (hn : narrow (cty ci j) v = v) (hf : fits (cty ci j) v = true) (hv : fv g.2.2.2 M' k j (cty ci j) = v) (ho : ∀ i, i ≠ j → fv g.2.2.2 M' k i (cty ci i) = fv g.2.2.2 M k i (cty ci i)) (hr : ∀ a, a ≠ k → cE g M' a = cE g M a) (d : decode cc pc = .ok (.putfield index, 3)) (kk : X c κ (pc + 3) lv st M') : X c κ pc lv (v :: .ref (g.2.2.2 + k) :: st) M := by
  obtain ⟨p, l, e, R, s, m, args, below, meth, co, Q, g⟩ := c
  obtain ⟨rfl, rfl, hx, hb, hml, hown, hts, hK, hN, hsz, hlk, hstr, rfl⟩ := C
  obtain ⟨C, T, N, ⟨h1, h2, h3, h4, h5⟩, hj, hl0, hfin⟩ := f
  intro H locs ls hP hS hz hl
  have hap := va_apart (own := own) hts h3 (cty ci) h4 h5 hK h1
  have hat : va_at (g.1, g.2.1) vwCl (g.2.2.2 + k, cE g M k) H := hP k _ (wl_get hk)
  rw [cE_o hs] at hat
  obtain ⟨r, hr1, cell, q1, q2, q3, q4⟩ := hat
  cases Option.some.inj (hr1.symm.trans h1)
  obtain ⟨hSl, hfc, kC, hkC, hkind⟩ := hK.1 ci _ h1
  obtain ⟨cf, kf, fi, fd, hi, hsl⟩ := hSl j hj
  have hlay := hts _ (h3 _ (u_in_lay hj))
  unfold u_lay at hlay
  rw [if_neg (by rw [hfin]; decide)] at hlay
  have hst := (u_facts hfc hkC (u_lays hts h3 hj) hi).1
  have h6 := u_store hfc hkC hkind hlay hi (h4 j hj) hn hf
  refine W.putK hx hb (f := fd) ⟨hown, hts _ hl0, ⟨_, _, _, hi⟩, hst⟩ (by rw [q2]; exact h6) q1 q3 (by rw [hsl]; exact k2_hasslot (q4 j hj)) rfl rfl d fun H1 e1 e2 e3 => ?_
  rw [hsl] at e1 ⊢
  refine kk H1 _ ls (wl_put hP hk e3 ?_ hr) (hS.put e2 e3 (Nat.le_add_right _ _)) (fun h => e2.trans (hz h)) hl
  rw [cE_o hs]
  refine ⟨_, h1, t_OB.to (V := updV (vp_V ((List.range (cnf ci)).map (fun j => fv g.2.2.2 M k j (cty ci j)))) j v) ⟨_, e1, q2, q3, t_set q4 hap hj v⟩ (fun i _ => ?_)⟩
  rw [vp_updV_set (by simp [h2, hj]) v i, range_set hv ho]
theorem xg_putF {k ci j index : Nat} {v : Value} (C : Cx c cc nL own g l rm) (hin : c.2.2.2.2.2.2.2.2.1.name = "<init>") (f : FF own index ci j) (hk : k < κ.1) (hs : sh k = .inl ci) (hn : narrow (cty ci j) v = v) (hf : fits (cty ci j) v = true) (hv : fv g.2.2.2 M' k j (cty ci j) = v) (ho : ∀ i, i ≠ j → fv g.2.2.2 M' k i (cty ci i) = fv g.2.2.2 M k i (cty ci i)) (hr : ∀ a, a ≠ k → cE g M' a = cE g M a) (d : decode cc pc = .ok (.putfield index, 3)) (kk : X c κ (pc + 3) lv st M') : X c κ pc lv (v :: .ref (g.2.2.2 + k) :: st) M := by
  obtain ⟨p, l, e, R, s, m, args, below, meth, co, Q, g⟩ := c
  obtain ⟨rfl, rfl, hx, hb, hml, hown, hts, hK, hN, hsz, hlk, hstr, rfl⟩ := C
  obtain ⟨C, T, N, ⟨h1, h2, h3, h4, h5⟩, hj, hl0, hfin, hdecl⟩ := f
  intro H locs ls hP hS hz hl
  have hap := va_apart (own := own) hts h3 (cty ci) h4 h5 hK h1
  have hat : va_at (g.1, g.2.1) vwCl (g.2.2.2 + k, cE g M k) H := hP k _ (wl_get hk)
  rw [cE_o hs] at hat
  obtain ⟨r, hr1, cell, q1, q2, q3, q4⟩ := hat
  cases Option.some.inj (hr1.symm.trans h1)
  obtain ⟨hSl, hfc, kC, hkC, hkind⟩ := hK.1 ci _ h1
  obtain ⟨cf, kf, fi, fd, hi, hsl⟩ := hSl j hj
  have hlay := hts _ (h3 _ (u_in_lay hj))
  unfold u_lay at hlay
  rw [if_pos hfin] at hlay
  have hst := (u_facts hfc hkC (u_lays hts h3 hj) hi).1
  have hcf : m.cls = cf := by
    obtain ⟨_, _, c', _, _, _, -, -, hf', -, -, -, hown2, -⟩ := Cond.laysFinal_spec hlay
    have e1 : c' = cf := by have := hi.symm.trans hf'; simp at this; exact this.1.symm
    rw [hdecl] at hown2
    rw [← e1]; exact Option.some.inj (hown.symm.trans hown2)
  have h6 := u_fits hfc hkC hkind (Or.inr hlay) hi (h4 j hj) hn hf
  refine W.putFinK hx hb hown (hts _ hl0) hi hst hcf hin (by rw [q2]; exact h6) q1 q3 (by rw [hsl]; exact k2_hasslot (q4 j hj)) rfl rfl d fun H1 e1 e2 e3 => ?_
  rw [hsl] at e1 ⊢
  refine kk H1 _ ls (wl_put hP hk e3 ?_ hr) (hS.put e2 e3 (Nat.le_add_right _ _)) (fun h => e2.trans (hz h)) hl
  rw [cE_o hs]
  refine ⟨_, h1, t_OB.to (V := updV (vp_V ((List.range (cnf ci)).map (fun j => fv g.2.2.2 M k j (cty ci j)))) j v) ⟨_, e1, q2, q3, t_set q4 hap hj v⟩ (fun i _ => ?_)⟩
  rw [vp_updV_set (by simp [h2, hj]) v i, range_set hv ho]
theorem xg_iald {k : Nat} {i : Int32} (C : Cx c cc nL own g l rm) (hk : k < κ.1) (hs : isA 0 k) (hin : vp_in i (len k)) (d : decode cc pc = .ok (.iaload, 1)) (kk : X c κ (pc + 1) lv (.int (M.1 k i.toNatClampNeg) :: st) M) : X c κ pc lv (.int i :: .ref (g.2.2.2 + k) :: st) M := by
  obtain ⟨p, l, e, R, s, m, args, below, meth, co, Q, g⟩ := c
  obtain ⟨rfl, rfl, hx, hb, hml, hown, hts, hK, hN, hsz, hlk, hstr, rfl⟩ := C
  exact fun H locs ls hP hS hz hl => va_iald hx hb hK hP k 0 ((wl_get hk).trans (by rw [cE_i hs])) rfl hin d (kk H locs ls hP hS hz hl)
theorem xg_zald {k : Nat} {i : Int32} (C : Cx c cc nL own g l rm) (hk : k < κ.1) (hs : isA 2 k) (hin : vp_in i (len k)) (d : decode cc pc = .ok (.baload, 1)) (kk : X c κ (pc + 1) lv (.int (M.1 k i.toNatClampNeg) :: st) M) : X c κ pc lv (.int i :: .ref (g.2.2.2 + k) :: st) M := by
  obtain ⟨p, l, e, R, s, m, args, below, meth, co, Q, g⟩ := c
  obtain ⟨rfl, rfl, hx, hb, hml, hown, hts, hK, hN, hsz, hlk, hstr, rfl⟩ := C
  exact fun H locs ls hP hS hz hl => va_zald hx hb hK hP k 2 ((wl_get hk).trans (by rw [cE_z hs])) rfl hin d (kk H locs ls hP hS hz hl)
theorem xg_lald {k : Nat} {i : Int32} (C : Cx c cc nL own g l rm) (hk : k < κ.1) (hs : isA 1 k) (hin : vp_in i (len k)) (d : decode cc pc = .ok (.laload, 1)) (kk : X c κ (pc + 1) lv (.long (M.2.1 k i.toNatClampNeg) :: st) M) : X c κ pc lv (.int i :: .ref (g.2.2.2 + k) :: st) M := by
  obtain ⟨p, l, e, R, s, m, args, below, meth, co, Q, g⟩ := c
  obtain ⟨rfl, rfl, hx, hb, hml, hown, hts, hK, hN, hsz, hlk, hstr, rfl⟩ := C
  exact fun H locs ls hP hS hz hl => va_lald hx hb hK hP k 1 ((wl_get hk).trans (by rw [cE_l hs])) rfl hin d (kk H locs ls hP hS hz hl)
theorem xg_aald3 {k : Nat} {i : Int32} (C : Cx c cc nL own g l rm) (hk : k < κ.1) (hs : isA 3 k) (hin : vp_in i (len k)) (d : decode cc pc = .ok (.aaload, 1)) (kk : X c κ (pc + 1) lv (va_rf ((M.2.2 k i.toNatClampNeg).map (fun q => g.2.2.2 + q)) :: st) M) : X c κ pc lv (.int i :: .ref (g.2.2.2 + k) :: st) M := by
  obtain ⟨p, l, e, R, s, m, args, below, meth, co, Q, g⟩ := c
  obtain ⟨rfl, rfl, hx, hb, hml, hown, hts, hK, hN, hsz, hlk, hstr, rfl⟩ := C
  exact fun H locs ls hP hS hz hl => va_aldq hx hb hK hP k 3 ((wl_get hk).trans (by rw [cE_3 hs])) rfl hin d (kk H locs ls hP hS hz hl)
theorem xg_aald4 {k : Nat} {i : Int32} (C : Cx c cc nL own g l rm) (hk : k < κ.1) (hs : isA 4 k) (hin : vp_in i (len k)) (d : decode cc pc = .ok (.aaload, 1)) (kk : X c κ (pc + 1) lv (va_rf ((M.2.2 k i.toNatClampNeg).map (fun q => g.2.2.2 + q)) :: st) M) : X c κ pc lv (.int i :: .ref (g.2.2.2 + k) :: st) M := by
  obtain ⟨p, l, e, R, s, m, args, below, meth, co, Q, g⟩ := c
  obtain ⟨rfl, rfl, hx, hb, hml, hown, hts, hK, hN, hsz, hlk, hstr, rfl⟩ := C
  exact fun H locs ls hP hS hz hl => va_aldq hx hb hK hP k 4 ((wl_get hk).trans (by rw [cE_4 hs])) rfl hin d (kk H locs ls hP hS hz hl)
theorem xg_alen {k t : Nat} (C : Cx c cc nL own g l rm) (hk : k < κ.1) (hs : isA t k) (ht : t < 5) (d : decode cc pc = .ok (.arraylength, 1)) (kk : X c κ (pc + 1) lv (.int (Int32.ofNat (len k)) :: st) M) : X c κ pc lv (.ref (g.2.2.2 + k) :: st) M := by
  obtain ⟨p, l, e, R, s, m, args, below, meth, co, Q, g⟩ := c
  obtain ⟨rfl, rfl, hx, hb, hml, hown, hts, hK, hN, hsz, hlk, hstr, rfl⟩ := C
  intro H locs ls hP hS hz hl
  match t, ht, hs with
  | 0, _, hs => exact va_alen hx hb hK hP k 0 ((wl_get hk).trans (by rw [cE_i hs])) rfl rfl d (kk H locs ls hP hS hz hl)
  | 1, _, hs => exact va_alen hx hb hK hP k 1 ((wl_get hk).trans (by rw [cE_l hs])) rfl rfl d (kk H locs ls hP hS hz hl)
  | 2, _, hs => exact va_alen hx hb hK hP k 2 ((wl_get hk).trans (by rw [cE_z hs])) rfl rfl d (kk H locs ls hP hS hz hl)
  | 3, _, hs => exact va_alen hx hb hK hP k 3 ((wl_get hk).trans (by rw [cE_3 hs])) rfl rfl d (kk H locs ls hP hS hz hl)
  | 4, _, hs => exact va_alen hx hb hK hP k 4 ((wl_get hk).trans (by rw [cE_4 hs])) rfl rfl d (kk H locs ls hP hS hz hl)
theorem updf_int (f : Nat → Int32) (k : Nat) (x : Int32) : updV (fun j => Value.int (f j)) k (.int x) = fun j => Value.int (if j = k then x else f j) := by
  funext q; by_cases hq : q = k <;> simp [updV, hq]
theorem updf_long (f : Nat → Int64) (k : Nat) (x : Int64) : updV (fun j => Value.long (f j)) k (.long x) = fun j => Value.long (if j = k then x else f j) := by
  funext q; by_cases hq : q = k <;> simp [updV, hq]
theorem xg_iast {k : Nat} {i x : Int32} (C : Cx c cc nL own g l rm) (hk : k < κ.1) (hs : isA 0 k) (hin : vp_in i (len k)) (d : decode cc pc = .ok (.iastore, 1)) (kk : X c κ (pc + 1) lv st (uI M k i.toNatClampNeg x)) : X c κ pc lv (.int x :: .int i :: .ref (g.2.2.2 + k) :: st) M := by
  obtain ⟨p, l, e, R, s, m, args, below, meth, co, Q, g⟩ := c
  obtain ⟨rfl, rfl, hx, hb, hml, hown, hts, hK, hN, hsz, hlk, hstr, rfl⟩ := C
  intro H locs ls hP hS hz hl
  have hat : va_at (g.1, g.2.1) vwCl (g.2.2.2 + k, cE g M k) H := hP k _ (wl_get hk)
  rw [cE_i hs] at hat
  refine W.iast hx hb (show H[g.2.2.2 + k]? = some (arrV (g.2.2.1 0) (len k) (fun j => .int (M.1 k j))) from hat) ((hK.2 0 _ rfl).1 _ _) (fun q => by cases q) (by rw [arrV_size]; exact hin) rfl rfl d fun H1 e1 e2 e3 => ?_
  refine kk H1 _ ls (wl_put hP hk e3 ?_ (fun a h => uI_ne a h)) (hS.put e2 e3 (Nat.le_add_right _ _)) (fun h => e2.trans (hz h)) hl
  rw [cE_i hs]
  show H1[g.2.2.2 + k]? = some (vp_cell _ _)
  rw [vp_cell_i, e1, arrV_store, updf_int]
  simp [uI]
theorem xg_zast {k : Nat} {i x : Int32} (C : Cx c cc nL own g l rm) (hk : k < κ.1) (hs : isA 2 k) (hin : vp_in i (len k)) (hn : narrow .boolean (.int x) = .int x) (d : decode cc pc = .ok (.bastore, 1)) (kk : X c κ (pc + 1) lv st (uI M k i.toNatClampNeg x)) : X c κ pc lv (.int x :: .int i :: .ref (g.2.2.2 + k) :: st) M := by
  obtain ⟨p, l, e, R, s, m, args, below, meth, co, Q, g⟩ := c
  obtain ⟨rfl, rfl, hx, hb, hml, hown, hts, hK, hN, hsz, hlk, hstr, rfl⟩ := C
  intro H locs ls hP hS hz hl
  have hat : va_at (g.1, g.2.1) vwCl (g.2.2.2 + k, cE g M k) H := hP k _ (wl_get hk)
  rw [cE_z hs] at hat
  refine W.zast hx hb (show H[g.2.2.2 + k]? = some (arrV (g.2.2.1 2) (len k) (fun j => .int (M.1 k j))) from hat) ((hK.2 2 _ rfl).1 _ _) (fun q => by cases q) (by rw [arrV_size]; exact hin) rfl rfl d fun H1 e1 e2 e3 => ?_
  refine kk H1 _ ls (wl_put hP hk e3 ?_ (fun a h => uI_ne a h)) (hS.put e2 e3 (Nat.le_add_right _ _)) (fun h => e2.trans (hz h)) hl
  rw [cE_z hs]
  show H1[g.2.2.2 + k]? = some (vp_cell _ _)
  rw [vp_cell_i, e1, hn, arrV_store, updf_int]
  simp [uI]
theorem xg_last {k : Nat} {i : Int32} {x : Int64} (C : Cx c cc nL own g l rm) (hk : k < κ.1) (hs : isA 1 k) (hin : vp_in i (len k)) (d : decode cc pc = .ok (.lastore, 1)) (kk : X c κ (pc + 1) lv st (uJ M k i.toNatClampNeg x)) : X c κ pc lv (.long x :: .int i :: .ref (g.2.2.2 + k) :: st) M := by
  obtain ⟨p, l, e, R, s, m, args, below, meth, co, Q, g⟩ := c
  obtain ⟨rfl, rfl, hx, hb, hml, hown, hts, hK, hN, hsz, hlk, hstr, rfl⟩ := C
  intro H locs ls hP hS hz hl
  have hat : va_at (g.1, g.2.1) vwCl (g.2.2.2 + k, cE g M k) H := hP k _ (wl_get hk)
  rw [cE_l hs] at hat
  refine W.last hx hb (show H[g.2.2.2 + k]? = some (arrV (g.2.2.1 1) (len k) (fun j => .long (M.2.1 k j))) from hat) ((hK.2 1 _ rfl).1 _ _) (fun q => by cases q) (by rw [arrV_size]; exact hin) rfl rfl d fun H1 e1 e2 e3 => ?_
  refine kk H1 _ ls (wl_put hP hk e3 ?_ (fun a h => uJ_ne a h)) (hS.put e2 e3 (Nat.le_add_right _ _)) (fun h => e2.trans (hz h)) hl
  rw [cE_l hs]
  show H1[g.2.2.2 + k]? = some (vp_cell _ _)
  rw [vp_cell_l, e1, arrV_store, updf_long]
  simp [uJ]
/-- ways to the end -/
def Rt (c : CtxT) (ret : Option FieldType) (post : Option Value → Nat → Mem → Prop) (mc ms : Nat) : Prop := match c with
  | (_, _, _, _, s, _, args, below, meth, _, Q, g) => Q = MQ below (Qm g post) args s mc ms (fun q => g.2.2.2 ≤ q) ∧ meth.sig.returnType = ret
theorem qm_in {g : Gl} {post : Option Value → Nat → Mem → Prop} {s t : State} {K : Nat} {M : Mem} {H : Heap} {locs : List Loc} {args : Array Value} {r : Option Value} (hP : va_P (g.1, g.2.1) vwCl (wl g K M) H) (hS : va_S (fun q => g.2.2.2 ≤ q) s.heap H locs) (hz : K < KT → H.size = g.2.2.2 + K) (hK : va_K (g.1, g.2.1) vwCl (tysOf g) s) (hN : Nst s) (hsz : g.2.2.2 ≤ s.heap.size) (hstr : Str g s s.heap) (h : post r K M) (ht : t.heap = H) (hW : s.WarmedH t.vm) : Qm g post args s (.returned r) t :=
  ⟨r, K, M, rfl, h, ⟨by rw [ht]; exact hP, by rw [ht]; exact hz, va_K.moved hW.alike hK, hN.warm hW, by rw [ht]; exact Nat.le_trans hsz hS.1, by rw [ht]; exact (hstr.kept (fun a h1 h2 => hS.2.1 a h1 h2)).warm hW⟩, hS.F ht⟩
theorem x_ireturn {post : Option Value → Nat → Mem → Prop} {v : Int32} (C : Cx c cc nL own g l rm) (r : Rt c (some .int) post κ.2.1 κ.2.2) (d : decode cc pc = .ok (.ireturn, 1)) (h : post (some (.int v)) κ.1 M) : X c κ pc lv [.int v] M := by
  obtain ⟨p, l, e, R, s, m, args, below, meth, co, Q, g⟩ := c
  obtain ⟨rfl, rfl, hx, hb, hml, hown, hts, hK, hN, hsz, hlk, hstr, rfl⟩ := C
  obtain ⟨rfl, hret⟩ := r
  exact fun H locs ls hP hS hz hl => W.iret hx hb hret (fun t ht hW => qm_in hP hS hz hK hN hsz hstr h ht hW) hS.2.2 d hlk
theorem x_zreturn {post : Option Value → Nat → Mem → Prop} {v : Int32} (C : Cx c cc nL own g l rm) (r : Rt c (some .boolean) post κ.2.1 κ.2.2) (d : decode cc pc = .ok (.ireturn, 1)) (hn : narrow .boolean (.int v) = .int v) (h : post (some (.int v)) κ.1 M) : X c κ pc lv [.int v] M := by
  obtain ⟨p, l, e, R, s, m, args, below, meth, co, Q, g⟩ := c
  obtain ⟨rfl, rfl, hx, hb, hml, hown, hts, hK, hN, hsz, hlk, hstr, rfl⟩ := C
  obtain ⟨rfl, hret⟩ := r
  exact fun H locs ls hP hS hz hl => W.zret hx hb hret hn (fun t ht hW => qm_in hP hS hz hK hN hsz hstr h ht hW) hS.2.2 d hlk
theorem x_lreturn {post : Option Value → Nat → Mem → Prop} {v : Int64} (C : Cx c cc nL own g l rm) (r : Rt c (some .long) post κ.2.1 κ.2.2) (d : decode cc pc = .ok (.lreturn, 1)) (h : post (some (.long v)) κ.1 M) : X c κ pc lv [.long v] M := by
  obtain ⟨p, l, e, R, s, m, args, below, meth, co, Q, g⟩ := c
  obtain ⟨rfl, rfl, hx, hb, hml, hown, hts, hK, hN, hsz, hlk, hstr, rfl⟩ := C
  obtain ⟨rfl, hret⟩ := r
  exact fun H locs ls hP hS hz hl => W.lret hx hb hret (fun t ht hW => qm_in hP hS hz hK hN hsz hstr h ht hW) hS.2.2 d hlk
theorem x_vreturn {post : Option Value → Nat → Mem → Prop} (C : Cx c cc nL own g l rm) (r : Rt c none post κ.2.1 κ.2.2) (d : decode cc pc = .ok (.return_, 1)) (h : post none κ.1 M) : X c κ pc lv [] M := by
  obtain ⟨p, l, e, R, s, m, args, below, meth, co, Q, g⟩ := c
  obtain ⟨rfl, rfl, hx, hb, hml, hown, hts, hK, hN, hsz, hlk, hstr, rfl⟩ := C
  obtain ⟨rfl, hret⟩ := r
  exact fun H locs ls hP hS hz hl => W.vret hx hb hret (fun t ht hW => qm_in hP hS hz hK hN hsz hstr h ht hW) hS.2.2 d hlk
end XM

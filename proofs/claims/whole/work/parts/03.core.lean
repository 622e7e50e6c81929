/-! memory: ints (and booleans), longs, references, by number of cell and place -/
abbrev Mem : Type := (Nat → Nat → Int32) × (Nat → Nat → Int64) × (Nat → Nat → Option Nat)
/-- numbers of classes, of slots, of array classes; the address of the first cell -/
abbrev Gl : Type := (Nat → ClassId) × (Nat → Nat → Nat) × (Nat → ClassId) × Nat
abbrev Shp : Type := Nat ⊕ (Nat × Nat)
abbrev KT : Nat := 154
def shL : List Shp := [.inl 11, .inl 8, .inl 6, .inr (0, 6), .inr (0, 960), .inr (0, 10), .inr (0, 10), .inr (0, 40), .inr (0, 24), .inr (0, 24), .inr (0, 32), .inr (3, 4), .inl 5, .inr (0, 16), .inr (0, 8), .inr (0, 2800), .inr (0, 40), .inl 3, .inr (0, 8), .inr (0, 16), .inr (0, 16), .inl 3, .inr (0, 8), .inr (0, 16), .inr (0, 16), .inl 3, .inr (0, 8), .inr (0, 16), .inr (0, 16), .inl 3, .inr (0, 8), .inr (0, 16), .inr (0, 16), .inr (4, 2), .inr (2, 2), .inl 7, .inr (0, 6), .inr (0, 160), .inr (0, 8), .inr (0, 64), .inr (0, 16), .inr (0, 16), .inl 3, .inr (0, 8), .inr (0, 16), .inr (0, 16), .inl 0, .inr (0, 200), .inl 10, .inr (0, 256), .inr (0, 256), .inr (0, 256), .inl 1, .inr (0, 24), .inr (0, 24), .inr (0, 24), .inl 0, .inr (0, 200), .inl 9, .inr (0, 252), .inl 2, .inr (0, 3), .inr (0, 3), .inr (0, 200), .inr (0, 200), .inr (0, 200), .inr (0, 200), .inr (0, 200), .inl 4, .inr (0, 40), .inr (1, 6), .inl 8, .inl 6, .inr (0, 6), .inr (0, 960), .inr (0, 10), .inr (0, 10), .inr (0, 40), .inr (0, 24), .inr (0, 24), .inr (0, 32), .inr (3, 4), .inl 5, .inr (0, 16), .inr (0, 8), .inr (0, 2800), .inr (0, 40), .inl 3, .inr (0, 8), .inr (0, 16), .inr (0, 16), .inl 3, .inr (0, 8), .inr (0, 16), .inr (0, 16), .inl 3, .inr (0, 8), .inr (0, 16), .inr (0, 16), .inl 3, .inr (0, 8), .inr (0, 16), .inr (0, 16), .inl 8, .inl 6, .inr (0, 6), .inr (0, 960), .inr (0, 10), .inr (0, 10), .inr (0, 40), .inr (0, 24), .inr (0, 24), .inr (0, 32), .inr (3, 4), .inl 5, .inr (0, 16), .inr (0, 8), .inr (0, 2800), .inr (0, 40), .inl 3, .inr (0, 8), .inr (0, 16), .inr (0, 16), .inl 3, .inr (0, 8), .inr (0, 16), .inr (0, 16), .inl 3, .inr (0, 8), .inr (0, 16), .inr (0, 16), .inl 3, .inr (0, 8), .inr (0, 16), .inr (0, 16), .inl 12, .inr (0, 4230), .inr (0, 8460), .inr (2, 2), .inr (0, 160), .inr (0, 8), .inr (0, 64), .inr (0, 16), .inr (0, 16), .inr (0, 6), .inr (0, 200), .inr (0, 24), .inr (0, 24), .inr (0, 24), .inr (2, 1024), .inr (2, 1024), .inr (1, 64), .inr (0, 128), .inr (1, 6)]
def sh (k : Nat) : Shp := (shL[k]?).getD (.inr (9, 0))
def len (k : Nat) : Nat := match sh k with
  | .inr q => q.2
  | .inl _ => 0
def cty (c : Nat) : Nat → FieldType := match c with
  | 0 => tyX0
  | 1 => tyX1
  | 2 => tyX2
  | 3 => tyX3
  | 4 => tyX4
  | 5 => tyX5
  | 6 => tyX6
  | 7 => tyX7
  | 8 => tyX8
  | 9 => tyX9
  | 10 => tyX10
  | 11 => tyX11
  | _ => tyX12
def cnf (c : Nat) : Nat := match c with
  | 0 => 2
  | 1 => 7
  | 2 => 9
  | 3 => 12
  | 4 => 5
  | 5 => 6
  | 6 => 12
  | 7 => 12
  | 8 => 7
  | 9 => 9
  | 10 => 3
  | 11 => 10
  | _ => 30
def soff (c : Nat) (j : Nat) : Option Nat := match c, j with
  | 0, 0 => some 1
  | 1, 2 => some 1
  | 1, 3 => some 2
  | 1, 4 => some 3
  | 1, 6 => some 4
  | 2, 0 => some 1
  | 2, 2 => some 2
  | 2, 3 => some 3
  | 2, 4 => some 4
  | 2, 5 => some 5
  | 2, 6 => some 6
  | 2, 7 => some 7
  | 3, 0 => some 1
  | 3, 4 => some 2
  | 3, 7 => some 3
  | 4, 1 => some 1
  | 4, 4 => some 2
  | 5, 0 => some 1
  | 5, 2 => some 2
  | 6, 1 => some 1
  | 6, 2 => some 2
  | 6, 4 => some 3
  | 6, 5 => some 4
  | 6, 6 => some 5
  | 6, 8 => some 6
  | 6, 9 => some 7
  | 6, 11 => some 8
  | 7, 0 => some 1
  | 7, 2 => some 2
  | 7, 4 => some 3
  | 7, 5 => some 4
  | 7, 6 => some 5
  | 7, 7 => some 6
  | 8, 0 => some 1
  | 8, 1 => some 10
  | 8, 2 => some 11
  | 8, 3 => some 14
  | 8, 5 => some 15
  | 9, 1 => some 1
  | 10, 0 => some 1
  | 10, 1 => some 2
  | 10, 2 => some 3
  | 11, 0 => some 1
  | 11, 1 => some 33
  | 11, 2 => some 34
  | 11, 3 => some 35
  | 11, 4 => some 46
  | 11, 5 => some 48
  | 11, 6 => some 52
  | 11, 7 => some 58
  | 11, 8 => some 60
  | 11, 9 => some 68
  | 12, 0 => some 1
  | 12, 1 => some 2
  | 12, 2 => some 3
  | 12, 3 => some 4
  | 12, 5 => some 5
  | 12, 6 => some 6
  | 12, 7 => some 7
  | 12, 8 => some 8
  | 12, 9 => some 9
  | 12, 11 => some 10
  | 12, 13 => some 11
  | 12, 14 => some 12
  | 12, 15 => some 13
  | 12, 16 => some 14
  | 12, 17 => some 15
  | 12, 24 => some 16
  | 12, 26 => some 17
  | 12, 28 => some 18
  | _, _ => none
def fv (sz : Nat) (M : Mem) (k j : Nat) (t : FieldType) : Value := match t with
  | .int => .int (M.1 k j)
  | .boolean => .int (M.1 k j)
  | .long => .long (M.2.1 k j)
  | _ => va_rf ((M.2.2 k j).map (fun q => sz + q))
def cE (g : Gl) (M : Mem) (k : Nat) : va_E := match sh k with
  | .inl c => .inr (c, (List.range (cnf c)).map (fun j => fv g.2.2.2 M k j (cty c j)))
  | .inr (0, n) => .inl (g.2.2.1 0, n, .inl (M.1 k))
  | .inr (1, n) => .inl (g.2.2.1 1, n, .inr (.inl (M.2.1 k)))
  | .inr (2, n) => .inl (g.2.2.1 2, n, .inl (M.1 k))
  | .inr (t, n) => .inl (g.2.2.1 t, n, .inr (.inr (.inr (.inr (fun i => (M.2.2 k i).map (fun q => g.2.2.2 + q))))))
def wl (g : Gl) (K : Nat) (M : Mem) : va_W := (List.range K).map (fun k => (g.2.2.2 + k, cE g M k))
def uI (M : Mem) (k j : Nat) (v : Int32) : Mem := (fun a b => if a = k ∧ b = j then v else M.1 a b, M.2.1, M.2.2)
def uJ (M : Mem) (k j : Nat) (v : Int64) : Mem := (M.1, fun a b => if a = k ∧ b = j then v else M.2.1 a b, M.2.2)
def uR (M : Mem) (k j : Nat) (v : Option Nat) : Mem := (M.1, M.2.1, fun a b => if a = k ∧ b = j then v else M.2.2 a b)
/-- a cell as it is born -/
def uN (M : Mem) (k : Nat) : Mem := (fun a b => if a = k then 0 else M.1 a b, fun a b => if a = k then 0 else M.2.1 a b, fun a b => if a = k then none else M.2.2 a b)
/-- final references and the rows of references are where the layout has them -/
def stat (M : Mem) : Mem := (M.1, M.2.1, fun k j => match sh k with
  | .inl c => match soff c j with
    | some d => some (k + d)
    | none => M.2.2 k j
  | .inr (3, _) => some (k + 6 + 4 * j)
  | .inr (4, _) => some (k + 38 + 32 * j)
  | .inr _ => M.2.2 k j)
theorem wl_get {g : Gl} {K k : Nat} {M : Mem} (hk : k < K) : (wl g K M)[k]? = some (g.2.2.2 + k, cE g M k) := by simp [wl, hk]
theorem wl_D (g : Gl) (K : Nat) (M : Mem) : va_D (fun q => g.2.2.2 ≤ q) (wl g K M) := by
  refine ⟨fun i j p q hi hj hpq => ?_, fun k q hk => ?_⟩
  · simp only [wl, List.getElem?_map, Option.map_eq_some_iff] at hi hj
    obtain ⟨a, ha, rfl⟩ := hi
    obtain ⟨b, hb, rfl⟩ := hj
    obtain ⟨ha1, ha2⟩ := List.getElem?_eq_some_iff.mp ha
    obtain ⟨hb1, hb2⟩ := List.getElem?_eq_some_iff.mp hb
    simp only [List.getElem_range] at ha2 hb2
    dsimp only at hpq
    omega
  · simp only [wl, List.getElem?_map, Option.map_eq_some_iff] at hk
    obtain ⟨a, ha, rfl⟩ := hk
    exact Nat.le_add_right _ _
theorem wl_set {g : Gl} {K k : Nat} {M M' : Mem} {e : va_E} (he : cE g M' k = e) (ho : ∀ j, j ≠ k → cE g M' j = cE g M j) : (wl g K M).set k (g.2.2.2 + k, e) = wl g K M' := by
  apply List.ext_getElem?
  intro i
  subst he
  by_cases hi : i = k
  · subst hi
    by_cases hK : i < K
    · rw [List.getElem?_set_self (by simpa [wl] using hK), wl_get hK]
    · rw [List.getElem?_eq_none (by simp [wl]; omega), List.getElem?_eq_none (by simp [wl]; omega)]
  · rw [List.getElem?_set_ne (fun h => hi h.symm)]
    by_cases hK : i < K
    · rw [wl_get hK, wl_get hK, ho i hi]
    · rw [List.getElem?_eq_none (by simp [wl]; omega), List.getElem?_eq_none (by simp [wl]; omega)]
theorem cE_eq {g : Gl} {M M' : Mem} {k : Nat} (h1 : M'.1 k = M.1 k) (h2 : M'.2.1 k = M.2.1 k) (h3 : M'.2.2 k = M.2.2 k) : cE g M' k = cE g M k := by simp only [cE, fv, h1, h2, h3]
theorem uI_ne {g : Gl} {M : Mem} {k j : Nat} {v : Int32} (a : Nat) (h : a ≠ k) : cE g (uI M k j v) a = cE g M a := cE_eq (by funext b; simp [uI, h]) rfl rfl
theorem uJ_ne {g : Gl} {M : Mem} {k j : Nat} {v : Int64} (a : Nat) (h : a ≠ k) : cE g (uJ M k j v) a = cE g M a := cE_eq rfl (by funext b; simp [uJ, h]) rfl
theorem uR_ne {g : Gl} {M : Mem} {k j : Nat} {v : Option Nat} (a : Nat) (h : a ≠ k) : cE g (uR M k j v) a = cE g M a := cE_eq rfl rfl (by funext b; simp [uR, h])
theorem uN_ne {g : Gl} {M : Mem} {k : Nat} (a : Nat) (h : a ≠ k) : cE g (uN M k) a = cE g M a := cE_eq (by funext b; simp [uN, h]) (by funext b; simp [uN, h]) (by funext b; simp [uN, h])
def tysOf (g : Gl) : List (ClassId × FieldType) := [(g.2.2.1 0, .int), (g.2.2.1 1, .long), (g.2.2.1 2, .boolean), (g.2.2.1 3, .object "FastWhy$Machine"), (g.2.2.1 4, .object "FastWhy$Store")]
def gtb : List Cond := lw_tbl.filter goodWord
theorem gt_mem {w : Cond} (i : Nat) (h : lw_tbl[i]? = some w) (hg : goodWord w = true) : w ∈ gtb := List.mem_filter.mpr ⟨List.mem_of_getElem? h, hg⟩
theorem gtb_in {w : Cond} (h : w ∈ gtb) : w ∈ lw_tbl := (List.mem_filter.mp h).1
theorem gtb_good : GoodIn gtb gtb := fun w h => ⟨h, good_of_word (List.mem_filter.mp h).2⟩
def nestW : List (String × Nat × MethodName × String) := [("FastWhy$Store", 11, ⟨"FastWhy$Source", "<init>", "()V"⟩, "FastWhy"), ("FastWhy$Store", 26, ⟨"FastWhy$Sitting", "<init>", "()V"⟩, "FastWhy"), ("FastWhy", 26, ⟨"FastWhy$Stepper", "<init>", "()V"⟩, "FastWhy"), ("FastWhy", 33, ⟨"FastWhy$Bag", "<init>", "()V"⟩, "FastWhy"), ("FastWhy", 40, ⟨"FastWhy$Ways", "<init>", "()V"⟩, "FastWhy"), ("FastWhy", 47, ⟨"FastWhy$Dating", "<init>", "()V"⟩, "FastWhy"), ("FastWhy$Dating", 23, ⟨"FastWhy$Bag", "<init>", "()V"⟩, "FastWhy"), ("FastWhy", 54, ⟨"FastWhy$Undoing", "<init>", "()V"⟩, "FastWhy"), ("FastWhy", 61, ⟨"FastWhy$Fitting", "<init>", "()V"⟩, "FastWhy"), ("FastWhy", 68, ⟨"FastWhy$Reader", "<init>", "()V"⟩, "FastWhy"), ("FastWhy$Source", 55, ⟨"FastWhy", "writeLine", "([IIIIII)V"⟩, "FastWhy"), ("FastWhy$Machine", 69, ⟨"FastWhy", "leftOver", "(II)I"⟩, "FastWhy"), ("FastWhy$Stepper", 149, ⟨"FastWhy", "leftOver", "(II)I"⟩, "FastWhy"), ("FastWhy$Stepper", 155, ⟨"FastWhy", "cutBy", "(II)I"⟩, "FastWhy")]
def Nst (U : State) : Prop := (∀ q ∈ nestW, va_Nw (.methodLinkNest q.1 q.2.1 q.2.2.1 q.2.2.2) U) ∧ va_AO "FastWhy$Machine" U ∧ va_AO "FastWhy$Store" U
theorem Nst.warm {s U : State} (hW : s.WarmedH U.vm) (h : Nst s) : Nst U := ⟨fun q hq => va_Nw.warmM hW (h.1 q hq), va_AO.moved hW.alike h.2.1, va_AO.moved hW.alike h.2.2⟩
/-- the text constant of Reader, the JDK's flag: cells ahead of ours -/
def Str (g : Gl) (U : State) (H : Heap) : Prop := vk_R "FastWhy$Reader" 102 "nmlgpb" (g.2.1 99 0) U ∧ vk_S 1 [6] [[110, 109, 108, 103, 112, 98]] (fun _ => g.2.1 99 0) (fun _ => g.2.1 99 1) (fun q => g.2.2.2 ≤ q) U H ∧ va_Z "java/lang/String" "COMPACT_STRINGS" "Z" (.int 1) (fun q => g.2.2.2 ≤ q) U H ∧ va_Zq "jdk/internal/util/Preconditions" "SIOOBE_FORMATTER" "Ljava/util/function/BiFunction;" (fun q => g.2.2.2 ≤ q) U H
theorem Str.warm {g : Gl} {s U : State} {H : Heap} (hW : s.WarmedH U.vm) (h : Str g s H) : Str g U H := ⟨vk_R.warm hW h.1, vk_S.moved hW.alike h.2.1, va_Z.moved hW.alike h.2.2.1, va_Zq.moved hW.alike h.2.2.2⟩
theorem Str.kept {g : Gl} {s : State} {H H1 : Heap} (h : Str g s H) (hq : ∀ a : Nat, a < H.size → ¬ g.2.2.2 ≤ a → H1[a]? = H[a]?) : Str g s H1 := ⟨h.1, vk_S.kept h.2.1 hq, va_Z.kept h.2.2.1 hq, va_Zq.kept h.2.2.2 hq⟩
theorem Str.call {g : Gl} {U : State} {gf : JFrame} {mk : MethodId} {a : Array Value} (h : Str g U U.heap) : Str g (U.calling gf mk a) (U.calling gf mk a).heap := ⟨vk_R.same (u := U) rfl h.1, vk_S.moved (u := U) (Vm.Alike.refl U.vm) h.2.1, va_Z.moved (u := U) (Vm.Alike.refl U.vm) h.2.2.1, va_Zq.moved (u := U) (Vm.Alike.refl U.vm) h.2.2.2⟩
/-- the world at a state: K cells with the memory M, the tables -/
def Hld (g : Gl) (K : Nat) (M : Mem) (U : State) : Prop := va_P (g.1, g.2.1) vwCl (wl g K M) U.heap ∧ (K < KT → U.heap.size = g.2.2.2 + K) ∧ va_K (g.1, g.2.1) vwCl (tysOf g) U ∧ Nst U ∧ g.2.2.2 ≤ U.heap.size ∧ Str g U U.heap
def Qm (g : Gl) (post : Option Value → Nat → Mem → Prop) : Array Value → State → Outcome → State → Prop := fun _ st oc t => ∃ (r : Option Value) (K : Nat) (M : Mem), oc = .returned r ∧ post r K M ∧ Hld g K M t ∧ va_F (fun q => g.2.2.2 ≤ q) st t
/-- a contract: from the world (K, M), with these arguments, the method returns and post holds of its answer and the world then -/
def Ct (g : Gl) (l : Launch) (y : MethodName) (bytes : ByteArray) (maxL : Nat) (ret : Option FieldType) (fr lo : Nat) (as : List Value) (K mc ms : Nat) (M : Mem) (post : Option Value → Nat → Mem → Prop) : Prop :=
  Met l y (.code y bytes maxL ret :: gtb) { frames := fr, cells := mc, slots := ms, locals := lo } (va_Pc as (fun U => Hld g K M U)) (Qm g post) mc ms (fun q => g.2.2.2 ≤ q)
abbrev CtxT : Type := Program × Launch × Env × Room × State × MethodId × Array Value × List Frame × Method × Code × (State → Prop) × Gl
def Cx (c : CtxT) (cc : ByteArray) (nL : Nat) (own : String) (g : Gl) (l : Launch) (rm : Room) : Prop := match c with
  | (p, l', _, R, s, m, args, _, meth, co, _, g') => g' = g ∧ l' = l ∧ p.tables.exec = Jvm.exec ∧ co.code = cc ∧ co.maxLocals = nL ∧ s.vm.findClass own = some m.cls ∧ (∀ w ∈ gtb, w.before args s = true) ∧ va_K (g.1, g.2.1) vwCl (tysOf g) s ∧ Nst s ∧ g.2.2.2 ≤ s.heap.size ∧ meth.locks = false ∧ Str g s s.heap ∧ R = rm
/-- the machine, at pc with these locals and this stack and the world (K, M), comes to its end -/
def X (c : CtxT) (κ : Nat × Nat × Nat) (pc : Nat) (lv : List (Nat × Value)) (st : List Value) (M : Mem) : Prop := match c with
  | (p, l, e, R, s, m, args, below, meth, co, Q, g) => ∀ (H : Heap) (locs : List Loc) (ls : Array Slot), va_P (g.1, g.2.1) vwCl (wl g κ.1 M) H → va_S (fun q => g.2.2.2 ≤ q) s.heap H locs → (κ.1 < KT → H.size = g.2.2.2 + κ.1) → lv_has ls co.maxLocals lv → W p l e R s m args below meth co H locs κ.2.1 κ.2.2 Q (F0 m pc ls st)
def lget (lv : List (Nat × Value)) (i : Nat) : Option Value := match lv with
  | [] => none
  | q :: r => if q.1 = i then some q.2 else lget r i
theorem lget_mem {lv : List (Nat × Value)} {i : Nat} {v : Value} (h : lget lv i = some v) : (i, v) ∈ lv := by
  induction lv with
  | nil => cases h
  | cons q r ih =>
    unfold lget at h
    by_cases hq : q.1 = i
    · rw [if_pos hq] at h
      cases h
      subst hq
      exact List.mem_cons_self
    · rw [if_neg hq] at h
      exact List.mem_cons_of_mem _ (ih h)
theorem lget_at {ls : Array Slot} {nL : Nat} {lv : List (Nat × Value)} {i : Nat} {v : Value} (h : lv_has ls nL lv) (hg : lget lv i = some v) : ls[i]? = some (.val v) := h.2.2 (i, v) (lget_mem hg)
def lset1 (lv : List (Nat × Value)) (i : Nat) (v : Value) : List (Nat × Value) := (i, v) :: lv.filter (fun q => !(q.1 == i) && !(q.1 + 1 == i && q.2.category == 2))
def lset2 (lv : List (Nat × Value)) (i : Nat) (v : Value) : List (Nat × Value) := (i, v) :: lv.filter (fun q => !(q.1 == i) && (!(q.1 == i + 1) && !(q.1 + 1 == i && q.2.category == 2)))
def lpick (lv : List (Nat × Value)) (ks : List Nat) : List (Nat × Value) := ks.filterMap (fun k => (lget lv k).map (fun v => (k, v)))
theorem lpick_has {ls : Array Slot} {nL : Nat} {lv : List (Nat × Value)} (h : lv_has ls nL lv) (ks : List Nat) : lv_has ls nL (lpick lv ks) := by
  refine ⟨h.1, h.2.1, fun q hq => ?_⟩
  obtain ⟨k, -, hk⟩ := List.mem_filterMap.mp hq
  obtain ⟨v, hv, rfl⟩ := Option.map_eq_some_iff.mp hk
  exact lget_at h hv
theorem x_sub {c : CtxT} {κ : Nat × Nat × Nat} {pc : Nat} {lv lv' : List (Nat × Value)} {st : List Value} {M : Mem} (ks : List Nat) (h : lpick lv ks = lv') (k : X c κ pc lv' st M) : X c κ pc lv st M := by
  obtain ⟨p, l, e, R, s, m, args, below, meth, co, Q, g⟩ := c
  exact fun H locs ls hP hS hz hl => k H locs ls hP hS hz (h ▸ lpick_has hl ks)
section XR
variable {c : CtxT} {κ : Nat × Nat × Nat} {pc : Nat} {lv : List (Nat × Value)} {st : List Value} {M : Mem} {cc : ByteArray} {nL : Nat} {own : String} {g : Gl} {l : Launch} {rm : Room}
theorem x_iconst {n : Int} {v : Int32} (C : Cx c cc nL own g l rm) (d : decode cc pc = .ok (.iconst n, 1)) (hv : Int32.ofInt n = v) (k : X c κ (pc + 1) lv (.int v :: st) M) : X c κ pc lv (st) M := by
  obtain ⟨p, l, e, R, s, m, args, below, meth, co, Q, g⟩ := c
  obtain ⟨rfl, rfl, hx, hb, hml, hown, hts, hK, hN, hsz, hlk, hstr, rfl⟩ := C
  exact fun H locs ls hP hS hz hl => lv_iconst hx hb d hv (k H locs ls hP hS hz hl)
theorem x_bipush {n : Int} {v : Int32} (C : Cx c cc nL own g l rm) (d : decode cc pc = .ok (.bipush n, 2)) (hv : (Int8.ofInt n).toInt32 = v) (k : X c κ (pc + 2) lv (.int v :: st) M) : X c κ pc lv (st) M := by
  obtain ⟨p, l, e, R, s, m, args, below, meth, co, Q, g⟩ := c
  obtain ⟨rfl, rfl, hx, hb, hml, hown, hts, hK, hN, hsz, hlk, hstr, rfl⟩ := C
  exact fun H locs ls hP hS hz hl => lv_bipush hx hb d hv (k H locs ls hP hS hz hl)
theorem x_sipush {n : Int} {v : Int32} (C : Cx c cc nL own g l rm) (d : decode cc pc = .ok (.sipush n, 3)) (hv : (Int16.ofInt n).toInt32 = v) (k : X c κ (pc + 3) lv (.int v :: st) M) : X c κ pc lv (st) M := by
  obtain ⟨p, l, e, R, s, m, args, below, meth, co, Q, g⟩ := c
  obtain ⟨rfl, rfl, hx, hb, hml, hown, hts, hK, hN, hsz, hlk, hstr, rfl⟩ := C
  exact fun H locs ls hP hS hz hl => lv_sipush hx hb d hv (k H locs ls hP hS hz hl)
theorem x_lconst {n : Fin 2} {v : Int64} (C : Cx c cc nL own g l rm) (d : decode cc pc = .ok (.lconst n, 1)) (hv : Int64.ofNat (n : Nat) = v) (k : X c κ (pc + 1) lv (.long v :: st) M) : X c κ pc lv (st) M := by
  obtain ⟨p, l, e, R, s, m, args, below, meth, co, Q, g⟩ := c
  obtain ⟨rfl, rfl, hx, hb, hml, hown, hts, hK, hN, hsz, hlk, hstr, rfl⟩ := C
  exact fun H locs ls hP hS hz hl => lv_lconst hx hb d hv (k H locs ls hP hS hz hl)
theorem x_ldc {index : Nat} {v : Int32} (C : Cx c cc nL own g l rm) (d : decode cc pc = .ok (.ldc index, 2)) (hw : Cond.constant own index v ∈ gtb) (k : X c κ (pc + 2) lv (.int v :: st) M) : X c κ pc lv (st) M := by
  obtain ⟨p, l, e, R, s, m, args, below, meth, co, Q, g⟩ := c
  obtain ⟨rfl, rfl, hx, hb, hml, hown, hts, hK, hN, hsz, hlk, hstr, rfl⟩ := C
  exact fun H locs ls hP hS hz hl => lv_ldc hx hb hown (hts _ hw) d (k H locs ls hP hS hz hl)
theorem x_ldc_w {index : Nat} {v : Int32} (C : Cx c cc nL own g l rm) (d : decode cc pc = .ok (.ldc_w index, 3)) (hw : Cond.constant own index v ∈ gtb) (k : X c κ (pc + 3) lv (.int v :: st) M) : X c κ pc lv (st) M := by
  obtain ⟨p, l, e, R, s, m, args, below, meth, co, Q, g⟩ := c
  obtain ⟨rfl, rfl, hx, hb, hml, hown, hts, hK, hN, hsz, hlk, hstr, rfl⟩ := C
  exact fun H locs ls hP hS hz hl => lv_ldcw hx hb hown (hts _ hw) d (k H locs ls hP hS hz hl)
theorem x_ldc2_w {index : Nat} {v : Int64} (C : Cx c cc nL own g l rm) (d : decode cc pc = .ok (.ldc2_w index, 3)) (hw : Cond.constantLong own index v ∈ gtb) (k : X c κ (pc + 3) lv (.long v :: st) M) : X c κ pc lv (st) M := by
  obtain ⟨p, l, e, R, s, m, args, below, meth, co, Q, g⟩ := c
  obtain ⟨rfl, rfl, hx, hb, hml, hown, hts, hK, hN, hsz, hlk, hstr, rfl⟩ := C
  exact fun H locs ls hP hS hz hl => lv_ldc2 hx hb hown (hts _ hw) d (k H locs ls hP hS hz hl)
theorem x_iload_n {n : Fin 4} {i : Nat} {x : Int32} (C : Cx c cc nL own g l rm) (d : decode cc pc = .ok (.iload_n n, 1)) (hi : (n : Nat) = i) (hg : lget lv i = some (.int x)) (k : X c κ (pc + 1) lv (.int x :: st) M) : X c κ pc lv (st) M := by
  obtain ⟨p, l, e, R, s, m, args, below, meth, co, Q, g⟩ := c
  obtain ⟨rfl, rfl, hx, hb, hml, hown, hts, hK, hN, hsz, hlk, hstr, rfl⟩ := C
  exact fun H locs ls hP hS hz hl => lv_iload_n hx hb d hi (lget_at hl hg) (k H locs ls hP hS hz hl)
theorem x_iload {i : Nat} {x : Int32} (C : Cx c cc nL own g l rm) (d : decode cc pc = .ok (.iload i, 2)) (hg : lget lv i = some (.int x)) (k : X c κ (pc + 2) lv (.int x :: st) M) : X c κ pc lv (st) M := by
  obtain ⟨p, l, e, R, s, m, args, below, meth, co, Q, g⟩ := c
  obtain ⟨rfl, rfl, hx, hb, hml, hown, hts, hK, hN, hsz, hlk, hstr, rfl⟩ := C
  exact fun H locs ls hP hS hz hl => lv_iload hx hb d (lget_at hl hg) (k H locs ls hP hS hz hl)
theorem x_istore_n {n : Fin 4} {i : Nat} {x : Int32} (C : Cx c cc nL own g l rm) (d : decode cc pc = .ok (.istore_n n, 1)) (hi : (n : Nat) = i) (hn : i < nL) (k : X c κ (pc + 1) (lset1 lv i (.int x)) st M) : X c κ pc lv (.int x :: st) M := by
  obtain ⟨p, l, e, R, s, m, args, below, meth, co, Q, g⟩ := c
  obtain ⟨rfl, rfl, hx, hb, hml, hown, hts, hK, hN, hsz, hlk, hstr, rfl⟩ := C
  exact fun H locs ls hP hS hz hl => lv_istore_n hx hb d hi hl (by rw [hml]; exact hn) rfl (fun ls' hl' => k H locs ls' hP hS hz hl')
theorem x_istore {i : Nat} {x : Int32} (C : Cx c cc nL own g l rm) (d : decode cc pc = .ok (.istore i, 2)) (hn : i < nL) (k : X c κ (pc + 2) (lset1 lv i (.int x)) st M) : X c κ pc lv (.int x :: st) M := by
  obtain ⟨p, l, e, R, s, m, args, below, meth, co, Q, g⟩ := c
  obtain ⟨rfl, rfl, hx, hb, hml, hown, hts, hK, hN, hsz, hlk, hstr, rfl⟩ := C
  exact fun H locs ls hP hS hz hl => lv_istore hx hb d hl (by rw [hml]; exact hn) rfl (fun ls' hl' => k H locs ls' hP hS hz hl')
theorem x_lload_n {n : Fin 4} {i : Nat} {x : Int64} (C : Cx c cc nL own g l rm) (d : decode cc pc = .ok (.lload_n n, 1)) (hi : (n : Nat) = i) (hg : lget lv i = some (.long x)) (k : X c κ (pc + 1) lv (.long x :: st) M) : X c κ pc lv (st) M := by
  obtain ⟨p, l, e, R, s, m, args, below, meth, co, Q, g⟩ := c
  obtain ⟨rfl, rfl, hx, hb, hml, hown, hts, hK, hN, hsz, hlk, hstr, rfl⟩ := C
  exact fun H locs ls hP hS hz hl => lv_lload_n hx hb d hi (lget_at hl hg) (k H locs ls hP hS hz hl)
theorem x_lload {i : Nat} {x : Int64} (C : Cx c cc nL own g l rm) (d : decode cc pc = .ok (.lload i, 2)) (hg : lget lv i = some (.long x)) (k : X c κ (pc + 2) lv (.long x :: st) M) : X c κ pc lv (st) M := by
  obtain ⟨p, l, e, R, s, m, args, below, meth, co, Q, g⟩ := c
  obtain ⟨rfl, rfl, hx, hb, hml, hown, hts, hK, hN, hsz, hlk, hstr, rfl⟩ := C
  exact fun H locs ls hP hS hz hl => lv_lload hx hb d (lget_at hl hg) (k H locs ls hP hS hz hl)
theorem x_lstore_n {n : Fin 4} {i : Nat} {x : Int64} (C : Cx c cc nL own g l rm) (d : decode cc pc = .ok (.lstore_n n, 1)) (hi : (n : Nat) = i) (hn : i + 1 < nL) (k : X c κ (pc + 1) (lset2 lv i (.long x)) st M) : X c κ pc lv (.long x :: st) M := by
  obtain ⟨p, l, e, R, s, m, args, below, meth, co, Q, g⟩ := c
  obtain ⟨rfl, rfl, hx, hb, hml, hown, hts, hK, hN, hsz, hlk, hstr, rfl⟩ := C
  exact fun H locs ls hP hS hz hl => lv_lstore_n hx hb d hi hl (by rw [hml]; exact hn) rfl (fun ls' hl' => k H locs ls' hP hS hz hl')
theorem x_lstore {i : Nat} {x : Int64} (C : Cx c cc nL own g l rm) (d : decode cc pc = .ok (.lstore i, 2)) (hn : i + 1 < nL) (k : X c κ (pc + 2) (lset2 lv i (.long x)) st M) : X c κ pc lv (.long x :: st) M := by
  obtain ⟨p, l, e, R, s, m, args, below, meth, co, Q, g⟩ := c
  obtain ⟨rfl, rfl, hx, hb, hml, hown, hts, hK, hN, hsz, hlk, hstr, rfl⟩ := C
  exact fun H locs ls hP hS hz hl => lv_lstore hx hb d hl (by rw [hml]; exact hn) rfl (fun ls' hl' => k H locs ls' hP hS hz hl')
theorem x_aload_n {n : Fin 4} {i : Nat} {x : Nat} (C : Cx c cc nL own g l rm) (d : decode cc pc = .ok (.aload_n n, 1)) (hi : (n : Nat) = i) (hg : lget lv i = some (.ref x)) (k : X c κ (pc + 1) lv (.ref x :: st) M) : X c κ pc lv (st) M := by
  obtain ⟨p, l, e, R, s, m, args, below, meth, co, Q, g⟩ := c
  obtain ⟨rfl, rfl, hx, hb, hml, hown, hts, hK, hN, hsz, hlk, hstr, rfl⟩ := C
  exact fun H locs ls hP hS hz hl => lv_aload_n hx hb d hi (lget_at hl hg) (k H locs ls hP hS hz hl)
theorem x_aload {i : Nat} {x : Nat} (C : Cx c cc nL own g l rm) (d : decode cc pc = .ok (.aload i, 2)) (hg : lget lv i = some (.ref x)) (k : X c κ (pc + 2) lv (.ref x :: st) M) : X c κ pc lv (st) M := by
  obtain ⟨p, l, e, R, s, m, args, below, meth, co, Q, g⟩ := c
  obtain ⟨rfl, rfl, hx, hb, hml, hown, hts, hK, hN, hsz, hlk, hstr, rfl⟩ := C
  exact fun H locs ls hP hS hz hl => lv_aload hx hb d (lget_at hl hg) (k H locs ls hP hS hz hl)
theorem x_astore_n {n : Fin 4} {i : Nat} {x : Nat} (C : Cx c cc nL own g l rm) (d : decode cc pc = .ok (.astore_n n, 1)) (hi : (n : Nat) = i) (hn : i < nL) (k : X c κ (pc + 1) (lset1 lv i (.ref x)) st M) : X c κ pc lv (.ref x :: st) M := by
  obtain ⟨p, l, e, R, s, m, args, below, meth, co, Q, g⟩ := c
  obtain ⟨rfl, rfl, hx, hb, hml, hown, hts, hK, hN, hsz, hlk, hstr, rfl⟩ := C
  exact fun H locs ls hP hS hz hl => lv_astore_n hx hb d hi hl (by rw [hml]; exact hn) rfl (fun ls' hl' => k H locs ls' hP hS hz hl')
theorem x_astore {i : Nat} {x : Nat} (C : Cx c cc nL own g l rm) (d : decode cc pc = .ok (.astore i, 2)) (hn : i < nL) (k : X c κ (pc + 2) (lset1 lv i (.ref x)) st M) : X c κ pc lv (.ref x :: st) M := by
  obtain ⟨p, l, e, R, s, m, args, below, meth, co, Q, g⟩ := c
  obtain ⟨rfl, rfl, hx, hb, hml, hown, hts, hK, hN, hsz, hlk, hstr, rfl⟩ := C
  exact fun H locs ls hP hS hz hl => lv_astore hx hb d hl (by rw [hml]; exact hn) rfl (fun ls' hl' => k H locs ls' hP hS hz hl')
theorem lget_ix {lv : List (Nat × Value)} {i : Nat} {v : Value} (h : lget lv i = some v) : ∃ k : Nat, lv[k]? = some (i, v) := by
  obtain ⟨k, hk⟩ := List.getElem?_of_mem (lget_mem h)
  exact ⟨k, hk⟩
theorem x_iinc {i : Nat} {n : Int} {x v : Int32} (C : Cx c cc nL own g l rm) (d : decode cc pc = .ok (.iinc i n, 3)) (hg : lget lv i = some (.int x)) (hv : x + Int32.ofInt n = v) (hn : i < nL) (k : X c κ (pc + 3) (lset1 lv i (.int v)) st M) : X c κ pc lv st M := by
  obtain ⟨p, l, e, R, s, m, args, below, meth, co, Q, g⟩ := c
  obtain ⟨rfl, rfl, hx, hb, hml, hown, hts, hK, hN, hsz, hlk, hstr, rfl⟩ := C
  obtain ⟨j, hj⟩ := lget_ix hg
  exact fun H locs ls hP hS hz hl => lv_iinc hx hb d hl hj hv (by rw [hml]; exact hn) rfl (fun ls' hl' => k H locs ls' hP hS hz hl')
theorem x_iadd {x y : Int32} (C : Cx c cc nL own g l rm) (d : decode cc pc = .ok (.iadd, 1)) (k : X c κ (pc + 1) lv (.int (x + y) :: st) M) : X c κ pc lv (.int y :: .int x :: st) M := by
  obtain ⟨p, l, e, R, s, m, args, below, meth, co, Q, g⟩ := c
  obtain ⟨rfl, rfl, hx, hb, hml, hown, hts, hK, hN, hsz, hlk, hstr, rfl⟩ := C
  exact fun H locs ls hP hS hz hl => lv_iadd hx hb d (k H locs ls hP hS hz hl)
theorem x_isub {x y : Int32} (C : Cx c cc nL own g l rm) (d : decode cc pc = .ok (.isub, 1)) (k : X c κ (pc + 1) lv (.int (x - y) :: st) M) : X c κ pc lv (.int y :: .int x :: st) M := by
  obtain ⟨p, l, e, R, s, m, args, below, meth, co, Q, g⟩ := c
  obtain ⟨rfl, rfl, hx, hb, hml, hown, hts, hK, hN, hsz, hlk, hstr, rfl⟩ := C
  exact fun H locs ls hP hS hz hl => lv_isub hx hb d (k H locs ls hP hS hz hl)
theorem x_imul {x y : Int32} (C : Cx c cc nL own g l rm) (d : decode cc pc = .ok (.imul, 1)) (k : X c κ (pc + 1) lv (.int (x * y) :: st) M) : X c κ pc lv (.int y :: .int x :: st) M := by
  obtain ⟨p, l, e, R, s, m, args, below, meth, co, Q, g⟩ := c
  obtain ⟨rfl, rfl, hx, hb, hml, hown, hts, hK, hN, hsz, hlk, hstr, rfl⟩ := C
  exact fun H locs ls hP hS hz hl => lv_imul hx hb d (k H locs ls hP hS hz hl)
theorem x_iand {x y : Int32} (C : Cx c cc nL own g l rm) (d : decode cc pc = .ok (.iand, 1)) (k : X c κ (pc + 1) lv (.int (x &&& y) :: st) M) : X c κ pc lv (.int y :: .int x :: st) M := by
  obtain ⟨p, l, e, R, s, m, args, below, meth, co, Q, g⟩ := c
  obtain ⟨rfl, rfl, hx, hb, hml, hown, hts, hK, hN, hsz, hlk, hstr, rfl⟩ := C
  exact fun H locs ls hP hS hz hl => lv_iand hx hb d (k H locs ls hP hS hz hl)
theorem x_ior {x y : Int32} (C : Cx c cc nL own g l rm) (d : decode cc pc = .ok (.ior, 1)) (k : X c κ (pc + 1) lv (.int (x ||| y) :: st) M) : X c κ pc lv (.int y :: .int x :: st) M := by
  obtain ⟨p, l, e, R, s, m, args, below, meth, co, Q, g⟩ := c
  obtain ⟨rfl, rfl, hx, hb, hml, hown, hts, hK, hN, hsz, hlk, hstr, rfl⟩ := C
  exact fun H locs ls hP hS hz hl => lv_ior hx hb d (k H locs ls hP hS hz hl)
theorem x_ixor {x y : Int32} (C : Cx c cc nL own g l rm) (d : decode cc pc = .ok (.ixor, 1)) (k : X c κ (pc + 1) lv (.int (x ^^^ y) :: st) M) : X c κ pc lv (.int y :: .int x :: st) M := by
  obtain ⟨p, l, e, R, s, m, args, below, meth, co, Q, g⟩ := c
  obtain ⟨rfl, rfl, hx, hb, hml, hown, hts, hK, hN, hsz, hlk, hstr, rfl⟩ := C
  exact fun H locs ls hP hS hz hl => lv_ixor hx hb d (k H locs ls hP hS hz hl)
theorem x_ishl {x y : Int32} (C : Cx c cc nL own g l rm) (d : decode cc pc = .ok (.ishl, 1)) (k : X c κ (pc + 1) lv (.int (x <<< (y &&& 31)) :: st) M) : X c κ pc lv (.int y :: .int x :: st) M := by
  obtain ⟨p, l, e, R, s, m, args, below, meth, co, Q, g⟩ := c
  obtain ⟨rfl, rfl, hx, hb, hml, hown, hts, hK, hN, hsz, hlk, hstr, rfl⟩ := C
  exact fun H locs ls hP hS hz hl => lv_ishl hx hb d (k H locs ls hP hS hz hl)
theorem x_ishr {x y : Int32} (C : Cx c cc nL own g l rm) (d : decode cc pc = .ok (.ishr, 1)) (k : X c κ (pc + 1) lv (.int (x >>> (y &&& 31)) :: st) M) : X c κ pc lv (.int y :: .int x :: st) M := by
  obtain ⟨p, l, e, R, s, m, args, below, meth, co, Q, g⟩ := c
  obtain ⟨rfl, rfl, hx, hb, hml, hown, hts, hK, hN, hsz, hlk, hstr, rfl⟩ := C
  exact fun H locs ls hP hS hz hl => lv_ishr hx hb d (k H locs ls hP hS hz hl)
theorem x_idiv {x y : Int32} (C : Cx c cc nL own g l rm) (d : decode cc pc = .ok (.idiv, 1)) (hne : ¬ y = 0) (k : X c κ (pc + 1) lv (.int (x / y) :: st) M) : X c κ pc lv (.int y :: .int x :: st) M := by
  obtain ⟨p, l, e, R, s, m, args, below, meth, co, Q, g⟩ := c
  obtain ⟨rfl, rfl, hx, hb, hml, hown, hts, hK, hN, hsz, hlk, hstr, rfl⟩ := C
  exact fun H locs ls hP hS hz hl => lv_idiv hx hb d hne (k H locs ls hP hS hz hl)
theorem x_irem {x y : Int32} (C : Cx c cc nL own g l rm) (d : decode cc pc = .ok (.irem, 1)) (hne : ¬ y = 0) (k : X c κ (pc + 1) lv (.int (x - x / y * y) :: st) M) : X c κ pc lv (.int y :: .int x :: st) M := by
  obtain ⟨p, l, e, R, s, m, args, below, meth, co, Q, g⟩ := c
  obtain ⟨rfl, rfl, hx, hb, hml, hown, hts, hK, hN, hsz, hlk, hstr, rfl⟩ := C
  exact fun H locs ls hP hS hz hl => lv_irem hx hb d hne (k H locs ls hP hS hz hl)
theorem x_iushr {x y : Int32} (C : Cx c cc nL own g l rm) (d : decode cc pc = .ok (.iushr, 1)) (k : X c κ (pc + 1) lv (.int ((x.toUInt32 >>> (y.toUInt32 &&& Int32.toUInt32 31)).toInt32) :: st) M) : X c κ pc lv (.int y :: .int x :: st) M := by
  obtain ⟨p, l, e, R, s, m, args, below, meth, co, Q, g⟩ := c
  obtain ⟨rfl, rfl, hx, hb, hml, hown, hts, hK, hN, hsz, hlk, hstr, rfl⟩ := C
  exact fun H locs ls hP hS hz hl => lv_iushr hx hb d rfl (k H locs ls hP hS hz hl)
theorem x_ineg {x : Int32} (C : Cx c cc nL own g l rm) (d : decode cc pc = .ok (.ineg, 1)) (k : X c κ (pc + 1) lv (.int (-x) :: st) M) : X c κ pc lv (.int x :: st) M := by
  obtain ⟨p, l, e, R, s, m, args, below, meth, co, Q, g⟩ := c
  obtain ⟨rfl, rfl, hx, hb, hml, hown, hts, hK, hN, hsz, hlk, hstr, rfl⟩ := C
  exact fun H locs ls hP hS hz hl => lv_ineg hx hb d (k H locs ls hP hS hz hl)
theorem x_ladd {x y : Int64} (C : Cx c cc nL own g l rm) (d : decode cc pc = .ok (.ladd, 1)) (k : X c κ (pc + 1) lv (.long (x + y) :: st) M) : X c κ pc lv (.long y :: .long x :: st) M := by
  obtain ⟨p, l, e, R, s, m, args, below, meth, co, Q, g⟩ := c
  obtain ⟨rfl, rfl, hx, hb, hml, hown, hts, hK, hN, hsz, hlk, hstr, rfl⟩ := C
  exact fun H locs ls hP hS hz hl => lv_ladd hx hb d (k H locs ls hP hS hz hl)
theorem x_lsub {x y : Int64} (C : Cx c cc nL own g l rm) (d : decode cc pc = .ok (.lsub, 1)) (k : X c κ (pc + 1) lv (.long (x - y) :: st) M) : X c κ pc lv (.long y :: .long x :: st) M := by
  obtain ⟨p, l, e, R, s, m, args, below, meth, co, Q, g⟩ := c
  obtain ⟨rfl, rfl, hx, hb, hml, hown, hts, hK, hN, hsz, hlk, hstr, rfl⟩ := C
  exact fun H locs ls hP hS hz hl => lv_lsub hx hb d (k H locs ls hP hS hz hl)
theorem x_lmul {x y : Int64} (C : Cx c cc nL own g l rm) (d : decode cc pc = .ok (.lmul, 1)) (k : X c κ (pc + 1) lv (.long (x * y) :: st) M) : X c κ pc lv (.long y :: .long x :: st) M := by
  obtain ⟨p, l, e, R, s, m, args, below, meth, co, Q, g⟩ := c
  obtain ⟨rfl, rfl, hx, hb, hml, hown, hts, hK, hN, hsz, hlk, hstr, rfl⟩ := C
  exact fun H locs ls hP hS hz hl => lv_lmul hx hb d (k H locs ls hP hS hz hl)
theorem x_land {x y : Int64} (C : Cx c cc nL own g l rm) (d : decode cc pc = .ok (.land, 1)) (k : X c κ (pc + 1) lv (.long (x &&& y) :: st) M) : X c κ pc lv (.long y :: .long x :: st) M := by
  obtain ⟨p, l, e, R, s, m, args, below, meth, co, Q, g⟩ := c
  obtain ⟨rfl, rfl, hx, hb, hml, hown, hts, hK, hN, hsz, hlk, hstr, rfl⟩ := C
  exact fun H locs ls hP hS hz hl => lv_land hx hb d (k H locs ls hP hS hz hl)
theorem x_lor {x y : Int64} (C : Cx c cc nL own g l rm) (d : decode cc pc = .ok (.lor, 1)) (k : X c κ (pc + 1) lv (.long (x ||| y) :: st) M) : X c κ pc lv (.long y :: .long x :: st) M := by
  obtain ⟨p, l, e, R, s, m, args, below, meth, co, Q, g⟩ := c
  obtain ⟨rfl, rfl, hx, hb, hml, hown, hts, hK, hN, hsz, hlk, hstr, rfl⟩ := C
  exact fun H locs ls hP hS hz hl => lv_lor hx hb d (k H locs ls hP hS hz hl)
theorem x_ldiv {x y : Int64} (C : Cx c cc nL own g l rm) (d : decode cc pc = .ok (.ldiv, 1)) (hne : ¬ y = 0) (k : X c κ (pc + 1) lv (.long (x / y) :: st) M) : X c κ pc lv (.long y :: .long x :: st) M := by
  obtain ⟨p, l, e, R, s, m, args, below, meth, co, Q, g⟩ := c
  obtain ⟨rfl, rfl, hx, hb, hml, hown, hts, hK, hN, hsz, hlk, hstr, rfl⟩ := C
  exact fun H locs ls hP hS hz hl => lv_ldiv hx hb d hne (k H locs ls hP hS hz hl)
theorem x_lneg {x : Int64} (C : Cx c cc nL own g l rm) (d : decode cc pc = .ok (.lneg, 1)) (k : X c κ (pc + 1) lv (.long (-x) :: st) M) : X c κ pc lv (.long x :: st) M := by
  obtain ⟨p, l, e, R, s, m, args, below, meth, co, Q, g⟩ := c
  obtain ⟨rfl, rfl, hx, hb, hml, hown, hts, hK, hN, hsz, hlk, hstr, rfl⟩ := C
  exact fun H locs ls hP hS hz hl => lv_lneg hx hb d (k H locs ls hP hS hz hl)
theorem x_lshl {x : Int64} {y : Int32} (C : Cx c cc nL own g l rm) (d : decode cc pc = .ok (.lshl, 1)) (k : X c κ (pc + 1) lv (.long (x <<< (y.toInt64 &&& 63)) :: st) M) : X c κ pc lv (.int y :: .long x :: st) M := by
  obtain ⟨p, l, e, R, s, m, args, below, meth, co, Q, g⟩ := c
  obtain ⟨rfl, rfl, hx, hb, hml, hown, hts, hK, hN, hsz, hlk, hstr, rfl⟩ := C
  exact fun H locs ls hP hS hz hl => lv_lshl hx hb d rfl (k H locs ls hP hS hz hl)
theorem x_lshr {x : Int64} {y : Int32} (C : Cx c cc nL own g l rm) (d : decode cc pc = .ok (.lshr, 1)) (k : X c κ (pc + 1) lv (.long (x >>> (y.toInt64 &&& 63)) :: st) M) : X c κ pc lv (.int y :: .long x :: st) M := by
  obtain ⟨p, l, e, R, s, m, args, below, meth, co, Q, g⟩ := c
  obtain ⟨rfl, rfl, hx, hb, hml, hown, hts, hK, hN, hsz, hlk, hstr, rfl⟩ := C
  exact fun H locs ls hP hS hz hl => lv_lshr hx hb d rfl (k H locs ls hP hS hz hl)
theorem x_i2l {x : Int32} (C : Cx c cc nL own g l rm) (d : decode cc pc = .ok (.i2l, 1)) (k : X c κ (pc + 1) lv (.long x.toInt64 :: st) M) : X c κ pc lv (.int x :: st) M := by
  obtain ⟨p, l, e, R, s, m, args, below, meth, co, Q, g⟩ := c
  obtain ⟨rfl, rfl, hx, hb, hml, hown, hts, hK, hN, hsz, hlk, hstr, rfl⟩ := C
  exact fun H locs ls hP hS hz hl => lv_i2l hx hb d rfl (k H locs ls hP hS hz hl)
theorem x_lcmp {x y : Int64} (C : Cx c cc nL own g l rm) (d : decode cc pc = .ok (.lcmp, 1)) (k : X c κ (pc + 1) lv (.int (lg_cmp x y) :: st) M) : X c κ pc lv (.long y :: .long x :: st) M := by
  obtain ⟨p, l, e, R, s, m, args, below, meth, co, Q, g⟩ := c
  obtain ⟨rfl, rfl, hx, hb, hml, hown, hts, hK, hN, hsz, hlk, hstr, rfl⟩ := C
  exact fun H locs ls hP hS hz hl => W.lcmp hx hb d (k H locs ls hP hS hz hl)
theorem x_dup {v : Value} (C : Cx c cc nL own g l rm) (d : decode cc pc = .ok (.dup, 1)) (hv : v.category = 1) (k : X c κ (pc + 1) lv (v :: v :: st) M) : X c κ pc lv (v :: st) M := by
  obtain ⟨p, l, e, R, s, m, args, below, meth, co, Q, g⟩ := c
  obtain ⟨rfl, rfl, hx, hb, hml, hown, hts, hK, hN, hsz, hlk, hstr, rfl⟩ := C
  exact fun H locs ls hP hS hz hl => lv_dup hx hb d hv (k H locs ls hP hS hz hl)
theorem x_dup2_11 {v u : Value} (C : Cx c cc nL own g l rm) (d : decode cc pc = .ok (.dup2, 1)) (hv : v.category = 1) (hu : u.category = 1) (k : X c κ (pc + 1) lv (v :: u :: v :: u :: st) M) : X c κ pc lv (v :: u :: st) M := by
  obtain ⟨p, l, e, R, s, m, args, below, meth, co, Q, g⟩ := c
  obtain ⟨rfl, rfl, hx, hb, hml, hown, hts, hK, hN, hsz, hlk, hstr, rfl⟩ := C
  exact fun H locs ls hP hS hz hl => lv_dup2_11 hx hb d hv hu (k H locs ls hP hS hz hl)
theorem x_dup2_2 {v : Value} (C : Cx c cc nL own g l rm) (d : decode cc pc = .ok (.dup2, 1)) (hv : v.category = 2) (k : X c κ (pc + 1) lv (v :: v :: st) M) : X c κ pc lv (v :: st) M := by
  obtain ⟨p, l, e, R, s, m, args, below, meth, co, Q, g⟩ := c
  obtain ⟨rfl, rfl, hx, hb, hml, hown, hts, hK, hN, hsz, hlk, hstr, rfl⟩ := C
  exact fun H locs ls hP hS hz hl => lv_dup2_2 hx hb d hv (k H locs ls hP hS hz hl)
theorem x_pop2_2 {v : Value} (C : Cx c cc nL own g l rm) (d : decode cc pc = .ok (.pop2, 1)) (hv : v.category = 2) (k : X c κ (pc + 1) lv (st) M) : X c κ pc lv (v :: st) M := by
  obtain ⟨p, l, e, R, s, m, args, below, meth, co, Q, g⟩ := c
  obtain ⟨rfl, rfl, hx, hb, hml, hown, hts, hK, hN, hsz, hlk, hstr, rfl⟩ := C
  exact fun H locs ls hP hS hz hl => lv_pop2_2 hx hb d hv (k H locs ls hP hS hz hl)
theorem x_if_eq {x : Int32} {off : Int} {tgt : Nat} (C : Cx c cc nL own g l rm) (d : decode cc pc = .ok (.ifCond .eq off, 3)) (ht : (pc : Int) + off = (tgt : Int)) (kt : x = 0 → X c κ tgt lv st M) (kf : ¬ x = 0 → X c κ (pc + 3) lv st M) : X c κ pc lv (.int x :: st) M := by
  obtain ⟨p, l, e, R, s, m, args, below, meth, co, Q, g⟩ := c
  obtain ⟨rfl, rfl, hx, hb, hml, hown, hts, hK, hN, hsz, hlk, hstr, rfl⟩ := C
  exact fun H locs ls hP hS hz hl => lv_if_eq hx hb d ht (fun q => kt q H locs ls hP hS hz hl) (fun q => kf q H locs ls hP hS hz hl)
theorem x_icmp_eq {x y : Int32} {off : Int} {tgt : Nat} (C : Cx c cc nL own g l rm) (d : decode cc pc = .ok (.if_icmp .eq off, 3)) (ht : (pc : Int) + off = (tgt : Int)) (kt : x = y → X c κ tgt lv st M) (kf : ¬ x = y → X c κ (pc + 3) lv st M) : X c κ pc lv (.int y :: .int x :: st) M := by
  obtain ⟨p, l, e, R, s, m, args, below, meth, co, Q, g⟩ := c
  obtain ⟨rfl, rfl, hx, hb, hml, hown, hts, hK, hN, hsz, hlk, hstr, rfl⟩ := C
  exact fun H locs ls hP hS hz hl => lv_icmp_eq hx hb d ht (fun q => kt q H locs ls hP hS hz hl) (fun q => kf q H locs ls hP hS hz hl)
theorem x_if_ne {x : Int32} {off : Int} {tgt : Nat} (C : Cx c cc nL own g l rm) (d : decode cc pc = .ok (.ifCond .ne off, 3)) (ht : (pc : Int) + off = (tgt : Int)) (kt : ¬ x = 0 → X c κ tgt lv st M) (kf : x = 0 → X c κ (pc + 3) lv st M) : X c κ pc lv (.int x :: st) M := by
  obtain ⟨p, l, e, R, s, m, args, below, meth, co, Q, g⟩ := c
  obtain ⟨rfl, rfl, hx, hb, hml, hown, hts, hK, hN, hsz, hlk, hstr, rfl⟩ := C
  exact fun H locs ls hP hS hz hl => lv_if_ne hx hb d ht (fun q => kt q H locs ls hP hS hz hl) (fun q => kf q H locs ls hP hS hz hl)
theorem x_icmp_ne {x y : Int32} {off : Int} {tgt : Nat} (C : Cx c cc nL own g l rm) (d : decode cc pc = .ok (.if_icmp .ne off, 3)) (ht : (pc : Int) + off = (tgt : Int)) (kt : ¬ x = y → X c κ tgt lv st M) (kf : x = y → X c κ (pc + 3) lv st M) : X c κ pc lv (.int y :: .int x :: st) M := by
  obtain ⟨p, l, e, R, s, m, args, below, meth, co, Q, g⟩ := c
  obtain ⟨rfl, rfl, hx, hb, hml, hown, hts, hK, hN, hsz, hlk, hstr, rfl⟩ := C
  exact fun H locs ls hP hS hz hl => lv_icmp_ne hx hb d ht (fun q => kt q H locs ls hP hS hz hl) (fun q => kf q H locs ls hP hS hz hl)
theorem x_if_lt {x : Int32} {off : Int} {tgt : Nat} (C : Cx c cc nL own g l rm) (d : decode cc pc = .ok (.ifCond .lt off, 3)) (ht : (pc : Int) + off = (tgt : Int)) (kt : x < 0 → X c κ tgt lv st M) (kf : ¬ x < 0 → X c κ (pc + 3) lv st M) : X c κ pc lv (.int x :: st) M := by
  obtain ⟨p, l, e, R, s, m, args, below, meth, co, Q, g⟩ := c
  obtain ⟨rfl, rfl, hx, hb, hml, hown, hts, hK, hN, hsz, hlk, hstr, rfl⟩ := C
  exact fun H locs ls hP hS hz hl => lv_if_lt hx hb d ht (fun q => kt q H locs ls hP hS hz hl) (fun q => kf q H locs ls hP hS hz hl)
theorem x_icmp_lt {x y : Int32} {off : Int} {tgt : Nat} (C : Cx c cc nL own g l rm) (d : decode cc pc = .ok (.if_icmp .lt off, 3)) (ht : (pc : Int) + off = (tgt : Int)) (kt : x < y → X c κ tgt lv st M) (kf : ¬ x < y → X c κ (pc + 3) lv st M) : X c κ pc lv (.int y :: .int x :: st) M := by
  obtain ⟨p, l, e, R, s, m, args, below, meth, co, Q, g⟩ := c
  obtain ⟨rfl, rfl, hx, hb, hml, hown, hts, hK, hN, hsz, hlk, hstr, rfl⟩ := C
  exact fun H locs ls hP hS hz hl => lv_icmp_lt hx hb d ht (fun q => kt q H locs ls hP hS hz hl) (fun q => kf q H locs ls hP hS hz hl)
theorem x_if_ge {x : Int32} {off : Int} {tgt : Nat} (C : Cx c cc nL own g l rm) (d : decode cc pc = .ok (.ifCond .ge off, 3)) (ht : (pc : Int) + off = (tgt : Int)) (kt : 0 ≤ x → X c κ tgt lv st M) (kf : ¬ 0 ≤ x → X c κ (pc + 3) lv st M) : X c κ pc lv (.int x :: st) M := by
  obtain ⟨p, l, e, R, s, m, args, below, meth, co, Q, g⟩ := c
  obtain ⟨rfl, rfl, hx, hb, hml, hown, hts, hK, hN, hsz, hlk, hstr, rfl⟩ := C
  exact fun H locs ls hP hS hz hl => lv_if_ge hx hb d ht (fun q => kt q H locs ls hP hS hz hl) (fun q => kf q H locs ls hP hS hz hl)
theorem x_icmp_ge {x y : Int32} {off : Int} {tgt : Nat} (C : Cx c cc nL own g l rm) (d : decode cc pc = .ok (.if_icmp .ge off, 3)) (ht : (pc : Int) + off = (tgt : Int)) (kt : y ≤ x → X c κ tgt lv st M) (kf : ¬ y ≤ x → X c κ (pc + 3) lv st M) : X c κ pc lv (.int y :: .int x :: st) M := by
  obtain ⟨p, l, e, R, s, m, args, below, meth, co, Q, g⟩ := c
  obtain ⟨rfl, rfl, hx, hb, hml, hown, hts, hK, hN, hsz, hlk, hstr, rfl⟩ := C
  exact fun H locs ls hP hS hz hl => lv_icmp_ge hx hb d ht (fun q => kt q H locs ls hP hS hz hl) (fun q => kf q H locs ls hP hS hz hl)
theorem x_if_gt {x : Int32} {off : Int} {tgt : Nat} (C : Cx c cc nL own g l rm) (d : decode cc pc = .ok (.ifCond .gt off, 3)) (ht : (pc : Int) + off = (tgt : Int)) (kt : 0 < x → X c κ tgt lv st M) (kf : ¬ 0 < x → X c κ (pc + 3) lv st M) : X c κ pc lv (.int x :: st) M := by
  obtain ⟨p, l, e, R, s, m, args, below, meth, co, Q, g⟩ := c
  obtain ⟨rfl, rfl, hx, hb, hml, hown, hts, hK, hN, hsz, hlk, hstr, rfl⟩ := C
  exact fun H locs ls hP hS hz hl => lv_if_gt hx hb d ht (fun q => kt q H locs ls hP hS hz hl) (fun q => kf q H locs ls hP hS hz hl)
theorem x_icmp_gt {x y : Int32} {off : Int} {tgt : Nat} (C : Cx c cc nL own g l rm) (d : decode cc pc = .ok (.if_icmp .gt off, 3)) (ht : (pc : Int) + off = (tgt : Int)) (kt : y < x → X c κ tgt lv st M) (kf : ¬ y < x → X c κ (pc + 3) lv st M) : X c κ pc lv (.int y :: .int x :: st) M := by
  obtain ⟨p, l, e, R, s, m, args, below, meth, co, Q, g⟩ := c
  obtain ⟨rfl, rfl, hx, hb, hml, hown, hts, hK, hN, hsz, hlk, hstr, rfl⟩ := C
  exact fun H locs ls hP hS hz hl => lv_icmp_gt hx hb d ht (fun q => kt q H locs ls hP hS hz hl) (fun q => kf q H locs ls hP hS hz hl)
theorem x_if_le {x : Int32} {off : Int} {tgt : Nat} (C : Cx c cc nL own g l rm) (d : decode cc pc = .ok (.ifCond .le off, 3)) (ht : (pc : Int) + off = (tgt : Int)) (kt : x ≤ 0 → X c κ tgt lv st M) (kf : ¬ x ≤ 0 → X c κ (pc + 3) lv st M) : X c κ pc lv (.int x :: st) M := by
  obtain ⟨p, l, e, R, s, m, args, below, meth, co, Q, g⟩ := c
  obtain ⟨rfl, rfl, hx, hb, hml, hown, hts, hK, hN, hsz, hlk, hstr, rfl⟩ := C
  exact fun H locs ls hP hS hz hl => lv_if_le hx hb d ht (fun q => kt q H locs ls hP hS hz hl) (fun q => kf q H locs ls hP hS hz hl)
theorem x_icmp_le {x y : Int32} {off : Int} {tgt : Nat} (C : Cx c cc nL own g l rm) (d : decode cc pc = .ok (.if_icmp .le off, 3)) (ht : (pc : Int) + off = (tgt : Int)) (kt : x ≤ y → X c κ tgt lv st M) (kf : ¬ x ≤ y → X c κ (pc + 3) lv st M) : X c κ pc lv (.int y :: .int x :: st) M := by
  obtain ⟨p, l, e, R, s, m, args, below, meth, co, Q, g⟩ := c
  obtain ⟨rfl, rfl, hx, hb, hml, hown, hts, hK, hN, hsz, hlk, hstr, rfl⟩ := C
  exact fun H locs ls hP hS hz hl => lv_icmp_le hx hb d ht (fun q => kt q H locs ls hP hS hz hl) (fun q => kf q H locs ls hP hS hz hl)
theorem x_goto {off : Int} {tgt : Nat} (C : Cx c cc nL own g l rm) (d : decode cc pc = .ok (.goto off, 3)) (ht : (pc : Int) + off = (tgt : Int)) (k : X c κ tgt lv st M) : X c κ pc lv st M := by
  obtain ⟨p, l, e, R, s, m, args, below, meth, co, Q, g⟩ := c
  obtain ⟨rfl, rfl, hx, hb, hml, hown, hts, hK, hN, hsz, hlk, hstr, rfl⟩ := C
  exact fun H locs ls hP hS hz hl => lv_goto hx hb d ht (k H locs ls hP hS hz hl)
theorem x_ifnull {x : Nat} {off : Int} (C : Cx c cc nL own g l rm) (d : decode cc pc = .ok (.ifnull off, 3)) (k : X c κ (pc + 3) lv st M) : X c κ pc lv (.ref x :: st) M := by
  obtain ⟨p, l, e, R, s, m, args, below, meth, co, Q, g⟩ := c
  obtain ⟨rfl, rfl, hx, hb, hml, hown, hts, hK, hN, hsz, hlk, hstr, rfl⟩ := C
  exact fun H locs ls hP hS hz hl => lv_ifnull hx hb d (k H locs ls hP hS hz hl)
theorem x_ifnonnull {x : Nat} {off : Int} {tgt : Nat} (C : Cx c cc nL own g l rm) (d : decode cc pc = .ok (.ifnonnull off, 3)) (ht : (pc : Int) + off = (tgt : Int)) (k : X c κ tgt lv st M) : X c κ pc lv (.ref x :: st) M := by
  obtain ⟨p, l, e, R, s, m, args, below, meth, co, Q, g⟩ := c
  obtain ⟨rfl, rfl, hx, hb, hml, hown, hts, hK, hN, hsz, hlk, hstr, rfl⟩ := C
  exact fun H locs ls hP hS hz hl => lv_ifnonnull hx hb d ht (k H locs ls hP hS hz hl)
theorem x_tableOut {dflt lo2 hi : Int} {offs : Array Int} {ln : Nat} {x : Int32} {tgt : Nat} (C : Cx c cc nL own g l rm) (d : decode cc pc = .ok (.tableswitch dflt lo2 hi offs, ln)) (h : x.toInt < lo2 ∨ hi < x.toInt) (ht : (pc : Int) + dflt = (tgt : Int)) (k : X c κ tgt lv st M) : X c κ pc lv (.int x :: st) M := by
  obtain ⟨p, l, e, R, s, m, args, below, meth, co, Q, g⟩ := c
  obtain ⟨rfl, rfl, hx, hb, hml, hown, hts, hK, hN, hsz, hlk, hstr, rfl⟩ := C
  exact fun H locs ls hP hS hz hl => lv_tableOut hx hb d h ht (k H locs ls hP hS hz hl)
theorem x_tableIn {dflt lo2 hi : Int} {offs : Array Int} {ln : Nat} {x : Int32} {off : Int} {tgt : Nat} (C : Cx c cc nL own g l rm) (d : decode cc pc = .ok (.tableswitch dflt lo2 hi offs, ln)) (h1 : ¬ x.toInt < lo2) (h2 : ¬ hi < x.toInt) (ho : offs[(x.toInt - lo2).toNat]? = some off) (ht : (pc : Int) + off = (tgt : Int)) (k : X c κ tgt lv st M) : X c κ pc lv (.int x :: st) M := by
  obtain ⟨p, l, e, R, s, m, args, below, meth, co, Q, g⟩ := c
  obtain ⟨rfl, rfl, hx, hb, hml, hown, hts, hK, hN, hsz, hlk, hstr, rfl⟩ := C
  exact fun H locs ls hP hS hz hl => lv_tableIn hx hb d h1 h2 ho ht (k H locs ls hP hS hz hl)
theorem x_lookup {dflt : Int} {ps : Array (Int × Int)} {ln : Nat} {x : Int32} {off : Int} {tgt : Nat} (C : Cx c cc nL own g l rm) (d : decode cc pc = .ok (.lookupswitch dflt ps, ln)) (hp : (ps.toList.zip (ps.toList.drop 1)).all (fun (a, next) => a.1 < next.1) = true) (ho : Op.lookupswitch.offset ps.toList dflt x.toInt = off) (ht : (pc : Int) + off = (tgt : Int)) (k : X c κ tgt lv st M) : X c κ pc lv (.int x :: st) M := by
  obtain ⟨p, l, e, R, s, m, args, below, meth, co, Q, g⟩ := c
  obtain ⟨rfl, rfl, hx, hb, hml, hown, hts, hK, hN, hsz, hlk, hstr, rfl⟩ := C
  exact fun H locs ls hP hS hz hl => lv_lookup hx hb d hp ho ht (k H locs ls hP hS hz hl)
end XR

/-! THE CLAIM OUT OF ONE WALK OF THE LAW'S BODY. Your part is whole_start (and what it stands on); all else here is the same for every law, but numbers. -/
def R_law : String := "FastWhyLaw"
def lw_P (b : Addr) (xs : List Int32) (args : Array Value) (s : State) : Prop := args = #[.ref b] ∧ s.IntsAt b xs ∧ xs.length ≤ 4096 ∧ (Jvm.Cond.and given_1 narrow_1).before args s = true
def lw_Q (_ : Array Value) (s : State) (o : Outcome) (t : State) : Prop := o = .returned (some (.int 1)) ∧ Framed s o t [] 600000 7302250
def lw_Z (below : List Frame) (a : Array Value) (s : State) : State → Prop := fun t => ∃ o, t.status = .running ∧ Ended t below o ∧ lw_Q a s o t
/-- the law's own end, with 1 on the stack, nothing written that was there before, its room as the claim has it -/
theorem lw_ret {p : Program} {l : Launch} {e : Env} {s : State} {m : MethodId} {below : List Frame} {meth : Method} {c : Code} {b : Nat} (hx : p.tables.exec = Jvm.exec) (hb : c.code = code) (hr : meth.sig.returnType = ret) (hlocks : meth.locks = false) {pc : Nat} {H : Heap} {ls : Array Slot} (hdg : decode code pc = .ok (.ireturn, 1)) : W p l e room_1 s m #[Value.ref b] below meth c H [] 600000 7302250 (lw_Z below #[Value.ref b] s) (F0 m pc ls [.int 1]) := by
  intro T hT X
  obtain ⟨fs, hret, hrun, hended, hW, hframe⟩ := X.leave (v := some (.int 1)) (hlocks := hlocks) (fun h => by rw [hr] at h; cases h)
  have hmeth' : T.vm.method? m = some meth := X.method'
  refine ⟨T.setFrames fs, ?_, .returned (some (.int 1)), hrun, hended, rfl, ⟨_, rfl⟩, hW, hframe⟩
  jvm_step X.here [X.here.top, hx, hb, hdg, hmeth', hr, ret, narrow_b1]
  (try refine ⟨rfl, ?_⟩); (try refine ⟨rfl, ?_⟩)
  first | (intro acts; rw [hret _ acts rfl rfl rfl]) | rw [hret _ _ rfl rfl rfl]
  exact Steps.refl _
/-- what holds at the law's entry: the machine, the code, the tables' words (any of lw_tbl by 'hts w (by decide +kernel)'), the script of L ints xs at the cell b, what the Statement gives of the start (any of its parts by flat_of_before) -/
def lw_At (p : Program) (s : State) (m : MethodId) (meth : Method) (c : Code) (b L : Nat) (xs : Nat → Int32) : Prop :=
  p.tables.exec = Jvm.exec ∧ c.code = code ∧ meth.sig.returnType = ret ∧ c.maxLocals = 4 ∧ s.vm.findClass R_law = some m.cls ∧ (∀ w ∈ lw_tbl, w.before #[Value.ref b] s = true) ∧ va_X b L xs s s.heap ∧ b < s.heap.size ∧ meth.locks = false ∧ (Jvm.Cond.and given_1 narrow_1).before #[Value.ref b] s = true

set_option maxRecDepth 100000 in
set_option maxHeartbeats 8000000 in
theorem whole_start_of {p : Program} {e : Env} {s : State} {m : MethodId} {below : List Frame} {meth : Method} {c : Code} (l : Launch) {b L : Nat} {xs : Nat → Int32} (hw : w_start L xs) (C0 : lw_At p s m meth c b L xs) : W p l e room_1 s m #[Value.ref b] below meth c s.heap [] 0 0 (lw_Z below #[Value.ref b] s) (entryFrame m ([Value.ref b] : List Value).toArray 4) := by
  obtain ⟨hx, hb, hr, hml, hown, hts, hX, hbl, hlocks, hgv⟩ := C0
  have hf := flat_of_before _ hgv
  have hA : ∀ a : Nat, a < s.heap.size → ¬ s.heap.size ≤ a := fun a h => Nat.not_le.mpr h
  obtain ⟨adK, adV, hS, hev⟩ := vk_Sof (args := #[Value.ref b]) (s := s) (N := 1) (tm := fun _ => Term.string "FastWhy$Reader" 102) (len := [6]) (byt := [[110, 109, 108, 103, 112, 98]]) (A := fun q => s.heap.size ≤ q) (by decide) (fun i _ => hf _ (by decide +kernel)) (fun i _ => hf _ (by decide +kernel)) (fun i _ => hf _ (by decide +kernel)) (fun i hi => by
      obtain rfl : i = 0 := (by omega)
      exact hf _ (by decide +kernel)) (fun i hi j hj => by
      obtain rfl : i = 0 := (by omega)
      have hj : j < 6 := hj
      match j, hj with
      | 0, _ => exact hf _ (by decide +kernel)
      | 1, _ => exact hf _ (by decide +kernel)
      | 2, _ => exact hf _ (by decide +kernel)
      | 3, _ => exact hf _ (by decide +kernel)
      | 4, _ => exact hf _ (by decide +kernel)
      | 5, _ => exact hf _ (by decide +kernel)
      | j + 6, hj => exact absurd hj (by omega)) (fun i j hi hj h => absurd (show i = j by omega) h) hA
  obtain ⟨c0, iS0, hKn0⟩ := u_known (C := RX0) (T := TX0) (N := 2) (n := 2) hts inX0 (hts (.instantiable RX0 2) (gtb_in nw_0))
  obtain ⟨c1, iS1, hKn1⟩ := u_known (C := RX1) (T := TX1) (N := 7) (n := 7) hts inX1 (hts (.instantiable RX1 7) (gtb_in nw_1))
  obtain ⟨c2, iS2, hKn2⟩ := u_known (C := RX2) (T := TX2) (N := 9) (n := 9) hts inX2 (hts (.instantiable RX2 9) (gtb_in nw_2))
  obtain ⟨c3, iS3, hKn3⟩ := u_known (C := RX3) (T := TX3) (N := 12) (n := 12) hts inX3 (hts (.instantiable RX3 12) (gtb_in nw_3))
  obtain ⟨c4, iS4, hKn4⟩ := u_known (C := RX4) (T := TX4) (N := 5) (n := 5) hts inX4 (hts (.instantiable RX4 5) (gtb_in nw_4))
  obtain ⟨c5, iS5, hKn5⟩ := u_known (C := RX5) (T := TX5) (N := 6) (n := 6) hts inX5 (hts (.instantiable RX5 6) (gtb_in nw_5))
  obtain ⟨c6, iS6, hKn6⟩ := u_known (C := RX6) (T := TX6) (N := 12) (n := 12) hts inX6 (hts (.instantiable RX6 12) (gtb_in nw_6))
  obtain ⟨c7, iS7, hKn7⟩ := u_known (C := RX7) (T := TX7) (N := 12) (n := 12) hts inX7 (hts (.instantiable RX7 12) (gtb_in nw_7))
  obtain ⟨c8, iS8, hKn8⟩ := u_known (C := RX8) (T := TX8) (N := 7) (n := 7) hts inX8 (hts (.instantiable RX8 7) (gtb_in nw_8))
  obtain ⟨c9, iS9, hKn9⟩ := u_known (C := RX9) (T := TX9) (N := 9) (n := 9) hts inX9 (hts (.instantiable RX9 9) (gtb_in nw_9))
  obtain ⟨c10, iS10, hKn10⟩ := u_known (C := RX10) (T := TX10) (N := 3) (n := 3) hts inX10 (hts (.instantiable RX10 3) (gtb_in nw_10))
  obtain ⟨c11, iS11, hKn11⟩ := u_known (C := RX11) (T := TX11) (N := 10) (n := 10) hts inX11 (hts (.instantiable RX11 10) (gtb_in nw_11))
  obtain ⟨c12, iS12, hKn12⟩ := u_known (C := RX12) (T := TX12) (N := 30) (n := 30) hts inX12 (hts (.instantiable RX12 30) (gtb_in nw_12))
  obtain ⟨a0, ka0, co0, f0, k0, d0⟩ := Cond.arrayClass_spec (hts (.arrayClass .int) (gtb_in ax_int))
  obtain ⟨a1, ka1, co1, f1, k1, d1⟩ := Cond.arrayClass_spec (hts (.arrayClass .long) (gtb_in ax_long))
  obtain ⟨a2, ka2, co2, f2, k2, d2⟩ := Cond.arrayClass_spec (hts (.arrayClass .boolean) (gtb_in ax_boolean))
  have ho3 : (Cond.arrayOver (.object "FastWhy$Machine")).before #[Value.ref b] s = true := hts _ (List.mem_of_getElem? (i := 157) (by rfl))
  obtain ⟨co3, a3, ka3, g3, -, k3, d3, f3⟩ := Cond.arrayOver_spec ho3
  have ho4 : (Cond.arrayOver (.object "FastWhy$Store")).before #[Value.ref b] s = true := hts _ (List.mem_of_getElem? (i := 281) (by rfl))
  obtain ⟨co4, a4, ka4, g4, -, k4, d4, f4⟩ := Cond.arrayOver_spec ho4
  obtain ⟨g, hg1, hg2, hg3, hg4, hg5, hg6⟩ : ∃ g : Gl, (∀ (k : Nat) (q : vw_C), vwCl[k]? = some q → u_Kn s q.1 q.2.1 q.2.2 (g.1 k) (g.2.1 k)) ∧ g.2.1 99 0 = adK 0 ∧ g.2.1 99 1 = adV 0 ∧ g.2.2.2 = s.heap.size ∧ (g.2.2.1 0 = a0 ∧ g.2.2.1 1 = a1 ∧ g.2.2.1 2 = a2) ∧ g.2.2.1 3 = a3 ∧ g.2.2.1 4 = a4 := by
    refine ⟨(fun k => if k = 0 then c0 else if k = 1 then c1 else if k = 2 then c2 else if k = 3 then c3 else if k = 4 then c4 else if k = 5 then c5 else if k = 6 then c6 else if k = 7 then c7 else if k = 8 then c8 else if k = 9 then c9 else if k = 10 then c10 else if k = 11 then c11 else c12, fun k => if k = 0 then iS0 else if k = 1 then iS1 else if k = 2 then iS2 else if k = 3 then iS3 else if k = 4 then iS4 else if k = 5 then iS5 else if k = 6 then iS6 else if k = 7 then iS7 else if k = 8 then iS8 else if k = 9 then iS9 else if k = 10 then iS10 else if k = 11 then iS11 else if k = 12 then iS12 else fun j => if j = 0 then adK 0 else adV 0, fun k => if k = 0 then a0 else if k = 1 then a1 else if k = 2 then a2 else if k = 3 then a3 else a4, s.heap.size), ?_, rfl, rfl, rfl, ⟨rfl, rfl, rfl⟩, rfl, rfl⟩
    intro k q hq
    match k, hq with
    | 0, hq => cases hq; exact hKn0
    | 1, hq => cases hq; exact hKn1
    | 2, hq => cases hq; exact hKn2
    | 3, hq => cases hq; exact hKn3
    | 4, hq => cases hq; exact hKn4
    | 5, hq => cases hq; exact hKn5
    | 6, hq => cases hq; exact hKn6
    | 7, hq => cases hq; exact hKn7
    | 8, hq => cases hq; exact hKn8
    | 9, hq => cases hq; exact hKn9
    | 10, hq => cases hq; exact hKn10
    | 11, hq => cases hq; exact hKn11
    | 12, hq => cases hq; exact hKn12
    | k + 13, hq => simp [vwCl] at hq
  obtain ⟨hg51, hg52, hg53⟩ := hg5
  obtain ⟨hg61, hg62⟩ := hg6
  have hK : va_K (g.1, g.2.1) vwCl (tysOf g) s := by
    refine ⟨hg1, fun k q hq => ?_⟩
    match k, hq with
    | 0, hq => cases hq; rw [hg51]; exact ⟨fun n z => ⟨fun k h => (by cases h), ka0, k0, co0, d0⟩, f0⟩
    | 1, hq => cases hq; rw [hg52]; exact ⟨fun n z => ⟨fun k h => (by cases h), ka1, k1, co1, d1⟩, f1⟩
    | 2, hq => cases hq; rw [hg53]; exact ⟨fun n z => ⟨fun k h => (by cases h), ka2, k2, co2, d2⟩, f2⟩
    | 3, hq => cases hq; rw [hg61]; exact ⟨fun n z => ⟨fun k h => (by cases h), ka3, k3, co3, d3⟩, ka3, co3, k3, d3, g3, f3⟩
    | 4, hq => cases hq; rw [hg62]; exact ⟨fun n z => ⟨fun k h => (by cases h), ka4, k4, co4, d4⟩, ka4, co4, k4, d4, g4, f4⟩
    | k + 5, hq => simp [tysOf] at hq
  have hstr : Str g s s.heap := by
    refine ⟨?_, ?_, ?_, ?_⟩
    · rw [hg2]; exact vk_R.of (A := #[Value.ref b]) (hts _ (List.mem_of_getElem? (i := 1017) (by rfl))) (hev 0 (by decide))
    · rw [hg2, hg3, hg4]; exact ⟨fun i hi => (show i = 0 by omega) ▸ hS.1 0 (by decide), fun i j hi hj _ => by omega⟩
    · rw [hg4]; exact va_Zof (hts _ (List.mem_of_getElem? (i := 1027) (by rfl))) (hts _ (List.mem_of_getElem? (i := 78) (by rfl))) (va_eqi (hf _ (by decide +kernel))) hA
    · rw [hg4]; exact va_Zqof (hts _ (List.mem_of_getElem? (i := 1043) (by rfl))) (hts _ (List.mem_of_getElem? (i := 80) (by rfl))) (hf _ (by decide +kernel)) hA
  have hN : Nst s := by
    refine ⟨fun q hq => ?_, va_AO.of ho3, va_AO.of ho4⟩
    refine va_Nw.of rfl (hts _ (show Cond.methodLinkNest q.1 q.2.1 q.2.2.1 q.2.2.2 ∈ lw_tbl from ?_))
    revert q
    exact (by decide +kernel : ∀ q ∈ nestW, Cond.methodLinkNest q.1 q.2.1 q.2.2.1 q.2.2.2 ∈ lw_tbl)
  have C : Cx (p, l, e, room_1, s, m, #[Value.ref b], below, meth, c, lw_Z below #[Value.ref b] s, g) code 4 RL g l room_1 := ⟨rfl, rfl, hx, hb, hml, hown, fun w hw => hts w (gtb_in hw), hK, hN, by rw [hg4]; exact Nat.le_refl _, hlocks, hstr, rfl⟩
  have Lc : Lx (p, l, e, room_1, s, m, #[Value.ref b], below, meth, c, lw_Z below #[Value.ref b] s, g) g b L xs := ⟨hX, hbl, by rw [hg4]; exact hbl⟩
  have He : Le (p, l, e, room_1, s, m, #[Value.ref b], below, meth, c, lw_Z below #[Value.ref b] s, g) := by
    intro κ pc lv M hk d
    subst hk
    intro H locs ls hP hS2 hz hl
    refine va_forget (fun q hq => ?_) ?_
    · have := hS2.2.2 q hq
      rw [hg4] at this
      exact this
    · exact W.widen (k := 600000) (n := 7302250) (by decide) (by decide) (lw_ret hx hb hr hlocks d)
  have hl := lv_entry ([.ref b]) (n := 4) (Nat.le_of_ble_eq_true rfl)
  rw [lg_entry_eq]
  refine ok_law C Lc He hw s.heap [] _ (fun k q h => by simp [wl] at h) va_S.rf (fun _ => by rw [hg4]; rfl) ?_
  rw [hml]
  exact hl

section XC
theorem qm_call {p : Program} {l : Launch} {e : Env} {R : Room} {s : State} {m : MethodId} {args : Array Value} {below : List Frame} {meth : Method} {c : Code} {H : Heap} {locs : List Loc} {cells slots mc ms : Nat} {Q : State → Prop} {g : Gl} {post : Option Value → Nat → Mem → Prop} {a : Array Value} {pc : Nat} {ls : Array Slot} {st0 rest : List Value}
    (hr : va_Run p l e R s m args below meth c H locs cells slots mc ms (F0 m pc ls st0) rest (Qm g post a) (fun q => g.2.2.2 ≤ q)) (hS : va_S (fun q => g.2.2.2 ≤ q) s.heap H locs)
    (kk : ∀ (r : Option Value) (K : Nat) (M : Mem) (H1 : Heap) (locs1 : List Loc), post r K M → va_P (g.1, g.2.1) vwCl (wl g K M) H1 → va_S (fun q => g.2.2.2 ≤ q) s.heap H1 locs1 → (K < KT → H1.size = g.2.2.2 + K) → W p l e R s m args below meth c H1 locs1 (cells + mc) (slots + ms) Q (F0 m (pc + 3) ls (r.toList ++ rest))) :
    W p l e R s m args below meth c H locs cells slots Q (F0 m pc ls st0) := by
  intro T hT X
  obtain ⟨v, st₀, t, T', L, h0, X', hL, e1, e2, ⟨r, K, M, hv, hp, ⟨hP, hz, -, -, -, -⟩, hz2, hk⟩, st⟩ := hr T hT X
  cases hv
  rw [h0] at hz2 hk
  obtain ⟨t2, a1, b1⟩ := kk v K M T'.heap (locs ++ L) hp (by rw [e1]; exact hP)
    ⟨Nat.le_trans hS.1 (by rw [e1]; exact hz2), fun q h1 h2 => by rw [e1, hk q (Nat.lt_of_lt_of_le h1 hS.1) h2]; exact hS.2.1 q h1 h2, fun q hq => by
      rcases List.mem_append.mp hq with h | h
      · exact hS.2.2 q h
      · exact hL q h⟩ (by rw [e1]; exact hz) T' rfl X'
  exact ⟨t2, st t2 a1, b1⟩
variable {c : CtxT} {κ : Nat × Nat × Nat} {pc : Nat} {lv : List (Nat × Value)} {st rest : List Value} {M : Mem} {cc : ByteArray} {nL : Nat} {own : String} {g : Gl} {l : Launch} {rm : Room} {index : Nat} {y : MethodName} {bytes : ByteArray} {maxL fr lo mc ms : Nat} {ret : Option FieldType} {as : List Value} {n : Nat} {post : Option Value → Nat → Mem → Prop}
theorem hld_blind {K : Nat} : FrameBlind (va_Pc as (fun U => Hld g K M U)) := fun a U gf mk q => ⟨q.1, q.2.1, q.2.2.1, va_K.moved (u := U) (U := U.calling gf mk a) (Vm.Alike.refl U.vm) q.2.2.2.1, ⟨fun w hw => va_Nw.same rfl (rfl : U.vm = (U.calling gf mk a).vm) (q.2.2.2.2.1.1 w hw), va_AO.moved (Vm.Alike.refl U.vm) q.2.2.2.2.1.2.1, va_AO.moved (Vm.Alike.refl U.vm) q.2.2.2.2.1.2.2⟩, q.2.2.2.2.2.1, q.2.2.2.2.2.2.call⟩
theorem hld_at {s : State} {K : Nat} {H : Heap} (hP : va_P (g.1, g.2.1) vwCl (wl g K M) H) (hz : K < KT → H.size = g.2.2.2 + K) (hK : va_K (g.1, g.2.1) vwCl (tysOf g) s) (hN : Nst s) (hsz : g.2.2.2 ≤ H.size) (hstr : Str g s H) (U : State) (hU : U.heap = H) (hW : s.WarmedH U.vm) : Hld g K M U := ⟨by rw [hU]; exact hP, by rw [hU]; exact hz, va_K.moved hW.alike hK, hN.warm hW, by rw [hU]; exact hsz, by rw [hU]; exact hstr.warm hW⟩
theorem good_code (h : Cond.code y bytes maxL ret ∈ gtb) : GoodIn gtb (Cond.code y bytes maxL ret :: gtb) := fun w hw => (List.mem_cons.mp hw).elim (fun e => by rw [e]; exact gtb_good _ h) (gtb_good w)
theorem xg_callS (C : Cx c cc nL own g l rm) (hM : Ct g l y bytes maxL ret fr lo as κ.1 mc ms M post) (ml : MS own index y bytes maxL ret n) (hst : st = as.reverse ++ rest) (hn : as.length = n) (hR : fr + 1 ≤ rm.frames ∧ 8 + (maxL + 11) + lo ≤ rm.locals) (hroom : (rest.map fun v => v.category).sum ≤ 8) (hf : κ.2.1 + mc ≤ rm.cells ∧ κ.2.2 + ms ≤ rm.slots) (d : decode cc pc = .ok (.invokestatic index, 3)) (k : ∀ (r : Option Value) (K : Nat) (M' : Mem), post r K M' → X c (K, κ.2.1 + mc, κ.2.2 + ms) (pc + 3) lv (r.toList ++ rest) M') : X c κ pc lv st M := by
  obtain ⟨p, l, e, R, s, m, args, below, meth, co, Q, g⟩ := c
  obtain ⟨rfl, rfl, hx, hb, hml, hown, hts, hK, hN, hsz, hlk, hstr, rfl⟩ := C
  obtain ⟨m1, m2, m3, m4, m5⟩ := ml
  intro H locs ls hP hS hz hl
  subst hst
  refine qm_call (va_runS (As := as) (rest := rest) ⟨hx, hb, hml, hown, hts⟩ hM ⟨callB_of n hts (good_code m4) rfl rfl rfl (hts _ m3) (hts _ m1) m5 hR, hts _ m2⟩ ⟨hld_blind, fun U hU hW => ⟨rfl, hld_at hP hz hK hN (Nat.le_trans hsz hS.1) (hstr.kept (fun a h1 h2 => hS.2.1 a h1 h2)) U hU hW⟩⟩ rfl hn (hl.1.trans hml) rfl (lv_room hroom) d hf) hS (fun r K M' H1 locs1 hp hP1 hS1 hz1 => k r K M' hp H1 locs1 ls hP1 hS1 hz1 hl)
theorem xg_callN {host : String} (C : Cx c cc nL own g l rm) (hM : Ct g l y bytes maxL ret fr lo as κ.1 mc ms M post) (ml : MN own index y host bytes maxL ret n) (hst : st = as.reverse ++ rest) (hn : as.length = n) (hR : fr + 1 ≤ rm.frames ∧ 8 + (maxL + 11) + lo ≤ rm.locals) (hroom : (rest.map fun v => v.category).sum ≤ 8) (hf : κ.2.1 + mc ≤ rm.cells ∧ κ.2.2 + ms ≤ rm.slots) (d : decode cc pc = .ok (.invokestatic index, 3)) (k : ∀ (r : Option Value) (K : Nat) (M' : Mem), post r K M' → X c (K, κ.2.1 + mc, κ.2.2 + ms) (pc + 3) lv (r.toList ++ rest) M') : X c κ pc lv st M := by
  obtain ⟨p, l, e, R, s, m, args, below, meth, co, Q, g⟩ := c
  obtain ⟨rfl, rfl, hx, hb, hml, hown, hts, hK, hN, hsz, hlk, hstr, rfl⟩ := C
  obtain ⟨m1, m2, m3, m4, m5⟩ := ml
  intro H locs ls hP hS hz hl
  subst hst
  refine qm_call (va_runSN (As := as) (rest := rest) ⟨hx, hb, hml, hown, hts⟩ hM ⟨va_cnB n hts (good_code m4) rfl rfl rfl (hN.1 _ m1) (hts _ m3) m5 hR, hts _ m2, trivial⟩ ⟨hld_blind, fun U hU hW => ⟨rfl, hld_at hP hz hK hN (Nat.le_trans hsz hS.1) (hstr.kept (fun a h1 h2 => hS.2.1 a h1 h2)) U hU hW⟩⟩ rfl hn (hl.1.trans hml) rfl (lv_room hroom) d hf) hS (fun r K M' H1 locs1 hp hP1 hS1 hz1 => k r K M' hp H1 locs1 ls hP1 hS1 hz1 hl)
theorem xg_callV {b ci N : Nat} {T : u_T} (C : Cx c cc nL own g l rm) (hM : Ct g l y bytes maxL ret fr lo (.ref (g.2.2.2 + b) :: as) κ.1 mc ms M post) (hk : b < κ.1) (hs : sh b = .inl ci) (hc : vwCl[ci]? = some (y.cls, T, N)) (ml : MV own index y bytes maxL ret n) (hst : st = as.reverse ++ .ref (g.2.2.2 + b) :: rest) (hn : as.length = n) (hR : fr + 1 ≤ rm.frames ∧ 8 + (maxL + 11) + lo ≤ rm.locals) (hroom : (rest.map fun v => v.category).sum ≤ 8) (hf : κ.2.1 + mc ≤ rm.cells ∧ κ.2.2 + ms ≤ rm.slots) (d : decode cc pc = .ok (.invokevirtual index, 3)) (k : ∀ (r : Option Value) (K : Nat) (M' : Mem), post r K M' → X c (K, κ.2.1 + mc, κ.2.2 + ms) (pc + 3) lv (r.toList ++ rest) M') : X c κ pc lv st M := by
  obtain ⟨p, l, e, R, s, m, args, below, meth, co, Q, g⟩ := c
  obtain ⟨rfl, rfl, hx, hb, hml, hown, hts, hK, hN, hsz, hlk, hstr, rfl⟩ := C
  obtain ⟨m1, m2, m3, m4, m5, m6⟩ := ml
  intro H locs ls hP hS hz hl
  subst hst
  refine qm_call (va_runV (C := y.cls) (As := as) (rest := rest) ⟨hx, hb, hml, hown, hts⟩ hM ⟨callB_of n hts (good_code m5) rfl rfl rfl (hts _ m4) (hts _ m1) m6 hR, hts _ m2, hts _ m3⟩ ⟨hld_blind, va_recv hK hP hc ((wl_get hk).trans (by rw [cE_o hs])), fun U hU hW => ⟨rfl, hld_at hP hz hK hN (Nat.le_trans hsz hS.1) (hstr.kept (fun a h1 h2 => hS.2.1 a h1 h2)) U hU hW⟩⟩ rfl hn (hl.1.trans hml) rfl (lv_room hroom) d hf) hS (fun r K M' H1 locs1 hp hP1 hS1 hz1 => k r K M' hp H1 locs1 ls hP1 hS1 hz1 hl)
/-- the entry of a method -/
theorem ct_intro {K : Nat} (hy : plainName y.cls = true) (hn : (lg_sl as).length ≤ maxL) (body : ∀ c : CtxT, Cx c bytes maxL y.cls g l { frames := fr, cells := mc, slots := ms, locals := lo } → Rt c ret post mc ms → c.2.2.2.2.2.2.2.2.1.name = y.name → X c (K, 0, 0) 0 (lv_args 0 as) [] M) : Ct g l y bytes maxL ret fr lo as K mc ms M post := by
  refine Met.ofW (cc := bytes) (maxL := maxL) (ret := ret) hy rfl ?_
  intro p e s m args below meth c s₁ B hml hv
  obtain ⟨rfl, hP, hz, hK, hN, hsz, hstr⟩ := hv
  have hts := atoms_spec (ws := Cond.code y bytes maxL ret :: gtb) B.pre
  have hl := lv_entry as (n := maxL) hn
  rw [lg_entry_eq]
  exact body (p, l, e, _, s, m, as.toArray, below, meth, c, _, g) ⟨rfl, rfl, B.exec, B.bytes, hml, findClass_of_methodNamed B.named, fun w hw => hts w (List.mem_cons_of_mem _ hw), hK, hN, hsz, B.notSynchronized, hstr, rfl⟩ ⟨rfl, B.returns⟩ (name_of_methodNamed B.named B.method).1 s.heap [] _ hP va_S.rf hz (by rw [hml]; exact hl)
end XC

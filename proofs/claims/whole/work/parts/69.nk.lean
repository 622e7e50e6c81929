/-! the model keeps a run -/
def setN (N : Nat → Int32) (j n : Nat) (f : Nat → Int32) : Nat → Int32 := fun i => if j ≤ i ∧ i < j + n then f (i - j) else N i
theorem setN_0 {N f : Nat → Int32} {j : Nat} : setN N j 0 f = N := by
  funext i
  exact if_neg (by omega)
theorem setN_o {N f : Nat → Int32} {j n i : Nat} (h : i < j ∨ j + n ≤ i) : setN N j n f i = N i := if_neg (by omega)
theorem setN_i {N f : Nat → Int32} {j n i : Nat} (h : i < n) : setN N j n f (j + i) = f i := by
  unfold setN
  rw [if_pos (by omega), show j + i - j = i from by omega]
theorem setN_s {N f : Nat → Int32} {j n : Nat} : upN (setN N j n f) (j + n) (f n) = setN N j (n + 1) f := by
  funext i
  unfold upN setN
  by_cases e : i = j + n
  · subst e
    rw [if_pos rfl, if_pos (by omega), show j + n - j = n from by omega]
  · rw [if_neg e]
    by_cases k : j ≤ i ∧ i < j + n
    · rw [if_pos k, if_pos (by omega)]
    · rw [if_neg k, if_neg (by omega)]
theorem setN_c {N f : Nat → Int32} {j n i : Nat} {v : Int32} (h : i < j ∨ j + n ≤ i) : setN (upN N i v) j n f = upN (setN N j n f) i v := by
  funext t
  by_cases e : t = i
  · subst e
    rw [setN_o (by omega), upN_s, upN_s]
  · rw [upN_o e]
    unfold setN
    rw [upN_o e]
theorem setN_cg {N f g : Nat → Int32} {j n : Nat} (h : ∀ i, i < n → f i = g i) : setN N j n f = setN N j n g := by
  funext i
  unfold setN
  by_cases k : j ≤ i ∧ i < j + n
  · rw [if_pos k, if_pos k]; exact h _ (by omega)
  · rw [if_neg k, if_neg k]
theorem s_fetch0 {mI : Int32} {mn : Nat} {M : Mem} {q : Mem → Prop} (hm : mI.toInt = mn) (hm4 : mn < 4) (h : ∀ M', (∀ i, i < 16 → M'.1 142 i = M.1 136 (1106 + 60 * mn + 20 + i)) → (∀ i, i < 16 → M'.1 143 i = M.1 136 (1106 + 60 * mn + 36 + i)) → (∀ a, a ≠ 142 → a ≠ 143 → M'.1 a = M.1 a) → M'.2 = M.2 → q M') : w_X12_fetch mI 0 M q := by
  have f16 : (16 : Int32).toInt = 16 := rfl
  unfold w_X12_fetch
  intro x16 e16
  have E : x16.toInt = ((1106 + 60 * mn : Nat) : Int) := by rw [e16]; exact ix_a rfl (ix_m rfl hm (by omega)) (by omega)
  clear e16
  unfold w_X12_fetch_l12
  refine lfp_for (i0 := 0) (n := 16) (fun (i : Nat) (t : Int32 × Mem) => t.1.toInt = (i : Int) ∧ (∀ j, j < i → t.2.1 142 j = M.1 136 (1106 + 60 * mn + 20 + j)) ∧ (∀ j, j < i → t.2.1 143 j = M.1 136 (1106 + 60 * mn + 36 + j)) ∧ (∀ a, a ≠ 142 → a ≠ 143 → t.2.1 a = M.1 a) ∧ t.2.2 = M.2) ?_ (by omega) ⟨rfl, fun j hj => absurd hj (by omega), fun j hj => absurd hj (by omega), fun _ _ _ => rfl, rfl⟩
  intro P i st hi hJ hP
  obtain ⟨a, M1⟩ := st
  obtain ⟨ha0, h10, h20, h30, h40⟩ := hJ
  have ha : a.toInt = (i : Int) := ha0
  have h1 : ∀ j, j < i → M1.1 142 j = M.1 136 (1106 + 60 * mn + 20 + j) := h10
  have h2 : ∀ j, j < i → M1.1 143 j = M.1 136 (1106 + 60 * mn + 36 + j) := h20
  have h3 : ∀ a, a ≠ 142 → a ≠ 143 → M1.1 a = M.1 a := h30
  have h4 : M1.2 = M.2 := h40
  clear ha0 h10 h20 h30 h40
  unfold w_X12_fetch_l12F w_X12_fetch_b102
  dsimp only
  rw [le_i, ha, f16]
  refine ⟨fun z => ?_, fun z => ⟨fun _ => ?_, fun n => absurd rfl n⟩⟩
  · have e : i = 16 := by omega
    subst e
    exact h M1 h1 h2 h3 h4
  · have E20 := ix_a (ix_a E (w := 20) (i := 20) rfl (by omega)) ha (by omega)
    have E36 := ix_a (ix_a E (w := 36) (i := 36) rfl (by omega)) ha (by omega)
    rw [i_of E20, i_of E36, i_of ha]
    refine ⟨vp_of E20 (by omega), vp_of ha (by omega), fun M6 e6 => ⟨vp_of E36 (by omega), vp_of ha (by omega), fun M9 e9 x ex => ?_⟩⟩
    have g6 : M6.1 136 = M.1 136 := by rw [← h3 136 (by decide) (by decide)]; funext b; rw [e6, uI_k (by decide)]
    rw [h3 136 (by decide) (by decide)] at e6
    rw [g6] at e9
    refine hP (x, M9) (by omega) ⟨?_, fun j hj => ?_, fun j hj => ?_, fun b hb1 hb2 => ?_, ?_⟩
    · show x.toInt = ((i + 1 : Nat) : Int)
      rw [ex]; exact ix_a ha rfl (by omega)
    · show M9.1 142 j = _
      rw [e9, uI_k (by decide), e6]
      by_cases e : j = i
      · subst e; rw [uI_s]
      · rw [uI_j e]; exact h1 j (by omega)
    · show M9.1 143 j = _
      rw [e9]
      by_cases e : j = i
      · subst e; rw [uI_s]
      · rw [uI_j e, e6, uI_k (by decide)]; exact h2 j (by omega)
    · show M9.1 b = M.1 b
      rw [← h3 b hb1 hb2]
      funext t
      rw [e9, uI_k hb2, e6, uI_k hb1]
    · show M9.2 = M.2
      rw [e9]; show M6.2 = M.2; rw [e6]; exact h4
theorem s_fetch1 {mI : Int32} {mn : Nat} {M : Mem} {q : Mem → Prop} (hm : mI.toInt = mn) (hm4 : mn < 4) (h : ∀ M', M'.1 136 = setN (setN (M.1 136) (1106 + 60 * mn + 20) 16 (M.1 142)) (1106 + 60 * mn + 36) 16 (M.1 143) → (∀ a, a ≠ 136 → M'.1 a = M.1 a) → M'.2 = M.2 → q M') : w_X12_fetch mI 1 M q := by
  have f16 : (16 : Int32).toInt = 16 := rfl
  unfold w_X12_fetch
  intro x16 e16
  have E : x16.toInt = ((1106 + 60 * mn : Nat) : Int) := by rw [e16]; exact ix_a rfl (ix_m rfl hm (by omega)) (by omega)
  clear e16
  unfold w_X12_fetch_l12
  refine lfp_for (i0 := 0) (n := 16) (fun (i : Nat) (t : Int32 × Mem) => t.1.toInt = (i : Int) ∧ t.2.1 136 = setN (setN (M.1 136) (1106 + 60 * mn + 20) i (M.1 142)) (1106 + 60 * mn + 36) i (M.1 143) ∧ (∀ a, a ≠ 136 → t.2.1 a = M.1 a) ∧ t.2.2 = M.2) ?_ (by omega) ⟨rfl, by rw [setN_0, setN_0], fun _ _ => rfl, rfl⟩
  intro P i st hi hJ hP
  obtain ⟨a, M1⟩ := st
  obtain ⟨ha0, h10, h30, h40⟩ := hJ
  have ha : a.toInt = (i : Int) := ha0
  have h1 : M1.1 136 = setN (setN (M.1 136) (1106 + 60 * mn + 20) i (M.1 142)) (1106 + 60 * mn + 36) i (M.1 143) := h10
  have h3 : ∀ a, a ≠ 136 → M1.1 a = M.1 a := h30
  have h4 : M1.2 = M.2 := h40
  clear ha0 h10 h30 h40
  unfold w_X12_fetch_l12F w_X12_fetch_b102
  dsimp only
  rw [le_i, ha, f16]
  refine ⟨fun z => ?_, fun z => ⟨fun y => absurd y (by decide), fun _ => ?_⟩⟩
  · have e : i = 16 := by omega
    subst e
    exact h M1 h1 h3 h4
  · have E20 := ix_a (ix_a E (w := 20) (i := 20) rfl (by omega)) ha (by omega)
    have E36 := ix_a (ix_a E (w := 36) (i := 36) rfl (by omega)) ha (by omega)
    rw [i_of E20, i_of E36, i_of ha]
    refine ⟨vp_of ha (by omega), vp_of E20 (by omega), fun M6 e6 => ⟨vp_of ha (by omega), vp_of E36 (by omega), fun M9 e9 x ex => ?_⟩⟩
    have g6 : M6.1 143 i = M.1 143 i := by rw [e6, uI_k (by decide), h3 143 (by decide)]
    rw [h3 142 (by decide)] at e6
    rw [g6] at e9
    refine hP (x, M9) (by omega) ⟨?_, ?_, fun b hb1 => ?_, ?_⟩
    · show x.toInt = ((i + 1 : Nat) : Int)
      rw [ex]; exact ix_a ha rfl (by omega)
    · show M9.1 136 = _
      rw [e9, now_uI, e6, now_uI, h1, ← setN_c (by omega), setN_s, setN_s]
    · show M9.1 b = M.1 b
      rw [← h3 b hb1]
      funext t
      rw [e9, uI_k hb1, e6, uI_k hb1]
    · show M9.2 = M.2
      rw [e9]; show M6.2 = M.2; rw [e6]; exact h4
/-! the spec of keeping -/
def krO (N : Nat → Int32) (m : Nat) (w : Int32) : Nat → Int32 := if w = 0 then fun _ => -1 else fun i => N (1106 + 60 * m + 20 + i)
def krG (N : Nat → Int32) (m : Nat) (w : Int32) : Nat → Int32 := if w = 0 then fun _ => 0 else fun i => N (1106 + 60 * m + 36 + i)
def krg (N : Nat → Int32) (b m s lot w : Int32) : Nat × Int32 × SS × Nat := byG N m.toInt.toNat s.toInt.toNat lot (bP N b) (bC N b) (krO N m.toInt.toNat w) (krG N m.toInt.toNat w)
def krc (N : Nat → Int32) (b m s lot hour w : Int32) : Nat → Int32 := byC N m.toInt.toNat s.toInt.toNat lot hour (bP N b) (bC N b) (krO N m.toInt.toNat w) (krG N m.toInt.toNat w)
def kr1 (N : Nat → Int32) (b m s lot w : Int32) : Nat → Int32 := setN (setN N (1106 + 60 * m.toInt.toNat + 20) 16 (krg N b m s lot w).2.2.1.2.2.1) (1106 + 60 * m.toInt.toNat + 36) 16 (krg N b m s lot w).2.2.1.2.2.2.1
def krV (N : Nat → Int32) (b m s lot w : Int32) : Int32 := tf ((krg N b m s lot w).1 < toN (N (960 + bP N b)))
def rec8 (N : Nat → Int32) (a : Nat) (c : Nat → Int32) (v b m s lot hour w : Int32) : Nat → Int32 := upN (upN (upN (upN (upN (upN (upN (upN (setN N a 6 c) (a + 6) v) (a + 7) b) (a + 8) m) (a + 9) s) (a + 10) lot) (a + 11) hour) (a + 12) w) (a + 13) 0
def krN (b m s lot hour w : Int32) (N : Nat → Int32) : Nat → Int32 := upN (rec8 (kr1 N b m s lot w) (1346 + 14 * (N 4214).toInt.toNat) (krc N b m s lot hour w) (krV N b m s lot w) b m s lot hour w) 4214 (N 4214 + 1)
/-- all but the model's own row and scratch -/
def FrK (M M' : Mem) : Prop := (∀ a, (a < 135 ∨ a = 137 ∨ a = 138) → M'.1 a = M.1 a) ∧ M'.2 = M.2
theorem FrK.m {M M' : Mem} (h : FrK M M') : FrM M M' := ⟨fun k hk => h.1 k (by omega), fun k _ => by rw [h.2], by rw [h.2], h.1 137 (by decide), h.1 138 (by decide)⟩
theorem FrK.tr {M M' M'' : Mem} (h : FrK M M') (h' : FrK M' M'') : FrK M M'' := ⟨fun a ha => (h'.1 a ha).trans (h.1 a ha), h'.2.trans h.2⟩
theorem FrN.k {M M' : Mem} (h : FrN M M') : FrK M M' := ⟨fun a ha => h.1 a (by omega), h.2⟩
theorem frk_u {M : Mem} {j : Nat} {v : Int32} : FrK M (uI M 136 j v) := ⟨fun a ha => by funext b; exact uI_k (by omega), rfl⟩
theorem s_keepRun {bI mI sI lot hour w : Int32} {M : Mem} {q : Mem → Prop} (hI : InvN (M.1 136)) (hb : okI bI 24) (hm : okI mI 4) (hs : okI sI 8) (hw : bz w) (hr : (M.1 136 4214).toInt < 200) (h : ∀ M', M'.1 136 = krN bI mI sI lot hour w (M.1 136) → FrK M M' → q M') : w_X12_keepRun bI mI sI lot hour w M q := by
  have i4 : 0 ≤ (M.1 136 4214).toInt ∧ (M.1 136 4214).toInt ≤ 200 := hI.1 4214 (by decide)
  have f6 : (6 : Int32).toInt = 6 := rfl
  have hm4 : mI.toInt.toNat < 4 := by omega
  have main : ∀ M1 : Mem, (∀ i, i < 16 → M1.1 142 i = krO (M.1 136) mI.toInt.toNat w i) → (∀ i, i < 16 → M1.1 143 i = krG (M.1 136) mI.toInt.toNat w i) → (∀ a, a ≠ 142 → a ≠ 143 → M1.1 a = M.1 a) → M1.2 = M.2 → w_X12_keepRun_b18 bI mI sI lot hour w M1 q := by
    intro M1 a1 a2 a3 a4
    have e1 : M1.1 136 = M.1 136 := a3 136 (by decide) (by decide)
    unfold w_X12_keepRun_b18
    refine s_goesBy (by rw [e1]; exact hI) hb hm hs a1 a2 (fun M2 c1 c2 c3 c4 cF => ?_)
    rw [e1] at c1 c2 c3 c4
    have e2 : M2.1 136 = M.1 136 := by rw [cF.1 136 (by decide), e1]
    refine s_fetch1 (ix_n hm.1) hm4 (fun M3 d1 d3 d4 => ?_)
    have e3 : M3.1 136 = kr1 (M.1 136) bI mI sI lot w := by
      rw [d1, e2]
      unfold kr1
      rw [setN_cg (f := M2.1 142) (g := (krg (M.1 136) bI mI sI lot w).2.2.1.2.2.1) (fun i hi => c3 i hi), setN_cg (f := M2.1 143) (g := (krg (M.1 136) bI mI sI lot w).2.2.1.2.2.2.1) (fun i hi => c4 i hi)]
    have e34 : M3.1 136 4214 = M.1 136 4214 := by
      rw [e3]
      unfold kr1
      rw [setN_o (by omega), setN_o (by omega)]
    have F3 : FrK M M3 := ⟨fun a ha => by rw [d3 a (by omega), cF.1 a (by omega), a3 a (by omega) (by omega)], by rw [d4, cF.2, a4]⟩
    have v3 : M3.1 135 10 = krV (M.1 136) bI mI sI lot w := by rw [d3 135 (by decide), c2]; rfl
    have k3 : ∀ i, i < 6 → M3.1 144 i = krc (M.1 136) bI mI sI lot hour w i := fun i hi => by rw [d3 144 (by decide)]; exact c1 i hi
    clear d1 d3 d4 c1 c2 c3 c4 cF e2 a1 a2 a3 a4 e1
    rw [e_many4, e34]
    intro x31 e31
    have E : x31.toInt = ((1346 + 14 * (M.1 136 4214).toInt.toNat : Nat) : Int) := by rw [e31]; exact ix_a rfl (ix_m rfl (ix_n i4.1) (by omega)) (by omega)
    have A := fun (e : Int32) (k : Nat) (he : e.toInt = k) (hk : k < 14) => ix_a E he (by omega)
    clear e31
    unfold w_X12_keepRun_l52
    refine lfp_for (i0 := 0) (n := 6) (fun (i : Nat) (t : Int32 × Mem) => t.1.toInt = (i : Int) ∧ t.2.1 136 = setN (kr1 (M.1 136) bI mI sI lot w) (1346 + 14 * (M.1 136 4214).toInt.toNat) i (krc (M.1 136) bI mI sI lot hour w) ∧ (∀ j, j < 6 → t.2.1 144 j = krc (M.1 136) bI mI sI lot hour w j) ∧ t.2.1 135 10 = krV (M.1 136) bI mI sI lot w ∧ FrK M t.2) ?_ (by omega) ⟨rfl, by rw [setN_0]; exact e3, k3, v3, F3⟩
    clear e3 k3 v3 F3 e34
    intro P i st hi hJ hP
    obtain ⟨a, M4⟩ := st
    obtain ⟨ha0, e40, k40, v40, F40⟩ := hJ
    have ha : a.toInt = (i : Int) := ha0
    have e4 : M4.1 136 = setN (kr1 (M.1 136) bI mI sI lot w) (1346 + 14 * (M.1 136 4214).toInt.toNat) i (krc (M.1 136) bI mI sI lot hour w) := e40
    have k4 : ∀ j, j < 6 → M4.1 144 j = krc (M.1 136) bI mI sI lot hour w j := k40
    have v4 : M4.1 135 10 = krV (M.1 136) bI mI sI lot w := v40
    have F4 : FrK M M4 := F40
    clear ha0 e40 k40 v40 F40
    unfold w_X12_keepRun_l52F
    dsimp only
    rw [le_i, ha, f6]
    refine ⟨fun z => ?_, fun z => ?_⟩
    · have ei : i = 6 := by omega
      subst ei
      have t180 : ∀ M5 : Mem, M5.1 136 = upN (upN (upN (upN (upN (upN (setN (kr1 (M.1 136) bI mI sI lot w) (1346 + 14 * (M.1 136 4214).toInt.toNat) 6 (krc (M.1 136) bI mI sI lot hour w)) (1346 + 14 * (M.1 136 4214).toInt.toNat + 6) (krV (M.1 136) bI mI sI lot w)) (1346 + 14 * (M.1 136 4214).toInt.toNat + 7) bI) (1346 + 14 * (M.1 136 4214).toInt.toNat + 8) mI) (1346 + 14 * (M.1 136 4214).toInt.toNat + 9) sI) (1346 + 14 * (M.1 136 4214).toInt.toNat + 10) lot) (1346 + 14 * (M.1 136 4214).toInt.toNat + 11) hour → FrK M M5 → w_X12_keepRun_b180 x31 (x31 + 12) w M5 q := by
        intro M5 e5 F5
        unfold w_X12_keepRun_b180
        refine ⟨vp_of (A 12 12 rfl (by decide)) (by omega), fun M6 e6 => ⟨vp_of (A 13 13 rfl (by decide)) (by omega), fun M7 e7 M8 e8 => ?_⟩⟩
        rw [i_of (A 12 12 rfl (by decide))] at e6
        rw [i_of (A 13 13 rfl (by decide))] at e7
        have g7 : M7.1 136 4214 = M.1 136 4214 := by
          rw [e7, uI_j (by omega), e6, uI_j (by omega), e5, upN_o (by omega), upN_o (by omega), upN_o (by omega), upN_o (by omega), upN_o (by omega), upN_o (by omega), setN_o (by omega)]
          unfold kr1
          rw [setN_o (by omega), setN_o (by omega)]
        rw [g7] at e8
        refine h M8 ?_ ?_
        · rw [e8, now_uI, e7, now_uI, e6, now_uI, e5]
          rfl
        · rw [e8, e7, e6]
          exact F5.tr (frk_u.tr (frk_u.tr frk_u))
      have t103 : w_X12_keepRun_b103 bI mI sI lot hour w x31 (x31 + 6) (krV (M.1 136) bI mI sI lot w) M4 q := by
        unfold w_X12_keepRun_b103
        refine ⟨vp_of (A 6 6 rfl (by decide)) (by omega), fun M7 e7 => ⟨vp_of (A 7 7 rfl (by decide)) (by omega), fun M9 e9 => ⟨vp_of (A 8 8 rfl (by decide)) (by omega), fun M11 e11 => ⟨vp_of (A 9 9 rfl (by decide)) (by omega), fun M13 e13 => ⟨vp_of (A 10 10 rfl (by decide)) (by omega), fun M15 e15 => ⟨vp_of (A 11 11 rfl (by decide)) (by omega), fun M17 e17 => ?_⟩⟩⟩⟩⟩⟩
        rw [i_of (A 6 6 rfl (by decide))] at e7
        rw [i_of (A 7 7 rfl (by decide))] at e9
        rw [i_of (A 8 8 rfl (by decide))] at e11
        rw [i_of (A 9 9 rfl (by decide))] at e13
        rw [i_of (A 10 10 rfl (by decide))] at e15
        rw [i_of (A 11 11 rfl (by decide))] at e17
        have t := t180 M17 (by rw [e17, now_uI, e15, now_uI, e13, now_uI, e11, now_uI, e9, now_uI, e7, now_uI, e4]) (by rw [e17, e15, e13, e11, e9, e7]; exact F4.tr (frk_u.tr (frk_u.tr (frk_u.tr (frk_u.tr (frk_u.tr frk_u))))))
        refine ⟨fun w0 => ?_, fun w0 => ?_⟩
        · rw [w0] at t; exact t
        · have w1 : w = 1 := by rcases hw with y | y; exact absurd y w0; exact y
          rw [w1] at t; exact t
      rw [v4]
      unfold krV at t103 ⊢
      rw [tf_z]
      refine ⟨fun nv => ?_, fun vv => ?_⟩
      · rw [tf0 nv] at t103; exact t103
      · rw [tf1 (Classical.not_not.mp vv)] at t103; exact t103
    · have Ea := ix_a E ha (by omega)
      rw [i_of ha, i_of Ea, k4 i (by omega)]
      refine ⟨vp_of ha (by omega), vp_of Ea (by omega), fun M23 e23 x ex => ?_⟩
      refine hP (x, M23) (by omega) ⟨?_, ?_, fun j hj => ?_, ?_, ?_⟩
      · show x.toInt = ((i + 1 : Nat) : Int)
        rw [ex]; exact ix_a ha rfl (by omega)
      · show M23.1 136 = _
        rw [e23, now_uI, e4, setN_s]
      · show M23.1 144 j = _
        rw [e23, uI_k (by decide)]; exact k4 j hj
      · show M23.1 135 10 = _
        rw [e23, uI_k (by decide)]; exact v4
      · rw [e23]; exact F4.tr frk_u
  unfold w_X12_keepRun
  refine ⟨fun w0 => ?_, fun w0 => ?_⟩
  · refine s_empty12 (fun M1 a1 a2 a3 a4 => main M1 (fun i hi => ?_) (fun i hi => ?_) a3 a4)
    · unfold krO; rw [if_pos w0]; exact a1 i hi
    · unfold krG; rw [if_pos w0]; exact a2 i hi
  · refine s_fetch0 (ix_n hm.1) hm4 (fun M1 a1 a2 a3 a4 => main M1 (fun i hi => ?_) (fun i hi => ?_) a3 a4)
    · unfold krO; rw [if_neg w0]; exact a1 i hi
    · unfold krG; rw [if_neg w0]; exact a2 i hi

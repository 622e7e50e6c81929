/-! frames of questions; with -/
/-- a question put to the class leaves its stores; one put to the model leaves its rows -/
def FQ (M M' : Mem) : Prop := (∀ a, (a < 35 ∨ 71 ≤ a) → M'.1 a = M.1 a) ∧ ∀ a, 71 ≤ a → M'.2.1 a = M.2.1 a
def FM (M M' : Mem) : Prop := (∀ a, (a < 135 ∨ a = 136 ∨ a = 137 ∨ a = 138) → M'.1 a = M.1 a) ∧ (∀ a, a < 135 → M'.2.1 a = M.2.1 a) ∧ M'.2.2 = M.2.2
theorem FQ.rf (M : Mem) : FQ M M := ⟨fun _ _ => rfl, fun _ _ => rfl⟩
theorem FM.rf (M : Mem) : FM M M := ⟨fun _ _ => rfl, fun _ _ => rfl, rfl⟩
theorem FQ.tr {M M' M'' : Mem} (h : FQ M M') (h' : FQ M' M'') : FQ M M'' := ⟨fun a ha => (h'.1 a ha).trans (h.1 a ha), fun a ha => (h'.2 a ha).trans (h.2 a ha)⟩
theorem FM.tr {M M' M'' : Mem} (h : FM M M') (h' : FM M' M'') : FM M M'' := ⟨fun a ha => (h'.1 a ha).trans (h.1 a ha), fun a ha => (h'.2.1 a ha).trans (h.2.1 a ha), h'.2.2.trans h.2.2⟩
theorem FQ.c {M M' : Mem} (h : FQ M M') : FrC M M' := ⟨fun k h1 h2 => h.1 k (by omega), h.2, h.1 34 (by decide)⟩
theorem FQ.r {M M' : Mem} {N : Nat → Int32} (h : FQ M M') (hR : Rep 1 N M.1) : Rep 1 N M'.1 := rep_fr (fun a h1 h2 => h.1 a (by omega)) hR
theorem FM.m {M M' : Mem} (h : FM M M') : FrM M M' := ⟨fun k hk => h.1 k (by omega), h.2.1, h.2.2, h.1 137 (by decide), h.1 138 (by decide)⟩
theorem FM.n {M M' : Mem} (h : FM M M') : M'.1 136 = M.1 136 := h.1 136 (by decide)
theorem fq_uI {M : Mem} {k j : Nat} {v : Int32} (h1 : 35 ≤ k) (h2 : k < 71) : FQ M (uI M k j v) := ⟨fun a ha => by funext b; rw [uI_k (by omega)], fun _ _ => rfl⟩
theorem fm_uI {M : Mem} {k j : Nat} {v : Int32} (h1 : k = 135 ∨ 139 ≤ k) : FM M (uI M k j v) := ⟨fun a ha => by funext b; rw [uI_k (by omega)], fun _ _ => rfl, rfl⟩
/-- a question's step of the law: an answer out of the row -/
theorem law_ask {α : Type} {c m : Mem → (α → Mem → Prop) → Prop} {sp : (Nat → Int32) → α} (hc : ∀ M N q, Rep 1 N M.1 → InvN N → (∀ M', FQ M M' → q (sp N) M') → c M q) (hm : ∀ M q, InvN (M.1 136) → (∀ M', FM M M' → q (sp (M.1 136)) M') → m M q) {M : Mem} {Q : α → α → Mem → Prop} (hR : Rel M) (h : ∀ r M', Rel M' → Q r r M') : c M (fun r1 M1 => m M1 (fun r2 M2 => Q r1 r2 M2)) :=
  law_gen (sp := fun N => (sp N, N)) (fun M N q h1 h2 h3 => hc M N q h1 h2 (fun M' f => h3 M' (f.r h1) f.c)) (fun M q h2 h3 => hm M q h2 (fun M' f => h3 M' f.n f.m)) (fun _ hI => hI) hR h
-- with
abbrev onM (N : Nat → Int32) (m : Int32) (r : Nat) : Prop := N (1346 + 14 * r + 8) = m ∧ N (1346 + 14 * r + 6) = 0
theorem e_timed {r m : Int32} {rn : Nat} {M : Mem} {N : Nat → Int32} {q : Int32 → Mem → Prop} (hR : Rep 1 N M.1) (hr : r.toInt = rn) (h1 : rn < 200) : w_X8_isTimedOn 1 r m M q = q (tf (onM N m rn)) M := by
  unfold w_X8_isTimedOn
  rw [e_told hR hr (wn := 8) rfl h1 (by decide), e_told hR hr (wn := 6) rfl h1 (by decide)]
  by_cases k1 : N (1346 + 14 * rn + 8) = m
  · by_cases k2 : N (1346 + 14 * rn + 6) = 0
    · rw [tf1 ⟨k1, k2⟩]
      simp only [eq_true k1, eq_true k2, not_true_eq_false, not_false_eq_true, false_implies, true_implies, true_and, and_true]
    · rw [tf0 (fun x => k2 x.2)]
      simp only [eq_true k1, eq_false k2, not_true_eq_false, not_false_eq_true, false_implies, true_implies, true_and, and_true]
  · rw [tf0 (fun x => k1 x.1)]
    simp only [eq_false k1, not_true_eq_false, not_false_eq_true, false_implies, true_implies, true_and, and_true]
theorem e_isOf {r m : Int32} {rn : Nat} {M : Mem} {q : Int32 → Mem → Prop} (hr : r.toInt = rn) (h1 : rn < 200) : w_X12_isOf r m M q = q (tf (onM (M.1 136) m rn)) M := by
  have E := fun (e : Int32) (w : Nat) (he : e.toInt = w) (hw : w < 14) => ix_a (ix_a (e := (1346 : Int32)) (a := 1346) rfl (ix_m (e := (14 : Int32)) (a := 14) rfl hr (by omega)) (by omega)) he (by omega)
  unfold w_X12_isOf
  rw [i_of (E 8 8 rfl (by decide)), i_of (E 6 6 rfl (by decide))]
  have v8 : vp_in ((1346 : Int32) + 14 * r + 8) 4230 := vp_of (E 8 8 rfl (by decide)) (by omega)
  have v6 : vp_in ((1346 : Int32) + 14 * r + 6) 4230 := vp_of (E 6 6 rfl (by decide)) (by omega)
  by_cases k1 : M.1 136 (1346 + 14 * rn + 8) = m
  · by_cases k2 : M.1 136 (1346 + 14 * rn + 6) = 0
    · rw [tf1 ⟨k1, k2⟩]
      simp only [eq_true v8, eq_true v6, eq_true k1, eq_true k2, not_true_eq_false, not_false_eq_true, false_implies, true_implies, true_and, and_true]
    · rw [tf0 (fun x => k2 x.2)]
      simp only [eq_true v8, eq_true v6, eq_true k1, eq_false k2, not_true_eq_false, not_false_eq_true, false_implies, true_implies, true_and, and_true]
  · rw [tf0 (fun x => k1 x.1)]
    simp only [eq_true v8, eq_true v6, eq_false k1, not_true_eq_false, not_false_eq_true, false_implies, true_implies, true_and, and_true]
/-- many, counts, times, products up to a run -/
def wsum (N : Nat → Int32) (m : Int32) (w : Nat) : Nat → Int64 × Int64 × Int64 × Int64
  | 0 => (0, 0, 0, 0)
  | r + 1 => if onM N m r then ((wsum N m w r).1 + 1, (wsum N m w r).2.1 + (N (1346 + 14 * r + w)).toInt64, (wsum N m w r).2.2.1 + (N (1346 + 14 * r + 5)).toInt64, (wsum N m w r).2.2.2 + (N (1346 + 14 * r + w)).toInt64 * (N (1346 + 14 * r + 5)).toInt64) else wsum N m w r
def spWith (m w : Int32) (N : Nat → Int32) : Int64 := if okI m 4 ∧ okI w 5 then (wsum N m w.toInt.toNat (N 4214).toInt.toNat).1 * (wsum N m w.toInt.toNat (N 4214).toInt.toNat).2.2.2 - (wsum N m w.toInt.toNat (N 4214).toInt.toNat).2.1 * (wsum N m w.toInt.toNat (N 4214).toInt.toNat).2.2.1 else -2000000000000000000
theorem c_with {m w : Int32} {M : Mem} {N : Nat → Int32} {q : Int64 → Mem → Prop} (hR : Rep 1 N M.1) (hI : InvN N) (h : ∀ M', FQ M M' → q (spWith m w N) M') : w_X11_with m w M q := by
  have i4 : 0 ≤ (N 4214).toInt ∧ (N 4214).toInt ≤ 200 := hI.1 4214 (by decide)
  have h := h M (FQ.rf M)
  have bad : ¬ (okI m 4 ∧ okI w 5) → q (-2000000000000000000) M := fun n => by unfold spWith at h; rw [if_neg n] at h; exact h
  have f4 : (4 : Int32).toInt = 4 := rfl
  have f5 : (5 : Int32).toInt = 5 := rfl
  unfold w_X11_with
  simp only [e_isOut, tf_z, Classical.not_not, f4, f5]
  refine ⟨fun n => bad (fun x => n x.1), fun k1 => ⟨fun k2 => ?_, fun n => bad (fun x => n x.2)⟩⟩
  unfold spWith at h
  rw [if_pos ⟨k1, k2⟩] at h
  unfold w_X11_with_l34
  refine lfp_for (i0 := 0) (n := (N 4214).toInt.toNat) (fun (i : Nat) (s : Int64 × Int64 × Int64 × Int64 × Int32 × Mem) => s.2.2.2.2.1.toInt = (i : Int) ∧ s.2.2.2.2.2 = M ∧ (s.1, s.2.1, s.2.2.1, s.2.2.2.1) = wsum N m w.toInt.toNat i) ?_ (by omega) ⟨rfl, rfl, rfl⟩
  intro P i st hi hJ hP
  obtain ⟨x3, x5, x7, x9, a, M1⟩ := st
  obtain ⟨ha0, hM0, hx0⟩ := hJ
  have ha : a.toInt = i := ha0
  have hM : M1 = M := hM0
  have hx : (x3, x5, x7, x9) = wsum N m w.toInt.toNat i := hx0
  clear ha0 hM0 hx0
  subst hM
  unfold w_X11_with_l34F w_X11_with_b113
  dsimp only
  rw [rc4 hR]
  refine ⟨fun z => ?_, fun z => ?_⟩
  · rw [le_i] at z
    have e : i = (N 4214).toInt.toNat := by omega
    rw [← e, ← hx] at h
    exact h
  · rw [le_i] at z
    rw [e_timed hR ha (by omega), tf_z, Classical.not_not]
    have next : ∀ y3 y5 y7 y9, (y3, y5, y7, y9) = wsum N m w.toInt.toNat (i + 1) → ∀ x : Int32, x = a + 1 → P (y3, y5, y7, y9, x, M1) := fun y3 y5 y7 y9 hy x ex => by
      refine hP (y3, y5, y7, y9, x, M1) (by omega) ⟨?_, rfl, hy⟩
      show x.toInt = ((i + 1 : Nat) : Int)
      rw [ex]; exact ix_a ha rfl (by omega)
    refine ⟨fun n => next _ _ _ _ ?_, fun k => ?_⟩
    · rw [hx, wsum, if_neg n]
    · rw [e_told hR ha (ix_n k2.1) (by omega) (by omega)]
      intro x8 e8
      rw [e_told hR ha (wn := 5) rfl (by omega) (by omega)]
      intro x11 e11 x12 e12 x13 e13 x14 e14 x15 e15
      refine next _ _ _ _ ?_
      rw [wsum, if_pos k, ← hx, e12, e13, e14, e15, e8, e11]
theorem m_with {m w : Int32} {M : Mem} {q : Int64 → Mem → Prop} (hI : InvN (M.1 136)) (h : ∀ M', FM M M' → q (spWith m w (M.1 136)) M') : w_X12_with m w M q := by
  have i4 : 0 ≤ (M.1 136 4214).toInt ∧ (M.1 136 4214).toInt ≤ 200 := hI.1 4214 (by decide)
  have h := h M (FM.rf M)
  have bad : ¬ (okI m 4 ∧ okI w 5) → q (-2000000000000000000) M := fun n => by unfold spWith at h; rw [if_neg n] at h; exact h
  unfold w_X12_with
  simp only [e_isMachine, e_isCounter, tf_z, Classical.not_not]
  refine ⟨fun n => bad (fun x => n (by have := x.1; omega)), fun k1 => ⟨fun k2 => ?_, fun n => bad (fun x => n (by have := x.2; omega))⟩⟩
  unfold spWith at h
  rw [if_pos ⟨by omega, by omega⟩] at h
  unfold w_X12_with_l32
  refine lfp_for (i0 := 0) (n := (M.1 136 4214).toInt.toNat) (fun (i : Nat) (s : Int64 × Int64 × Int64 × Int64 × Int32 × Mem) => s.2.2.2.2.1.toInt = (i : Int) ∧ s.2.2.2.2.2 = M ∧ (s.1, s.2.2.1, s.2.2.2.1, s.2.1) = wsum (M.1 136) m w.toInt.toNat i) ?_ (by omega) ⟨rfl, rfl, rfl⟩
  intro P i st hi hJ hP
  obtain ⟨x3, x5, x7, x9, a, M1⟩ := st
  obtain ⟨ha0, hM0, hx0⟩ := hJ
  have ha : a.toInt = i := ha0
  have hM : M1 = M := hM0
  have hx : (x3, x7, x9, x5) = wsum (M.1 136) m w.toInt.toNat i := hx0
  clear ha0 hM0 hx0
  subst hM
  unfold w_X12_with_l32F w_X12_with_b118
  dsimp only
  rw [e_many4]
  refine ⟨fun z => ?_, fun z => ?_⟩
  · rw [le_i] at z
    have e : i = (M1.1 136 4214).toInt.toNat := by omega
    rw [← e, ← hx] at h
    exact h
  · rw [le_i] at z
    rw [e_isOf ha (by omega), tf_z, Classical.not_not]
    have next : ∀ y3 y5 y7 y9, (y3, y7, y9, y5) = wsum (M1.1 136) m w.toInt.toNat (i + 1) → ∀ x : Int32, x = a + 1 → P (y3, y5, y7, y9, x, M1) := fun y3 y5 y7 y9 hy x ex => by
      refine hP (y3, y5, y7, y9, x, M1) (by omega) ⟨?_, rfl, hy⟩
      show x.toInt = ((i + 1 : Nat) : Int)
      rw [ex]; exact ix_a ha rfl (by omega)
    refine ⟨fun n => next _ _ _ _ ?_, fun k => ?_⟩
    · rw [hx, wsum, if_neg n]
    · have E0 := ix_a (e := (1346 : Int32)) (a := 1346) rfl (ix_m (e := (14 : Int32)) (a := 14) rfl ha (by omega)) (by omega)
      have Ew := ix_a E0 (ix_n k2.1) (by omega)
      have E5 := ix_a E0 (w := 5) (i := 5) rfl (by omega)
      rw [i_of Ew, i_of E5]
      refine ⟨vp_of Ew (by omega), fun x8 e8 => ⟨vp_of E5 (by omega), fun x11 e11 x12 e12 x13 e13 x14 e14 x15 e15 => ?_⟩⟩
      refine next _ _ _ _ ?_
      rw [wsum, if_pos k, ← hx, e12, e13, e14, e15, e8, e11]

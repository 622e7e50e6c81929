/-! work and leap of the class by the spec's step -/
theorem s_work11 {v2 p : Int32} {mn l km kr kg : Nat} {M : Mem} {N C : Nat → Int32} {s : SS} {q : Int32 → Mem → Prop} (hI : InvN N) (z : CZ km kr kg) (hx : CX N mn km kr kg p M) (hm4 : mn < 4) (hl : v2.toInt = l) (hl4 : l < 40) (hp : 0 ≤ p.toInt ∧ p.toInt ≤ 63) (hC : ∀ k, k < 4 → M.1 37 (4 * l + k) = nl C (4 * l + k) k) (hk : okLine (C (4 * l)) (C (4 * l + 1)) (C (4 * l + 2)) (C (4 * l + 3))) (n7 : ¬ C (4 * l) = 7) (n6 : ¬ C (4 * l) = 6) (hX : XS 38 39 kr kg 36 M s) (h : ∀ x M', x.toInt = ((stepF N mn p C l s).1 : Int) → XS 38 39 kr kg 36 M' (stepF N mn p C l s).2 → FrW 38 39 kr kg 36 M M' → q x M') : w_X7_work 35 (C (4 * l)) v2 M q := by
  obtain ⟨R, Y, O, G, K⟩ := s
  have dd := z.2.1
  have E0 := ix_m hl (w := (4 : Int32)) (i := 4) rfl (by omega)
  rw [Nat.mul_comm l 4] at E0
  have E1 := ix_a E0 (w := 1) (i := 1) rfl (by omega)
  have E2 := ix_a E0 (w := 2) (i := 2) rfl (by omega)
  have E3 := ix_a E0 (w := 3) (i := 3) rfl (by omega)
  have EL := ix_a hl (w := 1) (i := 1) rfl (by omega)
  have c1 : M.1 37 (4 * l + 1) = C (4 * l + 1) := by
    rw [hC 1 (by decide)]; unfold nl; rw [if_neg (by decide), if_neg (by decide), show 4 * l + 1 - 1 = 4 * l from by omega, if_neg n7]
  have c2 : M.1 37 (4 * l + 2) = C (4 * l + 2) := by
    rw [hC 2 (by decide)]; unfold nl; rw [if_neg (by decide), if_neg (by decide), show 4 * l + 2 - 2 = 4 * l from by omega, if_neg n7]
  have c3 : (C (4 * l) = 1 ∨ C (4 * l) = 2 ∨ C (4 * l) = 3) → M.1 37 (4 * l + 3) = C (4 * l + 3) := fun y => by
    rw [hC 3 (by decide)]; unfold nl; rw [if_neg (by decide), if_pos rfl, show 4 * l + 3 - 3 = 4 * l from by omega, if_pos y]
  unfold w_X7_work
  rw [i_of E1, i_of E2, i_of E3, show M.1 (35 + 2) (4 * l + 1) = _ from c1, show M.1 (35 + 2) (4 * l + 2) = _ from c2]
  generalize hac : C (4 * l) = act at hk h n7 n6 c3
  generalize hao : C (4 * l + 1) = a at hk
  generalize hbo : C (4 * l + 2) = b at hk
  generalize hco : C (4 * l + 3) = c at hk c3
  unfold stepF at h
  rw [hac, hao, hbo, hco] at h
  refine ⟨vp_of E1 (by omega), fun x2 e2 => ⟨vp_of E2 (by omega), fun x4 e4 => ⟨vp_of E3 (by omega), fun x6 e6 => ?_⟩⟩⟩
  subst e2
  subst e4
  have e6 : x6 = M.1 37 (4 * l + 3) := e6
  have ari : ∀ (v : Int32), (∀ x M', x.toInt = ((l + 1 : Nat) : Int) → XS 38 39 kr kg 36 M' (upN R (toN x2) v, Y, O, G, K) → FrW 38 39 kr kg 36 M M' → q x M') → ∀ M', M' = uI M (35 + 3) x2.toNatClampNeg v → q (v2 + 1) M' := fun v hh M' e => by
    refine hh _ M' EL ?_ ?_
    · rw [e]; exact xs_1 dd hX
    · rw [e]; exact frw_u (by omega) (by omega)
  have i7 : ¬ act.toInt = 7 := fun x => n7 (eq_i.mpr x)
  have i6 : ¬ act.toInt = 6 := fun x => n6 (eq_i.mpr x)
  have rd : ∀ y : Int32, 0 ≤ y.toInt ∧ y.toInt ≤ 7 → M.1 (35 + 3) y.toNatClampNeg = R (toN y) := fun y hy => hX.1 (toN y) (by unfold toN; omega)
  refine ⟨fun e => ?_, fun e => ?_, fun e => ?_, fun e => ?_, fun e => ?_, fun n => ?_⟩
  · have e' : act.toInt = 0 := by rw [e]; rfl
    rw [if_pos e] at h
    exact ⟨vp_i.mpr ⟨by omega, by omega⟩, ari _ h⟩
  · have e' : act.toInt = 1 := by rw [e]; rfl
    rw [c3 (by simp [e])] at e6
    subst e6
    rw [if_neg (by rw [e]; decide), if_pos e] at h
    rw [rd x4 (by omega), rd x6 (by omega)]
    exact ⟨vp_i.mpr ⟨by omega, by omega⟩, vp_i.mpr ⟨by omega, by omega⟩, vp_i.mpr ⟨by omega, by omega⟩, ari _ h⟩
  · have e' : act.toInt = 2 := by rw [e]; rfl
    rw [c3 (by simp [e])] at e6
    subst e6
    rw [if_neg (by rw [e]; decide), if_neg (by rw [e]; decide), if_pos e] at h
    rw [rd x4 (by omega), rd x6 (by omega)]
    exact ⟨vp_i.mpr ⟨by omega, by omega⟩, vp_i.mpr ⟨by omega, by omega⟩, vp_i.mpr ⟨by omega, by omega⟩, ari _ h⟩
  · have e' : act.toInt = 3 := by rw [e]; rfl
    rw [c3 (by simp [e])] at e6
    subst e6
    rw [if_neg (by rw [e]; decide), if_neg (by rw [e]; decide), if_neg (by rw [e]; decide), if_pos e] at h
    rw [rd x4 (by omega), rd x6 (by omega)]
    exact ⟨vp_i.mpr ⟨by omega, by omega⟩, vp_i.mpr ⟨by omega, by omega⟩, vp_i.mpr ⟨by omega, by omega⟩, ari _ h⟩
  · have e' : act.toInt = 4 := by rw [e]; rfl
    rw [if_neg (by rw [e]; decide), if_neg (by rw [e]; decide), if_neg (by rw [e]; decide), if_neg (by rw [e]; decide), if_pos e] at h
    rw [rd x4 (by omega)]
    refine ⟨vp_i.mpr ⟨by omega, by omega⟩, s_touch11 hI z hx hm4 hp hX (fun M3 X3 F3 => ?_)⟩
    have ec : 0 ≤ (R (toN x4) &&& 63).toInt ∧ (R (toN x4) &&& 63).toInt ≤ 63 := by rw [and63]; omega
    rw [touF_e] at X3
    refine ⟨vp_i.mpr ⟨by omega, by omega⟩, vp_i.mpr ⟨by omega, by omega⟩, fun M9 e9 => ?_⟩
    have r2 : M3.1 (35 + 4) (R (toN x4) &&& 63).toNatClampNeg = Y (toN (R (toN x4) &&& 63)) := X3.2.1 (toN (R (toN x4) &&& 63)) (by unfold toN; unfold toN at ec; omega)
    rw [r2] at e9
    refine h _ M9 EL ?_ (F3.tr ?_)
    · rw [e9, touF_e]
      exact xs_1 dd X3
    · rw [e9]; exact frw_u (by omega) (by omega)
  · have e' : act.toInt = 5 := by omega
    have e : act = 5 := eq_i.mpr (e'.trans rfl)
    rw [if_neg (by rw [e]; decide), if_neg (by rw [e]; decide), if_neg (by rw [e]; decide), if_neg (by rw [e]; decide), if_neg (by rw [e]; decide), if_pos e] at h
    rw [rd x4 (by omega)]
    refine ⟨vp_i.mpr ⟨by omega, by omega⟩, s_touch11 hI z hx hm4 hp hX (fun M3 X3 F3 => ?_)⟩
    have ec : 0 ≤ (R (toN x4) &&& 63).toInt ∧ (R (toN x4) &&& 63).toInt ≤ 63 := by rw [and63]; omega
    rw [touF_e] at X3
    refine ⟨vp_i.mpr ⟨by omega, by omega⟩, vp_i.mpr ⟨by omega, by omega⟩, fun M9 e9 => ?_⟩
    have r2 : M3.1 (35 + 3) x2.toNatClampNeg = R (toN x2) := X3.1 (toN x2) (by unfold toN; omega)
    rw [r2] at e9
    refine h _ M9 EL ?_ (F3.tr ?_)
    · rw [e9]
      exact xs_2 dd X3
    · rw [e9]; exact frw_u (by omega) (by omega)
theorem s_leapT11 {v2 p : Int32} {mn l km kr kg : Nat} {M : Mem} {N C : Nat → Int32} {s : SS} {q : Int32 → Mem → Prop} (hI : InvN N) (z : CZ km kr kg) (hx : CX N mn km kr kg p M) (hm4 : mn < 4) (hl : v2.toInt = l) (hl4 : l < 40) (hC : ∀ k, k < 4 → M.1 37 (4 * l + k) = nl C (4 * l + k) k) (hk : okLine (C (4 * l)) (C (4 * l + 1)) (C (4 * l + 2)) (C (4 * l + 3))) (e6 : C (4 * l) = 6) (hX : XS 38 39 kr kg 36 M s) (h : ∀ x M', x.toInt = ((stepF N mn p C l s).1 : Int) → XS 38 39 kr kg 36 M' (stepF N mn p C l s).2 → FrW 38 39 kr kg 36 M M' → q x M') : w_X7_leap 35 v2 M q := by
  obtain ⟨R, Y, O, G, K⟩ := s
  have f0 : (0 : Int32).toInt = 0 := rfl
  have n7 : ¬ C (4 * l) = 7 := by rw [e6]; decide
  have E0 := ix_m hl (w := (4 : Int32)) (i := 4) rfl (by omega)
  rw [Nat.mul_comm l 4] at E0
  have E1 := ix_a E0 (w := 1) (i := 1) rfl (by omega)
  have E2 := ix_a E0 (w := 2) (i := 2) rfl (by omega)
  have EL := ix_a hl (w := 1) (i := 1) rfl (by omega)
  have c1 : M.1 37 (4 * l + 1) = C (4 * l + 1) := by
    rw [hC 1 (by decide)]; unfold nl; rw [if_neg (by decide), if_neg (by decide), show 4 * l + 1 - 1 = 4 * l from by omega, if_neg n7]
  have c2 : M.1 37 (4 * l + 2) = C (4 * l + 2) := by
    rw [hC 2 (by decide)]; unfold nl; rw [if_neg (by decide), if_neg (by decide), show 4 * l + 2 - 2 = 4 * l from by omega, if_neg n7]
  have e' : (C (4 * l)).toInt = 6 := by rw [e6]; rfl
  unfold stepF at h
  rw [if_neg (by rw [e6]; decide), if_neg (by rw [e6]; decide), if_neg (by rw [e6]; decide), if_neg (by rw [e6]; decide), if_neg (by rw [e6]; decide), if_neg (by rw [e6]; decide), if_pos e6] at h
  unfold w_X7_leap
  rw [i_of E1, show M.1 (35 + 2) (4 * l + 1) = _ from c1]
  rw [show M.1 (35 + 3) (C (4 * l + 1)).toNatClampNeg = R (toN (C (4 * l + 1))) from hX.1 (toN (C (4 * l + 1))) (by unfold toN; omega), le_i, f0]
  have rb : 0 ≤ (C (4 * l + 2)).toInt := by omega
  have h37 : ∀ M', FrW 38 39 kr kg 36 M M' → M'.1 37 = M.1 37 := fun M' F => F.1 37 (by decide) (by decide) (fun x => z.2.2.2.2.2.2.1 x.symm) (fun x => z.2.2.2.2.2.2.2 x.symm) (by decide)
  refine ⟨vp_of E1 (by omega), vp_i.mpr ⟨by omega, by omega⟩, fun k => ?_, fun k => ?_⟩
  · rw [if_pos k] at h
    refine s_leap11 hI z hx hm4 hl hX (fun M' X' F' => ?_)
    unfold w_X7_leap_b73
    exact ⟨fun _ => h _ M' EL X' F', fun y => absurd y (by decide)⟩
  · rw [if_neg k] at h
    refine s_leap11 hI z hx hm4 hl hX (fun M' X' F' => ?_)
    unfold w_X7_leap_b73
    refine ⟨fun y => absurd rfl y, fun _ => ⟨vp_of E2 (by omega), ?_⟩⟩
    rw [i_of E2, show M'.1 (35 + 2) (4 * l + 2) = C (4 * l + 2) from by rw [show M'.1 (35 + 2) = M.1 37 from h37 M' F', c2]]
    exact h _ M' (ix_n rb) X' F'

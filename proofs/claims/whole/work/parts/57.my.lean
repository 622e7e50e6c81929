/-! one step of a run, in the class -/
def CX (N : Nat → Int32) (m km kr kg : Nat) (p : Int32) (M : Mem) : Prop := (M.2.2 35 8 = some km ∧ M.2.2 35 9 = some kr ∧ M.2.2 35 10 = some kg) ∧ (M.1 km 1 = N (1106 + 60 * m + 8) ∧ M.1 km 2 = N (1106 + 60 * m + 9) ∧ M.1 km 3 = N (1106 + 60 * m + 10) ∧ M.1 km 5 = N (1106 + 60 * m + 11) ∧ M.1 km 6 = N (1106 + 60 * m + 12) ∧ ∀ a, a < 8 → M.1 (km + 1) a = N (1106 + 60 * m + a)) ∧ M.1 35 11 = p
def CZ (km kr kg : Nat) : Prop := (sh km = .inl 3 ∧ isA 0 kr ∧ isA 0 kg ∧ len kr = 16 ∧ len kg = 16) ∧ DC 38 39 kr kg 36 ∧ (km ≠ 38 ∧ km ≠ 39 ∧ km ≠ kr ∧ km ≠ kg ∧ km ≠ 36) ∧ (km + 1 ≠ 38 ∧ km + 1 ≠ 39 ∧ km + 1 ≠ kr ∧ km + 1 ≠ kg ∧ km + 1 ≠ 36) ∧ kr ≠ 35 ∧ kg ≠ 35 ∧ kr ≠ 37 ∧ kg ≠ 37
theorem CX.fr {N : Nat → Int32} {m km kr kg : Nat} {p : Int32} {M M' : Mem} (z : CZ km kr kg) (h : CX N m km kr kg p M) (f : FrW 38 39 kr kg 36 M M') : CX N m km kr kg p M' := by
  obtain ⟨z1, z2, z3, z4, z5⟩ := z
  have e1 : M'.1 km = M.1 km := f.1 km (by omega) (by omega) (by omega) (by omega) (by omega)
  have e2 : M'.1 (km + 1) = M.1 (km + 1) := f.1 (km + 1) (by omega) (by omega) (by omega) (by omega) (by omega)
  have e3 : M'.1 35 = M.1 35 := f.1 35 (by omega) (by omega) (by omega) (by omega) (by omega)
  have e4 : M'.2.2 = M.2.2 := by rw [f.2.1]
  unfold CX
  rw [e1, e2, e3, e4]
  exact h
theorem s_cut {x b : Int32} {M : Mem} {q : Int32 → Mem → Prop} (hb : 1 ≤ b.toInt) (h : q (x / b) M) : w_X11_cutBy x b M q := by
  have f0 : (0 : Int32).toInt = 0 := rfl
  have f1 : (1 : Int32).toInt = 1 := rfl
  unfold w_X11_cutBy
  exact ⟨fun _ => ⟨fun z => by rw [z, f0] at hb; omega, h⟩, fun z => absurd (by rw [le_i, f1]; exact hb) z⟩
theorem s_touch11 {x p : Int32} {mn km kr kg : Nat} {M : Mem} {N R Y O G K : Nat → Int32} {q : Int32 → Mem → Prop} (hI : InvN N) (z : CZ km kr kg) (hx : CX N mn km kr kg p M) (hm4 : mn < 4) (hp : 0 ≤ p.toInt ∧ p.toInt ≤ 63) (hX : XS 38 39 kr kg 36 M (R, Y, O, G, K)) (h : ∀ M', XS 38 39 kr kg 36 M' (touF N mn p (x &&& 63) (R, Y, O, G, K)) → FrW 38 39 kr kg 36 M M' → q (x &&& 63) M') : w_X7_touched 35 x M q := by
  have r8 : 1 ≤ (N (1106 + 60 * mn + 8)).toInt ∧ (N (1106 + 60 * mn + 8)).toInt ≤ 16 := inv_mach hI hm4 (by decide)
  have r9 : 1 ≤ (N (1106 + 60 * mn + 9)).toInt ∧ (N (1106 + 60 * mn + 9)).toInt ≤ 8 := inv_mach hI hm4 (by decide)
  have hc : 0 ≤ (x &&& 63).toInt ∧ (x &&& 63).toInt ≤ 63 := by rw [and63]; omega
  obtain ⟨⟨x1, x2, x3⟩, ⟨y1, y2, y3, y4, y5, y6⟩, x4⟩ := hx
  obtain ⟨⟨z1, z2, z3, z4, z5⟩, dd, z6, z7, z8⟩ := z
  unfold w_X7_touched
  refine s_left64 ⟨km, x1, z1, ?_⟩
  rw [y2, x4]
  unfold touF at h
  have Es := ix_a (ix_n hc.1) (ix_n hp.1) (by omega)
  have El := ix_d Es (ix_n (show 0 ≤ (N (1106 + 60 * mn + 9)).toInt by omega)) (by omega)
  have Er := ix_r El (ix_n (show 0 ≤ (N (1106 + 60 * mn + 8)).toInt by omega)) (by omega)
  have hlt : ((x &&& 63).toInt.toNat + p.toInt.toNat) / (N (1106 + 60 * mn + 9)).toInt.toNat % (N (1106 + 60 * mn + 8)).toInt.toNat < 16 := by
    have := Nat.mod_lt (((x &&& 63).toInt.toNat + p.toInt.toNat) / (N (1106 + 60 * mn + 9)).toInt.toNat) (show 0 < (N (1106 + 60 * mn + 8)).toInt.toNat by omega)
    omega
  refine s_cut r9.1 ⟨km, x1, z1, ?_⟩
  rw [y1]
  refine s_left El (ix_n (show 0 ≤ (N (1106 + 60 * mn + 8)).toInt by omega)) (by omega) ?_
  generalize ((x &&& 63).toInt.toNat + p.toInt.toNat) / (N (1106 + 60 * mn + 9)).toInt.toNat % (N (1106 + 60 * mn + 8)).toInt.toNat = rm at Er hlt
  rw [toN_i Er] at h
  generalize ((x &&& 63) + p) / N (1106 + 60 * mn + 9) = ln at h Er El ⊢
  intro M9 e9
  have eK : M.1 36 1 = K 1 := hX.2.2.2.2 1 (by decide) (by decide)
  have e9 : M9 = uI M 36 1 (K 1 + 1) := by rw [e9, ← eK]
  have X9 : XS 38 39 kr kg 36 M9 (R, Y, O, G, upN K 1 (K 1 + 1)) := by rw [e9]; exact xs_5 dd hX
  have F9 : FrW 38 39 kr kg 36 M M9 := by rw [e9]; exact frw_u (by omega) (by omega)
  have g9 : M9.2.2 35 9 = some kr := by rw [F9.2.1]; exact x2
  refine ⟨kr, g9, z2, vp_of Er (by omega), ?_⟩
  rw [i_of Er, X9.2.2.1 rm hlt]
  refine ⟨fun k => ?_, fun n M13 e13 => ?_⟩
  · rw [if_pos k] at h
    exact h M9 X9 F9
  · rw [if_neg n] at h
    have eK2 : M9.1 36 2 = K 2 := by rw [X9.2.2.2.2 2 (by decide) (by decide)]; exact upN_o (N := K) (i := 2) (j := 1) (v := K 1 + 1) (by decide)
    have e13 : M13 = uI M9 36 2 (K 2 + 1) := by rw [e13, ← eK2]
    have X13 : XS 38 39 kr kg 36 M13 (R, Y, O, G, upN (upN K 1 (K 1 + 1)) 2 (K 2 + 1)) := by rw [e13]; exact xs_5 dd X9
    have F13 : FrW 38 39 kr kg 36 M M13 := F9.tr (by rw [e13]; exact frw_u (by omega) (by omega))
    have g13 : M13.2.2 35 9 = some kr := by rw [F13.2.1]; exact x2
    refine ⟨kr, g13, z2, vp_of Er (by omega), fun M16 e16 => ?_⟩
    refine h M16 ?_ (F13.tr ?_)
    · rw [e16]; exact xs_3 dd X13
    · rw [e16]; exact frw_u (by omega) (by omega)
theorem s_leap11 {v1 t : Int32} {mn l km kr kg : Nat} {p : Int32} {M : Mem} {N R Y O G K : Nat → Int32} {q : Int32 → Mem → Prop} (hI : InvN N) (z : CZ km kr kg) (hx : CX N mn km kr kg p M) (hm4 : mn < 4) (hl : v1.toInt = l) (hX : XS 38 39 kr kg 36 M (R, Y, O, G, K)) (h : ∀ M', XS 38 39 kr kg 36 M' (leaF N mn l t (R, Y, O, G, K)) → FrW 38 39 kr kg 36 M M' → w_X7_leap_b73 35 v1 t M' q) : w_X7_leap_b23 35 v1 t M q := by
  have r11 : 1 ≤ (N (1106 + 60 * mn + 11)).toInt ∧ (N (1106 + 60 * mn + 11)).toInt ≤ 16 := inv_mach hI hm4 (by decide)
  obtain ⟨⟨x1, x2, x3⟩, ⟨y1, y2, y3, y4, y5, y6⟩, x4⟩ := hx
  obtain ⟨⟨z1, z2, z3, z4, z5⟩, dd, z6, z7, z8⟩ := z
  have Er := ix_r hl (ix_n (show 0 ≤ (N (1106 + 60 * mn + 11)).toInt by omega)) (by omega)
  have hlt : l % (N (1106 + 60 * mn + 11)).toInt.toNat < 16 := by
    have := Nat.mod_lt l (show 0 < (N (1106 + 60 * mn + 11)).toInt.toNat by omega)
    omega
  unfold leaF at h
  rw [← i_nat hl, toN_i Er] at h
  unfold w_X7_leap_b23
  refine ⟨km, x1, z1, ?_⟩
  rw [y4]
  refine s_left hl (ix_n (show 0 ≤ (N (1106 + 60 * mn + 11)).toInt by omega)) (by omega) ?_
  generalize l % (N (1106 + 60 * mn + 11)).toInt.toNat = g at Er hlt h
  intro M9 e9
  have eK : M.1 36 3 = K 3 := hX.2.2.2.2 3 (by decide) (by decide)
  have e9 : M9 = uI M 36 3 (K 3 + 1) := by rw [e9, ← eK]
  have X9 : XS 38 39 kr kg 36 M9 (R, Y, O, G, upN K 3 (K 3 + 1)) := by rw [e9]; exact xs_5 dd hX
  have F9 : FrW 38 39 kr kg 36 M M9 := by rw [e9]; exact frw_u (by omega) (by omega)
  have g9 : M9.2.2 35 10 = some kg := by rw [F9.2.1]; exact x3
  refine ⟨kg, g9, z3, vp_of Er (by omega), ?_⟩
  rw [i_of Er, X9.2.2.2.1 g hlt]
  refine ⟨fun k => ?_, fun n M13 e13 => ?_⟩
  · rw [if_pos k] at h
    exact h M9 X9 F9
  · rw [if_neg n] at h
    have eK2 : M9.1 36 4 = K 4 := by rw [X9.2.2.2.2 4 (by decide) (by decide)]; exact upN_o (N := K) (i := 4) (j := 3) (v := K 3 + 1) (by decide)
    have e13 : M13 = uI M9 36 4 (K 4 + 1) := by rw [e13, ← eK2]
    have X13 : XS 38 39 kr kg 36 M13 (R, Y, O, G, upN (upN K 3 (K 3 + 1)) 4 (K 4 + 1)) := by rw [e13]; exact xs_5 dd X9
    have F13 : FrW 38 39 kr kg 36 M M13 := F9.tr (by rw [e13]; exact frw_u (by omega) (by omega))
    have g13 : M13.2.2 35 10 = some kg := by rw [F13.2.1]; exact x3
    refine ⟨kg, g13, z3, vp_of Er (by omega), fun M16 e16 => ?_⟩
    refine h M16 ?_ (F13.tr ?_)
    · rw [e16]; exact xs_4 dd X13
    · rw [e16]; exact frw_u (by omega) (by omega)

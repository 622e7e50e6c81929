/-! the run of a program: spec -/
abbrev SS : Type := (Nat → Int32) × (Nat → Int32) × (Nat → Int32) × (Nat → Int32) × (Nat → Int32)
def toN (a : Int32) : Nat := a.toInt.toNat
/-- a cell is touched -/
def touF (N : Nat → Int32) (m : Nat) (p cell : Int32) (s : SS) : SS := if s.2.2.1 (toN (irm ((cell + p) / N (1106 + 60 * m + 9)) (N (1106 + 60 * m + 8)))) = (cell + p) / N (1106 + 60 * m + 9) then (s.1, s.2.1, s.2.2.1, s.2.2.2.1, upN s.2.2.2.2 1 (s.2.2.2.2 1 + 1)) else (s.1, s.2.1, upN s.2.2.1 (toN (irm ((cell + p) / N (1106 + 60 * m + 9)) (N (1106 + 60 * m + 8)))) ((cell + p) / N (1106 + 60 * m + 9)), s.2.2.2.1, upN (upN s.2.2.2.2 1 (s.2.2.2.2 1 + 1)) 2 (s.2.2.2.2 2 + 1))
/-- a leap -/
def leaF (N : Nat → Int32) (m l : Nat) (t : Int32) (s : SS) : SS := if s.2.2.2.1 (toN (irm (Int32.ofNat l) (N (1106 + 60 * m + 11)))) = t then (s.1, s.2.1, s.2.2.1, s.2.2.2.1, upN s.2.2.2.2 3 (s.2.2.2.2 3 + 1)) else (s.1, s.2.1, s.2.2.1, upN s.2.2.2.1 (toN (irm (Int32.ofNat l) (N (1106 + 60 * m + 11)))) t, upN (upN s.2.2.2.2 3 (s.2.2.2.2 3 + 1)) 4 (s.2.2.2.2 4 + 1))
def stepF (N : Nat → Int32) (m : Nat) (p : Int32) (C : Nat → Int32) (l : Nat) (s : SS) : Nat × SS :=
  if C (4 * l) = 0 then (l + 1, upN s.1 (toN (C (4 * l + 1))) (C (4 * l + 2)), s.2)
  else if C (4 * l) = 1 then (l + 1, upN s.1 (toN (C (4 * l + 1))) (s.1 (toN (C (4 * l + 2))) + s.1 (toN (C (4 * l + 3)))), s.2)
  else if C (4 * l) = 2 then (l + 1, upN s.1 (toN (C (4 * l + 1))) (s.1 (toN (C (4 * l + 2))) - s.1 (toN (C (4 * l + 3)))), s.2)
  else if C (4 * l) = 3 then (l + 1, upN s.1 (toN (C (4 * l + 1))) (s.1 (toN (C (4 * l + 2))) * s.1 (toN (C (4 * l + 3)))), s.2)
  else if C (4 * l) = 4 then (l + 1, upN s.1 (toN (C (4 * l + 1))) (s.2.1 (toN (s.1 (toN (C (4 * l + 2))) &&& 63))), (touF N m p (s.1 (toN (C (4 * l + 2))) &&& 63) s).2)
  else if C (4 * l) = 5 then (l + 1, s.1, upN s.2.1 (toN (s.1 (toN (C (4 * l + 2))) &&& 63)) (s.1 (toN (C (4 * l + 1)))), (touF N m p (s.1 (toN (C (4 * l + 2))) &&& 63) s).2.2)
  else if C (4 * l) = 6 then (if (s.1 (toN (C (4 * l + 1)))).toInt ≤ 0 then (l + 1, leaF N m l 0 s) else (toN (C (4 * l + 2)), leaF N m l 1 s))
  else (40, s)
/-- line, cost, state, fuel left -/
def goF (N : Nat → Int32) (m : Nat) (p : Int32) (C : Nat → Int32) (L : Nat) : Nat → Nat → Int32 → SS → Nat × Int32 × SS × Nat
  | 0, l, c, s => (l, c, s, 0)
  | f + 1, l, c, s => if l < L then goF N m p C L f (stepF N m p C l s).1 (c + N (1106 + 60 * m + toN (C (4 * l)))) (stepF N m p C l s).2 else (l, c, s, f + 1)
/-! the state in cells -/
def XS (c1 c2 c3 c4 c5 : Nat) (M : Mem) (s : SS) : Prop := (∀ i, i < 8 → M.1 c1 i = s.1 i) ∧ (∀ i, i < 64 → M.1 c2 i = s.2.1 i) ∧ (∀ i, i < 16 → M.1 c3 i = s.2.2.1 i) ∧ (∀ i, i < 16 → M.1 c4 i = s.2.2.2.1 i) ∧ ∀ i, 1 ≤ i → i < 5 → M.1 c5 i = s.2.2.2.2 i
abbrev DC (c1 c2 c3 c4 c5 : Nat) : Prop := c1 ≠ c2 ∧ c1 ≠ c3 ∧ c1 ≠ c4 ∧ c1 ≠ c5 ∧ c2 ≠ c3 ∧ c2 ≠ c4 ∧ c2 ≠ c5 ∧ c3 ≠ c4 ∧ c3 ≠ c5 ∧ c4 ≠ c5
theorem uI_up {M : Mem} {c i j : Nat} {v : Int32} {f : Nat → Int32} (h : M.1 c i = f i) : (uI M c j v).1 c i = upN f j v i := by
  by_cases e : i = j
  · subst e; rw [uI_s, upN_s]
  · rw [uI_j e, upN_o e, h]
section XSU
variable {c1 c2 c3 c4 c5 : Nat} {M : Mem} {R Y O G K : Nat → Int32} {j : Nat} {v : Int32}
theorem xs_1 (d : DC c1 c2 c3 c4 c5) (h : XS c1 c2 c3 c4 c5 M (R, Y, O, G, K)) : XS c1 c2 c3 c4 c5 (uI M c1 j v) (upN R j v, Y, O, G, K) := ⟨fun i hi => uI_up (h.1 i hi), fun i hi => by rw [uI_k (by omega)]; exact h.2.1 i hi, fun i hi => by rw [uI_k (by omega)]; exact h.2.2.1 i hi, fun i hi => by rw [uI_k (by omega)]; exact h.2.2.2.1 i hi, fun i h1 h2 => by rw [uI_k (by omega)]; exact h.2.2.2.2 i h1 h2⟩
theorem xs_2 (d : DC c1 c2 c3 c4 c5) (h : XS c1 c2 c3 c4 c5 M (R, Y, O, G, K)) : XS c1 c2 c3 c4 c5 (uI M c2 j v) (R, upN Y j v, O, G, K) := ⟨fun i hi => by rw [uI_k (by omega)]; exact h.1 i hi, fun i hi => uI_up (h.2.1 i hi), fun i hi => by rw [uI_k (by omega)]; exact h.2.2.1 i hi, fun i hi => by rw [uI_k (by omega)]; exact h.2.2.2.1 i hi, fun i h1 h2 => by rw [uI_k (by omega)]; exact h.2.2.2.2 i h1 h2⟩
theorem xs_3 (d : DC c1 c2 c3 c4 c5) (h : XS c1 c2 c3 c4 c5 M (R, Y, O, G, K)) : XS c1 c2 c3 c4 c5 (uI M c3 j v) (R, Y, upN O j v, G, K) := ⟨fun i hi => by rw [uI_k (by omega)]; exact h.1 i hi, fun i hi => by rw [uI_k (by omega)]; exact h.2.1 i hi, fun i hi => uI_up (h.2.2.1 i hi), fun i hi => by rw [uI_k (by omega)]; exact h.2.2.2.1 i hi, fun i h1 h2 => by rw [uI_k (by omega)]; exact h.2.2.2.2 i h1 h2⟩
theorem xs_4 (d : DC c1 c2 c3 c4 c5) (h : XS c1 c2 c3 c4 c5 M (R, Y, O, G, K)) : XS c1 c2 c3 c4 c5 (uI M c4 j v) (R, Y, O, upN G j v, K) := ⟨fun i hi => by rw [uI_k (by omega)]; exact h.1 i hi, fun i hi => by rw [uI_k (by omega)]; exact h.2.1 i hi, fun i hi => by rw [uI_k (by omega)]; exact h.2.2.1 i hi, fun i hi => uI_up (h.2.2.2.1 i hi), fun i h1 h2 => by rw [uI_k (by omega)]; exact h.2.2.2.2 i h1 h2⟩
theorem xs_5 (d : DC c1 c2 c3 c4 c5) (h : XS c1 c2 c3 c4 c5 M (R, Y, O, G, K)) : XS c1 c2 c3 c4 c5 (uI M c5 j v) (R, Y, O, G, upN K j v) := ⟨fun i hi => by rw [uI_k (by omega)]; exact h.1 i hi, fun i hi => by rw [uI_k (by omega)]; exact h.2.1 i hi, fun i hi => by rw [uI_k (by omega)]; exact h.2.2.1 i hi, fun i hi => by rw [uI_k (by omega)]; exact h.2.2.2.1 i hi, fun i h1 h2 => uI_up (h.2.2.2.2 i h1 h2)⟩
end XSU
/-- only the state's own cells change -/
def FrW (c1 c2 c3 c4 c5 : Nat) (M M' : Mem) : Prop := (∀ a, a ≠ c1 → a ≠ c2 → a ≠ c3 → a ≠ c4 → a ≠ c5 → M'.1 a = M.1 a) ∧ M'.2 = M.2 ∧ M'.1 c5 0 = M.1 c5 0
theorem FrW.rf {c1 c2 c3 c4 c5 : Nat} {M : Mem} : FrW c1 c2 c3 c4 c5 M M := ⟨fun _ _ _ _ _ _ => rfl, rfl, rfl⟩
theorem FrW.tr {c1 c2 c3 c4 c5 : Nat} {M M' M'' : Mem} (h : FrW c1 c2 c3 c4 c5 M M') (h' : FrW c1 c2 c3 c4 c5 M' M'') : FrW c1 c2 c3 c4 c5 M M'' := ⟨fun a h1 h2 h3 h4 h5 => (h'.1 a h1 h2 h3 h4 h5).trans (h.1 a h1 h2 h3 h4 h5), h'.2.1.trans h.2.1, h'.2.2.trans h.2.2⟩
theorem frw_u {c1 c2 c3 c4 c5 c j : Nat} {M : Mem} {v : Int32} (h : c = c1 ∨ c = c2 ∨ c = c3 ∨ c = c4 ∨ c = c5) (h0 : ¬ (c5 = c ∧ 0 = j)) : FrW c1 c2 c3 c4 c5 M (uI M c j v) := ⟨fun a h1 h2 h3 h4 h5 => by funext b; exact uI_k (by rcases h with e | e | e | e | e <;> subst e <;> assumption), rfl, if_neg h0⟩
/-! remainders -/
theorem and63 (x : Int32) : (x &&& 63).toInt = x.toInt % 64 := by
  have e1 : (x &&& 63).toBitVec.toNat = x.toBitVec.toNat % 64 := by
    rw [Int32.toBitVec_and, BitVec.toNat_and]
    exact Nat.and_two_pow_sub_one_eq_mod _ 6
  have hx : x.toInt = x.toBitVec.toInt := rfl
  have hy : (x &&& 63).toInt = (x &&& 63).toBitVec.toInt := rfl
  rw [hx, hy, BitVec.toInt_eq_toNat_cond, BitVec.toInt_eq_toNat_cond, e1]
  have := x.toBitVec.isLt
  split <;> split <;> omega
theorem ti_rem {x b : Int32} (h0 : 0 < b.toInt) (h1 : -2147483648 < x.toInt) : (irm x b).toInt = x.toInt.tmod b.toInt := by
  have hd := ti_div h0 h1
  have hb := i_hi x
  have e : x.toInt.tmod b.toInt = x.toInt - b.toInt * x.toInt.tdiv b.toInt := Int.tmod_def _ _
  have ha : (x.toInt.tdiv b.toInt * b.toInt).natAbs ≤ x.toInt.natAbs := by
    rw [Int.natAbs_mul, Int.natAbs_tdiv]
    exact Nat.div_mul_le_self _ _
  have hs : (x.toInt.tmod b.toInt).natAbs ≤ x.toInt.natAbs := by
    rw [Int.natAbs_tmod]
    exact Nat.mod_le _ _
  unfold irm
  have hm : (x / b * b).toInt = x.toInt.tdiv b.toInt * b.toInt := by
    rw [← hd]
    refine ti_mul ?_ ?_ <;> rw [hd] <;> omega
  rw [ti_sub (by rw [hm, Int.mul_comm]; omega) (by rw [hm, Int.mul_comm]; omega), hm, e, Int.mul_comm]
theorem iush16 (x : Int32) : 0 ≤ (iush x 16).toInt ∧ (iush x 16).toInt < 65536 := by
  have e : (iush x 16).toBitVec.toNat = x.toBitVec.toNat / 65536 := by
    unfold iush
    show (x.toBitVec >>> (16 : Nat)).toNat = _
    rw [BitVec.toNat_ushiftRight, Nat.shiftRight_eq_div_pow]
  have hy : (iush x 16).toInt = (iush x 16).toBitVec.toInt := rfl
  rw [hy, BitVec.toInt_eq_toNat_cond, e]
  have := x.toBitVec.isLt
  split <;> omega

/-! what always holds of the model's row -/
def rgM (r : Nat) : Int × Int := if r < 8 then (0, 50) else if r = 8 then (1, 16) else if r = 9 then (1, 8) else if r = 10 then (0, 200) else if r = 11 then (1, 16) else if r = 12 then (0, 100) else if r = 13 then (0, 20) else if r = 14 then (0, 1000) else if r = 15 then (0, 100) else if r = 16 then (0, 1) else (-2147483648, 2147483647)
def rgR (w : Nat) : Int × Int := if w < 5 then (0, 2000) else if w = 5 then (-1, 10000000) else if w = 6 then (0, 1) else if w = 7 then (0, 23) else if w = 8 then (0, 3) else if w = 9 then (0, 7) else if w = 10 then (-2147483648, 2147483647) else if w = 11 then (0, 23) else (0, 1)
def rg (j : Nat) : Int × Int :=
  if j < 960 then (-2147483648, 2147483647) else if j < 966 then (0, 40)
  else if j < 1026 then (if (j - 966) % 6 = 0 then (0, 5) else if (j - 966) % 6 = 1 then (0, 39) else (-2147483648, 2147483647))
  else if j < 1074 then (if (j - 1026) % 2 = 0 then (0, 5) else (0, 1023))
  else if j < 1106 then (-2147483648, 2147483647)
  else if j < 1346 then rgM ((j - 1106) % 60)
  else if j < 4146 then rgR ((j - 1346) % 14)
  else if j < 4162 then (-1000000, 1000000) else if j < 4170 then (0, 16) else if j < 4210 then (0, 127)
  else if j = 4210 then (0, 6) else if j = 4211 then (0, 10) else if j = 4212 then (0, 24) else if j = 4213 then (0, 8) else if j = 4214 then (0, 200) else if j = 4215 then (0, 16) else if j = 4216 then (0, 8) else if j = 4217 then (0, 40) else if j = 4218 then (2, 1000) else if j = 4219 then (0, 10000) else (-2147483648, 2147483647)
abbrev okLine (act a b c : Int32) : Prop := act.toInt = 7 ∨ ((0 ≤ a.toInt ∧ a.toInt ≤ 7) ∧ ((act.toInt = 0 ∧ -1000 ≤ b.toInt ∧ b.toInt ≤ 1000) ∨ (act.toInt = 6 ∧ 0 ≤ b.toInt ∧ b.toInt ≤ 39) ∨ ((act.toInt = 4 ∨ act.toInt = 5) ∧ 0 ≤ b.toInt ∧ b.toInt ≤ 7) ∨ ((act.toInt = 1 ∨ act.toInt = 2 ∨ act.toInt = 3) ∧ (0 ≤ b.toInt ∧ b.toInt ≤ 7) ∧ 0 ≤ c.toInt ∧ c.toInt ≤ 7)))
def okL (N : Nat → Int32) (j : Nat) : Prop := okLine (N j) (N (j + 1)) (N (j + 2)) (N (j + 3))
def InvK (N : Nat → Int32) : Prop := ∀ i : Nat, i < 8 → (i : Int) < (N 4216).toInt → 1 ≤ (N (4162 + i)).toInt
def InvN (N : Nat → Int32) : Prop := (∀ j, j < 4230 → (rg j).1 ≤ (N j).toInt ∧ (N j).toInt ≤ (rg j).2) ∧ (∀ l, l < 240 → okL N (4 * l)) ∧ (∀ c, c < 10 → okL N (968 + 6 * c)) ∧ (∀ p : Nat, p < 6 → (N 4210).toInt ≤ (p : Int) → N (960 + p) = 0) ∧ InvK N
theorem upN_s {N : Nat → Int32} {j : Nat} {v : Int32} : upN N j v j = v := if_pos rfl
theorem upN_o {N : Nat → Int32} {i j : Nat} {v : Int32} (h : i ≠ j) : upN N j v i = N i := if_neg h
theorem okL_up {N : Nat → Int32} {i j : Nat} {v : Int32} (h : j < i ∨ i + 3 < j) : okL (upN N j v) i ↔ okL N i := by
  unfold okL
  rw [upN_o (by omega), upN_o (by omega), upN_o (by omega), upN_o (by omega)]
theorem inv_up {N : Nat → Int32} {j : Nat} {v : Int32} (hI : InvN N) (h1 : 1026 ≤ j) (h2 : j ≠ 4210) (hv : (rg j).1 ≤ v.toInt ∧ v.toInt ≤ (rg j).2) (h3 : j < 4162 ∨ (4170 ≤ j ∧ j ≠ 4216) := by omega) : InvN (upN N j v) := by
  refine ⟨fun i hi => ?_, fun l hl => (okL_up (by omega)).mpr (hI.2.1 l hl), fun c hc => (okL_up (by omega)).mpr (hI.2.2.1 c hc), fun p hp => ?_, fun i hi => ?_⟩
  · by_cases e : i = j
    · subst e
      rw [upN_s]
      exact hv
    · rw [upN_o e]
      exact hI.1 i hi
  · rw [upN_o (Ne.symm h2), upN_o (by omega)]
    exact hI.2.2.2.1 p hp
  · rw [upN_o (by omega), upN_o (by omega)]
    exact hI.2.2.2.2 i hi
/-- an index known as a number -/
theorem vp_of {e : Int32} {a n : Nat} (he : e.toInt = a) (h : a < n) : vp_in e n := vp_i.mpr ⟨by omega, by omega⟩
theorem ix_a {e w : Int32} {a i : Nat} (he : e.toInt = a) (hw : w.toInt = i) (h : a + i < 2147483648) : (e + w).toInt = ((a + i : Nat) : Int) := by
  rw [ti_add (by omega) (by omega)]
  omega
theorem ix_m {e w : Int32} {a i : Nat} (he : e.toInt = a) (hw : w.toInt = i) (h : a * i < 2147483648) : (e * w).toInt = ((a * i : Nat) : Int) := by
  have : e.toInt * w.toInt = ((a * i : Nat) : Int) := by rw [he, hw, Int.natCast_mul]
  rw [ti_mul (by omega) (by omega), this]
theorem ix_s {e w : Int32} {a i : Nat} (he : e.toInt = a) (hw : w.toInt = i) (h : i ≤ a) : (e - w).toInt = ((a - i : Nat) : Int) := by
  have := i_hi e
  rw [ti_sub (by omega) (by omega)]
  omega
/-- a number that isn't below 0 is a natural one -/
theorem ix_n {e : Int32} (h : 0 ≤ e.toInt) : e.toInt = ((e.toInt.toNat : Nat) : Int) := by omega
/-! places of the parts -/
theorem loc_size {p : Nat} (h : p < 6) : loc (960 + p) = some (2, p) := by grind [loc]
theorem loc_cp {c : Nat} (h : c < 10) : loc (966 + 6 * c) = some (4, c) := by grind [loc]
theorem loc_cl {c : Nat} (h : c < 10) : loc (966 + 6 * c + 1) = some (5, c) := by grind [loc]
theorem loc_ch {c k : Nat} (h : c < 10) (hk : k < 4) : loc (966 + 6 * c + 2 + k) = some (6, 4 * c + k) := by grind [loc]
theorem loc_bp {b : Nat} (h : b < 24) : loc (1026 + 2 * b) = some (7, b) := by grind [loc]
theorem loc_bc {b : Nat} (h : b < 24) : loc (1026 + 2 * b + 1) = some (8, b) := by grind [loc]
theorem loc_val {i : Nat} (h : i < 32) : loc (1074 + i) = some (9, i) := by grind [loc]
theorem loc_price {m a : Nat} (h : m < 4) (ha : a < 8) : loc (1106 + 60 * m + a) = some (17 + 4 * m, a) := by grind [loc]
theorem loc_room {m a : Nat} (h : m < 4) (ha : a < 16) : loc (1106 + 60 * m + 20 + a) = some (18 + 4 * m, a) := by grind [loc]
theorem loc_said {m a : Nat} (h : m < 4) (ha : a < 16) : loc (1106 + 60 * m + 36 + a) = some (19 + 4 * m, a) := by grind [loc]
def mfld (r : Nat) : Nat := if r < 11 then r - 7 else if r < 13 then r - 6 else r - 5
theorem loc_mach {m r : Nat} (h : m < 4) (h1 : 8 ≤ r) (h2 : r < 17) : loc (1106 + 60 * m + r) = some (16 + 4 * m, mfld r) := by grind [loc, mfld]
theorem loc_run {i : Nat} (h : i < 2800) : loc (1346 + i) = some (14, i) := by grind [loc]
theorem loc_diff {i : Nat} (h : i < 16) : loc (4146 + i) = some (12, i) := by grind [loc]
theorem loc_look {i : Nat} (h : i < 8) : loc (4162 + i) = some (13, i) := by grind [loc]
theorem loc_text {i : Nat} (h : i < 40) : loc (4170 + i) = some (15, i) := by grind [loc]

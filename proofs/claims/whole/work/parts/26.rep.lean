/-! the class's Store at cell k holds the same as the model's row N -/
def loc (j : Nat) : Option (Nat × Nat) :=
  if j < 960 then some (3, j) else if j < 966 then some (2, j - 960)
  else if j < 1026 then (if (j - 966) % 6 = 0 then some (4, (j - 966) / 6) else if (j - 966) % 6 = 1 then some (5, (j - 966) / 6) else some (6, 4 * ((j - 966) / 6) + ((j - 966) % 6 - 2)))
  else if j < 1074 then (if (j - 1026) % 2 = 0 then some (7, (j - 1026) / 2) else some (8, (j - 1026) / 2))
  else if j < 1106 then some (9, j - 1074)
  else if j < 1346 then (if (j - 1106) % 60 < 8 then some (17 + 4 * ((j - 1106) / 60), (j - 1106) % 60)
    else if (j - 1106) % 60 < 11 then some (16 + 4 * ((j - 1106) / 60), (j - 1106) % 60 - 7)
    else if (j - 1106) % 60 < 13 then some (16 + 4 * ((j - 1106) / 60), (j - 1106) % 60 - 6)
    else if (j - 1106) % 60 < 17 then some (16 + 4 * ((j - 1106) / 60), (j - 1106) % 60 - 5)
    else if (j - 1106) % 60 < 20 then none
    else if (j - 1106) % 60 < 36 then some (18 + 4 * ((j - 1106) / 60), (j - 1106) % 60 - 20)
    else if (j - 1106) % 60 < 52 then some (19 + 4 * ((j - 1106) / 60), (j - 1106) % 60 - 36) else none)
  else if j < 4146 then some (14, j - 1346) else if j < 4162 then some (12, j - 4146) else if j < 4170 then some (13, j - 4162) else if j < 4210 then some (15, j - 4170)
  else if j = 4210 then some (1, 0) else if j = 4211 then some (1, 3) else if j = 4212 then some (1, 7) else if j = 4213 then some (1, 10) else if j = 4214 then some (0, 4) else if j = 4215 then some (11, 1) else if j = 4216 then some (11, 3) else if j = 4217 then some (0, 6) else if j = 4218 then some (11, 4) else if j = 4219 then some (11, 5) else none
/-- back from a place to the index -/
def locI (c p : Nat) : Nat :=
  if c = 3 then p else if c = 2 then 960 + p else if c = 4 then 966 + 6 * p else if c = 5 then 967 + 6 * p else if c = 6 then 968 + 6 * (p / 4) + p % 4
  else if c = 7 then 1026 + 2 * p else if c = 8 then 1027 + 2 * p else if c = 9 then 1074 + p else if c = 14 then 1346 + p else if c = 12 then 4146 + p else if c = 13 then 4162 + p else if c = 15 then 4170 + p
  else if c = 1 then (if p = 0 then 4210 else if p = 3 then 4211 else if p = 7 then 4212 else 4213)
  else if c = 0 then (if p = 4 then 4214 else 4217)
  else if c = 11 then (if p = 1 then 4215 else if p = 3 then 4216 else if p = 4 then 4218 else 4219)
  else 1106 + 60 * ((c - 16) / 4) + (if (c - 16) % 4 = 0 then (if p < 4 then p + 7 else if p < 7 then p + 6 else p + 5) else if (c - 16) % 4 = 1 then p else if (c - 16) % 4 = 2 then p + 20 else p + 36)
set_option maxRecDepth 1000000 in
theorem loc_back : ∀ j, j < 4230 → (match loc j with | none => true | some q => locI q.1 q.2 == j && decide (q.1 < 32)) = true := by decide +kernel
theorem loc_inj {i j c p : Nat} (hi : i < 4230) (hj : j < 4230) (h1 : loc i = some (c, p)) (h2 : loc j = some (c, p)) : i = j := by
  have a := loc_back i hi
  have b := loc_back j hj
  rw [h1] at a
  rw [h2] at b
  simp at a b
  omega
/-- operands that aren't looked at are 0 in the class -/
def nl (N : Nat → Int32) (j r : Nat) : Int32 := if r = 0 then N j else if r = 3 then (if N (j - 3) = 1 ∨ N (j - 3) = 2 ∨ N (j - 3) = 3 then N j else 0) else if N (j - r) = 7 then 0 else N j
def nv (N : Nat → Int32) (j : Nat) : Int32 := if j < 960 then nl N j (j % 4) else if 966 ≤ j ∧ j < 1026 ∧ 2 ≤ (j - 966) % 6 then nl N j ((j - 966) % 6 - 2) else N j
def Rep (k : Nat) (N : Nat → Int32) (I : Nat → Nat → Int32) : Prop := ∀ j, j < 4230 → ∀ c p, loc j = some (c, p) → I (k + c) p = nv N j
def upN (N : Nat → Int32) (j : Nat) (v : Int32) : Nat → Int32 := fun i => if i = j then v else N i
def plainIx (j : Nat) : Prop := 960 ≤ j ∧ ¬ (966 ≤ j ∧ j < 1026 ∧ 2 ≤ (j - 966) % 6)
theorem nv_plain {N : Nat → Int32} {j : Nat} (h : plainIx j) : nv N j = N j := by
  unfold plainIx at h
  simp only [nv]
  rw [if_neg (by omega), if_neg h.2]
theorem nv_up {N : Nat → Int32} {j : Nat} {v : Int32} (h : plainIx j) (i : Nat) (hij : i ≠ j) : nv (upN N j v) i = nv N i := by
  unfold plainIx at h
  have hup : ∀ a, a ≠ j → upN N j v a = N a := fun a ha => by simp [upN, ha]
  simp only [nv]
  by_cases h1 : i < 960
  · rw [if_pos h1, if_pos h1]
    simp only [nl]
    rw [hup i hij, hup (i - 3) (by omega), hup (i - i % 4) (by omega)]
  · rw [if_neg h1, if_neg h1]
    by_cases h2 : 966 ≤ i ∧ i < 1026 ∧ 2 ≤ (i - 966) % 6
    · rw [if_pos h2, if_pos h2]
      simp only [nl]
      rw [hup i hij]
      by_cases h5 : (i - 966) % 6 - 2 = 3
      · rw [hup (i - 3) (by omega)]
        simp [h5]
      · have := hup (i - ((i - 966) % 6 - 2)) (by omega)
        rw [this]
        simp [h5]
    · rw [if_neg h2, if_neg h2, hup i hij]
/-- one number written on both sides -/
theorem rep_up {k : Nat} {N : Nat → Int32} {M : Mem} {j c p : Nat} {v : Int32} (h : Rep k N M.1) (hj : j < 4230) (hl : loc j = some (c, p)) (hp : plainIx j) : Rep k (upN N j v) (uI M (k + c) p v).1 := by
  intro i hi c' p' hl'
  show (if k + c' = k + c ∧ p' = p then v else M.1 (k + c') p') = _
  by_cases hq : k + c' = k + c ∧ p' = p
  · obtain ⟨h1, rfl⟩ := hq
    have h1 : c' = c := by omega
    subst h1
    have hij := loc_inj hi hj hl' hl
    subst hij
    rw [if_pos ⟨rfl, rfl⟩, nv_plain hp]
    simp [upN]
  · rw [if_neg hq]
    have hij : i ≠ j := by
      rintro rfl
      rw [hl] at hl'
      cases hl'
      exact hq ⟨rfl, rfl⟩
    rw [nv_up hp i hij]
    exact h i hi c' p' hl'
theorem rep_at {k : Nat} {N : Nat → Int32} {I : Nat → Nat → Int32} (h : Rep k N I) {j c p : Nat} (hj : j < 4230) (hl : loc j = some (c, p)) (hp : plainIx j) : I (k + c) p = N j := by
  rw [h j hj c p hl, nv_plain hp]

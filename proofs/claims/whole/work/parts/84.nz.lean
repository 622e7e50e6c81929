/-! fit: the runs that are asked, and how far costs are from them -/
abbrev selF (N : Nat → Int32) (m : Int32) (r : Nat) : Prop := onM N m r ∧ N (1346 + 14 * r + 13) = 0
def scF (N : Nat → Int32) (m : Int32) : Nat → Nat
  | 0 => 0
  | r + 1 => if selF N m r then scF N m r + 1 else scF N m r
def rlF (N : Nat → Int32) (m : Int32) : Nat → Nat → Nat
  | 0 => fun _ => 0
  | r + 1 => if selF N m r then (fun k => if k = scF N m r then r else rlF N m r k) else rlF N m r
section FIT
variable {N : Nat → Int32} {m : Int32}
theorem scF_t {r : Nat} (h : selF N m r) : scF N m (r + 1) = scF N m r + 1 := if_pos h
theorem scF_f {r : Nat} (h : ¬ selF N m r) : scF N m (r + 1) = scF N m r := if_neg h
theorem scF_le : ∀ r, scF N m r ≤ r := by
  intro r
  induction r with
  | zero => exact Nat.le_refl 0
  | succ r ih =>
    by_cases h : selF N m r
    · rw [scF_t h]; omega
    · rw [scF_f h]; omega
theorem scF_mono : ∀ d r, scF N m r ≤ scF N m (r + d) := by
  intro d
  induction d with
  | zero => intro r; exact Nat.le_refl _
  | succ d ih =>
    intro r
    have := ih r
    rw [← Nat.add_assoc]
    by_cases h : selF N m (r + d)
    · rw [scF_t h]; omega
    · rw [scF_f h]; exact this
theorem rlF_lt : ∀ r k, k < scF N m r → rlF N m r k < r := by
  intro r
  induction r with
  | zero => intro k hk; exact absurd hk (by show ¬ k < 0; omega)
  | succ r ih =>
    intro k hk
    by_cases h : selF N m r
    · rw [scF_t h] at hk
      unfold rlF
      rw [if_pos h]
      by_cases e : k = scF N m r
      · simp [e]
      · simp only [e, if_false]
        have := ih k (by omega)
        omega
    · rw [scF_f h] at hk
      unfold rlF
      rw [if_neg h]
      have := ih k hk
      omega
theorem rlF_k : ∀ d r k, k < scF N m r → rlF N m (r + d) k = rlF N m r k := by
  intro d
  induction d with
  | zero => intro r k _; rfl
  | succ d ih =>
    intro r k hk
    have := ih r k hk
    have hm := scF_mono (N := N) (m := m) d r
    rw [← Nat.add_assoc]
    rw [← this]
    by_cases h : selF N m (r + d)
    · rw [rlF, if_pos h]
      have e : ¬ k = scF N m (r + d) := by omega
      simp only [e, if_false]
    · rw [rlF, if_neg h]
/-- a run that is asked stands at its number -/
theorem rlF_at {r R : Nat} (h : selF N m r) (hr : r < R) : rlF N m R (scF N m r) = r ∧ scF N m r < scF N m R := by
  have hm := scF_mono (N := N) (m := m) (R - (r + 1)) (r + 1)
  rw [show r + 1 + (R - (r + 1)) = R from by omega, scF_t h] at hm
  have := rlF_k (N := N) (m := m) (R - (r + 1)) (r + 1) (scF N m r) (by rw [scF_t h]; omega)
  rw [show r + 1 + (R - (r + 1)) = R from by omega] at this
  refine ⟨?_, by omega⟩
  rw [this]
  unfold rlF
  rw [if_pos h]
  simp
end FIT
/-- what a run's time is off from costs, as a number -/
def offI (N : Nat → Int32) (c0 c1 c2 x y z r : Nat) : Int := (N (1346 + 14 * r + 5)).toInt - (x : Int) * (N (1346 + 14 * r + c0)).toInt - (y : Int) * (N (1346 + 14 * r + c1)).toInt - (z : Int) * (N (1346 + 14 * r + c2)).toInt
def fsF (g : Nat → Int) : Nat → Nat
  | 0 => 0
  | k + 1 => fsF g k + (g k).natAbs
theorem mul_bd {x : Nat} {a : Int} (hx : x ≤ 12) (ha : 0 ≤ a ∧ a ≤ 2000) : 0 ≤ (x : Int) * a ∧ (x : Int) * a ≤ 24000 := by
  have e : (x : Int) * a = ((x * a.toNat : Nat) : Int) := by
    rw [Int.natCast_mul]
    congr 1
    omega
  have : x * a.toNat ≤ 12 * 2000 := Nat.mul_le_mul hx (by omega)
  rw [e]
  omega
theorem cnt_bd {N : Nat → Int32} (hI : InvN N) {r c : Nat} (hr : r < 200) (hc : c < 5) : 0 ≤ (N (1346 + 14 * r + c)).toInt ∧ (N (1346 + 14 * r + c)).toInt ≤ 2000 := by
  have := inv_run hI hr (w := c) (by omega)
  unfold rgR at this
  rw [if_pos hc] at this
  exact this
theorem offI_bd {N : Nat → Int32} (hI : InvN N) {c0 c1 c2 x y z r : Nat} (hr : r < 200) (h0 : c0 < 5) (h1 : c1 < 5) (h2 : c2 < 5) (hx : x ≤ 12) (hy : y ≤ 12) (hz : z ≤ 12) : -72001 ≤ offI N c0 c1 c2 x y z r ∧ offI N c0 c1 c2 x y z r ≤ 10000000 := by
  have t : -1 ≤ (N (1346 + 14 * r + 5)).toInt ∧ (N (1346 + 14 * r + 5)).toInt ≤ 10000000 := inv_run hI hr (by decide)
  have a := mul_bd hx (cnt_bd hI hr h0)
  have b := mul_bd hy (cnt_bd hI hr h1)
  have c := mul_bd hz (cnt_bd hI hr h2)
  unfold offI
  omega
theorem fsF_bd {g : Nat → Int} {n : Nat} (h : ∀ k, k < n → (g k).natAbs ≤ 10000000) : ∀ k, k ≤ n → fsF g k ≤ k * 10000000 := by
  intro k
  induction k with
  | zero => intro _; exact Nat.le_refl 0
  | succ k ih =>
    intro hk
    have := ih (by omega)
    have := h k (by omega)
    rw [fsF, Nat.succ_mul]
    omega
theorem fsF_mono {g : Nat → Int} : ∀ d k, fsF g k ≤ fsF g (k + d) := by
  intro d
  induction d with
  | zero => intro k; exact Nat.le_refl _
  | succ d ih => intro k; have := ih k; rw [← Nat.add_assoc, fsF]; omega
/-- the first least one -/
def fbF (F : Nat → Nat) : Nat → Nat
  | 0 => 0
  | j + 1 => if F j < F (fbF F j) then j else fbF F j
theorem fbF_lt {F : Nat → Nat} : ∀ j, fbF F (j + 1) ≤ j := by
  intro j
  induction j with
  | zero =>
    show (if F 0 < F 0 then 0 else 0) ≤ 0
    split <;> omega
  | succ j ih =>
    show (if F (j + 1) < F (fbF F (j + 1)) then j + 1 else fbF F (j + 1)) ≤ j + 1
    split <;> omega
/-- the sum for cost number k -/
def sumK (N : Nat → Int32) (m : Int32) (c0 c1 c2 R k : Nat) : Nat := fsF (fun i => offI N c0 c1 c2 (k / 169) (k / 13 % 13) (k % 13) (rlF N m R i)) (scF N m R)
def bestK (N : Nat → Int32) (m : Int32) (c0 c1 c2 R : Nat) : Nat := fbF (sumK N m c0 c1 c2 R) 2197

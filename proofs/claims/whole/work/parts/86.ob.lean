/-! the class finds costs -/
theorem s_farn {vx vy vz m : Int32} {enough : Int64} {x y z c0 c1 c2 R : Nat} {M : Mem} {N : Nat → Int32} {q : Int64 → Mem → Prop} (hI : InvN N) (hR2 : R ≤ 200) (hx : vx.toInt = x) (hy : vy.toInt = y) (hz : vz.toInt = z) (x12 : x ≤ 12) (y12 : y ≤ 12) (z12 : z ≤ 12) (h0 : c0 < 5) (h1 : c1 < 5) (h2 : c2 < 5) (hG : GS N m c0 c1 c2 R M) (h : ∀ far : Int64, (far.toInt = ((fsF (fun i => offI N c0 c1 c2 x y z (rlF N m R i)) (scF N m R) : Nat) : Int) ∨ (enough.toInt ≤ far.toInt ∧ far.toInt ≤ ((fsF (fun i => offI N c0 c1 c2 x y z (rlF N m R i)) (scF N m R) : Nat) : Int))) → q far M) : w_X2_farness 60 vx vy vz enough M q := by
  have f0 : (0 : Int32).toInt = 0 := rfl
  have hsc := scF_le (N := N) (m := m) R
  have ob : ∀ k, k < scF N m R → -72001 ≤ offI N c0 c1 c2 x y z (rlF N m R k) ∧ offI N c0 c1 c2 x y z (rlF N m R k) ≤ 10000000 := fun k hk => by
    have := rlF_lt (N := N) (m := m) R k hk
    exact offI_bd hI (by omega) h0 h1 h2 x12 y12 z12
  have fb := fsF_bd (g := fun i => offI N c0 c1 c2 x y z (rlF N m R i)) (n := scF N m R) (fun k hk => by have := ob k hk; show (offI N c0 c1 c2 x y z (rlF N m R k)).natAbs ≤ _; omega)
  unfold w_X2_farness w_X2_farness_l6
  refine lfp_for (i0 := 0) (n := scF N m R) (fun (i : Nat) (t : Int64 × Int32 × Mem) => t.2.1.toInt = (i : Int) ∧ t.2.2 = M ∧ t.1.toInt = ((fsF (fun i => offI N c0 c1 c2 x y z (rlF N m R i)) i : Nat) : Int)) ?_ (by omega) ⟨rfl, rfl, rfl⟩
  intro P i st hi hJ hP
  obtain ⟨v6, v8, M1⟩ := st
  obtain ⟨a0, b0, d0⟩ := hJ
  have h8 : v8.toInt = (i : Int) := a0
  have hM : M1 = M := b0
  have h6 : v6.toInt = ((fsF (fun i => offI N c0 c1 c2 x y z (rlF N m R i)) i : Nat) : Int) := d0
  clear a0 b0 d0
  subst hM
  unfold w_X2_farness_l6F
  dsimp only
  rw [le_i, hG.1, h8, le_j]
  refine ⟨fun z1 => ?_, fun z1 => ⟨fun z2 => h v6 (Or.inr ⟨z2, ?_⟩), fun z2 => ?_⟩⟩
  · have e : i = scF N m R := by omega
    subst e
    exact h v6 (Or.inl h6)
  · have := fsF_mono (g := fun i => offI N c0 c1 c2 x y z (rlF N m R i)) (scF N m R - i) i
    rw [show i + (scF N m R - i) = scF N m R from by omega] at this
    omega
  · have hil : i < scF N m R := by omega
    have g := hG.2 i hil
    have ob1 := ob i hil
    have hrl := rlF_lt (N := N) (m := m) R i hil
    have t : -1 ≤ (N (1346 + 14 * rlF N m R i + 5)).toInt ∧ (N (1346 + 14 * rlF N m R i + 5)).toInt ≤ 10000000 := inv_run hI (by omega) (by decide)
    have ba := mul_bd x12 (cnt_bd hI (r := rlF N m R i) (c := c0) (by omega) h0)
    have bb := mul_bd y12 (cnt_bd hI (r := rlF N m R i) (c := c1) (by omega) h1)
    have bc := mul_bd z12 (cnt_bd hI (r := rlF N m R i) (c := c2) (by omega) h2)
    rw [i_of h8, show M1.1 (60 + 7) i = _ from g.2.2.2.2, show M1.1 (60 + 4) i = _ from g.2.1, show M1.1 (60 + 5) i = _ from g.2.2.1, show M1.1 (60 + 6) i = _ from g.2.2.2.1]
    have ea : (vx * N (1346 + 14 * rlF N m R i + c0)).toInt = (x : Int) * (N (1346 + 14 * rlF N m R i + c0)).toInt := by rw [← hx] at ba ⊢; exact ti_mul (by omega) (by omega)
    have eb : (vy * N (1346 + 14 * rlF N m R i + c1)).toInt = (y : Int) * (N (1346 + 14 * rlF N m R i + c1)).toInt := by rw [← hy] at bb ⊢; exact ti_mul (by omega) (by omega)
    have ec : (vz * N (1346 + 14 * rlF N m R i + c2)).toInt = (z : Int) * (N (1346 + 14 * rlF N m R i + c2)).toInt := by rw [← hz] at bc ⊢; exact ti_mul (by omega) (by omega)
    have eo : (N (1346 + 14 * rlF N m R i + 5) - vx * N (1346 + 14 * rlF N m R i + c0) - vy * N (1346 + 14 * rlF N m R i + c1) - vz * N (1346 + 14 * rlF N m R i + c2)).toInt = offI N c0 c1 c2 x y z (rlF N m R i) := by
      have s1 : (N (1346 + 14 * rlF N m R i + 5) - vx * N (1346 + 14 * rlF N m R i + c0)).toInt = (N (1346 + 14 * rlF N m R i + 5)).toInt - (x : Int) * (N (1346 + 14 * rlF N m R i + c0)).toInt := by rw [ti_sub (by omega) (by omega), ea]
      have s2 : (N (1346 + 14 * rlF N m R i + 5) - vx * N (1346 + 14 * rlF N m R i + c0) - vy * N (1346 + 14 * rlF N m R i + c1)).toInt = (N (1346 + 14 * rlF N m R i + 5)).toInt - (x : Int) * (N (1346 + 14 * rlF N m R i + c0)).toInt - (y : Int) * (N (1346 + 14 * rlF N m R i + c1)).toInt := by rw [ti_sub (by omega) (by omega), s1, eb]
      rw [ti_sub (by omega) (by omega), s2, ec]
      rfl
    generalize N (1346 + 14 * rlF N m R i + 5) - vx * N (1346 + 14 * rlF N m R i + c0) - vy * N (1346 + 14 * rlF N m R i + c1) - vz * N (1346 + 14 * rlF N m R i + c2) = o at eo
    have ei : (iabs o).toInt64.toInt = ((offI N c0 c1 c2 x y z (rlF N m R i)).natAbs : Int) := by
      rw [Int32.toInt_toInt64]
      unfold iabs
      by_cases k : (0 : Int32) ≤ o
      · rw [if_pos k, eo]
        rw [le_i, f0, eo] at k
        omega
      · rw [if_neg k, ti_sub (by rw [f0, eo]; omega) (by rw [f0, eo]; omega), eo, f0]
        rw [le_i, f0, eo] at k
        omega
    refine ⟨vp_of h8 (by omega), vp_of h8 (by omega), vp_of h8 (by omega), vp_of h8 (by omega), fun x7 e7 x8 e8 => ?_⟩
    have fbi := fb i (by omega)
    refine hP (x7, x8, M1) hil ⟨?_, rfl, ?_⟩
    · show x8.toInt = ((i + 1 : Nat) : Int)
      rw [e8]; exact ix_a h8 rfl (by omega)
    · show x7.toInt = ((fsF (fun i => offI N c0 c1 c2 x y z (rlF N m R i)) (i + 1) : Nat) : Int)
      rw [e7, tj_add (by omega) (by omega), h6, ei, fsF]
      show _ = ((_ + (offI N c0 c1 c2 x y z (rlF N m R i)).natAbs : Nat) : Int)
      omega
/-- the best costs so far stand -/
def BS (F : Nat → Nat) (b : Nat) (M : Mem) : Prop := (M.1 61 0).toInt = ((b / 169 : Nat) : Int) ∧ (M.1 61 1).toInt = ((b / 13 % 13 : Nat) : Int) ∧ (M.1 61 2).toInt = ((b % 13 : Nat) : Int) ∧ (M.2.1 60 1).toInt = (F b : Int)
theorem s_ftake {vx vy vz : Int32} {far : Int64} {F : Nat → Nat} {b x y z : Nat} {M : Mem} {q : Mem → Prop} (hx : vx.toInt = x) (hy : vy.toInt = y) (hz : vz.toInt = z) (e1 : b / 169 = x) (e2 : b / 13 % 13 = y) (e3 : b % 13 = z) (e4 : far.toInt = (F b : Int)) (h : ∀ M', BS F b M' → (∀ a, a ≠ 61 → M'.1 a = M.1 a) → FrF M M' → q M') : w_X2_take 60 vx vy vz far M q := by
  unfold w_X2_take
  intro M1 f1 M2 f2 M3 f3 M4 f4
  refine h M4 ⟨?_, ?_, ?_, ?_⟩ (fun a ha => ?_) ?_
  · rw [e1, f4]; show (M3.1 61 0).toInt = _; rw [f3, uI_j (by decide), f2, uI_j (by decide), f1, uI_s]; exact hx
  · rw [e2, f4]; show (M3.1 61 1).toInt = _; rw [f3, uI_j (by decide), f2, uI_s]; exact hy
  · rw [e3, f4]; show (M3.1 61 2).toInt = _; rw [f3, uI_s]; exact hz
  · rw [f4]; simp [uJ]; exact e4
  · rw [f4]; show M3.1 a = _; funext b; rw [f3, uI_k ha, f2, uI_k ha, f1, uI_k ha]
  · rw [f4, f3, f2, f1]
    exact ((frf_u (by decide)).tr ((frf_u (by decide)).tr (frf_u (by decide)))).tr frf_j

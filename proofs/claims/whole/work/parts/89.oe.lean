/-! fit, both sides -/
theorem j_of {a : Int64} {z : Int} (h : a.toInt = z) : a = Int64.ofInt z := by rw [← h, Int64.ofInt_toInt]
/-- the run that is farthest off, and how far -/
def fhF (g : Nat → Int) (rl : Nat → Nat) : Nat → Int32 × Int
  | 0 => (-1, -1)
  | k + 1 => if (fhF g rl k).2 < ((g k).natAbs : Int) then (Int32.ofNat (rl k), ((g k).natAbs : Int)) else fhF g rl k
theorem fhF_bd {g : Nat → Int} {rl : Nat → Nat} {n : Nat} (h : ∀ k, k < n → (g k).natAbs ≤ 10000000) : ∀ k, k ≤ n → -1 ≤ (fhF g rl k).2 ∧ (fhF g rl k).2 ≤ 10000000 := by
  intro k
  induction k with
  | zero => intro _; exact ⟨by show (-1 : Int) ≤ -1; decide, by show (-1 : Int) ≤ 10000000; decide⟩
  | succ k ih =>
    intro hk
    have := ih (by omega)
    have hb := h k (by omega)
    unfold fhF
    split
    · show -1 ≤ ((g k).natAbs : Int) ∧ ((g k).natAbs : Int) ≤ _; omega
    · exact this
def bOff (N : Nat → Int32) (m : Int32) (c0 c1 c2 R : Nat) : Nat → Int := fun i => offI N c0 c1 c2 (bestK N m c0 c1 c2 R / 169) (bestK N m c0 c1 c2 R / 13 % 13) (bestK N m c0 c1 c2 R % 13) (rlF N m R i)
abbrev okFit (m v0 v1 v2 w : Int32) : Prop := okI m 4 ∧ okCnt v0 v1 v2 ∧ okI w 5
def fitV (N : Nat → Int32) (m : Int32) (c0 c1 c2 R : Nat) (w : Int) : Int64 := Int64.ofInt (if w = 0 then ((bestK N m c0 c1 c2 R / 169 : Nat) : Int) else if w = 1 then ((bestK N m c0 c1 c2 R / 13 % 13 : Nat) : Int) else if w = 2 then ((bestK N m c0 c1 c2 R % 13 : Nat) : Int) else if w = 3 then ((sumK N m c0 c1 c2 R (bestK N m c0 c1 c2 R) : Nat) : Int) else (fhF (bOff N m c0 c1 c2 R) (rlF N m R) (scF N m R)).1.toInt)
def spFit (m v0 v1 v2 w : Int32) (N : Nat → Int32) : Int64 := if okFit m v0 v1 v2 w then fitV N m v0.toInt.toNat v1.toInt.toNat v2.toInt.toNat (N 4214).toInt.toNat w.toInt else -2
theorem best_lt {N : Nat → Int32} {m : Int32} {c0 c1 c2 R : Nat} : bestK N m c0 c1 c2 R ≤ 2196 := fbF_lt 2196
theorem bOff_bd {N : Nat → Int32} (hI : InvN N) {m : Int32} {c0 c1 c2 R : Nat} (hR : R ≤ 200) (h0 : c0 < 5) (h1 : c1 < 5) (h2 : c2 < 5) {k : Nat} (hk : k < scF N m R) : -72001 ≤ bOff N m c0 c1 c2 R k ∧ bOff N m c0 c1 c2 R k ≤ 10000000 := by
  have hl := rlF_lt (N := N) (m := m) R k hk
  have hb := best_lt (N := N) (m := m) (c0 := c0) (c1 := c1) (c2 := c2) (R := R)
  exact offI_bd hI (by omega) h0 h1 h2 (by omega) (by omega) (by omega)
/-- what the best costs make of three counts, in the class -/
theorem made_i {N : Nat → Int32} {m : Int32} {c0 c1 c2 R : Nat} {M : Mem} {F : Nat → Nat} {A B C : Int32} (hB : BS F (bestK N m c0 c1 c2 R) M) (ha : 0 ≤ A.toInt ∧ A.toInt ≤ 2000) (hb : 0 ≤ B.toInt ∧ B.toInt ≤ 2000) (hc : 0 ≤ C.toInt ∧ C.toInt ≤ 2000) : ((M.1 61 0 * A + M.1 61 1 * B) + M.1 61 2 * C).toInt = ((bestK N m c0 c1 c2 R / 169 : Nat) : Int) * A.toInt + ((bestK N m c0 c1 c2 R / 13 % 13 : Nat) : Int) * B.toInt + ((bestK N m c0 c1 c2 R % 13 : Nat) : Int) * C.toInt ∧ 0 ≤ ((M.1 61 0 * A + M.1 61 1 * B) + M.1 61 2 * C).toInt ∧ ((M.1 61 0 * A + M.1 61 1 * B) + M.1 61 2 * C).toInt ≤ 72000 := by
  have bk := best_lt (N := N) (m := m) (c0 := c0) (c1 := c1) (c2 := c2) (R := R)
  obtain ⟨b0, b1, b2, _⟩ := hB
  generalize bestK N m c0 c1 c2 R = b at *
  have p0 := mul_bd (x := b / 169) (by omega) ha
  have p1 := mul_bd (x := b / 13 % 13) (by omega) hb
  have p2 := mul_bd (x := b % 13) (by omega) hc
  have e0 : (M.1 61 0 * A).toInt = ((b / 169 : Nat) : Int) * A.toInt := by rw [← b0] at p0 ⊢; exact ti_mul (by omega) (by omega)
  have e1 : (M.1 61 1 * B).toInt = ((b / 13 % 13 : Nat) : Int) * B.toInt := by rw [← b1] at p1 ⊢; exact ti_mul (by omega) (by omega)
  have e2 : (M.1 61 2 * C).toInt = ((b % 13 : Nat) : Int) * C.toInt := by rw [← b2] at p2 ⊢; exact ti_mul (by omega) (by omega)
  have s1 : (M.1 61 0 * A + M.1 61 1 * B).toInt = ((b / 169 : Nat) : Int) * A.toInt + ((b / 13 % 13 : Nat) : Int) * B.toInt := by rw [ti_add (by omega) (by omega), e0, e1]
  have s2 : ((M.1 61 0 * A + M.1 61 1 * B) + M.1 61 2 * C).toInt = ((b / 169 : Nat) : Int) * A.toInt + ((b / 13 % 13 : Nat) : Int) * B.toInt + ((b % 13 : Nat) : Int) * C.toInt := by rw [ti_add (by omega) (by omega), s1, e2]
  refine ⟨s2, ?_, ?_⟩ <;> rw [s2] <;> omega
theorem c_fit {m v0 v1 v2 w : Int32} {M : Mem} {N : Nat → Int32} {q : Int64 → Mem → Prop} (hR : Rep 1 N M.1) (hI : InvN N) (h : ∀ M', FQ M M' → q (spFit m v0 v1 v2 w N) M') : w_X11_fit m v0 v1 v2 w M q := by
  have i4 : 0 ≤ (N 4214).toInt ∧ (N 4214).toInt ≤ 200 := hI.1 4214 (by decide)
  have bad : ¬ okFit m v0 v1 v2 w → q (-2) M := fun n => by have := h M (FQ.rf M); unfold spFit at this; rw [if_neg n] at this; exact this
  have f4 : (4 : Int32).toInt = 4 := rfl
  have f5 : (5 : Int32).toInt = 5 := rfl
  have f3 : (3 : Int32).toInt = 3 := rfl
  have f0 : (0 : Int32).toInt = 0 := rfl
  unfold w_X11_fit
  simp only [e_isOut, e_areNoCounts, tf_z, Classical.not_not, f4, f5]
  refine ⟨fun n => bad (fun x => n x.1), fun k1 => ⟨fun n => bad (fun x => n x.2.1), fun k2 => ⟨fun k3 => ?_, fun n => bad (fun x => n x.2.2)⟩⟩⟩
  unfold spFit at h
  rw [if_pos ⟨k1, k2, k3⟩] at h
  refine s_find hR hI k2.1 k2.2.1 k2.2.2.1 (fun M10 G A B F => ?_)
  have h := h M10 F.q
  have h0 : v0.toInt.toNat < 5 := by have := k2.1; omega
  have h1 : v1.toInt.toNat < 5 := by have := k2.2.1; omega
  have h2 : v2.toInt.toNat < 5 := by have := k2.2.2.1; omega
  have hR2 : (N 4214).toInt.toNat ≤ 200 := by omega
  generalize v0.toInt.toNat = c0 at *
  generalize v1.toInt.toNat = c1 at *
  generalize v2.toInt.toNat = c2 at *
  generalize (N 4214).toInt.toNat = R at *
  unfold fitV at h
  rw [le_i, f3]
  refine ⟨fun w3 => ⟨fun n3 => ?_, fun e3 => ?_⟩, fun w3 => ?_⟩
  · have n3' : ¬ w.toInt = 3 := fun x => n3 (eq_i.mpr x)
    rw [if_neg (by omega), if_neg (by omega), if_neg (by omega), if_neg n3'] at h
    have hsc := scF_le (N := N) (m := m) R
    have ob := fun k hk => bOff_bd hI (m := m) hR2 h0 h1 h2 (k := k) hk
    have fbd := fhF_bd (g := bOff N m c0 c1 c2 R) (rl := rlF N m R) (n := scF N m R) (fun k hk => by have := ob k hk; omega)
    unfold w_X2_farthest w_X2_farthest_l6
    refine lfp_for (i0 := 0) (n := scF N m R) (fun (k : Nat) (t : Int32 × Int32 × Int32 × Mem) => t.2.2.1.toInt = (k : Int) ∧ t.2.2.2 = M10 ∧ t.1 = (fhF (bOff N m c0 c1 c2 R) (rlF N m R) k).1 ∧ t.2.1.toInt = (fhF (bOff N m c0 c1 c2 R) (rlF N m R) k).2) ?_ (by omega) ⟨rfl, rfl, rfl, rfl⟩
    intro P k st hk hJ hP
    obtain ⟨r1, r2, r3, M1⟩ := st
    obtain ⟨a0, b0, d0, e0⟩ := hJ
    have q3 : r3.toInt = (k : Int) := a0
    have hM : M1 = M10 := b0
    have q1 : r1 = (fhF (bOff N m c0 c1 c2 R) (rlF N m R) k).1 := d0
    have q2 : r2.toInt = (fhF (bOff N m c0 c1 c2 R) (rlF N m R) k).2 := e0
    clear a0 b0 d0 e0
    subst hM
    unfold w_X2_farthest_l6F w_X2_farthest_b64 w_X2_made
    dsimp only
    rw [le_i, G.1, q3]
    refine ⟨fun z => ?_, fun z => ?_⟩
    · have e : k = scF N m R := by omega
      subst e
      have : r1.toInt64 = Int64.ofInt (fhF (bOff N m c0 c1 c2 R) (rlF N m R) (scF N m R)).1.toInt := j_of (by rw [Int32.toInt_toInt64, q1])
      rw [this]
      exact h
    · have hkl : k < scF N m R := by omega
      have g := G.2 k hkl
      have hl := rlF_lt (N := N) (m := m) R k hkl
      have o1 := ob k hkl
      rw [i_of q3, show M1.1 (60 + 4) k = _ from g.2.1, show M1.1 (60 + 5) k = _ from g.2.2.1, show M1.1 (60 + 6) k = _ from g.2.2.2.1, show M1.1 (60 + 7) k = _ from g.2.2.2.2]
      have mi := made_i B (cnt_bd hI (r := rlF N m R k) (c := c0) (by omega) h0) (cnt_bd hI (r := rlF N m R k) (c := c1) (by omega) h1) (cnt_bd hI (r := rlF N m R k) (c := c2) (by omega) h2)
      have t : -1 ≤ (N (1346 + 14 * rlF N m R k + 5)).toInt ∧ (N (1346 + 14 * rlF N m R k + 5)).toInt ≤ 10000000 := inv_run hI (by omega) (by decide)
      refine ⟨vp_of q3 (by omega), vp_of q3 (by omega), vp_of q3 (by omega), vp_of q3 (by omega), fun x9 e9 => ?_⟩
      have eo : (N (1346 + 14 * rlF N m R k + 5) - (M1.1 (60 + 1) 0 * N (1346 + 14 * rlF N m R k + c0) + M1.1 (60 + 1) 1 * N (1346 + 14 * rlF N m R k + c1) + M1.1 (60 + 1) 2 * N (1346 + 14 * rlF N m R k + c2))).toInt = bOff N m c0 c1 c2 R k := by
        rw [ti_sub (by show _ ≤ _ - ((M1.1 61 0 * _ + M1.1 61 1 * _) + M1.1 61 2 * _).toInt; omega) (by show _ - ((M1.1 61 0 * _ + M1.1 61 1 * _) + M1.1 61 2 * _).toInt < _; omega)]
        show _ - ((M1.1 61 0 * _ + M1.1 61 1 * _) + M1.1 61 2 * _).toInt = _
        rw [mi.1]
        unfold bOff offI
        omega
      have ei : x9.toInt = ((bOff N m c0 c1 c2 R k).natAbs : Int) := by
        rw [e9]
        generalize N (1346 + 14 * rlF N m R k + 5) - (M1.1 (60 + 1) 0 * N (1346 + 14 * rlF N m R k + c0) + M1.1 (60 + 1) 1 * N (1346 + 14 * rlF N m R k + c1) + M1.1 (60 + 1) 2 * N (1346 + 14 * rlF N m R k + c2)) = o at eo
        unfold iabs
        by_cases kk : (0 : Int32) ≤ o
        · rw [if_pos kk, eo]
          rw [le_i, f0, eo] at kk
          omega
        · rw [if_neg kk, ti_sub (by rw [f0, eo]; omega) (by rw [f0, eo]; omega), eo, f0]
          rw [le_i, f0, eo] at kk
          omega
      have next : ∀ (y1 y2 : Int32), y1 = (fhF (bOff N m c0 c1 c2 R) (rlF N m R) (k + 1)).1 → y2.toInt = (fhF (bOff N m c0 c1 c2 R) (rlF N m R) (k + 1)).2 → ∀ x1 : Int32, x1 = r3 + 1 → P (y1, y2, x1, M1) := fun y1 y2 b1 b2 x1 ex1 => by
        refine hP (y1, y2, x1, M1) hkl ⟨?_, rfl, b1, b2⟩
        show x1.toInt = ((k + 1 : Nat) : Int)
        rw [ex1]; exact ix_a q3 rfl (by omega)
      rw [le_i, ei, q2]
      refine ⟨fun kk => next _ _ ?_ ?_, fun kk => ⟨vp_of q3 (by omega), fun x12 e12 => next _ _ ?_ ?_⟩⟩
      · rw [fhF, if_neg (by omega)]; exact q1
      · rw [fhF, if_neg (by omega)]; exact q2
      · rw [fhF, if_pos (by omega), e12]; exact g.1
      · rw [fhF, if_pos (by omega)]; exact ei
  · have e3' : w.toInt = 3 := by rw [e3]; rfl
    rw [if_neg (by omega), if_neg (by omega), if_neg (by omega), if_pos e3'] at h
    rw [j_of B.2.2.2]
    exact h
  · have Ew := ix_n k3.1
    refine ⟨vp_of Ew (by omega), ?_⟩
    have hc : w.toInt = 0 ∨ w.toInt = 1 ∨ w.toInt = 2 := by omega
    rw [tn_eq]
    rcases hc with e | e | e
    · rw [if_pos e] at h
      rw [e, j_of (show (M10.1 61 (0 : Int).toNat).toInt64.toInt = ((bestK N m c0 c1 c2 R / 169 : Nat) : Int) from (Int32.toInt_toInt64 _).trans B.1)]
      exact h
    · rw [if_neg (by omega), if_pos e] at h
      rw [e, j_of (show (M10.1 61 (1 : Int).toNat).toInt64.toInt = ((bestK N m c0 c1 c2 R / 13 % 13 : Nat) : Int) from (Int32.toInt_toInt64 _).trans B.2.1)]
      exact h
    · rw [if_neg (by omega), if_neg (by omega), if_pos e] at h
      rw [e, j_of (show (M10.1 61 (2 : Int).toNat).toInt64.toInt = ((bestK N m c0 c1 c2 R % 13 : Nat) : Int) from (Int32.toInt_toInt64 _).trans B.2.2.1)]
      exact h

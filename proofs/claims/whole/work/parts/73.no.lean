/-! how far numbers are from their middle -/
def bgF (D : Nat → Int32) (a : Nat) : Nat → Nat → Int32
  | 0 => fun _ => 0
  | k + 1 => insF k (bgF D a k) (D (a + k))
def dst (x o : Int32) : Int32 := if x.toInt ≤ o.toInt then o - x else x - o
def frS (D : Nat → Int32) (o : Int32) (a : Nat) : Nat → Int32
  | 0 => 0
  | k + 1 => frS D o a k + dst (D (a + k)) o
def farF (D : Nat → Int32) (a b : Nat) : Int32 := frS D (mid (b - a) (bgF D a (b - a))) a (b - a)
/-- numbers within bounds -/
def wIn (f : Nat → Int32) (n : Nat) : Prop := ∀ i, i < n → -1 ≤ (f i).toInt ∧ (f i).toInt ≤ 10000000
theorem wIn_ins {f : Nat → Int32} {n : Nat} {v : Int32} (h : wIn f n) (hv : -1 ≤ v.toInt ∧ v.toInt ≤ 10000000) : wIn (insF n f v) (n + 1) := by
  intro i hi
  have hs := stp_le (f := f) (v := v) n
  unfold insF
  by_cases k : i < stp f v n
  · rw [if_pos k]; exact h i (by omega)
  · rw [if_neg k]
    by_cases e : i = stp f v n
    · rw [if_pos e]; exact hv
    · rw [if_neg e]; exact h _ (by omega)
theorem wIn_mid {f : Nat → Int32} {n : Nat} (h : wIn f n) (h0 : 0 < n) : -1 ≤ (mid n f).toInt ∧ (mid n f).toInt ≤ 10000000 := by
  unfold mid
  by_cases k : n % 2 = 1
  · rw [if_pos k]; exact h _ (by omega)
  · rw [if_neg k]
    have a := h (n / 2 - 1) (by omega)
    have b := h (n / 2) (by omega)
    have f2 : (2 : Int32).toInt = 2 := rfl
    have es : (f (n / 2 - 1) + f (n / 2)).toInt = (f (n / 2 - 1)).toInt + (f (n / 2)).toInt := ti_add (by omega) (by omega)
    rw [ti_div (by decide) (by omega), f2, es]
    have hx : -2 ≤ (f (n / 2 - 1)).toInt + (f (n / 2)).toInt ∧ (f (n / 2 - 1)).toInt + (f (n / 2)).toInt ≤ 20000000 := by omega
    generalize (f (n / 2 - 1)).toInt + (f (n / 2)).toInt = x at hx
    by_cases k : 0 ≤ x
    · rw [Int.tdiv_eq_ediv_of_nonneg k]; omega
    · have : x = -(-x) := by omega
      rw [this, Int.neg_tdiv, Int.tdiv_eq_ediv_of_nonneg (by omega)]
      omega
theorem wIn_bg {D : Nat → Int32} {a : Nat} : ∀ k, (∀ i, i < k → -1 ≤ (D (a + i)).toInt ∧ (D (a + i)).toInt ≤ 10000000) → wIn (bgF D a k) k := by
  intro k
  induction k with
  | zero => intro _ i hi; omega
  | succ k ih => intro h; exact wIn_ins (ih (fun i hi => h i (by omega))) (h k (by omega))
theorem iabs_d {x o : Int32} (hx : -1 ≤ x.toInt ∧ x.toInt ≤ 10000000) (ho : -1 ≤ o.toInt ∧ o.toInt ≤ 10000000) : iabs (x - o) = dst x o := by
  have f0 : (0 : Int32).toInt = 0 := rfl
  have e : (x - o).toInt = x.toInt - o.toInt := ti_sub (by omega) (by omega)
  unfold iabs dst
  refine eq_i.mpr ?_
  by_cases k : x.toInt ≤ o.toInt
  · rw [if_pos k, ti_sub (by omega) (by omega)]
    by_cases z : (0 : Int32) ≤ x - o
    · rw [if_pos z, e]
      rw [le_i, e, f0] at z
      omega
    · rw [if_neg z, ti_sub (by rw [e, f0]; omega) (by rw [e, f0]; omega), e, f0]
      omega
  · rw [if_neg k, if_pos (by rw [le_i, e, f0]; omega)]
theorem s_far11 {v1 v2 : Int32} {a b : Nat} {M : Mem} {D : Nat → Int32} {q : Int32 → Mem → Prop} (h1 : v1.toInt = a) (h2 : v2.toInt = b) (hab : a < b) (hb : b ≤ 24) (hD : ∀ i, i < b → M.1 54 i = D i) (hw : wIn D b) (h : ∀ M', FrB 56 1 57 M M' → q (farF D a b) M') : w_X1_farness 52 v1 v2 M q := by
  unfold w_X1_farness w_X0_clear
  intro M12 e12
  have F12 : FrB 56 1 57 M M12 := by rw [e12]; exact frb_s
  have H12 : Hd 56 1 57 0 (bgF D a 0) M12 := ⟨by rw [e12, uI_s]; rfl, fun i hi => absurd hi (by omega)⟩
  clear e12
  unfold w_X1_farness_l9
  refine lfp_for (i0 := 0) (n := b - a) (fun (i : Nat) (t : Int32 × Mem) => t.1.toInt = ((a + i : Nat) : Int) ∧ Hd 56 1 57 i (bgF D a i) t.2 ∧ FrB 56 1 57 M t.2) ?_ (by omega) ⟨h1, H12, F12⟩
  clear H12 F12
  intro P i st hi hJ hP
  obtain ⟨x, M1⟩ := st
  obtain ⟨hx0, hH0, hF0⟩ := hJ
  have hx : x.toInt = ((a + i : Nat) : Int) := hx0
  have hH : Hd 56 1 57 i (bgF D a i) M1 := hH0
  have hF : FrB 56 1 57 M M1 := hF0
  clear hx0 hH0 hF0
  have hD1 : ∀ i, i < b → M1.1 54 i = D i := fun i hi => by rw [hF.row (by decide) (by decide)]; exact hD i hi
  unfold w_X1_farness_l9F
  dsimp only
  rw [le_i, h2, hx]
  refine ⟨fun z => ?_, fun z => ?_⟩
  · have ei : i = b - a := by omega
    subst ei
    clear P hP
    unfold w_X1_farness_l38
    have wb := wIn_mid (wIn_bg (D := D) (a := a) (b - a) (fun i hi => hw (a + i) (by omega))) (by omega)
    unfold farF at h
    generalize hown : mid (b - a) (bgF D a (b - a)) = own at h wb
    refine lfp_for (i0 := 0) (n := b - a) (fun (i : Nat) (t : Int32 × Int32 × Mem) => t.2.1.toInt = ((a + i : Nat) : Int) ∧ t.2.2 = M1 ∧ t.1 = frS D own a i) ?_ (by omega) ⟨h1, rfl, rfl⟩
    intro P j st hj hJ hP
    obtain ⟨y, x', M2⟩ := st
    obtain ⟨hx0, hM0, hy0⟩ := hJ
    have hx' : x'.toInt = ((a + j : Nat) : Int) := hx0
    have hM : M2 = M1 := hM0
    have hy : y = frS D own a j := hy0
    clear hx0 hM0 hy0
    subst hM
    subst hy
    unfold w_X1_farness_l38F
    dsimp only
    rw [le_i, h2, hx']
    refine ⟨fun z => ?_, fun z => ⟨vp_of hx' (by omega), e_middle hH (by omega) ?_⟩⟩
    · have ej : j = b - a := by omega
      subst ej
      exact h M2 hF
    · rw [if_neg (by omega), hown, i_of hx', show M2.1 (52 + 2) (a + j) = D (a + j) from hD1 _ (by omega), iabs_d (hw _ (by omega)) wb]
      intro x5 e5 x6 e6
      refine hP (x5, x6, M2) (by omega) ⟨?_, rfl, e5⟩
      show x6.toInt = ((a + (j + 1) : Nat) : Int)
      rw [e6, ← Nat.add_assoc]; exact ix_a hx' rfl (by omega)
  · rw [i_of hx, show M1.1 (52 + 2) (a + i) = D (a + i) from hD1 _ (by omega)]
    refine ⟨vp_of hx (by omega), s_add hH (by omega) (fun M9 h9 f9 x11 e11 => ?_)⟩
    refine hP (x11, M9) (by omega) ⟨?_, h9, hF.tr f9⟩
    show x11.toInt = ((a + (i + 1) : Nat) : Int)
    rw [e11, ← Nat.add_assoc]; exact ix_a hx rfl (by omega)
theorem s_far12 {v1 v2 : Int32} {a b : Nat} {M : Mem} {D : Nat → Int32} {q : Int32 → Mem → Prop} (h1 : v1.toInt = a) (h2 : v2.toInt = b) (hab : a < b) (hb : b ≤ 24) (hD : ∀ i, i < b → M.1 146 i = D i) (h : ∀ M', FrB 135 12 145 M M' → q (farF D a b) M') : w_X12_farOf v1 v2 M q := by
  unfold w_X12_farOf
  intro M12 e12
  have F12 : FrB 135 12 145 M M12 := by rw [e12]; exact frb_s
  have H12 : Hd 135 12 145 0 (bgF D a 0) M12 := ⟨by rw [e12, uI_s]; rfl, fun i hi => absurd hi (by omega)⟩
  clear e12
  unfold w_X12_farOf_l7
  refine lfp_for (i0 := 0) (n := b - a) (fun (i : Nat) (t : Int32 × Mem) => t.1.toInt = ((a + i : Nat) : Int) ∧ Hd 135 12 145 i (bgF D a i) t.2 ∧ FrB 135 12 145 M t.2) ?_ (by omega) ⟨h1, H12, F12⟩
  clear H12 F12
  intro P i st hi hJ hP
  obtain ⟨x, M1⟩ := st
  obtain ⟨hx0, hH0, hF0⟩ := hJ
  have hx : x.toInt = ((a + i : Nat) : Int) := hx0
  have hH : Hd 135 12 145 i (bgF D a i) M1 := hH0
  have hF : FrB 135 12 145 M M1 := hF0
  clear hx0 hH0 hF0
  have hD1 : ∀ i, i < b → M1.1 146 i = D i := fun i hi => by rw [hF.row (by decide) (by decide)]; exact hD i hi
  unfold w_X12_farOf_l7F
  dsimp only
  rw [le_i, h2, hx]
  refine ⟨fun z => ?_, fun z => ?_⟩
  · have ei : i = b - a := by omega
    subst ei
    clear P hP
    refine e_middle12 hH (by omega) (by omega) ?_
    unfold farF at h
    generalize mid (b - a) (bgF D a (b - a)) = own at h
    unfold w_X12_farOf_l39
    refine lfp_for (i0 := 0) (n := b - a) (fun (i : Nat) (t : Int32 × Int32 × Mem) => t.2.1.toInt = ((a + i : Nat) : Int) ∧ t.2.2 = M1 ∧ t.1 = frS D own a i) ?_ (by omega) ⟨h1, rfl, rfl⟩
    intro P j st hj hJ hP
    obtain ⟨y, x', M2⟩ := st
    obtain ⟨hx0, hM0, hy0⟩ := hJ
    have hx' : x'.toInt = ((a + j : Nat) : Int) := hx0
    have hM : M2 = M1 := hM0
    have hy : y = frS D own a j := hy0
    clear hx0 hM0 hy0
    subst hM
    subst hy
    unfold w_X12_farOf_l39F w_X12_farOf_b79
    dsimp only
    rw [le_i, h2, hx']
    refine ⟨fun z => ?_, fun z => ?_⟩
    · have ej : j = b - a := by omega
      subst ej
      exact h M2 hF
    · rw [i_of hx', hD1 _ (by omega), le_i]
      have next : ∀ d : Int32, d = dst (D (a + j)) own → ∀ x1 : Int32, x1 = frS D own a j + d → ∀ x2 : Int32, x2 = x' + 1 → P (x1, x2, M2) := fun d ed x5 e5 x6 e6 => by
        refine hP (x5, x6, M2) (by omega) ⟨?_, rfl, ?_⟩
        · show x6.toInt = ((a + (j + 1) : Nat) : Int)
          rw [e6, ← Nat.add_assoc]; exact ix_a hx' rfl (by omega)
        · show x5 = frS D own a j + dst (D (a + j)) own
          rw [e5, ed]
      refine ⟨vp_of hx' (by omega), fun k => ⟨vp_of hx' (by omega), next _ ?_⟩, fun k => ⟨vp_of hx' (by omega), next _ ?_⟩⟩
      · unfold dst; rw [if_pos k]
      · unfold dst; rw [if_neg k]
  · rw [i_of hx, hD1 _ (by omega)]
    refine ⟨vp_of hx (by omega), s_sortIn hH (by omega) (fun M9 h9 f9 x11 e11 => ?_)⟩
    refine hP (x11, M9) (by omega) ⟨?_, h9, hF.tr f9⟩
    show x11.toInt = ((a + (i + 1) : Nat) : Int)
    rw [e11, ← Nat.add_assoc]; exact ix_a hx rfl (by omega)

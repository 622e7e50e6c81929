/-! numbers in order: bag and sorted -/
theorem ti_div {a b : Int32} (h0 : 0 < b.toInt) (h1 : -2147483648 < a.toInt) : (a / b).toInt = a.toInt.tdiv b.toInt := by
  rw [Int32.toInt_div]
  have hb := i_hi a
  have h : (a.toInt.tdiv b.toInt).natAbs ≤ a.toInt.natAbs := by
    rw [Int.natAbs_tdiv]
    exact Nat.div_le_self _ _
  exact bm_id (by omega) (by omega)
theorem ix_d {e w : Int32} {a i : Nat} (he : e.toInt = a) (hw : w.toInt = i) (h : 0 < i) : (e / w).toInt = ((a / i : Nat) : Int) := by
  rw [ti_div (by omega) (by omega), he, hw]
  rfl
theorem ix_r {e w : Int32} {a i : Nat} (he : e.toInt = a) (hw : w.toInt = i) (h : 0 < i) : (irm e w).toInt = ((a % i : Nat) : Int) := by
  have hd := ix_d he hw h
  have hm : a / i * i ≤ a := Nat.div_mul_le_self a i
  have := i_hi e
  have e2 := ix_m hd hw (by omega)
  unfold irm
  rw [ix_s he e2 hm]
  have := Nat.mod_eq_sub_div_mul (x := a) (k := i)
  omega
/-- where a number goes in -/
def stp (f : Nat → Int32) (v : Int32) : Nat → Nat
  | 0 => 0
  | k + 1 => if (f k).toInt ≤ v.toInt then k + 1 else stp f v k
theorem stp_le {f : Nat → Int32} {v : Int32} : ∀ k, stp f v k ≤ k := by
  intro k
  induction k with
  | zero => exact Nat.le_refl 0
  | succ k ih =>
    unfold stp
    by_cases h : (f k).toInt ≤ v.toInt
    · rw [if_pos h]; exact Nat.le_refl _
    · rw [if_neg h]; omega
def insF (n : Nat) (f : Nat → Int32) (v : Int32) : Nat → Int32 := fun i => if i < stp f v n then f i else if i = stp f v n then v else f (i - 1)
/-- the numbers stand: n of them, in the row ka, their number in (ks, js) -/
def Hd (ks js ka n : Nat) (f : Nat → Int32) (M : Mem) : Prop := (M.1 ks js).toInt = (n : Int) ∧ ∀ i, i < n → M.1 ka i = f i
/-- nothing but the number (ks, js) and the row ka changes -/
def FrB (ks js ka : Nat) (M M' : Mem) : Prop := (∀ a b, a ≠ ka → ¬ (a = ks ∧ b = js) → M'.1 a b = M.1 a b) ∧ M'.2 = M.2
theorem FrB.rf {ks js ka : Nat} {M : Mem} : FrB ks js ka M M := ⟨fun _ _ _ _ => rfl, rfl⟩
theorem FrB.tr {ks js ka : Nat} {M M' M'' : Mem} (h : FrB ks js ka M M') (h' : FrB ks js ka M' M'') : FrB ks js ka M M'' := ⟨fun a b h1 h2 => (h'.1 a b h1 h2).trans (h.1 a b h1 h2), h'.2.trans h.2⟩
theorem frb_a {ks js ka : Nat} {M : Mem} {j : Nat} {v : Int32} : FrB ks js ka M (uI M ka j v) := ⟨fun a b h1 _ => uI_k h1, rfl⟩
theorem frb_s {ks js ka : Nat} {M : Mem} {v : Int32} : FrB ks js ka M (uI M ks js v) := ⟨fun a b _ h2 => if_neg h2, rfl⟩
/-- the end of putting in: v at k, the rest already moved -/
theorem ins_end {ks js ka n k : Nat} {f : Nat → Int32} {v : Int32} {M M1 : Mem} (hne : ka ≠ ks) (hn : n < 2147483646) (hk : k ≤ n) (hs : stp f v n = k) (h1 : ∀ i, i < k → M1.1 ka i = f i) (h2 : ∀ i, k < i → i ≤ n → M1.1 ka i = f (i - 1)) (h3 : (M1.1 ks js).toInt = (n : Int)) (hF : FrB ks js ka M M1) : Hd ks js ka (n + 1) (insF n f v) (uI (uI M1 ka k v) ks js ((uI M1 ka k v).1 ks js + 1)) ∧ FrB ks js ka M (uI (uI M1 ka k v) ks js ((uI M1 ka k v).1 ks js + 1)) := by
  refine ⟨⟨?_, fun i hi => ?_⟩, hF.tr (frb_a.tr frb_s)⟩
  · rw [uI_s, uI_k (fun x => hne x.symm)]
    exact ix_a h3 rfl (by omega)
  · rw [uI_k hne]
    unfold insF
    rw [hs]
    by_cases e : i = k
    · subst e
      rw [uI_s, if_neg (by omega), if_pos rfl]
    · rw [uI_j e]
      by_cases l : i < k
      · rw [if_pos l]; exact h1 i l
      · rw [if_neg l, if_neg e]; exact h2 i (by omega) (by omega)
theorem s_add {o n : Nat} {f : Nat → Int32} {v : Int32} {M : Mem} {q : Mem → Prop} (hH : Hd o 1 (o + 1) n f M) (hn : n < 200) (h : ∀ M', Hd o 1 (o + 1) (n + 1) (insF n f v) M' → FrB o 1 (o + 1) M M' → q M') : w_X0_add o v M q := by
  have f200 : (200 : Int32).toInt = 200 := rfl
  have f0 : (0 : Int32).toInt = 0 := rfl
  have f1 : (-1 : Int32).toInt = -1 := rfl
  obtain ⟨hs, hf⟩ := hH
  unfold w_X0_add
  refine ⟨fun z x ex => ?_, fun z => ?_⟩
  · subst ex
    unfold w_X0_add_l18
    refine lfp_for (i0 := 0) (n := n) (fun (d : Nat) (s : Int32 × Mem) => s.1.toInt = ((n - d : Nat) : Int) ∧ stp f v n = stp f v (n - d) ∧ (∀ i, i < n - d → s.2.1 ((o + 1)) i = f i) ∧ (∀ i, n - d < i → i ≤ n → s.2.1 ((o + 1)) i = f (i - 1)) ∧ FrB o 1 ((o + 1)) M s.2 ∧ (s.2.1 o 1).toInt = (n : Int)) ?_ (by omega) ⟨hs, rfl, hf, fun i h1 h2 => absurd h1 (by omega), FrB.rf, hs⟩
    intro P d st hd hJ hP
    obtain ⟨a, M1⟩ := st
    obtain ⟨ha0, hst, h10, h20, hF0, h30⟩ := hJ
    have ha : a.toInt = ((n - d : Nat) : Int) := ha0
    have h1 : ∀ i, i < n - d → M1.1 ((o + 1)) i = f i := h10
    have h2 : ∀ i, n - d < i → i ≤ n → M1.1 ((o + 1)) i = f (i - 1) := h20
    have hF : FrB o 1 ((o + 1)) M M1 := hF0
    have h3 : (M1.1 o 1).toInt = (n : Int) := h30
    clear ha0 h10 h20 hF0 h30
    have fin : stp f v (n - d) = n - d → w_X0_add_b54 o v a M1 q := by
      intro hk
      unfold w_X0_add_b54
      refine ⟨vp_of ha (by omega), fun M2 e2 M3 e3 => ?_⟩
      rw [i_of ha] at e2
      have := ins_end (ks := o) (js := 1) (ka := (o + 1)) (M := M) (by omega) (by omega) (by omega) (hst.trans hk) h1 h2 h3 hF
      rw [← e2, ← e3] at this
      exact h M3 this.1 this.2
    unfold w_X0_add_l18F
    dsimp only
    refine ⟨fun z0 => ?_, fun z0 => ?_⟩
    · rw [le_i, f0] at z0
      refine fin ?_
      rw [show n - d = 0 from by omega]
      rfl
    · rw [le_i, f0] at z0
      have E1 := ix_s ha (w := 1) (i := 1) rfl (by omega)
      have hpos : n - d = (n - d - 1) + 1 := by omega
      refine ⟨vp_of E1 (by omega), fun z1 => ?_, fun z1 => ⟨vp_of E1 (by omega), vp_of ha (by omega), fun M9 e9 x10 e10 => ?_⟩⟩
      · rw [i_of E1, h1 _ (by omega), le_i] at z1
        refine fin ?_
        rw [hpos, stp, if_pos z1]
      · rw [i_of E1, h1 _ (by omega), le_i] at z1
        rw [i_of ha, i_of E1, h1 _ (by omega)] at e9
        refine hP (x10, M9) (by omega) ⟨?_, ?_, fun i hi => ?_, fun i hi1 hi2 => ?_, ?_, ?_⟩
        · show x10.toInt = ((n - (d + 1) : Nat) : Int)
          rw [e10, ti_add (by omega) (by omega), f1]
          omega
        · rw [hst, hpos, stp, if_neg z1]
          rfl
        · show M9.1 ((o + 1)) i = f i
          rw [e9, uI_j (by omega)]
          exact h1 i (by omega)
        · show M9.1 ((o + 1)) i = f (i - 1)
          by_cases e : i = n - d
          · subst e
            rw [e9, uI_s]
          · rw [e9, uI_j e]
            exact h2 i (by omega) hi2
        · rw [e9]; exact hF.tr frb_a
        · show (M9.1 o 1).toInt = (n : Int)
          rw [e9, uI_k (by omega)]; exact h3
  · exact absurd (by rw [lt_i, f200]; omega) z
theorem s_sortIn {n : Nat} {f : Nat → Int32} {v : Int32} {M : Mem} {q : Mem → Prop} (hH : Hd 135 12 145 n f M) (hn : n < 200) (h : ∀ M', Hd 135 12 145 (n + 1) (insF n f v) M' → FrB 135 12 145 M M' → q M') : w_X12_sortIn v M q := by
  have f200 : (200 : Int32).toInt = 200 := rfl
  have f0 : (0 : Int32).toInt = 0 := rfl
  have f1 : (-1 : Int32).toInt = -1 := rfl
  obtain ⟨hs, hf⟩ := hH
  unfold w_X12_sortIn
  intro x ex
  · subst ex
    unfold w_X12_sortIn_l5
    refine lfp_for (i0 := 0) (n := n) (fun (d : Nat) (s : Int32 × Mem) => s.1.toInt = ((n - d : Nat) : Int) ∧ stp f v n = stp f v (n - d) ∧ (∀ i, i < n - d → s.2.1 (145) i = f i) ∧ (∀ i, n - d < i → i ≤ n → s.2.1 (145) i = f (i - 1)) ∧ FrB 135 12 (145) M s.2 ∧ (s.2.1 135 12).toInt = (n : Int)) ?_ (by omega) ⟨hs, rfl, hf, fun i h1 h2 => absurd h1 (by omega), FrB.rf, hs⟩
    intro P d st hd hJ hP
    obtain ⟨a, M1⟩ := st
    obtain ⟨ha0, hst, h10, h20, hF0, h30⟩ := hJ
    have ha : a.toInt = ((n - d : Nat) : Int) := ha0
    have h1 : ∀ i, i < n - d → M1.1 (145) i = f i := h10
    have h2 : ∀ i, n - d < i → i ≤ n → M1.1 (145) i = f (i - 1) := h20
    have hF : FrB 135 12 (145) M M1 := hF0
    have h3 : (M1.1 135 12).toInt = (n : Int) := h30
    clear ha0 h10 h20 hF0 h30
    have fin : stp f v (n - d) = n - d → w_X12_sortIn_b41 v a M1 q := by
      intro hk
      unfold w_X12_sortIn_b41
      refine ⟨vp_of ha (by omega), fun M2 e2 M3 e3 => ?_⟩
      rw [i_of ha] at e2
      have := ins_end (ks := 135) (js := 12) (ka := 145) (M := M) (by omega) (by omega) (by omega) (hst.trans hk) h1 h2 h3 hF
      rw [← e2, ← e3] at this
      exact h M3 this.1 this.2
    unfold w_X12_sortIn_l5F
    dsimp only
    refine ⟨fun z0 => ?_, fun z0 => ?_⟩
    · rw [le_i, f0] at z0
      refine fin ?_
      rw [show n - d = 0 from by omega]
      rfl
    · rw [le_i, f0] at z0
      have E1 := ix_s ha (w := 1) (i := 1) rfl (by omega)
      have hpos : n - d = (n - d - 1) + 1 := by omega
      refine ⟨vp_of E1 (by omega), fun z1 => ?_, fun z1 => ⟨vp_of E1 (by omega), vp_of ha (by omega), fun M9 e9 x10 e10 => ?_⟩⟩
      · rw [i_of E1, h1 _ (by omega), le_i] at z1
        refine fin ?_
        rw [hpos, stp, if_pos z1]
      · rw [i_of E1, h1 _ (by omega), le_i] at z1
        rw [i_of ha, i_of E1, h1 _ (by omega)] at e9
        refine hP (x10, M9) (by omega) ⟨?_, ?_, fun i hi => ?_, fun i hi1 hi2 => ?_, ?_, ?_⟩
        · show x10.toInt = ((n - (d + 1) : Nat) : Int)
          rw [e10, ti_add (by omega) (by omega), f1]
          omega
        · rw [hst, hpos, stp, if_neg z1]
          rfl
        · show M9.1 (145) i = f i
          rw [e9, uI_j (by omega)]
          exact h1 i (by omega)
        · show M9.1 (145) i = f (i - 1)
          by_cases e : i = n - d
          · subst e
            rw [e9, uI_s]
          · rw [e9, uI_j e]
            exact h2 i (by omega) hi2
        · rw [e9]; exact hF.tr frb_a
        · show (M9.1 135 12).toInt = (n : Int)
          rw [e9, uI_k (by omega)]; exact h3


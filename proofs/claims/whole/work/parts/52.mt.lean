/-! runs gathered; figure -/
abbrev selR (N : Nat → Int32) (b m s : Int32) (r : Nat) : Prop := onM N m r ∧ N (1346 + 14 * r + 7) = b ∧ N (1346 + 14 * r + 9) = s
def gat (N : Nat → Int32) (b m s : Int32) : Nat → Nat × (Nat → Int32)
  | 0 => (0, fun _ => 0)
  | r + 1 => if selR N b m s r then ((gat N b m s r).1 + 1, insF (gat N b m s r).1 (gat N b m s r).2 (N (1346 + 14 * r + 5))) else gat N b m s r
theorem gat_le {N : Nat → Int32} {b m s : Int32} : ∀ r, (gat N b m s r).1 ≤ r := by
  intro r
  induction r with
  | zero => exact Nat.le_refl 0
  | succ r ih =>
    unfold gat
    by_cases h : selR N b m s r
    · rw [if_pos h]; show _ + 1 ≤ _; omega
    · rw [if_neg h]; omega
theorem FrB.rep {ks js ka : Nat} {M M' : Mem} {N : Nat → Int32} (h : FrB ks js ka M M') (h1 : 35 ≤ ks) (h2 : 35 ≤ ka) (hR : Rep 1 N M.1) : Rep 1 N M'.1 := rep_fr (fun a _ _ => by funext b; exact h.1 a b (by omega) (by omega)) hR
theorem FrB.row {ks js ka : Nat} {M M' : Mem} (h : FrB ks js ka M M') {a : Nat} (h1 : a ≠ ks) (h2 : a ≠ ka) : M'.1 a = M.1 a := by
  funext b
  exact h.1 a b h2 (fun x => h1 x.1)
theorem s_gather {k kn : Nat} {b m s v : Int32} {M : Mem} {N : Nat → Int32} {q : Mem → Prop} (hR : Rep 1 N M.1) (hI : InvN N) (hk : 35 ≤ k) (hv : v.toInt = kn) (h : ∀ M', Hd k 1 (k + 1) (gat N b m s (min (N 4214).toInt.toNat kn)).1 (gat N b m s (min (N 4214).toInt.toNat kn)).2 M' → FrB k 1 (k + 1) M M' → q M') : w_X8_gather 1 k b m s v M q := by
  have i4 : 0 ≤ (N 4214).toInt ∧ (N 4214).toInt ≤ 200 := hI.1 4214 (by decide)
  unfold w_X8_gather w_X0_clear
  intro M17 e17
  have h17 : Hd k 1 (k + 1) (gat N b m s 0).1 (gat N b m s 0).2 M17 := ⟨by rw [e17, uI_s]; rfl, fun i hi => absurd hi (by show ¬ i < 0; omega)⟩
  have F17 : FrB k 1 (k + 1) M M17 := by rw [e17]; exact frb_s
  clear e17
  unfold w_X8_gather_l7
  refine lfp_for (i0 := 0) (n := min (N 4214).toInt.toNat kn) (fun (i : Nat) (t : Int32 × Mem) => t.1.toInt = (i : Int) ∧ Hd k 1 (k + 1) (gat N b m s i).1 (gat N b m s i).2 t.2 ∧ FrB k 1 (k + 1) M t.2) ?_ (by omega) ⟨rfl, h17, F17⟩
  intro P i st hi hJ hP
  obtain ⟨a, M1⟩ := st
  obtain ⟨ha0, hH0, hF0⟩ := hJ
  have ha : a.toInt = i := ha0
  have hH : Hd k 1 (k + 1) (gat N b m s i).1 (gat N b m s i).2 M1 := hH0
  have hF : FrB k 1 (k + 1) M M1 := hF0
  clear ha0 hH0 hF0
  have hR1 : Rep 1 N M1.1 := hF.rep hk (by omega) hR
  unfold w_X8_gather_l7F w_X8_gather_b69
  dsimp only
  rw [rc4 hR1]
  refine ⟨fun z => ?_, fun z => ⟨fun z2 => ?_, fun z2 => ?_⟩⟩
  · rw [le_i] at z
    have e : i = min (N 4214).toInt.toNat kn := by omega
    rw [e] at hH
    exact h M1 hH hF
  · rw [le_i] at z z2
    have e : i = min (N 4214).toInt.toNat kn := by omega
    rw [e] at hH
    exact h M1 hH hF
  · rw [le_i] at z z2
    have hi2 : i < min (N 4214).toInt.toNat kn := by omega
    rw [e_timed hR1 ha (by omega), tf_z, Classical.not_not]
    have next : ∀ M' : Mem, Hd k 1 (k + 1) (gat N b m s (i + 1)).1 (gat N b m s (i + 1)).2 M' → FrB k 1 (k + 1) M M' → ∀ x : Int32, x = a + 1 → P (x, M') := fun M' h1 h2 x ex => by
      refine hP (x, M') hi2 ⟨?_, h1, h2⟩
      show x.toInt = ((i + 1 : Nat) : Int)
      rw [ex]; exact ix_a ha rfl (by omega)
    have skip : ¬ selR N b m s i → ∀ x : Int32, x = a + 1 → P (x, M1) := fun n => next M1 (by rw [gat, if_neg n]; exact hH) hF
    refine ⟨fun n => skip (fun x => n x.1), fun k1 => ?_⟩
    rw [e_told hR1 ha (wn := 7) rfl (by omega) (by decide)]
    refine ⟨fun n => skip (fun x => n x.2.1), fun k2 => ?_⟩
    rw [e_told hR1 ha (wn := 9) rfl (by omega) (by decide)]
    refine ⟨fun n => skip (fun x => n x.2.2), fun k3 => ?_⟩
    rw [e_told hR1 ha (wn := 5) rfl (by omega) (by decide)]
    have hle := gat_le (N := N) (b := b) (m := m) (s := s) i
    refine s_add hH (by omega) (fun M15 h15 f15 => next M15 ?_ (hF.tr f15))
    rw [gat, if_pos ⟨k1, k2, k3⟩]
    exact h15
theorem s_sortRuns {kn : Nat} {b m s v : Int32} {M : Mem} {q : Mem → Prop} (hI : InvN (M.1 136)) (hv : v.toInt = kn) (h : ∀ M', Hd 135 12 145 (gat (M.1 136) b m s (min (M.1 136 4214).toInt.toNat kn)).1 (gat (M.1 136) b m s (min (M.1 136 4214).toInt.toNat kn)).2 M' → FrB 135 12 145 M M' → q M') : w_X12_sortRuns b m s v M q := by
  have i4 : 0 ≤ (M.1 136 4214).toInt ∧ (M.1 136 4214).toInt ≤ 200 := hI.1 4214 (by decide)
  unfold w_X12_sortRuns
  intro M17 e17
  have h17 : Hd 135 12 145 (gat (M.1 136) b m s 0).1 (gat (M.1 136) b m s 0).2 M17 := ⟨by rw [e17, uI_s]; rfl, fun i hi => absurd hi (by show ¬ i < 0; omega)⟩
  have F17 : FrB 135 12 145 M M17 := by rw [e17]; exact frb_s
  clear e17
  unfold w_X12_sortRuns_l8
  refine lfp_for (i0 := 0) (n := min (M.1 136 4214).toInt.toNat kn) (fun (i : Nat) (t : Int32 × Mem) => t.1.toInt = (i : Int) ∧ Hd 135 12 145 (gat (M.1 136) b m s i).1 (gat (M.1 136) b m s i).2 t.2 ∧ FrB 135 12 145 M t.2) ?_ (by omega) ⟨rfl, h17, F17⟩
  intro P i st hi hJ hP
  obtain ⟨a, M1⟩ := st
  obtain ⟨ha0, hH0, hF0⟩ := hJ
  have ha : a.toInt = i := ha0
  have hH : Hd 135 12 145 (gat (M.1 136) b m s i).1 (gat (M.1 136) b m s i).2 M1 := hH0
  have hF : FrB 135 12 145 M M1 := hF0
  clear ha0 hH0 hF0
  have e6 : M1.1 136 = M.1 136 := hF.row (by decide) (by decide)
  unfold w_X12_sortRuns_l8F w_X12_sortRuns_b104
  dsimp only
  rw [e_many4, e6]
  refine ⟨fun z => ?_, fun z => ⟨fun z2 => ?_, fun z2 x6 ex6 => ?_⟩⟩
  · rw [le_i] at z
    have e : i = min (M.1 136 4214).toInt.toNat kn := by omega
    rw [e] at hH
    exact h M1 hH hF
  · rw [le_i] at z z2
    have e : i = min (M.1 136 4214).toInt.toNat kn := by omega
    rw [e] at hH
    exact h M1 hH hF
  · rw [le_i] at z z2
    have hi2 : i < min (M.1 136 4214).toInt.toNat kn := by omega
    have E0 : x6.toInt = ((1346 + 14 * i : Nat) : Int) := by rw [ex6]; exact ix_a rfl (ix_m rfl ha (by omega)) (by omega)
    have G := fun (e : Int32) (w : Nat) (he : e.toInt = w) (hw : w < 14) => ix_a E0 he (by omega)
    have next : ∀ M' : Mem, Hd 135 12 145 (gat (M.1 136) b m s (i + 1)).1 (gat (M.1 136) b m s (i + 1)).2 M' → FrB 135 12 145 M M' → ∀ x : Int32, x = a + 1 → P (x, M') := fun M' h1 h2 x ex => by
      refine hP (x, M') hi2 ⟨?_, h1, h2⟩
      show x.toInt = ((i + 1 : Nat) : Int)
      rw [ex]; exact ix_a ha rfl (by omega)
    have skip : ¬ selR (M.1 136) b m s i → ∀ x : Int32, x = a + 1 → P (x, M1) := fun n => next M1 (by rw [gat, if_neg n]; exact hH) hF
    rw [i_of (G 6 6 rfl (by decide)), i_of (G 7 7 rfl (by decide)), i_of (G 8 8 rfl (by decide)), i_of (G 9 9 rfl (by decide)), i_of (G 5 5 rfl (by decide))]
    refine ⟨vp_of (G 6 6 rfl (by decide)) (by omega), fun n => skip (fun x => n x.1.2), fun k1 => ⟨vp_of (G 7 7 rfl (by decide)) (by omega), fun n => skip (fun x => n x.2.1), fun k2 => ⟨vp_of (G 8 8 rfl (by decide)) (by omega), fun n => skip (fun x => n x.1.1), fun k3 => ⟨vp_of (G 9 9 rfl (by decide)) (by omega), fun n => skip (fun x => n x.2.2), fun k4 => ⟨vp_of (G 5 5 rfl (by decide)) (by omega), ?_⟩⟩⟩⟩⟩
    have hle := gat_le (N := M.1 136) (b := b) (m := m) (s := s) i
    refine s_sortIn hH (by omega) (fun M15 h15 f15 => next M15 ?_ (hF.tr f15))
    rw [gat, if_pos ⟨⟨k3, k1⟩, k2, k4⟩]
    exact h15
def mid (n : Nat) (f : Nat → Int32) : Int32 := if n % 2 = 1 then f (n / 2) else (f (n / 2 - 1) + f (n / 2)) / 2
theorem e_least {o n : Nat} {f : Nat → Int32} {M : Mem} {q : Int32 → Mem → Prop} (hH : Hd o 1 (o + 1) n f M) (h : q (if n = 0 then 0 else f 0) M) : w_X0_least o M q := by
  unfold w_X0_least
  refine ⟨fun n0 => ?_, fun n0 => ?_⟩
  · have : ¬ n = 0 := fun x => n0 (eq_i.mpr (by rw [hH.1, x]; rfl))
    rw [if_neg this] at h
    rw [hH.2 0 (by omega)]
    exact h
  · have : n = 0 := by have := hH.1; rw [n0] at this; have f0 : (0 : Int32).toInt = 0 := rfl; omega
    rw [if_pos this] at h
    exact h
theorem e_greatest {o n : Nat} {f : Nat → Int32} {M : Mem} {q : Int32 → Mem → Prop} (hH : Hd o 1 (o + 1) n f M) (hn : n ≤ 200) (h : q (if n = 0 then 0 else f (n - 1)) M) : w_X0_greatest o M q := by
  unfold w_X0_greatest
  refine ⟨fun n0 => ?_, fun n0 => ?_⟩
  · have : ¬ n = 0 := fun x => n0 (eq_i.mpr (by rw [hH.1, x]; rfl))
    rw [if_neg this] at h
    have E := ix_s hH.1 (w := 1) (i := 1) rfl (by omega)
    refine ⟨vp_of E (by omega), ?_⟩
    rw [i_of E, hH.2 _ (by omega)]
    exact h
  · have : n = 0 := by have := hH.1; rw [n0] at this; have f0 : (0 : Int32).toInt = 0 := rfl; omega
    rw [if_pos this] at h
    exact h
theorem irm2 {a : Int32} {n : Nat} (h : a.toInt = n) : (irm a 2 = 1) ↔ n % 2 = 1 := by
  have E := ix_r h (w := 2) (i := 2) rfl (by decide)
  have o1 : (1 : Int32).toInt = 1 := rfl
  rw [eq_i, E, o1]
  omega
theorem e_middle {o n : Nat} {f : Nat → Int32} {M : Mem} {q : Int32 → Mem → Prop} (hH : Hd o 1 (o + 1) n f M) (hn : n ≤ 200) (h : q (if n = 0 then 0 else mid n f) M) : w_X0_middle o M q := by
  unfold w_X0_middle
  refine ⟨fun n0 => ?_, fun n0 => ?_⟩
  · have n1 : ¬ n = 0 := fun x => n0 (eq_i.mpr (by rw [hH.1, x]; rfl))
    rw [if_neg n1] at h
    have E := ix_d hH.1 (w := 2) (i := 2) rfl (by decide)
    unfold mid at h
    rw [irm2 hH.1]
    refine ⟨fun n2 => ?_, fun n2 => ⟨vp_of E (by omega), ?_⟩⟩
    · rw [if_neg n2] at h
      have E1 := ix_s E (w := 1) (i := 1) rfl (by omega)
      refine ⟨vp_of E1 (by omega), vp_of E (by omega), ?_⟩
      rw [i_of E1, i_of E, hH.2 _ (by omega), hH.2 _ (by omega)]
      exact h
    · rw [if_pos n2] at h
      rw [i_of E, hH.2 _ (by omega)]
      exact h
  · have : n = 0 := by have := hH.1; rw [n0] at this; have f0 : (0 : Int32).toInt = 0 := rfl; omega
    rw [if_pos this] at h
    exact h
theorem e_middle12 {n : Nat} {f : Nat → Int32} {M : Mem} {q : Int32 → Mem → Prop} (hH : Hd 135 12 145 n f M) (h0 : 0 < n) (hn : n ≤ 200) (h : q (mid n f) M) : w_X12_middle M q := by
  unfold w_X12_middle
  intro x ex
  have E : x.toInt = ((n / 2 : Nat) : Int) := by rw [ex]; exact ix_d hH.1 rfl (by decide)
  unfold mid at h
  rw [irm2 hH.1]
  refine ⟨fun n2 => ?_, fun n2 => ⟨vp_of E (by omega), ?_⟩⟩
  · rw [if_neg n2] at h
    have E1 := ix_s E (w := 1) (i := 1) rfl (by omega)
    refine ⟨vp_of E1 (by omega), vp_of E (by omega), ?_⟩
    rw [i_of E1, i_of E, hH.2 _ (by omega), hH.2 _ (by omega)]
    exact h
  · rw [if_pos n2] at h
    rw [i_of E, hH.2 _ (by omega)]
    exact h

/-! step: spec and the class -/
theorem wIn_gat {N : Nat → Int32} (hI : InvN N) {b m s : Int32} : ∀ r, r ≤ 200 → wIn (gat N b m s r).2 (gat N b m s r).1 := by
  intro r
  induction r with
  | zero => intro _ i hi; exact absurd hi (by show ¬ i < 0; omega)
  | succ r ih =>
    intro hr
    unfold gat
    by_cases h : selR N b m s r
    · rw [if_pos h]
      have : -1 ≤ (N (1346 + 14 * r + 5)).toInt ∧ (N (1346 + 14 * r + 5)).toInt ≤ 10000000 := inv_run hI (by omega) (by decide)
      exact wIn_ins (ih (by omega)) this
    · rw [if_neg h]; exact ih (by omega)
def gatR (N : Nat → Int32) (m s : Int32) (b : Nat) : Nat × (Nat → Int32) := gat N (Int32.ofNat b) m s (N 4214).toInt.toNat
def stG (N : Nat → Int32) (m s : Int32) (fr : Nat) : Nat → Nat × (Nat → Int32) × (Nat → Int32)
  | 0 => (0, fun _ => 0, fun _ => 0)
  | k + 1 => if (gatR N m s (fr + k)).1 = 0 then stG N m s fr k else ((stG N m s fr k).1 + 1, upN (stG N m s fr k).2.1 (stG N m s fr k).1 (Int32.ofNat (fr + k)), upN (stG N m s fr k).2.2 (stG N m s fr k).1 (mid (gatR N m s (fr + k)).1 (gatR N m s (fr + k)).2))
theorem stG_le {N : Nat → Int32} {m s : Int32} {fr : Nat} : ∀ k, (stG N m s fr k).1 ≤ k := by
  intro k
  induction k with
  | zero => exact Nat.le_refl 0
  | succ k ih =>
    unfold stG
    by_cases h : (gatR N m s (fr + k)).1 = 0
    · rw [if_pos h]; omega
    · rw [if_neg h]; show _ + 1 ≤ _; omega
theorem stG_w {N : Nat → Int32} (hI : InvN N) {m s : Int32} {fr : Nat} : ∀ k, wIn (stG N m s fr k).2.2 (stG N m s fr k).1 := by
  have i4 : 0 ≤ (N 4214).toInt ∧ (N 4214).toInt ≤ 200 := hI.1 4214 (by decide)
  intro k
  induction k with
  | zero => intro i hi; exact absurd hi (by show ¬ i < 0; omega)
  | succ k ih =>
    unfold stG
    by_cases h : (gatR N m s (fr + k)).1 = 0
    · rw [if_pos h]; exact ih
    · rw [if_neg h]
      intro i hi
      have hi : i < (stG N m s fr k).1 + 1 := hi
      have g : -1 ≤ (upN (stG N m s fr k).2.2 (stG N m s fr k).1 (mid (gatR N m s (fr + k)).1 (gatR N m s (fr + k)).2) i).toInt ∧ (upN (stG N m s fr k).2.2 (stG N m s fr k).1 (mid (gatR N m s (fr + k)).1 (gatR N m s (fr + k)).2) i).toInt ≤ 10000000 := by
        by_cases e : i = (stG N m s fr k).1
        · subst e
          rw [upN_s]
          exact wIn_mid (f := (gatR N m s (fr + k)).2) (n := (gatR N m s (fr + k)).1) (wIn_gat hI (N 4214).toInt.toNat (by omega)) (by omega)
        · rw [upN_o e]; exact ih i (by omega)
      exact g
def cF (D : Nat → Int32) (n i : Nat) : Int32 := farF D 0 i + farF D i n
def bF (c : Nat → Int32) : Nat → Nat
  | 0 => 1
  | j + 1 => if (c (bF c j)).toInt ≤ (c (j + 1)).toInt then bF c j else j + 1
theorem bF_le {c : Nat → Int32} : ∀ j, 1 ≤ bF c j ∧ bF c j ≤ j + 1 ∧ (1 ≤ j → bF c j ≤ j) := by
  intro j
  induction j with
  | zero => exact ⟨Nat.le_refl 1, Nat.le_refl 1, fun h => absurd h (by omega)⟩
  | succ j ih =>
    unfold bF
    by_cases h : (c (bF c j)).toInt ≤ (c (j + 1)).toInt
    · rw [if_pos h]; omega
    · rw [if_neg h]; omega
def btF (c B : Nat → Int32) (lim : Int32) : Nat → Int32
  | 0 => 0
  | j + 1 => if lim.toInt < (c (j + 1)).toInt then btF c B lim j else btF c B lim j ||| ((1 : Int32) <<< (B (j + 1) &&& 31))
abbrev okStep (N : Nat → Int32) (a b m s sl w : Int32) : Prop := okSpot N a m s ∧ okI b (N 4212).toInt ∧ a.toInt ≤ b.toInt ∧ okB sl 0 100000 ∧ okI w 3
def stV (g : Nat × (Nat → Int32) × (Nat → Int32)) (sl w : Int32) : Int32 := if g.1 < 2 then -1 else if w = 0 then g.2.1 (bF (cF g.2.2 g.1) (g.1 - 1)) else if w = 1 then cF g.2.2 g.1 (bF (cF g.2.2 g.1) (g.1 - 1)) else btF (cF g.2.2 g.1) g.2.1 (cF g.2.2 g.1 (bF (cF g.2.2 g.1) (g.1 - 1)) + sl) (g.1 - 1)
def spStep (a b m s sl w : Int32) (N : Nat → Int32) : Int32 := if okStep N a b m s sl w then stV (stG N m s a.toInt.toNat (b.toInt.toNat - a.toInt.toNat + 1)) sl w else -2
/-- only the dating's own cells change -/
def FrD (M M' : Mem) : Prop := (∀ a, (a < 52 ∨ 58 ≤ a) → M'.1 a = M.1 a) ∧ M'.2 = M.2
theorem FrD.tr {M M' M'' : Mem} (h : FrD M M') (h' : FrD M' M'') : FrD M M'' := ⟨fun a ha => (h'.1 a ha).trans (h.1 a ha), h'.2.trans h.2⟩
theorem FrD.q {M M' : Mem} (h : FrD M M') : FQ M M' := ⟨fun a ha => h.1 a (by omega), fun a _ => by rw [h.2]⟩
theorem frd_u {M : Mem} {k j : Nat} {v : Int32} (h : 52 ≤ k ∧ k < 58) : FrD M (uI M k j v) := ⟨fun a ha => by funext b; exact uI_k (by omega), rfl⟩
theorem FrB.d {M M' : Mem} (h : FrB 56 1 57 M M') : FrD M M' := ⟨fun a ha => h.row (by omega) (by omega), h.2⟩
theorem s_dgather {v2 v3 m s : Int32} {a b : Nat} {M : Mem} {N : Nat → Int32} {q : Mem → Prop} (hR : Rep 1 N M.1) (hI : InvN N) (h2 : v2.toInt = a) (h3 : v3.toInt = b) (hab : a ≤ b) (hb : b < 24) (h : ∀ M', (M'.1 52 5).toInt = ((stG N m s a (b - a + 1)).1 : Int) → (∀ i, i < (stG N m s a (b - a + 1)).1 → M'.1 53 i = (stG N m s a (b - a + 1)).2.1 i) → (∀ i, i < (stG N m s a (b - a + 1)).1 → M'.1 54 i = (stG N m s a (b - a + 1)).2.2 i) → FrD M M' → q M') : w_X1_gather 52 1 v2 v3 m s M q := by
  have i4 : 0 ≤ (N 4214).toInt ∧ (N 4214).toInt ≤ 200 := hI.1 4214 (by decide)
  have f24 : (24 : Int32).toInt = 24 := rfl
  have f0 : (0 : Int32).toInt = 0 := rfl
  unfold w_X1_gather
  intro M14 e14
  have F14 : FrD M M14 := by rw [e14]; exact frd_u (by decide)
  have s14 : (M14.1 52 5).toInt = ((stG N m s a 0).1 : Int) := by rw [e14, uI_s]; rfl
  clear e14
  unfold w_X1_gather_l8
  refine lfp_for (i0 := 0) (n := b - a + 1) (fun (k : Nat) (t : Int32 × Mem) => t.1.toInt = ((a + k : Nat) : Int) ∧ (t.2.1 52 5).toInt = ((stG N m s a k).1 : Int) ∧ (∀ i, i < (stG N m s a k).1 → t.2.1 53 i = (stG N m s a k).2.1 i) ∧ (∀ i, i < (stG N m s a k).1 → t.2.1 54 i = (stG N m s a k).2.2 i) ∧ FrD M t.2) ?_ (by omega) ⟨h2, s14, fun i hi => absurd hi (by show ¬ i < 0; omega), fun i hi => absurd hi (by show ¬ i < 0; omega), F14⟩
  clear s14 F14
  intro P k st hk hJ hP
  obtain ⟨x, M1⟩ := st
  obtain ⟨hx0, hs0, hb0, hd0, hF0⟩ := hJ
  have hx : x.toInt = ((a + k : Nat) : Int) := hx0
  have hs : (M1.1 52 5).toInt = ((stG N m s a k).1 : Int) := hs0
  have hB : ∀ i, i < (stG N m s a k).1 → M1.1 53 i = (stG N m s a k).2.1 i := hb0
  have hD : ∀ i, i < (stG N m s a k).1 → M1.1 54 i = (stG N m s a k).2.2 i := hd0
  have hF : FrD M M1 := hF0
  clear hx0 hs0 hb0 hd0 hF0
  have hle := stG_le (N := N) (m := m) (s := s) (fr := a) k
  have R1 := hF.q.r hR
  unfold w_X1_gather_l8F w_X1_gather_b88
  dsimp only
  rw [lt_i, h3, hx, le_i, f24, hs]
  refine ⟨fun z => ?_, fun z => ⟨fun z2 => absurd z2 (by omega), fun z2 => ?_⟩⟩
  · have ek : k = b - a + 1 := by omega
    subst ek
    exact h M1 hs hB hD hF
  · rw [rc4 R1, i_nat hx]
    refine s_gather (k := 52 + 4) R1 hI (by decide) (ix_n i4.1) (fun M4 h4 f4 => ?_)
    rw [Nat.min_self] at h4
    have h4 : Hd 56 1 57 (gatR N m s (a + k)).1 (gatR N m s (a + k)).2 M4 := h4
    have f4 : FrB 56 1 57 M1 M4 := f4
    have g200 : (gatR N m s (a + k)).1 ≤ 200 := by
      have := gat_le (N := N) (b := Int32.ofNat (a + k)) (m := m) (s := s) (N 4214).toInt.toNat
      unfold gatR
      omega
    have F4 : FrD M M4 := hF.tr f4.d
    have s4 : M4.1 52 5 = M1.1 52 5 := by rw [f4.row (by decide) (by decide)]
    have a4 : ∀ c, c ≠ 56 → c ≠ 57 → M4.1 c = M1.1 c := fun c h1 h2 => f4.row h1 h2
    have next : ∀ M' : Mem, (M'.1 52 5).toInt = ((stG N m s a (k + 1)).1 : Int) → (∀ i, i < (stG N m s a (k + 1)).1 → M'.1 53 i = (stG N m s a (k + 1)).2.1 i) → (∀ i, i < (stG N m s a (k + 1)).1 → M'.1 54 i = (stG N m s a (k + 1)).2.2 i) → FrD M M' → ∀ y : Int32, y = Int32.ofNat (a + k) + 1 → P (y, M') := fun M' h1 h2 h3 h5 y ey => by
      refine hP (y, M') (by omega) ⟨?_, h1, h2, h3, h5⟩
      show y.toInt = ((a + (k + 1) : Nat) : Int)
      rw [ey, ← Nat.add_assoc]
      exact ix_a (ti_ofNat (by omega)) rfl (by omega)
    rw [show M4.1 (52 + 4) 1 = M4.1 56 1 from rfl, le_i, h4.1, f0]
    refine ⟨fun g0 => ?_, fun g0 => ?_⟩
    · have e0 : (gatR N m s (a + k)).1 = 0 := by omega
      refine next M4 ?_ ?_ ?_ F4
      · rw [stG, if_pos e0, s4]; exact hs
      · rw [stG, if_pos e0, a4 53 (by decide) (by decide)]; exact hB
      · rw [stG, if_pos e0, a4 54 (by decide) (by decide)]; exact hD
    · have e0 : ¬ (gatR N m s (a + k)).1 = 0 := by omega
      have E5 : (M4.1 52 5).toInt = ((stG N m s a k).1 : Int) := by rw [s4]; exact hs
      refine ⟨vp_of E5 (by omega), fun M8 e8 => ?_⟩
      rw [i_of E5] at e8
      have H8 : Hd 56 1 57 (gatR N m s (a + k)).1 (gatR N m s (a + k)).2 M8 := ⟨by rw [e8, uI_k (by decide)]; exact h4.1, fun i hi => by rw [e8, uI_k (by decide)]; exact h4.2 i hi⟩
      refine e_middle (o := 56) H8 g200 ?_
      rw [if_neg e0]
      have E8 : (M8.1 52 5).toInt = ((stG N m s a k).1 : Int) := by rw [e8, uI_k (by decide)]; exact E5
      refine ⟨vp_of E8 (by omega), fun M12 e12 M13 e13 => next M13 ?_ (fun i hi => ?_) (fun i hi => ?_) ?_⟩
      · rw [i_of E8] at e12
        rw [e13, uI_s, stG, if_neg e0]
        have : (M12.1 52 5).toInt = ((stG N m s a k).1 : Int) := by rw [e12, uI_k (by decide)]; exact E8
        exact ix_a this rfl (by omega)
      · rw [stG, if_neg e0] at hi ⊢
        rw [i_of E8] at e12
        rw [e13, uI_k (by decide), e12, uI_k (by decide), e8]
        show (uI M4 53 _ _).1 53 i = upN _ _ _ i
        by_cases e : i = (stG N m s a k).1
        · subst e; rw [uI_s, upN_s]
        · rw [uI_j e, upN_o e, a4 53 (by decide) (by decide)]
          have hi : i < (stG N m s a k).1 + 1 := hi
          exact hB i (by omega)
      · rw [stG, if_neg e0] at hi ⊢
        rw [i_of E8] at e12
        rw [e13, uI_k (by decide), e12]
        show (uI M8 54 _ _).1 54 i = upN _ _ _ i
        by_cases e : i = (stG N m s a k).1
        · subst e; rw [uI_s, upN_s]
        · rw [uI_j e, upN_o e, e8, uI_k (by decide), a4 54 (by decide) (by decide)]
          have hi : i < (stG N m s a k).1 + 1 := hi
          exact hD i (by omega)
      · rw [e13, e12, e8]
        exact F4.tr ((frd_u (by decide)).tr ((frd_u (by decide)).tr (frd_u (by decide))))

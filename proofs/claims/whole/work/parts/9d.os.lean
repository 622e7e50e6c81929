/-! the reader of the model, small steps -/
def nop : List Itm → Nat
  | [] => 0
  | (c, _) :: s => if c < 1000 then nop s + 1 else nop s
theorem nop_le : ∀ s : List Itm, nop s ≤ s.length := by
  intro s
  induction s with
  | nil => exact Nat.le_refl _
  | cons x s ih =>
    obtain ⟨c, l⟩ := x
    rw [nop, List.length_cons]
    split <;> omega
def SR (K : Nat → Int64) (M : Mem) : List Itm → Prop
  | [] => True
  | (c, l) :: s => M.1 152 s.length = c ∧ (c < 1000 → M.2.1 151 (nop s) = l K) ∧ SR K M s
theorem sr_fr {K : Nat → Int64} {M M' : Mem} : ∀ s : List Itm, (∀ i, i < s.length → M'.1 152 i = M.1 152 i) → (∀ i, i < nop s → M'.2.1 151 i = M.2.1 151 i) → SR K M s → SR K M' s := by
  intro s
  induction s with
  | nil => intro _ _ _; trivial
  | cons x s ih =>
    obtain ⟨c, l⟩ := x
    intro h1 h2 h
    obtain ⟨a, b, d⟩ := h
    rw [List.length_cons] at h1
    have le : nop s ≤ nop ((c, l) :: s) := by rw [nop]; split <;> omega
    refine ⟨by rw [h1 _ (by omega)]; exact a, fun hc => ?_, ih (fun i hi => h1 i (by omega)) (fun i hi => h2 i (by omega)) d⟩
    rw [h2 _ (by rw [nop, if_pos hc]; omega)]
    exact b hc
def FrS (M M' : Mem) : Prop := (∀ a b, ¬ (a = 135 ∧ (b = 22 ∨ b = 23 ∨ b = 25 ∨ b = 27)) → a ≠ 152 → M'.1 a b = M.1 a b) ∧ (∀ a b, ¬ (a = 135 ∧ b = 29) → a ≠ 151 → M'.2.1 a b = M.2.1 a b) ∧ M'.2.2 = M.2.2
theorem FrS.rf {M : Mem} : FrS M M := ⟨fun _ _ _ _ => rfl, fun _ _ _ _ => rfl, rfl⟩
theorem FrS.tr {M M' M'' : Mem} (h : FrS M M') (h' : FrS M' M'') : FrS M M'' := ⟨fun a b h1 h2 => (h'.1 a b h1 h2).trans (h.1 a b h1 h2), fun a b h1 h2 => (h'.2.1 a b h1 h2).trans (h.2.1 a b h1 h2), h'.2.2.trans h.2.2⟩
theorem FrS.n {M M' : Mem} (h : FrS M M') : M'.1 136 = M.1 136 := by funext b; exact h.1 136 b (fun x => absurd x.1 (by decide)) (by decide)
theorem FrS.m {M M' : Mem} (h : FrS M M') : FM M M' := ⟨fun a ha => by funext b; exact h.1 a b (by omega) (by omega), fun a ha => by funext b; exact h.2.1 a b (by omega) (by omega), h.2.2⟩
theorem frs_I {M : Mem} {b : Nat} {v : Int32} (h : b = 22 ∨ b = 23 ∨ b = 25 ∨ b = 27) : FrS M (uI M 135 b v) := ⟨fun a c h1 _ => if_neg (fun x => h1 ⟨x.1, by rw [x.2]; exact h⟩), fun _ _ _ _ => rfl, rfl⟩
theorem frs_G {M : Mem} {b : Nat} {v : Int32} : FrS M (uI M 152 b v) := ⟨fun a c _ h2 => if_neg (fun x => h2 x.1), fun _ _ _ _ => rfl, rfl⟩
theorem frs_V {M : Mem} {b : Nat} {v : Int64} : FrS M (uJ M 151 b v) := ⟨fun _ _ _ _ => rfl, fun a c _ h2 => if_neg (fun x => h2 x.1), rfl⟩
theorem frs_T {M : Mem} {v : Int64} : FrS M (uJ M 135 29 v) := ⟨fun _ _ _ _ => rfl, fun a c h1 _ => if_neg h1, rfl⟩
def MBr (n : Nat) (M0 : Mem) (p : Nat) (f : Int32) (M : Mem) : Prop := M.1 135 23 = f ∧ (M.1 135 22).toInt = (p : Int) ∧ p ≤ n ∧ FrS M0 M
def WSt (K : Nat → Int64) (s : List Itm) (M : Mem) : Prop := (M.1 135 27).toInt = (s.length : Int) ∧ (M.1 135 25).toInt = (nop s : Int) ∧ SR K M s
def VSt (K : Nat → Int64) (s : List Itm) (v : VF) (M : Mem) : Prop := (M.1 135 27).toInt = (s.length : Int) ∧ (M.1 135 25).toInt = ((nop s + 1 : Nat) : Int) ∧ SR K M s ∧ M.2.1 151 (nop s) = v K
theorem sr_eq {K : Nat → Int64} {M M' : Mem} (s : List Itm) (h1 : M'.1 152 = M.1 152) (h2 : M'.2.1 151 = M.2.1 151) (h : SR K M s) : SR K M' s := sr_fr s (fun i _ => by rw [h1]) (fun i _ => by rw [h2]) h
theorem w_u {K : Nat → Int64} {s : List Itm} {M : Mem} {b : Nat} {v : Int32} (h1 : b ≠ 25) (h2 : b ≠ 27) (h : WSt K s M) : WSt K s (uI M 135 b v) := by
  obtain ⟨a, c, d⟩ := h
  refine ⟨by rw [uI_j (fun e => h2 e.symm)]; exact a, by rw [uI_j (fun e => h1 e.symm)]; exact c, sr_eq (M := M) s (by funext i; exact uI_k (by decide)) rfl d⟩
theorem v_u {K : Nat → Int64} {s : List Itm} {u : VF} {M : Mem} {b : Nat} {v : Int32} (h1 : b ≠ 25) (h2 : b ≠ 27) (h : VSt K s u M) : VSt K s u (uI M 135 b v) := by
  obtain ⟨a, c, d, e⟩ := h
  refine ⟨by rw [uI_j (fun e => h2 e.symm)]; exact a, by rw [uI_j (fun e => h1 e.symm)]; exact c, sr_eq (M := M) s (by funext i; exact uI_k (by decide)) rfl d, e⟩
theorem s_rank {c : Int32} {M : Mem} {q : Int32 → Mem → Prop} (h : q (Int32.ofNat (rkI c)) M) : w_X12_rank c M q := by
  unfold w_X12_rank
  refine ⟨fun e => ?_, fun e => ?_, fun e => ?_, fun e => ?_, fun e => ?_, fun e => ?_, fun e => ?_, fun e => ?_, fun e => ?_, fun a1 a2 a3 a4 a5 a6 a7 a8 a9 => ?_⟩
  all_goals first
    | (rw [e] at h; exact h)
    | skip
  have : rkI c = 0 := by
    unfold rkI
    rw [if_neg a9, if_neg a1, if_neg (fun x => by rcases x with x | x | x; exact a6 x; exact a8 x; exact a7 x), if_neg (fun x => by rcases x with x | x; exact a3 x; exact a4 x), if_neg (fun x => by rcases x with x | x; exact a2 x; exact a5 x)]
  rw [this] at h
  exact h
theorem s_nameOf {c : Int32} {M : Mem} {q : Int32 → Mem → Prop} (h : q (if nm c < 6 then Int32.ofNat (nm c) else -1) M) : w_X12_nameOf c M q := by
  unfold w_X12_nameOf
  refine ⟨fun a1 => ⟨fun a2 => ⟨fun a3 => ⟨fun a4 => ⟨fun a5 => ⟨fun a6 => ?_, fun e => ?_⟩, fun e => ?_⟩, fun e => ?_⟩, fun e => ?_⟩, fun e => ?_⟩, fun e => ?_⟩
  · have : nm c = 6 := by
      unfold nm
      rw [if_neg a1, if_neg a2, if_neg a3, if_neg a4, if_neg a5, if_neg a6]
    rw [this] at h
    exact h
  all_goals (rw [e] at h; exact h)
section
variable {n : Nat} {K : Nat → Int64} {M0 : Mem}
theorem mb_u {p : Nat} {f : Int32} {M : Mem} {b : Nat} {v : Int32} (h : MBr n M0 p f M) (hb : b = 25 ∨ b = 27) : MBr n M0 p f (uI M 135 b v) := by
  obtain ⟨a, c, d, e⟩ := h
  exact ⟨by rw [uI_j (by omega)]; exact a, by rw [uI_j (by omega)]; exact c, d, e.tr (frs_I (by omega))⟩
theorem mb_G {p : Nat} {f : Int32} {M : Mem} {b : Nat} {v : Int32} (h : MBr n M0 p f M) : MBr n M0 p f (uI M 152 b v) := by
  obtain ⟨a, c, d, e⟩ := h
  exact ⟨by rw [uI_k (by decide)]; exact a, by rw [uI_k (by decide)]; exact c, d, e.tr frs_G⟩
theorem mb_V {p : Nat} {f : Int32} {M : Mem} {b : Nat} {v : Int64} (h : MBr n M0 p f M) : MBr n M0 p f (uJ M 151 b v) := by
  obtain ⟨a, c, d, e⟩ := h
  exact ⟨a, c, d, e.tr frs_V⟩
theorem mb_p {p p' : Nat} {f : Int32} {M : Mem} {v : Int32} (h : MBr n M0 p f M) (hv : v.toInt = (p' : Int)) (hp : p' ≤ n) : MBr n M0 p' f (uI M 135 22 v) := by
  obtain ⟨a, c, d, e⟩ := h
  exact ⟨by rw [uI_j (by decide)]; exact a, by rw [uI_s]; exact hv, hp, e.tr (frs_I (by omega))⟩
theorem mb_f {p : Nat} {f g : Int32} {M : Mem} (h : MBr n M0 p f M) : MBr n M0 p g (uI M 135 23 g) := by
  obtain ⟨a, c, d, e⟩ := h
  exact ⟨by rw [uI_s], by rw [uI_j (by decide)]; exact c, d, e.tr (frs_I (by omega))⟩
theorem s_works {p : Nat} {f c : Int32} {l v : VF} {s : List Itm} {M : Mem} {q : Mem → Prop} (hc : c < 1000) (hl : s.length < 50) (hM : MBr n M0 p f M) (hV : VSt K ((c, l) :: s) v M) (h : ∀ M', MBr n M0 p f M' → VSt K s (fun K => ap c (l K) (v K)) M' → q M') : w_X12_works M q := by
  obtain ⟨h1, h2, h3, h4⟩ := hV
  rw [List.length_cons] at h1
  have np : nop ((c, l) :: s) = nop s + 1 := by rw [nop, if_pos hc]
  rw [np] at h2 h4
  have nl := nop_le s
  obtain ⟨g1, g2, g3⟩ := h3
  unfold w_X12_works
  intro M3 e3 M4 e4
  have z3 : M3.1 135 25 = M.1 135 25 := by rw [e3, uI_j (by decide)]
  have a27 : (M4.1 135 27).toInt = (s.length : Int) := by
    rw [e4, uI_j (by decide), e3, uI_s]
    exact ix_s h1 (w := 1) (i := 1) rfl (by omega)
  have a25 : (M4.1 135 25).toInt = ((nop s + 1 : Nat) : Int) := by
    rw [e4, uI_s, z3]
    exact ix_s h2 (w := 1) (i := 1) rfl (by omega)
  have b25 := ix_s a25 (w := 1) (i := 1) rfl (by omega)
  rw [show nop s + 1 - 1 = nop s from by omega] at b25
  have v4 : M4.2.1 151 = M.2.1 151 := by rw [e4, e3]; rfl
  have s4 : M4.1 152 = M.1 152 := by
    funext i
    rw [e4, uI_k (by decide), e3, uI_k (by decide)]
  have B4 : MBr n M0 p f M4 := by rw [e4, e3]; exact mb_u (mb_u hM (Or.inr rfl)) (Or.inl rfl)
  rw [i_of b25, i_of a25, i_of a27, v4, s4, g1, g2 hc, h4]
  refine ⟨vp_of b25 (by omega), fun x6 e6 => ⟨vp_of a25 (by omega), fun x8 e8 => ⟨vp_of a27 (by omega), ?_⟩⟩⟩
  have key : ∀ x, x = ap c x6 x8 → w_X12_works_b259 x M4 q := fun x ex => by
    unfold w_X12_works_b259
    refine ⟨vp_of b25 (by omega), fun M2 e2 => ?_⟩
    rw [i_of b25] at e2
    refine h M2 (by rw [e2]; exact mb_V B4) ⟨by rw [e2]; exact a27, by rw [e2]; exact a25, ?_, ?_⟩
    · refine sr_fr s (fun i _ => by rw [e2]; show M4.1 152 i = _; rw [s4]) (fun i hi => ?_) g3
      rw [e2]
      show (if 151 = 151 ∧ i = nop s then x else M4.2.1 151 i) = _
      rw [if_neg (fun y => by have := y.2; omega), v4]
    · rw [e2]
      show (if 151 = 151 ∧ nop s = nop s then x else M4.2.1 151 (nop s)) = _
      rw [if_pos ⟨rfl, rfl⟩, ex, e6, e8]
  unfold w_X12_works_b166 w_X12_works_b140 w_X12_works_b167 w_X12_works_b183 w_X12_works_b215 w_X12_works_b199 w_X12_works_b145 w_X12_works_b257
  refine ⟨fun e => ?_, fun e => ?_, fun e => ?_, fun e => ?_, fun e => ?_, fun e => ?_, fun e => ?_, fun e => ?_, fun a1 a2 a3 a4 a5 a6 a7 a8 => ?_⟩
  · have ea : ap c x6 x8 = if x6 = 0 then 0 else if x8 = 0 then 0 else 1 := by rw [e]; rfl
    exact ⟨fun z => key _ (by rw [ea, if_pos z]), fun z => ⟨fun z2 => key _ (by rw [ea, if_neg z, if_pos z2]), fun z2 => key _ (by rw [ea, if_neg z, if_neg z2])⟩⟩
  · exact fun x12 e12 => key _ (by rw [e, e12]; rfl)
  · exact fun x12 e12 => key _ (by rw [e, e12]; rfl)
  · exact fun x12 e12 => key _ (by rw [e, e12]; rfl)
  · have ea : ap c x6 x8 = if x8 ≤ x6 then 0 else 1 := by rw [e]; rfl
    exact ⟨fun z => key _ (by rw [ea, if_pos z]), fun z => key _ (by rw [ea, if_neg z])⟩
  · have ea : ap c x6 x8 = if x6 = x8 then 1 else 0 := by rw [e]; rfl
    exact ⟨fun z => key _ (by rw [ea, if_neg z]), fun z => key _ (by rw [ea, if_pos z])⟩
  · have ea : ap c x6 x8 = if x6 ≤ x8 then 0 else 1 := by rw [e]; rfl
    exact ⟨fun z => key _ (by rw [ea, if_pos z]), fun z => key _ (by rw [ea, if_neg z])⟩
  · have ea : ap c x6 x8 = if x6 = 0 then (if x8 = 0 then 0 else 1) else 1 := by rw [e]; rfl
    exact ⟨fun z => key _ (by rw [ea, if_neg z]), fun z => ⟨fun z2 => key _ (by rw [ea, if_pos z, if_pos z2]), fun z2 => key _ (by rw [ea, if_pos z, if_neg z2])⟩⟩
  · have ea : ap c x6 x8 = if x8 = 0 then 0 else x6 / x8 := by
      unfold ap
      rw [if_neg a8, if_neg a1, if_neg a5, if_neg a7, if_neg a6, if_neg a3, if_neg a4, if_neg a2]
    exact ⟨fun z => ⟨z, key _ (by rw [ea, if_neg z])⟩, fun z => key _ (by rw [ea, if_pos z])⟩
theorem s_down {p r : Nat} {f v1 : Int32} {v : VF} {s : List Itm} {M : Mem} {q : Mem → Prop} (h1 : v1.toInt = (r : Int)) (hl : s.length ≤ 50) (hM : MBr n M0 p f M) (hV : VSt K s v M) (h : ∀ M', MBr n M0 p f M' → VSt K (red r s v).1 (red r s v).2 M' → q M') : w_X12_worksDown v1 M q := by
  unfold w_X12_worksDown w_X12_worksDown_l0
  refine lfp_intro (fun (t : Mem) => ∃ s' v', s'.length ≤ 50 ∧ MBr n M0 p f t ∧ VSt K s' v' t ∧ red r s' v' = red r s v) (fun t => (t.1 135 27).toInt.toNat) ?_ M ⟨s, v, hl, hM, hV, rfl⟩
  intro P M1 hJ hP
  obtain ⟨s', v', hl', hM1, hV1, hr⟩ := hJ
  have f0 : (0 : Int32).toInt = 0 := rfl
  have f1000 : (1000 : Int32).toInt = 1000 := rfl
  unfold w_X12_worksDown_l0F
  dsimp only
  cases s' with
  | nil =>
    have z : (M1.1 135 27).toInt = 0 := hV1.1
    rw [le_i, z, f0]
    refine ⟨fun _ => ?_, fun k => absurd (Int.le_refl 0) k⟩
    refine h M1 hM1 ?_
    rw [← hr]; exact hV1
  | cons x s' =>
    obtain ⟨c, l⟩ := x
    have z : (M1.1 135 27).toInt = ((s'.length + 1 : Nat) : Int) := hV1.1
    have z1 := ix_s z (w := 1) (i := 1) rfl (by omega)
    rw [show s'.length + 1 - 1 = s'.length from by omega] at z1
    rw [List.length_cons] at hl'
    have tc : M1.1 152 s'.length = c := hV1.2.2.1.1
    rw [le_i, z, f0, i_of z1, tc]
    refine ⟨fun k => by omega, fun _ => ⟨vp_of z1 (by omega), fun k => ?_, fun k => ⟨vp_of z1 (by omega), ?_⟩⟩⟩
    · refine h M1 hM1 ?_
      rw [← hr, red, if_neg]
      · exact hV1
      · intro x
        rw [le_i, f1000] at k
        have := x.1
        rw [lt_i, f1000] at this
        omega
    · have hc : c < 1000 := by
        rw [le_i, f1000] at k
        rw [lt_i, f1000]
        omega
      refine s_rank ?_
      have r5 := rk_5 c
      rw [lt_i, ti_ofNat (by omega), h1]
      refine ⟨fun k2 => ?_, fun k2 => ?_⟩
      · refine h M1 hM1 ?_
        rw [← hr, red, if_neg (fun x => by have := x.2; omega)]
        exact hV1
      · refine s_works hc (by omega) hM1 hV1 (fun M8 B8 V8 => hP M8 ⟨s', _, by omega, B8, V8, ?_⟩ ?_)
        · rw [← hr]
          conv => rhs; rw [red, if_pos ⟨hc, by omega⟩]
        · rw [V8.1, z]; omega
theorem s_stands {p : Nat} {f : Int32} {u : VF} {s : List Itm} {M : Mem} {x : Int64} {q : Mem → Prop} (hx : x = u K) (hl : s.length ≤ 50) (hM : MBr n M0 p f M) (hW : WSt K s M) (h : ∀ M', MBr n M0 p f M' → VSt K (mrk s u).1 (mrk s u).2 M' → q M') : w_X12_stands x M q := by
  unfold w_X12_stands w_X12_stands_l2
  refine lfp_intro (fun (t : Int64 × Mem) => ∃ s' v', s'.length ≤ 50 ∧ t.1 = v' K ∧ MBr n M0 p f t.2 ∧ WSt K s' t.2 ∧ mrk s' v' = mrk s u) (fun t => (t.2.1 135 27).toInt.toNat) ?_ (x, M) ⟨s, u, hl, hx, hM, hW, rfl⟩
  intro P st hJ hP
  obtain ⟨v3, M1⟩ := st
  obtain ⟨s', v', hl', hx0, hM0', hW0, hr⟩ := hJ
  have hx1 : v3 = v' K := hx0
  have hM1 : MBr n M0 p f M1 := hM0'
  have hW1 : WSt K s' M1 := hW0
  clear hx0 hM0' hW0
  have f0 : (0 : Int32).toInt = 0 := rfl
  have f1000 : (1000 : Int32).toInt = 1000 := rfl
  have nl := nop_le s'
  have fin : mrk s' v' = (s', v') → w_X12_stands_b73 v3 M1 q := fun e => by
    unfold w_X12_stands_b73
    refine ⟨vp_of hW1.2.1 (by omega), fun M2 e2 M3 e3 => ?_⟩
    rw [i_of hW1.2.1] at e2
    have z25 : M2.1 135 25 = M1.1 135 25 := by rw [e2]; rfl
    rw [z25] at e3
    refine h M3 (by rw [e3, e2]; exact mb_u (mb_V hM1) (Or.inl rfl)) ?_
    rw [← hr, e]
    refine ⟨?_, ?_, ?_, ?_⟩
    · rw [e3, uI_j (by decide), e2]; exact hW1.1
    · show (M3.1 135 25).toInt = ((nop s' + 1 : Nat) : Int)
      rw [e3, uI_s]; exact ix_a hW1.2.1 rfl (by omega)
    · refine sr_fr s' (fun i _ => by rw [e3, uI_k (by decide), e2]; rfl) (fun i hi => ?_) hW1.2.2
      rw [e3, e2]
      show (if 151 = 151 ∧ i = nop s' then v3 else M1.2.1 151 i) = _
      rw [if_neg (fun y => by have := y.2; omega)]
    · rw [e3, e2]
      show (if 151 = 151 ∧ nop s' = nop s' then v3 else M1.2.1 151 (nop s')) = _
      rw [if_pos ⟨rfl, rfl⟩, hx1]
  unfold w_X12_stands_l2F
  dsimp only
  cases s' with
  | nil =>
    have z : (M1.1 135 27).toInt = 0 := hW1.1
    rw [le_i, z, f0]
    exact ⟨fun _ => fin rfl, fun k => absurd (Int.le_refl 0) k⟩
  | cons y s' =>
    obtain ⟨c, l⟩ := y
    have z : (M1.1 135 27).toInt = ((s'.length + 1 : Nat) : Int) := hW1.1
    have z1 := ix_s z (w := 1) (i := 1) rfl (by omega)
    rw [show s'.length + 1 - 1 = s'.length from by omega] at z1
    rw [List.length_cons] at hl'
    have tc : M1.1 152 s'.length = c := hW1.2.2.1
    rw [le_i, z, f0, i_of z1, tc]
    refine ⟨fun k => by omega, fun _ => ⟨vp_of z1 (by omega), fun k => fin ?_, fun k => ⟨vp_of z1 (by omega), ?_⟩⟩⟩
    · rw [mrk, if_neg]
      intro x
      rw [le_i, f1000] at k
      rw [lt_i, f1000] at x
      omega
    · have hc : (1000 : Int32) < c := by
        rw [le_i, f1000] at k
        rw [lt_i, f1000]
        omega
      have pop : ∀ t0 : Int64, t0 = mk1 c v3 → w_X12_stands_b59 t0 M1 q P := fun t0 e0 => by
        unfold w_X12_stands_b59
        intro M4 e4
        have n0 : nop ((c, l) :: s') = nop s' := by
          rw [nop, if_neg]
          intro x
          rw [lt_i] at x hc
          omega
        have b27 : (M4.1 135 27).toInt = (s'.length : Int) := by rw [e4, uI_s]; exact z1
        refine hP (t0, M4) ⟨s', fun K => mk1 c (v' K), by omega, by show t0 = _; rw [e0, hx1], by rw [e4]; exact mb_u hM1 (Or.inr rfl), ⟨b27, ?_, ?_⟩, ?_⟩ ?_
        · show (M4.1 135 25).toInt = _
          rw [e4, uI_j (by decide), ← n0]; exact hW1.2.1
        · exact sr_eq s' (by funext i; show M4.1 152 i = _; rw [e4]; exact uI_k (by decide)) (by show M4.2.1 151 = _; rw [e4]; rfl) hW1.2.2.2.2
        · rw [← hr]
          conv => rhs; rw [mrk, if_pos hc]
        · show (M4.1 135 27).toInt.toNat < (M1.1 135 27).toInt.toNat
          rw [b27, z]; omega
      refine ⟨fun k1 => pop _ (by unfold mk1; rw [if_neg k1]), fun k1 => ⟨fun k2 => pop _ (by unfold mk1; rw [if_pos k1, if_neg k2]), fun k2 => pop _ (by unfold mk1; rw [if_pos k1, if_pos k2])⟩⟩
end

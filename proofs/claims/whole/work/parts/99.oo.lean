/-! the reader of the program, small steps -/
def BSr (T : Nat → Int32) (n : Nat) (K : Nat → Int64) (M0 : Mem) : Prop := (M0.1 68 2).toInt = (n : Int) ∧ n ≤ 40 ∧ (∀ i, i < n → M0.1 69 i = T i) ∧ ∀ i, i < 6 → M0.2.1 70 i = K i
def CS (n : Nat) (M0 : Mem) (p : Nat) (f : Int32) (M : Mem) : Prop := M.1 68 0 = f ∧ (M.1 68 3).toInt = (p : Int) ∧ p ≤ n ∧ (∀ a b, ¬ (a = 68 ∧ (b = 0 ∨ b = 3)) → M.1 a b = M0.1 a b) ∧ M.2 = M0.2
def Rc (T : Nat → Int32) (n : Nat) (S0 S : SM) : Prop := ∀ r, Ev T n S r → Ev T n S0 r
def FA (T : Nat → Int32) (n : Nat) (M0 : Mem) (S0 : SM) (M : Mem) : Prop := ∃ f p, ¬ f = -1 ∧ CS n M0 p f M ∧ Ev T n S0 (Sum.inl f)
def NC (T : Nat → Int32) (n r p : Nat) (s : List Itm) (u : VF) : Prop := r ≤ 5 → Qp T n p ∧ (r ≤ rkI (chr T n p) → rkI (chr T n p) = 3 ∧ top3 (red 4 s u).1 = true)
def Jl (T : Nat → Int32) (n : Nat) (K : Nat → Int64) (M0 : Mem) (S0 : SM) (r r' : Nat) (stk : List Itm) (p0 i : Nat) (A : Nat → Prop) (v : Int64) (M : Mem) : Prop := FA T n M0 S0 M ∨ ∃ p u s w, p0 < p ∧ i ≤ p ∧ CS n M0 p (-1) M ∧ Rc T n S0 (p, some u, s) ∧ red r s u = (stk, w) ∧ v = w K ∧ NC T n r' p s u ∧ A p
abbrev Po (T : Nat → Int32) (n : Nat) (K : Nat → Int64) (M0 : Mem) (S0 : SM) (r : Nat) (stk : List Itm) (p0 : Nat) (v : Int64) (M : Mem) : Prop := Jl T n K M0 S0 r r stk p0 0 (fun _ => True) v M
section
variable {T : Nat → Int32} {n : Nat} {K : Nat → Int64} {M0 : Mem} {S0 : SM}
theorem cs_p {p p' : Nat} {f : Int32} {M : Mem} {x : Int32} (h : CS n M0 p f M) (hx : x.toInt = (p' : Int)) (hp : p' ≤ n) : CS n M0 p' f (uI M 68 3 x) := by
  obtain ⟨h1, h2, h3, h4, h5⟩ := h
  refine ⟨by rw [uI_j (by decide)]; exact h1, by rw [uI_s]; exact hx, hp, fun a b hab => ?_, h5⟩
  rw [← h4 a b hab]
  exact if_neg (fun x => hab ⟨x.1, Or.inr x.2⟩)
theorem cs_f {p : Nat} {f g : Int32} {M : Mem} (h : CS n M0 p f M) : CS n M0 p g (uI M 68 0 g) := by
  obtain ⟨h1, h2, h3, h4, h5⟩ := h
  refine ⟨by rw [uI_s], by rw [uI_j (by decide)]; exact h2, h3, fun a b hab => ?_, h5⟩
  rw [← h4 a b hab]
  exact if_neg (fun x => hab ⟨x.1, Or.inl x.2⟩)
theorem cs_n {p : Nat} {f : Int32} {M : Mem} (hB : BSr T n K M0) (h : CS n M0 p f M) : (M.1 68 2).toInt = (n : Int) := by rw [h.2.2.2.1 68 2 (by decide)]; exact hB.1
theorem cs_t {p i : Nat} {f : Int32} {M : Mem} (hB : BSr T n K M0) (h : CS n M0 p f M) (hi : i < n) : M.1 69 i = T i := by rw [h.2.2.2.1 69 i (fun x => absurd x.1 (by decide))]; exact hB.2.2.1 i hi
theorem flt_n {p : Nat} {k : Int32} (hp : p ≤ 40) (hk : 0 ≤ k.toInt ∧ k.toInt ≤ 3) : ¬ flt p k = -1 := by
  unfold flt
  have e1 := ix_m (e := (10 : Int32)) (a := 10) rfl (ti_ofNat (show p < 2147483648 by omega)) (by omega)
  have e2 := ix_a e1 (ix_n hk.1) (by omega)
  rw [eq_i, e2]
  show ¬ ((10 * p + k.toInt.toNat : Nat) : Int) = -1
  omega
theorem s_ahead4 {p : Nat} {f : Int32} {M : Mem} {q : Int32 → Mem → Prop} (hB : BSr T n K M0) (hC : CS n M0 p f M) (h : ∀ M', CS n M0 (skp T n p) f M' → q (chr T n (skp T n p)) M') : w_X4_ahead 68 M q := by
  have n40 := hB.2.1
  unfold w_X4_ahead w_X4_ahead_l0
  refine lfp_intro (fun (t : Mem) => ∃ p', CS n M0 p' f t ∧ skp T n p' = skp T n p) (fun t => n - (t.1 68 3).toInt.toNat) ?_ M ⟨p, hC, rfl⟩
  intro P M1 hJ hP
  obtain ⟨p', hC1, hs⟩ := hJ
  have hn := cs_n hB hC1
  have h3 := hC1.2.1
  have le := hC1.2.2.1
  have out : Qp T n p' → w_X4_ahead_b38 68 M1 q := fun qp => by
    rw [skp_id qp] at hs
    have h := h M1 (by rw [← hs]; exact hC1)
    rw [← hs] at h
    unfold w_X4_ahead_b38
    rw [le_i, hn, h3]
    refine ⟨fun z => ?_, fun z => ⟨vp_of h3 (by omega), ?_⟩⟩
    · rw [chr_end (by omega)] at h
      exact h
    · unfold chr at h
      rw [if_pos (by omega)] at h
      rw [i_of h3, show M1.1 (68 + 1) p' = T p' from cs_t hB hC1 (by omega)]
      exact h
  unfold w_X4_ahead_l0F
  dsimp only
  rw [le_i, hn, h3]
  refine ⟨fun z => out (fun x => by omega), fun z => ⟨vp_of h3 (by omega), ?_⟩⟩
  rw [i_of h3, show M1.1 (68 + 1) p' = T p' from cs_t hB hC1 (by omega)]
  refine ⟨fun k => out (fun x => k x.2), fun k M6 e6 => ?_⟩
  have x3 := ix_a h3 (w := 1) (i := 1) rfl (by omega)
  refine hP M6 ⟨p' + 1, ?_, ?_⟩ ?_
  · rw [e6]; exact cs_p hC1 x3 (by omega)
  · rw [← hs, skp_sp ⟨by omega, k⟩]
  · rw [e6, uI_s, x3, h3]
    omega
theorem s_tk0 {p : Nat} {f : Int32} {M : Mem} {c : Int32} {q : Int32 → Mem → Prop} (hf : ¬ f = -1) (hC : CS n M0 p f M) (h : q 0 M) : w_X4_takes 68 c M q := by
  unfold w_X4_takes
  rw [hC.1]
  exact ⟨fun _ => h, fun k => absurd k hf⟩
theorem s_tk {p : Nat} {M : Mem} {c : Int32} {q : Int32 → Mem → Prop} (hc : ¬ c = -1) (hB : BSr T n K M0) (hC : CS n M0 p (-1) M) (h1 : chr T n (skp T n p) = c → ∀ M', CS n M0 (skp T n p + 1) (-1) M' → q 1 M') (h0 : ¬ chr T n (skp T n p) = c → ∀ M', CS n M0 (skp T n p) (-1) M' → q 0 M') : w_X4_takes 68 c M q := by
  unfold w_X4_takes
  rw [hC.1]
  refine ⟨fun k => absurd rfl k, fun _ => ?_⟩
  refine s_ahead4 hB hC (fun M2 C2 => ⟨fun k M5 e5 => h1 k M5 ?_, fun k => h0 k M2 C2⟩)
  have lt : skp T n p < n := by
    apply Nat.lt_of_not_le
    intro x
    rw [chr_end x] at k
    exact hc k.symm
  have n40 := hB.2.1
  rw [e5]
  exact cs_p C2 (ix_a C2.2.1 rfl (by omega)) (by omega)
theorem s_fail1 {p : Nat} {M : Mem} {k : Int32} {q : Int64 → Mem → Prop} (hC : CS n M0 p (-1) M) (h : ∀ M', CS n M0 p (flt p k) M' → q 0 M') : w_X4_fail 68 k M q := by
  unfold w_X4_fail
  rw [hC.1]
  refine ⟨fun x => absurd rfl x, fun _ M2 e2 => h M2 ?_⟩
  rw [i_nat hC.2.1] at e2
  rw [e2]
  exact cs_f hC
theorem s_fail0 {p : Nat} {f : Int32} {M : Mem} {k : Int32} {q : Int64 → Mem → Prop} (hf : ¬ f = -1) (hC : CS n M0 p f M) (h : q 0 M) : w_X4_fail 68 k M q := by
  unfold w_X4_fail
  rw [hC.1]
  exact ⟨fun _ => h, fun x => absurd x hf⟩
theorem s_isD {c : Int32} {M : Mem} {q : Int32 → Mem → Prop} (h : q (tf (isD c)) M) : w_X4_isDigit c M q := by
  have f1 : (48 : Int32).toInt = 48 := rfl
  have f2 : (57 : Int32).toInt = 57 := rfl
  unfold w_X4_isDigit
  rw [lt_i, lt_i, f1, f2]
  refine ⟨fun k => ?_, fun k => ⟨fun k2 => ?_, fun k2 => ?_⟩⟩
  · rw [tf0 (fun x => by have := x.1; omega)] at h; exact h
  · rw [tf0 (fun x => by have := x.2; omega)] at h; exact h
  · rw [tf1 ⟨by omega, by omega⟩] at h; exact h
theorem e_truth {v : Int32} {M : Mem} {q : Int64 → Mem → Prop} (h : q (if v = 0 then 0 else 1) M) : w_X4_truth v M q := by
  unfold w_X4_truth
  refine ⟨fun k => ?_, fun k => ?_⟩
  · rw [if_pos k] at h; exact h
  · rw [if_neg k] at h; exact h
/-! numbers -/
theorem dg_is : ∀ f p i, (∀ j, j < i → p + j < n ∧ isD (T (p + j))) → i ≤ f → (i < f → ¬ (p + i < n ∧ isD (T (p + i)))) → dg T n f p = i := by
  intro f
  induction f with
  | zero => intro p i _ h _; rw [dg]; omega
  | succ f ih =>
    intro p i h1 h2 h3
    cases i with
    | zero => rw [dg]; exact if_neg (h3 (by omega))
    | succ i =>
      rw [dg, if_pos (show p < n ∧ isD (T p) from h1 0 (by omega)), ih (p + 1) i (fun j hj => ?_) (by omega) (fun hj => ?_)]
      · have := h1 (j + 1) (by omega)
        rw [show p + 1 + j = p + (j + 1) from by omega]
        exact this
      · rw [show p + 1 + i = p + (i + 1) from by omega]
        exact h3 (by omega)
def Pb (T : Nat → Int32) (n : Nat) (K : Nat → Int64) (M0 : Mem) (S0 : SM) (k : List Itm) (p0 : Nat) (v : Int64) (M : Mem) : Prop := FA T n M0 S0 M ∨ ∃ p w, p0 < p ∧ CS n M0 p (-1) M ∧ Rc T n S0 (p, some (mrk k w).2, (mrk k w).1) ∧ v = w K
theorem s_number {p : Nat} {M : Mem} {k : List Itm} {q : Int64 → Mem → Prop} (hB : BSr T n K M0) (hC : CS n M0 p (-1) M) (hq : Qp T n p) (hd : isD (chr T n p)) (hE : Rc T n S0 (p, none, k)) (h : ∀ v M', Pb T n K M0 S0 k p v M' → q v M') : w_X4_number 68 M q := by
  have n40 := hB.2.1
  have lt : p < n := by
    apply Nat.lt_of_not_le
    intro x
    rw [chr_end x] at hd
    exact absurd hd (by decide)
  have hd0 : isD (T p) := by
    unfold chr at hd
    rw [if_pos lt] at hd
    exact hd
  have h3 := hC.2.1
  have hn := cs_n hB hC
  unfold w_X4_number w_X4_number_l4
  refine lfp_for (i0 := 0) (n := 6) (fun (i : Nat) (t : Int64 × Int32 × Mem) => t.2.1.toInt = (i : Int) ∧ t.2.2 = M ∧ t.1 = nu T p i ∧ ∀ j, j < i → p + j < n ∧ isD (T (p + j))) ?_ (by omega) ⟨rfl, rfl, rfl, fun j hj => by omega⟩
  intro P i st hi hJ hP
  obtain ⟨v1, v3, M1⟩ := st
  obtain ⟨ha0, hM0, hv0, hj⟩ := hJ
  have ha : v3.toInt = (i : Int) := ha0
  have hM : M1 = M := hM0
  have hv : v1 = nu T p i := hv0
  clear ha0 hM0 hv0
  subst hM
  have f6 : (6 : Int32).toInt = 6 := rfl
  have x6 := ix_a h3 (w := 6) (i := 6) rfl (by omega)
  have xi := ix_a h3 ha (by omega)
  have good : ∀ x : Int32, x.toInt = ((p + i : Nat) : Int) → ¬ (p + i < n ∧ isD (T (p + i))) → p + i ≤ n → ∀ M2 : Mem, M2 = uI M1 68 3 x → q v1 M2 := fun x ex nd le M2 e2 => by
    have d := dg_is (T := T) (n := n) 7 p i hj (by omega) (fun _ => nd)
    refine h v1 M2 (Or.inr ⟨p + i, fun _ => nu T p i, ?_, by rw [e2]; exact cs_p hC ex le, fun r hr => hE r (g_num hq hd (by omega) (by rw [d]; exact hr)), hv⟩)
    rcases Nat.eq_zero_or_pos i with z | z
    · rw [z] at nd; exact absurd ⟨lt, hd0⟩ nd
    · omega
  unfold w_X4_number_l4F
  dsimp only
  rw [le_i, le_i, le_i, f6, ha, hn, x6, xi]
  refine ⟨fun z => ?_, fun z => ?_⟩
  · have i6 : i = 6 := by omega
    have g6 : ∀ M2 : Mem, ¬ (p + 6 < n ∧ isD (T (p + 6))) → w_X4_number_b119 68 v1 M1 q := fun M2 nd => by
      unfold w_X4_number_b119
      refine good _ (by rw [x6, i6]) (by rw [i6]; exact nd) ?_
      have := (hj 5 (by omega)).1
      omega
    refine ⟨fun k1 => g6 M1 (fun x => by have := x.1; omega), fun k1 => ⟨vp_of x6 (by omega), ?_⟩⟩
    rw [i_of x6, show M1.1 (68 + 1) (p + 6) = T (p + 6) from cs_t hB hC (by omega)]
    refine s_isD ?_
    rw [tf_z]
    refine ⟨fun nd => g6 M1 (fun x => nd x.2), fun yd => ?_⟩
    refine s_fail1 hC (fun M9 C9 => h 0 M9 (Or.inl ⟨flt p 2, p, flt_n (by omega) (by decide), C9, hE _ (g_num7 hq hd ?_)⟩))
    refine dg_is 7 p 7 (fun j hj7 => ?_) (Nat.le_refl _) (fun x => by omega)
    by_cases e : j = 6
    · rw [e]; exact ⟨by omega, Classical.not_not.mp yd⟩
    · exact hj j (by omega)
  · have bb : ¬ (p + i < n ∧ isD (T (p + i))) → w_X4_number_b40 68 v1 v3 M1 q := fun nd => by
      unfold w_X4_number_b40
      refine good _ xi nd ?_
      rcases Nat.eq_zero_or_pos i with y | y
      · omega
      · have := (hj (i - 1) (by omega)).1
        omega
    refine ⟨fun k1 => bb (fun x => by have := x.1; omega), fun k1 => ⟨vp_of xi (by omega), ?_⟩⟩
    rw [i_of xi, show M1.1 (68 + 1) (p + i) = T (p + i) from cs_t hB hC (by omega)]
    refine s_isD ?_
    rw [tf_z]
    refine ⟨fun yd => ⟨vp_of xi (by omega), fun x17 e17 x18 e18 => ?_⟩, fun nd => bb (fun x => nd x.2)⟩
    refine hP (x17, x18, M1) (by omega) ⟨?_, rfl, ?_, fun j hj2 => ?_⟩
    · show x18.toInt = ((i + 1 : Nat) : Int)
      rw [e18]; exact ix_a ha rfl (by omega)
    · show x17 = nu T p (i + 1)
      rw [e17, i_of xi, show M1.1 (68 + 1) (p + i) = T (p + i) from cs_t hB hC (by omega), hv]
      rfl
    · by_cases e : j = i
      · rw [e]; exact ⟨by omega, Classical.not_not.mp yd⟩
      · exact hj j (by omega)
/-! names, brackets -/
theorem txb_nm {c : Int32} {i : Nat} (hi : i < 6) (h : txb i = c) : nm c = i := by
  have : i = 0 ∨ i = 1 ∨ i = 2 ∨ i = 3 ∨ i = 4 ∨ i = 5 := by omega
  rcases this with e | e | e | e | e | e <;> subst e <;> rw [← h] <;> decide
theorem txb_no {c : Int32} (h : ∀ j, j < 6 → ¬ txb j = c) : ¬ nm c < 6 := by
  have a0 : ¬ c = 110 := fun e => h 0 (by decide) e.symm
  have a1 : ¬ c = 109 := fun e => h 1 (by decide) e.symm
  have a2 : ¬ c = 108 := fun e => h 2 (by decide) e.symm
  have a3 : ¬ c = 103 := fun e => h 3 (by decide) e.symm
  have a4 : ¬ c = 112 := fun e => h 4 (by decide) e.symm
  have a5 : ¬ c = 98 := fun e => h 5 (by decide) e.symm
  unfold nm
  rw [if_neg a0, if_neg a1, if_neg a2, if_neg a3, if_neg a4, if_neg a5]
  omega
def VSa (T : Nat → Int32) (n : Nat) (K : Nat → Int64) (M0 : Mem) (S0 : SM) (V : Nat → Int32 → Mem → (Int64 → Mem → Prop) → Prop) (d : Nat) : Prop := ∀ (stk : List Itm) (v1 : Int32) (p : Nat) (M : Mem) (q : Int64 → Mem → Prop), tp 1 stk → opn stk = d → v1.toInt = (d : Int) → CS n M0 p (-1) M → Rc T n S0 (p, none, stk) → (∀ v M', Po T n K M0 S0 1 stk p v M' → q v M') → V 68 v1 M q
theorem s_bare {V : Nat → Int32 → Mem → (Int64 → Mem → Prop) → Prop} {p : Nat} {M : Mem} {k : List Itm} {v1 : Int32} {q : Int64 → Mem → Prop} (hB : BSr T n K M0) (hC : CS n M0 p (-1) M) (hc1 : ¬ chr T n (skp T n p) = 33) (hc2 : ¬ chr T n (skp T n p) = 45) (ho : v1.toInt = (opn k : Int)) (hV : opn k < 8 → VSa T n K M0 S0 V (opn k + 1)) (hE : Rc T n S0 (p, none, k)) (h : ∀ v M', Pb T n K M0 S0 k p v M' → q v M') : w_X4_bare V 68 v1 M q := by
  have n40 := hB.2.1
  unfold w_X4_bare
  refine s_ahead4 hB hC (fun M16 C16 => ?_)
  obtain ⟨p1, hp1⟩ : ∃ p1, p1 = skp T n p := ⟨_, rfl⟩
  rw [← hp1] at C16 hc1 hc2 ⊢
  have sq := skp_q (T := T) (n := n) p
  rw [← hp1] at sq
  have hq : Qp T n p1 := sq.1
  have hpp : p ≤ p1 := sq.2.1
  have hE1 : Rc T n S0 (p1, none, k) := fun r hr => hE r (ev_skp (by rw [← hp1]; exact hr))
  have h : ∀ v M', Pb T n K M0 S0 k p1 v M' → q v M' := fun v M' x => h v M' (by
    rcases x with x | ⟨p2, w, x1, x2⟩
    · exact Or.inl x
    · exact Or.inr ⟨p2, w, by omega, x2⟩)
  have p40 : p1 ≤ 40 := by have := C16.2.2.1; omega
  refine s_isD ?_
  rw [tf_z]
  refine ⟨fun nd => ?_, fun yd => s_number hB C16 hq (Classical.not_not.mp yd) hE1 (fun v M' x => h v M' x)⟩
  unfold w_X4_bare_l19
  refine lfp_for (i0 := 0) (n := 6) (fun (i : Nat) (t : Int32 × Mem) => t.1.toInt = (i : Int) ∧ t.2 = M16 ∧ ∀ j, j < i → ¬ txb j = chr T n p1) ?_ (by omega) ⟨rfl, rfl, fun j hj => by omega⟩
  intro P i st hi hJ hP
  obtain ⟨v3, M1⟩ := st
  obtain ⟨ha0, hM0, hj⟩ := hJ
  have ha : v3.toInt = (i : Int) := ha0
  have hM : M1 = M16 := hM0
  clear ha0 hM0
  subst hM
  have f6 : (6 : Int32).toInt = 6 := rfl
  have f8 : (8 : Int32).toInt = 8 := rfl
  have last : i = 6 → w_X4_bare_b70 V 68 v1 (chr T n p1) M1 q := fun e6 => by
    have n6 := txb_no (c := chr T n p1) (fun j hj6 => hj j (by omega))
    unfold w_X4_bare_b70
    rw [le_i, f8, ho]
    refine ⟨fun k40 => ⟨fun k8 => ?_, fun k8 => ?_⟩, fun k40 => ?_⟩
    · refine s_fail1 C16 (fun M3 C3 => h 0 M3 (Or.inl ⟨flt p1 3, p1, flt_n p40 (by decide), C3, hE1 _ (g_par8 hq k40 (by omega))⟩))
    · unfold w_X4_within
      intro M2 e2
      have lt : p1 < n := by
        apply Nat.lt_of_not_le
        intro x
        rw [chr_end x] at k40
        exact absurd k40 (by decide)
      have C2 : CS n M0 (p1 + 1) (-1) M2 := by rw [e2]; exact cs_p C16 (ix_a C16.2.1 rfl (by omega)) (by omega)
      refine hV (by omega) ((1000, fun _ => 0) :: k) _ (p1 + 1) M2 _ (Or.inl rfl) (by rw [opn, if_pos rfl]) (ix_a ho rfl (by omega)) C2 (fun r hr => hE1 r (g_par hq k40 (by omega) hr)) (fun v M3 po => ?_)
      rcases po with ⟨f, p2, x1, x2, x3⟩ | ⟨p2, u, s, w, y1, y2, y3, y4, y5, y6, y7, _⟩
      · refine s_tk0 x1 x2 ⟨fun x => absurd rfl x, fun _ => s_fail0 x1 x2 (h _ _ (Or.inl ⟨f, p2, x1, x2, x3⟩))⟩
      · have nc := y7 (by decide)
        have os : opn s = opn k + 1 := by
          have := opn_red (r := 1) s u
          rw [y5] at this
          rw [← this, opn, if_pos rfl]
        refine s_tk (by decide) hB y3 (fun kc M4 C4 => ⟨fun _ => ?_, fun x => absurd x (by decide)⟩) (fun kc M4 C4 => ⟨fun x => absurd rfl x, fun _ => ?_⟩)
        · rw [skp_id nc.1] at kc C4
          refine h v M4 (Or.inr ⟨p2 + 1, w, by omega, C4, fun r hr => y4 r (g_close nc.1 kc (by omega) ?_), y6⟩)
          rw [y5]
          exact hr
        · rw [skp_id nc.1] at kc C4
          have q40 : p2 ≤ 40 := by have := C4.2.2.1; omega
          refine s_fail1 C4 (fun M5 C5 => h v M5 (Or.inl ⟨flt p2 1, p2, flt_n q40 (by decide), C5, y4 _ ?_⟩))
          by_cases z : 1 ≤ rkI (chr T n p2)
          · have t := nc.2 z
            exact g_op3f nc.1 t.1 t.2
          · exact g_vbad nc.1 (fun x => kc x.1) (by omega) (fun x => by have := x.2; omega)
    · refine s_fail1 C16 (fun M3 C3 => h 0 M3 (Or.inl ⟨flt p1 1, p1, flt_n p40 (by decide), C3, hE1 _ (g_bad hq nd n6 hc1 hc2 k40)⟩))
  unfold w_X4_bare_l19F
  dsimp only
  rw [le_i, f6, ha]
  refine ⟨fun z => last (by omega), fun z => ⟨fun z2 => absurd z2 z, fun _ => ⟨vp_of ha (by omega), ?_⟩⟩⟩
  rw [i_of ha]
  refine ⟨fun kn x13 e13 => hP (x13, M1) (by omega) ⟨?_, rfl, fun j hj2 => ?_⟩, fun ky M14 e14 => ⟨vp_of ha (by omega), ?_⟩⟩
  · show x13.toInt = ((i + 1 : Nat) : Int)
    rw [e13]; exact ix_a ha rfl (by omega)
  · by_cases e : j = i
    · rw [e]; exact kn
    · exact hj j (by omega)
  · have i6 : i < 6 := by omega
    have nmi := txb_nm i6 ky
    have lt : p1 < n := by
      apply Nat.lt_of_not_le
      intro x
      rw [chr_end x] at nmi
      have : nm (-1) = 6 := by decide
      omega
    have C14 : CS n M0 (p1 + 1) (-1) M14 := by rw [e14]; exact cs_p C16 (ix_a C16.2.1 rfl (by omega)) (by omega)
    have kk : M14.2.1 (68 + 2) i = K i := by rw [C14.2.2.2.2]; exact hB.2.2.2 i i6
    rw [kk]
    refine h _ M14 (Or.inr ⟨p1 + 1, fun K => K (nm (chr T n p1)), by omega, C14, fun r hr => hE1 r (g_nm hq nd (by omega) hr), ?_⟩)
    show K i = K (nm (chr T n p1))
    rw [nmi]
end

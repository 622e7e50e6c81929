/-! the reader of the program: term to work -/
theorem rk_ne5 {c : Int32} (h1 : ¬ c = 42) (h2 : ¬ c = 47) : ¬ rkI c = 5 := by
  unfold rkI
  split
  · decide
  · split
    · decide
    · split
      · decide
      · split
        · decide
        · rw [if_neg (fun x => by rcases x with x | x; exact h1 x; exact h2 x)]
          decide
theorem rk_ne4 {c : Int32} (h1 : ¬ c = 43) (h2 : ¬ c = 45) : ¬ rkI c = 4 := by
  unfold rkI
  split
  · decide
  · split
    · decide
    · split
      · decide
      · rw [if_neg (fun x => by rcases x with x | x; exact h1 x; exact h2 x)]
        split <;> decide
theorem rk_ne3 {c : Int32} (h1 : ¬ c = 60) (h2 : ¬ c = 62) (h3 : ¬ c = 61) : ¬ rkI c = 3 := by
  unfold rkI
  split
  · decide
  · split
    · decide
    · rw [if_neg (fun x => by rcases x with x | x | x; exact h1 x; exact h2 x; exact h3 x)]
      split
      · decide
      · split <;> decide
theorem rk_ne2 {c : Int32} (h1 : ¬ c = 38) : ¬ rkI c = 2 := by
  unfold rkI
  rw [if_neg h1]
  repeat' split
  all_goals decide
theorem rk_ne1 {c : Int32} (h1 : ¬ c = 124) : ¬ rkI c = 1 := by
  unfold rkI
  rw [if_neg h1]
  repeat' split
  all_goals decide
theorem opn_op {c : Int32} {w : VF} {k : List Itm} (h : 0 < rkI c) : opn ((c, w) :: k) = opn k := by
  rw [opn, if_neg (fun e => by rw [e] at h; exact absurd h (by decide))]
section
variable {T : Nat → Int32} {n : Nat} {K : Nat → Int64} {M0 : Mem} {S0 : SM} {V : Nat → Int32 → Mem → (Int64 → Mem → Prop) → Prop}
theorem s_term {p : Nat} {M : Mem} {k : List Itm} {v1 : Int32} {q : Int64 → Mem → Prop} (hB : BSr T n K M0) (ht : tp 5 k) (hC : CS n M0 p (-1) M) (ho : v1.toInt = (opn k : Int)) (hV : opn k < 8 → VSa T n K M0 S0 V (opn k + 1)) (hE : Rc T n S0 (p, none, k)) (h : ∀ v M', Po T n K M0 S0 5 k p v M' → q v M') : w_X4_term V 68 v1 M q := by
  unfold w_X4_term
  refine s_unit hB (tp_up (by decide) ht) hC ho hV hE (fun r17 M16 p16 => ?_)
  unfold w_X4_term_l9
  refine lfp_for (i0 := 0) (n := 40) (fun (i : Nat) (t : Int64 × Int32 × Mem) => t.2.1.toInt = (i : Int) ∧ Jl T n K M0 S0 5 6 k p i (fun _ => True) t.1 t.2.2) ?_ (by omega) ⟨rfl, j_in ht p16⟩
  intro P i st hi hJ hP
  obtain ⟨v2, v4, M1⟩ := st
  obtain ⟨ha0, hJ0⟩ := hJ
  have ha : v4.toInt = (i : Int) := ha0
  have hJ : Jl T n K M0 S0 5 6 k p i (fun _ => True) v2 M1 := hJ0
  clear ha0 hJ0
  have f40 : (40 : Int32).toInt = 40 := rfl
  have nxt : ∀ (x : Int64) (M2 : Mem), i < 40 → Jl T n K M0 S0 5 6 k p (i + 1) (fun _ => True) x M2 → w_X4_term_b68 V 68 v1 x v4 M2 q P := fun x M2 hi2 J2 => by
    unfold w_X4_term_b68
    intro x1 e1
    refine hP (x, x1, M2) hi2 ⟨?_, J2⟩
    show x1.toInt = ((i + 1 : Nat) : Int)
    rw [e1]; exact ix_a ha rfl (by omega)
  unfold w_X4_term_l9F
  dsimp only
  rw [le_i, f40, ha]
  refine ⟨fun z => h v2 M1 (j_40 (by decide) hB (by rw [show (40 : Nat) = i from by omega]; exact hJ)), fun z => ?_⟩
  refine t_take (by decide) hB (by decide) hJ (op_go (by decide) (by decide) (by decide)) (fun M3 p3 w hp3 hi3 C3 E3 hv => ⟨fun x => absurd x (by decide), fun _ => ?_⟩) (fun M3 J3 => ⟨fun _ => ?_, fun x => absurd rfl x⟩)
  · refine s_unit hB (tp_op (by decide) (by decide)) C3 (by rw [opn_op (by decide)]; exact ho) (by rw [opn_op (by decide)]; exact hV) E3 (fun r14 M13 p13 x15 e15 => ?_)
    exact nxt x15 M13 (by omega) (j_next (c := 42) (by decide) ht (by decide) hp3 hi3 hv (by rw [e15]; rfl) p13)
  · refine t_take (by decide) hB (by decide) J3 (op_go (by decide) (by decide) (by decide)) (fun M6 p6 w hp6 hi6 C6 E6 hv => ⟨fun x => absurd x (by decide), fun _ => ?_⟩) (fun M6 J6 => ⟨fun _ => ?_, fun x => absurd rfl x⟩)
    · refine s_unit hB (tp_op (by decide) (by decide)) C6 (by rw [opn_op (by decide)]; exact ho) (by rw [opn_op (by decide)]; exact hV) E6 (fun r10 M9 p9 => ?_)
      refine ⟨fun z0 => ⟨z0, ?_⟩, fun z0 => ?_⟩
      · unfold w_X4_term_b67
        exact nxt _ M9 (by omega) (j_next (c := 47) (by decide) ht (by decide) hp6 hi6 hv (by show _ = if r10 = 0 then 0 else v2 / r10; rw [if_neg z0]) p9)
      · unfold w_X4_term_b67
        exact nxt _ M9 (by omega) (j_next (c := 47) (by decide) ht (by decide) hp6 hi6 hv (by show _ = if r10 = 0 then 0 else v2 / r10; rw [if_pos z0]) p9)
    · refine h v2 M6 (j_out (fun p' a => ⟨a.1, fun e => ?_⟩) J6)
      obtain ⟨a1, a2, p2, ⟨b1, b2, _⟩, a4⟩ := a
      rw [skp_id b1] at a4
      subst a4
      exact absurd e (rk_ne5 b2 a2)
theorem s_sum {p : Nat} {M : Mem} {k : List Itm} {v1 : Int32} {q : Int64 → Mem → Prop} (hB : BSr T n K M0) (ht : tp 4 k) (hC : CS n M0 p (-1) M) (ho : v1.toInt = (opn k : Int)) (hV : opn k < 8 → VSa T n K M0 S0 V (opn k + 1)) (hE : Rc T n S0 (p, none, k)) (h : ∀ v M', Po T n K M0 S0 4 k p v M' → q v M') : w_X4_sum V 68 v1 M q := by
  unfold w_X4_sum
  refine s_term hB (tp_up (by decide) ht) hC ho hV hE (fun r16 M15 p15 => ?_)
  unfold w_X4_sum_l9
  refine lfp_for (i0 := 0) (n := 40) (fun (i : Nat) (t : Int64 × Int32 × Mem) => t.2.1.toInt = (i : Int) ∧ Jl T n K M0 S0 4 5 k p i (fun _ => True) t.1 t.2.2) ?_ (by omega) ⟨rfl, j_in ht p15⟩
  intro P i st hi hJ hP
  obtain ⟨v2, v4, M1⟩ := st
  obtain ⟨ha0, hJ0⟩ := hJ
  have ha : v4.toInt = (i : Int) := ha0
  have hJ : Jl T n K M0 S0 4 5 k p i (fun _ => True) v2 M1 := hJ0
  clear ha0 hJ0
  have f40 : (40 : Int32).toInt = 40 := rfl
  have nxt : ∀ (x : Int64) (M2 : Mem), i < 40 → Jl T n K M0 S0 4 5 k p (i + 1) (fun _ => True) x M2 → w_X4_sum_b53 V 68 v1 x v4 M2 q P := fun x M2 hi2 J2 => by
    unfold w_X4_sum_b53
    intro x1 e1
    refine hP (x, x1, M2) hi2 ⟨?_, J2⟩
    show x1.toInt = ((i + 1 : Nat) : Int)
    rw [e1]; exact ix_a ha rfl (by omega)
  unfold w_X4_sum_l9F
  dsimp only
  rw [le_i, f40, ha]
  refine ⟨fun z => h v2 M1 (j_40 (by decide) hB (by rw [show (40 : Nat) = i from by omega]; exact hJ)), fun z => ?_⟩
  refine t_take (by decide) hB (by decide) hJ (op_go (by decide) (by decide) (by decide)) (fun M3 p3 w hp3 hi3 C3 E3 hv => ⟨fun x => absurd x (by decide), fun _ => ?_⟩) (fun M3 J3 => ⟨fun _ => ?_, fun x => absurd rfl x⟩)
  · refine s_term hB (tp_op (by decide) (by decide)) C3 (by rw [opn_op (by decide)]; exact ho) (by rw [opn_op (by decide)]; exact hV) E3 (fun r13 M12 p12 x14 e14 => ?_)
    exact nxt x14 M12 (by omega) (j_next (c := 43) (by decide) ht (by decide) hp3 hi3 hv (by rw [e14]; rfl) p12)
  · refine t_take (by decide) hB (by decide) J3 (op_go (by decide) (by decide) (by decide)) (fun M6 p6 w hp6 hi6 C6 E6 hv => ⟨fun x => absurd x (by decide), fun _ => ?_⟩) (fun M6 J6 => ⟨fun _ => ?_, fun x => absurd rfl x⟩)
    · refine s_term hB (tp_op (by decide) (by decide)) C6 (by rw [opn_op (by decide)]; exact ho) (by rw [opn_op (by decide)]; exact hV) E6 (fun r10 M9 p9 x11 e11 => ?_)
      exact nxt x11 M9 (by omega) (j_next (c := 45) (by decide) ht (by decide) hp6 hi6 hv (by rw [e11]; rfl) p9)
    · refine h v2 M6 (j_out (fun p' a => ⟨a.1, fun e => ?_⟩) J6)
      obtain ⟨a1, a2, p2, ⟨b1, b2, _⟩, a4⟩ := a
      rw [skp_id b1] at a4
      subst a4
      exact absurd e (rk_ne4 b2 a2)
theorem h_next {k : List Itm} {p0 p : Nat} {c : Int32} {w : VF} {v v' x : Int64} {M : Mem} (t : tp 3 k) (hr : rkI c = 3) (hp : p0 < p) (hv : v = w K) (hx : x = ap c v v') (h : Po T n K M0 S0 4 ((c, w) :: k) (p + 1) v' M) : Po T n K M0 S0 3 k p0 x M := by
  rcases h with y | ⟨p2, u, s, w2, y1, y2, y3, y4, y5, y6, y7, y8⟩
  · exact Or.inl y
  · refine Or.inr ⟨p2, u, s, fun K => ap c (w K) (w2 K), by omega, by omega, y3, y4, ?_, by rw [hx, hv, y6], fun _ => ?_, trivial⟩
    · rw [red_red (show 3 ≤ 4 by decide), y5]
      exact red_op (by decide) hr t
    · have z := y7 (by decide)
      refine ⟨z.1, fun x3 => ⟨?_, by rw [y5]; exact top3_op hr⟩⟩
      by_cases e : 4 ≤ rkI (chr T n p2)
      · have := (z.2 e).1; omega
      · omega
theorem s_held {p : Nat} {M : Mem} {k : List Itm} {v1 : Int32} {q : Int64 → Mem → Prop} (hB : BSr T n K M0) (ht : tp 3 k) (hC : CS n M0 p (-1) M) (ho : v1.toInt = (opn k : Int)) (hV : opn k < 8 → VSa T n K M0 S0 V (opn k + 1)) (hE : Rc T n S0 (p, none, k)) (h : ∀ v M', Po T n K M0 S0 3 k p v M' → q v M') : w_X4_held V 68 v1 M q := by
  unfold w_X4_held
  refine s_sum hB (tp_up (by decide) ht) hC ho hV hE (fun r8 M7 p7 => ?_)
  refine t_take (by decide) hB (by decide) p7 (op_go3 ht (by decide)) (fun M9 p9 w hp9 hi9 C9 E9 hv => ⟨fun x => absurd x (by decide), fun _ => ?_⟩) (fun M9 J9 => ⟨fun _ => ?_, fun x => absurd rfl x⟩)
  · refine s_sum hB (tp_op (by decide) (by decide)) C9 (by rw [opn_op (by decide)]; exact ho) (by rw [opn_op (by decide)]; exact hV) E9 (fun r25 M24 p24 => ⟨fun z0 => ?_, fun z0 => ?_⟩)
    · unfold w_X4_held_b30
      refine e_truth (h _ M24 (h_next (c := 60) ht (by decide) hp9 hv ?_ p24))
      show _ = if r25 ≤ r8 then 0 else 1
      rw [if_pos z0]; rfl
    · unfold w_X4_held_b30
      refine e_truth (h _ M24 (h_next (c := 60) ht (by decide) hp9 hv ?_ p24))
      show _ = if r25 ≤ r8 then 0 else 1
      rw [if_neg z0]; rfl
  · refine t_take (by decide) hB (by decide) J9 (op_go3 ht (by decide)) (fun M12 p12 w hp12 hi12 C12 E12 hv => ⟨fun x => absurd x (by decide), fun _ => ?_⟩) (fun M12 J12 => ⟨fun _ => ?_, fun x => absurd rfl x⟩)
    · refine s_sum hB (tp_op (by decide) (by decide)) C12 (by rw [opn_op (by decide)]; exact ho) (by rw [opn_op (by decide)]; exact hV) E12 (fun r22 M21 p21 => ⟨fun z0 => ?_, fun z0 => ?_⟩)
      · unfold w_X4_held_b58
        refine e_truth (h _ M21 (h_next (c := 62) ht (by decide) hp12 hv ?_ p21))
        show _ = if r8 ≤ r22 then 0 else 1
        rw [if_pos z0]; rfl
      · unfold w_X4_held_b58
        refine e_truth (h _ M21 (h_next (c := 62) ht (by decide) hp12 hv ?_ p21))
        show _ = if r8 ≤ r22 then 0 else 1
        rw [if_neg z0]; rfl
    · refine t_take (by decide) hB (by decide) J12 (op_go3 ht (by decide)) (fun M15 p15 w hp15 hi15 C15 E15 hv => ⟨fun x => absurd x (by decide), fun _ => ?_⟩) (fun M15 J15 => ⟨fun _ => ?_, fun x => absurd rfl x⟩)
      · refine s_sum hB (tp_op (by decide) (by decide)) C15 (by rw [opn_op (by decide)]; exact ho) (by rw [opn_op (by decide)]; exact hV) E15 (fun r19 M18 p18 => ⟨fun z0 => ?_, fun z0 => ?_⟩)
        · unfold w_X4_held_b86
          refine e_truth (h _ M18 (h_next (c := 61) ht (by decide) hp15 hv ?_ p18))
          show _ = if r8 = r19 then 1 else 0
          rw [if_neg z0]; rfl
        · unfold w_X4_held_b86
          refine e_truth (h _ M18 (h_next (c := 61) ht (by decide) hp15 hv ?_ p18))
          show _ = if r8 = r19 then 1 else 0
          rw [if_pos z0]; rfl
      · refine h r8 M15 ?_
        rcases J15 with x | ⟨p2, u, s, w, y1, y2, y3, y4, y5, y6, y7, y8⟩
        · exact Or.inl x
        · have z := y7 (by decide)
          refine Or.inr ⟨p2, u, s, w, y1, Nat.zero_le _, y3, y4, ?_, y6, fun _ => ⟨z.1, fun x3 => ?_⟩, trivial⟩
          · rw [red_red (show 3 ≤ 4 by decide), y5]
            exact red_tp ht
          · exfalso
            obtain ⟨a1, a2, p3, ⟨b1, b2, p4, ⟨c1, c2, _⟩, b4⟩, a4⟩ := y8
            rw [skp_id c1] at b4
            subst b4
            rw [skp_id b1] at a4
            subst a4
            have n3 := rk_ne3 c2 b2 a2
            by_cases e : 4 ≤ rkI (chr T n p2)
            · have := (z.2 e).1; omega
            · omega
theorem s_both {p : Nat} {M : Mem} {k : List Itm} {v1 : Int32} {q : Int64 → Mem → Prop} (hB : BSr T n K M0) (ht : tp 2 k) (hC : CS n M0 p (-1) M) (ho : v1.toInt = (opn k : Int)) (hV : opn k < 8 → VSa T n K M0 S0 V (opn k + 1)) (hE : Rc T n S0 (p, none, k)) (h : ∀ v M', Po T n K M0 S0 2 k p v M' → q v M') : w_X4_both V 68 v1 M q := by
  unfold w_X4_both
  refine s_held hB (tp_up (by decide) ht) hC ho hV hE (fun r13 M12 p12 => ?_)
  unfold w_X4_both_l9
  refine lfp_for (i0 := 0) (n := 40) (fun (i : Nat) (t : Int64 × Int32 × Mem) => t.2.1.toInt = (i : Int) ∧ Jl T n K M0 S0 2 3 k p i (fun _ => True) t.1 t.2.2) ?_ (by omega) ⟨rfl, j_in ht p12⟩
  intro P i st hi hJ hP
  obtain ⟨v2, v4, M1⟩ := st
  obtain ⟨ha0, hJ0⟩ := hJ
  have ha : v4.toInt = (i : Int) := ha0
  have hJ : Jl T n K M0 S0 2 3 k p i (fun _ => True) v2 M1 := hJ0
  clear ha0 hJ0
  have f40 : (40 : Int32).toInt = 40 := rfl
  have nxt : ∀ (t0 : Int32) (M2 : Mem), i < 40 → Jl T n K M0 S0 2 3 k p (i + 1) (fun _ => True) (if t0 = 0 then 0 else 1) M2 → w_X4_both_b50 V 68 v1 v4 t0 M2 q P := fun t0 M2 hi2 J2 => by
    unfold w_X4_both_b50
    refine e_truth ?_
    intro x1 e1
    refine hP (_, x1, M2) hi2 ⟨?_, J2⟩
    show x1.toInt = ((i + 1 : Nat) : Int)
    rw [e1]; exact ix_a ha rfl (by omega)
  unfold w_X4_both_l9F
  dsimp only
  rw [le_i, f40, ha]
  refine ⟨fun z => h v2 M1 (j_40 (by decide) hB (by rw [show (40 : Nat) = i from by omega]; exact hJ)), fun z => ?_⟩
  refine t_take (by decide) hB (by decide) hJ (op_go (by decide) (by decide) (by decide)) (fun M5 p5 w hp5 hi5 C5 E5 hv => ⟨fun x => absurd x (by decide), fun _ => ?_⟩) (fun M5 J5 => ⟨fun _ => ?_, fun x => absurd rfl x⟩)
  · refine s_held hB (tp_op (by decide) (by decide)) C5 (by rw [opn_op (by decide)]; exact ho) (by rw [opn_op (by decide)]; exact hV) E5 (fun r9 M8 p8 => ?_)
    have jn : ∀ x, x = ap 38 v2 r9 → Jl T n K M0 S0 2 3 k p (i + 1) (fun _ => True) x M8 := fun x ex => j_next (c := 38) (by decide) ht (by decide) hp5 hi5 hv ex p8
    have ea : ap 38 v2 r9 = if v2 = 0 then 0 else if r9 = 0 then 0 else 1 := rfl
    refine ⟨fun z0 => ?_, fun z0 => ⟨fun z1 => ?_, fun z1 => ?_⟩⟩
    · unfold w_X4_both_b49
      exact nxt 0 M8 (by omega) (jn _ (by rw [ea, if_pos z0]; rfl))
    · unfold w_X4_both_b49
      exact nxt 0 M8 (by omega) (jn _ (by rw [ea, if_neg z0, if_pos z1]; rfl))
    · exact nxt 1 M8 (by omega) (jn _ (by rw [ea, if_neg z0, if_neg z1]; rfl))
  · exact h v2 M5 (j_out (fun p' a => ⟨a.1, rk_ne2 a.2.1⟩) J5)
theorem s_value {p : Nat} {M : Mem} {k : List Itm} {v1 : Int32} {q : Int64 → Mem → Prop} (hB : BSr T n K M0) (ht : tp 1 k) (hC : CS n M0 p (-1) M) (ho : v1.toInt = (opn k : Int)) (hV : opn k < 8 → VSa T n K M0 S0 V (opn k + 1)) (hE : Rc T n S0 (p, none, k)) (h : ∀ v M', Po T n K M0 S0 1 k p v M' → q v M') : w_X4_value V 68 v1 M q := by
  unfold w_X4_value
  refine s_both hB (tp_up (by decide) ht) hC ho hV hE (fun r13 M12 p12 => ?_)
  unfold w_X4_value_l9
  refine lfp_for (i0 := 0) (n := 40) (fun (i : Nat) (t : Int64 × Int32 × Mem) => t.2.1.toInt = (i : Int) ∧ Jl T n K M0 S0 1 2 k p i (fun _ => True) t.1 t.2.2) ?_ (by omega) ⟨rfl, j_in ht p12⟩
  intro P i st hi hJ hP
  obtain ⟨v2, v4, M1⟩ := st
  obtain ⟨ha0, hJ0⟩ := hJ
  have ha : v4.toInt = (i : Int) := ha0
  have hJ : Jl T n K M0 S0 1 2 k p i (fun _ => True) v2 M1 := hJ0
  clear ha0 hJ0
  have f40 : (40 : Int32).toInt = 40 := rfl
  have nxt : ∀ (t0 : Int32) (M2 : Mem), i < 40 → Jl T n K M0 S0 1 2 k p (i + 1) (fun _ => True) (if t0 = 0 then 0 else 1) M2 → w_X4_value_b50 V 68 v1 v4 t0 M2 q P := fun t0 M2 hi2 J2 => by
    unfold w_X4_value_b50
    refine e_truth ?_
    intro x1 e1
    refine hP (_, x1, M2) hi2 ⟨?_, J2⟩
    show x1.toInt = ((i + 1 : Nat) : Int)
    rw [e1]; exact ix_a ha rfl (by omega)
  unfold w_X4_value_l9F
  dsimp only
  rw [le_i, f40, ha]
  refine ⟨fun z => h v2 M1 (j_40 (by decide) hB (by rw [show (40 : Nat) = i from by omega]; exact hJ)), fun z => ?_⟩
  refine t_take (by decide) hB (by decide) hJ (op_go (by decide) (by decide) (by decide)) (fun M5 p5 w hp5 hi5 C5 E5 hv => ⟨fun x => absurd x (by decide), fun _ => ?_⟩) (fun M5 J5 => ⟨fun _ => ?_, fun x => absurd rfl x⟩)
  · refine s_both hB (tp_op (by decide) (by decide)) C5 (by rw [opn_op (by decide)]; exact ho) (by rw [opn_op (by decide)]; exact hV) E5 (fun r9 M8 p8 => ?_)
    have jn : ∀ x, x = ap 124 v2 r9 → Jl T n K M0 S0 1 2 k p (i + 1) (fun _ => True) x M8 := fun x ex => j_next (c := 124) (by decide) ht (by decide) hp5 hi5 hv ex p8
    have ea : ap 124 v2 r9 = if v2 = 0 then (if r9 = 0 then 0 else 1) else 1 := rfl
    refine ⟨fun z0 => ?_, fun z0 => ⟨fun z1 => ?_, fun z1 => ?_⟩⟩
    · unfold w_X4_value_b45
      exact nxt 1 M8 (by omega) (jn _ (by rw [ea, if_neg z0]; rfl))
    · exact nxt 0 M8 (by omega) (jn _ (by rw [ea, if_pos z0, if_pos z1]; rfl))
    · unfold w_X4_value_b45
      exact nxt 1 M8 (by omega) (jn _ (by rw [ea, if_pos z0, if_neg z1]; rfl))
  · exact h v2 M5 (j_out (fun p' a => ⟨a.1, rk_ne1 a.2.1⟩) J5)
theorem s_valN (hB : BSr T n K M0) : ∀ m d, d ≤ 8 → 9 ≤ m + d → VSa T n K M0 S0 (w_valN m) d := by
  intro m
  induction m with
  | zero => intro d h1 h2; omega
  | succ m ih =>
    intro d h1 h2 stk v1 p M q ht ho hv hC hE h
    rw [w_valN]
    exact s_value hB ht hC (by rw [ho]; exact hv) (by rw [ho]; exact fun h8 => ih (d + 1) (by omega) (by omega)) hE h
end

/-! the reader of the program: levels -/
def enc : List Bool → Nat
  | [] => 0
  | b :: L => 2 * enc L + b.toNat
def mks : List Bool → List Itm → List Itm
  | [], k => k
  | b :: L, k => ((if b = true then (1001 : Int32) else 1002), fun _ => 0) :: mks L k
def apM : List Bool → Int64 → Int64
  | [], w => w
  | b :: L, w => apM L (mk1 (if b = true then 1001 else 1002) w)
theorem mrk_mks {r : Nat} {k : List Itm} (t : tp r k) : ∀ (L : List Bool) (u : VF), mrk (mks L k) u = (k, fun K => apM L (u K)) := by
  intro L
  induction L with
  | nil => intro u; exact mrk_tp t
  | cons b L ih =>
    intro u
    rw [mks, mrk, if_pos (by cases b <;> decide), ih]
    rfl
theorem opn_mks {k : List Itm} : ∀ (L : List Bool), opn (mks L k) = opn k := by
  intro L
  induction L with
  | nil => rfl
  | cons b L ih => rw [mks, opn, if_neg (by cases b <;> decide), ih]
theorem enc_lt : ∀ L : List Bool, enc L < 2 ^ L.length := by
  intro L
  induction L with
  | nil => decide
  | cons b L ih =>
    rw [enc, List.length_cons, Nat.pow_succ]
    cases b <;> simp <;> omega
theorem enc_tb : ∀ (L : List Bool) (i : Nat), (enc L).testBit i = L.getD i false := by
  intro L
  induction L with
  | nil => intro i; rw [enc, Nat.zero_testBit]; rfl
  | cons b L ih =>
    intro i
    cases i with
    | zero =>
      rw [enc, Nat.testBit_zero]
      cases b
      · show decide ((2 * enc L + 0) % 2 = 1) = false
        exact decide_eq_false (by omega)
      · show decide ((2 * enc L + 1) % 2 = 1) = true
        exact decide_eq_true (by omega)
    | succ i =>
      rw [enc, Nat.testBit_succ]
      have : (2 * enc L + b.toNat) / 2 = enc L := by cases b <;> simp <;> omega
      rw [this, ih]
      rfl
theorem sh_64 : ∀ t, t < 40 → ((((Int32.ofNat t).toInt64 &&& 63).toBitVec).smod 64).toNat = t := by decide +kernel
theorem bit64_n {x t : Nat} (ht : t < 40) : ((Int64.ofNat x >>> ((Int32.ofNat t).toInt64 &&& 63)) &&& (1 : Int64)) = (1 : Int64) ↔ (x < 2 ^ 63 → x.testBit t = true) ∧ ((x < 2 ^ 63) ∨ ((Int64.ofNat x >>> ((Int32.ofNat t).toInt64 &&& 63)) &&& (1 : Int64)) = (1 : Int64)) := by
  by_cases hx : x < 2 ^ 63
  · have e : (Int64.ofNat x >>> ((Int32.ofNat t).toInt64 &&& 63)).toBitVec.getLsbD 0 = x.testBit t := by
      rw [Int64.toBitVec_shiftRight, BitVec.sshiftRight_eq', sh_64 t ht, BitVec.getLsbD_sshiftRight]
      have : (Int64.ofNat x).toBitVec = BitVec.ofNat 64 x := rfl
      rw [this, if_pos (show t + 0 < 64 by omega), BitVec.getLsbD_ofNat, decide_eq_true (show t + 0 < 64 by omega)]
      simp
    have e2 : ((Int64.ofNat x >>> ((Int32.ofNat t).toInt64 &&& 63)) &&& 1).toBitVec = if (Int64.ofNat x >>> ((Int32.ofNat t).toInt64 &&& 63)).toBitVec.getLsbD 0 then BitVec.twoPow 64 0 else 0#64 := by
      have o : (1 : Int64).toBitVec = BitVec.twoPow 64 0 := by decide
      rw [Int64.toBitVec_and, o, BitVec.and_twoPow]
    constructor
    · intro h
      refine ⟨fun _ => ?_, Or.inl hx⟩
      rw [h, e] at e2
      by_cases k : x.testBit t = true
      · exact k
      · rw [if_neg k] at e2
        exact absurd e2 (by decide)
    · intro h
      rw [e, if_pos (h.1 hx)] at e2
      exact Int64.toBitVec_inj.mp (by rw [e2]; rfl)
  · constructor
    · intro h; exact ⟨fun x => absurd x hx, Or.inr h⟩
    · intro h
      rcases h.2 with y | y
      · exact absurd y hx
      · exact y
theorem bit64 {x t : Nat} {a : Int32} (ha : a.toInt = (t : Int)) (hx : x < 2 ^ 63) (ht : t < 40) : ((Int64.ofNat x >>> (a.toInt64 &&& 63)) &&& (1 : Int64)) = (1 : Int64) ↔ x.testBit t = true := by
  rw [i_nat ha, bit64_n ht]
  exact ⟨fun h => h.1 hx, fun h => ⟨fun _ => h, Or.inl hx⟩⟩
theorem enc_0 (L : List Bool) : Int64.ofNat (enc L) * 2 = Int64.ofNat (enc (false :: L)) := by
  rw [enc]
  show _ = Int64.ofNat (2 * enc L + 0)
  rw [Nat.add_zero, Nat.mul_comm, Int64.ofNat_mul]
  rfl
theorem enc_1 (L : List Bool) : Int64.ofNat (enc L) * 2 + 1 = Int64.ofNat (enc (true :: L)) := by
  rw [enc]
  show _ = Int64.ofNat (2 * enc L + 1)
  rw [Nat.mul_comm, Int64.ofNat_add, Int64.ofNat_mul]
  rfl
section
variable {T : Nat → Int32} {n : Nat} {K : Nat → Int64} {M0 : Mem} {S0 : SM} {V : Nat → Int32 → Mem → (Int64 → Mem → Prop) → Prop}
theorem s_l69 {L : List Bool} {v2 r8 : Int64} {v4 : Int32} {M : Mem} {q : Int64 → Mem → Prop} (h2 : v2 = Int64.ofNat (enc L)) (h4 : v4.toInt = (L.length : Int)) (hL : L.length ≤ 40) (h : q (apM L r8) M) : w_X4_unit_l69 V 68 v2 v4 q (r8, (0 : Int32), M) := by
  unfold w_X4_unit_l69
  refine lfp_for (i0 := 0) (n := L.length) (fun (i : Nat) (t : Int64 × Int32 × Mem) => t.2.1.toInt = (i : Int) ∧ t.2.2 = M ∧ apM (L.drop i) t.1 = apM L r8) ?_ (by omega) ⟨rfl, rfl, rfl⟩
  intro P i st hi hJ hP
  obtain ⟨v5, v7, M1⟩ := st
  obtain ⟨ha0, hM0, hv0⟩ := hJ
  have ha : v7.toInt = (i : Int) := ha0
  have hM : M1 = M := hM0
  have hv : apM (L.drop i) v5 = apM L r8 := hv0
  clear ha0 hM0 hv0
  subst hM
  unfold w_X4_unit_l69F
  dsimp only
  rw [le_i, h4, ha]
  refine ⟨fun z => ?_, fun z => ?_⟩
  · rw [List.drop_of_length_le (by omega)] at hv
    rw [show v5 = apM L r8 from hv]
    exact h
  · have iL : i < L.length := by omega
    have lt : enc L < 2 ^ 63 := Nat.lt_of_lt_of_le (enc_lt L) (Nat.pow_le_pow_right (by decide) (by omega))
    have g : L.getD i false = L[i] := by rw [List.getD_eq_getElem?_getD, List.getElem?_eq_getElem iL]; rfl
    rw [List.drop_eq_getElem_cons iL, ← g, apM] at hv
    have next : ∀ t0 : Int64, t0 = mk1 (if L.getD i false = true then 1001 else 1002) v5 → w_X4_unit_b108 V 68 v2 v4 v7 t0 M1 q P := fun t0 e0 => by
      unfold w_X4_unit_b108
      intro x1 e1
      refine hP (t0, x1, M1) iL ⟨?_, rfl, ?_⟩
      · show x1.toInt = ((i + 1 : Nat) : Int)
        rw [e1]; exact ix_a ha rfl (by omega)
      · show apM (L.drop (i + 1)) t0 = _
        rw [e0]; exact hv
    rw [h2, bit64 ha lt (by omega), enc_tb, ← h2]
    refine ⟨fun k => next _ (by rw [if_neg k]; rfl), fun k => ?_⟩
    have e1 : mk1 (if L.getD i false = true then 1001 else 1002) v5 = if v5 = 0 then 1 else 0 := by rw [if_pos k]; rfl
    refine ⟨fun z0 => ?_, fun z0 => ?_⟩
    · unfold w_X4_unit_b99
      refine e_truth (next _ ?_)
      rw [e1, if_neg z0]; rfl
    · unfold w_X4_unit_b99
      refine e_truth (next _ ?_)
      rw [e1, if_pos z0]; rfl
theorem s_unit {p : Nat} {M : Mem} {k : List Itm} {v1 : Int32} {q : Int64 → Mem → Prop} (hB : BSr T n K M0) (ht : tp 6 k) (hC : CS n M0 p (-1) M) (ho : v1.toInt = (opn k : Int)) (hV : opn k < 8 → VSa T n K M0 S0 V (opn k + 1)) (hE : Rc T n S0 (p, none, k)) (h : ∀ v M', Po T n K M0 S0 6 k p v M' → q v M') : w_X4_unit V 68 v1 M q := by
  have n40 := hB.2.1
  have b59 : ∀ (L : List Bool) (p' : Nat) (v2 : Int64) (v4 : Int32) (M1 : Mem), v2 = Int64.ofNat (enc L) → v4.toInt = (L.length : Int) → L.length ≤ 40 → CS n M0 p' (-1) M1 → p ≤ p' → Rc T n S0 (p', none, mks L k) → ¬ chr T n (skp T n p') = 33 → ¬ chr T n (skp T n p') = 45 → w_X4_unit_b59 V 68 v1 v2 v4 M1 q := fun L p' v2 v4 M1 e2 e4 hL C1 hp E1 c1 c2 => by
    unfold w_X4_unit_b59
    refine s_bare hB C1 c1 c2 (by rw [opn_mks]; exact ho) (by rw [opn_mks]; exact hV) E1 (fun v M7 pb => ?_)
    refine s_l69 e2 e4 hL (h _ M7 ?_)
    rcases pb with x | ⟨p2, w, y1, y2, y3, y4⟩
    · exact Or.inl x
    · rw [mrk_mks ht] at y3
      exact Or.inr ⟨p2, _, _, _, by omega, Nat.zero_le _, y2, y3, red_tp ht, by rw [y4], fun x => absurd x (by decide), trivial⟩
  unfold w_X4_unit w_X4_unit_l8
  refine lfp_for (i0 := 0) (n := 40) (fun (i : Nat) (t : Int64 × Int32 × Int32 × Mem) => t.2.2.1.toInt = (i : Int) ∧ t.2.1.toInt = (i : Int) ∧ ∃ (L : List Bool) (p' : Nat), L.length = i ∧ t.1 = Int64.ofNat (enc L) ∧ CS n M0 p' (-1) t.2.2.2 ∧ p + i ≤ p' ∧ Rc T n S0 (p', none, mks L k)) ?_ (by omega) ⟨rfl, rfl, [], p, rfl, rfl, hC, Nat.le_refl _, hE⟩
  intro P i st hi hJ hP
  obtain ⟨v2, v4, v5, M1⟩ := st
  obtain ⟨ha0, hb0, L, p', hL, hv0, hC0, hp', hE'⟩ := hJ
  have ha : v5.toInt = (i : Int) := ha0
  have hb : v4.toInt = (i : Int) := hb0
  have hv : v2 = Int64.ofNat (enc L) := hv0
  have hC1 : CS n M0 p' (-1) M1 := hC0
  clear ha0 hb0 hv0 hC0
  have f40 : (40 : Int32).toInt = 40 := rfl
  have sq := skp_q (T := T) (n := n) p'
  have hE2 : Rc T n S0 (skp T n p', none, mks L k) := fun r hr => hE' r (ev_skp hr)
  unfold w_X4_unit_l8F
  dsimp only
  rw [le_i, f40, ha]
  refine ⟨fun z => ?_, fun z => ?_⟩
  · have ce : chr T n (skp T n p') = -1 := chr_end (by omega)
    exact b59 L p' v2 v4 M1 hv (by rw [hb, hL]) (by omega) hC1 (by omega) hE' (by rw [ce]; decide) (by rw [ce]; decide)
  · have b50 : ∀ (b : Bool) (v2' : Int64) (M2 : Mem), v2' = Int64.ofNat (enc (b :: L)) → CS n M0 (skp T n p' + 1) (-1) M2 → Rc T n S0 (skp T n p' + 1, none, mks (b :: L) k) → w_X4_unit_b50 V 68 v1 v2' v4 v5 M2 q P := fun b v2' M2 e2 C2 E2 => by
      unfold w_X4_unit_b50
      intro x9 e9 x10 e10
      refine hP (v2', x9, x10, M2) (by omega) ⟨?_, ?_, b :: L, skp T n p' + 1, by rw [List.length_cons, hL], e2, C2, by omega, E2⟩
      · show x10.toInt = ((i + 1 : Nat) : Int)
        rw [e10]; exact ix_a ha rfl (by omega)
      · show x9.toInt = ((i + 1 : Nat) : Int)
        rw [e9]; exact ix_a hb rfl (by omega)
    refine s_tk (by decide) hB hC1 (fun c1 M2 C2 => ⟨fun x => absurd x (by decide), fun _ x19 e19 => ?_⟩) (fun c1 M2 C2 => ⟨fun _ => ?_, fun x => absurd rfl x⟩)
    · exact b50 true x19 M2 (by rw [e19, hv, enc_1]) C2 (fun r hr => hE2 r (g_not sq.1 c1 hr))
    · refine s_tk (by decide) hB C2 (fun c2 M3 C3 => ⟨fun x => absurd x (by decide), fun _ x18 e18 => ?_⟩) (fun c2 M3 C3 => ⟨fun _ => ?_, fun x => absurd rfl x⟩)
      · rw [skp_id sq.1] at c2 C3
        exact b50 false x18 M3 (by rw [e18, hv, enc_0]) C3 (fun r hr => hE2 r (g_neg sq.1 c2 hr))
      · rw [skp_id sq.1] at c2 C3
        exact b59 L (skp T n p') v2 v4 M3 hv (by rw [hb, hL]) (by omega) C3 (by omega) hE2 (by rw [skp_id sq.1]; exact c1) (by rw [skp_id sq.1]; exact c2)
/-- a sign is taken, or not -/
theorem t_take {r r' : Nat} {k : List Itm} {p0 i : Nat} {A : Nat → Prop} {v : Int64} {M : Mem} {c : Int32} {q : Int32 → Mem → Prop} (hc : ¬ c = -1) (hB : BSr T n K M0) (hr' : r' ≤ 6) (hJ : Jl T n K M0 S0 r r' k p0 i A v M)
    (hop : ∀ p u s w, Qp T n p → chr T n p = c → red r s u = (k, w) → Rc T n S0 (p, some u, s) → Rc T n S0 (p + 1, none, (c, w) :: k))
    (h1 : ∀ M' p w, p0 < p → i ≤ p → CS n M0 (p + 1) (-1) M' → Rc T n S0 (p + 1, none, (c, w) :: k) → v = w K → q 1 M')
    (h0 : ∀ M', Jl T n K M0 S0 r r' k p0 i (fun p => Qp T n p ∧ ¬ chr T n p = c ∧ ∃ p', A p' ∧ p = skp T n p') v M' → q 0 M') : w_X4_takes 68 c M q := by
  rcases hJ with ⟨f, p, x1, x2, x3⟩ | ⟨p, u, s, w, y1, y2, y3, y4, y5, y6, y7, y8⟩
  · exact s_tk0 x1 x2 (h0 M (Or.inl ⟨f, p, x1, x2, x3⟩))
  · have sq := skp_q (T := T) (n := n) p
    have E : Rc T n S0 (skp T n p, some u, s) := fun r hr => y4 r (ev_skp hr)
    refine s_tk hc hB y3 (fun kc M' C' => h1 M' (skp T n p) w (by omega) (by omega) C' (hop _ u s w sq.1 kc y5 E) y6) (fun kc M' C' => h0 M' (Or.inr ⟨skp T n p, u, s, w, by omega, by omega, C', E, y5, y6, ?_, sq.1, kc, p, y8, rfl⟩))
    intro h5
    have z := y7 h5
    rw [skp_id z.1]
    exact z
theorem op_go {r : Nat} {k : List Itm} {c : Int32} (h0 : 0 < r) (h3 : ¬ r = 3) (hr : rkI c = r) : ∀ p u s w, Qp T n p → chr T n p = c → red r s u = (k, w) → Rc T n S0 (p, some u, s) → Rc T n S0 (p + 1, none, (c, w) :: k) := by
  intro p u s w hq hc hd hE r' hr'
  refine hE r' (g_op hq (by rw [hc]; omega) (by rw [hc]; omega) ?_)
  rw [hc, hr, hd]
  exact hr'
theorem op_go3 {k : List Itm} {c : Int32} (ht : tp 3 k) (hr : rkI c = 3) : ∀ p u s w, Qp T n p → chr T n p = c → red 4 s u = (k, w) → Rc T n S0 (p, some u, s) → Rc T n S0 (p + 1, none, (c, w) :: k) := by
  intro p u s w hq hc hd hE r' hr'
  refine hE r' (g_op3 hq (by rw [hc]; exact hr) ?_ ?_)
  · rw [hd]; exact top3_tp ht
  · rw [hc, hd]; exact hr'
theorem j_in {r : Nat} {k : List Itm} {p0 : Nat} {v : Int64} {M : Mem} (t : tp r k) (h : Po T n K M0 S0 (r + 1) k p0 v M) : Jl T n K M0 S0 r (r + 1) k p0 0 (fun _ => True) v M := by
  rcases h with x | ⟨p, u, s, w, y1, y2, y3, y4, y5, y6, y7, y8⟩
  · exact Or.inl x
  · refine Or.inr ⟨p, u, s, w, y1, y2, y3, y4, ?_, y6, y7, y8⟩
    rw [red_red (Nat.le_succ r), y5]
    exact red_tp t
theorem j_40 {r r' : Nat} {k : List Itm} {p0 : Nat} {A : Nat → Prop} {v : Int64} {M : Mem} (h0 : 0 < r) (hB : BSr T n K M0) (h : Jl T n K M0 S0 r r' k p0 40 A v M) : Po T n K M0 S0 r k p0 v M := by
  have n40 := hB.2.1
  rcases h with x | ⟨p, u, s, w, y1, y2, y3, y4, y5, y6, y7, y8⟩
  · exact Or.inl x
  · refine Or.inr ⟨p, u, s, w, y1, Nat.zero_le _, y3, y4, y5, y6, fun _ => ⟨fun x => by have := x.1; omega, fun x => ?_⟩, trivial⟩
    rw [chr_end (by omega), show rkI (-1) = 0 from by decide] at x
    omega
theorem j_out {r : Nat} {k : List Itm} {p0 i : Nat} {A : Nat → Prop} {v : Int64} {M : Mem} (hA : ∀ p, A p → Qp T n p ∧ ¬ rkI (chr T n p) = r) (h : Jl T n K M0 S0 r (r + 1) k p0 i A v M) : Po T n K M0 S0 r k p0 v M := by
  rcases h with x | ⟨p, u, s, w, y1, y2, y3, y4, y5, y6, y7, y8⟩
  · exact Or.inl x
  · have a := hA p y8
    refine Or.inr ⟨p, u, s, w, y1, Nat.zero_le _, y3, y4, y5, y6, fun h5 => ⟨a.1, fun x => ?_⟩, trivial⟩
    have := rk_5 (chr T n p)
    have := a.2
    exact (y7 (by omega)).2 (by omega)
theorem j_next {r : Nat} {k : List Itm} {p0 p i : Nat} {c : Int32} {w : VF} {v v' x : Int64} {M : Mem} (h0 : 0 < r) (t : tp r k) (hr : rkI c = r) (hp : p0 < p) (hi : i ≤ p) (hv : v = w K) (hx : x = ap c v v') (h : Po T n K M0 S0 (r + 1) ((c, w) :: k) (p + 1) v' M) : Jl T n K M0 S0 r (r + 1) k p0 (i + 1) (fun _ => True) x M := by
  rcases h with y | ⟨p2, u, s, w2, y1, y2, y3, y4, y5, y6, y7, y8⟩
  · exact Or.inl y
  · refine Or.inr ⟨p2, u, s, fun K => ap c (w K) (w2 K), by omega, by omega, y3, y4, ?_, by rw [hx, hv, y6], y7, trivial⟩
    rw [red_red (Nat.le_succ r), y5]
    exact red_op h0 hr t
end

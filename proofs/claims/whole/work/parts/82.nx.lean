/-! answer -/
def bdI (f : Nat → Int32) (n : Nat) (lo hi : Int) : Prop := ∀ i, i < n → lo ≤ (f i).toInt ∧ (f i).toInt ≤ hi
theorem bd_ins {f : Nat → Int32} {n : Nat} {v : Int32} {lo hi : Int} (h : bdI f n lo hi) (hv : lo ≤ v.toInt ∧ v.toInt ≤ hi) : bdI (insF n f v) (n + 1) lo hi := by
  intro i hi'
  have hs := stp_le (f := f) (v := v) n
  unfold insF
  by_cases k : i < stp f v n
  · rw [if_pos k]; exact h i (by omega)
  · rw [if_neg k]
    by_cases e : i = stp f v n
    · rw [if_pos e]; exact hv
    · rw [if_neg e]; exact h _ (by omega)
theorem bd_mid {f : Nat → Int32} {n : Nat} {lo hi : Int} (h : bdI f n lo hi) (h0 : 0 < n) (hl : -100000000 ≤ lo) (hh : hi ≤ 100000000) : lo ≤ (mid n f).toInt ∧ (mid n f).toInt ≤ hi := by
  unfold mid
  by_cases k : n % 2 = 1
  · rw [if_pos k]; exact h _ (by omega)
  · rw [if_neg k]
    have a := h (n / 2 - 1) (by omega)
    have b := h (n / 2) (by omega)
    have f2 : (2 : Int32).toInt = 2 := rfl
    have es : (f (n / 2 - 1) + f (n / 2)).toInt = (f (n / 2 - 1)).toInt + (f (n / 2)).toInt := ti_add (by omega) (by omega)
    rw [ti_div (by decide) (by omega), f2, es]
    have hx : 2 * lo ≤ (f (n / 2 - 1)).toInt + (f (n / 2)).toInt ∧ (f (n / 2 - 1)).toInt + (f (n / 2)).toInt ≤ 2 * hi := by omega
    generalize (f (n / 2 - 1)).toInt + (f (n / 2)).toInt = x at hx
    by_cases k : 0 ≤ x
    · rw [Int.tdiv_eq_ediv_of_nonneg k]; omega
    · have : x = -(-x) := by omega
      rw [this, Int.neg_tdiv, Int.tdiv_eq_ediv_of_nonneg (by omega)]
      omega
theorem bd_bg {D : Nat → Int32} {a : Nat} {lo hi : Int} : ∀ k, (∀ i, i < k → lo ≤ (D (a + i)).toInt ∧ (D (a + i)).toInt ≤ hi) → bdI (bgF D a k) k lo hi := by
  intro k
  induction k with
  | zero => intro _ i hi; omega
  | succ k ih => intro h; exact bd_ins (ih (fun i hi => h i (by omega))) (h k (by omega))
def difs (N : Nat → Int32) : Nat → Int32 := fun k => N (4146 + k)
def wayI (N : Nat → Int32) (p v : Int32) : Int32 := Int32.ofNat (wayN (dvE N v) p.toInt.toNat)
/-- dealt otherwise often enough -/
abbrev oft (N : Nat → Int32) (p v : Int32) : Prop := ((1 : Int64) <<< (p.toInt64 &&& 63)) < (wayI N p v).toInt64 * (N 4218).toInt64 * (N 4216).toInt64
def anT (N : Nat → Int32) : Int32 := if (N 4215).toInt < (lastL N).toInt then 0 else if okB (mid (lastL N).toInt.toNat (bgF (difs N) 0 (lastL N).toInt.toNat)) (-(N 4219).toInt) (N 4219).toInt then 3 else 4
def anF (N : Nat → Int32) : Nat → Nat → Int32
  | 0, _ => anT N
  | r + 1, i => if (N 4215).toInt < (N (4162 + i)).toInt then anT N else if oft N (N (4162 + i)) 0 then (if oft N (N (4162 + i)) 1 then anF N r (i + 1) else 2) else 1
def spAns (N : Nat → Int32) : Int32 := if N 4216 = 0 then 0 else anF N (N 4216).toInt.toNat 0
theorem lk_rg {N : Nat → Int32} (hI : InvN N) {i : Nat} (h8 : i < 8) (hi : (i : Int) < (N 4216).toInt) : 1 ≤ (N (4162 + i)).toInt ∧ (N (4162 + i)).toInt ≤ 16 := by
  have a := hI.2.2.2.2 i h8 hi
  have b := hI.1 (4162 + i) (by omega)
  rw [rg_look h8] at b
  exact ⟨a, b.2⟩
theorem last_rg {N : Nat → Int32} (hI : InvN N) (h0 : ¬ N 4216 = 0) : 1 ≤ (lastL N).toInt ∧ (lastL N).toInt ≤ 16 := by
  have i6 : 0 ≤ (N 4216).toInt ∧ (N 4216).toInt ≤ 8 := hI.1 4216 (by decide)
  have n0 : ¬ (N 4216).toInt = 0 := fun x => h0 (eq_i.mpr x)
  unfold lastL
  rw [if_neg h0]
  exact lk_rg hI (by omega) (by omega)
theorem an_mid {N : Nat → Int32} (hI : InvN N) {n : Nat} (h0 : 0 < n) (hn : n ≤ 16) : -1000000 ≤ (mid n (bgF (difs N) 0 n)).toInt ∧ (mid n (bgF (difs N) 0 n)).toInt ≤ 1000000 :=
  bd_mid (bd_bg n (fun i hi => by unfold difs; rw [Nat.zero_add]; exact d_bd hI (by omega))) h0 (by decide) (by decide)
theorem c_ans {M : Mem} {N : Nat → Int32} {q : Int32 → Mem → Prop} (hR : Rep 1 N M.1) (hI : InvN N) (h : ∀ M', FQ M M' → q (spAns N) M') : w_X11_answer M q := by
  have i6 : 0 ≤ (N 4216).toInt ∧ (N 4216).toInt ≤ 8 := hI.1 4216 (by decide)
  have i5 : 0 ≤ (N 4215).toInt ∧ (N 4215).toInt ≤ 16 := hI.1 4215 (by decide)
  have i9 : 0 ≤ (N 4219).toInt ∧ (N 4219).toInt ≤ 10000 := hI.1 4219 (by decide)
  have f0 : (0 : Int32).toInt = 0 := rfl
  unfold w_X11_answer w_X5_judge
  have tail : ∀ M1, FQ M M1 → (N 4216 = 0 → spAns N = 0) → (¬ N 4216 = 0 → spAns N = anT N) → w_X5_judge_b89 12 46 M1 (fun r2 M1 => q r2 M1) := by
    intro M1 F1 e0 e1
    have R1 := F1.r hR
    unfold w_X5_judge_b89
    rw [rc6 R1, rc5 R1]
    refine ⟨fun k => ?_, fun k => ?_⟩
    · have := h M1 F1
      rw [e0 k] at this
      exact this
    · rw [e_lastLook R1 hI, le_i]
      have iL := last_rg hI k
      have eT := e1 k
      unfold anT at eT
      refine ⟨fun z => ?_, fun z => ?_⟩
      · rw [if_neg (by omega)] at eT
        have am := an_mid hI (n := (lastL N).toInt.toNat) (by omega) (by omega)
        unfold w_X0_clear
        intro M15 e15
        have F15 : FrB 46 1 47 M1 M15 := by rw [e15]; exact frb_s
        have H15 : Hd 46 1 47 0 (bgF (difs N) 0 0) M15 := ⟨by rw [e15, uI_s]; rfl, fun i hi => absurd hi (by omega)⟩
        clear e15
        unfold w_X5_judge_l115
        refine lfp_for (i0 := 0) (n := (lastL N).toInt.toNat) (fun (i : Nat) (t : Int32 × Mem) => t.1.toInt = (i : Int) ∧ Hd 46 1 47 i (bgF (difs N) 0 i) t.2 ∧ FrB 46 1 47 M1 t.2) ?_ (by omega) ⟨rfl, H15, F15⟩
        clear H15 F15
        intro P i st hi hJ hP
        obtain ⟨a, M2⟩ := st
        obtain ⟨ha0, hH0, hF0⟩ := hJ
        have ha : a.toInt = (i : Int) := ha0
        have hH : Hd 46 1 47 i (bgF (difs N) 0 i) M2 := hH0
        have hF : FrB 46 1 47 M1 M2 := hF0
        clear ha0 hH0 hF0
        have F2 : FQ M M2 := F1.tr (hF.q (by decide) (by decide))
        have R2 := F2.r hR
        unfold w_X5_judge_l115F
        dsimp only
        rw [e_lastLook R2 hI, le_i, ha]
        refine ⟨fun z2 => ?_, fun z2 => ?_⟩
        · have ei : i = (lastL N).toInt.toNat := by omega
          subst ei
          refine e_middle hH (by omega) ?_
          rw [if_neg (by omega), rc9 R2, lt_i]
          generalize mid (lastL N).toInt.toNat (bgF (difs N) 0 (lastL N).toInt.toNat) = md at am eT
          have ia : (iabs md).toInt = if 0 ≤ md.toInt then md.toInt else -md.toInt := by
            unfold iabs
            by_cases k1 : (0 : Int32) ≤ md
            · rw [if_pos k1, if_pos (by rw [le_i, f0] at k1; exact k1)]
            · rw [if_neg k1, if_neg (by rw [le_i, f0] at k1; exact k1), ti_sub (by omega) (by omega), f0]; omega
          have hh := h M2 F2
          rw [eT] at hh
          rw [ia]
          refine ⟨fun k1 => ?_, fun k1 => ?_⟩
          · rw [if_neg (by split at k1 <;> omega)] at hh; exact hh
          · rw [if_pos (by split at k1 <;> omega)] at hh; exact hh
        · rw [i_of ha, show M2.1 (12 + 1) i = difs N (0 + i) from by unfold difs; rw [Nat.zero_add]; exact rd_diff R2 (by omega)]
          refine ⟨vp_of ha (by omega), s_add hH (by omega) (fun M8 h8 f8 x ex => ?_)⟩
          refine hP (x, M8) (by omega) ⟨?_, h8, hF.tr f8⟩
          show x.toInt = ((i + 1 : Nat) : Int)
          rw [ex]; exact ix_a ha rfl (by omega)
      · rw [if_pos (by omega)] at eT
        have := h M1 F1
        rw [eT] at this
        exact this
  unfold w_X5_judge_l2
  refine lfp_for (i0 := 0) (n := (N 4216).toInt.toNat) (fun (i : Nat) (t : Int32 × Mem) => t.1.toInt = (i : Int) ∧ FQ M t.2 ∧ (¬ N 4216 = 0 → spAns N = anF N ((N 4216).toInt.toNat - i) i)) ?_ (by omega) ⟨rfl, FQ.rf M, fun k => by unfold spAns; rw [if_neg k]; rfl⟩
  intro P i st hi hJ hP
  obtain ⟨a, M1⟩ := st
  obtain ⟨ha0, hF0, hA⟩ := hJ
  have ha : a.toInt = (i : Int) := ha0
  have F1 : FQ M M1 := hF0
  clear ha0 hF0
  have R1 := F1.r hR
  unfold w_X5_judge_l2F
  dsimp only
  rw [rc6 R1, rc5 R1, le_i, ha]
  refine ⟨fun z => tail M1 F1 (fun k => by unfold spAns; rw [if_pos k]) (fun k => by rw [hA k, show (N 4216).toInt.toNat - i = 0 from by omega]; rfl), fun z => ?_⟩
  have hi8 : i < 8 := by omega
  have lk := lk_rg hI hi8 (by omega)
  have nz : ¬ N 4216 = 0 := fun k => by rw [k, f0] at z; omega
  have hA := hA nz
  rw [show (N 4216).toInt.toNat - i = ((N 4216).toInt.toNat - (i + 1)) + 1 from by omega, anF] at hA
  rw [i_of ha, show M1.1 (12 + 2) i = N (4162 + i) from rd_look R1 hi8, lt_i]
  refine ⟨vp_of ha (by omega), fun k => tail M1 F1 (fun k => absurd k nz) (fun _ => by rw [hA, if_pos k]), fun k => ⟨vp_of ha (by omega), ?_⟩⟩
  rw [if_neg k] at hA
  have dl : ∀ (v : Int32) (M2 : Mem) (qq : Int32 → Mem → Prop), FQ M M2 → (∀ M3, FQ M M3 → qq (wayI N (N (4162 + i)) v) M3) → w_X10_dealt 48 (12 + 1) (N (4162 + i)) v M2 qq := fun v M2 qq F2 hq =>
    s_dealt (e := dvE N v) (ix_n (by omega)) (by omega) (fun k hk => dv_e (F2.r hR) hI hk) (fun x M' hx h1 h2 => by rw [i_nat hx]; exact hq M' (F2.tr (fq_ways h1 h2)))
  refine dl 0 M1 _ F1 (fun M2 F2 => ⟨vp_of ha (by omega), ?_⟩)
  have R2 := F2.r hR
  rw [show M2.1 (12 + 2) i = N (4162 + i) from rd_look R2 hi8]
  unfold w_X5_isRare
  rw [rc8 R2, rc6 R2]
  refine ⟨fun o1 => ⟨fun _ => ⟨vp_of ha (by omega), ?_⟩, fun y => absurd rfl y⟩, fun o1 => ⟨fun y => absurd y (by decide), fun _ => ?_⟩⟩
  · rw [show M2.1 (12 + 2) i = N (4162 + i) from rd_look R2 hi8]
    rw [if_pos o1] at hA
    refine dl 1 M2 _ F2 (fun M3 F3 => ⟨vp_of ha (by omega), ?_⟩)
    have R3 := F3.r hR
    rw [show M3.1 (12 + 2) i = N (4162 + i) from rd_look R3 hi8, rc8 R3, rc6 R3]
    refine ⟨fun o2 => ⟨fun _ x ex => ?_, fun y => absurd rfl y⟩, fun o2 => ⟨fun y => absurd y (by decide), fun _ => ?_⟩⟩
    · refine hP (x, M3) (by omega) ⟨?_, F3, fun _ => by rw [hA, if_pos o2]⟩
      show x.toInt = ((i + 1 : Nat) : Int)
      rw [ex]; exact ix_a ha rfl (by omega)
    · have := h M3 F3
      rw [hA, if_neg o2] at this
      exact this
  · have := h M2 F2
    rw [hA, if_neg o1] at this
    exact this

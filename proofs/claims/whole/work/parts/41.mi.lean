/-! change -/
theorem upN_c {N : Nat → Int32} {i j : Nat} {a b : Int32} (h : i ≠ j) : upN (upN N i a) j b = upN (upN N j b) i a := by
  funext t
  unfold upN
  by_cases e1 : t = j
  · rw [if_pos e1, if_neg (by omega), if_pos e1]
  · rw [if_neg e1]
    by_cases e2 : t = i
    · rw [if_pos e2, if_pos e2]
    · rw [if_neg e2, if_neg e2, if_neg e1]
theorem up4_c {N : Nat → Int32} {i j : Nat} {v a b c d : Int32} (h : i < j ∨ j + 3 < i) : up4 (upN N i v) j a b c d = upN (up4 N j a b c d) i v := by
  unfold up4
  rw [upN_c (i := i) (j := j) (by omega), upN_c (i := i) (j := j + 1) (by omega), upN_c (i := i) (j := j + 2) (by omega), upN_c (i := i) (j := j + 3) (by omega)]
abbrev okChg (N : Nat → Int32) (p l act a b c : Int32) : Prop := okI p (N 4210).toInt ∧ okI l (N (960 + p.toInt.toNat)).toInt ∧ okLine act a b c
def chgN (n : Nat) (p l act a b c : Int32) (N : Nat → Int32) : Nat → Int32 := upN (upN (upN (up4 N (966 + 6 * n + 2) act a b c) (966 + 6 * n) p) (966 + 6 * n + 1) l) 4211 (N 4211 + 1)
def spChg (p l act a b c : Int32) (N : Nat → Int32) : Int32 × (Nat → Int32) := if okChg N p l act a b c then (if (N 4211).toInt < 10 then (N 4211, chgN (N 4211).toInt.toNat p l act a b c N) else (-4, N)) else (-2, N)
theorem mm_chg {p l act a b c : Int32} {M : Mem} {q : Int32 → Mem → Prop} (hI : InvN (M.1 136)) (h : PQ (spChg p l act a b c (M.1 136)) M q) : w_X12_change p l act a b c M q := by
  have i0 : 0 ≤ (M.1 136 4210).toInt ∧ (M.1 136 4210).toInt ≤ 6 := hI.1 4210 (by decide)
  have i1 : 0 ≤ (M.1 136 4211).toInt ∧ (M.1 136 4211).toInt ≤ 10 := hI.1 4211 (by decide)
  have bad : ¬ okChg (M.1 136) p l act a b c → q (-2) M := fun n => by unfold spChg at h; rw [if_neg n] at h; exact mq_0 h
  have f0 : (0 : Int64).toInt = 0 := rfl
  have o1 : (1 : Int32).toInt = 1 := rfl
  have f10 : (10 : Int32).toInt = 10 := rfl
  unfold w_X12_change
  simp only [e_has0 i0.1, tf_z, Classical.not_not]
  refine ⟨fun n => bad (fun x => n x.1), fun k1 => ?_⟩
  have E9 := ix_a (e := (960 : Int32)) (a := 960) rfl (ix_n k1.1) (by omega)
  have iz := hI.1 (960 + p.toInt.toNat) (by omega)
  rw [rg_size (by omega)] at iz
  have iz : 0 ≤ (M.1 136 (960 + p.toInt.toNat)).toInt ∧ (M.1 136 (960 + p.toInt.toNat)).toInt ≤ 40 := iz
  refine ⟨vp_of E9 (by omega), ?_⟩
  rw [i_of E9]
  simp only [e_in, Int32.toInt_toInt64, f0, tf_z, Classical.not_not]
  rw [ti_sub (by omega) (by omega), o1]
  refine ⟨fun n => bad (fun x => n (by have := x.2.1; omega)), fun k2 => s_isLine12 ?_⟩
  simp only [tf_z, Classical.not_not, e_many1]
  refine ⟨fun k3 => ⟨fun n => ?_, fun k => ?_⟩, fun n => bad (fun x => n x.2.2)⟩
  · have n' : (M.1 136 4211).toInt < 10 := by
      have : ¬ (M.1 136 4211).toInt = 10 := fun y => n (eq_i.mpr (y.trans f10.symm))
      omega
    unfold spChg at h
    rw [if_pos ⟨k1, by omega, k3⟩, if_pos n'] at h
    have E := ix_a (e := (966 : Int32)) (a := 966) rfl (ix_m (e := (6 : Int32)) (a := 6) rfl (ix_n i1.1) (by omega)) (by omega)
    have E1 := ix_a E (w := 1) (i := 1) rfl (by omega)
    have E2 := ix_a E (w := 2) (i := 2) rfl (by omega)
    refine ⟨vp_of E (by omega), fun M15 e15 => ⟨vp_of E1 (by omega), fun M17 e17 => ?_⟩⟩
    rw [i_of E] at e15
    rw [i_of E1] at e17
    rw [e_put E2 (by omega)]
    intro M20 e20
    refine h M20 ?_ ?_
    · rw [e20, now_uI, now_4, e17, now_uI, e15, now_uI, up4_o (by omega), upN_o (by omega), upN_o (by omega)]
      unfold chgN
      rw [up4_c (by omega), up4_c (by omega)]
    · rw [e20, e17, e15]; exact frM2.tr (frM4.tr frM1)
  · unfold spChg at h
    rw [if_pos ⟨k1, by omega, k3⟩, if_neg (by rw [k]; decide)] at h
    exact mq_0 h
theorem cc_chg {p l act a b c : Int32} {M : Mem} {N : Nat → Int32} {q : Int32 → Mem → Prop} (hR : Rep 1 N M.1) (hI : InvN N) (h : CQ (spChg p l act a b c N) M q) : w_X11_change p l act a b c M q := by
  have i0 : 0 ≤ (N 4210).toInt ∧ (N 4210).toInt ≤ 6 := hI.1 4210 (by decide)
  have i1 : 0 ≤ (N 4211).toInt ∧ (N 4211).toInt ≤ 10 := hI.1 4211 (by decide)
  have bad : ¬ okChg N p l act a b c → q (-2) M := fun n => by unfold spChg at h; rw [if_neg n] at h; exact cq_0 hR h
  have f10 : (10 : Int32).toInt = 10 := rfl
  unfold w_X11_change
  simp only [e_isOut, rc0 hR, tf_z, Classical.not_not]
  refine ⟨fun n => bad (fun x => n x.1), fun k1 => ⟨vp_of (ix_n k1.1) (by omega), ?_⟩⟩
  rw [tn_eq, rd_size hR (by omega)]
  refine ⟨fun n => bad (fun x => n x.2.1), fun k2 => s_isLine11 ?_⟩
  simp only [tf_z, Classical.not_not]
  refine ⟨fun k3 => ?_, fun n => bad (fun x => n x.2.2)⟩
  unfold w_X6_addChange
  rw [rc1 hR]
  unfold spChg at h
  rw [if_pos ⟨k1, k2, k3⟩] at h
  refine ⟨fun z => ?_, fun z => ?_⟩
  · rw [lt_i, f10] at z
    rw [if_pos z] at h
    refine s_writeLine (ix_m (ix_n i1.1) (w := (4 : Int32)) (i := 4) rfl (by omega)) (k := 7) (n := 40) rfl (by omega) (by decide) ?_
    have g2 : (wrL M 7 ((N 4211).toInt.toNat * 4) act a b c).1 2 3 = N 4211 := by rw [wrL_k (by decide), rc1 hR]
    rw [g2]
    refine ⟨vp_of (ix_n i1.1) (by omega), fun M5 e5 => ?_⟩
    have g5 : M5.1 2 3 = N 4211 := by rw [e5, uI_k (by decide), g2]
    rw [g5]
    refine ⟨vp_of (ix_n i1.1) (by omega), fun M7 e7 M8 e8 => ?_⟩
    have g7 : M7.1 2 3 = N 4211 := by rw [e7, uI_k (by decide), g5]
    rw [g7] at e8
    have g8 : M8.1 2 3 = N 4211 + 1 := by rw [e8, uI_s]
    rw [g8, a1s1]
    rw [tn_eq] at e5 e7
    refine h M8 ?_ ?_
    · unfold chgN
      rw [e8]
      refine wr (j := 4211) (c := 1) (p := 3) ?_ rfl (by decide) (by decide) rfl
      rw [e7]
      refine rep_up (k := 1) (c := 5) ?_ (by omega) (loc_cl (by omega)) ⟨by omega, by omega⟩
      rw [e5]
      refine rep_up (k := 1) (c := 4) ?_ (by omega) (loc_cp (by omega)) ⟨by omega, by omega⟩
      refine rep_4 (c := 6) hR (Or.inr ⟨by omega, by omega, by omega⟩) (fun k hk => ?_)
      rw [loc_ch (by omega) hk]
      congr 2
      omega
    · rw [e8, e7, e5]
      exact (((frC_wrL (by decide) (by decide)).tr (frC_uI (by decide) (by decide))).tr (frC_uI (by decide) (by decide))).tr (frC_uI (by decide) (by decide))
  · rw [lt_i, f10] at z
    rw [if_neg z] at h
    exact cq_0 hR h
theorem rg_cp {c : Nat} (h : c < 10) : rg (966 + 6 * c) = (0, 5) := by grind [rg]
theorem rg_cl {c : Nat} (h : c < 10) : rg (966 + 6 * c + 1) = (0, 39) := by grind [rg]
theorem rg_ch {i c : Nat} (h : c < 10) (h1 : 966 + 6 * c + 2 ≤ i) (h2 : i < 966 + 6 * c + 6) : rg i = (-2147483648, 2147483647) := by
  unfold rg
  rw [if_neg (by omega), if_neg (by omega), if_pos (by omega), if_neg (by omega), if_neg (by omega)]
theorem inv_chl {N : Nat → Int32} {n : Nat} {a b c d : Int32} (hI : InvN N) (hn : n < 10) (h : okLine a b c d) : InvN (up4 N (966 + 6 * n + 2) a b c d) := by
  refine ⟨fun i hi => ?_, fun l' hl' => (okL_4 (by omega)).mpr (hI.2.1 l' hl'), fun c' hc' => ?_, fun p hp hle => ?_, fun i hi => ?_⟩
  · by_cases e : 966 + 6 * n + 2 ≤ i ∧ i < 966 + 6 * n + 6
    · rw [rg_ch hn e.1 e.2]; exact i_any _
    · rw [up4_o (by omega)]; exact hI.1 i hi
  · by_cases e : c' = n
    · subst e
      rw [show 968 + 6 * c' = 966 + 6 * c' + 2 from by omega]
      exact okL_4s h
    · exact (okL_4 (by omega)).mpr (hI.2.2.1 c' hc')
  · rw [up4_o (by omega)] at hle
    rw [up4_o (by omega)]
    exact hI.2.2.2.1 p hp hle
  · rw [up4_o (by omega), up4_o (by omega)]
    exact hI.2.2.2.2 i hi
theorem inv_chf {N : Nat → Int32} {j n : Nat} {v : Int32} (hI : InvN N) (hn : n < 10) (hj : j = 966 + 6 * n ∨ j = 966 + 6 * n + 1) (hv : (rg j).1 ≤ v.toInt ∧ v.toInt ≤ (rg j).2) : InvN (upN N j v) := by
  refine ⟨fun i hi => ?_, fun l hl => (okL_up (by omega)).mpr (hI.2.1 l hl), fun c hc => (okL_up (by omega)).mpr (hI.2.2.1 c hc), fun p hp => ?_, fun i hi => ?_⟩
  · by_cases e : i = j
    · subst e
      rw [upN_s]
      exact hv
    · rw [upN_o e]
      exact hI.1 i hi
  · rw [upN_o (by omega), upN_o (by omega)]
    exact hI.2.2.2.1 p hp
  · rw [upN_o (by omega), upN_o (by omega)]
    exact hI.2.2.2.2 i hi
theorem ii_chg {p l act a b c : Int32} {N : Nat → Int32} (hI : InvN N) : InvN (spChg p l act a b c N).2 := by
  have i0 : 0 ≤ (N 4210).toInt ∧ (N 4210).toInt ≤ 6 := hI.1 4210 (by decide)
  have i1 : 0 ≤ (N 4211).toInt ∧ (N 4211).toInt ≤ 10 := hI.1 4211 (by decide)
  unfold spChg
  by_cases k : okChg N p l act a b c
  · rw [if_pos k]
    by_cases k3 : (N 4211).toInt < 10
    · rw [if_pos k3]
      have k1 := k.1
      have k2 := k.2.1
      have iz := hI.1 (960 + p.toInt.toNat) (by omega)
      rw [rg_size (by omega)] at iz
      have iz : 0 ≤ (N (960 + p.toInt.toNat)).toInt ∧ (N (960 + p.toInt.toNat)).toInt ≤ 40 := iz
      show InvN (chgN _ p l act a b c N)
      unfold chgN
      refine inv_up (inv_chf (inv_chf (inv_chl hI (by omega) k.2.2) (n := (N 4211).toInt.toNat) (by omega) (Or.inl rfl) ?_) (n := (N 4211).toInt.toNat) (by omega) (Or.inr rfl) ?_) (by decide) (by decide) ?_
      · rw [rg_cp (by omega)]; show 0 ≤ p.toInt ∧ p.toInt ≤ 5; omega
      · rw [rg_cl (by omega)]; show 0 ≤ l.toInt ∧ l.toInt ≤ 39; omega
      · show 0 ≤ (N 4211 + 1).toInt ∧ (N 4211 + 1).toInt ≤ 10
        rw [iv1 (by omega) (by omega)]; omega
    · rw [if_neg k3]; exact hI
  · rw [if_neg k]; exact hI

/-! count, digest -/
def vsum (N : Nat → Int32) : Nat → Int32
  | 0 => 0
  | k + 1 => vsum N k + N (1346 + 14 * k + 6)
def spCnt (v : Int32) (N : Nat → Int32) : Int32 := if okB v 0 8 then (if v.toInt = 5 then vsum N (N 4214).toInt.toNat else if v.toInt < 5 then N (4210 + v.toInt.toNat) else N (4210 + (v.toInt.toNat - 1))) else -2
theorem s_void {M : Mem} {N : Nat → Int32} {q : Int32 → Mem → Prop} (hR : Rep 1 N M.1) (hI : InvN N) (h : q (vsum N (N 4214).toInt.toNat) M) : w_X8_voidRuns 1 M q := by
  have i4 : 0 ≤ (N 4214).toInt ∧ (N 4214).toInt ≤ 200 := hI.1 4214 (by decide)
  unfold w_X8_voidRuns w_X8_voidRuns_l4
  refine lfp_for (i0 := 0) (n := (N 4214).toInt.toNat) (fun (i : Nat) (s : Int32 × Int32 × Mem) => s.2.1.toInt = (i : Int) ∧ s.2.2 = M ∧ s.1 = vsum N i) ?_ (by omega) ⟨rfl, rfl, rfl⟩
  intro P i st hi hJ hP
  obtain ⟨x, a, M1⟩ := st
  obtain ⟨ha, hM, hx⟩ := hJ
  have ha : a.toInt = i := ha
  have hM : M1 = M := hM
  have hx : x = vsum N i := hx
  subst hM
  subst hx
  unfold w_X8_voidRuns_l4F
  dsimp only
  rw [rc4 hR]
  refine ⟨fun z => ?_, fun z => ?_⟩
  · rw [le_i] at z
    have e : i = (N 4214).toInt.toNat := by omega
    rw [e]; exact h
  · rw [le_i] at z
    rw [e_told hR ha (wn := 6) rfl (by omega) (by omega)]
    intro x4 e4 x5 e5
    refine hP (x4, x5, M1) (by omega) ⟨?_, rfl, ?_⟩
    · show x5.toInt = ((i + 1 : Nat) : Int)
      rw [e5]; exact ix_a ha rfl (by omega)
    · exact e4
theorem s_cnt11 {v : Int32} {M : Mem} {N : Nat → Int32} {q : Int32 → Mem → Prop} (hR : Rep 1 N M.1) (hI : InvN N) (h : q (spCnt v N) M) : w_X11_count v M q := by
  unfold w_X11_count
  rw [rc0 hR, rc1 hR, rc2 hR, rc3 hR, rc4 hR, rc5 hR, rc6 hR, rc7 hR]
  unfold spCnt at h
  refine ⟨fun e => ?_, fun e => ?_, fun e => ?_, fun e => ?_, fun e => ?_, fun e => s_void hR hI ?_, fun e => ?_, fun e => ?_, fun e => ?_, fun n => ?_⟩
  all_goals first | (subst e; exact h) | (rw [if_neg (by omega)] at h; exact h)
theorem s_cnt12 {v : Int32} {M : Mem} {q : Int32 → Mem → Prop} (hI : InvN (M.1 136)) (h : q (spCnt v (M.1 136)) M) : w_X12_count v M q := by
  have i4 : 0 ≤ (M.1 136 4214).toInt ∧ (M.1 136 4214).toInt ≤ 200 := hI.1 4214 (by decide)
  have f0 : (0 : Int64).toInt = 0 := rfl
  have f8 : (8 : Int64).toInt = 8 := rfl
  have f5 : (5 : Int32).toInt = 5 := rfl
  unfold w_X12_count
  simp only [e_in, tf_z, Classical.not_not, f0, f8, le_i, f5]
  unfold spCnt at h
  refine ⟨fun k => ⟨fun k5 => ⟨fun k6 => ?_, fun k6 => ?_⟩, fun k5 => ?_⟩, fun n => ?_⟩
  · rw [if_pos k, if_pos (by omega)] at h
    unfold w_X12_count_l43
    refine lfp_for (i0 := 0) (n := (M.1 136 4214).toInt.toNat) (fun (i : Nat) (s : Int32 × Int32 × Mem) => s.2.1.toInt = (i : Int) ∧ s.2.2 = M ∧ s.1 = vsum (M.1 136) i) ?_ (by omega) ⟨rfl, rfl, rfl⟩
    intro P i st hi hJ hP
    obtain ⟨x, a, M1⟩ := st
    obtain ⟨ha, hM, hx⟩ := hJ
    have ha : a.toInt = i := ha
    have hM : M1 = M := hM
    have hx : x = vsum (M.1 136) i := hx
    subst hM
    subst hx
    unfold w_X12_count_l43F
    dsimp only
    rw [e_many4]
    refine ⟨fun z => ?_, fun z => ?_⟩
    · rw [le_i] at z
      have e : i = (M1.1 136 4214).toInt.toNat := by omega
      rw [e]; exact h
    · rw [le_i] at z
      have E := ix_a (ix_a (e := (1346 : Int32)) (a := 1346) rfl (ix_m (e := (14 : Int32)) (a := 14) rfl ha (by omega)) (by omega)) (w := 6) (i := 6) rfl (by omega)
      refine ⟨vp_of E (by omega), fun x5 e5 x6 e6 => ?_⟩
      rw [i_of E] at e5
      refine hP (x5, x6, M1) (by omega) ⟨?_, rfl, e5⟩
      show x6.toInt = ((i + 1 : Nat) : Int)
      rw [e6]; exact ix_a ha rfl (by omega)
  · rw [if_pos k, if_neg (by omega), if_neg (by omega)] at h
    rw [e_many (ix_s (ix_n k.1) (w := 1) (i := 1) rfl (by omega)) (by omega)]
    exact h
  · rw [if_pos k, if_neg (by omega), if_pos (by omega)] at h
    rw [e_many (ix_n k.1) (by omega)]
    exact h
  · rw [if_neg n] at h
    exact h
def mix (h : Int64) (f : Nat → Int32) : Nat → Int64
  | 0 => h
  | k + 1 => 31 * mix h f k + (f k).toInt64
theorem mix_cg {h : Int64} {f g : Nat → Int32} {n : Nat} (e : ∀ t, t < n → f t = g t) : mix h f n = mix h g n := by
  induction n with
  | zero => rfl
  | succ n ih =>
    unfold mix
    rw [ih (fun t ht => e t (by omega)), e n (by omega)]
theorem s_mixed {h : Int64} {k n L : Nat} {cnt : Int32} {M : Mem} {q : Int64 → Mem → Prop} (hc : cnt.toInt = n) (hL : len k = L) (hn : n ≤ L) (hb : L < 2147483647) (hq : q (mix h (M.1 k) n) M) : w_X11_mixed h k cnt M q := by
  have eL : (Int32.ofNat L).toInt = L := ti_ofNat (by omega)
  unfold w_X11_mixed w_X11_mixed_l3
  refine lfp_for (i0 := 0) (n := n) (fun (i : Nat) (s : Int64 × Int32 × Mem) => s.2.1.toInt = (i : Int) ∧ s.2.2 = M ∧ s.1 = mix h (M.1 k) i) ?_ (by omega) ⟨rfl, rfl, rfl⟩
  intro P i st hi hJ hP
  obtain ⟨x, a, M1⟩ := st
  obtain ⟨ha, hM, hx⟩ := hJ
  have ha : a.toInt = i := ha
  have hM : M1 = M := hM
  have hx : x = mix h (M.1 k) i := hx
  subst hM
  subst hx
  unfold w_X11_mixed_l3F
  dsimp only
  rw [hL, le_i, le_i, hc, eL, ha]
  refine ⟨fun z => ?_, fun z => ⟨fun z2 => absurd z2 (by omega), fun z2 => ⟨vp_of ha (by omega), fun x4 e4 x5 e5 => ?_⟩⟩⟩
  · have e : i = n := by omega
    rw [e]; exact hq
  · rw [i_of ha] at e4
    refine hP (x4, x5, M1) (by omega) ⟨?_, rfl, e4⟩
    show x5.toInt = ((i + 1 : Nat) : Int)
    rw [e5]; exact ix_a ha rfl (by omega)
theorem s_sums {h : Int64} {st n : Nat} {x cnt : Int32} {M : Mem} {q : Int64 → Mem → Prop} (hx : x.toInt = st) (hc : cnt.toInt = n) (hn : st + n ≤ 4230) (hq : q (mix h (fun t => M.1 136 (st + t)) n) M) : w_X12_sums h x cnt M q := by
  unfold w_X12_sums w_X12_sums_l6
  refine lfp_for (i0 := 0) (n := n) (fun (i : Nat) (s : Int64 × Int32 × Mem) => s.2.1.toInt = (i : Int) ∧ s.2.2 = M ∧ s.1 = mix h (fun t => M.1 136 (st + t)) i) ?_ (by omega) ⟨rfl, rfl, rfl⟩
  intro P i s hi hJ hP
  obtain ⟨y, a, M1⟩ := s
  obtain ⟨ha, hM, hy⟩ := hJ
  have ha : a.toInt = i := ha
  have hM : M1 = M := hM
  have hy : y = mix h (fun t => M.1 136 (st + t)) i := hy
  subst hM
  subst hy
  unfold w_X12_sums_l6F
  dsimp only
  rw [le_i, hc, ha]
  have E := ix_a hx ha (by omega)
  refine ⟨fun z => ?_, fun z => ⟨vp_of E (by omega), fun x4 e4 x5 e5 => ?_⟩⟩
  · have e : i = n := by omega
    rw [e]; exact hq
  · rw [i_of E] at e4
    refine hP (x4, x5, M1) (by omega) ⟨?_, rfl, e4⟩
    show x5.toInt = ((i + 1 : Nat) : Int)
    rw [e5]; exact ix_a ha rfl (by omega)

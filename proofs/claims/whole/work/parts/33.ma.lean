/-! easy methods, both sides, by one spec -/
theorem iv1 {a : Int32} (h1 : -2147483648 ≤ a.toInt) (h : a.toInt < 2147483647) : (a + 1).toInt = a.toInt + 1 := by
  have o : (1 : Int32).toInt = 1 := rfl
  rw [ti_add (by omega) (by omega), o]
theorem rg_text {i : Nat} (h : i < 40) : rg (4170 + i) = (0, 127) := by grind [rg]
theorem rg_look {i : Nat} (h : i < 8) : rg (4162 + i) = (0, 16) := by grind [rg]
theorem rg_diff {i : Nat} (h : i < 16) : rg (4146 + i) = (-1000000, 1000000) := by grind [rg]
theorem rg_run {r w : Nat} (h : r < 200) (hw : w < 14) : rg (1346 + 14 * r + w) = rgR w := by
  have e : (1346 + 14 * r + w - 1346) % 14 = w := by omega
  unfold rg
  rw [if_neg (by omega), if_neg (by omega), if_neg (by omega), if_neg (by omega), if_neg (by omega), if_neg (by omega), if_pos (by omega), e]
theorem rg_mach {m r : Nat} (h : m < 4) (hr : r < 60) : rg (1106 + 60 * m + r) = rgM r := by
  have e : (1106 + 60 * m + r - 1106) % 60 = r := by omega
  unfold rg
  rw [if_neg (by omega), if_neg (by omega), if_neg (by omega), if_neg (by omega), if_neg (by omega), if_pos (by omega), e]
theorem rg_bp {b : Nat} (h : b < 24) : rg (1026 + 2 * b) = (0, 5) := by grind [rg]
theorem rg_bc {b : Nat} (h : b < 24) : rg (1026 + 2 * b + 1) = (0, 1023) := by grind [rg]
theorem rg_val {b : Nat} (h : b < 32) : rg (1074 + b) = (-2147483648, 2147483647) := by grind [rg]
theorem frM2 {M : Mem} {a b : Nat} {v w : Int32} : FrM M (uI (uI M 136 a v) 136 b w) := (frM_uI (by decide) (by decide) (by decide)).tr (frM_uI (by decide) (by decide) (by decide))
theorem frM1 {M : Mem} {a : Nat} {v : Int32} : FrM M (uI M 136 a v) := frM_uI (by decide) (by decide) (by decide)
-- write
def spWrite (v : Int32) (N : Nat → Int32) : Int32 × (Nat → Int32) := if okB v 0 127 then (if (N 4217).toInt < 40 then (N 4217 + 1, upWrite N v) else (-4, N)) else (-2, N)
theorem mm_write {v : Int32} {M : Mem} {q : Int32 → Mem → Prop} (hI : InvN (M.1 136)) (h : PQ (spWrite v (M.1 136)) M q) : w_X12_write v M q := by
  unfold spWrite at h
  refine m_write (hI.1 4217 (by decide)) (fun k1 k2 => ?_) (fun k1 k2 => ?_) (fun k1 => ?_)
  · rw [if_pos (show okB v 0 127 from k1), if_pos k2] at h; exact h
  · rw [if_pos (show okB v 0 127 from k1), if_neg k2] at h; exact mq_0 h
  · rw [if_neg (show ¬ okB v 0 127 from k1)] at h; exact mq_0 h
theorem cc_write {v : Int32} {M : Mem} {N : Nat → Int32} {q : Int32 → Mem → Prop} (hR : Rep 1 N M.1) (hI : InvN N) (h : CQ (spWrite v N) M q) : w_X11_write v M q := by
  have i7 : 0 ≤ (N 4217).toInt ∧ (N 4217).toInt ≤ 40 := hI.1 4217 (by decide)
  have es := rc7 hR
  have f40 : (40 : Int32).toInt = 40 := rfl
  unfold spWrite at h
  unfold w_X11_write
  simp only [e_isBeyond, tf_z, Classical.not_not, es]
  refine ⟨fun k => ⟨fun z => ?_, fun z => ?_⟩, fun k => ?_⟩
  · rw [lt_i, f40] at z
    rw [if_pos (show okB v 0 127 from k), if_pos z] at h
    refine ⟨vp_of (ix_n i7.1) (by omega), fun M6 e6 M7 e7 => ?_⟩
    have g6 : M6.1 1 6 = N 4217 := by rw [e6, uI_k (by decide), es]
    rw [g6] at e7
    have g7 : M7.1 1 6 = N 4217 + 1 := by rw [e7, uI_s]
    rw [g7]
    rw [tn_eq] at e6
    refine h M7 ?_ ?_
    · rw [e7]
      refine wr (j := 4217) (c := 0) (p := 6) ?_ rfl (by decide) (by decide) rfl
      rw [e6]
      exact wr hR (loc_text (by omega)) (by omega) (by omega) rfl
    · rw [e7, e6]
      exact (frC_uI (by decide) (by decide)).tr (frC_uI (by decide) (by decide))
  · rw [lt_i, f40] at z
    rw [if_pos (show okB v 0 127 from k), if_neg z] at h
    exact cq_0 hR h
  · rw [if_neg (show ¬ okB v 0 127 from k)] at h
    exact cq_0 hR h
theorem ii_write {v : Int32} {N : Nat → Int32} (hI : InvN N) : InvN (spWrite v N).2 := by
  have i7 : 0 ≤ (N 4217).toInt ∧ (N 4217).toInt ≤ 40 := hI.1 4217 (by decide)
  unfold spWrite
  by_cases k : okB v 0 127
  · rw [if_pos k]
    by_cases k2 : (N 4217).toInt < 40
    · rw [if_pos k2]
      refine inv_up (inv_up hI (by omega) (by omega) ?_) (by decide) (by decide) ?_
      · rw [rg_text (by omega)]; exact k
      · show 0 ≤ (N 4217 + 1).toInt ∧ (N 4217 + 1).toInt ≤ 40
        rw [iv1 (by omega) (by omega)]
        omega
    · rw [if_neg k2]; exact hI
  · rw [if_neg k]; exact hI
-- price
abbrev okPrice (m a v : Int32) : Prop := okI m 4 ∧ okI a 8 ∧ okB v 0 50
abbrev ixP (m a : Int32) : Nat := 1106 + 60 * m.toInt.toNat + a.toInt.toNat
def spPrice (m a v : Int32) (N : Nat → Int32) : Int32 × (Nat → Int32) := if okPrice m a v then (N (ixP m a), upN N (ixP m a) v) else (-2, N)
theorem mm_price {m a v : Int32} {M : Mem} {q : Int32 → Mem → Prop} (h : PQ (spPrice m a v (M.1 136)) M q) : w_X12_price m a v M q := by
  have bad : ¬ okPrice m a v → q (-2) M := fun n => by unfold spPrice at h; rw [if_neg n] at h; exact mq_0 h
  have f7 : (7 : Int64).toInt = 7 := rfl
  have f0 : (0 : Int64).toInt = 0 := rfl
  have f50 : (50 : Int64).toInt = 50 := rfl
  unfold w_X12_price
  simp only [e_isMachine, e_in, tf_z, Classical.not_not, f7, f0, f50]
  refine ⟨fun n => bad (by omega), fun k1 => ⟨fun n => bad (by omega), fun k2 => ⟨fun k3 x ex => ?_, fun n => bad (by omega)⟩⟩⟩
  have ok : okPrice m a v := by omega
  have E : x.toInt = ((ixP m a : Nat) : Int) := by
    rw [ex]
    exact ix_a (ix_a rfl (ix_m rfl (ix_n k1.1) (by omega)) (by omega)) (ix_n k2.1) (by omega)
  have hb : ixP m a < 4230 := by unfold ixP; omega
  unfold spPrice at h
  rw [if_pos ok] at h
  refine ⟨vp_of E hb, fun y ey => ⟨vp_of E hb, fun M' e => ?_⟩⟩
  rw [i_of E] at ey e
  rw [ey]
  refine h M' ?_ ?_
  · rw [e, now_uI]
  · rw [e]; exact frM1
theorem cc_price {m a v : Int32} {M : Mem} {N : Nat → Int32} {q : Int32 → Mem → Prop} (hR : Rep 1 N M.1) (h : CQ (spPrice m a v N) M q) : w_X11_price m a v M q := by
  have bad : ¬ okPrice m a v → q (-2) M := fun n => by unfold spPrice at h; rw [if_neg n] at h; exact cq_0 hR h
  have f4 : (4 : Int32).toInt = 4 := rfl
  have f8 : (8 : Int32).toInt = 8 := rfl
  have f0 : (0 : Int32).toInt = 0 := rfl
  have f50 : (50 : Int32).toInt = 50 := rfl
  unfold w_X11_price
  simp only [e_isOut, e_isBeyond, tf_z, Classical.not_not, f4, f8, f0, f50]
  refine ⟨fun n => bad (by omega), fun k1 => ⟨fun n => bad (by omega), fun k2 => ⟨fun k3 => ⟨vp_of (ix_n k1.1) (by omega), vp_of (ix_n k2.1) (by omega), fun x ex => ⟨vp_of (ix_n k2.1) (by omega), fun M' e => ?_⟩⟩, fun n => bad (by omega)⟩⟩⟩
  unfold spPrice at h
  rw [if_pos ⟨k1, k2, k3⟩] at h
  have ec : 11 + 6 + 4 * m.toNatClampNeg + 1 = 1 + (17 + 4 * m.toInt.toNat) := by rw [tn_eq]; omega
  rw [ec, tn_eq] at ex e
  rw [rd_price hR (by omega) (by omega)] at ex
  rw [ex]
  refine h M' ?_ ?_
  · rw [e]
    exact wr hR (loc_price (by omega) (by omega)) (by unfold ixP; omega) (by unfold ixP; omega) rfl
  · rw [e]
    exact frC_uI (by omega) (by omega)
theorem ii_price {m a v : Int32} {N : Nat → Int32} (hI : InvN N) : InvN (spPrice m a v N).2 := by
  unfold spPrice
  by_cases k : okPrice m a v
  · rw [if_pos k]
    refine inv_up hI (by unfold ixP; omega) (by unfold ixP; omega) ?_ (by unfold ixP; omega)
    unfold ixP
    rw [rg_mach (by omega) (by omega)]
    unfold rgM
    rw [if_pos (by omega)]
    exact k.2.2
  · rw [if_neg k]; exact hI
-- of
abbrev ixR (r w : Int32) : Nat := 1346 + 14 * r.toInt.toNat + w.toInt.toNat
def spOf (r w : Int32) (N : Nat → Int32) : Int32 × (Nat → Int32) := if okI r (N 4214).toInt ∧ okI w 14 then (N (ixR r w), N) else (-2000000000, N)
theorem mm_of {r w : Int32} {M : Mem} {q : Int32 → Mem → Prop} (hI : InvN (M.1 136)) (h : PQ (spOf r w (M.1 136)) M q) : w_X12_of r w M q := by
  have i4 : 0 ≤ (M.1 136 (4210 + 4)).toInt ∧ (M.1 136 (4210 + 4)).toInt ≤ 200 := hI.1 4214 (by decide)
  have bad : ¬ (okI r (M.1 136 4214).toInt ∧ okI w 14) → q (-2000000000) M := fun n => by unfold spOf at h; rw [if_neg n] at h; exact mq_0 h
  have f0 : (0 : Int64).toInt = 0 := rfl
  have f13 : (13 : Int64).toInt = 13 := rfl
  unfold w_X12_of
  simp only [e_has (v := 4) (k := 4) rfl (by decide) i4.1, e_in, tf_z, Classical.not_not, f0, f13]
  refine ⟨fun n => bad (fun x => n x.1), fun k1 => ⟨fun n => bad (by omega), fun k2 => ?_⟩⟩
  have E := ix_a (ix_a (e := (1346 : Int32)) (a := 1346) rfl (ix_m (e := (14 : Int32)) (a := 14) rfl (ix_n k1.1) (by omega)) (by omega)) (ix_n k2.1) (by omega)
  refine ⟨vp_of E (by omega), ?_⟩
  rw [i_of E]
  unfold spOf at h
  rw [if_pos ⟨k1, by omega⟩] at h
  exact mq_0 h
theorem e_told {r w : Int32} {rn wn : Nat} {M : Mem} {N : Nat → Int32} {q : Int32 → Mem → Prop} (hR : Rep 1 N M.1) (hr : r.toInt = rn) (hw : w.toInt = wn) (h1 : rn < 200) (h2 : wn < 14) : w_X8_told 1 r w M q = q (N (1346 + 14 * rn + wn)) M := by
  have E : (r * (14 : Int32) + w).toInt = ((rn * 14 + wn : Nat) : Int) := ix_a (ix_m hr rfl (by omega)) hw (by omega)
  unfold w_X8_told
  rw [i_of E, show M.1 (1 + 14) (rn * 14 + wn) = N (1346 + 14 * rn + wn) from by rw [show 1346 + 14 * rn + wn = 1346 + (rn * 14 + wn) from by omega]; exact rd_run hR (by omega)]
  exact propext ⟨fun x => x.2, fun x => ⟨vp_of E (by omega), x⟩⟩
theorem e_tell {r w v : Int32} {rn wn : Nat} {M : Mem} {q : Mem → Prop} (hr : r.toInt = rn) (hw : w.toInt = wn) (h1 : rn < 200) (h2 : wn < 14) : w_X8_tell 1 r w v M q = q (uI M 15 (14 * rn + wn) v) := by
  have E : (r * (14 : Int32) + w).toInt = ((rn * 14 + wn : Nat) : Int) := ix_a (ix_m hr rfl (by omega)) hw (by omega)
  have e2 : rn * 14 + wn = 14 * rn + wn := by omega
  unfold w_X8_tell
  rw [i_of E, e2]
  exact propext ⟨fun x => x.2 _ rfl, fun x => ⟨vp_of E (by omega), fun M' e => by rw [e]; exact x⟩⟩
theorem cc_of {r w : Int32} {M : Mem} {N : Nat → Int32} {q : Int32 → Mem → Prop} (hR : Rep 1 N M.1) (hI : InvN N) (h : CQ (spOf r w N) M q) : w_X11_of r w M q := by
  have i4 : 0 ≤ (N 4214).toInt ∧ (N 4214).toInt ≤ 200 := hI.1 4214 (by decide)
  have bad : ¬ (okI r (N 4214).toInt ∧ okI w 14) → q (-2000000000) M := fun n => by unfold spOf at h; rw [if_neg n] at h; exact cq_0 hR h
  have f14 : (14 : Int32).toInt = 14 := rfl
  unfold w_X11_of
  simp only [e_isOut, tf_z, Classical.not_not, rc4 hR, f14]
  refine ⟨fun n => bad (fun x => n x.1), fun k1 => ⟨fun k2 => ?_, fun n => bad (fun x => n x.2)⟩⟩
  rw [e_told hR (ix_n k1.1) (ix_n k2.1) (by omega) (by omega)]
  unfold spOf at h
  rw [if_pos ⟨k1, k2⟩] at h
  exact cq_0 hR h
theorem ii_of {r w : Int32} {N : Nat → Int32} (hI : InvN N) : InvN (spOf r w N).2 := by
  unfold spOf
  by_cases k : okI r (N 4214).toInt ∧ okI w 14
  · rw [if_pos k]; exact hI
  · rw [if_neg k]; exact hI

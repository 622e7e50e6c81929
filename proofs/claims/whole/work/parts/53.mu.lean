/-! figure -/
abbrev okFig (N : Nat → Int32) (b m s k w : Int32) : Prop := okSpot N b m s ∧ okB k 0 200 ∧ okI w 4
abbrev gatK (N : Nat → Int32) (b m s : Int32) (k : Nat) : Nat × (Nat → Int32) := gat N b m s (min (N 4214).toInt.toNat k)
def figV (g : Nat × (Nat → Int32)) (w : Int32) : Int32 := if w = 0 then Int32.ofNat g.1 else if g.1 = 0 then -1 else if w = 1 then g.2 0 else if w = 2 then g.2 (g.1 - 1) else mid g.1 g.2
def spFig (b m s k w : Int32) (N : Nat → Int32) : Int32 := if okFig N b m s k w then figV (gatK N b m s k.toInt.toNat) w else -2
theorem FrB.q {ks js ka : Nat} {M M' : Mem} (h : FrB ks js ka M M') (h1 : 35 ≤ ks ∧ ks < 71) (h2 : 35 ≤ ka ∧ ka < 71) : FQ M M' := ⟨fun a ha => by funext b; exact h.1 a b (by omega) (by omega), fun a _ => by rw [h.2]⟩
theorem FrB.m {M M' : Mem} (h : FrB 135 12 145 M M') : FM M M' := ⟨fun a ha => by funext b; exact h.1 a b (by omega) (by omega), fun a _ => by rw [h.2], by rw [h.2]⟩
theorem gat_200 {N : Nat → Int32} (hI : InvN N) {b m s : Int32} {k : Nat} : (gat N b m s (min (N 4214).toInt.toNat k)).1 ≤ 200 := by
  have i4 : 0 ≤ (N 4214).toInt ∧ (N 4214).toInt ≤ 200 := hI.1 4214 (by decide)
  have := gat_le (N := N) (b := b) (m := m) (s := s) (min (N 4214).toInt.toNat k)
  omega
theorem n_zero {a : Int32} {n : Nat} (h : a.toInt = n) : (a = 0) ↔ n = 0 := by
  have f0 : (0 : Int32).toInt = 0 := rfl
  rw [eq_i, h, f0]
  omega
theorem c_fig {b m s k w : Int32} {M : Mem} {N : Nat → Int32} {q : Int32 → Mem → Prop} (hR : Rep 1 N M.1) (hI : InvN N) (h : ∀ M', FQ M M' → q (spFig b m s k w N) M') : w_X11_figure b m s k w M q := by
  have bad : ¬ okFig N b m s k w → q (-2) M := fun n => by have := h M (FQ.rf M); unfold spFig at this; rw [if_neg n] at this; exact this
  have f0 : (0 : Int32).toInt = 0 := rfl
  have f2 : (200 : Int32).toInt = 200 := rfl
  have f4 : (4 : Int32).toInt = 4 := rfl
  unfold w_X11_figure
  rw [e_isNoSpot hR]
  simp only [e_isBeyond, e_isOut, tf_z, Classical.not_not, f0, f2, f4]
  refine ⟨fun n => bad (fun x => n x.1), fun k1 => ⟨fun n => bad (fun x => n x.2.1), fun k2 => ⟨fun k3 => ?_, fun n => bad (fun x => n x.2.2)⟩⟩⟩
  refine s_gather hR hI (by decide) (ix_n k2.1) (fun M10 h10 f10 => ?_)
  have h := h M10 (f10.q (by decide) (by decide))
  unfold spFig figV at h
  rw [if_pos ⟨k1, k2, k3⟩] at h
  have hn := gat_200 hI (b := b) (m := m) (s := s) (k := k.toInt.toNat)
  rw [n_zero h10.1]
  refine ⟨fun w0 => ⟨fun n0 => ⟨fun w1 => ⟨fun w2 => e_middle h10 hn ?_, fun w2 => e_greatest h10 hn ?_⟩, fun w1 => e_least h10 ?_⟩, fun n0 => ?_⟩, fun w0 => ?_⟩
  · rw [if_neg n0]
    rw [if_neg w0, if_neg n0, if_neg w1, if_neg w2] at h
    exact h
  · rw [if_neg n0]
    rw [if_neg w0, if_neg n0, if_neg w1, if_pos w2] at h
    exact h
  · rw [if_neg n0]
    rw [if_neg w0, if_neg n0, if_pos w1] at h
    exact h
  · rw [if_neg w0, if_pos n0] at h
    exact h
  · rw [if_pos w0] at h
    rw [i_nat h10.1]
    exact h
theorem m_fig {b m s k w : Int32} {M : Mem} {q : Int32 → Mem → Prop} (hI : InvN (M.1 136)) (h : ∀ M', FM M M' → q (spFig b m s k w (M.1 136)) M') : w_X12_figure b m s k w M q := by
  have bad : ¬ okFig (M.1 136) b m s k w → q (-2) M := fun n => by have := h M (FM.rf M); unfold spFig at this; rw [if_neg n] at this; exact this
  have f0 : (0 : Int64).toInt = 0 := rfl
  have f2 : (200 : Int64).toInt = 200 := rfl
  have f3 : (3 : Int64).toInt = 3 := rfl
  unfold w_X12_figure
  rw [e_isThere hI]
  simp only [e_in, tf_z, Classical.not_not, f0, f2, f3]
  refine ⟨fun n => bad (fun x => n x.1), fun k1 => ⟨fun n => bad (fun x => n x.2.1), fun k2 => ⟨fun k3 => ?_, fun n => bad (fun x => n (by have := x.2.2; omega))⟩⟩⟩
  refine s_sortRuns hI (ix_n k2.1) (fun M10 h10 f10 => ?_)
  have h := h M10 f10.m
  unfold spFig figV at h
  rw [if_pos ⟨k1, k2, by omega⟩] at h
  have hn := gat_200 hI (b := b) (m := m) (s := s) (k := k.toInt.toNat)
  rw [n_zero h10.1]
  refine ⟨fun w0 => ⟨fun n0 => ⟨fun w1 => ⟨fun w2 => e_middle12 h10 (by omega) hn ?_, fun w2 => ?_⟩, fun w1 => ?_⟩, fun n0 => ?_⟩, fun w0 => ?_⟩
  · rw [if_neg w0, if_neg n0, if_neg w1, if_neg w2] at h
    exact h
  · rw [if_neg w0, if_neg n0, if_neg w1, if_pos w2] at h
    have E := ix_s h10.1 (w := 1) (i := 1) rfl (by omega)
    refine ⟨vp_of E (by omega), ?_⟩
    rw [i_of E, h10.2 _ (by omega)]
    exact h
  · rw [if_neg w0, if_neg n0, if_pos w1] at h
    rw [h10.2 0 (by omega)]
    exact h
  · rw [if_neg w0, if_pos n0] at h
    exact h
  · rw [if_pos w0] at h
    rw [i_nat h10.1]
    exact h

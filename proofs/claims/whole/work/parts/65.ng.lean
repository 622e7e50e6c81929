/-! plain, seek -/
abbrev bP (N : Nat → Int32) (b : Int32) : Nat := toN (N (1026 + 2 * b.toInt.toNat))
abbrev bC (N : Nat → Int32) (b : Int32) : Int32 := N (1026 + 2 * b.toInt.toNat + 1)
theorem bP_6 {N : Nat → Int32} (hI : InvN N) {b : Nat} (hb : b < 24) : toN (N (1026 + 2 * b)) < 6 ∧ (N (1026 + 2 * b)).toInt = ((toN (N (1026 + 2 * b)) : Nat) : Int) := by
  have ip : 0 ≤ (N (1026 + 2 * b)).toInt ∧ (N (1026 + 2 * b)).toInt ≤ 5 := by
    have := hI.1 (1026 + 2 * b) (by omega)
    rw [rg_bp hb] at this
    exact this
  unfold toN
  omega
theorem s_goPlain {bI mI sI : Int32} {M : Mem} {N : Nat → Int32} {q : Mem → Prop} (hR : Rep 1 N M.1) (hI : InvN N) (hb : okI bI 24) (hm : okI mI 4) (hs : okI sI 8) (h : ∀ M', (∀ i, i < 6 → M'.1 36 i = plC N mI.toInt.toNat sI.toInt.toNat (bP N bI) (bC N bI) i) → M'.1 35 1 = tf (plV N mI.toInt.toNat sI.toInt.toNat (bP N bI) (bC N bI)) → FrP M M' → q M') : w_X7_goPlain 35 1 bI mI sI M q := by
  unfold w_X7_goPlain
  refine ⟨vp_of (ix_n hb.1) (by omega), ?_⟩
  rw [tn_eq, show M.1 (1 + 1 + 7) bI.toInt.toNat = bC N bI from rd_bc hR (by omega)]
  exact s_plainWith hR hI (ix_n hb.1) (by omega) (ix_n hm.1) (by omega) (ix_n hs.1) (by omega) h
theorem s_goesP {bI mI sI : Int32} {M : Mem} {q : Mem → Prop} (hI : InvN (M.1 136)) (hb : okI bI 24) (hm : okI mI 4) (hs : okI sI 8) (h : ∀ M', (∀ i, i < 6 → M'.1 144 i = plC (M.1 136) mI.toInt.toNat sI.toInt.toNat (bP (M.1 136) bI) (bC (M.1 136) bI) i) → M'.1 135 10 = tf (plV (M.1 136) mI.toInt.toNat sI.toInt.toNat (bP (M.1 136) bI) (bC (M.1 136) bI)) → FM M M' → q M') : vp_in ((1026 : Int32) + (2 : Int32) * bI) 4230 ∧ vp_in ((1026 : Int32) + (2 : Int32) * bI + (1 : Int32)) 4230 ∧ w_X12_goesPlain (M.1 136 ((1026 : Int32) + (2 : Int32) * bI).toNatClampNeg) (M.1 136 ((1026 : Int32) + (2 : Int32) * bI + (1 : Int32)).toNatClampNeg) mI sI M q := by
  have E := ix_a (e := (1026 : Int32)) (a := 1026) rfl (ix_m (e := (2 : Int32)) (a := 2) rfl (ix_n hb.1) (by omega)) (by omega)
  have E1 := ix_a E (w := 1) (i := 1) rfl (by omega)
  have z := bP_6 hI (b := bI.toInt.toNat) (by omega)
  rw [i_of E, i_of E1]
  exact ⟨vp_of E (by omega), vp_of E1 (by omega), s_goesPlain hI z.2 z.1 (ix_n hm.1) (by omega) (ix_n hs.1) (by omega) h⟩
theorem spot {N : Nat → Int32} (hI : InvN N) {b m s : Int32} (h : okSpot N b m s) : okI b 24 ∧ okI m 4 ∧ okI s 8 := by
  have i2 : 0 ≤ (N 4212).toInt ∧ (N 4212).toInt ≤ 24 := hI.1 4212 (by decide)
  have i3 : 0 ≤ (N 4213).toInt ∧ (N 4213).toInt ≤ 8 := hI.1 4213 (by decide)
  omega
def spPlain (b m s w : Int32) (N : Nat → Int32) : Int32 := if okSpot N b m s ∧ okI w 6 then plC N m.toInt.toNat s.toInt.toNat (bP N b) (bC N b) w.toInt.toNat else -2
theorem c_plain {b m s w : Int32} {M : Mem} {N : Nat → Int32} {q : Int32 → Mem → Prop} (hR : Rep 1 N M.1) (hI : InvN N) (h : ∀ M', FQ M M' → q (spPlain b m s w N) M') : w_X11_plain b m s w M q := by
  have bad : ¬ (okSpot N b m s ∧ okI w 6) → q (-2) M := fun n => by have := h M (FQ.rf M); unfold spPlain at this; rw [if_neg n] at this; exact this
  have f6 : (6 : Int32).toInt = 6 := rfl
  unfold w_X11_plain
  rw [e_isNoSpot hR]
  simp only [e_isOut, tf_z, Classical.not_not, f6]
  refine ⟨fun n => bad (fun x => n x.1), fun k1 => ⟨fun k2 => ?_, fun n => bad (fun x => n x.2)⟩⟩
  have sp := spot hI k1
  refine s_goPlain hR hI sp.1 sp.2.1 sp.2.2 (fun M7 h1 _ f7 => ⟨vp_of (ix_n k2.1) (by omega), ?_⟩)
  have h := h M7 f7.q
  unfold spPlain at h
  rw [if_pos ⟨k1, k2⟩] at h
  rw [tn_eq, h1 _ (by omega)]
  exact h
theorem m_plain {b m s w : Int32} {M : Mem} {q : Int32 → Mem → Prop} (hI : InvN (M.1 136)) (h : ∀ M', FM M M' → q (spPlain b m s w (M.1 136)) M') : w_X12_plain b m s w M q := by
  have bad : ¬ (okSpot (M.1 136) b m s ∧ okI w 6) → q (-2) M := fun n => by have := h M (FM.rf M); unfold spPlain at this; rw [if_neg n] at this; exact this
  have f0 : (0 : Int64).toInt = 0 := rfl
  have f5 : (5 : Int64).toInt = 5 := rfl
  unfold w_X12_plain
  rw [e_isThere hI]
  simp only [e_in, tf_z, Classical.not_not, f0, f5]
  refine ⟨fun n => bad (fun x => n x.1), fun k1 => ⟨fun k2 => ?_, fun n => bad (fun x => n (by have := x.2; omega))⟩⟩
  have sp := spot hI k1
  refine s_goesP hI sp.1 sp.2.1 sp.2.2 (fun M7 h1 _ f7 => ⟨vp_of (ix_n k2.1) (by omega), ?_⟩)
  have h := h M7 f7
  unfold spPlain at h
  rw [if_pos ⟨k1, by omega⟩] at h
  rw [tn_eq, h1 _ (by omega)]
  exact h
-- seek
def sk (N : Nat → Int32) (mn pn : Nat) (ch price : Int32) : Nat → Nat → Int32 → Int32 → Int32 → Int32 → Int32 × Int32
  | 0, _, b, _, _, tr => (b, tr)
  | r + 1, i, b, l, sp, tr =>
    if (sp + (if plV N mn i pn ch then 2000 else plC N mn i pn ch 5)).toInt ≤ price.toInt then
      (if plV N mn i pn ch ∨ (¬ b = -1 ∧ l.toInt ≤ (plC N mn i pn ch 5).toInt) then sk N mn pn ch price r (i + 1) b l (sp + (if plV N mn i pn ch then 2000 else plC N mn i pn ch 5)) (tr + 1)
       else sk N mn pn ch price r (i + 1) (Int32.ofNat i) (plC N mn i pn ch 5) (sp + (if plV N mn i pn ch then 2000 else plC N mn i pn ch 5)) (tr + 1))
    else (b, tr)
abbrev okSeek (N : Nat → Int32) (b m p w : Int32) : Prop := okI b (N 4212).toInt ∧ okI m 4 ∧ okB p 0 1000000 ∧ okI w 2
def spSeek (b m p w : Int32) (N : Nat → Int32) : Int32 := if okSeek N b m p w then (if w = 0 then (sk N m.toInt.toNat (bP N b) (bC N b) p (N 4213).toInt.toNat 0 (-1) 0 0 0).1 else (sk N m.toInt.toNat (bP N b) (bC N b) p (N 4213).toInt.toNat 0 (-1) 0 0 0).2) else -2
theorem c_seek {b m p w : Int32} {M : Mem} {N : Nat → Int32} {q : Int32 → Mem → Prop} (hR : Rep 1 N M.1) (hI : InvN N) (h : ∀ M', FQ M M' → q (spSeek b m p w N) M') : w_X11_seek b m p w M q := by
  have i2 : 0 ≤ (N 4212).toInt ∧ (N 4212).toInt ≤ 24 := hI.1 4212 (by decide)
  have i3 : 0 ≤ (N 4213).toInt ∧ (N 4213).toInt ≤ 8 := hI.1 4213 (by decide)
  have bad : ¬ okSeek N b m p w → q (-2) M := fun n => by have := h M (FQ.rf M); unfold spSeek at this; rw [if_neg n] at this; exact this
  have f4 : (4 : Int32).toInt = 4 := rfl
  have f0 : (0 : Int32).toInt = 0 := rfl
  have f1 : (1000000 : Int32).toInt = 1000000 := rfl
  have f2 : (2 : Int32).toInt = 2 := rfl
  unfold w_X11_seek
  simp only [e_isOut, e_isBeyond, tf_z, Classical.not_not, rc2 hR, f4, f0, f1, f2]
  refine ⟨fun n => bad (fun x => n x.1), fun k1 => ⟨fun n => bad (fun x => n x.2.1), fun k2 => ⟨fun n => bad (fun x => n x.2.2.1), fun k3 => ⟨fun k4 => ?_, fun n => bad (fun x => n x.2.2.2)⟩⟩⟩⟩
  unfold spSeek at h
  rw [if_pos ⟨k1, k2, k3, k4⟩] at h
  generalize hg : sk N m.toInt.toNat (bP N b) (bC N b) p (N 4213).toInt.toNat 0 (-1) 0 0 0 = g at h
  unfold w_X11_seek_l63
  refine lfp_for (i0 := 0) (n := (N 4213).toInt.toNat) (fun (i : Nat) (t : Int32 × Int32 × Int32 × Int32 × Int32 × Mem) => t.2.2.2.2.1.toInt = (i : Int) ∧ g = sk N m.toInt.toNat (bP N b) (bC N b) p ((N 4213).toInt.toNat - i) i t.1 t.2.1 t.2.2.1 t.2.2.2.1 ∧ FQ M t.2.2.2.2.2) ?_ (by omega) ⟨rfl, hg.symm, FQ.rf M⟩
  intro P i st hi hJ hP
  obtain ⟨v5, v6, v7, v8, v9, M1⟩ := st
  obtain ⟨ha0, hg0, hF0⟩ := hJ
  have ha : v9.toInt = (i : Int) := ha0
  have hg1 : g = sk N m.toInt.toNat (bP N b) (bC N b) p ((N 4213).toInt.toNat - i) i v5 v6 v7 v8 := hg0
  have hF : FQ M M1 := hF0
  clear ha0 hg0 hF0
  have hR1 := hF.r hR
  have out : ∀ M2, FQ M M2 → g = (v5, v8) → w_X11_seek_b186 w v5 v8 M2 q := fun M2 f2 eg => by
    have := h M2 f2
    unfold w_X11_seek_b186
    rw [eg] at this
    exact ⟨fun n => by rw [if_neg n] at this; exact this, fun k => by rw [if_pos k] at this; exact this⟩
  unfold w_X11_seek_l63F
  dsimp only
  rw [rc3 hR1]
  refine ⟨fun z => ?_, fun z => ?_⟩
  · rw [le_i] at z
    refine out M1 hF ?_
    rw [hg1, show (N 4213).toInt.toNat - i = 0 from by omega]
    rfl
  · rw [le_i] at z
    have sI : okI v9 8 := by omega
    refine s_goPlain hR1 hI (by omega) k2 sI (fun M11 h11 v11 f11 => ?_)
    have F11 : FQ M M11 := hF.tr f11.q
    have en : v9.toInt.toNat = i := by omega
    rw [en] at h11 v11
    have e5 := h11 5 (by decide)
    rw [show (N 4213).toInt.toNat - i = ((N 4213).toInt.toNat - (i + 1)) + 1 from by omega, sk] at hg1
    have next : ∀ a5 a6 a7 a8, g = sk N m.toInt.toNat (bP N b) (bC N b) p ((N 4213).toInt.toNat - (i + 1)) (i + 1) a5 a6 a7 a8 → ∀ x : Int32, x = v9 + 1 → P (a5, a6, a7, a8, x, M11) := fun a5 a6 a7 a8 eg x ex => by
      refine hP (a5, a6, a7, a8, x, M11) (by omega) ⟨?_, eg, F11⟩
      show x.toInt = ((i + 1 : Nat) : Int)
      rw [ex]; exact ix_a ha rfl (by omega)
    have body : ∀ t1 : Int32, t1 = (if plV N m.toInt.toNat i (bP N b) (bC N b) then 2000 else plC N m.toInt.toNat i (bP N b) (bC N b) 5) → w_X11_seek_b120 b m p w v5 v6 v8 v9 v7 t1 M11 q P := fun t1 e1 => by
      rw [← e1] at hg1
      unfold w_X11_seek_b120 w_X11_seek_b165 w_X11_seek_b180
      intro x4 e4
      rw [← e4] at hg1
      rw [v11, tf_z, e5, le_i, le_i]
      refine ⟨fun c1 x6 e6 => ?_, fun c1 => out M11 F11 (by rw [hg1, if_neg c1])⟩
      rw [if_pos c1, ← e6] at hg1
      refine ⟨fun cv => next _ _ _ _ (by rw [hg1, if_pos (Or.inl (Classical.not_not.mp cv))]), fun cv => ⟨fun cb x3 e3 => next _ _ _ _ ?_, fun cb => ⟨fun cl => next _ _ _ _ (by rw [hg1, if_pos (Or.inr ⟨cb, cl⟩)]), fun cl x3 e3 => next _ _ _ _ ?_⟩⟩⟩
      · rw [hg1, if_neg (fun y => by rcases y with y | y; exact cv y; exact y.1 cb), e3, i_nat ha]
      · rw [hg1, if_neg (fun y => by rcases y with y | y; exact cv y; exact cl y.2), e3, i_nat ha]
    rw [v11, tf_z, e5]
    exact ⟨fun nv => body _ (by rw [if_neg nv]), fun vv => body _ (by rw [if_pos (Classical.not_not.mp vv)])⟩
theorem m_seek {b m p w : Int32} {M : Mem} {q : Int32 → Mem → Prop} (hI : InvN (M.1 136)) (h : ∀ M', FM M M' → q (spSeek b m p w (M.1 136)) M') : w_X12_seek b m p w M q := by
  have i2 : 0 ≤ (M.1 136 4212).toInt ∧ (M.1 136 4212).toInt ≤ 24 := hI.1 4212 (by decide)
  have i3 : 0 ≤ (M.1 136 4213).toInt ∧ (M.1 136 4213).toInt ≤ 8 := hI.1 4213 (by decide)
  have bad : ¬ okSeek (M.1 136) b m p w → q (-2) M := fun n => by have := h M (FM.rf M); unfold spSeek at this; rw [if_neg n] at this; exact this
  have f0 : (0 : Int64).toInt = 0 := rfl
  have f1 : (1000000 : Int64).toInt = 1000000 := rfl
  have f2 : (1 : Int64).toInt = 1 := rfl
  unfold w_X12_seek
  simp only [e_has2 i2.1, e_isMachine, e_in, tf_z, Classical.not_not, f0, f1, f2]
  refine ⟨fun n => bad (fun x => n x.1), fun k1 => ⟨fun n => bad (fun x => n (by have := x.2.1; omega)), fun k2 => ⟨fun n => bad (fun x => n x.2.2.1), fun k3 => ⟨fun k4 => ?_, fun n => bad (fun x => n (by have := x.2.2.2; omega))⟩⟩⟩⟩
  unfold spSeek at h
  rw [if_pos ⟨k1, by omega, k3, by omega⟩] at h
  generalize hg : sk (M.1 136) m.toInt.toNat (bP (M.1 136) b) (bC (M.1 136) b) p (M.1 136 4213).toInt.toNat 0 (-1) 0 0 0 = g at h
  unfold w_X12_seek_l57
  refine lfp_for (i0 := 0) (n := (M.1 136 4213).toInt.toNat + 1) (fun (i : Nat) (t : Int32 × Int32 × Int32 × Int32 × Int32 × Mem) => FM M t.2.2.2.2.2 ∧ ((i ≤ (M.1 136 4213).toInt.toNat ∧ t.2.2.2.2.1.toInt = (i : Int) ∧ g = sk (M.1 136) m.toInt.toNat (bP (M.1 136) b) (bC (M.1 136) b) p ((M.1 136 4213).toInt.toNat - i) i t.2.2.1 t.2.2.2.1 t.2.1 t.1) ∨ (t.2.2.2.2.1.toInt = (M.1 136 4213).toInt + 1 ∧ g = (t.2.2.1, t.1)))) ?_ (by omega) ⟨FM.rf M, Or.inl ⟨by omega, rfl, hg.symm⟩⟩
  intro P i st hi hJ hP
  obtain ⟨v5, v6, v7, v8, v9, M1⟩ := st
  obtain ⟨hF0, hm0⟩ := hJ
  have hF : FM M M1 := hF0
  have hm : (i ≤ (M.1 136 4213).toInt.toNat ∧ v9.toInt = (i : Int) ∧ g = sk (M.1 136) m.toInt.toNat (bP (M.1 136) b) (bC (M.1 136) b) p ((M.1 136 4213).toInt.toNat - i) i v7 v8 v6 v5) ∨ (v9.toInt = (M.1 136 4213).toInt + 1 ∧ g = (v7, v5)) := hm0
  clear hF0 hm0
  have e6 := hF.n
  have out : ∀ M2, FM M M2 → g = (v7, v5) → ((¬ w = 0 → q v5 M2) ∧ (w = 0 → q v7 M2)) := fun M2 f2 eg => by
    have := h M2 f2
    rw [eg] at this
    exact ⟨fun n => by rw [if_neg n] at this; exact this, fun k => by rw [if_pos k] at this; exact this⟩
  unfold w_X12_seek_l57F
  dsimp only
  rw [e_many3, e6]
  rcases hm with ⟨hi2, ha, hg1⟩ | ⟨ha, hg1⟩
  · refine ⟨fun z => ?_, fun z => ?_⟩
    · rw [le_i] at z
      refine out M1 hF ?_
      rw [hg1, show (M.1 136 4213).toInt.toNat - i = 0 from by omega]
      rfl
    · rw [le_i] at z
      rw [← e6]
      refine s_goesP (by rw [e6]; exact hI) (by omega) (by omega) (by omega) (fun M11 h11 v11 f11 => ?_)
      rw [e6] at h11 v11
      have F11 : FM M M11 := hF.tr f11
      have en : v9.toInt.toNat = i := by omega
      rw [en] at h11 v11
      have e5 := h11 5 (by decide)
      rw [show (M.1 136 4213).toInt.toNat - i = ((M.1 136 4213).toInt.toNat - (i + 1)) + 1 from by omega, sk] at hg1
      have next : ∀ a7 a8 a6 a5, g = sk (M.1 136) m.toInt.toNat (bP (M.1 136) b) (bC (M.1 136) b) p ((M.1 136 4213).toInt.toNat - (i + 1)) (i + 1) a7 a8 a6 a5 → ∀ x : Int32, x = v9 + 1 → P (a5, a6, a7, a8, x, M11) := fun a7 a8 a6 a5 eg x ex => by
        refine hP (a5, a6, a7, a8, x, M11) (by omega) ⟨F11, Or.inl ⟨by omega, ?_, eg⟩⟩
        show x.toInt = ((i + 1 : Nat) : Int)
        rw [ex]; exact ix_a ha rfl (by omega)
      have body : ∀ t1 : Int32, t1 = (if plV (M.1 136) m.toInt.toNat i (bP (M.1 136) b) (bC (M.1 136) b) then 2000 else plC (M.1 136) m.toInt.toNat i (bP (M.1 136) b) (bC (M.1 136) b) 5) → w_X12_seek_b121 b m p w v5 v7 v8 v9 v6 t1 M11 q P := fun t1 e1 => by
        rw [← e1] at hg1
        unfold w_X12_seek_b121 w_X12_seek_b167 w_X12_seek_b179
        intro x4 e4
        rw [← e4] at hg1
        rw [v11, tf_z, e5, le_i, le_i]
        refine ⟨fun c1 x6 ex6 => ?_, fun c1 => ?_⟩
        · rw [if_pos c1, ← ex6] at hg1
          refine ⟨fun cv => next _ _ _ _ (by rw [hg1, if_pos (Or.inl (Classical.not_not.mp cv))]), fun cv => ⟨fun cb x3 e3 => next _ _ _ _ ?_, fun cb => ⟨fun cl => next _ _ _ _ (by rw [hg1, if_pos (Or.inr ⟨cb, cl⟩)]), fun cl x3 e3 => next _ _ _ _ ?_⟩⟩⟩
          · rw [hg1, if_neg (fun y => by rcases y with y | y; exact cv y; exact y.1 cb), e3, i_nat ha]
          · rw [hg1, if_neg (fun y => by rcases y with y | y; exact cv y; exact cl y.2), e3, i_nat ha]
        · rw [e_many3, F11.n]
          intro x1 ex1
          refine hP (v5, x4, v7, v8, x1, M11) (by omega) ⟨F11, Or.inr ⟨?_, by rw [hg1, if_neg c1]⟩⟩
          show x1.toInt = _
          rw [ex1, iv1 (by omega) (by omega)]
      rw [v11, tf_z, e5]
      exact ⟨fun nv => body _ (by rw [if_neg nv]), fun vv => body _ (by rw [if_pos (Classical.not_not.mp vv)])⟩
  · refine ⟨fun z => out M1 hF hg1, fun z => absurd (by rw [le_i]; omega) z⟩

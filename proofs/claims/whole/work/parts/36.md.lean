/-! setting, noise; loops; cache, guess -/
theorem a1s1 (a : Int32) : a + 1 - 1 = a := Int32.add_sub_cancel a 1
-- setting
abbrev okSet (a b c d : Int32) : Prop := okB a (-1000) 1000 ∧ okB b (-1000) 1000 ∧ okB c (-1000) 1000 ∧ okB d (-1000) 1000
def up4 (N : Nat → Int32) (j : Nat) (a b c d : Int32) : Nat → Int32 := upN (upN (upN (upN N j a) (j + 1) b) (j + 2) c) (j + 3) d
def spSet (a b c d : Int32) (N : Nat → Int32) : Int32 × (Nat → Int32) := if okSet a b c d then (if (N 4213).toInt < 8 then (N 4213, upN (up4 N (1074 + 4 * (N 4213).toInt.toNat) a b c d) 4213 (N 4213 + 1)) else (-4, N)) else (-2, N)
/-- four numbers put side by side -/
theorem e_put {x a b c d : Int32} {j : Nat} {M : Mem} {q : Mem → Prop} (hx : x.toInt = j) (hj : j + 3 < 4230) : w_X12_put x a b c d M q = q (uI (uI (uI (uI M 136 j a) 136 (j + 1) b) 136 (j + 2) c) 136 (j + 3) d) := by
  have E1 := ix_a hx (w := 1) (i := 1) rfl (by omega)
  have E2 := ix_a hx (w := 2) (i := 2) rfl (by omega)
  have E3 := ix_a hx (w := 3) (i := 3) rfl (by omega)
  unfold w_X12_put
  simp only [forall_eq, i_of hx, i_of E1, i_of E2, i_of E3]
  exact propext ⟨fun h => h.2.2.2.2, fun h => ⟨vp_of hx (by omega), vp_of E1 (by omega), vp_of E2 (by omega), vp_of E3 (by omega), h⟩⟩
theorem now_4 {M : Mem} {j : Nat} {a b c d : Int32} : (uI (uI (uI (uI M 136 j a) 136 (j + 1) b) 136 (j + 2) c) 136 (j + 3) d).1 136 = up4 (M.1 136) j a b c d := by
  rw [now_uI, now_uI, now_uI, now_uI]
  rfl
theorem frM4 {M : Mem} {j1 j2 j3 j4 : Nat} {a b c d : Int32} : FrM M (uI (uI (uI (uI M 136 j1 a) 136 j2 b) 136 j3 c) 136 j4 d) := frM2.tr frM2
theorem mm_set {a b c d : Int32} {M : Mem} {q : Int32 → Mem → Prop} (hI : InvN (M.1 136)) (h : PQ (spSet a b c d (M.1 136)) M q) : w_X12_setting a b c d M q := by
  have i3 : 0 ≤ (M.1 136 4213).toInt ∧ (M.1 136 4213).toInt ≤ 8 := hI.1 4213 (by decide)
  have f8 : (8 : Int32).toInt = 8 := rfl
  have bad : ¬ okSet a b c d → q (-2) M := fun n => by unfold spSet at h; rw [if_neg n] at h; exact mq_0 h
  unfold w_X12_setting
  simp only [e_isStart, e_many3, tf_z, Classical.not_not]
  refine ⟨fun n => bad (by omega), fun k1 => ⟨fun n => bad (by omega), fun k2 => ⟨fun n => bad (by omega), fun k3 => ⟨fun k4 => ⟨fun n => ?_, fun n => ?_⟩, fun n => bad (by omega)⟩⟩⟩⟩
  · have n' : (M.1 136 4213).toInt < 8 := by
      have : ¬ (M.1 136 4213).toInt = 8 := fun x => n (eq_i.mpr (x.trans f8.symm))
      omega
    unfold spSet at h
    rw [if_pos ⟨k1, k2, k3, k4⟩, if_pos n'] at h
    rw [e_put (ix_a (e := (1074 : Int32)) (a := 1074) rfl (ix_m (e := (4 : Int32)) (a := 4) rfl (ix_n i3.1) (by omega)) (by omega)) (by omega)]
    intro M18 e18
    refine h M18 ?_ ?_
    · rw [e18, now_uI, now_4]
      congr 1
      rw [show ∀ (N : Nat → Int32) (j : Nat), j + 3 < 4213 → up4 N j a b c d 4213 = N 4213 from fun N j hj => by unfold up4; rw [upN_o (by omega), upN_o (by omega), upN_o (by omega), upN_o (by omega)]]
      omega
    · rw [e18]; exact frM4.tr frM1
  · unfold spSet at h
    rw [if_pos ⟨k1, k2, k3, k4⟩, if_neg (by rw [n]; decide)] at h
    exact mq_0 h
theorem cc_set {a b c d : Int32} {M : Mem} {N : Nat → Int32} {q : Int32 → Mem → Prop} (hR : Rep 1 N M.1) (hI : InvN N) (h : CQ (spSet a b c d N) M q) : w_X11_setting a b c d M q := by
  have i3 : 0 ≤ (N 4213).toInt ∧ (N 4213).toInt ≤ 8 := hI.1 4213 (by decide)
  have f8 : (8 : Int32).toInt = 8 := rfl
  have bad : ¬ okSet a b c d → q (-2) M := fun n => by unfold spSet at h; rw [if_neg n] at h; exact cq_0 hR h
  unfold w_X11_setting w_X6_addSetting
  simp only [e_isNotSmall, tf_z, Classical.not_not, rc3 hR, lt_i, f8]
  refine ⟨fun n => bad (by omega), fun k1 => ⟨fun n => bad (by omega), fun k2 => ⟨fun n => bad (by omega), fun k3 => ⟨fun k4 => ⟨fun k x ex => ?_, fun n => ?_⟩, fun n => bad (by omega)⟩⟩⟩⟩
  · unfold spSet at h
    rw [if_pos ⟨k1, k2, k3, k4⟩, if_pos k] at h
    have E0 : x.toInt = (((N 4213).toInt.toNat * 4 : Nat) : Int) := by rw [ex]; exact ix_m (ix_n i3.1) rfl (by omega)
    have E1 := ix_a E0 (w := 1) (i := 1) rfl (by omega)
    have E2 := ix_a E0 (w := 2) (i := 2) rfl (by omega)
    have E3 := ix_a E0 (w := 3) (i := 3) rfl (by omega)
    refine ⟨vp_of E0 (by omega), fun M4 e4 => ⟨vp_of E1 (by omega), fun M6 e6 => ⟨vp_of E2 (by omega), fun M8 e8 => ⟨vp_of E3 (by omega), fun M10 e10 M11 e11 => ?_⟩⟩⟩⟩
    rw [i_of E0] at e4
    rw [i_of E1] at e6
    rw [i_of E2] at e8
    rw [i_of E3] at e10
    have g : M10.1 2 10 = N 4213 := by rw [e10, uI_k (by decide), e8, uI_k (by decide), e6, uI_k (by decide), e4, uI_k (by decide), rc3 hR]
    rw [g] at e11
    have g2 : M11.1 2 10 = N 4213 + 1 := by rw [e11, uI_s]
    rw [g2, a1s1]
    refine h M11 ?_ ?_
    · have L : ∀ k, k < 4 → loc (1074 + 4 * (N 4213).toInt.toNat + k) = some (9, (N 4213).toInt.toNat * 4 + k) := fun k hk => by
        rw [show 1074 + 4 * (N 4213).toInt.toNat + k = 1074 + ((N 4213).toInt.toNat * 4 + k) from by omega]
        exact loc_val (by omega)
      rw [e11]
      refine wr (j := 4213) (c := 1) (p := 10) ?_ rfl (by decide) (by decide) rfl
      rw [e10]
      refine wr (c := 9) ?_ (L 3 (by decide)) (by omega) (by omega) rfl
      rw [e8]
      refine wr (c := 9) ?_ (L 2 (by decide)) (by omega) (by omega) rfl
      rw [e6]
      refine wr (c := 9) ?_ (L 1 (by decide)) (by omega) (by omega) rfl
      rw [e4]
      exact wr (c := 9) hR (L 0 (by decide)) (by omega) (by omega) rfl
    · rw [e11, e10, e8, e6, e4]
      have F : ∀ (M : Mem) (j : Nat) (v : Int32), FrC M (uI M 10 j v) := fun M j v => frC_uI (by decide) (by decide)
      exact ((((F _ _ _).tr (F _ _ _)).tr (F _ _ _)).tr (F _ _ _)).tr (frC_uI (by decide) (by decide))
  · unfold spSet at h
    rw [if_pos ⟨k1, k2, k3, k4⟩, if_neg n] at h
    exact cq_0 hR h
theorem i_any (a : Int32) : (-2147483648 : Int) ≤ a.toInt ∧ a.toInt ≤ 2147483647 := ⟨i_lo a, by have := i_hi a; omega⟩
theorem ii_set {a b c d : Int32} {N : Nat → Int32} (hI : InvN N) : InvN (spSet a b c d N).2 := by
  have i3 : 0 ≤ (N 4213).toInt ∧ (N 4213).toInt ≤ 8 := hI.1 4213 (by decide)
  unfold spSet
  by_cases k : okSet a b c d
  · rw [if_pos k]
    by_cases k2 : (N 4213).toInt < 8
    · rw [if_pos k2]
      have R : ∀ (v : Int32) (k : Nat), k < 4 → (rg (1074 + 4 * (N 4213).toInt.toNat + k)).1 ≤ v.toInt ∧ v.toInt ≤ (rg (1074 + 4 * (N 4213).toInt.toNat + k)).2 := fun v k hk => by
        rw [show 1074 + 4 * (N 4213).toInt.toNat + k = 1074 + (4 * (N 4213).toInt.toNat + k) from by omega, rg_val (by omega)]
        exact i_any v
      refine inv_up (inv_up (inv_up (inv_up (inv_up hI ?_ ?_ (R a 0 (by decide))) ?_ ?_ (R b 1 (by decide))) ?_ ?_ (R c 2 (by decide))) ?_ ?_ (R d 3 (by decide))) (by decide) (by decide) ?_
      all_goals try omega
      show 0 ≤ (N 4213 + 1).toInt ∧ (N 4213 + 1).toInt ≤ 8
      rw [iv1 (by omega) (by omega)]
      omega
    · rw [if_neg k2]; exact hI
  · rw [if_neg k]; exact hI
-- noise
abbrev okNoise (m d b o : Int32) : Prop := okI m 4 ∧ okB d 0 20 ∧ okB b 0 1000 ∧ okB o 0 100
def spNoise (m d b o p : Int32) (N : Nat → Int32) : Int32 × (Nat → Int32) := if okNoise m d b o then (1, upN (upN (upN (upN N (1106 + 60 * m.toInt.toNat + 13) d) (1106 + 60 * m.toInt.toNat + 14) b) (1106 + 60 * m.toInt.toNat + 15) o) (1106 + 60 * m.toInt.toNat + 16) p) else (-2, N)
theorem mm_noise {m d b o p : Int32} {M : Mem} {q : Int32 → Mem → Prop} (hp : bz p) (h : PQ (spNoise m d b o p (M.1 136)) M q) : w_X12_noise m d b o p M q := by
  have bad : ¬ okNoise m d b o → q (-2) M := fun n => by unfold spNoise at h; rw [if_neg n] at h; exact mq_0 h
  have f0 : (0 : Int64).toInt = 0 := rfl
  have f1 : (20 : Int64).toInt = 20 := rfl
  have f2 : (1000 : Int64).toInt = 1000 := rfl
  have f3 : (100 : Int64).toInt = 100 := rfl
  unfold w_X12_noise
  simp only [e_isMachine, e_in, tf_z, Classical.not_not, f0, f1, f2, f3]
  refine ⟨fun n => bad (by omega), fun k1 => ⟨fun n => bad (by omega), fun k2 => ⟨fun n => bad (by omega), fun k3 => ⟨fun k4 x ex => ?_, fun n => bad (by omega)⟩⟩⟩⟩
  have E : x.toInt = ((1106 + 60 * m.toInt.toNat : Nat) : Int) := by rw [ex]; exact ix_a rfl (ix_m rfl (ix_n k1.1) (by omega)) (by omega)
  have G := fun (e : Int32) (w : Nat) (he : e.toInt = w) (hw : w < 60) => ix_a E he (by omega)
  unfold spNoise at h
  rw [if_pos ⟨by omega, k2, k3, k4⟩] at h
  refine ⟨vp_of (G 13 13 rfl (by decide)) (by omega), fun M15 e15 => ⟨vp_of (G 14 14 rfl (by decide)) (by omega), fun M17 e17 => ⟨vp_of (G 15 15 rfl (by decide)) (by omega), fun M19 e19 => ⟨fun z => ⟨vp_of (G 16 16 rfl (by decide)) (by omega), fun M22 e => ?_⟩, fun z => ⟨vp_of (G 16 16 rfl (by decide)) (by omega), fun M22 e => ?_⟩⟩⟩⟩⟩
  all_goals
    rw [i_of (G 13 13 rfl (by decide))] at e15
    rw [i_of (G 14 14 rfl (by decide))] at e17
    rw [i_of (G 15 15 rfl (by decide))] at e19
    rw [i_of (G 16 16 rfl (by decide))] at e
  · subst z
    refine h M22 ?_ ?_
    · rw [e, now_uI, e19, now_uI, e17, now_uI, e15, now_uI]
    · rw [e, e19, e17, e15]; exact frM4
  · have p1 : p = 1 := by rcases hp with y | y; exact absurd y z; exact y
    subst p1
    refine h M22 ?_ ?_
    · rw [e, now_uI, e19, now_uI, e17, now_uI, e15, now_uI]
    · rw [e, e19, e17, e15]; exact frM4
theorem cc_noise {m d b o p : Int32} {M : Mem} {N : Nat → Int32} {q : Int32 → Mem → Prop} (hR : Rep 1 N M.1) (hp : bz p) (h : CQ (spNoise m d b o p N) M q) : w_X11_noise m d b o p M q := by
  have bad : ¬ okNoise m d b o → q (-2) M := fun n => by unfold spNoise at h; rw [if_neg n] at h; exact cq_0 hR h
  have f4 : (4 : Int32).toInt = 4 := rfl
  have f0 : (0 : Int32).toInt = 0 := rfl
  have f1 : (20 : Int32).toInt = 20 := rfl
  have f2 : (1000 : Int32).toInt = 1000 := rfl
  have f3 : (100 : Int32).toInt = 100 := rfl
  unfold w_X11_noise w_X3_tellNoise
  simp only [e_isOut, e_isBeyond, tf_z, Classical.not_not, f4, f0, f1, f2, f3]
  refine ⟨fun n => bad (by omega), fun k1 => ⟨fun n => bad (by omega), fun k2 => ⟨fun n => bad (by omega), fun k3 => ⟨fun k4 => ⟨vp_of (ix_n k1.1) (by omega), fun M1 e1 M2 e2 M3 e3 => ⟨hp, fun M4 e4 => ?_⟩⟩, fun n => bad (by omega)⟩⟩⟩⟩
  unfold spNoise at h
  rw [if_pos ⟨k1, k2, k3, k4⟩] at h
  have ec : 11 + 6 + 4 * m.toNatClampNeg = 1 + (16 + 4 * m.toInt.toNat) := by rw [tn_eq]; omega
  rw [ec] at e1 e2 e3 e4
  have L := fun (r : Nat) (h1 : 8 ≤ r) (h2 : r < 17) => loc_mach (m := m.toInt.toNat) (by omega) h1 h2
  refine h M4 ?_ ?_
  · rw [e4]
    refine wr ?_ (L 16 (by decide) (by decide)) (by omega) (by omega) rfl
    rw [e3]
    refine wr ?_ (L 15 (by decide) (by decide)) (by omega) (by omega) rfl
    rw [e2]
    refine wr ?_ (L 14 (by decide) (by decide)) (by omega) (by omega) rfl
    rw [e1]
    exact wr hR (L 13 (by decide) (by decide)) (by omega) (by omega) rfl
  · have F : ∀ (M : Mem) (j : Nat) (v : Int32), FrC M (uI M (1 + (16 + 4 * m.toInt.toNat)) j v) := fun M j v => frC_uI (by omega) (by omega)
    rw [e4, e3, e2, e1]
    exact (((F _ _ _).tr (F _ _ _)).tr (F _ _ _)).tr (F _ _ _)
theorem ii_noise {m d b o p : Int32} {N : Nat → Int32} (hI : InvN N) (hp : bz p) : InvN (spNoise m d b o p N).2 := by
  unfold spNoise
  by_cases k : okNoise m d b o
  · rw [if_pos k]
    have R := fun (r : Nat) (hr : r < 60) => rg_mach (m := m.toInt.toNat) (by omega) hr
    refine inv_up (inv_up (inv_up (inv_up hI (by omega) (by omega) ?_) (by omega) (by omega) ?_) (by omega) (by omega) ?_) (by omega) (by omega) ?_
    · rw [R 13 (by decide)]; exact k.2.1
    · rw [R 14 (by decide)]; exact k.2.2.1
    · rw [R 15 (by decide)]; exact k.2.2.2
    · rw [R 16 (by decide)]; exact bz_rg hp
  · rw [if_neg k]; exact hI

/-! run -/
theorem inv_set {N f : Nat → Int32} {j : Nat} (hI : InvN N) : ∀ n, (∀ i, i < n → (rg (j + i)).1 ≤ (f i).toInt ∧ (f i).toInt ≤ (rg (j + i)).2) → j + n ≤ 4162 → 1026 ≤ j → InvN (setN N j n f) := by
  intro n
  induction n with
  | zero => intro _ _ _; rw [setN_0]; exact hI
  | succ n ih =>
    intro hl hj h
    rw [← setN_s]
    exact inv_up (ih (fun i hi => hl i (by omega)) (by omega) h) (by omega) (by omega) (hl n (by omega))
theorem kr1_o {N : Nat → Int32} {b m s lot w : Int32} {i : Nat} (hm : okI m 4) (h : i < 1106 ∨ 1346 ≤ i) : kr1 N b m s lot w i = N i := by
  unfold kr1
  rw [setN_o (by omega), setN_o (by omega)]
theorem rg_rm {m a : Nat} {v : Int32} (hm : m < 4) (h1 : 20 ≤ a) (h2 : a < 52) : (rg (1106 + 60 * m + a)).1 ≤ v.toInt ∧ v.toInt ≤ (rg (1106 + 60 * m + a)).2 := by
  rw [rg_mach hm (by omega)]
  have : rgM a = (-2147483648, 2147483647) := by grind [rgM]
  rw [this]
  exact i_any _
theorem inv_kr1 {N : Nat → Int32} {b m s lot w : Int32} (hI : InvN N) (hm : okI m 4) : InvN (kr1 N b m s lot w) := by
  unfold kr1
  refine inv_set (inv_set hI 16 (fun i hi => ?_) (by omega) (by omega)) 16 (fun i hi => ?_) (by omega) (by omega)
  · rw [Nat.add_assoc]; exact rg_rm (by omega) (by omega) (by omega)
  · rw [Nat.add_assoc]; exact rg_rm (by omega) (by omega) (by omega)
theorem krc_bd {N : Nat → Int32} {b m s lot hour w : Int32} (hI : InvN N) (hb : okI b 24) (hm : okI m 4) (hh : okB hour 0 23) : (∀ j, j < 5 → 0 ≤ (krc N b m s lot hour w j).toInt ∧ (krc N b m s lot hour w j).toInt ≤ 2000) ∧ -1 ≤ (krc N b m s lot hour w 5).toInt ∧ (krc N b m s lot hour w 5).toInt ≤ 701460 := byC_bd hI (by omega) (bP_6 hI (by omega)).1 hh
theorem tf_rg {c : Prop} [Decidable c] : 0 ≤ (tf c).toInt ∧ (tf c).toInt ≤ 1 := bz_rg bz_tf
theorem inv_kr {N : Nat → Int32} {b m s lot hour w : Int32} (hI : InvN N) (hb : okI b 24) (hm : okI m 4) (hs : okI s 8) (hh : okB hour 0 23) (hw : bz w) (hr : (N 4214).toInt < 200) : InvN (krN b m s lot hour w N) := by
  have i4 : 0 ≤ (N 4214).toInt ∧ (N 4214).toInt ≤ 200 := hI.1 4214 (by decide)
  have bd := krc_bd (s := s) (lot := lot) (w := w) hI hb hm hh
  have R := fun (k : Nat) (hk : k < 14) => rg_run (r := (N 4214).toInt.toNat) (w := k) (by omega) hk
  unfold krN rec8
  refine inv_up (inv_up (inv_up (inv_up (inv_up (inv_up (inv_up (inv_up (inv_up (inv_set (inv_kr1 hI hm) 6 (fun i hi => ?_) (by omega) (by omega)) (by omega) (by omega) ?_) (by omega) (by omega) ?_) (by omega) (by omega) ?_) (by omega) (by omega) ?_) (by omega) (by omega) ?_) (by omega) (by omega) ?_) (by omega) (by omega) ?_) (by omega) (by omega) ?_) (by decide) (by decide) ?_
  · rw [R i (by omega)]
    unfold rgR
    by_cases k : i < 5
    · rw [if_pos k]; exact bd.1 i k
    · have : i = 5 := by omega
      subst this
      rw [if_neg k, if_pos rfl]
      show -1 ≤ _ ∧ _ ≤ 10000000
      omega
  · rw [R 6 (by decide)]; exact tf_rg
  · rw [R 7 (by decide)]; show 0 ≤ b.toInt ∧ b.toInt ≤ 23; omega
  · rw [R 8 (by decide)]; show 0 ≤ m.toInt ∧ m.toInt ≤ 3; omega
  · rw [R 9 (by decide)]; show 0 ≤ s.toInt ∧ s.toInt ≤ 7; omega
  · rw [R 10 (by decide)]; exact i_any _
  · rw [R 11 (by decide)]; exact hh
  · rw [R 12 (by decide)]; exact bz_rg hw
  · rw [R 13 (by decide)]; show (0 : Int) ≤ (0 : Int32).toInt ∧ (0 : Int32).toInt ≤ 1; decide
  · show 0 ≤ (N 4214 + 1).toInt ∧ (N 4214 + 1).toInt ≤ 200
    rw [iv1 (by omega) (by omega)]; omega
theorem wr15 {k : Nat} {v : Int32} {M : Mem} {N : Nat → Int32} {r : Nat} (hR : Rep 1 N M.1) (hr : r < 200) (hk : k < 14) : Rep 1 (upN N (1346 + 14 * r + k) v) (uI M 15 (14 * r + k) v).1 := by
  refine wr (c := 14) hR ?_ (by omega) (by omega) rfl
  rw [show 1346 + 14 * r + k = 1346 + (14 * r + k) from by omega]
  exact loc_run (by omega)
theorem frC15 {M : Mem} {j : Nat} {v : Int32} : FrC M (uI M 15 j v) := frC_uI (by decide) (by decide)
theorem s_goAndKeep {b m s lot hour w : Int32} {M : Mem} {N : Nat → Int32} {q : Int32 → Mem → Prop} (hR : Rep 1 N M.1) (hI : InvN N) (hb : okI b 24) (hm : okI m 4) (hs : okI s 8) (hw : bz w) (hr : (N 4214).toInt < 200) (h : ∀ M', Rep 1 (krN b m s lot hour w N) M'.1 → FrC M M' → q (N 4214) M') : w_X11_goAndKeep b m s lot hour w M q := by
  have i4 : 0 ≤ (N 4214).toInt ∧ (N 4214).toInt ≤ 200 := hI.1 4214 (by decide)
  have f5 : (5 : Int32).toInt = 5 := rfl
  have eR := ix_n i4.1
  have hr2 : (N 4214).toInt.toNat < 200 := by omega
  unfold w_X11_goAndKeep
  refine s_goKept hR hI hb hm hs (fun M5 k5 v5 R5 F5 => ?_)
  unfold w_X8_addRun w_X8_addRun_l2
  refine lfp_for (i0 := 0) (n := 6) (fun (i : Nat) (t : Int32 × Mem) => t.1.toInt = (i : Int) ∧ Rep 1 (setN (kr1 N b m s lot w) (1346 + 14 * (N 4214).toInt.toNat) i (krc N b m s lot hour w)) t.2.1 ∧ (∀ j, j < 6 → t.2.1 36 j = krc N b m s lot hour w j) ∧ FrC M t.2) ?_ (by omega) ⟨rfl, by rw [setN_0]; exact R5, k5, F5⟩
  intro P i st hi hJ hP
  obtain ⟨a, M1⟩ := st
  obtain ⟨ha0, R10, k10, F10⟩ := hJ
  have ha : a.toInt = (i : Int) := ha0
  have R1 : Rep 1 (setN (kr1 N b m s lot w) (1346 + 14 * (N 4214).toInt.toNat) i (krc N b m s lot hour w)) M1.1 := R10
  have k1 : ∀ j, j < 6 → M1.1 36 j = krc N b m s lot hour w j := k10
  have F1 : FrC M M1 := F10
  clear ha0 R10 k10 F10
  have c4 : M1.1 1 4 = N 4214 := by rw [rc4 R1, setN_o (by omega), kr1_o hm (by omega)]
  unfold w_X8_addRun_l2F
  dsimp only
  rw [lt_i, f5, ha, c4]
  refine ⟨fun z => ?_, fun z => ?_⟩
  · have ei : i = 6 := by omega
    subst ei
    have t41 : w_X8_addRun_b41 1 (N 4214) 6 (krV N b m s lot w) M1 (fun r8 M7 => w_X8_tell 1 r8 7 b M7 (fun M9 => w_X8_tell 1 r8 8 m M9 (fun M11 => w_X8_tell 1 r8 9 s M11 (fun M13 => w_X8_tell 1 r8 10 lot M13 (fun M15 => w_X8_tell 1 r8 11 hour M15 (fun M17 => (w = 0 → w_X11_goAndKeep_b123 r8 r8 12 0 M17 q) ∧ (¬ w = 0 → w_X11_goAndKeep_b123 r8 r8 12 1 M17 q))))))) := by
      unfold w_X8_addRun_b41
      rw [e_tell eR (wn := 6) rfl hr2 (by decide)]
      intro M3 e3
      have g3 : (uI M1 15 (14 * (N 4214).toInt.toNat + 6) (krV N b m s lot w)).1 1 4 = N 4214 := by rw [uI_k (by decide), c4]
      rw [g3] at e3
      have g4 : M3.1 1 4 = N 4214 + 1 := by rw [e3, uI_s]
      rw [g4, a1s1]
      rw [e_tell eR (wn := 7) rfl hr2 (by decide), e_tell eR (wn := 8) rfl hr2 (by decide), e_tell eR (wn := 9) rfl hr2 (by decide), e_tell eR (wn := 10) rfl hr2 (by decide), e_tell eR (wn := 11) rfl hr2 (by decide)]
      have last : w_X11_goAndKeep_b123 (N 4214) (N 4214) 12 w (uI (uI (uI (uI (uI M3 15 (14 * (N 4214).toInt.toNat + 7) b) 15 (14 * (N 4214).toInt.toNat + 8) m) 15 (14 * (N 4214).toInt.toNat + 9) s) 15 (14 * (N 4214).toInt.toNat + 10) lot) 15 (14 * (N 4214).toInt.toNat + 11) hour) q := by
        unfold w_X11_goAndKeep_b123
        rw [e_tell eR (wn := 12) rfl hr2 (by decide), e_tell eR (wn := 13) rfl hr2 (by decide)]
        refine h _ ?_ (F1.tr (FrC.tr ?_ (frC15.tr (frC15.tr (frC15.tr (frC15.tr (frC15.tr (frC15.tr frC15))))))))
        · unfold krN rec8
          rw [upN_c (i := 1346 + 14 * (N 4214).toInt.toNat + 13) (by omega), upN_c (i := 1346 + 14 * (N 4214).toInt.toNat + 12) (by omega), upN_c (i := 1346 + 14 * (N 4214).toInt.toNat + 11) (by omega), upN_c (i := 1346 + 14 * (N 4214).toInt.toNat + 10) (by omega), upN_c (i := 1346 + 14 * (N 4214).toInt.toNat + 9) (by omega), upN_c (i := 1346 + 14 * (N 4214).toInt.toNat + 8) (by omega), upN_c (i := 1346 + 14 * (N 4214).toInt.toNat + 7) (by omega)]
          refine wr15 (wr15 (wr15 (wr15 (wr15 (wr15 (wr15 ?_ hr2 (by decide)) hr2 (by decide)) hr2 (by decide)) hr2 (by decide)) hr2 (by decide)) hr2 (by decide)) hr2 (by decide)
          rw [e3]
          exact wr (j := 4214) (c := 0) (p := 4) (wr15 R1 hr2 (by decide)) rfl (by decide) (by decide) rfl
        · rw [e3]
          exact frC15.tr (frC_uI (by decide) (by decide))
      refine ⟨fun w0 => ?_, fun w0 => ?_⟩
      · rw [w0] at last; exact last
      · have w1 : w = 1 := by rcases hw with y | y; exact absurd y w0; exact y
        rw [w1] at last; exact last
    rw [v5]
    unfold krV at t41 ⊢
    rw [tf_z]
    refine ⟨fun nv => ?_, fun vv => ?_⟩
    · rw [tf0 nv] at t41; exact t41
    · rw [tf1 (Classical.not_not.mp vv)] at t41; exact t41
  · rw [e_tell eR ha hr2 (by omega), i_of ha, k1 i (by omega)]
    refine ⟨vp_of ha (show i < len 36 from by show i < 6; omega), fun x ex => ?_⟩
    refine hP (x, uI M1 15 (14 * (N 4214).toInt.toNat + i) (krc N b m s lot hour w i)) (by omega) ⟨?_, ?_, fun j hj => ?_, F1.tr frC15⟩
    · show x.toInt = ((i + 1 : Nat) : Int)
      rw [ex]; exact ix_a ha rfl (by omega)
    · show Rep 1 _ (uI M1 15 _ _).1
      rw [← setN_s]
      exact wr15 R1 hr2 (by omega)
    · show (uI M1 15 _ _).1 36 j = _
      rw [uI_k (by decide)]; exact k1 j hj
abbrev okRun (N : Nat → Int32) (b m s hour : Int32) : Prop := okSpot N b m s ∧ okB hour 0 23
def spRun (b m s lot hour w : Int32) (N : Nat → Int32) : Int32 × (Nat → Int32) := if okRun N b m s hour then (if (N 4214).toInt < 200 then (N 4214, krN b m s lot hour w N) else (-4, N)) else (-2, N)
theorem cc_run {b m s lot hour w : Int32} {M : Mem} {N : Nat → Int32} {q : Int32 → Mem → Prop} (hR : Rep 1 N M.1) (hI : InvN N) (hw : bz w) (h : CQ (spRun b m s lot hour w N) M q) : w_X11_run b m s lot hour w M q := by
  have bad : ¬ okRun N b m s hour → q (-2) M := fun n => by unfold spRun at h; rw [if_neg n] at h; exact cq_0 hR h
  have f2 : (200 : Int32).toInt = 200 := rfl
  unfold w_X11_run
  rw [e_isNoSpot hR]
  simp only [e_isNoHour, tf_z, Classical.not_not, rc4 hR, lt_i, f2]
  refine ⟨fun n => bad (fun x => n x.1), fun k1 => ⟨fun k2 => ⟨fun k3 => ?_, fun k3 => ?_⟩, fun n => bad (fun x => n x.2)⟩⟩
  · unfold spRun at h
    rw [if_pos ⟨k1, k2⟩, if_pos k3] at h
    have sp := spot hI k1
    exact s_goAndKeep hR hI sp.1 sp.2.1 sp.2.2 hw k3 h
  · unfold spRun at h
    rw [if_pos ⟨k1, k2⟩, if_neg k3] at h
    exact cq_0 hR h
theorem krN_4 {b m s lot hour w : Int32} {N : Nat → Int32} : krN b m s lot hour w N 4214 = N 4214 + 1 := by
  unfold krN
  rw [upN_s]
theorem mm_run {b m s lot hour w : Int32} {M : Mem} {q : Int32 → Mem → Prop} (hI : InvN (M.1 136)) (hw : bz w) (h : PQ (spRun b m s lot hour w (M.1 136)) M q) : w_X12_run b m s lot hour w M q := by
  have i4 : 0 ≤ (M.1 136 4214).toInt ∧ (M.1 136 4214).toInt ≤ 200 := hI.1 4214 (by decide)
  have bad : ¬ okRun (M.1 136) b m s hour → q (-2) M := fun n => by unfold spRun at h; rw [if_neg n] at h; exact mq_0 h
  have f0 : (0 : Int64).toInt = 0 := rfl
  have f23 : (23 : Int64).toInt = 23 := rfl
  have f2 : (200 : Int32).toInt = 200 := rfl
  unfold w_X12_run
  rw [e_isThere hI]
  simp only [e_in, e_many4, tf_z, Classical.not_not, f0, f23]
  refine ⟨fun n => bad (fun x => n x.1), fun k1 => ⟨fun k2 => ⟨fun k3 => ?_, fun k3 => ?_⟩, fun n => bad (fun x => n x.2)⟩⟩
  · have k3' : (M.1 136 4214).toInt < 200 := by
      have : ¬ (M.1 136 4214).toInt = 200 := fun y => k3 (eq_i.mpr (y.trans f2.symm))
      omega
    unfold spRun at h
    rw [if_pos ⟨k1, k2⟩, if_pos k3'] at h
    have sp := spot hI k1
    refine s_keepRun hI sp.1 sp.2.1 sp.2.2 hw k3' (fun M' e' f' => ?_)
    rw [e', krN_4, a1s1]
    exact h M' e' f'.m
  · unfold spRun at h
    rw [if_pos ⟨k1, k2⟩, if_neg (by rw [k3]; decide)] at h
    exact mq_0 h
theorem ii_run {b m s lot hour w : Int32} {N : Nat → Int32} (hI : InvN N) (hw : bz w) : InvN (spRun b m s lot hour w N).2 := by
  unfold spRun
  by_cases k : okRun N b m s hour
  · rw [if_pos k]
    by_cases k2 : (N 4214).toInt < 200
    · rw [if_pos k2]
      have sp := spot hI k.1
      exact inv_kr hI sp.1 sp.2.1 sp.2.2 k.2 hw k2
    · rw [if_neg k2]; exact hI
  · rw [if_neg k]; exact hI

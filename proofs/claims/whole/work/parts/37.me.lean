/-! loops; cache, guess -/
theorem lfp_for {σ : Type} {F : (σ → Prop) → σ → Prop} {n : Nat} (J : Nat → σ → Prop) (step : ∀ (P : σ → Prop) (i : Nat) (s : σ), i ≤ n → J i s → (∀ s', i < n → J (i + 1) s' → P s') → F P s) {s : σ} {i0 : Nat} (h0 : i0 ≤ n) (h : J i0 s) : lfp F s := by
  intro P hP
  have key : ∀ d i s, i + d = n → J i s → P s := by
    intro d
    induction d with
    | zero => intro i s hi hJ; exact hP s (step P i s (by omega) hJ (fun s' hlt _ => absurd hlt (by omega)))
    | succ d ih => intro i s hi hJ; exact hP s (step P i s (by omega) hJ (fun s' _ hJ' => ih (i + 1) s' (by omega) hJ'))
  exact key (n - i0) i0 s (by omega) h
theorem s_fill {k n : Nat} {v : Int32} {M : Mem} {q : Mem → Prop} (hL : len k = n) (hn : n < 2147483647) (h : q (flI M k n v)) : w_J7_fill_53178 k v M q := by
  unfold w_J7_fill_53178
  intro x ex
  have ex' : x.toInt = n := by rw [ex, hL]; exact ti_ofNat (by omega)
  unfold w_J7_fill_53178_l5
  refine lfp_for (i0 := 0) (n := n) (fun (i : Nat) (s : Int32 × Mem) => s.1.toInt = (i : Int) ∧ s.2 = flI M k i v) ?_ (Nat.zero_le n) ⟨rfl, (flI_0 M k v).symm⟩
  intro P i s hi hJ hP
  obtain ⟨a, M1⟩ := s
  obtain ⟨ha, hM⟩ := hJ
  have ha : a.toInt = i := ha
  have hM : M1 = flI M k i v := hM
  unfold w_J7_fill_53178_l5F
  dsimp only
  refine ⟨fun z => ?_, fun z => ⟨vp_of ha (by rw [hL]; rw [le_i] at z; omega), fun M3 e3 x4 e4 => ?_⟩⟩
  · rw [le_i] at z
    have : i = n := by omega
    rw [hM, this]
    exact h
  · rw [le_i] at z
    refine hP (x4, M3) (by omega) ⟨?_, ?_⟩
    · show x4.toInt = ((i + 1 : Nat) : Int)
      rw [e4]
      exact ix_a ha rfl (by omega)
    · show M3 = _
      rw [e3, hM, i_of ha, flI_succ]
/-- a stretch of the row set to one number -/
def flN (N : Nat → Int32) (j n : Nat) (v : Int32) : Nat → Int32 := fun i => if j ≤ i ∧ i < j + n then v else N i
theorem flN_0 {N : Nat → Int32} {j : Nat} {v : Int32} : flN N j 0 v = N := by
  funext i
  exact if_neg (by omega)
theorem flN_succ {N : Nat → Int32} {j n : Nat} {v : Int32} : upN (flN N j n v) (j + n) v = flN N j (n + 1) v := by
  funext i
  unfold upN flN
  by_cases e : i = j + n
  · rw [if_pos e, if_pos (by omega)]
  · rw [if_neg e]
    by_cases k : j ≤ i ∧ i < j + n
    · rw [if_pos k, if_pos (by omega)]
    · rw [if_neg k, if_neg (by omega)]
theorem flN_o {N : Nat → Int32} {j n i : Nat} {v : Int32} (h : i < j ∨ j + n ≤ i) : flN N j n v i = N i := if_neg (by omega)
theorem rep_fl {N : Nat → Int32} {M : Mem} {c j : Nat} {v : Int32} (hR : Rep 1 N M.1) : ∀ n, (∀ i, i < n → loc (j + i) = some (c, i)) → j + n ≤ 4230 → 1026 ≤ j → Rep 1 (flN N j n v) (flI M (1 + c) n v).1 := by
  intro n
  induction n with
  | zero => intro _ _ _; rw [flN_0, flI_0]; exact hR
  | succ n ih =>
    intro hl hj h
    rw [← flN_succ, ← flI_succ]
    exact wr (ih (fun i hi => hl i (by omega)) (by omega) h) (hl n (by omega)) (by omega) (by omega) rfl
theorem inv_fl {N : Nat → Int32} {j : Nat} {v : Int32} (hI : InvN N) : ∀ n, (∀ i, i < n → (rg (j + i)).1 ≤ v.toInt ∧ v.toInt ≤ (rg (j + i)).2) → j + n ≤ 4162 → 1026 ≤ j → InvN (flN N j n v) := by
  intro n
  induction n with
  | zero => intro _ _ _; rw [flN_0]; exact hI
  | succ n ih =>
    intro hl hj h
    rw [← flN_succ]
    exact inv_up (ih (fun i hi => hl i (by omega)) (by omega) h) (by omega) (by omega) (hl n (by omega))
theorem frC_fl {M : Mem} {k n : Nat} {v : Int32} (hk : k < 71) (h4 : k ≠ 34) : FrC M (flI M k n v) := by
  have e : ∀ a, a ≠ k → (flI M k n v).1 a = M.1 a := fun a ha => by funext b; simp [flI, ha]
  exact ⟨fun a h1 _ => e a (by omega), fun _ _ => rfl, e 34 (fun h => h4 h.symm)⟩
theorem len_room : ∀ m, m < 4 → len (1 + (16 + 4 * m) + 2) = 16 ∧ len (1 + (16 + 4 * m) + 3) = 16 := by decide +kernel
-- cache
abbrev okCache (m l w s : Int32) : Prop := okI m 4 ∧ okB l 1 16 ∧ okB w 1 8 ∧ okB s 0 200
def cacheN (at' : Nat) (l w s : Int32) (N : Nat → Int32) : Nat → Int32 := upN (upN (upN N (at' + 8) l) (at' + 9) w) (at' + 10) s
def spCache (m l w s : Int32) (N : Nat → Int32) : Int32 × (Nat → Int32) := if okCache m l w s then (1, cacheN (1106 + 60 * m.toInt.toNat) l w s (if N (1106 + 60 * m.toInt.toNat + 8) = l ∧ N (1106 + 60 * m.toInt.toNat + 9) = w then N else flN N (1106 + 60 * m.toInt.toNat + 20) 16 (-1))) else (-2, N)
theorem mm_cache {m l w s : Int32} {M : Mem} {q : Int32 → Mem → Prop} (h : PQ (spCache m l w s (M.1 136)) M q) : w_X12_cache m l w s M q := by
  have bad : ¬ okCache m l w s → q (-2) M := fun n => by unfold spCache at h; rw [if_neg n] at h; exact mq_0 h
  have f0 : (0 : Int64).toInt = 0 := rfl
  have f1 : (1 : Int64).toInt = 1 := rfl
  have f8 : (8 : Int64).toInt = 8 := rfl
  have f16 : (16 : Int64).toInt = 16 := rfl
  have f2 : (200 : Int64).toInt = 200 := rfl
  unfold w_X12_cache
  simp only [e_isMachine, e_in, tf_z, Classical.not_not, f0, f1, f8, f16, f2]
  refine ⟨fun n => bad (by omega), fun k1 => ⟨fun n => bad (by omega), fun k2 => ⟨fun n => bad (by omega), fun k3 => ⟨fun k4 x ex => ?_, fun n => bad (by omega)⟩⟩⟩⟩
  have E : x.toInt = ((1106 + 60 * m.toInt.toNat : Nat) : Int) := by rw [ex]; exact ix_a rfl (ix_m rfl (ix_n k1.1) (by omega)) (by omega)
  have G := fun (e : Int32) (w : Nat) (he : e.toInt = w) (hw : w < 60) => ix_a E he (by omega)
  unfold spCache at h
  rw [if_pos ⟨by omega, k2, k3, k4⟩] at h
  have tail : ∀ M1 : Mem, M1.1 136 = (if M.1 136 (1106 + 60 * m.toInt.toNat + 8) = l ∧ M.1 136 (1106 + 60 * m.toInt.toNat + 9) = w then M.1 136 else flN (M.1 136) (1106 + 60 * m.toInt.toNat + 20) 16 (-1)) → FrM M M1 → w_X12_cache_b115 l w s x M1 q := by
    intro M1 h1 hF
    unfold w_X12_cache_b115
    refine ⟨vp_of (G 8 8 rfl (by decide)) (by omega), fun M2 e2 => ⟨vp_of (G 9 9 rfl (by decide)) (by omega), fun M4 e4 => ⟨vp_of (G 10 10 rfl (by decide)) (by omega), fun M6 e6 => ?_⟩⟩⟩
    rw [i_of (G 8 8 rfl (by decide))] at e2
    rw [i_of (G 9 9 rfl (by decide))] at e4
    rw [i_of (G 10 10 rfl (by decide))] at e6
    refine h M6 ?_ ?_
    · rw [e6, now_uI, e4, now_uI, e2, now_uI, h1]
      rfl
    · rw [e6, e4, e2]; exact hF.tr (frM2.tr frM1)
  have loop : ¬ (M.1 136 (1106 + 60 * m.toInt.toNat + 8) = l ∧ M.1 136 (1106 + 60 * m.toInt.toNat + 9) = w) → w_X12_cache_b85 l w s x M q := by
    intro n
    unfold w_X12_cache_b85 w_X12_cache_l88
    refine lfp_for (i0 := 0) (n := 16) (fun (i : Nat) (s : Int32 × Mem) => s.1.toInt = (i : Int) ∧ s.2.1 136 = flN (M.1 136) (1106 + 60 * m.toInt.toNat + 20) i (-1) ∧ FrM M s.2) ?_ (by decide) ⟨rfl, flN_0.symm, FrM.rf M⟩
    intro P i st hi hJ hP
    obtain ⟨a, M1⟩ := st
    obtain ⟨ha, hM, hF⟩ := hJ
    have ha : a.toInt = i := ha
    have hM : M1.1 136 = flN (M.1 136) (1106 + 60 * m.toInt.toNat + 20) i (-1) := hM
    have f16 : (16 : Int32).toInt = 16 := rfl
    unfold w_X12_cache_l88F
    dsimp only
    have E2 := ix_a (G 20 20 rfl (by decide)) ha (by omega)
    refine ⟨fun z => ?_, fun z => ⟨vp_of E2 (by omega), fun M9 e9 x10 e10 => ?_⟩⟩
    · rw [le_i, f16] at z
      have : i = 16 := by omega
      refine tail M1 ?_ hF
      rw [hM, this, if_neg n]
    · rw [le_i, f16] at z
      rw [i_of E2] at e9
      refine hP (x10, M9) (by omega) ⟨?_, ?_, ?_⟩
      · show x10.toInt = ((i + 1 : Nat) : Int)
        rw [e10]
        exact ix_a ha rfl (by omega)
      · show M9.1 136 = _
        rw [e9, now_uI, hM, flN_succ]
      · rw [e9]; exact FrM.tr hF frM1
  refine ⟨vp_of (G 8 8 rfl (by decide)) (by omega), ?_⟩
  rw [i_of (G 8 8 rfl (by decide))]
  refine ⟨fun n => loop (fun k => n k.1), fun k => ⟨vp_of (G 9 9 rfl (by decide)) (by omega), ?_⟩⟩
  rw [i_of (G 9 9 rfl (by decide))]
  exact ⟨fun kk => tail M (by rw [if_pos ⟨k, kk⟩]) (FrM.rf M), fun n => loop (fun k => n k.2)⟩
theorem cc_cache {m l w s : Int32} {M : Mem} {N : Nat → Int32} {q : Int32 → Mem → Prop} (hR : Rep 1 N M.1) (h : CQ (spCache m l w s N) M q) : w_X11_cache m l w s M q := by
  have bad : ¬ okCache m l w s → q (-2) M := fun n => by unfold spCache at h; rw [if_neg n] at h; exact cq_0 hR h
  have f4 : (4 : Int32).toInt = 4 := rfl
  have f0 : (0 : Int32).toInt = 0 := rfl
  have f1 : (1 : Int32).toInt = 1 := rfl
  have f8 : (8 : Int32).toInt = 8 := rfl
  have f16 : (16 : Int32).toInt = 16 := rfl
  have f2 : (200 : Int32).toInt = 200 := rfl
  have lh : ∀ k1 : okI m 4, 11 + 6 + 4 * m.toNatClampNeg = 1 + (16 + 4 * m.toInt.toNat) := fun _ => by rw [tn_eq]; omega
  unfold w_X11_cache
  simp only [e_isOut, e_isBeyond, tf_z, Classical.not_not, f4, f0, f1, f8, f16, f2]
  refine ⟨fun n => bad (by omega), fun k1 => ⟨fun n => bad (by omega), fun k2 => ⟨fun n => bad (by omega), fun k3 => ⟨fun k4 => ⟨vp_of (ix_n k1.1) (by omega), ?_⟩, fun n => bad (by omega)⟩⟩⟩⟩
  rw [lh k1]
  unfold spCache at h
  rw [if_pos ⟨k1, k2, k3, k4⟩] at h
  have L := fun (r : Nat) (h1 : 8 ≤ r) (h2 : r < 17) => loc_mach (m := m.toInt.toNat) (by omega) h1 h2
  have F : ∀ (M : Mem) (j : Nat) (v : Int32), FrC M (uI M (1 + (16 + 4 * m.toInt.toNat)) j v) := fun M j v => frC_uI (by omega) (by omega)
  have tail : ∀ M1 : Mem, Rep 1 (if N (1106 + 60 * m.toInt.toNat + 8) = l ∧ N (1106 + 60 * m.toInt.toNat + 9) = w then N else flN N (1106 + 60 * m.toInt.toNat + 20) 16 (-1)) M1.1 → FrC M M1 → w_X3_tellCache_b24 (1 + (16 + 4 * m.toInt.toNat)) l w s M1 (fun M14 => q 1 M14) := by
    intro M1 h1 hF
    unfold w_X3_tellCache_b24
    intro M2 e2 M3 e3 M4 e4
    refine h M4 ?_ ?_
    · rw [e4]
      refine wr ?_ (L 10 (by decide) (by decide)) (by omega) (by omega) rfl
      rw [e3]
      refine wr ?_ (L 9 (by decide) (by decide)) (by omega) (by omega) rfl
      rw [e2]
      exact wr h1 (L 8 (by decide) (by decide)) (by omega) (by omega) rfl
    · rw [e4, e3, e2]
      exact hF.tr (((F _ _ _).tr (F _ _ _)).tr (F _ _ _))
  have loop : ¬ (N (1106 + 60 * m.toInt.toNat + 8) = l ∧ N (1106 + 60 * m.toInt.toNat + 9) = w) → w_X3_tellCache_b16 (1 + (16 + 4 * m.toInt.toNat)) l w s M (fun M14 => q 1 M14) := by
    intro n
    unfold w_X3_tellCache_b16
    refine s_fill (len_room _ (by omega)).1 (by decide) (tail _ ?_ (frC_fl (by omega) (by omega)))
    rw [if_neg n, show 1 + (16 + 4 * m.toInt.toNat) + 2 = 1 + (18 + 4 * m.toInt.toNat) from by omega]
    exact rep_fl hR 16 (fun i hi => loc_room (by omega) hi) (by omega) (by omega)
  unfold w_X3_tellCache
  have r8 : M.1 (1 + (16 + 4 * m.toInt.toNat)) 1 = N (1106 + 60 * m.toInt.toNat + 8) := rd_mach hR (r := 8) (by omega) (by decide) (by decide)
  have r9 : M.1 (1 + (16 + 4 * m.toInt.toNat)) 2 = N (1106 + 60 * m.toInt.toNat + 9) := rd_mach hR (r := 9) (by omega) (by decide) (by decide)
  rw [r8, r9]
  exact ⟨fun n => loop (fun k => n k.1.symm), fun k => ⟨fun kk => tail M (by rw [if_pos ⟨k.symm, kk.symm⟩]; exact hR) (FrC.rf M), fun n => loop (fun k => n k.2.symm)⟩⟩
theorem ii_cache {m l w s : Int32} {N : Nat → Int32} (hI : InvN N) : InvN (spCache m l w s N).2 := by
  unfold spCache
  by_cases k : okCache m l w s
  · rw [if_pos k]
    have R := fun (r : Nat) (hr : r < 60) => rg_mach (m := m.toInt.toNat) (by omega) hr
    have base : InvN (if N (1106 + 60 * m.toInt.toNat + 8) = l ∧ N (1106 + 60 * m.toInt.toNat + 9) = w then N else flN N (1106 + 60 * m.toInt.toNat + 20) 16 (-1)) := by
      by_cases e : N (1106 + 60 * m.toInt.toNat + 8) = l ∧ N (1106 + 60 * m.toInt.toNat + 9) = w
      · rw [if_pos e]; exact hI
      · rw [if_neg e]
        refine inv_fl hI 16 (fun i hi => ?_) (by omega) (by omega)
        rw [show 1106 + 60 * m.toInt.toNat + 20 + i = 1106 + 60 * m.toInt.toNat + (20 + i) from by omega, R (20 + i) (by omega)]
        have : rgM (20 + i) = (-2147483648, 2147483647) := by grind [rgM]
        rw [this]
        exact i_any _
    show InvN (cacheN _ l w s _)
    unfold cacheN
    refine inv_up (inv_up (inv_up base (by omega) (by omega) ?_) (by omega) (by omega) ?_) (by omega) (by omega) ?_
    · rw [R 8 (by decide)]; exact k.2.1
    · rw [R 9 (by decide)]; exact k.2.2.1
    · rw [R 10 (by decide)]; exact k.2.2.2
  · rw [if_neg k]; exact hI

/-! foretell: spec and the class -/
abbrev selM (N : Nat → Int32) (m : Int32) (r : Nat) : Prop := onM N m r ∧ N (1346 + 14 * r + 13) = 1
def msF (N : Nat → Int32) (m : Int32) (o : Nat → Int) : Nat → Nat × Int × Int
  | 0 => (0, 0, 0)
  | r + 1 => if selM N m r then ((msF N m o r).1 + 1, (if (msF N m o r).1 = 0 ∨ o r < (msF N m o r).2.1 then o r else (msF N m o r).2.1), (if (msF N m o r).1 = 0 ∨ (msF N m o r).2.2 < o r then o r else (msF N m o r).2.2)) else msF N m o r
theorem msF_le {N : Nat → Int32} {m : Int32} {o : Nat → Int} : ∀ r, (msF N m o r).1 ≤ r := by
  intro r
  induction r with
  | zero => exact Nat.le_refl 0
  | succ r ih =>
    unfold msF
    by_cases h : selM N m r
    · rw [if_pos h]; show _ + 1 ≤ _; omega
    · rw [if_neg h]; omega
def bestO (N : Nat → Int32) (m : Int32) (c0 c1 c2 R : Nat) : Nat → Int := fun r => offI N c0 c1 c2 (bestK N m c0 c1 c2 R / 169) (bestK N m c0 c1 c2 R / 13 % 13) (bestK N m c0 c1 c2 R % 13) r
def toldI (N : Nat → Int32) (m : Int32) (c0 c1 c2 R : Nat) (K : Nat → Int32) : Int := ((bestK N m c0 c1 c2 R / 169 : Nat) : Int) * (K c0).toInt + ((bestK N m c0 c1 c2 R / 13 % 13 : Nat) : Int) * (K c1).toInt + ((bestK N m c0 c1 c2 R % 13 : Nat) : Int) * (K c2).toInt
abbrev okFor (N : Nat → Int32) (b m s v0 v1 v2 w : Int32) : Prop := okSpot N b m s ∧ okCnt v0 v1 v2 ∧ okI w 3
def forV (N : Nat → Int32) (m : Int32) (c0 c1 c2 R : Nat) (K : Nat → Int32) (w : Int32) : Int64 := if w = 0 then Int64.ofInt (toldI N m c0 c1 c2 R K) else if (msF N m (bestO N m c0 c1 c2 R) R).1 = 0 then -1000000000 else Int64.ofInt (toldI N m c0 c1 c2 R K + (if w = 1 then (msF N m (bestO N m c0 c1 c2 R) R).2.1 else (msF N m (bestO N m c0 c1 c2 R) R).2.2))
def spFor (b m s v0 v1 v2 w : Int32) (N : Nat → Int32) : Int64 := if okFor N b m s v0 v1 v2 w then (if plV N m.toInt.toNat s.toInt.toNat (bP N b) (bC N b) then -1000000000 else forV N m v0.toInt.toNat v1.toInt.toNat v2.toInt.toNat (N 4214).toInt.toNat (plC N m.toInt.toNat s.toInt.toNat (bP N b) (bC N b)) w) else -2000000000
theorem bestO_bd {N : Nat → Int32} (hI : InvN N) {m : Int32} {c0 c1 c2 R r : Nat} (hr : r < 200) (h0 : c0 < 5) (h1 : c1 < 5) (h2 : c2 < 5) : -72001 ≤ bestO N m c0 c1 c2 R r ∧ bestO N m c0 c1 c2 R r ≤ 10000000 := by
  have hb := best_lt (N := N) (m := m) (c0 := c0) (c1 := c1) (c2 := c2) (R := R)
  exact offI_bd hI hr h0 h1 h2 (by omega) (by omega) (by omega)
/-- the misses stand in the bag -/
def MB (c : Nat) (lo hi : Int) (M : Mem) : Prop := ∃ f, Hd 46 1 47 c f M ∧ srt32 f c ∧ (0 < c → (f 0).toInt = lo ∧ (f (c - 1)).toInt = hi)
theorem s_misses {m : Int32} {c0 c1 c2 R : Nat} {F : Nat → Nat} {M : Mem} {N : Nat → Int32} {q : Mem → Prop} (hR : Rep 1 N M.1) (hI : InvN N) (hRd : R = (N 4214).toInt.toNat) (h0 : c0 < 5) (h1 : c1 < 5) (h2 : c2 < 5) (hA : AS c0 c1 c2 M) (hB : BS F (bestK N m c0 c1 c2 R) M) (h : ∀ M', MB (msF N m (bestO N m c0 c1 c2 R) R).1 (msF N m (bestO N m c0 c1 c2 R) R).2.1 (msF N m (bestO N m c0 c1 c2 R) R).2.2 M' → FrB 46 1 47 M M' → q M') : w_X2_gatherMisses 60 1 m 46 M q := by
  have i4 : 0 ≤ (N 4214).toInt ∧ (N 4214).toInt ≤ 200 := hI.1 4214 (by decide)
  unfold w_X2_gatherMisses w_X0_clear
  intro M21 e21
  have F21 : FrB 46 1 47 M M21 := by rw [e21]; exact frb_s
  have B21 : MB (msF N m (bestO N m c0 c1 c2 R) 0).1 (msF N m (bestO N m c0 c1 c2 R) 0).2.1 (msF N m (bestO N m c0 c1 c2 R) 0).2.2 M21 := ⟨fun _ => 0, ⟨by rw [e21, uI_s]; rfl, fun i hi => absurd hi (by show ¬ i < 0; omega)⟩, fun i hi => absurd hi (by show ¬ i + 1 < 0; omega), fun x => absurd x (by show ¬ 0 < 0; omega)⟩
  clear e21
  unfold w_X2_gatherMisses_l7
  refine lfp_for (i0 := 0) (n := R) (fun (r : Nat) (t : Int32 × Mem) => t.1.toInt = (r : Int) ∧ MB (msF N m (bestO N m c0 c1 c2 R) r).1 (msF N m (bestO N m c0 c1 c2 R) r).2.1 (msF N m (bestO N m c0 c1 c2 R) r).2.2 t.2 ∧ FrB 46 1 47 M t.2) ?_ (by omega) ⟨rfl, B21, F21⟩
  clear B21 F21
  intro P r st hr hJ hP
  obtain ⟨a, M1⟩ := st
  obtain ⟨a0, b0, d0⟩ := hJ
  have ha : a.toInt = (r : Int) := a0
  have hb : MB (msF N m (bestO N m c0 c1 c2 R) r).1 (msF N m (bestO N m c0 c1 c2 R) r).2.1 (msF N m (bestO N m c0 c1 c2 R) r).2.2 M1 := b0
  have hF : FrB 46 1 47 M M1 := d0
  clear a0 b0 d0
  have R1 : Rep 1 N M1.1 := hF.rep (by decide) (by decide) hR
  have hle := msF_le (N := N) (m := m) (o := bestO N m c0 c1 c2 R) r
  unfold w_X2_gatherMisses_l7F w_X2_gatherMisses_b90
  dsimp only
  rw [rc4 R1, le_i, ha]
  refine ⟨fun z => ?_, fun z => ?_⟩
  · have e : r = R := by omega
    subst e
    exact h M1 hb hF
  · have hr2 : r < 200 := by omega
    rw [e_timed R1 ha hr2, tf_z, Classical.not_not]
    have next : ∀ M', MB (msF N m (bestO N m c0 c1 c2 R) (r + 1)).1 (msF N m (bestO N m c0 c1 c2 R) (r + 1)).2.1 (msF N m (bestO N m c0 c1 c2 R) (r + 1)).2.2 M' → FrB 46 1 47 M M' → ∀ x : Int32, x = a + 1 → P (x, M') := fun M' b1 b2 x ex => by
      refine hP (x, M') (by omega) ⟨?_, b1, b2⟩
      show x.toInt = ((r + 1 : Nat) : Int)
      rw [ex]; exact ix_a ha rfl (by omega)
    have skip : ¬ selM N m r → ∀ x : Int32, x = a + 1 → P (x, M1) := fun n => next M1 (by rw [msF, if_neg n]; exact hb) hF
    refine ⟨fun n => skip (fun y => n y.1), fun k1 => ?_⟩
    rw [e_told R1 ha (wn := 13) rfl hr2 (by decide)]
    refine ⟨fun n => skip (fun y => n y.2), fun k2 => ?_⟩
    have sel : selM N m r := ⟨k1, k2⟩
    have A1 : AS c0 c1 c2 M1 := by unfold AS; rw [hF.row (by decide) (by decide)]; exact hA
    have B1 : BS F (bestK N m c0 c1 c2 R) M1 := by unfold BS; rw [hF.row (by decide) (by decide), hF.2]; exact hB
    rw [e_told R1 ha (wn := 5) rfl hr2 (by decide), e_told R1 ha A1.1 hr2 (by omega), e_told R1 ha A1.2.1 hr2 (by omega), e_told R1 ha A1.2.2 hr2 (by omega)]
    unfold w_X2_made
    have mi := made_i B1 (cnt_bd hI (r := r) (c := c0) hr2 h0) (cnt_bd hI (r := r) (c := c1) hr2 h1) (cnt_bd hI (r := r) (c := c2) hr2 h2)
    have t : -1 ≤ (N (1346 + 14 * r + 5)).toInt ∧ (N (1346 + 14 * r + 5)).toInt ≤ 10000000 := inv_run hI hr2 (by decide)
    have eo : (N (1346 + 14 * r + 5) - (M1.1 61 0 * N (1346 + 14 * r + c0) + M1.1 61 1 * N (1346 + 14 * r + c1) + M1.1 61 2 * N (1346 + 14 * r + c2))).toInt = bestO N m c0 c1 c2 R r := by
      rw [ti_sub (by omega) (by omega), mi.1]
      unfold bestO offI
      omega
    obtain ⟨f, hH, hs, hlh⟩ := hb
    refine s_add hH (by omega) (fun M19 h19 f19 => next M19 ?_ (hF.tr f19))
    have eo : (N (1346 + 14 * r + 5) - (M1.1 (60 + 1) 0 * N (1346 + 14 * r + c0) + M1.1 (60 + 1) 1 * N (1346 + 14 * r + c1) + M1.1 (60 + 1) 2 * N (1346 + 14 * r + c2))).toInt = bestO N m c0 c1 c2 R r := eo
    rw [msF, if_pos sel]
    generalize N (1346 + 14 * r + 5) - (M1.1 (60 + 1) 0 * N (1346 + 14 * r + c0) + M1.1 (60 + 1) 1 * N (1346 + 14 * r + c1) + M1.1 (60 + 1) 2 * N (1346 + 14 * r + c2)) = v at eo h19
    refine ⟨_, h19, srt_ins hs, fun _ => ?_⟩
    generalize msF N m (bestO N m c0 c1 c2 R) r = g at hlh hs ⊢
    obtain ⟨c, lo, hi⟩ := g
    show (insF c f v 0).toInt = (if c = 0 ∨ bestO N m c0 c1 c2 R r < lo then _ else lo) ∧ (insF c f v (c + 1 - 1)).toInt = (if c = 0 ∨ hi < bestO N m c0 c1 c2 R r then _ else hi)
    rw [show c + 1 - 1 = c from by omega]
    by_cases e : c = 0
    · subst e
      rw [ins_one, eo, if_pos (Or.inl rfl), if_pos (Or.inl rfl)]
      exact ⟨rfl, rfl⟩
    · have hl : (f 0).toInt = lo ∧ (f (c - 1)).toInt = hi := hlh (by show 0 < c; omega)
      rw [ins_first (n := c) hs (by omega), ins_last (by omega), eo, hl.1, hl.2]
      refine ⟨?_, ?_⟩
      · by_cases k : bestO N m c0 c1 c2 R r < lo
        · rw [if_pos k, if_pos (Or.inr k)]
        · rw [if_neg k, if_neg (show ¬ (c = 0 ∨ bestO N m c0 c1 c2 R r < lo) from fun x => by rcases x with x | x; exact e x; exact k x)]
      · by_cases k : hi < bestO N m c0 c1 c2 R r
        · rw [if_pos (by omega), if_pos (Or.inr k)]
        · rw [if_neg (show ¬ (c = 0 ∨ hi < bestO N m c0 c1 c2 R r) from fun x => by rcases x with x | x; exact e x; exact k x)]
          by_cases k2 : hi ≤ bestO N m c0 c1 c2 R r
          · rw [if_pos k2]; omega
          · rw [if_neg k2]

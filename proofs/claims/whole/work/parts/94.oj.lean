/-! foretell in the model -/
theorem m_for {b m s v0 v1 v2 w : Int32} {M : Mem} {q : Int64 → Mem → Prop} (hI : InvN (M.1 136)) (h : ∀ M', FM M M' → q (spFor b m s v0 v1 v2 w (M.1 136)) M') : w_X12_foretell b m s v0 v1 v2 w M q := by
  have i4 : 0 ≤ (M.1 136 4214).toInt ∧ (M.1 136 4214).toInt ≤ 200 := hI.1 4214 (by decide)
  have bad : ¬ okFor (M.1 136) b m s v0 v1 v2 w → q (-2000000000) M := fun n => by have := h M (FM.rf M); unfold spFor at this; rw [if_neg n] at this; exact this
  have g0 : (0 : Int64).toInt = 0 := rfl
  have g2 : (2 : Int64).toInt = 2 := rfl
  unfold w_X12_foretell
  rw [e_isThere hI]
  simp only [e_areCounters, e_in, tf_z, Classical.not_not, g0, g2]
  refine ⟨fun n => bad (fun x => n x.1), fun k1 => ⟨fun n => bad (fun x => n x.2.1), fun k2 => ⟨fun k3 => ?_, fun n => bad (fun x => n (by have := x.2.2; omega))⟩⟩⟩
  unfold spFor at h
  rw [if_pos ⟨k1, k2, by omega⟩] at h
  have sp := spot hI k1
  refine s_goesP hI sp.1 sp.2.1 sp.2.2 (fun M30 p30 vv f30 => ?_)
  rw [vv, tf_z]
  refine ⟨fun nv => ?_, fun hv => ?_⟩
  · rw [if_neg nv] at h
    obtain ⟨N, hN⟩ : ∃ N, N = M.1 136 := ⟨_, rfl⟩
    rw [← hN] at h hI i4 p30
    have n30 : M30.1 136 = N := by rw [f30.n, hN]
    refine s_fitAll (by rw [n30]; exact hI) k2.1 k2.2.1 k2.2.2.1 (fun M33 B F => ?_)
    rw [n30] at B
    have F33 : FM M M33 := f30.tr F.m
    have n33 : M33.1 136 = N := by rw [F33.n, hN]
    have c144 : M33.1 144 = M30.1 144 := F.row (by decide)
    have z := bP_6 hI (b := b.toInt.toNat) (by have := sp.1; omega)
    have h0 : v0.toInt.toNat < 5 := by have := k2.1; omega
    have h1 : v1.toInt.toNat < 5 := by have := k2.2.1; omega
    have h2 : v2.toInt.toNat < 5 := by have := k2.2.2.1; omega
    have hm4 : m.toInt.toNat < 4 := by have := sp.2.1; omega
    obtain ⟨R, hRd⟩ : ∃ R, R = (N 4214).toInt.toNat := ⟨_, rfl⟩
    rw [← hRd] at h B
    have bk := best_lt (N := N) (m := m) (c0 := v0.toInt.toNat) (c1 := v1.toInt.toNat) (c2 := v2.toInt.toNat) (R := R)
    refine ⟨vp_of (ix_n k2.1.1) (by omega), vp_of (ix_n k2.2.1.1) (by omega), vp_of (ix_n k2.2.2.1.1) (by omega), ?_⟩
    rw [tn_eq, tn_eq, tn_eq, c144, p30 _ (by omega), p30 _ (by omega), p30 _ (by omega)]
    obtain ⟨K, hK⟩ : ∃ K, K = plC N m.toInt.toNat s.toInt.toNat (bP N b) (bC N b) := ⟨_, rfl⟩
    have q0 := plC_bd hI (sn := s.toInt.toNat) (ch := bC N b) hm4 z.1 h0
    have q1 := plC_bd hI (sn := s.toInt.toNat) (ch := bC N b) hm4 z.1 h1
    have q2 := plC_bd hI (sn := s.toInt.toNat) (ch := bC N b) hm4 z.1 h2
    rw [← hK] at h
    have q0 : 0 ≤ (K v0.toInt.toNat).toInt ∧ (K v0.toInt.toNat).toInt ≤ 2000 := by rw [hK]; exact q0
    have q1 : 0 ≤ (K v1.toInt.toNat).toInt ∧ (K v1.toInt.toNat).toInt ≤ 2000 := by rw [hK]; exact q1
    have q2 : 0 ≤ (K v2.toInt.toNat).toInt ∧ (K v2.toInt.toNat).toInt ≤ 2000 := by rw [hK]; exact q2
    intro x38 e38
    have e38 : x38 = ((M33.1 135 18).toInt64 * (K v0.toInt.toNat).toInt64 + (M33.1 135 19).toInt64 * (K v1.toInt.toNat).toInt64) + (M33.1 135 20).toInt64 * (K v2.toInt.toNat).toInt64 := by rw [e38, hK, hN]
    have p0 := mul_bd (x := bestK N m v0.toInt.toNat v1.toInt.toNat v2.toInt.toNat R / 169) (by omega) q0
    have p1 := mul_bd (x := bestK N m v0.toInt.toNat v1.toInt.toNat v2.toInt.toNat R / 13 % 13) (by omega) q1
    have p2 := mul_bd (x := bestK N m v0.toInt.toNat v1.toInt.toNat v2.toInt.toNat R % 13) (by omega) q2
    have ea : ((M33.1 135 18).toInt64 * (K v0.toInt.toNat).toInt64).toInt = ((bestK N m v0.toInt.toNat v1.toInt.toNat v2.toInt.toNat R / 169 : Nat) : Int) * (K v0.toInt.toNat).toInt := by
      rw [tj_mul (by rw [Int32.toInt_toInt64, Int32.toInt_toInt64, B.1]; omega) (by rw [Int32.toInt_toInt64, Int32.toInt_toInt64, B.1]; omega), Int32.toInt_toInt64, Int32.toInt_toInt64, B.1]
    have eb : ((M33.1 135 19).toInt64 * (K v1.toInt.toNat).toInt64).toInt = ((bestK N m v0.toInt.toNat v1.toInt.toNat v2.toInt.toNat R / 13 % 13 : Nat) : Int) * (K v1.toInt.toNat).toInt := by
      rw [tj_mul (by rw [Int32.toInt_toInt64, Int32.toInt_toInt64, B.2.1]; omega) (by rw [Int32.toInt_toInt64, Int32.toInt_toInt64, B.2.1]; omega), Int32.toInt_toInt64, Int32.toInt_toInt64, B.2.1]
    have ec : ((M33.1 135 20).toInt64 * (K v2.toInt.toNat).toInt64).toInt = ((bestK N m v0.toInt.toNat v1.toInt.toNat v2.toInt.toNat R % 13 : Nat) : Int) * (K v2.toInt.toNat).toInt := by
      rw [tj_mul (by rw [Int32.toInt_toInt64, Int32.toInt_toInt64, B.2.2.1]; omega) (by rw [Int32.toInt_toInt64, Int32.toInt_toInt64, B.2.2.1]; omega), Int32.toInt_toInt64, Int32.toInt_toInt64, B.2.2.1]
    have es1 := tj_add (a := (M33.1 135 18).toInt64 * (K v0.toInt.toNat).toInt64) (b := (M33.1 135 19).toInt64 * (K v1.toInt.toNat).toInt64) (by omega) (by omega)
    have es := tj_add (a := (M33.1 135 18).toInt64 * (K v0.toInt.toNat).toInt64 + (M33.1 135 19).toInt64 * (K v1.toInt.toNat).toInt64) (b := (M33.1 135 20).toInt64 * (K v2.toInt.toNat).toInt64) (by omega) (by omega)
    have hx : x38.toInt = toldI N m v0.toInt.toNat v1.toInt.toNat v2.toInt.toNat R K := by
      rw [e38, es, es1, ea, eb, ec]; rfl
    have hxb : 0 ≤ x38.toInt ∧ x38.toInt ≤ 72000 := by rw [e38, es, es1, ea, eb, ec]; omega
    clear e38 es es1 ea eb ec
    unfold forV at h
    refine ⟨fun w0 => ?_, fun w0 => ?_⟩
    · rw [if_neg w0] at h
      have obd : ∀ r, r < 200 → -72001 ≤ bestO N m v0.toInt.toNat v1.toInt.toNat v2.toInt.toNat R r ∧ bestO N m v0.toInt.toNat v1.toInt.toNat v2.toInt.toNat R r ≤ 10000000 := fun r hr => bestO_bd hI hr h0 h1 h2
      obtain ⟨o, ho⟩ : ∃ o, o = bestO N m v0.toInt.toNat v1.toInt.toNat v2.toInt.toNat R := ⟨_, rfl⟩
      rw [← ho] at h obd
      unfold w_X12_foretell_l156
      refine lfp_for (i0 := 0) (n := R) (fun (r : Nat) (t : Int32 × Int64 × Int32 × Mem) => t.2.2.1.toInt = (r : Int) ∧ t.2.2.2 = M33 ∧ (t.1 = 0 ↔ (msF N m o r).1 = 0) ∧ (0 < (msF N m o r).1 → t.2.1.toInt = if w = 1 then (msF N m o r).2.1 else (msF N m o r).2.2)) ?_ (by omega) ⟨rfl, rfl, ⟨fun _ => rfl, fun _ => rfl⟩, fun x => absurd x (by show ¬ 0 < 0; omega)⟩
      intro P r st hr hJ hP
      obtain ⟨v10, v11, v13, M1⟩ := st
      obtain ⟨a0, b0, d0, e0⟩ := hJ
      have q13 : v13.toInt = (r : Int) := a0
      have hM : M1 = M33 := b0
      have q10 : v10 = 0 ↔ (msF N m o r).1 = 0 := d0
      have q11 : 0 < (msF N m o r).1 → v11.toInt = if w = 1 then (msF N m o r).2.1 else (msF N m o r).2.2 := e0
      clear a0 b0 d0 e0
      subst hM
      have mbd := msF_bd (N := N) (m := m) (o := o) obd r (by omega)
      unfold w_X12_foretell_l156F w_X12_foretell_b271 w_X12_foretell_b276 w_X12_foretell_b278 w_X12_foretell_b283
      dsimp only
      rw [e_many4, n33, le_i, q13]
      refine ⟨fun zz => ?_, fun zz => ?_⟩
      · have er : r = R := by omega
        subst er
        have hh := h M1 F33
        refine ⟨fun e => ?_, fun n => ?_⟩
        · rw [if_pos (q10.mp e)] at hh; exact hh
        · have nc : ¬ (msF N m o r).1 = 0 := fun x => n (q10.mpr x)
          rw [if_neg nc] at hh
          have hv := q11 (by omega)
          have hvb : -72001 ≤ v11.toInt ∧ v11.toInt ≤ 10000000 := by rw [hv]; split <;> omega
          rw [j_of (show (x38 + v11).toInt = _ from by rw [tj_add (by omega) (by omega), hx, hv])]
          exact hh
      · have hr2 : r < 200 := by omega
        rw [e_isOf q13 hr2, n33, tf_z, Classical.not_not]
        have next : ∀ (y10 : Int32) (y11 : Int64), (y10 = 0 ↔ (msF N m o (r + 1)).1 = 0) → (0 < (msF N m o (r + 1)).1 → y11.toInt = if w = 1 then (msF N m o (r + 1)).2.1 else (msF N m o (r + 1)).2.2) → ∀ x1 : Int32, x1 = v13 + 1 → P (y10, y11, x1, M1) := fun y10 y11 b1 b2 x1 ex1 => by
          refine hP (y10, y11, x1, M1) (by omega) ⟨?_, rfl, b1, b2⟩
          show x1.toInt = ((r + 1 : Nat) : Int)
          rw [ex1]; exact ix_a q13 rfl (by omega)
        have E13 := ix_a (ix_a (e := (1346 : Int32)) (a := 1346) rfl (ix_m (e := (14 : Int32)) (a := 14) rfl q13 (by omega)) (by omega)) (w := 13) (i := 13) rfl (by omega)
        have E5 := ix_a (ix_a (e := (1346 : Int32)) (a := 1346) rfl (ix_m (e := (14 : Int32)) (a := 14) rfl q13 (by omega)) (by omega)) (w := 5) (i := 5) rfl (by omega)
        rw [i_of E13, i_of E5]
        have skip : ¬ selM N m r → ∀ x1 : Int32, x1 = v13 + 1 → P (v10, v11, x1, M1) := fun n => next _ _ (by rw [msF, if_neg n]; exact q10) (by rw [msF, if_neg n]; exact q11)
        refine ⟨fun n => skip (fun y => n y.1), fun s1 => ⟨vp_of E13 (by omega), fun n => skip (fun y => n y.2), fun s2 => ⟨vp_of E5 (by omega), ?_⟩⟩⟩
        have sel : selM N m r := ⟨s1, s2⟩
        refine s_made12 (by rw [n33]; exact hI) q13 hr2 k2.1 k2.2.1 k2.2.2.1 B.1 B.2.1 B.2.2.1 (by omega) (by omega) (by omega) (fun v hv l1 l2 x14 e14 => ?_)
        rw [n33] at hv
        have t : -1 ≤ (N (1346 + 14 * r + 5)).toInt ∧ (N (1346 + 14 * r + 5)).toInt ≤ 10000000 := inv_run hI hr2 (by decide)
        have ed : x14.toInt = o r := by
          rw [e14, tj_sub (by rw [Int32.toInt_toInt64]; omega) (by rw [Int32.toInt_toInt64]; omega), Int32.toInt_toInt64, hv, ho]
          rfl
        have c1 : (1 : Int32) = 0 ↔ (msF N m o (r + 1)).1 = 0 := by
          rw [msF, if_pos sel]
          exact ⟨fun x => absurd x (by decide), fun x => absurd x (by show ¬ _ + 1 = 0; omega)⟩
        have c2 : ∀ y11 : Int64, y11.toInt = (if w = 1 then (if (msF N m o r).1 = 0 ∨ o r < (msF N m o r).2.1 then o r else (msF N m o r).2.1) else (if (msF N m o r).1 = 0 ∨ (msF N m o r).2.2 < o r then o r else (msF N m o r).2.2)) → (0 < (msF N m o (r + 1)).1 → y11.toInt = if w = 1 then (msF N m o (r + 1)).2.1 else (msF N m o (r + 1)).2.2) := fun y11 hy _ => by
          rw [msF, if_pos sel]
          exact hy
        refine ⟨fun z0 => next 1 _ c1 (c2 _ ?_), fun z0 => ⟨fun w1 => ?_, fun w1 => ?_⟩⟩
        · have zc := q10.mp z0
          rw [if_pos (Or.inl zc), if_pos (Or.inl zc), ed]
          split <;> rfl
        · have nc : ¬ (msF N m o r).1 = 0 := fun x => z0 (q10.mpr x)
          have hv := q11 (by omega)
          rw [if_neg w1] at hv
          rw [le_j, ed, hv]
          refine ⟨fun kk => next 1 _ c1 (c2 _ ?_), fun kk => next 1 _ c1 (c2 _ ?_)⟩
          · rw [if_neg w1, if_neg (fun x => by rcases x with x | x; exact nc x; omega)]; exact hv
          · rw [if_neg w1, if_pos (Or.inr (by omega))]; exact ed
        · have nc : ¬ (msF N m o r).1 = 0 := fun x => z0 (q10.mpr x)
          have hv := q11 (by omega)
          rw [if_pos w1] at hv
          rw [le_j, ed, hv]
          refine ⟨fun kk => next 1 _ c1 (c2 _ ?_), fun kk => next 1 _ c1 (c2 _ ?_)⟩
          · rw [if_pos w1, if_neg (fun x => by rcases x with x | x; exact nc x; omega)]; exact hv
          · rw [if_pos w1, if_pos (Or.inr (by omega))]; exact ed
    · rw [if_pos w0] at h
      rw [j_of hx]
      exact h M33 F33
  · have := h M30 f30
    rw [if_pos (Classical.not_not.mp hv)] at this
    exact this

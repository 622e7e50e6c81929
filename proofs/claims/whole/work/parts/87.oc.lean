/-! find -/
theorem GS.cg {N : Nat → Int32} {m : Int32} {c0 c1 c2 r : Nat} {M M' : Mem} (h : GS N m c0 c1 c2 r M) (f : ∀ a, a ≠ 61 → M'.1 a = M.1 a) : GS N m c0 c1 c2 r M' := by
  unfold GS
  rw [f 60 (by decide), f 63 (by decide), f 64 (by decide), f 65 (by decide), f 66 (by decide), f 67 (by decide)]
  exact h
theorem AS.cg {c0 c1 c2 : Nat} {M M' : Mem} (h : AS c0 c1 c2 M) (f : ∀ a, a ≠ 61 → M'.1 a = M.1 a) : AS c0 c1 c2 M' := by
  unfold AS
  rw [f 62 (by decide)]
  exact h
theorem sumK_e {N : Nat → Int32} {m : Int32} {c0 c1 c2 R x y z k : Nat} (e1 : k / 169 = x) (e2 : k / 13 % 13 = y) (e3 : k % 13 = z) : sumK N m c0 c1 c2 R k = fsF (fun i => offI N c0 c1 c2 x y z (rlF N m R i)) (scF N m R) := by
  unfold sumK
  rw [e1, e2, e3]
/-- the best costs so far, none before the first -/
def bt_F (F : Nat → Nat) (K : Nat) (M : Mem) : Prop := (K = 0 → (M.2.1 60 1).toInt = 1099511627776) ∧ (0 < K → BS F (fbF F K) M)
theorem fb_one {F : Nat → Nat} {K : Nat} (e : K = 0) : fbF F (K + 1) = K := by
  subst e
  show (if F 0 < F 0 then 0 else 0) = 0
  split <;> rfl
theorem s_find {v0 v1 v2 m : Int32} {M : Mem} {N : Nat → Int32} {q : Mem → Prop} (hR : Rep 1 N M.1) (hI : InvN N) (k0 : okI v0 5) (k1 : okI v1 5) (k2 : okI v2 5) (h : ∀ M', GS N m v0.toInt.toNat v1.toInt.toNat v2.toInt.toNat (N 4214).toInt.toNat M' → AS v0.toInt.toNat v1.toInt.toNat v2.toInt.toNat M' → BS (sumK N m v0.toInt.toNat v1.toInt.toNat v2.toInt.toNat (N 4214).toInt.toNat) (bestK N m v0.toInt.toNat v1.toInt.toNat v2.toInt.toNat (N 4214).toInt.toNat) M' → FrF M M' → q M') : w_X2_find 60 1 m v0 v1 v2 M q := by
  have i4 : 0 ≤ (N 4214).toInt ∧ (N 4214).toInt ≤ 200 := hI.1 4214 (by decide)
  have f12 : (12 : Int32).toInt = 12 := rfl
  have hR2 : (N 4214).toInt.toNat ≤ 200 := by omega
  have h0 : v0.toInt.toNat < 5 := by omega
  have h1 : v1.toInt.toNat < 5 := by omega
  have h2 : v2.toInt.toNat < 5 := by omega
  have a0 := ix_n k0.1
  have a1 := ix_n k1.1
  have a2 := ix_n k2.1
  generalize v0.toInt.toNat = c0 at *
  generalize v1.toInt.toNat = c1 at *
  generalize v2.toInt.toNat = c2 at *
  obtain ⟨R, hRd⟩ : ∃ R, R = (N 4214).toInt.toNat := ⟨_, rfl⟩
  rw [← hRd] at h hR2
  obtain ⟨F, hFd⟩ : ∃ F, F = sumK N m c0 c1 c2 R := ⟨_, rfl⟩
  unfold bestK at h
  rw [← hFd] at h
  unfold w_X2_find
  intro M12 e12 M13 e13 M14 e14
  have F14 : FrF M M14 := by rw [e14, e13, e12]; exact (frf_u (by decide)).tr ((frf_u (by decide)).tr (frf_u (by decide)))
  have A14 : AS c0 c1 c2 M14 := by
    refine ⟨?_, ?_, ?_⟩
    · rw [e14]; show ((uI M13 62 2 v2).1 62 0).toInt = _; rw [uI_j (by decide), e13]; show ((uI M12 62 1 v1).1 62 0).toInt = _; rw [uI_j (by decide), e12]; show ((uI M 62 0 v0).1 62 0).toInt = _; rw [uI_s]; exact a0
    · rw [e14]; show ((uI M13 62 2 v2).1 62 1).toInt = _; rw [uI_j (by decide), e13]; show ((uI M12 62 1 v1).1 62 1).toInt = _; rw [uI_s]; exact a1
    · rw [e14]; show ((uI M13 62 2 v2).1 62 2).toInt = _; rw [uI_s]; exact a2
  clear e12 e13 e14
  refine s_fgather (F14.q.r hR) hI h0 h1 h2 A14 (fun M15 G15 A15 F15 => ?_)
  rw [← hRd] at G15
  have F15 : FrF M M15 := F14.tr F15
  have hk : ∀ k, (fsF (fun i => offI N c0 c1 c2 (k / 169) (k / 13 % 13) (k % 13) (rlF N m R i)) (scF N m R)) = F k := fun k => by rw [hFd]; rfl
  have hsc := scF_le (N := N) (m := m) R
  have bdF : ∀ k, k < 2197 → F k ≤ 2000000000 := fun k hk2 => by
    rw [← hk k]
    have fb := fsF_bd (g := fun i => offI N c0 c1 c2 (k / 169) (k / 13 % 13) (k % 13) (rlF N m R i)) (n := scF N m R) (fun j hj => by
      have := rlF_lt (N := N) (m := m) R j hj
      have := offI_bd hI (c0 := c0) (c1 := c1) (c2 := c2) (x := k / 169) (y := k / 13 % 13) (z := k % 13) (r := rlF N m R j) (by omega) h0 h1 h2 (by omega) (by omega) (by omega)
      show (offI N c0 c1 c2 (k / 169) (k / 13 % 13) (k % 13) (rlF N m R j)).natAbs ≤ _
      omega) (scF N m R) (Nat.le_refl _)
    omega
  refine s_ftake (F := fun _ => 1099511627776) (far := (1099511627776 : Int64)) (b := 0) (x := 0) (y := 0) (z := 0) rfl rfl rfl rfl rfl rfl rfl (fun M19 B19' f19 F19 => ?_)
  have B19 : bt_F F 0 M19 := ⟨fun _ => B19'.2.2.2, fun x => absurd x (by omega)⟩
  clear B19'
  have G19 := G15.cg f19
  have A19 := A15.cg f19
  have F19 : FrF M M19 := F15.tr F19
  clear f19 G15 A15 F15 A14 F14
  unfold w_X2_find_l42
  refine lfp_for (i0 := 0) (n := 13) (fun (x : Nat) (t : Int32 × Mem) => t.1.toInt = (x : Int) ∧ GS N m c0 c1 c2 R t.2 ∧ AS c0 c1 c2 t.2 ∧ FrF M t.2 ∧ bt_F F (169 * x) t.2) ?_ (by omega) ⟨rfl, G19, A19, F19, B19⟩
  clear G19 A19 F19 B19
  intro P x st hx hJ hP
  obtain ⟨vx, M1⟩ := st
  obtain ⟨x0, G0, A0, F0, B0⟩ := hJ
  have hvx : vx.toInt = (x : Int) := x0
  have G1 : GS N m c0 c1 c2 R M1 := G0
  have A1 : AS c0 c1 c2 M1 := A0
  have F1 : FrF M M1 := F0
  have B1 : bt_F F (169 * x) M1 := B0
  clear x0 G0 A0 F0 B0
  unfold w_X2_find_l42F
  dsimp only
  rw [lt_i, f12, hvx]
  refine ⟨fun z => ?_, fun z => ?_⟩
  · have e : x = 13 := by omega
    subst e
    exact h M1 G1 A1 (B1.2 (by decide)) F1
  · unfold w_X2_find_l52
    refine lfp_for (i0 := 0) (n := 13) (fun (y : Nat) (t : Int32 × Mem) => t.1.toInt = (y : Int) ∧ GS N m c0 c1 c2 R t.2 ∧ AS c0 c1 c2 t.2 ∧ FrF M t.2 ∧ bt_F F (169 * x + 13 * y) t.2) ?_ (by omega) ⟨rfl, G1, A1, F1, B1⟩
    clear G1 A1 F1 B1
    intro P' y st hy hJ hP'
    obtain ⟨vy, M2⟩ := st
    obtain ⟨x0, G0, A0, F0, B0⟩ := hJ
    have hvy : vy.toInt = (y : Int) := x0
    have G2 : GS N m c0 c1 c2 R M2 := G0
    have A2 : AS c0 c1 c2 M2 := A0
    have F2 : FrF M M2 := F0
    have B2 : bt_F F (169 * x + 13 * y) M2 := B0
    clear x0 G0 A0 F0 B0
    unfold w_X2_find_l52F
    dsimp only
    rw [lt_i, f12, hvy]
    refine ⟨fun zy x10 e10 => ?_, fun zy => ?_⟩
    · have e : y = 13 := by omega
      subst e
      refine hP (x10, M2) (by omega) ⟨?_, G2, A2, F2, ?_⟩
      · show x10.toInt = ((x + 1 : Nat) : Int)
        rw [e10]; exact ix_a hvx rfl (by omega)
      · show bt_F F (169 * (x + 1)) M2
        rw [show 169 * (x + 1) = 169 * x + 13 * 13 from by omega]; exact B2
    · unfold w_X2_find_l62
      refine lfp_for (i0 := 0) (n := 13) (fun (z : Nat) (t : Int32 × Mem) => t.1.toInt = (z : Int) ∧ GS N m c0 c1 c2 R t.2 ∧ AS c0 c1 c2 t.2 ∧ FrF M t.2 ∧ bt_F F (169 * x + 13 * y + z) t.2) ?_ (by omega) ⟨rfl, G2, A2, F2, B2⟩
      clear G2 A2 F2 B2
      intro P'' z' st hz hJ hP''
      obtain ⟨vz, M3⟩ := st
      obtain ⟨x0, G0, A0, F0, B0⟩ := hJ
      have hvz : vz.toInt = (z' : Int) := x0
      have G3 : GS N m c0 c1 c2 R M3 := G0
      have A3 : AS c0 c1 c2 M3 := A0
      have F3 : FrF M M3 := F0
      have B3 : bt_F F (169 * x + 13 * y + z') M3 := B0
      clear x0 G0 A0 F0 B0
      unfold w_X2_find_l62F w_X2_find_b107
      dsimp only
      rw [lt_i, f12, hvz]
      refine ⟨fun zz x3 e3 => ?_, fun zz => ?_⟩
      · have e : z' = 13 := by omega
        subst e
        refine hP' (x3, M3) (by omega) ⟨?_, G3, A3, F3, ?_⟩
        · show x3.toInt = ((y + 1 : Nat) : Int)
          rw [e3]; exact ix_a hvy rfl (by omega)
        · show bt_F F (169 * x + 13 * (y + 1)) M3
          rw [show 169 * x + 13 * (y + 1) = 169 * x + 13 * y + 13 from by omega]; exact B3
      · have d1 : (169 * x + 13 * y + z') / 169 = x := by omega
        have d2 : (169 * x + 13 * y + z') / 13 % 13 = y := by omega
        have d3 : (169 * x + 13 * y + z') % 13 = z' := by omega
        have hkk := hk (169 * x + 13 * y + z')
        rw [d1, d2, d3] at hkk
        refine s_farn (x := x) (y := y) (z := z') hI hR2 hvx hvy hvz (by omega) (by omega) (by omega) h0 h1 h2 G3 (fun far hfar => ?_)
        rw [hkk] at hfar
        have bK := bdF (169 * x + 13 * y + z') (by omega)
        have next : ∀ M', GS N m c0 c1 c2 R M' → AS c0 c1 c2 M' → FrF M M' → BS F (fbF F (169 * x + 13 * y + z' + 1)) M' → ∀ u : Int32, u = vz + 1 → P'' (u, M') := fun M' b1 b2 b3 b4 u eu => by
          refine hP'' (u, M') (by omega) ⟨?_, b1, b2, b3, ⟨fun y0 => absurd y0 (by omega), fun _ => b4⟩⟩
          show u.toInt = ((z' + 1 : Nat) : Int)
          rw [eu]; exact ix_a hvz rfl (by omega)
        have took : far.toInt = (F (169 * x + 13 * y + z') : Int) → fbF F (169 * x + 13 * y + z' + 1) = 169 * x + 13 * y + z' → w_X2_take 60 vx vy vz far M3 (fun M4 => ∀ u : Int32, u = vz + 1 → P'' (u, M4)) := fun hf ef => by
          refine s_ftake (F := F) (b := 169 * x + 13 * y + z') hvx hvy hvz d1 d2 d3 hf (fun M4 B4 f4 F4 => next M4 (G3.cg f4) (A3.cg f4) (F3.tr F4) ?_)
          rw [ef]
          exact B4
        by_cases K0 : 169 * x + 13 * y + z' = 0
        · have bs := B3.1 K0
          rw [le_j, bs]
          refine ⟨fun kk => ?_, fun kk => took ?_ (fb_one K0)⟩
          · exfalso
            rcases hfar with e | e <;> omega
          · rcases hfar with e | e
            · exact e
            · rw [bs] at e; omega
        · have B3 := B3.2 (by omega)
          have bs := B3.2.2.2
          rw [le_j, bs]
          refine ⟨fun kk => next M3 G3 A3 F3 ?_, fun kk => ?_⟩
          · rw [fbF, if_neg (by rcases hfar with e | e <;> omega)]; exact B3
          · have hf : far.toInt = (F (169 * x + 13 * y + z') : Int) := by
              rcases hfar with e | e
              · exact e
              · rw [bs] at e; omega
            exact took hf (by rw [fbF, if_pos (by omega)])

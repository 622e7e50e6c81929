/-! back, the model -/
def FrX (M M' : Mem) : Prop := (∀ a, (a < 135 ∨ (136 ≤ a ∧ a ≤ 138) ∨ 145 ≤ a) → M'.1 a = M.1 a) ∧ M'.2 = M.2
theorem FrX.m {M M' : Mem} (h : FrX M M') : FM M M' := ⟨fun a ha => h.1 a (by omega), fun a _ => by rw [h.2], by rw [h.2]⟩
theorem s_goesPx {pI ch mI sI : Int32} {pn mn sn : Nat} {M : Mem} {q : Mem → Prop} (hI : InvN (M.1 136)) (hp : pI.toInt = pn) (hp6 : pn < 6) (hm : mI.toInt = mn) (hm4 : mn < 4) (hs : sI.toInt = sn) (hs8 : sn < 8) (h : ∀ M', (∀ i, i < 6 → M'.1 144 i = plC (M.1 136) mn sn pn ch i) → M'.1 135 10 = tf (plV (M.1 136) mn sn pn ch) → FrX M M' → q M') : w_X12_goesPlain pI ch mI sI M q := by
  unfold w_X12_goesPlain
  refine s_empty12 (fun M1 a1 a2 a3 a4 => ?_)
  have e1 : M1.1 136 = M.1 136 := a3 136 (by decide) (by decide)
  refine s_asm12 (by rw [e1]; exact hI) hp hp6 (fun M3 b1 b2 b3 => ?_)
  rw [e1] at b1 b2
  have e3 : M3.1 136 = M.1 136 := by rw [b3.row (by decide) (by decide), e1]
  have z := inv_size40 hI hp6
  refine s_goes12 (O := fun _ => -1) (G := fun _ => 0) (C := asm (M.1 136) pn ch (toN (M.1 136 4211))) (L := toN (M.1 136 (960 + pn))) (by rw [e3]; exact hI) hm hm4 hs hs8 (by decide) (by rw [b1]; exact z.1) z.2 b2 (fun l hl => inv_asm hI hp6 l hl) (fun i hi => ?_) (fun i hi => ?_) ?_
  · rw [b3.row (by decide) (by decide)]; exact a1 i hi
  · rw [b3.row (by decide) (by decide)]; exact a2 i hi
  · rw [e3]
    intro M' c1 c2 _ _ cF
    refine h M' c1 c2 ⟨fun a ha => ?_, ?_⟩
    · rw [cF.1 a (by omega) (by omega) (by omega) (by omega) (by omega) (by omega), b3.row (by omega) (by omega), a3 a (by omega) (by omega)]
    · rw [cF.2.2, b3.2, a4]
abbrev HN (D : Nat → Prop) [DecidablePred D] (s : Nat) : Prop := ∀ t, t < s → sb t s → ¬ D t
theorem ls_lt {s k : Nat} (hs : s < 1024) (h : s.testBit k = true) : dn s (2 ^ k) < s := by
  have h1 := dn_le s (2 ^ k)
  have h2 : dn s (2 ^ k) ≠ s := fun e => by
    have := dn_tb (y := 2 ^ k) hs k
    rw [e, h, Nat.testBit_two_pow_self] at this
    exact absurd this (by decide)
  omega
theorem hn_d {D : Nat → Prop} [DecidablePred D] {s k : Nat} (hs : s < 1024) (h : s.testBit k = true) (hd : D (dn s (2 ^ k)) ∨ ¬ HN D (dn s (2 ^ k))) : ¬ HN D s := by
  intro hn
  rcases hd with x | x
  · exact hn _ (ls_lt hs h) (dn_sb hs) x
  · refine x (fun t h1 h2 => hn t ?_ (sb_tr h2 (dn_sb hs)))
    have := ls_lt hs h
    omega
theorem tb_10 {s j : Nat} (hs : s < 1024) (h : s.testBit j = true) : j < 10 := by
  apply Nat.lt_of_not_le
  intro k
  rw [Nat.testBit_lt_two_pow (show s < 2 ^ j from Nat.lt_of_lt_of_le hs (show 2 ^ 10 ≤ 2 ^ j from Nat.pow_le_pow_right (by decide) k))] at h
  exact absurd h (by decide)
theorem hn_10 {D : Nat → Prop} [DecidablePred D] {s : Nat} (hs : s < 1024) (h : ∀ j, j < 10 → s.testBit j = true → ¬ D (dn s (2 ^ j)) ∧ HN D (dn s (2 ^ j))) : HN D s := by
  intro t h1 h2
  have ex : ∃ j, s.testBit j = true ∧ t.testBit j = false := by
    apply Classical.byContradiction
    intro n
    have : s = t := by
      apply Nat.eq_of_testBit_eq
      intro i
      cases a : s.testBit i
      · cases b : t.testBit i
        · rfl
        · have := sb_iff.mp h2 i b
          rw [a] at this
          exact absurd this (by decide)
      · cases b : t.testBit i
        · exact absurd ⟨i, a, b⟩ n
        · rfl
    omega
  obtain ⟨j, ja, jb⟩ := ex
  have sub : sb t (dn s (2 ^ j)) := sb_iff.mpr (fun i hi => by
    rw [dn_tb hs, sb_iff.mp h2 i hi, Nat.testBit_two_pow]
    by_cases e : j = i
    · rw [← e, jb] at hi; exact absurd hi (by decide)
    · simp [e])
  have := h j (tb_10 hs ja) ja
  by_cases e : t = dn s (2 ^ j)
  · rw [e]; exact this.1
  · have := sb_le sub
    exact (h j (tb_10 hs ja) ja).2 t (by omega) sub
def lgN (s : Nat) : Nat → Nat
  | 0 => 0
  | k + 1 => if 2 ^ k < s then lgN s k + 1 else lgN s k
def lgs (s : Nat) : Nat := lgN s 10
set_option maxRecDepth 100000 in
theorem lg_s : ∀ s, s < 1024 → ((pc s = 1 ∧ s = 2 ^ lgs s ∧ lgs (s + 1) = lgs s + 1 ∧ lgs s < 10) ∨ (¬ pc s = 1 ∧ lgs (s + 1) = lgs s)) := by decide +kernel
theorem sb_pow {j o : Nat} : sb (2 ^ j) o ↔ o.testBit j = true := by
  rw [sb_iff]
  constructor
  · intro h; exact h j (Nat.testBit_two_pow_self)
  · intro h i hi
    rw [Nat.testBit_two_pow] at hi
    have : j = i := of_decide_eq_true hi
    rw [← this]; exact h
theorem alB_no {D : Nat → Prop} [DecidablePred D] {o s : Nat} (hs : s < 1024) (h : ¬ (pc s = 1 ∧ sb s o ∧ D s)) : alB D o (lgs (s + 1)) = alB D o (lgs s) := by
  rcases lg_s s hs with ⟨a, b, c, d⟩ | ⟨a, b⟩
  · rw [c, alB, if_neg]
    intro x
    rw [← b] at x
    exact h ⟨a, by rw [b]; exact sb_pow.mpr x.1, x.2⟩
  · rw [b]
theorem alB_yes {D : Nat → Prop} [DecidablePred D] {o s : Nat} (hs : s < 1024) (h1 : pc s = 1) (h2 : sb s o) (h3 : D s) : alB D o (lgs (s + 1)) = alB D o (lgs s) ||| Int32.ofNat s := by
  rcases lg_s s hs with ⟨a, b, c, d⟩ | ⟨a, b⟩
  · rw [c, alB, if_pos ⟨sb_pow.mp (by rw [← b]; exact h2), by rw [← b]; exact h3⟩, ← b]
  · exact absurd h1 a
def fI : Option Nat → Int32
  | none => 99
  | some y => Int32.ofNat (pc y)
/-- the rows of the sets told so far -/
def DP (D : Nat → Prop) [DecidablePred D] (o n : Nat) (M : Mem) : Prop := ∀ t, t < n → M.1 149 t = tf (sb t o ∧ D t) ∧ M.1 150 t = tf (sb t o ∧ ¬ HN D t)
theorem s_in266 {D : Nat → Prop} [DecidablePred D] {o i : Nat} {v3 v4 v6 v7 v8 v9 v10 v11 v12 v13 v14 v15 : Int32} {M : Mem} {q : Int32 → Mem → Prop} {P180 : Int32 × Int32 × Int32 × Int32 × Int32 × Mem → Prop} (hi : i < 1024) (h15 : v15 = Int32.ofNat i) (hs : sb i o) (hD : DP D o i M) (h149 : M.1 149 i = tf (D i)) (h150 : M.1 150 i = 0)
    (h : ∀ M' v16, FM M M' → DP D o (i + 1) M' → v16 = Int32.ofNat (pc i) → M'.1 149 i = tf (D i) → M'.1 150 i = tf (¬ HN D i) → vp_in v15 1024 ∧ (((M'.1 149 (v15).toNatClampNeg) = 0 → w_X12_back_b401 v3 v4 v6 v7 v8 v9 v10 v11 v12 v13 v14 v15 v16 M' q P180) ∧ (¬ (M'.1 149 (v15).toNatClampNeg) = 0 → vp_in v15 1024 ∧ ((¬ (M'.1 150 (v15).toNatClampNeg) = 0 → w_X12_back_b401 v3 v4 v6 v7 v8 v9 v10 v11 v12 v13 v14 v15 v16 M' q P180) ∧ ((M'.1 150 (v15).toNatClampNeg) = 0 → ∀ x16 : Int32, x16 = v11 + (1 : Int32) → ((v13 ≤ v16 → w_X12_back_b383 v3 v4 v6 v7 v8 v9 v10 x16 v13 v14 v15 v16 v12 M' q P180) ∧ (¬ v13 ≤ v16 → w_X12_back_b383 v3 v4 v6 v7 v8 v9 v10 x16 v13 v14 v15 v16 v15 M' q P180))))))) :
    w_X12_back_l266 v3 v4 v6 v7 v8 v9 v10 v11 v12 v13 v14 v15 q P180 ((0 : Int32), (0 : Int32), M) := by
  have t15 : v15.toInt = (i : Int) := by rw [h15]; exact ti_ofNat (by omega)
  unfold w_X12_back_l266
  refine lfp_for (i0 := 0) (n := 10) (fun (k : Nat) (t : Int32 × Int32 × Mem) => t.2.1.toInt = (k : Int) ∧ t.1 = Int32.ofNat (pcN i k) ∧ FM M t.2.2 ∧ t.2.2.1 149 = M.1 149 ∧ (∀ j, j < i → t.2.2.1 150 j = M.1 150 j) ∧ ((t.2.2.1 150 i = 1 ∧ ¬ HN D i) ∨ (t.2.2.1 150 i = 0 ∧ ∀ j, j < k → i.testBit j = true → ¬ D (dn i (2 ^ j)) ∧ HN D (dn i (2 ^ j))))) ?_ (by omega) ⟨rfl, rfl, FM.rf M, rfl, fun _ _ => rfl, Or.inr ⟨h150, fun j hj => by omega⟩⟩
  intro P k st hk hJ hP
  obtain ⟨v16, v17, M1⟩ := st
  obtain ⟨ha0, hv0, hF0, he0, hj0, hC0⟩ := hJ
  have ha : v17.toInt = (k : Int) := ha0
  have hv : v16 = Int32.ofNat (pcN i k) := hv0
  have hF : FM M M1 := hF0
  have he : M1.1 149 = M.1 149 := he0
  have hj : ∀ j, j < i → M1.1 150 j = M.1 150 j := hj0
  have hC : (M1.1 150 i = 1 ∧ ¬ HN D i) ∨ (M1.1 150 i = 0 ∧ ∀ j, j < k → i.testBit j = true → ¬ D (dn i (2 ^ j)) ∧ HN D (dn i (2 ^ j))) := hC0
  clear ha0 hv0 hF0 he0 hj0 hC0
  have f10 : (10 : Int32).toInt = 10 := rfl
  have pk := pcN_le i k
  unfold w_X12_back_l266F
  dsimp only
  rw [le_i, ha, f10]
  refine ⟨fun z => ?_, fun z => ?_⟩
  · have k10 : k = 10 := by omega
    rw [k10] at hv hC
    have r150 : M1.1 150 i = tf (¬ HN D i) := by
      rcases hC with x | x
      · rw [tf1 x.2]; exact x.1
      · rw [tf0 (fun n => n (hn_10 hi x.2))]; exact x.1
    have r149 : M1.1 149 i = tf (D i) := by rw [he]; exact h149
    refine h M1 v16 hF (fun t ht => ?_) hv r149 r150
    by_cases e : t = i
    · rw [e, r149, r150]
      exact ⟨tf_c ⟨fun x => ⟨hs, x⟩, fun x => x.2⟩, tf_c ⟨fun x => ⟨hs, x⟩, fun x => x.2⟩⟩
    · rw [he, hj t (by omega)]
      exact hD t (by omega)
  · have next : ∀ M2 (w : Int32), w = Int32.ofNat (pcN i (k + 1)) → FM M M2 → M2.1 149 = M.1 149 → (∀ j, j < i → M2.1 150 j = M.1 150 j) → ((M2.1 150 i = 1 ∧ ¬ HN D i) ∨ (M2.1 150 i = 0 ∧ ∀ j, j < k + 1 → i.testBit j = true → ¬ D (dn i (2 ^ j)) ∧ HN D (dn i (2 ^ j)))) → w_X12_back_b340 v3 v4 v6 v7 v8 v9 v10 v11 v12 v13 v14 v15 w v17 M2 q P180 P := fun M2 w ew F2 E2 J2 C2 => by
      unfold w_X12_back_b340
      intro x7 e7
      refine hP (w, x7, M2) (by omega) ⟨?_, ew, F2, E2, J2, C2⟩
      show x7.toInt = ((k + 1 : Nat) : Int)
      rw [e7]; exact ix_a ha rfl (by omega)
    have put : ∀ (w t2 : Int32), w = Int32.ofNat (pcN i (k + 1)) → ((t2 = 1 ∧ ¬ HN D i) ∨ (t2 = 0 ∧ ∀ j, j < k + 1 → i.testBit j = true → ¬ D (dn i (2 ^ j)) ∧ HN D (dn i (2 ^ j)))) → w_X12_back_b339 v3 v4 v6 v7 v8 v9 v10 v11 v12 v13 v14 v15 w v17 v15 t2 M1 q P180 P := fun w t2 ew c2 => by
      unfold w_X12_back_b339
      refine ⟨vp_of t15 hi, ?_, fun M10 e10 => ?_⟩
      · rcases c2 with x | x
        · exact Or.inr x.1
        · exact Or.inl x.1
      · rw [i_of t15] at e10
        refine next M10 w ew ?_ ?_ ?_ ?_
        · rw [e10]; exact hF.tr (fm_uI (by decide))
        · rw [e10]
          funext j
          rw [uI_k (by decide), he]
        · intro j h1
          rw [e10, uI_j (by omega), hj j h1]
        · rw [e10, uI_s]
          exact c2
    rw [bit_i ha, h15, bitS_n (by omega) (by omega), shl_o ha (by omega), ← h15]
    refine ⟨fun kb => ?_, fun kb => ?_⟩
    · refine next M1 v16 (by rw [hv, pcN, if_neg kb]) hF he hj ?_
      rcases hC with x | x
      · exact Or.inl x
      · refine Or.inr ⟨x.1, fun j h1 h2 => ?_⟩
        by_cases e : j = k
        · rw [e] at h2; exact absurd h2 kb
        · exact x.2 j (by omega) h2
    · intro x19 e19 x20 e20
      have w19 : x19 = Int32.ofNat (pcN i (k + 1)) := by
        rw [pcN, if_pos kb]
        refine i_nat ?_
        rw [e19, hv]
        exact ix_a (ti_ofNat (by omega)) rfl (by omega)
      have lt := ls_lt hi kb
      have t20 : x20.toInt = ((dn i (2 ^ k) : Nat) : Int) := by
        rw [e20, h15, dn_i]
        exact ti_ofNat (by omega)
      have ss : sb (dn i (2 ^ k)) o := sb_tr (dn_sb hi) hs
      have r := hD _ lt
      have r1 : M1.1 149 (dn i (2 ^ k)) = tf (D (dn i (2 ^ k))) := by rw [he, r.1]; exact tf_c ⟨fun x => x.2, fun x => ⟨ss, x⟩⟩
      have r2 : M1.1 150 (dn i (2 ^ k)) = tf (¬ HN D (dn i (2 ^ k))) := by rw [hj _ lt, r.2]; exact tf_c ⟨fun x => x.2, fun x => ⟨ss, x⟩⟩
      rw [i_of t15, i_of t20, r1, r2, tf_z, tf_z]
      refine ⟨vp_of t15 hi, fun k1 => ?_, fun k1 => ⟨vp_of t20 (by omega), fun k2 => ?_, fun k2 => ⟨vp_of t20 (by omega), fun k3 => ?_, fun k3 => ?_⟩⟩⟩
      · unfold w_X12_back_b334
        refine put x19 1 w19 (Or.inl ⟨rfl, ?_⟩)
        rcases hC with x | x
        · exact x.2
        · exact absurd x.1 k1
      · unfold w_X12_back_b334
        exact put x19 1 w19 (Or.inl ⟨rfl, hn_d hi kb (Or.inl (Classical.not_not.mp k2))⟩)
      · refine put x19 0 w19 (Or.inr ⟨rfl, fun j h1 h2 => ?_⟩)
        rcases hC with x | x
        · rw [x.1] at k1; exact absurd k1 (by decide)
        · by_cases e : j = k
          · rw [e]; exact ⟨k2, Classical.not_not.mp k3⟩
          · exact x.2 j (by omega) h2
      · unfold w_X12_back_b334
        exact put x19 1 w19 (Or.inl ⟨rfl, hn_d hi kb (Or.inr (Classical.not_not.mp k3))⟩)
theorem m_back {b old m s sp w : Int32} {M : Mem} {q : Int32 → Mem → Prop} (hI : InvN (M.1 136)) (h : ∀ M', FM M M' → q (spBack b old m s sp w (M.1 136)) M') : w_X12_back b old m s sp w M q := by
  obtain ⟨N, hN⟩ : ∃ N, N = M.1 136 := ⟨_, rfl⟩
  rw [← hN] at hI h
  have bad : ¬ okBack N b old m s sp w → q (-2) M := fun n => by have := h M (FM.rf M); unfold spBack at this; rw [if_neg n] at this; exact this
  have i2 : 0 ≤ (N 4212).toInt ∧ (N 4212).toInt ≤ 24 := hI.1 4212 (by decide)
  have f0 : (0 : Int64).toInt = 0 := rfl
  have f1 : (100000 : Int64).toInt = 100000 := rfl
  have f2 : (2 : Int64).toInt = 2 := rfl
  unfold w_X12_back
  rw [e_isThere (by rw [← hN]; exact hI), e_has2 (by rw [← hN]; exact i2.1), ← hN]
  simp only [e_in, tf_z, Classical.not_not, f0, f1, f2]
  refine ⟨fun n => bad (fun x => n x.1), fun k1 => ⟨fun n => bad (fun x => n x.2.1), fun k2 => ⟨fun n => bad (fun x => n x.2.2.1), fun k3 => ⟨fun k4 => ?_, fun n => bad (fun x => n (by have := x.2.2.2; omega))⟩⟩⟩⟩
  have spt := spot hI k1
  have o24 : okI old 24 := by omega
  have Eb := ix_a (e := (1026 : Int32)) (a := 1026) rfl (ix_m (e := (2 : Int32)) (a := 2) rfl (ix_n spt.1.1) (by omega)) (by omega)
  have Eb1 := ix_a Eb (w := 1) (i := 1) rfl (by omega)
  have Eo := ix_a (e := (1026 : Int32)) (a := 1026) rfl (ix_m (e := (2 : Int32)) (a := 2) rfl (ix_n k2.1) (by omega)) (by omega)
  have Eo1 := ix_a Eo (w := 1) (i := 1) rfl (by omega)
  unfold spBack at h
  rw [if_pos ⟨k1, k2, k3, by omega⟩] at h
  rw [i_of Eb, i_of Eo, i_of Eb1, i_of Eo1, ← hN]
  refine ⟨vp_of Eb (by omega), fun x55 e55 => ⟨vp_of Eo (by omega), fun kp => ⟨vp_of Eo1 (by omega), ?_⟩, fun kp => ?_⟩⟩
  · have zb := bP_6 hI (b := b.toInt.toNat) (by omega)
    have zo := bP_6 hI (b := old.toInt.toNat) (by omega)
    have p55 : x55.toInt = ((bP N old : Nat) : Int) := by rw [kp]; exact zo.2
    refine s_goesPx (pn := bP N old) (mn := m.toInt.toNat) (sn := s.toInt.toNat) (by rw [← hN]; exact hI) p55 zo.1 (ix_n spt.2.1.1) (by omega) (ix_n spt.2.2.1) (by omega) (fun M59 c1 c2 f59 => ?_)
    rw [← hN] at c1 c2
    have n59 : M59.1 136 = N := by rw [f59.m.n, ← hN]
    rw [c2, tf_z, n59]
    refine ⟨fun kv => ?_, fun kv => ?_⟩
    · intro x62 e62
      refine ⟨vp_of Eb1 (by omega), fun x64 e64 => ⟨vp_of Eo1 (by omega), fun x66 e66 => ?_⟩⟩
      have bo := bk_o hI spt.1 o24
      rw [show M59.1 144 5 = _ from c1 5 (by decide)] at e62
      rw [if_pos ⟨by rw [← e55]; exact kp, kv⟩] at h
      have e62 : x62 = bkL N old m s sp := e62
      have e64 : x64 = bC N b := e64
      have e66 : x66 = Int32.ofNat (bkO N b old) := by
        rw [← bo.1, e66, e64]
      have pb : bP N b = bP N old := by
        show toN (N (1026 + 2 * b.toInt.toNat)) = toN (N (1026 + 2 * old.toInt.toNat))
        rw [← e55, kp]
      obtain ⟨o, hoE⟩ : ∃ o, o = bkO N b old := ⟨_, rfl⟩
      rw [← hoE] at h bo e66
      rw [← e62] at h
      have F59 : FM M M59 := f59.m
      unfold w_X12_back_l180
      refine lfp_for (i0 := 0) (n := 1024) (fun (i : Nat) (t : Int32 × Int32 × Int32 × Int32 × Int32 × Mem) => t.2.2.2.2.1 = Int32.ofNat i ∧ FM M t.2.2.2.2.2 ∧ DP (brD N b m s x62) o i t.2.2.2.2.2 ∧ t.1 = Int32.ofNat (fnd (brD N b m s x62) o i).length ∧ t.2.1 = oI ((fnd (brD N b m s x62) o i).foldl fst9 none) ∧ t.2.2.1 = fI ((fnd (brD N b m s x62) o i).foldl fst9 none) ∧ t.2.2.2.1 = alB (brD N b m s x62) o (lgs i)) ?_ (by omega) ⟨rfl, F59, fun t ht => by omega, rfl, rfl, rfl, rfl⟩
      intro P i st hi hJ hP
      obtain ⟨v11, v12, v13, v14, v15, M1⟩ := st
      obtain ⟨ha0, hF0, hD0, h110, h120, h130, h140⟩ := hJ
      have h15 : v15 = Int32.ofNat i := ha0
      have hF : FM M M1 := hF0
      have hD : DP (brD N b m s x62) o i M1 := hD0
      have h11 : v11 = Int32.ofNat (fnd (brD N b m s x62) o i).length := h110
      have h12 : v12 = oI ((fnd (brD N b m s x62) o i).foldl fst9 none) := h120
      have h13 : v13 = fI ((fnd (brD N b m s x62) o i).foldl fst9 none) := h130
      have h14 : v14 = alB (brD N b m s x62) o (lgs i) := h140
      clear ha0 hF0 hD0 h110 h120 h130 h140
      have t15 : v15.toInt = (i : Int) := by rw [h15]; exact ti_ofNat (by omega)
      have f1024 : (1024 : Int32).toInt = 1024 := rfl
      have len := fnd_252 (D := brD N b m s x62) (o := o) hi
      unfold w_X12_back_l180F
      dsimp only
      rw [le_i, t15, f1024]
      refine ⟨fun z => ?_, fun z => ?_⟩
      · have i1024 : i = 1024 := by omega
        rw [i1024] at h11 h12 h14
        have h := h M1 hF
        refine ⟨fun w0 => ⟨fun w1 => ?_, fun w1 => ?_⟩, fun w0 => ?_⟩
        · have w2 : w = 2 := by
            rw [eq_i] at w0 w1 ⊢
            have g0 : (0 : Int32).toInt = 0 := rfl
            have g1 : (1 : Int32).toInt = 1 := rfl
            have g2 : (2 : Int32).toInt = 2 := rfl
            omega
          rw [if_pos w2] at h
          rw [h14]
          exact h
        · rw [if_neg (by rw [w1]; decide), if_neg w0] at h
          rw [h12]
          exact h
        · rw [if_neg (by rw [w0]; decide), if_pos w0] at h
          rw [h11]
          exact h
      · have i24 : i < 1024 := by omega
        refine ⟨vp_of t15 i24, fun M34 e34 => ⟨vp_of t15 i24, fun M36 e36 => ?_⟩⟩
        rw [i_of t15] at e34 e36
        have F36 : FM M M36 := by rw [e36, e34]; exact (hF.tr (fm_uI (by decide))).tr (fm_uI (by decide))
        have r49 : M36.1 149 i = 0 := by rw [e36, uI_k (by decide), e34, uI_s]
        have r50 : M36.1 150 i = 0 := by rw [e36, uI_s]
        have D36 : DP (brD N b m s x62) o i M36 := fun t ht => by
          rw [e36, uI_k (by decide), uI_j (by omega), e34, uI_j (by omega), uI_k (by decide)]
          exact hD t ht
        rw [h15, e66, sb_i i24, ← h15]
        refine ⟨fun ks => ?_, fun ks => ?_⟩
        · unfold w_X12_back_b428
          intro x1 e1
          have fe : fnd (brD N b m s x62) o (i + 1) = fnd (brD N b m s x62) o i := by rw [fnd_suc, if_neg (fun x => ks x.1)]
          refine hP (v11, v12, v13, v14, x1, M36) (by omega) ⟨?_, F36, ?_, ?_, ?_, ?_, ?_⟩
          · exact i_nat (by show x1.toInt = _; rw [e1]; exact ix_a t15 rfl (by omega))
          · intro t ht
            show M36.1 149 t = _ ∧ M36.1 150 t = _
            by_cases e : t = i
            · rw [e, r49, r50, tf0 (fun x => ks x.1), tf0 (fun x => ks x.1)]
              exact ⟨rfl, rfl⟩
            · exact D36 t (by omega)
          · rw [fe]; exact h11
          · rw [fe]; exact h12
          · rw [fe]; exact h13
          · show v14 = _
            rw [alB_no i24 (fun x => ks x.2.1)]; exact h14
        · have hI36 : InvN (M36.1 136) := by rw [F36.n, ← hN]; exact hI
          refine s_goesPx (pn := bP N old) (mn := m.toInt.toNat) (sn := s.toInt.toNat) hI36 p55 zo.1 (ix_n spt.2.1.1) (by omega) (ix_n spt.2.2.1) (by omega) (fun M38 d1 d2 f38 => ?_)
          rw [F36.n, ← hN, ← pb, e64, h15] at d1 d2
          have F38 : FM M M38 := F36.tr f38.m
          rw [d2, tf_z, show M38.1 144 5 = _ from d1 5 (by decide)]
          have D38 : DP (brD N b m s x62) o i M38 := fun t ht => by
            rw [f38.1 149 (by decide), f38.1 150 (by decide)]
            exact D36 t ht
          have z38 : M38.1 150 i = 0 := by rw [f38.1 150 (by decide)]; exact r50
          have go : ∀ t2 : Int32, t2 = tf (brD N b m s x62 i) → w_X12_back_b259 m s w x55 x62 x64 x66 v11 v12 v13 v14 v15 v15 t2 M38 q P := fun t2 e2 => by
            unfold w_X12_back_b259
            refine ⟨vp_of t15 i24, by rw [e2]; exact bz_tf, fun M29 e29 => ?_⟩
            rw [i_of t15] at e29
            refine s_in266 (D := brD N b m s x62) (o := o) i24 h15 ks (fun t ht => ?_) (by rw [e29, uI_s]; exact e2) (by rw [e29, uI_k (by decide)]; exact z38) (fun M2 v16 f2 D2 e16 q49 q50 => ?_)
            · rw [e29, uI_j (by omega), uI_k (by decide)]
              exact D38 t ht
            · have F2 : FM M M2 := (F38.tr (by rw [e29]; exact fm_uI (by decide))).tr f2
              have p10 := pc_le i
              have t16 : v16.toInt = (pc i : Int) := by rw [e16]; exact ti_ofNat (by omega)
              rw [i_of t15, q49, q50, tf_z, tf_z]
              have fin : ∀ a11 a12 a13 : Int32, a11 = Int32.ofNat (fnd (brD N b m s x62) o (i + 1)).length → a12 = oI ((fnd (brD N b m s x62) o (i + 1)).foldl fst9 none) → a13 = fI ((fnd (brD N b m s x62) o (i + 1)).foldl fst9 none) → w_X12_back_b401 m s w x55 x62 x64 x66 a11 a12 a13 v14 v15 v16 M2 q P := fun a11 a12 a13 g1 g2 g3 => by
                have end0 : ∀ x : Int32, x = alB (brD N b m s x62) o (lgs (i + 1)) → w_X12_back_b428 m s w x55 x62 x64 x66 a11 a12 a13 x v15 M2 q P := fun x ex => by
                  unfold w_X12_back_b428
                  intro x1 e1
                  refine hP (a11, a12, a13, x, x1, M2) (by omega) ⟨?_, F2, D2, g1, g2, g3, ex⟩
                  exact i_nat (by show x1.toInt = _; rw [e1]; exact ix_a t15 rfl (by omega))
                have no : ¬ (pc i = 1 ∧ sb i o ∧ brD N b m s x62 i) → w_X12_back_b424 m s w x55 x62 x64 x66 a11 a12 a13 v15 v14 M2 q P := fun n => by
                  unfold w_X12_back_b424 w_X12_back_b425
                  intro x2 ex
                  refine end0 x2 ?_
                  rw [ex, Int32.or_zero, alB_no i24 n]
                  exact h14
                unfold w_X12_back_b401
                rw [i_of t15, q49, tf_z]
                refine ⟨vp_of t15 i24, fun n => no (fun x => n x.2.2), fun y => ⟨fun n => no (fun x => n ?_), fun k => ?_⟩⟩
                · rw [eq_i, t16, x.1]; rfl
                · unfold w_X12_back_b425
                  intro x2 ex
                  refine end0 x2 ?_
                  have p1 : pc i = 1 := by
                    rw [eq_i, t16] at k
                    have g1 : (1 : Int32).toInt = 1 := rfl
                    omega
                  rw [ex, alB_yes i24 p1 ks (Classical.not_not.mp y), h14, h15]
              have same : ¬ lst (brD N b m s x62) i → w_X12_back_b401 m s w x55 x62 x64 x66 v11 v12 v13 v14 v15 v16 M2 q P := fun n => by
                have fe : fnd (brD N b m s x62) o (i + 1) = fnd (brD N b m s x62) o i := by rw [fnd_suc, if_neg (fun x => n x.2)]
                refine fin v11 v12 v13 ?_ ?_ ?_
                · rw [fe]; exact h11
                · rw [fe]; exact h12
                · rw [fe]; exact h13
              refine ⟨vp_of t15 i24, fun n => same (fun x => n x.1), fun y => ⟨vp_of t15 i24, fun n => same (fun x => (Classical.not_not.mp n) x.2), fun y2 x16 ex => ?_⟩⟩
              have fe : fnd (brD N b m s x62) o (i + 1) = fnd (brD N b m s x62) o i ++ [i] := by rw [fnd_suc, if_pos ⟨ks, Classical.not_not.mp y, Classical.not_not.mp y2⟩]
              have n16 : x16 = Int32.ofNat (fnd (brD N b m s x62) o (i + 1)).length := by
                refine i_nat ?_
                rw [ex, fe, List.length_append, h11, List.length_singleton]
                exact ix_a (ti_ofNat (by omega)) rfl (by omega)
              have ff : (fnd (brD N b m s x62) o (i + 1)).foldl fst9 none = fst9 ((fnd (brD N b m s x62) o i).foldl fst9 none) i := by
                rw [fe, List.foldl_append]; rfl
              have upd : ¬ v13 ≤ v16 → fst9 ((fnd (brD N b m s x62) o i).foldl fst9 none) i = some i := fun n => by
                cases hacc : (fnd (brD N b m s x62) o i).foldl fst9 none with
                | none => rfl
                | some y =>
                  rw [hacc] at h13
                  have p1 := pc_le y
                  rw [le_i, t16, h13, show fI (some y) = Int32.ofNat (pc y) from rfl, ti_ofNat (by omega)] at n
                  exact if_neg (by omega)
              have kee : v13 ≤ v16 → fst9 ((fnd (brD N b m s x62) o i).foldl fst9 none) i = (fnd (brD N b m s x62) o i).foldl fst9 none := fun n => by
                cases hacc : (fnd (brD N b m s x62) o i).foldl fst9 none with
                | none =>
                  rw [hacc] at h13
                  rw [le_i, t16, h13, show (fI none).toInt = 99 from rfl] at n
                  omega
                | some y =>
                  rw [hacc] at h13
                  have p1 := pc_le y
                  rw [le_i, t16, h13, show fI (some y) = Int32.ofNat (pc y) from rfl, ti_ofNat (by omega)] at n
                  exact if_pos (by omega)
              refine ⟨fun n => ?_, fun n => ?_⟩
              · unfold w_X12_back_b383 w_X12_back_b399
                refine ⟨fun _ => ?_, fun n2 => absurd n n2⟩
                exact fin x16 v12 v13 n16 (by rw [ff, kee n]; exact h12) (by rw [ff, kee n]; exact h13)
              · unfold w_X12_back_b383 w_X12_back_b399
                refine ⟨fun n2 => absurd n2 n, fun _ => ?_⟩
                exact fin x16 v15 v16 n16 (by rw [ff, upd n]; exact h15) (by rw [ff, upd n]; exact e16)
          refine ⟨fun n => ?_, fun kv2 => ⟨fun n => ?_, fun n => ?_⟩⟩
          · unfold w_X12_back_b258
            exact go 0 (by rw [tf0 (fun x => n x.1)])
          · unfold w_X12_back_b258
            exact go 0 (by rw [tf0 (fun x => x.2 n)])
          · exact go 1 (by rw [tf1 ⟨kv2, n⟩])
    · have h := h M59 f59.m
      rw [if_neg (fun x => kv x.2)] at h
      exact h
  · have h := h M (FM.rf M)
    rw [if_neg (fun x => kp (by rw [e55]; exact x.1))] at h
    exact h

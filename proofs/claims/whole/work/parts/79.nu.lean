/-! the class counts ways -/
theorem s_sums11 {ka a K : Nat} {v2 v3 t0 : Int32} {M : Mem} {e : Nat → Int} {q : Int32 → Mem → Prop} (hka : ka = 49 ∨ ka = 50) (h2 : v2.toInt = a) (h3 : v3.toInt = ((a + K : Nat) : Int)) (hK : K ≤ 8) (ha : a + K ≤ 16) (he : ∀ k, k < 16 → (M.1 13 k * t0).toInt = e k ∧ -1000000 ≤ e k ∧ e k ≤ 1000000) (h : ∀ x M', x.toInt = ((2 ^ K : Nat) : Int) → srt (tI M' ka) (2 ^ K) → (∀ p, sumF (tI M' ka) p (2 ^ K) = SL e a K p) → (∀ i, i < 2 ^ K → -8000000 ≤ tI M' ka i ∧ tI M' ka i ≤ 8000000) → FrA ka M M' → q x M') : w_X10_sumsOfSets 48 13 v2 v3 t0 ka M q := by
  have hL : len ka = 256 := by rcases hka with x | x <;> subst x <;> rfl
  have hk13 : (13 : Nat) ≠ ka := by omega
  have f256 : (256 : Int32).toInt = 256 := rfl
  unfold w_X10_sumsOfSets
  refine ⟨vp_of (a := 0) rfl (by omega), fun M9 e9 => ?_⟩
  have F9 : FrA ka M M9 := ⟨fun b h1 h2 => by funext c; rw [e9, uI_k h1], by rw [e9]; rfl⟩
  have z9 : tI M9 ka 0 = 0 := by unfold tI; rw [e9, uI_s]; rfl
  clear e9
  unfold w_X10_sumsOfSets_l11
  refine lfp_for (i0 := 0) (n := K) (fun (k : Nat) (t : Int32 × Int32 × Mem) => t.1.toInt = ((2 ^ k : Nat) : Int) ∧ t.2.1.toInt = ((a + k : Nat) : Int) ∧ srt (tI t.2.2 ka) (2 ^ k) ∧ (∀ p, sumF (tI t.2.2 ka) p (2 ^ k) = SL e a k p) ∧ (∀ i, i < 2 ^ k → -(1000000 * (k : Int)) ≤ tI t.2.2 ka i ∧ tI t.2.2 ka i ≤ 1000000 * (k : Int)) ∧ FrA ka M t.2.2) ?_ (by omega) ⟨rfl, h2, fun i hi => absurd hi (by show ¬ i + 1 < 1; omega), fun p => ?_, fun i hi => ?_, F9⟩
  · intro P k st hk hJ hP
    obtain ⟨v6, v7, M1⟩ := st
    obtain ⟨a0, b0, c0, d0, g0, F0⟩ := hJ
    have h6 : v6.toInt = ((2 ^ k : Nat) : Int) := a0
    have h7 : v7.toInt = ((a + k : Nat) : Int) := b0
    have s1 : srt (tI M1 ka) (2 ^ k) := c0
    have p1 : ∀ p, sumF (tI M1 ka) p (2 ^ k) = SL e a k p := d0
    have b1 : ∀ i, i < 2 ^ k → -(1000000 * (k : Int)) ≤ tI M1 ka i ∧ tI M1 ka i ≤ 1000000 * (k : Int) := g0
    have F1 : FrA ka M M1 := F0
    clear a0 b0 c0 d0 g0 F0
    unfold w_X10_sumsOfSets_l11F
    dsimp only
    rw [le_i, h3, h7]
    have pw : k < 8 → 2 ^ k * 2 ≤ 256 := fun hk8 => by
      have : 2 ^ (k + 1) ≤ 2 ^ 8 := Nat.pow_le_pow_right (by decide) (by omega)
      rw [Nat.pow_succ] at this
      exact this
    refine ⟨fun z => ?_, fun z => ?_⟩
    · have ek : k = K := by omega
      subst ek
      exact h v6 M1 h6 s1 p1 (fun i hi => by have := b1 i hi; omega) F1
    · have hk8 : k < 8 := by omega
      have pk := pw hk8
      generalize hm : 2 ^ k = m at h6 s1 p1 b1 pk
      have E2 := ix_m h6 (w := (2 : Int32)) (i := 2) rfl (by omega)
      rw [lt_i, f256, E2]
      refine ⟨fun z2 => absurd z2 (by omega), fun z2 => ⟨vp_of h7 (show a + k < len 13 from by show a + k < 16; omega), ?_⟩⟩
      have ek := he (a + k) (by omega)
      rw [i_of h7, F1.1 13 hk13 (by decide)]
      refine s_addToEach hka h6 pk s1 b1 (by omega) (by rw [ek.1]; exact ek.2) (fun M4 s4 p4 b4 F4 x6 e6 x7 e7 => ?_)
      refine hP (x6, x7, M4) (by omega) ⟨?_, ?_, ?_, fun p => ?_, fun i hi => ?_, F1.tr F4⟩
      · show x6.toInt = ((2 ^ (k + 1) : Nat) : Int)
        rw [e6, Nat.pow_succ, hm]; exact E2
      · show x7.toInt = ((a + (k + 1) : Nat) : Int)
        rw [e7, ← Nat.add_assoc]; exact ix_a h7 rfl (by omega)
      · show srt (tI M4 ka) (2 ^ (k + 1))
        rw [Nat.pow_succ, hm]; exact s4
      · show sumF (tI M4 ka) p (2 ^ (k + 1)) = SL e a (k + 1) p
        rw [Nat.pow_succ, hm, p4, SL, p1, p1, ek.1]
      · have hi : i < m * 2 := by rw [Nat.pow_succ, hm] at hi; exact hi
        have := b4 i hi
        show -(1000000 * ((k + 1 : Nat) : Int)) ≤ tI M4 ka i ∧ _
        refine ⟨?_, ?_⟩
        · omega
        · show tI M4 ka i ≤ _; omega
  · show sumF (tI M9 ka) p 1 = SL e a 0 p
    simp only [sumF, SL]
    rw [z9]; omega
  · have : i = 0 := by have hi : i < 1 := hi; omega
    subst this
    show _ ≤ tI M9 ka 0 ∧ tI M9 ka 0 ≤ _
    rw [z9]; decide
/-- the ways to deal signs, by sets -/
def wayN (e : Nat → Int) (n : Nat) : Nat := SL e 0 n (fun z => if z ≤ 0 then 1 else 0)
theorem sumF_le {f : Nat → Int} {p : Int → Nat} {B : Nat} (h : ∀ x, p x ≤ B) : ∀ n, sumF f p n ≤ n * B := by
  intro n
  induction n with
  | zero => simp [sumF]
  | succ n ih =>
    have := h (f n)
    rw [sumF, Nat.succ_mul]
    omega
theorem sumF_1 {f : Nat → Int} {p : Int → Nat} (h : ∀ x, p x ≤ 1) (n : Nat) : sumF f p n ≤ n := by
  have := sumF_le (f := f) h n
  omega
theorem s_dealt {n : Nat} {v2 v3 : Int32} {M : Mem} {e : Nat → Int} {q : Int32 → Mem → Prop} (h2 : v2.toInt = n) (hn : n ≤ 16) (he : ∀ k, k < 16 → (M.1 13 k * (if v3 = 0 then 1 else -1)).toInt = e k ∧ -1000000 ≤ e k ∧ e k ≤ 1000000) (h : ∀ x M', x.toInt = ((wayN e n : Nat) : Int) → (∀ a, (a < 49 ∨ 52 ≤ a) → M'.1 a = M.1 a) → M'.2 = M.2 → q x M') : w_X10_dealt 48 13 v2 v3 M q := by
  have f0 : (0 : Int32).toInt = 0 := rfl
  have fm : (-1 : Int32).toInt = -1 := rfl
  unfold w_X10_dealt
  intro x13 e13
  have E13 : x13.toInt = ((n / 2 : Nat) : Int) := by rw [e13]; exact ix_d h2 rfl (by decide)
  clear e13
  have main : w_X10_dealt_b14 48 13 v2 x13 (if v3 = 0 then 1 else -1) M q := by
    unfold w_X10_dealt_b14
    generalize (if v3 = 0 then (1 : Int32) else -1) = t0 at he
    refine s_sums11 (a := 0) (K := n / 2) (Or.inl rfl) rfl (by rw [Nat.zero_add]; exact E13) (by omega) (by omega) he (fun x1 M1 hx1 s1 p1 b1 F1 => ?_)
    have he1 : ∀ k, k < 16 → (M1.1 13 k * t0).toInt = e k ∧ -1000000 ≤ e k ∧ e k ≤ 1000000 := fun k hk => by rw [F1.1 13 (by decide) (by decide)]; exact he k hk
    refine s_sums11 (a := n / 2) (K := n - n / 2) (Or.inr rfl) E13 (by rw [show n / 2 + (n - n / 2) = n from by omega]; exact h2) (by omega) (by omega) he1 (fun x2 M2 hx2 s2 p2 b2 F2 => ?_)
    have s2 : srt (tI M2 50) (2 ^ (n - n / 2)) := s2
    have p2 : ∀ p, sumF (tI M2 50) p (2 ^ (n - n / 2)) = SL e (n / 2) (n - n / 2) p := p2
    have b2 : ∀ i, i < 2 ^ (n - n / 2) → -8000000 ≤ tI M2 50 i ∧ tI M2 50 i ≤ 8000000 := b2
    have s1 : srt (tI M1 49) (2 ^ (n / 2)) := s1
    have p1 : ∀ p, sumF (tI M1 49) p (2 ^ (n / 2)) = SL e 0 (n / 2) p := p1
    have b1 : ∀ i, i < 2 ^ (n / 2) → -8000000 ≤ tI M1 49 i ∧ tI M1 49 i ≤ 8000000 := b1
    have l2 : tI M2 49 = tI M1 49 := by funext i; unfold tI; rw [F2.1 49 (by decide) (by decide)]
    rw [← l2] at s1 p1 b1
    have hW : wayN e n = sumF (tI M2 49) (fun x => sumF (tI M2 50) (fun y => if x + y ≤ 0 then 1 else 0) (2 ^ (n - n / 2))) (2 ^ (n / 2)) := by
      unfold wayN
      have t := SL_two (e := e) (a := 0) (h := n / 2) (n - n / 2) (fun z => if z ≤ 0 then 1 else 0)
      rw [show n / 2 + (n - n / 2) = n from by omega, Nat.zero_add] at t
      rw [t, p1]
      refine SL_cg (fun x => ?_) _
      rw [p2]
    have hl8 : 2 ^ (n / 2) ≤ 2 ^ 8 := Nat.pow_le_pow_right (by decide) (by omega)
    have hr8 : 2 ^ (n - n / 2) ≤ 2 ^ 8 := Nat.pow_le_pow_right (by decide) (by omega)
    generalize 2 ^ (n / 2) = lf at hx1 s1 p1 b1 hW hl8
    generalize 2 ^ (n - n / 2) = rt at hx2 s2 p2 b2 hW hr8
    have hl8 : lf ≤ 256 := hl8
    have hr8 : rt ≤ 256 := hr8
    have fr2 : ∀ a, (a < 49 ∨ 52 ≤ a) → M2.1 a = M.1 a := fun a ha => by rw [F2.1 a (by omega) (by omega), F1.1 a (by omega) (by omega)]
    have fr3 : M2.2 = M.2 := by rw [F2.2, F1.2]
    have one : ∀ x y : Int, (if x + y ≤ 0 then 1 else 0) ≤ 1 := fun x y => by split <;> omega
    have addv : ∀ i j, i < lf → j < rt → (M2.1 49 i + M2.1 50 j).toInt = tI M2 49 i + tI M2 50 j := fun i j hi hj => by
      have a1 := b1 i hi
      have a2 := b2 j hj
      unfold tI at a1 a2
      rw [ti_add (by omega) (by omega)]
      rfl
    unfold w_X10_dealt_l58
    refine lfp_for (i0 := 0) (n := lf) (fun (i : Nat) (t : Int32 × Int32 × Int32 × Mem) => t.2.2.1.toInt = (i : Int) ∧ t.2.2.2 = M2 ∧ t.1.toInt = ((sumF (tI M2 49) (fun x => sumF (tI M2 50) (fun y => if x + y ≤ 0 then 1 else 0) rt) i : Nat) : Int) ∧ ∃ ft : Nat, t.2.1.toInt = (ft : Int) ∧ ft ≤ rt ∧ ∀ j, ft ≤ j → j < rt → ∀ u, i ≤ u → u < lf → 0 < tI M2 49 u + tI M2 50 j) ?_ (by omega) ⟨rfl, rfl, rfl, rt, hx2, Nat.le_refl rt, fun j h1 h2 => absurd h2 (by omega)⟩
    intro P i st hi hJ hP
    obtain ⟨v8, v9, v10, M3⟩ := st
    obtain ⟨a0, b0, c0, ft, d0, hft, hout⟩ := hJ
    have h10 : v10.toInt = (i : Int) := a0
    have hM : M3 = M2 := b0
    have h8 : v8.toInt = ((sumF (tI M2 49) (fun x => sumF (tI M2 50) (fun y => if x + y ≤ 0 then 1 else 0) rt) i : Nat) : Int) := c0
    have h9 : v9.toInt = (ft : Int) := d0
    clear a0 b0 c0 d0
    subst hM
    have bd8 := sumF_le (f := tI M3 49) (p := fun x => sumF (tI M3 50) (fun y => if x + y ≤ 0 then 1 else 0) rt) (B := rt) (fun x => sumF_1 (one x) rt) i
    have bd9 : i * rt ≤ 256 * 256 := Nat.mul_le_mul (by omega) hr8
    unfold w_X10_dealt_l58F
    dsimp only
    rw [le_i, hx1, h10]
    refine ⟨fun z => ?_, fun z => ?_⟩
    · have ei : i = lf := by omega
      subst ei
      exact h v8 M3 (by rw [hW]; exact h8) fr2 fr3
    · have hil : i < lf := by omega
      unfold w_X10_dealt_l65
      refine lfp_for (i0 := 0) (n := ft) (fun (d : Nat) (t : Int32 × Mem) => t.1.toInt = ((ft - d : Nat) : Int) ∧ t.2 = M3 ∧ ∀ j, ft - d ≤ j → j < rt → 0 < tI M3 49 i + tI M3 50 j) ?_ (by omega) ⟨h9, rfl, fun j h1 h2 => hout j h1 h2 i (Nat.le_refl i) hil⟩
      clear h9
      intro P' d st hd hJ hP'
      obtain ⟨v9', M4⟩ := st
      obtain ⟨a0, b0, c0⟩ := hJ
      have h9 : v9'.toInt = ((ft - d : Nat) : Int) := a0
      have hM : M4 = M3 := b0
      have hgt : ∀ j, ft - d ≤ j → j < rt → 0 < tI M3 49 i + tI M3 50 j := c0
      clear a0 b0 c0
      subst hM
      have fin : (∀ j, j < ft - d → tI M4 49 i + tI M4 50 j ≤ 0) → w_X10_dealt_b96 48 x1 v8 v9' v10 M4 q P := fun hle => by
        have hc : sumF (tI M4 50) (fun y => if tI M4 49 i + y ≤ 0 then 1 else 0) rt = ft - d := by
          have t := sumF_cut (f := tI M4 50) (n := rt) (c := ft - d) (-(tI M4 49 i)) s2 (by omega) (fun j hj => by have := hle j hj; omega) (fun j h1 h2 => by have := hgt j h1 h2; omega)
          have e : (fun y : Int => if y ≤ -(tI M4 49 i) then 1 else 0) = (fun y : Int => if tI M4 49 i + y ≤ 0 then 1 else 0) := by
            funext y
            by_cases k : y ≤ -(tI M4 49 i)
            · rw [if_pos k, if_pos (by omega)]
            · rw [if_neg k, if_neg (by omega)]
          rw [e] at t
          exact t
        unfold w_X10_dealt_b96
        intro y1 ey1 y2 ey2
        refine hP (y1, v9', y2, M4) hil ⟨?_, rfl, ?_, ft - d, h9, by omega, fun j h1 h2 u hu1 hu2 => ?_⟩
        · show y2.toInt = ((i + 1 : Nat) : Int)
          rw [ey2]; exact ix_a h10 rfl (by omega)
        · show y1.toInt = _
          rw [ey1, sumF, hc]
          exact ix_a h8 h9 (by omega)
        · have g1 := hgt j h1 h2
          have g2 := srt_le s1 (u - i) i (by omega)
          rw [show i + (u - i) = u from by omega] at g2
          omega
      unfold w_X10_dealt_l65F
      dsimp only
      rw [le_i, h9, f0]
      refine ⟨fun z0 => fin (fun j hj => absurd hj (by omega)), fun z0 => ?_⟩
      have E1 := ix_s h9 (w := 1) (i := 1) rfl (by omega)
      rw [i_of h10, i_of E1, show (M4.1 (48 + 1) i + M4.1 (48 + 2) (ft - d - 1) ≤ 0) = ((M4.1 49 i + M4.1 50 (ft - d - 1)).toInt ≤ 0) from by rw [le_i, f0], addv i _ hil (by omega)]
      refine ⟨vp_of h10 (by omega), vp_of E1 (by omega), fun k => fin (fun j hj => ?_), fun k x7 e7 => ?_⟩
      · have g2 := srt_le s2 (ft - d - 1 - j) j (by omega)
        rw [show j + (ft - d - 1 - j) = ft - d - 1 from by omega] at g2
        omega
      · refine hP' (x7, M4) (by omega) ⟨?_, rfl, fun j h1 h2' => ?_⟩
        · show x7.toInt = ((ft - (d + 1) : Nat) : Int)
          rw [e7, ti_add (by omega) (by omega), fm]
          omega
        · by_cases e' : j = ft - d - 1
          · subst e'; omega
          · exact hgt j (by omega) h2'
  refine ⟨fun k => ?_, fun k => ?_⟩
  · rw [if_pos k] at main; exact main
  · rw [if_neg k] at main; exact main

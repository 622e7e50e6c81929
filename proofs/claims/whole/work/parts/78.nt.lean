/-! the class's sums of sets -/
def FrA (ka : Nat) (M M' : Mem) : Prop := (∀ a, a ≠ ka → a ≠ 51 → M'.1 a = M.1 a) ∧ M'.2 = M.2
theorem FrA.tr {ka : Nat} {M M' M'' : Mem} (h : FrA ka M M') (h' : FrA ka M' M'') : FrA ka M M'' := ⟨fun a h1 h2 => (h'.1 a h1 h2).trans (h.1 a h1 h2), h'.2.trans h.2⟩
def tI (M : Mem) (k : Nat) : Nat → Int := fun i => (M.1 k i).toInt
theorem s_addToEach {ka m : Nat} {v2 v3 : Int32} {M : Mem} {B : Int} {q : Mem → Prop} (hka : ka = 49 ∨ ka = 50) (h2 : v2.toInt = m) (hm : m * 2 ≤ 256) (hs : srt (tI M ka) m) (hb : ∀ i, i < m → -B ≤ tI M ka i ∧ tI M ka i ≤ B) (hB : 0 ≤ B ∧ B ≤ 8000000) (h3 : -1000000 ≤ v3.toInt ∧ v3.toInt ≤ 1000000) (h : ∀ M', srt (tI M' ka) (m * 2) → (∀ p, sumF (tI M' ka) p (m * 2) = sumF (tI M ka) p m + sumF (tI M ka) (fun x => p (x + v3.toInt)) m) → (∀ i, i < m * 2 → -(B + 1000000) ≤ tI M' ka i ∧ tI M' ka i ≤ B + 1000000) → FrA ka M M' → q M') : w_X10_addToEach 48 ka v2 v3 M q := by
  have hL : len ka = 256 := by rcases hka with e | e <;> subst e <;> rfl
  have hk51 : ka ≠ 51 := by omega
  have E2 := ix_m h2 (w := (2 : Int32)) (i := 2) rfl (by omega)
  unfold w_X10_addToEach w_X10_addToEach_l9
  refine lfp_for (i0 := 0) (n := m * 2) (fun (i : Nat) (t : Int32 × Int32 × Int32 × Mem) => t.2.2.1.toInt = (i : Int) ∧ t.2.2.2.1 ka = M.1 ka ∧ FrA ka M t.2.2.2 ∧ srt (tI t.2.2.2 51) i ∧ (∀ j, j < i → -(B + 1000000) ≤ tI t.2.2.2 51 j ∧ tI t.2.2.2 51 j ≤ B + 1000000) ∧ ∃ w h : Nat, t.1.toInt = (w : Int) ∧ t.2.1.toInt = (h : Int) ∧ w + h = i ∧ w ≤ m ∧ h ≤ m ∧ (∀ p, sumF (tI t.2.2.2 51) p i = sumF (tI M ka) p w + sumF (tI M ka) (fun x => p (x + v3.toInt)) h) ∧ (0 < i → w < m → tI t.2.2.2 51 (i - 1) ≤ tI M ka w) ∧ (0 < i → h < m → tI t.2.2.2 51 (i - 1) ≤ tI M ka h + v3.toInt)) ?_ (by omega) ⟨rfl, rfl, ⟨fun _ _ _ => rfl, rfl⟩, fun i hi => absurd hi (by omega), fun j hj => absurd hj (by omega), 0, 0, rfl, rfl, rfl, by omega, by omega, fun p => rfl, fun x => absurd x (by omega), fun x => absurd x (by omega)⟩
  intro P i st hi hJ hP
  obtain ⟨v4, v5, v6, M1⟩ := st
  obtain ⟨a0, b0, c0, d0, e0, w, h', f0, g0, hwh, hw, hh, p0, q0, r0⟩ := hJ
  have h6 : v6.toInt = (i : Int) := a0
  have k1 : M1.1 ka = M.1 ka := b0
  have F1 : FrA ka M M1 := c0
  have s1 : srt (tI M1 51) i := d0
  have b1 : ∀ j, j < i → -(B + 1000000) ≤ tI M1 51 j ∧ tI M1 51 j ≤ B + 1000000 := e0
  have h4 : v4.toInt = (w : Int) := f0
  have h5 : v5.toInt = (h' : Int) := g0
  have p1 : ∀ p, sumF (tI M1 51) p i = sumF (tI M ka) p w + sumF (tI M ka) (fun x => p (x + v3.toInt)) h' := p0
  have q1 : 0 < i → w < m → tI M1 51 (i - 1) ≤ tI M ka w := q0
  have r1 : 0 < i → h' < m → tI M1 51 (i - 1) ≤ tI M ka h' + v3.toInt := r0
  clear a0 b0 c0 d0 e0 f0 g0 p0 q0 r0
  have put : ∀ (y : Int32) (M4 : Mem), M4 = uI M1 51 i y → i < m * 2 → (0 < i → tI M1 51 (i - 1) ≤ y.toInt) → (-(B + 1000000) ≤ y.toInt ∧ y.toInt ≤ B + 1000000) → ∀ (x4 x5 : Int32) (w2 h2' : Nat), x4.toInt = (w2 : Int) → x5.toInt = (h2' : Int) → w2 + h2' = i + 1 → w2 ≤ m → h2' ≤ m → (∀ p : Int → Nat, sumF (tI M ka) p w + sumF (tI M ka) (fun x => p (x + v3.toInt)) h' + p y.toInt = sumF (tI M ka) p w2 + sumF (tI M ka) (fun x => p (x + v3.toInt)) h2') → (w2 < m → y.toInt ≤ tI M ka w2) → (h2' < m → y.toInt ≤ tI M ka h2' + v3.toInt) → ∀ x6 : Int32, x6 = v6 + 1 → P (x4, x5, x6, M4) := by
    intro y M4 e4 hi2 hy hyb x4 x5 w2 h2' hx4 hx5 hsum hw2 hh2 hp hyw hyh x6 e6
    have a4 : ∀ j, j < i → tI M4 51 j = tI M1 51 j := fun j hj => by unfold tI; rw [e4, uI_j (by omega)]
    have a4i : tI M4 51 i = y.toInt := by unfold tI; rw [e4, uI_s]
    refine hP (x4, x5, x6, M4) hi2 ⟨?_, ?_, ?_, fun j hj => ?_, fun j hj => ?_, w2, h2', hx4, hx5, hsum, hw2, hh2, fun p => ?_, fun _ hlt => ?_, fun _ hlt => ?_⟩
    · show x6.toInt = ((i + 1 : Nat) : Int)
      rw [e6]; exact ix_a h6 rfl (by omega)
    · show M4.1 ka = M.1 ka
      rw [← k1]; funext b; rw [e4, uI_k hk51]
    · refine F1.tr ⟨fun a h1 h2 => ?_, ?_⟩
      · show M4.1 a = _
        funext b; rw [e4, uI_k h2]
      · show M4.2 = M1.2
        rw [e4]; rfl
    · show tI M4 51 j ≤ tI M4 51 (j + 1)
      by_cases e : j + 1 = i
      · subst e
        rw [a4i, a4 j (by omega)]
        exact hy (by omega)
      · rw [a4 j (by omega), a4 (j + 1) (by omega)]
        exact s1 j (by omega)
    · show -(B + 1000000) ≤ tI M4 51 j ∧ tI M4 51 j ≤ _
      by_cases e : j = i
      · subst e; rw [a4i]; exact hyb
      · rw [a4 j (by omega)]; exact b1 j (by omega)
    · show sumF (tI M4 51) p (i + 1) = _
      rw [sumF, a4i, sumF_cg (f := tI M4 51) (g := tI M1 51) i (fun j hj => a4 j hj), p1 p]
      exact hp p
    · show tI M4 51 (i + 1 - 1) ≤ _
      rw [show i + 1 - 1 = i from by omega, a4i]; exact hyw hlt
    · show tI M4 51 (i + 1 - 1) ≤ _
      rw [show i + 1 - 1 = i from by omega, a4i]; exact hyh hlt
  have addv : ∀ j, j < m → (M1.1 ka j + v3).toInt = tI M ka j + v3.toInt := fun j hj => by
    have := hb j hj
    unfold tI at this
    rw [k1, ti_add (by omega) (by omega)]
    rfl
  have mono : ∀ j, j + 1 < m → tI M ka j ≤ tI M ka (j + 1) := hs
  have t42 : i < m * 2 → w < m → (h' < m → tI M ka w ≤ tI M ka h' + v3.toInt) → w_X10_addToEach_b42 48 ka v2 v3 v4 v5 v6 M1 q P := fun hi2 hwm hle => by
    unfold w_X10_addToEach_b42 w_X10_addToEach_b75
    rw [hL]
    refine ⟨vp_of h4 (by omega), vp_of h6 (by omega), fun M4 e4 x5 ex5 => ?_⟩
    rw [i_of h4, i_of h6, k1] at e4
    have bw := hb w hwm
    refine put (M.1 ka w) M4 e4 hi2 (fun z => q1 z hwm) (by unfold tI at bw; omega) x5 v5 (w + 1) h' (by rw [ex5]; exact ix_a h4 rfl (by omega)) h5 (by omega) (by omega) hh (fun p => ?_) (fun hlt => mono w hlt) (fun hlt => hle hlt)
    rw [sumF]
    show _ + p (tI M ka w) = _
    omega
  have t59 : i < m * 2 → h' < m → (w < m → tI M ka h' + v3.toInt ≤ tI M ka w) → w_X10_addToEach_b59 48 ka v2 v3 v4 v5 v6 M1 q P := fun hi2 hhm hle => by
    unfold w_X10_addToEach_b59 w_X10_addToEach_b75
    rw [hL]
    refine ⟨vp_of h5 (by omega), vp_of h6 (by omega), fun M4 e4 x5 ex5 => ?_⟩
    rw [i_of h5, i_of h6] at e4
    have bh := hb h' hhm
    have av := addv h' hhm
    refine put (M1.1 ka h' + v3) M4 e4 hi2 (fun z => by rw [av]; exact r1 z hhm) (by rw [av]; omega) v4 x5 w (h' + 1) h4 (by rw [ex5]; exact ix_a h5 rfl (by omega)) (by omega) hw (by omega) (fun p => ?_) (fun hlt => by rw [av]; exact hle hlt) (fun hlt => by rw [av]; have := mono h' hlt; omega)
    rw [av, sumF]
    omega
  unfold w_X10_addToEach_l9F
  dsimp only
  rw [le_i, E2, h6, le_i, h2, h5, le_i, h2, h4, hL, i_of E2]
  refine ⟨fun z => ⟨not_neg E2, by omega, by omega, fun M14 e14 => ?_⟩, fun z => ⟨fun k => t42 (by omega) (by omega) (fun x => absurd x (by omega)), fun k => ⟨fun k2 => t59 (by omega) (by omega) (fun x => absurd x (by omega)), fun k2 => ⟨vp_of h4 (by omega), vp_of h5 (by omega), ?_⟩⟩⟩⟩
  · have ei : i = m * 2 := by omega
    subst ei
    have a14 : ∀ j, j < m * 2 → tI M14 ka j = tI M1 51 j := fun j hj => by
      unfold tI
      rw [e14]
      show ((cpI M1 51 ka 0 0 (m * 2)).1 ka j).toInt = _
      rw [cp_in (by omega), show 0 + (j - 0) = j from by omega]
    refine h M14 (fun j hj => ?_) (fun p => ?_) (fun j hj => ?_) (F1.tr ⟨fun a h1 h2 => ?_, ?_⟩)
    · rw [a14 j (by omega), a14 (j + 1) (by omega)]; exact s1 j hj
    · have ew : w = m := by omega
      have eh : h' = m := by omega
      rw [sumF_cg (f := tI M14 ka) (g := tI M1 51) (m * 2) a14, p1 p, ew, eh]
    · rw [a14 j hj]; exact b1 j hj
    · funext b; rw [e14]; exact cp_k h1
    · rw [e14]; rfl
  · rw [i_of h5, i_of h4, lt_i, addv h' (by omega), k1]
    have e : ∀ j, (M.1 ka j).toInt = tI M ka j := fun _ => rfl
    rw [e]
    exact ⟨fun k3 => t59 (by omega) (by omega) (fun _ => by omega), fun k3 => t42 (by omega) (by omega) (fun _ => by omega)⟩

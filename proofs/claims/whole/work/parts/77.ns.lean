/-! sums over all sets -/
def sumF (f : Nat → Int) (p : Int → Nat) : Nat → Nat
  | 0 => 0
  | k + 1 => sumF f p k + p (f k)
def SL (e : Nat → Int) (a : Nat) : Nat → (Int → Nat) → Nat
  | 0, p => p 0
  | k + 1, p => SL e a k p + SL e a k (fun x => p (x + e (a + k)))
theorem SL_add {e : Nat → Int} {a : Nat} : ∀ k (p r : Int → Nat), SL e a k (fun x => p x + r x) = SL e a k p + SL e a k r := by
  intro k
  induction k with
  | zero => intro p r; rfl
  | succ k ih =>
    intro p r
    simp only [SL]
    rw [ih, ih (fun x => p (x + e (a + k))) (fun x => r (x + e (a + k)))]
    omega
theorem SL_cg {e : Nat → Int} {a : Nat} {p r : Int → Nat} (h : ∀ x, p x = r x) (k : Nat) : SL e a k p = SL e a k r := by
  have : p = r := funext h
  rw [this]
/-- first one part, then the other -/
theorem SL_two {e : Nat → Int} {a h : Nat} : ∀ k (p : Int → Nat), SL e a (h + k) p = SL e a h (fun x => SL e (a + h) k (fun y => p (x + y))) := by
  intro k
  induction k with
  | zero =>
    intro p
    simp only [SL, Nat.add_zero]
    exact SL_cg (fun x => by rw [Int.add_zero]) h
  | succ k ih =>
    intro p
    rw [← Nat.add_assoc]
    simp only [SL]
    rw [ih, ih, SL_add]
    congr 1
    refine SL_cg (fun x => SL_cg (fun y => ?_) k) h
    rw [Nat.add_assoc, Int.add_assoc]
/-- sorted, and as many as the sets -/
def srt (f : Nat → Int) (n : Nat) : Prop := ∀ i, i + 1 < n → f i ≤ f (i + 1)
theorem srt_le {f : Nat → Int} {n : Nat} (h : srt f n) : ∀ d i, i + d < n → f i ≤ f (i + d) := by
  intro d
  induction d with
  | zero => intro i _; exact Int.le_refl _
  | succ d ih =>
    intro i hi
    have h1 := ih i (by omega)
    have h2 := h (i + d) (by omega)
    rw [Nat.add_assoc] at h2
    omega
theorem sumF_cg {f g : Nat → Int} {p : Int → Nat} : ∀ n, (∀ i, i < n → f i = g i) → sumF f p n = sumF g p n := by
  intro n
  induction n with
  | zero => intro _; rfl
  | succ n ih => intro h; rw [sumF, sumF, ih (fun i hi => h i (by omega)), h n (by omega)]
/-- a sorted row: those not above 0 stand first -/
theorem sumF_cut {f : Nat → Int} {n c : Nat} (t : Int) (hs : srt f n) (hc : c ≤ n) (h1 : ∀ j, j < c → f j ≤ t) (h2 : ∀ j, c ≤ j → j < n → t < f j) : sumF f (fun y => if y ≤ t then 1 else 0) n = c := by
  have key : ∀ k, k ≤ n → sumF f (fun y => if y ≤ t then 1 else 0) k = min k c := by
    intro k
    induction k with
    | zero => intro _; simp [sumF]
    | succ k ih =>
      intro hk
      rw [sumF, ih (by omega)]
      by_cases l : k < c
      · have := h1 k l
        simp only [this, if_true]
        omega
      · have := h2 k (by omega) (by omega)
        have : ¬ f k ≤ t := by omega
        simp only [this, if_false]
        omega
  rw [key n (Nat.le_refl n)]
  omega
theorem SL_1 {e : Nat → Int} {a : Nat} : ∀ k, SL e a k (fun _ => 1) = 2 ^ k := by
  intro k
  induction k with
  | zero => rfl
  | succ k ih =>
    simp only [SL]
    rw [ih, Nat.pow_succ]
    omega
theorem SL_le {e : Nat → Int} {a : Nat} {p : Int → Nat} (h : ∀ x, p x ≤ 1) (k : Nat) : SL e a k p ≤ 2 ^ k := by
  have : ∀ k (p r : Int → Nat), (∀ x, p x ≤ r x) → SL e a k p ≤ SL e a k r := by
    intro k
    induction k with
    | zero => intro p r h; exact h 0
    | succ k ih =>
      intro p r h
      have h1 := ih p r h
      have h2 := ih (fun x => p (x + e (a + k))) (fun x => r (x + e (a + k))) (fun x => h _)
      simp only [SL]
      omega
  have t := this k p (fun _ => 1) h
  rw [SL_1] at t
  exact t

/-! the model counts ways -/
theorem sh_t : ∀ t, t < 31 → (((Int32.ofNat t &&& 31).toBitVec).smod 32).toNat = t := by decide +kernel
theorem bitS_n {x t : Nat} (hx : x < 2147483648) (ht : t < 31) : bitS (Int32.ofNat x) t ↔ x.testBit t = true := by
  have e : (Int32.ofNat x >>> (Int32.ofNat t &&& 31)).toBitVec.getLsbD 0 = x.testBit t := by
    rw [Int32.toBitVec_shiftRight, BitVec.sshiftRight_eq', sh_t t ht, BitVec.getLsbD_sshiftRight]
    have : (Int32.ofNat x).toBitVec = BitVec.ofNat 32 x := rfl
    rw [this, if_pos (show t + 0 < 32 by omega), BitVec.getLsbD_ofNat, decide_eq_true (show t + 0 < 32 by omega)]
    simp
  unfold bitS
  have e2 : ((Int32.ofNat x >>> (Int32.ofNat t &&& 31)) &&& 1).toBitVec = if (Int32.ofNat x >>> (Int32.ofNat t &&& 31)).toBitVec.getLsbD 0 then BitVec.twoPow 32 0 else 0#32 := by
    have o : (1 : Int32).toBitVec = BitVec.twoPow 32 0 := by decide
    rw [Int32.toBitVec_and, o, BitVec.and_twoPow]
  constructor
  · intro h
    rw [h, e] at e2
    by_cases k : x.testBit t = true
    · exact k
    · rw [if_neg k] at e2
      exact absurd e2 (by decide)
  · intro h
    rw [e, if_pos h] at e2
    exact Int32.toBitVec_inj.mp (by rw [e2]; rfl)
def ssum (e : Nat → Int) (x : Nat) : Nat → Int
  | 0 => 0
  | k + 1 => ssum e x k + (if x.testBit k = true then e k else 0)
theorem ssum_cg {e : Nat → Int} {x y : Nat} : ∀ k, (∀ t, t < k → x.testBit t = y.testBit t) → ssum e x k = ssum e y k := by
  intro k
  induction k with
  | zero => intro _; rfl
  | succ k ih => intro h; rw [ssum, ssum, ih (fun t ht => h t (by omega)), h k (by omega)]
theorem sumF_split {f : Nat → Int} {p : Int → Nat} {a : Nat} : ∀ b, sumF f p (a + b) = sumF f p a + sumF (fun i => f (a + i)) p b := by
  intro b
  induction b with
  | zero => rfl
  | succ b ih =>
    rw [← Nat.add_assoc, sumF, ih, sumF]
    omega
theorem ssum_SL {e : Nat → Int} : ∀ k (p : Int → Nat), sumF (fun x => ssum e x k) p (2 ^ k) = SL e 0 k p := by
  intro k
  induction k with
  | zero => intro p; simp [sumF, SL, ssum]
  | succ k ih =>
    intro p
    rw [Nat.pow_succ, Nat.mul_two, sumF_split, SL]
    congr 1
    · rw [← ih p]
      refine sumF_cg _ (fun x hx => ?_)
      rw [ssum, Nat.testBit_lt_two_pow hx]
      simp
    · rw [← ih (fun x => p (x + e (0 + k)))]
      have : ∀ n, n ≤ 2 ^ k → sumF (fun i => ssum e (2 ^ k + i) (k + 1)) p n = sumF (fun x => ssum e x k) (fun x => p (x + e (0 + k))) n := by
        intro n
        induction n with
        | zero => intro _; rfl
        | succ n ihn =>
          intro hn
          rw [sumF, sumF, ihn (by omega)]
          have e1 : ssum e (2 ^ k + n) (k + 1) = ssum e n k + e (0 + k) := by
            rw [ssum, Nat.testBit_two_pow_add_eq, Nat.testBit_lt_two_pow (show n < 2 ^ k by omega), ssum_cg k (fun t ht => Nat.testBit_two_pow_add_gt ht n), Nat.zero_add]
            simp
          rw [e1]
      exact this _ (Nat.le_refl _)
/-- the numbers that the signs are dealt to -/
def dvE (N : Nat → Int32) (v : Int32) : Nat → Int := fun k => if v = 0 then (N (4146 + k)).toInt else -(N (4146 + k)).toInt
def dS (N : Nat → Int32) : Nat → Int
  | 0 => 0
  | k + 1 => dS N k + (N (4146 + k)).toInt
def dD (N : Nat → Int32) (x : Nat) : Nat → Int
  | 0 => 0
  | k + 1 => dD N x k + (if x.testBit k = true then -(N (4146 + k)).toInt else (N (4146 + k)).toInt)
theorem d_bd {N : Nat → Int32} (hI : InvN N) {k : Nat} (hk : k < 16) : -1000000 ≤ (N (4146 + k)).toInt ∧ (N (4146 + k)).toInt ≤ 1000000 := by
  have := hI.1 (4146 + k) (by omega)
  rw [rg_diff hk] at this
  exact this
theorem dS_bd {N : Nat → Int32} (hI : InvN N) {x : Nat} : ∀ k : Nat, k ≤ 16 → (-(1000000 * (k : Int)) ≤ dS N k ∧ dS N k ≤ 1000000 * (k : Int)) ∧ -(1000000 * (k : Int)) ≤ dD N x k ∧ dD N x k ≤ 1000000 * (k : Int) := by
  intro k
  induction k with
  | zero => intro _; simp [dS, dD]
  | succ k ih =>
    intro hk
    have := ih (by omega)
    have b := d_bd hI (k := k) (by omega)
    rw [dS, dD]
    split <;> omega
theorem dD_s {N : Nat → Int32} {v : Int32} {x : Nat} : ∀ k, dD N x k = dS N k - 2 * (if v = 0 then ssum (dvE N v) x k else -ssum (dvE N v) x k) := by
  intro k
  induction k with
  | zero => simp [dD, dS, ssum]
  | succ k ih =>
    rw [dD, dS, ssum, ih]
    unfold dvE
    by_cases h : v = 0
    · simp only [h, if_true]
      split <;> omega
    · simp only [h, if_false]
      split <;> omega
theorem s_oddsOf {v1 v2 : Int32} {n : Nat} {M : Mem} {q : Int32 → Mem → Prop} (hI : InvN (M.1 136)) (h1 : v1.toInt = n) (hn : n ≤ 16) (h : ∀ x, x.toInt = ((wayN (dvE (M.1 136) v2) n : Nat) : Int) → q x M) : w_X12_oddsOf v1 v2 M q := by
  have one : ∀ z : Int, (if z ≤ 0 then 1 else 0) ≤ 1 := fun z => by split <;> omega
  have hp : 2 ^ n ≤ 2 ^ 16 := Nat.pow_le_pow_right (by decide) hn
  have hp : 2 ^ n ≤ 65536 := hp
  have Es := shl_i h1 (by omega)
  unfold w_X12_oddsOf w_X12_oddsOf_l5
  refine lfp_for (i0 := 0) (n := n) (fun (k : Nat) (t : Int32 × Int32 × Mem) => t.2.1.toInt = (k : Int) ∧ t.2.2 = M ∧ t.1.toInt = dS (M.1 136) k) ?_ (by omega) ⟨rfl, rfl, rfl⟩
  intro P k st hk hJ hP
  obtain ⟨v3, v4, M1⟩ := st
  obtain ⟨a0, b0, c0⟩ := hJ
  have h4 : v4.toInt = (k : Int) := a0
  have hM : M1 = M := b0
  have h3 : v3.toInt = dS (M.1 136) k := c0
  clear a0 b0 c0
  subst hM
  unfold w_X12_oddsOf_l5F
  dsimp only
  rw [le_i, h1, h4]
  refine ⟨fun z => ?_, fun z => ?_⟩
  · have ek : k = n := by omega
    subst ek
    clear P hP
    unfold w_X12_oddsOf_l37
    refine lfp_for (i0 := 0) (n := 2 ^ k) (fun (x : Nat) (t : Int32 × Int32 × Mem) => t.2.1.toInt = (x : Int) ∧ t.2.2 = M1 ∧ t.1.toInt = ((sumF (fun y => ssum (dvE (M1.1 136) v2) y k) (fun z => if z ≤ 0 then 1 else 0) x : Nat) : Int)) ?_ (Nat.zero_le _) ⟨rfl, rfl, rfl⟩
    intro P x st hx hJ hP
    obtain ⟨v4', v5, M2⟩ := st
    obtain ⟨a0, b0, c0⟩ := hJ
    have h5 : v5.toInt = (x : Int) := a0
    have hM : M2 = M1 := b0
    have hw : v4'.toInt = ((sumF (fun y => ssum (dvE (M1.1 136) v2) y k) (fun z => if z ≤ 0 then 1 else 0) x : Nat) : Int) := c0
    clear a0 b0 c0
    subst hM
    unfold w_X12_oddsOf_l37F
    dsimp only
    rw [le_i, Es, h5]
    refine ⟨fun z2 => ?_, fun z2 => ?_⟩
    · have ex : x = 2 ^ k := by omega
      refine h v4' ?_
      rw [hw, ex, ssum_SL]
      rfl
    · have hxl : x < 2 ^ k := by omega
      unfold w_X12_oddsOf_l51
      refine lfp_for (i0 := 0) (n := k) (fun (j : Nat) (t : Int32 × Int32 × Mem) => t.2.1.toInt = (j : Int) ∧ t.2.2 = M2 ∧ t.1.toInt = dD (M2.1 136) x j) ?_ (by omega) ⟨rfl, rfl, rfl⟩
      intro P' j st hj hJ hP'
      obtain ⟨v6, v7, M3⟩ := st
      obtain ⟨a0, b0, c0⟩ := hJ
      have h7 : v7.toInt = (j : Int) := a0
      have hM : M3 = M2 := b0
      have h6 : v6.toInt = dD (M2.1 136) x j := c0
      clear a0 b0 c0
      subst hM
      unfold w_X12_oddsOf_l51F w_X12_oddsOf_b130 w_X12_oddsOf_b126 w_X12_oddsOf_b131 w_X12_oddsOf_b96
      dsimp only
      rw [le_i, h1, h7, lt_i, lt_i, h3, h6, bit_i h7, i_nat h5, bitS_n (by omega) (by omega)]
      refine ⟨fun z3 => ?_, fun z3 => ?_⟩
      · have ej : j = k := by omega
        subst ej
        have dd := dD_s (N := M3.1 136) (v := v2) (x := x) j
        have sb := sumF_1 (f := fun y => ssum (dvE (M3.1 136) v2) y j) one x
        have next : ∀ d : Int32, d.toInt = ((if ssum (dvE (M3.1 136) v2) x j ≤ 0 then 1 else 0 : Nat) : Int) → ∀ x1 : Int32, x1 = v4' + d → ∀ x2 : Int32, x2 = Int32.ofNat x + 1 → P (x1, x2, M3) := fun d hd x1 ex1 x2 ex2 => by
          refine hP (x1, x2, M3) hxl ⟨?_, rfl, ?_⟩
          · show x2.toInt = ((x + 1 : Nat) : Int)
            rw [ex2]; exact ix_a (ti_ofNat (by omega)) rfl (by omega)
          · show x1.toInt = ((sumF (fun y => ssum (dvE (M3.1 136) v2) y j) (fun z => if z ≤ 0 then 1 else 0) (x + 1) : Nat) : Int)
            rw [ex1, sumF]
            have : (if ssum (dvE (M3.1 136) v2) x j ≤ 0 then 1 else 0) ≤ 1 := one _
            exact ix_a hw hd (by omega)
        refine ⟨fun v0 => ⟨fun k3 => next 0 ?_, fun k3 => next 1 ?_⟩, fun v0 => ⟨fun k3 => next 0 ?_, fun k3 => next 1 ?_⟩⟩
        · rw [if_pos v0] at dd; rw [if_neg (by omega)]; rfl
        · rw [if_pos v0] at dd; rw [if_pos (by omega)]; rfl
        · rw [if_neg v0] at dd; rw [if_neg (by omega)]; rfl
        · rw [if_neg v0] at dd; rw [if_pos (by omega)]; rfl
      · have E := ix_a (e := (4146 : Int32)) (a := 4146) rfl h7 (by omega)
        rw [i_of E]
        have b := d_bd hI (k := j) (by omega)
        have bs := (dS_bd hI (x := x) j (by omega)).2
        have next : ∀ d : Int32, d.toInt = (if x.testBit j = true then -(M3.1 136 (4146 + j)).toInt else (M3.1 136 (4146 + j)).toInt) → ∀ x3 : Int32, x3 = v6 + d → ∀ x4 : Int32, x4 = v7 + 1 → P' (x3, x4, M3) := fun d hd x3 e3 x4 e4 => by
          refine hP' (x3, x4, M3) (by omega) ⟨?_, rfl, ?_⟩
          · show x4.toInt = ((j + 1 : Nat) : Int)
            rw [e4]; exact ix_a h7 rfl (by omega)
          · show x3.toInt = dD (M3.1 136) x (j + 1)
            rw [e3, dD, ← hd, ← h6]
            have hd2 : -1000000 ≤ d.toInt ∧ d.toInt ≤ 1000000 := by rw [hd]; split <;> omega
            exact ti_add (by omega) (by omega)
        refine ⟨fun nb => ⟨vp_of E (by omega), next _ ?_⟩, fun hb => ⟨vp_of E (by omega), next _ ?_⟩⟩
        · rw [if_neg nb]
        · rw [if_pos hb, ti_neg (by omega)]
  · have E := ix_a (e := (4146 : Int32)) (a := 4146) rfl h4 (by omega)
    rw [i_of E]
    have b := d_bd hI (k := k) (by omega)
    have bs := (dS_bd hI (x := 0) k (by omega)).1
    refine ⟨vp_of E (by omega), fun x15 e15 x16 e16 => ?_⟩
    refine hP (x15, x16, M1) (by omega) ⟨?_, rfl, ?_⟩
    · show x16.toInt = ((k + 1 : Nat) : Int)
      rw [e16]; exact ix_a h4 rfl (by omega)
    · show x15.toInt = dS (M1.1 136) (k + 1)
      rw [e15, dS, ← h3]
      exact ti_add (by omega) (by omega)

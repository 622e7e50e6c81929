/-! build -/
theorem i_nat {a : Int32} {n : Nat} (h : a.toInt = n) : a = Int32.ofNat n := by
  have := i_hi a
  refine eq_i.mpr ?_
  rw [ti_ofNat (by omega), h]
def bitS (v : Int32) (i : Nat) : Prop := ((v >>> (Int32.ofNat i &&& 31)) &&& 1) = 1
theorem bit_i {v a : Int32} {i : Nat} (h : a.toInt = i) : (((v >>> (a &&& 31)) &&& (1 : Int32)) = (1 : Int32)) = bitS v i := by rw [i_nat h]; rfl
theorem shl_n : ∀ n, n < 31 → ((1 : Int32) <<< (Int32.ofNat n &&& 31)).toInt = ((2 ^ n : Nat) : Int) := by decide +kernel
theorem shl_i {a : Int32} {n : Nat} (h : a.toInt = n) (hn : n < 31) : ((1 : Int32) <<< (a &&& 31)).toInt = ((2 ^ n : Nat) : Int) := by rw [i_nat h]; exact shl_n n hn
theorem shl_64 : ∀ n, n < 40 → ((1 : Int64) <<< ((Int32.ofNat n).toInt64 &&& 63)).toBitVec = BitVec.twoPow 64 n := by decide +kernel
def tb (x : Int64) (t : Nat) : Bool := x.toBitVec.getLsbD t
theorem tb_or {x y : Int64} {t : Nat} : tb (x ||| y) t = (tb x t || tb y t) := by
  unfold tb
  rw [Int64.toBitVec_or, BitVec.getLsbD_or]
theorem tb_sh {a : Int32} {n t : Nat} (h : a.toInt = n) (hn : n < 40) (ht : t < 64) : tb ((1 : Int64) <<< (a.toInt64 &&& 63)) t = decide (t = n) := by
  unfold tb
  rw [i_nat h, shl_64 n hn, BitVec.getLsbD_twoPow]
  by_cases e : t = n
  · subst e; simp; omega
  · have : ¬ n = t := fun x => e x.symm
    simp [e, this]
theorem tb_and {x : Int64} {a : Int32} {n : Nat} (h : a.toInt = n) (hn : n < 40) : ((x &&& ((1 : Int64) <<< (a.toInt64 &&& 63))) = 0) ↔ tb x n = false := by
  unfold tb
  have e : (x &&& ((1 : Int64) <<< (a.toInt64 &&& 63))).toBitVec = if x.toBitVec.getLsbD n then BitVec.twoPow 64 n else 0#64 := by
    rw [Int64.toBitVec_and, i_nat h, shl_64 n hn, BitVec.and_twoPow]
  constructor
  · intro z
    rw [z] at e
    by_cases k : x.toBitVec.getLsbD n = true
    · rw [if_pos k] at e
      have := congrArg (fun b => b.getLsbD n) e
      simp [BitVec.getLsbD_twoPow] at this
      omega
    · simpa using k
  · intro z
    rw [z] at e
    have : (x &&& ((1 : Int64) <<< (a.toInt64 &&& 63))).toBitVec = (0 : Int64).toBitVec := by rw [e]; rfl
    exact Int64.toBitVec_inj.mp this
abbrev fitK (N : Nat → Int32) (p ch : Int32) (k : Nat) : Prop := N (966 + 6 * k) = p ∧ ∀ j, j < k → bitS ch j → ¬ N (966 + 6 * j + 1) = N (966 + 6 * k + 1)
def fitsN (N : Nat → Int32) (p ch : Int32) : Prop := ∀ k : Nat, (k : Int) < (N 4211).toInt → bitS ch k → fitK N p ch k
theorem s_fits {p ch : Int32} {M : Mem} {N : Nat → Int32} {q : Int32 → Mem → Prop} (hR : Rep 1 N M.1) (hI : InvN N) (h1 : fitsN N p ch → q 1 M) (h0 : ¬ fitsN N p ch → q 0 M) : w_X6_fits 2 p ch M q := by
  have i1 : 0 ≤ (N 4211).toInt ∧ (N 4211).toInt ≤ 10 := hI.1 4211 (by decide)
  unfold w_X6_fits w_X6_fits_l5
  refine lfp_for (i0 := 0) (n := (N 4211).toInt.toNat) (fun (i : Nat) (s : Int64 × Int32 × Mem) => s.2.1.toInt = (i : Int) ∧ s.2.2 = M ∧ (∀ k, k < i → bitS ch k → fitK N p ch k) ∧ ∀ t, t < 40 → (tb s.1 t = true ↔ ∃ j, j < i ∧ bitS ch j ∧ (N (966 + 6 * j + 1)).toInt = (t : Int))) ?_ (by omega) ⟨rfl, rfl, fun t ht => absurd ht (by omega), fun t ht => ⟨fun x => ?_, fun ⟨j, hj, _⟩ => absurd hj (by omega)⟩⟩
  · intro P i st hi hJ hP
    obtain ⟨tk, a, M1⟩ := st
    obtain ⟨ha, hM, hN, hT⟩ := hJ
    have ha : a.toInt = i := ha
    have hM : M1 = M := hM
    subst hM
    have hT : ∀ t, t < 40 → (tb tk t = true ↔ ∃ j, j < i ∧ bitS ch j ∧ (N (966 + 6 * j + 1)).toInt = (t : Int)) := hT
    unfold w_X6_fits_l5F w_X6_fits_b62
    dsimp only
    rw [rc1 hR, bit_i ha]
    refine ⟨fun z => ?_, fun z => ⟨fun nb x ex => ?_, fun hb => ?_⟩⟩
    · rw [le_i] at z
      exact h1 (fun k hk => hN k (by omega))
    · rw [le_i] at z
      refine hP (tk, x, M1) (by omega) ⟨?_, rfl, fun k hk hb => ?_, fun t ht => ?_⟩
      · show x.toInt = ((i + 1 : Nat) : Int)
        rw [ex]; exact ix_a ha rfl (by omega)
      · by_cases e : k = i
        · subst e; exact absurd hb nb
        · exact hN k (by omega) hb
      · refine (hT t ht).trans ⟨fun ⟨j, hj, x1, x2⟩ => ⟨j, by omega, x1, x2⟩, fun ⟨j, hj, x1, x2⟩ => ⟨j, ?_, x1, x2⟩⟩
        by_cases e : j = i
        · subst e; exact absurd x1 nb
        · omega
    · rw [le_i] at z
      have hl : 0 ≤ (N (966 + 6 * i + 1)).toInt ∧ (N (966 + 6 * i + 1)).toInt ≤ 39 := by
        have := hI.1 (966 + 6 * i + 1) (by omega)
        rw [rg_cl (by omega)] at this
        exact this
      rw [i_of ha, show M1.1 (2 + 4) i = N (966 + 6 * i + 1) from rd_cl hR (by omega), show M1.1 (2 + 3) i = N (966 + 6 * i) from rd_cp hR (by omega)]
      have Z : ∀ t, t < 40 → (tb tk t = false ↔ ¬ ∃ j, j < i ∧ bitS ch j ∧ (N (966 + 6 * j + 1)).toInt = (t : Int)) := fun t ht => by
        rw [← hT t ht]; simp
      have el := ix_n hl.1
      refine ⟨vp_of ha (by omega), fun x5 e5 => ⟨vp_of ha (by omega), fun n => ?_, fun k => ⟨fun w x9 e9 x ex => ?_, fun w => ?_⟩⟩⟩
      · exact h0 (fun f => n (f i (by omega) hb).1)
      · rw [e5, tb_and el (by omega), Z _ (by omega)] at w
        have fk : fitK N p ch i := ⟨k, fun j hj hbj e => w ⟨j, hj, hbj, by rw [e]; omega⟩⟩
        refine hP (x9, x, M1) (by omega) ⟨?_, rfl, fun k hk hb => ?_, fun t ht => ?_⟩
        · show x.toInt = ((i + 1 : Nat) : Int)
          rw [ex]; exact ix_a ha rfl (by omega)
        · by_cases e : k = i
          · subst e; exact fk
          · exact hN k (by omega) hb
        · show tb x9 t = true ↔ _
          rw [e9, tb_or, e5, tb_sh el (by omega) (by omega)]
          constructor
          · intro y
            rw [Bool.or_eq_true] at y
            rcases y with y1 | y2
            · obtain ⟨j, hj, x1, x2⟩ := (hT t ht).mp y1
              exact ⟨j, by omega, x1, x2⟩
            · have y3 := of_decide_eq_true y2
              exact ⟨i, by omega, hb, by omega⟩
          · rintro ⟨j, hj, x1, x2⟩
            by_cases e : j = i
            · subst e
              have : t = (N (966 + 6 * j + 1)).toInt.toNat := by omega
              simp [this]
            · have := (hT t ht).mpr ⟨j, by omega, x1, x2⟩
              simp [this]
      · refine h0 (fun f => w ?_)
        rw [e5, tb_and el (by omega), Z _ (by omega)]
        rintro ⟨j, hj, x1, x2⟩
        exact (f i (by omega) hb).2 j hj x1 (eq_i.mpr (by omega))
  · have : tb (0 : Int64) t = false := by unfold tb; simp
    have x : tb (0 : Int64) t = true := x
    rw [this] at x
    exact absurd x (by decide)

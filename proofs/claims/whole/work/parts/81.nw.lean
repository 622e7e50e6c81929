/-! odds -/
theorem dv_e {M : Mem} {N : Nat → Int32} (hR : Rep 1 N M.1) (hI : InvN N) {v : Int32} {k : Nat} (hk : k < 16) : (M.1 13 k * (if v = 0 then 1 else -1)).toInt = dvE N v k ∧ -1000000 ≤ dvE N v k ∧ dvE N v k ≤ 1000000 := by
  have b := d_bd hI hk
  have o1 : (1 : Int32).toInt = 1 := rfl
  have om : (-1 : Int32).toInt = -1 := rfl
  rw [rd_diff hR hk]
  unfold dvE
  by_cases h : v = 0
  · rw [if_pos h, if_pos h]
    refine ⟨?_, b⟩
    rw [ti_mul (by rw [o1]; omega) (by rw [o1]; omega), o1]
    omega
  · rw [if_neg h, if_neg h]
    refine ⟨?_, by omega⟩
    rw [ti_mul (by rw [om]; omega) (by rw [om]; omega), om]
    omega
theorem fq_ways {M M' : Mem} (h1 : ∀ a, (a < 49 ∨ 52 ≤ a) → M'.1 a = M.1 a) (h2 : M'.2 = M.2) : FQ M M' := ⟨fun a ha => h1 a (by omega), fun a _ => by rw [h2]⟩
def spOdds (w : Int32) (N : Nat → Int32) : Int32 := if okI w 2 then Int32.ofNat (wayN (dvE N (if w = 1 then 1 else 0)) (N 4215).toInt.toNat) else -2
theorem c_odds {w : Int32} {M : Mem} {N : Nat → Int32} {q : Int32 → Mem → Prop} (hR : Rep 1 N M.1) (hI : InvN N) (h : ∀ M', FQ M M' → q (spOdds w N) M') : w_X11_odds w M q := by
  have i5 : 0 ≤ (N 4215).toInt ∧ (N 4215).toInt ≤ 16 := hI.1 4215 (by decide)
  have f2 : (2 : Int32).toInt = 2 := rfl
  unfold w_X11_odds w_X11_odds_b45
  simp only [e_isOut, tf_z, Classical.not_not, f2, rc5 hR]
  unfold spOdds at h
  have main : okI w 2 → ∀ v : Int32, (if w = 1 then 1 else 0) = v → w_X10_dealt 48 13 (N 4215) v M (fun r2 M1 => q r2 M1) := fun k v ev => by
    rw [if_pos k, ev] at h
    refine s_dealt (e := dvE N v) (ix_n i5.1) (by omega) (fun k hk => dv_e hR hI hk) (fun x M' hx h1 h2 => ?_)
    rw [i_nat hx]
    exact h M' (fq_ways h1 h2)
  refine ⟨fun k => ⟨fun n => main k 0 (if_neg n), fun e => main k 1 (if_pos e)⟩, fun n => ?_⟩
  have := h M (FQ.rf M)
  rw [if_neg n] at this
  exact this
theorem m_odds {w : Int32} {M : Mem} {q : Int32 → Mem → Prop} (hI : InvN (M.1 136)) (h : ∀ M', FM M M' → q (spOdds w (M.1 136)) M') : w_X12_odds w M q := by
  have i5 : 0 ≤ (M.1 136 4215).toInt ∧ (M.1 136 4215).toInt ≤ 16 := hI.1 4215 (by decide)
  have f0 : (0 : Int64).toInt = 0 := rfl
  have f1 : (1 : Int64).toInt = 1 := rfl
  unfold w_X12_odds w_X12_odds_b26
  simp only [e_in, e_many5, tf_z, Classical.not_not, f0, f1]
  have h := h M (FM.rf M)
  unfold spOdds at h
  have main : okI w 2 → ∀ v : Int32, (if w = 1 then 1 else 0) = v → w_X12_oddsOf (M.1 136 4215) v M (fun r2 M1 => q r2 M1) := fun k v ev => by
    rw [if_pos k, ev] at h
    refine s_oddsOf hI (ix_n i5.1) (by omega) (fun x hx => ?_)
    rw [i_nat hx]
    exact h
  refine ⟨fun n => ?_, fun k => ⟨fun n => main (by omega) 0 (if_neg n), fun e => main (by omega) 1 (if_pos e)⟩⟩
  rw [if_neg (by omega)] at h
  exact h

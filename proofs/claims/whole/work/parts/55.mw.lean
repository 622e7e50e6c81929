/-! one step of a run, in the model -/
theorem s_left {x b : Int32} {a i : Nat} {M : Mem} {q : Int32 → Mem → Prop} (hx : x.toInt = a) (hb : b.toInt = i) (h0 : 0 < i) (h : q (irm x b) M) : w_X11_leftOver x b M q := by
  have f0 : (0 : Int32).toInt = 0 := rfl
  have f1 : (1 : Int32).toInt = 1 := rfl
  have E := ix_r hx hb h0
  unfold w_X11_leftOver
  refine ⟨fun _ => ⟨fun z => ?_, fun y ey => ⟨fun _ => by rw [ey]; exact h, fun z => ?_⟩⟩, fun z => ?_⟩
  · rw [z, f0] at hb; omega
  · rw [ey, le_i, E, f0] at z; omega
  · rw [le_i, f1, hb] at z; omega
theorem s_left64 {x : Int32} {M : Mem} {q : Int32 → Mem → Prop} (h : q (x &&& 63) M) : w_X11_leftOver x 64 M q := by
  have f0 : (0 : Int32).toInt = 0 := rfl
  have f64 : (64 : Int32).toInt = 64 := rfl
  have lo := i_lo x
  have hi := i_hi x
  have ea := and63 x
  have et : (irm x 64).toInt = x.toInt.tmod 64 := by
    by_cases e : x.toInt = -2147483648
    · have : x = -2147483648 := eq_i.mpr (e.trans rfl)
      subst this
      decide
    · exact ti_rem (b := 64) (by decide) (by omega)
  have tm : x.toInt.tmod 64 = if 0 ≤ x.toInt then x.toInt % 64 else -((-x.toInt) % 64) := by
    by_cases k : 0 ≤ x.toInt
    · rw [if_pos k, Int.tmod_eq_emod_of_nonneg k]
    · rw [if_neg k]
      have : x.toInt = -(-x.toInt) := by omega
      rw [this, Int.neg_tmod, Int.tmod_eq_emod_of_nonneg (by omega)]
      omega
  unfold w_X11_leftOver
  refine ⟨fun _ => ⟨by decide, fun y ey => ⟨fun z => ?_, fun z => ?_⟩⟩, fun z => absurd (by decide) z⟩
  · rw [ey, le_i, et, tm, f0] at z
    have : y = x &&& 63 := eq_i.mpr (by rw [ey, et, tm, ea]; split <;> split at z <;> omega)
    rw [this]; exact h
  · rw [ey, le_i, et, tm, f0] at z
    have : y + 64 = x &&& 63 := eq_i.mpr (by
      have ht : y.toInt = x.toInt.tmod 64 := by rw [ey, et]
      rw [tm] at ht
      rw [ti_add (by rw [f64]; split at ht <;> omega) (by rw [f64]; split at ht <;> omega), f64, ea]
      split at ht <;> split at z <;> omega)
    rw [this]; exact h
theorem toN_i {a : Int32} {n : Nat} (h : a.toInt = n) : toN a = n := by unfold toN; omega
theorem dm : DC 140 141 142 143 144 := by decide
theorem s_touch12 {mI cell p : Int32} {mn : Nat} {M : Mem} {R Y O G K : Nat → Int32} {q : Mem → Prop} (hI : InvN (M.1 136)) (hm : mI.toInt = mn) (hm4 : mn < 4) (hc : 0 ≤ cell.toInt ∧ cell.toInt ≤ 63) (hp : 0 ≤ p.toInt ∧ p.toInt ≤ 63) (hX : XS 140 141 142 143 144 M (R, Y, O, G, K)) (h : ∀ M', XS 140 141 142 143 144 M' (touF (M.1 136) mn p cell (R, Y, O, G, K)) → FrW 140 141 142 143 144 M M' → q M') : w_X12_touch mI cell p M q := by
  have r8 : 1 ≤ (M.1 136 (1106 + 60 * mn + 8)).toInt ∧ (M.1 136 (1106 + 60 * mn + 8)).toInt ≤ 16 := inv_mach hI hm4 (by decide)
  have r9 : 1 ≤ (M.1 136 (1106 + 60 * mn + 9)).toInt ∧ (M.1 136 (1106 + 60 * mn + 9)).toInt ≤ 8 := inv_mach hI hm4 (by decide)
  have f0 : (0 : Int32).toInt = 0 := rfl
  unfold w_X12_touch
  intro x1 e1
  have E : x1.toInt = ((1106 + 60 * mn : Nat) : Int) := by rw [e1]; exact ix_a rfl (ix_m rfl hm (by omega)) (by omega)
  have E9 := ix_a E (w := 9) (i := 9) rfl (by omega)
  have E8 := ix_a E (w := 8) (i := 8) rfl (by omega)
  rw [i_of E9, i_of E8]
  unfold touF at h
  have Es := ix_a (ix_n hc.1) (ix_n hp.1) (by omega)
  have El := ix_d Es (ix_n (show 0 ≤ (M.1 136 (1106 + 60 * mn + 9)).toInt by omega)) (by omega)
  have Er := ix_r El (ix_n (show 0 ≤ (M.1 136 (1106 + 60 * mn + 8)).toInt by omega)) (by omega)
  have hlt : (cell.toInt.toNat + p.toInt.toNat) / (M.1 136 (1106 + 60 * mn + 9)).toInt.toNat % (M.1 136 (1106 + 60 * mn + 8)).toInt.toNat < 16 := by
    have := Nat.mod_lt ((cell.toInt.toNat + p.toInt.toNat) / (M.1 136 (1106 + 60 * mn + 9)).toInt.toNat) (show 0 < (M.1 136 (1106 + 60 * mn + 8)).toInt.toNat by omega)
    omega
  generalize hrm : (cell.toInt.toNat + p.toInt.toNat) / (M.1 136 (1106 + 60 * mn + 9)).toInt.toNat % (M.1 136 (1106 + 60 * mn + 8)).toInt.toNat = rm at Er hlt
  rw [toN_i Er] at h
  refine ⟨vp_of E9 (by omega), fun z => by rw [z, f0] at r9; omega, fun x4 e4 => ⟨vp_of E8 (by omega), fun z => by rw [z, f0] at r8; omega, fun x7 e7 M8 e8 => ?_⟩⟩
  rw [← e4] at h Er
  have Er7 : x7.toInt = (rm : Int) := by rw [e7]; exact Er
  have eK : M.1 144 1 = K 1 := hX.2.2.2.2 1 (by decide) (by decide)
  have X8 : XS 140 141 142 143 144 M8 (R, Y, O, G, upN K 1 (K 1 + 1)) := by rw [e8, eK]; exact xs_5 dm hX
  have F8 : FrW 140 141 142 143 144 M M8 := by rw [e8]; exact frw_u (by decide) (by decide)
  rw [i_of Er7, X8.2.2.1 rm hlt]
  refine ⟨vp_of Er7 hlt, fun k => ?_, fun n => ⟨vp_of Er7 hlt, fun M12 e12 M13 e13 => ?_⟩⟩
  · rw [if_pos k] at h
    exact h M8 X8 F8
  · rw [if_neg n] at h
    have X12 : XS 140 141 142 143 144 M12 (R, Y, upN O rm x4, G, upN K 1 (K 1 + 1)) := by rw [e12]; exact xs_3 dm X8
    have eK2 : M12.1 144 2 = K 2 := by rw [X12.2.2.2.2 2 (by decide) (by decide)]; exact upN_o (N := K) (i := 2) (j := 1) (v := K 1 + 1) (by decide)
    have X13 : XS 140 141 142 143 144 M13 (R, Y, upN O rm x4, G, upN (upN K 1 (K 1 + 1)) 2 (K 2 + 1)) := by rw [e13, eK2]; exact xs_5 dm X12
    refine h M13 X13 (F8.tr ?_)
    rw [e13, e12]
    exact (frw_u (by decide) (by omega)).tr (frw_u (by decide) (by omega))

/-! the small questions, both sides -/
def tf (c : Prop) [Decidable c] : Int32 := if c then 1 else 0
theorem tf1 {c : Prop} [Decidable c] (h : c) : tf c = 1 := if_pos h
theorem tf0 {c : Prop} [Decidable c] (h : ¬ c) : tf c = 0 := if_neg h
theorem tf_z {c : Prop} [Decidable c] : tf c = 0 ↔ ¬ c := by
  unfold tf
  by_cases h : c <;> simp [h]
theorem s_many {v : Int32} {k : Nat} {M : Mem} {q : Int32 → Mem → Prop} (hv : v.toInt = k) (hk : k < 20) (h : q (M.1 136 (4210 + k)) M) : w_X12_many v M q := by
  have e : ((4210 : Int32) + v).toInt = ((4210 + k : Nat) : Int) := by
    have h1 : (4210 : Int32).toInt = 4210 := rfl
    rw [ti_add (by omega) (by omega)]
    omega
  unfold w_X12_many
  refine ⟨vp_i.mpr ⟨by omega, by omega⟩, ?_⟩
  rw [i_of e]
  exact h
theorem s_in {v : Int32} {lo hi : Int64} {M : Mem} {q : Int32 → Mem → Prop} (h : q (tf (lo.toInt ≤ v.toInt ∧ v.toInt ≤ hi.toInt)) M) : w_X12_in v.toInt64 lo hi M q := by
  have e : v.toInt64.toInt = v.toInt := Int32.toInt_toInt64 v
  unfold w_X12_in
  refine ⟨fun h1 => ?_, fun h1 => ⟨fun h2 => ?_, fun h2 => ?_⟩⟩
  · rw [Int64.lt_iff_toInt_lt, e] at h1
    rw [tf0 (by omega)] at h
    exact h
  · rw [Int64.lt_iff_toInt_lt, e] at h1 h2
    rw [tf0 (by omega)] at h
    exact h
  · rw [Int64.lt_iff_toInt_lt, e] at h1 h2
    rw [tf1 (by omega)] at h
    exact h
theorem s_isOut {n m : Int32} {M : Mem} {q : Int32 → Mem → Prop} (h : q (tf (n.toInt < 0 ∨ m.toInt ≤ n.toInt)) M) : w_X11_isOut n m M q := by
  have z : (0 : Int32).toInt = 0 := rfl
  unfold w_X11_isOut
  refine ⟨fun h1 => ?_, fun h1 => ⟨fun h2 => ?_, fun h2 => ?_⟩⟩
  all_goals simp only [lt_i, le_i, z] at *
  all_goals first | (rw [tf1 (by omega)] at h; exact h) | (rw [tf0 (by omega)] at h; exact h)
theorem s_isBeyond {n a b : Int32} {M : Mem} {q : Int32 → Mem → Prop} (h : q (tf (n.toInt < a.toInt ∨ b.toInt < n.toInt)) M) : w_X11_isBeyond n a b M q := by
  unfold w_X11_isBeyond
  refine ⟨fun h1 => ?_, fun h1 => ⟨fun h2 => ?_, fun h2 => ?_⟩⟩
  all_goals simp only [lt_i, le_i] at *
  all_goals first | (rw [tf1 (by omega)] at h; exact h) | (rw [tf0 (by omega)] at h; exact h)

/-! the small questions as equations -/
theorem tf_n1 {c : Prop} [Decidable c] {q : Int32 → Prop} (h : c) : q (tf c) = q 1 := by rw [tf1 h]
theorem tf_n0 {c : Prop} [Decidable c] {q : Int32 → Prop} (h : ¬ c) : q (tf c) = q 0 := by rw [tf0 h]
theorem bz_tf {c : Prop} [Decidable c] : bz (tf c) := by
  by_cases h : c
  · rw [tf1 h]; exact Or.inr rfl
  · rw [tf0 h]; exact Or.inl rfl
theorem bz_a {c : Prop} [Decidable c] {A : Prop} : (bz (tf c) ∧ A) = A := propext ⟨fun h => h.2, fun h => ⟨bz_tf, h⟩⟩
/-- the same truth -/
theorem tf_c {c d : Prop} [Decidable c] [Decidable d] (h : c ↔ d) : tf c = tf d := by
  by_cases k : d
  · rw [tf1 k, tf1 (h.mpr k)]
  · rw [tf0 k, tf0 (fun x => k (h.mp x))]
abbrev okI (n : Int32) (m : Int) : Prop := 0 ≤ n.toInt ∧ n.toInt < m
abbrev okB (n : Int32) (a b : Int) : Prop := a ≤ n.toInt ∧ n.toInt ≤ b
theorem e_isOut {n m : Int32} {M : Mem} {q : Int32 → Mem → Prop} : w_X11_isOut n m M q = q (tf (¬ okI n m.toInt)) M := by
  have z : (0 : Int32).toInt = 0 := rfl
  unfold w_X11_isOut w_X11_isOut_b9
  simp only [lt_i, z]
  by_cases h : okI n m.toInt
  · rw [tf0 (fun x => x h)]
    have h1 : ¬ n.toInt < 0 := by omega
    simp only [h1, h.2, false_implies, true_implies, not_true_eq_false, not_false_eq_true, true_and, and_true]
  · rw [tf1 h]
    by_cases h1 : n.toInt < 0
    · simp only [h1, false_implies, true_implies, not_true_eq_false, and_true]
    · have h2 : ¬ n.toInt < m.toInt := by omega
      simp only [h1, h2, false_implies, true_implies, not_false_eq_true, true_and]
theorem e_isBeyond {n a b : Int32} {M : Mem} {q : Int32 → Mem → Prop} : w_X11_isBeyond n a b M q = q (tf (¬ okB n a.toInt b.toInt)) M := by
  refine propext ⟨fun h => ?_, fun h => s_isBeyond (by rw [tf_c (d := ¬ okB n a.toInt b.toInt) (by omega)]; exact h)⟩
  unfold w_X11_isBeyond at h
  by_cases k : okB n a.toInt b.toInt
  · rw [tf0 (fun x => x k)]
    simp only [lt_i, le_i] at h
    first | exact (h.2 (by omega)).2 (by omega) | exact (h.2 (by omega)).1 (by omega)
  · rw [tf1 k]
    simp only [lt_i, le_i] at h
    by_cases k1 : n.toInt < a.toInt
    · exact h.1 k1
    · first | exact (h.2 (by omega)).1 (by omega) | exact (h.2 (by omega)).2 (by omega)
theorem e_isNotSmall {n : Int32} {M : Mem} {q : Int32 → Mem → Prop} : w_X11_isNotSmall n M q = q (tf (¬ okB n (-1000) 1000)) M := by
  unfold w_X11_isNotSmall
  rw [e_isBeyond, bz_a]
  rfl
theorem e_isNoHour {n : Int32} {M : Mem} {q : Int32 → Mem → Prop} : w_X11_isNoHour n M q = q (tf (¬ okB n 0 23)) M := by
  unfold w_X11_isNoHour
  rw [e_isBeyond, bz_a]
  rfl
theorem e_in {v : Int32} {lo hi : Int64} {M : Mem} {q : Int32 → Mem → Prop} : w_X12_in v.toInt64 lo hi M q = q (tf (okB v lo.toInt hi.toInt)) M := by
  have e : v.toInt64.toInt = v.toInt := Int32.toInt_toInt64 v
  unfold w_X12_in
  simp only [Int64.lt_iff_toInt_lt, e]
  by_cases h : okB v lo.toInt hi.toInt
  · rw [tf1 h]
    have h1 : ¬ v.toInt < lo.toInt := by omega
    have h2 : ¬ hi.toInt < v.toInt := by omega
    simp only [h1, h2, false_implies, true_implies, not_false_eq_true, true_and]
  · rw [tf0 h]
    by_cases h1 : v.toInt < lo.toInt
    · simp only [h1, false_implies, true_implies, not_true_eq_false, and_true]
    · have h2 : hi.toInt < v.toInt := by omega
      simp only [h1, h2, false_implies, true_implies, not_true_eq_false, not_false_eq_true, true_and, and_true]
theorem e_isMachine {v : Int32} {M : Mem} {q : Int32 → Mem → Prop} : w_X12_isMachine v M q = q (tf (okB v 0 3)) M := by
  unfold w_X12_isMachine
  rw [e_in, bz_a]
  rfl
theorem e_isStart {v : Int32} {M : Mem} {q : Int32 → Mem → Prop} : w_X12_isStart v M q = q (tf (okB v (-1000) 1000)) M := by
  unfold w_X12_isStart
  rw [e_in, bz_a]
  rfl
theorem e_isCounter {v : Int32} {M : Mem} {q : Int32 → Mem → Prop} : w_X12_isCounter v M q = q (tf (okB v 0 4)) M := by
  unfold w_X12_isCounter
  rw [e_in, bz_a]
  rfl
theorem e_many {v : Int32} {k : Nat} {M : Mem} {q : Int32 → Mem → Prop} (hv : v.toInt = k) (hk : k < 20) : w_X12_many v M q = q (M.1 136 (4210 + k)) M := by
  have e : ((4210 : Int32) + v).toInt = ((4210 + k : Nat) : Int) := ix_a rfl hv (by omega)
  unfold w_X12_many
  rw [i_of e]
  exact propext ⟨fun h => h.2, fun h => ⟨vp_of e (by omega), h⟩⟩
theorem e_many0 {M : Mem} {q : Int32 → Mem → Prop} : w_X12_many (0 : Int32) M q = q (M.1 136 4210) M := e_many (k := 0) rfl (by decide)
theorem e_many1 {M : Mem} {q : Int32 → Mem → Prop} : w_X12_many (1 : Int32) M q = q (M.1 136 4211) M := e_many (k := 1) rfl (by decide)
theorem e_many2 {M : Mem} {q : Int32 → Mem → Prop} : w_X12_many (2 : Int32) M q = q (M.1 136 4212) M := e_many (k := 2) rfl (by decide)
theorem e_many3 {M : Mem} {q : Int32 → Mem → Prop} : w_X12_many (3 : Int32) M q = q (M.1 136 4213) M := e_many (k := 3) rfl (by decide)
theorem e_many4 {M : Mem} {q : Int32 → Mem → Prop} : w_X12_many (4 : Int32) M q = q (M.1 136 4214) M := e_many (k := 4) rfl (by decide)
theorem e_many5 {M : Mem} {q : Int32 → Mem → Prop} : w_X12_many (5 : Int32) M q = q (M.1 136 4215) M := e_many (k := 5) rfl (by decide)
theorem e_many6 {M : Mem} {q : Int32 → Mem → Prop} : w_X12_many (6 : Int32) M q = q (M.1 136 4216) M := e_many (k := 6) rfl (by decide)
theorem e_many7 {M : Mem} {q : Int32 → Mem → Prop} : w_X12_many (7 : Int32) M q = q (M.1 136 4217) M := e_many (k := 7) rfl (by decide)
theorem e_many8 {M : Mem} {q : Int32 → Mem → Prop} : w_X12_many (8 : Int32) M q = q (M.1 136 4218) M := e_many (k := 8) rfl (by decide)
theorem e_many9 {M : Mem} {q : Int32 → Mem → Prop} : w_X12_many (9 : Int32) M q = q (M.1 136 4219) M := e_many (k := 9) rfl (by decide)
theorem e_has {v w : Int32} {k : Nat} {M : Mem} {q : Int32 → Mem → Prop} (hv : v.toInt = k) (hk : k < 20) (h0 : 0 ≤ (M.1 136 (4210 + k)).toInt) : w_X12_has v w M q = q (tf (okI w (M.1 136 (4210 + k)).toInt)) M := by
  have o : (1 : Int32).toInt = 1 := rfl
  have z : (0 : Int64).toInt = 0 := rfl
  unfold w_X12_has
  rw [e_many hv hk, e_in, bz_a, Int32.toInt_toInt64]
  have hh := i_hi (M.1 136 (4210 + k))
  rw [ti_sub (by omega) (by omega)]
  rw [tf_c (d := okI w (M.1 136 (4210 + k)).toInt) (by omega)]
theorem e_has0 {w : Int32} {M : Mem} {q : Int32 → Mem → Prop} (h0 : 0 ≤ (M.1 136 4210).toInt) : w_X12_has (0 : Int32) w M q = q (tf (okI w (M.1 136 4210).toInt)) M := e_has (k := 0) rfl (by decide) h0
theorem e_has2 {w : Int32} {M : Mem} {q : Int32 → Mem → Prop} (h0 : 0 ≤ (M.1 136 4212).toInt) : w_X12_has (2 : Int32) w M q = q (tf (okI w (M.1 136 4212).toInt)) M := e_has (k := 2) rfl (by decide) h0
theorem e_has3 {w : Int32} {M : Mem} {q : Int32 → Mem → Prop} (h0 : 0 ≤ (M.1 136 4213).toInt) : w_X12_has (3 : Int32) w M q = q (tf (okI w (M.1 136 4213).toInt)) M := e_has (k := 3) rfl (by decide) h0
theorem e_has4 {w : Int32} {M : Mem} {q : Int32 → Mem → Prop} (h0 : 0 ≤ (M.1 136 4214).toInt) : w_X12_has (4 : Int32) w M q = q (tf (okI w (M.1 136 4214).toInt)) M := e_has (k := 4) rfl (by decide) h0
abbrev okSpot (N : Nat → Int32) (b m s : Int32) : Prop := okI b (N 4212).toInt ∧ okI m 4 ∧ okI s (N 4213).toInt
theorem e_isThere {b m s : Int32} {M : Mem} {q : Int32 → Mem → Prop} (hI : InvN (M.1 136)) : w_X12_isThere b m s M q = q (tf (okSpot (M.1 136) b m s)) M := by
  have h2 := (show 0 ≤ (M.1 136 4212).toInt from (hI.1 4212 (by decide)).1)
  have h3 := (show 0 ≤ (M.1 136 4213).toInt from (hI.1 4213 (by decide)).1)
  unfold w_X12_isThere
  simp only [e_has2 h2, e_has3 h3, e_isMachine, tf_z, Classical.not_not]
  by_cases k1 : okI b (M.1 136 4212).toInt
  · by_cases k2 : okB m 0 3
    · by_cases k3 : okI s (M.1 136 4213).toInt
      · rw [tf1 (c := okSpot (M.1 136) b m s) ⟨k1, by omega, k3⟩]
        simp only [eq_true k1, eq_true k2, eq_true k3, not_true_eq_false, not_false_eq_true, false_implies, true_implies, true_and, and_true]
      · rw [tf0 (c := okSpot (M.1 136) b m s) (fun x => k3 x.2.2)]
        simp only [eq_true k1, eq_true k2, eq_false k3, not_true_eq_false, not_false_eq_true, false_implies, true_implies, true_and, and_true]
    · rw [tf0 (c := okSpot (M.1 136) b m s) (fun x => k2 (by have := x.2.1; omega))]
      simp only [eq_true k1, eq_false k2, not_true_eq_false, not_false_eq_true, false_implies, true_implies, true_and, and_true]
  · rw [tf0 (c := okSpot (M.1 136) b m s) (fun x => k1 x.1)]
    simp only [eq_false k1, not_true_eq_false, not_false_eq_true, false_implies, true_implies, true_and, and_true]
theorem e_isNoSpot {b m s : Int32} {M : Mem} {N : Nat → Int32} {q : Int32 → Mem → Prop} (hR : Rep 1 N M.1) : w_X11_isNoSpot b m s M q = q (tf (¬ okSpot N b m s)) M := by
  have e1 : M.1 2 7 = N 4212 := rep_at hR (j := 4212) (c := 1) (p := 7) (by decide) rfl ⟨by decide, by decide⟩
  have e2 : M.1 2 10 = N 4213 := rep_at hR (j := 4213) (c := 1) (p := 10) (by decide) rfl ⟨by decide, by decide⟩
  have f4 : (4 : Int32).toInt = 4 := rfl
  unfold w_X11_isNoSpot w_X11_isNoSpot_b42
  simp only [e_isOut, tf_z, Classical.not_not, e1, e2, f4]
  by_cases k1 : okI b (N 4212).toInt
  · by_cases k2 : okI m 4
    · by_cases k3 : okI s (N 4213).toInt
      · rw [tf0 (c := ¬ okSpot N b m s) (fun x => x ⟨k1, k2, k3⟩)]
        simp only [eq_true k1, eq_true k2, eq_true k3, not_true_eq_false, not_false_eq_true, false_implies, true_implies, true_and, and_true]
      · rw [tf1 (c := ¬ okSpot N b m s) (fun x => k3 x.2.2)]
        simp only [eq_true k1, eq_true k2, eq_false k3, not_true_eq_false, not_false_eq_true, false_implies, true_implies, true_and, and_true]
    · rw [tf1 (c := ¬ okSpot N b m s) (fun x => k2 x.2.1)]
      simp only [eq_true k1, eq_false k2, not_true_eq_false, not_false_eq_true, false_implies, true_implies, true_and, and_true]
  · rw [tf1 (c := ¬ okSpot N b m s) (fun x => k1 x.1)]
    simp only [eq_false k1, not_true_eq_false, not_false_eq_true, false_implies, true_implies, true_and, and_true]
abbrev okCnt (a b c : Int32) : Prop := okI a 5 ∧ okI b 5 ∧ okI c 5 ∧ a ≠ b ∧ a ≠ c ∧ b ≠ c
theorem e_areCounters {a b c : Int32} {M : Mem} {q : Int32 → Mem → Prop} : w_X12_areCounters a b c M q = q (tf (okCnt a b c)) M := by
  unfold w_X12_areCounters
  simp only [e_isCounter, tf_z, Classical.not_not]
  refine propext ⟨fun h => ?_, fun h => ?_⟩
  · by_cases k : okCnt a b c
    · rw [tf1 k]
      exact ((((((h.2 (by omega)).2 (by omega)).2 (by omega)).2 k.2.2.2.1).2 k.2.2.2.2.1).2 k.2.2.2.2.2)
    · rw [tf0 k]
      by_cases k1 : okB a 0 4
      · by_cases k2 : okB b 0 4
        · by_cases k3 : okB c 0 4
          · have h := ((h.2 k1).2 k2).2 k3
            by_cases k4 : a = b
            · exact h.1 k4
            · by_cases k5 : a = c
              · exact (h.2 k4).1 k5
              · by_cases k6 : b = c
                · exact ((h.2 k4).2 k5).1 k6
                · exact absurd ⟨⟨by omega, by omega⟩, ⟨by omega, by omega⟩, ⟨by omega, by omega⟩, k4, k5, k6⟩ k
          · exact ((h.2 k1).2 k2).1 k3
        · exact (h.2 k1).1 k2
      · exact h.1 k1
  · refine ⟨fun n => ?_, fun k1 => ⟨fun n => ?_, fun k2 => ⟨fun n => ?_, fun k3 => ⟨fun n => ?_, fun k4 => ⟨fun n => ?_, fun k5 => ⟨fun n => ?_, fun k6 => ?_⟩⟩⟩⟩⟩⟩
    · rw [tf0 (fun x => n (by have := x.1; omega))] at h; exact h
    · rw [tf0 (fun x => n (by have := x.2.1; omega))] at h; exact h
    · rw [tf0 (fun x => n (by have := x.2.2.1; omega))] at h; exact h
    · rw [tf0 (fun x => x.2.2.2.1 n)] at h; exact h
    · rw [tf0 (fun x => x.2.2.2.2.1 n)] at h; exact h
    · rw [tf0 (fun x => x.2.2.2.2.2 n)] at h; exact h
    · rw [tf1 ⟨⟨by omega, by omega⟩, ⟨by omega, by omega⟩, ⟨by omega, by omega⟩, k4, k5, k6⟩] at h; exact h
theorem e_areNoCounts {a b c : Int32} {M : Mem} {q : Int32 → Mem → Prop} : w_X11_areNoCounts a b c M q = q (tf (¬ okCnt a b c)) M := by
  have f5 : (5 : Int32).toInt = 5 := rfl
  unfold w_X11_areNoCounts w_X11_areNoCounts_b39
  simp only [e_isOut, tf_z, Classical.not_not, f5]
  refine propext ⟨fun h => ?_, fun h => ?_⟩
  · by_cases k : okCnt a b c
    · rw [tf0 (fun x => x k)]
      exact ((((((h.2 k.1).2 k.2.1).2 k.2.2.1).2 k.2.2.2.1).2 k.2.2.2.2.1).1 k.2.2.2.2.2)
    · rw [tf1 k]
      by_cases k1 : okI a 5
      · by_cases k2 : okI b 5
        · by_cases k3 : okI c 5
          · have h := ((h.2 k1).2 k2).2 k3
            by_cases k4 : a = b
            · exact h.1 k4
            · by_cases k5 : a = c
              · exact (h.2 k4).1 k5
              · by_cases k6 : b = c
                · exact ((h.2 k4).2 k5).2 k6
                · exact absurd ⟨k1, k2, k3, k4, k5, k6⟩ k
          · exact ((h.2 k1).2 k2).1 k3
        · exact (h.2 k1).1 k2
      · exact h.1 k1
  · refine ⟨fun n => ?_, fun k1 => ⟨fun n => ?_, fun k2 => ⟨fun n => ?_, fun k3 => ⟨fun n => ?_, fun k4 => ⟨fun n => ?_, fun k5 => ⟨fun k6 => ?_, fun n => ?_⟩⟩⟩⟩⟩⟩
    · rw [tf1 (c := ¬ okCnt a b c) (fun x => n x.1)] at h; exact h
    · rw [tf1 (c := ¬ okCnt a b c) (fun x => n x.2.1)] at h; exact h
    · rw [tf1 (c := ¬ okCnt a b c) (fun x => n x.2.2.1)] at h; exact h
    · rw [tf1 (c := ¬ okCnt a b c) (fun x => x.2.2.2.1 n)] at h; exact h
    · rw [tf1 (c := ¬ okCnt a b c) (fun x => x.2.2.2.2.1 n)] at h; exact h
    · rw [tf0 (fun x => x ⟨k1, k2, k3, k4, k5, k6⟩)] at h; exact h
    · rw [tf1 (c := ¬ okCnt a b c) (fun x => x.2.2.2.2.2 n)] at h; exact h

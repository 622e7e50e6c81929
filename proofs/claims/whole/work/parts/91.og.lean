/-! a row that numbers are put into in order -/
theorem stp_gt {f : Nat → Int32} {v : Int32} : ∀ n i, stp f v n ≤ i → i < n → v.toInt < (f i).toInt := by
  intro n
  induction n with
  | zero => intro i _ hi; omega
  | succ n ih =>
    intro i h1 h2
    unfold stp at h1
    by_cases k : (f n).toInt ≤ v.toInt
    · rw [if_pos k] at h1; omega
    · rw [if_neg k] at h1
      by_cases e : i = n
      · subst e; omega
      · exact ih i h1 (by omega)
theorem stp_at {f : Nat → Int32} {v : Int32} : ∀ n, 0 < stp f v n → (f (stp f v n - 1)).toInt ≤ v.toInt := by
  intro n
  induction n with
  | zero => intro h; exact absurd h (by show ¬ 0 < 0; omega)
  | succ n ih =>
    intro h
    unfold stp at h ⊢
    by_cases k : (f n).toInt ≤ v.toInt
    · rw [if_pos k]; exact k
    · rw [if_neg k] at h ⊢; exact ih h
def srt32 (f : Nat → Int32) (n : Nat) : Prop := ∀ i, i + 1 < n → (f i).toInt ≤ (f (i + 1)).toInt
theorem srt32_le {f : Nat → Int32} {n : Nat} (h : srt32 f n) : ∀ d i, i + d < n → (f i).toInt ≤ (f (i + d)).toInt := by
  intro d
  induction d with
  | zero => intro i _; exact Int.le_refl _
  | succ d ih =>
    intro i hi
    have h1 := ih i (by omega)
    have h2 := h (i + d) (by omega)
    rw [Nat.add_assoc] at h2
    omega
theorem srt_ins {f : Nat → Int32} {n : Nat} {v : Int32} (h : srt32 f n) : srt32 (insF n f v) (n + 1) := by
  intro i hi
  have hle := stp_le (f := f) (v := v) n
  have hgt := stp_gt (f := f) (v := v) n
  have hat := stp_at (f := f) (v := v) n
  unfold insF
  by_cases a : i + 1 < stp f v n
  · rw [if_pos (by omega), if_pos a]; exact h i (by omega)
  · by_cases b : i + 1 = stp f v n
    · rw [if_pos (by omega), if_neg a, if_pos b]
      have := hat (by omega)
      rw [← b, show i + 1 - 1 = i from by omega] at this
      exact this
    · by_cases c : i = stp f v n
      · rw [if_neg (by omega), if_pos c, if_neg a, if_neg b, show i + 1 - 1 = i from by omega]
        have := hgt i (by omega) (by omega)
        omega
      · rw [if_neg (by omega), if_neg c, if_neg a, if_neg b, show i + 1 - 1 = i - 1 + 1 from by omega]
        exact h (i - 1) (by omega)
/-- the first and the last of such a row -/
theorem ins_first {f : Nat → Int32} {n : Nat} {v : Int32} (h : srt32 f n) (h0 : 0 < n) : (insF n f v 0).toInt = if v.toInt < (f 0).toInt then v.toInt else (f 0).toInt := by
  have hgt := stp_gt (f := f) (v := v) n
  have hat := stp_at (f := f) (v := v) n
  unfold insF
  by_cases a : 0 < stp f v n
  · have hle := stp_le (f := f) (v := v) n
    have h1 := hat a
    have h2 := srt32_le h (stp f v n - 1) 0 (by omega)
    rw [Nat.zero_add] at h2
    rw [if_pos a, if_neg (by omega)]
  · rw [if_neg a, if_pos (by omega), if_pos (hgt 0 (by omega) h0)]
theorem ins_last {f : Nat → Int32} {n : Nat} {v : Int32} (h0 : 0 < n) : (insF n f v n).toInt = if (f (n - 1)).toInt ≤ v.toInt then v.toInt else (f (n - 1)).toInt := by
  have hle := stp_le (f := f) (v := v) n
  have hgt := stp_gt (f := f) (v := v) n
  have hat := stp_at (f := f) (v := v) n
  unfold insF
  by_cases a : n = stp f v n
  · have := hat (by omega)
    rw [← a] at this
    rw [if_neg (by omega), if_pos a, if_pos this]
  · have := hgt (n - 1) (by omega) (by omega)
    rw [if_neg (by omega), if_neg a, if_neg (by omega)]
theorem ins_one {f : Nat → Int32} {v : Int32} : insF 0 f v 0 = v := by
  unfold insF stp
  rw [if_neg (by omega), if_pos rfl]
/-- counts of a plain run -/
theorem plC_bd {N : Nat → Int32} (hI : InvN N) {m sn pn : Nat} {ch : Int32} (hm : m < 4) (hp : pn < 6) {j : Nat} (hj : j < 5) : 0 ≤ (plC N m sn pn ch j).toInt ∧ (plC N m sn pn ch j).toInt ≤ 2000 := by
  have b := go_bd (p := 0) hI hm (fun l hl => inv_asm (ch := ch) hI hp l hl) 2000 0 0 (R0 N sn, fun _ => 0, fun _ => -1, fun _ => 0, fun _ => 0) 0 (by decide) (fun j _ _ => by show 0 ≤ (0 : Int32).toInt ∧ (0 : Int32).toInt ≤ _; decide) (by decide) (by decide)
  have b : (plG N m sn pn ch).2.2.2 ≤ 2000 ∧ KB (plG N m sn pn ch).2.2.1.2.2.2.2 (2000 - (plG N m sn pn ch).2.2.2) ∧ 0 ≤ (plG N m sn pn ch).2.1.toInt ∧ (plG N m sn pn ch).2.1.toInt ≤ 100000 := b
  unfold plC cntF
  by_cases j0 : j = 0
  · rw [if_pos j0, ti_ofNat (by omega)]; omega
  · rw [if_neg j0, if_neg (by omega)]
    have := b.2.1 j (by omega) hj
    omega

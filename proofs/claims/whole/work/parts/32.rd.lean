/-! reading the class by the model's row -/
section RD
variable {M : Mem} {N : Nat → Int32}
theorem rc0 (hR : Rep 1 N M.1) : M.1 2 0 = N 4210 := rep_at hR (j := 4210) (c := 1) (p := 0) (by decide) rfl ⟨by decide, by decide⟩
theorem rc1 (hR : Rep 1 N M.1) : M.1 2 3 = N 4211 := rep_at hR (j := 4211) (c := 1) (p := 3) (by decide) rfl ⟨by decide, by decide⟩
theorem rc2 (hR : Rep 1 N M.1) : M.1 2 7 = N 4212 := rep_at hR (j := 4212) (c := 1) (p := 7) (by decide) rfl ⟨by decide, by decide⟩
theorem rc3 (hR : Rep 1 N M.1) : M.1 2 10 = N 4213 := rep_at hR (j := 4213) (c := 1) (p := 10) (by decide) rfl ⟨by decide, by decide⟩
theorem rc4 (hR : Rep 1 N M.1) : M.1 1 4 = N 4214 := rep_at hR (j := 4214) (c := 0) (p := 4) (by decide) rfl ⟨by decide, by decide⟩
theorem rc5 (hR : Rep 1 N M.1) : M.1 12 1 = N 4215 := rep_at hR (j := 4215) (c := 11) (p := 1) (by decide) rfl ⟨by decide, by decide⟩
theorem rc6 (hR : Rep 1 N M.1) : M.1 12 3 = N 4216 := rep_at hR (j := 4216) (c := 11) (p := 3) (by decide) rfl ⟨by decide, by decide⟩
theorem rc7 (hR : Rep 1 N M.1) : M.1 1 6 = N 4217 := rep_at hR (j := 4217) (c := 0) (p := 6) (by decide) rfl ⟨by decide, by decide⟩
theorem rc8 (hR : Rep 1 N M.1) : M.1 12 4 = N 4218 := rep_at hR (j := 4218) (c := 11) (p := 4) (by decide) rfl ⟨by decide, by decide⟩
theorem rc9 (hR : Rep 1 N M.1) : M.1 12 5 = N 4219 := rep_at hR (j := 4219) (c := 11) (p := 5) (by decide) rfl ⟨by decide, by decide⟩
theorem px_hi {j : Nat} (h : 1026 ≤ j) : plainIx j := ⟨by omega, by omega⟩
theorem rd_size (hR : Rep 1 N M.1) {p : Nat} (h : p < 6) : M.1 3 p = N (960 + p) := rep_at hR (j := 960 + p) (c := 2) (p := p) (by omega) (loc_size h) ⟨by omega, by omega⟩
theorem rd_cp (hR : Rep 1 N M.1) {p : Nat} (h : p < 10) : M.1 5 p = N (966 + 6 * p) := rep_at hR (c := 4) (p := p) (by omega) (loc_cp h) ⟨by omega, by omega⟩
theorem rd_cl (hR : Rep 1 N M.1) {p : Nat} (h : p < 10) : M.1 6 p = N (966 + 6 * p + 1) := rep_at hR (c := 5) (p := p) (by omega) (loc_cl h) ⟨by omega, by omega⟩
theorem rd_bp (hR : Rep 1 N M.1) {p : Nat} (h : p < 24) : M.1 8 p = N (1026 + 2 * p) := rep_at hR (c := 7) (p := p) (by omega) (loc_bp h) (px_hi (by omega))
theorem rd_bc (hR : Rep 1 N M.1) {p : Nat} (h : p < 24) : M.1 9 p = N (1026 + 2 * p + 1) := rep_at hR (c := 8) (p := p) (by omega) (loc_bc h) (px_hi (by omega))
theorem rd_val (hR : Rep 1 N M.1) {p : Nat} (h : p < 32) : M.1 10 p = N (1074 + p) := rep_at hR (c := 9) (p := p) (by omega) (loc_val h) (px_hi (by omega))
theorem rd_price (hR : Rep 1 N M.1) {m a : Nat} (h : m < 4) (ha : a < 8) : M.1 (1 + (17 + 4 * m)) a = N (1106 + 60 * m + a) := rep_at hR (by omega) (loc_price h ha) (px_hi (by omega))
theorem rd_room (hR : Rep 1 N M.1) {m a : Nat} (h : m < 4) (ha : a < 16) : M.1 (1 + (18 + 4 * m)) a = N (1106 + 60 * m + 20 + a) := rep_at hR (by omega) (loc_room h ha) (px_hi (by omega))
theorem rd_said (hR : Rep 1 N M.1) {m a : Nat} (h : m < 4) (ha : a < 16) : M.1 (1 + (19 + 4 * m)) a = N (1106 + 60 * m + 36 + a) := rep_at hR (by omega) (loc_said h ha) (px_hi (by omega))
theorem rd_mach (hR : Rep 1 N M.1) {m r : Nat} (h : m < 4) (h1 : 8 ≤ r) (h2 : r < 17) : M.1 (1 + (16 + 4 * m)) (mfld r) = N (1106 + 60 * m + r) := rep_at hR (by omega) (loc_mach h h1 h2) (px_hi (by omega))
theorem rd_run (hR : Rep 1 N M.1) {p : Nat} (h : p < 2800) : M.1 15 p = N (1346 + p) := rep_at hR (c := 14) (p := p) (by omega) (loc_run h) (px_hi (by omega))
theorem rd_diff (hR : Rep 1 N M.1) {p : Nat} (h : p < 16) : M.1 13 p = N (4146 + p) := rep_at hR (c := 12) (p := p) (by omega) (loc_diff h) (px_hi (by omega))
theorem rd_look (hR : Rep 1 N M.1) {p : Nat} (h : p < 8) : M.1 14 p = N (4162 + p) := rep_at hR (c := 13) (p := p) (by omega) (loc_look h) (px_hi (by omega))
theorem rd_text (hR : Rep 1 N M.1) {p : Nat} (h : p < 40) : M.1 16 p = N (4170 + p) := rep_at hR (c := 15) (p := p) (by omega) (loc_text h) (px_hi (by omega))
/-! writing: one number in both -/
theorem wr {k j c p : Nat} {v : Int32} (hR : Rep 1 N M.1) (hl : loc j = some (c, p)) (hj : j < 4230) (h : 1026 ≤ j) (hk : k = 1 + c) : Rep 1 (upN N j v) (uI M k p v).1 := by
  subst hk
  exact rep_up hR hj hl (px_hi h)
theorem uI_s {k j : Nat} {v : Int32} : (uI M k j v).1 k j = v := if_pos ⟨rfl, rfl⟩
theorem uI_k {k j a b : Nat} {v : Int32} (h : a ≠ k) : (uI M k j v).1 a b = M.1 a b := if_neg (fun x => h x.1)
theorem uI_j {k j a b : Nat} {v : Int32} (h : b ≠ j) : (uI M k j v).1 a b = M.1 a b := if_neg (fun x => h x.2)
end RD
/-- what a call of the class, of the model comes to -/
def CQ (s : Int32 × (Nat → Int32)) (M : Mem) (q : Int32 → Mem → Prop) : Prop := ∀ M', Rep 1 s.2 M'.1 → FrC M M' → q s.1 M'
def PQ (s : Int32 × (Nat → Int32)) (M : Mem) (q : Int32 → Mem → Prop) : Prop := ∀ M', M'.1 136 = s.2 → FrM M M' → q s.1 M'
theorem cq_0 {r : Int32} {N : Nat → Int32} {M : Mem} {q : Int32 → Mem → Prop} (hR : Rep 1 N M.1) (h : CQ (r, N) M q) : q r M := h M hR (FrC.rf M)
theorem mq_0 {r : Int32} {M : Mem} {q : Int32 → Mem → Prop} (h : PQ (r, M.1 136) M q) : q r M := h M rfl (FrM.rf M)
theorem ite_a {α : Type} {c : Prop} [Decidable c] {a b : α} {P : α → Prop} (h : P (if c then a else b)) (k : c) : P a := by rw [if_pos k] at h; exact h
theorem ite_b {α : Type} {c : Prop} [Decidable c] {a b : α} {P : α → Prop} (h : P (if c then a else b)) (k : ¬ c) : P b := by rw [if_neg k] at h; exact h

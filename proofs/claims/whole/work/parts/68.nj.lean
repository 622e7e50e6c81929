/-! a run does not look at what rooms and guesses the row keeps -/
def agr (m : Nat) (N N1 : Nat → Int32) : Prop := ∀ i, i < 4230 → (i < 1106 + 60 * m + 20 ∨ 1106 + 60 * m + 52 ≤ i) → N1 i = N i
section AGR
variable {N N1 : Nat → Int32} {m : Nat}
theorem asm_cg (h : agr m N N1) {pn : Nat} {ch : Int32} (hp : pn < 6) : ∀ c, c ≤ 10 → asm N1 pn ch c = asm N pn ch c := by
  intro c
  induction c with
  | zero =>
    intro _
    funext j
    unfold asm
    by_cases k : j < 160
    · rw [if_pos k, if_pos k]; exact h _ (by omega) (by omega)
    · rw [if_neg k, if_neg k]
  | succ c ih =>
    intro hc
    have ih := ih (by omega)
    by_cases hb : bitS ch c
    · rw [asm_t hb, asm_t hb, ih, h (966 + 6 * c + 1) (by omega) (by omega)]
      funext j
      unfold ovl
      by_cases k : 4 * toN (N (966 + 6 * c + 1)) ≤ j ∧ j < 4 * toN (N (966 + 6 * c + 1)) + 4
      · rw [if_pos k, if_pos k]; exact h _ (by omega) (by omega)
      · rw [if_neg k, if_neg k]
    · rw [asm_f hb, asm_f hb, ih]
theorem R0_cg (h : agr m N N1) {sn : Nat} (hs : sn < 8) : R0 N1 sn = R0 N sn := by
  funext k
  unfold R0
  by_cases k4 : k < 4
  · rw [if_pos k4, if_pos k4]
  · rw [if_neg k4, if_neg k4]
    by_cases k8 : k < 8
    · rw [if_pos k8, if_pos k8]; exact h _ (by omega) (by omega)
    · rw [if_neg k8, if_neg k8]
theorem mf_cg (h : agr m N N1) (hm : m < 4) {r : Nat} (hr : r < 17) : N1 (1106 + 60 * m + r) = N (1106 + 60 * m + r) := h _ (by omega) (by omega)
theorem step_cg (h : agr m N N1) (hm : m < 4) {p : Int32} {C : Nat → Int32} {l : Nat} {s : SS} : stepF N1 m p C l s = stepF N m p C l s := by
  unfold stepF touF leaF
  rw [mf_cg h hm (r := 8) (by decide), mf_cg h hm (r := 9) (by decide), mf_cg h hm (r := 11) (by decide)]
theorem go_cg (h : agr m N N1) (hm : m < 4) {p : Int32} {C : Nat → Int32} {L : Nat} (hk : ∀ l, l < L → okLine (C (4 * l)) (C (4 * l + 1)) (C (4 * l + 2)) (C (4 * l + 3))) : ∀ f l c s, goF N1 m p C L f l c s = goF N m p C L f l c s := by
  intro f
  induction f with
  | zero => intro l c s; rfl
  | succ f ih =>
    intro l c s
    by_cases k : l < L
    · have hkl := hk l k
      have e : N1 (1106 + 60 * m + toN (C (4 * l))) = N (1106 + 60 * m + toN (C (4 * l))) := mf_cg h hm (by unfold toN; omega)
      rw [goF_step k, goF_step k, step_cg h hm, e, ih]
    · rw [goF_done (by omega), goF_done (by omega)]
theorem tm_cg (h : agr m N N1) (hm : m < 4) {g : Nat × Int32 × SS × Nat} : tmF N1 m g = tmF N m g := by
  unfold tmF
  rw [mf_cg h hm (r := 10) (by decide), mf_cg h hm (r := 12) (by decide)]
theorem plc_cg (h : agr m N N1) (hm : m < 4) {lot : Int32} : plcF N1 m lot = plcF N m lot := by
  unfold plcF
  rw [mf_cg h hm (r := 16) (by decide)]
theorem noi_cg (h : agr m N N1) (hm : m < 4) {lot hour : Int32} : noiF N1 m lot hour = noiF N m lot hour := by
  unfold noiF
  rw [mf_cg h hm (r := 13) (by decide), mf_cg h hm (r := 14) (by decide), mf_cg h hm (r := 15) (by decide)]
theorem byG_cg (h : agr m N N1) (hm : m < 4) (hI : InvN N) {sn pn : Nat} {lot ch : Int32} {O G : Nat → Int32} (hs : sn < 8) (hp : pn < 6) : byG N1 m sn lot pn ch O G = byG N m sn lot pn ch O G := by
  have i1 : 0 ≤ (N 4211).toInt ∧ (N 4211).toInt ≤ 10 := hI.1 4211 (by decide)
  unfold byG runG
  rw [plc_cg h hm, h (960 + pn) (by omega) (by omega), h 4211 (by omega) (by omega), asm_cg h hp _ (by unfold toN; omega), R0_cg h hs, go_cg h hm (fun l hl => inv_asm hI hp l hl)]
theorem byC_cg (h : agr m N N1) (hm : m < 4) (hI : InvN N) {sn pn : Nat} {lot hour ch : Int32} {O G : Nat → Int32} (hs : sn < 8) (hp : pn < 6) : byC N1 m sn lot hour pn ch O G = byC N m sn lot hour pn ch O G := by
  unfold byC
  rw [byG_cg h hm hI hs hp, tm_cg h hm, noi_cg h hm, h (960 + pn) (by omega) (by omega)]
end AGR
/-! bounds of a run -/
def KB (K : Nat → Int32) (u : Nat) : Prop := ∀ j, 1 ≤ j → j < 5 → 0 ≤ (K j).toInt ∧ (K j).toInt ≤ (u : Int)
theorem kb_up {K : Nat → Int32} {u j : Nat} (h : KB K u) (hu : u < 2000) (hj : 1 ≤ j ∧ j < 5) : KB (upN K j (K j + 1)) (u + 1) := by
  intro i h1 h2
  by_cases e : i = j
  · subst e
    have := h i h1 h2
    rw [upN_s, iv1 (by omega) (by omega)]
    omega
  · rw [upN_o e]
    have := h i h1 h2
    omega
theorem kb_w {K : Nat → Int32} {u : Nat} (h : KB K u) : KB K (u + 1) := fun i h1 h2 => by have := h i h1 h2; omega
theorem kb_up2 {K : Nat → Int32} {u j i : Nat} (h : KB K u) (hu : u < 2000) (hj : 1 ≤ j ∧ j < 5) (hi : 1 ≤ i ∧ i < 5) (hij : i ≠ j) : KB (upN (upN K j (K j + 1)) i (K i + 1)) (u + 1) := by
  intro t h1 h2
  by_cases e : t = i
  · subst e
    have := h t h1 h2
    rw [upN_s, iv1 (by omega) (by omega)]
    omega
  · rw [upN_o e]
    exact kb_up h hu hj t h1 h2
theorem touF_kb {N : Nat → Int32} {m : Nat} {p c : Int32} {s : SS} {u : Nat} (h : KB s.2.2.2.2 u) (hu : u < 2000) : KB (touF N m p c s).2.2.2.2 (u + 1) := by
  unfold touF
  split
  · exact kb_up h hu (by decide)
  · exact kb_up2 h hu (by decide) (by decide) (by decide)
theorem leaF_kb {N : Nat → Int32} {m l : Nat} {t : Int32} {s : SS} {u : Nat} (h : KB s.2.2.2.2 u) (hu : u < 2000) : KB (leaF N m l t s).2.2.2.2 (u + 1) := by
  unfold leaF
  split
  · exact kb_up h hu (by decide)
  · exact kb_up2 h hu (by decide) (by decide) (by decide)
theorem step_kb {N : Nat → Int32} {m : Nat} {p : Int32} {C : Nat → Int32} {l : Nat} {s : SS} {u : Nat} (h : KB s.2.2.2.2 u) (hu : u < 2000) : KB (stepF N m p C l s).2.2.2.2.2 (u + 1) := by
  unfold stepF
  by_cases e0 : C (4 * l) = 0
  · rw [if_pos e0]; exact kb_w h
  · rw [if_neg e0]
    by_cases e1 : C (4 * l) = 1
    · rw [if_pos e1]; exact kb_w h
    · rw [if_neg e1]
      by_cases e2 : C (4 * l) = 2
      · rw [if_pos e2]; exact kb_w h
      · rw [if_neg e2]
        by_cases e3 : C (4 * l) = 3
        · rw [if_pos e3]; exact kb_w h
        · rw [if_neg e3]
          by_cases e4 : C (4 * l) = 4
          · rw [if_pos e4]; exact touF_kb h hu
          · rw [if_neg e4]
            by_cases e5 : C (4 * l) = 5
            · rw [if_pos e5]; exact touF_kb h hu
            · rw [if_neg e5]
              by_cases e6 : C (4 * l) = 6
              · rw [if_pos e6]
                split
                · exact leaF_kb h hu
                · exact leaF_kb h hu
              · rw [if_neg e6]; exact kb_w h
theorem go_bd {N : Nat → Int32} {m : Nat} {p : Int32} {C : Nat → Int32} {L : Nat} (hI : InvN N) (hm : m < 4) (hk : ∀ l, l < L → okLine (C (4 * l)) (C (4 * l + 1)) (C (4 * l + 2)) (C (4 * l + 3))) : ∀ f l c s u, u + f = 2000 → KB s.2.2.2.2 u → 0 ≤ c.toInt → c.toInt ≤ 50 * (u : Int) → (goF N m p C L f l c s).2.2.2 ≤ 2000 ∧ KB (goF N m p C L f l c s).2.2.1.2.2.2.2 (2000 - (goF N m p C L f l c s).2.2.2) ∧ 0 ≤ (goF N m p C L f l c s).2.1.toInt ∧ (goF N m p C L f l c s).2.1.toInt ≤ 100000 := by
  intro f
  induction f with
  | zero =>
    intro l c s u hu hK h0 h1
    have e : u = 2000 := by omega
    subst e
    exact ⟨by show 0 ≤ 2000; decide, hK, h0, by show c.toInt ≤ _; omega⟩
  | succ f ih =>
    intro l c s u hu hK h0 h1
    by_cases k : l < L
    · have hkl := hk l k
      have ra : toN (C (4 * l)) < 8 := by unfold toN; omega
      have pr : 0 ≤ (N (1106 + 60 * m + toN (C (4 * l)))).toInt ∧ (N (1106 + 60 * m + toN (C (4 * l)))).toInt ≤ 50 := by
        have := inv_mach hI hm (r := toN (C (4 * l))) (by omega)
        unfold rgM at this
        rw [if_pos ra] at this
        exact this
      rw [goF_step k]
      refine ih _ _ _ (u + 1) (by omega) (step_kb hK (by omega)) ?_ ?_
      · rw [ti_add (by omega) (by omega)]; omega
      · rw [ti_add (by omega) (by omega)]; omega
    · rw [goF_done (by omega)]
      refine ⟨by show f + 1 ≤ 2000; omega, ?_, h0, by show c.toInt ≤ _; omega⟩
      show KB s.2.2.2.2 (2000 - (f + 1))
      rw [show 2000 - (f + 1) = u from by omega]
      exact hK
theorem byC_bd {N : Nat → Int32} (hI : InvN N) {m sn pn : Nat} {lot hour ch : Int32} {O G : Nat → Int32} (hm : m < 4) (hp : pn < 6) (hh : 0 ≤ hour.toInt ∧ hour.toInt ≤ 23) : (∀ j, j < 5 → 0 ≤ (byC N m sn lot hour pn ch O G j).toInt ∧ (byC N m sn lot hour pn ch O G j).toInt ≤ 2000) ∧ -1 ≤ (byC N m sn lot hour pn ch O G 5).toInt ∧ (byC N m sn lot hour pn ch O G 5).toInt ≤ 701460 := by
  have b := go_bd (p := plcF N m lot) hI hm (fun l hl => inv_asm (ch := ch) hI hp l hl) 2000 0 0 (R0 N sn, fun _ => 0, O, G, fun _ => 0) 0 (by decide) (fun j _ _ => by show 0 ≤ (0 : Int32).toInt ∧ (0 : Int32).toInt ≤ _; decide) (by decide) (by decide)
  have b : (byG N m sn lot pn ch O G).2.2.2 ≤ 2000 ∧ KB (byG N m sn lot pn ch O G).2.2.1.2.2.2.2 (2000 - (byG N m sn lot pn ch O G).2.2.2) ∧ 0 ≤ (byG N m sn lot pn ch O G).2.1.toInt ∧ (byG N m sn lot pn ch O G).2.1.toInt ≤ 100000 := b
  unfold byC
  generalize byG N m sn lot pn ch O G = g at b
  obtain ⟨b1, b2, b3, b4⟩ := b
  refine ⟨fun j hj => ?_, ?_⟩
  · unfold cntF
    by_cases j0 : j = 0
    · rw [if_pos j0, ti_ofNat (by omega)]; omega
    · rw [if_neg j0, if_neg (by omega)]
      have := b2 j (by omega) hj
      omega
  · by_cases v : g.1 < toN (N (960 + pn))
    · unfold cntF
      rw [if_neg (by decide), if_pos rfl, if_pos v]
      decide
    · rw [cntF_5 v]
      have r10 : 0 ≤ (N (1106 + 60 * m + 10)).toInt ∧ (N (1106 + 60 * m + 10)).toInt ≤ 200 := inv_mach hI hm (by decide)
      have r12 : 0 ≤ (N (1106 + 60 * m + 12)).toInt ∧ (N (1106 + 60 * m + 12)).toInt ≤ 100 := inv_mach hI hm (by decide)
      have r13 : 0 ≤ (N (1106 + 60 * m + 13)).toInt ∧ (N (1106 + 60 * m + 13)).toInt ≤ 20 := inv_mach hI hm (by decide)
      have r14 : 0 ≤ (N (1106 + 60 * m + 14)).toInt ∧ (N (1106 + 60 * m + 14)).toInt ≤ 1000 := inv_mach hI hm (by decide)
      have k2 := b2 2 (by decide) (by decide)
      have k4 := b2 4 (by decide) (by decide)
      have mul : ∀ (x y : Int32) (a b : Nat), 0 ≤ x.toInt → x.toInt ≤ (a : Int) → 0 ≤ y.toInt → y.toInt ≤ (b : Int) → a * b < 2147483648 → 0 ≤ (x * y).toInt ∧ (x * y).toInt ≤ ((a * b : Nat) : Int) := fun x y a b h1 h2 h3 h4 h5 => by
        have hle : x.toInt.toNat * y.toInt.toNat ≤ a * b := Nat.mul_le_mul (by omega) (by omega)
        rw [ix_m (ix_n h1) (ix_n h3) (by omega)]
        omega
      have m1 := mul (g.2.2.1.2.2.2.2 2) (N (1106 + 60 * m + 10)) 2000 200 k2.1 (by omega) r10.1 r10.2 (by decide)
      have m2 := mul (g.2.2.1.2.2.2.2 4) (N (1106 + 60 * m + 12)) 2000 100 k4.1 (by omega) r12.1 r12.2 (by decide)
      have m3 := mul (N (1106 + 60 * m + 13)) hour 20 23 r13.1 r13.2 hh.1 hh.2 (by decide)
      have e1 : (g.2.1 + g.2.2.1.2.2.2.2 2 * N (1106 + 60 * m + 10)).toInt = g.2.1.toInt + (g.2.2.1.2.2.2.2 2 * N (1106 + 60 * m + 10)).toInt := ti_add (by omega) (by omega)
      have e2 : (tmF N m g).toInt = g.2.1.toInt + (g.2.2.1.2.2.2.2 2 * N (1106 + 60 * m + 10)).toInt + (g.2.2.1.2.2.2.2 4 * N (1106 + 60 * m + 12)).toInt := by
        unfold tmF
        rw [ti_add (by omega) (by omega), e1]
      have e3 : 0 ≤ (noiF N m lot hour).toInt ∧ (noiF N m lot hour).toInt ≤ 1460 := by
        unfold noiF
        have f0 : (0 : Int32).toInt = 0 := rfl
        split
        · rw [ti_add (by omega) (by omega), f0]; omega
        · split
          · rw [ti_add (by omega) (by omega)]; omega
          · rw [ti_add (by omega) (by omega), f0]; omega
      rw [ti_add (by omega) (by omega), e2]
      omega

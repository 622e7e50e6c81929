/-! runs by a lot, both sides -/
def drw (lot : Int32) : Int32 := lot * 1103515245 + 12345
def plcF (N : Nat → Int32) (m : Nat) (lot : Int32) : Int32 := if N (1106 + 60 * m + 16) = 1 then irm (iush (drw lot) 16) 64 else 0
def noiF (N : Nat → Int32) (m : Nat) (lot hour : Int32) : Int32 := N (1106 + 60 * m + 13) * hour + (if (N (1106 + 60 * m + 15)).toInt ≤ 0 then 0 else if irm (iush (drw (drw lot)) 16) (N (1106 + 60 * m + 15)) = 0 then N (1106 + 60 * m + 14) else 0)
theorem plc_rg {N : Nat → Int32} {m : Nat} {lot : Int32} : 0 ≤ (plcF N m lot).toInt ∧ (plcF N m lot).toInt ≤ 63 := by
  unfold plcF
  by_cases h : N (1106 + 60 * m + 16) = 1
  · rw [if_pos h]
    have E := ix_r (ix_n (iush16 (drw lot)).1) (w := 64) (i := 64) rfl (by decide)
    rw [E]
    omega
  · rw [if_neg h]; decide
theorem s_place {lot : Int32} {m : Nat} {M : Mem} {N : Nat → Int32} {q : Int32 → Mem → Prop} (hR : Rep 1 N M.1) (hI : InvN N) (hm : m < 4) (h : q (plcF N m lot) M) : w_X3_placeBy (1 + (16 + 4 * m)) lot M q := by
  have r16 : 0 ≤ (N (1106 + 60 * m + 16)).toInt ∧ (N (1106 + 60 * m + 16)).toInt ≤ 1 := inv_mach hI hm (by decide)
  have e : M.1 (1 + (16 + 4 * m)) 11 = N (1106 + 60 * m + 16) := rd_mach hR (r := 16) hm (by decide) (by decide)
  unfold w_X3_placeBy w_X3_drawn w_X3_highBits
  rw [e]
  unfold plcF at h
  refine ⟨fun z => ?_, fun z => ?_⟩
  · rw [if_neg (by rw [z]; decide)] at h; exact h
  · have e1 : N (1106 + 60 * m + 16) = 1 := by rcases bz_of r16 with y | y; exact absurd y z; exact y
    rw [if_pos e1] at h
    exact s_left (ix_n (iush16 (drw lot)).1) (i := 64) rfl (by decide) h
theorem s_noise {lot hour : Int32} {m : Nat} {M : Mem} {N : Nat → Int32} {q : Int32 → Mem → Prop} (hR : Rep 1 N M.1) (hm : m < 4) (h : q (noiF N m lot hour) M) : w_X3_noiseBy (1 + (16 + 4 * m)) lot hour M q := by
  have f0 : (0 : Int32).toInt = 0 := rfl
  have e8 : M.1 (1 + (16 + 4 * m)) 8 = N (1106 + 60 * m + 13) := rd_mach hR (r := 13) hm (by decide) (by decide)
  have e9 : M.1 (1 + (16 + 4 * m)) 9 = N (1106 + 60 * m + 14) := rd_mach hR (r := 14) hm (by decide) (by decide)
  have e10 : M.1 (1 + (16 + 4 * m)) 10 = N (1106 + 60 * m + 15) := rd_mach hR (r := 15) hm (by decide) (by decide)
  unfold w_X3_noiseBy w_X3_noiseBy_b31 w_X3_noiseBy_b32 w_X3_drawn w_X3_highBits
  rw [e10, le_i, f0]
  unfold noiF at h
  refine ⟨fun z => ⟨fun _ => ?_, fun n => absurd rfl n⟩, fun z => ?_⟩
  · rw [if_pos z] at h
    rw [e8]; exact h
  · rw [if_neg z] at h
    show w_X11_leftOver _ (M.1 (1 + (16 + 4 * m)) 10) M _
    rw [e10]
    refine s_left (ix_n (iush16 (drw (drw lot))).1) (ix_n (show 0 ≤ (N (1106 + 60 * m + 15)).toInt by omega)) (by omega) ⟨fun n => ⟨fun _ => ?_, fun n => absurd rfl n⟩, fun k => ⟨fun n => absurd n (by decide), fun _ => ?_⟩⟩
    · have n : ¬ irm (iush (drw (drw lot)) 16) (N (1106 + 60 * m + 15)) = 0 := n
      rw [if_neg n] at h
      rw [e8]; exact h
    · have k : irm (iush (drw (drw lot)) 16) (N (1106 + 60 * m + 15)) = 0 := k
      rw [if_pos k] at h
      rw [e8, e9]; exact h
/-- the run by a lot, and its counts -/
def byG (N : Nat → Int32) (m sn : Nat) (lot : Int32) (pn : Nat) (ch : Int32) (O G : Nat → Int32) : Nat × Int32 × SS × Nat := runG N m sn (plcF N m lot) pn ch O G
def byC (N : Nat → Int32) (m sn : Nat) (lot hour : Int32) (pn : Nat) (ch : Int32) (O G : Nat → Int32) : Nat → Int32 := cntF (byG N m sn lot pn ch O G) (toN (N (960 + pn))) (tmF N m (byG N m sn lot pn ch O G) + noiF N m lot hour)
abbrev byV (N : Nat → Int32) (m sn : Nat) (lot : Int32) (pn : Nat) (ch : Int32) (O G : Nat → Int32) : Prop := (byG N m sn lot pn ch O G).1 < toN (N (960 + pn))
/-- rooms and guesses that a run by a lot leaves in the model -/
def FrN (M M' : Mem) : Prop := (∀ a, (a < 135 ∨ a = 136 ∨ a = 137 ∨ a = 138) → M'.1 a = M.1 a) ∧ M'.2 = M.2
theorem FrN.m {M M' : Mem} (h : FrN M M') : FM M M' := ⟨h.1, fun a _ => by rw [h.2], by rw [h.2]⟩
theorem cntF_v {g : Nat × Int32 × SS × Nat} {L i : Nat} {t t' : Int32} (h : g.1 < L) : cntF g L t i = cntF g L t' i := by
  unfold cntF
  simp only [eq_true h, if_true]
theorem cntF_o {g : Nat × Int32 × SS × Nat} {L i : Nat} {t t' : Int32} (h : i ≠ 5) : cntF g L t i = cntF g L t' i := by
  unfold cntF
  simp only [h, if_false]
theorem cntF_5 {g : Nat × Int32 × SS × Nat} {L : Nat} {t : Int32} (h : ¬ g.1 < L) : cntF g L t 5 = t := by
  unfold cntF
  rw [if_neg (by decide), if_pos rfl, if_neg h]
theorem s_goesBy {bI mI sI lot hour : Int32} {M : Mem} {O G : Nat → Int32} {q : Mem → Prop} (hI : InvN (M.1 136)) (hb : okI bI 24) (hm : okI mI 4) (hs : okI sI 8) (hO : ∀ i, i < 16 → M.1 142 i = O i) (hG : ∀ i, i < 16 → M.1 143 i = G i) (h : ∀ M', (∀ i, i < 6 → M'.1 144 i = byC (M.1 136) mI.toInt.toNat sI.toInt.toNat lot hour (bP (M.1 136) bI) (bC (M.1 136) bI) O G i) → M'.1 135 10 = tf (byV (M.1 136) mI.toInt.toNat sI.toInt.toNat lot (bP (M.1 136) bI) (bC (M.1 136) bI) O G) → (∀ i, i < 16 → M'.1 142 i = (byG (M.1 136) mI.toInt.toNat sI.toInt.toNat lot (bP (M.1 136) bI) (bC (M.1 136) bI) O G).2.2.1.2.2.1 i) → (∀ i, i < 16 → M'.1 143 i = (byG (M.1 136) mI.toInt.toNat sI.toInt.toNat lot (bP (M.1 136) bI) (bC (M.1 136) bI) O G).2.2.1.2.2.2.1 i) → FrN M M' → q M') : w_X12_goesBy bI mI sI lot hour M q := by
  have f0 : (0 : Int32).toInt = 0 := rfl
  have hm4 : mI.toInt.toNat < 4 := by omega
  have z := bP_6 hI (b := bI.toInt.toNat) (by omega)
  have E26 := ix_a (e := (1026 : Int32)) (a := 1026) rfl (ix_m (e := (2 : Int32)) (a := 2) rfl (ix_n hb.1) (by omega)) (by omega)
  have E27 := ix_a E26 (w := 1) (i := 1) rfl (by omega)
  unfold w_X12_goesBy
  intro x16 e16 x17 e17 x18 e18
  have e17 : x17 = drw lot := e17
  have e18 : x18 = drw (drw lot) := by rw [e18, e17]; rfl
  have E : x16.toInt = ((1106 + 60 * mI.toInt.toNat : Nat) : Int) := by rw [e16]; exact ix_a rfl (ix_m rfl (ix_n hm.1) (by omega)) (by omega)
  have A := fun (e : Int32) (w : Nat) (he : e.toInt = w) (hw : w < 60) => ix_a E he (by omega)
  clear e16
  rw [i_of E26, i_of E27]
  refine ⟨vp_of E26 (by omega), vp_of E27 (by omega), s_asm12 hI z.2 z.1 (fun M3 b1 b2 b3 => ⟨vp_of (A 16 16 rfl (by decide)) (by omega), ?_⟩)⟩
  have e3 : M3.1 136 = M.1 136 := b3.row (by decide) (by decide)
  rw [i_of (A 16 16 rfl (by decide)), e3]
  have sz := inv_size40 hI z.1
  have r15 : 0 ≤ (M.1 136 (1106 + 60 * mI.toInt.toNat + 15)).toInt ∧ (M.1 136 (1106 + 60 * mI.toInt.toNat + 15)).toInt ≤ 100 := inv_mach hI hm4 (by decide)
  have tail : w_X12_goesBy_b92 hour x16 x18 mI sI (plcF (M.1 136) mI.toInt.toNat lot) M3 q := by
    unfold w_X12_goesBy_b92
    refine s_goes12 (O := O) (G := G) (C := asm (M.1 136) (bP (M.1 136) bI) (bC (M.1 136) bI) (toN (M.1 136 4211))) (L := toN (M.1 136 (960 + bP (M.1 136) bI))) (by rw [e3]; exact hI) (ix_n hm.1) hm4 (ix_n hs.1) (by omega) plc_rg (by rw [b1]; exact sz.1) sz.2 b2 (fun l hl => inv_asm hI z.1 l hl) (fun i hi => ?_) (fun i hi => ?_) ?_
    · rw [b3.row (by decide) (by decide)]; exact hO i hi
    · rw [b3.row (by decide) (by decide)]; exact hG i hi
    · rw [e3]
      intro M4 c1 c2 c3 c4 cF
      have e4 : M4.1 136 = M.1 136 := by rw [cF.1 136 (by decide) (by decide) (by decide) (by decide) (by decide) (by decide), e3]
      have F4 : FrN M M4 := ⟨fun a ha => by rw [cF.1 a (by omega) (by omega) (by omega) (by omega) (by omega) (by omega), b3.row (by omega) (by omega)], by rw [cF.2.2, b3.2]⟩
      rw [c2, tf_z, e4, i_of (A 15 15 rfl (by decide)), i_of (A 13 13 rfl (by decide)), i_of (A 14 14 rfl (by decide))]
      refine ⟨fun vv => ?_, fun nv => ⟨vp_of (A 15 15 rfl (by decide)) (by omega), fun x7 e7 => ⟨vp_of (A 13 13 rfl (by decide)) (by omega), ?_⟩⟩⟩
      · have vv := Classical.not_not.mp vv
        refine h M4 (fun i hi => ?_) c2 c3 c4 F4
        rw [c1 i hi]
        exact cntF_v vv
      · have fin : ∀ (d : Int32) (M5 : Mem), M5 = uI M4 144 5 (M4.1 144 5 + d) → noiF (M.1 136) mI.toInt.toNat lot hour = d → q M5 := fun d M5 e5 ed => by
          refine h M5 (fun i hi => ?_) ?_ (fun i hi => ?_) (fun i hi => ?_) ⟨fun a ha => ?_, ?_⟩
          · rw [e5]
            by_cases i5 : i = 5
            · subst i5
              rw [uI_s, c1 5 (by decide), ← ed, cntF_5 nv]
              exact (cntF_5 nv).symm
            · rw [uI_j i5, c1 i hi]
              exact cntF_o i5
          · rw [e5, uI_k (by decide)]; exact c2
          · rw [e5, uI_k (by decide)]; exact c3 i hi
          · rw [e5, uI_k (by decide)]; exact c4 i hi
          · rw [← F4.1 a ha]
            funext b
            rw [e5, uI_k (by omega)]
          · rw [e5]; exact F4.2
        rw [e7, le_i, f0]
        unfold w_X12_goesBy_b164 w_X12_bits
        unfold noiF at fin
        rw [e18]
        refine ⟨fun k => ⟨vp_of (a := 5) rfl (by decide), fun M5 e5 => ?_⟩, fun k => ⟨fun y => k (by rw [y, f0]; decide), fun n => ⟨vp_of (a := 5) rfl (by decide), fun M5 e5 => ?_⟩, fun n => ⟨vp_of (A 14 14 rfl (by decide)) (by omega), fun M5 e5 => ?_⟩⟩⟩
        · rw [if_pos k] at fin
          exact fin _ M5 e5 rfl
        · rw [if_neg k, if_neg n] at fin
          exact fin _ M5 e5 rfl
        · rw [if_neg k, if_pos n] at fin
          rw [e4] at e5
          exact fin _ M5 e5 rfl
  unfold plcF at tail
  refine ⟨fun n => ?_, fun k => ?_⟩
  · rw [if_neg n] at tail; exact tail
  · rw [if_pos k] at tail
    unfold w_X12_bits
    rw [e17]
    exact tail

/-! keep, forge, look, program, setting, noise -/
-- keep
def spKeep (r o : Int32) (N : Nat → Int32) : Int32 × (Nat → Int32) := if okI r (N 4214).toInt then (if N (1346 + 14 * r.toInt.toNat + 13) = o then (-3, N) else (1, upN N (1346 + 14 * r.toInt.toNat + 13) o)) else (-2, N)
theorem mm_keep {r o : Int32} {M : Mem} {q : Int32 → Mem → Prop} (hI : InvN (M.1 136)) (ho : bz o) (h : PQ (spKeep r o (M.1 136)) M q) : w_X12_keep r o M q := by
  have i4 : 0 ≤ (M.1 136 (4210 + 4)).toInt ∧ (M.1 136 (4210 + 4)).toInt ≤ 200 := hI.1 4214 (by decide)
  unfold w_X12_keep
  simp only [e_has (v := 4) (k := 4) rfl (by decide) i4.1, tf_z, Classical.not_not]
  unfold spKeep at h
  refine ⟨fun k x ex => ?_, fun n => ?_⟩
  · rw [if_pos k] at h
    have E : x.toInt = ((1346 + 14 * r.toInt.toNat + 13 : Nat) : Int) := by
      rw [ex]
      exact ix_a (ix_a rfl (ix_m rfl (ix_n k.1) (by omega)) (by omega)) rfl (by omega)
    refine ⟨vp_of E (by omega), fun z => ?_, fun z => ?_⟩
    · subst z
      rw [i_of E]
      refine ⟨fun n => ⟨fun _ => ⟨vp_of E (by omega), fun M' e => ?_⟩, fun k0 => absurd rfl k0⟩, fun k2 => ?_⟩
      · rw [if_neg n] at h
        rw [i_of E] at e
        exact h M' (by rw [e, now_uI]) (by rw [e]; exact frM1)
      · rw [if_pos k2] at h
        exact mq_0 h
    · have o1 : o = 1 := by rcases ho with e | e; exact absurd e z; exact e
      subst o1
      rw [i_of E]
      refine ⟨fun n => ⟨fun k0 => absurd k0 z, fun _ => ⟨vp_of E (by omega), fun M' e => ?_⟩⟩, fun k2 => ?_⟩
      · rw [if_neg n] at h
        rw [i_of E] at e
        exact h M' (by rw [e, now_uI]) (by rw [e]; exact frM1)
      · rw [if_pos k2] at h
        exact mq_0 h
  · rw [if_neg n] at h
    exact mq_0 h
theorem cc_keep {r o : Int32} {M : Mem} {N : Nat → Int32} {q : Int32 → Mem → Prop} (hR : Rep 1 N M.1) (hI : InvN N) (ho : bz o) (h : CQ (spKeep r o N) M q) : w_X11_keep r o M q := by
  have i4 : 0 ≤ (N 4214).toInt ∧ (N 4214).toInt ≤ 200 := hI.1 4214 (by decide)
  unfold w_X11_keep w_X11_keep_b26
  simp only [e_isOut, tf_z, Classical.not_not, rc4 hR]
  unfold spKeep at h
  have key : okI r (N 4214).toInt → w_X8_told 1 r (13 : Int32) M (fun (r2 : Int32) (M1 : Mem) => ((¬ r2 = o → w_X8_tell 1 r (13 : Int32) o M1 (fun (M4 : Mem) => q (1 : Int32) M4)) ∧ (r2 = o → q (-3 : Int32) M1))) := fun k => by
    rw [if_pos k] at h
    rw [e_told hR (ix_n k.1) (wn := 13) rfl (by omega) (by omega)]
    refine ⟨fun n => ?_, fun k2 => ?_⟩
    · rw [if_neg n] at h
      rw [e_tell (ix_n k.1) (wn := 13) rfl (by omega) (by omega)]
      refine h _ ?_ (frC_uI (by decide) (by decide))
      refine wr (c := 14) hR ?_ (by omega) (by omega) rfl
      rw [show 1346 + 14 * r.toInt.toNat + 13 = 1346 + (14 * r.toInt.toNat + 13) from by omega]
      exact loc_run (by omega)
    · rw [if_pos k2] at h
      exact cq_0 hR h
  refine ⟨fun k => ⟨fun z => ?_, fun z => ?_⟩, fun n => ?_⟩
  · have := key k
    rw [z] at this
    exact this
  · have o1 : o = 1 := by rcases ho with e | e; exact absurd e z; exact e
    have := key k
    rw [o1] at this
    exact this
  · rw [if_neg n] at h
    exact cq_0 hR h
theorem bz_rg {o : Int32} (ho : bz o) : 0 ≤ o.toInt ∧ o.toInt ≤ 1 := by
  rcases ho with e | e <;> subst e <;> decide
theorem ii_keep {r o : Int32} {N : Nat → Int32} (hI : InvN N) (ho : bz o) : InvN (spKeep r o N).2 := by
  have i4 : 0 ≤ (N 4214).toInt ∧ (N 4214).toInt ≤ 200 := hI.1 4214 (by decide)
  unfold spKeep
  by_cases k : okI r (N 4214).toInt
  · rw [if_pos k]
    by_cases k2 : N (1346 + 14 * r.toInt.toNat + 13) = o
    · rw [if_pos k2]; exact hI
    · rw [if_neg k2]
      refine inv_up hI (by omega) (by omega) ?_
      rw [rg_run (by omega) (by omega)]
      exact bz_rg ho
  · rw [if_neg k]; exact hI
-- forge
abbrev okForge (N : Nat → Int32) (r v : Int32) : Prop := okI r (N 4214).toInt ∧ ¬ N (1346 + 14 * r.toInt.toNat + 6) = 1 ∧ okB v 0 10000000
def spForge (r v : Int32) (N : Nat → Int32) : Int32 × (Nat → Int32) := if okForge N r v then (N (1346 + 14 * r.toInt.toNat + 5), upN N (1346 + 14 * r.toInt.toNat + 5) v) else (-2000000000, N)
theorem mm_forge {r v : Int32} {M : Mem} {q : Int32 → Mem → Prop} (hI : InvN (M.1 136)) (h : PQ (spForge r v (M.1 136)) M q) : w_X12_forge r v M q := by
  have i4 : 0 ≤ (M.1 136 (4210 + 4)).toInt ∧ (M.1 136 (4210 + 4)).toInt ≤ 200 := hI.1 4214 (by decide)
  have bad : ¬ okForge (M.1 136) r v → q (-2000000000) M := fun n => by unfold spForge at h; rw [if_neg n] at h; exact mq_0 h
  have f0 : (0 : Int64).toInt = 0 := rfl
  have f1 : (10000000 : Int64).toInt = 10000000 := rfl
  unfold w_X12_forge
  simp only [e_has (v := 4) (k := 4) rfl (by decide) i4.1, e_in, tf_z, Classical.not_not, f0, f1]
  refine ⟨fun n => bad (fun x => n x.1), fun k1 => ?_⟩
  have E := fun (e : Int32) (w : Nat) (he : e.toInt = w) (hw : w < 14) => ix_a (ix_a (e := (1346 : Int32)) (a := 1346) rfl (ix_m (e := (14 : Int32)) (a := 14) rfl (ix_n k1.1) (by omega)) (by omega)) he (by omega)
  refine ⟨vp_of (E 6 6 rfl (by decide)) (by omega), ?_⟩
  rw [i_of (E 6 6 rfl (by decide))]
  refine ⟨fun n => bad (fun x => x.2.1 n), fun k2 => ⟨fun k3 => ⟨vp_of (E 5 5 rfl (by decide)) (by omega), fun x ex => ⟨vp_of (E 5 5 rfl (by decide)) (by omega), fun M' e => ?_⟩⟩, fun n => bad (fun x => n x.2.2)⟩⟩
  rw [i_of (E 5 5 rfl (by decide))] at ex e
  unfold spForge at h
  rw [if_pos ⟨k1, k2, k3⟩] at h
  rw [ex]
  exact h M' (by rw [e, now_uI]) (by rw [e]; exact frM1)
theorem cc_forge {r v : Int32} {M : Mem} {N : Nat → Int32} {q : Int32 → Mem → Prop} (hR : Rep 1 N M.1) (hI : InvN N) (h : CQ (spForge r v N) M q) : w_X11_forge r v M q := by
  have i4 : 0 ≤ (N 4214).toInt ∧ (N 4214).toInt ≤ 200 := hI.1 4214 (by decide)
  have bad : ¬ okForge N r v → q (-2000000000) M := fun n => by unfold spForge at h; rw [if_neg n] at h; exact cq_0 hR h
  have f0 : (0 : Int32).toInt = 0 := rfl
  have f1 : (10000000 : Int32).toInt = 10000000 := rfl
  unfold w_X11_forge
  simp only [e_isOut, e_isBeyond, tf_z, Classical.not_not, rc4 hR, f0, f1]
  refine ⟨fun n => bad (fun x => n x.1), fun k1 => ?_⟩
  rw [e_told hR (ix_n k1.1) (wn := 6) rfl (by omega) (by omega)]
  refine ⟨fun n => bad (fun x => x.2.1 n), fun k2 => ⟨fun k3 => ?_, fun n => bad (fun x => n x.2.2)⟩⟩
  rw [e_told hR (ix_n k1.1) (wn := 5) rfl (by omega) (by omega), e_tell (ix_n k1.1) (wn := 5) rfl (by omega) (by omega)]
  unfold spForge at h
  rw [if_pos ⟨k1, k2, k3⟩] at h
  refine h _ ?_ (frC_uI (by decide) (by decide))
  refine wr (c := 14) hR ?_ (by omega) (by omega) rfl
  rw [show 1346 + 14 * r.toInt.toNat + 5 = 1346 + (14 * r.toInt.toNat + 5) from by omega]
  exact loc_run (by omega)
theorem ii_forge {r v : Int32} {N : Nat → Int32} (hI : InvN N) : InvN (spForge r v N).2 := by
  have i4 : 0 ≤ (N 4214).toInt ∧ (N 4214).toInt ≤ 200 := hI.1 4214 (by decide)
  unfold spForge
  by_cases k : okForge N r v
  · rw [if_pos k]
    refine inv_up hI (by omega) (by omega) ?_
    have k1 := k.1
    rw [rg_run (by omega) (by omega)]
    show -1 ≤ v.toInt ∧ v.toInt ≤ 10000000
    omega
  · rw [if_neg k]; exact hI

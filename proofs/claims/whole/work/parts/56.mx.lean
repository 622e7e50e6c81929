/-! one step of a run, in the model: leap and the rest -/
theorem upN_same {N : Nat → Int32} {j : Nat} {v : Int32} (h : N j = v) : upN N j v = N := by
  funext i
  by_cases e : i = j
  · subst e; rw [upN_s, h]
  · rw [upN_o e]
theorem s_leap12 {mI v2 v5 t : Int32} {mn l : Nat} {M : Mem} {R Y O G K : Nat → Int32} {q : Int32 → Mem → Prop} (hI : InvN (M.1 136)) (hm : mI.toInt = mn) (hm4 : mn < 4) (hl : v2.toInt = l) (hX : XS 140 141 142 143 144 M (R, Y, O, G, K)) (h : ∀ M', XS 140 141 142 143 144 M' (leaF (M.1 136) mn l t (R, Y, O, G, K)) → FrW 140 141 142 143 144 M M' → (¬ t = 1 → q (v2 + 1) M') ∧ (t = 1 → q v5 M')) : w_X12_step_b261 mI v2 v5 t M q := by
  have r11 : 1 ≤ (M.1 136 (1106 + 60 * mn + 11)).toInt ∧ (M.1 136 (1106 + 60 * mn + 11)).toInt ≤ 16 := inv_mach hI hm4 (by decide)
  have f0 : (0 : Int32).toInt = 0 := rfl
  have E := ix_a (ix_a (e := (1106 : Int32)) (a := 1106) rfl (ix_m (e := (60 : Int32)) (a := 60) rfl hm (by omega)) (by omega)) (w := 11) (i := 11) rfl (by omega)
  have Er := ix_r hl (ix_n (show 0 ≤ (M.1 136 (1106 + 60 * mn + 11)).toInt by omega)) (by omega)
  have hlt : l % (M.1 136 (1106 + 60 * mn + 11)).toInt.toNat < 16 := by
    have := Nat.mod_lt l (show 0 < (M.1 136 (1106 + 60 * mn + 11)).toInt.toNat by omega)
    omega
  generalize l % (M.1 136 (1106 + 60 * mn + 11)).toInt.toNat = g at Er hlt
  unfold leaF at h
  rw [← i_nat hl, toN_i Er] at h
  unfold w_X12_step_b261
  rw [i_of E]
  refine ⟨vp_of E (by omega), fun z => by rw [z, f0] at r11; omega, fun x20 e20 M21 e21 => ?_⟩
  have Er7 : x20.toInt = (g : Int) := by rw [e20]; exact Er
  have eK : M.1 144 3 = K 3 := hX.2.2.2.2 3 (by decide) (by decide)
  have X21 : XS 140 141 142 143 144 M21 (R, Y, O, G, upN K 3 (K 3 + 1)) := by rw [e21, eK]; exact xs_5 dm hX
  have F21 : FrW 140 141 142 143 144 M M21 := by rw [e21]; exact frw_u (by decide) (by decide)
  have eK4 : M21.1 144 4 = K 4 := by rw [X21.2.2.2.2 4 (by decide) (by decide)]; exact upN_o (N := K) (i := 4) (j := 3) (v := K 3 + 1) (by decide)
  rw [i_of Er7, X21.2.2.2.1 g hlt, eK4]
  refine ⟨vp_of Er7 hlt, fun n => ?_, fun k => ?_⟩
  · rw [if_neg n] at h
    unfold w_X12_step_b317
    refine ⟨vp_of (a := 4) rfl (by decide), fun M14 e14 => ⟨vp_of Er7 hlt, fun M16 e16 => ?_⟩⟩
    rw [i_of Er7] at e16
    have e14 : M14 = uI M21 144 4 (K 4 + 1) := e14
    refine h M16 ?_ (F21.tr ?_)
    · rw [e16]
      refine xs_4 dm ?_
      rw [e14]
      exact xs_5 dm X21
    · rw [e16, e14]
      exact (frw_u (by decide) (by decide)).tr (frw_u (by decide) (by omega))
  · rw [if_pos k] at h
    unfold w_X12_step_b317
    refine ⟨vp_of (a := 4) rfl (by decide), fun M14 e14 => ⟨vp_of Er7 hlt, fun M16 e16 => ?_⟩⟩
    rw [i_of Er7] at e16
    have e14 : M14 = uI M21 144 4 (K 4 + 0) := e14
    refine h M16 ?_ (F21.tr ?_)
    · have X14 : XS 140 141 142 143 144 M14 (R, Y, O, G, upN (upN K 3 (K 3 + 1)) 4 (K 4 + 0)) := by rw [e14]; exact xs_5 dm X21
      rw [upN_same (by rw [upN_o (by decide), Int32.add_zero])] at X14
      have X16 : XS 140 141 142 143 144 M16 (R, Y, O, upN G g t, upN K 3 (K 3 + 1)) := by rw [e16]; exact xs_4 dm X14
      rw [upN_same k] at X16
      exact X16
    · rw [e16, e14]
      exact (frw_u (by decide) (by decide)).tr (frw_u (by decide) (by omega))
theorem touF_1 {N : Nat → Int32} {m : Nat} {p c : Int32} {s : SS} : (touF N m p c s).1 = s.1 := by unfold touF; split <;> rfl
theorem touF_2 {N : Nat → Int32} {m : Nat} {p c : Int32} {s : SS} : (touF N m p c s).2.1 = s.2.1 := by unfold touF; split <;> rfl
theorem touF_e {N : Nat → Int32} {m : Nat} {p c : Int32} {R Y O G K : Nat → Int32} : touF N m p c (R, Y, O, G, K) = (R, Y, (touF N m p c (R, Y, O, G, K)).2.2) := Prod.ext touF_1 (Prod.ext touF_2 rfl)
theorem s_step12 {mI v2 p : Int32} {mn l : Nat} {M : Mem} {s : SS} {C : Nat → Int32} {q : Int32 → Mem → Prop} (hI : InvN (M.1 136)) (hm : mI.toInt = mn) (hm4 : mn < 4) (hl : v2.toInt = l) (hl4 : l < 40) (hp : 0 ≤ p.toInt ∧ p.toInt ≤ 63) (hC : ∀ k, k < 4 → M.1 139 (4 * l + k) = C (4 * l + k)) (hk : okLine (C (4 * l)) (C (4 * l + 1)) (C (4 * l + 2)) (C (4 * l + 3))) (hX : XS 140 141 142 143 144 M s) (h : ∀ x M', x.toInt = ((stepF (M.1 136) mn p C l s).1 : Int) → XS 140 141 142 143 144 M' (stepF (M.1 136) mn p C l s).2 → FrW 140 141 142 143 144 M M' → q x M') : w_X12_step mI v2 p M q := by
  obtain ⟨R, Y, O, G, K⟩ := s
  have f0 : (0 : Int32).toInt = 0 := rfl
  have E0 := ix_m (e := (4 : Int32)) (a := 4) rfl hl (by omega)
  have E1 := ix_a E0 (w := 1) (i := 1) rfl (by omega)
  have E2 := ix_a E0 (w := 2) (i := 2) rfl (by omega)
  have E3 := ix_a E0 (w := 3) (i := 3) rfl (by omega)
  have EL := ix_a hl (w := 1) (i := 1) rfl (by omega)
  have c0 : M.1 139 (4 * l) = C (4 * l) := hC 0 (by decide)
  have c1 := hC 1 (by decide)
  have c2 := hC 2 (by decide)
  have c3 := hC 3 (by decide)
  unfold w_X12_step
  rw [i_of E0, i_of E1, i_of E2, i_of E3, c0, c1, c2, c3]
  generalize hac : C (4 * l) = act at hk h
  generalize hao : C (4 * l + 1) = a at hk
  generalize hbo : C (4 * l + 2) = b at hk
  generalize hco : C (4 * l + 3) = c at hk
  unfold stepF at h
  rw [hac, hao, hbo, hco] at h
  refine ⟨vp_of E1 (by omega), fun x25 e25 => ⟨vp_of E2 (by omega), fun x27 e27 => ⟨vp_of E3 (by omega), fun x29 e29 => ⟨vp_of E0 (by omega), ?_⟩⟩⟩⟩
  subst e25
  subst e27
  subst e29
  have ari : ∀ (v : Int32), (∀ x M', x.toInt = ((l + 1 : Nat) : Int) → XS 140 141 142 143 144 M' (upN R (toN x25) v, Y, O, G, K) → FrW 140 141 142 143 144 M M' → q x M') → ∀ M', M' = uI M 140 x25.toNatClampNeg v → q (v2 + 1) M' := fun v hh M' e => by
    refine hh _ M' EL ?_ ?_
    · rw [e]; exact xs_1 dm hX
    · rw [e]; exact frw_u (by decide) (by omega)
  have h179 : (act = 4 ∨ act = 5) → w_X12_step_b179 mI v2 p x25 x27 M q := fun e => by
    have e' : act.toInt = 4 ∨ act.toInt = 5 := by
      rcases e with e | e
      · exact Or.inl (by rw [e]; rfl)
      · exact Or.inr (by rw [e]; rfl)
    have ra : 0 ≤ x25.toInt ∧ x25.toInt ≤ 7 := by omega
    have rb : 0 ≤ x27.toInt ∧ x27.toInt ≤ 7 := by omega
    have r27 : M.1 140 x27.toNatClampNeg = R (toN x27) := hX.1 (toN x27) (by unfold toN; omega)
    unfold w_X12_step_b179
    rw [r27]
    refine ⟨vp_i.mpr ⟨by omega, by omega⟩, fun x2 e2 => ?_⟩
    have ec : 0 ≤ x2.toInt ∧ x2.toInt ≤ 63 := by rw [e2, and63]; omega
    refine s_touch12 hI hm hm4 ec hp hX (fun M3 X3 F3 => ⟨vp_of E0 (by omega), ?_⟩)
    rw [touF_e] at X3
    have r3 : M3.1 139 = M.1 139 := F3.1 139 (by decide) (by decide) (by decide) (by decide) (by decide)
    rw [i_of E0, r3, c0, hac]
    have v25 : vp_in x25 8 := vp_i.mpr ⟨by omega, by omega⟩
    have v2' : vp_in x2 64 := vp_i.mpr ⟨by omega, by omega⟩
    refine ⟨fun n => ⟨v25, v2', fun M9 e9 => ?_⟩, fun k => ⟨v2', v25, fun M9 e9 => ?_⟩⟩
    · have e5 : act = 5 := by rcases e with e | e; exact absurd e n; exact e
      rw [if_neg (by rw [e5]; decide), if_neg (by rw [e5]; decide), if_neg (by rw [e5]; decide), if_neg (by rw [e5]; decide), if_neg (by rw [e5]; decide), if_pos e5] at h
      have r25 : M3.1 140 x25.toNatClampNeg = R (toN x25) := X3.1 (toN x25) (by unfold toN; omega)
      rw [r25] at e9
      refine h _ M9 EL ?_ (F3.tr ?_)
      · rw [e9, e2]
        rw [e2] at X3
        exact xs_2 dm X3
      · rw [e9]; exact frw_u (by decide) (by omega)
    · rw [if_neg (by rw [k]; decide), if_neg (by rw [k]; decide), if_neg (by rw [k]; decide), if_neg (by rw [k]; decide), if_pos k] at h
      have r2 : M3.1 141 x2.toNatClampNeg = Y (toN x2) := X3.2.1 (toN x2) (by unfold toN; omega)
      rw [r2] at e9
      refine h _ M9 EL ?_ (F3.tr ?_)
      · rw [e9, e2]
        rw [e2] at X3
        rw [touF_e]
        exact xs_1 dm X3
      · rw [e9]; exact frw_u (by decide) (by omega)
  refine ⟨fun e => ?_, fun e => ?_, fun e => ?_, fun e => ?_, fun e => h179 (Or.inl e), fun e => h179 (Or.inr e), fun e => ?_, fun n => ?_⟩
  · have e' : act.toInt = 0 := by rw [e]; rfl
    rw [if_pos e] at h
    exact ⟨vp_i.mpr ⟨by omega, by omega⟩, ari _ h⟩
  · have e' : act.toInt = 1 := by rw [e]; rfl
    rw [if_neg (by rw [e]; decide), if_pos e] at h
    rw [show M.1 140 x27.toNatClampNeg = R (toN x27) from hX.1 (toN x27) (by unfold toN; omega), show M.1 140 x29.toNatClampNeg = R (toN x29) from hX.1 (toN x29) (by unfold toN; omega)]
    exact ⟨vp_i.mpr ⟨by omega, by omega⟩, vp_i.mpr ⟨by omega, by omega⟩, vp_i.mpr ⟨by omega, by omega⟩, ari _ h⟩
  · have e' : act.toInt = 2 := by rw [e]; rfl
    rw [if_neg (by rw [e]; decide), if_neg (by rw [e]; decide), if_pos e] at h
    rw [show M.1 140 x27.toNatClampNeg = R (toN x27) from hX.1 (toN x27) (by unfold toN; omega), show M.1 140 x29.toNatClampNeg = R (toN x29) from hX.1 (toN x29) (by unfold toN; omega)]
    exact ⟨vp_i.mpr ⟨by omega, by omega⟩, vp_i.mpr ⟨by omega, by omega⟩, vp_i.mpr ⟨by omega, by omega⟩, ari _ h⟩
  · have e' : act.toInt = 3 := by rw [e]; rfl
    rw [if_neg (by rw [e]; decide), if_neg (by rw [e]; decide), if_neg (by rw [e]; decide), if_pos e] at h
    rw [show M.1 140 x27.toNatClampNeg = R (toN x27) from hX.1 (toN x27) (by unfold toN; omega), show M.1 140 x29.toNatClampNeg = R (toN x29) from hX.1 (toN x29) (by unfold toN; omega)]
    exact ⟨vp_i.mpr ⟨by omega, by omega⟩, vp_i.mpr ⟨by omega, by omega⟩, vp_i.mpr ⟨by omega, by omega⟩, ari _ h⟩
  · have e' : act.toInt = 6 := by rw [e]; rfl
    rw [if_neg (by rw [e]; decide), if_neg (by rw [e]; decide), if_neg (by rw [e]; decide), if_neg (by rw [e]; decide), if_neg (by rw [e]; decide), if_neg (by rw [e]; decide), if_pos e] at h
    rw [show M.1 140 x25.toNatClampNeg = R (toN x25) from hX.1 (toN x25) (by unfold toN; omega), le_i, f0]
    have rb : 0 ≤ x27.toInt := by omega
    refine ⟨vp_i.mpr ⟨by omega, by omega⟩, fun k => ?_, fun k => ?_⟩
    · rw [if_pos k] at h
      exact s_leap12 hI hm hm4 hl hX (fun M' X' F' => ⟨fun _ => h _ M' EL X' F', fun z => absurd z (by decide)⟩)
    · rw [if_neg k] at h
      exact s_leap12 hI hm hm4 hl hX (fun M' X' F' => ⟨fun z => absurd rfl z, fun _ => h _ M' (ix_n rb) X' F'⟩)
  · have ne : ∀ k : Int32, 0 ≤ k.toInt ∧ k.toInt ≤ 6 → ¬ act = k := fun k hk' e => by rw [e] at n; omega
    rw [if_neg (ne 0 (by decide)), if_neg (ne 1 (by decide)), if_neg (ne 2 (by decide)), if_neg (ne 3 (by decide)), if_neg (ne 4 (by decide)), if_neg (ne 5 (by decide)), if_neg (ne 6 (by decide))] at h
    exact h 40 M rfl hX FrW.rf

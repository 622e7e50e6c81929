/-! the class keeps a run -/
theorem loc_r16 {j m p : Nat} (hm : m < 4) (h : loc j = some (18 + 4 * m, p)) : p < 16 := by grind (splits := 40) [loc]
theorem loc_s16 {j m p : Nat} (hm : m < 4) (h : loc j = some (19 + 4 * m, p)) : p < 16 := by grind (splits := 40) [loc]
theorem rep_set2 {N f g : Nat → Int32} {I I' : Nat → Nat → Int32} {m : Nat} (hm : m < 4) (hR : Rep 1 N I) (h1 : ∀ a, 1 ≤ a → a < 33 → a ≠ 1 + (18 + 4 * m) → a ≠ 1 + (19 + 4 * m) → I' a = I a) (h2 : ∀ i, i < 16 → I' (1 + (18 + 4 * m)) i = f i) (h3 : ∀ i, i < 16 → I' (1 + (19 + 4 * m)) i = g i) : Rep 1 (setN (setN N (1106 + 60 * m + 20) 16 f) (1106 + 60 * m + 36) 16 g) I' := by
  intro j hj c p hl
  have hb := loc_back j hj
  rw [hl] at hb
  simp at hb
  by_cases e1 : c = 18 + 4 * m
  · subst e1
    have hp := loc_r16 hm hl
    have ej := loc_inj hj (by omega) hl (loc_room hm hp)
    subst ej
    rw [nv_plain (px_hi (by omega)), setN_o (by omega), setN_i hp]
    exact h2 p hp
  · by_cases e2 : c = 19 + 4 * m
    · subst e2
      have hp := loc_s16 hm hl
      have ej := loc_inj hj (by omega) hl (loc_said hm hp)
      subst ej
      rw [nv_plain (px_hi (by omega)), setN_i hp]
      exact h3 p hp
    · rw [h1 (1 + c) (by omega) (by omega) (by omega) (by omega), hR j hj c p hl]
      have n1 : j < 1106 + 60 * m + 20 ∨ 1106 + 60 * m + 20 + 16 ≤ j := by
        by_cases k : 1106 + 60 * m + 20 ≤ j ∧ j < 1106 + 60 * m + 20 + 16
        · exfalso
          have := loc_room (m := m) (a := j - (1106 + 60 * m + 20)) hm (by omega)
          rw [show 1106 + 60 * m + 20 + (j - (1106 + 60 * m + 20)) = j from by omega, hl] at this
          injection this with t1
          injection t1 with t2 t3
          exact e1 t2
        · omega
      have n2 : j < 1106 + 60 * m + 36 ∨ 1106 + 60 * m + 36 + 16 ≤ j := by
        by_cases k : 1106 + 60 * m + 36 ≤ j ∧ j < 1106 + 60 * m + 36 + 16
        · exfalso
          have := loc_said (m := m) (a := j - (1106 + 60 * m + 36)) hm (by omega)
          rw [show 1106 + 60 * m + 36 + (j - (1106 + 60 * m + 36)) = j from by omega, hl] at this
          injection this with t1
          injection t1 with t2 t3
          exact e2 t2
        · omega
      refine nv_congr ?_ (fun k => ?_) (fun k1 k2 k3 => ?_)
      · rw [setN_o n2, setN_o n1]
      · rw [setN_o (by omega), setN_o (by omega)]
      · rw [setN_o (by omega), setN_o (by omega)]
theorem cz_m : ∀ m, m < 4 → isA 0 (1 + (18 + 4 * m)) ∧ isA 0 (1 + (19 + 4 * m)) ∧ len (1 + (18 + 4 * m)) = 16 ∧ len (1 + (19 + 4 * m)) = 16 := by
  intro m hm
  have h : m = 0 ∨ m = 1 ∨ m = 2 ∨ m = 3 := by omega
  rcases h with e | e | e | e <;> subst e <;> exact ⟨rfl, rfl, rfl, rfl⟩
theorem cz_kept {m : Nat} (h : m < 4) : CZ (1 + (16 + 4 * m)) (1 + (18 + 4 * m)) (1 + (19 + 4 * m)) := by
  obtain ⟨a1, a2, a3, a4⟩ := cz_m m h
  exact ⟨⟨sh_m m h, a1, a2, a3, a4⟩, by omega, by omega, by omega, by omega, by omega, by omega, by omega⟩
theorem s_goKept {bI mI sI lot hour w : Int32} {M : Mem} {N : Nat → Int32} {q : Mem → Prop} (hR : Rep 1 N M.1) (hI : InvN N) (hb : okI bI 24) (hm : okI mI 4) (hs : okI sI 8) (h : ∀ M', (∀ i, i < 6 → M'.1 36 i = krc N bI mI sI lot hour w i) → M'.1 35 1 = krV N bI mI sI lot w → Rep 1 (kr1 N bI mI sI lot w) M'.1 → FrC M M' → q M') : w_X7_goKept 35 1 bI mI sI lot hour w M q := by
  have hm4 : mI.toInt.toNat < 4 := by omega
  have z := bP_6 hI (b := bI.toInt.toNat) (by omega)
  have sz := inv_size40 hI z.1
  obtain ⟨a1, a2, a3, a4⟩ := cz_m _ hm4
  have main : ∀ (M1 : Mem) (N0 : Nat → Int32), Rep 1 N0 M1.1 → InvN N0 → agr mI.toInt.toNat N N0 → M1.2.2 35 8 = some (1 + (16 + 4 * mI.toInt.toNat)) → M1.2.2 35 9 = some (1 + (18 + 4 * mI.toInt.toNat)) → M1.2.2 35 10 = some (1 + (19 + 4 * mI.toInt.toNat)) → (∀ i, i < 16 → M1.1 (1 + (18 + 4 * mI.toInt.toNat)) i = krO N mI.toInt.toNat w i) → (∀ i, i < 16 → M1.1 (1 + (19 + 4 * mI.toInt.toNat)) i = krG N mI.toInt.toNat w i) → FrC M M1 → (∀ a, 1 ≤ a → a < 33 → a ≠ 1 + (18 + 4 * mI.toInt.toNat) → a ≠ 1 + (19 + 4 * mI.toInt.toNat) → M1.1 a = M.1 a) → w_X7_goKept_b41 35 1 bI sI lot hour M1 q := by
    intro M1 N0 R1 I0 ag g8 g9 g10 hO hG F1 fr1
    unfold w_X7_goKept_b41
    refine ⟨_, g8, sh_m _ hm4, s_place R1 I0 hm4 (fun M14 e14 => ?_)⟩
    have a14 : ∀ a b, ¬ (a = 35 ∧ b = 11) → M14.1 a b = M1.1 a b := fun a b hab => by rw [e14]; exact if_neg hab
    have c11 : M14.1 35 11 = plcF N0 mI.toInt.toNat lot := by rw [e14, uI_s]
    have m14 : M14.2 = M1.2 := by rw [e14]; rfl
    clear e14
    have R14 : Rep 1 N0 M14.1 := rep_fr (fun a h1 h2 => by funext b; exact a14 a b (by omega)) R1
    have eP : N0 (1026 + 2 * bI.toInt.toNat) = N (1026 + 2 * bI.toInt.toNat) := ag _ (by omega) (by omega)
    have eC : N0 (1026 + 2 * bI.toInt.toNat + 1) = N (1026 + 2 * bI.toInt.toNat + 1) := ag _ (by omega) (by omega)
    refine ⟨vp_of (ix_n hb.1) (by omega), vp_of (ix_n hb.1) (by omega), ?_⟩
    rw [tn_eq, show M14.1 (1 + 1 + 6) bI.toInt.toNat = N (1026 + 2 * bI.toInt.toNat) from by rw [← eP]; exact rd_bp R14 (by omega), show M14.1 (1 + 1 + 7) bI.toInt.toNat = N (1026 + 2 * bI.toInt.toNat + 1) from by rw [← eC]; exact rd_bc R14 (by omega)]
    refine s_begin R14 I0 z.2 z.1 (ix_n hs.1) (by omega) (fun M7 b1 b2 b3 b4 bF => ?_)
    have R7 : Rep 1 N0 M7.1 := rep_fr (fun a h1 h2 => by funext b; exact bF.1 a b (by omega) (by omega) (by omega) (by omega)) R14
    have G8 : M7.2.2 35 8 = some (1 + (16 + 4 * mI.toInt.toNat)) := by rw [bF.2, m14]; exact g8
    refine ⟨_, G8, sh_m _ hm4, s_noise R7 hm4 ?_⟩
    have sz0 := inv_size40 I0 z.1
    have cx : CX N0 mI.toInt.toNat (1 + (16 + 4 * mI.toInt.toNat)) (1 + (18 + 4 * mI.toInt.toNat)) (1 + (19 + 4 * mI.toInt.toNat)) (plcF N0 mI.toInt.toNat lot) M7 := by
      refine ⟨⟨G8, by rw [bF.2, m14]; exact g9, by rw [bF.2, m14]; exact g10⟩, ⟨rd_mach R7 (r := 8) hm4 (by decide) (by decide), rd_mach R7 (r := 9) hm4 (by decide) (by decide), rd_mach R7 (r := 10) hm4 (by decide) (by decide), rd_mach R7 (r := 11) hm4 (by decide) (by decide), rd_mach R7 (r := 12) hm4 (by decide) (by decide), fun a ha => ?_⟩, ?_⟩
      · rw [show 1 + (16 + 4 * mI.toInt.toNat) + 1 = 1 + (17 + 4 * mI.toInt.toNat) from by omega]
        exact rd_price R7 hm4 ha
      · rw [bF.1 35 11 (by decide) (by decide) (by decide) (by decide), c11]
    have eg : byG N0 mI.toInt.toNat sI.toInt.toNat lot (bP N bI) (bC N bI) (krO N mI.toInt.toNat w) (krG N mI.toInt.toNat w) = krg N bI mI sI lot w := byG_cg ag hm4 hI (by omega) z.1
    have ec : byC N0 mI.toInt.toNat sI.toInt.toNat lot hour (bP N bI) (bC N bI) (krO N mI.toInt.toNat w) (krG N mI.toInt.toNat w) = krc N bI mI sI lot hour w := byC_cg ag hm4 hI (by omega) z.1
    have hb6 : bP N bI < 6 := z.1
    have eL : N0 (960 + bP N bI) = N (960 + bP N bI) := ag _ (by omega) (by omega)
    refine s_go11 (R := R0 N0 sI.toInt.toNat) (O := krO N mI.toInt.toNat w) (G := krG N mI.toInt.toNat w) (C := asm N0 (bP N bI) (bC N bI) (toN (N0 4211))) (L := toN (N0 (960 + bP N bI))) I0 (cz_kept hm4) cx (by omega) hm4 plc_rg (by rw [b1]; exact sz0.1) sz0.2 b2 (fun l hl => inv_asm I0 z.1 l hl) b3 b4 (fun i hi => ?_) (fun i hi => ?_) (fun M' c1 c2 c3 c4 cF => h M' (fun i hi => ?_) ?_ ?_ (F1.tr ⟨fun a h1 h2 => ?_, fun a ha => ?_, ?_⟩))
    · rw [bF.1 _ i (by omega) (by omega) (by omega) (by omega), a14 _ i (by omega)]; exact hO i hi
    · rw [bF.1 _ i (by omega) (by omega) (by omega) (by omega), a14 _ i (by omega)]; exact hG i hi
    · rw [c1 i hi, ← ec]; rfl
    · rw [c2]
      unfold krV
      rw [← eg, ← eL]
      rfl
    · unfold kr1
      rw [← eg]
      refine rep_set2 hm4 hR (fun a h1 h2 h3 h4 => ?_) (fun i hi => c3 i hi) (fun i hi => c4 i hi)
      rw [cF.1 a (by omega) (by omega) (by omega) (by omega) (by omega) (by omega), ← fr1 a h1 h2 h3 h4]
      funext b
      rw [bF.1 a b (by omega) (by omega) (by omega) (by omega), a14 a b (by omega)]
    · funext b
      rw [cF.1 a (by omega) (by omega) (by omega) (by omega) (by omega) (by omega), bF.1 a b (by omega) (by omega) (by omega) (by omega), a14 a b (by omega)]
    · rw [cF.2.2, bF.2, m14]
    · funext b
      rw [cF.1 34 (by omega) (by omega) (by omega) (by omega) (by omega) (by omega), bF.1 34 b (by omega) (by omega) (by omega) (by omega), a14 34 b (by omega)]
  unfold w_X7_goKept
  refine ⟨vp_of (ix_n hm.1) (by omega), fun M15 e15 => ?_⟩
  rw [tn_eq, show 1 + 10 + 6 + 4 * mI.toInt.toNat = 1 + (16 + 4 * mI.toInt.toNat) from by omega] at e15
  have g15 : M15.2.2 35 8 = some (1 + (16 + 4 * mI.toInt.toNat)) := by rw [e15]; simp [uR]
  refine ⟨_, g15, sh_m _ hm4, fun M17 e17 => ?_⟩
  have g17 : M17.2.2 35 8 = some (1 + (16 + 4 * mI.toInt.toNat)) := by rw [e17]; simp [uR]; exact g15
  refine ⟨_, g17, sh_m _ hm4, fun M19 e19 => ?_⟩
  rw [show 1 + (16 + 4 * mI.toInt.toNat) + 2 = 1 + (18 + 4 * mI.toInt.toNat) from by omega] at e17
  rw [show 1 + (16 + 4 * mI.toInt.toNat) + 3 = 1 + (19 + 4 * mI.toInt.toNat) from by omega] at e19
  have k8 : M19.2.2 35 8 = some (1 + (16 + 4 * mI.toInt.toNat)) := by rw [e19]; simp [uR]; exact g17
  have k9 : M19.2.2 35 9 = some (1 + (18 + 4 * mI.toInt.toNat)) := by rw [e19, e17]; simp [uR]
  have k10 : M19.2.2 35 10 = some (1 + (19 + 4 * mI.toInt.toNat)) := by rw [e19]; simp [uR]
  have m1 : M19.1 = M.1 := by rw [e19, e17, e15]; rfl
  have m2 : M19.2.1 = M.2.1 := by rw [e19, e17, e15]; rfl
  clear e15 e17 e19 g15 g17
  refine ⟨fun w0 => main M19 N (by rw [m1]; exact hR) hI (fun _ _ _ => rfl) k8 k9 k10 (fun i hi => ?_) (fun i hi => ?_) ⟨fun k _ _ => by rw [m1], fun k _ => by rw [m2], by rw [m1]⟩ (fun a _ _ _ _ => by rw [m1]), fun w0 => ?_⟩
  · rw [m1]; unfold krO; rw [if_neg w0]; exact rd_room hR hm4 hi
  · rw [m1]; unfold krG; rw [if_neg w0]; exact rd_said hR hm4 hi
  · unfold w_X7_empty
    refine ⟨_, k9, a1, s_fill a3 (by decide) ⟨_, k10, a2, s_fill a4 (by decide) ?_⟩⟩
    refine main _ (flN (flN N (1106 + 60 * mI.toInt.toNat + 20) 16 (-1)) (1106 + 60 * mI.toInt.toNat + 36) 16 0) ?_ ?_ ?_ k8 k9 k10 (fun i hi => ?_) (fun i hi => ?_) ?_ (fun a h1 h2 h3 h4 => ?_)
    · refine rep_fl (M := flI M19 (1 + (18 + 4 * mI.toInt.toNat)) 16 (-1)) (c := 19 + 4 * mI.toInt.toNat) ?_ 16 (fun i hi => loc_said hm4 hi) (by omega) (by omega)
      exact rep_fl (M := M19) (c := 18 + 4 * mI.toInt.toNat) (by rw [m1]; exact hR) 16 (fun i hi => loc_room hm4 hi) (by omega) (by omega)
    · have rr : ∀ (a : Nat) (v : Int32), 20 ≤ a → a < 52 → (rg (1106 + 60 * mI.toInt.toNat + a)).1 ≤ v.toInt ∧ v.toInt ≤ (rg (1106 + 60 * mI.toInt.toNat + a)).2 := fun a v h1 h2 => by
        rw [rg_mach hm4 (by omega)]
        have : rgM a = (-2147483648, 2147483647) := by grind [rgM]
        rw [this]
        exact i_any _
      refine inv_fl (inv_fl hI 16 (fun i hi => ?_) (by omega) (by omega)) 16 (fun i hi => ?_) (by omega) (by omega)
      · rw [Nat.add_assoc]; exact rr _ _ (by omega) (by omega)
      · rw [Nat.add_assoc]; exact rr _ _ (by omega) (by omega)
    · intro i hi hh
      rw [flN_o (by omega), flN_o (by omega)]
    · rw [fl_k (by omega), fl_in hi]; unfold krO; rw [if_pos w0]
    · rw [fl_in hi]; unfold krG; rw [if_pos w0]
    · refine ⟨fun k h1 h2 => ?_, fun k _ => ?_, ?_⟩
      · funext b; rw [fl_k (by omega), fl_k (by omega), m1]
      · show M19.2.1 k = _; rw [m2]
      · funext b; rw [fl_k (by omega), fl_k (by omega), m1]
    · funext b; rw [fl_k h4, fl_k h3, m1]

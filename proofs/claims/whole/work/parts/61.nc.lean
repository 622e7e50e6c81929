/-! the lines of a build -/
def ovl (f : Nat → Int32) (l b : Nat) (N : Nat → Int32) : Nat → Int32 := fun j => if 4 * l ≤ j ∧ j < 4 * l + 4 then N (b + (j - 4 * l)) else f j
def asm (N : Nat → Int32) (pn : Nat) (ch : Int32) : Nat → Nat → Int32
  | 0 => fun j => if j < 160 then N (160 * pn + j) else 0
  | c + 1 => if ((ch >>> (Int32.ofNat c &&& 31)) &&& (1 : Int32)) = 1 then ovl (asm N pn ch c) (toN (N (966 + 6 * c + 1))) (968 + 6 * c) N else asm N pn ch c
theorem asm_0 {N : Nat → Int32} {pn j : Nat} {ch : Int32} (h : j < 160) : asm N pn ch 0 j = N (160 * pn + j) := if_pos h
theorem asm_t {N : Nat → Int32} {pn c : Nat} {ch : Int32} (h : bitS ch c) : asm N pn ch (c + 1) = ovl (asm N pn ch c) (toN (N (966 + 6 * c + 1))) (968 + 6 * c) N := if_pos h
theorem asm_f {N : Nat → Int32} {pn c : Nat} {ch : Int32} (h : ¬ bitS ch c) : asm N pn ch (c + 1) = asm N pn ch c := if_neg h
theorem ovl_i {f N : Nat → Int32} {l b k : Nat} (hk : k < 4) : ovl f l b N (4 * l + k) = N (b + k) := by
  unfold ovl
  rw [if_pos (by omega), show 4 * l + k - 4 * l = k from by omega]
theorem ovl_o {f N : Nat → Int32} {l b l' k : Nat} (h : l' ≠ l) (hk : k < 4) : ovl f l b N (4 * l' + k) = f (4 * l' + k) := by
  unfold ovl
  rw [if_neg (by omega)]
theorem asm_ok {N : Nat → Int32} (hI : InvN N) {pn : Nat} {ch : Int32} (hp : pn < 6) : ∀ c, c ≤ 10 → ∀ l, l < 40 → okLine (asm N pn ch c (4 * l)) (asm N pn ch c (4 * l + 1)) (asm N pn ch c (4 * l + 2)) (asm N pn ch c (4 * l + 3)) := by
  intro c
  induction c with
  | zero =>
    intro _ l hl
    have := hI.2.1 (40 * pn + l) (by omega)
    unfold okL at this
    rw [asm_0 (by omega), asm_0 (by omega), asm_0 (by omega), asm_0 (by omega)]
    rw [show 4 * (40 * pn + l) = 160 * pn + 4 * l from by omega] at this
    exact this
  | succ c ih =>
    intro hc l hl
    by_cases hb : bitS ch c
    · rw [asm_t hb]
      by_cases e : l = toN (N (966 + 6 * c + 1))
      · subst e
        have := hI.2.2.1 c (by omega)
        unfold okL at this
        have o0 : ovl (asm N pn ch c) (toN (N (966 + 6 * c + 1))) (968 + 6 * c) N (4 * toN (N (966 + 6 * c + 1))) = N (968 + 6 * c) := ovl_i (k := 0) (by decide)
        rw [o0, ovl_i (by decide), ovl_i (by decide), ovl_i (by decide)]
        exact this
      · have o0 : ovl (asm N pn ch c) (toN (N (966 + 6 * c + 1))) (968 + 6 * c) N (4 * l) = asm N pn ch c (4 * l) := ovl_o (k := 0) e (by decide)
        rw [o0, ovl_o e (by decide), ovl_o e (by decide), ovl_o e (by decide)]
        exact ih (by omega) l hl
    · rw [asm_f hb]
      exact ih (by omega) l hl
theorem s_asm12 {pI ch : Int32} {pn : Nat} {M : Mem} {q : Mem → Prop} (hI : InvN (M.1 136)) (hp : pI.toInt = pn) (hp6 : pn < 6) (h : ∀ M', M'.1 135 4 = M.1 136 (960 + pn) → (∀ j, j < 4 * toN (M.1 136 (960 + pn)) → M'.1 139 j = asm (M.1 136) pn ch (toN (M.1 136 4211)) j) → FrB 135 4 139 M M' → q M') : w_X12_assemble pI ch M q := by
  have iz := hI.1 (960 + pn) (by omega)
  rw [rg_size hp6] at iz
  have iz : 0 ≤ (M.1 136 (960 + pn)).toInt ∧ (M.1 136 (960 + pn)).toInt ≤ 40 := iz
  have i1 : 0 ≤ (M.1 136 4211).toInt ∧ (M.1 136 4211).toInt ≤ 10 := hI.1 4211 (by decide)
  have f4 : (4 : Int32).toInt = 4 := rfl
  have E := ix_a (e := (960 : Int32)) (a := 960) rfl hp (by omega)
  unfold w_X12_assemble
  refine ⟨vp_of E (by omega), fun M19 e19 => ?_⟩
  rw [i_of E] at e19
  have F19 : FrB 135 4 139 M M19 := by rw [e19]; exact frb_s
  have s19 : M19.1 135 4 = M.1 136 (960 + pn) := by rw [e19, uI_s]
  clear e19
  have hLn : toN (M.1 136 (960 + pn)) = (M.1 136 (960 + pn)).toInt.toNat := rfl
  have hCn : toN (M.1 136 4211) = (M.1 136 4211).toInt.toNat := rfl
  have EL : ((4 : Int32) * M.1 136 (960 + pn)).toInt = ((4 * toN (M.1 136 (960 + pn)) : Nat) : Int) := ix_m rfl (ix_n iz.1) (by omega)
  unfold w_X12_assemble_l16
  refine lfp_for (i0 := 0) (n := 4 * toN (M.1 136 (960 + pn))) (fun (i : Nat) (t : Int32 × Mem) => t.1.toInt = (i : Int) ∧ t.2.1 135 4 = M.1 136 (960 + pn) ∧ (∀ j, j < i → t.2.1 139 j = M.1 136 (160 * pn + j)) ∧ FrB 135 4 139 M t.2) ?_ (by omega) ⟨rfl, s19, fun j hj => absurd hj (by omega), F19⟩
  intro P i st hi hJ hP
  obtain ⟨a, M1⟩ := st
  obtain ⟨ha0, hs0, hj0, hF0⟩ := hJ
  have ha : a.toInt = (i : Int) := ha0
  have hs : M1.1 135 4 = M.1 136 (960 + pn) := hs0
  have hj : ∀ j, j < i → M1.1 139 j = M.1 136 (160 * pn + j) := hj0
  have hF : FrB 135 4 139 M M1 := hF0
  clear ha0 hs0 hj0 hF0
  have e6 : M1.1 136 = M.1 136 := hF.row (by decide) (by decide)
  unfold w_X12_assemble_l16F
  dsimp only
  rw [hs, le_i, EL, ha, e6]
  refine ⟨fun z => ?_, fun z => ?_⟩
  · have ei : i = 4 * toN (M.1 136 (960 + pn)) := by omega
    subst ei
    clear P hP
    unfold w_X12_assemble_l54
    refine lfp_for (i0 := 0) (n := toN (M.1 136 4211)) (fun (c : Nat) (t : Int32 × Mem) => t.1.toInt = (c : Int) ∧ t.2.1 135 4 = M.1 136 (960 + pn) ∧ (∀ j, j < 4 * toN (M.1 136 (960 + pn)) → t.2.1 139 j = asm (M.1 136) pn ch c j) ∧ FrB 135 4 139 M t.2) ?_ (by omega) ⟨rfl, hs, fun j hj' => by rw [asm_0 (by omega)]; exact hj j hj', hF⟩
    clear hs hj hF e6 ha
    intro P c st hc hJ hP
    obtain ⟨b, M2⟩ := st
    obtain ⟨hb0, hs0, hj0, hF0⟩ := hJ
    have hb : b.toInt = (c : Int) := hb0
    have hs : M2.1 135 4 = M.1 136 (960 + pn) := hs0
    have hj : ∀ j, j < 4 * toN (M.1 136 (960 + pn)) → M2.1 139 j = asm (M.1 136) pn ch c j := hj0
    have hF : FrB 135 4 139 M M2 := hF0
    clear hb0 hs0 hj0 hF0
    have e6 : M2.1 136 = M.1 136 := hF.row (by decide) (by decide)
    unfold w_X12_assemble_l54F w_X12_assemble_b134
    dsimp only
    rw [e_many1, e6, bit_i hb, le_i, hb]
    have next : ∀ M', M'.1 135 4 = M.1 136 (960 + pn) → (∀ j, j < 4 * toN (M.1 136 (960 + pn)) → M'.1 139 j = asm (M.1 136) pn ch (c + 1) j) → FrB 135 4 139 M M' → c < toN (M.1 136 4211) → ∀ x : Int32, x = b + 1 → P (x, M') := fun M' h1 h2 h3 hlt x ex => by
      refine hP (x, M') hlt ⟨?_, h1, h2, h3⟩
      show x.toInt = ((c + 1 : Nat) : Int)
      rw [ex]; exact ix_a hb rfl (by omega)
    refine ⟨fun z => ?_, fun z => ⟨fun nb => next M2 hs (by rw [asm_f nb]; exact hj) hF (by omega), fun hbit => ?_⟩⟩
    · have ec : c = toN (M.1 136 4211) := by omega
      rw [ec] at hj
      exact h M2 hs hj hF
    · have hcl : c < toN (M.1 136 4211) := by omega
      have il : 0 ≤ (M.1 136 (966 + 6 * c + 1)).toInt ∧ (M.1 136 (966 + 6 * c + 1)).toInt ≤ 39 := by
        have := hI.1 (966 + 6 * c + 1) (by omega)
        rw [rg_cl (by omega)] at this
        exact this
      have E6 := ix_a (e := (966 : Int32)) (a := 966) rfl (ix_m (e := (6 : Int32)) (a := 6) rfl hb (by omega)) (by omega)
      have E61 := ix_a E6 (w := 1) (i := 1) rfl (by omega)
      have E62 := ix_a E6 (w := 2) (i := 2) rfl (by omega)
      refine ⟨vp_of E61 (by omega), fun x12 e12 => ?_⟩
      rw [i_of E61] at e12
      have hln : toN (M.1 136 (966 + 6 * c + 1)) = (M.1 136 (966 + 6 * c + 1)).toInt.toNat := rfl
      have E12 : x12.toInt = ((4 * toN (M.1 136 (966 + 6 * c + 1)) : Nat) : Int) := by rw [e12]; exact ix_m rfl (ix_n il.1) (by omega)
      unfold w_X12_assemble_l94
      refine lfp_for (i0 := 0) (n := 4) (fun (k : Nat) (t : Int32 × Mem) => t.1.toInt = (k : Int) ∧ t.2.1 135 4 = M.1 136 (960 + pn) ∧ (∀ j, j < 4 * toN (M.1 136 (960 + pn)) → t.2.1 139 j = if 4 * toN (M.1 136 (966 + 6 * c + 1)) ≤ j ∧ j < 4 * toN (M.1 136 (966 + 6 * c + 1)) + k then M.1 136 (968 + 6 * c + (j - 4 * toN (M.1 136 (966 + 6 * c + 1)))) else asm (M.1 136) pn ch c j) ∧ FrB 135 4 139 M t.2) ?_ (by omega) ⟨rfl, hs, fun j hj' => by rw [if_neg (by omega)]; exact hj j hj', hF⟩
      clear hs hj hF e6
      intro P' k st hk hJ hP'
      obtain ⟨d, M3⟩ := st
      obtain ⟨hd0, hs0, hj0, hF0⟩ := hJ
      have hd : d.toInt = (k : Int) := hd0
      have hs : M3.1 135 4 = M.1 136 (960 + pn) := hs0
      have hj : ∀ j, j < 4 * toN (M.1 136 (960 + pn)) → M3.1 139 j = if 4 * toN (M.1 136 (966 + 6 * c + 1)) ≤ j ∧ j < 4 * toN (M.1 136 (966 + 6 * c + 1)) + k then M.1 136 (968 + 6 * c + (j - 4 * toN (M.1 136 (966 + 6 * c + 1)))) else asm (M.1 136) pn ch c j := hj0
      have hF : FrB 135 4 139 M M3 := hF0
      clear hd0 hs0 hj0 hF0
      have e6 : M3.1 136 = M.1 136 := hF.row (by decide) (by decide)
      unfold w_X12_assemble_l94F w_X12_assemble_b134
      dsimp only
      rw [e6, le_i, hd, f4]
      refine ⟨fun zk => next M3 hs ?_ hF hcl, fun zk => ?_⟩
      · intro j hj'
        have ek : k = 4 := by omega
        subst ek
        rw [asm_t hbit, hj j hj']
        rfl
      · have Ek := ix_a E62 hd (by omega)
        have E4 := ix_a E12 hd (by omega)
        refine ⟨vp_of Ek (by omega), vp_of E4 (by omega), fun M5 e5 x6 ex6 => ?_⟩
        rw [i_of Ek, i_of E4] at e5
        refine hP' (x6, M5) (by omega) ⟨?_, ?_, fun j hj' => ?_, hF.tr (by rw [e5]; exact frb_a)⟩
        · show x6.toInt = ((k + 1 : Nat) : Int)
          rw [ex6]; exact ix_a hd rfl (by omega)
        · show M5.1 135 4 = _
          rw [e5, uI_k (by decide), hs]
        · show M5.1 139 j = _
          by_cases e : j = 4 * toN (M.1 136 (966 + 6 * c + 1)) + k
          · subst e
            rw [e5, uI_s, if_pos (by omega), show 968 + 6 * c + (4 * toN (M.1 136 (966 + 6 * c + 1)) + k - 4 * toN (M.1 136 (966 + 6 * c + 1))) = 966 + 6 * c + 2 + k from by omega]
          · rw [e5, uI_j e, hj j hj']
            by_cases k1 : 4 * toN (M.1 136 (966 + 6 * c + 1)) ≤ j ∧ j < 4 * toN (M.1 136 (966 + 6 * c + 1)) + k
            · rw [if_pos k1, if_pos (by omega)]
            · rw [if_neg k1, if_neg (by omega)]
  · have E0 := ix_a (ix_a (e := (0 : Int32)) (a := 0) rfl (ix_m (e := (160 : Int32)) (a := 160) rfl hp (by omega)) (by omega)) ha (by omega)
    refine ⟨vp_of E0 (by omega), vp_of ha (by omega), fun M5 e5 x6 ex6 => ?_⟩
    rw [i_of E0, i_of ha] at e5
    refine hP (x6, M5) (by omega) ⟨?_, ?_, fun j hj' => ?_, hF.tr (by rw [e5]; exact frb_a)⟩
    · show x6.toInt = ((i + 1 : Nat) : Int)
      rw [ex6]; exact ix_a ha rfl (by omega)
    · show M5.1 135 4 = _
      rw [e5, uI_k (by decide), hs]
    · show M5.1 139 j = _
      by_cases e : j = i
      · subst e
        rw [e5, uI_s, show 0 + 160 * pn + j = 160 * pn + j from by omega]
      · rw [e5, uI_j e]
        exact hj j (by omega)

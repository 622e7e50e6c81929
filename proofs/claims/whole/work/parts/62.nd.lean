/-! the class begins a run -/
def R0 (N : Nat → Int32) (sn : Nat) : Nat → Int32 := fun k => if k < 4 then 0 else if k < 8 then N (1074 + 4 * sn + (k - 4)) else 0
theorem nl_cg {f g : Nat → Int32} {j j' r : Nat} (h0 : f j = g j') (h1 : f (j - r) = g (j' - r)) : nl f j r = nl g j' r := by
  unfold nl
  by_cases r0 : r = 0
  · rw [if_pos r0, if_pos r0, h0]
  · rw [if_neg r0, if_neg r0]
    by_cases r3 : r = 3
    · subst r3
      rw [if_pos rfl, if_pos rfl, h0, h1]
    · rw [if_neg r3, if_neg r3, h0, h1]
theorem rd_line {M : Mem} {N : Nat → Int32} (hR : Rep 1 N M.1) {pn l k : Nat} (hp : pn < 6) (hl : l < 40) (hk : k < 4) : M.1 4 (160 * pn + (4 * l + k)) = nl (asm N pn 0 0) (4 * l + k) k := by
  have e : M.1 (1 + 3) (160 * pn + 4 * l + k) = nv N (160 * pn + 4 * l + k) := hR (160 * pn + 4 * l + k) (by omega) 3 _ (loc_ln (by omega))
  rw [show 160 * pn + (4 * l + k) = 160 * pn + 4 * l + k from by omega]
  show M.1 (1 + 3) _ = _
  rw [e, nv_blk (Or.inl ⟨by omega, by omega⟩) hk]
  refine nl_cg ?_ ?_
  · rw [asm_0 (by omega), show 160 * pn + (4 * l + k) = 160 * pn + 4 * l + k from by omega]
  · rw [asm_0 (by omega), show 160 * pn + (4 * l + k - k) = 160 * pn + 4 * l + k - k from by omega]
theorem rd_chl {M : Mem} {N : Nat → Int32} (hR : Rep 1 N M.1) {c k : Nat} (hc : c < 10) (hk : k < 4) : M.1 7 (4 * c + k) = nl N (968 + 6 * c + k) k := by
  have e : M.1 (1 + 6) (4 * c + k) = nv N (966 + 6 * c + 2 + k) := hR _ (by omega) 6 _ (loc_ch hc hk)
  show M.1 (1 + 6) _ = _
  rw [e, show 966 + 6 * c + 2 + k = 968 + 6 * c + k from by omega, nv_blk (Or.inr ⟨by omega, by omega, by omega⟩) hk]
theorem cp_in {M : Mem} {k0 k1 sp dp n b : Nat} (h : dp ≤ b ∧ b < dp + n) : (cpI M k0 k1 sp dp n).1 k1 b = M.1 k0 (sp + (b - dp)) := by
  show (if k1 = k1 then va_cpy (M.1 k0) (M.1 k1) sp dp n b else M.1 k1 b) = _
  rw [if_pos rfl]
  exact if_pos h
theorem cp_out {M : Mem} {k0 k1 sp dp n b : Nat} (h : ¬ (dp ≤ b ∧ b < dp + n)) : (cpI M k0 k1 sp dp n).1 k1 b = M.1 k1 b := by
  show (if k1 = k1 then va_cpy (M.1 k0) (M.1 k1) sp dp n b else M.1 k1 b) = _
  rw [if_pos rfl]
  exact if_neg h
theorem cp_k {M : Mem} {k0 k1 sp dp n a b : Nat} (h : a ≠ k1) : (cpI M k0 k1 sp dp n).1 a b = M.1 a b := if_neg h
theorem frb_c {ks js ka k0 sp dp n : Nat} {M : Mem} : FrB ks js ka M (cpI M k0 ka sp dp n) := ⟨fun a b h1 _ => cp_k h1, rfl⟩
def FrH (M M' : Mem) : Prop := (∀ a b, a ≠ 37 → a ≠ 38 → a ≠ 39 → ¬ (a = 35 ∧ b = 3) → M'.1 a b = M.1 a b) ∧ M'.2 = M.2
theorem not_neg {e : Int32} {a : Nat} (h : e.toInt = a) : ¬ e < 0 := by
  have f0 : (0 : Int32).toInt = 0 := rfl
  rw [lt_i, f0]
  omega
theorem s_begin {pI ch sI : Int32} {pn sn : Nat} {M : Mem} {N : Nat → Int32} {q : Mem → Prop} (hR : Rep 1 N M.1) (hI : InvN N) (hp : pI.toInt = pn) (hp6 : pn < 6) (hs : sI.toInt = sn) (hs8 : sn < 8) (h : ∀ M', M'.1 35 3 = N (960 + pn) → (∀ l, l < toN (N (960 + pn)) → ∀ k, k < 4 → M'.1 37 (4 * l + k) = nl (asm N pn ch (toN (N 4211))) (4 * l + k) k) → (∀ i, i < 8 → M'.1 38 i = R0 N sn i) → (∀ i, i < 64 → M'.1 39 i = 0) → FrH M M' → q M') : w_X7_begin 35 2 pI ch sI M q := by
  have iz := hI.1 (960 + pn) (by omega)
  rw [rg_size hp6] at iz
  have iz : 0 ≤ (N (960 + pn)).toInt ∧ (N (960 + pn)).toInt ≤ 40 := iz
  have i1 : 0 ≤ (N 4211).toInt ∧ (N 4211).toInt ≤ 10 := hI.1 4211 (by decide)
  have hLn : toN (N (960 + pn)) = (N (960 + pn)).toInt.toNat := rfl
  have hCn : toN (N 4211) = (N 4211).toInt.toNat := rfl
  unfold w_X7_begin
  refine ⟨vp_of hp hp6, fun M18 e18 => ?_⟩
  have e18 : M18 = uI M 35 3 (N (960 + pn)) := by rw [e18, i_of hp, show M.1 (2 + 1) pn = N (960 + pn) from rd_size hR hp6]
  have s18 : M18.1 35 3 = N (960 + pn) := by rw [e18, uI_s]
  have F18 : FrB 35 3 37 M M18 := by rw [e18]; exact frb_s
  have Ep := ix_m (ix_m hp (w := (40 : Int32)) (i := 40) rfl (by omega)) (w := (4 : Int32)) (i := 4) rfl (by omega)
  have Es := ix_m (ix_n iz.1) (w := (4 : Int32)) (i := 4) rfl (by omega)
  rw [s18, i_of Ep, i_of Es]
  refine ⟨not_neg Ep, not_neg Es, by omega, by omega, fun M23 e23 => ?_⟩
  have F23 : FrB 35 3 37 M M23 := F18.tr (by rw [e23]; exact frb_c)
  have s23 : M23.1 35 3 = N (960 + pn) := by rw [e23, cp_k (by decide), s18]
  have l23 : ∀ l, l < toN (N (960 + pn)) → ∀ k, k < 4 → M23.1 37 (4 * l + k) = nl (asm N pn ch 0) (4 * l + k) k := fun l hl k hk => by
    rw [e23]
    show (cpI M18 (2 + 2) 37 _ 0 _).1 37 (4 * l + k) = _
    rw [cp_in (by omega), show pn * 40 * 4 + (4 * l + k - 0) = 160 * pn + (4 * l + k) from by omega]
    exact rd_line (F18.rep (by decide) (by decide) hR) hp6 (by omega) hk
  clear e23 e18 s18 F18
  unfold w_X7_begin_l37
  refine lfp_for (i0 := 0) (n := toN (N 4211)) (fun (c : Nat) (t : Int32 × Mem) => t.1.toInt = (c : Int) ∧ t.2.1 35 3 = N (960 + pn) ∧ (∀ l, l < toN (N (960 + pn)) → ∀ k, k < 4 → t.2.1 37 (4 * l + k) = nl (asm N pn ch c) (4 * l + k) k) ∧ FrB 35 3 37 M t.2) ?_ (by omega) ⟨rfl, s23, l23, F23⟩
  clear s23 l23 F23
  intro P c st hc hJ hP
  obtain ⟨b, M2⟩ := st
  obtain ⟨hb0, hs0, hj0, hF0⟩ := hJ
  have hb : b.toInt = (c : Int) := hb0
  have s2 : M2.1 35 3 = N (960 + pn) := hs0
  have l2 : ∀ l, l < toN (N (960 + pn)) → ∀ k, k < 4 → M2.1 37 (4 * l + k) = nl (asm N pn ch c) (4 * l + k) k := hj0
  have F2 : FrB 35 3 37 M M2 := hF0
  clear hb0 hs0 hj0 hF0
  have hR2 : Rep 1 N M2.1 := F2.rep (by decide) (by decide) hR
  unfold w_X7_begin_l37F w_X7_begin_b81
  dsimp only
  rw [rc1 hR2, bit_i hb, le_i, hb]
  have next : ∀ M', M'.1 35 3 = N (960 + pn) → (∀ l, l < toN (N (960 + pn)) → ∀ k, k < 4 → M'.1 37 (4 * l + k) = nl (asm N pn ch (c + 1)) (4 * l + k) k) → FrB 35 3 37 M M' → c < toN (N 4211) → ∀ x : Int32, x = b + 1 → P (x, M') := fun M' h1 h2 h3 hlt x ex => by
    refine hP (x, M') hlt ⟨?_, h1, h2, h3⟩
    show x.toInt = ((c + 1 : Nat) : Int)
    rw [ex]; exact ix_a hb rfl (by omega)
  refine ⟨fun z => ?_, fun z => ⟨fun nb => next M2 s2 (by rw [asm_f nb]; exact l2) F2 (by omega), fun hbit => ?_⟩⟩
  · have ec : c = toN (N 4211) := by omega
    rw [ec] at l2
    refine s_fill (k := 35 + 4) (n := 64) rfl (by decide) (s_fill (k := 35 + 3) (n := 8) rfl (by decide) ?_)
    have E4 := ix_m hs (w := (4 : Int32)) (i := 4) rfl (by omega)
    rw [i_of E4]
    refine ⟨not_neg E4, by omega, fun M9 e9 => ?_⟩
    have a3 : ∀ a b, a ≠ 39 → (flI M2 39 64 0).1 a b = M2.1 a b := fun a b ha => if_neg (fun x => ha x.1)
    have a5 : ∀ a b, a ≠ 38 → (flI (flI M2 39 64 0) 38 8 0).1 a b = (flI M2 39 64 0).1 a b := fun a b ha => if_neg (fun x => ha x.1)
    have a9 : ∀ a b, a ≠ 38 → a ≠ 39 → M9.1 a b = M2.1 a b := fun a b h1 h2 => by
      rw [e9]
      show (cpI (flI (flI M2 39 64 0) 38 8 0) (2 + 8) 38 _ 4 4).1 a b = _
      rw [cp_k h1, a5 a b h1, a3 a b h2]
    refine h M9 ?_ (fun l hl k hk => ?_) (fun i hi => ?_) (fun i hi => ?_) ⟨fun a b h1 h2 h3 h4 => ?_, ?_⟩
    · rw [a9 _ _ (by decide) (by decide), s2]
    · rw [a9 _ _ (by decide) (by decide)]; exact l2 l hl k hk
    · unfold R0
      rw [e9]
      show (cpI (flI (flI M2 39 64 0) 38 8 0) (2 + 8) 38 _ 4 4).1 38 i = _
      by_cases k : i < 4
      · rw [if_pos k, cp_out (by omega)]
        exact if_pos ⟨rfl, by omega⟩
      · rw [if_neg k, if_pos hi, cp_in (by omega), a5 _ _ (by decide), a3 _ _ (by decide)]
        show M2.1 10 _ = _
        rw [rd_val hR2 (by omega)]
        congr 1
        omega
    · rw [e9]
      show (cpI (flI (flI M2 39 64 0) 38 8 0) (2 + 8) 38 _ 4 4).1 39 i = _
      rw [cp_k (by decide), a5 _ _ (by decide)]
      exact if_pos ⟨rfl, hi⟩
    · rw [a9 a b h2 h3]
      exact F2.1 a b h1 h4
    · rw [e9]
      exact F2.2
  · have hcl : c < toN (N 4211) := by omega
    have il : 0 ≤ (N (966 + 6 * c + 1)).toInt ∧ (N (966 + 6 * c + 1)).toInt ≤ 39 := by
      have := hI.1 (966 + 6 * c + 1) (by omega)
      rw [rg_cl (by omega)] at this
      exact this
    rw [i_of hb, show M2.1 (2 + 4) c = N (966 + 6 * c + 1) from rd_cl hR2 (by omega)]
    have hln : toN (N (966 + 6 * c + 1)) = (N (966 + 6 * c + 1)).toInt.toNat := rfl
    have E5 := ix_m hb (w := (4 : Int32)) (i := 4) rfl (by omega)
    have E6 := ix_m (ix_n il.1) (w := (4 : Int32)) (i := 4) rfl (by omega)
    rw [i_of E5, i_of E6]
    refine ⟨vp_of hb (by omega), not_neg E5, not_neg E6, by omega, by omega, fun M16 e16 => next M16 ?_ (fun l hl k hk => ?_) (F2.tr (by rw [e16]; exact frb_c)) hcl⟩
    · rw [e16, cp_k (by decide), s2]
    · rw [asm_t hbit, e16]
      show (cpI M2 (2 + 5) 37 _ _ 4).1 37 (4 * l + k) = _
      by_cases e : l = toN (N (966 + 6 * c + 1))
      · rw [cp_in (by omega), show c * 4 + (4 * l + k - (N (966 + 6 * c + 1)).toInt.toNat * 4) = 4 * c + k from by omega]
        show M2.1 7 _ = _
        rw [rd_chl hR2 (by omega) hk]
        subst e
        refine nl_cg (ovl_i hk).symm ?_
        have o0 : ovl (asm N pn ch c) (toN (N (966 + 6 * c + 1))) (968 + 6 * c) N (4 * toN (N (966 + 6 * c + 1))) = N (968 + 6 * c) := ovl_i (k := 0) (by decide)
        rw [show 968 + 6 * c + k - k = 968 + 6 * c from by omega, show 4 * toN (N (966 + 6 * c + 1)) + k - k = 4 * toN (N (966 + 6 * c + 1)) from by omega, o0]
      · rw [cp_out (by omega), l2 l hl k hk]
        refine nl_cg (ovl_o e hk).symm ?_
        have o0 : ovl (asm N pn ch c) (toN (N (966 + 6 * c + 1))) (968 + 6 * c) N (4 * l) = asm N pn ch c (4 * l) := ovl_o (k := 0) e (by decide)
        rw [show 4 * l + k - k = 4 * l from by omega, o0]

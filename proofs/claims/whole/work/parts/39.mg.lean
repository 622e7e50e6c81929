/-! lines of programs -/
noncomputable def cif {α : Type} (p : Prop) (a b : α) : α := @ite α p (Classical.propDecidable p) a b
theorem cif_t {α : Type} {p : Prop} {a b : α} (h : p) : cif p a b = a := if_pos h
theorem cif_f {α : Type} {p : Prop} {a b : α} (h : ¬ p) : cif p a b = b := if_neg h
theorem s_isLine11 {act a b c : Int32} {M : Mem} {q : Int32 → Mem → Prop} (h : q (tf (okLine act a b c)) M) : w_X11_isLine act a b c M q := by
  have y : okLine act a b c → q 1 M := fun k => by rw [tf1 k] at h; exact h
  have n : ¬ okLine act a b c → q 0 M := fun k => by rw [tf0 k] at h; exact h
  unfold w_X11_isLine w_X11_isLine_b70 w_X11_isLine_b103
  simp only [e_isOut, e_isNotSmall, tf_z, Classical.not_not]
  simp only [eq_i, Int32.reduceToInt]
  repeat' first | apply And.intro | intro _
  all_goals first | exact y (by omega) | exact n (by omega)
theorem s_isLine12 {act a b c : Int32} {M : Mem} {q : Int32 → Mem → Prop} (h : q (tf (okLine act a b c)) M) : w_X12_isLine act a b c M q := by
  have y : okLine act a b c → q 1 M := fun k => by rw [tf1 k] at h; exact h
  have n : ¬ okLine act a b c → q 0 M := fun k => by rw [tf0 k] at h; exact h
  have f0 : (0 : Int64).toInt = 0 := rfl
  have f1 : (-1000 : Int64).toInt = -1000 := rfl
  have f2 : (1000 : Int64).toInt = 1000 := rfl
  have f7 : (7 : Int64).toInt = 7 := rfl
  have f39 : (39 : Int64).toInt = 39 := rfl
  unfold w_X12_isLine w_X12_isLine_b97
  simp only [e_in, bz_a, tf_z, Classical.not_not, f0, f1, f2, f7, f39]
  simp only [eq_i, lt_i, Int32.reduceToInt]
  repeat' first | apply And.intro | intro _
  all_goals first | exact y (by omega) | exact n (by omega) | (rw [tf_c (d := okLine act a b c) (by omega)]; exact h)
/-- a line as the class keeps it -/
def opA (act a : Int32) : Int32 := if act = 7 then 0 else a
def opC (act c : Int32) : Int32 := if act = 1 ∨ act = 2 ∨ act = 3 then c else 0
def wrL (M : Mem) (k j : Nat) (act a b c : Int32) : Mem := uI (uI (uI (uI M k j act) k (j + 1) (opA act a)) k (j + 2) (opA act b)) k (j + 3) (opC act c)
theorem s_writeLine {k j n : Nat} {x act a b c : Int32} {M : Mem} {q : Mem → Prop} (hx : x.toInt = j) (hn : len k = n) (h1 : j + 4 ≤ n) (h2 : n < 2147483648) (h : q (wrL M k j act a b c)) : w_X11_writeLine k x act a b c M q := by
  have f0 : (0 : Int32).toInt = 0 := rfl
  have E1 := ix_a hx (w := 1) (i := 1) rfl (by omega)
  have E2 := ix_a hx (w := 2) (i := 2) rfl (by omega)
  have E3 := ix_a hx (w := 3) (i := 3) rfl (by omega)
  have E4 := ix_a hx (w := 4) (i := 4) rfl (by omega)
  have en : (Int32.ofNat n).toInt = n := ti_ofNat h2
  unfold wrL at h
  unfold w_X11_writeLine
  refine ⟨fun z => ?_, fun _ => ⟨fun _ => ?_, fun z => ?_⟩⟩
  · rw [lt_i, f0] at z; omega
  · rw [hn]
    refine ⟨vp_of hx (by omega), fun M16 e16 => ?_⟩
    rw [i_of hx] at e16
    have t49 : ∀ M11 : Mem, M11 = uI (uI M k j act) k (j + 1) (opA act a) → w_X11_writeLine_b49 k x act c k (x + 2) (opA act b) M11 q := by
      intro M11 e11
      unfold w_X11_writeLine_b49 w_X11_writeLine_b69
      rw [hn]
      refine ⟨vp_of E2 (by omega), fun M4 e4 => ?_⟩
      rw [i_of E2, e11] at e4
      have y : (act = 1 ∨ act = 2 ∨ act = 3) → vp_in (x + 3) n ∧ ∀ M2 : Mem, M2 = uI M4 k (x + 3).toNatClampNeg c → q M2 := fun k1 => ⟨vp_of E3 (by omega), fun M2 e2 => by
        rw [i_of E3, e4] at e2
        unfold opC at h
        rw [if_pos k1] at h
        rw [e2]; exact h⟩
      refine ⟨fun k1 => y (Or.inl k1), fun n1 => ⟨fun k1 => y (Or.inr (Or.inl k1)), fun n2 => ⟨fun n3 => ⟨vp_of E3 (by omega), fun M2 e2 => ?_⟩, fun k1 => y (Or.inr (Or.inr k1))⟩⟩⟩
      rw [i_of E3, e4] at e2
      unfold opC at h
      rw [if_neg (by intro k1; rcases k1 with k1 | k1 | k1; exact n1 k1; exact n2 k1; exact n3 k1)] at h
      rw [e2]; exact h
    have t32 : w_X11_writeLine_b32 k x act b c k (x + 1) (opA act a) M16 q := by
      unfold w_X11_writeLine_b32
      rw [hn]
      refine ⟨vp_of E1 (by omega), fun M11 e11 => ?_⟩
      rw [i_of E1, e16] at e11
      have t := t49 M11 e11
      refine ⟨fun n1 => ?_, fun k1 => ?_⟩
      · rw [show opA act b = b from if_neg n1] at t; exact t
      · rw [show opA act b = 0 from if_pos k1] at t; exact t
    refine ⟨fun n1 => ?_, fun k1 => ?_⟩
    · rw [show opA act a = a from if_neg n1] at t32; exact t32
    · rw [show opA act a = 0 from if_pos k1] at t32; exact t32
  · exact absurd (by rw [le_i, E4, hn, en]; omega) z
theorem nv_congr {N N' : Nat → Int32} {i : Nat} (h0 : N i = N' i) (h1 : i < 960 → N (i - i % 4) = N' (i - i % 4)) (h2 : 966 ≤ i → i < 1026 → 2 ≤ (i - 966) % 6 → N (i - ((i - 966) % 6 - 2)) = N' (i - ((i - 966) % 6 - 2))) : nv N i = nv N' i := by
  unfold nv
  by_cases k : i < 960
  · rw [if_pos k, if_pos k]
    have h1 := h1 k
    unfold nl
    rw [h0, h1]
    by_cases r3 : i % 4 = 3
    · rw [show i - i % 4 = i - 3 from by omega] at h1
      rw [h1]
    · simp only [r3, if_false]
  · rw [if_neg k, if_neg k]
    by_cases k2 : 966 ≤ i ∧ i < 1026 ∧ 2 ≤ (i - 966) % 6
    · rw [if_pos k2, if_pos k2]
      have h2 := h2 k2.1 k2.2.1 k2.2.2
      unfold nl
      rw [h0, h2]
      by_cases r3 : (i - 966) % 6 - 2 = 3
      · rw [show i - ((i - 966) % 6 - 2) = i - 3 from by omega] at h2
        rw [h2]
      · simp only [r3, if_false]
    · rw [if_neg k2, if_neg k2, h0]
abbrev blk (j : Nat) : Prop := (j < 960 ∧ j % 4 = 0) ∨ (968 ≤ j ∧ j < 1026 ∧ (j - 968) % 6 = 0)
theorem up4_o {N : Nat → Int32} {j t : Nat} {a b c d : Int32} (h : t < j ∨ j + 3 < t) : up4 N j a b c d t = N t := by
  unfold up4
  rw [upN_o (by omega), upN_o (by omega), upN_o (by omega), upN_o (by omega)]
theorem up4_0 {N : Nat → Int32} {j : Nat} {a b c d : Int32} : up4 N j a b c d j = a := by
  unfold up4
  rw [upN_o (by omega), upN_o (by omega), upN_o (by omega), upN_s]
theorem up4_1 {N : Nat → Int32} {j : Nat} {a b c d : Int32} : up4 N j a b c d (j + 1) = b := by
  unfold up4
  rw [upN_o (by omega), upN_o (by omega), upN_s]
theorem up4_2 {N : Nat → Int32} {j : Nat} {a b c d : Int32} : up4 N j a b c d (j + 2) = c := by
  unfold up4
  rw [upN_o (by omega), upN_s]
theorem up4_3 {N : Nat → Int32} {j : Nat} {a b c d : Int32} : up4 N j a b c d (j + 3) = d := by
  unfold up4
  rw [upN_s]
theorem nv_out {N : Nat → Int32} {j i : Nat} {a b c d : Int32} (hb : blk j) (h : i < j ∨ j + 3 < i) : nv (up4 N j a b c d) i = nv N i := by
  refine nv_congr (up4_o h) (fun k => up4_o (by omega)) (fun k1 k2 k3 => up4_o (by omega))
theorem nv_blk {N : Nat → Int32} {j r : Nat} (hb : blk j) (hr : r < 4) : nv N (j + r) = nl N (j + r) r := by
  unfold nv
  by_cases k : j < 960
  · rw [if_pos (by omega), show (j + r) % 4 = r from by omega]
  · rw [if_neg (by omega), if_pos (by omega), show (j + r - 966) % 6 - 2 = r from by omega]
theorem nv_in {N : Nat → Int32} {j : Nat} {a b c d : Int32} (hb : blk j) : nv (up4 N j a b c d) j = a ∧ nv (up4 N j a b c d) (j + 1) = opA a b ∧ nv (up4 N j a b c d) (j + 2) = opA a c ∧ nv (up4 N j a b c d) (j + 3) = opC a d := by
  refine ⟨?_, ?_, ?_, ?_⟩
  · have := nv_blk (N := up4 N j a b c d) (r := 0) hb (by decide)
    rw [show j + 0 = j from rfl] at this
    rw [this]
    unfold nl
    rw [if_pos rfl, up4_0]
  · rw [nv_blk hb (by decide)]
    unfold nl
    rw [if_neg (by decide), if_neg (by decide), show j + 1 - 1 = j from by omega, up4_0, up4_1]
    rfl
  · rw [nv_blk hb (by decide)]
    unfold nl
    rw [if_neg (by decide), if_neg (by decide), show j + 2 - 2 = j from by omega, up4_0, up4_2]
    rfl
  · rw [nv_blk hb (by decide)]
    unfold nl
    rw [if_neg (by decide), if_pos rfl, show j + 3 - 3 = j from by omega, up4_0, up4_3]
    rfl
theorem rep_4 {N : Nat → Int32} {M : Mem} {j c p : Nat} {a0 a1 a2 a3 : Int32} (hR : Rep 1 N M.1) (hb : blk j) (hl : ∀ k, k < 4 → loc (j + k) = some (c, p + k)) : Rep 1 (up4 N j a0 a1 a2 a3) (wrL M (1 + c) p a0 a1 a2 a3).1 := by
  intro i hi c' p' hl'
  have hn := nv_in (N := N) (a := a0) (b := a1) (c := a2) (d := a3) hb
  by_cases e : i < j ∨ j + 3 < i
  · rw [nv_out hb e, ← hR i hi c' p' hl']
    have ne : ∀ k, k < 4 → ¬ (1 + c' = 1 + c ∧ p' = p + k) := by
      intro k hk x
      have := loc_inj hi (j := j + k) (by omega) hl' (by rw [hl k hk, x.2, show c' = c from by omega])
      omega
    unfold wrL
    have n0 : ¬ (1 + c' = 1 + c ∧ p' = p) := ne 0 (by decide)
    have n1 := ne 1 (by decide)
    have n2 := ne 2 (by decide)
    have n3 := ne 3 (by decide)
    simp only [uI]
    rw [if_neg n3, if_neg n2, if_neg n1, if_neg n0]
  · have hk : i = j ∨ i = j + 1 ∨ i = j + 2 ∨ i = j + 3 := by omega
    unfold wrL
    rcases hk with e | e | e | e
    · subst e
      have := (hl 0 (by decide)).symm.trans hl'
      cases this
      rw [hn.1]
      simp only [uI]
      rw [if_neg (by omega), if_neg (by omega), if_neg (by omega)]
      simp
    · subst e
      have := (hl 1 (by decide)).symm.trans hl'
      cases this
      rw [hn.2.1]
      simp only [uI]
      rw [if_neg (by omega), if_neg (by omega)]
      simp
    · subst e
      have := (hl 2 (by decide)).symm.trans hl'
      cases this
      rw [hn.2.2.1]
      simp only [uI]
      rw [if_neg (by omega)]
      simp
    · subst e
      have := (hl 3 (by decide)).symm.trans hl'
      cases this
      rw [hn.2.2.2]
      simp only [uI]
      simp

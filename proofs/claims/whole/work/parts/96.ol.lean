/-! back, the class -/
theorem rk_lt : ∀ m o c, rk m o c < 2 ^ pch m o := by
  intro m
  induction m with
  | zero => intro o c; exact Nat.one_pos
  | succ m ih =>
    intro o c
    have := ih (o / 2) (c / 2)
    rw [rk, pch]
    by_cases k : o % 2 = 1
    · rw [if_pos k, k, Nat.pow_succ]; omega
    · rw [if_neg k, show o % 2 = 0 from by omega]; exact this
theorem nx_i {c o : Nat} (hc : c < 1024) (ho : o < 1024) : (Int32.ofNat c - Int32.ofNat o) &&& Int32.ofNat o = Int32.ofNat (nxm 32 o c) := by
  have hle : nxm 32 o c ≤ o := Nat.and_le_right
  apply Int32.toBitVec_inj.mp
  rw [Int32.toBitVec_and, Int32.toBitVec_sub]
  apply BitVec.eq_of_toNat_eq
  rw [BitVec.toNat_and, BitVec.toNat_sub]
  show (2 ^ 32 - (BitVec.ofNat 32 o).toNat + (BitVec.ofNat 32 c).toNat) % 2 ^ 32 &&& (BitVec.ofNat 32 o).toNat = (BitVec.ofNat 32 (nxm 32 o c)).toNat
  rw [BitVec.toNat_ofNat, BitVec.toNat_ofNat, BitVec.toNat_ofNat, Nat.mod_eq_of_lt (show o < 2 ^ 32 by omega), Nat.mod_eq_of_lt (show c < 2 ^ 32 by omega), Nat.mod_eq_of_lt (show nxm 32 o c < 2 ^ 32 by omega)]
  unfold nxm
  rw [show 2 ^ 32 - o + c = c + 2 ^ 32 - o from by omega]
abbrev brD (N : Nat → Int32) (b m s lim : Int32) (t : Nat) : Prop := ¬ plV N m.toInt.toNat s.toInt.toNat (bP N b) (bC N b &&& (Int32.ofNat t ^^^ (-1 : Int32))) ∧ ¬ lim < plC N m.toInt.toNat s.toInt.toNat (bP N b) (bC N b &&& (Int32.ofNat t ^^^ (-1 : Int32))) 5
def UD (b m s lim : Int32) (o : Nat) (M : Mem) : Prop := M.2.2 58 2 = some 1 ∧ M.2.2 58 3 = some 35 ∧ M.1 58 4 = b ∧ M.1 58 5 = m ∧ M.1 58 6 = s ∧ M.1 58 7 = lim ∧ M.1 58 8 = Int32.ofNat o
theorem UD.p {b m s lim : Int32} {o : Nat} {M M' : Mem} (h : UD b m s lim o M) (f : FrP M M') : UD b m s lim o M' := by
  obtain ⟨h1, h2, h3, h4, h5, h6, h7⟩ := h
  have e := f.1 58 (by decide)
  refine ⟨(f.2.2 58 2 (by decide)).trans h1, (f.2.2 58 3 (by decide)).trans h2, ?_, ?_, ?_, ?_, ?_⟩ <;> rw [e] <;> assumption
theorem UD.u {b m s lim : Int32} {o : Nat} {M : Mem} {k j : Nat} {v : Int32} (h : UD b m s lim o M) (hk : k ≠ 58 ∨ j = 0) : UD b m s lim o (uI M k j v) := by
  obtain ⟨h1, h2, h3, h4, h5, h6, h7⟩ := h
  have e : ∀ i, i ≠ 0 → (uI M k j v).1 58 i = M.1 58 i := fun i hi => by
    rcases hk with x | x
    · exact uI_k (fun y => x y.symm)
    · exact uI_j (by omega)
  refine ⟨h1, h2, ?_, ?_, ?_, ?_, ?_⟩ <;> rw [e _ (by decide)] <;> assumption
theorem s_brings {b m s lim : Int32} {o t : Nat} {M : Mem} {N : Nat → Int32} {q : Int32 → Mem → Prop} (hR : Rep 1 N M.1) (hI : InvN N) (hb : okI b 24) (hm : okI m 4) (hs : okI s 8) (hU : UD b m s lim o M) (h : ∀ M', FrP M M' → q (tf (brD N b m s lim t)) M') : w_X9_brings 58 (Int32.ofNat t) M q := by
  obtain ⟨h1, h2, h3, h4, h5, h6, h7⟩ := hU
  unfold w_X9_brings
  refine ⟨1, h1, rfl, 35, h2, rfl, 35, h2, rfl, 1, h1, rfl, 1, h1, rfl, ?_⟩
  rw [h3, h4, h5]
  refine ⟨vp_of (ix_n hb.1) (by omega), ?_⟩
  rw [tn_eq, show M.1 (1 + 1 + 7) b.toInt.toNat = bC N b from rd_bc hR (by omega)]
  refine s_plainWith hR hI (ix_n hb.1) (by omega) (ix_n hm.1) (by omega) (ix_n hs.1) (by omega) (fun M' c1 c2 f => ?_)
  refine ⟨35, (f.2.2 58 3 (by decide)).trans h2, rfl, ?_⟩
  have h := h M' f
  rw [c2, tf_z]
  refine ⟨fun n => ?_, fun k => ⟨35, (f.2.2 58 3 (by decide)).trans h2, rfl, ?_⟩⟩
  · rw [tf0 (fun x => n (fun y => x.1 y))] at h
    exact h
  · rw [show M'.1 58 7 = lim from by rw [f.1 58 (by decide)]; exact h6, show M'.1 (35 + 1) 5 = _ from c1 5 (by decide)]
    refine ⟨fun k2 => ?_, fun k2 => ?_⟩
    · rw [tf0 (fun x => x.2 k2)] at h
      exact h
    · rw [tf1 ⟨k, k2⟩] at h
      exact h
def Ls (l : List Nat) (M : Mem) : Prop := (M.1 58 0).toInt = (l.length : Int) ∧ ∀ i, i < l.length → M.1 59 i = Int32.ofNat (l.getD i 0)
theorem getD_mem : ∀ (l : List Nat) (i : Nat), i < l.length → l.getD i 0 ∈ l := by
  intro l i h
  rw [List.getD_eq_getElem?_getD, List.getElem?_eq_getElem h]
  exact List.getElem_mem h
theorem mem_getD {l : List Nat} {x : Nat} (h : x ∈ l) : ∃ i, i < l.length ∧ l.getD i 0 = x := by
  obtain ⟨i, hi, e⟩ := List.getElem_of_mem h
  exact ⟨i, hi, by rw [List.getD_eq_getElem?_getD, List.getElem?_eq_getElem hi]; exact e⟩
theorem s_holds {l : List Nat} {c : Nat} {M : Mem} {q : Int32 → Mem → Prop} (hl : Ls l M) (h252 : l.length ≤ 252) (hx : ∀ x ∈ l, x < 1024) (h : q (tf (∃ x ∈ l, sb x c)) M) : w_X9_holdsFound 58 (Int32.ofNat c) M q := by
  unfold w_X9_holdsFound w_X9_holdsFound_l2
  refine lfp_for (i0 := 0) (n := l.length) (fun (i : Nat) (t : Int32 × Mem) => t.1.toInt = (i : Int) ∧ t.2 = M ∧ ∀ j, j < i → ¬ sb (l.getD j 0) c) ?_ (by omega) ⟨rfl, rfl, fun j hj => by omega⟩
  intro P i st hi hJ hP
  obtain ⟨v2, M1⟩ := st
  obtain ⟨ha0, hM0, hj0⟩ := hJ
  have ha : v2.toInt = (i : Int) := ha0
  have hM : M1 = M := hM0
  clear ha0 hM0
  subst hM
  unfold w_X9_holdsFound_l2F
  dsimp only
  rw [le_i, ha, hl.1]
  refine ⟨fun z => ?_, fun z => ⟨vp_of ha (by omega), ?_⟩⟩
  · rw [tf0] at h
    · exact h
    · rintro ⟨x, hx1, hx2⟩
      obtain ⟨j, hj, e⟩ := mem_getD hx1
      exact hj0 j (by omega) (by rw [e]; exact hx2)
  · have iL : i < l.length := by omega
    rw [i_of ha, show M1.1 (58 + 1) i = _ from hl.2 i iL, sb_i (hx _ (getD_mem l i iL))]
    refine ⟨fun k x4 e4 => hP (x4, M1) iL ⟨?_, rfl, ?_⟩, fun k => ?_⟩
    · show x4.toInt = ((i + 1 : Nat) : Int)
      rw [e4]; exact ix_a ha rfl (by omega)
    · intro j hj
      by_cases e : j = i
      · rw [e]; exact k
      · exact hj0 j (by omega)
    · rw [tf1 ⟨_, getD_mem l i iL, k⟩] at h
      exact h
theorem bitc_n : ∀ n, n < 1024 → ∀ (M : Mem) (q : Int32 → Mem → Prop), q (Int32.ofNat (pc n)) M → w_J6_bitCount_0f7a4 (Int32.ofNat n) M q := by
  intro n hn M q h
  have key : ∀ n, n < 1024 → (let v0 := Int32.ofNat n
    let x1 := (v0 - ((iush v0 (1 : Int32)) &&& (1431655765 : Int32)))
    let x2 := ((x1 &&& (858993459 : Int32)) + ((iush x1 (2 : Int32)) &&& (858993459 : Int32)))
    let x3 := ((x2 + (iush x2 (4 : Int32))) &&& (252645135 : Int32))
    let x4 := (x3 + (iush x3 (8 : Int32)))
    let x5 := (x4 + (iush x4 (16 : Int32)))
    (x5 &&& (63 : Int32)) = Int32.ofNat (pc n)) := by decide +kernel
  have := key n hn
  unfold w_J6_bitCount_0f7a4
  intro x1 e1 x2 e2 x3 e3 x4 e4 x5 e5
  rw [e5, e4, e3, e2, e1]
  dsimp only at this
  rw [this]
  exact h
theorem s_find9 {b m s lim : Int32} {o : Nat} {M : Mem} {N : Nat → Int32} {q : Mem → Prop} (hR : Rep 1 N M.1) (hI : InvN N) (hb : okI b 24) (hm : okI m 4) (hs : okI s 8) (ho : o < 1024) (hU : UD b m s lim o M) (h : ∀ M', Ls (fnd (brD N b m s lim) o 1024) M' → FQ M M' → q M') : w_X9_findLeast 58 M q := by
  unfold w_X9_findLeast
  intro M14 e14
  have F14 : FQ M M14 := by rw [e14]; exact fq_uI (by decide) (by decide)
  have U14 : UD b m s lim o M14 := by rw [e14]; exact hU.u (Or.inr rfl)
  have z14 : M14.1 58 0 = 0 := by rw [e14, uI_s]
  rw [U14.2.2.2.2.2.2]
  refine bitc_n o ho _ _ ?_
  intro x17 e17
  have p10 := pc_le o
  have n17 : x17.toInt = ((2 ^ pc o : Nat) : Int) := by
    rw [e17, shl_i (ti_ofNat (show pc o < 2147483648 by omega)) (by omega)]
  have nB : 2 ^ pc o ≤ 1024 := (show 2 ^ pc o ≤ 2 ^ 10 from Nat.pow_le_pow_right (by decide) p10)
  obtain ⟨D, hD⟩ : ∃ D : Nat → Prop, D = brD N b m s lim := ⟨_, rfl⟩
  have rt := rk_top 32 o
  rw [pc_h o ho] at rt
  unfold w_X9_findLeast_l19
  refine lfp_for (i0 := 0) (n := 2 ^ pc o) (fun (i : Nat) (t : Int32 × Int32 × Mem) => t.2.1.toInt = (i : Int) ∧ FQ M t.2.2 ∧ UD b m s lim o t.2.2 ∧ ((i < 2 ^ pc o ∧ ∃ c, t.1 = Int32.ofNat c ∧ sb c o ∧ rk 32 o c = i ∧ Ls (fnd (brD N b m s lim) o c) t.2.2) ∨ (i = 2 ^ pc o ∧ Ls (fnd (brD N b m s lim) o 1024) t.2.2))) ?_ (by omega) ⟨rfl, F14, U14, Or.inl ⟨Nat.pow_pos (by decide), 0, rfl, Nat.zero_and o, rk_0 32 o, ?_⟩⟩
  · intro P i st hi hJ hP
    obtain ⟨v1, v3, M1⟩ := st
    obtain ⟨ha0, hF0, hU0, hC0⟩ := hJ
    have ha : v3.toInt = (i : Int) := ha0
    have hF : FQ M M1 := hF0
    have hU1 : UD b m s lim o M1 := hU0
    have hC : (i < 2 ^ pc o ∧ ∃ c, v1 = Int32.ofNat c ∧ sb c o ∧ rk 32 o c = i ∧ Ls (fnd (brD N b m s lim) o c) M1) ∨ (i = 2 ^ pc o ∧ Ls (fnd (brD N b m s lim) o 1024) M1) := hC0
    clear ha0 hF0 hU0 hC0
    have hR1 := hF.r hR
    unfold w_X9_findLeast_l19F
    dsimp only
    rw [le_i, n17, ha]
    refine ⟨fun z => ?_, fun z => ?_⟩
    · rcases hC with x | x
      · omega
      · exact h M1 x.2 hF
    · rcases hC with x | x
      · obtain ⟨hi2, c, hc0, hc1, hc2, hc3⟩ := x
        have cLe := sb_le hc1
        have c1024 : c ≤ 1024 := by omega
        have len := fnd_252 (D := brD N b m s lim) (o := o) c1024
        have f252 : (252 : Int32).toInt = 252 := rfl
        rw [le_i, hc3.1, f252]
        refine ⟨fun k => ?_, fun k => ?_⟩
        · refine h M1 ?_ hF
          rw [fnd_full c1024 (by omega)]
          exact hc3
        · have next : ∀ M2, FQ M M2 → UD b m s lim o M2 → Ls (fnd (brD N b m s lim) o (c + 1)) M2 → w_X9_findLeast_b70 58 v1 x17 v3 M2 q P := fun M2 F2 U2 L2 => by
            unfold w_X9_findLeast_b70
            intro x1 e1 x2 e2
            rw [U2.2.2.2.2.2.2, hc0, nx_i (by omega) ho] at e1
            refine hP (x1, x2, M2) (by omega) ⟨?_, F2, U2, ?_⟩
            · show x2.toInt = ((i + 1 : Nat) : Int)
              rw [e2]; exact ix_a ha rfl (by omega)
            · by_cases e : c = o
              · refine Or.inr ⟨?_, ?_⟩
                · rw [e] at hc2; omega
                · have sk := fnd_skip (D := brD N b m s lim) (o := o) (a := c + 1) (1024 - (c + 1)) (fun t h1 _ h3 => by have := sb_le h3; omega)
                  rw [show c + 1 + (1024 - (c + 1)) = 1024 from by omega] at sk
                  rw [sk]
                  exact L2
              · obtain ⟨y1, y2, y3, y4⟩ := nx_all 32 o c (by omega) hc1 (by omega)
                have y5 := sb_le y2
                refine Or.inl ⟨?_, nxm 32 o c, e1, y2, by omega, ?_⟩
                · have := rk_lt 32 o (nxm 32 o c)
                  rw [pc_h o ho] at this
                  omega
                · have sk := fnd_skip (D := brD N b m s lim) (o := o) (a := c + 1) (nxm 32 o c - (c + 1)) (fun t h1 h2 h3 => by have := y3 t h3 (by omega); omega)
                  rw [show c + 1 + (nxm 32 o c - (c + 1)) = nxm 32 o c from by omega] at sk
                  show Ls (fnd (brD N b m s lim) o (nxm 32 o c)) M2
                  rw [sk]
                  exact L2
          have lf := lst_fnd (D := brD N b m s lim) (o := o) hc1
          have ms := fun (x : Nat) (hx : x ∈ fnd (brD N b m s lim) o c) => (show x < 1024 from by have := (fnd_mem.mp hx).1; omega)
          rw [hc0]
          refine s_holds hc3 len ms ?_
          rw [tf_z]
          refine ⟨fun k1 => ?_, fun k1 => ?_⟩
          · rw [← hc0]
            refine next M1 hF hU1 ?_
            rw [fnd_suc, if_neg (fun x => (lf.mp x.2).1 (Classical.not_not.mp k1))]
            exact hc3
          · refine s_brings hR1 hI hb hm hs hU1 (fun M8 f8 => ?_)
            have e58 : M8.1 58 = M1.1 58 := f8.1 58 (by decide)
            have e59 : M8.1 59 = M1.1 59 := f8.1 59 (by decide)
            have F8 : FQ M M8 := hF.tr f8.q
            have U8 := hU1.p f8
            rw [tf_z, ← hc0]
            refine ⟨fun k2 => ?_, fun k2 => ?_⟩
            · refine next M8 F8 U8 ?_
              rw [fnd_suc, if_neg (fun x => k2 x.2.1)]
              exact ⟨by rw [e58]; exact hc3.1, fun j hj => by rw [e59]; exact hc3.2 j hj⟩
            · rw [Classical.not_not] at k2
              have s8 : (M8.1 58 0).toInt = ((fnd (brD N b m s lim) o c).length : Int) := by rw [e58]; exact hc3.1
              refine ⟨vp_of s8 (by omega), fun M12 e12 M13 e13 => ?_⟩
              rw [i_of s8] at e12
              have z12 : M12.1 58 0 = M8.1 58 0 := by rw [e12, uI_k (by decide)]
              rw [z12] at e13
              refine next M13 ?_ ?_ ?_
              · rw [e13, e12]
                exact (F8.tr (fq_uI (by decide) (by decide))).tr (fq_uI (by decide) (by decide))
              · rw [e13, e12]
                exact (U8.u (Or.inl (by decide))).u (Or.inr rfl)
              · rw [fnd_suc, if_pos ⟨hc1, lf.mpr ⟨k1, k2⟩⟩]
                refine ⟨?_, fun j hj => ?_⟩
                · rw [e13, uI_s, ix_a s8 (w := 1) (i := 1) rfl (by omega), List.length_append]
                  rfl
                · rw [List.length_append, List.length_singleton] at hj
                  rw [e13, uI_k (by decide), e12]
                  by_cases e : j = (fnd (brD N b m s lim) o c).length
                  · rw [e]
                    show (uI M8 59 _ v1).1 59 _ = _
                    rw [uI_s, List.getD_eq_getElem?_getD, List.getElem?_append_right (Nat.le_refl _), Nat.sub_self]
                    exact hc0
                  · rw [uI_j e, e59, hc3.2 j (by omega), List.getD_eq_getElem?_getD, List.getD_eq_getElem?_getD, List.getElem?_append_left (by omega)]
      · omega
  · refine ⟨?_, fun i hi => ?_⟩
    · show (M14.1 58 0).toInt = _
      rw [z14]; rfl
    · exact absurd hi (by simp [fnd])
def fst9 : Option Nat → Nat → Option Nat
  | none, x => some x
  | some y, x => if pc y ≤ pc x then some y else some x
def oI : Option Nat → Int32
  | none => -1
  | some y => Int32.ofNat y
theorem oI_n {y : Nat} (h : y < 1024) : ¬ Int32.ofNat y = -1 := by
  rw [eq_i, ti_ofNat (by omega)]
  show ¬ (y : Int) = -1
  omega
theorem s_few9 {l : List Nat} {M : Mem} {q : Int32 → Mem → Prop} (hl : Ls l M) (h252 : l.length ≤ 252) (hx : ∀ x ∈ l, x < 1024) (h : q (oI (l.foldl fst9 none)) M) : w_X9_fewest 58 M q := by
  unfold w_X9_fewest w_X9_fewest_l4
  refine lfp_for (i0 := 0) (n := l.length) (fun (i : Nat) (t : Int32 × Int32 × Mem) => t.2.1.toInt = (i : Int) ∧ t.2.2 = M ∧ ∃ a : Option Nat, t.1 = oI a ∧ (∀ y, a = some y → y < 1024) ∧ (l.drop i).foldl fst9 a = l.foldl fst9 none) ?_ (by omega) ⟨rfl, rfl, none, rfl, fun y e => (by cases e), rfl⟩
  intro P i st hi hJ hP
  obtain ⟨v1, v2, M1⟩ := st
  obtain ⟨ha0, hM0, a, hv0, hy, hf⟩ := hJ
  have ha : v2.toInt = (i : Int) := ha0
  have hM : M1 = M := hM0
  have hv : v1 = oI a := hv0
  clear ha0 hM0 hv0
  subst hM
  unfold w_X9_fewest_l4F
  dsimp only
  rw [le_i, ha, hl.1]
  refine ⟨fun z => ?_, fun z => ?_⟩
  · rw [List.drop_of_length_le (by omega)] at hf
    rw [hv, show a = l.foldl fst9 none from hf]
    exact h
  · have iL : i < l.length := by omega
    have hx1 := hx _ (getD_mem l i iL)
    have g : l.getD i 0 = l[i] := by rw [List.getD_eq_getElem?_getD, List.getElem?_eq_getElem iL]; rfl
    rw [List.drop_eq_getElem_cons iL, ← g, List.foldl_cons] at hf
    have st1 : M1.1 (58 + 1) i = Int32.ofNat (l.getD i 0) := hl.2 i iL
    have step : ∀ (a' : Option Nat), (∀ y, a' = some y → y < 1024) → fst9 a (l.getD i 0) = a' → ∀ w, w = oI a' → ∀ x1 : Int32, x1 = v2 + (1 : Int32) → P (w, x1, M1) := fun a' hy' ef w ew x1 e1 => by
      refine hP (w, x1, M1) iL ⟨?_, rfl, a', ew, hy', ?_⟩
      · show x1.toInt = ((i + 1 : Nat) : Int)
        rw [e1]; exact ix_a ha rfl (by omega)
      · rw [← ef]; exact hf
    have take : fst9 a (l.getD i 0) = some (l.getD i 0) → w_X9_fewest_b33 58 v2 M1 q P := fun e => by
      unfold w_X9_fewest_b33 w_X9_fewest_b40
      refine ⟨vp_of ha (by omega), fun x3 e3 => ?_⟩
      rw [i_of ha, st1] at e3
      exact step _ (fun y ey => by cases ey; exact hx1) e x3 e3
    refine ⟨fun k => ?_, fun k => ⟨vp_of ha (by omega), ?_⟩⟩
    · cases a with
      | none => exact take rfl
      | some y => rw [hv] at k; exact absurd k (oI_n (hy y rfl))
    · cases a with
      | none => exact absurd hv k
      | some y =>
        rw [i_of ha, st1, hv]
        refine bitc_n _ hx1 _ _ ?_
        refine bitc_n _ (hy y rfl) _ _ ?_
        have p1 := pc_le y
        have p2 := pc_le (l.getD i 0)
        rw [le_i, ti_ofNat (by omega), ti_ofNat (by omega)]
        refine ⟨fun k2 => ?_, fun k2 => ?_⟩
        · have e : fst9 (some y) (l.getD i 0) = some y := if_pos (by omega)
          unfold w_X9_fewest_b40
          exact step _ hy e _ rfl
        · exact take (if_neg (by omega))
def alB (D : Nat → Prop) [DecidablePred D] (o : Nat) : Nat → Int32
  | 0 => 0
  | k + 1 => if o.testBit k = true ∧ D (2 ^ k) then alB D o k ||| Int32.ofNat (2 ^ k) else alB D o k
theorem shl_o {a : Int32} {n : Nat} (h : a.toInt = n) (hn : n < 31) : (1 : Int32) <<< (a &&& 31) = Int32.ofNat (2 ^ n) := i_nat (shl_i h hn)
theorem s_alone9 {b m s lim : Int32} {o : Nat} {M : Mem} {N : Nat → Int32} {q : Int32 → Mem → Prop} (hR : Rep 1 N M.1) (hI : InvN N) (hb : okI b 24) (hm : okI m 4) (hs : okI s 8) (ho : o < 1024) (hU : UD b m s lim o M) (h : ∀ M', FQ M M' → q (alB (brD N b m s lim) o 10) M') : w_X9_alone 58 M q := by
  unfold w_X9_alone w_X9_alone_l4
  refine lfp_for (i0 := 0) (n := 10) (fun (i : Nat) (t : Int32 × Int32 × Mem) => t.2.1.toInt = (i : Int) ∧ FQ M t.2.2 ∧ UD b m s lim o t.2.2 ∧ t.1 = alB (brD N b m s lim) o i) ?_ (by omega) ⟨rfl, FQ.rf M, hU, rfl⟩
  intro P i st hi hJ hP
  obtain ⟨v1, v2, M1⟩ := st
  obtain ⟨ha0, hF0, hU0, hv0⟩ := hJ
  have ha : v2.toInt = (i : Int) := ha0
  have hF : FQ M M1 := hF0
  have hU1 : UD b m s lim o M1 := hU0
  have hv : v1 = alB (brD N b m s lim) o i := hv0
  clear ha0 hF0 hU0 hv0
  have hR1 := hF.r hR
  have f10 : (10 : Int32).toInt = 10 := rfl
  unfold w_X9_alone_l4F
  dsimp only
  rw [le_i, ha, f10]
  refine ⟨fun z => ?_, fun z => ?_⟩
  · have := h M1 hF
    rw [hv, show i = 10 from by omega]
    exact this
  · have next : ∀ M2, FQ M M2 → UD b m s lim o M2 → ∀ w, w = alB (brD N b m s lim) o (i + 1) → w_X9_alone_b38 58 w v2 M2 q P := fun M2 F2 U2 w ew => by
      unfold w_X9_alone_b38
      intro x1 e1
      refine hP (w, x1, M2) (by omega) ⟨?_, F2, U2, ew⟩
      show x1.toInt = ((i + 1 : Nat) : Int)
      rw [e1]; exact ix_a ha rfl (by omega)
    rw [bit_i ha, hU1.2.2.2.2.2.2, bitS_n (by omega) (by omega), shl_o ha (by omega)]
    refine ⟨fun k => ?_, fun k => ?_⟩
    · exact next M1 hF hU1 _ (by rw [hv, alB, if_neg (fun x => k x.1)])
    · refine s_brings hR1 hI hb hm hs hU1 (fun M4 f4 => ?_)
      rw [tf_z]
      refine ⟨fun k2 => ?_, fun k2 => ?_⟩
      · exact next M4 (hF.tr f4.q) (hU1.p f4) _ (by rw [hv, alB, if_neg (fun x => k2 x.2)])
      · intro x7 e7
        exact next M4 (hF.tr f4.q) (hU1.p f4) _ (by rw [e7, hv, alB, if_pos ⟨k, Classical.not_not.mp k2⟩])
abbrev bkO (N : Nat → Int32) (b old : Int32) : Nat := dn (toN (bC N b)) (toN (bC N old))
abbrev bkL (N : Nat → Int32) (old m s sp : Int32) : Int32 := plC N m.toInt.toNat s.toInt.toNat (bP N old) (bC N old) 5 + sp
abbrev okBack (N : Nat → Int32) (b old m s sp w : Int32) : Prop := okSpot N b m s ∧ okI old (N 4212).toInt ∧ okB sp 0 100000 ∧ okI w 3
abbrev goBack (N : Nat → Int32) (b old m s : Int32) : Prop := N (1026 + 2 * b.toInt.toNat) = N (1026 + 2 * old.toInt.toNat) ∧ ¬ plV N m.toInt.toNat s.toInt.toNat (bP N old) (bC N old)
def spBack (b old m s sp w : Int32) (N : Nat → Int32) : Int32 := if okBack N b old m s sp w then (if goBack N b old m s then (if w = 2 then alB (brD N b m s (bkL N old m s sp)) (bkO N b old) 10 else if w = 0 then Int32.ofNat (fnd (brD N b m s (bkL N old m s sp)) (bkO N b old) 1024).length else oI ((fnd (brD N b m s (bkL N old m s sp)) (bkO N b old) 1024).foldl fst9 none)) else -3) else -2
theorem bc_n {N : Nat → Int32} (hI : InvN N) {b : Int32} (hb : okI b 24) : bC N b = Int32.ofNat (toN (bC N b)) ∧ toN (bC N b) < 1024 := by
  have i := hI.1 (1026 + 2 * b.toInt.toNat + 1) (by omega)
  rw [rg_bc (by omega)] at i
  have i : 0 ≤ (bC N b).toInt ∧ (bC N b).toInt ≤ 1023 := i
  refine ⟨i_nat (by unfold toN; omega), by unfold toN; omega⟩
theorem bk_o {N : Nat → Int32} (hI : InvN N) {b old : Int32} (hb : okI b 24) (ho : okI old 24) : bC N b &&& (bC N old ^^^ (-1 : Int32)) = Int32.ofNat (bkO N b old) ∧ bkO N b old < 1024 := by
  obtain ⟨e1, l1⟩ := bc_n hI hb
  obtain ⟨e2, l2⟩ := bc_n hI ho
  have := dn_le (toN (bC N b)) (toN (bC N old))
  refine ⟨?_, by show dn _ _ < 1024; omega⟩
  show _ = Int32.ofNat (dn _ _)
  rw [← dn_i, ← e1, ← e2]
theorem fq_uR {M : Mem} {k j : Nat} {v : Option Nat} : FQ M (uR M k j v) := ⟨fun _ _ => rfl, fun _ _ => rfl⟩
theorem c_back {b old m s sp w : Int32} {M : Mem} {N : Nat → Int32} {q : Int32 → Mem → Prop} (hR : Rep 1 N M.1) (hI : InvN N) (h : ∀ M', FQ M M' → q (spBack b old m s sp w N) M') : w_X11_back b old m s sp w M q := by
  have bad : ¬ okBack N b old m s sp w → q (-2) M := fun n => by have := h M (FQ.rf M); unfold spBack at this; rw [if_neg n] at this; exact this
  have i2 : 0 ≤ (N 4212).toInt ∧ (N 4212).toInt ≤ 24 := hI.1 4212 (by decide)
  have f0 : (0 : Int32).toInt = 0 := rfl
  have f1 : (100000 : Int32).toInt = 100000 := rfl
  have f3 : (3 : Int32).toInt = 3 := rfl
  unfold w_X11_back
  rw [e_isNoSpot hR]
  simp only [e_isOut, e_isBeyond, tf_z, Classical.not_not, rc2 hR, f0, f1, f3]
  refine ⟨fun n => bad (fun x => n x.1), fun k1 => ⟨fun n => bad (fun x => n x.2.1), fun k2 => ⟨fun n => bad (fun x => n x.2.2.1), fun k3 => ⟨fun k4 => ?_, fun n => bad (fun x => n x.2.2.2)⟩⟩⟩⟩
  have spt := spot hI k1
  have o24 : okI old 24 := by omega
  refine ⟨vp_of (ix_n spt.1.1) (by omega), vp_of (ix_n k2.1) (by omega), ?_⟩
  unfold spBack at h
  rw [if_pos ⟨k1, k2, k3, k4⟩] at h
  rw [tn_eq, tn_eq, show M.1 8 b.toInt.toNat = _ from rd_bp hR (by omega), show M.1 8 old.toInt.toNat = _ from rd_bp hR (by omega)]
  refine ⟨fun kp => ?_, fun kp => ?_⟩
  · refine s_goPlain hR hI o24 spt.2.1 spt.2.2 (fun M16 c1 c2 f16 => ?_)
    rw [c2, tf_z]
    refine ⟨fun kv => ?_, fun kv => ?_⟩
    · rw [show M16.1 36 5 = _ from c1 5 (by decide)]
      unfold w_X9_ask
      intro M1 e1 M2 e2 M3 e3 M4 e4 M5 e5 M6 e6
      have hR16 := f16.q.r hR
      have F6 : FQ M16 M6 := by
        rw [e6, e5, e4, e3, e2, e1]
        exact ((((fq_uR.tr fq_uR).tr (fq_uI (by decide) (by decide))).tr (fq_uI (by decide) (by decide))).tr (fq_uI (by decide) (by decide))).tr (fq_uI (by decide) (by decide))
      have hR6 := F6.r hR16
      refine ⟨vp_of (ix_n spt.1.1) (by omega), vp_of (ix_n k2.1) (by omega), fun M9 e9 => ?_⟩
      have bo := bk_o hI spt.1 o24
      rw [tn_eq, tn_eq, show M6.1 (1 + 1 + 7) b.toInt.toNat = bC N b from rd_bc hR6 (by omega), show M6.1 (1 + 1 + 7) old.toInt.toNat = bC N old from rd_bc hR6 (by omega), bo.1] at e9
      have F9 : FQ M M9 := by rw [e9]; exact (f16.q.tr F6).tr (fq_uI (by decide) (by decide))
      have U9 : UD b m s (bkL N old m s sp) (bkO N b old) M9 := by
        rw [e9, e6, e5, e4, e3, e2, e1]
        exact ⟨rfl, rfl, rfl, rfl, rfl, rfl, rfl⟩
      rw [if_pos ⟨kp, kv⟩] at h
      have hR9 := F9.r hR
      refine ⟨fun w2 => ?_, fun w2 => ?_⟩
      · refine s_find9 hR9 hI spt.1 spt.2.1 spt.2.2 bo.2 U9 (fun M22 l22 f22 => ?_)
        have h := h M22 (F9.tr f22)
        rw [if_neg w2] at h
        refine ⟨fun w0 => ?_, fun w0 => ?_⟩
        · refine s_few9 l22 (fnd_252 (by decide)) (fun x hx => (fnd_mem.mp hx).1) ?_
          rw [if_neg w0] at h
          exact h
        · rw [if_pos w0] at h
          rw [i_nat l22.1]
          exact h
      · refine s_alone9 hR9 hI spt.1 spt.2.1 spt.2.2 bo.2 U9 (fun M27 f27 => ?_)
        have h := h M27 (F9.tr f27)
        rw [if_pos w2] at h
        exact h
    · have h := h M16 f16.q
      rw [if_neg (fun x => kv x.2)] at h
      exact h
  · have h := h M (FQ.rf M)
    rw [if_neg (fun x => kp x.1)] at h
    exact h

/-! plain runs, both sides -/
def plG (N : Nat → Int32) (m sn pn : Nat) (ch : Int32) : Nat × Int32 × SS × Nat := runG N m sn 0 pn ch (fun _ => -1) (fun _ => 0)
def plC (N : Nat → Int32) (m sn pn : Nat) (ch : Int32) : Nat → Int32 := cntF (plG N m sn pn ch) (toN (N (960 + pn))) (tmF N m (plG N m sn pn ch))
abbrev plV (N : Nat → Int32) (m sn pn : Nat) (ch : Int32) : Prop := (plG N m sn pn ch).1 < toN (N (960 + pn))
theorem inv_size40 {N : Nat → Int32} (hI : InvN N) {pn : Nat} (hp : pn < 6) : (N (960 + pn)).toInt = ((toN (N (960 + pn)) : Nat) : Int) ∧ toN (N (960 + pn)) ≤ 40 := by
  have iz := hI.1 (960 + pn) (by omega)
  rw [rg_size hp] at iz
  have iz : 0 ≤ (N (960 + pn)).toInt ∧ (N (960 + pn)).toInt ≤ 40 := iz
  unfold toN
  omega
theorem inv_asm {N : Nat → Int32} (hI : InvN N) {pn : Nat} {ch : Int32} (hp : pn < 6) (l : Nat) (hl : l < toN (N (960 + pn))) : okLine (asm N pn ch (toN (N 4211)) (4 * l)) (asm N pn ch (toN (N 4211)) (4 * l + 1)) (asm N pn ch (toN (N 4211)) (4 * l + 2)) (asm N pn ch (toN (N 4211)) (4 * l + 3)) := by
  have i1 : 0 ≤ (N 4211).toInt ∧ (N 4211).toInt ≤ 10 := hI.1 4211 (by decide)
  have := inv_size40 hI hp
  exact asm_ok hI hp _ (by unfold toN; omega) l (by omega)
theorem s_goesPlain {pI ch mI sI : Int32} {pn mn sn : Nat} {M : Mem} {q : Mem → Prop} (hI : InvN (M.1 136)) (hp : pI.toInt = pn) (hp6 : pn < 6) (hm : mI.toInt = mn) (hm4 : mn < 4) (hs : sI.toInt = sn) (hs8 : sn < 8) (h : ∀ M', (∀ i, i < 6 → M'.1 144 i = plC (M.1 136) mn sn pn ch i) → M'.1 135 10 = tf (plV (M.1 136) mn sn pn ch) → FM M M' → q M') : w_X12_goesPlain pI ch mI sI M q := by
  unfold w_X12_goesPlain
  refine s_empty12 (fun M1 a1 a2 a3 a4 => ?_)
  have e1 : M1.1 136 = M.1 136 := a3 136 (by decide) (by decide)
  refine s_asm12 (by rw [e1]; exact hI) hp hp6 (fun M3 b1 b2 b3 => ?_)
  rw [e1] at b1 b2
  have e3 : M3.1 136 = M.1 136 := by rw [b3.row (by decide) (by decide), e1]
  have z := inv_size40 hI hp6
  refine s_goes12 (O := fun _ => -1) (G := fun _ => 0) (C := asm (M.1 136) pn ch (toN (M.1 136 4211))) (L := toN (M.1 136 (960 + pn))) (by rw [e3]; exact hI) hm hm4 hs hs8 (by decide) (by rw [b1]; exact z.1) z.2 b2 (fun l hl => inv_asm hI hp6 l hl) (fun i hi => ?_) (fun i hi => ?_) ?_
  · rw [b3.row (by decide) (by decide)]; exact a1 i hi
  · rw [b3.row (by decide) (by decide)]; exact a2 i hi
  · rw [e3]
    intro M' c1 c2 _ _ cF
    refine h M' c1 c2 ⟨fun a ha => ?_, fun a _ => ?_, ?_⟩
    · rw [cF.1 a (by omega) (by omega) (by omega) (by omega) (by omega) (by omega), b3.row (by omega) (by omega), a3 a (by omega) (by omega)]
    · rw [cF.2.2, b3.2, a4]
    · rw [cF.2.2, b3.2, a4]
/-- a run in the class with cells of its own -/
def FrP (M M' : Mem) : Prop := (∀ a, (a < 35 ∨ 42 ≤ a) → M'.1 a = M.1 a) ∧ M'.2.1 = M.2.1 ∧ ∀ a b, a ≠ 35 → M'.2.2 a b = M.2.2 a b
theorem FrP.q {M M' : Mem} (h : FrP M M') : FQ M M' := ⟨fun a ha => h.1 a (by omega), fun a _ => by rw [h.2.1]⟩
theorem fl_in {M : Mem} {k n i : Nat} {v : Int32} (h : i < n) : (flI M k n v).1 k i = v := if_pos ⟨rfl, h⟩
theorem fl_k {M : Mem} {k n a b : Nat} {v : Int32} (h : a ≠ k) : (flI M k n v).1 a b = M.1 a b := if_neg (fun x => h x.1)
theorem sh_m : ∀ m, m < 4 → sh (1 + (16 + 4 * m)) = .inl 3 := by decide +kernel
theorem cz_own {m : Nat} (h : m < 4) : CZ (1 + (16 + 4 * m)) 40 41 := ⟨⟨sh_m m h, rfl, rfl, rfl, rfl⟩, by decide, by omega, by omega, by decide, by decide, by decide, by decide⟩
/-- a run's own go, once all is laid -/
theorem s_go11 {v1 p : Int32} {mn L km kr kg : Nat} {M : Mem} {N C R O G : Nat → Int32} {q : Mem → Prop} (hI : InvN N) (z : CZ km kr kg) (hx : CX N mn km kr kg p M) (hk35 : km ≠ 36 ∧ km + 1 ≠ 36) (hm4 : mn < 4) (hp : 0 ≤ p.toInt ∧ p.toInt ≤ 63) (hL : (M.1 35 3).toInt = (L : Int)) (hL40 : L ≤ 40) (hC : ∀ l, l < L → ∀ k, k < 4 → M.1 37 (4 * l + k) = nl C (4 * l + k) k) (hk : ∀ l, l < L → okLine (C (4 * l)) (C (4 * l + 1)) (C (4 * l + 2)) (C (4 * l + 3))) (h1 : ∀ i, i < 8 → M.1 38 i = R i) (h2 : ∀ i, i < 64 → M.1 39 i = 0) (h3 : ∀ i, i < 16 → M.1 kr i = O i) (h4 : ∀ i, i < 16 → M.1 kg i = G i) (h : ∀ M', (∀ i, i < 6 → M'.1 36 i = cntF (goF N mn p C L 2000 0 0 (R, fun _ => 0, O, G, fun _ => 0)) L (tmF N mn (goF N mn p C L 2000 0 0 (R, fun _ => 0, O, G, fun _ => 0)) + v1) i) → M'.1 35 1 = tf ((goF N mn p C L 2000 0 0 (R, fun _ => 0, O, G, fun _ => 0)).1 < L) → (∀ i, i < 16 → M'.1 kr i = (goF N mn p C L 2000 0 0 (R, fun _ => 0, O, G, fun _ => 0)).2.2.1.2.2.1 i) → (∀ i, i < 16 → M'.1 kg i = (goF N mn p C L 2000 0 0 (R, fun _ => 0, O, G, fun _ => 0)).2.2.1.2.2.2.1 i) → FrY kr kg M M' → q M') : w_X7_go 35 v1 M q := by
  unfold w_X7_go
  have dd := z.2.1
  refine s_fill (k := 35 + 1) (n := 6) rfl (by decide) ?_
  have a : ∀ b c, b ≠ 36 → (flI M 36 6 0).1 b c = M.1 b c := fun b c hb => if_neg (fun x => hb x.1)
  have ar : ∀ b, b ≠ 36 → (flI M 36 6 0).1 b = M.1 b := fun b hb => by funext c; exact a b c hb
  refine s_goL (s0 := (R, fun _ => 0, O, G, fun _ => 0)) (C := C) (L := L) hI z ?_ hm4 hp ?_ hL40 (fun l hl k hk4 => ?_) hk ⟨fun i hi => ?_, fun i hi => ?_, fun i hi => ?_, fun i hi => ?_, fun i i1 i2 => if_pos ⟨rfl, by omega⟩⟩ (fun M' m1 m2 m3 m4 mF => h M' m1 m2 m3 m4 ⟨fun b b1 b2 b3 b4 b5 b6 => ?_, fun b hb => ?_, ?_⟩)
  · unfold CX
    show (M.2.2 35 8 = some km ∧ M.2.2 35 9 = some kr ∧ M.2.2 35 10 = some kg) ∧ _
    rw [show (flI M (35 + 1) 6 0).1 km = M.1 km from ar km hk35.1, show (flI M (35 + 1) 6 0).1 (km + 1) = M.1 (km + 1) from ar (km + 1) hk35.2, show (flI M (35 + 1) 6 0).1 35 = M.1 35 from ar 35 (by decide)]
    exact hx
  · exact (by rw [show (flI M (35 + 1) 6 0).1 35 3 = M.1 35 3 from a 35 3 (by decide)]; exact hL)
  · rw [show (flI M (35 + 1) 6 0).1 37 = M.1 37 from ar 37 (by decide)]; exact hC l hl k hk4
  · rw [show (flI M (35 + 1) 6 0).1 38 = M.1 38 from ar 38 (by decide)]; exact h1 i hi
  · rw [show (flI M (35 + 1) 6 0).1 39 = M.1 39 from ar 39 (by decide)]; exact h2 i hi
  · rw [show (flI M (35 + 1) 6 0).1 kr = M.1 kr from ar kr (by omega)]; exact h3 i hi
  · rw [show (flI M (35 + 1) 6 0).1 kg = M.1 kg from ar kg (by omega)]; exact h4 i hi
  · rw [mF.1 b b1 b2 b3 b4 b5 b6]; exact ar b b5
  · rw [mF.2.1 b hb]; exact a 35 b (by decide)
  · rw [mF.2.2]; rfl
theorem s_plainWith {bI ch mI sI : Int32} {bn mn sn : Nat} {M : Mem} {N : Nat → Int32} {q : Mem → Prop} (hR : Rep 1 N M.1) (hI : InvN N) (hb : bI.toInt = bn) (hb24 : bn < 24) (hm : mI.toInt = mn) (hm4 : mn < 4) (hs : sI.toInt = sn) (hs8 : sn < 8) (h : ∀ M', (∀ i, i < 6 → M'.1 36 i = plC N mn sn (toN (N (1026 + 2 * bn))) ch i) → M'.1 35 1 = tf (plV N mn sn (toN (N (1026 + 2 * bn))) ch) → FrP M M' → q M') : w_X7_goPlainWith 35 1 bI ch mI sI M q := by
  have ip : 0 ≤ (N (1026 + 2 * bn)).toInt ∧ (N (1026 + 2 * bn)).toInt ≤ 5 := by
    have := hI.1 (1026 + 2 * bn) (by omega)
    rw [rg_bp hb24] at this
    exact this
  have hpn : toN (N (1026 + 2 * bn)) < 6 := by unfold toN; omega
  have hpe : (N (1026 + 2 * bn)).toInt = ((toN (N (1026 + 2 * bn)) : Nat) : Int) := ix_n ip.1
  unfold w_X7_goPlainWith
  refine ⟨vp_of hm hm4, fun M2 e2 => ?_⟩
  rw [i_of hm, show 1 + 10 + 6 + 4 * mn = 1 + (16 + 4 * mn) from by omega] at e2
  unfold w_X7_useOwn w_X7_empty
  intro Ma ea Mb eb
  have g8 : Mb.2.2 35 8 = some (1 + (16 + 4 * mn)) := by rw [eb, ea, e2]; simp [uR]
  have g9 : Mb.2.2 35 9 = some 40 := by rw [eb, ea]; simp [uR]
  have g10 : Mb.2.2 35 10 = some 41 := by rw [eb]; simp [uR]
  have mb1 : Mb.1 = M.1 := by rw [eb, ea, e2]; rfl
  have mb2 : Mb.2.1 = M.2.1 := by rw [eb, ea, e2]; rfl
  have mb3 : ∀ a b, a ≠ 35 → Mb.2.2 a b = M.2.2 a b := fun a b hab => by rw [eb, ea, e2]; simp [uR, hab]
  clear e2 ea eb
  refine ⟨40, g9, rfl, s_fill (k := 40) (n := 16) rfl (by decide) ⟨41, g10, rfl, s_fill (k := 41) (n := 16) rfl (by decide) ?_⟩⟩
  intro M5 e5
  have a5 : ∀ a b, a ≠ 40 → a ≠ 41 → ¬ (a = 35 ∧ b = 11) → M5.1 a b = M.1 a b := fun a b h1 h2 h3 => by
    rw [e5, ← mb1]
    show (if a = 35 ∧ b = 11 then (0 : Int32) else (flI (flI Mb 40 16 (-1)) 41 16 0).1 a b) = _
    rw [if_neg h3, fl_k h2, fl_k h1]
  have c40 : ∀ i, i < 16 → M5.1 40 i = -1 := fun i hi => by
    rw [e5, uI_k (by decide), fl_k (by decide), fl_in hi]
  have c41 : ∀ i, i < 16 → M5.1 41 i = 0 := fun i hi => by
    rw [e5, uI_k (by decide), fl_in hi]
  have c11 : M5.1 35 11 = 0 := by rw [e5, uI_s]
  have m52 : M5.2 = Mb.2 := by rw [e5]; rfl
  clear e5
  have R5 : Rep 1 N M5.1 := rep_fr (fun a h1 h2 => by funext b; exact a5 a b (by omega) (by omega) (by omega)) hR
  refine ⟨vp_of hb hb24, ?_⟩
  rw [i_of hb, show M5.1 (1 + 1 + 6) bn = N (1026 + 2 * bn) from rd_bp R5 hb24]
  refine s_begin R5 hI hpe hpn hs hs8 (fun M7 b1 b2 b3 b4 bF => ?_)
  have z := inv_size40 hI hpn
  have R7 : Rep 1 N M7.1 := rep_fr (fun a h1 h2 => by funext b; exact bF.1 a b (by omega) (by omega) (by omega) (by omega)) R5
  have cx : CX N mn (1 + (16 + 4 * mn)) 40 41 0 M7 := by
    refine ⟨⟨by rw [bF.2, m52]; exact g8, by rw [bF.2, m52]; exact g9, by rw [bF.2, m52]; exact g10⟩, ⟨rd_mach R7 (r := 8) hm4 (by decide) (by decide), rd_mach R7 (r := 9) hm4 (by decide) (by decide), rd_mach R7 (r := 10) hm4 (by decide) (by decide), rd_mach R7 (r := 11) hm4 (by decide) (by decide), rd_mach R7 (r := 12) hm4 (by decide) (by decide), fun a ha => ?_⟩, ?_⟩
    · rw [show 1 + (16 + 4 * mn) + 1 = 1 + (17 + 4 * mn) from by omega]
      exact rd_price R7 hm4 ha
    · rw [bF.1 35 11 (by decide) (by decide) (by decide) (by decide), c11]
  refine s_go11 (R := R0 N sn) (O := fun _ => -1) (G := fun _ => 0) (C := asm N (toN (N (1026 + 2 * bn))) ch (toN (N 4211))) (L := toN (N (960 + toN (N (1026 + 2 * bn))))) hI (cz_own hm4) cx (by omega) hm4 (by decide) (by rw [b1]; exact z.1) z.2 b2 (fun l hl => inv_asm hI hpn l hl) b3 b4 (fun i hi => ?_) (fun i hi => ?_) (fun M' c1 c2 _ _ cF => h M' ?_ c2 ⟨fun a ha => ?_, ?_, fun a b hab => ?_⟩)
  · rw [bF.1 40 i (by decide) (by decide) (by decide) (by omega)]; exact c40 i hi
  · rw [bF.1 41 i (by decide) (by decide) (by decide) (by omega)]; exact c41 i hi
  · intro i hi
    rw [c1 i hi, Int32.add_zero]
    rfl
  · funext b
    rw [cF.1 a (by omega) (by omega) (by omega) (by omega) (by omega) (by omega), bF.1 a b (by omega) (by omega) (by omega) (by omega), a5 a b (by omega) (by omega) (by omega)]
  · rw [cF.2.2, bF.2, m52, mb2]
  · rw [cF.2.2, bF.2, m52]; exact mb3 a b hab

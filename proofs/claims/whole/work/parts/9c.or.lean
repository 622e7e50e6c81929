/-! work and fault, the program -/
abbrev Tx (N : Nat → Int32) : Nat → Int32 := fun i => N (4170 + i)
abbrev S00 : SM := (0, none, [])
noncomputable def rdR (N : Nat → Int32) : RS := @Classical.epsilon RS ⟨Sum.inl 0⟩ (fun r => Ev (Tx N) (toN (N 4217)) S00 r)
theorem rd_is {N : Nat → Int32} {r : RS} (h : Ev (Tx N) (toN (N 4217)) S00 r) : rdR N = r := ev_det (Classical.epsilon_spec (p := fun r => Ev (Tx N) (toN (N 4217)) S00 r) ⟨r, h⟩) h
def FrRd (M M' : Mem) : Prop := (∀ a b, ¬ (a = 68 ∧ (b = 0 ∨ b = 2 ∨ b = 3)) → a ≠ 69 → M'.1 a b = M.1 a b) ∧ M'.2 = M.2
theorem FrRd.q {M M' : Mem} (h : FrRd M M') : FQ M M' := ⟨fun a ha => by funext b; exact h.1 a b (by omega) (by omega), fun a _ => by rw [h.2]⟩
theorem s_work {M : Mem} {N : Nat → Int32} {K : Nat → Int64} {q : Int64 → Mem → Prop} (hR : Rep 1 N M.1) (hI : InvN N) (hK : ∀ i, i < 6 → M.2.1 70 i = K i) (h : ∀ v M', FrRd M M' → ((∃ f, ¬ f = -1 ∧ M'.1 68 0 = f ∧ rdR N = Sum.inl f) ∨ (M'.1 68 0 = -1 ∧ ∃ w, rdR N = Sum.inr w ∧ v = w K)) → q v M') : w_X4_work 68 16 (M.1 1 6) M q := by
  have i7 : 0 ≤ (N 4217).toInt ∧ (N 4217).toInt ≤ 40 := hI.1 4217 (by decide)
  obtain ⟨n, hn⟩ : ∃ n, n = toN (N 4217) := ⟨_, rfl⟩
  have nT : (N 4217).toInt = (n : Int) := by rw [hn]; unfold toN; omega
  have n40 : n ≤ 40 := by omega
  have rdi : ∀ r, Ev (Tx N) n S00 r → rdR N = r := fun r hr => rd_is (by rw [← hn]; exact hr)
  have ev : imin (imax (N 4217) (0 : Int32)) (imin (Int32.ofNat (len 16)) (40 : Int32)) = N 4217 := by
    have l16 : imin (Int32.ofNat (len 16)) (40 : Int32) = 40 := by decide
    have e1 : imax (N 4217) (0 : Int32) = N 4217 := by
      unfold imax
      rw [if_neg]
      rw [lt_i, nT]
      show ¬ (n : Int) < 0
      omega
    rw [l16, e1]
    unfold imin
    rw [if_neg]
    rw [lt_i, nT]
    show ¬ (40 : Int) < (n : Int)
    omega
  unfold w_X4_work
  rw [rc7 hR, ev]
  intro M1 e1
  have s1 : M1.1 68 2 = N 4217 := by rw [e1, uI_s]
  have l16 : len 16 = 40 := by decide
  rw [s1, i_of nT, l16]
  refine ⟨?_, by omega, by omega, fun M5 e5 M6 e6 M7 e7 => ?_⟩
  · rw [lt_i, nT]
    show ¬ (n : Int) < 0
    omega
  have B7 : BSr (Tx N) n K M7 := by
    refine ⟨?_, n40, fun i hi => ?_, fun i hi => ?_⟩
    · rw [e7, uI_j (by decide), e6, uI_j (by decide), e5]
      show (M1.1 68 2).toInt = _
      rw [s1]; exact nT
    · rw [e7, uI_k (by decide), e6, uI_k (by decide), e5]
      show va_cpy (M1.1 16) (M1.1 69) 0 0 n i = N (4170 + i)
      unfold va_cpy
      rw [if_pos ⟨by omega, by omega⟩, e1, uI_k (by decide), show 0 + (i - 0) = i from by omega]
      exact rd_text hR (by omega)
    · rw [← hK i hi, e7, e6, e5, e1]; rfl
  have C7 : CS n M7 0 (-1) M7 := by
    refine ⟨by rw [e7, uI_s], ?_, Nat.zero_le _, fun _ _ _ => rfl, rfl⟩
    rw [e7, uI_j (by decide), e6, uI_s]; rfl
  have F7 : ∀ a b, ¬ (a = 68 ∧ (b = 0 ∨ b = 2 ∨ b = 3)) → a ≠ 69 → M7.1 a b = M.1 a b := fun a b h1 h2 => by
    rw [e7, show (uI M6 68 0 (-1)).1 a b = M6.1 a b from if_neg (fun x => h1 ⟨x.1, Or.inl x.2⟩), e6, show (uI M5 68 3 0).1 a b = M5.1 a b from if_neg (fun x => h1 ⟨x.1, Or.inr (Or.inr x.2)⟩), e5, show (cpI M1 16 (68 + 1) 0 0 n).1 a b = M1.1 a b from if_neg h2, e1]
    exact if_neg (fun x => h1 ⟨x.1, Or.inr (Or.inl x.2)⟩)
  have F72 : M7.2 = M.2 := by rw [e7, e6, e5, e1]; rfl
  have fw : ∀ {p : Nat} {f : Int32} {M' : Mem}, CS n M7 p f M' → FrRd M M' := fun {p f M'} C => ⟨fun a b h1 h2 => (C.2.2.2.1 a b (fun x => h1 ⟨x.1, by rcases x.2 with y | y; exact Or.inl y; exact Or.inr (Or.inr y)⟩)).trans (F7 a b h1 h2), C.2.2.2.2.trans F72⟩
  refine s_valN (S0 := S00) B7 10 0 (by decide) (by decide) [] 0 0 M7 _ trivial rfl rfl C7 (fun r hr => hr) (fun v M8 po => ?_)
  rcases po with ⟨f, p, x1, x2, x3⟩ | ⟨p, u, s, w, y1, y2, y3, y4, y5, y6, y7, _⟩
  · refine s_ahead4 B7 x2 (fun M10 C10 => ?_)
    have fin : q v M10 := h v M10 (fw C10) (Or.inl ⟨f, x1, C10.1, rdi _ x3⟩)
    exact ⟨fun _ => fin, fun _ => s_fail0 x1 C10 fin⟩
  · have nc := y7 (by decide)
    have os : opn s = 0 := by
      have := opn_red (r := 1) s u
      rw [y5] at this
      rw [← this]; rfl
    refine s_ahead4 B7 y3 (fun M10 C10 => ?_)
    rw [skp_id nc.1] at C10 ⊢
    refine ⟨fun k => h v M10 (fw C10) (Or.inr ⟨C10.1, w, rdi _ (y4 _ ?_), y6⟩), fun k => ?_⟩
    · have g := g_halt (v := u) nc.1 k os
      rw [y5] at g
      exact g
    · have p40 : p ≤ 40 := by have := C10.2.2.1; omega
      refine s_fail1 C10 (fun M13 C13 => h v M13 (fw C13) (Or.inl ⟨flt p 1, flt_n p40 (by decide), C13.1, rdi _ (y4 _ ?_)⟩))
      by_cases z : 1 ≤ rkI (chr (Tx N) n p)
      · have t := nc.2 z
        exact g_op3f nc.1 t.1 t.2
      · exact g_vbad nc.1 (fun x => by have := x.2; omega) (by omega) (fun x => k x.1)
noncomputable def spFault (N : Nat → Int32) : Int32 := match rdR N with
  | Sum.inl f => f
  | Sum.inr _ => -1
theorem c_fault {M : Mem} {N : Nat → Int32} {q : Int32 → Mem → Prop} (hR : Rep 1 N M.1) (hI : InvN N) (h : ∀ M', FQ M M' → q (spFault N) M') : w_X11_fault M q := by
  unfold w_X11_fault
  refine s_work hR hI (K := M.2.1 70) (fun _ _ => rfl) (fun v M' F c => ?_)
  have h := h M' F.q
  unfold spFault at h
  rcases c with ⟨f, _, e1, e2⟩ | ⟨e1, w, e2, _⟩
  · rw [e2] at h
    rw [e1]; exact h
  · rw [e2] at h
    rw [e1]; exact h

/-! reads, fault of the model -/
section
variable {n : Nat} {K : Nat → Int64} {M0 : Mem} {N : Nat → Int32}
/-- the loop's three ways: at fault, at the end, under way -/
def RdI (n : Nat) (K : Nat → Int64) (M0 : Mem) (N : Nat → Int32) (st : Int32 × Int32 × Int32 × Mem) : Prop :=
  (FrS M0 st.2.2.2 ∧ ¬ st.2.2.2.1 135 23 = -1 ∧ Ev (Tx N) n S00 (Sum.inl (st.2.2.2.1 135 23))) ∨
  (FrS M0 st.2.2.2 ∧ st.2.2.1 = 0 ∧ st.2.2.2.1 135 23 = -1 ∧ ∃ w, Ev (Tx N) n S00 (Sum.inr w) ∧ st.2.2.2.2.1 151 0 = w K) ∨
  (¬ st.2.2.1 = 0 ∧ ∃ p k, MBr n M0 p (-1) st.2.2.2 ∧ st.1.toInt = (opn k : Int) ∧ k.length ≤ p ∧ ((st.2.1 = 1 ∧ wf k false ∧ WSt K k st.2.2.2 ∧ Rc (Tx N) n S00 (p, none, k)) ∨ (st.2.1 = 0 ∧ wf k true ∧ ∃ u, VSt K k u st.2.2.2 ∧ Rc (Tx N) n S00 (p, some u, k))))
def RdM (st : Int32 × Int32 × Int32 × Mem) : Nat := if st.2.2.2.1 135 23 = -1 ∧ ¬ st.2.2.1 = 0 then 50 - (st.2.2.2.1 135 22).toInt.toNat else 0
theorem w_push {k : List Itm} {c : Int32} {l : VF} {M : Mem} {x : Int32} (hc : ¬ c < 1000) (hl : k.length < 100) (h : WSt K k M) (hx : x.toInt = (k.length : Int)) : WSt K ((c, l) :: k) (uI (uI M 152 k.length c) 135 27 (x + 1)) := by
  obtain ⟨a, b, d⟩ := h
  refine ⟨?_, ?_, ?_, fun y => absurd y hc, ?_⟩
  · rw [uI_s, List.length_cons]; exact ix_a hx rfl (by omega)
  · rw [uI_j (by decide), uI_k (by decide), nop, if_neg hc]; exact b
  · rw [uI_k (by decide), uI_s]
  · exact sr_fr (M := M) k (fun i hi => by rw [uI_k (by decide), uI_j (by omega)]) (fun i _ => rfl) d
theorem s_reads {M : Mem} {q : Int32 → Mem → Prop} (hN : M.1 136 = N) (hI : InvN N) (hK : ∀ i, i < 6 → M.2.1 153 i = K i) (h : ∀ r M', FrS M M' → ((∃ f, ¬ f = -1 ∧ r = 0 ∧ M'.1 135 23 = f ∧ rdR N = Sum.inl f) ∨ (r = 1 ∧ M'.1 135 23 = -1 ∧ ∃ w, rdR N = Sum.inr w ∧ M'.2.1 135 29 = w K)) → q r M') : w_X12_reads M q := by
  have i7 : 0 ≤ (N 4217).toInt ∧ (N 4217).toInt ≤ 40 := hI.1 4217 (by decide)
  obtain ⟨n, hnE⟩ : ∃ n, n = toN (N 4217) := ⟨_, rfl⟩
  have hn : (N 4217).toInt = (n : Int) := by rw [hnE]; unfold toN; omega
  have n40 : n ≤ 40 := by omega
  have rdi : ∀ r, Ev (Tx N) n S00 r → rdR N = r := fun r hr => rd_is (by rw [← hnE]; exact hr)
  unfold w_X12_reads
  intro M82 e82 M83 e83 M84 e84 M85 e85
  have F85 : FrS M M85 := by
    rw [e85, e84, e83, e82]
    exact (((frs_I (Or.inl rfl)).tr (frs_I (Or.inr (Or.inl rfl)))).tr (frs_I (Or.inr (Or.inr (Or.inl rfl))))).tr (frs_I (Or.inr (Or.inr (Or.inr rfl))))
  have z22 : M85.1 135 22 = 0 := by rw [e85, e84, e83, e82]; rfl
  have z23 : M85.1 135 23 = -1 := by rw [e85, e84, e83, e82]; rfl
  have z25 : M85.1 135 25 = 0 := by rw [e85, e84, e83, e82]; rfl
  have z27 : M85.1 135 27 = 0 := by rw [e85, e84, e83, e82]; rfl
  unfold w_X12_reads_l26
  refine lfp_intro (RdI n K M N) RdM ?_ _ (Or.inr (Or.inr ⟨(show ¬ (1 : Int32) = 0 by decide), 0, [], ⟨z23, by rw [z22]; rfl, Nat.zero_le _, F85⟩, rfl, Nat.zero_le _, Or.inl ⟨rfl, trivial, ⟨by rw [z27]; rfl, by rw [z25]; rfl, trivial⟩, fun r hr => hr⟩⟩))
  intro P st hJ hP
  obtain ⟨v1, v2, v3, M1⟩ := st
  have ends : ∀ M2 : Mem, FrS M M2 → ((¬ M2.1 135 23 = -1 ∧ Ev (Tx N) n S00 (Sum.inl (M2.1 135 23))) ∨ (M2.1 135 23 = -1 ∧ ∃ w, Ev (Tx N) n S00 (Sum.inr w) ∧ M2.2.1 151 0 = w K)) → w_X12_reads_b490 M2 q := fun M2 F2 c => by
    unfold w_X12_reads_b490 w_X12_reads_b509
    refine ⟨fun k M3 e3 => ?_, fun k M3 e3 => ?_⟩
    · have z : M3.1 135 23 = M2.1 135 23 := by rw [e3]; rfl
      rw [z]
      refine ⟨fun _ => ?_, fun k2 => absurd k2 k⟩
      rcases c with c | c
      · exact h 0 M3 (by rw [e3]; exact F2.tr frs_T) (Or.inl ⟨_, c.1, rfl, z, rdi _ c.2⟩)
      · exact absurd c.1 k
    · have z : M3.1 135 23 = M2.1 135 23 := by rw [e3]; rfl
      rw [z]
      refine ⟨fun k2 => absurd k k2, fun _ => ?_⟩
      rcases c with c | c
      · exact absurd k c.1
      · obtain ⟨_, w, w1, w2⟩ := c
        refine h 1 M3 (by rw [e3]; exact F2.tr frs_T) (Or.inr ⟨rfl, z.trans k, w, rdi _ w1, ?_⟩)
        rw [e3]
        show (if 135 = 135 ∧ 29 = 29 then M2.2.1 151 0 else M2.2.1 135 29) = _
        rw [if_pos ⟨rfl, rfl⟩, w2]
  unfold w_X12_reads_l26F
  dsimp only
  rcases hJ with ⟨a0, b0, c0⟩ | ⟨a0, b0, c0, d0⟩ | ⟨a0, p, k, b0, c0, d0, e0⟩
  · have a : FrS M M1 := a0
    have b : ¬ M1.1 135 23 = -1 := b0
    have c : Ev (Tx N) n S00 (Sum.inl (M1.1 135 23)) := c0
    exact ⟨fun _ => ends M1 a (Or.inl ⟨b, c⟩), fun _ => ⟨fun _ => ends M1 a (Or.inl ⟨b, c⟩), fun x => absurd x b⟩⟩
  · have a : FrS M M1 := a0
    have b : v3 = 0 := b0
    have c : M1.1 135 23 = -1 := c0
    exact ⟨fun _ => ends M1 a (Or.inr ⟨c, d0⟩), fun x => absurd b x⟩
  have a : ¬ v3 = 0 := a0
  have hB : MBr n M p (-1) M1 := b0
  have ho : v1.toInt = (opn k : Int) := c0
  have hkl : k.length ≤ p := d0
  have hS : (v2 = 1 ∧ wf k false ∧ WSt K k M1 ∧ Rc (Tx N) n S00 (p, none, k)) ∨ (v2 = 0 ∧ wf k true ∧ ∃ u, VSt K k u M1 ∧ Rc (Tx N) n S00 (p, some u, k)) := e0
  clear a0 b0 c0 d0 e0
  refine ⟨fun x => absurd x a, fun _ => ⟨fun x => absurd hB.1 x, fun _ => ?_⟩⟩
  have mu0 : RdM (v1, v2, v3, M1) = 50 - p := by
    unfold RdM
    rw [if_pos ⟨hB.1, a⟩]
    show 50 - (M1.1 135 22).toInt.toNat = 50 - p
    rw [hB.2.1]; rfl
  have pn := hB.2.2.1
  refine s_ahead12 hN hn n40 hB (fun M43 B43 F43 => ?_)
  obtain ⟨p1, hp1⟩ : ∃ p1, p1 = skp (Tx N) n p := ⟨_, rfl⟩
  rw [← hp1] at B43 ⊢
  have sq := skp_q (T := Tx N) (n := n) p
  rw [← hp1] at sq
  have hq : Qp (Tx N) n p1 := sq.1
  have hpp : p ≤ p1 := sq.2.1
  have hp1n : p1 ≤ n := sq.2.2 pn
  obtain ⟨c, hc⟩ : ∃ c, c = chr (Tx N) n p1 := ⟨_, rfl⟩
  have a22 := B43.2.1
  have x22 := ix_a a22 (w := 1) (i := 1) rfl (by omega)
  -- three ways to go on
  have goF : ∀ (w1 w2 w3 : Int32) (M2 : Mem) (p2 : Nat) (f : Int32), ¬ f = -1 → MBr n M p2 f M2 → Ev (Tx N) n S00 (Sum.inl f) → P (w1, w2, w3, M2) := fun w1 w2 w3 M2 p2 f nf B2 E2 => by
    refine hP (w1, w2, w3, M2) (Or.inl ⟨B2.2.2.2, ?_, ?_⟩) ?_
    · show ¬ M2.1 135 23 = -1
      rw [B2.1]; exact nf
    · show Ev (Tx N) n S00 (Sum.inl (M2.1 135 23))
      rw [B2.1]; exact E2
    · rw [mu0]
      unfold RdM
      rw [if_neg (fun x => nf (by rw [← B2.1]; exact x.1))]
      omega
  have goA : ∀ (w1 w2 : Int32) (M2 : Mem) (p2 : Nat) (k2 : List Itm), p < p2 → MBr n M p2 (-1) M2 → w1.toInt = (opn k2 : Int) → k2.length ≤ p2 → ((w2 = 1 ∧ wf k2 false ∧ WSt K k2 M2 ∧ Rc (Tx N) n S00 (p2, none, k2)) ∨ (w2 = 0 ∧ wf k2 true ∧ ∃ u, VSt K k2 u M2 ∧ Rc (Tx N) n S00 (p2, some u, k2))) → P (w1, w2, v3, M2) := fun w1 w2 M2 p2 k2 hlt B2 o2 l2 S2 => by
    refine hP (w1, w2, v3, M2) (Or.inr (Or.inr ⟨a, p2, k2, B2, o2, l2, S2⟩)) ?_
    rw [mu0]
    unfold RdM
    rw [if_pos ⟨B2.1, a⟩]
    show 50 - (M2.1 135 22).toInt.toNat < 50 - p
    have := B2.2.2.1
    rw [B2.2.1]
    show 50 - p2 < 50 - p
    omega
  have plt : ¬ c = -1 → p1 < n := fun nc => by
    apply Nat.lt_of_not_le
    intro x
    rw [chr_end x] at hc
    exact nc hc
  have p40 : p1 ≤ 40 := by omega
  have f0 : (0 : Int32).toInt = 0 := rfl
  have f8 : (8 : Int32).toInt = 8 := rfl
  rw [← hc]
  refine ⟨fun w0 => ?_, fun w0 => ?_⟩
  · -- a value stands
    rcases hS with ⟨x, _⟩ | ⟨_, hwf, u, hV, hE⟩
    · rw [x] at w0; exact absurd w0 (by decide)
    have V43 : VSt K k u M43 := v_22 F43 hV
    have hE1 : Rc (Tx N) n S00 (p1, some u, k) := fun r hr => hE r (ev_skp (by rw [← hp1]; exact hr))
    have nk := nop_le k
    have b474 : Ev (Tx N) n (p1, some u, k) (Sum.inl (flt p1 1)) → w_X12_reads_b474 v1 v2 v3 M43 q P := fun E2 => by
      unfold w_X12_reads_b474 w_X12_reads_b487
      intro M4 e4
      rw [i_nat a22] at e4
      exact goF v1 v2 v3 M4 p1 (flt p1 1) (flt_n p40 (by decide)) (by rw [e4]; exact mb_f B43) (hE1 _ E2)
    have push : ∀ (kk : List Itm) (uu : VF) (M2 : Mem), kk.length ≤ k.length → opn kk = opn k → wf kk true → 0 < rkI c → MBr n M p1 (-1) M2 → VSt K kk uu M2 → (∀ r, Ev (Tx N) n (p1 + 1, none, (c, uu) :: kk) r → Ev (Tx N) n (p1, some u, k) r) → w_X12_reads_b418 v1 v3 c M2 q P := fun kk uu M2 hl hoo hwk hrk B2 V2 E2 => by
      have lo := rk_lo hrk
      have c1 : ¬ c = -1 := fun e => by rw [e] at hrk; exact absurd hrk (by decide)
      have lt := plt c1
      unfold w_X12_reads_b418 w_X12_reads_b487
      intro M5 e5
      have y22 := ix_a B2.2.1 (w := 1) (i := 1) rfl (by omega)
      have V5 : VSt K kk uu M5 := by rw [e5]; exact v_u (by decide) (by decide) V2
      have B5 : MBr n M (p1 + 1) (-1) M5 := by rw [e5]; exact mb_p B2 y22 (by omega)
      rw [i_of V5.1]
      refine ⟨vp_of V5.1 (by omega), fun M7 e7 M8 e8 => ?_⟩
      have z7 : M7.1 135 27 = M5.1 135 27 := by rw [e7, uI_k (by decide)]
      rw [z7] at e8
      refine goA v1 1 M8 (p1 + 1) ((c, uu) :: kk) (by omega) ?_ ?_ ?_ (Or.inl ⟨rfl, Or.inl ⟨lo, hrk, hwk⟩, ⟨?_, ?_, ?_, fun _ => ?_, ?_⟩, fun r hr => hE1 r (E2 r hr)⟩)
      · rw [e8, e7]; exact mb_u (mb_G B5) (Or.inr rfl)
      · rw [opn_op hrk, hoo]; exact ho
      · rw [List.length_cons]; omega
      · rw [e8, uI_s, List.length_cons]; exact ix_a V5.1 rfl (by omega)
      · rw [e8, uI_j (by decide), e7, uI_k (by decide), nop, if_pos lo]; exact V5.2.1
      · rw [e8, uI_k (by decide), e7, uI_s]
      · rw [e8, e7]; exact V5.2.2.2
      · exact sr_fr (M := M5) kk (fun i hi => by rw [e8, uI_k (by decide), e7, uI_j (by omega)]) (fun i _ => by rw [e8, e7]; rfl) V5.2.2.1
    have b321 : ¬ (c = 41 ∧ 0 < opn k) → w_X12_reads_b321 v1 v2 v3 c M43 q P := fun n41 => by
      have r5 := rk_5 c
      unfold w_X12_reads_b321
      refine s_rank ?_
      rw [le_i, ti_ofNat (by omega), f0]
      refine ⟨fun z => ⟨fun k1 => ?_, fun k1 => ⟨fun k2 => ?_, fun k2 => ?_⟩⟩, fun z => ?_⟩
      · exact b474 (g_vbad hq (by rw [← hc]; exact n41) (by rw [← hc]; omega) (fun x => k1 (by rw [hc]; exact x.1)))
      · refine b474 (g_vbad hq (by rw [← hc]; exact n41) (by rw [← hc]; omega) (fun x => k2 ?_))
        rw [eq_i, ho, x.2]; rfl
      · have o0 : opn k = 0 := by
          rw [eq_i, ho, f0] at k2
          omega
        refine s_down (r := 1) rfl (by omega) B43 V43 (fun M27 B27 V27 => ?_)
        unfold w_X12_reads_b487
        have top : (red 1 k u).1 = [] := by
          rcases red1_top k u hwf with x | ⟨l, s', x, _⟩
          · exact x
          · have := opn_red (r := 1) k u
            rw [x, opn, if_pos rfl] at this
            omega
        refine hP (v1, v2, 0, M27) (Or.inr (Or.inl ⟨B27.2.2.2, rfl, B27.1, (red 1 k u).2, hE1 _ (g_halt hq (by rw [← hc]; exact k1) o0), ?_⟩)) ?_
        · have := V27.2.2.2
          rw [top] at this
          exact this
        · rw [mu0]
          unfold RdM
          rw [if_neg (fun x => x.2 rfl)]
          omega
      · have rpos : 0 < rkI c := by omega
        have g41 : ¬ c = 41 := rk41 rpos
        refine s_rank ?_
        have b348 : ∀ (t1 : Int32) (r : Nat), t1.toInt = (r : Int) → r = (if rkI c = 3 then 4 else rkI c) → w_X12_reads_b348 v1 v2 v3 c t1 M43 q P := fun t1 r ht1 hr => by
          unfold w_X12_reads_b348
          refine s_down (r := r) ht1 (by omega) B43 V43 (fun M9 B9 V9 => ?_)
          have l9 := red_len (r := r) k u
          have o9 := opn_red (r := r) k u
          have wf9 := wf_red (r := r) k u hwf
          refine s_rank ?_
          have go : (∀ rr, Ev (Tx N) n (p1 + 1, none, (c, (red r k u).2) :: (red r k u).1) rr → Ev (Tx N) n (p1, some u, k) rr) → w_X12_reads_b418 v1 v3 c M9 q P := fun E => push _ _ M9 l9 o9 wf9 rpos B9 V9 E
          by_cases k3 : rkI c = 3
          · rw [if_pos k3] at hr
            have t3 : (Int32.ofNat (rkI c)) = 3 := by rw [k3]; rfl
            rw [t3]
            refine ⟨fun x => absurd rfl x, fun _ => ?_⟩
            have go3 : ¬ top3 (red r k u).1 = true → w_X12_reads_b418 v1 v3 c M9 q P := fun nt => go (fun rr hrr => by
              refine g_op3 hq (by rw [← hc]; exact k3) (by rw [← hr]; exact nt) ?_
              rw [← hc, ← hr]; exact hrr)
            cases hred : (red r k u).1 with
            | nil =>
              rw [hred] at V9 go3
              have z9 : (M9.1 135 27).toInt = 0 := V9.1
              rw [le_i, z9, f0]
              exact ⟨fun _ => go3 (by decide), fun x => absurd (Int.le_refl 0) x⟩
            | cons y s' =>
              obtain ⟨cc, ll⟩ := y
              rw [hred] at V9 go3 l9
              rw [List.length_cons] at l9
              have z9 : (M9.1 135 27).toInt = ((s'.length + 1 : Nat) : Int) := V9.1
              have z1 := ix_s z9 (w := 1) (i := 1) rfl (by omega)
              rw [show s'.length + 1 - 1 = s'.length from by omega] at z1
              have tc : M9.1 152 s'.length = cc := V9.2.2.1.1
              rw [le_i, z9, f0, i_of z1, tc]
              refine ⟨fun x => by omega, fun _ => ⟨vp_of z1 (by omega), fun k1 => go3 (fun x => ?_), fun k1 => ⟨vp_of z1 (by omega), s_rank ⟨fun k2 => go3 (fun x => ?_), fun k2 M21 e21 => ?_⟩⟩⟩⟩
              · have x : cc < 1000 ∧ rkI cc = 3 := of_decide_eq_true x
                rw [le_i] at k1
                have := x.1
                rw [lt_i] at this
                omega
              · have x : cc < 1000 ∧ rkI cc = 3 := of_decide_eq_true x
                rw [x.2] at k2
                exact k2 rfl
              · have c3 : rkI cc = 3 := by
                  have q5 := rk_5 cc
                  rw [eq_i, ti_ofNat (by omega)] at k2
                  have : (3 : Int32).toInt = 3 := rfl
                  omega
                unfold w_X12_reads_b487
                rw [i_nat B9.2.1] at e21
                refine goF v1 v2 v3 M21 p1 (flt p1 1) (flt_n p40 (by decide)) (by rw [e21]; exact mb_f B9) (hE1 _ (g_op3f hq (by rw [← hc]; exact k3) ?_))
                rw [← hr, hred]
                exact top3_op c3
          · rw [if_neg k3] at hr
            have t3 : ¬ (Int32.ofNat (rkI c)) = 3 := by
              rw [eq_i, ti_ofNat (by omega)]
              have : (3 : Int32).toInt = 3 := rfl
              omega
            refine ⟨fun _ => go (fun rr hrr => ?_), fun x => absurd x t3⟩
            refine g_op hq (by rw [← hc]; exact rpos) (by rw [← hc]; exact k3) ?_
            rw [← hc, ← hr]; exact hrr
        refine ⟨fun k3 => s_rank (b348 _ (rkI c) (ti_ofNat (by omega)) ?_), fun k3 => b348 4 4 rfl ?_⟩
        · rw [if_neg]
          intro x
          rw [x] at k3
          exact k3 rfl
        · rw [if_pos]
          rw [eq_i, ti_ofNat (by omega)] at k3
          have : (3 : Int32).toInt = 3 := rfl
          omega
    refine ⟨fun n41 => b321 (fun x => n41 x.1), fun k41 => ⟨fun k0 => b321 (fun x => ?_), fun k0 => ?_⟩⟩
    · rw [le_i, ho, f0] at k0
      have := x.2
      omega
    · rw [le_i, ho, f0] at k0
      have lt := plt (by rw [k41]; decide)
      intro M48 e48 x49 e49
      have V48 : VSt K k u M48 := by rw [e48]; exact v_u (by decide) (by decide) V43
      have B48 : MBr n M (p1 + 1) (-1) M48 := by rw [e48]; exact mb_p B43 x22 (by omega)
      refine s_down (r := 1) rfl (by omega) B48 V48 (fun M50 B50 V50 M52 e52 M53 e53 => ?_)
      have o1 := opn_red (r := 1) k u
      have l1 := red_len (r := 1) k u
      have top : ∃ l s', (red 1 k u).1 = (1000, l) :: s' ∧ wf s' false := by
        rcases red1_top k u hwf with x | x
        · rw [x] at o1
          have : opn [] = 0 := rfl
          omega
        · exact x
      obtain ⟨l, s', hs', ws'⟩ := top
      rw [hs'] at V50 o1 l1
      rw [List.length_cons] at l1
      rw [opn, if_pos rfl] at o1
      have n0 : nop ((1000, l) :: s') = nop s' := by rw [nop, if_neg (by decide)]
      have ns := nop_le s'
      have q27 : (M50.1 135 27).toInt = ((s'.length + 1 : Nat) : Int) := V50.1
      have q25 : (M50.1 135 25).toInt = ((nop s' + 1 : Nat) : Int) := by rw [← n0]; exact V50.2.1
      have t25 : M52.1 135 25 = M50.1 135 25 := by rw [e52, uI_j (by decide)]
      have W53 : WSt K s' M53 := by
        refine ⟨?_, ?_, ?_⟩
        · rw [e53, uI_j (by decide), e52, uI_s]
          exact ix_s q27 (w := 1) (i := 1) rfl (by omega)
        · rw [e53, uI_s, t25]
          exact ix_s q25 (w := 1) (i := 1) rfl (by omega)
        · exact sr_eq (M := M50) s' (by funext i; rw [e53, uI_k (by decide), e52, uI_k (by decide)]) (by rw [e53, e52]; rfl) V50.2.2.1.2.2
      have B53 : MBr n M (p1 + 1) (-1) M53 := by rw [e53, e52]; exact mb_u (mb_u B50 (Or.inr rfl)) (Or.inl rfl)
      refine ⟨vp_of W53.2.1 (by omega), ?_⟩
      rw [i_of W53.2.1]
      have vv : M53.2.1 151 (nop s') = (red 1 k u).2 K := by
        have := V50.2.2.2
        rw [n0] at this
        rw [← this, e53, e52]; rfl
      refine s_stands (u := (red 1 k u).2) vv (by omega) B53 W53 (fun M55 B55 V55 => ?_)
      unfold w_X12_reads_b487
      have lm := mrk_len s' (red 1 k u).2
      refine goA x49 v2 M55 (p1 + 1) _ (by omega) B55 ?_ ?_ (Or.inr ⟨w0, wf_mrk _ _ ws', _, V55, fun r hr => hE1 r (g_close hq (by rw [← hc]; exact k41) (by omega) ?_)⟩)
      · rw [opn_mrk, e49, ti_add (by rw [ho]; show -2147483648 ≤ (opn k : Int) + -1; omega) (by rw [ho]; show (opn k : Int) + -1 < 2147483648; have := i_hi v1; omega), ho]
        show (opn k : Int) + -1 = (opn s' : Int)
        omega
      · omega
      · rw [hs']
        exact hr
  · -- a value is wanted
    have hS : v2 = 1 ∧ wf k false ∧ WSt K k M1 ∧ Rc (Tx N) n S00 (p, none, k) := by
      rcases hS with x | ⟨x, _⟩
      · exact x
      · exact absurd x w0
    obtain ⟨w1, hwf, hW, hE⟩ := hS
    have W43 : WSt K k M43 := w_22 F43 hW
    have hE1 : Rc (Tx N) n S00 (p1, none, k) := fun r hr => hE r (ev_skp (by rw [← hp1]; exact hr))
    have f48 : (48 : Int64).toInt = 48 := rfl
    have f57 : (57 : Int64).toInt = 57 := rfl
    rw [e_in, tf_z, f48, f57]
    refine ⟨fun nd => ?_, fun yd => ?_⟩
    · have nd' : ¬ isD (chr (Tx N) n p1) := by rw [← hc]; exact nd
      refine s_nameOf ?_
      by_cases n6 : nm c < 6
      · rw [if_pos n6]
        have lt := plt (fun e => by rw [e] at n6; exact absurd n6 (by decide))
        refine ⟨fun x => ?_, fun _ M72 e72 => s_nameOf ?_⟩
        · rw [eq_i, ti_ofNat (by omega)] at x
          have : (-1 : Int32).toInt = -1 := rfl
          omega
        · rw [if_pos n6]
          have tn : (Int32.ofNat (nm c)).toInt = ((nm c : Nat) : Int) := ti_ofNat (by omega)
          rw [i_of tn]
          have B72 : MBr n M (p1 + 1) (-1) M72 := by rw [e72]; exact mb_p B43 x22 (by omega)
          have W72 : WSt K k M72 := by rw [e72]; exact w_u (by decide) (by decide) W43
          have kv : M72.2.1 153 (nm c) = K (nm c) := by
            rw [B72.2.2.2.2.1 153 (nm c) (fun x => absurd x.1 (by decide)) (by decide), hK _ n6]
          refine ⟨vp_of tn n6, s_stands (u := fun K => K (nm c)) kv (by omega) B72 W72 (fun M76 B76 V76 => ?_)⟩
          unfold w_X12_reads_b487
          have lm := mrk_len k (fun K => K (nm c))
          refine goA v1 0 M76 (p1 + 1) _ (by omega) B76 (by rw [opn_mrk]; exact ho) (by omega) (Or.inr ⟨rfl, wf_mrk _ _ hwf, _, V76, fun r hr => hE1 r (g_nm hq nd' (by rw [← hc]; exact n6) (by rw [← hc]; exact hr))⟩)
      · rw [if_neg n6]
        have n6' : ¬ nm (chr (Tx N) n p1) < 6 := by rw [← hc]; exact n6
        refine ⟨fun _ => ?_, fun x => absurd rfl x⟩
        have b229 : ¬ c = 33 → ¬ c = 45 → (c = 40 → ¬ opn k < 8) → w_X12_reads_b229 v1 v2 v3 c M43 q P := fun c1 c2 c3 => by
          unfold w_X12_reads_b229 w_X12_reads_b249 w_X12_reads_b487
          rw [i_nat a22]
          refine ⟨fun k1 M39 e39 => ?_, fun k1 M39 e39 => ?_⟩
          · exact goF v1 v2 v3 M39 p1 (flt p1 1) (flt_n p40 (by decide)) (by rw [e39]; exact mb_f B43) (hE1 _ (g_bad hq nd' n6' (by rw [← hc]; exact c1) (by rw [← hc]; exact c2) (by rw [← hc]; exact k1)))
          · exact goF v1 v2 v3 M39 p1 (flt p1 3) (flt_n p40 (by decide)) (by rw [e39]; exact mb_f B43) (hE1 _ (g_par8 hq (by rw [← hc]; exact k1) (c3 k1)))
        have pushW : ∀ (cc w1' : Int32) (M2 : Mem), p1 < n → ¬ cc < 1000 → wf ((cc, fun _ => 0) :: k) false → w1'.toInt = (opn ((cc, fun _ => 0) :: k) : Int) → MBr n M (p1 + 1) (-1) M2 → WSt K k M2 → (∀ r, Ev (Tx N) n (p1 + 1, none, (cc, fun _ => 0) :: k) r → Ev (Tx N) n (p1, none, k) r) → ∀ M3 : Mem, M3 = uI (uI M2 152 k.length cc) 135 27 (M2.1 135 27 + 1) → P (w1', v2, v3, M3) := fun cc w1' M2 lt ncc hw2 ho2 B2 W2 E2 M3 e3 => by
          refine goA w1' v2 M3 (p1 + 1) ((cc, fun _ => 0) :: k) (by omega) (by rw [e3]; exact mb_u (mb_G B2) (Or.inr rfl)) ho2 (by rw [List.length_cons]; omega) (Or.inl ⟨w1, hw2, ?_, fun r hr => hE1 r (E2 r hr)⟩)
          rw [e3]
          exact w_push ncc (by omega) W2 W2.1
        have b130 : (c = 33 ∨ c = 45) → w_X12_reads_b130 v1 v2 v3 c M43 q P := fun hcc => by
          have lt := plt (fun e => by rw [e] at hcc; rcases hcc with x | x; exact absurd x (by decide); exact absurd x (by decide))
          unfold w_X12_reads_b130
          intro M37 e37
          have B37 : MBr n M (p1 + 1) (-1) M37 := by rw [e37]; exact mb_p B43 x22 (by omega)
          have W37 : WSt K k M37 := by rw [e37]; exact w_u (by decide) (by decide) W43
          have b164 : ∀ cc : Int32, 1000 < cc → (∀ r, Ev (Tx N) n (p1 + 1, none, (cc, fun _ => 0) :: k) r → Ev (Tx N) n (p1, none, k) r) → w_X12_reads_b164 v1 v2 v3 (M37.1 135 27) cc M37 q P := fun cc hcc E2 => by
            unfold w_X12_reads_b164 w_X12_reads_b487
            rw [i_of W37.1]
            refine ⟨vp_of W37.1 (by omega), fun M35 e35 M36 e36 => ?_⟩
            have nlt : ¬ cc < 1000 := fun x => by rw [lt_i] at x hcc; omega
            refine pushW cc v1 M37 lt nlt (Or.inr (Or.inr ⟨rfl, hcc, hwf⟩)) ?_ B37 W37 E2 M36 ?_
            · rw [opn, if_neg (fun e => by rw [e] at hcc; exact absurd hcc (by decide))]; exact ho
            · rw [e36, e35, uI_k (by decide)]
          refine ⟨fun n33 => b164 1002 (by decide) (fun r hr => g_neg hq ?_ hr), fun y33 => b164 1001 (by decide) (fun r hr => g_not hq (by rw [← hc]; exact y33) hr)⟩
          rcases hcc with x | x
          · exact absurd x n33
          · rw [← hc]; exact x
        refine ⟨fun k33 => b130 (Or.inl k33), fun n33 => ⟨fun n45 => ⟨fun n40' => b229 n33 n45 (fun x => absurd x n40'), fun k40 => ⟨fun k8 => b229 n33 n45 (fun _ => ?_), fun k8 => ?_⟩⟩, fun k45 => b130 (Or.inr k45)⟩⟩
        · rw [le_i, ho, f8] at k8
          omega
        · rw [le_i, ho, f8] at k8
          have lt := plt (by rw [k40]; decide)
          intro M67 e67 x68 e68
          have B67 : MBr n M (p1 + 1) (-1) M67 := by rw [e67]; exact mb_p B43 x22 (by omega)
          have W67 : WSt K k M67 := by rw [e67]; exact w_u (by decide) (by decide) W43
          rw [i_of W67.1]
          refine ⟨vp_of W67.1 (by omega), fun M70 e70 M71 e71 => ?_⟩
          unfold w_X12_reads_b487
          refine pushW 1000 x68 M67 lt (by decide) (Or.inr (Or.inl ⟨rfl, hwf⟩)) ?_ B67 W67 (fun r hr => g_par hq (by rw [← hc]; exact k40) (by omega) hr) M71 ?_
          · rw [opn, if_pos rfl, e68]
            exact ix_a ho rfl (by omega)
          · rw [e71, e70, uI_k (by decide)]
    · have yd' : isD (chr (Tx N) n p1) := by rw [← hc]; exact Classical.not_not.mp yd
      refine s_digits12 hN hn n40 B43 W43 yd' (fun v M78 c78 W78 => ?_)
      rcases c78 with ⟨d1, d2, d3, B78⟩ | ⟨d1, B78⟩
      · refine s_stands (u := fun _ => nu (Tx N) p1 (dg (Tx N) n 7 p1)) d3 (by omega) B78 W78 (fun M80 B80 V80 => ?_)
        unfold w_X12_reads_b487
        have lm := mrk_len k (fun _ => nu (Tx N) p1 (dg (Tx N) n 7 p1))
        exact goA v1 0 M80 _ _ (by omega) B80 (by rw [opn_mrk]; exact ho) (by omega) (Or.inr ⟨rfl, wf_mrk _ _ hwf, _, V80, fun r hr => hE1 r (g_num hq yd' d1 hr)⟩)
      · refine s_stands (u := fun _ => v) rfl (by omega) B78 W78 (fun M80 B80 V80 => ?_)
        unfold w_X12_reads_b487
        exact goF v1 0 v3 M80 _ (flt p1 2) (flt_n p40 (by decide)) B80 (hE1 _ (g_num7 hq yd' d1))
theorem m_fault {M : Mem} {q : Int32 → Mem → Prop} (hI : InvN (M.1 136)) (h : ∀ M', FM M M' → q (spFault (M.1 136)) M') : w_X12_fault M q := by
  unfold w_X12_fault
  refine s_reads (K := M.2.1 153) rfl hI (fun _ _ => rfl) (fun r M' F c => ?_)
  have h := h M' F.m
  unfold spFault at h
  rcases c with ⟨f, _, _, e1, e2⟩ | ⟨_, e1, w, e2, _⟩
  · rw [e2] at h
    rw [e1]; exact h
  · rw [e2] at h
    rw [e1]; exact h
end

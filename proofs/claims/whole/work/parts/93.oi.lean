/-! foretell of the class -/
theorem msF_bd {N : Nat → Int32} {m : Int32} {o : Nat → Int} (h : ∀ r, r < 200 → -72001 ≤ o r ∧ o r ≤ 10000000) : ∀ r, r ≤ 200 → (-72001 ≤ (msF N m o r).2.1 ∧ (msF N m o r).2.1 ≤ 10000000) ∧ -72001 ≤ (msF N m o r).2.2 ∧ (msF N m o r).2.2 ≤ 10000000 := by
  intro r
  induction r with
  | zero => intro _; exact ⟨⟨by show (-72001 : Int) ≤ 0; decide, by show (0 : Int) ≤ 10000000; decide⟩, by show (-72001 : Int) ≤ 0; decide, by show (0 : Int) ≤ 10000000; decide⟩
  | succ r ih =>
    intro hr
    have a := ih (by omega)
    have b := h r (by omega)
    unfold msF
    by_cases s : selM N m r
    · rw [if_pos s]
      refine ⟨?_, ?_⟩
      · show -72001 ≤ (if _ then _ else _) ∧ (if _ then _ else _) ≤ _
        split
        · exact b
        · exact a.1
      · show -72001 ≤ (if _ then _ else _) ∧ (if _ then _ else _) ≤ _
        split
        · exact b
        · exact a.2
    · rw [if_neg s]; exact a
theorem c_for {b m s v0 v1 v2 w : Int32} {M : Mem} {N : Nat → Int32} {q : Int64 → Mem → Prop} (hR : Rep 1 N M.1) (hI : InvN N) (h : ∀ M', FQ M M' → q (spFor b m s v0 v1 v2 w N) M') : w_X11_foretell b m s v0 v1 v2 w M q := by
  have i4 : 0 ≤ (N 4214).toInt ∧ (N 4214).toInt ≤ 200 := hI.1 4214 (by decide)
  have bad : ¬ okFor N b m s v0 v1 v2 w → q (-2000000000) M := fun n => by have := h M (FQ.rf M); unfold spFor at this; rw [if_neg n] at this; exact this
  have f3 : (3 : Int32).toInt = 3 := rfl
  unfold w_X11_foretell
  rw [e_isNoSpot hR]
  simp only [e_isOut, e_areNoCounts, tf_z, Classical.not_not, f3]
  refine ⟨fun n => bad (fun x => n x.1), fun k1 => ⟨fun n => bad (fun x => n x.2.1), fun k2 => ⟨fun k3 => ?_, fun n => bad (fun x => n x.2.2)⟩⟩⟩
  unfold spFor at h
  rw [if_pos ⟨k1, k2, k3⟩] at h
  have sp := spot hI k1
  refine s_goPlain hR hI sp.1 sp.2.1 sp.2.2 (fun M10 p10 vv f10 => ?_)
  rw [vv, tf_z]
  refine ⟨fun nv => ?_, fun hv => ?_⟩
  · rw [if_neg nv] at h
    have R10 := f10.q.r hR
    refine s_find R10 hI k2.1 k2.2.1 k2.2.2.1 (fun M13 G A B F => ?_)
    have F13 : FQ M M13 := f10.q.tr F.q
    have R13 := F13.r hR
    have c36 : M13.1 36 = M10.1 36 := F.1 36 (by decide)
    have z := bP_6 hI (b := b.toInt.toNat) (by have := sp.1; omega)
    have h0 : v0.toInt.toNat < 5 := by have := k2.1; omega
    have h1 : v1.toInt.toNat < 5 := by have := k2.2.1; omega
    have h2 : v2.toInt.toNat < 5 := by have := k2.2.2.1; omega
    have hm4 : m.toInt.toNat < 4 := by have := sp.2.1; omega
    have q0 := plC_bd hI (sn := s.toInt.toNat) (ch := bC N b) hm4 z.1 h0
    have q1 := plC_bd hI (sn := s.toInt.toNat) (ch := bC N b) hm4 z.1 h1
    have q2 := plC_bd hI (sn := s.toInt.toNat) (ch := bC N b) hm4 z.1 h2
    have mi := made_i B q0 q1 q2
    refine ⟨vp_of (ix_n k2.1.1) (by omega), vp_of (ix_n k2.2.1.1) (by omega), vp_of (ix_n k2.2.2.1.1) (by omega), ?_⟩
    rw [tn_eq, tn_eq, tn_eq, c36, p10 _ (by omega), p10 _ (by omega), p10 _ (by omega)]
    unfold w_X2_made
    intro x20 e20
    have hx : x20.toInt = toldI N m v0.toInt.toNat v1.toInt.toNat v2.toInt.toNat (N 4214).toInt.toNat (plC N m.toInt.toNat s.toInt.toNat (bP N b) (bC N b)) := by
      rw [e20, Int32.toInt_toInt64]
      exact mi.1
    have hxb : 0 ≤ x20.toInt ∧ x20.toInt ≤ 72000 := by rw [e20, Int32.toInt_toInt64]; exact mi.2
    unfold forV at h
    refine ⟨fun w0 => ?_, fun w0 => ?_⟩
    · rw [if_neg w0] at h
      refine s_misses R13 hI rfl h0 h1 h2 A B (fun M22 mb f22 => ?_)
      have F22 : FQ M M22 := F13.tr (f22.q (by decide) (by decide))
      have h := h M22 F22
      have mbd := msF_bd (N := N) (m := m) (o := bestO N m v0.toInt.toNat v1.toInt.toNat v2.toInt.toNat (N 4214).toInt.toNat) (fun r hr => bestO_bd (m := m) (R := (N 4214).toInt.toNat) hI hr h0 h1 h2) (N 4214).toInt.toNat (by omega)
      have mle := msF_le (N := N) (m := m) (o := bestO N m v0.toInt.toNat v1.toInt.toNat v2.toInt.toNat (N 4214).toInt.toNat) (N 4214).toInt.toNat
      generalize msF N m (bestO N m v0.toInt.toNat v1.toInt.toNat v2.toInt.toNat (N 4214).toInt.toNat) (N 4214).toInt.toNat = g at h mb mbd mle
      obtain ⟨c, lo, hi⟩ := g
      obtain ⟨f, hH, _, hlh⟩ := mb
      have hH : Hd 46 1 47 c f M22 := hH
      have hlh : 0 < c → (f 0).toInt = lo ∧ (f (c - 1)).toInt = hi := hlh
      have mle : c ≤ (N 4214).toInt.toNat := mle
      have mbd : (-72001 ≤ lo ∧ lo ≤ 10000000) ∧ -72001 ≤ hi ∧ hi ≤ 10000000 := mbd
      rw [n_zero hH.1]
      refine ⟨fun nc => ?_, fun ec => ?_⟩
      · have hl := hlh (by omega)
        have h : q (Int64.ofInt (toldI N m v0.toInt.toNat v1.toInt.toNat v2.toInt.toNat (N 4214).toInt.toNat (plC N m.toInt.toNat s.toInt.toNat (bP N b) (bC N b)) + (if w = 1 then lo else hi))) M22 := by
          rw [if_neg (show ¬ c = 0 from nc)] at h
          exact h
        refine ⟨fun n1 => e_greatest hH (by omega) ?_, fun e1 => e_least hH ?_⟩
        · rw [if_neg nc]
          rw [if_neg n1] at h
          rw [j_of (show (x20 + (f (c - 1)).toInt64).toInt = _ from by rw [tj_add (by rw [Int32.toInt_toInt64]; omega) (by rw [Int32.toInt_toInt64]; omega), Int32.toInt_toInt64, hx, hl.2])]
          exact h
        · rw [if_neg nc]
          rw [if_pos e1] at h
          rw [j_of (show (x20 + (f 0).toInt64).toInt = _ from by rw [tj_add (by rw [Int32.toInt_toInt64]; omega) (by rw [Int32.toInt_toInt64]; omega), Int32.toInt_toInt64, hx, hl.1])]
          exact h
      · rw [if_pos (show c = 0 from ec)] at h
        exact h
    · rw [if_pos w0] at h
      rw [j_of hx]
      exact h M13 F13
  · have := h M10 f10.q
    rw [if_pos (Classical.not_not.mp hv)] at this
    exact this

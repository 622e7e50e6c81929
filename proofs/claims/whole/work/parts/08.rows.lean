theorem vin (i : Int32) (n : Nat) (h : decide (¬ (i < 0 ∨ n ≤ i.toNatClampNeg)) = true) : vp_in i n := (of_decide_eq_true h : ¬ (i < 0 ∨ n ≤ i.toNatClampNeg))
/-- System.arraycopy of ints -/
def cpI (M : Mem) (k0 k1 sp dp n : Nat) : Mem := (fun a b => if a = k1 then va_cpy (M.1 k0) (M.1 k1) sp dp n b else M.1 a b, M.2.1, M.2.2)
theorem cpI_ne {g : Gl} {M : Mem} {k0 k1 sp dp n : Nat} (a : Nat) (h : a ≠ k1) : cE g (cpI M k0 k1 sp dp n) a = cE g M a := cE_eq (by funext b; simp [cpI, h]) rfl rfl
theorem lgc_ge (x y : Int64) : (0 ≤ lg_cmp x y) ↔ y ≤ x := lg_cmp_ge x y
theorem lgc_lt (x y : Int64) : (lg_cmp x y < 0) ↔ x < y := by
  unfold lg_cmp
  simp only [gt_iff_lt, Int64.lt_iff_toInt_lt, ← Int64.toInt_inj]
  repeat' split
  all_goals first | (constructor <;> intro h <;> first | omega | (exact absurd h (by decide))) | skip
  all_goals simp_all
  all_goals omega
theorem lgc_gt (x y : Int64) : (0 < lg_cmp x y) ↔ y < x := by
  unfold lg_cmp
  simp only [gt_iff_lt, Int64.lt_iff_toInt_lt, ← Int64.toInt_inj]
  repeat' split
  all_goals first | (constructor <;> intro h <;> first | omega | (exact absurd h (by decide))) | skip
  all_goals simp_all
  all_goals omega
theorem lgc_le (x y : Int64) : (lg_cmp x y ≤ 0) ↔ x ≤ y := by
  unfold lg_cmp
  simp only [gt_iff_lt, Int64.lt_iff_toInt_lt, Int64.le_iff_toInt_le, ← Int64.toInt_inj]
  repeat' split
  all_goals first | (constructor <;> intro h <;> first | omega | (exact absurd h (by decide))) | skip
  all_goals simp_all
  all_goals omega
theorem lgc_eq (x y : Int64) : (lg_cmp x y = 0) ↔ x = y := by
  unfold lg_cmp
  simp only [gt_iff_lt, Int64.lt_iff_toInt_lt, ← Int64.toInt_inj]
  repeat' split
  all_goals first | (constructor <;> intro h <;> first | omega | (exact absurd h (by decide))) | skip
  all_goals simp_all
  all_goals omega
section XR8
variable {c : CtxT} {pc : Nat} {lv : List (Nat × Value)} {st rest : List Value} {M M1 : Mem} {cc : ByteArray} {nL : Nat} {own : String} {g : Gl} {l : Launch} {rm : Room} {n : Nat}
theorem a_iald {k : Nat} {i : Int32} (C : Cx c cc nL own g l rm) (hs : isA 0 k) (hl : len k = n) (hin : vp_in i n) (d : decode cc pc = .ok (.iaload, 1)) (kk : X c S0 (pc + 1) lv (.int (M.1 k i.toNatClampNeg) :: st) (stat M)) : X c S0 pc lv (.int i :: .ref (g.2.2.2 + k) :: st) (stat M) := n_iald C hs (hl.symm ▸ hin) d kk
theorem a_zald {k : Nat} {i : Int32} (C : Cx c cc nL own g l rm) (hs : isA 2 k) (hl : len k = n) (hin : vp_in i n) (d : decode cc pc = .ok (.baload, 1)) (kk : X c S0 (pc + 1) lv (.int (M.1 k i.toNatClampNeg) :: st) (stat M)) : X c S0 pc lv (.int i :: .ref (g.2.2.2 + k) :: st) (stat M) := n_zald C hs (hl.symm ▸ hin) d kk
theorem a_lald {k : Nat} {i : Int32} (C : Cx c cc nL own g l rm) (hs : isA 1 k) (hl : len k = n) (hin : vp_in i n) (d : decode cc pc = .ok (.laload, 1)) (kk : X c S0 (pc + 1) lv (.long (M.2.1 k i.toNatClampNeg) :: st) (stat M)) : X c S0 pc lv (.int i :: .ref (g.2.2.2 + k) :: st) (stat M) := n_lald C hs (hl.symm ▸ hin) d kk
theorem a_ialdL {k ni : Nat} {i : Int32} (C : Cx c cc nL own g l rm) (hs : isA 0 k) (hl : len k = n) (hi : i.toNatClampNeg = ni) (hin : vp_in i n) (d : decode cc pc = .ok (.iaload, 1)) (kk : X c S0 (pc + 1) lv (.int (M.1 k ni) :: st) (stat M)) : X c S0 pc lv (.int i :: .ref (g.2.2.2 + k) :: st) (stat M) := m_ialdL C hs hi (hl.symm ▸ hin) d kk
theorem a_zaldL {k ni : Nat} {i : Int32} (C : Cx c cc nL own g l rm) (hs : isA 2 k) (hl : len k = n) (hi : i.toNatClampNeg = ni) (hin : vp_in i n) (d : decode cc pc = .ok (.baload, 1)) (kk : X c S0 (pc + 1) lv (.int (M.1 k ni) :: st) (stat M)) : X c S0 pc lv (.int i :: .ref (g.2.2.2 + k) :: st) (stat M) := m_zaldL C hs hi (hl.symm ▸ hin) d kk
theorem a_laldL {k ni : Nat} {i : Int32} (C : Cx c cc nL own g l rm) (hs : isA 1 k) (hl : len k = n) (hi : i.toNatClampNeg = ni) (hin : vp_in i n) (d : decode cc pc = .ok (.laload, 1)) (kk : X c S0 (pc + 1) lv (.long (M.2.1 k ni) :: st) (stat M)) : X c S0 pc lv (.int i :: .ref (g.2.2.2 + k) :: st) (stat M) := m_laldL C hs hi (hl.symm ▸ hin) d kk
theorem a_iast {k ni : Nat} {i x : Int32} (C : Cx c cc nL own g l rm) (hs : isA 0 k) (hl : len k = n) (hi : i.toNatClampNeg = ni) (hin : vp_in i n) (hM : M1 = uI M k ni x) (d : decode cc pc = .ok (.iastore, 1)) (kk : X c S0 (pc + 1) lv st (stat M1)) : X c S0 pc lv (.int x :: .int i :: .ref (g.2.2.2 + k) :: st) (stat M) := m_iast C hs hi (hl.symm ▸ hin) hM d kk
theorem a_zast {k ni : Nat} {i x : Int32} (C : Cx c cc nL own g l rm) (hs : isA 2 k) (hl : len k = n) (hi : i.toNatClampNeg = ni) (hin : vp_in i n) (hb : bz x) (hM : M1 = uI M k ni x) (d : decode cc pc = .ok (.bastore, 1)) (kk : X c S0 (pc + 1) lv st (stat M1)) : X c S0 pc lv (.int x :: .int i :: .ref (g.2.2.2 + k) :: st) (stat M) := m_zast C hs hi (hl.symm ▸ hin) hb hM d kk
theorem a_last {k ni : Nat} {i : Int32} {x : Int64} (C : Cx c cc nL own g l rm) (hs : isA 1 k) (hl : len k = n) (hi : i.toNatClampNeg = ni) (hin : vp_in i n) (hM : M1 = uJ M k ni x) (d : decode cc pc = .ok (.lastore, 1)) (kk : X c S0 (pc + 1) lv st (stat M1)) : X c S0 pc lv (.long x :: .int i :: .ref (g.2.2.2 + k) :: st) (stat M) := m_last C hs hi (hl.symm ▸ hin) hM d kk
theorem a_aald3 {k : Nat} {i : Int32} (C : Cx c cc nL own g l rm) (hs : isA 3 k) (hl : len k = n) (hin : vp_in i n) (d : decode cc pc = .ok (.aaload, 1)) (kk : X c S0 (pc + 1) lv (.ref (g.2.2.2 + (k + 6 + 4 * i.toNatClampNeg)) :: st) (stat M)) : X c S0 pc lv (.int i :: .ref (g.2.2.2 + k) :: st) (stat M) := n_aald3 C hs (hl.symm ▸ hin) d kk
theorem a_aald4 {k : Nat} {i : Int32} (C : Cx c cc nL own g l rm) (hs : isA 4 k) (hl : len k = n) (hin : vp_in i n) (d : decode cc pc = .ok (.aaload, 1)) (kk : X c S0 (pc + 1) lv (.ref (g.2.2.2 + (k + 38 + 32 * i.toNatClampNeg)) :: st) (stat M)) : X c S0 pc lv (.int i :: .ref (g.2.2.2 + k) :: st) (stat M) := n_aald4 C hs (hl.symm ▸ hin) d kk
theorem a_copy {k0 k1 n0 n1 : Nat} {sp dp n : Int32} {index : Nat} {sn dn nn : Nat} (C : Cx c cc nL own g l rm) (w1 : Cond.methodLink own index arraycopyName ∈ gtb) (w2 : Cond.native arraycopyName ∈ gtb) (w3 : Cond.static arraycopyName ∈ gtb) (w4 : Cond.initialized "java/lang/System" ∈ gtb) (hs0 : isA 0 k0) (hs1 : isA 0 k1) (hl0 : len k0 = n0) (hl1 : len k1 = n1) (hsn : sp.toNatClampNeg = sn) (hdn : dp.toNatClampNeg = dn) (hnn : n.toNatClampNeg = nn) (o1 : ¬ sp < 0) (o2 : ¬ dp < 0) (o3 : ¬ n < 0) (o4 : sn + nn ≤ n0) (o5 : dn + nn ≤ n1) (hM : M1 = cpI M k0 k1 sn dn nn) (hf : 1 ≤ rm.frames) (hlo : 60 ≤ rm.locals) (hroom : (rest.map fun v => v.category).sum ≤ 8) (d : decode cc pc = .ok (.invokestatic index, 3)) (kk : X c S0 (pc + 3) lv rest (stat M1)) : X c S0 pc lv (.int n :: .int dp :: .ref (g.2.2.2 + k1) :: .int sp :: .ref (g.2.2.2 + k0) :: rest) (stat M) := by
  obtain ⟨p, l, e, R, s, m, args, below, meth, co, Q, g⟩ := c
  obtain ⟨rfl, rfl, hx, hb, hml, hown, hts, hK, hN, hsz, hlk, hstr, rfl⟩ := C
  intro H locs ls hP hS hz hl
  subst hsn; subst hdn; subst hnn; subst hl0; subst hl1
  refine va_copyi hx hb hl.1.symm hown (hts _ w1) (hts _ w2) (hts _ w3) (hts _ w4) hK hP (wl_D g KT (stat M)) hS k0 k1 0 0 ((wl_get (isA_lt (by decide) hs0)).trans (by rw [cE_i hs0])) ((wl_get (isA_lt (by decide) hs1)).trans (by rw [cE_i hs1])) rfl rfl rfl o1 o2 o3 o4 o5 (fun i _ => rfl) hf ?_ d (fun H1 locs1 hP1 _ hS1 => ?_)
  · have : nativeFrameWords "java/lang/System" "arraycopy" 5 = 7 := by decide +kernel
    rw [this]; omega
  · have he : (Sum.inl (g.2.2.1 0, len k1, Sum.inl (va_cpy ((stat M).1 k0) ((stat M).1 k1) sp.toNatClampNeg dp.toNatClampNeg n.toNatClampNeg)) : va_E) = cE g (cpI (stat M) k0 k1 sp.toNatClampNeg dp.toNatClampNeg n.toNatClampNeg) k1 := by
      rw [cE_i hs1]
      simp [cpI]
    rw [he, wl_set rfl (fun a h => cpI_ne a h)] at hP1
    subst hM
    exact kk H1 locs1 ls hP1 hS1 (fun h => absurd h (Nat.lt_irrefl _)) hl
theorem x_lc_eq {κ : Nat × Nat × Nat} {N : Mem} {x y : Int64} {off : Int} {tgt : Nat} (C : Cx c cc nL own g l rm) (d1 : decode cc pc = .ok (.lcmp, 1)) (d2 : decode cc (pc + 1) = .ok (.ifCond .eq off, 3)) (ht : ((pc + 1 : Nat) : Int) + off = (tgt : Int)) (kt : x = y → X c κ tgt lv st N) (kf : ¬ x = y → X c κ (pc + 4) lv st N) : X c κ pc lv (.long y :: .long x :: st) N := x_lcmp C d1 (x_if_eq C d2 ht (fun q => kt ((lgc_eq x y).mp q)) (fun q => kf (fun z => q ((lgc_eq x y).mpr z))))
theorem x_lc_ne {κ : Nat × Nat × Nat} {N : Mem} {x y : Int64} {off : Int} {tgt : Nat} (C : Cx c cc nL own g l rm) (d1 : decode cc pc = .ok (.lcmp, 1)) (d2 : decode cc (pc + 1) = .ok (.ifCond .ne off, 3)) (ht : ((pc + 1 : Nat) : Int) + off = (tgt : Int)) (kt : ¬ x = y → X c κ tgt lv st N) (kf : x = y → X c κ (pc + 4) lv st N) : X c κ pc lv (.long y :: .long x :: st) N := x_lcmp C d1 (x_if_ne C d2 ht (fun q => kt (fun z => q ((lgc_eq x y).mpr z))) (fun q => kf ((lgc_eq x y).mp q)))
theorem x_lc_lt {κ : Nat × Nat × Nat} {N : Mem} {x y : Int64} {off : Int} {tgt : Nat} (C : Cx c cc nL own g l rm) (d1 : decode cc pc = .ok (.lcmp, 1)) (d2 : decode cc (pc + 1) = .ok (.ifCond .lt off, 3)) (ht : ((pc + 1 : Nat) : Int) + off = (tgt : Int)) (kt : x < y → X c κ tgt lv st N) (kf : ¬ x < y → X c κ (pc + 4) lv st N) : X c κ pc lv (.long y :: .long x :: st) N := x_lcmp C d1 (x_if_lt C d2 ht (fun q => kt ((lgc_lt x y).mp q)) (fun q => kf (fun z => q ((lgc_lt x y).mpr z))))
theorem x_lc_ge {κ : Nat × Nat × Nat} {N : Mem} {x y : Int64} {off : Int} {tgt : Nat} (C : Cx c cc nL own g l rm) (d1 : decode cc pc = .ok (.lcmp, 1)) (d2 : decode cc (pc + 1) = .ok (.ifCond .ge off, 3)) (ht : ((pc + 1 : Nat) : Int) + off = (tgt : Int)) (kt : y ≤ x → X c κ tgt lv st N) (kf : ¬ y ≤ x → X c κ (pc + 4) lv st N) : X c κ pc lv (.long y :: .long x :: st) N := x_lcmp C d1 (x_if_ge C d2 ht (fun q => kt ((lgc_ge x y).mp q)) (fun q => kf (fun z => q ((lgc_ge x y).mpr z))))
theorem x_lc_gt {κ : Nat × Nat × Nat} {N : Mem} {x y : Int64} {off : Int} {tgt : Nat} (C : Cx c cc nL own g l rm) (d1 : decode cc pc = .ok (.lcmp, 1)) (d2 : decode cc (pc + 1) = .ok (.ifCond .gt off, 3)) (ht : ((pc + 1 : Nat) : Int) + off = (tgt : Int)) (kt : y < x → X c κ tgt lv st N) (kf : ¬ y < x → X c κ (pc + 4) lv st N) : X c κ pc lv (.long y :: .long x :: st) N := x_lcmp C d1 (x_if_gt C d2 ht (fun q => kt ((lgc_gt x y).mp q)) (fun q => kf (fun z => q ((lgc_gt x y).mpr z))))
theorem x_lc_le {κ : Nat × Nat × Nat} {N : Mem} {x y : Int64} {off : Int} {tgt : Nat} (C : Cx c cc nL own g l rm) (d1 : decode cc pc = .ok (.lcmp, 1)) (d2 : decode cc (pc + 1) = .ok (.ifCond .le off, 3)) (ht : ((pc + 1 : Nat) : Int) + off = (tgt : Int)) (kt : x ≤ y → X c κ tgt lv st N) (kf : ¬ x ≤ y → X c κ (pc + 4) lv st N) : X c κ pc lv (.long y :: .long x :: st) N := x_lcmp C d1 (x_if_le C d2 ht (fun q => kt ((lgc_le x y).mp q)) (fun q => kf (fun z => q ((lgc_le x y).mpr z))))
end XR8

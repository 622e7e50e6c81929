/-! a reader by itself: places, pending signs, values as functions of the six numbers -/
abbrev VF : Type := (Nat → Int64) → Int64
abbrev Itm : Type := Int32 × VF
abbrev SM : Type := Nat × Option VF × List Itm
abbrev RS : Type := Int32 ⊕ VF
def rkI (c : Int32) : Nat := if c = 124 then 1 else if c = 38 then 2 else if c = 60 ∨ c = 62 ∨ c = 61 then 3 else if c = 43 ∨ c = 45 then 4 else if c = 42 ∨ c = 47 then 5 else 0
def ap (c : Int32) (a b : Int64) : Int64 := if c = 124 then (if a = 0 then (if b = 0 then 0 else 1) else 1) else if c = 38 then (if a = 0 then 0 else if b = 0 then 0 else 1) else if c = 60 then (if b ≤ a then 0 else 1) else if c = 62 then (if a ≤ b then 0 else 1) else if c = 61 then (if a = b then 1 else 0) else if c = 43 then a + b else if c = 45 then a - b else if c = 42 then a * b else (if b = 0 then 0 else a / b)
def mk1 (c : Int32) (w : Int64) : Int64 := if c = 1001 then (if w = 0 then 1 else 0) else -w
def red (r : Nat) : List Itm → VF → List Itm × VF
  | [], v => ([], v)
  | (c, l) :: s, v => if c < 1000 ∧ r ≤ rkI c then red r s (fun K => ap c (l K) (v K)) else ((c, l) :: s, v)
def mrk : List Itm → VF → List Itm × VF
  | [], v => ([], v)
  | (c, l) :: s, v => if 1000 < c then mrk s (fun K => mk1 c (v K)) else ((c, l) :: s, v)
def opn : List Itm → Nat
  | [] => 0
  | (c, _) :: s => if c = 1000 then opn s + 1 else opn s
def skF (T : Nat → Int32) (n : Nat) : Nat → Nat → Nat
  | 0, p => p
  | f + 1, p => if p < n ∧ T p = 32 then skF T n f (p + 1) else p
def skp (T : Nat → Int32) (n p : Nat) : Nat := skF T n (n - p) p
def chr (T : Nat → Int32) (n p : Nat) : Int32 := if p < n then T p else -1
abbrev isD (c : Int32) : Prop := 48 ≤ c.toInt ∧ c.toInt ≤ 57
def dg (T : Nat → Int32) (n : Nat) : Nat → Nat → Nat
  | 0, _ => 0
  | f + 1, p => if p < n ∧ isD (T p) then dg T n f (p + 1) + 1 else 0
def nu (T : Nat → Int32) (p : Nat) : Nat → Int64
  | 0 => 0
  | k + 1 => nu T p k * 10 + (T (p + k)).toInt64 - 48
def nm (c : Int32) : Nat := if c = 110 then 0 else if c = 109 then 1 else if c = 108 then 2 else if c = 103 then 3 else if c = 112 then 4 else if c = 98 then 5 else 6
def flt (p : Nat) (k : Int32) : Int32 := (10 : Int32) * Int32.ofNat p + k
def top3 (s : List Itm) : Bool := match s with
  | [] => false
  | (c, _) :: _ => decide (c < 1000 ∧ rkI c = 3)
def stpM (T : Nat → Int32) (n : Nat) (S : SM) : SM ⊕ RS :=
  match S with
  | (p0, none, k) =>
    if isD (chr T n (skp T n p0)) then
      (if dg T n 7 (skp T n p0) = 7 then Sum.inr (Sum.inl (flt (skp T n p0) 2)) else Sum.inl (skp T n p0 + dg T n 7 (skp T n p0), some (mrk k (fun _ => nu T (skp T n p0) (dg T n 7 (skp T n p0)))).2, (mrk k (fun _ => nu T (skp T n p0) (dg T n 7 (skp T n p0)))).1))
    else if nm (chr T n (skp T n p0)) < 6 then Sum.inl (skp T n p0 + 1, some (mrk k (fun K => K (nm (chr T n (skp T n p0))))).2, (mrk k (fun K => K (nm (chr T n (skp T n p0))))).1)
    else if chr T n (skp T n p0) = 33 then Sum.inl (skp T n p0 + 1, none, (1001, fun _ => 0) :: k)
    else if chr T n (skp T n p0) = 45 then Sum.inl (skp T n p0 + 1, none, (1002, fun _ => 0) :: k)
    else if chr T n (skp T n p0) = 40 then (if opn k < 8 then Sum.inl (skp T n p0 + 1, none, (1000, fun _ => 0) :: k) else Sum.inr (Sum.inl (flt (skp T n p0) 3)))
    else Sum.inr (Sum.inl (flt (skp T n p0) 1))
  | (p0, some v, k) =>
    if chr T n (skp T n p0) = 41 ∧ 0 < opn k then Sum.inl (skp T n p0 + 1, some (mrk (red 1 k v).1.tail (red 1 k v).2).2, (mrk (red 1 k v).1.tail (red 1 k v).2).1)
    else if 0 < rkI (chr T n (skp T n p0)) then
      (if rkI (chr T n (skp T n p0)) = 3 then (if top3 (red 4 k v).1 = true then Sum.inr (Sum.inl (flt (skp T n p0) 1)) else Sum.inl (skp T n p0 + 1, none, (chr T n (skp T n p0), (red 4 k v).2) :: (red 4 k v).1))
       else Sum.inl (skp T n p0 + 1, none, (chr T n (skp T n p0), (red (rkI (chr T n (skp T n p0))) k v).2) :: (red (rkI (chr T n (skp T n p0))) k v).1))
    else if chr T n (skp T n p0) = -1 ∧ opn k = 0 then Sum.inr (Sum.inr (red 1 k v).2)
    else Sum.inr (Sum.inl (flt (skp T n p0) 1))
def itM (T : Nat → Int32) (n : Nat) : Nat → SM → Option RS
  | 0, _ => none
  | f + 1, S => match stpM T n S with
    | Sum.inl S' => itM T n f S'
    | Sum.inr r => some r
def Ev (T : Nat → Int32) (n : Nat) (S : SM) (r : RS) : Prop := ∃ f, itM T n f S = some r
theorem ev_go {T : Nat → Int32} {n : Nat} {S S' : SM} {r : RS} (e : stpM T n S = Sum.inl S') (h : Ev T n S' r) : Ev T n S r := by
  obtain ⟨f, hf⟩ := h
  refine ⟨f + 1, ?_⟩
  rw [itM, e]
  exact hf
theorem ev_end {T : Nat → Int32} {n : Nat} {S : SM} {r : RS} (e : stpM T n S = Sum.inr r) : Ev T n S r := ⟨1, by rw [itM, e]⟩
theorem it_det {T : Nat → Int32} {n : Nat} : ∀ f g S r r', itM T n f S = some r → itM T n g S = some r' → r = r' := by
  intro f
  induction f with
  | zero => intro g S r r' h; exact absurd h (by rw [itM]; simp)
  | succ f ih =>
    intro g S r r' h h'
    cases g with
    | zero => exact absurd h' (by rw [itM]; simp)
    | succ g =>
      rw [itM] at h h'
      cases e : stpM T n S with
      | inl S' =>
        rw [e] at h h'
        exact ih g S' r r' h h'
      | inr x =>
        rw [e] at h h'
        have h : some x = some r := h
        have h' : some x = some r' := h'
        exact Option.some.inj (h.symm.trans h')
theorem ev_det {T : Nat → Int32} {n : Nat} {S : SM} {r r' : RS} (h : Ev T n S r) (h' : Ev T n S r') : r = r' := by
  obtain ⟨f, hf⟩ := h
  obtain ⟨g, hg⟩ := h'
  exact it_det f g S r r' hf hg
/-! places -/
abbrev Qp (T : Nat → Int32) (n p : Nat) : Prop := ¬ (p < n ∧ T p = 32)
theorem skF_q {T : Nat → Int32} {n : Nat} : ∀ f p, n ≤ p + f → Qp T n (skF T n f p) ∧ p ≤ skF T n f p ∧ (p ≤ n → skF T n f p ≤ n) := by
  intro f
  induction f with
  | zero => intro p h; exact ⟨fun x => by have : p < n := x.1; omega, Nat.le_refl _, fun x => x⟩
  | succ f ih =>
    intro p h
    rw [skF]
    by_cases c : p < n ∧ T p = 32
    · rw [if_pos c]
      have := ih (p + 1) (by omega)
      exact ⟨this.1, by omega, fun _ => this.2.2 (by omega)⟩
    · rw [if_neg c]; exact ⟨c, Nat.le_refl _, fun x => x⟩
theorem skp_q {T : Nat → Int32} {n : Nat} (p : Nat) : Qp T n (skp T n p) ∧ p ≤ skp T n p ∧ (p ≤ n → skp T n p ≤ n) := skF_q (n - p) p (by omega)
theorem skp_id {T : Nat → Int32} {n p : Nat} (h : Qp T n p) : skp T n p = p := by
  unfold skp
  cases e : n - p with
  | zero => rfl
  | succ f => rw [skF, if_neg h]
theorem skp_sp {T : Nat → Int32} {n p : Nat} (h : p < n ∧ T p = 32) : skp T n p = skp T n (p + 1) := by
  unfold skp
  rw [show n - p = (n - (p + 1)) + 1 from by omega, skF, if_pos h]
theorem chr_end {T : Nat → Int32} {n p : Nat} (h : n ≤ p) : chr T n p = -1 := if_neg (by omega)
theorem ev_skp {T : Nat → Int32} {n p : Nat} {w : Option VF} {k : List Itm} {r : RS} (h : Ev T n (skp T n p, w, k) r) : Ev T n (p, w, k) r := by
  have e : stpM T n (p, w, k) = stpM T n (skp T n p, w, k) := by
    have i := skp_id (skp_q (T := T) (n := n) p).1
    cases w with
    | none => simp only [stpM, i]
    | some v => simp only [stpM, i]
  obtain ⟨f, hf⟩ := h
  cases f with
  | zero => exact absurd hf (by rw [itM]; simp)
  | succ f =>
    refine ⟨f + 1, ?_⟩
    rw [itM, e]
    rw [itM] at hf
    exact hf
/-! rules; the place is no space -/
section
variable {T : Nat → Int32} {n p : Nat} {k : List Itm} {v : VF} {r : RS}
theorem g_num (q : Qp T n p) (h : isD (chr T n p)) (h7 : ¬ dg T n 7 p = 7) (e : Ev T n (p + dg T n 7 p, some (mrk k (fun _ => nu T p (dg T n 7 p))).2, (mrk k (fun _ => nu T p (dg T n 7 p))).1) r) : Ev T n (p, none, k) r := by
  refine ev_go (S' := _) ?_ e
  simp only [stpM, skp_id q]
  rw [if_pos h, if_neg h7]
theorem g_num7 (q : Qp T n p) (h : isD (chr T n p)) (h7 : dg T n 7 p = 7) : Ev T n (p, none, k) (Sum.inl (flt p 2)) := by
  refine ev_end ?_
  simp only [stpM, skp_id q]
  rw [if_pos h, if_pos h7]
theorem g_nm (q : Qp T n p) (h : ¬ isD (chr T n p)) (h6 : nm (chr T n p) < 6) (e : Ev T n (p + 1, some (mrk k (fun K => K (nm (chr T n p)))).2, (mrk k (fun K => K (nm (chr T n p)))).1) r) : Ev T n (p, none, k) r := by
  refine ev_go (S' := _) ?_ e
  simp only [stpM, skp_id q]
  rw [if_neg h, if_pos h6]
theorem g_not (q : Qp T n p) (h : chr T n p = 33) (e : Ev T n (p + 1, none, (1001, fun _ => 0) :: k) r) : Ev T n (p, none, k) r := by
  refine ev_go (S' := _) ?_ e
  simp only [stpM, skp_id q, h]
  rw [if_neg (by decide), if_neg (by decide), if_pos trivial]
theorem g_neg (q : Qp T n p) (h : chr T n p = 45) (e : Ev T n (p + 1, none, (1002, fun _ => 0) :: k) r) : Ev T n (p, none, k) r := by
  refine ev_go (S' := _) ?_ e
  simp only [stpM, skp_id q, h]
  rw [if_neg (by decide), if_neg (by decide), if_neg (by decide), if_pos trivial]
theorem g_par (q : Qp T n p) (h : chr T n p = 40) (h8 : opn k < 8) (e : Ev T n (p + 1, none, (1000, fun _ => 0) :: k) r) : Ev T n (p, none, k) r := by
  refine ev_go (S' := _) ?_ e
  simp only [stpM, skp_id q, h]
  rw [if_neg (by decide), if_neg (by decide), if_neg (by decide), if_neg (by decide), if_pos trivial, if_pos h8]
theorem g_par8 (q : Qp T n p) (h : chr T n p = 40) (h8 : ¬ opn k < 8) : Ev T n (p, none, k) (Sum.inl (flt p 3)) := by
  refine ev_end ?_
  simp only [stpM, skp_id q, h]
  rw [if_neg (by decide), if_neg (by decide), if_neg (by decide), if_neg (by decide), if_pos trivial, if_neg h8]
theorem g_bad (q : Qp T n p) (h : ¬ isD (chr T n p)) (h6 : ¬ nm (chr T n p) < 6) (h1 : ¬ chr T n p = 33) (h2 : ¬ chr T n p = 45) (h3 : ¬ chr T n p = 40) : Ev T n (p, none, k) (Sum.inl (flt p 1)) := by
  refine ev_end ?_
  simp only [stpM, skp_id q]
  rw [if_neg h, if_neg h6, if_neg h1, if_neg h2, if_neg h3]
theorem g_close (q : Qp T n p) (h : chr T n p = 41) (ho : 0 < opn k) (e : Ev T n (p + 1, some (mrk (red 1 k v).1.tail (red 1 k v).2).2, (mrk (red 1 k v).1.tail (red 1 k v).2).1) r) : Ev T n (p, some v, k) r := by
  refine ev_go (S' := _) ?_ e
  simp only [stpM, skp_id q]
  rw [if_pos ⟨h, ho⟩]
theorem rk41 {c : Int32} (h : 0 < rkI c) : ¬ c = 41 := fun e => by rw [e] at h; exact absurd h (by decide)
theorem g_op (q : Qp T n p) (h : 0 < rkI (chr T n p)) (h3 : ¬ rkI (chr T n p) = 3) (e : Ev T n (p + 1, none, (chr T n p, (red (rkI (chr T n p)) k v).2) :: (red (rkI (chr T n p)) k v).1) r) : Ev T n (p, some v, k) r := by
  refine ev_go (S' := _) ?_ e
  simp only [stpM, skp_id q]
  rw [if_neg (fun x => rk41 h x.1), if_pos h, if_neg h3]
theorem g_op3 (q : Qp T n p) (h3 : rkI (chr T n p) = 3) (ht : ¬ top3 (red 4 k v).1 = true) (e : Ev T n (p + 1, none, (chr T n p, (red 4 k v).2) :: (red 4 k v).1) r) : Ev T n (p, some v, k) r := by
  refine ev_go (S' := _) ?_ e
  simp only [stpM, skp_id q]
  rw [if_neg (fun x => rk41 (by omega) x.1), if_pos (by omega), if_pos h3, if_neg ht]
theorem g_op3f (q : Qp T n p) (h3 : rkI (chr T n p) = 3) (ht : top3 (red 4 k v).1 = true) : Ev T n (p, some v, k) (Sum.inl (flt p 1)) := by
  refine ev_end ?_
  simp only [stpM, skp_id q]
  rw [if_neg (fun x => rk41 (by omega) x.1), if_pos (by omega), if_pos h3, if_pos ht]
theorem g_halt (q : Qp T n p) (h : chr T n p = -1) (ho : opn k = 0) : Ev T n (p, some v, k) (Sum.inr (red 1 k v).2) := by
  refine ev_end ?_
  simp only [stpM, skp_id q, h]
  rw [if_neg (fun x => absurd x.1 (by decide)), if_neg (by decide), if_pos ⟨trivial, ho⟩]
theorem g_vbad (q : Qp T n p) (h1 : ¬ (chr T n p = 41 ∧ 0 < opn k)) (h2 : rkI (chr T n p) = 0) (h3 : ¬ (chr T n p = -1 ∧ opn k = 0)) : Ev T n (p, some v, k) (Sum.inl (flt p 1)) := by
  refine ev_end ?_
  simp only [stpM, skp_id q]
  rw [if_neg h1, if_neg (by omega), if_neg h3]
end
/-! reductions -/
theorem red_red {r r' : Nat} (h : r ≤ r') : ∀ (s : List Itm) (u : VF), red r s u = red r (red r' s u).1 (red r' s u).2 := by
  intro s
  induction s with
  | nil => intro u; rfl
  | cons x s ih =>
    intro u
    obtain ⟨c, l⟩ := x
    by_cases k : c < 1000 ∧ r' ≤ rkI c
    · rw [red, if_pos ⟨k.1, by omega⟩]
      conv => rhs; rw [red, if_pos k]
      exact ih _
    · conv => rhs; rw [red, if_neg k]
theorem opn_red {r : Nat} : ∀ (s : List Itm) (u : VF), opn (red r s u).1 = opn s := by
  intro s
  induction s with
  | nil => intro u; rfl
  | cons x s ih =>
    intro u
    obtain ⟨c, l⟩ := x
    rw [red]
    by_cases k : c < 1000 ∧ r ≤ rkI c
    · rw [if_pos k, ih, opn, if_neg]
      intro e
      rw [e] at k
      exact absurd k.1 (by decide)
    · rw [if_neg k]
theorem opn_mrk : ∀ (s : List Itm) (u : VF), opn (mrk s u).1 = opn s := by
  intro s
  induction s with
  | nil => intro u; rfl
  | cons x s ih =>
    intro u
    obtain ⟨c, l⟩ := x
    rw [mrk]
    by_cases k : (1000 : Int32) < c
    · rw [if_pos k, ih, opn, if_neg]
      intro e
      rw [e] at k
      exact absurd k (by decide)
    · rw [if_neg k]
/-- the top is a bracket or a sign of less rank -/
def tp (r : Nat) (s : List Itm) : Prop := match s with
  | [] => True
  | (c, _) :: _ => c = 1000 ∨ (c < 1000 ∧ rkI c < r)
theorem tp_up {r r' : Nat} {s : List Itm} (h : r ≤ r') (t : tp r s) : tp r' s := by
  cases s with
  | nil => exact t
  | cons x s =>
    rcases t with a | a
    · exact Or.inl a
    · exact Or.inr ⟨a.1, by have := a.2; omega⟩
theorem red_tp {r : Nat} {s : List Itm} {u : VF} (t : tp r s) : red r s u = (s, u) := by
  cases s with
  | nil => rfl
  | cons x s =>
    obtain ⟨c, l⟩ := x
    rw [red, if_neg]
    intro k
    rcases t with a | a
    · have a : c = 1000 := a
      rw [a] at k; exact absurd k.1 (by decide)
    · have : rkI c < r := a.2
      omega
theorem mrk_tp {r : Nat} {s : List Itm} {u : VF} (t : tp r s) : mrk s u = (s, u) := by
  cases s with
  | nil => rfl
  | cons x s =>
    obtain ⟨c, l⟩ := x
    rw [mrk, if_neg]
    intro k
    rcases t with a | a
    · have a : c = 1000 := a
      rw [a] at k; exact absurd k (by decide)
    · have a : c < 1000 := a.1
      rw [lt_i] at a k
      omega
theorem rk_lo {c : Int32} (h : 0 < rkI c) : c < 1000 := by
  unfold rkI at h
  split at h
  · rename_i e; rw [e]; decide
  · split at h
    · rename_i e; rw [e]; decide
    · split at h
      · rename_i e; rcases e with e | e | e <;> rw [e] <;> decide
      · split at h
        · rename_i e; rcases e with e | e <;> rw [e] <;> decide
        · split at h
          · rename_i e; rcases e with e | e <;> rw [e] <;> decide
          · exact absurd h (by decide)
theorem rk_5 (c : Int32) : rkI c ≤ 5 := by
  unfold rkI
  repeat' split
  all_goals decide
theorem red_op {r : Nat} {c : Int32} {a b : VF} {s : List Itm} (h0 : 0 < r) (hr : rkI c = r) (t : tp r s) : red r ((c, a) :: s) b = (s, fun K => ap c (a K) (b K)) := by
  rw [red, if_pos ⟨rk_lo (by omega), by omega⟩, red_tp t]
theorem tp_op {r : Nat} {c : Int32} {a : VF} {s : List Itm} (h0 : 0 < rkI c) (hr : rkI c < r) : tp r ((c, a) :: s) := Or.inr ⟨rk_lo h0, hr⟩
theorem top3_tp {s : List Itm} (t : tp 3 s) : ¬ top3 s = true := by
  cases s with
  | nil => intro h; exact absurd h (by decide)
  | cons x s =>
    obtain ⟨c, l⟩ := x
    intro h
    have h : c < 1000 ∧ rkI c = 3 := of_decide_eq_true h
    rcases t with a | a
    · have a : c = 1000 := a
      rw [a] at h; exact absurd h.1 (by decide)
    · have : rkI c < 3 := a.2
      omega
theorem top3_op {c : Int32} {a : VF} {s : List Itm} (h : rkI c = 3) : top3 ((c, a) :: s) = true := decide_eq_true ⟨rk_lo (by omega), h⟩

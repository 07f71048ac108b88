abbrev ab_E : Type := ty_T × ty_T
abbrev ab_O : Type := Option (ty_T × (ty_T × ty_T))
/-- a row of a body, as both sides store it: N slots, the body's own arity k -/
def bd_nd (N k : Nat) (κ a b : Int32) : Prop :=
  (∃ q : Nat, q ≤ 9 ∧ κ = nI q) ∧ (κ = 0 → -99 ≤ a.toInt ∧ a.toInt ≤ 99) ∧ (κ = 1 → ∃ j : Nat, j < 8 ∧ a = nI j) ∧ (κ = 2 → ∃ j : Nat, j < k ∧ a = nI j)
  ∧ (κ = 9 → ∃ g : Nat, g < N ∧ a = nI g) ∧ (∃ w : Nat, w ≤ 2 ∧ b = nI w) ∧ (κ ≠ 9 → b = 0)
def ab_nv (K A : Nat → Int32) (p : Nat) (t : ty_T) (e : ab_E) : ab_E :=
  if K p = 2 then (if A p = 0 then (ty_meet e.1 t, e.2) else (e.1, ty_meet e.2 t)) else e
def ab_fin (r : ty_T) (e : ab_E) : ab_O := if r = ty_0 ∨ e.1 = ty_0 ∨ e.2 = ty_0 then none else some (r, e)
def ab_jn (p q : ab_O) : ab_O := match p with
  | none => q
  | some x => match q with
    | none => some x
    | some y => some (ty_join x.1 y.1, (ty_join x.2.1 y.2.1, ty_join x.2.2 y.2.2))
def ab_num (k : Int32) (x y : ty_T) : ty_T :=
  if k = 3 then (0, ty_rl (ty_lv x.2.1 + ty_lv y.2.1), ty_rh (ty_hv x.2.2 + ty_hv y.2.2))
  else if k = 4 then (0, ty_rl (ty_lv x.2.1 - ty_hv y.2.2), ty_rh (ty_hv x.2.2 - ty_lv y.2.1))
  else ((if ty_lv x.2.1 < ty_hv y.2.2 then 2 else 0) + (if ty_lv y.2.1 ≤ ty_hv x.2.2 then 1 else 0), 0, 0)
def ab_gd (b : Bool) (p : ab_O) : ab_O := if b = true then p else none
section
variable (K A B st ar : Nat → Int32) (c : Nat → Nat) (tb : Nat → ty_T)
/-- what the two branches begin with, by what the condition left -/
def ab_th (i : Nat) (asked : ty_T) (n : ab_E) : ab_E :=
  if K (bs_ch c i 0) = 7 then ab_nv K A (bs_ch c (bs_ch c i 0) 0) asked (ab_nv K A (bs_ch c i 0) ty_bool n) else ab_nv K A (bs_ch c i 0) ty_bool n
def ab_if (ev : Nat → ab_E → ab_O) (i : Nat) (e : ab_E) : ab_O :=
  (ev (bs_ch c i 0) e).bind fun x =>
    ab_jn (ab_gd (x.1.1.testBit 1) (ev (bs_ch c i 1) (ab_th K A c i ty_ints x.2))) (ab_gd (x.1.1.testBit 0) (ev (bs_ch c i 2) (ab_th K A c i ty_ats x.2)))
/-- the callee's check of one argument: its type and the child's row -/
def ab_arg (i k : Nat) (r q : ty_T) (n : ab_E) (go : ab_E → ab_O) : ab_O :=
  if ty_meet r q = ty_0 then none else go (ab_nv K A (bs_ch c i k) q n)
def ab_fits (i : Nat) : Bool := decide (st (A i).toNatClampNeg = 2) && decide (ar (A i).toNatClampNeg = B i)
def ab_cl0 (i : Nat) (e : ab_E) : ab_O := ab_gd (ab_fits A B st ar i) (ab_fin (tb ((A i).toNatClampNeg * 3 + 2)) e)
def ab_cl1 (i : Nat) (x : ty_T) (e : ab_E) : ab_O :=
  ab_gd (ab_fits A B st ar i) (ab_arg K A c i 0 x (tb ((A i).toNatClampNeg * 3)) e fun n => ab_fin (tb ((A i).toNatClampNeg * 3 + 2)) n)
def ab_cl2 (i : Nat) (x y : ty_T) (e : ab_E) : ab_O :=
  ab_gd (ab_fits A B st ar i) (ab_arg K A c i 0 x (tb ((A i).toNatClampNeg * 3)) e fun n => ab_arg K A c i 1 y (tb ((A i).toNatClampNeg * 3 + 1)) n fun n => ab_fin (tb ((A i).toNatClampNeg * 3 + 2)) n)
def ab_call (ev : Nat → ab_E → ab_O) (i : Nat) (e : ab_E) : ab_O :=
  if B i = 0 then ab_cl0 A B st ar tb i e
  else if B i = 1 then (ev (bs_ch c i 0) e).bind fun x => ab_cl1 K A B st ar c tb i x.1 x.2
  else (ev (bs_ch c i 0) e).bind fun x => (ev (bs_ch c i 1) x.2).bind fun y => ab_cl2 K A B st ar c tb i x.1 y.1 y.2
def ab_opf (i : Nat) (x y : ty_T) (e : ab_E) : ab_O :=
  if K i = 6 then ab_fin ((if ty_meet x y = ty_0 then 1 else 3), 0, 0) e
  else if x.2.1 = 0 ∨ y.2.1 = 0 then none
  else ab_fin (ab_num (K i) x y) (ab_nv K A (bs_ch c i 1) ty_ints (ab_nv K A (bs_ch c i 0) ty_ints e))
def ab_op (ev : Nat → ab_E → ab_O) (i : Nat) (e : ab_E) : ab_O :=
  (ev (bs_ch c i 0) e).bind fun x => (ev (bs_ch c i 1) x.2).bind fun y => ab_opf K A c i x.1 y.1 y.2
def ab_isi (ev : Nat → ab_E → ab_O) (i : Nat) (e : ab_E) : ab_O :=
  (ev (bs_ch c i 0) e).bind fun x => ab_fin ((if x.1.1 = 0 then 0 else 1) + (if x.1.2.1 = 0 then 0 else 2), 0, 0) x.2
def ab_leaf (i : Nat) (e : ab_E) : ab_O :=
  if K i = 0 then ab_fin (0, ty_rl (A i).toInt, ty_rh (A i).toInt) e
  else if K i = 1 then ab_fin (2 ^ (A i).toNatClampNeg, 0, 0) e
  else ab_fin (if A i = 0 then e.1 else e.2) e
def ab_node (ev : Nat → ab_E → ab_O) (i : Nat) (e : ab_E) : ab_O :=
  if K i = 0 then ab_fin (0, ty_rl (A i).toInt, ty_rh (A i).toInt) e
  else if K i = 1 then ab_fin (2 ^ (A i).toNatClampNeg, 0, 0) e
  else if K i = 2 then ab_fin (if A i = 0 then e.1 else e.2) e
  else if K i = 8 then ab_if K A c ev i e
  else if K i = 9 then ab_call K A B st ar c tb ev i e
  else if K i = 7 then ab_isi c ev i e
  else ab_op K A c ev i e
def ab_ev : Nat → Nat → ab_E → ab_O
  | 0 => fun _ _ => none
  | d + 1 => ab_node K A B st ar c tb (ab_ev d)
end
/-- the order -/
def ab_el (e f : ab_E) : Prop := ty_le e.1 f.1 ∧ ty_le e.2 f.2
def ab_xl (x y : ty_T × ab_E) : Prop := ty_le x.1 y.1 ∧ ab_el x.2 y.2
def ab_le (p q : ab_O) : Prop := ∀ x, p = some x → ∃ y, q = some y ∧ ab_xl x y
/-- well made: k is the arity -/
def ab_eo (k : Nat) (e : ab_E) : Prop := ty_ok e.1 ∧ ty_ok e.2 ∧ (k < 1 → e.1 = ty_any) ∧ (k < 2 → e.2 = ty_any)
def ab_xo (k : Nat) (x : ty_T × ab_E) : Prop := ty_ok x.1 ∧ x.1 ≠ ty_0 ∧ ab_eo k x.2 ∧ x.2.1 ≠ ty_0 ∧ x.2.2 ≠ ty_0
def ab_po (k : Nat) (p : ab_O) : Prop := ∀ x, p = some x → ab_xo k x
theorem ab_none_le (q : ab_O) : ab_le none q := fun _ h => nomatch h
theorem ab_none_po (k : Nat) : ab_po k none := fun _ h => nomatch h
theorem ab_fin_some {r : ty_T} {e : ab_E} {x : ty_T × ab_E} (h : ab_fin r e = some x) : x = (r, e) ∧ r ≠ ty_0 ∧ e.1 ≠ ty_0 ∧ e.2 ≠ ty_0 := by
  unfold ab_fin at h
  split at h
  · exact nomatch h
  · next hn =>
    injection h with h
    exact ⟨h.symm, fun z => hn (Or.inl z), fun z => hn (Or.inr (Or.inl z)), fun z => hn (Or.inr (Or.inr z))⟩
theorem ab_fin_to {r : ty_T} {e : ab_E} (h0 : r ≠ ty_0) (h1 : e.1 ≠ ty_0) (h2 : e.2 ≠ ty_0) : ab_fin r e = some (r, e) := by
  unfold ab_fin
  rw [if_neg]
  rintro (h | h | h) <;> contradiction
theorem ab_fin_le {r r' : ty_T} {e e' : ab_E} (h : ty_le r r') (g : ab_el e e') : ab_le (ab_fin r e) (ab_fin r' e') := by
  intro x hx
  obtain ⟨rfl, h0, h1, h2⟩ := ab_fin_some hx
  exact ⟨_, ab_fin_to (ty_le_ne h h0) (ty_le_ne g.1 h1) (ty_le_ne g.2 h2), h, g⟩
theorem ab_fin_po {k : Nat} {r : ty_T} {e : ab_E} (h : ty_ok r) (g : ab_eo k e) : ab_po k (ab_fin r e) := by
  intro x hx
  obtain ⟨rfl, h0, h1, h2⟩ := ab_fin_some hx
  exact ⟨h, h0, g, h1, h2⟩
theorem ab_bind_le {p q : ab_O} {f g : ty_T × ab_E → ab_O} (h : ab_le p q) (hf : ∀ x y, p = some x → q = some y → ab_xl x y → ab_le (f x) (g y)) : ab_le (p.bind f) (q.bind g) := by
  cases p with
  | none => exact ab_none_le _
  | some x =>
    obtain ⟨y, rfl, hy⟩ := h x rfl
    exact hf x y rfl rfl hy
theorem ab_bind_po {k : Nat} {p : ab_O} {f : ty_T × ab_E → ab_O} (hp : ab_po k p) (hf : ∀ x, ab_xo k x → ab_po k (f x)) : ab_po k (p.bind f) := by
  cases p with
  | none => exact ab_none_po k
  | some x => exact hf x (hp x rfl)
theorem ab_gd_le {b b' : Bool} {p q : ab_O} (hb : b = true → b' = true) (h : ab_le p q) : ab_le (ab_gd b p) (ab_gd b' q) := by
  unfold ab_gd
  split
  · next z => rw [if_pos (hb z)]; exact h
  · exact ab_none_le _
theorem ab_gd_po {k : Nat} {b : Bool} {p : ab_O} (h : ab_po k p) : ab_po k (ab_gd b p) := by
  unfold ab_gd
  split
  · exact h
  · exact ab_none_po k
theorem ab_jn_le {p q p' q' : ab_O} (h : ab_le p p') (g : ab_le q q') : ab_le (ab_jn p q) (ab_jn p' q') := by
  intro z hz
  cases p with
  | none =>
    obtain ⟨y, rfl, hy⟩ := g z hz
    cases p' with
    | none => exact ⟨y, rfl, hy⟩
    | some x' => exact ⟨_, rfl, ty_le_trans hy.1 (ty_join_r _ _), ty_le_trans hy.2.1 (ty_join_r _ _), ty_le_trans hy.2.2 (ty_join_r _ _)⟩
  | some x =>
    obtain ⟨x', rfl, hx⟩ := h x rfl
    cases q with
    | none =>
      obtain rfl := Option.some.inj (show some x = some z from hz)
      cases q' with
      | none => exact ⟨x', rfl, hx⟩
      | some y' => exact ⟨_, rfl, ty_le_trans hx.1 (ty_join_l _ _), ty_le_trans hx.2.1 (ty_join_l _ _), ty_le_trans hx.2.2 (ty_join_l _ _)⟩
    | some y =>
      obtain ⟨y', rfl, hy⟩ := g y rfl
      obtain rfl := Option.some.inj (show some (ty_join x.1 y.1, (ty_join x.2.1 y.2.1, ty_join x.2.2 y.2.2)) = some z from hz)
      exact ⟨_, rfl, ty_join_le hx.1 hy.1, ty_join_le hx.2.1 hy.2.1, ty_join_le hx.2.2 hy.2.2⟩
theorem ab_join_any : ty_join ty_any ty_any = ty_any := by decide
theorem ab_jn_po {k : Nat} {p q : ab_O} (h : ab_po k p) (g : ab_po k q) : ab_po k (ab_jn p q) := by
  intro z hz
  cases p with
  | none => exact g z hz
  | some x =>
    cases q with
    | none => exact h z hz
    | some y =>
      obtain ⟨a0, a1, ⟨a2, a3, a4, a5⟩, a6, a7⟩ := h x rfl
      obtain ⟨b0, b1, ⟨b2, b3, b4, b5⟩, b6, b7⟩ := g y rfl
      obtain rfl := Option.some.inj (show some (ty_join x.1 y.1, (ty_join x.2.1 y.2.1, ty_join x.2.2 y.2.2)) = some z from hz)
      refine ⟨ty_join_ok a0 b0, ty_le_ne (ty_join_l _ _) a1, ⟨ty_join_ok a2 b2, ty_join_ok a3 b3, fun hk => ?_, fun hk => ?_⟩, ty_le_ne (ty_join_l _ _) a6, ty_le_ne (ty_join_l _ _) a7⟩
      · show ty_join x.2.1 y.2.1 = ty_any
        rw [a4 hk, b4 hk]; exact ab_join_any
      · show ty_join x.2.2 y.2.2 = ty_any
        rw [a5 hk, b5 hk]; exact ab_join_any
theorem ab_nv_le {K A : Nat → Int32} {p : Nat} {t t' : ty_T} {e e' : ab_E} (ht : ty_le t t') (h : ab_el e e') : ab_el (ab_nv K A p t e) (ab_nv K A p t' e') := by
  unfold ab_nv
  split
  · split
    · exact ⟨ty_meet_le h.1 ht, h.2⟩
    · exact ⟨h.1, ty_meet_le h.2 ht⟩
  · exact h
theorem ab_nv_eo {K A : Nat → Int32} {k p : Nat} {t : ty_T} {e : ab_E} (hp : K p = 2 → ∃ j : Nat, j < k ∧ A p = nI j) (ht : ty_ok t) (h : ab_eo k e) : ab_eo k (ab_nv K A p t e) := by
  obtain ⟨h1, h2, h3, h4⟩ := h
  unfold ab_nv
  split
  · next z =>
    obtain ⟨j, hj, ej⟩ := hp z
    split
    · next z0 => exact ⟨ty_meet_ok h1 ht, h2, fun hk => by omega, h4⟩
    · next z0 =>
      have : j ≠ 0 := fun e0 => z0 (by rw [ej, e0]; rfl)
      exact ⟨h1, ty_meet_ok h2 ht, h3, fun hk => by omega⟩
  · exact ⟨h1, h2, h3, h4⟩
theorem ty_ms_lit {a b : Nat} (h : a &&& b = a) : ty_ms a b := fun i hi => by
  rw [← h, Nat.testBit_and, Bool.and_eq_true] at hi
  exact hi.2
theorem ty_le_m {a b : Nat} (h : ty_ms a b) : ty_le (a, 0, 0) (b, 0, 0) := ⟨h, Nat.le_refl _, Nat.le_refl _⟩
theorem ab_num_le {k : Int32} {x y x' y' : ty_T} (hx' : ty_ok x') (hy' : ty_ok y') (h : ty_le x x') (g : ty_le y y') : ty_le (ab_num k x y) (ab_num k x' y') := by
  have a1 := ty_lv_le h.2.1 (ty_ok_l hx')
  have a2 := ty_lv_le g.2.1 (ty_ok_l hy')
  have a3 := ty_hv_le h.2.2 (ty_ok_h hx')
  have a4 := ty_hv_le g.2.2 (ty_ok_h hy')
  unfold ab_num
  split
  · exact ⟨ty_ms_rfl 0, ty_rl_le (by omega), ty_rh_le (by omega)⟩
  · split
    · exact ⟨ty_ms_rfl 0, ty_rl_le (by omega), ty_rh_le (by omega)⟩
    · apply ty_le_m
      apply ty_ms_lit
      by_cases p : ty_lv x.2.1 < ty_hv y.2.2
      · rw [if_pos p, if_pos (show ty_lv x'.2.1 < ty_hv y'.2.2 by omega)]
        by_cases q : ty_lv y.2.1 ≤ ty_hv x.2.2
        · rw [if_pos q, if_pos (show ty_lv y'.2.1 ≤ ty_hv x'.2.2 by omega)]; decide
        · rw [if_neg q]; split <;> decide
      · rw [if_neg p]
        by_cases q : ty_lv y.2.1 ≤ ty_hv x.2.2
        · rw [if_pos q, if_pos (show ty_lv y'.2.1 ≤ ty_hv x'.2.2 by omega)]; split <;> decide
        · rw [if_neg q]; exact Nat.zero_and _
theorem ab_num_ok {k : Int32} {x y : ty_T} (hx : ty_ok x) (hy : ty_ok y) (h0 : x.2.1 ≠ 0) (h1 : y.2.1 ≠ 0) : ty_ok (ab_num k x y) := by
  have a1 := ty_lh hx h0
  have a2 := ty_lh hy h1
  unfold ab_num
  split
  · exact ty_r_ok (by omega)
  · split
    · exact ty_r_ok (by omega)
    · refine ⟨?_, Or.inl ⟨rfl, rfl⟩⟩
      simp only
      split <;> split <;> decide

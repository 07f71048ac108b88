section
variable (N : Nat) (K A B : Nat → Nat → Int32) (st ar : Nat → Int32) (sz : Nat → Nat)
/-- how many children row i of slot f has -/
def sp_c (f i : Nat) : Nat := bs_cc (K f i) (B f i)
def sp_out (tb : Nat → ty_T) (f : Nat) : ab_O := ab_ev (K f) (A f) (B f) st ar (sp_c K B f) tb 128 (sz f - 1) (ty_any, ty_any)
end
def sp_fld (a : Int32) (j : Nat) (p : ab_O) : ty_T := match p with
  | none => ty_0
  | some x => if j = 2 then x.1 else if j = 0 then (if 1 ≤ a then x.2.1 else ty_0) else (if 2 ≤ a then x.2.2 else ty_0)
section
variable (N : Nat) (K A B : Nat → Nat → Int32) (st ar : Nat → Int32) (sz : Nat → Nat)
def sp_step (tb : Nat → ty_T) : Nat → ty_T := fun q =>
  if q < 3 * N ∧ st (q / 3) = 2 then sp_fld (ar (q / 3)) (q % 3) (sp_out K A B st ar sz tb (q / 3)) else ty_0
def sp_T : Nat → Nat → ty_T
  | 0 => fun _ => ty_0
  | r + 1 => sp_step N K A B st ar sz (sp_T r)
/-- the defined slots are well made -/
def sp_ok : Prop := ∀ f, f < N → st f = 2 → ∃ k : Nat, k ≤ 2 ∧ ar f = nI k ∧ 0 < sz f ∧ sz f ≤ 128 ∧ ab_bd N k (sz f) (K f) (A f) (B f) (sp_c K B f)
end
theorem sp_fld_ok {k : Nat} {a : Int32} {j : Nat} {p : ab_O} (h : ab_po k p) : ty_ok (sp_fld a j p) := by
  cases p with
  | none => exact ty_0_ok
  | some x =>
    obtain ⟨h0, _, h1, _⟩ := h x rfl
    show ty_ok (if j = 2 then x.1 else if j = 0 then (if 1 ≤ a then x.2.1 else ty_0) else (if 2 ≤ a then x.2.2 else ty_0))
    split
    · exact h0
    · split
      · split
        · exact h1.1
        · exact ty_0_ok
      · split
        · exact h1.2.1
        · exact ty_0_ok
theorem sp_fld_le {a : Int32} {j : Nat} {p q : ab_O} (h : ab_le p q) : ty_le (sp_fld a j p) (sp_fld a j q) := by
  cases p with
  | none => exact ty_0_le _
  | some x =>
    obtain ⟨y, rfl, h0, h1, h2⟩ := h x rfl
    show ty_le (if j = 2 then x.1 else if j = 0 then (if 1 ≤ a then x.2.1 else ty_0) else (if 2 ≤ a then x.2.2 else ty_0)) (if j = 2 then y.1 else if j = 0 then (if 1 ≤ a then y.2.1 else ty_0) else (if 2 ≤ a then y.2.2 else ty_0))
    split
    · exact h0
    · split
      · split
        · exact h1
        · exact ty_0_le _
      · split
        · exact h2
        · exact ty_0_le _
theorem sp_any_eo (k : Nat) : ab_eo k (ty_any, ty_any) := ⟨ty_any_ok, ty_any_ok, fun _ => rfl, fun _ => rfl⟩
section
variable {N : Nat} {K A B : Nat → Nat → Int32} {st ar : Nat → Int32} {sz : Nat → Nat}
theorem sp_step_ok {tb : Nat → ty_T} (hp : sp_ok N K A B st ar sz) (ht : ∀ q, ty_ok (tb q)) (q : Nat) : ty_ok (sp_step N K A B st ar sz tb q) := by
  unfold sp_step
  split
  · next z =>
    obtain ⟨k, _, _, h0, _, hb⟩ := hp (q / 3) (by omega) z.2
    exact sp_fld_ok (ab_ev_po hb ht _ _ _ (by omega) (sp_any_eo k))
  · exact ty_0_ok
theorem sp_step_le {tb tb' : Nat → ty_T} (hp : sp_ok N K A B st ar sz) (ht' : ∀ q, ty_ok (tb' q)) (hl : ∀ q, ty_le (tb q) (tb' q)) (q : Nat) : ty_le (sp_step N K A B st ar sz tb q) (sp_step N K A B st ar sz tb' q) := by
  unfold sp_step
  split
  · next z =>
    obtain ⟨k, _, _, h0, _, hb⟩ := hp (q / 3) (by omega) z.2
    exact sp_fld_le (ab_ev_le hb ht' hl _ _ _ _ (by omega) (sp_any_eo k) ⟨ty_le_rfl _, ty_le_rfl _⟩)
  · exact ty_0_le _
theorem sp_T_ok (hp : sp_ok N K A B st ar sz) : ∀ r q, ty_ok (sp_T N K A B st ar sz r q) := by
  intro r
  induction r with
  | zero => intro q; exact ty_0_ok
  | succ r ih => intro q; exact sp_step_ok hp ih q
theorem sp_T_le (hp : sp_ok N K A B st ar sz) : ∀ r q, ty_le (sp_T N K A B st ar sz r q) (sp_T N K A B st ar sz (r + 1) q) := by
  intro r
  induction r with
  | zero => intro q; exact ty_0_le _
  | succ r ih => intro q; exact sp_step_le hp (sp_T_ok hp (r + 1)) ih q
end
def sp_M (tb : Nat → ty_T) : Nat → Nat
  | 0 => 0
  | n + 1 => sp_M tb n + ty_mu (tb n)
theorem sp_M_s (tb : Nat → ty_T) (n : Nat) : sp_M tb (n + 1) = sp_M tb n + ty_mu (tb n) := rfl
theorem sp_M_44 {tb : Nat → ty_T} (h : ∀ q, ty_ok (tb q)) : ∀ n, sp_M tb n ≤ 44 * n := by
  intro n
  induction n with
  | zero => exact Nat.le_refl _
  | succ n ih => rw [sp_M_s]; have := ty_mu_44 (h n); omega
theorem sp_M_le {tb tb' : Nat → ty_T} (h : ∀ q, ty_le (tb q) (tb' q)) : ∀ n, sp_M tb n ≤ sp_M tb' n := by
  intro n
  induction n with
  | zero => exact Nat.le_refl _
  | succ n ih => rw [sp_M_s, sp_M_s]; have := ty_mu_le (h n); omega
theorem sp_M_eq {tb tb' : Nat → ty_T} (ho : ∀ q, ty_ok (tb q)) (ho' : ∀ q, ty_ok (tb' q)) (h : ∀ q, ty_le (tb q) (tb' q)) : ∀ n, sp_M tb' n ≤ sp_M tb n → ∀ q, q < n → tb' q = tb q := by
  intro n
  induction n with
  | zero => intro _ q hq; exact absurd hq (Nat.not_lt_zero q)
  | succ n ih =>
    intro e q hq
    rw [sp_M_s, sp_M_s] at e
    have a := sp_M_le h n
    have b := ty_mu_le (h n)
    by_cases z : q = n
    · subst z
      exact (ty_mu_eq (ho q) (ho' q) (h q) (by omega)).symm
    · exact ih (by omega) q (by omega)
section
variable {N : Nat} {K A B : Nat → Nat → Int32} {st ar : Nat → Int32} {sz : Nat → Nat}
theorem sp_grow (hp : sp_ok N K A B st ar sz) : ∀ r, (∀ j, j < r → ¬ ∀ q, q < 24 → sp_T N K A B st ar sz (j + 1) q = sp_T N K A B st ar sz j q) → r ≤ sp_M (sp_T N K A B st ar sz r) 24 := by
  intro r
  induction r with
  | zero => intro _; exact Nat.zero_le _
  | succ r ih =>
    intro h
    have a := ih (fun j hj => h j (by omega))
    have b := sp_M_le (sp_T_le hp r) 24
    by_cases z : sp_M (sp_T N K A B st ar sz (r + 1)) 24 ≤ sp_M (sp_T N K A B st ar sz r) 24
    · exact absurd (sp_M_eq (sp_T_ok hp r) (sp_T_ok hp (r + 1)) (sp_T_le hp r) 24 z) (h r (by omega))
    · omega
/-- the first round that changes nothing comes within 1,057 rounds -/
theorem sp_fix (hp : sp_ok N K A B st ar sz) : ∃ r, r ≤ 1056 ∧ (∀ q, q < 24 → sp_T N K A B st ar sz (r + 1) q = sp_T N K A B st ar sz r q)
    ∧ ∀ j, j < r → ¬ ∀ q, q < 24 → sp_T N K A B st ar sz (j + 1) q = sp_T N K A B st ar sz j q := by
  have ex : ∃ r, ∀ q, q < 24 → sp_T N K A B st ar sz (r + 1) q = sp_T N K A B st ar sz r q := by
    refine Classical.byContradiction fun h => ?_
    have := sp_grow hp 1057 (fun j _ z => h ⟨j, z⟩)
    have := sp_M_44 (sp_T_ok hp 1057) 24
    omega
  obtain ⟨r, h1, h2⟩ := pk_least _ ex
  refine ⟨r, ?_, h1, h2⟩
  have := sp_grow hp r h2
  have := sp_M_44 (sp_T_ok hp r) 24
  omega
theorem sp_T_hi (hN : N ≤ 8) (r : Nat) {q : Nat} (h : 24 ≤ q) : sp_T N K A B st ar sz r q = ty_0 := by
  cases r with
  | zero => rfl
  | succ r =>
    show sp_step N K A B st ar sz _ q = ty_0
    unfold sp_step
    exact if_neg fun z => by have := z.1; omega
end

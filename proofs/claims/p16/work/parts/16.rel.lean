/-- the rows of slot f in the reference's arrays -/
def rl_K (a : Nat → Int32) (f : Nat) : Nat → Int32 := fun i => a (f * 128 + i)
def rl_sum (st : Nat → Int32) (sz : Nat → Nat) : Nat → Nat
  | 0 => 0
  | n + 1 => rl_sum st sz n + (if st n = 0 then 0 else sz n)
theorem rl_sum_s (st : Nat → Int32) (sz : Nat → Nat) (n : Nat) : rl_sum st sz (n + 1) = rl_sum st sz n + (if st n = 0 then 0 else sz n) := rfl
/-- one slot: both sizes, the start, the body; a defined one is one whole tree -/
def rl_slot (N U f z S : Nat) (st ar szX szY sX bk ba bb kd fo so ch pa dp : Nat → Int32) : Prop :=
  (st f = 0 ∨ st f = 1 ∨ st f = 2) ∧
  (st f ≠ 0 → szX f = nI z ∧ szY f = nI z ∧ sX f = nI S ∧ S + z ≤ U ∧ ∃ k : Nat, k ≤ 2 ∧ ar f = nI k ∧ rl_body N k z S (rl_K bk f) (rl_K ba f) (rl_K bb f) kd fo so ch pa dp) ∧
  (st f = 2 → 0 < z ∧ bs_pc (rl_c (rl_K bk f) (rl_K bb f)) z = 1 ∧ pa (S + (z - 1)) = -1)
def rl_slots (N U : Nat) (sz S : Nat → Nat) (st ar szX szY sX bk ba bb kd fo so ch pa dp : Nat → Int32) : Prop :=
  ∀ f, f < N → rl_slot N U f (sz f) (S f) st ar szX szY sX bk ba bb kd fo so ch pa dp
/-- the pending subtrees of the body under way -/
def rl_pend (z S P : Nat) (K B pe pa : Nat → Int32) : Prop :=
  P = bs_pc (rl_c K B) z ∧ ∀ q, q < P → pe (P - 1 - q) = nI (S + (bs_sc (rl_c K B) q z - 1)) ∧ pa (S + (bs_sc (rl_c K B) q z - 1)) = -1
/-- no slot is under way, or b is -/
def rl_bld (N U : Nat) (sz S : Nat → Nat) (st bk bb pe pa : Nat → Int32) (bs pc : Int32) : Prop :=
  (bs = -1 ∧ pc = 0 ∧ ∀ f, f < N → st f ≠ 1) ∨
  (∃ b P : Nat, b < N ∧ bs = nI b ∧ pc = nI P ∧ st b = 1 ∧ (∀ f, f < N → f ≠ b → st f ≠ 1) ∧ S b + sz b = U ∧ (∀ f, f < N → st f = 2 → S f + sz f ≤ S b) ∧ rl_pend (sz b) (S b) P (rl_K bk b) (rl_K bb b) pe pa)
/-- the tables -/
def rl_tab (N : Nat) (tb : Nat → ty_T) (su nx ta nt : Nat → Int32) : Prop :=
  (∀ q, ty_ok (tb q)) ∧ (∀ q, q < 24 → su q = ty_x (tb q) ∧ ta q = ty_y (tb q)) ∧ (∀ q, 3 * N ≤ q → q < 24 → nx q = 0 ∧ nt q = 0)
section
variable {N U : Nat} {sz S : Nat → Nat} {st ar szX szY sX bk ba bb kd fo so ch pa dp : Nat → Int32}
theorem rl_sp_ok (h : rl_slots N U sz S st ar szX szY sX bk ba bb kd fo so ch pa dp) : sp_ok N (rl_K bk) (rl_K ba) (rl_K bb) st ar sz := by
  intro f hf hs
  obtain ⟨_, h1, h2⟩ := h f hf
  obtain ⟨_, _, _, _, k, hk, ek, b1, b2, _⟩ := h1 (by rw [hs]; decide)
  obtain ⟨z0, _, _⟩ := h2 hs
  exact ⟨k, hk, ek, z0, by omega, b2⟩
theorem rl_root (h : rl_slots N U sz S st ar szX szY sX bk ba bb kd fo so ch pa dp) : ∀ g, g < N → st g = 2 → bs_ss (sp_c (rl_K bk) (rl_K bb) g) (sz g - 1) = 0 := by
  intro f hf hs
  obtain ⟨_, h1, h2⟩ := h f hf
  obtain ⟨_, _, _, _, k, hk, ek, b1, b2, _⟩ := h1 (by rw [hs]; decide)
  obtain ⟨z0, z1, _⟩ := h2 hs
  have e : sz f - 1 + 1 = sz f := by omega
  exact bs_root (by rw [e]; exact b2.2.2) (by rw [e]; exact z1)
theorem rl_S128 (h : rl_slots N U sz S st ar szX szY sX bk ba bb kd fo so ch pa dp) : ∀ g, g < N → st g = 2 → S g + sz g ≤ 128 := by
  intro f hf hs
  obtain ⟨_, h1, h2⟩ := h f hf
  obtain ⟨_, _, _, _, k, hk, ek, b1, b2, _⟩ := h1 (by rw [hs]; decide)
  exact b1
theorem rl_hD (h : rl_slots N U sz S st ar szX szY sX bk ba bb kd fo so ch pa dp) : ∀ g, g < N → st g = 2 → ∀ i, i < sz g → ∀ j, j < sp_c (rl_K bk) (rl_K bb) g i → rl_D (S g) dp (bs_ch (sp_c (rl_K bk) (rl_K bb) g) i j) < rl_D (S g) dp i := by
  intro f hf hs i hi j hj
  obtain ⟨_, h1, h2⟩ := h f hf
  obtain ⟨_, _, _, _, k, hk, ek, b⟩ := h1 (by rw [hs]; decide)
  exact rl_D_ch b hi hj
theorem rl_hD1 (h : rl_slots N U sz S st ar szX szY sX bk ba bb kd fo so ch pa dp) : ∀ g, g < N → st g = 2 → ∀ i, i < sz g → 1 ≤ rl_D (S g) dp i ∧ rl_D (S g) dp i ≤ 10 := by
  intro f hf hs i hi
  obtain ⟨_, h1, h2⟩ := h f hf
  obtain ⟨_, _, _, _, k, hk, ek, b⟩ := h1 (by rw [hs]; decide)
  exact rl_D_in b hi
end
/-- the sum of the sizes, by one slot changed -/
theorem rl_sum_ge {st st' : Nat → Int32} {sz sz' : Nat → Nat} {b : Nat} (h : ∀ f, f ≠ b → st' f = st f ∧ sz' f = sz f) : ∀ n, n ≤ b → rl_sum st' sz' n = rl_sum st sz n := by
  intro n
  induction n with
  | zero => intro _; rfl
  | succ n ih =>
    intro hn
    obtain ⟨a, c⟩ := h n (by omega)
    rw [rl_sum_s, rl_sum_s, a, c, ih (by omega)]
theorem rl_sum_upd {st st' : Nat → Int32} {sz sz' : Nat → Nat} {b : Nat} (h : ∀ f, f ≠ b → st' f = st f ∧ sz' f = sz f) : ∀ n, b < n → rl_sum st' sz' n + (if st b = 0 then 0 else sz b) = rl_sum st sz n + (if st' b = 0 then 0 else sz' b) := by
  intro n
  induction n with
  | zero => intro hn; exact absurd hn (Nat.not_lt_zero b)
  | succ n ih =>
    intro hn
    rw [rl_sum_s, rl_sum_s]
    by_cases e : b = n
    · subst e
      rw [rl_sum_ge h b (Nat.le_refl _)]
      omega
    · obtain ⟨a, c⟩ := h n (fun z => e z.symm)
      have := ih (by omega)
      rw [a, c]
      omega

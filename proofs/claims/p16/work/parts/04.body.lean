/-- from the row m on, n whole subtrees to the left: where the last of them begins (0 if they run out); c: how many children each row has -/
def bs_sc (c : Nat → Nat) : Nat → Nat → Nat
  | 0, m => m
  | _ + 1, 0 => 0
  | n + 1, k + 1 => bs_sc c (n + c k) k
theorem bs_sc_0 (c : Nat → Nat) (m : Nat) : bs_sc c 0 m = m := by rw [bs_sc]
theorem bs_sc_z (c : Nat → Nat) (n : Nat) : bs_sc c n 0 = 0 := by cases n <;> rw [bs_sc]
theorem bs_sc_s (c : Nat → Nat) (n k : Nat) : bs_sc c (n + 1) (k + 1) = bs_sc c (n + c k) k := by rw [bs_sc]
theorem bs_sc_le (c : Nat → Nat) : ∀ m n, bs_sc c n m ≤ m := by
  intro m
  induction m with
  | zero => intro n; rw [bs_sc_z]; exact Nat.le_refl _
  | succ m ih =>
    intro n
    cases n with
    | zero => rw [bs_sc_0]; exact Nat.le_refl _
    | succ n => rw [bs_sc_s]; exact Nat.le_trans (ih _) (Nat.le_succ _)
theorem bs_sc_add (c : Nat → Nat) : ∀ m a b, bs_sc c (a + b) m = bs_sc c b (bs_sc c a m) := by
  intro m
  induction m with
  | zero => intro a b; rw [bs_sc_z, bs_sc_z, bs_sc_z]
  | succ m ih =>
    intro a b
    cases a with
    | zero => rw [bs_sc_0, Nat.zero_add]
    | succ a => rw [show a + 1 + b = (a + b) + 1 by omega, bs_sc_s, bs_sc_s, show a + b + c m = a + c m + b by omega, ih]
theorem bs_sc_lt (c : Nat → Nat) {n m : Nat} (hn : 0 < n) (hm : 0 < m) : bs_sc c n m < m := by
  obtain ⟨n, rfl⟩ : ∃ k, n = k + 1 := ⟨n - 1, by omega⟩
  obtain ⟨m, rfl⟩ : ∃ k, m = k + 1 := ⟨m - 1, by omega⟩
  rw [bs_sc_s]
  exact Nat.lt_succ_of_le (bs_sc_le c m _)
theorem bs_sc_mono (c : Nat → Nat) (m : Nat) {a b : Nat} (h : a ≤ b) : bs_sc c b m ≤ bs_sc c a m := by
  obtain ⟨d, rfl⟩ : ∃ d, b = a + d := ⟨b - a, by omega⟩
  rw [bs_sc_add]
  exact bs_sc_le c _ _
/-- only the rows below m matter -/
theorem bs_sc_congr {c c' : Nat → Nat} : ∀ m, (∀ i, i < m → c i = c' i) → ∀ n, bs_sc c n m = bs_sc c' n m := by
  intro m
  induction m with
  | zero => intro _ n; rw [bs_sc_z, bs_sc_z]
  | succ m ih =>
    intro h n
    cases n with
    | zero => rw [bs_sc_0, bs_sc_0]
    | succ n => rw [bs_sc_s, bs_sc_s, h m (Nat.lt_succ_self m)]; exact ih (fun i hi => h i (Nat.lt_succ_of_lt hi)) _
/-- where the subtree of row i begins; child k of row i -/
def bs_ss (c : Nat → Nat) (i : Nat) : Nat := bs_sc c (c i) i
def bs_ch (c : Nat → Nat) (i k : Nat) : Nat := bs_sc c (c i - 1 - k) i - 1
theorem bs_ss_sc (c : Nat → Nat) (i : Nat) : bs_ss c i = bs_sc c 1 (i + 1) := by
  unfold bs_ss; rw [show 1 = 0 + 1 from rfl, bs_sc_s, Nat.zero_add]
theorem bs_ss_le (c : Nat → Nat) (i : Nat) : bs_ss c i ≤ i := bs_sc_le c i _
/-- the count of pending subtrees after i rows -/
def bs_pc (c : Nat → Nat) : Nat → Nat
  | 0 => 0
  | i + 1 => bs_pc c i - c i + 1
theorem bs_pc_s (c : Nat → Nat) (i : Nat) : bs_pc c (i + 1) = bs_pc c i - c i + 1 := rfl
theorem bs_pc_congr {c c' : Nat → Nat} : ∀ m, (∀ i, i < m → c i = c' i) → bs_pc c m = bs_pc c' m := by
  intro m
  induction m with
  | zero => intro _; rfl
  | succ m ih => intro h; rw [bs_pc_s, bs_pc_s, h m (Nat.lt_succ_self m), ih (fun i hi => h i (Nat.lt_succ_of_lt hi))]
theorem bs_pc_le (c : Nat → Nat) : ∀ m, bs_pc c m ≤ m := by
  intro m
  induction m with
  | zero => exact Nat.le_refl _
  | succ m ih => rw [bs_pc_s]; omega
/-- every row of the first n found its children -/
def bs_wf (c : Nat → Nat) (n : Nat) : Prop := ∀ i, i < n → c i ≤ bs_pc c i
theorem bs_pos {c : Nat → Nat} : ∀ {m : Nat}, bs_wf c m → (∀ j, j < bs_pc c m → 0 < bs_sc c j m) ∧ bs_sc c (bs_pc c m) m = 0 := by
  intro m
  induction m with
  | zero => intro _; exact ⟨fun j hj => absurd hj (Nat.not_lt_zero j), bs_sc_z c _⟩
  | succ m ih =>
    intro h
    obtain ⟨h1, h2⟩ := ih (fun i hi => h i (Nat.lt_succ_of_lt hi))
    have hc := h m (Nat.lt_succ_self m)
    refine ⟨fun j hj => ?_, ?_⟩
    · cases j with
      | zero => rw [bs_sc_0]; omega
      | succ j => rw [bs_sc_s]; rw [bs_pc_s] at hj; exact h1 _ (by omega)
    · rw [bs_pc_s, bs_sc_s, show bs_pc c m - c m + c m = bs_pc c m by omega]; exact h2
theorem bs_wf_m {c : Nat → Nat} {m n : Nat} (h : bs_wf c n) (hm : m ≤ n) : bs_wf c m := fun i hi => h i (by omega)
theorem bs_ch_pos {c : Nat → Nat} {n i j : Nat} (h : bs_wf c n) (hi : i < n) (hj : j < c i) : 0 < bs_sc c j i :=
  (bs_pos (bs_wf_m h (Nat.le_of_lt hi))).1 j (by have := h i hi; omega)
theorem bs_ch_lt {c : Nat → Nat} {n i k : Nat} (h : bs_wf c n) (hi : i < n) (hk : k < c i) : bs_ch c i k < i := by
  have := bs_ch_pos h hi (j := c i - 1 - k) (by omega)
  have := bs_sc_le c i (c i - 1 - k)
  unfold bs_ch
  omega
/-- child k ends where the children to its right begin; its own subtree begins where k subtrees are left -/
theorem bs_ch_end {c : Nat → Nat} {n i k : Nat} (h : bs_wf c n) (hi : i < n) (hk : k < c i) : bs_ch c i k + 1 = bs_sc c (c i - 1 - k) i := by
  have := bs_ch_pos h hi (j := c i - 1 - k) (by omega)
  unfold bs_ch
  omega
theorem bs_ch_ss {c : Nat → Nat} {n i k : Nat} (h : bs_wf c n) (hi : i < n) (hk : k < c i) : bs_ss c (bs_ch c i k) = bs_sc c (c i - k) i := by
  rw [bs_ss_sc, bs_ch_end h hi hk, ← bs_sc_add, show c i - 1 - k + 1 = c i - k by omega]
theorem bs_ch_0 {c : Nat → Nat} {n i : Nat} (h : bs_wf c n) (hi : i < n) (hk : 0 < c i) : bs_ss c (bs_ch c i 0) = bs_ss c i := by
  rw [bs_ch_ss h hi hk]; rfl
theorem bs_ch_n {c : Nat → Nat} {n i k : Nat} (h : bs_wf c n) (hi : i < n) (hk : k + 1 < c i) : bs_ss c (bs_ch c i (k + 1)) = bs_ch c i k + 1 := by
  rw [bs_ch_ss h hi hk, bs_ch_end h hi (by omega), show c i - (k + 1) = c i - 1 - k by omega]
theorem bs_ch_l {c : Nat → Nat} {n i k : Nat} (h : bs_wf c n) (hi : i < n) (hk : k + 1 = c i) : bs_ch c i k + 1 = i := by
  rw [bs_ch_end h hi (by omega), show c i - 1 - k = 0 by omega, bs_sc_0]
theorem bs_ss_0 {c : Nat → Nat} {i : Nat} (h : c i = 0) : bs_ss c i = i := by
  unfold bs_ss; rw [h, bs_sc_0]
theorem bs_ch_ne {c : Nat → Nat} {n i j k : Nat} (h : bs_wf c n) (hi : i < n) (hk : k < c i) (hj : j < k) : bs_ch c i j < bs_ch c i k := by
  have e1 := bs_ch_end h hi hk
  have e2 := bs_ch_end h hi (show j < c i by omega)
  have p := bs_ch_pos h hi (j := c i - 1 - k) (by omega)
  have e3 : bs_sc c (c i - 1 - j) i = bs_sc c (k - j) (bs_sc c (c i - 1 - k) i) := by
    rw [← bs_sc_add, show c i - 1 - k + (k - j) = c i - 1 - j by omega]
  have := bs_sc_lt c (n := k - j) (by omega) p
  omega
/-- the root of a body with one pending subtree: it spans all -/
theorem bs_root {c : Nat → Nat} {n : Nat} (h : bs_wf c (n + 1)) (h1 : bs_pc c (n + 1) = 1) : bs_ss c n = 0 := by
  have := (bs_pos h).2
  rw [h1] at this
  rw [bs_ss_sc]; exact this
/-- how many children a row of kind k with second operand b has -/
def bs_cc (k b : Int32) : Nat := if k = 7 then 1 else if k = 8 then 3 else if k = 9 then b.toNatClampNeg else if k ≤ 2 then 0 else 2
/-- the depth over the first n subtrees to the left of m, by a depth function D -/
def bs_dm (c D : Nat → Nat) (m : Nat) : Nat → Nat
  | 0 => 0
  | n + 1 => max (bs_dm c D m n) (D (bs_sc c n m - 1))
theorem bs_dm_s (c D : Nat → Nat) (m n : Nat) : bs_dm c D m (n + 1) = max (bs_dm c D m n) (D (bs_sc c n m - 1)) := rfl
theorem bs_dm_le (c D : Nat → Nat) (m : Nat) : ∀ {n j : Nat}, j < n → D (bs_sc c j m - 1) ≤ bs_dm c D m n := by
  intro n
  induction n with
  | zero => intro j h; exact absurd h (Nat.not_lt_zero j)
  | succ n ih =>
    intro j h
    rw [bs_dm_s]
    by_cases e : j = n
    · subst e; omega
    · have := ih (show j < n by omega); omega
theorem bs_dm_congr {c c' D D' : Nat → Nat} {m : Nat} (hc : ∀ i, i < m → c i = c' i) (hD : ∀ i, i < m → D i = D' i) : ∀ {n : Nat}, (∀ j, j < n → 0 < bs_sc c j m) → bs_dm c D m n = bs_dm c' D' m n := by
  intro n
  induction n with
  | zero => intro _; rfl
  | succ n ih =>
    intro h
    have hp := h n (Nat.lt_succ_self n)
    have hl := bs_sc_le c m n
    rw [bs_dm_s, bs_dm_s, ih (fun j hj => h j (Nat.lt_succ_of_lt hj)), hD _ (by omega), bs_sc_congr m hc n]

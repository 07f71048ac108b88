theorem bs_ch_congr {c c' : Nat → Nat} {n : Nat} (h : ∀ i, i < n → c i = c' i) {i : Nat} (hi : i < n) (j : Nat) : bs_ch c i j = bs_ch c' i j := by
  unfold bs_ch; rw [h i hi, bs_sc_congr i (fun k hk => h k (by omega))]
theorem bs_ss_congr {c c' : Nat → Nat} {n : Nat} (h : ∀ i, i < n → c i = c' i) {i : Nat} (hi : i < n) : bs_ss c i = bs_ss c' i := by
  unfold bs_ss; rw [h i hi, bs_sc_congr i (fun k hk => h k (by omega))]
theorem bs_wf_congr {c c' : Nat → Nat} {n : Nat} (h : ∀ i, i < n → c i = c' i) (w : bs_wf c n) : bs_wf c' n := fun i hi => by
  rw [← h i hi, ← bs_pc_congr i (fun k hk => h k (by omega))]; exact w i hi
theorem bs_sc_gt {c : Nat → Nat} {n q q' : Nat} (h : q < q') (hp : 0 < bs_sc c q n) : bs_sc c q' n < bs_sc c q n := by
  obtain ⟨d, rfl⟩ : ∃ d, q' = q + d := ⟨q' - q, by omega⟩
  rw [bs_sc_add]
  exact bs_sc_lt c (by omega) hp
def rl_c (K B : Nat → Int32) : Nat → Nat := fun i => bs_cc (K i) (B i)
def rl_D (S : Nat) (dp : Nat → Int32) : Nat → Nat := fun i => (dp (S + i)).toNatClampNeg
/-- row i of a body that lies at S in the pool: kinds, operands, children, parents, depths -/
def rl_row (S : Nat) (K A B kd fo so ch pa dp : Nat → Int32) (i : Nat) : Prop :=
  kd (S + i) = K i ∧ fo (S + i) = A i ∧ so (S + i) = B i ∧ (∀ j, j < rl_c K B i → ch ((S + i) * 3 + j) = nI (S + bs_ch (rl_c K B) i j) ∧ pa (S + bs_ch (rl_c K B) i j) = nI (S + i))
  ∧ dp (S + i) = nI (bs_dm (rl_c K B) (rl_D S dp) i (rl_c K B i) + 1) ∧ bs_dm (rl_c K B) (rl_D S dp) i (rl_c K B i) + 1 ≤ 10
def rl_body (N k n S : Nat) (K A B kd fo so ch pa dp : Nat → Int32) : Prop :=
  S + n ≤ 128 ∧ ab_bd N k n K A B (rl_c K B) ∧ ∀ i, i < n → rl_row S K A B kd fo so ch pa dp i
theorem rl_bd_congr {N k n : Nat} {K A B K' A' B' : Nat → Int32} (h : ab_bd N k n K A B (rl_c K B)) (hK : ∀ i, i < n → K' i = K i ∧ A' i = A i ∧ B' i = B i) : ab_bd N k n K' A' B' (rl_c K' B') := by
  refine ⟨fun i hi => ?_, fun i => rfl, bs_wf_congr (c := rl_c K B) (fun i hi => ?_) h.2.2⟩
  · obtain ⟨a, b, c⟩ := hK i hi
    rw [a, b, c]; exact h.1 i hi
  · obtain ⟨a, b, c⟩ := hK i hi
    show bs_cc (K i) (B i) = bs_cc (K' i) (B' i)
    rw [a, c]
theorem rl_D_lt {N k n S : Nat} {K A B kd fo so ch pa dp : Nat → Int32} (h : rl_body N k n S K A B kd fo so ch pa dp) {i : Nat} (hi : i < n) : rl_D S dp i = bs_dm (rl_c K B) (rl_D S dp) i (rl_c K B i) + 1 := by
  obtain ⟨_, _, _, _, d1, d2⟩ := h.2.2 i hi
  show (dp (S + i)).toNatClampNeg = _
  rw [d1, nI_clamp (by omega)]
theorem rl_D_ch {N k n S : Nat} {K A B kd fo so ch pa dp : Nat → Int32} (h : rl_body N k n S K A B kd fo so ch pa dp) {i : Nat} (hi : i < n) {j : Nat} (hj : j < rl_c K B i) : rl_D S dp (bs_ch (rl_c K B) i j) < rl_D S dp i := by
  rw [rl_D_lt h hi]
  have := bs_dm_le (rl_c K B) (rl_D S dp) i (n := rl_c K B i) (j := rl_c K B i - 1 - j) (by omega)
  unfold bs_ch
  omega
theorem rl_D_in {N k n S : Nat} {K A B kd fo so ch pa dp : Nat → Int32} (h : rl_body N k n S K A B kd fo so ch pa dp) {i : Nat} (hi : i < n) : 1 ≤ rl_D S dp i ∧ rl_D S dp i ≤ 10 := by
  rw [rl_D_lt h hi]
  obtain ⟨_, _, _, _, d1, d2⟩ := h.2.2 i hi
  omega
/-- a body stays when its own rows stay -/
theorem rl_keep {N k n S : Nat} {K A B kd fo so ch pa dp K' A' B' kd' fo' so' ch' pa' dp' : Nat → Int32} (h : rl_body N k n S K A B kd fo so ch pa dp) (hK : ∀ i, i < n → K' i = K i ∧ A' i = A i ∧ B' i = B i)
    (hr : ∀ r, S ≤ r → r < S + n → kd' r = kd r ∧ fo' r = fo r ∧ so' r = so r ∧ pa' r = pa r ∧ dp' r = dp r) (hc : ∀ q, S * 3 ≤ q → q < (S + n) * 3 → ch' q = ch q) : rl_body N k n S K' A' B' kd' fo' so' ch' pa' dp' := by
  have cc : ∀ i, i < n → rl_c K B i = rl_c K' B' i := fun i hi => by
    obtain ⟨a, b, c⟩ := hK i hi
    show bs_cc (K i) (B i) = bs_cc (K' i) (B' i)
    rw [a, c]
  refine ⟨h.1, rl_bd_congr h.2.1 hK, fun i hi => ?_⟩
  obtain ⟨r1, r2, r3, r4, r5, r6⟩ := h.2.2 i hi
  obtain ⟨a, b, c⟩ := hK i hi
  obtain ⟨a1, a2, a3, a4, a5⟩ := hr (S + i) (by omega) (by omega)
  have dd : ∀ i, i < n → rl_D S dp i = rl_D S dp' i := fun i hi => by
    unfold rl_D; rw [(hr (S + i) (by omega) (by omega)).2.2.2.2]
  have dm : bs_dm (rl_c K B) (rl_D S dp) i (rl_c K B i) = bs_dm (rl_c K' B') (rl_D S dp') i (rl_c K' B' i) := by
    rw [← cc i hi]
    exact bs_dm_congr (fun j hj => cc j (by omega)) (fun j hj => dd j (by omega)) (fun j hj => bs_ch_pos h.2.1.2.2 hi hj)
  refine ⟨a1.trans (r1.trans a.symm), a2.trans (r2.trans b.symm), a3.trans (r3.trans c.symm), fun j hj => ?_, ?_, ?_⟩
  · rw [← cc i hi] at hj
    obtain ⟨q1, q2⟩ := r4 j hj
    have l := bs_ch_lt h.2.1.2.2 hi hj
    have l3 : j < 3 := by
      have := cc i hi
      have : rl_c K B i ≤ 3 := by
        show bs_cc (K i) (B i) ≤ 3
        rcases bd_10 (h.2.1.1 i hi) with z | z | z | z | z | z | z | z | z | z <;> rw [z]
        · rw [bs_cc0]; decide
        · rw [bs_cc1]; decide
        · rw [bs_cc2]; decide
        · rw [bs_cc3]; decide
        · rw [bs_cc4]; decide
        · rw [bs_cc5]; decide
        · rw [bs_cc6]; decide
        · rw [bs_cc7]; decide
        · rw [bs_cc8]; decide
        · rw [bs_cc9]
          rcases ab_B h.2.1 hi with y | y | y <;> rw [y] <;> decide
      omega
    rw [← bs_ch_congr cc hi j]
    exact ⟨(hc _ (by omega) (by omega)).trans q1, ((hr _ (by omega) (by omega)).2.2.2.1).trans q2⟩
  · rw [a5, r5, dm]
  · rw [← dm]; exact r6
/-- a body with one row more -/
theorem rl_add {N k n S : Nat} {K A B kd fo so ch pa dp K' A' B' kd' fo' so' ch' pa' dp' : Nat → Int32} {w : Nat} (h : rl_body N k n S K A B kd fo so ch pa dp) (hK : ∀ i, i < n → K' i = K i ∧ A' i = A i ∧ B' i = B i)
    (hn : bd_nd N k (K' n) (A' n) (B' n)) (hw : bs_cc (K' n) (B' n) = w) (hwp : w ≤ bs_pc (rl_c K B) n) (hS : S + n < 128)
    (hpn : ∀ q, q < bs_pc (rl_c K B) n → pa (S + (bs_sc (rl_c K B) q n - 1)) = -1)
    (hr : ∀ r, S ≤ r → r < S + n → kd' r = kd r ∧ fo' r = fo r ∧ so' r = so r ∧ dp' r = dp r) (hc : ∀ q, S * 3 ≤ q → q < (S + n) * 3 → ch' q = ch q)
    (hpa : ∀ r, S ≤ r → r < S + n → (∀ q, q < w → r ≠ S + (bs_sc (rl_c K B) q n - 1)) → pa' r = pa r) (hpw : ∀ q, q < w → pa' (S + (bs_sc (rl_c K B) q n - 1)) = nI (S + n))
    (h1 : kd' (S + n) = K' n) (h2 : fo' (S + n) = A' n) (h3 : so' (S + n) = B' n) (h4 : ∀ j, j < w → ch' ((S + n) * 3 + j) = nI (S + (bs_sc (rl_c K B) (w - 1 - j) n - 1)))
    (h5 : dp' (S + n) = nI (bs_dm (rl_c K B) (rl_D S dp) n w + 1)) (h6 : bs_dm (rl_c K B) (rl_D S dp) n w + 1 ≤ 10) :
    rl_body N k (n + 1) S K' A' B' kd' fo' so' ch' pa' dp' := by
  have wf : bs_wf (rl_c K B) n := h.2.1.2.2
  have pos := bs_pos wf
  have m1 : ∀ i : Nat, nI (S + i) = -1 → S + i < 2 ^ 31 → False := fun i e hi => by
    have := nI_pos' hi
    rw [e] at this
    exact absurd this (by decide)
  have cc : ∀ i, i < n → rl_c K B i = rl_c K' B' i := fun i hi => by
    obtain ⟨a, b, c⟩ := hK i hi
    show bs_cc (K i) (B i) = bs_cc (K' i) (B' i)
    rw [a, c]
  have cn : rl_c K' B' n = w := hw
  have dd : ∀ i, i < n → rl_D S dp i = rl_D S dp' i := fun i hi => by
    unfold rl_D; rw [(hr (S + i) (by omega) (by omega)).2.2.2]
  have dmn : bs_dm (rl_c K B) (rl_D S dp) n w = bs_dm (rl_c K' B') (rl_D S dp') n w :=
    bs_dm_congr cc dd (fun j hj => pos.1 j (by omega))
  refine ⟨by omega, ⟨fun i hi => ?_, fun i => rfl, fun i hi => ?_⟩, fun i hi => ?_⟩
  · by_cases e : i = n
    · subst e; exact hn
    · obtain ⟨a, b, c⟩ := hK i (by omega)
      rw [a, b, c]; exact h.2.1.1 i (by omega)
  · by_cases e : i = n
    · subst e; rw [cn, ← bs_pc_congr i cc]; exact hwp
    · exact bs_wf_congr cc wf i (by omega)
  · by_cases e : i = n
    · subst e
      refine ⟨h1, h2, h3, fun j hj => ?_, ?_, ?_⟩
      · rw [cn] at hj
        have ce : bs_ch (rl_c K' B') i j = bs_sc (rl_c K B) (w - 1 - j) i - 1 := by
          unfold bs_ch; rw [cn, ← bs_sc_congr i cc]
        rw [ce]
        exact ⟨h4 j hj, hpw _ (by omega)⟩
      · rw [cn, h5, dmn]
      · rw [cn, ← dmn]; exact h6
    · have hi : i < n := by omega
      obtain ⟨r1, r2, r3, r4, r5, r6⟩ := h.2.2 i hi
      obtain ⟨a, b, c⟩ := hK i hi
      obtain ⟨a1, a2, a3, a5⟩ := hr (S + i) (by omega) (by omega)
      have dm : bs_dm (rl_c K B) (rl_D S dp) i (rl_c K B i) = bs_dm (rl_c K' B') (rl_D S dp') i (rl_c K' B' i) := by
        rw [← cc i hi]
        exact bs_dm_congr (fun j hj => cc j (by omega)) (fun j hj => dd j (by omega)) (fun j hj => bs_ch_pos wf hi hj)
      refine ⟨a1.trans (r1.trans a.symm), a2.trans (r2.trans b.symm), a3.trans (r3.trans c.symm), fun j hj => ?_, ?_, ?_⟩
      · rw [← cc i hi] at hj
        obtain ⟨q1, q2⟩ := r4 j hj
        have l := bs_ch_lt wf hi hj
        have l3 : j < 3 := by
          have : rl_c K B i ≤ 3 := by
            show bs_cc (K i) (B i) ≤ 3
            rcases bd_10 (h.2.1.1 i hi) with z | z | z | z | z | z | z | z | z | z <;> rw [z]
            · rw [bs_cc0]; decide
            · rw [bs_cc1]; decide
            · rw [bs_cc2]; decide
            · rw [bs_cc3]; decide
            · rw [bs_cc4]; decide
            · rw [bs_cc5]; decide
            · rw [bs_cc6]; decide
            · rw [bs_cc7]; decide
            · rw [bs_cc8]; decide
            · rw [bs_cc9]
              rcases ab_B h.2.1 hi with y | y | y <;> rw [y] <;> decide
          omega
        rw [← bs_ch_congr cc hi j]
        refine ⟨(hc _ (by omega) (by omega)).trans q1, (hpa _ (by omega) (by omega) fun q hq z => ?_).trans q2⟩
        have := hpn q (by omega)
        rw [← z, q2] at this
        exact m1 i this (by omega)
      · rw [a5, r5, dm]
      · rw [← dm]; exact r6

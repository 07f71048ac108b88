/-- a type: (the atoms' mask, how far down its low bound lies (0: no integers, 1: 8, .., 17: -8, 18: -99), how far up its high bound lies (1: -8, .., 17: 8, 18: 99)) -/
abbrev ty_T : Type := Nat × Nat × Nat
def ty_0 : ty_T := (0, 0, 0)
def ty_any : ty_T := (255, 18, 18)
def ty_ints : ty_T := (0, 18, 18)
def ty_ats : ty_T := (255, 0, 0)
def ty_bool : ty_T := (3, 0, 0)
def ty_ok (t : ty_T) : Prop := t.1 < 256 ∧ ((t.2.1 = 0 ∧ t.2.2 = 0) ∨ (1 ≤ t.2.1 ∧ t.2.1 ≤ 18 ∧ 1 ≤ t.2.2 ∧ t.2.2 ≤ 18 ∧ 18 ≤ t.2.1 + t.2.2))
def ty_join (s t : ty_T) : ty_T := (s.1 ||| t.1, max s.2.1 t.2.1, max s.2.2 t.2.2)
def ty_meet (s t : ty_T) : ty_T := if min s.2.1 t.2.1 + min s.2.2 t.2.2 < 18 then (s.1 &&& t.1, 0, 0) else (s.1 &&& t.1, min s.2.1 t.2.1, min s.2.2 t.2.2)
def ty_ms (a b : Nat) : Prop := ∀ i, a.testBit i = true → b.testBit i = true
def ty_le (s t : ty_T) : Prop := ty_ms s.1 t.1 ∧ s.2.1 ≤ t.2.1 ∧ s.2.2 ≤ t.2.2
theorem ty_ext {s t : ty_T} (h1 : s.1 = t.1) (h2 : s.2.1 = t.2.1) (h3 : s.2.2 = t.2.2) : s = t := by
  obtain ⟨a, b, c⟩ := s
  obtain ⟨a', b', c'⟩ := t
  simp only at h1 h2 h3
  subst h1 h2 h3
  rfl
theorem ty_0_ok : ty_ok ty_0 := ⟨by decide, Or.inl ⟨rfl, rfl⟩⟩
theorem ty_any_ok : ty_ok ty_any := ⟨by decide, Or.inr (by decide)⟩
theorem ty_ints_ok : ty_ok ty_ints := ⟨by decide, Or.inr (by decide)⟩
theorem ty_ats_ok : ty_ok ty_ats := ⟨by decide, Or.inl ⟨rfl, rfl⟩⟩
theorem ty_bool_ok : ty_ok ty_bool := ⟨by decide, Or.inl ⟨rfl, rfl⟩⟩
theorem ty_join_ok {s t : ty_T} (hs : ty_ok s) (ht : ty_ok t) : ty_ok (ty_join s t) := by
  obtain ⟨a, b, c⟩ := s
  obtain ⟨a', b', c'⟩ := t
  obtain ⟨h1, h2⟩ := hs
  obtain ⟨h3, h4⟩ := ht
  simp only at h1 h2 h3 h4
  refine ⟨Nat.or_lt_two_pow (n := 8) h1 h3, ?_⟩
  simp only [ty_join]
  omega
theorem ty_meet_ok {s t : ty_T} (hs : ty_ok s) (ht : ty_ok t) : ty_ok (ty_meet s t) := by
  obtain ⟨a, b, c⟩ := s
  obtain ⟨a', b', c'⟩ := t
  obtain ⟨h1, h2⟩ := hs
  obtain ⟨h3, h4⟩ := ht
  simp only at h1 h2 h3 h4
  have h5 : a &&& a' < 256 := Nat.and_lt_two_pow (n := 8) a h3
  simp only [ty_meet]
  split
  · exact ⟨h5, Or.inl ⟨rfl, rfl⟩⟩
  · refine ⟨h5, Or.inr ?_⟩
    simp only
    omega
theorem ty_ms_rfl (a : Nat) : ty_ms a a := fun _ h => h
theorem ty_le_rfl (s : ty_T) : ty_le s s := ⟨ty_ms_rfl _, Nat.le_refl _, Nat.le_refl _⟩
theorem ty_le_trans {s t u : ty_T} (h : ty_le s t) (g : ty_le t u) : ty_le s u :=
  ⟨fun i hi => g.1 i (h.1 i hi), Nat.le_trans h.2.1 g.2.1, Nat.le_trans h.2.2 g.2.2⟩
theorem ty_0_le (s : ty_T) : ty_le ty_0 s := ⟨fun i hi => by simp [ty_0] at hi, Nat.zero_le _, Nat.zero_le _⟩
theorem ty_le_0 {s : ty_T} (h : ty_le s ty_0) : s = ty_0 := by
  refine ty_ext (Nat.eq_of_testBit_eq fun i => ?_) (Nat.le_zero.mp h.2.1) (Nat.le_zero.mp h.2.2)
  have := h.1 i
  simp only [ty_0, Nat.zero_testBit] at this ⊢
  cases e : s.1.testBit i
  · rfl
  · exact absurd (this e) (by decide)
theorem ty_le_ne {s t : ty_T} (h : ty_le s t) (hs : s ≠ ty_0) : t ≠ ty_0 := fun e => hs (ty_le_0 (e ▸ h))
theorem ty_ms_ne {a b : Nat} (h : ty_ms a b) (ha : a ≠ 0) : b ≠ 0 := by
  intro e
  apply ha
  apply Nat.eq_of_testBit_eq
  intro i
  have := h i
  rw [e] at this
  simp only [Nat.zero_testBit] at this ⊢
  cases e : a.testBit i
  · rfl
  · exact absurd (this e) (by decide)
theorem ty_ms_or {a b a' b' : Nat} (h : ty_ms a a') (g : ty_ms b b') : ty_ms (a ||| b) (a' ||| b') := by
  intro i
  have h1 := h i
  have h2 := g i
  simp only [Nat.testBit_or, Bool.or_eq_true]
  exact fun z => z.elim (fun z => Or.inl (h1 z)) (fun z => Or.inr (h2 z))
theorem ty_ms_and {a b a' b' : Nat} (h : ty_ms a a') (g : ty_ms b b') : ty_ms (a &&& b) (a' &&& b') := by
  intro i
  have h1 := h i
  have h2 := g i
  simp only [Nat.testBit_and, Bool.and_eq_true]
  exact fun z => ⟨h1 z.1, h2 z.2⟩
theorem ty_join_le {s t s' t' : ty_T} (h : ty_le s s') (g : ty_le t t') : ty_le (ty_join s t) (ty_join s' t') := by
  obtain ⟨h1, h2, h3⟩ := h
  obtain ⟨g1, g2, g3⟩ := g
  refine ⟨ty_ms_or h1 g1, ?_, ?_⟩ <;> simp only [ty_join] <;> omega
theorem ty_join_l (s t : ty_T) : ty_le s (ty_join s t) := by
  refine ⟨?_, ?_, ?_⟩
  · intro i hi
    simp [ty_join, hi]
  · simp only [ty_join]; omega
  · simp only [ty_join]; omega
theorem ty_join_r (s t : ty_T) : ty_le t (ty_join s t) := by
  refine ⟨?_, ?_, ?_⟩
  · intro i hi
    simp [ty_join, hi]
  · simp only [ty_join]; omega
  · simp only [ty_join]; omega
theorem ty_join_0 (s : ty_T) : ty_join s ty_0 = s := by
  refine ty_ext ?_ ?_ ?_ <;> simp [ty_join, ty_0]
theorem ty_0_join (s : ty_T) : ty_join ty_0 s = s := by
  refine ty_ext ?_ ?_ ?_ <;> simp [ty_join, ty_0]
theorem ty_meet_le {s t s' t' : ty_T} (h : ty_le s s') (g : ty_le t t') : ty_le (ty_meet s t) (ty_meet s' t') := by
  obtain ⟨h1, h2, h3⟩ := h
  obtain ⟨g1, g2, g3⟩ := g
  have m := ty_ms_and h1 g1
  unfold ty_meet
  split
  · split
    · exact ⟨m, Nat.le_refl _, Nat.le_refl _⟩
    · exact ⟨m, Nat.zero_le _, Nat.zero_le _⟩
  · split
    · omega
    · refine ⟨m, ?_, ?_⟩ <;> simp only <;> omega
theorem ty_meet_0 (s : ty_T) : ty_meet ty_0 s = ty_0 := by
  simp [ty_meet, ty_0]
theorem ty_0_meet (s : ty_T) : ty_meet s ty_0 = ty_0 := by
  simp [ty_meet, ty_0]
/-- how many of the eight atoms -/
def ty_pop (m : Nat) : Nat := (m.testBit 0).toNat + (m.testBit 1).toNat + (m.testBit 2).toNat + (m.testBit 3).toNat + (m.testBit 4).toNat + (m.testBit 5).toNat + (m.testBit 6).toNat + (m.testBit 7).toNat
theorem ty_bit_le {a b : Nat} (h : ty_ms a b) (i : Nat) : (a.testBit i).toNat ≤ (b.testBit i).toNat := by
  have := h i
  cases e : a.testBit i
  · simp
  · rw [this e]; exact Nat.le_refl _
theorem ty_bit_1 (b : Bool) : b.toNat ≤ 1 := by cases b <;> decide
theorem ty_pop_8 (m : Nat) : ty_pop m ≤ 8 := by
  have h := fun i => ty_bit_1 (m.testBit i)
  have h0 := h 0; have h1 := h 1; have h2 := h 2; have h3 := h 3; have h4 := h 4; have h5 := h 5; have h6 := h 6; have h7 := h 7
  unfold ty_pop
  omega
theorem ty_pop_le {a b : Nat} (h : ty_ms a b) : ty_pop a ≤ ty_pop b := by
  have h := ty_bit_le h
  have h0 := h 0; have h1 := h 1; have h2 := h 2; have h3 := h 3; have h4 := h 4; have h5 := h 5; have h6 := h 6; have h7 := h 7
  unfold ty_pop
  omega
theorem ty_bit_inj {a b : Bool} (h : a.toNat = b.toNat) : a = b := by
  cases a <;> cases b <;> first | rfl | exact absurd h (by decide)
theorem ty_pop_eq {a b : Nat} (h : ty_ms a b) (ha : a < 256) (hb : b < 256) (e : ty_pop b ≤ ty_pop a) : a = b := by
  have h := ty_bit_le h
  have h0 := h 0; have h1 := h 1; have h2 := h 2; have h3 := h 3; have h4 := h 4; have h5 := h 5; have h6 := h 6; have h7 := h 7
  unfold ty_pop at e
  apply Nat.eq_of_testBit_eq
  intro i
  by_cases hi : i < 8
  · apply ty_bit_inj
    have : i = 0 ∨ i = 1 ∨ i = 2 ∨ i = 3 ∨ i = 4 ∨ i = 5 ∨ i = 6 ∨ i = 7 := by omega
    rcases this with rfl | rfl | rfl | rfl | rfl | rfl | rfl | rfl <;> omega
  · have p : 2 ^ 8 ≤ 2 ^ i := Nat.pow_le_pow_right (by decide) (by omega)
    have p8 : (2 : Nat) ^ 8 = 256 := by decide
    rw [Nat.testBit_lt_two_pow (by omega), Nat.testBit_lt_two_pow (by omega)]
def ty_mu (t : ty_T) : Nat := ty_pop t.1 + t.2.1 + t.2.2
theorem ty_mu_44 {t : ty_T} (h : ty_ok t) : ty_mu t ≤ 44 := by
  have := ty_pop_8 t.1
  obtain ⟨_, h⟩ := h
  unfold ty_mu
  omega
theorem ty_mu_le {s t : ty_T} (h : ty_le s t) : ty_mu s ≤ ty_mu t := by
  have := ty_pop_le h.1
  have := h.2.1
  have := h.2.2
  unfold ty_mu
  omega
theorem ty_mu_eq {s t : ty_T} (hs : ty_ok s) (ht : ty_ok t) (h : ty_le s t) (e : ty_mu t ≤ ty_mu s) : s = t := by
  have h1 := ty_pop_le h.1
  have h2 := h.2.1
  have h3 := h.2.2
  unfold ty_mu at e
  exact ty_ext (ty_pop_eq h.1 hs.1 ht.1 (by omega)) (by omega) (by omega)
/-- the bounds' values -/
def ty_lv (l : Nat) : Int := if l = 18 then -99 else 9 - (l : Int)
def ty_hv (h : Nat) : Int := if h = 18 then 99 else (h : Int) - 9
def ty_rl (a : Int) : Nat := if a < -8 then 18 else if 8 < a then 1 else (9 - a).toNat
def ty_rh (b : Int) : Nat := if 8 < b then 18 else if b < -8 then 1 else (b + 9).toNat
theorem ty_lv_le {l l' : Nat} (h : l ≤ l') (h' : l' ≤ 18) : ty_lv l' ≤ ty_lv l := by
  unfold ty_lv; split <;> split <;> omega
theorem ty_hv_le {l l' : Nat} (h : l ≤ l') (h' : l' ≤ 18) : ty_hv l ≤ ty_hv l' := by
  unfold ty_hv; split <;> split <;> omega
theorem ty_rl_le {a a' : Int} (h : a' ≤ a) : ty_rl a ≤ ty_rl a' := by
  unfold ty_rl; split <;> split <;> (try split) <;> (try split) <;> omega
theorem ty_rh_le {a a' : Int} (h : a ≤ a') : ty_rh a ≤ ty_rh a' := by
  unfold ty_rh; split <;> split <;> (try split) <;> (try split) <;> omega
theorem ty_rl_in (a : Int) : 1 ≤ ty_rl a ∧ ty_rl a ≤ 18 := by
  unfold ty_rl; split <;> (try split) <;> omega
theorem ty_rh_in (a : Int) : 1 ≤ ty_rh a ∧ ty_rh a ≤ 18 := by
  unfold ty_rh; split <;> (try split) <;> omega
theorem ty_r_18 {a b : Int} (h : a ≤ b) : 18 ≤ ty_rl a + ty_rh b := by
  unfold ty_rl ty_rh; split <;> split <;> (try split) <;> (try split) <;> omega
theorem ty_r_ok {a b : Int} (h : a ≤ b) : ty_ok (0, ty_rl a, ty_rh b) :=
  ⟨(show (0 : Nat) < 256 by decide), Or.inr ⟨(ty_rl_in a).1, (ty_rl_in a).2, (ty_rh_in b).1, (ty_rh_in b).2, ty_r_18 h⟩⟩
theorem ty_lh {t : ty_T} (h : ty_ok t) (h0 : t.2.1 ≠ 0) : ty_lv t.2.1 ≤ ty_hv t.2.2 := by
  obtain ⟨_, h⟩ := h
  unfold ty_lv ty_hv; split <;> split <;> omega

section
theorem pk_us {f : Nat → Int32} {k : Nat} {x : Int32} : upd f k x k = x := if_pos rfl
theorem pk_un {f : Nat → Int32} {k j : Nat} {x : Int32} (h : j ≠ k) : upd f k x j = f j := if_neg h
theorem pk_sub {a b : Nat} (h : b ≤ a) : nI a - nI b = nI (a - b) := by
  obtain ⟨c, rfl⟩ : ∃ c, a = c + b := ⟨a - b, by omega⟩
  rw [← nI_add, Int32.add_sub_cancel, Nat.add_sub_cancel]
theorem pk_m1 (n : Nat) : nI (n + 1) + (-1) = nI n := by
  rw [← nI_1, Int32.add_assoc, show (1 : Int32) + (-1) = 0 from rfl, Int32.add_zero]
theorem pk_mul (a b : Nat) : nI a * nI b = nI (a * b) := (Int32.ofNat_mul a b).symm
theorem pk_sub_toInt {a b : Nat} (ha : a < 2 ^ 30) (hb : b < 2 ^ 30) : (nI a - nI b).toInt = (a : Int) - b := by
  rw [Int32.toInt_sub, nI_toInt (by omega), nI_toInt (by omega)]
  exact Int.bmod_eq_of_le (by omega) (by omega)
theorem pk_sneg {a b : Nat} (hb : b < 2 ^ 30) (h : a < b) : nI a - nI b < 0 := by
  rw [Int32.lt_iff_toInt_lt, pk_sub_toInt (by omega) hb, show (0 : Int32).toInt = 0 from by decide]
  omega
theorem pk_ix (x : Int32) {n : Nat} (hn : n < 2 ^ 31) : x < 0 ∨ nI n ≤ x ∨ ∃ j : Nat, j < n ∧ x = nI j := by
  by_cases h : x < 0
  · exact Or.inl h
  · obtain ⟨j, hj, rfl⟩ := nI_of h
    by_cases h2 : j < n
    · exact Or.inr (Or.inr ⟨j, h2, rfl⟩)
    · exact Or.inr (Or.inl (nI_le (by omega) hj))
theorem pk_le {x y : Int32} {A B : Prop} (a b : Nat) (f : a ≤ b → A) (g : b < a → B) (hx : x = nI a := by rfl) (hy : y = nI b := by rfl) (ha : a < 2 ^ 31 := by omega) (hb : b < 2 ^ 31 := by omega) : (x ≤ y → A) ∧ (¬ x ≤ y → B) := by
  subst hx hy
  rw [nI_leI ha hb]
  exact ⟨f, fun z => g (by omega)⟩
theorem pk_lt {x y : Int32} {A B : Prop} (a b : Nat) (f : a < b → A) (g : b ≤ a → B) (hx : x = nI a := by rfl) (hy : y = nI b := by rfl) (ha : a < 2 ^ 31 := by omega) (hb : b < 2 ^ 31 := by omega) : (x < y → A) ∧ (¬ x < y → B) := by
  subst hx hy
  rw [nI_ltI ha hb]
  exact ⟨f, fun z => g (by omega)⟩
theorem pk_eq {x y : Int32} {A B : Prop} (a b : Nat) (f : a = b → A) (g : a ≠ b → B) (hx : x = nI a := by rfl) (hy : y = nI b := by rfl) (ha : a < 2 ^ 31 := by omega) (hb : b < 2 ^ 31 := by omega) : (x = y → A) ∧ (¬ x = y → B) := by
  subst hx hy
  rw [nI_eq ha hb]
  exact ⟨f, g⟩
theorem pk_in {x : Int32} (n N : Nat) (h : n < N) (hx : x = nI n := by rfl) (hN : N < 2 ^ 31 := by omega) : vp_in x N := by
  subst hx
  exact vp_in_nI h hN
theorem pk_cl {x : Int32} (n : Nat) (hx : x = nI n := by rfl) (h : n < 2 ^ 31 := by omega) : x.toNatClampNeg = n := by
  subst hx
  exact nI_clamp h
theorem pk_tn {n : Nat} (h : n < 2 ^ 32) : (nI n).toBitVec.toNat = n := Nat.mod_eq_of_lt h
theorem pk_and (x : Int32) {m : Int32} (k : Nat) (hm : m.toBitVec.toNat = 2 ^ k - 1) : x &&& m = nI (x.toBitVec.toNat % 2 ^ k) := by
  apply Int32.toBitVec_inj.mp
  apply BitVec.eq_of_toNat_eq
  rw [Int32.toBitVec_and, BitVec.toNat_and, hm, Nat.and_two_pow_sub_one_eq_mod]
  show _ = (BitVec.ofNat 32 _).toNat
  rw [BitVec.toNat_ofNat]
  exact (Nat.mod_eq_of_lt (Nat.lt_of_le_of_lt (Nat.mod_le _ _) x.toBitVec.isLt)).symm
theorem pk_andN {n : Nat} (h : n < 2 ^ 32) {m : Int32} (k : Nat) (hm : m.toBitVec.toNat = 2 ^ k - 1) : nI n &&& m = nI (n % 2 ^ k) := by
  rw [pk_and _ k hm, pk_tn h]
theorem pk_andE (x : Int32) {m : Int32} (k : Nat) (hm : m.toBitVec.toNat = 2 ^ k - 1) : ∃ j : Nat, j < 2 ^ k ∧ x &&& m = nI j := ⟨_, Nat.mod_lt _ (Nat.two_pow_pos k), pk_and x k hm⟩
theorem pk_andIn (x : Int32) {m : Int32} (k : Nat) (hm : m.toBitVec.toNat = 2 ^ k - 1) (hk : k ≤ 30) : vp_in (x &&& m) (2 ^ k) := by
  obtain ⟨j, hj, e⟩ := pk_andE x k hm
  rw [e]
  exact vp_in_nI hj (Nat.lt_of_le_of_lt (Nat.pow_le_pow_right (by decide) hk) (by decide))
theorem pk_shl (a s : Int32) (k : Nat) (hs : (s.toBitVec.smod 32).toNat = k) : (a <<< s).toBitVec.toNat = a.toBitVec.toNat * 2 ^ k % 2 ^ 32 := by
  show (a.toBitVec <<< (s.toBitVec.smod 32).toNat).toNat = _
  rw [hs, BitVec.toNat_shiftLeft, Nat.shiftLeft_eq]
theorem pk_shlN {n : Nat} (s : Int32) (k : Nat) (hs : (s.toBitVec.smod 32).toNat = k) (h : n * 2 ^ k < 2 ^ 32) : nI n <<< s = nI (n * 2 ^ k) := by
  apply Int32.toBitVec_inj.mp
  apply BitVec.eq_of_toNat_eq
  have hn : n < 2 ^ 32 := Nat.lt_of_le_of_lt (Nat.le_mul_of_pos_right n (Nat.two_pow_pos k)) h
  rw [pk_shl _ _ k hs, pk_tn hn, pk_tn h, Nat.mod_eq_of_lt h]
theorem pk_shr (a s : Int32) (k : Nat) (hs : (s.toBitVec.smod 32).toNat = k) : (a >>> s).toInt = a.toInt >>> k := by
  show (a.toBitVec.sshiftRight (s.toBitVec.smod 32).toNat).toInt = _
  rw [hs, BitVec.toInt_sshiftRight]
  rfl
theorem pk_shrN {n : Nat} (h : n < 2 ^ 31) (s : Int32) (k : Nat) (hs : (s.toBitVec.smod 32).toNat = k) : nI n >>> s = nI (n / 2 ^ k) := by
  apply Int32.toInt_inj.mp
  have h2 : n / 2 ^ k ≤ n := Nat.div_le_self _ _
  rw [pk_shr _ _ k hs, nI_toInt h, nI_toInt (by omega), Int.shiftRight_eq_div_pow]
  rfl
theorem pk_loop {σ : Type} (W : Nat → Nat → σ → Prop) (I : Nat → σ → Prop) (e i0 : Nat) (s : σ) (hi : i0 ≤ e) (h0 : I i0 s) (hx : ∀ n s, I e s → W (n + 1) e s)
    (hs : ∀ n i s, i < e → I i s → (∀ s', I (i + 1) s' → W n (i + 1) s') → W (n + 1) i s) : ∃ n, W n i0 s :=
  ⟨e + 1, loop_i W I e hx hs (e + 1) i0 s hi (by omega) h0⟩
theorem pk_least (P : Nat → Prop) (h : ∃ k, P k) : ∃ k, P k ∧ ∀ j, j < k → ¬ P j := by
  obtain ⟨k, hk⟩ := h
  induction k using Nat.strongRecOn with
  | ind k ih =>
    by_cases e : ∃ j, j < k ∧ P j
    · obtain ⟨j, hj, pj⟩ := e
      exact ih j hj pj
    · exact ⟨k, hk, fun j hj pj => e ⟨j, hj, pj⟩⟩
theorem nx_and (a b : Nat) : nI a &&& nI b = nI (a &&& b) := by
  apply Int32.toBitVec_inj.1
  show BitVec.ofNat 32 a &&& BitVec.ofNat 32 b = BitVec.ofNat 32 (a &&& b)
  apply BitVec.eq_of_getLsbD_eq
  intro i hi
  simp [hi]
end
section
/-- a type: (the atoms' mask, how far down its low bound lies (0: no integers, 1: 8, .., 17: -8, 18: -99), how far up its high bound lies (1: -8, .., 17: 8, 18: 99)) -/
abbrev ty_T : Type := Nat × Nat × Nat
def ty_0 : ty_T := (0, 0, 0)
def ty_any : ty_T := (255, 18, 18)
def ty_ints : ty_T := (0, 18, 18)
def ty_ats : ty_T := (255, 0, 0)
def ty_bool : ty_T := (3, 0, 0)
def ty_ok (t : ty_T) : Prop := t.1 < 256 ∧ ((t.2.1 = 0 ∧ t.2.2 = 0) ∨ (1 ≤ t.2.1 ∧ t.2.1 ≤ 18 ∧ 1 ≤ t.2.2 ∧ t.2.2 ≤ 18 ∧ 18 ≤ t.2.1 + t.2.2))
def ty_join (s t : ty_T) : ty_T := (s.1 ||| t.1, max s.2.1 t.2.1, max s.2.2 t.2.2)
def ty_meet (s t : ty_T) : ty_T := if min s.2.1 t.2.1 + min s.2.2 t.2.2 < 18 then (s.1 &&& t.1, 0, 0) else (s.1 &&& t.1, min s.2.1 t.2.1, min s.2.2 t.2.2)
def ty_ms (a b : Nat) : Prop := ∀ i, a.testBit i = true → b.testBit i = true
def ty_le (s t : ty_T) : Prop := ty_ms s.1 t.1 ∧ s.2.1 ≤ t.2.1 ∧ s.2.2 ≤ t.2.2
theorem ty_ext {s t : ty_T} (h1 : s.1 = t.1) (h2 : s.2.1 = t.2.1) (h3 : s.2.2 = t.2.2) : s = t := by
  obtain ⟨a, b, c⟩ := s
  obtain ⟨a', b', c'⟩ := t
  simp only at h1 h2 h3
  subst h1 h2 h3
  rfl
theorem ty_0_ok : ty_ok ty_0 := ⟨by decide, Or.inl ⟨rfl, rfl⟩⟩
theorem ty_any_ok : ty_ok ty_any := ⟨by decide, Or.inr (by decide)⟩
theorem ty_ints_ok : ty_ok ty_ints := ⟨by decide, Or.inr (by decide)⟩
theorem ty_ats_ok : ty_ok ty_ats := ⟨by decide, Or.inl ⟨rfl, rfl⟩⟩
theorem ty_bool_ok : ty_ok ty_bool := ⟨by decide, Or.inl ⟨rfl, rfl⟩⟩
theorem ty_join_ok {s t : ty_T} (hs : ty_ok s) (ht : ty_ok t) : ty_ok (ty_join s t) := by
  obtain ⟨a, b, c⟩ := s
  obtain ⟨a', b', c'⟩ := t
  obtain ⟨h1, h2⟩ := hs
  obtain ⟨h3, h4⟩ := ht
  simp only at h1 h2 h3 h4
  refine ⟨Nat.or_lt_two_pow (n := 8) h1 h3, ?_⟩
  simp only [ty_join]
  omega
theorem ty_meet_ok {s t : ty_T} (hs : ty_ok s) (ht : ty_ok t) : ty_ok (ty_meet s t) := by
  obtain ⟨a, b, c⟩ := s
  obtain ⟨a', b', c'⟩ := t
  obtain ⟨h1, h2⟩ := hs
  obtain ⟨h3, h4⟩ := ht
  simp only at h1 h2 h3 h4
  have h5 : a &&& a' < 256 := Nat.and_lt_two_pow (n := 8) a h3
  simp only [ty_meet]
  split
  · exact ⟨h5, Or.inl ⟨rfl, rfl⟩⟩
  · refine ⟨h5, Or.inr ?_⟩
    simp only
    omega
theorem ty_ms_rfl (a : Nat) : ty_ms a a := fun _ h => h
theorem ty_le_rfl (s : ty_T) : ty_le s s := ⟨ty_ms_rfl _, Nat.le_refl _, Nat.le_refl _⟩
theorem ty_le_trans {s t u : ty_T} (h : ty_le s t) (g : ty_le t u) : ty_le s u :=
  ⟨fun i hi => g.1 i (h.1 i hi), Nat.le_trans h.2.1 g.2.1, Nat.le_trans h.2.2 g.2.2⟩
theorem ty_0_le (s : ty_T) : ty_le ty_0 s := ⟨fun i hi => by simp [ty_0] at hi, Nat.zero_le _, Nat.zero_le _⟩
theorem ty_le_0 {s : ty_T} (h : ty_le s ty_0) : s = ty_0 := by
  refine ty_ext (Nat.eq_of_testBit_eq fun i => ?_) (Nat.le_zero.mp h.2.1) (Nat.le_zero.mp h.2.2)
  have := h.1 i
  simp only [ty_0, Nat.zero_testBit] at this ⊢
  cases e : s.1.testBit i
  · rfl
  · exact absurd (this e) (by decide)
theorem ty_le_ne {s t : ty_T} (h : ty_le s t) (hs : s ≠ ty_0) : t ≠ ty_0 := fun e => hs (ty_le_0 (e ▸ h))
theorem ty_ms_ne {a b : Nat} (h : ty_ms a b) (ha : a ≠ 0) : b ≠ 0 := by
  intro e
  apply ha
  apply Nat.eq_of_testBit_eq
  intro i
  have := h i
  rw [e] at this
  simp only [Nat.zero_testBit] at this ⊢
  cases e : a.testBit i
  · rfl
  · exact absurd (this e) (by decide)
theorem ty_ms_or {a b a' b' : Nat} (h : ty_ms a a') (g : ty_ms b b') : ty_ms (a ||| b) (a' ||| b') := by
  intro i
  have h1 := h i
  have h2 := g i
  simp only [Nat.testBit_or, Bool.or_eq_true]
  exact fun z => z.elim (fun z => Or.inl (h1 z)) (fun z => Or.inr (h2 z))
theorem ty_ms_and {a b a' b' : Nat} (h : ty_ms a a') (g : ty_ms b b') : ty_ms (a &&& b) (a' &&& b') := by
  intro i
  have h1 := h i
  have h2 := g i
  simp only [Nat.testBit_and, Bool.and_eq_true]
  exact fun z => ⟨h1 z.1, h2 z.2⟩
theorem ty_join_le {s t s' t' : ty_T} (h : ty_le s s') (g : ty_le t t') : ty_le (ty_join s t) (ty_join s' t') := by
  obtain ⟨h1, h2, h3⟩ := h
  obtain ⟨g1, g2, g3⟩ := g
  refine ⟨ty_ms_or h1 g1, ?_, ?_⟩ <;> simp only [ty_join] <;> omega
theorem ty_join_l (s t : ty_T) : ty_le s (ty_join s t) := by
  refine ⟨?_, ?_, ?_⟩
  · intro i hi
    simp [ty_join, hi]
  · simp only [ty_join]; omega
  · simp only [ty_join]; omega
theorem ty_join_r (s t : ty_T) : ty_le t (ty_join s t) := by
  refine ⟨?_, ?_, ?_⟩
  · intro i hi
    simp [ty_join, hi]
  · simp only [ty_join]; omega
  · simp only [ty_join]; omega
theorem ty_join_0 (s : ty_T) : ty_join s ty_0 = s := by
  refine ty_ext ?_ ?_ ?_ <;> simp [ty_join, ty_0]
theorem ty_0_join (s : ty_T) : ty_join ty_0 s = s := by
  refine ty_ext ?_ ?_ ?_ <;> simp [ty_join, ty_0]
theorem ty_meet_le {s t s' t' : ty_T} (h : ty_le s s') (g : ty_le t t') : ty_le (ty_meet s t) (ty_meet s' t') := by
  obtain ⟨h1, h2, h3⟩ := h
  obtain ⟨g1, g2, g3⟩ := g
  have m := ty_ms_and h1 g1
  unfold ty_meet
  split
  · split
    · exact ⟨m, Nat.le_refl _, Nat.le_refl _⟩
    · exact ⟨m, Nat.zero_le _, Nat.zero_le _⟩
  · split
    · omega
    · refine ⟨m, ?_, ?_⟩ <;> simp only <;> omega
theorem ty_meet_0 (s : ty_T) : ty_meet ty_0 s = ty_0 := by
  simp [ty_meet, ty_0]
theorem ty_0_meet (s : ty_T) : ty_meet s ty_0 = ty_0 := by
  simp [ty_meet, ty_0]
/-- how many of the eight atoms -/
def ty_pop (m : Nat) : Nat := (m.testBit 0).toNat + (m.testBit 1).toNat + (m.testBit 2).toNat + (m.testBit 3).toNat + (m.testBit 4).toNat + (m.testBit 5).toNat + (m.testBit 6).toNat + (m.testBit 7).toNat
theorem ty_bit_le {a b : Nat} (h : ty_ms a b) (i : Nat) : (a.testBit i).toNat ≤ (b.testBit i).toNat := by
  have := h i
  cases e : a.testBit i
  · simp
  · rw [this e]; exact Nat.le_refl _
theorem ty_bit_1 (b : Bool) : b.toNat ≤ 1 := by cases b <;> decide
theorem ty_pop_8 (m : Nat) : ty_pop m ≤ 8 := by
  have h := fun i => ty_bit_1 (m.testBit i)
  have h0 := h 0; have h1 := h 1; have h2 := h 2; have h3 := h 3; have h4 := h 4; have h5 := h 5; have h6 := h 6; have h7 := h 7
  unfold ty_pop
  omega
theorem ty_pop_le {a b : Nat} (h : ty_ms a b) : ty_pop a ≤ ty_pop b := by
  have h := ty_bit_le h
  have h0 := h 0; have h1 := h 1; have h2 := h 2; have h3 := h 3; have h4 := h 4; have h5 := h 5; have h6 := h 6; have h7 := h 7
  unfold ty_pop
  omega
theorem ty_bit_inj {a b : Bool} (h : a.toNat = b.toNat) : a = b := by
  cases a <;> cases b <;> first | rfl | exact absurd h (by decide)
theorem ty_pop_eq {a b : Nat} (h : ty_ms a b) (ha : a < 256) (hb : b < 256) (e : ty_pop b ≤ ty_pop a) : a = b := by
  have h := ty_bit_le h
  have h0 := h 0; have h1 := h 1; have h2 := h 2; have h3 := h 3; have h4 := h 4; have h5 := h 5; have h6 := h 6; have h7 := h 7
  unfold ty_pop at e
  apply Nat.eq_of_testBit_eq
  intro i
  by_cases hi : i < 8
  · apply ty_bit_inj
    have : i = 0 ∨ i = 1 ∨ i = 2 ∨ i = 3 ∨ i = 4 ∨ i = 5 ∨ i = 6 ∨ i = 7 := by omega
    rcases this with rfl | rfl | rfl | rfl | rfl | rfl | rfl | rfl <;> omega
  · have p : 2 ^ 8 ≤ 2 ^ i := Nat.pow_le_pow_right (by decide) (by omega)
    have p8 : (2 : Nat) ^ 8 = 256 := by decide
    rw [Nat.testBit_lt_two_pow (by omega), Nat.testBit_lt_two_pow (by omega)]
def ty_mu (t : ty_T) : Nat := ty_pop t.1 + t.2.1 + t.2.2
theorem ty_mu_44 {t : ty_T} (h : ty_ok t) : ty_mu t ≤ 44 := by
  have := ty_pop_8 t.1
  obtain ⟨_, h⟩ := h
  unfold ty_mu
  omega
theorem ty_mu_le {s t : ty_T} (h : ty_le s t) : ty_mu s ≤ ty_mu t := by
  have := ty_pop_le h.1
  have := h.2.1
  have := h.2.2
  unfold ty_mu
  omega
theorem ty_mu_eq {s t : ty_T} (hs : ty_ok s) (ht : ty_ok t) (h : ty_le s t) (e : ty_mu t ≤ ty_mu s) : s = t := by
  have h1 := ty_pop_le h.1
  have h2 := h.2.1
  have h3 := h.2.2
  unfold ty_mu at e
  exact ty_ext (ty_pop_eq h.1 hs.1 ht.1 (by omega)) (by omega) (by omega)
/-- the bounds' values -/
def ty_lv (l : Nat) : Int := if l = 18 then -99 else 9 - (l : Int)
def ty_hv (h : Nat) : Int := if h = 18 then 99 else (h : Int) - 9
def ty_rl (a : Int) : Nat := if a < -8 then 18 else if 8 < a then 1 else (9 - a).toNat
def ty_rh (b : Int) : Nat := if 8 < b then 18 else if b < -8 then 1 else (b + 9).toNat
theorem ty_lv_le {l l' : Nat} (h : l ≤ l') (h' : l' ≤ 18) : ty_lv l' ≤ ty_lv l := by
  unfold ty_lv; split <;> split <;> omega
theorem ty_hv_le {l l' : Nat} (h : l ≤ l') (h' : l' ≤ 18) : ty_hv l ≤ ty_hv l' := by
  unfold ty_hv; split <;> split <;> omega
theorem ty_rl_le {a a' : Int} (h : a' ≤ a) : ty_rl a ≤ ty_rl a' := by
  unfold ty_rl; split <;> split <;> (try split) <;> (try split) <;> omega
theorem ty_rh_le {a a' : Int} (h : a ≤ a') : ty_rh a ≤ ty_rh a' := by
  unfold ty_rh; split <;> split <;> (try split) <;> (try split) <;> omega
theorem ty_rl_in (a : Int) : 1 ≤ ty_rl a ∧ ty_rl a ≤ 18 := by
  unfold ty_rl; split <;> (try split) <;> omega
theorem ty_rh_in (a : Int) : 1 ≤ ty_rh a ∧ ty_rh a ≤ 18 := by
  unfold ty_rh; split <;> (try split) <;> omega
theorem ty_r_18 {a b : Int} (h : a ≤ b) : 18 ≤ ty_rl a + ty_rh b := by
  unfold ty_rl ty_rh; split <;> split <;> (try split) <;> (try split) <;> omega
theorem ty_r_ok {a b : Int} (h : a ≤ b) : ty_ok (0, ty_rl a, ty_rh b) :=
  ⟨(show (0 : Nat) < 256 by decide), Or.inr ⟨(ty_rl_in a).1, (ty_rl_in a).2, (ty_rh_in b).1, (ty_rh_in b).2, ty_r_18 h⟩⟩
theorem ty_lh {t : ty_T} (h : ty_ok t) (h0 : t.2.1 ≠ 0) : ty_lv t.2.1 ≤ ty_hv t.2.2 := by
  obtain ⟨_, h⟩ := h
  unfold ty_lv ty_hv; split <;> split <;> omega
end
section
theorem ty_or (a b : Nat) : nI a ||| nI b = nI (a ||| b) := by
  apply Int32.toBitVec_inj.1
  show BitVec.ofNat 32 a ||| BitVec.ofNat 32 b = BitVec.ofNat 32 (a ||| b)
  apply BitVec.eq_of_getLsbD_eq
  intro i hi
  simp [hi]
theorem ty_mask (w k n : Nat) : n &&& ((2 ^ w - 1) * 2 ^ k) = (n / 2 ^ k % 2 ^ w) * 2 ^ k := by
  rw [← Nat.shiftLeft_eq, ← Nat.shiftLeft_eq, ← Nat.shiftRight_eq_div_pow]
  apply Nat.eq_of_testBit_eq
  intro i
  rw [Nat.testBit_and, Nat.testBit_shiftLeft, Nat.testBit_shiftLeft, Nat.testBit_mod_two_pow, Nat.testBit_shiftRight, Nat.testBit_two_pow_sub_one]
  by_cases h : k ≤ i
  · rw [Nat.add_sub_cancel' h]
    simp [h, Bool.and_comm]
  · simp [h]
/-- the four fields of a number: eight bits, eight bits, eight bits, the rest -/
theorem ty_f0 {m L H F : Nat} (hm : m < 256) : (m + 256 * L + 65536 * H + 16777216 * F) &&& 255 = m := by
  have h : (m + 256 * L + 65536 * H + 16777216 * F) &&& 255 = (m + 256 * L + 65536 * H + 16777216 * F) / 1 % 256 * 1 := ty_mask 8 0 _
  rw [h]; omega
theorem ty_f1 {m L H F : Nat} (hm : m < 256) (hL : L < 256) : (m + 256 * L + 65536 * H + 16777216 * F) &&& 65280 = 256 * L := by
  have h : (m + 256 * L + 65536 * H + 16777216 * F) &&& 65280 = (m + 256 * L + 65536 * H + 16777216 * F) / 256 % 256 * 256 := ty_mask 8 8 _
  rw [h]; omega
theorem ty_f2 {m L H F : Nat} (hm : m < 256) (hL : L < 256) (hH : H < 256) : (m + 256 * L + 65536 * H + 16777216 * F) &&& 16711680 = 65536 * H := by
  have h : (m + 256 * L + 65536 * H + 16777216 * F) &&& 16711680 = (m + 256 * L + 65536 * H + 16777216 * F) / 65536 % 256 * 65536 := ty_mask 8 16 _
  rw [h]; omega
theorem ty_f12 {m L H F : Nat} (hm : m < 256) (hL : L < 256) (hH : H < 256) : (m + 256 * L + 65536 * H + 16777216 * F) &&& 16776960 = 256 * L + 65536 * H := by
  have h : (m + 256 * L + 65536 * H + 16777216 * F) &&& 16776960 = (m + 256 * L + 65536 * H + 16777216 * F) / 256 % 65536 * 256 := ty_mask 16 8 _
  rw [h]; omega
theorem ty_o1 {m : Nat} (hm : m < 256) (L : Nat) : m ||| 256 * L = m + 256 * L := by
  have := Nat.two_pow_add_eq_or_of_lt (i := 8) hm L
  rw [Nat.or_comm]
  have e : (2 : Nat) ^ 8 = 256 := by decide
  rw [e] at this
  omega
theorem ty_o2 {m : Nat} (hm : m < 65536) (H : Nat) : m ||| 65536 * H = m + 65536 * H := by
  have := Nat.two_pow_add_eq_or_of_lt (i := 16) hm H
  rw [Nat.or_comm]
  have e : (2 : Nat) ^ 16 = 65536 := by decide
  rw [e] at this
  omega
theorem ty_o3 {m : Nat} (hm : m < 16777216) (H : Nat) : m ||| 16777216 * H = m + 16777216 * H := by
  have := Nat.two_pow_add_eq_or_of_lt (i := 24) hm H
  rw [Nat.or_comm]
  have e : (2 : Nat) ^ 24 = 16777216 := by decide
  rw [e] at this
  omega
/-- a type as the component keeps it, and as the reference keeps it -/
def ty_L (l : Nat) : Nat := if l = 0 then 0 else if l = 18 then 1 else 109 - l
def ty_H (h : Nat) : Nat := if h = 0 then 0 else if h = 18 then 199 else 91 + h
def ty_e (l : Nat) : Nat := if l = 0 then 0 else 1
def ty_xn (t : ty_T) : Nat := t.1 + 256 * ty_L t.2.1 + 65536 * ty_H t.2.2 + 16777216 * 0
def ty_yn (t : ty_T) : Nat := t.1 + 256 * (ty_L t.2.1 + 28 * ty_e t.2.1) + 65536 * (ty_H t.2.2 + 28 * ty_e t.2.1) + 16777216 * ty_e t.2.1
def ty_x (t : ty_T) : Int32 := nI (ty_xn t)
def ty_y (t : ty_T) : Int32 := nI (ty_yn t)
theorem ty_L_lt (l : Nat) : ty_L l < 110 := by
  unfold ty_L; split <;> (try split) <;> omega
theorem ty_H_lt {h : Nat} (hh : h ≤ 18) : ty_H h < 200 := by
  unfold ty_H; split <;> (try split) <;> omega
theorem ty_e_le (l : Nat) : ty_e l ≤ 1 := by
  unfold ty_e; split <;> omega
theorem ty_ok_h {t : ty_T} (h : ty_ok t) : t.2.2 ≤ 18 := by
  obtain ⟨_, h⟩ := h; omega
theorem ty_ok_l {t : ty_T} (h : ty_ok t) : t.2.1 ≤ 18 := by
  obtain ⟨_, h⟩ := h; omega
theorem ty_xn_lt {t : ty_T} (h : ty_ok t) : ty_xn t < 2 ^ 24 := by
  have h1 := ty_L_lt t.2.1
  have h2 := ty_H_lt (ty_ok_h h)
  have h3 := h.1
  unfold ty_xn
  omega
theorem ty_yn_lt {t : ty_T} (h : ty_ok t) : ty_yn t < 2 ^ 25 := by
  have h1 := ty_L_lt t.2.1
  have h2 := ty_H_lt (ty_ok_h h)
  have h3 := h.1
  have h4 := ty_e_le t.2.1
  unfold ty_yn
  omega
theorem ty_L_inj {l l' : Nat} (h : l ≤ 18) (h' : l' ≤ 18) (e : ty_L l = ty_L l') : l = l' := by
  unfold ty_L at e
  split at e <;> split at e <;> (try split at e) <;> (try split at e) <;> omega
theorem ty_H_inj {l l' : Nat} (h : l ≤ 18) (h' : l' ≤ 18) (e : ty_H l = ty_H l') : l = l' := by
  unfold ty_H at e
  split at e <;> split at e <;> (try split at e) <;> (try split at e) <;> omega
theorem ty_x_inj {s t : ty_T} (hs : ty_ok s) (ht : ty_ok t) (e : ty_x s = ty_x t) : s = t := by
  have a := ty_xn_lt hs
  have b := ty_xn_lt ht
  have e := (nI_eq (by omega) (by omega)).mp e
  have h1 := ty_L_lt s.2.1
  have h2 := ty_H_lt (ty_ok_h hs)
  have h3 := hs.1
  have g1 := ty_L_lt t.2.1
  have g2 := ty_H_lt (ty_ok_h ht)
  have g3 := ht.1
  unfold ty_xn at e
  exact ty_ext (by omega) (ty_L_inj (ty_ok_l hs) (ty_ok_l ht) (by omega)) (ty_H_inj (ty_ok_h hs) (ty_ok_h ht) (by omega))
theorem ty_e_eq {l : Nat} : ty_e l = 0 ↔ l = 0 := by
  unfold ty_e; split <;> omega
theorem ty_y_inj {s t : ty_T} (hs : ty_ok s) (ht : ty_ok t) (e : ty_y s = ty_y t) : s = t := by
  have a := ty_yn_lt hs
  have b := ty_yn_lt ht
  have e := (nI_eq (by omega) (by omega)).mp e
  have h1 := ty_L_lt s.2.1
  have h2 := ty_H_lt (ty_ok_h hs)
  have h3 := hs.1
  have h4 := ty_e_le s.2.1
  have g1 := ty_L_lt t.2.1
  have g2 := ty_H_lt (ty_ok_h ht)
  have g3 := ht.1
  have g4 := ty_e_le t.2.1
  unfold ty_yn at e
  have e0 : ty_e s.2.1 = ty_e t.2.1 := by omega
  rw [e0] at e
  exact ty_ext (by omega) (ty_L_inj (ty_ok_l hs) (ty_ok_l ht) (by omega)) (ty_H_inj (ty_ok_h hs) (ty_ok_h ht) (by omega))
theorem ty_x_00 : ty_x ty_0 = 0 := by decide
theorem ty_y_00 : ty_y ty_0 = 0 := by decide
theorem ty_x_0 {t : ty_T} (h : ty_ok t) : ty_x t = 0 ↔ t = ty_0 := by
  rw [← ty_x_00]
  exact ⟨ty_x_inj h ty_0_ok, fun e => by rw [e]⟩
theorem ty_y_0 {t : ty_T} (h : ty_ok t) : ty_y t = 0 ↔ t = ty_0 := by
  rw [← ty_y_00]
  exact ⟨ty_y_inj h ty_0_ok, fun e => by rw [e]⟩
theorem ty_i255 : (255 : Int32) = nI 255 := by decide
theorem ty_xm {t : ty_T} (h : ty_ok t) : ty_x t &&& 255 = nI t.1 := by
  rw [ty_i255, ty_x, nx_and, ty_xn, ty_f0 h.1]
theorem ty_xl {t : ty_T} (h : ty_ok t) : ty_x t &&& 65280 = nI (256 * ty_L t.2.1) := by
  rw [show (65280 : Int32) = nI 65280 by decide, ty_x, nx_and, ty_xn, ty_f1 h.1 (Nat.lt_trans (ty_L_lt _) (by decide))]
theorem ty_xh {t : ty_T} (h : ty_ok t) : ty_x t &&& 16711680 = nI (65536 * ty_H t.2.2) := by
  rw [show (16711680 : Int32) = nI 16711680 by decide, ty_x, nx_and, ty_xn, ty_f2 h.1 (Nat.lt_trans (ty_L_lt _) (by decide)) (Nat.lt_trans (ty_H_lt (ty_ok_h h)) (by decide))]
theorem ty_xi {t : ty_T} (h : ty_ok t) : ty_x t &&& 16776960 = nI (256 * ty_L t.2.1 + 65536 * ty_H t.2.2) := by
  rw [show (16776960 : Int32) = nI 16776960 by decide, ty_x, nx_and, ty_xn, ty_f12 h.1 (Nat.lt_trans (ty_L_lt _) (by decide)) (Nat.lt_trans (ty_H_lt (ty_ok_h h)) (by decide))]
theorem ty_L_0 {l : Nat} (h : l ≤ 18) : ty_L l = 0 ↔ l = 0 := by
  unfold ty_L; split <;> (try split) <;> omega
theorem ty_H_0 {l : Nat} : ty_H l = 0 ↔ l = 0 := by
  unfold ty_H; split <;> (try split) <;> omega
theorem ty_ok_0 {t : ty_T} (h : ty_ok t) : t.2.1 = 0 ↔ t.2.2 = 0 := by
  obtain ⟨_, h⟩ := h; omega
/-- hasInts -/
theorem ty_xi0 {t : ty_T} (h : ty_ok t) : ty_x t &&& 16776960 = 0 ↔ t.2.1 = 0 := by
  rw [ty_xi h, ← nI_0]
  have h1 := ty_L_lt t.2.1
  have h2 := ty_H_lt (ty_ok_h h)
  rw [nI_eq (by omega) (by omega)]
  have h3 := ty_L_0 (ty_ok_l h)
  have h4 := @ty_H_0 t.2.2
  have h5 := ty_ok_0 h
  omega
/-- the component's parts put together -/
theorem ty_x3 (m l h : Nat) (hm : m < 256) (hh : h ≤ 18) : nI m ||| nI (256 * ty_L l) ||| nI (65536 * ty_H h) = ty_x (m, l, h) := by
  have h1 := ty_L_lt l
  rw [ty_or, ty_or, ty_o1 hm, ty_o2 (by omega)]
  rfl
theorem ty_x2 (l h : Nat) (hh : h ≤ 18) : nI (256 * ty_L l) ||| nI (65536 * ty_H h) = ty_x (0, l, h) := by
  rw [← ty_x3 0 l h (by decide) hh, nI_0, Int32.zero_or]
theorem ty_x2' (m l h : Nat) (hm : m < 256) (hh : h ≤ 18) : nI m ||| nI (256 * ty_L l + 65536 * ty_H h) = ty_x (m, l, h) := by
  have h1 := ty_L_lt l
  rw [ty_or, show 256 * ty_L l + 65536 * ty_H h = 256 * (ty_L l + 256 * ty_H h) by omega, ty_o1 hm, show m + 256 * (ty_L l + 256 * ty_H h) = m + 256 * ty_L l + 65536 * ty_H h + 16777216 * 0 by omega]
  rfl
theorem ty_x1 (m : Nat) : nI m = ty_x (m, 0, 0) := rfl
theorem ty_y1 (m : Nat) : nI m = ty_y (m, 0, 0) := rfl
/-- the bounds' values as ints -/
def ty_lw (l : Nat) : Int32 := Int32.ofInt (ty_lv l)
def ty_hw (h : Nat) : Int32 := Int32.ofInt (ty_hv h)
theorem ty_lw_t : ∀ l, l < 19 → (ty_lw l).toInt = ty_lv l := by decide +kernel
theorem ty_hw_t : ∀ l, l < 19 → (ty_hw l).toInt = ty_hv l := by decide +kernel
theorem ty_lw_x : ∀ l, l < 19 → 0 < l → nI (ty_L l) - 100 = ty_lw l := by decide +kernel
theorem ty_hw_x : ∀ l, l < 19 → 0 < l → nI (ty_H l) - 100 = ty_hw l := by decide +kernel
theorem ty_lw_y : ∀ l, l < 19 → 0 < l → nI (ty_L l + 28 * ty_e l) - 128 = ty_lw l := by decide +kernel
theorem ty_hw_y : ∀ l, l < 19 → 0 < l → nI (ty_H l + 28 * ty_e l) - 128 = ty_hw l := by decide +kernel
theorem ty_lw_a : ∀ l, l < 19 → 0 < l → ty_lw l + 100 = nI (ty_L l) := by decide +kernel
theorem ty_hw_a : ∀ l, l < 19 → 0 < l → ty_hw l + 100 = nI (ty_H l) := by decide +kernel
theorem ty_lw_b : ∀ l, l < 19 → 0 < l → ty_lw l + 128 = nI (ty_L l + 28 * ty_e l) := by decide +kernel
theorem ty_hw_b : ∀ l, l < 19 → 0 < l → ty_hw l + 128 = nI (ty_H l + 28 * ty_e l) := by decide +kernel
theorem ty_sh8 {n : Nat} (h : n < 2 ^ 31) : nI n >>> ((8 : Int32) &&& 31) = nI (n / 256) := pk_shrN h _ 8 (by decide)
theorem ty_sh16 {n : Nat} (h : n < 2 ^ 31) : nI n >>> ((16 : Int32) &&& 31) = nI (n / 65536) := pk_shrN h _ 16 (by decide)
theorem ty_sh24 {n : Nat} (h : n < 2 ^ 31) : nI n >>> ((24 : Int32) &&& 31) = nI (n / 16777216) := pk_shrN h _ 24 (by decide)
theorem ty_sl8 {n : Nat} (h : n < 2 ^ 16) : nI n <<< ((8 : Int32) &&& 31) = nI (256 * n) := by
  rw [Nat.mul_comm]; exact pk_shlN _ 8 (by decide) (by omega)
theorem ty_sl16 {n : Nat} (h : n < 2 ^ 14) : nI n <<< ((16 : Int32) &&& 31) = nI (65536 * n) := by
  rw [Nat.mul_comm]; exact pk_shlN _ 16 (by decide) (by omega)
/-- lowOf, highOf -/
theorem ty_xlow {t : ty_T} (h : ty_ok t) (h0 : t.2.1 ≠ 0) : ((ty_x t &&& 65280) >>> ((8 : Int32) &&& 31)) - 100 = ty_lw t.2.1 := by
  have h1 := ty_L_lt t.2.1
  rw [ty_xl h, ty_sh8 (by omega), show 256 * ty_L t.2.1 / 256 = ty_L t.2.1 by omega]
  exact ty_lw_x _ (by have := ty_ok_l h; omega) (by omega)
theorem ty_xhigh {t : ty_T} (h : ty_ok t) (h0 : t.2.1 ≠ 0) : ((ty_x t &&& 16711680) >>> ((16 : Int32) &&& 31)) - 100 = ty_hw t.2.2 := by
  have h1 := ty_H_lt (ty_ok_h h)
  have h2 := ty_ok_0 h
  rw [ty_xh h, ty_sh16 (by omega), show 65536 * ty_H t.2.2 / 65536 = ty_H t.2.2 by omega]
  exact ty_hw_x _ (by have := ty_ok_h h; omega) (by omega)
/-- has, lo, hi of the reference -/
theorem ty_ym {t : ty_T} (h : ty_ok t) : ty_y t &&& 255 = nI t.1 := by
  rw [ty_i255, ty_y, nx_and, ty_yn, ty_f0 h.1]
theorem ty_a255 (n : Nat) : nI n &&& 255 = nI (n % 256) := by
  have h : n &&& 255 = n / 1 % 256 * 1 := ty_mask 8 0 _
  rw [ty_i255, nx_and, h, Nat.div_one, Nat.mul_one]
theorem ty_a1 (n : Nat) : nI n &&& 1 = nI (n % 2) := by
  have h : n &&& 1 = n / 1 % 2 * 1 := ty_mask 1 0 _
  rw [show (1 : Int32) = nI 1 by decide, nx_and, h, Nat.div_one, Nat.mul_one]
theorem ty_yhas {t : ty_T} (h : ty_ok t) : (ty_y t >>> ((24 : Int32) &&& 31)) &&& 1 = nI (ty_e t.2.1) := by
  have h0 := ty_yn_lt h
  have h1 := ty_L_lt t.2.1
  have h2 := ty_H_lt (ty_ok_h h)
  have h3 := h.1
  have h4 := ty_e_le t.2.1
  rw [ty_y, ty_sh24 (by omega), ty_a1]
  congr 1
  unfold ty_yn
  rcases (show ty_e t.2.1 = 0 ∨ ty_e t.2.1 = 1 by omega) with e | e <;> rw [e] <;> omega
theorem ty_yhas0 {t : ty_T} (h : ty_ok t) : (ty_y t >>> ((24 : Int32) &&& 31)) &&& 1 = 0 ↔ t.2.1 = 0 := by
  have h4 := ty_e_le t.2.1
  rw [ty_yhas h, ← nI_0, nI_eq (by omega) (by omega)]
  exact ty_e_eq
theorem ty_e_lh {t : ty_T} (h : ty_ok t) : ty_e t.2.1 = ty_e t.2.2 := by
  have := ty_ok_0 h
  unfold ty_e; split <;> split <;> omega
theorem ty_ylow {t : ty_T} (h : ty_ok t) (h0 : t.2.1 ≠ 0) : ((ty_y t >>> ((8 : Int32) &&& 31)) &&& 255) - 128 = ty_lw t.2.1 := by
  have hn := ty_yn_lt h
  have h1 := ty_L_lt t.2.1
  have h2 := ty_H_lt (ty_ok_h h)
  have h3 := h.1
  have h4 := ty_e_le t.2.1
  rw [ty_y, ty_sh8 (by omega), ty_a255, show ty_yn t / 256 % 256 = ty_L t.2.1 + 28 * ty_e t.2.1 by unfold ty_yn; omega]
  exact ty_lw_y _ (by have := ty_ok_l h; omega) (by omega)
theorem ty_yhigh {t : ty_T} (h : ty_ok t) (h0 : t.2.1 ≠ 0) : ((ty_y t >>> ((16 : Int32) &&& 31)) &&& 255) - 128 = ty_hw t.2.2 := by
  have hn := ty_yn_lt h
  have h1 := ty_L_lt t.2.1
  have h2 := ty_H_lt (ty_ok_h h)
  have h3 := h.1
  have h4 := ty_e_le t.2.1
  have h5 := ty_ok_0 h
  rw [ty_y, ty_sh16 (by omega), ty_a255, show ty_yn t / 65536 % 256 = ty_H t.2.2 + 28 * ty_e t.2.1 by unfold ty_yn; rcases (show ty_e t.2.1 = 0 ∨ ty_e t.2.1 = 1 by omega) with e | e <;> rw [e] <;> omega, ty_e_lh h]
  exact ty_hw_y _ (by have := ty_ok_h h; omega) (by omega)
/-- the reference's mk -/
theorem ty_mk0 (m : Nat) (hm : m < 256) : nI m &&& 255 = ty_y (m, 0, 0) := by
  rw [ty_a255, Nat.mod_eq_of_lt hm]; rfl
theorem ty_mk1 {m l h : Nat} (hm : m < 256) (hl0 : 0 < l) (hl : l ≤ 18) (hh0 : 0 < h) (hh : h ≤ 18) :
    ((nI m &&& 255) ||| (((ty_lw l + 128) &&& 255) <<< ((8 : Int32) &&& 31))) ||| (((ty_hw h + 128) &&& 255) <<< ((16 : Int32) &&& 31)) ||| 16777216 = ty_y (m, l, h) := by
  have h1 := ty_L_lt l
  have h2 := ty_H_lt hh
  have e1 : ty_e l = 1 := by unfold ty_e; split <;> omega
  have e2 : ty_e h = 1 := by unfold ty_e; split <;> omega
  rw [ty_lw_b l (by omega) hl0, ty_hw_b h (by omega) hh0, ty_a255, ty_a255, ty_a255, e1, e2,
    Nat.mod_eq_of_lt hm, Nat.mod_eq_of_lt (show ty_L l + 28 * 1 < 256 by omega), Nat.mod_eq_of_lt (show ty_H h + 28 * 1 < 256 by omega),
    ty_sl8 (by omega), ty_sl16 (by omega), show (16777216 : Int32) = nI (16777216 * 1) by decide,
    ty_or, ty_or, ty_or, ty_o1 hm, ty_o2 (by omega), ty_o3 (by omega)]
  unfold ty_y ty_yn
  simp only [e1]
/-- the range's bounds -/
def ty_rz (a : Int32) : Int32 := if -8 ≤ a then (if a ≤ 8 then a else 8) else -99
def ty_rw (b : Int32) : Int32 := if b ≤ 8 then (if -8 ≤ b then b else -8) else 99
theorem ty_n8 : (-8 : Int32).toInt = -8 := by decide
theorem ty_p8 : (8 : Int32).toInt = 8 := by decide
theorem ty_rz_lw (a : Int32) : ty_rz a = ty_lw (ty_rl a.toInt) := by
  unfold ty_rz ty_rl ty_lw ty_lv
  simp only [Int32.le_iff_toInt_le, ty_n8, ty_p8]
  by_cases h : -8 ≤ a.toInt
  · rw [if_pos h, if_neg (show ¬ a.toInt < -8 by omega)]
    by_cases h2 : a.toInt ≤ 8
    · rw [if_pos h2, if_neg (show ¬ 8 < a.toInt by omega), if_neg (by omega), show (9 : Int) - ((9 - a.toInt).toNat : Int) = a.toInt by omega, Int32.ofInt_toInt]
    · rw [if_neg h2, if_pos (show 8 < a.toInt by omega)]; decide
  · rw [if_neg h, if_pos (show a.toInt < -8 by omega)]; decide
theorem ty_rw_hw (a : Int32) : ty_rw a = ty_hw (ty_rh a.toInt) := by
  unfold ty_rw ty_rh ty_hw ty_hv
  simp only [Int32.le_iff_toInt_le, ty_n8, ty_p8]
  by_cases h2 : a.toInt ≤ 8
  · rw [if_pos h2, if_neg (show ¬ 8 < a.toInt by omega)]
    by_cases h : -8 ≤ a.toInt
    · rw [if_pos h, if_neg (show ¬ a.toInt < -8 by omega), if_neg (by omega), show ((a.toInt + 9).toNat : Int) - 9 = a.toInt by omega, Int32.ofInt_toInt]
    · rw [if_neg h, if_pos (show a.toInt < -8 by omega)]; decide
  · rw [if_neg h2, if_pos (show 8 < a.toInt by omega)]; decide
theorem ty_xn_m {t : ty_T} (h : ty_ok t) : ty_xn t % 256 = t.1 := by
  have := h.1
  unfold ty_xn
  omega
theorem ty_yn_m {t : ty_T} (h : ty_ok t) : ty_yn t % 256 = t.1 := by
  have := h.1
  unfold ty_yn
  omega
theorem ty_tb (m i : Nat) : m.testBit i = true ↔ m / 2 ^ i % 2 = 1 := by
  rw [Nat.testBit_eq_decide_div_mod_eq, decide_eq_true_iff]
theorem ty_b1 {n m : Nat} (h : n % 256 = m) : nI n &&& 2 = 0 ↔ ¬ m.testBit 1 = true := by
  have e : n &&& 2 = n / 2 % 2 * 2 := ty_mask 1 1 n
  rw [show (2 : Int32) = nI 2 by decide, nx_and, e, ← nI_0, nI_eq (by omega) (by omega), ty_tb]
  omega
theorem ty_b0 {n m : Nat} (h : n % 256 = m) : nI n &&& 1 = 0 ↔ ¬ m.testBit 0 = true := by
  have e : n &&& 1 = n / 1 % 2 * 1 := ty_mask 1 0 n
  rw [show (1 : Int32) = nI 1 by decide, nx_and, e, ← nI_0, nI_eq (by omega) (by omega), ty_tb]
  omega
/-- one atom's bit -/
theorem ty_bit {n m j : Nat} (h : n % 256 = m) (hn : n < 2 ^ 31) (hj : j < 8) : (nI n >>> (nI j &&& 31)) &&& 1 = nI (m / 2 ^ j % 2) := by
  have hs : ∀ j, j < 8 → ((nI j &&& 31).toBitVec.smod 32).toNat = j := by decide
  rw [pk_shrN hn _ j (hs j hj), ty_a1]
  congr 1
  have : j = 0 ∨ j = 1 ∨ j = 2 ∨ j = 3 ∨ j = 4 ∨ j = 5 ∨ j = 6 ∨ j = 7 := by omega
  rcases this with rfl | rfl | rfl | rfl | rfl | rfl | rfl | rfl <;> omega
theorem ty_and3 (a b m : Nat) : (a &&& b) &&& m = (a &&& m) &&& (b &&& m) := by
  apply Nat.eq_of_testBit_eq
  intro i
  simp only [Nat.testBit_and]
  cases a.testBit i <;> cases b.testBit i <;> cases m.testBit i <;> rfl
theorem ty_or3 (a b m : Nat) : (a ||| b) &&& m = (a &&& m) ||| (b &&& m) := by
  apply Nat.eq_of_testBit_eq
  intro i
  simp only [Nat.testBit_and, Nat.testBit_or]
  cases a.testBit i <;> cases b.testBit i <;> cases m.testBit i <;> rfl
theorem ty_xand {s t : ty_T} (hs : ty_ok s) (ht : ty_ok t) : (ty_x s &&& ty_x t) &&& 255 = nI (s.1 &&& t.1) := by
  rw [ty_i255, ty_x, ty_x, nx_and, nx_and, ty_and3, ty_xn, ty_xn, ty_f0 hs.1, ty_f0 ht.1]
theorem ty_xor {s t : ty_T} (hs : ty_ok s) (ht : ty_ok t) : (ty_x s ||| ty_x t) &&& 255 = nI (s.1 ||| t.1) := by
  rw [ty_i255, ty_x, ty_x, ty_or, nx_and, ty_or3, ty_xn, ty_xn, ty_f0 hs.1, ty_f0 ht.1]
theorem ty_yand {s t : ty_T} (hs : ty_ok s) (ht : ty_ok t) : (ty_y s &&& ty_y t) &&& 255 = nI (s.1 &&& t.1) := by
  rw [ty_i255, ty_y, ty_y, nx_and, nx_and, ty_and3, ty_yn, ty_yn, ty_f0 hs.1, ty_f0 ht.1]
theorem ty_yor {s t : ty_T} (hs : ty_ok s) (ht : ty_ok t) : (ty_y s ||| ty_y t) &&& 255 = nI (s.1 ||| t.1) := by
  rw [ty_i255, ty_y, ty_y, ty_or, nx_and, ty_or3, ty_yn, ty_yn, ty_f0 hs.1, ty_f0 ht.1]
theorem ty_ym256 {t : ty_T} (h : ty_ok t) {m : Nat} (hm : m < 256) : (ty_y t &&& (-256)) ||| nI m = ty_y (m, t.2.1, t.2.2) := by
  have hn := ty_yn_lt h
  have h1 := h.1
  have e : ty_yn t &&& 4294967040 = ty_yn t / 256 % 16777216 * 256 := ty_mask 24 8 _
  rw [show (-256 : Int32) = nI 4294967040 by decide, ty_y, nx_and, e, ty_or, Nat.or_comm, Nat.mul_comm, ty_o1 hm]
  unfold ty_y
  congr 1
  unfold ty_yn at hn ⊢
  simp only
  omega
theorem ty_lw_le : ∀ l, l < 19 → ∀ l', l' < 19 → 0 < l → 0 < l' → (ty_lw l ≤ ty_lw l' ↔ l' ≤ l) := by decide +kernel
theorem ty_hw_le : ∀ l, l < 19 → ∀ l', l' < 19 → 0 < l → 0 < l' → (ty_hw l ≤ ty_hw l' ↔ l ≤ l') := by decide +kernel
theorem ty_lh_le : ∀ l, l < 19 → ∀ l', l' < 19 → 0 < l → 0 < l' → (ty_lw l ≤ ty_hw l' ↔ 18 ≤ l + l') := by decide +kernel
theorem ty_L_le : ∀ l, l < 19 → ∀ l', l' < 19 → 0 < l → 0 < l' → (ty_L l ≤ ty_L l' ↔ l' ≤ l) := by decide +kernel
theorem ty_H_le : ∀ l, l < 19 → ∀ l', l' < 19 → 0 < l → 0 < l' → (ty_H l ≤ ty_H l' ↔ l ≤ l') := by decide +kernel
theorem ty_LH_le : ∀ l, l < 19 → ∀ l', l' < 19 → 0 < l → 0 < l' → (ty_L l ≤ ty_H l' ↔ 18 ≤ l + l') := by decide +kernel
end
section
/-- from the row m on, n whole subtrees to the left: where the last of them begins (0 if they run out); c: how many children each row has -/
def bs_sc (c : Nat → Nat) : Nat → Nat → Nat
  | 0, m => m
  | _ + 1, 0 => 0
  | n + 1, k + 1 => bs_sc c (n + c k) k
theorem bs_sc_0 (c : Nat → Nat) (m : Nat) : bs_sc c 0 m = m := by rw [bs_sc]
theorem bs_sc_z (c : Nat → Nat) (n : Nat) : bs_sc c n 0 = 0 := by cases n <;> rw [bs_sc]
theorem bs_sc_s (c : Nat → Nat) (n k : Nat) : bs_sc c (n + 1) (k + 1) = bs_sc c (n + c k) k := by rw [bs_sc]
theorem bs_sc_le (c : Nat → Nat) : ∀ m n, bs_sc c n m ≤ m := by
  intro m
  induction m with
  | zero => intro n; rw [bs_sc_z]; exact Nat.le_refl _
  | succ m ih =>
    intro n
    cases n with
    | zero => rw [bs_sc_0]; exact Nat.le_refl _
    | succ n => rw [bs_sc_s]; exact Nat.le_trans (ih _) (Nat.le_succ _)
theorem bs_sc_add (c : Nat → Nat) : ∀ m a b, bs_sc c (a + b) m = bs_sc c b (bs_sc c a m) := by
  intro m
  induction m with
  | zero => intro a b; rw [bs_sc_z, bs_sc_z, bs_sc_z]
  | succ m ih =>
    intro a b
    cases a with
    | zero => rw [bs_sc_0, Nat.zero_add]
    | succ a => rw [show a + 1 + b = (a + b) + 1 by omega, bs_sc_s, bs_sc_s, show a + b + c m = a + c m + b by omega, ih]
theorem bs_sc_lt (c : Nat → Nat) {n m : Nat} (hn : 0 < n) (hm : 0 < m) : bs_sc c n m < m := by
  obtain ⟨n, rfl⟩ : ∃ k, n = k + 1 := ⟨n - 1, by omega⟩
  obtain ⟨m, rfl⟩ : ∃ k, m = k + 1 := ⟨m - 1, by omega⟩
  rw [bs_sc_s]
  exact Nat.lt_succ_of_le (bs_sc_le c m _)
theorem bs_sc_mono (c : Nat → Nat) (m : Nat) {a b : Nat} (h : a ≤ b) : bs_sc c b m ≤ bs_sc c a m := by
  obtain ⟨d, rfl⟩ : ∃ d, b = a + d := ⟨b - a, by omega⟩
  rw [bs_sc_add]
  exact bs_sc_le c _ _
/-- only the rows below m matter -/
theorem bs_sc_congr {c c' : Nat → Nat} : ∀ m, (∀ i, i < m → c i = c' i) → ∀ n, bs_sc c n m = bs_sc c' n m := by
  intro m
  induction m with
  | zero => intro _ n; rw [bs_sc_z, bs_sc_z]
  | succ m ih =>
    intro h n
    cases n with
    | zero => rw [bs_sc_0, bs_sc_0]
    | succ n => rw [bs_sc_s, bs_sc_s, h m (Nat.lt_succ_self m)]; exact ih (fun i hi => h i (Nat.lt_succ_of_lt hi)) _
/-- where the subtree of row i begins; child k of row i -/
def bs_ss (c : Nat → Nat) (i : Nat) : Nat := bs_sc c (c i) i
def bs_ch (c : Nat → Nat) (i k : Nat) : Nat := bs_sc c (c i - 1 - k) i - 1
theorem bs_ss_sc (c : Nat → Nat) (i : Nat) : bs_ss c i = bs_sc c 1 (i + 1) := by
  unfold bs_ss; rw [show 1 = 0 + 1 from rfl, bs_sc_s, Nat.zero_add]
theorem bs_ss_le (c : Nat → Nat) (i : Nat) : bs_ss c i ≤ i := bs_sc_le c i _
/-- the count of pending subtrees after i rows -/
def bs_pc (c : Nat → Nat) : Nat → Nat
  | 0 => 0
  | i + 1 => bs_pc c i - c i + 1
theorem bs_pc_s (c : Nat → Nat) (i : Nat) : bs_pc c (i + 1) = bs_pc c i - c i + 1 := rfl
theorem bs_pc_congr {c c' : Nat → Nat} : ∀ m, (∀ i, i < m → c i = c' i) → bs_pc c m = bs_pc c' m := by
  intro m
  induction m with
  | zero => intro _; rfl
  | succ m ih => intro h; rw [bs_pc_s, bs_pc_s, h m (Nat.lt_succ_self m), ih (fun i hi => h i (Nat.lt_succ_of_lt hi))]
theorem bs_pc_le (c : Nat → Nat) : ∀ m, bs_pc c m ≤ m := by
  intro m
  induction m with
  | zero => exact Nat.le_refl _
  | succ m ih => rw [bs_pc_s]; omega
/-- every row of the first n found its children -/
def bs_wf (c : Nat → Nat) (n : Nat) : Prop := ∀ i, i < n → c i ≤ bs_pc c i
theorem bs_pos {c : Nat → Nat} : ∀ {m : Nat}, bs_wf c m → (∀ j, j < bs_pc c m → 0 < bs_sc c j m) ∧ bs_sc c (bs_pc c m) m = 0 := by
  intro m
  induction m with
  | zero => intro _; exact ⟨fun j hj => absurd hj (Nat.not_lt_zero j), bs_sc_z c _⟩
  | succ m ih =>
    intro h
    obtain ⟨h1, h2⟩ := ih (fun i hi => h i (Nat.lt_succ_of_lt hi))
    have hc := h m (Nat.lt_succ_self m)
    refine ⟨fun j hj => ?_, ?_⟩
    · cases j with
      | zero => rw [bs_sc_0]; omega
      | succ j => rw [bs_sc_s]; rw [bs_pc_s] at hj; exact h1 _ (by omega)
    · rw [bs_pc_s, bs_sc_s, show bs_pc c m - c m + c m = bs_pc c m by omega]; exact h2
theorem bs_wf_m {c : Nat → Nat} {m n : Nat} (h : bs_wf c n) (hm : m ≤ n) : bs_wf c m := fun i hi => h i (by omega)
theorem bs_ch_pos {c : Nat → Nat} {n i j : Nat} (h : bs_wf c n) (hi : i < n) (hj : j < c i) : 0 < bs_sc c j i :=
  (bs_pos (bs_wf_m h (Nat.le_of_lt hi))).1 j (by have := h i hi; omega)
theorem bs_ch_lt {c : Nat → Nat} {n i k : Nat} (h : bs_wf c n) (hi : i < n) (hk : k < c i) : bs_ch c i k < i := by
  have := bs_ch_pos h hi (j := c i - 1 - k) (by omega)
  have := bs_sc_le c i (c i - 1 - k)
  unfold bs_ch
  omega
/-- child k ends where the children to its right begin; its own subtree begins where k subtrees are left -/
theorem bs_ch_end {c : Nat → Nat} {n i k : Nat} (h : bs_wf c n) (hi : i < n) (hk : k < c i) : bs_ch c i k + 1 = bs_sc c (c i - 1 - k) i := by
  have := bs_ch_pos h hi (j := c i - 1 - k) (by omega)
  unfold bs_ch
  omega
theorem bs_ch_ss {c : Nat → Nat} {n i k : Nat} (h : bs_wf c n) (hi : i < n) (hk : k < c i) : bs_ss c (bs_ch c i k) = bs_sc c (c i - k) i := by
  rw [bs_ss_sc, bs_ch_end h hi hk, ← bs_sc_add, show c i - 1 - k + 1 = c i - k by omega]
theorem bs_ch_0 {c : Nat → Nat} {n i : Nat} (h : bs_wf c n) (hi : i < n) (hk : 0 < c i) : bs_ss c (bs_ch c i 0) = bs_ss c i := by
  rw [bs_ch_ss h hi hk]; rfl
theorem bs_ch_n {c : Nat → Nat} {n i k : Nat} (h : bs_wf c n) (hi : i < n) (hk : k + 1 < c i) : bs_ss c (bs_ch c i (k + 1)) = bs_ch c i k + 1 := by
  rw [bs_ch_ss h hi hk, bs_ch_end h hi (by omega), show c i - (k + 1) = c i - 1 - k by omega]
theorem bs_ch_l {c : Nat → Nat} {n i k : Nat} (h : bs_wf c n) (hi : i < n) (hk : k + 1 = c i) : bs_ch c i k + 1 = i := by
  rw [bs_ch_end h hi (by omega), show c i - 1 - k = 0 by omega, bs_sc_0]
theorem bs_ss_0 {c : Nat → Nat} {i : Nat} (h : c i = 0) : bs_ss c i = i := by
  unfold bs_ss; rw [h, bs_sc_0]
theorem bs_ch_ne {c : Nat → Nat} {n i j k : Nat} (h : bs_wf c n) (hi : i < n) (hk : k < c i) (hj : j < k) : bs_ch c i j < bs_ch c i k := by
  have e1 := bs_ch_end h hi hk
  have e2 := bs_ch_end h hi (show j < c i by omega)
  have p := bs_ch_pos h hi (j := c i - 1 - k) (by omega)
  have e3 : bs_sc c (c i - 1 - j) i = bs_sc c (k - j) (bs_sc c (c i - 1 - k) i) := by
    rw [← bs_sc_add, show c i - 1 - k + (k - j) = c i - 1 - j by omega]
  have := bs_sc_lt c (n := k - j) (by omega) p
  omega
/-- the root of a body with one pending subtree: it spans all -/
theorem bs_root {c : Nat → Nat} {n : Nat} (h : bs_wf c (n + 1)) (h1 : bs_pc c (n + 1) = 1) : bs_ss c n = 0 := by
  have := (bs_pos h).2
  rw [h1] at this
  rw [bs_ss_sc]; exact this
/-- how many children a row of kind k with second operand b has -/
def bs_cc (k b : Int32) : Nat := if k = 7 then 1 else if k = 8 then 3 else if k = 9 then b.toNatClampNeg else if k ≤ 2 then 0 else 2
/-- the depth over the first n subtrees to the left of m, by a depth function D -/
def bs_dm (c D : Nat → Nat) (m : Nat) : Nat → Nat
  | 0 => 0
  | n + 1 => max (bs_dm c D m n) (D (bs_sc c n m - 1))
theorem bs_dm_s (c D : Nat → Nat) (m n : Nat) : bs_dm c D m (n + 1) = max (bs_dm c D m n) (D (bs_sc c n m - 1)) := rfl
theorem bs_dm_le (c D : Nat → Nat) (m : Nat) : ∀ {n j : Nat}, j < n → D (bs_sc c j m - 1) ≤ bs_dm c D m n := by
  intro n
  induction n with
  | zero => intro j h; exact absurd h (Nat.not_lt_zero j)
  | succ n ih =>
    intro j h
    rw [bs_dm_s]
    by_cases e : j = n
    · subst e; omega
    · have := ih (show j < n by omega); omega
theorem bs_dm_congr {c c' D D' : Nat → Nat} {m : Nat} (hc : ∀ i, i < m → c i = c' i) (hD : ∀ i, i < m → D i = D' i) : ∀ {n : Nat}, (∀ j, j < n → 0 < bs_sc c j m) → bs_dm c D m n = bs_dm c' D' m n := by
  intro n
  induction n with
  | zero => intro _; rfl
  | succ n ih =>
    intro h
    have hp := h n (Nat.lt_succ_self n)
    have hl := bs_sc_le c m n
    rw [bs_dm_s, bs_dm_s, ih (fun j hj => h j (Nat.lt_succ_of_lt hj)), hD _ (by omega), bs_sc_congr m hc n]
end
section
abbrev ab_E : Type := ty_T × ty_T
abbrev ab_O : Type := Option (ty_T × (ty_T × ty_T))
/-- a row of a body, as both sides store it: N slots, the body's own arity k -/
def bd_nd (N k : Nat) (κ a b : Int32) : Prop :=
  (∃ q : Nat, q ≤ 9 ∧ κ = nI q) ∧ (κ = 0 → -99 ≤ a.toInt ∧ a.toInt ≤ 99) ∧ (κ = 1 → ∃ j : Nat, j < 8 ∧ a = nI j) ∧ (κ = 2 → ∃ j : Nat, j < k ∧ a = nI j)
  ∧ (κ = 9 → ∃ g : Nat, g < N ∧ a = nI g) ∧ (∃ w : Nat, w ≤ 2 ∧ b = nI w) ∧ (κ ≠ 9 → b = 0)
def ab_nv (K A : Nat → Int32) (p : Nat) (t : ty_T) (e : ab_E) : ab_E :=
  if K p = 2 then (if A p = 0 then (ty_meet e.1 t, e.2) else (e.1, ty_meet e.2 t)) else e
def ab_fin (r : ty_T) (e : ab_E) : ab_O := if r = ty_0 ∨ e.1 = ty_0 ∨ e.2 = ty_0 then none else some (r, e)
def ab_jn (p q : ab_O) : ab_O := match p with
  | none => q
  | some x => match q with
    | none => some x
    | some y => some (ty_join x.1 y.1, (ty_join x.2.1 y.2.1, ty_join x.2.2 y.2.2))
def ab_num (k : Int32) (x y : ty_T) : ty_T :=
  if k = 3 then (0, ty_rl (ty_lv x.2.1 + ty_lv y.2.1), ty_rh (ty_hv x.2.2 + ty_hv y.2.2))
  else if k = 4 then (0, ty_rl (ty_lv x.2.1 - ty_hv y.2.2), ty_rh (ty_hv x.2.2 - ty_lv y.2.1))
  else ((if ty_lv x.2.1 < ty_hv y.2.2 then 2 else 0) + (if ty_lv y.2.1 ≤ ty_hv x.2.2 then 1 else 0), 0, 0)
def ab_gd (b : Bool) (p : ab_O) : ab_O := if b = true then p else none
section
variable (K A B st ar : Nat → Int32) (c : Nat → Nat) (tb : Nat → ty_T)
/-- what the two branches begin with, by what the condition left -/
def ab_th (i : Nat) (asked : ty_T) (n : ab_E) : ab_E :=
  if K (bs_ch c i 0) = 7 then ab_nv K A (bs_ch c (bs_ch c i 0) 0) asked (ab_nv K A (bs_ch c i 0) ty_bool n) else ab_nv K A (bs_ch c i 0) ty_bool n
def ab_if (ev : Nat → ab_E → ab_O) (i : Nat) (e : ab_E) : ab_O :=
  (ev (bs_ch c i 0) e).bind fun x =>
    ab_jn (ab_gd (x.1.1.testBit 1) (ev (bs_ch c i 1) (ab_th K A c i ty_ints x.2))) (ab_gd (x.1.1.testBit 0) (ev (bs_ch c i 2) (ab_th K A c i ty_ats x.2)))
/-- the callee's check of one argument: its type and the child's row -/
def ab_arg (i k : Nat) (r q : ty_T) (n : ab_E) (go : ab_E → ab_O) : ab_O :=
  if ty_meet r q = ty_0 then none else go (ab_nv K A (bs_ch c i k) q n)
def ab_fits (i : Nat) : Bool := decide (st (A i).toNatClampNeg = 2) && decide (ar (A i).toNatClampNeg = B i)
def ab_cl0 (i : Nat) (e : ab_E) : ab_O := ab_gd (ab_fits A B st ar i) (ab_fin (tb ((A i).toNatClampNeg * 3 + 2)) e)
def ab_cl1 (i : Nat) (x : ty_T) (e : ab_E) : ab_O :=
  ab_gd (ab_fits A B st ar i) (ab_arg K A c i 0 x (tb ((A i).toNatClampNeg * 3)) e fun n => ab_fin (tb ((A i).toNatClampNeg * 3 + 2)) n)
def ab_cl2 (i : Nat) (x y : ty_T) (e : ab_E) : ab_O :=
  ab_gd (ab_fits A B st ar i) (ab_arg K A c i 0 x (tb ((A i).toNatClampNeg * 3)) e fun n => ab_arg K A c i 1 y (tb ((A i).toNatClampNeg * 3 + 1)) n fun n => ab_fin (tb ((A i).toNatClampNeg * 3 + 2)) n)
def ab_call (ev : Nat → ab_E → ab_O) (i : Nat) (e : ab_E) : ab_O :=
  if B i = 0 then ab_cl0 A B st ar tb i e
  else if B i = 1 then (ev (bs_ch c i 0) e).bind fun x => ab_cl1 K A B st ar c tb i x.1 x.2
  else (ev (bs_ch c i 0) e).bind fun x => (ev (bs_ch c i 1) x.2).bind fun y => ab_cl2 K A B st ar c tb i x.1 y.1 y.2
def ab_opf (i : Nat) (x y : ty_T) (e : ab_E) : ab_O :=
  if K i = 6 then ab_fin ((if ty_meet x y = ty_0 then 1 else 3), 0, 0) e
  else if x.2.1 = 0 ∨ y.2.1 = 0 then none
  else ab_fin (ab_num (K i) x y) (ab_nv K A (bs_ch c i 1) ty_ints (ab_nv K A (bs_ch c i 0) ty_ints e))
def ab_op (ev : Nat → ab_E → ab_O) (i : Nat) (e : ab_E) : ab_O :=
  (ev (bs_ch c i 0) e).bind fun x => (ev (bs_ch c i 1) x.2).bind fun y => ab_opf K A c i x.1 y.1 y.2
def ab_isi (ev : Nat → ab_E → ab_O) (i : Nat) (e : ab_E) : ab_O :=
  (ev (bs_ch c i 0) e).bind fun x => ab_fin ((if x.1.1 = 0 then 0 else 1) + (if x.1.2.1 = 0 then 0 else 2), 0, 0) x.2
def ab_leaf (i : Nat) (e : ab_E) : ab_O :=
  if K i = 0 then ab_fin (0, ty_rl (A i).toInt, ty_rh (A i).toInt) e
  else if K i = 1 then ab_fin (2 ^ (A i).toNatClampNeg, 0, 0) e
  else ab_fin (if A i = 0 then e.1 else e.2) e
def ab_node (ev : Nat → ab_E → ab_O) (i : Nat) (e : ab_E) : ab_O :=
  if K i = 0 then ab_fin (0, ty_rl (A i).toInt, ty_rh (A i).toInt) e
  else if K i = 1 then ab_fin (2 ^ (A i).toNatClampNeg, 0, 0) e
  else if K i = 2 then ab_fin (if A i = 0 then e.1 else e.2) e
  else if K i = 8 then ab_if K A c ev i e
  else if K i = 9 then ab_call K A B st ar c tb ev i e
  else if K i = 7 then ab_isi c ev i e
  else ab_op K A c ev i e
def ab_ev : Nat → Nat → ab_E → ab_O
  | 0 => fun _ _ => none
  | d + 1 => ab_node K A B st ar c tb (ab_ev d)
end
/-- the order -/
def ab_el (e f : ab_E) : Prop := ty_le e.1 f.1 ∧ ty_le e.2 f.2
def ab_xl (x y : ty_T × ab_E) : Prop := ty_le x.1 y.1 ∧ ab_el x.2 y.2
def ab_le (p q : ab_O) : Prop := ∀ x, p = some x → ∃ y, q = some y ∧ ab_xl x y
/-- well made: k is the arity -/
def ab_eo (k : Nat) (e : ab_E) : Prop := ty_ok e.1 ∧ ty_ok e.2 ∧ (k < 1 → e.1 = ty_any) ∧ (k < 2 → e.2 = ty_any)
def ab_xo (k : Nat) (x : ty_T × ab_E) : Prop := ty_ok x.1 ∧ x.1 ≠ ty_0 ∧ ab_eo k x.2 ∧ x.2.1 ≠ ty_0 ∧ x.2.2 ≠ ty_0
def ab_po (k : Nat) (p : ab_O) : Prop := ∀ x, p = some x → ab_xo k x
theorem ab_none_le (q : ab_O) : ab_le none q := fun _ h => nomatch h
theorem ab_none_po (k : Nat) : ab_po k none := fun _ h => nomatch h
theorem ab_fin_some {r : ty_T} {e : ab_E} {x : ty_T × ab_E} (h : ab_fin r e = some x) : x = (r, e) ∧ r ≠ ty_0 ∧ e.1 ≠ ty_0 ∧ e.2 ≠ ty_0 := by
  unfold ab_fin at h
  split at h
  · exact nomatch h
  · next hn =>
    injection h with h
    exact ⟨h.symm, fun z => hn (Or.inl z), fun z => hn (Or.inr (Or.inl z)), fun z => hn (Or.inr (Or.inr z))⟩
theorem ab_fin_to {r : ty_T} {e : ab_E} (h0 : r ≠ ty_0) (h1 : e.1 ≠ ty_0) (h2 : e.2 ≠ ty_0) : ab_fin r e = some (r, e) := by
  unfold ab_fin
  rw [if_neg]
  rintro (h | h | h) <;> contradiction
theorem ab_fin_le {r r' : ty_T} {e e' : ab_E} (h : ty_le r r') (g : ab_el e e') : ab_le (ab_fin r e) (ab_fin r' e') := by
  intro x hx
  obtain ⟨rfl, h0, h1, h2⟩ := ab_fin_some hx
  exact ⟨_, ab_fin_to (ty_le_ne h h0) (ty_le_ne g.1 h1) (ty_le_ne g.2 h2), h, g⟩
theorem ab_fin_po {k : Nat} {r : ty_T} {e : ab_E} (h : ty_ok r) (g : ab_eo k e) : ab_po k (ab_fin r e) := by
  intro x hx
  obtain ⟨rfl, h0, h1, h2⟩ := ab_fin_some hx
  exact ⟨h, h0, g, h1, h2⟩
theorem ab_bind_le {p q : ab_O} {f g : ty_T × ab_E → ab_O} (h : ab_le p q) (hf : ∀ x y, p = some x → q = some y → ab_xl x y → ab_le (f x) (g y)) : ab_le (p.bind f) (q.bind g) := by
  cases p with
  | none => exact ab_none_le _
  | some x =>
    obtain ⟨y, rfl, hy⟩ := h x rfl
    exact hf x y rfl rfl hy
theorem ab_bind_po {k : Nat} {p : ab_O} {f : ty_T × ab_E → ab_O} (hp : ab_po k p) (hf : ∀ x, ab_xo k x → ab_po k (f x)) : ab_po k (p.bind f) := by
  cases p with
  | none => exact ab_none_po k
  | some x => exact hf x (hp x rfl)
theorem ab_gd_le {b b' : Bool} {p q : ab_O} (hb : b = true → b' = true) (h : ab_le p q) : ab_le (ab_gd b p) (ab_gd b' q) := by
  unfold ab_gd
  split
  · next z => rw [if_pos (hb z)]; exact h
  · exact ab_none_le _
theorem ab_gd_po {k : Nat} {b : Bool} {p : ab_O} (h : ab_po k p) : ab_po k (ab_gd b p) := by
  unfold ab_gd
  split
  · exact h
  · exact ab_none_po k
theorem ab_jn_le {p q p' q' : ab_O} (h : ab_le p p') (g : ab_le q q') : ab_le (ab_jn p q) (ab_jn p' q') := by
  intro z hz
  cases p with
  | none =>
    obtain ⟨y, rfl, hy⟩ := g z hz
    cases p' with
    | none => exact ⟨y, rfl, hy⟩
    | some x' => exact ⟨_, rfl, ty_le_trans hy.1 (ty_join_r _ _), ty_le_trans hy.2.1 (ty_join_r _ _), ty_le_trans hy.2.2 (ty_join_r _ _)⟩
  | some x =>
    obtain ⟨x', rfl, hx⟩ := h x rfl
    cases q with
    | none =>
      obtain rfl := Option.some.inj (show some x = some z from hz)
      cases q' with
      | none => exact ⟨x', rfl, hx⟩
      | some y' => exact ⟨_, rfl, ty_le_trans hx.1 (ty_join_l _ _), ty_le_trans hx.2.1 (ty_join_l _ _), ty_le_trans hx.2.2 (ty_join_l _ _)⟩
    | some y =>
      obtain ⟨y', rfl, hy⟩ := g y rfl
      obtain rfl := Option.some.inj (show some (ty_join x.1 y.1, (ty_join x.2.1 y.2.1, ty_join x.2.2 y.2.2)) = some z from hz)
      exact ⟨_, rfl, ty_join_le hx.1 hy.1, ty_join_le hx.2.1 hy.2.1, ty_join_le hx.2.2 hy.2.2⟩
theorem ab_join_any : ty_join ty_any ty_any = ty_any := by decide
theorem ab_jn_po {k : Nat} {p q : ab_O} (h : ab_po k p) (g : ab_po k q) : ab_po k (ab_jn p q) := by
  intro z hz
  cases p with
  | none => exact g z hz
  | some x =>
    cases q with
    | none => exact h z hz
    | some y =>
      obtain ⟨a0, a1, ⟨a2, a3, a4, a5⟩, a6, a7⟩ := h x rfl
      obtain ⟨b0, b1, ⟨b2, b3, b4, b5⟩, b6, b7⟩ := g y rfl
      obtain rfl := Option.some.inj (show some (ty_join x.1 y.1, (ty_join x.2.1 y.2.1, ty_join x.2.2 y.2.2)) = some z from hz)
      refine ⟨ty_join_ok a0 b0, ty_le_ne (ty_join_l _ _) a1, ⟨ty_join_ok a2 b2, ty_join_ok a3 b3, fun hk => ?_, fun hk => ?_⟩, ty_le_ne (ty_join_l _ _) a6, ty_le_ne (ty_join_l _ _) a7⟩
      · show ty_join x.2.1 y.2.1 = ty_any
        rw [a4 hk, b4 hk]; exact ab_join_any
      · show ty_join x.2.2 y.2.2 = ty_any
        rw [a5 hk, b5 hk]; exact ab_join_any
theorem ab_nv_le {K A : Nat → Int32} {p : Nat} {t t' : ty_T} {e e' : ab_E} (ht : ty_le t t') (h : ab_el e e') : ab_el (ab_nv K A p t e) (ab_nv K A p t' e') := by
  unfold ab_nv
  split
  · split
    · exact ⟨ty_meet_le h.1 ht, h.2⟩
    · exact ⟨h.1, ty_meet_le h.2 ht⟩
  · exact h
theorem ab_nv_eo {K A : Nat → Int32} {k p : Nat} {t : ty_T} {e : ab_E} (hp : K p = 2 → ∃ j : Nat, j < k ∧ A p = nI j) (ht : ty_ok t) (h : ab_eo k e) : ab_eo k (ab_nv K A p t e) := by
  obtain ⟨h1, h2, h3, h4⟩ := h
  unfold ab_nv
  split
  · next z =>
    obtain ⟨j, hj, ej⟩ := hp z
    split
    · next z0 => exact ⟨ty_meet_ok h1 ht, h2, fun hk => by omega, h4⟩
    · next z0 =>
      have : j ≠ 0 := fun e0 => z0 (by rw [ej, e0]; rfl)
      exact ⟨h1, ty_meet_ok h2 ht, h3, fun hk => by omega⟩
  · exact ⟨h1, h2, h3, h4⟩
theorem ty_ms_lit {a b : Nat} (h : a &&& b = a) : ty_ms a b := fun i hi => by
  rw [← h, Nat.testBit_and, Bool.and_eq_true] at hi
  exact hi.2
theorem ty_le_m {a b : Nat} (h : ty_ms a b) : ty_le (a, 0, 0) (b, 0, 0) := ⟨h, Nat.le_refl _, Nat.le_refl _⟩
theorem ab_num_le {k : Int32} {x y x' y' : ty_T} (hx' : ty_ok x') (hy' : ty_ok y') (h : ty_le x x') (g : ty_le y y') : ty_le (ab_num k x y) (ab_num k x' y') := by
  have a1 := ty_lv_le h.2.1 (ty_ok_l hx')
  have a2 := ty_lv_le g.2.1 (ty_ok_l hy')
  have a3 := ty_hv_le h.2.2 (ty_ok_h hx')
  have a4 := ty_hv_le g.2.2 (ty_ok_h hy')
  unfold ab_num
  split
  · exact ⟨ty_ms_rfl 0, ty_rl_le (by omega), ty_rh_le (by omega)⟩
  · split
    · exact ⟨ty_ms_rfl 0, ty_rl_le (by omega), ty_rh_le (by omega)⟩
    · apply ty_le_m
      apply ty_ms_lit
      by_cases p : ty_lv x.2.1 < ty_hv y.2.2
      · rw [if_pos p, if_pos (show ty_lv x'.2.1 < ty_hv y'.2.2 by omega)]
        by_cases q : ty_lv y.2.1 ≤ ty_hv x.2.2
        · rw [if_pos q, if_pos (show ty_lv y'.2.1 ≤ ty_hv x'.2.2 by omega)]; decide
        · rw [if_neg q]; split <;> decide
      · rw [if_neg p]
        by_cases q : ty_lv y.2.1 ≤ ty_hv x.2.2
        · rw [if_pos q, if_pos (show ty_lv y'.2.1 ≤ ty_hv x'.2.2 by omega)]; split <;> decide
        · rw [if_neg q]; exact Nat.zero_and _
theorem ab_num_ok {k : Int32} {x y : ty_T} (hx : ty_ok x) (hy : ty_ok y) (h0 : x.2.1 ≠ 0) (h1 : y.2.1 ≠ 0) : ty_ok (ab_num k x y) := by
  have a1 := ty_lh hx h0
  have a2 := ty_lh hy h1
  unfold ab_num
  split
  · exact ty_r_ok (by omega)
  · split
    · exact ty_r_ok (by omega)
    · refine ⟨?_, Or.inl ⟨rfl, rfl⟩⟩
      simp only
      split <;> split <;> decide
end
section
theorem bs_cc8 (b : Int32) : bs_cc 8 b = 3 := by
  unfold bs_cc; rw [if_neg (by decide), if_pos rfl]
theorem bs_cc7 (b : Int32) : bs_cc 7 b = 1 := by
  unfold bs_cc; rw [if_pos rfl]
theorem bs_cc9 (b : Int32) : bs_cc 9 b = b.toNatClampNeg := by
  unfold bs_cc; rw [if_neg (by decide), if_neg (by decide), if_pos rfl]
theorem bs_cc0 (b : Int32) : bs_cc 0 b = 0 := by
  unfold bs_cc; rw [if_neg (by decide), if_neg (by decide), if_neg (by decide), if_pos (by decide)]
theorem bs_cc1 (b : Int32) : bs_cc 1 b = 0 := by
  unfold bs_cc; rw [if_neg (by decide), if_neg (by decide), if_neg (by decide), if_pos (by decide)]
theorem bs_cc2 (b : Int32) : bs_cc 2 b = 0 := by
  unfold bs_cc; rw [if_neg (by decide), if_neg (by decide), if_neg (by decide), if_pos (by decide)]
theorem bs_cc3 (b : Int32) : bs_cc 3 b = 2 := by
  unfold bs_cc; rw [if_neg (by decide), if_neg (by decide), if_neg (by decide), if_neg (by decide)]
theorem bs_cc4 (b : Int32) : bs_cc 4 b = 2 := by
  unfold bs_cc; rw [if_neg (by decide), if_neg (by decide), if_neg (by decide), if_neg (by decide)]
theorem bs_cc5 (b : Int32) : bs_cc 5 b = 2 := by
  unfold bs_cc; rw [if_neg (by decide), if_neg (by decide), if_neg (by decide), if_neg (by decide)]
theorem bs_cc6 (b : Int32) : bs_cc 6 b = 2 := by
  unfold bs_cc; rw [if_neg (by decide), if_neg (by decide), if_neg (by decide), if_neg (by decide)]
/-- the ten kinds -/
theorem bd_10 {N k : Nat} {κ a b : Int32} (h : bd_nd N k κ a b) : κ = 0 ∨ κ = 1 ∨ κ = 2 ∨ κ = 3 ∨ κ = 4 ∨ κ = 5 ∨ κ = 6 ∨ κ = 7 ∨ κ = 8 ∨ κ = 9 := by
  obtain ⟨⟨q, hq, rfl⟩, _⟩ := h
  have : q = 0 ∨ q = 1 ∨ q = 2 ∨ q = 3 ∨ q = 4 ∨ q = 5 ∨ q = 6 ∨ q = 7 ∨ q = 8 ∨ q = 9 := by omega
  rcases this with rfl | rfl | rfl | rfl | rfl | rfl | rfl | rfl | rfl | rfl <;> decide
/-- a body: its first n rows are well made -/
def ab_bd (N k n : Nat) (K A B : Nat → Int32) (c : Nat → Nat) : Prop :=
  (∀ i, i < n → bd_nd N k (K i) (A i) (B i)) ∧ (∀ i, c i = bs_cc (K i) (B i)) ∧ bs_wf c n
theorem ab_c2 {N k n : Nat} {K A B : Nat → Int32} {c : Nat → Nat} (hb : ab_bd N k n K A B c) {i : Nat} (hi : i < n)
    (h0 : ¬ K i = 0) (h1 : ¬ K i = 1) (h2 : ¬ K i = 2) (h8 : ¬ K i = 8) (h9 : ¬ K i = 9) (h7 : ¬ K i = 7) : c i = 2 := by
  rw [hb.2.1 i]
  rcases bd_10 (hb.1 i hi) with h | h | h | h | h | h | h | h | h | h
  · exact absurd h h0
  · exact absurd h h1
  · exact absurd h h2
  · rw [h]; exact bs_cc3 _
  · rw [h]; exact bs_cc4 _
  · rw [h]; exact bs_cc5 _
  · rw [h]; exact bs_cc6 _
  · exact absurd h h7
  · exact absurd h h8
  · exact absurd h h9
theorem ab_c8 {N k n : Nat} {K A B : Nat → Int32} {c : Nat → Nat} (hb : ab_bd N k n K A B c) {i : Nat} (h : K i = 8) : c i = 3 := by
  rw [hb.2.1 i, h]; exact bs_cc8 _
theorem ab_c7 {N k n : Nat} {K A B : Nat → Int32} {c : Nat → Nat} (hb : ab_bd N k n K A B c) {i : Nat} (h : K i = 7) : c i = 1 := by
  rw [hb.2.1 i, h]; exact bs_cc7 _
theorem ab_c9 {N k n : Nat} {K A B : Nat → Int32} {c : Nat → Nat} (hb : ab_bd N k n K A B c) {i : Nat} (h : K i = 9) : c i = (B i).toNatClampNeg := by
  rw [hb.2.1 i, h]; exact bs_cc9 _
theorem ab_B {N k n : Nat} {K A B : Nat → Int32} {c : Nat → Nat} (hb : ab_bd N k n K A B c) {i : Nat} (hi : i < n) : B i = 0 ∨ B i = 1 ∨ B i = 2 := by
  obtain ⟨w, hw, e⟩ := (hb.1 i hi).2.2.2.2.2.1
  have : w = 0 ∨ w = 1 ∨ w = 2 := by omega
  rcases this with rfl | rfl | rfl <;> rw [e] <;> decide
theorem ab_c3 {N k n : Nat} {K A B : Nat → Int32} {c : Nat → Nat} (hb : ab_bd N k n K A B c) {i : Nat} (hi : i < n) : c i ≤ 3 := by
  rw [hb.2.1 i]
  rcases bd_10 (hb.1 i hi) with z | z | z | z | z | z | z | z | z | z <;> rw [z]
  · rw [bs_cc0]; decide
  · rw [bs_cc1]; decide
  · rw [bs_cc2]; decide
  · rw [bs_cc3]; decide
  · rw [bs_cc4]; decide
  · rw [bs_cc5]; decide
  · rw [bs_cc6]; decide
  · rw [bs_cc7]; decide
  · rw [bs_cc8]; decide
  · rw [bs_cc9]
    rcases ab_B hb hi with y | y | y <;> rw [y] <;> decide
theorem ab_ch {N k n : Nat} {K A B : Nat → Int32} {c : Nat → Nat} (hb : ab_bd N k n K A B c) {i j : Nat} (hi : i < n) (hj : j < c i) : bs_ch c i j < n :=
  Nat.lt_trans (bs_ch_lt hb.2.2 hi hj) hi
theorem ab_cB1 {N k n : Nat} {K A B : Nat → Int32} {c : Nat → Nat} (hb : ab_bd N k n K A B c) {i : Nat} (h : K i = 9) (h1 : B i = 1) : c i = 1 := by
  rw [ab_c9 hb h, h1]; decide
theorem ab_cB2 {N k n : Nat} {K A B : Nat → Int32} {c : Nat → Nat} (hb : ab_bd N k n K A B c) {i : Nat} (hi : i < n) (h : K i = 9) (h0 : ¬ B i = 0) (h1 : ¬ B i = 1) : c i = 2 ∧ B i = 2 := by
  rcases ab_B hb hi with z | z | z
  · exact absurd z h0
  · exact absurd z h1
  · rw [ab_c9 hb h, z]; decide
theorem ab_var {N k n : Nat} {K A B : Nat → Int32} {c : Nat → Nat} (hb : ab_bd N k n K A B c) {i : Nat} (hi : i < n) : K i = 2 → ∃ j : Nat, j < k ∧ A i = nI j := (hb.1 i hi).2.2.2.1
theorem ab_th_eo {N k n : Nat} {K A B : Nat → Int32} {c : Nat → Nat} (hb : ab_bd N k n K A B c) {i : Nat} (hi : i < n) (h8 : K i = 8) {t : ty_T} (ht : ty_ok t) {e : ab_E} (he : ab_eo k e) : ab_eo k (ab_th K A c i t e) := by
  have h3 := ab_c8 hb h8
  have hc := ab_ch hb hi (j := 0) (by omega)
  have h := ab_nv_eo (t := ty_bool) (ab_var hb hc) ty_bool_ok he
  unfold ab_th
  split
  · next z => exact ab_nv_eo (ab_var hb (ab_ch hb hc (j := 0) (by rw [ab_c7 hb z]; decide))) ht h
  · exact h
theorem ab_th_le {K A : Nat → Int32} {c : Nat → Nat} {i : Nat} {t : ty_T} {e e' : ab_E} (h : ab_el e e') : ab_el (ab_th K A c i t e) (ab_th K A c i t e') := by
  have h := ab_nv_le (K := K) (A := A) (p := bs_ch c i 0) (ty_le_rfl ty_bool) h
  unfold ab_th
  split
  · exact ab_nv_le (ty_le_rfl t) h
  · exact h
theorem ab_pow_ok {j : Nat} (h : j < 8) : ty_ok (2 ^ j, 0, 0) := ⟨Nat.pow_lt_pow_right (by decide) h, Or.inl ⟨rfl, rfl⟩⟩
theorem ab_lit_ok {m : Nat} (h : m < 256) : ty_ok (m, 0, 0) := ⟨h, Or.inl ⟨rfl, rfl⟩⟩
theorem ab_arg_po {N k n : Nat} {K A B : Nat → Int32} {c : Nat → Nat} (hb : ab_bd N k n K A B c) {i j : Nat} (hi : i < n) (hj : j < c i) {r q : ty_T} (hq : ty_ok q) {e : ab_E} (he : ab_eo k e) {go : ab_E → ab_O}
    (hg : ∀ e, ab_eo k e → ab_po k (go e)) : ab_po k (ab_arg K A c i j r q e go) := by
  unfold ab_arg
  split
  · exact ab_none_po k
  · exact hg _ (ab_nv_eo (ab_var hb (ab_ch hb hi hj)) hq he)
theorem ab_arg_le {K A : Nat → Int32} {c : Nat → Nat} {i j : Nat} {r q r' q' : ty_T} (hr : ty_le r r') (hq : ty_le q q') {e e' : ab_E} (he : ab_el e e') {go go' : ab_E → ab_O}
    (hg : ∀ e e', ab_el e e' → ab_le (go e) (go' e')) : ab_le (ab_arg K A c i j r q e go) (ab_arg K A c i j r' q' e' go') := by
  unfold ab_arg
  split
  · exact ab_none_le _
  · next z =>
    rw [if_neg (ty_le_ne (ty_meet_le hr hq) z)]
    exact hg _ _ (ab_nv_le hq he)
theorem ab_ev_po {N k n : Nat} {K A B st ar : Nat → Int32} {c : Nat → Nat} {tb : Nat → ty_T} (hb : ab_bd N k n K A B c) (ht : ∀ q, ty_ok (tb q)) :
    ∀ d i e, i < n → ab_eo k e → ab_po k (ab_ev K A B st ar c tb d i e) := by
  intro d
  induction d with
  | zero => intro i e _ _; exact ab_none_po k
  | succ d ih =>
    intro i e hi he
    show ab_po k (ab_node K A B st ar c tb (ab_ev K A B st ar c tb d) i e)
    unfold ab_node
    split
    · exact ab_fin_po (ty_r_ok (Int.le_refl _)) he
    · split
      · next h1 =>
        obtain ⟨j, hj, ej⟩ := (hb.1 i hi).2.2.1 h1
        rw [ej, nI_clamp (by omega)]
        exact ab_fin_po (ab_pow_ok hj) he
      · split
        · refine ab_fin_po ?_ he
          split
          · exact he.1
          · exact he.2.1
        · split
          · next h8 =>
            have h3 := ab_c8 hb h8
            unfold ab_if
            exact ab_bind_po (ih _ _ (ab_ch hb hi (by omega)) he) fun x hx => ab_jn_po
              (ab_gd_po (ih _ _ (ab_ch hb hi (by omega)) (ab_th_eo hb hi h8 ty_ints_ok hx.2.2.1)))
              (ab_gd_po (ih _ _ (ab_ch hb hi (by omega)) (ab_th_eo hb hi h8 ty_ats_ok hx.2.2.1)))
          · split
            · next h9 =>
              unfold ab_call
              split
              · exact ab_gd_po (ab_fin_po (ht _) he)
              · split
                · next b1 =>
                  have hc := ab_cB1 hb h9 b1
                  exact ab_bind_po (ih _ _ (ab_ch hb hi (by omega)) he) fun x hx => ab_gd_po
                    (ab_arg_po hb hi (by omega) (ht _) hx.2.2.1 fun n hn => ab_fin_po (ht _) hn)
                · next b0 b1 =>
                  have hc := (ab_cB2 hb hi h9 b0 b1).1
                  exact ab_bind_po (ih _ _ (ab_ch hb hi (by omega)) he) fun x hx =>
                    ab_bind_po (ih _ _ (ab_ch hb hi (by omega)) hx.2.2.1) fun y hy => ab_gd_po
                      (ab_arg_po hb hi (by omega) (ht _) hy.2.2.1 fun n hn => ab_arg_po hb hi (by omega) (ht _) hn fun n hn => ab_fin_po (ht _) hn)
            · split
              · next h7 =>
                have hc := ab_c7 hb h7
                unfold ab_isi
                refine ab_bind_po (ih _ _ (ab_ch hb hi (by omega)) he) fun x hx => ab_fin_po (ab_lit_ok ?_) hx.2.2.1
                split <;> split <;> decide
              · next h0 h1 h2 h8 h9 h7 =>
                have hc := ab_c2 hb hi h0 h1 h2 h8 h9 h7
                unfold ab_op
                refine ab_bind_po (ih _ _ (ab_ch hb hi (by omega)) he) fun x hx => ab_bind_po (ih _ _ (ab_ch hb hi (by omega)) hx.2.2.1) fun y hy => ?_
                unfold ab_opf
                split
                · refine ab_fin_po (ab_lit_ok ?_) hy.2.2.1
                  split <;> decide
                · split
                  · exact ab_none_po k
                  · next z =>
                    exact ab_fin_po (ab_num_ok hx.1 hy.1 (fun e => z (Or.inl e)) (fun e => z (Or.inr e)))
                      (ab_nv_eo (ab_var hb (ab_ch hb hi (by omega))) ty_ints_ok (ab_nv_eo (ab_var hb (ab_ch hb hi (by omega))) ty_ints_ok hy.2.2.1))
/-- a larger table and larger parameter types: a larger outcome -/
theorem ab_ev_le {N k n : Nat} {K A B st ar : Nat → Int32} {c : Nat → Nat} {tb tb' : Nat → ty_T} (hb : ab_bd N k n K A B c) (ht' : ∀ q, ty_ok (tb' q)) (hl : ∀ q, ty_le (tb q) (tb' q)) :
    ∀ d i e e', i < n → ab_eo k e' → ab_el e e' → ab_le (ab_ev K A B st ar c tb d i e) (ab_ev K A B st ar c tb' d i e') := by
  intro d
  induction d with
  | zero => intro i e e' _ _ _; exact ab_none_le _
  | succ d ih =>
    intro i e e' hi he' h
    have po := ab_ev_po (st := st) (ar := ar) hb ht' d
    show ab_le (ab_node K A B st ar c tb (ab_ev K A B st ar c tb d) i e) (ab_node K A B st ar c tb' (ab_ev K A B st ar c tb' d) i e')
    unfold ab_node
    split
    · exact ab_fin_le (ty_le_rfl _) h
    · split
      · exact ab_fin_le (ty_le_rfl _) h
      · split
        · refine ab_fin_le ?_ h
          split
          · exact h.1
          · exact h.2
        · split
          · next h8 =>
            have h3 := ab_c8 hb h8
            unfold ab_if
            have c0 := ab_ch hb hi (j := 0) (by omega)
            have c1 := ab_ch hb hi (j := 1) (by omega)
            have c2 := ab_ch hb hi (j := 2) (by omega)
            refine ab_bind_le (ih _ _ _ c0 he' h) fun x y _ hy hxy => ?_
            have gy := (po _ _ c0 he' y hy).2.2.1
            exact ab_jn_le (ab_gd_le (hxy.1.1 1) (ih _ _ _ c1 (ab_th_eo hb hi h8 ty_ints_ok gy) (ab_th_le hxy.2)))
              (ab_gd_le (hxy.1.1 0) (ih _ _ _ c2 (ab_th_eo hb hi h8 ty_ats_ok gy) (ab_th_le hxy.2)))
          · split
            · next h9 =>
              unfold ab_call
              split
              · exact ab_gd_le id (ab_fin_le (hl _) h)
              · split
                · next b1 =>
                  have hc := ab_cB1 hb h9 b1
                  have c0 := ab_ch hb hi (j := 0) (by omega)
                  exact ab_bind_le (ih _ _ _ c0 he' h) fun x y _ hy hxy => ab_gd_le id
                    (ab_arg_le hxy.1 (hl _) hxy.2 fun n n' hn => ab_fin_le (hl _) hn)
                · next b0 b1 =>
                  have hc := (ab_cB2 hb hi h9 b0 b1).1
                  have c0 := ab_ch hb hi (j := 0) (by omega)
                  have c1 := ab_ch hb hi (j := 1) (by omega)
                  exact ab_bind_le (ih _ _ _ c0 he' h) fun x x' _ hx' hx =>
                    ab_bind_le (ih _ _ _ c1 (po _ _ c0 he' x' hx').2.2.1 hx.2) fun y y' _ hy' hy => ab_gd_le id
                      (ab_arg_le hx.1 (hl _) hy.2 fun n n' hn => ab_arg_le hy.1 (hl _) hn fun n n' hn => ab_fin_le (hl _) hn)
            · split
              · next h7 =>
                have hc := ab_c7 hb h7
                have c0 := ab_ch hb hi (j := 0) (by omega)
                unfold ab_isi
                refine ab_bind_le (ih _ _ _ c0 he' h) fun x y _ hy hxy => ab_fin_le (ty_le_m (ty_ms_lit ?_)) hxy.2
                by_cases p : x.1.1 = 0
                · rw [if_pos p]
                  by_cases q : x.1.2.1 = 0
                  · rw [if_pos q]; exact Nat.zero_and _
                  · rw [if_neg q, if_neg (show ¬ y.1.2.1 = 0 from fun z => q (by have := hxy.1.2.1; omega))]
                    split <;> decide
                · rw [if_neg p, if_neg (ty_ms_ne hxy.1.1 p)]
                  by_cases q : x.1.2.1 = 0
                  · rw [if_pos q]; split <;> decide
                  · rw [if_neg q, if_neg (show ¬ y.1.2.1 = 0 from fun z => q (by have := hxy.1.2.1; omega))]; decide
              · next h0 h1 h2 h8 h9 h7 =>
                have hc := ab_c2 hb hi h0 h1 h2 h8 h9 h7
                have c0 := ab_ch hb hi (j := 0) (by omega)
                have c1 := ab_ch hb hi (j := 1) (by omega)
                unfold ab_op
                refine ab_bind_le (ih _ _ _ c0 he' h) fun x x' _ hx' hx => ?_
                have gx := po _ _ c0 he' x' hx'
                refine ab_bind_le (ih _ _ _ c1 gx.2.2.1 hx.2) fun y y' _ hy' hy => ?_
                have gy := po _ _ c1 gx.2.2.1 y' hy'
                unfold ab_opf
                split
                · refine ab_fin_le (ty_le_m (ty_ms_lit ?_)) hy.2
                  by_cases p : ty_meet x.1 y.1 = ty_0
                  · rw [if_pos p]; split <;> decide
                  · rw [if_neg p, if_neg (ty_le_ne (ty_meet_le hx.1 hy.1) p)]; decide
                · split
                  · exact ab_none_le _
                  · next z =>
                    have l1 := hx.1.2.1
                    have l2 := hy.1.2.1
                    rw [if_neg (show ¬ (x'.1.2.1 = 0 ∨ y'.1.2.1 = 0) from fun q => z (by omega))]
                    exact ab_fin_le (ab_num_le gx.1 gy.1 hx.1 hy.1) (ab_nv_le (ty_le_rfl _) (ab_nv_le (ty_le_rfl _) hy.2))
/-- nothing comes of an empty parameter type -/
theorem ab_fin_dead {r : ty_T} {e : ab_E} (h : e.1 = ty_0 ∨ e.2 = ty_0) : ab_fin r e = none := by
  unfold ab_fin; rw [if_pos (Or.inr h)]
theorem ab_dead {K A B st ar : Nat → Int32} {c : Nat → Nat} {tb : Nat → ty_T} : ∀ d i e, (e.1 = ty_0 ∨ e.2 = ty_0) → ab_ev K A B st ar c tb d i e = none := by
  intro d
  induction d with
  | zero => intro i e _; rfl
  | succ d ih =>
    intro i e h
    show ab_node K A B st ar c tb (ab_ev K A B st ar c tb d) i e = none
    unfold ab_node ab_if ab_call ab_isi ab_op ab_cl0
    simp only [ih _ e h, ab_fin_dead h, Option.bind_none, ab_gd, ite_self]
-- the evaluation, kind by kind
section
variable {K A B st ar : Nat → Int32} {c : Nat → Nat} {tb : Nat → ty_T} {d i : Nat} {e : ab_E}
theorem ab_ev_lf (h : K i = 0 ∨ K i = 1 ∨ K i = 2) : ab_ev K A B st ar c tb (d + 1) i e = ab_leaf K A i e := by
  show ab_node K A B st ar c tb (ab_ev K A B st ar c tb d) i e = _
  unfold ab_node ab_leaf
  by_cases h0 : K i = 0
  · rw [if_pos h0, if_pos h0]
  · rw [if_neg h0, if_neg h0]
    by_cases h1 : K i = 1
    · rw [if_pos h1, if_pos h1]
    · rw [if_neg h1, if_neg h1, if_pos ((h.resolve_left h0).resolve_left h1)]
theorem ab_ev_if (h : K i = 8) : ab_ev K A B st ar c tb (d + 1) i e = ab_if K A c (ab_ev K A B st ar c tb d) i e := by
  show ab_node K A B st ar c tb (ab_ev K A B st ar c tb d) i e = _
  unfold ab_node
  rw [if_neg (by rw [h]; decide), if_neg (by rw [h]; decide), if_neg (by rw [h]; decide), if_pos h]
theorem ab_ev_call (h : K i = 9) : ab_ev K A B st ar c tb (d + 1) i e = ab_call K A B st ar c tb (ab_ev K A B st ar c tb d) i e := by
  show ab_node K A B st ar c tb (ab_ev K A B st ar c tb d) i e = _
  unfold ab_node
  rw [if_neg (by rw [h]; decide), if_neg (by rw [h]; decide), if_neg (by rw [h]; decide), if_neg (by rw [h]; decide), if_pos h]
theorem ab_ev_isi (h : K i = 7) : ab_ev K A B st ar c tb (d + 1) i e = ab_isi c (ab_ev K A B st ar c tb d) i e := by
  show ab_node K A B st ar c tb (ab_ev K A B st ar c tb d) i e = _
  unfold ab_node
  rw [if_neg (by rw [h]; decide), if_neg (by rw [h]; decide), if_neg (by rw [h]; decide), if_neg (by rw [h]; decide), if_neg (by rw [h]; decide), if_pos h]
theorem ab_ev_op (h : K i = 3 ∨ K i = 4 ∨ K i = 5 ∨ K i = 6) : ab_ev K A B st ar c tb (d + 1) i e = ab_op K A c (ab_ev K A B st ar c tb d) i e := by
  show ab_node K A B st ar c tb (ab_ev K A B st ar c tb d) i e = _
  unfold ab_node
  rcases h with h | h | h | h <;>
    rw [if_neg (by rw [h]; decide), if_neg (by rw [h]; decide), if_neg (by rw [h]; decide), if_neg (by rw [h]; decide), if_neg (by rw [h]; decide), if_neg (by rw [h]; decide)]
end
end
section
section
variable (N : Nat) (K A B : Nat → Nat → Int32) (st ar : Nat → Int32) (sz : Nat → Nat)
/-- how many children row i of slot f has -/
def sp_c (f i : Nat) : Nat := bs_cc (K f i) (B f i)
def sp_out (tb : Nat → ty_T) (f : Nat) : ab_O := ab_ev (K f) (A f) (B f) st ar (sp_c K B f) tb 128 (sz f - 1) (ty_any, ty_any)
end
def sp_fld (a : Int32) (j : Nat) (p : ab_O) : ty_T := match p with
  | none => ty_0
  | some x => if j = 2 then x.1 else if j = 0 then (if 1 ≤ a then x.2.1 else ty_0) else (if 2 ≤ a then x.2.2 else ty_0)
section
variable (N : Nat) (K A B : Nat → Nat → Int32) (st ar : Nat → Int32) (sz : Nat → Nat)
def sp_step (tb : Nat → ty_T) : Nat → ty_T := fun q =>
  if q < 3 * N ∧ st (q / 3) = 2 then sp_fld (ar (q / 3)) (q % 3) (sp_out K A B st ar sz tb (q / 3)) else ty_0
def sp_T : Nat → Nat → ty_T
  | 0 => fun _ => ty_0
  | r + 1 => sp_step N K A B st ar sz (sp_T r)
/-- the defined slots are well made -/
def sp_ok : Prop := ∀ f, f < N → st f = 2 → ∃ k : Nat, k ≤ 2 ∧ ar f = nI k ∧ 0 < sz f ∧ sz f ≤ 128 ∧ ab_bd N k (sz f) (K f) (A f) (B f) (sp_c K B f)
end
theorem sp_fld_ok {k : Nat} {a : Int32} {j : Nat} {p : ab_O} (h : ab_po k p) : ty_ok (sp_fld a j p) := by
  cases p with
  | none => exact ty_0_ok
  | some x =>
    obtain ⟨h0, _, h1, _⟩ := h x rfl
    show ty_ok (if j = 2 then x.1 else if j = 0 then (if 1 ≤ a then x.2.1 else ty_0) else (if 2 ≤ a then x.2.2 else ty_0))
    split
    · exact h0
    · split
      · split
        · exact h1.1
        · exact ty_0_ok
      · split
        · exact h1.2.1
        · exact ty_0_ok
theorem sp_fld_le {a : Int32} {j : Nat} {p q : ab_O} (h : ab_le p q) : ty_le (sp_fld a j p) (sp_fld a j q) := by
  cases p with
  | none => exact ty_0_le _
  | some x =>
    obtain ⟨y, rfl, h0, h1, h2⟩ := h x rfl
    show ty_le (if j = 2 then x.1 else if j = 0 then (if 1 ≤ a then x.2.1 else ty_0) else (if 2 ≤ a then x.2.2 else ty_0)) (if j = 2 then y.1 else if j = 0 then (if 1 ≤ a then y.2.1 else ty_0) else (if 2 ≤ a then y.2.2 else ty_0))
    split
    · exact h0
    · split
      · split
        · exact h1
        · exact ty_0_le _
      · split
        · exact h2
        · exact ty_0_le _
theorem sp_any_eo (k : Nat) : ab_eo k (ty_any, ty_any) := ⟨ty_any_ok, ty_any_ok, fun _ => rfl, fun _ => rfl⟩
section
variable {N : Nat} {K A B : Nat → Nat → Int32} {st ar : Nat → Int32} {sz : Nat → Nat}
theorem sp_step_ok {tb : Nat → ty_T} (hp : sp_ok N K A B st ar sz) (ht : ∀ q, ty_ok (tb q)) (q : Nat) : ty_ok (sp_step N K A B st ar sz tb q) := by
  unfold sp_step
  split
  · next z =>
    obtain ⟨k, _, _, h0, _, hb⟩ := hp (q / 3) (by omega) z.2
    exact sp_fld_ok (ab_ev_po hb ht _ _ _ (by omega) (sp_any_eo k))
  · exact ty_0_ok
theorem sp_step_le {tb tb' : Nat → ty_T} (hp : sp_ok N K A B st ar sz) (ht' : ∀ q, ty_ok (tb' q)) (hl : ∀ q, ty_le (tb q) (tb' q)) (q : Nat) : ty_le (sp_step N K A B st ar sz tb q) (sp_step N K A B st ar sz tb' q) := by
  unfold sp_step
  split
  · next z =>
    obtain ⟨k, _, _, h0, _, hb⟩ := hp (q / 3) (by omega) z.2
    exact sp_fld_le (ab_ev_le hb ht' hl _ _ _ _ (by omega) (sp_any_eo k) ⟨ty_le_rfl _, ty_le_rfl _⟩)
  · exact ty_0_le _
theorem sp_T_ok (hp : sp_ok N K A B st ar sz) : ∀ r q, ty_ok (sp_T N K A B st ar sz r q) := by
  intro r
  induction r with
  | zero => intro q; exact ty_0_ok
  | succ r ih => intro q; exact sp_step_ok hp ih q
theorem sp_T_le (hp : sp_ok N K A B st ar sz) : ∀ r q, ty_le (sp_T N K A B st ar sz r q) (sp_T N K A B st ar sz (r + 1) q) := by
  intro r
  induction r with
  | zero => intro q; exact ty_0_le _
  | succ r ih => intro q; exact sp_step_le hp (sp_T_ok hp (r + 1)) ih q
end
def sp_M (tb : Nat → ty_T) : Nat → Nat
  | 0 => 0
  | n + 1 => sp_M tb n + ty_mu (tb n)
theorem sp_M_s (tb : Nat → ty_T) (n : Nat) : sp_M tb (n + 1) = sp_M tb n + ty_mu (tb n) := rfl
theorem sp_M_44 {tb : Nat → ty_T} (h : ∀ q, ty_ok (tb q)) : ∀ n, sp_M tb n ≤ 44 * n := by
  intro n
  induction n with
  | zero => exact Nat.le_refl _
  | succ n ih => rw [sp_M_s]; have := ty_mu_44 (h n); omega
theorem sp_M_le {tb tb' : Nat → ty_T} (h : ∀ q, ty_le (tb q) (tb' q)) : ∀ n, sp_M tb n ≤ sp_M tb' n := by
  intro n
  induction n with
  | zero => exact Nat.le_refl _
  | succ n ih => rw [sp_M_s, sp_M_s]; have := ty_mu_le (h n); omega
theorem sp_M_eq {tb tb' : Nat → ty_T} (ho : ∀ q, ty_ok (tb q)) (ho' : ∀ q, ty_ok (tb' q)) (h : ∀ q, ty_le (tb q) (tb' q)) : ∀ n, sp_M tb' n ≤ sp_M tb n → ∀ q, q < n → tb' q = tb q := by
  intro n
  induction n with
  | zero => intro _ q hq; exact absurd hq (Nat.not_lt_zero q)
  | succ n ih =>
    intro e q hq
    rw [sp_M_s, sp_M_s] at e
    have a := sp_M_le h n
    have b := ty_mu_le (h n)
    by_cases z : q = n
    · subst z
      exact (ty_mu_eq (ho q) (ho' q) (h q) (by omega)).symm
    · exact ih (by omega) q (by omega)
section
variable {N : Nat} {K A B : Nat → Nat → Int32} {st ar : Nat → Int32} {sz : Nat → Nat}
theorem sp_grow (hp : sp_ok N K A B st ar sz) : ∀ r, (∀ j, j < r → ¬ ∀ q, q < 24 → sp_T N K A B st ar sz (j + 1) q = sp_T N K A B st ar sz j q) → r ≤ sp_M (sp_T N K A B st ar sz r) 24 := by
  intro r
  induction r with
  | zero => intro _; exact Nat.zero_le _
  | succ r ih =>
    intro h
    have a := ih (fun j hj => h j (by omega))
    have b := sp_M_le (sp_T_le hp r) 24
    by_cases z : sp_M (sp_T N K A B st ar sz (r + 1)) 24 ≤ sp_M (sp_T N K A B st ar sz r) 24
    · exact absurd (sp_M_eq (sp_T_ok hp r) (sp_T_ok hp (r + 1)) (sp_T_le hp r) 24 z) (h r (by omega))
    · omega
/-- the first round that changes nothing comes within 1,057 rounds -/
theorem sp_fix (hp : sp_ok N K A B st ar sz) : ∃ r, r ≤ 1056 ∧ (∀ q, q < 24 → sp_T N K A B st ar sz (r + 1) q = sp_T N K A B st ar sz r q)
    ∧ ∀ j, j < r → ¬ ∀ q, q < 24 → sp_T N K A B st ar sz (j + 1) q = sp_T N K A B st ar sz j q := by
  have ex : ∃ r, ∀ q, q < 24 → sp_T N K A B st ar sz (r + 1) q = sp_T N K A B st ar sz r q := by
    refine Classical.byContradiction fun h => ?_
    have := sp_grow hp 1057 (fun j _ z => h ⟨j, z⟩)
    have := sp_M_44 (sp_T_ok hp 1057) 24
    omega
  obtain ⟨r, h1, h2⟩ := pk_least _ ex
  refine ⟨r, ?_, h1, h2⟩
  have := sp_grow hp r h2
  have := sp_M_44 (sp_T_ok hp r) 24
  omega
theorem sp_T_hi (hN : N ≤ 8) (r : Nat) {q : Nat} (h : 24 ≤ q) : sp_T N K A B st ar sz r q = ty_0 := by
  cases r with
  | zero => rfl
  | succ r =>
    show sp_step N K A B st ar sz _ q = ty_0
    unfold sp_step
    exact if_neg fun z => by have := z.1; omega
end
end
section
/-- what a run of one subtree gives: (-1, value, calls made so far), or the run's end (1 fails, 2 limit) -/
abbrev rn_R : Type := Int32 × Int32 × Nat
def rn_bd (p : rn_R) (f : Int32 → Nat → rn_R) : rn_R := if p.1 = -1 then f p.2.1 p.2.2 else p
def rn_ok (v : Int32) : Prop := (-99 ≤ v.toInt ∧ v.toInt ≤ 99) ∨ (1000 ≤ v.toInt ∧ v.toInt ≤ 1007)
def rn_ar (k v w : Int32) : Int32 := if k = 3 then v + w else v - w
def rn_op (k v w : Int32) (m : Nat) : rn_R :=
  if k = 6 then (-1, (if v = w then 1001 else 1000), m)
  else if 1000 ≤ v then (1, 0, m)
  else if 1000 ≤ w then (1, 0, m)
  else if k = 5 then (-1, (if v < w then 1001 else 1000), m)
  else if rn_ar k v w < -99 then (1, 0, m)
  else if 99 < rn_ar k v w then (1, 0, m)
  else (-1, rn_ar k v w, m)
section
variable (K A B : Nat → Nat → Int32) (st ar : Nat → Int32) (sz : Nat → Nat)
def rn_call (ev : Nat → Nat → Nat → Int32 → Int32 → Nat → rn_R) (fr g i : Nat) (v w : Int32) (m : Nat) : rn_R :=
  if st (A g i).toNatClampNeg = 2 then
    if ar (A g i).toNatClampNeg = B g i then
      if 200 ≤ m then (2, 0, m)
      else if 15 ≤ fr then (2, 0, m)
      else ev (fr + 1) (A g i).toNatClampNeg (sz (A g i).toNatClampNeg - 1) v w (m + 1)
    else (1, 0, m)
  else (1, 0, m)
def rn_node (ev : Nat → Nat → Nat → Int32 → Int32 → Nat → rn_R) (fr g i : Nat) (x y : Int32) (m : Nat) : rn_R :=
  if K g i = 0 then (-1, A g i, m)
  else if K g i = 1 then (-1, 1000 + A g i, m)
  else if K g i = 2 then (-1, (if A g i = 0 then x else y), m)
  else if K g i = 8 then rn_bd (ev fr g (bs_ch (sp_c K B g) i 0) x y m) fun v m =>
    if v = 1001 then ev fr g (bs_ch (sp_c K B g) i 1) x y m else if v = 1000 then ev fr g (bs_ch (sp_c K B g) i 2) x y m else (1, 0, m)
  else if K g i = 9 then
    if B g i = 0 then rn_call A B st ar sz ev fr g i 0 0 m
    else if B g i = 1 then rn_bd (ev fr g (bs_ch (sp_c K B g) i 0) x y m) fun v m => rn_call A B st ar sz ev fr g i v 0 m
    else rn_bd (ev fr g (bs_ch (sp_c K B g) i 0) x y m) fun v m => rn_bd (ev fr g (bs_ch (sp_c K B g) i 1) x y m) fun w m => rn_call A B st ar sz ev fr g i v w m
  else if K g i = 7 then rn_bd (ev fr g (bs_ch (sp_c K B g) i 0) x y m) fun v m => (-1, (if v < 1000 then 1001 else 1000), m)
  else rn_bd (ev fr g (bs_ch (sp_c K B g) i 0) x y m) fun v m => rn_bd (ev fr g (bs_ch (sp_c K B g) i 1) x y m) fun w m => rn_op (K g i) v w m
def rn_ev : Nat → Nat → Nat → Nat → Int32 → Int32 → Nat → rn_R
  | 0 => fun _ _ _ _ _ m => (1, 0, m)
  | d + 1 => rn_node K A B st ar sz (rn_ev d)
end
/-- a good outcome after m calls -/
def rn_gd (m : Nat) (r : rn_R) : Prop := (r.1 = -1 ∨ r.1 = 1 ∨ r.1 = 2) ∧ (r.1 = -1 → rn_ok r.2.1) ∧ m ≤ r.2.2 ∧ r.2.2 ≤ 200
def rn_ag (a x y : Int32) : Prop := (1 ≤ a → rn_ok x) ∧ (2 ≤ a → rn_ok y)
theorem rn_gd_1 {m m' : Nat} (h : m' ≤ m) (hm : m ≤ 200) : rn_gd m' (1, 0, m) := ⟨Or.inr (Or.inl rfl), fun z => absurd (show (1 : Int32) = -1 from z) (by decide), h, hm⟩
theorem rn_gd_2 {m m' : Nat} (h : m' ≤ m) (hm : m ≤ 200) : rn_gd m' (2, 0, m) := ⟨Or.inr (Or.inr rfl), fun z => absurd (show (2 : Int32) = -1 from z) (by decide), h, hm⟩
theorem rn_gd_v {v : Int32} {m m' : Nat} (h : m' ≤ m) (hm : m ≤ 200) (hv : rn_ok v) : rn_gd m' (-1, v, m) := ⟨Or.inl rfl, fun _ => hv, h, hm⟩
theorem rn_gd_bd {m m' : Nat} {p : rn_R} {f : Int32 → Nat → rn_R} (hp : rn_gd m p) (h : m' ≤ m) (hf : ∀ v m1, m ≤ m1 → m1 ≤ 200 → rn_ok v → rn_gd m1 (f v m1)) : rn_gd m' (rn_bd p f) := by
  obtain ⟨h1, h2, h3, h4⟩ := hp
  unfold rn_bd
  split
  · next z =>
    obtain ⟨g1, g2, g3, g4⟩ := hf p.2.1 p.2.2 h3 h4 (h2 z)
    exact ⟨g1, g2, by omega, g4⟩
  · exact ⟨h1, h2, by omega, h4⟩
theorem rn_gd_m {m m' : Nat} {r : rn_R} (h : rn_gd m r) (hm : m' ≤ m) : rn_gd m' r := ⟨h.1, h.2.1, by have := h.2.2.1; omega, h.2.2.2⟩
theorem rn_ok_t : rn_ok 1001 := Or.inr (by decide)
theorem rn_ok_f : rn_ok 1000 := Or.inr (by decide)
theorem rn_ok_0 : rn_ok 0 := Or.inl (by decide)
theorem rn_ok_if {p : Prop} [Decidable p] : rn_ok (if p then 1001 else 1000) := by
  split
  · exact rn_ok_t
  · exact rn_ok_f
theorem rn_ok_at : ∀ j, j < 8 → rn_ok (1000 + nI j) := by
  have h : ∀ j, j < 8 → 1000 ≤ (1000 + nI j).toInt ∧ (1000 + nI j).toInt ≤ 1007 := by decide
  exact fun j hj => Or.inr (h j hj)
theorem rn_op_gd {k v w : Int32} {m : Nat} (hm : m ≤ 200) : rn_gd m (rn_op k v w m) := by
  unfold rn_op
  split
  · exact rn_gd_v (Nat.le_refl _) hm rn_ok_if
  · split
    · exact rn_gd_1 (Nat.le_refl _) hm
    · split
      · exact rn_gd_1 (Nat.le_refl _) hm
      · split
        · exact rn_gd_v (Nat.le_refl _) hm rn_ok_if
        · split
          · exact rn_gd_1 (Nat.le_refl _) hm
          · split
            · exact rn_gd_1 (Nat.le_refl _) hm
            · next h1 h2 =>
              refine rn_gd_v (Nat.le_refl _) hm (Or.inl ?_)
              rw [Int32.lt_iff_toInt_lt, show (-99 : Int32).toInt = -99 by decide] at h1
              rw [Int32.lt_iff_toInt_lt, show (99 : Int32).toInt = 99 by decide] at h2
              omega
section
variable {N : Nat} {K A B : Nat → Nat → Int32} {st ar : Nat → Int32} {sz : Nat → Nat}
theorem rn_ev_gd (hN : N ≤ 8) (hp : sp_ok N K A B st ar sz) : ∀ d fr g i x y m, g < N → st g = 2 → i < sz g → rn_ag (ar g) x y → m ≤ 200 → rn_gd m (rn_ev K A B st ar sz d fr g i x y m) := by
  intro d
  induction d with
  | zero => intro fr g i x y m _ _ _ _ hm; exact rn_gd_1 (Nat.le_refl _) hm
  | succ d ih =>
    intro fr g i x y m hg hs hi hxy hm
    obtain ⟨k, hk, ek, hz0, hz, hb⟩ := hp g hg hs
    have nd := hb.1 i hi
    show rn_gd m (rn_node K A B st ar sz (rn_ev K A B st ar sz d) fr g i x y m)
    have call : ∀ v w m1, K g i = 9 → m ≤ m1 → m1 ≤ 200 → rn_ok v → rn_ok w → rn_gd m1 (rn_call A B st ar sz (rn_ev K A B st ar sz d) fr g i v w m1) := by
      intro v w m1 h9 h1 h2 hv hw
      unfold rn_call
      split
      · next s2 =>
        split
        · split
          · exact rn_gd_2 (Nat.le_refl _) h2
          · split
            · exact rn_gd_2 (Nat.le_refl _) h2
            · obtain ⟨a, ha, ea⟩ := nd.2.2.2.2.1 h9
              rw [ea, nI_clamp (by omega)] at s2 ⊢
              obtain ⟨k', _, _, z0, _, _⟩ := hp a ha s2
              exact rn_gd_m (ih _ _ _ _ _ _ ha s2 (by omega) ⟨fun _ => hv, fun _ => hw⟩ (by omega)) (by omega)
        · exact rn_gd_1 (Nat.le_refl _) h2
      · exact rn_gd_1 (Nat.le_refl _) h2
    have ch : ∀ j m1, j < sp_c K B g i → m1 ≤ 200 → rn_gd m1 (rn_ev K A B st ar sz d fr g (bs_ch (sp_c K B g) i j) x y m1) :=
      fun j m1 hj h1 => ih _ _ _ _ _ _ hg hs (ab_ch hb hi hj) hxy h1
    unfold rn_node
    split
    · next h0 => exact rn_gd_v (Nat.le_refl _) hm (Or.inl (nd.2.1 h0))
    · split
      · next h1 =>
        obtain ⟨j, hj, ej⟩ := nd.2.2.1 h1
        rw [ej]
        exact rn_gd_v (Nat.le_refl _) hm (rn_ok_at j hj)
      · split
        · next h2 =>
          obtain ⟨j, hj, ej⟩ := nd.2.2.2.1 h2
          refine rn_gd_v (Nat.le_refl _) hm ?_
          have one : (1 : Int32) = nI 1 := by decide
          have two : (2 : Int32) = nI 2 := by decide
          split
          · exact hxy.1 (by rw [ek, one]; exact nI_le (by omega) (by omega))
          · next z =>
            have : j ≠ 0 := fun e0 => z (by rw [ej, e0]; rfl)
            exact hxy.2 (by rw [ek, two]; exact nI_le (by omega) (by omega))
        · split
          · next h8 =>
            have h3 := ab_c8 hb h8
            refine rn_gd_bd (ch 0 m (by omega) hm) (Nat.le_refl _) fun v m1 h1 h2 hv => ?_
            split
            · exact ch 1 m1 (by omega) h2
            · split
              · exact ch 2 m1 (by omega) h2
              · exact rn_gd_1 (Nat.le_refl _) h2
          · split
            · next h9 =>
              split
              · exact call 0 0 m h9 (Nat.le_refl _) hm rn_ok_0 rn_ok_0
              · split
                · next b1 =>
                  have hc := ab_cB1 hb h9 b1
                  exact rn_gd_bd (ch 0 m (by omega) hm) (Nat.le_refl _) fun v m1 h1 h2 hv => call v 0 m1 h9 h1 h2 hv rn_ok_0
                · next b0 b1 =>
                  have hc := (ab_cB2 hb hi h9 b0 b1).1
                  exact rn_gd_bd (ch 0 m (by omega) hm) (Nat.le_refl _) fun v m1 h1 h2 hv =>
                    rn_gd_bd (ch 1 m1 (by omega) h2) (Nat.le_refl _) fun w m2 h3 h4 hw => call v w m2 h9 (by omega) h4 hv hw
            · split
              · next h7 =>
                have hc := ab_c7 hb h7
                exact rn_gd_bd (ch 0 m (by omega) hm) (Nat.le_refl _) fun v m1 h1 h2 hv => rn_gd_v (Nat.le_refl _) h2 rn_ok_if
              · next h0 h1 h2 h8 h9 h7 =>
                have hc := ab_c2 hb hi h0 h1 h2 h8 h9 h7
                exact rn_gd_bd (ch 0 m (by omega) hm) (Nat.le_refl _) fun v m1 h1 h2 hv =>
                  rn_gd_bd (ch 1 m1 (by omega) h2) (Nat.le_refl _) fun w m2 h3 h4 hw => rn_op_gd h4
end
end
section
/-- a stack of the reference's abstract evaluation: array a, place j (0 node, 1 stage, 2 3 the parameters, 4 .. 10 what is kept) -/
def ya_z (Z : Nat → Nat → Int32) (a j : Nat) (v : Int32) : Nat → Nat → Int32 := fun a' => if a' = a then upd (Z a') j v else Z a'
theorem ya_zr (Z : Nat → Nat → Int32) (a j : Nat) (v : Int32) (a' j' : Nat) : ya_z Z a j v a' j' = if a' = a ∧ j' = j then v else Z a' j' := by
  unfold ya_z
  by_cases h : a' = a
  · rw [if_pos h]
    unfold upd
    by_cases g : j' = j
    · rw [if_pos g, if_pos ⟨h, g⟩]
    · rw [if_neg g, if_neg (fun z => g z.2)]
  · rw [if_neg h, if_neg (fun z => h z.1)]
def ya_push (Z : Nat → Nat → Int32) (p i : Nat) (e0 e1 : Int32) : Nat → Nat → Int32 := ya_z (ya_z (ya_z (ya_z Z 0 p (nI i)) 1 p 0) 2 p e0) 3 p e1
/-- what the walk goes on with, by an outcome -/
def ya_k (R : Int32 → Int32 → Int32 → Int32 → Prop) (o : ab_O) : Prop := match o with
  | none => ∀ r e0 e1, R 1 r e0 e1
  | some x => R 0 (ty_y x.1) (ty_y x.2.1) (ty_y x.2.2)
/-- the outcome that stands in the reference's four fields -/
def ya_at (b r e0 e1 : Int32) (o : ab_O) : Prop := match o with
  | none => b = 1
  | some x => b = 0 ∧ r = ty_y x.1 ∧ e0 = ty_y x.2.1 ∧ e1 = ty_y x.2.2
def ya_al (e : ab_E) : Prop := e.1 ≠ ty_0 ∧ e.2 ≠ ty_0
def ya_ag (p : Nat) (Z Z' : Nat → Nat → Int32) : Prop := ∀ a j, j < p → Z' a j = Z a j
theorem ya_ag_t {p p' : Nat} {Z Z' Z'' : Nat → Nat → Int32} (h : ya_ag p Z Z') (g : ya_ag p' Z' Z'') (hp : p ≤ p') : ya_ag p Z Z'' := fun a j hj => (g a j (by omega)).trans (h a j hj)
theorem ya_ag_z {p : Nat} {Z Z' : Nat → Nat → Int32} {a q : Nat} {v : Int32} (h : ya_ag p Z Z') (hq : p ≤ q) : ya_ag p Z (ya_z Z' a q v) := fun a' j hj => by
  rw [ya_zr, if_neg (fun z => by omega)]; exact h a' j hj
theorem ya_ag_r (p : Nat) (Z : Nat → Nat → Int32) : ya_ag p Z Z := fun _ _ _ => rfl
theorem ya_ag_p {p : Nat} {Z Z' : Nat → Nat → Int32} {q i : Nat} {e0 e1 : Int32} (h : ya_ag p Z Z') (hq : p ≤ q) : ya_ag p Z (ya_push Z' q i e0 e1) := ya_ag_z (ya_ag_z (ya_ag_z (ya_ag_z h hq) hq) hq) hq
theorem ya_push_0 (Z : Nat → Nat → Int32) (p i : Nat) (e0 e1 : Int32) : ya_push Z p i e0 e1 0 p = nI i := by
  unfold ya_push; rw [ya_zr, if_neg (by omega), ya_zr, if_neg (by omega), ya_zr, if_neg (by omega), ya_zr, if_pos ⟨rfl, rfl⟩]
theorem ya_push_1 (Z : Nat → Nat → Int32) (p i : Nat) (e0 e1 : Int32) : ya_push Z p i e0 e1 1 p = 0 := by
  unfold ya_push; rw [ya_zr, if_neg (by omega), ya_zr, if_neg (by omega), ya_zr, if_pos ⟨rfl, rfl⟩]
theorem ya_push_2 (Z : Nat → Nat → Int32) (p i : Nat) (e0 e1 : Int32) : ya_push Z p i e0 e1 2 p = e0 := by
  unfold ya_push; rw [ya_zr, if_neg (by omega), ya_zr, if_pos ⟨rfl, rfl⟩]
theorem ya_push_3 (Z : Nat → Nat → Int32) (p i : Nat) (e0 e1 : Int32) : ya_push Z p i e0 e1 3 p = e1 := by
  unfold ya_push; rw [ya_zr, if_pos ⟨rfl, rfl⟩]
theorem ya_push_l (Z : Nat → Nat → Int32) (p i : Nat) (e0 e1 : Int32) (a : Nat) {j : Nat} (h : j ≠ p) : ya_push Z p i e0 e1 a j = Z a j := by
  unfold ya_push; rw [ya_zr, if_neg (fun z => h z.2), ya_zr, if_neg (fun z => h z.2), ya_zr, if_neg (fun z => h z.2), ya_zr, if_neg (fun z => h z.2)]
theorem ya_z_s (Z : Nat → Nat → Int32) (a j : Nat) (v : Int32) : ya_z Z a j v a j = v := by rw [ya_zr, if_pos ⟨rfl, rfl⟩]
theorem ya_z_n (Z : Nat → Nat → Int32) (a j : Nat) (v : Int32) {a' j' : Nat} (h : a' ≠ a) : ya_z Z a j v a' j' = Z a' j' := by rw [ya_zr, if_neg (fun z => h z.1)]
theorem ya_i1 : (1 : Int32) = nI 1 := by decide
theorem ya_i2 : (2 : Int32) = nI 2 := by decide
theorem ya_i3 : (3 : Int32) = nI 3 := by decide
section
variable (N k n : Nat) (K A B st ar : Nat → Int32) (c : Nat → Nat) (tb : Nat → ty_T) (RA : Nat → Nat → (Nat → Nat → Int32) → Int32 → Int32 → Int32 → Int32 → Prop)
/-- the steps of the reference's abstract evaluation -/
def ya_R1 : Prop := ∀ (t p : Nat) (Z : Nat → Nat → Int32) (b r e0 e1 : Int32) (i : Nat) (e : ab_E), t < 4096 → p < 16 → i < n → Z 0 p = nI i → (K i = 0 ∨ K i = 1 ∨ K i = 2) → ab_eo k e → Z 2 p = ty_y e.1 → Z 3 p = ty_y e.2 →
  ya_k (RA (t + 1) p Z) (ab_leaf K A i e) → RA t (p + 1) Z b r e0 e1
def ya_R2 : Prop := ∀ (t p : Nat) (Z : Nat → Nat → Int32) (b r e0 e1 : Int32) (i : Nat), t < 4096 → p < 15 → i < n → Z 0 p = nI i → Z 1 p = 0 → 0 < c i →
  RA (t + 1) (p + 2) (ya_push (ya_z Z 1 p 1) (p + 1) (bs_ch c i 0) (Z 2 p) (Z 3 p)) b r e0 e1 → RA t (p + 1) Z b r e0 e1
def ya_R3 : Prop := ∀ (t p : Nat) (Z : Nat → Nat → Int32) (r e0 e1 : Int32) (i s : Nat), t < 4096 → p < 16 → i < n → Z 0 p = nI i → Z 1 p = nI s → 0 < s → s < 3 → 0 < c i → (K i = 8 → s = 1) →
  RA (t + 1) p Z 1 r e0 e1 → RA t (p + 1) Z 1 r e0 e1
def ya_R4 : Prop := ∀ (t p : Nat) (Z : Nat → Nat → Int32) (r e0 e1 : Int32) (i : Nat), t < 4096 → p < 15 → i < n → Z 0 p = nI i → Z 1 p = 1 → c i = 2 →
  RA (t + 1) (p + 2) (ya_push (ya_z (ya_z Z 4 p r) 1 p 2) (p + 1) (bs_ch c i 1) e0 e1) 0 r e0 e1 → RA t (p + 1) Z 0 r e0 e1
def ya_R5 : Prop := ∀ (t p : Nat) (Z : Nat → Nat → Int32) (i : Nat) (x : ty_T) (e : ab_E), t < 4096 → p < 16 → i < n → Z 0 p = nI i → Z 1 p = 1 → K i = 7 → ty_ok x → ab_eo k e →
  ya_k (RA (t + 1) p Z) (ab_fin ((if x.1 = 0 then 0 else 1) + (if x.2.1 = 0 then 0 else 2), 0, 0) e) → RA t (p + 1) Z 0 (ty_y x) (ty_y e.1) (ty_y e.2)
def ya_R6 : Prop := ∀ (t p : Nat) (Z : Nat → Nat → Int32) (i : Nat) (x y : ty_T) (e : ab_E), t < 4096 → p < 16 → i < n → Z 0 p = nI i → Z 1 p = 2 → (K i = 3 ∨ K i = 4 ∨ K i = 5 ∨ K i = 6) → Z 4 p = ty_y x → ty_ok x → ty_ok y → ab_eo k e →
  ya_k (RA (t + 1) p Z) (ab_opf K A c i x y e) → RA t (p + 1) Z 0 (ty_y y) (ty_y e.1) (ty_y e.2)
def ya_zi (Z : Nat → Nat → Int32) (p : Nat) (x : ty_T) (u : ab_E) : Nat → Nat → Int32 := ya_z (ya_z (ya_z (ya_z Z 4 p (nI x.1)) 5 p (ty_y u.1)) 6 p (ty_y u.2)) 1 p 2
def ya_R7 : Prop := ∀ (t p : Nat) (Z : Nat → Nat → Int32) (i : Nat) (x : ty_T) (e : ab_E), t < 4096 → p < 15 → i < n → Z 0 p = nI i → Z 1 p = 1 → K i = 8 → ty_ok x → ab_eo k e →
  (x.1.testBit 1 = true → ya_al (ab_th K A c i ty_ints e) → RA (t + 1) (p + 2) (ya_push (ya_zi Z p x (ab_th K A c i ty_ats e)) (p + 1) (bs_ch c i 1) (ty_y (ab_th K A c i ty_ints e).1) (ty_y (ab_th K A c i ty_ints e).2)) 0 (ty_y x) (ty_y e.1) (ty_y e.2)) →
  (¬ (x.1.testBit 1 = true ∧ ya_al (ab_th K A c i ty_ints e)) → RA (t + 1) (p + 1) (ya_zi Z p x (ab_th K A c i ty_ats e)) 1 (ty_y x) (ty_y e.1) (ty_y e.2)) →
  RA t (p + 1) Z 0 (ty_y x) (ty_y e.1) (ty_y e.2)
def ya_zj (Z : Nat → Nat → Int32) (p : Nat) (b r e0 e1 : Int32) : Nat → Nat → Int32 := ya_z (ya_z (ya_z (ya_z (ya_z Z 7 p b) 8 p r) 9 p e0) 10 p e1) 1 p 3
def ya_R8 : Prop := ∀ (t p : Nat) (Z : Nat → Nat → Int32) (b r e0 e1 : Int32) (i m : Nat) (u : ab_E), t < 4096 → p < 15 → i < n → Z 0 p = nI i → Z 1 p = 2 → K i = 8 → m < 256 → Z 4 p = nI m → Z 5 p = ty_y u.1 → Z 6 p = ty_y u.2 → ab_eo k u →
  (m.testBit 0 = true → ya_al u → RA (t + 1) (p + 2) (ya_push (ya_zj Z p b r e0 e1) (p + 1) (bs_ch c i 2) (ty_y u.1) (ty_y u.2)) b r e0 e1) →
  (¬ (m.testBit 0 = true ∧ ya_al u) → RA (t + 1) (p + 1) (ya_zj Z p b r e0 e1) 1 r e0 e1) →
  RA t (p + 1) Z b r e0 e1
def ya_R9 : Prop := ∀ (t p : Nat) (Z : Nat → Nat → Int32) (b r e0 e1 : Int32) (i : Nat) (o o' : ab_O), t < 4096 → p < 16 → i < n → Z 0 p = nI i → Z 1 p = 3 → K i = 8 → ab_po k o → ab_po k o' → ya_at (Z 7 p) (Z 8 p) (Z 9 p) (Z 10 p) o → ya_at b r e0 e1 o' →
  ya_k (RA (t + 1) p Z) (ab_jn o o') → RA t (p + 1) Z b r e0 e1
def ya_R10 : Prop := ∀ (t p : Nat) (Z : Nat → Nat → Int32) (b r e0 e1 : Int32) (i : Nat) (e : ab_E), t < 4096 → p < 16 → i < n → Z 0 p = nI i → Z 1 p = 0 → K i = 9 → B i = 0 → ab_eo k e → Z 2 p = ty_y e.1 → Z 3 p = ty_y e.2 →
  ya_k (RA (t + 1) p Z) (ab_cl0 A B st ar tb i e) → RA t (p + 1) Z b r e0 e1
def ya_R11 : Prop := ∀ (t p : Nat) (Z : Nat → Nat → Int32) (i : Nat) (x : ty_T) (e : ab_E), t < 4096 → p < 16 → i < n → Z 0 p = nI i → Z 1 p = 1 → K i = 9 → B i = 1 → ty_ok x → ab_eo k e →
  ya_k (RA (t + 1) p Z) (ab_cl1 K A B st ar c tb i x e) → RA t (p + 1) Z 0 (ty_y x) (ty_y e.1) (ty_y e.2)
def ya_R12 : Prop := ∀ (t p : Nat) (Z : Nat → Nat → Int32) (i : Nat) (x y : ty_T) (e : ab_E), t < 4096 → p < 16 → i < n → Z 0 p = nI i → Z 1 p = 2 → K i = 9 → B i = 2 → Z 4 p = ty_y x → ty_ok x → ty_ok y → ab_eo k e →
  ya_k (RA (t + 1) p Z) (ab_cl2 K A B st ar c tb i x y e) → RA t (p + 1) Z 0 (ty_y y) (ty_y e.1) (ty_y e.2)
end
end
section
section
variable {N k n : Nat} {K A B st ar : Nat → Int32} {c D : Nat → Nat} {tb : Nat → ty_T} {RA : Nat → Nat → (Nat → Nat → Int32) → Int32 → Int32 → Int32 → Int32 → Prop}
/-- the evaluation of the subtree at the top of the stack -/
def ya_S (k n : Nat) (K A B st ar : Nat → Int32) (c D : Nat → Nat) (tb : Nat → ty_T) (RA : Nat → Nat → (Nat → Nat → Int32) → Int32 → Int32 → Int32 → Int32 → Prop) (d : Nat) : Prop :=
  ∀ (i : Nat) (e : ab_E) (t p : Nat) (Z : Nat → Nat → Int32) (b r e0 e1 : Int32), i < d → i < n → ab_eo k e → p + D i ≤ 15 → Z 0 p = nI i → Z 1 p = 0 → Z 2 p = ty_y e.1 → Z 3 p = ty_y e.2 → t + 4 * (i + 1 - bs_ss c i) ≤ 4096 →
    (∀ (t' : Nat) (Z' : Nat → Nat → Int32), t' ≤ t + 4 * (i + 1 - bs_ss c i) → ya_ag p Z Z' → ya_k (RA t' p Z') (ab_ev K A B st ar c tb d i e)) → RA t (p + 1) Z b r e0 e1
theorem ya_s_lf (R1 : ya_R1 k n K A RA) {d i : Nat} {e : ab_E} {t p : Nat} {Z : Nat → Nat → Int32} {b r e0 e1 : Int32} (hi : i < n) (he : ab_eo k e) (hp : p + D i ≤ 15) (h0 : Z 0 p = nI i) (h2 : Z 2 p = ty_y e.1) (h3 : Z 3 p = ty_y e.2)
    (ht : t + 4 * (i + 1 - bs_ss c i) ≤ 4096) (hk : ∀ (t' : Nat) (Z' : Nat → Nat → Int32), t' ≤ t + 4 * (i + 1 - bs_ss c i) → ya_ag p Z Z' → ya_k (RA t' p Z') (ab_ev K A B st ar c tb (d + 1) i e)) (h : K i = 0 ∨ K i = 1 ∨ K i = 2) : RA t (p + 1) Z b r e0 e1 := by
  have s := bs_ss_le c i
  refine R1 t p Z b r e0 e1 i e (by omega) (by omega) hi h0 h he h2 h3 ?_
  have := hk (t + 1) Z (by omega) (ya_ag_r p Z)
  rw [ab_ev_lf h] at this
  exact this
theorem ya_s_op (hb : ab_bd N k n K A B c) (hD : ∀ i, i < n → ∀ j, j < c i → D (bs_ch c i j) < D i) (hT : ∀ q, ty_ok (tb q)) (R2 : ya_R2 n c RA) (R3 : ya_R3 n K c RA) (R4 : ya_R4 n c RA) (R6 : ya_R6 k n K A c RA) {d : Nat} (ih : ya_S k n K A B st ar c D tb RA d)
    {i : Nat} {e : ab_E} {t p : Nat} {Z : Nat → Nat → Int32} {b r e0 e1 : Int32} (hd : i < d + 1) (hi : i < n) (he : ab_eo k e) (hp : p + D i ≤ 15) (h0 : Z 0 p = nI i) (h1 : Z 1 p = 0) (h2 : Z 2 p = ty_y e.1) (h3 : Z 3 p = ty_y e.2)
    (ht : t + 4 * (i + 1 - bs_ss c i) ≤ 4096) (hk : ∀ (t' : Nat) (Z' : Nat → Nat → Int32), t' ≤ t + 4 * (i + 1 - bs_ss c i) → ya_ag p Z Z' → ya_k (RA t' p Z') (ab_ev K A B st ar c tb (d + 1) i e)) (h : K i = 3 ∨ K i = 4 ∨ K i = 5 ∨ K i = 6) (hc : c i = 2) : RA t (p + 1) Z b r e0 e1 := by
  have l0 := bs_ch_lt hb.2.2 hi (k := 0) (by omega)
  have l1 := bs_ch_lt hb.2.2 hi (k := 1) (by omega)
  have q0 := bs_ch_0 hb.2.2 hi (by omega)
  have q1 := bs_ch_n hb.2.2 hi (k := 0) (by omega)
  have q2 := bs_ch_l hb.2.2 hi (k := 1) (by omega)
  have s0 := bs_ss_le c (bs_ch c i 0)
  have s1 := bs_ss_le c (bs_ch c i 1)
  have d0 := hD i hi 0 (by omega)
  have d1 := hD i hi 1 (by omega)
  have n8 : ¬ K i = 8 := by rcases h with h | h | h | h <;> rw [h] <;> decide
  rw [Nat.zero_add] at q1
  refine R2 t p Z b r e0 e1 i (by omega) (by omega) hi h0 h1 (by omega) ?_
  refine ih (bs_ch c i 0) e (t + 1) (p + 1) _ b r e0 e1 (by omega) (by omega) he (by omega) (ya_push_0 ..) (ya_push_1 ..) ((ya_push_2 ..).trans h2) ((ya_push_3 ..).trans h3) (by omega) ?_
  intro t1 Z1 ht1 hg1
  have z0 : Z1 0 p = nI i := (hg1 0 p (by omega)).trans (by rw [ya_push_l _ _ _ _ _ _ (by omega), ya_z_n _ _ _ _ (by decide)]; exact h0)
  have z1 : Z1 1 p = 1 := (hg1 1 p (by omega)).trans (by rw [ya_push_l _ _ _ _ _ _ (by omega), ya_z_s])
  have ag1 : ya_ag p Z Z1 := ya_ag_t (ya_ag_p (ya_ag_z (ya_ag_r p Z) (Nat.le_refl _)) (by omega)) hg1 (by omega)
  cases ho : ab_ev K A B st ar c tb d (bs_ch c i 0) e with
  | none =>
    intro r e0 e1
    refine R3 t1 p Z1 r e0 e1 i 1 (by omega) (by omega) hi z0 (z1.trans ya_i1) (by decide) (by decide) (by omega) (fun z => absurd z n8) ?_
    have := hk (t1 + 1) Z1 (by omega) ag1
    rw [ab_ev_op h, ab_op, ho] at this
    exact this r e0 e1
  | some x =>
    have gx := ab_ev_po hb hT d _ _ (show bs_ch c i 0 < n by omega) he x ho
    refine R4 t1 p Z1 _ _ _ i (by omega) (by omega) hi z0 z1 hc ?_
    refine ih (bs_ch c i 1) x.2 (t1 + 1) (p + 1) _ _ _ _ _ (by omega) (by omega) gx.2.2.1 (by omega) (ya_push_0 ..) (ya_push_1 ..) (ya_push_2 ..) (ya_push_3 ..) (by omega) ?_
    intro t2 Z2 ht2 hg2
    have y0 : Z2 0 p = nI i := (hg2 0 p (by omega)).trans (by rw [ya_push_l _ _ _ _ _ _ (by omega), ya_z_n _ _ _ _ (by decide), ya_z_n _ _ _ _ (by decide)]; exact z0)
    have y1 : Z2 1 p = 2 := (hg2 1 p (by omega)).trans (by rw [ya_push_l _ _ _ _ _ _ (by omega), ya_z_s])
    have y4 : Z2 4 p = ty_y x.1 := (hg2 4 p (by omega)).trans (by rw [ya_push_l _ _ _ _ _ _ (by omega), ya_z_n _ _ _ _ (by decide), ya_z_s])
    have ag2 : ya_ag p Z Z2 := ya_ag_t (ya_ag_p (ya_ag_z (ya_ag_z ag1 (Nat.le_refl _)) (Nat.le_refl _)) (by omega)) hg2 (by omega)
    cases hy : ab_ev K A B st ar c tb d (bs_ch c i 1) x.2 with
    | none =>
      intro r e0 e1
      refine R3 t2 p Z2 r e0 e1 i 2 (by omega) (by omega) hi y0 (y1.trans ya_i2) (by decide) (by decide) (by omega) (fun z => absurd z n8) ?_
      have := hk (t2 + 1) Z2 (by omega) ag2
      rw [ab_ev_op h, ab_op, ho, Option.bind_some, hy] at this
      exact this r e0 e1
    | some y =>
      have gy := ab_ev_po hb hT d _ _ (show bs_ch c i 1 < n by omega) gx.2.2.1 y hy
      refine R6 t2 p Z2 i x.1 y.1 y.2 (by omega) (by omega) hi y0 y1 h y4 gx.1 gy.1 gy.2.2.1 ?_
      have := hk (t2 + 1) Z2 (by omega) ag2
      rw [ab_ev_op h, ab_op, ho, Option.bind_some, hy, Option.bind_some] at this
      exact this
theorem ya_s_isi (hb : ab_bd N k n K A B c) (hD : ∀ i, i < n → ∀ j, j < c i → D (bs_ch c i j) < D i) (hT : ∀ q, ty_ok (tb q)) (R2 : ya_R2 n c RA) (R3 : ya_R3 n K c RA) (R5 : ya_R5 k n K RA) {d : Nat} (ih : ya_S k n K A B st ar c D tb RA d)
    {i : Nat} {e : ab_E} {t p : Nat} {Z : Nat → Nat → Int32} {b r e0 e1 : Int32} (hd : i < d + 1) (hi : i < n) (he : ab_eo k e) (hp : p + D i ≤ 15) (h0 : Z 0 p = nI i) (h1 : Z 1 p = 0) (h2 : Z 2 p = ty_y e.1) (h3 : Z 3 p = ty_y e.2)
    (ht : t + 4 * (i + 1 - bs_ss c i) ≤ 4096) (hk : ∀ (t' : Nat) (Z' : Nat → Nat → Int32), t' ≤ t + 4 * (i + 1 - bs_ss c i) → ya_ag p Z Z' → ya_k (RA t' p Z') (ab_ev K A B st ar c tb (d + 1) i e)) (h : K i = 7) : RA t (p + 1) Z b r e0 e1 := by
  have hc := ab_c7 hb h
  have l0 := bs_ch_lt hb.2.2 hi (k := 0) (by omega)
  have q0 := bs_ch_0 hb.2.2 hi (by omega)
  have q2 := bs_ch_l hb.2.2 hi (k := 0) (by omega)
  have s0 := bs_ss_le c (bs_ch c i 0)
  have d0 := hD i hi 0 (by omega)
  have n8 : ¬ K i = 8 := by rw [h]; decide
  refine R2 t p Z b r e0 e1 i (by omega) (by omega) hi h0 h1 (by omega) ?_
  refine ih (bs_ch c i 0) e (t + 1) (p + 1) _ b r e0 e1 (by omega) (by omega) he (by omega) (ya_push_0 ..) (ya_push_1 ..) ((ya_push_2 ..).trans h2) ((ya_push_3 ..).trans h3) (by omega) ?_
  intro t1 Z1 ht1 hg1
  have z0 : Z1 0 p = nI i := (hg1 0 p (by omega)).trans (by rw [ya_push_l _ _ _ _ _ _ (by omega), ya_z_n _ _ _ _ (by decide)]; exact h0)
  have z1 : Z1 1 p = 1 := (hg1 1 p (by omega)).trans (by rw [ya_push_l _ _ _ _ _ _ (by omega), ya_z_s])
  have ag1 : ya_ag p Z Z1 := ya_ag_t (ya_ag_p (ya_ag_z (ya_ag_r p Z) (Nat.le_refl _)) (by omega)) hg1 (by omega)
  cases ho : ab_ev K A B st ar c tb d (bs_ch c i 0) e with
  | none =>
    intro r e0 e1
    refine R3 t1 p Z1 r e0 e1 i 1 (by omega) (by omega) hi z0 (z1.trans ya_i1) (by decide) (by decide) (by omega) (fun z => absurd z n8) ?_
    have := hk (t1 + 1) Z1 (by omega) ag1
    rw [ab_ev_isi h, ab_isi, ho] at this
    exact this r e0 e1
  | some x =>
    have gx := ab_ev_po hb hT d _ _ (show bs_ch c i 0 < n by omega) he x ho
    refine R5 t1 p Z1 i x.1 x.2 (by omega) (by omega) hi z0 z1 h gx.1 gx.2.2.1 ?_
    have := hk (t1 + 1) Z1 (by omega) ag1
    rw [ab_ev_isi h, ab_isi, ho, Option.bind_some] at this
    exact this
theorem ya_s_call (hb : ab_bd N k n K A B c) (hD : ∀ i, i < n → ∀ j, j < c i → D (bs_ch c i j) < D i) (hT : ∀ q, ty_ok (tb q)) (R2 : ya_R2 n c RA) (R3 : ya_R3 n K c RA) (R4 : ya_R4 n c RA)
    (R10 : ya_R10 k n K A B st ar tb RA) (R11 : ya_R11 k n K A B st ar c tb RA) (R12 : ya_R12 k n K A B st ar c tb RA) {d : Nat} (ih : ya_S k n K A B st ar c D tb RA d)
    {i : Nat} {e : ab_E} {t p : Nat} {Z : Nat → Nat → Int32} {b r e0 e1 : Int32} (hd : i < d + 1) (hi : i < n) (he : ab_eo k e) (hp : p + D i ≤ 15) (h0 : Z 0 p = nI i) (h1 : Z 1 p = 0) (h2 : Z 2 p = ty_y e.1) (h3 : Z 3 p = ty_y e.2)
    (ht : t + 4 * (i + 1 - bs_ss c i) ≤ 4096) (hk : ∀ (t' : Nat) (Z' : Nat → Nat → Int32), t' ≤ t + 4 * (i + 1 - bs_ss c i) → ya_ag p Z Z' → ya_k (RA t' p Z') (ab_ev K A B st ar c tb (d + 1) i e)) (h : K i = 9) : RA t (p + 1) Z b r e0 e1 := by
  have n8 : ¬ K i = 8 := by rw [h]; decide
  by_cases b0 : B i = 0
  · have s := bs_ss_le c i
    refine R10 t p Z b r e0 e1 i e (by omega) (by omega) hi h0 h1 h b0 he h2 h3 ?_
    have := hk (t + 1) Z (by omega) (ya_ag_r p Z)
    rw [ab_ev_call h, ab_call, if_pos b0] at this
    exact this
  · have hc1 : 0 < c i := by
      rcases ab_B hb hi with z | z | z
      · exact absurd z b0
      · rw [ab_c9 hb h, z]; decide
      · rw [ab_c9 hb h, z]; decide
    have l0 := bs_ch_lt hb.2.2 hi (k := 0) (by omega)
    have q0 := bs_ch_0 hb.2.2 hi (by omega)
    have s0 := bs_ss_le c (bs_ch c i 0)
    have d0 := hD i hi 0 (by omega)
    refine R2 t p Z b r e0 e1 i (by omega) (by omega) hi h0 h1 (by omega) ?_
    refine ih (bs_ch c i 0) e (t + 1) (p + 1) _ b r e0 e1 (by omega) (by omega) he (by omega) (ya_push_0 ..) (ya_push_1 ..) ((ya_push_2 ..).trans h2) ((ya_push_3 ..).trans h3) (by omega) ?_
    intro t1 Z1 ht1 hg1
    have z0 : Z1 0 p = nI i := (hg1 0 p (by omega)).trans (by rw [ya_push_l _ _ _ _ _ _ (by omega), ya_z_n _ _ _ _ (by decide)]; exact h0)
    have z1 : Z1 1 p = 1 := (hg1 1 p (by omega)).trans (by rw [ya_push_l _ _ _ _ _ _ (by omega), ya_z_s])
    have ag1 : ya_ag p Z Z1 := ya_ag_t (ya_ag_p (ya_ag_z (ya_ag_r p Z) (Nat.le_refl _)) (by omega)) hg1 (by omega)
    cases ho : ab_ev K A B st ar c tb d (bs_ch c i 0) e with
    | none =>
      intro r e0 e1
      refine R3 t1 p Z1 r e0 e1 i 1 (by omega) (by omega) hi z0 (z1.trans ya_i1) (by decide) (by decide) (by omega) (fun z => absurd z n8) ?_
      have := hk (t1 + 1) Z1 (by omega) ag1
      rw [ab_ev_call h, ab_call, if_neg b0, ho] at this
      simp only [Option.bind_none, ite_self] at this
      exact this r e0 e1
    | some x =>
      have gx := ab_ev_po hb hT d _ _ (show bs_ch c i 0 < n by omega) he x ho
      by_cases b1 : B i = 1
      · have hc := ab_cB1 hb h b1
        refine R11 t1 p Z1 i x.1 x.2 (by omega) (by omega) hi z0 z1 h b1 gx.1 gx.2.2.1 ?_
        have := hk (t1 + 1) Z1 (by omega) ag1
        rw [ab_ev_call h, ab_call, if_neg b0, if_pos b1, ho, Option.bind_some] at this
        exact this
      · have hc := ab_cB2 hb hi h b0 b1
        have l1 := bs_ch_lt hb.2.2 hi (k := 1) (by omega)
        have q1 := bs_ch_n hb.2.2 hi (k := 0) (by omega)
        have q2 := bs_ch_l hb.2.2 hi (k := 1) (by omega)
        have s1 := bs_ss_le c (bs_ch c i 1)
        have d1 := hD i hi 1 (by omega)
        rw [Nat.zero_add] at q1
        refine R4 t1 p Z1 _ _ _ i (by omega) (by omega) hi z0 z1 hc.1 ?_
        refine ih (bs_ch c i 1) x.2 (t1 + 1) (p + 1) _ _ _ _ _ (by omega) (by omega) gx.2.2.1 (by omega) (ya_push_0 ..) (ya_push_1 ..) (ya_push_2 ..) (ya_push_3 ..) (by omega) ?_
        intro t2 Z2 ht2 hg2
        have y0 : Z2 0 p = nI i := (hg2 0 p (by omega)).trans (by rw [ya_push_l _ _ _ _ _ _ (by omega), ya_z_n _ _ _ _ (by decide), ya_z_n _ _ _ _ (by decide)]; exact z0)
        have y1 : Z2 1 p = 2 := (hg2 1 p (by omega)).trans (by rw [ya_push_l _ _ _ _ _ _ (by omega), ya_z_s])
        have y4 : Z2 4 p = ty_y x.1 := (hg2 4 p (by omega)).trans (by rw [ya_push_l _ _ _ _ _ _ (by omega), ya_z_n _ _ _ _ (by decide), ya_z_s])
        have ag2 : ya_ag p Z Z2 := ya_ag_t (ya_ag_p (ya_ag_z (ya_ag_z ag1 (Nat.le_refl _)) (Nat.le_refl _)) (by omega)) hg2 (by omega)
        cases hy : ab_ev K A B st ar c tb d (bs_ch c i 1) x.2 with
        | none =>
          intro r e0 e1
          refine R3 t2 p Z2 r e0 e1 i 2 (by omega) (by omega) hi y0 (y1.trans ya_i2) (by decide) (by decide) (by omega) (fun z => absurd z n8) ?_
          have := hk (t2 + 1) Z2 (by omega) ag2
          rw [ab_ev_call h, ab_call, if_neg b0, if_neg b1, ho, Option.bind_some, hy] at this
          exact this r e0 e1
        | some y =>
          have gy := ab_ev_po hb hT d _ _ (show bs_ch c i 1 < n by omega) gx.2.2.1 y hy
          refine R12 t2 p Z2 i x.1 y.1 y.2 (by omega) (by omega) hi y0 y1 h hc.2 y4 gx.1 gy.1 gy.2.2.1 ?_
          have := hk (t2 + 1) Z2 (by omega) ag2
          rw [ab_ev_call h, ab_call, if_neg b0, if_neg b1, ho, Option.bind_some, hy, Option.bind_some] at this
          exact this
/-- the last two stages of a branching row, from the first branch's outcome on -/
theorem ya_s_if2 (hb : ab_bd N k n K A B c) (hD : ∀ i, i < n → ∀ j, j < c i → D (bs_ch c i j) < D i) (hT : ∀ q, ty_ok (tb q)) (R8 : ya_R8 k n K c RA) (R9 : ya_R9 k n K RA) {d : Nat} (ih : ya_S k n K A B st ar c D tb RA d)
    {i m : Nat} {u : ab_E} {t p : Nat} {Z : Nat → Nat → Int32} {b r e0 e1 : Int32} {o : ab_O} (hd : i < d + 1) (hi : i < n) (hu : ab_eo k u) (hm : m < 256) (hp : p + D i ≤ 15) (h0 : Z 0 p = nI i) (h1 : Z 1 p = 2) (h4 : Z 4 p = nI m) (h5 : Z 5 p = ty_y u.1) (h6 : Z 6 p = ty_y u.2)
    (h : K i = 8) (ho : ab_po k o) (ha : ya_at b r e0 e1 o) (ht : t + 2 + 4 * (i - bs_ss c (bs_ch c i 2)) ≤ 4096)
    (hk : ∀ (t' : Nat) (Z' : Nat → Nat → Int32), t' ≤ t + 2 + 4 * (i - bs_ss c (bs_ch c i 2)) → ya_ag p Z Z' → ya_k (RA t' p Z') (ab_jn o (ab_gd (m.testBit 0) (ab_ev K A B st ar c tb d (bs_ch c i 2) u)))) : RA t (p + 1) Z b r e0 e1 := by
  have hc := ab_c8 hb h
  have l2 := bs_ch_lt hb.2.2 hi (k := 2) (by omega)
  have q2 := bs_ch_l hb.2.2 hi (k := 2) (by omega)
  have s2 := bs_ss_le c (bs_ch c i 2)
  have d2 := hD i hi 2 (by omega)
  have zj : ∀ a, a ≠ 7 → a ≠ 8 → a ≠ 9 → a ≠ 10 → a ≠ 1 → ya_zj Z p b r e0 e1 a p = Z a p := fun a n7 n8 n9 n10 n1 => by
    unfold ya_zj; rw [ya_z_n _ _ _ _ n1, ya_z_n _ _ _ _ n10, ya_z_n _ _ _ _ n9, ya_z_n _ _ _ _ n8, ya_z_n _ _ _ _ n7]
  have zj7 : ya_at (ya_zj Z p b r e0 e1 7 p) (ya_zj Z p b r e0 e1 8 p) (ya_zj Z p b r e0 e1 9 p) (ya_zj Z p b r e0 e1 10 p) o := by
    have g7 : ya_zj Z p b r e0 e1 7 p = b := by unfold ya_zj; rw [ya_z_n _ _ _ _ (by decide), ya_z_n _ _ _ _ (by decide), ya_z_n _ _ _ _ (by decide), ya_z_n _ _ _ _ (by decide), ya_z_s]
    have g8 : ya_zj Z p b r e0 e1 8 p = r := by unfold ya_zj; rw [ya_z_n _ _ _ _ (by decide), ya_z_n _ _ _ _ (by decide), ya_z_n _ _ _ _ (by decide), ya_z_s]
    have g9 : ya_zj Z p b r e0 e1 9 p = e0 := by unfold ya_zj; rw [ya_z_n _ _ _ _ (by decide), ya_z_n _ _ _ _ (by decide), ya_z_s]
    have g10 : ya_zj Z p b r e0 e1 10 p = e1 := by unfold ya_zj; rw [ya_z_n _ _ _ _ (by decide), ya_z_s]
    rw [g7, g8, g9, g10]; exact ha
  have zj1 : ya_zj Z p b r e0 e1 1 p = 3 := by unfold ya_zj; rw [ya_z_s]
  have zj0 : ya_zj Z p b r e0 e1 0 p = nI i := (zj 0 (by decide) (by decide) (by decide) (by decide) (by decide)).trans h0
  have agj : ya_ag p Z (ya_zj Z p b r e0 e1) := by
    unfold ya_zj
    exact ya_ag_z (ya_ag_z (ya_ag_z (ya_ag_z (ya_ag_z (ya_ag_r p Z) (Nat.le_refl _)) (Nat.le_refl _)) (Nat.le_refl _)) (Nat.le_refl _)) (Nat.le_refl _)
  refine R8 t p Z b r e0 e1 i m u (by omega) (by omega) hi h0 h1 h hm h4 h5 h6 hu (fun hbit hal => ?_) (fun hno => ?_)
  · refine ih (bs_ch c i 2) u (t + 1) (p + 1) _ _ _ _ _ (by omega) (by omega) hu (by omega) (ya_push_0 ..) (ya_push_1 ..) (ya_push_2 ..) (ya_push_3 ..) (by omega) ?_
    intro t1 Z1 ht1 hg1
    have low : ∀ a, Z1 a p = ya_zj Z p b r e0 e1 a p := fun a => (hg1 a p (by omega)).trans (ya_push_l _ _ _ _ _ _ (by omega))
    have ag1 : ya_ag p Z Z1 := ya_ag_t (ya_ag_p agj (by omega)) hg1 (by omega)
    have fin : ∀ b' r' e0' e1', ya_at b' r' e0' e1' (ab_ev K A B st ar c tb d (bs_ch c i 2) u) → RA t1 (p + 1) Z1 b' r' e0' e1' := by
      intro b' r' e0' e1' hat
      refine R9 t1 p Z1 b' r' e0' e1' i o _ (by omega) (by omega) hi ((low 0).trans zj0) ((low 1).trans zj1) h ho (ab_ev_po hb hT d _ _ (by omega) hu) ?_ hat ?_
      · rw [low 7, low 8, low 9, low 10]; exact zj7
      · have := hk (t1 + 1) Z1 (by omega) ag1
        rw [hbit, ab_gd, if_pos rfl] at this
        exact this
    cases hz : ab_ev K A B st ar c tb d (bs_ch c i 2) u with
    | none => intro r' e0' e1'; exact fin 1 r' e0' e1' (by rw [hz]; exact rfl)
    | some x => exact fin 0 _ _ _ (by rw [hz]; exact ⟨rfl, rfl, rfl, rfl⟩)
  · refine R9 (t + 1) p _ 1 r e0 e1 i o none (by omega) (by omega) hi zj0 zj1 h ho (ab_none_po k) zj7 rfl ?_
    have := hk (t + 1 + 1) _ (by omega) agj
    have e : ab_gd (m.testBit 0) (ab_ev K A B st ar c tb d (bs_ch c i 2) u) = none := by
      unfold ab_gd
      split
      · next z =>
        apply ab_dead
        by_cases g : u.1 = ty_0
        · exact Or.inl g
        · exact Or.inr (Classical.byContradiction fun g2 => hno ⟨z, g, g2⟩)
      · rfl
    rw [e] at this
    exact this
theorem ya_s_if (hb : ab_bd N k n K A B c) (hD : ∀ i, i < n → ∀ j, j < c i → D (bs_ch c i j) < D i) (hT : ∀ q, ty_ok (tb q)) (R2 : ya_R2 n c RA) (R3 : ya_R3 n K c RA) (R7 : ya_R7 k n K A c RA) (R8 : ya_R8 k n K c RA) (R9 : ya_R9 k n K RA) {d : Nat} (ih : ya_S k n K A B st ar c D tb RA d)
    {i : Nat} {e : ab_E} {t p : Nat} {Z : Nat → Nat → Int32} {b r e0 e1 : Int32} (hd : i < d + 1) (hi : i < n) (he : ab_eo k e) (hp : p + D i ≤ 15) (h0 : Z 0 p = nI i) (h1 : Z 1 p = 0) (h2 : Z 2 p = ty_y e.1) (h3 : Z 3 p = ty_y e.2)
    (ht : t + 4 * (i + 1 - bs_ss c i) ≤ 4096) (hk : ∀ (t' : Nat) (Z' : Nat → Nat → Int32), t' ≤ t + 4 * (i + 1 - bs_ss c i) → ya_ag p Z Z' → ya_k (RA t' p Z') (ab_ev K A B st ar c tb (d + 1) i e)) (h : K i = 8) : RA t (p + 1) Z b r e0 e1 := by
  have hc := ab_c8 hb h
  have l0 := bs_ch_lt hb.2.2 hi (k := 0) (by omega)
  have l1 := bs_ch_lt hb.2.2 hi (k := 1) (by omega)
  have l2 := bs_ch_lt hb.2.2 hi (k := 2) (by omega)
  have q0 := bs_ch_0 hb.2.2 hi (by omega)
  have q1 := bs_ch_n hb.2.2 hi (k := 0) (by omega)
  have q2 := bs_ch_n hb.2.2 hi (k := 1) (by omega)
  have q3 := bs_ch_l hb.2.2 hi (k := 2) (by omega)
  have s0 := bs_ss_le c (bs_ch c i 0)
  have s1 := bs_ss_le c (bs_ch c i 1)
  have s2 := bs_ss_le c (bs_ch c i 2)
  have d0 := hD i hi 0 (by omega)
  have d1 := hD i hi 1 (by omega)
  rw [Nat.zero_add] at q1
  rw [show 1 + 1 = 2 from rfl] at q2
  refine R2 t p Z b r e0 e1 i (by omega) (by omega) hi h0 h1 (by omega) ?_
  refine ih (bs_ch c i 0) e (t + 1) (p + 1) _ b r e0 e1 (by omega) (by omega) he (by omega) (ya_push_0 ..) (ya_push_1 ..) ((ya_push_2 ..).trans h2) ((ya_push_3 ..).trans h3) (by omega) ?_
  intro t1 Z1 ht1 hg1
  have z0 : Z1 0 p = nI i := (hg1 0 p (by omega)).trans (by rw [ya_push_l _ _ _ _ _ _ (by omega), ya_z_n _ _ _ _ (by decide)]; exact h0)
  have z1 : Z1 1 p = 1 := (hg1 1 p (by omega)).trans (by rw [ya_push_l _ _ _ _ _ _ (by omega), ya_z_s])
  have ag1 : ya_ag p Z Z1 := ya_ag_t (ya_ag_p (ya_ag_z (ya_ag_r p Z) (Nat.le_refl _)) (by omega)) hg1 (by omega)
  cases ho : ab_ev K A B st ar c tb d (bs_ch c i 0) e with
  | none =>
    intro r e0 e1
    refine R3 t1 p Z1 r e0 e1 i 1 (by omega) (by omega) hi z0 (z1.trans ya_i1) (by decide) (by decide) (by omega) (fun _ => rfl) ?_
    have := hk (t1 + 1) Z1 (by omega) ag1
    rw [ab_ev_if h, ab_if, ho] at this
    exact this r e0 e1
  | some x =>
    have gx := ab_ev_po hb hT d _ _ (show bs_ch c i 0 < n by omega) he x ho
    have gu := ab_th_eo hb hi h ty_ats_ok gx.2.2.1
    have gt := ab_th_eo hb hi h ty_ints_ok gx.2.2.1
    have hk' : ∀ (t' : Nat) (Z' : Nat → Nat → Int32), t' ≤ t + 4 * (i + 1 - bs_ss c i) → ya_ag p Z Z' → ya_k (RA t' p Z') (ab_jn (ab_gd (x.1.1.testBit 1) (ab_ev K A B st ar c tb d (bs_ch c i 1) (ab_th K A c i ty_ints x.2))) (ab_gd (x.1.1.testBit 0) (ab_ev K A B st ar c tb d (bs_ch c i 2) (ab_th K A c i ty_ats x.2)))) := by
      intro t' Z' a b
      have := hk t' Z' a b
      rw [ab_ev_if h, ab_if, ho, Option.bind_some] at this
      exact this
    have zi : ∀ a, a ≠ 4 → a ≠ 5 → a ≠ 6 → a ≠ 1 → ya_zi Z1 p x.1 (ab_th K A c i ty_ats x.2) a p = Z1 a p := fun a n4 n5 n6 n1 => by
      unfold ya_zi; rw [ya_z_n _ _ _ _ n1, ya_z_n _ _ _ _ n6, ya_z_n _ _ _ _ n5, ya_z_n _ _ _ _ n4]
    have i0 : ya_zi Z1 p x.1 (ab_th K A c i ty_ats x.2) 0 p = nI i := (zi 0 (by decide) (by decide) (by decide) (by decide)).trans z0
    have i1 : ya_zi Z1 p x.1 (ab_th K A c i ty_ats x.2) 1 p = 2 := by unfold ya_zi; rw [ya_z_s]
    have i4 : ya_zi Z1 p x.1 (ab_th K A c i ty_ats x.2) 4 p = nI x.1.1 := by unfold ya_zi; rw [ya_z_n _ _ _ _ (by decide), ya_z_n _ _ _ _ (by decide), ya_z_n _ _ _ _ (by decide), ya_z_s]
    have i5 : ya_zi Z1 p x.1 (ab_th K A c i ty_ats x.2) 5 p = ty_y (ab_th K A c i ty_ats x.2).1 := by unfold ya_zi; rw [ya_z_n _ _ _ _ (by decide), ya_z_n _ _ _ _ (by decide), ya_z_s]
    have i6 : ya_zi Z1 p x.1 (ab_th K A c i ty_ats x.2) 6 p = ty_y (ab_th K A c i ty_ats x.2).2 := by unfold ya_zi; rw [ya_z_n _ _ _ _ (by decide), ya_z_s]
    have agi : ya_ag p Z (ya_zi Z1 p x.1 (ab_th K A c i ty_ats x.2)) := by
      unfold ya_zi
      exact ya_ag_z (ya_ag_z (ya_ag_z (ya_ag_z ag1 (Nat.le_refl _)) (Nat.le_refl _)) (Nat.le_refl _)) (Nat.le_refl _)
    refine R7 t1 p Z1 i x.1 x.2 (by omega) (by omega) hi z0 z1 h gx.1 gx.2.2.1 (fun hbit hal => ?_) (fun hno => ?_)
    · refine ih (bs_ch c i 1) _ (t1 + 1) (p + 1) _ _ _ _ _ (by omega) (by omega) gt (by omega) (ya_push_0 ..) (ya_push_1 ..) (ya_push_2 ..) (ya_push_3 ..) (by omega) ?_
      intro t2 Z2 ht2 hg2
      have low : ∀ a, Z2 a p = ya_zi Z1 p x.1 (ab_th K A c i ty_ats x.2) a p := fun a => (hg2 a p (by omega)).trans (ya_push_l _ _ _ _ _ _ (by omega))
      have ag2 : ya_ag p Z Z2 := ya_ag_t (ya_ag_p agi (by omega)) hg2 (by omega)
      have fin : ∀ b' r' e0' e1', ya_at b' r' e0' e1' (ab_ev K A B st ar c tb d (bs_ch c i 1) (ab_th K A c i ty_ints x.2)) → RA t2 (p + 1) Z2 b' r' e0' e1' := by
        intro b' r' e0' e1' hat
        refine ya_s_if2 hb hD hT R8 R9 ih hd hi gu gx.1.1 hp ((low 0).trans i0) ((low 1).trans i1) ((low 4).trans i4) ((low 5).trans i5) ((low 6).trans i6) h (ab_ev_po hb hT d _ _ (by omega) gt) hat (by omega) ?_
        intro t3 Z3 ht3 hg3
        have := hk' t3 Z3 (by omega) (ya_ag_t ag2 hg3 (Nat.le_refl _))
        rw [hbit] at this
        exact this
      cases hz : ab_ev K A B st ar c tb d (bs_ch c i 1) (ab_th K A c i ty_ints x.2) with
      | none => intro r' e0' e1'; exact fin 1 r' e0' e1' (by rw [hz]; exact rfl)
      | some y => exact fin 0 _ _ _ (by rw [hz]; exact ⟨rfl, rfl, rfl, rfl⟩)
    · refine ya_s_if2 hb hD hT R8 R9 ih (o := none) hd hi gu gx.1.1 hp i0 i1 i4 i5 i6 h (ab_none_po k) rfl (by omega) ?_
      intro t3 Z3 ht3 hg3
      have := hk' t3 Z3 (by omega) (ya_ag_t agi hg3 (Nat.le_refl _))
      have e : ab_gd (x.1.1.testBit 1) (ab_ev K A B st ar c tb d (bs_ch c i 1) (ab_th K A c i ty_ints x.2)) = none := by
        unfold ab_gd
        split
        · next z =>
          apply ab_dead
          by_cases g : (ab_th K A c i ty_ints x.2).1 = ty_0
          · exact Or.inl g
          · exact Or.inr (Classical.byContradiction fun g2 => hno ⟨z, g, g2⟩)
        · rfl
      rw [e] at this
      exact this
/-- the reference's machine gives the pure outcome -/
theorem ya_sim (hb : ab_bd N k n K A B c) (hD : ∀ i, i < n → ∀ j, j < c i → D (bs_ch c i j) < D i) (hT : ∀ q, ty_ok (tb q)) (R1 : ya_R1 k n K A RA) (R2 : ya_R2 n c RA) (R3 : ya_R3 n K c RA) (R4 : ya_R4 n c RA) (R5 : ya_R5 k n K RA) (R6 : ya_R6 k n K A c RA)
    (R7 : ya_R7 k n K A c RA) (R8 : ya_R8 k n K c RA) (R9 : ya_R9 k n K RA) (R10 : ya_R10 k n K A B st ar tb RA) (R11 : ya_R11 k n K A B st ar c tb RA) (R12 : ya_R12 k n K A B st ar c tb RA) : ∀ d, ya_S k n K A B st ar c D tb RA d := by
  intro d
  induction d with
  | zero => intro i e t p Z b r e0 e1 hd; exact absurd hd (Nat.not_lt_zero i)
  | succ d ih =>
    intro i e t p Z b r e0 e1 hd hi he hp h0 h1 h2 h3 ht hk
    rcases bd_10 (hb.1 i hi) with h | h | h | h | h | h | h | h | h | h
    · exact ya_s_lf R1 hi he hp h0 h2 h3 ht hk (Or.inl h)
    · exact ya_s_lf R1 hi he hp h0 h2 h3 ht hk (Or.inr (Or.inl h))
    · exact ya_s_lf R1 hi he hp h0 h2 h3 ht hk (Or.inr (Or.inr h))
    · exact ya_s_op hb hD hT R2 R3 R4 R6 ih hd hi he hp h0 h1 h2 h3 ht hk (Or.inl h) (by rw [hb.2.1 i, h]; exact bs_cc3 _)
    · exact ya_s_op hb hD hT R2 R3 R4 R6 ih hd hi he hp h0 h1 h2 h3 ht hk (Or.inr (Or.inl h)) (by rw [hb.2.1 i, h]; exact bs_cc4 _)
    · exact ya_s_op hb hD hT R2 R3 R4 R6 ih hd hi he hp h0 h1 h2 h3 ht hk (Or.inr (Or.inr (Or.inl h))) (by rw [hb.2.1 i, h]; exact bs_cc5 _)
    · exact ya_s_op hb hD hT R2 R3 R4 R6 ih hd hi he hp h0 h1 h2 h3 ht hk (Or.inr (Or.inr (Or.inr h))) (by rw [hb.2.1 i, h]; exact bs_cc6 _)
    · exact ya_s_isi hb hD hT R2 R3 R5 ih hd hi he hp h0 h1 h2 h3 ht hk h
    · exact ya_s_if hb hD hT R2 R3 R7 R8 R9 ih hd hi he hp h0 h1 h2 h3 ht hk h
    · exact ya_s_call hb hD hT R2 R3 R4 R10 R11 R12 ih hd hi he hp h0 h1 h2 h3 ht hk h
end
end
section
/-- the reference's run as a machine: arrays 0 node, 1 stage, 2 frame, 3 values, 4 slot, 5 6 arguments -/
def yr_push (Z : Nat → Nat → Int32) (p i fr : Nat) : Nat → Nat → Int32 := ya_z (ya_z (ya_z Z 0 p (nI i)) 1 p 0) 2 p (nI fr)
def yr_call (Z : Nat → Nat → Int32) (p fr a b i : Nat) (v w : Int32) : Nat → Nat → Int32 :=
  yr_push (ya_z (ya_z (ya_z (ya_z Z 4 (fr + 1) (nI a)) 5 (fr + 1) v) 6 (fr + 1) w) 1 p (nI (b + 1))) (p + 1) i (fr + 1)
def yr_w (p q f : Nat) : Nat → Nat := fun a => if a < 3 then p else if a = 3 then q else f
def yr_ag (w : Nat → Nat) (Z Z' : Nat → Nat → Int32) : Prop := ∀ a j, j < w a → Z' a j = Z a j
theorem yr_ag_r (w : Nat → Nat) (Z : Nat → Nat → Int32) : yr_ag w Z Z := fun _ _ _ => rfl
theorem yr_ag_t {p q f p' q' f' : Nat} {Z Z' Z'' : Nat → Nat → Int32} (h : yr_ag (yr_w p q f) Z Z') (g : yr_ag (yr_w p' q' f') Z' Z'') (hp : p ≤ p') (hq : q ≤ q') (hf : f ≤ f') : yr_ag (yr_w p q f) Z Z'' := fun a j hj => by
  refine (g a j ?_).trans (h a j hj)
  unfold yr_w at hj ⊢
  split at hj
  · rw [if_pos (by assumption)]; omega
  · rw [if_neg (by assumption)]
    split at hj
    · rw [if_pos (by assumption)]; omega
    · rw [if_neg (by assumption)]; omega
theorem yr_ag_z {w : Nat → Nat} {Z Z' : Nat → Nat → Int32} {a q : Nat} {v : Int32} (h : yr_ag w Z Z') (hq : w a ≤ q) : yr_ag w Z (ya_z Z' a q v) := fun a' j hj => by
  rw [ya_zr, if_neg (fun z => by obtain ⟨rfl, rfl⟩ := z; omega)]; exact h a' j hj
theorem yr_ag_p {p q f : Nat} {Z Z' : Nat → Nat → Int32} {p' i fr : Nat} (h : yr_ag (yr_w p q f) Z Z') (hp : p ≤ p') : yr_ag (yr_w p q f) Z (yr_push Z' p' i fr) :=
  yr_ag_z (yr_ag_z (yr_ag_z h hp) hp) hp
theorem yr_push_0 (Z : Nat → Nat → Int32) (p i fr : Nat) : yr_push Z p i fr 0 p = nI i := by
  unfold yr_push; rw [ya_z_n _ _ _ _ (by decide), ya_z_n _ _ _ _ (by decide), ya_z_s]
theorem yr_push_1 (Z : Nat → Nat → Int32) (p i fr : Nat) : yr_push Z p i fr 1 p = 0 := by
  unfold yr_push; rw [ya_z_n _ _ _ _ (by decide), ya_z_s]
theorem yr_push_2 (Z : Nat → Nat → Int32) (p i fr : Nat) : yr_push Z p i fr 2 p = nI fr := by
  unfold yr_push; rw [ya_z_s]
theorem yr_push_l (Z : Nat → Nat → Int32) (p i fr a : Nat) {j : Nat} (h : j ≠ p) : yr_push Z p i fr a j = Z a j := by
  unfold yr_push; rw [ya_zr, if_neg (fun z => h z.2), ya_zr, if_neg (fun z => h z.2), ya_zr, if_neg (fun z => h z.2)]
theorem yr_push_h (Z : Nat → Nat → Int32) (p i fr a j : Nat) (h : 3 ≤ a) : yr_push Z p i fr a j = Z a j := by
  unfold yr_push; rw [ya_z_n _ _ _ _ (by omega), ya_z_n _ _ _ _ (by omega), ya_z_n _ _ _ _ (by omega)]
theorem yr_z_l (Z : Nat → Nat → Int32) (a j : Nat) (v : Int32) {a' j' : Nat} (h : j' ≠ j) : ya_z Z a j v a' j' = Z a' j' := by rw [ya_zr, if_neg (fun z => h z.2)]
section
variable (N : Nat) (K A B : Nat → Nat → Int32) (st ar : Nat → Int32) (sz : Nat → Nat) (RR : Nat → Nat → Nat → Nat → Nat → (Nat → Nat → Int32) → Prop) (RE : Int32 → Prop)
/-- the top of the stack: row i of slot g at stage s in frame fr -/
def yr_top (Z : Nat → Nat → Int32) (p fr g i s : Nat) : Prop := Z 0 p = nI i ∧ Z 1 p = nI s ∧ Z 2 p = nI fr ∧ Z 4 fr = nI g
def yr_in (t p q fr g i : Nat) : Prop := t < 1000000 ∧ p < 500 ∧ q < 500 ∧ fr < 16 ∧ g < N ∧ st g = 2 ∧ i < sz g
def yr_V1 : Prop := ∀ (t p q m a fr g i s : Nat) (Z : Nat → Nat → Int32), yr_in N st sz t p q fr g i → yr_top Z p fr g i s → (K g i = 0 ∨ K g i = 1 ∨ K g i = 2) →
  RR (t + 1) p (q + 1) m a (ya_z Z 3 q (if K g i = 0 then A g i else if K g i = 1 then 1000 + A g i else if A g i = 0 then Z 5 fr else Z 6 fr)) → RR t (p + 1) q m a Z
def yr_V2 : Prop := ∀ (t p q m a fr g i s : Nat) (Z : Nat → Nat → Int32), yr_in N st sz t p q fr g i → yr_top Z p fr g i s → s < sp_c K B g i → (K g i = 8 → s = 0) →
  RR (t + 1) (p + 2) q m a (yr_push (ya_z Z 1 p (nI (s + 1))) (p + 1) (bs_ch (sp_c K B g) i s) fr) → RR t (p + 1) q m a Z
def yr_V3 : Prop := ∀ (t p q m a fr g i : Nat) (Z : Nat → Nat → Int32), yr_in N st sz t p q fr g i → yr_top Z p fr g i 1 → K g i = 8 →
  (Z 3 q = 1001 → RR (t + 1) (p + 2) q m a (yr_push (ya_z Z 1 p (nI 2)) (p + 1) (bs_ch (sp_c K B g) i 1) fr)) →
  (Z 3 q = 1000 → RR (t + 1) (p + 2) q m a (yr_push (ya_z Z 1 p (nI 2)) (p + 1) (bs_ch (sp_c K B g) i 2) fr)) →
  (Z 3 q ≠ 1001 → Z 3 q ≠ 1000 → RE 1) → RR t (p + 1) (q + 1) m a Z
def yr_V4 : Prop := ∀ (t p q m a fr g i : Nat) (Z : Nat → Nat → Int32), yr_in N st sz t p q fr g i → yr_top Z p fr g i 2 → K g i = 8 → RR (t + 1) p q m a Z → RR t (p + 1) q m a Z
def yr_V5 : Prop := ∀ (t p q m a fr g i : Nat) (Z : Nat → Nat → Int32), yr_in N st sz t p q fr g i → yr_top Z p fr g i 1 → K g i = 7 →
  RR (t + 1) p (q + 1) m a (ya_z Z 3 q (if Z 3 q < 1000 then 1001 else 1000)) → RR t (p + 1) (q + 1) m a Z
def yr_V6 : Prop := ∀ (t p q m a fr g i : Nat) (Z : Nat → Nat → Int32), yr_in N st sz t p q fr g i → yr_top Z p fr g i 2 → (K g i = 3 ∨ K g i = 4 ∨ K g i = 5 ∨ K g i = 6) →
  ((rn_op (K g i) (Z 3 q) (Z 3 (q + 1)) m).1 = -1 → RR (t + 1) p (q + 1) m a (ya_z Z 3 q (rn_op (K g i) (Z 3 q) (Z 3 (q + 1)) m).2.1)) →
  ((rn_op (K g i) (Z 3 q) (Z 3 (q + 1)) m).1 ≠ -1 → RE (rn_op (K g i) (Z 3 q) (Z 3 (q + 1)) m).1) → RR t (p + 1) (q + 2) m a Z
/-- a call with b arguments, at most two -/
def yr_V7 : Prop := ∀ (t p q m fr g i b : Nat) (Z : Nat → Nat → Int32) (v w : Int32), yr_in N st sz t p q fr g i → m ≤ 200 → yr_top Z p fr g i b → K g i = 9 → B g i = nI b → b ≤ 2 →
  (b = 0 → v = 0 ∧ w = 0) → (b = 1 → v = Z 3 q ∧ w = 0) → (b = 2 → v = Z 3 q ∧ w = Z 3 (q + 1)) →
  (∀ a, a < N → A g i = nI a → st a = 2 → ar a = B g i → m < 200 → fr < 15 → RR (t + 1) (p + 2) q (m + 1) (fr + 2) (yr_call Z p fr a b (sz a - 1) v w)) →
  (st (A g i).toNatClampNeg = 2 → ar (A g i).toNatClampNeg = B g i → (200 ≤ m ∨ 15 ≤ fr) → RE 2) →
  (¬ (st (A g i).toNatClampNeg = 2 ∧ ar (A g i).toNatClampNeg = B g i) → RE 1) → RR t (p + 1) (q + b) m (fr + 1) Z
def yr_V8 : Prop := ∀ (t p q m a fr g i b : Nat) (Z : Nat → Nat → Int32), yr_in N st sz t p q fr g i → yr_top Z p fr g i (b + 1) → K g i = 9 → B g i = nI b → b ≤ 2 → a < 20 → RR (t + 1) p q m a Z → RR t (p + 1) q m (a + 1) Z
def yr_S (D : Nat → Nat → Nat) (d : Nat) : Prop := ∀ (fr g i m t p q : Nat) (x y : Int32) (Z : Nat → Nat → Int32), (15 - fr) * 128 + i < d → fr < 16 → g < N → st g = 2 → i < sz g → rn_ag (ar g) x y → m ≤ 200 →
  p + D g i ≤ 10 * (fr + 1) → q + 2 * D g i ≤ 20 * (fr + 1) → yr_top Z p fr g i 0 → Z 5 fr = x → Z 6 fr = y → t + 4 * (i + 1 - bs_ss (sp_c K B g) i) + 520 * (200 - m) ≤ 500000 →
  ((rn_ev K A B st ar sz d fr g i x y m).1 ≠ -1 → RE (rn_ev K A B st ar sz d fr g i x y m).1) →
  ((rn_ev K A B st ar sz d fr g i x y m).1 = -1 → ∀ (t' : Nat) (Z' : Nat → Nat → Int32), t' + 520 * (200 - (rn_ev K A B st ar sz d fr g i x y m).2.2) ≤ t + 4 * (i + 1 - bs_ss (sp_c K B g) i) + 520 * (200 - m) →
    yr_ag (yr_w p q (fr + 1)) Z Z' → Z' 3 q = (rn_ev K A B st ar sz d fr g i x y m).2.1 → RR t' p (q + 1) (rn_ev K A B st ar sz d fr g i x y m).2.2 (fr + 1) Z') → RR t (p + 1) q m (fr + 1) Z
end
-- the runs, kind by kind
section
variable {K A B : Nat → Nat → Int32} {st ar : Nat → Int32} {sz : Nat → Nat} {d fr g i m : Nat} {x y : Int32}
theorem rn_ev_lf (h : K g i = 0 ∨ K g i = 1 ∨ K g i = 2) : rn_ev K A B st ar sz (d + 1) fr g i x y m = (-1, (if K g i = 0 then A g i else if K g i = 1 then 1000 + A g i else if A g i = 0 then x else y), m) := by
  show rn_node K A B st ar sz (rn_ev K A B st ar sz d) fr g i x y m = _
  unfold rn_node
  by_cases h0 : K g i = 0
  · rw [if_pos h0, if_pos h0]
  · rw [if_neg h0, if_neg h0]
    by_cases h1 : K g i = 1
    · rw [if_pos h1, if_pos h1]
    · rw [if_neg h1, if_neg h1, if_pos ((h.resolve_left h0).resolve_left h1)]
theorem rn_ev_if (h : K g i = 8) : rn_ev K A B st ar sz (d + 1) fr g i x y m = rn_bd (rn_ev K A B st ar sz d fr g (bs_ch (sp_c K B g) i 0) x y m) fun v m =>
    if v = 1001 then rn_ev K A B st ar sz d fr g (bs_ch (sp_c K B g) i 1) x y m else if v = 1000 then rn_ev K A B st ar sz d fr g (bs_ch (sp_c K B g) i 2) x y m else (1, 0, m) := by
  show rn_node K A B st ar sz (rn_ev K A B st ar sz d) fr g i x y m = _
  unfold rn_node
  rw [if_neg (by rw [h]; decide), if_neg (by rw [h]; decide), if_neg (by rw [h]; decide), if_pos h]
theorem rn_ev_isi (h : K g i = 7) : rn_ev K A B st ar sz (d + 1) fr g i x y m = rn_bd (rn_ev K A B st ar sz d fr g (bs_ch (sp_c K B g) i 0) x y m) fun v m => (-1, (if v < 1000 then 1001 else 1000), m) := by
  show rn_node K A B st ar sz (rn_ev K A B st ar sz d) fr g i x y m = _
  unfold rn_node
  rw [if_neg (by rw [h]; decide), if_neg (by rw [h]; decide), if_neg (by rw [h]; decide), if_neg (by rw [h]; decide), if_neg (by rw [h]; decide), if_pos h]
theorem rn_ev_op (h : K g i = 3 ∨ K g i = 4 ∨ K g i = 5 ∨ K g i = 6) : rn_ev K A B st ar sz (d + 1) fr g i x y m =
    rn_bd (rn_ev K A B st ar sz d fr g (bs_ch (sp_c K B g) i 0) x y m) fun v m => rn_bd (rn_ev K A B st ar sz d fr g (bs_ch (sp_c K B g) i 1) x y m) fun w m => rn_op (K g i) v w m := by
  show rn_node K A B st ar sz (rn_ev K A B st ar sz d) fr g i x y m = _
  unfold rn_node
  rcases h with h | h | h | h <;>
    rw [if_neg (by rw [h]; decide), if_neg (by rw [h]; decide), if_neg (by rw [h]; decide), if_neg (by rw [h]; decide), if_neg (by rw [h]; decide), if_neg (by rw [h]; decide)]
theorem rn_ev_c0 (h : K g i = 9) (b : B g i = 0) : rn_ev K A B st ar sz (d + 1) fr g i x y m = rn_call A B st ar sz (rn_ev K A B st ar sz d) fr g i 0 0 m := by
  show rn_node K A B st ar sz (rn_ev K A B st ar sz d) fr g i x y m = _
  unfold rn_node
  rw [if_neg (by rw [h]; decide), if_neg (by rw [h]; decide), if_neg (by rw [h]; decide), if_neg (by rw [h]; decide), if_pos h, if_pos b]
theorem rn_ev_c1 (h : K g i = 9) (b : B g i = 1) : rn_ev K A B st ar sz (d + 1) fr g i x y m =
    rn_bd (rn_ev K A B st ar sz d fr g (bs_ch (sp_c K B g) i 0) x y m) fun v m => rn_call A B st ar sz (rn_ev K A B st ar sz d) fr g i v 0 m := by
  show rn_node K A B st ar sz (rn_ev K A B st ar sz d) fr g i x y m = _
  unfold rn_node
  rw [if_neg (by rw [h]; decide), if_neg (by rw [h]; decide), if_neg (by rw [h]; decide), if_neg (by rw [h]; decide), if_pos h, if_neg (by rw [b]; decide), if_pos b]
theorem rn_ev_c2 (h : K g i = 9) (b : B g i = 2) : rn_ev K A B st ar sz (d + 1) fr g i x y m =
    rn_bd (rn_ev K A B st ar sz d fr g (bs_ch (sp_c K B g) i 0) x y m) fun v m => rn_bd (rn_ev K A B st ar sz d fr g (bs_ch (sp_c K B g) i 1) x y m) fun w m => rn_call A B st ar sz (rn_ev K A B st ar sz d) fr g i v w m := by
  show rn_node K A B st ar sz (rn_ev K A B st ar sz d) fr g i x y m = _
  unfold rn_node
  rw [if_neg (by rw [h]; decide), if_neg (by rw [h]; decide), if_neg (by rw [h]; decide), if_neg (by rw [h]; decide), if_pos h, if_neg (by rw [b]; decide), if_neg (by rw [b]; decide)]
end
theorem rn_bd_t {p : rn_R} {f : Int32 → Nat → rn_R} (h : p.1 = -1) : rn_bd p f = f p.2.1 p.2.2 := if_pos h
theorem rn_bd_f {p : rn_R} {f : Int32 → Nat → rn_R} (h : p.1 ≠ -1) : rn_bd p f = p := if_neg h
end
section
theorem rn_n1 (v : Int32) (m : Nat) : ((1, v, m) : rn_R).1 ≠ -1 := show (1 : Int32) ≠ -1 by decide
theorem rn_n2 (v : Int32) (m : Nat) : ((2, v, m) : rn_R).1 ≠ -1 := show (2 : Int32) ≠ -1 by decide
theorem rn_op_m (k v w : Int32) (m : Nat) : (rn_op k v w m).2.2 = m := by
  unfold rn_op
  repeat (first | rfl | split)
section
variable {N : Nat} {K A B : Nat → Nat → Int32} {st ar : Nat → Int32} {sz : Nat → Nat} {D : Nat → Nat → Nat} {RR : Nat → Nat → Nat → Nat → Nat → (Nat → Nat → Int32) → Prop} {RE : Int32 → Prop}
theorem yr_go (hD : ∀ g, g < N → st g = 2 → ∀ i, i < sz g → ∀ j, j < sp_c K B g i → D g (bs_ch (sp_c K B g) i j) < D g i) {d : Nat} (ih : yr_S N K A B st ar sz RR RE D d)
    {fr g i j s s' m t p q : Nat} {x y : Int32} {Z : Nat → Nat → Int32} (hd : (15 - fr) * 128 + i < d + 1) (hf : fr < 16) (hg : g < N) (hs : st g = 2) (hi : i < sz g) (hw : bs_wf (sp_c K B g) (sz g)) (hj : j < sp_c K B g i)
    (hxy : rn_ag (ar g) x y) (hm : m ≤ 200) (hp : p + D g i ≤ 10 * (fr + 1)) (hq : q + 2 * D g i ≤ 20 * (fr + 1) + 1) (top : yr_top Z p fr g i s) (h5 : Z 5 fr = x) (h6 : Z 6 fr = y)
    (ht : t + 4 * (bs_ch (sp_c K B g) i j + 1 - bs_ss (sp_c K B g) (bs_ch (sp_c K B g) i j)) + 520 * (200 - m) ≤ 500000)
    (hE : (rn_ev K A B st ar sz d fr g (bs_ch (sp_c K B g) i j) x y m).1 ≠ -1 → RE (rn_ev K A B st ar sz d fr g (bs_ch (sp_c K B g) i j) x y m).1)
    (hK : (rn_ev K A B st ar sz d fr g (bs_ch (sp_c K B g) i j) x y m).1 = -1 → ∀ (t' : Nat) (Z' : Nat → Nat → Int32),
      t' + 520 * (200 - (rn_ev K A B st ar sz d fr g (bs_ch (sp_c K B g) i j) x y m).2.2) ≤ t + 4 * (bs_ch (sp_c K B g) i j + 1 - bs_ss (sp_c K B g) (bs_ch (sp_c K B g) i j)) + 520 * (200 - m) →
      yr_ag (yr_w p q (fr + 1)) Z Z' → yr_top Z' p fr g i s' → Z' 3 q = (rn_ev K A B st ar sz d fr g (bs_ch (sp_c K B g) i j) x y m).2.1 → Z' 5 fr = x → Z' 6 fr = y →
      RR t' (p + 1) (q + 1) (rn_ev K A B st ar sz d fr g (bs_ch (sp_c K B g) i j) x y m).2.2 (fr + 1) Z') :
    RR t (p + 2) q m (fr + 1) (yr_push (ya_z Z 1 p (nI s')) (p + 1) (bs_ch (sp_c K B g) i j) fr) := by
  have lt := bs_ch_lt hw hi hj
  have dd := hD g hg hs i hi j hj
  obtain ⟨t0, t1, t2, t4⟩ := top
  refine ih fr g (bs_ch (sp_c K B g) i j) m t (p + 1) q x y _ (by omega) hf hg hs (by omega) hxy hm (by omega) (by omega) ⟨yr_push_0 .., yr_push_1 .., yr_push_2 .., ?_⟩ ?_ ?_ ht hE ?_
  · rw [yr_push_h _ _ _ _ _ _ (by decide), ya_z_n _ _ _ _ (by decide)]; exact t4
  · rw [yr_push_h _ _ _ _ _ _ (by decide), ya_z_n _ _ _ _ (by decide)]; exact h5
  · rw [yr_push_h _ _ _ _ _ _ (by decide), ya_z_n _ _ _ _ (by decide)]; exact h6
  · intro e t' Z' ht' ag v
    have w0 : ∀ a, a < 3 → Z' a p = ya_z Z 1 p (nI s') a p := fun a ha => (ag a p (by unfold yr_w; rw [if_pos ha]; omega)).trans (yr_push_l _ _ _ _ _ (by omega))
    have w4 : ∀ a, 3 < a → Z' a fr = Z a fr := fun a ha => (ag a fr (by unfold yr_w; rw [if_neg (by omega), if_neg (by omega)]; omega)).trans (by
      rw [yr_push_h _ _ _ _ _ _ (by omega), ya_z_n _ _ _ _ (by omega)])
    refine hK e t' Z' ht' ?_ ⟨(w0 0 (by decide)).trans ?_, (w0 1 (by decide)).trans (ya_z_s ..), (w0 2 (by decide)).trans ?_, (w4 4 (by decide)).trans t4⟩ v ((w4 5 (by decide)).trans h5) ((w4 6 (by decide)).trans h6)
    · exact yr_ag_t (yr_ag_p (yr_ag_z (yr_ag_r _ Z) (Nat.le_refl _)) (by omega)) ag (by omega) (Nat.le_refl _) (Nat.le_refl _)
    · rw [ya_z_n _ _ _ _ (by decide)]; exact t0
    · rw [ya_z_n _ _ _ _ (by decide)]; exact t2
theorem yr_in_of (hD1 : ∀ g, g < N → st g = 2 → ∀ i, i < sz g → 1 ≤ D g i ∧ D g i ≤ 10) {fr g i t p q : Nat} (hf : fr < 16) (hg : g < N) (hs : st g = 2) (hi : i < sz g) (hp : p + D g i ≤ 10 * (fr + 1)) (hq : q + 2 * D g i ≤ 20 * (fr + 1) + 1) (ht : t ≤ 500000) :
    yr_in N st sz t p q fr g i := by
  have := hD1 g hg hs i hi
  exact ⟨by omega, by omega, by omega, hf, hg, hs, hi⟩
theorem yr_cl (hN : N ≤ 8) (hp0 : sp_ok N K A B st ar sz) (hD1 : ∀ g, g < N → st g = 2 → ∀ i, i < sz g → 1 ≤ D g i ∧ D g i ≤ 10) (V7 : yr_V7 N K A B st ar sz RR RE) (V8 : yr_V8 N K B st sz RR) {d : Nat} (ih : yr_S N K A B st ar sz RR RE D d)
    {fr g i b m t p q Bd : Nat} {v w : Int32} {Z : Nat → Nat → Int32} (hd : (15 - fr) * 128 + i < d + 1) (hf : fr < 16) (hg : g < N) (hs : st g = 2) (hi : i < sz g) (h9 : K g i = 9) (hb : B g i = nI b) (hb2 : b ≤ 2)
    (hv : rn_ok v) (hww : rn_ok w) (hm : m ≤ 200) (hp : p + D g i ≤ 10 * (fr + 1)) (hq : q + 2 * D g i ≤ 20 * (fr + 1)) (top : yr_top Z p fr g i b) (hBd : Bd ≤ 500000) (ht : t + 2 + 520 * (200 - m) ≤ Bd)
    (a0 : b = 0 → v = 0 ∧ w = 0) (a1 : b = 1 → v = Z 3 q ∧ w = 0) (a2 : b = 2 → v = Z 3 q ∧ w = Z 3 (q + 1))
    (hE : (rn_call A B st ar sz (rn_ev K A B st ar sz d) fr g i v w m).1 ≠ -1 → RE (rn_call A B st ar sz (rn_ev K A B st ar sz d) fr g i v w m).1)
    (hK : (rn_call A B st ar sz (rn_ev K A B st ar sz d) fr g i v w m).1 = -1 → ∀ (t' : Nat) (Z' : Nat → Nat → Int32), t' + 520 * (200 - (rn_call A B st ar sz (rn_ev K A B st ar sz d) fr g i v w m).2.2) ≤ Bd →
      yr_ag (yr_w p q (fr + 1)) Z Z' → Z' 3 q = (rn_call A B st ar sz (rn_ev K A B st ar sz d) fr g i v w m).2.1 → RR t' p (q + 1) (rn_call A B st ar sz (rn_ev K A B st ar sz d) fr g i v w m).2.2 (fr + 1) Z') :
    RR t (p + 1) (q + b) m (fr + 1) Z := by
  have dd := hD1 g hg hs i hi
  obtain ⟨t0, t1, t2, t4⟩ := top
  refine V7 t p q m fr g i b Z v w (yr_in_of hD1 hf hg hs hi hp (by omega) (by omega)) hm ⟨t0, t1, t2, t4⟩ h9 hb hb2 a0 a1 a2 ?_ ?_ ?_
  · intro a ha ea sa aa hm2 hf2
    have ec : rn_call A B st ar sz (rn_ev K A B st ar sz d) fr g i v w m = rn_ev K A B st ar sz d (fr + 1) a (sz a - 1) v w (m + 1) := by
      unfold rn_call
      rw [ea, nI_clamp (by omega), if_pos sa, if_pos aa, if_neg (by omega), if_neg (by omega)]
    rw [ec] at hE hK
    obtain ⟨k, _, _, z0, z1, _⟩ := hp0 a ha sa
    have da := hD1 a ha sa (sz a - 1) (by omega)
    have sl := bs_ss_le (sp_c K B a) (sz a - 1)
    have n0 : ∀ a', 3 < a' → ∀ j, yr_call Z p fr a b (sz a - 1) v w a' j = ya_z (ya_z (ya_z Z 4 (fr + 1) (nI a)) 5 (fr + 1) v) 6 (fr + 1) w a' j := fun a' ha' j => by
      unfold yr_call; rw [yr_push_h _ _ _ _ _ _ (by omega), ya_z_n _ _ _ _ (by omega)]
    have g1 := rn_ev_gd hN hp0 d (fr + 1) a (sz a - 1) v w (m + 1) ha sa (by omega) ⟨fun _ => hv, fun _ => hww⟩ (by omega)
    refine ih (fr + 1) a (sz a - 1) (m + 1) (t + 1) (p + 1) q v w _ (by omega) (by omega) ha sa (by omega) ⟨fun _ => hv, fun _ => hww⟩ (by omega) (by omega) (by omega) ⟨yr_push_0 .., yr_push_1 .., yr_push_2 .., ?_⟩ ?_ ?_ (by omega) hE ?_
    · rw [n0 4 (by decide), ya_z_n _ _ _ _ (by decide), ya_z_n _ _ _ _ (by decide), ya_z_s]
    · rw [n0 5 (by decide), ya_z_n _ _ _ _ (by decide), ya_z_s]
    · rw [n0 6 (by decide), ya_z_s]
    · intro e t' Z' ht' ag vv
      have w0 : ∀ a', a' < 3 → Z' a' p = ya_z Z 1 p (nI (b + 1)) a' p := fun a' ha' => (ag a' p (by unfold yr_w; rw [if_pos ha']; omega)).trans (by
        unfold yr_call
        rw [yr_push_l _ _ _ _ _ (by omega)]
        by_cases z : a' = 1
        · subst z; rw [ya_z_s, ya_z_s]
        · rw [ya_z_n _ _ _ _ z, ya_z_n _ _ _ _ z, ya_z_n _ _ _ _ (by omega), ya_z_n _ _ _ _ (by omega), ya_z_n _ _ _ _ (by omega)])
      have w4 : Z' 4 fr = Z 4 fr := (ag 4 fr (by unfold yr_w; rw [if_neg (by omega), if_neg (by omega)]; omega)).trans (by
        rw [n0 4 (by decide), yr_z_l _ _ _ _ (by omega), yr_z_l _ _ _ _ (by omega), yr_z_l _ _ _ _ (by omega)])
      have g4 := g1.2.2.2
      have g3 := g1.2.2.1
      refine V8 t' p (q + 1) _ (fr + 1) fr g i b Z' ⟨by omega, by omega, by omega, hf, hg, hs, hi⟩ ⟨(w0 0 (by decide)).trans ?_, (w0 1 (by decide)).trans (ya_z_s ..), (w0 2 (by decide)).trans ?_, w4.trans t4⟩ h9 hb hb2 (by omega) ?_
      · rw [ya_z_n _ _ _ _ (by decide)]; exact t0
      · rw [ya_z_n _ _ _ _ (by decide)]; exact t2
      · refine hK e (t' + 1) Z' (by omega) ?_ vv
        refine yr_ag_t (p' := p + 1) (q' := q) (f' := fr + 1 + 1) ?_ ag (by omega) (Nat.le_refl _) (by omega)
        unfold yr_call
        exact yr_ag_p (yr_ag_z (yr_ag_z (yr_ag_z (yr_ag_z (yr_ag_r _ Z) (Nat.le_refl _)) (Nat.le_refl _)) (Nat.le_refl _)) (Nat.le_refl _)) (by omega)
  · intro sa aa lim
    have ec : rn_call A B st ar sz (rn_ev K A B st ar sz d) fr g i v w m = (2, 0, m) := by
      unfold rn_call
      rw [if_pos sa, if_pos aa]
      by_cases z : 200 ≤ m
      · rw [if_pos z]
      · rw [if_neg z, if_pos (by omega)]
    rw [ec] at hE
    exact hE (rn_n2 _ _)
  · intro no
    have ec : rn_call A B st ar sz (rn_ev K A B st ar sz d) fr g i v w m = (1, 0, m) := by
      unfold rn_call
      by_cases sa : st (A g i).toNatClampNeg = 2
      · rw [if_pos sa, if_neg (fun z => no ⟨sa, z⟩)]
      · rw [if_neg sa]
    rw [ec] at hE
    exact hE (rn_n1 _ _)
theorem yr_sim (hN : N ≤ 8) (hp0 : sp_ok N K A B st ar sz) (hD : ∀ g, g < N → st g = 2 → ∀ i, i < sz g → ∀ j, j < sp_c K B g i → D g (bs_ch (sp_c K B g) i j) < D g i) (hD1 : ∀ g, g < N → st g = 2 → ∀ i, i < sz g → 1 ≤ D g i ∧ D g i ≤ 10)
    (V1 : yr_V1 N K A st sz RR) (V2 : yr_V2 N K B st sz RR) (V3 : yr_V3 N K B st sz RR RE) (V4 : yr_V4 N K st sz RR) (V5 : yr_V5 N K st sz RR) (V6 : yr_V6 N K st sz RR RE) (V7 : yr_V7 N K A B st ar sz RR RE) (V8 : yr_V8 N K B st sz RR) :
    ∀ d, yr_S N K A B st ar sz RR RE D d := by
  intro d
  induction d with
  | zero => intro fr g i m t p q x y Z hd; exact absurd hd (Nat.not_lt_zero _)
  | succ d ih =>
    intro fr g i m t p q x y Z hd hf hg hs hi hxy hm hp hq top h5 h6 ht hE hK
    obtain ⟨k, hk, ek, hz0, hz, hb⟩ := hp0 g hg hs
    have dd := hD1 g hg hs i hi
    have sl := bs_ss_le (sp_c K B g) i
    have inn : ∀ t' q', t' ≤ 500000 → q' ≤ q + 1 → yr_in N st sz t' p q' fr g i := fun t' q' a b => yr_in_of hD1 hf hg hs hi hp (by omega) a
    have gd : ∀ j m1, j < sp_c K B g i → m1 ≤ 200 → rn_gd m1 (rn_ev K A B st ar sz d fr g (bs_ch (sp_c K B g) i j) x y m1) :=
      fun j m1 hj h1 => rn_ev_gd hN hp0 d fr g _ x y m1 hg hs (ab_ch hb hi hj) hxy h1
    have c0 : 0 < sp_c K B g i → bs_ss (sp_c K B g) (bs_ch (sp_c K B g) i 0) = bs_ss (sp_c K B g) i := fun h => bs_ch_0 hb.2.2 hi h
    have lt : ∀ j, j < sp_c K B g i → bs_ch (sp_c K B g) i j < i := fun j hj => bs_ch_lt hb.2.2 hi hj
    have sle : ∀ j, bs_ss (sp_c K B g) j ≤ j := bs_ss_le _
    have leaf : (K g i = 0 ∨ K g i = 1 ∨ K g i = 2) → RR t (p + 1) q m (fr + 1) Z := by
      intro h
      rw [rn_ev_lf h] at hK
      refine V1 t p q m (fr + 1) fr g i 0 Z (inn _ _ (by omega) (by omega)) top h (hK rfl (t + 1) _ (by dsimp only; omega) (yr_ag_z (yr_ag_r _ Z) (Nat.le_refl _)) ?_)
      rw [ya_z_s, h5, h6]
    have op : (K g i = 3 ∨ K g i = 4 ∨ K g i = 5 ∨ K g i = 6) → sp_c K B g i = 2 → RR t (p + 1) q m (fr + 1) Z := by
      intro h hc
      have n8 : ¬ K g i = 8 := by rcases h with h | h | h | h <;> rw [h] <;> decide
      have e1 := c0 (by omega)
      have e2 := bs_ch_n hb.2.2 hi (k := 0) (by omega)
      have e3 := bs_ch_l hb.2.2 hi (k := 1) (by omega)
      have l0 := lt 0 (by omega)
      have l1 := lt 1 (by omega)
      have s0 := sle (bs_ch (sp_c K B g) i 0)
      have s1 := sle (bs_ch (sp_c K B g) i 1)
      have g0 := gd 0 m (by omega) hm
      rw [Nat.zero_add] at e2
      refine V2 t p q m (fr + 1) fr g i 0 Z (inn _ _ (by omega) (by omega)) top (by omega) (fun z => absurd z n8) ?_
      refine yr_go hD ih hd hf hg hs hi hb.2.2 (j := 0) (by omega) hxy hm hp (by omega) top h5 h6 (by omega) (fun n => ?_) (fun y1 t1 Z1 ht1 ag1 top1 v1 f5 f6 => ?_)
      · rw [rn_ev_op h, rn_bd_f n] at hE
        exact hE n
      · have g1 := gd 1 _ (by omega) g0.2.2.2
        refine V2 t1 p (q + 1) _ (fr + 1) fr g i 1 Z1 (inn _ _ (by omega) (by omega)) top1 (by omega) (fun z => absurd z n8) ?_
        refine yr_go hD ih hd hf hg hs hi hb.2.2 (j := 1) (by omega) hxy g0.2.2.2 hp (by omega) top1 f5 f6 (by omega) (fun n => ?_) (fun y2 t2 Z2 ht2 ag2 top2 v2 f5 f6 => ?_)
        · rw [rn_ev_op h, rn_bd_t y1, rn_bd_f n] at hE
          exact hE n
        · have vq : Z2 3 q = _ := (ag2 3 q (by unfold yr_w; rw [if_neg (by decide), if_pos rfl]; omega)).trans v1
          rw [rn_ev_op h, rn_bd_t y1, rn_bd_t y2] at hE hK
          rw [← vq, ← v2] at hE hK
          rw [rn_op_m] at hK
          refine V6 t2 p q _ (fr + 1) fr g i Z2 (inn _ _ (by omega) (by omega)) top2 h (fun o => ?_) hE
          exact hK o (t2 + 1) _ (by omega) (yr_ag_z (yr_ag_t ag1 ag2 (Nat.le_refl _) (by omega) (Nat.le_refl _)) (Nat.le_refl _)) (ya_z_s ..)
    rcases bd_10 (hb.1 i hi) with h | h | h | h | h | h | h | h | h | h
    · exact leaf (Or.inl h)
    · exact leaf (Or.inr (Or.inl h))
    · exact leaf (Or.inr (Or.inr h))
    · exact op (Or.inl h) (by rw [hb.2.1 i, h]; exact bs_cc3 _)
    · exact op (Or.inr (Or.inl h)) (by rw [hb.2.1 i, h]; exact bs_cc4 _)
    · exact op (Or.inr (Or.inr (Or.inl h))) (by rw [hb.2.1 i, h]; exact bs_cc5 _)
    · exact op (Or.inr (Or.inr (Or.inr h))) (by rw [hb.2.1 i, h]; exact bs_cc6 _)
    · have hc := ab_c7 hb h
      have e1 := c0 (by omega)
      have e3 := bs_ch_l hb.2.2 hi (k := 0) (by omega)
      have l0 := lt 0 (by omega)
      have s0 := sle (bs_ch (sp_c K B g) i 0)
      have g0 := gd 0 m (by omega) hm
      refine V2 t p q m (fr + 1) fr g i 0 Z (inn _ _ (by omega) (by omega)) top (by omega) (fun _ => rfl) ?_
      refine yr_go hD ih hd hf hg hs hi hb.2.2 (j := 0) (by omega) hxy hm hp (by omega) top h5 h6 (by omega) (fun n => ?_) (fun y1 t1 Z1 ht1 ag1 top1 v1 f5 f6 => ?_)
      · rw [rn_ev_isi h, rn_bd_f n] at hE
        exact hE n
      · rw [rn_ev_isi h, rn_bd_t y1, ← v1] at hK
        exact V5 t1 p q _ (fr + 1) fr g i Z1 (inn _ _ (by omega) (by omega)) top1 h (hK rfl (t1 + 1) _ (by dsimp only; omega) (yr_ag_z ag1 (Nat.le_refl _)) (ya_z_s ..))
    · have hc := ab_c8 hb h
      have e1 := c0 (by omega)
      have e2 := bs_ch_n hb.2.2 hi (k := 0) (by omega)
      have e3 := bs_ch_n hb.2.2 hi (k := 1) (by omega)
      have e4 := bs_ch_l hb.2.2 hi (k := 2) (by omega)
      have l0 := lt 0 (by omega)
      have l1 := lt 1 (by omega)
      have l2 := lt 2 (by omega)
      have s0 := sle (bs_ch (sp_c K B g) i 0)
      have s1 := sle (bs_ch (sp_c K B g) i 1)
      have s2 := sle (bs_ch (sp_c K B g) i 2)
      have g0 := gd 0 m (by omega) hm
      rw [Nat.zero_add] at e2
      rw [show 1 + 1 = 2 from rfl] at e3
      refine V2 t p q m (fr + 1) fr g i 0 Z (inn _ _ (by omega) (by omega)) top (by omega) (fun _ => rfl) ?_
      refine yr_go hD ih hd hf hg hs hi hb.2.2 (j := 0) (by omega) hxy hm hp (by omega) top h5 h6 (by omega) (fun n => ?_) (fun y1 t1 Z1 ht1 ag1 top1 v1 f5 f6 => ?_)
      · rw [rn_ev_if h, rn_bd_f n] at hE
        exact hE n
      · rw [rn_ev_if h, rn_bd_t y1] at hE hK
        refine V3 t1 p q _ (fr + 1) fr g i Z1 (inn _ _ (by omega) (by omega)) top1 h (fun vt => ?_) (fun vf => ?_) (fun nt nf => ?_)
        · rw [if_pos (v1.symm.trans vt)] at hE hK
          refine yr_go hD ih hd hf hg hs hi hb.2.2 (j := 1) (by omega) hxy g0.2.2.2 hp (by omega) top1 f5 f6 (by omega) hE (fun y2 t2 Z2 ht2 ag2 top2 v2 f5 f6 => ?_)
          exact V4 t2 p (q + 1) _ (fr + 1) fr g i Z2 (inn _ _ (by omega) (by omega)) top2 h (hK y2 (t2 + 1) Z2 (by omega) (yr_ag_t ag1 ag2 (Nat.le_refl _) (Nat.le_refl _) (Nat.le_refl _)) v2)
        · rw [if_neg (fun z => by rw [← v1, vf] at z; exact absurd z (by decide)), if_pos (v1.symm.trans vf)] at hE hK
          refine yr_go hD ih hd hf hg hs hi hb.2.2 (j := 2) (by omega) hxy g0.2.2.2 hp (by omega) top1 f5 f6 (by omega) hE (fun y2 t2 Z2 ht2 ag2 top2 v2 f5 f6 => ?_)
          exact V4 t2 p (q + 1) _ (fr + 1) fr g i Z2 (inn _ _ (by omega) (by omega)) top2 h (hK y2 (t2 + 1) Z2 (by omega) (yr_ag_t ag1 ag2 (Nat.le_refl _) (Nat.le_refl _) (Nat.le_refl _)) v2)
        · rw [if_neg (fun z => nt (v1.trans z)), if_neg (fun z => nf (v1.trans z))] at hE
          exact hE (rn_n1 _ _)
    · rcases ab_B hb hi with b0 | b1 | b2
      · rw [rn_ev_c0 h b0] at hE hK
        exact yr_cl hN hp0 hD1 V7 V8 ih (b := 0) hd hf hg hs hi h b0 (by decide) rn_ok_0 rn_ok_0 hm hp hq top (Bd := t + 4 * (i + 1 - bs_ss (sp_c K B g) i) + 520 * (200 - m)) ht (by omega) (fun _ => ⟨rfl, rfl⟩) (fun z => absurd z (by decide)) (fun z => absurd z (by decide)) hE hK
      · have hc := ab_cB1 hb h b1
        have e1 := c0 (by omega)
        have e3 := bs_ch_l hb.2.2 hi (k := 0) (by omega)
        have l0 := lt 0 (by omega)
        have s0 := sle (bs_ch (sp_c K B g) i 0)
        have g0 := gd 0 m (by omega) hm
        refine V2 t p q m (fr + 1) fr g i 0 Z (inn _ _ (by omega) (by omega)) top (by omega) (fun _ => rfl) ?_
        refine yr_go hD ih hd hf hg hs hi hb.2.2 (j := 0) (by omega) hxy hm hp (by omega) top h5 h6 (by omega) (fun n => ?_) (fun y1 t1 Z1 ht1 ag1 top1 v1 f5 f6 => ?_)
        · rw [rn_ev_c1 h b1, rn_bd_f n] at hE
          exact hE n
        · rw [rn_ev_c1 h b1, rn_bd_t y1] at hE hK
          exact yr_cl hN hp0 hD1 V7 V8 ih (b := 1) hd hf hg hs hi h b1 (by decide) (g0.2.1 y1) rn_ok_0 g0.2.2.2 hp hq top1 (Bd := t + 4 * (i + 1 - bs_ss (sp_c K B g) i) + 520 * (200 - m)) ht (by omega) (fun z => absurd z (by decide)) (fun _ => ⟨v1.symm, rfl⟩) (fun z => absurd z (by decide)) hE
            (fun y2 t2 Z2 ht2 ag2 => hK y2 t2 Z2 ht2 (yr_ag_t ag1 ag2 (Nat.le_refl _) (Nat.le_refl _) (Nat.le_refl _)))
      · have hc := (ab_cB2 hb hi h (by rw [b2]; decide) (by rw [b2]; decide)).1
        have e1 := c0 (by omega)
        have e2 := bs_ch_n hb.2.2 hi (k := 0) (by omega)
        have e3 := bs_ch_l hb.2.2 hi (k := 1) (by omega)
        have l0 := lt 0 (by omega)
        have l1 := lt 1 (by omega)
        have s0 := sle (bs_ch (sp_c K B g) i 0)
        have s1 := sle (bs_ch (sp_c K B g) i 1)
        have g0 := gd 0 m (by omega) hm
        have n8 : ¬ K g i = 8 := by rw [h]; decide
        rw [Nat.zero_add] at e2
        refine V2 t p q m (fr + 1) fr g i 0 Z (inn _ _ (by omega) (by omega)) top (by omega) (fun _ => rfl) ?_
        refine yr_go hD ih hd hf hg hs hi hb.2.2 (j := 0) (by omega) hxy hm hp (by omega) top h5 h6 (by omega) (fun n => ?_) (fun y1 t1 Z1 ht1 ag1 top1 v1 f5 f6 => ?_)
        · rw [rn_ev_c2 h b2, rn_bd_f n] at hE
          exact hE n
        · have g1 := gd 1 _ (by omega) g0.2.2.2
          refine V2 t1 p (q + 1) _ (fr + 1) fr g i 1 Z1 (inn _ _ (by omega) (by omega)) top1 (by omega) (fun z => absurd z n8) ?_
          refine yr_go hD ih hd hf hg hs hi hb.2.2 (j := 1) (by omega) hxy g0.2.2.2 hp (by omega) top1 f5 f6 (by omega) (fun n => ?_) (fun y2 t2 Z2 ht2 ag2 top2 v2 f5 f6 => ?_)
          · rw [rn_ev_c2 h b2, rn_bd_t y1, rn_bd_f n] at hE
            exact hE n
          · have vq : Z2 3 q = _ := (ag2 3 q (by unfold yr_w; rw [if_neg (by decide), if_pos rfl]; omega)).trans v1
            rw [rn_ev_c2 h b2, rn_bd_t y1, rn_bd_t y2] at hE hK
            exact yr_cl hN hp0 hD1 V7 V8 ih (b := 2) hd hf hg hs hi h b2 (by decide) (g0.2.1 y1) (g1.2.1 y2) g1.2.2.2 hp hq top2 (Bd := t + 4 * (i + 1 - bs_ss (sp_c K B g) i) + 520 * (200 - m)) ht (by omega) (fun z => absurd z (by decide)) (fun z => absurd z (by decide)) (fun _ => ⟨vq.symm, v2.symm⟩) hE
              (fun y3 t3 Z3 ht3 ag3 => hK y3 t3 Z3 ht3 (yr_ag_t (yr_ag_t ag1 ag2 (Nat.le_refl _) (by omega) (Nat.le_refl _)) ag3 (Nat.le_refl _) (Nat.le_refl _) (Nat.le_refl _)))
end
end
section
/-- the component's abstract evaluation, one pass over the rows: arrays 0 nodeTypes, 1 paramsAfter, 2 params -/
def xa_ty (o : ab_O) : ty_T := match o with
  | none => ty_0
  | some x => x.1
def xa_en (o : ab_O) : ab_E := match o with
  | none => (ty_0, ty_0)
  | some x => x.2
def xa_st (Z : Nat → Nat → Int32) (r : Nat) (o : ab_O) : Prop := Z 0 r = ty_x (xa_ty o) ∧ Z 1 (r * 2) = ty_x (xa_en o).1 ∧ Z 1 (r * 2 + 1) = ty_x (xa_en o).2
def xa_cu (Z : Nat → Nat → Int32) (e : ab_E) : Prop := Z 2 0 = ty_x e.1 ∧ Z 2 1 = ty_x e.2
/-- nothing changed but rows lo to hi, and the parameters -/
def xa_ag (lo hi : Nat) (Z Z' : Nat → Nat → Int32) : Prop := (∀ j, (j < lo ∨ hi < j) → Z' 0 j = Z 0 j) ∧ (∀ j, (j < lo * 2 ∨ hi * 2 + 1 < j) → Z' 1 j = Z 1 j)
def xa_dd (e : ab_E) : Prop := e.1 = ty_0 ∨ e.2 = ty_0
def xa_eo (k : Nat) (e : ab_E) : Prop := ty_ok e.1 ∧ ty_ok e.2 ∧ (ab_eo k e ∨ xa_dd e)
theorem xa_ag_r (lo hi : Nat) (Z : Nat → Nat → Int32) : xa_ag lo hi Z Z := ⟨fun _ _ => rfl, fun _ _ => rfl⟩
theorem xa_ag_t {a b lo hi lo' hi' : Nat} {Z Z' Z'' : Nat → Nat → Int32} (h : xa_ag lo hi Z Z') (g : xa_ag lo' hi' Z' Z'') (h1 : a ≤ lo) (h2 : hi ≤ b) (h3 : a ≤ lo') (h4 : hi' ≤ b) : xa_ag a b Z Z'' :=
  ⟨fun j hj => (g.1 j (by omega)).trans (h.1 j (by omega)), fun j hj => (g.2 j (by omega)).trans (h.2 j (by omega))⟩
theorem xa_ag_w {a b lo hi : Nat} {Z Z' : Nat → Nat → Int32} (h : xa_ag lo hi Z Z') (h1 : a ≤ lo) (h2 : hi ≤ b) : xa_ag a b Z Z' := ⟨fun j hj => h.1 j (by omega), fun j hj => h.2 j (by omega)⟩
theorem xa_st_k {lo hi r : Nat} {Z Z' : Nat → Nat → Int32} {o : ab_O} (h : xa_st Z r o) (g : xa_ag lo hi Z Z') (hr : r < lo ∨ hi < r) : xa_st Z' r o :=
  ⟨(g.1 r hr).trans h.1, (g.2 _ (by omega)).trans h.2.1, (g.2 _ (by omega)).trans h.2.2⟩
theorem xa_st_e {r : Nat} {Z Z' : Nat → Nat → Int32} {o : ab_O} (h0 : Z' 0 = Z 0) (h1 : Z' 1 = Z 1) (h : xa_st Z r o) : xa_st Z' r o := by
  unfold xa_st; rw [h0, h1]; exact h
theorem xa_00 : ty_x ty_0 = 0 := ty_x_00
theorem xa_ty_ok {k : Nat} {o : ab_O} (h : ab_po k o) : ty_ok (xa_ty o) := by
  cases o with
  | none => exact ty_0_ok
  | some x => exact (h x rfl).1
theorem xa_en_eo {k : Nat} {o : ab_O} (h : ab_po k o) : xa_eo k (xa_en o) := by
  cases o with
  | none => exact ⟨ty_0_ok, ty_0_ok, Or.inr (Or.inl rfl)⟩
  | some x =>
    have := (h x rfl).2.2.1
    exact ⟨this.1, this.2.1, Or.inl this⟩
theorem xa_po {N k n : Nat} {K A B st ar : Nat → Int32} {c : Nat → Nat} {tb : Nat → ty_T} (hb : ab_bd N k n K A B c) (ht : ∀ q, ty_ok (tb q)) (d i : Nat) (e : ab_E) (hi : i < n) (he : xa_eo k e) : ab_po k (ab_ev K A B st ar c tb d i e) := by
  rcases he.2.2 with h | h
  · exact ab_ev_po hb ht d i e hi h
  · rw [ab_dead d i e h]; exact ab_none_po k
theorem xa_nv_0 (K A : Nat → Int32) (p : Nat) (t : ty_T) : ab_nv K A p t (ty_0, ty_0) = (ty_0, ty_0) := by
  unfold ab_nv
  simp only [ty_meet_0, ite_self]
theorem xa_fin_0 (r : ty_T) : ab_fin r (ty_0, ty_0) = none := ab_fin_dead (Or.inl rfl)
section
variable (k n S : Nat) (K A B st ar : Nat → Int32) (c : Nat → Nat) (tb : Nat → ty_T) (XA XT : Nat → (Nat → Nat → Int32) → Prop)
def xa_c (Z : Nat → Nat → Int32) (i : Nat) (o : ab_O) : Prop := ∀ Z', xa_ag (S + i) (S + i) Z Z' → xa_st Z' (S + i) o → xa_cu Z' (xa_en o) → XT (S + i) Z'
def xa_e (e : ab_E) : Prop := ty_ok e.1 ∧ ty_ok e.2
def xa_X1 : Prop := ∀ (i : Nat) (e : ab_E) (Z : Nat → Nat → Int32), i < n → (K i = 0 ∨ K i = 1 ∨ K i = 2) → xa_e e → xa_cu Z e → xa_c S XT Z i (ab_leaf K A i e) → XA (S + i) Z
def xa_X2 : Prop := ∀ (i : Nat) (x y : ty_T) (e : ab_E) (Z : Nat → Nat → Int32), i < n → (K i = 3 ∨ K i = 4 ∨ K i = 5 ∨ K i = 6) → ty_ok x → ty_ok y → xa_e e → xa_cu Z e →
  Z 0 (S + bs_ch c i 0) = ty_x x → Z 0 (S + bs_ch c i 1) = ty_x y → xa_c S XT Z i (ab_opf K A c i x y e) → XA (S + i) Z
def xa_X3 : Prop := ∀ (i : Nat) (x : ty_T) (e : ab_E) (Z : Nat → Nat → Int32), i < n → K i = 7 → ty_ok x → xa_e e → xa_cu Z e →
  Z 0 (S + bs_ch c i 0) = ty_x x → xa_c S XT Z i (ab_fin ((if x.1 = 0 then 0 else 1) + (if x.2.1 = 0 then 0 else 2), 0, 0) e) → XA (S + i) Z
def xa_X4 : Prop := ∀ (i : Nat) (o o' : ab_O) (Z : Nat → Nat → Int32), i < n → K i = 8 → ab_po k o → ab_po k o' → xa_st Z (S + bs_ch c i 1) o → xa_st Z (S + bs_ch c i 2) o' → xa_c S XT Z i (ab_jn o o') → XA (S + i) Z
def xa_X5 : Prop := ∀ (i : Nat) (e : ab_E) (Z : Nat → Nat → Int32), i < n → K i = 9 → B i = 0 → xa_e e → xa_cu Z e → xa_c S XT Z i (ab_cl0 A B st ar tb i e) → XA (S + i) Z
def xa_X6 : Prop := ∀ (i : Nat) (x : ty_T) (e : ab_E) (Z : Nat → Nat → Int32), i < n → K i = 9 → B i = 1 → ty_ok x → xa_e e → xa_cu Z e →
  Z 0 (S + bs_ch c i 0) = ty_x x → xa_c S XT Z i (ab_cl1 K A B st ar c tb i x e) → XA (S + i) Z
def xa_X7 : Prop := ∀ (i : Nat) (x y : ty_T) (e : ab_E) (Z : Nat → Nat → Int32), i < n → K i = 9 → B i = 2 → ty_ok x → ty_ok y → xa_e e → xa_cu Z e →
  Z 0 (S + bs_ch c i 0) = ty_x x → Z 0 (S + bs_ch c i 1) = ty_x y → xa_c S XT Z i (ab_cl2 K A B st ar c tb i x y e) → XA (S + i) Z
/-- behind a row that no branch hangs on -/
def xa_T1 : Prop := ∀ (i j : Nat) (Z : Nat → Nat → Int32), i < n → j < c i → (K i = 8 → j = 2) → XA (S + bs_ch c i j + 1) Z → XT (S + bs_ch c i j) Z
def xa_br (b : Bool) (e : ab_E) : ab_E := if b = true then e else (ty_0, e.2)
def xa_T2 : Prop := ∀ (i : Nat) (o : ab_O) (Z : Nat → Nat → Int32), i < n → K i = 8 → ab_po k o → xa_st Z (S + bs_ch c i 0) o →
  (∀ Z', Z' 0 = Z 0 → Z' 1 = Z 1 → xa_cu Z' (xa_br ((xa_ty o).1.testBit 1) (ab_th K A c i ty_ints (xa_en o))) → XA (S + bs_ch c i 0 + 1) Z') → XT (S + bs_ch c i 0) Z
def xa_T3 : Prop := ∀ (i : Nat) (o : ab_O) (Z : Nat → Nat → Int32), i < n → K i = 8 → ab_po k o → xa_st Z (S + bs_ch c i 0) o →
  (∀ Z', Z' 0 = Z 0 → Z' 1 = Z 1 → xa_cu Z' (xa_br ((xa_ty o).1.testBit 0) (ab_th K A c i ty_ats (xa_en o))) → XA (S + bs_ch c i 1 + 1) Z') → XT (S + bs_ch c i 1) Z
def xa_S (d : Nat) : Prop := ∀ (i : Nat) (e : ab_E) (Z : Nat → Nat → Int32), i < d → i < n → xa_eo k e → xa_cu Z e →
  (∀ Z', xa_ag (S + bs_ss c i) (S + i) Z Z' → xa_st Z' (S + i) (ab_ev K A B st ar c tb d i e) → xa_cu Z' (xa_en (ab_ev K A B st ar c tb d i e)) → XT (S + i) Z') → XA (S + bs_ss c i) Z
end
section
variable {N k n S : Nat} {K A B st ar : Nat → Int32} {c : Nat → Nat} {tb : Nat → ty_T} {XA XT : Nat → (Nat → Nat → Int32) → Prop}
theorem xa_opf_0 (i : Nat) (x y : ty_T) : ab_opf K A c i x y (ty_0, ty_0) = none := by
  unfold ab_opf
  simp only [xa_nv_0, xa_fin_0, ite_self]
theorem xa_cl1_0 (i : Nat) (x : ty_T) : ab_cl1 K A B st ar c tb i x (ty_0, ty_0) = none := by
  unfold ab_cl1 ab_arg ab_gd
  simp only [xa_nv_0, xa_fin_0, ite_self]
theorem xa_cl2_0 (i : Nat) (x y : ty_T) : ab_cl2 K A B st ar c tb i x y (ty_0, ty_0) = none := by
  unfold ab_cl2 ab_arg ab_gd
  simp only [xa_nv_0, xa_fin_0, ite_self]
theorem xa_ev_0 (d i : Nat) : ab_ev K A B st ar c tb d i (ty_0, ty_0) = none := ab_dead d i _ (Or.inl rfl)
/-- two children, one after the other, then the row's own outcome -/
theorem xa_two (ev : Nat → ab_E → ab_O) (h0 : ∀ i, ev i (ty_0, ty_0) = none) (f : ty_T → ty_T → ab_E → ab_O) (hf : ∀ x y, f x y (ty_0, ty_0) = none) (i j : Nat) (e : ab_E) :
    ((ev i e).bind fun x => (ev j x.2).bind fun y => f x.1 y.1 y.2) = f (xa_ty (ev i e)) (xa_ty (ev j (xa_en (ev i e)))) (xa_en (ev j (xa_en (ev i e)))) := by
  cases ho : ev i e with
  | none =>
    show none = f ty_0 (xa_ty (ev j (ty_0, ty_0))) (xa_en (ev j (ty_0, ty_0)))
    rw [h0 j]
    exact (hf _ _).symm
  | some x =>
    show ((ev j x.2).bind fun y => f x.1 y.1 y.2) = f x.1 (xa_ty (ev j x.2)) (xa_en (ev j x.2))
    cases hy : ev j x.2 with
    | none => exact (hf _ _).symm
    | some y => rfl
theorem xa_one (ev : Nat → ab_E → ab_O) (f : ty_T → ab_E → ab_O) (hf : ∀ x, f x (ty_0, ty_0) = none) (i : Nat) (e : ab_E) :
    ((ev i e).bind fun x => f x.1 x.2) = f (xa_ty (ev i e)) (xa_en (ev i e)) := by
  cases ho : ev i e with
  | none => exact (hf _).symm
  | some x => rfl
theorem xa_eo_e {k : Nat} {e : ab_E} (h : xa_eo k e) : xa_e e := ⟨h.1, h.2.1⟩
theorem xa_br_eo {k : Nat} {b : Bool} {e : ab_E} (h : xa_eo k e) : xa_eo k (xa_br b e) := by
  unfold xa_br
  split
  · exact h
  · exact ⟨ty_0_ok, h.2.1, Or.inr (Or.inl rfl)⟩
theorem xa_nv_eo {K A : Nat → Int32} {k p : Nat} {t : ty_T} {e : ab_E} (hp : K p = 2 → ∃ j : Nat, j < k ∧ A p = nI j) (ht : ty_ok t) (h : xa_eo k e) : xa_eo k (ab_nv K A p t e) := by
  obtain ⟨h1, h2, h3⟩ := h
  rcases h3 with h3 | h3
  · have := ab_nv_eo hp ht h3
    exact ⟨this.1, this.2.1, Or.inl this⟩
  · unfold ab_nv
    split
    · split
      · refine ⟨ty_meet_ok h1 ht, h2, Or.inr ?_⟩
        rcases h3 with z | z
        · left; show ty_meet e.1 t = ty_0; rw [z]; exact ty_meet_0 t
        · right; exact z
      · refine ⟨h1, ty_meet_ok h2 ht, Or.inr ?_⟩
        rcases h3 with z | z
        · left; exact z
        · right; show ty_meet e.2 t = ty_0; rw [z]; exact ty_meet_0 t
    · exact ⟨h1, h2, Or.inr h3⟩
theorem xa_th_eo (hb : ab_bd N k n K A B c) {i : Nat} (hi : i < n) (h8 : K i = 8) {t : ty_T} (ht : ty_ok t) {e : ab_E} (he : xa_eo k e) : xa_eo k (ab_th K A c i t e) := by
  have h3 := ab_c8 hb h8
  have hc := ab_ch hb hi (j := 0) (by omega)
  have h := xa_nv_eo (t := ty_bool) (ab_var hb hc) ty_bool_ok he
  unfold ab_th
  split
  · next z => exact xa_nv_eo (ab_var hb (ab_ch hb hc (j := 0) (by rw [ab_c7 hb z]; decide))) ht h
  · exact h
/-- one child: the component comes from its beginning to the row itself -/
theorem xa_s2 (hb : ab_bd N k n K A B c) (hT : ∀ q, ty_ok (tb q)) (T1 : xa_T1 n S K c XA XT) {d : Nat} (ih : xa_S k n S K A B st ar c tb XA XT d) {i : Nat} {e : ab_E} {Z : Nat → Nat → Int32} (hd : i < d + 1) (hi : i < n) (he : xa_eo k e) (hcu : xa_cu Z e) (h8 : ¬ K i = 8) (hc : c i = 2)
    (hk : ∀ Z', xa_ag (S + bs_ss c i) (S + i - 1) Z Z' → xa_st Z' (S + bs_ch c i 0) (ab_ev K A B st ar c tb d (bs_ch c i 0) e) →
      xa_st Z' (S + bs_ch c i 1) (ab_ev K A B st ar c tb d (bs_ch c i 1) (xa_en (ab_ev K A B st ar c tb d (bs_ch c i 0) e))) →
      xa_cu Z' (xa_en (ab_ev K A B st ar c tb d (bs_ch c i 1) (xa_en (ab_ev K A B st ar c tb d (bs_ch c i 0) e)))) → XA (S + i) Z') : XA (S + bs_ss c i) Z := by
  have l0 := bs_ch_lt hb.2.2 hi (k := 0) (by omega)
  have l1 := bs_ch_lt hb.2.2 hi (k := 1) (by omega)
  have q0 := bs_ch_0 hb.2.2 hi (by omega)
  have q1 := bs_ch_n hb.2.2 hi (k := 0) (by omega)
  have q2 := bs_ch_l hb.2.2 hi (k := 1) (by omega)
  have s0 := bs_ss_le c (bs_ch c i 0)
  have s1 := bs_ss_le c (bs_ch c i 1)
  rw [Nat.zero_add] at q1
  have po := xa_po hb hT (st := st) (ar := ar) d (bs_ch c i 0) e (by omega) he
  rw [← q0]
  refine ih (bs_ch c i 0) e Z (by omega) (by omega) he hcu ?_
  intro Z1 ag1 st1 cu1
  refine T1 i 0 Z1 hi (by omega) (fun z => absurd z h8) ?_
  rw [Nat.add_assoc, ← q1]
  refine ih (bs_ch c i 1) _ Z1 (by omega) (by omega) (xa_en_eo po) cu1 ?_
  intro Z2 ag2 st2 cu2
  refine T1 i 1 Z2 hi (by omega) (fun z => absurd z h8) ?_
  rw [Nat.add_assoc, q2]
  exact hk Z2 (xa_ag_t ag1 ag2 (by omega) (by omega) (by omega) (by omega)) (xa_st_k st1 ag2 (by omega)) st2 cu2
theorem xa_s1 (hb : ab_bd N k n K A B c) (T1 : xa_T1 n S K c XA XT) {d : Nat} (ih : xa_S k n S K A B st ar c tb XA XT d) {i : Nat} {e : ab_E} {Z : Nat → Nat → Int32} (hd : i < d + 1) (hi : i < n) (he : xa_eo k e) (hcu : xa_cu Z e) (h8 : ¬ K i = 8) (hc : c i = 1)
    (hk : ∀ Z', xa_ag (S + bs_ss c i) (S + i - 1) Z Z' → xa_st Z' (S + bs_ch c i 0) (ab_ev K A B st ar c tb d (bs_ch c i 0) e) →
      xa_cu Z' (xa_en (ab_ev K A B st ar c tb d (bs_ch c i 0) e)) → XA (S + i) Z') : XA (S + bs_ss c i) Z := by
  have l0 := bs_ch_lt hb.2.2 hi (k := 0) (by omega)
  have q0 := bs_ch_0 hb.2.2 hi (by omega)
  have q2 := bs_ch_l hb.2.2 hi (k := 0) (by omega)
  have s0 := bs_ss_le c (bs_ch c i 0)
  rw [← q0]
  refine ih (bs_ch c i 0) e Z (by omega) (by omega) he hcu ?_
  intro Z1 ag1 st1 cu1
  refine T1 i 0 Z1 hi (by omega) (fun z => absurd z h8) ?_
  rw [Nat.add_assoc, q2]
  exact hk Z1 (xa_ag_w ag1 (by omega) (by omega)) st1 cu1
theorem xa_sim (hb : ab_bd N k n K A B c) (hT : ∀ q, ty_ok (tb q)) (X1 : xa_X1 n S K A XA XT) (X2 : xa_X2 n S K A c XA XT) (X3 : xa_X3 n S K c XA XT) (X4 : xa_X4 k n S K c XA XT) (X5 : xa_X5 n S K A B st ar tb XA XT) (X6 : xa_X6 n S K A B st ar c tb XA XT) (X7 : xa_X7 n S K A B st ar c tb XA XT)
    (T1 : xa_T1 n S K c XA XT) (T2 : xa_T2 k n S K A c XA XT) (T3 : xa_T3 k n S K A c XA XT) : ∀ d, xa_S k n S K A B st ar c tb XA XT d := by
  intro d
  induction d with
  | zero => intro i e Z hd; exact absurd hd (Nat.not_lt_zero i)
  | succ d ih =>
    intro i e Z hd hi he hcu hk
    have sl := bs_ss_le c i
    have leaf : (K i = 0 ∨ K i = 1 ∨ K i = 2) → c i = 0 → XA (S + bs_ss c i) Z := by
      intro h hc
      rw [bs_ss_0 hc] at hk ⊢
      rw [ab_ev_lf h] at hk
      exact X1 i e Z hi h (xa_eo_e he) hcu hk
    have op : (K i = 3 ∨ K i = 4 ∨ K i = 5 ∨ K i = 6) → c i = 2 → XA (S + bs_ss c i) Z := by
      intro h hc
      have n8 : ¬ K i = 8 := by rcases h with h | h | h | h <;> rw [h] <;> decide
      have l0 := bs_ch_lt hb.2.2 hi (k := 0) (by omega)
      have l1 := bs_ch_lt hb.2.2 hi (k := 1) (by omega)
      have p0 := xa_po hb hT (st := st) (ar := ar) d (bs_ch c i 0) e (by omega) he
      have p1 := xa_po hb hT (st := st) (ar := ar) d (bs_ch c i 1) _ (by omega) (xa_en_eo p0)
      rw [ab_ev_op h, ab_op, xa_two _ (xa_ev_0 d) _ (xa_opf_0 i)] at hk
      refine xa_s2 hb hT T1 ih hd hi he hcu n8 hc fun Z1 ag st0 st1 cu => ?_
      exact X2 i _ _ _ Z1 hi h (xa_ty_ok p0) (xa_ty_ok p1) (xa_eo_e (xa_en_eo p1)) cu st0.1 st1.1 fun Z2 ag2 => hk Z2 (xa_ag_t ag ag2 (by omega) (by omega) (by omega) (by omega))
    rcases bd_10 (hb.1 i hi) with h | h | h | h | h | h | h | h | h | h
    · exact leaf (Or.inl h) (by rw [hb.2.1 i, h]; exact bs_cc0 _)
    · exact leaf (Or.inr (Or.inl h)) (by rw [hb.2.1 i, h]; exact bs_cc1 _)
    · exact leaf (Or.inr (Or.inr h)) (by rw [hb.2.1 i, h]; exact bs_cc2 _)
    · exact op (Or.inl h) (by rw [hb.2.1 i, h]; exact bs_cc3 _)
    · exact op (Or.inr (Or.inl h)) (by rw [hb.2.1 i, h]; exact bs_cc4 _)
    · exact op (Or.inr (Or.inr (Or.inl h))) (by rw [hb.2.1 i, h]; exact bs_cc5 _)
    · exact op (Or.inr (Or.inr (Or.inr h))) (by rw [hb.2.1 i, h]; exact bs_cc6 _)
    · have hc := ab_c7 hb h
      have n8 : ¬ K i = 8 := by rw [h]; decide
      have l0 := bs_ch_lt hb.2.2 hi (k := 0) (by omega)
      have p0 := xa_po hb hT (st := st) (ar := ar) d (bs_ch c i 0) e (by omega) he
      rw [ab_ev_isi h, ab_isi, xa_one (ab_ev K A B st ar c tb d) (fun x e => ab_fin ((if x.1 = 0 then 0 else 1) + (if x.2.1 = 0 then 0 else 2), 0, 0) e) (fun x => xa_fin_0 _)] at hk
      refine xa_s1 hb T1 ih hd hi he hcu n8 hc fun Z1 ag st0 cu => ?_
      exact X3 i _ _ Z1 hi h (xa_ty_ok p0) (xa_eo_e (xa_en_eo p0)) cu st0.1 fun Z2 ag2 => hk Z2 (xa_ag_t ag ag2 (by omega) (by omega) (by omega) (by omega))
    · have hc := ab_c8 hb h
      have l0 := bs_ch_lt hb.2.2 hi (k := 0) (by omega)
      have l1 := bs_ch_lt hb.2.2 hi (k := 1) (by omega)
      have l2 := bs_ch_lt hb.2.2 hi (k := 2) (by omega)
      have q0 := bs_ch_0 hb.2.2 hi (by omega)
      have q1 := bs_ch_n hb.2.2 hi (k := 0) (by omega)
      have q2 := bs_ch_n hb.2.2 hi (k := 1) (by omega)
      have q3 := bs_ch_l hb.2.2 hi (k := 2) (by omega)
      have s0 := bs_ss_le c (bs_ch c i 0)
      have s1 := bs_ss_le c (bs_ch c i 1)
      have s2 := bs_ss_le c (bs_ch c i 2)
      rw [Nat.zero_add] at q1
      rw [show 1 + 1 = 2 from rfl] at q2
      have po := xa_po hb hT (st := st) (ar := ar) d (bs_ch c i 0) e (by omega) he
      have eo := xa_en_eo po
      have e1 := xa_br_eo (b := (xa_ty (ab_ev K A B st ar c tb d (bs_ch c i 0) e)).1.testBit 1) (xa_th_eo hb hi h ty_ints_ok eo)
      have e2 := xa_br_eo (b := (xa_ty (ab_ev K A B st ar c tb d (bs_ch c i 0) e)).1.testBit 0) (xa_th_eo hb hi h ty_ats_ok eo)
      have p1 := xa_po hb hT (st := st) (ar := ar) d (bs_ch c i 1) _ (by omega) e1
      have p2 := xa_po hb hT (st := st) (ar := ar) d (bs_ch c i 2) _ (by omega) e2
      have br : ∀ (b : Bool) (j : Nat) (u : ab_E), ab_ev K A B st ar c tb d j (xa_br b u) = ab_gd b (ab_ev K A B st ar c tb d j u) := by
        intro b j u
        unfold xa_br ab_gd
        split
        · rfl
        · exact ab_dead d j _ (Or.inl rfl)
      have ev : ab_ev K A B st ar c tb (d + 1) i e = ab_jn (ab_ev K A B st ar c tb d (bs_ch c i 1) (xa_br ((xa_ty (ab_ev K A B st ar c tb d (bs_ch c i 0) e)).1.testBit 1) (ab_th K A c i ty_ints (xa_en (ab_ev K A B st ar c tb d (bs_ch c i 0) e)))))
          (ab_ev K A B st ar c tb d (bs_ch c i 2) (xa_br ((xa_ty (ab_ev K A B st ar c tb d (bs_ch c i 0) e)).1.testBit 0) (ab_th K A c i ty_ats (xa_en (ab_ev K A B st ar c tb d (bs_ch c i 0) e))))) := by
        rw [ab_ev_if h, ab_if, br, br]
        cases ab_ev K A B st ar c tb d (bs_ch c i 0) e with
        | none => rfl
        | some x => rfl
      rw [ev] at hk
      rw [← q0]
      refine ih (bs_ch c i 0) e Z (by omega) (by omega) he hcu ?_
      intro Z1 ag1 st1 cu1
      refine T2 i _ Z1 hi h po st1 ?_
      intro Z1' a0 a1 cu1'
      have agq : xa_ag (S + bs_ch c i 0 + 1) (S + bs_ch c i 0) Z1 Z1' := ⟨fun j _ => by rw [a0], fun j _ => by rw [a1]⟩
      have st1' : xa_st Z1' (S + bs_ch c i 0) (ab_ev K A B st ar c tb d (bs_ch c i 0) e) := by
        unfold xa_st; rw [a0, a1]; exact st1
      rw [Nat.add_assoc, ← q1]
      refine ih (bs_ch c i 1) _ Z1' (by omega) (by omega) e1 cu1' ?_
      intro Z2 ag2 st2 cu2
      have st12 := xa_st_k st1' ag2 (by omega)
      refine T3 i _ Z2 hi h po st12 ?_
      intro Z2' b0 b1 cu2'
      have st2' := xa_st_e b0 b1 st2
      have agq2 : xa_ag (S + bs_ch c i 1) (S + bs_ch c i 1) Z2 Z2' := ⟨fun j _ => by rw [b0], fun j _ => by rw [b1]⟩
      rw [Nat.add_assoc, ← q2]
      refine ih (bs_ch c i 2) _ Z2' (by omega) (by omega) e2 cu2' ?_
      intro Z3 ag3 st3 cu3
      refine T1 i 2 Z3 hi (by omega) (fun _ => rfl) ?_
      rw [Nat.add_assoc, q3]
      refine X4 i _ _ Z3 hi h p1 p2 (xa_st_k st2' ag3 (by omega)) st3 fun Z4 ag4 => hk Z4 ?_
      have g1 : xa_ag (S + bs_ss c (bs_ch c i 0)) (S + i) Z Z1' := xa_ag_t ag1 agq (by omega) (by omega) (by omega) (by omega)
      have g2 : xa_ag (S + bs_ss c (bs_ch c i 0)) (S + i) Z Z2' := xa_ag_t (xa_ag_t g1 ag2 (Nat.le_refl _) (Nat.le_refl _) (by omega) (by omega)) agq2 (Nat.le_refl _) (Nat.le_refl _) (by omega) (by omega)
      have g3 := xa_ag_t (xa_ag_t g2 ag3 (Nat.le_refl _) (Nat.le_refl _) (by omega) (by omega)) ag4 (Nat.le_refl _) (Nat.le_refl _) (by omega) (by omega)
      rw [q0] at g3
      exact g3
    · have n8 : ¬ K i = 8 := by rw [h]; decide
      rcases ab_B hb hi with b0 | b1 | b2
      · have hc : c i = 0 := by rw [ab_c9 hb h, b0]; decide
        rw [bs_ss_0 hc] at hk ⊢
        rw [ab_ev_call h, ab_call, if_pos b0] at hk
        exact X5 i e Z hi h b0 (xa_eo_e he) hcu hk
      · have hc := ab_cB1 hb h b1
        have l0 := bs_ch_lt hb.2.2 hi (k := 0) (by omega)
        have p0 := xa_po hb hT (st := st) (ar := ar) d (bs_ch c i 0) e (by omega) he
        rw [ab_ev_call h, ab_call, if_neg (by rw [b1]; decide), if_pos b1, xa_one _ (ab_cl1 K A B st ar c tb i) (xa_cl1_0 i)] at hk
        refine xa_s1 hb T1 ih hd hi he hcu n8 hc fun Z1 ag st0 cu => ?_
        exact X6 i _ _ Z1 hi h b1 (xa_ty_ok p0) (xa_eo_e (xa_en_eo p0)) cu st0.1 fun Z2 ag2 => hk Z2 (xa_ag_t ag ag2 (by omega) (by omega) (by omega) (by omega))
      · have hc := (ab_cB2 hb hi h (by rw [b2]; decide) (by rw [b2]; decide)).1
        have l0 := bs_ch_lt hb.2.2 hi (k := 0) (by omega)
        have l1 := bs_ch_lt hb.2.2 hi (k := 1) (by omega)
        have p0 := xa_po hb hT (st := st) (ar := ar) d (bs_ch c i 0) e (by omega) he
        have p1 := xa_po hb hT (st := st) (ar := ar) d (bs_ch c i 1) _ (by omega) (xa_en_eo p0)
        rw [ab_ev_call h, ab_call, if_neg (by rw [b2]; decide), if_neg (by rw [b2]; decide), xa_two _ (xa_ev_0 d) _ (xa_cl2_0 i)] at hk
        refine xa_s2 hb hT T1 ih hd hi he hcu n8 hc fun Z1 ag st0 st1 cu => ?_
        exact X7 i _ _ _ Z1 hi h b2 (xa_ty_ok p0) (xa_ty_ok p1) (xa_eo_e (xa_en_eo p1)) cu st0.1 st1.1 fun Z2 ag2 => hk Z2 (xa_ag_t ag ag2 (by omega) (by omega) (by omega) (by omega))
end
end
section
/-- the component's run as a machine: arrays 0 values, 1 arguments, 2 frameSlots, 3 frameNodes -/
def xr_fin (Z Z' : Nat → Nat → Int32) (fr r : Nat) (v nx : Int32) : Prop :=
  Z' 0 (fr * 128 + r) = v ∧ (∀ j, j ≠ fr * 128 + r → Z' 0 j = Z 0 j) ∧ (∀ j, Z' 1 j = Z 1 j) ∧ (∀ j, Z' 2 j = Z 2 j) ∧ Z' 3 fr = nx ∧ (∀ j, j ≠ fr → Z' 3 j = Z 3 j)
def xr_ag (fr lo : Nat) (Z Z' : Nat → Nat → Int32) : Prop :=
  (∀ j, j < fr * 128 + lo → Z' 0 j = Z 0 j) ∧ (∀ j, j < fr * 2 + 2 → Z' 1 j = Z 1 j) ∧ (∀ j, j < fr + 1 → Z' 2 j = Z 2 j) ∧ (∀ j, j < fr → Z' 3 j = Z 3 j)
theorem xr_ag_r (fr lo : Nat) (Z : Nat → Nat → Int32) : xr_ag fr lo Z Z := ⟨fun _ _ => rfl, fun _ _ => rfl, fun _ _ => rfl, fun _ _ => rfl⟩
theorem xr_ag_t {fr lo lo' : Nat} {Z Z' Z'' : Nat → Nat → Int32} (h : xr_ag fr lo Z Z') (g : xr_ag fr lo' Z' Z'') (hl : lo ≤ lo') : xr_ag fr lo Z Z'' :=
  ⟨fun j hj => (g.1 j (by omega)).trans (h.1 j hj), fun j hj => (g.2.1 j hj).trans (h.2.1 j hj), fun j hj => (g.2.2.1 j hj).trans (h.2.2.1 j hj), fun j hj => (g.2.2.2 j hj).trans (h.2.2.2 j hj)⟩
theorem xr_ag_f {fr lo r : Nat} {Z Z' Z'' : Nat → Nat → Int32} {v nx : Int32} (h : xr_ag fr lo Z Z') (g : xr_fin Z' Z'' fr r v nx) (hl : lo ≤ r) : xr_ag fr lo Z Z'' :=
  ⟨fun j hj => (g.2.1 j (by omega)).trans (h.1 j hj), fun j hj => (g.2.2.1 j).trans (h.2.1 j hj), fun j hj => (g.2.2.2.1 j).trans (h.2.2.1 j hj), fun j hj => (g.2.2.2.2.2 j (by omega)).trans (h.2.2.2 j hj)⟩
section
variable (N : Nat) (K A B : Nat → Nat → Int32) (st ar : Nat → Int32) (sz S : Nat → Nat) (XR : Nat → Nat → Nat → (Nat → Nat → Int32) → Prop) (XF : Nat → Nat → Nat → Int32 → Nat → (Nat → Nat → Int32) → Prop) (XE : Int32 → Prop)
def xr_in (t fr g i : Nat) : Prop := t < 1000000 ∧ fr < 16 ∧ g < N ∧ st g = 2 ∧ i < sz g
/-- the frame fr stands at row i of slot g -/
def xr_at (Z : Nat → Nat → Int32) (fr g i : Nat) : Prop := Z 2 fr = nI g ∧ Z 3 fr = nI (S g + i)
def xr_v (Z : Nat → Nat → Int32) (fr g i : Nat) : Int32 := Z 0 (fr * 128 + (S g + i))
def xr_M1 : Prop := ∀ (t m fr g i : Nat) (Z : Nat → Nat → Int32), xr_in N st sz t fr g i → xr_at S Z fr g i → (K g i = 0 ∨ K g i = 1 ∨ K g i = 2) →
  XF (t + 1) fr (S g + i) (if K g i = 0 then A g i else if K g i = 1 then 1000 + A g i else if A g i = 0 then Z 1 (fr * 2) else Z 1 (fr * 2 + 1)) m Z → XR t (fr + 1) m Z
def xr_M2 : Prop := ∀ (t m fr g i : Nat) (v w : Int32) (Z : Nat → Nat → Int32), xr_in N st sz t fr g i → xr_at S Z fr g i → (K g i = 3 ∨ K g i = 4 ∨ K g i = 5 ∨ K g i = 6) → rn_ok v → rn_ok w →
  xr_v S Z fr g (bs_ch (sp_c K B g) i 0) = v → xr_v S Z fr g (bs_ch (sp_c K B g) i 1) = w →
  ((rn_op (K g i) v w m).1 = -1 → XF (t + 1) fr (S g + i) (rn_op (K g i) v w m).2.1 m Z) → ((rn_op (K g i) v w m).1 ≠ -1 → XE (rn_op (K g i) v w m).1) → XR t (fr + 1) m Z
def xr_M3 : Prop := ∀ (t m fr g i : Nat) (v : Int32) (Z : Nat → Nat → Int32), xr_in N st sz t fr g i → xr_at S Z fr g i → K g i = 7 → rn_ok v → xr_v S Z fr g (bs_ch (sp_c K B g) i 0) = v →
  XF (t + 1) fr (S g + i) (if v < 1000 then 1001 else 1000) m Z → XR t (fr + 1) m Z
def xr_M4 : Prop := ∀ (t m fr g i : Nat) (Z : Nat → Nat → Int32), xr_in N st sz t fr g i → xr_at S Z fr g i → K g i = 8 →
  XF (t + 1) fr (S g + i) (if xr_v S Z fr g (bs_ch (sp_c K B g) i 0) = 1001 then xr_v S Z fr g (bs_ch (sp_c K B g) i 1) else xr_v S Z fr g (bs_ch (sp_c K B g) i 2)) m Z → XR t (fr + 1) m Z
def xr_M5 : Prop := ∀ (t m fr g i b : Nat) (v w : Int32) (Z : Nat → Nat → Int32), xr_in N st sz t fr g i → xr_at S Z fr g i → K g i = 9 → B g i = nI b → b ≤ 2 → m ≤ 200 →
  (b = 0 → v = 0 ∧ w = 0) → (b = 1 → v = xr_v S Z fr g (bs_ch (sp_c K B g) i 0) ∧ w = 0) → (b = 2 → v = xr_v S Z fr g (bs_ch (sp_c K B g) i 0) ∧ w = xr_v S Z fr g (bs_ch (sp_c K B g) i 1)) →
  (∀ a, a < N → A g i = nI a → st a = 2 → ar a = B g i → m < 200 → fr < 15 →
    ∀ Z', (∀ j, Z' 0 j = Z 0 j) → (∀ j, j < fr * 2 + 2 → Z' 1 j = Z 1 j) → (∀ j, j < fr + 1 → Z' 2 j = Z 2 j) → (∀ j, j < fr + 1 → Z' 3 j = Z 3 j) → Z' 1 ((fr + 1) * 2) = v → Z' 1 ((fr + 1) * 2 + 1) = w → xr_at S Z' (fr + 1) a 0 → XR (t + 1) (fr + 2) (m + 1) Z') →
  (st (A g i).toNatClampNeg = 2 → ar (A g i).toNatClampNeg = B g i → (200 ≤ m ∨ 15 ≤ fr) → XE 2) →
  (¬ (st (A g i).toNatClampNeg = 2 ∧ ar (A g i).toNatClampNeg = B g i) → XE 1) → XR t (fr + 1) m Z
/-- the end of a called body -/
def xr_M6 : Prop := ∀ (t m fr g g' i' : Nat) (Z : Nat → Nat → Int32), t < 1000000 → fr < 15 → g < N → st g = 2 → 0 < sz g → Z 2 (fr + 1) = nI g → Z 3 (fr + 1) = nI (S g + sz g) → g' < N → st g' = 2 → i' < sz g' → Z 3 fr = nI (S g' + i') →
  XF (t + 1) fr (S g' + i') (xr_v S Z (fr + 1) g (sz g - 1)) m Z → XR t (fr + 2) m Z
def xr_F0 : Prop := ∀ (t m fr g : Nat) (v : Int32) (Z : Nat → Nat → Int32), fr < 16 → g < N → st g = 2 → 0 < sz g → rn_ok v → (∀ Z', xr_fin Z Z' fr (S g + (sz g - 1)) v (nI (S g + sz g)) → XR t (fr + 1) m Z') → XF t fr (S g + (sz g - 1)) v m Z
def xr_F1 : Prop := ∀ (t m fr g i j : Nat) (v : Int32) (Z : Nat → Nat → Int32), fr < 16 → g < N → st g = 2 → i < sz g → j < sp_c K B g i → (K g i = 8 → j = 2) → rn_ok v →
  (∀ Z', xr_fin Z Z' fr (S g + bs_ch (sp_c K B g) i j) v (nI (S g + (bs_ch (sp_c K B g) i j + 1))) → XR t (fr + 1) m Z') → XF t fr (S g + bs_ch (sp_c K B g) i j) v m Z
def xr_F2 : Prop := ∀ (t m fr g i : Nat) (v : Int32) (Z : Nat → Nat → Int32), fr < 16 → g < N → st g = 2 → i < sz g → K g i = 8 → rn_ok v →
  (v = 1001 → ∀ Z', xr_fin Z Z' fr (S g + bs_ch (sp_c K B g) i 0) v (nI (S g + (bs_ch (sp_c K B g) i 0 + 1))) → XR t (fr + 1) m Z') →
  (v = 1000 → ∀ Z', xr_fin Z Z' fr (S g + bs_ch (sp_c K B g) i 0) v (nI (S g + (bs_ch (sp_c K B g) i 1 + 1))) → XR t (fr + 1) m Z') →
  (v ≠ 1001 → v ≠ 1000 → XE 1) → XF t fr (S g + bs_ch (sp_c K B g) i 0) v m Z
def xr_F3 : Prop := ∀ (t m fr g i : Nat) (v : Int32) (Z : Nat → Nat → Int32), fr < 16 → g < N → st g = 2 → i < sz g → K g i = 8 → rn_ok v →
  (∀ Z', xr_fin Z Z' fr (S g + bs_ch (sp_c K B g) i 1) v (nI (S g + i)) → XR t (fr + 1) m Z') → XF t fr (S g + bs_ch (sp_c K B g) i 1) v m Z
def xr_S (d : Nat) : Prop := ∀ (fr g i m t : Nat) (x y : Int32) (Z : Nat → Nat → Int32), (15 - fr) * 128 + i < d → fr < 16 → g < N → st g = 2 → i < sz g → rn_ag (ar g) x y → m ≤ 200 → xr_at S Z fr g (bs_ss (sp_c K B g) i) → Z 1 (fr * 2) = x → Z 1 (fr * 2 + 1) = y →
  t + (i + 1 - bs_ss (sp_c K B g) i) + 130 * (200 - m) ≤ 100000 →
  ((rn_ev K A B st ar sz d fr g i x y m).1 ≠ -1 → XE (rn_ev K A B st ar sz d fr g i x y m).1) →
  ((rn_ev K A B st ar sz d fr g i x y m).1 = -1 → ∀ (t' : Nat) (Z' : Nat → Nat → Int32), t' + 130 * (200 - (rn_ev K A B st ar sz d fr g i x y m).2.2) ≤ t + (i + 1 - bs_ss (sp_c K B g) i) + 130 * (200 - m) →
    xr_ag fr (S g + bs_ss (sp_c K B g) i) Z Z' → XF t' fr (S g + i) (rn_ev K A B st ar sz d fr g i x y m).2.1 (rn_ev K A B st ar sz d fr g i x y m).2.2 Z') → XR t (fr + 1) m Z
end
section
variable {N : Nat} {K A B : Nat → Nat → Int32} {st ar : Nat → Int32} {sz S : Nat → Nat} {XR : Nat → Nat → Nat → (Nat → Nat → Int32) → Prop} {XF : Nat → Nat → Nat → Int32 → Nat → (Nat → Nat → Int32) → Prop} {XE : Int32 → Prop}
/-- a call, its body, and the way back to the calling row -/
theorem xr_cl (hN : N ≤ 8) (hp0 : sp_ok N K A B st ar sz) (hroot : ∀ g, g < N → st g = 2 → bs_ss (sp_c K B g) (sz g - 1) = 0) (hS : ∀ g, g < N → st g = 2 → S g + sz g ≤ 128) (M5 : xr_M5 N K A B st ar sz S XR XE) (M6 : xr_M6 N st sz S XR XF) (F0 : xr_F0 N st sz S XR XF) {d : Nat} (ih : xr_S N K A B st ar sz S XR XF XE d)
    {fr g i b m t lo : Nat} {v w : Int32} {Z : Nat → Nat → Int32} (hd : (15 - fr) * 128 + i < d + 1) (hf : fr < 16) (hg : g < N) (hs : st g = 2) (hi : i < sz g) (h9 : K g i = 9) (hb : B g i = nI b) (hb2 : b ≤ 2) (hv : rn_ok v) (hw : rn_ok w) (hm : m ≤ 200) (hat : xr_at S Z fr g i) (hlo : lo ≤ S g + i)
    (ht : t + 1 + 130 * (200 - m) ≤ 100000)
    (a0 : b = 0 → v = 0 ∧ w = 0) (a1 : b = 1 → v = xr_v S Z fr g (bs_ch (sp_c K B g) i 0) ∧ w = 0) (a2 : b = 2 → v = xr_v S Z fr g (bs_ch (sp_c K B g) i 0) ∧ w = xr_v S Z fr g (bs_ch (sp_c K B g) i 1))
    (hE : (rn_call A B st ar sz (rn_ev K A B st ar sz d) fr g i v w m).1 ≠ -1 → XE (rn_call A B st ar sz (rn_ev K A B st ar sz d) fr g i v w m).1)
    (hK : (rn_call A B st ar sz (rn_ev K A B st ar sz d) fr g i v w m).1 = -1 → ∀ (t' : Nat) (Z' : Nat → Nat → Int32), t' + 130 * (200 - (rn_call A B st ar sz (rn_ev K A B st ar sz d) fr g i v w m).2.2) ≤ t + 130 * (200 - m) →
      xr_ag fr lo Z Z' → XF t' fr (S g + i) (rn_call A B st ar sz (rn_ev K A B st ar sz d) fr g i v w m).2.1 (rn_call A B st ar sz (rn_ev K A B st ar sz d) fr g i v w m).2.2 Z') : XR t (fr + 1) m Z := by
  obtain ⟨_, _, _, _, hz, _⟩ := hp0 g hg hs
  refine M5 t m fr g i b v w Z ⟨by omega, hf, hg, hs, hi⟩ hat h9 hb hb2 hm a0 a1 a2 ?_ ?_ ?_
  · intro a ha ea sa aa hm2 hf2 Z1 z0 z1 z2 z3 zv zw zat
    have ec : rn_call A B st ar sz (rn_ev K A B st ar sz d) fr g i v w m = rn_ev K A B st ar sz d (fr + 1) a (sz a - 1) v w (m + 1) := by
      unfold rn_call
      rw [ea, nI_clamp (by omega), if_pos sa, if_pos aa, if_neg (by omega), if_neg (by omega)]
    rw [ec] at hE hK
    obtain ⟨k, _, _, y0, y1, _⟩ := hp0 a ha sa
    have r0 := hroot a ha sa
    have g1 := rn_ev_gd hN hp0 d (fr + 1) a (sz a - 1) v w (m + 1) ha sa (by omega) ⟨fun _ => hv, fun _ => hw⟩ (by omega)
    have g3 := g1.2.2.1
    have g4 := g1.2.2.2
    refine ih (fr + 1) a (sz a - 1) (m + 1) (t + 1) v w Z1 (by omega) (by omega) ha sa (by omega) ⟨fun _ => hv, fun _ => hw⟩ (by omega) (by rw [r0]; exact zat) zv zw (by omega) hE ?_
    intro e t2 Z2 ht2 ag2
    refine F0 t2 _ (fr + 1) a _ Z2 (by omega) ha sa y0 (g1.2.1 e) ?_
    intro Z3 fin
    refine M6 t2 _ fr a g i Z3 (by omega) (by omega) ha sa y0 ?_ fin.2.2.2.2.1 hg hs hi ?_ ?_
    · exact (fin.2.2.2.1 _).trans ((ag2.2.2.1 _ (by omega)).trans zat.1)
    · exact (fin.2.2.2.2.2 _ (by omega)).trans ((ag2.2.2.2 _ (by omega)).trans ((z3 _ (by omega)).trans hat.2))
    · have vv : xr_v S Z3 (fr + 1) a (sz a - 1) = (rn_ev K A B st ar sz d (fr + 1) a (sz a - 1) v w (m + 1)).2.1 := fin.1
      rw [vv]
      refine hK e (t2 + 1) Z3 (by omega) ⟨fun j hj => ?_, fun j hj => ?_, fun j hj => ?_, fun j hj => ?_⟩
      · have := hS g hg hs
        exact (fin.2.1 j (by omega)).trans ((ag2.1 j (by omega)).trans (z0 j))
      · exact (fin.2.2.1 j).trans ((ag2.2.1 j (by omega)).trans (z1 j hj))
      · exact (fin.2.2.2.1 j).trans ((ag2.2.2.1 j (by omega)).trans (z2 j hj))
      · exact (fin.2.2.2.2.2 j (by omega)).trans ((ag2.2.2.2 j (by omega)).trans (z3 j (by omega)))
  · intro sa aa lim
    have ec : rn_call A B st ar sz (rn_ev K A B st ar sz d) fr g i v w m = (2, 0, m) := by
      unfold rn_call
      rw [if_pos sa, if_pos aa]
      by_cases z : 200 ≤ m
      · rw [if_pos z]
      · rw [if_neg z, if_pos (by omega)]
    rw [ec] at hE
    exact hE (rn_n2 _ _)
  · intro no
    have ec : rn_call A B st ar sz (rn_ev K A B st ar sz d) fr g i v w m = (1, 0, m) := by
      unfold rn_call
      by_cases sa : st (A g i).toNatClampNeg = 2
      · rw [if_pos sa, if_neg (fun z => no ⟨sa, z⟩)]
      · rw [if_neg sa]
    rw [ec] at hE
    exact hE (rn_n1 _ _)
/-- a child of row i, from its beginning to the row nx where its end leads -/
theorem xr_go {d : Nat} (ih : xr_S N K A B st ar sz S XR XF XE d) (hN : N ≤ 8) (hp0 : sp_ok N K A B st ar sz)
    {fr g i j m t nx : Nat} {x y : Int32} {Z : Nat → Nat → Int32} (hd : (15 - fr) * 128 + i < d + 1) (hf : fr < 16) (hg : g < N) (hs : st g = 2) (hi : i < sz g) (hw : bs_wf (sp_c K B g) (sz g)) (hj : j < sp_c K B g i)
    (fin : ∀ (t' m' : Nat) (v : Int32) (Z1 : Nat → Nat → Int32), rn_ok v → (∀ Z', xr_fin Z1 Z' fr (S g + bs_ch (sp_c K B g) i j) v (nI (S g + nx)) → XR t' (fr + 1) m' Z') → XF t' fr (S g + bs_ch (sp_c K B g) i j) v m' Z1)
    (hxy : rn_ag (ar g) x y) (hm : m ≤ 200) (hat : xr_at S Z fr g (bs_ss (sp_c K B g) (bs_ch (sp_c K B g) i j))) (h5 : Z 1 (fr * 2) = x) (h6 : Z 1 (fr * 2 + 1) = y)
    (ht : t + (bs_ch (sp_c K B g) i j + 1 - bs_ss (sp_c K B g) (bs_ch (sp_c K B g) i j)) + 130 * (200 - m) ≤ 100000)
    (hE : (rn_ev K A B st ar sz d fr g (bs_ch (sp_c K B g) i j) x y m).1 ≠ -1 → XE (rn_ev K A B st ar sz d fr g (bs_ch (sp_c K B g) i j) x y m).1)
    (hK : (rn_ev K A B st ar sz d fr g (bs_ch (sp_c K B g) i j) x y m).1 = -1 → ∀ (t' : Nat) (Z' : Nat → Nat → Int32),
      t' + 130 * (200 - (rn_ev K A B st ar sz d fr g (bs_ch (sp_c K B g) i j) x y m).2.2) ≤ t + (bs_ch (sp_c K B g) i j + 1 - bs_ss (sp_c K B g) (bs_ch (sp_c K B g) i j)) + 130 * (200 - m) →
      xr_ag fr (S g + bs_ss (sp_c K B g) (bs_ch (sp_c K B g) i j)) Z Z' → xr_at S Z' fr g nx → xr_v S Z' fr g (bs_ch (sp_c K B g) i j) = (rn_ev K A B st ar sz d fr g (bs_ch (sp_c K B g) i j) x y m).2.1 →
      Z' 1 (fr * 2) = x → Z' 1 (fr * 2 + 1) = y → XR t' (fr + 1) (rn_ev K A B st ar sz d fr g (bs_ch (sp_c K B g) i j) x y m).2.2 Z') : XR t (fr + 1) m Z := by
  have lt := bs_ch_lt hw hi hj
  have sl := bs_ss_le (sp_c K B g) (bs_ch (sp_c K B g) i j)
  have g0 := rn_ev_gd hN hp0 d fr g (bs_ch (sp_c K B g) i j) x y m hg hs (by omega) hxy hm
  refine ih fr g (bs_ch (sp_c K B g) i j) m t x y Z (by omega) hf hg hs (by omega) hxy hm hat h5 h6 ht hE ?_
  intro e t1 Z1 ht1 ag1
  refine fin t1 _ _ Z1 (g0.2.1 e) ?_
  intro Z2 f2
  exact hK e t1 Z2 ht1 (xr_ag_f ag1 f2 (by omega)) ⟨(f2.2.2.2.1 fr).trans ((ag1.2.2.1 fr (by omega)).trans hat.1), f2.2.2.2.2.1⟩ f2.1
    ((f2.2.2.1 _).trans ((ag1.2.1 _ (by omega)).trans h5)) ((f2.2.2.1 _).trans ((ag1.2.1 _ (by omega)).trans h6))
theorem xr_vk {fr g lo j : Nat} {Z Z' : Nat → Nat → Int32} (h : xr_ag fr (S g + lo) Z Z') (hj : j < lo) : xr_v S Z' fr g j = xr_v S Z fr g j := h.1 _ (by omega)
theorem xr_sim (hN : N ≤ 8) (hp0 : sp_ok N K A B st ar sz) (hroot : ∀ g, g < N → st g = 2 → bs_ss (sp_c K B g) (sz g - 1) = 0) (hS : ∀ g, g < N → st g = 2 → S g + sz g ≤ 128)
    (M1 : xr_M1 N K A st sz S XR XF) (M2 : xr_M2 N K B st sz S XR XF XE) (M3 : xr_M3 N K B st sz S XR XF) (M4 : xr_M4 N K B st sz S XR XF) (M5 : xr_M5 N K A B st ar sz S XR XE) (M6 : xr_M6 N st sz S XR XF)
    (F0 : xr_F0 N st sz S XR XF) (F1 : xr_F1 N K B st sz S XR XF) (F2 : xr_F2 N K B st sz S XR XF XE) (F3 : xr_F3 N K B st sz S XR XF) : ∀ d, xr_S N K A B st ar sz S XR XF XE d := by
  intro d
  induction d with
  | zero => intro fr g i m t x y Z hd; exact absurd hd (Nat.not_lt_zero _)
  | succ d ih =>
    intro fr g i m t x y Z hd hf hg hs hi hxy hm hat h5 h6 ht hE hK
    obtain ⟨k, hk, ek, hz0, hz, hb⟩ := hp0 g hg hs
    have sl := bs_ss_le (sp_c K B g) i
    have gd : ∀ j m1, j < sp_c K B g i → m1 ≤ 200 → rn_gd m1 (rn_ev K A B st ar sz d fr g (bs_ch (sp_c K B g) i j) x y m1) :=
      fun j m1 hj h1 => rn_ev_gd hN hp0 d fr g _ x y m1 hg hs (ab_ch hb hi hj) hxy h1
    have c0 : 0 < sp_c K B g i → bs_ss (sp_c K B g) (bs_ch (sp_c K B g) i 0) = bs_ss (sp_c K B g) i := fun h => bs_ch_0 hb.2.2 hi h
    have lt : ∀ j, j < sp_c K B g i → bs_ch (sp_c K B g) i j < i := fun j hj => bs_ch_lt hb.2.2 hi hj
    have sle : ∀ j, bs_ss (sp_c K B g) j ≤ j := bs_ss_le _
    have f1 : ∀ j, j < sp_c K B g i → (K g i = 8 → j = 2) → ∀ (t' m' : Nat) (v : Int32) (Z1 : Nat → Nat → Int32), rn_ok v →
        (∀ Z', xr_fin Z1 Z' fr (S g + bs_ch (sp_c K B g) i j) v (nI (S g + (bs_ch (sp_c K B g) i j + 1))) → XR t' (fr + 1) m' Z') → XF t' fr (S g + bs_ch (sp_c K B g) i j) v m' Z1 :=
      fun j hj h8 t' m' v Z1 hv k => F1 t' m' fr g i j v Z1 hf hg hs hi hj h8 hv k
    have leaf : (K g i = 0 ∨ K g i = 1 ∨ K g i = 2) → sp_c K B g i = 0 → XR t (fr + 1) m Z := by
      intro h hc
      have s0 := bs_ss_0 hc
      rw [s0] at hat ht hK
      rw [rn_ev_lf h] at hK
      refine M1 t m fr g i Z ⟨by omega, hf, hg, hs, hi⟩ hat h ?_
      rw [h5, h6]
      exact hK rfl (t + 1) Z (by dsimp only; omega) (xr_ag_r ..)
    have op : (K g i = 3 ∨ K g i = 4 ∨ K g i = 5 ∨ K g i = 6) → sp_c K B g i = 2 → XR t (fr + 1) m Z := by
      intro h hc
      have n8 : ¬ K g i = 8 := by rcases h with h | h | h | h <;> rw [h] <;> decide
      have e1 := c0 (by omega)
      have e2 := bs_ch_n hb.2.2 hi (k := 0) (by omega)
      have e3 := bs_ch_l hb.2.2 hi (k := 1) (by omega)
      have l0 := lt 0 (by omega)
      have l1 := lt 1 (by omega)
      have s0 := sle (bs_ch (sp_c K B g) i 0)
      have s1 := sle (bs_ch (sp_c K B g) i 1)
      have g0 := gd 0 m (by omega) hm
      rw [Nat.zero_add] at e2
      refine xr_go ih hN hp0 hd hf hg hs hi hb.2.2 (j := 0) (by omega) (f1 0 (by omega) (fun z => absurd z n8)) hxy hm (by rw [e1]; exact hat) h5 h6 (by omega) (fun n => ?_) (fun y1 t1 Z1 ht1 ag1 at1 v1 q5 q6 => ?_)
      · rw [rn_ev_op h, rn_bd_f n] at hE
        exact hE n
      · have g1 := gd 1 _ (by omega) g0.2.2.2
        refine xr_go ih hN hp0 hd hf hg hs hi hb.2.2 (j := 1) (by omega) (f1 1 (by omega) (fun z => absurd z n8)) hxy g0.2.2.2 (by rw [e2]; exact at1) q5 q6 (by omega) (fun n => ?_) (fun y2 t2 Z2 ht2 ag2 at2 v2 q5 q6 => ?_)
        · rw [rn_ev_op h, rn_bd_t y1, rn_bd_f n] at hE
          exact hE n
        · rw [rn_ev_op h, rn_bd_t y1, rn_bd_t y2] at hE hK
          rw [rn_op_m] at hK
          rw [e3] at at2
          refine M2 t2 _ fr g i _ _ Z2 ⟨by omega, hf, hg, hs, hi⟩ at2 h (g0.2.1 y1) (g1.2.1 y2) ((xr_vk ag2 (by omega)).trans v1) v2 (fun o => ?_) hE
          exact hK o (t2 + 1) Z2 (by omega) (xr_ag_t (by rw [← e1]; exact ag1) ag2 (by omega))
    rcases bd_10 (hb.1 i hi) with h | h | h | h | h | h | h | h | h | h
    · exact leaf (Or.inl h) (by rw [hb.2.1 i, h]; exact bs_cc0 _)
    · exact leaf (Or.inr (Or.inl h)) (by rw [hb.2.1 i, h]; exact bs_cc1 _)
    · exact leaf (Or.inr (Or.inr h)) (by rw [hb.2.1 i, h]; exact bs_cc2 _)
    · exact op (Or.inl h) (by rw [hb.2.1 i, h]; exact bs_cc3 _)
    · exact op (Or.inr (Or.inl h)) (by rw [hb.2.1 i, h]; exact bs_cc4 _)
    · exact op (Or.inr (Or.inr (Or.inl h))) (by rw [hb.2.1 i, h]; exact bs_cc5 _)
    · exact op (Or.inr (Or.inr (Or.inr h))) (by rw [hb.2.1 i, h]; exact bs_cc6 _)
    · have hc := ab_c7 hb h
      have n8 : ¬ K g i = 8 := by rw [h]; decide
      have e1 := c0 (by omega)
      have e3 := bs_ch_l hb.2.2 hi (k := 0) (by omega)
      have l0 := lt 0 (by omega)
      have s0 := sle (bs_ch (sp_c K B g) i 0)
      have g0 := gd 0 m (by omega) hm
      refine xr_go ih hN hp0 hd hf hg hs hi hb.2.2 (j := 0) (by omega) (f1 0 (by omega) (fun z => absurd z n8)) hxy hm (by rw [e1]; exact hat) h5 h6 (by omega) (fun n => ?_) (fun y1 t1 Z1 ht1 ag1 at1 v1 q5 q6 => ?_)
      · rw [rn_ev_isi h, rn_bd_f n] at hE
        exact hE n
      · rw [rn_ev_isi h, rn_bd_t y1] at hK
        rw [e3] at at1
        exact M3 t1 _ fr g i _ Z1 ⟨by omega, hf, hg, hs, hi⟩ at1 h (g0.2.1 y1) v1 (hK rfl (t1 + 1) Z1 (by dsimp only; omega) (by rw [← e1]; exact ag1))
    · have hc := ab_c8 hb h
      have e1 := c0 (by omega)
      have e2 := bs_ch_n hb.2.2 hi (k := 0) (by omega)
      have e3 := bs_ch_n hb.2.2 hi (k := 1) (by omega)
      have e4 := bs_ch_l hb.2.2 hi (k := 2) (by omega)
      have l0 := lt 0 (by omega)
      have l1 := lt 1 (by omega)
      have l2 := lt 2 (by omega)
      have s0 := sle (bs_ch (sp_c K B g) i 0)
      have s1 := sle (bs_ch (sp_c K B g) i 1)
      have s2 := sle (bs_ch (sp_c K B g) i 2)
      have g0 := gd 0 m (by omega) hm
      rw [Nat.zero_add] at e2
      rw [show 1 + 1 = 2 from rfl] at e3
      refine ih fr g (bs_ch (sp_c K B g) i 0) m t x y Z (by omega) hf hg hs (by omega) hxy hm (by rw [e1]; exact hat) h5 h6 (by omega) (fun n => ?_) (fun y1 t1 Z1 ht1 ag1 => ?_)
      · rw [rn_ev_if h, rn_bd_f n] at hE
        exact hE n
      · rw [rn_ev_if h, rn_bd_t y1] at hE hK
        refine F2 t1 _ fr g i _ Z1 hf hg hs hi h (g0.2.1 y1) (fun vt Z2 f2 => ?_) (fun vf Z2 f2 => ?_) (fun nt nf => ?_)
        · rw [if_pos vt] at hE hK
          have ag2 : xr_ag fr (S g + bs_ss (sp_c K B g) (bs_ch (sp_c K B g) i 0)) Z Z2 := xr_ag_f ag1 f2 (by omega)
          have g1 := gd 1 _ (by omega) g0.2.2.2
          refine xr_go ih hN hp0 hd hf hg hs hi hb.2.2 (j := 1) (nx := i) (by omega) (fun t' m' v Z1 hv k => F3 t' m' fr g i v Z1 hf hg hs hi h hv k) hxy g0.2.2.2
            ⟨(f2.2.2.2.1 fr).trans ((ag1.2.2.1 fr (by omega)).trans hat.1), by rw [e2]; exact f2.2.2.2.2.1⟩ ((ag2.2.1 _ (by omega)).trans h5) ((ag2.2.1 _ (by omega)).trans h6) (by omega) hE (fun y2 t3 Z3 ht3 ag3 at3 v3 q5 q6 => ?_)
          refine M4 t3 _ fr g i Z3 ⟨by omega, hf, hg, hs, hi⟩ at3 h ?_
          rw [if_pos ((xr_vk ag3 (by omega)).trans (f2.1.trans vt)), v3]
          exact hK y2 (t3 + 1) Z3 (by omega) (xr_ag_t (by rw [← e1]; exact ag2) ag3 (by omega))
        · rw [if_neg (by rw [vf]; decide), if_pos vf] at hE hK
          have ag2 : xr_ag fr (S g + bs_ss (sp_c K B g) (bs_ch (sp_c K B g) i 0)) Z Z2 := xr_ag_f ag1 f2 (by omega)
          have g1 := gd 2 _ (by omega) g0.2.2.2
          refine xr_go ih hN hp0 hd hf hg hs hi hb.2.2 (j := 2) (by omega) (f1 2 (by omega) (fun _ => rfl)) hxy g0.2.2.2
            ⟨(f2.2.2.2.1 fr).trans ((ag1.2.2.1 fr (by omega)).trans hat.1), by rw [e3]; exact f2.2.2.2.2.1⟩ ((ag2.2.1 _ (by omega)).trans h5) ((ag2.2.1 _ (by omega)).trans h6) (by omega) hE (fun y2 t3 Z3 ht3 ag3 at3 v3 q5 q6 => ?_)
          rw [e4] at at3
          refine M4 t3 _ fr g i Z3 ⟨by omega, hf, hg, hs, hi⟩ at3 h ?_
          rw [if_neg (by rw [xr_vk ag3 (by omega)]; show ¬ Z2 0 _ = 1001; rw [f2.1, vf]; decide), v3]
          exact hK y2 (t3 + 1) Z3 (by omega) (xr_ag_t (by rw [← e1]; exact ag2) ag3 (by omega))
        · rw [if_neg nt, if_neg nf] at hE
          exact hE (rn_n1 _ _)
    · have n8 : ¬ K g i = 8 := by rw [h]; decide
      rcases ab_B hb hi with b0 | b1 | b2
      · have hc : sp_c K B g i = 0 := by rw [ab_c9 hb h, b0]; decide
        have s0 := bs_ss_0 hc
        rw [s0] at hat ht hK
        rw [rn_ev_c0 h b0] at hE hK
        exact xr_cl hN hp0 hroot hS M5 M6 F0 ih (b := 0) hd hf hg hs hi h b0 (by decide) rn_ok_0 rn_ok_0 hm hat (Nat.le_refl _) (by omega) (fun _ => ⟨rfl, rfl⟩) (fun z => absurd z (by decide)) (fun z => absurd z (by decide)) hE
          (fun e t' Z' ht' ag => hK e t' Z' (by omega) ag)
      · have hc := ab_cB1 hb h b1
        have e1 := c0 (by omega)
        have e3 := bs_ch_l hb.2.2 hi (k := 0) (by omega)
        have l0 := lt 0 (by omega)
        have s0 := sle (bs_ch (sp_c K B g) i 0)
        have g0 := gd 0 m (by omega) hm
        refine xr_go ih hN hp0 hd hf hg hs hi hb.2.2 (j := 0) (by omega) (f1 0 (by omega) (fun z => absurd z n8)) hxy hm (by rw [e1]; exact hat) h5 h6 (by omega) (fun n => ?_) (fun y1 t1 Z1 ht1 ag1 at1 v1 q5 q6 => ?_)
        · rw [rn_ev_c1 h b1, rn_bd_f n] at hE
          exact hE n
        · rw [rn_ev_c1 h b1, rn_bd_t y1] at hE hK
          rw [e3] at at1
          rw [e1] at ag1
          exact xr_cl hN hp0 hroot hS M5 M6 F0 ih (b := 1) (lo := S g + bs_ss (sp_c K B g) i) hd hf hg hs hi h b1 (by decide) (g0.2.1 y1) rn_ok_0 g0.2.2.2 at1 (by omega) (by omega) (fun z => absurd z (by decide)) (fun _ => ⟨v1.symm, rfl⟩) (fun z => absurd z (by decide)) hE
            (fun e t' Z' ht' ag => hK e t' Z' (by omega) (xr_ag_t ag1 ag (Nat.le_refl _)))
      · have hc := (ab_cB2 hb hi h (by rw [b2]; decide) (by rw [b2]; decide)).1
        have e1 := c0 (by omega)
        have e2 := bs_ch_n hb.2.2 hi (k := 0) (by omega)
        have e3 := bs_ch_l hb.2.2 hi (k := 1) (by omega)
        have l0 := lt 0 (by omega)
        have l1 := lt 1 (by omega)
        have s0 := sle (bs_ch (sp_c K B g) i 0)
        have s1 := sle (bs_ch (sp_c K B g) i 1)
        have g0 := gd 0 m (by omega) hm
        rw [Nat.zero_add] at e2
        refine xr_go ih hN hp0 hd hf hg hs hi hb.2.2 (j := 0) (by omega) (f1 0 (by omega) (fun z => absurd z n8)) hxy hm (by rw [e1]; exact hat) h5 h6 (by omega) (fun n => ?_) (fun y1 t1 Z1 ht1 ag1 at1 v1 q5 q6 => ?_)
        · rw [rn_ev_c2 h b2, rn_bd_f n] at hE
          exact hE n
        · have g1 := gd 1 _ (by omega) g0.2.2.2
          refine xr_go ih hN hp0 hd hf hg hs hi hb.2.2 (j := 1) (by omega) (f1 1 (by omega) (fun z => absurd z n8)) hxy g0.2.2.2 (by rw [e2]; exact at1) q5 q6 (by omega) (fun n => ?_) (fun y2 t2 Z2 ht2 ag2 at2 v2 q5 q6 => ?_)
          · rw [rn_ev_c2 h b2, rn_bd_t y1, rn_bd_f n] at hE
            exact hE n
          · rw [rn_ev_c2 h b2, rn_bd_t y1, rn_bd_t y2] at hE hK
            rw [e3] at at2
            rw [e1] at ag1
            have vq := (xr_vk ag2 (show bs_ch (sp_c K B g) i 0 < _ by omega)).trans v1
            have ag12 : xr_ag fr (S g + bs_ss (sp_c K B g) i) Z Z2 := xr_ag_t ag1 ag2 (by omega)
            exact xr_cl hN hp0 hroot hS M5 M6 F0 ih (b := 2) (lo := S g + bs_ss (sp_c K B g) i) hd hf hg hs hi h b2 (by decide) (g0.2.1 y1) (g1.2.1 y2) g1.2.2.2 at2 (by omega) (by omega) (fun z => absurd z (by decide)) (fun z => absurd z (by decide)) (fun _ => ⟨vq.symm, v2.symm⟩) hE
              (fun e t' Z' ht' ag => hK e t' Z' (by omega) (xr_ag_t ag12 ag (Nat.le_refl _)))
end
end
section
theorem bs_ch_congr {c c' : Nat → Nat} {n : Nat} (h : ∀ i, i < n → c i = c' i) {i : Nat} (hi : i < n) (j : Nat) : bs_ch c i j = bs_ch c' i j := by
  unfold bs_ch; rw [h i hi, bs_sc_congr i (fun k hk => h k (by omega))]
theorem bs_ss_congr {c c' : Nat → Nat} {n : Nat} (h : ∀ i, i < n → c i = c' i) {i : Nat} (hi : i < n) : bs_ss c i = bs_ss c' i := by
  unfold bs_ss; rw [h i hi, bs_sc_congr i (fun k hk => h k (by omega))]
theorem bs_wf_congr {c c' : Nat → Nat} {n : Nat} (h : ∀ i, i < n → c i = c' i) (w : bs_wf c n) : bs_wf c' n := fun i hi => by
  rw [← h i hi, ← bs_pc_congr i (fun k hk => h k (by omega))]; exact w i hi
theorem bs_sc_gt {c : Nat → Nat} {n q q' : Nat} (h : q < q') (hp : 0 < bs_sc c q n) : bs_sc c q' n < bs_sc c q n := by
  obtain ⟨d, rfl⟩ : ∃ d, q' = q + d := ⟨q' - q, by omega⟩
  rw [bs_sc_add]
  exact bs_sc_lt c (by omega) hp
def rl_c (K B : Nat → Int32) : Nat → Nat := fun i => bs_cc (K i) (B i)
def rl_D (S : Nat) (dp : Nat → Int32) : Nat → Nat := fun i => (dp (S + i)).toNatClampNeg
/-- row i of a body that lies at S in the pool: kinds, operands, children, parents, depths -/
def rl_row (S : Nat) (K A B kd fo so ch pa dp : Nat → Int32) (i : Nat) : Prop :=
  kd (S + i) = K i ∧ fo (S + i) = A i ∧ so (S + i) = B i ∧ (∀ j, j < rl_c K B i → ch ((S + i) * 3 + j) = nI (S + bs_ch (rl_c K B) i j) ∧ pa (S + bs_ch (rl_c K B) i j) = nI (S + i))
  ∧ dp (S + i) = nI (bs_dm (rl_c K B) (rl_D S dp) i (rl_c K B i) + 1) ∧ bs_dm (rl_c K B) (rl_D S dp) i (rl_c K B i) + 1 ≤ 10
def rl_body (N k n S : Nat) (K A B kd fo so ch pa dp : Nat → Int32) : Prop :=
  S + n ≤ 128 ∧ ab_bd N k n K A B (rl_c K B) ∧ ∀ i, i < n → rl_row S K A B kd fo so ch pa dp i
theorem rl_bd_congr {N k n : Nat} {K A B K' A' B' : Nat → Int32} (h : ab_bd N k n K A B (rl_c K B)) (hK : ∀ i, i < n → K' i = K i ∧ A' i = A i ∧ B' i = B i) : ab_bd N k n K' A' B' (rl_c K' B') := by
  refine ⟨fun i hi => ?_, fun i => rfl, bs_wf_congr (c := rl_c K B) (fun i hi => ?_) h.2.2⟩
  · obtain ⟨a, b, c⟩ := hK i hi
    rw [a, b, c]; exact h.1 i hi
  · obtain ⟨a, b, c⟩ := hK i hi
    show bs_cc (K i) (B i) = bs_cc (K' i) (B' i)
    rw [a, c]
theorem rl_D_lt {N k n S : Nat} {K A B kd fo so ch pa dp : Nat → Int32} (h : rl_body N k n S K A B kd fo so ch pa dp) {i : Nat} (hi : i < n) : rl_D S dp i = bs_dm (rl_c K B) (rl_D S dp) i (rl_c K B i) + 1 := by
  obtain ⟨_, _, _, _, d1, d2⟩ := h.2.2 i hi
  show (dp (S + i)).toNatClampNeg = _
  rw [d1, nI_clamp (by omega)]
theorem rl_D_ch {N k n S : Nat} {K A B kd fo so ch pa dp : Nat → Int32} (h : rl_body N k n S K A B kd fo so ch pa dp) {i : Nat} (hi : i < n) {j : Nat} (hj : j < rl_c K B i) : rl_D S dp (bs_ch (rl_c K B) i j) < rl_D S dp i := by
  rw [rl_D_lt h hi]
  have := bs_dm_le (rl_c K B) (rl_D S dp) i (n := rl_c K B i) (j := rl_c K B i - 1 - j) (by omega)
  unfold bs_ch
  omega
theorem rl_D_in {N k n S : Nat} {K A B kd fo so ch pa dp : Nat → Int32} (h : rl_body N k n S K A B kd fo so ch pa dp) {i : Nat} (hi : i < n) : 1 ≤ rl_D S dp i ∧ rl_D S dp i ≤ 10 := by
  rw [rl_D_lt h hi]
  obtain ⟨_, _, _, _, d1, d2⟩ := h.2.2 i hi
  omega
/-- a body stays when its own rows stay -/
theorem rl_keep {N k n S : Nat} {K A B kd fo so ch pa dp K' A' B' kd' fo' so' ch' pa' dp' : Nat → Int32} (h : rl_body N k n S K A B kd fo so ch pa dp) (hK : ∀ i, i < n → K' i = K i ∧ A' i = A i ∧ B' i = B i)
    (hr : ∀ r, S ≤ r → r < S + n → kd' r = kd r ∧ fo' r = fo r ∧ so' r = so r ∧ pa' r = pa r ∧ dp' r = dp r) (hc : ∀ q, S * 3 ≤ q → q < (S + n) * 3 → ch' q = ch q) : rl_body N k n S K' A' B' kd' fo' so' ch' pa' dp' := by
  have cc : ∀ i, i < n → rl_c K B i = rl_c K' B' i := fun i hi => by
    obtain ⟨a, b, c⟩ := hK i hi
    show bs_cc (K i) (B i) = bs_cc (K' i) (B' i)
    rw [a, c]
  refine ⟨h.1, rl_bd_congr h.2.1 hK, fun i hi => ?_⟩
  obtain ⟨r1, r2, r3, r4, r5, r6⟩ := h.2.2 i hi
  obtain ⟨a, b, c⟩ := hK i hi
  obtain ⟨a1, a2, a3, a4, a5⟩ := hr (S + i) (by omega) (by omega)
  have dd : ∀ i, i < n → rl_D S dp i = rl_D S dp' i := fun i hi => by
    unfold rl_D; rw [(hr (S + i) (by omega) (by omega)).2.2.2.2]
  have dm : bs_dm (rl_c K B) (rl_D S dp) i (rl_c K B i) = bs_dm (rl_c K' B') (rl_D S dp') i (rl_c K' B' i) := by
    rw [← cc i hi]
    exact bs_dm_congr (fun j hj => cc j (by omega)) (fun j hj => dd j (by omega)) (fun j hj => bs_ch_pos h.2.1.2.2 hi hj)
  refine ⟨a1.trans (r1.trans a.symm), a2.trans (r2.trans b.symm), a3.trans (r3.trans c.symm), fun j hj => ?_, ?_, ?_⟩
  · rw [← cc i hi] at hj
    obtain ⟨q1, q2⟩ := r4 j hj
    have l := bs_ch_lt h.2.1.2.2 hi hj
    have l3 : j < 3 := by
      have := cc i hi
      have : rl_c K B i ≤ 3 := by
        show bs_cc (K i) (B i) ≤ 3
        rcases bd_10 (h.2.1.1 i hi) with z | z | z | z | z | z | z | z | z | z <;> rw [z]
        · rw [bs_cc0]; decide
        · rw [bs_cc1]; decide
        · rw [bs_cc2]; decide
        · rw [bs_cc3]; decide
        · rw [bs_cc4]; decide
        · rw [bs_cc5]; decide
        · rw [bs_cc6]; decide
        · rw [bs_cc7]; decide
        · rw [bs_cc8]; decide
        · rw [bs_cc9]
          rcases ab_B h.2.1 hi with y | y | y <;> rw [y] <;> decide
      omega
    rw [← bs_ch_congr cc hi j]
    exact ⟨(hc _ (by omega) (by omega)).trans q1, ((hr _ (by omega) (by omega)).2.2.2.1).trans q2⟩
  · rw [a5, r5, dm]
  · rw [← dm]; exact r6
/-- a body with one row more -/
theorem rl_add {N k n S : Nat} {K A B kd fo so ch pa dp K' A' B' kd' fo' so' ch' pa' dp' : Nat → Int32} {w : Nat} (h : rl_body N k n S K A B kd fo so ch pa dp) (hK : ∀ i, i < n → K' i = K i ∧ A' i = A i ∧ B' i = B i)
    (hn : bd_nd N k (K' n) (A' n) (B' n)) (hw : bs_cc (K' n) (B' n) = w) (hwp : w ≤ bs_pc (rl_c K B) n) (hS : S + n < 128)
    (hpn : ∀ q, q < bs_pc (rl_c K B) n → pa (S + (bs_sc (rl_c K B) q n - 1)) = -1)
    (hr : ∀ r, S ≤ r → r < S + n → kd' r = kd r ∧ fo' r = fo r ∧ so' r = so r ∧ dp' r = dp r) (hc : ∀ q, S * 3 ≤ q → q < (S + n) * 3 → ch' q = ch q)
    (hpa : ∀ r, S ≤ r → r < S + n → (∀ q, q < w → r ≠ S + (bs_sc (rl_c K B) q n - 1)) → pa' r = pa r) (hpw : ∀ q, q < w → pa' (S + (bs_sc (rl_c K B) q n - 1)) = nI (S + n))
    (h1 : kd' (S + n) = K' n) (h2 : fo' (S + n) = A' n) (h3 : so' (S + n) = B' n) (h4 : ∀ j, j < w → ch' ((S + n) * 3 + j) = nI (S + (bs_sc (rl_c K B) (w - 1 - j) n - 1)))
    (h5 : dp' (S + n) = nI (bs_dm (rl_c K B) (rl_D S dp) n w + 1)) (h6 : bs_dm (rl_c K B) (rl_D S dp) n w + 1 ≤ 10) :
    rl_body N k (n + 1) S K' A' B' kd' fo' so' ch' pa' dp' := by
  have wf : bs_wf (rl_c K B) n := h.2.1.2.2
  have pos := bs_pos wf
  have m1 : ∀ i : Nat, nI (S + i) = -1 → S + i < 2 ^ 31 → False := fun i e hi => by
    have := nI_pos' hi
    rw [e] at this
    exact absurd this (by decide)
  have cc : ∀ i, i < n → rl_c K B i = rl_c K' B' i := fun i hi => by
    obtain ⟨a, b, c⟩ := hK i hi
    show bs_cc (K i) (B i) = bs_cc (K' i) (B' i)
    rw [a, c]
  have cn : rl_c K' B' n = w := hw
  have dd : ∀ i, i < n → rl_D S dp i = rl_D S dp' i := fun i hi => by
    unfold rl_D; rw [(hr (S + i) (by omega) (by omega)).2.2.2]
  have dmn : bs_dm (rl_c K B) (rl_D S dp) n w = bs_dm (rl_c K' B') (rl_D S dp') n w :=
    bs_dm_congr cc dd (fun j hj => pos.1 j (by omega))
  refine ⟨by omega, ⟨fun i hi => ?_, fun i => rfl, fun i hi => ?_⟩, fun i hi => ?_⟩
  · by_cases e : i = n
    · subst e; exact hn
    · obtain ⟨a, b, c⟩ := hK i (by omega)
      rw [a, b, c]; exact h.2.1.1 i (by omega)
  · by_cases e : i = n
    · subst e; rw [cn, ← bs_pc_congr i cc]; exact hwp
    · exact bs_wf_congr cc wf i (by omega)
  · by_cases e : i = n
    · subst e
      refine ⟨h1, h2, h3, fun j hj => ?_, ?_, ?_⟩
      · rw [cn] at hj
        have ce : bs_ch (rl_c K' B') i j = bs_sc (rl_c K B) (w - 1 - j) i - 1 := by
          unfold bs_ch; rw [cn, ← bs_sc_congr i cc]
        rw [ce]
        exact ⟨h4 j hj, hpw _ (by omega)⟩
      · rw [cn, h5, dmn]
      · rw [cn, ← dmn]; exact h6
    · have hi : i < n := by omega
      obtain ⟨r1, r2, r3, r4, r5, r6⟩ := h.2.2 i hi
      obtain ⟨a, b, c⟩ := hK i hi
      obtain ⟨a1, a2, a3, a5⟩ := hr (S + i) (by omega) (by omega)
      have dm : bs_dm (rl_c K B) (rl_D S dp) i (rl_c K B i) = bs_dm (rl_c K' B') (rl_D S dp') i (rl_c K' B' i) := by
        rw [← cc i hi]
        exact bs_dm_congr (fun j hj => cc j (by omega)) (fun j hj => dd j (by omega)) (fun j hj => bs_ch_pos wf hi hj)
      refine ⟨a1.trans (r1.trans a.symm), a2.trans (r2.trans b.symm), a3.trans (r3.trans c.symm), fun j hj => ?_, ?_, ?_⟩
      · rw [← cc i hi] at hj
        obtain ⟨q1, q2⟩ := r4 j hj
        have l := bs_ch_lt wf hi hj
        have l3 : j < 3 := by
          have : rl_c K B i ≤ 3 := by
            show bs_cc (K i) (B i) ≤ 3
            rcases bd_10 (h.2.1.1 i hi) with z | z | z | z | z | z | z | z | z | z <;> rw [z]
            · rw [bs_cc0]; decide
            · rw [bs_cc1]; decide
            · rw [bs_cc2]; decide
            · rw [bs_cc3]; decide
            · rw [bs_cc4]; decide
            · rw [bs_cc5]; decide
            · rw [bs_cc6]; decide
            · rw [bs_cc7]; decide
            · rw [bs_cc8]; decide
            · rw [bs_cc9]
              rcases ab_B h.2.1 hi with y | y | y <;> rw [y] <;> decide
          omega
        rw [← bs_ch_congr cc hi j]
        refine ⟨(hc _ (by omega) (by omega)).trans q1, (hpa _ (by omega) (by omega) fun q hq z => ?_).trans q2⟩
        have := hpn q (by omega)
        rw [← z, q2] at this
        exact m1 i this (by omega)
      · rw [a5, r5, dm]
      · rw [← dm]; exact r6
end
section
/-- the rows of slot f in the reference's arrays -/
def rl_K (a : Nat → Int32) (f : Nat) : Nat → Int32 := fun i => a (f * 128 + i)
def rl_sum (st : Nat → Int32) (sz : Nat → Nat) : Nat → Nat
  | 0 => 0
  | n + 1 => rl_sum st sz n + (if st n = 0 then 0 else sz n)
theorem rl_sum_s (st : Nat → Int32) (sz : Nat → Nat) (n : Nat) : rl_sum st sz (n + 1) = rl_sum st sz n + (if st n = 0 then 0 else sz n) := rfl
/-- one slot: both sizes, the start, the body; a defined one is one whole tree -/
def rl_slot (N U f z S : Nat) (st ar szX szY sX bk ba bb kd fo so ch pa dp : Nat → Int32) : Prop :=
  (st f = 0 ∨ st f = 1 ∨ st f = 2) ∧
  (st f ≠ 0 → szX f = nI z ∧ szY f = nI z ∧ sX f = nI S ∧ S + z ≤ U ∧ ∃ k : Nat, k ≤ 2 ∧ ar f = nI k ∧ rl_body N k z S (rl_K bk f) (rl_K ba f) (rl_K bb f) kd fo so ch pa dp) ∧
  (st f = 2 → 0 < z ∧ bs_pc (rl_c (rl_K bk f) (rl_K bb f)) z = 1 ∧ pa (S + (z - 1)) = -1)
def rl_slots (N U : Nat) (sz S : Nat → Nat) (st ar szX szY sX bk ba bb kd fo so ch pa dp : Nat → Int32) : Prop :=
  ∀ f, f < N → rl_slot N U f (sz f) (S f) st ar szX szY sX bk ba bb kd fo so ch pa dp
/-- the pending subtrees of the body under way -/
def rl_pend (z S P : Nat) (K B pe pa : Nat → Int32) : Prop :=
  P = bs_pc (rl_c K B) z ∧ ∀ q, q < P → pe (P - 1 - q) = nI (S + (bs_sc (rl_c K B) q z - 1)) ∧ pa (S + (bs_sc (rl_c K B) q z - 1)) = -1
/-- no slot is under way, or b is -/
def rl_bld (N U : Nat) (sz S : Nat → Nat) (st bk bb pe pa : Nat → Int32) (bs pc : Int32) : Prop :=
  (bs = -1 ∧ pc = 0 ∧ ∀ f, f < N → st f ≠ 1) ∨
  (∃ b P : Nat, b < N ∧ bs = nI b ∧ pc = nI P ∧ st b = 1 ∧ (∀ f, f < N → f ≠ b → st f ≠ 1) ∧ S b + sz b = U ∧ (∀ f, f < N → st f = 2 → S f + sz f ≤ S b) ∧ rl_pend (sz b) (S b) P (rl_K bk b) (rl_K bb b) pe pa)
/-- the tables -/
def rl_tab (N : Nat) (tb : Nat → ty_T) (su nx ta nt : Nat → Int32) : Prop :=
  (∀ q, ty_ok (tb q)) ∧ (∀ q, q < 24 → su q = ty_x (tb q) ∧ ta q = ty_y (tb q)) ∧ (∀ q, 3 * N ≤ q → q < 24 → nx q = 0 ∧ nt q = 0)
section
variable {N U : Nat} {sz S : Nat → Nat} {st ar szX szY sX bk ba bb kd fo so ch pa dp : Nat → Int32}
theorem rl_sp_ok (h : rl_slots N U sz S st ar szX szY sX bk ba bb kd fo so ch pa dp) : sp_ok N (rl_K bk) (rl_K ba) (rl_K bb) st ar sz := by
  intro f hf hs
  obtain ⟨_, h1, h2⟩ := h f hf
  obtain ⟨_, _, _, _, k, hk, ek, b1, b2, _⟩ := h1 (by rw [hs]; decide)
  obtain ⟨z0, _, _⟩ := h2 hs
  exact ⟨k, hk, ek, z0, by omega, b2⟩
theorem rl_root (h : rl_slots N U sz S st ar szX szY sX bk ba bb kd fo so ch pa dp) : ∀ g, g < N → st g = 2 → bs_ss (sp_c (rl_K bk) (rl_K bb) g) (sz g - 1) = 0 := by
  intro f hf hs
  obtain ⟨_, h1, h2⟩ := h f hf
  obtain ⟨_, _, _, _, k, hk, ek, b1, b2, _⟩ := h1 (by rw [hs]; decide)
  obtain ⟨z0, z1, _⟩ := h2 hs
  have e : sz f - 1 + 1 = sz f := by omega
  exact bs_root (by rw [e]; exact b2.2.2) (by rw [e]; exact z1)
theorem rl_S128 (h : rl_slots N U sz S st ar szX szY sX bk ba bb kd fo so ch pa dp) : ∀ g, g < N → st g = 2 → S g + sz g ≤ 128 := by
  intro f hf hs
  obtain ⟨_, h1, h2⟩ := h f hf
  obtain ⟨_, _, _, _, k, hk, ek, b1, b2, _⟩ := h1 (by rw [hs]; decide)
  exact b1
theorem rl_hD (h : rl_slots N U sz S st ar szX szY sX bk ba bb kd fo so ch pa dp) : ∀ g, g < N → st g = 2 → ∀ i, i < sz g → ∀ j, j < sp_c (rl_K bk) (rl_K bb) g i → rl_D (S g) dp (bs_ch (sp_c (rl_K bk) (rl_K bb) g) i j) < rl_D (S g) dp i := by
  intro f hf hs i hi j hj
  obtain ⟨_, h1, h2⟩ := h f hf
  obtain ⟨_, _, _, _, k, hk, ek, b⟩ := h1 (by rw [hs]; decide)
  exact rl_D_ch b hi hj
theorem rl_hD1 (h : rl_slots N U sz S st ar szX szY sX bk ba bb kd fo so ch pa dp) : ∀ g, g < N → st g = 2 → ∀ i, i < sz g → 1 ≤ rl_D (S g) dp i ∧ rl_D (S g) dp i ≤ 10 := by
  intro f hf hs i hi
  obtain ⟨_, h1, h2⟩ := h f hf
  obtain ⟨_, _, _, _, k, hk, ek, b⟩ := h1 (by rw [hs]; decide)
  exact rl_D_in b hi
end
/-- the sum of the sizes, by one slot changed -/
theorem rl_sum_ge {st st' : Nat → Int32} {sz sz' : Nat → Nat} {b : Nat} (h : ∀ f, f ≠ b → st' f = st f ∧ sz' f = sz f) : ∀ n, n ≤ b → rl_sum st' sz' n = rl_sum st sz n := by
  intro n
  induction n with
  | zero => intro _; rfl
  | succ n ih =>
    intro hn
    obtain ⟨a, c⟩ := h n (by omega)
    rw [rl_sum_s, rl_sum_s, a, c, ih (by omega)]
theorem rl_sum_upd {st st' : Nat → Int32} {sz sz' : Nat → Nat} {b : Nat} (h : ∀ f, f ≠ b → st' f = st f ∧ sz' f = sz f) : ∀ n, b < n → rl_sum st' sz' n + (if st b = 0 then 0 else sz b) = rl_sum st sz n + (if st' b = 0 then 0 else sz' b) := by
  intro n
  induction n with
  | zero => intro hn; exact absurd hn (Nat.not_lt_zero b)
  | succ n ih =>
    intro hn
    rw [rl_sum_s, rl_sum_s]
    by_cases e : b = n
    · subst e
      rw [rl_sum_ge h b (Nat.le_refl _)]
      omega
    · obtain ⟨a, c⟩ := h n (fun z => e z.symm)
      have := ih (by omega)
      rw [a, c]
      omega
end
section
section
variable {post : Int32 → Prop}
theorem xt_has {t : ty_T} (h : ty_ok t) (h0 : t.2.1 = 0 → post 0) (h1 : ¬ t.2.1 = 0 → post 1) : wpX_hasInts post (ty_x t) :=
  br_c (fun z => h0 ((ty_xi0 h).mp z)) (fun z => h1 (fun e => z ((ty_xi0 h).mpr e)))
theorem xt_low {t : ty_T} (h : ty_ok t) (h0 : t.2.1 ≠ 0) (p : post (ty_lw t.2.1)) : wpX_lowOf post (ty_x t) := by
  unfold wpX_lowOf; rw [ty_xlow h h0]; exact p
theorem xt_high {t : ty_T} (h : ty_ok t) (h0 : t.2.1 ≠ 0) (p : post (ty_hw t.2.2)) : wpX_highOf post (ty_x t) := by
  unfold wpX_highOf; rw [ty_xhigh h h0]; exact p
/-- the fields that the component's meet chooses -/
theorem ty_xmeet {s t : ty_T} (hs : ty_ok s) (ht : ty_ok t) {L H : Nat} (hL : L = max (ty_L s.2.1) (ty_L t.2.1)) (hH : H = min (ty_H s.2.2) (ty_H t.2.2)) :
    (L ≤ H → nI (s.1 &&& t.1) ||| nI (256 * L) ||| nI (65536 * H) = ty_x (ty_meet s t)) ∧ (¬ L ≤ H → nI (s.1 &&& t.1) = ty_x (ty_meet s t)) := by
  have hm : s.1 &&& t.1 < 256 := Nat.and_lt_two_pow (n := 8) _ ht.1
  have s1 := ty_ok_l hs
  have s2 := ty_ok_h hs
  have t1 := ty_ok_l ht
  have t2 := ty_ok_h ht
  have s0 := ty_ok_0 hs
  have t0 := ty_ok_0 ht
  have z1 := ty_L_0 s1
  have z2 := ty_L_0 t1
  have z3 := @ty_H_0 s.2.2
  have z4 := @ty_H_0 t.2.2
  by_cases a : s.2.1 = 0
  · have e : ty_meet s t = (s.1 &&& t.1, 0, 0) := by unfold ty_meet; rw [if_pos (by omega)]
    rw [e]
    refine ⟨fun z => ?_, fun _ => rfl⟩
    have l0 : L = ty_L 0 := by
      have : ty_L 0 = 0 := rfl
      omega
    have h0 : H = ty_H 0 := by
      have : ty_H 0 = 0 := rfl
      omega
    rw [l0, h0]
    exact ty_x3 _ 0 0 hm (by decide)
  · by_cases b : t.2.1 = 0
    · have e : ty_meet s t = (s.1 &&& t.1, 0, 0) := by unfold ty_meet; rw [if_pos (by omega)]
      rw [e]
      refine ⟨fun z => ?_, fun _ => rfl⟩
      have l0 : L = ty_L 0 := by
        have : ty_L 0 = 0 := rfl
        omega
      have h0 : H = ty_H 0 := by
        have : ty_H 0 = 0 := rfl
        omega
      rw [l0, h0]
      exact ty_x3 _ 0 0 hm (by decide)
    · have q1 := ty_L_le s.2.1 (by omega) t.2.1 (by omega) (by omega) (by omega)
      have q2 := ty_H_le s.2.2 (by omega) t.2.2 (by omega) (by omega) (by omega)
      have q3 := ty_LH_le (min s.2.1 t.2.1) (by omega) (min s.2.2 t.2.2) (by omega) (by omega) (by omega)
      have eL : L = ty_L (min s.2.1 t.2.1) := by
        rw [hL]
        by_cases c : t.2.1 ≤ s.2.1
        · rw [Nat.min_eq_right c]; have := q1.mpr c; omega
        · rw [Nat.min_eq_left (by omega)]; have : ¬ ty_L s.2.1 ≤ ty_L t.2.1 := fun z => c (q1.mp z); omega
      have eH : H = ty_H (min s.2.2 t.2.2) := by
        rw [hH]
        by_cases c : s.2.2 ≤ t.2.2
        · rw [Nat.min_eq_left c]; have := q2.mpr c; omega
        · rw [Nat.min_eq_right (a := s.2.2) (b := t.2.2) (by omega)]; have : ¬ ty_H s.2.2 ≤ ty_H t.2.2 := fun z => c (q2.mp z); omega
      rw [eL, eH]
      refine ⟨fun z => ?_, fun z => ?_⟩
      · have : ty_meet s t = (s.1 &&& t.1, min s.2.1 t.2.1, min s.2.2 t.2.2) := by unfold ty_meet; rw [if_neg (by have := q3.mp z; omega)]
        rw [this]
        exact ty_x3 _ _ _ hm (by omega)
      · have : ty_meet s t = (s.1 &&& t.1, 0, 0) := by
          unfold ty_meet; rw [if_pos]
          exact Nat.lt_of_not_le fun y => z (q3.mpr y)
        rw [this]; rfl
theorem xt_meet {s t : ty_T} (hs : ty_ok s) (ht : ty_ok t) (h : post (ty_x (ty_meet s t))) : wpX_meet post (ty_x s) (ty_x t) := by
  have bs := ty_L_lt s.2.1
  have bt := ty_L_lt t.2.1
  have cs := ty_H_lt (ty_ok_h hs)
  have ct := ty_H_lt (ty_ok_h ht)
  have fin : ∀ L H : Nat, L < 110 → H < 200 → L = max (ty_L s.2.1) (ty_L t.2.1) → H = min (ty_H s.2.2) (ty_H t.2.2) → wX_meet_53 post (nI (s.1 &&& t.1)) (nI (256 * L)) (nI (65536 * H)) := by
    intro L H l1 h1 eL eH
    obtain ⟨m1, m2⟩ := ty_xmeet hs ht eL eH
    unfold wX_meet_53
    rw [ty_sh8 (by omega), ty_sh16 (by omega), show 256 * L / 256 = L by omega, show 65536 * H / 65536 = H by omega]
    by_cases c : L ≤ H
    · exact br_t (nI_le c (by omega)) (br_t rfl (by rw [m1 c]; exact h))
    · exact br_f (nI_ge (by omega) (by omega)) (br_f (by decide) (by rw [m2 c]; exact h))
  have mid : ∀ L : Nat, L < 110 → L = max (ty_L s.2.1) (ty_L t.2.1) → wX_meet_30 post (ty_x s) (ty_x t) (nI (s.1 &&& t.1)) (nI (256 * L)) := by
    intro L l1 eL
    unfold wX_meet_30
    rw [ty_xh hs, ty_xh ht]
    by_cases c : ty_H t.2.2 ≤ ty_H s.2.2
    · exact br_t (nI_le (by omega) (by omega)) (fin L _ l1 ct eL (by omega))
    · exact br_f (nI_ge (by omega) (by omega)) (fin L _ l1 cs eL (by omega))
  unfold wpX_meet
  refine nm_r (ty_xand hs ht) ?_
  rw [ty_xl hs, ty_xl ht]
  by_cases c : ty_L s.2.1 ≤ ty_L t.2.1
  · exact br_t (nI_le (by omega) (by omega)) (mid _ bt (by omega))
  · exact br_f (nI_ge (by omega) (by omega)) (mid _ bs (by omega))
theorem ty_xjoin {s t : ty_T} (hs : ty_ok s) (ht : ty_ok t) (s0 : s.2.1 ≠ 0) (t0 : t.2.1 ≠ 0) {L H : Nat} (hL : L = min (ty_L s.2.1) (ty_L t.2.1)) (hH : H = max (ty_H s.2.2) (ty_H t.2.2)) :
    nI (s.1 ||| t.1) ||| nI (256 * L) ||| nI (65536 * H) = ty_x (ty_join s t) := by
  have hm : s.1 ||| t.1 < 256 := Nat.or_lt_two_pow (n := 8) hs.1 ht.1
  have s1 := ty_ok_l hs
  have s2 := ty_ok_h hs
  have t1 := ty_ok_l ht
  have t2 := ty_ok_h ht
  have u0 := ty_ok_0 hs
  have v0 := ty_ok_0 ht
  have q1 := ty_L_le s.2.1 (by omega) t.2.1 (by omega) (by omega) (by omega)
  have q2 := ty_H_le s.2.2 (by omega) t.2.2 (by omega) (by omega) (by omega)
  have eL : L = ty_L (max s.2.1 t.2.1) := by
    rw [hL]
    by_cases c : t.2.1 ≤ s.2.1
    · rw [Nat.max_eq_left c]; have := q1.mpr c; omega
    · rw [Nat.max_eq_right (by omega)]; have : ¬ ty_L s.2.1 ≤ ty_L t.2.1 := fun z => c (q1.mp z); omega
  have eH : H = ty_H (max s.2.2 t.2.2) := by
    rw [hH]
    by_cases c : s.2.2 ≤ t.2.2
    · rw [Nat.max_eq_right c]; have := q2.mpr c; omega
    · rw [Nat.max_eq_left (a := s.2.2) (b := t.2.2) (by omega)]; have : ¬ ty_H s.2.2 ≤ ty_H t.2.2 := fun z => c (q2.mp z); omega
  rw [eL, eH]
  exact ty_x3 _ _ _ hm (by omega)
theorem ty_join_s0 {s t : ty_T} (hs : ty_ok s) (s0 : s.2.1 = 0) : ty_join s t = (s.1 ||| t.1, t.2.1, t.2.2) := by
  have := (ty_ok_0 hs).mp s0
  unfold ty_join
  rw [s0, this, Nat.zero_max, Nat.zero_max]
theorem ty_join_t0 {s t : ty_T} (ht : ty_ok t) (t0 : t.2.1 = 0) : ty_join s t = (s.1 ||| t.1, s.2.1, s.2.2) := by
  have := (ty_ok_0 ht).mp t0
  unfold ty_join
  rw [t0, this, Nat.max_zero, Nat.max_zero]
theorem xt_join {s t : ty_T} (hs : ty_ok s) (ht : ty_ok t) (h : post (ty_x (ty_join s t))) : wpX_join post (ty_x s) (ty_x t) := by
  have hm : s.1 ||| t.1 < 256 := Nat.or_lt_two_pow (n := 8) hs.1 ht.1
  have bs := ty_L_lt s.2.1
  have bt := ty_L_lt t.2.1
  have cs := ty_H_lt (ty_ok_h hs)
  have ct := ty_H_lt (ty_ok_h ht)
  unfold wpX_join
  refine nm_r (ty_xor hs ht) ?_
  refine xt_has hs (fun s0 => br_t rfl ?_) (fun s0 => br_f (by decide) ?_)
  · rw [ty_xi ht, ty_x2' _ _ _ hm (ty_ok_h ht), ← ty_join_s0 hs s0]; exact h
  · refine xt_has ht (fun t0 => br_t rfl ?_) (fun t0 => br_f (by decide) ?_)
    · rw [ty_xi hs, ty_x2' _ _ _ hm (ty_ok_h hs), ← ty_join_t0 ht t0]; exact h
    · have mid : ∀ L : Nat, L = min (ty_L s.2.1) (ty_L t.2.1) → wX_join_58 post (ty_x s) (ty_x t) (nI (s.1 ||| t.1)) (nI (256 * L)) := by
        intro L eL
        unfold wX_join_58
        rw [ty_xh hs, ty_xh ht]
        by_cases c : ty_H s.2.2 ≤ ty_H t.2.2
        · exact br_t (nI_le (by omega) (by omega)) (nm_e (by rw [ty_xjoin hs ht s0 t0 eL (H := ty_H t.2.2) (by omega)]; exact h))
        · exact br_f (nI_ge (by omega) (by omega)) (nm_e (by rw [ty_xjoin hs ht s0 t0 eL (H := ty_H s.2.2) (by omega)]; exact h))
      rw [ty_xl hs, ty_xl ht]
      by_cases c : ty_L t.2.1 ≤ ty_L s.2.1
      · exact br_t (nI_le (by omega) (by omega)) (mid _ (by omega))
      · exact br_f (nI_ge (by omega) (by omega)) (mid _ (by omega))
theorem xt_r54 {x2 x3 : Int32} (h : post (((x2 + 100) <<< ((8 : Int32) &&& 31)) ||| ((ty_rw x3 + 100) <<< ((16 : Int32) &&& 31)))) : wX_rangeType_54 post x2 x3 := by
  unfold ty_rw at h
  unfold wX_rangeType_54
  by_cases a : x3 ≤ 8
  · rw [if_pos a] at h
    by_cases b : -8 ≤ x3
    · rw [if_pos b] at h; exact br_t a (br_t b h)
    · rw [if_neg b] at h; exact br_t a (br_f b h)
  · rw [if_neg a] at h; exact br_f a h
theorem xt_r25 {x2 x3 : Int32} (hl : x2 ≤ x3) (h : post (((ty_rz x2 + 100) <<< ((8 : Int32) &&& 31)) ||| ((ty_rw x3 + 100) <<< ((16 : Int32) &&& 31)))) : wX_rangeType_25 post x2 x3 := by
  unfold ty_rz at h
  unfold wX_rangeType_25
  refine br_t hl ?_
  by_cases b : -8 ≤ x2
  · rw [if_pos b] at h
    by_cases a : x2 ≤ 8
    · rw [if_pos a] at h; exact br_t b (br_t a (xt_r54 h))
    · rw [if_neg a] at h; exact br_t b (br_f a (xt_r54 h))
  · rw [if_neg b] at h; exact br_f b (xt_r54 h)
theorem ty_m99 : (-99 : Int32).toInt = -99 := by decide
theorem ty_p99 : (99 : Int32).toInt = 99 := by decide
theorem ty_rz_c {a : Int32} (h : ¬ -99 ≤ a) : ty_rz (-99) = ty_rz a := by
  rw [Int32.le_iff_toInt_le, ty_m99] at h
  unfold ty_rz
  rw [if_neg (show ¬ (-8 : Int32) ≤ -99 by decide), if_neg]
  rw [Int32.le_iff_toInt_le, ty_n8]
  omega
theorem ty_rw_c {a : Int32} (h : ¬ a ≤ 99) : ty_rw 99 = ty_rw a := by
  rw [Int32.le_iff_toInt_le, ty_p99] at h
  unfold ty_rw
  rw [if_neg (show ¬ (99 : Int32) ≤ 8 by decide), if_neg]
  rw [Int32.le_iff_toInt_le, ty_p8]
  omega
theorem ty_xr (a b : Int32) : ((ty_rz a + 100) <<< ((8 : Int32) &&& 31)) ||| ((ty_rw b + 100) <<< ((16 : Int32) &&& 31)) = ty_x (0, ty_rl a.toInt, ty_rh b.toInt) := by
  have i1 := ty_rl_in a.toInt
  have i2 := ty_rh_in b.toInt
  have h1 := ty_L_lt (ty_rl a.toInt)
  have h2 := ty_H_lt (h := ty_rh b.toInt) (by omega)
  rw [ty_rz_lw, ty_rw_hw, ty_lw_a _ (by omega) (by omega), ty_hw_a _ (by omega) (by omega), ty_sl8 (by omega), ty_sl16 (by omega)]
  exact ty_x2 _ _ (by omega)
theorem xt_range {a b : Int32} (hab : a.toInt ≤ b.toInt) (ha : a.toInt ≤ 99) (hb : -99 ≤ b.toInt) (h : post (ty_x (0, ty_rl a.toInt, ty_rh b.toInt))) : wpX_rangeType post a b := by
  rw [← ty_xr] at h
  unfold wpX_rangeType
  by_cases c : -99 ≤ a
  · refine br_t c ?_
    unfold wX_rangeType_12
    by_cases e : b ≤ 99
    · exact br_t e (xt_r25 (Int32.le_iff_toInt_le.mpr hab) h)
    · rw [← ty_rw_c e] at h
      exact br_f e (xt_r25 (by rw [Int32.le_iff_toInt_le, ty_p99]; exact ha) h)
  · refine br_f c ?_
    rw [← ty_rz_c c] at h
    unfold wX_rangeType_12
    by_cases e : b ≤ 99
    · exact br_t e (xt_r25 (by rw [Int32.le_iff_toInt_le, ty_m99]; exact hb) h)
    · rw [← ty_rw_c e] at h
      exact br_f e (xt_r25 (by decide) h)
theorem xt_isInt {v : Int32} (h1 : -99 ≤ v.toInt → v.toInt ≤ 99 → post 1) (h0 : ¬ (-99 ≤ v.toInt ∧ v.toInt ≤ 99) → post 0) : wpX_isInteger post v := by
  unfold wpX_isInteger
  by_cases a : v < -99
  · refine br_t a (h0 fun z => ?_)
    rw [Int32.lt_iff_toInt_lt, ty_m99] at a; omega
  · refine br_f a ?_
    by_cases b : 99 < v
    · refine br_t b (h0 fun z => ?_)
      rw [Int32.lt_iff_toInt_lt, ty_p99] at b; omega
    · refine br_f b ?_
      rw [Int32.lt_iff_toInt_lt, ty_m99] at a
      rw [Int32.lt_iff_toInt_lt, ty_p99] at b
      exact h1 (by omega) (by omega)
theorem ty_k0 : (1000 : Int32).toInt = 1000 := by decide
theorem ty_k7 : (1007 : Int32).toInt = 1007 := by decide
theorem xt_isAtom {v : Int32} (h1 : 1000 ≤ v.toInt → v.toInt ≤ 1007 → post 1) (h0 : ¬ (1000 ≤ v.toInt ∧ v.toInt ≤ 1007) → post 0) : wpX_isAtom post v := by
  unfold wpX_isAtom
  by_cases a : v < 1000
  · refine br_t a (h0 fun z => ?_)
    rw [Int32.lt_iff_toInt_lt, ty_k0] at a; omega
  · refine br_f a ?_
    by_cases b : 1007 < v
    · refine br_t b (h0 fun z => ?_)
      rw [Int32.lt_iff_toInt_lt, ty_k7] at b; omega
    · refine br_f b ?_
      rw [Int32.lt_iff_toInt_lt, ty_k0] at a
      rw [Int32.lt_iff_toInt_lt, ty_k7] at b
      exact h1 (by omega) (by omega)
theorem xt_isValue {v : Int32} (h1 : rn_ok v → post 1) (h0 : ¬ rn_ok v → post 0) : wpX_isValue post v := by
  unfold wpX_isValue
  refine xt_isInt (fun a b => br_f (by decide) (h1 (Or.inl ⟨a, b⟩))) (fun n => br_t rfl ?_)
  refine xt_isAtom (fun a b => br_f (by decide) (h1 (Or.inr ⟨a, b⟩))) (fun m => br_t rfl (h0 fun z => ?_))
  exact z.elim n m
end
end
section
section
variable {post : Int32 → Prop}
theorem yt_mk {u : SY} {m l h : Nat} (hm : m < 256) (hl0 : 0 < l) (hl : l ≤ 18) (hh0 : 0 < h) (hh : h ≤ 18) (p : post (ty_y (m, l, h))) : wpY_mk post u (nI m) 1 (ty_lw l) (ty_hw h) := by
  obtain ⟨f_n, f_cap, f_ana, f_res, f_anyT, f_intsT, f_wp, f_vp, f_made, f_active, f_xp, f_curK, f_rBot, f_rR, f_rE0, f_rE1, a_st, a_ar, a_size, a_bk, a_ba, a_bb, a_ds, a_tab, a_nxt, a_wN, a_wS, a_wF, a_vs, a_frS, a_frP0, a_frP1, a_xN, a_xS, a_xE0, a_xE1, a_xA, a_xB, a_xC, a_xD, a_xE, a_xF, a_xG⟩ := u
  refine br_f (by decide) ?_
  rw [ty_mk1 hm hl0 hl hh0 hh]
  exact p
theorem yt_has {u : SY} {t : ty_T} (h : ty_ok t) (h0 : t.2.1 = 0 → post 0) (h1 : ¬ t.2.1 = 0 → post 1) : wpY_has post u (ty_y t) := by
  obtain ⟨f_n, f_cap, f_ana, f_res, f_anyT, f_intsT, f_wp, f_vp, f_made, f_active, f_xp, f_curK, f_rBot, f_rR, f_rE0, f_rE1, a_st, a_ar, a_size, a_bk, a_ba, a_bb, a_ds, a_tab, a_nxt, a_wN, a_wS, a_wF, a_vs, a_frS, a_frP0, a_frP1, a_xN, a_xS, a_xE0, a_xE1, a_xA, a_xB, a_xC, a_xD, a_xE, a_xF, a_xG⟩ := u
  exact br_c (fun z => h0 ((ty_yhas0 h).mp z)) (fun z => h1 (fun e => z ((ty_yhas0 h).mpr e)))
theorem yt_lo {u : SY} {t : ty_T} (h : ty_ok t) (h0 : t.2.1 ≠ 0) (p : post (ty_lw t.2.1)) : wpY_lo post u (ty_y t) := by
  obtain ⟨f_n, f_cap, f_ana, f_res, f_anyT, f_intsT, f_wp, f_vp, f_made, f_active, f_xp, f_curK, f_rBot, f_rR, f_rE0, f_rE1, a_st, a_ar, a_size, a_bk, a_ba, a_bb, a_ds, a_tab, a_nxt, a_wN, a_wS, a_wF, a_vs, a_frS, a_frP0, a_frP1, a_xN, a_xS, a_xE0, a_xE1, a_xA, a_xB, a_xC, a_xD, a_xE, a_xF, a_xG⟩ := u
  unfold wpY_lo
  dsimp only
  rw [ty_ylow h h0]
  exact p
theorem yt_hi {u : SY} {t : ty_T} (h : ty_ok t) (h0 : t.2.1 ≠ 0) (p : post (ty_hw t.2.2)) : wpY_hi post u (ty_y t) := by
  obtain ⟨f_n, f_cap, f_ana, f_res, f_anyT, f_intsT, f_wp, f_vp, f_made, f_active, f_xp, f_curK, f_rBot, f_rR, f_rE0, f_rE1, a_st, a_ar, a_size, a_bk, a_ba, a_bb, a_ds, a_tab, a_nxt, a_wN, a_wS, a_wF, a_vs, a_frS, a_frP0, a_frP1, a_xN, a_xS, a_xE0, a_xE1, a_xA, a_xB, a_xC, a_xD, a_xE, a_xF, a_xG⟩ := u
  unfold wpY_hi
  dsimp only
  rw [ty_yhigh h h0]
  exact p
theorem yt_meet {u : SY} {s t : ty_T} (hs : ty_ok s) (ht : ty_ok t) (h : post (ty_y (ty_meet s t))) : wpY_meet post u (ty_y s) (ty_y t) := by
  obtain ⟨f_n, f_cap, f_ana, f_res, f_anyT, f_intsT, f_wp, f_vp, f_made, f_active, f_xp, f_curK, f_rBot, f_rR, f_rE0, f_rE1, a_st, a_ar, a_size, a_bk, a_ba, a_bb, a_ds, a_tab, a_nxt, a_wN, a_wS, a_wF, a_vs, a_frS, a_frP0, a_frP1, a_xN, a_xS, a_xE0, a_xE1, a_xA, a_xB, a_xC, a_xD, a_xE, a_xF, a_xG⟩ := u
  have hm : s.1 &&& t.1 < 256 := Nat.and_lt_two_pow (n := 8) _ ht.1
  have s1 := ty_ok_l hs
  have s2 := ty_ok_h hs
  have t1 := ty_ok_l ht
  have t2 := ty_ok_h ht
  have u0 := ty_ok_0 hs
  have v0 := ty_ok_0 ht
  unfold wpY_meet
  dsimp only
  refine nm_r (ty_yand hs ht) ?_
  refine yt_has hs (fun s0 => br_t rfl ?_) (fun s0 => br_f (by decide) ?_)
  · have e : ty_meet s t = (s.1 &&& t.1, 0, 0) := by unfold ty_meet; rw [if_pos (by omega)]
    rw [e] at h; exact h
  · refine yt_has ht (fun t0 => br_t rfl ?_) (fun t0 => br_f (by decide) ?_)
    · have e : ty_meet s t = (s.1 &&& t.1, 0, 0) := by unfold ty_meet; rw [if_pos (by omega)]
      rw [e] at h; exact h
    · refine yt_lo hs s0 (yt_lo ht t0 (yt_hi hs s0 (yt_hi ht t0 ?_)))
      have q1 := ty_lw_le t.2.1 (by omega) s.2.1 (by omega) (by omega) (by omega)
      have q2 := ty_hw_le s.2.2 (by omega) t.2.2 (by omega) (by omega) (by omega)
      have fin : ∀ l g : Nat, l = min s.2.1 t.2.1 → g = min s.2.2 t.2.2 → wY_meet_76 post (nI (s.1 &&& t.1)) (ty_lw l) (ty_hw g) f_n f_cap f_ana f_res f_anyT f_intsT f_wp f_vp f_made f_active f_xp f_curK f_rBot f_rR f_rE0 f_rE1 a_st a_ar a_size a_bk a_ba a_bb a_ds a_tab a_nxt a_wN a_wS a_wF a_vs a_frS a_frP0 a_frP1 a_xN a_xS a_xE0 a_xE1 a_xA a_xB a_xC a_xD a_xE a_xF a_xG := by
        intro l g el eg
        have q3 := ty_lh_le l (by omega) g (by omega) (by omega) (by omega)
        unfold wY_meet_76
        by_cases c : 18 ≤ l + g
        · refine br_t (q3.mpr c) (yt_mk hm (by omega) (by omega) (by omega) (by omega) ?_)
          have : ty_meet s t = (s.1 &&& t.1, l, g) := by unfold ty_meet; rw [if_neg (by omega), el, eg]
          rw [← this]; exact h
        · refine br_f (fun z => c (q3.mp z)) ?_
          have : ty_meet s t = (s.1 &&& t.1, 0, 0) := by unfold ty_meet; rw [if_pos (by omega)]
          rw [this] at h; exact h
      have mid : ∀ l : Nat, l = min s.2.1 t.2.1 → wY_meet_65 post (nI (s.1 &&& t.1)) (ty_lw l) (ty_hw s.2.2) (ty_hw t.2.2) f_n f_cap f_ana f_res f_anyT f_intsT f_wp f_vp f_made f_active f_xp f_curK f_rBot f_rR f_rE0 f_rE1 a_st a_ar a_size a_bk a_ba a_bb a_ds a_tab a_nxt a_wN a_wS a_wF a_vs a_frS a_frP0 a_frP1 a_xN a_xS a_xE0 a_xE1 a_xA a_xB a_xC a_xD a_xE a_xF a_xG := by
        intro l el
        unfold wY_meet_65
        by_cases c : s.2.2 ≤ t.2.2
        · exact br_t (q2.mpr c) (fin _ _ el (by omega))
        · exact br_f (fun z => c (q2.mp z)) (fin _ _ el (by omega))
      by_cases c : s.2.1 ≤ t.2.1
      · exact br_t (q1.mpr c) (mid _ (by omega))
      · exact br_f (fun z => c (q1.mp z)) (mid _ (by omega))
theorem yt_join {u : SY} {s t : ty_T} (hs : ty_ok s) (ht : ty_ok t) (h : post (ty_y (ty_join s t))) : wpY_join post u (ty_y s) (ty_y t) := by
  obtain ⟨f_n, f_cap, f_ana, f_res, f_anyT, f_intsT, f_wp, f_vp, f_made, f_active, f_xp, f_curK, f_rBot, f_rR, f_rE0, f_rE1, a_st, a_ar, a_size, a_bk, a_ba, a_bb, a_ds, a_tab, a_nxt, a_wN, a_wS, a_wF, a_vs, a_frS, a_frP0, a_frP1, a_xN, a_xS, a_xE0, a_xE1, a_xA, a_xB, a_xC, a_xD, a_xE, a_xF, a_xG⟩ := u
  have hm : s.1 ||| t.1 < 256 := Nat.or_lt_two_pow (n := 8) hs.1 ht.1
  have s1 := ty_ok_l hs
  have s2 := ty_ok_h hs
  have t1 := ty_ok_l ht
  have t2 := ty_ok_h ht
  have u0 := ty_ok_0 hs
  have v0 := ty_ok_0 ht
  unfold wpY_join
  dsimp only
  refine nm_r (ty_yor hs ht) ?_
  refine yt_has hs (fun s0 => br_t rfl ?_) (fun s0 => br_f (by decide) ?_)
  · rw [ty_ym256 ht hm, ← ty_join_s0 hs s0]; exact h
  · refine yt_has ht (fun t0 => br_t rfl ?_) (fun t0 => br_f (by decide) ?_)
    · rw [ty_ym256 hs hm, ← ty_join_t0 ht t0]; exact h
    · refine yt_lo hs s0 (yt_lo ht t0 (yt_hi hs s0 (yt_hi ht t0 ?_)))
      have q1 := ty_lw_le s.2.1 (by omega) t.2.1 (by omega) (by omega) (by omega)
      have q2 := ty_hw_le t.2.2 (by omega) s.2.2 (by omega) (by omega) (by omega)
      have fin : ∀ l g : Nat, l = max s.2.1 t.2.1 → g = max s.2.2 t.2.2 → wY_join_90 post (nI (s.1 ||| t.1)) (ty_lw l) (ty_hw g) f_n f_cap f_ana f_res f_anyT f_intsT f_wp f_vp f_made f_active f_xp f_curK f_rBot f_rR f_rE0 f_rE1 a_st a_ar a_size a_bk a_ba a_bb a_ds a_tab a_nxt a_wN a_wS a_wF a_vs a_frS a_frP0 a_frP1 a_xN a_xS a_xE0 a_xE1 a_xA a_xB a_xC a_xD a_xE a_xF a_xG := by
        intro l g el eg
        unfold wY_join_90
        refine yt_mk hm (by omega) (by omega) (by omega) (by omega) ?_
        rw [el, eg]; exact h
      have mid : ∀ l : Nat, l = max s.2.1 t.2.1 → wY_join_79 post (nI (s.1 ||| t.1)) (ty_lw l) (ty_hw s.2.2) (ty_hw t.2.2) f_n f_cap f_ana f_res f_anyT f_intsT f_wp f_vp f_made f_active f_xp f_curK f_rBot f_rR f_rE0 f_rE1 a_st a_ar a_size a_bk a_ba a_bb a_ds a_tab a_nxt a_wN a_wS a_wF a_vs a_frS a_frP0 a_frP1 a_xN a_xS a_xE0 a_xE1 a_xA a_xB a_xC a_xD a_xE a_xF a_xG := by
        intro l el
        unfold wY_join_79
        by_cases c : t.2.2 ≤ s.2.2
        · exact br_t (q2.mpr c) (fin _ _ el (by omega))
        · exact br_f (fun z => c (q2.mp z)) (fin _ _ el (by omega))
      by_cases c : t.2.1 ≤ s.2.1
      · exact br_t (q1.mpr c) (mid _ (by omega))
      · exact br_f (fun z => c (q1.mp z)) (mid _ (by omega))
theorem yt_r72 {f_n f_cap f_ana f_res f_anyT f_intsT f_wp f_vp f_made f_active f_xp f_curK f_rBot f_rR f_rE0 f_rE1 : Int32} {a_st a_ar a_size a_bk a_ba a_bb a_ds a_tab a_nxt a_wN a_wS a_wF a_vs a_frS a_frP0 a_frP1 a_xN a_xS a_xE0 a_xE1 a_xA a_xB a_xC a_xD a_xE a_xF a_xG : Nat → Int32} {a b : Int32} (h : post (ty_y (0, ty_rl a.toInt, ty_rh b.toInt))) : wY_range_72 post (ty_rz a) (ty_rw b) f_n f_cap f_ana f_res f_anyT f_intsT f_wp f_vp f_made f_active f_xp f_curK f_rBot f_rR f_rE0 f_rE1 a_st a_ar a_size a_bk a_ba a_bb a_ds a_tab a_nxt a_wN a_wS a_wF a_vs a_frS a_frP0 a_frP1 a_xN a_xS a_xE0 a_xE1 a_xA a_xB a_xC a_xD a_xE a_xF a_xG := by
  have i1 := ty_rl_in a.toInt
  have i2 := ty_rh_in b.toInt
  unfold wY_range_72
  rw [ty_rz_lw, ty_rw_hw]
  exact yt_mk (m := 0) (by decide) (by omega) (by omega) (by omega) (by omega) h
theorem yt_r48 {f_n f_cap f_ana f_res f_anyT f_intsT f_wp f_vp f_made f_active f_xp f_curK f_rBot f_rR f_rE0 f_rE1 : Int32} {a_st a_ar a_size a_bk a_ba a_bb a_ds a_tab a_nxt a_wN a_wS a_wF a_vs a_frS a_frP0 a_frP1 a_xN a_xS a_xE0 a_xE1 a_xA a_xB a_xC a_xD a_xE a_xF a_xG : Nat → Int32} {a b : Int32} (h : post (ty_y (0, ty_rl a.toInt, ty_rh b.toInt))) : wY_range_48 post b (ty_rz a) f_n f_cap f_ana f_res f_anyT f_intsT f_wp f_vp f_made f_active f_xp f_curK f_rBot f_rR f_rE0 f_rE1 a_st a_ar a_size a_bk a_ba a_bb a_ds a_tab a_nxt a_wN a_wS a_wF a_vs a_frS a_frP0 a_frP1 a_xN a_xS a_xE0 a_xE1 a_xA a_xB a_xC a_xD a_xE a_xF a_xG := by
  have h := yt_r72 (post := post) (f_n := f_n) (f_cap := f_cap) (f_ana := f_ana) (f_res := f_res) (f_anyT := f_anyT) (f_intsT := f_intsT) (f_wp := f_wp) (f_vp := f_vp) (f_made := f_made) (f_active := f_active) (f_xp := f_xp) (f_curK := f_curK) (f_rBot := f_rBot) (f_rR := f_rR) (f_rE0 := f_rE0) (f_rE1 := f_rE1) (a_st := a_st) (a_ar := a_ar) (a_size := a_size) (a_bk := a_bk) (a_ba := a_ba) (a_bb := a_bb) (a_ds := a_ds) (a_tab := a_tab) (a_nxt := a_nxt) (a_wN := a_wN) (a_wS := a_wS) (a_wF := a_wF) (a_vs := a_vs) (a_frS := a_frS) (a_frP0 := a_frP0) (a_frP1 := a_frP1) (a_xN := a_xN) (a_xS := a_xS) (a_xE0 := a_xE0) (a_xE1 := a_xE1) (a_xA := a_xA) (a_xB := a_xB) (a_xC := a_xC) (a_xD := a_xD) (a_xE := a_xE) (a_xF := a_xF) (a_xG := a_xG) h
  unfold ty_rw at h
  unfold wY_range_48
  by_cases c : b ≤ 8
  · rw [if_pos c] at h
    by_cases d : -8 ≤ b
    · rw [if_pos d] at h; exact br_t c (br_t d h)
    · rw [if_neg d] at h; exact br_t c (br_f d h)
  · rw [if_neg c] at h; exact br_f c h
theorem yt_r18 {f_n f_cap f_ana f_res f_anyT f_intsT f_wp f_vp f_made f_active f_xp f_curK f_rBot f_rR f_rE0 f_rE1 : Int32} {a_st a_ar a_size a_bk a_ba a_bb a_ds a_tab a_nxt a_wN a_wS a_wF a_vs a_frS a_frP0 a_frP1 a_xN a_xS a_xE0 a_xE1 a_xA a_xB a_xC a_xD a_xE a_xF a_xG : Nat → Int32} {a b : Int32} (hl : a ≤ b) (h : post (ty_y (0, ty_rl a.toInt, ty_rh b.toInt))) : wY_range_18 post a b f_n f_cap f_ana f_res f_anyT f_intsT f_wp f_vp f_made f_active f_xp f_curK f_rBot f_rR f_rE0 f_rE1 a_st a_ar a_size a_bk a_ba a_bb a_ds a_tab a_nxt a_wN a_wS a_wF a_vs a_frS a_frP0 a_frP1 a_xN a_xS a_xE0 a_xE1 a_xA a_xB a_xC a_xD a_xE a_xF a_xG := by
  have h := yt_r48 (post := post) (f_n := f_n) (f_cap := f_cap) (f_ana := f_ana) (f_res := f_res) (f_anyT := f_anyT) (f_intsT := f_intsT) (f_wp := f_wp) (f_vp := f_vp) (f_made := f_made) (f_active := f_active) (f_xp := f_xp) (f_curK := f_curK) (f_rBot := f_rBot) (f_rR := f_rR) (f_rE0 := f_rE0) (f_rE1 := f_rE1) (a_st := a_st) (a_ar := a_ar) (a_size := a_size) (a_bk := a_bk) (a_ba := a_ba) (a_bb := a_bb) (a_ds := a_ds) (a_tab := a_tab) (a_nxt := a_nxt) (a_wN := a_wN) (a_wS := a_wS) (a_wF := a_wF) (a_vs := a_vs) (a_frS := a_frS) (a_frP0 := a_frP0) (a_frP1 := a_frP1) (a_xN := a_xN) (a_xS := a_xS) (a_xE0 := a_xE0) (a_xE1 := a_xE1) (a_xA := a_xA) (a_xB := a_xB) (a_xC := a_xC) (a_xD := a_xD) (a_xE := a_xE) (a_xF := a_xF) (a_xG := a_xG) h
  unfold ty_rz at h
  unfold wY_range_18
  refine br_t hl ?_
  by_cases d : -8 ≤ a
  · rw [if_pos d] at h
    by_cases c : a ≤ 8
    · rw [if_pos c] at h; exact br_t d (br_t c h)
    · rw [if_neg c] at h; exact br_t d (br_f c h)
  · rw [if_neg d] at h; exact br_f d h
theorem ty_rl_c {a : Int32} (h : ¬ -99 ≤ a) : ty_rl (-99 : Int32).toInt = ty_rl a.toInt := by
  rw [Int32.le_iff_toInt_le, ty_m99] at h
  rw [ty_m99]
  unfold ty_rl
  rw [if_pos (by decide), if_pos (by omega)]
theorem ty_rh_c {a : Int32} (h : ¬ a ≤ 99) : ty_rh (99 : Int32).toInt = ty_rh a.toInt := by
  rw [Int32.le_iff_toInt_le, ty_p99] at h
  rw [ty_p99]
  unfold ty_rh
  rw [if_pos (by decide), if_pos (by omega)]
theorem yt_range {u : SY} {a b : Int32} (hab : a.toInt ≤ b.toInt) (ha : a.toInt ≤ 99) (hb : -99 ≤ b.toInt) (h : post (ty_y (0, ty_rl a.toInt, ty_rh b.toInt))) : wpY_range post u a b := by
  obtain ⟨f_n, f_cap, f_ana, f_res, f_anyT, f_intsT, f_wp, f_vp, f_made, f_active, f_xp, f_curK, f_rBot, f_rR, f_rE0, f_rE1, a_st, a_ar, a_size, a_bk, a_ba, a_bb, a_ds, a_tab, a_nxt, a_wN, a_wS, a_wF, a_vs, a_frS, a_frP0, a_frP1, a_xN, a_xS, a_xE0, a_xE1, a_xA, a_xB, a_xC, a_xD, a_xE, a_xF, a_xG⟩ := u
  unfold wpY_range
  dsimp only
  by_cases c : -99 ≤ a
  · refine br_t c ?_
    unfold wY_range_9
    by_cases e : b ≤ 99
    · exact br_t e (yt_r18 (Int32.le_iff_toInt_le.mpr hab) h)
    · rw [← ty_rh_c e] at h
      exact br_f e (yt_r18 (by rw [Int32.le_iff_toInt_le, ty_p99]; exact ha) h)
  · refine br_f c ?_
    rw [← ty_rl_c c] at h
    unfold wY_range_9
    by_cases e : b ≤ 99
    · exact br_t e (yt_r18 (by rw [Int32.le_iff_toInt_le, ty_m99]; exact hb) h)
    · rw [← ty_rh_c e] at h
      exact br_f e (yt_r18 (by decide) h)
theorem yt_code12 {f_n f_cap f_ana f_res f_anyT f_intsT f_wp f_vp f_made f_active f_xp f_curK f_rBot f_rR f_rE0 f_rE1 : Int32} {a_st a_ar a_size a_bk a_ba a_bb a_ds a_tab a_nxt a_wN a_wS a_wF a_vs a_frS a_frP0 a_frP1 a_xN a_xS a_xE0 a_xE1 a_xA a_xB a_xC a_xD a_xE a_xF a_xG : Nat → Int32} {v : Int32} (h1 : rn_ok v → post 1) (h0 : ¬ rn_ok v → post 0) (n : ¬ (-99 ≤ v.toInt ∧ v.toInt ≤ 99)) : wY_isCode_12 post v f_n f_cap f_ana f_res f_anyT f_intsT f_wp f_vp f_made f_active f_xp f_curK f_rBot f_rR f_rE0 f_rE1 a_st a_ar a_size a_bk a_ba a_bb a_ds a_tab a_nxt a_wN a_wS a_wF a_vs a_frS a_frP0 a_frP1 a_xN a_xS a_xE0 a_xE1 a_xA a_xB a_xC a_xD a_xE a_xF a_xG := by
  unfold wY_isCode_12
  by_cases a : v < 1000
  · refine br_t a (h0 fun z => ?_)
    rw [Int32.lt_iff_toInt_lt, ty_k0] at a
    rcases z with z | z <;> omega
  · refine br_f a ?_
    by_cases b : 1007 < v
    · refine br_t b (h0 fun z => ?_)
      rw [Int32.lt_iff_toInt_lt, ty_k7] at b
      rcases z with z | z <;> omega
    · rw [Int32.lt_iff_toInt_lt, ty_k0] at a
      have b' := b
      rw [Int32.lt_iff_toInt_lt, ty_k7] at b'
      exact br_f b (h1 (Or.inr (by omega)))
theorem yt_code {u : SY} {v : Int32} (h1 : rn_ok v → post 1) (h0 : ¬ rn_ok v → post 0) : wpY_isCode post u v := by
  obtain ⟨f_n, f_cap, f_ana, f_res, f_anyT, f_intsT, f_wp, f_vp, f_made, f_active, f_xp, f_curK, f_rBot, f_rR, f_rE0, f_rE1, a_st, a_ar, a_size, a_bk, a_ba, a_bb, a_ds, a_tab, a_nxt, a_wN, a_wS, a_wF, a_vs, a_frS, a_frP0, a_frP1, a_xN, a_xS, a_xE0, a_xE1, a_xA, a_xB, a_xC, a_xD, a_xE, a_xF, a_xG⟩ := u
  unfold wpY_isCode
  dsimp only
  by_cases a : v < -99
  · refine br_t a (yt_code12 h1 h0 fun z => ?_)
    rw [Int32.lt_iff_toInt_lt, ty_m99] at a; omega
  · refine br_f a ?_
    by_cases b : v ≤ 99
    · refine br_t b (h1 (Or.inl ?_))
      rw [Int32.lt_iff_toInt_lt, ty_m99] at a
      rw [Int32.le_iff_toInt_le, ty_p99] at b
      omega
    · refine br_f b (yt_code12 h1 h0 fun z => ?_)
      rw [Int32.le_iff_toInt_le, ty_p99] at b; omega
theorem yt_cc {u : SY} {N k : Nat} {κ a b : Int32} (h : bd_nd N k κ a b) (p : post (nI (bs_cc κ b))) : wpY_childCount post u κ b := by
  obtain ⟨f_n, f_cap, f_ana, f_res, f_anyT, f_intsT, f_wp, f_vp, f_made, f_active, f_xp, f_curK, f_rBot, f_rR, f_rE0, f_rE1, a_st, a_ar, a_size, a_bk, a_ba, a_bb, a_ds, a_tab, a_nxt, a_wN, a_wS, a_wF, a_vs, a_frS, a_frP0, a_frP1, a_xN, a_xS, a_xE0, a_xE1, a_xA, a_xB, a_xC, a_xD, a_xE, a_xF, a_xG⟩ := u
  unfold wpY_childCount
  dsimp only
  rcases bd_10 h with e | e | e | e | e | e | e | e | e | e <;> rw [e] at p ⊢
  · rw [bs_cc0] at p; exact br_f (by decide) p
  · rw [bs_cc1] at p; exact br_f (by decide) p
  · rw [bs_cc2] at p; exact br_f (by decide) p
  · rw [bs_cc3] at p; exact br_t (by decide) (br_f (by decide) (br_f (by decide) (br_f (by decide) p)))
  · rw [bs_cc4] at p; exact br_t (by decide) (br_f (by decide) (br_f (by decide) (br_f (by decide) p)))
  · rw [bs_cc5] at p; exact br_t (by decide) (br_f (by decide) (br_f (by decide) (br_f (by decide) p)))
  · rw [bs_cc6] at p; exact br_t (by decide) (br_f (by decide) (br_f (by decide) (br_f (by decide) p)))
  · rw [bs_cc7] at p; exact br_t (by decide) (br_t rfl p)
  · rw [bs_cc8] at p; exact br_t (by decide) (br_f (by decide) (br_t rfl p))
  · rw [bs_cc9] at p
    obtain ⟨w, hw, ew⟩ := h.2.2.2.2.2.1
    rw [ew, nI_clamp (by omega)] at p
    rw [ew]
    exact br_t (by decide) (br_f (by decide) (br_f (by decide) (br_t rfl p)))
end
end
section
theorem yk_ix {f i : Nat} (hf : f < 8) (hi : i < 128) : ((nI f * 128) + nI i) &&& 1023 = nI (f * 128 + i) := by
  rw [show (128 : Int32) = nI 128 by decide, pk_mul, nI_add, pk_andN (by omega) 10 (by decide), Nat.mod_eq_of_lt (by omega)]
theorem yk_need (a c : Nat) : nI (a + 1) + (nI c - 1) = nI (a + c) := by
  rw [← nI_1, ← nI_add]
  generalize nI c = z
  generalize nI a = y
  grind
section
variable {post : Int32 → Prop} {f_n f_cap f_ana f_res f_anyT f_intsT f_wp f_vp f_made f_active f_xp f_curK f_rBot f_rR f_rE0 f_rE1 : Int32} {a_st a_ar a_size a_bk a_ba a_bb a_ds a_tab a_nxt a_wN a_wS a_wF a_vs a_frS a_frP0 a_frP1 a_xN a_xS a_xE0 a_xE1 a_xA a_xB a_xC a_xD a_xE a_xF a_xG : Nat → Int32}
theorem yk_kind {f i : Nat} (hf : f < 8) (hi : i < 128) (p : post (rl_K a_bk f i)) : wpY_kindAt post (f_n, f_cap, f_ana, f_res, f_anyT, f_intsT, f_wp, f_vp, f_made, f_active, f_xp, f_curK, f_rBot, f_rR, f_rE0, f_rE1, a_st, a_ar, a_size, a_bk, a_ba, a_bb, a_ds, a_tab, a_nxt, a_wN, a_wS, a_wF, a_vs, a_frS, a_frP0, a_frP1, a_xN, a_xS, a_xE0, a_xE1, a_xA, a_xB, a_xC, a_xD, a_xE, a_xF, a_xG) (nI f) (nI i) := by
  unfold wpY_kindAt
  dsimp only
  rw [yk_ix hf hi, nI_clamp (by omega)]
  exact ⟨vp_in_nI (by omega) (by omega), p⟩
theorem yk_opA {f i : Nat} (hf : f < 8) (hi : i < 128) (p : post (rl_K a_ba f i)) : wpY_opA post (f_n, f_cap, f_ana, f_res, f_anyT, f_intsT, f_wp, f_vp, f_made, f_active, f_xp, f_curK, f_rBot, f_rR, f_rE0, f_rE1, a_st, a_ar, a_size, a_bk, a_ba, a_bb, a_ds, a_tab, a_nxt, a_wN, a_wS, a_wF, a_vs, a_frS, a_frP0, a_frP1, a_xN, a_xS, a_xE0, a_xE1, a_xA, a_xB, a_xC, a_xD, a_xE, a_xF, a_xG) (nI f) (nI i) := by
  unfold wpY_opA
  dsimp only
  rw [yk_ix hf hi, nI_clamp (by omega)]
  exact ⟨vp_in_nI (by omega) (by omega), p⟩
theorem yk_ss5 {N k f n : Nat} (hf : f < 8) (hn : n ≤ 128) (hb : ab_bd N k n (rl_K a_bk f) (rl_K a_ba f) (rl_K a_bb f) (rl_c (rl_K a_bk f) (rl_K a_bb f))) :
    ∀ j need fuel, j ≤ n → j < fuel → need + 3 * j < 1000 → post (nI (bs_sc (rl_c (rl_K a_bk f) (rl_K a_bb f)) (need + 1) j)) → wY_subStart_5 post (nI f) f_n f_cap f_ana f_res f_anyT f_intsT f_wp f_vp f_made f_active f_xp f_curK f_rBot f_rR f_rE0 f_rE1 a_st a_ar a_size a_bk a_ba a_bb a_ds a_tab a_nxt a_wN a_wS a_wF a_vs a_frS a_frP0 a_frP1 a_xN a_xS a_xE0 a_xE1 a_xA a_xB a_xC a_xD a_xE a_xF a_xG fuel (nI (need + 1)) (nI j + (-1)) := by
  intro j
  induction j with
  | zero =>
    intro need fuel h1 h2 h3 p
    obtain ⟨fuel, rfl⟩ : ∃ m, fuel = m + 1 := ⟨fuel - 1, by omega⟩
    rw [bs_sc_z] at p
    exact br_t (by decide) p
  | succ j ih =>
    intro need fuel h1 h2 h3 p
    obtain ⟨fuel, rfl⟩ : ∃ m, fuel = m + 1 := ⟨fuel - 1, by omega⟩
    rw [pk_m1]
    have c3 : bs_cc (rl_K a_bk f j) (rl_K a_bb f j) ≤ 3 := by
      rcases bd_10 (hb.1 j (by omega)) with z | z | z | z | z | z | z | z | z | z <;> rw [z]
      · rw [bs_cc0]; decide
      · rw [bs_cc1]; decide
      · rw [bs_cc2]; decide
      · rw [bs_cc3]; decide
      · rw [bs_cc4]; decide
      · rw [bs_cc5]; decide
      · rw [bs_cc6]; decide
      · rw [bs_cc7]; decide
      · rw [bs_cc8]; decide
      · rw [bs_cc9]
        rcases ab_B hb (show j < n by omega) with y | y | y <;> rw [y] <;> decide
    have w : vp_in (nI (f * 128 + j)) 1024 := vp_in_nI (by omega) (by omega)
    have cl : (nI (f * 128 + j)).toNatClampNeg = f * 128 + j := nI_clamp (by omega)
    refine br_f (nI_pos (by omega)) (nm_r (yk_ix hf (by omega)) ⟨w, w, ?_⟩)
    rw [cl]
    refine yt_cc (hb.1 j (by omega)) (nm_r (e' := nI (need + bs_cc (rl_K a_bk f j) (rl_K a_bb f j))) ?_ ?_)
    · exact yk_need _ _
    · rw [bs_sc_s] at p
      by_cases e : need + bs_cc (rl_K a_bk f j) (rl_K a_bb f j) = 0
      · have e' : need + rl_c (rl_K a_bk f) (rl_K a_bb f) j = 0 := e
        rw [e', bs_sc_0] at p
        rw [e]
        exact br_t nI_0 p
      · refine br_f (nI_ne0 (by omega) (by omega)) (nm_e ?_)
        obtain ⟨q, hq⟩ : ∃ q, need + bs_cc (rl_K a_bk f j) (rl_K a_bb f j) = q + 1 := ⟨need + bs_cc (rl_K a_bk f j) (rl_K a_bb f j) - 1, by omega⟩
        have hq' : need + rl_c (rl_K a_bk f) (rl_K a_bb f) j = q + 1 := hq
        rw [hq'] at p
        rw [hq]
        exact ih q fuel (by omega) (by omega) (by omega) p
theorem yk_ss {N k f n j : Nat} (hf : f < 8) (hn : n ≤ 128) (hb : ab_bd N k n (rl_K a_bk f) (rl_K a_ba f) (rl_K a_bb f) (rl_c (rl_K a_bk f) (rl_K a_bb f))) (hj : j < n) (p : post (nI (bs_ss (rl_c (rl_K a_bk f) (rl_K a_bb f)) j))) :
    wpY_subStart post (f_n, f_cap, f_ana, f_res, f_anyT, f_intsT, f_wp, f_vp, f_made, f_active, f_xp, f_curK, f_rBot, f_rR, f_rE0, f_rE1, a_st, a_ar, a_size, a_bk, a_ba, a_bb, a_ds, a_tab, a_nxt, a_wN, a_wS, a_wF, a_vs, a_frS, a_frP0, a_frP1, a_xN, a_xS, a_xE0, a_xE1, a_xA, a_xB, a_xC, a_xD, a_xE, a_xF, a_xG) (nI f) (nI j) := by
  unfold wpY_subStart
  dsimp only
  rw [bs_ss_sc] at p
  refine ⟨j + 2, ?_⟩
  have h := yk_ss5 (post := post) (f_n := f_n) (f_cap := f_cap) (f_ana := f_ana) (f_res := f_res) (f_anyT := f_anyT) (f_intsT := f_intsT) (f_wp := f_wp) (f_vp := f_vp) (f_made := f_made) (f_active := f_active) (f_xp := f_xp) (f_curK := f_curK) (f_rBot := f_rBot) (f_rR := f_rR) (f_rE0 := f_rE0) (f_rE1 := f_rE1) (a_st := a_st) (a_ar := a_ar) (a_size := a_size) (a_bk := a_bk) (a_ba := a_ba) (a_bb := a_bb) (a_ds := a_ds) (a_tab := a_tab) (a_nxt := a_nxt) (a_wN := a_wN) (a_wS := a_wS) (a_wF := a_wF) (a_vs := a_vs) (a_frS := a_frS) (a_frP0 := a_frP0) (a_frP1 := a_frP1) (a_xN := a_xN) (a_xS := a_xS) (a_xE0 := a_xE0) (a_xE1 := a_xE1) (a_xA := a_xA) (a_xB := a_xB) (a_xC := a_xC) (a_xD := a_xD) (a_xE := a_xE) (a_xF := a_xF) (a_xG := a_xG) hf hn hb (j + 1) 0 (j + 2) (by omega) (by omega) (by omega) p
  rw [pk_m1] at h
  exact h
theorem yk_cp44 {N k f n i j : Nat} (hf : f < 8) (hn : n ≤ 128) (hb : ab_bd N k n (rl_K a_bk f) (rl_K a_ba f) (rl_K a_bb f) (rl_c (rl_K a_bk f) (rl_K a_bb f))) (hi : i < n) (hj : j < rl_c (rl_K a_bk f) (rl_K a_bb f) i)
    (p : post (nI (bs_ch (rl_c (rl_K a_bk f) (rl_K a_bb f)) i j))) :
    ∀ r q fuel, r + q + 1 + j = rl_c (rl_K a_bk f) (rl_K a_bb f) i → r < fuel → wY_childPos_44 post (nI f) (nI j) f_n f_cap f_ana f_res f_anyT f_intsT f_wp f_vp f_made f_active f_xp f_curK f_rBot f_rR f_rE0 f_rE1 a_st a_ar a_size a_bk a_ba a_bb a_ds a_tab a_nxt a_wN a_wS a_wF a_vs a_frS a_frP0 a_frP1 a_xN a_xS a_xE0 a_xE1 a_xA a_xB a_xC a_xD a_xE a_xF a_xG fuel (nI (bs_sc (rl_c (rl_K a_bk f) (rl_K a_bb f)) q i - 1)) (nI (j + r)) := by
  intro r
  have c3 := ab_c3 hb hi
  induction r with
  | zero =>
    intro q fuel h1 h2
    obtain ⟨fuel, rfl⟩ : ∃ m, fuel = m + 1 := ⟨fuel - 1, by omega⟩
    have e : bs_ch (rl_c (rl_K a_bk f) (rl_K a_bb f)) i j = bs_sc (rl_c (rl_K a_bk f) (rl_K a_bb f)) q i - 1 := by
      unfold bs_ch; rw [show rl_c (rl_K a_bk f) (rl_K a_bb f) i - 1 - j = q by omega]
    rw [e] at p
    exact br_t (nI_le (by omega) (by omega)) p
  | succ r ih =>
    intro q fuel h1 h2
    obtain ⟨fuel, rfl⟩ : ∃ m, fuel = m + 1 := ⟨fuel - 1, by omega⟩
    have p1 := bs_ch_pos hb.2.2 hi (j := q) (by omega)
    have p2 := bs_ch_pos hb.2.2 hi (j := q + 1) (by omega)
    have l1 := bs_sc_le (rl_c (rl_K a_bk f) (rl_K a_bb f)) i q
    have l2 := bs_sc_le (rl_c (rl_K a_bk f) (rl_K a_bb f)) i (q + 1)
    refine br_f (nI_ge (by omega) (by omega)) (br_f (nI_pos (by omega)) ?_)
    refine yk_ss hf hn hb (by omega) ?_
    have e1 : bs_ss (rl_c (rl_K a_bk f) (rl_K a_bb f)) (bs_sc (rl_c (rl_K a_bk f) (rl_K a_bb f)) q i - 1) = bs_sc (rl_c (rl_K a_bk f) (rl_K a_bb f)) (q + 1) i := by
      rw [bs_ss_sc, show bs_sc (rl_c (rl_K a_bk f) (rl_K a_bb f)) q i - 1 + 1 = bs_sc (rl_c (rl_K a_bk f) (rl_K a_bb f)) q i by omega, ← bs_sc_add]
    rw [e1]
    refine nm_r (e' := nI (bs_sc (rl_c (rl_K a_bk f) (rl_K a_bb f)) (q + 1) i - 1)) ?_ (nm_r (e' := nI (j + r)) ?_ ?_)
    · exact pk_sub (b := 1) p2
    · exact pk_m1 (j + r)
    · exact ih (q + 1) fuel (by omega) (by omega)
theorem yk_cp {N k f n i j : Nat} (hf : f < 8) (hn : n ≤ 128) (hb : ab_bd N k n (rl_K a_bk f) (rl_K a_ba f) (rl_K a_bb f) (rl_c (rl_K a_bk f) (rl_K a_bb f))) (hi : i < n) (hj : j < rl_c (rl_K a_bk f) (rl_K a_bb f) i)
    (p : post (nI (bs_ch (rl_c (rl_K a_bk f) (rl_K a_bb f)) i j))) : wpY_childPos post (f_n, f_cap, f_ana, f_res, f_anyT, f_intsT, f_wp, f_vp, f_made, f_active, f_xp, f_curK, f_rBot, f_rR, f_rE0, f_rE1, a_st, a_ar, a_size, a_bk, a_ba, a_bb, a_ds, a_tab, a_nxt, a_wN, a_wS, a_wF, a_vs, a_frS, a_frP0, a_frP1, a_xN, a_xS, a_xE0, a_xE1, a_xA, a_xB, a_xC, a_xD, a_xE, a_xF, a_xG) (nI f) (nI i) (nI j) := by
  have c3 := ab_c3 hb hi
  have w : vp_in (nI (f * 128 + i)) 1024 := vp_in_nI (by omega) (by omega)
  have cl : (nI (f * 128 + i)).toNatClampNeg = f * 128 + i := nI_clamp (by omega)
  have pos : 0 < i := by
    have := bs_ch_pos hb.2.2 hi (j := 0) (by omega)
    rw [bs_sc_0] at this; exact this
  unfold wpY_childPos
  dsimp only
  refine nm_r (yk_ix hf (by omega)) ⟨w, w, ?_⟩
  rw [cl]
  refine yt_cc (hb.1 i hi) (nm_r (e' := nI (i - 1)) (pk_sub (b := 1) pos) (nm_r (e' := nI (bs_cc (rl_K a_bk f i) (rl_K a_bb f i) - 1)) (pk_sub (b := 1) ?_) ⟨4, ?_⟩))
  · exact Nat.lt_of_le_of_lt (Nat.zero_le _) hj
  · have hc : rl_c (rl_K a_bk f) (rl_K a_bb f) i = bs_cc (rl_K a_bk f i) (rl_K a_bb f i) := rfl
    have h := yk_cp44 (post := post) (f_n := f_n) (f_cap := f_cap) (f_ana := f_ana) (f_res := f_res) (f_anyT := f_anyT) (f_intsT := f_intsT) (f_wp := f_wp) (f_vp := f_vp) (f_made := f_made) (f_active := f_active) (f_xp := f_xp) (f_curK := f_curK) (f_rBot := f_rBot) (f_rR := f_rR) (f_rE0 := f_rE0) (f_rE1 := f_rE1) (a_st := a_st) (a_ar := a_ar) (a_size := a_size) (a_bk := a_bk) (a_ba := a_ba) (a_bb := a_bb) (a_ds := a_ds) (a_tab := a_tab) (a_nxt := a_nxt) (a_wN := a_wN) (a_wS := a_wS) (a_wF := a_wF) (a_vs := a_vs) (a_frS := a_frS) (a_frP0 := a_frP0) (a_frP1 := a_frP1) (a_xN := a_xN) (a_xS := a_xS) (a_xE0 := a_xE0) (a_xE1 := a_xE1) (a_xA := a_xA) (a_xB := a_xB) (a_xC := a_xC) (a_xD := a_xD) (a_xE := a_xE) (a_xF := a_xF) (a_xG := a_xG) hf hn hb hi hj p (rl_c (rl_K a_bk f) (rl_K a_bb f) i - 1 - j) 0 4 (by omega) (by omega)
    rw [bs_sc_0, show j + (rl_c (rl_K a_bk f) (rl_K a_bb f) i - 1 - j) = bs_cc (rl_K a_bk f i) (rl_K a_bb f i) - 1 by omega] at h
    exact h
theorem yk_cp0 {N k f n i : Nat} (hf : f < 8) (hn : n ≤ 128) (hb : ab_bd N k n (rl_K a_bk f) (rl_K a_ba f) (rl_K a_bb f) (rl_c (rl_K a_bk f) (rl_K a_bb f))) (hi : i < n) (hc : rl_c (rl_K a_bk f) (rl_K a_bb f) i = 0)
    (p : post (nI i - 1)) : wpY_childPos post (f_n, f_cap, f_ana, f_res, f_anyT, f_intsT, f_wp, f_vp, f_made, f_active, f_xp, f_curK, f_rBot, f_rR, f_rE0, f_rE1, a_st, a_ar, a_size, a_bk, a_ba, a_bb, a_ds, a_tab, a_nxt, a_wN, a_wS, a_wF, a_vs, a_frS, a_frP0, a_frP1, a_xN, a_xS, a_xE0, a_xE1, a_xA, a_xB, a_xC, a_xD, a_xE, a_xF, a_xG) (nI f) (nI i) 0 := by
  have w : vp_in (nI (f * 128 + i)) 1024 := vp_in_nI (by omega) (by omega)
  have cl : (nI (f * 128 + i)).toNatClampNeg = f * 128 + i := nI_clamp (by omega)
  unfold wpY_childPos
  dsimp only
  refine nm_r (yk_ix hf (by omega)) ⟨w, w, ?_⟩
  rw [cl]
  have hc' : bs_cc (a_bk (f * 128 + i)) (a_bb (f * 128 + i)) = 0 := hc
  refine yt_cc (hb.1 i hi) (nm_e ?_)
  rw [hc']
  exact nm_e ⟨1, br_t (by decide) p⟩
end
end
section
theorem xc_3 (r : Nat) : nI r * 3 = nI (r * 3) := by rw [show (3 : Int32) = nI 3 by decide, pk_mul]
theorem xc_31 (r : Nat) : nI r * 3 + 1 = nI (r * 3 + 1) := by rw [xc_3, nI_1]
theorem xc_32 (r : Nat) : nI r * 3 + 2 = nI (r * 3 + 2) := by rw [xc_3, show (2 : Int32) = nI 2 by decide, nI_add]
theorem xc_2 (r : Nat) : nI r * 2 = nI (r * 2) := by rw [show (2 : Int32) = nI 2 by decide, pk_mul]
theorem xc_21 (r : Nat) : nI r * 2 + 1 = nI (r * 2 + 1) := by rw [xc_2, nI_1]
theorem xc_ints : (13041920 : Int32) = ty_x ty_ints := by decide
theorem xc_any : (13042175 : Int32) = ty_x ty_any := by decide
theorem xc_bool : (3 : Int32) = ty_x ty_bool := by decide
theorem xc_ats : (255 : Int32) = ty_x ty_ats := by decide
theorem ty_lw_add : ∀ a, a < 19 → ∀ b, b < 19 → (ty_lw a + ty_lw b).toInt = ty_lv a + ty_lv b := by decide +kernel
theorem ty_hw_add : ∀ a, a < 19 → ∀ b, b < 19 → (ty_hw a + ty_hw b).toInt = ty_hv a + ty_hv b := by decide +kernel
theorem ty_lh_sub : ∀ a, a < 19 → ∀ b, b < 19 → (ty_lw a - ty_hw b).toInt = ty_lv a - ty_hv b := by decide +kernel
theorem ty_hl_sub : ∀ a, a < 19 → ∀ b, b < 19 → (ty_hw a - ty_lw b).toInt = ty_hv a - ty_lv b := by decide +kernel
theorem ty_lv_8 {l : Nat} (h : 0 < l) : ty_lv l ≤ 8 := by unfold ty_lv; split <;> omega
theorem ty_hv_8 {l : Nat} (h : 0 < l) : -8 ≤ ty_hv l := by unfold ty_hv; split <;> omega
section
variable {f_slotCount f_capacity f_nodesUsed f_buildingSlot f_pendingCount f_summariesCurrent f_callsActive f_callsMade f_runOutcome f_runValue : Int32} {a_slotStates a_slotArities a_slotStarts a_slotSizes a_kinds a_firstOperands a_secondOperands a_children a_parents a_depths a_pendingNodes a_summaries a_nextSummaries a_nodeTypes a_paramsAfter a_params a_values a_arguments a_frameSlots a_frameNodes : Nat → Int32} {N k n S : Nat} {K A B : Nat → Int32}
theorem xc_row (hB : rl_body N k n S K A B a_kinds a_firstOperands a_secondOperands a_children a_parents a_depths) {i : Nat} (hi : i < n) :
    vp_in (nI (S + i)) 128 ∧ (nI (S + i)).toNatClampNeg = S + i ∧ a_kinds (S + i) = K i ∧ a_firstOperands (S + i) = A i ∧ a_secondOperands (S + i) = B i := by
  obtain ⟨h1, h2, h3⟩ := hB
  obtain ⟨r1, r2, r3, _⟩ := h3 i hi
  exact ⟨vp_in_nI (by omega) (by omega), nI_clamp (by omega), r1, r2, r3⟩
theorem xc_child (hB : rl_body N k n S K A B a_kinds a_firstOperands a_secondOperands a_children a_parents a_depths) {i j : Nat} (hi : i < n) (hj : j < rl_c K B i) :
    vp_in (nI ((S + i) * 3 + j)) 384 ∧ (nI ((S + i) * 3 + j)).toNatClampNeg = (S + i) * 3 + j ∧ a_children ((S + i) * 3 + j) = nI (S + bs_ch (rl_c K B) i j) ∧ bs_ch (rl_c K B) i j < n := by
  obtain ⟨h1, h2, h3⟩ := hB
  obtain ⟨r1, r2, r3, r4, _⟩ := h3 i hi
  have c3 := ab_c3 h2 hi
  have lt := bs_ch_lt h2.2.2 hi hj
  exact ⟨vp_in_nI (by omega) (by omega), nI_clamp (by omega), (r4 j hj).1, by omega⟩
theorem xc_nv {Q : SX → Prop} (hB : rl_body N k n S K A B a_kinds a_firstOperands a_secondOperands a_children a_parents a_depths) (hk : k ≤ 2) {p : Nat} (hp : p < n) {t : ty_T} (ht : ty_ok t) {e : ab_E} (he : xa_e e)
    (h0 : a_params 0 = ty_x e.1) (h1 : a_params 1 = ty_x e.2) (H : ∀ P : Nat → Int32, P 0 = ty_x (ab_nv K A p t e).1 → P 1 = ty_x (ab_nv K A p t e).2 → Q (f_slotCount, f_capacity, f_nodesUsed, f_buildingSlot, f_pendingCount, f_summariesCurrent, f_callsActive, f_callsMade, f_runOutcome, f_runValue, a_slotStates, a_slotArities, a_slotStarts, a_slotSizes, a_kinds, a_firstOperands, a_secondOperands, a_children, a_parents, a_depths, a_pendingNodes, a_summaries, a_nextSummaries, a_nodeTypes, a_paramsAfter, P, a_values, a_arguments, a_frameSlots, a_frameNodes)) : wpX_narrowVariable Q (f_slotCount, f_capacity, f_nodesUsed, f_buildingSlot, f_pendingCount, f_summariesCurrent, f_callsActive, f_callsMade, f_runOutcome, f_runValue, a_slotStates, a_slotArities, a_slotStarts, a_slotSizes, a_kinds, a_firstOperands, a_secondOperands, a_children, a_parents, a_depths, a_pendingNodes, a_summaries, a_nextSummaries, a_nodeTypes, a_paramsAfter, a_params, a_values, a_arguments, a_frameSlots, a_frameNodes) (nI (S + p)) (ty_x t) := by
  obtain ⟨w, cl, rk, ra, _⟩ := xc_row (a_kinds := a_kinds) (a_firstOperands := a_firstOperands) (a_secondOperands := a_secondOperands) (a_children := a_children) (a_parents := a_parents) (a_depths := a_depths) hB hp
  unfold wpX_narrowVariable
  dsimp only
  rw [cl, rk, ra]
  unfold ab_nv at H
  by_cases z : K p = 2
  · rw [if_pos z] at H
    obtain ⟨j, hj, ej⟩ := ab_var hB.2.1 hp z
    rw [ej] at H ⊢
    have jj : j = 0 ∨ j = 1 := by omega
    rcases jj with rfl | rfl
    · rw [if_pos nI_0] at H
      refine ⟨w, br_t z ⟨w, nm_e ⟨vp_in_nI (by decide) (by decide), ?_⟩⟩⟩
      rw [nI_clamp (by decide), h0]
      refine xt_meet he.1 ht ⟨vp_in_nI (by decide) (by decide), nm_e (H _ pk_us ?_)⟩
      rw [pk_un (by decide)]; exact h1
    · rw [if_neg (by decide)] at H
      refine ⟨w, br_t z ⟨w, nm_e ⟨vp_in_nI (by decide) (by decide), ?_⟩⟩⟩
      rw [nI_clamp (by decide), h1]
      refine xt_meet he.2 ht ⟨vp_in_nI (by decide) (by decide), nm_e (H _ ?_ pk_us)⟩
      rw [pk_un (by decide)]; exact h0
  · rw [if_neg z] at H
    exact ⟨w, br_f z (H a_params h0 h1)⟩
theorem xa_nv_e {K A : Nat → Int32} {p : Nat} {t : ty_T} {e : ab_E} (ht : ty_ok t) (he : xa_e e) : xa_e (ab_nv K A p t e) := by
  unfold ab_nv
  split
  · split
    · exact ⟨ty_meet_ok he.1 ht, he.2⟩
    · exact ⟨he.1, ty_meet_ok he.2 ht⟩
  · exact he
theorem xc_164 {Q : Int32 → SX → Prop} {x5 x6 z0 : Int32} (h1 : x5 < x6 → Q (z0 ||| 0) (f_slotCount, f_capacity, f_nodesUsed, f_buildingSlot, f_pendingCount, f_summariesCurrent, f_callsActive, f_callsMade, f_runOutcome, f_runValue, a_slotStates, a_slotArities, a_slotStarts, a_slotSizes, a_kinds, a_firstOperands, a_secondOperands, a_children, a_parents, a_depths, a_pendingNodes, a_summaries, a_nextSummaries, a_nodeTypes, a_paramsAfter, a_params, a_values, a_arguments, a_frameSlots, a_frameNodes)) (h2 : ¬ x5 < x6 → Q (z0 ||| 1) (f_slotCount, f_capacity, f_nodesUsed, f_buildingSlot, f_pendingCount, f_summariesCurrent, f_callsActive, f_callsMade, f_runOutcome, f_runValue, a_slotStates, a_slotArities, a_slotStarts, a_slotSizes, a_kinds, a_firstOperands, a_secondOperands, a_children, a_parents, a_depths, a_pendingNodes, a_summaries, a_nextSummaries, a_nodeTypes, a_paramsAfter, a_params, a_values, a_arguments, a_frameSlots, a_frameNodes)) : wX_inferNumeric_164 Q x5 x6 z0 f_slotCount f_capacity f_nodesUsed f_buildingSlot f_pendingCount f_summariesCurrent f_callsActive f_callsMade f_runOutcome f_runValue a_slotStates a_slotArities a_slotStarts a_slotSizes a_kinds a_firstOperands a_secondOperands a_children a_parents a_depths a_pendingNodes a_summaries a_nextSummaries a_nodeTypes a_paramsAfter a_params a_values a_arguments a_frameSlots a_frameNodes := br_c h1 h2
theorem xc_numeric {Q : Int32 → SX → Prop} (hB : rl_body N k n S K A B a_kinds a_firstOperands a_secondOperands a_children a_parents a_depths) (hk : k ≤ 2) {i : Nat} (hi : i < n) (hK : K i = 3 ∨ K i = 4 ∨ K i = 5) (hc : rl_c K B i = 2)
    {x y : ty_T} {e : ab_E} (ox : ty_ok x) (oy : ty_ok y) (he : xa_e e) (hx : a_nodeTypes (S + bs_ch (rl_c K B) i 0) = ty_x x) (hy : a_nodeTypes (S + bs_ch (rl_c K B) i 1) = ty_x y)
    (h0 : a_params 0 = ty_x e.1) (h1 : a_params 1 = ty_x e.2) (H0 : (x.2.1 = 0 ∨ y.2.1 = 0) → Q 0 (f_slotCount, f_capacity, f_nodesUsed, f_buildingSlot, f_pendingCount, f_summariesCurrent, f_callsActive, f_callsMade, f_runOutcome, f_runValue, a_slotStates, a_slotArities, a_slotStarts, a_slotSizes, a_kinds, a_firstOperands, a_secondOperands, a_children, a_parents, a_depths, a_pendingNodes, a_summaries, a_nextSummaries, a_nodeTypes, a_paramsAfter, a_params, a_values, a_arguments, a_frameSlots, a_frameNodes))
    (H1 : ¬ (x.2.1 = 0 ∨ y.2.1 = 0) → ∀ P : Nat → Int32, P 0 = ty_x (ab_nv K A (bs_ch (rl_c K B) i 1) ty_ints (ab_nv K A (bs_ch (rl_c K B) i 0) ty_ints e)).1 → P 1 = ty_x (ab_nv K A (bs_ch (rl_c K B) i 1) ty_ints (ab_nv K A (bs_ch (rl_c K B) i 0) ty_ints e)).2 → Q (ty_x (ab_num (K i) x y)) (f_slotCount, f_capacity, f_nodesUsed, f_buildingSlot, f_pendingCount, f_summariesCurrent, f_callsActive, f_callsMade, f_runOutcome, f_runValue, a_slotStates, a_slotArities, a_slotStarts, a_slotSizes, a_kinds, a_firstOperands, a_secondOperands, a_children, a_parents, a_depths, a_pendingNodes, a_summaries, a_nextSummaries, a_nodeTypes, a_paramsAfter, P, a_values, a_arguments, a_frameSlots, a_frameNodes)) :
    wpX_inferNumeric Q (f_slotCount, f_capacity, f_nodesUsed, f_buildingSlot, f_pendingCount, f_summariesCurrent, f_callsActive, f_callsMade, f_runOutcome, f_runValue, a_slotStates, a_slotArities, a_slotStarts, a_slotSizes, a_kinds, a_firstOperands, a_secondOperands, a_children, a_parents, a_depths, a_pendingNodes, a_summaries, a_nextSummaries, a_nodeTypes, a_paramsAfter, a_params, a_values, a_arguments, a_frameSlots, a_frameNodes) (nI (S + i)) := by
  obtain ⟨w, cl, rk, ra, _⟩ := xc_row (a_kinds := a_kinds) (a_firstOperands := a_firstOperands) (a_secondOperands := a_secondOperands) (a_children := a_children) (a_parents := a_parents) (a_depths := a_depths) hB hi
  obtain ⟨w0, cl0, r0, l0⟩ := xc_child (a_kinds := a_kinds) (a_firstOperands := a_firstOperands) (a_secondOperands := a_secondOperands) (a_children := a_children) (a_parents := a_parents) (a_depths := a_depths) hB hi (j := 0) (by omega)
  obtain ⟨w1, cl1, r1, l1⟩ := xc_child (a_kinds := a_kinds) (a_firstOperands := a_firstOperands) (a_secondOperands := a_secondOperands) (a_children := a_children) (a_parents := a_parents) (a_depths := a_depths) hB hi (j := 1) (by omega)
  obtain ⟨wx, clx, rkx, rax, _⟩ := xc_row (a_kinds := a_kinds) (a_firstOperands := a_firstOperands) (a_secondOperands := a_secondOperands) (a_children := a_children) (a_parents := a_parents) (a_depths := a_depths) hB l0
  obtain ⟨wy, cly, rky, ray, _⟩ := xc_row (a_kinds := a_kinds) (a_firstOperands := a_firstOperands) (a_secondOperands := a_secondOperands) (a_children := a_children) (a_parents := a_parents) (a_depths := a_depths) hB l1
  rw [Nat.add_zero] at w0 cl0 r0
  unfold wpX_inferNumeric
  dsimp only
  rw [xc_31, xc_3, cl0, cl1, r0, r1]
  refine ⟨w0, nm_e ⟨w1, nm_e ⟨wx, ?_⟩⟩⟩
  rw [clx, hx]
  refine xt_has ox (fun x0 => br_t rfl (H0 (Or.inl x0))) (fun x0 => br_f (by decide) ⟨wy, ?_⟩)
  rw [cly, hy]
  refine xt_has oy (fun y0 => br_t rfl (H0 (Or.inr y0))) (fun y0 => br_f (by decide) ?_)
  have H := H1 (fun z => z.elim x0 y0)
  rw [xc_ints]
  refine xc_nv hB hk l0 ty_ints_ok he h0 h1 fun P p0 p1 => ?_
  refine xc_nv hB hk l1 ty_ints_ok (xa_nv_e ty_ints_ok he) p0 p1 fun P' p0' p1' => ?_
  have H := H P' p0' p1'
  have x1 := ty_ok_l ox
  have x2 := ty_ok_h ox
  have y1 := ty_ok_l oy
  have y2 := ty_ok_h oy
  have u0 := ty_ok_0 ox
  have v0 := ty_ok_0 oy
  have ex := ty_lh ox x0
  have ey := ty_lh oy y0
  have b1 := ty_lv_8 (l := x.2.1) (by omega)
  have b2 := ty_lv_8 (l := y.2.1) (by omega)
  have b3 := ty_hv_8 (l := x.2.2) (by omega)
  have b4 := ty_hv_8 (l := y.2.2) (by omega)
  dsimp only
  refine ⟨wx, ?_⟩
  rw [cl, hx, hy, rk]
  refine xt_low ox x0 ⟨wx, xt_high ox x0 ⟨wy, xt_low oy y0 ⟨wy, xt_high oy y0 ⟨w, ?_⟩⟩⟩⟩
  rcases hK with k3 | k4 | k5
  · have e1 := ty_lw_add x.2.1 (by omega) y.2.1 (by omega)
    have e2 := ty_hw_add x.2.2 (by omega) y.2.2 (by omega)
    have en : ab_num (K i) x y = (0, ty_rl (ty_lv x.2.1 + ty_lv y.2.1), ty_rh (ty_hv x.2.2 + ty_hv y.2.2)) := by unfold ab_num; rw [if_pos k3]
    rw [en, ← e1, ← e2] at H
    exact br_t k3 (xt_range (by omega) (by omega) (by omega) H)
  · have e1 := ty_lh_sub x.2.1 (by omega) y.2.2 (by omega)
    have e2 := ty_hl_sub x.2.2 (by omega) y.2.1 (by omega)
    have n3 : ¬ K i = 3 := by rw [k4]; decide
    have en : ab_num (K i) x y = (0, ty_rl (ty_lv x.2.1 - ty_hv y.2.2), ty_rh (ty_hv x.2.2 - ty_lv y.2.1)) := by unfold ab_num; rw [if_neg n3, if_pos k4]
    rw [en, ← e1, ← e2] at H
    exact br_f n3 ⟨w, br_t k4 (xt_range (by omega) (by omega) (by omega) H)⟩
  · have n3 : ¬ K i = 3 := by rw [k5]; decide
    have n4 : ¬ K i = 4 := by rw [k5]; decide
    have en : ab_num (K i) x y = ((if ty_lv x.2.1 < ty_hv y.2.2 then 2 else 0) + (if ty_lv y.2.1 ≤ ty_hv x.2.2 then 1 else 0), 0, 0) := by unfold ab_num; rw [if_neg n3, if_neg n4]
    rw [en] at H
    have t1 := ty_lw_t x.2.1 (by omega)
    have t2 := ty_hw_t x.2.2 (by omega)
    have t3 := ty_lw_t y.2.1 (by omega)
    have t4 := ty_hw_t y.2.2 (by omega)
    refine br_f n3 ⟨w, br_f n4 ?_⟩
    by_cases c : ty_hw y.2.2 ≤ ty_lw x.2.1
    · have c' := c
      rw [Int32.le_iff_toInt_le, t1, t4] at c'
      rw [if_neg (by omega)] at H
      refine br_t c (xc_164 (fun d => ?_) (fun d => ?_))
      · rw [Int32.lt_iff_toInt_lt, t2, t3] at d
        rw [if_neg (by omega)] at H
        exact H
      · rw [Int32.lt_iff_toInt_lt, t2, t3] at d
        rw [if_pos (by omega)] at H
        exact H
    · have c' := c
      rw [Int32.le_iff_toInt_le, t1, t4] at c'
      rw [if_pos (by omega)] at H
      refine br_f c (xc_164 (fun d => ?_) (fun d => ?_))
      · rw [Int32.lt_iff_toInt_lt, t2, t3] at d
        rw [if_neg (by omega)] at H
        exact H
      · rw [Int32.lt_iff_toInt_lt, t2, t3] at d
        rw [if_pos (by omega)] at H
        exact H
theorem xc_equal {Q : Int32 → Prop} (hB : rl_body N k n S K A B a_kinds a_firstOperands a_secondOperands a_children a_parents a_depths) {i : Nat} (hi : i < n) (hc : rl_c K B i = 2)
    {x y : ty_T} (ox : ty_ok x) (oy : ty_ok y) (hx : a_nodeTypes (S + bs_ch (rl_c K B) i 0) = ty_x x) (hy : a_nodeTypes (S + bs_ch (rl_c K B) i 1) = ty_x y)
    (H : Q (ty_x ((if ty_meet x y = ty_0 then 1 else 3), 0, 0))) : wpX_inferEqual Q (f_slotCount, f_capacity, f_nodesUsed, f_buildingSlot, f_pendingCount, f_summariesCurrent, f_callsActive, f_callsMade, f_runOutcome, f_runValue, a_slotStates, a_slotArities, a_slotStarts, a_slotSizes, a_kinds, a_firstOperands, a_secondOperands, a_children, a_parents, a_depths, a_pendingNodes, a_summaries, a_nextSummaries, a_nodeTypes, a_paramsAfter, a_params, a_values, a_arguments, a_frameSlots, a_frameNodes) (nI (S + i)) := by
  obtain ⟨w0, cl0, r0, l0⟩ := xc_child (a_kinds := a_kinds) (a_firstOperands := a_firstOperands) (a_secondOperands := a_secondOperands) (a_children := a_children) (a_parents := a_parents) (a_depths := a_depths) hB hi (j := 0) (by omega)
  obtain ⟨w1, cl1, r1, l1⟩ := xc_child (a_kinds := a_kinds) (a_firstOperands := a_firstOperands) (a_secondOperands := a_secondOperands) (a_children := a_children) (a_parents := a_parents) (a_depths := a_depths) hB hi (j := 1) (by omega)
  obtain ⟨wx, clx, rkx, rax, _⟩ := xc_row (a_kinds := a_kinds) (a_firstOperands := a_firstOperands) (a_secondOperands := a_secondOperands) (a_children := a_children) (a_parents := a_parents) (a_depths := a_depths) hB l0
  obtain ⟨wy, cly, rky, ray, _⟩ := xc_row (a_kinds := a_kinds) (a_firstOperands := a_firstOperands) (a_secondOperands := a_secondOperands) (a_children := a_children) (a_parents := a_parents) (a_depths := a_depths) hB l1
  rw [Nat.add_zero] at w0 cl0 r0
  unfold wpX_inferEqual
  dsimp only
  rw [xc_31, xc_3, cl0, cl1, r0, r1]
  refine ⟨w0, nm_e ⟨w1, nm_e ⟨wx, wy, ?_⟩⟩⟩
  rw [clx, cly, hx, hy]
  refine xt_meet ox oy ?_
  by_cases z : ty_meet x y = ty_0
  · rw [if_pos z] at H
    exact br_t ((ty_x_0 (ty_meet_ok ox oy)).mpr z) H
  · rw [if_neg z] at H
    exact br_f (fun e => z ((ty_x_0 (ty_meet_ok ox oy)).mp e)) H
theorem xc_isint {Q : Int32 → Prop} (hB : rl_body N k n S K A B a_kinds a_firstOperands a_secondOperands a_children a_parents a_depths) {i : Nat} (hi : i < n) (hc : rl_c K B i = 1)
    {x : ty_T} (ox : ty_ok x) (hx : a_nodeTypes (S + bs_ch (rl_c K B) i 0) = ty_x x)
    (H : Q (ty_x ((if x.1 = 0 then 0 else 1) + (if x.2.1 = 0 then 0 else 2), 0, 0))) : wpX_inferIsInt Q (f_slotCount, f_capacity, f_nodesUsed, f_buildingSlot, f_pendingCount, f_summariesCurrent, f_callsActive, f_callsMade, f_runOutcome, f_runValue, a_slotStates, a_slotArities, a_slotStarts, a_slotSizes, a_kinds, a_firstOperands, a_secondOperands, a_children, a_parents, a_depths, a_pendingNodes, a_summaries, a_nextSummaries, a_nodeTypes, a_paramsAfter, a_params, a_values, a_arguments, a_frameSlots, a_frameNodes) (nI (S + i)) := by
  obtain ⟨w0, cl0, r0, l0⟩ := xc_child (a_kinds := a_kinds) (a_firstOperands := a_firstOperands) (a_secondOperands := a_secondOperands) (a_children := a_children) (a_parents := a_parents) (a_depths := a_depths) hB hi (j := 0) (by omega)
  obtain ⟨wx, clx, rkx, rax, _⟩ := xc_row (a_kinds := a_kinds) (a_firstOperands := a_firstOperands) (a_secondOperands := a_secondOperands) (a_children := a_children) (a_parents := a_parents) (a_depths := a_depths) hB l0
  rw [Nat.add_zero] at w0 cl0 r0
  unfold wpX_inferIsInt
  dsimp only
  rw [xc_3, cl0, r0]
  refine ⟨w0, wx, nm_r (e' := ty_x x) (by rw [clx]; exact hx) ?_⟩
  rw [ty_xm ox]
  have om := ox.1
  by_cases z : x.1 = 0
  · rw [if_pos z] at H
    rw [z]
    refine br_t nI_0 ?_
    unfold wX_inferIsInt_27
    refine xt_has ox (fun q => br_t rfl ?_) (fun q => br_f (by decide) ?_)
    · rw [if_pos q] at H; exact H
    · rw [if_neg q] at H; exact H
  · rw [if_neg z] at H
    refine br_f (nI_ne0 (by omega) (by omega)) ?_
    unfold wX_inferIsInt_27
    refine xt_has ox (fun q => br_t rfl ?_) (fun q => br_f (by decide) ?_)
    · rw [if_pos q] at H; exact H
    · rw [if_neg q] at H; exact H
end
end
section
section
variable {f_slotCount f_capacity f_nodesUsed f_buildingSlot f_pendingCount f_summariesCurrent f_callsActive f_callsMade f_runOutcome f_runValue : Int32} {a_slotStates a_slotArities a_slotStarts a_slotSizes a_kinds a_firstOperands a_secondOperands a_children a_parents a_depths a_pendingNodes a_summaries a_nextSummaries a_nodeTypes a_paramsAfter a_params a_values a_arguments a_frameSlots a_frameNodes : Nat → Int32} {N k n S : Nat} {K A B : Nat → Int32}
theorem xc_if {Q : Int32 → SX → Prop} (hB : rl_body N k n S K A B a_kinds a_firstOperands a_secondOperands a_children a_parents a_depths) {i : Nat} (hi : i < n) (hc : rl_c K B i = 3)
    {x y : ty_T} {e f : ab_E} (ox : ty_ok x) (oy : ty_ok y) (he : xa_e e) (hf : xa_e f)
    (hx : a_nodeTypes (S + bs_ch (rl_c K B) i 1) = ty_x x) (hy : a_nodeTypes (S + bs_ch (rl_c K B) i 2) = ty_x y)
    (e0 : a_paramsAfter ((S + bs_ch (rl_c K B) i 1) * 2) = ty_x e.1) (e1 : a_paramsAfter ((S + bs_ch (rl_c K B) i 1) * 2 + 1) = ty_x e.2)
    (f0 : a_paramsAfter ((S + bs_ch (rl_c K B) i 2) * 2) = ty_x f.1) (f1 : a_paramsAfter ((S + bs_ch (rl_c K B) i 2) * 2 + 1) = ty_x f.2)
    (H : ∀ P : Nat → Int32, P 0 = ty_x (ty_join e.1 f.1) → P 1 = ty_x (ty_join e.2 f.2) → Q (ty_x (ty_join x y)) (f_slotCount, f_capacity, f_nodesUsed, f_buildingSlot, f_pendingCount, f_summariesCurrent, f_callsActive, f_callsMade, f_runOutcome, f_runValue, a_slotStates, a_slotArities, a_slotStarts, a_slotSizes, a_kinds, a_firstOperands, a_secondOperands, a_children, a_parents, a_depths, a_pendingNodes, a_summaries, a_nextSummaries, a_nodeTypes, a_paramsAfter, P, a_values, a_arguments, a_frameSlots, a_frameNodes)) : wpX_inferIf Q (f_slotCount, f_capacity, f_nodesUsed, f_buildingSlot, f_pendingCount, f_summariesCurrent, f_callsActive, f_callsMade, f_runOutcome, f_runValue, a_slotStates, a_slotArities, a_slotStarts, a_slotSizes, a_kinds, a_firstOperands, a_secondOperands, a_children, a_parents, a_depths, a_pendingNodes, a_summaries, a_nextSummaries, a_nodeTypes, a_paramsAfter, a_params, a_values, a_arguments, a_frameSlots, a_frameNodes) (nI (S + i)) := by
  obtain ⟨w1, cl1, r1, l1⟩ := xc_child hB hi (j := 1) (by omega)
  obtain ⟨w2, cl2, r2, l2⟩ := xc_child hB hi (j := 2) (by omega)
  obtain ⟨wx, clx, _⟩ := xc_row hB l1
  obtain ⟨wy, cly, _⟩ := xc_row hB l2
  have hS := hB.1
  unfold wpX_inferIf
  dsimp only
  rw [xc_31, xc_32, cl1, cl2, r1, r2]
  refine ⟨w1, nm_e ⟨w2, nm_e ⟨3, ?_⟩⟩⟩
  have i0 : ∀ r : Nat, nI r * 2 + 0 = nI (r * 2) := fun r => by rw [xc_2, Int32.add_zero]
  refine br_f (by decide) ?_
  rw [i0, i0, nI_clamp (by omega), nI_clamp (by omega), e0, f0]
  refine ⟨vp_in_nI (by omega) (by omega), vp_in_nI (by omega) (by omega), xt_join he.1 hf.1 ⟨vp_in_nI (n := 0) (by decide) (by decide), nm_e (nm_r (e' := 1) (by decide) ?_)⟩⟩
  refine br_f (by decide) ?_
  rw [xc_21, xc_21, nI_clamp (by omega), nI_clamp (by omega), e1, f1]
  refine ⟨vp_in_nI (by omega) (by omega), vp_in_nI (by omega) (by omega), xt_join he.2 hf.2 ⟨vp_in_nI (n := 1) (by decide) (by decide), nm_e (nm_r (e' := 2) (by decide) ?_)⟩⟩
  refine br_t (by decide) ?_
  rw [clx, cly, hx, hy]
  refine ⟨wx, wy, xt_join ox oy (H _ ?_ ?_)⟩
  · rw [pk_un (by decide)]; exact pk_us
  · exact pk_us
/-- the check of a call's arguments -/
theorem xc_c0 {Q : Int32 → SX → Prop} {x1 : Int32} {g : Nat} (hg : g < 8) {fuel : Nat} {r : Int32} (hr : a_summaries (g * 3 + 2) = r) {m : Nat} (hm : m ≤ 2) (H : Q r (f_slotCount, f_capacity, f_nodesUsed, f_buildingSlot, f_pendingCount, f_summariesCurrent, f_callsActive, f_callsMade, f_runOutcome, f_runValue, a_slotStates, a_slotArities, a_slotStarts, a_slotSizes, a_kinds, a_firstOperands, a_secondOperands, a_children, a_parents, a_depths, a_pendingNodes, a_summaries, a_nextSummaries, a_nodeTypes, a_paramsAfter, a_params, a_values, a_arguments, a_frameSlots, a_frameNodes)) : wX_inferCall_39 Q x1 (nI g) (nI m) (fuel + 1) (nI m) f_slotCount f_capacity f_nodesUsed f_buildingSlot f_pendingCount f_summariesCurrent f_callsActive f_callsMade f_runOutcome f_runValue a_slotStates a_slotArities a_slotStarts a_slotSizes a_kinds a_firstOperands a_secondOperands a_children a_parents a_depths a_pendingNodes a_summaries a_nextSummaries a_nodeTypes a_paramsAfter a_params a_values a_arguments a_frameSlots a_frameNodes := by
  refine br_t (nI_le (Nat.le_refl _) (by omega)) ?_
  rw [xc_32, nI_clamp (by omega), hr]
  exact ⟨vp_in_nI (by omega) (by omega), H⟩
theorem xc_c1 {Q : Int32 → SX → Prop} (hB : rl_body N k n S K A B a_kinds a_firstOperands a_secondOperands a_children a_parents a_depths) (hk : k ≤ 2) {i g j m fuel : Nat} (hi : i < n) (hg : g < 8) (hm : m ≤ 2) (hj : j < m) (hjc : j < rl_c K B i)
    {x q : ty_T} {e : ab_E} (ox : ty_ok x) (oq : ty_ok q) (he : xa_e e) (hx : a_nodeTypes (S + bs_ch (rl_c K B) i j) = ty_x x) (hq : a_summaries (g * 3 + j) = ty_x q) (h0 : a_params 0 = ty_x e.1) (h1 : a_params 1 = ty_x e.2)
    (H0 : ty_meet x q = ty_0 → Q 0 (f_slotCount, f_capacity, f_nodesUsed, f_buildingSlot, f_pendingCount, f_summariesCurrent, f_callsActive, f_callsMade, f_runOutcome, f_runValue, a_slotStates, a_slotArities, a_slotStarts, a_slotSizes, a_kinds, a_firstOperands, a_secondOperands, a_children, a_parents, a_depths, a_pendingNodes, a_summaries, a_nextSummaries, a_nodeTypes, a_paramsAfter, a_params, a_values, a_arguments, a_frameSlots, a_frameNodes))
    (H1 : ¬ ty_meet x q = ty_0 → ∀ P : Nat → Int32, P 0 = ty_x (ab_nv K A (bs_ch (rl_c K B) i j) q e).1 → P 1 = ty_x (ab_nv K A (bs_ch (rl_c K B) i j) q e).2 → wX_inferCall_39 Q (nI (S + i)) (nI g) (nI m) fuel (nI (j + 1)) f_slotCount f_capacity f_nodesUsed f_buildingSlot f_pendingCount f_summariesCurrent f_callsActive f_callsMade f_runOutcome f_runValue a_slotStates a_slotArities a_slotStarts a_slotSizes a_kinds a_firstOperands a_secondOperands a_children a_parents a_depths a_pendingNodes a_summaries a_nextSummaries a_nodeTypes a_paramsAfter P a_values a_arguments a_frameSlots a_frameNodes) :
    wX_inferCall_39 Q (nI (S + i)) (nI g) (nI m) (fuel + 1) (nI j) f_slotCount f_capacity f_nodesUsed f_buildingSlot f_pendingCount f_summariesCurrent f_callsActive f_callsMade f_runOutcome f_runValue a_slotStates a_slotArities a_slotStarts a_slotSizes a_kinds a_firstOperands a_secondOperands a_children a_parents a_depths a_pendingNodes a_summaries a_nextSummaries a_nodeTypes a_paramsAfter a_params a_values a_arguments a_frameSlots a_frameNodes := by
  obtain ⟨w1, cl1, r1, l1⟩ := xc_child hB hi hjc
  obtain ⟨wx, clx, _⟩ := xc_row hB l1
  have hS := hB.1
  refine br_f (nI_ge hj (by omega)) ?_
  rw [xc_3, xc_3, nI_add, nI_add, cl1, r1, nI_clamp (by omega), hq]
  refine ⟨w1, nm_e ⟨vp_in_nI (by omega) (by omega), nm_e ⟨wx, ?_⟩⟩⟩
  rw [clx, hx]
  refine xt_meet ox oq ?_
  by_cases z : ty_meet x q = ty_0
  · exact br_t ((ty_x_0 (ty_meet_ok ox oq)).mpr z) (H0 z)
  · refine br_f (fun e => z ((ty_x_0 (ty_meet_ok ox oq)).mp e)) ?_
    exact xc_nv hB hk l1 oq he h0 h1 fun P p0 p1 => nm_r (nI_1 j) (H1 z P p0 p1)
/-- an outcome as inferNode gives it: a type, and the parameters behind it -/
def xc_o (r : ty_T) (e : ab_E) (o : ab_O) : Prop := xa_e e ∧ ty_ok r ∧ ab_fin r e = o
theorem xc_nofit {st ar : Nat → Int32} {K A B : Nat → Int32} {c : Nat → Nat} {tb : Nat → ty_T} {i : Nat} {x y : ty_T} {e : ab_E} {o : ab_O} (h : ¬ (st (A i).toNatClampNeg = 2 ∧ ar (A i).toNatClampNeg = B i))
    (ho : o = if B i = 0 then ab_cl0 A B st ar tb i e else if B i = 1 then ab_cl1 K A B st ar c tb i x e else ab_cl2 K A B st ar c tb i x y e) : o = none := by
  have f : ab_fits A B st ar i = false := by
    unfold ab_fits
    by_cases a : st (A i).toNatClampNeg = 2
    · rw [decide_eq_false (fun z => h ⟨a, z⟩), Bool.and_false]
    · rw [decide_eq_false a, Bool.false_and]
  rw [ho]
  unfold ab_cl0 ab_cl1 ab_cl2 ab_gd
  rw [f]
  simp
theorem xc_call {Q : Int32 → SX → Prop} {tb : Nat → ty_T} (hB : rl_body N k n S K A B a_kinds a_firstOperands a_secondOperands a_children a_parents a_depths) (hk : k ≤ 2) (hN : N ≤ 8) {i : Nat} (hi : i < n) (h9 : K i = 9)
    {x y : ty_T} {e : ab_E} (ox : ty_ok x) (oy : ty_ok y) (he : xa_e e) (hT : ∀ q, ty_ok (tb q)) (hs : ∀ q, q < 24 → a_summaries q = ty_x (tb q)) (h0 : a_params 0 = ty_x e.1) (h1 : a_params 1 = ty_x e.2)
    (hx : 1 ≤ rl_c K B i → a_nodeTypes (S + bs_ch (rl_c K B) i 0) = ty_x x) (hy : 2 ≤ rl_c K B i → a_nodeTypes (S + bs_ch (rl_c K B) i 1) = ty_x y) {o : ab_O}
    (ho : o = if B i = 0 then ab_cl0 A B a_slotStates a_slotArities tb i e else if B i = 1 then ab_cl1 K A B a_slotStates a_slotArities (rl_c K B) tb i x e else ab_cl2 K A B a_slotStates a_slotArities (rl_c K B) tb i x y e)
    (H : ∀ (P : Nat → Int32) (r : ty_T) (e' : ab_E), xc_o r e' o → P 0 = ty_x e'.1 → P 1 = ty_x e'.2 → Q (ty_x r) (f_slotCount, f_capacity, f_nodesUsed, f_buildingSlot, f_pendingCount, f_summariesCurrent, f_callsActive, f_callsMade, f_runOutcome, f_runValue, a_slotStates, a_slotArities, a_slotStarts, a_slotSizes, a_kinds, a_firstOperands, a_secondOperands, a_children, a_parents, a_depths, a_pendingNodes, a_summaries, a_nextSummaries, a_nodeTypes, a_paramsAfter, P, a_values, a_arguments, a_frameSlots, a_frameNodes)) : wpX_inferCall Q (f_slotCount, f_capacity, f_nodesUsed, f_buildingSlot, f_pendingCount, f_summariesCurrent, f_callsActive, f_callsMade, f_runOutcome, f_runValue, a_slotStates, a_slotArities, a_slotStarts, a_slotSizes, a_kinds, a_firstOperands, a_secondOperands, a_children, a_parents, a_depths, a_pendingNodes, a_summaries, a_nextSummaries, a_nodeTypes, a_paramsAfter, a_params, a_values, a_arguments, a_frameSlots, a_frameNodes) (nI (S + i)) := by
  obtain ⟨w, cl, rk, ra, rb⟩ := xc_row hB hi
  obtain ⟨g, hg, eg⟩ := (hB.2.1.1 i hi).2.2.2.2.1 h9
  obtain ⟨m, hm, em⟩ := (hB.2.1.1 i hi).2.2.2.2.2.1
  have cm : rl_c K B i = m := by rw [show rl_c K B i = bs_cc (K i) (B i) from rfl, h9, bs_cc9, em, nI_clamp (by omega)]
  have H0 : o = none → ∀ P : Nat → Int32, ∀ e', xa_e e' → P 0 = ty_x e'.1 → P 1 = ty_x e'.2 → Q 0 (f_slotCount, f_capacity, f_nodesUsed, f_buildingSlot, f_pendingCount, f_summariesCurrent, f_callsActive, f_callsMade, f_runOutcome, f_runValue, a_slotStates, a_slotArities, a_slotStarts, a_slotSizes, a_kinds, a_firstOperands, a_secondOperands, a_children, a_parents, a_depths, a_pendingNodes, a_summaries, a_nextSummaries, a_nodeTypes, a_paramsAfter, P, a_values, a_arguments, a_frameSlots, a_frameNodes) := fun on P e' oe p0 p1 => by
    have := H P ty_0 e' ⟨oe, ty_0_ok, by rw [on]; unfold ab_fin; rw [if_pos (Or.inl rfl)]⟩ p0 p1
    rw [ty_x_00] at this
    exact this
  have wg : vp_in (nI g) 8 := vp_in_nI (by omega) (by omega)
  have cg : (nI g).toNatClampNeg = g := nI_clamp (by omega)
  unfold wpX_inferCall
  dsimp only
  rw [cl, ra, rb, eg, em]
  refine ⟨w, nm_e ⟨w, nm_e ⟨wg, ?_⟩⟩⟩
  rw [cg]
  by_cases s2 : a_slotStates g = 2
  · refine br_t s2 ⟨wg, ?_⟩
    by_cases am : a_slotArities g = nI m
    · refine br_t am ⟨3, ?_⟩
      have fits : ab_fits A B a_slotStates a_slotArities i = true := by
        unfold ab_fits
        rw [eg, cg, em, decide_eq_true s2, decide_eq_true am]; rfl
      have cl0 : ∀ e, ab_cl0 A B a_slotStates a_slotArities tb i e = ab_fin (tb (g * 3 + 2)) e := fun e => by unfold ab_cl0 ab_gd; rw [fits, if_pos rfl, eg, cg]
      have hg8 : g < 8 := by omega
      have mm : m = 0 ∨ m = 1 ∨ m = 2 := by omega
      rcases mm with rfl | rfl | rfl
      · rw [em, if_pos nI_0, cl0] at ho
        exact xc_c0 (m := 0) hg8 (fuel := 2) (hs _ (by omega)) (by omega) (H a_params _ e ⟨he, hT _, ho.symm⟩ h0 h1)
      · have cl1 : ab_cl1 K A B a_slotStates a_slotArities (rl_c K B) tb i x e = if ty_meet x (tb (g * 3)) = ty_0 then none else ab_fin (tb (g * 3 + 2)) (ab_nv K A (bs_ch (rl_c K B) i 0) (tb (g * 3)) e) := by
          unfold ab_cl1 ab_gd ab_arg; rw [fits, if_pos rfl, eg, cg]
        rw [em, if_neg (by decide), if_pos (by decide), cl1] at ho
        refine xc_c1 (j := 0) (m := 1) (fuel := 2) hB hk hi hg8 (by omega) (by omega) (by omega) ox (hT (g * 3)) he (hx (by omega)) (hs _ (by omega)) h0 h1 (fun z => ?_) (fun z P p0 p1 => ?_)
        · rw [if_pos z] at ho
          exact H0 ho a_params e he h0 h1
        · rw [if_neg z] at ho
          exact xc_c0 (m := 1) hg8 (fuel := 1) (hs _ (by omega)) (by omega) (H P _ _ ⟨xa_nv_e (hT _) he, hT _, ho.symm⟩ p0 p1)
      · have cl2 : ab_cl2 K A B a_slotStates a_slotArities (rl_c K B) tb i x y e = if ty_meet x (tb (g * 3)) = ty_0 then none else if ty_meet y (tb (g * 3 + 1)) = ty_0 then none
            else ab_fin (tb (g * 3 + 2)) (ab_nv K A (bs_ch (rl_c K B) i 1) (tb (g * 3 + 1)) (ab_nv K A (bs_ch (rl_c K B) i 0) (tb (g * 3)) e)) := by
          unfold ab_cl2 ab_gd ab_arg; rw [fits, if_pos rfl, eg, cg]
        rw [em, if_neg (by decide), if_neg (by decide), cl2] at ho
        refine xc_c1 (j := 0) (m := 2) (fuel := 2) hB hk hi hg8 (by omega) (by omega) (by omega) ox (hT (g * 3)) he (hx (by omega)) (hs _ (by omega)) h0 h1 (fun z => ?_) (fun z P p0 p1 => ?_)
        · rw [if_pos z] at ho
          exact H0 ho a_params e he h0 h1
        · rw [if_neg z] at ho
          refine xc_c1 (j := 1) (m := 2) (fuel := 1) hB hk hi hg8 (by omega) (by omega) (by omega) oy (hT (g * 3 + 1)) (xa_nv_e (hT _) he) (hy (by omega)) (hs _ (by omega)) p0 p1 (fun z => ?_) (fun z P' p0' p1' => ?_)
          · rw [if_pos z] at ho
            exact H0 ho P _ (xa_nv_e (hT _) he) p0 p1
          · rw [if_neg z] at ho
            exact xc_c0 (m := 2) hg8 (fuel := 0) (hs _ (by omega)) (by omega) (H P' _ _ ⟨xa_nv_e (hT _) (xa_nv_e (hT _) he), hT _, ho.symm⟩ p0' p1')
    · refine br_f am (H0 (xc_nofit (fun z => am (by rw [← em, ← z.2, eg, cg])) ho) a_params e he h0 h1)
  · refine br_f s2 (H0 (xc_nofit (fun z => s2 (by rw [← z.1, eg, cg])) ho) a_params e he h0 h1)
/-- a leaf -/
theorem xc_pow : ∀ j, j < 8 → (1 : Int32) <<< (nI j &&& 31) = nI (2 ^ j) := by decide
theorem xa_jn_fin {o o' : ab_O} (h : ab_po k o) (h' : ab_po k o') : ab_fin (ty_join (xa_ty o) (xa_ty o')) (ty_join (xa_en o).1 (xa_en o').1, ty_join (xa_en o).2 (xa_en o').2) = ab_jn o o' := by
  cases o with
  | none =>
    cases o' with
    | none => exact ab_fin_dead (Or.inl (ty_join_0 ty_0))
    | some y =>
      obtain ⟨_, a, _, b, c⟩ := h' y rfl
      show ab_fin (ty_join ty_0 y.1) (ty_join ty_0 y.2.1, ty_join ty_0 y.2.2) = some y
      rw [ty_0_join, ty_0_join, ty_0_join]
      exact ab_fin_to a b c
  | some x =>
    obtain ⟨_, a, _, b, c⟩ := h x rfl
    cases o' with
    | none =>
      show ab_fin (ty_join x.1 ty_0) (ty_join x.2.1 ty_0, ty_join x.2.2 ty_0) = some x
      rw [ty_join_0, ty_join_0, ty_join_0]
      exact ab_fin_to a b c
    | some y => exact ab_fin_to (ty_le_ne (ty_join_l _ _) a) (ty_le_ne (ty_join_l _ _) b) (ty_le_ne (ty_join_l _ _) c)
end
end
section
section
variable {f_slotCount f_capacity f_nodesUsed f_buildingSlot f_pendingCount f_summariesCurrent f_callsActive f_callsMade f_runOutcome f_runValue : Int32} {a_slotStates a_slotArities a_slotStarts a_slotSizes a_kinds a_firstOperands a_secondOperands a_children a_parents a_depths a_pendingNodes a_summaries a_nextSummaries a_nodeTypes a_paramsAfter a_params a_values a_arguments a_frameSlots a_frameNodes : Nat → Int32} {N k n S : Nat} {K A B : Nat → Int32}
theorem xc_n_lf {Q : Int32 → SX → Prop} (hB : rl_body N k n S K A B a_kinds a_firstOperands a_secondOperands a_children a_parents a_depths) (hk : k ≤ 2) {i : Nat} (hi : i < n) (h : K i = 0 ∨ K i = 1 ∨ K i = 2) {e : ab_E} (he : xa_e e)
    (h0 : a_params 0 = ty_x e.1) (h1 : a_params 1 = ty_x e.2) (H : ∀ (P : Nat → Int32) (r : ty_T) (e' : ab_E), xc_o r e' (ab_leaf K A i e) → P 0 = ty_x e'.1 → P 1 = ty_x e'.2 → Q (ty_x r) (f_slotCount, f_capacity, f_nodesUsed, f_buildingSlot, f_pendingCount, f_summariesCurrent, f_callsActive, f_callsMade, f_runOutcome, f_runValue, a_slotStates, a_slotArities, a_slotStarts, a_slotSizes, a_kinds, a_firstOperands, a_secondOperands, a_children, a_parents, a_depths, a_pendingNodes, a_summaries, a_nextSummaries, a_nodeTypes, a_paramsAfter, P, a_values, a_arguments, a_frameSlots, a_frameNodes)) : wpX_inferNode Q (f_slotCount, f_capacity, f_nodesUsed, f_buildingSlot, f_pendingCount, f_summariesCurrent, f_callsActive, f_callsMade, f_runOutcome, f_runValue, a_slotStates, a_slotArities, a_slotStarts, a_slotSizes, a_kinds, a_firstOperands, a_secondOperands, a_children, a_parents, a_depths, a_pendingNodes, a_summaries, a_nextSummaries, a_nodeTypes, a_paramsAfter, a_params, a_values, a_arguments, a_frameSlots, a_frameNodes) (nI (S + i)) := by
  obtain ⟨w, cl, rk, ra, rb⟩ := xc_row hB hi
  unfold wpX_inferNode
  dsimp only
  rw [cl, ra, rk]
  unfold ab_leaf at H
  rcases h with h | h | h
  · rw [if_pos h] at H
    obtain ⟨l1, l2⟩ := (hB.2.1.1 i hi).2.1 h
    rw [h]
    refine ⟨w, nm_e (br_f (by decide) (br_f (by decide) (br_t rfl ⟨w, w, ?_⟩)))⟩
    exact xt_range (Int.le_refl _) l2 l1 (H a_params _ e ⟨he, ty_r_ok (Int.le_refl _), rfl⟩ h0 h1)
  · rw [if_neg (by rw [h]; decide), if_pos h] at H
    obtain ⟨j, hj, ej⟩ := (hB.2.1.1 i hi).2.2.1 h
    rw [ej, nI_clamp (by omega)] at H
    rw [h, ej, xc_pow j hj]
    exact ⟨w, nm_e (br_f (by decide) (br_f (by decide) (br_f (by decide) (br_t rfl ⟨w, H a_params _ e ⟨he, ab_pow_ok hj, rfl⟩ h0 h1⟩))))⟩
  · rw [if_neg (by rw [h]; decide), if_neg (by rw [h]; decide)] at H
    obtain ⟨j, hj, ej⟩ := (hB.2.1.1 i hi).2.2.2.1 h
    rw [ej] at H
    have jj : j = 0 ∨ j = 1 := by omega
    rw [h, ej]
    rcases jj with rfl | rfl
    · rw [if_pos nI_0] at H
      rw [nI_clamp (by decide), h0]
      exact ⟨w, nm_e (br_f (by decide) (br_f (by decide) (br_f (by decide) (br_f (by decide) (br_t rfl ⟨w, vp_in_nI (by decide) (by decide), H a_params _ e ⟨he, he.1, rfl⟩ h0 h1⟩)))))⟩
    · rw [if_neg (by decide)] at H
      rw [nI_clamp (by decide), h1]
      exact ⟨w, nm_e (br_f (by decide) (br_f (by decide) (br_f (by decide) (br_f (by decide) (br_t rfl ⟨w, vp_in_nI (by decide) (by decide), H a_params _ e ⟨he, he.2, rfl⟩ h0 h1⟩)))))⟩
theorem xc_n_op {Q : Int32 → SX → Prop} (hB : rl_body N k n S K A B a_kinds a_firstOperands a_secondOperands a_children a_parents a_depths) (hk : k ≤ 2) {i : Nat} (hi : i < n) (h : K i = 3 ∨ K i = 4 ∨ K i = 5 ∨ K i = 6) (hc : rl_c K B i = 2)
    {x y : ty_T} {e : ab_E} (ox : ty_ok x) (oy : ty_ok y) (he : xa_e e) (hx : a_nodeTypes (S + bs_ch (rl_c K B) i 0) = ty_x x) (hy : a_nodeTypes (S + bs_ch (rl_c K B) i 1) = ty_x y)
    (h0 : a_params 0 = ty_x e.1) (h1 : a_params 1 = ty_x e.2) (H : ∀ (P : Nat → Int32) (r : ty_T) (e' : ab_E), xc_o r e' (ab_opf K A (rl_c K B) i x y e) → P 0 = ty_x e'.1 → P 1 = ty_x e'.2 → Q (ty_x r) (f_slotCount, f_capacity, f_nodesUsed, f_buildingSlot, f_pendingCount, f_summariesCurrent, f_callsActive, f_callsMade, f_runOutcome, f_runValue, a_slotStates, a_slotArities, a_slotStarts, a_slotSizes, a_kinds, a_firstOperands, a_secondOperands, a_children, a_parents, a_depths, a_pendingNodes, a_summaries, a_nextSummaries, a_nodeTypes, a_paramsAfter, P, a_values, a_arguments, a_frameSlots, a_frameNodes)) : wpX_inferNode Q (f_slotCount, f_capacity, f_nodesUsed, f_buildingSlot, f_pendingCount, f_summariesCurrent, f_callsActive, f_callsMade, f_runOutcome, f_runValue, a_slotStates, a_slotArities, a_slotStarts, a_slotSizes, a_kinds, a_firstOperands, a_secondOperands, a_children, a_parents, a_depths, a_pendingNodes, a_summaries, a_nextSummaries, a_nodeTypes, a_paramsAfter, a_params, a_values, a_arguments, a_frameSlots, a_frameNodes) (nI (S + i)) := by
  obtain ⟨w, cl, rk, ra, rb⟩ := xc_row hB hi
  have num : (K i = 3 ∨ K i = 4 ∨ K i = 5) → wpX_inferNumeric Q (f_slotCount, f_capacity, f_nodesUsed, f_buildingSlot, f_pendingCount, f_summariesCurrent, f_callsActive, f_callsMade, f_runOutcome, f_runValue, a_slotStates, a_slotArities, a_slotStarts, a_slotSizes, a_kinds, a_firstOperands, a_secondOperands, a_children, a_parents, a_depths, a_pendingNodes, a_summaries, a_nextSummaries, a_nodeTypes, a_paramsAfter, a_params, a_values, a_arguments, a_frameSlots, a_frameNodes) (nI (S + i)) := by
    intro h
    have n6 : ¬ K i = 6 := by rcases h with h | h | h <;> rw [h] <;> decide
    unfold ab_opf at H
    rw [if_neg n6] at H
    refine xc_numeric hB hk hi h hc ox oy he hx hy h0 h1 (fun z => ?_) (fun z P p0 p1 => ?_)
    · rw [if_pos z] at H
      have := H a_params ty_0 e ⟨he, ty_0_ok, by unfold ab_fin; rw [if_pos (Or.inl rfl)]⟩ h0 h1
      rw [ty_x_00] at this
      exact this
    · rw [if_neg z] at H
      exact H P _ _ ⟨xa_nv_e ty_ints_ok (xa_nv_e ty_ints_ok he), ab_num_ok ox oy (fun q => z (Or.inl q)) (fun q => z (Or.inr q)), rfl⟩ p0 p1
  have num' : (K i = 3 ∨ K i = 4 ∨ K i = 5) → wX_inferNode_93 Q (nI (S + i)) f_slotCount f_capacity f_nodesUsed f_buildingSlot f_pendingCount f_summariesCurrent f_callsActive f_callsMade f_runOutcome f_runValue a_slotStates a_slotArities a_slotStarts a_slotSizes a_kinds a_firstOperands a_secondOperands a_children a_parents a_depths a_pendingNodes a_summaries a_nextSummaries a_nodeTypes a_paramsAfter a_params a_values a_arguments a_frameSlots a_frameNodes := fun h => num h
  unfold wpX_inferNode
  dsimp only
  rw [cl, rk]
  rcases h with h | h | h | h
  · have q := num' (Or.inl h)
    rw [h]
    exact ⟨w, nm_e (br_f (by decide) (br_f (by decide) (br_f (by decide) (br_f (by decide) (br_f (by decide) (br_t rfl q))))))⟩
  · have q := num' (Or.inr (Or.inl h))
    rw [h]
    exact ⟨w, nm_e (br_f (by decide) (br_f (by decide) (br_f (by decide) (br_f (by decide) (br_f (by decide) (br_f (by decide) (br_t rfl q)))))))⟩
  · have q := num' (Or.inr (Or.inr h))
    rw [h]
    exact ⟨w, nm_e (br_f (by decide) (br_f (by decide) (br_f (by decide) (br_f (by decide) (br_f (by decide) (br_f (by decide) (br_f (by decide) (br_t rfl q))))))))⟩
  · unfold ab_opf at H
    rw [if_pos h] at H
    rw [h]
    refine ⟨w, nm_e (br_f (by decide) (br_f (by decide) (br_f (by decide) (br_f (by decide) (br_f (by decide) (br_f (by decide) (br_f (by decide) (br_f (by decide) (br_t rfl ?_)))))))))⟩
    exact xc_equal hB hi hc ox oy hx hy (H a_params _ e ⟨he, ab_lit_ok (by split <;> decide), rfl⟩ h0 h1)
theorem xc_n_isi {Q : Int32 → SX → Prop} (hB : rl_body N k n S K A B a_kinds a_firstOperands a_secondOperands a_children a_parents a_depths) {i : Nat} (hi : i < n) (h : K i = 7) (hc : rl_c K B i = 1)
    {x : ty_T} {e : ab_E} (ox : ty_ok x) (he : xa_e e) (hx : a_nodeTypes (S + bs_ch (rl_c K B) i 0) = ty_x x)
    (h0 : a_params 0 = ty_x e.1) (h1 : a_params 1 = ty_x e.2) (H : ∀ (P : Nat → Int32) (r : ty_T) (e' : ab_E), xc_o r e' (ab_fin ((if x.1 = 0 then 0 else 1) + (if x.2.1 = 0 then 0 else 2), 0, 0) e) → P 0 = ty_x e'.1 → P 1 = ty_x e'.2 → Q (ty_x r) (f_slotCount, f_capacity, f_nodesUsed, f_buildingSlot, f_pendingCount, f_summariesCurrent, f_callsActive, f_callsMade, f_runOutcome, f_runValue, a_slotStates, a_slotArities, a_slotStarts, a_slotSizes, a_kinds, a_firstOperands, a_secondOperands, a_children, a_parents, a_depths, a_pendingNodes, a_summaries, a_nextSummaries, a_nodeTypes, a_paramsAfter, P, a_values, a_arguments, a_frameSlots, a_frameNodes)) : wpX_inferNode Q (f_slotCount, f_capacity, f_nodesUsed, f_buildingSlot, f_pendingCount, f_summariesCurrent, f_callsActive, f_callsMade, f_runOutcome, f_runValue, a_slotStates, a_slotArities, a_slotStarts, a_slotSizes, a_kinds, a_firstOperands, a_secondOperands, a_children, a_parents, a_depths, a_pendingNodes, a_summaries, a_nextSummaries, a_nodeTypes, a_paramsAfter, a_params, a_values, a_arguments, a_frameSlots, a_frameNodes) (nI (S + i)) := by
  obtain ⟨w, cl, rk, ra, rb⟩ := xc_row hB hi
  unfold wpX_inferNode
  dsimp only
  rw [cl, rk, h]
  refine ⟨w, nm_e (br_f (by decide) (br_f (by decide) (br_f (by decide) (br_f (by decide) (br_f (by decide) (br_f (by decide) (br_f (by decide) (br_f (by decide) (br_f (by decide) (br_t rfl ?_))))))))))⟩
  exact xc_isint hB hi hc ox hx (H a_params _ e ⟨he, ab_lit_ok (by split <;> split <;> decide), rfl⟩ h0 h1)
theorem xc_n_if {Q : Int32 → SX → Prop} (hB : rl_body N k n S K A B a_kinds a_firstOperands a_secondOperands a_children a_parents a_depths) {i : Nat} (hi : i < n) (h : K i = 8) (hc : rl_c K B i = 3)
    {o o' : ab_O} (po : ab_po k o) (po' : ab_po k o')
    (hx : a_nodeTypes (S + bs_ch (rl_c K B) i 1) = ty_x (xa_ty o)) (hy : a_nodeTypes (S + bs_ch (rl_c K B) i 2) = ty_x (xa_ty o'))
    (e0 : a_paramsAfter ((S + bs_ch (rl_c K B) i 1) * 2) = ty_x (xa_en o).1) (e1 : a_paramsAfter ((S + bs_ch (rl_c K B) i 1) * 2 + 1) = ty_x (xa_en o).2)
    (f0 : a_paramsAfter ((S + bs_ch (rl_c K B) i 2) * 2) = ty_x (xa_en o').1) (f1 : a_paramsAfter ((S + bs_ch (rl_c K B) i 2) * 2 + 1) = ty_x (xa_en o').2)
    (H : ∀ (P : Nat → Int32) (r : ty_T) (e' : ab_E), xc_o r e' (ab_jn o o') → P 0 = ty_x e'.1 → P 1 = ty_x e'.2 → Q (ty_x r) (f_slotCount, f_capacity, f_nodesUsed, f_buildingSlot, f_pendingCount, f_summariesCurrent, f_callsActive, f_callsMade, f_runOutcome, f_runValue, a_slotStates, a_slotArities, a_slotStarts, a_slotSizes, a_kinds, a_firstOperands, a_secondOperands, a_children, a_parents, a_depths, a_pendingNodes, a_summaries, a_nextSummaries, a_nodeTypes, a_paramsAfter, P, a_values, a_arguments, a_frameSlots, a_frameNodes)) : wpX_inferNode Q (f_slotCount, f_capacity, f_nodesUsed, f_buildingSlot, f_pendingCount, f_summariesCurrent, f_callsActive, f_callsMade, f_runOutcome, f_runValue, a_slotStates, a_slotArities, a_slotStarts, a_slotSizes, a_kinds, a_firstOperands, a_secondOperands, a_children, a_parents, a_depths, a_pendingNodes, a_summaries, a_nextSummaries, a_nodeTypes, a_paramsAfter, a_params, a_values, a_arguments, a_frameSlots, a_frameNodes) (nI (S + i)) := by
  obtain ⟨w, cl, rk, ra, rb⟩ := xc_row hB hi
  have q := xa_eo_e (xa_en_eo po)
  have q' := xa_eo_e (xa_en_eo po')
  unfold wpX_inferNode
  dsimp only
  rw [cl, rk, h]
  refine ⟨w, nm_e (br_f (by decide) (br_f (by decide) (br_f (by decide) (br_f (by decide) (br_f (by decide) (br_f (by decide) (br_f (by decide) (br_f (by decide) (br_f (by decide) (br_f (by decide) (br_t rfl ?_)))))))))))⟩
  exact xc_if hB hi hc (xa_ty_ok po) (xa_ty_ok po') q q' hx hy e0 e1 f0 f1 (fun P p0 p1 => H P _ (_, _) ⟨⟨ty_join_ok q.1 q'.1, ty_join_ok q.2 q'.2⟩, ty_join_ok (xa_ty_ok po) (xa_ty_ok po'), xa_jn_fin po po'⟩ p0 p1)
theorem xc_n_call {Q : Int32 → SX → Prop} {tb : Nat → ty_T} (hB : rl_body N k n S K A B a_kinds a_firstOperands a_secondOperands a_children a_parents a_depths) (hk : k ≤ 2) (hN : N ≤ 8) {i : Nat} (hi : i < n) (h9 : K i = 9)
    {x y : ty_T} {e : ab_E} (ox : ty_ok x) (oy : ty_ok y) (he : xa_e e) (hT : ∀ q, ty_ok (tb q)) (hs : ∀ q, q < 24 → a_summaries q = ty_x (tb q)) (h0 : a_params 0 = ty_x e.1) (h1 : a_params 1 = ty_x e.2)
    (hx : 1 ≤ rl_c K B i → a_nodeTypes (S + bs_ch (rl_c K B) i 0) = ty_x x) (hy : 2 ≤ rl_c K B i → a_nodeTypes (S + bs_ch (rl_c K B) i 1) = ty_x y) {o : ab_O}
    (ho : o = if B i = 0 then ab_cl0 A B a_slotStates a_slotArities tb i e else if B i = 1 then ab_cl1 K A B a_slotStates a_slotArities (rl_c K B) tb i x e else ab_cl2 K A B a_slotStates a_slotArities (rl_c K B) tb i x y e)
    (H : ∀ (P : Nat → Int32) (r : ty_T) (e' : ab_E), xc_o r e' o → P 0 = ty_x e'.1 → P 1 = ty_x e'.2 → Q (ty_x r) (f_slotCount, f_capacity, f_nodesUsed, f_buildingSlot, f_pendingCount, f_summariesCurrent, f_callsActive, f_callsMade, f_runOutcome, f_runValue, a_slotStates, a_slotArities, a_slotStarts, a_slotSizes, a_kinds, a_firstOperands, a_secondOperands, a_children, a_parents, a_depths, a_pendingNodes, a_summaries, a_nextSummaries, a_nodeTypes, a_paramsAfter, P, a_values, a_arguments, a_frameSlots, a_frameNodes)) : wpX_inferNode Q (f_slotCount, f_capacity, f_nodesUsed, f_buildingSlot, f_pendingCount, f_summariesCurrent, f_callsActive, f_callsMade, f_runOutcome, f_runValue, a_slotStates, a_slotArities, a_slotStarts, a_slotSizes, a_kinds, a_firstOperands, a_secondOperands, a_children, a_parents, a_depths, a_pendingNodes, a_summaries, a_nextSummaries, a_nodeTypes, a_paramsAfter, a_params, a_values, a_arguments, a_frameSlots, a_frameNodes) (nI (S + i)) := by
  obtain ⟨w, cl, rk, ra, rb⟩ := xc_row hB hi
  unfold wpX_inferNode
  dsimp only
  rw [cl, rk, h9]
  refine ⟨w, nm_e (br_f (by decide) (br_t (by decide) ?_))⟩
  exact xc_call hB hk hN hi h9 ox oy he hT hs h0 h1 hx hy ho H
theorem xc_k60 {Q : SX → Prop} {r : Nat} (hr : r < 128) {z : Int32} (H : Q (f_slotCount, f_capacity, f_nodesUsed, f_buildingSlot, f_pendingCount, f_summariesCurrent, f_callsActive, f_callsMade, f_runOutcome, f_runValue, a_slotStates, a_slotArities, a_slotStarts, a_slotSizes, a_kinds, a_firstOperands, a_secondOperands, a_children, a_parents, a_depths, a_pendingNodes, a_summaries, a_nextSummaries, upd a_nodeTypes r z, upd (upd a_paramsAfter (r * 2) (a_params 0)) (r * 2 + 1) (a_params 1), a_params, a_values, a_arguments, a_frameSlots, a_frameNodes)) : wX_keepOutcome_60 Q (nI r) z (nI r) f_slotCount f_capacity f_nodesUsed f_buildingSlot f_pendingCount f_summariesCurrent f_callsActive f_callsMade f_runOutcome f_runValue a_slotStates a_slotArities a_slotStarts a_slotSizes a_kinds a_firstOperands a_secondOperands a_children a_parents a_depths a_pendingNodes a_summaries a_nextSummaries a_nodeTypes a_paramsAfter a_params a_values a_arguments a_frameSlots a_frameNodes := by
  unfold wX_keepOutcome_60
  rw [xc_21, xc_2, nI_clamp (n := r) (by omega), nI_clamp (n := r * 2) (by omega), nI_clamp (n := r * 2 + 1) (by omega)]
  exact ⟨vp_in_nI hr (by omega), nm_e ⟨vp_in_nI (by omega) (by omega), nm_e ⟨vp_in_nI (by omega) (by omega), nm_e H⟩⟩⟩
theorem xc_k22 {Q : SX → Prop} {r : Nat} (hr : r < 128) {z : Int32} (H : ∀ P : Nat → Int32, P 0 = 0 → P 1 = 0 → Q (f_slotCount, f_capacity, f_nodesUsed, f_buildingSlot, f_pendingCount, f_summariesCurrent, f_callsActive, f_callsMade, f_runOutcome, f_runValue, a_slotStates, a_slotArities, a_slotStarts, a_slotSizes, a_kinds, a_firstOperands, a_secondOperands, a_children, a_parents, a_depths, a_pendingNodes, a_summaries, a_nextSummaries, upd a_nodeTypes r 0, upd (upd a_paramsAfter (r * 2) 0) (r * 2 + 1) 0, P, a_values, a_arguments, a_frameSlots, a_frameNodes)) : wX_keepOutcome_22 Q (nI r) z f_slotCount f_capacity f_nodesUsed f_buildingSlot f_pendingCount f_summariesCurrent f_callsActive f_callsMade f_runOutcome f_runValue a_slotStates a_slotArities a_slotStarts a_slotSizes a_kinds a_firstOperands a_secondOperands a_children a_parents a_depths a_pendingNodes a_summaries a_nextSummaries a_nodeTypes a_paramsAfter a_params a_values a_arguments a_frameSlots a_frameNodes := by
  unfold wX_keepOutcome_22 wX_keepOutcome_27
  refine br_f (by decide) (nm_e (nm_e ?_))
  unfold wX_keepOutcome_46
  refine br_f (by decide) (xc_k60 hr ?_)
  rw [pk_us, pk_un (by decide), pk_us]
  exact H _ (by rw [pk_un (by decide), pk_us]) pk_us
theorem xc_keep {Q : SX → Prop} {r : Nat} (hr : r < 128) {t : ty_T} {e : ab_E} {o : ab_O} (ho : xc_o t e o) (h0 : a_params 0 = ty_x e.1) (h1 : a_params 1 = ty_x e.2)
    (H : ∀ P : Nat → Int32, P 0 = ty_x (xa_en o).1 → P 1 = ty_x (xa_en o).2 → Q (f_slotCount, f_capacity, f_nodesUsed, f_buildingSlot, f_pendingCount, f_summariesCurrent, f_callsActive, f_callsMade, f_runOutcome, f_runValue, a_slotStates, a_slotArities, a_slotStarts, a_slotSizes, a_kinds, a_firstOperands, a_secondOperands, a_children, a_parents, a_depths, a_pendingNodes, a_summaries, a_nextSummaries, upd a_nodeTypes r (ty_x (xa_ty o)), upd (upd a_paramsAfter (r * 2) (ty_x (xa_en o).1)) (r * 2 + 1) (ty_x (xa_en o).2), P, a_values, a_arguments, a_frameSlots, a_frameNodes)) : wpX_keepOutcome Q (f_slotCount, f_capacity, f_nodesUsed, f_buildingSlot, f_pendingCount, f_summariesCurrent, f_callsActive, f_callsMade, f_runOutcome, f_runValue, a_slotStates, a_slotArities, a_slotStarts, a_slotSizes, a_kinds, a_firstOperands, a_secondOperands, a_children, a_parents, a_depths, a_pendingNodes, a_summaries, a_nextSummaries, a_nodeTypes, a_paramsAfter, a_params, a_values, a_arguments, a_frameSlots, a_frameNodes) (nI r) (ty_x t) := by
  obtain ⟨he, ht, ho⟩ := ho
  have bot : o = none → wX_keepOutcome_22 Q (nI r) (ty_x t) f_slotCount f_capacity f_nodesUsed f_buildingSlot f_pendingCount f_summariesCurrent f_callsActive f_callsMade f_runOutcome f_runValue a_slotStates a_slotArities a_slotStarts a_slotSizes a_kinds a_firstOperands a_secondOperands a_children a_parents a_depths a_pendingNodes a_summaries a_nextSummaries a_nodeTypes a_paramsAfter a_params a_values a_arguments a_frameSlots a_frameNodes := fun on => by
    rw [on] at H
    refine xc_k22 hr fun P p0 p1 => ?_
    exact H P (by rw [p0]; exact ty_x_00.symm) (by rw [p1]; exact ty_x_00.symm)
  unfold wpX_keepOutcome
  dsimp only
  rw [h0, h1]
  by_cases a : t = ty_0
  · exact br_t ((ty_x_0 ht).mpr a) (bot (by rw [← ho]; unfold ab_fin; rw [if_pos (Or.inl a)]))
  · refine br_f (fun z => a ((ty_x_0 ht).mp z)) ?_
    by_cases b : e.1 = ty_0
    · exact br_t ((ty_x_0 he.1).mpr b) (bot (by rw [← ho]; unfold ab_fin; rw [if_pos (Or.inr (Or.inl b))]))
    · refine br_f (fun z => b ((ty_x_0 he.1).mp z)) ?_
      by_cases c : e.2 = ty_0
      · exact br_t ((ty_x_0 he.2).mpr c) (bot (by rw [← ho]; unfold ab_fin; rw [if_pos (Or.inr (Or.inr c))]))
      · refine br_f (fun z => c ((ty_x_0 he.2).mp z)) ?_
        rw [ab_fin_to a b c] at ho
        subst ho
        unfold wX_keepOutcome_27
        refine br_t rfl ?_
        unfold wX_keepOutcome_46
        refine br_t rfl (xc_k60 hr ?_)
        rw [h0, h1]
        exact H a_params h0 h1
theorem xc_cond {Q : Int32 → Prop} (hB : rl_body N k n S K A B a_kinds a_firstOperands a_secondOperands a_children a_parents a_depths) {i j : Nat} (hi : i < n) (hj : j < rl_c K B i)
    (H1 : K i = 8 → j = 0 → Q 1) (H0 : ¬ (K i = 8 ∧ j = 0) → Q 0) : wpX_isCondition Q (f_slotCount, f_capacity, f_nodesUsed, f_buildingSlot, f_pendingCount, f_summariesCurrent, f_callsActive, f_callsMade, f_runOutcome, f_runValue, a_slotStates, a_slotArities, a_slotStarts, a_slotSizes, a_kinds, a_firstOperands, a_secondOperands, a_children, a_parents, a_depths, a_pendingNodes, a_summaries, a_nextSummaries, a_nodeTypes, a_paramsAfter, a_params, a_values, a_arguments, a_frameSlots, a_frameNodes) (nI (S + bs_ch (rl_c K B) i j)) := by
  obtain ⟨w, cl, rk, _⟩ := xc_row hB hi
  obtain ⟨w0, cl0, r0, l0⟩ := xc_child hB hi (j := 0) (by omega)
  obtain ⟨_, _, _, lj⟩ := xc_child hB hi hj
  obtain ⟨wj, clj, _⟩ := xc_row hB lj
  obtain ⟨_, _, _, r4, _⟩ := hB.2.2 i hi
  have hS := hB.1
  rw [Nat.add_zero] at w0 cl0 r0
  unfold wpX_isCondition
  dsimp only
  rw [clj, (r4 j hj).2]
  refine ⟨wj, nm_e (br_f ?_ ⟨w, ?_⟩)⟩
  · intro z
    have := nI_pos' (n := S + i) (by omega)
    rw [z] at this
    exact absurd this (by decide)
  · rw [cl, rk, xc_3, cl0, r0]
    by_cases h8 : K i = 8
    · refine br_t h8 ⟨w0, ?_⟩
      by_cases j0 : j = 0
      · subst j0; exact br_t rfl (H1 h8 rfl)
      · have lt := bs_ch_ne hB.2.1.2.2 hi hj (show 0 < j by omega)
        exact br_f (fun z => by rw [nI_eq (by omega) (by omega)] at z; omega) (H0 fun z => j0 z.2)
    · exact br_f h8 (H0 fun z => h8 z.1)
theorem xc_then {Q : Int32 → Prop} (hB : rl_body N k n S K A B a_kinds a_firstOperands a_secondOperands a_children a_parents a_depths) {i j : Nat} (hi : i < n) (hj : j < rl_c K B i)
    (H1 : K i = 8 → j = 1 → Q 1) (H0 : ¬ (K i = 8 ∧ j = 1) → Q 0) : wpX_isThenBranch Q (f_slotCount, f_capacity, f_nodesUsed, f_buildingSlot, f_pendingCount, f_summariesCurrent, f_callsActive, f_callsMade, f_runOutcome, f_runValue, a_slotStates, a_slotArities, a_slotStarts, a_slotSizes, a_kinds, a_firstOperands, a_secondOperands, a_children, a_parents, a_depths, a_pendingNodes, a_summaries, a_nextSummaries, a_nodeTypes, a_paramsAfter, a_params, a_values, a_arguments, a_frameSlots, a_frameNodes) (nI (S + bs_ch (rl_c K B) i j)) := by
  obtain ⟨w, cl, rk, _⟩ := xc_row hB hi
  obtain ⟨_, _, _, lj⟩ := xc_child hB hi hj
  obtain ⟨wj, clj, _⟩ := xc_row hB lj
  obtain ⟨_, _, _, r4, _⟩ := hB.2.2 i hi
  have hS := hB.1
  unfold wpX_isThenBranch
  dsimp only
  rw [clj, (r4 j hj).2]
  refine ⟨wj, nm_e (br_f ?_ ⟨w, ?_⟩)⟩
  · intro z
    have := nI_pos' (n := S + i) (by omega)
    rw [z] at this
    exact absurd this (by decide)
  · rw [cl, rk]
    by_cases h8 : K i = 8
    · have c3 := ab_c8 hB.2.1 h8
      obtain ⟨w1, cl1, r1, l1⟩ := xc_child hB hi (j := 1) (by omega)
      rw [xc_31, cl1, r1]
      refine br_t h8 ⟨w1, ?_⟩
      by_cases j1 : j = 1
      · subst j1; exact br_t rfl (H1 h8 rfl)
      · refine br_f (fun z => ?_) (H0 fun z => j1 z.2)
        rw [nI_eq (by omega) (by omega)] at z
        by_cases j0 : j = 0
        · have lt := bs_ch_ne hB.2.1.2.2 hi (k := 1) (j := j) (by omega) (by omega)
          omega
        · have lt := bs_ch_ne hB.2.1.2.2 hi hj (show 1 < j by omega)
          omega
    · exact br_f h8 (H0 fun z => h8 z.1)
theorem xc_enter {Q : SX → Prop} (hB : rl_body N k n S K A B a_kinds a_firstOperands a_secondOperands a_children a_parents a_depths) (hk : k ≤ 2) {i : Nat} (hi : i < n) (h8 : K i = 8) {x t : ty_T} {e : ab_E} {β : Bool} {b : Int32} (ot : ty_ok t) (he : xa_e e)
    (hb : ty_x x &&& b = 0 ↔ ¬ β = true) (hx : a_nodeTypes (S + bs_ch (rl_c K B) i 0) = ty_x x) (e0 : a_paramsAfter ((S + bs_ch (rl_c K B) i 0) * 2) = ty_x e.1) (e1 : a_paramsAfter ((S + bs_ch (rl_c K B) i 0) * 2 + 1) = ty_x e.2)
    (H : ∀ P : Nat → Int32, P 0 = ty_x (xa_br β (ab_th K A (rl_c K B) i t e)).1 → P 1 = ty_x (xa_br β (ab_th K A (rl_c K B) i t e)).2 → Q (f_slotCount, f_capacity, f_nodesUsed, f_buildingSlot, f_pendingCount, f_summariesCurrent, f_callsActive, f_callsMade, f_runOutcome, f_runValue, a_slotStates, a_slotArities, a_slotStarts, a_slotSizes, a_kinds, a_firstOperands, a_secondOperands, a_children, a_parents, a_depths, a_pendingNodes, a_summaries, a_nextSummaries, a_nodeTypes, a_paramsAfter, P, a_values, a_arguments, a_frameSlots, a_frameNodes)) : wpX_enterBranch Q (f_slotCount, f_capacity, f_nodesUsed, f_buildingSlot, f_pendingCount, f_summariesCurrent, f_callsActive, f_callsMade, f_runOutcome, f_runValue, a_slotStates, a_slotArities, a_slotStarts, a_slotSizes, a_kinds, a_firstOperands, a_secondOperands, a_children, a_parents, a_depths, a_pendingNodes, a_summaries, a_nextSummaries, a_nodeTypes, a_paramsAfter, a_params, a_values, a_arguments, a_frameSlots, a_frameNodes) (nI (S + bs_ch (rl_c K B) i 0)) b (ty_x t) := by
  have c3 := ab_c8 hB.2.1 h8
  obtain ⟨_, _, _, l0⟩ := xc_child hB hi (j := 0) (by omega)
  obtain ⟨w, cl, rk, _⟩ := xc_row hB l0
  have hS := hB.1
  have fin : ∀ (P : Nat → Int32) (E : ab_E), E = ab_th K A (rl_c K B) i t e → P 0 = ty_x E.1 → P 1 = ty_x E.2 → wX_enterBranch_60 Q (nI (S + bs_ch (rl_c K B) i 0)) b f_slotCount f_capacity f_nodesUsed f_buildingSlot f_pendingCount f_summariesCurrent f_callsActive f_callsMade f_runOutcome f_runValue a_slotStates a_slotArities a_slotStarts a_slotSizes a_kinds a_firstOperands a_secondOperands a_children a_parents a_depths a_pendingNodes a_summaries a_nextSummaries a_nodeTypes a_paramsAfter P a_values a_arguments a_frameSlots a_frameNodes := by
    intro P E eE p0 p1
    unfold wX_enterBranch_60
    rw [cl, hx]
    refine ⟨w, ?_⟩
    rw [← eE] at H
    unfold xa_br at H
    by_cases q : β = true
    · rw [if_pos q] at H
      exact br_f (fun z => hb.mp z q) (H P p0 p1)
    · rw [if_neg q] at H
      exact br_t (hb.mpr q) (nm_e (H _ (by rw [pk_us]; exact ty_x_00.symm) (by rw [pk_un (by decide)]; exact p1)))
  unfold wpX_enterBranch
  dsimp only
  rw [xc_21, xc_2, xc_3, nI_clamp (n := (S + bs_ch (rl_c K B) i 0) * 2) (by omega), nI_clamp (n := (S + bs_ch (rl_c K B) i 0) * 2 + 1) (by omega), e0, e1, xc_bool]
  refine ⟨vp_in_nI (by omega) (by omega), nm_e ⟨vp_in_nI (by omega) (by omega), nm_e ?_⟩⟩
  refine xc_nv hB hk l0 ty_bool_ok he (by rw [pk_un (by decide), pk_us]) pk_us fun P p0 p1 => ?_
  dsimp only
  rw [cl, rk]
  refine ⟨w, ?_⟩
  by_cases h7 : K (bs_ch (rl_c K B) i 0) = 7
  · have c1 := ab_c7 hB.2.1 h7
    obtain ⟨w1, cl1, r1, l1⟩ := xc_child hB l0 (j := 0) (by omega)
    rw [Nat.add_zero] at w1 cl1 r1
    rw [cl1, r1]
    refine br_t h7 ⟨w1, ?_⟩
    refine xc_nv hB hk l1 ot (xa_nv_e ty_bool_ok he) p0 p1 fun P' p0' p1' => fin P' _ ?_ p0' p1'
    unfold ab_th; rw [if_pos h7]
  · refine br_f h7 (fin P _ ?_ p0 p1)
    unfold ab_th; rw [if_neg h7]
end
end
section
def xs_z (a b c : Nat → Int32) : Nat → Nat → Int32 := fun q => match q with
  | 0 => a
  | 1 => b
  | _ => c
def xs_k (post : SX → Prop) (x1 x2 : Int32) (E fuel r : Nat) : SX → Prop := fun u => match u with
  | (f_slotCount, f_capacity, f_nodesUsed, f_buildingSlot, f_pendingCount, f_summariesCurrent, f_callsActive, f_callsMade, f_runOutcome, f_runValue, a_slotStates, a_slotArities, a_slotStarts, a_slotSizes, a_kinds, a_firstOperands, a_secondOperands, a_children, a_parents, a_depths, a_pendingNodes, a_summaries, a_nextSummaries, a_nodeTypes, a_paramsAfter, a_params, a_values, a_arguments, a_frameSlots, a_frameNodes) => ∀ x4 : Int32, x4 = nI r + 1 → wX_inferSlot_80 post x1 x2 (nI E) fuel x4 f_slotCount f_capacity f_nodesUsed f_buildingSlot f_pendingCount f_summariesCurrent f_callsActive f_callsMade f_runOutcome f_runValue a_slotStates a_slotArities a_slotStarts a_slotSizes a_kinds a_firstOperands a_secondOperands a_children a_parents a_depths a_pendingNodes a_summaries a_nextSummaries a_nodeTypes a_paramsAfter a_params a_values a_arguments a_frameSlots a_frameNodes
def xs_A (post : SX → Prop) (x1 x2 : Int32) (E : Nat) (f_slotCount f_capacity f_nodesUsed f_buildingSlot f_pendingCount f_summariesCurrent f_callsActive f_callsMade f_runOutcome f_runValue : Int32) (a_slotStates a_slotArities a_slotStarts a_slotSizes a_kinds a_firstOperands a_secondOperands a_children a_parents a_depths a_pendingNodes a_summaries a_nextSummaries a_nodeTypes a_paramsAfter a_params a_values a_arguments a_frameSlots a_frameNodes : Nat → Int32) (r : Nat) (Z : Nat → Nat → Int32) : Prop :=
  ∀ fuel, E < r + fuel → wX_inferSlot_80 post x1 x2 (nI E) fuel (nI r) f_slotCount f_capacity f_nodesUsed f_buildingSlot f_pendingCount f_summariesCurrent f_callsActive f_callsMade f_runOutcome f_runValue a_slotStates a_slotArities a_slotStarts a_slotSizes a_kinds a_firstOperands a_secondOperands a_children a_parents a_depths a_pendingNodes a_summaries a_nextSummaries (Z 0) (Z 1) (Z 2) a_values a_arguments a_frameSlots a_frameNodes
def xs_T (post : SX → Prop) (x1 x2 : Int32) (E : Nat) (f_slotCount f_capacity f_nodesUsed f_buildingSlot f_pendingCount f_summariesCurrent f_callsActive f_callsMade f_runOutcome f_runValue : Int32) (a_slotStates a_slotArities a_slotStarts a_slotSizes a_kinds a_firstOperands a_secondOperands a_children a_parents a_depths a_pendingNodes a_summaries a_nextSummaries a_nodeTypes a_paramsAfter a_params a_values a_arguments a_frameSlots a_frameNodes : Nat → Int32) (r : Nat) (Z : Nat → Nat → Int32) : Prop :=
  ∀ fuel, E < r + 1 + fuel → wpX_turnAtBranch (xs_k post x1 x2 E fuel r) (f_slotCount, f_capacity, f_nodesUsed, f_buildingSlot, f_pendingCount, f_summariesCurrent, f_callsActive, f_callsMade, f_runOutcome, f_runValue, a_slotStates, a_slotArities, a_slotStarts, a_slotSizes, a_kinds, a_firstOperands, a_secondOperands, a_children, a_parents, a_depths, a_pendingNodes, a_summaries, a_nextSummaries, Z 0, Z 1, Z 2, a_values, a_arguments, a_frameSlots, a_frameNodes) (nI r)
section
variable {f_slotCount f_capacity f_nodesUsed f_buildingSlot f_pendingCount f_summariesCurrent f_callsActive f_callsMade f_runOutcome f_runValue : Int32} {a_slotStates a_slotArities a_slotStarts a_slotSizes a_kinds a_firstOperands a_secondOperands a_children a_parents a_depths a_pendingNodes a_summaries a_nextSummaries a_nodeTypes a_paramsAfter a_params a_values a_arguments a_frameSlots a_frameNodes : Nat → Int32} {N k n S : Nat} {K A B : Nat → Int32} {post : SX → Prop} {x1 x2 : Int32}
theorem xs_go {E i fuel : Nat} {Z : Nat → Nat → Int32} {P : Nat → Int32} {r : ty_T} {e : ab_E} {o : ab_O} (hr : S + i < 128) (c : xa_c S (xs_T post x1 x2 E f_slotCount f_capacity f_nodesUsed f_buildingSlot f_pendingCount f_summariesCurrent f_callsActive f_callsMade f_runOutcome f_runValue a_slotStates a_slotArities a_slotStarts a_slotSizes a_kinds a_firstOperands a_secondOperands a_children a_parents a_depths a_pendingNodes a_summaries a_nextSummaries a_nodeTypes a_paramsAfter a_params a_values a_arguments a_frameSlots a_frameNodes) Z i o) (ho : xc_o r e o) (p0 : P 0 = ty_x e.1) (p1 : P 1 = ty_x e.2) (hf : E < S + i + 1 + fuel) :
    wpX_keepOutcome (fun u => match u with | (f_slotCount, f_capacity, f_nodesUsed, f_buildingSlot, f_pendingCount, f_summariesCurrent, f_callsActive, f_callsMade, f_runOutcome, f_runValue, a_slotStates, a_slotArities, a_slotStarts, a_slotSizes, a_kinds, a_firstOperands, a_secondOperands, a_children, a_parents, a_depths, a_pendingNodes, a_summaries, a_nextSummaries, a_nodeTypes, a_paramsAfter, a_params, a_values, a_arguments, a_frameSlots, a_frameNodes) => wpX_turnAtBranch (xs_k post x1 x2 E fuel (S + i)) (f_slotCount, f_capacity, f_nodesUsed, f_buildingSlot, f_pendingCount, f_summariesCurrent, f_callsActive, f_callsMade, f_runOutcome, f_runValue, a_slotStates, a_slotArities, a_slotStarts, a_slotSizes, a_kinds, a_firstOperands, a_secondOperands, a_children, a_parents, a_depths, a_pendingNodes, a_summaries, a_nextSummaries, a_nodeTypes, a_paramsAfter, a_params, a_values, a_arguments, a_frameSlots, a_frameNodes) (nI (S + i))) (f_slotCount, f_capacity, f_nodesUsed, f_buildingSlot, f_pendingCount, f_summariesCurrent, f_callsActive, f_callsMade, f_runOutcome, f_runValue, a_slotStates, a_slotArities, a_slotStarts, a_slotSizes, a_kinds, a_firstOperands, a_secondOperands, a_children, a_parents, a_depths, a_pendingNodes, a_summaries, a_nextSummaries, Z 0, Z 1, P, a_values, a_arguments, a_frameSlots, a_frameNodes) (nI (S + i)) (ty_x r) := by
  refine xc_keep hr ho p0 p1 fun P' q0 q1 => ?_
  refine c (xs_z (upd (Z 0) (S + i) (ty_x (xa_ty o))) (upd (upd (Z 1) ((S + i) * 2) (ty_x (xa_en o).1)) ((S + i) * 2 + 1) (ty_x (xa_en o).2)) P') ⟨fun j hj => ?_, fun j hj => ?_⟩ ⟨?_, ?_, ?_⟩ ⟨q0, q1⟩ fuel hf
  · exact pk_un (by omega)
  · show upd (upd (Z 1) _ _) _ _ j = Z 1 j
    rw [pk_un (by omega), pk_un (by omega)]
  · exact pk_us
  · show upd (upd (Z 1) _ _) _ _ _ = _
    rw [pk_un (by omega), pk_us]
  · exact pk_us
theorem xs_X1 (hB : rl_body N k n S K A B a_kinds a_firstOperands a_secondOperands a_children a_parents a_depths) (hk : k ≤ 2) : xa_X1 n S K A (xs_A post x1 x2 (S + n) f_slotCount f_capacity f_nodesUsed f_buildingSlot f_pendingCount f_summariesCurrent f_callsActive f_callsMade f_runOutcome f_runValue a_slotStates a_slotArities a_slotStarts a_slotSizes a_kinds a_firstOperands a_secondOperands a_children a_parents a_depths a_pendingNodes a_summaries a_nextSummaries a_nodeTypes a_paramsAfter a_params a_values a_arguments a_frameSlots a_frameNodes) (xs_T post x1 x2 (S + n) f_slotCount f_capacity f_nodesUsed f_buildingSlot f_pendingCount f_summariesCurrent f_callsActive f_callsMade f_runOutcome f_runValue a_slotStates a_slotArities a_slotStarts a_slotSizes a_kinds a_firstOperands a_secondOperands a_children a_parents a_depths a_pendingNodes a_summaries a_nextSummaries a_nodeTypes a_paramsAfter a_params a_values a_arguments a_frameSlots a_frameNodes) := by
  intro i e Z hi h he cu c fuel hf
  have hS := hB.1
  obtain ⟨fuel, rfl⟩ : ∃ m, fuel = m + 1 := ⟨fuel - 1, by omega⟩
  refine br_f (nI_ge (by omega) (by omega)) ?_
  exact xc_n_lf hB hk hi h he cu.1 cu.2 fun P r e' ho p0 p1 => xs_go (by omega) c ho p0 p1 (by omega)
theorem xs_X2 (hB : rl_body N k n S K A B a_kinds a_firstOperands a_secondOperands a_children a_parents a_depths) (hk : k ≤ 2) : xa_X2 n S K A (rl_c K B) (xs_A post x1 x2 (S + n) f_slotCount f_capacity f_nodesUsed f_buildingSlot f_pendingCount f_summariesCurrent f_callsActive f_callsMade f_runOutcome f_runValue a_slotStates a_slotArities a_slotStarts a_slotSizes a_kinds a_firstOperands a_secondOperands a_children a_parents a_depths a_pendingNodes a_summaries a_nextSummaries a_nodeTypes a_paramsAfter a_params a_values a_arguments a_frameSlots a_frameNodes) (xs_T post x1 x2 (S + n) f_slotCount f_capacity f_nodesUsed f_buildingSlot f_pendingCount f_summariesCurrent f_callsActive f_callsMade f_runOutcome f_runValue a_slotStates a_slotArities a_slotStarts a_slotSizes a_kinds a_firstOperands a_secondOperands a_children a_parents a_depths a_pendingNodes a_summaries a_nextSummaries a_nodeTypes a_paramsAfter a_params a_values a_arguments a_frameSlots a_frameNodes) := by
  intro i x y e Z hi h ox oy he cu hx hy c fuel hf
  have hS := hB.1
  have hc : rl_c K B i = 2 := by
    show bs_cc (K i) (B i) = 2
    rcases h with h | h | h | h <;> rw [h]
    · exact bs_cc3 _
    · exact bs_cc4 _
    · exact bs_cc5 _
    · exact bs_cc6 _
  obtain ⟨fuel, rfl⟩ : ∃ m, fuel = m + 1 := ⟨fuel - 1, by omega⟩
  refine br_f (nI_ge (by omega) (by omega)) ?_
  exact xc_n_op hB hk hi h hc ox oy he hx hy cu.1 cu.2 fun P r e' ho p0 p1 => xs_go (by omega) c ho p0 p1 (by omega)
theorem xs_X3 (hB : rl_body N k n S K A B a_kinds a_firstOperands a_secondOperands a_children a_parents a_depths) : xa_X3 n S K (rl_c K B) (xs_A post x1 x2 (S + n) f_slotCount f_capacity f_nodesUsed f_buildingSlot f_pendingCount f_summariesCurrent f_callsActive f_callsMade f_runOutcome f_runValue a_slotStates a_slotArities a_slotStarts a_slotSizes a_kinds a_firstOperands a_secondOperands a_children a_parents a_depths a_pendingNodes a_summaries a_nextSummaries a_nodeTypes a_paramsAfter a_params a_values a_arguments a_frameSlots a_frameNodes) (xs_T post x1 x2 (S + n) f_slotCount f_capacity f_nodesUsed f_buildingSlot f_pendingCount f_summariesCurrent f_callsActive f_callsMade f_runOutcome f_runValue a_slotStates a_slotArities a_slotStarts a_slotSizes a_kinds a_firstOperands a_secondOperands a_children a_parents a_depths a_pendingNodes a_summaries a_nextSummaries a_nodeTypes a_paramsAfter a_params a_values a_arguments a_frameSlots a_frameNodes) := by
  intro i x e Z hi h ox he cu hx c fuel hf
  have hS := hB.1
  obtain ⟨fuel, rfl⟩ : ∃ m, fuel = m + 1 := ⟨fuel - 1, by omega⟩
  refine br_f (nI_ge (by omega) (by omega)) ?_
  exact xc_n_isi hB hi h (ab_c7 hB.2.1 h) ox he hx cu.1 cu.2 fun P r e' ho p0 p1 => xs_go (by omega) c ho p0 p1 (by omega)
theorem xs_X4 (hB : rl_body N k n S K A B a_kinds a_firstOperands a_secondOperands a_children a_parents a_depths) : xa_X4 k n S K (rl_c K B) (xs_A post x1 x2 (S + n) f_slotCount f_capacity f_nodesUsed f_buildingSlot f_pendingCount f_summariesCurrent f_callsActive f_callsMade f_runOutcome f_runValue a_slotStates a_slotArities a_slotStarts a_slotSizes a_kinds a_firstOperands a_secondOperands a_children a_parents a_depths a_pendingNodes a_summaries a_nextSummaries a_nodeTypes a_paramsAfter a_params a_values a_arguments a_frameSlots a_frameNodes) (xs_T post x1 x2 (S + n) f_slotCount f_capacity f_nodesUsed f_buildingSlot f_pendingCount f_summariesCurrent f_callsActive f_callsMade f_runOutcome f_runValue a_slotStates a_slotArities a_slotStarts a_slotSizes a_kinds a_firstOperands a_secondOperands a_children a_parents a_depths a_pendingNodes a_summaries a_nextSummaries a_nodeTypes a_paramsAfter a_params a_values a_arguments a_frameSlots a_frameNodes) := by
  intro i o o' Z hi h po po' s1 s2 c fuel hf
  have hS := hB.1
  obtain ⟨fuel, rfl⟩ : ∃ m, fuel = m + 1 := ⟨fuel - 1, by omega⟩
  refine br_f (nI_ge (by omega) (by omega)) ?_
  exact xc_n_if hB hi h (ab_c8 hB.2.1 h) po po' s1.1 s2.1 s1.2.1 s1.2.2 s2.2.1 s2.2.2 fun P r e' ho p0 p1 => xs_go (by omega) c ho p0 p1 (by omega)
theorem xs_call {tb : Nat → ty_T} (hB : rl_body N k n S K A B a_kinds a_firstOperands a_secondOperands a_children a_parents a_depths) (hk : k ≤ 2) (hN : N ≤ 8) (hT : ∀ q, ty_ok (tb q)) (hs : ∀ q, q < 24 → a_summaries q = ty_x (tb q))
    {i : Nat} {x y : ty_T} {e : ab_E} {Z : Nat → Nat → Int32} {o : ab_O} (hi : i < n) (h : K i = 9) (ox : ty_ok x) (oy : ty_ok y) (he : xa_e e) (cu : xa_cu Z e)
    (hx : 1 ≤ rl_c K B i → Z 0 (S + bs_ch (rl_c K B) i 0) = ty_x x) (hy : 2 ≤ rl_c K B i → Z 0 (S + bs_ch (rl_c K B) i 1) = ty_x y)
    (ho : o = if B i = 0 then ab_cl0 A B a_slotStates a_slotArities tb i e else if B i = 1 then ab_cl1 K A B a_slotStates a_slotArities (rl_c K B) tb i x e else ab_cl2 K A B a_slotStates a_slotArities (rl_c K B) tb i x y e)
    (c : xa_c S (xs_T post x1 x2 (S + n) f_slotCount f_capacity f_nodesUsed f_buildingSlot f_pendingCount f_summariesCurrent f_callsActive f_callsMade f_runOutcome f_runValue a_slotStates a_slotArities a_slotStarts a_slotSizes a_kinds a_firstOperands a_secondOperands a_children a_parents a_depths a_pendingNodes a_summaries a_nextSummaries a_nodeTypes a_paramsAfter a_params a_values a_arguments a_frameSlots a_frameNodes) Z i o) : xs_A post x1 x2 (S + n) f_slotCount f_capacity f_nodesUsed f_buildingSlot f_pendingCount f_summariesCurrent f_callsActive f_callsMade f_runOutcome f_runValue a_slotStates a_slotArities a_slotStarts a_slotSizes a_kinds a_firstOperands a_secondOperands a_children a_parents a_depths a_pendingNodes a_summaries a_nextSummaries a_nodeTypes a_paramsAfter a_params a_values a_arguments a_frameSlots a_frameNodes (S + i) Z := by
  intro fuel hf
  have hS := hB.1
  obtain ⟨fuel, rfl⟩ : ∃ m, fuel = m + 1 := ⟨fuel - 1, by omega⟩
  refine br_f (nI_ge (by omega) (by omega)) ?_
  exact xc_n_call hB hk hN hi h ox oy he hT hs cu.1 cu.2 hx hy ho fun P r e' ho p0 p1 => xs_go (by omega) c ho p0 p1 (by omega)
theorem xs_T1 (hB : rl_body N k n S K A B a_kinds a_firstOperands a_secondOperands a_children a_parents a_depths) : xa_T1 n S K (rl_c K B) (xs_A post x1 x2 (S + n) f_slotCount f_capacity f_nodesUsed f_buildingSlot f_pendingCount f_summariesCurrent f_callsActive f_callsMade f_runOutcome f_runValue a_slotStates a_slotArities a_slotStarts a_slotSizes a_kinds a_firstOperands a_secondOperands a_children a_parents a_depths a_pendingNodes a_summaries a_nextSummaries a_nodeTypes a_paramsAfter a_params a_values a_arguments a_frameSlots a_frameNodes) (xs_T post x1 x2 (S + n) f_slotCount f_capacity f_nodesUsed f_buildingSlot f_pendingCount f_summariesCurrent f_callsActive f_callsMade f_runOutcome f_runValue a_slotStates a_slotArities a_slotStarts a_slotSizes a_kinds a_firstOperands a_secondOperands a_children a_parents a_depths a_pendingNodes a_summaries a_nextSummaries a_nodeTypes a_paramsAfter a_params a_values a_arguments a_frameSlots a_frameNodes) := by
  intro i j Z hi hj h8 hA fuel hf
  have c3 : j = 2 ∨ ¬ K i = 8 := by
    by_cases z : K i = 8
    · exact Or.inl (h8 z)
    · exact Or.inr z
  unfold wpX_turnAtBranch
  dsimp only
  refine xc_cond hB hi hj (fun z y => absurd (h8 z) (by omega)) (fun _ => br_t rfl ?_)
  refine xc_then hB hi hj (fun z y => absurd (h8 z) (by omega)) (fun _ => br_t rfl ?_)
  exact nm_r (nI_1 _) (hA fuel (by omega))
theorem xs_T2 (hB : rl_body N k n S K A B a_kinds a_firstOperands a_secondOperands a_children a_parents a_depths) (hk : k ≤ 2) : xa_T2 k n S K A (rl_c K B) (xs_A post x1 x2 (S + n) f_slotCount f_capacity f_nodesUsed f_buildingSlot f_pendingCount f_summariesCurrent f_callsActive f_callsMade f_runOutcome f_runValue a_slotStates a_slotArities a_slotStarts a_slotSizes a_kinds a_firstOperands a_secondOperands a_children a_parents a_depths a_pendingNodes a_summaries a_nextSummaries a_nodeTypes a_paramsAfter a_params a_values a_arguments a_frameSlots a_frameNodes) (xs_T post x1 x2 (S + n) f_slotCount f_capacity f_nodesUsed f_buildingSlot f_pendingCount f_summariesCurrent f_callsActive f_callsMade f_runOutcome f_runValue a_slotStates a_slotArities a_slotStarts a_slotSizes a_kinds a_firstOperands a_secondOperands a_children a_parents a_depths a_pendingNodes a_summaries a_nextSummaries a_nodeTypes a_paramsAfter a_params a_values a_arguments a_frameSlots a_frameNodes) := by
  intro i o Z hi h8 po s hA fuel hf
  have c3 := ab_c8 hB.2.1 h8
  unfold wpX_turnAtBranch
  dsimp only
  rw [xc_ints]
  refine xc_cond hB hi (j := 0) (by omega) (fun _ _ => br_f (by decide) ?_) (fun z => absurd ⟨h8, rfl⟩ z)
  refine xc_enter hB hk hi h8 (t := ty_ints) (β := (xa_ty o).1.testBit 1) ty_ints_ok (xa_eo_e (xa_en_eo po)) (ty_b1 (ty_xn_m (xa_ty_ok po))) s.1 s.2.1 s.2.2 fun P p0 p1 => ?_
  exact nm_r (nI_1 _) (hA (xs_z (Z 0) (Z 1) P) rfl rfl ⟨p0, p1⟩ fuel (by omega))
theorem xs_T3 (hB : rl_body N k n S K A B a_kinds a_firstOperands a_secondOperands a_children a_parents a_depths) (hk : k ≤ 2) : xa_T3 k n S K A (rl_c K B) (xs_A post x1 x2 (S + n) f_slotCount f_capacity f_nodesUsed f_buildingSlot f_pendingCount f_summariesCurrent f_callsActive f_callsMade f_runOutcome f_runValue a_slotStates a_slotArities a_slotStarts a_slotSizes a_kinds a_firstOperands a_secondOperands a_children a_parents a_depths a_pendingNodes a_summaries a_nextSummaries a_nodeTypes a_paramsAfter a_params a_values a_arguments a_frameSlots a_frameNodes) (xs_T post x1 x2 (S + n) f_slotCount f_capacity f_nodesUsed f_buildingSlot f_pendingCount f_summariesCurrent f_callsActive f_callsMade f_runOutcome f_runValue a_slotStates a_slotArities a_slotStarts a_slotSizes a_kinds a_firstOperands a_secondOperands a_children a_parents a_depths a_pendingNodes a_summaries a_nextSummaries a_nodeTypes a_paramsAfter a_params a_values a_arguments a_frameSlots a_frameNodes) := by
  intro i o Z hi h8 po s hA fuel hf
  have c3 := ab_c8 hB.2.1 h8
  obtain ⟨_, _, _, l1⟩ := xc_child hB hi (j := 1) (by omega)
  obtain ⟨wj, clj, _⟩ := xc_row hB l1
  obtain ⟨w0, cl0, r0, _⟩ := xc_child hB hi (j := 0) (by omega)
  obtain ⟨_, _, _, r4, _⟩ := hB.2.2 i hi
  rw [Nat.add_zero] at w0 cl0 r0
  unfold wpX_turnAtBranch
  dsimp only
  rw [xc_ats]
  refine xc_cond hB hi (j := 1) (by omega) (fun _ z => absurd z (by decide)) (fun _ => br_t rfl ?_)
  refine xc_then hB hi (j := 1) (by omega) (fun _ _ => br_f (by decide) ?_) (fun z => absurd ⟨h8, rfl⟩ z)
  rw [clj, (r4 1 (by omega)).2, xc_3, cl0, r0]
  refine ⟨wj, w0, nm_e ?_⟩
  refine xc_enter hB hk hi h8 (t := ty_ats) (β := (xa_ty o).1.testBit 0) ty_ats_ok (xa_eo_e (xa_en_eo po)) (ty_b0 (ty_xn_m (xa_ty_ok po))) s.1 s.2.1 s.2.2 fun P p0 p1 => ?_
  exact nm_r (nI_1 _) (hA (xs_z (Z 0) (Z 1) P) rfl rfl ⟨p0, p1⟩ fuel (by omega))
end
end
section
def yc_A (post : SY → Prop) (f : Nat) (f_n f_cap f_ana f_res f_anyT f_intsT f_wp f_vp f_made f_active f_xp f_curK f_rBot f_rR f_rE0 f_rE1 : Int32) (a_st a_ar a_size a_bk a_ba a_bb a_ds a_tab a_nxt a_wN a_wS a_wF a_vs a_frS a_frP0 a_frP1 a_xN a_xS a_xE0 a_xE1 a_xA a_xB a_xC a_xD a_xE a_xF a_xG : Nat → Int32) (t xp : Nat) (Z : Nat → Nat → Int32) (b r e0 e1 : Int32) : Prop :=
  ∀ fuel, 4096 < t + fuel → wY_absEval_53 post (nI f) fuel (nI t) f_n f_cap f_ana f_res f_anyT f_intsT f_wp f_vp f_made f_active (nI xp) f_curK b r e0 e1 a_st a_ar a_size a_bk a_ba a_bb a_ds a_tab a_nxt a_wN a_wS a_wF a_vs a_frS a_frP0 a_frP1 (Z 0) (Z 1) (Z 2) (Z 3) (Z 4) (Z 5) (Z 6) (Z 7) (Z 8) (Z 9) (Z 10)
theorem ya_k_imp {R R' : Int32 → Int32 → Int32 → Int32 → Prop} (h : ∀ b r e0 e1, R b r e0 e1 → R' b r e0 e1) {o : ab_O} (k : ya_k R o) : ya_k R' o := by
  cases o with
  | none => exact fun r e0 e1 => h _ _ _ _ (k r e0 e1)
  | some x => exact h _ _ _ _ k
theorem yc_top {p : Nat} (h : p < 16) : (nI (p + 1) - 1) &&& 15 = nI p := by
  rw [nI_pred, pk_andN (by omega) 4 (by decide), Nat.mod_eq_of_lt (by omega)]
theorem yc_xp {p : Nat} (h : p < 16) : nI p &&& 15 = nI p := by
  rw [pk_andN (by omega) 4 (by decide), Nat.mod_eq_of_lt (by omega)]
theorem yc_k1 {k : Nat} (hk : k ≤ 2) : nI k < 1 ↔ k < 1 := by
  rw [show (1 : Int32) = nI 1 by decide, nI_ltI (by omega) (by omega)]
theorem yc_k2 {k : Nat} (hk : k ≤ 2) : nI k < 2 ↔ k < 2 := by
  rw [show (2 : Int32) = nI 2 by decide, nI_ltI (by omega) (by omega)]
theorem yc_any0 : ty_any ≠ ty_0 := by decide
section
variable {f_n f_cap f_ana f_res f_anyT f_intsT f_wp f_vp f_made f_active f_xp f_curK f_rBot f_rR f_rE0 f_rE1 : Int32} {a_st a_ar a_size a_bk a_ba a_bb a_ds a_tab a_nxt a_wN a_wS a_wF a_vs a_frS a_frP0 a_frP1 a_xN a_xS a_xE0 a_xE1 a_xA a_xB a_xC a_xD a_xE a_xF a_xG : Nat → Int32} {N k n f : Nat}
theorem yc_set {Q : SY → Prop} (hk : k ≤ 2) {r : ty_T} {e : ab_E} (hr : ty_ok r) (he : ab_eo k e) (H : ya_k (fun b r e0 e1 => Q (f_n, f_cap, f_ana, f_res, f_anyT, f_intsT, f_wp, f_vp, f_made, f_active, f_xp, nI k, b, r, e0, e1, a_st, a_ar, a_size, a_bk, a_ba, a_bb, a_ds, a_tab, a_nxt, a_wN, a_wS, a_wF, a_vs, a_frS, a_frP0, a_frP1, a_xN, a_xS, a_xE0, a_xE1, a_xA, a_xB, a_xC, a_xD, a_xE, a_xF, a_xG)) (ab_fin r e)) : wpY_setRet Q (f_n, f_cap, f_ana, f_res, f_anyT, f_intsT, f_wp, f_vp, f_made, f_active, f_xp, nI k, f_rBot, f_rR, f_rE0, f_rE1, a_st, a_ar, a_size, a_bk, a_ba, a_bb, a_ds, a_tab, a_nxt, a_wN, a_wS, a_wF, a_vs, a_frS, a_frP0, a_frP1, a_xN, a_xS, a_xE0, a_xE1, a_xA, a_xB, a_xC, a_xD, a_xE, a_xF, a_xG) (ty_y r) (ty_y e.1) (ty_y e.2) := by
  unfold wpY_setRet
  dsimp only
  unfold ab_fin at H
  by_cases a : r = ty_0
  · rw [if_pos (Or.inl a)] at H
    exact br_t ((ty_y_0 hr).mpr a) (H _ _ _)
  · refine br_f (fun z => a ((ty_y_0 hr).mp z)) ?_
    have s32 : (e.1 = ty_0 → k < 1) → wY_setRet_32 Q (ty_y e.2) f_n f_cap f_ana f_res f_anyT f_intsT f_wp f_vp f_made f_active f_xp (nI k) f_rBot (ty_y r) (ty_y e.1) (ty_y e.2) a_st a_ar a_size a_bk a_ba a_bb a_ds a_tab a_nxt a_wN a_wS a_wF a_vs a_frS a_frP0 a_frP1 a_xN a_xS a_xE0 a_xE1 a_xA a_xB a_xC a_xD a_xE a_xF a_xG := by
      intro h1
      have h1 : e.1 ≠ ty_0 := fun z => by
        have := he.2.2.1 (h1 z)
        rw [z] at this
        exact yc_any0 this.symm
      unfold wY_setRet_32
      by_cases c : k < 2
      · have h2 : e.2 ≠ ty_0 := fun z => by
          have := he.2.2.2 c
          rw [z] at this
          exact yc_any0 this.symm
        rw [if_neg (fun z => z.elim a (fun z => z.elim h1 h2))] at H
        exact br_t ((yc_k2 hk).mpr c) H
      · refine br_f (fun z => c ((yc_k2 hk).mp z)) ?_
        by_cases d : e.2 = ty_0
        · rw [if_pos (Or.inr (Or.inr d))] at H
          exact br_t ((ty_y_0 he.2.1).mpr d) (H _ _ _)
        · rw [if_neg (fun z => z.elim a (fun z => z.elim h1 d))] at H
          exact br_f (fun z => d ((ty_y_0 he.2.1).mp z)) H
    by_cases c : k < 1
    · exact br_t ((yc_k1 hk).mpr c) (s32 fun _ => c)
    · refine br_f (fun z => c ((yc_k1 hk).mp z)) ?_
      by_cases d : e.1 = ty_0
      · rw [if_pos (Or.inr (Or.inl d))] at H
        exact br_t ((ty_y_0 he.1).mpr d) (H _ _ _)
      · exact br_f (fun z => d ((ty_y_0 he.1).mp z)) (s32 fun z => absurd z d)
theorem yc_env {Q : Int32 → Prop} (hk : k ≤ 2) {e : ab_E} (he : ab_eo k e) (H1 : ya_al e → Q 1) (H0 : ¬ ya_al e → Q 0) : wpY_envOk Q (f_n, f_cap, f_ana, f_res, f_anyT, f_intsT, f_wp, f_vp, f_made, f_active, f_xp, nI k, f_rBot, f_rR, f_rE0, f_rE1, a_st, a_ar, a_size, a_bk, a_ba, a_bb, a_ds, a_tab, a_nxt, a_wN, a_wS, a_wF, a_vs, a_frS, a_frP0, a_frP1, a_xN, a_xS, a_xE0, a_xE1, a_xA, a_xB, a_xC, a_xD, a_xE, a_xF, a_xG) (ty_y e.1) (ty_y e.2) := by
  unfold wpY_envOk
  dsimp only
  have s12 : e.1 ≠ ty_0 → wY_envOk_12 Q (ty_y e.2) f_n f_cap f_ana f_res f_anyT f_intsT f_wp f_vp f_made f_active f_xp (nI k) f_rBot f_rR f_rE0 f_rE1 a_st a_ar a_size a_bk a_ba a_bb a_ds a_tab a_nxt a_wN a_wS a_wF a_vs a_frS a_frP0 a_frP1 a_xN a_xS a_xE0 a_xE1 a_xA a_xB a_xC a_xD a_xE a_xF a_xG := by
    intro h1
    unfold wY_envOk_12
    by_cases c : k < 2
    · have h2 : e.2 ≠ ty_0 := fun z => by
        have := he.2.2.2 c
        rw [z] at this
        exact yc_any0 this.symm
      exact br_t ((yc_k2 hk).mpr c) (H1 ⟨h1, h2⟩)
    · refine br_f (fun z => c ((yc_k2 hk).mp z)) ?_
      by_cases d : e.2 = ty_0
      · exact br_t ((ty_y_0 he.2.1).mpr d) (H0 fun z => z.2 d)
      · exact br_f (fun z => d ((ty_y_0 he.2.1).mp z)) (H1 ⟨h1, d⟩)
  by_cases c : k < 1
  · have h1 : e.1 ≠ ty_0 := fun z => by
      have := he.2.2.1 c
      rw [z] at this
      exact yc_any0 this.symm
    exact br_t ((yc_k1 hk).mpr c) (s12 h1)
  · refine br_f (fun z => c ((yc_k1 hk).mp z)) ?_
    by_cases d : e.1 = ty_0
    · exact br_t ((ty_y_0 he.1).mpr d) (H0 fun z => z.1 d)
    · exact br_f (fun z => d ((ty_y_0 he.1).mp z)) (s12 d)
theorem yc_push {Q : SY → Prop} {p i : Nat} {e0 e1 : Int32} {Z : Nat → Nat → Int32} (hp : p < 16) (H : Q (f_n, f_cap, f_ana, f_res, f_anyT, f_intsT, f_wp, f_vp, f_made, f_active, nI (p + 1), f_curK, f_rBot, f_rR, f_rE0, f_rE1, a_st, a_ar, a_size, a_bk, a_ba, a_bb, a_ds, a_tab, a_nxt, a_wN, a_wS, a_wF, a_vs, a_frS, a_frP0, a_frP1, ya_push Z p i e0 e1 0, ya_push Z p i e0 e1 1, ya_push Z p i e0 e1 2, ya_push Z p i e0 e1 3, a_xA, a_xB, a_xC, a_xD, a_xE, a_xF, a_xG)) :
    wpY_xPush Q (f_n, f_cap, f_ana, f_res, f_anyT, f_intsT, f_wp, f_vp, f_made, f_active, nI p, f_curK, f_rBot, f_rR, f_rE0, f_rE1, a_st, a_ar, a_size, a_bk, a_ba, a_bb, a_ds, a_tab, a_nxt, a_wN, a_wS, a_wF, a_vs, a_frS, a_frP0, a_frP1, Z 0, Z 1, Z 2, Z 3, a_xA, a_xB, a_xC, a_xD, a_xE, a_xF, a_xG) (nI i) e0 e1 := by
  unfold wpY_xPush
  dsimp only
  refine nm_r (yc_xp hp) ?_
  rw [nI_clamp (by omega)]
  have w : vp_in (nI p) 16 := vp_in_nI hp (by decide)
  exact ⟨w, nm_e ⟨w, nm_e ⟨w, nm_e ⟨w, nm_e (nm_r (nI_1 p) H)⟩⟩⟩⟩
end
end
section
theorem xs_b2 (f : Nat) : nI (f * 3) + 2 = nI (f * 3 + 2) := by rw [show (2 : Int32) = nI 2 by decide, nI_add]
section
variable {f_slotCount f_capacity f_nodesUsed f_buildingSlot f_pendingCount f_summariesCurrent f_callsActive f_callsMade f_runOutcome f_runValue : Int32} {a_slotStates a_slotArities a_slotStarts a_slotSizes a_kinds a_firstOperands a_secondOperands a_children a_parents a_depths a_pendingNodes a_summaries a_nextSummaries a_nodeTypes a_paramsAfter a_params a_values a_arguments a_frameSlots a_frameNodes : Nat → Int32} {N k n S : Nat} {K A B : Nat → Int32} {post : SX → Prop} {x1 x2 : Int32}
theorem xs_122e {Q : SX → Prop} {f k root j fuel : Nat} (hf : f < 8) (hk : a_slotArities f = nI k) (hk2 : k ≤ 2) (hr : root < 128) (hj : k ≤ j) (hj2 : j ≤ 2) (H : Q (f_slotCount, f_capacity, f_nodesUsed, f_buildingSlot, f_pendingCount, f_summariesCurrent, f_callsActive, f_callsMade, f_runOutcome, f_runValue, a_slotStates, a_slotArities, a_slotStarts, a_slotSizes, a_kinds, a_firstOperands, a_secondOperands, a_children, a_parents, a_depths, a_pendingNodes, a_summaries, upd a_nextSummaries (f * 3 + 2) (a_nodeTypes root), a_nodeTypes, a_paramsAfter, a_params, a_values, a_arguments, a_frameSlots, a_frameNodes)) :
    wX_inferSlot_122 Q (nI f) (nI (f * 3)) (nI root) f_slotCount f_capacity f_nodesUsed f_buildingSlot f_pendingCount f_summariesCurrent f_callsActive f_callsMade f_runOutcome f_runValue (fuel + 1) (nI j) a_slotStates a_slotArities a_slotStarts a_slotSizes a_kinds a_firstOperands a_secondOperands a_children a_parents a_depths a_pendingNodes a_summaries a_nextSummaries a_nodeTypes a_paramsAfter a_params a_values a_arguments a_frameSlots a_frameNodes := by
  have w : vp_in (nI f) 8 := vp_in_nI hf (by decide)
  refine ⟨w, br_t ?_ ⟨vp_in_nI hr (by decide), ?_⟩⟩
  · rw [nI_clamp (by omega), hk]; exact nI_le hj (by omega)
  · rw [xs_b2, nI_clamp (n := f * 3 + 2) (by omega), nI_clamp (n := root) (by omega)]
    exact ⟨vp_in_nI (by omega) (by omega), nm_e H⟩
theorem xs_122s {Q : SX → Prop} {f k root j fuel : Nat} (hf : f < 8) (hk : a_slotArities f = nI k) (hk2 : k ≤ 2) (hr : root < 128) (hj : j < k)
    (H : wX_inferSlot_122 Q (nI f) (nI (f * 3)) (nI root) f_slotCount f_capacity f_nodesUsed f_buildingSlot f_pendingCount f_summariesCurrent f_callsActive f_callsMade f_runOutcome f_runValue fuel (nI (j + 1)) a_slotStates a_slotArities a_slotStarts a_slotSizes a_kinds a_firstOperands a_secondOperands a_children a_parents a_depths a_pendingNodes a_summaries (upd a_nextSummaries (f * 3 + j) (a_paramsAfter (root * 2 + j))) a_nodeTypes a_paramsAfter a_params a_values a_arguments a_frameSlots a_frameNodes) :
    wX_inferSlot_122 Q (nI f) (nI (f * 3)) (nI root) f_slotCount f_capacity f_nodesUsed f_buildingSlot f_pendingCount f_summariesCurrent f_callsActive f_callsMade f_runOutcome f_runValue (fuel + 1) (nI j) a_slotStates a_slotArities a_slotStarts a_slotSizes a_kinds a_firstOperands a_secondOperands a_children a_parents a_depths a_pendingNodes a_summaries a_nextSummaries a_nodeTypes a_paramsAfter a_params a_values a_arguments a_frameSlots a_frameNodes := by
  have w : vp_in (nI f) 8 := vp_in_nI hf (by decide)
  refine ⟨w, br_f ?_ ?_⟩
  · rw [nI_clamp (by omega), hk]; exact nI_ge hj (by omega)
  · rw [xc_2, nI_add, nI_add, nI_clamp (n := root * 2 + j) (by omega), nI_clamp (n := f * 3 + j) (by omega)]
    exact ⟨vp_in_nI (by omega) (by omega), vp_in_nI (by omega) (by omega), nm_e (nm_r (nI_1 j) H)⟩
theorem xs_122 {Q : SX → Prop} {f k root : Nat} (hf : f < 8) (hk : a_slotArities f = nI k) (hk2 : k ≤ 2) (hr : root < 128)
    (H : ∀ NX : Nat → Int32, (∀ q, q ≠ f * 3 → q ≠ f * 3 + 1 → q ≠ f * 3 + 2 → NX q = a_nextSummaries q) → NX (f * 3) = (if 1 ≤ k then a_paramsAfter (root * 2) else a_nextSummaries (f * 3)) →
      NX (f * 3 + 1) = (if 2 ≤ k then a_paramsAfter (root * 2 + 1) else a_nextSummaries (f * 3 + 1)) → NX (f * 3 + 2) = a_nodeTypes root → Q (f_slotCount, f_capacity, f_nodesUsed, f_buildingSlot, f_pendingCount, f_summariesCurrent, f_callsActive, f_callsMade, f_runOutcome, f_runValue, a_slotStates, a_slotArities, a_slotStarts, a_slotSizes, a_kinds, a_firstOperands, a_secondOperands, a_children, a_parents, a_depths, a_pendingNodes, a_summaries, NX, a_nodeTypes, a_paramsAfter, a_params, a_values, a_arguments, a_frameSlots, a_frameNodes)) :
    ∃ fuel, wX_inferSlot_122 Q (nI f) (nI (f * 3)) (nI root) f_slotCount f_capacity f_nodesUsed f_buildingSlot f_pendingCount f_summariesCurrent f_callsActive f_callsMade f_runOutcome f_runValue fuel 0 a_slotStates a_slotArities a_slotStarts a_slotSizes a_kinds a_firstOperands a_secondOperands a_children a_parents a_depths a_pendingNodes a_summaries a_nextSummaries a_nodeTypes a_paramsAfter a_params a_values a_arguments a_frameSlots a_frameNodes := by
  have kk : k = 0 ∨ k = 1 ∨ k = 2 := by omega
  rcases kk with rfl | rfl | rfl
  · refine ⟨1, xs_122e (j := 0) hf hk hk2 hr (by omega) (by omega) (H _ ?_ ?_ ?_ pk_us)⟩
    · intro q h1 h2 h3; exact pk_un h3
    · rw [pk_un (by omega)]; rfl
    · rw [pk_un (by omega)]; rfl
  · refine ⟨2, xs_122s (j := 0) hf hk hk2 hr (by omega) (xs_122e (j := 1) hf hk hk2 hr (by omega) (by omega) (H _ ?_ ?_ ?_ pk_us))⟩
    · intro q h1 h2 h3; rw [pk_un h3, pk_un (by omega)]
    · rw [pk_un (by omega)]; exact pk_us
    · rw [pk_un (by omega), pk_un (by omega)]; rfl
  · refine ⟨3, xs_122s (j := 0) hf hk hk2 hr (by omega) (xs_122s (j := 1) hf hk hk2 hr (by omega) (xs_122e (j := 2) hf hk hk2 hr (by omega) (by omega) (H _ ?_ ?_ ?_ pk_us)))⟩
    · intro q h1 h2 h3; rw [pk_un h3, pk_un h2]; exact pk_un h1
    · rw [pk_un (by omega), pk_un (by omega)]; exact pk_us
    · rw [pk_un (by omega)]; exact pk_us
theorem xc_root {Q : SX → Prop} {r : Nat} (hr : r < 128) (hp : a_parents r = -1) (H : Q (f_slotCount, f_capacity, f_nodesUsed, f_buildingSlot, f_pendingCount, f_summariesCurrent, f_callsActive, f_callsMade, f_runOutcome, f_runValue, a_slotStates, a_slotArities, a_slotStarts, a_slotSizes, a_kinds, a_firstOperands, a_secondOperands, a_children, a_parents, a_depths, a_pendingNodes, a_summaries, a_nextSummaries, a_nodeTypes, a_paramsAfter, a_params, a_values, a_arguments, a_frameSlots, a_frameNodes)) : wpX_turnAtBranch Q (f_slotCount, f_capacity, f_nodesUsed, f_buildingSlot, f_pendingCount, f_summariesCurrent, f_callsActive, f_callsMade, f_runOutcome, f_runValue, a_slotStates, a_slotArities, a_slotStarts, a_slotSizes, a_kinds, a_firstOperands, a_secondOperands, a_children, a_parents, a_depths, a_pendingNodes, a_summaries, a_nextSummaries, a_nodeTypes, a_paramsAfter, a_params, a_values, a_arguments, a_frameSlots, a_frameNodes) (nI r) := by
  have w : vp_in (nI r) 128 := vp_in_nI hr (by decide)
  have cl : (nI r).toNatClampNeg = r := nI_clamp (by omega)
  unfold wpX_turnAtBranch
  dsimp only
  unfold wpX_isCondition
  dsimp only
  refine ⟨w, nm_r (e' := -1) (by rw [cl]; exact hp) (br_t rfl (br_t rfl ?_))⟩
  unfold wpX_isThenBranch
  dsimp only
  exact ⟨w, nm_r (e' := -1) (by rw [cl]; exact hp) (br_t rfl (br_t rfl H))⟩
theorem xs_fld {k : Nat} (hk2 : k ≤ 2) (o : ab_O) : ty_x (sp_fld (nI k) 0 o) = (if 1 ≤ k then ty_x (xa_en o).1 else 0) ∧ ty_x (sp_fld (nI k) 1 o) = (if 2 ≤ k then ty_x (xa_en o).2 else 0) ∧ ty_x (sp_fld (nI k) 2 o) = ty_x (xa_ty o) := by
  have e1 : (1 : Int32) ≤ nI k ↔ 1 ≤ k := by rw [show (1 : Int32) = nI 1 by decide, nI_leI (by omega) (by omega)]
  have e2 : (2 : Int32) ≤ nI k ↔ 2 ≤ k := by rw [show (2 : Int32) = nI 2 by decide, nI_leI (by omega) (by omega)]
  cases o with
  | none =>
    refine ⟨?_, ?_, rfl⟩
    · show ty_x ty_0 = if 1 ≤ k then ty_x ty_0 else 0
      rw [ty_x_00, ite_self]
    · show ty_x ty_0 = if 2 ≤ k then ty_x ty_0 else 0
      rw [ty_x_00, ite_self]
  | some x =>
    refine ⟨?_, ?_, rfl⟩
    · show ty_x (if (0 : Nat) = 2 then x.1 else if (0 : Nat) = 0 then (if 1 ≤ nI k then x.2.1 else ty_0) else (if 2 ≤ nI k then x.2.2 else ty_0)) = if 1 ≤ k then ty_x x.2.1 else 0
      rw [if_neg (by decide), if_pos rfl]
      by_cases c : 1 ≤ k
      · rw [if_pos c, if_pos (e1.mpr c)]
      · rw [if_neg c, if_neg (fun z => c (e1.mp z)), ty_x_00]
    · show ty_x (if (1 : Nat) = 2 then x.1 else if (1 : Nat) = 0 then (if 1 ≤ nI k then x.2.1 else ty_0) else (if 2 ≤ nI k then x.2.2 else ty_0)) = if 2 ≤ k then ty_x x.2.2 else 0
      rw [if_neg (by decide), if_neg (by decide)]
      by_cases c : 2 ≤ k
      · rw [if_pos c, if_pos (e2.mpr c)]
      · rw [if_neg c, if_neg (fun z => c (e2.mp z)), ty_x_00]
/-- what one slot's inference leaves in the next table -/
def xs_nx (f : Nat) (NX0 NX : Nat → Int32) (s : Int32) (a : Int32) (o : ab_O) : Prop :=
  (∀ q, q ≠ f * 3 → q ≠ f * 3 + 1 → q ≠ f * 3 + 2 → NX q = NX0 q) ∧ ∀ j, j < 3 → NX (f * 3 + j) = ty_x (if s = 2 then sp_fld a j o else ty_0)
theorem xs_slot {Q : SX → Prop} {tb : Nat → ty_T} {f U : Nat} {szY bk ba bb : Nat → Int32} (hf : f < N) (hN : N ≤ 8) (hs : rl_slot N U f n S a_slotStates a_slotArities a_slotSizes szY a_slotStarts bk ba bb a_kinds a_firstOperands a_secondOperands a_children a_parents a_depths)
    (hT : ∀ q, ty_ok (tb q)) (hsum : ∀ q, q < 24 → a_summaries q = ty_x (tb q))
    (H : ∀ NX NT PA P : Nat → Int32, xs_nx f a_nextSummaries NX (a_slotStates f) (a_slotArities f) (ab_ev (rl_K bk f) (rl_K ba f) (rl_K bb f) a_slotStates a_slotArities (rl_c (rl_K bk f) (rl_K bb f)) tb 128 (n - 1) (ty_any, ty_any)) →
      Q (f_slotCount, f_capacity, f_nodesUsed, f_buildingSlot, f_pendingCount, f_summariesCurrent, f_callsActive, f_callsMade, f_runOutcome, f_runValue, a_slotStates, a_slotArities, a_slotStarts, a_slotSizes, a_kinds, a_firstOperands, a_secondOperands, a_children, a_parents, a_depths, a_pendingNodes, a_summaries, NX, NT, PA, P, a_values, a_arguments, a_frameSlots, a_frameNodes)) : wpX_inferSlot Q (f_slotCount, f_capacity, f_nodesUsed, f_buildingSlot, f_pendingCount, f_summariesCurrent, f_callsActive, f_callsMade, f_runOutcome, f_runValue, a_slotStates, a_slotArities, a_slotStarts, a_slotSizes, a_kinds, a_firstOperands, a_secondOperands, a_children, a_parents, a_depths, a_pendingNodes, a_summaries, a_nextSummaries, a_nodeTypes, a_paramsAfter, a_params, a_values, a_arguments, a_frameSlots, a_frameNodes) (nI f) := by
  have w : vp_in (nI f) 8 := vp_in_nI (by omega) (by decide)
  have cl : (nI f).toNatClampNeg = f := nI_clamp (by omega)
  unfold wpX_inferSlot
  dsimp only
  refine nm_r (xc_3 f) ?_
  rw [Int32.add_zero, nI_1, xs_b2, cl, nI_clamp (n := f * 3) (by omega), nI_clamp (n := f * 3 + 1) (by omega), nI_clamp (n := f * 3 + 2) (by omega)]
  refine ⟨vp_in_nI (by omega) (by omega), nm_e ⟨vp_in_nI (by omega) (by omega), nm_e ⟨vp_in_nI (by omega) (by omega), nm_e ⟨w, ?_⟩⟩⟩⟩
  by_cases s2 : a_slotStates f = 2
  · obtain ⟨_, h1, h2⟩ := hs
    obtain ⟨e1, e2, e3, e4, k, hk, ek, hB⟩ := h1 (by rw [s2]; decide)
    obtain ⟨n0, pc1, pr⟩ := h2 s2
    have hS := hB.1
    have root : bs_ss (rl_c (rl_K bk f) (rl_K bb f)) (n - 1) = 0 := by
      have e : n - 1 + 1 = n := by omega
      exact bs_root (by rw [e]; exact hB.2.1.2.2) (by rw [e]; exact pc1)
    refine br_t s2 (nm_e (nm_e ⟨w, w, nm_r (e' := nI (S + n)) (by rw [e1, e3, nI_add]) ⟨w, nm_r (e' := nI S) e3 ⟨n + 1, ?_⟩⟩⟩))
    have sim := xa_sim (XA := xs_A Q (nI f) (nI (f * 3)) (S + n) f_slotCount f_capacity f_nodesUsed f_buildingSlot f_pendingCount f_summariesCurrent f_callsActive f_callsMade f_runOutcome f_runValue a_slotStates a_slotArities a_slotStarts a_slotSizes a_kinds a_firstOperands a_secondOperands a_children a_parents a_depths a_pendingNodes a_summaries (upd (upd (upd a_nextSummaries (f * 3) 0) (f * 3 + 1) 0) (f * 3 + 2) 0) a_nodeTypes a_paramsAfter a_params a_values a_arguments a_frameSlots a_frameNodes) (XT := xs_T Q (nI f) (nI (f * 3)) (S + n) f_slotCount f_capacity f_nodesUsed f_buildingSlot f_pendingCount f_summariesCurrent f_callsActive f_callsMade f_runOutcome f_runValue a_slotStates a_slotArities a_slotStarts a_slotSizes a_kinds a_firstOperands a_secondOperands a_children a_parents a_depths a_pendingNodes a_summaries (upd (upd (upd a_nextSummaries (f * 3) 0) (f * 3 + 1) 0) (f * 3 + 2) 0) a_nodeTypes a_paramsAfter a_params a_values a_arguments a_frameSlots a_frameNodes) (S := S) (st := a_slotStates) (ar := a_slotArities)
      hB.2.1 hT (xs_X1 hB hk) (xs_X2 hB hk) (xs_X3 hB) (xs_X4 hB)
      (fun i e Z hi h9 b0 he cu c => xs_call (x := ty_0) (y := ty_0) hB hk hN hT hsum hi h9 ty_0_ok ty_0_ok he cu (fun z => absurd z (by rw [ab_c9 hB.2.1 h9, b0]; decide)) (fun z => absurd z (by rw [ab_c9 hB.2.1 h9, b0]; decide)) (by rw [if_pos b0]) c)
      (fun i x e Z hi h9 b1 ox he cu hx c => xs_call (y := ty_0) hB hk hN hT hsum hi h9 ox ty_0_ok he cu (fun _ => hx) (fun z => absurd z (by rw [ab_c9 hB.2.1 h9, b1]; decide)) (by rw [if_neg (by rw [b1]; decide), if_pos b1]) c)
      (fun i x y e Z hi h9 b2 ox oy he cu hx hy c => xs_call hB hk hN hT hsum hi h9 ox oy he cu (fun _ => hx) (fun _ => hy) (by rw [if_neg (by rw [b2]; decide), if_neg (by rw [b2]; decide)]) c)
      (xs_T1 hB) (xs_T2 hB hk) (xs_T3 hB hk) 128
    have go := sim (n - 1) (ty_any, ty_any) (xs_z a_nodeTypes a_paramsAfter (upd (upd a_params 0 13042175) 1 13042175)) (by omega) (by omega) ⟨ty_any_ok, ty_any_ok, Or.inl (sp_any_eo k)⟩ ⟨xc_any, xc_any⟩ ?_
    · rw [root] at go
      exact go (n + 1) (by omega)
    · intro Z' ag st cu fuel hfu
      refine xc_root (by omega) pr ?_
      refine nm_r (nI_1 _) ?_
      rw [show S + (n - 1) + 1 = S + n by omega]
      obtain ⟨fuel, rfl⟩ : ∃ m, fuel = m + 1 := ⟨fuel - 1, by omega⟩
      refine br_t (nI_le (Nat.le_refl _) (by omega)) (nm_r (e' := nI (S + (n - 1))) (by rw [show S + n = S + (n - 1) + 1 by omega]; exact nI_pred _) ?_)
      refine xs_122 (by omega) ek hk (by omega) fun NX n1 n2 n3 n4 => H NX (Z' 0) (Z' 1) (Z' 2) ⟨fun q h1 h2 h3 => ?_, fun j hj => ?_⟩
      · rw [n1 q h1 h2 h3, pk_un h3, pk_un h2, pk_un h1]
      · obtain ⟨u0, u1, u2⟩ := xs_fld hk (ab_ev (rl_K bk f) (rl_K ba f) (rl_K bb f) a_slotStates a_slotArities (rl_c (rl_K bk f) (rl_K bb f)) tb 128 (n - 1) (ty_any, ty_any))
        rw [if_pos s2, ek]
        have jj : j = 0 ∨ j = 1 ∨ j = 2 := by omega
        rcases jj with rfl | rfl | rfl
        · rw [u0, Nat.add_zero, n2, st.2.1]
          by_cases c : 1 ≤ k
          · rw [if_pos c, if_pos c]
          · rw [if_neg c, if_neg c, pk_un (by omega), pk_un (by omega), pk_us]
        · rw [u1, n3, st.2.2]
          by_cases c : 2 ≤ k
          · rw [if_pos c, if_pos c]
          · rw [if_neg c, if_neg c, pk_un (by omega), pk_us]
        · rw [u2, n4, st.1]
  · refine br_f s2 (H _ a_nodeTypes a_paramsAfter a_params ⟨fun q h1 h2 h3 => ?_, fun j hj => ?_⟩)
    · rw [pk_un h3, pk_un h2, pk_un h1]
    · rw [if_neg s2, ty_x_00]
      have jj : j = 0 ∨ j = 1 ∨ j = 2 := by omega
      rcases jj with rfl | rfl | rfl
      · rw [pk_un (by omega), pk_un (by omega)]; exact pk_us
      · rw [pk_un (by omega), pk_us]
      · exact pk_us
end
end
section
/-- how many defined slots never return, by a table -/
def an_cnt (st : Nat → Int32) (tb : Nat → ty_T) : Nat → Nat
  | 0 => 0
  | n + 1 => an_cnt st tb n + (if st n = 2 ∧ tb (n * 3 + 2) = ty_0 then 1 else 0)
theorem an_cnt_s (st : Nat → Int32) (tb : Nat → ty_T) (n : Nat) : an_cnt st tb (n + 1) = an_cnt st tb n + (if st n = 2 ∧ tb (n * 3 + 2) = ty_0 then 1 else 0) := rfl
theorem an_cnt_le (st : Nat → Int32) (tb : Nat → ty_T) : ∀ n, an_cnt st tb n ≤ n := by
  intro n
  induction n with
  | zero => exact Nat.le_refl _
  | succ n ih => rw [an_cnt_s]; split <;> omega
section
variable {f_slotCount f_capacity f_nodesUsed f_buildingSlot f_pendingCount f_summariesCurrent f_callsActive f_callsMade f_runOutcome f_runValue : Int32} {a_slotStates a_slotArities a_slotStarts a_slotSizes a_kinds a_firstOperands a_secondOperands a_children a_parents a_depths a_pendingNodes a_summaries a_nextSummaries a_nodeTypes a_paramsAfter a_params a_values a_arguments a_frameSlots a_frameNodes : Nat → Int32} {N : Nat}
theorem xn_cnt {Q : Int32 → Prop} {tb : Nat → ty_T} (hN : N ≤ 8) (hT : ∀ q, ty_ok (tb q)) (hsum : ∀ q, q < 24 → a_summaries q = ty_x (tb q)) (H : Q (nI (an_cnt a_slotStates tb N))) :
    wpX_countNeverReturning Q (nI N, f_capacity, f_nodesUsed, f_buildingSlot, f_pendingCount, f_summariesCurrent, f_callsActive, f_callsMade, f_runOutcome, f_runValue, a_slotStates, a_slotArities, a_slotStarts, a_slotSizes, a_kinds, a_firstOperands, a_secondOperands, a_children, a_parents, a_depths, a_pendingNodes, a_summaries, a_nextSummaries, a_nodeTypes, a_paramsAfter, a_params, a_values, a_arguments, a_frameSlots, a_frameNodes) := by
  have loop : ∀ d i fuel, i + d = N → d < fuel → wX_countNeverReturning_4 Q (nI N) f_capacity f_nodesUsed f_buildingSlot f_pendingCount f_summariesCurrent f_callsActive f_callsMade f_runOutcome f_runValue a_slotStates a_slotArities a_slotStarts a_slotSizes a_kinds a_firstOperands a_secondOperands a_children a_parents a_depths a_pendingNodes a_summaries a_nextSummaries a_nodeTypes a_paramsAfter a_params a_values a_arguments a_frameSlots a_frameNodes fuel (nI (an_cnt a_slotStates tb i)) (nI i) := by
    intro d
    induction d with
    | zero =>
      intro i fuel h1 h2
      obtain ⟨fuel, rfl⟩ : ∃ m, fuel = m + 1 := ⟨fuel - 1, by omega⟩
      obtain rfl : i = N := by omega
      exact br_t (nI_le (Nat.le_refl _) (by omega)) H
    | succ d ih =>
      intro i fuel h1 h2
      obtain ⟨fuel, rfl⟩ : ∃ m, fuel = m + 1 := ⟨fuel - 1, by omega⟩
      have w : vp_in (nI i) 8 := vp_in_nI (by omega) (by decide)
      have cl : (nI i).toNatClampNeg = i := nI_clamp (by omega)
      have hh := ih (i + 1) fuel (by omega) (by omega)
      rw [an_cnt_s] at hh
      refine br_f (nI_ge (by omega) (by omega)) ?_
      rw [xc_32, nI_clamp (n := i * 3 + 2) (by omega), cl, hsum _ (by omega)]
      refine ⟨vp_in_nI (by omega) (by omega), nm_e ⟨w, ?_⟩⟩
      by_cases s2 : a_slotStates i = 2
      · by_cases z : tb (i * 3 + 2) = ty_0
        · rw [if_pos ⟨s2, z⟩] at hh
          exact br_t s2 (br_t ((ty_x_0 (hT _)).mpr z) (nm_r (nI_1 _) (nm_r (nI_1 _) hh)))
        · rw [if_neg (fun y => z y.2)] at hh
          exact br_t s2 (br_f (fun y => z ((ty_x_0 (hT _)).mp y)) (nm_r (nI_1 _) hh))
      · rw [if_neg (fun y => s2 y.1)] at hh
        exact br_f s2 (nm_r (nI_1 _) hh)
  exact ⟨N + 1, loop N 0 (N + 1) (by omega) (by omega)⟩
theorem xn_take {Q : Int32 → SX → Prop} {tb tb' : Nat → ty_T} (hT : ∀ q, ty_ok (tb q)) (hT' : ∀ q, ty_ok (tb' q)) (hsum : ∀ q, q < 24 → a_summaries q = ty_x (tb q)) (hnx : ∀ q, q < 24 → a_nextSummaries q = ty_x (tb' q))
    (H1 : (∀ q, q < 24 → tb' q = tb q) → ∀ SU : Nat → Int32, (∀ q, q < 24 → SU q = ty_x (tb' q)) → Q 0 (f_slotCount, f_capacity, f_nodesUsed, f_buildingSlot, f_pendingCount, f_summariesCurrent, f_callsActive, f_callsMade, f_runOutcome, f_runValue, a_slotStates, a_slotArities, a_slotStarts, a_slotSizes, a_kinds, a_firstOperands, a_secondOperands, a_children, a_parents, a_depths, a_pendingNodes, SU, a_nextSummaries, a_nodeTypes, a_paramsAfter, a_params, a_values, a_arguments, a_frameSlots, a_frameNodes)) (H2 : (¬ ∀ q, q < 24 → tb' q = tb q) → ∀ SU : Nat → Int32, (∀ q, q < 24 → SU q = ty_x (tb' q)) → Q 1 (f_slotCount, f_capacity, f_nodesUsed, f_buildingSlot, f_pendingCount, f_summariesCurrent, f_callsActive, f_callsMade, f_runOutcome, f_runValue, a_slotStates, a_slotArities, a_slotStarts, a_slotSizes, a_kinds, a_firstOperands, a_secondOperands, a_children, a_parents, a_depths, a_pendingNodes, SU, a_nextSummaries, a_nodeTypes, a_paramsAfter, a_params, a_values, a_arguments, a_frameSlots, a_frameNodes)) :
    wpX_takeNextSummaries Q (f_slotCount, f_capacity, f_nodesUsed, f_buildingSlot, f_pendingCount, f_summariesCurrent, f_callsActive, f_callsMade, f_runOutcome, f_runValue, a_slotStates, a_slotArities, a_slotStarts, a_slotSizes, a_kinds, a_firstOperands, a_secondOperands, a_children, a_parents, a_depths, a_pendingNodes, a_summaries, a_nextSummaries, a_nodeTypes, a_paramsAfter, a_params, a_values, a_arguments, a_frameSlots, a_frameNodes) := by
  have loop : ∀ d i fuel (c : Int32) (SU : Nat → Int32), i + d = 24 → d < fuel → (∀ q, q < i → SU q = ty_x (tb' q)) → (∀ q, i ≤ q → q < 24 → SU q = ty_x (tb q)) → (c = 0 ∧ (∀ q, q < i → tb' q = tb q) ∨ c = 1 ∧ ∃ q, q < i ∧ tb' q ≠ tb q) →
      wX_takeNextSummaries_4 Q f_slotCount f_capacity f_nodesUsed f_buildingSlot f_pendingCount f_summariesCurrent f_callsActive f_callsMade f_runOutcome f_runValue fuel c (nI i) a_slotStates a_slotArities a_slotStarts a_slotSizes a_kinds a_firstOperands a_secondOperands a_children a_parents a_depths a_pendingNodes SU a_nextSummaries a_nodeTypes a_paramsAfter a_params a_values a_arguments a_frameSlots a_frameNodes := by
    intro d
    induction d with
    | zero =>
      intro i fuel c SU h1 h2 s1 s2 hc
      obtain ⟨fuel, rfl⟩ : ∃ m, fuel = m + 1 := ⟨fuel - 1, by omega⟩
      obtain rfl : i = 24 := by omega
      refine br_t (by decide) ?_
      rcases hc with ⟨rfl, hc⟩ | ⟨rfl, q, hq, hc⟩
      · exact ⟨rfl, H1 hc SU s1⟩
      · exact ⟨rfl, H2 (fun z => hc (z q hq)) SU s1⟩
    | succ d ih =>
      intro i fuel c SU h1 h2 s1 s2 hc
      obtain ⟨fuel, rfl⟩ : ∃ m, fuel = m + 1 := ⟨fuel - 1, by omega⟩
      have w : vp_in (nI i) 24 := vp_in_nI (by omega) (by decide)
      have cl : (nI i).toNatClampNeg = i := nI_clamp (by omega)
      refine br_f (nI_ge (b := 24) (by omega) (by decide)) ⟨w, w, ?_⟩
      rw [cl, s2 i (by omega) (by omega), hnx i (by omega)]
      by_cases z : tb i = tb' i
      · refine br_t (by rw [z]) (nm_r (nI_1 i) (ih (i + 1) fuel c SU (by omega) (by omega) (fun q hq => ?_) (fun q h3 h4 => s2 q (by omega) h4) ?_))
        · by_cases e : q = i
          · subst e; rw [← z]; exact s2 q (by omega) (by omega)
          · exact s1 q (by omega)
        · rcases hc with ⟨c0, hc⟩ | ⟨c1, q, hq, hc⟩
          · refine Or.inl ⟨c0, fun q hq => ?_⟩
            by_cases e : q = i
            · subst e; exact z.symm
            · exact hc q (by omega)
          · exact Or.inr ⟨c1, q, by omega, hc⟩
      · refine br_f (fun y => z (ty_x_inj (hT i) (hT' i) y)) ⟨w, w, nm_e (nm_r (nI_1 i) (ih (i + 1) fuel 1 _ (by omega) (by omega) (fun q hq => ?_) (fun q h3 h4 => ?_) (Or.inr ⟨rfl, i, by omega, fun y => z y.symm⟩)))⟩
        · by_cases e : q = i
          · subst e; exact pk_us
          · rw [pk_un e]; exact s1 q (by omega)
        · rw [pk_un (by omega)]; exact s2 q (by omega) h4
  exact ⟨25, loop 24 0 25 0 a_summaries (by omega) (by omega) (fun q hq => absurd hq (Nat.not_lt_zero q)) (fun q _ hq => hsum q hq) (Or.inl ⟨rfl, fun q hq => absurd hq (Nat.not_lt_zero q)⟩)⟩
end
-- the slots in the pool, the rest of the state fixed
section
variable {f_slotCount f_capacity f_nodesUsed f_buildingSlot f_pendingCount f_summariesCurrent f_callsActive f_callsMade f_runOutcome f_runValue : Int32} {a_slotStates a_slotArities a_slotStarts a_slotSizes a_kinds a_firstOperands a_secondOperands a_children a_parents a_depths a_pendingNodes a_summaries a_nextSummaries a_nodeTypes a_paramsAfter a_params a_values a_arguments a_frameSlots a_frameNodes : Nat → Int32} {N U : Nat} {sz S : Nat → Nat} {szY bk ba bb : Nat → Int32}
theorem xn_37 {post : Int32 → SX → Prop} {J : Int32 → Int32 → Int32 → Int32 → Int32 → Int32 → Int32 → Int32 → Int32 → Int32 → Int32 → Int32 → (Nat → Int32) → (Nat → Int32) → (Nat → Int32) → (Nat → Int32) → (Nat → Int32) → (Nat → Int32) → (Nat → Int32) → (Nat → Int32) → (Nat → Int32) → (Nat → Int32) → (Nat → Int32) → (Nat → Int32) → (Nat → Int32) → (Nat → Int32) → (Nat → Int32) → (Nat → Int32) → (Nat → Int32) → (Nat → Int32) → (Nat → Int32) → (Nat → Int32) → Prop}
    {tb : Nat → ty_T} {r : Nat} (hN : N ≤ 8) (hs : rl_slots N U sz S a_slotStates a_slotArities a_slotSizes szY a_slotStarts bk ba bb a_kinds a_firstOperands a_secondOperands a_children a_parents a_depths)
    (hT : ∀ q, ty_ok (tb q)) (hsum : ∀ q, q < 24 → a_summaries q = ty_x (tb q))
    (H1 : (∀ q, q < 24 → sp_step N (rl_K bk) (rl_K ba) (rl_K bb) a_slotStates a_slotArities sz tb q = tb q) → ∀ SU NX NT PA P : Nat → Int32, (∀ q, q < 24 → SU q = ty_x (sp_step N (rl_K bk) (rl_K ba) (rl_K bb) a_slotStates a_slotArities sz tb q)) → (∀ q, 3 * N ≤ q → q < 24 → NX q = 0) → J 0 (nI (r + 1)) (nI N) f_capacity f_nodesUsed f_buildingSlot f_pendingCount f_summariesCurrent f_callsActive f_callsMade f_runOutcome f_runValue a_slotStates a_slotArities a_slotStarts a_slotSizes a_kinds a_firstOperands a_secondOperands a_children a_parents a_depths a_pendingNodes SU NX NT PA P a_values a_arguments a_frameSlots a_frameNodes)
    (H2 : (¬ ∀ q, q < 24 → sp_step N (rl_K bk) (rl_K ba) (rl_K bb) a_slotStates a_slotArities sz tb q = tb q) → ∀ SU NX NT PA P : Nat → Int32, (∀ q, q < 24 → SU q = ty_x (sp_step N (rl_K bk) (rl_K ba) (rl_K bb) a_slotStates a_slotArities sz tb q)) → (∀ q, 3 * N ≤ q → q < 24 → NX q = 0) → J 1 (nI (r + 1)) (nI N) f_capacity f_nodesUsed f_buildingSlot f_pendingCount f_summariesCurrent f_callsActive f_callsMade f_runOutcome f_runValue a_slotStates a_slotArities a_slotStarts a_slotSizes a_kinds a_firstOperands a_secondOperands a_children a_parents a_depths a_pendingNodes SU NX NT PA P a_values a_arguments a_frameSlots a_frameNodes) :
    ∀ d f fuel (NX NT PA P : Nat → Int32), f + d = N → d < fuel → (∀ q, q < f * 3 → NX q = ty_x (sp_step N (rl_K bk) (rl_K ba) (rl_K bb) a_slotStates a_slotArities sz tb q)) → (∀ q, 3 * N ≤ q → q < 24 → NX q = 0) →
      wX_analyze_37 post J (nI r) fuel (nI f) (nI N) f_capacity f_nodesUsed f_buildingSlot f_pendingCount f_summariesCurrent f_callsActive f_callsMade f_runOutcome f_runValue a_slotStates a_slotArities a_slotStarts a_slotSizes a_kinds a_firstOperands a_secondOperands a_children a_parents a_depths a_pendingNodes a_summaries NX NT PA P a_values a_arguments a_frameSlots a_frameNodes := by
  intro d
  have ok := sp_step_ok (rl_sp_ok hs) hT
  induction d with
  | zero =>
    intro f fuel NX NT PA P h1 h2 n1 n2
    obtain ⟨fuel, rfl⟩ : ∃ m, fuel = m + 1 := ⟨fuel - 1, by omega⟩
    obtain rfl : f = N := by omega
    refine br_t (nI_le (Nat.le_refl _) (by omega)) ?_
    have nx : ∀ q, q < 24 → NX q = ty_x (sp_step f (rl_K bk) (rl_K ba) (rl_K bb) a_slotStates a_slotArities sz tb q) := by
      intro q hq
      by_cases c : q < f * 3
      · exact n1 q c
      · rw [n2 q (by omega) hq]
        unfold sp_step
        rw [if_neg (fun z => by omega), ty_x_00]
    exact xn_take hT ok hsum nx (fun e SU hSU => nm_r (nI_1 r) (H1 e SU NX NT PA P hSU n2)) (fun e SU hSU => nm_r (nI_1 r) (H2 e SU NX NT PA P hSU n2))
  | succ d ih =>
    intro f fuel NX NT PA P h1 h2 n1 n2
    obtain ⟨fuel, rfl⟩ : ∃ m, fuel = m + 1 := ⟨fuel - 1, by omega⟩
    refine br_f (nI_ge (by omega) (by omega)) ?_
    refine xs_slot (show f < N by omega) hN (hs f (by omega)) hT hsum fun NX' NT' PA' P' x => ?_
    obtain ⟨x1, x2⟩ := x
    refine nm_r (nI_1 f) (ih (f + 1) fuel NX' NT' PA' P' (by omega) (by omega) (fun q hq => ?_) (fun q h3 h4 => ?_))
    · by_cases c : q < f * 3
      · rw [x1 q (by omega) (by omega) (by omega)]; exact n1 q c
      · obtain ⟨j, hj, rfl⟩ : ∃ j, j < 3 ∧ q = f * 3 + j := ⟨q - f * 3, by omega, by omega⟩
        rw [x2 j hj]
        unfold sp_step
        rw [show (f * 3 + j) / 3 = f by omega, show (f * 3 + j) % 3 = j by omega]
        by_cases s2 : a_slotStates f = 2
        · rw [if_pos s2, if_pos ⟨by omega, s2⟩]; rfl
        · rw [if_neg s2, if_neg (fun z => s2 z.2)]
    · rw [x1 q (by omega) (by omega) (by omega)]; exact n2 q h3 h4
end
end
section
section
variable {f_slotCount f_capacity f_nodesUsed f_buildingSlot f_pendingCount f_summariesCurrent f_callsActive f_callsMade f_runOutcome f_runValue : Int32} {a_slotStates a_slotArities a_slotStarts a_slotSizes a_kinds a_firstOperands a_secondOperands a_children a_parents a_depths a_pendingNodes a_summaries a_nextSummaries a_nodeTypes a_paramsAfter a_params a_values a_arguments a_frameSlots a_frameNodes : Nat → Int32} {N U : Nat} {sz S : Nat → Nat} {szY bk ba bb : Nat → Int32}
theorem xn_25 {post : Int32 → SX → Prop} {r0 : Nat} (hN : N ≤ 8) (hs : rl_slots N U sz S a_slotStates a_slotArities a_slotSizes szY a_slotStarts bk ba bb a_kinds a_firstOperands a_secondOperands a_children a_parents a_depths)
    (hr : r0 ≤ 1056) (f1 : ∀ q, q < 24 → sp_T N (rl_K bk) (rl_K ba) (rl_K bb) a_slotStates a_slotArities sz (r0 + 1) q = sp_T N (rl_K bk) (rl_K ba) (rl_K bb) a_slotStates a_slotArities sz r0 q) (f2 : ∀ j, j < r0 → ¬ ∀ q, q < 24 → sp_T N (rl_K bk) (rl_K ba) (rl_K bb) a_slotStates a_slotArities sz (j + 1) q = sp_T N (rl_K bk) (rl_K ba) (rl_K bb) a_slotStates a_slotArities sz j q)
    (H : ∀ SU NX NT PA P : Nat → Int32, (∀ q, q < 24 → SU q = ty_x (sp_T N (rl_K bk) (rl_K ba) (rl_K bb) a_slotStates a_slotArities sz (r0 + 1) q)) → (∀ q, 3 * N ≤ q → q < 24 → NX q = 0) → post (nI (an_cnt a_slotStates (sp_T N (rl_K bk) (rl_K ba) (rl_K bb) a_slotStates a_slotArities sz (r0 + 1)) N)) (nI N, f_capacity, f_nodesUsed, f_buildingSlot, f_pendingCount, 1, f_callsActive, f_callsMade, f_runOutcome, f_runValue, a_slotStates, a_slotArities, a_slotStarts, a_slotSizes, a_kinds, a_firstOperands, a_secondOperands, a_children, a_parents, a_depths, a_pendingNodes, SU, NX, NT, PA, P, a_values, a_arguments, a_frameSlots, a_frameNodes)) :
    ∀ d r fuel (SU NX NT PA P : Nat → Int32), r + d = r0 → d + 1 < fuel → (∀ q, q < 24 → SU q = ty_x (sp_T N (rl_K bk) (rl_K ba) (rl_K bb) a_slotStates a_slotArities sz r q)) → (∀ q, 3 * N ≤ q → q < 24 → NX q = 0) →
      wX_analyze_25 post fuel 1 (nI r) (nI N) f_capacity f_nodesUsed f_buildingSlot f_pendingCount f_summariesCurrent f_callsActive f_callsMade f_runOutcome f_runValue a_slotStates a_slotArities a_slotStarts a_slotSizes a_kinds a_firstOperands a_secondOperands a_children a_parents a_depths a_pendingNodes SU NX NT PA P a_values a_arguments a_frameSlots a_frameNodes := by
  intro d
  have ok := sp_T_ok (rl_sp_ok hs)
  have fin : ∀ (r fuel : Nat) (SU NX NT PA P : Nat → Int32), r ≤ 2000 → 0 < fuel → (∀ q, q < 24 → SU q = ty_x (sp_T N (rl_K bk) (rl_K ba) (rl_K bb) a_slotStates a_slotArities sz (r0 + 1) q)) → (∀ q, 3 * N ≤ q → q < 24 → NX q = 0) → wX_analyze_25 post fuel 0 (nI r) (nI N) f_capacity f_nodesUsed f_buildingSlot f_pendingCount f_summariesCurrent f_callsActive f_callsMade f_runOutcome f_runValue a_slotStates a_slotArities a_slotStarts a_slotSizes a_kinds a_firstOperands a_secondOperands a_children a_parents a_depths a_pendingNodes SU NX NT PA P a_values a_arguments a_frameSlots a_frameNodes := by
    intro r fuel SU NX NT PA P hr hf hSU hNX
    obtain ⟨fuel, rfl⟩ : ∃ m, fuel = m + 1 := ⟨fuel - 1, by omega⟩
    refine br_f (nI_ge (b := 1000000) (by omega) (by decide)) (br_t rfl ?_)
    unfold wX_analyze_67
    exact xn_cnt hN (ok (r0 + 1)) hSU (H SU NX NT PA P hSU hNX)
  induction d with
  | zero =>
    intro r fuel SU NX NT PA P h1 h2 hSU hNX
    obtain ⟨fuel, rfl⟩ : ∃ m, fuel = m + 1 := ⟨fuel - 1, by omega⟩
    obtain rfl : r = r0 := by omega
    refine br_f (nI_ge (b := 1000000) (by omega) (by decide)) (br_f (by decide) ⟨N + 1, ?_⟩)
    refine xn_37 hN hs (ok r) hSU (fun e SU' NX' NT' PA' P' s n => ?_) (fun e SU' NX' NT' PA' P' s n => ?_) N 0 (N + 1) NX NT PA P (by omega) (by omega) (fun q hq => absurd hq (by omega)) hNX
    · exact fin (r + 1) fuel SU' NX' NT' PA' P' (by omega) (by omega) s n
    · exact absurd f1 e
  | succ d ih =>
    intro r fuel SU NX NT PA P h1 h2 hSU hNX
    obtain ⟨fuel, rfl⟩ : ∃ m, fuel = m + 1 := ⟨fuel - 1, by omega⟩
    refine br_f (nI_ge (b := 1000000) (by omega) (by decide)) (br_f (by decide) ⟨N + 1, ?_⟩)
    refine xn_37 hN hs (ok r) hSU (fun e SU' NX' NT' PA' P' s n => ?_) (fun e SU' NX' NT' PA' P' s n => ?_) N 0 (N + 1) NX NT PA P (by omega) (by omega) (fun q hq => absurd hq (by omega)) hNX
    · exact absurd e (f2 r (by omega))
    · exact ih (r + 1) fuel SU' NX' NT' PA' P' (by omega) (by omega) s n
theorem xn_analyze {post : Int32 → SX → Prop} {r0 : Nat} (hN : N ≤ 8) (hs : rl_slots N U sz S a_slotStates a_slotArities a_slotSizes szY a_slotStarts bk ba bb a_kinds a_firstOperands a_secondOperands a_children a_parents a_depths)
    (hNX : ∀ q, 3 * N ≤ q → q < 24 → a_nextSummaries q = 0) (hr : r0 ≤ 1056) (f1 : ∀ q, q < 24 → sp_T N (rl_K bk) (rl_K ba) (rl_K bb) a_slotStates a_slotArities sz (r0 + 1) q = sp_T N (rl_K bk) (rl_K ba) (rl_K bb) a_slotStates a_slotArities sz r0 q) (f2 : ∀ j, j < r0 → ¬ ∀ q, q < 24 → sp_T N (rl_K bk) (rl_K ba) (rl_K bb) a_slotStates a_slotArities sz (j + 1) q = sp_T N (rl_K bk) (rl_K ba) (rl_K bb) a_slotStates a_slotArities sz j q)
    (H : ∀ SU NX NT PA P : Nat → Int32, (∀ q, q < 24 → SU q = ty_x (sp_T N (rl_K bk) (rl_K ba) (rl_K bb) a_slotStates a_slotArities sz (r0 + 1) q)) → (∀ q, 3 * N ≤ q → q < 24 → NX q = 0) → post (nI (an_cnt a_slotStates (sp_T N (rl_K bk) (rl_K ba) (rl_K bb) a_slotStates a_slotArities sz (r0 + 1)) N)) (nI N, f_capacity, f_nodesUsed, f_buildingSlot, f_pendingCount, 1, f_callsActive, f_callsMade, f_runOutcome, f_runValue, a_slotStates, a_slotArities, a_slotStarts, a_slotSizes, a_kinds, a_firstOperands, a_secondOperands, a_children, a_parents, a_depths, a_pendingNodes, SU, NX, NT, PA, P, a_values, a_arguments, a_frameSlots, a_frameNodes)) :
    wpX_analyze post (nI N, f_capacity, f_nodesUsed, f_buildingSlot, f_pendingCount, f_summariesCurrent, f_callsActive, f_callsMade, f_runOutcome, f_runValue, a_slotStates, a_slotArities, a_slotStarts, a_slotSizes, a_kinds, a_firstOperands, a_secondOperands, a_children, a_parents, a_depths, a_pendingNodes, a_summaries, a_nextSummaries, a_nodeTypes, a_paramsAfter, a_params, a_values, a_arguments, a_frameSlots, a_frameNodes) := by
  have loop : ∀ d i fuel (SU : Nat → Int32), i + d = 24 → d < fuel → (∀ q, q < i → SU q = 0) → wX_analyze_2 post (nI N) f_capacity f_nodesUsed f_buildingSlot f_pendingCount f_summariesCurrent f_callsActive f_callsMade f_runOutcome f_runValue fuel (nI i) a_slotStates a_slotArities a_slotStarts a_slotSizes a_kinds a_firstOperands a_secondOperands a_children a_parents a_depths a_pendingNodes SU a_nextSummaries a_nodeTypes a_paramsAfter a_params a_values a_arguments a_frameSlots a_frameNodes := by
    intro d
    induction d with
    | zero =>
      intro i fuel SU h1 h2 s
      obtain ⟨fuel, rfl⟩ : ∃ m, fuel = m + 1 := ⟨fuel - 1, by omega⟩
      obtain rfl : i = 24 := by omega
      exact br_t (by decide) ⟨r0 + 2, xn_25 hN hs hr f1 f2 H r0 0 (r0 + 2) SU a_nextSummaries a_nodeTypes a_paramsAfter a_params (by omega) (by omega) (fun q hq => by rw [s q hq]; exact ty_x_00.symm) hNX⟩
    | succ d ih =>
      intro i fuel SU h1 h2 s
      obtain ⟨fuel, rfl⟩ : ∃ m, fuel = m + 1 := ⟨fuel - 1, by omega⟩
      refine br_f (nI_ge (b := 24) (by omega) (by decide)) ⟨vp_in_nI (by omega) (by decide), ?_⟩
      rw [nI_clamp (by omega)]
      refine nm_e (nm_r (nI_1 i) (ih (i + 1) fuel _ (by omega) (by omega) fun q hq => ?_))
      by_cases e : q = i
      · subst e; exact pk_us
      · rw [pk_un e]; exact s q (by omega)
  exact ⟨25, loop 24 0 25 a_summaries (by omega) (by omega) (fun q hq => absurd hq (Nat.not_lt_zero q))⟩
end
end
section
section
variable {f_n f_cap f_ana f_res f_anyT f_intsT f_wp f_vp f_made f_active f_xp f_curK f_rBot f_rR f_rE0 f_rE1 : Int32} {a_st a_ar a_size a_bk a_ba a_bb a_ds a_tab a_nxt a_wN a_wS a_wF a_vs a_frS a_frP0 a_frP1 a_xN a_xS a_xE0 a_xE1 a_xA a_xB a_xC a_xD a_xE a_xF a_xG : Nat → Int32} {N k n f : Nat} {post : SY → Prop}
theorem yo_down {Q : SY → Prop} {p i : Nat} {Z : Nat → Nat → Int32} {κ : Int32} (hb : ab_bd N k n (rl_K a_bk f) (rl_K a_ba f) (rl_K a_bb f) (rl_c (rl_K a_bk f) (rl_K a_bb f))) (hf : f < 8) (hn : n ≤ 128) (hp : p < 15) (hi : i < n) (hc : 0 < (rl_c (rl_K a_bk f) (rl_K a_bb f)) i)
    (H : ∀ Z', Z' = ya_push (ya_z Z 1 p 1) (p + 1) (bs_ch (rl_c (rl_K a_bk f) (rl_K a_bb f)) i 0) (Z 2 p) (Z 3 p) → Q (f_n, f_cap, f_ana, f_res, f_anyT, f_intsT, f_wp, f_vp, f_made, f_active, nI (p + 2), f_curK, f_rBot, f_rR, f_rE0, f_rE1, a_st, a_ar, a_size, a_bk, a_ba, a_bb, a_ds, a_tab, a_nxt, a_wN, a_wS, a_wF, a_vs, a_frS, a_frP0, a_frP1, Z' 0, Z' 1, Z' 2, Z' 3, Z' 4, Z' 5, Z' 6, Z' 7, Z' 8, Z' 9, Z' 10)) : wpY_stepOp Q (f_n, f_cap, f_ana, f_res, f_anyT, f_intsT, f_wp, f_vp, f_made, f_active, nI (p + 1), f_curK, f_rBot, f_rR, f_rE0, f_rE1, a_st, a_ar, a_size, a_bk, a_ba, a_bb, a_ds, a_tab, a_nxt, a_wN, a_wS, a_wF, a_vs, a_frS, a_frP0, a_frP1, Z 0, Z 1, Z 2, Z 3, Z 4, Z 5, Z 6, Z 7, Z 8, Z 9, Z 10) (nI f) (nI p) (nI i) 0 κ := by
  have w : vp_in (nI p) 16 := vp_in_nI (by omega) (by decide)
  have cp : (nI p).toNatClampNeg = p := nI_clamp (by omega)
  have s38 : ∀ z0 : Int32, wY_stepOp_12 Q (nI f) (nI p) (nI i) 0 κ z0 f_n f_cap f_ana f_res f_anyT f_intsT f_wp f_vp f_made f_active (nI (p + 1)) f_curK f_rBot f_rR f_rE0 f_rE1 a_st a_ar a_size a_bk a_ba a_bb a_ds a_tab a_nxt a_wN a_wS a_wF a_vs a_frS a_frP0 a_frP1 (Z 0) (Z 1) (Z 2) (Z 3) (Z 4) (Z 5) (Z 6) (Z 7) (Z 8) (Z 9) (Z 10) := by
    intro z0
    refine br_t (by decide) (br_t rfl ⟨w, nm_r (e' := upd (Z 1) p 1) (by rw [cp]) ?_⟩)
    refine yk_cp (j := 0) hf hn hb hi hc ⟨w, w, ?_⟩
    rw [cp]
    exact yc_push (Z := ya_z Z 1 p 1) (p := p + 1) (by omega) (H _ rfl)
  unfold wpY_stepOp
  dsimp only
  exact br_c (fun _ => s38 1) (fun _ => s38 2)
theorem yi_down {Q : SY → Prop} {p i : Nat} {Z : Nat → Nat → Int32} (hb : ab_bd N k n (rl_K a_bk f) (rl_K a_ba f) (rl_K a_bb f) (rl_c (rl_K a_bk f) (rl_K a_bb f))) (hf : f < 8) (hn : n ≤ 128) (hp : p < 15) (hi : i < n) (hc : 0 < (rl_c (rl_K a_bk f) (rl_K a_bb f)) i)
    (H : ∀ Z', Z' = ya_push (ya_z Z 1 p 1) (p + 1) (bs_ch (rl_c (rl_K a_bk f) (rl_K a_bb f)) i 0) (Z 2 p) (Z 3 p) → Q (f_n, f_cap, f_ana, f_res, f_anyT, f_intsT, f_wp, f_vp, f_made, f_active, nI (p + 2), f_curK, f_rBot, f_rR, f_rE0, f_rE1, a_st, a_ar, a_size, a_bk, a_ba, a_bb, a_ds, a_tab, a_nxt, a_wN, a_wS, a_wF, a_vs, a_frS, a_frP0, a_frP1, Z' 0, Z' 1, Z' 2, Z' 3, Z' 4, Z' 5, Z' 6, Z' 7, Z' 8, Z' 9, Z' 10)) : wpY_stepIf Q (f_n, f_cap, f_ana, f_res, f_anyT, f_intsT, f_wp, f_vp, f_made, f_active, nI (p + 1), f_curK, f_rBot, f_rR, f_rE0, f_rE1, a_st, a_ar, a_size, a_bk, a_ba, a_bb, a_ds, a_tab, a_nxt, a_wN, a_wS, a_wF, a_vs, a_frS, a_frP0, a_frP1, Z 0, Z 1, Z 2, Z 3, Z 4, Z 5, Z 6, Z 7, Z 8, Z 9, Z 10) (nI f) (nI p) (nI i) 0 := by
  have w : vp_in (nI p) 16 := vp_in_nI (by omega) (by decide)
  have cp : (nI p).toNatClampNeg = p := nI_clamp (by omega)
  unfold wpY_stepIf
  dsimp only
  refine br_t rfl ⟨w, nm_r (e' := upd (Z 1) p 1) (by rw [cp]) ?_⟩
  refine yk_cp (j := 0) hf hn hb hi hc ⟨w, w, ?_⟩
  rw [cp]
  exact yc_push (Z := ya_z Z 1 p 1) (p := p + 1) (by omega) (H _ rfl)
theorem yl_down {Q : SY → Prop} {p i m : Nat} {Z : Nat → Nat → Int32} {g : Int32} (hb : ab_bd N k n (rl_K a_bk f) (rl_K a_ba f) (rl_K a_bb f) (rl_c (rl_K a_bk f) (rl_K a_bb f))) (hf : f < 8) (hn : n ≤ 128) (hp : p < 15) (hi : i < n) (hc : 0 < (rl_c (rl_K a_bk f) (rl_K a_bb f)) i) (hm : 0 < m) (hm2 : m ≤ 2)
    (H : ∀ Z', Z' = ya_push (ya_z Z 1 p 1) (p + 1) (bs_ch (rl_c (rl_K a_bk f) (rl_K a_bb f)) i 0) (Z 2 p) (Z 3 p) → Q (f_n, f_cap, f_ana, f_res, f_anyT, f_intsT, f_wp, f_vp, f_made, f_active, nI (p + 2), f_curK, f_rBot, f_rR, f_rE0, f_rE1, a_st, a_ar, a_size, a_bk, a_ba, a_bb, a_ds, a_tab, a_nxt, a_wN, a_wS, a_wF, a_vs, a_frS, a_frP0, a_frP1, Z' 0, Z' 1, Z' 2, Z' 3, Z' 4, Z' 5, Z' 6, Z' 7, Z' 8, Z' 9, Z' 10)) : wpY_stepCall Q (f_n, f_cap, f_ana, f_res, f_anyT, f_intsT, f_wp, f_vp, f_made, f_active, nI (p + 1), f_curK, f_rBot, f_rR, f_rE0, f_rE1, a_st, a_ar, a_size, a_bk, a_ba, a_bb, a_ds, a_tab, a_nxt, a_wN, a_wS, a_wF, a_vs, a_frS, a_frP0, a_frP1, Z 0, Z 1, Z 2, Z 3, Z 4, Z 5, Z 6, Z 7, Z 8, Z 9, Z 10) (nI f) (nI p) (nI i) 0 g (nI m) := by
  have w : vp_in (nI p) 16 := vp_in_nI (by omega) (by decide)
  have cp : (nI p).toNatClampNeg = p := nI_clamp (by omega)
  unfold wpY_stepCall
  dsimp only
  refine br_t (by decide) (br_f (nI_nle hm (by omega)) (br_f (by decide) ⟨w, nm_r (e' := upd (Z 1) p 1) (by rw [cp]; rfl) ?_⟩))
  refine yk_cp (j := 0) hf hn hb hi hc (br_t rfl ⟨w, w, ?_⟩)
  rw [cp]
  exact yc_push (Z := ya_z Z 1 p 1) (p := p + 1) (by omega) (H _ rfl)
theorem yr_1 (hb : ab_bd N k n (rl_K a_bk f) (rl_K a_ba f) (rl_K a_bb f) (rl_c (rl_K a_bk f) (rl_K a_bb f))) (hk2 : k ≤ 2) (hf : f < 8) (hn : n ≤ 128) : ya_R1 k n (rl_K a_bk f) (rl_K a_ba f) (yc_A post f f_n f_cap f_ana f_res f_anyT f_intsT f_wp f_vp f_made f_active f_xp (nI k) f_rBot f_rR f_rE0 f_rE1 a_st a_ar a_size a_bk a_ba a_bb a_ds a_tab a_nxt a_wN a_wS a_wF a_vs a_frS a_frP0 a_frP1 a_xN a_xS a_xE0 a_xE1 a_xA a_xB a_xC a_xD a_xE a_xF a_xG) := by
  intro t p Z b r e0 e1 i e ht hp hi h0 hK he h2 h3 hk fuel hfu
  obtain ⟨fuel, rfl⟩ : ∃ m, fuel = m + 1 := ⟨fuel - 1, by omega⟩
  have w : vp_in (nI p) 16 := vp_in_nI hp (by decide)
  have cp : (nI p).toNatClampNeg = p := nI_clamp (by omega)
  have wi : vp_in (nI (f * 128 + i)) 1024 := vp_in_nI (by omega) (by decide)
  have ci : (nI (f * 128 + i)).toNatClampNeg = f * 128 + i := nI_clamp (by omega)
  have go : ∀ {o : ab_O}, ya_k (yc_A post f f_n f_cap f_ana f_res f_anyT f_intsT f_wp f_vp f_made f_active f_xp (nI k) f_rBot f_rR f_rE0 f_rE1 a_st a_ar a_size a_bk a_ba a_bb a_ds a_tab a_nxt a_wN a_wS a_wF a_vs a_frS a_frP0 a_frP1 a_xN a_xS a_xE0 a_xE1 a_xA a_xB a_xC a_xD a_xE a_xF a_xG (t + 1) p Z) o → ya_k (fun b r e0 e1 => ∀ x : Int32, x = nI t + 1 → wY_absEval_53 post (nI f) fuel x f_n f_cap f_ana f_res f_anyT f_intsT f_wp f_vp f_made f_active (nI p) (nI k) b r e0 e1 a_st a_ar a_size a_bk a_ba a_bb a_ds a_tab a_nxt a_wN a_wS a_wF a_vs a_frS a_frP0 a_frP1 (Z 0) (Z 1) (Z 2) (Z 3) (Z 4) (Z 5) (Z 6) (Z 7) (Z 8) (Z 9) (Z 10)) o :=
    fun h => ya_k_imp (fun b r e0 e1 h => nm_r (nI_1 t) (h fuel (by omega))) h
  unfold ab_leaf at hk
  rcases hK with hK | hK | hK
  · rw [if_pos hK] at hk
    obtain ⟨l1, l2⟩ := (hb.1 i hi).2.1 hK
    refine br_f (nI_ge (b := 4096) ht (by decide)) (br_f (nI_nle (Nat.succ_pos p) (by omega)) (nm_r (e' := nI p) (yc_top hp) ⟨w, nm_r (e' := nI i) (by rw [cp]; exact h0) ⟨w, nm_r (e' := Z 1 p) (by rw [cp]) (nm_r (yk_ix hf (by omega)) ⟨wi, nm_r (e' := 0) (by rw [ci]; exact hK) ⟨wi, nm_r (e' := rl_K a_ba f i) (by rw [ci]; rfl) (br_t rfl ?_) ⟩⟩)⟩⟩))
    refine yt_range (Int.le_refl _) l2 l1 (nm_r (nI_pred p) ⟨w, w, ?_⟩)
    rw [cp, h2, h3]
    exact yc_set hk2 (ty_r_ok (Int.le_refl _)) he (go hk)
  · rw [if_neg (by rw [hK]; decide), if_pos hK] at hk
    obtain ⟨j, hj, ej⟩ := (hb.1 i hi).2.2.1 hK
    rw [ej, nI_clamp (by omega)] at hk
    refine br_f (nI_ge (b := 4096) ht (by decide)) (br_f (nI_nle (Nat.succ_pos p) (by omega)) (nm_r (e' := nI p) (yc_top hp) ⟨w, nm_r (e' := nI i) (by rw [cp]; exact h0) ⟨w, nm_r (e' := Z 1 p) (by rw [cp]) (nm_r (yk_ix hf (by omega)) ⟨wi, nm_r (e' := 1) (by rw [ci]; exact hK) ⟨wi, nm_r (e' := rl_K a_ba f i) (by rw [ci]; rfl) (br_f (by decide) (br_t rfl ?_)) ⟩⟩)⟩⟩))
    refine nm_r (nI_pred p) ⟨w, w, ?_⟩
    have e1 : (1 : Int32) <<< (rl_K a_ba f i &&& 31) = ty_y (2 ^ j, 0, 0) := by rw [ej]; exact xc_pow j hj
    rw [cp, h2, h3, e1]
    exact yc_set hk2 (ab_pow_ok hj) he (go hk)
  · rw [if_neg (by rw [hK]; decide), if_neg (by rw [hK]; decide)] at hk
    refine br_f (nI_ge (b := 4096) ht (by decide)) (br_f (nI_nle (Nat.succ_pos p) (by omega)) (nm_r (e' := nI p) (yc_top hp) ⟨w, nm_r (e' := nI i) (by rw [cp]; exact h0) ⟨w, nm_r (e' := Z 1 p) (by rw [cp]) (nm_r (yk_ix hf (by omega)) ⟨wi, nm_r (e' := 2) (by rw [ci]; exact hK) ⟨wi, nm_r (e' := rl_K a_ba f i) (by rw [ci]; rfl) (br_f (by decide) (br_f (by decide) (br_t rfl ?_))) ⟩⟩)⟩⟩))
    rw [cp, h2, h3]
    by_cases z : rl_K a_ba f i = 0
    · rw [if_pos z] at hk
      refine br_t z ⟨w, nm_r (nI_pred p) ⟨w, w, ?_⟩⟩
      rw [cp, h2, h3]
      exact yc_set hk2 he.1 he (go hk)
    · rw [if_neg z] at hk
      refine br_f z ⟨w, nm_r (nI_pred p) ⟨w, w, ?_⟩⟩
      rw [cp, h2, h3]
      exact yc_set hk2 he.2.1 he (go hk)
theorem yr_2 (hb : ab_bd N k n (rl_K a_bk f) (rl_K a_ba f) (rl_K a_bb f) (rl_c (rl_K a_bk f) (rl_K a_bb f))) (hf : f < 8) (hn : n ≤ 128) : ya_R2 n (rl_c (rl_K a_bk f) (rl_K a_bb f)) (yc_A post f f_n f_cap f_ana f_res f_anyT f_intsT f_wp f_vp f_made f_active f_xp f_curK f_rBot f_rR f_rE0 f_rE1 a_st a_ar a_size a_bk a_ba a_bb a_ds a_tab a_nxt a_wN a_wS a_wF a_vs a_frS a_frP0 a_frP1 a_xN a_xS a_xE0 a_xE1 a_xA a_xB a_xC a_xD a_xE a_xF a_xG) := by
  intro t p Z b r e0 e1 i ht hp' hi h0 h1 hc hk fuel hfu
  obtain ⟨fuel, rfl⟩ : ∃ m, fuel = m + 1 := ⟨fuel - 1, by omega⟩
  have hp : p < 16 := by omega
  have w : vp_in (nI p) 16 := vp_in_nI hp (by decide)
  have cp : (nI p).toNatClampNeg = p := nI_clamp (by omega)
  have wi : vp_in (nI (f * 128 + i)) 1024 := vp_in_nI (by omega) (by decide)
  have ci : (nI (f * 128 + i)).toNatClampNeg = f * 128 + i := nI_clamp (by omega)
  have fin : ∀ Z' : Nat → Nat → Int32, Z' = ya_push (ya_z Z 1 p 1) (p + 1) (bs_ch (rl_c (rl_K a_bk f) (rl_K a_bb f)) i 0) (Z 2 p) (Z 3 p) → ∀ x : Int32, x = nI t + 1 → wY_absEval_53 post (nI f) fuel x f_n f_cap f_ana f_res f_anyT f_intsT f_wp f_vp f_made f_active (nI (p + 2)) f_curK b r e0 e1 a_st a_ar a_size a_bk a_ba a_bb a_ds a_tab a_nxt a_wN a_wS a_wF a_vs a_frS a_frP0 a_frP1 (Z' 0) (Z' 1) (Z' 2) (Z' 3) (Z' 4) (Z' 5) (Z' 6) (Z' 7) (Z' 8) (Z' 9) (Z' 10) := by
    intro Z' eZ
    subst eZ
    exact nm_r (nI_1 t) (hk fuel (by omega))
  have hcc : (rl_c (rl_K a_bk f) (rl_K a_bb f)) i = bs_cc (rl_K a_bk f i) (rl_K a_bb f i) := rfl
  rcases bd_10 (hb.1 i hi) with hK | hK | hK | hK | hK | hK | hK | hK | hK | hK
  · rw [hcc, hK, bs_cc0] at hc; omega
  · rw [hcc, hK, bs_cc1] at hc; omega
  · rw [hcc, hK, bs_cc2] at hc; omega
  · exact br_f (nI_ge (b := 4096) ht (by decide)) (br_f (nI_nle (Nat.succ_pos p) (by omega)) (nm_r (e' := nI p) (yc_top hp) ⟨w, nm_r (e' := nI i) (by rw [cp]; exact h0) ⟨w, nm_r (e' := 0) (by rw [cp]; exact h1) (nm_r (yk_ix hf (by omega)) ⟨wi, nm_r (e' := 3) (by rw [ci]; exact hK) ⟨wi, nm_r (e' := rl_K a_ba f i) (by rw [ci]; rfl) (br_f (by decide) (br_f (by decide) (br_f (by decide) (br_f (by decide) (br_f (by decide) (yo_down hb hf hn hp' hi hc fin)))))) ⟩⟩)⟩⟩))
  · exact br_f (nI_ge (b := 4096) ht (by decide)) (br_f (nI_nle (Nat.succ_pos p) (by omega)) (nm_r (e' := nI p) (yc_top hp) ⟨w, nm_r (e' := nI i) (by rw [cp]; exact h0) ⟨w, nm_r (e' := 0) (by rw [cp]; exact h1) (nm_r (yk_ix hf (by omega)) ⟨wi, nm_r (e' := 4) (by rw [ci]; exact hK) ⟨wi, nm_r (e' := rl_K a_ba f i) (by rw [ci]; rfl) (br_f (by decide) (br_f (by decide) (br_f (by decide) (br_f (by decide) (br_f (by decide) (yo_down hb hf hn hp' hi hc fin)))))) ⟩⟩)⟩⟩))
  · exact br_f (nI_ge (b := 4096) ht (by decide)) (br_f (nI_nle (Nat.succ_pos p) (by omega)) (nm_r (e' := nI p) (yc_top hp) ⟨w, nm_r (e' := nI i) (by rw [cp]; exact h0) ⟨w, nm_r (e' := 0) (by rw [cp]; exact h1) (nm_r (yk_ix hf (by omega)) ⟨wi, nm_r (e' := 5) (by rw [ci]; exact hK) ⟨wi, nm_r (e' := rl_K a_ba f i) (by rw [ci]; rfl) (br_f (by decide) (br_f (by decide) (br_f (by decide) (br_f (by decide) (br_f (by decide) (yo_down hb hf hn hp' hi hc fin)))))) ⟩⟩)⟩⟩))
  · exact br_f (nI_ge (b := 4096) ht (by decide)) (br_f (nI_nle (Nat.succ_pos p) (by omega)) (nm_r (e' := nI p) (yc_top hp) ⟨w, nm_r (e' := nI i) (by rw [cp]; exact h0) ⟨w, nm_r (e' := 0) (by rw [cp]; exact h1) (nm_r (yk_ix hf (by omega)) ⟨wi, nm_r (e' := 6) (by rw [ci]; exact hK) ⟨wi, nm_r (e' := rl_K a_ba f i) (by rw [ci]; rfl) (br_f (by decide) (br_f (by decide) (br_f (by decide) (br_f (by decide) (br_f (by decide) (yo_down hb hf hn hp' hi hc fin)))))) ⟩⟩)⟩⟩))
  · exact br_f (nI_ge (b := 4096) ht (by decide)) (br_f (nI_nle (Nat.succ_pos p) (by omega)) (nm_r (e' := nI p) (yc_top hp) ⟨w, nm_r (e' := nI i) (by rw [cp]; exact h0) ⟨w, nm_r (e' := 0) (by rw [cp]; exact h1) (nm_r (yk_ix hf (by omega)) ⟨wi, nm_r (e' := 7) (by rw [ci]; exact hK) ⟨wi, nm_r (e' := rl_K a_ba f i) (by rw [ci]; rfl) (br_f (by decide) (br_f (by decide) (br_f (by decide) (br_f (by decide) (br_f (by decide) (yo_down hb hf hn hp' hi hc fin)))))) ⟩⟩)⟩⟩))
  · exact br_f (nI_ge (b := 4096) ht (by decide)) (br_f (nI_nle (Nat.succ_pos p) (by omega)) (nm_r (e' := nI p) (yc_top hp) ⟨w, nm_r (e' := nI i) (by rw [cp]; exact h0) ⟨w, nm_r (e' := 0) (by rw [cp]; exact h1) (nm_r (yk_ix hf (by omega)) ⟨wi, nm_r (e' := 8) (by rw [ci]; exact hK) ⟨wi, nm_r (e' := rl_K a_ba f i) (by rw [ci]; rfl) (br_f (by decide) (br_f (by decide) (br_f (by decide) (br_t rfl (yi_down hb hf hn hp' hi hc fin))))) ⟩⟩)⟩⟩))
  · obtain ⟨m, hm, em⟩ := (hb.1 i hi).2.2.2.2.2.1
    have hm0 : 0 < m := by
      rw [hcc, hK, bs_cc9, em, nI_clamp (by omega)] at hc; exact hc
    refine br_f (nI_ge (b := 4096) ht (by decide)) (br_f (nI_nle (Nat.succ_pos p) (by omega)) (nm_r (e' := nI p) (yc_top hp) ⟨w, nm_r (e' := nI i) (by rw [cp]; exact h0) ⟨w, nm_r (e' := 0) (by rw [cp]; exact h1) (nm_r (yk_ix hf (by omega)) ⟨wi, nm_r (e' := 9) (by rw [ci]; exact hK) ⟨wi, nm_r (e' := rl_K a_ba f i) (by rw [ci]; rfl) (br_f (by decide) (br_f (by decide) (br_f (by decide) (br_f (by decide) (br_t rfl ⟨wi, ?_⟩))))) ⟩⟩)⟩⟩))
    rw [ci, show a_bb (f * 128 + i) = nI m from em]
    exact yl_down hb hf hn hp' hi hc hm0 hm fin
end
end
section
section
variable {f_n f_cap f_ana f_res f_anyT f_intsT f_wp f_vp f_made f_active f_xp f_curK f_rBot f_rR f_rE0 f_rE1 : Int32} {a_st a_ar a_size a_bk a_ba a_bb a_ds a_tab a_nxt a_wN a_wS a_wF a_vs a_frS a_frP0 a_frP1 a_xN a_xS a_xE0 a_xE1 a_xA a_xB a_xC a_xD a_xE a_xF a_xG : Nat → Int32} {N k n f : Nat} {post : SY → Prop}
theorem yo_bot {Q : SY → Prop} {p i s : Nat} {Z : Nat → Nat → Int32} {κ : Int32} (hs : 0 < s) (hs3 : s < 3) (H : Q (f_n, f_cap, f_ana, f_res, f_anyT, f_intsT, f_wp, f_vp, f_made, f_active, nI p, f_curK, 1, f_rR, f_rE0, f_rE1, a_st, a_ar, a_size, a_bk, a_ba, a_bb, a_ds, a_tab, a_nxt, a_wN, a_wS, a_wF, a_vs, a_frS, a_frP0, a_frP1, Z 0, Z 1, Z 2, Z 3, Z 4, Z 5, Z 6, Z 7, Z 8, Z 9, Z 10)) : wpY_stepOp Q (f_n, f_cap, f_ana, f_res, f_anyT, f_intsT, f_wp, f_vp, f_made, f_active, nI (p + 1), f_curK, 1, f_rR, f_rE0, f_rE1, a_st, a_ar, a_size, a_bk, a_ba, a_bb, a_ds, a_tab, a_nxt, a_wN, a_wS, a_wF, a_vs, a_frS, a_frP0, a_frP1, Z 0, Z 1, Z 2, Z 3, Z 4, Z 5, Z 6, Z 7, Z 8, Z 9, Z 10) (nI f) (nI p) (nI i) (nI s) κ := by
  have s12 : ∀ z0 : Int32, wY_stepOp_12 Q (nI f) (nI p) (nI i) (nI s) κ z0 f_n f_cap f_ana f_res f_anyT f_intsT f_wp f_vp f_made f_active (nI (p + 1)) f_curK 1 f_rR f_rE0 f_rE1 a_st a_ar a_size a_bk a_ba a_bb a_ds a_tab a_nxt a_wN a_wS a_wF a_vs a_frS a_frP0 a_frP1 (Z 0) (Z 1) (Z 2) (Z 3) (Z 4) (Z 5) (Z 6) (Z 7) (Z 8) (Z 9) (Z 10) := fun z0 =>
    br_f (nI_nle hs (by omega)) (br_t rfl (nm_r (nI_pred p) H))
  unfold wpY_stepOp
  dsimp only
  exact br_c (fun _ => s12 1) (fun _ => s12 2)
theorem yi_bot {Q : SY → Prop} {p i : Nat} {Z : Nat → Nat → Int32} (H : Q (f_n, f_cap, f_ana, f_res, f_anyT, f_intsT, f_wp, f_vp, f_made, f_active, nI p, f_curK, 1, f_rR, f_rE0, f_rE1, a_st, a_ar, a_size, a_bk, a_ba, a_bb, a_ds, a_tab, a_nxt, a_wN, a_wS, a_wF, a_vs, a_frS, a_frP0, a_frP1, Z 0, Z 1, Z 2, Z 3, Z 4, Z 5, Z 6, Z 7, Z 8, Z 9, Z 10)) : wpY_stepIf Q (f_n, f_cap, f_ana, f_res, f_anyT, f_intsT, f_wp, f_vp, f_made, f_active, nI (p + 1), f_curK, 1, f_rR, f_rE0, f_rE1, a_st, a_ar, a_size, a_bk, a_ba, a_bb, a_ds, a_tab, a_nxt, a_wN, a_wS, a_wF, a_vs, a_frS, a_frP0, a_frP1, Z 0, Z 1, Z 2, Z 3, Z 4, Z 5, Z 6, Z 7, Z 8, Z 9, Z 10) (nI f) (nI p) (nI i) 1 := by
  unfold wpY_stepIf
  dsimp only
  exact br_f (by decide) (br_t rfl (br_t rfl (nm_r (nI_pred p) H)))
theorem yl_bot {Q : SY → Prop} {p i s : Nat} {Z : Nat → Nat → Int32} {g m : Int32} (hs : 0 < s) (hs3 : s < 3) (H : Q (f_n, f_cap, f_ana, f_res, f_anyT, f_intsT, f_wp, f_vp, f_made, f_active, nI p, f_curK, 1, f_rR, f_rE0, f_rE1, a_st, a_ar, a_size, a_bk, a_ba, a_bb, a_ds, a_tab, a_nxt, a_wN, a_wS, a_wF, a_vs, a_frS, a_frP0, a_frP1, Z 0, Z 1, Z 2, Z 3, Z 4, Z 5, Z 6, Z 7, Z 8, Z 9, Z 10)) : wpY_stepCall Q (f_n, f_cap, f_ana, f_res, f_anyT, f_intsT, f_wp, f_vp, f_made, f_active, nI (p + 1), f_curK, 1, f_rR, f_rE0, f_rE1, a_st, a_ar, a_size, a_bk, a_ba, a_bb, a_ds, a_tab, a_nxt, a_wN, a_wS, a_wF, a_vs, a_frS, a_frP0, a_frP1, Z 0, Z 1, Z 2, Z 3, Z 4, Z 5, Z 6, Z 7, Z 8, Z 9, Z 10) (nI f) (nI p) (nI i) (nI s) g m := by
  unfold wpY_stepCall
  dsimp only
  exact br_f (nI_nle hs (by omega)) (br_t rfl (nm_r (nI_pred p) H))
theorem yr_3 (hb : ab_bd N k n (rl_K a_bk f) (rl_K a_ba f) (rl_K a_bb f) (rl_c (rl_K a_bk f) (rl_K a_bb f))) (hf : f < 8) (hn : n ≤ 128) : ya_R3 n (rl_K a_bk f) (rl_c (rl_K a_bk f) (rl_K a_bb f)) (yc_A post f f_n f_cap f_ana f_res f_anyT f_intsT f_wp f_vp f_made f_active f_xp f_curK f_rBot f_rR f_rE0 f_rE1 a_st a_ar a_size a_bk a_ba a_bb a_ds a_tab a_nxt a_wN a_wS a_wF a_vs a_frS a_frP0 a_frP1 a_xN a_xS a_xE0 a_xE1 a_xA a_xB a_xC a_xD a_xE a_xF a_xG) := by
  intro t p Z r e0 e1 i s ht hp hi h0 h1 hs hs3 hc h8 hk fuel hfu
  obtain ⟨fuel, rfl⟩ : ∃ m, fuel = m + 1 := ⟨fuel - 1, by omega⟩
  have w : vp_in (nI p) 16 := vp_in_nI (by omega) (by decide)
  have cp : (nI p).toNatClampNeg = p := nI_clamp (by omega)
  have wi : vp_in (nI (f * 128 + i)) 1024 := vp_in_nI (by omega) (by decide)
  have ci : (nI (f * 128 + i)).toNatClampNeg = f * 128 + i := nI_clamp (by omega)
  have fin : ∀ x : Int32, x = nI t + 1 → wY_absEval_53 post (nI f) fuel x f_n f_cap f_ana f_res f_anyT f_intsT f_wp f_vp f_made f_active (nI p) f_curK 1 r e0 e1 a_st a_ar a_size a_bk a_ba a_bb a_ds a_tab a_nxt a_wN a_wS a_wF a_vs a_frS a_frP0 a_frP1 (Z 0) (Z 1) (Z 2) (Z 3) (Z 4) (Z 5) (Z 6) (Z 7) (Z 8) (Z 9) (Z 10) := nm_r (nI_1 t) (hk fuel (by omega))
  have hcc : (rl_c (rl_K a_bk f) (rl_K a_bb f)) i = bs_cc (rl_K a_bk f i) (rl_K a_bb f i) := rfl
  rcases bd_10 (hb.1 i hi) with hK | hK | hK | hK | hK | hK | hK | hK | hK | hK
  · rw [hcc, hK, bs_cc0] at hc; omega
  · rw [hcc, hK, bs_cc1] at hc; omega
  · rw [hcc, hK, bs_cc2] at hc; omega
  · exact br_f (nI_ge (b := 4096) ht (by decide)) (br_f (nI_nle (Nat.succ_pos p) (by omega)) (nm_r (e' := nI p) (yc_top hp) ⟨w, nm_r (e' := nI i) (by rw [cp]; exact h0) ⟨w, nm_r (e' := nI s) (by rw [cp]; exact h1) (nm_r (yk_ix hf (by omega)) ⟨wi, nm_r (e' := 3) (by rw [ci]; exact hK) ⟨wi, nm_r (e' := rl_K a_ba f i) (by rw [ci]; rfl) (br_f (by decide) (br_f (by decide) (br_f (by decide) (br_f (by decide) (br_f (by decide) (yo_bot hs hs3 fin)))))) ⟩⟩)⟩⟩))
  · exact br_f (nI_ge (b := 4096) ht (by decide)) (br_f (nI_nle (Nat.succ_pos p) (by omega)) (nm_r (e' := nI p) (yc_top hp) ⟨w, nm_r (e' := nI i) (by rw [cp]; exact h0) ⟨w, nm_r (e' := nI s) (by rw [cp]; exact h1) (nm_r (yk_ix hf (by omega)) ⟨wi, nm_r (e' := 4) (by rw [ci]; exact hK) ⟨wi, nm_r (e' := rl_K a_ba f i) (by rw [ci]; rfl) (br_f (by decide) (br_f (by decide) (br_f (by decide) (br_f (by decide) (br_f (by decide) (yo_bot hs hs3 fin)))))) ⟩⟩)⟩⟩))
  · exact br_f (nI_ge (b := 4096) ht (by decide)) (br_f (nI_nle (Nat.succ_pos p) (by omega)) (nm_r (e' := nI p) (yc_top hp) ⟨w, nm_r (e' := nI i) (by rw [cp]; exact h0) ⟨w, nm_r (e' := nI s) (by rw [cp]; exact h1) (nm_r (yk_ix hf (by omega)) ⟨wi, nm_r (e' := 5) (by rw [ci]; exact hK) ⟨wi, nm_r (e' := rl_K a_ba f i) (by rw [ci]; rfl) (br_f (by decide) (br_f (by decide) (br_f (by decide) (br_f (by decide) (br_f (by decide) (yo_bot hs hs3 fin)))))) ⟩⟩)⟩⟩))
  · exact br_f (nI_ge (b := 4096) ht (by decide)) (br_f (nI_nle (Nat.succ_pos p) (by omega)) (nm_r (e' := nI p) (yc_top hp) ⟨w, nm_r (e' := nI i) (by rw [cp]; exact h0) ⟨w, nm_r (e' := nI s) (by rw [cp]; exact h1) (nm_r (yk_ix hf (by omega)) ⟨wi, nm_r (e' := 6) (by rw [ci]; exact hK) ⟨wi, nm_r (e' := rl_K a_ba f i) (by rw [ci]; rfl) (br_f (by decide) (br_f (by decide) (br_f (by decide) (br_f (by decide) (br_f (by decide) (yo_bot hs hs3 fin)))))) ⟩⟩)⟩⟩))
  · exact br_f (nI_ge (b := 4096) ht (by decide)) (br_f (nI_nle (Nat.succ_pos p) (by omega)) (nm_r (e' := nI p) (yc_top hp) ⟨w, nm_r (e' := nI i) (by rw [cp]; exact h0) ⟨w, nm_r (e' := nI s) (by rw [cp]; exact h1) (nm_r (yk_ix hf (by omega)) ⟨wi, nm_r (e' := 7) (by rw [ci]; exact hK) ⟨wi, nm_r (e' := rl_K a_ba f i) (by rw [ci]; rfl) (br_f (by decide) (br_f (by decide) (br_f (by decide) (br_f (by decide) (br_f (by decide) (yo_bot hs hs3 fin)))))) ⟩⟩)⟩⟩))
  · rw [h8 hK] at h1
    exact br_f (nI_ge (b := 4096) ht (by decide)) (br_f (nI_nle (Nat.succ_pos p) (by omega)) (nm_r (e' := nI p) (yc_top hp) ⟨w, nm_r (e' := nI i) (by rw [cp]; exact h0) ⟨w, nm_r (e' := 1) (by rw [cp]; exact h1) (nm_r (yk_ix hf (by omega)) ⟨wi, nm_r (e' := 8) (by rw [ci]; exact hK) ⟨wi, nm_r (e' := rl_K a_ba f i) (by rw [ci]; rfl) (br_f (by decide) (br_f (by decide) (br_f (by decide) (br_t rfl (yi_bot fin))))) ⟩⟩)⟩⟩))
  · exact br_f (nI_ge (b := 4096) ht (by decide)) (br_f (nI_nle (Nat.succ_pos p) (by omega)) (nm_r (e' := nI p) (yc_top hp) ⟨w, nm_r (e' := nI i) (by rw [cp]; exact h0) ⟨w, nm_r (e' := nI s) (by rw [cp]; exact h1) (nm_r (yk_ix hf (by omega)) ⟨wi, nm_r (e' := 9) (by rw [ci]; exact hK) ⟨wi, nm_r (e' := rl_K a_ba f i) (by rw [ci]; rfl) (br_f (by decide) (br_f (by decide) (br_f (by decide) (br_f (by decide) (br_t rfl ⟨wi, yl_bot hs hs3 fin⟩))))) ⟩⟩)⟩⟩))
theorem yo_sec {Q : SY → Prop} {p i : Nat} {Z : Nat → Nat → Int32} {κ r e0 e1 : Int32} (hb : ab_bd N k n (rl_K a_bk f) (rl_K a_ba f) (rl_K a_bb f) (rl_c (rl_K a_bk f) (rl_K a_bb f))) (hf : f < 8) (hn : n ≤ 128) (hp : p < 15) (hi : i < n) (hc : (rl_c (rl_K a_bk f) (rl_K a_bb f)) i = 2) (h7 : ¬ κ = 7)
    (H : ∀ Z', Z' = ya_push (ya_z (ya_z Z 4 p r) 1 p 2) (p + 1) (bs_ch (rl_c (rl_K a_bk f) (rl_K a_bb f)) i 1) e0 e1 → Q (f_n, f_cap, f_ana, f_res, f_anyT, f_intsT, f_wp, f_vp, f_made, f_active, nI (p + 2), f_curK, 0, r, e0, e1, a_st, a_ar, a_size, a_bk, a_ba, a_bb, a_ds, a_tab, a_nxt, a_wN, a_wS, a_wF, a_vs, a_frS, a_frP0, a_frP1, Z' 0, Z' 1, Z' 2, Z' 3, Z' 4, Z' 5, Z' 6, Z' 7, Z' 8, Z' 9, Z' 10)) : wpY_stepOp Q (f_n, f_cap, f_ana, f_res, f_anyT, f_intsT, f_wp, f_vp, f_made, f_active, nI (p + 1), f_curK, 0, r, e0, e1, a_st, a_ar, a_size, a_bk, a_ba, a_bb, a_ds, a_tab, a_nxt, a_wN, a_wS, a_wF, a_vs, a_frS, a_frP0, a_frP1, Z 0, Z 1, Z 2, Z 3, Z 4, Z 5, Z 6, Z 7, Z 8, Z 9, Z 10) (nI f) (nI p) (nI i) 1 κ := by
  have w : vp_in (nI p) 16 := vp_in_nI (by omega) (by decide)
  have cp : (nI p).toNatClampNeg = p := nI_clamp (by omega)
  unfold wpY_stepOp
  dsimp only
  refine br_f h7 (br_f (by decide) (br_f (by decide) (br_f (by decide) (br_t rfl (br_t rfl ⟨w, nm_r (e' := upd (Z 4) p r) (by rw [cp]) ⟨w, nm_r (e' := upd (Z 1) p 2) (by rw [cp]) ?_⟩⟩)))))
  refine yk_cp (j := 1) hf hn hb hi (by omega) ?_
  exact yc_push (Z := ya_z (ya_z Z 4 p r) 1 p 2) (p := p + 1) (by omega) (H _ rfl)
theorem yl_sec {Q : SY → Prop} {p i : Nat} {Z : Nat → Nat → Int32} {g r e0 e1 : Int32} (hb : ab_bd N k n (rl_K a_bk f) (rl_K a_ba f) (rl_K a_bb f) (rl_c (rl_K a_bk f) (rl_K a_bb f))) (hf : f < 8) (hn : n ≤ 128) (hp : p < 15) (hi : i < n) (hc : (rl_c (rl_K a_bk f) (rl_K a_bb f)) i = 2)
    (H : ∀ Z', Z' = ya_push (ya_z (ya_z Z 4 p r) 1 p 2) (p + 1) (bs_ch (rl_c (rl_K a_bk f) (rl_K a_bb f)) i 1) e0 e1 → Q (f_n, f_cap, f_ana, f_res, f_anyT, f_intsT, f_wp, f_vp, f_made, f_active, nI (p + 2), f_curK, 0, r, e0, e1, a_st, a_ar, a_size, a_bk, a_ba, a_bb, a_ds, a_tab, a_nxt, a_wN, a_wS, a_wF, a_vs, a_frS, a_frP0, a_frP1, Z' 0, Z' 1, Z' 2, Z' 3, Z' 4, Z' 5, Z' 6, Z' 7, Z' 8, Z' 9, Z' 10)) : wpY_stepCall Q (f_n, f_cap, f_ana, f_res, f_anyT, f_intsT, f_wp, f_vp, f_made, f_active, nI (p + 1), f_curK, 0, r, e0, e1, a_st, a_ar, a_size, a_bk, a_ba, a_bb, a_ds, a_tab, a_nxt, a_wN, a_wS, a_wF, a_vs, a_frS, a_frP0, a_frP1, Z 0, Z 1, Z 2, Z 3, Z 4, Z 5, Z 6, Z 7, Z 8, Z 9, Z 10) (nI f) (nI p) (nI i) 1 g 2 := by
  have w : vp_in (nI p) 16 := vp_in_nI (by omega) (by decide)
  have cp : (nI p).toNatClampNeg = p := nI_clamp (by omega)
  unfold wpY_stepCall
  dsimp only
  refine br_f (by decide) (br_f (by decide) (br_f (by decide) (br_t rfl ⟨w, nm_r (e' := upd (Z 4) p r) (by rw [cp]) ⟨w, nm_r (e' := upd (Z 1) p 2) (by rw [cp]; rfl) ?_⟩⟩)))
  refine yk_cp (j := 1) hf hn hb hi (by omega) (br_f (by decide) ?_)
  exact yc_push (Z := ya_z (ya_z Z 4 p r) 1 p 2) (p := p + 1) (by omega) (H _ rfl)
theorem yr_4 (hb : ab_bd N k n (rl_K a_bk f) (rl_K a_ba f) (rl_K a_bb f) (rl_c (rl_K a_bk f) (rl_K a_bb f))) (hf : f < 8) (hn : n ≤ 128) : ya_R4 n (rl_c (rl_K a_bk f) (rl_K a_bb f)) (yc_A post f f_n f_cap f_ana f_res f_anyT f_intsT f_wp f_vp f_made f_active f_xp f_curK f_rBot f_rR f_rE0 f_rE1 a_st a_ar a_size a_bk a_ba a_bb a_ds a_tab a_nxt a_wN a_wS a_wF a_vs a_frS a_frP0 a_frP1 a_xN a_xS a_xE0 a_xE1 a_xA a_xB a_xC a_xD a_xE a_xF a_xG) := by
  intro t p Z r e0 e1 i ht hp' hi h0 h1 hc hk fuel hfu
  have hp : p < 16 := by omega
  obtain ⟨fuel, rfl⟩ : ∃ m, fuel = m + 1 := ⟨fuel - 1, by omega⟩
  have w : vp_in (nI p) 16 := vp_in_nI (by omega) (by decide)
  have cp : (nI p).toNatClampNeg = p := nI_clamp (by omega)
  have wi : vp_in (nI (f * 128 + i)) 1024 := vp_in_nI (by omega) (by decide)
  have ci : (nI (f * 128 + i)).toNatClampNeg = f * 128 + i := nI_clamp (by omega)
  have fin : ∀ Z' : Nat → Nat → Int32, Z' = ya_push (ya_z (ya_z Z 4 p r) 1 p 2) (p + 1) (bs_ch (rl_c (rl_K a_bk f) (rl_K a_bb f)) i 1) e0 e1 → ∀ x : Int32, x = nI t + 1 → wY_absEval_53 post (nI f) fuel x f_n f_cap f_ana f_res f_anyT f_intsT f_wp f_vp f_made f_active (nI (p + 2)) f_curK 0 r e0 e1 a_st a_ar a_size a_bk a_ba a_bb a_ds a_tab a_nxt a_wN a_wS a_wF a_vs a_frS a_frP0 a_frP1 (Z' 0) (Z' 1) (Z' 2) (Z' 3) (Z' 4) (Z' 5) (Z' 6) (Z' 7) (Z' 8) (Z' 9) (Z' 10) := by
    intro Z' eZ
    subst eZ
    exact nm_r (nI_1 t) (hk fuel (by omega))
  have hcc : (rl_c (rl_K a_bk f) (rl_K a_bb f)) i = bs_cc (rl_K a_bk f i) (rl_K a_bb f i) := rfl
  rcases bd_10 (hb.1 i hi) with hK | hK | hK | hK | hK | hK | hK | hK | hK | hK
  · rw [hcc, hK, bs_cc0] at hc; omega
  · rw [hcc, hK, bs_cc1] at hc; omega
  · rw [hcc, hK, bs_cc2] at hc; omega
  · exact br_f (nI_ge (b := 4096) ht (by decide)) (br_f (nI_nle (Nat.succ_pos p) (by omega)) (nm_r (e' := nI p) (yc_top hp) ⟨w, nm_r (e' := nI i) (by rw [cp]; exact h0) ⟨w, nm_r (e' := 1) (by rw [cp]; exact h1) (nm_r (yk_ix hf (by omega)) ⟨wi, nm_r (e' := 3) (by rw [ci]; exact hK) ⟨wi, nm_r (e' := rl_K a_ba f i) (by rw [ci]; rfl) (br_f (by decide) (br_f (by decide) (br_f (by decide) (br_f (by decide) (br_f (by decide) (yo_sec hb hf hn hp' hi hc (by decide) fin)))))) ⟩⟩)⟩⟩))
  · exact br_f (nI_ge (b := 4096) ht (by decide)) (br_f (nI_nle (Nat.succ_pos p) (by omega)) (nm_r (e' := nI p) (yc_top hp) ⟨w, nm_r (e' := nI i) (by rw [cp]; exact h0) ⟨w, nm_r (e' := 1) (by rw [cp]; exact h1) (nm_r (yk_ix hf (by omega)) ⟨wi, nm_r (e' := 4) (by rw [ci]; exact hK) ⟨wi, nm_r (e' := rl_K a_ba f i) (by rw [ci]; rfl) (br_f (by decide) (br_f (by decide) (br_f (by decide) (br_f (by decide) (br_f (by decide) (yo_sec hb hf hn hp' hi hc (by decide) fin)))))) ⟩⟩)⟩⟩))
  · exact br_f (nI_ge (b := 4096) ht (by decide)) (br_f (nI_nle (Nat.succ_pos p) (by omega)) (nm_r (e' := nI p) (yc_top hp) ⟨w, nm_r (e' := nI i) (by rw [cp]; exact h0) ⟨w, nm_r (e' := 1) (by rw [cp]; exact h1) (nm_r (yk_ix hf (by omega)) ⟨wi, nm_r (e' := 5) (by rw [ci]; exact hK) ⟨wi, nm_r (e' := rl_K a_ba f i) (by rw [ci]; rfl) (br_f (by decide) (br_f (by decide) (br_f (by decide) (br_f (by decide) (br_f (by decide) (yo_sec hb hf hn hp' hi hc (by decide) fin)))))) ⟩⟩)⟩⟩))
  · exact br_f (nI_ge (b := 4096) ht (by decide)) (br_f (nI_nle (Nat.succ_pos p) (by omega)) (nm_r (e' := nI p) (yc_top hp) ⟨w, nm_r (e' := nI i) (by rw [cp]; exact h0) ⟨w, nm_r (e' := 1) (by rw [cp]; exact h1) (nm_r (yk_ix hf (by omega)) ⟨wi, nm_r (e' := 6) (by rw [ci]; exact hK) ⟨wi, nm_r (e' := rl_K a_ba f i) (by rw [ci]; rfl) (br_f (by decide) (br_f (by decide) (br_f (by decide) (br_f (by decide) (br_f (by decide) (yo_sec hb hf hn hp' hi hc (by decide) fin)))))) ⟩⟩)⟩⟩))
  · rw [hcc, hK, bs_cc7] at hc; omega
  · rw [hcc, hK, bs_cc8] at hc; omega
  · have e2 : a_bb (f * 128 + i) = 2 := by
      have h9 := ab_c9 hb hK
      rcases ab_B hb hi with z | z | z
      · rw [z] at h9; rw [hc] at h9; exact absurd h9 (by decide)
      · rw [z] at h9; rw [hc] at h9; exact absurd h9 (by decide)
      · exact z
    refine br_f (nI_ge (b := 4096) ht (by decide)) (br_f (nI_nle (Nat.succ_pos p) (by omega)) (nm_r (e' := nI p) (yc_top hp) ⟨w, nm_r (e' := nI i) (by rw [cp]; exact h0) ⟨w, nm_r (e' := 1) (by rw [cp]; exact h1) (nm_r (yk_ix hf (by omega)) ⟨wi, nm_r (e' := 9) (by rw [ci]; exact hK) ⟨wi, nm_r (e' := rl_K a_ba f i) (by rw [ci]; rfl) (br_f (by decide) (br_f (by decide) (br_f (by decide) (br_f (by decide) (br_t rfl ⟨wi, ?_⟩))))) ⟩⟩)⟩⟩))
    rw [ci, e2]
    exact yl_sec hb hf hn hp' hi hc fin
theorem yo_isi {Q : SY → Prop} {p i : Nat} {Z : Nat → Nat → Int32} {x : ty_T} {e : ab_E} (hk2 : k ≤ 2) (ox : ty_ok x) (he : ab_eo k e)
    (H : ya_k (fun b r e0 e1 => Q (f_n, f_cap, f_ana, f_res, f_anyT, f_intsT, f_wp, f_vp, f_made, f_active, nI p, nI k, b, r, e0, e1, a_st, a_ar, a_size, a_bk, a_ba, a_bb, a_ds, a_tab, a_nxt, a_wN, a_wS, a_wF, a_vs, a_frS, a_frP0, a_frP1, Z 0, Z 1, Z 2, Z 3, Z 4, Z 5, Z 6, Z 7, Z 8, Z 9, Z 10)) (ab_fin ((if x.1 = 0 then 0 else 1) + (if x.2.1 = 0 then 0 else 2), 0, 0) e)) :
    wpY_stepOp Q (f_n, f_cap, f_ana, f_res, f_anyT, f_intsT, f_wp, f_vp, f_made, f_active, nI (p + 1), nI k, 0, ty_y x, ty_y e.1, ty_y e.2, a_st, a_ar, a_size, a_bk, a_ba, a_bb, a_ds, a_tab, a_nxt, a_wN, a_wS, a_wF, a_vs, a_frS, a_frP0, a_frP1, Z 0, Z 1, Z 2, Z 3, Z 4, Z 5, Z 6, Z 7, Z 8, Z 9, Z 10) (nI f) (nI p) (nI i) 1 7 := by
  have om := ox.1
  have fin : ∀ m : Nat, m < 256 → m = (if x.1 = 0 then 0 else 1) + (if x.2.1 = 0 then 0 else 2) → wY_stepOp_185 Q (nI m) f_n f_cap f_ana f_res f_anyT f_intsT f_wp f_vp f_made f_active (nI p) (nI k) 0 (ty_y x) (ty_y e.1) (ty_y e.2) a_st a_ar a_size a_bk a_ba a_bb a_ds a_tab a_nxt a_wN a_wS a_wF a_vs a_frS a_frP0 a_frP1 (Z 0) (Z 1) (Z 2) (Z 3) (Z 4) (Z 5) (Z 6) (Z 7) (Z 8) (Z 9) (Z 10) := by
    intro m hm em
    rw [← em] at H
    exact yc_set (r := (m, 0, 0)) hk2 (ab_lit_ok hm) he H
  unfold wpY_stepOp
  dsimp only
  refine br_t rfl (br_f (by decide) (br_f (by decide) (br_f (by decide) (br_t rfl (br_f (by decide) (nm_r (nI_pred p) (br_t rfl ?_)))))))
  rw [ty_ym ox]
  by_cases z : x.1 = 0
  · rw [z]
    refine br_t nI_0 ?_
    refine yt_has ox (fun q => br_t rfl (fin 0 (by decide) (by rw [if_pos z, if_pos q]))) (fun q => br_f (by decide) (nm_e (fin 2 (by decide) (by rw [if_pos z, if_neg q]))))
  · refine br_f (nI_ne0 (by omega) (by omega)) (nm_r (e' := 1) (by decide) ?_)
    refine yt_has ox (fun q => br_t rfl (fin 1 (by decide) (by rw [if_neg z, if_pos q]))) (fun q => br_f (by decide) (nm_e (fin 3 (by decide) (by rw [if_neg z, if_neg q]))))
theorem yr_5 (hb : ab_bd N k n (rl_K a_bk f) (rl_K a_ba f) (rl_K a_bb f) (rl_c (rl_K a_bk f) (rl_K a_bb f))) (hk2 : k ≤ 2) (hf : f < 8) (hn : n ≤ 128) : ya_R5 k n (rl_K a_bk f) (yc_A post f f_n f_cap f_ana f_res f_anyT f_intsT f_wp f_vp f_made f_active f_xp (nI k) f_rBot f_rR f_rE0 f_rE1 a_st a_ar a_size a_bk a_ba a_bb a_ds a_tab a_nxt a_wN a_wS a_wF a_vs a_frS a_frP0 a_frP1 a_xN a_xS a_xE0 a_xE1 a_xA a_xB a_xC a_xD a_xE a_xF a_xG) := by
  intro t p Z i x e ht hp hi h0 h1 hK ox he hk fuel hfu
  obtain ⟨fuel, rfl⟩ : ∃ m, fuel = m + 1 := ⟨fuel - 1, by omega⟩
  have w : vp_in (nI p) 16 := vp_in_nI (by omega) (by decide)
  have cp : (nI p).toNatClampNeg = p := nI_clamp (by omega)
  have wi : vp_in (nI (f * 128 + i)) 1024 := vp_in_nI (by omega) (by decide)
  have ci : (nI (f * 128 + i)).toNatClampNeg = f * 128 + i := nI_clamp (by omega)
  exact br_f (nI_ge (b := 4096) ht (by decide)) (br_f (nI_nle (Nat.succ_pos p) (by omega)) (nm_r (e' := nI p) (yc_top hp) ⟨w, nm_r (e' := nI i) (by rw [cp]; exact h0) ⟨w, nm_r (e' := 1) (by rw [cp]; exact h1) (nm_r (yk_ix hf (by omega)) ⟨wi, nm_r (e' := 7) (by rw [ci]; exact hK) ⟨wi, nm_r (e' := rl_K a_ba f i) (by rw [ci]; rfl) (br_f (by decide) (br_f (by decide) (br_f (by decide) (br_f (by decide) (br_f (by decide) (yo_isi hk2 ox he (ya_k_imp (fun b r e0 e1 h => nm_r (nI_1 t) (h fuel (by omega))) hk))))))) ⟩⟩)⟩⟩))
end
end
section
def yc_q (post : SY → Prop) (f t fuel : Nat) : SY → Prop := fun u => match u with
  | (f_n, f_cap, f_ana, f_res, f_anyT, f_intsT, f_wp, f_vp, f_made, f_active, f_xp, f_curK, f_rBot, f_rR, f_rE0, f_rE1, a_st, a_ar, a_size, a_bk, a_ba, a_bb, a_ds, a_tab, a_nxt, a_wN, a_wS, a_wF, a_vs, a_frS, a_frP0, a_frP1, a_xN, a_xS, a_xE0, a_xE1, a_xA, a_xB, a_xC, a_xD, a_xE, a_xF, a_xG) => ∀ x : Int32, x = nI t + 1 → wY_absEval_53 post (nI f) fuel x f_n f_cap f_ana f_res f_anyT f_intsT f_wp f_vp f_made f_active f_xp f_curK f_rBot f_rR f_rE0 f_rE1 a_st a_ar a_size a_bk a_ba a_bb a_ds a_tab a_nxt a_wN a_wS a_wF a_vs a_frS a_frP0 a_frP1 a_xN a_xS a_xE0 a_xE1 a_xA a_xB a_xC a_xD a_xE a_xF a_xG
section
variable {f_n f_cap f_ana f_res f_anyT f_intsT f_wp f_vp f_made f_active f_xp f_curK f_rBot f_rR f_rE0 f_rE1 : Int32} {a_st a_ar a_size a_bk a_ba a_bb a_ds a_tab a_nxt a_wN a_wS a_wF a_vs a_frS a_frP0 a_frP1 a_xN a_xS a_xE0 a_xE1 a_xA a_xB a_xC a_xD a_xE a_xF a_xG : Nat → Int32} {N k n f : Nat} {post : SY → Prop}
/-- the reference's narrowing of a parameter that a child names -/
theorem yn_nar {C : Int32 → Int32 → Prop} {i j : Nat} (hb : ab_bd N k n (rl_K a_bk f) (rl_K a_ba f) (rl_K a_bb f) (rl_c (rl_K a_bk f) (rl_K a_bb f))) (hf : f < 8) (hn : n ≤ 128) (hi : i < n) (hj : j < (rl_c (rl_K a_bk f) (rl_K a_bb f)) i) {e : ab_E} {q : ty_T} (he : xa_e e) (oq : ty_ok q)
    (H : C (ty_y (ab_nv (rl_K a_bk f) (rl_K a_ba f) (bs_ch (rl_c (rl_K a_bk f) (rl_K a_bb f)) i j) q e).1) (ty_y (ab_nv (rl_K a_bk f) (rl_K a_ba f) (bs_ch (rl_c (rl_K a_bk f) (rl_K a_bb f)) i j) q e).2)) :
    wpY_childPos (fun r => wpY_kindAt (fun κ => ((κ = 2 → wpY_opA (fun a => ((a = 0 → wpY_meet (fun s => C s (ty_y e.2)) (f_n, f_cap, f_ana, f_res, f_anyT, f_intsT, f_wp, f_vp, f_made, f_active, f_xp, f_curK, f_rBot, f_rR, f_rE0, f_rE1, a_st, a_ar, a_size, a_bk, a_ba, a_bb, a_ds, a_tab, a_nxt, a_wN, a_wS, a_wF, a_vs, a_frS, a_frP0, a_frP1, a_xN, a_xS, a_xE0, a_xE1, a_xA, a_xB, a_xC, a_xD, a_xE, a_xF, a_xG) (ty_y e.1) (ty_y q)) ∧ (¬ a = 0 → wpY_meet (fun s => C (ty_y e.1) s) (f_n, f_cap, f_ana, f_res, f_anyT, f_intsT, f_wp, f_vp, f_made, f_active, f_xp, f_curK, f_rBot, f_rR, f_rE0, f_rE1, a_st, a_ar, a_size, a_bk, a_ba, a_bb, a_ds, a_tab, a_nxt, a_wN, a_wS, a_wF, a_vs, a_frS, a_frP0, a_frP1, a_xN, a_xS, a_xE0, a_xE1, a_xA, a_xB, a_xC, a_xD, a_xE, a_xF, a_xG) (ty_y e.2) (ty_y q)))) (f_n, f_cap, f_ana, f_res, f_anyT, f_intsT, f_wp, f_vp, f_made, f_active, f_xp, f_curK, f_rBot, f_rR, f_rE0, f_rE1, a_st, a_ar, a_size, a_bk, a_ba, a_bb, a_ds, a_tab, a_nxt, a_wN, a_wS, a_wF, a_vs, a_frS, a_frP0, a_frP1, a_xN, a_xS, a_xE0, a_xE1, a_xA, a_xB, a_xC, a_xD, a_xE, a_xF, a_xG) (nI f) r) ∧ (¬ κ = 2 → C (ty_y e.1) (ty_y e.2)))) (f_n, f_cap, f_ana, f_res, f_anyT, f_intsT, f_wp, f_vp, f_made, f_active, f_xp, f_curK, f_rBot, f_rR, f_rE0, f_rE1, a_st, a_ar, a_size, a_bk, a_ba, a_bb, a_ds, a_tab, a_nxt, a_wN, a_wS, a_wF, a_vs, a_frS, a_frP0, a_frP1, a_xN, a_xS, a_xE0, a_xE1, a_xA, a_xB, a_xC, a_xD, a_xE, a_xF, a_xG) (nI f) r) (f_n, f_cap, f_ana, f_res, f_anyT, f_intsT, f_wp, f_vp, f_made, f_active, f_xp, f_curK, f_rBot, f_rR, f_rE0, f_rE1, a_st, a_ar, a_size, a_bk, a_ba, a_bb, a_ds, a_tab, a_nxt, a_wN, a_wS, a_wF, a_vs, a_frS, a_frP0, a_frP1, a_xN, a_xS, a_xE0, a_xE1, a_xA, a_xB, a_xC, a_xD, a_xE, a_xF, a_xG) (nI f) (nI i) (nI j) := by
  have lt := bs_ch_lt hb.2.2 hi hj
  refine yk_cp hf hn hb hi hj (yk_kind hf (by omega) ?_)
  unfold ab_nv at H
  by_cases z : rl_K a_bk f (bs_ch (rl_c (rl_K a_bk f) (rl_K a_bb f)) i j) = 2
  · rw [if_pos z] at H
    refine br_t z (yk_opA hf (by omega) ?_)
    by_cases y : rl_K a_ba f (bs_ch (rl_c (rl_K a_bk f) (rl_K a_bb f)) i j) = 0
    · rw [if_pos y] at H
      exact br_t y (yt_meet he.1 oq H)
    · rw [if_neg y] at H
      exact br_f y (yt_meet he.2 oq H)
  · rw [if_neg z] at H
    exact br_f z H
theorem xa_eo_xe {k : Nat} {e : ab_E} (h : ab_eo k e) : xa_e e := ⟨h.1, h.2.1⟩
theorem yo_400 {Q : SY → Prop} {κ : Int32} {x y : ty_T} {e : ab_E} (hk2 : k ≤ 2) (ox : ty_ok x) (oy : ty_ok y) (x0 : ¬ x.2.1 = 0) (y0 : ¬ y.2.1 = 0) (he : ab_eo k e) (hK : κ = 3 ∨ κ = 4 ∨ κ = 5)
    (H : ya_k (fun b r e0 e1 => Q (f_n, f_cap, f_ana, f_res, f_anyT, f_intsT, f_wp, f_vp, f_made, f_active, f_xp, nI k, b, r, e0, e1, a_st, a_ar, a_size, a_bk, a_ba, a_bb, a_ds, a_tab, a_nxt, a_wN, a_wS, a_wF, a_vs, a_frS, a_frP0, a_frP1, a_xN, a_xS, a_xE0, a_xE1, a_xA, a_xB, a_xC, a_xD, a_xE, a_xF, a_xG)) (ab_fin (ab_num κ x y) e)) : wY_stepOp_400 Q κ (ty_y x) (ty_y y) (ty_y e.1) (ty_y e.2) f_n f_cap f_ana f_res f_anyT f_intsT f_wp f_vp f_made f_active f_xp (nI k) f_rBot f_rR f_rE0 f_rE1 a_st a_ar a_size a_bk a_ba a_bb a_ds a_tab a_nxt a_wN a_wS a_wF a_vs a_frS a_frP0 a_frP1 a_xN a_xS a_xE0 a_xE1 a_xA a_xB a_xC a_xD a_xE a_xF a_xG := by
  have x1 := ty_ok_l ox
  have x2 := ty_ok_h ox
  have y1 := ty_ok_l oy
  have y2 := ty_ok_h oy
  have u0 := ty_ok_0 ox
  have v0 := ty_ok_0 oy
  have ex := ty_lh ox x0
  have ey := ty_lh oy y0
  have b1 := ty_lv_8 (l := x.2.1) (by omega)
  have b2 := ty_lv_8 (l := y.2.1) (by omega)
  have b3 := ty_hv_8 (l := x.2.2) (by omega)
  have b4 := ty_hv_8 (l := y.2.2) (by omega)
  have nok := ab_num_ok (k := κ) ox oy x0 y0
  have fin : ∀ r : Int32, r = ty_y (ab_num κ x y) → wY_stepOp_527 Q (ty_y e.1) (ty_y e.2) r f_n f_cap f_ana f_res f_anyT f_intsT f_wp f_vp f_made f_active f_xp (nI k) f_rBot f_rR f_rE0 f_rE1 a_st a_ar a_size a_bk a_ba a_bb a_ds a_tab a_nxt a_wN a_wS a_wF a_vs a_frS a_frP0 a_frP1 a_xN a_xS a_xE0 a_xE1 a_xA a_xB a_xC a_xD a_xE a_xF a_xG := by
    intro r er
    rw [er]
    exact yc_set hk2 nok he H
  rcases hK with k3 | k4 | k5
  · have e1 := ty_lw_add x.2.1 (by omega) y.2.1 (by omega)
    have e2 := ty_hw_add x.2.2 (by omega) y.2.2 (by omega)
    have en : ab_num κ x y = (0, ty_rl (ty_lv x.2.1 + ty_lv y.2.1), ty_rh (ty_hv x.2.2 + ty_hv y.2.2)) := by unfold ab_num; rw [if_pos k3]
    rw [en, ← e1, ← e2] at fin
    subst k3
    refine br_t rfl (yt_lo ox x0 (yt_lo oy y0 (yt_hi ox x0 (yt_hi oy y0 (yt_range (by omega) (by omega) (by omega) ?_)))))
    exact br_f (by decide) (br_f (by decide) (fin _ rfl))
  · have e1 := ty_lh_sub x.2.1 (by omega) y.2.2 (by omega)
    have e2 := ty_hl_sub x.2.2 (by omega) y.2.1 (by omega)
    have en : ab_num κ x y = (0, ty_rl (ty_lv x.2.1 - ty_hv y.2.2), ty_rh (ty_hv x.2.2 - ty_lv y.2.1)) := by unfold ab_num; rw [if_neg (by rw [k4]; decide), if_pos k4]
    rw [en, ← e1, ← e2] at fin
    subst k4
    refine br_f (by decide) (br_t rfl (yt_lo ox x0 (yt_hi oy y0 (yt_hi ox x0 (yt_lo oy y0 (yt_range (by omega) (by omega) (by omega) ?_))))))
    exact br_f (by decide) (fin _ rfl)
  · have en : ab_num κ x y = ((if ty_lv x.2.1 < ty_hv y.2.2 then 2 else 0) + (if ty_lv y.2.1 ≤ ty_hv x.2.2 then 1 else 0), 0, 0) := by unfold ab_num; rw [if_neg (by rw [k5]; decide), if_neg (by rw [k5]; decide)]
    rw [en] at fin
    subst k5
    have t1 := ty_lw_t x.2.1 (by omega)
    have t2 := ty_hw_t x.2.2 (by omega)
    have t3 := ty_lw_t y.2.1 (by omega)
    have t4 := ty_hw_t y.2.2 (by omega)
    refine br_f (by decide) (br_f (by decide) (br_t rfl (yt_lo ox x0 (yt_hi oy y0 ?_))))
    by_cases c : ty_hw y.2.2 ≤ ty_lw x.2.1
    · have c' := c
      rw [Int32.le_iff_toInt_le, t1, t4] at c'
      rw [if_neg (by omega)] at fin
      refine br_t c (yt_hi ox x0 (yt_lo oy y0 ?_))
      by_cases d : ty_hw x.2.2 < ty_lw y.2.1
      · have d' := d
        rw [Int32.lt_iff_toInt_lt, t2, t3] at d'
        rw [if_neg (by omega)] at fin
        exact br_t d (fin 0 rfl)
      · have d' := d
        rw [Int32.lt_iff_toInt_lt, t2, t3] at d'
        rw [if_pos (by omega)] at fin
        exact br_f d (nm_r (e' := 1) (by decide) (fin 1 rfl))
    · have c' := c
      rw [Int32.le_iff_toInt_le, t1, t4] at c'
      rw [if_pos (by omega)] at fin
      refine br_f c (nm_r (e' := 2) (by decide) (yt_hi ox x0 (yt_lo oy y0 ?_)))
      by_cases d : ty_hw x.2.2 < ty_lw y.2.1
      · have d' := d
        rw [Int32.lt_iff_toInt_lt, t2, t3] at d'
        rw [if_neg (by omega)] at fin
        exact br_t d (fin 2 rfl)
      · have d' := d
        rw [Int32.lt_iff_toInt_lt, t2, t3] at d'
        rw [if_pos (by omega)] at fin
        exact br_f d (nm_r (e' := 3) (by decide) (fin 3 rfl))
theorem yo_op2 {Q : SY → Prop} {p i : Nat} {Z : Nat → Nat → Int32} {κ : Int32} {x y : ty_T} {e : ab_E} (hb : ab_bd N k n (rl_K a_bk f) (rl_K a_ba f) (rl_K a_bb f) (rl_c (rl_K a_bk f) (rl_K a_bb f))) (hk2 : k ≤ 2) (hf : f < 8) (hn : n ≤ 128) (hp : p < 16) (hi : i < n) (hc : (rl_c (rl_K a_bk f) (rl_K a_bb f)) i = 2) (eκ : rl_K a_bk f i = κ) (hK : κ = 3 ∨ κ = 4 ∨ κ = 5 ∨ κ = 6) (h4 : Z 4 p = ty_y x)
    (ox : ty_ok x) (oy : ty_ok y) (he : ab_eo k e) (hi0 : f_intsT = ty_y ty_ints)
    (H : ya_k (fun b r e0 e1 => Q (f_n, f_cap, f_ana, f_res, f_anyT, f_intsT, f_wp, f_vp, f_made, f_active, nI p, nI k, b, r, e0, e1, a_st, a_ar, a_size, a_bk, a_ba, a_bb, a_ds, a_tab, a_nxt, a_wN, a_wS, a_wF, a_vs, a_frS, a_frP0, a_frP1, Z 0, Z 1, Z 2, Z 3, Z 4, Z 5, Z 6, Z 7, Z 8, Z 9, Z 10)) (ab_opf (rl_K a_bk f) (rl_K a_ba f) (rl_c (rl_K a_bk f) (rl_K a_bb f)) i x y e)) :
    wpY_stepOp Q (f_n, f_cap, f_ana, f_res, f_anyT, f_intsT, f_wp, f_vp, f_made, f_active, nI (p + 1), nI k, 0, ty_y y, ty_y e.1, ty_y e.2, a_st, a_ar, a_size, a_bk, a_ba, a_bb, a_ds, a_tab, a_nxt, a_wN, a_wS, a_wF, a_vs, a_frS, a_frP0, a_frP1, Z 0, Z 1, Z 2, Z 3, Z 4, Z 5, Z 6, Z 7, Z 8, Z 9, Z 10) (nI f) (nI p) (nI i) 2 κ := by
  have w : vp_in (nI p) 16 := vp_in_nI (by omega) (by decide)
  have cp : (nI p).toNatClampNeg = p := nI_clamp (by omega)
  have n7 : ¬ κ = 7 := by rcases hK with h | h | h | h <;> rw [h] <;> decide
  have l0 := bs_ch_lt hb.2.2 hi (k := 0) (by omega)
  have l1 := bs_ch_lt hb.2.2 hi (k := 1) (by omega)
  have xe := xa_eo_xe he
  subst hi0
  unfold wpY_stepOp
  dsimp only
  refine br_f n7 (br_f (by decide) (br_f (by decide) (br_f (by decide) (br_f (by decide) (nm_r (nI_pred p) (br_f n7 ⟨w, nm_r (e' := ty_y x) (by rw [cp]; exact h4) ?_⟩))))))
  unfold ab_opf at H
  by_cases k6 : κ = 6
  · rw [if_pos (eκ.trans k6)] at H
    have fin : ∀ m : Nat, m < 256 → m = (if ty_meet x y = ty_0 then 1 else 3) → wY_stepOp_249 Q (ty_y e.1) (ty_y e.2) (nI m) f_n f_cap f_ana f_res f_anyT (ty_y ty_ints) f_wp f_vp f_made f_active (nI p) (nI k) 0 (ty_y y) (ty_y e.1) (ty_y e.2) a_st a_ar a_size a_bk a_ba a_bb a_ds a_tab a_nxt a_wN a_wS a_wF a_vs a_frS a_frP0 a_frP1 (Z 0) (Z 1) (Z 2) (Z 3) (Z 4) (Z 5) (Z 6) (Z 7) (Z 8) (Z 9) (Z 10) := by
      intro m hm em
      rw [← em] at H
      exact yc_set (r := (m, 0, 0)) hk2 (ab_lit_ok hm) he H
    refine br_t k6 (yt_meet ox oy ?_)
    by_cases z : ty_meet x y = ty_0
    · exact br_t ((ty_y_0 (ty_meet_ok ox oy)).mpr z) (fin 1 (by decide) (by rw [if_pos z]))
    · exact br_f (fun q => z ((ty_y_0 (ty_meet_ok ox oy)).mp q)) (fin 3 (by decide) (by rw [if_neg z]))
  · rw [if_neg (fun z => k6 (eκ.symm.trans z)), eκ] at H
    refine br_f k6 ?_
    refine yt_has ox (fun x0 => br_t rfl ?_) (fun x0 => br_f (by decide) ?_)
    · rw [if_pos (Or.inl x0)] at H; exact H _ _ _
    · refine yt_has oy (fun y0 => br_t rfl ?_) (fun y0 => br_f (by decide) ?_)
      · rw [if_pos (Or.inr y0)] at H; exact H _ _ _
      · rw [if_neg (fun z => z.elim x0 y0)] at H
        refine yn_nar (C := fun a b => wY_stepOp_343 Q (nI f) (nI i) κ (ty_y x) (ty_y y) a b f_n f_cap f_ana f_res f_anyT (ty_y ty_ints) f_wp f_vp f_made f_active (nI p) (nI k) 0 (ty_y y) (ty_y e.1) (ty_y e.2) a_st a_ar a_size a_bk a_ba a_bb a_ds a_tab a_nxt a_wN a_wS a_wF a_vs a_frS a_frP0 a_frP1 (Z 0) (Z 1) (Z 2) (Z 3) (Z 4) (Z 5) (Z 6) (Z 7) (Z 8) (Z 9) (Z 10)) (j := 0) hb hf hn hi (by omega) xe ty_ints_ok ?_
        refine yn_nar (C := fun a b => wY_stepOp_400 Q κ (ty_y x) (ty_y y) a b f_n f_cap f_ana f_res f_anyT (ty_y ty_ints) f_wp f_vp f_made f_active (nI p) (nI k) 0 (ty_y y) (ty_y e.1) (ty_y e.2) a_st a_ar a_size a_bk a_ba a_bb a_ds a_tab a_nxt a_wN a_wS a_wF a_vs a_frS a_frP0 a_frP1 (Z 0) (Z 1) (Z 2) (Z 3) (Z 4) (Z 5) (Z 6) (Z 7) (Z 8) (Z 9) (Z 10)) (j := 1) hb hf hn hi (by omega) (xa_nv_e ty_ints_ok xe) ty_ints_ok ?_
        exact yo_400 hk2 ox oy x0 y0 (ab_nv_eo (ab_var hb (by omega)) ty_ints_ok (ab_nv_eo (ab_var hb (by omega)) ty_ints_ok he)) (by rcases hK with h | h | h | h; exact Or.inl h; exact Or.inr (Or.inl h); exact Or.inr (Or.inr h); exact absurd h k6) H
theorem yr_6 (hb : ab_bd N k n (rl_K a_bk f) (rl_K a_ba f) (rl_K a_bb f) (rl_c (rl_K a_bk f) (rl_K a_bb f))) (hk2 : k ≤ 2) (hf : f < 8) (hn : n ≤ 128) (hi0 : f_intsT = ty_y ty_ints) : ya_R6 k n (rl_K a_bk f) (rl_K a_ba f) (rl_c (rl_K a_bk f) (rl_K a_bb f)) (yc_A post f f_n f_cap f_ana f_res f_anyT f_intsT f_wp f_vp f_made f_active f_xp (nI k) f_rBot f_rR f_rE0 f_rE1 a_st a_ar a_size a_bk a_ba a_bb a_ds a_tab a_nxt a_wN a_wS a_wF a_vs a_frS a_frP0 a_frP1 a_xN a_xS a_xE0 a_xE1 a_xA a_xB a_xC a_xD a_xE a_xF a_xG) := by
  intro t p Z i x y e ht hp hi h0 h1 hK h4 ox oy he hk fuel hfu
  obtain ⟨fuel, rfl⟩ : ∃ m, fuel = m + 1 := ⟨fuel - 1, by omega⟩
  have w : vp_in (nI p) 16 := vp_in_nI (by omega) (by decide)
  have cp : (nI p).toNatClampNeg = p := nI_clamp (by omega)
  have wi : vp_in (nI (f * 128 + i)) 1024 := vp_in_nI (by omega) (by decide)
  have ci : (nI (f * 128 + i)).toNatClampNeg = f * 128 + i := nI_clamp (by omega)
  have hc : (rl_c (rl_K a_bk f) (rl_K a_bb f)) i = 2 := by
    show bs_cc (rl_K a_bk f i) (rl_K a_bb f i) = 2
    rcases hK with h | h | h | h <;> rw [h]
    · exact bs_cc3 _
    · exact bs_cc4 _
    · exact bs_cc5 _
    · exact bs_cc6 _
  have go := yo_op2 (Q := yc_q post f t fuel) (p := p) (Z := Z) hb hk2 hf hn hp hi hc rfl hK h4 ox oy he hi0 (ya_k_imp (fun b r e0 e1 h => nm_r (nI_1 t) (h fuel (by omega))) hk)
  rcases hK with hK | hK | hK | hK <;> rw [hK] at go
  · exact br_f (nI_ge (b := 4096) ht (by decide)) (br_f (nI_nle (Nat.succ_pos p) (by omega)) (nm_r (e' := nI p) (yc_top hp) ⟨w, nm_r (e' := nI i) (by rw [cp]; exact h0) ⟨w, nm_r (e' := 2) (by rw [cp]; exact h1) (nm_r (yk_ix hf (by omega)) ⟨wi, nm_r (e' := 3) (by rw [ci]; exact hK) ⟨wi, nm_r (e' := rl_K a_ba f i) (by rw [ci]; rfl) (br_f (by decide) (br_f (by decide) (br_f (by decide) (br_f (by decide) (br_f (by decide) go))))) ⟩⟩)⟩⟩))
  · exact br_f (nI_ge (b := 4096) ht (by decide)) (br_f (nI_nle (Nat.succ_pos p) (by omega)) (nm_r (e' := nI p) (yc_top hp) ⟨w, nm_r (e' := nI i) (by rw [cp]; exact h0) ⟨w, nm_r (e' := 2) (by rw [cp]; exact h1) (nm_r (yk_ix hf (by omega)) ⟨wi, nm_r (e' := 4) (by rw [ci]; exact hK) ⟨wi, nm_r (e' := rl_K a_ba f i) (by rw [ci]; rfl) (br_f (by decide) (br_f (by decide) (br_f (by decide) (br_f (by decide) (br_f (by decide) go))))) ⟩⟩)⟩⟩))
  · exact br_f (nI_ge (b := 4096) ht (by decide)) (br_f (nI_nle (Nat.succ_pos p) (by omega)) (nm_r (e' := nI p) (yc_top hp) ⟨w, nm_r (e' := nI i) (by rw [cp]; exact h0) ⟨w, nm_r (e' := 2) (by rw [cp]; exact h1) (nm_r (yk_ix hf (by omega)) ⟨wi, nm_r (e' := 5) (by rw [ci]; exact hK) ⟨wi, nm_r (e' := rl_K a_ba f i) (by rw [ci]; rfl) (br_f (by decide) (br_f (by decide) (br_f (by decide) (br_f (by decide) (br_f (by decide) go))))) ⟩⟩)⟩⟩))
  · exact br_f (nI_ge (b := 4096) ht (by decide)) (br_f (nI_nle (Nat.succ_pos p) (by omega)) (nm_r (e' := nI p) (yc_top hp) ⟨w, nm_r (e' := nI i) (by rw [cp]; exact h0) ⟨w, nm_r (e' := 2) (by rw [cp]; exact h1) (nm_r (yk_ix hf (by omega)) ⟨wi, nm_r (e' := 6) (by rw [ci]; exact hK) ⟨wi, nm_r (e' := rl_K a_ba f i) (by rw [ci]; rfl) (br_f (by decide) (br_f (by decide) (br_f (by decide) (br_f (by decide) (br_f (by decide) go))))) ⟩⟩)⟩⟩))
end
end
section
section
variable {f_n f_cap f_ana f_res f_anyT f_intsT f_wp f_vp f_made f_active f_xp f_curK f_rBot f_rR f_rE0 f_rE1 : Int32} {a_st a_ar a_size a_bk a_ba a_bb a_ds a_tab a_nxt a_wN a_wS a_wF a_vs a_frS a_frP0 a_frP1 a_xN a_xS a_xE0 a_xE1 a_xA a_xB a_xC a_xD a_xE a_xF a_xG : Nat → Int32} {N k n f : Nat} {post : SY → Prop}
theorem yt_meetb {Q : Int32 → Prop} {u : SY} {s : ty_T} (hs : ty_ok s) (h : Q (ty_y (ty_meet s ty_bool))) : wpY_meet Q u (ty_y s) 3 := by
  rw [show (3 : Int32) = ty_y ty_bool by decide]; exact yt_meet hs ty_bool_ok h
theorem yt_meeta {Q : Int32 → Prop} {u : SY} {s : ty_T} (hs : ty_ok s) (h : Q (ty_y (ty_meet s ty_ats))) : wpY_meet Q u (ty_y s) 255 := by
  rw [show (255 : Int32) = ty_y ty_ats by decide]; exact yt_meet hs ty_ats_ok h
theorem yi_241 {Q : SY → Prop} {p i : Nat} {Z : Nat → Nat → Int32} {x : ty_T} {e t u : ab_E} (hb : ab_bd N k n (rl_K a_bk f) (rl_K a_ba f) (rl_K a_bb f) (rl_c (rl_K a_bk f) (rl_K a_bb f))) (hk2 : k ≤ 2) (hf : f < 8) (hn : n ≤ 128) (hp : p < 15) (hi : i < n) (hc : (rl_c (rl_K a_bk f) (rl_K a_bb f)) i = 3) (ox : ty_ok x) (ht : ab_eo k t)
    (H1 : x.1.testBit 1 = true → ya_al t → ∀ Z', Z' = ya_push (ya_zi Z p x u) (p + 1) (bs_ch (rl_c (rl_K a_bk f) (rl_K a_bb f)) i 1) (ty_y t.1) (ty_y t.2) → Q (f_n, f_cap, f_ana, f_res, f_anyT, f_intsT, f_wp, f_vp, f_made, f_active, nI (p + 2), nI k, 0, ty_y x, ty_y e.1, ty_y e.2, a_st, a_ar, a_size, a_bk, a_ba, a_bb, a_ds, a_tab, a_nxt, a_wN, a_wS, a_wF, a_vs, a_frS, a_frP0, a_frP1, Z' 0, Z' 1, Z' 2, Z' 3, Z' 4, Z' 5, Z' 6, Z' 7, Z' 8, Z' 9, Z' 10))
    (H2 : ¬ (x.1.testBit 1 = true ∧ ya_al t) → ∀ Z', Z' = ya_zi Z p x u → Q (f_n, f_cap, f_ana, f_res, f_anyT, f_intsT, f_wp, f_vp, f_made, f_active, nI (p + 1), nI k, 1, ty_y x, ty_y e.1, ty_y e.2, a_st, a_ar, a_size, a_bk, a_ba, a_bb, a_ds, a_tab, a_nxt, a_wN, a_wS, a_wF, a_vs, a_frS, a_frP0, a_frP1, Z' 0, Z' 1, Z' 2, Z' 3, Z' 4, Z' 5, Z' 6, Z' 7, Z' 8, Z' 9, Z' 10)) :
    wY_stepIf_241 Q (nI f) (nI p) (nI i) (ty_y x) (ty_y t.1) (ty_y t.2) (ty_y u.1) (ty_y u.2) f_n f_cap f_ana f_res f_anyT f_intsT f_wp f_vp f_made f_active (nI (p + 1)) (nI k) 0 (ty_y x) (ty_y e.1) (ty_y e.2) a_st a_ar a_size a_bk a_ba a_bb a_ds a_tab a_nxt a_wN a_wS a_wF a_vs a_frS a_frP0 a_frP1 (Z 0) (Z 1) (Z 2) (Z 3) (Z 4) (Z 5) (Z 6) (Z 7) (Z 8) (Z 9) (Z 10) := by
  have w : vp_in (nI p) 16 := vp_in_nI (by omega) (by decide)
  have cp : (nI p).toNatClampNeg = p := nI_clamp (by omega)
  have b1 := ty_b1 (ty_yn_m ox)
  unfold wY_stepIf_241
  rw [ty_ym ox, cp]
  refine ⟨w, nm_e ⟨w, nm_e ⟨w, nm_e ⟨w, nm_e ?_⟩⟩⟩⟩
  by_cases z : x.1.testBit 1 = true
  · refine br_f (fun q => b1.mp q z) ?_
    refine yc_env hk2 ht (fun al => br_f (by decide) ?_) (fun na => br_t rfl (H2 (fun q => na q.2) _ rfl))
    refine yk_cp (j := 1) hf hn hb hi (by omega) ?_
    exact yc_push (Z := ya_zi Z p x u) (p := p + 1) (by omega) (H1 z al _ rfl)
  · exact br_t (b1.mpr z) (H2 (fun q => z q.1) _ rfl)
theorem yi_138 {Q : SY → Prop} {p i : Nat} {Z : Nat → Nat → Int32} {x : ty_T} {e m : ab_E} (hb : ab_bd N k n (rl_K a_bk f) (rl_K a_ba f) (rl_K a_bb f) (rl_c (rl_K a_bk f) (rl_K a_bb f))) (hk2 : k ≤ 2) (hf : f < 8) (hn : n ≤ 128) (hp : p < 15) (hi : i < n) (h8 : rl_K a_bk f i = 8) (ox : ty_ok x) (he : ab_eo k e)
    (em : m = ab_nv (rl_K a_bk f) (rl_K a_ba f) (bs_ch (rl_c (rl_K a_bk f) (rl_K a_bb f)) i 0) ty_bool e)
    (H1 : x.1.testBit 1 = true → ya_al (ab_th (rl_K a_bk f) (rl_K a_ba f) (rl_c (rl_K a_bk f) (rl_K a_bb f)) i ty_ints e) → ∀ Z', Z' = ya_push (ya_zi Z p x (ab_th (rl_K a_bk f) (rl_K a_ba f) (rl_c (rl_K a_bk f) (rl_K a_bb f)) i ty_ats e)) (p + 1) (bs_ch (rl_c (rl_K a_bk f) (rl_K a_bb f)) i 1) (ty_y (ab_th (rl_K a_bk f) (rl_K a_ba f) (rl_c (rl_K a_bk f) (rl_K a_bb f)) i ty_ints e).1) (ty_y (ab_th (rl_K a_bk f) (rl_K a_ba f) (rl_c (rl_K a_bk f) (rl_K a_bb f)) i ty_ints e).2) → Q (f_n, f_cap, f_ana, f_res, f_anyT, ty_y ty_ints, f_wp, f_vp, f_made, f_active, nI (p + 2), nI k, 0, ty_y x, ty_y e.1, ty_y e.2, a_st, a_ar, a_size, a_bk, a_ba, a_bb, a_ds, a_tab, a_nxt, a_wN, a_wS, a_wF, a_vs, a_frS, a_frP0, a_frP1, Z' 0, Z' 1, Z' 2, Z' 3, Z' 4, Z' 5, Z' 6, Z' 7, Z' 8, Z' 9, Z' 10))
    (H2 : ¬ (x.1.testBit 1 = true ∧ ya_al (ab_th (rl_K a_bk f) (rl_K a_ba f) (rl_c (rl_K a_bk f) (rl_K a_bb f)) i ty_ints e)) → ∀ Z', Z' = ya_zi Z p x (ab_th (rl_K a_bk f) (rl_K a_ba f) (rl_c (rl_K a_bk f) (rl_K a_bb f)) i ty_ats e) → Q (f_n, f_cap, f_ana, f_res, f_anyT, ty_y ty_ints, f_wp, f_vp, f_made, f_active, nI (p + 1), nI k, 1, ty_y x, ty_y e.1, ty_y e.2, a_st, a_ar, a_size, a_bk, a_ba, a_bb, a_ds, a_tab, a_nxt, a_wN, a_wS, a_wF, a_vs, a_frS, a_frP0, a_frP1, Z' 0, Z' 1, Z' 2, Z' 3, Z' 4, Z' 5, Z' 6, Z' 7, Z' 8, Z' 9, Z' 10)) :
    wY_stepIf_138 Q (nI f) (nI p) (nI i) (ty_y x) (ty_y m.1) (ty_y m.2) (nI (bs_ch (rl_c (rl_K a_bk f) (rl_K a_bb f)) i 0)) (rl_K a_bk f (bs_ch (rl_c (rl_K a_bk f) (rl_K a_bb f)) i 0)) f_n f_cap f_ana f_res f_anyT (ty_y ty_ints) f_wp f_vp f_made f_active (nI (p + 1)) (nI k) 0 (ty_y x) (ty_y e.1) (ty_y e.2) a_st a_ar a_size a_bk a_ba a_bb a_ds a_tab a_nxt a_wN a_wS a_wF a_vs a_frS a_frP0 a_frP1 (Z 0) (Z 1) (Z 2) (Z 3) (Z 4) (Z 5) (Z 6) (Z 7) (Z 8) (Z 9) (Z 10) := by
  have hc := ab_c8 hb h8
  have l0 := bs_ch_lt hb.2.2 hi (k := 0) (by omega)
  have ti := ab_th_eo hb hi h8 ty_ints_ok he
  have om : xa_e m := by rw [em]; exact xa_nv_e ty_bool_ok (xa_eo_xe he)
  have fin : ∀ t u : ab_E, t = ab_th (rl_K a_bk f) (rl_K a_ba f) (rl_c (rl_K a_bk f) (rl_K a_bb f)) i ty_ints e → u = ab_th (rl_K a_bk f) (rl_K a_ba f) (rl_c (rl_K a_bk f) (rl_K a_bb f)) i ty_ats e →
      wY_stepIf_241 Q (nI f) (nI p) (nI i) (ty_y x) (ty_y t.1) (ty_y t.2) (ty_y u.1) (ty_y u.2) f_n f_cap f_ana f_res f_anyT (ty_y ty_ints) f_wp f_vp f_made f_active (nI (p + 1)) (nI k) 0 (ty_y x) (ty_y e.1) (ty_y e.2) a_st a_ar a_size a_bk a_ba a_bb a_ds a_tab a_nxt a_wN a_wS a_wF a_vs a_frS a_frP0 a_frP1 (Z 0) (Z 1) (Z 2) (Z 3) (Z 4) (Z 5) (Z 6) (Z 7) (Z 8) (Z 9) (Z 10) := by
    intro t u et eu
    rw [et, eu]
    exact yi_241 hb hk2 hf hn hp hi hc ox ti H1 H2
  unfold wY_stepIf_138
  by_cases h7 : rl_K a_bk f (bs_ch (rl_c (rl_K a_bk f) (rl_K a_bb f)) i 0) = 7
  · have c1 := ab_c7 hb h7
    have l1 := bs_ch_lt hb.2.2 (show bs_ch (rl_c (rl_K a_bk f) (rl_K a_bb f)) i 0 < n by omega) (k := 0) (by omega)
    have th : ∀ t : ty_T, ab_th (rl_K a_bk f) (rl_K a_ba f) (rl_c (rl_K a_bk f) (rl_K a_bb f)) i t e = ab_nv (rl_K a_bk f) (rl_K a_ba f) (bs_ch (rl_c (rl_K a_bk f) (rl_K a_bb f)) (bs_ch (rl_c (rl_K a_bk f) (rl_K a_bb f)) i 0) 0) t m := by
      intro t; unfold ab_th; rw [if_pos h7, em]
    refine yk_cp (j := 0) hf hn hb (by omega) (by omega) (br_t h7 (yk_kind hf (by omega) ?_))
    by_cases v : rl_K a_bk f (bs_ch (rl_c (rl_K a_bk f) (rl_K a_bb f)) (bs_ch (rl_c (rl_K a_bk f) (rl_K a_bb f)) i 0) 0) = 2
    · refine br_t v (yk_opA hf (by omega) ?_)
      by_cases a : rl_K a_ba f (bs_ch (rl_c (rl_K a_bk f) (rl_K a_bb f)) (bs_ch (rl_c (rl_K a_bk f) (rl_K a_bb f)) i 0) 0) = 0
      · refine br_t a (yt_meet om.1 ty_ints_ok (yt_meeta om.1 (fin (ty_meet m.1 ty_ints, m.2) (ty_meet m.1 ty_ats, m.2) ?_ ?_)))
        · rw [th]; unfold ab_nv; rw [if_pos v, if_pos a]
        · rw [th]; unfold ab_nv; rw [if_pos v, if_pos a]
      · refine br_f a (yt_meet om.2 ty_ints_ok (yt_meeta om.2 (fin (m.1, ty_meet m.2 ty_ints) (m.1, ty_meet m.2 ty_ats) ?_ ?_)))
        · rw [th]; unfold ab_nv; rw [if_pos v, if_neg a]
        · rw [th]; unfold ab_nv; rw [if_pos v, if_neg a]
    · refine br_f v (fin m m ?_ ?_)
      · rw [th]; unfold ab_nv; rw [if_neg v]
      · rw [th]; unfold ab_nv; rw [if_neg v]
  · have th : ∀ t : ty_T, ab_th (rl_K a_bk f) (rl_K a_ba f) (rl_c (rl_K a_bk f) (rl_K a_bb f)) i t e = m := by
      intro t; unfold ab_th; rw [if_neg h7, em]
    by_cases c0 : (rl_c (rl_K a_bk f) (rl_K a_bb f)) (bs_ch (rl_c (rl_K a_bk f) (rl_K a_bb f)) i 0) = 0
    · exact yk_cp0 hf hn hb (by omega) c0 (br_f h7 (fin m m (th _).symm (th _).symm))
    · exact yk_cp (j := 0) hf hn hb (by omega) (by omega) (br_f h7 (fin m m (th _).symm (th _).symm))
theorem yr_7 (hb : ab_bd N k n (rl_K a_bk f) (rl_K a_ba f) (rl_K a_bb f) (rl_c (rl_K a_bk f) (rl_K a_bb f))) (hk2 : k ≤ 2) (hf : f < 8) (hn : n ≤ 128) (hi0 : f_intsT = ty_y ty_ints) : ya_R7 k n (rl_K a_bk f) (rl_K a_ba f) (rl_c (rl_K a_bk f) (rl_K a_bb f)) (yc_A post f f_n f_cap f_ana f_res f_anyT f_intsT f_wp f_vp f_made f_active f_xp (nI k) f_rBot f_rR f_rE0 f_rE1 a_st a_ar a_size a_bk a_ba a_bb a_ds a_tab a_nxt a_wN a_wS a_wF a_vs a_frS a_frP0 a_frP1 a_xN a_xS a_xE0 a_xE1 a_xA a_xB a_xC a_xD a_xE a_xF a_xG) := by
  intro t p Z i x e ht hp' hi h0 h1 hK ox he k1 k2 fuel hfu
  have hp : p < 16 := by omega
  obtain ⟨fuel, rfl⟩ : ∃ m, fuel = m + 1 := ⟨fuel - 1, by omega⟩
  have w : vp_in (nI p) 16 := vp_in_nI (by omega) (by decide)
  have cp : (nI p).toNatClampNeg = p := nI_clamp (by omega)
  have wi : vp_in (nI (f * 128 + i)) 1024 := vp_in_nI (by omega) (by decide)
  have ci : (nI (f * 128 + i)).toNatClampNeg = f * 128 + i := nI_clamp (by omega)
  subst hi0
  have hc := ab_c8 hb hK
  have l0 := bs_ch_lt hb.2.2 hi (k := 0) (by omega)
  have xe := xa_eo_xe he
  have go : ∀ m : ab_E, m = ab_nv (rl_K a_bk f) (rl_K a_ba f) (bs_ch (rl_c (rl_K a_bk f) (rl_K a_bb f)) i 0) ty_bool e → wY_stepIf_138 (yc_q post f t fuel) (nI f) (nI p) (nI i) (ty_y x) (ty_y m.1) (ty_y m.2) (nI (bs_ch (rl_c (rl_K a_bk f) (rl_K a_bb f)) i 0)) (rl_K a_bk f (bs_ch (rl_c (rl_K a_bk f) (rl_K a_bb f)) i 0)) f_n f_cap f_ana f_res f_anyT (ty_y ty_ints) f_wp f_vp f_made f_active (nI (p + 1)) (nI k) 0 (ty_y x) (ty_y e.1) (ty_y e.2) a_st a_ar a_size a_bk a_ba a_bb a_ds a_tab a_nxt a_wN a_wS a_wF a_vs a_frS a_frP0 a_frP1 (Z 0) (Z 1) (Z 2) (Z 3) (Z 4) (Z 5) (Z 6) (Z 7) (Z 8) (Z 9) (Z 10) := by
    intro m em
    refine yi_138 hb hk2 hf hn hp' hi hK ox he em (fun z al Z' eZ => ?_) (fun z Z' eZ => ?_)
    · subst eZ
      exact nm_r (nI_1 t) (k1 z al fuel (by omega))
    · subst eZ
      exact nm_r (nI_1 t) (k2 z fuel (by omega))
  refine br_f (nI_ge (b := 4096) ht (by decide)) (br_f (nI_nle (Nat.succ_pos p) (by omega)) (nm_r (e' := nI p) (yc_top hp) ⟨w, nm_r (e' := nI i) (by rw [cp]; exact h0) ⟨w, nm_r (e' := 1) (by rw [cp]; exact h1) (nm_r (yk_ix hf (by omega)) ⟨wi, nm_r (e' := 8) (by rw [ci]; exact hK) ⟨wi, nm_r (e' := rl_K a_ba f i) (by rw [ci]; rfl) (br_f (by decide) (br_f (by decide) (br_f (by decide) (br_t rfl ?_)))) ⟩⟩)⟩⟩))
  unfold wpY_stepIf
  dsimp only
  refine br_f (by decide) (br_t rfl (br_f (by decide) ?_))
  refine yk_cp (j := 0) hf hn hb hi (by omega) (yk_kind hf (by omega) ?_)
  by_cases v : rl_K a_bk f (bs_ch (rl_c (rl_K a_bk f) (rl_K a_bb f)) i 0) = 2
  · refine br_t v (yk_opA hf (by omega) ?_)
    by_cases a : rl_K a_ba f (bs_ch (rl_c (rl_K a_bk f) (rl_K a_bb f)) i 0) = 0
    · refine br_t a (yt_meetb xe.1 (go (ty_meet e.1 ty_bool, e.2) ?_))
      unfold ab_nv; rw [if_pos v, if_pos a]
    · refine br_f a (yt_meetb xe.2 (go (e.1, ty_meet e.2 ty_bool) ?_))
      unfold ab_nv; rw [if_pos v, if_neg a]
  · refine br_f v (go e ?_)
    unfold ab_nv; rw [if_neg v]
theorem yr_8 (hb : ab_bd N k n (rl_K a_bk f) (rl_K a_ba f) (rl_K a_bb f) (rl_c (rl_K a_bk f) (rl_K a_bb f))) (hk2 : k ≤ 2) (hf : f < 8) (hn : n ≤ 128) : ya_R8 k n (rl_K a_bk f) (rl_c (rl_K a_bk f) (rl_K a_bb f)) (yc_A post f f_n f_cap f_ana f_res f_anyT f_intsT f_wp f_vp f_made f_active f_xp (nI k) f_rBot f_rR f_rE0 f_rE1 a_st a_ar a_size a_bk a_ba a_bb a_ds a_tab a_nxt a_wN a_wS a_wF a_vs a_frS a_frP0 a_frP1 a_xN a_xS a_xE0 a_xE1 a_xA a_xB a_xC a_xD a_xE a_xF a_xG) := by
  intro t p Z b r e0 e1 i m u ht hp' hi h0 h1 hK hm h4 h5 h6 hu k1 k2 fuel hfu
  have hp : p < 16 := by omega
  obtain ⟨fuel, rfl⟩ : ∃ m, fuel = m + 1 := ⟨fuel - 1, by omega⟩
  have w : vp_in (nI p) 16 := vp_in_nI (by omega) (by decide)
  have cp : (nI p).toNatClampNeg = p := nI_clamp (by omega)
  have wi : vp_in (nI (f * 128 + i)) 1024 := vp_in_nI (by omega) (by decide)
  have ci : (nI (f * 128 + i)).toNatClampNeg = f * 128 + i := nI_clamp (by omega)
  have hc := ab_c8 hb hK
  have b0 := ty_b0 (n := m) (m := m) (by omega)
  refine br_f (nI_ge (b := 4096) ht (by decide)) (br_f (nI_nle (Nat.succ_pos p) (by omega)) (nm_r (e' := nI p) (yc_top hp) ⟨w, nm_r (e' := nI i) (by rw [cp]; exact h0) ⟨w, nm_r (e' := 2) (by rw [cp]; exact h1) (nm_r (yk_ix hf (by omega)) ⟨wi, nm_r (e' := 8) (by rw [ci]; exact hK) ⟨wi, nm_r (e' := rl_K a_ba f i) (by rw [ci]; rfl) (br_f (by decide) (br_f (by decide) (br_f (by decide) (br_t rfl ?_)))) ⟩⟩)⟩⟩))
  unfold wpY_stepIf
  dsimp only
  rw [cp, h4, h5, h6]
  refine br_f (by decide) (br_f (by decide) (br_t rfl ⟨w, nm_e ⟨w, nm_e ⟨w, nm_e ⟨w, nm_e ⟨w, nm_e ⟨w, ?_⟩⟩⟩⟩⟩⟩))
  by_cases z : m.testBit 0 = true
  · refine br_f (fun q => b0.mp q z) ⟨w, w, ?_⟩
    refine yc_env hk2 hu (fun al => br_f (by decide) ?_) (fun na => br_t rfl (nm_r (nI_1 t) (k2 (fun q => na q.2) fuel (by omega))))
    refine yk_cp (j := 2) hf hn hb hi (by omega) ⟨w, w, ?_⟩
    exact yc_push (Z := ya_zj Z p b r e0 e1) (p := p + 1) (by omega) (nm_r (nI_1 t) (k1 z al fuel (by omega)))
  · exact br_t (b0.mpr z) (nm_r (nI_1 t) (k2 (fun q => z q.1) fuel (by omega)))
theorem yr_9 (hf : f < 8) (hn : n ≤ 128) : ya_R9 k n (rl_K a_bk f) (yc_A post f f_n f_cap f_ana f_res f_anyT f_intsT f_wp f_vp f_made f_active f_xp f_curK f_rBot f_rR f_rE0 f_rE1 a_st a_ar a_size a_bk a_ba a_bb a_ds a_tab a_nxt a_wN a_wS a_wF a_vs a_frS a_frP0 a_frP1 a_xN a_xS a_xE0 a_xE1 a_xA a_xB a_xC a_xD a_xE a_xF a_xG) := by
  intro t p Z b r e0 e1 i o o' ht hp hi h0 h1 hK po po' a1 a2 hk fuel hfu
  obtain ⟨fuel, rfl⟩ : ∃ m, fuel = m + 1 := ⟨fuel - 1, by omega⟩
  have w : vp_in (nI p) 16 := vp_in_nI (by omega) (by decide)
  have cp : (nI p).toNatClampNeg = p := nI_clamp (by omega)
  have wi : vp_in (nI (f * 128 + i)) 1024 := vp_in_nI (by omega) (by decide)
  have ci : (nI (f * 128 + i)).toNatClampNeg = f * 128 + i := nI_clamp (by omega)
  refine br_f (nI_ge (b := 4096) ht (by decide)) (br_f (nI_nle (Nat.succ_pos p) (by omega)) (nm_r (e' := nI p) (yc_top hp) ⟨w, nm_r (e' := nI i) (by rw [cp]; exact h0) ⟨w, nm_r (e' := 3) (by rw [cp]; exact h1) (nm_r (yk_ix hf (by omega)) ⟨wi, nm_r (e' := 8) (by rw [ci]; exact hK) ⟨wi, nm_r (e' := rl_K a_ba f i) (by rw [ci]; rfl) (br_f (by decide) (br_f (by decide) (br_f (by decide) (br_t rfl ?_)))) ⟩⟩)⟩⟩))
  unfold wpY_stepIf
  dsimp only
  rw [cp]
  refine br_f (by decide) (br_f (by decide) (br_f (by decide) (nm_r (nI_pred p) ⟨w, ?_⟩)))
  cases o with
  | none =>
    refine br_t a1 ?_
    cases o' with
    | none =>
      have a2 : b = 1 := a2
      subst a2
      exact nm_r (nI_1 t) (hk _ _ _ fuel (by omega))
    | some y =>
      obtain ⟨rfl, rfl, rfl, rfl⟩ := a2
      exact nm_r (nI_1 t) (hk fuel (by omega))
  | some x =>
    obtain ⟨z7, z8, z9, z10⟩ := a1
    rw [z7, z8, z9, z10]
    refine br_f (by decide) ?_
    obtain ⟨q0, _, q1, _⟩ := po x rfl
    cases o' with
    | none =>
      have a2 : b = 1 := a2
      subst a2
      exact br_t rfl ⟨w, nm_e ⟨w, nm_e ⟨w, nm_e (nm_r (nI_1 t) (hk fuel (by omega)))⟩⟩⟩
    | some y =>
      obtain ⟨rfl, rfl, rfl, rfl⟩ := a2
      obtain ⟨s0, _, s1, _⟩ := po' y rfl
      exact br_f (by decide) ⟨w, yt_join q0 s0 ⟨w, yt_join q1.1 s1.1 ⟨w, yt_join q1.2.1 s1.2.1 (nm_r (nI_1 t) (hk fuel (by omega)))⟩⟩⟩
end
end
section
section
variable {f_n f_cap f_ana f_res f_anyT f_intsT f_wp f_vp f_made f_active f_xp f_curK f_rBot f_rR f_rE0 f_rE1 : Int32} {a_st a_ar a_size a_bk a_ba a_bb a_ds a_tab a_nxt a_wN a_wS a_wF a_vs a_frS a_frP0 a_frP1 a_xN a_xS a_xE0 a_xE1 a_xA a_xB a_xC a_xD a_xE a_xF a_xG : Nat → Int32} {N k n f : Nat} {post : SY → Prop}
theorem yl_409 {Q : SY → Prop} {tb : Nat → ty_T} {g : Nat} {e : ab_E} (hg : g < 8) (hk2 : k ≤ 2) (hT : ∀ q, ty_ok (tb q)) (ht : ∀ q, q < 24 → a_tab q = ty_y (tb q)) (he : ab_eo k e) (H : ya_k (fun b r e0 e1 => Q (nI N, f_cap, f_ana, f_res, f_anyT, f_intsT, f_wp, f_vp, f_made, f_active, f_xp, nI k, b, r, e0, e1, a_st, a_ar, a_size, a_bk, a_ba, a_bb, a_ds, a_tab, a_nxt, a_wN, a_wS, a_wF, a_vs, a_frS, a_frP0, a_frP1, a_xN, a_xS, a_xE0, a_xE1, a_xA, a_xB, a_xC, a_xD, a_xE, a_xF, a_xG)) (ab_fin (tb (g * 3 + 2)) e)) :
    wY_stepCall_409 Q (nI g) (ty_y e.1) (ty_y e.2) (nI N) f_cap f_ana f_res f_anyT f_intsT f_wp f_vp f_made f_active f_xp (nI k) f_rBot f_rR f_rE0 f_rE1 a_st a_ar a_size a_bk a_ba a_bb a_ds a_tab a_nxt a_wN a_wS a_wF a_vs a_frS a_frP0 a_frP1 a_xN a_xS a_xE0 a_xE1 a_xA a_xB a_xC a_xD a_xE a_xF a_xG := by
  unfold wY_stepCall_409
  rw [xc_32, nI_clamp (by omega), ht _ (by omega)]
  exact ⟨vp_in_nI (by omega) (by omega), yc_set hk2 (hT _) he H⟩
theorem yl_320 {Q : SY → Prop} {tb : Nat → ty_T} {g i m : Nat} {y : ty_T} {e : ab_E} {x10 : Int32} (hb : ab_bd N k n (rl_K a_bk f) (rl_K a_ba f) (rl_K a_bb f) (rl_c (rl_K a_bk f) (rl_K a_bb f))) (hf : f < 8) (hn : n ≤ 128) (hi : i < n) (hg : g < 8) (hk2 : k ≤ 2) (hm : m ≤ 2) (hc : (rl_c (rl_K a_bk f) (rl_K a_bb f)) i = m) (hT : ∀ q, ty_ok (tb q)) (ht : ∀ q, q < 24 → a_tab q = ty_y (tb q)) (he : ab_eo k e) (oy : ty_ok y) (ey : m = 2 → x10 = ty_y y)
    (H : ya_k (fun b r e0 e1 => Q (nI N, f_cap, f_ana, f_res, f_anyT, f_intsT, f_wp, f_vp, f_made, f_active, f_xp, nI k, b, r, e0, e1, a_st, a_ar, a_size, a_bk, a_ba, a_bb, a_ds, a_tab, a_nxt, a_wN, a_wS, a_wF, a_vs, a_frS, a_frP0, a_frP1, a_xN, a_xS, a_xE0, a_xE1, a_xA, a_xB, a_xC, a_xD, a_xE, a_xF, a_xG)) (if m = 2 then (if ty_meet y (tb (g * 3 + 1)) = ty_0 then none else ab_fin (tb (g * 3 + 2)) (ab_nv (rl_K a_bk f) (rl_K a_ba f) (bs_ch (rl_c (rl_K a_bk f) (rl_K a_bb f)) i 1) (tb (g * 3 + 1)) e)) else ab_fin (tb (g * 3 + 2)) e)) :
    wY_stepCall_320 Q (nI f) (nI i) (nI g) (nI m) (ty_y e.1) (ty_y e.2) x10 (nI N) f_cap f_ana f_res f_anyT f_intsT f_wp f_vp f_made f_active f_xp (nI k) f_rBot f_rR f_rE0 f_rE1 a_st a_ar a_size a_bk a_ba a_bb a_ds a_tab a_nxt a_wN a_wS a_wF a_vs a_frS a_frP0 a_frP1 a_xN a_xS a_xE0 a_xE1 a_xA a_xB a_xC a_xD a_xE a_xF a_xG := by
  unfold wY_stepCall_320
  by_cases m2 : m = 2
  · subst m2
    rw [if_pos rfl] at H
    rw [ey rfl]
    refine br_f (by decide) ?_
    rw [xc_31, nI_clamp (by omega), ht _ (by omega)]
    refine ⟨vp_in_nI (by omega) (by omega), nm_e (yt_meet oy (hT _) ?_)⟩
    by_cases z : ty_meet y (tb (g * 3 + 1)) = ty_0
    · rw [if_pos z] at H
      exact br_t ((ty_y_0 (ty_meet_ok oy (hT _))).mpr z) (H _ _ _)
    · rw [if_neg z] at H
      refine br_f (fun q => z ((ty_y_0 (ty_meet_ok oy (hT _))).mp q)) ?_
      refine yn_nar (C := fun a b => wY_stepCall_409 Q (nI g) a b (nI N) f_cap f_ana f_res f_anyT f_intsT f_wp f_vp f_made f_active f_xp (nI k) f_rBot f_rR f_rE0 f_rE1 a_st a_ar a_size a_bk a_ba a_bb a_ds a_tab a_nxt a_wN a_wS a_wF a_vs a_frS a_frP0 a_frP1 a_xN a_xS a_xE0 a_xE1 a_xA a_xB a_xC a_xD a_xE a_xF a_xG) (j := 1) hb hf hn hi (by omega) (xa_eo_xe he) (hT _) ?_
      have l1 := bs_ch_lt hb.2.2 hi (k := 1) (by omega)
      exact yl_409 hg hk2 hT ht (ab_nv_eo (ab_var hb (by omega)) (hT _) he) H
  · rw [if_neg m2] at H
    exact br_t ((yc_k2 hm).mpr (by omega)) (yl_409 hg hk2 hT ht he H)
theorem yl_190 {Q : SY → Prop} {tb : Nat → ty_T} {g i m : Nat} {x y : ty_T} {e : ab_E} {x9 x10 : Int32} {o : ab_O} (hb : ab_bd N k n (rl_K a_bk f) (rl_K a_ba f) (rl_K a_bb f) (rl_c (rl_K a_bk f) (rl_K a_bb f))) (hN : N ≤ 8) (hf : f < 8) (hn : n ≤ 128) (hi : i < n) (h9 : rl_K a_bk f i = 9) (hg : g < N) (eg : rl_K a_ba f i = nI g) (hk2 : k ≤ 2) (hm : m ≤ 2) (em : rl_K a_bb f i = nI m) (hT : ∀ q, ty_ok (tb q)) (ht : ∀ q, q < 24 → a_tab q = ty_y (tb q))
    (he : ab_eo k e) (ox : ty_ok x) (oy : ty_ok y) (ex : 1 ≤ m → x9 = ty_y x) (ey : m = 2 → x10 = ty_y y)
    (ho : o = if rl_K a_bb f i = 0 then ab_cl0 (rl_K a_ba f) (rl_K a_bb f) a_st a_ar tb i e else if rl_K a_bb f i = 1 then ab_cl1 (rl_K a_bk f) (rl_K a_ba f) (rl_K a_bb f) a_st a_ar (rl_c (rl_K a_bk f) (rl_K a_bb f)) tb i x e else ab_cl2 (rl_K a_bk f) (rl_K a_ba f) (rl_K a_bb f) a_st a_ar (rl_c (rl_K a_bk f) (rl_K a_bb f)) tb i x y e)
    (H : ya_k (fun b r e0 e1 => Q (nI N, f_cap, f_ana, f_res, f_anyT, f_intsT, f_wp, f_vp, f_made, f_active, f_xp, nI k, b, r, e0, e1, a_st, a_ar, a_size, a_bk, a_ba, a_bb, a_ds, a_tab, a_nxt, a_wN, a_wS, a_wF, a_vs, a_frS, a_frP0, a_frP1, a_xN, a_xS, a_xE0, a_xE1, a_xA, a_xB, a_xC, a_xD, a_xE, a_xF, a_xG)) o) : wY_stepCall_190 Q (nI f) (nI i) (nI g) (nI m) (ty_y e.1) (ty_y e.2) x9 x10 (nI N) f_cap f_ana f_res f_anyT f_intsT f_wp f_vp f_made f_active f_xp (nI k) f_rBot f_rR f_rE0 f_rE1 a_st a_ar a_size a_bk a_ba a_bb a_ds a_tab a_nxt a_wN a_wS a_wF a_vs a_frS a_frP0 a_frP1 a_xN a_xS a_xE0 a_xE1 a_xA a_xB a_xC a_xD a_xE a_xF a_xG := by
  have cg : (nI g).toNatClampNeg = g := nI_clamp (by omega)
  have wg : vp_in (nI g) 8 := vp_in_nI (by omega) (by decide)
  have hc : (rl_c (rl_K a_bk f) (rl_K a_bb f)) i = m := by rw [ab_c9 hb h9, em, nI_clamp (by omega)]
  have H0 : o = none → Q (nI N, f_cap, f_ana, f_res, f_anyT, f_intsT, f_wp, f_vp, f_made, f_active, f_xp, nI k, 1, f_rR, f_rE0, f_rE1, a_st, a_ar, a_size, a_bk, a_ba, a_bb, a_ds, a_tab, a_nxt, a_wN, a_wS, a_wF, a_vs, a_frS, a_frP0, a_frP1, a_xN, a_xS, a_xE0, a_xE1, a_xA, a_xB, a_xC, a_xD, a_xE, a_xF, a_xG) := fun on => by
    rw [on] at H; exact H _ _ _
  unfold wY_stepCall_190
  refine br_f (nI_pos (by omega)) (br_f (nI_ge hg (by omega)) ⟨wg, ?_⟩)
  rw [cg]
  by_cases s2 : a_st g = 2
  · refine br_t s2 ⟨wg, ?_⟩
    by_cases am : nI m = a_ar g
    · refine br_t am ?_
      have fits : ab_fits (rl_K a_ba f) (rl_K a_bb f) a_st a_ar i = true := by
        unfold ab_fits
        rw [eg, cg, em, decide_eq_true s2, decide_eq_true am.symm]; rfl
      by_cases m1 : m < 1
      · obtain rfl : m = 0 := by omega
        refine br_t (by decide) (yl_320 (y := ty_0) hb hf hn hi (by omega) hk2 hm hc hT ht he ty_0_ok (fun z => absurd z (by decide)) ?_)
        rw [em, if_pos nI_0] at ho
        unfold ab_cl0 ab_gd at ho
        rw [fits, if_pos rfl, eg, cg] at ho
        rw [if_neg (by decide), ← ho]
        exact H
      · refine br_f (fun z => m1 ((yc_k1 hm).mp z)) ?_
        rw [ex (by omega), xc_3, nI_clamp (by omega), ht _ (by omega)]
        refine ⟨vp_in_nI (by omega) (by omega), nm_e (yt_meet ox (hT _) ?_)⟩
        have ho' : o = if ty_meet x (tb (g * 3)) = ty_0 then none else (if m = 2 then (if ty_meet y (tb (g * 3 + 1)) = ty_0 then none else ab_fin (tb (g * 3 + 2)) (ab_nv (rl_K a_bk f) (rl_K a_ba f) (bs_ch (rl_c (rl_K a_bk f) (rl_K a_bb f)) i 1) (tb (g * 3 + 1)) (ab_nv (rl_K a_bk f) (rl_K a_ba f) (bs_ch (rl_c (rl_K a_bk f) (rl_K a_bb f)) i 0) (tb (g * 3)) e))) else ab_fin (tb (g * 3 + 2)) (ab_nv (rl_K a_bk f) (rl_K a_ba f) (bs_ch (rl_c (rl_K a_bk f) (rl_K a_bb f)) i 0) (tb (g * 3)) e)) := by
          rw [em] at ho
          have mm : m = 1 ∨ m = 2 := by omega
          rcases mm with rfl | rfl
          · rw [if_neg (by decide), if_pos (by decide)] at ho
            unfold ab_cl1 ab_gd ab_arg at ho
            rw [fits, if_pos rfl, eg, cg] at ho
            rw [if_neg (show ¬ (1 : Nat) = 2 by decide)]
            exact ho
          · rw [if_neg (by decide), if_neg (by decide)] at ho
            unfold ab_cl2 ab_gd ab_arg at ho
            rw [fits, if_pos rfl, eg, cg] at ho
            rw [if_pos rfl]
            exact ho
        by_cases z : ty_meet x (tb (g * 3)) = ty_0
        · rw [if_pos z] at ho'
          exact br_t ((ty_y_0 (ty_meet_ok ox (hT _))).mpr z) (H0 ho')
        · rw [if_neg z] at ho'
          rw [ho'] at H
          refine br_f (fun q => z ((ty_y_0 (ty_meet_ok ox (hT _))).mp q)) ?_
          have l0 := bs_ch_lt hb.2.2 hi (k := 0) (by omega)
          refine yn_nar (C := fun a b => wY_stepCall_320 Q (nI f) (nI i) (nI g) (nI m) a b x10 (nI N) f_cap f_ana f_res f_anyT f_intsT f_wp f_vp f_made f_active f_xp (nI k) f_rBot f_rR f_rE0 f_rE1 a_st a_ar a_size a_bk a_ba a_bb a_ds a_tab a_nxt a_wN a_wS a_wF a_vs a_frS a_frP0 a_frP1 a_xN a_xS a_xE0 a_xE1 a_xA a_xB a_xC a_xD a_xE a_xF a_xG) (j := 0) hb hf hn hi (by omega) (xa_eo_xe he) (hT _) ?_
          exact yl_320 hb hf hn hi (by omega) hk2 hm hc hT ht (ab_nv_eo (ab_var hb (by omega)) (hT _) he) oy ey H
    · exact br_f am (H0 (xc_nofit (fun z => am (by rw [← em, ← z.2, eg, cg])) ho))
  · exact br_f s2 (H0 (xc_nofit (fun z => s2 (by rw [← z.1, eg, cg])) ho))
theorem yr_10 {tb : Nat → ty_T} (hb : ab_bd N k n (rl_K a_bk f) (rl_K a_ba f) (rl_K a_bb f) (rl_c (rl_K a_bk f) (rl_K a_bb f))) (hN : N ≤ 8) (hk2 : k ≤ 2) (hf : f < 8) (hn : n ≤ 128) (hT : ∀ q, ty_ok (tb q)) (htb : ∀ q, q < 24 → a_tab q = ty_y (tb q)) : ya_R10 k n (rl_K a_bk f) (rl_K a_ba f) (rl_K a_bb f) a_st a_ar tb (yc_A post f (nI N) f_cap f_ana f_res f_anyT f_intsT f_wp f_vp f_made f_active f_xp (nI k) f_rBot f_rR f_rE0 f_rE1 a_st a_ar a_size a_bk a_ba a_bb a_ds a_tab a_nxt a_wN a_wS a_wF a_vs a_frS a_frP0 a_frP1 a_xN a_xS a_xE0 a_xE1 a_xA a_xB a_xC a_xD a_xE a_xF a_xG) := by
  intro t p Z b r e0 e1 i e ht hp hi h0 h1 hK b0 he h2 h3 hk fuel hfu
  obtain ⟨fuel, rfl⟩ : ∃ m, fuel = m + 1 := ⟨fuel - 1, by omega⟩
  have w : vp_in (nI p) 16 := vp_in_nI (by omega) (by decide)
  have cp : (nI p).toNatClampNeg = p := nI_clamp (by omega)
  have wi : vp_in (nI (f * 128 + i)) 1024 := vp_in_nI (by omega) (by decide)
  have ci : (nI (f * 128 + i)).toNatClampNeg = f * 128 + i := nI_clamp (by omega)
  obtain ⟨g, hg, eg⟩ := (hb.1 i hi).2.2.2.2.1 hK
  refine br_f (nI_ge (b := 4096) ht (by decide)) (br_f (nI_nle (Nat.succ_pos p) (by omega)) (nm_r (e' := nI p) (yc_top hp) ⟨w, nm_r (e' := nI i) (by rw [cp]; exact h0) ⟨w, nm_r (e' := 0) (by rw [cp]; exact h1) (nm_r (yk_ix hf (by omega)) ⟨wi, nm_r (e' := 9) (by rw [ci]; exact hK) ⟨wi, nm_r (e' := rl_K a_ba f i) (by rw [ci]; rfl) (br_f (by decide) (br_f (by decide) (br_f (by decide) (br_f (by decide) (br_t rfl ⟨wi, ?_⟩))))) ⟩⟩)⟩⟩))
  rw [ci, show a_bb (f * 128 + i) = nI 0 from b0, eg]
  unfold wpY_stepCall
  dsimp only
  refine br_t (by decide) (br_t (by decide) (nm_r (nI_pred p) ⟨w, nm_r (e' := ty_y e.1) (by rw [cp]; exact h2) ⟨w, nm_r (e' := ty_y e.2) (by rw [cp]; exact h3) (br_t (by decide) (br_f (by decide) (br_f (by decide) ?_)))⟩⟩))
  exact yl_190 (m := 0) (x := ty_0) (y := ty_0) hb hN hf hn hi hK hg eg hk2 (by decide) b0 hT htb he ty_0_ok ty_0_ok (fun z => absurd z (by decide)) (fun z => absurd z (by decide)) (by rw [if_pos b0]) (ya_k_imp (fun b r e0 e1 h => nm_r (nI_1 t) (h fuel (by omega))) hk)
theorem yr_11 {tb : Nat → ty_T} (hb : ab_bd N k n (rl_K a_bk f) (rl_K a_ba f) (rl_K a_bb f) (rl_c (rl_K a_bk f) (rl_K a_bb f))) (hN : N ≤ 8) (hk2 : k ≤ 2) (hf : f < 8) (hn : n ≤ 128) (hT : ∀ q, ty_ok (tb q)) (htb : ∀ q, q < 24 → a_tab q = ty_y (tb q)) : ya_R11 k n (rl_K a_bk f) (rl_K a_ba f) (rl_K a_bb f) a_st a_ar (rl_c (rl_K a_bk f) (rl_K a_bb f)) tb (yc_A post f (nI N) f_cap f_ana f_res f_anyT f_intsT f_wp f_vp f_made f_active f_xp (nI k) f_rBot f_rR f_rE0 f_rE1 a_st a_ar a_size a_bk a_ba a_bb a_ds a_tab a_nxt a_wN a_wS a_wF a_vs a_frS a_frP0 a_frP1 a_xN a_xS a_xE0 a_xE1 a_xA a_xB a_xC a_xD a_xE a_xF a_xG) := by
  intro t p Z i x e ht hp hi h0 h1 hK b1 ox he hk fuel hfu
  obtain ⟨fuel, rfl⟩ : ∃ m, fuel = m + 1 := ⟨fuel - 1, by omega⟩
  have w : vp_in (nI p) 16 := vp_in_nI (by omega) (by decide)
  have cp : (nI p).toNatClampNeg = p := nI_clamp (by omega)
  have wi : vp_in (nI (f * 128 + i)) 1024 := vp_in_nI (by omega) (by decide)
  have ci : (nI (f * 128 + i)).toNatClampNeg = f * 128 + i := nI_clamp (by omega)
  obtain ⟨g, hg, eg⟩ := (hb.1 i hi).2.2.2.2.1 hK
  refine br_f (nI_ge (b := 4096) ht (by decide)) (br_f (nI_nle (Nat.succ_pos p) (by omega)) (nm_r (e' := nI p) (yc_top hp) ⟨w, nm_r (e' := nI i) (by rw [cp]; exact h0) ⟨w, nm_r (e' := 1) (by rw [cp]; exact h1) (nm_r (yk_ix hf (by omega)) ⟨wi, nm_r (e' := 9) (by rw [ci]; exact hK) ⟨wi, nm_r (e' := rl_K a_ba f i) (by rw [ci]; rfl) (br_f (by decide) (br_f (by decide) (br_f (by decide) (br_f (by decide) (br_t rfl ⟨wi, ?_⟩))))) ⟩⟩)⟩⟩))
  rw [ci, show a_bb (f * 128 + i) = nI 1 from b1, eg]
  unfold wpY_stepCall
  dsimp only
  refine br_f (by decide) (br_f (by decide) (br_t (by decide) (nm_r (nI_pred p) ⟨w, nm_e ⟨w, nm_e (br_f (by decide) (br_t (by decide) (br_f (by decide) ?_)))⟩⟩)))
  exact yl_190 (m := 1) (y := ty_0) hb hN hf hn hi hK hg eg hk2 (by decide) b1 hT htb he ox ty_0_ok (fun _ => rfl) (fun z => absurd z (by decide)) (by rw [if_neg (by rw [b1]; decide), if_pos b1]) (ya_k_imp (fun b r e0 e1 h => nm_r (nI_1 t) (h fuel (by omega))) hk)
theorem yr_12 {tb : Nat → ty_T} (hb : ab_bd N k n (rl_K a_bk f) (rl_K a_ba f) (rl_K a_bb f) (rl_c (rl_K a_bk f) (rl_K a_bb f))) (hN : N ≤ 8) (hk2 : k ≤ 2) (hf : f < 8) (hn : n ≤ 128) (hT : ∀ q, ty_ok (tb q)) (htb : ∀ q, q < 24 → a_tab q = ty_y (tb q)) : ya_R12 k n (rl_K a_bk f) (rl_K a_ba f) (rl_K a_bb f) a_st a_ar (rl_c (rl_K a_bk f) (rl_K a_bb f)) tb (yc_A post f (nI N) f_cap f_ana f_res f_anyT f_intsT f_wp f_vp f_made f_active f_xp (nI k) f_rBot f_rR f_rE0 f_rE1 a_st a_ar a_size a_bk a_ba a_bb a_ds a_tab a_nxt a_wN a_wS a_wF a_vs a_frS a_frP0 a_frP1 a_xN a_xS a_xE0 a_xE1 a_xA a_xB a_xC a_xD a_xE a_xF a_xG) := by
  intro t p Z i x y e ht hp hi h0 h1 hK b2 h4 ox oy he hk fuel hfu
  obtain ⟨fuel, rfl⟩ : ∃ m, fuel = m + 1 := ⟨fuel - 1, by omega⟩
  have w : vp_in (nI p) 16 := vp_in_nI (by omega) (by decide)
  have cp : (nI p).toNatClampNeg = p := nI_clamp (by omega)
  have wi : vp_in (nI (f * 128 + i)) 1024 := vp_in_nI (by omega) (by decide)
  have ci : (nI (f * 128 + i)).toNatClampNeg = f * 128 + i := nI_clamp (by omega)
  obtain ⟨g, hg, eg⟩ := (hb.1 i hi).2.2.2.2.1 hK
  refine br_f (nI_ge (b := 4096) ht (by decide)) (br_f (nI_nle (Nat.succ_pos p) (by omega)) (nm_r (e' := nI p) (yc_top hp) ⟨w, nm_r (e' := nI i) (by rw [cp]; exact h0) ⟨w, nm_r (e' := 2) (by rw [cp]; exact h1) (nm_r (yk_ix hf (by omega)) ⟨wi, nm_r (e' := 9) (by rw [ci]; exact hK) ⟨wi, nm_r (e' := rl_K a_ba f i) (by rw [ci]; rfl) (br_f (by decide) (br_f (by decide) (br_f (by decide) (br_f (by decide) (br_t rfl ⟨wi, ?_⟩))))) ⟩⟩)⟩⟩))
  rw [ci, show a_bb (f * 128 + i) = nI 2 from b2, eg]
  unfold wpY_stepCall
  dsimp only
  refine br_f (by decide) (br_f (by decide) (br_t (by decide) (nm_r (nI_pred p) ⟨w, nm_e ⟨w, nm_e (br_f (by decide) (br_f (by decide) (br_t (by decide) ⟨w, nm_r (e' := ty_y x) (by rw [cp]; exact h4) ?_⟩)))⟩⟩)))
  exact yl_190 (m := 2) hb hN hf hn hi hK hg eg hk2 (by decide) b2 hT htb he ox oy (fun _ => rfl) (fun _ => rfl) (by rw [if_neg (by rw [b2]; decide), if_neg (by rw [b2]; decide)]) (ya_k_imp (fun b r e0 e1 h => nm_r (nI_1 t) (h fuel (by omega))) hk)
end
end
section
def ys_z (a0 a1 a2 a3 a4 a5 a6 a7 a8 a9 a10 : Nat → Int32) : Nat → Nat → Int32 := fun q => match q with
  | 0 => a0
  | 1 => a1
  | 2 => a2
  | 3 => a3
  | 4 => a4
  | 5 => a5
  | 6 => a6
  | 7 => a7
  | 8 => a8
  | 9 => a9
  | _ => a10
section
variable {f_n f_cap f_ana f_res f_anyT f_intsT f_wp f_vp f_made f_active f_xp f_curK f_rBot f_rR f_rE0 f_rE1 : Int32} {a_st a_ar a_size a_bk a_ba a_bb a_ds a_tab a_nxt a_wN a_wS a_wF a_vs a_frS a_frP0 a_frP1 a_xN a_xS a_xE0 a_xE1 a_xA a_xB a_xC a_xD a_xE a_xF a_xG : Nat → Int32} {N k n f : Nat} {post : SY → Prop}
theorem ys_abs {Q : SY → Prop} {tb : Nat → ty_T} {S U : Nat} {szX sX kd fo so ch pa dp : Nat → Int32} (hf : f < N) (hN : N ≤ 8) (hs : rl_slot N U f n S a_st a_ar szX a_size sX a_bk a_ba a_bb kd fo so ch pa dp) (s2 : a_st f = 2)
    (hT : ∀ q, ty_ok (tb q)) (htb : ∀ q, q < 24 → a_tab q = ty_y (tb q)) (hi0 : f_intsT = ty_y ty_ints) (ha0 : f_anyT = ty_y ty_any)
    (H : ∀ (cK xq : Int32) (Z' : Nat → Nat → Int32), ya_k (fun b r e0 e1 => Q (nI N, f_cap, f_ana, f_res, f_anyT, f_intsT, f_wp, f_vp, f_made, f_active, xq, cK, b, r, e0, e1, a_st, a_ar, a_size, a_bk, a_ba, a_bb, a_ds, a_tab, a_nxt, a_wN, a_wS, a_wF, a_vs, a_frS, a_frP0, a_frP1, Z' 0, Z' 1, Z' 2, Z' 3, Z' 4, Z' 5, Z' 6, Z' 7, Z' 8, Z' 9, Z' 10)) (ab_ev (rl_K a_bk f) (rl_K a_ba f) (rl_K a_bb f) a_st a_ar (rl_c (rl_K a_bk f) (rl_K a_bb f)) tb 128 (n - 1) (ty_any, ty_any))) : wpY_absEval Q (nI N, f_cap, f_ana, f_res, f_anyT, f_intsT, f_wp, f_vp, f_made, f_active, f_xp, f_curK, f_rBot, f_rR, f_rE0, f_rE1, a_st, a_ar, a_size, a_bk, a_ba, a_bb, a_ds, a_tab, a_nxt, a_wN, a_wS, a_wF, a_vs, a_frS, a_frP0, a_frP1, a_xN, a_xS, a_xE0, a_xE1, a_xA, a_xB, a_xC, a_xD, a_xE, a_xF, a_xG) (nI f) := by
  obtain ⟨_, g1, g2⟩ := hs
  obtain ⟨e1, e2, e3, e4, k, hk, ek, hB⟩ := g1 (by rw [s2]; decide)
  obtain ⟨n0, pc1, pr⟩ := g2 s2
  have hS := hB.1
  have hb := hB.2.1
  have w : vp_in (nI f) 8 := vp_in_nI (by omega) (by decide)
  have cl : (nI f).toNatClampNeg = f := nI_clamp (by omega)
  unfold wpY_absEval
  dsimp only
  rw [cl, e2, ek, ha0]
  refine ⟨w, nm_e ⟨w, br_t (nI_le (a := 1) (by omega) (by omega)) ⟨w, ?_⟩⟩⟩
  rw [show nI n - 1 = nI (n - 1) from pk_sub (b := 1) (by omega)]
  refine yc_push (p := 0) (Z := ys_z a_xN a_xS a_xE0 a_xE1 a_xA a_xB a_xC a_xD a_xE a_xF a_xG) (by decide) ⟨4097, ?_⟩
  have sim := ya_sim (D := rl_D S dp) (RA := yc_A Q f (nI N) f_cap f_ana f_res (ty_y ty_any) f_intsT f_wp f_vp f_made f_active f_xp (nI k) f_rBot f_rR f_rE0 f_rE1 a_st a_ar a_size a_bk a_ba a_bb a_ds a_tab a_nxt a_wN a_wS a_wF a_vs a_frS a_frP0 a_frP1 a_xN a_xS a_xE0 a_xE1 a_xA a_xB a_xC a_xD a_xE a_xF a_xG) hb (fun i hi j hj => rl_D_ch hB hi hj) hT (yr_1 hb hk (by omega) (by omega)) (yr_2 hb (by omega) (by omega)) (yr_3 hb (by omega) (by omega)) (yr_4 hb (by omega) (by omega)) (yr_5 hb hk (by omega) (by omega)) (yr_6 hb hk (by omega) (by omega) hi0)
    (yr_7 hb hk (by omega) (by omega) hi0) (yr_8 hb hk (by omega) (by omega)) (yr_9 (by omega) (by omega)) (yr_10 hb hN hk (by omega) (by omega) hT htb) (yr_11 hb hN hk (by omega) (by omega) hT htb) (yr_12 hb hN hk (by omega) (by omega) hT htb) 128
  have dd := rl_D_in hB (show n - 1 < n by omega)
  have sl := bs_ss_le (rl_c (rl_K a_bk f) (rl_K a_bb f)) (n - 1)
  refine sim (n - 1) (ty_any, ty_any) 0 0 (ya_push (ys_z a_xN a_xS a_xE0 a_xE1 a_xA a_xB a_xC a_xD a_xE a_xF a_xG) 0 (n - 1) (ty_y ty_any) (ty_y ty_any)) 1 f_rR f_rE0 f_rE1 (by omega) (by omega) (sp_any_eo k) (by omega) (ya_push_0 ..) (ya_push_1 ..) (ya_push_2 ..) (ya_push_3 ..) (by omega) ?_ 4097 (by omega)
  intro t' Z' ht' _
  refine ya_k_imp (fun b r e0 e1 h => ?_) (H (nI k) (nI 0) Z')
  intro fuel hfu
  obtain ⟨fuel, rfl⟩ : ∃ m, fuel = m + 1 := ⟨fuel - 1, by omega⟩
  rw [ha0] at h
  exact br_f (nI_ge (b := 4096) (by omega) (by decide)) (br_t (by decide) (br_t (by decide) h))
theorem ys_fld {k : Nat} (hk2 : k ≤ 2) (x : ty_T × ab_E) : ty_y (sp_fld (nI k) 0 (some x)) = (if k < 1 then 0 else ty_y x.2.1) ∧ ty_y (sp_fld (nI k) 1 (some x)) = (if k < 2 then 0 else ty_y x.2.2) ∧ ty_y (sp_fld (nI k) 2 (some x)) = ty_y x.1 := by
  have e1 : (1 : Int32) ≤ nI k ↔ 1 ≤ k := by rw [show (1 : Int32) = nI 1 by decide, nI_leI (by omega) (by omega)]
  have e2 : (2 : Int32) ≤ nI k ↔ 2 ≤ k := by rw [show (2 : Int32) = nI 2 by decide, nI_leI (by omega) (by omega)]
  refine ⟨?_, ?_, rfl⟩
  · show ty_y (if (0 : Nat) = 2 then x.1 else if (0 : Nat) = 0 then (if 1 ≤ nI k then x.2.1 else ty_0) else (if 2 ≤ nI k then x.2.2 else ty_0)) = if k < 1 then 0 else ty_y x.2.1
    rw [if_neg (by decide), if_pos rfl]
    by_cases c : k < 1
    · rw [if_pos c, if_neg (fun z => by have := e1.mp z; omega), ty_y_00]
    · rw [if_neg c, if_pos (e1.mpr (by omega))]
  · show ty_y (if (1 : Nat) = 2 then x.1 else if (1 : Nat) = 0 then (if 1 ≤ nI k then x.2.1 else ty_0) else (if 2 ≤ nI k then x.2.2 else ty_0)) = if k < 2 then 0 else ty_y x.2.2
    rw [if_neg (by decide), if_neg (by decide)]
    by_cases c : k < 2
    · rw [if_pos c, if_neg (fun z => by have := e2.mp z; omega), ty_y_00]
    · rw [if_neg c, if_pos (e2.mpr (by omega))]
def ys_nx (f : Nat) (NX0 NX : Nat → Int32) (s : Int32) (a : Int32) (o : ab_O) : Prop :=
  (∀ q, q ≠ f * 3 → q ≠ f * 3 + 1 → q ≠ f * 3 + 2 → NX q = NX0 q) ∧ ∀ j, j < 3 → NX (f * 3 + j) = ty_y (if s = 2 then sp_fld a j o else ty_0)
theorem ys_78 {Q : SY → Prop} {k : Nat} (hf : f < 8) (ek : a_ar f = nI k) (hk : k ≤ 2) (H : Q (f_n, f_cap, f_ana, f_res, f_anyT, f_intsT, f_wp, f_vp, f_made, f_active, f_xp, f_curK, f_rBot, f_rR, f_rE0, f_rE1, a_st, a_ar, a_size, a_bk, a_ba, a_bb, a_ds, a_tab, upd (if k < 2 then a_nxt else upd a_nxt (f * 3 + 1) f_rE1) (f * 3 + 2) f_rR, a_wN, a_wS, a_wF, a_vs, a_frS, a_frP0, a_frP1, a_xN, a_xS, a_xE0, a_xE1, a_xA, a_xB, a_xC, a_xD, a_xE, a_xF, a_xG)) : wY_stepSlot_78 Q (nI f) f_n f_cap f_ana f_res f_anyT f_intsT f_wp f_vp f_made f_active f_xp f_curK f_rBot f_rR f_rE0 f_rE1 a_st a_ar a_size a_bk a_ba a_bb a_ds a_tab a_nxt a_wN a_wS a_wF a_vs a_frS a_frP0 a_frP1 a_xN a_xS a_xE0 a_xE1 a_xA a_xB a_xC a_xD a_xE a_xF a_xG := by
  have w : vp_in (nI f) 8 := vp_in_nI (by omega) (by decide)
  have cl : (nI f).toNatClampNeg = f := nI_clamp (by omega)
  unfold wY_stepSlot_78
  rw [cl, ek, xc_31, nI_clamp (n := f * 3 + 1) (by omega)]
  refine ⟨w, ?_⟩
  by_cases c : k < 2
  · rw [if_pos c] at H
    refine br_t ((yc_k2 hk).mpr c) ?_
    unfold wY_stepSlot_102
    rw [xc_32, nI_clamp (n := f * 3 + 2) (by omega)]
    exact ⟨vp_in_nI (by omega) (by omega), nm_e H⟩
  · rw [if_neg c] at H
    refine br_f (fun z => c ((yc_k2 hk).mp z)) ⟨vp_in_nI (by omega) (by omega), nm_e ?_⟩
    unfold wY_stepSlot_102
    rw [xc_32, nI_clamp (n := f * 3 + 2) (by omega)]
    exact ⟨vp_in_nI (by omega) (by omega), nm_e H⟩
theorem ys_slot {Q : SY → Prop} {tb : Nat → ty_T} {S U : Nat} {szX sX kd fo so ch pa dp : Nat → Int32} (hf : f < N) (hN : N ≤ 8) (hs : rl_slot N U f n S a_st a_ar szX a_size sX a_bk a_ba a_bb kd fo so ch pa dp)
    (hT : ∀ q, ty_ok (tb q)) (htb : ∀ q, q < 24 → a_tab q = ty_y (tb q)) (hi0 : f_intsT = ty_y ty_ints) (ha0 : f_anyT = ty_y ty_any)
    (H : ∀ NX : Nat → Int32, ys_nx f a_nxt NX (a_st f) (a_ar f) (ab_ev (rl_K a_bk f) (rl_K a_ba f) (rl_K a_bb f) a_st a_ar (rl_c (rl_K a_bk f) (rl_K a_bb f)) tb 128 (n - 1) (ty_any, ty_any)) → ∀ (cK xq b r e0 e1 : Int32) (Z' : Nat → Nat → Int32), Q (nI N, f_cap, f_ana, f_res, f_anyT, f_intsT, f_wp, f_vp, f_made, f_active, xq, cK, b, r, e0, e1, a_st, a_ar, a_size, a_bk, a_ba, a_bb, a_ds, a_tab, NX, a_wN, a_wS, a_wF, a_vs, a_frS, a_frP0, a_frP1, Z' 0, Z' 1, Z' 2, Z' 3, Z' 4, Z' 5, Z' 6, Z' 7, Z' 8, Z' 9, Z' 10)) : wpY_stepSlot Q (nI N, f_cap, f_ana, f_res, f_anyT, f_intsT, f_wp, f_vp, f_made, f_active, f_xp, f_curK, f_rBot, f_rR, f_rE0, f_rE1, a_st, a_ar, a_size, a_bk, a_ba, a_bb, a_ds, a_tab, a_nxt, a_wN, a_wS, a_wF, a_vs, a_frS, a_frP0, a_frP1, a_xN, a_xS, a_xE0, a_xE1, a_xA, a_xB, a_xC, a_xD, a_xE, a_xF, a_xG) (nI f) := by
  have w : vp_in (nI f) 8 := vp_in_nI (by omega) (by decide)
  have cl : (nI f).toNatClampNeg = f := nI_clamp (by omega)
  unfold wpY_stepSlot
  dsimp only
  rw [xc_31, xc_32, xc_3, cl, nI_clamp (n := f * 3) (by omega), nI_clamp (n := f * 3 + 1) (by omega), nI_clamp (n := f * 3 + 2) (by omega)]
  refine ⟨vp_in_nI (by omega) (by omega), nm_e ⟨vp_in_nI (by omega) (by omega), nm_e ⟨vp_in_nI (by omega) (by omega), nm_e ⟨w, ?_⟩⟩⟩⟩
  have z3 : ∀ q, q ≠ f * 3 → q ≠ f * 3 + 1 → q ≠ f * 3 + 2 → upd (upd (upd a_nxt (f * 3) 0) (f * 3 + 1) 0) (f * 3 + 2) 0 q = a_nxt q := fun q h1 h2 h3 => by rw [pk_un h3, pk_un h2, pk_un h1]
  by_cases s2 : a_st f = 2
  · refine br_t s2 (ys_abs hf hN hs s2 hT htb hi0 ha0 fun cK xq Z' => ?_)
    obtain ⟨_, g1, g2⟩ := hs
    obtain ⟨e1, e2, e3, e4, k, hk, ek, hB⟩ := g1 (by rw [s2]; decide)
    cases ho : ab_ev (rl_K a_bk f) (rl_K a_ba f) (rl_K a_bb f) a_st a_ar (rl_c (rl_K a_bk f) (rl_K a_bb f)) tb 128 (n - 1) (ty_any, ty_any) with
    | none =>
      intro r e0 e1
      rw [ho] at H
      refine br_t rfl (H _ ⟨z3, fun j hj => ?_⟩ cK xq 1 r e0 e1 Z')
      rw [if_pos s2]
      show _ = ty_y ty_0
      rw [ty_y_00]
      have jj : j = 0 ∨ j = 1 ∨ j = 2 := by omega
      rcases jj with rfl | rfl | rfl
      · rw [pk_un (by omega), pk_un (by omega)]; exact pk_us
      · rw [pk_un (by omega), pk_us]
      · exact pk_us
    | some x =>
      rw [ho] at H
      obtain ⟨u0, u1, u2⟩ := ys_fld hk x
      dsimp only [ya_k]
      refine br_f (by decide) ⟨w, ?_⟩
      rw [ek]
      by_cases c : k < 1
      · refine br_t ((yc_k1 hk).mpr c) (ys_78 (by omega) ek hk (H _ ⟨fun q h1 h2 h3 => ?_, fun j hj => ?_⟩ cK xq 0 _ _ _ Z'))
        · rw [if_pos (by omega), pk_un h3]; exact z3 q h1 h2 h3
        · rw [if_pos s2, ek, if_pos (by omega)]
          have jj : j = 0 ∨ j = 1 ∨ j = 2 := by omega
          rcases jj with rfl | rfl | rfl
          · rw [u0, if_pos c, pk_un (by omega), pk_un (by omega), pk_un (by omega)]; exact pk_us
          · rw [u1, if_pos (by omega), pk_un (by omega), pk_un (by omega), pk_us]
          · rw [u2, pk_us]
      · refine br_f (fun z => c ((yc_k1 hk).mp z)) ⟨vp_in_nI (by omega) (by omega), nm_e (ys_78 (by omega) ek hk (H _ ⟨fun q h1 h2 h3 => ?_, fun j hj => ?_⟩ cK xq 0 _ _ _ Z'))⟩
        · rw [pk_un h3]
          by_cases d : k < 2
          · rw [if_pos d, pk_un h1]; exact z3 q h1 h2 h3
          · rw [if_neg d, pk_un h2, pk_un h1]; exact z3 q h1 h2 h3
        · rw [if_pos s2, ek]
          have jj : j = 0 ∨ j = 1 ∨ j = 2 := by omega
          rcases jj with rfl | rfl | rfl
          · rw [u0, if_neg c, pk_un (by omega)]
            by_cases d : k < 2
            · rw [if_pos d]; exact pk_us
            · rw [if_neg d, pk_un (by omega)]; exact pk_us
          · rw [u1, pk_un (by omega)]
            by_cases d : k < 2
            · rw [if_pos d, if_pos d, pk_un (by omega), pk_un (by omega), pk_us]
            · rw [if_neg d, if_neg d, pk_us]
          · rw [u2, pk_us]
  · refine br_f s2 (H _ ⟨z3, fun j hj => ?_⟩ f_curK f_xp f_rBot f_rR f_rE0 f_rE1 (ys_z a_xN a_xS a_xE0 a_xE1 a_xA a_xB a_xC a_xD a_xE a_xF a_xG))
    rw [if_neg s2, ty_y_00]
    have jj : j = 0 ∨ j = 1 ∨ j = 2 := by omega
    rcases jj with rfl | rfl | rfl
    · rw [pk_un (by omega), pk_un (by omega)]; exact pk_us
    · rw [pk_un (by omega), pk_us]
    · exact pk_us
end
end
section
section
variable {f_n f_cap f_ana f_res f_anyT f_intsT f_wp f_vp f_made f_active f_xp f_curK f_rBot f_rR f_rE0 f_rE1 : Int32} {a_st a_ar a_size a_bk a_ba a_bb a_ds a_tab a_nxt a_wN a_wS a_wF a_vs a_frS a_frP0 a_frP1 a_xN a_xS a_xE0 a_xE1 a_xA a_xB a_xC a_xD a_xE a_xF a_xG : Nat → Int32} {N : Nat} {post : Int32 → SY → Prop}
theorem ym_cnt {tb : Nat → ty_T} (hN : N ≤ 8) (hT : ∀ q, ty_ok (tb q)) (htb : ∀ q, q < 24 → a_tab q = ty_y (tb q)) (H : post (nI (an_cnt a_st tb N)) (nI N, f_cap, f_ana, f_res, f_anyT, f_intsT, f_wp, f_vp, f_made, f_active, f_xp, f_curK, f_rBot, f_rR, f_rE0, f_rE1, a_st, a_ar, a_size, a_bk, a_ba, a_bb, a_ds, a_tab, a_nxt, a_wN, a_wS, a_wF, a_vs, a_frS, a_frP0, a_frP1, a_xN, a_xS, a_xE0, a_xE1, a_xA, a_xB, a_xC, a_xD, a_xE, a_xF, a_xG)) : ∃ fuel, wY_analyze_118 post (nI N) f_cap f_ana f_res f_anyT f_intsT f_wp f_vp f_made f_active f_xp f_curK f_rBot f_rR f_rE0 f_rE1 a_st a_ar a_size a_bk a_ba a_bb a_ds a_tab a_nxt a_wN a_wS a_wF a_vs a_frS a_frP0 a_frP1 a_xN a_xS a_xE0 a_xE1 a_xA a_xB a_xC a_xD a_xE a_xF a_xG fuel 0 0 := by
  have loop : ∀ d i fuel, i + d = N → d < fuel → wY_analyze_118 post (nI N) f_cap f_ana f_res f_anyT f_intsT f_wp f_vp f_made f_active f_xp f_curK f_rBot f_rR f_rE0 f_rE1 a_st a_ar a_size a_bk a_ba a_bb a_ds a_tab a_nxt a_wN a_wS a_wF a_vs a_frS a_frP0 a_frP1 a_xN a_xS a_xE0 a_xE1 a_xA a_xB a_xC a_xD a_xE a_xF a_xG fuel (nI (an_cnt a_st tb i)) (nI i) := by
    intro d
    induction d with
    | zero =>
      intro i fuel h1 h2
      obtain ⟨fuel, rfl⟩ : ∃ m, fuel = m + 1 := ⟨fuel - 1, by omega⟩
      obtain rfl : i = N := by omega
      exact br_t (nI_le (Nat.le_refl _) (by omega)) H
    | succ d ih =>
      intro i fuel h1 h2
      obtain ⟨fuel, rfl⟩ : ∃ m, fuel = m + 1 := ⟨fuel - 1, by omega⟩
      have w : vp_in (nI i) 8 := vp_in_nI (by omega) (by decide)
      have cl : (nI i).toNatClampNeg = i := nI_clamp (by omega)
      have hh := ih (i + 1) fuel (by omega) (by omega)
      rw [an_cnt_s] at hh
      refine br_f (nI_ge (by omega) (by omega)) ⟨w, ?_⟩
      rw [xc_32, nI_clamp (n := i * 3 + 2) (by omega), cl, htb _ (by omega)]
      by_cases s2 : a_st i = 2
      · refine br_t s2 ⟨vp_in_nI (by omega) (by omega), ?_⟩
        by_cases z : tb (i * 3 + 2) = ty_0
        · rw [if_pos ⟨s2, z⟩] at hh
          exact br_t ((ty_y_0 (hT _)).mpr z) (nm_r (nI_1 _) (nm_r (nI_1 _) hh))
        · rw [if_neg (fun y => z y.2)] at hh
          exact br_f (fun y => z ((ty_y_0 (hT _)).mp y)) (nm_r (nI_1 _) hh)
      · rw [if_neg (fun y => s2 y.1)] at hh
        exact br_f s2 (nm_r (nI_1 _) hh)
  exact ⟨N + 1, loop N 0 (N + 1) (by omega) (by omega)⟩
theorem ym_take {J : Int32 → Int32 → Int32 → Int32 → Int32 → Int32 → Int32 → Int32 → Int32 → Int32 → Int32 → Int32 → Int32 → Int32 → Int32 → Int32 → Int32 → (Nat → Int32) → (Nat → Int32) → (Nat → Int32) → (Nat → Int32) → (Nat → Int32) → (Nat → Int32) → (Nat → Int32) → (Nat → Int32) → (Nat → Int32) → (Nat → Int32) → (Nat → Int32) → (Nat → Int32) → (Nat → Int32) → (Nat → Int32) → (Nat → Int32) → (Nat → Int32) → (Nat → Int32) → (Nat → Int32) → (Nat → Int32) → (Nat → Int32) → (Nat → Int32) → (Nat → Int32) → (Nat → Int32) → (Nat → Int32) → (Nat → Int32) → (Nat → Int32) → (Nat → Int32) → Prop} {r : Nat} {tb tb' : Nat → ty_T} (hT : ∀ q, ty_ok (tb q)) (hT' : ∀ q, ty_ok (tb' q)) (htb : ∀ q, q < 24 → a_tab q = ty_y (tb q)) (hnx : ∀ q, q < 24 → a_nxt q = ty_y (tb' q))
    (H1 : (∀ q, q < 24 → tb' q = tb q) → ∀ TA : Nat → Int32, (∀ q, q < 24 → TA q = ty_y (tb' q)) → ∃ m, wY_analyze_118 post f_n f_cap 1 f_res f_anyT f_intsT f_wp f_vp f_made f_active f_xp f_curK f_rBot f_rR f_rE0 f_rE1 a_st a_ar a_size a_bk a_ba a_bb a_ds TA a_nxt a_wN a_wS a_wF a_vs a_frS a_frP0 a_frP1 a_xN a_xS a_xE0 a_xE1 a_xA a_xB a_xC a_xD a_xE a_xF a_xG m 0 0) (H2 : (¬ ∀ q, q < 24 → tb' q = tb q) → ∀ TA : Nat → Int32, (∀ q, q < 24 → TA q = ty_y (tb' q)) → J (nI (r + 1)) f_n f_cap f_ana f_res f_anyT f_intsT f_wp f_vp f_made f_active f_xp f_curK f_rBot f_rR f_rE0 f_rE1 a_st a_ar a_size a_bk a_ba a_bb a_ds TA a_nxt a_wN a_wS a_wF a_vs a_frS a_frP0 a_frP1 a_xN a_xS a_xE0 a_xE1 a_xA a_xB a_xC a_xD a_xE a_xF a_xG) :
    ∃ fuel, wY_analyze_55 post J (nI r) f_n f_cap f_ana f_res f_anyT f_intsT f_wp f_vp f_made f_active f_xp f_curK f_rBot f_rR f_rE0 f_rE1 fuel 1 0 a_st a_ar a_size a_bk a_ba a_bb a_ds a_tab a_nxt a_wN a_wS a_wF a_vs a_frS a_frP0 a_frP1 a_xN a_xS a_xE0 a_xE1 a_xA a_xB a_xC a_xD a_xE a_xF a_xG := by
  have loop : ∀ d i fuel (c : Int32) (TA : Nat → Int32), i + d = 24 → d < fuel → (∀ q, q < i → TA q = ty_y (tb' q)) → (∀ q, i ≤ q → q < 24 → TA q = ty_y (tb q)) → (c = 1 ∧ (∀ q, q < i → tb' q = tb q) ∨ c = 0 ∧ ∃ q, q < i ∧ tb' q ≠ tb q) →
      wY_analyze_55 post J (nI r) f_n f_cap f_ana f_res f_anyT f_intsT f_wp f_vp f_made f_active f_xp f_curK f_rBot f_rR f_rE0 f_rE1 fuel c (nI i) a_st a_ar a_size a_bk a_ba a_bb a_ds TA a_nxt a_wN a_wS a_wF a_vs a_frS a_frP0 a_frP1 a_xN a_xS a_xE0 a_xE1 a_xA a_xB a_xC a_xD a_xE a_xF a_xG := by
    intro d
    induction d with
    | zero =>
      intro i fuel c TA h1 h2 s1 s2 hc
      obtain ⟨fuel, rfl⟩ : ∃ m, fuel = m + 1 := ⟨fuel - 1, by omega⟩
      obtain rfl : i = 24 := by omega
      refine br_t (by decide) ?_
      rcases hc with ⟨rfl, hc⟩ | ⟨rfl, q, hq, hc⟩
      · exact br_f (by decide) (H1 hc TA s1)
      · exact br_t rfl (nm_r (nI_1 r) (H2 (fun z => hc (z q hq)) TA s1))
    | succ d ih =>
      intro i fuel c TA h1 h2 s1 s2 hc
      obtain ⟨fuel, rfl⟩ : ∃ m, fuel = m + 1 := ⟨fuel - 1, by omega⟩
      have w : vp_in (nI i) 24 := vp_in_nI (by omega) (by decide)
      have cl : (nI i).toNatClampNeg = i := nI_clamp (by omega)
      have step : ∀ c' : Int32, (c' = 1 ∧ (∀ q, q < i + 1 → tb' q = tb q) ∨ c' = 0 ∧ ∃ q, q < i + 1 ∧ tb' q ≠ tb q) → wY_analyze_78 post J (wY_analyze_55 post J (nI r) f_n f_cap f_ana f_res f_anyT f_intsT f_wp f_vp f_made f_active f_xp f_curK f_rBot f_rR f_rE0 f_rE1 fuel) (nI r) c' (nI i) f_n f_cap f_ana f_res f_anyT f_intsT f_wp f_vp f_made f_active f_xp f_curK f_rBot f_rR f_rE0 f_rE1 a_st a_ar a_size a_bk a_ba a_bb a_ds TA a_nxt a_wN a_wS a_wF a_vs a_frS a_frP0 a_frP1 a_xN a_xS a_xE0 a_xE1 a_xA a_xB a_xC a_xD a_xE a_xF a_xG := by
        intro c' hc'
        unfold wY_analyze_78
        rw [cl]
        refine ⟨w, w, nm_e (nm_r (nI_1 i) (ih (i + 1) fuel c' _ (by omega) (by omega) (fun q hq => ?_) (fun q h3 h4 => ?_) hc'))⟩
        · by_cases e : q = i
          · subst e; rw [pk_us]; exact hnx q (by omega)
          · rw [pk_un e]; exact s1 q (by omega)
        · rw [pk_un (by omega)]; exact s2 q (by omega) h4
      refine br_f (nI_ge (b := 24) (by omega) (by decide)) ⟨w, w, ?_⟩
      rw [cl, s2 i (by omega) (by omega), hnx i (by omega)]
      by_cases z : tb' i = tb i
      · refine br_t (by rw [z]) (step c ?_)
        rcases hc with ⟨c0, hc⟩ | ⟨c1, q, hq, hc⟩
        · refine Or.inl ⟨c0, fun q hq => ?_⟩
          by_cases e : q = i
          · subst e; exact z
          · exact hc q (by omega)
        · exact Or.inr ⟨c1, q, by omega, hc⟩
      · exact br_f (fun y => z (ty_y_inj (hT' i) (hT i) y)) (step 0 (Or.inr ⟨rfl, i, by omega, z⟩))
  exact ⟨25, loop 24 0 25 1 a_tab (by omega) (by omega) (fun q hq => absurd hq (Nat.not_lt_zero q)) (fun q _ hq => htb q hq) (Or.inl ⟨rfl, fun q hq => absurd hq (Nat.not_lt_zero q)⟩)⟩
end
section
variable {f_n f_cap f_ana f_res f_anyT f_intsT f_wp f_vp f_made f_active f_xp f_curK f_rBot f_rR f_rE0 f_rE1 : Int32} {a_st a_ar a_size a_bk a_ba a_bb a_ds a_tab a_nxt a_wN a_wS a_wF a_vs a_frS a_frP0 a_frP1 a_xN a_xS a_xE0 a_xE1 a_xA a_xB a_xC a_xD a_xE a_xF a_xG : Nat → Int32} {N U : Nat} {sz S : Nat → Nat} {szX sX kd fo so ch pa dp : Nat → Int32} {post : Int32 → SY → Prop}
theorem ym_32 {J : Int32 → Int32 → Int32 → Int32 → Int32 → Int32 → Int32 → Int32 → Int32 → Int32 → Int32 → Int32 → Int32 → Int32 → Int32 → Int32 → Int32 → (Nat → Int32) → (Nat → Int32) → (Nat → Int32) → (Nat → Int32) → (Nat → Int32) → (Nat → Int32) → (Nat → Int32) → (Nat → Int32) → (Nat → Int32) → (Nat → Int32) → (Nat → Int32) → (Nat → Int32) → (Nat → Int32) → (Nat → Int32) → (Nat → Int32) → (Nat → Int32) → (Nat → Int32) → (Nat → Int32) → (Nat → Int32) → (Nat → Int32) → (Nat → Int32) → (Nat → Int32) → (Nat → Int32) → (Nat → Int32) → (Nat → Int32) → (Nat → Int32) → (Nat → Int32) → Prop} {tb : Nat → ty_T} {r : Nat} (hN : N ≤ 8) (hs : rl_slots N U sz S a_st a_ar szX a_size sX a_bk a_ba a_bb kd fo so ch pa dp)
    (hT : ∀ q, ty_ok (tb q)) (htb : ∀ q, q < 24 → a_tab q = ty_y (tb q)) (hi0 : f_intsT = ty_y ty_ints) (ha0 : f_anyT = ty_y ty_any)
    (H1 : (∀ q, q < 24 → sp_step N (rl_K a_bk) (rl_K a_ba) (rl_K a_bb) a_st a_ar sz tb q = tb q) → ∀ TA NX : Nat → Int32, (∀ q, q < 24 → TA q = ty_y (sp_step N (rl_K a_bk) (rl_K a_ba) (rl_K a_bb) a_st a_ar sz tb q)) → (∀ q, 3 * N ≤ q → q < 24 → NX q = 0) → ∀ (cK xq b r' e0 e1 : Int32) (Z' : Nat → Nat → Int32), ∃ m, wY_analyze_118 post (nI N) f_cap 1 f_res f_anyT f_intsT f_wp f_vp f_made f_active xq cK b r' e0 e1 a_st a_ar a_size a_bk a_ba a_bb a_ds TA NX a_wN a_wS a_wF a_vs a_frS a_frP0 a_frP1 (Z' 0) (Z' 1) (Z' 2) (Z' 3) (Z' 4) (Z' 5) (Z' 6) (Z' 7) (Z' 8) (Z' 9) (Z' 10) m 0 0)
    (H2 : (¬ ∀ q, q < 24 → sp_step N (rl_K a_bk) (rl_K a_ba) (rl_K a_bb) a_st a_ar sz tb q = tb q) → ∀ TA NX : Nat → Int32, (∀ q, q < 24 → TA q = ty_y (sp_step N (rl_K a_bk) (rl_K a_ba) (rl_K a_bb) a_st a_ar sz tb q)) → (∀ q, 3 * N ≤ q → q < 24 → NX q = 0) → ∀ (cK xq b r' e0 e1 : Int32) (Z' : Nat → Nat → Int32), J (nI (r + 1)) (nI N) f_cap f_ana f_res f_anyT f_intsT f_wp f_vp f_made f_active xq cK b r' e0 e1 a_st a_ar a_size a_bk a_ba a_bb a_ds TA NX a_wN a_wS a_wF a_vs a_frS a_frP0 a_frP1 (Z' 0) (Z' 1) (Z' 2) (Z' 3) (Z' 4) (Z' 5) (Z' 6) (Z' 7) (Z' 8) (Z' 9) (Z' 10)) :
    ∀ d f fuel (NX : Nat → Int32) (cK xq b r' e0 e1 : Int32) (Z' : Nat → Nat → Int32), f + d = N → d < fuel → (∀ q, q < f * 3 → NX q = ty_y (sp_step N (rl_K a_bk) (rl_K a_ba) (rl_K a_bb) a_st a_ar sz tb q)) → (∀ q, 3 * N ≤ q → q < 24 → NX q = 0) →
      wY_analyze_32 post J (nI r) fuel (nI f) (nI N) f_cap f_ana f_res f_anyT f_intsT f_wp f_vp f_made f_active xq cK b r' e0 e1 a_st a_ar a_size a_bk a_ba a_bb a_ds a_tab NX a_wN a_wS a_wF a_vs a_frS a_frP0 a_frP1 (Z' 0) (Z' 1) (Z' 2) (Z' 3) (Z' 4) (Z' 5) (Z' 6) (Z' 7) (Z' 8) (Z' 9) (Z' 10) := by
  intro d
  have ok := sp_step_ok (rl_sp_ok hs) hT
  induction d with
  | zero =>
    intro f fuel NX cK xq b r' e0 e1 Z' h1 h2 n1 n2
    obtain ⟨fuel, rfl⟩ : ∃ m, fuel = m + 1 := ⟨fuel - 1, by omega⟩
    obtain rfl : f = N := by omega
    refine br_t (nI_le (Nat.le_refl _) (by omega)) ?_
    have nx : ∀ q, q < 24 → NX q = ty_y (sp_step f (rl_K a_bk) (rl_K a_ba) (rl_K a_bb) a_st a_ar sz tb q) := by
      intro q hq
      by_cases c : q < f * 3
      · exact n1 q c
      · rw [n2 q (by omega) hq]
        unfold sp_step
        rw [if_neg (fun z => by omega), ty_y_00]
    exact ym_take hT ok htb nx (fun e TA hTA => H1 e TA NX hTA n2 cK xq b r' e0 e1 Z') (fun e TA hTA => H2 e TA NX hTA n2 cK xq b r' e0 e1 Z')
  | succ d ih =>
    intro f fuel NX cK xq b r' e0 e1 Z' h1 h2 n1 n2
    obtain ⟨fuel, rfl⟩ : ∃ m, fuel = m + 1 := ⟨fuel - 1, by omega⟩
    refine br_f (nI_ge (by omega) (by omega)) ?_
    refine ys_slot (show f < N by omega) hN (hs f (by omega)) hT htb hi0 ha0 fun NX' x cK xq b r' e0 e1 Z' => ?_
    obtain ⟨x1, x2⟩ := x
    refine nm_r (nI_1 f) (ih (f + 1) fuel NX' cK xq b r' e0 e1 Z' (by omega) (by omega) (fun q hq => ?_) (fun q h3 h4 => ?_))
    · by_cases c : q < f * 3
      · rw [x1 q (by omega) (by omega) (by omega)]; exact n1 q c
      · obtain ⟨j, hj, rfl⟩ : ∃ j, j < 3 ∧ q = f * 3 + j := ⟨q - f * 3, by omega, by omega⟩
        rw [x2 j hj]
        unfold sp_step
        rw [show (f * 3 + j) / 3 = f by omega, show (f * 3 + j) % 3 = j by omega]
        by_cases s2 : a_st f = 2
        · rw [if_pos s2, if_pos ⟨by omega, s2⟩]; rfl
        · rw [if_neg s2, if_neg (fun z => s2 z.2)]
    · rw [x1 q (by omega) (by omega) (by omega)]; exact n2 q h3 h4
theorem ym_23 {r0 : Nat} (hN : N ≤ 8) (hs : rl_slots N U sz S a_st a_ar szX a_size sX a_bk a_ba a_bb kd fo so ch pa dp) (hi0 : f_intsT = ty_y ty_ints) (ha0 : f_anyT = ty_y ty_any)
    (hr : r0 ≤ 1056) (f1 : ∀ q, q < 24 → sp_T N (rl_K a_bk) (rl_K a_ba) (rl_K a_bb) a_st a_ar sz (r0 + 1) q = sp_T N (rl_K a_bk) (rl_K a_ba) (rl_K a_bb) a_st a_ar sz r0 q) (f2 : ∀ j, j < r0 → ¬ ∀ q, q < 24 → sp_T N (rl_K a_bk) (rl_K a_ba) (rl_K a_bb) a_st a_ar sz (j + 1) q = sp_T N (rl_K a_bk) (rl_K a_ba) (rl_K a_bb) a_st a_ar sz j q)
    (H : ∀ TA NX : Nat → Int32, (∀ q, q < 24 → TA q = ty_y (sp_T N (rl_K a_bk) (rl_K a_ba) (rl_K a_bb) a_st a_ar sz (r0 + 1) q)) → (∀ q, 3 * N ≤ q → q < 24 → NX q = 0) → ∀ (cK xq b r' e0 e1 : Int32) (Z' : Nat → Nat → Int32), post (nI (an_cnt a_st (sp_T N (rl_K a_bk) (rl_K a_ba) (rl_K a_bb) a_st a_ar sz (r0 + 1)) N)) (nI N, f_cap, 1, f_res, f_anyT, f_intsT, f_wp, f_vp, f_made, f_active, xq, cK, b, r', e0, e1, a_st, a_ar, a_size, a_bk, a_ba, a_bb, a_ds, TA, NX, a_wN, a_wS, a_wF, a_vs, a_frS, a_frP0, a_frP1, Z' 0, Z' 1, Z' 2, Z' 3, Z' 4, Z' 5, Z' 6, Z' 7, Z' 8, Z' 9, Z' 10)) :
    ∀ d r fuel (TA NX : Nat → Int32) (cK xq b r' e0 e1 : Int32) (Z' : Nat → Nat → Int32), r + d = r0 → d < fuel → (∀ q, q < 24 → TA q = ty_y (sp_T N (rl_K a_bk) (rl_K a_ba) (rl_K a_bb) a_st a_ar sz r q)) → (∀ q, 3 * N ≤ q → q < 24 → NX q = 0) →
      wY_analyze_23 post fuel (nI r) (nI N) f_cap f_ana f_res f_anyT f_intsT f_wp f_vp f_made f_active xq cK b r' e0 e1 a_st a_ar a_size a_bk a_ba a_bb a_ds TA NX a_wN a_wS a_wF a_vs a_frS a_frP0 a_frP1 (Z' 0) (Z' 1) (Z' 2) (Z' 3) (Z' 4) (Z' 5) (Z' 6) (Z' 7) (Z' 8) (Z' 9) (Z' 10) := by
  intro d
  have ok := sp_T_ok (rl_sp_ok hs)
  induction d with
  | zero =>
    intro r fuel TA NX cK xq b r' e0 e1 Z' h1 h2 hTA hNX
    obtain ⟨fuel, rfl⟩ : ∃ m, fuel = m + 1 := ⟨fuel - 1, by omega⟩
    obtain rfl : r = r0 := by omega
    refine br_f (nI_ge (b := 4096) (by omega) (by decide)) ⟨N + 1, ?_⟩
    refine ym_32 hN hs (ok r) hTA hi0 ha0 (fun e TA' NX' s n cK xq b r' e0 e1 Z' => ?_) (fun e TA' NX' s n cK xq b r' e0 e1 Z' => ?_) N 0 (N + 1) NX cK xq b r' e0 e1 Z' (by omega) (by omega) (fun q hq => absurd hq (by omega)) hNX
    · exact ym_cnt hN (ok (r + 1)) s (H TA' NX' s n cK xq b r' e0 e1 Z')
    · exact absurd f1 e
  | succ d ih =>
    intro r fuel TA NX cK xq b r' e0 e1 Z' h1 h2 hTA hNX
    obtain ⟨fuel, rfl⟩ : ∃ m, fuel = m + 1 := ⟨fuel - 1, by omega⟩
    refine br_f (nI_ge (b := 4096) (by omega) (by decide)) ⟨N + 1, ?_⟩
    refine ym_32 hN hs (ok r) hTA hi0 ha0 (fun e TA' NX' s n cK xq b r' e0 e1 Z' => ?_) (fun e TA' NX' s n cK xq b r' e0 e1 Z' => ?_) N 0 (N + 1) NX cK xq b r' e0 e1 Z' (by omega) (by omega) (fun q hq => absurd hq (by omega)) hNX
    · exact absurd e (f2 r (by omega))
    · exact ih (r + 1) fuel TA' NX' cK xq b r' e0 e1 Z' (by omega) (by omega) s n
theorem ym_analyze {r0 : Nat} (hN : N ≤ 8) (hs : rl_slots N U sz S a_st a_ar szX a_size sX a_bk a_ba a_bb kd fo so ch pa dp) (hi0 : f_intsT = ty_y ty_ints) (ha0 : f_anyT = ty_y ty_any)
    (hNX : ∀ q, 3 * N ≤ q → q < 24 → a_nxt q = 0) (hr : r0 ≤ 1056) (f1 : ∀ q, q < 24 → sp_T N (rl_K a_bk) (rl_K a_ba) (rl_K a_bb) a_st a_ar sz (r0 + 1) q = sp_T N (rl_K a_bk) (rl_K a_ba) (rl_K a_bb) a_st a_ar sz r0 q) (f2 : ∀ j, j < r0 → ¬ ∀ q, q < 24 → sp_T N (rl_K a_bk) (rl_K a_ba) (rl_K a_bb) a_st a_ar sz (j + 1) q = sp_T N (rl_K a_bk) (rl_K a_ba) (rl_K a_bb) a_st a_ar sz j q)
    (H : ∀ TA NX : Nat → Int32, (∀ q, q < 24 → TA q = ty_y (sp_T N (rl_K a_bk) (rl_K a_ba) (rl_K a_bb) a_st a_ar sz (r0 + 1) q)) → (∀ q, 3 * N ≤ q → q < 24 → NX q = 0) → ∀ (cK xq b r' e0 e1 : Int32) (Z' : Nat → Nat → Int32), post (nI (an_cnt a_st (sp_T N (rl_K a_bk) (rl_K a_ba) (rl_K a_bb) a_st a_ar sz (r0 + 1)) N)) (nI N, f_cap, 1, f_res, f_anyT, f_intsT, f_wp, f_vp, f_made, f_active, xq, cK, b, r', e0, e1, a_st, a_ar, a_size, a_bk, a_ba, a_bb, a_ds, TA, NX, a_wN, a_wS, a_wF, a_vs, a_frS, a_frP0, a_frP1, Z' 0, Z' 1, Z' 2, Z' 3, Z' 4, Z' 5, Z' 6, Z' 7, Z' 8, Z' 9, Z' 10)) :
    wpY_analyze post (nI N, f_cap, f_ana, f_res, f_anyT, f_intsT, f_wp, f_vp, f_made, f_active, f_xp, f_curK, f_rBot, f_rR, f_rE0, f_rE1, a_st, a_ar, a_size, a_bk, a_ba, a_bb, a_ds, a_tab, a_nxt, a_wN, a_wS, a_wF, a_vs, a_frS, a_frP0, a_frP1, a_xN, a_xS, a_xE0, a_xE1, a_xA, a_xB, a_xC, a_xD, a_xE, a_xF, a_xG) := by
  have loop : ∀ d i fuel (TA : Nat → Int32), i + d = 24 → d < fuel → (∀ q, q < i → TA q = 0) → wY_analyze_2 post (nI N) f_cap f_ana f_res f_anyT f_intsT f_wp f_vp f_made f_active f_xp f_curK f_rBot f_rR f_rE0 f_rE1 fuel (nI i) a_st a_ar a_size a_bk a_ba a_bb a_ds TA a_nxt a_wN a_wS a_wF a_vs a_frS a_frP0 a_frP1 a_xN a_xS a_xE0 a_xE1 a_xA a_xB a_xC a_xD a_xE a_xF a_xG := by
    intro d
    induction d with
    | zero =>
      intro i fuel TA h1 h2 s
      obtain ⟨fuel, rfl⟩ : ∃ m, fuel = m + 1 := ⟨fuel - 1, by omega⟩
      obtain rfl : i = 24 := by omega
      exact br_t (by decide) ⟨r0 + 1, ym_23 hN hs hi0 ha0 hr f1 f2 H r0 0 (r0 + 1) TA a_nxt f_curK f_xp f_rBot f_rR f_rE0 f_rE1 (ys_z a_xN a_xS a_xE0 a_xE1 a_xA a_xB a_xC a_xD a_xE a_xF a_xG) (by omega) (by omega) (fun q hq => by rw [s q hq]; exact ty_y_00.symm) hNX⟩
    | succ d ih =>
      intro i fuel TA h1 h2 s
      obtain ⟨fuel, rfl⟩ : ∃ m, fuel = m + 1 := ⟨fuel - 1, by omega⟩
      refine br_f (nI_ge (b := 24) (by omega) (by decide)) ⟨vp_in_nI (by omega) (by decide), ?_⟩
      rw [nI_clamp (by omega)]
      refine nm_e (nm_r (nI_1 i) (ih (i + 1) fuel _ (by omega) (by omega) fun q hq => ?_))
      by_cases e : q = i
      · subst e; exact pk_us
      · rw [pk_un e]; exact s q (by omega)
  exact ⟨25, loop 24 0 25 a_tab (by omega) (by omega) (fun q hq => absurd hq (Nat.not_lt_zero q))⟩
end
end
section
def xq_k (post : Int32 → SX → Prop) (t fuel : Nat) : SX → Prop := fun u => match u with
  | (f_slotCount, f_capacity, f_nodesUsed, f_buildingSlot, f_pendingCount, f_summariesCurrent, f_callsActive, f_callsMade, f_runOutcome, f_runValue, a_slotStates, a_slotArities, a_slotStarts, a_slotSizes, a_kinds, a_firstOperands, a_secondOperands, a_children, a_parents, a_depths, a_pendingNodes, a_summaries, a_nextSummaries, a_nodeTypes, a_paramsAfter, a_params, a_values, a_arguments, a_frameSlots, a_frameNodes) => ∀ x : Int32, x = nI t + 1 → wX_run_88 post fuel x f_slotCount f_capacity f_nodesUsed f_buildingSlot f_pendingCount f_summariesCurrent f_callsActive f_callsMade f_runOutcome f_runValue a_slotStates a_slotArities a_slotStarts a_slotSizes a_kinds a_firstOperands a_secondOperands a_children a_parents a_depths a_pendingNodes a_summaries a_nextSummaries a_nodeTypes a_paramsAfter a_params a_values a_arguments a_frameSlots a_frameNodes
def xq_R (post : Int32 → SX → Prop) (f_slotCount f_capacity f_nodesUsed f_buildingSlot f_pendingCount f_summariesCurrent f_callsActive f_callsMade f_runOutcome f_runValue : Int32) (a_slotStates a_slotArities a_slotStarts a_slotSizes a_kinds a_firstOperands a_secondOperands a_children a_parents a_depths a_pendingNodes a_summaries a_nextSummaries a_nodeTypes a_paramsAfter a_params a_values a_arguments a_frameSlots a_frameNodes : Nat → Int32) (t a m : Nat) (Z : Nat → Nat → Int32) : Prop :=
  ∀ fuel, 1000000 < t + fuel → wX_run_88 post fuel (nI t) f_slotCount f_capacity f_nodesUsed f_buildingSlot f_pendingCount f_summariesCurrent (nI a) (nI m) (-1) 0 a_slotStates a_slotArities a_slotStarts a_slotSizes a_kinds a_firstOperands a_secondOperands a_children a_parents a_depths a_pendingNodes a_summaries a_nextSummaries a_nodeTypes a_paramsAfter a_params (Z 0) (Z 1) (Z 2) (Z 3)
def xq_F (post : Int32 → SX → Prop) (f_slotCount f_capacity f_nodesUsed f_buildingSlot f_pendingCount f_summariesCurrent f_callsActive f_callsMade f_runOutcome f_runValue : Int32) (a_slotStates a_slotArities a_slotStarts a_slotSizes a_kinds a_firstOperands a_secondOperands a_children a_parents a_depths a_pendingNodes a_summaries a_nextSummaries a_nodeTypes a_paramsAfter a_params a_values a_arguments a_frameSlots a_frameNodes : Nat → Int32) (t fr r : Nat) (v : Int32) (m : Nat) (Z : Nat → Nat → Int32) : Prop :=
  ∀ t' fuel, t = t' + 1 → t ≤ 1000000 → 1000000 < t + fuel → wpX_finishNode (xq_k post t' fuel) (f_slotCount, f_capacity, f_nodesUsed, f_buildingSlot, f_pendingCount, f_summariesCurrent, nI (fr + 1), nI m, -1, 0, a_slotStates, a_slotArities, a_slotStarts, a_slotSizes, a_kinds, a_firstOperands, a_secondOperands, a_children, a_parents, a_depths, a_pendingNodes, a_summaries, a_nextSummaries, a_nodeTypes, a_paramsAfter, a_params, Z 0, Z 1, Z 2, Z 3) (nI fr) (nI r) v
def xq_E (post : Int32 → SX → Prop) (f_slotCount f_capacity f_nodesUsed f_buildingSlot f_pendingCount f_summariesCurrent f_callsActive f_callsMade f_runOutcome f_runValue : Int32) (a_slotStates a_slotArities a_slotStarts a_slotSizes a_kinds a_firstOperands a_secondOperands a_children a_parents a_depths a_pendingNodes a_summaries a_nextSummaries a_nodeTypes a_paramsAfter a_params a_values a_arguments a_frameSlots a_frameNodes : Nat → Int32) (o : Int32) : Prop :=
  ∀ (ca cm : Int32) (V AR FS FN : Nat → Int32), post o (f_slotCount, f_capacity, f_nodesUsed, f_buildingSlot, f_pendingCount, f_summariesCurrent, ca, cm, o, 0, a_slotStates, a_slotArities, a_slotStarts, a_slotSizes, a_kinds, a_firstOperands, a_secondOperands, a_children, a_parents, a_depths, a_pendingNodes, a_summaries, a_nextSummaries, a_nodeTypes, a_paramsAfter, a_params, V, AR, FS, FN)
section
variable {f_slotCount f_capacity f_nodesUsed f_buildingSlot f_pendingCount f_summariesCurrent f_callsActive f_callsMade f_runOutcome f_runValue : Int32} {a_slotStates a_slotArities a_slotStarts a_slotSizes a_kinds a_firstOperands a_secondOperands a_children a_parents a_depths a_pendingNodes a_summaries a_nextSummaries a_nodeTypes a_paramsAfter a_params a_values a_arguments a_frameSlots a_frameNodes : Nat → Int32} {post : Int32 → SX → Prop}
theorem xq_end {o : Int32} {t fuel : Nat} {ca cm : Int32} {V AR FS FN : Nat → Int32} (ho : o ≠ -1) (h : xq_E post f_slotCount f_capacity f_nodesUsed f_buildingSlot f_pendingCount f_summariesCurrent f_callsActive f_callsMade f_runOutcome f_runValue a_slotStates a_slotArities a_slotStarts a_slotSizes a_kinds a_firstOperands a_secondOperands a_children a_parents a_depths a_pendingNodes a_summaries a_nextSummaries a_nodeTypes a_paramsAfter a_params a_values a_arguments a_frameSlots a_frameNodes o) (hf : 0 < fuel) : xq_k post t fuel (f_slotCount, f_capacity, f_nodesUsed, f_buildingSlot, f_pendingCount, f_summariesCurrent, ca, cm, o, 0, a_slotStates, a_slotArities, a_slotStarts, a_slotSizes, a_kinds, a_firstOperands, a_secondOperands, a_children, a_parents, a_depths, a_pendingNodes, a_summaries, a_nextSummaries, a_nodeTypes, a_paramsAfter, a_params, V, AR, FS, FN) := by
  obtain ⟨fuel, rfl⟩ : ∃ m, fuel = m + 1 := ⟨fuel - 1, by omega⟩
  intro x _
  exact br_c (fun _ => h _ _ _ _ _ _) (fun _ => br_f ho (h _ _ _ _ _ _))
section
variable {N k n S : Nat} {K A B : Nat → Int32}
theorem xv_child {Q : Int32 → Prop} (hB : rl_body N k n S K A B a_kinds a_firstOperands a_secondOperands a_children a_parents a_depths) {i j fr : Nat} (hi : i < n) (hj : j < rl_c K B i) (hf : fr < 16) (H : Q (a_values (fr * 128 + (S + bs_ch (rl_c K B) i j)))) : wpX_childValue Q (f_slotCount, f_capacity, f_nodesUsed, f_buildingSlot, f_pendingCount, f_summariesCurrent, f_callsActive, f_callsMade, f_runOutcome, f_runValue, a_slotStates, a_slotArities, a_slotStarts, a_slotSizes, a_kinds, a_firstOperands, a_secondOperands, a_children, a_parents, a_depths, a_pendingNodes, a_summaries, a_nextSummaries, a_nodeTypes, a_paramsAfter, a_params, a_values, a_arguments, a_frameSlots, a_frameNodes) (nI fr) (nI (S + i)) (nI j) := by
  obtain ⟨w, cl, r, l⟩ := xc_child hB hi hj
  have hS := hB.1
  unfold wpX_childValue
  dsimp only
  rw [xc_3, nI_add, cl, r, show (128 : Int32) = nI 128 by decide, pk_mul, nI_add, nI_clamp (n := fr * 128 + (S + bs_ch (rl_c K B) i j)) (by omega)]
  exact ⟨w, vp_in_nI (by omega) (by omega), H⟩
theorem xv_leaf {Q : Int32 → Prop} (hB : rl_body N k n S K A B a_kinds a_firstOperands a_secondOperands a_children a_parents a_depths) (hk : k ≤ 2) {i fr : Nat} (hi : i < n) (hf : fr < 16) (h : K i = 0 ∨ K i = 1 ∨ K i = 2)
    (H : Q (if K i = 0 then A i else if K i = 1 then 1000 + A i else if A i = 0 then a_arguments (fr * 2) else a_arguments (fr * 2 + 1))) : wpX_evaluate Q (f_slotCount, f_capacity, f_nodesUsed, f_buildingSlot, f_pendingCount, f_summariesCurrent, f_callsActive, f_callsMade, f_runOutcome, f_runValue, a_slotStates, a_slotArities, a_slotStarts, a_slotSizes, a_kinds, a_firstOperands, a_secondOperands, a_children, a_parents, a_depths, a_pendingNodes, a_summaries, a_nextSummaries, a_nodeTypes, a_paramsAfter, a_params, a_values, a_arguments, a_frameSlots, a_frameNodes) (nI fr) (nI (S + i)) := by
  obtain ⟨w, cl, rk, ra, rb⟩ := xc_row hB hi
  unfold wpX_evaluate
  dsimp only
  rw [cl, ra, rk]
  rcases h with h | h | h
  · rw [if_pos h] at H
    rw [h]
    exact ⟨w, nm_e (br_f (by decide) (br_f (by decide) (br_t rfl ⟨w, H⟩)))⟩
  · rw [if_neg (by rw [h]; decide), if_pos h] at H
    rw [h]
    exact ⟨w, nm_e (br_f (by decide) (br_f (by decide) (br_f (by decide) (br_t rfl ⟨w, H⟩))))⟩
  · rw [if_neg (by rw [h]; decide), if_neg (by rw [h]; decide)] at H
    obtain ⟨j, hj, ej⟩ := (hB.2.1.1 i hi).2.2.2.1 h
    have jj : j = 0 ∨ j = 1 := by omega
    rw [h, ej, xc_2, nI_add, nI_clamp (n := fr * 2 + j) (by omega)]
    refine ⟨w, nm_e (br_f (by decide) (br_f (by decide) (br_f (by decide) (br_f (by decide) (br_t rfl ⟨w, vp_in_nI (by omega) (by omega), ?_⟩)))))⟩
    rw [ej] at H
    rcases jj with rfl | rfl
    · rw [if_pos nI_0] at H; exact H
    · rw [if_neg (by decide)] at H; exact H
theorem rn_int {v : Int32} (h : rn_ok v) : (-99 ≤ v.toInt ∧ v.toInt ≤ 99) ↔ ¬ 1000 ≤ v := by
  rw [Int32.le_iff_toInt_le, ty_k0]
  rcases h with h | h <;> omega
theorem xv_110 {Q : Int32 → Prop} {z : Int32} (h1 : ¬ z < -99 → ¬ 99 < z → Q z) (h0 : z < -99 ∨ 99 < z → Q 2000) : wX_evaluatePair_110 Q z f_slotCount f_capacity f_nodesUsed f_buildingSlot f_pendingCount f_summariesCurrent f_callsActive f_callsMade f_runOutcome f_runValue a_slotStates a_slotArities a_slotStarts a_slotSizes a_kinds a_firstOperands a_secondOperands a_children a_parents a_depths a_pendingNodes a_summaries a_nextSummaries a_nodeTypes a_paramsAfter a_params a_values a_arguments a_frameSlots a_frameNodes := by
  unfold wX_evaluatePair_110
  refine xt_isInt (fun a b => br_f (by decide) (h1 ?_ ?_)) (fun n => br_t rfl (h0 ?_))
  · rw [Int32.lt_iff_toInt_lt, ty_m99]; omega
  · rw [Int32.lt_iff_toInt_lt, ty_p99]; omega
  · rw [Int32.lt_iff_toInt_lt, ty_m99, Int32.lt_iff_toInt_lt, ty_p99]; omega
theorem xv_pair {Q : Int32 → Prop} (hB : rl_body N k n S K A B a_kinds a_firstOperands a_secondOperands a_children a_parents a_depths) {i fr m : Nat} (hi : i < n) (hf : fr < 16) (h : K i = 3 ∨ K i = 4 ∨ K i = 5 ∨ K i = 6) (hc : rl_c K B i = 2) {v w : Int32} (ov : rn_ok v) (ow : rn_ok w)
    (hv : a_values (fr * 128 + (S + bs_ch (rl_c K B) i 0)) = v) (hw : a_values (fr * 128 + (S + bs_ch (rl_c K B) i 1)) = w)
    (H1 : (rn_op (K i) v w m).1 = -1 → Q (rn_op (K i) v w m).2.1) (H0 : (rn_op (K i) v w m).1 ≠ -1 → Q 2000) : wpX_evaluate Q (f_slotCount, f_capacity, f_nodesUsed, f_buildingSlot, f_pendingCount, f_summariesCurrent, f_callsActive, f_callsMade, f_runOutcome, f_runValue, a_slotStates, a_slotArities, a_slotStarts, a_slotSizes, a_kinds, a_firstOperands, a_secondOperands, a_children, a_parents, a_depths, a_pendingNodes, a_summaries, a_nextSummaries, a_nodeTypes, a_paramsAfter, a_params, a_values, a_arguments, a_frameSlots, a_frameNodes) (nI fr) (nI (S + i)) := by
  obtain ⟨wr, cl, rk, ra, rb⟩ := xc_row hB hi
  have iv := rn_int ov
  have iw := rn_int ow
  have pair : wpX_evaluatePair Q (f_slotCount, f_capacity, f_nodesUsed, f_buildingSlot, f_pendingCount, f_summariesCurrent, f_callsActive, f_callsMade, f_runOutcome, f_runValue, a_slotStates, a_slotArities, a_slotStarts, a_slotSizes, a_kinds, a_firstOperands, a_secondOperands, a_children, a_parents, a_depths, a_pendingNodes, a_summaries, a_nextSummaries, a_nodeTypes, a_paramsAfter, a_params, a_values, a_arguments, a_frameSlots, a_frameNodes) (nI fr) (nI (S + i)) := by
    unfold wpX_evaluatePair
    dsimp only
    refine xv_child (j := 0) hB hi (by omega) hf ?_
    refine xv_child (j := 1) hB hi (by omega) hf ?_
    rw [hv, hw, cl, rk]
    refine ⟨wr, ?_⟩
    unfold rn_op at H1 H0
    by_cases k6 : K i = 6
    · rw [if_pos k6] at H1
      refine br_t k6 ?_
      by_cases e : v = w
      · rw [if_pos e] at H1; exact br_t e (H1 rfl)
      · rw [if_neg e] at H1; exact br_f e (H1 rfl)
    · rw [if_neg k6] at H1 H0
      refine br_f k6 ?_
      refine xt_isInt (fun a b => br_f (by decide) ?_) (fun nn => br_t rfl ?_)
      · rw [if_neg (iv.mp ⟨a, b⟩)] at H1 H0
        refine xt_isInt (fun a b => br_f (by decide) ⟨wr, ?_⟩) (fun nn => br_t rfl ?_)
        · rw [if_neg (iw.mp ⟨a, b⟩)] at H1 H0
          by_cases k5 : K i = 5
          · rw [if_pos k5] at H1
            refine br_t k5 ?_
            by_cases e : w ≤ v
            · rw [if_neg (Int32.not_lt.mpr e)] at H1; exact br_t e (H1 rfl)
            · rw [if_pos (Int32.not_le.mp e)] at H1; exact br_f e (H1 rfl)
          · rw [if_neg k5] at H1 H0
            refine br_f k5 ⟨wr, ?_⟩
            have fin : ∀ z : Int32, z = rn_ar (K i) v w → wX_evaluatePair_110 Q z f_slotCount f_capacity f_nodesUsed f_buildingSlot f_pendingCount f_summariesCurrent f_callsActive f_callsMade f_runOutcome f_runValue a_slotStates a_slotArities a_slotStarts a_slotSizes a_kinds a_firstOperands a_secondOperands a_children a_parents a_depths a_pendingNodes a_summaries a_nextSummaries a_nodeTypes a_paramsAfter a_params a_values a_arguments a_frameSlots a_frameNodes := by
              intro z ez
              rw [← ez] at H1 H0
              refine xv_110 (fun a b => ?_) (fun o => ?_)
              · rw [if_neg a, if_neg b] at H1; exact H1 rfl
              · by_cases a : z < -99
                · rw [if_pos a] at H0; exact H0 (rn_n1 _ _)
                · rw [if_neg a, if_pos (o.resolve_left a)] at H0; exact H0 (rn_n1 _ _)
            by_cases k3 : K i = 3
            · exact br_t k3 (fin _ (by unfold rn_ar; rw [if_pos k3]))
            · exact br_f k3 (fin _ (by unfold rn_ar; rw [if_neg k3]))
        · have nw : 1000 ≤ w := Classical.byContradiction fun z => nn (iw.mpr z)
          rw [if_pos nw] at H0
          exact H0 (rn_n1 _ _)
      · have nv : 1000 ≤ v := Classical.byContradiction fun z => nn (iv.mpr z)
        rw [if_pos nv] at H0
        exact H0 (rn_n1 _ _)
  have pair' : wX_evaluate_104 Q (nI fr) (nI (S + i)) f_slotCount f_capacity f_nodesUsed f_buildingSlot f_pendingCount f_summariesCurrent f_callsActive f_callsMade f_runOutcome f_runValue a_slotStates a_slotArities a_slotStarts a_slotSizes a_kinds a_firstOperands a_secondOperands a_children a_parents a_depths a_pendingNodes a_summaries a_nextSummaries a_nodeTypes a_paramsAfter a_params a_values a_arguments a_frameSlots a_frameNodes := pair
  unfold wpX_evaluate
  dsimp only
  rw [cl, rk]
  rcases h with h | h | h | h <;> rw [h]
  · exact ⟨wr, nm_e (br_f (by decide) (br_f (by decide) (br_f (by decide) (br_f (by decide) (br_f (by decide) (br_t rfl pair'))))))⟩
  · exact ⟨wr, nm_e (br_f (by decide) (br_f (by decide) (br_f (by decide) (br_f (by decide) (br_f (by decide) (br_f (by decide) (br_t rfl pair')))))))⟩
  · exact ⟨wr, nm_e (br_f (by decide) (br_f (by decide) (br_f (by decide) (br_f (by decide) (br_f (by decide) (br_f (by decide) (br_f (by decide) (br_t rfl pair'))))))))⟩
  · exact ⟨wr, nm_e (br_f (by decide) (br_f (by decide) (br_f (by decide) (br_f (by decide) (br_f (by decide) (br_f (by decide) (br_f (by decide) (br_f (by decide) (br_t rfl pair')))))))))⟩
theorem xv_isi {Q : Int32 → Prop} (hB : rl_body N k n S K A B a_kinds a_firstOperands a_secondOperands a_children a_parents a_depths) {i fr : Nat} (hi : i < n) (hf : fr < 16) (h : K i = 7) {v : Int32} (ov : rn_ok v) (hv : a_values (fr * 128 + (S + bs_ch (rl_c K B) i 0)) = v)
    (H : Q (if v < 1000 then 1001 else 1000)) : wpX_evaluate Q (f_slotCount, f_capacity, f_nodesUsed, f_buildingSlot, f_pendingCount, f_summariesCurrent, f_callsActive, f_callsMade, f_runOutcome, f_runValue, a_slotStates, a_slotArities, a_slotStarts, a_slotSizes, a_kinds, a_firstOperands, a_secondOperands, a_children, a_parents, a_depths, a_pendingNodes, a_summaries, a_nextSummaries, a_nodeTypes, a_paramsAfter, a_params, a_values, a_arguments, a_frameSlots, a_frameNodes) (nI fr) (nI (S + i)) := by
  obtain ⟨wr, cl, rk, ra, rb⟩ := xc_row hB hi
  have c1 := ab_c7 hB.2.1 h
  have iv := rn_int ov
  unfold wpX_evaluate
  dsimp only
  rw [cl, rk, h]
  refine ⟨wr, nm_e (br_f (by decide) (br_f (by decide) (br_f (by decide) (br_f (by decide) (br_f (by decide) (br_f (by decide) (br_f (by decide) (br_f (by decide) (br_f (by decide) (br_t rfl ?_))))))))))⟩
  unfold wpX_evaluateIsInt
  dsimp only
  refine xv_child (j := 0) hB hi (by omega) hf ?_
  rw [hv]
  refine xt_isInt (fun a b => br_f (by decide) ?_) (fun nn => br_t rfl ?_)
  · rw [if_pos (Int32.not_le.mp (iv.mp ⟨a, b⟩))] at H; exact H
  · rw [if_neg (fun z => nn (iv.mpr (Int32.not_le.mpr z)))] at H; exact H
theorem xv_if {Q : Int32 → Prop} (hB : rl_body N k n S K A B a_kinds a_firstOperands a_secondOperands a_children a_parents a_depths) {i fr : Nat} (hi : i < n) (hf : fr < 16) (h : K i = 8)
    (H : Q (if a_values (fr * 128 + (S + bs_ch (rl_c K B) i 0)) = 1001 then a_values (fr * 128 + (S + bs_ch (rl_c K B) i 1)) else a_values (fr * 128 + (S + bs_ch (rl_c K B) i 2)))) : wpX_evaluate Q (f_slotCount, f_capacity, f_nodesUsed, f_buildingSlot, f_pendingCount, f_summariesCurrent, f_callsActive, f_callsMade, f_runOutcome, f_runValue, a_slotStates, a_slotArities, a_slotStarts, a_slotSizes, a_kinds, a_firstOperands, a_secondOperands, a_children, a_parents, a_depths, a_pendingNodes, a_summaries, a_nextSummaries, a_nodeTypes, a_paramsAfter, a_params, a_values, a_arguments, a_frameSlots, a_frameNodes) (nI fr) (nI (S + i)) := by
  obtain ⟨wr, cl, rk, ra, rb⟩ := xc_row hB hi
  have c3 := ab_c8 hB.2.1 h
  unfold wpX_evaluate
  dsimp only
  rw [cl, rk, h]
  refine ⟨wr, nm_e (br_f (by decide) (br_f (by decide) (br_f (by decide) (br_f (by decide) (br_f (by decide) (br_f (by decide) (br_f (by decide) (br_f (by decide) (br_f (by decide) (br_f (by decide) (br_t rfl ?_)))))))))))⟩
  unfold wpX_evaluateIf
  dsimp only
  refine xv_child (j := 0) hB hi (by omega) hf ?_
  by_cases c : a_values (fr * 128 + (S + bs_ch (rl_c K B) i 0)) = 1001
  · rw [if_pos c] at H
    exact br_t c (xv_child (j := 1) hB hi (by omega) hf H)
  · rw [if_neg c] at H
    exact br_f c (xv_child (j := 2) hB hi (by omega) hf H)
end
end
end
section
def xq_z (a b c d : Nat → Int32) : Nat → Nat → Int32 := fun q => match q with
  | 0 => a
  | 1 => b
  | 2 => c
  | _ => d
section
variable {f_slotCount f_capacity f_nodesUsed f_buildingSlot f_pendingCount f_summariesCurrent f_callsActive f_callsMade f_runOutcome f_runValue : Int32} {a_slotStates a_slotArities a_slotStarts a_slotSizes a_kinds a_firstOperands a_secondOperands a_children a_parents a_depths a_pendingNodes a_summaries a_nextSummaries a_nodeTypes a_paramsAfter a_params a_values a_arguments a_frameSlots a_frameNodes : Nat → Int32} {post : Int32 → SX → Prop} {N U : Nat} {sz S : Nat → Nat} {szY bk ba bb : Nat → Int32}
theorem xq_g (hs : rl_slots N U sz S a_slotStates a_slotArities a_slotSizes szY a_slotStarts bk ba bb a_kinds a_firstOperands a_secondOperands a_children a_parents a_depths) {g : Nat} (hg : g < N) (s2 : a_slotStates g = 2) : ∃ k : Nat, k ≤ 2 ∧ a_slotArities g = nI k ∧ a_slotSizes g = nI (sz g) ∧ a_slotStarts g = nI (S g) ∧ 0 < sz g ∧ a_parents (S g + (sz g - 1)) = -1 ∧
    rl_body N k (sz g) (S g) (rl_K bk g) (rl_K ba g) (rl_K bb g) a_kinds a_firstOperands a_secondOperands a_children a_parents a_depths := by
  obtain ⟨_, h1, h2⟩ := hs g hg
  obtain ⟨e1, e2, e3, e4, k, hk, ek, hB⟩ := h1 (by rw [s2]; decide)
  obtain ⟨n0, pc1, pr⟩ := h2 s2
  exact ⟨k, hk, ek, e1, e3, n0, pr, hB⟩
theorem xq_move {Q : SX → Prop} {fr g i m : Nat} {Z : Nat → Nat → Int32} (hN : N ≤ 8) (hs : rl_slots N U sz S a_slotStates a_slotArities a_slotSizes szY a_slotStarts bk ba bb a_kinds a_firstOperands a_secondOperands a_children a_parents a_depths) (hf : fr < 16) (hg : g < N) (s2 : a_slotStates g = 2) (hi : i < sz g) (hat : xr_at S Z fr g i)
    (H9 : rl_K bk g i = 9 → wpX_tryCall (fun u => match u with | (f_slotCount, f_capacity, f_nodesUsed, f_buildingSlot, f_pendingCount, f_summariesCurrent, f_callsActive, f_callsMade, f_runOutcome, f_runValue, a_slotStates, a_slotArities, a_slotStarts, a_slotSizes, a_kinds, a_firstOperands, a_secondOperands, a_children, a_parents, a_depths, a_pendingNodes, a_summaries, a_nextSummaries, a_nodeTypes, a_paramsAfter, a_params, a_values, a_arguments, a_frameSlots, a_frameNodes) => Q (f_slotCount, f_capacity, f_nodesUsed, f_buildingSlot, f_pendingCount, f_summariesCurrent, f_callsActive, f_callsMade, f_runOutcome, f_runValue, a_slotStates, a_slotArities, a_slotStarts, a_slotSizes, a_kinds, a_firstOperands, a_secondOperands, a_children, a_parents, a_depths, a_pendingNodes, a_summaries, a_nextSummaries, a_nodeTypes, a_paramsAfter, a_params, a_values, a_arguments, a_frameSlots, a_frameNodes)) (f_slotCount, f_capacity, f_nodesUsed, f_buildingSlot, f_pendingCount, f_summariesCurrent, nI (fr + 1), nI m, -1, 0, a_slotStates, a_slotArities, a_slotStarts, a_slotSizes, a_kinds, a_firstOperands, a_secondOperands, a_children, a_parents, a_depths, a_pendingNodes, a_summaries, a_nextSummaries, a_nodeTypes, a_paramsAfter, a_params, Z 0, Z 1, Z 2, Z 3) (nI fr) (nI (S g + i))) (H0 : ¬ rl_K bk g i = 9 → wpX_evaluate (fun r => wpX_finishNode (fun u => match u with | (f_slotCount, f_capacity, f_nodesUsed, f_buildingSlot, f_pendingCount, f_summariesCurrent, f_callsActive, f_callsMade, f_runOutcome, f_runValue, a_slotStates, a_slotArities, a_slotStarts, a_slotSizes, a_kinds, a_firstOperands, a_secondOperands, a_children, a_parents, a_depths, a_pendingNodes, a_summaries, a_nextSummaries, a_nodeTypes, a_paramsAfter, a_params, a_values, a_arguments, a_frameSlots, a_frameNodes) => Q (f_slotCount, f_capacity, f_nodesUsed, f_buildingSlot, f_pendingCount, f_summariesCurrent, f_callsActive, f_callsMade, f_runOutcome, f_runValue, a_slotStates, a_slotArities, a_slotStarts, a_slotSizes, a_kinds, a_firstOperands, a_secondOperands, a_children, a_parents, a_depths, a_pendingNodes, a_summaries, a_nextSummaries, a_nodeTypes, a_paramsAfter, a_params, a_values, a_arguments, a_frameSlots, a_frameNodes)) (f_slotCount, f_capacity, f_nodesUsed, f_buildingSlot, f_pendingCount, f_summariesCurrent, nI (fr + 1), nI m, -1, 0, a_slotStates, a_slotArities, a_slotStarts, a_slotSizes, a_kinds, a_firstOperands, a_secondOperands, a_children, a_parents, a_depths, a_pendingNodes, a_summaries, a_nextSummaries, a_nodeTypes, a_paramsAfter, a_params, Z 0, Z 1, Z 2, Z 3) (nI fr) (nI (S g + i)) r) (f_slotCount, f_capacity, f_nodesUsed, f_buildingSlot, f_pendingCount, f_summariesCurrent, nI (fr + 1), nI m, -1, 0, a_slotStates, a_slotArities, a_slotStarts, a_slotSizes, a_kinds, a_firstOperands, a_secondOperands, a_children, a_parents, a_depths, a_pendingNodes, a_summaries, a_nextSummaries, a_nodeTypes, a_paramsAfter, a_params, Z 0, Z 1, Z 2, Z 3) (nI fr) (nI (S g + i))) :
    wpX_makeMove Q (f_slotCount, f_capacity, f_nodesUsed, f_buildingSlot, f_pendingCount, f_summariesCurrent, nI (fr + 1), nI m, -1, 0, a_slotStates, a_slotArities, a_slotStarts, a_slotSizes, a_kinds, a_firstOperands, a_secondOperands, a_children, a_parents, a_depths, a_pendingNodes, a_summaries, a_nextSummaries, a_nodeTypes, a_paramsAfter, a_params, Z 0, Z 1, Z 2, Z 3) := by
  obtain ⟨k, hk, ek, e1, e3, n0, pr, hB⟩ := xq_g hs hg s2
  obtain ⟨wr, cr, rk, ra, rb⟩ := xc_row hB hi
  have hS := hB.1
  have wf : vp_in (nI fr) 16 := vp_in_nI hf (by decide)
  have cf : (nI fr).toNatClampNeg = fr := nI_clamp (by omega)
  have wg : vp_in (nI g) 8 := vp_in_nI (by omega) (by decide)
  have cg : (nI g).toNatClampNeg = g := nI_clamp (by omega)
  unfold wpX_makeMove
  dsimp only
  refine nm_r (nI_pred fr) ⟨wf, nm_r (e' := nI (S g + i)) (by rw [cf]; exact hat.2) ⟨wf, nm_r (e' := nI g) (by rw [cf]; exact hat.1) ⟨wg, wg, ?_⟩⟩⟩
  rw [cg, e1, e3, nI_add]
  refine br_f (fun z => by rw [nI_eq (by omega) (by omega)] at z; omega) ⟨wr, ?_⟩
  rw [cr, rk]
  exact br_c H9 H0
theorem xq_st {fr m t : Nat} {Z : Nat → Nat → Int32} (ht : t < 1000000) (h : ∀ fuel, 1000000 < t + 1 + fuel → wpX_makeMove (xq_k post t fuel) (f_slotCount, f_capacity, f_nodesUsed, f_buildingSlot, f_pendingCount, f_summariesCurrent, nI (fr + 1), nI m, -1, 0, a_slotStates, a_slotArities, a_slotStarts, a_slotSizes, a_kinds, a_firstOperands, a_secondOperands, a_children, a_parents, a_depths, a_pendingNodes, a_summaries, a_nextSummaries, a_nodeTypes, a_paramsAfter, a_params, Z 0, Z 1, Z 2, Z 3)) : xq_R post f_slotCount f_capacity f_nodesUsed f_buildingSlot f_pendingCount f_summariesCurrent f_callsActive f_callsMade f_runOutcome f_runValue a_slotStates a_slotArities a_slotStarts a_slotSizes a_kinds a_firstOperands a_secondOperands a_children a_parents a_depths a_pendingNodes a_summaries a_nextSummaries a_nodeTypes a_paramsAfter a_params a_values a_arguments a_frameSlots a_frameNodes t (fr + 1) m Z := by
  intro fuel hf
  obtain ⟨fuel, rfl⟩ : ∃ m, fuel = m + 1 := ⟨fuel - 1, by omega⟩
  exact br_f (nI_ge (b := 1000000) ht (by decide)) (br_t rfl (h fuel (by omega)))
theorem xf_2000 {Q : SX → Prop} {fr r m : Nat} {Z : Nat → Nat → Int32} (hf : fr < 16) (hr : r < 128) (H : ∀ V FN : Nat → Int32, Q (f_slotCount, f_capacity, f_nodesUsed, f_buildingSlot, f_pendingCount, f_summariesCurrent, nI (fr + 1), nI m, 1, 0, a_slotStates, a_slotArities, a_slotStarts, a_slotSizes, a_kinds, a_firstOperands, a_secondOperands, a_children, a_parents, a_depths, a_pendingNodes, a_summaries, a_nextSummaries, a_nodeTypes, a_paramsAfter, a_params, V, Z 1, Z 2, FN)) :
    wpX_finishNode Q (f_slotCount, f_capacity, f_nodesUsed, f_buildingSlot, f_pendingCount, f_summariesCurrent, nI (fr + 1), nI m, -1, 0, a_slotStates, a_slotArities, a_slotStarts, a_slotSizes, a_kinds, a_firstOperands, a_secondOperands, a_children, a_parents, a_depths, a_pendingNodes, a_summaries, a_nextSummaries, a_nodeTypes, a_paramsAfter, a_params, Z 0, Z 1, Z 2, Z 3) (nI fr) (nI r) 2000 := by
  unfold wpX_finishNode
  dsimp only
  rw [show (128 : Int32) = nI 128 by decide, pk_mul, nI_add]
  exact ⟨vp_in_nI (by omega) (by omega), nm_e ⟨vp_in_nI hf (by decide), nm_e (br_t rfl (H _ _))⟩⟩
theorem xq_M1 (hN : N ≤ 8) (hs : rl_slots N U sz S a_slotStates a_slotArities a_slotSizes szY a_slotStarts bk ba bb a_kinds a_firstOperands a_secondOperands a_children a_parents a_depths) : xr_M1 N (rl_K bk) (rl_K ba) a_slotStates sz S (xq_R post f_slotCount f_capacity f_nodesUsed f_buildingSlot f_pendingCount f_summariesCurrent f_callsActive f_callsMade f_runOutcome f_runValue a_slotStates a_slotArities a_slotStarts a_slotSizes a_kinds a_firstOperands a_secondOperands a_children a_parents a_depths a_pendingNodes a_summaries a_nextSummaries a_nodeTypes a_paramsAfter a_params a_values a_arguments a_frameSlots a_frameNodes) (xq_F post f_slotCount f_capacity f_nodesUsed f_buildingSlot f_pendingCount f_summariesCurrent f_callsActive f_callsMade f_runOutcome f_runValue a_slotStates a_slotArities a_slotStarts a_slotSizes a_kinds a_firstOperands a_secondOperands a_children a_parents a_depths a_pendingNodes a_summaries a_nextSummaries a_nodeTypes a_paramsAfter a_params a_values a_arguments a_frameSlots a_frameNodes) := by
  intro t m fr g i Z hin hat hK hF
  obtain ⟨ht, hf, hg, s2, hi⟩ := hin
  obtain ⟨k, hk, ek, e1, e3, n0, pr, hB⟩ := xq_g hs hg s2
  refine xq_st ht fun fuel hfu => xq_move hN hs hf hg s2 hi hat (fun z => absurd z (by rcases hK with h | h | h <;> rw [h] <;> decide)) (fun _ => ?_)
  exact xv_leaf hB hk hi hf hK (hF t fuel rfl (by omega) (by omega))
theorem xq_M2 (hN : N ≤ 8) (hs : rl_slots N U sz S a_slotStates a_slotArities a_slotSizes szY a_slotStarts bk ba bb a_kinds a_firstOperands a_secondOperands a_children a_parents a_depths) : xr_M2 N (rl_K bk) (rl_K bb) a_slotStates sz S (xq_R post f_slotCount f_capacity f_nodesUsed f_buildingSlot f_pendingCount f_summariesCurrent f_callsActive f_callsMade f_runOutcome f_runValue a_slotStates a_slotArities a_slotStarts a_slotSizes a_kinds a_firstOperands a_secondOperands a_children a_parents a_depths a_pendingNodes a_summaries a_nextSummaries a_nodeTypes a_paramsAfter a_params a_values a_arguments a_frameSlots a_frameNodes) (xq_F post f_slotCount f_capacity f_nodesUsed f_buildingSlot f_pendingCount f_summariesCurrent f_callsActive f_callsMade f_runOutcome f_runValue a_slotStates a_slotArities a_slotStarts a_slotSizes a_kinds a_firstOperands a_secondOperands a_children a_parents a_depths a_pendingNodes a_summaries a_nextSummaries a_nodeTypes a_paramsAfter a_params a_values a_arguments a_frameSlots a_frameNodes) (xq_E post f_slotCount f_capacity f_nodesUsed f_buildingSlot f_pendingCount f_summariesCurrent f_callsActive f_callsMade f_runOutcome f_runValue a_slotStates a_slotArities a_slotStarts a_slotSizes a_kinds a_firstOperands a_secondOperands a_children a_parents a_depths a_pendingNodes a_summaries a_nextSummaries a_nodeTypes a_paramsAfter a_params a_values a_arguments a_frameSlots a_frameNodes) := by
  intro t m fr g i v w Z hin hat hK ov ow hv hw hF hE
  obtain ⟨ht, hf, hg, s2, hi⟩ := hin
  obtain ⟨k, hk, ek, e1, e3, n0, pr, hB⟩ := xq_g hs hg s2
  have hS := hB.1
  have hc : rl_c (rl_K bk g) (rl_K bb g) i = 2 := by
    show bs_cc (rl_K bk g i) (rl_K bb g i) = 2
    rcases hK with h | h | h | h <;> rw [h]
    · exact bs_cc3 _
    · exact bs_cc4 _
    · exact bs_cc5 _
    · exact bs_cc6 _
  refine xq_st ht fun fuel hfu => xq_move hN hs hf hg s2 hi hat (fun z => absurd z (by rcases hK with h | h | h | h <;> rw [h] <;> decide)) (fun _ => ?_)
  refine xv_pair (m := m) hB hi hf hK hc ov ow hv hw (fun o => hF o t fuel rfl (by omega) (by omega)) (fun o => xf_2000 hf (by omega) fun V FN => ?_)
  have e1 : (rn_op (rl_K bk g i) v w m).1 = 1 := by
    have := hE o
    unfold rn_op at o ⊢
    split
    · next z => rw [if_pos z] at o; exact absurd rfl o
    · next z =>
      rw [if_neg z] at o
      split
      · rfl
      · next z1 =>
        rw [if_neg z1] at o
        split
        · rfl
        · next z2 =>
          rw [if_neg z2] at o
          split
          · next z3 => rw [if_pos z3] at o; exact absurd rfl o
          · next z3 =>
            rw [if_neg z3] at o
            split
            · rfl
            · next z4 =>
              rw [if_neg z4] at o
              split
              · rfl
              · next z5 => rw [if_neg z5] at o; exact absurd rfl o
  have hE := hE o
  rw [e1] at hE
  exact xq_end (by decide) hE (by omega)
theorem xq_M3 (hN : N ≤ 8) (hs : rl_slots N U sz S a_slotStates a_slotArities a_slotSizes szY a_slotStarts bk ba bb a_kinds a_firstOperands a_secondOperands a_children a_parents a_depths) : xr_M3 N (rl_K bk) (rl_K bb) a_slotStates sz S (xq_R post f_slotCount f_capacity f_nodesUsed f_buildingSlot f_pendingCount f_summariesCurrent f_callsActive f_callsMade f_runOutcome f_runValue a_slotStates a_slotArities a_slotStarts a_slotSizes a_kinds a_firstOperands a_secondOperands a_children a_parents a_depths a_pendingNodes a_summaries a_nextSummaries a_nodeTypes a_paramsAfter a_params a_values a_arguments a_frameSlots a_frameNodes) (xq_F post f_slotCount f_capacity f_nodesUsed f_buildingSlot f_pendingCount f_summariesCurrent f_callsActive f_callsMade f_runOutcome f_runValue a_slotStates a_slotArities a_slotStarts a_slotSizes a_kinds a_firstOperands a_secondOperands a_children a_parents a_depths a_pendingNodes a_summaries a_nextSummaries a_nodeTypes a_paramsAfter a_params a_values a_arguments a_frameSlots a_frameNodes) := by
  intro t m fr g i v Z hin hat hK ov hv hF
  obtain ⟨ht, hf, hg, s2, hi⟩ := hin
  obtain ⟨k, hk, ek, e1, e3, n0, pr, hB⟩ := xq_g hs hg s2
  refine xq_st ht fun fuel hfu => xq_move hN hs hf hg s2 hi hat (fun z => absurd z (by rw [hK]; decide)) (fun _ => ?_)
  exact xv_isi hB hi hf hK ov hv (hF t fuel rfl (by omega) (by omega))
theorem xq_M4 (hN : N ≤ 8) (hs : rl_slots N U sz S a_slotStates a_slotArities a_slotSizes szY a_slotStarts bk ba bb a_kinds a_firstOperands a_secondOperands a_children a_parents a_depths) : xr_M4 N (rl_K bk) (rl_K bb) a_slotStates sz S (xq_R post f_slotCount f_capacity f_nodesUsed f_buildingSlot f_pendingCount f_summariesCurrent f_callsActive f_callsMade f_runOutcome f_runValue a_slotStates a_slotArities a_slotStarts a_slotSizes a_kinds a_firstOperands a_secondOperands a_children a_parents a_depths a_pendingNodes a_summaries a_nextSummaries a_nodeTypes a_paramsAfter a_params a_values a_arguments a_frameSlots a_frameNodes) (xq_F post f_slotCount f_capacity f_nodesUsed f_buildingSlot f_pendingCount f_summariesCurrent f_callsActive f_callsMade f_runOutcome f_runValue a_slotStates a_slotArities a_slotStarts a_slotSizes a_kinds a_firstOperands a_secondOperands a_children a_parents a_depths a_pendingNodes a_summaries a_nextSummaries a_nodeTypes a_paramsAfter a_params a_values a_arguments a_frameSlots a_frameNodes) := by
  intro t m fr g i Z hin hat hK hF
  obtain ⟨ht, hf, hg, s2, hi⟩ := hin
  obtain ⟨k, hk, ek, e1, e3, n0, pr, hB⟩ := xq_g hs hg s2
  refine xq_st ht fun fuel hfu => xq_move hN hs hf hg s2 hi hat (fun z => absurd z (by rw [hK]; decide)) (fun _ => ?_)
  exact xv_if hB hi hf hK (hF t fuel rfl (by omega) (by omega))
theorem xq_M6 (hN : N ≤ 8) (hs : rl_slots N U sz S a_slotStates a_slotArities a_slotSizes szY a_slotStarts bk ba bb a_kinds a_firstOperands a_secondOperands a_children a_parents a_depths) : xr_M6 N a_slotStates sz S (xq_R post f_slotCount f_capacity f_nodesUsed f_buildingSlot f_pendingCount f_summariesCurrent f_callsActive f_callsMade f_runOutcome f_runValue a_slotStates a_slotArities a_slotStarts a_slotSizes a_kinds a_firstOperands a_secondOperands a_children a_parents a_depths a_pendingNodes a_summaries a_nextSummaries a_nodeTypes a_paramsAfter a_params a_values a_arguments a_frameSlots a_frameNodes) (xq_F post f_slotCount f_capacity f_nodesUsed f_buildingSlot f_pendingCount f_summariesCurrent f_callsActive f_callsMade f_runOutcome f_runValue a_slotStates a_slotArities a_slotStarts a_slotSizes a_kinds a_firstOperands a_secondOperands a_children a_parents a_depths a_pendingNodes a_summaries a_nextSummaries a_nodeTypes a_paramsAfter a_params a_values a_arguments a_frameSlots a_frameNodes) := by
  intro t m fr g g' i' Z ht hf hg s2 z0 h2 h3 hg' s2' hi' h3' hF
  obtain ⟨k, hk, ek, e1, e3, n0, pr, hB⟩ := xq_g hs hg s2
  have hS := hB.1
  have wf : vp_in (nI (fr + 1)) 16 := vp_in_nI (by omega) (by decide)
  have cf : (nI (fr + 1)).toNatClampNeg = fr + 1 := nI_clamp (by omega)
  have wg : vp_in (nI g) 8 := vp_in_nI (by omega) (by decide)
  have cg : (nI g).toNatClampNeg = g := nI_clamp (by omega)
  refine xq_st ht fun fuel hfu => ?_
  unfold wpX_makeMove
  dsimp only
  refine nm_r (nI_pred (fr + 1)) ⟨wf, nm_r (e' := nI (S g + sz g)) (by rw [cf]; exact h3) ⟨wf, nm_r (e' := nI g) (by rw [cf]; exact h2) ⟨wg, wg, ?_⟩⟩⟩
  rw [cg, e1, e3, nI_add]
  refine br_t rfl ?_
  unfold wpX_leaveCall
  dsimp only
  rw [show nI (S g + sz g) - 1 = nI (S g + (sz g - 1)) by rw [show S g + (sz g - 1) = S g + sz g - 1 by omega]; exact pk_sub (b := 1) (by omega), show (128 : Int32) = nI 128 by decide, pk_mul, nI_add, nI_clamp (n := (fr + 1) * 128 + (S g + (sz g - 1))) (by omega), nI_pred, nI_clamp (n := fr) (by omega), h3']
  exact ⟨vp_in_nI (by omega) (by omega), nm_e (br_f (nI_ne0 (by omega) (by omega)) ⟨vp_in_nI (by omega) (by decide), hF t fuel rfl (by omega) (by omega)⟩)⟩
/-- a call's entry -/
theorem xq_enter {Q : SX → Prop} {a g m : Nat} {v w : Int32} {Z : Nat → Nat → Int32} (ha : a < 16) (hg : g < 8) (e3 : a_slotStarts g = nI (S g))
    (H : ∀ Z', Z' = xq_z (Z 0) (upd (upd (Z 1) (a * 2) v) (a * 2 + 1) w) (upd (Z 2) a (nI g)) (upd (Z 3) a (nI (S g))) → Q (f_slotCount, f_capacity, f_nodesUsed, f_buildingSlot, f_pendingCount, f_summariesCurrent, nI (a + 1), nI (m + 1), -1, 0, a_slotStates, a_slotArities, a_slotStarts, a_slotSizes, a_kinds, a_firstOperands, a_secondOperands, a_children, a_parents, a_depths, a_pendingNodes, a_summaries, a_nextSummaries, a_nodeTypes, a_paramsAfter, a_params, Z' 0, Z' 1, Z' 2, Z' 3)) :
    wpX_enterCall Q (f_slotCount, f_capacity, f_nodesUsed, f_buildingSlot, f_pendingCount, f_summariesCurrent, nI a, nI m, -1, 0, a_slotStates, a_slotArities, a_slotStarts, a_slotSizes, a_kinds, a_firstOperands, a_secondOperands, a_children, a_parents, a_depths, a_pendingNodes, a_summaries, a_nextSummaries, a_nodeTypes, a_paramsAfter, a_params, Z 0, Z 1, Z 2, Z 3) (nI g) v w := by
  have wa : vp_in (nI a) 16 := vp_in_nI ha (by decide)
  unfold wpX_enterCall
  dsimp only
  rw [xc_21, xc_2, nI_clamp (n := a * 2) (by omega), nI_clamp (n := a * 2 + 1) (by omega), nI_clamp (n := a) (by omega), nI_clamp (n := g) (by omega), e3]
  exact ⟨vp_in_nI (by omega) (by omega), nm_e ⟨vp_in_nI (by omega) (by omega), nm_e ⟨wa, nm_e ⟨vp_in_nI (by omega) (by decide), wa, nm_e (nm_r (nI_1 a) (nm_r (nI_1 m) (H _ rfl)))⟩⟩⟩⟩
theorem xq_M5 (hN : N ≤ 8) (hs : rl_slots N U sz S a_slotStates a_slotArities a_slotSizes szY a_slotStarts bk ba bb a_kinds a_firstOperands a_secondOperands a_children a_parents a_depths) : xr_M5 N (rl_K bk) (rl_K ba) (rl_K bb) a_slotStates a_slotArities sz S (xq_R post f_slotCount f_capacity f_nodesUsed f_buildingSlot f_pendingCount f_summariesCurrent f_callsActive f_callsMade f_runOutcome f_runValue a_slotStates a_slotArities a_slotStarts a_slotSizes a_kinds a_firstOperands a_secondOperands a_children a_parents a_depths a_pendingNodes a_summaries a_nextSummaries a_nodeTypes a_paramsAfter a_params a_values a_arguments a_frameSlots a_frameNodes) (xq_E post f_slotCount f_capacity f_nodesUsed f_buildingSlot f_pendingCount f_summariesCurrent f_callsActive f_callsMade f_runOutcome f_runValue a_slotStates a_slotArities a_slotStarts a_slotSizes a_kinds a_firstOperands a_secondOperands a_children a_parents a_depths a_pendingNodes a_summaries a_nextSummaries a_nodeTypes a_paramsAfter a_params a_values a_arguments a_frameSlots a_frameNodes) := by
  intro t m fr g i b v w Z hin hat h9 hb hb2 hm a0 a1 a2 hgo hlim hfail
  obtain ⟨ht, hf, hg, s2, hi⟩ := hin
  obtain ⟨k, hk, ek, e1, e3, n0, pr, hB⟩ := xq_g hs hg s2
  obtain ⟨wr, cr, rk, ra, rb⟩ := xc_row hB hi
  obtain ⟨a, ha, ea⟩ := (hB.2.1.1 i hi).2.2.2.2.1 h9
  have wa : vp_in (nI a) 8 := vp_in_nI (by omega) (by decide)
  have ca : (nI a).toNatClampNeg = a := nI_clamp (by omega)
  have hc : rl_c (rl_K bk g) (rl_K bb g) i = b := by rw [ab_c9 hB.2.1 h9, hb, nI_clamp (by omega)]
  rw [ea, ca] at hlim hfail
  refine xq_st ht fun fuel hfu => xq_move hN hs hf hg s2 hi hat (fun _ => ?_) (fun z => absurd h9 z)
  unfold wpX_tryCall
  dsimp only
  rw [cr, ra, rb, ea, hb]
  refine ⟨wr, nm_e ⟨wr, nm_e ⟨wa, ?_⟩⟩⟩
  rw [ca]
  by_cases sa : a_slotStates a = 2
  · refine br_t sa ⟨wa, ?_⟩
    by_cases aa : a_slotArities a = nI b
    · refine br_t aa ?_
      by_cases hm2 : 200 ≤ m
      · exact br_t (nI_le (a := 200) hm2 (by omega)) (xq_end (by decide) (hlim sa (by rw [hb]; exact aa) (Or.inl hm2)) (by omega))
      · refine br_f (nI_ge (b := 200) (by omega) (by decide)) ?_
        by_cases hf2 : fr < 15
        · refine br_t (nI_lt (b := 16) (by omega) (by decide)) ?_
          obtain ⟨_, _, _, _, ea3, _, _, _⟩ := xq_g hs ha sa
          have fin : wX_tryCall_107 (fun u => match u with | (f_slotCount, f_capacity, f_nodesUsed, f_buildingSlot, f_pendingCount, f_summariesCurrent, f_callsActive, f_callsMade, f_runOutcome, f_runValue, a_slotStates, a_slotArities, a_slotStarts, a_slotSizes, a_kinds, a_firstOperands, a_secondOperands, a_children, a_parents, a_depths, a_pendingNodes, a_summaries, a_nextSummaries, a_nodeTypes, a_paramsAfter, a_params, a_values, a_arguments, a_frameSlots, a_frameNodes) => xq_k post t fuel (f_slotCount, f_capacity, f_nodesUsed, f_buildingSlot, f_pendingCount, f_summariesCurrent, f_callsActive, f_callsMade, f_runOutcome, f_runValue, a_slotStates, a_slotArities, a_slotStarts, a_slotSizes, a_kinds, a_firstOperands, a_secondOperands, a_children, a_parents, a_depths, a_pendingNodes, a_summaries, a_nextSummaries, a_nodeTypes, a_paramsAfter, a_params, a_values, a_arguments, a_frameSlots, a_frameNodes)) (nI a) v w f_slotCount f_capacity f_nodesUsed f_buildingSlot f_pendingCount f_summariesCurrent (nI (fr + 1)) (nI m) (-1) 0 a_slotStates a_slotArities a_slotStarts a_slotSizes a_kinds a_firstOperands a_secondOperands a_children a_parents a_depths a_pendingNodes a_summaries a_nextSummaries a_nodeTypes a_paramsAfter a_params (Z 0) (Z 1) (Z 2) (Z 3) := by
            refine xq_enter (a := fr + 1) (by omega) (by omega) ea3 fun Z' eZ => ?_
            have go := hgo a ha ea sa (by rw [hb]; exact aa) (by omega) hf2 Z'
            subst eZ
            refine nm_r (nI_1 t) (go (fun j => rfl) (fun j hj => ?_) (fun j hj => pk_un (by omega)) (fun j hj => pk_un (by omega)) ?_ pk_us ⟨pk_us, pk_us⟩ fuel (by omega))
            · show upd (upd (Z 1) _ _) _ _ j = Z 1 j
              rw [pk_un (by omega), pk_un (by omega)]
            · show upd (upd (Z 1) _ _) _ _ _ = v
              rw [pk_un (by omega), pk_us]
          have bb : b = 0 ∨ b = 1 ∨ b = 2 := by omega
          rcases bb with rfl | rfl | rfl
          · obtain ⟨rfl, rfl⟩ := a0 rfl
            exact br_t (by decide) (br_f (by decide) fin)
          · obtain ⟨ev, rfl⟩ := a1 rfl
            refine br_f (by decide) (xv_child (j := 0) hB hi (by omega) hf ?_)
            refine br_f (by decide) ?_
            rw [show Z 0 (fr * 128 + (S g + bs_ch (rl_c (rl_K bk g) (rl_K bb g)) i 0)) = v from ev.symm]
            exact fin
          · obtain ⟨ev, ew⟩ := a2 rfl
            refine br_f (by decide) (xv_child (j := 0) hB hi (by omega) hf ?_)
            refine br_t (by decide) (xv_child (j := 1) hB hi (by omega) hf ?_)
            rw [show Z 0 (fr * 128 + (S g + bs_ch (rl_c (rl_K bk g) (rl_K bb g)) i 0)) = v from ev.symm, show Z 0 (fr * 128 + (S g + bs_ch (rl_c (rl_K bk g) (rl_K bb g)) i 1)) = w from ew.symm]
            exact fin
        · exact br_f (nI_nlt (b := 16) (by omega) (by omega)) (xq_end (by decide) (hlim sa (by rw [hb]; exact aa) (Or.inr (by omega))) (by omega))
    · exact br_f aa (xq_end (by decide) (hfail fun z => aa (by rw [← hb]; exact z.2)) (by omega))
  · exact br_f sa (xq_end (by decide) (hfail fun z => sa z.1) (by omega))
end
end
section
section
variable {f_slotCount f_capacity f_nodesUsed f_buildingSlot f_pendingCount f_summariesCurrent f_callsActive f_callsMade f_runOutcome f_runValue : Int32} {a_slotStates a_slotArities a_slotStarts a_slotSizes a_kinds a_firstOperands a_secondOperands a_children a_parents a_depths a_pendingNodes a_summaries a_nextSummaries a_nodeTypes a_paramsAfter a_params a_values a_arguments a_frameSlots a_frameNodes : Nat → Int32} {post : Int32 → SX → Prop} {N U : Nat} {sz S : Nat → Nat} {szY bk ba bb : Nat → Int32}
theorem rn_2000 {v : Int32} (h : rn_ok v) : ¬ v = 2000 := by
  intro e
  rw [e] at h
  rcases h with h | h
  · exact absurd h (by decide)
  · exact absurd h (by decide)
theorem xq_fin {Z : Nat → Nat → Int32} {fr r : Nat} {v : Int32} {nx : Int32} : xr_fin Z (xq_z (upd (Z 0) (fr * 128 + r) v) (Z 1) (Z 2) (upd (Z 3) fr nx)) fr r v nx :=
  ⟨pk_us, fun j hj => pk_un hj, fun _ => rfl, fun _ => rfl, pk_us, fun j hj => pk_un hj⟩
theorem xq_fin2 {Z : Nat → Nat → Int32} {fr r : Nat} {v : Int32} {nx nx' : Int32} : xr_fin Z (xq_z (upd (Z 0) (fr * 128 + r) v) (Z 1) (Z 2) (upd (upd (Z 3) fr nx') fr nx)) fr r v nx :=
  ⟨pk_us, fun j hj => pk_un hj, fun _ => rfl, fun _ => rfl, pk_us, fun j hj => by show upd (upd (Z 3) _ _) _ _ j = Z 3 j; rw [pk_un hj, pk_un hj]⟩
theorem xq_F0 (hN : N ≤ 8) (hs : rl_slots N U sz S a_slotStates a_slotArities a_slotSizes szY a_slotStarts bk ba bb a_kinds a_firstOperands a_secondOperands a_children a_parents a_depths) : xr_F0 N a_slotStates sz S (xq_R post f_slotCount f_capacity f_nodesUsed f_buildingSlot f_pendingCount f_summariesCurrent f_callsActive f_callsMade f_runOutcome f_runValue a_slotStates a_slotArities a_slotStarts a_slotSizes a_kinds a_firstOperands a_secondOperands a_children a_parents a_depths a_pendingNodes a_summaries a_nextSummaries a_nodeTypes a_paramsAfter a_params a_values a_arguments a_frameSlots a_frameNodes) (xq_F post f_slotCount f_capacity f_nodesUsed f_buildingSlot f_pendingCount f_summariesCurrent f_callsActive f_callsMade f_runOutcome f_runValue a_slotStates a_slotArities a_slotStarts a_slotSizes a_kinds a_firstOperands a_secondOperands a_children a_parents a_depths a_pendingNodes a_summaries a_nextSummaries a_nodeTypes a_paramsAfter a_params a_values a_arguments a_frameSlots a_frameNodes) := by
  intro t m fr g v Z hf hg s2 z0 ov hk' t' fuel et ht hfu
  obtain ⟨k, hk, ek, e1, e3, n0, pr, hB⟩ := xq_g hs hg s2
  have wf : vp_in (nI fr) 16 := vp_in_nI hf (by decide)
  have cf : (nI fr).toNatClampNeg = fr := nI_clamp (by omega)
  have hS := hB.1
  have w : vp_in (nI (S g + (sz g - 1))) 128 := vp_in_nI (by omega) (by decide)
  have cl : (nI (S g + (sz g - 1))).toNatClampNeg = S g + (sz g - 1) := nI_clamp (by omega)
  unfold wpX_finishNode
  dsimp only
  rw [show (128 : Int32) = nI 128 by decide, pk_mul, nI_add, nI_clamp (n := fr * 128 + (S g + (sz g - 1))) (by omega), cf, nI_1]
  refine ⟨vp_in_nI (by omega) (by omega), nm_e ⟨wf, nm_e (br_f (rn_2000 ov) ?_)⟩⟩
  unfold wpX_isCondition
  dsimp only
  refine ⟨w, nm_r (e' := -1) (by rw [cl]; exact pr) (br_t rfl (br_t rfl ?_))⟩
  unfold wpX_isThenBranch
  dsimp only
  refine ⟨w, nm_r (e' := -1) (by rw [cl]; exact pr) (br_t rfl (br_t rfl ?_))⟩
  refine nm_r (e' := nI t) (by rw [et, nI_1]) ?_
  exact hk' (xq_z (upd (Z 0) (fr * 128 + (S g + (sz g - 1))) v) (Z 1) (Z 2) (upd (Z 3) fr (nI (S g + (sz g - 1) + 1)))) (by rw [show S g + (sz g - 1) + 1 = S g + sz g by omega]; exact xq_fin) fuel hfu
theorem xq_F1 (hN : N ≤ 8) (hs : rl_slots N U sz S a_slotStates a_slotArities a_slotSizes szY a_slotStarts bk ba bb a_kinds a_firstOperands a_secondOperands a_children a_parents a_depths) : xr_F1 N (rl_K bk) (rl_K bb) a_slotStates sz S (xq_R post f_slotCount f_capacity f_nodesUsed f_buildingSlot f_pendingCount f_summariesCurrent f_callsActive f_callsMade f_runOutcome f_runValue a_slotStates a_slotArities a_slotStarts a_slotSizes a_kinds a_firstOperands a_secondOperands a_children a_parents a_depths a_pendingNodes a_summaries a_nextSummaries a_nodeTypes a_paramsAfter a_params a_values a_arguments a_frameSlots a_frameNodes) (xq_F post f_slotCount f_capacity f_nodesUsed f_buildingSlot f_pendingCount f_summariesCurrent f_callsActive f_callsMade f_runOutcome f_runValue a_slotStates a_slotArities a_slotStarts a_slotSizes a_kinds a_firstOperands a_secondOperands a_children a_parents a_depths a_pendingNodes a_summaries a_nextSummaries a_nodeTypes a_paramsAfter a_params a_values a_arguments a_frameSlots a_frameNodes) := by
  intro t m fr g i j v Z hf hg s2 hi hj h8 ov hk' t' fuel et ht hfu
  obtain ⟨k, hk, ek, e1, e3, n0, pr, hB⟩ := xq_g hs hg s2
  have wf : vp_in (nI fr) 16 := vp_in_nI hf (by decide)
  have cf : (nI fr).toNatClampNeg = fr := nI_clamp (by omega)
  have hS := hB.1
  have lt : bs_ch (sp_c (rl_K bk) (rl_K bb) g) i j < i := bs_ch_lt hB.2.1.2.2 hi hj
  have c3 : j = 2 ∨ ¬ rl_K bk g i = 8 := by
    by_cases z : rl_K bk g i = 8
    · exact Or.inl (h8 z)
    · exact Or.inr z
  unfold wpX_finishNode
  dsimp only
  rw [show (128 : Int32) = nI 128 by decide, pk_mul, nI_add, nI_clamp (n := fr * 128 + (S g + bs_ch (sp_c (rl_K bk) (rl_K bb) g) i j)) (by omega), cf, nI_1]
  refine ⟨vp_in_nI (by omega) (by omega), nm_e ⟨wf, nm_e (br_f (rn_2000 ov) ?_)⟩⟩
  refine xc_cond hB hi hj (fun z y => absurd (h8 z) (by omega)) (fun _ => br_t rfl ?_)
  refine xc_then hB hi hj (fun z y => absurd (h8 z) (by omega)) (fun _ => br_t rfl ?_)
  refine nm_r (e' := nI t) (by rw [et, nI_1]) ?_
  exact hk' (xq_z (upd (Z 0) (fr * 128 + (S g + bs_ch (sp_c (rl_K bk) (rl_K bb) g) i j)) v) (Z 1) (Z 2) (upd (Z 3) fr (nI (S g + bs_ch (sp_c (rl_K bk) (rl_K bb) g) i j + 1)))) xq_fin fuel hfu
theorem xq_F2 (hN : N ≤ 8) (hs : rl_slots N U sz S a_slotStates a_slotArities a_slotSizes szY a_slotStarts bk ba bb a_kinds a_firstOperands a_secondOperands a_children a_parents a_depths) : xr_F2 N (rl_K bk) (rl_K bb) a_slotStates sz S (xq_R post f_slotCount f_capacity f_nodesUsed f_buildingSlot f_pendingCount f_summariesCurrent f_callsActive f_callsMade f_runOutcome f_runValue a_slotStates a_slotArities a_slotStarts a_slotSizes a_kinds a_firstOperands a_secondOperands a_children a_parents a_depths a_pendingNodes a_summaries a_nextSummaries a_nodeTypes a_paramsAfter a_params a_values a_arguments a_frameSlots a_frameNodes) (xq_F post f_slotCount f_capacity f_nodesUsed f_buildingSlot f_pendingCount f_summariesCurrent f_callsActive f_callsMade f_runOutcome f_runValue a_slotStates a_slotArities a_slotStarts a_slotSizes a_kinds a_firstOperands a_secondOperands a_children a_parents a_depths a_pendingNodes a_summaries a_nextSummaries a_nodeTypes a_paramsAfter a_params a_values a_arguments a_frameSlots a_frameNodes) (xq_E post f_slotCount f_capacity f_nodesUsed f_buildingSlot f_pendingCount f_summariesCurrent f_callsActive f_callsMade f_runOutcome f_runValue a_slotStates a_slotArities a_slotStarts a_slotSizes a_kinds a_firstOperands a_secondOperands a_children a_parents a_depths a_pendingNodes a_summaries a_nextSummaries a_nodeTypes a_paramsAfter a_params a_values a_arguments a_frameSlots a_frameNodes) := by
  intro t m fr g i v Z hf hg s2 hi h8 ov k1 k2 k3 t' fuel et ht hfu
  obtain ⟨k, hk, ek, e1, e3, n0, pr, hB⟩ := xq_g hs hg s2
  have wf : vp_in (nI fr) 16 := vp_in_nI hf (by decide)
  have cf : (nI fr).toNatClampNeg = fr := nI_clamp (by omega)
  have hS := hB.1
  have c3 := ab_c8 hB.2.1 h8
  have lt : bs_ch (sp_c (rl_K bk) (rl_K bb) g) i 0 < i := bs_ch_lt hB.2.1.2.2 hi (k := 0) (show 0 < rl_c (rl_K bk g) (rl_K bb g) i by omega)
  obtain ⟨_, _, _, l0⟩ := xc_child hB hi (j := 0) (by omega)
  obtain ⟨wj, clj, _⟩ := xc_row hB l0
  obtain ⟨w1, cl1, r1, _⟩ := xc_child hB hi (j := 1) (by omega)
  obtain ⟨_, _, _, r4, _⟩ := hB.2.2 i hi
  have pc : a_parents (S g + bs_ch (sp_c (rl_K bk) (rl_K bb) g) i 0) = nI (S g + i) := (r4 0 (by omega)).2
  have clj' : (nI (S g + bs_ch (sp_c (rl_K bk) (rl_K bb) g) i 0)).toNatClampNeg = S g + bs_ch (sp_c (rl_K bk) (rl_K bb) g) i 0 := clj
  unfold wpX_finishNode
  dsimp only
  rw [clj', pc, xc_31, cl1, r1, show (128 : Int32) = nI 128 by decide, pk_mul, nI_add, nI_clamp (n := fr * 128 + (S g + bs_ch (sp_c (rl_K bk) (rl_K bb) g) i 0)) (by omega), cf, nI_1, nI_1]
  refine ⟨vp_in_nI (by omega) (by omega), nm_e ⟨wf, nm_e (br_f (rn_2000 ov) ?_)⟩⟩
  refine xc_cond hB hi (j := 0) (by omega) (fun _ _ => br_f (by decide) ?_) (fun z => absurd ⟨h8, rfl⟩ z)
  by_cases vf : v = 1000
  · refine br_t vf ⟨wj, w1, wf, nm_e (nm_r (e' := nI t) (by rw [et, nI_1]) ?_)⟩
    exact k2 vf (xq_z (upd (Z 0) (fr * 128 + (S g + bs_ch (sp_c (rl_K bk) (rl_K bb) g) i 0)) v) (Z 1) (Z 2) (upd (upd (Z 3) fr (nI (S g + bs_ch (sp_c (rl_K bk) (rl_K bb) g) i 0 + 1))) fr (nI (S g + bs_ch (rl_c (rl_K bk g) (rl_K bb g)) i 1 + 1)))) xq_fin2 fuel hfu
  · refine br_f vf ?_
    by_cases vt : v = 1001
    · refine br_t vt (nm_r (e' := nI t) (by rw [et, nI_1]) ?_)
      exact k1 vt (xq_z (upd (Z 0) (fr * 128 + (S g + bs_ch (sp_c (rl_K bk) (rl_K bb) g) i 0)) v) (Z 1) (Z 2) (upd (Z 3) fr (nI (S g + bs_ch (sp_c (rl_K bk) (rl_K bb) g) i 0 + 1)))) xq_fin fuel hfu
    · exact br_f vt (xq_end (by decide) (k3 vt vf) (by omega))
theorem xq_F3 (hN : N ≤ 8) (hs : rl_slots N U sz S a_slotStates a_slotArities a_slotSizes szY a_slotStarts bk ba bb a_kinds a_firstOperands a_secondOperands a_children a_parents a_depths) : xr_F3 N (rl_K bk) (rl_K bb) a_slotStates sz S (xq_R post f_slotCount f_capacity f_nodesUsed f_buildingSlot f_pendingCount f_summariesCurrent f_callsActive f_callsMade f_runOutcome f_runValue a_slotStates a_slotArities a_slotStarts a_slotSizes a_kinds a_firstOperands a_secondOperands a_children a_parents a_depths a_pendingNodes a_summaries a_nextSummaries a_nodeTypes a_paramsAfter a_params a_values a_arguments a_frameSlots a_frameNodes) (xq_F post f_slotCount f_capacity f_nodesUsed f_buildingSlot f_pendingCount f_summariesCurrent f_callsActive f_callsMade f_runOutcome f_runValue a_slotStates a_slotArities a_slotStarts a_slotSizes a_kinds a_firstOperands a_secondOperands a_children a_parents a_depths a_pendingNodes a_summaries a_nextSummaries a_nodeTypes a_paramsAfter a_params a_values a_arguments a_frameSlots a_frameNodes) := by
  intro t m fr g i v Z hf hg s2 hi h8 ov k1 t' fuel et ht hfu
  obtain ⟨k, hk, ek, e1, e3, n0, pr, hB⟩ := xq_g hs hg s2
  have wf : vp_in (nI fr) 16 := vp_in_nI hf (by decide)
  have cf : (nI fr).toNatClampNeg = fr := nI_clamp (by omega)
  have hS := hB.1
  have c3 := ab_c8 hB.2.1 h8
  have lt : bs_ch (sp_c (rl_K bk) (rl_K bb) g) i 1 < i := bs_ch_lt hB.2.1.2.2 hi (k := 1) (show 1 < rl_c (rl_K bk g) (rl_K bb g) i by omega)
  obtain ⟨_, _, _, l1⟩ := xc_child hB hi (j := 1) (by omega)
  obtain ⟨wj, clj, _⟩ := xc_row hB l1
  obtain ⟨_, _, _, r4, _⟩ := hB.2.2 i hi
  have pc : a_parents (S g + bs_ch (sp_c (rl_K bk) (rl_K bb) g) i 1) = nI (S g + i) := (r4 1 (by omega)).2
  have clj' : (nI (S g + bs_ch (sp_c (rl_K bk) (rl_K bb) g) i 1)).toNatClampNeg = S g + bs_ch (sp_c (rl_K bk) (rl_K bb) g) i 1 := clj
  unfold wpX_finishNode
  dsimp only
  rw [clj', pc, show (128 : Int32) = nI 128 by decide, pk_mul, nI_add, nI_clamp (n := fr * 128 + (S g + bs_ch (sp_c (rl_K bk) (rl_K bb) g) i 1)) (by omega), cf, nI_1 (S g + bs_ch (sp_c (rl_K bk) (rl_K bb) g) i 1)]
  refine ⟨vp_in_nI (by omega) (by omega), nm_e ⟨wf, nm_e (br_f (rn_2000 ov) ?_)⟩⟩
  refine xc_cond hB hi (j := 1) (by omega) (fun _ z => absurd z (by decide)) (fun _ => br_t rfl ?_)
  refine xc_then hB hi (j := 1) (by omega) (fun _ _ => br_f (by decide) ?_) (fun z => absurd ⟨h8, rfl⟩ z)
  refine ⟨wj, wf, nm_e (nm_r (e' := nI t) (by rw [et, nI_1]) ?_)⟩
  exact k1 (xq_z (upd (Z 0) (fr * 128 + (S g + bs_ch (sp_c (rl_K bk) (rl_K bb) g) i 1)) v) (Z 1) (Z 2) (upd (upd (Z 3) fr (nI (S g + bs_ch (sp_c (rl_K bk) (rl_K bb) g) i 1 + 1))) fr (nI (S g + i)))) xq_fin2 fuel hfu
/-- a run from its first call on, by the pure outcome -/
theorem xq_run {f : Nat} {x y : Int32} (hN : N ≤ 8) (hs : rl_slots N U sz S a_slotStates a_slotArities a_slotSizes szY a_slotStarts bk ba bb a_kinds a_firstOperands a_secondOperands a_children a_parents a_depths) (hf : f < N) (s2 : a_slotStates f = 2) (ag : rn_ag (a_slotArities f) x y)
    (H1 : (rn_ev (rl_K bk) (rl_K ba) (rl_K bb) a_slotStates a_slotArities sz 2048 0 f (sz f - 1) x y 1).1 ≠ -1 → ∀ (ca cm : Int32) (V AR FS FN : Nat → Int32), post (rn_ev (rl_K bk) (rl_K ba) (rl_K bb) a_slotStates a_slotArities sz 2048 0 f (sz f - 1) x y 1).1 (f_slotCount, f_capacity, f_nodesUsed, f_buildingSlot, f_pendingCount, f_summariesCurrent, ca, cm, (rn_ev (rl_K bk) (rl_K ba) (rl_K bb) a_slotStates a_slotArities sz 2048 0 f (sz f - 1) x y 1).1, 0, a_slotStates, a_slotArities, a_slotStarts, a_slotSizes, a_kinds, a_firstOperands, a_secondOperands, a_children, a_parents, a_depths, a_pendingNodes, a_summaries, a_nextSummaries, a_nodeTypes, a_paramsAfter, a_params, V, AR, FS, FN))
    (H2 : (rn_ev (rl_K bk) (rl_K ba) (rl_K bb) a_slotStates a_slotArities sz 2048 0 f (sz f - 1) x y 1).1 = -1 → ∀ (ca cm : Int32) (V AR FS FN : Nat → Int32), post 0 (f_slotCount, f_capacity, f_nodesUsed, f_buildingSlot, f_pendingCount, f_summariesCurrent, ca, cm, 0, (rn_ev (rl_K bk) (rl_K ba) (rl_K bb) a_slotStates a_slotArities sz 2048 0 f (sz f - 1) x y 1).2.1, a_slotStates, a_slotArities, a_slotStarts, a_slotSizes, a_kinds, a_firstOperands, a_secondOperands, a_children, a_parents, a_depths, a_pendingNodes, a_summaries, a_nextSummaries, a_nodeTypes, a_paramsAfter, a_params, V, AR, FS, FN)) :
    wX_run_58 post (nI f) x y f_slotCount f_capacity f_nodesUsed f_buildingSlot f_pendingCount f_summariesCurrent f_callsActive f_callsMade f_runOutcome f_runValue a_slotStates a_slotArities a_slotStarts a_slotSizes a_kinds a_firstOperands a_secondOperands a_children a_parents a_depths a_pendingNodes a_summaries a_nextSummaries a_nodeTypes a_paramsAfter a_params a_values a_arguments a_frameSlots a_frameNodes := by
  obtain ⟨k, hk, ek, e1, e3, n0, pr, hB⟩ := xq_g hs hf s2
  have hS := hB.1
  have root := rl_root hs f hf s2
  unfold wX_run_58
  refine xq_enter (a := 0) (m := 0) (Z := xq_z a_values a_arguments a_frameSlots a_frameNodes) (by omega) (by omega) e3 fun Z' eZ => ⟨1000001, ?_⟩
  have sim := xr_sim (XR := xq_R post f_slotCount f_capacity f_nodesUsed f_buildingSlot f_pendingCount f_summariesCurrent f_callsActive f_callsMade f_runOutcome f_runValue a_slotStates a_slotArities a_slotStarts a_slotSizes a_kinds a_firstOperands a_secondOperands a_children a_parents a_depths a_pendingNodes a_summaries a_nextSummaries a_nodeTypes a_paramsAfter a_params a_values a_arguments a_frameSlots a_frameNodes) (XF := xq_F post f_slotCount f_capacity f_nodesUsed f_buildingSlot f_pendingCount f_summariesCurrent f_callsActive f_callsMade f_runOutcome f_runValue a_slotStates a_slotArities a_slotStarts a_slotSizes a_kinds a_firstOperands a_secondOperands a_children a_parents a_depths a_pendingNodes a_summaries a_nextSummaries a_nodeTypes a_paramsAfter a_params a_values a_arguments a_frameSlots a_frameNodes) (XE := xq_E post f_slotCount f_capacity f_nodesUsed f_buildingSlot f_pendingCount f_summariesCurrent f_callsActive f_callsMade f_runOutcome f_runValue a_slotStates a_slotArities a_slotStarts a_slotSizes a_kinds a_firstOperands a_secondOperands a_children a_parents a_depths a_pendingNodes a_summaries a_nextSummaries a_nodeTypes a_paramsAfter a_params a_values a_arguments a_frameSlots a_frameNodes) hN (rl_sp_ok hs) (rl_root hs) (rl_S128 hs) (xq_M1 hN hs) (xq_M2 hN hs) (xq_M3 hN hs) (xq_M4 hN hs) (xq_M5 hN hs) (xq_M6 hN hs) (xq_F0 hN hs) (xq_F1 hN hs) (xq_F2 hN hs) (xq_F3 hN hs) 2048
  have gd := rn_ev_gd hN (rl_sp_ok hs) 2048 0 f (sz f - 1) x y 1 hf s2 (by omega) ag (by omega)
  refine sim 0 f (sz f - 1) 1 0 x y Z' (by omega) (by omega) hf s2 (by omega) ag (by omega) ?_ ?_ ?_ (by omega) (fun n => H1 n) (fun o t1 Z1 ht1 ag1 => ?_) 1000001 (by omega)
  · rw [root, eZ]; exact ⟨pk_us, pk_us⟩
  · rw [eZ]; show upd (upd a_arguments _ _) _ _ _ = x; rw [pk_un (by omega)]; exact pk_us
  · rw [eZ]; exact pk_us
  · refine xq_F0 hN hs t1 _ 0 f _ Z1 (by omega) hf s2 n0 (gd.2.1 o) fun Z2 f2 => ?_
    have z2 : Z1 2 0 = nI f := (ag1.2.2.1 0 (by omega)).trans (by rw [eZ]; exact pk_us)
    refine xq_st (by omega) fun fuel hfu => ?_
    have wf : vp_in (nI 0) 16 := vp_in_nI (by decide) (by decide)
    have cf : (nI 0).toNatClampNeg = 0 := nI_clamp (by decide)
    have wg : vp_in (nI f) 8 := vp_in_nI (by omega) (by decide)
    have cg : (nI f).toNatClampNeg = f := nI_clamp (by omega)
    unfold wpX_makeMove
    dsimp only
    refine nm_r (nI_pred 0) ⟨wf, nm_r (e' := nI (S f + sz f)) (by rw [cf]; exact f2.2.2.2.2.1) ⟨wf, nm_r (e' := nI f) (by rw [cf]; exact (f2.2.2.2.1 0).trans z2) ⟨wg, wg, ?_⟩⟩⟩
    rw [cg, e1, e3, nI_add]
    refine br_t rfl ?_
    unfold wpX_leaveCall
    dsimp only
    have vv : Z2 0 (0 * 128 + (S f + (sz f - 1))) = _ := f2.1
    rw [show nI (S f + sz f) - 1 = nI (S f + (sz f - 1)) by rw [show S f + (sz f - 1) = S f + sz f - 1 by omega]; exact pk_sub (b := 1) (by omega), show (128 : Int32) = nI 128 by decide, pk_mul, nI_add, nI_clamp (n := 0 * 128 + (S f + (sz f - 1))) (by omega), vv]
    obtain ⟨fuel, rfl⟩ : ∃ m, fuel = m + 1 := ⟨fuel - 1, by omega⟩
    refine ⟨vp_in_nI (by omega) (by omega), nm_e (br_t nI_0 ?_)⟩
    intro q _
    exact br_c (fun _ => H2 o _ _ _ _ _ _) (fun _ => br_f (by decide) (H2 o _ _ _ _ _ _))
end
end
section
def yq_k (post : Int32 → SY → Prop) (t fuel : Nat) : Int32 → SY → Prop := fun r u => match u with
  | (f_n, f_cap, f_ana, f_res, f_anyT, f_intsT, f_wp, f_vp, f_made, f_active, f_xp, f_curK, f_rBot, f_rR, f_rE0, f_rE1, a_st, a_ar, a_size, a_bk, a_ba, a_bb, a_ds, a_tab, a_nxt, a_wN, a_wS, a_wF, a_vs, a_frS, a_frP0, a_frP1, a_xN, a_xS, a_xE0, a_xE1, a_xA, a_xB, a_xC, a_xD, a_xE, a_xF, a_xG) => ((r < 0 → ∀ x : Int32, x = nI t + 1 → wY_run_126 post fuel x f_n f_cap f_ana f_res f_anyT f_intsT f_wp f_vp f_made f_active f_xp f_curK f_rBot f_rR f_rE0 f_rE1 a_st a_ar a_size a_bk a_ba a_bb a_ds a_tab a_nxt a_wN a_wS a_wF a_vs a_frS a_frP0 a_frP1 a_xN a_xS a_xE0 a_xE1 a_xA a_xB a_xC a_xD a_xE a_xF a_xG) ∧ (¬ r < 0 → post r (f_n, f_cap, f_ana, f_res, f_anyT, f_intsT, f_wp, f_vp, f_made, f_active, f_xp, f_curK, f_rBot, f_rR, f_rE0, f_rE1, a_st, a_ar, a_size, a_bk, a_ba, a_bb, a_ds, a_tab, a_nxt, a_wN, a_wS, a_wF, a_vs, a_frS, a_frP0, a_frP1, a_xN, a_xS, a_xE0, a_xE1, a_xA, a_xB, a_xC, a_xD, a_xE, a_xF, a_xG)))
def yq_R (post : Int32 → SY → Prop) (f_n f_cap f_ana f_res f_anyT f_intsT f_wp f_vp f_made f_active f_xp f_curK f_rBot f_rR f_rE0 f_rE1 : Int32) (a_st a_ar a_size a_bk a_ba a_bb a_ds a_tab a_nxt a_wN a_wS a_wF a_vs a_frS a_frP0 a_frP1 a_xN a_xS a_xE0 a_xE1 a_xA a_xB a_xC a_xD a_xE a_xF a_xG : Nat → Int32) (t wp vp m a : Nat) (Z : Nat → Nat → Int32) : Prop :=
  ∀ fuel, 1000000 < t + fuel → wY_run_126 post fuel (nI t) f_n f_cap f_ana 0 f_anyT f_intsT (nI wp) (nI vp) (nI m) (nI a) f_xp f_curK f_rBot f_rR f_rE0 f_rE1 a_st a_ar a_size a_bk a_ba a_bb a_ds a_tab a_nxt (Z 0) (Z 1) (Z 2) (Z 3) (Z 4) (Z 5) (Z 6) a_xN a_xS a_xE0 a_xE1 a_xA a_xB a_xC a_xD a_xE a_xF a_xG
def yq_E (post : Int32 → SY → Prop) (f_n f_cap f_ana f_res f_anyT f_intsT f_wp f_vp f_made f_active f_xp f_curK f_rBot f_rR f_rE0 f_rE1 : Int32) (a_st a_ar a_size a_bk a_ba a_bb a_ds a_tab a_nxt a_wN a_wS a_wF a_vs a_frS a_frP0 a_frP1 a_xN a_xS a_xE0 a_xE1 a_xA a_xB a_xC a_xD a_xE a_xF a_xG : Nat → Int32) (o : Int32) : Prop :=
  ∀ (x1 x2 x3 x4 : Int32) (Z : Nat → Nat → Int32), post o (f_n, f_cap, f_ana, 0, f_anyT, f_intsT, x1, x2, x3, x4, f_xp, f_curK, f_rBot, f_rR, f_rE0, f_rE1, a_st, a_ar, a_size, a_bk, a_ba, a_bb, a_ds, a_tab, a_nxt, Z 0, Z 1, Z 2, Z 3, Z 4, Z 5, Z 6, a_xN, a_xS, a_xE0, a_xE1, a_xA, a_xB, a_xC, a_xD, a_xE, a_xF, a_xG)
theorem yq_top {p : Nat} (h : p < 511) : (nI (p + 1) - 1) &&& 511 = nI p := by
  rw [nI_pred, pk_andN (by omega) 9 (by decide), Nat.mod_eq_of_lt (by omega)]
theorem yq_511 {p : Nat} (h : p < 512) : nI p &&& 511 = nI p := by
  rw [pk_andN (by omega) 9 (by decide), Nat.mod_eq_of_lt (by omega)]
theorem yq_31 {p : Nat} (h : p < 32) : nI p &&& 31 = nI p := by
  rw [pk_andN (by omega) 5 (by decide), Nat.mod_eq_of_lt (by omega)]
def yq_z (a b c d e f g : Nat → Int32) : Nat → Nat → Int32 := fun q => match q with
  | 0 => a
  | 1 => b
  | 2 => c
  | 3 => d
  | 4 => e
  | 5 => f
  | _ => g
section
variable {f_n f_cap f_ana f_res f_anyT f_intsT f_wp f_vp f_made f_active f_xp f_curK f_rBot f_rR f_rE0 f_rE1 : Int32} {a_st a_ar a_size a_bk a_ba a_bb a_ds a_tab a_nxt a_wN a_wS a_wF a_vs a_frS a_frP0 a_frP1 a_xN a_xS a_xE0 a_xE1 a_xA a_xB a_xC a_xD a_xE a_xF a_xG : Nat → Int32} {post : Int32 → SY → Prop} {N U : Nat} {sz S : Nat → Nat} {szX sX kd fo so ch pa dp : Nat → Int32}
theorem yq_g (hs : rl_slots N U sz S a_st a_ar szX a_size sX a_bk a_ba a_bb kd fo so ch pa dp) {g : Nat} (hg : g < N) (s2 : a_st g = 2) : ∃ k : Nat, k ≤ 2 ∧ a_ar g = nI k ∧ a_size g = nI (sz g) ∧ 0 < sz g ∧ sz g ≤ 128 ∧ ab_bd N k (sz g) (rl_K a_bk g) (rl_K a_ba g) (rl_K a_bb g) (rl_c (rl_K a_bk g) (rl_K a_bb g)) := by
  obtain ⟨_, h1, h2⟩ := hs g hg
  obtain ⟨e1, e2, e3, e4, k, hk, ek, hB⟩ := h1 (by rw [s2]; decide)
  obtain ⟨n0, pc1, pr⟩ := h2 s2
  have := hB.1
  exact ⟨k, hk, ek, e2, n0, by omega, hB.2.1⟩
theorem yq_st {t p q m a : Nat} {Z : Nat → Nat → Int32} (ht : t < 1000000) (hp : p < 500) (h : ∀ fuel, 1000000 < t + 1 + fuel → wpY_evalStep (yq_k post t fuel) (nI N, f_cap, f_ana, 0, f_anyT, f_intsT, nI (p + 1), nI q, nI m, nI a, f_xp, f_curK, f_rBot, f_rR, f_rE0, f_rE1, a_st, a_ar, a_size, a_bk, a_ba, a_bb, a_ds, a_tab, a_nxt, Z 0, Z 1, Z 2, Z 3, Z 4, Z 5, Z 6, a_xN, a_xS, a_xE0, a_xE1, a_xA, a_xB, a_xC, a_xD, a_xE, a_xF, a_xG)) : yq_R post (nI N) f_cap f_ana f_res f_anyT f_intsT f_wp f_vp f_made f_active f_xp f_curK f_rBot f_rR f_rE0 f_rE1 a_st a_ar a_size a_bk a_ba a_bb a_ds a_tab a_nxt a_wN a_wS a_wF a_vs a_frS a_frP0 a_frP1 a_xN a_xS a_xE0 a_xE1 a_xA a_xB a_xC a_xD a_xE a_xF a_xG t (p + 1) q m a Z := by
  intro fuel hf
  obtain ⟨fuel, rfl⟩ : ∃ m, fuel = m + 1 := ⟨fuel - 1, by omega⟩
  exact br_f (nI_ge (b := 1000000) ht (by decide)) (br_f (nI_nle (Nat.succ_pos p) (by omega)) (h fuel (by omega)))
theorem yq_end {o : Int32} {t fuel : Nat} {x1 x2 x3 x4 : Int32} {Z : Nat → Nat → Int32} (ho : ¬ o < 0) (h : yq_E post f_n f_cap f_ana f_res f_anyT f_intsT f_wp f_vp f_made f_active f_xp f_curK f_rBot f_rR f_rE0 f_rE1 a_st a_ar a_size a_bk a_ba a_bb a_ds a_tab a_nxt a_wN a_wS a_wF a_vs a_frS a_frP0 a_frP1 a_xN a_xS a_xE0 a_xE1 a_xA a_xB a_xC a_xD a_xE a_xF a_xG o) : yq_k post t fuel o (f_n, f_cap, f_ana, 0, f_anyT, f_intsT, x1, x2, x3, x4, f_xp, f_curK, f_rBot, f_rR, f_rE0, f_rE1, a_st, a_ar, a_size, a_bk, a_ba, a_bb, a_ds, a_tab, a_nxt, Z 0, Z 1, Z 2, Z 3, Z 4, Z 5, Z 6, a_xN, a_xS, a_xE0, a_xE1, a_xA, a_xB, a_xC, a_xD, a_xE, a_xF, a_xG) := br_f ho (h _ _ _ _ _)
theorem yq_go {t fuel wp vp m a : Nat} {Z : Nat → Nat → Int32} (hf : 1000000 < t + 1 + fuel) (h : yq_R post f_n f_cap f_ana f_res f_anyT f_intsT f_wp f_vp f_made f_active f_xp f_curK f_rBot f_rR f_rE0 f_rE1 a_st a_ar a_size a_bk a_ba a_bb a_ds a_tab a_nxt a_wN a_wS a_wF a_vs a_frS a_frP0 a_frP1 a_xN a_xS a_xE0 a_xE1 a_xA a_xB a_xC a_xD a_xE a_xF a_xG (t + 1) wp vp m a Z) : yq_k post t fuel (-1) (f_n, f_cap, f_ana, 0, f_anyT, f_intsT, nI wp, nI vp, nI m, nI a, f_xp, f_curK, f_rBot, f_rR, f_rE0, f_rE1, a_st, a_ar, a_size, a_bk, a_ba, a_bb, a_ds, a_tab, a_nxt, Z 0, Z 1, Z 2, Z 3, Z 4, Z 5, Z 6, a_xN, a_xS, a_xE0, a_xE1, a_xA, a_xB, a_xC, a_xD, a_xE, a_xF, a_xG) :=
  br_t (by decide) (nm_r (nI_1 t) (h fuel hf))
theorem yq_push {Q : SY → Prop} {p i fr : Nat} {Z : Nat → Nat → Int32} (hp : p < 512) (H : Q (f_n, f_cap, f_ana, f_res, f_anyT, f_intsT, nI (p + 1), f_vp, f_made, f_active, f_xp, f_curK, f_rBot, f_rR, f_rE0, f_rE1, a_st, a_ar, a_size, a_bk, a_ba, a_bb, a_ds, a_tab, a_nxt, yr_push Z p i fr 0, yr_push Z p i fr 1, yr_push Z p i fr 2, a_vs, a_frS, a_frP0, a_frP1, a_xN, a_xS, a_xE0, a_xE1, a_xA, a_xB, a_xC, a_xD, a_xE, a_xF, a_xG)) : wpY_wPush Q (f_n, f_cap, f_ana, f_res, f_anyT, f_intsT, nI p, f_vp, f_made, f_active, f_xp, f_curK, f_rBot, f_rR, f_rE0, f_rE1, a_st, a_ar, a_size, a_bk, a_ba, a_bb, a_ds, a_tab, a_nxt, Z 0, Z 1, Z 2, a_vs, a_frS, a_frP0, a_frP1, a_xN, a_xS, a_xE0, a_xE1, a_xA, a_xB, a_xC, a_xD, a_xE, a_xF, a_xG) (nI i) (nI fr) := by
  unfold wpY_wPush
  dsimp only
  refine nm_r (yq_511 hp) ?_
  rw [nI_clamp (by omega)]
  have w : vp_in (nI p) 512 := vp_in_nI hp (by decide)
  exact ⟨w, nm_e ⟨w, nm_e ⟨w, nm_e (nm_r (nI_1 p) H)⟩⟩⟩
theorem yq_vpush {Q : SY → Prop} {q : Nat} {v : Int32} (hq : q < 512) (H : Q (f_n, f_cap, f_ana, f_res, f_anyT, f_intsT, f_wp, nI (q + 1), f_made, f_active, f_xp, f_curK, f_rBot, f_rR, f_rE0, f_rE1, a_st, a_ar, a_size, a_bk, a_ba, a_bb, a_ds, a_tab, a_nxt, a_wN, a_wS, a_wF, upd a_vs q v, a_frS, a_frP0, a_frP1, a_xN, a_xS, a_xE0, a_xE1, a_xA, a_xB, a_xC, a_xD, a_xE, a_xF, a_xG)) : wpY_vPush Q (f_n, f_cap, f_ana, f_res, f_anyT, f_intsT, f_wp, nI q, f_made, f_active, f_xp, f_curK, f_rBot, f_rR, f_rE0, f_rE1, a_st, a_ar, a_size, a_bk, a_ba, a_bb, a_ds, a_tab, a_nxt, a_wN, a_wS, a_wF, a_vs, a_frS, a_frP0, a_frP1, a_xN, a_xS, a_xE0, a_xE1, a_xA, a_xB, a_xC, a_xD, a_xE, a_xF, a_xG) v := by
  unfold wpY_vPush
  dsimp only
  rw [yq_511 hq, nI_clamp (by omega)]
  exact ⟨vp_in_nI hq (by decide), nm_e (nm_r (nI_1 q) H)⟩
theorem yq_vpop {Q : Int32 → SY → Prop} {q : Nat} (hq : q < 512) (H : Q (a_vs q) (f_n, f_cap, f_ana, f_res, f_anyT, f_intsT, f_wp, nI q, f_made, f_active, f_xp, f_curK, f_rBot, f_rR, f_rE0, f_rE1, a_st, a_ar, a_size, a_bk, a_ba, a_bb, a_ds, a_tab, a_nxt, a_wN, a_wS, a_wF, a_vs, a_frS, a_frP0, a_frP1, a_xN, a_xS, a_xE0, a_xE1, a_xA, a_xB, a_xC, a_xD, a_xE, a_xF, a_xG)) : wpY_vPop Q (f_n, f_cap, f_ana, f_res, f_anyT, f_intsT, f_wp, nI (q + 1), f_made, f_active, f_xp, f_curK, f_rBot, f_rR, f_rE0, f_rE1, a_st, a_ar, a_size, a_bk, a_ba, a_bb, a_ds, a_tab, a_nxt, a_wN, a_wS, a_wF, a_vs, a_frS, a_frP0, a_frP1, a_xN, a_xS, a_xE0, a_xE1, a_xA, a_xB, a_xC, a_xD, a_xE, a_xF, a_xG) := by
  unfold wpY_vPop
  dsimp only
  refine nm_r (nI_pred q) ?_
  rw [yq_511 hq, nI_clamp (by omega)]
  exact ⟨vp_in_nI hq (by decide), H⟩
theorem yq_V1 (hN : N ≤ 8) (hs : rl_slots N U sz S a_st a_ar szX a_size sX a_bk a_ba a_bb kd fo so ch pa dp) : yr_V1 N (rl_K a_bk) (rl_K a_ba) a_st sz (yq_R post (nI N) f_cap f_ana f_res f_anyT f_intsT f_wp f_vp f_made f_active f_xp f_curK f_rBot f_rR f_rE0 f_rE1 a_st a_ar a_size a_bk a_ba a_bb a_ds a_tab a_nxt a_wN a_wS a_wF a_vs a_frS a_frP0 a_frP1 a_xN a_xS a_xE0 a_xE1 a_xA a_xB a_xC a_xD a_xE a_xF a_xG) := by
  intro t p q m a fr g i s Z hin top hK hR
  obtain ⟨ht, hp, hq, hf, hg, s2, hi⟩ := hin
  obtain ⟨h0, h1, h2, h4⟩ := top
  obtain ⟨k, hk, ek, e2, n0, n1, hb⟩ := yq_g hs hg s2
  have w : vp_in (nI p) 512 := vp_in_nI (by omega) (by decide)
  have cp : (nI p).toNatClampNeg = p := nI_clamp (by omega)
  have wf : vp_in (nI fr) 32 := vp_in_nI (by omega) (by decide)
  have cf : (nI fr).toNatClampNeg = fr := nI_clamp (by omega)
  have wi : vp_in (nI (g * 128 + i)) 1024 := vp_in_nI (by omega) (by decide)
  have ci : (nI (g * 128 + i)).toNatClampNeg = g * 128 + i := nI_clamp (by omega)
  refine yq_st ht hp fun fuel hfu => ?_
  have fin : ∀ v : Int32, v = (if rl_K a_bk g i = 0 then rl_K a_ba g i else if rl_K a_bk g i = 1 then 1000 + rl_K a_ba g i else if rl_K a_ba g i = 0 then Z 5 fr else Z 6 fr) → wY_evalStep_137 (yq_k post t fuel) v (nI N) f_cap f_ana 0 f_anyT f_intsT (nI (p + 1)) (nI q) (nI m) (nI a) f_xp f_curK f_rBot f_rR f_rE0 f_rE1 a_st a_ar a_size a_bk a_ba a_bb a_ds a_tab a_nxt (Z 0) (Z 1) (Z 2) (Z 3) (Z 4) (Z 5) (Z 6) a_xN a_xS a_xE0 a_xE1 a_xA a_xB a_xC a_xD a_xE a_xF a_xG := by
    intro v ev
    rw [← ev] at hR
    unfold wY_evalStep_137
    exact nm_r (nI_pred p) (yq_vpush (by omega) (yq_go (Z := ya_z Z 3 q v) hfu hR))
  unfold wpY_evalStep
  dsimp only
  rcases hK with hK | hK | hK
  · refine nm_r (e' := nI p) (yq_top (by omega)) ⟨w, nm_r (e' := nI fr) (by rw [cp, h2]; exact yq_31 (by omega)) ⟨wf, nm_r (e' := nI g) (by rw [cf]; exact h4) ⟨w, nm_r (e' := nI i) (by rw [cp]; exact h0) ⟨w, nm_r (e' := nI s) (by rw [cp]; exact h1) (nm_r (yk_ix (by omega) (by omega)) ⟨wi, nm_r (e' := 0) (by rw [ci]; exact hK) ⟨wi, nm_r (e' := rl_K a_ba g i) (by rw [ci]; rfl) ⟨wi, nm_r (e' := rl_K a_bb g i) (by rw [ci]; rfl) (br_f (by decide) (br_f (by decide) ?_)) ⟩⟩⟩)⟩⟩⟩⟩
    exact br_f (by decide) (fin _ (by rw [if_pos hK]))
  · refine nm_r (e' := nI p) (yq_top (by omega)) ⟨w, nm_r (e' := nI fr) (by rw [cp, h2]; exact yq_31 (by omega)) ⟨wf, nm_r (e' := nI g) (by rw [cf]; exact h4) ⟨w, nm_r (e' := nI i) (by rw [cp]; exact h0) ⟨w, nm_r (e' := nI s) (by rw [cp]; exact h1) (nm_r (yk_ix (by omega) (by omega)) ⟨wi, nm_r (e' := 1) (by rw [ci]; exact hK) ⟨wi, nm_r (e' := rl_K a_ba g i) (by rw [ci]; rfl) ⟨wi, nm_r (e' := rl_K a_bb g i) (by rw [ci]; rfl) (br_f (by decide) (br_t rfl (nm_e ?_))) ⟩⟩⟩)⟩⟩⟩⟩
    exact br_f (by decide) (fin _ (by rw [if_neg (by rw [hK]; decide), if_pos hK]))
  · refine nm_r (e' := nI p) (yq_top (by omega)) ⟨w, nm_r (e' := nI fr) (by rw [cp, h2]; exact yq_31 (by omega)) ⟨wf, nm_r (e' := nI g) (by rw [cf]; exact h4) ⟨w, nm_r (e' := nI i) (by rw [cp]; exact h0) ⟨w, nm_r (e' := nI s) (by rw [cp]; exact h1) (nm_r (yk_ix (by omega) (by omega)) ⟨wi, nm_r (e' := 2) (by rw [ci]; exact hK) ⟨wi, nm_r (e' := rl_K a_ba g i) (by rw [ci]; rfl) ⟨wi, nm_r (e' := rl_K a_bb g i) (by rw [ci]; rfl) (br_f (by decide) (br_f (by decide) ?_)) ⟩⟩⟩)⟩⟩⟩⟩
    refine br_t rfl ?_
    rw [cf]
    by_cases z : rl_K a_ba g i = 0
    · exact br_t z ⟨wf, fin _ (by rw [if_neg (by rw [hK]; decide), if_neg (by rw [hK]; decide), if_pos z])⟩
    · exact br_f z ⟨wf, fin _ (by rw [if_neg (by rw [hK]; decide), if_neg (by rw [hK]; decide), if_neg z])⟩
theorem yq_V2 (hN : N ≤ 8) (hs : rl_slots N U sz S a_st a_ar szX a_size sX a_bk a_ba a_bb kd fo so ch pa dp) : yr_V2 N (rl_K a_bk) (rl_K a_bb) a_st sz (yq_R post (nI N) f_cap f_ana f_res f_anyT f_intsT f_wp f_vp f_made f_active f_xp f_curK f_rBot f_rR f_rE0 f_rE1 a_st a_ar a_size a_bk a_ba a_bb a_ds a_tab a_nxt a_wN a_wS a_wF a_vs a_frS a_frP0 a_frP1 a_xN a_xS a_xE0 a_xE1 a_xA a_xB a_xC a_xD a_xE a_xF a_xG) := by
  intro t p q m a fr g i s Z hin top hsc h8 hR
  obtain ⟨ht, hp, hq, hf, hg, s2, hi⟩ := hin
  obtain ⟨h0, h1, h2, h4⟩ := top
  obtain ⟨k, hk, ek, e2, n0, n1, hb⟩ := yq_g hs hg s2
  have w : vp_in (nI p) 512 := vp_in_nI (by omega) (by decide)
  have cp : (nI p).toNatClampNeg = p := nI_clamp (by omega)
  have wf : vp_in (nI fr) 32 := vp_in_nI (by omega) (by decide)
  have cf : (nI fr).toNatClampNeg = fr := nI_clamp (by omega)
  have wi : vp_in (nI (g * 128 + i)) 1024 := vp_in_nI (by omega) (by decide)
  have ci : (nI (g * 128 + i)).toNatClampNeg = g * 128 + i := nI_clamp (by omega)
  have c3 := ab_c3 hb hi
  have hsc' : s < bs_cc (rl_K a_bk g i) (rl_K a_bb g i) := hsc
  have hscc : s < rl_c (rl_K a_bk g) (rl_K a_bb g) i := hsc
  refine yq_st ht hp fun fuel hfu => ?_
  have push : wpY_childPos (fun r => wpY_wPush (fun u => match u with | (f_n, f_cap, f_ana, f_res, f_anyT, f_intsT, f_wp, f_vp, f_made, f_active, f_xp, f_curK, f_rBot, f_rR, f_rE0, f_rE1, a_st, a_ar, a_size, a_bk, a_ba, a_bb, a_ds, a_tab, a_nxt, a_wN, a_wS, a_wF, a_vs, a_frS, a_frP0, a_frP1, a_xN, a_xS, a_xE0, a_xE1, a_xA, a_xB, a_xC, a_xD, a_xE, a_xF, a_xG) => yq_k post t fuel (-1) (f_n, f_cap, f_ana, f_res, f_anyT, f_intsT, f_wp, f_vp, f_made, f_active, f_xp, f_curK, f_rBot, f_rR, f_rE0, f_rE1, a_st, a_ar, a_size, a_bk, a_ba, a_bb, a_ds, a_tab, a_nxt, a_wN, a_wS, a_wF, a_vs, a_frS, a_frP0, a_frP1, a_xN, a_xS, a_xE0, a_xE1, a_xA, a_xB, a_xC, a_xD, a_xE, a_xF, a_xG)) (nI N, f_cap, f_ana, 0, f_anyT, f_intsT, nI (p + 1), nI q, nI m, nI a, f_xp, f_curK, f_rBot, f_rR, f_rE0, f_rE1, a_st, a_ar, a_size, a_bk, a_ba, a_bb, a_ds, a_tab, a_nxt, Z 0, upd (Z 1) p (nI (s + 1)), Z 2, Z 3, Z 4, Z 5, Z 6, a_xN, a_xS, a_xE0, a_xE1, a_xA, a_xB, a_xC, a_xD, a_xE, a_xF, a_xG) r (nI fr)) (nI N, f_cap, f_ana, 0, f_anyT, f_intsT, nI (p + 1), nI q, nI m, nI a, f_xp, f_curK, f_rBot, f_rR, f_rE0, f_rE1, a_st, a_ar, a_size, a_bk, a_ba, a_bb, a_ds, a_tab, a_nxt, Z 0, upd (Z 1) p (nI (s + 1)), Z 2, Z 3, Z 4, Z 5, Z 6, a_xN, a_xS, a_xE0, a_xE1, a_xA, a_xB, a_xC, a_xD, a_xE, a_xF, a_xG) (nI g) (nI i) (nI s) := by
    refine yk_cp (by omega) n1 hb hi hscc ?_
    exact yq_push (Z := ya_z Z 1 p (nI (s + 1))) (p := p + 1) (by omega) (yq_go (Z := yr_push (ya_z Z 1 p (nI (s + 1))) (p + 1) (bs_ch (rl_c (rl_K a_bk g) (rl_K a_bb g)) i s) fr) hfu hR)
  have op : ∀ (κ : Int32) (c : Nat), s < c → c ≤ 3 → wY_evalStep_530 (yq_k post t fuel) (nI p) (nI fr) (nI g) (nI i) (nI s) κ (nI c) (nI N) f_cap f_ana 0 f_anyT f_intsT (nI (p + 1)) (nI q) (nI m) (nI a) f_xp f_curK f_rBot f_rR f_rE0 f_rE1 a_st a_ar a_size a_bk a_ba a_bb a_ds a_tab a_nxt (Z 0) (Z 1) (Z 2) (Z 3) (Z 4) (Z 5) (Z 6) a_xN a_xS a_xE0 a_xE1 a_xA a_xB a_xC a_xD a_xE a_xF a_xG := by
    intro κ c hc hc3
    refine br_f (nI_ge hc (by omega)) ⟨w, nm_r (e' := upd (Z 1) p (nI (s + 1))) (by rw [cp, nI_1]) push⟩
  unfold wpY_evalStep
  dsimp only
  rcases bd_10 (hb.1 i hi) with hK | hK | hK | hK | hK | hK | hK | hK | hK | hK
  · rw [hK, bs_cc0] at hsc'; omega
  · rw [hK, bs_cc1] at hsc'; omega
  · rw [hK, bs_cc2] at hsc'; omega
  · rw [hK, bs_cc3] at hsc'
    exact nm_r (e' := nI p) (yq_top (by omega)) ⟨w, nm_r (e' := nI fr) (by rw [cp, h2]; exact yq_31 (by omega)) ⟨wf, nm_r (e' := nI g) (by rw [cf]; exact h4) ⟨w, nm_r (e' := nI i) (by rw [cp]; exact h0) ⟨w, nm_r (e' := nI s) (by rw [cp]; exact h1) (nm_r (yk_ix (by omega) (by omega)) ⟨wi, nm_r (e' := 3) (by rw [ci]; exact hK) ⟨wi, nm_r (e' := rl_K a_ba g i) (by rw [ci]; rfl) ⟨wi, nm_r (e' := rl_K a_bb g i) (by rw [ci]; rfl) (br_t (by decide) (br_f (by decide) (br_f (by decide) (br_f (by decide) (op 3 2 hsc' (by omega)))))) ⟩⟩⟩)⟩⟩⟩⟩
  · rw [hK, bs_cc4] at hsc'
    exact nm_r (e' := nI p) (yq_top (by omega)) ⟨w, nm_r (e' := nI fr) (by rw [cp, h2]; exact yq_31 (by omega)) ⟨wf, nm_r (e' := nI g) (by rw [cf]; exact h4) ⟨w, nm_r (e' := nI i) (by rw [cp]; exact h0) ⟨w, nm_r (e' := nI s) (by rw [cp]; exact h1) (nm_r (yk_ix (by omega) (by omega)) ⟨wi, nm_r (e' := 4) (by rw [ci]; exact hK) ⟨wi, nm_r (e' := rl_K a_ba g i) (by rw [ci]; rfl) ⟨wi, nm_r (e' := rl_K a_bb g i) (by rw [ci]; rfl) (br_t (by decide) (br_f (by decide) (br_f (by decide) (br_f (by decide) (op 4 2 hsc' (by omega)))))) ⟩⟩⟩)⟩⟩⟩⟩
  · rw [hK, bs_cc5] at hsc'
    exact nm_r (e' := nI p) (yq_top (by omega)) ⟨w, nm_r (e' := nI fr) (by rw [cp, h2]; exact yq_31 (by omega)) ⟨wf, nm_r (e' := nI g) (by rw [cf]; exact h4) ⟨w, nm_r (e' := nI i) (by rw [cp]; exact h0) ⟨w, nm_r (e' := nI s) (by rw [cp]; exact h1) (nm_r (yk_ix (by omega) (by omega)) ⟨wi, nm_r (e' := 5) (by rw [ci]; exact hK) ⟨wi, nm_r (e' := rl_K a_ba g i) (by rw [ci]; rfl) ⟨wi, nm_r (e' := rl_K a_bb g i) (by rw [ci]; rfl) (br_t (by decide) (br_f (by decide) (br_f (by decide) (br_f (by decide) (op 5 2 hsc' (by omega)))))) ⟩⟩⟩)⟩⟩⟩⟩
  · rw [hK, bs_cc6] at hsc'
    exact nm_r (e' := nI p) (yq_top (by omega)) ⟨w, nm_r (e' := nI fr) (by rw [cp, h2]; exact yq_31 (by omega)) ⟨wf, nm_r (e' := nI g) (by rw [cf]; exact h4) ⟨w, nm_r (e' := nI i) (by rw [cp]; exact h0) ⟨w, nm_r (e' := nI s) (by rw [cp]; exact h1) (nm_r (yk_ix (by omega) (by omega)) ⟨wi, nm_r (e' := 6) (by rw [ci]; exact hK) ⟨wi, nm_r (e' := rl_K a_ba g i) (by rw [ci]; rfl) ⟨wi, nm_r (e' := rl_K a_bb g i) (by rw [ci]; rfl) (br_t (by decide) (br_f (by decide) (br_f (by decide) (br_f (by decide) (op 6 2 hsc' (by omega)))))) ⟩⟩⟩)⟩⟩⟩⟩
  · rw [hK, bs_cc7] at hsc'
    exact nm_r (e' := nI p) (yq_top (by omega)) ⟨w, nm_r (e' := nI fr) (by rw [cp, h2]; exact yq_31 (by omega)) ⟨wf, nm_r (e' := nI g) (by rw [cf]; exact h4) ⟨w, nm_r (e' := nI i) (by rw [cp]; exact h0) ⟨w, nm_r (e' := nI s) (by rw [cp]; exact h1) (nm_r (yk_ix (by omega) (by omega)) ⟨wi, nm_r (e' := 7) (by rw [ci]; exact hK) ⟨wi, nm_r (e' := rl_K a_ba g i) (by rw [ci]; rfl) ⟨wi, nm_r (e' := rl_K a_bb g i) (by rw [ci]; rfl) (br_t (by decide) (br_f (by decide) (br_f (by decide) (br_t rfl (op 7 1 hsc' (by omega)))))) ⟩⟩⟩)⟩⟩⟩⟩
  · obtain rfl := h8 hK
    exact nm_r (e' := nI p) (yq_top (by omega)) ⟨w, nm_r (e' := nI fr) (by rw [cp, h2]; exact yq_31 (by omega)) ⟨wf, nm_r (e' := nI g) (by rw [cf]; exact h4) ⟨w, nm_r (e' := nI i) (by rw [cp]; exact h0) ⟨w, nm_r (e' := 0) (by rw [cp]; exact h1) (nm_r (yk_ix (by omega) (by omega)) ⟨wi, nm_r (e' := 8) (by rw [ci]; exact hK) ⟨wi, nm_r (e' := rl_K a_ba g i) (by rw [ci]; rfl) ⟨wi, nm_r (e' := rl_K a_bb g i) (by rw [ci]; rfl) (br_t (by decide) (br_t rfl (br_t rfl ⟨w, nm_r (e' := upd (Z 1) p 1) (by rw [cp]) push⟩))) ⟩⟩⟩)⟩⟩⟩⟩
  · obtain ⟨b, hb2, eb⟩ := (hb.1 i hi).2.2.2.2.2.1
    rw [hK, bs_cc9, eb, nI_clamp (by omega)] at hsc'
    exact nm_r (e' := nI p) (yq_top (by omega)) ⟨w, nm_r (e' := nI fr) (by rw [cp, h2]; exact yq_31 (by omega)) ⟨wf, nm_r (e' := nI g) (by rw [cf]; exact h4) ⟨w, nm_r (e' := nI i) (by rw [cp]; exact h0) ⟨w, nm_r (e' := nI s) (by rw [cp]; exact h1) (nm_r (yk_ix (by omega) (by omega)) ⟨wi, nm_r (e' := 9) (by rw [ci]; exact hK) ⟨wi, nm_r (e' := rl_K a_ba g i) (by rw [ci]; rfl) ⟨wi, nm_r (e' := nI b) (by rw [ci]; exact eb) (br_t (by decide) (br_f (by decide) (br_t rfl (br_f (nI_ge hsc' (by omega)) ⟨w, nm_r (e' := upd (Z 1) p (nI (s + 1))) (by rw [cp, nI_1]) push⟩)))) ⟩⟩⟩)⟩⟩⟩⟩
end
end
section
section
variable {f_n f_cap f_ana f_res f_anyT f_intsT f_wp f_vp f_made f_active f_xp f_curK f_rBot f_rR f_rE0 f_rE1 : Int32} {a_st a_ar a_size a_bk a_ba a_bb a_ds a_tab a_nxt a_wN a_wS a_wF a_vs a_frS a_frP0 a_frP1 a_xN a_xS a_xE0 a_xE1 a_xA a_xB a_xC a_xD a_xE a_xF a_xG : Nat → Int32} {post : Int32 → SY → Prop} {N U : Nat} {sz S : Nat → Nat} {szX sX kd fo so ch pa dp : Nat → Int32}
theorem yq_V3 (hN : N ≤ 8) (hs : rl_slots N U sz S a_st a_ar szX a_size sX a_bk a_ba a_bb kd fo so ch pa dp) : yr_V3 N (rl_K a_bk) (rl_K a_bb) a_st sz (yq_R post (nI N) f_cap f_ana f_res f_anyT f_intsT f_wp f_vp f_made f_active f_xp f_curK f_rBot f_rR f_rE0 f_rE1 a_st a_ar a_size a_bk a_ba a_bb a_ds a_tab a_nxt a_wN a_wS a_wF a_vs a_frS a_frP0 a_frP1 a_xN a_xS a_xE0 a_xE1 a_xA a_xB a_xC a_xD a_xE a_xF a_xG) (yq_E post (nI N) f_cap f_ana f_res f_anyT f_intsT f_wp f_vp f_made f_active f_xp f_curK f_rBot f_rR f_rE0 f_rE1 a_st a_ar a_size a_bk a_ba a_bb a_ds a_tab a_nxt a_wN a_wS a_wF a_vs a_frS a_frP0 a_frP1 a_xN a_xS a_xE0 a_xE1 a_xA a_xB a_xC a_xD a_xE a_xF a_xG) := by
  intro t p q m a fr g i Z hin top hK k1 k2 k3
  obtain ⟨ht, hp, hq, hf, hg, s2, hi⟩ := hin
  obtain ⟨h0, h1, h2, h4⟩ := top
  obtain ⟨k, hk, ek, e2, n0, n1, hb⟩ := yq_g hs hg s2
  have w : vp_in (nI p) 512 := vp_in_nI (by omega) (by decide)
  have cp : (nI p).toNatClampNeg = p := nI_clamp (by omega)
  have wf : vp_in (nI fr) 32 := vp_in_nI (by omega) (by decide)
  have cf : (nI fr).toNatClampNeg = fr := nI_clamp (by omega)
  have wi : vp_in (nI (g * 128 + i)) 1024 := vp_in_nI (by omega) (by decide)
  have ci : (nI (g * 128 + i)).toNatClampNeg = g * 128 + i := nI_clamp (by omega)
  have c8 := ab_c8 hb hK
  refine yq_st ht hp fun fuel hfu => ?_
  have push : ∀ j, j < 3 → yq_R post (nI N) f_cap f_ana f_res f_anyT f_intsT f_wp f_vp f_made f_active f_xp f_curK f_rBot f_rR f_rE0 f_rE1 a_st a_ar a_size a_bk a_ba a_bb a_ds a_tab a_nxt a_wN a_wS a_wF a_vs a_frS a_frP0 a_frP1 a_xN a_xS a_xE0 a_xE1 a_xA a_xB a_xC a_xD a_xE a_xF a_xG (t + 1) (p + 2) q m a (yr_push (ya_z Z 1 p (nI 2)) (p + 1) (bs_ch (sp_c (rl_K a_bk) (rl_K a_bb) g) i j) fr) → wY_evalStep_232 (yq_k post t fuel) (nI p) (nI fr) (nI g) (nI i) (nI j) (nI N) f_cap f_ana 0 f_anyT f_intsT (nI (p + 1)) (nI q) (nI m) (nI a) f_xp f_curK f_rBot f_rR f_rE0 f_rE1 a_st a_ar a_size a_bk a_ba a_bb a_ds a_tab a_nxt (Z 0) (Z 1) (Z 2) (Z 3) (Z 4) (Z 5) (Z 6) a_xN a_xS a_xE0 a_xE1 a_xA a_xB a_xC a_xD a_xE a_xF a_xG := by
    intro j hj hR
    unfold wY_evalStep_232
    refine ⟨w, nm_r (e' := upd (Z 1) p 2) (by rw [cp]) ?_⟩
    refine yk_cp (by omega) n1 hb hi (by omega) ?_
    exact yq_push (Z := ya_z Z 1 p (nI 2)) (p := p + 1) (by omega) (yq_go (Z := yr_push (ya_z Z 1 p (nI 2)) (p + 1) (bs_ch (rl_c (rl_K a_bk g) (rl_K a_bb g)) i j) fr) hfu hR)
  unfold wpY_evalStep
  dsimp only
  refine nm_r (e' := nI p) (yq_top (by omega)) ⟨w, nm_r (e' := nI fr) (by rw [cp, h2]; exact yq_31 (by omega)) ⟨wf, nm_r (e' := nI g) (by rw [cf]; exact h4) ⟨w, nm_r (e' := nI i) (by rw [cp]; exact h0) ⟨w, nm_r (e' := 1) (by rw [cp]; exact h1) (nm_r (yk_ix (by omega) (by omega)) ⟨wi, nm_r (e' := 8) (by rw [ci]; exact hK) ⟨wi, nm_r (e' := rl_K a_ba g i) (by rw [ci]; rfl) ⟨wi, nm_r (e' := rl_K a_bb g i) (by rw [ci]; rfl) (br_t (by decide) (br_t rfl (br_f (by decide) (br_t rfl ?_)))) ⟩⟩⟩)⟩⟩⟩⟩
  refine yq_vpop (by omega) ?_
  by_cases vt : Z 3 q = 1001
  · exact br_t vt (push 1 (by omega) (k1 vt))
  · refine br_f vt ?_
    by_cases vf : Z 3 q = 1000
    · exact br_t vf (push 2 (by omega) (k2 vf))
    · exact br_f vf (yq_end (Z := Z) (by decide) (k3 vt vf))
theorem yq_V4 (hN : N ≤ 8) (hs : rl_slots N U sz S a_st a_ar szX a_size sX a_bk a_ba a_bb kd fo so ch pa dp) : yr_V4 N (rl_K a_bk) a_st sz (yq_R post (nI N) f_cap f_ana f_res f_anyT f_intsT f_wp f_vp f_made f_active f_xp f_curK f_rBot f_rR f_rE0 f_rE1 a_st a_ar a_size a_bk a_ba a_bb a_ds a_tab a_nxt a_wN a_wS a_wF a_vs a_frS a_frP0 a_frP1 a_xN a_xS a_xE0 a_xE1 a_xA a_xB a_xC a_xD a_xE a_xF a_xG) := by
  intro t p q m a fr g i Z hin top hK hR
  obtain ⟨ht, hp, hq, hf, hg, s2, hi⟩ := hin
  obtain ⟨h0, h1, h2, h4⟩ := top
  obtain ⟨k, hk, ek, e2, n0, n1, hb⟩ := yq_g hs hg s2
  have w : vp_in (nI p) 512 := vp_in_nI (by omega) (by decide)
  have cp : (nI p).toNatClampNeg = p := nI_clamp (by omega)
  have wf : vp_in (nI fr) 32 := vp_in_nI (by omega) (by decide)
  have cf : (nI fr).toNatClampNeg = fr := nI_clamp (by omega)
  have wi : vp_in (nI (g * 128 + i)) 1024 := vp_in_nI (by omega) (by decide)
  have ci : (nI (g * 128 + i)).toNatClampNeg = g * 128 + i := nI_clamp (by omega)
  refine yq_st ht hp fun fuel hfu => ?_
  unfold wpY_evalStep
  dsimp only
  exact nm_r (e' := nI p) (yq_top (by omega)) ⟨w, nm_r (e' := nI fr) (by rw [cp, h2]; exact yq_31 (by omega)) ⟨wf, nm_r (e' := nI g) (by rw [cf]; exact h4) ⟨w, nm_r (e' := nI i) (by rw [cp]; exact h0) ⟨w, nm_r (e' := 2) (by rw [cp]; exact h1) (nm_r (yk_ix (by omega) (by omega)) ⟨wi, nm_r (e' := 8) (by rw [ci]; exact hK) ⟨wi, nm_r (e' := rl_K a_ba g i) (by rw [ci]; rfl) ⟨wi, nm_r (e' := rl_K a_bb g i) (by rw [ci]; rfl) (br_t (by decide) (br_t rfl (br_f (by decide) (br_f (by decide) (nm_r (nI_pred p) (yq_go hfu hR)))))) ⟩⟩⟩)⟩⟩⟩⟩
theorem yq_V5 (hN : N ≤ 8) (hs : rl_slots N U sz S a_st a_ar szX a_size sX a_bk a_ba a_bb kd fo so ch pa dp) : yr_V5 N (rl_K a_bk) a_st sz (yq_R post (nI N) f_cap f_ana f_res f_anyT f_intsT f_wp f_vp f_made f_active f_xp f_curK f_rBot f_rR f_rE0 f_rE1 a_st a_ar a_size a_bk a_ba a_bb a_ds a_tab a_nxt a_wN a_wS a_wF a_vs a_frS a_frP0 a_frP1 a_xN a_xS a_xE0 a_xE1 a_xA a_xB a_xC a_xD a_xE a_xF a_xG) := by
  intro t p q m a fr g i Z hin top hK hR
  obtain ⟨ht, hp, hq, hf, hg, s2, hi⟩ := hin
  obtain ⟨h0, h1, h2, h4⟩ := top
  obtain ⟨k, hk, ek, e2, n0, n1, hb⟩ := yq_g hs hg s2
  have w : vp_in (nI p) 512 := vp_in_nI (by omega) (by decide)
  have cp : (nI p).toNatClampNeg = p := nI_clamp (by omega)
  have wf : vp_in (nI fr) 32 := vp_in_nI (by omega) (by decide)
  have cf : (nI fr).toNatClampNeg = fr := nI_clamp (by omega)
  have wi : vp_in (nI (g * 128 + i)) 1024 := vp_in_nI (by omega) (by decide)
  have ci : (nI (g * 128 + i)).toNatClampNeg = g * 128 + i := nI_clamp (by omega)
  refine yq_st ht hp fun fuel hfu => ?_
  unfold wpY_evalStep
  dsimp only
  refine nm_r (e' := nI p) (yq_top (by omega)) ⟨w, nm_r (e' := nI fr) (by rw [cp, h2]; exact yq_31 (by omega)) ⟨wf, nm_r (e' := nI g) (by rw [cf]; exact h4) ⟨w, nm_r (e' := nI i) (by rw [cp]; exact h0) ⟨w, nm_r (e' := 1) (by rw [cp]; exact h1) (nm_r (yk_ix (by omega) (by omega)) ⟨wi, nm_r (e' := 7) (by rw [ci]; exact hK) ⟨wi, nm_r (e' := rl_K a_ba g i) (by rw [ci]; rfl) ⟨wi, nm_r (e' := rl_K a_bb g i) (by rw [ci]; rfl) (br_t (by decide) (br_f (by decide) (br_f (by decide) (br_t rfl ?_)))) ⟩⟩⟩)⟩⟩⟩⟩
  refine br_t (by decide) (nm_r (nI_pred p) (br_t rfl (yq_vpop (by omega) ?_)))
  by_cases c : 1000 ≤ Z 3 q
  · rw [if_neg (Int32.not_lt.mpr c)] at hR
    exact br_t c (yq_vpush (by omega) (yq_go (Z := ya_z Z 3 q 1000) hfu hR))
  · rw [if_pos (Int32.not_le.mp c)] at hR
    exact br_f c (yq_vpush (by omega) (yq_go (Z := ya_z Z 3 q 1001) hfu hR))
theorem yq_op {Q : Int32 → SY → Prop} {p q m a fr g i : Nat} {κ : Int32} {Z : Nat → Nat → Int32} (hq : q < 500) (hK : κ = 3 ∨ κ = 4 ∨ κ = 5 ∨ κ = 6)
    (H1 : (rn_op κ (Z 3 q) (Z 3 (q + 1)) m).1 = -1 → Q (-1) (nI N, f_cap, f_ana, 0, f_anyT, f_intsT, nI p, nI (q + 1), nI m, nI a, f_xp, f_curK, f_rBot, f_rR, f_rE0, f_rE1, a_st, a_ar, a_size, a_bk, a_ba, a_bb, a_ds, a_tab, a_nxt, Z 0, Z 1, Z 2, upd (Z 3) q (rn_op κ (Z 3 q) (Z 3 (q + 1)) m).2.1, Z 4, Z 5, Z 6, a_xN, a_xS, a_xE0, a_xE1, a_xA, a_xB, a_xC, a_xD, a_xE, a_xF, a_xG))
    (H0 : (rn_op κ (Z 3 q) (Z 3 (q + 1)) m).1 ≠ -1 → ∀ x2 : Int32, Q 1 (nI N, f_cap, f_ana, 0, f_anyT, f_intsT, nI p, x2, nI m, nI a, f_xp, f_curK, f_rBot, f_rR, f_rE0, f_rE1, a_st, a_ar, a_size, a_bk, a_ba, a_bb, a_ds, a_tab, a_nxt, Z 0, Z 1, Z 2, Z 3, Z 4, Z 5, Z 6, a_xN, a_xS, a_xE0, a_xE1, a_xA, a_xB, a_xC, a_xD, a_xE, a_xF, a_xG)) :
    wY_evalStep_530 Q (nI p) (nI fr) (nI g) (nI i) 2 κ 2 (nI N) f_cap f_ana 0 f_anyT f_intsT (nI (p + 1)) (nI (q + 2)) (nI m) (nI a) f_xp f_curK f_rBot f_rR f_rE0 f_rE1 a_st a_ar a_size a_bk a_ba a_bb a_ds a_tab a_nxt (Z 0) (Z 1) (Z 2) (Z 3) (Z 4) (Z 5) (Z 6) a_xN a_xS a_xE0 a_xE1 a_xA a_xB a_xC a_xD a_xE a_xF a_xG := by
  have n7 : ¬ κ = 7 := by rcases hK with h | h | h | h <;> rw [h] <;> decide
  refine br_t (by decide) (nm_r (nI_pred p) (br_f n7 (yq_vpop (q := q + 1) (by omega) (yq_vpop (q := q) (by omega) ?_))))
  unfold rn_op at H1 H0
  by_cases k6 : κ = 6
  · rw [if_pos k6] at H1
    refine br_t k6 ?_
    by_cases e : Z 3 q = Z 3 (q + 1)
    · rw [if_pos e] at H1; exact br_t e (yq_vpush (by omega) (H1 rfl))
    · rw [if_neg e] at H1; exact br_f e (yq_vpush (by omega) (H1 rfl))
  · rw [if_neg k6] at H1 H0
    refine br_f k6 ?_
    by_cases c : 1000 ≤ Z 3 q
    · rw [if_pos c] at H0
      exact br_t c (H0 (rn_n1 _ _) _)
    · rw [if_neg c] at H1 H0
      refine br_f c ?_
      by_cases d : 1000 ≤ Z 3 (q + 1)
      · rw [if_pos d] at H0
        exact br_f (Int32.not_lt.mpr d) (H0 (rn_n1 _ _) _)
      · rw [if_neg d] at H1 H0
        refine br_t (Int32.not_le.mp d) ?_
        by_cases k5 : κ = 5
        · rw [if_pos k5] at H1
          refine br_t k5 ?_
          by_cases e : Z 3 (q + 1) ≤ Z 3 q
          · rw [if_neg (Int32.not_lt.mpr e)] at H1; exact br_t e (yq_vpush (by omega) (H1 rfl))
          · rw [if_pos (Int32.not_le.mp e)] at H1; exact br_f e (yq_vpush (by omega) (H1 rfl))
        · rw [if_neg k5] at H1 H0
          refine br_f k5 ?_
          have fin : ∀ z : Int32, z = rn_ar κ (Z 3 q) (Z 3 (q + 1)) → wY_evalStep_721 Q z (nI N) f_cap f_ana 0 f_anyT f_intsT (nI p) (nI q) (nI m) (nI a) f_xp f_curK f_rBot f_rR f_rE0 f_rE1 a_st a_ar a_size a_bk a_ba a_bb a_ds a_tab a_nxt (Z 0) (Z 1) (Z 2) (Z 3) (Z 4) (Z 5) (Z 6) a_xN a_xS a_xE0 a_xE1 a_xA a_xB a_xC a_xD a_xE a_xF a_xG := by
            intro z ez
            rw [← ez] at H1 H0
            by_cases x : z < -99
            · rw [if_pos x] at H0; exact br_t x (H0 (rn_n1 _ _) _)
            · rw [if_neg x] at H1 H0
              refine br_f x ?_
              by_cases y : z ≤ 99
              · rw [if_neg (Int32.not_lt.mpr y)] at H1
                exact br_t y (yq_vpush (by omega) (H1 rfl))
              · rw [if_pos (Int32.not_le.mp y)] at H0
                exact br_f y (H0 (rn_n1 _ _) _)
          by_cases k3 : κ = 3
          · exact br_t k3 (fin _ (by unfold rn_ar; rw [if_pos k3]))
          · exact br_f k3 (fin _ (by unfold rn_ar; rw [if_neg k3]))
theorem rn_op_1 {κ v w : Int32} {m : Nat} (o : (rn_op κ v w m).1 ≠ -1) : (rn_op κ v w m).1 = 1 := by
  rcases (rn_op_gd (k := κ) (v := v) (w := w) (m := 0) (by omega)).1 with h | h | h
  · exact absurd (show (rn_op κ v w m).1 = -1 by rw [← h]; unfold rn_op; repeat (first | rfl | split)) o
  · rw [← h]; unfold rn_op; repeat (first | rfl | split)
  · exfalso
    revert h
    unfold rn_op
    repeat (first | exact fun h => absurd h (show ¬ (-1 : Int32) = 2 by decide) | exact fun h => absurd h (show ¬ (1 : Int32) = 2 by decide) | split)
theorem yq_V6 (hN : N ≤ 8) (hs : rl_slots N U sz S a_st a_ar szX a_size sX a_bk a_ba a_bb kd fo so ch pa dp) : yr_V6 N (rl_K a_bk) a_st sz (yq_R post (nI N) f_cap f_ana f_res f_anyT f_intsT f_wp f_vp f_made f_active f_xp f_curK f_rBot f_rR f_rE0 f_rE1 a_st a_ar a_size a_bk a_ba a_bb a_ds a_tab a_nxt a_wN a_wS a_wF a_vs a_frS a_frP0 a_frP1 a_xN a_xS a_xE0 a_xE1 a_xA a_xB a_xC a_xD a_xE a_xF a_xG) (yq_E post (nI N) f_cap f_ana f_res f_anyT f_intsT f_wp f_vp f_made f_active f_xp f_curK f_rBot f_rR f_rE0 f_rE1 a_st a_ar a_size a_bk a_ba a_bb a_ds a_tab a_nxt a_wN a_wS a_wF a_vs a_frS a_frP0 a_frP1 a_xN a_xS a_xE0 a_xE1 a_xA a_xB a_xC a_xD a_xE a_xF a_xG) := by
  intro t p q m a fr g i Z hin top hK k1 k2
  obtain ⟨ht, hp, hq, hf, hg, s2, hi⟩ := hin
  obtain ⟨h0, h1, h2, h4⟩ := top
  obtain ⟨k, hk, ek, e2, n0, n1, hb⟩ := yq_g hs hg s2
  have w : vp_in (nI p) 512 := vp_in_nI (by omega) (by decide)
  have cp : (nI p).toNatClampNeg = p := nI_clamp (by omega)
  have wf : vp_in (nI fr) 32 := vp_in_nI (by omega) (by decide)
  have cf : (nI fr).toNatClampNeg = fr := nI_clamp (by omega)
  have wi : vp_in (nI (g * 128 + i)) 1024 := vp_in_nI (by omega) (by decide)
  have ci : (nI (g * 128 + i)).toNatClampNeg = g * 128 + i := nI_clamp (by omega)
  refine yq_st ht hp fun fuel hfu => ?_
  have go : wY_evalStep_530 (yq_k post t fuel) (nI p) (nI fr) (nI g) (nI i) 2 (rl_K a_bk g i) 2 (nI N) f_cap f_ana 0 f_anyT f_intsT (nI (p + 1)) (nI (q + 2)) (nI m) (nI a) f_xp f_curK f_rBot f_rR f_rE0 f_rE1 a_st a_ar a_size a_bk a_ba a_bb a_ds a_tab a_nxt (Z 0) (Z 1) (Z 2) (Z 3) (Z 4) (Z 5) (Z 6) a_xN a_xS a_xE0 a_xE1 a_xA a_xB a_xC a_xD a_xE a_xF a_xG := yq_op hq hK (fun o => yq_go (Z := ya_z Z 3 q (rn_op (rl_K a_bk g i) (Z 3 q) (Z 3 (q + 1)) m).2.1) hfu (k1 o)) (fun o x2 => by
    have e := k2 o
    rw [rn_op_1 o] at e
    exact yq_end (Z := Z) (by decide) e)
  unfold wpY_evalStep
  dsimp only
  rcases hK with hK | hK | hK | hK <;> rw [hK] at go
  · exact nm_r (e' := nI p) (yq_top (by omega)) ⟨w, nm_r (e' := nI fr) (by rw [cp, h2]; exact yq_31 (by omega)) ⟨wf, nm_r (e' := nI g) (by rw [cf]; exact h4) ⟨w, nm_r (e' := nI i) (by rw [cp]; exact h0) ⟨w, nm_r (e' := 2) (by rw [cp]; exact h1) (nm_r (yk_ix (by omega) (by omega)) ⟨wi, nm_r (e' := 3) (by rw [ci]; exact hK) ⟨wi, nm_r (e' := rl_K a_ba g i) (by rw [ci]; rfl) ⟨wi, nm_r (e' := rl_K a_bb g i) (by rw [ci]; rfl) (br_t (by decide) (br_f (by decide) (br_f (by decide) (br_f (by decide) go)))) ⟩⟩⟩)⟩⟩⟩⟩
  · exact nm_r (e' := nI p) (yq_top (by omega)) ⟨w, nm_r (e' := nI fr) (by rw [cp, h2]; exact yq_31 (by omega)) ⟨wf, nm_r (e' := nI g) (by rw [cf]; exact h4) ⟨w, nm_r (e' := nI i) (by rw [cp]; exact h0) ⟨w, nm_r (e' := 2) (by rw [cp]; exact h1) (nm_r (yk_ix (by omega) (by omega)) ⟨wi, nm_r (e' := 4) (by rw [ci]; exact hK) ⟨wi, nm_r (e' := rl_K a_ba g i) (by rw [ci]; rfl) ⟨wi, nm_r (e' := rl_K a_bb g i) (by rw [ci]; rfl) (br_t (by decide) (br_f (by decide) (br_f (by decide) (br_f (by decide) go)))) ⟩⟩⟩)⟩⟩⟩⟩
  · exact nm_r (e' := nI p) (yq_top (by omega)) ⟨w, nm_r (e' := nI fr) (by rw [cp, h2]; exact yq_31 (by omega)) ⟨wf, nm_r (e' := nI g) (by rw [cf]; exact h4) ⟨w, nm_r (e' := nI i) (by rw [cp]; exact h0) ⟨w, nm_r (e' := 2) (by rw [cp]; exact h1) (nm_r (yk_ix (by omega) (by omega)) ⟨wi, nm_r (e' := 5) (by rw [ci]; exact hK) ⟨wi, nm_r (e' := rl_K a_ba g i) (by rw [ci]; rfl) ⟨wi, nm_r (e' := rl_K a_bb g i) (by rw [ci]; rfl) (br_t (by decide) (br_f (by decide) (br_f (by decide) (br_f (by decide) go)))) ⟩⟩⟩)⟩⟩⟩⟩
  · exact nm_r (e' := nI p) (yq_top (by omega)) ⟨w, nm_r (e' := nI fr) (by rw [cp, h2]; exact yq_31 (by omega)) ⟨wf, nm_r (e' := nI g) (by rw [cf]; exact h4) ⟨w, nm_r (e' := nI i) (by rw [cp]; exact h0) ⟨w, nm_r (e' := 2) (by rw [cp]; exact h1) (nm_r (yk_ix (by omega) (by omega)) ⟨wi, nm_r (e' := 6) (by rw [ci]; exact hK) ⟨wi, nm_r (e' := rl_K a_ba g i) (by rw [ci]; rfl) ⟨wi, nm_r (e' := rl_K a_bb g i) (by rw [ci]; rfl) (br_t (by decide) (br_f (by decide) (br_f (by decide) (br_f (by decide) go)))) ⟩⟩⟩)⟩⟩⟩⟩
theorem yq_V8 (hN : N ≤ 8) (hs : rl_slots N U sz S a_st a_ar szX a_size sX a_bk a_ba a_bb kd fo so ch pa dp) : yr_V8 N (rl_K a_bk) (rl_K a_bb) a_st sz (yq_R post (nI N) f_cap f_ana f_res f_anyT f_intsT f_wp f_vp f_made f_active f_xp f_curK f_rBot f_rR f_rE0 f_rE1 a_st a_ar a_size a_bk a_ba a_bb a_ds a_tab a_nxt a_wN a_wS a_wF a_vs a_frS a_frP0 a_frP1 a_xN a_xS a_xE0 a_xE1 a_xA a_xB a_xC a_xD a_xE a_xF a_xG) := by
  intro t p q m a fr g i b Z hin top hK hb' hb2 ha hR
  obtain ⟨ht, hp, hq, hf, hg, s2, hi⟩ := hin
  obtain ⟨h0, h1, h2, h4⟩ := top
  obtain ⟨k, hk, ek, e2, n0, n1, hb⟩ := yq_g hs hg s2
  have w : vp_in (nI p) 512 := vp_in_nI (by omega) (by decide)
  have cp : (nI p).toNatClampNeg = p := nI_clamp (by omega)
  have wf : vp_in (nI fr) 32 := vp_in_nI (by omega) (by decide)
  have cf : (nI fr).toNatClampNeg = fr := nI_clamp (by omega)
  have wi : vp_in (nI (g * 128 + i)) 1024 := vp_in_nI (by omega) (by decide)
  have ci : (nI (g * 128 + i)).toNatClampNeg = g * 128 + i := nI_clamp (by omega)
  refine yq_st ht hp fun fuel hfu => ?_
  unfold wpY_evalStep
  dsimp only
  exact nm_r (e' := nI p) (yq_top (by omega)) ⟨w, nm_r (e' := nI fr) (by rw [cp, h2]; exact yq_31 (by omega)) ⟨wf, nm_r (e' := nI g) (by rw [cf]; exact h4) ⟨w, nm_r (e' := nI i) (by rw [cp]; exact h0) ⟨w, nm_r (e' := nI (b + 1)) (by rw [cp]; exact h1) (nm_r (yk_ix (by omega) (by omega)) ⟨wi, nm_r (e' := 9) (by rw [ci]; exact hK) ⟨wi, nm_r (e' := rl_K a_ba g i) (by rw [ci]; rfl) ⟨wi, nm_r (e' := nI b) (by rw [ci]; exact hb') (br_t (by decide) (br_f (by decide) (br_t rfl (br_t (nI_le (by omega) (by omega)) (br_f (nI_ge (by omega) (by omega)) (nm_r (nI_pred a) (nm_r (nI_pred p) (yq_go hfu hR)))))))) ⟩⟩⟩)⟩⟩⟩⟩
theorem yq_374 {t fuel p q m fr g i b a : Nat} {Z : Nat → Nat → Int32} {v w' : Int32} (hN : N ≤ 8) (hs : rl_slots N U sz S a_st a_ar szX a_size sX a_bk a_ba a_bb kd fo so ch pa dp) (hp : p < 500) (hf : fr < 16) (ha : a < N) (hb2 : b ≤ 2) (hm : m ≤ 200) (hfu : 1000000 < t + 1 + fuel) (ea : rl_K a_ba g i = nI a) (hb' : rl_K a_bb g i = nI b)
    (hgo : ∀ a, a < N → rl_K a_ba g i = nI a → a_st a = 2 → a_ar a = rl_K a_bb g i → m < 200 → fr < 15 → yq_R post (nI N) f_cap f_ana f_res f_anyT f_intsT f_wp f_vp f_made f_active f_xp f_curK f_rBot f_rR f_rE0 f_rE1 a_st a_ar a_size a_bk a_ba a_bb a_ds a_tab a_nxt a_wN a_wS a_wF a_vs a_frS a_frP0 a_frP1 a_xN a_xS a_xE0 a_xE1 a_xA a_xB a_xC a_xD a_xE a_xF a_xG (t + 1) (p + 2) q (m + 1) (fr + 2) (yr_call Z p fr a b (sz a - 1) v w'))
    (hlim : a_st a = 2 → a_ar a = nI b → (200 ≤ m ∨ 15 ≤ fr) → yq_E post (nI N) f_cap f_ana f_res f_anyT f_intsT f_wp f_vp f_made f_active f_xp f_curK f_rBot f_rR f_rE0 f_rE1 a_st a_ar a_size a_bk a_ba a_bb a_ds a_tab a_nxt a_wN a_wS a_wF a_vs a_frS a_frP0 a_frP1 a_xN a_xS a_xE0 a_xE1 a_xA a_xB a_xC a_xD a_xE a_xF a_xG 2) (hfail : ¬ (a_st a = 2 ∧ a_ar a = nI b) → yq_E post (nI N) f_cap f_ana f_res f_anyT f_intsT f_wp f_vp f_made f_active f_xp f_curK f_rBot f_rR f_rE0 f_rE1 a_st a_ar a_size a_bk a_ba a_bb a_ds a_tab a_nxt a_wN a_wS a_wF a_vs a_frS a_frP0 a_frP1 a_xN a_xS a_xE0 a_xE1 a_xA a_xB a_xC a_xD a_xE a_xF a_xG 1) :
    wY_evalStep_374 (yq_k post t fuel) (nI p) (nI fr) (nI a) (nI b) w' v (nI N) f_cap f_ana 0 f_anyT f_intsT (nI (p + 1)) (nI q) (nI m) (nI (fr + 1)) f_xp f_curK f_rBot f_rR f_rE0 f_rE1 a_st a_ar a_size a_bk a_ba a_bb a_ds a_tab a_nxt (Z 0) (Z 1) (Z 2) (Z 3) (Z 4) (Z 5) (Z 6) a_xN a_xS a_xE0 a_xE1 a_xA a_xB a_xC a_xD a_xE a_xF a_xG := by
  have w : vp_in (nI p) 512 := vp_in_nI (by omega) (by decide)
  have cp : (nI p).toNatClampNeg = p := nI_clamp (by omega)
  have wa : vp_in (nI a) 8 := vp_in_nI (by omega) (by decide)
  have ca : (nI a).toNatClampNeg = a := nI_clamp (by omega)
  refine br_f (nI_pos (by omega)) (br_f (nI_ge ha (by omega)) ⟨wa, ?_⟩)
  rw [ca]
  by_cases sa : a_st a = 2
  · refine br_t sa ⟨wa, ?_⟩
    by_cases aa : a_ar a = nI b
    · refine br_t aa.symm ?_
      by_cases hm2 : 200 ≤ m
      · exact br_f (nI_nlt (b := 200) hm2 (by omega)) (yq_end (Z := Z) (by decide) (hlim sa aa (Or.inl hm2)))
      · refine br_t (nI_lt (b := 200) (by omega) (by decide)) ?_
        by_cases hf2 : fr < 15
        · refine br_t (nI_lt (b := 16) (by omega) (by decide)) ?_
          obtain ⟨_, _, _, ea2, na, _, _⟩ := yq_g hs ha sa
          have wf : vp_in (nI (fr + 1)) 32 := vp_in_nI (by omega) (by decide)
          have cf : (nI (fr + 1)).toNatClampNeg = fr + 1 := nI_clamp (by omega)
          refine nm_r (nI_1 m) (nm_r (nI_1 (fr + 1)) (nm_r (e' := nI (fr + 1)) (by rw [nI_1]; exact yq_31 (by omega)) ⟨wf, nm_r (e' := upd (Z 4) (fr + 1) (nI a)) (by rw [cf]) ⟨wf, nm_r (e' := upd (Z 5) (fr + 1) v) (by rw [cf]) ⟨wf, nm_r (e' := upd (Z 6) (fr + 1) w') (by rw [cf]) ⟨w, nm_r (e' := upd (Z 1) p (nI (b + 1))) (by rw [cp, nI_1]) ⟨wa, ?_⟩⟩⟩⟩⟩))
          rw [ea2, show nI (sz a) - 1 = nI (sz a - 1) from pk_sub (b := 1) (by omega)]
          exact yq_push (Z := ya_z (ya_z (ya_z (ya_z Z 4 (fr + 1) (nI a)) 5 (fr + 1) v) 6 (fr + 1) w') 1 p (nI (b + 1))) (p := p + 1) (by omega) (yq_go (Z := yr_call Z p fr a b (sz a - 1) v w') hfu (hgo a ha ea sa (by rw [hb']; exact aa) (by omega) hf2))
        · exact br_f (nI_nlt (b := 16) (by omega) (by omega)) (yq_end (Z := Z) (by decide) (hlim sa aa (Or.inr (by omega))))
    · exact br_f (fun z => aa z.symm) (yq_end (Z := Z) (by decide) (hfail fun z => aa z.2))
  · exact br_f sa (yq_end (Z := Z) (by decide) (hfail fun z => sa z.1))
theorem yq_V7 (hN : N ≤ 8) (hs : rl_slots N U sz S a_st a_ar szX a_size sX a_bk a_ba a_bb kd fo so ch pa dp) : yr_V7 N (rl_K a_bk) (rl_K a_ba) (rl_K a_bb) a_st a_ar sz (yq_R post (nI N) f_cap f_ana f_res f_anyT f_intsT f_wp f_vp f_made f_active f_xp f_curK f_rBot f_rR f_rE0 f_rE1 a_st a_ar a_size a_bk a_ba a_bb a_ds a_tab a_nxt a_wN a_wS a_wF a_vs a_frS a_frP0 a_frP1 a_xN a_xS a_xE0 a_xE1 a_xA a_xB a_xC a_xD a_xE a_xF a_xG) (yq_E post (nI N) f_cap f_ana f_res f_anyT f_intsT f_wp f_vp f_made f_active f_xp f_curK f_rBot f_rR f_rE0 f_rE1 a_st a_ar a_size a_bk a_ba a_bb a_ds a_tab a_nxt a_wN a_wS a_wF a_vs a_frS a_frP0 a_frP1 a_xN a_xS a_xE0 a_xE1 a_xA a_xB a_xC a_xD a_xE a_xF a_xG) := by
  intro t p q m fr g i b Z v w' hin hm top hK hb' hb2 a0 a1 a2 hgo hlim hfail
  obtain ⟨ht, hp, hq, hf, hg, s2, hi⟩ := hin
  obtain ⟨h0, h1, h2, h4⟩ := top
  obtain ⟨k, hk, ek, e2, n0, n1, hb⟩ := yq_g hs hg s2
  have w : vp_in (nI p) 512 := vp_in_nI (by omega) (by decide)
  have cp : (nI p).toNatClampNeg = p := nI_clamp (by omega)
  have wf : vp_in (nI fr) 32 := vp_in_nI (by omega) (by decide)
  have cf : (nI fr).toNatClampNeg = fr := nI_clamp (by omega)
  have wi : vp_in (nI (g * 128 + i)) 1024 := vp_in_nI (by omega) (by decide)
  have ci : (nI (g * 128 + i)).toNatClampNeg = g * 128 + i := nI_clamp (by omega)
  obtain ⟨a, ha, ea⟩ := (hb.1 i hi).2.2.2.2.1 hK
  have ca : (nI a).toNatClampNeg = a := nI_clamp (by omega)
  rw [ea, ca, hb'] at hlim hfail
  have base : ∀ fuel, 1000000 < t + 1 + fuel → wY_evalStep_374 (yq_k post t fuel) (nI p) (nI fr) (nI a) (nI b) w' v (nI N) f_cap f_ana 0 f_anyT f_intsT (nI (p + 1)) (nI q) (nI m) (nI (fr + 1)) f_xp f_curK f_rBot f_rR f_rE0 f_rE1 a_st a_ar a_size a_bk a_ba a_bb a_ds a_tab a_nxt (Z 0) (Z 1) (Z 2) (Z 3) (Z 4) (Z 5) (Z 6) a_xN a_xS a_xE0 a_xE1 a_xA a_xB a_xC a_xD a_xE a_xF a_xG :=
    fun fuel hfu => yq_374 hN hs hp hf ha hb2 hm hfu ea hb' hgo hlim hfail
  have bb : b = 0 ∨ b = 1 ∨ b = 2 := by omega
  rcases bb with rfl | rfl | rfl
  · obtain ⟨rfl, rfl⟩ := a0 rfl
    refine yq_st ht hp fun fuel hfu => ?_
    unfold wpY_evalStep
    dsimp only
    refine nm_r (e' := nI p) (yq_top (by omega)) ⟨w, nm_r (e' := nI fr) (by rw [cp, h2]; exact yq_31 (by omega)) ⟨wf, nm_r (e' := nI g) (by rw [cf]; exact h4) ⟨w, nm_r (e' := nI i) (by rw [cp]; exact h0) ⟨w, nm_r (e' := nI 0) (by rw [cp]; exact h1) (nm_r (yk_ix (by omega) (by omega)) ⟨wi, nm_r (e' := 9) (by rw [ci]; exact hK) ⟨wi, nm_r (e' := rl_K a_ba g i) (by rw [ci]; rfl) ⟨wi, nm_r (e' := nI 0) (by rw [ci]; exact hb') (br_t (by decide) (br_f (by decide) (br_t rfl (br_t (by decide) (br_t (by decide) (br_f (by decide) (br_t (by decide) ?_))))))) ⟩⟩⟩)⟩⟩⟩⟩
    rw [ea]
    exact base fuel hfu
  · obtain ⟨rfl, rfl⟩ := a1 rfl
    refine yq_st ht hp fun fuel hfu => ?_
    unfold wpY_evalStep
    dsimp only
    refine nm_r (e' := nI p) (yq_top (by omega)) ⟨w, nm_r (e' := nI fr) (by rw [cp, h2]; exact yq_31 (by omega)) ⟨wf, nm_r (e' := nI g) (by rw [cf]; exact h4) ⟨w, nm_r (e' := nI i) (by rw [cp]; exact h0) ⟨w, nm_r (e' := nI 1) (by rw [cp]; exact h1) (nm_r (yk_ix (by omega) (by omega)) ⟨wi, nm_r (e' := 9) (by rw [ci]; exact hK) ⟨wi, nm_r (e' := rl_K a_ba g i) (by rw [ci]; rfl) ⟨wi, nm_r (e' := nI 1) (by rw [ci]; exact hb') (br_t (by decide) (br_f (by decide) (br_t rfl (br_t (by decide) (br_t (by decide) (br_f (by decide) (br_f (by decide) ?_))))))) ⟩⟩⟩)⟩⟩⟩⟩
    rw [ea]
    exact yq_vpop (by omega) (base fuel hfu)
  · obtain ⟨rfl, rfl⟩ := a2 rfl
    refine yq_st ht hp fun fuel hfu => ?_
    unfold wpY_evalStep
    dsimp only
    refine nm_r (e' := nI p) (yq_top (by omega)) ⟨w, nm_r (e' := nI fr) (by rw [cp, h2]; exact yq_31 (by omega)) ⟨wf, nm_r (e' := nI g) (by rw [cf]; exact h4) ⟨w, nm_r (e' := nI i) (by rw [cp]; exact h0) ⟨w, nm_r (e' := nI 2) (by rw [cp]; exact h1) (nm_r (yk_ix (by omega) (by omega)) ⟨wi, nm_r (e' := 9) (by rw [ci]; exact hK) ⟨wi, nm_r (e' := rl_K a_ba g i) (by rw [ci]; rfl) ⟨wi, nm_r (e' := nI 2) (by rw [ci]; exact hb') (br_t (by decide) (br_f (by decide) (br_t rfl (br_t (by decide) (br_t (by decide) (br_t (by decide) ?_)))))) ⟩⟩⟩)⟩⟩⟩⟩
    rw [ea]
    exact yq_vpop (q := q + 1) (by omega) (br_f (by decide) (yq_vpop (q := q) (by omega) (base fuel hfu)))
end
end
section
section
variable {f_n f_cap f_ana f_res f_anyT f_intsT f_wp f_vp f_made f_active f_xp f_curK f_rBot f_rR f_rE0 f_rE1 : Int32} {a_st a_ar a_size a_bk a_ba a_bb a_ds a_tab a_nxt a_wN a_wS a_wF a_vs a_frS a_frP0 a_frP1 a_xN a_xS a_xE0 a_xE1 a_xA a_xB a_xC a_xD a_xE a_xF a_xG : Nat → Int32} {post : Int32 → SY → Prop} {N U : Nat} {sz S : Nat → Nat} {szX sX kd fo so ch pa dp : Nat → Int32}
theorem yq_run {f : Nat} {x y : Int32} (hN : N ≤ 8) (hs : rl_slots N U sz S a_st a_ar szX a_size sX a_bk a_ba a_bb kd fo so ch pa dp) (hf : f < N) (s2 : a_st f = 2) (ag : rn_ag (a_ar f) x y)
    (H1 : (rn_ev (rl_K a_bk) (rl_K a_ba) (rl_K a_bb) a_st a_ar sz 2048 0 f (sz f - 1) x y 1).1 ≠ -1 → ∀ (x1 x2 x3 x4 : Int32) (Z : Nat → Nat → Int32), post (rn_ev (rl_K a_bk) (rl_K a_ba) (rl_K a_bb) a_st a_ar sz 2048 0 f (sz f - 1) x y 1).1 (nI N, f_cap, f_ana, 0, f_anyT, f_intsT, x1, x2, x3, x4, f_xp, f_curK, f_rBot, f_rR, f_rE0, f_rE1, a_st, a_ar, a_size, a_bk, a_ba, a_bb, a_ds, a_tab, a_nxt, Z 0, Z 1, Z 2, Z 3, Z 4, Z 5, Z 6, a_xN, a_xS, a_xE0, a_xE1, a_xA, a_xB, a_xC, a_xD, a_xE, a_xF, a_xG))
    (H2 : (rn_ev (rl_K a_bk) (rl_K a_ba) (rl_K a_bb) a_st a_ar sz 2048 0 f (sz f - 1) x y 1).1 = -1 → ∀ (x1 x2 x3 x4 : Int32) (Z : Nat → Nat → Int32), post 0 (nI N, f_cap, f_ana, (rn_ev (rl_K a_bk) (rl_K a_ba) (rl_K a_bb) a_st a_ar sz 2048 0 f (sz f - 1) x y 1).2.1, f_anyT, f_intsT, x1, x2, x3, x4, f_xp, f_curK, f_rBot, f_rR, f_rE0, f_rE1, a_st, a_ar, a_size, a_bk, a_ba, a_bb, a_ds, a_tab, a_nxt, Z 0, Z 1, Z 2, Z 3, Z 4, Z 5, Z 6, a_xN, a_xS, a_xE0, a_xE1, a_xA, a_xB, a_xC, a_xD, a_xE, a_xF, a_xG)) :
    wY_run_64 post (nI f) x y (nI N) f_cap f_ana f_res f_anyT f_intsT f_wp f_vp f_made f_active f_xp f_curK f_rBot f_rR f_rE0 f_rE1 a_st a_ar a_size a_bk a_ba a_bb a_ds a_tab a_nxt a_wN a_wS a_wF a_vs a_frS a_frP0 a_frP1 a_xN a_xS a_xE0 a_xE1 a_xA a_xB a_xC a_xD a_xE a_xF a_xG := by
  obtain ⟨k, hk, ek, e2, n0, n1, hb⟩ := yq_g hs hf s2
  have dd := rl_hD1 hs f hf s2 (sz f - 1) (by omega)
  have sl := bs_ss_le (sp_c (rl_K a_bk) (rl_K a_bb) f) (sz f - 1)
  have wg : vp_in (nI f) 8 := vp_in_nI (by omega) (by decide)
  have cg : (nI f).toNatClampNeg = f := nI_clamp (by omega)
  unfold wY_run_64
  refine nm_e (nm_e (nm_e ⟨wg, ?_⟩))
  rw [cg, e2, show nI (sz f) - 1 = nI (sz f - 1) from pk_sub (b := 1) (by omega)]
  refine yq_push (p := 0) (fr := 0) (Z := yq_z a_wN a_wS a_wF a_vs (upd a_frS 0 (nI f)) (upd a_frP0 0 x) (upd a_frP1 0 y)) (by omega) ⟨1000001, ?_⟩
  have sim := yr_sim (D := fun g => rl_D (S g) dp) (RR := yq_R post (nI N) f_cap f_ana f_res f_anyT f_intsT f_wp f_vp f_made f_active f_xp f_curK f_rBot f_rR f_rE0 f_rE1 a_st a_ar a_size a_bk a_ba a_bb a_ds a_tab a_nxt a_wN a_wS a_wF a_vs a_frS a_frP0 a_frP1 a_xN a_xS a_xE0 a_xE1 a_xA a_xB a_xC a_xD a_xE a_xF a_xG) (RE := yq_E post (nI N) f_cap f_ana f_res f_anyT f_intsT f_wp f_vp f_made f_active f_xp f_curK f_rBot f_rR f_rE0 f_rE1 a_st a_ar a_size a_bk a_ba a_bb a_ds a_tab a_nxt a_wN a_wS a_wF a_vs a_frS a_frP0 a_frP1 a_xN a_xS a_xE0 a_xE1 a_xA a_xB a_xC a_xD a_xE a_xF a_xG) hN (rl_sp_ok hs) (rl_hD hs) (rl_hD1 hs) (yq_V1 hN hs) (yq_V2 hN hs) (yq_V3 hN hs) (yq_V4 hN hs) (yq_V5 hN hs) (yq_V6 hN hs) (yq_V7 hN hs) (yq_V8 hN hs) 2048
  refine sim 0 f (sz f - 1) 1 0 0 0 x y (yr_push (yq_z a_wN a_wS a_wF a_vs (upd a_frS 0 (nI f)) (upd a_frP0 0 x) (upd a_frP1 0 y)) 0 (sz f - 1) 0) (by omega) (by omega) hf s2 (by omega) ag (by omega) (by dsimp only; omega) (by dsimp only; omega) ⟨yr_push_0 .., yr_push_1 .., yr_push_2 .., ?_⟩ ?_ ?_ (by omega) (fun n => H1 n) (fun o t1 Z1 ht1 ag1 v1 => ?_) 1000001 (by omega)
  · rw [yr_push_h _ _ _ _ _ _ (by decide)]; exact pk_us
  · rw [yr_push_h _ _ _ _ _ _ (by decide)]; exact pk_us
  · rw [yr_push_h _ _ _ _ _ _ (by decide)]; exact pk_us
  · intro fuel hfu
    obtain ⟨fuel, rfl⟩ : ∃ m, fuel = m + 1 := ⟨fuel - 1, by omega⟩
    have fin : wY_run_160 post (nI N) f_cap f_ana 0 f_anyT f_intsT (nI 0) (nI 1) (nI (rn_ev (rl_K a_bk) (rl_K a_ba) (rl_K a_bb) a_st a_ar sz 2048 0 f (sz f - 1) x y 1).2.2) (nI 1) f_xp f_curK f_rBot f_rR f_rE0 f_rE1 a_st a_ar a_size a_bk a_ba a_bb a_ds a_tab a_nxt (Z1 0) (Z1 1) (Z1 2) (Z1 3) (Z1 4) (Z1 5) (Z1 6) a_xN a_xS a_xE0 a_xE1 a_xA a_xB a_xC a_xD a_xE a_xF a_xG := by
      unfold wY_run_160
      refine br_f (by decide) (br_t (by decide) ?_)
      rw [yq_top (p := 0) (by decide), nI_clamp (by decide)]
      exact ⟨vp_in_nI (by decide) (by decide), nm_r v1 (H2 o _ _ _ _ Z1)⟩
    exact br_c (fun _ => fin) (fun _ => br_t (by decide) fin)
end
end
section
def i_Rel (_ : Nat) (u : SX) (v : SY) : Prop := match u, v with
  | (f_slotCount, f_capacity, f_nodesUsed, f_buildingSlot, f_pendingCount, f_summariesCurrent, f_callsActive, f_callsMade, f_runOutcome, f_runValue, a_slotStates, a_slotArities, a_slotStarts, a_slotSizes, a_kinds, a_firstOperands, a_secondOperands, a_children, a_parents, a_depths, a_pendingNodes, a_summaries, a_nextSummaries, a_nodeTypes, a_paramsAfter, a_params, a_values, a_arguments, a_frameSlots, a_frameNodes), (f_n, f_cap, f_ana, f_res, f_anyT, f_intsT, f_wp, f_vp, f_made, f_active, f_xp, f_curK, f_rBot, f_rR, f_rE0, f_rE1, a_st, a_ar, a_size, a_bk, a_ba, a_bb, a_ds, a_tab, a_nxt, a_wN, a_wS, a_wF, a_vs, a_frS, a_frP0, a_frP1, a_xN, a_xS, a_xE0, a_xE1, a_xA, a_xB, a_xC, a_xD, a_xE, a_xF, a_xG) => ∃ (N C U : Nat) (sz S : Nat → Nat) (tb : Nat → ty_T), f_slotCount = nI N ∧ f_n = nI N ∧ f_capacity = nI C ∧ f_cap = nI C ∧ f_nodesUsed = nI U ∧ a_slotStates = a_st ∧ a_slotArities = a_ar ∧ f_summariesCurrent = f_ana ∧ f_runValue = f_res ∧ f_anyT = ty_y ty_any ∧ f_intsT = ty_y ty_ints
    ∧ (1 ≤ N ∧ N ≤ 8 ∧ 16 ≤ C ∧ C ≤ 128 ∧ U ≤ C) ∧ (f_summariesCurrent = 0 ∨ f_summariesCurrent = 1) ∧ rl_sum a_slotStates sz N = U
    ∧ rl_slots N U sz S a_slotStates a_slotArities a_slotSizes a_size a_slotStarts a_bk a_ba a_bb a_kinds a_firstOperands a_secondOperands a_children a_parents a_depths
    ∧ rl_bld N U sz S a_slotStates a_bk a_bb a_pendingNodes a_parents f_buildingSlot f_pendingCount ∧ rl_tab N tb a_summaries a_nextSummaries a_tab a_nxt
theorem i_up {k : Nat} {u : SX} {v : SY} (h : i_Rel k u v) : i_Rel (k + 4) u v := h
theorem rd_3 {v : Int32} (h : nI 3 ≤ v) : 2 < v ∧ ¬ v < 0 ∧ ¬ v ≤ 2 := by
  rw [Int32.le_iff_toInt_le, nI_toInt (by decide)] at h
  refine ⟨?_, ?_, ?_⟩
  · rw [Int32.lt_iff_toInt_lt, show (2 : Int32).toInt = 2 by decide]; omega
  · rw [Int32.lt_iff_toInt_lt, show (0 : Int32).toInt = 0 by decide]; omega
  · rw [Int32.le_iff_toInt_le, show (2 : Int32).toInt = 2 by decide]; omega
theorem rd_n {v : Int32} {N : Nat} (hN : N < 2 ^ 31) (h : nI N ≤ v) : ¬ v < 0 := by
  rw [Int32.le_iff_toInt_le, nI_toInt hN] at h
  rw [Int32.lt_iff_toInt_lt, show (0 : Int32).toInt = 0 by decide]; omega
/-- a slot's number -/
theorem rd_ix (N : Nat) (hN : N ≤ 8) (v : Int32) : (∃ f : Nat, f < N ∧ v = nI f) ∨ ¬ ∃ f : Nat, f < N ∧ v = nI f := Classical.em _
section
variable {f_slotCount f_capacity f_nodesUsed f_buildingSlot f_pendingCount f_summariesCurrent f_callsActive f_callsMade f_runOutcome f_runValue : Int32} {a_slotStates a_slotArities a_slotStarts a_slotSizes a_kinds a_firstOperands a_secondOperands a_children a_parents a_depths a_pendingNodes a_summaries a_nextSummaries a_nodeTypes a_paramsAfter a_params a_values a_arguments a_frameSlots a_frameNodes : Nat → Int32} {N : Nat}
theorem xd_slot {Q : Int32 → Prop} (hN : N ≤ 8) {v : Int32} (H1 : ∀ f : Nat, f < N → v = nI f → Q 1) (H0 : (¬ ∃ f : Nat, f < N ∧ v = nI f) → Q 0) : wpX_isSlot Q (nI N, f_capacity, f_nodesUsed, f_buildingSlot, f_pendingCount, f_summariesCurrent, f_callsActive, f_callsMade, f_runOutcome, f_runValue, a_slotStates, a_slotArities, a_slotStarts, a_slotSizes, a_kinds, a_firstOperands, a_secondOperands, a_children, a_parents, a_depths, a_pendingNodes, a_summaries, a_nextSummaries, a_nodeTypes, a_paramsAfter, a_params, a_values, a_arguments, a_frameSlots, a_frameNodes) v := by
  unfold wpX_isSlot
  dsimp only
  rcases pk_ix v (n := N) (by omega) with h | h | ⟨f, hf, rfl⟩
  · refine br_t h (H0 ?_)
    rintro ⟨f, hf, rfl⟩
    exact nI_pos (by omega) h
  · refine br_f (rd_n (by omega) h) (br_t h (H0 ?_))
    rintro ⟨f, hf, rfl⟩
    exact nI_ge hf (by omega) h
  · exact br_f (nI_pos (by omega)) (br_f (nI_ge hf (by omega)) (H1 f hf rfl))
theorem xd_body {Q : Int32 → Prop} (hN : N ≤ 8) {v : Int32} (H1 : ∀ f : Nat, f < N → v = nI f → a_slotStates f ≠ 0 → Q 1) (H0 : (¬ ∃ f : Nat, f < N ∧ v = nI f ∧ a_slotStates f ≠ 0) → Q 0) : wpX_hasBody Q (nI N, f_capacity, f_nodesUsed, f_buildingSlot, f_pendingCount, f_summariesCurrent, f_callsActive, f_callsMade, f_runOutcome, f_runValue, a_slotStates, a_slotArities, a_slotStarts, a_slotSizes, a_kinds, a_firstOperands, a_secondOperands, a_children, a_parents, a_depths, a_pendingNodes, a_summaries, a_nextSummaries, a_nodeTypes, a_paramsAfter, a_params, a_values, a_arguments, a_frameSlots, a_frameNodes) v := by
  unfold wpX_hasBody
  dsimp only
  rcases pk_ix v (n := N) (by omega) with h | h | ⟨f, hf, rfl⟩
  · refine br_t h (H0 ?_)
    rintro ⟨f, hf, rfl, _⟩
    exact nI_pos (by omega) h
  · refine br_f (rd_n (by omega) h) (br_t h (H0 ?_))
    rintro ⟨f, hf, rfl, _⟩
    exact nI_ge hf (by omega) h
  · refine br_f (nI_pos (by omega)) (br_f (nI_ge hf (by omega)) ⟨vp_in_nI (by omega) (by decide), ?_⟩)
    rw [nI_clamp (by omega)]
    by_cases z : a_slotStates f = 0
    · refine br_t z (H0 ?_)
      rintro ⟨f', hf', e, h⟩
      rw [nI_eq (by omega) (by omega)] at e
      subst e
      exact h z
    · exact br_f z (H1 f hf rfl z)
theorem xd_sum {Q : Int32 → Prop} (hN : N ≤ 8) {v w : Int32} (H1 : ∀ f j : Nat, f < N → j < 3 → v = nI f → w = nI j → Q 1) (H0 : (¬ ∃ f j : Nat, f < N ∧ j < 3 ∧ v = nI f ∧ w = nI j) → Q 0) : wpX_isSummary Q (nI N, f_capacity, f_nodesUsed, f_buildingSlot, f_pendingCount, f_summariesCurrent, f_callsActive, f_callsMade, f_runOutcome, f_runValue, a_slotStates, a_slotArities, a_slotStarts, a_slotSizes, a_kinds, a_firstOperands, a_secondOperands, a_children, a_parents, a_depths, a_pendingNodes, a_summaries, a_nextSummaries, a_nodeTypes, a_paramsAfter, a_params, a_values, a_arguments, a_frameSlots, a_frameNodes) v w := by
  unfold wpX_isSummary
  dsimp only
  rcases pk_ix v (n := N) (by omega) with h | h | ⟨f, hf, rfl⟩
  · refine br_t h (H0 ?_)
    rintro ⟨f, j, hf, hj, rfl, _⟩
    exact nI_pos (by omega) h
  · refine br_f (rd_n (by omega) h) (br_t h (H0 ?_))
    rintro ⟨f, j, hf, hj, rfl, _⟩
    exact nI_ge hf (by omega) h
  · refine br_f (nI_pos (by omega)) (br_f (nI_ge hf (by omega)) ?_)
    rcases pk_ix w (n := 3) (by decide) with h | h | ⟨j, hj, rfl⟩
    · refine br_t h (H0 ?_)
      rintro ⟨f', j, hf', hj, _, rfl⟩
      exact nI_pos (by omega) h
    · refine br_f (rd_3 h).2.1 (br_t (rd_3 h).1 (H0 ?_))
      rintro ⟨f', j, hf', hj, _, rfl⟩
      exact nI_ge hj (by omega) h
    · exact br_f (nI_pos (by omega)) (br_f (nI_nlt (a := 2) (b := j) (by omega) (by decide)) (H1 f j hf hj rfl rfl))
end
section
variable {f_n f_cap f_ana f_res f_anyT f_intsT f_wp f_vp f_made f_active f_xp f_curK f_rBot f_rR f_rE0 f_rE1 : Int32} {a_st a_ar a_size a_bk a_ba a_bb a_ds a_tab a_nxt a_wN a_wS a_wF a_vs a_frS a_frP0 a_frP1 a_xN a_xS a_xE0 a_xE1 a_xA a_xB a_xC a_xD a_xE a_xF a_xG : Nat → Int32} {N : Nat}
theorem yd_sum {Q : Int32 → Prop} (hN : N ≤ 8) {v w : Int32} (H1 : ∀ f j : Nat, f < N → j < 3 → v = nI f → w = nI j → Q 0) (H0 : (¬ ∃ f j : Nat, f < N ∧ j < 3 ∧ v = nI f ∧ w = nI j) → Q 1) : wpY_badQ Q (nI N, f_cap, f_ana, f_res, f_anyT, f_intsT, f_wp, f_vp, f_made, f_active, f_xp, f_curK, f_rBot, f_rR, f_rE0, f_rE1, a_st, a_ar, a_size, a_bk, a_ba, a_bb, a_ds, a_tab, a_nxt, a_wN, a_wS, a_wF, a_vs, a_frS, a_frP0, a_frP1, a_xN, a_xS, a_xE0, a_xE1, a_xA, a_xB, a_xC, a_xD, a_xE, a_xF, a_xG) v w := by
  unfold wpY_badQ
  dsimp only
  rcases pk_ix v (n := N) (by omega) with h | h | ⟨f, hf, rfl⟩
  · refine br_t h (H0 ?_)
    rintro ⟨f, j, hf, hj, rfl, _⟩
    exact nI_pos (by omega) h
  · refine br_f (rd_n (by omega) h) (br_t h (H0 ?_))
    rintro ⟨f, j, hf, hj, rfl, _⟩
    exact nI_ge hf (by omega) h
  · refine br_f (nI_pos (by omega)) (br_f (nI_ge hf (by omega)) ?_)
    rcases pk_ix w (n := 3) (by decide) with h | h | ⟨j, hj, rfl⟩
    · refine br_t h (H0 ?_)
      rintro ⟨f', j, hf', hj, _, rfl⟩
      exact nI_pos (by omega) h
    · refine br_f (rd_3 h).2.1 (br_f (rd_3 h).2.2 (H0 ?_))
      rintro ⟨f', j, hf', hj, _, rfl⟩
      exact nI_ge hj (by omega) h
    · exact br_f (nI_pos (by omega)) (br_t (nI_le (a := j) (b := 2) (by omega) (by decide)) (H1 f j hf hj rfl rfl))
end
theorem rd_idx {f j : Nat} : nI f * 3 + nI j = nI (f * 3 + j) := by rw [xc_3, nI_add]
theorem i_vc_analyzed {k : Nat} {u : SX} {v : SY} (I : i_Rel k u v) (hk : k + 4 ≤ 2050) : wpX_analyzed (fun r => wpY_analyzed (fun r' => r' = r ∧ i_Rel (k + 4) u v) v) u := by
  have J := I
  obtain ⟨f_slotCount, f_capacity, f_nodesUsed, f_buildingSlot, f_pendingCount, f_summariesCurrent, f_callsActive, f_callsMade, f_runOutcome, f_runValue, a_slotStates, a_slotArities, a_slotStarts, a_slotSizes, a_kinds, a_firstOperands, a_secondOperands, a_children, a_parents, a_depths, a_pendingNodes, a_summaries, a_nextSummaries, a_nodeTypes, a_paramsAfter, a_params, a_values, a_arguments, a_frameSlots, a_frameNodes⟩ := u
  obtain ⟨f_n, f_cap, f_ana, f_res, f_anyT, f_intsT, f_wp, f_vp, f_made, f_active, f_xp, f_curK, f_rBot, f_rR, f_rE0, f_rE1, a_st, a_ar, a_size, a_bk, a_ba, a_bb, a_ds, a_tab, a_nxt, a_wN, a_wS, a_wF, a_vs, a_frS, a_frP0, a_frP1, a_xN, a_xS, a_xE0, a_xE1, a_xA, a_xB, a_xC, a_xD, a_xE, a_xF, a_xG⟩ := v
  obtain ⟨N, C, U, sz, S, tb, rfl, rfl, rfl, rfl, rfl, rfl, rfl, rfl, rfl, rfl, rfl, ⟨hN1, hN, hC1, hC, hU⟩, hcur, hsum, hs, hbld, htab⟩ := I
  have nar : narrow .boolean (.int f_summariesCurrent) = .int f_summariesCurrent := by
    rcases hcur with h | h <;> rw [h] <;> rfl
  exact ⟨nar, nar, rfl, J⟩
theorem i_vc_result {k : Nat} {u : SX} {v : SY} (I : i_Rel k u v) (hk : k + 4 ≤ 2050) : wpX_result (fun r => wpY_result (fun r' => r' = r ∧ i_Rel (k + 4) u v) v) u := by
  have J := I
  obtain ⟨f_slotCount, f_capacity, f_nodesUsed, f_buildingSlot, f_pendingCount, f_summariesCurrent, f_callsActive, f_callsMade, f_runOutcome, f_runValue, a_slotStates, a_slotArities, a_slotStarts, a_slotSizes, a_kinds, a_firstOperands, a_secondOperands, a_children, a_parents, a_depths, a_pendingNodes, a_summaries, a_nextSummaries, a_nodeTypes, a_paramsAfter, a_params, a_values, a_arguments, a_frameSlots, a_frameNodes⟩ := u
  obtain ⟨f_n, f_cap, f_ana, f_res, f_anyT, f_intsT, f_wp, f_vp, f_made, f_active, f_xp, f_curK, f_rBot, f_rR, f_rE0, f_rE1, a_st, a_ar, a_size, a_bk, a_ba, a_bb, a_ds, a_tab, a_nxt, a_wN, a_wS, a_wF, a_vs, a_frS, a_frP0, a_frP1, a_xN, a_xS, a_xE0, a_xE1, a_xA, a_xB, a_xC, a_xD, a_xE, a_xF, a_xG⟩ := v
  obtain ⟨N, C, U, sz, S, tb, rfl, rfl, rfl, rfl, rfl, rfl, rfl, rfl, rfl, rfl, rfl, ⟨hN1, hN, hC1, hC, hU⟩, hcur, hsum, hs, hbld, htab⟩ := I
  exact ⟨rfl, J⟩
theorem i_vc_atoms {k : Nat} {u : SX} {v : SY} (I : i_Rel k u v) (hk : k + 4 ≤ 2050) (v1 : Int32) (v2 : Int32) : wpX_atoms (fun r => wpY_atoms (fun r' => r' = r ∧ i_Rel (k + 4) u v) v v1 v2) u v1 v2 := by
  have J := I
  obtain ⟨f_slotCount, f_capacity, f_nodesUsed, f_buildingSlot, f_pendingCount, f_summariesCurrent, f_callsActive, f_callsMade, f_runOutcome, f_runValue, a_slotStates, a_slotArities, a_slotStarts, a_slotSizes, a_kinds, a_firstOperands, a_secondOperands, a_children, a_parents, a_depths, a_pendingNodes, a_summaries, a_nextSummaries, a_nodeTypes, a_paramsAfter, a_params, a_values, a_arguments, a_frameSlots, a_frameNodes⟩ := u
  obtain ⟨f_n, f_cap, f_ana, f_res, f_anyT, f_intsT, f_wp, f_vp, f_made, f_active, f_xp, f_curK, f_rBot, f_rR, f_rE0, f_rE1, a_st, a_ar, a_size, a_bk, a_ba, a_bb, a_ds, a_tab, a_nxt, a_wN, a_wS, a_wF, a_vs, a_frS, a_frP0, a_frP1, a_xN, a_xS, a_xE0, a_xE1, a_xA, a_xB, a_xC, a_xD, a_xE, a_xF, a_xG⟩ := v
  obtain ⟨N, C, U, sz, S, tb, rfl, rfl, rfl, rfl, rfl, rfl, rfl, rfl, rfl, rfl, rfl, ⟨hN1, hN, hC1, hC, hU⟩, hcur, hsum, hs, hbld, htab⟩ := I
  obtain ⟨hT, ht, _⟩ := htab
  unfold wpX_atoms wpY_atoms
  refine xd_sum hN (fun f j hf hj e1 e2 => br_f (by decide) ?_) (fun no => br_t rfl ?_)
  · subst e1 e2
    obtain ⟨t1, t2⟩ := ht (f * 3 + j) (by omega)
    rw [rd_idx, nI_clamp (by omega)]
    refine ⟨vp_in_nI (by omega) (by decide), ?_⟩
    refine yd_sum hN (fun f' j' hf' hj' e1 e2 => br_t rfl ?_) (fun no => absurd ⟨f, j, hf, hj, rfl, rfl⟩ no)
    refine ⟨vp_in_nI (by omega) (by decide), ?_, J⟩
    rw [t1, t2, ty_xm (hT _), ty_ym (hT _)]
  · exact yd_sum hN (fun f j hf hj e1 e2 => absurd ⟨f, j, hf, hj, e1, e2⟩ no) (fun _ => br_f (by decide) ⟨rfl, J⟩)
theorem i_vc_intLo {k : Nat} {u : SX} {v : SY} (I : i_Rel k u v) (hk : k + 4 ≤ 2050) (v1 : Int32) (v2 : Int32) : wpX_intLo (fun r => wpY_intLo (fun r' => r' = r ∧ i_Rel (k + 4) u v) v v1 v2) u v1 v2 := by
  have J := I
  obtain ⟨f_slotCount, f_capacity, f_nodesUsed, f_buildingSlot, f_pendingCount, f_summariesCurrent, f_callsActive, f_callsMade, f_runOutcome, f_runValue, a_slotStates, a_slotArities, a_slotStarts, a_slotSizes, a_kinds, a_firstOperands, a_secondOperands, a_children, a_parents, a_depths, a_pendingNodes, a_summaries, a_nextSummaries, a_nodeTypes, a_paramsAfter, a_params, a_values, a_arguments, a_frameSlots, a_frameNodes⟩ := u
  obtain ⟨f_n, f_cap, f_ana, f_res, f_anyT, f_intsT, f_wp, f_vp, f_made, f_active, f_xp, f_curK, f_rBot, f_rR, f_rE0, f_rE1, a_st, a_ar, a_size, a_bk, a_ba, a_bb, a_ds, a_tab, a_nxt, a_wN, a_wS, a_wF, a_vs, a_frS, a_frP0, a_frP1, a_xN, a_xS, a_xE0, a_xE1, a_xA, a_xB, a_xC, a_xD, a_xE, a_xF, a_xG⟩ := v
  obtain ⟨N, C, U, sz, S, tb, rfl, rfl, rfl, rfl, rfl, rfl, rfl, rfl, rfl, rfl, rfl, ⟨hN1, hN, hC1, hC, hU⟩, hcur, hsum, hs, hbld, htab⟩ := I
  obtain ⟨hT, ht, _⟩ := htab
  unfold wpX_intLo wpY_intLo
  refine xd_sum hN (fun f j hf hj e1 e2 => br_f (by decide) ?_) (fun no => br_t rfl ?_)
  · subst e1 e2
    obtain ⟨t1, t2⟩ := ht (f * 3 + j) (by omega)
    rw [rd_idx, nI_clamp (by omega), t1]
    refine ⟨vp_in_nI (by omega) (by decide), nm_e (xt_has (hT _) (fun z => br_t rfl ?_) (fun z => br_f (by decide) (xt_low (hT _) z ?_)))⟩
    · refine yd_sum hN (fun f' j' hf' hj' e1 e2 => br_t rfl ?_) (fun no => absurd ⟨f, j, hf, hj, rfl, rfl⟩ no)
      rw [t2]
      exact ⟨vp_in_nI (by omega) (by decide), nm_e (yt_has (hT _) (fun z' => br_t rfl ⟨rfl, J⟩) (fun z' => absurd z z'))⟩
    · refine yd_sum hN (fun f' j' hf' hj' e1 e2 => br_t rfl ?_) (fun no => absurd ⟨f, j, hf, hj, rfl, rfl⟩ no)
      rw [t2]
      exact ⟨vp_in_nI (by omega) (by decide), nm_e (yt_has (hT _) (fun z' => absurd z' z) (fun z' => br_f (by decide) (yt_lo (hT _) z ⟨rfl, J⟩)))⟩
  · exact yd_sum hN (fun f j hf hj e1 e2 => absurd ⟨f, j, hf, hj, e1, e2⟩ no) (fun _ => br_f (by decide) ⟨rfl, J⟩)
theorem i_vc_intHi {k : Nat} {u : SX} {v : SY} (I : i_Rel k u v) (hk : k + 4 ≤ 2050) (v1 : Int32) (v2 : Int32) : wpX_intHi (fun r => wpY_intHi (fun r' => r' = r ∧ i_Rel (k + 4) u v) v v1 v2) u v1 v2 := by
  have J := I
  obtain ⟨f_slotCount, f_capacity, f_nodesUsed, f_buildingSlot, f_pendingCount, f_summariesCurrent, f_callsActive, f_callsMade, f_runOutcome, f_runValue, a_slotStates, a_slotArities, a_slotStarts, a_slotSizes, a_kinds, a_firstOperands, a_secondOperands, a_children, a_parents, a_depths, a_pendingNodes, a_summaries, a_nextSummaries, a_nodeTypes, a_paramsAfter, a_params, a_values, a_arguments, a_frameSlots, a_frameNodes⟩ := u
  obtain ⟨f_n, f_cap, f_ana, f_res, f_anyT, f_intsT, f_wp, f_vp, f_made, f_active, f_xp, f_curK, f_rBot, f_rR, f_rE0, f_rE1, a_st, a_ar, a_size, a_bk, a_ba, a_bb, a_ds, a_tab, a_nxt, a_wN, a_wS, a_wF, a_vs, a_frS, a_frP0, a_frP1, a_xN, a_xS, a_xE0, a_xE1, a_xA, a_xB, a_xC, a_xD, a_xE, a_xF, a_xG⟩ := v
  obtain ⟨N, C, U, sz, S, tb, rfl, rfl, rfl, rfl, rfl, rfl, rfl, rfl, rfl, rfl, rfl, ⟨hN1, hN, hC1, hC, hU⟩, hcur, hsum, hs, hbld, htab⟩ := I
  obtain ⟨hT, ht, _⟩ := htab
  unfold wpX_intHi wpY_intHi
  refine xd_sum hN (fun f j hf hj e1 e2 => br_f (by decide) ?_) (fun no => br_t rfl ?_)
  · subst e1 e2
    obtain ⟨t1, t2⟩ := ht (f * 3 + j) (by omega)
    rw [rd_idx, nI_clamp (by omega), t1]
    refine ⟨vp_in_nI (by omega) (by decide), nm_e (xt_has (hT _) (fun z => br_t rfl ?_) (fun z => br_f (by decide) (xt_high (hT _) z ?_)))⟩
    · refine yd_sum hN (fun f' j' hf' hj' e1 e2 => br_t rfl ?_) (fun no => absurd ⟨f, j, hf, hj, rfl, rfl⟩ no)
      rw [t2]
      exact ⟨vp_in_nI (by omega) (by decide), nm_e (yt_has (hT _) (fun z' => br_t rfl ⟨rfl, J⟩) (fun z' => absurd z z'))⟩
    · refine yd_sum hN (fun f' j' hf' hj' e1 e2 => br_t rfl ?_) (fun no => absurd ⟨f, j, hf, hj, rfl, rfl⟩ no)
      rw [t2]
      exact ⟨vp_in_nI (by omega) (by decide), nm_e (yt_has (hT _) (fun z' => absurd z' z) (fun z' => br_f (by decide) (yt_hi (hT _) z ⟨rfl, J⟩)))⟩
  · exact yd_sum hN (fun f j hf hj e1 e2 => absurd ⟨f, j, hf, hj, e1, e2⟩ no) (fun _ => br_f (by decide) ⟨rfl, J⟩)
end
section
theorem rd_at {v : Int32} (h1 : 1000 ≤ v.toInt) (h2 : v.toInt ≤ 1007) : ∃ j : Nat, j < 8 ∧ v - 1000 = nI j := by
  refine ⟨(v.toInt - 1000).toNat, by omega, ?_⟩
  apply Int32.toInt_inj.mp
  rw [nI_toInt (by omega), Int32.toInt_sub, ty_k0, Int.bmod_eq_of_le (by omega) (by omega)]
  omega
theorem rd_01 (m j : Nat) : m / 2 ^ j % 2 = 0 ∨ m / 2 ^ j % 2 = 1 := by omega
theorem i_vc_member {k : Nat} {u : SX} {v : SY} (I : i_Rel k u v) (hk : k + 4 ≤ 2050) (v1 : Int32) (v2 : Int32) (v3 : Int32) : wpX_member (fun r => wpY_member (fun r' => r' = r ∧ i_Rel (k + 4) u v) v v1 v2 v3) u v1 v2 v3 := by
  have J := I
  obtain ⟨f_slotCount, f_capacity, f_nodesUsed, f_buildingSlot, f_pendingCount, f_summariesCurrent, f_callsActive, f_callsMade, f_runOutcome, f_runValue, a_slotStates, a_slotArities, a_slotStarts, a_slotSizes, a_kinds, a_firstOperands, a_secondOperands, a_children, a_parents, a_depths, a_pendingNodes, a_summaries, a_nextSummaries, a_nodeTypes, a_paramsAfter, a_params, a_values, a_arguments, a_frameSlots, a_frameNodes⟩ := u
  obtain ⟨f_n, f_cap, f_ana, f_res, f_anyT, f_intsT, f_wp, f_vp, f_made, f_active, f_xp, f_curK, f_rBot, f_rR, f_rE0, f_rE1, a_st, a_ar, a_size, a_bk, a_ba, a_bb, a_ds, a_tab, a_nxt, a_wN, a_wS, a_wF, a_vs, a_frS, a_frP0, a_frP1, a_xN, a_xS, a_xE0, a_xE1, a_xA, a_xB, a_xC, a_xD, a_xE, a_xF, a_xG⟩ := v
  obtain ⟨N, C, U, sz, S, tb, rfl, rfl, rfl, rfl, rfl, rfl, rfl, rfl, rfl, rfl, rfl, ⟨hN1, hN, hC1, hC, hU⟩, hcur, hsum, hs, hbld, htab⟩ := I
  obtain ⟨hT, ht, _⟩ := htab
  unfold wpX_member wpY_member
  refine xd_sum hN (fun f j hf hj e1 e2 => br_f (by decide) ?_) (fun no => br_t rfl ?_)
  · subst e1 e2
    obtain ⟨t1, t2⟩ := ht (f * 3 + j) (by omega)
    rw [rd_idx, nI_clamp (by omega), t1]
    refine ⟨vp_in_nI (by omega) (by decide), nm_e ?_⟩
    refine xt_isInt (fun a b => br_f (by decide) ?_) (fun nn => br_t rfl ?_)
    · have n1 : ¬ v3 < -99 := by rw [Int32.lt_iff_toInt_lt, ty_m99]; omega
      have n2 : ¬ 99 < v3 := by rw [Int32.lt_iff_toInt_lt, ty_p99]; omega
      refine xt_has (hT _) (fun z => br_t rfl ?_) (fun z => br_f (by decide) (xt_low (hT _) z ?_))
      · refine yd_sum hN (fun f' j' hf' hj' e1 e2 => br_t rfl ?_) (fun no => absurd ⟨f, j, hf, hj, rfl, rfl⟩ no)
        rw [t2]
        exact ⟨vp_in_nI (by omega) (by decide), nm_e (br_f n1 (br_f n2 (yt_has (hT _) (fun z' => br_t rfl ⟨rfl, J⟩) (fun z' => absurd z z'))))⟩
      · by_cases lo : v3 < ty_lw (tb (f * 3 + j)).2.1
        · refine br_t lo ?_
          refine yd_sum hN (fun f' j' hf' hj' e1 e2 => br_t rfl ?_) (fun no => absurd ⟨f, j, hf, hj, rfl, rfl⟩ no)
          rw [t2]
          exact ⟨vp_in_nI (by omega) (by decide), nm_e (br_f n1 (br_f n2 (yt_has (hT _) (fun z' => absurd z' z) (fun z' => br_f (by decide) (yt_lo (hT _) z (br_t lo ⟨rfl, J⟩))))))⟩
        · refine br_f lo (xt_high (hT _) z ?_)
          by_cases hi : ty_hw (tb (f * 3 + j)).2.2 < v3
          · refine br_t hi ?_
            refine yd_sum hN (fun f' j' hf' hj' e1 e2 => br_t rfl ?_) (fun no => absurd ⟨f, j, hf, hj, rfl, rfl⟩ no)
            rw [t2]
            exact ⟨vp_in_nI (by omega) (by decide), nm_e (br_f n1 (br_f n2 (yt_has (hT _) (fun z' => absurd z' z) (fun z' => br_f (by decide) (yt_lo (hT _) z (br_f lo (yt_hi (hT _) z (br_t hi ⟨rfl, J⟩))))))))⟩
          · refine br_f hi ?_
            refine yd_sum hN (fun f' j' hf' hj' e1 e2 => br_t rfl ?_) (fun no => absurd ⟨f, j, hf, hj, rfl, rfl⟩ no)
            rw [t2]
            exact ⟨vp_in_nI (by omega) (by decide), nm_e (br_f n1 (br_f n2 (yt_has (hT _) (fun z' => absurd z' z) (fun z' => br_f (by decide) (yt_lo (hT _) z (br_f lo (yt_hi (hT _) z (br_f hi ⟨rfl, J⟩))))))))⟩
    · have out : v3 < -99 ∨ 99 < v3 := by
        rw [Int32.lt_iff_toInt_lt, ty_m99, Int32.lt_iff_toInt_lt, ty_p99]; omega
      refine xt_isAtom (fun a b => br_f (by decide) ?_) (fun nm => br_t rfl ?_)
      · obtain ⟨q, hq, eq⟩ := rd_at a b
        have m1 : ¬ v3 < 1000 := by rw [Int32.lt_iff_toInt_lt, ty_k0]; omega
        have m2 : ¬ 1007 < v3 := by rw [Int32.lt_iff_toInt_lt, ty_k7]; omega
        have xn := ty_xn_lt (hT (f * 3 + j))
        have yn := ty_yn_lt (hT (f * 3 + j))
        have bx := ty_bit (ty_xn_m (hT (f * 3 + j))) (by omega) hq
        have by' := ty_bit (ty_yn_m (hT (f * 3 + j))) (by omega) hq
        rw [eq, show ty_x (tb (f * 3 + j)) = nI (ty_xn (tb (f * 3 + j))) from rfl, bx]
        rcases rd_01 (tb (f * 3 + j)).1 q with z | z
        · rw [z]
          refine br_f (by decide) ?_
          refine yd_sum hN (fun f' j' hf' hj' e1 e2 => br_t rfl ?_) (fun no => absurd ⟨f, j, hf, hj, rfl, rfl⟩ no)
          rw [t2]
          refine ⟨vp_in_nI (by omega) (by decide), nm_e ?_⟩
          have fin : ((ty_y (tb (f * 3 + j)) >>> ((v3 - 1000) &&& 31)) &&& 1) = 0 := by
            rw [eq, show ty_y (tb (f * 3 + j)) = nI (ty_yn (tb (f * 3 + j))) from rfl, by', z]; rfl
          exact br_c (fun _ => br_f m1 (br_f m2 (br_t fin ⟨rfl, J⟩))) (fun a => br_t (out.resolve_left a) (br_f m1 (br_f m2 (br_t fin ⟨rfl, J⟩))))
        · rw [z]
          refine br_t (by decide) ?_
          refine yd_sum hN (fun f' j' hf' hj' e1 e2 => br_t rfl ?_) (fun no => absurd ⟨f, j, hf, hj, rfl, rfl⟩ no)
          rw [t2]
          refine ⟨vp_in_nI (by omega) (by decide), nm_e ?_⟩
          have fin : ¬ ((ty_y (tb (f * 3 + j)) >>> ((v3 - 1000) &&& 31)) &&& 1) = 0 := by
            rw [eq, show ty_y (tb (f * 3 + j)) = nI (ty_yn (tb (f * 3 + j))) from rfl, by', z]; decide
          exact br_c (fun _ => br_f m1 (br_f m2 (br_f fin ⟨rfl, J⟩))) (fun a => br_t (out.resolve_left a) (br_f m1 (br_f m2 (br_f fin ⟨rfl, J⟩))))
      · refine yd_sum hN (fun f' j' hf' hj' e1 e2 => br_t rfl ?_) (fun no => absurd ⟨f, j, hf, hj, rfl, rfl⟩ no)
        rw [t2]
        refine ⟨vp_in_nI (by omega) (by decide), nm_e ?_⟩
        by_cases m1 : v3 < 1000
        · exact br_c (fun _ => br_t m1 ⟨rfl, J⟩) (fun a => br_t (out.resolve_left a) (br_t m1 ⟨rfl, J⟩))
        · have m2 : 1007 < v3 := by
            rw [Int32.lt_iff_toInt_lt, ty_k0] at m1
            rw [Int32.lt_iff_toInt_lt, ty_k7]; omega
          exact br_c (fun _ => br_f m1 (br_t m2 ⟨rfl, J⟩)) (fun a => br_t (out.resolve_left a) (br_f m1 (br_t m2 ⟨rfl, J⟩)))
  · exact yd_sum hN (fun f j hf hj e1 e2 => absurd ⟨f, j, hf, hj, e1, e2⟩ no) (fun _ => br_f (by decide) ⟨rfl, J⟩)
section
variable {f_n f_cap f_ana f_res f_anyT f_intsT f_wp f_vp f_made f_active f_xp f_curK f_rBot f_rR f_rE0 f_rE1 : Int32} {a_st a_ar a_size a_bk a_ba a_bb a_ds a_tab a_nxt a_wN a_wS a_wF a_vs a_frS a_frP0 a_frP1 a_xN a_xS a_xE0 a_xE1 a_xA a_xB a_xC a_xD a_xE a_xF a_xG : Nat → Int32} {N : Nat}
/-- the reference's own check of a slot with a body -/
theorem yd_body {C0 : Prop} {C1 : Prop} (hN : N ≤ 8) {v : Int32} (H1 : ∀ f : Nat, f < N → v = nI f → a_st f ≠ 0 → C1) (H0 : (¬ ∃ f : Nat, f < N ∧ v = nI f ∧ a_st f ≠ 0) → C0) :
    ((v < 0 → C0) ∧ (¬ v < 0 → ((nI N ≤ v → C0) ∧ (¬ nI N ≤ v → (vp_in v 8 ∧ ((a_st v.toNatClampNeg = 0 → C0) ∧ (¬ a_st v.toNatClampNeg = 0 → C1))))))) := by
  rcases pk_ix v (n := N) (by omega) with h | h | ⟨f, hf, rfl⟩
  · refine br_t h (H0 ?_)
    rintro ⟨f, hf, rfl, _⟩
    exact nI_pos (by omega) h
  · refine br_f (rd_n (by omega) h) (br_t h (H0 ?_))
    rintro ⟨f, hf, rfl, _⟩
    exact nI_ge hf (by omega) h
  · refine br_f (nI_pos (by omega)) (br_f (nI_ge hf (by omega)) ⟨vp_in_nI (by omega) (by decide), ?_⟩)
    rw [nI_clamp (by omega)]
    by_cases z : a_st f = 0
    · refine br_t z (H0 ?_)
      rintro ⟨f', hf', e, h⟩
      rw [nI_eq (by omega) (by omega)] at e
      subst e
      exact h z
    · exact br_f z (H1 f hf rfl z)
end
theorem i_vc_bodySize {k : Nat} {u : SX} {v : SY} (I : i_Rel k u v) (hk : k + 4 ≤ 2050) (v1 : Int32) : wpX_bodySize (fun r => wpY_bodySize (fun r' => r' = r ∧ i_Rel (k + 4) u v) v v1) u v1 := by
  have J := I
  obtain ⟨f_slotCount, f_capacity, f_nodesUsed, f_buildingSlot, f_pendingCount, f_summariesCurrent, f_callsActive, f_callsMade, f_runOutcome, f_runValue, a_slotStates, a_slotArities, a_slotStarts, a_slotSizes, a_kinds, a_firstOperands, a_secondOperands, a_children, a_parents, a_depths, a_pendingNodes, a_summaries, a_nextSummaries, a_nodeTypes, a_paramsAfter, a_params, a_values, a_arguments, a_frameSlots, a_frameNodes⟩ := u
  obtain ⟨f_n, f_cap, f_ana, f_res, f_anyT, f_intsT, f_wp, f_vp, f_made, f_active, f_xp, f_curK, f_rBot, f_rR, f_rE0, f_rE1, a_st, a_ar, a_size, a_bk, a_ba, a_bb, a_ds, a_tab, a_nxt, a_wN, a_wS, a_wF, a_vs, a_frS, a_frP0, a_frP1, a_xN, a_xS, a_xE0, a_xE1, a_xA, a_xB, a_xC, a_xD, a_xE, a_xF, a_xG⟩ := v
  obtain ⟨N, C, U, sz, S, tb, rfl, rfl, rfl, rfl, rfl, rfl, rfl, rfl, rfl, rfl, rfl, ⟨hN1, hN, hC1, hC, hU⟩, hcur, hsum, hs, hbld, htab⟩ := I
  unfold wpX_bodySize wpY_bodySize
  refine xd_body hN (fun f hf e z => br_f (by decide) ?_) (fun no => br_t rfl ?_)
  · subst e
    obtain ⟨e1, e2, _⟩ := (hs f hf).2.1 z
    refine ⟨vp_in_nI (by omega) (by decide), ?_⟩
    refine yd_body hN (fun f' hf' e' z' => ⟨vp_in_nI (by omega) (by decide), ?_, J⟩) (fun no => absurd ⟨f, hf, rfl, z⟩ no)
    rw [nI_clamp (by omega), e1, e2]
  · exact yd_body hN (fun f hf e z => absurd ⟨f, hf, e, z⟩ no) (fun _ => ⟨rfl, J⟩)
theorem i_vc_arity {k : Nat} {u : SX} {v : SY} (I : i_Rel k u v) (hk : k + 4 ≤ 2050) (v1 : Int32) : wpX_arity (fun r => wpY_arity (fun r' => r' = r ∧ i_Rel (k + 4) u v) v v1) u v1 := by
  have J := I
  obtain ⟨f_slotCount, f_capacity, f_nodesUsed, f_buildingSlot, f_pendingCount, f_summariesCurrent, f_callsActive, f_callsMade, f_runOutcome, f_runValue, a_slotStates, a_slotArities, a_slotStarts, a_slotSizes, a_kinds, a_firstOperands, a_secondOperands, a_children, a_parents, a_depths, a_pendingNodes, a_summaries, a_nextSummaries, a_nodeTypes, a_paramsAfter, a_params, a_values, a_arguments, a_frameSlots, a_frameNodes⟩ := u
  obtain ⟨f_n, f_cap, f_ana, f_res, f_anyT, f_intsT, f_wp, f_vp, f_made, f_active, f_xp, f_curK, f_rBot, f_rR, f_rE0, f_rE1, a_st, a_ar, a_size, a_bk, a_ba, a_bb, a_ds, a_tab, a_nxt, a_wN, a_wS, a_wF, a_vs, a_frS, a_frP0, a_frP1, a_xN, a_xS, a_xE0, a_xE1, a_xA, a_xB, a_xC, a_xD, a_xE, a_xF, a_xG⟩ := v
  obtain ⟨N, C, U, sz, S, tb, rfl, rfl, rfl, rfl, rfl, rfl, rfl, rfl, rfl, rfl, rfl, ⟨hN1, hN, hC1, hC, hU⟩, hcur, hsum, hs, hbld, htab⟩ := I
  unfold wpX_arity wpY_arity
  refine xd_body hN (fun f hf e z => br_f (by decide) ?_) (fun no => br_t rfl ?_)
  · subst e
    refine ⟨vp_in_nI (by omega) (by decide), ?_⟩
    exact yd_body hN (fun f' hf' e' z' => ⟨vp_in_nI (by omega) (by decide), rfl, J⟩) (fun no => absurd ⟨f, hf, rfl, z⟩ no)
  · exact yd_body hN (fun f hf e z => absurd ⟨f, hf, e, z⟩ no) (fun _ => ⟨rfl, J⟩)
theorem i_vc_nodeAt {k : Nat} {u : SX} {v : SY} (I : i_Rel k u v) (hk : k + 4 ≤ 2050) (v1 : Int32) (v2 : Int32) : wpX_nodeAt (fun r => wpY_nodeAt (fun r' => r' = r ∧ i_Rel (k + 4) u v) v v1 v2) u v1 v2 := by
  have J := I
  obtain ⟨f_slotCount, f_capacity, f_nodesUsed, f_buildingSlot, f_pendingCount, f_summariesCurrent, f_callsActive, f_callsMade, f_runOutcome, f_runValue, a_slotStates, a_slotArities, a_slotStarts, a_slotSizes, a_kinds, a_firstOperands, a_secondOperands, a_children, a_parents, a_depths, a_pendingNodes, a_summaries, a_nextSummaries, a_nodeTypes, a_paramsAfter, a_params, a_values, a_arguments, a_frameSlots, a_frameNodes⟩ := u
  obtain ⟨f_n, f_cap, f_ana, f_res, f_anyT, f_intsT, f_wp, f_vp, f_made, f_active, f_xp, f_curK, f_rBot, f_rR, f_rE0, f_rE1, a_st, a_ar, a_size, a_bk, a_ba, a_bb, a_ds, a_tab, a_nxt, a_wN, a_wS, a_wF, a_vs, a_frS, a_frP0, a_frP1, a_xN, a_xS, a_xE0, a_xE1, a_xA, a_xB, a_xC, a_xD, a_xE, a_xF, a_xG⟩ := v
  obtain ⟨N, C, U, sz, S, tb, rfl, rfl, rfl, rfl, rfl, rfl, rfl, rfl, rfl, rfl, rfl, ⟨hN1, hN, hC1, hC, hU⟩, hcur, hsum, hs, hbld, htab⟩ := I
  unfold wpX_nodeAt
  refine xd_body hN (fun f hf e z => br_f (by decide) ?_) (fun no => br_t rfl ?_)
  · subst e
    obtain ⟨e1, e2, e3, e4, kk, hkk, ekk, hB⟩ := (hs f hf).2.1 z
    have hS := hB.1
    have w : vp_in (nI f) 8 := vp_in_nI (by omega) (by decide)
    have cl : (nI f).toNatClampNeg = f := nI_clamp (by omega)
    rcases pk_ix v2 (n := sz f) (by omega) with h | h | ⟨i, hi, rfl⟩
    · refine br_t h ?_
      exact yd_body hN (fun f' hf' e' z' => br_t h ⟨rfl, J⟩) (fun no => absurd ⟨f, hf, rfl, z⟩ no)
    · have n0 := rd_n (by omega) h
      refine br_f n0 ⟨w, ?_⟩
      rw [cl, e1]
      refine br_f (Int32.not_lt.mpr h) ?_
      refine yd_body hN (fun f' hf' e' z' => ?_) (fun no => absurd ⟨f, hf, rfl, z⟩ no)
      refine br_f n0 ⟨w, ?_⟩
      rw [cl, e2]
      exact br_f (Int32.not_lt.mpr h) ⟨rfl, J⟩
    · refine br_f (nI_pos (by omega)) ⟨w, ?_⟩
      rw [cl, e1, e3]
      obtain ⟨r1, r2, r3, _⟩ := hB.2.2 i hi
      have wr : vp_in (nI (S f + i)) 128 := vp_in_nI (by omega) (by decide)
      refine br_t (nI_lt hi (by omega)) ⟨w, nm_r (nI_add _ _) ⟨wr, wr, wr, ?_⟩⟩
      rw [nI_clamp (n := S f + i) (by omega), r1, r2, r3]
      refine yd_body hN (fun f' hf' e' z' => ?_) (fun no => absurd ⟨f, hf, rfl, z⟩ no)
      refine br_f (nI_pos (by omega)) ⟨w, ?_⟩
      rw [cl, e2]
      have wi : vp_in (nI (f * 128 + i)) 1024 := vp_in_nI (by omega) (by decide)
      refine br_t (nI_lt hi (by omega)) (nm_r (yk_ix (by omega) (by omega)) ⟨wi, wi, wi, ?_, J⟩)
      rw [nI_clamp (n := f * 128 + i) (by omega)]
      rfl
  · exact yd_body hN (fun f hf e z => absurd ⟨f, hf, e, z⟩ no) (fun _ => ⟨rfl, J⟩)
end
section
section
variable {f_slotCount f_capacity f_nodesUsed f_buildingSlot f_pendingCount f_summariesCurrent f_callsActive f_callsMade f_runOutcome f_runValue : Int32} {a_slotStates a_slotArities a_slotStarts a_slotSizes a_kinds a_firstOperands a_secondOperands a_children a_parents a_depths a_pendingNodes a_summaries a_nextSummaries a_nodeTypes a_paramsAfter a_params a_values a_arguments a_frameSlots a_frameNodes : Nat → Int32} {N : Nat}
theorem xe_go {post : Int32 → SX → Prop} {f k : Nat} {x y : Int32} (hN : N ≤ 8) (hf : f < N) (s2 : a_slotStates f = 2) (ek : a_slotArities f = nI k) (hk : k ≤ 2) (H1 : rn_ag (nI k) x y → wX_run_58 post (nI f) x y (nI N) f_capacity f_nodesUsed f_buildingSlot f_pendingCount f_summariesCurrent f_callsActive f_callsMade f_runOutcome f_runValue a_slotStates a_slotArities a_slotStarts a_slotSizes a_kinds a_firstOperands a_secondOperands a_children a_parents a_depths a_pendingNodes a_summaries a_nextSummaries a_nodeTypes a_paramsAfter a_params a_values a_arguments a_frameSlots a_frameNodes) (H0 : ¬ rn_ag (nI k) x y → post 3 (nI N, f_capacity, f_nodesUsed, f_buildingSlot, f_pendingCount, f_summariesCurrent, f_callsActive, f_callsMade, f_runOutcome, f_runValue, a_slotStates, a_slotArities, a_slotStarts, a_slotSizes, a_kinds, a_firstOperands, a_secondOperands, a_children, a_parents, a_depths, a_pendingNodes, a_summaries, a_nextSummaries, a_nodeTypes, a_paramsAfter, a_params, a_values, a_arguments, a_frameSlots, a_frameNodes)) :
    wpX_run post (nI N, f_capacity, f_nodesUsed, f_buildingSlot, f_pendingCount, f_summariesCurrent, f_callsActive, f_callsMade, f_runOutcome, f_runValue, a_slotStates, a_slotArities, a_slotStarts, a_slotSizes, a_kinds, a_firstOperands, a_secondOperands, a_children, a_parents, a_depths, a_pendingNodes, a_summaries, a_nextSummaries, a_nodeTypes, a_paramsAfter, a_params, a_values, a_arguments, a_frameSlots, a_frameNodes) (nI f) x y := by
  have w : vp_in (nI f) 8 := vp_in_nI (by omega) (by decide)
  have cl : (nI f).toNatClampNeg = f := nI_clamp (by omega)
  have k1 : (1 : Int32) ≤ nI k ↔ 1 ≤ k := by rw [show (1 : Int32) = nI 1 by decide, nI_leI (by omega) (by omega)]
  have k2 : (2 : Int32) ≤ nI k ↔ 2 ≤ k := by rw [show (2 : Int32) = nI 2 by decide, nI_leI (by omega) (by omega)]
  have k3 : nI k = 2 ↔ k = 2 := by rw [show (2 : Int32) = nI 2 by decide, nI_eq (by omega) (by omega)]
  have s39 : (1 ≤ k → rn_ok x) → wX_run_39 post (nI f) x y (nI N) f_capacity f_nodesUsed f_buildingSlot f_pendingCount f_summariesCurrent f_callsActive f_callsMade f_runOutcome f_runValue a_slotStates a_slotArities a_slotStarts a_slotSizes a_kinds a_firstOperands a_secondOperands a_children a_parents a_depths a_pendingNodes a_summaries a_nextSummaries a_nodeTypes a_paramsAfter a_params a_values a_arguments a_frameSlots a_frameNodes := by
    intro hx
    unfold wX_run_39
    rw [cl, ek]
    refine ⟨w, ?_⟩
    by_cases c : k = 2
    · refine br_t (k3.mpr c) (xt_isValue (fun oy => br_f (by decide) (H1 ⟨fun z => hx (k1.mp z), fun _ => oy⟩)) (fun ny => br_t rfl (H0 fun z => ny (z.2 (k2.mpr (by omega))))))
    · exact br_f (fun z => c (k3.mp z)) (H1 ⟨fun z => hx (k1.mp z), fun z => by have := k2.mp z; omega⟩)
  unfold wpX_run
  dsimp only
  refine xd_slot hN (fun f' hf' e => br_f (by decide) ⟨w, ?_⟩) (fun no => absurd ⟨f, hf, rfl⟩ no)
  rw [cl, ek]
  refine br_t s2 ⟨w, ?_⟩
  by_cases c : k < 1
  · exact br_t ((yc_k1 hk).mpr c) (s39 fun z => by omega)
  · exact br_f (fun z => c ((yc_k1 hk).mp z)) (xt_isValue (fun ox => br_f (by decide) (s39 fun _ => ox)) (fun nx => br_t rfl (H0 fun z => nx (z.1 (k1.mpr (by omega))))))
end
section
variable {f_n f_cap f_ana f_res f_anyT f_intsT f_wp f_vp f_made f_active f_xp f_curK f_rBot f_rR f_rE0 f_rE1 : Int32} {a_st a_ar a_size a_bk a_ba a_bb a_ds a_tab a_nxt a_wN a_wS a_wF a_vs a_frS a_frP0 a_frP1 a_xN a_xS a_xE0 a_xE1 a_xA a_xB a_xC a_xD a_xE a_xF a_xG : Nat → Int32} {N : Nat}
theorem ye_go {post : Int32 → SY → Prop} {f k : Nat} {x y : Int32} (hN : N ≤ 8) (hf : f < N) (s2 : a_st f = 2) (ek : a_ar f = nI k) (hk : k ≤ 2) (H1 : rn_ag (nI k) x y → wY_run_64 post (nI f) x y (nI N) f_cap f_ana f_res f_anyT f_intsT f_wp f_vp f_made f_active f_xp f_curK f_rBot f_rR f_rE0 f_rE1 a_st a_ar a_size a_bk a_ba a_bb a_ds a_tab a_nxt a_wN a_wS a_wF a_vs a_frS a_frP0 a_frP1 a_xN a_xS a_xE0 a_xE1 a_xA a_xB a_xC a_xD a_xE a_xF a_xG) (H0 : ¬ rn_ag (nI k) x y → post 3 (nI N, f_cap, f_ana, f_res, f_anyT, f_intsT, f_wp, f_vp, f_made, f_active, f_xp, f_curK, f_rBot, f_rR, f_rE0, f_rE1, a_st, a_ar, a_size, a_bk, a_ba, a_bb, a_ds, a_tab, a_nxt, a_wN, a_wS, a_wF, a_vs, a_frS, a_frP0, a_frP1, a_xN, a_xS, a_xE0, a_xE1, a_xA, a_xB, a_xC, a_xD, a_xE, a_xF, a_xG)) :
    wpY_run post (nI N, f_cap, f_ana, f_res, f_anyT, f_intsT, f_wp, f_vp, f_made, f_active, f_xp, f_curK, f_rBot, f_rR, f_rE0, f_rE1, a_st, a_ar, a_size, a_bk, a_ba, a_bb, a_ds, a_tab, a_nxt, a_wN, a_wS, a_wF, a_vs, a_frS, a_frP0, a_frP1, a_xN, a_xS, a_xE0, a_xE1, a_xA, a_xB, a_xC, a_xD, a_xE, a_xF, a_xG) (nI f) x y := by
  have w : vp_in (nI f) 8 := vp_in_nI (by omega) (by decide)
  have cl : (nI f).toNatClampNeg = f := nI_clamp (by omega)
  have k1 : (1 : Int32) ≤ nI k ↔ 1 ≤ k := by rw [show (1 : Int32) = nI 1 by decide, nI_leI (by omega) (by omega)]
  have k2 : (2 : Int32) ≤ nI k ↔ 2 ≤ k := by rw [show (2 : Int32) = nI 2 by decide, nI_leI (by omega) (by omega)]
  have k3 : nI k = 2 ↔ k = 2 := by rw [show (2 : Int32) = nI 2 by decide, nI_eq (by omega) (by omega)]
  have s44 : (1 ≤ k → rn_ok x) → wY_run_44 post (nI f) x y (nI N) f_cap f_ana f_res f_anyT f_intsT f_wp f_vp f_made f_active f_xp f_curK f_rBot f_rR f_rE0 f_rE1 a_st a_ar a_size a_bk a_ba a_bb a_ds a_tab a_nxt a_wN a_wS a_wF a_vs a_frS a_frP0 a_frP1 a_xN a_xS a_xE0 a_xE1 a_xA a_xB a_xC a_xD a_xE a_xF a_xG := by
    intro hx
    unfold wY_run_44
    rw [cl, ek]
    refine ⟨w, ?_⟩
    by_cases c : k = 2
    · refine br_t (k3.mpr c) (yt_code (fun oy => br_f (by decide) (H1 ⟨fun z => hx (k1.mp z), fun _ => oy⟩)) (fun ny => br_t rfl (H0 fun z => ny (z.2 (k2.mpr (by omega))))))
    · exact br_f (fun z => c (k3.mp z)) (H1 ⟨fun z => hx (k1.mp z), fun z => by have := k2.mp z; omega⟩)
  unfold wpY_run
  dsimp only
  refine br_f (nI_pos (by omega)) (br_f (nI_ge hf (by omega)) ⟨w, ?_⟩)
  rw [cl, ek]
  refine br_t s2 ⟨w, ?_⟩
  by_cases c : k < 1
  · exact br_t ((yc_k1 hk).mpr c) (s44 fun z => by omega)
  · exact br_f (fun z => c ((yc_k1 hk).mp z)) (yt_code (fun ox => br_f (by decide) (s44 fun _ => ox)) (fun nx => br_t rfl (H0 fun z => nx (z.1 (k1.mpr (by omega))))))
theorem ye_no {post : Int32 → SY → Prop} {v x y : Int32} (hN : N ≤ 8) (no : ¬ ∃ f : Nat, f < N ∧ v = nI f ∧ a_st f = 2) (H : post 3 (nI N, f_cap, f_ana, f_res, f_anyT, f_intsT, f_wp, f_vp, f_made, f_active, f_xp, f_curK, f_rBot, f_rR, f_rE0, f_rE1, a_st, a_ar, a_size, a_bk, a_ba, a_bb, a_ds, a_tab, a_nxt, a_wN, a_wS, a_wF, a_vs, a_frS, a_frP0, a_frP1, a_xN, a_xS, a_xE0, a_xE1, a_xA, a_xB, a_xC, a_xD, a_xE, a_xF, a_xG)) : wpY_run post (nI N, f_cap, f_ana, f_res, f_anyT, f_intsT, f_wp, f_vp, f_made, f_active, f_xp, f_curK, f_rBot, f_rR, f_rE0, f_rE1, a_st, a_ar, a_size, a_bk, a_ba, a_bb, a_ds, a_tab, a_nxt, a_wN, a_wS, a_wF, a_vs, a_frS, a_frP0, a_frP1, a_xN, a_xS, a_xE0, a_xE1, a_xA, a_xB, a_xC, a_xD, a_xE, a_xF, a_xG) v x y := by
  unfold wpY_run
  dsimp only
  rcases pk_ix v (n := N) (by omega) with h | h | ⟨f, hf, rfl⟩
  · exact br_t h H
  · exact br_f (rd_n (by omega) h) (br_t h H)
  · refine br_f (nI_pos (by omega)) (br_f (nI_ge hf (by omega)) ⟨vp_in_nI (by omega) (by decide), ?_⟩)
    rw [nI_clamp (by omega)]
    exact br_f (fun z => no ⟨f, hf, rfl, z⟩) H
end
theorem i_vc_run {k : Nat} {u : SX} {v : SY} (I : i_Rel k u v) (hk : k + 4 ≤ 2050) (v1 : Int32) (v2 : Int32) (v3 : Int32) : wpX_run (fun r u' => wpY_run (fun r' v' => r' = r ∧ i_Rel (k + 4) u' v') v v1 v2 v3) u v1 v2 v3 := by
  have J := I
  obtain ⟨f_slotCount, f_capacity, f_nodesUsed, f_buildingSlot, f_pendingCount, f_summariesCurrent, f_callsActive, f_callsMade, f_runOutcome, f_runValue, a_slotStates, a_slotArities, a_slotStarts, a_slotSizes, a_kinds, a_firstOperands, a_secondOperands, a_children, a_parents, a_depths, a_pendingNodes, a_summaries, a_nextSummaries, a_nodeTypes, a_paramsAfter, a_params, a_values, a_arguments, a_frameSlots, a_frameNodes⟩ := u
  obtain ⟨f_n, f_cap, f_ana, f_res, f_anyT, f_intsT, f_wp, f_vp, f_made, f_active, f_xp, f_curK, f_rBot, f_rR, f_rE0, f_rE1, a_st, a_ar, a_size, a_bk, a_ba, a_bb, a_ds, a_tab, a_nxt, a_wN, a_wS, a_wF, a_vs, a_frS, a_frP0, a_frP1, a_xN, a_xS, a_xE0, a_xE1, a_xA, a_xB, a_xC, a_xD, a_xE, a_xF, a_xG⟩ := v
  obtain ⟨N, C, U, sz, S, tb, rfl, rfl, rfl, rfl, rfl, rfl, rfl, rfl, rfl, rfl, rfl, ⟨hN1, hN, hC1, hC, hU⟩, hcur, hsum, hs, hbld, htab⟩ := I
  by_cases ex : ∃ f : Nat, f < N ∧ v1 = nI f ∧ a_slotStates f = 2
  · obtain ⟨f, hf, rfl, s2⟩ := ex
    obtain ⟨_, _, _, _, kk, hkk, ekk, _⟩ := (hs f hf).2.1 (by rw [s2]; decide)
    refine xe_go hN hf s2 ekk hkk (fun ag => ?_) (fun na => ye_go hN hf s2 ekk hkk (fun ag => absurd ag na) (fun _ => ⟨rfl, J⟩))
    have ag' : rn_ag (a_slotArities f) v2 v3 := by rw [ekk]; exact ag
    refine xq_run hN hs hf s2 ag' (fun n ca cm V AR FS FN => ?_) (fun o ca cm V AR FS FN => ?_)
    · refine ye_go hN hf s2 ekk hkk (fun _ => ?_) (fun na => absurd ag na)
      refine yq_run hN hs hf s2 ag' (fun n' x1 x2 x3 x4 Z => ⟨rfl, ?_⟩) (fun o => absurd o n)
      exact ⟨N, C, U, sz, S, tb, rfl, rfl, rfl, rfl, rfl, rfl, rfl, rfl, rfl, rfl, rfl, ⟨hN1, hN, hC1, hC, hU⟩, hcur, hsum, hs, hbld, htab⟩
    · refine ye_go hN hf s2 ekk hkk (fun _ => ?_) (fun na => absurd ag na)
      refine yq_run hN hs hf s2 ag' (fun n' => absurd o n') (fun o' x1 x2 x3 x4 Z => ⟨rfl, ?_⟩)
      exact ⟨N, C, U, sz, S, tb, rfl, rfl, rfl, rfl, rfl, rfl, rfl, rfl, rfl, rfl, rfl, ⟨hN1, hN, hC1, hC, hU⟩, hcur, hsum, hs, hbld, htab⟩
  · unfold wpX_run
    refine xd_slot hN (fun f hf e => br_f (by decide) ?_) (fun _ => br_t rfl (ye_no hN ex ⟨rfl, J⟩))
    subst e
    refine ⟨vp_in_nI (by omega) (by decide), br_f (fun z => ex ⟨f, hf, rfl, ?_⟩) (ye_no hN ex ⟨rfl, J⟩)⟩
    rw [nI_clamp (by omega)] at z
    exact z
theorem i_vc_analyze {k : Nat} {u : SX} {v : SY} (I : i_Rel k u v) (hk : k + 4 ≤ 2050) : wpX_analyze (fun r u' => wpY_analyze (fun r' v' => r' = r ∧ i_Rel (k + 4) u' v') v) u := by
  obtain ⟨f_slotCount, f_capacity, f_nodesUsed, f_buildingSlot, f_pendingCount, f_summariesCurrent, f_callsActive, f_callsMade, f_runOutcome, f_runValue, a_slotStates, a_slotArities, a_slotStarts, a_slotSizes, a_kinds, a_firstOperands, a_secondOperands, a_children, a_parents, a_depths, a_pendingNodes, a_summaries, a_nextSummaries, a_nodeTypes, a_paramsAfter, a_params, a_values, a_arguments, a_frameSlots, a_frameNodes⟩ := u
  obtain ⟨f_n, f_cap, f_ana, f_res, f_anyT, f_intsT, f_wp, f_vp, f_made, f_active, f_xp, f_curK, f_rBot, f_rR, f_rE0, f_rE1, a_st, a_ar, a_size, a_bk, a_ba, a_bb, a_ds, a_tab, a_nxt, a_wN, a_wS, a_wF, a_vs, a_frS, a_frP0, a_frP1, a_xN, a_xS, a_xE0, a_xE1, a_xA, a_xB, a_xC, a_xD, a_xE, a_xF, a_xG⟩ := v
  obtain ⟨N, C, U, sz, S, tb, rfl, rfl, rfl, rfl, rfl, rfl, rfl, rfl, rfl, rfl, rfl, ⟨hN1, hN, hC1, hC, hU⟩, hcur, hsum, hs, hbld, htab⟩ := I
  obtain ⟨r0, hr, f1, f2⟩ := sp_fix (rl_sp_ok hs)
  refine xn_analyze hN hs (fun q h1 h2 => (htab.2.2 q h1 h2).1) hr f1 f2 fun SU NX NT PA P s n => ?_
  refine ym_analyze hN hs rfl rfl (fun q h1 h2 => (htab.2.2 q h1 h2).2) hr f1 f2 fun TA NX' s' n' cK xq b r' e0 e1 Z' => ⟨rfl, ?_⟩
  exact ⟨N, C, U, sz, S, sp_T N (rl_K a_bk) (rl_K a_ba) (rl_K a_bb) a_slotStates a_slotArities sz (r0 + 1), rfl, rfl, rfl, rfl, rfl, rfl, rfl, rfl, rfl, rfl, rfl, ⟨hN1, hN, hC1, hC, hU⟩, Or.inr rfl, hsum, hs, hbld,
    sp_T_ok (rl_sp_ok hs) (r0 + 1), fun q hq => ⟨s q hq, s' q hq⟩, fun q h1 h2 => ⟨n q h1 h2, n' q h1 h2⟩⟩
/-- a number held between two bounds -/
def rd_c (p : Int32) (lo hi N : Nat) : Prop := (¬ nI lo ≤ p ∧ N = lo) ∨ (nI lo ≤ p ∧ ¬ p ≤ nI hi ∧ N = hi) ∨ (nI lo ≤ p ∧ p ≤ nI hi ∧ p = nI N)
theorem rd_cex (p : Int32) {lo hi : Nat} (h : lo ≤ hi) (hh : hi < 2 ^ 31) : ∃ N : Nat, rd_c p lo hi N ∧ lo ≤ N ∧ N ≤ hi := by
  by_cases a : nI lo ≤ p
  · by_cases b : p ≤ nI hi
    · obtain ⟨j, hj, rfl⟩ := nI_of (rd_n (by omega) a)
      rw [nI_leI (by omega) hj] at a
      have b' := b
      rw [nI_leI hj hh] at b'
      exact ⟨j, Or.inr (Or.inr ⟨nI_le a hj, b, rfl⟩), a, b'⟩
    · exact ⟨hi, Or.inr (Or.inl ⟨a, b, rfl⟩), h, Nat.le_refl _⟩
  · exact ⟨lo, Or.inl ⟨a, rfl⟩, Nat.le_refl _, h⟩
theorem xd_clamp {Q : Int32 → Prop} {p : Int32} {lo hi N : Nat} (h : rd_c p lo hi N) (H : Q (nI N)) : wpX_clamp Q p (nI lo) (nI hi) := by
  rcases h with ⟨a, rfl⟩ | ⟨a, b, rfl⟩ | ⟨a, b, rfl⟩
  · exact br_f a H
  · exact br_t a (br_f b H)
  · exact br_t a (br_t b H)
theorem rl_sum_0 (sz : Nat → Nat) : ∀ n, rl_sum (fun _ => 0) sz n = 0 := by
  intro n
  induction n with
  | zero => rfl
  | succ n ih => rw [rl_sum_s, ih, if_pos rfl]
section
variable {f_n f_cap f_ana f_res f_anyT f_intsT f_wp f_vp f_made f_active f_xp f_curK f_rBot f_rR f_rE0 f_rE1 : Int32} {a_st a_ar a_size a_bk a_ba a_bb a_ds a_tab a_nxt a_wN a_wS a_wF a_vs a_frS a_frP0 a_frP1 a_xN a_xS a_xE0 a_xE1 a_xA a_xB a_xC a_xD a_xE a_xF a_xG : Nat → Int32}
theorem yd_init9 {post : SY → Prop} {z : Int32} (H : post (f_n, z, f_ana, f_res, ty_y ty_any, ty_y ty_ints, f_wp, f_vp, f_made, f_active, f_xp, f_curK, f_rBot, f_rR, f_rE0, f_rE1, a_st, a_ar, a_size, a_bk, a_ba, a_bb, a_ds, a_tab, a_nxt, a_wN, a_wS, a_wF, a_vs, a_frS, a_frP0, a_frP1, a_xN, a_xS, a_xE0, a_xE1, a_xA, a_xB, a_xC, a_xD, a_xE, a_xF, a_xG)) : wY_init_279 post z f_n f_cap f_ana f_res f_anyT f_intsT f_wp f_vp f_made f_active f_xp f_curK f_rBot f_rR f_rE0 f_rE1 a_st a_ar a_size a_bk a_ba a_bb a_ds a_tab a_nxt a_wN a_wS a_wF a_vs a_frS a_frP0 a_frP1 a_xN a_xS a_xE0 a_xE1 a_xA a_xB a_xC a_xD a_xE a_xF a_xG := by
  unfold wY_init_279
  rw [show (-99 : Int32) = ty_lw 18 by decide, show (99 : Int32) = ty_hw 18 by decide]
  refine yt_mk (m := 255) (by decide) (by decide) (by decide) (by decide) (by decide) ?_
  exact yt_mk (m := 0) (by decide) (by decide) (by decide) (by decide) (by decide) H
end
theorem i_vc0 (k0 : Int32) (k1 : Int32) : wpX_init (fun u => wpY_init (fun v => i_Rel 2 u v) k0 k1) k0 k1 := by
  obtain ⟨N, cN, hN1, hN⟩ := rd_cex k0 (lo := 1) (hi := 8) (by decide) (by decide)
  obtain ⟨C, cC, hC1, hC⟩ := rd_cex k1 (lo := 16) (hi := 128) (by decide) (by decide)
  unfold wpX_init
  refine xd_clamp (lo := 1) (hi := 8) cN (xd_clamp (lo := 16) (hi := 128) cC ?_)
  have fin : i_Rel 2 (nI N, nI C, 0, -1, 0, 0, 0, 0, 0, 0, fun _ => 0, fun _ => 0, fun _ => 0, fun _ => 0, fun _ => 0, fun _ => 0, fun _ => 0, fun _ => 0, fun _ => 0, fun _ => 0, fun _ => 0, fun _ => 0, fun _ => 0, fun _ => 0, fun _ => 0, fun _ => 0, fun _ => 0, fun _ => 0, fun _ => 0, fun _ => 0)
      (nI N, nI C, 0, 0, ty_y ty_any, ty_y ty_ints, 0, 0, 0, 0, 0, 0, 0, 0, 0, 0, fun _ => 0, fun _ => 0, fun _ => 0, fun _ => 0, fun _ => 0, fun _ => 0, fun _ => 0, fun _ => 0, fun _ => 0, fun _ => 0, fun _ => 0, fun _ => 0, fun _ => 0, fun _ => 0, fun _ => 0, fun _ => 0, fun _ => 0, fun _ => 0, fun _ => 0, fun _ => 0, fun _ => 0, fun _ => 0, fun _ => 0, fun _ => 0, fun _ => 0, fun _ => 0, fun _ => 0) :=
    ⟨N, C, 0, fun _ => 0, fun _ => 0, fun _ => ty_0, rfl, rfl, rfl, rfl, rfl, rfl, rfl, rfl, rfl, rfl, rfl, ⟨hN1, hN, hC1, hC, Nat.zero_le _⟩, Or.inl rfl, rl_sum_0 _ N,
      fun f hf => ⟨Or.inl rfl, fun z => absurd rfl z, fun z => absurd (show (0 : Int32) = 2 from z) (by decide)⟩, Or.inl ⟨rfl, rfl, fun f hf z => absurd (show (0 : Int32) = 1 from z) (by decide)⟩,
      fun _ => ty_0_ok, fun q hq => ⟨ty_x_00.symm, ty_y_00.symm⟩, fun q _ _ => ⟨rfl, rfl⟩⟩
  have y250 : ∀ z : Int32, z = nI N → wY_init_250 (fun v => i_Rel 2 (nI N, nI C, 0, -1, 0, 0, 0, 0, 0, 0, fun _ => 0, fun _ => 0, fun _ => 0, fun _ => 0, fun _ => 0, fun _ => 0, fun _ => 0, fun _ => 0, fun _ => 0, fun _ => 0, fun _ => 0, fun _ => 0, fun _ => 0, fun _ => 0, fun _ => 0, fun _ => 0, fun _ => 0, fun _ => 0, fun _ => 0, fun _ => 0) v) k1 z 0 0 0 0 0 0 0 0 0 0 0 0 0 0 0 0 (fun _ => 0) (fun _ => 0) (fun _ => 0) (fun _ => 0) (fun _ => 0) (fun _ => 0) (fun _ => 0) (fun _ => 0) (fun _ => 0) (fun _ => 0) (fun _ => 0) (fun _ => 0) (fun _ => 0) (fun _ => 0) (fun _ => 0) (fun _ => 0) (fun _ => 0) (fun _ => 0) (fun _ => 0) (fun _ => 0) (fun _ => 0) (fun _ => 0) (fun _ => 0) (fun _ => 0) (fun _ => 0) (fun _ => 0) (fun _ => 0) := by
    intro z ez
    subst ez
    rcases cC with ⟨a, rfl⟩ | ⟨a, b, rfl⟩ | ⟨a, b, rfl⟩
    · exact br_f a (yd_init9 fin)
    · exact br_t a (br_f b (yd_init9 fin))
    · exact br_t a (br_t b (yd_init9 fin))
  rcases cN with ⟨a, rfl⟩ | ⟨a, b, rfl⟩ | ⟨a, b, rfl⟩
  · exact br_f a (y250 1 rfl)
  · exact br_t a (br_f b (y250 8 rfl))
  · exact br_t a (br_t b (y250 _ rfl))
end
section
theorem bs_dm_10 (c D : Nat → Nat) (m : Nat) : ∀ {n : Nat}, (∀ j, j < n → D (bs_sc c j m - 1) ≤ 10) → bs_dm c D m n ≤ 10 := by
  intro n
  induction n with
  | zero => intro _; exact Nat.zero_le _
  | succ n ih =>
    intro h
    rw [bs_dm_s]
    have := ih (fun j hj => h j (by omega))
    have := h n (by omega)
    omega
theorem yd_127 {p : Nat} (h : p < 128) : nI p &&& 127 = nI p := by
  rw [pk_andN (by omega) 7 (by decide), Nat.mod_eq_of_lt (by omega)]
section
variable {f_n f_cap f_ana f_res f_anyT f_intsT f_wp f_vp f_made f_active f_xp f_curK f_rBot f_rR f_rE0 f_rE1 : Int32} {a_st a_ar a_size a_bk a_ba a_bb a_ds a_tab a_nxt a_wN a_wS a_wF a_vs a_frS a_frP0 a_frP1 a_xN a_xS a_xE0 a_xE1 a_xA a_xB a_xC a_xD a_xE a_xF a_xG : Nat → Int32} {N U : Nat} {sz S : Nat → Nat} {bk bb pe pa : Nat → Int32}
theorem yd_bldg {Q : Int32 → Prop} {bs pc : Int32} (hN : N ≤ 8) (hbld : rl_bld N U sz S a_st bk bb pe pa bs pc) (H : Q bs) : wpY_building Q (nI N, f_cap, f_ana, f_res, f_anyT, f_intsT, f_wp, f_vp, f_made, f_active, f_xp, f_curK, f_rBot, f_rR, f_rE0, f_rE1, a_st, a_ar, a_size, a_bk, a_ba, a_bb, a_ds, a_tab, a_nxt, a_wN, a_wS, a_wF, a_vs, a_frS, a_frP0, a_frP1, a_xN, a_xS, a_xE0, a_xE1, a_xA, a_xB, a_xC, a_xD, a_xE, a_xF, a_xG) := by
  have loop : ∀ d f fuel, f + d = N → d < fuel → (∀ g, g < f → a_st g ≠ 1) → wY_building_2 Q (nI N) f_cap f_ana f_res f_anyT f_intsT f_wp f_vp f_made f_active f_xp f_curK f_rBot f_rR f_rE0 f_rE1 a_st a_ar a_size a_bk a_ba a_bb a_ds a_tab a_nxt a_wN a_wS a_wF a_vs a_frS a_frP0 a_frP1 a_xN a_xS a_xE0 a_xE1 a_xA a_xB a_xC a_xD a_xE a_xF a_xG fuel (nI f) := by
    intro d
    induction d with
    | zero =>
      intro f fuel h1 h2 h3
      obtain ⟨fuel, rfl⟩ : ∃ m, fuel = m + 1 := ⟨fuel - 1, by omega⟩
      obtain rfl : f = N := by omega
      refine br_t (nI_le (Nat.le_refl _) (by omega)) ?_
      rcases hbld with ⟨e, _⟩ | ⟨b, P, hb, _, _, s1, _⟩
      · rw [e] at H; exact H
      · exact absurd s1 (h3 b hb)
    | succ d ih =>
      intro f fuel h1 h2 h3
      obtain ⟨fuel, rfl⟩ : ∃ m, fuel = m + 1 := ⟨fuel - 1, by omega⟩
      refine br_f (nI_ge (by omega) (by omega)) ⟨vp_in_nI (by omega) (by decide), ?_⟩
      rw [nI_clamp (by omega)]
      by_cases s : a_st f = 1
      · refine br_t s ?_
        rcases hbld with ⟨_, _, e⟩ | ⟨b, P, hb, eb, _, s1, un, _⟩
        · exact absurd s (e f (by omega))
        · obtain rfl : f = b := Classical.byContradiction fun z => un f (by omega) z s
          rw [eb] at H; exact H
      · refine br_f s (nm_r (nI_1 f) (ih (f + 1) fuel (by omega) (by omega) fun g hg => ?_))
        by_cases e : g = f
        · subst e; exact s
        · exact h3 g (by omega)
  exact ⟨N + 1, loop N 0 (N + 1) (by omega) (by omega) (fun g hg => absurd hg (Nat.not_lt_zero g))⟩
end
section
variable {f_n f_cap f_ana f_res f_anyT f_intsT f_wp f_vp f_made f_active f_xp f_curK f_rBot f_rR f_rE0 f_rE1 : Int32} {a_st a_ar a_size a_bk a_ba a_bb a_ds a_tab a_nxt a_wN a_wS a_wF a_vs a_frS a_frP0 a_frP1 a_xN a_xS a_xE0 a_xE1 a_xA a_xB a_xC a_xD a_xE a_xF a_xG : Nat → Int32} {N k z b S : Nat} {kd fo so ch pa dp : Nat → Int32}
theorem yd_60 {post : Int32 → SY → Prop} {J : Int32 → Int32 → (Nat → Int32) → (Nat → Int32) → (Nat → Int32) → (Nat → Int32) → (Nat → Int32) → (Nat → Int32) → (Nat → Int32) → (Nat → Int32) → (Nat → Int32) → (Nat → Int32) → (Nat → Int32) → (Nat → Int32) → (Nat → Int32) → (Nat → Int32) → (Nat → Int32) → (Nat → Int32) → (Nat → Int32) → (Nat → Int32) → (Nat → Int32) → (Nat → Int32) → (Nat → Int32) → (Nat → Int32) → (Nat → Int32) → (Nat → Int32) → (Nat → Int32) → (Nat → Int32) → (Nat → Int32) → Prop}
    {i c : Nat} (hB : rl_body N k z S (rl_K a_bk b) (rl_K a_ba b) (rl_K a_bb b) kd fo so ch pa dp) (hi : i ≤ z) (hi2 : i < 128) (hc : c ≤ bs_pc (rl_c (rl_K a_bk b) (rl_K a_bb b)) i)
    (inv : ∀ j, j < bs_pc (rl_c (rl_K a_bk b) (rl_K a_bb b)) i → a_ds (bs_pc (rl_c (rl_K a_bk b) (rl_K a_bb b)) i - 1 - j) = nI (rl_D S dp (bs_sc (rl_c (rl_K a_bk b) (rl_K a_bb b)) j i - 1)))
    (H : wY_scan_105 post J (nI b) (nI (bs_pc (rl_c (rl_K a_bk b) (rl_K a_bb b)) i - c)) (nI i) (nI (bs_dm (rl_c (rl_K a_bk b) (rl_K a_bb b)) (rl_D S dp) i c)) f_n f_cap f_ana f_res f_anyT f_intsT f_wp f_vp f_made f_active f_xp f_curK f_rBot f_rR f_rE0 f_rE1 a_st a_ar a_size a_bk a_ba a_bb a_ds a_tab a_nxt a_wN a_wS a_wF a_vs a_frS a_frP0 a_frP1 a_xN a_xS a_xE0 a_xE1 a_xA a_xB a_xC a_xD a_xE a_xF a_xG) :
    ∀ r t fuel, t + r = c → r < fuel → wY_scan_60 post J (nI b) (nI i) (nI c) f_n f_cap f_ana f_res f_anyT f_intsT f_wp f_vp f_made f_active f_xp f_curK f_rBot f_rR f_rE0 f_rE1 a_st a_ar a_size a_bk a_ba a_bb a_ds a_tab a_nxt a_wN a_wS a_wF a_vs a_frS a_frP0 a_frP1 a_xN a_xS a_xE0 a_xE1 a_xA a_xB a_xC a_xD a_xE a_xF a_xG fuel (nI (bs_pc (rl_c (rl_K a_bk b) (rl_K a_bb b)) i - t)) (nI (bs_dm (rl_c (rl_K a_bk b) (rl_K a_bb b)) (rl_D S dp) i t)) (nI t) := by
  intro r
  have pl := bs_pc_le (rl_c (rl_K a_bk b) (rl_K a_bb b)) i
  have wf := bs_wf_m hB.2.1.2.2 hi
  have pos := bs_pos wf
  have dle : ∀ j, j < bs_pc (rl_c (rl_K a_bk b) (rl_K a_bb b)) i → rl_D S dp (bs_sc (rl_c (rl_K a_bk b) (rl_K a_bb b)) j i - 1) ≤ 10 := fun j hj => by
    have := pos.1 j hj
    have := bs_sc_le (rl_c (rl_K a_bk b) (rl_K a_bb b)) i j
    exact (rl_D_in hB (show bs_sc (rl_c (rl_K a_bk b) (rl_K a_bb b)) j i - 1 < z by omega)).2
  induction r with
  | zero =>
    intro t fuel h1 h2
    obtain ⟨fuel, rfl⟩ : ∃ m, fuel = m + 1 := ⟨fuel - 1, by omega⟩
    obtain rfl : t = c := by omega
    exact br_t (nI_le (Nat.le_refl _) (by omega)) H
  | succ r ih =>
    intro t fuel h1 h2
    obtain ⟨fuel, rfl⟩ : ∃ m, fuel = m + 1 := ⟨fuel - 1, by omega⟩
    have d1 := dle t (by omega)
    have d2 := bs_dm_10 (rl_c (rl_K a_bk b) (rl_K a_bb b)) (rl_D S dp) i (n := t) (fun j hj => dle j (by omega))
    have hh := ih (t + 1) fuel (by omega) (by omega)
    rw [bs_dm_s] at hh
    refine br_f (nI_ge (by omega) (by omega)) (br_f (nI_nle (by omega) (by omega)) (nm_r (e' := nI (bs_pc (rl_c (rl_K a_bk b) (rl_K a_bb b)) i - (t + 1))) ?_ ?_))
    · rw [show bs_pc (rl_c (rl_K a_bk b) (rl_K a_bb b)) i - t = bs_pc (rl_c (rl_K a_bk b) (rl_K a_bb b)) i - (t + 1) + 1 by omega]; exact pk_m1 _
    · rw [yd_127 (by omega), nI_clamp (by omega), show bs_pc (rl_c (rl_K a_bk b) (rl_K a_bb b)) i - (t + 1) = bs_pc (rl_c (rl_K a_bk b) (rl_K a_bb b)) i - 1 - t by omega, inv t (by omega)]
      rw [show bs_pc (rl_c (rl_K a_bk b) (rl_K a_bb b)) i - (t + 1) = bs_pc (rl_c (rl_K a_bk b) (rl_K a_bb b)) i - 1 - t by omega] at hh
      have w : vp_in (nI (bs_pc (rl_c (rl_K a_bk b) (rl_K a_bb b)) i - 1 - t)) 128 := vp_in_nI (by omega) (by decide)
      refine ⟨w, ?_⟩
      by_cases q : rl_D S dp (bs_sc (rl_c (rl_K a_bk b) (rl_K a_bb b)) t i - 1) ≤ bs_dm (rl_c (rl_K a_bk b) (rl_K a_bb b)) (rl_D S dp) i t
      · rw [Nat.max_eq_left q] at hh
        exact br_t (nI_le q (by omega)) (nm_r (nI_1 t) hh)
      · rw [Nat.max_eq_right (by omega)] at hh
        exact br_f (nI_ge (by omega) (by omega)) ⟨w, nm_e (nm_r (nI_1 t) hh)⟩
theorem yd_scan {Q : Int32 → SY → Prop} (hb : b < 8) (hB : rl_body N k z S (rl_K a_bk b) (rl_K a_ba b) (rl_K a_bb b) kd fo so ch pa dp) (ez : a_size b = nI z)
    (H : ∀ ds : Nat → Int32, (∀ j, j < bs_pc (rl_c (rl_K a_bk b) (rl_K a_bb b)) z → ds (bs_pc (rl_c (rl_K a_bk b) (rl_K a_bb b)) z - 1 - j) = nI (rl_D S dp (bs_sc (rl_c (rl_K a_bk b) (rl_K a_bb b)) j z - 1))) → Q (nI (bs_pc (rl_c (rl_K a_bk b) (rl_K a_bb b)) z)) (f_n, f_cap, f_ana, f_res, f_anyT, f_intsT, f_wp, f_vp, f_made, f_active, f_xp, f_curK, f_rBot, f_rR, f_rE0, f_rE1, a_st, a_ar, a_size, a_bk, a_ba, a_bb, ds, a_tab, a_nxt, a_wN, a_wS, a_wF, a_vs, a_frS, a_frP0, a_frP1, a_xN, a_xS, a_xE0, a_xE1, a_xA, a_xB, a_xC, a_xD, a_xE, a_xF, a_xG)) : wpY_scan Q (f_n, f_cap, f_ana, f_res, f_anyT, f_intsT, f_wp, f_vp, f_made, f_active, f_xp, f_curK, f_rBot, f_rR, f_rE0, f_rE1, a_st, a_ar, a_size, a_bk, a_ba, a_bb, a_ds, a_tab, a_nxt, a_wN, a_wS, a_wF, a_vs, a_frS, a_frP0, a_frP1, a_xN, a_xS, a_xE0, a_xE1, a_xA, a_xB, a_xC, a_xD, a_xE, a_xF, a_xG) (nI b) := by
  have hS := hB.1
  have w : vp_in (nI b) 8 := vp_in_nI hb (by decide)
  have cl : (nI b).toNatClampNeg = b := nI_clamp (by omega)
  have loop : ∀ d i fuel (ds : Nat → Int32), i + d = z → d < fuel → (∀ j, j < bs_pc (rl_c (rl_K a_bk b) (rl_K a_bb b)) i → ds (bs_pc (rl_c (rl_K a_bk b) (rl_K a_bb b)) i - 1 - j) = nI (rl_D S dp (bs_sc (rl_c (rl_K a_bk b) (rl_K a_bb b)) j i - 1))) → wY_scan_4 Q (nI b) f_n f_cap f_ana f_res f_anyT f_intsT f_wp f_vp f_made f_active f_xp f_curK f_rBot f_rR f_rE0 f_rE1 fuel (nI (bs_pc (rl_c (rl_K a_bk b) (rl_K a_bb b)) i)) (nI i) a_st a_ar a_size a_bk a_ba a_bb ds a_tab a_nxt a_wN a_wS a_wF a_vs a_frS a_frP0 a_frP1 a_xN a_xS a_xE0 a_xE1 a_xA a_xB a_xC a_xD a_xE a_xF a_xG := by
    intro d
    induction d with
    | zero =>
      intro i fuel ds h1 h2 inv
      obtain ⟨fuel, rfl⟩ : ∃ m, fuel = m + 1 := ⟨fuel - 1, by omega⟩
      obtain rfl : i = z := by omega
      refine ⟨w, br_t ?_ (H ds inv)⟩
      rw [cl, ez]; exact nI_le (Nat.le_refl _) (by omega)
    | succ d ih =>
      intro i fuel ds h1 h2 inv
      obtain ⟨fuel, rfl⟩ : ∃ m, fuel = m + 1 := ⟨fuel - 1, by omega⟩
      have hi : i < z := by omega
      have pl := bs_pc_le (rl_c (rl_K a_bk b) (rl_K a_bb b)) i
      have cle := hB.2.1.2.2 i hi
      have c3 := ab_c3 hB.2.1 hi
      have wi : vp_in (nI (b * 128 + i)) 1024 := vp_in_nI (by omega) (by decide)
      have ci : (nI (b * 128 + i)).toNatClampNeg = b * 128 + i := nI_clamp (by omega)
      have dl := rl_D_lt hB hi
      have di := rl_D_in hB hi
      refine ⟨w, br_f (by rw [cl, ez]; exact nI_ge hi (by omega)) (br_f (nI_ge (b := 128) (by omega) (by decide)) (nm_r (yk_ix hb (by omega)) ⟨wi, wi, ?_⟩))⟩
      rw [ci]
      refine yt_cc (hB.2.1.1 i hi) ⟨4, ?_⟩
      refine yd_60 (c := (rl_c (rl_K a_bk b) (rl_K a_bb b)) i) hB (by omega) (by omega) cle inv ?_ ((rl_c (rl_K a_bk b) (rl_K a_bb b)) i) 0 4 (by omega) (by omega)
      unfold wY_scan_105
      rw [yd_127 (by omega), nI_clamp (n := bs_pc (rl_c (rl_K a_bk b) (rl_K a_bb b)) i - (rl_c (rl_K a_bk b) (rl_K a_bb b)) i) (by omega), nI_1 (bs_dm (rl_c (rl_K a_bk b) (rl_K a_bb b)) (rl_D S dp) i ((rl_c (rl_K a_bk b) (rl_K a_bb b)) i)), ← dl]
      refine ⟨vp_in_nI (by omega) (by decide), nm_e (nm_r (e' := nI (bs_pc (rl_c (rl_K a_bk b) (rl_K a_bb b)) (i + 1))) (by rw [nI_1, bs_pc_s]) (nm_r (nI_1 i) (ih (i + 1) fuel _ (by omega) (by omega) fun j hj => ?_)))⟩
      rw [bs_pc_s] at hj ⊢
      cases j with
      | zero =>
        rw [bs_sc_0, show bs_pc (rl_c (rl_K a_bk b) (rl_K a_bb b)) i - (rl_c (rl_K a_bk b) (rl_K a_bb b)) i + 1 - 1 - 0 = bs_pc (rl_c (rl_K a_bk b) (rl_K a_bb b)) i - (rl_c (rl_K a_bk b) (rl_K a_bb b)) i by omega, pk_us, show i + 1 - 1 = i by omega]
      | succ j =>
        rw [bs_sc_s, pk_un (by omega), show bs_pc (rl_c (rl_K a_bk b) (rl_K a_bb b)) i - (rl_c (rl_K a_bk b) (rl_K a_bb b)) i + 1 - 1 - (j + 1) = bs_pc (rl_c (rl_K a_bk b) (rl_K a_bb b)) i - 1 - (j + (rl_c (rl_K a_bk b) (rl_K a_bb b)) i) by omega]
        exact inv (j + (rl_c (rl_K a_bk b) (rl_K a_bb b)) i) (by omega)
  exact ⟨z + 1, loop z 0 (z + 1) a_ds (by omega) (by omega) (fun j hj => absurd hj (Nat.not_lt_zero j))⟩
end
theorem i_vc_building {k : Nat} {u : SX} {v : SY} (I : i_Rel k u v) (hk : k + 4 ≤ 2050) : wpX_building (fun r => wpY_building (fun r' => r' = r ∧ i_Rel (k + 4) u v) v) u := by
  have J := I
  obtain ⟨f_slotCount, f_capacity, f_nodesUsed, f_buildingSlot, f_pendingCount, f_summariesCurrent, f_callsActive, f_callsMade, f_runOutcome, f_runValue, a_slotStates, a_slotArities, a_slotStarts, a_slotSizes, a_kinds, a_firstOperands, a_secondOperands, a_children, a_parents, a_depths, a_pendingNodes, a_summaries, a_nextSummaries, a_nodeTypes, a_paramsAfter, a_params, a_values, a_arguments, a_frameSlots, a_frameNodes⟩ := u
  obtain ⟨f_n, f_cap, f_ana, f_res, f_anyT, f_intsT, f_wp, f_vp, f_made, f_active, f_xp, f_curK, f_rBot, f_rR, f_rE0, f_rE1, a_st, a_ar, a_size, a_bk, a_ba, a_bb, a_ds, a_tab, a_nxt, a_wN, a_wS, a_wF, a_vs, a_frS, a_frP0, a_frP1, a_xN, a_xS, a_xE0, a_xE1, a_xA, a_xB, a_xC, a_xD, a_xE, a_xF, a_xG⟩ := v
  obtain ⟨N, C, U, sz, S, tb, rfl, rfl, rfl, rfl, rfl, rfl, rfl, rfl, rfl, rfl, rfl, ⟨hN1, hN, hC1, hC, hU⟩, hcur, hsum, hs, hbld, htab⟩ := I
  exact yd_bldg hN hbld ⟨rfl, J⟩
theorem i_vc_pending {k : Nat} {u : SX} {v : SY} (I : i_Rel k u v) (hk : k + 4 ≤ 2050) : wpX_pending (fun r => wpY_pending (fun r' v' => r' = r ∧ i_Rel (k + 4) u v') v) u := by
  have J := I
  obtain ⟨f_slotCount, f_capacity, f_nodesUsed, f_buildingSlot, f_pendingCount, f_summariesCurrent, f_callsActive, f_callsMade, f_runOutcome, f_runValue, a_slotStates, a_slotArities, a_slotStarts, a_slotSizes, a_kinds, a_firstOperands, a_secondOperands, a_children, a_parents, a_depths, a_pendingNodes, a_summaries, a_nextSummaries, a_nodeTypes, a_paramsAfter, a_params, a_values, a_arguments, a_frameSlots, a_frameNodes⟩ := u
  obtain ⟨f_n, f_cap, f_ana, f_res, f_anyT, f_intsT, f_wp, f_vp, f_made, f_active, f_xp, f_curK, f_rBot, f_rR, f_rE0, f_rE1, a_st, a_ar, a_size, a_bk, a_ba, a_bb, a_ds, a_tab, a_nxt, a_wN, a_wS, a_wF, a_vs, a_frS, a_frP0, a_frP1, a_xN, a_xS, a_xE0, a_xE1, a_xA, a_xB, a_xC, a_xD, a_xE, a_xF, a_xG⟩ := v
  obtain ⟨N, C, U, sz, S, tb, rfl, rfl, rfl, rfl, rfl, rfl, rfl, rfl, rfl, rfl, rfl, ⟨hN1, hN, hC1, hC, hU⟩, hcur, hsum, hs, hbld, htab⟩ := I
  unfold wpX_pending wpY_pending
  refine yd_bldg hN hbld ?_
  have hb0 := hbld
  rcases hbld with ⟨rfl, rfl, _⟩ | ⟨b, P, hb, rfl, rfl, s1, un, eU, lo, eP, pp⟩
  · exact br_f (by decide) ⟨rfl, J⟩
  · obtain ⟨e1, e2, e3, e4, kk, hkk, ekk, hB⟩ := (hs b hb).2.1 (by rw [s1]; decide)
    refine br_t (nI_pos' (by omega)) (yd_scan (by omega) hB e2 fun ds _ => ⟨by rw [eP], ?_⟩)
    exact ⟨N, C, U, sz, S, tb, rfl, rfl, rfl, rfl, rfl, rfl, rfl, rfl, rfl, rfl, rfl, ⟨hN1, hN, hC1, hC, hU⟩, hcur, hsum, hs, hb0, htab⟩
end
section
/-- a beginning that is taken -/
def bg_ok (N : Nat) (st : Nat → Int32) (bs v1 v2 : Int32) : Prop := ∃ f a : Nat, bs = -1 ∧ f < N ∧ a < 3 ∧ v1 = nI f ∧ v2 = nI a ∧ st f = 0
section
variable {f_slotCount f_capacity f_nodesUsed f_buildingSlot f_pendingCount f_summariesCurrent f_callsActive f_callsMade f_runOutcome f_runValue : Int32} {a_slotStates a_slotArities a_slotStarts a_slotSizes a_kinds a_firstOperands a_secondOperands a_children a_parents a_depths a_pendingNodes a_summaries a_nextSummaries a_nodeTypes a_paramsAfter a_params a_values a_arguments a_frameSlots a_frameNodes : Nat → Int32} {N : Nat} {v1 v2 : Int32}
theorem xe_begin {Q : Int32 → SX → Prop} (hN : N ≤ 8) (H1 : ∀ f a : Nat, f_buildingSlot = -1 → f < N → a < 3 → v1 = nI f → v2 = nI a → a_slotStates f = 0 → Q 1 (nI N, f_capacity, f_nodesUsed, nI f, f_pendingCount, f_summariesCurrent, f_callsActive, f_callsMade, f_runOutcome, f_runValue, upd a_slotStates f 1, upd a_slotArities f (nI a), upd a_slotStarts f f_nodesUsed, upd a_slotSizes f 0, a_kinds, a_firstOperands, a_secondOperands, a_children, a_parents, a_depths, a_pendingNodes, a_summaries, a_nextSummaries, a_nodeTypes, a_paramsAfter, a_params, a_values, a_arguments, a_frameSlots, a_frameNodes))
    (H0 : ¬ bg_ok N a_slotStates f_buildingSlot v1 v2 → Q 0 (nI N, f_capacity, f_nodesUsed, f_buildingSlot, f_pendingCount, f_summariesCurrent, f_callsActive, f_callsMade, f_runOutcome, f_runValue, a_slotStates, a_slotArities, a_slotStarts, a_slotSizes, a_kinds, a_firstOperands, a_secondOperands, a_children, a_parents, a_depths, a_pendingNodes, a_summaries, a_nextSummaries, a_nodeTypes, a_paramsAfter, a_params, a_values, a_arguments, a_frameSlots, a_frameNodes)) : wpX_begin Q (nI N, f_capacity, f_nodesUsed, f_buildingSlot, f_pendingCount, f_summariesCurrent, f_callsActive, f_callsMade, f_runOutcome, f_runValue, a_slotStates, a_slotArities, a_slotStarts, a_slotSizes, a_kinds, a_firstOperands, a_secondOperands, a_children, a_parents, a_depths, a_pendingNodes, a_summaries, a_nextSummaries, a_nodeTypes, a_paramsAfter, a_params, a_values, a_arguments, a_frameSlots, a_frameNodes) v1 v2 := by
  unfold wpX_begin
  dsimp only
  by_cases bm : f_buildingSlot = -1
  · refine br_t bm (xd_slot hN (fun f hf e => br_f (by decide) ?_) (fun no => br_t rfl (H0 ?_)))
    · subst e
      have w : vp_in (nI f) 8 := vp_in_nI (by omega) (by decide)
      have cl : (nI f).toNatClampNeg = f := nI_clamp (by omega)
      rw [cl]
      refine ⟨w, ?_⟩
      by_cases z : a_slotStates f = 0
      · refine br_t z ?_
        rcases pk_ix v2 (n := 3) (by decide) with h | h | ⟨a, ha, rfl⟩
        · refine br_t h (H0 ?_)
          rintro ⟨f', a', _, hf', ha', e1, rfl, z'⟩
          exact nI_pos (by omega) h
        · refine br_f (rd_3 h).2.1 (br_f (rd_3 h).2.2 (H0 ?_))
          rintro ⟨f', a', _, hf', ha', e1, rfl, z'⟩
          exact nI_ge ha' (by omega) h
        · exact br_f (nI_pos (by omega)) (br_t (nI_le (a := a) (b := 2) (by omega) (by decide)) ⟨w, nm_e ⟨w, nm_e ⟨w, nm_e ⟨w, nm_e (H1 f a bm hf ha rfl rfl z)⟩⟩⟩⟩)
      · refine br_f z (H0 ?_)
        rintro ⟨f', a', _, hf', ha', e1, e2, z'⟩
        rw [nI_eq (by omega) (by omega)] at e1
        subst e1
        exact z z'
    · rintro ⟨f', a', _, hf', ha', e1, e2, z'⟩
      exact no ⟨f', hf', e1⟩
  · refine br_f bm (H0 ?_)
    rintro ⟨f', a', e, _⟩
    exact bm e
end
section
variable {f_n f_cap f_ana f_res f_anyT f_intsT f_wp f_vp f_made f_active f_xp f_curK f_rBot f_rR f_rE0 f_rE1 : Int32} {a_st a_ar a_size a_bk a_ba a_bb a_ds a_tab a_nxt a_wN a_wS a_wF a_vs a_frS a_frP0 a_frP1 a_xN a_xS a_xE0 a_xE1 a_xA a_xB a_xC a_xD a_xE a_xF a_xG : Nat → Int32} {N U : Nat} {v1 v2 bs pc : Int32} {sz S : Nat → Nat} {bk bb pe pa : Nat → Int32}
theorem ye_begin {Q : Int32 → SY → Prop} (hN : N ≤ 8) (hbld : rl_bld N U sz S a_st bk bb pe pa bs pc) (H1 : ∀ f a : Nat, bs = -1 → f < N → a < 3 → v1 = nI f → v2 = nI a → a_st f = 0 → Q 1 (nI N, f_cap, f_ana, f_res, f_anyT, f_intsT, f_wp, f_vp, f_made, f_active, f_xp, f_curK, f_rBot, f_rR, f_rE0, f_rE1, upd a_st f 1, upd a_ar f (nI a), upd a_size f 0, a_bk, a_ba, a_bb, a_ds, a_tab, a_nxt, a_wN, a_wS, a_wF, a_vs, a_frS, a_frP0, a_frP1, a_xN, a_xS, a_xE0, a_xE1, a_xA, a_xB, a_xC, a_xD, a_xE, a_xF, a_xG))
    (H0 : ¬ bg_ok N a_st bs v1 v2 → Q 0 (nI N, f_cap, f_ana, f_res, f_anyT, f_intsT, f_wp, f_vp, f_made, f_active, f_xp, f_curK, f_rBot, f_rR, f_rE0, f_rE1, a_st, a_ar, a_size, a_bk, a_ba, a_bb, a_ds, a_tab, a_nxt, a_wN, a_wS, a_wF, a_vs, a_frS, a_frP0, a_frP1, a_xN, a_xS, a_xE0, a_xE1, a_xA, a_xB, a_xC, a_xD, a_xE, a_xF, a_xG)) : wpY_begin Q (nI N, f_cap, f_ana, f_res, f_anyT, f_intsT, f_wp, f_vp, f_made, f_active, f_xp, f_curK, f_rBot, f_rR, f_rE0, f_rE1, a_st, a_ar, a_size, a_bk, a_ba, a_bb, a_ds, a_tab, a_nxt, a_wN, a_wS, a_wF, a_vs, a_frS, a_frP0, a_frP1, a_xN, a_xS, a_xE0, a_xE1, a_xA, a_xB, a_xC, a_xD, a_xE, a_xF, a_xG) v1 v2 := by
  unfold wpY_begin
  dsimp only
  refine yd_bldg hN hbld ?_
  by_cases bm : bs = -1
  · refine br_t (by rw [bm]; decide) ?_
    rcases pk_ix v1 (n := N) (by omega) with h | h | ⟨f, hf, rfl⟩
    · refine br_t h (H0 ?_)
      rintro ⟨f', a', _, hf', ha', rfl, e2, z'⟩
      exact nI_pos (by omega) h
    · refine br_f (rd_n (by omega) h) (br_f (Int32.not_lt.mpr h) (H0 ?_))
      rintro ⟨f', a', _, hf', ha', rfl, e2, z'⟩
      exact nI_ge hf' (by omega) h
    · have w : vp_in (nI f) 8 := vp_in_nI (by omega) (by decide)
      have cl : (nI f).toNatClampNeg = f := nI_clamp (by omega)
      rw [cl]
      refine br_f (nI_pos (by omega)) (br_t (nI_lt hf (by omega)) ⟨w, ?_⟩)
      by_cases z : a_st f = 0
      · refine br_t z ?_
        rcases pk_ix v2 (n := 3) (by decide) with h | h | ⟨a, ha, rfl⟩
        · refine br_t h (H0 ?_)
          rintro ⟨f', a', _, hf', ha', e1, rfl, z'⟩
          exact nI_pos (by omega) h
        · refine br_f (rd_3 h).2.1 (br_f (rd_3 h).2.2 (H0 ?_))
          rintro ⟨f', a', _, hf', ha', e1, rfl, z'⟩
          exact nI_ge ha' (by omega) h
        · exact br_f (nI_pos (by omega)) (br_t (nI_le (a := a) (b := 2) (by omega) (by decide)) ⟨w, nm_e ⟨w, nm_e ⟨w, nm_e (H1 f a bm hf ha rfl rfl z)⟩⟩⟩)
      · refine br_f z (H0 ?_)
        rintro ⟨f', a', _, hf', ha', e1, e2, z'⟩
        rw [nI_eq (by omega) (by omega)] at e1
        subst e1
        exact z z'
  · have nn : ¬ bs < 0 := by
      rcases hbld with ⟨e, _⟩ | ⟨b, P, hb, eb, _⟩
      · exact absurd e bm
      · rw [eb]; exact nI_pos (by omega)
    refine br_f nn (H0 ?_)
    rintro ⟨f', a', e, _⟩
    exact bm e
end
/-- a slot that isn't the one changed -/
theorem rl_slot_un {N U U' f g z S : Nat} {st st' ar ar' szX szX' szY szY' sX sX' bk ba bb kd fo so ch pa dp : Nat → Int32} (h : rl_slot N U g z S st ar szX szY sX bk ba bb kd fo so ch pa dp) (hg : g ≠ f)
    (e1 : st' g = st g) (e2 : ar' g = ar g) (e3 : szX' g = szX g) (e4 : szY' g = szY g) (e5 : sX' g = sX g) (hU : st g ≠ 0 → S + z ≤ U') : rl_slot N U' g z S st' ar' szX' szY' sX' bk ba bb kd fo so ch pa dp := by
  obtain ⟨h1, h2, h3⟩ := h
  refine ⟨by rw [e1]; exact h1, fun n => ?_, fun n => ?_⟩
  · rw [e1] at n
    obtain ⟨q1, q2, q3, q4, k, hk, ek, hB⟩ := h2 n
    exact ⟨e3.trans q1, e4.trans q2, e5.trans q3, hU n, k, hk, e2.trans ek, hB⟩
  · rw [e1] at n
    exact h3 n
def bg_upd (F : Nat → Nat) (f x : Nat) : Nat → Nat := fun g => if g = f then x else F g
theorem bg_us {F : Nat → Nat} {f x : Nat} : bg_upd F f x f = x := if_pos rfl
theorem bg_un {F : Nat → Nat} {f x g : Nat} (h : g ≠ f) : bg_upd F f x g = F g := if_neg h
theorem i_vc_begin {k : Nat} {u : SX} {v : SY} (I : i_Rel k u v) (hk : k + 4 ≤ 2050) (v1 : Int32) (v2 : Int32) : wpX_begin (fun r u' => wpY_begin (fun r' v' => r' = r ∧ i_Rel (k + 4) u' v') v v1 v2) u v1 v2 := by
  have J := I
  obtain ⟨f_slotCount, f_capacity, f_nodesUsed, f_buildingSlot, f_pendingCount, f_summariesCurrent, f_callsActive, f_callsMade, f_runOutcome, f_runValue, a_slotStates, a_slotArities, a_slotStarts, a_slotSizes, a_kinds, a_firstOperands, a_secondOperands, a_children, a_parents, a_depths, a_pendingNodes, a_summaries, a_nextSummaries, a_nodeTypes, a_paramsAfter, a_params, a_values, a_arguments, a_frameSlots, a_frameNodes⟩ := u
  obtain ⟨f_n, f_cap, f_ana, f_res, f_anyT, f_intsT, f_wp, f_vp, f_made, f_active, f_xp, f_curK, f_rBot, f_rR, f_rE0, f_rE1, a_st, a_ar, a_size, a_bk, a_ba, a_bb, a_ds, a_tab, a_nxt, a_wN, a_wS, a_wF, a_vs, a_frS, a_frP0, a_frP1, a_xN, a_xS, a_xE0, a_xE1, a_xA, a_xB, a_xC, a_xD, a_xE, a_xF, a_xG⟩ := v
  obtain ⟨N, C, U, sz, S, tb, rfl, rfl, rfl, rfl, rfl, rfl, rfl, rfl, rfl, rfl, rfl, ⟨hN1, hN, hC1, hC, hU⟩, hcur, hsum, hs, hbld, htab⟩ := I
  refine xe_begin hN (fun f a bm hf ha e1 e2 z => ?_) (fun no => ye_begin hN hbld (fun f a bm hf ha e1 e2 z => absurd ⟨f, a, bm, hf, ha, e1, e2, z⟩ no) (fun _ => ⟨rfl, J⟩))
  refine ye_begin hN hbld (fun f' a' bm' hf' ha' e1' e2' z' => ⟨rfl, ?_⟩) (fun no => absurd ⟨f, a, bm, hf, ha, e1, e2, z⟩ no)
  obtain rfl : f' = f := by rw [e1, nI_eq (by omega) (by omega)] at e1'; exact e1'.symm
  obtain rfl : a' = a := by rw [e2, nI_eq (by omega) (by omega)] at e2'; exact e2'.symm
  obtain ⟨_, pz, nob⟩ : f_buildingSlot = -1 ∧ f_pendingCount = 0 ∧ ∀ f, f < N → a_slotStates f ≠ 1 := by
    rcases hbld with h | ⟨b, P, hb, eb, _⟩
    · exact h
    · rw [eb] at bm
      have := nI_pos' (n := b) (by omega)
      rw [bm] at this
      exact absurd this (by decide)
  have e1n : ¬ (1 : Int32) = 0 := by decide
  refine ⟨N, C, U, bg_upd sz f' 0, bg_upd S f' U, tb, rfl, rfl, rfl, rfl, rfl, rfl, rfl, rfl, rfl, rfl, rfl, ⟨hN1, hN, hC1, hC, hU⟩, hcur, ?_, ?_, ?_, htab⟩
  · have q := rl_sum_upd (st := a_slotStates) (st' := upd a_slotStates f' 1) (sz := sz) (sz' := bg_upd sz f' 0) (b := f') (fun g hg => ⟨pk_un hg, bg_un hg⟩) N hf
    rw [if_pos z, pk_us, if_neg e1n, bg_us] at q
    omega
  · intro g hg
    by_cases e : g = f'
    · subst e
      rw [bg_us, bg_us]
      refine ⟨Or.inr (Or.inl pk_us), fun _ => ⟨pk_us, pk_us, pk_us, Nat.le_refl _, a', by omega, pk_us, by omega, ⟨fun i hi => absurd hi (Nat.not_lt_zero i), fun i => rfl, fun i hi => absurd hi (Nat.not_lt_zero i)⟩, fun i hi => absurd hi (Nat.not_lt_zero i)⟩, fun n => ?_⟩
      rw [pk_us] at n
      exact absurd n (by decide)
    · rw [bg_un e, bg_un e]
      exact rl_slot_un (hs g hg) e (pk_un e) (pk_un e) (pk_un e) (pk_un e) (pk_un e) (fun n => ((hs g hg).2.1 n).2.2.2.1)
  · refine Or.inr ⟨f', 0, hf, rfl, pz.trans nI_0.symm, pk_us, fun g hg e => ?_, ?_, fun g hg s2 => ?_, by rw [bg_us]; rfl, fun q hq => absurd hq (Nat.not_lt_zero q)⟩
    · rw [pk_un e]; exact nob g hg
    · rw [bg_us, bg_us]; rfl
    · have e : g ≠ f' := fun e => by
        rw [e, pk_us] at s2
        exact absurd s2 (by decide)
      rw [bg_un e, bg_un e, bg_us]
      rw [pk_un e] at s2
      exact ((hs g hg).2.1 (by rw [s2]; decide)).2.2.2.1
theorem i_vc_end {k : Nat} {u : SX} {v : SY} (I : i_Rel k u v) (hk : k + 4 ≤ 2050) : wpX_end (fun r u' => wpY_end (fun r' v' => r' = r ∧ i_Rel (k + 4) u' v') v) u := by
  have J := I
  obtain ⟨f_slotCount, f_capacity, f_nodesUsed, f_buildingSlot, f_pendingCount, f_summariesCurrent, f_callsActive, f_callsMade, f_runOutcome, f_runValue, a_slotStates, a_slotArities, a_slotStarts, a_slotSizes, a_kinds, a_firstOperands, a_secondOperands, a_children, a_parents, a_depths, a_pendingNodes, a_summaries, a_nextSummaries, a_nodeTypes, a_paramsAfter, a_params, a_values, a_arguments, a_frameSlots, a_frameNodes⟩ := u
  obtain ⟨f_n, f_cap, f_ana, f_res, f_anyT, f_intsT, f_wp, f_vp, f_made, f_active, f_xp, f_curK, f_rBot, f_rR, f_rE0, f_rE1, a_st, a_ar, a_size, a_bk, a_ba, a_bb, a_ds, a_tab, a_nxt, a_wN, a_wS, a_wF, a_vs, a_frS, a_frP0, a_frP1, a_xN, a_xS, a_xE0, a_xE1, a_xA, a_xB, a_xC, a_xD, a_xE, a_xF, a_xG⟩ := v
  obtain ⟨N, C, U, sz, S, tb, rfl, rfl, rfl, rfl, rfl, rfl, rfl, rfl, rfl, rfl, rfl, ⟨hN1, hN, hC1, hC, hU⟩, hcur, hsum, hs, hbld, htab⟩ := I
  have hb0 := hbld
  unfold wpX_end wpY_end
  rcases hbld with ⟨rfl, rfl, _⟩ | ⟨b, P, hb, rfl, rfl, s1, un, eU, lo, eP, pp⟩
  · exact br_t rfl (yd_bldg hN hb0 (br_f (by decide) ⟨rfl, J⟩))
  · obtain ⟨e1, e2, e3, e4, kk, hkk, ekk, hB⟩ := (hs b hb).2.1 (by rw [s1]; decide)
    have hS := hB.1
    have w : vp_in (nI b) 8 := vp_in_nI (by omega) (by decide)
    have cl : (nI b).toNatClampNeg = b := nI_clamp (by omega)
    have pl := bs_pc_le (rl_c (rl_K a_bk b) (rl_K a_bb b)) (sz b)
    have nb : ¬ nI b = -1 := fun z => by
      have := nI_pos' (n := b) (by omega)
      rw [z] at this
      exact absurd this (by decide)
    refine br_f nb ?_
    by_cases p1 : P = 1
    · subst p1
      have z0 : 0 < sz b := by
        refine Nat.pos_of_ne_zero fun z => ?_
        rw [z] at eP
        exact absurd (show (1 : Nat) = 0 from eP) (by decide)
      refine br_t rfl (br_f (by decide) ⟨w, nm_r (e' := upd a_slotStates b 2) (by rw [cl]) ?_⟩)
      refine yd_bldg hN hb0 (br_t (nI_pos' (by omega)) (yd_scan (by omega) hB e2 fun ds _ => ?_))
      rw [← eP]
      refine br_t rfl ⟨w, nm_r (e' := upd a_slotStates b 2) (by rw [cl]) ⟨rfl, ?_⟩⟩
      refine ⟨N, C, U, sz, S, tb, rfl, rfl, rfl, rfl, rfl, rfl, rfl, rfl, rfl, rfl, rfl, ⟨hN1, hN, hC1, hC, hU⟩, Or.inl rfl, ?_, ?_, Or.inl ⟨rfl, rfl, fun g hg => ?_⟩, htab⟩
      · have q := rl_sum_upd (st := a_slotStates) (st' := upd a_slotStates b 2) (sz := sz) (sz' := sz) (b := b) (fun g hg => ⟨pk_un hg, rfl⟩) N hb
        rw [if_neg (by rw [s1]; decide), pk_us, if_neg (by decide)] at q
        omega
      · intro g hg
        by_cases e : g = b
        · subst e
          refine ⟨Or.inr (Or.inr pk_us), fun _ => ⟨e1, e2, e3, e4, kk, hkk, ekk, hB⟩, fun _ => ⟨z0, eP.symm, ?_⟩⟩
          have := (pp 0 (by omega)).2
          rw [bs_sc_0] at this
          exact this
        · exact rl_slot_un (hs g hg) e (pk_un e) rfl rfl rfl rfl (fun n => ((hs g hg).2.1 n).2.2.2.1)
      · by_cases e : g = b
        · subst e; rw [pk_us]; decide
        · rw [pk_un e]; exact un g hg e
    · have np : ¬ nI P = 1 := fun z => p1 (by rw [show (1 : Int32) = nI 1 by decide, nI_eq (by omega) (by omega)] at z; exact z)
      refine br_f np (br_t rfl ⟨w, nm_r (e' := upd a_slotStates b 0) (by rw [cl]) ⟨w, nm_r (e' := nI (S b)) (by rw [cl]; exact e3) ?_⟩⟩)
      refine yd_bldg hN hb0 (br_t (nI_pos' (by omega)) (yd_scan (by omega) hB e2 fun ds _ => ?_))
      rw [← eP]
      refine br_f np ⟨w, nm_r (e' := upd a_size b 0) (by rw [cl]) ⟨w, nm_r (e' := upd a_slotStates b 0) (by rw [cl]) ⟨rfl, ?_⟩⟩⟩
      refine ⟨N, C, S b, sz, S, tb, rfl, rfl, rfl, rfl, rfl, rfl, rfl, rfl, rfl, rfl, rfl, ⟨hN1, hN, hC1, hC, by omega⟩, hcur, ?_, ?_, Or.inl ⟨rfl, rfl, fun g hg => ?_⟩, htab⟩
      · have q := rl_sum_upd (st := a_slotStates) (st' := upd a_slotStates b 0) (sz := sz) (sz' := sz) (b := b) (fun g hg => ⟨pk_un hg, rfl⟩) N hb
        rw [if_neg (by rw [s1]; decide), pk_us, if_pos rfl] at q
        omega
      · intro g hg
        by_cases e : g = b
        · subst e
          refine ⟨Or.inl pk_us, fun n => absurd pk_us n, fun n => ?_⟩
          rw [pk_us] at n
          exact absurd n (by decide)
        · refine rl_slot_un (hs g hg) e (pk_un e) rfl rfl (pk_un e) rfl (fun n => lo g hg ?_)
          rcases (hs g hg).1 with q | q | q
          · exact absurd q n
          · exact absurd q (un g hg e)
          · exact q
      · by_cases e : g = b
        · subst e; rw [pk_us]; decide
        · rw [pk_un e]; exact un g hg e
end
section
/-- the operands as they are stored -/
def nd_a (κ a : Int32) : Int32 := if κ = 0 ∨ κ = 1 ∨ κ = 2 ∨ κ = 9 then a else 0
def nd_b (κ b : Int32) : Int32 := if κ = 9 then b else 0
def nd_fit (N k : Nat) (κ a b : Int32) : Prop := bd_nd N k κ (nd_a κ a) (nd_b κ b)
theorem nd_w0 : ∃ w : Nat, w ≤ 2 ∧ (0 : Int32) = nI w := ⟨0, by decide, by decide⟩
theorem nd_mid {N k q : Nat} {a b : Int32} (h1 : 2 < q) (h2 : q < 9) : nd_fit N k (nI q) a b := by
  have h : q = 3 ∨ q = 4 ∨ q = 5 ∨ q = 6 ∨ q = 7 ∨ q = 8 := by omega
  unfold nd_fit nd_a nd_b
  rcases h with rfl | rfl | rfl | rfl | rfl | rfl <;>
    exact ⟨⟨_, by decide, rfl⟩, fun z => absurd z (by decide), fun z => absurd z (by decide), fun z => absurd z (by decide), fun z => absurd z (by decide), by rw [if_neg (by decide)]; exact nd_w0, fun _ => by rw [if_neg (by decide)]⟩
theorem nd_0 {N k : Nat} {a b : Int32} : nd_fit N k 0 a b ↔ (-99 ≤ a.toInt ∧ a.toInt ≤ 99) := by
  unfold nd_fit nd_a nd_b
  rw [if_pos (Or.inl rfl), if_neg (by decide)]
  exact ⟨fun h => h.2.1 rfl, fun h => ⟨⟨0, by decide, by decide⟩, fun _ => h, fun z => absurd z (by decide), fun z => absurd z (by decide), fun z => absurd z (by decide), nd_w0, fun _ => rfl⟩⟩
theorem nd_1 {N k : Nat} {a b : Int32} : nd_fit N k 1 a b ↔ ∃ j : Nat, j < 8 ∧ a = nI j := by
  unfold nd_fit nd_a nd_b
  rw [if_pos (Or.inr (Or.inl rfl)), if_neg (by decide)]
  exact ⟨fun h => h.2.2.1 rfl, fun h => ⟨⟨1, by decide, by decide⟩, fun z => absurd z (by decide), fun _ => h, fun z => absurd z (by decide), fun z => absurd z (by decide), nd_w0, fun _ => rfl⟩⟩
theorem nd_2 {N k : Nat} {a b : Int32} : nd_fit N k 2 a b ↔ ∃ j : Nat, j < k ∧ a = nI j := by
  unfold nd_fit nd_a nd_b
  rw [if_pos (Or.inr (Or.inr (Or.inl rfl))), if_neg (by decide)]
  exact ⟨fun h => h.2.2.2.1 rfl, fun h => ⟨⟨2, by decide, by decide⟩, fun z => absurd z (by decide), fun z => absurd z (by decide), fun _ => h, fun z => absurd z (by decide), nd_w0, fun _ => rfl⟩⟩
theorem nd_9 {N k : Nat} {a b : Int32} : nd_fit N k 9 a b ↔ (∃ g : Nat, g < N ∧ a = nI g) ∧ ∃ w : Nat, w ≤ 2 ∧ b = nI w := by
  unfold nd_fit nd_a nd_b
  rw [if_pos (Or.inr (Or.inr (Or.inr rfl))), if_pos rfl]
  exact ⟨fun h => ⟨h.2.2.2.2.1 rfl, h.2.2.2.2.2.1⟩, fun h => ⟨⟨9, by decide, by decide⟩, fun z => absurd z (by decide), fun z => absurd z (by decide), fun z => absurd z (by decide), fun _ => h.1, h.2, fun z => absurd rfl z⟩⟩
theorem nd_k {N k : Nat} {κ a b : Int32} (h : nd_fit N k κ a b) : ∃ q : Nat, q < 10 ∧ κ = nI q := by
  obtain ⟨⟨q, hq, e⟩, _⟩ := h
  exact ⟨q, by omega, e⟩
theorem rd_10 {v : Int32} (h : nI 10 ≤ v) : 9 < v ∧ ¬ v < 0 ∧ ¬ v ≤ 9 := by
  rw [Int32.le_iff_toInt_le, nI_toInt (by decide)] at h
  refine ⟨?_, ?_, ?_⟩
  · rw [Int32.lt_iff_toInt_lt, show (9 : Int32).toInt = 9 by decide]; omega
  · rw [Int32.lt_iff_toInt_lt, show (0 : Int32).toInt = 0 by decide]; omega
  · rw [Int32.le_iff_toInt_le, show (9 : Int32).toInt = 9 by decide]; omega
theorem rd_8 {v : Int32} (h : nI 8 ≤ v) : 7 < v ∧ ¬ v < 0 ∧ ¬ v ≤ 7 := by
  rw [Int32.le_iff_toInt_le, nI_toInt (by decide)] at h
  refine ⟨?_, ?_, ?_⟩
  · rw [Int32.lt_iff_toInt_lt, show (7 : Int32).toInt = 7 by decide]; omega
  · rw [Int32.lt_iff_toInt_lt, show (0 : Int32).toInt = 0 by decide]; omega
  · rw [Int32.le_iff_toInt_le, show (7 : Int32).toInt = 7 by decide]; omega
section
variable {f_slotCount f_capacity f_nodesUsed f_buildingSlot f_pendingCount f_summariesCurrent f_callsActive f_callsMade f_runOutcome f_runValue : Int32} {a_slotStates a_slotArities a_slotStarts a_slotSizes a_kinds a_firstOperands a_secondOperands a_children a_parents a_depths a_pendingNodes a_summaries a_nextSummaries a_nodeTypes a_paramsAfter a_params a_values a_arguments a_frameSlots a_frameNodes : Nat → Int32} {N k b : Nat} {κ a c : Int32}
theorem xn_fit {A0 A1 : Prop} (hN : N ≤ 8) (hb : b < N) (hk : k ≤ 2) (ek : a_slotArities b = nI k) (H1 : nd_fit N k κ a c → A1) (H0 : ¬ nd_fit N k κ a c → A0) :
    wpX_isKind (fun r => ((r = 0 → A0) ∧ (¬ r = 0 → wpX_operandsFit (fun r' => ((r' = 0 → A0) ∧ (¬ r' = 0 → A1))) (nI N, f_capacity, f_nodesUsed, nI b, f_pendingCount, f_summariesCurrent, f_callsActive, f_callsMade, f_runOutcome, f_runValue, a_slotStates, a_slotArities, a_slotStarts, a_slotSizes, a_kinds, a_firstOperands, a_secondOperands, a_children, a_parents, a_depths, a_pendingNodes, a_summaries, a_nextSummaries, a_nodeTypes, a_paramsAfter, a_params, a_values, a_arguments, a_frameSlots, a_frameNodes) κ a c))) κ := by
  have w : vp_in (nI b) 8 := vp_in_nI (by omega) (by decide)
  have cl : (nI b).toNatClampNeg = b := nI_clamp (by omega)
  unfold wpX_isKind
  rcases pk_ix κ (n := 10) (by decide) with h | h | ⟨q, hq, rfl⟩
  · refine br_t h (br_t rfl (H0 fun z => ?_))
    obtain ⟨q, hq, rfl⟩ := nd_k z
    exact nI_pos (by omega) h
  · refine br_f (rd_10 h).2.1 (br_t (rd_10 h).1 (br_t rfl (H0 fun z => ?_)))
    obtain ⟨q, hq, rfl⟩ := nd_k z
    exact nI_ge hq (by omega) h
  · refine br_f (nI_pos (by omega)) (br_f (nI_nlt (b := q) (a := 9) (by omega) (by decide)) (br_f (by decide) ?_))
    unfold wpX_operandsFit
    dsimp only
    refine br_f (nI_pos (by omega)) (br_f (nI_nlt (b := q) (a := 9) (by omega) (by decide)) ?_)
    have hq10 : q = 0 ∨ q = 1 ∨ q = 2 ∨ q = 3 ∨ q = 4 ∨ q = 5 ∨ q = 6 ∨ q = 7 ∨ q = 8 ∨ q = 9 := by omega
    rcases hq10 with rfl | rfl | rfl | rfl | rfl | rfl | rfl | rfl | rfl | rfl
    · exact br_t rfl (xt_isInt (fun x y => ⟨rfl, br_f (by decide) (H1 (nd_0.mpr ⟨x, y⟩))⟩) (fun n => ⟨rfl, br_t rfl (H0 fun z => n (nd_0.mp z))⟩))
    · refine br_f (by decide) (br_t rfl ?_)
      rcases pk_ix a (n := 8) (by decide) with h | h | ⟨j, hj, rfl⟩
      · refine br_t h (br_t rfl (H0 fun z => ?_))
        obtain ⟨j, hj, rfl⟩ := nd_1.mp z
        exact nI_pos (by omega) h
      · refine br_f (rd_8 h).2.1 (br_t (rd_8 h).1 (br_t rfl (H0 fun z => ?_)))
        obtain ⟨j, hj, rfl⟩ := nd_1.mp z
        exact nI_ge hj (by omega) h
      · exact br_f (nI_pos (by omega)) (br_f (nI_nlt (b := j) (a := 7) (by omega) (by decide)) (br_f (by decide) (H1 (nd_1.mpr ⟨j, hj, rfl⟩))))
    · refine br_f (by decide) (br_f (by decide) (br_t rfl ?_))
      rw [cl, ek]
      rcases pk_ix a (n := k) (by omega) with h | h | ⟨j, hj, rfl⟩
      · refine br_t h (br_t rfl (H0 fun z => ?_))
        obtain ⟨j, hj, rfl⟩ := nd_2.mp z
        exact nI_pos (by omega) h
      · refine br_f (rd_n (by omega) h) ⟨w, br_t h (br_t rfl (H0 fun z => ?_))⟩
        obtain ⟨j, hj, rfl⟩ := nd_2.mp z
        exact nI_ge hj (by omega) h
      · exact br_f (nI_pos (by omega)) ⟨w, br_f (nI_ge hj (by omega)) (br_f (by decide) (H1 (nd_2.mpr ⟨j, hj, rfl⟩)))⟩
    · exact br_f (by decide) (br_f (by decide) (br_f (by decide) (br_t rfl (br_f (by decide) (H1 (nd_mid (by decide) (by decide)))))))
    · exact br_f (by decide) (br_f (by decide) (br_f (by decide) (br_f (by decide) (br_t rfl (br_f (by decide) (H1 (nd_mid (by decide) (by decide))))))))
    · exact br_f (by decide) (br_f (by decide) (br_f (by decide) (br_f (by decide) (br_f (by decide) (br_t rfl (br_f (by decide) (H1 (nd_mid (by decide) (by decide)))))))))
    · exact br_f (by decide) (br_f (by decide) (br_f (by decide) (br_f (by decide) (br_f (by decide) (br_f (by decide) (br_t rfl (br_f (by decide) (H1 (nd_mid (by decide) (by decide))))))))))
    · exact br_f (by decide) (br_f (by decide) (br_f (by decide) (br_f (by decide) (br_f (by decide) (br_f (by decide) (br_f (by decide) (br_t rfl (br_f (by decide) (H1 (nd_mid (by decide) (by decide)))))))))))
    · exact br_f (by decide) (br_f (by decide) (br_f (by decide) (br_f (by decide) (br_f (by decide) (br_f (by decide) (br_f (by decide) (br_f (by decide) (br_t rfl (br_f (by decide) (H1 (nd_mid (by decide) (by decide))))))))))))
    · refine br_f (by decide) (br_f (by decide) (br_f (by decide) (br_f (by decide) (br_f (by decide) (br_f (by decide) (br_f (by decide) (br_f (by decide) (br_f (by decide) (br_t rfl ?_)))))))))
      refine xd_slot hN (fun g hg e => br_f (by decide) ?_) (fun no => br_t rfl (br_t rfl (H0 fun z => no (nd_9.mp z).1)))
      rcases pk_ix c (n := 3) (by decide) with h | h | ⟨j, hj, rfl⟩
      · refine br_t h (br_t rfl (H0 fun z => ?_))
        obtain ⟨_, j, hj, rfl⟩ := nd_9.mp z
        exact nI_pos (by omega) h
      · refine br_f (rd_3 h).2.1 (br_t (rd_3 h).1 (br_t rfl (H0 fun z => ?_)))
        obtain ⟨_, j, hj, rfl⟩ := nd_9.mp z
        exact nI_ge (show j < 3 by omega) (by omega) h
      · exact br_f (nI_pos (by omega)) (br_f (nI_nlt (b := j) (a := 2) (by omega) (by decide)) (br_f (by decide) (H1 (nd_9.mpr ⟨⟨g, hg, e⟩, j, by omega, rfl⟩))))
end
section
variable {f_n f_cap f_ana f_res f_anyT f_intsT f_wp f_vp f_made f_active f_xp f_curK f_rBot f_rR f_rE0 f_rE1 : Int32} {a_st a_ar a_size a_bk a_ba a_bb a_ds a_tab a_nxt a_wN a_wS a_wF a_vs a_frS a_frP0 a_frP1 a_xN a_xS a_xE0 a_xE1 a_xA a_xB a_xC a_xD a_xE a_xF a_xG : Nat → Int32} {N k b : Nat} {κ a c : Int32}
theorem yn_fit {Q : Int32 → SY → Prop} (hN : N ≤ 8) (hb : b < N) (hk : k ≤ 2) (ek : a_ar b = nI k) (H1 : nd_fit N k κ a c → wY_node_132 Q κ (nI b) (nd_a κ a) (nd_b κ c) (nI N) f_cap f_ana f_res f_anyT f_intsT f_wp f_vp f_made f_active f_xp f_curK f_rBot f_rR f_rE0 f_rE1 a_st a_ar a_size a_bk a_ba a_bb a_ds a_tab a_nxt a_wN a_wS a_wF a_vs a_frS a_frP0 a_frP1 a_xN a_xS a_xE0 a_xE1 a_xA a_xB a_xC a_xD a_xE a_xF a_xG) (H0 : ¬ nd_fit N k κ a c → Q 0 (nI N, f_cap, f_ana, f_res, f_anyT, f_intsT, f_wp, f_vp, f_made, f_active, f_xp, f_curK, f_rBot, f_rR, f_rE0, f_rE1, a_st, a_ar, a_size, a_bk, a_ba, a_bb, a_ds, a_tab, a_nxt, a_wN, a_wS, a_wF, a_vs, a_frS, a_frP0, a_frP1, a_xN, a_xS, a_xE0, a_xE1, a_xA, a_xB, a_xC, a_xD, a_xE, a_xF, a_xG)) :
    ((κ < 0 → (Q 0 (nI N, f_cap, f_ana, f_res, f_anyT, f_intsT, f_wp, f_vp, f_made, f_active, f_xp, f_curK, f_rBot, f_rR, f_rE0, f_rE1, a_st, a_ar, a_size, a_bk, a_ba, a_bb, a_ds, a_tab, a_nxt, a_wN, a_wS, a_wF, a_vs, a_frS, a_frP0, a_frP1, a_xN, a_xS, a_xE0, a_xE1, a_xA, a_xB, a_xC, a_xD, a_xE, a_xF, a_xG))) ∧ (¬ κ < 0 → (((κ ≤ 9 → (((κ = 0 → (((a < (-99) → (Q 0 (nI N, f_cap, f_ana, f_res, f_anyT, f_intsT, f_wp, f_vp, f_made, f_active, f_xp, f_curK, f_rBot, f_rR, f_rE0, f_rE1, a_st, a_ar, a_size, a_bk, a_ba, a_bb, a_ds, a_tab, a_nxt, a_wN, a_wS, a_wF, a_vs, a_frS, a_frP0, a_frP1, a_xN, a_xS, a_xE0, a_xE1, a_xA, a_xB, a_xC, a_xD, a_xE, a_xF, a_xG))) ∧ (¬ a < (-99) → (((a ≤ 99 → (wY_node_52 Q κ a c (nI b) a 0 (nI N) f_cap f_ana f_res f_anyT f_intsT f_wp f_vp f_made f_active f_xp f_curK f_rBot f_rR f_rE0 f_rE1 a_st a_ar a_size a_bk a_ba a_bb a_ds a_tab a_nxt a_wN a_wS a_wF a_vs a_frS a_frP0 a_frP1 a_xN a_xS a_xE0 a_xE1 a_xA a_xB a_xC a_xD a_xE a_xF a_xG)) ∧ (¬ a ≤ 99 → (Q 0 (nI N, f_cap, f_ana, f_res, f_anyT, f_intsT, f_wp, f_vp, f_made, f_active, f_xp, f_curK, f_rBot, f_rR, f_rE0, f_rE1, a_st, a_ar, a_size, a_bk, a_ba, a_bb, a_ds, a_tab, a_nxt, a_wN, a_wS, a_wF, a_vs, a_frS, a_frP0, a_frP1, a_xN, a_xS, a_xE0, a_xE1, a_xA, a_xB, a_xC, a_xD, a_xE, a_xF, a_xG))))))))) ∧ (¬ κ = 0 → (wY_node_52 Q κ a c (nI b) 0 0 (nI N) f_cap f_ana f_res f_anyT f_intsT f_wp f_vp f_made f_active f_xp f_curK f_rBot f_rR f_rE0 f_rE1 a_st a_ar a_size a_bk a_ba a_bb a_ds a_tab a_nxt a_wN a_wS a_wF a_vs a_frS a_frP0 a_frP1 a_xN a_xS a_xE0 a_xE1 a_xA a_xB a_xC a_xD a_xE a_xF a_xG))))) ∧ (¬ κ ≤ 9 → (Q 0 (nI N, f_cap, f_ana, f_res, f_anyT, f_intsT, f_wp, f_vp, f_made, f_active, f_xp, f_curK, f_rBot, f_rR, f_rE0, f_rE1, a_st, a_ar, a_size, a_bk, a_ba, a_bb, a_ds, a_tab, a_nxt, a_wN, a_wS, a_wF, a_vs, a_frS, a_frP0, a_frP1, a_xN, a_xS, a_xE0, a_xE1, a_xA, a_xB, a_xC, a_xD, a_xE, a_xF, a_xG))))))) := by
  have w : vp_in (nI b) 8 := vp_in_nI (by omega) (by decide)
  have cl : (nI b).toNatClampNeg = b := nI_clamp (by omega)
  rcases pk_ix κ (n := 10) (by decide) with h | h | ⟨q, hq, rfl⟩
  · refine br_t h (H0 fun z => ?_)
    obtain ⟨q, hq, rfl⟩ := nd_k z
    exact nI_pos (by omega) h
  · refine br_f (rd_10 h).2.1 (br_f (rd_10 h).2.2 (H0 fun z => ?_))
    obtain ⟨q, hq, rfl⟩ := nd_k z
    exact nI_ge hq (by omega) h
  · refine br_f (nI_pos (by omega)) (br_t (nI_le (a := q) (b := 9) (by omega) (by decide)) ?_)
    have mid : ∀ q, 2 < q → q < 9 → nI q = nI q → wY_node_132 Q (nI q) (nI b) (nd_a (nI q) a) (nd_b (nI q) c) (nI N) f_cap f_ana f_res f_anyT f_intsT f_wp f_vp f_made f_active f_xp f_curK f_rBot f_rR f_rE0 f_rE1 a_st a_ar a_size a_bk a_ba a_bb a_ds a_tab a_nxt a_wN a_wS a_wF a_vs a_frS a_frP0 a_frP1 a_xN a_xS a_xE0 a_xE1 a_xA a_xB a_xC a_xD a_xE a_xF a_xG → nd_a (nI q) a = 0 → nd_b (nI q) c = 0 → wY_node_132 Q (nI q) (nI b) 0 0 (nI N) f_cap f_ana f_res f_anyT f_intsT f_wp f_vp f_made f_active f_xp f_curK f_rBot f_rR f_rE0 f_rE1 a_st a_ar a_size a_bk a_ba a_bb a_ds a_tab a_nxt a_wN a_wS a_wF a_vs a_frS a_frP0 a_frP1 a_xN a_xS a_xE0 a_xE1 a_xA a_xB a_xC a_xD a_xE a_xF a_xG := by
      intro q _ _ _ h e1 e2
      rw [e1, e2] at h; exact h
    have hq10 : q = 0 ∨ q = 1 ∨ q = 2 ∨ q = 3 ∨ q = 4 ∨ q = 5 ∨ q = 6 ∨ q = 7 ∨ q = 8 ∨ q = 9 := by omega
    rcases hq10 with rfl | rfl | rfl | rfl | rfl | rfl | rfl | rfl | rfl | rfl
    · refine br_t rfl ?_
      by_cases l : a < -99
      · refine br_t l (H0 fun z => ?_)
        have := nd_0.mp z
        rw [Int32.lt_iff_toInt_lt, ty_m99] at l; omega
      · refine br_f l ?_
        by_cases m : a ≤ 99
        · rw [Int32.lt_iff_toInt_lt, ty_m99] at l
          have m' := m
          rw [Int32.le_iff_toInt_le, ty_p99] at m'
          exact br_t m (br_f (by decide) (br_f (by decide) (br_f (by decide) (H1 (nd_0.mpr ⟨by omega, m'⟩)))))
        · refine br_f m (H0 fun z => ?_)
          have := nd_0.mp z
          rw [Int32.le_iff_toInt_le, ty_p99] at m; omega
    · refine br_f (by decide) (br_t rfl ?_)
      rcases pk_ix a (n := 8) (by decide) with h | h | ⟨j, hj, rfl⟩
      · refine br_t h (H0 fun z => ?_)
        obtain ⟨j, hj, rfl⟩ := nd_1.mp z
        exact nI_pos (by omega) h
      · refine br_f (rd_8 h).2.1 (br_f (rd_8 h).2.2 (H0 fun z => ?_))
        obtain ⟨j, hj, rfl⟩ := nd_1.mp z
        exact nI_ge hj (by omega) h
      · exact br_f (nI_pos (by omega)) (br_t (nI_le (a := j) (b := 7) (by omega) (by decide)) (br_f (by decide) (br_f (by decide) (H1 (nd_1.mpr ⟨j, hj, rfl⟩)))))
    · refine br_f (by decide) (br_f (by decide) (br_t rfl ?_))
      rw [cl, ek]
      rcases pk_ix a (n := k) (by omega) with h | h | ⟨j, hj, rfl⟩
      · refine br_t h (H0 fun z => ?_)
        obtain ⟨j, hj, rfl⟩ := nd_2.mp z
        exact nI_pos (by omega) h
      · refine br_f (rd_n (by omega) h) ⟨w, br_f (Int32.not_lt.mpr h) (H0 fun z => ?_)⟩
        obtain ⟨j, hj, rfl⟩ := nd_2.mp z
        exact nI_ge hj (by omega) h
      · exact br_f (nI_pos (by omega)) ⟨w, br_t (nI_lt hj (by omega)) (br_f (by decide) (H1 (nd_2.mpr ⟨j, hj, rfl⟩)))⟩
    · exact br_f (by decide) (br_f (by decide) (br_f (by decide) (br_f (by decide) (H1 (nd_mid (by decide) (by decide))))))
    · exact br_f (by decide) (br_f (by decide) (br_f (by decide) (br_f (by decide) (H1 (nd_mid (by decide) (by decide))))))
    · exact br_f (by decide) (br_f (by decide) (br_f (by decide) (br_f (by decide) (H1 (nd_mid (by decide) (by decide))))))
    · exact br_f (by decide) (br_f (by decide) (br_f (by decide) (br_f (by decide) (H1 (nd_mid (by decide) (by decide))))))
    · exact br_f (by decide) (br_f (by decide) (br_f (by decide) (br_f (by decide) (H1 (nd_mid (by decide) (by decide))))))
    · exact br_f (by decide) (br_f (by decide) (br_f (by decide) (br_f (by decide) (H1 (nd_mid (by decide) (by decide))))))
    · refine br_f (by decide) (br_f (by decide) (br_f (by decide) (br_t rfl ?_)))
      rcases pk_ix a (n := N) (by omega) with h | h | ⟨g, hg, rfl⟩
      · refine br_t h (H0 fun z => ?_)
        obtain ⟨⟨j, hj, rfl⟩, _⟩ := nd_9.mp z
        exact nI_pos (by omega) h
      · refine br_f (rd_n (by omega) h) (br_t h (H0 fun z => ?_))
        obtain ⟨⟨j, hj, rfl⟩, _⟩ := nd_9.mp z
        exact nI_ge hj (by omega) h
      · refine br_f (nI_pos (by omega)) (br_f (nI_ge hg (by omega)) ?_)
        rcases pk_ix c (n := 3) (by decide) with h | h | ⟨j, hj, rfl⟩
        · refine br_t h (H0 fun z => ?_)
          obtain ⟨_, j, hj, rfl⟩ := nd_9.mp z
          exact nI_pos (by omega) h
        · refine br_f (rd_3 h).2.1 (br_f (rd_3 h).2.2 (H0 fun z => ?_))
          obtain ⟨_, j, hj, rfl⟩ := nd_9.mp z
          exact nI_ge (show j < 3 by omega) (by omega) h
        · exact br_f (nI_pos (by omega)) (br_t (nI_le (a := j) (b := 2) (by omega) (by decide)) (H1 (nd_9.mpr ⟨⟨g, hg, rfl⟩, j, by omega, rfl⟩)))
end
end
section
/-- the operands as they are stored -/
theorem bs_dm_ub (c D : Nat → Nat) (m : Nat) {M : Nat} : ∀ {n : Nat}, (∀ j, j < n → D (bs_sc c j m - 1) ≤ M) → bs_dm c D m n ≤ M := by
  intro n
  induction n with
  | zero => intro _; exact Nat.zero_le _
  | succ n ih =>
    intro h
    rw [bs_dm_s]
    have := ih (fun j hj => h j (by omega))
    have := h n (by omega)
    omega
section
variable {f_n f_cap f_ana f_res f_anyT f_intsT f_wp f_vp f_made f_active f_xp f_curK f_rBot f_rR f_rE0 f_rE1 : Int32} {a_st a_ar a_size a_bk a_ba a_bb a_ds a_tab a_nxt a_wN a_wS a_wF a_vs a_frS a_frP0 a_frP1 a_xN a_xS a_xE0 a_xE1 a_xA a_xB a_xC a_xD a_xE a_xF a_xG : Nat → Int32} {N U C k z b S : Nat} {sz St : Nat → Nat} {kd fo so ch pa dp szX sX : Nat → Int32} {κ sa sb : Int32}
theorem yn_132 {Q : Int32 → SY → Prop} {w : Nat} (hN : N ≤ 8) (hC : C ≤ 128) (hU : U ≤ C) (hb : b < N) (hnd : bd_nd N k κ sa sb) (hw : bs_cc κ sb = w) (hs : rl_slots N U sz St a_st a_ar szX a_size sX a_bk a_ba a_bb kd fo so ch pa dp) (hsum : rl_sum a_st sz N = U) (ez : sz b = z) (eS : St b = S)
    (hB : rl_body N k z S (rl_K a_bk b) (rl_K a_ba b) (rl_K a_bb b) kd fo so ch pa dp) (e2 : a_size b = nI z) (eU : S + z = U)
    (H1 : w ≤ bs_pc (rl_c (rl_K a_bk b) (rl_K a_bb b)) z → U < C → bs_dm (rl_c (rl_K a_bk b) (rl_K a_bb b)) (rl_D S dp) z w + 1 ≤ 10 → ∀ ds : Nat → Int32, Q 1 (nI N, nI C, f_ana, f_res, f_anyT, f_intsT, f_wp, f_vp, f_made, f_active, f_xp, f_curK, f_rBot, f_rR, f_rE0, f_rE1, a_st, a_ar, upd a_size b (nI (z + 1)), upd a_bk (b * 128 + z) κ, upd a_ba (b * 128 + z) sa, upd a_bb (b * 128 + z) sb, ds, a_tab, a_nxt, a_wN, a_wS, a_wF, a_vs, a_frS, a_frP0, a_frP1, a_xN, a_xS, a_xE0, a_xE1, a_xA, a_xB, a_xC, a_xD, a_xE, a_xF, a_xG))
    (H0 : ¬ (w ≤ bs_pc (rl_c (rl_K a_bk b) (rl_K a_bb b)) z ∧ U < C ∧ bs_dm (rl_c (rl_K a_bk b) (rl_K a_bb b)) (rl_D S dp) z w + 1 ≤ 10) → ∀ ds : Nat → Int32, Q 0 (nI N, nI C, f_ana, f_res, f_anyT, f_intsT, f_wp, f_vp, f_made, f_active, f_xp, f_curK, f_rBot, f_rR, f_rE0, f_rE1, a_st, a_ar, a_size, a_bk, a_ba, a_bb, ds, a_tab, a_nxt, a_wN, a_wS, a_wF, a_vs, a_frS, a_frP0, a_frP1, a_xN, a_xS, a_xE0, a_xE1, a_xA, a_xB, a_xC, a_xD, a_xE, a_xF, a_xG)) : wY_node_132 Q κ (nI b) sa sb (nI N) (nI C) f_ana f_res f_anyT f_intsT f_wp f_vp f_made f_active f_xp f_curK f_rBot f_rR f_rE0 f_rE1 a_st a_ar a_size a_bk a_ba a_bb a_ds a_tab a_nxt a_wN a_wS a_wF a_vs a_frS a_frP0 a_frP1 a_xN a_xS a_xE0 a_xE1 a_xA a_xB a_xC a_xD a_xE a_xF a_xG := by
  have hS := hB.1
  have w3 : w ≤ 3 := by
    rw [← hw]
    rcases bd_10 hnd with z | z | z | z | z | z | z | z | z | z <;> rw [z]
    · rw [bs_cc0]; decide
    · rw [bs_cc1]; decide
    · rw [bs_cc2]; decide
    · rw [bs_cc3]; decide
    · rw [bs_cc4]; decide
    · rw [bs_cc5]; decide
    · rw [bs_cc6]; decide
    · rw [bs_cc7]; decide
    · rw [bs_cc8]; decide
    · rw [bs_cc9]
      obtain ⟨q, hq, e⟩ := hnd.2.2.2.2.2.1
      rw [e, nI_clamp (by omega)]; omega
  have pl := bs_pc_le (rl_c (rl_K a_bk b) (rl_K a_bb b)) z
  have wb : vp_in (nI b) 8 := vp_in_nI (by omega) (by decide)
  have cb : (nI b).toNatClampNeg = b := nI_clamp (by omega)
  unfold wY_node_132
  refine yt_cc hnd ?_
  rw [hw]
  refine yd_scan (by omega) hB e2 fun ds inv => ?_
  by_cases c1 : w ≤ bs_pc (rl_c (rl_K a_bk b) (rl_K a_bb b)) z
  · refine br_t (nI_le c1 (by omega)) ?_
    have pos := bs_pos hB.2.1.2.2
    have dle : ∀ j, j < bs_pc (rl_c (rl_K a_bk b) (rl_K a_bb b)) z → rl_D S dp (bs_sc (rl_c (rl_K a_bk b) (rl_K a_bb b)) j z - 1) ≤ 10 := fun j hj => by
      have := pos.1 j hj
      have := bs_sc_le (rl_c (rl_K a_bk b) (rl_K a_bb b)) z j
      exact (rl_D_in hB (show bs_sc (rl_c (rl_K a_bk b) (rl_K a_bb b)) j z - 1 < z by omega)).2
    have d218 : U < C → ∀ d t fuel, t + d = w → d < fuel → wY_node_218 Q κ (nI b) sa sb (nI w) (nI (bs_pc (rl_c (rl_K a_bk b) (rl_K a_bb b)) z)) (nI N) (nI C) f_ana f_res f_anyT f_intsT f_wp f_vp f_made f_active f_xp f_curK f_rBot f_rR f_rE0 f_rE1 a_st a_ar a_size a_bk a_ba a_bb ds a_tab a_nxt a_wN a_wS a_wF a_vs a_frS a_frP0 a_frP1 a_xN a_xS a_xE0 a_xE1 a_xA a_xB a_xC a_xD a_xE a_xF a_xG fuel (nI (bs_dm (rl_c (rl_K a_bk b) (rl_K a_bb b)) (rl_D S dp) z t)) (nI t) := by
      intro hUC d
      induction d with
      | zero =>
        intro t fuel h1 h2
        obtain ⟨fuel, rfl⟩ : ∃ m, fuel = m + 1 := ⟨fuel - 1, by omega⟩
        obtain rfl : t = w := by omega
        have d2 := bs_dm_10 (rl_c (rl_K a_bk b) (rl_K a_bb b)) (rl_D S dp) z (n := t) (fun j hj => dle j (by omega))
        refine br_t (nI_le (Nat.le_refl _) (by omega)) ?_
        rw [nI_1]
        by_cases c3 : bs_dm (rl_c (rl_K a_bk b) (rl_K a_bb b)) (rl_D S dp) z t + 1 ≤ 10
        · refine br_t (nI_le (b := 10) c3 (by decide)) ⟨wb, ?_⟩
          rw [cb, e2]
          have wi : vp_in (nI (b * 128 + z)) 1024 := vp_in_nI (by omega) (by decide)
          refine nm_r (yk_ix (by omega) (by omega)) ?_
          rw [nI_clamp (n := b * 128 + z) (by omega), nI_1]
          exact ⟨wi, nm_e ⟨wi, nm_e ⟨wi, nm_e ⟨wb, wb, nm_e (H1 c1 hUC c3 ds)⟩⟩⟩⟩
        · exact br_f (nI_ge (b := bs_dm (rl_c (rl_K a_bk b) (rl_K a_bb b)) (rl_D S dp) z t + 1) (a := 10) (by omega) (by omega)) (H0 (fun q => c3 q.2.2) ds)
      | succ d ih =>
        intro t fuel h1 h2
        obtain ⟨fuel, rfl⟩ : ∃ m, fuel = m + 1 := ⟨fuel - 1, by omega⟩
        have d1 := dle t (by omega)
        have d2 := bs_dm_10 (rl_c (rl_K a_bk b) (rl_K a_bb b)) (rl_D S dp) z (n := t) (fun j hj => dle j (by omega))
        have hh := ih (t + 1) fuel (by omega) (by omega)
        rw [bs_dm_s] at hh
        refine br_f (nI_ge (by omega) (by omega)) ?_
        rw [show (nI (bs_pc (rl_c (rl_K a_bk b) (rl_K a_bb b)) z) - 1) - nI t = nI (bs_pc (rl_c (rl_K a_bk b) (rl_K a_bb b)) z - 1 - t) by rw [show nI (bs_pc (rl_c (rl_K a_bk b) (rl_K a_bb b)) z) - 1 = nI (bs_pc (rl_c (rl_K a_bk b) (rl_K a_bb b)) z - 1) from pk_sub (b := 1) (by omega), pk_sub (by omega)], yd_127 (by omega), nI_clamp (n := bs_pc (rl_c (rl_K a_bk b) (rl_K a_bb b)) z - 1 - t) (by omega), inv t (by omega)]
        have wv : vp_in (nI (bs_pc (rl_c (rl_K a_bk b) (rl_K a_bb b)) z - 1 - t)) 128 := vp_in_nI (by omega) (by decide)
        refine ⟨wv, ?_⟩
        by_cases q : rl_D S dp (bs_sc (rl_c (rl_K a_bk b) (rl_K a_bb b)) t z - 1) ≤ bs_dm (rl_c (rl_K a_bk b) (rl_K a_bb b)) (rl_D S dp) z t
        · rw [Nat.max_eq_left q] at hh
          exact br_t (nI_le q (by omega)) (nm_r (nI_1 t) hh)
        · rw [Nat.max_eq_right (by omega)] at hh
          exact br_f (nI_ge (by omega) (by omega)) ⟨wv, nm_e (nm_r (nI_1 t) hh)⟩
    have sm : ∀ d g, g + d = N → rl_sum a_st sz g ≤ U := by
      intro d
      induction d with
      | zero => intro g h; rw [show g = N by omega]; omega
      | succ d ih => intro g h; have := ih (g + 1) (by omega); rw [rl_sum_s] at this; omega
    have tot : ∀ d g fuel, g + d = N → d < fuel → wY_node_164 Q κ (nI b) sa sb (nI w) (nI (bs_pc (rl_c (rl_K a_bk b) (rl_K a_bb b)) z)) (nI N) (nI C) f_ana f_res f_anyT f_intsT f_wp f_vp f_made f_active f_xp f_curK f_rBot f_rR f_rE0 f_rE1 a_st a_ar a_size a_bk a_ba a_bb ds a_tab a_nxt a_wN a_wS a_wF a_vs a_frS a_frP0 a_frP1 a_xN a_xS a_xE0 a_xE1 a_xA a_xB a_xC a_xD a_xE a_xF a_xG fuel (nI (rl_sum a_st sz g)) (nI g) := by
      intro d
      induction d with
      | zero =>
        intro g fuel h1 h2
        obtain ⟨fuel, rfl⟩ : ∃ m, fuel = m + 1 := ⟨fuel - 1, by omega⟩
        obtain rfl : g = N := by omega
        rw [hsum]
        refine br_t (nI_le (Nat.le_refl _) (by omega)) ?_
        by_cases c2 : U < C
        · exact br_t (nI_lt c2 (by omega)) ⟨w + 1, d218 c2 w 0 (w + 1) (by omega) (by omega)⟩
        · exact br_f (nI_nlt (by omega) (by omega)) (H0 (fun q => c2 q.2.1) ds)
      | succ d ih =>
        intro g fuel h1 h2
        obtain ⟨fuel, rfl⟩ : ∃ m, fuel = m + 1 := ⟨fuel - 1, by omega⟩
        have wg : vp_in (nI g) 8 := vp_in_nI (by omega) (by decide)
        have cg : (nI g).toNatClampNeg = g := nI_clamp (by omega)
        have hh := ih (g + 1) fuel (by omega) (by omega)
        rw [rl_sum_s] at hh
        refine br_f (nI_ge (by omega) (by omega)) ⟨wg, ?_⟩
        rw [cg]
        by_cases s0 : a_st g = 0
        · rw [if_pos s0, Nat.add_zero] at hh
          exact br_t s0 (nm_r (nI_1 g) hh)
        · rw [if_neg s0] at hh
          obtain ⟨_, q2, _⟩ := (hs g (by omega)).2.1 s0
          refine br_f s0 ⟨wg, nm_r (e' := nI (rl_sum a_st sz g + sz g)) (by rw [q2, nI_add]) (nm_r (nI_1 g) hh)⟩
    exact ⟨N + 1, tot N 0 (N + 1) (by omega) (by omega)⟩
  · exact br_f (nI_ge (by omega) (by omega)) (H0 (fun q => c1 q.1) ds)
end
section
variable {f_slotCount f_capacity f_nodesUsed f_buildingSlot f_pendingCount f_summariesCurrent f_callsActive f_callsMade f_runOutcome f_runValue : Int32} {a_slotStates a_slotArities a_slotStarts a_slotSizes a_kinds a_firstOperands a_secondOperands a_children a_parents a_depths a_pendingNodes a_summaries a_nextSummaries a_nodeTypes a_paramsAfter a_params a_values a_arguments a_frameSlots a_frameNodes : Nat → Int32} {N k z S P U : Nat} {K A B : Nat → Int32}
theorem xn_depth {Q : Int32 → Prop} {w : Nat} (hB : rl_body N k z S K A B a_kinds a_firstOperands a_secondOperands a_children a_parents a_depths) (hw : w ≤ P) (eP : P = bs_pc (rl_c K B) z) (pp : ∀ q, q < P → a_pendingNodes (P - 1 - q) = nI (S + (bs_sc (rl_c K B) q z - 1)) ∧ a_parents (S + (bs_sc (rl_c K B) q z - 1)) = -1)
    (H : Q (nI (bs_dm (rl_c K B) (rl_D S a_depths) z w + 1))) : wpX_depthOver Q (f_slotCount, f_capacity, f_nodesUsed, f_buildingSlot, nI P, f_summariesCurrent, f_callsActive, f_callsMade, f_runOutcome, f_runValue, a_slotStates, a_slotArities, a_slotStarts, a_slotSizes, a_kinds, a_firstOperands, a_secondOperands, a_children, a_parents, a_depths, a_pendingNodes, a_summaries, a_nextSummaries, a_nodeTypes, a_paramsAfter, a_params, a_values, a_arguments, a_frameSlots, a_frameNodes) (nI w) := by
  have hS := hB.1
  have pl := bs_pc_le (rl_c K B) z
  have pos := bs_pos hB.2.1.2.2
  have row : ∀ q, q < P → bs_sc (rl_c K B) q z - 1 < z := fun q hq => by
    have := pos.1 q (by omega)
    have := bs_sc_le (rl_c K B) z q
    omega
  have dd : ∀ q, q < P → a_depths (S + (bs_sc (rl_c K B) q z - 1)) = nI (rl_D S a_depths (bs_sc (rl_c K B) q z - 1)) ∧ rl_D S a_depths (bs_sc (rl_c K B) q z - 1) ≤ 10 := fun q hq => by
    have r := row q hq
    have l := rl_D_lt hB r
    have n := rl_D_in hB r
    obtain ⟨_, _, _, _, d1, _⟩ := hB.2.2 _ r
    exact ⟨by rw [d1, l], n.2⟩
  have loop : ∀ d M fuel, d ≤ w → d < fuel → M ≤ 10 → (∀ q, d ≤ q → q < w → rl_D S a_depths (bs_sc (rl_c K B) q z - 1) ≤ M) → (M = 0 ∨ ∃ q, q < w ∧ M = rl_D S a_depths (bs_sc (rl_c K B) q z - 1)) → wX_depthOver_9 Q f_slotCount f_capacity f_nodesUsed f_buildingSlot (nI P) f_summariesCurrent f_callsActive f_callsMade f_runOutcome f_runValue a_slotStates a_slotArities a_slotStarts a_slotSizes a_kinds a_firstOperands a_secondOperands a_children a_parents a_depths a_pendingNodes a_summaries a_nextSummaries a_nodeTypes a_paramsAfter a_params a_values a_arguments a_frameSlots a_frameNodes fuel (nI M) (nI (P - d)) := by
    intro d
    induction d with
    | zero =>
      intro M fuel h1 h2 h3 up at'
      obtain ⟨fuel, rfl⟩ : ∃ m, fuel = m + 1 := ⟨fuel - 1, by omega⟩
      have e : M = bs_dm (rl_c K B) (rl_D S a_depths) z w := by
        have u := bs_dm_ub (rl_c K B) (rl_D S a_depths) z (n := w) (M := M) (fun j hj => up j (by omega) hj)
        rcases at' with rfl | ⟨q, hq, rfl⟩
        · omega
        · have := bs_dm_le (rl_c K B) (rl_D S a_depths) z hq
          omega
      rw [← e] at H
      refine br_t (nI_le (by omega) (by omega)) ?_
      rw [nI_1]; exact H
    | succ d ih =>
      intro M fuel h1 h2 h3 up at'
      obtain ⟨fuel, rfl⟩ : ∃ m, fuel = m + 1 := ⟨fuel - 1, by omega⟩
      have pd := (pp d (by omega)).1
      obtain ⟨v1, v2⟩ := dd d (by omega)
      have r := row d (by omega)
      refine br_f (nI_ge (by omega) (by omega)) ⟨vp_in_nI (by omega) (by decide), ?_⟩
      rw [nI_clamp (n := P - (d + 1)) (by omega), show P - (d + 1) = P - 1 - d by omega, pd, nI_clamp (n := S + (bs_sc (rl_c K B) d z - 1)) (by omega), v1]
      refine ⟨vp_in_nI (by omega) (by decide), nm_e ?_⟩
      by_cases q : rl_D S a_depths (bs_sc (rl_c K B) d z - 1) ≤ M
      · refine br_t (nI_le q (by omega)) (nm_r (e' := nI (P - d)) (by rw [nI_1, show P - 1 - d + 1 = P - d by omega]) (ih M fuel (by omega) (by omega) h3 (fun j hj hj2 => ?_) at'))
        by_cases e : j = d
        · subst e; exact q
        · exact up j (by omega) hj2
      · refine br_f (nI_ge (by omega) (by omega)) (nm_r (e' := nI (P - d)) (by rw [nI_1, show P - 1 - d + 1 = P - d by omega]) (ih _ fuel (by omega) (by omega) v2 (fun j hj hj2 => ?_) (Or.inr ⟨d, by omega, rfl⟩)))
        by_cases e : j = d
        · subst e; exact Nat.le_refl _
        · have := up j (by omega) hj2; omega
  unfold wpX_depthOver
  dsimp only
  refine nm_r (e' := nI (P - w)) (pk_sub hw) ⟨w + 1, loop w 0 (w + 1) (Nat.le_refl _) (by omega) (by omega) (fun q h1 h2 => absurd h1 (by omega)) (Or.inl rfl)⟩
theorem xn_adopt {Q : SX → Prop} {w : Nat} (hB : rl_body N k z S K A B a_kinds a_firstOperands a_secondOperands a_children a_parents a_depths) (hw : w ≤ P) (w3 : w ≤ 3) (eP : P = bs_pc (rl_c K B) z) (eU : S + z = U) (hU : U < 128) (pp : ∀ q, q < P → a_pendingNodes (P - 1 - q) = nI (S + (bs_sc (rl_c K B) q z - 1)) ∧ a_parents (S + (bs_sc (rl_c K B) q z - 1)) = -1)
    (H : ∀ CH PA : Nat → Int32, (∀ i, i < w → CH (U * 3 + i) = nI (S + (bs_sc (rl_c K B) (w - 1 - i) z - 1))) → (∀ q, (q < U * 3 ∨ U * 3 + w ≤ q) → CH q = a_children q) → (∀ i, i < w → PA (S + (bs_sc (rl_c K B) (w - 1 - i) z - 1)) = nI U) → (∀ r, (∀ i, i < w → r ≠ S + (bs_sc (rl_c K B) (w - 1 - i) z - 1)) → PA r = a_parents r) → Q (f_slotCount, f_capacity, nI U, f_buildingSlot, nI (P - w), f_summariesCurrent, f_callsActive, f_callsMade, f_runOutcome, f_runValue, a_slotStates, a_slotArities, a_slotStarts, a_slotSizes, a_kinds, a_firstOperands, a_secondOperands, CH, PA, a_depths, a_pendingNodes, a_summaries, a_nextSummaries, a_nodeTypes, a_paramsAfter, a_params, a_values, a_arguments, a_frameSlots, a_frameNodes)) :
    wpX_adoptPending Q (f_slotCount, f_capacity, nI U, f_buildingSlot, nI P, f_summariesCurrent, f_callsActive, f_callsMade, f_runOutcome, f_runValue, a_slotStates, a_slotArities, a_slotStarts, a_slotSizes, a_kinds, a_firstOperands, a_secondOperands, a_children, a_parents, a_depths, a_pendingNodes, a_summaries, a_nextSummaries, a_nodeTypes, a_paramsAfter, a_params, a_values, a_arguments, a_frameSlots, a_frameNodes) (nI w) := by
  have pl := bs_pc_le (rl_c K B) z
  have pos := bs_pos hB.2.1.2.2
  have row : ∀ q, q < P → bs_sc (rl_c K B) q z - 1 < z := fun q hq => by
    have := pos.1 q (by omega)
    have := bs_sc_le (rl_c K B) z q
    omega
  have loop : ∀ d s fuel (CH PA : Nat → Int32), s + d = w → d < fuel → (∀ i, i < s → CH (U * 3 + i) = nI (S + (bs_sc (rl_c K B) (w - 1 - i) z - 1))) → (∀ q, (q < U * 3 ∨ U * 3 + s ≤ q) → CH q = a_children q) → (∀ i, i < s → PA (S + (bs_sc (rl_c K B) (w - 1 - i) z - 1)) = nI U) → (∀ r, (∀ i, i < s → r ≠ S + (bs_sc (rl_c K B) (w - 1 - i) z - 1)) → PA r = a_parents r) →
      wX_adoptPending_9 Q (nI w) (nI (P - w)) f_slotCount f_capacity (nI U) f_buildingSlot (nI P) f_summariesCurrent f_callsActive f_callsMade f_runOutcome f_runValue fuel (nI s) a_slotStates a_slotArities a_slotStarts a_slotSizes a_kinds a_firstOperands a_secondOperands CH PA a_depths a_pendingNodes a_summaries a_nextSummaries a_nodeTypes a_paramsAfter a_params a_values a_arguments a_frameSlots a_frameNodes := by
    intro d
    induction d with
    | zero =>
      intro s fuel CH PA h1 h2 a1 a2 a3 a4
      obtain ⟨fuel, rfl⟩ : ∃ m, fuel = m + 1 := ⟨fuel - 1, by omega⟩
      obtain rfl : s = w := by omega
      exact br_t (nI_le (Nat.le_refl _) (by omega)) (H CH PA a1 a2 a3 a4)
    | succ d ih =>
      intro s fuel CH PA h1 h2 a1 a2 a3 a4
      obtain ⟨fuel, rfl⟩ : ∃ m, fuel = m + 1 := ⟨fuel - 1, by omega⟩
      have pd := (pp (w - 1 - s) (by omega)).1
      have r := row (w - 1 - s) (by omega)
      refine br_f (nI_ge (by omega) (by omega)) ?_
      rw [nI_add, xc_3, nI_add, nI_clamp (n := P - w + s) (by omega), nI_clamp (n := U * 3 + s) (by omega), show P - w + s = P - 1 - (w - 1 - s) by omega, pd]
      refine ⟨vp_in_nI (by omega) (by decide), nm_e ⟨vp_in_nI (by omega) (by decide), nm_e ⟨vp_in_nI (by omega) (by decide), ?_⟩⟩⟩
      rw [nI_clamp (n := S + (bs_sc (rl_c K B) (w - 1 - s) z - 1)) (by omega)]
      refine nm_e (nm_r (nI_1 s) (ih (s + 1) fuel _ _ (by omega) (by omega) (fun i hi => ?_) (fun q hq => ?_) (fun i hi => ?_) (fun r' hr => ?_)))
      · by_cases e : i = s
        · subst e; exact pk_us
        · rw [pk_un (by omega)]; exact a1 i (by omega)
      · rw [pk_un (by omega)]; exact a2 q (by omega)
      · by_cases e : S + (bs_sc (rl_c K B) (w - 1 - i) z - 1) = S + (bs_sc (rl_c K B) (w - 1 - s) z - 1)
        · rw [e]; exact pk_us
        · rw [pk_un e]
          by_cases e2 : i = s
          · subst e2; exact absurd rfl e
          · exact a3 i (by omega)
      · rw [pk_un (hr s (by omega))]
        exact a4 r' (fun i hi => hr i (by omega))
  unfold wpX_adoptPending
  dsimp only
  exact nm_r (e' := nI (P - w)) (pk_sub hw) ⟨w + 1, loop w 0 (w + 1) a_children a_parents (by omega) (by omega) (fun i hi => absurd hi (Nat.not_lt_zero i)) (fun _ _ => rfl) (fun i hi => absurd hi (Nat.not_lt_zero i)) (fun _ _ => rfl)⟩
end
end
section
/-- the operands as they are stored -/
theorem xn_children {Q : Int32 → Prop} {N k : Nat} {κ a c : Int32} (h : nd_fit N k κ a c) (H : Q (nI (bs_cc κ (nd_b κ c)))) : wpX_childrenOf Q κ c := by
  unfold wpX_childrenOf
  unfold nd_b at H
  rcases bd_10 h with e | e | e | e | e | e | e | e | e | e <;> rw [e] at H ⊢
  · rw [bs_cc0] at H; exact br_t (by decide) H
  · rw [bs_cc1] at H; exact br_t (by decide) H
  · rw [bs_cc2] at H; exact br_t (by decide) H
  · rw [bs_cc3] at H; exact br_f (by decide) (br_f (by decide) (br_t rfl H))
  · rw [bs_cc4] at H; exact br_f (by decide) (br_f (by decide) (br_f (by decide) (br_t rfl H)))
  · rw [bs_cc5] at H; exact br_f (by decide) (br_f (by decide) (br_f (by decide) (br_f (by decide) (br_t rfl H))))
  · rw [bs_cc6] at H; exact br_f (by decide) (br_f (by decide) (br_f (by decide) (br_f (by decide) (br_f (by decide) (br_t rfl H)))))
  · rw [bs_cc7] at H; exact br_f (by decide) (br_f (by decide) (br_f (by decide) (br_f (by decide) (br_f (by decide) (br_f (by decide) (br_t rfl H))))))
  · rw [bs_cc8] at H; exact br_f (by decide) (br_f (by decide) (br_f (by decide) (br_f (by decide) (br_f (by decide) (br_f (by decide) (br_f (by decide) (br_t rfl H)))))))
  · rw [if_pos rfl, bs_cc9] at H
    rw [e] at h
    obtain ⟨_, w, hw, rfl⟩ := nd_9.mp h
    rw [nI_clamp (by omega)] at H
    exact br_f (by decide) (br_f (by decide) (br_f (by decide) (br_f (by decide) (br_f (by decide) (br_f (by decide) (br_f (by decide) (br_f (by decide) (br_t rfl H))))))))
theorem xn_uses {Q : Int32 → Prop} {κ : Int32} (H1 : (κ = 0 ∨ κ = 1 ∨ κ = 2 ∨ κ = 9) → Q 1) (H0 : ¬ (κ = 0 ∨ κ = 1 ∨ κ = 2 ∨ κ = 9) → Q 0) : wpX_usesFirstOperand Q κ := by
  unfold wpX_usesFirstOperand
  by_cases a : κ = 0
  · exact br_t a (H1 (Or.inl a))
  · refine br_f a ?_
    by_cases b : κ = 1
    · exact br_t b (H1 (Or.inr (Or.inl b)))
    · refine br_f b ?_
      by_cases c : κ = 2
      · exact br_t c (H1 (Or.inr (Or.inr (Or.inl c))))
      · refine br_f c ?_
        by_cases d : κ = 9
        · exact br_t d (H1 (Or.inr (Or.inr (Or.inr d))))
        · exact br_f d (H0 (fun q => q.elim a (fun q => q.elim b (fun q => q.elim c d))))
section
variable {f_slotCount f_capacity f_nodesUsed f_buildingSlot f_pendingCount f_summariesCurrent f_callsActive f_callsMade f_runOutcome f_runValue : Int32} {a_slotStates a_slotArities a_slotStarts a_slotSizes a_kinds a_firstOperands a_secondOperands a_children a_parents a_depths a_pendingNodes a_summaries a_nextSummaries a_nodeTypes a_paramsAfter a_params a_values a_arguments a_frameSlots a_frameNodes : Nat → Int32} {N C k z b S P U w : Nat} {K A B : Nat → Int32} {κ a c : Int32}
theorem xe_node {Q : Int32 → SX → Prop} (hN : N ≤ 8) (hC : C ≤ 128) (hUC : U ≤ C) (hb : b < N) (hk : k ≤ 2) (ek : a_slotArities b = nI k) (e1 : a_slotSizes b = nI z) (hB : rl_body N k z S K A B a_kinds a_firstOperands a_secondOperands a_children a_parents a_depths)
    (eP : P = bs_pc (rl_c K B) z) (eU : S + z = U) (pp : ∀ q, q < P → a_pendingNodes (P - 1 - q) = nI (S + (bs_sc (rl_c K B) q z - 1)) ∧ a_parents (S + (bs_sc (rl_c K B) q z - 1)) = -1) (ew : bs_cc κ (nd_b κ c) = w)
    (H1 : nd_fit N k κ a c → w ≤ 3 → w ≤ P → U < C → bs_dm (rl_c K B) (rl_D S a_depths) z w + 1 ≤ 10 → ∀ CH PA : Nat → Int32, (∀ i, i < w → CH (U * 3 + i) = nI (S + (bs_sc (rl_c K B) (w - 1 - i) z - 1))) → (∀ q, (q < U * 3 ∨ U * 3 + w ≤ q) → CH q = a_children q) → (∀ i, i < w → PA (S + (bs_sc (rl_c K B) (w - 1 - i) z - 1)) = nI U) → (∀ r, (∀ i, i < w → r ≠ S + (bs_sc (rl_c K B) (w - 1 - i) z - 1)) → PA r = a_parents r) →
      Q 1 (nI N, nI C, nI (U + 1), nI b, nI (P - w + 1), f_summariesCurrent, f_callsActive, f_callsMade, f_runOutcome, f_runValue, a_slotStates, a_slotArities, a_slotStarts, upd a_slotSizes b (nI (z + 1)), upd a_kinds U κ, upd a_firstOperands U (nd_a κ a), upd a_secondOperands U (nd_b κ c), CH, upd PA U (-1), upd a_depths U (nI (bs_dm (rl_c K B) (rl_D S a_depths) z w + 1)), upd a_pendingNodes (P - w) (nI U), a_summaries, a_nextSummaries, a_nodeTypes, a_paramsAfter, a_params, a_values, a_arguments, a_frameSlots, a_frameNodes))
    (H0 : ¬ (nd_fit N k κ a c ∧ w ≤ P ∧ U < C ∧ bs_dm (rl_c K B) (rl_D S a_depths) z w + 1 ≤ 10) → Q 0 (nI N, nI C, nI U, nI b, nI P, f_summariesCurrent, f_callsActive, f_callsMade, f_runOutcome, f_runValue, a_slotStates, a_slotArities, a_slotStarts, a_slotSizes, a_kinds, a_firstOperands, a_secondOperands, a_children, a_parents, a_depths, a_pendingNodes, a_summaries, a_nextSummaries, a_nodeTypes, a_paramsAfter, a_params, a_values, a_arguments, a_frameSlots, a_frameNodes)) : wpX_node Q (nI N, nI C, nI U, nI b, nI P, f_summariesCurrent, f_callsActive, f_callsMade, f_runOutcome, f_runValue, a_slotStates, a_slotArities, a_slotStarts, a_slotSizes, a_kinds, a_firstOperands, a_secondOperands, a_children, a_parents, a_depths, a_pendingNodes, a_summaries, a_nextSummaries, a_nodeTypes, a_paramsAfter, a_params, a_values, a_arguments, a_frameSlots, a_frameNodes) κ a c := by
  have hS := hB.1
  have pl := bs_pc_le (rl_c K B) z
  have nb : ¬ nI b = -1 := fun z => by
    have := nI_pos' (n := b) (by omega)
    rw [z] at this
    exact absurd this (by decide)
  unfold wpX_node
  dsimp only
  refine br_f nb (xn_fit hN hb hk ek (fun ft => ?_) (fun nf => H0 fun q => nf q.1))
  have w3 : w ≤ 3 := by
    rw [← ew]
    rcases bd_10 ft with z | z | z | z | z | z | z | z | z | z <;> rw [z]
    · rw [bs_cc0]; decide
    · rw [bs_cc1]; decide
    · rw [bs_cc2]; decide
    · rw [bs_cc3]; decide
    · rw [bs_cc4]; decide
    · rw [bs_cc5]; decide
    · rw [bs_cc6]; decide
    · rw [bs_cc7]; decide
    · rw [bs_cc8]; decide
    · rw [bs_cc9]
      obtain ⟨q, hq, e⟩ := ft.2.2.2.2.2.1
      rw [z] at e
      rw [e, nI_clamp (by omega)]; omega
  refine xn_children ft ?_
  rw [ew]
  by_cases c1 : w ≤ P
  · refine br_f (nI_nlt c1 (by omega)) ?_
    by_cases c2 : U < C
    · refine br_t (nI_lt c2 (by omega)) (xn_depth hB c1 eP pp ?_)
      by_cases c3 : bs_dm (rl_c K B) (rl_D S a_depths) z w + 1 ≤ 10
      · refine br_t (nI_le (b := 10) c3 (by decide)) (xn_adopt hB c1 w3 eP eU (by omega) pp fun CH PA a1 a2 a3 a4 => ?_)
        have wU : vp_in (nI U) 128 := vp_in_nI (by omega) (by decide)
        have cU : (nI U).toNatClampNeg = U := nI_clamp (by omega)
        have wb : vp_in (nI b) 8 := vp_in_nI (by omega) (by decide)
        have cb : (nI b).toNatClampNeg = b := nI_clamp (by omega)
        have cP : (nI (P - w)).toNatClampNeg = P - w := nI_clamp (by omega)
        have fin : ∀ s0 s1 : Int32, s0 = nd_a κ a → s1 = nd_b κ c → wX_node_129 Q (nI (bs_dm (rl_c K B) (rl_D S a_depths) z w + 1)) s1 (nI U) (nI N) (nI C) (nI U) (nI b) (nI (P - w)) f_summariesCurrent f_callsActive f_callsMade f_runOutcome f_runValue a_slotStates a_slotArities a_slotStarts a_slotSizes (upd a_kinds U κ) (upd a_firstOperands U s0) a_secondOperands CH PA a_depths a_pendingNodes a_summaries a_nextSummaries a_nodeTypes a_paramsAfter a_params a_values a_arguments a_frameSlots a_frameNodes := by
          intro s0 s1 es0 es1
          unfold wX_node_129
          rw [cU, cb, cP, e1, es0, es1, nI_1 z]
          exact ⟨wU, nm_e ⟨wU, nm_e ⟨wU, nm_e ⟨vp_in_nI (by omega) (by decide), nm_e (nm_r (nI_1 _) (nm_r (nI_1 _) ⟨wb, wb, nm_e (H1 ft w3 c1 c2 c3 CH PA a1 a2 a3 a4)⟩))⟩⟩⟩⟩
        have f109 : ∀ s0 : Int32, s0 = nd_a κ a → wX_node_109 Q κ c (nI (bs_dm (rl_c K B) (rl_D S a_depths) z w + 1)) s0 (nI U) (nI N) (nI C) (nI U) (nI b) (nI (P - w)) f_summariesCurrent f_callsActive f_callsMade f_runOutcome f_runValue a_slotStates a_slotArities a_slotStarts a_slotSizes (upd a_kinds U κ) a_firstOperands a_secondOperands CH PA a_depths a_pendingNodes a_summaries a_nextSummaries a_nodeTypes a_paramsAfter a_params a_values a_arguments a_frameSlots a_frameNodes := by
          intro s0 es0
          unfold wX_node_109
          rw [cU]
          refine ⟨wU, nm_e ?_⟩
          by_cases k9 : κ = 9
          · exact br_t k9 (fin s0 c es0 (by unfold nd_b; rw [if_pos k9]))
          · exact br_f k9 (fin s0 0 es0 (by unfold nd_b; rw [if_neg k9]))
        dsimp only
        rw [cU]
        refine ⟨wU, nm_e (xn_uses (fun u => br_f (by decide) ?_) (fun u => br_t rfl ?_))⟩
        · exact f109 a (by unfold nd_a; rw [if_pos u])
        · exact f109 0 (by unfold nd_a; rw [if_neg u])
      · exact br_f (nI_ge (b := bs_dm (rl_c K B) (rl_D S a_depths) z w + 1) (a := 10) (by omega) (by
          have pos := bs_pos hB.2.1.2.2
          have := bs_dm_10 (rl_c K B) (rl_D S a_depths) z (n := w) (fun j hj => by
            have := pos.1 j (by omega)
            have := bs_sc_le (rl_c K B) z j
            exact (rl_D_in hB (show bs_sc (rl_c K B) j z - 1 < z by omega)).2)
          omega)) (H0 fun q => c3 q.2.2.2)
    · exact br_f (nI_nlt (by omega) (by omega)) (H0 fun q => c2 q.2.2.1)
  · exact br_t (nI_lt (by omega) (by omega)) (H0 fun q => c1 q.2.1)
end
section
variable {f_n f_cap f_ana f_res f_anyT f_intsT f_wp f_vp f_made f_active f_xp f_curK f_rBot f_rR f_rE0 f_rE1 : Int32} {a_st a_ar a_size a_bk a_ba a_bb a_ds a_tab a_nxt a_wN a_wS a_wF a_vs a_frS a_frP0 a_frP1 a_xN a_xS a_xE0 a_xE1 a_xA a_xB a_xC a_xD a_xE a_xF a_xG : Nat → Int32} {N U k b : Nat} {κ a c pc : Int32} {sz S : Nat → Nat} {bk bb pe pa : Nat → Int32}
theorem ye_node {Q : Int32 → SY → Prop} (hN : N ≤ 8) (hbld : rl_bld N U sz S a_st bk bb pe pa (nI b) pc) (hb : b < N) (hk : k ≤ 2) (ek : a_ar b = nI k) (H1 : nd_fit N k κ a c → wY_node_132 Q κ (nI b) (nd_a κ a) (nd_b κ c) (nI N) f_cap f_ana f_res f_anyT f_intsT f_wp f_vp f_made f_active f_xp f_curK f_rBot f_rR f_rE0 f_rE1 a_st a_ar a_size a_bk a_ba a_bb a_ds a_tab a_nxt a_wN a_wS a_wF a_vs a_frS a_frP0 a_frP1 a_xN a_xS a_xE0 a_xE1 a_xA a_xB a_xC a_xD a_xE a_xF a_xG) (H0 : ¬ nd_fit N k κ a c → Q 0 (nI N, f_cap, f_ana, f_res, f_anyT, f_intsT, f_wp, f_vp, f_made, f_active, f_xp, f_curK, f_rBot, f_rR, f_rE0, f_rE1, a_st, a_ar, a_size, a_bk, a_ba, a_bb, a_ds, a_tab, a_nxt, a_wN, a_wS, a_wF, a_vs, a_frS, a_frP0, a_frP1, a_xN, a_xS, a_xE0, a_xE1, a_xA, a_xB, a_xC, a_xD, a_xE, a_xF, a_xG)) :
    wpY_node Q (nI N, f_cap, f_ana, f_res, f_anyT, f_intsT, f_wp, f_vp, f_made, f_active, f_xp, f_curK, f_rBot, f_rR, f_rE0, f_rE1, a_st, a_ar, a_size, a_bk, a_ba, a_bb, a_ds, a_tab, a_nxt, a_wN, a_wS, a_wF, a_vs, a_frS, a_frP0, a_frP1, a_xN, a_xS, a_xE0, a_xE1, a_xA, a_xB, a_xC, a_xD, a_xE, a_xF, a_xG) κ a c := by
  unfold wpY_node
  dsimp only
  exact yd_bldg hN hbld (br_t (nI_pos' (by omega)) (yn_fit hN hb hk ek H1 H0))
end
end
section
theorem i_vc_node {k : Nat} {u : SX} {v : SY} (I : i_Rel k u v) (hk : k + 4 ≤ 2050) (v1 : Int32) (v2 : Int32) (v3 : Int32) : wpX_node (fun r u' => wpY_node (fun r' v' => r' = r ∧ i_Rel (k + 4) u' v') v v1 v2 v3) u v1 v2 v3 := by
  have J := I
  obtain ⟨f_slotCount, f_capacity, f_nodesUsed, f_buildingSlot, f_pendingCount, f_summariesCurrent, f_callsActive, f_callsMade, f_runOutcome, f_runValue, a_slotStates, a_slotArities, a_slotStarts, a_slotSizes, a_kinds, a_firstOperands, a_secondOperands, a_children, a_parents, a_depths, a_pendingNodes, a_summaries, a_nextSummaries, a_nodeTypes, a_paramsAfter, a_params, a_values, a_arguments, a_frameSlots, a_frameNodes⟩ := u
  obtain ⟨f_n, f_cap, f_ana, f_res, f_anyT, f_intsT, f_wp, f_vp, f_made, f_active, f_xp, f_curK, f_rBot, f_rR, f_rE0, f_rE1, a_st, a_ar, a_size, a_bk, a_ba, a_bb, a_ds, a_tab, a_nxt, a_wN, a_wS, a_wF, a_vs, a_frS, a_frP0, a_frP1, a_xN, a_xS, a_xE0, a_xE1, a_xA, a_xB, a_xC, a_xD, a_xE, a_xF, a_xG⟩ := v
  obtain ⟨N, C, U, sz, S, tb, rfl, rfl, rfl, rfl, rfl, rfl, rfl, rfl, rfl, rfl, rfl, ⟨hN1, hN, hC1, hC, hU⟩, hcur, hsum, hs, hbld, htab⟩ := I
  have hb0 := hbld
  rcases hbld with ⟨rfl, rfl, _⟩ | ⟨b, P, hb, rfl, rfl, s1, un, eU, lo, eP, pp⟩
  · unfold wpX_node wpY_node
    exact br_t rfl (yd_bldg hN hb0 (br_f (by decide) ⟨rfl, J⟩))
  · obtain ⟨e1, e2, e3, e4, kk, hkk, ekk, hB⟩ := (hs b hb).2.1 (by rw [s1]; decide)
    have hS := hB.1
    refine xe_node (w := bs_cc v1 (nd_b v1 v3)) hN hC hU hb hkk ekk e1 hB eP eU pp rfl (fun ft w3 c1 c2 c3 CH PA a1 a2 a3 a4 => ?_) (fun no => ?_)
    · refine ye_node hN hb0 hb hkk ekk (fun _ => ?_) (fun nf => absurd ft nf)
      refine yn_132 hN hC hU hb ft rfl hs hsum rfl rfl hB e2 eU (fun _ _ _ ds => ⟨rfl, ?_⟩) (fun no => absurd ⟨by rw [← eP]; exact c1, c2, c3⟩ no)
      have cc : ∀ i, i < sz b → (rl_c (rl_K a_bk b) (rl_K a_bb b)) i = (rl_c (rl_K (upd a_bk (b * 128 + sz b) v1) b) (rl_K (upd a_bb (b * 128 + sz b) (nd_b v1 v3)) b)) i := fun i hi => by
        show bs_cc (a_bk (b * 128 + i)) (a_bb (b * 128 + i)) = bs_cc (upd a_bk (b * 128 + sz b) v1 (b * 128 + i)) (upd a_bb (b * 128 + sz b) (nd_b v1 v3) (b * 128 + i))
        rw [pk_un (by omega), pk_un (by omega)]
      have cz : (rl_c (rl_K (upd a_bk (b * 128 + sz b) v1) b) (rl_K (upd a_bb (b * 128 + sz b) (nd_b v1 v3)) b)) (sz b) = bs_cc v1 (nd_b v1 v3) := by
        show bs_cc (upd a_bk (b * 128 + sz b) v1 (b * 128 + sz b)) (upd a_bb (b * 128 + sz b) (nd_b v1 v3) (b * 128 + sz b)) = _
        rw [pk_us, pk_us]
      have pos := bs_pos hB.2.1.2.2
      have row : ∀ q, q < P → bs_sc (rl_c (rl_K a_bk b) (rl_K a_bb b)) q (sz b) - 1 < sz b := fun q hq => by
        have := pos.1 q (by omega)
        have := bs_sc_le (rl_c (rl_K a_bk b) (rl_K a_bb b)) (sz b) q
        omega
      refine ⟨N, C, U + 1, bg_upd sz b (sz b + 1), S, tb, rfl, rfl, rfl, rfl, rfl, rfl, rfl, rfl, rfl, rfl, rfl, ⟨hN1, hN, hC1, hC, c2⟩, hcur, ?_, ?_, ?_, htab⟩
      · have q := rl_sum_upd (st := a_slotStates) (st' := a_slotStates) (sz := sz) (sz' := bg_upd sz b (sz b + 1)) (b := b) (fun g hg => ⟨rfl, bg_un hg⟩) N hb
        rw [if_neg (by rw [s1]; decide), if_neg (by rw [s1]; decide), bg_us] at q
        omega
      · intro g hg
        by_cases e : g = b
        · subst e
          rw [bg_us]
          refine ⟨Or.inr (Or.inl s1), fun _ => ⟨pk_us, pk_us, e3, by omega, kk, hkk, ekk, ?_⟩, fun n => absurd (s1.symm.trans n) (by decide)⟩
          refine rl_add (w := bs_cc v1 (nd_b v1 v3)) hB (fun i hi => ⟨pk_un (by omega), pk_un (by omega), pk_un (by omega)⟩) ?_ cz (by rw [← eP]; exact c1) (by omega) (fun q hq => (pp q (by omega)).2) (fun r h1 h2 => ⟨pk_un (by omega), pk_un (by omega), pk_un (by omega), pk_un (by omega)⟩) (fun q h1 h2 => a2 q (Or.inl (by omega))) (fun r h1 h2 h3 => ?_) (fun q hq => ?_) ?_ ?_ ?_ (fun j hj => ?_) ?_ c3
          · show bd_nd N kk (upd a_bk (g * 128 + sz g) v1 (g * 128 + sz g)) (upd a_ba (g * 128 + sz g) (nd_a v1 v2) (g * 128 + sz g)) (upd a_bb (g * 128 + sz g) (nd_b v1 v3) (g * 128 + sz g))
            rw [pk_us, pk_us, pk_us]; exact ft
          · rw [pk_un (by omega)]
            exact a4 r (fun i hi => h3 (bs_cc v1 (nd_b v1 v3) - 1 - i) (by omega))
          · have r := row q (by omega)
            rw [pk_un (by omega), eU]
            have := a3 (bs_cc v1 (nd_b v1 v3) - 1 - q) (by omega)
            rw [show bs_cc v1 (nd_b v1 v3) - 1 - (bs_cc v1 (nd_b v1 v3) - 1 - q) = q by omega] at this
            exact this
          · rw [eU]
            show upd a_kinds U v1 U = upd a_bk (g * 128 + sz g) v1 (g * 128 + sz g)
            rw [pk_us, pk_us]
          · rw [eU]
            show upd a_firstOperands U (nd_a v1 v2) U = upd a_ba (g * 128 + sz g) (nd_a v1 v2) (g * 128 + sz g)
            rw [pk_us, pk_us]
          · rw [eU]
            show upd a_secondOperands U (nd_b v1 v3) U = upd a_bb (g * 128 + sz g) (nd_b v1 v3) (g * 128 + sz g)
            rw [pk_us, pk_us]
          · rw [eU]; exact a1 j hj
          · rw [eU]; exact pk_us
        · rw [bg_un e]
          obtain ⟨g1, g2, g3⟩ := hs g hg
          have low : a_slotStates g ≠ 0 → S g + sz g ≤ S b := fun n => by
            rcases g1 with q | q | q
            · exact absurd q n
            · exact absurd q (un g hg e)
            · exact lo g hg q
          refine ⟨g1, fun n => ?_, fun s2 => ?_⟩
          · obtain ⟨q1, q2, q3, q4, k', hk', ek', hB'⟩ := g2 n
            have l := low n
            have hS' := hB'.1
            refine ⟨(pk_un e).trans q1, (pk_un e).trans q2, q3, by omega, k', hk', ek', rl_keep hB' (fun i hi => ⟨pk_un (by omega), pk_un (by omega), pk_un (by omega)⟩) (fun r h1 h2 => ⟨pk_un (by omega), pk_un (by omega), pk_un (by omega), ?_, pk_un (by omega)⟩) (fun q h1 h2 => a2 q (Or.inl (by omega)))⟩
            rw [pk_un (by omega)]
            exact a4 r (fun i hi => by omega)
          · have n : a_slotStates g ≠ 0 := by rw [s2]; decide
            have l := low n
            obtain ⟨_, _, _, _, k', _, _, hB'⟩ := g2 n
            have hS' := hB'.1
            obtain ⟨z0, pc1, pr⟩ := g3 s2
            refine ⟨z0, ?_, ?_⟩
            · rw [← pc1]
              refine bs_pc_congr (sz g) (fun i hi => ?_)
              show bs_cc (upd a_bk (b * 128 + sz b) v1 (g * 128 + i)) (upd a_bb (b * 128 + sz b) (nd_b v1 v3) (g * 128 + i)) = bs_cc (a_bk (g * 128 + i)) (a_bb (g * 128 + i))
              rw [pk_un (by omega), pk_un (by omega)]
            · rw [pk_un (by omega), a4 _ (fun i hi => by omega)]
              exact pr
      · refine Or.inr ⟨b, P - bs_cc v1 (nd_b v1 v3) + 1, hb, rfl, rfl, s1, un, ?_, fun g hg s2 => ?_, ?_⟩
        · rw [bg_us]; omega
        · have e : g ≠ b := fun e => by
            rw [e, s1] at s2
            exact absurd s2 (by decide)
          rw [bg_un e]
          exact lo g hg s2
        · rw [bg_us]
          have ep : P - bs_cc v1 (nd_b v1 v3) + 1 = bs_pc (rl_c (rl_K (upd a_bk (b * 128 + sz b) v1) b) (rl_K (upd a_bb (b * 128 + sz b) (nd_b v1 v3)) b)) (sz b + 1) := by
            rw [bs_pc_s, cz, ← bs_pc_congr (sz b) cc, eP]
          refine ⟨ep, fun q hq => ?_⟩
          cases q with
          | zero =>
            rw [bs_sc_0, show P - bs_cc v1 (nd_b v1 v3) + 1 - 1 - 0 = P - bs_cc v1 (nd_b v1 v3) by omega, show S b + (sz b + 1 - 1) = U by omega]
            exact ⟨pk_us, pk_us⟩
          | succ q =>
            have r := row (q + bs_cc v1 (nd_b v1 v3)) (by omega)
            obtain ⟨p1, p2⟩ := pp (q + bs_cc v1 (nd_b v1 v3)) (by omega)
            rw [bs_sc_s, cz, ← bs_sc_congr (sz b) cc]
            refine ⟨?_, ?_⟩
            · rw [pk_un (by omega), show P - bs_cc v1 (nd_b v1 v3) + 1 - 1 - (q + 1) = P - 1 - (q + bs_cc v1 (nd_b v1 v3)) by omega]
              exact p1
            · rw [pk_un (by omega), a4 _ (fun i hi z => ?_)]
              · exact p2
              · have ps := pos.1 (bs_cc v1 (nd_b v1 v3) - 1 - i) (by omega)
                have gt := bs_sc_gt (c := (rl_c (rl_K a_bk b) (rl_K a_bb b))) (n := sz b) (q := bs_cc v1 (nd_b v1 v3) - 1 - i) (q' := q + bs_cc v1 (nd_b v1 v3)) (by omega) ps
                have ps2 := pos.1 (q + bs_cc v1 (nd_b v1 v3)) (by omega)
                omega
    · refine ye_node hN hb0 hb hkk ekk (fun ft => ?_) (fun _ => ⟨rfl, J⟩)
      refine yn_132 hN hC hU hb ft rfl hs hsum rfl rfl hB e2 eU (fun c1 c2 c3 ds => absurd ⟨ft, by rw [eP]; exact c1, c2, c3⟩ no) (fun _ ds => ⟨rfl, ?_⟩)
      exact ⟨N, C, U, sz, S, tb, rfl, rfl, rfl, rfl, rfl, rfl, rfl, rfl, rfl, rfl, rfl, ⟨hN1, hN, hC1, hC, hU⟩, hcur, hsum, hs, hb0, htab⟩
end

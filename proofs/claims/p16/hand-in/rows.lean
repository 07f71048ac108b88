section
theorem nx_and (a b : Nat) : nI a &&& nI b = nI (a &&& b) := by
  apply Int32.toBitVec_inj.1
  show BitVec.ofNat 32 a &&& BitVec.ofNat 32 b = BitVec.ofNat 32 (a &&& b)
  apply BitVec.eq_of_getLsbD_eq
  intro i hi
  simp [hi]
end
section
/-- a type: (the atoms' mask, how far down its low bound lies (0: no integers, 1: 8, .., 17: -8, 18: -99), how far up its high bound lies (1: -8, .., 17: 8, 18: 99)) -/
abbrev ty_T : Type := Nat × Nat × Nat
def ty_0 : ty_T := (0, 0, 0)
def ty_any : ty_T := (255, 18, 18)
def ty_ints : ty_T := (0, 18, 18)
def ty_ats : ty_T := (255, 0, 0)
def ty_bool : ty_T := (3, 0, 0)
def ty_ok (t : ty_T) : Prop := t.1 < 256 ∧ ((t.2.1 = 0 ∧ t.2.2 = 0) ∨ (1 ≤ t.2.1 ∧ t.2.1 ≤ 18 ∧ 1 ≤ t.2.2 ∧ t.2.2 ≤ 18 ∧ 18 ≤ t.2.1 + t.2.2))
def ty_join (s t : ty_T) : ty_T := (s.1 ||| t.1, max s.2.1 t.2.1, max s.2.2 t.2.2)
def ty_meet (s t : ty_T) : ty_T := if min s.2.1 t.2.1 + min s.2.2 t.2.2 < 18 then (s.1 &&& t.1, 0, 0) else (s.1 &&& t.1, min s.2.1 t.2.1, min s.2.2 t.2.2)
def ty_ms (a b : Nat) : Prop := ∀ i, a.testBit i = true → b.testBit i = true
def ty_le (s t : ty_T) : Prop := ty_ms s.1 t.1 ∧ s.2.1 ≤ t.2.1 ∧ s.2.2 ≤ t.2.2
theorem ty_ext {s t : ty_T} (h1 : s.1 = t.1) (h2 : s.2.1 = t.2.1) (h3 : s.2.2 = t.2.2) : s = t := by
  obtain ⟨a, b, c⟩ := s
  obtain ⟨a', b', c'⟩ := t
  simp only at h1 h2 h3
  subst h1 h2 h3
  rfl
theorem ty_0_ok : ty_ok ty_0 := ⟨by decide, Or.inl ⟨rfl, rfl⟩⟩
theorem ty_any_ok : ty_ok ty_any := ⟨by decide, Or.inr (by decide)⟩
theorem ty_ints_ok : ty_ok ty_ints := ⟨by decide, Or.inr (by decide)⟩
theorem ty_ats_ok : ty_ok ty_ats := ⟨by decide, Or.inl ⟨rfl, rfl⟩⟩
theorem ty_bool_ok : ty_ok ty_bool := ⟨by decide, Or.inl ⟨rfl, rfl⟩⟩
theorem ty_join_ok {s t : ty_T} (hs : ty_ok s) (ht : ty_ok t) : ty_ok (ty_join s t) := by
  obtain ⟨a, b, c⟩ := s
  obtain ⟨a', b', c'⟩ := t
  obtain ⟨h1, h2⟩ := hs
  obtain ⟨h3, h4⟩ := ht
  simp only at h1 h2 h3 h4
  refine ⟨Nat.or_lt_two_pow (n := 8) h1 h3, ?_⟩
  simp only [ty_join]
  omega
theorem ty_meet_ok {s t : ty_T} (hs : ty_ok s) (ht : ty_ok t) : ty_ok (ty_meet s t) := by
  obtain ⟨a, b, c⟩ := s
  obtain ⟨a', b', c'⟩ := t
  obtain ⟨h1, h2⟩ := hs
  obtain ⟨h3, h4⟩ := ht
  simp only at h1 h2 h3 h4
  have h5 : a &&& a' < 256 := Nat.and_lt_two_pow (n := 8) a h3
  simp only [ty_meet]
  split
  · exact ⟨h5, Or.inl ⟨rfl, rfl⟩⟩
  · refine ⟨h5, Or.inr ?_⟩
    simp only
    omega
theorem ty_ms_rfl (a : Nat) : ty_ms a a := fun _ h => h
theorem ty_le_rfl (s : ty_T) : ty_le s s := ⟨ty_ms_rfl _, Nat.le_refl _, Nat.le_refl _⟩
theorem ty_le_trans {s t u : ty_T} (h : ty_le s t) (g : ty_le t u) : ty_le s u :=
  ⟨fun i hi => g.1 i (h.1 i hi), Nat.le_trans h.2.1 g.2.1, Nat.le_trans h.2.2 g.2.2⟩
theorem ty_0_le (s : ty_T) : ty_le ty_0 s := ⟨fun i hi => by simp [ty_0] at hi, Nat.zero_le _, Nat.zero_le _⟩
theorem ty_le_0 {s : ty_T} (h : ty_le s ty_0) : s = ty_0 := by
  refine ty_ext (Nat.eq_of_testBit_eq fun i => ?_) (Nat.le_zero.mp h.2.1) (Nat.le_zero.mp h.2.2)
  have := h.1 i
  simp only [ty_0, Nat.zero_testBit] at this ⊢
  cases e : s.1.testBit i
  · rfl
  · exact absurd (this e) (by decide)
theorem ty_le_ne {s t : ty_T} (h : ty_le s t) (hs : s ≠ ty_0) : t ≠ ty_0 := fun e => hs (ty_le_0 (e ▸ h))
theorem ty_ms_ne {a b : Nat} (h : ty_ms a b) (ha : a ≠ 0) : b ≠ 0 := by
  intro e
  apply ha
  apply Nat.eq_of_testBit_eq
  intro i
  have := h i
  rw [e] at this
  simp only [Nat.zero_testBit] at this ⊢
  cases e : a.testBit i
  · rfl
  · exact absurd (this e) (by decide)
theorem ty_ms_or {a b a' b' : Nat} (h : ty_ms a a') (g : ty_ms b b') : ty_ms (a ||| b) (a' ||| b') := by
  intro i
  have h1 := h i
  have h2 := g i
  simp only [Nat.testBit_or, Bool.or_eq_true]
  exact fun z => z.elim (fun z => Or.inl (h1 z)) (fun z => Or.inr (h2 z))
theorem ty_ms_and {a b a' b' : Nat} (h : ty_ms a a') (g : ty_ms b b') : ty_ms (a &&& b) (a' &&& b') := by
  intro i
  have h1 := h i
  have h2 := g i
  simp only [Nat.testBit_and, Bool.and_eq_true]
  exact fun z => ⟨h1 z.1, h2 z.2⟩
theorem ty_join_le {s t s' t' : ty_T} (h : ty_le s s') (g : ty_le t t') : ty_le (ty_join s t) (ty_join s' t') := by
  obtain ⟨h1, h2, h3⟩ := h
  obtain ⟨g1, g2, g3⟩ := g
  refine ⟨ty_ms_or h1 g1, ?_, ?_⟩ <;> simp only [ty_join] <;> omega
theorem ty_join_l (s t : ty_T) : ty_le s (ty_join s t) := by
  refine ⟨?_, ?_, ?_⟩
  · intro i hi
    simp [ty_join, hi]
  · simp only [ty_join]; omega
  · simp only [ty_join]; omega
theorem ty_join_r (s t : ty_T) : ty_le t (ty_join s t) := by
  refine ⟨?_, ?_, ?_⟩
  · intro i hi
    simp [ty_join, hi]
  · simp only [ty_join]; omega
  · simp only [ty_join]; omega
theorem ty_join_0 (s : ty_T) : ty_join s ty_0 = s := by
  refine ty_ext ?_ ?_ ?_ <;> simp [ty_join, ty_0]
theorem ty_0_join (s : ty_T) : ty_join ty_0 s = s := by
  refine ty_ext ?_ ?_ ?_ <;> simp [ty_join, ty_0]
theorem ty_meet_le {s t s' t' : ty_T} (h : ty_le s s') (g : ty_le t t') : ty_le (ty_meet s t) (ty_meet s' t') := by
  obtain ⟨h1, h2, h3⟩ := h
  obtain ⟨g1, g2, g3⟩ := g
  have m := ty_ms_and h1 g1
  unfold ty_meet
  split
  · split
    · exact ⟨m, Nat.le_refl _, Nat.le_refl _⟩
    · exact ⟨m, Nat.zero_le _, Nat.zero_le _⟩
  · split
    · omega
    · refine ⟨m, ?_, ?_⟩ <;> simp only <;> omega
theorem ty_meet_0 (s : ty_T) : ty_meet ty_0 s = ty_0 := by
  simp [ty_meet, ty_0]
theorem ty_0_meet (s : ty_T) : ty_meet s ty_0 = ty_0 := by
  simp [ty_meet, ty_0]
/-- how many of the eight atoms -/
def ty_pop (m : Nat) : Nat := (m.testBit 0).toNat + (m.testBit 1).toNat + (m.testBit 2).toNat + (m.testBit 3).toNat + (m.testBit 4).toNat + (m.testBit 5).toNat + (m.testBit 6).toNat + (m.testBit 7).toNat
theorem ty_bit_le {a b : Nat} (h : ty_ms a b) (i : Nat) : (a.testBit i).toNat ≤ (b.testBit i).toNat := by
  have := h i
  cases e : a.testBit i
  · simp
  · rw [this e]; exact Nat.le_refl _
theorem ty_bit_1 (b : Bool) : b.toNat ≤ 1 := by cases b <;> decide
theorem ty_pop_8 (m : Nat) : ty_pop m ≤ 8 := by
  have h := fun i => ty_bit_1 (m.testBit i)
  have h0 := h 0; have h1 := h 1; have h2 := h 2; have h3 := h 3; have h4 := h 4; have h5 := h 5; have h6 := h 6; have h7 := h 7
  unfold ty_pop
  omega
theorem ty_pop_le {a b : Nat} (h : ty_ms a b) : ty_pop a ≤ ty_pop b := by
  have h := ty_bit_le h
  have h0 := h 0; have h1 := h 1; have h2 := h 2; have h3 := h 3; have h4 := h 4; have h5 := h 5; have h6 := h 6; have h7 := h 7
  unfold ty_pop
  omega
theorem ty_bit_inj {a b : Bool} (h : a.toNat = b.toNat) : a = b := by
  cases a <;> cases b <;> first | rfl | exact absurd h (by decide)
theorem ty_pop_eq {a b : Nat} (h : ty_ms a b) (ha : a < 256) (hb : b < 256) (e : ty_pop b ≤ ty_pop a) : a = b := by
  have h := ty_bit_le h
  have h0 := h 0; have h1 := h 1; have h2 := h 2; have h3 := h 3; have h4 := h 4; have h5 := h 5; have h6 := h 6; have h7 := h 7
  unfold ty_pop at e
  apply Nat.eq_of_testBit_eq
  intro i
  by_cases hi : i < 8
  · apply ty_bit_inj
    have : i = 0 ∨ i = 1 ∨ i = 2 ∨ i = 3 ∨ i = 4 ∨ i = 5 ∨ i = 6 ∨ i = 7 := by omega
    rcases this with rfl | rfl | rfl | rfl | rfl | rfl | rfl | rfl <;> omega
  · have p : 2 ^ 8 ≤ 2 ^ i := Nat.pow_le_pow_right (by decide) (by omega)
    have p8 : (2 : Nat) ^ 8 = 256 := by decide
    rw [Nat.testBit_lt_two_pow (by omega), Nat.testBit_lt_two_pow (by omega)]
def ty_mu (t : ty_T) : Nat := ty_pop t.1 + t.2.1 + t.2.2
theorem ty_mu_44 {t : ty_T} (h : ty_ok t) : ty_mu t ≤ 44 := by
  have := ty_pop_8 t.1
  obtain ⟨_, h⟩ := h
  unfold ty_mu
  omega
theorem ty_mu_le {s t : ty_T} (h : ty_le s t) : ty_mu s ≤ ty_mu t := by
  have := ty_pop_le h.1
  have := h.2.1
  have := h.2.2
  unfold ty_mu
  omega
theorem ty_mu_eq {s t : ty_T} (hs : ty_ok s) (ht : ty_ok t) (h : ty_le s t) (e : ty_mu t ≤ ty_mu s) : s = t := by
  have h1 := ty_pop_le h.1
  have h2 := h.2.1
  have h3 := h.2.2
  unfold ty_mu at e
  exact ty_ext (ty_pop_eq h.1 hs.1 ht.1 (by omega)) (by omega) (by omega)
/-- the bounds' values -/
def ty_lv (l : Nat) : Int := if l = 18 then -99 else 9 - (l : Int)
def ty_hv (h : Nat) : Int := if h = 18 then 99 else (h : Int) - 9
def ty_rl (a : Int) : Nat := if a < -8 then 18 else if 8 < a then 1 else (9 - a).toNat
def ty_rh (b : Int) : Nat := if 8 < b then 18 else if b < -8 then 1 else (b + 9).toNat
theorem ty_lv_le {l l' : Nat} (h : l ≤ l') (h' : l' ≤ 18) : ty_lv l' ≤ ty_lv l := by
  unfold ty_lv; split <;> split <;> omega
theorem ty_hv_le {l l' : Nat} (h : l ≤ l') (h' : l' ≤ 18) : ty_hv l ≤ ty_hv l' := by
  unfold ty_hv; split <;> split <;> omega
theorem ty_rl_le {a a' : Int} (h : a' ≤ a) : ty_rl a ≤ ty_rl a' := by
  unfold ty_rl; split <;> split <;> (try split) <;> (try split) <;> omega
theorem ty_rh_le {a a' : Int} (h : a ≤ a') : ty_rh a ≤ ty_rh a' := by
  unfold ty_rh; split <;> split <;> (try split) <;> (try split) <;> omega
theorem ty_rl_in (a : Int) : 1 ≤ ty_rl a ∧ ty_rl a ≤ 18 := by
  unfold ty_rl; split <;> (try split) <;> omega
theorem ty_rh_in (a : Int) : 1 ≤ ty_rh a ∧ ty_rh a ≤ 18 := by
  unfold ty_rh; split <;> (try split) <;> omega
theorem ty_r_18 {a b : Int} (h : a ≤ b) : 18 ≤ ty_rl a + ty_rh b := by
  unfold ty_rl ty_rh; split <;> split <;> (try split) <;> (try split) <;> omega
theorem ty_r_ok {a b : Int} (h : a ≤ b) : ty_ok (0, ty_rl a, ty_rh b) :=
  ⟨(show (0 : Nat) < 256 by decide), Or.inr ⟨(ty_rl_in a).1, (ty_rl_in a).2, (ty_rh_in b).1, (ty_rh_in b).2, ty_r_18 h⟩⟩
theorem ty_lh {t : ty_T} (h : ty_ok t) (h0 : t.2.1 ≠ 0) : ty_lv t.2.1 ≤ ty_hv t.2.2 := by
  obtain ⟨_, h⟩ := h
  unfold ty_lv ty_hv; split <;> split <;> omega
end
section
theorem ty_or (a b : Nat) : nI a ||| nI b = nI (a ||| b) := by
  apply Int32.toBitVec_inj.1
  show BitVec.ofNat 32 a ||| BitVec.ofNat 32 b = BitVec.ofNat 32 (a ||| b)
  apply BitVec.eq_of_getLsbD_eq
  intro i hi
  simp [hi]
theorem ty_mask (w k n : Nat) : n &&& ((2 ^ w - 1) * 2 ^ k) = (n / 2 ^ k % 2 ^ w) * 2 ^ k := by
  rw [← Nat.shiftLeft_eq, ← Nat.shiftLeft_eq, ← Nat.shiftRight_eq_div_pow]
  apply Nat.eq_of_testBit_eq
  intro i
  rw [Nat.testBit_and, Nat.testBit_shiftLeft, Nat.testBit_shiftLeft, Nat.testBit_mod_two_pow, Nat.testBit_shiftRight, Nat.testBit_two_pow_sub_one]
  by_cases h : k ≤ i
  · rw [Nat.add_sub_cancel' h]
    simp [h, Bool.and_comm]
  · simp [h]
/-- the four fields of a number: eight bits, eight bits, eight bits, the rest -/
theorem ty_f0 {m L H F : Nat} (hm : m < 256) : (m + 256 * L + 65536 * H + 16777216 * F) &&& 255 = m := by
  have h : (m + 256 * L + 65536 * H + 16777216 * F) &&& 255 = (m + 256 * L + 65536 * H + 16777216 * F) / 1 % 256 * 1 := ty_mask 8 0 _
  rw [h]; omega
theorem ty_f1 {m L H F : Nat} (hm : m < 256) (hL : L < 256) : (m + 256 * L + 65536 * H + 16777216 * F) &&& 65280 = 256 * L := by
  have h : (m + 256 * L + 65536 * H + 16777216 * F) &&& 65280 = (m + 256 * L + 65536 * H + 16777216 * F) / 256 % 256 * 256 := ty_mask 8 8 _
  rw [h]; omega
theorem ty_f2 {m L H F : Nat} (hm : m < 256) (hL : L < 256) (hH : H < 256) : (m + 256 * L + 65536 * H + 16777216 * F) &&& 16711680 = 65536 * H := by
  have h : (m + 256 * L + 65536 * H + 16777216 * F) &&& 16711680 = (m + 256 * L + 65536 * H + 16777216 * F) / 65536 % 256 * 65536 := ty_mask 8 16 _
  rw [h]; omega
theorem ty_f12 {m L H F : Nat} (hm : m < 256) (hL : L < 256) (hH : H < 256) : (m + 256 * L + 65536 * H + 16777216 * F) &&& 16776960 = 256 * L + 65536 * H := by
  have h : (m + 256 * L + 65536 * H + 16777216 * F) &&& 16776960 = (m + 256 * L + 65536 * H + 16777216 * F) / 256 % 65536 * 256 := ty_mask 16 8 _
  rw [h]; omega
theorem ty_o1 {m : Nat} (hm : m < 256) (L : Nat) : m ||| 256 * L = m + 256 * L := by
  have := Nat.two_pow_add_eq_or_of_lt (i := 8) hm L
  rw [Nat.or_comm]
  have e : (2 : Nat) ^ 8 = 256 := by decide
  rw [e] at this
  omega
theorem ty_o2 {m : Nat} (hm : m < 65536) (H : Nat) : m ||| 65536 * H = m + 65536 * H := by
  have := Nat.two_pow_add_eq_or_of_lt (i := 16) hm H
  rw [Nat.or_comm]
  have e : (2 : Nat) ^ 16 = 65536 := by decide
  rw [e] at this
  omega
theorem ty_o3 {m : Nat} (hm : m < 16777216) (H : Nat) : m ||| 16777216 * H = m + 16777216 * H := by
  have := Nat.two_pow_add_eq_or_of_lt (i := 24) hm H
  rw [Nat.or_comm]
  have e : (2 : Nat) ^ 24 = 16777216 := by decide
  rw [e] at this
  omega
/-- a type as the component keeps it, and as the reference keeps it -/
def ty_L (l : Nat) : Nat := if l = 0 then 0 else if l = 18 then 1 else 109 - l
def ty_H (h : Nat) : Nat := if h = 0 then 0 else if h = 18 then 199 else 91 + h
def ty_e (l : Nat) : Nat := if l = 0 then 0 else 1
def ty_xn (t : ty_T) : Nat := t.1 + 256 * ty_L t.2.1 + 65536 * ty_H t.2.2 + 16777216 * 0
def ty_yn (t : ty_T) : Nat := t.1 + 256 * (ty_L t.2.1 + 28 * ty_e t.2.1) + 65536 * (ty_H t.2.2 + 28 * ty_e t.2.1) + 16777216 * ty_e t.2.1
def ty_x (t : ty_T) : Int32 := nI (ty_xn t)
def ty_y (t : ty_T) : Int32 := nI (ty_yn t)
theorem ty_L_lt (l : Nat) : ty_L l < 110 := by
  unfold ty_L; split <;> (try split) <;> omega
theorem ty_H_lt {h : Nat} (hh : h ≤ 18) : ty_H h < 200 := by
  unfold ty_H; split <;> (try split) <;> omega
theorem ty_e_le (l : Nat) : ty_e l ≤ 1 := by
  unfold ty_e; split <;> omega
theorem ty_ok_h {t : ty_T} (h : ty_ok t) : t.2.2 ≤ 18 := by
  obtain ⟨_, h⟩ := h; omega
theorem ty_ok_l {t : ty_T} (h : ty_ok t) : t.2.1 ≤ 18 := by
  obtain ⟨_, h⟩ := h; omega
theorem ty_xn_lt {t : ty_T} (h : ty_ok t) : ty_xn t < 2 ^ 24 := by
  have h1 := ty_L_lt t.2.1
  have h2 := ty_H_lt (ty_ok_h h)
  have h3 := h.1
  unfold ty_xn
  omega
theorem ty_yn_lt {t : ty_T} (h : ty_ok t) : ty_yn t < 2 ^ 25 := by
  have h1 := ty_L_lt t.2.1
  have h2 := ty_H_lt (ty_ok_h h)
  have h3 := h.1
  have h4 := ty_e_le t.2.1
  unfold ty_yn
  omega
theorem ty_L_inj {l l' : Nat} (h : l ≤ 18) (h' : l' ≤ 18) (e : ty_L l = ty_L l') : l = l' := by
  unfold ty_L at e
  split at e <;> split at e <;> (try split at e) <;> (try split at e) <;> omega
theorem ty_H_inj {l l' : Nat} (h : l ≤ 18) (h' : l' ≤ 18) (e : ty_H l = ty_H l') : l = l' := by
  unfold ty_H at e
  split at e <;> split at e <;> (try split at e) <;> (try split at e) <;> omega
theorem ty_x_inj {s t : ty_T} (hs : ty_ok s) (ht : ty_ok t) (e : ty_x s = ty_x t) : s = t := by
  have a := ty_xn_lt hs
  have b := ty_xn_lt ht
  have e := (nI_eq (by omega) (by omega)).mp e
  have h1 := ty_L_lt s.2.1
  have h2 := ty_H_lt (ty_ok_h hs)
  have h3 := hs.1
  have g1 := ty_L_lt t.2.1
  have g2 := ty_H_lt (ty_ok_h ht)
  have g3 := ht.1
  unfold ty_xn at e
  exact ty_ext (by omega) (ty_L_inj (ty_ok_l hs) (ty_ok_l ht) (by omega)) (ty_H_inj (ty_ok_h hs) (ty_ok_h ht) (by omega))
theorem ty_e_eq {l : Nat} : ty_e l = 0 ↔ l = 0 := by
  unfold ty_e; split <;> omega
theorem ty_y_inj {s t : ty_T} (hs : ty_ok s) (ht : ty_ok t) (e : ty_y s = ty_y t) : s = t := by
  have a := ty_yn_lt hs
  have b := ty_yn_lt ht
  have e := (nI_eq (by omega) (by omega)).mp e
  have h1 := ty_L_lt s.2.1
  have h2 := ty_H_lt (ty_ok_h hs)
  have h3 := hs.1
  have h4 := ty_e_le s.2.1
  have g1 := ty_L_lt t.2.1
  have g2 := ty_H_lt (ty_ok_h ht)
  have g3 := ht.1
  have g4 := ty_e_le t.2.1
  unfold ty_yn at e
  have e0 : ty_e s.2.1 = ty_e t.2.1 := by omega
  rw [e0] at e
  exact ty_ext (by omega) (ty_L_inj (ty_ok_l hs) (ty_ok_l ht) (by omega)) (ty_H_inj (ty_ok_h hs) (ty_ok_h ht) (by omega))
theorem ty_x_00 : ty_x ty_0 = 0 := by decide
theorem ty_y_00 : ty_y ty_0 = 0 := by decide
theorem ty_x_0 {t : ty_T} (h : ty_ok t) : ty_x t = 0 ↔ t = ty_0 := by
  rw [← ty_x_00]
  exact ⟨ty_x_inj h ty_0_ok, fun e => by rw [e]⟩
theorem ty_y_0 {t : ty_T} (h : ty_ok t) : ty_y t = 0 ↔ t = ty_0 := by
  rw [← ty_y_00]
  exact ⟨ty_y_inj h ty_0_ok, fun e => by rw [e]⟩
theorem ty_i255 : (255 : Int32) = nI 255 := by decide
theorem ty_xm {t : ty_T} (h : ty_ok t) : ty_x t &&& 255 = nI t.1 := by
  rw [ty_i255, ty_x, nx_and, ty_xn, ty_f0 h.1]
theorem ty_xl {t : ty_T} (h : ty_ok t) : ty_x t &&& 65280 = nI (256 * ty_L t.2.1) := by
  rw [show (65280 : Int32) = nI 65280 by decide, ty_x, nx_and, ty_xn, ty_f1 h.1 (Nat.lt_trans (ty_L_lt _) (by decide))]
theorem ty_xh {t : ty_T} (h : ty_ok t) : ty_x t &&& 16711680 = nI (65536 * ty_H t.2.2) := by
  rw [show (16711680 : Int32) = nI 16711680 by decide, ty_x, nx_and, ty_xn, ty_f2 h.1 (Nat.lt_trans (ty_L_lt _) (by decide)) (Nat.lt_trans (ty_H_lt (ty_ok_h h)) (by decide))]
theorem ty_xi {t : ty_T} (h : ty_ok t) : ty_x t &&& 16776960 = nI (256 * ty_L t.2.1 + 65536 * ty_H t.2.2) := by
  rw [show (16776960 : Int32) = nI 16776960 by decide, ty_x, nx_and, ty_xn, ty_f12 h.1 (Nat.lt_trans (ty_L_lt _) (by decide)) (Nat.lt_trans (ty_H_lt (ty_ok_h h)) (by decide))]
theorem ty_L_0 {l : Nat} (h : l ≤ 18) : ty_L l = 0 ↔ l = 0 := by
  unfold ty_L; split <;> (try split) <;> omega
theorem ty_H_0 {l : Nat} : ty_H l = 0 ↔ l = 0 := by
  unfold ty_H; split <;> (try split) <;> omega
theorem ty_ok_0 {t : ty_T} (h : ty_ok t) : t.2.1 = 0 ↔ t.2.2 = 0 := by
  obtain ⟨_, h⟩ := h; omega
/-- hasInts -/
theorem ty_xi0 {t : ty_T} (h : ty_ok t) : ty_x t &&& 16776960 = 0 ↔ t.2.1 = 0 := by
  rw [ty_xi h, ← nI_0]
  have h1 := ty_L_lt t.2.1
  have h2 := ty_H_lt (ty_ok_h h)
  rw [nI_eq (by omega) (by omega)]
  have h3 := ty_L_0 (ty_ok_l h)
  have h4 := @ty_H_0 t.2.2
  have h5 := ty_ok_0 h
  omega
/-- the component's parts put together -/
theorem ty_x3 (m l h : Nat) (hm : m < 256) (hh : h ≤ 18) : nI m ||| nI (256 * ty_L l) ||| nI (65536 * ty_H h) = ty_x (m, l, h) := by
  have h1 := ty_L_lt l
  rw [ty_or, ty_or, ty_o1 hm, ty_o2 (by omega)]
  rfl
theorem ty_x2 (l h : Nat) (hh : h ≤ 18) : nI (256 * ty_L l) ||| nI (65536 * ty_H h) = ty_x (0, l, h) := by
  rw [← ty_x3 0 l h (by decide) hh, nI_0, Int32.zero_or]
theorem ty_x2' (m l h : Nat) (hm : m < 256) (hh : h ≤ 18) : nI m ||| nI (256 * ty_L l + 65536 * ty_H h) = ty_x (m, l, h) := by
  have h1 := ty_L_lt l
  rw [ty_or, show 256 * ty_L l + 65536 * ty_H h = 256 * (ty_L l + 256 * ty_H h) by omega, ty_o1 hm, show m + 256 * (ty_L l + 256 * ty_H h) = m + 256 * ty_L l + 65536 * ty_H h + 16777216 * 0 by omega]
  rfl
theorem ty_x1 (m : Nat) : nI m = ty_x (m, 0, 0) := rfl
theorem ty_y1 (m : Nat) : nI m = ty_y (m, 0, 0) := rfl
/-- the bounds' values as ints -/
def ty_lw (l : Nat) : Int32 := Int32.ofInt (ty_lv l)
def ty_hw (h : Nat) : Int32 := Int32.ofInt (ty_hv h)
theorem ty_lw_t : ∀ l, l < 19 → (ty_lw l).toInt = ty_lv l := by decide +kernel
theorem ty_hw_t : ∀ l, l < 19 → (ty_hw l).toInt = ty_hv l := by decide +kernel
theorem ty_lw_x : ∀ l, l < 19 → 0 < l → nI (ty_L l) - 100 = ty_lw l := by decide +kernel
theorem ty_hw_x : ∀ l, l < 19 → 0 < l → nI (ty_H l) - 100 = ty_hw l := by decide +kernel
theorem ty_lw_y : ∀ l, l < 19 → 0 < l → nI (ty_L l + 28 * ty_e l) - 128 = ty_lw l := by decide +kernel
theorem ty_hw_y : ∀ l, l < 19 → 0 < l → nI (ty_H l + 28 * ty_e l) - 128 = ty_hw l := by decide +kernel
theorem ty_lw_a : ∀ l, l < 19 → 0 < l → ty_lw l + 100 = nI (ty_L l) := by decide +kernel
theorem ty_hw_a : ∀ l, l < 19 → 0 < l → ty_hw l + 100 = nI (ty_H l) := by decide +kernel
theorem ty_lw_b : ∀ l, l < 19 → 0 < l → ty_lw l + 128 = nI (ty_L l + 28 * ty_e l) := by decide +kernel
theorem ty_hw_b : ∀ l, l < 19 → 0 < l → ty_hw l + 128 = nI (ty_H l + 28 * ty_e l) := by decide +kernel
theorem ty_sh8 {n : Nat} (h : n < 2 ^ 31) : nI n >>> ((8 : Int32) &&& 31) = nI (n / 256) := pk_shrN h _ 8 (by decide)
theorem ty_sh16 {n : Nat} (h : n < 2 ^ 31) : nI n >>> ((16 : Int32) &&& 31) = nI (n / 65536) := pk_shrN h _ 16 (by decide)
theorem ty_sh24 {n : Nat} (h : n < 2 ^ 31) : nI n >>> ((24 : Int32) &&& 31) = nI (n / 16777216) := pk_shrN h _ 24 (by decide)
theorem ty_sl8 {n : Nat} (h : n < 2 ^ 16) : nI n <<< ((8 : Int32) &&& 31) = nI (256 * n) := by
  rw [Nat.mul_comm]; exact pk_shlN _ 8 (by decide) (by omega)
theorem ty_sl16 {n : Nat} (h : n < 2 ^ 14) : nI n <<< ((16 : Int32) &&& 31) = nI (65536 * n) := by
  rw [Nat.mul_comm]; exact pk_shlN _ 16 (by decide) (by omega)
/-- lowOf, highOf -/
theorem ty_xlow {t : ty_T} (h : ty_ok t) (h0 : t.2.1 ≠ 0) : ((ty_x t &&& 65280) >>> ((8 : Int32) &&& 31)) - 100 = ty_lw t.2.1 := by
  have h1 := ty_L_lt t.2.1
  rw [ty_xl h, ty_sh8 (by omega), show 256 * ty_L t.2.1 / 256 = ty_L t.2.1 by omega]
  exact ty_lw_x _ (by have := ty_ok_l h; omega) (by omega)
theorem ty_xhigh {t : ty_T} (h : ty_ok t) (h0 : t.2.1 ≠ 0) : ((ty_x t &&& 16711680) >>> ((16 : Int32) &&& 31)) - 100 = ty_hw t.2.2 := by
  have h1 := ty_H_lt (ty_ok_h h)
  have h2 := ty_ok_0 h
  rw [ty_xh h, ty_sh16 (by omega), show 65536 * ty_H t.2.2 / 65536 = ty_H t.2.2 by omega]
  exact ty_hw_x _ (by have := ty_ok_h h; omega) (by omega)
/-- has, lo, hi of the reference -/
theorem ty_ym {t : ty_T} (h : ty_ok t) : ty_y t &&& 255 = nI t.1 := by
  rw [ty_i255, ty_y, nx_and, ty_yn, ty_f0 h.1]
theorem ty_a255 (n : Nat) : nI n &&& 255 = nI (n % 256) := by
  have h : n &&& 255 = n / 1 % 256 * 1 := ty_mask 8 0 _
  rw [ty_i255, nx_and, h, Nat.div_one, Nat.mul_one]
theorem ty_a1 (n : Nat) : nI n &&& 1 = nI (n % 2) := by
  have h : n &&& 1 = n / 1 % 2 * 1 := ty_mask 1 0 _
  rw [show (1 : Int32) = nI 1 by decide, nx_and, h, Nat.div_one, Nat.mul_one]
theorem ty_yhas {t : ty_T} (h : ty_ok t) : (ty_y t >>> ((24 : Int32) &&& 31)) &&& 1 = nI (ty_e t.2.1) := by
  have h0 := ty_yn_lt h
  have h1 := ty_L_lt t.2.1
  have h2 := ty_H_lt (ty_ok_h h)
  have h3 := h.1
  have h4 := ty_e_le t.2.1
  rw [ty_y, ty_sh24 (by omega), ty_a1]
  congr 1
  unfold ty_yn
  rcases (show ty_e t.2.1 = 0 ∨ ty_e t.2.1 = 1 by omega) with e | e <;> rw [e] <;> omega
theorem ty_yhas0 {t : ty_T} (h : ty_ok t) : (ty_y t >>> ((24 : Int32) &&& 31)) &&& 1 = 0 ↔ t.2.1 = 0 := by
  have h4 := ty_e_le t.2.1
  rw [ty_yhas h, ← nI_0, nI_eq (by omega) (by omega)]
  exact ty_e_eq
theorem ty_e_lh {t : ty_T} (h : ty_ok t) : ty_e t.2.1 = ty_e t.2.2 := by
  have := ty_ok_0 h
  unfold ty_e; split <;> split <;> omega
theorem ty_ylow {t : ty_T} (h : ty_ok t) (h0 : t.2.1 ≠ 0) : ((ty_y t >>> ((8 : Int32) &&& 31)) &&& 255) - 128 = ty_lw t.2.1 := by
  have hn := ty_yn_lt h
  have h1 := ty_L_lt t.2.1
  have h2 := ty_H_lt (ty_ok_h h)
  have h3 := h.1
  have h4 := ty_e_le t.2.1
  rw [ty_y, ty_sh8 (by omega), ty_a255, show ty_yn t / 256 % 256 = ty_L t.2.1 + 28 * ty_e t.2.1 by unfold ty_yn; omega]
  exact ty_lw_y _ (by have := ty_ok_l h; omega) (by omega)
theorem ty_yhigh {t : ty_T} (h : ty_ok t) (h0 : t.2.1 ≠ 0) : ((ty_y t >>> ((16 : Int32) &&& 31)) &&& 255) - 128 = ty_hw t.2.2 := by
  have hn := ty_yn_lt h
  have h1 := ty_L_lt t.2.1
  have h2 := ty_H_lt (ty_ok_h h)
  have h3 := h.1
  have h4 := ty_e_le t.2.1
  have h5 := ty_ok_0 h
  rw [ty_y, ty_sh16 (by omega), ty_a255, show ty_yn t / 65536 % 256 = ty_H t.2.2 + 28 * ty_e t.2.1 by unfold ty_yn; rcases (show ty_e t.2.1 = 0 ∨ ty_e t.2.1 = 1 by omega) with e | e <;> rw [e] <;> omega, ty_e_lh h]
  exact ty_hw_y _ (by have := ty_ok_h h; omega) (by omega)
/-- the reference's mk -/
theorem ty_mk0 (m : Nat) (hm : m < 256) : nI m &&& 255 = ty_y (m, 0, 0) := by
  rw [ty_a255, Nat.mod_eq_of_lt hm]; rfl
theorem ty_mk1 {m l h : Nat} (hm : m < 256) (hl0 : 0 < l) (hl : l ≤ 18) (hh0 : 0 < h) (hh : h ≤ 18) :
    ((nI m &&& 255) ||| (((ty_lw l + 128) &&& 255) <<< ((8 : Int32) &&& 31))) ||| (((ty_hw h + 128) &&& 255) <<< ((16 : Int32) &&& 31)) ||| 16777216 = ty_y (m, l, h) := by
  have h1 := ty_L_lt l
  have h2 := ty_H_lt hh
  have e1 : ty_e l = 1 := by unfold ty_e; split <;> omega
  have e2 : ty_e h = 1 := by unfold ty_e; split <;> omega
  rw [ty_lw_b l (by omega) hl0, ty_hw_b h (by omega) hh0, ty_a255, ty_a255, ty_a255, e1, e2,
    Nat.mod_eq_of_lt hm, Nat.mod_eq_of_lt (show ty_L l + 28 * 1 < 256 by omega), Nat.mod_eq_of_lt (show ty_H h + 28 * 1 < 256 by omega),
    ty_sl8 (by omega), ty_sl16 (by omega), show (16777216 : Int32) = nI (16777216 * 1) by decide,
    ty_or, ty_or, ty_or, ty_o1 hm, ty_o2 (by omega), ty_o3 (by omega)]
  unfold ty_y ty_yn
  simp only [e1]
/-- the range's bounds -/
def ty_rz (a : Int32) : Int32 := if -8 ≤ a then (if a ≤ 8 then a else 8) else -99
def ty_rw (b : Int32) : Int32 := if b ≤ 8 then (if -8 ≤ b then b else -8) else 99
theorem ty_n8 : (-8 : Int32).toInt = -8 := by decide
theorem ty_p8 : (8 : Int32).toInt = 8 := by decide
theorem ty_rz_lw (a : Int32) : ty_rz a = ty_lw (ty_rl a.toInt) := by
  unfold ty_rz ty_rl ty_lw ty_lv
  simp only [Int32.le_iff_toInt_le, ty_n8, ty_p8]
  by_cases h : -8 ≤ a.toInt
  · rw [if_pos h, if_neg (show ¬ a.toInt < -8 by omega)]
    by_cases h2 : a.toInt ≤ 8
    · rw [if_pos h2, if_neg (show ¬ 8 < a.toInt by omega), if_neg (by omega), show (9 : Int) - ((9 - a.toInt).toNat : Int) = a.toInt by omega, Int32.ofInt_toInt]
    · rw [if_neg h2, if_pos (show 8 < a.toInt by omega)]; decide
  · rw [if_neg h, if_pos (show a.toInt < -8 by omega)]; decide
theorem ty_rw_hw (a : Int32) : ty_rw a = ty_hw (ty_rh a.toInt) := by
  unfold ty_rw ty_rh ty_hw ty_hv
  simp only [Int32.le_iff_toInt_le, ty_n8, ty_p8]
  by_cases h2 : a.toInt ≤ 8
  · rw [if_pos h2, if_neg (show ¬ 8 < a.toInt by omega)]
    by_cases h : -8 ≤ a.toInt
    · rw [if_pos h, if_neg (show ¬ a.toInt < -8 by omega), if_neg (by omega), show ((a.toInt + 9).toNat : Int) - 9 = a.toInt by omega, Int32.ofInt_toInt]
    · rw [if_neg h, if_pos (show a.toInt < -8 by omega)]; decide
  · rw [if_neg h2, if_pos (show 8 < a.toInt by omega)]; decide
theorem ty_xn_m {t : ty_T} (h : ty_ok t) : ty_xn t % 256 = t.1 := by
  have := h.1
  unfold ty_xn
  omega
theorem ty_yn_m {t : ty_T} (h : ty_ok t) : ty_yn t % 256 = t.1 := by
  have := h.1
  unfold ty_yn
  omega
theorem ty_tb (m i : Nat) : m.testBit i = true ↔ m / 2 ^ i % 2 = 1 := by
  rw [Nat.testBit_eq_decide_div_mod_eq, decide_eq_true_iff]
theorem ty_b1 {n m : Nat} (h : n % 256 = m) : nI n &&& 2 = 0 ↔ ¬ m.testBit 1 = true := by
  have e : n &&& 2 = n / 2 % 2 * 2 := ty_mask 1 1 n
  rw [show (2 : Int32) = nI 2 by decide, nx_and, e, ← nI_0, nI_eq (by omega) (by omega), ty_tb]
  omega
theorem ty_b0 {n m : Nat} (h : n % 256 = m) : nI n &&& 1 = 0 ↔ ¬ m.testBit 0 = true := by
  have e : n &&& 1 = n / 1 % 2 * 1 := ty_mask 1 0 n
  rw [show (1 : Int32) = nI 1 by decide, nx_and, e, ← nI_0, nI_eq (by omega) (by omega), ty_tb]
  omega
/-- one atom's bit -/
theorem ty_bit {n m j : Nat} (h : n % 256 = m) (hn : n < 2 ^ 31) (hj : j < 8) : (nI n >>> (nI j &&& 31)) &&& 1 = nI (m / 2 ^ j % 2) := by
  have hs : ∀ j, j < 8 → ((nI j &&& 31).toBitVec.smod 32).toNat = j := by decide
  rw [pk_shrN hn _ j (hs j hj), ty_a1]
  congr 1
  have : j = 0 ∨ j = 1 ∨ j = 2 ∨ j = 3 ∨ j = 4 ∨ j = 5 ∨ j = 6 ∨ j = 7 := by omega
  rcases this with rfl | rfl | rfl | rfl | rfl | rfl | rfl | rfl <;> omega
theorem ty_and3 (a b m : Nat) : (a &&& b) &&& m = (a &&& m) &&& (b &&& m) := by
  apply Nat.eq_of_testBit_eq
  intro i
  simp only [Nat.testBit_and]
  cases a.testBit i <;> cases b.testBit i <;> cases m.testBit i <;> rfl
theorem ty_or3 (a b m : Nat) : (a ||| b) &&& m = (a &&& m) ||| (b &&& m) := by
  apply Nat.eq_of_testBit_eq
  intro i
  simp only [Nat.testBit_and, Nat.testBit_or]
  cases a.testBit i <;> cases b.testBit i <;> cases m.testBit i <;> rfl
theorem ty_xand {s t : ty_T} (hs : ty_ok s) (ht : ty_ok t) : (ty_x s &&& ty_x t) &&& 255 = nI (s.1 &&& t.1) := by
  rw [ty_i255, ty_x, ty_x, nx_and, nx_and, ty_and3, ty_xn, ty_xn, ty_f0 hs.1, ty_f0 ht.1]
theorem ty_xor {s t : ty_T} (hs : ty_ok s) (ht : ty_ok t) : (ty_x s ||| ty_x t) &&& 255 = nI (s.1 ||| t.1) := by
  rw [ty_i255, ty_x, ty_x, ty_or, nx_and, ty_or3, ty_xn, ty_xn, ty_f0 hs.1, ty_f0 ht.1]
theorem ty_yand {s t : ty_T} (hs : ty_ok s) (ht : ty_ok t) : (ty_y s &&& ty_y t) &&& 255 = nI (s.1 &&& t.1) := by
  rw [ty_i255, ty_y, ty_y, nx_and, nx_and, ty_and3, ty_yn, ty_yn, ty_f0 hs.1, ty_f0 ht.1]
theorem ty_yor {s t : ty_T} (hs : ty_ok s) (ht : ty_ok t) : (ty_y s ||| ty_y t) &&& 255 = nI (s.1 ||| t.1) := by
  rw [ty_i255, ty_y, ty_y, ty_or, nx_and, ty_or3, ty_yn, ty_yn, ty_f0 hs.1, ty_f0 ht.1]
theorem ty_ym256 {t : ty_T} (h : ty_ok t) {m : Nat} (hm : m < 256) : (ty_y t &&& (-256)) ||| nI m = ty_y (m, t.2.1, t.2.2) := by
  have hn := ty_yn_lt h
  have h1 := h.1
  have e : ty_yn t &&& 4294967040 = ty_yn t / 256 % 16777216 * 256 := ty_mask 24 8 _
  rw [show (-256 : Int32) = nI 4294967040 by decide, ty_y, nx_and, e, ty_or, Nat.or_comm, Nat.mul_comm, ty_o1 hm]
  unfold ty_y
  congr 1
  unfold ty_yn at hn ⊢
  simp only
  omega
theorem ty_lw_le : ∀ l, l < 19 → ∀ l', l' < 19 → 0 < l → 0 < l' → (ty_lw l ≤ ty_lw l' ↔ l' ≤ l) := by decide +kernel
theorem ty_hw_le : ∀ l, l < 19 → ∀ l', l' < 19 → 0 < l → 0 < l' → (ty_hw l ≤ ty_hw l' ↔ l ≤ l') := by decide +kernel
theorem ty_lh_le : ∀ l, l < 19 → ∀ l', l' < 19 → 0 < l → 0 < l' → (ty_lw l ≤ ty_hw l' ↔ 18 ≤ l + l') := by decide +kernel
theorem ty_L_le : ∀ l, l < 19 → ∀ l', l' < 19 → 0 < l → 0 < l' → (ty_L l ≤ ty_L l' ↔ l' ≤ l) := by decide +kernel
theorem ty_H_le : ∀ l, l < 19 → ∀ l', l' < 19 → 0 < l → 0 < l' → (ty_H l ≤ ty_H l' ↔ l ≤ l') := by decide +kernel
theorem ty_LH_le : ∀ l, l < 19 → ∀ l', l' < 19 → 0 < l → 0 < l' → (ty_L l ≤ ty_H l' ↔ 18 ≤ l + l') := by decide +kernel
end
section
/-- from the row m on, n whole subtrees to the left: where the last of them begins (0 if they run out); c: how many children each row has -/
def bs_sc (c : Nat → Nat) : Nat → Nat → Nat
  | 0, m => m
  | _ + 1, 0 => 0
  | n + 1, k + 1 => bs_sc c (n + c k) k
theorem bs_sc_0 (c : Nat → Nat) (m : Nat) : bs_sc c 0 m = m := by rw [bs_sc]
theorem bs_sc_z (c : Nat → Nat) (n : Nat) : bs_sc c n 0 = 0 := by cases n <;> rw [bs_sc]
theorem bs_sc_s (c : Nat → Nat) (n k : Nat) : bs_sc c (n + 1) (k + 1) = bs_sc c (n + c k) k := by rw [bs_sc]
theorem bs_sc_le (c : Nat → Nat) : ∀ m n, bs_sc c n m ≤ m := by
  intro m
  induction m with
  | zero => intro n; rw [bs_sc_z]; exact Nat.le_refl _
  | succ m ih =>
    intro n
    cases n with
    | zero => rw [bs_sc_0]; exact Nat.le_refl _
    | succ n => rw [bs_sc_s]; exact Nat.le_trans (ih _) (Nat.le_succ _)
theorem bs_sc_add (c : Nat → Nat) : ∀ m a b, bs_sc c (a + b) m = bs_sc c b (bs_sc c a m) := by
  intro m
  induction m with
  | zero => intro a b; rw [bs_sc_z, bs_sc_z, bs_sc_z]
  | succ m ih =>
    intro a b
    cases a with
    | zero => rw [bs_sc_0, Nat.zero_add]
    | succ a => rw [show a + 1 + b = (a + b) + 1 by omega, bs_sc_s, bs_sc_s, show a + b + c m = a + c m + b by omega, ih]
theorem bs_sc_lt (c : Nat → Nat) {n m : Nat} (hn : 0 < n) (hm : 0 < m) : bs_sc c n m < m := by
  obtain ⟨n, rfl⟩ : ∃ k, n = k + 1 := ⟨n - 1, by omega⟩
  obtain ⟨m, rfl⟩ : ∃ k, m = k + 1 := ⟨m - 1, by omega⟩
  rw [bs_sc_s]
  exact Nat.lt_succ_of_le (bs_sc_le c m _)
theorem bs_sc_mono (c : Nat → Nat) (m : Nat) {a b : Nat} (h : a ≤ b) : bs_sc c b m ≤ bs_sc c a m := by
  obtain ⟨d, rfl⟩ : ∃ d, b = a + d := ⟨b - a, by omega⟩
  rw [bs_sc_add]
  exact bs_sc_le c _ _
/-- only the rows below m matter -/
theorem bs_sc_congr {c c' : Nat → Nat} : ∀ m, (∀ i, i < m → c i = c' i) → ∀ n, bs_sc c n m = bs_sc c' n m := by
  intro m
  induction m with
  | zero => intro _ n; rw [bs_sc_z, bs_sc_z]
  | succ m ih =>
    intro h n
    cases n with
    | zero => rw [bs_sc_0, bs_sc_0]
    | succ n => rw [bs_sc_s, bs_sc_s, h m (Nat.lt_succ_self m)]; exact ih (fun i hi => h i (Nat.lt_succ_of_lt hi)) _
/-- where the subtree of row i begins; child k of row i -/
def bs_ss (c : Nat → Nat) (i : Nat) : Nat := bs_sc c (c i) i
def bs_ch (c : Nat → Nat) (i k : Nat) : Nat := bs_sc c (c i - 1 - k) i - 1
theorem bs_ss_sc (c : Nat → Nat) (i : Nat) : bs_ss c i = bs_sc c 1 (i + 1) := by
  unfold bs_ss; rw [show 1 = 0 + 1 from rfl, bs_sc_s, Nat.zero_add]
theorem bs_ss_le (c : Nat → Nat) (i : Nat) : bs_ss c i ≤ i := bs_sc_le c i _
/-- the count of pending subtrees after i rows -/
def bs_pc (c : Nat → Nat) : Nat → Nat
  | 0 => 0
  | i + 1 => bs_pc c i - c i + 1
theorem bs_pc_s (c : Nat → Nat) (i : Nat) : bs_pc c (i + 1) = bs_pc c i - c i + 1 := rfl
theorem bs_pc_congr {c c' : Nat → Nat} : ∀ m, (∀ i, i < m → c i = c' i) → bs_pc c m = bs_pc c' m := by
  intro m
  induction m with
  | zero => intro _; rfl
  | succ m ih => intro h; rw [bs_pc_s, bs_pc_s, h m (Nat.lt_succ_self m), ih (fun i hi => h i (Nat.lt_succ_of_lt hi))]
theorem bs_pc_le (c : Nat → Nat) : ∀ m, bs_pc c m ≤ m := by
  intro m
  induction m with
  | zero => exact Nat.le_refl _
  | succ m ih => rw [bs_pc_s]; omega
/-- every row of the first n found its children -/
def bs_wf (c : Nat → Nat) (n : Nat) : Prop := ∀ i, i < n → c i ≤ bs_pc c i
theorem bs_pos {c : Nat → Nat} : ∀ {m : Nat}, bs_wf c m → (∀ j, j < bs_pc c m → 0 < bs_sc c j m) ∧ bs_sc c (bs_pc c m) m = 0 := by
  intro m
  induction m with
  | zero => intro _; exact ⟨fun j hj => absurd hj (Nat.not_lt_zero j), bs_sc_z c _⟩
  | succ m ih =>
    intro h
    obtain ⟨h1, h2⟩ := ih (fun i hi => h i (Nat.lt_succ_of_lt hi))
    have hc := h m (Nat.lt_succ_self m)
    refine ⟨fun j hj => ?_, ?_⟩
    · cases j with
      | zero => rw [bs_sc_0]; omega
      | succ j => rw [bs_sc_s]; rw [bs_pc_s] at hj; exact h1 _ (by omega)
    · rw [bs_pc_s, bs_sc_s, show bs_pc c m - c m + c m = bs_pc c m by omega]; exact h2
theorem bs_wf_m {c : Nat → Nat} {m n : Nat} (h : bs_wf c n) (hm : m ≤ n) : bs_wf c m := fun i hi => h i (by omega)
theorem bs_ch_pos {c : Nat → Nat} {n i j : Nat} (h : bs_wf c n) (hi : i < n) (hj : j < c i) : 0 < bs_sc c j i :=
  (bs_pos (bs_wf_m h (Nat.le_of_lt hi))).1 j (by have := h i hi; omega)
theorem bs_ch_lt {c : Nat → Nat} {n i k : Nat} (h : bs_wf c n) (hi : i < n) (hk : k < c i) : bs_ch c i k < i := by
  have := bs_ch_pos h hi (j := c i - 1 - k) (by omega)
  have := bs_sc_le c i (c i - 1 - k)
  unfold bs_ch
  omega
/-- child k ends where the children to its right begin; its own subtree begins where k subtrees are left -/
theorem bs_ch_end {c : Nat → Nat} {n i k : Nat} (h : bs_wf c n) (hi : i < n) (hk : k < c i) : bs_ch c i k + 1 = bs_sc c (c i - 1 - k) i := by
  have := bs_ch_pos h hi (j := c i - 1 - k) (by omega)
  unfold bs_ch
  omega
theorem bs_ch_ss {c : Nat → Nat} {n i k : Nat} (h : bs_wf c n) (hi : i < n) (hk : k < c i) : bs_ss c (bs_ch c i k) = bs_sc c (c i - k) i := by
  rw [bs_ss_sc, bs_ch_end h hi hk, ← bs_sc_add, show c i - 1 - k + 1 = c i - k by omega]
theorem bs_ch_0 {c : Nat → Nat} {n i : Nat} (h : bs_wf c n) (hi : i < n) (hk : 0 < c i) : bs_ss c (bs_ch c i 0) = bs_ss c i := by
  rw [bs_ch_ss h hi hk]; rfl
theorem bs_ch_n {c : Nat → Nat} {n i k : Nat} (h : bs_wf c n) (hi : i < n) (hk : k + 1 < c i) : bs_ss c (bs_ch c i (k + 1)) = bs_ch c i k + 1 := by
  rw [bs_ch_ss h hi hk, bs_ch_end h hi (by omega), show c i - (k + 1) = c i - 1 - k by omega]
theorem bs_ch_l {c : Nat → Nat} {n i k : Nat} (h : bs_wf c n) (hi : i < n) (hk : k + 1 = c i) : bs_ch c i k + 1 = i := by
  rw [bs_ch_end h hi (by omega), show c i - 1 - k = 0 by omega, bs_sc_0]
theorem bs_ss_0 {c : Nat → Nat} {i : Nat} (h : c i = 0) : bs_ss c i = i := by
  unfold bs_ss; rw [h, bs_sc_0]
theorem bs_ch_ne {c : Nat → Nat} {n i j k : Nat} (h : bs_wf c n) (hi : i < n) (hk : k < c i) (hj : j < k) : bs_ch c i j < bs_ch c i k := by
  have e1 := bs_ch_end h hi hk
  have e2 := bs_ch_end h hi (show j < c i by omega)
  have p := bs_ch_pos h hi (j := c i - 1 - k) (by omega)
  have e3 : bs_sc c (c i - 1 - j) i = bs_sc c (k - j) (bs_sc c (c i - 1 - k) i) := by
    rw [← bs_sc_add, show c i - 1 - k + (k - j) = c i - 1 - j by omega]
  have := bs_sc_lt c (n := k - j) (by omega) p
  omega
/-- the root of a body with one pending subtree: it spans all -/
theorem bs_root {c : Nat → Nat} {n : Nat} (h : bs_wf c (n + 1)) (h1 : bs_pc c (n + 1) = 1) : bs_ss c n = 0 := by
  have := (bs_pos h).2
  rw [h1] at this
  rw [bs_ss_sc]; exact this
/-- how many children a row of kind k with second operand b has -/
def bs_cc (k b : Int32) : Nat := if k = 7 then 1 else if k = 8 then 3 else if k = 9 then b.toNatClampNeg else if k ≤ 2 then 0 else 2
/-- the depth over the first n subtrees to the left of m, by a depth function D -/
def bs_dm (c D : Nat → Nat) (m : Nat) : Nat → Nat
  | 0 => 0
  | n + 1 => max (bs_dm c D m n) (D (bs_sc c n m - 1))
theorem bs_dm_s (c D : Nat → Nat) (m n : Nat) : bs_dm c D m (n + 1) = max (bs_dm c D m n) (D (bs_sc c n m - 1)) := rfl
theorem bs_dm_le (c D : Nat → Nat) (m : Nat) : ∀ {n j : Nat}, j < n → D (bs_sc c j m - 1) ≤ bs_dm c D m n := by
  intro n
  induction n with
  | zero => intro j h; exact absurd h (Nat.not_lt_zero j)
  | succ n ih =>
    intro j h
    rw [bs_dm_s]
    by_cases e : j = n
    · subst e; omega
    · have := ih (show j < n by omega); omega
theorem bs_dm_congr {c c' D D' : Nat → Nat} {m : Nat} (hc : ∀ i, i < m → c i = c' i) (hD : ∀ i, i < m → D i = D' i) : ∀ {n : Nat}, (∀ j, j < n → 0 < bs_sc c j m) → bs_dm c D m n = bs_dm c' D' m n := by
  intro n
  induction n with
  | zero => intro _; rfl
  | succ n ih =>
    intro h
    have hp := h n (Nat.lt_succ_self n)
    have hl := bs_sc_le c m n
    rw [bs_dm_s, bs_dm_s, ih (fun j hj => h j (Nat.lt_succ_of_lt hj)), hD _ (by omega), bs_sc_congr m hc n]
end
section
abbrev ab_E : Type := ty_T × ty_T
abbrev ab_O : Type := Option (ty_T × (ty_T × ty_T))
/-- a row of a body, as both sides store it: N slots, the body's own arity k -/
def bd_nd (N k : Nat) (κ a b : Int32) : Prop :=
  (∃ q : Nat, q ≤ 9 ∧ κ = nI q) ∧ (κ = 0 → -99 ≤ a.toInt ∧ a.toInt ≤ 99) ∧ (κ = 1 → ∃ j : Nat, j < 8 ∧ a = nI j) ∧ (κ = 2 → ∃ j : Nat, j < k ∧ a = nI j)
  ∧ (κ = 9 → ∃ g : Nat, g < N ∧ a = nI g) ∧ (∃ w : Nat, w ≤ 2 ∧ b = nI w) ∧ (κ ≠ 9 → b = 0)
def ab_nv (K A : Nat → Int32) (p : Nat) (t : ty_T) (e : ab_E) : ab_E :=
  if K p = 2 then (if A p = 0 then (ty_meet e.1 t, e.2) else (e.1, ty_meet e.2 t)) else e
def ab_fin (r : ty_T) (e : ab_E) : ab_O := if r = ty_0 ∨ e.1 = ty_0 ∨ e.2 = ty_0 then none else some (r, e)
def ab_jn (p q : ab_O) : ab_O := match p with
  | none => q
  | some x => match q with
    | none => some x
    | some y => some (ty_join x.1 y.1, (ty_join x.2.1 y.2.1, ty_join x.2.2 y.2.2))
def ab_num (k : Int32) (x y : ty_T) : ty_T :=
  if k = 3 then (0, ty_rl (ty_lv x.2.1 + ty_lv y.2.1), ty_rh (ty_hv x.2.2 + ty_hv y.2.2))
  else if k = 4 then (0, ty_rl (ty_lv x.2.1 - ty_hv y.2.2), ty_rh (ty_hv x.2.2 - ty_lv y.2.1))
  else ((if ty_lv x.2.1 < ty_hv y.2.2 then 2 else 0) + (if ty_lv y.2.1 ≤ ty_hv x.2.2 then 1 else 0), 0, 0)
def ab_gd (b : Bool) (p : ab_O) : ab_O := if b = true then p else none
section
variable (K A B st ar : Nat → Int32) (c : Nat → Nat) (tb : Nat → ty_T)
/-- what the two branches begin with, by what the condition left -/
def ab_th (i : Nat) (asked : ty_T) (n : ab_E) : ab_E :=
  if K (bs_ch c i 0) = 7 then ab_nv K A (bs_ch c (bs_ch c i 0) 0) asked (ab_nv K A (bs_ch c i 0) ty_bool n) else ab_nv K A (bs_ch c i 0) ty_bool n
def ab_if (ev : Nat → ab_E → ab_O) (i : Nat) (e : ab_E) : ab_O :=
  (ev (bs_ch c i 0) e).bind fun x =>
    ab_jn (ab_gd (x.1.1.testBit 1) (ev (bs_ch c i 1) (ab_th K A c i ty_ints x.2))) (ab_gd (x.1.1.testBit 0) (ev (bs_ch c i 2) (ab_th K A c i ty_ats x.2)))
/-- the callee's check of one argument: its type and the child's row -/
def ab_arg (i k : Nat) (r q : ty_T) (n : ab_E) (go : ab_E → ab_O) : ab_O :=
  if ty_meet r q = ty_0 then none else go (ab_nv K A (bs_ch c i k) q n)
def ab_fits (i : Nat) : Bool := decide (st (A i).toNatClampNeg = 2) && decide (ar (A i).toNatClampNeg = B i)
def ab_cl0 (i : Nat) (e : ab_E) : ab_O := ab_gd (ab_fits A B st ar i) (ab_fin (tb ((A i).toNatClampNeg * 3 + 2)) e)
def ab_cl1 (i : Nat) (x : ty_T) (e : ab_E) : ab_O :=
  ab_gd (ab_fits A B st ar i) (ab_arg K A c i 0 x (tb ((A i).toNatClampNeg * 3)) e fun n => ab_fin (tb ((A i).toNatClampNeg * 3 + 2)) n)
def ab_cl2 (i : Nat) (x y : ty_T) (e : ab_E) : ab_O :=
  ab_gd (ab_fits A B st ar i) (ab_arg K A c i 0 x (tb ((A i).toNatClampNeg * 3)) e fun n => ab_arg K A c i 1 y (tb ((A i).toNatClampNeg * 3 + 1)) n fun n => ab_fin (tb ((A i).toNatClampNeg * 3 + 2)) n)
def ab_call (ev : Nat → ab_E → ab_O) (i : Nat) (e : ab_E) : ab_O :=
  if B i = 0 then ab_cl0 A B st ar tb i e
  else if B i = 1 then (ev (bs_ch c i 0) e).bind fun x => ab_cl1 K A B st ar c tb i x.1 x.2
  else (ev (bs_ch c i 0) e).bind fun x => (ev (bs_ch c i 1) x.2).bind fun y => ab_cl2 K A B st ar c tb i x.1 y.1 y.2
def ab_opf (i : Nat) (x y : ty_T) (e : ab_E) : ab_O :=
  if K i = 6 then ab_fin ((if ty_meet x y = ty_0 then 1 else 3), 0, 0) e
  else if x.2.1 = 0 ∨ y.2.1 = 0 then none
  else ab_fin (ab_num (K i) x y) (ab_nv K A (bs_ch c i 1) ty_ints (ab_nv K A (bs_ch c i 0) ty_ints e))
def ab_op (ev : Nat → ab_E → ab_O) (i : Nat) (e : ab_E) : ab_O :=
  (ev (bs_ch c i 0) e).bind fun x => (ev (bs_ch c i 1) x.2).bind fun y => ab_opf K A c i x.1 y.1 y.2
def ab_isi (ev : Nat → ab_E → ab_O) (i : Nat) (e : ab_E) : ab_O :=
  (ev (bs_ch c i 0) e).bind fun x => ab_fin ((if x.1.1 = 0 then 0 else 1) + (if x.1.2.1 = 0 then 0 else 2), 0, 0) x.2
def ab_leaf (i : Nat) (e : ab_E) : ab_O :=
  if K i = 0 then ab_fin (0, ty_rl (A i).toInt, ty_rh (A i).toInt) e
  else if K i = 1 then ab_fin (2 ^ (A i).toNatClampNeg, 0, 0) e
  else ab_fin (if A i = 0 then e.1 else e.2) e
def ab_node (ev : Nat → ab_E → ab_O) (i : Nat) (e : ab_E) : ab_O :=
  if K i = 0 then ab_fin (0, ty_rl (A i).toInt, ty_rh (A i).toInt) e
  else if K i = 1 then ab_fin (2 ^ (A i).toNatClampNeg, 0, 0) e
  else if K i = 2 then ab_fin (if A i = 0 then e.1 else e.2) e
  else if K i = 8 then ab_if K A c ev i e
  else if K i = 9 then ab_call K A B st ar c tb ev i e
  else if K i = 7 then ab_isi c ev i e
  else ab_op K A c ev i e
def ab_ev : Nat → Nat → ab_E → ab_O
  | 0 => fun _ _ => none
  | d + 1 => ab_node K A B st ar c tb (ab_ev d)
end
/-- the order -/
def ab_el (e f : ab_E) : Prop := ty_le e.1 f.1 ∧ ty_le e.2 f.2
def ab_xl (x y : ty_T × ab_E) : Prop := ty_le x.1 y.1 ∧ ab_el x.2 y.2
def ab_le (p q : ab_O) : Prop := ∀ x, p = some x → ∃ y, q = some y ∧ ab_xl x y
/-- well made: k is the arity -/
def ab_eo (k : Nat) (e : ab_E) : Prop := ty_ok e.1 ∧ ty_ok e.2 ∧ (k < 1 → e.1 = ty_any) ∧ (k < 2 → e.2 = ty_any)
def ab_xo (k : Nat) (x : ty_T × ab_E) : Prop := ty_ok x.1 ∧ x.1 ≠ ty_0 ∧ ab_eo k x.2 ∧ x.2.1 ≠ ty_0 ∧ x.2.2 ≠ ty_0
def ab_po (k : Nat) (p : ab_O) : Prop := ∀ x, p = some x → ab_xo k x
theorem ab_none_le (q : ab_O) : ab_le none q := fun _ h => nomatch h
theorem ab_none_po (k : Nat) : ab_po k none := fun _ h => nomatch h
theorem ab_fin_some {r : ty_T} {e : ab_E} {x : ty_T × ab_E} (h : ab_fin r e = some x) : x = (r, e) ∧ r ≠ ty_0 ∧ e.1 ≠ ty_0 ∧ e.2 ≠ ty_0 := by
  unfold ab_fin at h
  split at h
  · exact nomatch h
  · next hn =>
    injection h with h
    exact ⟨h.symm, fun z => hn (Or.inl z), fun z => hn (Or.inr (Or.inl z)), fun z => hn (Or.inr (Or.inr z))⟩
theorem ab_fin_to {r : ty_T} {e : ab_E} (h0 : r ≠ ty_0) (h1 : e.1 ≠ ty_0) (h2 : e.2 ≠ ty_0) : ab_fin r e = some (r, e) := by
  unfold ab_fin
  rw [if_neg]
  rintro (h | h | h) <;> contradiction
theorem ab_fin_le {r r' : ty_T} {e e' : ab_E} (h : ty_le r r') (g : ab_el e e') : ab_le (ab_fin r e) (ab_fin r' e') := by
  intro x hx
  obtain ⟨rfl, h0, h1, h2⟩ := ab_fin_some hx
  exact ⟨_, ab_fin_to (ty_le_ne h h0) (ty_le_ne g.1 h1) (ty_le_ne g.2 h2), h, g⟩
theorem ab_fin_po {k : Nat} {r : ty_T} {e : ab_E} (h : ty_ok r) (g : ab_eo k e) : ab_po k (ab_fin r e) := by
  intro x hx
  obtain ⟨rfl, h0, h1, h2⟩ := ab_fin_some hx
  exact ⟨h, h0, g, h1, h2⟩
theorem ab_bind_le {p q : ab_O} {f g : ty_T × ab_E → ab_O} (h : ab_le p q) (hf : ∀ x y, p = some x → q = some y → ab_xl x y → ab_le (f x) (g y)) : ab_le (p.bind f) (q.bind g) := by
  cases p with
  | none => exact ab_none_le _
  | some x =>
    obtain ⟨y, rfl, hy⟩ := h x rfl
    exact hf x y rfl rfl hy
theorem ab_bind_po {k : Nat} {p : ab_O} {f : ty_T × ab_E → ab_O} (hp : ab_po k p) (hf : ∀ x, ab_xo k x → ab_po k (f x)) : ab_po k (p.bind f) := by
  cases p with
  | none => exact ab_none_po k
  | some x => exact hf x (hp x rfl)
theorem ab_gd_le {b b' : Bool} {p q : ab_O} (hb : b = true → b' = true) (h : ab_le p q) : ab_le (ab_gd b p) (ab_gd b' q) := by
  unfold ab_gd
  split
  · next z => rw [if_pos (hb z)]; exact h
  · exact ab_none_le _
theorem ab_gd_po {k : Nat} {b : Bool} {p : ab_O} (h : ab_po k p) : ab_po k (ab_gd b p) := by
  unfold ab_gd
  split
  · exact h
  · exact ab_none_po k
theorem ab_jn_le {p q p' q' : ab_O} (h : ab_le p p') (g : ab_le q q') : ab_le (ab_jn p q) (ab_jn p' q') := by
  intro z hz
  cases p with
  | none =>
    obtain ⟨y, rfl, hy⟩ := g z hz
    cases p' with
    | none => exact ⟨y, rfl, hy⟩
    | some x' => exact ⟨_, rfl, ty_le_trans hy.1 (ty_join_r _ _), ty_le_trans hy.2.1 (ty_join_r _ _), ty_le_trans hy.2.2 (ty_join_r _ _)⟩
  | some x =>
    obtain ⟨x', rfl, hx⟩ := h x rfl
    cases q with
    | none =>
      obtain rfl := Option.some.inj (show some x = some z from hz)
      cases q' with
      | none => exact ⟨x', rfl, hx⟩
      | some y' => exact ⟨_, rfl, ty_le_trans hx.1 (ty_join_l _ _), ty_le_trans hx.2.1 (ty_join_l _ _), ty_le_trans hx.2.2 (ty_join_l _ _)⟩
    | some y =>
      obtain ⟨y', rfl, hy⟩ := g y rfl
      obtain rfl := Option.some.inj (show some (ty_join x.1 y.1, (ty_join x.2.1 y.2.1, ty_join x.2.2 y.2.2)) = some z from hz)
      exact ⟨_, rfl, ty_join_le hx.1 hy.1, ty_join_le hx.2.1 hy.2.1, ty_join_le hx.2.2 hy.2.2⟩
theorem ab_join_any : ty_join ty_any ty_any = ty_any := by decide
theorem ab_jn_po {k : Nat} {p q : ab_O} (h : ab_po k p) (g : ab_po k q) : ab_po k (ab_jn p q) := by
  intro z hz
  cases p with
  | none => exact g z hz
  | some x =>
    cases q with
    | none => exact h z hz
    | some y =>
      obtain ⟨a0, a1, ⟨a2, a3, a4, a5⟩, a6, a7⟩ := h x rfl
      obtain ⟨b0, b1, ⟨b2, b3, b4, b5⟩, b6, b7⟩ := g y rfl
      obtain rfl := Option.some.inj (show some (ty_join x.1 y.1, (ty_join x.2.1 y.2.1, ty_join x.2.2 y.2.2)) = some z from hz)
      refine ⟨ty_join_ok a0 b0, ty_le_ne (ty_join_l _ _) a1, ⟨ty_join_ok a2 b2, ty_join_ok a3 b3, fun hk => ?_, fun hk => ?_⟩, ty_le_ne (ty_join_l _ _) a6, ty_le_ne (ty_join_l _ _) a7⟩
      · show ty_join x.2.1 y.2.1 = ty_any
        rw [a4 hk, b4 hk]; exact ab_join_any
      · show ty_join x.2.2 y.2.2 = ty_any
        rw [a5 hk, b5 hk]; exact ab_join_any
theorem ab_nv_le {K A : Nat → Int32} {p : Nat} {t t' : ty_T} {e e' : ab_E} (ht : ty_le t t') (h : ab_el e e') : ab_el (ab_nv K A p t e) (ab_nv K A p t' e') := by
  unfold ab_nv
  split
  · split
    · exact ⟨ty_meet_le h.1 ht, h.2⟩
    · exact ⟨h.1, ty_meet_le h.2 ht⟩
  · exact h
theorem ab_nv_eo {K A : Nat → Int32} {k p : Nat} {t : ty_T} {e : ab_E} (hp : K p = 2 → ∃ j : Nat, j < k ∧ A p = nI j) (ht : ty_ok t) (h : ab_eo k e) : ab_eo k (ab_nv K A p t e) := by
  obtain ⟨h1, h2, h3, h4⟩ := h
  unfold ab_nv
  split
  · next z =>
    obtain ⟨j, hj, ej⟩ := hp z
    split
    · next z0 => exact ⟨ty_meet_ok h1 ht, h2, fun hk => by omega, h4⟩
    · next z0 =>
      have : j ≠ 0 := fun e0 => z0 (by rw [ej, e0]; rfl)
      exact ⟨h1, ty_meet_ok h2 ht, h3, fun hk => by omega⟩
  · exact ⟨h1, h2, h3, h4⟩
theorem ty_ms_lit {a b : Nat} (h : a &&& b = a) : ty_ms a b := fun i hi => by
  rw [← h, Nat.testBit_and, Bool.and_eq_true] at hi
  exact hi.2
theorem ty_le_m {a b : Nat} (h : ty_ms a b) : ty_le (a, 0, 0) (b, 0, 0) := ⟨h, Nat.le_refl _, Nat.le_refl _⟩
theorem ab_num_le {k : Int32} {x y x' y' : ty_T} (hx' : ty_ok x') (hy' : ty_ok y') (h : ty_le x x') (g : ty_le y y') : ty_le (ab_num k x y) (ab_num k x' y') := by
  have a1 := ty_lv_le h.2.1 (ty_ok_l hx')
  have a2 := ty_lv_le g.2.1 (ty_ok_l hy')
  have a3 := ty_hv_le h.2.2 (ty_ok_h hx')
  have a4 := ty_hv_le g.2.2 (ty_ok_h hy')
  unfold ab_num
  split
  · exact ⟨ty_ms_rfl 0, ty_rl_le (by omega), ty_rh_le (by omega)⟩
  · split
    · exact ⟨ty_ms_rfl 0, ty_rl_le (by omega), ty_rh_le (by omega)⟩
    · apply ty_le_m
      apply ty_ms_lit
      by_cases p : ty_lv x.2.1 < ty_hv y.2.2
      · rw [if_pos p, if_pos (show ty_lv x'.2.1 < ty_hv y'.2.2 by omega)]
        by_cases q : ty_lv y.2.1 ≤ ty_hv x.2.2
        · rw [if_pos q, if_pos (show ty_lv y'.2.1 ≤ ty_hv x'.2.2 by omega)]; decide
        · rw [if_neg q]; split <;> decide
      · rw [if_neg p]
        by_cases q : ty_lv y.2.1 ≤ ty_hv x.2.2
        · rw [if_pos q, if_pos (show ty_lv y'.2.1 ≤ ty_hv x'.2.2 by omega)]; split <;> decide
        · rw [if_neg q]; exact Nat.zero_and _
theorem ab_num_ok {k : Int32} {x y : ty_T} (hx : ty_ok x) (hy : ty_ok y) (h0 : x.2.1 ≠ 0) (h1 : y.2.1 ≠ 0) : ty_ok (ab_num k x y) := by
  have a1 := ty_lh hx h0
  have a2 := ty_lh hy h1
  unfold ab_num
  split
  · exact ty_r_ok (by omega)
  · split
    · exact ty_r_ok (by omega)
    · refine ⟨?_, Or.inl ⟨rfl, rfl⟩⟩
      simp only
      split <;> split <;> decide
end
section
theorem bs_cc8 (b : Int32) : bs_cc 8 b = 3 := by
  unfold bs_cc; rw [if_neg (by decide), if_pos rfl]
theorem bs_cc7 (b : Int32) : bs_cc 7 b = 1 := by
  unfold bs_cc; rw [if_pos rfl]
theorem bs_cc9 (b : Int32) : bs_cc 9 b = b.toNatClampNeg := by
  unfold bs_cc; rw [if_neg (by decide), if_neg (by decide), if_pos rfl]
theorem bs_cc0 (b : Int32) : bs_cc 0 b = 0 := by
  unfold bs_cc; rw [if_neg (by decide), if_neg (by decide), if_neg (by decide), if_pos (by decide)]
theorem bs_cc1 (b : Int32) : bs_cc 1 b = 0 := by
  unfold bs_cc; rw [if_neg (by decide), if_neg (by decide), if_neg (by decide), if_pos (by decide)]
theorem bs_cc2 (b : Int32) : bs_cc 2 b = 0 := by
  unfold bs_cc; rw [if_neg (by decide), if_neg (by decide), if_neg (by decide), if_pos (by decide)]
theorem bs_cc3 (b : Int32) : bs_cc 3 b = 2 := by
  unfold bs_cc; rw [if_neg (by decide), if_neg (by decide), if_neg (by decide), if_neg (by decide)]
theorem bs_cc4 (b : Int32) : bs_cc 4 b = 2 := by
  unfold bs_cc; rw [if_neg (by decide), if_neg (by decide), if_neg (by decide), if_neg (by decide)]
theorem bs_cc5 (b : Int32) : bs_cc 5 b = 2 := by
  unfold bs_cc; rw [if_neg (by decide), if_neg (by decide), if_neg (by decide), if_neg (by decide)]
theorem bs_cc6 (b : Int32) : bs_cc 6 b = 2 := by
  unfold bs_cc; rw [if_neg (by decide), if_neg (by decide), if_neg (by decide), if_neg (by decide)]
/-- the ten kinds -/
theorem bd_10 {N k : Nat} {κ a b : Int32} (h : bd_nd N k κ a b) : κ = 0 ∨ κ = 1 ∨ κ = 2 ∨ κ = 3 ∨ κ = 4 ∨ κ = 5 ∨ κ = 6 ∨ κ = 7 ∨ κ = 8 ∨ κ = 9 := by
  obtain ⟨⟨q, hq, rfl⟩, _⟩ := h
  have : q = 0 ∨ q = 1 ∨ q = 2 ∨ q = 3 ∨ q = 4 ∨ q = 5 ∨ q = 6 ∨ q = 7 ∨ q = 8 ∨ q = 9 := by omega
  rcases this with rfl | rfl | rfl | rfl | rfl | rfl | rfl | rfl | rfl | rfl <;> decide
/-- a body: its first n rows are well made -/
def ab_bd (N k n : Nat) (K A B : Nat → Int32) (c : Nat → Nat) : Prop :=
  (∀ i, i < n → bd_nd N k (K i) (A i) (B i)) ∧ (∀ i, c i = bs_cc (K i) (B i)) ∧ bs_wf c n
theorem ab_c2 {N k n : Nat} {K A B : Nat → Int32} {c : Nat → Nat} (hb : ab_bd N k n K A B c) {i : Nat} (hi : i < n)
    (h0 : ¬ K i = 0) (h1 : ¬ K i = 1) (h2 : ¬ K i = 2) (h8 : ¬ K i = 8) (h9 : ¬ K i = 9) (h7 : ¬ K i = 7) : c i = 2 := by
  rw [hb.2.1 i]
  rcases bd_10 (hb.1 i hi) with h | h | h | h | h | h | h | h | h | h
  · exact absurd h h0
  · exact absurd h h1
  · exact absurd h h2
  · rw [h]; exact bs_cc3 _
  · rw [h]; exact bs_cc4 _
  · rw [h]; exact bs_cc5 _
  · rw [h]; exact bs_cc6 _
  · exact absurd h h7
  · exact absurd h h8
  · exact absurd h h9
theorem ab_c8 {N k n : Nat} {K A B : Nat → Int32} {c : Nat → Nat} (hb : ab_bd N k n K A B c) {i : Nat} (h : K i = 8) : c i = 3 := by
  rw [hb.2.1 i, h]; exact bs_cc8 _
theorem ab_c7 {N k n : Nat} {K A B : Nat → Int32} {c : Nat → Nat} (hb : ab_bd N k n K A B c) {i : Nat} (h : K i = 7) : c i = 1 := by
  rw [hb.2.1 i, h]; exact bs_cc7 _
theorem ab_c9 {N k n : Nat} {K A B : Nat → Int32} {c : Nat → Nat} (hb : ab_bd N k n K A B c) {i : Nat} (h : K i = 9) : c i = (B i).toNatClampNeg := by
  rw [hb.2.1 i, h]; exact bs_cc9 _
theorem ab_B {N k n : Nat} {K A B : Nat → Int32} {c : Nat → Nat} (hb : ab_bd N k n K A B c) {i : Nat} (hi : i < n) : B i = 0 ∨ B i = 1 ∨ B i = 2 := by
  obtain ⟨w, hw, e⟩ := (hb.1 i hi).2.2.2.2.2.1
  have : w = 0 ∨ w = 1 ∨ w = 2 := by omega
  rcases this with rfl | rfl | rfl <;> rw [e] <;> decide
theorem ab_c3 {N k n : Nat} {K A B : Nat → Int32} {c : Nat → Nat} (hb : ab_bd N k n K A B c) {i : Nat} (hi : i < n) : c i ≤ 3 := by
  rw [hb.2.1 i]
  rcases bd_10 (hb.1 i hi) with z | z | z | z | z | z | z | z | z | z <;> rw [z]
  · rw [bs_cc0]; decide
  · rw [bs_cc1]; decide
  · rw [bs_cc2]; decide
  · rw [bs_cc3]; decide
  · rw [bs_cc4]; decide
  · rw [bs_cc5]; decide
  · rw [bs_cc6]; decide
  · rw [bs_cc7]; decide
  · rw [bs_cc8]; decide
  · rw [bs_cc9]
    rcases ab_B hb hi with y | y | y <;> rw [y] <;> decide
theorem ab_ch {N k n : Nat} {K A B : Nat → Int32} {c : Nat → Nat} (hb : ab_bd N k n K A B c) {i j : Nat} (hi : i < n) (hj : j < c i) : bs_ch c i j < n :=
  Nat.lt_trans (bs_ch_lt hb.2.2 hi hj) hi
theorem ab_cB1 {N k n : Nat} {K A B : Nat → Int32} {c : Nat → Nat} (hb : ab_bd N k n K A B c) {i : Nat} (h : K i = 9) (h1 : B i = 1) : c i = 1 := by
  rw [ab_c9 hb h, h1]; decide
theorem ab_cB2 {N k n : Nat} {K A B : Nat → Int32} {c : Nat → Nat} (hb : ab_bd N k n K A B c) {i : Nat} (hi : i < n) (h : K i = 9) (h0 : ¬ B i = 0) (h1 : ¬ B i = 1) : c i = 2 ∧ B i = 2 := by
  rcases ab_B hb hi with z | z | z
  · exact absurd z h0
  · exact absurd z h1
  · rw [ab_c9 hb h, z]; decide
theorem ab_var {N k n : Nat} {K A B : Nat → Int32} {c : Nat → Nat} (hb : ab_bd N k n K A B c) {i : Nat} (hi : i < n) : K i = 2 → ∃ j : Nat, j < k ∧ A i = nI j := (hb.1 i hi).2.2.2.1
theorem ab_th_eo {N k n : Nat} {K A B : Nat → Int32} {c : Nat → Nat} (hb : ab_bd N k n K A B c) {i : Nat} (hi : i < n) (h8 : K i = 8) {t : ty_T} (ht : ty_ok t) {e : ab_E} (he : ab_eo k e) : ab_eo k (ab_th K A c i t e) := by
  have h3 := ab_c8 hb h8
  have hc := ab_ch hb hi (j := 0) (by omega)
  have h := ab_nv_eo (t := ty_bool) (ab_var hb hc) ty_bool_ok he
  unfold ab_th
  split
  · next z => exact ab_nv_eo (ab_var hb (ab_ch hb hc (j := 0) (by rw [ab_c7 hb z]; decide))) ht h
  · exact h
theorem ab_th_le {K A : Nat → Int32} {c : Nat → Nat} {i : Nat} {t : ty_T} {e e' : ab_E} (h : ab_el e e') : ab_el (ab_th K A c i t e) (ab_th K A c i t e') := by
  have h := ab_nv_le (K := K) (A := A) (p := bs_ch c i 0) (ty_le_rfl ty_bool) h
  unfold ab_th
  split
  · exact ab_nv_le (ty_le_rfl t) h
  · exact h
theorem ab_pow_ok {j : Nat} (h : j < 8) : ty_ok (2 ^ j, 0, 0) := ⟨Nat.pow_lt_pow_right (by decide) h, Or.inl ⟨rfl, rfl⟩⟩
theorem ab_lit_ok {m : Nat} (h : m < 256) : ty_ok (m, 0, 0) := ⟨h, Or.inl ⟨rfl, rfl⟩⟩
theorem ab_arg_po {N k n : Nat} {K A B : Nat → Int32} {c : Nat → Nat} (hb : ab_bd N k n K A B c) {i j : Nat} (hi : i < n) (hj : j < c i) {r q : ty_T} (hq : ty_ok q) {e : ab_E} (he : ab_eo k e) {go : ab_E → ab_O}
    (hg : ∀ e, ab_eo k e → ab_po k (go e)) : ab_po k (ab_arg K A c i j r q e go) := by
  unfold ab_arg
  split
  · exact ab_none_po k
  · exact hg _ (ab_nv_eo (ab_var hb (ab_ch hb hi hj)) hq he)
theorem ab_arg_le {K A : Nat → Int32} {c : Nat → Nat} {i j : Nat} {r q r' q' : ty_T} (hr : ty_le r r') (hq : ty_le q q') {e e' : ab_E} (he : ab_el e e') {go go' : ab_E → ab_O}
    (hg : ∀ e e', ab_el e e' → ab_le (go e) (go' e')) : ab_le (ab_arg K A c i j r q e go) (ab_arg K A c i j r' q' e' go') := by
  unfold ab_arg
  split
  · exact ab_none_le _
  · next z =>
    rw [if_neg (ty_le_ne (ty_meet_le hr hq) z)]
    exact hg _ _ (ab_nv_le hq he)
theorem ab_ev_po {N k n : Nat} {K A B st ar : Nat → Int32} {c : Nat → Nat} {tb : Nat → ty_T} (hb : ab_bd N k n K A B c) (ht : ∀ q, ty_ok (tb q)) :
    ∀ d i e, i < n → ab_eo k e → ab_po k (ab_ev K A B st ar c tb d i e) := by
  intro d
  induction d with
  | zero => intro i e _ _; exact ab_none_po k
  | succ d ih =>
    intro i e hi he
    show ab_po k (ab_node K A B st ar c tb (ab_ev K A B st ar c tb d) i e)
    unfold ab_node
    split
    · exact ab_fin_po (ty_r_ok (Int.le_refl _)) he
    · split
      · next h1 =>
        obtain ⟨j, hj, ej⟩ := (hb.1 i hi).2.2.1 h1
        rw [ej, nI_clamp (by omega)]
        exact ab_fin_po (ab_pow_ok hj) he
      · split
        · refine ab_fin_po ?_ he
          split
          · exact he.1
          · exact he.2.1
        · split
          · next h8 =>
            have h3 := ab_c8 hb h8
            unfold ab_if
            exact ab_bind_po (ih _ _ (ab_ch hb hi (by omega)) he) fun x hx => ab_jn_po
              (ab_gd_po (ih _ _ (ab_ch hb hi (by omega)) (ab_th_eo hb hi h8 ty_ints_ok hx.2.2.1)))
              (ab_gd_po (ih _ _ (ab_ch hb hi (by omega)) (ab_th_eo hb hi h8 ty_ats_ok hx.2.2.1)))
          · split
            · next h9 =>
              unfold ab_call
              split
              · exact ab_gd_po (ab_fin_po (ht _) he)
              · split
                · next b1 =>
                  have hc := ab_cB1 hb h9 b1
                  exact ab_bind_po (ih _ _ (ab_ch hb hi (by omega)) he) fun x hx => ab_gd_po
                    (ab_arg_po hb hi (by omega) (ht _) hx.2.2.1 fun n hn => ab_fin_po (ht _) hn)
                · next b0 b1 =>
                  have hc := (ab_cB2 hb hi h9 b0 b1).1
                  exact ab_bind_po (ih _ _ (ab_ch hb hi (by omega)) he) fun x hx =>
                    ab_bind_po (ih _ _ (ab_ch hb hi (by omega)) hx.2.2.1) fun y hy => ab_gd_po
                      (ab_arg_po hb hi (by omega) (ht _) hy.2.2.1 fun n hn => ab_arg_po hb hi (by omega) (ht _) hn fun n hn => ab_fin_po (ht _) hn)
            · split
              · next h7 =>
                have hc := ab_c7 hb h7
                unfold ab_isi
                refine ab_bind_po (ih _ _ (ab_ch hb hi (by omega)) he) fun x hx => ab_fin_po (ab_lit_ok ?_) hx.2.2.1
                split <;> split <;> decide
              · next h0 h1 h2 h8 h9 h7 =>
                have hc := ab_c2 hb hi h0 h1 h2 h8 h9 h7
                unfold ab_op
                refine ab_bind_po (ih _ _ (ab_ch hb hi (by omega)) he) fun x hx => ab_bind_po (ih _ _ (ab_ch hb hi (by omega)) hx.2.2.1) fun y hy => ?_
                unfold ab_opf
                split
                · refine ab_fin_po (ab_lit_ok ?_) hy.2.2.1
                  split <;> decide
                · split
                  · exact ab_none_po k
                  · next z =>
                    exact ab_fin_po (ab_num_ok hx.1 hy.1 (fun e => z (Or.inl e)) (fun e => z (Or.inr e)))
                      (ab_nv_eo (ab_var hb (ab_ch hb hi (by omega))) ty_ints_ok (ab_nv_eo (ab_var hb (ab_ch hb hi (by omega))) ty_ints_ok hy.2.2.1))
/-- a larger table and larger parameter types: a larger outcome -/
theorem ab_ev_le {N k n : Nat} {K A B st ar : Nat → Int32} {c : Nat → Nat} {tb tb' : Nat → ty_T} (hb : ab_bd N k n K A B c) (ht' : ∀ q, ty_ok (tb' q)) (hl : ∀ q, ty_le (tb q) (tb' q)) :
    ∀ d i e e', i < n → ab_eo k e' → ab_el e e' → ab_le (ab_ev K A B st ar c tb d i e) (ab_ev K A B st ar c tb' d i e') := by
  intro d
  induction d with
  | zero => intro i e e' _ _ _; exact ab_none_le _
  | succ d ih =>
    intro i e e' hi he' h
    have po := ab_ev_po (st := st) (ar := ar) hb ht' d
    show ab_le (ab_node K A B st ar c tb (ab_ev K A B st ar c tb d) i e) (ab_node K A B st ar c tb' (ab_ev K A B st ar c tb' d) i e')
    unfold ab_node
    split
    · exact ab_fin_le (ty_le_rfl _) h
    · split
      · exact ab_fin_le (ty_le_rfl _) h
      · split
        · refine ab_fin_le ?_ h
          split
          · exact h.1
          · exact h.2
        · split
          · next h8 =>
            have h3 := ab_c8 hb h8
            unfold ab_if
            have c0 := ab_ch hb hi (j := 0) (by omega)
            have c1 := ab_ch hb hi (j := 1) (by omega)
            have c2 := ab_ch hb hi (j := 2) (by omega)
            refine ab_bind_le (ih _ _ _ c0 he' h) fun x y _ hy hxy => ?_
            have gy := (po _ _ c0 he' y hy).2.2.1
            exact ab_jn_le (ab_gd_le (hxy.1.1 1) (ih _ _ _ c1 (ab_th_eo hb hi h8 ty_ints_ok gy) (ab_th_le hxy.2)))
              (ab_gd_le (hxy.1.1 0) (ih _ _ _ c2 (ab_th_eo hb hi h8 ty_ats_ok gy) (ab_th_le hxy.2)))
          · split
            · next h9 =>
              unfold ab_call
              split
              · exact ab_gd_le id (ab_fin_le (hl _) h)
              · split
                · next b1 =>
                  have hc := ab_cB1 hb h9 b1
                  have c0 := ab_ch hb hi (j := 0) (by omega)
                  exact ab_bind_le (ih _ _ _ c0 he' h) fun x y _ hy hxy => ab_gd_le id
                    (ab_arg_le hxy.1 (hl _) hxy.2 fun n n' hn => ab_fin_le (hl _) hn)
                · next b0 b1 =>
                  have hc := (ab_cB2 hb hi h9 b0 b1).1
                  have c0 := ab_ch hb hi (j := 0) (by omega)
                  have c1 := ab_ch hb hi (j := 1) (by omega)
                  exact ab_bind_le (ih _ _ _ c0 he' h) fun x x' _ hx' hx =>
                    ab_bind_le (ih _ _ _ c1 (po _ _ c0 he' x' hx').2.2.1 hx.2) fun y y' _ hy' hy => ab_gd_le id
                      (ab_arg_le hx.1 (hl _) hy.2 fun n n' hn => ab_arg_le hy.1 (hl _) hn fun n n' hn => ab_fin_le (hl _) hn)
            · split
              · next h7 =>
                have hc := ab_c7 hb h7
                have c0 := ab_ch hb hi (j := 0) (by omega)
                unfold ab_isi
                refine ab_bind_le (ih _ _ _ c0 he' h) fun x y _ hy hxy => ab_fin_le (ty_le_m (ty_ms_lit ?_)) hxy.2
                by_cases p : x.1.1 = 0
                · rw [if_pos p]
                  by_cases q : x.1.2.1 = 0
                  · rw [if_pos q]; exact Nat.zero_and _
                  · rw [if_neg q, if_neg (show ¬ y.1.2.1 = 0 from fun z => q (by have := hxy.1.2.1; omega))]
                    split <;> decide
                · rw [if_neg p, if_neg (ty_ms_ne hxy.1.1 p)]
                  by_cases q : x.1.2.1 = 0
                  · rw [if_pos q]; split <;> decide
                  · rw [if_neg q, if_neg (show ¬ y.1.2.1 = 0 from fun z => q (by have := hxy.1.2.1; omega))]; decide
              · next h0 h1 h2 h8 h9 h7 =>
                have hc := ab_c2 hb hi h0 h1 h2 h8 h9 h7
                have c0 := ab_ch hb hi (j := 0) (by omega)
                have c1 := ab_ch hb hi (j := 1) (by omega)
                unfold ab_op
                refine ab_bind_le (ih _ _ _ c0 he' h) fun x x' _ hx' hx => ?_
                have gx := po _ _ c0 he' x' hx'
                refine ab_bind_le (ih _ _ _ c1 gx.2.2.1 hx.2) fun y y' _ hy' hy => ?_
                have gy := po _ _ c1 gx.2.2.1 y' hy'
                unfold ab_opf
                split
                · refine ab_fin_le (ty_le_m (ty_ms_lit ?_)) hy.2
                  by_cases p : ty_meet x.1 y.1 = ty_0
                  · rw [if_pos p]; split <;> decide
                  · rw [if_neg p, if_neg (ty_le_ne (ty_meet_le hx.1 hy.1) p)]; decide
                · split
                  · exact ab_none_le _
                  · next z =>
                    have l1 := hx.1.2.1
                    have l2 := hy.1.2.1
                    rw [if_neg (show ¬ (x'.1.2.1 = 0 ∨ y'.1.2.1 = 0) from fun q => z (by omega))]
                    exact ab_fin_le (ab_num_le gx.1 gy.1 hx.1 hy.1) (ab_nv_le (ty_le_rfl _) (ab_nv_le (ty_le_rfl _) hy.2))
/-- nothing comes of an empty parameter type -/
theorem ab_fin_dead {r : ty_T} {e : ab_E} (h : e.1 = ty_0 ∨ e.2 = ty_0) : ab_fin r e = none := by
  unfold ab_fin; rw [if_pos (Or.inr h)]
theorem ab_dead {K A B st ar : Nat → Int32} {c : Nat → Nat} {tb : Nat → ty_T} : ∀ d i e, (e.1 = ty_0 ∨ e.2 = ty_0) → ab_ev K A B st ar c tb d i e = none := by
  intro d
  induction d with
  | zero => intro i e _; rfl
  | succ d ih =>
    intro i e h
    show ab_node K A B st ar c tb (ab_ev K A B st ar c tb d) i e = none
    unfold ab_node ab_if ab_call ab_isi ab_op ab_cl0
    simp only [ih _ e h, ab_fin_dead h, Option.bind_none, ab_gd, ite_self]
-- the evaluation, kind by kind
section
variable {K A B st ar : Nat → Int32} {c : Nat → Nat} {tb : Nat → ty_T} {d i : Nat} {e : ab_E}
theorem ab_ev_lf (h : K i = 0 ∨ K i = 1 ∨ K i = 2) : ab_ev K A B st ar c tb (d + 1) i e = ab_leaf K A i e := by
  show ab_node K A B st ar c tb (ab_ev K A B st ar c tb d) i e = _
  unfold ab_node ab_leaf
  by_cases h0 : K i = 0
  · rw [if_pos h0, if_pos h0]
  · rw [if_neg h0, if_neg h0]
    by_cases h1 : K i = 1
    · rw [if_pos h1, if_pos h1]
    · rw [if_neg h1, if_neg h1, if_pos ((h.resolve_left h0).resolve_left h1)]
theorem ab_ev_if (h : K i = 8) : ab_ev K A B st ar c tb (d + 1) i e = ab_if K A c (ab_ev K A B st ar c tb d) i e := by
  show ab_node K A B st ar c tb (ab_ev K A B st ar c tb d) i e = _
  unfold ab_node
  rw [if_neg (by rw [h]; decide), if_neg (by rw [h]; decide), if_neg (by rw [h]; decide), if_pos h]
theorem ab_ev_call (h : K i = 9) : ab_ev K A B st ar c tb (d + 1) i e = ab_call K A B st ar c tb (ab_ev K A B st ar c tb d) i e := by
  show ab_node K A B st ar c tb (ab_ev K A B st ar c tb d) i e = _
  unfold ab_node
  rw [if_neg (by rw [h]; decide), if_neg (by rw [h]; decide), if_neg (by rw [h]; decide), if_neg (by rw [h]; decide), if_pos h]
theorem ab_ev_isi (h : K i = 7) : ab_ev K A B st ar c tb (d + 1) i e = ab_isi c (ab_ev K A B st ar c tb d) i e := by
  show ab_node K A B st ar c tb (ab_ev K A B st ar c tb d) i e = _
  unfold ab_node
  rw [if_neg (by rw [h]; decide), if_neg (by rw [h]; decide), if_neg (by rw [h]; decide), if_neg (by rw [h]; decide), if_neg (by rw [h]; decide), if_pos h]
theorem ab_ev_op (h : K i = 3 ∨ K i = 4 ∨ K i = 5 ∨ K i = 6) : ab_ev K A B st ar c tb (d + 1) i e = ab_op K A c (ab_ev K A B st ar c tb d) i e := by
  show ab_node K A B st ar c tb (ab_ev K A B st ar c tb d) i e = _
  unfold ab_node
  rcases h with h | h | h | h <;>
    rw [if_neg (by rw [h]; decide), if_neg (by rw [h]; decide), if_neg (by rw [h]; decide), if_neg (by rw [h]; decide), if_neg (by rw [h]; decide), if_neg (by rw [h]; decide)]
end
end
section
section
variable (N : Nat) (K A B : Nat → Nat → Int32) (st ar : Nat → Int32) (sz : Nat → Nat)
/-- how many children row i of slot f has -/
def sp_c (f i : Nat) : Nat := bs_cc (K f i) (B f i)
def sp_out (tb : Nat → ty_T) (f : Nat) : ab_O := ab_ev (K f) (A f) (B f) st ar (sp_c K B f) tb 128 (sz f - 1) (ty_any, ty_any)
end
def sp_fld (a : Int32) (j : Nat) (p : ab_O) : ty_T := match p with
  | none => ty_0
  | some x => if j = 2 then x.1 else if j = 0 then (if 1 ≤ a then x.2.1 else ty_0) else (if 2 ≤ a then x.2.2 else ty_0)
section
variable (N : Nat) (K A B : Nat → Nat → Int32) (st ar : Nat → Int32) (sz : Nat → Nat)
def sp_step (tb : Nat → ty_T) : Nat → ty_T := fun q =>
  if q < 3 * N ∧ st (q / 3) = 2 then sp_fld (ar (q / 3)) (q % 3) (sp_out K A B st ar sz tb (q / 3)) else ty_0
def sp_T : Nat → Nat → ty_T
  | 0 => fun _ => ty_0
  | r + 1 => sp_step N K A B st ar sz (sp_T r)
/-- the defined slots are well made -/
def sp_ok : Prop := ∀ f, f < N → st f = 2 → ∃ k : Nat, k ≤ 2 ∧ ar f = nI k ∧ 0 < sz f ∧ sz f ≤ 128 ∧ ab_bd N k (sz f) (K f) (A f) (B f) (sp_c K B f)
end
theorem sp_fld_ok {k : Nat} {a : Int32} {j : Nat} {p : ab_O} (h : ab_po k p) : ty_ok (sp_fld a j p) := by
  cases p with
  | none => exact ty_0_ok
  | some x =>
    obtain ⟨h0, _, h1, _⟩ := h x rfl
    show ty_ok (if j = 2 then x.1 else if j = 0 then (if 1 ≤ a then x.2.1 else ty_0) else (if 2 ≤ a then x.2.2 else ty_0))
    split
    · exact h0
    · split
      · split
        · exact h1.1
        · exact ty_0_ok
      · split
        · exact h1.2.1
        · exact ty_0_ok
theorem sp_fld_le {a : Int32} {j : Nat} {p q : ab_O} (h : ab_le p q) : ty_le (sp_fld a j p) (sp_fld a j q) := by
  cases p with
  | none => exact ty_0_le _
  | some x =>
    obtain ⟨y, rfl, h0, h1, h2⟩ := h x rfl
    show ty_le (if j = 2 then x.1 else if j = 0 then (if 1 ≤ a then x.2.1 else ty_0) else (if 2 ≤ a then x.2.2 else ty_0)) (if j = 2 then y.1 else if j = 0 then (if 1 ≤ a then y.2.1 else ty_0) else (if 2 ≤ a then y.2.2 else ty_0))
    split
    · exact h0
    · split
      · split
        · exact h1
        · exact ty_0_le _
      · split
        · exact h2
        · exact ty_0_le _
theorem sp_any_eo (k : Nat) : ab_eo k (ty_any, ty_any) := ⟨ty_any_ok, ty_any_ok, fun _ => rfl, fun _ => rfl⟩
section
variable {N : Nat} {K A B : Nat → Nat → Int32} {st ar : Nat → Int32} {sz : Nat → Nat}
theorem sp_step_ok {tb : Nat → ty_T} (hp : sp_ok N K A B st ar sz) (ht : ∀ q, ty_ok (tb q)) (q : Nat) : ty_ok (sp_step N K A B st ar sz tb q) := by
  unfold sp_step
  split
  · next z =>
    obtain ⟨k, _, _, h0, _, hb⟩ := hp (q / 3) (by omega) z.2
    exact sp_fld_ok (ab_ev_po hb ht _ _ _ (by omega) (sp_any_eo k))
  · exact ty_0_ok
theorem sp_step_le {tb tb' : Nat → ty_T} (hp : sp_ok N K A B st ar sz) (ht' : ∀ q, ty_ok (tb' q)) (hl : ∀ q, ty_le (tb q) (tb' q)) (q : Nat) : ty_le (sp_step N K A B st ar sz tb q) (sp_step N K A B st ar sz tb' q) := by
  unfold sp_step
  split
  · next z =>
    obtain ⟨k, _, _, h0, _, hb⟩ := hp (q / 3) (by omega) z.2
    exact sp_fld_le (ab_ev_le hb ht' hl _ _ _ _ (by omega) (sp_any_eo k) ⟨ty_le_rfl _, ty_le_rfl _⟩)
  · exact ty_0_le _
theorem sp_T_ok (hp : sp_ok N K A B st ar sz) : ∀ r q, ty_ok (sp_T N K A B st ar sz r q) := by
  intro r
  induction r with
  | zero => intro q; exact ty_0_ok
  | succ r ih => intro q; exact sp_step_ok hp ih q
theorem sp_T_le (hp : sp_ok N K A B st ar sz) : ∀ r q, ty_le (sp_T N K A B st ar sz r q) (sp_T N K A B st ar sz (r + 1) q) := by
  intro r
  induction r with
  | zero => intro q; exact ty_0_le _
  | succ r ih => intro q; exact sp_step_le hp (sp_T_ok hp (r + 1)) ih q
end
def sp_M (tb : Nat → ty_T) : Nat → Nat
  | 0 => 0
  | n + 1 => sp_M tb n + ty_mu (tb n)
theorem sp_M_s (tb : Nat → ty_T) (n : Nat) : sp_M tb (n + 1) = sp_M tb n + ty_mu (tb n) := rfl
theorem sp_M_44 {tb : Nat → ty_T} (h : ∀ q, ty_ok (tb q)) : ∀ n, sp_M tb n ≤ 44 * n := by
  intro n
  induction n with
  | zero => exact Nat.le_refl _
  | succ n ih => rw [sp_M_s]; have := ty_mu_44 (h n); omega
theorem sp_M_le {tb tb' : Nat → ty_T} (h : ∀ q, ty_le (tb q) (tb' q)) : ∀ n, sp_M tb n ≤ sp_M tb' n := by
  intro n
  induction n with
  | zero => exact Nat.le_refl _
  | succ n ih => rw [sp_M_s, sp_M_s]; have := ty_mu_le (h n); omega
theorem sp_M_eq {tb tb' : Nat → ty_T} (ho : ∀ q, ty_ok (tb q)) (ho' : ∀ q, ty_ok (tb' q)) (h : ∀ q, ty_le (tb q) (tb' q)) : ∀ n, sp_M tb' n ≤ sp_M tb n → ∀ q, q < n → tb' q = tb q := by
  intro n
  induction n with
  | zero => intro _ q hq; exact absurd hq (Nat.not_lt_zero q)
  | succ n ih =>
    intro e q hq
    rw [sp_M_s, sp_M_s] at e
    have a := sp_M_le h n
    have b := ty_mu_le (h n)
    by_cases z : q = n
    · subst z
      exact (ty_mu_eq (ho q) (ho' q) (h q) (by omega)).symm
    · exact ih (by omega) q (by omega)
section
variable {N : Nat} {K A B : Nat → Nat → Int32} {st ar : Nat → Int32} {sz : Nat → Nat}
theorem sp_grow (hp : sp_ok N K A B st ar sz) : ∀ r, (∀ j, j < r → ¬ ∀ q, q < 24 → sp_T N K A B st ar sz (j + 1) q = sp_T N K A B st ar sz j q) → r ≤ sp_M (sp_T N K A B st ar sz r) 24 := by
  intro r
  induction r with
  | zero => intro _; exact Nat.zero_le _
  | succ r ih =>
    intro h
    have a := ih (fun j hj => h j (by omega))
    have b := sp_M_le (sp_T_le hp r) 24
    by_cases z : sp_M (sp_T N K A B st ar sz (r + 1)) 24 ≤ sp_M (sp_T N K A B st ar sz r) 24
    · exact absurd (sp_M_eq (sp_T_ok hp r) (sp_T_ok hp (r + 1)) (sp_T_le hp r) 24 z) (h r (by omega))
    · omega
/-- the first round that changes nothing comes within 1,057 rounds -/
theorem sp_fix (hp : sp_ok N K A B st ar sz) : ∃ r, r ≤ 1056 ∧ (∀ q, q < 24 → sp_T N K A B st ar sz (r + 1) q = sp_T N K A B st ar sz r q)
    ∧ ∀ j, j < r → ¬ ∀ q, q < 24 → sp_T N K A B st ar sz (j + 1) q = sp_T N K A B st ar sz j q := by
  have ex : ∃ r, ∀ q, q < 24 → sp_T N K A B st ar sz (r + 1) q = sp_T N K A B st ar sz r q := by
    refine Classical.byContradiction fun h => ?_
    have := sp_grow hp 1057 (fun j _ z => h ⟨j, z⟩)
    have := sp_M_44 (sp_T_ok hp 1057) 24
    omega
  obtain ⟨r, h1, h2⟩ := pk_least _ ex
  refine ⟨r, ?_, h1, h2⟩
  have := sp_grow hp r h2
  have := sp_M_44 (sp_T_ok hp r) 24
  omega
theorem sp_T_hi (hN : N ≤ 8) (r : Nat) {q : Nat} (h : 24 ≤ q) : sp_T N K A B st ar sz r q = ty_0 := by
  cases r with
  | zero => rfl
  | succ r =>
    show sp_step N K A B st ar sz _ q = ty_0
    unfold sp_step
    exact if_neg fun z => by have := z.1; omega
end
end
section
/-- what a run of one subtree gives: (-1, value, calls made so far), or the run's end (1 fails, 2 limit) -/
abbrev rn_R : Type := Int32 × Int32 × Nat
def rn_bd (p : rn_R) (f : Int32 → Nat → rn_R) : rn_R := if p.1 = -1 then f p.2.1 p.2.2 else p
def rn_ok (v : Int32) : Prop := (-99 ≤ v.toInt ∧ v.toInt ≤ 99) ∨ (1000 ≤ v.toInt ∧ v.toInt ≤ 1007)
def rn_ar (k v w : Int32) : Int32 := if k = 3 then v + w else v - w
def rn_op (k v w : Int32) (m : Nat) : rn_R :=
  if k = 6 then (-1, (if v = w then 1001 else 1000), m)
  else if 1000 ≤ v then (1, 0, m)
  else if 1000 ≤ w then (1, 0, m)
  else if k = 5 then (-1, (if v < w then 1001 else 1000), m)
  else if rn_ar k v w < -99 then (1, 0, m)
  else if 99 < rn_ar k v w then (1, 0, m)
  else (-1, rn_ar k v w, m)
section
variable (K A B : Nat → Nat → Int32) (st ar : Nat → Int32) (sz : Nat → Nat)
def rn_call (ev : Nat → Nat → Nat → Int32 → Int32 → Nat → rn_R) (fr g i : Nat) (v w : Int32) (m : Nat) : rn_R :=
  if st (A g i).toNatClampNeg = 2 then
    if ar (A g i).toNatClampNeg = B g i then
      if 200 ≤ m then (2, 0, m)
      else if 15 ≤ fr then (2, 0, m)
      else ev (fr + 1) (A g i).toNatClampNeg (sz (A g i).toNatClampNeg - 1) v w (m + 1)
    else (1, 0, m)
  else (1, 0, m)
def rn_node (ev : Nat → Nat → Nat → Int32 → Int32 → Nat → rn_R) (fr g i : Nat) (x y : Int32) (m : Nat) : rn_R :=
  if K g i = 0 then (-1, A g i, m)
  else if K g i = 1 then (-1, 1000 + A g i, m)
  else if K g i = 2 then (-1, (if A g i = 0 then x else y), m)
  else if K g i = 8 then rn_bd (ev fr g (bs_ch (sp_c K B g) i 0) x y m) fun v m =>
    if v = 1001 then ev fr g (bs_ch (sp_c K B g) i 1) x y m else if v = 1000 then ev fr g (bs_ch (sp_c K B g) i 2) x y m else (1, 0, m)
  else if K g i = 9 then
    if B g i = 0 then rn_call A B st ar sz ev fr g i 0 0 m
    else if B g i = 1 then rn_bd (ev fr g (bs_ch (sp_c K B g) i 0) x y m) fun v m => rn_call A B st ar sz ev fr g i v 0 m
    else rn_bd (ev fr g (bs_ch (sp_c K B g) i 0) x y m) fun v m => rn_bd (ev fr g (bs_ch (sp_c K B g) i 1) x y m) fun w m => rn_call A B st ar sz ev fr g i v w m
  else if K g i = 7 then rn_bd (ev fr g (bs_ch (sp_c K B g) i 0) x y m) fun v m => (-1, (if v < 1000 then 1001 else 1000), m)
  else rn_bd (ev fr g (bs_ch (sp_c K B g) i 0) x y m) fun v m => rn_bd (ev fr g (bs_ch (sp_c K B g) i 1) x y m) fun w m => rn_op (K g i) v w m
def rn_ev : Nat → Nat → Nat → Nat → Int32 → Int32 → Nat → rn_R
  | 0 => fun _ _ _ _ _ m => (1, 0, m)
  | d + 1 => rn_node K A B st ar sz (rn_ev d)
end
/-- a good outcome after m calls -/
def rn_gd (m : Nat) (r : rn_R) : Prop := (r.1 = -1 ∨ r.1 = 1 ∨ r.1 = 2) ∧ (r.1 = -1 → rn_ok r.2.1) ∧ m ≤ r.2.2 ∧ r.2.2 ≤ 200
def rn_ag (a x y : Int32) : Prop := (1 ≤ a → rn_ok x) ∧ (2 ≤ a → rn_ok y)
theorem rn_gd_1 {m m' : Nat} (h : m' ≤ m) (hm : m ≤ 200) : rn_gd m' (1, 0, m) := ⟨Or.inr (Or.inl rfl), fun z => absurd (show (1 : Int32) = -1 from z) (by decide), h, hm⟩
theorem rn_gd_2 {m m' : Nat} (h : m' ≤ m) (hm : m ≤ 200) : rn_gd m' (2, 0, m) := ⟨Or.inr (Or.inr rfl), fun z => absurd (show (2 : Int32) = -1 from z) (by decide), h, hm⟩
theorem rn_gd_v {v : Int32} {m m' : Nat} (h : m' ≤ m) (hm : m ≤ 200) (hv : rn_ok v) : rn_gd m' (-1, v, m) := ⟨Or.inl rfl, fun _ => hv, h, hm⟩
theorem rn_gd_bd {m m' : Nat} {p : rn_R} {f : Int32 → Nat → rn_R} (hp : rn_gd m p) (h : m' ≤ m) (hf : ∀ v m1, m ≤ m1 → m1 ≤ 200 → rn_ok v → rn_gd m1 (f v m1)) : rn_gd m' (rn_bd p f) := by
  obtain ⟨h1, h2, h3, h4⟩ := hp
  unfold rn_bd
  split
  · next z =>
    obtain ⟨g1, g2, g3, g4⟩ := hf p.2.1 p.2.2 h3 h4 (h2 z)
    exact ⟨g1, g2, by omega, g4⟩
  · exact ⟨h1, h2, by omega, h4⟩
theorem rn_gd_m {m m' : Nat} {r : rn_R} (h : rn_gd m r) (hm : m' ≤ m) : rn_gd m' r := ⟨h.1, h.2.1, by have := h.2.2.1; omega, h.2.2.2⟩
theorem rn_ok_t : rn_ok 1001 := Or.inr (by decide)
theorem rn_ok_f : rn_ok 1000 := Or.inr (by decide)
theorem rn_ok_0 : rn_ok 0 := Or.inl (by decide)
theorem rn_ok_if {p : Prop} [Decidable p] : rn_ok (if p then 1001 else 1000) := by
  split
  · exact rn_ok_t
  · exact rn_ok_f
theorem rn_ok_at : ∀ j, j < 8 → rn_ok (1000 + nI j) := by
  have h : ∀ j, j < 8 → 1000 ≤ (1000 + nI j).toInt ∧ (1000 + nI j).toInt ≤ 1007 := by decide
  exact fun j hj => Or.inr (h j hj)
theorem rn_op_gd {k v w : Int32} {m : Nat} (hm : m ≤ 200) : rn_gd m (rn_op k v w m) := by
  unfold rn_op
  split
  · exact rn_gd_v (Nat.le_refl _) hm rn_ok_if
  · split
    · exact rn_gd_1 (Nat.le_refl _) hm
    · split
      · exact rn_gd_1 (Nat.le_refl _) hm
      · split
        · exact rn_gd_v (Nat.le_refl _) hm rn_ok_if
        · split
          · exact rn_gd_1 (Nat.le_refl _) hm
          · split
            · exact rn_gd_1 (Nat.le_refl _) hm
            · next h1 h2 =>
              refine rn_gd_v (Nat.le_refl _) hm (Or.inl ?_)
              rw [Int32.lt_iff_toInt_lt, show (-99 : Int32).toInt = -99 by decide] at h1
              rw [Int32.lt_iff_toInt_lt, show (99 : Int32).toInt = 99 by decide] at h2
              omega
section
variable {N : Nat} {K A B : Nat → Nat → Int32} {st ar : Nat → Int32} {sz : Nat → Nat}
theorem rn_ev_gd (hN : N ≤ 8) (hp : sp_ok N K A B st ar sz) : ∀ d fr g i x y m, g < N → st g = 2 → i < sz g → rn_ag (ar g) x y → m ≤ 200 → rn_gd m (rn_ev K A B st ar sz d fr g i x y m) := by
  intro d
  induction d with
  | zero => intro fr g i x y m _ _ _ _ hm; exact rn_gd_1 (Nat.le_refl _) hm
  | succ d ih =>
    intro fr g i x y m hg hs hi hxy hm
    obtain ⟨k, hk, ek, hz0, hz, hb⟩ := hp g hg hs
    have nd := hb.1 i hi
    show rn_gd m (rn_node K A B st ar sz (rn_ev K A B st ar sz d) fr g i x y m)
    have call : ∀ v w m1, K g i = 9 → m ≤ m1 → m1 ≤ 200 → rn_ok v → rn_ok w → rn_gd m1 (rn_call A B st ar sz (rn_ev K A B st ar sz d) fr g i v w m1) := by
      intro v w m1 h9 h1 h2 hv hw
      unfold rn_call
      split
      · next s2 =>
        split
        · split
          · exact rn_gd_2 (Nat.le_refl _) h2
          · split
            · exact rn_gd_2 (Nat.le_refl _) h2
            · obtain ⟨a, ha, ea⟩ := nd.2.2.2.2.1 h9
              rw [ea, nI_clamp (by omega)] at s2 ⊢
              obtain ⟨k', _, _, z0, _, _⟩ := hp a ha s2
              exact rn_gd_m (ih _ _ _ _ _ _ ha s2 (by omega) ⟨fun _ => hv, fun _ => hw⟩ (by omega)) (by omega)
        · exact rn_gd_1 (Nat.le_refl _) h2
      · exact rn_gd_1 (Nat.le_refl _) h2
    have ch : ∀ j m1, j < sp_c K B g i → m1 ≤ 200 → rn_gd m1 (rn_ev K A B st ar sz d fr g (bs_ch (sp_c K B g) i j) x y m1) :=
      fun j m1 hj h1 => ih _ _ _ _ _ _ hg hs (ab_ch hb hi hj) hxy h1
    unfold rn_node
    split
    · next h0 => exact rn_gd_v (Nat.le_refl _) hm (Or.inl (nd.2.1 h0))
    · split
      · next h1 =>
        obtain ⟨j, hj, ej⟩ := nd.2.2.1 h1
        rw [ej]
        exact rn_gd_v (Nat.le_refl _) hm (rn_ok_at j hj)
      · split
        · next h2 =>
          obtain ⟨j, hj, ej⟩ := nd.2.2.2.1 h2
          refine rn_gd_v (Nat.le_refl _) hm ?_
          have one : (1 : Int32) = nI 1 := by decide
          have two : (2 : Int32) = nI 2 := by decide
          split
          · exact hxy.1 (by rw [ek, one]; exact nI_le (by omega) (by omega))
          · next z =>
            have : j ≠ 0 := fun e0 => z (by rw [ej, e0]; rfl)
            exact hxy.2 (by rw [ek, two]; exact nI_le (by omega) (by omega))
        · split
          · next h8 =>
            have h3 := ab_c8 hb h8
            refine rn_gd_bd (ch 0 m (by omega) hm) (Nat.le_refl _) fun v m1 h1 h2 hv => ?_
            split
            · exact ch 1 m1 (by omega) h2
            · split
              · exact ch 2 m1 (by omega) h2
              · exact rn_gd_1 (Nat.le_refl _) h2
          · split
            · next h9 =>
              split
              · exact call 0 0 m h9 (Nat.le_refl _) hm rn_ok_0 rn_ok_0
              · split
                · next b1 =>
                  have hc := ab_cB1 hb h9 b1
                  exact rn_gd_bd (ch 0 m (by omega) hm) (Nat.le_refl _) fun v m1 h1 h2 hv => call v 0 m1 h9 h1 h2 hv rn_ok_0
                · next b0 b1 =>
                  have hc := (ab_cB2 hb hi h9 b0 b1).1
                  exact rn_gd_bd (ch 0 m (by omega) hm) (Nat.le_refl _) fun v m1 h1 h2 hv =>
                    rn_gd_bd (ch 1 m1 (by omega) h2) (Nat.le_refl _) fun w m2 h3 h4 hw => call v w m2 h9 (by omega) h4 hv hw
            · split
              · next h7 =>
                have hc := ab_c7 hb h7
                exact rn_gd_bd (ch 0 m (by omega) hm) (Nat.le_refl _) fun v m1 h1 h2 hv => rn_gd_v (Nat.le_refl _) h2 rn_ok_if
              · next h0 h1 h2 h8 h9 h7 =>
                have hc := ab_c2 hb hi h0 h1 h2 h8 h9 h7
                exact rn_gd_bd (ch 0 m (by omega) hm) (Nat.le_refl _) fun v m1 h1 h2 hv =>
                  rn_gd_bd (ch 1 m1 (by omega) h2) (Nat.le_refl _) fun w m2 h3 h4 hw => rn_op_gd h4
end
end
section
section
variable {K A B : Nat → Nat → Int32} {st ar : Nat → Int32} {sz : Nat → Nat} {d fr g i m : Nat} {x y : Int32}
theorem rn_ev_lf (h : K g i = 0 ∨ K g i = 1 ∨ K g i = 2) : rn_ev K A B st ar sz (d + 1) fr g i x y m = (-1, (if K g i = 0 then A g i else if K g i = 1 then 1000 + A g i else if A g i = 0 then x else y), m) := by
  show rn_node K A B st ar sz (rn_ev K A B st ar sz d) fr g i x y m = _
  unfold rn_node
  by_cases h0 : K g i = 0
  · rw [if_pos h0, if_pos h0]
  · rw [if_neg h0, if_neg h0]
    by_cases h1 : K g i = 1
    · rw [if_pos h1, if_pos h1]
    · rw [if_neg h1, if_neg h1, if_pos ((h.resolve_left h0).resolve_left h1)]
theorem rn_ev_if (h : K g i = 8) : rn_ev K A B st ar sz (d + 1) fr g i x y m = rn_bd (rn_ev K A B st ar sz d fr g (bs_ch (sp_c K B g) i 0) x y m) fun v m =>
    if v = 1001 then rn_ev K A B st ar sz d fr g (bs_ch (sp_c K B g) i 1) x y m else if v = 1000 then rn_ev K A B st ar sz d fr g (bs_ch (sp_c K B g) i 2) x y m else (1, 0, m) := by
  show rn_node K A B st ar sz (rn_ev K A B st ar sz d) fr g i x y m = _
  unfold rn_node
  rw [if_neg (by rw [h]; decide), if_neg (by rw [h]; decide), if_neg (by rw [h]; decide), if_pos h]
theorem rn_ev_isi (h : K g i = 7) : rn_ev K A B st ar sz (d + 1) fr g i x y m = rn_bd (rn_ev K A B st ar sz d fr g (bs_ch (sp_c K B g) i 0) x y m) fun v m => (-1, (if v < 1000 then 1001 else 1000), m) := by
  show rn_node K A B st ar sz (rn_ev K A B st ar sz d) fr g i x y m = _
  unfold rn_node
  rw [if_neg (by rw [h]; decide), if_neg (by rw [h]; decide), if_neg (by rw [h]; decide), if_neg (by rw [h]; decide), if_neg (by rw [h]; decide), if_pos h]
theorem rn_ev_op (h : K g i = 3 ∨ K g i = 4 ∨ K g i = 5 ∨ K g i = 6) : rn_ev K A B st ar sz (d + 1) fr g i x y m =
    rn_bd (rn_ev K A B st ar sz d fr g (bs_ch (sp_c K B g) i 0) x y m) fun v m => rn_bd (rn_ev K A B st ar sz d fr g (bs_ch (sp_c K B g) i 1) x y m) fun w m => rn_op (K g i) v w m := by
  show rn_node K A B st ar sz (rn_ev K A B st ar sz d) fr g i x y m = _
  unfold rn_node
  rcases h with h | h | h | h <;>
    rw [if_neg (by rw [h]; decide), if_neg (by rw [h]; decide), if_neg (by rw [h]; decide), if_neg (by rw [h]; decide), if_neg (by rw [h]; decide), if_neg (by rw [h]; decide)]
theorem rn_ev_c0 (h : K g i = 9) (b : B g i = 0) : rn_ev K A B st ar sz (d + 1) fr g i x y m = rn_call A B st ar sz (rn_ev K A B st ar sz d) fr g i 0 0 m := by
  show rn_node K A B st ar sz (rn_ev K A B st ar sz d) fr g i x y m = _
  unfold rn_node
  rw [if_neg (by rw [h]; decide), if_neg (by rw [h]; decide), if_neg (by rw [h]; decide), if_neg (by rw [h]; decide), if_pos h, if_pos b]
theorem rn_ev_c1 (h : K g i = 9) (b : B g i = 1) : rn_ev K A B st ar sz (d + 1) fr g i x y m =
    rn_bd (rn_ev K A B st ar sz d fr g (bs_ch (sp_c K B g) i 0) x y m) fun v m => rn_call A B st ar sz (rn_ev K A B st ar sz d) fr g i v 0 m := by
  show rn_node K A B st ar sz (rn_ev K A B st ar sz d) fr g i x y m = _
  unfold rn_node
  rw [if_neg (by rw [h]; decide), if_neg (by rw [h]; decide), if_neg (by rw [h]; decide), if_neg (by rw [h]; decide), if_pos h, if_neg (by rw [b]; decide), if_pos b]
theorem rn_ev_c2 (h : K g i = 9) (b : B g i = 2) : rn_ev K A B st ar sz (d + 1) fr g i x y m =
    rn_bd (rn_ev K A B st ar sz d fr g (bs_ch (sp_c K B g) i 0) x y m) fun v m => rn_bd (rn_ev K A B st ar sz d fr g (bs_ch (sp_c K B g) i 1) x y m) fun w m => rn_call A B st ar sz (rn_ev K A B st ar sz d) fr g i v w m := by
  show rn_node K A B st ar sz (rn_ev K A B st ar sz d) fr g i x y m = _
  unfold rn_node
  rw [if_neg (by rw [h]; decide), if_neg (by rw [h]; decide), if_neg (by rw [h]; decide), if_neg (by rw [h]; decide), if_pos h, if_neg (by rw [b]; decide), if_neg (by rw [b]; decide)]
theorem rn_bd_t {p : rn_R} {f : Int32 → Nat → rn_R} (h : p.1 = -1) : rn_bd p f = f p.2.1 p.2.2 := if_pos h
theorem rn_bd_f {p : rn_R} {f : Int32 → Nat → rn_R} (h : p.1 ≠ -1) : rn_bd p f = p := if_neg h
end
theorem rn_n1 (v : Int32) (m : Nat) : ((1, v, m) : rn_R).1 ≠ -1 := show (1 : Int32) ≠ -1 by decide
theorem rn_n2 (v : Int32) (m : Nat) : ((2, v, m) : rn_R).1 ≠ -1 := show (2 : Int32) ≠ -1 by decide
theorem rn_op_m (k v w : Int32) (m : Nat) : (rn_op k v w m).2.2 = m := by
  unfold rn_op
  repeat (first | rfl | split)
end
section
/-- the component's abstract evaluation, one pass over the rows: arrays 0 nodeTypes, 1 paramsAfter, 2 params -/
def xa_ty (o : ab_O) : ty_T := match o with
  | none => ty_0
  | some x => x.1
def xa_en (o : ab_O) : ab_E := match o with
  | none => (ty_0, ty_0)
  | some x => x.2
def xa_st (Z : Nat → Nat → Int32) (r : Nat) (o : ab_O) : Prop := Z 0 r = ty_x (xa_ty o) ∧ Z 1 (r * 2) = ty_x (xa_en o).1 ∧ Z 1 (r * 2 + 1) = ty_x (xa_en o).2
def xa_cu (Z : Nat → Nat → Int32) (e : ab_E) : Prop := Z 2 0 = ty_x e.1 ∧ Z 2 1 = ty_x e.2
/-- nothing changed but rows lo to hi, and the parameters -/
def xa_ag (lo hi : Nat) (Z Z' : Nat → Nat → Int32) : Prop := (∀ j, (j < lo ∨ hi < j) → Z' 0 j = Z 0 j) ∧ (∀ j, (j < lo * 2 ∨ hi * 2 + 1 < j) → Z' 1 j = Z 1 j)
def xa_dd (e : ab_E) : Prop := e.1 = ty_0 ∨ e.2 = ty_0
def xa_eo (k : Nat) (e : ab_E) : Prop := ty_ok e.1 ∧ ty_ok e.2 ∧ (ab_eo k e ∨ xa_dd e)
theorem xa_ag_r (lo hi : Nat) (Z : Nat → Nat → Int32) : xa_ag lo hi Z Z := ⟨fun _ _ => rfl, fun _ _ => rfl⟩
theorem xa_ag_t {a b lo hi lo' hi' : Nat} {Z Z' Z'' : Nat → Nat → Int32} (h : xa_ag lo hi Z Z') (g : xa_ag lo' hi' Z' Z'') (h1 : a ≤ lo) (h2 : hi ≤ b) (h3 : a ≤ lo') (h4 : hi' ≤ b) : xa_ag a b Z Z'' :=
  ⟨fun j hj => (g.1 j (by omega)).trans (h.1 j (by omega)), fun j hj => (g.2 j (by omega)).trans (h.2 j (by omega))⟩
theorem xa_ag_w {a b lo hi : Nat} {Z Z' : Nat → Nat → Int32} (h : xa_ag lo hi Z Z') (h1 : a ≤ lo) (h2 : hi ≤ b) : xa_ag a b Z Z' := ⟨fun j hj => h.1 j (by omega), fun j hj => h.2 j (by omega)⟩
theorem xa_st_k {lo hi r : Nat} {Z Z' : Nat → Nat → Int32} {o : ab_O} (h : xa_st Z r o) (g : xa_ag lo hi Z Z') (hr : r < lo ∨ hi < r) : xa_st Z' r o :=
  ⟨(g.1 r hr).trans h.1, (g.2 _ (by omega)).trans h.2.1, (g.2 _ (by omega)).trans h.2.2⟩
theorem xa_st_e {r : Nat} {Z Z' : Nat → Nat → Int32} {o : ab_O} (h0 : Z' 0 = Z 0) (h1 : Z' 1 = Z 1) (h : xa_st Z r o) : xa_st Z' r o := by
  unfold xa_st; rw [h0, h1]; exact h
theorem xa_00 : ty_x ty_0 = 0 := ty_x_00
theorem xa_ty_ok {k : Nat} {o : ab_O} (h : ab_po k o) : ty_ok (xa_ty o) := by
  cases o with
  | none => exact ty_0_ok
  | some x => exact (h x rfl).1
theorem xa_en_eo {k : Nat} {o : ab_O} (h : ab_po k o) : xa_eo k (xa_en o) := by
  cases o with
  | none => exact ⟨ty_0_ok, ty_0_ok, Or.inr (Or.inl rfl)⟩
  | some x =>
    have := (h x rfl).2.2.1
    exact ⟨this.1, this.2.1, Or.inl this⟩
theorem xa_po {N k n : Nat} {K A B st ar : Nat → Int32} {c : Nat → Nat} {tb : Nat → ty_T} (hb : ab_bd N k n K A B c) (ht : ∀ q, ty_ok (tb q)) (d i : Nat) (e : ab_E) (hi : i < n) (he : xa_eo k e) : ab_po k (ab_ev K A B st ar c tb d i e) := by
  rcases he.2.2 with h | h
  · exact ab_ev_po hb ht d i e hi h
  · rw [ab_dead d i e h]; exact ab_none_po k
theorem xa_nv_0 (K A : Nat → Int32) (p : Nat) (t : ty_T) : ab_nv K A p t (ty_0, ty_0) = (ty_0, ty_0) := by
  unfold ab_nv
  simp only [ty_meet_0, ite_self]
theorem xa_fin_0 (r : ty_T) : ab_fin r (ty_0, ty_0) = none := ab_fin_dead (Or.inl rfl)
section
variable (k n S : Nat) (K A B st ar : Nat → Int32) (c : Nat → Nat) (tb : Nat → ty_T) (XA XT : Nat → (Nat → Nat → Int32) → Prop)
def xa_c (Z : Nat → Nat → Int32) (i : Nat) (o : ab_O) : Prop := ∀ Z', xa_ag (S + i) (S + i) Z Z' → xa_st Z' (S + i) o → xa_cu Z' (xa_en o) → XT (S + i) Z'
def xa_e (e : ab_E) : Prop := ty_ok e.1 ∧ ty_ok e.2
def xa_X1 : Prop := ∀ (i : Nat) (e : ab_E) (Z : Nat → Nat → Int32), i < n → (K i = 0 ∨ K i = 1 ∨ K i = 2) → xa_e e → xa_cu Z e → xa_c S XT Z i (ab_leaf K A i e) → XA (S + i) Z
def xa_X2 : Prop := ∀ (i : Nat) (x y : ty_T) (e : ab_E) (Z : Nat → Nat → Int32), i < n → (K i = 3 ∨ K i = 4 ∨ K i = 5 ∨ K i = 6) → ty_ok x → ty_ok y → xa_e e → xa_cu Z e →
  Z 0 (S + bs_ch c i 0) = ty_x x → Z 0 (S + bs_ch c i 1) = ty_x y → xa_c S XT Z i (ab_opf K A c i x y e) → XA (S + i) Z
def xa_X3 : Prop := ∀ (i : Nat) (x : ty_T) (e : ab_E) (Z : Nat → Nat → Int32), i < n → K i = 7 → ty_ok x → xa_e e → xa_cu Z e →
  Z 0 (S + bs_ch c i 0) = ty_x x → xa_c S XT Z i (ab_fin ((if x.1 = 0 then 0 else 1) + (if x.2.1 = 0 then 0 else 2), 0, 0) e) → XA (S + i) Z
def xa_X4 : Prop := ∀ (i : Nat) (o o' : ab_O) (Z : Nat → Nat → Int32), i < n → K i = 8 → ab_po k o → ab_po k o' → xa_st Z (S + bs_ch c i 1) o → xa_st Z (S + bs_ch c i 2) o' → xa_c S XT Z i (ab_jn o o') → XA (S + i) Z
def xa_X5 : Prop := ∀ (i : Nat) (e : ab_E) (Z : Nat → Nat → Int32), i < n → K i = 9 → B i = 0 → xa_e e → xa_cu Z e → xa_c S XT Z i (ab_cl0 A B st ar tb i e) → XA (S + i) Z
def xa_X6 : Prop := ∀ (i : Nat) (x : ty_T) (e : ab_E) (Z : Nat → Nat → Int32), i < n → K i = 9 → B i = 1 → ty_ok x → xa_e e → xa_cu Z e →
  Z 0 (S + bs_ch c i 0) = ty_x x → xa_c S XT Z i (ab_cl1 K A B st ar c tb i x e) → XA (S + i) Z
def xa_X7 : Prop := ∀ (i : Nat) (x y : ty_T) (e : ab_E) (Z : Nat → Nat → Int32), i < n → K i = 9 → B i = 2 → ty_ok x → ty_ok y → xa_e e → xa_cu Z e →
  Z 0 (S + bs_ch c i 0) = ty_x x → Z 0 (S + bs_ch c i 1) = ty_x y → xa_c S XT Z i (ab_cl2 K A B st ar c tb i x y e) → XA (S + i) Z
/-- behind a row that no branch hangs on -/
def xa_T1 : Prop := ∀ (i j : Nat) (Z : Nat → Nat → Int32), i < n → j < c i → (K i = 8 → j = 2) → XA (S + bs_ch c i j + 1) Z → XT (S + bs_ch c i j) Z
def xa_br (b : Bool) (e : ab_E) : ab_E := if b = true then e else (ty_0, e.2)
def xa_T2 : Prop := ∀ (i : Nat) (o : ab_O) (Z : Nat → Nat → Int32), i < n → K i = 8 → ab_po k o → xa_st Z (S + bs_ch c i 0) o →
  (∀ Z', Z' 0 = Z 0 → Z' 1 = Z 1 → xa_cu Z' (xa_br ((xa_ty o).1.testBit 1) (ab_th K A c i ty_ints (xa_en o))) → XA (S + bs_ch c i 0 + 1) Z') → XT (S + bs_ch c i 0) Z
def xa_T3 : Prop := ∀ (i : Nat) (o : ab_O) (Z : Nat → Nat → Int32), i < n → K i = 8 → ab_po k o → xa_st Z (S + bs_ch c i 0) o →
  (∀ Z', Z' 0 = Z 0 → Z' 1 = Z 1 → xa_cu Z' (xa_br ((xa_ty o).1.testBit 0) (ab_th K A c i ty_ats (xa_en o))) → XA (S + bs_ch c i 1 + 1) Z') → XT (S + bs_ch c i 1) Z
def xa_S (d : Nat) : Prop := ∀ (i : Nat) (e : ab_E) (Z : Nat → Nat → Int32), i < d → i < n → xa_eo k e → xa_cu Z e →
  (∀ Z', xa_ag (S + bs_ss c i) (S + i) Z Z' → xa_st Z' (S + i) (ab_ev K A B st ar c tb d i e) → xa_cu Z' (xa_en (ab_ev K A B st ar c tb d i e)) → XT (S + i) Z') → XA (S + bs_ss c i) Z
end
section
variable {N k n S : Nat} {K A B st ar : Nat → Int32} {c : Nat → Nat} {tb : Nat → ty_T} {XA XT : Nat → (Nat → Nat → Int32) → Prop}
theorem xa_opf_0 (i : Nat) (x y : ty_T) : ab_opf K A c i x y (ty_0, ty_0) = none := by
  unfold ab_opf
  simp only [xa_nv_0, xa_fin_0, ite_self]
theorem xa_cl1_0 (i : Nat) (x : ty_T) : ab_cl1 K A B st ar c tb i x (ty_0, ty_0) = none := by
  unfold ab_cl1 ab_arg ab_gd
  simp only [xa_nv_0, xa_fin_0, ite_self]
theorem xa_cl2_0 (i : Nat) (x y : ty_T) : ab_cl2 K A B st ar c tb i x y (ty_0, ty_0) = none := by
  unfold ab_cl2 ab_arg ab_gd
  simp only [xa_nv_0, xa_fin_0, ite_self]
theorem xa_ev_0 (d i : Nat) : ab_ev K A B st ar c tb d i (ty_0, ty_0) = none := ab_dead d i _ (Or.inl rfl)
/-- two children, one after the other, then the row's own outcome -/
theorem xa_two (ev : Nat → ab_E → ab_O) (h0 : ∀ i, ev i (ty_0, ty_0) = none) (f : ty_T → ty_T → ab_E → ab_O) (hf : ∀ x y, f x y (ty_0, ty_0) = none) (i j : Nat) (e : ab_E) :
    ((ev i e).bind fun x => (ev j x.2).bind fun y => f x.1 y.1 y.2) = f (xa_ty (ev i e)) (xa_ty (ev j (xa_en (ev i e)))) (xa_en (ev j (xa_en (ev i e)))) := by
  cases ho : ev i e with
  | none =>
    show none = f ty_0 (xa_ty (ev j (ty_0, ty_0))) (xa_en (ev j (ty_0, ty_0)))
    rw [h0 j]
    exact (hf _ _).symm
  | some x =>
    show ((ev j x.2).bind fun y => f x.1 y.1 y.2) = f x.1 (xa_ty (ev j x.2)) (xa_en (ev j x.2))
    cases hy : ev j x.2 with
    | none => exact (hf _ _).symm
    | some y => rfl
theorem xa_one (ev : Nat → ab_E → ab_O) (f : ty_T → ab_E → ab_O) (hf : ∀ x, f x (ty_0, ty_0) = none) (i : Nat) (e : ab_E) :
    ((ev i e).bind fun x => f x.1 x.2) = f (xa_ty (ev i e)) (xa_en (ev i e)) := by
  cases ho : ev i e with
  | none => exact (hf _).symm
  | some x => rfl
theorem xa_eo_e {k : Nat} {e : ab_E} (h : xa_eo k e) : xa_e e := ⟨h.1, h.2.1⟩
theorem xa_br_eo {k : Nat} {b : Bool} {e : ab_E} (h : xa_eo k e) : xa_eo k (xa_br b e) := by
  unfold xa_br
  split
  · exact h
  · exact ⟨ty_0_ok, h.2.1, Or.inr (Or.inl rfl)⟩
theorem xa_nv_eo {K A : Nat → Int32} {k p : Nat} {t : ty_T} {e : ab_E} (hp : K p = 2 → ∃ j : Nat, j < k ∧ A p = nI j) (ht : ty_ok t) (h : xa_eo k e) : xa_eo k (ab_nv K A p t e) := by
  obtain ⟨h1, h2, h3⟩ := h
  rcases h3 with h3 | h3
  · have := ab_nv_eo hp ht h3
    exact ⟨this.1, this.2.1, Or.inl this⟩
  · unfold ab_nv
    split
    · split
      · refine ⟨ty_meet_ok h1 ht, h2, Or.inr ?_⟩
        rcases h3 with z | z
        · left; show ty_meet e.1 t = ty_0; rw [z]; exact ty_meet_0 t
        · right; exact z
      · refine ⟨h1, ty_meet_ok h2 ht, Or.inr ?_⟩
        rcases h3 with z | z
        · left; exact z
        · right; show ty_meet e.2 t = ty_0; rw [z]; exact ty_meet_0 t
    · exact ⟨h1, h2, Or.inr h3⟩
theorem xa_th_eo (hb : ab_bd N k n K A B c) {i : Nat} (hi : i < n) (h8 : K i = 8) {t : ty_T} (ht : ty_ok t) {e : ab_E} (he : xa_eo k e) : xa_eo k (ab_th K A c i t e) := by
  have h3 := ab_c8 hb h8
  have hc := ab_ch hb hi (j := 0) (by omega)
  have h := xa_nv_eo (t := ty_bool) (ab_var hb hc) ty_bool_ok he
  unfold ab_th
  split
  · next z => exact xa_nv_eo (ab_var hb (ab_ch hb hc (j := 0) (by rw [ab_c7 hb z]; decide))) ht h
  · exact h
/-- one child: the component comes from its beginning to the row itself -/
theorem xa_s2 (hb : ab_bd N k n K A B c) (hT : ∀ q, ty_ok (tb q)) (T1 : xa_T1 n S K c XA XT) {d : Nat} (ih : xa_S k n S K A B st ar c tb XA XT d) {i : Nat} {e : ab_E} {Z : Nat → Nat → Int32} (hd : i < d + 1) (hi : i < n) (he : xa_eo k e) (hcu : xa_cu Z e) (h8 : ¬ K i = 8) (hc : c i = 2)
    (hk : ∀ Z', xa_ag (S + bs_ss c i) (S + i - 1) Z Z' → xa_st Z' (S + bs_ch c i 0) (ab_ev K A B st ar c tb d (bs_ch c i 0) e) →
      xa_st Z' (S + bs_ch c i 1) (ab_ev K A B st ar c tb d (bs_ch c i 1) (xa_en (ab_ev K A B st ar c tb d (bs_ch c i 0) e))) →
      xa_cu Z' (xa_en (ab_ev K A B st ar c tb d (bs_ch c i 1) (xa_en (ab_ev K A B st ar c tb d (bs_ch c i 0) e)))) → XA (S + i) Z') : XA (S + bs_ss c i) Z := by
  have l0 := bs_ch_lt hb.2.2 hi (k := 0) (by omega)
  have l1 := bs_ch_lt hb.2.2 hi (k := 1) (by omega)
  have q0 := bs_ch_0 hb.2.2 hi (by omega)
  have q1 := bs_ch_n hb.2.2 hi (k := 0) (by omega)
  have q2 := bs_ch_l hb.2.2 hi (k := 1) (by omega)
  have s0 := bs_ss_le c (bs_ch c i 0)
  have s1 := bs_ss_le c (bs_ch c i 1)
  rw [Nat.zero_add] at q1
  have po := xa_po hb hT (st := st) (ar := ar) d (bs_ch c i 0) e (by omega) he
  rw [← q0]
  refine ih (bs_ch c i 0) e Z (by omega) (by omega) he hcu ?_
  intro Z1 ag1 st1 cu1
  refine T1 i 0 Z1 hi (by omega) (fun z => absurd z h8) ?_
  rw [Nat.add_assoc, ← q1]
  refine ih (bs_ch c i 1) _ Z1 (by omega) (by omega) (xa_en_eo po) cu1 ?_
  intro Z2 ag2 st2 cu2
  refine T1 i 1 Z2 hi (by omega) (fun z => absurd z h8) ?_
  rw [Nat.add_assoc, q2]
  exact hk Z2 (xa_ag_t ag1 ag2 (by omega) (by omega) (by omega) (by omega)) (xa_st_k st1 ag2 (by omega)) st2 cu2
theorem xa_s1 (hb : ab_bd N k n K A B c) (T1 : xa_T1 n S K c XA XT) {d : Nat} (ih : xa_S k n S K A B st ar c tb XA XT d) {i : Nat} {e : ab_E} {Z : Nat → Nat → Int32} (hd : i < d + 1) (hi : i < n) (he : xa_eo k e) (hcu : xa_cu Z e) (h8 : ¬ K i = 8) (hc : c i = 1)
    (hk : ∀ Z', xa_ag (S + bs_ss c i) (S + i - 1) Z Z' → xa_st Z' (S + bs_ch c i 0) (ab_ev K A B st ar c tb d (bs_ch c i 0) e) →
      xa_cu Z' (xa_en (ab_ev K A B st ar c tb d (bs_ch c i 0) e)) → XA (S + i) Z') : XA (S + bs_ss c i) Z := by
  have l0 := bs_ch_lt hb.2.2 hi (k := 0) (by omega)
  have q0 := bs_ch_0 hb.2.2 hi (by omega)
  have q2 := bs_ch_l hb.2.2 hi (k := 0) (by omega)
  have s0 := bs_ss_le c (bs_ch c i 0)
  rw [← q0]
  refine ih (bs_ch c i 0) e Z (by omega) (by omega) he hcu ?_
  intro Z1 ag1 st1 cu1
  refine T1 i 0 Z1 hi (by omega) (fun z => absurd z h8) ?_
  rw [Nat.add_assoc, q2]
  exact hk Z1 (xa_ag_w ag1 (by omega) (by omega)) st1 cu1
theorem xa_sim (hb : ab_bd N k n K A B c) (hT : ∀ q, ty_ok (tb q)) (X1 : xa_X1 n S K A XA XT) (X2 : xa_X2 n S K A c XA XT) (X3 : xa_X3 n S K c XA XT) (X4 : xa_X4 k n S K c XA XT) (X5 : xa_X5 n S K A B st ar tb XA XT) (X6 : xa_X6 n S K A B st ar c tb XA XT) (X7 : xa_X7 n S K A B st ar c tb XA XT)
    (T1 : xa_T1 n S K c XA XT) (T2 : xa_T2 k n S K A c XA XT) (T3 : xa_T3 k n S K A c XA XT) : ∀ d, xa_S k n S K A B st ar c tb XA XT d := by
  intro d
  induction d with
  | zero => intro i e Z hd; exact absurd hd (Nat.not_lt_zero i)
  | succ d ih =>
    intro i e Z hd hi he hcu hk
    have sl := bs_ss_le c i
    have leaf : (K i = 0 ∨ K i = 1 ∨ K i = 2) → c i = 0 → XA (S + bs_ss c i) Z := by
      intro h hc
      rw [bs_ss_0 hc] at hk ⊢
      rw [ab_ev_lf h] at hk
      exact X1 i e Z hi h (xa_eo_e he) hcu hk
    have op : (K i = 3 ∨ K i = 4 ∨ K i = 5 ∨ K i = 6) → c i = 2 → XA (S + bs_ss c i) Z := by
      intro h hc
      have n8 : ¬ K i = 8 := by rcases h with h | h | h | h <;> rw [h] <;> decide
      have l0 := bs_ch_lt hb.2.2 hi (k := 0) (by omega)
      have l1 := bs_ch_lt hb.2.2 hi (k := 1) (by omega)
      have p0 := xa_po hb hT (st := st) (ar := ar) d (bs_ch c i 0) e (by omega) he
      have p1 := xa_po hb hT (st := st) (ar := ar) d (bs_ch c i 1) _ (by omega) (xa_en_eo p0)
      rw [ab_ev_op h, ab_op, xa_two _ (xa_ev_0 d) _ (xa_opf_0 i)] at hk
      refine xa_s2 hb hT T1 ih hd hi he hcu n8 hc fun Z1 ag st0 st1 cu => ?_
      exact X2 i _ _ _ Z1 hi h (xa_ty_ok p0) (xa_ty_ok p1) (xa_eo_e (xa_en_eo p1)) cu st0.1 st1.1 fun Z2 ag2 => hk Z2 (xa_ag_t ag ag2 (by omega) (by omega) (by omega) (by omega))
    rcases bd_10 (hb.1 i hi) with h | h | h | h | h | h | h | h | h | h
    · exact leaf (Or.inl h) (by rw [hb.2.1 i, h]; exact bs_cc0 _)
    · exact leaf (Or.inr (Or.inl h)) (by rw [hb.2.1 i, h]; exact bs_cc1 _)
    · exact leaf (Or.inr (Or.inr h)) (by rw [hb.2.1 i, h]; exact bs_cc2 _)
    · exact op (Or.inl h) (by rw [hb.2.1 i, h]; exact bs_cc3 _)
    · exact op (Or.inr (Or.inl h)) (by rw [hb.2.1 i, h]; exact bs_cc4 _)
    · exact op (Or.inr (Or.inr (Or.inl h))) (by rw [hb.2.1 i, h]; exact bs_cc5 _)
    · exact op (Or.inr (Or.inr (Or.inr h))) (by rw [hb.2.1 i, h]; exact bs_cc6 _)
    · have hc := ab_c7 hb h
      have n8 : ¬ K i = 8 := by rw [h]; decide
      have l0 := bs_ch_lt hb.2.2 hi (k := 0) (by omega)
      have p0 := xa_po hb hT (st := st) (ar := ar) d (bs_ch c i 0) e (by omega) he
      rw [ab_ev_isi h, ab_isi, xa_one (ab_ev K A B st ar c tb d) (fun x e => ab_fin ((if x.1 = 0 then 0 else 1) + (if x.2.1 = 0 then 0 else 2), 0, 0) e) (fun x => xa_fin_0 _)] at hk
      refine xa_s1 hb T1 ih hd hi he hcu n8 hc fun Z1 ag st0 cu => ?_
      exact X3 i _ _ Z1 hi h (xa_ty_ok p0) (xa_eo_e (xa_en_eo p0)) cu st0.1 fun Z2 ag2 => hk Z2 (xa_ag_t ag ag2 (by omega) (by omega) (by omega) (by omega))
    · have hc := ab_c8 hb h
      have l0 := bs_ch_lt hb.2.2 hi (k := 0) (by omega)
      have l1 := bs_ch_lt hb.2.2 hi (k := 1) (by omega)
      have l2 := bs_ch_lt hb.2.2 hi (k := 2) (by omega)
      have q0 := bs_ch_0 hb.2.2 hi (by omega)
      have q1 := bs_ch_n hb.2.2 hi (k := 0) (by omega)
      have q2 := bs_ch_n hb.2.2 hi (k := 1) (by omega)
      have q3 := bs_ch_l hb.2.2 hi (k := 2) (by omega)
      have s0 := bs_ss_le c (bs_ch c i 0)
      have s1 := bs_ss_le c (bs_ch c i 1)
      have s2 := bs_ss_le c (bs_ch c i 2)
      rw [Nat.zero_add] at q1
      rw [show 1 + 1 = 2 from rfl] at q2
      have po := xa_po hb hT (st := st) (ar := ar) d (bs_ch c i 0) e (by omega) he
      have eo := xa_en_eo po
      have e1 := xa_br_eo (b := (xa_ty (ab_ev K A B st ar c tb d (bs_ch c i 0) e)).1.testBit 1) (xa_th_eo hb hi h ty_ints_ok eo)
      have e2 := xa_br_eo (b := (xa_ty (ab_ev K A B st ar c tb d (bs_ch c i 0) e)).1.testBit 0) (xa_th_eo hb hi h ty_ats_ok eo)
      have p1 := xa_po hb hT (st := st) (ar := ar) d (bs_ch c i 1) _ (by omega) e1
      have p2 := xa_po hb hT (st := st) (ar := ar) d (bs_ch c i 2) _ (by omega) e2
      have br : ∀ (b : Bool) (j : Nat) (u : ab_E), ab_ev K A B st ar c tb d j (xa_br b u) = ab_gd b (ab_ev K A B st ar c tb d j u) := by
        intro b j u
        unfold xa_br ab_gd
        split
        · rfl
        · exact ab_dead d j _ (Or.inl rfl)
      have ev : ab_ev K A B st ar c tb (d + 1) i e = ab_jn (ab_ev K A B st ar c tb d (bs_ch c i 1) (xa_br ((xa_ty (ab_ev K A B st ar c tb d (bs_ch c i 0) e)).1.testBit 1) (ab_th K A c i ty_ints (xa_en (ab_ev K A B st ar c tb d (bs_ch c i 0) e)))))
          (ab_ev K A B st ar c tb d (bs_ch c i 2) (xa_br ((xa_ty (ab_ev K A B st ar c tb d (bs_ch c i 0) e)).1.testBit 0) (ab_th K A c i ty_ats (xa_en (ab_ev K A B st ar c tb d (bs_ch c i 0) e))))) := by
        rw [ab_ev_if h, ab_if, br, br]
        cases ab_ev K A B st ar c tb d (bs_ch c i 0) e with
        | none => rfl
        | some x => rfl
      rw [ev] at hk
      rw [← q0]
      refine ih (bs_ch c i 0) e Z (by omega) (by omega) he hcu ?_
      intro Z1 ag1 st1 cu1
      refine T2 i _ Z1 hi h po st1 ?_
      intro Z1' a0 a1 cu1'
      have agq : xa_ag (S + bs_ch c i 0 + 1) (S + bs_ch c i 0) Z1 Z1' := ⟨fun j _ => by rw [a0], fun j _ => by rw [a1]⟩
      have st1' : xa_st Z1' (S + bs_ch c i 0) (ab_ev K A B st ar c tb d (bs_ch c i 0) e) := by
        unfold xa_st; rw [a0, a1]; exact st1
      rw [Nat.add_assoc, ← q1]
      refine ih (bs_ch c i 1) _ Z1' (by omega) (by omega) e1 cu1' ?_
      intro Z2 ag2 st2 cu2
      have st12 := xa_st_k st1' ag2 (by omega)
      refine T3 i _ Z2 hi h po st12 ?_
      intro Z2' b0 b1 cu2'
      have st2' := xa_st_e b0 b1 st2
      have agq2 : xa_ag (S + bs_ch c i 1) (S + bs_ch c i 1) Z2 Z2' := ⟨fun j _ => by rw [b0], fun j _ => by rw [b1]⟩
      rw [Nat.add_assoc, ← q2]
      refine ih (bs_ch c i 2) _ Z2' (by omega) (by omega) e2 cu2' ?_
      intro Z3 ag3 st3 cu3
      refine T1 i 2 Z3 hi (by omega) (fun _ => rfl) ?_
      rw [Nat.add_assoc, q3]
      refine X4 i _ _ Z3 hi h p1 p2 (xa_st_k st2' ag3 (by omega)) st3 fun Z4 ag4 => hk Z4 ?_
      have g1 : xa_ag (S + bs_ss c (bs_ch c i 0)) (S + i) Z Z1' := xa_ag_t ag1 agq (by omega) (by omega) (by omega) (by omega)
      have g2 : xa_ag (S + bs_ss c (bs_ch c i 0)) (S + i) Z Z2' := xa_ag_t (xa_ag_t g1 ag2 (Nat.le_refl _) (Nat.le_refl _) (by omega) (by omega)) agq2 (Nat.le_refl _) (Nat.le_refl _) (by omega) (by omega)
      have g3 := xa_ag_t (xa_ag_t g2 ag3 (Nat.le_refl _) (Nat.le_refl _) (by omega) (by omega)) ag4 (Nat.le_refl _) (Nat.le_refl _) (by omega) (by omega)
      rw [q0] at g3
      exact g3
    · have n8 : ¬ K i = 8 := by rw [h]; decide
      rcases ab_B hb hi with b0 | b1 | b2
      · have hc : c i = 0 := by rw [ab_c9 hb h, b0]; decide
        rw [bs_ss_0 hc] at hk ⊢
        rw [ab_ev_call h, ab_call, if_pos b0] at hk
        exact X5 i e Z hi h b0 (xa_eo_e he) hcu hk
      · have hc := ab_cB1 hb h b1
        have l0 := bs_ch_lt hb.2.2 hi (k := 0) (by omega)
        have p0 := xa_po hb hT (st := st) (ar := ar) d (bs_ch c i 0) e (by omega) he
        rw [ab_ev_call h, ab_call, if_neg (by rw [b1]; decide), if_pos b1, xa_one _ (ab_cl1 K A B st ar c tb i) (xa_cl1_0 i)] at hk
        refine xa_s1 hb T1 ih hd hi he hcu n8 hc fun Z1 ag st0 cu => ?_
        exact X6 i _ _ Z1 hi h b1 (xa_ty_ok p0) (xa_eo_e (xa_en_eo p0)) cu st0.1 fun Z2 ag2 => hk Z2 (xa_ag_t ag ag2 (by omega) (by omega) (by omega) (by omega))
      · have hc := (ab_cB2 hb hi h (by rw [b2]; decide) (by rw [b2]; decide)).1
        have l0 := bs_ch_lt hb.2.2 hi (k := 0) (by omega)
        have l1 := bs_ch_lt hb.2.2 hi (k := 1) (by omega)
        have p0 := xa_po hb hT (st := st) (ar := ar) d (bs_ch c i 0) e (by omega) he
        have p1 := xa_po hb hT (st := st) (ar := ar) d (bs_ch c i 1) _ (by omega) (xa_en_eo p0)
        rw [ab_ev_call h, ab_call, if_neg (by rw [b2]; decide), if_neg (by rw [b2]; decide), xa_two _ (xa_ev_0 d) _ (xa_cl2_0 i)] at hk
        refine xa_s2 hb hT T1 ih hd hi he hcu n8 hc fun Z1 ag st0 st1 cu => ?_
        exact X7 i _ _ _ Z1 hi h b2 (xa_ty_ok p0) (xa_ty_ok p1) (xa_eo_e (xa_en_eo p1)) cu st0.1 st1.1 fun Z2 ag2 => hk Z2 (xa_ag_t ag ag2 (by omega) (by omega) (by omega) (by omega))
end
end
section
/-- the component's run as a machine: arrays 0 values, 1 arguments, 2 frameSlots, 3 frameNodes -/
def xr_fin (Z Z' : Nat → Nat → Int32) (fr r : Nat) (v nx : Int32) : Prop :=
  Z' 0 (fr * 128 + r) = v ∧ (∀ j, j ≠ fr * 128 + r → Z' 0 j = Z 0 j) ∧ (∀ j, Z' 1 j = Z 1 j) ∧ (∀ j, Z' 2 j = Z 2 j) ∧ Z' 3 fr = nx ∧ (∀ j, j ≠ fr → Z' 3 j = Z 3 j)
def xr_ag (fr lo : Nat) (Z Z' : Nat → Nat → Int32) : Prop :=
  (∀ j, j < fr * 128 + lo → Z' 0 j = Z 0 j) ∧ (∀ j, j < fr * 2 + 2 → Z' 1 j = Z 1 j) ∧ (∀ j, j < fr + 1 → Z' 2 j = Z 2 j) ∧ (∀ j, j < fr → Z' 3 j = Z 3 j)
theorem xr_ag_r (fr lo : Nat) (Z : Nat → Nat → Int32) : xr_ag fr lo Z Z := ⟨fun _ _ => rfl, fun _ _ => rfl, fun _ _ => rfl, fun _ _ => rfl⟩
theorem xr_ag_t {fr lo lo' : Nat} {Z Z' Z'' : Nat → Nat → Int32} (h : xr_ag fr lo Z Z') (g : xr_ag fr lo' Z' Z'') (hl : lo ≤ lo') : xr_ag fr lo Z Z'' :=
  ⟨fun j hj => (g.1 j (by omega)).trans (h.1 j hj), fun j hj => (g.2.1 j hj).trans (h.2.1 j hj), fun j hj => (g.2.2.1 j hj).trans (h.2.2.1 j hj), fun j hj => (g.2.2.2 j hj).trans (h.2.2.2 j hj)⟩
theorem xr_ag_f {fr lo r : Nat} {Z Z' Z'' : Nat → Nat → Int32} {v nx : Int32} (h : xr_ag fr lo Z Z') (g : xr_fin Z' Z'' fr r v nx) (hl : lo ≤ r) : xr_ag fr lo Z Z'' :=
  ⟨fun j hj => (g.2.1 j (by omega)).trans (h.1 j hj), fun j hj => (g.2.2.1 j).trans (h.2.1 j hj), fun j hj => (g.2.2.2.1 j).trans (h.2.2.1 j hj), fun j hj => (g.2.2.2.2.2 j (by omega)).trans (h.2.2.2 j hj)⟩
section
variable (N : Nat) (K A B : Nat → Nat → Int32) (st ar : Nat → Int32) (sz S : Nat → Nat) (XR : Nat → Nat → Nat → (Nat → Nat → Int32) → Prop) (XF : Nat → Nat → Nat → Int32 → Nat → (Nat → Nat → Int32) → Prop) (XE : Int32 → Prop)
def xr_in (t fr g i : Nat) : Prop := t < 1000000 ∧ fr < 16 ∧ g < N ∧ st g = 2 ∧ i < sz g
/-- the frame fr stands at row i of slot g -/
def xr_at (Z : Nat → Nat → Int32) (fr g i : Nat) : Prop := Z 2 fr = nI g ∧ Z 3 fr = nI (S g + i)
def xr_v (Z : Nat → Nat → Int32) (fr g i : Nat) : Int32 := Z 0 (fr * 128 + (S g + i))
def xr_M1 : Prop := ∀ (t m fr g i : Nat) (Z : Nat → Nat → Int32), xr_in N st sz t fr g i → xr_at S Z fr g i → (K g i = 0 ∨ K g i = 1 ∨ K g i = 2) →
  XF (t + 1) fr (S g + i) (if K g i = 0 then A g i else if K g i = 1 then 1000 + A g i else if A g i = 0 then Z 1 (fr * 2) else Z 1 (fr * 2 + 1)) m Z → XR t (fr + 1) m Z
def xr_M2 : Prop := ∀ (t m fr g i : Nat) (v w : Int32) (Z : Nat → Nat → Int32), xr_in N st sz t fr g i → xr_at S Z fr g i → (K g i = 3 ∨ K g i = 4 ∨ K g i = 5 ∨ K g i = 6) → rn_ok v → rn_ok w →
  xr_v S Z fr g (bs_ch (sp_c K B g) i 0) = v → xr_v S Z fr g (bs_ch (sp_c K B g) i 1) = w →
  ((rn_op (K g i) v w m).1 = -1 → XF (t + 1) fr (S g + i) (rn_op (K g i) v w m).2.1 m Z) → ((rn_op (K g i) v w m).1 ≠ -1 → XE (rn_op (K g i) v w m).1) → XR t (fr + 1) m Z
def xr_M3 : Prop := ∀ (t m fr g i : Nat) (v : Int32) (Z : Nat → Nat → Int32), xr_in N st sz t fr g i → xr_at S Z fr g i → K g i = 7 → rn_ok v → xr_v S Z fr g (bs_ch (sp_c K B g) i 0) = v →
  XF (t + 1) fr (S g + i) (if v < 1000 then 1001 else 1000) m Z → XR t (fr + 1) m Z
def xr_M4 : Prop := ∀ (t m fr g i : Nat) (Z : Nat → Nat → Int32), xr_in N st sz t fr g i → xr_at S Z fr g i → K g i = 8 →
  XF (t + 1) fr (S g + i) (if xr_v S Z fr g (bs_ch (sp_c K B g) i 0) = 1001 then xr_v S Z fr g (bs_ch (sp_c K B g) i 1) else xr_v S Z fr g (bs_ch (sp_c K B g) i 2)) m Z → XR t (fr + 1) m Z
def xr_M5 : Prop := ∀ (t m fr g i b : Nat) (v w : Int32) (Z : Nat → Nat → Int32), xr_in N st sz t fr g i → xr_at S Z fr g i → K g i = 9 → B g i = nI b → b ≤ 2 → m ≤ 200 →
  (b = 0 → v = 0 ∧ w = 0) → (b = 1 → v = xr_v S Z fr g (bs_ch (sp_c K B g) i 0) ∧ w = 0) → (b = 2 → v = xr_v S Z fr g (bs_ch (sp_c K B g) i 0) ∧ w = xr_v S Z fr g (bs_ch (sp_c K B g) i 1)) →
  (∀ a, a < N → A g i = nI a → st a = 2 → ar a = B g i → m < 200 → fr < 15 →
    ∀ Z', (∀ j, Z' 0 j = Z 0 j) → (∀ j, j < fr * 2 + 2 → Z' 1 j = Z 1 j) → (∀ j, j < fr + 1 → Z' 2 j = Z 2 j) → (∀ j, j < fr + 1 → Z' 3 j = Z 3 j) → Z' 1 ((fr + 1) * 2) = v → Z' 1 ((fr + 1) * 2 + 1) = w → xr_at S Z' (fr + 1) a 0 → XR (t + 1) (fr + 2) (m + 1) Z') →
  (st (A g i).toNatClampNeg = 2 → ar (A g i).toNatClampNeg = B g i → (200 ≤ m ∨ 15 ≤ fr) → XE 2) →
  (¬ (st (A g i).toNatClampNeg = 2 ∧ ar (A g i).toNatClampNeg = B g i) → XE 1) → XR t (fr + 1) m Z
/-- the end of a called body -/
def xr_M6 : Prop := ∀ (t m fr g g' i' : Nat) (Z : Nat → Nat → Int32), t < 1000000 → fr < 15 → g < N → st g = 2 → 0 < sz g → Z 2 (fr + 1) = nI g → Z 3 (fr + 1) = nI (S g + sz g) → g' < N → st g' = 2 → i' < sz g' → Z 3 fr = nI (S g' + i') →
  XF (t + 1) fr (S g' + i') (xr_v S Z (fr + 1) g (sz g - 1)) m Z → XR t (fr + 2) m Z
def xr_F0 : Prop := ∀ (t m fr g : Nat) (v : Int32) (Z : Nat → Nat → Int32), fr < 16 → g < N → st g = 2 → 0 < sz g → rn_ok v → (∀ Z', xr_fin Z Z' fr (S g + (sz g - 1)) v (nI (S g + sz g)) → XR t (fr + 1) m Z') → XF t fr (S g + (sz g - 1)) v m Z
def xr_F1 : Prop := ∀ (t m fr g i j : Nat) (v : Int32) (Z : Nat → Nat → Int32), fr < 16 → g < N → st g = 2 → i < sz g → j < sp_c K B g i → (K g i = 8 → j = 2) → rn_ok v →
  (∀ Z', xr_fin Z Z' fr (S g + bs_ch (sp_c K B g) i j) v (nI (S g + (bs_ch (sp_c K B g) i j + 1))) → XR t (fr + 1) m Z') → XF t fr (S g + bs_ch (sp_c K B g) i j) v m Z
def xr_F2 : Prop := ∀ (t m fr g i : Nat) (v : Int32) (Z : Nat → Nat → Int32), fr < 16 → g < N → st g = 2 → i < sz g → K g i = 8 → rn_ok v →
  (v = 1001 → ∀ Z', xr_fin Z Z' fr (S g + bs_ch (sp_c K B g) i 0) v (nI (S g + (bs_ch (sp_c K B g) i 0 + 1))) → XR t (fr + 1) m Z') →
  (v = 1000 → ∀ Z', xr_fin Z Z' fr (S g + bs_ch (sp_c K B g) i 0) v (nI (S g + (bs_ch (sp_c K B g) i 1 + 1))) → XR t (fr + 1) m Z') →
  (v ≠ 1001 → v ≠ 1000 → XE 1) → XF t fr (S g + bs_ch (sp_c K B g) i 0) v m Z
def xr_F3 : Prop := ∀ (t m fr g i : Nat) (v : Int32) (Z : Nat → Nat → Int32), fr < 16 → g < N → st g = 2 → i < sz g → K g i = 8 → rn_ok v →
  (∀ Z', xr_fin Z Z' fr (S g + bs_ch (sp_c K B g) i 1) v (nI (S g + i)) → XR t (fr + 1) m Z') → XF t fr (S g + bs_ch (sp_c K B g) i 1) v m Z
def xr_S (d : Nat) : Prop := ∀ (fr g i m t : Nat) (x y : Int32) (Z : Nat → Nat → Int32), (15 - fr) * 128 + i < d → fr < 16 → g < N → st g = 2 → i < sz g → rn_ag (ar g) x y → m ≤ 200 → xr_at S Z fr g (bs_ss (sp_c K B g) i) → Z 1 (fr * 2) = x → Z 1 (fr * 2 + 1) = y →
  t + (i + 1 - bs_ss (sp_c K B g) i) + 130 * (200 - m) ≤ 100000 →
  ((rn_ev K A B st ar sz d fr g i x y m).1 ≠ -1 → XE (rn_ev K A B st ar sz d fr g i x y m).1) →
  ((rn_ev K A B st ar sz d fr g i x y m).1 = -1 → ∀ (t' : Nat) (Z' : Nat → Nat → Int32), t' + 130 * (200 - (rn_ev K A B st ar sz d fr g i x y m).2.2) ≤ t + (i + 1 - bs_ss (sp_c K B g) i) + 130 * (200 - m) →
    xr_ag fr (S g + bs_ss (sp_c K B g) i) Z Z' → XF t' fr (S g + i) (rn_ev K A B st ar sz d fr g i x y m).2.1 (rn_ev K A B st ar sz d fr g i x y m).2.2 Z') → XR t (fr + 1) m Z
end
section
variable {N : Nat} {K A B : Nat → Nat → Int32} {st ar : Nat → Int32} {sz S : Nat → Nat} {XR : Nat → Nat → Nat → (Nat → Nat → Int32) → Prop} {XF : Nat → Nat → Nat → Int32 → Nat → (Nat → Nat → Int32) → Prop} {XE : Int32 → Prop}
/-- a call, its body, and the way back to the calling row -/
theorem xr_cl (hN : N ≤ 8) (hp0 : sp_ok N K A B st ar sz) (hroot : ∀ g, g < N → st g = 2 → bs_ss (sp_c K B g) (sz g - 1) = 0) (hS : ∀ g, g < N → st g = 2 → S g + sz g ≤ 128) (M5 : xr_M5 N K A B st ar sz S XR XE) (M6 : xr_M6 N st sz S XR XF) (F0 : xr_F0 N st sz S XR XF) {d : Nat} (ih : xr_S N K A B st ar sz S XR XF XE d)
    {fr g i b m t lo : Nat} {v w : Int32} {Z : Nat → Nat → Int32} (hd : (15 - fr) * 128 + i < d + 1) (hf : fr < 16) (hg : g < N) (hs : st g = 2) (hi : i < sz g) (h9 : K g i = 9) (hb : B g i = nI b) (hb2 : b ≤ 2) (hv : rn_ok v) (hw : rn_ok w) (hm : m ≤ 200) (hat : xr_at S Z fr g i) (hlo : lo ≤ S g + i)
    (ht : t + 1 + 130 * (200 - m) ≤ 100000)
    (a0 : b = 0 → v = 0 ∧ w = 0) (a1 : b = 1 → v = xr_v S Z fr g (bs_ch (sp_c K B g) i 0) ∧ w = 0) (a2 : b = 2 → v = xr_v S Z fr g (bs_ch (sp_c K B g) i 0) ∧ w = xr_v S Z fr g (bs_ch (sp_c K B g) i 1))
    (hE : (rn_call A B st ar sz (rn_ev K A B st ar sz d) fr g i v w m).1 ≠ -1 → XE (rn_call A B st ar sz (rn_ev K A B st ar sz d) fr g i v w m).1)
    (hK : (rn_call A B st ar sz (rn_ev K A B st ar sz d) fr g i v w m).1 = -1 → ∀ (t' : Nat) (Z' : Nat → Nat → Int32), t' + 130 * (200 - (rn_call A B st ar sz (rn_ev K A B st ar sz d) fr g i v w m).2.2) ≤ t + 130 * (200 - m) →
      xr_ag fr lo Z Z' → XF t' fr (S g + i) (rn_call A B st ar sz (rn_ev K A B st ar sz d) fr g i v w m).2.1 (rn_call A B st ar sz (rn_ev K A B st ar sz d) fr g i v w m).2.2 Z') : XR t (fr + 1) m Z := by
  obtain ⟨_, _, _, _, hz, _⟩ := hp0 g hg hs
  refine M5 t m fr g i b v w Z ⟨by omega, hf, hg, hs, hi⟩ hat h9 hb hb2 hm a0 a1 a2 ?_ ?_ ?_
  · intro a ha ea sa aa hm2 hf2 Z1 z0 z1 z2 z3 zv zw zat
    have ec : rn_call A B st ar sz (rn_ev K A B st ar sz d) fr g i v w m = rn_ev K A B st ar sz d (fr + 1) a (sz a - 1) v w (m + 1) := by
      unfold rn_call
      rw [ea, nI_clamp (by omega), if_pos sa, if_pos aa, if_neg (by omega), if_neg (by omega)]
    rw [ec] at hE hK
    obtain ⟨k, _, _, y0, y1, _⟩ := hp0 a ha sa
    have r0 := hroot a ha sa
    have g1 := rn_ev_gd hN hp0 d (fr + 1) a (sz a - 1) v w (m + 1) ha sa (by omega) ⟨fun _ => hv, fun _ => hw⟩ (by omega)
    have g3 := g1.2.2.1
    have g4 := g1.2.2.2
    refine ih (fr + 1) a (sz a - 1) (m + 1) (t + 1) v w Z1 (by omega) (by omega) ha sa (by omega) ⟨fun _ => hv, fun _ => hw⟩ (by omega) (by rw [r0]; exact zat) zv zw (by omega) hE ?_
    intro e t2 Z2 ht2 ag2
    refine F0 t2 _ (fr + 1) a _ Z2 (by omega) ha sa y0 (g1.2.1 e) ?_
    intro Z3 fin
    refine M6 t2 _ fr a g i Z3 (by omega) (by omega) ha sa y0 ?_ fin.2.2.2.2.1 hg hs hi ?_ ?_
    · exact (fin.2.2.2.1 _).trans ((ag2.2.2.1 _ (by omega)).trans zat.1)
    · exact (fin.2.2.2.2.2 _ (by omega)).trans ((ag2.2.2.2 _ (by omega)).trans ((z3 _ (by omega)).trans hat.2))
    · have vv : xr_v S Z3 (fr + 1) a (sz a - 1) = (rn_ev K A B st ar sz d (fr + 1) a (sz a - 1) v w (m + 1)).2.1 := fin.1
      rw [vv]
      refine hK e (t2 + 1) Z3 (by omega) ⟨fun j hj => ?_, fun j hj => ?_, fun j hj => ?_, fun j hj => ?_⟩
      · have := hS g hg hs
        exact (fin.2.1 j (by omega)).trans ((ag2.1 j (by omega)).trans (z0 j))
      · exact (fin.2.2.1 j).trans ((ag2.2.1 j (by omega)).trans (z1 j hj))
      · exact (fin.2.2.2.1 j).trans ((ag2.2.2.1 j (by omega)).trans (z2 j hj))
      · exact (fin.2.2.2.2.2 j (by omega)).trans ((ag2.2.2.2 j (by omega)).trans (z3 j (by omega)))
  · intro sa aa lim
    have ec : rn_call A B st ar sz (rn_ev K A B st ar sz d) fr g i v w m = (2, 0, m) := by
      unfold rn_call
      rw [if_pos sa, if_pos aa]
      by_cases z : 200 ≤ m
      · rw [if_pos z]
      · rw [if_neg z, if_pos (by omega)]
    rw [ec] at hE
    exact hE (rn_n2 _ _)
  · intro no
    have ec : rn_call A B st ar sz (rn_ev K A B st ar sz d) fr g i v w m = (1, 0, m) := by
      unfold rn_call
      by_cases sa : st (A g i).toNatClampNeg = 2
      · rw [if_pos sa, if_neg (fun z => no ⟨sa, z⟩)]
      · rw [if_neg sa]
    rw [ec] at hE
    exact hE (rn_n1 _ _)
/-- a child of row i, from its beginning to the row nx where its end leads -/
theorem xr_go {d : Nat} (ih : xr_S N K A B st ar sz S XR XF XE d) (hN : N ≤ 8) (hp0 : sp_ok N K A B st ar sz)
    {fr g i j m t nx : Nat} {x y : Int32} {Z : Nat → Nat → Int32} (hd : (15 - fr) * 128 + i < d + 1) (hf : fr < 16) (hg : g < N) (hs : st g = 2) (hi : i < sz g) (hw : bs_wf (sp_c K B g) (sz g)) (hj : j < sp_c K B g i)
    (fin : ∀ (t' m' : Nat) (v : Int32) (Z1 : Nat → Nat → Int32), rn_ok v → (∀ Z', xr_fin Z1 Z' fr (S g + bs_ch (sp_c K B g) i j) v (nI (S g + nx)) → XR t' (fr + 1) m' Z') → XF t' fr (S g + bs_ch (sp_c K B g) i j) v m' Z1)
    (hxy : rn_ag (ar g) x y) (hm : m ≤ 200) (hat : xr_at S Z fr g (bs_ss (sp_c K B g) (bs_ch (sp_c K B g) i j))) (h5 : Z 1 (fr * 2) = x) (h6 : Z 1 (fr * 2 + 1) = y)
    (ht : t + (bs_ch (sp_c K B g) i j + 1 - bs_ss (sp_c K B g) (bs_ch (sp_c K B g) i j)) + 130 * (200 - m) ≤ 100000)
    (hE : (rn_ev K A B st ar sz d fr g (bs_ch (sp_c K B g) i j) x y m).1 ≠ -1 → XE (rn_ev K A B st ar sz d fr g (bs_ch (sp_c K B g) i j) x y m).1)
    (hK : (rn_ev K A B st ar sz d fr g (bs_ch (sp_c K B g) i j) x y m).1 = -1 → ∀ (t' : Nat) (Z' : Nat → Nat → Int32),
      t' + 130 * (200 - (rn_ev K A B st ar sz d fr g (bs_ch (sp_c K B g) i j) x y m).2.2) ≤ t + (bs_ch (sp_c K B g) i j + 1 - bs_ss (sp_c K B g) (bs_ch (sp_c K B g) i j)) + 130 * (200 - m) →
      xr_ag fr (S g + bs_ss (sp_c K B g) (bs_ch (sp_c K B g) i j)) Z Z' → xr_at S Z' fr g nx → xr_v S Z' fr g (bs_ch (sp_c K B g) i j) = (rn_ev K A B st ar sz d fr g (bs_ch (sp_c K B g) i j) x y m).2.1 →
      Z' 1 (fr * 2) = x → Z' 1 (fr * 2 + 1) = y → XR t' (fr + 1) (rn_ev K A B st ar sz d fr g (bs_ch (sp_c K B g) i j) x y m).2.2 Z') : XR t (fr + 1) m Z := by
  have lt := bs_ch_lt hw hi hj
  have sl := bs_ss_le (sp_c K B g) (bs_ch (sp_c K B g) i j)
  have g0 := rn_ev_gd hN hp0 d fr g (bs_ch (sp_c K B g) i j) x y m hg hs (by omega) hxy hm
  refine ih fr g (bs_ch (sp_c K B g) i j) m t x y Z (by omega) hf hg hs (by omega) hxy hm hat h5 h6 ht hE ?_
  intro e t1 Z1 ht1 ag1
  refine fin t1 _ _ Z1 (g0.2.1 e) ?_
  intro Z2 f2
  exact hK e t1 Z2 ht1 (xr_ag_f ag1 f2 (by omega)) ⟨(f2.2.2.2.1 fr).trans ((ag1.2.2.1 fr (by omega)).trans hat.1), f2.2.2.2.2.1⟩ f2.1
    ((f2.2.2.1 _).trans ((ag1.2.1 _ (by omega)).trans h5)) ((f2.2.2.1 _).trans ((ag1.2.1 _ (by omega)).trans h6))
theorem xr_vk {fr g lo j : Nat} {Z Z' : Nat → Nat → Int32} (h : xr_ag fr (S g + lo) Z Z') (hj : j < lo) : xr_v S Z' fr g j = xr_v S Z fr g j := h.1 _ (by omega)
theorem xr_sim (hN : N ≤ 8) (hp0 : sp_ok N K A B st ar sz) (hroot : ∀ g, g < N → st g = 2 → bs_ss (sp_c K B g) (sz g - 1) = 0) (hS : ∀ g, g < N → st g = 2 → S g + sz g ≤ 128)
    (M1 : xr_M1 N K A st sz S XR XF) (M2 : xr_M2 N K B st sz S XR XF XE) (M3 : xr_M3 N K B st sz S XR XF) (M4 : xr_M4 N K B st sz S XR XF) (M5 : xr_M5 N K A B st ar sz S XR XE) (M6 : xr_M6 N st sz S XR XF)
    (F0 : xr_F0 N st sz S XR XF) (F1 : xr_F1 N K B st sz S XR XF) (F2 : xr_F2 N K B st sz S XR XF XE) (F3 : xr_F3 N K B st sz S XR XF) : ∀ d, xr_S N K A B st ar sz S XR XF XE d := by
  intro d
  induction d with
  | zero => intro fr g i m t x y Z hd; exact absurd hd (Nat.not_lt_zero _)
  | succ d ih =>
    intro fr g i m t x y Z hd hf hg hs hi hxy hm hat h5 h6 ht hE hK
    obtain ⟨k, hk, ek, hz0, hz, hb⟩ := hp0 g hg hs
    have sl := bs_ss_le (sp_c K B g) i
    have gd : ∀ j m1, j < sp_c K B g i → m1 ≤ 200 → rn_gd m1 (rn_ev K A B st ar sz d fr g (bs_ch (sp_c K B g) i j) x y m1) :=
      fun j m1 hj h1 => rn_ev_gd hN hp0 d fr g _ x y m1 hg hs (ab_ch hb hi hj) hxy h1
    have c0 : 0 < sp_c K B g i → bs_ss (sp_c K B g) (bs_ch (sp_c K B g) i 0) = bs_ss (sp_c K B g) i := fun h => bs_ch_0 hb.2.2 hi h
    have lt : ∀ j, j < sp_c K B g i → bs_ch (sp_c K B g) i j < i := fun j hj => bs_ch_lt hb.2.2 hi hj
    have sle : ∀ j, bs_ss (sp_c K B g) j ≤ j := bs_ss_le _
    have f1 : ∀ j, j < sp_c K B g i → (K g i = 8 → j = 2) → ∀ (t' m' : Nat) (v : Int32) (Z1 : Nat → Nat → Int32), rn_ok v →
        (∀ Z', xr_fin Z1 Z' fr (S g + bs_ch (sp_c K B g) i j) v (nI (S g + (bs_ch (sp_c K B g) i j + 1))) → XR t' (fr + 1) m' Z') → XF t' fr (S g + bs_ch (sp_c K B g) i j) v m' Z1 :=
      fun j hj h8 t' m' v Z1 hv k => F1 t' m' fr g i j v Z1 hf hg hs hi hj h8 hv k
    have leaf : (K g i = 0 ∨ K g i = 1 ∨ K g i = 2) → sp_c K B g i = 0 → XR t (fr + 1) m Z := by
      intro h hc
      have s0 := bs_ss_0 hc
      rw [s0] at hat ht hK
      rw [rn_ev_lf h] at hK
      refine M1 t m fr g i Z ⟨by omega, hf, hg, hs, hi⟩ hat h ?_
      rw [h5, h6]
      exact hK rfl (t + 1) Z (by dsimp only; omega) (xr_ag_r ..)
    have op : (K g i = 3 ∨ K g i = 4 ∨ K g i = 5 ∨ K g i = 6) → sp_c K B g i = 2 → XR t (fr + 1) m Z := by
      intro h hc
      have n8 : ¬ K g i = 8 := by rcases h with h | h | h | h <;> rw [h] <;> decide
      have e1 := c0 (by omega)
      have e2 := bs_ch_n hb.2.2 hi (k := 0) (by omega)
      have e3 := bs_ch_l hb.2.2 hi (k := 1) (by omega)
      have l0 := lt 0 (by omega)
      have l1 := lt 1 (by omega)
      have s0 := sle (bs_ch (sp_c K B g) i 0)
      have s1 := sle (bs_ch (sp_c K B g) i 1)
      have g0 := gd 0 m (by omega) hm
      rw [Nat.zero_add] at e2
      refine xr_go ih hN hp0 hd hf hg hs hi hb.2.2 (j := 0) (by omega) (f1 0 (by omega) (fun z => absurd z n8)) hxy hm (by rw [e1]; exact hat) h5 h6 (by omega) (fun n => ?_) (fun y1 t1 Z1 ht1 ag1 at1 v1 q5 q6 => ?_)
      · rw [rn_ev_op h, rn_bd_f n] at hE
        exact hE n
      · have g1 := gd 1 _ (by omega) g0.2.2.2
        refine xr_go ih hN hp0 hd hf hg hs hi hb.2.2 (j := 1) (by omega) (f1 1 (by omega) (fun z => absurd z n8)) hxy g0.2.2.2 (by rw [e2]; exact at1) q5 q6 (by omega) (fun n => ?_) (fun y2 t2 Z2 ht2 ag2 at2 v2 q5 q6 => ?_)
        · rw [rn_ev_op h, rn_bd_t y1, rn_bd_f n] at hE
          exact hE n
        · rw [rn_ev_op h, rn_bd_t y1, rn_bd_t y2] at hE hK
          rw [rn_op_m] at hK
          rw [e3] at at2
          refine M2 t2 _ fr g i _ _ Z2 ⟨by omega, hf, hg, hs, hi⟩ at2 h (g0.2.1 y1) (g1.2.1 y2) ((xr_vk ag2 (by omega)).trans v1) v2 (fun o => ?_) hE
          exact hK o (t2 + 1) Z2 (by omega) (xr_ag_t (by rw [← e1]; exact ag1) ag2 (by omega))
    rcases bd_10 (hb.1 i hi) with h | h | h | h | h | h | h | h | h | h
    · exact leaf (Or.inl h) (by rw [hb.2.1 i, h]; exact bs_cc0 _)
    · exact leaf (Or.inr (Or.inl h)) (by rw [hb.2.1 i, h]; exact bs_cc1 _)
    · exact leaf (Or.inr (Or.inr h)) (by rw [hb.2.1 i, h]; exact bs_cc2 _)
    · exact op (Or.inl h) (by rw [hb.2.1 i, h]; exact bs_cc3 _)
    · exact op (Or.inr (Or.inl h)) (by rw [hb.2.1 i, h]; exact bs_cc4 _)
    · exact op (Or.inr (Or.inr (Or.inl h))) (by rw [hb.2.1 i, h]; exact bs_cc5 _)
    · exact op (Or.inr (Or.inr (Or.inr h))) (by rw [hb.2.1 i, h]; exact bs_cc6 _)
    · have hc := ab_c7 hb h
      have n8 : ¬ K g i = 8 := by rw [h]; decide
      have e1 := c0 (by omega)
      have e3 := bs_ch_l hb.2.2 hi (k := 0) (by omega)
      have l0 := lt 0 (by omega)
      have s0 := sle (bs_ch (sp_c K B g) i 0)
      have g0 := gd 0 m (by omega) hm
      refine xr_go ih hN hp0 hd hf hg hs hi hb.2.2 (j := 0) (by omega) (f1 0 (by omega) (fun z => absurd z n8)) hxy hm (by rw [e1]; exact hat) h5 h6 (by omega) (fun n => ?_) (fun y1 t1 Z1 ht1 ag1 at1 v1 q5 q6 => ?_)
      · rw [rn_ev_isi h, rn_bd_f n] at hE
        exact hE n
      · rw [rn_ev_isi h, rn_bd_t y1] at hK
        rw [e3] at at1
        exact M3 t1 _ fr g i _ Z1 ⟨by omega, hf, hg, hs, hi⟩ at1 h (g0.2.1 y1) v1 (hK rfl (t1 + 1) Z1 (by dsimp only; omega) (by rw [← e1]; exact ag1))
    · have hc := ab_c8 hb h
      have e1 := c0 (by omega)
      have e2 := bs_ch_n hb.2.2 hi (k := 0) (by omega)
      have e3 := bs_ch_n hb.2.2 hi (k := 1) (by omega)
      have e4 := bs_ch_l hb.2.2 hi (k := 2) (by omega)
      have l0 := lt 0 (by omega)
      have l1 := lt 1 (by omega)
      have l2 := lt 2 (by omega)
      have s0 := sle (bs_ch (sp_c K B g) i 0)
      have s1 := sle (bs_ch (sp_c K B g) i 1)
      have s2 := sle (bs_ch (sp_c K B g) i 2)
      have g0 := gd 0 m (by omega) hm
      rw [Nat.zero_add] at e2
      rw [show 1 + 1 = 2 from rfl] at e3
      refine ih fr g (bs_ch (sp_c K B g) i 0) m t x y Z (by omega) hf hg hs (by omega) hxy hm (by rw [e1]; exact hat) h5 h6 (by omega) (fun n => ?_) (fun y1 t1 Z1 ht1 ag1 => ?_)
      · rw [rn_ev_if h, rn_bd_f n] at hE
        exact hE n
      · rw [rn_ev_if h, rn_bd_t y1] at hE hK
        refine F2 t1 _ fr g i _ Z1 hf hg hs hi h (g0.2.1 y1) (fun vt Z2 f2 => ?_) (fun vf Z2 f2 => ?_) (fun nt nf => ?_)
        · rw [if_pos vt] at hE hK
          have ag2 : xr_ag fr (S g + bs_ss (sp_c K B g) (bs_ch (sp_c K B g) i 0)) Z Z2 := xr_ag_f ag1 f2 (by omega)
          have g1 := gd 1 _ (by omega) g0.2.2.2
          refine xr_go ih hN hp0 hd hf hg hs hi hb.2.2 (j := 1) (nx := i) (by omega) (fun t' m' v Z1 hv k => F3 t' m' fr g i v Z1 hf hg hs hi h hv k) hxy g0.2.2.2
            ⟨(f2.2.2.2.1 fr).trans ((ag1.2.2.1 fr (by omega)).trans hat.1), by rw [e2]; exact f2.2.2.2.2.1⟩ ((ag2.2.1 _ (by omega)).trans h5) ((ag2.2.1 _ (by omega)).trans h6) (by omega) hE (fun y2 t3 Z3 ht3 ag3 at3 v3 q5 q6 => ?_)
          refine M4 t3 _ fr g i Z3 ⟨by omega, hf, hg, hs, hi⟩ at3 h ?_
          rw [if_pos ((xr_vk ag3 (by omega)).trans (f2.1.trans vt)), v3]
          exact hK y2 (t3 + 1) Z3 (by omega) (xr_ag_t (by rw [← e1]; exact ag2) ag3 (by omega))
        · rw [if_neg (by rw [vf]; decide), if_pos vf] at hE hK
          have ag2 : xr_ag fr (S g + bs_ss (sp_c K B g) (bs_ch (sp_c K B g) i 0)) Z Z2 := xr_ag_f ag1 f2 (by omega)
          have g1 := gd 2 _ (by omega) g0.2.2.2
          refine xr_go ih hN hp0 hd hf hg hs hi hb.2.2 (j := 2) (by omega) (f1 2 (by omega) (fun _ => rfl)) hxy g0.2.2.2
            ⟨(f2.2.2.2.1 fr).trans ((ag1.2.2.1 fr (by omega)).trans hat.1), by rw [e3]; exact f2.2.2.2.2.1⟩ ((ag2.2.1 _ (by omega)).trans h5) ((ag2.2.1 _ (by omega)).trans h6) (by omega) hE (fun y2 t3 Z3 ht3 ag3 at3 v3 q5 q6 => ?_)
          rw [e4] at at3
          refine M4 t3 _ fr g i Z3 ⟨by omega, hf, hg, hs, hi⟩ at3 h ?_
          rw [if_neg (by rw [xr_vk ag3 (by omega)]; show ¬ Z2 0 _ = 1001; rw [f2.1, vf]; decide), v3]
          exact hK y2 (t3 + 1) Z3 (by omega) (xr_ag_t (by rw [← e1]; exact ag2) ag3 (by omega))
        · rw [if_neg nt, if_neg nf] at hE
          exact hE (rn_n1 _ _)
    · have n8 : ¬ K g i = 8 := by rw [h]; decide
      rcases ab_B hb hi with b0 | b1 | b2
      · have hc : sp_c K B g i = 0 := by rw [ab_c9 hb h, b0]; decide
        have s0 := bs_ss_0 hc
        rw [s0] at hat ht hK
        rw [rn_ev_c0 h b0] at hE hK
        exact xr_cl hN hp0 hroot hS M5 M6 F0 ih (b := 0) hd hf hg hs hi h b0 (by decide) rn_ok_0 rn_ok_0 hm hat (Nat.le_refl _) (by omega) (fun _ => ⟨rfl, rfl⟩) (fun z => absurd z (by decide)) (fun z => absurd z (by decide)) hE
          (fun e t' Z' ht' ag => hK e t' Z' (by omega) ag)
      · have hc := ab_cB1 hb h b1
        have e1 := c0 (by omega)
        have e3 := bs_ch_l hb.2.2 hi (k := 0) (by omega)
        have l0 := lt 0 (by omega)
        have s0 := sle (bs_ch (sp_c K B g) i 0)
        have g0 := gd 0 m (by omega) hm
        refine xr_go ih hN hp0 hd hf hg hs hi hb.2.2 (j := 0) (by omega) (f1 0 (by omega) (fun z => absurd z n8)) hxy hm (by rw [e1]; exact hat) h5 h6 (by omega) (fun n => ?_) (fun y1 t1 Z1 ht1 ag1 at1 v1 q5 q6 => ?_)
        · rw [rn_ev_c1 h b1, rn_bd_f n] at hE
          exact hE n
        · rw [rn_ev_c1 h b1, rn_bd_t y1] at hE hK
          rw [e3] at at1
          rw [e1] at ag1
          exact xr_cl hN hp0 hroot hS M5 M6 F0 ih (b := 1) (lo := S g + bs_ss (sp_c K B g) i) hd hf hg hs hi h b1 (by decide) (g0.2.1 y1) rn_ok_0 g0.2.2.2 at1 (by omega) (by omega) (fun z => absurd z (by decide)) (fun _ => ⟨v1.symm, rfl⟩) (fun z => absurd z (by decide)) hE
            (fun e t' Z' ht' ag => hK e t' Z' (by omega) (xr_ag_t ag1 ag (Nat.le_refl _)))
      · have hc := (ab_cB2 hb hi h (by rw [b2]; decide) (by rw [b2]; decide)).1
        have e1 := c0 (by omega)
        have e2 := bs_ch_n hb.2.2 hi (k := 0) (by omega)
        have e3 := bs_ch_l hb.2.2 hi (k := 1) (by omega)
        have l0 := lt 0 (by omega)
        have l1 := lt 1 (by omega)
        have s0 := sle (bs_ch (sp_c K B g) i 0)
        have s1 := sle (bs_ch (sp_c K B g) i 1)
        have g0 := gd 0 m (by omega) hm
        rw [Nat.zero_add] at e2
        refine xr_go ih hN hp0 hd hf hg hs hi hb.2.2 (j := 0) (by omega) (f1 0 (by omega) (fun z => absurd z n8)) hxy hm (by rw [e1]; exact hat) h5 h6 (by omega) (fun n => ?_) (fun y1 t1 Z1 ht1 ag1 at1 v1 q5 q6 => ?_)
        · rw [rn_ev_c2 h b2, rn_bd_f n] at hE
          exact hE n
        · have g1 := gd 1 _ (by omega) g0.2.2.2
          refine xr_go ih hN hp0 hd hf hg hs hi hb.2.2 (j := 1) (by omega) (f1 1 (by omega) (fun z => absurd z n8)) hxy g0.2.2.2 (by rw [e2]; exact at1) q5 q6 (by omega) (fun n => ?_) (fun y2 t2 Z2 ht2 ag2 at2 v2 q5 q6 => ?_)
          · rw [rn_ev_c2 h b2, rn_bd_t y1, rn_bd_f n] at hE
            exact hE n
          · rw [rn_ev_c2 h b2, rn_bd_t y1, rn_bd_t y2] at hE hK
            rw [e3] at at2
            rw [e1] at ag1
            have vq := (xr_vk ag2 (show bs_ch (sp_c K B g) i 0 < _ by omega)).trans v1
            have ag12 : xr_ag fr (S g + bs_ss (sp_c K B g) i) Z Z2 := xr_ag_t ag1 ag2 (by omega)
            exact xr_cl hN hp0 hroot hS M5 M6 F0 ih (b := 2) (lo := S g + bs_ss (sp_c K B g) i) hd hf hg hs hi h b2 (by decide) (g0.2.1 y1) (g1.2.1 y2) g1.2.2.2 at2 (by omega) (by omega) (fun z => absurd z (by decide)) (fun z => absurd z (by decide)) (fun _ => ⟨vq.symm, v2.symm⟩) hE
              (fun e t' Z' ht' ag => hK e t' Z' (by omega) (xr_ag_t ag12 ag (Nat.le_refl _)))
end
end
section
theorem bs_ch_congr {c c' : Nat → Nat} {n : Nat} (h : ∀ i, i < n → c i = c' i) {i : Nat} (hi : i < n) (j : Nat) : bs_ch c i j = bs_ch c' i j := by
  unfold bs_ch; rw [h i hi, bs_sc_congr i (fun k hk => h k (by omega))]
theorem bs_ss_congr {c c' : Nat → Nat} {n : Nat} (h : ∀ i, i < n → c i = c' i) {i : Nat} (hi : i < n) : bs_ss c i = bs_ss c' i := by
  unfold bs_ss; rw [h i hi, bs_sc_congr i (fun k hk => h k (by omega))]
theorem bs_wf_congr {c c' : Nat → Nat} {n : Nat} (h : ∀ i, i < n → c i = c' i) (w : bs_wf c n) : bs_wf c' n := fun i hi => by
  rw [← h i hi, ← bs_pc_congr i (fun k hk => h k (by omega))]; exact w i hi
theorem bs_sc_gt {c : Nat → Nat} {n q q' : Nat} (h : q < q') (hp : 0 < bs_sc c q n) : bs_sc c q' n < bs_sc c q n := by
  obtain ⟨d, rfl⟩ : ∃ d, q' = q + d := ⟨q' - q, by omega⟩
  rw [bs_sc_add]
  exact bs_sc_lt c (by omega) hp
def rl_c (K B : Nat → Int32) : Nat → Nat := fun i => bs_cc (K i) (B i)
def rl_D (S : Nat) (dp : Nat → Int32) : Nat → Nat := fun i => (dp (S + i)).toNatClampNeg
/-- row i of a body that lies at S in the pool: kinds, operands, children, parents, depths -/
def rl_row (S : Nat) (K A B kd fo so ch pa dp : Nat → Int32) (i : Nat) : Prop :=
  kd (S + i) = K i ∧ fo (S + i) = A i ∧ so (S + i) = B i ∧ (∀ j, j < rl_c K B i → ch ((S + i) * 3 + j) = nI (S + bs_ch (rl_c K B) i j) ∧ pa (S + bs_ch (rl_c K B) i j) = nI (S + i))
  ∧ dp (S + i) = nI (bs_dm (rl_c K B) (rl_D S dp) i (rl_c K B i) + 1) ∧ bs_dm (rl_c K B) (rl_D S dp) i (rl_c K B i) + 1 ≤ 10
def rl_body (N k n S : Nat) (K A B kd fo so ch pa dp : Nat → Int32) : Prop :=
  S + n ≤ 128 ∧ ab_bd N k n K A B (rl_c K B) ∧ ∀ i, i < n → rl_row S K A B kd fo so ch pa dp i
theorem rl_bd_congr {N k n : Nat} {K A B K' A' B' : Nat → Int32} (h : ab_bd N k n K A B (rl_c K B)) (hK : ∀ i, i < n → K' i = K i ∧ A' i = A i ∧ B' i = B i) : ab_bd N k n K' A' B' (rl_c K' B') := by
  refine ⟨fun i hi => ?_, fun i => rfl, bs_wf_congr (c := rl_c K B) (fun i hi => ?_) h.2.2⟩
  · obtain ⟨a, b, c⟩ := hK i hi
    rw [a, b, c]; exact h.1 i hi
  · obtain ⟨a, b, c⟩ := hK i hi
    show bs_cc (K i) (B i) = bs_cc (K' i) (B' i)
    rw [a, c]
theorem rl_D_lt {N k n S : Nat} {K A B kd fo so ch pa dp : Nat → Int32} (h : rl_body N k n S K A B kd fo so ch pa dp) {i : Nat} (hi : i < n) : rl_D S dp i = bs_dm (rl_c K B) (rl_D S dp) i (rl_c K B i) + 1 := by
  obtain ⟨_, _, _, _, d1, d2⟩ := h.2.2 i hi
  show (dp (S + i)).toNatClampNeg = _
  rw [d1, nI_clamp (by omega)]
theorem rl_D_ch {N k n S : Nat} {K A B kd fo so ch pa dp : Nat → Int32} (h : rl_body N k n S K A B kd fo so ch pa dp) {i : Nat} (hi : i < n) {j : Nat} (hj : j < rl_c K B i) : rl_D S dp (bs_ch (rl_c K B) i j) < rl_D S dp i := by
  rw [rl_D_lt h hi]
  have := bs_dm_le (rl_c K B) (rl_D S dp) i (n := rl_c K B i) (j := rl_c K B i - 1 - j) (by omega)
  unfold bs_ch
  omega
theorem rl_D_in {N k n S : Nat} {K A B kd fo so ch pa dp : Nat → Int32} (h : rl_body N k n S K A B kd fo so ch pa dp) {i : Nat} (hi : i < n) : 1 ≤ rl_D S dp i ∧ rl_D S dp i ≤ 10 := by
  rw [rl_D_lt h hi]
  obtain ⟨_, _, _, _, d1, d2⟩ := h.2.2 i hi
  omega
/-- a body stays when its own rows stay -/
theorem rl_keep {N k n S : Nat} {K A B kd fo so ch pa dp K' A' B' kd' fo' so' ch' pa' dp' : Nat → Int32} (h : rl_body N k n S K A B kd fo so ch pa dp) (hK : ∀ i, i < n → K' i = K i ∧ A' i = A i ∧ B' i = B i)
    (hr : ∀ r, S ≤ r → r < S + n → kd' r = kd r ∧ fo' r = fo r ∧ so' r = so r ∧ pa' r = pa r ∧ dp' r = dp r) (hc : ∀ q, S * 3 ≤ q → q < (S + n) * 3 → ch' q = ch q) : rl_body N k n S K' A' B' kd' fo' so' ch' pa' dp' := by
  have cc : ∀ i, i < n → rl_c K B i = rl_c K' B' i := fun i hi => by
    obtain ⟨a, b, c⟩ := hK i hi
    show bs_cc (K i) (B i) = bs_cc (K' i) (B' i)
    rw [a, c]
  refine ⟨h.1, rl_bd_congr h.2.1 hK, fun i hi => ?_⟩
  obtain ⟨r1, r2, r3, r4, r5, r6⟩ := h.2.2 i hi
  obtain ⟨a, b, c⟩ := hK i hi
  obtain ⟨a1, a2, a3, a4, a5⟩ := hr (S + i) (by omega) (by omega)
  have dd : ∀ i, i < n → rl_D S dp i = rl_D S dp' i := fun i hi => by
    unfold rl_D; rw [(hr (S + i) (by omega) (by omega)).2.2.2.2]
  have dm : bs_dm (rl_c K B) (rl_D S dp) i (rl_c K B i) = bs_dm (rl_c K' B') (rl_D S dp') i (rl_c K' B' i) := by
    rw [← cc i hi]
    exact bs_dm_congr (fun j hj => cc j (by omega)) (fun j hj => dd j (by omega)) (fun j hj => bs_ch_pos h.2.1.2.2 hi hj)
  refine ⟨a1.trans (r1.trans a.symm), a2.trans (r2.trans b.symm), a3.trans (r3.trans c.symm), fun j hj => ?_, ?_, ?_⟩
  · rw [← cc i hi] at hj
    obtain ⟨q1, q2⟩ := r4 j hj
    have l := bs_ch_lt h.2.1.2.2 hi hj
    have l3 : j < 3 := by
      have := cc i hi
      have : rl_c K B i ≤ 3 := by
        show bs_cc (K i) (B i) ≤ 3
        rcases bd_10 (h.2.1.1 i hi) with z | z | z | z | z | z | z | z | z | z <;> rw [z]
        · rw [bs_cc0]; decide
        · rw [bs_cc1]; decide
        · rw [bs_cc2]; decide
        · rw [bs_cc3]; decide
        · rw [bs_cc4]; decide
        · rw [bs_cc5]; decide
        · rw [bs_cc6]; decide
        · rw [bs_cc7]; decide
        · rw [bs_cc8]; decide
        · rw [bs_cc9]
          rcases ab_B h.2.1 hi with y | y | y <;> rw [y] <;> decide
      omega
    rw [← bs_ch_congr cc hi j]
    exact ⟨(hc _ (by omega) (by omega)).trans q1, ((hr _ (by omega) (by omega)).2.2.2.1).trans q2⟩
  · rw [a5, r5, dm]
  · rw [← dm]; exact r6
/-- a body with one row more -/
theorem rl_add {N k n S : Nat} {K A B kd fo so ch pa dp K' A' B' kd' fo' so' ch' pa' dp' : Nat → Int32} {w : Nat} (h : rl_body N k n S K A B kd fo so ch pa dp) (hK : ∀ i, i < n → K' i = K i ∧ A' i = A i ∧ B' i = B i)
    (hn : bd_nd N k (K' n) (A' n) (B' n)) (hw : bs_cc (K' n) (B' n) = w) (hwp : w ≤ bs_pc (rl_c K B) n) (hS : S + n < 128)
    (hpn : ∀ q, q < bs_pc (rl_c K B) n → pa (S + (bs_sc (rl_c K B) q n - 1)) = -1)
    (hr : ∀ r, S ≤ r → r < S + n → kd' r = kd r ∧ fo' r = fo r ∧ so' r = so r ∧ dp' r = dp r) (hc : ∀ q, S * 3 ≤ q → q < (S + n) * 3 → ch' q = ch q)
    (hpa : ∀ r, S ≤ r → r < S + n → (∀ q, q < w → r ≠ S + (bs_sc (rl_c K B) q n - 1)) → pa' r = pa r) (hpw : ∀ q, q < w → pa' (S + (bs_sc (rl_c K B) q n - 1)) = nI (S + n))
    (h1 : kd' (S + n) = K' n) (h2 : fo' (S + n) = A' n) (h3 : so' (S + n) = B' n) (h4 : ∀ j, j < w → ch' ((S + n) * 3 + j) = nI (S + (bs_sc (rl_c K B) (w - 1 - j) n - 1)))
    (h5 : dp' (S + n) = nI (bs_dm (rl_c K B) (rl_D S dp) n w + 1)) (h6 : bs_dm (rl_c K B) (rl_D S dp) n w + 1 ≤ 10) :
    rl_body N k (n + 1) S K' A' B' kd' fo' so' ch' pa' dp' := by
  have wf : bs_wf (rl_c K B) n := h.2.1.2.2
  have pos := bs_pos wf
  have m1 : ∀ i : Nat, nI (S + i) = -1 → S + i < 2 ^ 31 → False := fun i e hi => by
    have := nI_pos' hi
    rw [e] at this
    exact absurd this (by decide)
  have cc : ∀ i, i < n → rl_c K B i = rl_c K' B' i := fun i hi => by
    obtain ⟨a, b, c⟩ := hK i hi
    show bs_cc (K i) (B i) = bs_cc (K' i) (B' i)
    rw [a, c]
  have cn : rl_c K' B' n = w := hw
  have dd : ∀ i, i < n → rl_D S dp i = rl_D S dp' i := fun i hi => by
    unfold rl_D; rw [(hr (S + i) (by omega) (by omega)).2.2.2]
  have dmn : bs_dm (rl_c K B) (rl_D S dp) n w = bs_dm (rl_c K' B') (rl_D S dp') n w :=
    bs_dm_congr cc dd (fun j hj => pos.1 j (by omega))
  refine ⟨by omega, ⟨fun i hi => ?_, fun i => rfl, fun i hi => ?_⟩, fun i hi => ?_⟩
  · by_cases e : i = n
    · subst e; exact hn
    · obtain ⟨a, b, c⟩ := hK i (by omega)
      rw [a, b, c]; exact h.2.1.1 i (by omega)
  · by_cases e : i = n
    · subst e; rw [cn, ← bs_pc_congr i cc]; exact hwp
    · exact bs_wf_congr cc wf i (by omega)
  · by_cases e : i = n
    · subst e
      refine ⟨h1, h2, h3, fun j hj => ?_, ?_, ?_⟩
      · rw [cn] at hj
        have ce : bs_ch (rl_c K' B') i j = bs_sc (rl_c K B) (w - 1 - j) i - 1 := by
          unfold bs_ch; rw [cn, ← bs_sc_congr i cc]
        rw [ce]
        exact ⟨h4 j hj, hpw _ (by omega)⟩
      · rw [cn, h5, dmn]
      · rw [cn, ← dmn]; exact h6
    · have hi : i < n := by omega
      obtain ⟨r1, r2, r3, r4, r5, r6⟩ := h.2.2 i hi
      obtain ⟨a, b, c⟩ := hK i hi
      obtain ⟨a1, a2, a3, a5⟩ := hr (S + i) (by omega) (by omega)
      have dm : bs_dm (rl_c K B) (rl_D S dp) i (rl_c K B i) = bs_dm (rl_c K' B') (rl_D S dp') i (rl_c K' B' i) := by
        rw [← cc i hi]
        exact bs_dm_congr (fun j hj => cc j (by omega)) (fun j hj => dd j (by omega)) (fun j hj => bs_ch_pos wf hi hj)
      refine ⟨a1.trans (r1.trans a.symm), a2.trans (r2.trans b.symm), a3.trans (r3.trans c.symm), fun j hj => ?_, ?_, ?_⟩
      · rw [← cc i hi] at hj
        obtain ⟨q1, q2⟩ := r4 j hj
        have l := bs_ch_lt wf hi hj
        have l3 : j < 3 := by
          have : rl_c K B i ≤ 3 := by
            show bs_cc (K i) (B i) ≤ 3
            rcases bd_10 (h.2.1.1 i hi) with z | z | z | z | z | z | z | z | z | z <;> rw [z]
            · rw [bs_cc0]; decide
            · rw [bs_cc1]; decide
            · rw [bs_cc2]; decide
            · rw [bs_cc3]; decide
            · rw [bs_cc4]; decide
            · rw [bs_cc5]; decide
            · rw [bs_cc6]; decide
            · rw [bs_cc7]; decide
            · rw [bs_cc8]; decide
            · rw [bs_cc9]
              rcases ab_B h.2.1 hi with y | y | y <;> rw [y] <;> decide
          omega
        rw [← bs_ch_congr cc hi j]
        refine ⟨(hc _ (by omega) (by omega)).trans q1, (hpa _ (by omega) (by omega) fun q hq z => ?_).trans q2⟩
        have := hpn q (by omega)
        rw [← z, q2] at this
        exact m1 i this (by omega)
      · rw [a5, r5, dm]
      · rw [← dm]; exact r6
end
section
/-- the rows of slot f in the reference's arrays -/
def rl_K (a : Nat → Int32) (f : Nat) : Nat → Int32 := fun i => a (f * 128 + i)
def rl_sum (st : Nat → Int32) (sz : Nat → Nat) : Nat → Nat
  | 0 => 0
  | n + 1 => rl_sum st sz n + (if st n = 0 then 0 else sz n)
theorem rl_sum_s (st : Nat → Int32) (sz : Nat → Nat) (n : Nat) : rl_sum st sz (n + 1) = rl_sum st sz n + (if st n = 0 then 0 else sz n) := rfl
/-- one slot: both sizes, the start, the body; a defined one is one whole tree -/
def rl_slot (N U f z S : Nat) (st ar szX szY sX bk ba bb kd fo so ch pa dp : Nat → Int32) : Prop :=
  (st f = 0 ∨ st f = 1 ∨ st f = 2) ∧
  (st f ≠ 0 → szX f = nI z ∧ szY f = nI z ∧ sX f = nI S ∧ S + z ≤ U ∧ ∃ k : Nat, k ≤ 2 ∧ ar f = nI k ∧ rl_body N k z S (rl_K bk f) (rl_K ba f) (rl_K bb f) kd fo so ch pa dp) ∧
  (st f = 2 → 0 < z ∧ bs_pc (rl_c (rl_K bk f) (rl_K bb f)) z = 1 ∧ pa (S + (z - 1)) = -1)
def rl_slots (N U : Nat) (sz S : Nat → Nat) (st ar szX szY sX bk ba bb kd fo so ch pa dp : Nat → Int32) : Prop :=
  ∀ f, f < N → rl_slot N U f (sz f) (S f) st ar szX szY sX bk ba bb kd fo so ch pa dp
/-- the pending subtrees of the body under way -/
def rl_pend (z S P : Nat) (K B pe pa : Nat → Int32) : Prop :=
  P = bs_pc (rl_c K B) z ∧ ∀ q, q < P → pe (P - 1 - q) = nI (S + (bs_sc (rl_c K B) q z - 1)) ∧ pa (S + (bs_sc (rl_c K B) q z - 1)) = -1
/-- no slot is under way, or b is -/
def rl_bld (N U : Nat) (sz S : Nat → Nat) (st bk bb pe pa : Nat → Int32) (bs pc : Int32) : Prop :=
  (bs = -1 ∧ pc = 0 ∧ ∀ f, f < N → st f ≠ 1) ∨
  (∃ b P : Nat, b < N ∧ bs = nI b ∧ pc = nI P ∧ st b = 1 ∧ (∀ f, f < N → f ≠ b → st f ≠ 1) ∧ S b + sz b = U ∧ (∀ f, f < N → st f = 2 → S f + sz f ≤ S b) ∧ rl_pend (sz b) (S b) P (rl_K bk b) (rl_K bb b) pe pa)
/-- the tables -/
def rl_tab (N : Nat) (tb : Nat → ty_T) (su nx ta nt : Nat → Int32) : Prop :=
  (∀ q, ty_ok (tb q)) ∧ (∀ q, q < 24 → su q = ty_x (tb q) ∧ ta q = ty_y (tb q)) ∧ (∀ q, 3 * N ≤ q → q < 24 → nx q = 0 ∧ nt q = 0)
section
variable {N U : Nat} {sz S : Nat → Nat} {st ar szX szY sX bk ba bb kd fo so ch pa dp : Nat → Int32}
theorem rl_sp_ok (h : rl_slots N U sz S st ar szX szY sX bk ba bb kd fo so ch pa dp) : sp_ok N (rl_K bk) (rl_K ba) (rl_K bb) st ar sz := by
  intro f hf hs
  obtain ⟨_, h1, h2⟩ := h f hf
  obtain ⟨_, _, _, _, k, hk, ek, b1, b2, _⟩ := h1 (by rw [hs]; decide)
  obtain ⟨z0, _, _⟩ := h2 hs
  exact ⟨k, hk, ek, z0, by omega, b2⟩
theorem rl_root (h : rl_slots N U sz S st ar szX szY sX bk ba bb kd fo so ch pa dp) : ∀ g, g < N → st g = 2 → bs_ss (sp_c (rl_K bk) (rl_K bb) g) (sz g - 1) = 0 := by
  intro f hf hs
  obtain ⟨_, h1, h2⟩ := h f hf
  obtain ⟨_, _, _, _, k, hk, ek, b1, b2, _⟩ := h1 (by rw [hs]; decide)
  obtain ⟨z0, z1, _⟩ := h2 hs
  have e : sz f - 1 + 1 = sz f := by omega
  exact bs_root (by rw [e]; exact b2.2.2) (by rw [e]; exact z1)
theorem rl_S128 (h : rl_slots N U sz S st ar szX szY sX bk ba bb kd fo so ch pa dp) : ∀ g, g < N → st g = 2 → S g + sz g ≤ 128 := by
  intro f hf hs
  obtain ⟨_, h1, h2⟩ := h f hf
  obtain ⟨_, _, _, _, k, hk, ek, b1, b2, _⟩ := h1 (by rw [hs]; decide)
  exact b1
theorem rl_hD (h : rl_slots N U sz S st ar szX szY sX bk ba bb kd fo so ch pa dp) : ∀ g, g < N → st g = 2 → ∀ i, i < sz g → ∀ j, j < sp_c (rl_K bk) (rl_K bb) g i → rl_D (S g) dp (bs_ch (sp_c (rl_K bk) (rl_K bb) g) i j) < rl_D (S g) dp i := by
  intro f hf hs i hi j hj
  obtain ⟨_, h1, h2⟩ := h f hf
  obtain ⟨_, _, _, _, k, hk, ek, b⟩ := h1 (by rw [hs]; decide)
  exact rl_D_ch b hi hj
theorem rl_hD1 (h : rl_slots N U sz S st ar szX szY sX bk ba bb kd fo so ch pa dp) : ∀ g, g < N → st g = 2 → ∀ i, i < sz g → 1 ≤ rl_D (S g) dp i ∧ rl_D (S g) dp i ≤ 10 := by
  intro f hf hs i hi
  obtain ⟨_, h1, h2⟩ := h f hf
  obtain ⟨_, _, _, _, k, hk, ek, b⟩ := h1 (by rw [hs]; decide)
  exact rl_D_in b hi
end
/-- the sum of the sizes, by one slot changed -/
theorem rl_sum_ge {st st' : Nat → Int32} {sz sz' : Nat → Nat} {b : Nat} (h : ∀ f, f ≠ b → st' f = st f ∧ sz' f = sz f) : ∀ n, n ≤ b → rl_sum st' sz' n = rl_sum st sz n := by
  intro n
  induction n with
  | zero => intro _; rfl
  | succ n ih =>
    intro hn
    obtain ⟨a, c⟩ := h n (by omega)
    rw [rl_sum_s, rl_sum_s, a, c, ih (by omega)]
theorem rl_sum_upd {st st' : Nat → Int32} {sz sz' : Nat → Nat} {b : Nat} (h : ∀ f, f ≠ b → st' f = st f ∧ sz' f = sz f) : ∀ n, b < n → rl_sum st' sz' n + (if st b = 0 then 0 else sz b) = rl_sum st sz n + (if st' b = 0 then 0 else sz' b) := by
  intro n
  induction n with
  | zero => intro hn; exact absurd hn (Nat.not_lt_zero b)
  | succ n ih =>
    intro hn
    rw [rl_sum_s, rl_sum_s]
    by_cases e : b = n
    · subst e
      rw [rl_sum_ge h b (Nat.le_refl _)]
      omega
    · obtain ⟨a, c⟩ := h n (fun z => e z.symm)
      have := ih (by omega)
      rw [a, c]
      omega
end
section
section
variable {post : Int32 → Prop}
theorem xt_has {t : ty_T} (h : ty_ok t) (h0 : t.2.1 = 0 → post 0) (h1 : ¬ t.2.1 = 0 → post 1) : wpX_hasInts post () (ty_x t) :=
  br_c (fun z => h0 ((ty_xi0 h).mp z)) (fun z => h1 (fun e => z ((ty_xi0 h).mpr e)))
theorem xt_low {t : ty_T} (h : ty_ok t) (h0 : t.2.1 ≠ 0) (p : post (ty_lw t.2.1)) : wpX_lowOf post () (ty_x t) := by
  unfold wpX_lowOf; rw [ty_xlow h h0]; exact p
theorem xt_high {t : ty_T} (h : ty_ok t) (h0 : t.2.1 ≠ 0) (p : post (ty_hw t.2.2)) : wpX_highOf post () (ty_x t) := by
  unfold wpX_highOf; rw [ty_xhigh h h0]; exact p
/-- the fields that the component's meet chooses -/
theorem ty_xmeet {s t : ty_T} (hs : ty_ok s) (ht : ty_ok t) {L H : Nat} (hL : L = max (ty_L s.2.1) (ty_L t.2.1)) (hH : H = min (ty_H s.2.2) (ty_H t.2.2)) :
    (L ≤ H → nI (s.1 &&& t.1) ||| nI (256 * L) ||| nI (65536 * H) = ty_x (ty_meet s t)) ∧ (¬ L ≤ H → nI (s.1 &&& t.1) = ty_x (ty_meet s t)) := by
  have hm : s.1 &&& t.1 < 256 := Nat.and_lt_two_pow (n := 8) _ ht.1
  have s1 := ty_ok_l hs
  have s2 := ty_ok_h hs
  have t1 := ty_ok_l ht
  have t2 := ty_ok_h ht
  have s0 := ty_ok_0 hs
  have t0 := ty_ok_0 ht
  have z1 := ty_L_0 s1
  have z2 := ty_L_0 t1
  have z3 := @ty_H_0 s.2.2
  have z4 := @ty_H_0 t.2.2
  by_cases a : s.2.1 = 0
  · have e : ty_meet s t = (s.1 &&& t.1, 0, 0) := by unfold ty_meet; rw [if_pos (by omega)]
    rw [e]
    refine ⟨fun z => ?_, fun _ => rfl⟩
    have l0 : L = ty_L 0 := by
      have : ty_L 0 = 0 := rfl
      omega
    have h0 : H = ty_H 0 := by
      have : ty_H 0 = 0 := rfl
      omega
    rw [l0, h0]
    exact ty_x3 _ 0 0 hm (by decide)
  · by_cases b : t.2.1 = 0
    · have e : ty_meet s t = (s.1 &&& t.1, 0, 0) := by unfold ty_meet; rw [if_pos (by omega)]
      rw [e]
      refine ⟨fun z => ?_, fun _ => rfl⟩
      have l0 : L = ty_L 0 := by
        have : ty_L 0 = 0 := rfl
        omega
      have h0 : H = ty_H 0 := by
        have : ty_H 0 = 0 := rfl
        omega
      rw [l0, h0]
      exact ty_x3 _ 0 0 hm (by decide)
    · have q1 := ty_L_le s.2.1 (by omega) t.2.1 (by omega) (by omega) (by omega)
      have q2 := ty_H_le s.2.2 (by omega) t.2.2 (by omega) (by omega) (by omega)
      have q3 := ty_LH_le (min s.2.1 t.2.1) (by omega) (min s.2.2 t.2.2) (by omega) (by omega) (by omega)
      have eL : L = ty_L (min s.2.1 t.2.1) := by
        rw [hL]
        by_cases c : t.2.1 ≤ s.2.1
        · rw [Nat.min_eq_right c]; have := q1.mpr c; omega
        · rw [Nat.min_eq_left (by omega)]; have : ¬ ty_L s.2.1 ≤ ty_L t.2.1 := fun z => c (q1.mp z); omega
      have eH : H = ty_H (min s.2.2 t.2.2) := by
        rw [hH]
        by_cases c : s.2.2 ≤ t.2.2
        · rw [Nat.min_eq_left c]; have := q2.mpr c; omega
        · rw [Nat.min_eq_right (a := s.2.2) (b := t.2.2) (by omega)]; have : ¬ ty_H s.2.2 ≤ ty_H t.2.2 := fun z => c (q2.mp z); omega
      rw [eL, eH]
      refine ⟨fun z => ?_, fun z => ?_⟩
      · have : ty_meet s t = (s.1 &&& t.1, min s.2.1 t.2.1, min s.2.2 t.2.2) := by unfold ty_meet; rw [if_neg (by have := q3.mp z; omega)]
        rw [this]
        exact ty_x3 _ _ _ hm (by omega)
      · have : ty_meet s t = (s.1 &&& t.1, 0, 0) := by
          unfold ty_meet; rw [if_pos]
          exact Nat.lt_of_not_le fun y => z (q3.mpr y)
        rw [this]; rfl
theorem xt_meet {s t : ty_T} (hs : ty_ok s) (ht : ty_ok t) (h : post (ty_x (ty_meet s t))) : wpX_meet post () (ty_x s) (ty_x t) := by
  have bs := ty_L_lt s.2.1
  have bt := ty_L_lt t.2.1
  have cs := ty_H_lt (ty_ok_h hs)
  have ct := ty_H_lt (ty_ok_h ht)
  have fin : ∀ L H : Nat, L < 110 → H < 200 → L = max (ty_L s.2.1) (ty_L t.2.1) → H = min (ty_H s.2.2) (ty_H t.2.2) → wX_meet_53 post (nI (s.1 &&& t.1)) (nI (256 * L)) (nI (65536 * H)) := by
    intro L H l1 h1 eL eH
    obtain ⟨m1, m2⟩ := ty_xmeet hs ht eL eH
    unfold wX_meet_53
    rw [ty_sh8 (by omega), ty_sh16 (by omega), show 256 * L / 256 = L by omega, show 65536 * H / 65536 = H by omega]
    by_cases c : L ≤ H
    · exact br_t (nI_le c (by omega)) (br_t rfl (by rw [m1 c]; exact h))
    · exact br_f (nI_ge (by omega) (by omega)) (br_f (by decide) (by rw [m2 c]; exact h))
  have mid : ∀ L : Nat, L < 110 → L = max (ty_L s.2.1) (ty_L t.2.1) → wX_meet_30 post (ty_x s) (ty_x t) (nI (s.1 &&& t.1)) (nI (256 * L)) := by
    intro L l1 eL
    unfold wX_meet_30
    rw [ty_xh hs, ty_xh ht]
    by_cases c : ty_H t.2.2 ≤ ty_H s.2.2
    · exact br_t (nI_le (by omega) (by omega)) (fin L _ l1 ct eL (by omega))
    · exact br_f (nI_ge (by omega) (by omega)) (fin L _ l1 cs eL (by omega))
  unfold wpX_meet
  refine nm_r (ty_xand hs ht) ?_
  rw [ty_xl hs, ty_xl ht]
  by_cases c : ty_L s.2.1 ≤ ty_L t.2.1
  · exact br_t (nI_le (by omega) (by omega)) (mid _ bt (by omega))
  · exact br_f (nI_ge (by omega) (by omega)) (mid _ bs (by omega))
theorem ty_xjoin {s t : ty_T} (hs : ty_ok s) (ht : ty_ok t) (s0 : s.2.1 ≠ 0) (t0 : t.2.1 ≠ 0) {L H : Nat} (hL : L = min (ty_L s.2.1) (ty_L t.2.1)) (hH : H = max (ty_H s.2.2) (ty_H t.2.2)) :
    nI (s.1 ||| t.1) ||| nI (256 * L) ||| nI (65536 * H) = ty_x (ty_join s t) := by
  have hm : s.1 ||| t.1 < 256 := Nat.or_lt_two_pow (n := 8) hs.1 ht.1
  have s1 := ty_ok_l hs
  have s2 := ty_ok_h hs
  have t1 := ty_ok_l ht
  have t2 := ty_ok_h ht
  have u0 := ty_ok_0 hs
  have v0 := ty_ok_0 ht
  have q1 := ty_L_le s.2.1 (by omega) t.2.1 (by omega) (by omega) (by omega)
  have q2 := ty_H_le s.2.2 (by omega) t.2.2 (by omega) (by omega) (by omega)
  have eL : L = ty_L (max s.2.1 t.2.1) := by
    rw [hL]
    by_cases c : t.2.1 ≤ s.2.1
    · rw [Nat.max_eq_left c]; have := q1.mpr c; omega
    · rw [Nat.max_eq_right (by omega)]; have : ¬ ty_L s.2.1 ≤ ty_L t.2.1 := fun z => c (q1.mp z); omega
  have eH : H = ty_H (max s.2.2 t.2.2) := by
    rw [hH]
    by_cases c : s.2.2 ≤ t.2.2
    · rw [Nat.max_eq_right c]; have := q2.mpr c; omega
    · rw [Nat.max_eq_left (a := s.2.2) (b := t.2.2) (by omega)]; have : ¬ ty_H s.2.2 ≤ ty_H t.2.2 := fun z => c (q2.mp z); omega
  rw [eL, eH]
  exact ty_x3 _ _ _ hm (by omega)
theorem ty_join_s0 {s t : ty_T} (hs : ty_ok s) (s0 : s.2.1 = 0) : ty_join s t = (s.1 ||| t.1, t.2.1, t.2.2) := by
  have := (ty_ok_0 hs).mp s0
  unfold ty_join
  rw [s0, this, Nat.zero_max, Nat.zero_max]
theorem ty_join_t0 {s t : ty_T} (ht : ty_ok t) (t0 : t.2.1 = 0) : ty_join s t = (s.1 ||| t.1, s.2.1, s.2.2) := by
  have := (ty_ok_0 ht).mp t0
  unfold ty_join
  rw [t0, this, Nat.max_zero, Nat.max_zero]
theorem xt_join {s t : ty_T} (hs : ty_ok s) (ht : ty_ok t) (h : post (ty_x (ty_join s t))) : wpX_join post () (ty_x s) (ty_x t) := by
  have hm : s.1 ||| t.1 < 256 := Nat.or_lt_two_pow (n := 8) hs.1 ht.1
  have bs := ty_L_lt s.2.1
  have bt := ty_L_lt t.2.1
  have cs := ty_H_lt (ty_ok_h hs)
  have ct := ty_H_lt (ty_ok_h ht)
  unfold wpX_join
  refine nm_r (ty_xor hs ht) ?_
  refine xt_has hs (fun s0 => br_t rfl ?_) (fun s0 => br_f (by decide) ?_)
  · rw [ty_xi ht, ty_x2' _ _ _ hm (ty_ok_h ht), ← ty_join_s0 hs s0]; exact h
  · refine xt_has ht (fun t0 => br_t rfl ?_) (fun t0 => br_f (by decide) ?_)
    · rw [ty_xi hs, ty_x2' _ _ _ hm (ty_ok_h hs), ← ty_join_t0 ht t0]; exact h
    · have mid : ∀ L : Nat, L = min (ty_L s.2.1) (ty_L t.2.1) → wX_join_58 post (ty_x s) (ty_x t) (nI (s.1 ||| t.1)) (nI (256 * L)) := by
        intro L eL
        unfold wX_join_58
        rw [ty_xh hs, ty_xh ht]
        by_cases c : ty_H s.2.2 ≤ ty_H t.2.2
        · exact br_t (nI_le (by omega) (by omega)) (nm_e (by rw [ty_xjoin hs ht s0 t0 eL (H := ty_H t.2.2) (by omega)]; exact h))
        · exact br_f (nI_ge (by omega) (by omega)) (nm_e (by rw [ty_xjoin hs ht s0 t0 eL (H := ty_H s.2.2) (by omega)]; exact h))
      rw [ty_xl hs, ty_xl ht]
      by_cases c : ty_L t.2.1 ≤ ty_L s.2.1
      · exact br_t (nI_le (by omega) (by omega)) (mid _ (by omega))
      · exact br_f (nI_ge (by omega) (by omega)) (mid _ (by omega))
theorem xt_r54 {x2 x3 : Int32} (h : post (((x2 + 100) <<< ((8 : Int32) &&& 31)) ||| ((ty_rw x3 + 100) <<< ((16 : Int32) &&& 31)))) : wX_rangeType_54 post x2 x3 := by
  unfold ty_rw at h
  unfold wX_rangeType_54
  by_cases a : x3 ≤ 8
  · rw [if_pos a] at h
    by_cases b : -8 ≤ x3
    · rw [if_pos b] at h; exact br_t a (br_t b h)
    · rw [if_neg b] at h; exact br_t a (br_f b h)
  · rw [if_neg a] at h; exact br_f a h
theorem xt_r25 {x2 x3 : Int32} (hl : x2 ≤ x3) (h : post (((ty_rz x2 + 100) <<< ((8 : Int32) &&& 31)) ||| ((ty_rw x3 + 100) <<< ((16 : Int32) &&& 31)))) : wX_rangeType_25 post x2 x3 := by
  unfold ty_rz at h
  unfold wX_rangeType_25
  refine br_t hl ?_
  by_cases b : -8 ≤ x2
  · rw [if_pos b] at h
    by_cases a : x2 ≤ 8
    · rw [if_pos a] at h; exact br_t b (br_t a (xt_r54 h))
    · rw [if_neg a] at h; exact br_t b (br_f a (xt_r54 h))
  · rw [if_neg b] at h; exact br_f b (xt_r54 h)
theorem ty_m99 : (-99 : Int32).toInt = -99 := by decide
theorem ty_p99 : (99 : Int32).toInt = 99 := by decide
theorem ty_rz_c {a : Int32} (h : ¬ -99 ≤ a) : ty_rz (-99) = ty_rz a := by
  rw [Int32.le_iff_toInt_le, ty_m99] at h
  unfold ty_rz
  rw [if_neg (show ¬ (-8 : Int32) ≤ -99 by decide), if_neg]
  rw [Int32.le_iff_toInt_le, ty_n8]
  omega
theorem ty_rw_c {a : Int32} (h : ¬ a ≤ 99) : ty_rw 99 = ty_rw a := by
  rw [Int32.le_iff_toInt_le, ty_p99] at h
  unfold ty_rw
  rw [if_neg (show ¬ (99 : Int32) ≤ 8 by decide), if_neg]
  rw [Int32.le_iff_toInt_le, ty_p8]
  omega
theorem ty_xr (a b : Int32) : ((ty_rz a + 100) <<< ((8 : Int32) &&& 31)) ||| ((ty_rw b + 100) <<< ((16 : Int32) &&& 31)) = ty_x (0, ty_rl a.toInt, ty_rh b.toInt) := by
  have i1 := ty_rl_in a.toInt
  have i2 := ty_rh_in b.toInt
  have h1 := ty_L_lt (ty_rl a.toInt)
  have h2 := ty_H_lt (h := ty_rh b.toInt) (by omega)
  rw [ty_rz_lw, ty_rw_hw, ty_lw_a _ (by omega) (by omega), ty_hw_a _ (by omega) (by omega), ty_sl8 (by omega), ty_sl16 (by omega)]
  exact ty_x2 _ _ (by omega)
theorem xt_range {a b : Int32} (hab : a.toInt ≤ b.toInt) (ha : a.toInt ≤ 99) (hb : -99 ≤ b.toInt) (h : post (ty_x (0, ty_rl a.toInt, ty_rh b.toInt))) : wpX_rangeType post () a b := by
  rw [← ty_xr] at h
  unfold wpX_rangeType
  by_cases c : -99 ≤ a
  · refine br_t c ?_
    unfold wX_rangeType_12
    by_cases e : b ≤ 99
    · exact br_t e (xt_r25 (Int32.le_iff_toInt_le.mpr hab) h)
    · rw [← ty_rw_c e] at h
      exact br_f e (xt_r25 (by rw [Int32.le_iff_toInt_le, ty_p99]; exact ha) h)
  · refine br_f c ?_
    rw [← ty_rz_c c] at h
    unfold wX_rangeType_12
    by_cases e : b ≤ 99
    · exact br_t e (xt_r25 (by rw [Int32.le_iff_toInt_le, ty_m99]; exact hb) h)
    · rw [← ty_rw_c e] at h
      exact br_f e (xt_r25 (by decide) h)
theorem xt_isInt {v : Int32} (h1 : -99 ≤ v.toInt → v.toInt ≤ 99 → post 1) (h0 : ¬ (-99 ≤ v.toInt ∧ v.toInt ≤ 99) → post 0) : wpX_isInteger post () v := by
  unfold wpX_isInteger
  by_cases a : v < -99
  · refine br_t a (h0 fun z => ?_)
    rw [Int32.lt_iff_toInt_lt, ty_m99] at a; omega
  · refine br_f a ?_
    by_cases b : 99 < v
    · refine br_t b (h0 fun z => ?_)
      rw [Int32.lt_iff_toInt_lt, ty_p99] at b; omega
    · refine br_f b ?_
      rw [Int32.lt_iff_toInt_lt, ty_m99] at a
      rw [Int32.lt_iff_toInt_lt, ty_p99] at b
      exact h1 (by omega) (by omega)
theorem ty_k0 : (1000 : Int32).toInt = 1000 := by decide
theorem ty_k7 : (1007 : Int32).toInt = 1007 := by decide
theorem xt_isAtom {v : Int32} (h1 : 1000 ≤ v.toInt → v.toInt ≤ 1007 → post 1) (h0 : ¬ (1000 ≤ v.toInt ∧ v.toInt ≤ 1007) → post 0) : wpX_isAtom post () v := by
  unfold wpX_isAtom
  by_cases a : v < 1000
  · refine br_t a (h0 fun z => ?_)
    rw [Int32.lt_iff_toInt_lt, ty_k0] at a; omega
  · refine br_f a ?_
    by_cases b : 1007 < v
    · refine br_t b (h0 fun z => ?_)
      rw [Int32.lt_iff_toInt_lt, ty_k7] at b; omega
    · refine br_f b ?_
      rw [Int32.lt_iff_toInt_lt, ty_k0] at a
      rw [Int32.lt_iff_toInt_lt, ty_k7] at b
      exact h1 (by omega) (by omega)
theorem xt_isValue {v : Int32} (h1 : rn_ok v → post 1) (h0 : ¬ rn_ok v → post 0) : wpX_isValue post () v := by
  unfold wpX_isValue
  refine xt_isInt (fun a b => br_f (by decide) (h1 (Or.inl ⟨a, b⟩))) (fun n => br_t rfl ?_)
  refine xt_isAtom (fun a b => br_f (by decide) (h1 (Or.inr ⟨a, b⟩))) (fun m => br_t rfl (h0 fun z => ?_))
  exact z.elim n m
end
end
section
/-- a value lies in a type -/
def sd_in (v : Int32) (t : ty_T) : Prop := (-99 ≤ v.toInt ∧ v.toInt ≤ 99 ∧ t.2.1 ≠ 0 ∧ ty_lv t.2.1 ≤ v.toInt ∧ v.toInt ≤ ty_hv t.2.2) ∨ (∃ j : Nat, j < 8 ∧ v = 1000 + nI j ∧ t.1.testBit j = true)
theorem sd_ne {v : Int32} {t : ty_T} (h : sd_in v t) : t ≠ ty_0 := by
  intro e
  subst e
  rcases h with h | ⟨j, _, _, h⟩
  · exact h.2.2.1 rfl
  · simp [ty_0] at h
theorem sd_at_t : ∀ j, j < 8 → (1000 + nI j).toInt = 1000 + (j : Int) := by decide
theorem sd_at_inj {j j' : Nat} (h : j < 8) (h' : j' < 8) (e : (1000 : Int32) + nI j = 1000 + nI j') : j = j' := by
  have := congrArg Int32.toInt e
  rw [sd_at_t j h, sd_at_t j' h'] at this
  omega
theorem sd_ok {v : Int32} {t : ty_T} (h : sd_in v t) : rn_ok v := by
  rcases h with h | ⟨j, hj, rfl, _⟩
  · exact Or.inl ⟨h.1, h.2.1⟩
  · exact rn_ok_at j hj
theorem sd_of {v : Int32} (h : rn_ok v) : (-99 ≤ v.toInt ∧ v.toInt ≤ 99) ∨ ∃ j : Nat, j < 8 ∧ v = 1000 + nI j := by
  rcases h with h | h
  · exact Or.inl h
  · refine Or.inr ⟨(v.toInt - 1000).toNat, by omega, ?_⟩
    apply Int32.toInt_inj.mp
    rw [sd_at_t _ (by omega)]
    omega
theorem sd_any {v : Int32} (h : rn_ok v) : sd_in v ty_any := by
  rcases sd_of h with h | ⟨j, hj, rfl⟩
  · exact Or.inl ⟨h.1, h.2, by decide, by show (-99 : Int) ≤ _; exact h.1, by show _ ≤ (99 : Int); exact h.2⟩
  · refine Or.inr ⟨j, hj, rfl, ?_⟩
    have : ∀ j, j < 8 → (255 : Nat).testBit j = true := by decide
    exact this j hj
theorem sd_meet {v : Int32} {s t : ty_T} (os : ty_ok s) (ot : ty_ok t) (hs : sd_in v s) (ht : sd_in v t) : sd_in v (ty_meet s t) := by
  rcases hs with ⟨a1, a2, a3, a4, a5⟩ | ⟨j, hj, ej, bj⟩
  · rcases ht with ⟨b1, b2, b3, b4, b5⟩ | ⟨j, hj, ej, bj⟩
    · have s1 := ty_ok_l os
      have s2 := ty_ok_h os
      have t1 := ty_ok_l ot
      have t2 := ty_ok_h ot
      have u0 := ty_ok_0 os
      have v0 := ty_ok_0 ot
      have lo : ty_lv (min s.2.1 t.2.1) ≤ v.toInt := by
        by_cases c : s.2.1 ≤ t.2.1
        · rw [Nat.min_eq_left c]; exact a4
        · rw [Nat.min_eq_right (by omega)]; exact b4
      have hi : v.toInt ≤ ty_hv (min s.2.2 t.2.2) := by
        by_cases c : s.2.2 ≤ t.2.2
        · rw [Nat.min_eq_left c]; exact a5
        · rw [Nat.min_eq_right (by omega)]; exact b5
      have sum : ¬ (min s.2.1 t.2.1 + min s.2.2 t.2.2 < 18) := by
        generalize min s.2.1 t.2.1 = l at lo
        generalize min s.2.2 t.2.2 = h at hi
        unfold ty_lv at lo
        unfold ty_hv at hi
        split at lo <;> split at hi <;> omega
      unfold ty_meet
      rw [if_neg sum]
      refine Or.inl ⟨a1, a2, ?_, lo, hi⟩
      show ¬ min s.2.1 t.2.1 = 0
      omega
    · subst ej
      rw [sd_at_t j hj] at a2
      omega
  · rcases ht with ⟨b1, b2, _⟩ | ⟨j', hj', ej', bj'⟩
    · subst ej
      rw [sd_at_t j hj] at b2
      omega
    · subst ej
      obtain rfl := sd_at_inj hj hj' ej'
      refine Or.inr ⟨j, hj, rfl, ?_⟩
      unfold ty_meet
      split <;> simp [bj, bj']
theorem sd_le {v : Int32} {s t : ty_T} (ot : ty_ok t) (h : ty_le s t) (hs : sd_in v s) : sd_in v t := by
  rcases hs with ⟨a1, a2, a3, a4, a5⟩ | ⟨j, hj, ej, bj⟩
  · have l := ty_lv_le h.2.1 (ty_ok_l ot)
    have g := ty_hv_le h.2.2 (ty_ok_h ot)
    have := h.2.1
    exact Or.inl ⟨a1, a2, by omega, by omega, by omega⟩
  · exact Or.inr ⟨j, hj, ej, h.1 j bj⟩
theorem sd_ints {v : Int32} (h : -99 ≤ v.toInt ∧ v.toInt ≤ 99) : sd_in v ty_ints := Or.inl ⟨h.1, h.2, by decide, by show (-99 : Int) ≤ _; exact h.1, by show _ ≤ (99 : Int); exact h.2⟩
theorem sd_lit {j m : Nat} (hj : j < 8) (h : m.testBit j = true) : sd_in (1000 + nI j) (m, 0, 0) := Or.inr ⟨j, hj, rfl, h⟩
theorem sd_t {m : Nat} (h : m.testBit 1 = true) : sd_in 1001 (m, 0, 0) := sd_lit (j := 1) (by decide) h
theorem sd_f {m : Nat} (h : m.testBit 0 = true) : sd_in 1000 (m, 0, 0) := sd_lit (j := 0) (by decide) h
theorem sd_bt {t : ty_T} (h : sd_in 1001 t) : t.1.testBit 1 = true := by
  rcases h with h | ⟨j, hj, e, b⟩
  · exact absurd h.2.1 (by decide)
  · obtain rfl := sd_at_inj (j := 1) (by decide) hj e
    exact b
theorem sd_bf {t : ty_T} (h : sd_in 1000 t) : t.1.testBit 0 = true := by
  rcases h with h | ⟨j, hj, e, b⟩
  · exact absurd h.2.1 (by decide)
  · obtain rfl := sd_at_inj (j := 0) (by decide) hj e
    exact b
theorem sd_int {v : Int32} {t : ty_T} (h : sd_in v t) (hv : ¬ 1000 ≤ v) : -99 ≤ v.toInt ∧ v.toInt ≤ 99 ∧ t.2.1 ≠ 0 ∧ ty_lv t.2.1 ≤ v.toInt ∧ v.toInt ≤ ty_hv t.2.2 := by
  rcases h with h | ⟨j, hj, rfl, b⟩
  · exact h
  · rw [Int32.le_iff_toInt_le, ty_k0, sd_at_t j hj] at hv
    omega
theorem sd_atom {v : Int32} {t : ty_T} (h : sd_in v t) (hv : ¬ v < 1000) : (∃ j : Nat, j < 8 ∧ v = 1000 + nI j) ∧ t.1 ≠ 0 := by
  rcases h with h | ⟨j, hj, rfl, b⟩
  · rw [Int32.lt_iff_toInt_lt, ty_k0] at hv
    omega
  · refine ⟨⟨j, hj, rfl⟩, fun e => ?_⟩
    rw [e] at b
    simp at b
theorem sd_rl {z t : Int} (h : z ≤ t) (h9 : -99 ≤ t) : ty_lv (ty_rl z) ≤ t := by
  unfold ty_lv ty_rl
  split <;> split <;> (try split) <;> omega
theorem sd_rh {z t : Int} (h : t ≤ z) (h9 : t ≤ 99) : t ≤ ty_hv (ty_rh z) := by
  unfold ty_hv ty_rh
  split <;> split <;> (try split) <;> omega
theorem sd_range {a b : Int} {v : Int32} (h1 : -99 ≤ v.toInt) (h2 : v.toInt ≤ 99) (ha : a ≤ v.toInt) (hb : v.toInt ≤ b) : sd_in v (0, ty_rl a, ty_rh b) :=
  Or.inl ⟨h1, h2, by have := (ty_rl_in a).1; show ¬ ty_rl a = 0; omega, sd_rl ha h1, sd_rh hb h2⟩
/-- the arguments lie in the parameters' types, as far as the arity goes -/
def sd_env (a x y : Int32) (e : ab_E) : Prop := (1 ≤ a → sd_in x e.1) ∧ (2 ≤ a → sd_in y e.2)
theorem sd_k1 {k : Nat} (hk : k ≤ 2) : (1 : Int32) ≤ nI k ↔ 1 ≤ k := by rw [show (1 : Int32) = nI 1 by decide, nI_leI (by omega) (by omega)]
theorem sd_k2 {k : Nat} (hk : k ≤ 2) : (2 : Int32) ≤ nI k ↔ 2 ≤ k := by rw [show (2 : Int32) = nI 2 by decide, nI_leI (by omega) (by omega)]
theorem sd_any0 : ty_any ≠ ty_0 := by decide
theorem sd_al {k : Nat} {x y : Int32} {e : ab_E} (hk : k ≤ 2) (he : ab_eo k e) (hs : sd_env (nI k) x y e) : e.1 ≠ ty_0 ∧ e.2 ≠ ty_0 := by
  refine ⟨?_, ?_⟩
  · by_cases c : 1 ≤ k
    · exact sd_ne (hs.1 ((sd_k1 hk).mpr c))
    · rw [he.2.2.1 (by omega)]; exact sd_any0
  · by_cases c : 2 ≤ k
    · exact sd_ne (hs.2 ((sd_k2 hk).mpr c))
    · rw [he.2.2.2 (by omega)]; exact sd_any0
theorem sd_fin {k : Nat} {x y v : Int32} {r : ty_T} {e : ab_E} (hk : k ≤ 2) (he : ab_eo k e) (hs : sd_env (nI k) x y e) (hv : sd_in v r) : ab_fin r e = some (r, e) :=
  ab_fin_to (sd_ne hv) (sd_al hk he hs).1 (sd_al hk he hs).2
theorem sd_nv {K A : Nat → Int32} {k p : Nat} {x y : Int32} {t : ty_T} {e : ab_E} (ot : ty_ok t) (he : ab_eo k e) (hs : sd_env (nI k) x y e) (hv : K p = 2 → sd_in (if A p = 0 then x else y) t) : sd_env (nI k) x y (ab_nv K A p t e) := by
  unfold ab_nv
  split
  · next z =>
    have v := hv z
    split
    · next z0 =>
      rw [if_pos z0] at v
      exact ⟨fun h => sd_meet he.1 ot (hs.1 h) v, hs.2⟩
    · next z0 =>
      rw [if_neg z0] at v
      exact ⟨hs.1, fun h => sd_meet he.2.1 ot (hs.2 h) v⟩
  · exact hs
section
variable {N : Nat} {K A B : Nat → Nat → Int32} {st ar : Nat → Int32} {sz : Nat → Nat}
theorem sd_var {dr fr g p m : Nat} {x y : Int32} (h2 : K g p = 2) (h : (rn_ev K A B st ar sz dr fr g p x y m).1 = -1) : (rn_ev K A B st ar sz dr fr g p x y m).2.1 = (if A g p = 0 then x else y) := by
  cases dr with
  | zero => exact absurd h (show (1 : Int32) ≠ -1 by decide)
  | succ d =>
    rw [rn_ev_lf (Or.inr (Or.inr h2))]
    show (if K g p = 0 then A g p else if K g p = 1 then 1000 + A g p else if A g p = 0 then x else y) = _
    rw [if_neg (by rw [h2]; decide), if_neg (by rw [h2]; decide)]
theorem sd_bd {p : rn_R} {f : Int32 → Nat → rn_R} (h : (rn_bd p f).1 = -1) : p.1 = -1 ∧ rn_bd p f = f p.2.1 p.2.2 := by
  by_cases c : p.1 = -1
  · exact ⟨c, if_pos c⟩
  · unfold rn_bd at h
    rw [if_neg c] at h
    exact absurd h c
theorem sd_isv {dr fr g p m : Nat} {x y : Int32} (h7 : K g p = 7) (h2 : K g (bs_ch (sp_c K B g) p 0) = 2) (h : (rn_ev K A B st ar sz dr fr g p x y m).1 = -1) :
    (rn_ev K A B st ar sz dr fr g p x y m).2.1 = (if (if A g (bs_ch (sp_c K B g) p 0) = 0 then x else y) < 1000 then 1001 else 1000) := by
  cases dr with
  | zero => exact absurd h (show (1 : Int32) ≠ -1 by decide)
  | succ d =>
    rw [rn_ev_isi h7] at h ⊢
    obtain ⟨h0, e⟩ := sd_bd h
    rw [e, sd_var h2 h0]
theorem sd_op_some {k v w : Int32} {m : Nat} (h : (rn_op k v w m).1 = -1) : (k = 6 ∧ (rn_op k v w m).2.1 = (if v = w then 1001 else 1000)) ∨
    (¬ k = 6 ∧ ¬ 1000 ≤ v ∧ ¬ 1000 ≤ w ∧ ((k = 5 ∧ (rn_op k v w m).2.1 = (if v < w then 1001 else 1000)) ∨ (¬ k = 5 ∧ ¬ rn_ar k v w < -99 ∧ ¬ 99 < rn_ar k v w ∧ (rn_op k v w m).2.1 = rn_ar k v w))) := by
  unfold rn_op at h ⊢
  by_cases k6 : k = 6
  · rw [if_pos k6]; exact Or.inl ⟨k6, rfl⟩
  · rw [if_neg k6] at h ⊢
    refine Or.inr ⟨k6, ?_⟩
    by_cases a : 1000 ≤ v
    · rw [if_pos a] at h; exact absurd h (show (1 : Int32) ≠ -1 by decide)
    · rw [if_neg a] at h ⊢
      by_cases b : 1000 ≤ w
      · rw [if_pos b] at h; exact absurd h (show (1 : Int32) ≠ -1 by decide)
      · rw [if_neg b] at h ⊢
        refine ⟨a, b, ?_⟩
        by_cases k5 : k = 5
        · rw [if_pos k5]; exact Or.inl ⟨k5, rfl⟩
        · rw [if_neg k5] at h ⊢
          refine Or.inr ⟨k5, ?_⟩
          by_cases c : rn_ar k v w < -99
          · rw [if_pos c] at h; exact absurd h (show (1 : Int32) ≠ -1 by decide)
          · rw [if_neg c] at h ⊢
            by_cases d : 99 < rn_ar k v w
            · rw [if_pos d] at h; exact absurd h (show (1 : Int32) ≠ -1 by decide)
            · rw [if_neg d]; exact ⟨c, d, rfl⟩
end
end
section
-- the soundness of the abstract evaluation at a fixed point of STEP
theorem sd_c99 : (99 : Int32).toInt = 99 := by decide
theorem sd_cm99 : (-99 : Int32).toInt = -99 := by decide
theorem sd_add {v w : Int32} (v1 : -99 ≤ v.toInt) (v2 : v.toInt ≤ 99) (w1 : -99 ≤ w.toInt) (w2 : w.toInt ≤ 99) : (v + w).toInt = v.toInt + w.toInt := by
  rw [Int32.toInt_add]
  exact Int.bmod_eq_of_le (by omega) (by omega)
theorem sd_sub {v w : Int32} (v1 : -99 ≤ v.toInt) (v2 : v.toInt ≤ 99) (w1 : -99 ≤ w.toInt) (w2 : w.toInt ≤ 99) : (v - w).toInt = v.toInt - w.toInt := by
  rw [Int32.toInt_sub]
  exact Int.bmod_eq_of_le (by omega) (by omega)
theorem sd_fo {k : Nat} {x y v : Int32} {r : ty_T} {e : ab_E} (hk : k ≤ 2) (he : ab_eo k e) (hs : sd_env (nI k) x y e) (hv : sd_in v r) : ∃ o, ab_fin r e = some o ∧ sd_in v o.1 ∧ sd_env (nI k) x y o.2 :=
  ⟨(r, e), sd_fin hk he hs hv, hv, hs⟩
theorem sd_ats {v : Int32} (h : rn_ok v) (hv : ¬ v < 1000) : sd_in v ty_ats := by
  obtain ⟨⟨j, hj, rfl⟩, _⟩ := sd_atom (sd_any h) hv
  refine sd_lit hj ?_
  have : ∀ j, j < 8 → (255 : Nat).testBit j = true := by decide
  exact this j hj
theorem sd_jl {k : Nat} {x y v : Int32} {o : ty_T × ab_E} {q : ab_O} (ho : ab_xo k o) (hq : ab_po k q) (hv : sd_in v o.1) (hs : sd_env (nI k) x y o.2) : ∃ u, ab_jn (some o) q = some u ∧ sd_in v u.1 ∧ sd_env (nI k) x y u.2 := by
  cases q with
  | none => exact ⟨o, rfl, hv, hs⟩
  | some z =>
    have zo := hq z rfl
    exact ⟨_, rfl, sd_le (ty_join_ok ho.1 zo.1) (ty_join_l _ _) hv, fun h => sd_le (ty_join_ok ho.2.2.1.1 zo.2.2.1.1) (ty_join_l _ _) (hs.1 h), fun h => sd_le (ty_join_ok ho.2.2.1.2.1 zo.2.2.1.2.1) (ty_join_l _ _) (hs.2 h)⟩
theorem sd_jr {k : Nat} {x y v : Int32} {o : ty_T × ab_E} {q : ab_O} (ho : ab_xo k o) (hq : ab_po k q) (hv : sd_in v o.1) (hs : sd_env (nI k) x y o.2) : ∃ u, ab_jn q (some o) = some u ∧ sd_in v u.1 ∧ sd_env (nI k) x y u.2 := by
  cases q with
  | none => exact ⟨o, rfl, hv, hs⟩
  | some z =>
    have zo := hq z rfl
    exact ⟨_, rfl, sd_le (ty_join_ok zo.1 ho.1) (ty_join_r _ _) hv, fun h => sd_le (ty_join_ok zo.2.2.1.1 ho.2.2.1.1) (ty_join_r _ _) (hs.1 h), fun h => sd_le (ty_join_ok zo.2.2.1.2.1 ho.2.2.1.2.1) (ty_join_r _ _) (hs.2 h)⟩
theorem sd_isi {v : Int32} {t : ty_T} (h : sd_in v t) : sd_in (if v < 1000 then 1001 else 1000) ((if t.1 = 0 then 0 else 1) + (if t.2.1 = 0 then 0 else 2), 0, 0) := by
  by_cases c : v < 1000
  · rw [if_pos c]
    have n : ¬ 1000 ≤ v := by
      rw [Int32.le_iff_toInt_le]
      rw [Int32.lt_iff_toInt_lt] at c
      omega
    have := (sd_int h n).2.2.1
    rw [if_neg this]
    refine sd_t ?_
    split <;> decide
  · rw [if_neg c]
    have := (sd_atom h c).2
    rw [if_neg this]
    refine sd_f ?_
    split <;> decide
theorem sd_num {k v w : Int32} {x y : ty_T} {m : Nat} (k6 : ¬ k = 6) (h : k = 3 ∨ k = 4 ∨ k = 5) (hx : sd_in v x) (hy : sd_in w y) (hr : (rn_op k v w m).1 = -1) :
    x.2.1 ≠ 0 ∧ y.2.1 ≠ 0 ∧ sd_in v ty_ints ∧ sd_in w ty_ints ∧ sd_in (rn_op k v w m).2.1 (ab_num k x y) := by
  rcases sd_op_some hr with ⟨z, _⟩ | ⟨_, a, b, r⟩
  · exact absurd z k6
  · obtain ⟨v1, v2, x0, xl, xh⟩ := sd_int hx a
    obtain ⟨w1, w2, y0, yl, yh⟩ := sd_int hy b
    refine ⟨x0, y0, sd_ints ⟨v1, v2⟩, sd_ints ⟨w1, w2⟩, ?_⟩
    rcases r with ⟨k5, e⟩ | ⟨k5, lo, hi, e⟩
    · subst k5
      rw [e]
      unfold ab_num
      rw [if_neg (show ¬ (5 : Int32) = 3 by decide), if_neg (show ¬ (5 : Int32) = 4 by decide)]
      by_cases c : v < w
      · rw [if_pos c]
        rw [Int32.lt_iff_toInt_lt] at c
        rw [if_pos (show ty_lv x.2.1 < ty_hv y.2.2 by omega)]
        refine sd_t ?_
        split <;> decide
      · rw [if_neg c]
        rw [Int32.lt_iff_toInt_lt] at c
        rw [if_pos (show ty_lv y.2.1 ≤ ty_hv x.2.2 by omega)]
        refine sd_f ?_
        split <;> decide
    · rw [e]
      rw [Int32.lt_iff_toInt_lt, sd_cm99] at lo
      rw [Int32.lt_iff_toInt_lt, sd_c99] at hi
      unfold ab_num
      rcases h with rfl | rfl | rfl
      · rw [if_pos rfl]
        have q : rn_ar 3 v w = v + w := if_pos rfl
        rw [q] at lo hi ⊢
        have s := sd_add v1 v2 w1 w2
        rw [s] at lo hi
        exact sd_range (by rw [s]; omega) (by rw [s]; omega) (by rw [s]; omega) (by rw [s]; omega)
      · rw [if_neg (show ¬ (4 : Int32) = 3 by decide), if_pos rfl]
        have q : rn_ar 4 v w = v - w := if_neg (by decide)
        rw [q] at lo hi ⊢
        have s := sd_sub v1 v2 w1 w2
        rw [s] at lo hi
        exact sd_range (by rw [s]; omega) (by rw [s]; omega) (by rw [s]; omega) (by rw [s]; omega)
      · exact absurd rfl k5
theorem sd_eq {v w : Int32} {x y : ty_T} (ox : ty_ok x) (oy : ty_ok y) (hx : sd_in v x) (hy : sd_in w y) : sd_in (if v = w then 1001 else 1000) ((if ty_meet x y = ty_0 then 1 else 3), 0, 0) := by
  by_cases c : v = w
  · subst c
    rw [if_pos rfl, if_neg (sd_ne (sd_meet ox oy hx hy))]
    exact sd_t (by decide)
  · rw [if_neg c]
    refine sd_f ?_
    split <;> decide
section
variable {N : Nat} {K A B : Nat → Nat → Int32} {st ar : Nat → Int32} {sz : Nat → Nat} {tb : Nat → ty_T}
theorem sd_fix (hN : N ≤ 8) (hfix : ∀ q, q < 24 → sp_step N K A B st ar sz tb q = tb q) {a k : Nat} {o : ty_T × ab_E} (ha : a < N) (hs : st a = 2) (hk : k ≤ 2) (ek : ar a = nI k)
    (ho : ab_ev (K a) (A a) (B a) st ar (sp_c K B a) tb 128 (sz a - 1) (ty_any, ty_any) = some o) : (1 ≤ k → tb (a * 3) = o.2.1) ∧ (2 ≤ k → tb (a * 3 + 1) = o.2.2) ∧ tb (a * 3 + 2) = o.1 := by
  have f0 := hfix (a * 3) (by omega)
  have f1 := hfix (a * 3 + 1) (by omega)
  have f2 := hfix (a * 3 + 2) (by omega)
  have so : sp_out K A B st ar sz tb a = some o := ho
  unfold sp_step at f0 f1 f2
  have d0 : a * 3 / 3 = a := by omega
  have d1 : (a * 3 + 1) / 3 = a := by omega
  have d2 : (a * 3 + 2) / 3 = a := by omega
  have m0 : a * 3 % 3 = 0 := by omega
  have m1 : (a * 3 + 1) % 3 = 1 := by omega
  have m2 : (a * 3 + 2) % 3 = 2 := by omega
  rw [d0, m0, so, if_pos ⟨by omega, hs⟩] at f0
  rw [d1, m1, so, if_pos ⟨by omega, hs⟩] at f1
  rw [d2, m2, so, if_pos ⟨by omega, hs⟩] at f2
  refine ⟨fun h => ?_, fun h => ?_, f2.symm⟩
  · have q : sp_fld (ar a) 0 (some o) = o.2.1 := by
      show (if 1 ≤ ar a then o.2.1 else ty_0) = _
      rw [ek, if_pos ((sd_k1 hk).mpr h)]
    rw [← f0, q]
  · have q : sp_fld (ar a) 1 (some o) = o.2.2 := by
      show (if 2 ≤ ar a then o.2.2 else ty_0) = _
      rw [ek, if_pos ((sd_k2 hk).mpr h)]
    rw [← f1, q]
end
section
variable (N : Nat) (K A B : Nat → Nat → Int32) (st ar : Nat → Int32) (sz : Nat → Nat) (tb : Nat → ty_T)
def sd_S (dr : Nat) : Prop := ∀ (fr g i m k : Nat) (x y : Int32), g < N → st g = 2 → i < sz g → k ≤ 2 → ar g = nI k → (rn_ev K A B st ar sz dr fr g i x y m).1 = -1 →
  ∀ (d : Nat) (e : ab_E), i < d → ab_eo k e → sd_env (nI k) x y e → ∃ o, ab_ev (K g) (A g) (B g) st ar (sp_c K B g) tb d i e = some o ∧ sd_in (rn_ev K A B st ar sz dr fr g i x y m).2.1 o.1 ∧ sd_env (nI k) x y o.2
end
section
variable {N : Nat} {K A B : Nat → Nat → Int32} {st ar : Nat → Int32} {sz : Nat → Nat} {tb : Nat → ty_T}
theorem sd_arg {k n p : Nat} {K A B : Nat → Int32} {c : Nat → Nat} {x y : Int32} {e : ab_E} (hb : ab_bd N k n K A B c) (hp : p < n) (hk : k ≤ 2) (h2 : K p = 2) (hs : sd_env (nI k) x y e) :
    sd_in (if A p = 0 then x else y) (if A p = 0 then e.1 else e.2) := by
  obtain ⟨j, hj, ej⟩ := ab_var hb hp h2
  by_cases c : A p = 0
  · rw [if_pos c, if_pos c]
    exact hs.1 ((sd_k1 hk).mpr (by omega))
  · rw [if_neg c, if_neg c]
    have : j ≠ 0 := fun z => c (by rw [ej, z]; rfl)
    exact hs.2 ((sd_k2 hk).mpr (by omega))
/-- what the branches begin with holds the arguments -/
theorem sd_th {dr fr g i m k : Nat} {x y : Int32} {t : ty_T} {e : ab_E} (hb : ab_bd N k (sz g) (K g) (A g) (B g) (sp_c K B g)) (hk : k ≤ 2) (hi : i < sz g) (h8 : K g i = 8) (ot : ty_ok t)
    (he : ab_eo k e) (hs : sd_env (nI k) x y e) (hr : (rn_ev K A B st ar sz dr fr g (bs_ch (sp_c K B g) i 0) x y m).1 = -1)
    (hv : ((rn_ev K A B st ar sz dr fr g (bs_ch (sp_c K B g) i 0) x y m).2.1 = 1001 ∧ t = ty_ints) ∨ ((rn_ev K A B st ar sz dr fr g (bs_ch (sp_c K B g) i 0) x y m).2.1 = 1000 ∧ t = ty_ats)) :
    sd_env (nI k) x y (ab_th (K g) (A g) (sp_c K B g) i t e) := by
  have c3 := ab_c8 hb h8
  have hc : bs_ch (sp_c K B g) i 0 < sz g := ab_ch hb hi (by omega)
  have one : sd_env (nI k) x y (ab_nv (K g) (A g) (bs_ch (sp_c K B g) i 0) ty_bool e) := by
    refine sd_nv ty_bool_ok he hs fun z => ?_
    rw [← sd_var z hr]
    rcases hv with ⟨v, _⟩ | ⟨v, _⟩
    · rw [v]; exact sd_t (by decide)
    · rw [v]; exact sd_f (by decide)
  have oe : ab_eo k (ab_nv (K g) (A g) (bs_ch (sp_c K B g) i 0) ty_bool e) := ab_nv_eo (ab_var hb hc) ty_bool_ok he
  unfold ab_th
  split
  · next h7 =>
    have c1 := ab_c7 hb h7
    have hcc : bs_ch (sp_c K B g) (bs_ch (sp_c K B g) i 0) 0 < sz g := ab_ch hb hc (by omega)
    refine sd_nv ot oe one fun z => ?_
    have val := sd_isv h7 z hr
    have okv := sd_ok (sd_arg hb hcc hk z hs)
    rcases hv with ⟨v, rfl⟩ | ⟨v, rfl⟩
    · rw [v] at val
      by_cases c : (if A g (bs_ch (sp_c K B g) (bs_ch (sp_c K B g) i 0) 0) = 0 then x else y) < 1000
      · rcases okv with o | o
        · exact sd_ints o
        · rw [Int32.lt_iff_toInt_lt, ty_k0] at c
          omega
      · rw [if_neg c] at val
        exact absurd val (by decide)
    · rw [v] at val
      by_cases c : (if A g (bs_ch (sp_c K B g) (bs_ch (sp_c K B g) i 0) 0) = 0 then x else y) < 1000
      · rw [if_pos c] at val
        exact absurd val (by decide)
      · exact sd_ats okv c
  · exact one
/-- what a call that gives a value says of the table -/
theorem sd_callee (hN : N ≤ 8) (hp : sp_ok N K A B st ar sz) (ht : ∀ q, ty_ok (tb q)) (hfix : ∀ q, q < 24 → sp_step N K A B st ar sz tb q = tb q) {dr fr g i m n k : Nat} {v w : Int32} (ih : sd_S N K A B st ar sz tb dr)
    (hb : ab_bd N k n (K g) (A g) (B g) (sp_c K B g)) (hi : i < n) (h9 : K g i = 9) (hr : (rn_call A B st ar sz (rn_ev K A B st ar sz dr) fr g i v w m).1 = -1) (hv : 1 ≤ B g i → rn_ok v) (hw : 2 ≤ B g i → rn_ok w) :
    ab_fits (A g) (B g) st ar i = true ∧ (1 ≤ B g i → sd_in v (tb ((A g i).toNatClampNeg * 3))) ∧ (2 ≤ B g i → sd_in w (tb ((A g i).toNatClampNeg * 3 + 1))) ∧
      sd_in (rn_call A B st ar sz (rn_ev K A B st ar sz dr) fr g i v w m).2.1 (tb ((A g i).toNatClampNeg * 3 + 2)) := by
  obtain ⟨a, ha, ea⟩ := (hb.1 i hi).2.2.2.2.1 h9
  have cl : (A g i).toNatClampNeg = a := by rw [ea]; exact nI_clamp (by omega)
  unfold rn_call at hr ⊢
  rw [cl] at hr ⊢
  by_cases s2 : st a = 2
  · rw [if_pos s2] at hr ⊢
    by_cases ab : ar a = B g i
    · rw [if_pos ab] at hr ⊢
      by_cases m2 : 200 ≤ m
      · rw [if_pos m2] at hr; exact absurd hr (show (2 : Int32) ≠ -1 by decide)
      · rw [if_neg m2] at hr ⊢
        by_cases f2 : 15 ≤ fr
        · rw [if_pos f2] at hr; exact absurd hr (show (2 : Int32) ≠ -1 by decide)
        · rw [if_neg f2] at hr ⊢
          obtain ⟨k', hk', ek', hz0, hz, hb'⟩ := hp a ha s2
          have eB : B g i = nI k' := by rw [← ab, ek']
          rw [eB] at hv hw
          obtain ⟨o, ho, vo, eo⟩ := ih (fr + 1) a (sz a - 1) (m + 1) k' v w ha s2 (by omega) hk' ek' hr 128 (ty_any, ty_any) (by omega) (sp_any_eo k') ⟨fun h => sd_any (hv h), fun h => sd_any (hw h)⟩
          obtain ⟨t0, t1, t2⟩ := sd_fix hN hfix ha s2 hk' ek' ho
          refine ⟨?_, ?_, ?_, ?_⟩
          · unfold ab_fits
            rw [cl, decide_eq_true s2, decide_eq_true ab]
            rfl
          · rw [eB]
            intro h
            rw [t0 ((sd_k1 hk').mp h)]
            exact eo.1 h
          · rw [eB]
            intro h
            rw [t1 ((sd_k2 hk').mp h)]
            exact eo.2 h
          · rw [t2]
            exact vo
    · rw [if_neg ab] at hr; exact absurd hr (show (1 : Int32) ≠ -1 by decide)
  · rw [if_neg s2] at hr; exact absurd hr (show (1 : Int32) ≠ -1 by decide)
end
end
section
section
variable {N : Nat} {K A B : Nat → Nat → Int32} {st ar : Nat → Int32} {sz : Nat → Nat} {tb : Nat → ty_T}
theorem sd_gd {p : ab_O} {b : Bool} (h : b = true) : ab_gd b p = p := if_pos h
theorem sd_call (hN : N ≤ 8) (hp : sp_ok N K A B st ar sz) (ht : ∀ q, ty_ok (tb q)) (hfix : ∀ q, q < 24 → sp_step N K A B st ar sz tb q = tb q) {dr fr g i m k d : Nat} {x y : Int32} {e : ab_E} (ih : sd_S N K A B st ar sz tb dr)
    (hg : g < N) (hs : st g = 2) (hi : i < sz g) (hk : k ≤ 2) (ek : ar g = nI k) (hb : ab_bd N k (sz g) (K g) (A g) (B g) (sp_c K B g)) (h9 : K g i = 9) (hr : (rn_ev K A B st ar sz (dr + 1) fr g i x y m).1 = -1)
    (hd : i < d + 1) (he : ab_eo k e) (hx : sd_env (nI k) x y e) :
    ∃ o, ab_ev (K g) (A g) (B g) st ar (sp_c K B g) tb (d + 1) i e = some o ∧ sd_in (rn_ev K A B st ar sz (dr + 1) fr g i x y m).2.1 o.1 ∧ sd_env (nI k) x y o.2 := by
  rw [ab_ev_call h9]
  unfold ab_call
  rcases ab_B hb hi with b | b | b
  · rw [rn_ev_c0 h9 b] at hr ⊢
    obtain ⟨hf, _, _, v⟩ := sd_callee hN hp ht hfix ih hb hi h9 hr (fun z => absurd z (by rw [b]; decide)) (fun z => absurd z (by rw [b]; decide))
    rw [if_pos b]
    unfold ab_cl0
    rw [sd_gd hf]
    exact sd_fo hk he hx v
  · have c1 := ab_cB1 hb h9 b
    have p0 : bs_ch (sp_c K B g) i 0 < sz g := ab_ch hb hi (by omega)
    have l0 : bs_ch (sp_c K B g) i 0 < i := bs_ch_lt hb.2.2 hi (by omega)
    rw [rn_ev_c1 h9 b] at hr ⊢
    obtain ⟨r0, e0⟩ := sd_bd hr
    rw [e0] at hr ⊢
    obtain ⟨o, ho, vo, xo⟩ := ih fr g _ m k x y hg hs p0 hk ek r0 d e (by omega) he hx
    obtain ⟨o1, _, o3, _⟩ := ab_ev_po hb ht _ _ _ p0 he o ho
    obtain ⟨hf, v0, _, v⟩ := sd_callee hN hp ht hfix ih hb hi h9 hr (fun _ => sd_ok vo) (fun z => absurd z (by rw [b]; decide))
    have v0 := v0 (by rw [b]; decide)
    rw [if_neg (by rw [b]; decide), if_pos b, ho]
    show ∃ u, ab_cl1 (K g) (A g) (B g) st ar (sp_c K B g) tb i o.1 o.2 = some u ∧ _
    unfold ab_cl1 ab_arg
    rw [sd_gd hf, if_neg (sd_ne (sd_meet o1 (ht _) vo v0))]
    exact sd_fo hk (ab_nv_eo (ab_var hb p0) (ht _) o3) (sd_nv (ht _) o3 xo fun z => by rw [← sd_var z r0]; exact v0) v
  · obtain ⟨c2, _⟩ := ab_cB2 hb hi h9 (by rw [b]; decide) (by rw [b]; decide)
    have p0 : bs_ch (sp_c K B g) i 0 < sz g := ab_ch hb hi (by omega)
    have l0 : bs_ch (sp_c K B g) i 0 < i := bs_ch_lt hb.2.2 hi (by omega)
    have p1 : bs_ch (sp_c K B g) i 1 < sz g := ab_ch hb hi (by omega)
    have l1 : bs_ch (sp_c K B g) i 1 < i := bs_ch_lt hb.2.2 hi (by omega)
    rw [rn_ev_c2 h9 b] at hr ⊢
    obtain ⟨r0, e0⟩ := sd_bd hr
    rw [e0] at hr ⊢
    obtain ⟨r1, e1⟩ := sd_bd hr
    rw [e1] at hr ⊢
    obtain ⟨o, ho, vo, xo⟩ := ih fr g _ m k x y hg hs p0 hk ek r0 d e (by omega) he hx
    obtain ⟨o1, _, o3, _⟩ := ab_ev_po hb ht _ _ _ p0 he o ho
    obtain ⟨u, hu, vu, xu⟩ := ih fr g _ _ k x y hg hs p1 hk ek r1 d o.2 (by omega) o3 xo
    obtain ⟨u1, _, u3, _⟩ := ab_ev_po hb ht _ _ _ p1 o3 u hu
    obtain ⟨hf, v0, v1, v⟩ := sd_callee hN hp ht hfix ih hb hi h9 hr (fun _ => sd_ok vo) (fun _ => sd_ok vu)
    have v0 := v0 (by rw [b]; decide)
    have v1 := v1 (by rw [b]; decide)
    rw [if_neg (by rw [b]; decide), if_neg (by rw [b]; decide), ho]
    show ∃ u, ((ab_ev (K g) (A g) (B g) st ar (sp_c K B g) tb d (bs_ch (sp_c K B g) i 1) o.2).bind fun y => ab_cl2 (K g) (A g) (B g) st ar (sp_c K B g) tb i o.1 y.1 y.2) = some u ∧ _
    rw [hu]
    show ∃ w, ab_cl2 (K g) (A g) (B g) st ar (sp_c K B g) tb i o.1 u.1 u.2 = some w ∧ _
    unfold ab_cl2 ab_arg
    rw [sd_gd hf, if_neg (sd_ne (sd_meet o1 (ht _) vo v0))]
    dsimp only
    rw [if_neg (sd_ne (sd_meet u1 (ht _) vu v1))]
    have n0 := ab_nv_eo (K := K g) (A := A g) (ab_var hb p0) (ht ((A g i).toNatClampNeg * 3)) u3
    have s0 := sd_nv (K := K g) (A := A g) (p := bs_ch (sp_c K B g) i 0) (ht ((A g i).toNatClampNeg * 3)) u3 xu fun z => by rw [← sd_var z r0]; exact v0
    exact sd_fo hk (ab_nv_eo (ab_var hb p1) (ht _) n0) (sd_nv (ht _) n0 s0 fun z => by rw [← sd_var z r1]; exact v1) v
theorem sd_if (ht : ∀ q, ty_ok (tb q)) {dr fr g i m k d : Nat} {x y : Int32} {e : ab_E} (ih : sd_S N K A B st ar sz tb dr)
    (hg : g < N) (hs : st g = 2) (hi : i < sz g) (hk : k ≤ 2) (ek : ar g = nI k) (hb : ab_bd N k (sz g) (K g) (A g) (B g) (sp_c K B g)) (h8 : K g i = 8) (hr : (rn_ev K A B st ar sz (dr + 1) fr g i x y m).1 = -1)
    (hd : i < d + 1) (he : ab_eo k e) (hx : sd_env (nI k) x y e) :
    ∃ o, ab_ev (K g) (A g) (B g) st ar (sp_c K B g) tb (d + 1) i e = some o ∧ sd_in (rn_ev K A B st ar sz (dr + 1) fr g i x y m).2.1 o.1 ∧ sd_env (nI k) x y o.2 := by
  have c3 := ab_c8 hb h8
  have p0 : bs_ch (sp_c K B g) i 0 < sz g := ab_ch hb hi (by omega)
  have l0 : bs_ch (sp_c K B g) i 0 < i := bs_ch_lt hb.2.2 hi (by omega)
  have p1 : bs_ch (sp_c K B g) i 1 < sz g := ab_ch hb hi (by omega)
  have l1 : bs_ch (sp_c K B g) i 1 < i := bs_ch_lt hb.2.2 hi (by omega)
  have p2 : bs_ch (sp_c K B g) i 2 < sz g := ab_ch hb hi (by omega)
  have l2 : bs_ch (sp_c K B g) i 2 < i := bs_ch_lt hb.2.2 hi (by omega)
  rw [ab_ev_if h8]
  rw [rn_ev_if h8] at hr ⊢
  obtain ⟨r0, e0⟩ := sd_bd hr
  rw [e0] at hr ⊢
  obtain ⟨o, ho, vo, xo⟩ := ih fr g _ m k x y hg hs p0 hk ek r0 d e (by omega) he hx
  obtain ⟨o1, _, o3, _⟩ := ab_ev_po hb ht _ _ _ p0 he o ho
  unfold ab_if
  rw [ho]
  show ∃ u, ab_jn (ab_gd (o.1.1.testBit 1) (ab_ev (K g) (A g) (B g) st ar (sp_c K B g) tb d (bs_ch (sp_c K B g) i 1) (ab_th (K g) (A g) (sp_c K B g) i ty_ints o.2)))
    (ab_gd (o.1.1.testBit 0) (ab_ev (K g) (A g) (B g) st ar (sp_c K B g) tb d (bs_ch (sp_c K B g) i 2) (ab_th (K g) (A g) (sp_c K B g) i ty_ats o.2))) = some u ∧ _
  have t1 : ab_eo k (ab_th (K g) (A g) (sp_c K B g) i ty_ints o.2) := ab_th_eo hb hi h8 ty_ints_ok o3
  have t2 : ab_eo k (ab_th (K g) (A g) (sp_c K B g) i ty_ats o.2) := ab_th_eo hb hi h8 ty_ats_ok o3
  have q1 := ab_ev_po (st := st) (ar := ar) hb ht d _ _ p1 t1
  have q2 := ab_ev_po (st := st) (ar := ar) hb ht d _ _ p2 t2
  by_cases c1 : (rn_ev K A B st ar sz dr fr g (bs_ch (sp_c K B g) i 0) x y m).2.1 = 1001
  · rw [if_pos c1] at hr ⊢
    rw [c1] at vo
    rw [sd_gd (sd_bt vo)]
    obtain ⟨u, hu, vu, xu⟩ := ih fr g _ _ k x y hg hs p1 hk ek hr d _ (by omega) t1 (sd_th hb hk hi h8 ty_ints_ok o3 xo r0 (Or.inl ⟨c1, rfl⟩))
    rw [hu]
    exact sd_jl (q1 u hu) (ab_gd_po q2) vu xu
  · rw [if_neg c1] at hr ⊢
    by_cases c0 : (rn_ev K A B st ar sz dr fr g (bs_ch (sp_c K B g) i 0) x y m).2.1 = 1000
    · rw [if_pos c0] at hr ⊢
      rw [c0] at vo
      rw [sd_gd (sd_bf vo)]
      obtain ⟨u, hu, vu, xu⟩ := ih fr g _ _ k x y hg hs p2 hk ek hr d _ (by omega) t2 (sd_th hb hk hi h8 ty_ats_ok o3 xo r0 (Or.inr ⟨c0, rfl⟩))
      rw [hu]
      exact sd_jr (q2 u hu) (ab_gd_po q1) vu xu
    · rw [if_neg c0] at hr
      exact absurd hr (show (1 : Int32) ≠ -1 by decide)
theorem sd_opn (ht : ∀ q, ty_ok (tb q)) {dr fr g i m k d : Nat} {x y : Int32} {e : ab_E} (ih : sd_S N K A B st ar sz tb dr)
    (hg : g < N) (hs : st g = 2) (hi : i < sz g) (hk : k ≤ 2) (ek : ar g = nI k) (hb : ab_bd N k (sz g) (K g) (A g) (B g) (sp_c K B g)) (h3 : K g i = 3 ∨ K g i = 4 ∨ K g i = 5 ∨ K g i = 6) (hr : (rn_ev K A B st ar sz (dr + 1) fr g i x y m).1 = -1)
    (hd : i < d + 1) (he : ab_eo k e) (hx : sd_env (nI k) x y e) :
    ∃ o, ab_ev (K g) (A g) (B g) st ar (sp_c K B g) tb (d + 1) i e = some o ∧ sd_in (rn_ev K A B st ar sz (dr + 1) fr g i x y m).2.1 o.1 ∧ sd_env (nI k) x y o.2 := by
  have c2 : sp_c K B g i = 2 := by
    show bs_cc (K g i) (B g i) = 2
    rcases h3 with h | h | h | h <;> rw [h]
    · exact bs_cc3 _
    · exact bs_cc4 _
    · exact bs_cc5 _
    · exact bs_cc6 _
  have p0 : bs_ch (sp_c K B g) i 0 < sz g := ab_ch hb hi (by omega)
  have l0 : bs_ch (sp_c K B g) i 0 < i := bs_ch_lt hb.2.2 hi (by omega)
  have p1 : bs_ch (sp_c K B g) i 1 < sz g := ab_ch hb hi (by omega)
  have l1 : bs_ch (sp_c K B g) i 1 < i := bs_ch_lt hb.2.2 hi (by omega)
  rw [ab_ev_op h3]
  rw [rn_ev_op h3] at hr ⊢
  obtain ⟨r0, e0⟩ := sd_bd hr
  rw [e0] at hr ⊢
  obtain ⟨r1, e1⟩ := sd_bd hr
  rw [e1] at hr ⊢
  obtain ⟨o, ho, vo, xo⟩ := ih fr g _ m k x y hg hs p0 hk ek r0 d e (by omega) he hx
  obtain ⟨o1, _, o3, _⟩ := ab_ev_po hb ht _ _ _ p0 he o ho
  obtain ⟨u, hu, vu, xu⟩ := ih fr g _ _ k x y hg hs p1 hk ek r1 d o.2 (by omega) o3 xo
  obtain ⟨u1, _, u3, _⟩ := ab_ev_po hb ht _ _ _ p1 o3 u hu
  unfold ab_op
  rw [ho]
  show ∃ u, ((ab_ev (K g) (A g) (B g) st ar (sp_c K B g) tb d (bs_ch (sp_c K B g) i 1) o.2).bind fun y => ab_opf (K g) (A g) (sp_c K B g) i o.1 y.1 y.2) = some u ∧ _
  rw [hu]
  show ∃ w, ab_opf (K g) (A g) (sp_c K B g) i o.1 u.1 u.2 = some w ∧ _
  unfold ab_opf
  by_cases k6 : K g i = 6
  · rw [if_pos k6]
    rcases sd_op_some hr with ⟨_, e⟩ | ⟨z, _⟩
    · rw [e]
      exact sd_fo hk u3 xu (sd_eq o1 u1 vo vu)
    · exact absurd k6 z
  · rw [if_neg k6]
    have h345 : K g i = 3 ∨ K g i = 4 ∨ K g i = 5 := by
      rcases h3 with h | h | h | h
      · exact Or.inl h
      · exact Or.inr (Or.inl h)
      · exact Or.inr (Or.inr h)
      · exact absurd h k6
    obtain ⟨x0, y0, vi, wi, res⟩ := sd_num k6 h345 vo vu hr
    rw [if_neg (fun z => z.elim x0 y0)]
    have n0 := ab_nv_eo (K := K g) (A := A g) (ab_var hb p0) ty_ints_ok u3
    have s0 := sd_nv (K := K g) (A := A g) (p := bs_ch (sp_c K B g) i 0) ty_ints_ok u3 xu fun z => by rw [← sd_var z r0]; exact vi
    exact sd_fo hk (ab_nv_eo (ab_var hb p1) ty_ints_ok n0) (sd_nv ty_ints_ok n0 s0 fun z => by rw [← sd_var z r1]; exact wi) res
theorem sd_main (hN : N ≤ 8) (hp : sp_ok N K A B st ar sz) (ht : ∀ q, ty_ok (tb q)) (hfix : ∀ q, q < 24 → sp_step N K A B st ar sz tb q = tb q) : ∀ dr, sd_S N K A B st ar sz tb dr := by
  intro dr
  induction dr with
  | zero => intro fr g i m k x y _ _ _ _ _ hr; exact absurd hr (show (1 : Int32) ≠ -1 by decide)
  | succ dr ih =>
    intro fr g i m k x y hg hs hi hk ek hr d e hd he hx
    obtain ⟨k0, hk0, ek0, hz0, hz, hb⟩ := hp g hg hs
    have kk : k0 = k := (nI_eq (by omega) (by omega)).mp (by rw [← ek0, ek])
    subst kk
    obtain ⟨d, rfl⟩ : ∃ d', d = d' + 1 := ⟨d - 1, by omega⟩
    rcases bd_10 (hb.1 i hi) with h | h | h | h | h | h | h | h | h | h
    · rw [ab_ev_lf (Or.inl h), rn_ev_lf (Or.inl h)]
      unfold ab_leaf
      rw [if_pos h]
      have b := (hb.1 i hi).2.1 h
      refine sd_fo hk he hx ?_
      show sd_in (if K g i = 0 then A g i else _) _
      rw [if_pos h]
      exact sd_range b.1 b.2 (Int.le_refl _) (Int.le_refl _)
    · have n0 : ¬ K g i = 0 := by rw [h]; decide
      rw [ab_ev_lf (Or.inr (Or.inl h)), rn_ev_lf (Or.inr (Or.inl h))]
      unfold ab_leaf
      rw [if_neg n0, if_pos h]
      obtain ⟨j, hj, ej⟩ := (hb.1 i hi).2.2.1 h
      refine sd_fo hk he hx ?_
      show sd_in (if K g i = 0 then A g i else if K g i = 1 then 1000 + A g i else _) _
      rw [if_neg n0, if_pos h, ej, nI_clamp (by omega)]
      exact sd_lit hj Nat.testBit_two_pow_self
    · have n0 : ¬ K g i = 0 := by rw [h]; decide
      have n1 : ¬ K g i = 1 := by rw [h]; decide
      rw [ab_ev_lf (Or.inr (Or.inr h)), rn_ev_lf (Or.inr (Or.inr h))]
      unfold ab_leaf
      rw [if_neg n0, if_neg n1]
      refine sd_fo hk he hx ?_
      show sd_in (if K g i = 0 then A g i else if K g i = 1 then 1000 + A g i else if A g i = 0 then x else y) _
      rw [if_neg n0, if_neg n1]
      exact sd_arg hb hi hk h hx
    · exact sd_opn ht ih hg hs hi hk ek hb (Or.inl h) hr hd he hx
    · exact sd_opn ht ih hg hs hi hk ek hb (Or.inr (Or.inl h)) hr hd he hx
    · exact sd_opn ht ih hg hs hi hk ek hb (Or.inr (Or.inr (Or.inl h))) hr hd he hx
    · exact sd_opn ht ih hg hs hi hk ek hb (Or.inr (Or.inr (Or.inr h))) hr hd he hx
    · have c1 := ab_c7 hb h
      have p0 : bs_ch (sp_c K B g) i 0 < sz g := ab_ch hb hi (by omega)
      have l0 : bs_ch (sp_c K B g) i 0 < i := bs_ch_lt hb.2.2 hi (by omega)
      rw [ab_ev_isi h]
      rw [rn_ev_isi h] at hr ⊢
      obtain ⟨r0, e0⟩ := sd_bd hr
      rw [e0]
      obtain ⟨o, ho, vo, xo⟩ := ih fr g _ m _ x y hg hs p0 hk ek r0 d e (by omega) he hx
      obtain ⟨o1, _, o3, _⟩ := ab_ev_po hb ht _ _ _ p0 he o ho
      unfold ab_isi
      rw [ho]
      exact sd_fo hk o3 xo (sd_isi vo)
    · exact sd_if ht ih hg hs hi hk ek hb h hr hd he hx
    · exact sd_call hN hp ht hfix ih hg hs hi hk ek hb h hr hd he hx
end
end
section
-- STEP looks at the defined slots alone
theorem sd_ch {c c' : Nat → Nat} {n i : Nat} (hc : ∀ i, i < n → c' i = c i) (hi : i < n) (j : Nat) : bs_ch c' i j = bs_ch c i j := by
  unfold bs_ch
  rw [hc i hi, bs_sc_congr i (fun q hq => hc q (by omega))]
theorem sd_nv_cg {K A K' A' : Nat → Int32} {p : Nat} {t : ty_T} {e : ab_E} (hK : K' p = K p) (hA : A' p = A p) : ab_nv K' A' p t e = ab_nv K A p t e := by
  unfold ab_nv
  rw [hK, hA]
theorem sd_bind {p : ab_O} {f g : ty_T × ab_E → ab_O} (h : ∀ x, f x = g x) : p.bind f = p.bind g := by
  cases p with
  | none => rfl
  | some x => exact h x
theorem sd_arg_cg {K A K' A' : Nat → Int32} {c c' : Nat → Nat} {i k : Nat} {r q : ty_T} {e : ab_E} {go go' : ab_E → ab_O} (hc : bs_ch c' i k = bs_ch c i k) (hK : K' (bs_ch c i k) = K (bs_ch c i k)) (hA : A' (bs_ch c i k) = A (bs_ch c i k))
    (hg : ∀ n, go' n = go n) : ab_arg K' A' c' i k r q e go' = ab_arg K A c i k r q e go := by
  unfold ab_arg
  rw [hc, sd_nv_cg hK hA, hg]
theorem sd_cg {N k n : Nat} {K A B st ar K' A' B' st' ar' : Nat → Int32} {c c' : Nat → Nat} {tb : Nat → ty_T} (hN : N ≤ 8) (hb : ab_bd N k n K A B c) (hK : ∀ i, i < n → K' i = K i ∧ A' i = A i ∧ B' i = B i) (hc : ∀ i, i < n → c' i = c i)
    (hf : ∀ g, g < N → (st' g = 2 ↔ st g = 2)) (ha : ∀ g, g < N → st g = 2 → ar' g = ar g) : ∀ d i e, i < n → ab_ev K' A' B' st' ar' c' tb d i e = ab_ev K A B st ar c tb d i e := by
  intro d
  induction d with
  | zero => intro i e _; rfl
  | succ d ih =>
    intro i e hi
    obtain ⟨k1, a1, b1⟩ := hK i hi
    have lf : (K i = 0 ∨ K i = 1 ∨ K i = 2) → ab_ev K' A' B' st' ar' c' tb (d + 1) i e = ab_ev K A B st ar c tb (d + 1) i e := by
      intro h
      rw [ab_ev_lf h, ab_ev_lf (by rw [k1]; exact h)]
      unfold ab_leaf
      rw [k1, a1]
    have op : (K i = 3 ∨ K i = 4 ∨ K i = 5 ∨ K i = 6) → ab_ev K' A' B' st' ar' c' tb (d + 1) i e = ab_ev K A B st ar c tb (d + 1) i e := by
      intro h
      have c2 : c i = 2 := by
        rw [hb.2.1 i]
        rcases h with h | h | h | h <;> rw [h]
        · exact bs_cc3 _
        · exact bs_cc4 _
        · exact bs_cc5 _
        · exact bs_cc6 _
      have p0 : bs_ch c i 0 < n := ab_ch hb hi (by omega)
      have p1 : bs_ch c i 1 < n := ab_ch hb hi (by omega)
      rw [ab_ev_op h, ab_ev_op (by rw [k1]; exact h)]
      unfold ab_op
      rw [sd_ch hc hi, sd_ch hc hi, ih _ _ p0]
      refine sd_bind fun x => ?_
      rw [ih _ _ p1]
      refine sd_bind fun y => ?_
      unfold ab_opf
      rw [k1, sd_ch hc hi, sd_ch hc hi, sd_nv_cg (hK _ p0).1 (hK _ p0).2.1, sd_nv_cg (hK _ p1).1 (hK _ p1).2.1]
    rcases bd_10 (hb.1 i hi) with h | h | h | h | h | h | h | h | h | h
    · exact lf (Or.inl h)
    · exact lf (Or.inr (Or.inl h))
    · exact lf (Or.inr (Or.inr h))
    · exact op (Or.inl h)
    · exact op (Or.inr (Or.inl h))
    · exact op (Or.inr (Or.inr (Or.inl h)))
    · exact op (Or.inr (Or.inr (Or.inr h)))
    · have c1 := ab_c7 hb h
      have p0 : bs_ch c i 0 < n := ab_ch hb hi (by omega)
      rw [ab_ev_isi h, ab_ev_isi (by rw [k1]; exact h)]
      unfold ab_isi
      rw [sd_ch hc hi, ih _ _ p0]
    · have c3 := ab_c8 hb h
      have p0 : bs_ch c i 0 < n := ab_ch hb hi (by omega)
      have p1 : bs_ch c i 1 < n := ab_ch hb hi (by omega)
      have p2 : bs_ch c i 2 < n := ab_ch hb hi (by omega)
      have th : ∀ t e', ab_th K' A' c' i t e' = ab_th K A c i t e' := by
        intro t e'
        unfold ab_th
        rw [sd_ch hc hi, sd_ch hc p0, (hK _ p0).1]
        split
        · next h7 =>
          have q := ab_ch hb p0 (show 0 < c (bs_ch c i 0) by rw [ab_c7 hb h7]; decide)
          rw [sd_nv_cg (hK _ p0).1 (hK _ p0).2.1, sd_nv_cg (hK _ q).1 (hK _ q).2.1]
        · rw [sd_nv_cg (hK _ p0).1 (hK _ p0).2.1]
      rw [ab_ev_if h, ab_ev_if (by rw [k1]; exact h)]
      unfold ab_if
      rw [sd_ch hc hi, sd_ch hc hi, sd_ch hc hi, ih _ _ p0]
      refine sd_bind fun x => ?_
      rw [th, th, ih _ _ p1, ih _ _ p2]
    · obtain ⟨a, al, ea⟩ := (hb.1 i hi).2.2.2.2.1 h
      have cl : (A i).toNatClampNeg = a := by rw [ea]; exact nI_clamp (by omega)
      have fits : ab_fits A' B' st' ar' i = ab_fits A B st ar i := by
        unfold ab_fits
        rw [a1, b1, cl]
        by_cases s : st a = 2
        · rw [decide_eq_true s, decide_eq_true ((hf a al).mpr s), ha a al s]
        · rw [decide_eq_false s, decide_eq_false (fun z => s ((hf a al).mp z))]
          rfl
      rw [ab_ev_call h, ab_ev_call (by rw [k1]; exact h)]
      unfold ab_call
      rw [b1]
      split
      · unfold ab_cl0
        rw [fits, a1]
      · next b0 =>
        split
        · next b1' =>
          have c1 := ab_cB1 hb h b1'
          have p0 : bs_ch c i 0 < n := ab_ch hb hi (by omega)
          rw [sd_ch hc hi, ih _ _ p0]
          refine sd_bind fun x => ?_
          unfold ab_cl1
          rw [fits, a1, sd_arg_cg (sd_ch hc hi 0) (hK _ p0).1 (hK _ p0).2.1 (fun _ => rfl)]
        · next b1' =>
          have c2 := (ab_cB2 hb hi h b0 b1').1
          have p0 : bs_ch c i 0 < n := ab_ch hb hi (by omega)
          have p1 : bs_ch c i 1 < n := ab_ch hb hi (by omega)
          rw [sd_ch hc hi, sd_ch hc hi, ih _ _ p0]
          refine sd_bind fun x => ?_
          rw [ih _ _ p1]
          refine sd_bind fun y => ?_
          unfold ab_cl2
          rw [fits, a1, sd_arg_cg (sd_ch hc hi 0) (hK _ p0).1 (hK _ p0).2.1 (fun _ => sd_arg_cg (sd_ch hc hi 1) (hK _ p1).1 (hK _ p1).2.1 (fun _ => rfl))]
/-- the same defined slots -/
def sd_same (N : Nat) (K A B K' A' B' : Nat → Nat → Int32) (st ar st' ar' : Nat → Int32) (sz sz' : Nat → Nat) : Prop :=
  (∀ g, g < N → (st' g = 2 ↔ st g = 2)) ∧ ∀ g, g < N → st g = 2 → ar' g = ar g ∧ sz' g = sz g ∧ ∀ i, i < sz g → K' g i = K g i ∧ A' g i = A g i ∧ B' g i = B g i
theorem sd_step {N : Nat} {K A B K' A' B' : Nat → Nat → Int32} {st ar st' ar' : Nat → Int32} {sz sz' : Nat → Nat} {tb : Nat → ty_T} (hN : N ≤ 8) (hp : sp_ok N K A B st ar sz) (h : sd_same N K A B K' A' B' st ar st' ar' sz sz') (q : Nat) :
    sp_step N K' A' B' st' ar' sz' tb q = sp_step N K A B st ar sz tb q := by
  unfold sp_step
  by_cases c : q < 3 * N ∧ st (q / 3) = 2
  · have g : q / 3 < N := by omega
    obtain ⟨e1, e2, e3⟩ := h.2 _ g c.2
    obtain ⟨k, hk, ek, z0, z1, hb⟩ := hp _ g c.2
    rw [if_pos c, if_pos ⟨c.1, (h.1 _ g).mpr c.2⟩, e1]
    have : sp_out K' A' B' st' ar' sz' tb (q / 3) = sp_out K A B st ar sz tb (q / 3) := by
      unfold sp_out
      rw [e2]
      refine sd_cg hN hb e3 (fun i hi => ?_) h.1 (fun g hg s => (h.2 g hg s).1) _ _ _ (by omega)
      show bs_cc (K' (q / 3) i) (B' (q / 3) i) = bs_cc (K (q / 3) i) (B (q / 3) i)
      rw [(e3 i hi).1, (e3 i hi).2.2]
    rw [this]
  · rw [if_neg c, if_neg]
    intro z
    exact c ⟨z.1, (h.1 _ (by omega)).mp z.2⟩
end
section
theorem xc_3 (r : Nat) : nI r * 3 = nI (r * 3) := by rw [show (3 : Int32) = nI 3 by decide, pk_mul]
theorem xc_31 (r : Nat) : nI r * 3 + 1 = nI (r * 3 + 1) := by rw [xc_3, nI_1]
theorem xc_32 (r : Nat) : nI r * 3 + 2 = nI (r * 3 + 2) := by rw [xc_3, show (2 : Int32) = nI 2 by decide, nI_add]
theorem xc_2 (r : Nat) : nI r * 2 = nI (r * 2) := by rw [show (2 : Int32) = nI 2 by decide, pk_mul]
theorem xc_21 (r : Nat) : nI r * 2 + 1 = nI (r * 2 + 1) := by rw [xc_2, nI_1]
theorem xc_ints : (13041920 : Int32) = ty_x ty_ints := by decide
theorem xc_any : (13042175 : Int32) = ty_x ty_any := by decide
theorem xc_bool : (3 : Int32) = ty_x ty_bool := by decide
theorem xc_ats : (255 : Int32) = ty_x ty_ats := by decide
theorem ty_lw_add : ∀ a, a < 19 → ∀ b, b < 19 → (ty_lw a + ty_lw b).toInt = ty_lv a + ty_lv b := by decide +kernel
theorem ty_hw_add : ∀ a, a < 19 → ∀ b, b < 19 → (ty_hw a + ty_hw b).toInt = ty_hv a + ty_hv b := by decide +kernel
theorem ty_lh_sub : ∀ a, a < 19 → ∀ b, b < 19 → (ty_lw a - ty_hw b).toInt = ty_lv a - ty_hv b := by decide +kernel
theorem ty_hl_sub : ∀ a, a < 19 → ∀ b, b < 19 → (ty_hw a - ty_lw b).toInt = ty_hv a - ty_lv b := by decide +kernel
theorem ty_lv_8 {l : Nat} (h : 0 < l) : ty_lv l ≤ 8 := by unfold ty_lv; split <;> omega
theorem ty_hv_8 {l : Nat} (h : 0 < l) : -8 ≤ ty_hv l := by unfold ty_hv; split <;> omega
section
variable {f_slotCount f_capacity f_nodesUsed f_buildingSlot f_pendingCount f_summariesCurrent f_callsActive f_callsMade f_runOutcome f_runValue : Int32} {a_slotStates a_slotArities a_slotStarts a_slotSizes a_kinds a_firstOperands a_secondOperands a_children a_parents a_depths a_pendingNodes a_summaries a_nextSummaries a_nodeTypes a_paramsAfter a_params a_values a_arguments a_frameSlots a_frameNodes : Nat → Int32} {N k n S : Nat} {K A B : Nat → Int32}
theorem xc_row (hB : rl_body N k n S K A B a_kinds a_firstOperands a_secondOperands a_children a_parents a_depths) {i : Nat} (hi : i < n) :
    vp_in (nI (S + i)) 128 ∧ (nI (S + i)).toNatClampNeg = S + i ∧ a_kinds (S + i) = K i ∧ a_firstOperands (S + i) = A i ∧ a_secondOperands (S + i) = B i := by
  obtain ⟨h1, h2, h3⟩ := hB
  obtain ⟨r1, r2, r3, _⟩ := h3 i hi
  exact ⟨vp_in_nI (by omega) (by omega), nI_clamp (by omega), r1, r2, r3⟩
theorem xc_child (hB : rl_body N k n S K A B a_kinds a_firstOperands a_secondOperands a_children a_parents a_depths) {i j : Nat} (hi : i < n) (hj : j < rl_c K B i) :
    vp_in (nI ((S + i) * 3 + j)) 384 ∧ (nI ((S + i) * 3 + j)).toNatClampNeg = (S + i) * 3 + j ∧ a_children ((S + i) * 3 + j) = nI (S + bs_ch (rl_c K B) i j) ∧ bs_ch (rl_c K B) i j < n := by
  obtain ⟨h1, h2, h3⟩ := hB
  obtain ⟨r1, r2, r3, r4, _⟩ := h3 i hi
  have c3 := ab_c3 h2 hi
  have lt := bs_ch_lt h2.2.2 hi hj
  exact ⟨vp_in_nI (by omega) (by omega), nI_clamp (by omega), (r4 j hj).1, by omega⟩
theorem xc_nv {Q : St2 → Prop} (hB : rl_body N k n S K A B a_kinds a_firstOperands a_secondOperands a_children a_parents a_depths) (hk : k ≤ 2) {p : Nat} (hp : p < n) {t : ty_T} (ht : ty_ok t) {e : ab_E} (he : xa_e e)
    (h0 : a_params 0 = ty_x e.1) (h1 : a_params 1 = ty_x e.2) (H : ∀ P : Nat → Int32, P 0 = ty_x (ab_nv K A p t e).1 → P 1 = ty_x (ab_nv K A p t e).2 → Q (f_slotCount, f_capacity, f_nodesUsed, f_buildingSlot, f_pendingCount, f_summariesCurrent, f_callsActive, f_callsMade, f_runOutcome, f_runValue, a_slotStates, a_slotArities, a_slotStarts, a_slotSizes, a_kinds, a_firstOperands, a_secondOperands, a_children, a_parents, a_depths, a_pendingNodes, a_summaries, a_nextSummaries, a_nodeTypes, a_paramsAfter, P, a_values, a_arguments, a_frameSlots, a_frameNodes)) : wpX_narrowVariable Q (f_slotCount, f_capacity, f_nodesUsed, f_buildingSlot, f_pendingCount, f_summariesCurrent, f_callsActive, f_callsMade, f_runOutcome, f_runValue, a_slotStates, a_slotArities, a_slotStarts, a_slotSizes, a_kinds, a_firstOperands, a_secondOperands, a_children, a_parents, a_depths, a_pendingNodes, a_summaries, a_nextSummaries, a_nodeTypes, a_paramsAfter, a_params, a_values, a_arguments, a_frameSlots, a_frameNodes) (nI (S + p)) (ty_x t) := by
  obtain ⟨w, cl, rk, ra, _⟩ := xc_row (a_kinds := a_kinds) (a_firstOperands := a_firstOperands) (a_secondOperands := a_secondOperands) (a_children := a_children) (a_parents := a_parents) (a_depths := a_depths) hB hp
  unfold wpX_narrowVariable
  dsimp only
  rw [cl, rk, ra]
  unfold ab_nv at H
  by_cases z : K p = 2
  · rw [if_pos z] at H
    obtain ⟨j, hj, ej⟩ := ab_var hB.2.1 hp z
    rw [ej] at H ⊢
    have jj : j = 0 ∨ j = 1 := by omega
    rcases jj with rfl | rfl
    · rw [if_pos nI_0] at H
      refine ⟨w, br_t z ⟨w, nm_e ⟨vp_in_nI (by decide) (by decide), ?_⟩⟩⟩
      rw [nI_clamp (by decide), h0]
      refine xt_meet he.1 ht ⟨vp_in_nI (by decide) (by decide), nm_e (H _ pk_us ?_)⟩
      rw [pk_un (by decide)]; exact h1
    · rw [if_neg (by decide)] at H
      refine ⟨w, br_t z ⟨w, nm_e ⟨vp_in_nI (by decide) (by decide), ?_⟩⟩⟩
      rw [nI_clamp (by decide), h1]
      refine xt_meet he.2 ht ⟨vp_in_nI (by decide) (by decide), nm_e (H _ ?_ pk_us)⟩
      rw [pk_un (by decide)]; exact h0
  · rw [if_neg z] at H
    exact ⟨w, br_f z (H a_params h0 h1)⟩
theorem xa_nv_e {K A : Nat → Int32} {p : Nat} {t : ty_T} {e : ab_E} (ht : ty_ok t) (he : xa_e e) : xa_e (ab_nv K A p t e) := by
  unfold ab_nv
  split
  · split
    · exact ⟨ty_meet_ok he.1 ht, he.2⟩
    · exact ⟨he.1, ty_meet_ok he.2 ht⟩
  · exact he
theorem xc_164 {Q : Int32 → St2 → Prop} {x5 x6 z0 : Int32} (h1 : x5 < x6 → Q (z0 ||| 0) (f_slotCount, f_capacity, f_nodesUsed, f_buildingSlot, f_pendingCount, f_summariesCurrent, f_callsActive, f_callsMade, f_runOutcome, f_runValue, a_slotStates, a_slotArities, a_slotStarts, a_slotSizes, a_kinds, a_firstOperands, a_secondOperands, a_children, a_parents, a_depths, a_pendingNodes, a_summaries, a_nextSummaries, a_nodeTypes, a_paramsAfter, a_params, a_values, a_arguments, a_frameSlots, a_frameNodes)) (h2 : ¬ x5 < x6 → Q (z0 ||| 1) (f_slotCount, f_capacity, f_nodesUsed, f_buildingSlot, f_pendingCount, f_summariesCurrent, f_callsActive, f_callsMade, f_runOutcome, f_runValue, a_slotStates, a_slotArities, a_slotStarts, a_slotSizes, a_kinds, a_firstOperands, a_secondOperands, a_children, a_parents, a_depths, a_pendingNodes, a_summaries, a_nextSummaries, a_nodeTypes, a_paramsAfter, a_params, a_values, a_arguments, a_frameSlots, a_frameNodes)) : wX_inferNumeric_164 Q x5 x6 z0 f_slotCount f_capacity f_nodesUsed f_buildingSlot f_pendingCount f_summariesCurrent f_callsActive f_callsMade f_runOutcome f_runValue a_slotStates a_slotArities a_slotStarts a_slotSizes a_kinds a_firstOperands a_secondOperands a_children a_parents a_depths a_pendingNodes a_summaries a_nextSummaries a_nodeTypes a_paramsAfter a_params a_values a_arguments a_frameSlots a_frameNodes := br_c h1 h2
theorem xc_numeric {Q : Int32 → St2 → Prop} (hB : rl_body N k n S K A B a_kinds a_firstOperands a_secondOperands a_children a_parents a_depths) (hk : k ≤ 2) {i : Nat} (hi : i < n) (hK : K i = 3 ∨ K i = 4 ∨ K i = 5) (hc : rl_c K B i = 2)
    {x y : ty_T} {e : ab_E} (ox : ty_ok x) (oy : ty_ok y) (he : xa_e e) (hx : a_nodeTypes (S + bs_ch (rl_c K B) i 0) = ty_x x) (hy : a_nodeTypes (S + bs_ch (rl_c K B) i 1) = ty_x y)
    (h0 : a_params 0 = ty_x e.1) (h1 : a_params 1 = ty_x e.2) (H0 : (x.2.1 = 0 ∨ y.2.1 = 0) → Q 0 (f_slotCount, f_capacity, f_nodesUsed, f_buildingSlot, f_pendingCount, f_summariesCurrent, f_callsActive, f_callsMade, f_runOutcome, f_runValue, a_slotStates, a_slotArities, a_slotStarts, a_slotSizes, a_kinds, a_firstOperands, a_secondOperands, a_children, a_parents, a_depths, a_pendingNodes, a_summaries, a_nextSummaries, a_nodeTypes, a_paramsAfter, a_params, a_values, a_arguments, a_frameSlots, a_frameNodes))
    (H1 : ¬ (x.2.1 = 0 ∨ y.2.1 = 0) → ∀ P : Nat → Int32, P 0 = ty_x (ab_nv K A (bs_ch (rl_c K B) i 1) ty_ints (ab_nv K A (bs_ch (rl_c K B) i 0) ty_ints e)).1 → P 1 = ty_x (ab_nv K A (bs_ch (rl_c K B) i 1) ty_ints (ab_nv K A (bs_ch (rl_c K B) i 0) ty_ints e)).2 → Q (ty_x (ab_num (K i) x y)) (f_slotCount, f_capacity, f_nodesUsed, f_buildingSlot, f_pendingCount, f_summariesCurrent, f_callsActive, f_callsMade, f_runOutcome, f_runValue, a_slotStates, a_slotArities, a_slotStarts, a_slotSizes, a_kinds, a_firstOperands, a_secondOperands, a_children, a_parents, a_depths, a_pendingNodes, a_summaries, a_nextSummaries, a_nodeTypes, a_paramsAfter, P, a_values, a_arguments, a_frameSlots, a_frameNodes)) :
    wpX_inferNumeric Q (f_slotCount, f_capacity, f_nodesUsed, f_buildingSlot, f_pendingCount, f_summariesCurrent, f_callsActive, f_callsMade, f_runOutcome, f_runValue, a_slotStates, a_slotArities, a_slotStarts, a_slotSizes, a_kinds, a_firstOperands, a_secondOperands, a_children, a_parents, a_depths, a_pendingNodes, a_summaries, a_nextSummaries, a_nodeTypes, a_paramsAfter, a_params, a_values, a_arguments, a_frameSlots, a_frameNodes) (nI (S + i)) := by
  obtain ⟨w, cl, rk, ra, _⟩ := xc_row (a_kinds := a_kinds) (a_firstOperands := a_firstOperands) (a_secondOperands := a_secondOperands) (a_children := a_children) (a_parents := a_parents) (a_depths := a_depths) hB hi
  obtain ⟨w0, cl0, r0, l0⟩ := xc_child (a_kinds := a_kinds) (a_firstOperands := a_firstOperands) (a_secondOperands := a_secondOperands) (a_children := a_children) (a_parents := a_parents) (a_depths := a_depths) hB hi (j := 0) (by omega)
  obtain ⟨w1, cl1, r1, l1⟩ := xc_child (a_kinds := a_kinds) (a_firstOperands := a_firstOperands) (a_secondOperands := a_secondOperands) (a_children := a_children) (a_parents := a_parents) (a_depths := a_depths) hB hi (j := 1) (by omega)
  obtain ⟨wx, clx, rkx, rax, _⟩ := xc_row (a_kinds := a_kinds) (a_firstOperands := a_firstOperands) (a_secondOperands := a_secondOperands) (a_children := a_children) (a_parents := a_parents) (a_depths := a_depths) hB l0
  obtain ⟨wy, cly, rky, ray, _⟩ := xc_row (a_kinds := a_kinds) (a_firstOperands := a_firstOperands) (a_secondOperands := a_secondOperands) (a_children := a_children) (a_parents := a_parents) (a_depths := a_depths) hB l1
  rw [Nat.add_zero] at w0 cl0 r0
  unfold wpX_inferNumeric
  dsimp only
  rw [xc_31, xc_3, cl0, cl1, r0, r1]
  refine ⟨w0, nm_e ⟨w1, nm_e ⟨wx, ?_⟩⟩⟩
  rw [clx, hx]
  refine xt_has ox (fun x0 => br_t rfl (H0 (Or.inl x0))) (fun x0 => br_f (by decide) ⟨wy, ?_⟩)
  rw [cly, hy]
  refine xt_has oy (fun y0 => br_t rfl (H0 (Or.inr y0))) (fun y0 => br_f (by decide) ?_)
  have H := H1 (fun z => z.elim x0 y0)
  rw [xc_ints]
  refine xc_nv hB hk l0 ty_ints_ok he h0 h1 fun P p0 p1 => ?_
  refine xc_nv hB hk l1 ty_ints_ok (xa_nv_e ty_ints_ok he) p0 p1 fun P' p0' p1' => ?_
  have H := H P' p0' p1'
  have x1 := ty_ok_l ox
  have x2 := ty_ok_h ox
  have y1 := ty_ok_l oy
  have y2 := ty_ok_h oy
  have u0 := ty_ok_0 ox
  have v0 := ty_ok_0 oy
  have ex := ty_lh ox x0
  have ey := ty_lh oy y0
  have b1 := ty_lv_8 (l := x.2.1) (by omega)
  have b2 := ty_lv_8 (l := y.2.1) (by omega)
  have b3 := ty_hv_8 (l := x.2.2) (by omega)
  have b4 := ty_hv_8 (l := y.2.2) (by omega)
  dsimp only
  refine ⟨wx, ?_⟩
  rw [cl, hx, hy, rk]
  refine xt_low ox x0 ⟨wx, xt_high ox x0 ⟨wy, xt_low oy y0 ⟨wy, xt_high oy y0 ⟨w, ?_⟩⟩⟩⟩
  rcases hK with k3 | k4 | k5
  · have e1 := ty_lw_add x.2.1 (by omega) y.2.1 (by omega)
    have e2 := ty_hw_add x.2.2 (by omega) y.2.2 (by omega)
    have en : ab_num (K i) x y = (0, ty_rl (ty_lv x.2.1 + ty_lv y.2.1), ty_rh (ty_hv x.2.2 + ty_hv y.2.2)) := by unfold ab_num; rw [if_pos k3]
    rw [en, ← e1, ← e2] at H
    exact br_t k3 (xt_range (by omega) (by omega) (by omega) H)
  · have e1 := ty_lh_sub x.2.1 (by omega) y.2.2 (by omega)
    have e2 := ty_hl_sub x.2.2 (by omega) y.2.1 (by omega)
    have n3 : ¬ K i = 3 := by rw [k4]; decide
    have en : ab_num (K i) x y = (0, ty_rl (ty_lv x.2.1 - ty_hv y.2.2), ty_rh (ty_hv x.2.2 - ty_lv y.2.1)) := by unfold ab_num; rw [if_neg n3, if_pos k4]
    rw [en, ← e1, ← e2] at H
    exact br_f n3 ⟨w, br_t k4 (xt_range (by omega) (by omega) (by omega) H)⟩
  · have n3 : ¬ K i = 3 := by rw [k5]; decide
    have n4 : ¬ K i = 4 := by rw [k5]; decide
    have en : ab_num (K i) x y = ((if ty_lv x.2.1 < ty_hv y.2.2 then 2 else 0) + (if ty_lv y.2.1 ≤ ty_hv x.2.2 then 1 else 0), 0, 0) := by unfold ab_num; rw [if_neg n3, if_neg n4]
    rw [en] at H
    have t1 := ty_lw_t x.2.1 (by omega)
    have t2 := ty_hw_t x.2.2 (by omega)
    have t3 := ty_lw_t y.2.1 (by omega)
    have t4 := ty_hw_t y.2.2 (by omega)
    refine br_f n3 ⟨w, br_f n4 ?_⟩
    by_cases c : ty_hw y.2.2 ≤ ty_lw x.2.1
    · have c' := c
      rw [Int32.le_iff_toInt_le, t1, t4] at c'
      rw [if_neg (by omega)] at H
      refine br_t c (xc_164 (fun d => ?_) (fun d => ?_))
      · rw [Int32.lt_iff_toInt_lt, t2, t3] at d
        rw [if_neg (by omega)] at H
        exact H
      · rw [Int32.lt_iff_toInt_lt, t2, t3] at d
        rw [if_pos (by omega)] at H
        exact H
    · have c' := c
      rw [Int32.le_iff_toInt_le, t1, t4] at c'
      rw [if_pos (by omega)] at H
      refine br_f c (xc_164 (fun d => ?_) (fun d => ?_))
      · rw [Int32.lt_iff_toInt_lt, t2, t3] at d
        rw [if_neg (by omega)] at H
        exact H
      · rw [Int32.lt_iff_toInt_lt, t2, t3] at d
        rw [if_pos (by omega)] at H
        exact H
theorem xc_equal {Q : Int32 → Prop} (hB : rl_body N k n S K A B a_kinds a_firstOperands a_secondOperands a_children a_parents a_depths) {i : Nat} (hi : i < n) (hc : rl_c K B i = 2)
    {x y : ty_T} (ox : ty_ok x) (oy : ty_ok y) (hx : a_nodeTypes (S + bs_ch (rl_c K B) i 0) = ty_x x) (hy : a_nodeTypes (S + bs_ch (rl_c K B) i 1) = ty_x y)
    (H : Q (ty_x ((if ty_meet x y = ty_0 then 1 else 3), 0, 0))) : wpX_inferEqual Q (f_slotCount, f_capacity, f_nodesUsed, f_buildingSlot, f_pendingCount, f_summariesCurrent, f_callsActive, f_callsMade, f_runOutcome, f_runValue, a_slotStates, a_slotArities, a_slotStarts, a_slotSizes, a_kinds, a_firstOperands, a_secondOperands, a_children, a_parents, a_depths, a_pendingNodes, a_summaries, a_nextSummaries, a_nodeTypes, a_paramsAfter, a_params, a_values, a_arguments, a_frameSlots, a_frameNodes) (nI (S + i)) := by
  obtain ⟨w0, cl0, r0, l0⟩ := xc_child (a_kinds := a_kinds) (a_firstOperands := a_firstOperands) (a_secondOperands := a_secondOperands) (a_children := a_children) (a_parents := a_parents) (a_depths := a_depths) hB hi (j := 0) (by omega)
  obtain ⟨w1, cl1, r1, l1⟩ := xc_child (a_kinds := a_kinds) (a_firstOperands := a_firstOperands) (a_secondOperands := a_secondOperands) (a_children := a_children) (a_parents := a_parents) (a_depths := a_depths) hB hi (j := 1) (by omega)
  obtain ⟨wx, clx, rkx, rax, _⟩ := xc_row (a_kinds := a_kinds) (a_firstOperands := a_firstOperands) (a_secondOperands := a_secondOperands) (a_children := a_children) (a_parents := a_parents) (a_depths := a_depths) hB l0
  obtain ⟨wy, cly, rky, ray, _⟩ := xc_row (a_kinds := a_kinds) (a_firstOperands := a_firstOperands) (a_secondOperands := a_secondOperands) (a_children := a_children) (a_parents := a_parents) (a_depths := a_depths) hB l1
  rw [Nat.add_zero] at w0 cl0 r0
  unfold wpX_inferEqual
  dsimp only
  rw [xc_31, xc_3, cl0, cl1, r0, r1]
  refine ⟨w0, nm_e ⟨w1, nm_e ⟨wx, wy, ?_⟩⟩⟩
  rw [clx, cly, hx, hy]
  refine xt_meet ox oy ?_
  by_cases z : ty_meet x y = ty_0
  · rw [if_pos z] at H
    exact br_t ((ty_x_0 (ty_meet_ok ox oy)).mpr z) H
  · rw [if_neg z] at H
    exact br_f (fun e => z ((ty_x_0 (ty_meet_ok ox oy)).mp e)) H
theorem xc_isint {Q : Int32 → Prop} (hB : rl_body N k n S K A B a_kinds a_firstOperands a_secondOperands a_children a_parents a_depths) {i : Nat} (hi : i < n) (hc : rl_c K B i = 1)
    {x : ty_T} (ox : ty_ok x) (hx : a_nodeTypes (S + bs_ch (rl_c K B) i 0) = ty_x x)
    (H : Q (ty_x ((if x.1 = 0 then 0 else 1) + (if x.2.1 = 0 then 0 else 2), 0, 0))) : wpX_inferIsInt Q (f_slotCount, f_capacity, f_nodesUsed, f_buildingSlot, f_pendingCount, f_summariesCurrent, f_callsActive, f_callsMade, f_runOutcome, f_runValue, a_slotStates, a_slotArities, a_slotStarts, a_slotSizes, a_kinds, a_firstOperands, a_secondOperands, a_children, a_parents, a_depths, a_pendingNodes, a_summaries, a_nextSummaries, a_nodeTypes, a_paramsAfter, a_params, a_values, a_arguments, a_frameSlots, a_frameNodes) (nI (S + i)) := by
  obtain ⟨w0, cl0, r0, l0⟩ := xc_child (a_kinds := a_kinds) (a_firstOperands := a_firstOperands) (a_secondOperands := a_secondOperands) (a_children := a_children) (a_parents := a_parents) (a_depths := a_depths) hB hi (j := 0) (by omega)
  obtain ⟨wx, clx, rkx, rax, _⟩ := xc_row (a_kinds := a_kinds) (a_firstOperands := a_firstOperands) (a_secondOperands := a_secondOperands) (a_children := a_children) (a_parents := a_parents) (a_depths := a_depths) hB l0
  rw [Nat.add_zero] at w0 cl0 r0
  unfold wpX_inferIsInt
  dsimp only
  rw [xc_3, cl0, r0]
  refine ⟨w0, wx, nm_r (e' := ty_x x) (by rw [clx]; exact hx) ?_⟩
  rw [ty_xm ox]
  have om := ox.1
  by_cases z : x.1 = 0
  · rw [if_pos z] at H
    rw [z]
    refine br_t nI_0 ?_
    unfold wX_inferIsInt_27
    refine xt_has ox (fun q => br_t rfl ?_) (fun q => br_f (by decide) ?_)
    · rw [if_pos q] at H; exact H
    · rw [if_neg q] at H; exact H
  · rw [if_neg z] at H
    refine br_f (nI_ne0 (by omega) (by omega)) ?_
    unfold wX_inferIsInt_27
    refine xt_has ox (fun q => br_t rfl ?_) (fun q => br_f (by decide) ?_)
    · rw [if_pos q] at H; exact H
    · rw [if_neg q] at H; exact H
end
end
section
section
variable {f_slotCount f_capacity f_nodesUsed f_buildingSlot f_pendingCount f_summariesCurrent f_callsActive f_callsMade f_runOutcome f_runValue : Int32} {a_slotStates a_slotArities a_slotStarts a_slotSizes a_kinds a_firstOperands a_secondOperands a_children a_parents a_depths a_pendingNodes a_summaries a_nextSummaries a_nodeTypes a_paramsAfter a_params a_values a_arguments a_frameSlots a_frameNodes : Nat → Int32} {N k n S : Nat} {K A B : Nat → Int32}
theorem xc_if {Q : Int32 → St2 → Prop} (hB : rl_body N k n S K A B a_kinds a_firstOperands a_secondOperands a_children a_parents a_depths) {i : Nat} (hi : i < n) (hc : rl_c K B i = 3)
    {x y : ty_T} {e f : ab_E} (ox : ty_ok x) (oy : ty_ok y) (he : xa_e e) (hf : xa_e f)
    (hx : a_nodeTypes (S + bs_ch (rl_c K B) i 1) = ty_x x) (hy : a_nodeTypes (S + bs_ch (rl_c K B) i 2) = ty_x y)
    (e0 : a_paramsAfter ((S + bs_ch (rl_c K B) i 1) * 2) = ty_x e.1) (e1 : a_paramsAfter ((S + bs_ch (rl_c K B) i 1) * 2 + 1) = ty_x e.2)
    (f0 : a_paramsAfter ((S + bs_ch (rl_c K B) i 2) * 2) = ty_x f.1) (f1 : a_paramsAfter ((S + bs_ch (rl_c K B) i 2) * 2 + 1) = ty_x f.2)
    (H : ∀ P : Nat → Int32, P 0 = ty_x (ty_join e.1 f.1) → P 1 = ty_x (ty_join e.2 f.2) → Q (ty_x (ty_join x y)) (f_slotCount, f_capacity, f_nodesUsed, f_buildingSlot, f_pendingCount, f_summariesCurrent, f_callsActive, f_callsMade, f_runOutcome, f_runValue, a_slotStates, a_slotArities, a_slotStarts, a_slotSizes, a_kinds, a_firstOperands, a_secondOperands, a_children, a_parents, a_depths, a_pendingNodes, a_summaries, a_nextSummaries, a_nodeTypes, a_paramsAfter, P, a_values, a_arguments, a_frameSlots, a_frameNodes)) : wpX_inferIf Q (f_slotCount, f_capacity, f_nodesUsed, f_buildingSlot, f_pendingCount, f_summariesCurrent, f_callsActive, f_callsMade, f_runOutcome, f_runValue, a_slotStates, a_slotArities, a_slotStarts, a_slotSizes, a_kinds, a_firstOperands, a_secondOperands, a_children, a_parents, a_depths, a_pendingNodes, a_summaries, a_nextSummaries, a_nodeTypes, a_paramsAfter, a_params, a_values, a_arguments, a_frameSlots, a_frameNodes) (nI (S + i)) := by
  obtain ⟨w1, cl1, r1, l1⟩ := xc_child hB hi (j := 1) (by omega)
  obtain ⟨w2, cl2, r2, l2⟩ := xc_child hB hi (j := 2) (by omega)
  obtain ⟨wx, clx, _⟩ := xc_row hB l1
  obtain ⟨wy, cly, _⟩ := xc_row hB l2
  have hS := hB.1
  unfold wpX_inferIf
  dsimp only
  rw [xc_31, xc_32, cl1, cl2, r1, r2]
  refine ⟨w1, nm_e ⟨w2, nm_e ⟨3, ?_⟩⟩⟩
  have i0 : ∀ r : Nat, nI r * 2 + 0 = nI (r * 2) := fun r => by rw [xc_2, Int32.add_zero]
  refine br_f (by decide) ?_
  rw [i0, i0, nI_clamp (by omega), nI_clamp (by omega), e0, f0]
  refine ⟨vp_in_nI (by omega) (by omega), vp_in_nI (by omega) (by omega), xt_join he.1 hf.1 ⟨vp_in_nI (n := 0) (by decide) (by decide), nm_e (nm_r (e' := 1) (by decide) ?_)⟩⟩
  refine br_f (by decide) ?_
  rw [xc_21, xc_21, nI_clamp (by omega), nI_clamp (by omega), e1, f1]
  refine ⟨vp_in_nI (by omega) (by omega), vp_in_nI (by omega) (by omega), xt_join he.2 hf.2 ⟨vp_in_nI (n := 1) (by decide) (by decide), nm_e (nm_r (e' := 2) (by decide) ?_)⟩⟩
  refine br_t (by decide) ?_
  rw [clx, cly, hx, hy]
  refine ⟨wx, wy, xt_join ox oy (H _ ?_ ?_)⟩
  · rw [pk_un (by decide)]; exact pk_us
  · exact pk_us
/-- the check of a call's arguments -/
theorem xc_c0 {Q : Int32 → St2 → Prop} {x1 : Int32} {g : Nat} (hg : g < 8) {fuel : Nat} {r : Int32} (hr : a_summaries (g * 3 + 2) = r) {m : Nat} (hm : m ≤ 2) (H : Q r (f_slotCount, f_capacity, f_nodesUsed, f_buildingSlot, f_pendingCount, f_summariesCurrent, f_callsActive, f_callsMade, f_runOutcome, f_runValue, a_slotStates, a_slotArities, a_slotStarts, a_slotSizes, a_kinds, a_firstOperands, a_secondOperands, a_children, a_parents, a_depths, a_pendingNodes, a_summaries, a_nextSummaries, a_nodeTypes, a_paramsAfter, a_params, a_values, a_arguments, a_frameSlots, a_frameNodes)) : wX_inferCall_39 Q x1 (nI g) (nI m) (fuel + 1) (nI m) f_slotCount f_capacity f_nodesUsed f_buildingSlot f_pendingCount f_summariesCurrent f_callsActive f_callsMade f_runOutcome f_runValue a_slotStates a_slotArities a_slotStarts a_slotSizes a_kinds a_firstOperands a_secondOperands a_children a_parents a_depths a_pendingNodes a_summaries a_nextSummaries a_nodeTypes a_paramsAfter a_params a_values a_arguments a_frameSlots a_frameNodes := by
  refine br_t (nI_le (Nat.le_refl _) (by omega)) ?_
  rw [xc_32, nI_clamp (by omega), hr]
  exact ⟨vp_in_nI (by omega) (by omega), H⟩
theorem xc_c1 {Q : Int32 → St2 → Prop} (hB : rl_body N k n S K A B a_kinds a_firstOperands a_secondOperands a_children a_parents a_depths) (hk : k ≤ 2) {i g j m fuel : Nat} (hi : i < n) (hg : g < 8) (hm : m ≤ 2) (hj : j < m) (hjc : j < rl_c K B i)
    {x q : ty_T} {e : ab_E} (ox : ty_ok x) (oq : ty_ok q) (he : xa_e e) (hx : a_nodeTypes (S + bs_ch (rl_c K B) i j) = ty_x x) (hq : a_summaries (g * 3 + j) = ty_x q) (h0 : a_params 0 = ty_x e.1) (h1 : a_params 1 = ty_x e.2)
    (H0 : ty_meet x q = ty_0 → Q 0 (f_slotCount, f_capacity, f_nodesUsed, f_buildingSlot, f_pendingCount, f_summariesCurrent, f_callsActive, f_callsMade, f_runOutcome, f_runValue, a_slotStates, a_slotArities, a_slotStarts, a_slotSizes, a_kinds, a_firstOperands, a_secondOperands, a_children, a_parents, a_depths, a_pendingNodes, a_summaries, a_nextSummaries, a_nodeTypes, a_paramsAfter, a_params, a_values, a_arguments, a_frameSlots, a_frameNodes))
    (H1 : ¬ ty_meet x q = ty_0 → ∀ P : Nat → Int32, P 0 = ty_x (ab_nv K A (bs_ch (rl_c K B) i j) q e).1 → P 1 = ty_x (ab_nv K A (bs_ch (rl_c K B) i j) q e).2 → wX_inferCall_39 Q (nI (S + i)) (nI g) (nI m) fuel (nI (j + 1)) f_slotCount f_capacity f_nodesUsed f_buildingSlot f_pendingCount f_summariesCurrent f_callsActive f_callsMade f_runOutcome f_runValue a_slotStates a_slotArities a_slotStarts a_slotSizes a_kinds a_firstOperands a_secondOperands a_children a_parents a_depths a_pendingNodes a_summaries a_nextSummaries a_nodeTypes a_paramsAfter P a_values a_arguments a_frameSlots a_frameNodes) :
    wX_inferCall_39 Q (nI (S + i)) (nI g) (nI m) (fuel + 1) (nI j) f_slotCount f_capacity f_nodesUsed f_buildingSlot f_pendingCount f_summariesCurrent f_callsActive f_callsMade f_runOutcome f_runValue a_slotStates a_slotArities a_slotStarts a_slotSizes a_kinds a_firstOperands a_secondOperands a_children a_parents a_depths a_pendingNodes a_summaries a_nextSummaries a_nodeTypes a_paramsAfter a_params a_values a_arguments a_frameSlots a_frameNodes := by
  obtain ⟨w1, cl1, r1, l1⟩ := xc_child hB hi hjc
  obtain ⟨wx, clx, _⟩ := xc_row hB l1
  have hS := hB.1
  refine br_f (nI_ge hj (by omega)) ?_
  rw [xc_3, xc_3, nI_add, nI_add, cl1, r1, nI_clamp (by omega), hq]
  refine ⟨w1, nm_e ⟨vp_in_nI (by omega) (by omega), nm_e ⟨wx, ?_⟩⟩⟩
  rw [clx, hx]
  refine xt_meet ox oq ?_
  by_cases z : ty_meet x q = ty_0
  · exact br_t ((ty_x_0 (ty_meet_ok ox oq)).mpr z) (H0 z)
  · refine br_f (fun e => z ((ty_x_0 (ty_meet_ok ox oq)).mp e)) ?_
    exact xc_nv hB hk l1 oq he h0 h1 fun P p0 p1 => nm_r (nI_1 j) (H1 z P p0 p1)
/-- an outcome as inferNode gives it: a type, and the parameters behind it -/
def xc_o (r : ty_T) (e : ab_E) (o : ab_O) : Prop := xa_e e ∧ ty_ok r ∧ ab_fin r e = o
theorem xc_nofit {st ar : Nat → Int32} {K A B : Nat → Int32} {c : Nat → Nat} {tb : Nat → ty_T} {i : Nat} {x y : ty_T} {e : ab_E} {o : ab_O} (h : ¬ (st (A i).toNatClampNeg = 2 ∧ ar (A i).toNatClampNeg = B i))
    (ho : o = if B i = 0 then ab_cl0 A B st ar tb i e else if B i = 1 then ab_cl1 K A B st ar c tb i x e else ab_cl2 K A B st ar c tb i x y e) : o = none := by
  have f : ab_fits A B st ar i = false := by
    unfold ab_fits
    by_cases a : st (A i).toNatClampNeg = 2
    · rw [decide_eq_false (fun z => h ⟨a, z⟩), Bool.and_false]
    · rw [decide_eq_false a, Bool.false_and]
  rw [ho]
  unfold ab_cl0 ab_cl1 ab_cl2 ab_gd
  rw [f]
  simp
theorem xc_call {Q : Int32 → St2 → Prop} {tb : Nat → ty_T} (hB : rl_body N k n S K A B a_kinds a_firstOperands a_secondOperands a_children a_parents a_depths) (hk : k ≤ 2) (hN : N ≤ 8) {i : Nat} (hi : i < n) (h9 : K i = 9)
    {x y : ty_T} {e : ab_E} (ox : ty_ok x) (oy : ty_ok y) (he : xa_e e) (hT : ∀ q, ty_ok (tb q)) (hs : ∀ q, q < 24 → a_summaries q = ty_x (tb q)) (h0 : a_params 0 = ty_x e.1) (h1 : a_params 1 = ty_x e.2)
    (hx : 1 ≤ rl_c K B i → a_nodeTypes (S + bs_ch (rl_c K B) i 0) = ty_x x) (hy : 2 ≤ rl_c K B i → a_nodeTypes (S + bs_ch (rl_c K B) i 1) = ty_x y) {o : ab_O}
    (ho : o = if B i = 0 then ab_cl0 A B a_slotStates a_slotArities tb i e else if B i = 1 then ab_cl1 K A B a_slotStates a_slotArities (rl_c K B) tb i x e else ab_cl2 K A B a_slotStates a_slotArities (rl_c K B) tb i x y e)
    (H : ∀ (P : Nat → Int32) (r : ty_T) (e' : ab_E), xc_o r e' o → P 0 = ty_x e'.1 → P 1 = ty_x e'.2 → Q (ty_x r) (f_slotCount, f_capacity, f_nodesUsed, f_buildingSlot, f_pendingCount, f_summariesCurrent, f_callsActive, f_callsMade, f_runOutcome, f_runValue, a_slotStates, a_slotArities, a_slotStarts, a_slotSizes, a_kinds, a_firstOperands, a_secondOperands, a_children, a_parents, a_depths, a_pendingNodes, a_summaries, a_nextSummaries, a_nodeTypes, a_paramsAfter, P, a_values, a_arguments, a_frameSlots, a_frameNodes)) : wpX_inferCall Q (f_slotCount, f_capacity, f_nodesUsed, f_buildingSlot, f_pendingCount, f_summariesCurrent, f_callsActive, f_callsMade, f_runOutcome, f_runValue, a_slotStates, a_slotArities, a_slotStarts, a_slotSizes, a_kinds, a_firstOperands, a_secondOperands, a_children, a_parents, a_depths, a_pendingNodes, a_summaries, a_nextSummaries, a_nodeTypes, a_paramsAfter, a_params, a_values, a_arguments, a_frameSlots, a_frameNodes) (nI (S + i)) := by
  obtain ⟨w, cl, rk, ra, rb⟩ := xc_row hB hi
  obtain ⟨g, hg, eg⟩ := (hB.2.1.1 i hi).2.2.2.2.1 h9
  obtain ⟨m, hm, em⟩ := (hB.2.1.1 i hi).2.2.2.2.2.1
  have cm : rl_c K B i = m := by rw [show rl_c K B i = bs_cc (K i) (B i) from rfl, h9, bs_cc9, em, nI_clamp (by omega)]
  have H0 : o = none → ∀ P : Nat → Int32, ∀ e', xa_e e' → P 0 = ty_x e'.1 → P 1 = ty_x e'.2 → Q 0 (f_slotCount, f_capacity, f_nodesUsed, f_buildingSlot, f_pendingCount, f_summariesCurrent, f_callsActive, f_callsMade, f_runOutcome, f_runValue, a_slotStates, a_slotArities, a_slotStarts, a_slotSizes, a_kinds, a_firstOperands, a_secondOperands, a_children, a_parents, a_depths, a_pendingNodes, a_summaries, a_nextSummaries, a_nodeTypes, a_paramsAfter, P, a_values, a_arguments, a_frameSlots, a_frameNodes) := fun on P e' oe p0 p1 => by
    have := H P ty_0 e' ⟨oe, ty_0_ok, by rw [on]; unfold ab_fin; rw [if_pos (Or.inl rfl)]⟩ p0 p1
    rw [ty_x_00] at this
    exact this
  have wg : vp_in (nI g) 8 := vp_in_nI (by omega) (by omega)
  have cg : (nI g).toNatClampNeg = g := nI_clamp (by omega)
  unfold wpX_inferCall
  dsimp only
  rw [cl, ra, rb, eg, em]
  refine ⟨w, nm_e ⟨w, nm_e ⟨wg, ?_⟩⟩⟩
  rw [cg]
  by_cases s2 : a_slotStates g = 2
  · refine br_t s2 ⟨wg, ?_⟩
    by_cases am : a_slotArities g = nI m
    · refine br_t am ⟨3, ?_⟩
      have fits : ab_fits A B a_slotStates a_slotArities i = true := by
        unfold ab_fits
        rw [eg, cg, em, decide_eq_true s2, decide_eq_true am]; rfl
      have cl0 : ∀ e, ab_cl0 A B a_slotStates a_slotArities tb i e = ab_fin (tb (g * 3 + 2)) e := fun e => by unfold ab_cl0 ab_gd; rw [fits, if_pos rfl, eg, cg]
      have hg8 : g < 8 := by omega
      have mm : m = 0 ∨ m = 1 ∨ m = 2 := by omega
      rcases mm with rfl | rfl | rfl
      · rw [em, if_pos nI_0, cl0] at ho
        exact xc_c0 (m := 0) hg8 (fuel := 2) (hs _ (by omega)) (by omega) (H a_params _ e ⟨he, hT _, ho.symm⟩ h0 h1)
      · have cl1 : ab_cl1 K A B a_slotStates a_slotArities (rl_c K B) tb i x e = if ty_meet x (tb (g * 3)) = ty_0 then none else ab_fin (tb (g * 3 + 2)) (ab_nv K A (bs_ch (rl_c K B) i 0) (tb (g * 3)) e) := by
          unfold ab_cl1 ab_gd ab_arg; rw [fits, if_pos rfl, eg, cg]
        rw [em, if_neg (by decide), if_pos (by decide), cl1] at ho
        refine xc_c1 (j := 0) (m := 1) (fuel := 2) hB hk hi hg8 (by omega) (by omega) (by omega) ox (hT (g * 3)) he (hx (by omega)) (hs _ (by omega)) h0 h1 (fun z => ?_) (fun z P p0 p1 => ?_)
        · rw [if_pos z] at ho
          exact H0 ho a_params e he h0 h1
        · rw [if_neg z] at ho
          exact xc_c0 (m := 1) hg8 (fuel := 1) (hs _ (by omega)) (by omega) (H P _ _ ⟨xa_nv_e (hT _) he, hT _, ho.symm⟩ p0 p1)
      · have cl2 : ab_cl2 K A B a_slotStates a_slotArities (rl_c K B) tb i x y e = if ty_meet x (tb (g * 3)) = ty_0 then none else if ty_meet y (tb (g * 3 + 1)) = ty_0 then none
            else ab_fin (tb (g * 3 + 2)) (ab_nv K A (bs_ch (rl_c K B) i 1) (tb (g * 3 + 1)) (ab_nv K A (bs_ch (rl_c K B) i 0) (tb (g * 3)) e)) := by
          unfold ab_cl2 ab_gd ab_arg; rw [fits, if_pos rfl, eg, cg]
        rw [em, if_neg (by decide), if_neg (by decide), cl2] at ho
        refine xc_c1 (j := 0) (m := 2) (fuel := 2) hB hk hi hg8 (by omega) (by omega) (by omega) ox (hT (g * 3)) he (hx (by omega)) (hs _ (by omega)) h0 h1 (fun z => ?_) (fun z P p0 p1 => ?_)
        · rw [if_pos z] at ho
          exact H0 ho a_params e he h0 h1
        · rw [if_neg z] at ho
          refine xc_c1 (j := 1) (m := 2) (fuel := 1) hB hk hi hg8 (by omega) (by omega) (by omega) oy (hT (g * 3 + 1)) (xa_nv_e (hT _) he) (hy (by omega)) (hs _ (by omega)) p0 p1 (fun z => ?_) (fun z P' p0' p1' => ?_)
          · rw [if_pos z] at ho
            exact H0 ho P _ (xa_nv_e (hT _) he) p0 p1
          · rw [if_neg z] at ho
            exact xc_c0 (m := 2) hg8 (fuel := 0) (hs _ (by omega)) (by omega) (H P' _ _ ⟨xa_nv_e (hT _) (xa_nv_e (hT _) he), hT _, ho.symm⟩ p0' p1')
    · refine br_f am (H0 (xc_nofit (fun z => am (by rw [← em, ← z.2, eg, cg])) ho) a_params e he h0 h1)
  · refine br_f s2 (H0 (xc_nofit (fun z => s2 (by rw [← z.1, eg, cg])) ho) a_params e he h0 h1)
/-- a leaf -/
theorem xc_pow : ∀ j, j < 8 → (1 : Int32) <<< (nI j &&& 31) = nI (2 ^ j) := by decide
theorem xa_jn_fin {o o' : ab_O} (h : ab_po k o) (h' : ab_po k o') : ab_fin (ty_join (xa_ty o) (xa_ty o')) (ty_join (xa_en o).1 (xa_en o').1, ty_join (xa_en o).2 (xa_en o').2) = ab_jn o o' := by
  cases o with
  | none =>
    cases o' with
    | none => exact ab_fin_dead (Or.inl (ty_join_0 ty_0))
    | some y =>
      obtain ⟨_, a, _, b, c⟩ := h' y rfl
      show ab_fin (ty_join ty_0 y.1) (ty_join ty_0 y.2.1, ty_join ty_0 y.2.2) = some y
      rw [ty_0_join, ty_0_join, ty_0_join]
      exact ab_fin_to a b c
  | some x =>
    obtain ⟨_, a, _, b, c⟩ := h x rfl
    cases o' with
    | none =>
      show ab_fin (ty_join x.1 ty_0) (ty_join x.2.1 ty_0, ty_join x.2.2 ty_0) = some x
      rw [ty_join_0, ty_join_0, ty_join_0]
      exact ab_fin_to a b c
    | some y => exact ab_fin_to (ty_le_ne (ty_join_l _ _) a) (ty_le_ne (ty_join_l _ _) b) (ty_le_ne (ty_join_l _ _) c)
end
end
section
section
variable {f_slotCount f_capacity f_nodesUsed f_buildingSlot f_pendingCount f_summariesCurrent f_callsActive f_callsMade f_runOutcome f_runValue : Int32} {a_slotStates a_slotArities a_slotStarts a_slotSizes a_kinds a_firstOperands a_secondOperands a_children a_parents a_depths a_pendingNodes a_summaries a_nextSummaries a_nodeTypes a_paramsAfter a_params a_values a_arguments a_frameSlots a_frameNodes : Nat → Int32} {N k n S : Nat} {K A B : Nat → Int32}
theorem xc_n_lf {Q : Int32 → St2 → Prop} (hB : rl_body N k n S K A B a_kinds a_firstOperands a_secondOperands a_children a_parents a_depths) (hk : k ≤ 2) {i : Nat} (hi : i < n) (h : K i = 0 ∨ K i = 1 ∨ K i = 2) {e : ab_E} (he : xa_e e)
    (h0 : a_params 0 = ty_x e.1) (h1 : a_params 1 = ty_x e.2) (H : ∀ (P : Nat → Int32) (r : ty_T) (e' : ab_E), xc_o r e' (ab_leaf K A i e) → P 0 = ty_x e'.1 → P 1 = ty_x e'.2 → Q (ty_x r) (f_slotCount, f_capacity, f_nodesUsed, f_buildingSlot, f_pendingCount, f_summariesCurrent, f_callsActive, f_callsMade, f_runOutcome, f_runValue, a_slotStates, a_slotArities, a_slotStarts, a_slotSizes, a_kinds, a_firstOperands, a_secondOperands, a_children, a_parents, a_depths, a_pendingNodes, a_summaries, a_nextSummaries, a_nodeTypes, a_paramsAfter, P, a_values, a_arguments, a_frameSlots, a_frameNodes)) : wpX_inferNode Q (f_slotCount, f_capacity, f_nodesUsed, f_buildingSlot, f_pendingCount, f_summariesCurrent, f_callsActive, f_callsMade, f_runOutcome, f_runValue, a_slotStates, a_slotArities, a_slotStarts, a_slotSizes, a_kinds, a_firstOperands, a_secondOperands, a_children, a_parents, a_depths, a_pendingNodes, a_summaries, a_nextSummaries, a_nodeTypes, a_paramsAfter, a_params, a_values, a_arguments, a_frameSlots, a_frameNodes) (nI (S + i)) := by
  obtain ⟨w, cl, rk, ra, rb⟩ := xc_row hB hi
  unfold wpX_inferNode
  dsimp only
  rw [cl, ra, rk]
  unfold ab_leaf at H
  rcases h with h | h | h
  · rw [if_pos h] at H
    obtain ⟨l1, l2⟩ := (hB.2.1.1 i hi).2.1 h
    rw [h]
    refine ⟨w, nm_e (br_f (by decide) (br_f (by decide) (br_t rfl ⟨w, w, ?_⟩)))⟩
    exact xt_range (Int.le_refl _) l2 l1 (H a_params _ e ⟨he, ty_r_ok (Int.le_refl _), rfl⟩ h0 h1)
  · rw [if_neg (by rw [h]; decide), if_pos h] at H
    obtain ⟨j, hj, ej⟩ := (hB.2.1.1 i hi).2.2.1 h
    rw [ej, nI_clamp (by omega)] at H
    rw [h, ej, xc_pow j hj]
    exact ⟨w, nm_e (br_f (by decide) (br_f (by decide) (br_f (by decide) (br_t rfl ⟨w, H a_params _ e ⟨he, ab_pow_ok hj, rfl⟩ h0 h1⟩))))⟩
  · rw [if_neg (by rw [h]; decide), if_neg (by rw [h]; decide)] at H
    obtain ⟨j, hj, ej⟩ := (hB.2.1.1 i hi).2.2.2.1 h
    rw [ej] at H
    have jj : j = 0 ∨ j = 1 := by omega
    rw [h, ej]
    rcases jj with rfl | rfl
    · rw [if_pos nI_0] at H
      rw [nI_clamp (by decide), h0]
      exact ⟨w, nm_e (br_f (by decide) (br_f (by decide) (br_f (by decide) (br_f (by decide) (br_t rfl ⟨w, vp_in_nI (by decide) (by decide), H a_params _ e ⟨he, he.1, rfl⟩ h0 h1⟩)))))⟩
    · rw [if_neg (by decide)] at H
      rw [nI_clamp (by decide), h1]
      exact ⟨w, nm_e (br_f (by decide) (br_f (by decide) (br_f (by decide) (br_f (by decide) (br_t rfl ⟨w, vp_in_nI (by decide) (by decide), H a_params _ e ⟨he, he.2, rfl⟩ h0 h1⟩)))))⟩
theorem xc_n_op {Q : Int32 → St2 → Prop} (hB : rl_body N k n S K A B a_kinds a_firstOperands a_secondOperands a_children a_parents a_depths) (hk : k ≤ 2) {i : Nat} (hi : i < n) (h : K i = 3 ∨ K i = 4 ∨ K i = 5 ∨ K i = 6) (hc : rl_c K B i = 2)
    {x y : ty_T} {e : ab_E} (ox : ty_ok x) (oy : ty_ok y) (he : xa_e e) (hx : a_nodeTypes (S + bs_ch (rl_c K B) i 0) = ty_x x) (hy : a_nodeTypes (S + bs_ch (rl_c K B) i 1) = ty_x y)
    (h0 : a_params 0 = ty_x e.1) (h1 : a_params 1 = ty_x e.2) (H : ∀ (P : Nat → Int32) (r : ty_T) (e' : ab_E), xc_o r e' (ab_opf K A (rl_c K B) i x y e) → P 0 = ty_x e'.1 → P 1 = ty_x e'.2 → Q (ty_x r) (f_slotCount, f_capacity, f_nodesUsed, f_buildingSlot, f_pendingCount, f_summariesCurrent, f_callsActive, f_callsMade, f_runOutcome, f_runValue, a_slotStates, a_slotArities, a_slotStarts, a_slotSizes, a_kinds, a_firstOperands, a_secondOperands, a_children, a_parents, a_depths, a_pendingNodes, a_summaries, a_nextSummaries, a_nodeTypes, a_paramsAfter, P, a_values, a_arguments, a_frameSlots, a_frameNodes)) : wpX_inferNode Q (f_slotCount, f_capacity, f_nodesUsed, f_buildingSlot, f_pendingCount, f_summariesCurrent, f_callsActive, f_callsMade, f_runOutcome, f_runValue, a_slotStates, a_slotArities, a_slotStarts, a_slotSizes, a_kinds, a_firstOperands, a_secondOperands, a_children, a_parents, a_depths, a_pendingNodes, a_summaries, a_nextSummaries, a_nodeTypes, a_paramsAfter, a_params, a_values, a_arguments, a_frameSlots, a_frameNodes) (nI (S + i)) := by
  obtain ⟨w, cl, rk, ra, rb⟩ := xc_row hB hi
  have num : (K i = 3 ∨ K i = 4 ∨ K i = 5) → wpX_inferNumeric Q (f_slotCount, f_capacity, f_nodesUsed, f_buildingSlot, f_pendingCount, f_summariesCurrent, f_callsActive, f_callsMade, f_runOutcome, f_runValue, a_slotStates, a_slotArities, a_slotStarts, a_slotSizes, a_kinds, a_firstOperands, a_secondOperands, a_children, a_parents, a_depths, a_pendingNodes, a_summaries, a_nextSummaries, a_nodeTypes, a_paramsAfter, a_params, a_values, a_arguments, a_frameSlots, a_frameNodes) (nI (S + i)) := by
    intro h
    have n6 : ¬ K i = 6 := by rcases h with h | h | h <;> rw [h] <;> decide
    unfold ab_opf at H
    rw [if_neg n6] at H
    refine xc_numeric hB hk hi h hc ox oy he hx hy h0 h1 (fun z => ?_) (fun z P p0 p1 => ?_)
    · rw [if_pos z] at H
      have := H a_params ty_0 e ⟨he, ty_0_ok, by unfold ab_fin; rw [if_pos (Or.inl rfl)]⟩ h0 h1
      rw [ty_x_00] at this
      exact this
    · rw [if_neg z] at H
      exact H P _ _ ⟨xa_nv_e ty_ints_ok (xa_nv_e ty_ints_ok he), ab_num_ok ox oy (fun q => z (Or.inl q)) (fun q => z (Or.inr q)), rfl⟩ p0 p1
  have num' : (K i = 3 ∨ K i = 4 ∨ K i = 5) → wX_inferNode_93 Q (nI (S + i)) f_slotCount f_capacity f_nodesUsed f_buildingSlot f_pendingCount f_summariesCurrent f_callsActive f_callsMade f_runOutcome f_runValue a_slotStates a_slotArities a_slotStarts a_slotSizes a_kinds a_firstOperands a_secondOperands a_children a_parents a_depths a_pendingNodes a_summaries a_nextSummaries a_nodeTypes a_paramsAfter a_params a_values a_arguments a_frameSlots a_frameNodes := fun h => num h
  unfold wpX_inferNode
  dsimp only
  rw [cl, rk]
  rcases h with h | h | h | h
  · have q := num' (Or.inl h)
    rw [h]
    exact ⟨w, nm_e (br_f (by decide) (br_f (by decide) (br_f (by decide) (br_f (by decide) (br_f (by decide) (br_t rfl q))))))⟩
  · have q := num' (Or.inr (Or.inl h))
    rw [h]
    exact ⟨w, nm_e (br_f (by decide) (br_f (by decide) (br_f (by decide) (br_f (by decide) (br_f (by decide) (br_f (by decide) (br_t rfl q)))))))⟩
  · have q := num' (Or.inr (Or.inr h))
    rw [h]
    exact ⟨w, nm_e (br_f (by decide) (br_f (by decide) (br_f (by decide) (br_f (by decide) (br_f (by decide) (br_f (by decide) (br_f (by decide) (br_t rfl q))))))))⟩
  · unfold ab_opf at H
    rw [if_pos h] at H
    rw [h]
    refine ⟨w, nm_e (br_f (by decide) (br_f (by decide) (br_f (by decide) (br_f (by decide) (br_f (by decide) (br_f (by decide) (br_f (by decide) (br_f (by decide) (br_t rfl ?_)))))))))⟩
    exact xc_equal hB hi hc ox oy hx hy (H a_params _ e ⟨he, ab_lit_ok (by split <;> decide), rfl⟩ h0 h1)
theorem xc_n_isi {Q : Int32 → St2 → Prop} (hB : rl_body N k n S K A B a_kinds a_firstOperands a_secondOperands a_children a_parents a_depths) {i : Nat} (hi : i < n) (h : K i = 7) (hc : rl_c K B i = 1)
    {x : ty_T} {e : ab_E} (ox : ty_ok x) (he : xa_e e) (hx : a_nodeTypes (S + bs_ch (rl_c K B) i 0) = ty_x x)
    (h0 : a_params 0 = ty_x e.1) (h1 : a_params 1 = ty_x e.2) (H : ∀ (P : Nat → Int32) (r : ty_T) (e' : ab_E), xc_o r e' (ab_fin ((if x.1 = 0 then 0 else 1) + (if x.2.1 = 0 then 0 else 2), 0, 0) e) → P 0 = ty_x e'.1 → P 1 = ty_x e'.2 → Q (ty_x r) (f_slotCount, f_capacity, f_nodesUsed, f_buildingSlot, f_pendingCount, f_summariesCurrent, f_callsActive, f_callsMade, f_runOutcome, f_runValue, a_slotStates, a_slotArities, a_slotStarts, a_slotSizes, a_kinds, a_firstOperands, a_secondOperands, a_children, a_parents, a_depths, a_pendingNodes, a_summaries, a_nextSummaries, a_nodeTypes, a_paramsAfter, P, a_values, a_arguments, a_frameSlots, a_frameNodes)) : wpX_inferNode Q (f_slotCount, f_capacity, f_nodesUsed, f_buildingSlot, f_pendingCount, f_summariesCurrent, f_callsActive, f_callsMade, f_runOutcome, f_runValue, a_slotStates, a_slotArities, a_slotStarts, a_slotSizes, a_kinds, a_firstOperands, a_secondOperands, a_children, a_parents, a_depths, a_pendingNodes, a_summaries, a_nextSummaries, a_nodeTypes, a_paramsAfter, a_params, a_values, a_arguments, a_frameSlots, a_frameNodes) (nI (S + i)) := by
  obtain ⟨w, cl, rk, ra, rb⟩ := xc_row hB hi
  unfold wpX_inferNode
  dsimp only
  rw [cl, rk, h]
  refine ⟨w, nm_e (br_f (by decide) (br_f (by decide) (br_f (by decide) (br_f (by decide) (br_f (by decide) (br_f (by decide) (br_f (by decide) (br_f (by decide) (br_f (by decide) (br_t rfl ?_))))))))))⟩
  exact xc_isint hB hi hc ox hx (H a_params _ e ⟨he, ab_lit_ok (by split <;> split <;> decide), rfl⟩ h0 h1)
theorem xc_n_if {Q : Int32 → St2 → Prop} (hB : rl_body N k n S K A B a_kinds a_firstOperands a_secondOperands a_children a_parents a_depths) {i : Nat} (hi : i < n) (h : K i = 8) (hc : rl_c K B i = 3)
    {o o' : ab_O} (po : ab_po k o) (po' : ab_po k o')
    (hx : a_nodeTypes (S + bs_ch (rl_c K B) i 1) = ty_x (xa_ty o)) (hy : a_nodeTypes (S + bs_ch (rl_c K B) i 2) = ty_x (xa_ty o'))
    (e0 : a_paramsAfter ((S + bs_ch (rl_c K B) i 1) * 2) = ty_x (xa_en o).1) (e1 : a_paramsAfter ((S + bs_ch (rl_c K B) i 1) * 2 + 1) = ty_x (xa_en o).2)
    (f0 : a_paramsAfter ((S + bs_ch (rl_c K B) i 2) * 2) = ty_x (xa_en o').1) (f1 : a_paramsAfter ((S + bs_ch (rl_c K B) i 2) * 2 + 1) = ty_x (xa_en o').2)
    (H : ∀ (P : Nat → Int32) (r : ty_T) (e' : ab_E), xc_o r e' (ab_jn o o') → P 0 = ty_x e'.1 → P 1 = ty_x e'.2 → Q (ty_x r) (f_slotCount, f_capacity, f_nodesUsed, f_buildingSlot, f_pendingCount, f_summariesCurrent, f_callsActive, f_callsMade, f_runOutcome, f_runValue, a_slotStates, a_slotArities, a_slotStarts, a_slotSizes, a_kinds, a_firstOperands, a_secondOperands, a_children, a_parents, a_depths, a_pendingNodes, a_summaries, a_nextSummaries, a_nodeTypes, a_paramsAfter, P, a_values, a_arguments, a_frameSlots, a_frameNodes)) : wpX_inferNode Q (f_slotCount, f_capacity, f_nodesUsed, f_buildingSlot, f_pendingCount, f_summariesCurrent, f_callsActive, f_callsMade, f_runOutcome, f_runValue, a_slotStates, a_slotArities, a_slotStarts, a_slotSizes, a_kinds, a_firstOperands, a_secondOperands, a_children, a_parents, a_depths, a_pendingNodes, a_summaries, a_nextSummaries, a_nodeTypes, a_paramsAfter, a_params, a_values, a_arguments, a_frameSlots, a_frameNodes) (nI (S + i)) := by
  obtain ⟨w, cl, rk, ra, rb⟩ := xc_row hB hi
  have q := xa_eo_e (xa_en_eo po)
  have q' := xa_eo_e (xa_en_eo po')
  unfold wpX_inferNode
  dsimp only
  rw [cl, rk, h]
  refine ⟨w, nm_e (br_f (by decide) (br_f (by decide) (br_f (by decide) (br_f (by decide) (br_f (by decide) (br_f (by decide) (br_f (by decide) (br_f (by decide) (br_f (by decide) (br_f (by decide) (br_t rfl ?_)))))))))))⟩
  exact xc_if hB hi hc (xa_ty_ok po) (xa_ty_ok po') q q' hx hy e0 e1 f0 f1 (fun P p0 p1 => H P _ (_, _) ⟨⟨ty_join_ok q.1 q'.1, ty_join_ok q.2 q'.2⟩, ty_join_ok (xa_ty_ok po) (xa_ty_ok po'), xa_jn_fin po po'⟩ p0 p1)
theorem xc_n_call {Q : Int32 → St2 → Prop} {tb : Nat → ty_T} (hB : rl_body N k n S K A B a_kinds a_firstOperands a_secondOperands a_children a_parents a_depths) (hk : k ≤ 2) (hN : N ≤ 8) {i : Nat} (hi : i < n) (h9 : K i = 9)
    {x y : ty_T} {e : ab_E} (ox : ty_ok x) (oy : ty_ok y) (he : xa_e e) (hT : ∀ q, ty_ok (tb q)) (hs : ∀ q, q < 24 → a_summaries q = ty_x (tb q)) (h0 : a_params 0 = ty_x e.1) (h1 : a_params 1 = ty_x e.2)
    (hx : 1 ≤ rl_c K B i → a_nodeTypes (S + bs_ch (rl_c K B) i 0) = ty_x x) (hy : 2 ≤ rl_c K B i → a_nodeTypes (S + bs_ch (rl_c K B) i 1) = ty_x y) {o : ab_O}
    (ho : o = if B i = 0 then ab_cl0 A B a_slotStates a_slotArities tb i e else if B i = 1 then ab_cl1 K A B a_slotStates a_slotArities (rl_c K B) tb i x e else ab_cl2 K A B a_slotStates a_slotArities (rl_c K B) tb i x y e)
    (H : ∀ (P : Nat → Int32) (r : ty_T) (e' : ab_E), xc_o r e' o → P 0 = ty_x e'.1 → P 1 = ty_x e'.2 → Q (ty_x r) (f_slotCount, f_capacity, f_nodesUsed, f_buildingSlot, f_pendingCount, f_summariesCurrent, f_callsActive, f_callsMade, f_runOutcome, f_runValue, a_slotStates, a_slotArities, a_slotStarts, a_slotSizes, a_kinds, a_firstOperands, a_secondOperands, a_children, a_parents, a_depths, a_pendingNodes, a_summaries, a_nextSummaries, a_nodeTypes, a_paramsAfter, P, a_values, a_arguments, a_frameSlots, a_frameNodes)) : wpX_inferNode Q (f_slotCount, f_capacity, f_nodesUsed, f_buildingSlot, f_pendingCount, f_summariesCurrent, f_callsActive, f_callsMade, f_runOutcome, f_runValue, a_slotStates, a_slotArities, a_slotStarts, a_slotSizes, a_kinds, a_firstOperands, a_secondOperands, a_children, a_parents, a_depths, a_pendingNodes, a_summaries, a_nextSummaries, a_nodeTypes, a_paramsAfter, a_params, a_values, a_arguments, a_frameSlots, a_frameNodes) (nI (S + i)) := by
  obtain ⟨w, cl, rk, ra, rb⟩ := xc_row hB hi
  unfold wpX_inferNode
  dsimp only
  rw [cl, rk, h9]
  refine ⟨w, nm_e (br_f (by decide) (br_t (by decide) ?_))⟩
  exact xc_call hB hk hN hi h9 ox oy he hT hs h0 h1 hx hy ho H
theorem xc_k60 {Q : St2 → Prop} {r : Nat} (hr : r < 128) {z : Int32} (H : Q (f_slotCount, f_capacity, f_nodesUsed, f_buildingSlot, f_pendingCount, f_summariesCurrent, f_callsActive, f_callsMade, f_runOutcome, f_runValue, a_slotStates, a_slotArities, a_slotStarts, a_slotSizes, a_kinds, a_firstOperands, a_secondOperands, a_children, a_parents, a_depths, a_pendingNodes, a_summaries, a_nextSummaries, upd a_nodeTypes r z, upd (upd a_paramsAfter (r * 2) (a_params 0)) (r * 2 + 1) (a_params 1), a_params, a_values, a_arguments, a_frameSlots, a_frameNodes)) : wX_keepOutcome_60 Q (nI r) z (nI r) f_slotCount f_capacity f_nodesUsed f_buildingSlot f_pendingCount f_summariesCurrent f_callsActive f_callsMade f_runOutcome f_runValue a_slotStates a_slotArities a_slotStarts a_slotSizes a_kinds a_firstOperands a_secondOperands a_children a_parents a_depths a_pendingNodes a_summaries a_nextSummaries a_nodeTypes a_paramsAfter a_params a_values a_arguments a_frameSlots a_frameNodes := by
  unfold wX_keepOutcome_60
  rw [xc_21, xc_2, nI_clamp (n := r) (by omega), nI_clamp (n := r * 2) (by omega), nI_clamp (n := r * 2 + 1) (by omega)]
  exact ⟨vp_in_nI hr (by omega), nm_e ⟨vp_in_nI (by omega) (by omega), nm_e ⟨vp_in_nI (by omega) (by omega), nm_e H⟩⟩⟩
theorem xc_k22 {Q : St2 → Prop} {r : Nat} (hr : r < 128) {z : Int32} (H : ∀ P : Nat → Int32, P 0 = 0 → P 1 = 0 → Q (f_slotCount, f_capacity, f_nodesUsed, f_buildingSlot, f_pendingCount, f_summariesCurrent, f_callsActive, f_callsMade, f_runOutcome, f_runValue, a_slotStates, a_slotArities, a_slotStarts, a_slotSizes, a_kinds, a_firstOperands, a_secondOperands, a_children, a_parents, a_depths, a_pendingNodes, a_summaries, a_nextSummaries, upd a_nodeTypes r 0, upd (upd a_paramsAfter (r * 2) 0) (r * 2 + 1) 0, P, a_values, a_arguments, a_frameSlots, a_frameNodes)) : wX_keepOutcome_22 Q (nI r) z f_slotCount f_capacity f_nodesUsed f_buildingSlot f_pendingCount f_summariesCurrent f_callsActive f_callsMade f_runOutcome f_runValue a_slotStates a_slotArities a_slotStarts a_slotSizes a_kinds a_firstOperands a_secondOperands a_children a_parents a_depths a_pendingNodes a_summaries a_nextSummaries a_nodeTypes a_paramsAfter a_params a_values a_arguments a_frameSlots a_frameNodes := by
  unfold wX_keepOutcome_22 wX_keepOutcome_27
  refine br_f (by decide) (nm_e (nm_e ?_))
  unfold wX_keepOutcome_46
  refine br_f (by decide) (xc_k60 hr ?_)
  rw [pk_us, pk_un (by decide), pk_us]
  exact H _ (by rw [pk_un (by decide), pk_us]) pk_us
theorem xc_keep {Q : St2 → Prop} {r : Nat} (hr : r < 128) {t : ty_T} {e : ab_E} {o : ab_O} (ho : xc_o t e o) (h0 : a_params 0 = ty_x e.1) (h1 : a_params 1 = ty_x e.2)
    (H : ∀ P : Nat → Int32, P 0 = ty_x (xa_en o).1 → P 1 = ty_x (xa_en o).2 → Q (f_slotCount, f_capacity, f_nodesUsed, f_buildingSlot, f_pendingCount, f_summariesCurrent, f_callsActive, f_callsMade, f_runOutcome, f_runValue, a_slotStates, a_slotArities, a_slotStarts, a_slotSizes, a_kinds, a_firstOperands, a_secondOperands, a_children, a_parents, a_depths, a_pendingNodes, a_summaries, a_nextSummaries, upd a_nodeTypes r (ty_x (xa_ty o)), upd (upd a_paramsAfter (r * 2) (ty_x (xa_en o).1)) (r * 2 + 1) (ty_x (xa_en o).2), P, a_values, a_arguments, a_frameSlots, a_frameNodes)) : wpX_keepOutcome Q (f_slotCount, f_capacity, f_nodesUsed, f_buildingSlot, f_pendingCount, f_summariesCurrent, f_callsActive, f_callsMade, f_runOutcome, f_runValue, a_slotStates, a_slotArities, a_slotStarts, a_slotSizes, a_kinds, a_firstOperands, a_secondOperands, a_children, a_parents, a_depths, a_pendingNodes, a_summaries, a_nextSummaries, a_nodeTypes, a_paramsAfter, a_params, a_values, a_arguments, a_frameSlots, a_frameNodes) (nI r) (ty_x t) := by
  obtain ⟨he, ht, ho⟩ := ho
  have bot : o = none → wX_keepOutcome_22 Q (nI r) (ty_x t) f_slotCount f_capacity f_nodesUsed f_buildingSlot f_pendingCount f_summariesCurrent f_callsActive f_callsMade f_runOutcome f_runValue a_slotStates a_slotArities a_slotStarts a_slotSizes a_kinds a_firstOperands a_secondOperands a_children a_parents a_depths a_pendingNodes a_summaries a_nextSummaries a_nodeTypes a_paramsAfter a_params a_values a_arguments a_frameSlots a_frameNodes := fun on => by
    rw [on] at H
    refine xc_k22 hr fun P p0 p1 => ?_
    exact H P (by rw [p0]; exact ty_x_00.symm) (by rw [p1]; exact ty_x_00.symm)
  unfold wpX_keepOutcome
  dsimp only
  rw [h0, h1]
  by_cases a : t = ty_0
  · exact br_t ((ty_x_0 ht).mpr a) (bot (by rw [← ho]; unfold ab_fin; rw [if_pos (Or.inl a)]))
  · refine br_f (fun z => a ((ty_x_0 ht).mp z)) ?_
    by_cases b : e.1 = ty_0
    · exact br_t ((ty_x_0 he.1).mpr b) (bot (by rw [← ho]; unfold ab_fin; rw [if_pos (Or.inr (Or.inl b))]))
    · refine br_f (fun z => b ((ty_x_0 he.1).mp z)) ?_
      by_cases c : e.2 = ty_0
      · exact br_t ((ty_x_0 he.2).mpr c) (bot (by rw [← ho]; unfold ab_fin; rw [if_pos (Or.inr (Or.inr c))]))
      · refine br_f (fun z => c ((ty_x_0 he.2).mp z)) ?_
        rw [ab_fin_to a b c] at ho
        subst ho
        unfold wX_keepOutcome_27
        refine br_t rfl ?_
        unfold wX_keepOutcome_46
        refine br_t rfl (xc_k60 hr ?_)
        rw [h0, h1]
        exact H a_params h0 h1
theorem xc_cond {Q : Int32 → Prop} (hB : rl_body N k n S K A B a_kinds a_firstOperands a_secondOperands a_children a_parents a_depths) {i j : Nat} (hi : i < n) (hj : j < rl_c K B i)
    (H1 : K i = 8 → j = 0 → Q 1) (H0 : ¬ (K i = 8 ∧ j = 0) → Q 0) : wpX_isCondition Q (f_slotCount, f_capacity, f_nodesUsed, f_buildingSlot, f_pendingCount, f_summariesCurrent, f_callsActive, f_callsMade, f_runOutcome, f_runValue, a_slotStates, a_slotArities, a_slotStarts, a_slotSizes, a_kinds, a_firstOperands, a_secondOperands, a_children, a_parents, a_depths, a_pendingNodes, a_summaries, a_nextSummaries, a_nodeTypes, a_paramsAfter, a_params, a_values, a_arguments, a_frameSlots, a_frameNodes) (nI (S + bs_ch (rl_c K B) i j)) := by
  obtain ⟨w, cl, rk, _⟩ := xc_row hB hi
  obtain ⟨w0, cl0, r0, l0⟩ := xc_child hB hi (j := 0) (by omega)
  obtain ⟨_, _, _, lj⟩ := xc_child hB hi hj
  obtain ⟨wj, clj, _⟩ := xc_row hB lj
  obtain ⟨_, _, _, r4, _⟩ := hB.2.2 i hi
  have hS := hB.1
  rw [Nat.add_zero] at w0 cl0 r0
  unfold wpX_isCondition
  dsimp only
  rw [clj, (r4 j hj).2]
  refine ⟨wj, nm_e (br_f ?_ ⟨w, ?_⟩)⟩
  · intro z
    have := nI_pos' (n := S + i) (by omega)
    rw [z] at this
    exact absurd this (by decide)
  · rw [cl, rk, xc_3, cl0, r0]
    by_cases h8 : K i = 8
    · refine br_t h8 ⟨w0, ?_⟩
      by_cases j0 : j = 0
      · subst j0; exact br_t rfl (H1 h8 rfl)
      · have lt := bs_ch_ne hB.2.1.2.2 hi hj (show 0 < j by omega)
        exact br_f (fun z => by rw [nI_eq (by omega) (by omega)] at z; omega) (H0 fun z => j0 z.2)
    · exact br_f h8 (H0 fun z => h8 z.1)
theorem xc_then {Q : Int32 → Prop} (hB : rl_body N k n S K A B a_kinds a_firstOperands a_secondOperands a_children a_parents a_depths) {i j : Nat} (hi : i < n) (hj : j < rl_c K B i)
    (H1 : K i = 8 → j = 1 → Q 1) (H0 : ¬ (K i = 8 ∧ j = 1) → Q 0) : wpX_isThenBranch Q (f_slotCount, f_capacity, f_nodesUsed, f_buildingSlot, f_pendingCount, f_summariesCurrent, f_callsActive, f_callsMade, f_runOutcome, f_runValue, a_slotStates, a_slotArities, a_slotStarts, a_slotSizes, a_kinds, a_firstOperands, a_secondOperands, a_children, a_parents, a_depths, a_pendingNodes, a_summaries, a_nextSummaries, a_nodeTypes, a_paramsAfter, a_params, a_values, a_arguments, a_frameSlots, a_frameNodes) (nI (S + bs_ch (rl_c K B) i j)) := by
  obtain ⟨w, cl, rk, _⟩ := xc_row hB hi
  obtain ⟨_, _, _, lj⟩ := xc_child hB hi hj
  obtain ⟨wj, clj, _⟩ := xc_row hB lj
  obtain ⟨_, _, _, r4, _⟩ := hB.2.2 i hi
  have hS := hB.1
  unfold wpX_isThenBranch
  dsimp only
  rw [clj, (r4 j hj).2]
  refine ⟨wj, nm_e (br_f ?_ ⟨w, ?_⟩)⟩
  · intro z
    have := nI_pos' (n := S + i) (by omega)
    rw [z] at this
    exact absurd this (by decide)
  · rw [cl, rk]
    by_cases h8 : K i = 8
    · have c3 := ab_c8 hB.2.1 h8
      obtain ⟨w1, cl1, r1, l1⟩ := xc_child hB hi (j := 1) (by omega)
      rw [xc_31, cl1, r1]
      refine br_t h8 ⟨w1, ?_⟩
      by_cases j1 : j = 1
      · subst j1; exact br_t rfl (H1 h8 rfl)
      · refine br_f (fun z => ?_) (H0 fun z => j1 z.2)
        rw [nI_eq (by omega) (by omega)] at z
        by_cases j0 : j = 0
        · have lt := bs_ch_ne hB.2.1.2.2 hi (k := 1) (j := j) (by omega) (by omega)
          omega
        · have lt := bs_ch_ne hB.2.1.2.2 hi hj (show 1 < j by omega)
          omega
    · exact br_f h8 (H0 fun z => h8 z.1)
theorem xc_enter {Q : St2 → Prop} (hB : rl_body N k n S K A B a_kinds a_firstOperands a_secondOperands a_children a_parents a_depths) (hk : k ≤ 2) {i : Nat} (hi : i < n) (h8 : K i = 8) {x t : ty_T} {e : ab_E} {β : Bool} {b : Int32} (ot : ty_ok t) (he : xa_e e)
    (hb : ty_x x &&& b = 0 ↔ ¬ β = true) (hx : a_nodeTypes (S + bs_ch (rl_c K B) i 0) = ty_x x) (e0 : a_paramsAfter ((S + bs_ch (rl_c K B) i 0) * 2) = ty_x e.1) (e1 : a_paramsAfter ((S + bs_ch (rl_c K B) i 0) * 2 + 1) = ty_x e.2)
    (H : ∀ P : Nat → Int32, P 0 = ty_x (xa_br β (ab_th K A (rl_c K B) i t e)).1 → P 1 = ty_x (xa_br β (ab_th K A (rl_c K B) i t e)).2 → Q (f_slotCount, f_capacity, f_nodesUsed, f_buildingSlot, f_pendingCount, f_summariesCurrent, f_callsActive, f_callsMade, f_runOutcome, f_runValue, a_slotStates, a_slotArities, a_slotStarts, a_slotSizes, a_kinds, a_firstOperands, a_secondOperands, a_children, a_parents, a_depths, a_pendingNodes, a_summaries, a_nextSummaries, a_nodeTypes, a_paramsAfter, P, a_values, a_arguments, a_frameSlots, a_frameNodes)) : wpX_enterBranch Q (f_slotCount, f_capacity, f_nodesUsed, f_buildingSlot, f_pendingCount, f_summariesCurrent, f_callsActive, f_callsMade, f_runOutcome, f_runValue, a_slotStates, a_slotArities, a_slotStarts, a_slotSizes, a_kinds, a_firstOperands, a_secondOperands, a_children, a_parents, a_depths, a_pendingNodes, a_summaries, a_nextSummaries, a_nodeTypes, a_paramsAfter, a_params, a_values, a_arguments, a_frameSlots, a_frameNodes) (nI (S + bs_ch (rl_c K B) i 0)) b (ty_x t) := by
  have c3 := ab_c8 hB.2.1 h8
  obtain ⟨_, _, _, l0⟩ := xc_child hB hi (j := 0) (by omega)
  obtain ⟨w, cl, rk, _⟩ := xc_row hB l0
  have hS := hB.1
  have fin : ∀ (P : Nat → Int32) (E : ab_E), E = ab_th K A (rl_c K B) i t e → P 0 = ty_x E.1 → P 1 = ty_x E.2 → wX_enterBranch_60 Q (nI (S + bs_ch (rl_c K B) i 0)) b f_slotCount f_capacity f_nodesUsed f_buildingSlot f_pendingCount f_summariesCurrent f_callsActive f_callsMade f_runOutcome f_runValue a_slotStates a_slotArities a_slotStarts a_slotSizes a_kinds a_firstOperands a_secondOperands a_children a_parents a_depths a_pendingNodes a_summaries a_nextSummaries a_nodeTypes a_paramsAfter P a_values a_arguments a_frameSlots a_frameNodes := by
    intro P E eE p0 p1
    unfold wX_enterBranch_60
    rw [cl, hx]
    refine ⟨w, ?_⟩
    rw [← eE] at H
    unfold xa_br at H
    by_cases q : β = true
    · rw [if_pos q] at H
      exact br_f (fun z => hb.mp z q) (H P p0 p1)
    · rw [if_neg q] at H
      exact br_t (hb.mpr q) (nm_e (H _ (by rw [pk_us]; exact ty_x_00.symm) (by rw [pk_un (by decide)]; exact p1)))
  unfold wpX_enterBranch
  dsimp only
  rw [xc_21, xc_2, xc_3, nI_clamp (n := (S + bs_ch (rl_c K B) i 0) * 2) (by omega), nI_clamp (n := (S + bs_ch (rl_c K B) i 0) * 2 + 1) (by omega), e0, e1, xc_bool]
  refine ⟨vp_in_nI (by omega) (by omega), nm_e ⟨vp_in_nI (by omega) (by omega), nm_e ?_⟩⟩
  refine xc_nv hB hk l0 ty_bool_ok he (by rw [pk_un (by decide), pk_us]) pk_us fun P p0 p1 => ?_
  dsimp only
  rw [cl, rk]
  refine ⟨w, ?_⟩
  by_cases h7 : K (bs_ch (rl_c K B) i 0) = 7
  · have c1 := ab_c7 hB.2.1 h7
    obtain ⟨w1, cl1, r1, l1⟩ := xc_child hB l0 (j := 0) (by omega)
    rw [Nat.add_zero] at w1 cl1 r1
    rw [cl1, r1]
    refine br_t h7 ⟨w1, ?_⟩
    refine xc_nv hB hk l1 ot (xa_nv_e ty_bool_ok he) p0 p1 fun P' p0' p1' => fin P' _ ?_ p0' p1'
    unfold ab_th; rw [if_pos h7]
  · refine br_f h7 (fin P _ ?_ p0 p1)
    unfold ab_th; rw [if_neg h7]
end
end
section
def xs_z (a b c : Nat → Int32) : Nat → Nat → Int32 := fun q => match q with
  | 0 => a
  | 1 => b
  | _ => c
def xs_k (post : St2 → Prop) (x1 x2 : Int32) (E fuel r : Nat) : St2 → Prop := fun u => match u with
  | (f_slotCount, f_capacity, f_nodesUsed, f_buildingSlot, f_pendingCount, f_summariesCurrent, f_callsActive, f_callsMade, f_runOutcome, f_runValue, a_slotStates, a_slotArities, a_slotStarts, a_slotSizes, a_kinds, a_firstOperands, a_secondOperands, a_children, a_parents, a_depths, a_pendingNodes, a_summaries, a_nextSummaries, a_nodeTypes, a_paramsAfter, a_params, a_values, a_arguments, a_frameSlots, a_frameNodes) => ∀ x4 : Int32, x4 = nI r + 1 → wX_inferSlot_80 post x1 x2 (nI E) fuel x4 f_slotCount f_capacity f_nodesUsed f_buildingSlot f_pendingCount f_summariesCurrent f_callsActive f_callsMade f_runOutcome f_runValue a_slotStates a_slotArities a_slotStarts a_slotSizes a_kinds a_firstOperands a_secondOperands a_children a_parents a_depths a_pendingNodes a_summaries a_nextSummaries a_nodeTypes a_paramsAfter a_params a_values a_arguments a_frameSlots a_frameNodes
def xs_A (post : St2 → Prop) (x1 x2 : Int32) (E : Nat) (f_slotCount f_capacity f_nodesUsed f_buildingSlot f_pendingCount f_summariesCurrent f_callsActive f_callsMade f_runOutcome f_runValue : Int32) (a_slotStates a_slotArities a_slotStarts a_slotSizes a_kinds a_firstOperands a_secondOperands a_children a_parents a_depths a_pendingNodes a_summaries a_nextSummaries a_nodeTypes a_paramsAfter a_params a_values a_arguments a_frameSlots a_frameNodes : Nat → Int32) (r : Nat) (Z : Nat → Nat → Int32) : Prop :=
  ∀ fuel, E < r + fuel → wX_inferSlot_80 post x1 x2 (nI E) fuel (nI r) f_slotCount f_capacity f_nodesUsed f_buildingSlot f_pendingCount f_summariesCurrent f_callsActive f_callsMade f_runOutcome f_runValue a_slotStates a_slotArities a_slotStarts a_slotSizes a_kinds a_firstOperands a_secondOperands a_children a_parents a_depths a_pendingNodes a_summaries a_nextSummaries (Z 0) (Z 1) (Z 2) a_values a_arguments a_frameSlots a_frameNodes
def xs_T (post : St2 → Prop) (x1 x2 : Int32) (E : Nat) (f_slotCount f_capacity f_nodesUsed f_buildingSlot f_pendingCount f_summariesCurrent f_callsActive f_callsMade f_runOutcome f_runValue : Int32) (a_slotStates a_slotArities a_slotStarts a_slotSizes a_kinds a_firstOperands a_secondOperands a_children a_parents a_depths a_pendingNodes a_summaries a_nextSummaries a_nodeTypes a_paramsAfter a_params a_values a_arguments a_frameSlots a_frameNodes : Nat → Int32) (r : Nat) (Z : Nat → Nat → Int32) : Prop :=
  ∀ fuel, E < r + 1 + fuel → wpX_turnAtBranch (xs_k post x1 x2 E fuel r) (f_slotCount, f_capacity, f_nodesUsed, f_buildingSlot, f_pendingCount, f_summariesCurrent, f_callsActive, f_callsMade, f_runOutcome, f_runValue, a_slotStates, a_slotArities, a_slotStarts, a_slotSizes, a_kinds, a_firstOperands, a_secondOperands, a_children, a_parents, a_depths, a_pendingNodes, a_summaries, a_nextSummaries, Z 0, Z 1, Z 2, a_values, a_arguments, a_frameSlots, a_frameNodes) (nI r)
section
variable {f_slotCount f_capacity f_nodesUsed f_buildingSlot f_pendingCount f_summariesCurrent f_callsActive f_callsMade f_runOutcome f_runValue : Int32} {a_slotStates a_slotArities a_slotStarts a_slotSizes a_kinds a_firstOperands a_secondOperands a_children a_parents a_depths a_pendingNodes a_summaries a_nextSummaries a_nodeTypes a_paramsAfter a_params a_values a_arguments a_frameSlots a_frameNodes : Nat → Int32} {N k n S : Nat} {K A B : Nat → Int32} {post : St2 → Prop} {x1 x2 : Int32}
theorem xs_go {E i fuel : Nat} {Z : Nat → Nat → Int32} {P : Nat → Int32} {r : ty_T} {e : ab_E} {o : ab_O} (hr : S + i < 128) (c : xa_c S (xs_T post x1 x2 E f_slotCount f_capacity f_nodesUsed f_buildingSlot f_pendingCount f_summariesCurrent f_callsActive f_callsMade f_runOutcome f_runValue a_slotStates a_slotArities a_slotStarts a_slotSizes a_kinds a_firstOperands a_secondOperands a_children a_parents a_depths a_pendingNodes a_summaries a_nextSummaries a_nodeTypes a_paramsAfter a_params a_values a_arguments a_frameSlots a_frameNodes) Z i o) (ho : xc_o r e o) (p0 : P 0 = ty_x e.1) (p1 : P 1 = ty_x e.2) (hf : E < S + i + 1 + fuel) :
    wpX_keepOutcome (fun u => match u with | (f_slotCount, f_capacity, f_nodesUsed, f_buildingSlot, f_pendingCount, f_summariesCurrent, f_callsActive, f_callsMade, f_runOutcome, f_runValue, a_slotStates, a_slotArities, a_slotStarts, a_slotSizes, a_kinds, a_firstOperands, a_secondOperands, a_children, a_parents, a_depths, a_pendingNodes, a_summaries, a_nextSummaries, a_nodeTypes, a_paramsAfter, a_params, a_values, a_arguments, a_frameSlots, a_frameNodes) => wpX_turnAtBranch (xs_k post x1 x2 E fuel (S + i)) (f_slotCount, f_capacity, f_nodesUsed, f_buildingSlot, f_pendingCount, f_summariesCurrent, f_callsActive, f_callsMade, f_runOutcome, f_runValue, a_slotStates, a_slotArities, a_slotStarts, a_slotSizes, a_kinds, a_firstOperands, a_secondOperands, a_children, a_parents, a_depths, a_pendingNodes, a_summaries, a_nextSummaries, a_nodeTypes, a_paramsAfter, a_params, a_values, a_arguments, a_frameSlots, a_frameNodes) (nI (S + i))) (f_slotCount, f_capacity, f_nodesUsed, f_buildingSlot, f_pendingCount, f_summariesCurrent, f_callsActive, f_callsMade, f_runOutcome, f_runValue, a_slotStates, a_slotArities, a_slotStarts, a_slotSizes, a_kinds, a_firstOperands, a_secondOperands, a_children, a_parents, a_depths, a_pendingNodes, a_summaries, a_nextSummaries, Z 0, Z 1, P, a_values, a_arguments, a_frameSlots, a_frameNodes) (nI (S + i)) (ty_x r) := by
  refine xc_keep hr ho p0 p1 fun P' q0 q1 => ?_
  refine c (xs_z (upd (Z 0) (S + i) (ty_x (xa_ty o))) (upd (upd (Z 1) ((S + i) * 2) (ty_x (xa_en o).1)) ((S + i) * 2 + 1) (ty_x (xa_en o).2)) P') ⟨fun j hj => ?_, fun j hj => ?_⟩ ⟨?_, ?_, ?_⟩ ⟨q0, q1⟩ fuel hf
  · exact pk_un (by omega)
  · show upd (upd (Z 1) _ _) _ _ j = Z 1 j
    rw [pk_un (by omega), pk_un (by omega)]
  · exact pk_us
  · show upd (upd (Z 1) _ _) _ _ _ = _
    rw [pk_un (by omega), pk_us]
  · exact pk_us
theorem xs_X1 (hB : rl_body N k n S K A B a_kinds a_firstOperands a_secondOperands a_children a_parents a_depths) (hk : k ≤ 2) : xa_X1 n S K A (xs_A post x1 x2 (S + n) f_slotCount f_capacity f_nodesUsed f_buildingSlot f_pendingCount f_summariesCurrent f_callsActive f_callsMade f_runOutcome f_runValue a_slotStates a_slotArities a_slotStarts a_slotSizes a_kinds a_firstOperands a_secondOperands a_children a_parents a_depths a_pendingNodes a_summaries a_nextSummaries a_nodeTypes a_paramsAfter a_params a_values a_arguments a_frameSlots a_frameNodes) (xs_T post x1 x2 (S + n) f_slotCount f_capacity f_nodesUsed f_buildingSlot f_pendingCount f_summariesCurrent f_callsActive f_callsMade f_runOutcome f_runValue a_slotStates a_slotArities a_slotStarts a_slotSizes a_kinds a_firstOperands a_secondOperands a_children a_parents a_depths a_pendingNodes a_summaries a_nextSummaries a_nodeTypes a_paramsAfter a_params a_values a_arguments a_frameSlots a_frameNodes) := by
  intro i e Z hi h he cu c fuel hf
  have hS := hB.1
  obtain ⟨fuel, rfl⟩ : ∃ m, fuel = m + 1 := ⟨fuel - 1, by omega⟩
  refine br_f (nI_ge (by omega) (by omega)) ?_
  exact xc_n_lf hB hk hi h he cu.1 cu.2 fun P r e' ho p0 p1 => xs_go (by omega) c ho p0 p1 (by omega)
theorem xs_X2 (hB : rl_body N k n S K A B a_kinds a_firstOperands a_secondOperands a_children a_parents a_depths) (hk : k ≤ 2) : xa_X2 n S K A (rl_c K B) (xs_A post x1 x2 (S + n) f_slotCount f_capacity f_nodesUsed f_buildingSlot f_pendingCount f_summariesCurrent f_callsActive f_callsMade f_runOutcome f_runValue a_slotStates a_slotArities a_slotStarts a_slotSizes a_kinds a_firstOperands a_secondOperands a_children a_parents a_depths a_pendingNodes a_summaries a_nextSummaries a_nodeTypes a_paramsAfter a_params a_values a_arguments a_frameSlots a_frameNodes) (xs_T post x1 x2 (S + n) f_slotCount f_capacity f_nodesUsed f_buildingSlot f_pendingCount f_summariesCurrent f_callsActive f_callsMade f_runOutcome f_runValue a_slotStates a_slotArities a_slotStarts a_slotSizes a_kinds a_firstOperands a_secondOperands a_children a_parents a_depths a_pendingNodes a_summaries a_nextSummaries a_nodeTypes a_paramsAfter a_params a_values a_arguments a_frameSlots a_frameNodes) := by
  intro i x y e Z hi h ox oy he cu hx hy c fuel hf
  have hS := hB.1
  have hc : rl_c K B i = 2 := by
    show bs_cc (K i) (B i) = 2
    rcases h with h | h | h | h <;> rw [h]
    · exact bs_cc3 _
    · exact bs_cc4 _
    · exact bs_cc5 _
    · exact bs_cc6 _
  obtain ⟨fuel, rfl⟩ : ∃ m, fuel = m + 1 := ⟨fuel - 1, by omega⟩
  refine br_f (nI_ge (by omega) (by omega)) ?_
  exact xc_n_op hB hk hi h hc ox oy he hx hy cu.1 cu.2 fun P r e' ho p0 p1 => xs_go (by omega) c ho p0 p1 (by omega)
theorem xs_X3 (hB : rl_body N k n S K A B a_kinds a_firstOperands a_secondOperands a_children a_parents a_depths) : xa_X3 n S K (rl_c K B) (xs_A post x1 x2 (S + n) f_slotCount f_capacity f_nodesUsed f_buildingSlot f_pendingCount f_summariesCurrent f_callsActive f_callsMade f_runOutcome f_runValue a_slotStates a_slotArities a_slotStarts a_slotSizes a_kinds a_firstOperands a_secondOperands a_children a_parents a_depths a_pendingNodes a_summaries a_nextSummaries a_nodeTypes a_paramsAfter a_params a_values a_arguments a_frameSlots a_frameNodes) (xs_T post x1 x2 (S + n) f_slotCount f_capacity f_nodesUsed f_buildingSlot f_pendingCount f_summariesCurrent f_callsActive f_callsMade f_runOutcome f_runValue a_slotStates a_slotArities a_slotStarts a_slotSizes a_kinds a_firstOperands a_secondOperands a_children a_parents a_depths a_pendingNodes a_summaries a_nextSummaries a_nodeTypes a_paramsAfter a_params a_values a_arguments a_frameSlots a_frameNodes) := by
  intro i x e Z hi h ox he cu hx c fuel hf
  have hS := hB.1
  obtain ⟨fuel, rfl⟩ : ∃ m, fuel = m + 1 := ⟨fuel - 1, by omega⟩
  refine br_f (nI_ge (by omega) (by omega)) ?_
  exact xc_n_isi hB hi h (ab_c7 hB.2.1 h) ox he hx cu.1 cu.2 fun P r e' ho p0 p1 => xs_go (by omega) c ho p0 p1 (by omega)
theorem xs_X4 (hB : rl_body N k n S K A B a_kinds a_firstOperands a_secondOperands a_children a_parents a_depths) : xa_X4 k n S K (rl_c K B) (xs_A post x1 x2 (S + n) f_slotCount f_capacity f_nodesUsed f_buildingSlot f_pendingCount f_summariesCurrent f_callsActive f_callsMade f_runOutcome f_runValue a_slotStates a_slotArities a_slotStarts a_slotSizes a_kinds a_firstOperands a_secondOperands a_children a_parents a_depths a_pendingNodes a_summaries a_nextSummaries a_nodeTypes a_paramsAfter a_params a_values a_arguments a_frameSlots a_frameNodes) (xs_T post x1 x2 (S + n) f_slotCount f_capacity f_nodesUsed f_buildingSlot f_pendingCount f_summariesCurrent f_callsActive f_callsMade f_runOutcome f_runValue a_slotStates a_slotArities a_slotStarts a_slotSizes a_kinds a_firstOperands a_secondOperands a_children a_parents a_depths a_pendingNodes a_summaries a_nextSummaries a_nodeTypes a_paramsAfter a_params a_values a_arguments a_frameSlots a_frameNodes) := by
  intro i o o' Z hi h po po' s1 s2 c fuel hf
  have hS := hB.1
  obtain ⟨fuel, rfl⟩ : ∃ m, fuel = m + 1 := ⟨fuel - 1, by omega⟩
  refine br_f (nI_ge (by omega) (by omega)) ?_
  exact xc_n_if hB hi h (ab_c8 hB.2.1 h) po po' s1.1 s2.1 s1.2.1 s1.2.2 s2.2.1 s2.2.2 fun P r e' ho p0 p1 => xs_go (by omega) c ho p0 p1 (by omega)
theorem xs_call {tb : Nat → ty_T} (hB : rl_body N k n S K A B a_kinds a_firstOperands a_secondOperands a_children a_parents a_depths) (hk : k ≤ 2) (hN : N ≤ 8) (hT : ∀ q, ty_ok (tb q)) (hs : ∀ q, q < 24 → a_summaries q = ty_x (tb q))
    {i : Nat} {x y : ty_T} {e : ab_E} {Z : Nat → Nat → Int32} {o : ab_O} (hi : i < n) (h : K i = 9) (ox : ty_ok x) (oy : ty_ok y) (he : xa_e e) (cu : xa_cu Z e)
    (hx : 1 ≤ rl_c K B i → Z 0 (S + bs_ch (rl_c K B) i 0) = ty_x x) (hy : 2 ≤ rl_c K B i → Z 0 (S + bs_ch (rl_c K B) i 1) = ty_x y)
    (ho : o = if B i = 0 then ab_cl0 A B a_slotStates a_slotArities tb i e else if B i = 1 then ab_cl1 K A B a_slotStates a_slotArities (rl_c K B) tb i x e else ab_cl2 K A B a_slotStates a_slotArities (rl_c K B) tb i x y e)
    (c : xa_c S (xs_T post x1 x2 (S + n) f_slotCount f_capacity f_nodesUsed f_buildingSlot f_pendingCount f_summariesCurrent f_callsActive f_callsMade f_runOutcome f_runValue a_slotStates a_slotArities a_slotStarts a_slotSizes a_kinds a_firstOperands a_secondOperands a_children a_parents a_depths a_pendingNodes a_summaries a_nextSummaries a_nodeTypes a_paramsAfter a_params a_values a_arguments a_frameSlots a_frameNodes) Z i o) : xs_A post x1 x2 (S + n) f_slotCount f_capacity f_nodesUsed f_buildingSlot f_pendingCount f_summariesCurrent f_callsActive f_callsMade f_runOutcome f_runValue a_slotStates a_slotArities a_slotStarts a_slotSizes a_kinds a_firstOperands a_secondOperands a_children a_parents a_depths a_pendingNodes a_summaries a_nextSummaries a_nodeTypes a_paramsAfter a_params a_values a_arguments a_frameSlots a_frameNodes (S + i) Z := by
  intro fuel hf
  have hS := hB.1
  obtain ⟨fuel, rfl⟩ : ∃ m, fuel = m + 1 := ⟨fuel - 1, by omega⟩
  refine br_f (nI_ge (by omega) (by omega)) ?_
  exact xc_n_call hB hk hN hi h ox oy he hT hs cu.1 cu.2 hx hy ho fun P r e' ho p0 p1 => xs_go (by omega) c ho p0 p1 (by omega)
theorem xs_T1 (hB : rl_body N k n S K A B a_kinds a_firstOperands a_secondOperands a_children a_parents a_depths) : xa_T1 n S K (rl_c K B) (xs_A post x1 x2 (S + n) f_slotCount f_capacity f_nodesUsed f_buildingSlot f_pendingCount f_summariesCurrent f_callsActive f_callsMade f_runOutcome f_runValue a_slotStates a_slotArities a_slotStarts a_slotSizes a_kinds a_firstOperands a_secondOperands a_children a_parents a_depths a_pendingNodes a_summaries a_nextSummaries a_nodeTypes a_paramsAfter a_params a_values a_arguments a_frameSlots a_frameNodes) (xs_T post x1 x2 (S + n) f_slotCount f_capacity f_nodesUsed f_buildingSlot f_pendingCount f_summariesCurrent f_callsActive f_callsMade f_runOutcome f_runValue a_slotStates a_slotArities a_slotStarts a_slotSizes a_kinds a_firstOperands a_secondOperands a_children a_parents a_depths a_pendingNodes a_summaries a_nextSummaries a_nodeTypes a_paramsAfter a_params a_values a_arguments a_frameSlots a_frameNodes) := by
  intro i j Z hi hj h8 hA fuel hf
  have c3 : j = 2 ∨ ¬ K i = 8 := by
    by_cases z : K i = 8
    · exact Or.inl (h8 z)
    · exact Or.inr z
  unfold wpX_turnAtBranch
  dsimp only
  refine xc_cond hB hi hj (fun z y => absurd (h8 z) (by omega)) (fun _ => br_t rfl ?_)
  refine xc_then hB hi hj (fun z y => absurd (h8 z) (by omega)) (fun _ => br_t rfl ?_)
  exact nm_r (nI_1 _) (hA fuel (by omega))
theorem xs_T2 (hB : rl_body N k n S K A B a_kinds a_firstOperands a_secondOperands a_children a_parents a_depths) (hk : k ≤ 2) : xa_T2 k n S K A (rl_c K B) (xs_A post x1 x2 (S + n) f_slotCount f_capacity f_nodesUsed f_buildingSlot f_pendingCount f_summariesCurrent f_callsActive f_callsMade f_runOutcome f_runValue a_slotStates a_slotArities a_slotStarts a_slotSizes a_kinds a_firstOperands a_secondOperands a_children a_parents a_depths a_pendingNodes a_summaries a_nextSummaries a_nodeTypes a_paramsAfter a_params a_values a_arguments a_frameSlots a_frameNodes) (xs_T post x1 x2 (S + n) f_slotCount f_capacity f_nodesUsed f_buildingSlot f_pendingCount f_summariesCurrent f_callsActive f_callsMade f_runOutcome f_runValue a_slotStates a_slotArities a_slotStarts a_slotSizes a_kinds a_firstOperands a_secondOperands a_children a_parents a_depths a_pendingNodes a_summaries a_nextSummaries a_nodeTypes a_paramsAfter a_params a_values a_arguments a_frameSlots a_frameNodes) := by
  intro i o Z hi h8 po s hA fuel hf
  have c3 := ab_c8 hB.2.1 h8
  unfold wpX_turnAtBranch
  dsimp only
  rw [xc_ints]
  refine xc_cond hB hi (j := 0) (by omega) (fun _ _ => br_f (by decide) ?_) (fun z => absurd ⟨h8, rfl⟩ z)
  refine xc_enter hB hk hi h8 (t := ty_ints) (β := (xa_ty o).1.testBit 1) ty_ints_ok (xa_eo_e (xa_en_eo po)) (ty_b1 (ty_xn_m (xa_ty_ok po))) s.1 s.2.1 s.2.2 fun P p0 p1 => ?_
  exact nm_r (nI_1 _) (hA (xs_z (Z 0) (Z 1) P) rfl rfl ⟨p0, p1⟩ fuel (by omega))
theorem xs_T3 (hB : rl_body N k n S K A B a_kinds a_firstOperands a_secondOperands a_children a_parents a_depths) (hk : k ≤ 2) : xa_T3 k n S K A (rl_c K B) (xs_A post x1 x2 (S + n) f_slotCount f_capacity f_nodesUsed f_buildingSlot f_pendingCount f_summariesCurrent f_callsActive f_callsMade f_runOutcome f_runValue a_slotStates a_slotArities a_slotStarts a_slotSizes a_kinds a_firstOperands a_secondOperands a_children a_parents a_depths a_pendingNodes a_summaries a_nextSummaries a_nodeTypes a_paramsAfter a_params a_values a_arguments a_frameSlots a_frameNodes) (xs_T post x1 x2 (S + n) f_slotCount f_capacity f_nodesUsed f_buildingSlot f_pendingCount f_summariesCurrent f_callsActive f_callsMade f_runOutcome f_runValue a_slotStates a_slotArities a_slotStarts a_slotSizes a_kinds a_firstOperands a_secondOperands a_children a_parents a_depths a_pendingNodes a_summaries a_nextSummaries a_nodeTypes a_paramsAfter a_params a_values a_arguments a_frameSlots a_frameNodes) := by
  intro i o Z hi h8 po s hA fuel hf
  have c3 := ab_c8 hB.2.1 h8
  obtain ⟨_, _, _, l1⟩ := xc_child hB hi (j := 1) (by omega)
  obtain ⟨wj, clj, _⟩ := xc_row hB l1
  obtain ⟨w0, cl0, r0, _⟩ := xc_child hB hi (j := 0) (by omega)
  obtain ⟨_, _, _, r4, _⟩ := hB.2.2 i hi
  rw [Nat.add_zero] at w0 cl0 r0
  unfold wpX_turnAtBranch
  dsimp only
  rw [xc_ats]
  refine xc_cond hB hi (j := 1) (by omega) (fun _ z => absurd z (by decide)) (fun _ => br_t rfl ?_)
  refine xc_then hB hi (j := 1) (by omega) (fun _ _ => br_f (by decide) ?_) (fun z => absurd ⟨h8, rfl⟩ z)
  rw [clj, (r4 1 (by omega)).2, xc_3, cl0, r0]
  refine ⟨wj, w0, nm_e ?_⟩
  refine xc_enter hB hk hi h8 (t := ty_ats) (β := (xa_ty o).1.testBit 0) ty_ats_ok (xa_eo_e (xa_en_eo po)) (ty_b0 (ty_xn_m (xa_ty_ok po))) s.1 s.2.1 s.2.2 fun P p0 p1 => ?_
  exact nm_r (nI_1 _) (hA (xs_z (Z 0) (Z 1) P) rfl rfl ⟨p0, p1⟩ fuel (by omega))
end
end
section
theorem xs_b2 (f : Nat) : nI (f * 3) + 2 = nI (f * 3 + 2) := by rw [show (2 : Int32) = nI 2 by decide, nI_add]
section
variable {f_slotCount f_capacity f_nodesUsed f_buildingSlot f_pendingCount f_summariesCurrent f_callsActive f_callsMade f_runOutcome f_runValue : Int32} {a_slotStates a_slotArities a_slotStarts a_slotSizes a_kinds a_firstOperands a_secondOperands a_children a_parents a_depths a_pendingNodes a_summaries a_nextSummaries a_nodeTypes a_paramsAfter a_params a_values a_arguments a_frameSlots a_frameNodes : Nat → Int32} {N k n S : Nat} {K A B : Nat → Int32} {post : St2 → Prop} {x1 x2 : Int32}
theorem xs_122e {Q : St2 → Prop} {f k root j fuel : Nat} (hf : f < 8) (hk : a_slotArities f = nI k) (hk2 : k ≤ 2) (hr : root < 128) (hj : k ≤ j) (hj2 : j ≤ 2) (H : Q (f_slotCount, f_capacity, f_nodesUsed, f_buildingSlot, f_pendingCount, f_summariesCurrent, f_callsActive, f_callsMade, f_runOutcome, f_runValue, a_slotStates, a_slotArities, a_slotStarts, a_slotSizes, a_kinds, a_firstOperands, a_secondOperands, a_children, a_parents, a_depths, a_pendingNodes, a_summaries, upd a_nextSummaries (f * 3 + 2) (a_nodeTypes root), a_nodeTypes, a_paramsAfter, a_params, a_values, a_arguments, a_frameSlots, a_frameNodes)) :
    wX_inferSlot_122 Q (nI f) (nI (f * 3)) (nI root) f_slotCount f_capacity f_nodesUsed f_buildingSlot f_pendingCount f_summariesCurrent f_callsActive f_callsMade f_runOutcome f_runValue (fuel + 1) (nI j) a_slotStates a_slotArities a_slotStarts a_slotSizes a_kinds a_firstOperands a_secondOperands a_children a_parents a_depths a_pendingNodes a_summaries a_nextSummaries a_nodeTypes a_paramsAfter a_params a_values a_arguments a_frameSlots a_frameNodes := by
  have w : vp_in (nI f) 8 := vp_in_nI hf (by decide)
  refine ⟨w, br_t ?_ ⟨vp_in_nI hr (by decide), ?_⟩⟩
  · rw [nI_clamp (by omega), hk]; exact nI_le hj (by omega)
  · rw [xs_b2, nI_clamp (n := f * 3 + 2) (by omega), nI_clamp (n := root) (by omega)]
    exact ⟨vp_in_nI (by omega) (by omega), nm_e H⟩
theorem xs_122s {Q : St2 → Prop} {f k root j fuel : Nat} (hf : f < 8) (hk : a_slotArities f = nI k) (hk2 : k ≤ 2) (hr : root < 128) (hj : j < k)
    (H : wX_inferSlot_122 Q (nI f) (nI (f * 3)) (nI root) f_slotCount f_capacity f_nodesUsed f_buildingSlot f_pendingCount f_summariesCurrent f_callsActive f_callsMade f_runOutcome f_runValue fuel (nI (j + 1)) a_slotStates a_slotArities a_slotStarts a_slotSizes a_kinds a_firstOperands a_secondOperands a_children a_parents a_depths a_pendingNodes a_summaries (upd a_nextSummaries (f * 3 + j) (a_paramsAfter (root * 2 + j))) a_nodeTypes a_paramsAfter a_params a_values a_arguments a_frameSlots a_frameNodes) :
    wX_inferSlot_122 Q (nI f) (nI (f * 3)) (nI root) f_slotCount f_capacity f_nodesUsed f_buildingSlot f_pendingCount f_summariesCurrent f_callsActive f_callsMade f_runOutcome f_runValue (fuel + 1) (nI j) a_slotStates a_slotArities a_slotStarts a_slotSizes a_kinds a_firstOperands a_secondOperands a_children a_parents a_depths a_pendingNodes a_summaries a_nextSummaries a_nodeTypes a_paramsAfter a_params a_values a_arguments a_frameSlots a_frameNodes := by
  have w : vp_in (nI f) 8 := vp_in_nI hf (by decide)
  refine ⟨w, br_f ?_ ?_⟩
  · rw [nI_clamp (by omega), hk]; exact nI_ge hj (by omega)
  · rw [xc_2, nI_add, nI_add, nI_clamp (n := root * 2 + j) (by omega), nI_clamp (n := f * 3 + j) (by omega)]
    exact ⟨vp_in_nI (by omega) (by omega), vp_in_nI (by omega) (by omega), nm_e (nm_r (nI_1 j) H)⟩
theorem xs_122 {Q : St2 → Prop} {f k root : Nat} (hf : f < 8) (hk : a_slotArities f = nI k) (hk2 : k ≤ 2) (hr : root < 128)
    (H : ∀ NX : Nat → Int32, (∀ q, q ≠ f * 3 → q ≠ f * 3 + 1 → q ≠ f * 3 + 2 → NX q = a_nextSummaries q) → NX (f * 3) = (if 1 ≤ k then a_paramsAfter (root * 2) else a_nextSummaries (f * 3)) →
      NX (f * 3 + 1) = (if 2 ≤ k then a_paramsAfter (root * 2 + 1) else a_nextSummaries (f * 3 + 1)) → NX (f * 3 + 2) = a_nodeTypes root → Q (f_slotCount, f_capacity, f_nodesUsed, f_buildingSlot, f_pendingCount, f_summariesCurrent, f_callsActive, f_callsMade, f_runOutcome, f_runValue, a_slotStates, a_slotArities, a_slotStarts, a_slotSizes, a_kinds, a_firstOperands, a_secondOperands, a_children, a_parents, a_depths, a_pendingNodes, a_summaries, NX, a_nodeTypes, a_paramsAfter, a_params, a_values, a_arguments, a_frameSlots, a_frameNodes)) :
    ∃ fuel, wX_inferSlot_122 Q (nI f) (nI (f * 3)) (nI root) f_slotCount f_capacity f_nodesUsed f_buildingSlot f_pendingCount f_summariesCurrent f_callsActive f_callsMade f_runOutcome f_runValue fuel 0 a_slotStates a_slotArities a_slotStarts a_slotSizes a_kinds a_firstOperands a_secondOperands a_children a_parents a_depths a_pendingNodes a_summaries a_nextSummaries a_nodeTypes a_paramsAfter a_params a_values a_arguments a_frameSlots a_frameNodes := by
  have kk : k = 0 ∨ k = 1 ∨ k = 2 := by omega
  rcases kk with rfl | rfl | rfl
  · refine ⟨1, xs_122e (j := 0) hf hk hk2 hr (by omega) (by omega) (H _ ?_ ?_ ?_ pk_us)⟩
    · intro q h1 h2 h3; exact pk_un h3
    · rw [pk_un (by omega)]; rfl
    · rw [pk_un (by omega)]; rfl
  · refine ⟨2, xs_122s (j := 0) hf hk hk2 hr (by omega) (xs_122e (j := 1) hf hk hk2 hr (by omega) (by omega) (H _ ?_ ?_ ?_ pk_us))⟩
    · intro q h1 h2 h3; rw [pk_un h3, pk_un (by omega)]
    · rw [pk_un (by omega)]; exact pk_us
    · rw [pk_un (by omega), pk_un (by omega)]; rfl
  · refine ⟨3, xs_122s (j := 0) hf hk hk2 hr (by omega) (xs_122s (j := 1) hf hk hk2 hr (by omega) (xs_122e (j := 2) hf hk hk2 hr (by omega) (by omega) (H _ ?_ ?_ ?_ pk_us)))⟩
    · intro q h1 h2 h3; rw [pk_un h3, pk_un h2]; exact pk_un h1
    · rw [pk_un (by omega), pk_un (by omega)]; exact pk_us
    · rw [pk_un (by omega)]; exact pk_us
theorem xc_root {Q : St2 → Prop} {r : Nat} (hr : r < 128) (hp : a_parents r = -1) (H : Q (f_slotCount, f_capacity, f_nodesUsed, f_buildingSlot, f_pendingCount, f_summariesCurrent, f_callsActive, f_callsMade, f_runOutcome, f_runValue, a_slotStates, a_slotArities, a_slotStarts, a_slotSizes, a_kinds, a_firstOperands, a_secondOperands, a_children, a_parents, a_depths, a_pendingNodes, a_summaries, a_nextSummaries, a_nodeTypes, a_paramsAfter, a_params, a_values, a_arguments, a_frameSlots, a_frameNodes)) : wpX_turnAtBranch Q (f_slotCount, f_capacity, f_nodesUsed, f_buildingSlot, f_pendingCount, f_summariesCurrent, f_callsActive, f_callsMade, f_runOutcome, f_runValue, a_slotStates, a_slotArities, a_slotStarts, a_slotSizes, a_kinds, a_firstOperands, a_secondOperands, a_children, a_parents, a_depths, a_pendingNodes, a_summaries, a_nextSummaries, a_nodeTypes, a_paramsAfter, a_params, a_values, a_arguments, a_frameSlots, a_frameNodes) (nI r) := by
  have w : vp_in (nI r) 128 := vp_in_nI hr (by decide)
  have cl : (nI r).toNatClampNeg = r := nI_clamp (by omega)
  unfold wpX_turnAtBranch
  dsimp only
  unfold wpX_isCondition
  dsimp only
  refine ⟨w, nm_r (e' := -1) (by rw [cl]; exact hp) (br_t rfl (br_t rfl ?_))⟩
  unfold wpX_isThenBranch
  dsimp only
  exact ⟨w, nm_r (e' := -1) (by rw [cl]; exact hp) (br_t rfl (br_t rfl H))⟩
theorem xs_fld {k : Nat} (hk2 : k ≤ 2) (o : ab_O) : ty_x (sp_fld (nI k) 0 o) = (if 1 ≤ k then ty_x (xa_en o).1 else 0) ∧ ty_x (sp_fld (nI k) 1 o) = (if 2 ≤ k then ty_x (xa_en o).2 else 0) ∧ ty_x (sp_fld (nI k) 2 o) = ty_x (xa_ty o) := by
  have e1 : (1 : Int32) ≤ nI k ↔ 1 ≤ k := by rw [show (1 : Int32) = nI 1 by decide, nI_leI (by omega) (by omega)]
  have e2 : (2 : Int32) ≤ nI k ↔ 2 ≤ k := by rw [show (2 : Int32) = nI 2 by decide, nI_leI (by omega) (by omega)]
  cases o with
  | none =>
    refine ⟨?_, ?_, rfl⟩
    · show ty_x ty_0 = if 1 ≤ k then ty_x ty_0 else 0
      rw [ty_x_00, ite_self]
    · show ty_x ty_0 = if 2 ≤ k then ty_x ty_0 else 0
      rw [ty_x_00, ite_self]
  | some x =>
    refine ⟨?_, ?_, rfl⟩
    · show ty_x (if (0 : Nat) = 2 then x.1 else if (0 : Nat) = 0 then (if 1 ≤ nI k then x.2.1 else ty_0) else (if 2 ≤ nI k then x.2.2 else ty_0)) = if 1 ≤ k then ty_x x.2.1 else 0
      rw [if_neg (by decide), if_pos rfl]
      by_cases c : 1 ≤ k
      · rw [if_pos c, if_pos (e1.mpr c)]
      · rw [if_neg c, if_neg (fun z => c (e1.mp z)), ty_x_00]
    · show ty_x (if (1 : Nat) = 2 then x.1 else if (1 : Nat) = 0 then (if 1 ≤ nI k then x.2.1 else ty_0) else (if 2 ≤ nI k then x.2.2 else ty_0)) = if 2 ≤ k then ty_x x.2.2 else 0
      rw [if_neg (by decide), if_neg (by decide)]
      by_cases c : 2 ≤ k
      · rw [if_pos c, if_pos (e2.mpr c)]
      · rw [if_neg c, if_neg (fun z => c (e2.mp z)), ty_x_00]
/-- what one slot's inference leaves in the next table -/
def xs_nx (f : Nat) (NX0 NX : Nat → Int32) (s : Int32) (a : Int32) (o : ab_O) : Prop :=
  (∀ q, q ≠ f * 3 → q ≠ f * 3 + 1 → q ≠ f * 3 + 2 → NX q = NX0 q) ∧ ∀ j, j < 3 → NX (f * 3 + j) = ty_x (if s = 2 then sp_fld a j o else ty_0)
theorem xs_slot {Q : St2 → Prop} {tb : Nat → ty_T} {f U : Nat} {szY bk ba bb : Nat → Int32} (hf : f < N) (hN : N ≤ 8) (hs : rl_slot N U f n S a_slotStates a_slotArities a_slotSizes szY a_slotStarts bk ba bb a_kinds a_firstOperands a_secondOperands a_children a_parents a_depths)
    (hT : ∀ q, ty_ok (tb q)) (hsum : ∀ q, q < 24 → a_summaries q = ty_x (tb q))
    (H : ∀ NX NT PA P : Nat → Int32, xs_nx f a_nextSummaries NX (a_slotStates f) (a_slotArities f) (ab_ev (rl_K bk f) (rl_K ba f) (rl_K bb f) a_slotStates a_slotArities (rl_c (rl_K bk f) (rl_K bb f)) tb 128 (n - 1) (ty_any, ty_any)) →
      Q (f_slotCount, f_capacity, f_nodesUsed, f_buildingSlot, f_pendingCount, f_summariesCurrent, f_callsActive, f_callsMade, f_runOutcome, f_runValue, a_slotStates, a_slotArities, a_slotStarts, a_slotSizes, a_kinds, a_firstOperands, a_secondOperands, a_children, a_parents, a_depths, a_pendingNodes, a_summaries, NX, NT, PA, P, a_values, a_arguments, a_frameSlots, a_frameNodes)) : wpX_inferSlot Q (f_slotCount, f_capacity, f_nodesUsed, f_buildingSlot, f_pendingCount, f_summariesCurrent, f_callsActive, f_callsMade, f_runOutcome, f_runValue, a_slotStates, a_slotArities, a_slotStarts, a_slotSizes, a_kinds, a_firstOperands, a_secondOperands, a_children, a_parents, a_depths, a_pendingNodes, a_summaries, a_nextSummaries, a_nodeTypes, a_paramsAfter, a_params, a_values, a_arguments, a_frameSlots, a_frameNodes) (nI f) := by
  have w : vp_in (nI f) 8 := vp_in_nI (by omega) (by decide)
  have cl : (nI f).toNatClampNeg = f := nI_clamp (by omega)
  unfold wpX_inferSlot
  dsimp only
  refine nm_r (xc_3 f) ?_
  rw [Int32.add_zero, nI_1, xs_b2, cl, nI_clamp (n := f * 3) (by omega), nI_clamp (n := f * 3 + 1) (by omega), nI_clamp (n := f * 3 + 2) (by omega)]
  refine ⟨vp_in_nI (by omega) (by omega), nm_e ⟨vp_in_nI (by omega) (by omega), nm_e ⟨vp_in_nI (by omega) (by omega), nm_e ⟨w, ?_⟩⟩⟩⟩
  by_cases s2 : a_slotStates f = 2
  · obtain ⟨_, h1, h2⟩ := hs
    obtain ⟨e1, e2, e3, e4, k, hk, ek, hB⟩ := h1 (by rw [s2]; decide)
    obtain ⟨n0, pc1, pr⟩ := h2 s2
    have hS := hB.1
    have root : bs_ss (rl_c (rl_K bk f) (rl_K bb f)) (n - 1) = 0 := by
      have e : n - 1 + 1 = n := by omega
      exact bs_root (by rw [e]; exact hB.2.1.2.2) (by rw [e]; exact pc1)
    refine br_t s2 (nm_e (nm_e ⟨w, w, nm_r (e' := nI (S + n)) (by rw [e1, e3, nI_add]) ⟨w, nm_r (e' := nI S) e3 ⟨n + 1, ?_⟩⟩⟩))
    have sim := xa_sim (XA := xs_A Q (nI f) (nI (f * 3)) (S + n) f_slotCount f_capacity f_nodesUsed f_buildingSlot f_pendingCount f_summariesCurrent f_callsActive f_callsMade f_runOutcome f_runValue a_slotStates a_slotArities a_slotStarts a_slotSizes a_kinds a_firstOperands a_secondOperands a_children a_parents a_depths a_pendingNodes a_summaries (upd (upd (upd a_nextSummaries (f * 3) 0) (f * 3 + 1) 0) (f * 3 + 2) 0) a_nodeTypes a_paramsAfter a_params a_values a_arguments a_frameSlots a_frameNodes) (XT := xs_T Q (nI f) (nI (f * 3)) (S + n) f_slotCount f_capacity f_nodesUsed f_buildingSlot f_pendingCount f_summariesCurrent f_callsActive f_callsMade f_runOutcome f_runValue a_slotStates a_slotArities a_slotStarts a_slotSizes a_kinds a_firstOperands a_secondOperands a_children a_parents a_depths a_pendingNodes a_summaries (upd (upd (upd a_nextSummaries (f * 3) 0) (f * 3 + 1) 0) (f * 3 + 2) 0) a_nodeTypes a_paramsAfter a_params a_values a_arguments a_frameSlots a_frameNodes) (S := S) (st := a_slotStates) (ar := a_slotArities)
      hB.2.1 hT (xs_X1 hB hk) (xs_X2 hB hk) (xs_X3 hB) (xs_X4 hB)
      (fun i e Z hi h9 b0 he cu c => xs_call (x := ty_0) (y := ty_0) hB hk hN hT hsum hi h9 ty_0_ok ty_0_ok he cu (fun z => absurd z (by rw [ab_c9 hB.2.1 h9, b0]; decide)) (fun z => absurd z (by rw [ab_c9 hB.2.1 h9, b0]; decide)) (by rw [if_pos b0]) c)
      (fun i x e Z hi h9 b1 ox he cu hx c => xs_call (y := ty_0) hB hk hN hT hsum hi h9 ox ty_0_ok he cu (fun _ => hx) (fun z => absurd z (by rw [ab_c9 hB.2.1 h9, b1]; decide)) (by rw [if_neg (by rw [b1]; decide), if_pos b1]) c)
      (fun i x y e Z hi h9 b2 ox oy he cu hx hy c => xs_call hB hk hN hT hsum hi h9 ox oy he cu (fun _ => hx) (fun _ => hy) (by rw [if_neg (by rw [b2]; decide), if_neg (by rw [b2]; decide)]) c)
      (xs_T1 hB) (xs_T2 hB hk) (xs_T3 hB hk) 128
    have go := sim (n - 1) (ty_any, ty_any) (xs_z a_nodeTypes a_paramsAfter (upd (upd a_params 0 13042175) 1 13042175)) (by omega) (by omega) ⟨ty_any_ok, ty_any_ok, Or.inl (sp_any_eo k)⟩ ⟨xc_any, xc_any⟩ ?_
    · rw [root] at go
      exact go (n + 1) (by omega)
    · intro Z' ag st cu fuel hfu
      refine xc_root (by omega) pr ?_
      refine nm_r (nI_1 _) ?_
      rw [show S + (n - 1) + 1 = S + n by omega]
      obtain ⟨fuel, rfl⟩ : ∃ m, fuel = m + 1 := ⟨fuel - 1, by omega⟩
      refine br_t (nI_le (Nat.le_refl _) (by omega)) (nm_r (e' := nI (S + (n - 1))) (by rw [show S + n = S + (n - 1) + 1 by omega]; exact nI_pred _) ?_)
      refine xs_122 (by omega) ek hk (by omega) fun NX n1 n2 n3 n4 => H NX (Z' 0) (Z' 1) (Z' 2) ⟨fun q h1 h2 h3 => ?_, fun j hj => ?_⟩
      · rw [n1 q h1 h2 h3, pk_un h3, pk_un h2, pk_un h1]
      · obtain ⟨u0, u1, u2⟩ := xs_fld hk (ab_ev (rl_K bk f) (rl_K ba f) (rl_K bb f) a_slotStates a_slotArities (rl_c (rl_K bk f) (rl_K bb f)) tb 128 (n - 1) (ty_any, ty_any))
        rw [if_pos s2, ek]
        have jj : j = 0 ∨ j = 1 ∨ j = 2 := by omega
        rcases jj with rfl | rfl | rfl
        · rw [u0, Nat.add_zero, n2, st.2.1]
          by_cases c : 1 ≤ k
          · rw [if_pos c, if_pos c]
          · rw [if_neg c, if_neg c, pk_un (by omega), pk_un (by omega), pk_us]
        · rw [u1, n3, st.2.2]
          by_cases c : 2 ≤ k
          · rw [if_pos c, if_pos c]
          · rw [if_neg c, if_neg c, pk_un (by omega), pk_us]
        · rw [u2, n4, st.1]
  · refine br_f s2 (H _ a_nodeTypes a_paramsAfter a_params ⟨fun q h1 h2 h3 => ?_, fun j hj => ?_⟩)
    · rw [pk_un h3, pk_un h2, pk_un h1]
    · rw [if_neg s2, ty_x_00]
      have jj : j = 0 ∨ j = 1 ∨ j = 2 := by omega
      rcases jj with rfl | rfl | rfl
      · rw [pk_un (by omega), pk_un (by omega)]; exact pk_us
      · rw [pk_un (by omega), pk_us]
      · exact pk_us
end
end
section
/-- how many defined slots never return, by a table -/
def an_cnt (st : Nat → Int32) (tb : Nat → ty_T) : Nat → Nat
  | 0 => 0
  | n + 1 => an_cnt st tb n + (if st n = 2 ∧ tb (n * 3 + 2) = ty_0 then 1 else 0)
theorem an_cnt_s (st : Nat → Int32) (tb : Nat → ty_T) (n : Nat) : an_cnt st tb (n + 1) = an_cnt st tb n + (if st n = 2 ∧ tb (n * 3 + 2) = ty_0 then 1 else 0) := rfl
theorem an_cnt_le (st : Nat → Int32) (tb : Nat → ty_T) : ∀ n, an_cnt st tb n ≤ n := by
  intro n
  induction n with
  | zero => exact Nat.le_refl _
  | succ n ih => rw [an_cnt_s]; split <;> omega
section
variable {f_slotCount f_capacity f_nodesUsed f_buildingSlot f_pendingCount f_summariesCurrent f_callsActive f_callsMade f_runOutcome f_runValue : Int32} {a_slotStates a_slotArities a_slotStarts a_slotSizes a_kinds a_firstOperands a_secondOperands a_children a_parents a_depths a_pendingNodes a_summaries a_nextSummaries a_nodeTypes a_paramsAfter a_params a_values a_arguments a_frameSlots a_frameNodes : Nat → Int32} {N : Nat}
theorem xn_cnt {Q : Int32 → Prop} {tb : Nat → ty_T} (hN : N ≤ 8) (hT : ∀ q, ty_ok (tb q)) (hsum : ∀ q, q < 24 → a_summaries q = ty_x (tb q)) (H : Q (nI (an_cnt a_slotStates tb N))) :
    wpX_countNeverReturning Q (nI N, f_capacity, f_nodesUsed, f_buildingSlot, f_pendingCount, f_summariesCurrent, f_callsActive, f_callsMade, f_runOutcome, f_runValue, a_slotStates, a_slotArities, a_slotStarts, a_slotSizes, a_kinds, a_firstOperands, a_secondOperands, a_children, a_parents, a_depths, a_pendingNodes, a_summaries, a_nextSummaries, a_nodeTypes, a_paramsAfter, a_params, a_values, a_arguments, a_frameSlots, a_frameNodes) := by
  have loop : ∀ d i fuel, i + d = N → d < fuel → wX_countNeverReturning_4 Q (nI N) f_capacity f_nodesUsed f_buildingSlot f_pendingCount f_summariesCurrent f_callsActive f_callsMade f_runOutcome f_runValue a_slotStates a_slotArities a_slotStarts a_slotSizes a_kinds a_firstOperands a_secondOperands a_children a_parents a_depths a_pendingNodes a_summaries a_nextSummaries a_nodeTypes a_paramsAfter a_params a_values a_arguments a_frameSlots a_frameNodes fuel (nI (an_cnt a_slotStates tb i)) (nI i) := by
    intro d
    induction d with
    | zero =>
      intro i fuel h1 h2
      obtain ⟨fuel, rfl⟩ : ∃ m, fuel = m + 1 := ⟨fuel - 1, by omega⟩
      obtain rfl : i = N := by omega
      exact br_t (nI_le (Nat.le_refl _) (by omega)) H
    | succ d ih =>
      intro i fuel h1 h2
      obtain ⟨fuel, rfl⟩ : ∃ m, fuel = m + 1 := ⟨fuel - 1, by omega⟩
      have w : vp_in (nI i) 8 := vp_in_nI (by omega) (by decide)
      have cl : (nI i).toNatClampNeg = i := nI_clamp (by omega)
      have hh := ih (i + 1) fuel (by omega) (by omega)
      rw [an_cnt_s] at hh
      refine br_f (nI_ge (by omega) (by omega)) ?_
      rw [xc_32, nI_clamp (n := i * 3 + 2) (by omega), cl, hsum _ (by omega)]
      refine ⟨vp_in_nI (by omega) (by omega), nm_e ⟨w, ?_⟩⟩
      by_cases s2 : a_slotStates i = 2
      · by_cases z : tb (i * 3 + 2) = ty_0
        · rw [if_pos ⟨s2, z⟩] at hh
          exact br_t s2 (br_t ((ty_x_0 (hT _)).mpr z) (nm_r (nI_1 _) (nm_r (nI_1 _) hh)))
        · rw [if_neg (fun y => z y.2)] at hh
          exact br_t s2 (br_f (fun y => z ((ty_x_0 (hT _)).mp y)) (nm_r (nI_1 _) hh))
      · rw [if_neg (fun y => s2 y.1)] at hh
        exact br_f s2 (nm_r (nI_1 _) hh)
  exact ⟨N + 1, loop N 0 (N + 1) (by omega) (by omega)⟩
theorem xn_take {Q : Int32 → St2 → Prop} {tb tb' : Nat → ty_T} (hT : ∀ q, ty_ok (tb q)) (hT' : ∀ q, ty_ok (tb' q)) (hsum : ∀ q, q < 24 → a_summaries q = ty_x (tb q)) (hnx : ∀ q, q < 24 → a_nextSummaries q = ty_x (tb' q))
    (H1 : (∀ q, q < 24 → tb' q = tb q) → ∀ SU : Nat → Int32, (∀ q, q < 24 → SU q = ty_x (tb' q)) → Q 0 (f_slotCount, f_capacity, f_nodesUsed, f_buildingSlot, f_pendingCount, f_summariesCurrent, f_callsActive, f_callsMade, f_runOutcome, f_runValue, a_slotStates, a_slotArities, a_slotStarts, a_slotSizes, a_kinds, a_firstOperands, a_secondOperands, a_children, a_parents, a_depths, a_pendingNodes, SU, a_nextSummaries, a_nodeTypes, a_paramsAfter, a_params, a_values, a_arguments, a_frameSlots, a_frameNodes)) (H2 : (¬ ∀ q, q < 24 → tb' q = tb q) → ∀ SU : Nat → Int32, (∀ q, q < 24 → SU q = ty_x (tb' q)) → Q 1 (f_slotCount, f_capacity, f_nodesUsed, f_buildingSlot, f_pendingCount, f_summariesCurrent, f_callsActive, f_callsMade, f_runOutcome, f_runValue, a_slotStates, a_slotArities, a_slotStarts, a_slotSizes, a_kinds, a_firstOperands, a_secondOperands, a_children, a_parents, a_depths, a_pendingNodes, SU, a_nextSummaries, a_nodeTypes, a_paramsAfter, a_params, a_values, a_arguments, a_frameSlots, a_frameNodes)) :
    wpX_takeNextSummaries Q (f_slotCount, f_capacity, f_nodesUsed, f_buildingSlot, f_pendingCount, f_summariesCurrent, f_callsActive, f_callsMade, f_runOutcome, f_runValue, a_slotStates, a_slotArities, a_slotStarts, a_slotSizes, a_kinds, a_firstOperands, a_secondOperands, a_children, a_parents, a_depths, a_pendingNodes, a_summaries, a_nextSummaries, a_nodeTypes, a_paramsAfter, a_params, a_values, a_arguments, a_frameSlots, a_frameNodes) := by
  have loop : ∀ d i fuel (c : Int32) (SU : Nat → Int32), i + d = 24 → d < fuel → (∀ q, q < i → SU q = ty_x (tb' q)) → (∀ q, i ≤ q → q < 24 → SU q = ty_x (tb q)) → (c = 0 ∧ (∀ q, q < i → tb' q = tb q) ∨ c = 1 ∧ ∃ q, q < i ∧ tb' q ≠ tb q) →
      wX_takeNextSummaries_4 Q f_slotCount f_capacity f_nodesUsed f_buildingSlot f_pendingCount f_summariesCurrent f_callsActive f_callsMade f_runOutcome f_runValue fuel c (nI i) a_slotStates a_slotArities a_slotStarts a_slotSizes a_kinds a_firstOperands a_secondOperands a_children a_parents a_depths a_pendingNodes SU a_nextSummaries a_nodeTypes a_paramsAfter a_params a_values a_arguments a_frameSlots a_frameNodes := by
    intro d
    induction d with
    | zero =>
      intro i fuel c SU h1 h2 s1 s2 hc
      obtain ⟨fuel, rfl⟩ : ∃ m, fuel = m + 1 := ⟨fuel - 1, by omega⟩
      obtain rfl : i = 24 := by omega
      refine br_t (by decide) ?_
      rcases hc with ⟨rfl, hc⟩ | ⟨rfl, q, hq, hc⟩
      · exact ⟨rfl, H1 hc SU s1⟩
      · exact ⟨rfl, H2 (fun z => hc (z q hq)) SU s1⟩
    | succ d ih =>
      intro i fuel c SU h1 h2 s1 s2 hc
      obtain ⟨fuel, rfl⟩ : ∃ m, fuel = m + 1 := ⟨fuel - 1, by omega⟩
      have w : vp_in (nI i) 24 := vp_in_nI (by omega) (by decide)
      have cl : (nI i).toNatClampNeg = i := nI_clamp (by omega)
      refine br_f (nI_ge (b := 24) (by omega) (by decide)) ⟨w, w, ?_⟩
      rw [cl, s2 i (by omega) (by omega), hnx i (by omega)]
      by_cases z : tb i = tb' i
      · refine br_t (by rw [z]) (nm_r (nI_1 i) (ih (i + 1) fuel c SU (by omega) (by omega) (fun q hq => ?_) (fun q h3 h4 => s2 q (by omega) h4) ?_))
        · by_cases e : q = i
          · subst e; rw [← z]; exact s2 q (by omega) (by omega)
          · exact s1 q (by omega)
        · rcases hc with ⟨c0, hc⟩ | ⟨c1, q, hq, hc⟩
          · refine Or.inl ⟨c0, fun q hq => ?_⟩
            by_cases e : q = i
            · subst e; exact z.symm
            · exact hc q (by omega)
          · exact Or.inr ⟨c1, q, by omega, hc⟩
      · refine br_f (fun y => z (ty_x_inj (hT i) (hT' i) y)) ⟨w, w, nm_e (nm_r (nI_1 i) (ih (i + 1) fuel 1 _ (by omega) (by omega) (fun q hq => ?_) (fun q h3 h4 => ?_) (Or.inr ⟨rfl, i, by omega, fun y => z y.symm⟩)))⟩
        · by_cases e : q = i
          · subst e; exact pk_us
          · rw [pk_un e]; exact s1 q (by omega)
        · rw [pk_un (by omega)]; exact s2 q (by omega) h4
  exact ⟨25, loop 24 0 25 0 a_summaries (by omega) (by omega) (fun q hq => absurd hq (Nat.not_lt_zero q)) (fun q _ hq => hsum q hq) (Or.inl ⟨rfl, fun q hq => absurd hq (Nat.not_lt_zero q)⟩)⟩
end
-- the slots in the pool, the rest of the state fixed
section
variable {f_slotCount f_capacity f_nodesUsed f_buildingSlot f_pendingCount f_summariesCurrent f_callsActive f_callsMade f_runOutcome f_runValue : Int32} {a_slotStates a_slotArities a_slotStarts a_slotSizes a_kinds a_firstOperands a_secondOperands a_children a_parents a_depths a_pendingNodes a_summaries a_nextSummaries a_nodeTypes a_paramsAfter a_params a_values a_arguments a_frameSlots a_frameNodes : Nat → Int32} {N U : Nat} {sz S : Nat → Nat} {szY bk ba bb : Nat → Int32}
theorem xn_37 {post : Int32 → St2 → Prop} {J : Int32 → Int32 → Int32 → Int32 → Int32 → Int32 → Int32 → Int32 → Int32 → Int32 → Int32 → Int32 → (Nat → Int32) → (Nat → Int32) → (Nat → Int32) → (Nat → Int32) → (Nat → Int32) → (Nat → Int32) → (Nat → Int32) → (Nat → Int32) → (Nat → Int32) → (Nat → Int32) → (Nat → Int32) → (Nat → Int32) → (Nat → Int32) → (Nat → Int32) → (Nat → Int32) → (Nat → Int32) → (Nat → Int32) → (Nat → Int32) → (Nat → Int32) → (Nat → Int32) → Prop}
    {tb : Nat → ty_T} {r : Nat} (hN : N ≤ 8) (hs : rl_slots N U sz S a_slotStates a_slotArities a_slotSizes szY a_slotStarts bk ba bb a_kinds a_firstOperands a_secondOperands a_children a_parents a_depths)
    (hT : ∀ q, ty_ok (tb q)) (hsum : ∀ q, q < 24 → a_summaries q = ty_x (tb q))
    (H1 : (∀ q, q < 24 → sp_step N (rl_K bk) (rl_K ba) (rl_K bb) a_slotStates a_slotArities sz tb q = tb q) → ∀ SU NX NT PA P : Nat → Int32, (∀ q, q < 24 → SU q = ty_x (sp_step N (rl_K bk) (rl_K ba) (rl_K bb) a_slotStates a_slotArities sz tb q)) → (∀ q, 3 * N ≤ q → q < 24 → NX q = 0) → J 0 (nI (r + 1)) (nI N) f_capacity f_nodesUsed f_buildingSlot f_pendingCount f_summariesCurrent f_callsActive f_callsMade f_runOutcome f_runValue a_slotStates a_slotArities a_slotStarts a_slotSizes a_kinds a_firstOperands a_secondOperands a_children a_parents a_depths a_pendingNodes SU NX NT PA P a_values a_arguments a_frameSlots a_frameNodes)
    (H2 : (¬ ∀ q, q < 24 → sp_step N (rl_K bk) (rl_K ba) (rl_K bb) a_slotStates a_slotArities sz tb q = tb q) → ∀ SU NX NT PA P : Nat → Int32, (∀ q, q < 24 → SU q = ty_x (sp_step N (rl_K bk) (rl_K ba) (rl_K bb) a_slotStates a_slotArities sz tb q)) → (∀ q, 3 * N ≤ q → q < 24 → NX q = 0) → J 1 (nI (r + 1)) (nI N) f_capacity f_nodesUsed f_buildingSlot f_pendingCount f_summariesCurrent f_callsActive f_callsMade f_runOutcome f_runValue a_slotStates a_slotArities a_slotStarts a_slotSizes a_kinds a_firstOperands a_secondOperands a_children a_parents a_depths a_pendingNodes SU NX NT PA P a_values a_arguments a_frameSlots a_frameNodes) :
    ∀ d f fuel (NX NT PA P : Nat → Int32), f + d = N → d < fuel → (∀ q, q < f * 3 → NX q = ty_x (sp_step N (rl_K bk) (rl_K ba) (rl_K bb) a_slotStates a_slotArities sz tb q)) → (∀ q, 3 * N ≤ q → q < 24 → NX q = 0) →
      wX_analyze_37 post J (nI r) fuel (nI f) (nI N) f_capacity f_nodesUsed f_buildingSlot f_pendingCount f_summariesCurrent f_callsActive f_callsMade f_runOutcome f_runValue a_slotStates a_slotArities a_slotStarts a_slotSizes a_kinds a_firstOperands a_secondOperands a_children a_parents a_depths a_pendingNodes a_summaries NX NT PA P a_values a_arguments a_frameSlots a_frameNodes := by
  intro d
  have ok := sp_step_ok (rl_sp_ok hs) hT
  induction d with
  | zero =>
    intro f fuel NX NT PA P h1 h2 n1 n2
    obtain ⟨fuel, rfl⟩ : ∃ m, fuel = m + 1 := ⟨fuel - 1, by omega⟩
    obtain rfl : f = N := by omega
    refine br_t (nI_le (Nat.le_refl _) (by omega)) ?_
    have nx : ∀ q, q < 24 → NX q = ty_x (sp_step f (rl_K bk) (rl_K ba) (rl_K bb) a_slotStates a_slotArities sz tb q) := by
      intro q hq
      by_cases c : q < f * 3
      · exact n1 q c
      · rw [n2 q (by omega) hq]
        unfold sp_step
        rw [if_neg (fun z => by omega), ty_x_00]
    exact xn_take hT ok hsum nx (fun e SU hSU => nm_r (nI_1 r) (H1 e SU NX NT PA P hSU n2)) (fun e SU hSU => nm_r (nI_1 r) (H2 e SU NX NT PA P hSU n2))
  | succ d ih =>
    intro f fuel NX NT PA P h1 h2 n1 n2
    obtain ⟨fuel, rfl⟩ : ∃ m, fuel = m + 1 := ⟨fuel - 1, by omega⟩
    refine br_f (nI_ge (by omega) (by omega)) ?_
    refine xs_slot (show f < N by omega) hN (hs f (by omega)) hT hsum fun NX' NT' PA' P' x => ?_
    obtain ⟨x1, x2⟩ := x
    refine nm_r (nI_1 f) (ih (f + 1) fuel NX' NT' PA' P' (by omega) (by omega) (fun q hq => ?_) (fun q h3 h4 => ?_))
    · by_cases c : q < f * 3
      · rw [x1 q (by omega) (by omega) (by omega)]; exact n1 q c
      · obtain ⟨j, hj, rfl⟩ : ∃ j, j < 3 ∧ q = f * 3 + j := ⟨q - f * 3, by omega, by omega⟩
        rw [x2 j hj]
        unfold sp_step
        rw [show (f * 3 + j) / 3 = f by omega, show (f * 3 + j) % 3 = j by omega]
        by_cases s2 : a_slotStates f = 2
        · rw [if_pos s2, if_pos ⟨by omega, s2⟩]; rfl
        · rw [if_neg s2, if_neg (fun z => s2 z.2)]
    · rw [x1 q (by omega) (by omega) (by omega)]; exact n2 q h3 h4
end
end
section
section
variable {f_slotCount f_capacity f_nodesUsed f_buildingSlot f_pendingCount f_summariesCurrent f_callsActive f_callsMade f_runOutcome f_runValue : Int32} {a_slotStates a_slotArities a_slotStarts a_slotSizes a_kinds a_firstOperands a_secondOperands a_children a_parents a_depths a_pendingNodes a_summaries a_nextSummaries a_nodeTypes a_paramsAfter a_params a_values a_arguments a_frameSlots a_frameNodes : Nat → Int32} {N U : Nat} {sz S : Nat → Nat} {szY bk ba bb : Nat → Int32}
theorem xn_25 {post : Int32 → St2 → Prop} {r0 : Nat} (hN : N ≤ 8) (hs : rl_slots N U sz S a_slotStates a_slotArities a_slotSizes szY a_slotStarts bk ba bb a_kinds a_firstOperands a_secondOperands a_children a_parents a_depths)
    (hr : r0 ≤ 1056) (f1 : ∀ q, q < 24 → sp_T N (rl_K bk) (rl_K ba) (rl_K bb) a_slotStates a_slotArities sz (r0 + 1) q = sp_T N (rl_K bk) (rl_K ba) (rl_K bb) a_slotStates a_slotArities sz r0 q) (f2 : ∀ j, j < r0 → ¬ ∀ q, q < 24 → sp_T N (rl_K bk) (rl_K ba) (rl_K bb) a_slotStates a_slotArities sz (j + 1) q = sp_T N (rl_K bk) (rl_K ba) (rl_K bb) a_slotStates a_slotArities sz j q)
    (H : ∀ SU NX NT PA P : Nat → Int32, (∀ q, q < 24 → SU q = ty_x (sp_T N (rl_K bk) (rl_K ba) (rl_K bb) a_slotStates a_slotArities sz (r0 + 1) q)) → (∀ q, 3 * N ≤ q → q < 24 → NX q = 0) → post (nI (an_cnt a_slotStates (sp_T N (rl_K bk) (rl_K ba) (rl_K bb) a_slotStates a_slotArities sz (r0 + 1)) N)) (nI N, f_capacity, f_nodesUsed, f_buildingSlot, f_pendingCount, 1, f_callsActive, f_callsMade, f_runOutcome, f_runValue, a_slotStates, a_slotArities, a_slotStarts, a_slotSizes, a_kinds, a_firstOperands, a_secondOperands, a_children, a_parents, a_depths, a_pendingNodes, SU, NX, NT, PA, P, a_values, a_arguments, a_frameSlots, a_frameNodes)) :
    ∀ d r fuel (SU NX NT PA P : Nat → Int32), r + d = r0 → d + 1 < fuel → (∀ q, q < 24 → SU q = ty_x (sp_T N (rl_K bk) (rl_K ba) (rl_K bb) a_slotStates a_slotArities sz r q)) → (∀ q, 3 * N ≤ q → q < 24 → NX q = 0) →
      wX_analyze_25 post fuel 1 (nI r) (nI N) f_capacity f_nodesUsed f_buildingSlot f_pendingCount f_summariesCurrent f_callsActive f_callsMade f_runOutcome f_runValue a_slotStates a_slotArities a_slotStarts a_slotSizes a_kinds a_firstOperands a_secondOperands a_children a_parents a_depths a_pendingNodes SU NX NT PA P a_values a_arguments a_frameSlots a_frameNodes := by
  intro d
  have ok := sp_T_ok (rl_sp_ok hs)
  have fin : ∀ (r fuel : Nat) (SU NX NT PA P : Nat → Int32), r ≤ 2000 → 0 < fuel → (∀ q, q < 24 → SU q = ty_x (sp_T N (rl_K bk) (rl_K ba) (rl_K bb) a_slotStates a_slotArities sz (r0 + 1) q)) → (∀ q, 3 * N ≤ q → q < 24 → NX q = 0) → wX_analyze_25 post fuel 0 (nI r) (nI N) f_capacity f_nodesUsed f_buildingSlot f_pendingCount f_summariesCurrent f_callsActive f_callsMade f_runOutcome f_runValue a_slotStates a_slotArities a_slotStarts a_slotSizes a_kinds a_firstOperands a_secondOperands a_children a_parents a_depths a_pendingNodes SU NX NT PA P a_values a_arguments a_frameSlots a_frameNodes := by
    intro r fuel SU NX NT PA P hr hf hSU hNX
    obtain ⟨fuel, rfl⟩ : ∃ m, fuel = m + 1 := ⟨fuel - 1, by omega⟩
    refine br_f (nI_ge (b := 1000000) (by omega) (by decide)) (br_t rfl ?_)
    unfold wX_analyze_67
    exact xn_cnt hN (ok (r0 + 1)) hSU (H SU NX NT PA P hSU hNX)
  induction d with
  | zero =>
    intro r fuel SU NX NT PA P h1 h2 hSU hNX
    obtain ⟨fuel, rfl⟩ : ∃ m, fuel = m + 1 := ⟨fuel - 1, by omega⟩
    obtain rfl : r = r0 := by omega
    refine br_f (nI_ge (b := 1000000) (by omega) (by decide)) (br_f (by decide) ⟨N + 1, ?_⟩)
    refine xn_37 hN hs (ok r) hSU (fun e SU' NX' NT' PA' P' s n => ?_) (fun e SU' NX' NT' PA' P' s n => ?_) N 0 (N + 1) NX NT PA P (by omega) (by omega) (fun q hq => absurd hq (by omega)) hNX
    · exact fin (r + 1) fuel SU' NX' NT' PA' P' (by omega) (by omega) s n
    · exact absurd f1 e
  | succ d ih =>
    intro r fuel SU NX NT PA P h1 h2 hSU hNX
    obtain ⟨fuel, rfl⟩ : ∃ m, fuel = m + 1 := ⟨fuel - 1, by omega⟩
    refine br_f (nI_ge (b := 1000000) (by omega) (by decide)) (br_f (by decide) ⟨N + 1, ?_⟩)
    refine xn_37 hN hs (ok r) hSU (fun e SU' NX' NT' PA' P' s n => ?_) (fun e SU' NX' NT' PA' P' s n => ?_) N 0 (N + 1) NX NT PA P (by omega) (by omega) (fun q hq => absurd hq (by omega)) hNX
    · exact absurd e (f2 r (by omega))
    · exact ih (r + 1) fuel SU' NX' NT' PA' P' (by omega) (by omega) s n
theorem xn_analyze {post : Int32 → St2 → Prop} {r0 : Nat} (hN : N ≤ 8) (hs : rl_slots N U sz S a_slotStates a_slotArities a_slotSizes szY a_slotStarts bk ba bb a_kinds a_firstOperands a_secondOperands a_children a_parents a_depths)
    (hNX : ∀ q, 3 * N ≤ q → q < 24 → a_nextSummaries q = 0) (hr : r0 ≤ 1056) (f1 : ∀ q, q < 24 → sp_T N (rl_K bk) (rl_K ba) (rl_K bb) a_slotStates a_slotArities sz (r0 + 1) q = sp_T N (rl_K bk) (rl_K ba) (rl_K bb) a_slotStates a_slotArities sz r0 q) (f2 : ∀ j, j < r0 → ¬ ∀ q, q < 24 → sp_T N (rl_K bk) (rl_K ba) (rl_K bb) a_slotStates a_slotArities sz (j + 1) q = sp_T N (rl_K bk) (rl_K ba) (rl_K bb) a_slotStates a_slotArities sz j q)
    (H : ∀ SU NX NT PA P : Nat → Int32, (∀ q, q < 24 → SU q = ty_x (sp_T N (rl_K bk) (rl_K ba) (rl_K bb) a_slotStates a_slotArities sz (r0 + 1) q)) → (∀ q, 3 * N ≤ q → q < 24 → NX q = 0) → post (nI (an_cnt a_slotStates (sp_T N (rl_K bk) (rl_K ba) (rl_K bb) a_slotStates a_slotArities sz (r0 + 1)) N)) (nI N, f_capacity, f_nodesUsed, f_buildingSlot, f_pendingCount, 1, f_callsActive, f_callsMade, f_runOutcome, f_runValue, a_slotStates, a_slotArities, a_slotStarts, a_slotSizes, a_kinds, a_firstOperands, a_secondOperands, a_children, a_parents, a_depths, a_pendingNodes, SU, NX, NT, PA, P, a_values, a_arguments, a_frameSlots, a_frameNodes)) :
    wpX_analyze post (nI N, f_capacity, f_nodesUsed, f_buildingSlot, f_pendingCount, f_summariesCurrent, f_callsActive, f_callsMade, f_runOutcome, f_runValue, a_slotStates, a_slotArities, a_slotStarts, a_slotSizes, a_kinds, a_firstOperands, a_secondOperands, a_children, a_parents, a_depths, a_pendingNodes, a_summaries, a_nextSummaries, a_nodeTypes, a_paramsAfter, a_params, a_values, a_arguments, a_frameSlots, a_frameNodes) := by
  have loop : ∀ d i fuel (SU : Nat → Int32), i + d = 24 → d < fuel → (∀ q, q < i → SU q = 0) → wX_analyze_2 post (nI N) f_capacity f_nodesUsed f_buildingSlot f_pendingCount f_summariesCurrent f_callsActive f_callsMade f_runOutcome f_runValue fuel (nI i) a_slotStates a_slotArities a_slotStarts a_slotSizes a_kinds a_firstOperands a_secondOperands a_children a_parents a_depths a_pendingNodes SU a_nextSummaries a_nodeTypes a_paramsAfter a_params a_values a_arguments a_frameSlots a_frameNodes := by
    intro d
    induction d with
    | zero =>
      intro i fuel SU h1 h2 s
      obtain ⟨fuel, rfl⟩ : ∃ m, fuel = m + 1 := ⟨fuel - 1, by omega⟩
      obtain rfl : i = 24 := by omega
      exact br_t (by decide) ⟨r0 + 2, xn_25 hN hs hr f1 f2 H r0 0 (r0 + 2) SU a_nextSummaries a_nodeTypes a_paramsAfter a_params (by omega) (by omega) (fun q hq => by rw [s q hq]; exact ty_x_00.symm) hNX⟩
    | succ d ih =>
      intro i fuel SU h1 h2 s
      obtain ⟨fuel, rfl⟩ : ∃ m, fuel = m + 1 := ⟨fuel - 1, by omega⟩
      refine br_f (nI_ge (b := 24) (by omega) (by decide)) ⟨vp_in_nI (by omega) (by decide), ?_⟩
      rw [nI_clamp (by omega)]
      refine nm_e (nm_r (nI_1 i) (ih (i + 1) fuel _ (by omega) (by omega) fun q hq => ?_))
      by_cases e : q = i
      · subst e; exact pk_us
      · rw [pk_un e]; exact s q (by omega)
  exact ⟨25, loop 24 0 25 a_summaries (by omega) (by omega) (fun q hq => absurd hq (Nat.not_lt_zero q))⟩
end
end
section
def xq_k (post : Int32 → St2 → Prop) (t fuel : Nat) : St2 → Prop := fun u => match u with
  | (f_slotCount, f_capacity, f_nodesUsed, f_buildingSlot, f_pendingCount, f_summariesCurrent, f_callsActive, f_callsMade, f_runOutcome, f_runValue, a_slotStates, a_slotArities, a_slotStarts, a_slotSizes, a_kinds, a_firstOperands, a_secondOperands, a_children, a_parents, a_depths, a_pendingNodes, a_summaries, a_nextSummaries, a_nodeTypes, a_paramsAfter, a_params, a_values, a_arguments, a_frameSlots, a_frameNodes) => ∀ x : Int32, x = nI t + 1 → wX_run_88 post fuel x f_slotCount f_capacity f_nodesUsed f_buildingSlot f_pendingCount f_summariesCurrent f_callsActive f_callsMade f_runOutcome f_runValue a_slotStates a_slotArities a_slotStarts a_slotSizes a_kinds a_firstOperands a_secondOperands a_children a_parents a_depths a_pendingNodes a_summaries a_nextSummaries a_nodeTypes a_paramsAfter a_params a_values a_arguments a_frameSlots a_frameNodes
def xq_R (post : Int32 → St2 → Prop) (f_slotCount f_capacity f_nodesUsed f_buildingSlot f_pendingCount f_summariesCurrent f_callsActive f_callsMade f_runOutcome f_runValue : Int32) (a_slotStates a_slotArities a_slotStarts a_slotSizes a_kinds a_firstOperands a_secondOperands a_children a_parents a_depths a_pendingNodes a_summaries a_nextSummaries a_nodeTypes a_paramsAfter a_params a_values a_arguments a_frameSlots a_frameNodes : Nat → Int32) (t a m : Nat) (Z : Nat → Nat → Int32) : Prop :=
  ∀ fuel, 1000000 < t + fuel → wX_run_88 post fuel (nI t) f_slotCount f_capacity f_nodesUsed f_buildingSlot f_pendingCount f_summariesCurrent (nI a) (nI m) (-1) 0 a_slotStates a_slotArities a_slotStarts a_slotSizes a_kinds a_firstOperands a_secondOperands a_children a_parents a_depths a_pendingNodes a_summaries a_nextSummaries a_nodeTypes a_paramsAfter a_params (Z 0) (Z 1) (Z 2) (Z 3)
def xq_F (post : Int32 → St2 → Prop) (f_slotCount f_capacity f_nodesUsed f_buildingSlot f_pendingCount f_summariesCurrent f_callsActive f_callsMade f_runOutcome f_runValue : Int32) (a_slotStates a_slotArities a_slotStarts a_slotSizes a_kinds a_firstOperands a_secondOperands a_children a_parents a_depths a_pendingNodes a_summaries a_nextSummaries a_nodeTypes a_paramsAfter a_params a_values a_arguments a_frameSlots a_frameNodes : Nat → Int32) (t fr r : Nat) (v : Int32) (m : Nat) (Z : Nat → Nat → Int32) : Prop :=
  ∀ t' fuel, t = t' + 1 → t ≤ 1000000 → 1000000 < t + fuel → wpX_finishNode (xq_k post t' fuel) (f_slotCount, f_capacity, f_nodesUsed, f_buildingSlot, f_pendingCount, f_summariesCurrent, nI (fr + 1), nI m, -1, 0, a_slotStates, a_slotArities, a_slotStarts, a_slotSizes, a_kinds, a_firstOperands, a_secondOperands, a_children, a_parents, a_depths, a_pendingNodes, a_summaries, a_nextSummaries, a_nodeTypes, a_paramsAfter, a_params, Z 0, Z 1, Z 2, Z 3) (nI fr) (nI r) v
def xq_E (post : Int32 → St2 → Prop) (f_slotCount f_capacity f_nodesUsed f_buildingSlot f_pendingCount f_summariesCurrent f_callsActive f_callsMade f_runOutcome f_runValue : Int32) (a_slotStates a_slotArities a_slotStarts a_slotSizes a_kinds a_firstOperands a_secondOperands a_children a_parents a_depths a_pendingNodes a_summaries a_nextSummaries a_nodeTypes a_paramsAfter a_params a_values a_arguments a_frameSlots a_frameNodes : Nat → Int32) (o : Int32) : Prop :=
  ∀ (ca cm : Int32) (V AR FS FN : Nat → Int32), post o (f_slotCount, f_capacity, f_nodesUsed, f_buildingSlot, f_pendingCount, f_summariesCurrent, ca, cm, o, 0, a_slotStates, a_slotArities, a_slotStarts, a_slotSizes, a_kinds, a_firstOperands, a_secondOperands, a_children, a_parents, a_depths, a_pendingNodes, a_summaries, a_nextSummaries, a_nodeTypes, a_paramsAfter, a_params, V, AR, FS, FN)
section
variable {f_slotCount f_capacity f_nodesUsed f_buildingSlot f_pendingCount f_summariesCurrent f_callsActive f_callsMade f_runOutcome f_runValue : Int32} {a_slotStates a_slotArities a_slotStarts a_slotSizes a_kinds a_firstOperands a_secondOperands a_children a_parents a_depths a_pendingNodes a_summaries a_nextSummaries a_nodeTypes a_paramsAfter a_params a_values a_arguments a_frameSlots a_frameNodes : Nat → Int32} {post : Int32 → St2 → Prop}
theorem xq_end {o : Int32} {t fuel : Nat} {ca cm : Int32} {V AR FS FN : Nat → Int32} (ho : o ≠ -1) (h : xq_E post f_slotCount f_capacity f_nodesUsed f_buildingSlot f_pendingCount f_summariesCurrent f_callsActive f_callsMade f_runOutcome f_runValue a_slotStates a_slotArities a_slotStarts a_slotSizes a_kinds a_firstOperands a_secondOperands a_children a_parents a_depths a_pendingNodes a_summaries a_nextSummaries a_nodeTypes a_paramsAfter a_params a_values a_arguments a_frameSlots a_frameNodes o) (hf : 0 < fuel) : xq_k post t fuel (f_slotCount, f_capacity, f_nodesUsed, f_buildingSlot, f_pendingCount, f_summariesCurrent, ca, cm, o, 0, a_slotStates, a_slotArities, a_slotStarts, a_slotSizes, a_kinds, a_firstOperands, a_secondOperands, a_children, a_parents, a_depths, a_pendingNodes, a_summaries, a_nextSummaries, a_nodeTypes, a_paramsAfter, a_params, V, AR, FS, FN) := by
  obtain ⟨fuel, rfl⟩ : ∃ m, fuel = m + 1 := ⟨fuel - 1, by omega⟩
  intro x _
  exact br_c (fun _ => h _ _ _ _ _ _) (fun _ => br_f ho (h _ _ _ _ _ _))
section
variable {N k n S : Nat} {K A B : Nat → Int32}
theorem xv_child {Q : Int32 → Prop} (hB : rl_body N k n S K A B a_kinds a_firstOperands a_secondOperands a_children a_parents a_depths) {i j fr : Nat} (hi : i < n) (hj : j < rl_c K B i) (hf : fr < 16) (H : Q (a_values (fr * 128 + (S + bs_ch (rl_c K B) i j)))) : wpX_childValue Q (f_slotCount, f_capacity, f_nodesUsed, f_buildingSlot, f_pendingCount, f_summariesCurrent, f_callsActive, f_callsMade, f_runOutcome, f_runValue, a_slotStates, a_slotArities, a_slotStarts, a_slotSizes, a_kinds, a_firstOperands, a_secondOperands, a_children, a_parents, a_depths, a_pendingNodes, a_summaries, a_nextSummaries, a_nodeTypes, a_paramsAfter, a_params, a_values, a_arguments, a_frameSlots, a_frameNodes) (nI fr) (nI (S + i)) (nI j) := by
  obtain ⟨w, cl, r, l⟩ := xc_child hB hi hj
  have hS := hB.1
  unfold wpX_childValue
  dsimp only
  rw [xc_3, nI_add, cl, r, show (128 : Int32) = nI 128 by decide, pk_mul, nI_add, nI_clamp (n := fr * 128 + (S + bs_ch (rl_c K B) i j)) (by omega)]
  exact ⟨w, vp_in_nI (by omega) (by omega), H⟩
theorem xv_leaf {Q : Int32 → Prop} (hB : rl_body N k n S K A B a_kinds a_firstOperands a_secondOperands a_children a_parents a_depths) (hk : k ≤ 2) {i fr : Nat} (hi : i < n) (hf : fr < 16) (h : K i = 0 ∨ K i = 1 ∨ K i = 2)
    (H : Q (if K i = 0 then A i else if K i = 1 then 1000 + A i else if A i = 0 then a_arguments (fr * 2) else a_arguments (fr * 2 + 1))) : wpX_evaluate Q (f_slotCount, f_capacity, f_nodesUsed, f_buildingSlot, f_pendingCount, f_summariesCurrent, f_callsActive, f_callsMade, f_runOutcome, f_runValue, a_slotStates, a_slotArities, a_slotStarts, a_slotSizes, a_kinds, a_firstOperands, a_secondOperands, a_children, a_parents, a_depths, a_pendingNodes, a_summaries, a_nextSummaries, a_nodeTypes, a_paramsAfter, a_params, a_values, a_arguments, a_frameSlots, a_frameNodes) (nI fr) (nI (S + i)) := by
  obtain ⟨w, cl, rk, ra, rb⟩ := xc_row hB hi
  unfold wpX_evaluate
  dsimp only
  rw [cl, ra, rk]
  rcases h with h | h | h
  · rw [if_pos h] at H
    rw [h]
    exact ⟨w, nm_e (br_f (by decide) (br_f (by decide) (br_t rfl ⟨w, H⟩)))⟩
  · rw [if_neg (by rw [h]; decide), if_pos h] at H
    rw [h]
    exact ⟨w, nm_e (br_f (by decide) (br_f (by decide) (br_f (by decide) (br_t rfl ⟨w, H⟩))))⟩
  · rw [if_neg (by rw [h]; decide), if_neg (by rw [h]; decide)] at H
    obtain ⟨j, hj, ej⟩ := (hB.2.1.1 i hi).2.2.2.1 h
    have jj : j = 0 ∨ j = 1 := by omega
    rw [h, ej, xc_2, nI_add, nI_clamp (n := fr * 2 + j) (by omega)]
    refine ⟨w, nm_e (br_f (by decide) (br_f (by decide) (br_f (by decide) (br_f (by decide) (br_t rfl ⟨w, vp_in_nI (by omega) (by omega), ?_⟩)))))⟩
    rw [ej] at H
    rcases jj with rfl | rfl
    · rw [if_pos nI_0] at H; exact H
    · rw [if_neg (by decide)] at H; exact H
theorem rn_int {v : Int32} (h : rn_ok v) : (-99 ≤ v.toInt ∧ v.toInt ≤ 99) ↔ ¬ 1000 ≤ v := by
  rw [Int32.le_iff_toInt_le, ty_k0]
  rcases h with h | h <;> omega
theorem xv_110 {Q : Int32 → Prop} {z : Int32} (h1 : ¬ z < -99 → ¬ 99 < z → Q z) (h0 : z < -99 ∨ 99 < z → Q 2000) : wX_evaluatePair_110 Q z f_slotCount f_capacity f_nodesUsed f_buildingSlot f_pendingCount f_summariesCurrent f_callsActive f_callsMade f_runOutcome f_runValue a_slotStates a_slotArities a_slotStarts a_slotSizes a_kinds a_firstOperands a_secondOperands a_children a_parents a_depths a_pendingNodes a_summaries a_nextSummaries a_nodeTypes a_paramsAfter a_params a_values a_arguments a_frameSlots a_frameNodes := by
  unfold wX_evaluatePair_110
  refine xt_isInt (fun a b => br_f (by decide) (h1 ?_ ?_)) (fun n => br_t rfl (h0 ?_))
  · rw [Int32.lt_iff_toInt_lt, ty_m99]; omega
  · rw [Int32.lt_iff_toInt_lt, ty_p99]; omega
  · rw [Int32.lt_iff_toInt_lt, ty_m99, Int32.lt_iff_toInt_lt, ty_p99]; omega
theorem xv_pair {Q : Int32 → Prop} (hB : rl_body N k n S K A B a_kinds a_firstOperands a_secondOperands a_children a_parents a_depths) {i fr m : Nat} (hi : i < n) (hf : fr < 16) (h : K i = 3 ∨ K i = 4 ∨ K i = 5 ∨ K i = 6) (hc : rl_c K B i = 2) {v w : Int32} (ov : rn_ok v) (ow : rn_ok w)
    (hv : a_values (fr * 128 + (S + bs_ch (rl_c K B) i 0)) = v) (hw : a_values (fr * 128 + (S + bs_ch (rl_c K B) i 1)) = w)
    (H1 : (rn_op (K i) v w m).1 = -1 → Q (rn_op (K i) v w m).2.1) (H0 : (rn_op (K i) v w m).1 ≠ -1 → Q 2000) : wpX_evaluate Q (f_slotCount, f_capacity, f_nodesUsed, f_buildingSlot, f_pendingCount, f_summariesCurrent, f_callsActive, f_callsMade, f_runOutcome, f_runValue, a_slotStates, a_slotArities, a_slotStarts, a_slotSizes, a_kinds, a_firstOperands, a_secondOperands, a_children, a_parents, a_depths, a_pendingNodes, a_summaries, a_nextSummaries, a_nodeTypes, a_paramsAfter, a_params, a_values, a_arguments, a_frameSlots, a_frameNodes) (nI fr) (nI (S + i)) := by
  obtain ⟨wr, cl, rk, ra, rb⟩ := xc_row hB hi
  have iv := rn_int ov
  have iw := rn_int ow
  have pair : wpX_evaluatePair Q (f_slotCount, f_capacity, f_nodesUsed, f_buildingSlot, f_pendingCount, f_summariesCurrent, f_callsActive, f_callsMade, f_runOutcome, f_runValue, a_slotStates, a_slotArities, a_slotStarts, a_slotSizes, a_kinds, a_firstOperands, a_secondOperands, a_children, a_parents, a_depths, a_pendingNodes, a_summaries, a_nextSummaries, a_nodeTypes, a_paramsAfter, a_params, a_values, a_arguments, a_frameSlots, a_frameNodes) (nI fr) (nI (S + i)) := by
    unfold wpX_evaluatePair
    dsimp only
    refine xv_child (j := 0) hB hi (by omega) hf ?_
    refine xv_child (j := 1) hB hi (by omega) hf ?_
    rw [hv, hw, cl, rk]
    refine ⟨wr, ?_⟩
    unfold rn_op at H1 H0
    by_cases k6 : K i = 6
    · rw [if_pos k6] at H1
      refine br_t k6 ?_
      by_cases e : v = w
      · rw [if_pos e] at H1; exact br_t e (H1 rfl)
      · rw [if_neg e] at H1; exact br_f e (H1 rfl)
    · rw [if_neg k6] at H1 H0
      refine br_f k6 ?_
      refine xt_isInt (fun a b => br_f (by decide) ?_) (fun nn => br_t rfl ?_)
      · rw [if_neg (iv.mp ⟨a, b⟩)] at H1 H0
        refine xt_isInt (fun a b => br_f (by decide) ⟨wr, ?_⟩) (fun nn => br_t rfl ?_)
        · rw [if_neg (iw.mp ⟨a, b⟩)] at H1 H0
          by_cases k5 : K i = 5
          · rw [if_pos k5] at H1
            refine br_t k5 ?_
            by_cases e : w ≤ v
            · rw [if_neg (Int32.not_lt.mpr e)] at H1; exact br_t e (H1 rfl)
            · rw [if_pos (Int32.not_le.mp e)] at H1; exact br_f e (H1 rfl)
          · rw [if_neg k5] at H1 H0
            refine br_f k5 ⟨wr, ?_⟩
            have fin : ∀ z : Int32, z = rn_ar (K i) v w → wX_evaluatePair_110 Q z f_slotCount f_capacity f_nodesUsed f_buildingSlot f_pendingCount f_summariesCurrent f_callsActive f_callsMade f_runOutcome f_runValue a_slotStates a_slotArities a_slotStarts a_slotSizes a_kinds a_firstOperands a_secondOperands a_children a_parents a_depths a_pendingNodes a_summaries a_nextSummaries a_nodeTypes a_paramsAfter a_params a_values a_arguments a_frameSlots a_frameNodes := by
              intro z ez
              rw [← ez] at H1 H0
              refine xv_110 (fun a b => ?_) (fun o => ?_)
              · rw [if_neg a, if_neg b] at H1; exact H1 rfl
              · by_cases a : z < -99
                · rw [if_pos a] at H0; exact H0 (rn_n1 _ _)
                · rw [if_neg a, if_pos (o.resolve_left a)] at H0; exact H0 (rn_n1 _ _)
            by_cases k3 : K i = 3
            · exact br_t k3 (fin _ (by unfold rn_ar; rw [if_pos k3]))
            · exact br_f k3 (fin _ (by unfold rn_ar; rw [if_neg k3]))
        · have nw : 1000 ≤ w := Classical.byContradiction fun z => nn (iw.mpr z)
          rw [if_pos nw] at H0
          exact H0 (rn_n1 _ _)
      · have nv : 1000 ≤ v := Classical.byContradiction fun z => nn (iv.mpr z)
        rw [if_pos nv] at H0
        exact H0 (rn_n1 _ _)
  have pair' : wX_evaluate_104 Q (nI fr) (nI (S + i)) f_slotCount f_capacity f_nodesUsed f_buildingSlot f_pendingCount f_summariesCurrent f_callsActive f_callsMade f_runOutcome f_runValue a_slotStates a_slotArities a_slotStarts a_slotSizes a_kinds a_firstOperands a_secondOperands a_children a_parents a_depths a_pendingNodes a_summaries a_nextSummaries a_nodeTypes a_paramsAfter a_params a_values a_arguments a_frameSlots a_frameNodes := pair
  unfold wpX_evaluate
  dsimp only
  rw [cl, rk]
  rcases h with h | h | h | h <;> rw [h]
  · exact ⟨wr, nm_e (br_f (by decide) (br_f (by decide) (br_f (by decide) (br_f (by decide) (br_f (by decide) (br_t rfl pair'))))))⟩
  · exact ⟨wr, nm_e (br_f (by decide) (br_f (by decide) (br_f (by decide) (br_f (by decide) (br_f (by decide) (br_f (by decide) (br_t rfl pair')))))))⟩
  · exact ⟨wr, nm_e (br_f (by decide) (br_f (by decide) (br_f (by decide) (br_f (by decide) (br_f (by decide) (br_f (by decide) (br_f (by decide) (br_t rfl pair'))))))))⟩
  · exact ⟨wr, nm_e (br_f (by decide) (br_f (by decide) (br_f (by decide) (br_f (by decide) (br_f (by decide) (br_f (by decide) (br_f (by decide) (br_f (by decide) (br_t rfl pair')))))))))⟩
theorem xv_isi {Q : Int32 → Prop} (hB : rl_body N k n S K A B a_kinds a_firstOperands a_secondOperands a_children a_parents a_depths) {i fr : Nat} (hi : i < n) (hf : fr < 16) (h : K i = 7) {v : Int32} (ov : rn_ok v) (hv : a_values (fr * 128 + (S + bs_ch (rl_c K B) i 0)) = v)
    (H : Q (if v < 1000 then 1001 else 1000)) : wpX_evaluate Q (f_slotCount, f_capacity, f_nodesUsed, f_buildingSlot, f_pendingCount, f_summariesCurrent, f_callsActive, f_callsMade, f_runOutcome, f_runValue, a_slotStates, a_slotArities, a_slotStarts, a_slotSizes, a_kinds, a_firstOperands, a_secondOperands, a_children, a_parents, a_depths, a_pendingNodes, a_summaries, a_nextSummaries, a_nodeTypes, a_paramsAfter, a_params, a_values, a_arguments, a_frameSlots, a_frameNodes) (nI fr) (nI (S + i)) := by
  obtain ⟨wr, cl, rk, ra, rb⟩ := xc_row hB hi
  have c1 := ab_c7 hB.2.1 h
  have iv := rn_int ov
  unfold wpX_evaluate
  dsimp only
  rw [cl, rk, h]
  refine ⟨wr, nm_e (br_f (by decide) (br_f (by decide) (br_f (by decide) (br_f (by decide) (br_f (by decide) (br_f (by decide) (br_f (by decide) (br_f (by decide) (br_f (by decide) (br_t rfl ?_))))))))))⟩
  unfold wpX_evaluateIsInt
  dsimp only
  refine xv_child (j := 0) hB hi (by omega) hf ?_
  rw [hv]
  refine xt_isInt (fun a b => br_f (by decide) ?_) (fun nn => br_t rfl ?_)
  · rw [if_pos (Int32.not_le.mp (iv.mp ⟨a, b⟩))] at H; exact H
  · rw [if_neg (fun z => nn (iv.mpr (Int32.not_le.mpr z)))] at H; exact H
theorem xv_if {Q : Int32 → Prop} (hB : rl_body N k n S K A B a_kinds a_firstOperands a_secondOperands a_children a_parents a_depths) {i fr : Nat} (hi : i < n) (hf : fr < 16) (h : K i = 8)
    (H : Q (if a_values (fr * 128 + (S + bs_ch (rl_c K B) i 0)) = 1001 then a_values (fr * 128 + (S + bs_ch (rl_c K B) i 1)) else a_values (fr * 128 + (S + bs_ch (rl_c K B) i 2)))) : wpX_evaluate Q (f_slotCount, f_capacity, f_nodesUsed, f_buildingSlot, f_pendingCount, f_summariesCurrent, f_callsActive, f_callsMade, f_runOutcome, f_runValue, a_slotStates, a_slotArities, a_slotStarts, a_slotSizes, a_kinds, a_firstOperands, a_secondOperands, a_children, a_parents, a_depths, a_pendingNodes, a_summaries, a_nextSummaries, a_nodeTypes, a_paramsAfter, a_params, a_values, a_arguments, a_frameSlots, a_frameNodes) (nI fr) (nI (S + i)) := by
  obtain ⟨wr, cl, rk, ra, rb⟩ := xc_row hB hi
  have c3 := ab_c8 hB.2.1 h
  unfold wpX_evaluate
  dsimp only
  rw [cl, rk, h]
  refine ⟨wr, nm_e (br_f (by decide) (br_f (by decide) (br_f (by decide) (br_f (by decide) (br_f (by decide) (br_f (by decide) (br_f (by decide) (br_f (by decide) (br_f (by decide) (br_f (by decide) (br_t rfl ?_)))))))))))⟩
  unfold wpX_evaluateIf
  dsimp only
  refine xv_child (j := 0) hB hi (by omega) hf ?_
  by_cases c : a_values (fr * 128 + (S + bs_ch (rl_c K B) i 0)) = 1001
  · rw [if_pos c] at H
    exact br_t c (xv_child (j := 1) hB hi (by omega) hf H)
  · rw [if_neg c] at H
    exact br_f c (xv_child (j := 2) hB hi (by omega) hf H)
end
end
end
section
def xq_z (a b c d : Nat → Int32) : Nat → Nat → Int32 := fun q => match q with
  | 0 => a
  | 1 => b
  | 2 => c
  | _ => d
section
variable {f_slotCount f_capacity f_nodesUsed f_buildingSlot f_pendingCount f_summariesCurrent f_callsActive f_callsMade f_runOutcome f_runValue : Int32} {a_slotStates a_slotArities a_slotStarts a_slotSizes a_kinds a_firstOperands a_secondOperands a_children a_parents a_depths a_pendingNodes a_summaries a_nextSummaries a_nodeTypes a_paramsAfter a_params a_values a_arguments a_frameSlots a_frameNodes : Nat → Int32} {post : Int32 → St2 → Prop} {N U : Nat} {sz S : Nat → Nat} {szY bk ba bb : Nat → Int32}
theorem xq_g (hs : rl_slots N U sz S a_slotStates a_slotArities a_slotSizes szY a_slotStarts bk ba bb a_kinds a_firstOperands a_secondOperands a_children a_parents a_depths) {g : Nat} (hg : g < N) (s2 : a_slotStates g = 2) : ∃ k : Nat, k ≤ 2 ∧ a_slotArities g = nI k ∧ a_slotSizes g = nI (sz g) ∧ a_slotStarts g = nI (S g) ∧ 0 < sz g ∧ a_parents (S g + (sz g - 1)) = -1 ∧
    rl_body N k (sz g) (S g) (rl_K bk g) (rl_K ba g) (rl_K bb g) a_kinds a_firstOperands a_secondOperands a_children a_parents a_depths := by
  obtain ⟨_, h1, h2⟩ := hs g hg
  obtain ⟨e1, e2, e3, e4, k, hk, ek, hB⟩ := h1 (by rw [s2]; decide)
  obtain ⟨n0, pc1, pr⟩ := h2 s2
  exact ⟨k, hk, ek, e1, e3, n0, pr, hB⟩
theorem xq_move {Q : St2 → Prop} {fr g i m : Nat} {Z : Nat → Nat → Int32} (hN : N ≤ 8) (hs : rl_slots N U sz S a_slotStates a_slotArities a_slotSizes szY a_slotStarts bk ba bb a_kinds a_firstOperands a_secondOperands a_children a_parents a_depths) (hf : fr < 16) (hg : g < N) (s2 : a_slotStates g = 2) (hi : i < sz g) (hat : xr_at S Z fr g i)
    (H9 : rl_K bk g i = 9 → wpX_tryCall (fun u => match u with | (f_slotCount, f_capacity, f_nodesUsed, f_buildingSlot, f_pendingCount, f_summariesCurrent, f_callsActive, f_callsMade, f_runOutcome, f_runValue, a_slotStates, a_slotArities, a_slotStarts, a_slotSizes, a_kinds, a_firstOperands, a_secondOperands, a_children, a_parents, a_depths, a_pendingNodes, a_summaries, a_nextSummaries, a_nodeTypes, a_paramsAfter, a_params, a_values, a_arguments, a_frameSlots, a_frameNodes) => Q (f_slotCount, f_capacity, f_nodesUsed, f_buildingSlot, f_pendingCount, f_summariesCurrent, f_callsActive, f_callsMade, f_runOutcome, f_runValue, a_slotStates, a_slotArities, a_slotStarts, a_slotSizes, a_kinds, a_firstOperands, a_secondOperands, a_children, a_parents, a_depths, a_pendingNodes, a_summaries, a_nextSummaries, a_nodeTypes, a_paramsAfter, a_params, a_values, a_arguments, a_frameSlots, a_frameNodes)) (f_slotCount, f_capacity, f_nodesUsed, f_buildingSlot, f_pendingCount, f_summariesCurrent, nI (fr + 1), nI m, -1, 0, a_slotStates, a_slotArities, a_slotStarts, a_slotSizes, a_kinds, a_firstOperands, a_secondOperands, a_children, a_parents, a_depths, a_pendingNodes, a_summaries, a_nextSummaries, a_nodeTypes, a_paramsAfter, a_params, Z 0, Z 1, Z 2, Z 3) (nI fr) (nI (S g + i))) (H0 : ¬ rl_K bk g i = 9 → wpX_evaluate (fun r => wpX_finishNode (fun u => match u with | (f_slotCount, f_capacity, f_nodesUsed, f_buildingSlot, f_pendingCount, f_summariesCurrent, f_callsActive, f_callsMade, f_runOutcome, f_runValue, a_slotStates, a_slotArities, a_slotStarts, a_slotSizes, a_kinds, a_firstOperands, a_secondOperands, a_children, a_parents, a_depths, a_pendingNodes, a_summaries, a_nextSummaries, a_nodeTypes, a_paramsAfter, a_params, a_values, a_arguments, a_frameSlots, a_frameNodes) => Q (f_slotCount, f_capacity, f_nodesUsed, f_buildingSlot, f_pendingCount, f_summariesCurrent, f_callsActive, f_callsMade, f_runOutcome, f_runValue, a_slotStates, a_slotArities, a_slotStarts, a_slotSizes, a_kinds, a_firstOperands, a_secondOperands, a_children, a_parents, a_depths, a_pendingNodes, a_summaries, a_nextSummaries, a_nodeTypes, a_paramsAfter, a_params, a_values, a_arguments, a_frameSlots, a_frameNodes)) (f_slotCount, f_capacity, f_nodesUsed, f_buildingSlot, f_pendingCount, f_summariesCurrent, nI (fr + 1), nI m, -1, 0, a_slotStates, a_slotArities, a_slotStarts, a_slotSizes, a_kinds, a_firstOperands, a_secondOperands, a_children, a_parents, a_depths, a_pendingNodes, a_summaries, a_nextSummaries, a_nodeTypes, a_paramsAfter, a_params, Z 0, Z 1, Z 2, Z 3) (nI fr) (nI (S g + i)) r) (f_slotCount, f_capacity, f_nodesUsed, f_buildingSlot, f_pendingCount, f_summariesCurrent, nI (fr + 1), nI m, -1, 0, a_slotStates, a_slotArities, a_slotStarts, a_slotSizes, a_kinds, a_firstOperands, a_secondOperands, a_children, a_parents, a_depths, a_pendingNodes, a_summaries, a_nextSummaries, a_nodeTypes, a_paramsAfter, a_params, Z 0, Z 1, Z 2, Z 3) (nI fr) (nI (S g + i))) :
    wpX_makeMove Q (f_slotCount, f_capacity, f_nodesUsed, f_buildingSlot, f_pendingCount, f_summariesCurrent, nI (fr + 1), nI m, -1, 0, a_slotStates, a_slotArities, a_slotStarts, a_slotSizes, a_kinds, a_firstOperands, a_secondOperands, a_children, a_parents, a_depths, a_pendingNodes, a_summaries, a_nextSummaries, a_nodeTypes, a_paramsAfter, a_params, Z 0, Z 1, Z 2, Z 3) := by
  obtain ⟨k, hk, ek, e1, e3, n0, pr, hB⟩ := xq_g hs hg s2
  obtain ⟨wr, cr, rk, ra, rb⟩ := xc_row hB hi
  have hS := hB.1
  have wf : vp_in (nI fr) 16 := vp_in_nI hf (by decide)
  have cf : (nI fr).toNatClampNeg = fr := nI_clamp (by omega)
  have wg : vp_in (nI g) 8 := vp_in_nI (by omega) (by decide)
  have cg : (nI g).toNatClampNeg = g := nI_clamp (by omega)
  unfold wpX_makeMove
  dsimp only
  refine nm_r (nI_pred fr) ⟨wf, nm_r (e' := nI (S g + i)) (by rw [cf]; exact hat.2) ⟨wf, nm_r (e' := nI g) (by rw [cf]; exact hat.1) ⟨wg, wg, ?_⟩⟩⟩
  rw [cg, e1, e3, nI_add]
  refine br_f (fun z => by rw [nI_eq (by omega) (by omega)] at z; omega) ⟨wr, ?_⟩
  rw [cr, rk]
  exact br_c H9 H0
theorem xq_st {fr m t : Nat} {Z : Nat → Nat → Int32} (ht : t < 1000000) (h : ∀ fuel, 1000000 < t + 1 + fuel → wpX_makeMove (xq_k post t fuel) (f_slotCount, f_capacity, f_nodesUsed, f_buildingSlot, f_pendingCount, f_summariesCurrent, nI (fr + 1), nI m, -1, 0, a_slotStates, a_slotArities, a_slotStarts, a_slotSizes, a_kinds, a_firstOperands, a_secondOperands, a_children, a_parents, a_depths, a_pendingNodes, a_summaries, a_nextSummaries, a_nodeTypes, a_paramsAfter, a_params, Z 0, Z 1, Z 2, Z 3)) : xq_R post f_slotCount f_capacity f_nodesUsed f_buildingSlot f_pendingCount f_summariesCurrent f_callsActive f_callsMade f_runOutcome f_runValue a_slotStates a_slotArities a_slotStarts a_slotSizes a_kinds a_firstOperands a_secondOperands a_children a_parents a_depths a_pendingNodes a_summaries a_nextSummaries a_nodeTypes a_paramsAfter a_params a_values a_arguments a_frameSlots a_frameNodes t (fr + 1) m Z := by
  intro fuel hf
  obtain ⟨fuel, rfl⟩ : ∃ m, fuel = m + 1 := ⟨fuel - 1, by omega⟩
  exact br_f (nI_ge (b := 1000000) ht (by decide)) (br_t rfl (h fuel (by omega)))
theorem xf_2000 {Q : St2 → Prop} {fr r m : Nat} {Z : Nat → Nat → Int32} (hf : fr < 16) (hr : r < 128) (H : ∀ V FN : Nat → Int32, Q (f_slotCount, f_capacity, f_nodesUsed, f_buildingSlot, f_pendingCount, f_summariesCurrent, nI (fr + 1), nI m, 1, 0, a_slotStates, a_slotArities, a_slotStarts, a_slotSizes, a_kinds, a_firstOperands, a_secondOperands, a_children, a_parents, a_depths, a_pendingNodes, a_summaries, a_nextSummaries, a_nodeTypes, a_paramsAfter, a_params, V, Z 1, Z 2, FN)) :
    wpX_finishNode Q (f_slotCount, f_capacity, f_nodesUsed, f_buildingSlot, f_pendingCount, f_summariesCurrent, nI (fr + 1), nI m, -1, 0, a_slotStates, a_slotArities, a_slotStarts, a_slotSizes, a_kinds, a_firstOperands, a_secondOperands, a_children, a_parents, a_depths, a_pendingNodes, a_summaries, a_nextSummaries, a_nodeTypes, a_paramsAfter, a_params, Z 0, Z 1, Z 2, Z 3) (nI fr) (nI r) 2000 := by
  unfold wpX_finishNode
  dsimp only
  rw [show (128 : Int32) = nI 128 by decide, pk_mul, nI_add]
  exact ⟨vp_in_nI (by omega) (by omega), nm_e ⟨vp_in_nI hf (by decide), nm_e (br_t rfl (H _ _))⟩⟩
theorem xq_M1 (hN : N ≤ 8) (hs : rl_slots N U sz S a_slotStates a_slotArities a_slotSizes szY a_slotStarts bk ba bb a_kinds a_firstOperands a_secondOperands a_children a_parents a_depths) : xr_M1 N (rl_K bk) (rl_K ba) a_slotStates sz S (xq_R post f_slotCount f_capacity f_nodesUsed f_buildingSlot f_pendingCount f_summariesCurrent f_callsActive f_callsMade f_runOutcome f_runValue a_slotStates a_slotArities a_slotStarts a_slotSizes a_kinds a_firstOperands a_secondOperands a_children a_parents a_depths a_pendingNodes a_summaries a_nextSummaries a_nodeTypes a_paramsAfter a_params a_values a_arguments a_frameSlots a_frameNodes) (xq_F post f_slotCount f_capacity f_nodesUsed f_buildingSlot f_pendingCount f_summariesCurrent f_callsActive f_callsMade f_runOutcome f_runValue a_slotStates a_slotArities a_slotStarts a_slotSizes a_kinds a_firstOperands a_secondOperands a_children a_parents a_depths a_pendingNodes a_summaries a_nextSummaries a_nodeTypes a_paramsAfter a_params a_values a_arguments a_frameSlots a_frameNodes) := by
  intro t m fr g i Z hin hat hK hF
  obtain ⟨ht, hf, hg, s2, hi⟩ := hin
  obtain ⟨k, hk, ek, e1, e3, n0, pr, hB⟩ := xq_g hs hg s2
  refine xq_st ht fun fuel hfu => xq_move hN hs hf hg s2 hi hat (fun z => absurd z (by rcases hK with h | h | h <;> rw [h] <;> decide)) (fun _ => ?_)
  exact xv_leaf hB hk hi hf hK (hF t fuel rfl (by omega) (by omega))
theorem xq_M2 (hN : N ≤ 8) (hs : rl_slots N U sz S a_slotStates a_slotArities a_slotSizes szY a_slotStarts bk ba bb a_kinds a_firstOperands a_secondOperands a_children a_parents a_depths) : xr_M2 N (rl_K bk) (rl_K bb) a_slotStates sz S (xq_R post f_slotCount f_capacity f_nodesUsed f_buildingSlot f_pendingCount f_summariesCurrent f_callsActive f_callsMade f_runOutcome f_runValue a_slotStates a_slotArities a_slotStarts a_slotSizes a_kinds a_firstOperands a_secondOperands a_children a_parents a_depths a_pendingNodes a_summaries a_nextSummaries a_nodeTypes a_paramsAfter a_params a_values a_arguments a_frameSlots a_frameNodes) (xq_F post f_slotCount f_capacity f_nodesUsed f_buildingSlot f_pendingCount f_summariesCurrent f_callsActive f_callsMade f_runOutcome f_runValue a_slotStates a_slotArities a_slotStarts a_slotSizes a_kinds a_firstOperands a_secondOperands a_children a_parents a_depths a_pendingNodes a_summaries a_nextSummaries a_nodeTypes a_paramsAfter a_params a_values a_arguments a_frameSlots a_frameNodes) (xq_E post f_slotCount f_capacity f_nodesUsed f_buildingSlot f_pendingCount f_summariesCurrent f_callsActive f_callsMade f_runOutcome f_runValue a_slotStates a_slotArities a_slotStarts a_slotSizes a_kinds a_firstOperands a_secondOperands a_children a_parents a_depths a_pendingNodes a_summaries a_nextSummaries a_nodeTypes a_paramsAfter a_params a_values a_arguments a_frameSlots a_frameNodes) := by
  intro t m fr g i v w Z hin hat hK ov ow hv hw hF hE
  obtain ⟨ht, hf, hg, s2, hi⟩ := hin
  obtain ⟨k, hk, ek, e1, e3, n0, pr, hB⟩ := xq_g hs hg s2
  have hS := hB.1
  have hc : rl_c (rl_K bk g) (rl_K bb g) i = 2 := by
    show bs_cc (rl_K bk g i) (rl_K bb g i) = 2
    rcases hK with h | h | h | h <;> rw [h]
    · exact bs_cc3 _
    · exact bs_cc4 _
    · exact bs_cc5 _
    · exact bs_cc6 _
  refine xq_st ht fun fuel hfu => xq_move hN hs hf hg s2 hi hat (fun z => absurd z (by rcases hK with h | h | h | h <;> rw [h] <;> decide)) (fun _ => ?_)
  refine xv_pair (m := m) hB hi hf hK hc ov ow hv hw (fun o => hF o t fuel rfl (by omega) (by omega)) (fun o => xf_2000 hf (by omega) fun V FN => ?_)
  have e1 : (rn_op (rl_K bk g i) v w m).1 = 1 := by
    have := hE o
    unfold rn_op at o ⊢
    split
    · next z => rw [if_pos z] at o; exact absurd rfl o
    · next z =>
      rw [if_neg z] at o
      split
      · rfl
      · next z1 =>
        rw [if_neg z1] at o
        split
        · rfl
        · next z2 =>
          rw [if_neg z2] at o
          split
          · next z3 => rw [if_pos z3] at o; exact absurd rfl o
          · next z3 =>
            rw [if_neg z3] at o
            split
            · rfl
            · next z4 =>
              rw [if_neg z4] at o
              split
              · rfl
              · next z5 => rw [if_neg z5] at o; exact absurd rfl o
  have hE := hE o
  rw [e1] at hE
  exact xq_end (by decide) hE (by omega)
theorem xq_M3 (hN : N ≤ 8) (hs : rl_slots N U sz S a_slotStates a_slotArities a_slotSizes szY a_slotStarts bk ba bb a_kinds a_firstOperands a_secondOperands a_children a_parents a_depths) : xr_M3 N (rl_K bk) (rl_K bb) a_slotStates sz S (xq_R post f_slotCount f_capacity f_nodesUsed f_buildingSlot f_pendingCount f_summariesCurrent f_callsActive f_callsMade f_runOutcome f_runValue a_slotStates a_slotArities a_slotStarts a_slotSizes a_kinds a_firstOperands a_secondOperands a_children a_parents a_depths a_pendingNodes a_summaries a_nextSummaries a_nodeTypes a_paramsAfter a_params a_values a_arguments a_frameSlots a_frameNodes) (xq_F post f_slotCount f_capacity f_nodesUsed f_buildingSlot f_pendingCount f_summariesCurrent f_callsActive f_callsMade f_runOutcome f_runValue a_slotStates a_slotArities a_slotStarts a_slotSizes a_kinds a_firstOperands a_secondOperands a_children a_parents a_depths a_pendingNodes a_summaries a_nextSummaries a_nodeTypes a_paramsAfter a_params a_values a_arguments a_frameSlots a_frameNodes) := by
  intro t m fr g i v Z hin hat hK ov hv hF
  obtain ⟨ht, hf, hg, s2, hi⟩ := hin
  obtain ⟨k, hk, ek, e1, e3, n0, pr, hB⟩ := xq_g hs hg s2
  refine xq_st ht fun fuel hfu => xq_move hN hs hf hg s2 hi hat (fun z => absurd z (by rw [hK]; decide)) (fun _ => ?_)
  exact xv_isi hB hi hf hK ov hv (hF t fuel rfl (by omega) (by omega))
theorem xq_M4 (hN : N ≤ 8) (hs : rl_slots N U sz S a_slotStates a_slotArities a_slotSizes szY a_slotStarts bk ba bb a_kinds a_firstOperands a_secondOperands a_children a_parents a_depths) : xr_M4 N (rl_K bk) (rl_K bb) a_slotStates sz S (xq_R post f_slotCount f_capacity f_nodesUsed f_buildingSlot f_pendingCount f_summariesCurrent f_callsActive f_callsMade f_runOutcome f_runValue a_slotStates a_slotArities a_slotStarts a_slotSizes a_kinds a_firstOperands a_secondOperands a_children a_parents a_depths a_pendingNodes a_summaries a_nextSummaries a_nodeTypes a_paramsAfter a_params a_values a_arguments a_frameSlots a_frameNodes) (xq_F post f_slotCount f_capacity f_nodesUsed f_buildingSlot f_pendingCount f_summariesCurrent f_callsActive f_callsMade f_runOutcome f_runValue a_slotStates a_slotArities a_slotStarts a_slotSizes a_kinds a_firstOperands a_secondOperands a_children a_parents a_depths a_pendingNodes a_summaries a_nextSummaries a_nodeTypes a_paramsAfter a_params a_values a_arguments a_frameSlots a_frameNodes) := by
  intro t m fr g i Z hin hat hK hF
  obtain ⟨ht, hf, hg, s2, hi⟩ := hin
  obtain ⟨k, hk, ek, e1, e3, n0, pr, hB⟩ := xq_g hs hg s2
  refine xq_st ht fun fuel hfu => xq_move hN hs hf hg s2 hi hat (fun z => absurd z (by rw [hK]; decide)) (fun _ => ?_)
  exact xv_if hB hi hf hK (hF t fuel rfl (by omega) (by omega))
theorem xq_M6 (hN : N ≤ 8) (hs : rl_slots N U sz S a_slotStates a_slotArities a_slotSizes szY a_slotStarts bk ba bb a_kinds a_firstOperands a_secondOperands a_children a_parents a_depths) : xr_M6 N a_slotStates sz S (xq_R post f_slotCount f_capacity f_nodesUsed f_buildingSlot f_pendingCount f_summariesCurrent f_callsActive f_callsMade f_runOutcome f_runValue a_slotStates a_slotArities a_slotStarts a_slotSizes a_kinds a_firstOperands a_secondOperands a_children a_parents a_depths a_pendingNodes a_summaries a_nextSummaries a_nodeTypes a_paramsAfter a_params a_values a_arguments a_frameSlots a_frameNodes) (xq_F post f_slotCount f_capacity f_nodesUsed f_buildingSlot f_pendingCount f_summariesCurrent f_callsActive f_callsMade f_runOutcome f_runValue a_slotStates a_slotArities a_slotStarts a_slotSizes a_kinds a_firstOperands a_secondOperands a_children a_parents a_depths a_pendingNodes a_summaries a_nextSummaries a_nodeTypes a_paramsAfter a_params a_values a_arguments a_frameSlots a_frameNodes) := by
  intro t m fr g g' i' Z ht hf hg s2 z0 h2 h3 hg' s2' hi' h3' hF
  obtain ⟨k, hk, ek, e1, e3, n0, pr, hB⟩ := xq_g hs hg s2
  have hS := hB.1
  have wf : vp_in (nI (fr + 1)) 16 := vp_in_nI (by omega) (by decide)
  have cf : (nI (fr + 1)).toNatClampNeg = fr + 1 := nI_clamp (by omega)
  have wg : vp_in (nI g) 8 := vp_in_nI (by omega) (by decide)
  have cg : (nI g).toNatClampNeg = g := nI_clamp (by omega)
  refine xq_st ht fun fuel hfu => ?_
  unfold wpX_makeMove
  dsimp only
  refine nm_r (nI_pred (fr + 1)) ⟨wf, nm_r (e' := nI (S g + sz g)) (by rw [cf]; exact h3) ⟨wf, nm_r (e' := nI g) (by rw [cf]; exact h2) ⟨wg, wg, ?_⟩⟩⟩
  rw [cg, e1, e3, nI_add]
  refine br_t rfl ?_
  unfold wpX_leaveCall
  dsimp only
  rw [show nI (S g + sz g) - 1 = nI (S g + (sz g - 1)) by rw [show S g + (sz g - 1) = S g + sz g - 1 by omega]; exact pk_sub (b := 1) (by omega), show (128 : Int32) = nI 128 by decide, pk_mul, nI_add, nI_clamp (n := (fr + 1) * 128 + (S g + (sz g - 1))) (by omega), nI_pred, nI_clamp (n := fr) (by omega), h3']
  exact ⟨vp_in_nI (by omega) (by omega), nm_e (br_f (nI_ne0 (by omega) (by omega)) ⟨vp_in_nI (by omega) (by decide), hF t fuel rfl (by omega) (by omega)⟩)⟩
/-- a call's entry -/
theorem xq_enter {Q : St2 → Prop} {a g m : Nat} {v w : Int32} {Z : Nat → Nat → Int32} (ha : a < 16) (hg : g < 8) (e3 : a_slotStarts g = nI (S g))
    (H : ∀ Z', Z' = xq_z (Z 0) (upd (upd (Z 1) (a * 2) v) (a * 2 + 1) w) (upd (Z 2) a (nI g)) (upd (Z 3) a (nI (S g))) → Q (f_slotCount, f_capacity, f_nodesUsed, f_buildingSlot, f_pendingCount, f_summariesCurrent, nI (a + 1), nI (m + 1), -1, 0, a_slotStates, a_slotArities, a_slotStarts, a_slotSizes, a_kinds, a_firstOperands, a_secondOperands, a_children, a_parents, a_depths, a_pendingNodes, a_summaries, a_nextSummaries, a_nodeTypes, a_paramsAfter, a_params, Z' 0, Z' 1, Z' 2, Z' 3)) :
    wpX_enterCall Q (f_slotCount, f_capacity, f_nodesUsed, f_buildingSlot, f_pendingCount, f_summariesCurrent, nI a, nI m, -1, 0, a_slotStates, a_slotArities, a_slotStarts, a_slotSizes, a_kinds, a_firstOperands, a_secondOperands, a_children, a_parents, a_depths, a_pendingNodes, a_summaries, a_nextSummaries, a_nodeTypes, a_paramsAfter, a_params, Z 0, Z 1, Z 2, Z 3) (nI g) v w := by
  have wa : vp_in (nI a) 16 := vp_in_nI ha (by decide)
  unfold wpX_enterCall
  dsimp only
  rw [xc_21, xc_2, nI_clamp (n := a * 2) (by omega), nI_clamp (n := a * 2 + 1) (by omega), nI_clamp (n := a) (by omega), nI_clamp (n := g) (by omega), e3]
  exact ⟨vp_in_nI (by omega) (by omega), nm_e ⟨vp_in_nI (by omega) (by omega), nm_e ⟨wa, nm_e ⟨vp_in_nI (by omega) (by decide), wa, nm_e (nm_r (nI_1 a) (nm_r (nI_1 m) (H _ rfl)))⟩⟩⟩⟩
theorem xq_M5 (hN : N ≤ 8) (hs : rl_slots N U sz S a_slotStates a_slotArities a_slotSizes szY a_slotStarts bk ba bb a_kinds a_firstOperands a_secondOperands a_children a_parents a_depths) : xr_M5 N (rl_K bk) (rl_K ba) (rl_K bb) a_slotStates a_slotArities sz S (xq_R post f_slotCount f_capacity f_nodesUsed f_buildingSlot f_pendingCount f_summariesCurrent f_callsActive f_callsMade f_runOutcome f_runValue a_slotStates a_slotArities a_slotStarts a_slotSizes a_kinds a_firstOperands a_secondOperands a_children a_parents a_depths a_pendingNodes a_summaries a_nextSummaries a_nodeTypes a_paramsAfter a_params a_values a_arguments a_frameSlots a_frameNodes) (xq_E post f_slotCount f_capacity f_nodesUsed f_buildingSlot f_pendingCount f_summariesCurrent f_callsActive f_callsMade f_runOutcome f_runValue a_slotStates a_slotArities a_slotStarts a_slotSizes a_kinds a_firstOperands a_secondOperands a_children a_parents a_depths a_pendingNodes a_summaries a_nextSummaries a_nodeTypes a_paramsAfter a_params a_values a_arguments a_frameSlots a_frameNodes) := by
  intro t m fr g i b v w Z hin hat h9 hb hb2 hm a0 a1 a2 hgo hlim hfail
  obtain ⟨ht, hf, hg, s2, hi⟩ := hin
  obtain ⟨k, hk, ek, e1, e3, n0, pr, hB⟩ := xq_g hs hg s2
  obtain ⟨wr, cr, rk, ra, rb⟩ := xc_row hB hi
  obtain ⟨a, ha, ea⟩ := (hB.2.1.1 i hi).2.2.2.2.1 h9
  have wa : vp_in (nI a) 8 := vp_in_nI (by omega) (by decide)
  have ca : (nI a).toNatClampNeg = a := nI_clamp (by omega)
  have hc : rl_c (rl_K bk g) (rl_K bb g) i = b := by rw [ab_c9 hB.2.1 h9, hb, nI_clamp (by omega)]
  rw [ea, ca] at hlim hfail
  refine xq_st ht fun fuel hfu => xq_move hN hs hf hg s2 hi hat (fun _ => ?_) (fun z => absurd h9 z)
  unfold wpX_tryCall
  dsimp only
  rw [cr, ra, rb, ea, hb]
  refine ⟨wr, nm_e ⟨wr, nm_e ⟨wa, ?_⟩⟩⟩
  rw [ca]
  by_cases sa : a_slotStates a = 2
  · refine br_t sa ⟨wa, ?_⟩
    by_cases aa : a_slotArities a = nI b
    · refine br_t aa ?_
      by_cases hm2 : 200 ≤ m
      · exact br_t (nI_le (a := 200) hm2 (by omega)) (xq_end (by decide) (hlim sa (by rw [hb]; exact aa) (Or.inl hm2)) (by omega))
      · refine br_f (nI_ge (b := 200) (by omega) (by decide)) ?_
        by_cases hf2 : fr < 15
        · refine br_t (nI_lt (b := 16) (by omega) (by decide)) ?_
          obtain ⟨_, _, _, _, ea3, _, _, _⟩ := xq_g hs ha sa
          have fin : wX_tryCall_107 (fun u => match u with | (f_slotCount, f_capacity, f_nodesUsed, f_buildingSlot, f_pendingCount, f_summariesCurrent, f_callsActive, f_callsMade, f_runOutcome, f_runValue, a_slotStates, a_slotArities, a_slotStarts, a_slotSizes, a_kinds, a_firstOperands, a_secondOperands, a_children, a_parents, a_depths, a_pendingNodes, a_summaries, a_nextSummaries, a_nodeTypes, a_paramsAfter, a_params, a_values, a_arguments, a_frameSlots, a_frameNodes) => xq_k post t fuel (f_slotCount, f_capacity, f_nodesUsed, f_buildingSlot, f_pendingCount, f_summariesCurrent, f_callsActive, f_callsMade, f_runOutcome, f_runValue, a_slotStates, a_slotArities, a_slotStarts, a_slotSizes, a_kinds, a_firstOperands, a_secondOperands, a_children, a_parents, a_depths, a_pendingNodes, a_summaries, a_nextSummaries, a_nodeTypes, a_paramsAfter, a_params, a_values, a_arguments, a_frameSlots, a_frameNodes)) (nI a) v w f_slotCount f_capacity f_nodesUsed f_buildingSlot f_pendingCount f_summariesCurrent (nI (fr + 1)) (nI m) (-1) 0 a_slotStates a_slotArities a_slotStarts a_slotSizes a_kinds a_firstOperands a_secondOperands a_children a_parents a_depths a_pendingNodes a_summaries a_nextSummaries a_nodeTypes a_paramsAfter a_params (Z 0) (Z 1) (Z 2) (Z 3) := by
            refine xq_enter (a := fr + 1) (by omega) (by omega) ea3 fun Z' eZ => ?_
            have go := hgo a ha ea sa (by rw [hb]; exact aa) (by omega) hf2 Z'
            subst eZ
            refine nm_r (nI_1 t) (go (fun j => rfl) (fun j hj => ?_) (fun j hj => pk_un (by omega)) (fun j hj => pk_un (by omega)) ?_ pk_us ⟨pk_us, pk_us⟩ fuel (by omega))
            · show upd (upd (Z 1) _ _) _ _ j = Z 1 j
              rw [pk_un (by omega), pk_un (by omega)]
            · show upd (upd (Z 1) _ _) _ _ _ = v
              rw [pk_un (by omega), pk_us]
          have bb : b = 0 ∨ b = 1 ∨ b = 2 := by omega
          rcases bb with rfl | rfl | rfl
          · obtain ⟨rfl, rfl⟩ := a0 rfl
            exact br_t (by decide) (br_f (by decide) fin)
          · obtain ⟨ev, rfl⟩ := a1 rfl
            refine br_f (by decide) (xv_child (j := 0) hB hi (by omega) hf ?_)
            refine br_f (by decide) ?_
            rw [show Z 0 (fr * 128 + (S g + bs_ch (rl_c (rl_K bk g) (rl_K bb g)) i 0)) = v from ev.symm]
            exact fin
          · obtain ⟨ev, ew⟩ := a2 rfl
            refine br_f (by decide) (xv_child (j := 0) hB hi (by omega) hf ?_)
            refine br_t (by decide) (xv_child (j := 1) hB hi (by omega) hf ?_)
            rw [show Z 0 (fr * 128 + (S g + bs_ch (rl_c (rl_K bk g) (rl_K bb g)) i 0)) = v from ev.symm, show Z 0 (fr * 128 + (S g + bs_ch (rl_c (rl_K bk g) (rl_K bb g)) i 1)) = w from ew.symm]
            exact fin
        · exact br_f (nI_nlt (b := 16) (by omega) (by omega)) (xq_end (by decide) (hlim sa (by rw [hb]; exact aa) (Or.inr (by omega))) (by omega))
    · exact br_f aa (xq_end (by decide) (hfail fun z => aa (by rw [← hb]; exact z.2)) (by omega))
  · exact br_f sa (xq_end (by decide) (hfail fun z => sa z.1) (by omega))
end
end
section
section
variable {f_slotCount f_capacity f_nodesUsed f_buildingSlot f_pendingCount f_summariesCurrent f_callsActive f_callsMade f_runOutcome f_runValue : Int32} {a_slotStates a_slotArities a_slotStarts a_slotSizes a_kinds a_firstOperands a_secondOperands a_children a_parents a_depths a_pendingNodes a_summaries a_nextSummaries a_nodeTypes a_paramsAfter a_params a_values a_arguments a_frameSlots a_frameNodes : Nat → Int32} {post : Int32 → St2 → Prop} {N U : Nat} {sz S : Nat → Nat} {szY bk ba bb : Nat → Int32}
theorem rn_2000 {v : Int32} (h : rn_ok v) : ¬ v = 2000 := by
  intro e
  rw [e] at h
  rcases h with h | h
  · exact absurd h (by decide)
  · exact absurd h (by decide)
theorem xq_fin {Z : Nat → Nat → Int32} {fr r : Nat} {v : Int32} {nx : Int32} : xr_fin Z (xq_z (upd (Z 0) (fr * 128 + r) v) (Z 1) (Z 2) (upd (Z 3) fr nx)) fr r v nx :=
  ⟨pk_us, fun j hj => pk_un hj, fun _ => rfl, fun _ => rfl, pk_us, fun j hj => pk_un hj⟩
theorem xq_fin2 {Z : Nat → Nat → Int32} {fr r : Nat} {v : Int32} {nx nx' : Int32} : xr_fin Z (xq_z (upd (Z 0) (fr * 128 + r) v) (Z 1) (Z 2) (upd (upd (Z 3) fr nx') fr nx)) fr r v nx :=
  ⟨pk_us, fun j hj => pk_un hj, fun _ => rfl, fun _ => rfl, pk_us, fun j hj => by show upd (upd (Z 3) _ _) _ _ j = Z 3 j; rw [pk_un hj, pk_un hj]⟩
theorem xq_F0 (hN : N ≤ 8) (hs : rl_slots N U sz S a_slotStates a_slotArities a_slotSizes szY a_slotStarts bk ba bb a_kinds a_firstOperands a_secondOperands a_children a_parents a_depths) : xr_F0 N a_slotStates sz S (xq_R post f_slotCount f_capacity f_nodesUsed f_buildingSlot f_pendingCount f_summariesCurrent f_callsActive f_callsMade f_runOutcome f_runValue a_slotStates a_slotArities a_slotStarts a_slotSizes a_kinds a_firstOperands a_secondOperands a_children a_parents a_depths a_pendingNodes a_summaries a_nextSummaries a_nodeTypes a_paramsAfter a_params a_values a_arguments a_frameSlots a_frameNodes) (xq_F post f_slotCount f_capacity f_nodesUsed f_buildingSlot f_pendingCount f_summariesCurrent f_callsActive f_callsMade f_runOutcome f_runValue a_slotStates a_slotArities a_slotStarts a_slotSizes a_kinds a_firstOperands a_secondOperands a_children a_parents a_depths a_pendingNodes a_summaries a_nextSummaries a_nodeTypes a_paramsAfter a_params a_values a_arguments a_frameSlots a_frameNodes) := by
  intro t m fr g v Z hf hg s2 z0 ov hk' t' fuel et ht hfu
  obtain ⟨k, hk, ek, e1, e3, n0, pr, hB⟩ := xq_g hs hg s2
  have wf : vp_in (nI fr) 16 := vp_in_nI hf (by decide)
  have cf : (nI fr).toNatClampNeg = fr := nI_clamp (by omega)
  have hS := hB.1
  have w : vp_in (nI (S g + (sz g - 1))) 128 := vp_in_nI (by omega) (by decide)
  have cl : (nI (S g + (sz g - 1))).toNatClampNeg = S g + (sz g - 1) := nI_clamp (by omega)
  unfold wpX_finishNode
  dsimp only
  rw [show (128 : Int32) = nI 128 by decide, pk_mul, nI_add, nI_clamp (n := fr * 128 + (S g + (sz g - 1))) (by omega), cf, nI_1]
  refine ⟨vp_in_nI (by omega) (by omega), nm_e ⟨wf, nm_e (br_f (rn_2000 ov) ?_)⟩⟩
  unfold wpX_isCondition
  dsimp only
  refine ⟨w, nm_r (e' := -1) (by rw [cl]; exact pr) (br_t rfl (br_t rfl ?_))⟩
  unfold wpX_isThenBranch
  dsimp only
  refine ⟨w, nm_r (e' := -1) (by rw [cl]; exact pr) (br_t rfl (br_t rfl ?_))⟩
  refine nm_r (e' := nI t) (by rw [et, nI_1]) ?_
  exact hk' (xq_z (upd (Z 0) (fr * 128 + (S g + (sz g - 1))) v) (Z 1) (Z 2) (upd (Z 3) fr (nI (S g + (sz g - 1) + 1)))) (by rw [show S g + (sz g - 1) + 1 = S g + sz g by omega]; exact xq_fin) fuel hfu
theorem xq_F1 (hN : N ≤ 8) (hs : rl_slots N U sz S a_slotStates a_slotArities a_slotSizes szY a_slotStarts bk ba bb a_kinds a_firstOperands a_secondOperands a_children a_parents a_depths) : xr_F1 N (rl_K bk) (rl_K bb) a_slotStates sz S (xq_R post f_slotCount f_capacity f_nodesUsed f_buildingSlot f_pendingCount f_summariesCurrent f_callsActive f_callsMade f_runOutcome f_runValue a_slotStates a_slotArities a_slotStarts a_slotSizes a_kinds a_firstOperands a_secondOperands a_children a_parents a_depths a_pendingNodes a_summaries a_nextSummaries a_nodeTypes a_paramsAfter a_params a_values a_arguments a_frameSlots a_frameNodes) (xq_F post f_slotCount f_capacity f_nodesUsed f_buildingSlot f_pendingCount f_summariesCurrent f_callsActive f_callsMade f_runOutcome f_runValue a_slotStates a_slotArities a_slotStarts a_slotSizes a_kinds a_firstOperands a_secondOperands a_children a_parents a_depths a_pendingNodes a_summaries a_nextSummaries a_nodeTypes a_paramsAfter a_params a_values a_arguments a_frameSlots a_frameNodes) := by
  intro t m fr g i j v Z hf hg s2 hi hj h8 ov hk' t' fuel et ht hfu
  obtain ⟨k, hk, ek, e1, e3, n0, pr, hB⟩ := xq_g hs hg s2
  have wf : vp_in (nI fr) 16 := vp_in_nI hf (by decide)
  have cf : (nI fr).toNatClampNeg = fr := nI_clamp (by omega)
  have hS := hB.1
  have lt : bs_ch (sp_c (rl_K bk) (rl_K bb) g) i j < i := bs_ch_lt hB.2.1.2.2 hi hj
  have c3 : j = 2 ∨ ¬ rl_K bk g i = 8 := by
    by_cases z : rl_K bk g i = 8
    · exact Or.inl (h8 z)
    · exact Or.inr z
  unfold wpX_finishNode
  dsimp only
  rw [show (128 : Int32) = nI 128 by decide, pk_mul, nI_add, nI_clamp (n := fr * 128 + (S g + bs_ch (sp_c (rl_K bk) (rl_K bb) g) i j)) (by omega), cf, nI_1]
  refine ⟨vp_in_nI (by omega) (by omega), nm_e ⟨wf, nm_e (br_f (rn_2000 ov) ?_)⟩⟩
  refine xc_cond hB hi hj (fun z y => absurd (h8 z) (by omega)) (fun _ => br_t rfl ?_)
  refine xc_then hB hi hj (fun z y => absurd (h8 z) (by omega)) (fun _ => br_t rfl ?_)
  refine nm_r (e' := nI t) (by rw [et, nI_1]) ?_
  exact hk' (xq_z (upd (Z 0) (fr * 128 + (S g + bs_ch (sp_c (rl_K bk) (rl_K bb) g) i j)) v) (Z 1) (Z 2) (upd (Z 3) fr (nI (S g + bs_ch (sp_c (rl_K bk) (rl_K bb) g) i j + 1)))) xq_fin fuel hfu
theorem xq_F2 (hN : N ≤ 8) (hs : rl_slots N U sz S a_slotStates a_slotArities a_slotSizes szY a_slotStarts bk ba bb a_kinds a_firstOperands a_secondOperands a_children a_parents a_depths) : xr_F2 N (rl_K bk) (rl_K bb) a_slotStates sz S (xq_R post f_slotCount f_capacity f_nodesUsed f_buildingSlot f_pendingCount f_summariesCurrent f_callsActive f_callsMade f_runOutcome f_runValue a_slotStates a_slotArities a_slotStarts a_slotSizes a_kinds a_firstOperands a_secondOperands a_children a_parents a_depths a_pendingNodes a_summaries a_nextSummaries a_nodeTypes a_paramsAfter a_params a_values a_arguments a_frameSlots a_frameNodes) (xq_F post f_slotCount f_capacity f_nodesUsed f_buildingSlot f_pendingCount f_summariesCurrent f_callsActive f_callsMade f_runOutcome f_runValue a_slotStates a_slotArities a_slotStarts a_slotSizes a_kinds a_firstOperands a_secondOperands a_children a_parents a_depths a_pendingNodes a_summaries a_nextSummaries a_nodeTypes a_paramsAfter a_params a_values a_arguments a_frameSlots a_frameNodes) (xq_E post f_slotCount f_capacity f_nodesUsed f_buildingSlot f_pendingCount f_summariesCurrent f_callsActive f_callsMade f_runOutcome f_runValue a_slotStates a_slotArities a_slotStarts a_slotSizes a_kinds a_firstOperands a_secondOperands a_children a_parents a_depths a_pendingNodes a_summaries a_nextSummaries a_nodeTypes a_paramsAfter a_params a_values a_arguments a_frameSlots a_frameNodes) := by
  intro t m fr g i v Z hf hg s2 hi h8 ov k1 k2 k3 t' fuel et ht hfu
  obtain ⟨k, hk, ek, e1, e3, n0, pr, hB⟩ := xq_g hs hg s2
  have wf : vp_in (nI fr) 16 := vp_in_nI hf (by decide)
  have cf : (nI fr).toNatClampNeg = fr := nI_clamp (by omega)
  have hS := hB.1
  have c3 := ab_c8 hB.2.1 h8
  have lt : bs_ch (sp_c (rl_K bk) (rl_K bb) g) i 0 < i := bs_ch_lt hB.2.1.2.2 hi (k := 0) (show 0 < rl_c (rl_K bk g) (rl_K bb g) i by omega)
  obtain ⟨_, _, _, l0⟩ := xc_child hB hi (j := 0) (by omega)
  obtain ⟨wj, clj, _⟩ := xc_row hB l0
  obtain ⟨w1, cl1, r1, _⟩ := xc_child hB hi (j := 1) (by omega)
  obtain ⟨_, _, _, r4, _⟩ := hB.2.2 i hi
  have pc : a_parents (S g + bs_ch (sp_c (rl_K bk) (rl_K bb) g) i 0) = nI (S g + i) := (r4 0 (by omega)).2
  have clj' : (nI (S g + bs_ch (sp_c (rl_K bk) (rl_K bb) g) i 0)).toNatClampNeg = S g + bs_ch (sp_c (rl_K bk) (rl_K bb) g) i 0 := clj
  unfold wpX_finishNode
  dsimp only
  rw [clj', pc, xc_31, cl1, r1, show (128 : Int32) = nI 128 by decide, pk_mul, nI_add, nI_clamp (n := fr * 128 + (S g + bs_ch (sp_c (rl_K bk) (rl_K bb) g) i 0)) (by omega), cf, nI_1, nI_1]
  refine ⟨vp_in_nI (by omega) (by omega), nm_e ⟨wf, nm_e (br_f (rn_2000 ov) ?_)⟩⟩
  refine xc_cond hB hi (j := 0) (by omega) (fun _ _ => br_f (by decide) ?_) (fun z => absurd ⟨h8, rfl⟩ z)
  by_cases vf : v = 1000
  · refine br_t vf ⟨wj, w1, wf, nm_e (nm_r (e' := nI t) (by rw [et, nI_1]) ?_)⟩
    exact k2 vf (xq_z (upd (Z 0) (fr * 128 + (S g + bs_ch (sp_c (rl_K bk) (rl_K bb) g) i 0)) v) (Z 1) (Z 2) (upd (upd (Z 3) fr (nI (S g + bs_ch (sp_c (rl_K bk) (rl_K bb) g) i 0 + 1))) fr (nI (S g + bs_ch (rl_c (rl_K bk g) (rl_K bb g)) i 1 + 1)))) xq_fin2 fuel hfu
  · refine br_f vf ?_
    by_cases vt : v = 1001
    · refine br_t vt (nm_r (e' := nI t) (by rw [et, nI_1]) ?_)
      exact k1 vt (xq_z (upd (Z 0) (fr * 128 + (S g + bs_ch (sp_c (rl_K bk) (rl_K bb) g) i 0)) v) (Z 1) (Z 2) (upd (Z 3) fr (nI (S g + bs_ch (sp_c (rl_K bk) (rl_K bb) g) i 0 + 1)))) xq_fin fuel hfu
    · exact br_f vt (xq_end (by decide) (k3 vt vf) (by omega))
theorem xq_F3 (hN : N ≤ 8) (hs : rl_slots N U sz S a_slotStates a_slotArities a_slotSizes szY a_slotStarts bk ba bb a_kinds a_firstOperands a_secondOperands a_children a_parents a_depths) : xr_F3 N (rl_K bk) (rl_K bb) a_slotStates sz S (xq_R post f_slotCount f_capacity f_nodesUsed f_buildingSlot f_pendingCount f_summariesCurrent f_callsActive f_callsMade f_runOutcome f_runValue a_slotStates a_slotArities a_slotStarts a_slotSizes a_kinds a_firstOperands a_secondOperands a_children a_parents a_depths a_pendingNodes a_summaries a_nextSummaries a_nodeTypes a_paramsAfter a_params a_values a_arguments a_frameSlots a_frameNodes) (xq_F post f_slotCount f_capacity f_nodesUsed f_buildingSlot f_pendingCount f_summariesCurrent f_callsActive f_callsMade f_runOutcome f_runValue a_slotStates a_slotArities a_slotStarts a_slotSizes a_kinds a_firstOperands a_secondOperands a_children a_parents a_depths a_pendingNodes a_summaries a_nextSummaries a_nodeTypes a_paramsAfter a_params a_values a_arguments a_frameSlots a_frameNodes) := by
  intro t m fr g i v Z hf hg s2 hi h8 ov k1 t' fuel et ht hfu
  obtain ⟨k, hk, ek, e1, e3, n0, pr, hB⟩ := xq_g hs hg s2
  have wf : vp_in (nI fr) 16 := vp_in_nI hf (by decide)
  have cf : (nI fr).toNatClampNeg = fr := nI_clamp (by omega)
  have hS := hB.1
  have c3 := ab_c8 hB.2.1 h8
  have lt : bs_ch (sp_c (rl_K bk) (rl_K bb) g) i 1 < i := bs_ch_lt hB.2.1.2.2 hi (k := 1) (show 1 < rl_c (rl_K bk g) (rl_K bb g) i by omega)
  obtain ⟨_, _, _, l1⟩ := xc_child hB hi (j := 1) (by omega)
  obtain ⟨wj, clj, _⟩ := xc_row hB l1
  obtain ⟨_, _, _, r4, _⟩ := hB.2.2 i hi
  have pc : a_parents (S g + bs_ch (sp_c (rl_K bk) (rl_K bb) g) i 1) = nI (S g + i) := (r4 1 (by omega)).2
  have clj' : (nI (S g + bs_ch (sp_c (rl_K bk) (rl_K bb) g) i 1)).toNatClampNeg = S g + bs_ch (sp_c (rl_K bk) (rl_K bb) g) i 1 := clj
  unfold wpX_finishNode
  dsimp only
  rw [clj', pc, show (128 : Int32) = nI 128 by decide, pk_mul, nI_add, nI_clamp (n := fr * 128 + (S g + bs_ch (sp_c (rl_K bk) (rl_K bb) g) i 1)) (by omega), cf, nI_1 (S g + bs_ch (sp_c (rl_K bk) (rl_K bb) g) i 1)]
  refine ⟨vp_in_nI (by omega) (by omega), nm_e ⟨wf, nm_e (br_f (rn_2000 ov) ?_)⟩⟩
  refine xc_cond hB hi (j := 1) (by omega) (fun _ z => absurd z (by decide)) (fun _ => br_t rfl ?_)
  refine xc_then hB hi (j := 1) (by omega) (fun _ _ => br_f (by decide) ?_) (fun z => absurd ⟨h8, rfl⟩ z)
  refine ⟨wj, wf, nm_e (nm_r (e' := nI t) (by rw [et, nI_1]) ?_)⟩
  exact k1 (xq_z (upd (Z 0) (fr * 128 + (S g + bs_ch (sp_c (rl_K bk) (rl_K bb) g) i 1)) v) (Z 1) (Z 2) (upd (upd (Z 3) fr (nI (S g + bs_ch (sp_c (rl_K bk) (rl_K bb) g) i 1 + 1))) fr (nI (S g + i)))) xq_fin2 fuel hfu
/-- a run from its first call on, by the pure outcome -/
theorem xq_run {f : Nat} {x y : Int32} (hN : N ≤ 8) (hs : rl_slots N U sz S a_slotStates a_slotArities a_slotSizes szY a_slotStarts bk ba bb a_kinds a_firstOperands a_secondOperands a_children a_parents a_depths) (hf : f < N) (s2 : a_slotStates f = 2) (ag : rn_ag (a_slotArities f) x y)
    (H1 : (rn_ev (rl_K bk) (rl_K ba) (rl_K bb) a_slotStates a_slotArities sz 2048 0 f (sz f - 1) x y 1).1 ≠ -1 → ∀ (ca cm : Int32) (V AR FS FN : Nat → Int32), post (rn_ev (rl_K bk) (rl_K ba) (rl_K bb) a_slotStates a_slotArities sz 2048 0 f (sz f - 1) x y 1).1 (f_slotCount, f_capacity, f_nodesUsed, f_buildingSlot, f_pendingCount, f_summariesCurrent, ca, cm, (rn_ev (rl_K bk) (rl_K ba) (rl_K bb) a_slotStates a_slotArities sz 2048 0 f (sz f - 1) x y 1).1, 0, a_slotStates, a_slotArities, a_slotStarts, a_slotSizes, a_kinds, a_firstOperands, a_secondOperands, a_children, a_parents, a_depths, a_pendingNodes, a_summaries, a_nextSummaries, a_nodeTypes, a_paramsAfter, a_params, V, AR, FS, FN))
    (H2 : (rn_ev (rl_K bk) (rl_K ba) (rl_K bb) a_slotStates a_slotArities sz 2048 0 f (sz f - 1) x y 1).1 = -1 → ∀ (ca cm : Int32) (V AR FS FN : Nat → Int32), post 0 (f_slotCount, f_capacity, f_nodesUsed, f_buildingSlot, f_pendingCount, f_summariesCurrent, ca, cm, 0, (rn_ev (rl_K bk) (rl_K ba) (rl_K bb) a_slotStates a_slotArities sz 2048 0 f (sz f - 1) x y 1).2.1, a_slotStates, a_slotArities, a_slotStarts, a_slotSizes, a_kinds, a_firstOperands, a_secondOperands, a_children, a_parents, a_depths, a_pendingNodes, a_summaries, a_nextSummaries, a_nodeTypes, a_paramsAfter, a_params, V, AR, FS, FN)) :
    wX_run_58 post (nI f) x y f_slotCount f_capacity f_nodesUsed f_buildingSlot f_pendingCount f_summariesCurrent f_callsActive f_callsMade f_runOutcome f_runValue a_slotStates a_slotArities a_slotStarts a_slotSizes a_kinds a_firstOperands a_secondOperands a_children a_parents a_depths a_pendingNodes a_summaries a_nextSummaries a_nodeTypes a_paramsAfter a_params a_values a_arguments a_frameSlots a_frameNodes := by
  obtain ⟨k, hk, ek, e1, e3, n0, pr, hB⟩ := xq_g hs hf s2
  have hS := hB.1
  have root := rl_root hs f hf s2
  unfold wX_run_58
  refine xq_enter (a := 0) (m := 0) (Z := xq_z a_values a_arguments a_frameSlots a_frameNodes) (by omega) (by omega) e3 fun Z' eZ => ⟨1000001, ?_⟩
  have sim := xr_sim (XR := xq_R post f_slotCount f_capacity f_nodesUsed f_buildingSlot f_pendingCount f_summariesCurrent f_callsActive f_callsMade f_runOutcome f_runValue a_slotStates a_slotArities a_slotStarts a_slotSizes a_kinds a_firstOperands a_secondOperands a_children a_parents a_depths a_pendingNodes a_summaries a_nextSummaries a_nodeTypes a_paramsAfter a_params a_values a_arguments a_frameSlots a_frameNodes) (XF := xq_F post f_slotCount f_capacity f_nodesUsed f_buildingSlot f_pendingCount f_summariesCurrent f_callsActive f_callsMade f_runOutcome f_runValue a_slotStates a_slotArities a_slotStarts a_slotSizes a_kinds a_firstOperands a_secondOperands a_children a_parents a_depths a_pendingNodes a_summaries a_nextSummaries a_nodeTypes a_paramsAfter a_params a_values a_arguments a_frameSlots a_frameNodes) (XE := xq_E post f_slotCount f_capacity f_nodesUsed f_buildingSlot f_pendingCount f_summariesCurrent f_callsActive f_callsMade f_runOutcome f_runValue a_slotStates a_slotArities a_slotStarts a_slotSizes a_kinds a_firstOperands a_secondOperands a_children a_parents a_depths a_pendingNodes a_summaries a_nextSummaries a_nodeTypes a_paramsAfter a_params a_values a_arguments a_frameSlots a_frameNodes) hN (rl_sp_ok hs) (rl_root hs) (rl_S128 hs) (xq_M1 hN hs) (xq_M2 hN hs) (xq_M3 hN hs) (xq_M4 hN hs) (xq_M5 hN hs) (xq_M6 hN hs) (xq_F0 hN hs) (xq_F1 hN hs) (xq_F2 hN hs) (xq_F3 hN hs) 2048
  have gd := rn_ev_gd hN (rl_sp_ok hs) 2048 0 f (sz f - 1) x y 1 hf s2 (by omega) ag (by omega)
  refine sim 0 f (sz f - 1) 1 0 x y Z' (by omega) (by omega) hf s2 (by omega) ag (by omega) ?_ ?_ ?_ (by omega) (fun n => H1 n) (fun o t1 Z1 ht1 ag1 => ?_) 1000001 (by omega)
  · rw [root, eZ]; exact ⟨pk_us, pk_us⟩
  · rw [eZ]; show upd (upd a_arguments _ _) _ _ _ = x; rw [pk_un (by omega)]; exact pk_us
  · rw [eZ]; exact pk_us
  · refine xq_F0 hN hs t1 _ 0 f _ Z1 (by omega) hf s2 n0 (gd.2.1 o) fun Z2 f2 => ?_
    have z2 : Z1 2 0 = nI f := (ag1.2.2.1 0 (by omega)).trans (by rw [eZ]; exact pk_us)
    refine xq_st (by omega) fun fuel hfu => ?_
    have wf : vp_in (nI 0) 16 := vp_in_nI (by decide) (by decide)
    have cf : (nI 0).toNatClampNeg = 0 := nI_clamp (by decide)
    have wg : vp_in (nI f) 8 := vp_in_nI (by omega) (by decide)
    have cg : (nI f).toNatClampNeg = f := nI_clamp (by omega)
    unfold wpX_makeMove
    dsimp only
    refine nm_r (nI_pred 0) ⟨wf, nm_r (e' := nI (S f + sz f)) (by rw [cf]; exact f2.2.2.2.2.1) ⟨wf, nm_r (e' := nI f) (by rw [cf]; exact (f2.2.2.2.1 0).trans z2) ⟨wg, wg, ?_⟩⟩⟩
    rw [cg, e1, e3, nI_add]
    refine br_t rfl ?_
    unfold wpX_leaveCall
    dsimp only
    have vv : Z2 0 (0 * 128 + (S f + (sz f - 1))) = _ := f2.1
    rw [show nI (S f + sz f) - 1 = nI (S f + (sz f - 1)) by rw [show S f + (sz f - 1) = S f + sz f - 1 by omega]; exact pk_sub (b := 1) (by omega), show (128 : Int32) = nI 128 by decide, pk_mul, nI_add, nI_clamp (n := 0 * 128 + (S f + (sz f - 1))) (by omega), vv]
    obtain ⟨fuel, rfl⟩ : ∃ m, fuel = m + 1 := ⟨fuel - 1, by omega⟩
    refine ⟨vp_in_nI (by omega) (by omega), nm_e (br_t nI_0 ?_)⟩
    intro q _
    exact br_c (fun _ => H2 o _ _ _ _ _ _) (fun _ => br_f (by decide) (H2 o _ _ _ _ _ _))
end
end
section
theorem yc_k1 {k : Nat} (hk : k ≤ 2) : nI k < 1 ↔ k < 1 := by
  rw [show (1 : Int32) = nI 1 by decide, nI_ltI (by omega) (by omega)]
theorem rd_3 {v : Int32} (h : nI 3 ≤ v) : 2 < v ∧ ¬ v < 0 ∧ ¬ v ≤ 2 := by
  rw [Int32.le_iff_toInt_le, nI_toInt (by decide)] at h
  refine ⟨?_, ?_, ?_⟩
  · rw [Int32.lt_iff_toInt_lt, show (2 : Int32).toInt = 2 by decide]; omega
  · rw [Int32.lt_iff_toInt_lt, show (0 : Int32).toInt = 0 by decide]; omega
  · rw [Int32.le_iff_toInt_le, show (2 : Int32).toInt = 2 by decide]; omega
theorem rd_n {v : Int32} {N : Nat} (hN : N < 2 ^ 31) (h : nI N ≤ v) : ¬ v < 0 := by
  rw [Int32.le_iff_toInt_le, nI_toInt hN] at h
  rw [Int32.lt_iff_toInt_lt, show (0 : Int32).toInt = 0 by decide]; omega
theorem rd_idx {f j : Nat} : nI f * 3 + nI j = nI (f * 3 + j) := by rw [xc_3, nI_add]
theorem rd_at {v : Int32} (h1 : 1000 ≤ v.toInt) (h2 : v.toInt ≤ 1007) : ∃ j : Nat, j < 8 ∧ v - 1000 = nI j := by
  refine ⟨(v.toInt - 1000).toNat, by omega, ?_⟩
  apply Int32.toInt_inj.mp
  rw [nI_toInt (by omega), Int32.toInt_sub, ty_k0, Int.bmod_eq_of_le (by omega) (by omega)]
  omega
theorem rd_01 (m j : Nat) : m / 2 ^ j % 2 = 0 ∨ m / 2 ^ j % 2 = 1 := by omega
def rd_c (p : Int32) (lo hi N : Nat) : Prop := (¬ nI lo ≤ p ∧ N = lo) ∨ (nI lo ≤ p ∧ ¬ p ≤ nI hi ∧ N = hi) ∨ (nI lo ≤ p ∧ p ≤ nI hi ∧ p = nI N)
theorem rd_cex (p : Int32) {lo hi : Nat} (h : lo ≤ hi) (hh : hi < 2 ^ 31) : ∃ N : Nat, rd_c p lo hi N ∧ lo ≤ N ∧ N ≤ hi := by
  by_cases a : nI lo ≤ p
  · by_cases b : p ≤ nI hi
    · obtain ⟨j, hj, rfl⟩ := nI_of (rd_n (by omega) a)
      rw [nI_leI (by omega) hj] at a
      have b' := b
      rw [nI_leI hj hh] at b'
      exact ⟨j, Or.inr (Or.inr ⟨nI_le a hj, b, rfl⟩), a, b'⟩
    · exact ⟨hi, Or.inr (Or.inl ⟨a, b, rfl⟩), h, Nat.le_refl _⟩
  · exact ⟨lo, Or.inl ⟨a, rfl⟩, Nat.le_refl _, h⟩
theorem xd_clamp {Q : Int32 → Prop} {p : Int32} {lo hi N : Nat} (h : rd_c p lo hi N) (H : Q (nI N)) : wpX_clamp Q () p (nI lo) (nI hi) := by
  rcases h with ⟨a, rfl⟩ | ⟨a, b, rfl⟩ | ⟨a, b, rfl⟩
  · exact br_f a H
  · exact br_t a (br_f b H)
  · exact br_t a (br_t b H)
theorem bs_dm_10 (c D : Nat → Nat) (m : Nat) : ∀ {n : Nat}, (∀ j, j < n → D (bs_sc c j m - 1) ≤ 10) → bs_dm c D m n ≤ 10 := by
  intro n
  induction n with
  | zero => intro _; exact Nat.zero_le _
  | succ n ih =>
    intro h
    rw [bs_dm_s]
    have := ih (fun j hj => h j (by omega))
    have := h n (by omega)
    omega
def bg_ok (N : Nat) (st : Nat → Int32) (bs v1 v2 : Int32) : Prop := ∃ f a : Nat, bs = -1 ∧ f < N ∧ a < 3 ∧ v1 = nI f ∧ v2 = nI a ∧ st f = 0
theorem rl_slot_un {N U U' f g z S : Nat} {st st' ar ar' szX szX' szY szY' sX sX' bk ba bb kd fo so ch pa dp : Nat → Int32} (h : rl_slot N U g z S st ar szX szY sX bk ba bb kd fo so ch pa dp) (hg : g ≠ f)
    (e1 : st' g = st g) (e2 : ar' g = ar g) (e3 : szX' g = szX g) (e4 : szY' g = szY g) (e5 : sX' g = sX g) (hU : st g ≠ 0 → S + z ≤ U') : rl_slot N U' g z S st' ar' szX' szY' sX' bk ba bb kd fo so ch pa dp := by
  obtain ⟨h1, h2, h3⟩ := h
  refine ⟨by rw [e1]; exact h1, fun n => ?_, fun n => ?_⟩
  · rw [e1] at n
    obtain ⟨q1, q2, q3, q4, k, hk, ek, hB⟩ := h2 n
    exact ⟨e3.trans q1, e4.trans q2, e5.trans q3, hU n, k, hk, e2.trans ek, hB⟩
  · rw [e1] at n
    exact h3 n
def bg_upd (F : Nat → Nat) (f x : Nat) : Nat → Nat := fun g => if g = f then x else F g
theorem bg_us {F : Nat → Nat} {f x : Nat} : bg_upd F f x f = x := if_pos rfl
theorem bg_un {F : Nat → Nat} {f x g : Nat} (h : g ≠ f) : bg_upd F f x g = F g := if_neg h
section
variable {f_slotCount f_capacity f_nodesUsed f_buildingSlot f_pendingCount f_summariesCurrent f_callsActive f_callsMade f_runOutcome f_runValue : Int32} {a_slotStates a_slotArities a_slotStarts a_slotSizes a_kinds a_firstOperands a_secondOperands a_children a_parents a_depths a_pendingNodes a_summaries a_nextSummaries a_nodeTypes a_paramsAfter a_params a_values a_arguments a_frameSlots a_frameNodes : Nat → Int32} {N : Nat}
theorem xd_slot {Q : Int32 → Prop} (hN : N ≤ 8) {v : Int32} (H1 : ∀ f : Nat, f < N → v = nI f → Q 1) (H0 : (¬ ∃ f : Nat, f < N ∧ v = nI f) → Q 0) : wpX_isSlot Q (nI N, f_capacity, f_nodesUsed, f_buildingSlot, f_pendingCount, f_summariesCurrent, f_callsActive, f_callsMade, f_runOutcome, f_runValue, a_slotStates, a_slotArities, a_slotStarts, a_slotSizes, a_kinds, a_firstOperands, a_secondOperands, a_children, a_parents, a_depths, a_pendingNodes, a_summaries, a_nextSummaries, a_nodeTypes, a_paramsAfter, a_params, a_values, a_arguments, a_frameSlots, a_frameNodes) v := by
  unfold wpX_isSlot
  dsimp only
  rcases pk_ix v (n := N) (by omega) with h | h | ⟨f, hf, rfl⟩
  · refine br_t h (H0 ?_)
    rintro ⟨f, hf, rfl⟩
    exact nI_pos (by omega) h
  · refine br_f (rd_n (by omega) h) (br_t h (H0 ?_))
    rintro ⟨f, hf, rfl⟩
    exact nI_ge hf (by omega) h
  · exact br_f (nI_pos (by omega)) (br_f (nI_ge hf (by omega)) (H1 f hf rfl))
theorem xd_body {Q : Int32 → Prop} (hN : N ≤ 8) {v : Int32} (H1 : ∀ f : Nat, f < N → v = nI f → a_slotStates f ≠ 0 → Q 1) (H0 : (¬ ∃ f : Nat, f < N ∧ v = nI f ∧ a_slotStates f ≠ 0) → Q 0) : wpX_hasBody Q (nI N, f_capacity, f_nodesUsed, f_buildingSlot, f_pendingCount, f_summariesCurrent, f_callsActive, f_callsMade, f_runOutcome, f_runValue, a_slotStates, a_slotArities, a_slotStarts, a_slotSizes, a_kinds, a_firstOperands, a_secondOperands, a_children, a_parents, a_depths, a_pendingNodes, a_summaries, a_nextSummaries, a_nodeTypes, a_paramsAfter, a_params, a_values, a_arguments, a_frameSlots, a_frameNodes) v := by
  unfold wpX_hasBody
  dsimp only
  rcases pk_ix v (n := N) (by omega) with h | h | ⟨f, hf, rfl⟩
  · refine br_t h (H0 ?_)
    rintro ⟨f, hf, rfl, _⟩
    exact nI_pos (by omega) h
  · refine br_f (rd_n (by omega) h) (br_t h (H0 ?_))
    rintro ⟨f, hf, rfl, _⟩
    exact nI_ge hf (by omega) h
  · refine br_f (nI_pos (by omega)) (br_f (nI_ge hf (by omega)) ⟨vp_in_nI (by omega) (by decide), ?_⟩)
    rw [nI_clamp (by omega)]
    by_cases z : a_slotStates f = 0
    · refine br_t z (H0 ?_)
      rintro ⟨f', hf', e, h⟩
      rw [nI_eq (by omega) (by omega)] at e
      subst e
      exact h z
    · exact br_f z (H1 f hf rfl z)
theorem xd_sum {Q : Int32 → Prop} (hN : N ≤ 8) {v w : Int32} (H1 : ∀ f j : Nat, f < N → j < 3 → v = nI f → w = nI j → Q 1) (H0 : (¬ ∃ f j : Nat, f < N ∧ j < 3 ∧ v = nI f ∧ w = nI j) → Q 0) : wpX_isSummary Q (nI N, f_capacity, f_nodesUsed, f_buildingSlot, f_pendingCount, f_summariesCurrent, f_callsActive, f_callsMade, f_runOutcome, f_runValue, a_slotStates, a_slotArities, a_slotStarts, a_slotSizes, a_kinds, a_firstOperands, a_secondOperands, a_children, a_parents, a_depths, a_pendingNodes, a_summaries, a_nextSummaries, a_nodeTypes, a_paramsAfter, a_params, a_values, a_arguments, a_frameSlots, a_frameNodes) v w := by
  unfold wpX_isSummary
  dsimp only
  rcases pk_ix v (n := N) (by omega) with h | h | ⟨f, hf, rfl⟩
  · refine br_t h (H0 ?_)
    rintro ⟨f, j, hf, hj, rfl, _⟩
    exact nI_pos (by omega) h
  · refine br_f (rd_n (by omega) h) (br_t h (H0 ?_))
    rintro ⟨f, j, hf, hj, rfl, _⟩
    exact nI_ge hf (by omega) h
  · refine br_f (nI_pos (by omega)) (br_f (nI_ge hf (by omega)) ?_)
    rcases pk_ix w (n := 3) (by decide) with h | h | ⟨j, hj, rfl⟩
    · refine br_t h (H0 ?_)
      rintro ⟨f', j, hf', hj, _, rfl⟩
      exact nI_pos (by omega) h
    · refine br_f (rd_3 h).2.1 (br_t (rd_3 h).1 (H0 ?_))
      rintro ⟨f', j, hf', hj, _, rfl⟩
      exact nI_ge hj (by omega) h
    · exact br_f (nI_pos (by omega)) (br_f (nI_nlt (a := 2) (b := j) (by omega) (by decide)) (H1 f j hf hj rfl rfl))
theorem xe_go {post : Int32 → St2 → Prop} {f k : Nat} {x y : Int32} (hN : N ≤ 8) (hf : f < N) (s2 : a_slotStates f = 2) (ek : a_slotArities f = nI k) (hk : k ≤ 2) (H1 : rn_ag (nI k) x y → wX_run_58 post (nI f) x y (nI N) f_capacity f_nodesUsed f_buildingSlot f_pendingCount f_summariesCurrent f_callsActive f_callsMade f_runOutcome f_runValue a_slotStates a_slotArities a_slotStarts a_slotSizes a_kinds a_firstOperands a_secondOperands a_children a_parents a_depths a_pendingNodes a_summaries a_nextSummaries a_nodeTypes a_paramsAfter a_params a_values a_arguments a_frameSlots a_frameNodes) (H0 : ¬ rn_ag (nI k) x y → post 3 (nI N, f_capacity, f_nodesUsed, f_buildingSlot, f_pendingCount, f_summariesCurrent, f_callsActive, f_callsMade, f_runOutcome, f_runValue, a_slotStates, a_slotArities, a_slotStarts, a_slotSizes, a_kinds, a_firstOperands, a_secondOperands, a_children, a_parents, a_depths, a_pendingNodes, a_summaries, a_nextSummaries, a_nodeTypes, a_paramsAfter, a_params, a_values, a_arguments, a_frameSlots, a_frameNodes)) :
    wpX_run post (nI N, f_capacity, f_nodesUsed, f_buildingSlot, f_pendingCount, f_summariesCurrent, f_callsActive, f_callsMade, f_runOutcome, f_runValue, a_slotStates, a_slotArities, a_slotStarts, a_slotSizes, a_kinds, a_firstOperands, a_secondOperands, a_children, a_parents, a_depths, a_pendingNodes, a_summaries, a_nextSummaries, a_nodeTypes, a_paramsAfter, a_params, a_values, a_arguments, a_frameSlots, a_frameNodes) (nI f) x y := by
  have w : vp_in (nI f) 8 := vp_in_nI (by omega) (by decide)
  have cl : (nI f).toNatClampNeg = f := nI_clamp (by omega)
  have k1 : (1 : Int32) ≤ nI k ↔ 1 ≤ k := by rw [show (1 : Int32) = nI 1 by decide, nI_leI (by omega) (by omega)]
  have k2 : (2 : Int32) ≤ nI k ↔ 2 ≤ k := by rw [show (2 : Int32) = nI 2 by decide, nI_leI (by omega) (by omega)]
  have k3 : nI k = 2 ↔ k = 2 := by rw [show (2 : Int32) = nI 2 by decide, nI_eq (by omega) (by omega)]
  have s39 : (1 ≤ k → rn_ok x) → wX_run_39 post (nI f) x y (nI N) f_capacity f_nodesUsed f_buildingSlot f_pendingCount f_summariesCurrent f_callsActive f_callsMade f_runOutcome f_runValue a_slotStates a_slotArities a_slotStarts a_slotSizes a_kinds a_firstOperands a_secondOperands a_children a_parents a_depths a_pendingNodes a_summaries a_nextSummaries a_nodeTypes a_paramsAfter a_params a_values a_arguments a_frameSlots a_frameNodes := by
    intro hx
    unfold wX_run_39
    rw [cl, ek]
    refine ⟨w, ?_⟩
    by_cases c : k = 2
    · refine br_t (k3.mpr c) (xt_isValue (fun oy => br_f (by decide) (H1 ⟨fun z => hx (k1.mp z), fun _ => oy⟩)) (fun ny => br_t rfl (H0 fun z => ny (z.2 (k2.mpr (by omega))))))
    · exact br_f (fun z => c (k3.mp z)) (H1 ⟨fun z => hx (k1.mp z), fun z => by have := k2.mp z; omega⟩)
  unfold wpX_run
  dsimp only
  refine xd_slot hN (fun f' hf' e => br_f (by decide) ⟨w, ?_⟩) (fun no => absurd ⟨f, hf, rfl⟩ no)
  rw [cl, ek]
  refine br_t s2 ⟨w, ?_⟩
  by_cases c : k < 1
  · exact br_t ((yc_k1 hk).mpr c) (s39 fun z => by omega)
  · exact br_f (fun z => c ((yc_k1 hk).mp z)) (xt_isValue (fun ox => br_f (by decide) (s39 fun _ => ox)) (fun nx => br_t rfl (H0 fun z => nx (z.1 (k1.mpr (by omega))))))
end
section
variable {f_slotCount f_capacity f_nodesUsed f_buildingSlot f_pendingCount f_summariesCurrent f_callsActive f_callsMade f_runOutcome f_runValue : Int32} {a_slotStates a_slotArities a_slotStarts a_slotSizes a_kinds a_firstOperands a_secondOperands a_children a_parents a_depths a_pendingNodes a_summaries a_nextSummaries a_nodeTypes a_paramsAfter a_params a_values a_arguments a_frameSlots a_frameNodes : Nat → Int32} {N : Nat} {v1 v2 : Int32}
theorem xe_begin {Q : Int32 → St2 → Prop} (hN : N ≤ 8) (H1 : ∀ f a : Nat, f_buildingSlot = -1 → f < N → a < 3 → v1 = nI f → v2 = nI a → a_slotStates f = 0 → Q 1 (nI N, f_capacity, f_nodesUsed, nI f, f_pendingCount, f_summariesCurrent, f_callsActive, f_callsMade, f_runOutcome, f_runValue, upd a_slotStates f 1, upd a_slotArities f (nI a), upd a_slotStarts f f_nodesUsed, upd a_slotSizes f 0, a_kinds, a_firstOperands, a_secondOperands, a_children, a_parents, a_depths, a_pendingNodes, a_summaries, a_nextSummaries, a_nodeTypes, a_paramsAfter, a_params, a_values, a_arguments, a_frameSlots, a_frameNodes))
    (H0 : ¬ bg_ok N a_slotStates f_buildingSlot v1 v2 → Q 0 (nI N, f_capacity, f_nodesUsed, f_buildingSlot, f_pendingCount, f_summariesCurrent, f_callsActive, f_callsMade, f_runOutcome, f_runValue, a_slotStates, a_slotArities, a_slotStarts, a_slotSizes, a_kinds, a_firstOperands, a_secondOperands, a_children, a_parents, a_depths, a_pendingNodes, a_summaries, a_nextSummaries, a_nodeTypes, a_paramsAfter, a_params, a_values, a_arguments, a_frameSlots, a_frameNodes)) : wpX_begin Q (nI N, f_capacity, f_nodesUsed, f_buildingSlot, f_pendingCount, f_summariesCurrent, f_callsActive, f_callsMade, f_runOutcome, f_runValue, a_slotStates, a_slotArities, a_slotStarts, a_slotSizes, a_kinds, a_firstOperands, a_secondOperands, a_children, a_parents, a_depths, a_pendingNodes, a_summaries, a_nextSummaries, a_nodeTypes, a_paramsAfter, a_params, a_values, a_arguments, a_frameSlots, a_frameNodes) v1 v2 := by
  unfold wpX_begin
  dsimp only
  by_cases bm : f_buildingSlot = -1
  · refine br_t bm (xd_slot hN (fun f hf e => br_f (by decide) ?_) (fun no => br_t rfl (H0 ?_)))
    · subst e
      have w : vp_in (nI f) 8 := vp_in_nI (by omega) (by decide)
      have cl : (nI f).toNatClampNeg = f := nI_clamp (by omega)
      rw [cl]
      refine ⟨w, ?_⟩
      by_cases z : a_slotStates f = 0
      · refine br_t z ?_
        rcases pk_ix v2 (n := 3) (by decide) with h | h | ⟨a, ha, rfl⟩
        · refine br_t h (H0 ?_)
          rintro ⟨f', a', _, hf', ha', e1, rfl, z'⟩
          exact nI_pos (by omega) h
        · refine br_f (rd_3 h).2.1 (br_f (rd_3 h).2.2 (H0 ?_))
          rintro ⟨f', a', _, hf', ha', e1, rfl, z'⟩
          exact nI_ge ha' (by omega) h
        · exact br_f (nI_pos (by omega)) (br_t (nI_le (a := a) (b := 2) (by omega) (by decide)) ⟨w, nm_e ⟨w, nm_e ⟨w, nm_e ⟨w, nm_e (H1 f a bm hf ha rfl rfl z)⟩⟩⟩⟩)
      · refine br_f z (H0 ?_)
        rintro ⟨f', a', _, hf', ha', e1, e2, z'⟩
        rw [nI_eq (by omega) (by omega)] at e1
        subst e1
        exact z z'
    · rintro ⟨f', a', _, hf', ha', e1, e2, z'⟩
      exact no ⟨f', hf', e1⟩
  · refine br_f bm (H0 ?_)
    rintro ⟨f', a', e, _⟩
    exact bm e
end
end
section
def nd_a (κ a : Int32) : Int32 := if κ = 0 ∨ κ = 1 ∨ κ = 2 ∨ κ = 9 then a else 0
def nd_b (κ b : Int32) : Int32 := if κ = 9 then b else 0
def nd_fit (N k : Nat) (κ a b : Int32) : Prop := bd_nd N k κ (nd_a κ a) (nd_b κ b)
theorem nd_w0 : ∃ w : Nat, w ≤ 2 ∧ (0 : Int32) = nI w := ⟨0, by decide, by decide⟩
theorem nd_mid {N k q : Nat} {a b : Int32} (h1 : 2 < q) (h2 : q < 9) : nd_fit N k (nI q) a b := by
  have h : q = 3 ∨ q = 4 ∨ q = 5 ∨ q = 6 ∨ q = 7 ∨ q = 8 := by omega
  unfold nd_fit nd_a nd_b
  rcases h with rfl | rfl | rfl | rfl | rfl | rfl <;>
    exact ⟨⟨_, by decide, rfl⟩, fun z => absurd z (by decide), fun z => absurd z (by decide), fun z => absurd z (by decide), fun z => absurd z (by decide), by rw [if_neg (by decide)]; exact nd_w0, fun _ => by rw [if_neg (by decide)]⟩
theorem nd_0 {N k : Nat} {a b : Int32} : nd_fit N k 0 a b ↔ (-99 ≤ a.toInt ∧ a.toInt ≤ 99) := by
  unfold nd_fit nd_a nd_b
  rw [if_pos (Or.inl rfl), if_neg (by decide)]
  exact ⟨fun h => h.2.1 rfl, fun h => ⟨⟨0, by decide, by decide⟩, fun _ => h, fun z => absurd z (by decide), fun z => absurd z (by decide), fun z => absurd z (by decide), nd_w0, fun _ => rfl⟩⟩
theorem nd_1 {N k : Nat} {a b : Int32} : nd_fit N k 1 a b ↔ ∃ j : Nat, j < 8 ∧ a = nI j := by
  unfold nd_fit nd_a nd_b
  rw [if_pos (Or.inr (Or.inl rfl)), if_neg (by decide)]
  exact ⟨fun h => h.2.2.1 rfl, fun h => ⟨⟨1, by decide, by decide⟩, fun z => absurd z (by decide), fun _ => h, fun z => absurd z (by decide), fun z => absurd z (by decide), nd_w0, fun _ => rfl⟩⟩
theorem nd_2 {N k : Nat} {a b : Int32} : nd_fit N k 2 a b ↔ ∃ j : Nat, j < k ∧ a = nI j := by
  unfold nd_fit nd_a nd_b
  rw [if_pos (Or.inr (Or.inr (Or.inl rfl))), if_neg (by decide)]
  exact ⟨fun h => h.2.2.2.1 rfl, fun h => ⟨⟨2, by decide, by decide⟩, fun z => absurd z (by decide), fun z => absurd z (by decide), fun _ => h, fun z => absurd z (by decide), nd_w0, fun _ => rfl⟩⟩
theorem nd_9 {N k : Nat} {a b : Int32} : nd_fit N k 9 a b ↔ (∃ g : Nat, g < N ∧ a = nI g) ∧ ∃ w : Nat, w ≤ 2 ∧ b = nI w := by
  unfold nd_fit nd_a nd_b
  rw [if_pos (Or.inr (Or.inr (Or.inr rfl))), if_pos rfl]
  exact ⟨fun h => ⟨h.2.2.2.2.1 rfl, h.2.2.2.2.2.1⟩, fun h => ⟨⟨9, by decide, by decide⟩, fun z => absurd z (by decide), fun z => absurd z (by decide), fun z => absurd z (by decide), fun _ => h.1, h.2, fun z => absurd rfl z⟩⟩
theorem nd_k {N k : Nat} {κ a b : Int32} (h : nd_fit N k κ a b) : ∃ q : Nat, q < 10 ∧ κ = nI q := by
  obtain ⟨⟨q, hq, e⟩, _⟩ := h
  exact ⟨q, by omega, e⟩
theorem rd_10 {v : Int32} (h : nI 10 ≤ v) : 9 < v ∧ ¬ v < 0 ∧ ¬ v ≤ 9 := by
  rw [Int32.le_iff_toInt_le, nI_toInt (by decide)] at h
  refine ⟨?_, ?_, ?_⟩
  · rw [Int32.lt_iff_toInt_lt, show (9 : Int32).toInt = 9 by decide]; omega
  · rw [Int32.lt_iff_toInt_lt, show (0 : Int32).toInt = 0 by decide]; omega
  · rw [Int32.le_iff_toInt_le, show (9 : Int32).toInt = 9 by decide]; omega
theorem rd_8 {v : Int32} (h : nI 8 ≤ v) : 7 < v ∧ ¬ v < 0 ∧ ¬ v ≤ 7 := by
  rw [Int32.le_iff_toInt_le, nI_toInt (by decide)] at h
  refine ⟨?_, ?_, ?_⟩
  · rw [Int32.lt_iff_toInt_lt, show (7 : Int32).toInt = 7 by decide]; omega
  · rw [Int32.lt_iff_toInt_lt, show (0 : Int32).toInt = 0 by decide]; omega
  · rw [Int32.le_iff_toInt_le, show (7 : Int32).toInt = 7 by decide]; omega
theorem bs_dm_ub (c D : Nat → Nat) (m : Nat) {M : Nat} : ∀ {n : Nat}, (∀ j, j < n → D (bs_sc c j m - 1) ≤ M) → bs_dm c D m n ≤ M := by
  intro n
  induction n with
  | zero => intro _; exact Nat.zero_le _
  | succ n ih =>
    intro h
    rw [bs_dm_s]
    have := ih (fun j hj => h j (by omega))
    have := h n (by omega)
    omega
theorem xn_children {Q : Int32 → Prop} {N k : Nat} {κ a c : Int32} (h : nd_fit N k κ a c) (H : Q (nI (bs_cc κ (nd_b κ c)))) : wpX_childrenOf Q () κ c := by
  unfold wpX_childrenOf
  unfold nd_b at H
  rcases bd_10 h with e | e | e | e | e | e | e | e | e | e <;> rw [e] at H ⊢
  · rw [bs_cc0] at H; exact br_t (by decide) H
  · rw [bs_cc1] at H; exact br_t (by decide) H
  · rw [bs_cc2] at H; exact br_t (by decide) H
  · rw [bs_cc3] at H; exact br_f (by decide) (br_f (by decide) (br_t rfl H))
  · rw [bs_cc4] at H; exact br_f (by decide) (br_f (by decide) (br_f (by decide) (br_t rfl H)))
  · rw [bs_cc5] at H; exact br_f (by decide) (br_f (by decide) (br_f (by decide) (br_f (by decide) (br_t rfl H))))
  · rw [bs_cc6] at H; exact br_f (by decide) (br_f (by decide) (br_f (by decide) (br_f (by decide) (br_f (by decide) (br_t rfl H)))))
  · rw [bs_cc7] at H; exact br_f (by decide) (br_f (by decide) (br_f (by decide) (br_f (by decide) (br_f (by decide) (br_f (by decide) (br_t rfl H))))))
  · rw [bs_cc8] at H; exact br_f (by decide) (br_f (by decide) (br_f (by decide) (br_f (by decide) (br_f (by decide) (br_f (by decide) (br_f (by decide) (br_t rfl H)))))))
  · rw [if_pos rfl, bs_cc9] at H
    rw [e] at h
    obtain ⟨_, w, hw, rfl⟩ := nd_9.mp h
    rw [nI_clamp (by omega)] at H
    exact br_f (by decide) (br_f (by decide) (br_f (by decide) (br_f (by decide) (br_f (by decide) (br_f (by decide) (br_f (by decide) (br_f (by decide) (br_t rfl H))))))))
theorem xn_uses {Q : Int32 → Prop} {κ : Int32} (H1 : (κ = 0 ∨ κ = 1 ∨ κ = 2 ∨ κ = 9) → Q 1) (H0 : ¬ (κ = 0 ∨ κ = 1 ∨ κ = 2 ∨ κ = 9) → Q 0) : wpX_usesFirstOperand Q () κ := by
  unfold wpX_usesFirstOperand
  by_cases a : κ = 0
  · exact br_t a (H1 (Or.inl a))
  · refine br_f a ?_
    by_cases b : κ = 1
    · exact br_t b (H1 (Or.inr (Or.inl b)))
    · refine br_f b ?_
      by_cases c : κ = 2
      · exact br_t c (H1 (Or.inr (Or.inr (Or.inl c))))
      · refine br_f c ?_
        by_cases d : κ = 9
        · exact br_t d (H1 (Or.inr (Or.inr (Or.inr d))))
        · exact br_f d (H0 (fun q => q.elim a (fun q => q.elim b (fun q => q.elim c d))))
section
variable {f_slotCount f_capacity f_nodesUsed f_buildingSlot f_pendingCount f_summariesCurrent f_callsActive f_callsMade f_runOutcome f_runValue : Int32} {a_slotStates a_slotArities a_slotStarts a_slotSizes a_kinds a_firstOperands a_secondOperands a_children a_parents a_depths a_pendingNodes a_summaries a_nextSummaries a_nodeTypes a_paramsAfter a_params a_values a_arguments a_frameSlots a_frameNodes : Nat → Int32} {N k b : Nat} {κ a c : Int32}
theorem xn_fit {A0 A1 : Prop} (hN : N ≤ 8) (hb : b < N) (hk : k ≤ 2) (ek : a_slotArities b = nI k) (H1 : nd_fit N k κ a c → A1) (H0 : ¬ nd_fit N k κ a c → A0) :
    wpX_isKind (fun r => ((r = 0 → A0) ∧ (¬ r = 0 → wpX_operandsFit (fun r' => ((r' = 0 → A0) ∧ (¬ r' = 0 → A1))) (nI N, f_capacity, f_nodesUsed, nI b, f_pendingCount, f_summariesCurrent, f_callsActive, f_callsMade, f_runOutcome, f_runValue, a_slotStates, a_slotArities, a_slotStarts, a_slotSizes, a_kinds, a_firstOperands, a_secondOperands, a_children, a_parents, a_depths, a_pendingNodes, a_summaries, a_nextSummaries, a_nodeTypes, a_paramsAfter, a_params, a_values, a_arguments, a_frameSlots, a_frameNodes) κ a c))) () κ := by
  have w : vp_in (nI b) 8 := vp_in_nI (by omega) (by decide)
  have cl : (nI b).toNatClampNeg = b := nI_clamp (by omega)
  unfold wpX_isKind
  rcases pk_ix κ (n := 10) (by decide) with h | h | ⟨q, hq, rfl⟩
  · refine br_t h (br_t rfl (H0 fun z => ?_))
    obtain ⟨q, hq, rfl⟩ := nd_k z
    exact nI_pos (by omega) h
  · refine br_f (rd_10 h).2.1 (br_t (rd_10 h).1 (br_t rfl (H0 fun z => ?_)))
    obtain ⟨q, hq, rfl⟩ := nd_k z
    exact nI_ge hq (by omega) h
  · refine br_f (nI_pos (by omega)) (br_f (nI_nlt (b := q) (a := 9) (by omega) (by decide)) (br_f (by decide) ?_))
    unfold wpX_operandsFit
    dsimp only
    refine br_f (nI_pos (by omega)) (br_f (nI_nlt (b := q) (a := 9) (by omega) (by decide)) ?_)
    have hq10 : q = 0 ∨ q = 1 ∨ q = 2 ∨ q = 3 ∨ q = 4 ∨ q = 5 ∨ q = 6 ∨ q = 7 ∨ q = 8 ∨ q = 9 := by omega
    rcases hq10 with rfl | rfl | rfl | rfl | rfl | rfl | rfl | rfl | rfl | rfl
    · exact br_t rfl (xt_isInt (fun x y => ⟨rfl, br_f (by decide) (H1 (nd_0.mpr ⟨x, y⟩))⟩) (fun n => ⟨rfl, br_t rfl (H0 fun z => n (nd_0.mp z))⟩))
    · refine br_f (by decide) (br_t rfl ?_)
      rcases pk_ix a (n := 8) (by decide) with h | h | ⟨j, hj, rfl⟩
      · refine br_t h (br_t rfl (H0 fun z => ?_))
        obtain ⟨j, hj, rfl⟩ := nd_1.mp z
        exact nI_pos (by omega) h
      · refine br_f (rd_8 h).2.1 (br_t (rd_8 h).1 (br_t rfl (H0 fun z => ?_)))
        obtain ⟨j, hj, rfl⟩ := nd_1.mp z
        exact nI_ge hj (by omega) h
      · exact br_f (nI_pos (by omega)) (br_f (nI_nlt (b := j) (a := 7) (by omega) (by decide)) (br_f (by decide) (H1 (nd_1.mpr ⟨j, hj, rfl⟩))))
    · refine br_f (by decide) (br_f (by decide) (br_t rfl ?_))
      rw [cl, ek]
      rcases pk_ix a (n := k) (by omega) with h | h | ⟨j, hj, rfl⟩
      · refine br_t h (br_t rfl (H0 fun z => ?_))
        obtain ⟨j, hj, rfl⟩ := nd_2.mp z
        exact nI_pos (by omega) h
      · refine br_f (rd_n (by omega) h) ⟨w, br_t h (br_t rfl (H0 fun z => ?_))⟩
        obtain ⟨j, hj, rfl⟩ := nd_2.mp z
        exact nI_ge hj (by omega) h
      · exact br_f (nI_pos (by omega)) ⟨w, br_f (nI_ge hj (by omega)) (br_f (by decide) (H1 (nd_2.mpr ⟨j, hj, rfl⟩)))⟩
    · exact br_f (by decide) (br_f (by decide) (br_f (by decide) (br_t rfl (br_f (by decide) (H1 (nd_mid (by decide) (by decide)))))))
    · exact br_f (by decide) (br_f (by decide) (br_f (by decide) (br_f (by decide) (br_t rfl (br_f (by decide) (H1 (nd_mid (by decide) (by decide))))))))
    · exact br_f (by decide) (br_f (by decide) (br_f (by decide) (br_f (by decide) (br_f (by decide) (br_t rfl (br_f (by decide) (H1 (nd_mid (by decide) (by decide)))))))))
    · exact br_f (by decide) (br_f (by decide) (br_f (by decide) (br_f (by decide) (br_f (by decide) (br_f (by decide) (br_t rfl (br_f (by decide) (H1 (nd_mid (by decide) (by decide))))))))))
    · exact br_f (by decide) (br_f (by decide) (br_f (by decide) (br_f (by decide) (br_f (by decide) (br_f (by decide) (br_f (by decide) (br_t rfl (br_f (by decide) (H1 (nd_mid (by decide) (by decide)))))))))))
    · exact br_f (by decide) (br_f (by decide) (br_f (by decide) (br_f (by decide) (br_f (by decide) (br_f (by decide) (br_f (by decide) (br_f (by decide) (br_t rfl (br_f (by decide) (H1 (nd_mid (by decide) (by decide))))))))))))
    · refine br_f (by decide) (br_f (by decide) (br_f (by decide) (br_f (by decide) (br_f (by decide) (br_f (by decide) (br_f (by decide) (br_f (by decide) (br_f (by decide) (br_t rfl ?_)))))))))
      refine xd_slot hN (fun g hg e => br_f (by decide) ?_) (fun no => br_t rfl (br_t rfl (H0 fun z => no (nd_9.mp z).1)))
      rcases pk_ix c (n := 3) (by decide) with h | h | ⟨j, hj, rfl⟩
      · refine br_t h (br_t rfl (H0 fun z => ?_))
        obtain ⟨_, j, hj, rfl⟩ := nd_9.mp z
        exact nI_pos (by omega) h
      · refine br_f (rd_3 h).2.1 (br_t (rd_3 h).1 (br_t rfl (H0 fun z => ?_)))
        obtain ⟨_, j, hj, rfl⟩ := nd_9.mp z
        exact nI_ge (show j < 3 by omega) (by omega) h
      · exact br_f (nI_pos (by omega)) (br_f (nI_nlt (b := j) (a := 2) (by omega) (by decide)) (br_f (by decide) (H1 (nd_9.mpr ⟨⟨g, hg, e⟩, j, by omega, rfl⟩))))
end
section
variable {f_slotCount f_capacity f_nodesUsed f_buildingSlot f_pendingCount f_summariesCurrent f_callsActive f_callsMade f_runOutcome f_runValue : Int32} {a_slotStates a_slotArities a_slotStarts a_slotSizes a_kinds a_firstOperands a_secondOperands a_children a_parents a_depths a_pendingNodes a_summaries a_nextSummaries a_nodeTypes a_paramsAfter a_params a_values a_arguments a_frameSlots a_frameNodes : Nat → Int32} {N k z S P U : Nat} {K A B : Nat → Int32}
theorem xn_depth {Q : Int32 → Prop} {w : Nat} (hB : rl_body N k z S K A B a_kinds a_firstOperands a_secondOperands a_children a_parents a_depths) (hw : w ≤ P) (eP : P = bs_pc (rl_c K B) z) (pp : ∀ q, q < P → a_pendingNodes (P - 1 - q) = nI (S + (bs_sc (rl_c K B) q z - 1)) ∧ a_parents (S + (bs_sc (rl_c K B) q z - 1)) = -1)
    (H : Q (nI (bs_dm (rl_c K B) (rl_D S a_depths) z w + 1))) : wpX_depthOver Q (f_slotCount, f_capacity, f_nodesUsed, f_buildingSlot, nI P, f_summariesCurrent, f_callsActive, f_callsMade, f_runOutcome, f_runValue, a_slotStates, a_slotArities, a_slotStarts, a_slotSizes, a_kinds, a_firstOperands, a_secondOperands, a_children, a_parents, a_depths, a_pendingNodes, a_summaries, a_nextSummaries, a_nodeTypes, a_paramsAfter, a_params, a_values, a_arguments, a_frameSlots, a_frameNodes) (nI w) := by
  have hS := hB.1
  have pl := bs_pc_le (rl_c K B) z
  have pos := bs_pos hB.2.1.2.2
  have row : ∀ q, q < P → bs_sc (rl_c K B) q z - 1 < z := fun q hq => by
    have := pos.1 q (by omega)
    have := bs_sc_le (rl_c K B) z q
    omega
  have dd : ∀ q, q < P → a_depths (S + (bs_sc (rl_c K B) q z - 1)) = nI (rl_D S a_depths (bs_sc (rl_c K B) q z - 1)) ∧ rl_D S a_depths (bs_sc (rl_c K B) q z - 1) ≤ 10 := fun q hq => by
    have r := row q hq
    have l := rl_D_lt hB r
    have n := rl_D_in hB r
    obtain ⟨_, _, _, _, d1, _⟩ := hB.2.2 _ r
    exact ⟨by rw [d1, l], n.2⟩
  have loop : ∀ d M fuel, d ≤ w → d < fuel → M ≤ 10 → (∀ q, d ≤ q → q < w → rl_D S a_depths (bs_sc (rl_c K B) q z - 1) ≤ M) → (M = 0 ∨ ∃ q, q < w ∧ M = rl_D S a_depths (bs_sc (rl_c K B) q z - 1)) → wX_depthOver_9 Q f_slotCount f_capacity f_nodesUsed f_buildingSlot (nI P) f_summariesCurrent f_callsActive f_callsMade f_runOutcome f_runValue a_slotStates a_slotArities a_slotStarts a_slotSizes a_kinds a_firstOperands a_secondOperands a_children a_parents a_depths a_pendingNodes a_summaries a_nextSummaries a_nodeTypes a_paramsAfter a_params a_values a_arguments a_frameSlots a_frameNodes fuel (nI M) (nI (P - d)) := by
    intro d
    induction d with
    | zero =>
      intro M fuel h1 h2 h3 up at'
      obtain ⟨fuel, rfl⟩ : ∃ m, fuel = m + 1 := ⟨fuel - 1, by omega⟩
      have e : M = bs_dm (rl_c K B) (rl_D S a_depths) z w := by
        have u := bs_dm_ub (rl_c K B) (rl_D S a_depths) z (n := w) (M := M) (fun j hj => up j (by omega) hj)
        rcases at' with rfl | ⟨q, hq, rfl⟩
        · omega
        · have := bs_dm_le (rl_c K B) (rl_D S a_depths) z hq
          omega
      rw [← e] at H
      refine br_t (nI_le (by omega) (by omega)) ?_
      rw [nI_1]; exact H
    | succ d ih =>
      intro M fuel h1 h2 h3 up at'
      obtain ⟨fuel, rfl⟩ : ∃ m, fuel = m + 1 := ⟨fuel - 1, by omega⟩
      have pd := (pp d (by omega)).1
      obtain ⟨v1, v2⟩ := dd d (by omega)
      have r := row d (by omega)
      refine br_f (nI_ge (by omega) (by omega)) ⟨vp_in_nI (by omega) (by decide), ?_⟩
      rw [nI_clamp (n := P - (d + 1)) (by omega), show P - (d + 1) = P - 1 - d by omega, pd, nI_clamp (n := S + (bs_sc (rl_c K B) d z - 1)) (by omega), v1]
      refine ⟨vp_in_nI (by omega) (by decide), nm_e ?_⟩
      by_cases q : rl_D S a_depths (bs_sc (rl_c K B) d z - 1) ≤ M
      · refine br_t (nI_le q (by omega)) (nm_r (e' := nI (P - d)) (by rw [nI_1, show P - 1 - d + 1 = P - d by omega]) (ih M fuel (by omega) (by omega) h3 (fun j hj hj2 => ?_) at'))
        by_cases e : j = d
        · subst e; exact q
        · exact up j (by omega) hj2
      · refine br_f (nI_ge (by omega) (by omega)) (nm_r (e' := nI (P - d)) (by rw [nI_1, show P - 1 - d + 1 = P - d by omega]) (ih _ fuel (by omega) (by omega) v2 (fun j hj hj2 => ?_) (Or.inr ⟨d, by omega, rfl⟩)))
        by_cases e : j = d
        · subst e; exact Nat.le_refl _
        · have := up j (by omega) hj2; omega
  unfold wpX_depthOver
  dsimp only
  refine nm_r (e' := nI (P - w)) (pk_sub hw) ⟨w + 1, loop w 0 (w + 1) (Nat.le_refl _) (by omega) (by omega) (fun q h1 h2 => absurd h1 (by omega)) (Or.inl rfl)⟩
theorem xn_adopt {Q : St2 → Prop} {w : Nat} (hB : rl_body N k z S K A B a_kinds a_firstOperands a_secondOperands a_children a_parents a_depths) (hw : w ≤ P) (w3 : w ≤ 3) (eP : P = bs_pc (rl_c K B) z) (eU : S + z = U) (hU : U < 128) (pp : ∀ q, q < P → a_pendingNodes (P - 1 - q) = nI (S + (bs_sc (rl_c K B) q z - 1)) ∧ a_parents (S + (bs_sc (rl_c K B) q z - 1)) = -1)
    (H : ∀ CH PA : Nat → Int32, (∀ i, i < w → CH (U * 3 + i) = nI (S + (bs_sc (rl_c K B) (w - 1 - i) z - 1))) → (∀ q, (q < U * 3 ∨ U * 3 + w ≤ q) → CH q = a_children q) → (∀ i, i < w → PA (S + (bs_sc (rl_c K B) (w - 1 - i) z - 1)) = nI U) → (∀ r, (∀ i, i < w → r ≠ S + (bs_sc (rl_c K B) (w - 1 - i) z - 1)) → PA r = a_parents r) → Q (f_slotCount, f_capacity, nI U, f_buildingSlot, nI (P - w), f_summariesCurrent, f_callsActive, f_callsMade, f_runOutcome, f_runValue, a_slotStates, a_slotArities, a_slotStarts, a_slotSizes, a_kinds, a_firstOperands, a_secondOperands, CH, PA, a_depths, a_pendingNodes, a_summaries, a_nextSummaries, a_nodeTypes, a_paramsAfter, a_params, a_values, a_arguments, a_frameSlots, a_frameNodes)) :
    wpX_adoptPending Q (f_slotCount, f_capacity, nI U, f_buildingSlot, nI P, f_summariesCurrent, f_callsActive, f_callsMade, f_runOutcome, f_runValue, a_slotStates, a_slotArities, a_slotStarts, a_slotSizes, a_kinds, a_firstOperands, a_secondOperands, a_children, a_parents, a_depths, a_pendingNodes, a_summaries, a_nextSummaries, a_nodeTypes, a_paramsAfter, a_params, a_values, a_arguments, a_frameSlots, a_frameNodes) (nI w) := by
  have pl := bs_pc_le (rl_c K B) z
  have pos := bs_pos hB.2.1.2.2
  have row : ∀ q, q < P → bs_sc (rl_c K B) q z - 1 < z := fun q hq => by
    have := pos.1 q (by omega)
    have := bs_sc_le (rl_c K B) z q
    omega
  have loop : ∀ d s fuel (CH PA : Nat → Int32), s + d = w → d < fuel → (∀ i, i < s → CH (U * 3 + i) = nI (S + (bs_sc (rl_c K B) (w - 1 - i) z - 1))) → (∀ q, (q < U * 3 ∨ U * 3 + s ≤ q) → CH q = a_children q) → (∀ i, i < s → PA (S + (bs_sc (rl_c K B) (w - 1 - i) z - 1)) = nI U) → (∀ r, (∀ i, i < s → r ≠ S + (bs_sc (rl_c K B) (w - 1 - i) z - 1)) → PA r = a_parents r) →
      wX_adoptPending_9 Q (nI w) (nI (P - w)) f_slotCount f_capacity (nI U) f_buildingSlot (nI P) f_summariesCurrent f_callsActive f_callsMade f_runOutcome f_runValue fuel (nI s) a_slotStates a_slotArities a_slotStarts a_slotSizes a_kinds a_firstOperands a_secondOperands CH PA a_depths a_pendingNodes a_summaries a_nextSummaries a_nodeTypes a_paramsAfter a_params a_values a_arguments a_frameSlots a_frameNodes := by
    intro d
    induction d with
    | zero =>
      intro s fuel CH PA h1 h2 a1 a2 a3 a4
      obtain ⟨fuel, rfl⟩ : ∃ m, fuel = m + 1 := ⟨fuel - 1, by omega⟩
      obtain rfl : s = w := by omega
      exact br_t (nI_le (Nat.le_refl _) (by omega)) (H CH PA a1 a2 a3 a4)
    | succ d ih =>
      intro s fuel CH PA h1 h2 a1 a2 a3 a4
      obtain ⟨fuel, rfl⟩ : ∃ m, fuel = m + 1 := ⟨fuel - 1, by omega⟩
      have pd := (pp (w - 1 - s) (by omega)).1
      have r := row (w - 1 - s) (by omega)
      refine br_f (nI_ge (by omega) (by omega)) ?_
      rw [nI_add, xc_3, nI_add, nI_clamp (n := P - w + s) (by omega), nI_clamp (n := U * 3 + s) (by omega), show P - w + s = P - 1 - (w - 1 - s) by omega, pd]
      refine ⟨vp_in_nI (by omega) (by decide), nm_e ⟨vp_in_nI (by omega) (by decide), nm_e ⟨vp_in_nI (by omega) (by decide), ?_⟩⟩⟩
      rw [nI_clamp (n := S + (bs_sc (rl_c K B) (w - 1 - s) z - 1)) (by omega)]
      refine nm_e (nm_r (nI_1 s) (ih (s + 1) fuel _ _ (by omega) (by omega) (fun i hi => ?_) (fun q hq => ?_) (fun i hi => ?_) (fun r' hr => ?_)))
      · by_cases e : i = s
        · subst e; exact pk_us
        · rw [pk_un (by omega)]; exact a1 i (by omega)
      · rw [pk_un (by omega)]; exact a2 q (by omega)
      · by_cases e : S + (bs_sc (rl_c K B) (w - 1 - i) z - 1) = S + (bs_sc (rl_c K B) (w - 1 - s) z - 1)
        · rw [e]; exact pk_us
        · rw [pk_un e]
          by_cases e2 : i = s
          · subst e2; exact absurd rfl e
          · exact a3 i (by omega)
      · rw [pk_un (hr s (by omega))]
        exact a4 r' (fun i hi => hr i (by omega))
  unfold wpX_adoptPending
  dsimp only
  exact nm_r (e' := nI (P - w)) (pk_sub hw) ⟨w + 1, loop w 0 (w + 1) a_children a_parents (by omega) (by omega) (fun i hi => absurd hi (Nat.not_lt_zero i)) (fun _ _ => rfl) (fun i hi => absurd hi (Nat.not_lt_zero i)) (fun _ _ => rfl)⟩
end
section
variable {f_slotCount f_capacity f_nodesUsed f_buildingSlot f_pendingCount f_summariesCurrent f_callsActive f_callsMade f_runOutcome f_runValue : Int32} {a_slotStates a_slotArities a_slotStarts a_slotSizes a_kinds a_firstOperands a_secondOperands a_children a_parents a_depths a_pendingNodes a_summaries a_nextSummaries a_nodeTypes a_paramsAfter a_params a_values a_arguments a_frameSlots a_frameNodes : Nat → Int32} {N C k z b S P U w : Nat} {K A B : Nat → Int32} {κ a c : Int32}
theorem xe_node {Q : Int32 → St2 → Prop} (hN : N ≤ 8) (hC : C ≤ 128) (hUC : U ≤ C) (hb : b < N) (hk : k ≤ 2) (ek : a_slotArities b = nI k) (e1 : a_slotSizes b = nI z) (hB : rl_body N k z S K A B a_kinds a_firstOperands a_secondOperands a_children a_parents a_depths)
    (eP : P = bs_pc (rl_c K B) z) (eU : S + z = U) (pp : ∀ q, q < P → a_pendingNodes (P - 1 - q) = nI (S + (bs_sc (rl_c K B) q z - 1)) ∧ a_parents (S + (bs_sc (rl_c K B) q z - 1)) = -1) (ew : bs_cc κ (nd_b κ c) = w)
    (H1 : nd_fit N k κ a c → w ≤ 3 → w ≤ P → U < C → bs_dm (rl_c K B) (rl_D S a_depths) z w + 1 ≤ 10 → ∀ CH PA : Nat → Int32, (∀ i, i < w → CH (U * 3 + i) = nI (S + (bs_sc (rl_c K B) (w - 1 - i) z - 1))) → (∀ q, (q < U * 3 ∨ U * 3 + w ≤ q) → CH q = a_children q) → (∀ i, i < w → PA (S + (bs_sc (rl_c K B) (w - 1 - i) z - 1)) = nI U) → (∀ r, (∀ i, i < w → r ≠ S + (bs_sc (rl_c K B) (w - 1 - i) z - 1)) → PA r = a_parents r) →
      Q 1 (nI N, nI C, nI (U + 1), nI b, nI (P - w + 1), f_summariesCurrent, f_callsActive, f_callsMade, f_runOutcome, f_runValue, a_slotStates, a_slotArities, a_slotStarts, upd a_slotSizes b (nI (z + 1)), upd a_kinds U κ, upd a_firstOperands U (nd_a κ a), upd a_secondOperands U (nd_b κ c), CH, upd PA U (-1), upd a_depths U (nI (bs_dm (rl_c K B) (rl_D S a_depths) z w + 1)), upd a_pendingNodes (P - w) (nI U), a_summaries, a_nextSummaries, a_nodeTypes, a_paramsAfter, a_params, a_values, a_arguments, a_frameSlots, a_frameNodes))
    (H0 : ¬ (nd_fit N k κ a c ∧ w ≤ P ∧ U < C ∧ bs_dm (rl_c K B) (rl_D S a_depths) z w + 1 ≤ 10) → Q 0 (nI N, nI C, nI U, nI b, nI P, f_summariesCurrent, f_callsActive, f_callsMade, f_runOutcome, f_runValue, a_slotStates, a_slotArities, a_slotStarts, a_slotSizes, a_kinds, a_firstOperands, a_secondOperands, a_children, a_parents, a_depths, a_pendingNodes, a_summaries, a_nextSummaries, a_nodeTypes, a_paramsAfter, a_params, a_values, a_arguments, a_frameSlots, a_frameNodes)) : wpX_node Q (nI N, nI C, nI U, nI b, nI P, f_summariesCurrent, f_callsActive, f_callsMade, f_runOutcome, f_runValue, a_slotStates, a_slotArities, a_slotStarts, a_slotSizes, a_kinds, a_firstOperands, a_secondOperands, a_children, a_parents, a_depths, a_pendingNodes, a_summaries, a_nextSummaries, a_nodeTypes, a_paramsAfter, a_params, a_values, a_arguments, a_frameSlots, a_frameNodes) κ a c := by
  have hS := hB.1
  have pl := bs_pc_le (rl_c K B) z
  have nb : ¬ nI b = -1 := fun z => by
    have := nI_pos' (n := b) (by omega)
    rw [z] at this
    exact absurd this (by decide)
  unfold wpX_node
  dsimp only
  refine br_f nb (xn_fit hN hb hk ek (fun ft => ?_) (fun nf => H0 fun q => nf q.1))
  have w3 : w ≤ 3 := by
    rw [← ew]
    rcases bd_10 ft with z | z | z | z | z | z | z | z | z | z <;> rw [z]
    · rw [bs_cc0]; decide
    · rw [bs_cc1]; decide
    · rw [bs_cc2]; decide
    · rw [bs_cc3]; decide
    · rw [bs_cc4]; decide
    · rw [bs_cc5]; decide
    · rw [bs_cc6]; decide
    · rw [bs_cc7]; decide
    · rw [bs_cc8]; decide
    · rw [bs_cc9]
      obtain ⟨q, hq, e⟩ := ft.2.2.2.2.2.1
      rw [z] at e
      rw [e, nI_clamp (by omega)]; omega
  refine xn_children ft ?_
  rw [ew]
  by_cases c1 : w ≤ P
  · refine br_f (nI_nlt c1 (by omega)) ?_
    by_cases c2 : U < C
    · refine br_t (nI_lt c2 (by omega)) (xn_depth hB c1 eP pp ?_)
      by_cases c3 : bs_dm (rl_c K B) (rl_D S a_depths) z w + 1 ≤ 10
      · refine br_t (nI_le (b := 10) c3 (by decide)) (xn_adopt hB c1 w3 eP eU (by omega) pp fun CH PA a1 a2 a3 a4 => ?_)
        have wU : vp_in (nI U) 128 := vp_in_nI (by omega) (by decide)
        have cU : (nI U).toNatClampNeg = U := nI_clamp (by omega)
        have wb : vp_in (nI b) 8 := vp_in_nI (by omega) (by decide)
        have cb : (nI b).toNatClampNeg = b := nI_clamp (by omega)
        have cP : (nI (P - w)).toNatClampNeg = P - w := nI_clamp (by omega)
        have fin : ∀ s0 s1 : Int32, s0 = nd_a κ a → s1 = nd_b κ c → wX_node_129 Q (nI (bs_dm (rl_c K B) (rl_D S a_depths) z w + 1)) s1 (nI U) (nI N) (nI C) (nI U) (nI b) (nI (P - w)) f_summariesCurrent f_callsActive f_callsMade f_runOutcome f_runValue a_slotStates a_slotArities a_slotStarts a_slotSizes (upd a_kinds U κ) (upd a_firstOperands U s0) a_secondOperands CH PA a_depths a_pendingNodes a_summaries a_nextSummaries a_nodeTypes a_paramsAfter a_params a_values a_arguments a_frameSlots a_frameNodes := by
          intro s0 s1 es0 es1
          unfold wX_node_129
          rw [cU, cb, cP, e1, es0, es1, nI_1 z]
          exact ⟨wU, nm_e ⟨wU, nm_e ⟨wU, nm_e ⟨vp_in_nI (by omega) (by decide), nm_e (nm_r (nI_1 _) (nm_r (nI_1 _) ⟨wb, wb, nm_e (H1 ft w3 c1 c2 c3 CH PA a1 a2 a3 a4)⟩))⟩⟩⟩⟩
        have f109 : ∀ s0 : Int32, s0 = nd_a κ a → wX_node_109 Q κ c (nI (bs_dm (rl_c K B) (rl_D S a_depths) z w + 1)) s0 (nI U) (nI N) (nI C) (nI U) (nI b) (nI (P - w)) f_summariesCurrent f_callsActive f_callsMade f_runOutcome f_runValue a_slotStates a_slotArities a_slotStarts a_slotSizes (upd a_kinds U κ) a_firstOperands a_secondOperands CH PA a_depths a_pendingNodes a_summaries a_nextSummaries a_nodeTypes a_paramsAfter a_params a_values a_arguments a_frameSlots a_frameNodes := by
          intro s0 es0
          unfold wX_node_109
          rw [cU]
          refine ⟨wU, nm_e ?_⟩
          by_cases k9 : κ = 9
          · exact br_t k9 (fin s0 c es0 (by unfold nd_b; rw [if_pos k9]))
          · exact br_f k9 (fin s0 0 es0 (by unfold nd_b; rw [if_neg k9]))
        dsimp only
        rw [cU]
        refine ⟨wU, nm_e (xn_uses (fun u => br_f (by decide) ?_) (fun u => br_t rfl ?_))⟩
        · exact f109 a (by unfold nd_a; rw [if_pos u])
        · exact f109 0 (by unfold nd_a; rw [if_neg u])
      · exact br_f (nI_ge (b := bs_dm (rl_c K B) (rl_D S a_depths) z w + 1) (a := 10) (by omega) (by
          have pos := bs_pos hB.2.1.2.2
          have := bs_dm_10 (rl_c K B) (rl_D S a_depths) z (n := w) (fun j hj => by
            have := pos.1 j (by omega)
            have := bs_sc_le (rl_c K B) z j
            exact (rl_D_in hB (show bs_sc (rl_c K B) j z - 1 < z by omega)).2)
          omega)) (H0 fun q => c3 q.2.2.2)
    · exact br_f (nI_nlt (by omega) (by omega)) (H0 fun q => c2 q.2.2.1)
  · exact br_t (nI_lt (by omega) (by omega)) (H0 fun q => c1 q.2.1)
end
end
section
/-- the law's picture of the object: N slots, well made bodies, and, while the summaries are current, a table that STEP leaves as it is -/
def zi_R (N : Nat) (u : St2) : Prop := match u with
  | (f_slotCount, f_capacity, f_nodesUsed, f_buildingSlot, f_pendingCount, f_summariesCurrent, f_callsActive, f_callsMade, f_runOutcome, f_runValue, a_slotStates, a_slotArities, a_slotStarts, a_slotSizes, a_kinds, a_firstOperands, a_secondOperands, a_children, a_parents, a_depths, a_pendingNodes, a_summaries, a_nextSummaries, a_nodeTypes, a_paramsAfter, a_params, a_values, a_arguments, a_frameSlots, a_frameNodes) => ∃ (C U : Nat) (sz S : Nat → Nat) (tb : Nat → ty_T) (szY bk ba bb : Nat → Int32), f_slotCount = nI N ∧ f_capacity = nI C ∧ f_nodesUsed = nI U
    ∧ (1 ≤ N ∧ N ≤ 8 ∧ 16 ≤ C ∧ C ≤ 128 ∧ U ≤ C) ∧ (f_summariesCurrent = 0 ∨ f_summariesCurrent = 1)
    ∧ rl_slots N U sz S a_slotStates a_slotArities a_slotSizes szY a_slotStarts bk ba bb a_kinds a_firstOperands a_secondOperands a_children a_parents a_depths
    ∧ rl_bld N U sz S a_slotStates bk bb a_pendingNodes a_parents f_buildingSlot f_pendingCount
    ∧ (∀ q, ty_ok (tb q)) ∧ (∀ q, q < 24 → a_summaries q = ty_x (tb q)) ∧ (∀ q, 3 * N ≤ q → q < 24 → a_nextSummaries q = 0)
    ∧ (f_summariesCurrent = 1 → ∀ q, q < 24 → sp_step N (rl_K bk) (rl_K ba) (rl_K bb) a_slotStates a_slotArities sz tb q = tb q)
def zi_cur (u : St2) : Prop := match u with
  | (f_slotCount, f_capacity, f_nodesUsed, f_buildingSlot, f_pendingCount, f_summariesCurrent, f_callsActive, f_callsMade, f_runOutcome, f_runValue, a_slotStates, a_slotArities, a_slotStarts, a_slotSizes, a_kinds, a_firstOperands, a_secondOperands, a_children, a_parents, a_depths, a_pendingNodes, a_summaries, a_nextSummaries, a_nodeTypes, a_paramsAfter, a_params, a_values, a_arguments, a_frameSlots, a_frameNodes) => f_summariesCurrent = 1
/-- what a run that ends well leaves: the arguments and the result lie in the types of f -/
def zi_ok (f x y : Int32) (u : St2) : Prop := match u with
  | (f_slotCount, f_capacity, f_nodesUsed, f_buildingSlot, f_pendingCount, f_summariesCurrent, f_callsActive, f_callsMade, f_runOutcome, f_runValue, a_slotStates, a_slotArities, a_slotStarts, a_slotSizes, a_kinds, a_firstOperands, a_secondOperands, a_children, a_parents, a_depths, a_pendingNodes, a_summaries, a_nextSummaries, a_nodeTypes, a_paramsAfter, a_params, a_values, a_arguments, a_frameSlots, a_frameNodes) => ∃ (N g k : Nat) (tb : Nat → ty_T), f = nI g ∧ g < N ∧ N ≤ 8 ∧ f_slotCount = nI N ∧ a_slotStates g = 2 ∧ k ≤ 2 ∧ a_slotArities g = nI k ∧ (∀ q, ty_ok (tb q)) ∧ (∀ q, q < 24 → a_summaries q = ty_x (tb q))
    ∧ (1 ≤ k → sd_in x (tb (g * 3))) ∧ (2 ≤ k → sd_in y (tb (g * 3 + 1))) ∧ sd_in f_runValue (tb (g * 3 + 2))
theorem zi_begin {Q : Int32 → St2 → Prop} {N : Nat} {u : St2} (I : zi_R N u) {v1 v2 : Int32} (H : ∀ r u', zi_R N u' → Q r u') : wpX_begin Q u v1 v2 := by
  have J := I
  obtain ⟨f_slotCount, f_capacity, f_nodesUsed, f_buildingSlot, f_pendingCount, f_summariesCurrent, f_callsActive, f_callsMade, f_runOutcome, f_runValue, a_slotStates, a_slotArities, a_slotStarts, a_slotSizes, a_kinds, a_firstOperands, a_secondOperands, a_children, a_parents, a_depths, a_pendingNodes, a_summaries, a_nextSummaries, a_nodeTypes, a_paramsAfter, a_params, a_values, a_arguments, a_frameSlots, a_frameNodes⟩ := u
  obtain ⟨C, U, sz, S, tb, szY, bk, ba, bb, rfl, rfl, rfl, ⟨hN1, hN, hC1, hC, hU⟩, hcur, hs, hbld, hT, ht, hnx, hfix⟩ := I
  refine xe_begin hN (fun f a bm hf ha e1 e2 z => H _ _ ?_) (fun no => H _ _ J)
  obtain ⟨_, pz, nob⟩ : f_buildingSlot = -1 ∧ f_pendingCount = 0 ∧ ∀ f, f < N → a_slotStates f ≠ 1 := by
    rcases hbld with h | ⟨b, P, hb, eb, _⟩
    · exact h
    · rw [eb] at bm
      have := nI_pos' (n := b) (by omega)
      rw [bm] at this
      exact absurd this (by decide)
  refine ⟨C, U, bg_upd sz f 0, bg_upd S f U, tb, upd szY f 0, bk, ba, bb, rfl, rfl, rfl, ⟨hN1, hN, hC1, hC, hU⟩, hcur, ?_, ?_, hT, ht, hnx, fun c q hq => ?_⟩
  · intro g hg
    by_cases e : g = f
    · subst e
      rw [bg_us, bg_us]
      refine ⟨Or.inr (Or.inl pk_us), fun _ => ⟨pk_us, pk_us, pk_us, Nat.le_refl _, a, by omega, pk_us, by omega, ⟨fun i hi => absurd hi (Nat.not_lt_zero i), fun i => rfl, fun i hi => absurd hi (Nat.not_lt_zero i)⟩, fun i hi => absurd hi (Nat.not_lt_zero i)⟩, fun n => ?_⟩
      rw [pk_us] at n
      exact absurd n (by decide)
    · rw [bg_un e, bg_un e]
      exact rl_slot_un (hs g hg) e (pk_un e) (pk_un e) (pk_un e) (pk_un e) (pk_un e) (fun n => ((hs g hg).2.1 n).2.2.2.1)
  · refine Or.inr ⟨f, 0, hf, rfl, pz.trans nI_0.symm, pk_us, fun g hg e => ?_, ?_, fun g hg s2 => ?_, by rw [bg_us]; rfl, fun q hq => absurd hq (Nat.not_lt_zero q)⟩
    · rw [pk_un e]; exact nob g hg
    · rw [bg_us, bg_us]; rfl
    · have e : g ≠ f := fun e => by
        rw [e, pk_us] at s2
        exact absurd s2 (by decide)
      rw [bg_un e, bg_un e, bg_us]
      rw [pk_un e] at s2
      exact ((hs g hg).2.1 (by rw [s2]; decide)).2.2.2.1
  · rw [sd_step (st := a_slotStates) (ar := a_slotArities) (sz := sz) (K := rl_K bk) (A := rl_K ba) (B := rl_K bb) hN (rl_sp_ok hs) ⟨fun g hg => ?_, fun g hg s => ?_⟩]
    · exact hfix c q hq
    · by_cases e : g = f
      · subst e
        rw [pk_us, z]
        exact ⟨fun n => absurd n (by decide), fun n => absurd n (by decide)⟩
      · rw [pk_un e]
    · have e : g ≠ f := fun e => by
        rw [e, z] at s
        exact absurd s (by decide)
      exact ⟨pk_un e, bg_un e, fun i hi => ⟨rfl, rfl, rfl⟩⟩
theorem zi_end {Q : Int32 → St2 → Prop} {N : Nat} {u : St2} (I : zi_R N u) (H : ∀ r u', zi_R N u' → Q r u') : wpX_end Q u := by
  have J := I
  obtain ⟨f_slotCount, f_capacity, f_nodesUsed, f_buildingSlot, f_pendingCount, f_summariesCurrent, f_callsActive, f_callsMade, f_runOutcome, f_runValue, a_slotStates, a_slotArities, a_slotStarts, a_slotSizes, a_kinds, a_firstOperands, a_secondOperands, a_children, a_parents, a_depths, a_pendingNodes, a_summaries, a_nextSummaries, a_nodeTypes, a_paramsAfter, a_params, a_values, a_arguments, a_frameSlots, a_frameNodes⟩ := u
  obtain ⟨C, U, sz, S, tb, szY, bk, ba, bb, rfl, rfl, rfl, ⟨hN1, hN, hC1, hC, hU⟩, hcur, hs, hbld, hT, ht, hnx, hfix⟩ := I
  have hb0 := hbld
  unfold wpX_end
  rcases hbld with ⟨rfl, rfl, _⟩ | ⟨b, P, hb, rfl, rfl, s1, un, eU, lo, eP, pp⟩
  · exact br_t rfl (H _ _ J)
  · obtain ⟨e1, e2, e3, e4, kk, hkk, ekk, hB⟩ := (hs b hb).2.1 (by rw [s1]; decide)
    have hS := hB.1
    have w : vp_in (nI b) 8 := vp_in_nI (by omega) (by decide)
    have cl : (nI b).toNatClampNeg = b := nI_clamp (by omega)
    have pl := bs_pc_le (rl_c (rl_K bk b) (rl_K bb b)) (sz b)
    have nb : ¬ nI b = -1 := fun z => by
      have := nI_pos' (n := b) (by omega)
      rw [z] at this
      exact absurd this (by decide)
    refine br_f nb ?_
    by_cases p1 : P = 1
    · subst p1
      have z0 : 0 < sz b := by
        refine Nat.pos_of_ne_zero fun z => ?_
        rw [z] at eP
        exact absurd (show (1 : Nat) = 0 from eP) (by decide)
      refine br_t rfl (br_f (by decide) ⟨w, nm_r (e' := upd a_slotStates b 2) (by rw [cl]) (H _ _ ?_)⟩)
      refine ⟨C, U, sz, S, tb, szY, bk, ba, bb, rfl, rfl, rfl, ⟨hN1, hN, hC1, hC, hU⟩, Or.inl rfl, ?_, Or.inl ⟨rfl, rfl, fun g hg => ?_⟩, hT, ht, hnx, fun c => absurd c (by decide)⟩
      · intro g hg
        by_cases e : g = b
        · subst e
          refine ⟨Or.inr (Or.inr pk_us), fun _ => ⟨e1, e2, e3, e4, kk, hkk, ekk, hB⟩, fun _ => ⟨z0, eP.symm, ?_⟩⟩
          have := (pp 0 (by omega)).2
          rw [bs_sc_0] at this
          exact this
        · exact rl_slot_un (hs g hg) e (pk_un e) rfl rfl rfl rfl (fun n => ((hs g hg).2.1 n).2.2.2.1)
      · by_cases e : g = b
        · subst e; rw [pk_us]; decide
        · rw [pk_un e]; exact un g hg e
    · have np : ¬ nI P = 1 := fun z => p1 (by rw [show (1 : Int32) = nI 1 by decide, nI_eq (by omega) (by omega)] at z; exact z)
      refine br_f np (br_t rfl ⟨w, nm_r (e' := upd a_slotStates b 0) (by rw [cl]) ⟨w, nm_r (e' := nI (S b)) (by rw [cl]; exact e3) (H _ _ ?_)⟩⟩)
      refine ⟨C, S b, sz, S, tb, szY, bk, ba, bb, rfl, rfl, rfl, ⟨hN1, hN, hC1, hC, by omega⟩, hcur, ?_, Or.inl ⟨rfl, rfl, fun g hg => ?_⟩, hT, ht, hnx, fun c q hq => ?_⟩
      · intro g hg
        by_cases e : g = b
        · subst e
          refine ⟨Or.inl pk_us, fun n => absurd pk_us n, fun n => ?_⟩
          rw [pk_us] at n
          exact absurd n (by decide)
        · refine rl_slot_un (hs g hg) e (pk_un e) rfl rfl rfl rfl (fun n => lo g hg ?_)
          rcases (hs g hg).1 with q | q | q
          · exact absurd q n
          · exact absurd q (un g hg e)
          · exact q
      · by_cases e : g = b
        · subst e; rw [pk_us]; decide
        · rw [pk_un e]; exact un g hg e
      · rw [sd_step (st := a_slotStates) (ar := a_slotArities) (sz := sz) (K := rl_K bk) (A := rl_K ba) (B := rl_K bb) hN (rl_sp_ok hs) ⟨fun g hg => ?_, fun g hg s => ⟨rfl, rfl, fun i hi => ⟨rfl, rfl, rfl⟩⟩⟩]
        · exact hfix c q hq
        · by_cases e : g = b
          · subst e
            rw [pk_us, s1]
            exact ⟨fun n => absurd n (by decide), fun n => absurd n (by decide)⟩
          · rw [pk_un e]
theorem zi_node {Q : Int32 → St2 → Prop} {N : Nat} {u : St2} (I : zi_R N u) {v1 v2 v3 : Int32} (H : ∀ r u', zi_R N u' → Q r u') : wpX_node Q u v1 v2 v3 := by
  have J := I
  obtain ⟨f_slotCount, f_capacity, f_nodesUsed, f_buildingSlot, f_pendingCount, f_summariesCurrent, f_callsActive, f_callsMade, f_runOutcome, f_runValue, a_slotStates, a_slotArities, a_slotStarts, a_slotSizes, a_kinds, a_firstOperands, a_secondOperands, a_children, a_parents, a_depths, a_pendingNodes, a_summaries, a_nextSummaries, a_nodeTypes, a_paramsAfter, a_params, a_values, a_arguments, a_frameSlots, a_frameNodes⟩ := u
  obtain ⟨C, U, sz, S, tb, szY, bk, ba, bb, rfl, rfl, rfl, ⟨hN1, hN, hC1, hC, hU⟩, hcur, hs, hbld, hT, ht, hnx, hfix⟩ := I
  rcases hbld with ⟨rfl, rfl, _⟩ | ⟨b, P, hb, rfl, rfl, s1, un, eU, lo, eP, pp⟩
  · unfold wpX_node
    exact br_t rfl (H _ _ J)
  · obtain ⟨e1, e2, e3, e4, kk, hkk, ekk, hB⟩ := (hs b hb).2.1 (by rw [s1]; decide)
    have hS := hB.1
    refine xe_node (w := bs_cc v1 (nd_b v1 v3)) hN hC hU hb hkk ekk e1 hB eP eU pp rfl (fun ft w3 c1 c2 c3 CH PA a1 a2 a3 a4 => H _ _ ?_) (fun no => H _ _ J)
    have cc : ∀ i, i < sz b → (rl_c (rl_K bk b) (rl_K bb b)) i = (rl_c (rl_K (upd bk (b * 128 + sz b) v1) b) (rl_K (upd bb (b * 128 + sz b) (nd_b v1 v3)) b)) i := fun i hi => by
      show bs_cc (bk (b * 128 + i)) (bb (b * 128 + i)) = bs_cc (upd bk (b * 128 + sz b) v1 (b * 128 + i)) (upd bb (b * 128 + sz b) (nd_b v1 v3) (b * 128 + i))
      rw [pk_un (by omega), pk_un (by omega)]
    have cz : (rl_c (rl_K (upd bk (b * 128 + sz b) v1) b) (rl_K (upd bb (b * 128 + sz b) (nd_b v1 v3)) b)) (sz b) = bs_cc v1 (nd_b v1 v3) := by
      show bs_cc (upd bk (b * 128 + sz b) v1 (b * 128 + sz b)) (upd bb (b * 128 + sz b) (nd_b v1 v3) (b * 128 + sz b)) = _
      rw [pk_us, pk_us]
    have pos := bs_pos hB.2.1.2.2
    have row : ∀ q, q < P → bs_sc (rl_c (rl_K bk b) (rl_K bb b)) q (sz b) - 1 < sz b := fun q hq => by
      have := pos.1 q (by omega)
      have := bs_sc_le (rl_c (rl_K bk b) (rl_K bb b)) (sz b) q
      omega
    refine ⟨C, U + 1, bg_upd sz b (sz b + 1), S, tb, upd szY b (nI (sz b + 1)), upd bk (b * 128 + sz b) v1, upd ba (b * 128 + sz b) (nd_a v1 v2), upd bb (b * 128 + sz b) (nd_b v1 v3), rfl, rfl, rfl, ⟨hN1, hN, hC1, hC, c2⟩, hcur, ?_, ?_, hT, ht, hnx, fun c q hq => ?_⟩
    · intro g hg
      by_cases e : g = b
      · subst e
        rw [bg_us]
        refine ⟨Or.inr (Or.inl s1), fun _ => ⟨pk_us, pk_us, e3, by omega, kk, hkk, ekk, ?_⟩, fun n => absurd (s1.symm.trans n) (by decide)⟩
        refine rl_add (w := bs_cc v1 (nd_b v1 v3)) hB (fun i hi => ⟨pk_un (by omega), pk_un (by omega), pk_un (by omega)⟩) ?_ cz (by rw [← eP]; exact c1) (by omega) (fun q hq => (pp q (by omega)).2) (fun r h1 h2 => ⟨pk_un (by omega), pk_un (by omega), pk_un (by omega), pk_un (by omega)⟩) (fun q h1 h2 => a2 q (Or.inl (by omega))) (fun r h1 h2 h3 => ?_) (fun q hq => ?_) ?_ ?_ ?_ (fun j hj => ?_) ?_ c3
        · show bd_nd N kk (upd bk (g * 128 + sz g) v1 (g * 128 + sz g)) (upd ba (g * 128 + sz g) (nd_a v1 v2) (g * 128 + sz g)) (upd bb (g * 128 + sz g) (nd_b v1 v3) (g * 128 + sz g))
          rw [pk_us, pk_us, pk_us]; exact ft
        · rw [pk_un (by omega)]
          exact a4 r (fun i hi => h3 (bs_cc v1 (nd_b v1 v3) - 1 - i) (by omega))
        · have r := row q (by omega)
          rw [pk_un (by omega), eU]
          have := a3 (bs_cc v1 (nd_b v1 v3) - 1 - q) (by omega)
          rw [show bs_cc v1 (nd_b v1 v3) - 1 - (bs_cc v1 (nd_b v1 v3) - 1 - q) = q by omega] at this
          exact this
        · rw [eU]
          show upd a_kinds U v1 U = upd bk (g * 128 + sz g) v1 (g * 128 + sz g)
          rw [pk_us, pk_us]
        · rw [eU]
          show upd a_firstOperands U (nd_a v1 v2) U = upd ba (g * 128 + sz g) (nd_a v1 v2) (g * 128 + sz g)
          rw [pk_us, pk_us]
        · rw [eU]
          show upd a_secondOperands U (nd_b v1 v3) U = upd bb (g * 128 + sz g) (nd_b v1 v3) (g * 128 + sz g)
          rw [pk_us, pk_us]
        · rw [eU]; exact a1 j hj
        · rw [eU]; exact pk_us
      · rw [bg_un e]
        obtain ⟨g1, g2, g3⟩ := hs g hg
        have low : a_slotStates g ≠ 0 → S g + sz g ≤ S b := fun n => by
          rcases g1 with q | q | q
          · exact absurd q n
          · exact absurd q (un g hg e)
          · exact lo g hg q
        refine ⟨g1, fun n => ?_, fun s2 => ?_⟩
        · obtain ⟨q1, q2, q3, q4, k', hk', ek', hB'⟩ := g2 n
          have l := low n
          have hS' := hB'.1
          refine ⟨(pk_un e).trans q1, (pk_un e).trans q2, q3, by omega, k', hk', ek', rl_keep hB' (fun i hi => ⟨pk_un (by omega), pk_un (by omega), pk_un (by omega)⟩) (fun r h1 h2 => ⟨pk_un (by omega), pk_un (by omega), pk_un (by omega), ?_, pk_un (by omega)⟩) (fun q h1 h2 => a2 q (Or.inl (by omega)))⟩
          rw [pk_un (by omega)]
          exact a4 r (fun i hi => by omega)
        · have n : a_slotStates g ≠ 0 := by rw [s2]; decide
          have l := low n
          obtain ⟨_, _, _, _, k', _, _, hB'⟩ := g2 n
          have hS' := hB'.1
          obtain ⟨z0, pc1, pr⟩ := g3 s2
          refine ⟨z0, ?_, ?_⟩
          · rw [← pc1]
            refine bs_pc_congr (sz g) (fun i hi => ?_)
            show bs_cc (upd bk (b * 128 + sz b) v1 (g * 128 + i)) (upd bb (b * 128 + sz b) (nd_b v1 v3) (g * 128 + i)) = bs_cc (bk (g * 128 + i)) (bb (g * 128 + i))
            rw [pk_un (by omega), pk_un (by omega)]
          · rw [pk_un (by omega), a4 _ (fun i hi => by omega)]
            exact pr
    · refine Or.inr ⟨b, P - bs_cc v1 (nd_b v1 v3) + 1, hb, rfl, rfl, s1, un, ?_, fun g hg s2 => ?_, ?_⟩
      · rw [bg_us]; omega
      · have e : g ≠ b := fun e => by
          rw [e, s1] at s2
          exact absurd s2 (by decide)
        rw [bg_un e]
        exact lo g hg s2
      · rw [bg_us]
        have ep : P - bs_cc v1 (nd_b v1 v3) + 1 = bs_pc (rl_c (rl_K (upd bk (b * 128 + sz b) v1) b) (rl_K (upd bb (b * 128 + sz b) (nd_b v1 v3)) b)) (sz b + 1) := by
          rw [bs_pc_s, cz, ← bs_pc_congr (sz b) cc, eP]
        refine ⟨ep, fun q hq => ?_⟩
        cases q with
        | zero =>
          rw [bs_sc_0, show P - bs_cc v1 (nd_b v1 v3) + 1 - 1 - 0 = P - bs_cc v1 (nd_b v1 v3) by omega, show S b + (sz b + 1 - 1) = U by omega]
          exact ⟨pk_us, pk_us⟩
        | succ q =>
          have r := row (q + bs_cc v1 (nd_b v1 v3)) (by omega)
          obtain ⟨p1, p2⟩ := pp (q + bs_cc v1 (nd_b v1 v3)) (by omega)
          rw [bs_sc_s, cz, ← bs_sc_congr (sz b) cc]
          refine ⟨?_, ?_⟩
          · rw [pk_un (by omega), show P - bs_cc v1 (nd_b v1 v3) + 1 - 1 - (q + 1) = P - 1 - (q + bs_cc v1 (nd_b v1 v3)) by omega]
            exact p1
          · rw [pk_un (by omega), a4 _ (fun i hi z => ?_)]
            · exact p2
            · have ps := pos.1 (bs_cc v1 (nd_b v1 v3) - 1 - i) (by omega)
              have gt := bs_sc_gt (c := (rl_c (rl_K bk b) (rl_K bb b))) (n := sz b) (q := bs_cc v1 (nd_b v1 v3) - 1 - i) (q' := q + bs_cc v1 (nd_b v1 v3)) (by omega) ps
              have ps2 := pos.1 (q + bs_cc v1 (nd_b v1 v3)) (by omega)
              omega
    · rw [sd_step (st := a_slotStates) (ar := a_slotArities) (sz := sz) (K := rl_K bk) (A := rl_K ba) (B := rl_K bb) hN (rl_sp_ok hs) ⟨fun g hg => Iff.rfl, fun g hg s => ?_⟩]
      · exact hfix c q hq
      · have e : g ≠ b := fun e => by
          rw [e, s1] at s
          exact absurd s (by decide)
        obtain ⟨_, _, _, _, k', _, _, hB'⟩ := (hs g hg).2.1 (by rw [s]; decide)
        have hS' := hB'.1
        exact ⟨rfl, bg_un e, fun i hi => ⟨pk_un (by omega), pk_un (by omega), pk_un (by omega)⟩⟩
end
section
theorem zi_analyze {Q : Int32 → St2 → Prop} {N : Nat} {u : St2} (I : zi_R N u) (H : ∀ r u', zi_R N u' → zi_cur u' → Q r u') : wpX_analyze Q u := by
  obtain ⟨f_slotCount, f_capacity, f_nodesUsed, f_buildingSlot, f_pendingCount, f_summariesCurrent, f_callsActive, f_callsMade, f_runOutcome, f_runValue, a_slotStates, a_slotArities, a_slotStarts, a_slotSizes, a_kinds, a_firstOperands, a_secondOperands, a_children, a_parents, a_depths, a_pendingNodes, a_summaries, a_nextSummaries, a_nodeTypes, a_paramsAfter, a_params, a_values, a_arguments, a_frameSlots, a_frameNodes⟩ := u
  obtain ⟨C, U, sz, S, tb, szY, bk, ba, bb, rfl, rfl, rfl, ⟨hN1, hN, hC1, hC, hU⟩, hcur, hs, hbld, hT, ht, hnx, hfix⟩ := I
  obtain ⟨r0, hr, f1, f2⟩ := sp_fix (rl_sp_ok hs)
  refine xn_analyze hN hs hnx hr f1 f2 fun SU NX NT PA P s n => H _ _ ?_ rfl
  have eq : sp_T N (rl_K bk) (rl_K ba) (rl_K bb) a_slotStates a_slotArities sz (r0 + 1) = sp_T N (rl_K bk) (rl_K ba) (rl_K bb) a_slotStates a_slotArities sz r0 := by
    funext q
    by_cases hq : q < 24
    · exact f1 q hq
    · rw [sp_T_hi hN _ (by omega), sp_T_hi hN _ (by omega)]
  refine ⟨C, U, sz, S, sp_T N (rl_K bk) (rl_K ba) (rl_K bb) a_slotStates a_slotArities sz (r0 + 1), szY, bk, ba, bb, rfl, rfl, rfl, ⟨hN1, hN, hC1, hC, hU⟩, Or.inr rfl, hs, hbld, sp_T_ok (rl_sp_ok hs) (r0 + 1), s, n, fun _ q _ => ?_⟩
  show sp_step N (rl_K bk) (rl_K ba) (rl_K bb) a_slotStates a_slotArities sz (sp_T N (rl_K bk) (rl_K ba) (rl_K bb) a_slotStates a_slotArities sz (r0 + 1)) q = sp_T N (rl_K bk) (rl_K ba) (rl_K bb) a_slotStates a_slotArities sz (r0 + 1) q
  rw [eq]
  exact congrFun eq q
theorem zi_analyzed {Q : Int32 → Prop} {N : Nat} {u : St2} (I : zi_R N u) (H0 : Q 0) (H1 : zi_cur u → Q 1) : wpX_analyzed Q u := by
  obtain ⟨f_slotCount, f_capacity, f_nodesUsed, f_buildingSlot, f_pendingCount, f_summariesCurrent, f_callsActive, f_callsMade, f_runOutcome, f_runValue, a_slotStates, a_slotArities, a_slotStarts, a_slotSizes, a_kinds, a_firstOperands, a_secondOperands, a_children, a_parents, a_depths, a_pendingNodes, a_summaries, a_nextSummaries, a_nodeTypes, a_paramsAfter, a_params, a_values, a_arguments, a_frameSlots, a_frameNodes⟩ := u
  obtain ⟨C, U, sz, S, tb, szY, bk, ba, bb, rfl, rfl, rfl, ⟨hN1, hN, hC1, hC, hU⟩, hcur, hs, hbld, hT, ht, hnx, hfix⟩ := I
  rcases hcur with rfl | rfl
  · exact ⟨rfl, H0⟩
  · exact ⟨rfl, H1 rfl⟩
theorem zi_1 {r : Int32} (h : r = -1 ∨ r = 1 ∨ r = 2) (n : r ≠ -1) : ¬ r = 0 := by
  rcases h with h | h | h
  · exact absurd h n
  · rw [h]; decide
  · rw [h]; decide
theorem zi_run {Q : Int32 → St2 → Prop} {N : Nat} {u : St2} (I : zi_R N u) (hc : zi_cur u) {v x y : Int32} (H : ∀ r u', zi_R N u' → zi_cur u' → (r = 0 → zi_ok v x y u') → Q r u') : wpX_run Q u v x y := by
  have J := I
  have J2 := hc
  obtain ⟨f_slotCount, f_capacity, f_nodesUsed, f_buildingSlot, f_pendingCount, f_summariesCurrent, f_callsActive, f_callsMade, f_runOutcome, f_runValue, a_slotStates, a_slotArities, a_slotStarts, a_slotSizes, a_kinds, a_firstOperands, a_secondOperands, a_children, a_parents, a_depths, a_pendingNodes, a_summaries, a_nextSummaries, a_nodeTypes, a_paramsAfter, a_params, a_values, a_arguments, a_frameSlots, a_frameNodes⟩ := u
  obtain ⟨C, U, sz, S, tb, szY, bk, ba, bb, rfl, rfl, rfl, ⟨hN1, hN, hC1, hC, hU⟩, hcur, hs, hbld, hT, ht, hnx, hfix⟩ := I
  have e3 : ¬ (3 : Int32) = 0 := by decide
  by_cases ex : ∃ f : Nat, f < N ∧ v = nI f ∧ a_slotStates f = 2
  · obtain ⟨f, hf, rfl, s2⟩ := ex
    obtain ⟨_, _, _, _, kk, hkk, ekk, _⟩ := (hs f hf).2.1 (by rw [s2]; decide)
    have z0 := ((hs f hf).2.2 s2).1
    refine xe_go hN hf s2 ekk hkk (fun ag => ?_) (fun na => H _ _ J J2 (fun z => absurd z e3))
    have ag' : rn_ag (a_slotArities f) x y := by rw [ekk]; exact ag
    have gd := rn_ev_gd hN (rl_sp_ok hs) 2048 0 f (sz f - 1) x y 1 hf s2 (by omega) ag' (by omega)
    refine xq_run hN hs hf s2 ag' (fun n ca cm V AR FS FN => H _ _ ?_ J2 (fun z => absurd z (zi_1 gd.1 n))) (fun o ca cm V AR FS FN => H _ _ ?_ J2 (fun _ => ?_))
    · exact ⟨C, U, sz, S, tb, szY, bk, ba, bb, rfl, rfl, rfl, ⟨hN1, hN, hC1, hC, hU⟩, hcur, hs, hbld, hT, ht, hnx, hfix⟩
    · exact ⟨C, U, sz, S, tb, szY, bk, ba, bb, rfl, rfl, rfl, ⟨hN1, hN, hC1, hC, hU⟩, hcur, hs, hbld, hT, ht, hnx, hfix⟩
    · have fix := hfix J2
      obtain ⟨k, hk, ek, hz0, hz, hb⟩ := rl_sp_ok hs f hf s2
      have kk' : kk = k := (nI_eq (by omega) (by omega)).mp (by rw [← ekk, ek])
      subst kk'
      obtain ⟨p, hp, vp, ep⟩ := sd_main hN (rl_sp_ok hs) hT fix 2048 0 f (sz f - 1) 1 kk x y hf s2 (by omega) hkk ekk o 128 (ty_any, ty_any) (by omega) (sp_any_eo kk) ⟨fun h => sd_any (ag.1 h), fun h => sd_any (ag.2 h)⟩
      obtain ⟨t0, t1, t2⟩ := sd_fix hN fix hf s2 hkk ekk hp
      refine ⟨N, f, kk, tb, rfl, hf, hN, rfl, s2, hkk, ekk, hT, ht, fun h => ?_, fun h => ?_, ?_⟩
      · rw [t0 h]; exact ep.1 ((sd_k1 hkk).mpr h)
      · rw [t1 h]; exact ep.2 ((sd_k2 hkk).mpr h)
      · rw [t2]; exact vp
  · unfold wpX_run
    refine xd_slot hN (fun f hf e => br_f (by decide) ?_) (fun _ => br_t rfl (H _ _ J J2 (fun z => absurd z e3)))
    subst e
    refine ⟨vp_in_nI (by omega) (by decide), br_f (fun z => ex ⟨f, hf, rfl, ?_⟩) (H _ _ J J2 (fun z => absurd z e3))⟩
    rw [nI_clamp (by omega)] at z
    exact z
section
variable {f_slotCount f_capacity f_nodesUsed f_buildingSlot f_pendingCount f_summariesCurrent f_callsActive f_callsMade f_runOutcome f_runValue : Int32} {a_slotStates a_slotArities a_slotStarts a_slotSizes a_kinds a_firstOperands a_secondOperands a_children a_parents a_depths a_pendingNodes a_summaries a_nextSummaries a_nodeTypes a_paramsAfter a_params a_values a_arguments a_frameSlots a_frameNodes : Nat → Int32} {N : Nat}
theorem zi_mem {Q : Int32 → Prop} {f j : Nat} {v : Int32} {t : ty_T} (hN : N ≤ 8) (hf : f < N) (hj : j < 3) (hT : ty_ok t) (ht : a_summaries (f * 3 + j) = ty_x t) (hv : sd_in v t) (H : Q 1) : wpX_member Q (nI N, f_capacity, f_nodesUsed, f_buildingSlot, f_pendingCount, f_summariesCurrent, f_callsActive, f_callsMade, f_runOutcome, f_runValue, a_slotStates, a_slotArities, a_slotStarts, a_slotSizes, a_kinds, a_firstOperands, a_secondOperands, a_children, a_parents, a_depths, a_pendingNodes, a_summaries, a_nextSummaries, a_nodeTypes, a_paramsAfter, a_params, a_values, a_arguments, a_frameSlots, a_frameNodes) (nI f) (nI j) v := by
  unfold wpX_member
  refine xd_sum hN (fun f' j' hf' hj' e1 e2 => br_f (by decide) ?_) (fun no => absurd ⟨f, j, hf, hj, rfl, rfl⟩ no)
  rw [rd_idx, nI_clamp (by omega), ht]
  refine ⟨vp_in_nI (by omega) (by decide), nm_e ?_⟩
  rcases hv with ⟨a1, a2, a3, a4, a5⟩ | ⟨q, hq, rfl, bq⟩
  · refine xt_isInt (fun a b => br_f (by decide) ?_) (fun nn => absurd ⟨a1, a2⟩ nn)
    refine xt_has hT (fun z => absurd z a3) (fun z => br_f (by decide) (xt_low hT z (br_f ?_ (xt_high hT z (br_f ?_ H)))))
    · rw [Int32.lt_iff_toInt_lt, ty_lw_t _ (by have := ty_ok_l hT; omega)]; omega
    · rw [Int32.lt_iff_toInt_lt, ty_hw_t _ (by have := ty_ok_h hT; omega)]; omega
  · have tq := sd_at_t q hq
    refine xt_isInt (fun a b => absurd b (by omega)) (fun nn => br_t rfl ?_)
    refine xt_isAtom (fun a b => br_f (by decide) ?_) (fun nm => absurd ⟨by omega, by omega⟩ nm)
    have xn := ty_xn_lt hT
    have bx := ty_bit (ty_xn_m hT) (by omega) hq
    have eq : (1000 + nI q : Int32) - 1000 = nI q := by rw [Int32.add_comm, Int32.add_sub_cancel]
    rw [eq, show ty_x t = nI (ty_xn t) from rfl, bx, (ty_tb t.1 q).mp bq]
    exact br_t rfl H
theorem zi_ar {Q : Int32 → Prop} {f k : Nat} (hN : N ≤ 8) (hf : f < N) (s2 : a_slotStates f = 2) (ek : a_slotArities f = nI k) (H : Q (nI k)) : wpX_arity Q (nI N, f_capacity, f_nodesUsed, f_buildingSlot, f_pendingCount, f_summariesCurrent, f_callsActive, f_callsMade, f_runOutcome, f_runValue, a_slotStates, a_slotArities, a_slotStarts, a_slotSizes, a_kinds, a_firstOperands, a_secondOperands, a_children, a_parents, a_depths, a_pendingNodes, a_summaries, a_nextSummaries, a_nodeTypes, a_paramsAfter, a_params, a_values, a_arguments, a_frameSlots, a_frameNodes) (nI f) := by
  unfold wpX_arity
  refine xd_body hN (fun f' hf' e z => br_f (by decide) ⟨vp_in_nI (by omega) (by decide), ?_⟩) (fun no => absurd ⟨f, hf, rfl, by rw [s2]; decide⟩ no)
  rw [nI_clamp (by omega), ek]
  exact H
theorem zi_arity {Q : Int32 → Prop} {v : Int32} (hN : N ≤ 8) (H : ∀ r, Q r) : wpX_arity Q (nI N, f_capacity, f_nodesUsed, f_buildingSlot, f_pendingCount, f_summariesCurrent, f_callsActive, f_callsMade, f_runOutcome, f_runValue, a_slotStates, a_slotArities, a_slotStarts, a_slotSizes, a_kinds, a_firstOperands, a_secondOperands, a_children, a_parents, a_depths, a_pendingNodes, a_summaries, a_nextSummaries, a_nodeTypes, a_paramsAfter, a_params, a_values, a_arguments, a_frameSlots, a_frameNodes) v := by
  unfold wpX_arity
  refine xd_body hN (fun f hf e z => br_f (by decide) ⟨?_, H _⟩) (fun no => br_t rfl (H _))
  rw [e]
  exact vp_in_nI (by omega) (by decide)
end
end
section
theorem zl_cell {Q : Int32 → Prop} {L i : Nat} {xs : Nat → Int32} {p : Int32} (hL : L ≤ 260) (hi : i < 1000) (e : p = nI i) (H : ∀ r, Q r) : wpL_cell Q L xs () p := by
  subst e
  unfold wpL_cell
  refine ⟨fun _ => H _, fun h => ⟨?_, H _⟩⟩
  have lt : i < L := Nat.lt_of_not_le fun z => h (nI_le z (by omega))
  exact vp_in_nI lt (by omega)
theorem zl_val {Q : Int32 → Prop} {p : Int32} (H : ∀ r, Q r) : wpL_val Q () p := by
  unfold wpL_val
  intro x _
  exact ⟨fun _ => ⟨fun _ => H _, fun _ => ⟨by decide, H _⟩⟩, fun _ => H _⟩
theorem zl_lit {Q : Int32 → Prop} {p : Int32} (H : ∀ r, Q r) : wpL_lit Q () p := by
  unfold wpL_lit
  intro x _
  exact ⟨fun _ => ⟨by decide, H _⟩, fun _ => ⟨by decide, H _⟩⟩
theorem zl_need {Q : Int32 → Prop} {x y : Int32} (H : ∀ r, Q r) : wpL_need Q () x y := by
  have n13 : wL_need_13 Q x y := by
    unfold wL_need_13
    exact ⟨fun _ => H _, fun _ => ⟨fun _ => H _, fun _ => ⟨fun _ => H _, fun _ => H _⟩⟩⟩
  unfold wpL_need
  exact ⟨fun _ => n13, fun _ => ⟨fun _ => n13, fun _ => H _⟩⟩
theorem zl_3 (i : Nat) : nI i + 3 = nI (i + 3) := by rw [show (3 : Int32) = nI 3 by decide, nI_add]
theorem zl_4 (i : Nat) : nI i + 4 = nI (i + 4) := by rw [show (4 : Int32) = nI 4 by decide, nI_add]
theorem zl_2 (i : Nat) : nI i + 2 = nI (i + 2) := by rw [show (2 : Int32) = nI 2 by decide, nI_add]
theorem zl_k2 {k : Nat} (hk : k ≤ 2) (h : ¬ k = 2) : ¬ nI k = 2 := fun z => h (by rw [show (2 : Int32) = nI 2 by decide, nI_eq (by omega) (by omega)] at z; exact z)
section
variable {f_slotCount f_capacity f_nodesUsed f_buildingSlot f_pendingCount f_summariesCurrent f_callsActive f_callsMade f_runOutcome f_runValue : Int32} {a_slotStates a_slotArities a_slotStarts a_slotSizes a_kinds a_firstOperands a_secondOperands a_children a_parents a_depths a_pendingNodes a_summaries a_nextSummaries a_nodeTypes a_paramsAfter a_params a_values a_arguments a_frameSlots a_frameNodes : Nat → Int32} {N : Nat}
theorem zi_N (I : zi_R N (f_slotCount, f_capacity, f_nodesUsed, f_buildingSlot, f_pendingCount, f_summariesCurrent, f_callsActive, f_callsMade, f_runOutcome, f_runValue, a_slotStates, a_slotArities, a_slotStarts, a_slotSizes, a_kinds, a_firstOperands, a_secondOperands, a_children, a_parents, a_depths, a_pendingNodes, a_summaries, a_nextSummaries, a_nodeTypes, a_paramsAfter, a_params, a_values, a_arguments, a_frameSlots, a_frameNodes)) : N ≤ 8 ∧ f_slotCount = nI N := by
  obtain ⟨C, U, sz, S, tb, szY, bk, ba, bb, e, _, _, ⟨_, hN, _⟩, _⟩ := I
  exact ⟨hN, e⟩
theorem zi_res {Q : Int32 → Prop} (H : Q f_runValue) : wpX_result Q (f_slotCount, f_capacity, f_nodesUsed, f_buildingSlot, f_pendingCount, f_summariesCurrent, f_callsActive, f_callsMade, f_runOutcome, f_runValue, a_slotStates, a_slotArities, a_slotStarts, a_slotSizes, a_kinds, a_firstOperands, a_secondOperands, a_children, a_parents, a_depths, a_pendingNodes, a_summaries, a_nextSummaries, a_nodeTypes, a_paramsAfter, a_params, a_values, a_arguments, a_frameSlots, a_frameNodes) := H
theorem zi_pend {Q : Int32 → Prop} (H : Q f_pendingCount) : wpX_pending Q (f_slotCount, f_capacity, f_nodesUsed, f_buildingSlot, f_pendingCount, f_summariesCurrent, f_callsActive, f_callsMade, f_runOutcome, f_runValue, a_slotStates, a_slotArities, a_slotStarts, a_slotSizes, a_kinds, a_firstOperands, a_secondOperands, a_children, a_parents, a_depths, a_pendingNodes, a_summaries, a_nextSummaries, a_nodeTypes, a_paramsAfter, a_params, a_values, a_arguments, a_frameSlots, a_frameNodes) := H
theorem zi_bldg {Q : Int32 → Prop} (H : Q f_buildingSlot) : wpX_building Q (f_slotCount, f_capacity, f_nodesUsed, f_buildingSlot, f_pendingCount, f_summariesCurrent, f_callsActive, f_callsMade, f_runOutcome, f_runValue, a_slotStates, a_slotArities, a_slotStarts, a_slotSizes, a_kinds, a_firstOperands, a_secondOperands, a_children, a_parents, a_depths, a_pendingNodes, a_summaries, a_nextSummaries, a_nodeTypes, a_paramsAfter, a_params, a_values, a_arguments, a_frameSlots, a_frameNodes) := H
theorem zi_ana1 {Q : Int32 → Prop} (hc : zi_cur (f_slotCount, f_capacity, f_nodesUsed, f_buildingSlot, f_pendingCount, f_summariesCurrent, f_callsActive, f_callsMade, f_runOutcome, f_runValue, a_slotStates, a_slotArities, a_slotStarts, a_slotSizes, a_kinds, a_firstOperands, a_secondOperands, a_children, a_parents, a_depths, a_pendingNodes, a_summaries, a_nextSummaries, a_nodeTypes, a_paramsAfter, a_params, a_values, a_arguments, a_frameSlots, a_frameNodes)) (H : Q 1) : wpX_analyzed Q (f_slotCount, f_capacity, f_nodesUsed, f_buildingSlot, f_pendingCount, f_summariesCurrent, f_callsActive, f_callsMade, f_runOutcome, f_runValue, a_slotStates, a_slotArities, a_slotStarts, a_slotSizes, a_kinds, a_firstOperands, a_secondOperands, a_children, a_parents, a_depths, a_pendingNodes, a_summaries, a_nextSummaries, a_nodeTypes, a_paramsAfter, a_params, a_values, a_arguments, a_frameSlots, a_frameNodes) := by
  have e : f_summariesCurrent = 1 := hc
  subst e
  exact ⟨rfl, H⟩
end
section
variable {f_slotCount f_capacity f_nodesUsed f_buildingSlot f_pendingCount f_summariesCurrent f_callsActive f_callsMade f_runOutcome f_runValue : Int32} {a_slotStates a_slotArities a_slotStarts a_slotSizes a_kinds a_firstOperands a_secondOperands a_children a_parents a_depths a_pendingNodes a_summaries a_nextSummaries a_nodeTypes a_paramsAfter a_params a_values a_arguments a_frameSlots a_frameNodes : Nat → Int32} {L : Nat} {xs : Nat → Int32} {J : Int32 → Int32 → Int32 → Int32 → Int32 → Int32 → Int32 → Int32 → Int32 → Int32 → Int32 → (Nat → Int32) → (Nat → Int32) → (Nat → Int32) → (Nat → Int32) → (Nat → Int32) → (Nat → Int32) → (Nat → Int32) → (Nat → Int32) → (Nat → Int32) → (Nat → Int32) → (Nat → Int32) → (Nat → Int32) → (Nat → Int32) → (Nat → Int32) → (Nat → Int32) → (Nat → Int32) → (Nat → Int32) → (Nat → Int32) → (Nat → Int32) → (Nat → Int32) → Prop} {x1 x3 y : Int32} {kc ks : Nat}
theorem zl_563 {N g k : Nat} {tb : Nat → ty_T} (hN : N ≤ 8) (hg : g < N) (hk : k ≤ 2) (hT : ∀ q, ty_ok (tb q)) (ht : ∀ q, q < 24 → a_summaries q = ty_x (tb q)) (v1 : 2 ≤ k → sd_in y (tb (g * 3 + 1))) (v2 : sd_in f_runValue (tb (g * 3 + 2))) (H : J (x3 + 3) (nI N) f_capacity f_nodesUsed f_buildingSlot f_pendingCount f_summariesCurrent f_callsActive f_callsMade f_runOutcome f_runValue a_slotStates a_slotArities a_slotStarts a_slotSizes a_kinds a_firstOperands a_secondOperands a_children a_parents a_depths a_pendingNodes a_summaries a_nextSummaries a_nodeTypes a_paramsAfter a_params a_values a_arguments a_frameSlots a_frameNodes) : wL_law_563 (fun r => r = 1) L xs J x1 x3 (nI g) kc ks (nI N) f_capacity f_nodesUsed f_buildingSlot f_pendingCount f_summariesCurrent f_callsActive f_callsMade f_runOutcome f_runValue a_slotStates a_slotArities a_slotStarts a_slotSizes a_kinds a_firstOperands a_secondOperands a_children a_parents a_depths a_pendingNodes a_summaries a_nextSummaries a_nodeTypes a_paramsAfter a_params a_values a_arguments a_frameSlots a_frameNodes := by
  unfold wL_law_563
  exact zi_res (zi_mem (j := 2) hN hg (by decide) (hT _) (ht _ (by omega)) v2 (br_f (by decide) (nm_e H)))
theorem zl_543 {N g k : Nat} {tb : Nat → ty_T} (hN : N ≤ 8) (hg : g < N) (hk : k ≤ 2) (hT : ∀ q, ty_ok (tb q)) (ht : ∀ q, q < 24 → a_summaries q = ty_x (tb q)) (v1 : 2 ≤ k → sd_in y (tb (g * 3 + 1))) (v2 : sd_in f_runValue (tb (g * 3 + 2))) (H : J (x3 + 3) (nI N) f_capacity f_nodesUsed f_buildingSlot f_pendingCount f_summariesCurrent f_callsActive f_callsMade f_runOutcome f_runValue a_slotStates a_slotArities a_slotStarts a_slotSizes a_kinds a_firstOperands a_secondOperands a_children a_parents a_depths a_pendingNodes a_summaries a_nextSummaries a_nodeTypes a_paramsAfter a_params a_values a_arguments a_frameSlots a_frameNodes) : wL_law_543 (fun r => r = 1) L xs J x1 x3 (nI g) y (nI k) kc ks (nI N) f_capacity f_nodesUsed f_buildingSlot f_pendingCount f_summariesCurrent f_callsActive f_callsMade f_runOutcome f_runValue a_slotStates a_slotArities a_slotStarts a_slotSizes a_kinds a_firstOperands a_secondOperands a_children a_parents a_depths a_pendingNodes a_summaries a_nextSummaries a_nodeTypes a_paramsAfter a_params a_values a_arguments a_frameSlots a_frameNodes := by
  have last := zl_563 (L := L) (xs := xs) (x1 := x1) (kc := kc) (ks := ks) hN hg hk hT ht v1 v2 H
  unfold wL_law_543
  by_cases c : k = 2
  · exact br_t (by rw [c]; rfl) (zi_mem (j := 1) hN hg (by decide) (hT _) (ht _ (by omega)) (v1 (by omega)) (br_f (by decide) last))
  · exact br_f (zl_k2 hk c) last
theorem zl_417 {N g k : Nat} {tb : Nat → ty_T} (hN : N ≤ 8) (hg : g < N) (hk : k ≤ 2) (hT : ∀ q, ty_ok (tb q)) (ht : ∀ q, q < 24 → a_summaries q = ty_x (tb q)) (v1 : 2 ≤ k → sd_in y (tb (g * 3 + 1))) (v2 : sd_in f_runValue (tb (g * 3 + 2))) (H : J (x3 + 4) (nI N) f_capacity f_nodesUsed f_buildingSlot f_pendingCount f_summariesCurrent f_callsActive f_callsMade f_runOutcome f_runValue a_slotStates a_slotArities a_slotStarts a_slotSizes a_kinds a_firstOperands a_secondOperands a_children a_parents a_depths a_pendingNodes a_summaries a_nextSummaries a_nodeTypes a_paramsAfter a_params a_values a_arguments a_frameSlots a_frameNodes) : wL_law_417 (fun r => r = 1) L xs J x1 x3 (nI g) kc ks (nI N) f_capacity f_nodesUsed f_buildingSlot f_pendingCount f_summariesCurrent f_callsActive f_callsMade f_runOutcome f_runValue a_slotStates a_slotArities a_slotStarts a_slotSizes a_kinds a_firstOperands a_secondOperands a_children a_parents a_depths a_pendingNodes a_summaries a_nextSummaries a_nodeTypes a_paramsAfter a_params a_values a_arguments a_frameSlots a_frameNodes := by
  unfold wL_law_417
  exact zi_res (zi_mem (j := 2) hN hg (by decide) (hT _) (ht _ (by omega)) v2 (br_f (by decide) (nm_e H)))
theorem zl_397 {N g k : Nat} {tb : Nat → ty_T} (hN : N ≤ 8) (hg : g < N) (hk : k ≤ 2) (hT : ∀ q, ty_ok (tb q)) (ht : ∀ q, q < 24 → a_summaries q = ty_x (tb q)) (v1 : 2 ≤ k → sd_in y (tb (g * 3 + 1))) (v2 : sd_in f_runValue (tb (g * 3 + 2))) (H : J (x3 + 4) (nI N) f_capacity f_nodesUsed f_buildingSlot f_pendingCount f_summariesCurrent f_callsActive f_callsMade f_runOutcome f_runValue a_slotStates a_slotArities a_slotStarts a_slotSizes a_kinds a_firstOperands a_secondOperands a_children a_parents a_depths a_pendingNodes a_summaries a_nextSummaries a_nodeTypes a_paramsAfter a_params a_values a_arguments a_frameSlots a_frameNodes) : wL_law_397 (fun r => r = 1) L xs J x1 x3 (nI g) y (nI k) kc ks (nI N) f_capacity f_nodesUsed f_buildingSlot f_pendingCount f_summariesCurrent f_callsActive f_callsMade f_runOutcome f_runValue a_slotStates a_slotArities a_slotStarts a_slotSizes a_kinds a_firstOperands a_secondOperands a_children a_parents a_depths a_pendingNodes a_summaries a_nextSummaries a_nodeTypes a_paramsAfter a_params a_values a_arguments a_frameSlots a_frameNodes := by
  have last := zl_417 (L := L) (xs := xs) (x1 := x1) (kc := kc) (ks := ks) hN hg hk hT ht v1 v2 H
  unfold wL_law_397
  by_cases c : k = 2
  · exact br_t (by rw [c]; rfl) (zi_mem (j := 1) hN hg (by decide) (hT _) (ht _ (by omega)) (v1 (by omega)) (br_f (by decide) last))
  · exact br_f (zl_k2 hk c) last
end
section
variable {N L : Nat} {xs : Nat → Int32} {J : Int32 → Int32 → Int32 → Int32 → Int32 → Int32 → Int32 → Int32 → Int32 → Int32 → Int32 → (Nat → Int32) → (Nat → Int32) → (Nat → Int32) → (Nat → Int32) → (Nat → Int32) → (Nat → Int32) → (Nat → Int32) → (Nat → Int32) → (Nat → Int32) → (Nat → Int32) → (Nat → Int32) → (Nat → Int32) → (Nat → Int32) → (Nat → Int32) → (Nat → Int32) → (Nat → Int32) → (Nat → Int32) → (Nat → Int32) → (Nat → Int32) → (Nat → Int32) → Prop} {x1 x3 : Int32} {kc ks : Nat}
theorem zl_298 (H : ∀ (f_slotCount f_capacity f_nodesUsed f_buildingSlot f_pendingCount f_summariesCurrent f_callsActive f_callsMade f_runOutcome f_runValue : Int32) (a_slotStates a_slotArities a_slotStarts a_slotSizes a_kinds a_firstOperands a_secondOperands a_children a_parents a_depths a_pendingNodes a_summaries a_nextSummaries a_nodeTypes a_paramsAfter a_params a_values a_arguments a_frameSlots a_frameNodes : Nat → Int32), zi_R N (f_slotCount, f_capacity, f_nodesUsed, f_buildingSlot, f_pendingCount, f_summariesCurrent, f_callsActive, f_callsMade, f_runOutcome, f_runValue, a_slotStates, a_slotArities, a_slotStarts, a_slotSizes, a_kinds, a_firstOperands, a_secondOperands, a_children, a_parents, a_depths, a_pendingNodes, a_summaries, a_nextSummaries, a_nodeTypes, a_paramsAfter, a_params, a_values, a_arguments, a_frameSlots, a_frameNodes) → J (x3 + 4) f_slotCount f_capacity f_nodesUsed f_buildingSlot f_pendingCount f_summariesCurrent f_callsActive f_callsMade f_runOutcome f_runValue a_slotStates a_slotArities a_slotStarts a_slotSizes a_kinds a_firstOperands a_secondOperands a_children a_parents a_depths a_pendingNodes a_summaries a_nextSummaries a_nodeTypes a_paramsAfter a_params a_values a_arguments a_frameSlots a_frameNodes) (f_slotCount f_capacity f_nodesUsed f_buildingSlot f_pendingCount f_summariesCurrent f_callsActive f_callsMade f_runOutcome f_runValue : Int32) (a_slotStates a_slotArities a_slotStarts a_slotSizes a_kinds a_firstOperands a_secondOperands a_children a_parents a_depths a_pendingNodes a_summaries a_nextSummaries a_nodeTypes a_paramsAfter a_params a_values a_arguments a_frameSlots a_frameNodes : Nat → Int32) (I : zi_R N (f_slotCount, f_capacity, f_nodesUsed, f_buildingSlot, f_pendingCount, f_summariesCurrent, f_callsActive, f_callsMade, f_runOutcome, f_runValue, a_slotStates, a_slotArities, a_slotStarts, a_slotSizes, a_kinds, a_firstOperands, a_secondOperands, a_children, a_parents, a_depths, a_pendingNodes, a_summaries, a_nextSummaries, a_nodeTypes, a_paramsAfter, a_params, a_values, a_arguments, a_frameSlots, a_frameNodes)) : wL_law_298 (fun r => r = 1) L xs J x1 x3 kc ks f_slotCount f_capacity f_nodesUsed f_buildingSlot f_pendingCount f_summariesCurrent f_callsActive f_callsMade f_runOutcome f_runValue a_slotStates a_slotArities a_slotStarts a_slotSizes a_kinds a_firstOperands a_secondOperands a_children a_parents a_depths a_pendingNodes a_summaries a_nextSummaries a_nodeTypes a_paramsAfter a_params a_values a_arguments a_frameSlots a_frameNodes := by
  unfold wL_law_298
  refine zi_end I fun r u' I' => ?_
  obtain ⟨f_slotCount, f_capacity, f_nodesUsed, f_buildingSlot, f_pendingCount, f_summariesCurrent, f_callsActive, f_callsMade, f_runOutcome, f_runValue, a_slotStates, a_slotArities, a_slotStarts, a_slotSizes, a_kinds, a_firstOperands, a_secondOperands, a_children, a_parents, a_depths, a_pendingNodes, a_summaries, a_nextSummaries, a_nodeTypes, a_paramsAfter, a_params, a_values, a_arguments, a_frameSlots, a_frameNodes⟩ := u'
  exact nm_e (H f_slotCount f_capacity f_nodesUsed f_buildingSlot f_pendingCount f_summariesCurrent f_callsActive f_callsMade f_runOutcome f_runValue a_slotStates a_slotArities a_slotStarts a_slotSizes a_kinds a_firstOperands a_secondOperands a_children a_parents a_depths a_pendingNodes a_summaries a_nextSummaries a_nodeTypes a_paramsAfter a_params a_values a_arguments a_frameSlots a_frameNodes I')
theorem zl_262 (H : ∀ (f_slotCount f_capacity f_nodesUsed f_buildingSlot f_pendingCount f_summariesCurrent f_callsActive f_callsMade f_runOutcome f_runValue : Int32) (a_slotStates a_slotArities a_slotStarts a_slotSizes a_kinds a_firstOperands a_secondOperands a_children a_parents a_depths a_pendingNodes a_summaries a_nextSummaries a_nodeTypes a_paramsAfter a_params a_values a_arguments a_frameSlots a_frameNodes : Nat → Int32), zi_R N (f_slotCount, f_capacity, f_nodesUsed, f_buildingSlot, f_pendingCount, f_summariesCurrent, f_callsActive, f_callsMade, f_runOutcome, f_runValue, a_slotStates, a_slotArities, a_slotStarts, a_slotSizes, a_kinds, a_firstOperands, a_secondOperands, a_children, a_parents, a_depths, a_pendingNodes, a_summaries, a_nextSummaries, a_nodeTypes, a_paramsAfter, a_params, a_values, a_arguments, a_frameSlots, a_frameNodes) → J (x3 + 4) f_slotCount f_capacity f_nodesUsed f_buildingSlot f_pendingCount f_summariesCurrent f_callsActive f_callsMade f_runOutcome f_runValue a_slotStates a_slotArities a_slotStarts a_slotSizes a_kinds a_firstOperands a_secondOperands a_children a_parents a_depths a_pendingNodes a_summaries a_nextSummaries a_nodeTypes a_paramsAfter a_params a_values a_arguments a_frameSlots a_frameNodes) (x9 x10 x11 : Int32) (f_slotCount f_capacity f_nodesUsed f_buildingSlot f_pendingCount f_summariesCurrent f_callsActive f_callsMade f_runOutcome f_runValue : Int32) (a_slotStates a_slotArities a_slotStarts a_slotSizes a_kinds a_firstOperands a_secondOperands a_children a_parents a_depths a_pendingNodes a_summaries a_nextSummaries a_nodeTypes a_paramsAfter a_params a_values a_arguments a_frameSlots a_frameNodes : Nat → Int32) (I : zi_R N (f_slotCount, f_capacity, f_nodesUsed, f_buildingSlot, f_pendingCount, f_summariesCurrent, f_callsActive, f_callsMade, f_runOutcome, f_runValue, a_slotStates, a_slotArities, a_slotStarts, a_slotSizes, a_kinds, a_firstOperands, a_secondOperands, a_children, a_parents, a_depths, a_pendingNodes, a_summaries, a_nextSummaries, a_nodeTypes, a_paramsAfter, a_params, a_values, a_arguments, a_frameSlots, a_frameNodes)) : wL_law_262 (fun r => r = 1) L xs J x1 x3 x9 x10 x11 kc ks f_slotCount f_capacity f_nodesUsed f_buildingSlot f_pendingCount f_summariesCurrent f_callsActive f_callsMade f_runOutcome f_runValue a_slotStates a_slotArities a_slotStarts a_slotSizes a_kinds a_firstOperands a_secondOperands a_children a_parents a_depths a_pendingNodes a_summaries a_nextSummaries a_nodeTypes a_paramsAfter a_params a_values a_arguments a_frameSlots a_frameNodes := by
  unfold wL_law_262
  refine zi_node I fun r u' I' => ?_
  obtain ⟨f_slotCount, f_capacity, f_nodesUsed, f_buildingSlot, f_pendingCount, f_summariesCurrent, f_callsActive, f_callsMade, f_runOutcome, f_runValue, a_slotStates, a_slotArities, a_slotStarts, a_slotSizes, a_kinds, a_firstOperands, a_secondOperands, a_children, a_parents, a_depths, a_pendingNodes, a_summaries, a_nextSummaries, a_nodeTypes, a_paramsAfter, a_params, a_values, a_arguments, a_frameSlots, a_frameNodes⟩ := u'
  exact nm_e (H f_slotCount f_capacity f_nodesUsed f_buildingSlot f_pendingCount f_summariesCurrent f_callsActive f_callsMade f_runOutcome f_runValue a_slotStates a_slotArities a_slotStarts a_slotSizes a_kinds a_firstOperands a_secondOperands a_children a_parents a_depths a_pendingNodes a_summaries a_nextSummaries a_nodeTypes a_paramsAfter a_params a_values a_arguments a_frameSlots a_frameNodes I')
theorem zl_252 (H : ∀ (f_slotCount f_capacity f_nodesUsed f_buildingSlot f_pendingCount f_summariesCurrent f_callsActive f_callsMade f_runOutcome f_runValue : Int32) (a_slotStates a_slotArities a_slotStarts a_slotSizes a_kinds a_firstOperands a_secondOperands a_children a_parents a_depths a_pendingNodes a_summaries a_nextSummaries a_nodeTypes a_paramsAfter a_params a_values a_arguments a_frameSlots a_frameNodes : Nat → Int32), zi_R N (f_slotCount, f_capacity, f_nodesUsed, f_buildingSlot, f_pendingCount, f_summariesCurrent, f_callsActive, f_callsMade, f_runOutcome, f_runValue, a_slotStates, a_slotArities, a_slotStarts, a_slotSizes, a_kinds, a_firstOperands, a_secondOperands, a_children, a_parents, a_depths, a_pendingNodes, a_summaries, a_nextSummaries, a_nodeTypes, a_paramsAfter, a_params, a_values, a_arguments, a_frameSlots, a_frameNodes) → J (x3 + 4) f_slotCount f_capacity f_nodesUsed f_buildingSlot f_pendingCount f_summariesCurrent f_callsActive f_callsMade f_runOutcome f_runValue a_slotStates a_slotArities a_slotStarts a_slotSizes a_kinds a_firstOperands a_secondOperands a_children a_parents a_depths a_pendingNodes a_summaries a_nextSummaries a_nodeTypes a_paramsAfter a_params a_values a_arguments a_frameSlots a_frameNodes) (x9 x10 x11 : Int32) (f_slotCount f_capacity f_nodesUsed f_buildingSlot f_pendingCount f_summariesCurrent f_callsActive f_callsMade f_runOutcome f_runValue : Int32) (a_slotStates a_slotArities a_slotStarts a_slotSizes a_kinds a_firstOperands a_secondOperands a_children a_parents a_depths a_pendingNodes a_summaries a_nextSummaries a_nodeTypes a_paramsAfter a_params a_values a_arguments a_frameSlots a_frameNodes : Nat → Int32) (I : zi_R N (f_slotCount, f_capacity, f_nodesUsed, f_buildingSlot, f_pendingCount, f_summariesCurrent, f_callsActive, f_callsMade, f_runOutcome, f_runValue, a_slotStates, a_slotArities, a_slotStarts, a_slotSizes, a_kinds, a_firstOperands, a_secondOperands, a_children, a_parents, a_depths, a_pendingNodes, a_summaries, a_nextSummaries, a_nodeTypes, a_paramsAfter, a_params, a_values, a_arguments, a_frameSlots, a_frameNodes)) : wL_law_252 (fun r => r = 1) L xs J x1 x3 x9 x10 x11 kc ks f_slotCount f_capacity f_nodesUsed f_buildingSlot f_pendingCount f_summariesCurrent f_callsActive f_callsMade f_runOutcome f_runValue a_slotStates a_slotArities a_slotStarts a_slotSizes a_kinds a_firstOperands a_secondOperands a_children a_parents a_depths a_pendingNodes a_summaries a_nextSummaries a_nodeTypes a_paramsAfter a_params a_values a_arguments a_frameSlots a_frameNodes := by
  unfold wL_law_252
  exact ⟨fun _ => zl_262 H _ _ _ f_slotCount f_capacity f_nodesUsed f_buildingSlot f_pendingCount f_summariesCurrent f_callsActive f_callsMade f_runOutcome f_runValue a_slotStates a_slotArities a_slotStarts a_slotSizes a_kinds a_firstOperands a_secondOperands a_children a_parents a_depths a_pendingNodes a_summaries a_nextSummaries a_nodeTypes a_paramsAfter a_params a_values a_arguments a_frameSlots a_frameNodes I, fun _ => zl_262 H _ _ _ f_slotCount f_capacity f_nodesUsed f_buildingSlot f_pendingCount f_summariesCurrent f_callsActive f_callsMade f_runOutcome f_runValue a_slotStates a_slotArities a_slotStarts a_slotSizes a_kinds a_firstOperands a_secondOperands a_children a_parents a_depths a_pendingNodes a_summaries a_nextSummaries a_nodeTypes a_paramsAfter a_params a_values a_arguments a_frameSlots a_frameNodes I⟩
theorem zl_177 (H : ∀ (f_slotCount f_capacity f_nodesUsed f_buildingSlot f_pendingCount f_summariesCurrent f_callsActive f_callsMade f_runOutcome f_runValue : Int32) (a_slotStates a_slotArities a_slotStarts a_slotSizes a_kinds a_firstOperands a_secondOperands a_children a_parents a_depths a_pendingNodes a_summaries a_nextSummaries a_nodeTypes a_paramsAfter a_params a_values a_arguments a_frameSlots a_frameNodes : Nat → Int32), zi_R N (f_slotCount, f_capacity, f_nodesUsed, f_buildingSlot, f_pendingCount, f_summariesCurrent, f_callsActive, f_callsMade, f_runOutcome, f_runValue, a_slotStates, a_slotArities, a_slotStarts, a_slotSizes, a_kinds, a_firstOperands, a_secondOperands, a_children, a_parents, a_depths, a_pendingNodes, a_summaries, a_nextSummaries, a_nodeTypes, a_paramsAfter, a_params, a_values, a_arguments, a_frameSlots, a_frameNodes) → J (x3 + 4) f_slotCount f_capacity f_nodesUsed f_buildingSlot f_pendingCount f_summariesCurrent f_callsActive f_callsMade f_runOutcome f_runValue a_slotStates a_slotArities a_slotStarts a_slotSizes a_kinds a_firstOperands a_secondOperands a_children a_parents a_depths a_pendingNodes a_summaries a_nextSummaries a_nodeTypes a_paramsAfter a_params a_values a_arguments a_frameSlots a_frameNodes) (h1 : ¬ x1 = 0) (x6 x8 x9 x10 : Int32) (h8 : x9 = 2 → ¬ x8 = 0) (f_slotCount f_capacity f_nodesUsed f_buildingSlot f_pendingCount f_summariesCurrent f_callsActive f_callsMade f_runOutcome f_runValue : Int32) (a_slotStates a_slotArities a_slotStarts a_slotSizes a_kinds a_firstOperands a_secondOperands a_children a_parents a_depths a_pendingNodes a_summaries a_nextSummaries a_nodeTypes a_paramsAfter a_params a_values a_arguments a_frameSlots a_frameNodes : Nat → Int32) (I : zi_R N (f_slotCount, f_capacity, f_nodesUsed, f_buildingSlot, f_pendingCount, f_summariesCurrent, f_callsActive, f_callsMade, f_runOutcome, f_runValue, a_slotStates, a_slotArities, a_slotStarts, a_slotSizes, a_kinds, a_firstOperands, a_secondOperands, a_children, a_parents, a_depths, a_pendingNodes, a_summaries, a_nextSummaries, a_nodeTypes, a_paramsAfter, a_params, a_values, a_arguments, a_frameSlots, a_frameNodes)) : wL_law_177 (fun r => r = 1) L xs J x1 x3 x6 x8 x9 x10 kc ks f_slotCount f_capacity f_nodesUsed f_buildingSlot f_pendingCount f_summariesCurrent f_callsActive f_callsMade f_runOutcome f_runValue a_slotStates a_slotArities a_slotStarts a_slotSizes a_kinds a_firstOperands a_secondOperands a_children a_parents a_depths a_pendingNodes a_summaries a_nextSummaries a_nodeTypes a_paramsAfter a_params a_values a_arguments a_frameSlots a_frameNodes := by
  have go : ∀ x11 : Int32, wL_law_252 (fun r => r = 1) L xs J x1 x3 x9 x10 x11 kc ks f_slotCount f_capacity f_nodesUsed f_buildingSlot f_pendingCount f_summariesCurrent f_callsActive f_callsMade f_runOutcome f_runValue a_slotStates a_slotArities a_slotStarts a_slotSizes a_kinds a_firstOperands a_secondOperands a_children a_parents a_depths a_pendingNodes a_summaries a_nextSummaries a_nodeTypes a_paramsAfter a_params a_values a_arguments a_frameSlots a_frameNodes := fun x11 => zl_252 H x9 x10 x11 f_slotCount f_capacity f_nodesUsed f_buildingSlot f_pendingCount f_summariesCurrent f_callsActive f_callsMade f_runOutcome f_runValue a_slotStates a_slotArities a_slotStarts a_slotSizes a_kinds a_firstOperands a_secondOperands a_children a_parents a_depths a_pendingNodes a_summaries a_nextSummaries a_nodeTypes a_paramsAfter a_params a_values a_arguments a_frameSlots a_frameNodes I
  unfold wL_law_177
  exact ⟨fun _ => zl_lit fun r => go r, fun _ => ⟨fun _ => ⟨by decide, fun x _ => go x⟩, fun _ => ⟨fun z => ⟨h8 z, fun x _ => go x⟩, fun _ => ⟨fun _ => ⟨h1, fun x _ => go x⟩, fun _ => go 0⟩⟩⟩⟩
theorem zl_162 (H : ∀ (f_slotCount f_capacity f_nodesUsed f_buildingSlot f_pendingCount f_summariesCurrent f_callsActive f_callsMade f_runOutcome f_runValue : Int32) (a_slotStates a_slotArities a_slotStarts a_slotSizes a_kinds a_firstOperands a_secondOperands a_children a_parents a_depths a_pendingNodes a_summaries a_nextSummaries a_nodeTypes a_paramsAfter a_params a_values a_arguments a_frameSlots a_frameNodes : Nat → Int32), zi_R N (f_slotCount, f_capacity, f_nodesUsed, f_buildingSlot, f_pendingCount, f_summariesCurrent, f_callsActive, f_callsMade, f_runOutcome, f_runValue, a_slotStates, a_slotArities, a_slotStarts, a_slotSizes, a_kinds, a_firstOperands, a_secondOperands, a_children, a_parents, a_depths, a_pendingNodes, a_summaries, a_nextSummaries, a_nodeTypes, a_paramsAfter, a_params, a_values, a_arguments, a_frameSlots, a_frameNodes) → J (x3 + 4) f_slotCount f_capacity f_nodesUsed f_buildingSlot f_pendingCount f_summariesCurrent f_callsActive f_callsMade f_runOutcome f_runValue a_slotStates a_slotArities a_slotStarts a_slotSizes a_kinds a_firstOperands a_secondOperands a_children a_parents a_depths a_pendingNodes a_summaries a_nextSummaries a_nodeTypes a_paramsAfter a_params a_values a_arguments a_frameSlots a_frameNodes) (h1 : ¬ x1 = 0) (x6 x8 x9 x10 : Int32) (f_slotCount f_capacity f_nodesUsed f_buildingSlot f_pendingCount f_summariesCurrent f_callsActive f_callsMade f_runOutcome f_runValue : Int32) (a_slotStates a_slotArities a_slotStarts a_slotSizes a_kinds a_firstOperands a_secondOperands a_children a_parents a_depths a_pendingNodes a_summaries a_nextSummaries a_nodeTypes a_paramsAfter a_params a_values a_arguments a_frameSlots a_frameNodes : Nat → Int32) (I : zi_R N (f_slotCount, f_capacity, f_nodesUsed, f_buildingSlot, f_pendingCount, f_summariesCurrent, f_callsActive, f_callsMade, f_runOutcome, f_runValue, a_slotStates, a_slotArities, a_slotStarts, a_slotSizes, a_kinds, a_firstOperands, a_secondOperands, a_children, a_parents, a_depths, a_pendingNodes, a_summaries, a_nextSummaries, a_nodeTypes, a_paramsAfter, a_params, a_values, a_arguments, a_frameSlots, a_frameNodes)) : wL_law_162 (fun r => r = 1) L xs J x1 x3 x6 x8 x9 x10 kc ks f_slotCount f_capacity f_nodesUsed f_buildingSlot f_pendingCount f_summariesCurrent f_callsActive f_callsMade f_runOutcome f_runValue a_slotStates a_slotArities a_slotStarts a_slotSizes a_kinds a_firstOperands a_secondOperands a_children a_parents a_depths a_pendingNodes a_summaries a_nextSummaries a_nodeTypes a_paramsAfter a_params a_values a_arguments a_frameSlots a_frameNodes := by
  unfold wL_law_162
  refine ⟨fun _ => ⟨fun z => zl_177 H h1 x6 x8 x9 x10 (fun _ e => ?_) f_slotCount f_capacity f_nodesUsed f_buildingSlot f_pendingCount f_summariesCurrent f_callsActive f_callsMade f_runOutcome f_runValue a_slotStates a_slotArities a_slotStarts a_slotSizes a_kinds a_firstOperands a_secondOperands a_children a_parents a_depths a_pendingNodes a_summaries a_nextSummaries a_nodeTypes a_paramsAfter a_params a_values a_arguments a_frameSlots a_frameNodes I, fun _ => zl_177 H h1 x6 x8 0 x10 (fun z => absurd z (by decide)) f_slotCount f_capacity f_nodesUsed f_buildingSlot f_pendingCount f_summariesCurrent f_callsActive f_callsMade f_runOutcome f_runValue a_slotStates a_slotArities a_slotStarts a_slotSizes a_kinds a_firstOperands a_secondOperands a_children a_parents a_depths a_pendingNodes a_summaries a_nextSummaries a_nodeTypes a_paramsAfter a_params a_values a_arguments a_frameSlots a_frameNodes I⟩, fun z => zl_177 H h1 x6 x8 x9 x10 (fun q => absurd q z) f_slotCount f_capacity f_nodesUsed f_buildingSlot f_pendingCount f_summariesCurrent f_callsActive f_callsMade f_runOutcome f_runValue a_slotStates a_slotArities a_slotStarts a_slotSizes a_kinds a_firstOperands a_secondOperands a_children a_parents a_depths a_pendingNodes a_summaries a_nextSummaries a_nodeTypes a_paramsAfter a_params a_values a_arguments a_frameSlots a_frameNodes I⟩
  rw [e] at z
  exact absurd z (by decide)
end
end
section
section
variable {N L : Nat} {xs : Nat → Int32} {x1 : Int32} {kc ks : Nat}
theorem zl_446 (hL : L ≤ 260) (h1 : ¬ x1 = 0) : ∀ (n i : Nat) (f_slotCount f_capacity f_nodesUsed f_buildingSlot f_pendingCount f_summariesCurrent f_callsActive f_callsMade f_runOutcome f_runValue : Int32) (a_slotStates a_slotArities a_slotStarts a_slotSizes a_kinds a_firstOperands a_secondOperands a_children a_parents a_depths a_pendingNodes a_summaries a_nextSummaries a_nodeTypes a_paramsAfter a_params a_values a_arguments a_frameSlots a_frameNodes : Nat → Int32), L - i < n → i ≤ 300 → zi_R N (f_slotCount, f_capacity, f_nodesUsed, f_buildingSlot, f_pendingCount, f_summariesCurrent, f_callsActive, f_callsMade, f_runOutcome, f_runValue, a_slotStates, a_slotArities, a_slotStarts, a_slotSizes, a_kinds, a_firstOperands, a_secondOperands, a_children, a_parents, a_depths, a_pendingNodes, a_summaries, a_nextSummaries, a_nodeTypes, a_paramsAfter, a_params, a_values, a_arguments, a_frameSlots, a_frameNodes) → zi_cur (f_slotCount, f_capacity, f_nodesUsed, f_buildingSlot, f_pendingCount, f_summariesCurrent, f_callsActive, f_callsMade, f_runOutcome, f_runValue, a_slotStates, a_slotArities, a_slotStarts, a_slotSizes, a_kinds, a_firstOperands, a_secondOperands, a_children, a_parents, a_depths, a_pendingNodes, a_summaries, a_nextSummaries, a_nodeTypes, a_paramsAfter, a_params, a_values, a_arguments, a_frameSlots, a_frameNodes) → wL_law_446 (fun r => r = 1) L xs x1 kc ks n (nI i) f_slotCount f_capacity f_nodesUsed f_buildingSlot f_pendingCount f_summariesCurrent f_callsActive f_callsMade f_runOutcome f_runValue a_slotStates a_slotArities a_slotStarts a_slotSizes a_kinds a_firstOperands a_secondOperands a_children a_parents a_depths a_pendingNodes a_summaries a_nextSummaries a_nodeTypes a_paramsAfter a_params a_values a_arguments a_frameSlots a_frameNodes := by
  intro n
  induction n with
  | zero => intro i f_slotCount f_capacity f_nodesUsed f_buildingSlot f_pendingCount f_summariesCurrent f_callsActive f_callsMade f_runOutcome f_runValue a_slotStates a_slotArities a_slotStarts a_slotSizes a_kinds a_firstOperands a_secondOperands a_children a_parents a_depths a_pendingNodes a_summaries a_nextSummaries a_nodeTypes a_paramsAfter a_params a_values a_arguments a_frameSlots a_frameNodes h; exact absurd h (Nat.not_lt_zero _)
  | succ n ih =>
    intro i f_slotCount f_capacity f_nodesUsed f_buildingSlot f_pendingCount f_summariesCurrent f_callsActive f_callsMade f_runOutcome f_runValue a_slotStates a_slotArities a_slotStarts a_slotSizes a_kinds a_firstOperands a_secondOperands a_children a_parents a_depths a_pendingNodes a_summaries a_nextSummaries a_nodeTypes a_paramsAfter a_params a_values a_arguments a_frameSlots a_frameNodes h hi I hc
    by_cases c : L ≤ i
    · exact br_t (nI_le c (by omega)) rfl
    · refine br_f (nI_ge (by omega) (by omega)) (zl_cell (i := i) hL (by omega) rfl fun r1 => ⟨h1, fun x4 _ => ?_⟩)
      refine zl_cell (i := i + 1) hL (by omega) (nI_1 i) fun r2 => zl_val fun x => zl_cell (i := i + 2) hL (by omega) (zl_2 i) fun r3 => zl_val fun y => ?_
      refine zi_ana1 hc (br_f (by decide) (zi_run I hc fun r u' I' hc' ok => ?_))
      obtain ⟨f_slotCount, f_capacity, f_nodesUsed, f_buildingSlot, f_pendingCount, f_summariesCurrent, f_callsActive, f_callsMade, f_runOutcome, f_runValue, a_slotStates, a_slotArities, a_slotStarts, a_slotSizes, a_kinds, a_firstOperands, a_secondOperands, a_children, a_parents, a_depths, a_pendingNodes, a_summaries, a_nextSummaries, a_nodeTypes, a_paramsAfter, a_params, a_values, a_arguments, a_frameSlots, a_frameNodes⟩ := u'
      by_cases r0 : r = 0
      · refine br_t r0 ?_
        obtain ⟨M, g, k, tb, e1, hg, hM, e2, s2, hk, ek, hT, ht, v0, v1, v2⟩ := ok r0
        subst e1 e2
        have go := ih (i + 3) (nI M) f_capacity f_nodesUsed f_buildingSlot f_pendingCount f_summariesCurrent f_callsActive f_callsMade f_runOutcome f_runValue a_slotStates a_slotArities a_slotStarts a_slotSizes a_kinds a_firstOperands a_secondOperands a_children a_parents a_depths a_pendingNodes a_summaries a_nextSummaries a_nodeTypes a_paramsAfter a_params a_values a_arguments a_frameSlots a_frameNodes (by omega) (by omega) I' hc'
        rw [← zl_3] at go
        refine zi_ar hM hg s2 ek ?_
        by_cases k1 : k < 1
        · exact br_t ((yc_k1 hk).mpr k1) (zl_543 hM hg hk hT ht v1 v2 go)
        · exact br_f (fun z => k1 ((yc_k1 hk).mp z)) (zi_mem (j := 0) hM hg (by decide) (hT _) (ht _ (by omega)) (v0 (by omega)) (br_f (by decide) (zl_543 hM hg hk hT ht v1 v2 go)))
      · exact br_f r0 (nm_r (zl_3 i) (ih (i + 3) f_slotCount f_capacity f_nodesUsed f_buildingSlot f_pendingCount f_summariesCurrent f_callsActive f_callsMade f_runOutcome f_runValue a_slotStates a_slotArities a_slotStarts a_slotSizes a_kinds a_firstOperands a_secondOperands a_children a_parents a_depths a_pendingNodes a_summaries a_nextSummaries a_nodeTypes a_paramsAfter a_params a_values a_arguments a_frameSlots a_frameNodes (by omega) (by omega) I' hc'))
theorem zl_24 (hL : L ≤ 260) (h1 : ¬ x1 = 0) : ∀ (n i : Nat) (f_slotCount f_capacity f_nodesUsed f_buildingSlot f_pendingCount f_summariesCurrent f_callsActive f_callsMade f_runOutcome f_runValue : Int32) (a_slotStates a_slotArities a_slotStarts a_slotSizes a_kinds a_firstOperands a_secondOperands a_children a_parents a_depths a_pendingNodes a_summaries a_nextSummaries a_nodeTypes a_paramsAfter a_params a_values a_arguments a_frameSlots a_frameNodes : Nat → Int32), L - i < n → i ≤ 300 → zi_R N (f_slotCount, f_capacity, f_nodesUsed, f_buildingSlot, f_pendingCount, f_summariesCurrent, f_callsActive, f_callsMade, f_runOutcome, f_runValue, a_slotStates, a_slotArities, a_slotStarts, a_slotSizes, a_kinds, a_firstOperands, a_secondOperands, a_children, a_parents, a_depths, a_pendingNodes, a_summaries, a_nextSummaries, a_nodeTypes, a_paramsAfter, a_params, a_values, a_arguments, a_frameSlots, a_frameNodes) → wL_law_24 (fun r => r = 1) L xs x1 kc ks n (nI i) f_slotCount f_capacity f_nodesUsed f_buildingSlot f_pendingCount f_summariesCurrent f_callsActive f_callsMade f_runOutcome f_runValue a_slotStates a_slotArities a_slotStarts a_slotSizes a_kinds a_firstOperands a_secondOperands a_children a_parents a_depths a_pendingNodes a_summaries a_nextSummaries a_nodeTypes a_paramsAfter a_params a_values a_arguments a_frameSlots a_frameNodes := by
  intro n
  induction n with
  | zero => intro i f_slotCount f_capacity f_nodesUsed f_buildingSlot f_pendingCount f_summariesCurrent f_callsActive f_callsMade f_runOutcome f_runValue a_slotStates a_slotArities a_slotStarts a_slotSizes a_kinds a_firstOperands a_secondOperands a_children a_parents a_depths a_pendingNodes a_summaries a_nextSummaries a_nodeTypes a_paramsAfter a_params a_values a_arguments a_frameSlots a_frameNodes h; exact absurd h (Nat.not_lt_zero _)
  | succ n ih =>
    intro i f_slotCount f_capacity f_nodesUsed f_buildingSlot f_pendingCount f_summariesCurrent f_callsActive f_callsMade f_runOutcome f_runValue a_slotStates a_slotArities a_slotStarts a_slotSizes a_kinds a_firstOperands a_secondOperands a_children a_parents a_depths a_pendingNodes a_summaries a_nextSummaries a_nodeTypes a_paramsAfter a_params a_values a_arguments a_frameSlots a_frameNodes h hi I
    by_cases c : L ≤ i
    · refine br_t (nI_le c (by omega)) (zi_analyze I fun r u' I' hc' => ?_)
      obtain ⟨f_slotCount, f_capacity, f_nodesUsed, f_buildingSlot, f_pendingCount, f_summariesCurrent, f_callsActive, f_callsMade, f_runOutcome, f_runValue, a_slotStates, a_slotArities, a_slotStarts, a_slotSizes, a_kinds, a_firstOperands, a_secondOperands, a_children, a_parents, a_depths, a_pendingNodes, a_summaries, a_nextSummaries, a_nodeTypes, a_paramsAfter, a_params, a_values, a_arguments, a_frameSlots, a_frameNodes⟩ := u'
      exact ⟨L + 1, zl_446 hL h1 (L + 1) 0 f_slotCount f_capacity f_nodesUsed f_buildingSlot f_pendingCount f_summariesCurrent f_callsActive f_callsMade f_runOutcome f_runValue a_slotStates a_slotArities a_slotStarts a_slotSizes a_kinds a_firstOperands a_secondOperands a_children a_parents a_depths a_pendingNodes a_summaries a_nextSummaries a_nodeTypes a_paramsAfter a_params a_values a_arguments a_frameSlots a_frameNodes (by omega) (by omega) I' hc'⟩
    · have H : ∀ (f_slotCount f_capacity f_nodesUsed f_buildingSlot f_pendingCount f_summariesCurrent f_callsActive f_callsMade f_runOutcome f_runValue : Int32) (a_slotStates a_slotArities a_slotStarts a_slotSizes a_kinds a_firstOperands a_secondOperands a_children a_parents a_depths a_pendingNodes a_summaries a_nextSummaries a_nodeTypes a_paramsAfter a_params a_values a_arguments a_frameSlots a_frameNodes : Nat → Int32), zi_R N (f_slotCount, f_capacity, f_nodesUsed, f_buildingSlot, f_pendingCount, f_summariesCurrent, f_callsActive, f_callsMade, f_runOutcome, f_runValue, a_slotStates, a_slotArities, a_slotStarts, a_slotSizes, a_kinds, a_firstOperands, a_secondOperands, a_children, a_parents, a_depths, a_pendingNodes, a_summaries, a_nextSummaries, a_nodeTypes, a_paramsAfter, a_params, a_values, a_arguments, a_frameSlots, a_frameNodes) → wL_law_24 (fun r => r = 1) L xs x1 kc ks n (nI i + 4) f_slotCount f_capacity f_nodesUsed f_buildingSlot f_pendingCount f_summariesCurrent f_callsActive f_callsMade f_runOutcome f_runValue a_slotStates a_slotArities a_slotStarts a_slotSizes a_kinds a_firstOperands a_secondOperands a_children a_parents a_depths a_pendingNodes a_summaries a_nextSummaries a_nodeTypes a_paramsAfter a_params a_values a_arguments a_frameSlots a_frameNodes := by
        intro f_slotCount f_capacity f_nodesUsed f_buildingSlot f_pendingCount f_summariesCurrent f_callsActive f_callsMade f_runOutcome f_runValue a_slotStates a_slotArities a_slotStarts a_slotSizes a_kinds a_firstOperands a_secondOperands a_children a_parents a_depths a_pendingNodes a_summaries a_nextSummaries a_nodeTypes a_paramsAfter a_params a_values a_arguments a_frameSlots a_frameNodes I
        rw [zl_4]
        exact ih (i + 4) f_slotCount f_capacity f_nodesUsed f_buildingSlot f_pendingCount f_summariesCurrent f_callsActive f_callsMade f_runOutcome f_runValue a_slotStates a_slotArities a_slotStarts a_slotSizes a_kinds a_firstOperands a_secondOperands a_children a_parents a_depths a_pendingNodes a_summaries a_nextSummaries a_nodeTypes a_paramsAfter a_params a_values a_arguments a_frameSlots a_frameNodes (by omega) (by omega) I
      refine br_f (nI_ge (by omega) (by omega)) (zl_cell (i := i) hL (by omega) rfl fun r1 => ?_)
      intro op _
      refine zl_cell (i := i + 1) hL (by omega) (nI_1 i) fun r2 => zl_cell (i := i + 2) hL (by omega) (zl_2 i) fun r3 => zl_cell (i := i + 3) hL (by omega) (zl_3 i) fun r4 => ?_
      by_cases o1 : 1 < op
      · refine br_t o1 ?_
        by_cases o9 : 9 < op
        · refine br_t o9 ?_
          by_cases o11 : 11 < op
          · refine br_t o11 ?_
            by_cases o12 : op = 12
            · refine br_t o12 (zi_analyze I fun r u' I' _ => ?_)
              obtain ⟨f_slotCount, f_capacity, f_nodesUsed, f_buildingSlot, f_pendingCount, f_summariesCurrent, f_callsActive, f_callsMade, f_runOutcome, f_runValue, a_slotStates, a_slotArities, a_slotStarts, a_slotSizes, a_kinds, a_firstOperands, a_secondOperands, a_children, a_parents, a_depths, a_pendingNodes, a_summaries, a_nextSummaries, a_nodeTypes, a_paramsAfter, a_params, a_values, a_arguments, a_frameSlots, a_frameNodes⟩ := u'
              exact nm_e (H f_slotCount f_capacity f_nodesUsed f_buildingSlot f_pendingCount f_summariesCurrent f_callsActive f_callsMade f_runOutcome f_runValue a_slotStates a_slotArities a_slotStarts a_slotSizes a_kinds a_firstOperands a_secondOperands a_children a_parents a_depths a_pendingNodes a_summaries a_nextSummaries a_nodeTypes a_paramsAfter a_params a_values a_arguments a_frameSlots a_frameNodes I')
            · refine br_f o12 ⟨h1, fun x8 _ => zl_val fun x => zl_val fun y => zi_analyzed I (br_t rfl (nm_e (H f_slotCount f_capacity f_nodesUsed f_buildingSlot f_pendingCount f_summariesCurrent f_callsActive f_callsMade f_runOutcome f_runValue a_slotStates a_slotArities a_slotStarts a_slotSizes a_kinds a_firstOperands a_secondOperands a_children a_parents a_depths a_pendingNodes a_summaries a_nextSummaries a_nodeTypes a_paramsAfter a_params a_values a_arguments a_frameSlots a_frameNodes I))) (fun hc => br_f (by decide) (zi_run I hc fun r u' I' hc' ok => ?_))⟩
              obtain ⟨f_slotCount, f_capacity, f_nodesUsed, f_buildingSlot, f_pendingCount, f_summariesCurrent, f_callsActive, f_callsMade, f_runOutcome, f_runValue, a_slotStates, a_slotArities, a_slotStarts, a_slotSizes, a_kinds, a_firstOperands, a_secondOperands, a_children, a_parents, a_depths, a_pendingNodes, a_summaries, a_nextSummaries, a_nodeTypes, a_paramsAfter, a_params, a_values, a_arguments, a_frameSlots, a_frameNodes⟩ := u'
              by_cases r0 : r = 0
              · refine br_t r0 ?_
                obtain ⟨M, g, k, tb, e1, hg, hM, e2, s2, hk, ek, hT, ht, v0, v1, v2⟩ := ok r0
                subst e1 e2
                have go := H (nI M) f_capacity f_nodesUsed f_buildingSlot f_pendingCount f_summariesCurrent f_callsActive f_callsMade f_runOutcome f_runValue a_slotStates a_slotArities a_slotStarts a_slotSizes a_kinds a_firstOperands a_secondOperands a_children a_parents a_depths a_pendingNodes a_summaries a_nextSummaries a_nodeTypes a_paramsAfter a_params a_values a_arguments a_frameSlots a_frameNodes I'
                refine zi_ar hM hg s2 ek ?_
                by_cases k1 : k < 1
                · exact br_t ((yc_k1 hk).mpr k1) (zl_397 hM hg hk hT ht v1 v2 go)
                · exact br_f (fun z => k1 ((yc_k1 hk).mp z)) (zi_mem (j := 0) hM hg (by decide) (hT _) (ht _ (by omega)) (v0 (by omega)) (br_f (by decide) (zl_397 hM hg hk hT ht v1 v2 go)))
              · exact br_f r0 (nm_e (H f_slotCount f_capacity f_nodesUsed f_buildingSlot f_pendingCount f_summariesCurrent f_callsActive f_callsMade f_runOutcome f_runValue a_slotStates a_slotArities a_slotStarts a_slotSizes a_kinds a_firstOperands a_secondOperands a_children a_parents a_depths a_pendingNodes a_summaries a_nextSummaries a_nodeTypes a_paramsAfter a_params a_values a_arguments a_frameSlots a_frameNodes I'))
          · refine br_f o11 (zi_pend ?_)
            by_cases p1 : f_pendingCount = 1
            · exact br_t p1 (zl_298 H f_slotCount f_capacity f_nodesUsed f_buildingSlot f_pendingCount f_summariesCurrent f_callsActive f_callsMade f_runOutcome f_runValue a_slotStates a_slotArities a_slotStarts a_slotSizes a_kinds a_firstOperands a_secondOperands a_children a_parents a_depths a_pendingNodes a_summaries a_nextSummaries a_nodeTypes a_paramsAfter a_params a_values a_arguments a_frameSlots a_frameNodes I)
            · refine br_f p1 ?_
              by_cases z3 : r3 &&& 3 = 0
              · exact br_t z3 (zl_298 H f_slotCount f_capacity f_nodesUsed f_buildingSlot f_pendingCount f_summariesCurrent f_callsActive f_callsMade f_runOutcome f_runValue a_slotStates a_slotArities a_slotStarts a_slotSizes a_kinds a_firstOperands a_secondOperands a_children a_parents a_depths a_pendingNodes a_summaries a_nextSummaries a_nodeTypes a_paramsAfter a_params a_values a_arguments a_frameSlots a_frameNodes I)
              · exact br_f z3 (nm_e (H f_slotCount f_capacity f_nodesUsed f_buildingSlot f_pendingCount f_summariesCurrent f_callsActive f_callsMade f_runOutcome f_runValue a_slotStates a_slotArities a_slotStarts a_slotSizes a_kinds a_firstOperands a_secondOperands a_children a_parents a_depths a_pendingNodes a_summaries a_nextSummaries a_nodeTypes a_paramsAfter a_params a_values a_arguments a_frameSlots a_frameNodes I))
        · obtain ⟨hN, eN⟩ := zi_N I
          subst eN
          refine br_f o9 (zi_bldg (zi_arity hN fun ar => ⟨by decide, fun x9 _ => ⟨by decide, fun x10 _ => zi_pend (zl_need fun nd => ?_)⟩⟩))
          by_cases c2 : nd ≤ f_pendingCount
          · exact br_t c2 (zl_162 H h1 _ _ _ _ (nI N) f_capacity f_nodesUsed f_buildingSlot f_pendingCount f_summariesCurrent f_callsActive f_callsMade f_runOutcome f_runValue a_slotStates a_slotArities a_slotStarts a_slotSizes a_kinds a_firstOperands a_secondOperands a_children a_parents a_depths a_pendingNodes a_summaries a_nextSummaries a_nodeTypes a_paramsAfter a_params a_values a_arguments a_frameSlots a_frameNodes I)
          · exact br_f c2 ⟨by decide, fun x9 _ => zl_162 H h1 _ _ _ _ (nI N) f_capacity f_nodesUsed f_buildingSlot f_pendingCount f_summariesCurrent f_callsActive f_callsMade f_runOutcome f_runValue a_slotStates a_slotArities a_slotStarts a_slotSizes a_kinds a_firstOperands a_secondOperands a_children a_parents a_depths a_pendingNodes a_summaries a_nextSummaries a_nodeTypes a_paramsAfter a_params a_values a_arguments a_frameSlots a_frameNodes I⟩
      · refine br_f o1 ⟨h1, by decide, zi_begin I fun r u' I' => ?_⟩
        obtain ⟨f_slotCount, f_capacity, f_nodesUsed, f_buildingSlot, f_pendingCount, f_summariesCurrent, f_callsActive, f_callsMade, f_runOutcome, f_runValue, a_slotStates, a_slotArities, a_slotStarts, a_slotSizes, a_kinds, a_firstOperands, a_secondOperands, a_children, a_parents, a_depths, a_pendingNodes, a_summaries, a_nextSummaries, a_nodeTypes, a_paramsAfter, a_params, a_values, a_arguments, a_frameSlots, a_frameNodes⟩ := u'
        exact nm_e (H f_slotCount f_capacity f_nodesUsed f_buildingSlot f_pendingCount f_summariesCurrent f_callsActive f_callsMade f_runOutcome f_runValue a_slotStates a_slotArities a_slotStarts a_slotSizes a_kinds a_firstOperands a_secondOperands a_children a_parents a_depths a_pendingNodes a_summaries a_nextSummaries a_nodeTypes a_paramsAfter a_params a_values a_arguments a_frameSlots a_frameNodes I')
end
theorem zi_init {N : Nat} (h1 : 1 ≤ N) (h8 : N ≤ 8) : zi_R N (nI N, nI 128, 0, -1, 0, 0, 0, 0, 0, 0, fun _ => 0, fun _ => 0, fun _ => 0, fun _ => 0, fun _ => 0, fun _ => 0, fun _ => 0, fun _ => 0, fun _ => 0, fun _ => 0, fun _ => 0, fun _ => 0, fun _ => 0, fun _ => 0, fun _ => 0, fun _ => 0, fun _ => 0, fun _ => 0, fun _ => 0, fun _ => 0) :=
  ⟨128, 0, fun _ => 0, fun _ => 0, fun _ => ty_0, fun _ => 0, fun _ => 0, fun _ => 0, fun _ => 0, rfl, rfl, rfl, ⟨h1, h8, by decide, by decide, Nat.zero_le _⟩, Or.inl rfl,
    fun f hf => ⟨Or.inl rfl, fun z => absurd rfl z, fun z => absurd (show (0 : Int32) = 2 from z) (by decide)⟩, Or.inl ⟨rfl, rfl, fun f hf z => absurd (show (0 : Int32) = 1 from z) (by decide)⟩,
    fun _ => ty_0_ok, fun q hq => ty_x_00.symm, fun q _ _ => rfl, fun c => absurd (show (0 : Int32) = 1 from c) (by decide)⟩
end
section
theorem i_vc (xs : Nat → Int32) (L : Nat) (hL : L ≤ 260) : wpL_law (fun r => r = 1) L xs := by
  unfold wpL_law
  refine zl_cell (i := 0) hL (by decide) rfl fun r => ?_
  intro x1 ex
  obtain ⟨j, hj, ej⟩ := pk_andE r (m := 3) 2 (by decide)
  rw [ej, nI_1] at ex
  subst ex
  refine ⟨20, 3730, by omega, by omega, ?_⟩
  unfold wpX_init
  dsimp only
  refine ⟨by decide, by decide, by decide, by decide, by decide, by decide, by decide, by decide, by decide, by decide, by decide, by decide, by decide, by decide, by decide, by decide, by decide, by decide, by decide, by decide, by decide, by decide, by decide, by decide, by decide, by decide, by decide, by decide, by decide, by decide, by decide, by decide, by decide, by decide, by decide, by decide, by decide, by decide, by decide, by decide, ?_⟩
  have c1 : rd_c (nI (j + 1)) 1 8 (j + 1) := Or.inr (Or.inr ⟨nI_le (by omega) (by omega), nI_le (by omega) (by omega), rfl⟩)
  have c2 : rd_c (nI 128) 16 128 128 := Or.inr (Or.inr ⟨nI_le (by omega) (by omega), nI_le (by omega) (by omega), rfl⟩)
  refine xd_clamp (lo := 1) (hi := 8) c1 (xd_clamp (lo := 16) (hi := 128) c2 ?_)
  have n0 : ¬ nI (j + 1) = 0 := fun z => by
    rw [show (0 : Int32) = nI 0 by decide, nI_eq (by omega) (by omega)] at z
    omega
  exact ⟨L + 1, zl_24 hL n0 (L + 1) 1 _ _ _ _ _ _ _ _ _ _ _ _ _ _ _ _ _ _ _ _ _ _ _ _ _ _ _ _ _ _ (by omega) (by omega) (zi_init (by omega) (by omega))⟩
end

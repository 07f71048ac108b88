/-- a value lies in a type -/
def sd_in (v : Int32) (t : ty_T) : Prop := (-99 ≤ v.toInt ∧ v.toInt ≤ 99 ∧ t.2.1 ≠ 0 ∧ ty_lv t.2.1 ≤ v.toInt ∧ v.toInt ≤ ty_hv t.2.2) ∨ (∃ j : Nat, j < 8 ∧ v = 1000 + nI j ∧ t.1.testBit j = true)
theorem sd_ne {v : Int32} {t : ty_T} (h : sd_in v t) : t ≠ ty_0 := by
  intro e
  subst e
  rcases h with h | ⟨j, _, _, h⟩
  · exact h.2.2.1 rfl
  · simp [ty_0] at h
theorem sd_at_t : ∀ j, j < 8 → (1000 + nI j).toInt = 1000 + (j : Int) := by decide
theorem sd_at_inj {j j' : Nat} (h : j < 8) (h' : j' < 8) (e : (1000 : Int32) + nI j = 1000 + nI j') : j = j' := by
  have := congrArg Int32.toInt e
  rw [sd_at_t j h, sd_at_t j' h'] at this
  omega
theorem sd_ok {v : Int32} {t : ty_T} (h : sd_in v t) : rn_ok v := by
  rcases h with h | ⟨j, hj, rfl, _⟩
  · exact Or.inl ⟨h.1, h.2.1⟩
  · exact rn_ok_at j hj
theorem sd_of {v : Int32} (h : rn_ok v) : (-99 ≤ v.toInt ∧ v.toInt ≤ 99) ∨ ∃ j : Nat, j < 8 ∧ v = 1000 + nI j := by
  rcases h with h | h
  · exact Or.inl h
  · refine Or.inr ⟨(v.toInt - 1000).toNat, by omega, ?_⟩
    apply Int32.toInt_inj.mp
    rw [sd_at_t _ (by omega)]
    omega
theorem sd_any {v : Int32} (h : rn_ok v) : sd_in v ty_any := by
  rcases sd_of h with h | ⟨j, hj, rfl⟩
  · exact Or.inl ⟨h.1, h.2, by decide, by show (-99 : Int) ≤ _; exact h.1, by show _ ≤ (99 : Int); exact h.2⟩
  · refine Or.inr ⟨j, hj, rfl, ?_⟩
    have : ∀ j, j < 8 → (255 : Nat).testBit j = true := by decide
    exact this j hj
theorem sd_meet {v : Int32} {s t : ty_T} (os : ty_ok s) (ot : ty_ok t) (hs : sd_in v s) (ht : sd_in v t) : sd_in v (ty_meet s t) := by
  rcases hs with ⟨a1, a2, a3, a4, a5⟩ | ⟨j, hj, ej, bj⟩
  · rcases ht with ⟨b1, b2, b3, b4, b5⟩ | ⟨j, hj, ej, bj⟩
    · have s1 := ty_ok_l os
      have s2 := ty_ok_h os
      have t1 := ty_ok_l ot
      have t2 := ty_ok_h ot
      have u0 := ty_ok_0 os
      have v0 := ty_ok_0 ot
      have lo : ty_lv (min s.2.1 t.2.1) ≤ v.toInt := by
        by_cases c : s.2.1 ≤ t.2.1
        · rw [Nat.min_eq_left c]; exact a4
        · rw [Nat.min_eq_right (by omega)]; exact b4
      have hi : v.toInt ≤ ty_hv (min s.2.2 t.2.2) := by
        by_cases c : s.2.2 ≤ t.2.2
        · rw [Nat.min_eq_left c]; exact a5
        · rw [Nat.min_eq_right (by omega)]; exact b5
      have sum : ¬ (min s.2.1 t.2.1 + min s.2.2 t.2.2 < 18) := by
        generalize min s.2.1 t.2.1 = l at lo
        generalize min s.2.2 t.2.2 = h at hi
        unfold ty_lv at lo
        unfold ty_hv at hi
        split at lo <;> split at hi <;> omega
      unfold ty_meet
      rw [if_neg sum]
      refine Or.inl ⟨a1, a2, ?_, lo, hi⟩
      show ¬ min s.2.1 t.2.1 = 0
      omega
    · subst ej
      rw [sd_at_t j hj] at a2
      omega
  · rcases ht with ⟨b1, b2, _⟩ | ⟨j', hj', ej', bj'⟩
    · subst ej
      rw [sd_at_t j hj] at b2
      omega
    · subst ej
      obtain rfl := sd_at_inj hj hj' ej'
      refine Or.inr ⟨j, hj, rfl, ?_⟩
      unfold ty_meet
      split <;> simp [bj, bj']
theorem sd_le {v : Int32} {s t : ty_T} (ot : ty_ok t) (h : ty_le s t) (hs : sd_in v s) : sd_in v t := by
  rcases hs with ⟨a1, a2, a3, a4, a5⟩ | ⟨j, hj, ej, bj⟩
  · have l := ty_lv_le h.2.1 (ty_ok_l ot)
    have g := ty_hv_le h.2.2 (ty_ok_h ot)
    have := h.2.1
    exact Or.inl ⟨a1, a2, by omega, by omega, by omega⟩
  · exact Or.inr ⟨j, hj, ej, h.1 j bj⟩
theorem sd_ints {v : Int32} (h : -99 ≤ v.toInt ∧ v.toInt ≤ 99) : sd_in v ty_ints := Or.inl ⟨h.1, h.2, by decide, by show (-99 : Int) ≤ _; exact h.1, by show _ ≤ (99 : Int); exact h.2⟩
theorem sd_lit {j m : Nat} (hj : j < 8) (h : m.testBit j = true) : sd_in (1000 + nI j) (m, 0, 0) := Or.inr ⟨j, hj, rfl, h⟩
theorem sd_t {m : Nat} (h : m.testBit 1 = true) : sd_in 1001 (m, 0, 0) := sd_lit (j := 1) (by decide) h
theorem sd_f {m : Nat} (h : m.testBit 0 = true) : sd_in 1000 (m, 0, 0) := sd_lit (j := 0) (by decide) h
theorem sd_bt {t : ty_T} (h : sd_in 1001 t) : t.1.testBit 1 = true := by
  rcases h with h | ⟨j, hj, e, b⟩
  · exact absurd h.2.1 (by decide)
  · obtain rfl := sd_at_inj (j := 1) (by decide) hj e
    exact b
theorem sd_bf {t : ty_T} (h : sd_in 1000 t) : t.1.testBit 0 = true := by
  rcases h with h | ⟨j, hj, e, b⟩
  · exact absurd h.2.1 (by decide)
  · obtain rfl := sd_at_inj (j := 0) (by decide) hj e
    exact b
theorem sd_int {v : Int32} {t : ty_T} (h : sd_in v t) (hv : ¬ 1000 ≤ v) : -99 ≤ v.toInt ∧ v.toInt ≤ 99 ∧ t.2.1 ≠ 0 ∧ ty_lv t.2.1 ≤ v.toInt ∧ v.toInt ≤ ty_hv t.2.2 := by
  rcases h with h | ⟨j, hj, rfl, b⟩
  · exact h
  · rw [Int32.le_iff_toInt_le, ty_k0, sd_at_t j hj] at hv
    omega
theorem sd_atom {v : Int32} {t : ty_T} (h : sd_in v t) (hv : ¬ v < 1000) : (∃ j : Nat, j < 8 ∧ v = 1000 + nI j) ∧ t.1 ≠ 0 := by
  rcases h with h | ⟨j, hj, rfl, b⟩
  · rw [Int32.lt_iff_toInt_lt, ty_k0] at hv
    omega
  · refine ⟨⟨j, hj, rfl⟩, fun e => ?_⟩
    rw [e] at b
    simp at b
theorem sd_rl {z t : Int} (h : z ≤ t) (h9 : -99 ≤ t) : ty_lv (ty_rl z) ≤ t := by
  unfold ty_lv ty_rl
  split <;> split <;> (try split) <;> omega
theorem sd_rh {z t : Int} (h : t ≤ z) (h9 : t ≤ 99) : t ≤ ty_hv (ty_rh z) := by
  unfold ty_hv ty_rh
  split <;> split <;> (try split) <;> omega
theorem sd_range {a b : Int} {v : Int32} (h1 : -99 ≤ v.toInt) (h2 : v.toInt ≤ 99) (ha : a ≤ v.toInt) (hb : v.toInt ≤ b) : sd_in v (0, ty_rl a, ty_rh b) :=
  Or.inl ⟨h1, h2, by have := (ty_rl_in a).1; show ¬ ty_rl a = 0; omega, sd_rl ha h1, sd_rh hb h2⟩
/-- the arguments lie in the parameters' types, as far as the arity goes -/
def sd_env (a x y : Int32) (e : ab_E) : Prop := (1 ≤ a → sd_in x e.1) ∧ (2 ≤ a → sd_in y e.2)
theorem sd_k1 {k : Nat} (hk : k ≤ 2) : (1 : Int32) ≤ nI k ↔ 1 ≤ k := by rw [show (1 : Int32) = nI 1 by decide, nI_leI (by omega) (by omega)]
theorem sd_k2 {k : Nat} (hk : k ≤ 2) : (2 : Int32) ≤ nI k ↔ 2 ≤ k := by rw [show (2 : Int32) = nI 2 by decide, nI_leI (by omega) (by omega)]
theorem sd_any0 : ty_any ≠ ty_0 := by decide
theorem sd_al {k : Nat} {x y : Int32} {e : ab_E} (hk : k ≤ 2) (he : ab_eo k e) (hs : sd_env (nI k) x y e) : e.1 ≠ ty_0 ∧ e.2 ≠ ty_0 := by
  refine ⟨?_, ?_⟩
  · by_cases c : 1 ≤ k
    · exact sd_ne (hs.1 ((sd_k1 hk).mpr c))
    · rw [he.2.2.1 (by omega)]; exact sd_any0
  · by_cases c : 2 ≤ k
    · exact sd_ne (hs.2 ((sd_k2 hk).mpr c))
    · rw [he.2.2.2 (by omega)]; exact sd_any0
theorem sd_fin {k : Nat} {x y v : Int32} {r : ty_T} {e : ab_E} (hk : k ≤ 2) (he : ab_eo k e) (hs : sd_env (nI k) x y e) (hv : sd_in v r) : ab_fin r e = some (r, e) :=
  ab_fin_to (sd_ne hv) (sd_al hk he hs).1 (sd_al hk he hs).2
theorem sd_nv {K A : Nat → Int32} {k p : Nat} {x y : Int32} {t : ty_T} {e : ab_E} (ot : ty_ok t) (he : ab_eo k e) (hs : sd_env (nI k) x y e) (hv : K p = 2 → sd_in (if A p = 0 then x else y) t) : sd_env (nI k) x y (ab_nv K A p t e) := by
  unfold ab_nv
  split
  · next z =>
    have v := hv z
    split
    · next z0 =>
      rw [if_pos z0] at v
      exact ⟨fun h => sd_meet he.1 ot (hs.1 h) v, hs.2⟩
    · next z0 =>
      rw [if_neg z0] at v
      exact ⟨hs.1, fun h => sd_meet he.2.1 ot (hs.2 h) v⟩
  · exact hs
section
variable {N : Nat} {K A B : Nat → Nat → Int32} {st ar : Nat → Int32} {sz : Nat → Nat}
theorem sd_var {dr fr g p m : Nat} {x y : Int32} (h2 : K g p = 2) (h : (rn_ev K A B st ar sz dr fr g p x y m).1 = -1) : (rn_ev K A B st ar sz dr fr g p x y m).2.1 = (if A g p = 0 then x else y) := by
  cases dr with
  | zero => exact absurd h (show (1 : Int32) ≠ -1 by decide)
  | succ d =>
    rw [rn_ev_lf (Or.inr (Or.inr h2))]
    show (if K g p = 0 then A g p else if K g p = 1 then 1000 + A g p else if A g p = 0 then x else y) = _
    rw [if_neg (by rw [h2]; decide), if_neg (by rw [h2]; decide)]
theorem sd_bd {p : rn_R} {f : Int32 → Nat → rn_R} (h : (rn_bd p f).1 = -1) : p.1 = -1 ∧ rn_bd p f = f p.2.1 p.2.2 := by
  by_cases c : p.1 = -1
  · exact ⟨c, if_pos c⟩
  · unfold rn_bd at h
    rw [if_neg c] at h
    exact absurd h c
theorem sd_isv {dr fr g p m : Nat} {x y : Int32} (h7 : K g p = 7) (h2 : K g (bs_ch (sp_c K B g) p 0) = 2) (h : (rn_ev K A B st ar sz dr fr g p x y m).1 = -1) :
    (rn_ev K A B st ar sz dr fr g p x y m).2.1 = (if (if A g (bs_ch (sp_c K B g) p 0) = 0 then x else y) < 1000 then 1001 else 1000) := by
  cases dr with
  | zero => exact absurd h (show (1 : Int32) ≠ -1 by decide)
  | succ d =>
    rw [rn_ev_isi h7] at h ⊢
    obtain ⟨h0, e⟩ := sd_bd h
    rw [e, sd_var h2 h0]
theorem sd_op_some {k v w : Int32} {m : Nat} (h : (rn_op k v w m).1 = -1) : (k = 6 ∧ (rn_op k v w m).2.1 = (if v = w then 1001 else 1000)) ∨
    (¬ k = 6 ∧ ¬ 1000 ≤ v ∧ ¬ 1000 ≤ w ∧ ((k = 5 ∧ (rn_op k v w m).2.1 = (if v < w then 1001 else 1000)) ∨ (¬ k = 5 ∧ ¬ rn_ar k v w < -99 ∧ ¬ 99 < rn_ar k v w ∧ (rn_op k v w m).2.1 = rn_ar k v w))) := by
  unfold rn_op at h ⊢
  by_cases k6 : k = 6
  · rw [if_pos k6]; exact Or.inl ⟨k6, rfl⟩
  · rw [if_neg k6] at h ⊢
    refine Or.inr ⟨k6, ?_⟩
    by_cases a : 1000 ≤ v
    · rw [if_pos a] at h; exact absurd h (show (1 : Int32) ≠ -1 by decide)
    · rw [if_neg a] at h ⊢
      by_cases b : 1000 ≤ w
      · rw [if_pos b] at h; exact absurd h (show (1 : Int32) ≠ -1 by decide)
      · rw [if_neg b] at h ⊢
        refine ⟨a, b, ?_⟩
        by_cases k5 : k = 5
        · rw [if_pos k5]; exact Or.inl ⟨k5, rfl⟩
        · rw [if_neg k5] at h ⊢
          refine Or.inr ⟨k5, ?_⟩
          by_cases c : rn_ar k v w < -99
          · rw [if_pos c] at h; exact absurd h (show (1 : Int32) ≠ -1 by decide)
          · rw [if_neg c] at h ⊢
            by_cases d : 99 < rn_ar k v w
            · rw [if_pos d] at h; exact absurd h (show (1 : Int32) ≠ -1 by decide)
            · rw [if_neg d]; exact ⟨c, d, rfl⟩
end

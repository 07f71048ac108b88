-- the soundness of the abstract evaluation at a fixed point of STEP
theorem sd_c99 : (99 : Int32).toInt = 99 := by decide
theorem sd_cm99 : (-99 : Int32).toInt = -99 := by decide
theorem sd_add {v w : Int32} (v1 : -99 ≤ v.toInt) (v2 : v.toInt ≤ 99) (w1 : -99 ≤ w.toInt) (w2 : w.toInt ≤ 99) : (v + w).toInt = v.toInt + w.toInt := by
  rw [Int32.toInt_add]
  exact Int.bmod_eq_of_le (by omega) (by omega)
theorem sd_sub {v w : Int32} (v1 : -99 ≤ v.toInt) (v2 : v.toInt ≤ 99) (w1 : -99 ≤ w.toInt) (w2 : w.toInt ≤ 99) : (v - w).toInt = v.toInt - w.toInt := by
  rw [Int32.toInt_sub]
  exact Int.bmod_eq_of_le (by omega) (by omega)
theorem sd_fo {k : Nat} {x y v : Int32} {r : ty_T} {e : ab_E} (hk : k ≤ 2) (he : ab_eo k e) (hs : sd_env (nI k) x y e) (hv : sd_in v r) : ∃ o, ab_fin r e = some o ∧ sd_in v o.1 ∧ sd_env (nI k) x y o.2 :=
  ⟨(r, e), sd_fin hk he hs hv, hv, hs⟩
theorem sd_ats {v : Int32} (h : rn_ok v) (hv : ¬ v < 1000) : sd_in v ty_ats := by
  obtain ⟨⟨j, hj, rfl⟩, _⟩ := sd_atom (sd_any h) hv
  refine sd_lit hj ?_
  have : ∀ j, j < 8 → (255 : Nat).testBit j = true := by decide
  exact this j hj
theorem sd_jl {k : Nat} {x y v : Int32} {o : ty_T × ab_E} {q : ab_O} (ho : ab_xo k o) (hq : ab_po k q) (hv : sd_in v o.1) (hs : sd_env (nI k) x y o.2) : ∃ u, ab_jn (some o) q = some u ∧ sd_in v u.1 ∧ sd_env (nI k) x y u.2 := by
  cases q with
  | none => exact ⟨o, rfl, hv, hs⟩
  | some z =>
    have zo := hq z rfl
    exact ⟨_, rfl, sd_le (ty_join_ok ho.1 zo.1) (ty_join_l _ _) hv, fun h => sd_le (ty_join_ok ho.2.2.1.1 zo.2.2.1.1) (ty_join_l _ _) (hs.1 h), fun h => sd_le (ty_join_ok ho.2.2.1.2.1 zo.2.2.1.2.1) (ty_join_l _ _) (hs.2 h)⟩
theorem sd_jr {k : Nat} {x y v : Int32} {o : ty_T × ab_E} {q : ab_O} (ho : ab_xo k o) (hq : ab_po k q) (hv : sd_in v o.1) (hs : sd_env (nI k) x y o.2) : ∃ u, ab_jn q (some o) = some u ∧ sd_in v u.1 ∧ sd_env (nI k) x y u.2 := by
  cases q with
  | none => exact ⟨o, rfl, hv, hs⟩
  | some z =>
    have zo := hq z rfl
    exact ⟨_, rfl, sd_le (ty_join_ok zo.1 ho.1) (ty_join_r _ _) hv, fun h => sd_le (ty_join_ok zo.2.2.1.1 ho.2.2.1.1) (ty_join_r _ _) (hs.1 h), fun h => sd_le (ty_join_ok zo.2.2.1.2.1 ho.2.2.1.2.1) (ty_join_r _ _) (hs.2 h)⟩
theorem sd_isi {v : Int32} {t : ty_T} (h : sd_in v t) : sd_in (if v < 1000 then 1001 else 1000) ((if t.1 = 0 then 0 else 1) + (if t.2.1 = 0 then 0 else 2), 0, 0) := by
  by_cases c : v < 1000
  · rw [if_pos c]
    have n : ¬ 1000 ≤ v := by
      rw [Int32.le_iff_toInt_le]
      rw [Int32.lt_iff_toInt_lt] at c
      omega
    have := (sd_int h n).2.2.1
    rw [if_neg this]
    refine sd_t ?_
    split <;> decide
  · rw [if_neg c]
    have := (sd_atom h c).2
    rw [if_neg this]
    refine sd_f ?_
    split <;> decide
theorem sd_num {k v w : Int32} {x y : ty_T} {m : Nat} (k6 : ¬ k = 6) (h : k = 3 ∨ k = 4 ∨ k = 5) (hx : sd_in v x) (hy : sd_in w y) (hr : (rn_op k v w m).1 = -1) :
    x.2.1 ≠ 0 ∧ y.2.1 ≠ 0 ∧ sd_in v ty_ints ∧ sd_in w ty_ints ∧ sd_in (rn_op k v w m).2.1 (ab_num k x y) := by
  rcases sd_op_some hr with ⟨z, _⟩ | ⟨_, a, b, r⟩
  · exact absurd z k6
  · obtain ⟨v1, v2, x0, xl, xh⟩ := sd_int hx a
    obtain ⟨w1, w2, y0, yl, yh⟩ := sd_int hy b
    refine ⟨x0, y0, sd_ints ⟨v1, v2⟩, sd_ints ⟨w1, w2⟩, ?_⟩
    rcases r with ⟨k5, e⟩ | ⟨k5, lo, hi, e⟩
    · subst k5
      rw [e]
      unfold ab_num
      rw [if_neg (show ¬ (5 : Int32) = 3 by decide), if_neg (show ¬ (5 : Int32) = 4 by decide)]
      by_cases c : v < w
      · rw [if_pos c]
        rw [Int32.lt_iff_toInt_lt] at c
        rw [if_pos (show ty_lv x.2.1 < ty_hv y.2.2 by omega)]
        refine sd_t ?_
        split <;> decide
      · rw [if_neg c]
        rw [Int32.lt_iff_toInt_lt] at c
        rw [if_pos (show ty_lv y.2.1 ≤ ty_hv x.2.2 by omega)]
        refine sd_f ?_
        split <;> decide
    · rw [e]
      rw [Int32.lt_iff_toInt_lt, sd_cm99] at lo
      rw [Int32.lt_iff_toInt_lt, sd_c99] at hi
      unfold ab_num
      rcases h with rfl | rfl | rfl
      · rw [if_pos rfl]
        have q : rn_ar 3 v w = v + w := if_pos rfl
        rw [q] at lo hi ⊢
        have s := sd_add v1 v2 w1 w2
        rw [s] at lo hi
        exact sd_range (by rw [s]; omega) (by rw [s]; omega) (by rw [s]; omega) (by rw [s]; omega)
      · rw [if_neg (show ¬ (4 : Int32) = 3 by decide), if_pos rfl]
        have q : rn_ar 4 v w = v - w := if_neg (by decide)
        rw [q] at lo hi ⊢
        have s := sd_sub v1 v2 w1 w2
        rw [s] at lo hi
        exact sd_range (by rw [s]; omega) (by rw [s]; omega) (by rw [s]; omega) (by rw [s]; omega)
      · exact absurd rfl k5
theorem sd_eq {v w : Int32} {x y : ty_T} (ox : ty_ok x) (oy : ty_ok y) (hx : sd_in v x) (hy : sd_in w y) : sd_in (if v = w then 1001 else 1000) ((if ty_meet x y = ty_0 then 1 else 3), 0, 0) := by
  by_cases c : v = w
  · subst c
    rw [if_pos rfl, if_neg (sd_ne (sd_meet ox oy hx hy))]
    exact sd_t (by decide)
  · rw [if_neg c]
    refine sd_f ?_
    split <;> decide
section
variable {N : Nat} {K A B : Nat → Nat → Int32} {st ar : Nat → Int32} {sz : Nat → Nat} {tb : Nat → ty_T}
theorem sd_fix (hN : N ≤ 8) (hfix : ∀ q, q < 24 → sp_step N K A B st ar sz tb q = tb q) {a k : Nat} {o : ty_T × ab_E} (ha : a < N) (hs : st a = 2) (hk : k ≤ 2) (ek : ar a = nI k)
    (ho : ab_ev (K a) (A a) (B a) st ar (sp_c K B a) tb 128 (sz a - 1) (ty_any, ty_any) = some o) : (1 ≤ k → tb (a * 3) = o.2.1) ∧ (2 ≤ k → tb (a * 3 + 1) = o.2.2) ∧ tb (a * 3 + 2) = o.1 := by
  have f0 := hfix (a * 3) (by omega)
  have f1 := hfix (a * 3 + 1) (by omega)
  have f2 := hfix (a * 3 + 2) (by omega)
  have so : sp_out K A B st ar sz tb a = some o := ho
  unfold sp_step at f0 f1 f2
  have d0 : a * 3 / 3 = a := by omega
  have d1 : (a * 3 + 1) / 3 = a := by omega
  have d2 : (a * 3 + 2) / 3 = a := by omega
  have m0 : a * 3 % 3 = 0 := by omega
  have m1 : (a * 3 + 1) % 3 = 1 := by omega
  have m2 : (a * 3 + 2) % 3 = 2 := by omega
  rw [d0, m0, so, if_pos ⟨by omega, hs⟩] at f0
  rw [d1, m1, so, if_pos ⟨by omega, hs⟩] at f1
  rw [d2, m2, so, if_pos ⟨by omega, hs⟩] at f2
  refine ⟨fun h => ?_, fun h => ?_, f2.symm⟩
  · have q : sp_fld (ar a) 0 (some o) = o.2.1 := by
      show (if 1 ≤ ar a then o.2.1 else ty_0) = _
      rw [ek, if_pos ((sd_k1 hk).mpr h)]
    rw [← f0, q]
  · have q : sp_fld (ar a) 1 (some o) = o.2.2 := by
      show (if 2 ≤ ar a then o.2.2 else ty_0) = _
      rw [ek, if_pos ((sd_k2 hk).mpr h)]
    rw [← f1, q]
end
section
variable (N : Nat) (K A B : Nat → Nat → Int32) (st ar : Nat → Int32) (sz : Nat → Nat) (tb : Nat → ty_T)
def sd_S (dr : Nat) : Prop := ∀ (fr g i m k : Nat) (x y : Int32), g < N → st g = 2 → i < sz g → k ≤ 2 → ar g = nI k → (rn_ev K A B st ar sz dr fr g i x y m).1 = -1 →
  ∀ (d : Nat) (e : ab_E), i < d → ab_eo k e → sd_env (nI k) x y e → ∃ o, ab_ev (K g) (A g) (B g) st ar (sp_c K B g) tb d i e = some o ∧ sd_in (rn_ev K A B st ar sz dr fr g i x y m).2.1 o.1 ∧ sd_env (nI k) x y o.2
end
section
variable {N : Nat} {K A B : Nat → Nat → Int32} {st ar : Nat → Int32} {sz : Nat → Nat} {tb : Nat → ty_T}
theorem sd_arg {k n p : Nat} {K A B : Nat → Int32} {c : Nat → Nat} {x y : Int32} {e : ab_E} (hb : ab_bd N k n K A B c) (hp : p < n) (hk : k ≤ 2) (h2 : K p = 2) (hs : sd_env (nI k) x y e) :
    sd_in (if A p = 0 then x else y) (if A p = 0 then e.1 else e.2) := by
  obtain ⟨j, hj, ej⟩ := ab_var hb hp h2
  by_cases c : A p = 0
  · rw [if_pos c, if_pos c]
    exact hs.1 ((sd_k1 hk).mpr (by omega))
  · rw [if_neg c, if_neg c]
    have : j ≠ 0 := fun z => c (by rw [ej, z]; rfl)
    exact hs.2 ((sd_k2 hk).mpr (by omega))
/-- what the branches begin with holds the arguments -/
theorem sd_th {dr fr g i m k : Nat} {x y : Int32} {t : ty_T} {e : ab_E} (hb : ab_bd N k (sz g) (K g) (A g) (B g) (sp_c K B g)) (hk : k ≤ 2) (hi : i < sz g) (h8 : K g i = 8) (ot : ty_ok t)
    (he : ab_eo k e) (hs : sd_env (nI k) x y e) (hr : (rn_ev K A B st ar sz dr fr g (bs_ch (sp_c K B g) i 0) x y m).1 = -1)
    (hv : ((rn_ev K A B st ar sz dr fr g (bs_ch (sp_c K B g) i 0) x y m).2.1 = 1001 ∧ t = ty_ints) ∨ ((rn_ev K A B st ar sz dr fr g (bs_ch (sp_c K B g) i 0) x y m).2.1 = 1000 ∧ t = ty_ats)) :
    sd_env (nI k) x y (ab_th (K g) (A g) (sp_c K B g) i t e) := by
  have c3 := ab_c8 hb h8
  have hc : bs_ch (sp_c K B g) i 0 < sz g := ab_ch hb hi (by omega)
  have one : sd_env (nI k) x y (ab_nv (K g) (A g) (bs_ch (sp_c K B g) i 0) ty_bool e) := by
    refine sd_nv ty_bool_ok he hs fun z => ?_
    rw [← sd_var z hr]
    rcases hv with ⟨v, _⟩ | ⟨v, _⟩
    · rw [v]; exact sd_t (by decide)
    · rw [v]; exact sd_f (by decide)
  have oe : ab_eo k (ab_nv (K g) (A g) (bs_ch (sp_c K B g) i 0) ty_bool e) := ab_nv_eo (ab_var hb hc) ty_bool_ok he
  unfold ab_th
  split
  · next h7 =>
    have c1 := ab_c7 hb h7
    have hcc : bs_ch (sp_c K B g) (bs_ch (sp_c K B g) i 0) 0 < sz g := ab_ch hb hc (by omega)
    refine sd_nv ot oe one fun z => ?_
    have val := sd_isv h7 z hr
    have okv := sd_ok (sd_arg hb hcc hk z hs)
    rcases hv with ⟨v, rfl⟩ | ⟨v, rfl⟩
    · rw [v] at val
      by_cases c : (if A g (bs_ch (sp_c K B g) (bs_ch (sp_c K B g) i 0) 0) = 0 then x else y) < 1000
      · rcases okv with o | o
        · exact sd_ints o
        · rw [Int32.lt_iff_toInt_lt, ty_k0] at c
          omega
      · rw [if_neg c] at val
        exact absurd val (by decide)
    · rw [v] at val
      by_cases c : (if A g (bs_ch (sp_c K B g) (bs_ch (sp_c K B g) i 0) 0) = 0 then x else y) < 1000
      · rw [if_pos c] at val
        exact absurd val (by decide)
      · exact sd_ats okv c
  · exact one
/-- what a call that gives a value says of the table -/
theorem sd_callee (hN : N ≤ 8) (hp : sp_ok N K A B st ar sz) (ht : ∀ q, ty_ok (tb q)) (hfix : ∀ q, q < 24 → sp_step N K A B st ar sz tb q = tb q) {dr fr g i m n k : Nat} {v w : Int32} (ih : sd_S N K A B st ar sz tb dr)
    (hb : ab_bd N k n (K g) (A g) (B g) (sp_c K B g)) (hi : i < n) (h9 : K g i = 9) (hr : (rn_call A B st ar sz (rn_ev K A B st ar sz dr) fr g i v w m).1 = -1) (hv : 1 ≤ B g i → rn_ok v) (hw : 2 ≤ B g i → rn_ok w) :
    ab_fits (A g) (B g) st ar i = true ∧ (1 ≤ B g i → sd_in v (tb ((A g i).toNatClampNeg * 3))) ∧ (2 ≤ B g i → sd_in w (tb ((A g i).toNatClampNeg * 3 + 1))) ∧
      sd_in (rn_call A B st ar sz (rn_ev K A B st ar sz dr) fr g i v w m).2.1 (tb ((A g i).toNatClampNeg * 3 + 2)) := by
  obtain ⟨a, ha, ea⟩ := (hb.1 i hi).2.2.2.2.1 h9
  have cl : (A g i).toNatClampNeg = a := by rw [ea]; exact nI_clamp (by omega)
  unfold rn_call at hr ⊢
  rw [cl] at hr ⊢
  by_cases s2 : st a = 2
  · rw [if_pos s2] at hr ⊢
    by_cases ab : ar a = B g i
    · rw [if_pos ab] at hr ⊢
      by_cases m2 : 200 ≤ m
      · rw [if_pos m2] at hr; exact absurd hr (show (2 : Int32) ≠ -1 by decide)
      · rw [if_neg m2] at hr ⊢
        by_cases f2 : 15 ≤ fr
        · rw [if_pos f2] at hr; exact absurd hr (show (2 : Int32) ≠ -1 by decide)
        · rw [if_neg f2] at hr ⊢
          obtain ⟨k', hk', ek', hz0, hz, hb'⟩ := hp a ha s2
          have eB : B g i = nI k' := by rw [← ab, ek']
          rw [eB] at hv hw
          obtain ⟨o, ho, vo, eo⟩ := ih (fr + 1) a (sz a - 1) (m + 1) k' v w ha s2 (by omega) hk' ek' hr 128 (ty_any, ty_any) (by omega) (sp_any_eo k') ⟨fun h => sd_any (hv h), fun h => sd_any (hw h)⟩
          obtain ⟨t0, t1, t2⟩ := sd_fix hN hfix ha s2 hk' ek' ho
          refine ⟨?_, ?_, ?_, ?_⟩
          · unfold ab_fits
            rw [cl, decide_eq_true s2, decide_eq_true ab]
            rfl
          · rw [eB]
            intro h
            rw [t0 ((sd_k1 hk').mp h)]
            exact eo.1 h
          · rw [eB]
            intro h
            rw [t1 ((sd_k2 hk').mp h)]
            exact eo.2 h
          · rw [t2]
            exact vo
    · rw [if_neg ab] at hr; exact absurd hr (show (1 : Int32) ≠ -1 by decide)
  · rw [if_neg s2] at hr; exact absurd hr (show (1 : Int32) ≠ -1 by decide)
end

section
variable {post : Int32 → Prop}
theorem xt_has {t : ty_T} (h : ty_ok t) (h0 : t.2.1 = 0 → post 0) (h1 : ¬ t.2.1 = 0 → post 1) : wpX_hasInts post () (ty_x t) :=
  br_c (fun z => h0 ((ty_xi0 h).mp z)) (fun z => h1 (fun e => z ((ty_xi0 h).mpr e)))
theorem xt_low {t : ty_T} (h : ty_ok t) (h0 : t.2.1 ≠ 0) (p : post (ty_lw t.2.1)) : wpX_lowOf post () (ty_x t) := by
  unfold wpX_lowOf; rw [ty_xlow h h0]; exact p
theorem xt_high {t : ty_T} (h : ty_ok t) (h0 : t.2.1 ≠ 0) (p : post (ty_hw t.2.2)) : wpX_highOf post () (ty_x t) := by
  unfold wpX_highOf; rw [ty_xhigh h h0]; exact p
/-- the fields that the component's meet chooses -/
theorem ty_xmeet {s t : ty_T} (hs : ty_ok s) (ht : ty_ok t) {L H : Nat} (hL : L = max (ty_L s.2.1) (ty_L t.2.1)) (hH : H = min (ty_H s.2.2) (ty_H t.2.2)) :
    (L ≤ H → nI (s.1 &&& t.1) ||| nI (256 * L) ||| nI (65536 * H) = ty_x (ty_meet s t)) ∧ (¬ L ≤ H → nI (s.1 &&& t.1) = ty_x (ty_meet s t)) := by
  have hm : s.1 &&& t.1 < 256 := Nat.and_lt_two_pow (n := 8) _ ht.1
  have s1 := ty_ok_l hs
  have s2 := ty_ok_h hs
  have t1 := ty_ok_l ht
  have t2 := ty_ok_h ht
  have s0 := ty_ok_0 hs
  have t0 := ty_ok_0 ht
  have z1 := ty_L_0 s1
  have z2 := ty_L_0 t1
  have z3 := @ty_H_0 s.2.2
  have z4 := @ty_H_0 t.2.2
  by_cases a : s.2.1 = 0
  · have e : ty_meet s t = (s.1 &&& t.1, 0, 0) := by unfold ty_meet; rw [if_pos (by omega)]
    rw [e]
    refine ⟨fun z => ?_, fun _ => rfl⟩
    have l0 : L = ty_L 0 := by
      have : ty_L 0 = 0 := rfl
      omega
    have h0 : H = ty_H 0 := by
      have : ty_H 0 = 0 := rfl
      omega
    rw [l0, h0]
    exact ty_x3 _ 0 0 hm (by decide)
  · by_cases b : t.2.1 = 0
    · have e : ty_meet s t = (s.1 &&& t.1, 0, 0) := by unfold ty_meet; rw [if_pos (by omega)]
      rw [e]
      refine ⟨fun z => ?_, fun _ => rfl⟩
      have l0 : L = ty_L 0 := by
        have : ty_L 0 = 0 := rfl
        omega
      have h0 : H = ty_H 0 := by
        have : ty_H 0 = 0 := rfl
        omega
      rw [l0, h0]
      exact ty_x3 _ 0 0 hm (by decide)
    · have q1 := ty_L_le s.2.1 (by omega) t.2.1 (by omega) (by omega) (by omega)
      have q2 := ty_H_le s.2.2 (by omega) t.2.2 (by omega) (by omega) (by omega)
      have q3 := ty_LH_le (min s.2.1 t.2.1) (by omega) (min s.2.2 t.2.2) (by omega) (by omega) (by omega)
      have eL : L = ty_L (min s.2.1 t.2.1) := by
        rw [hL]
        by_cases c : t.2.1 ≤ s.2.1
        · rw [Nat.min_eq_right c]; have := q1.mpr c; omega
        · rw [Nat.min_eq_left (by omega)]; have : ¬ ty_L s.2.1 ≤ ty_L t.2.1 := fun z => c (q1.mp z); omega
      have eH : H = ty_H (min s.2.2 t.2.2) := by
        rw [hH]
        by_cases c : s.2.2 ≤ t.2.2
        · rw [Nat.min_eq_left c]; have := q2.mpr c; omega
        · rw [Nat.min_eq_right (a := s.2.2) (b := t.2.2) (by omega)]; have : ¬ ty_H s.2.2 ≤ ty_H t.2.2 := fun z => c (q2.mp z); omega
      rw [eL, eH]
      refine ⟨fun z => ?_, fun z => ?_⟩
      · have : ty_meet s t = (s.1 &&& t.1, min s.2.1 t.2.1, min s.2.2 t.2.2) := by unfold ty_meet; rw [if_neg (by have := q3.mp z; omega)]
        rw [this]
        exact ty_x3 _ _ _ hm (by omega)
      · have : ty_meet s t = (s.1 &&& t.1, 0, 0) := by
          unfold ty_meet; rw [if_pos]
          exact Nat.lt_of_not_le fun y => z (q3.mpr y)
        rw [this]; rfl
theorem xt_meet {s t : ty_T} (hs : ty_ok s) (ht : ty_ok t) (h : post (ty_x (ty_meet s t))) : wpX_meet post () (ty_x s) (ty_x t) := by
  have bs := ty_L_lt s.2.1
  have bt := ty_L_lt t.2.1
  have cs := ty_H_lt (ty_ok_h hs)
  have ct := ty_H_lt (ty_ok_h ht)
  have fin : ∀ L H : Nat, L < 110 → H < 200 → L = max (ty_L s.2.1) (ty_L t.2.1) → H = min (ty_H s.2.2) (ty_H t.2.2) → wX_meet_53 post (nI (s.1 &&& t.1)) (nI (256 * L)) (nI (65536 * H)) := by
    intro L H l1 h1 eL eH
    obtain ⟨m1, m2⟩ := ty_xmeet hs ht eL eH
    unfold wX_meet_53
    rw [ty_sh8 (by omega), ty_sh16 (by omega), show 256 * L / 256 = L by omega, show 65536 * H / 65536 = H by omega]
    by_cases c : L ≤ H
    · exact br_t (nI_le c (by omega)) (br_t rfl (by rw [m1 c]; exact h))
    · exact br_f (nI_ge (by omega) (by omega)) (br_f (by decide) (by rw [m2 c]; exact h))
  have mid : ∀ L : Nat, L < 110 → L = max (ty_L s.2.1) (ty_L t.2.1) → wX_meet_30 post (ty_x s) (ty_x t) (nI (s.1 &&& t.1)) (nI (256 * L)) := by
    intro L l1 eL
    unfold wX_meet_30
    rw [ty_xh hs, ty_xh ht]
    by_cases c : ty_H t.2.2 ≤ ty_H s.2.2
    · exact br_t (nI_le (by omega) (by omega)) (fin L _ l1 ct eL (by omega))
    · exact br_f (nI_ge (by omega) (by omega)) (fin L _ l1 cs eL (by omega))
  unfold wpX_meet
  refine nm_r (ty_xand hs ht) ?_
  rw [ty_xl hs, ty_xl ht]
  by_cases c : ty_L s.2.1 ≤ ty_L t.2.1
  · exact br_t (nI_le (by omega) (by omega)) (mid _ bt (by omega))
  · exact br_f (nI_ge (by omega) (by omega)) (mid _ bs (by omega))
theorem ty_xjoin {s t : ty_T} (hs : ty_ok s) (ht : ty_ok t) (s0 : s.2.1 ≠ 0) (t0 : t.2.1 ≠ 0) {L H : Nat} (hL : L = min (ty_L s.2.1) (ty_L t.2.1)) (hH : H = max (ty_H s.2.2) (ty_H t.2.2)) :
    nI (s.1 ||| t.1) ||| nI (256 * L) ||| nI (65536 * H) = ty_x (ty_join s t) := by
  have hm : s.1 ||| t.1 < 256 := Nat.or_lt_two_pow (n := 8) hs.1 ht.1
  have s1 := ty_ok_l hs
  have s2 := ty_ok_h hs
  have t1 := ty_ok_l ht
  have t2 := ty_ok_h ht
  have u0 := ty_ok_0 hs
  have v0 := ty_ok_0 ht
  have q1 := ty_L_le s.2.1 (by omega) t.2.1 (by omega) (by omega) (by omega)
  have q2 := ty_H_le s.2.2 (by omega) t.2.2 (by omega) (by omega) (by omega)
  have eL : L = ty_L (max s.2.1 t.2.1) := by
    rw [hL]
    by_cases c : t.2.1 ≤ s.2.1
    · rw [Nat.max_eq_left c]; have := q1.mpr c; omega
    · rw [Nat.max_eq_right (by omega)]; have : ¬ ty_L s.2.1 ≤ ty_L t.2.1 := fun z => c (q1.mp z); omega
  have eH : H = ty_H (max s.2.2 t.2.2) := by
    rw [hH]
    by_cases c : s.2.2 ≤ t.2.2
    · rw [Nat.max_eq_right c]; have := q2.mpr c; omega
    · rw [Nat.max_eq_left (a := s.2.2) (b := t.2.2) (by omega)]; have : ¬ ty_H s.2.2 ≤ ty_H t.2.2 := fun z => c (q2.mp z); omega
  rw [eL, eH]
  exact ty_x3 _ _ _ hm (by omega)
theorem ty_join_s0 {s t : ty_T} (hs : ty_ok s) (s0 : s.2.1 = 0) : ty_join s t = (s.1 ||| t.1, t.2.1, t.2.2) := by
  have := (ty_ok_0 hs).mp s0
  unfold ty_join
  rw [s0, this, Nat.zero_max, Nat.zero_max]
theorem ty_join_t0 {s t : ty_T} (ht : ty_ok t) (t0 : t.2.1 = 0) : ty_join s t = (s.1 ||| t.1, s.2.1, s.2.2) := by
  have := (ty_ok_0 ht).mp t0
  unfold ty_join
  rw [t0, this, Nat.max_zero, Nat.max_zero]
theorem xt_join {s t : ty_T} (hs : ty_ok s) (ht : ty_ok t) (h : post (ty_x (ty_join s t))) : wpX_join post () (ty_x s) (ty_x t) := by
  have hm : s.1 ||| t.1 < 256 := Nat.or_lt_two_pow (n := 8) hs.1 ht.1
  have bs := ty_L_lt s.2.1
  have bt := ty_L_lt t.2.1
  have cs := ty_H_lt (ty_ok_h hs)
  have ct := ty_H_lt (ty_ok_h ht)
  unfold wpX_join
  refine nm_r (ty_xor hs ht) ?_
  refine xt_has hs (fun s0 => br_t rfl ?_) (fun s0 => br_f (by decide) ?_)
  · rw [ty_xi ht, ty_x2' _ _ _ hm (ty_ok_h ht), ← ty_join_s0 hs s0]; exact h
  · refine xt_has ht (fun t0 => br_t rfl ?_) (fun t0 => br_f (by decide) ?_)
    · rw [ty_xi hs, ty_x2' _ _ _ hm (ty_ok_h hs), ← ty_join_t0 ht t0]; exact h
    · have mid : ∀ L : Nat, L = min (ty_L s.2.1) (ty_L t.2.1) → wX_join_58 post (ty_x s) (ty_x t) (nI (s.1 ||| t.1)) (nI (256 * L)) := by
        intro L eL
        unfold wX_join_58
        rw [ty_xh hs, ty_xh ht]
        by_cases c : ty_H s.2.2 ≤ ty_H t.2.2
        · exact br_t (nI_le (by omega) (by omega)) (nm_e (by rw [ty_xjoin hs ht s0 t0 eL (H := ty_H t.2.2) (by omega)]; exact h))
        · exact br_f (nI_ge (by omega) (by omega)) (nm_e (by rw [ty_xjoin hs ht s0 t0 eL (H := ty_H s.2.2) (by omega)]; exact h))
      rw [ty_xl hs, ty_xl ht]
      by_cases c : ty_L t.2.1 ≤ ty_L s.2.1
      · exact br_t (nI_le (by omega) (by omega)) (mid _ (by omega))
      · exact br_f (nI_ge (by omega) (by omega)) (mid _ (by omega))
theorem xt_r54 {x2 x3 : Int32} (h : post (((x2 + 100) <<< ((8 : Int32) &&& 31)) ||| ((ty_rw x3 + 100) <<< ((16 : Int32) &&& 31)))) : wX_rangeType_54 post x2 x3 := by
  unfold ty_rw at h
  unfold wX_rangeType_54
  by_cases a : x3 ≤ 8
  · rw [if_pos a] at h
    by_cases b : -8 ≤ x3
    · rw [if_pos b] at h; exact br_t a (br_t b h)
    · rw [if_neg b] at h; exact br_t a (br_f b h)
  · rw [if_neg a] at h; exact br_f a h
theorem xt_r25 {x2 x3 : Int32} (hl : x2 ≤ x3) (h : post (((ty_rz x2 + 100) <<< ((8 : Int32) &&& 31)) ||| ((ty_rw x3 + 100) <<< ((16 : Int32) &&& 31)))) : wX_rangeType_25 post x2 x3 := by
  unfold ty_rz at h
  unfold wX_rangeType_25
  refine br_t hl ?_
  by_cases b : -8 ≤ x2
  · rw [if_pos b] at h
    by_cases a : x2 ≤ 8
    · rw [if_pos a] at h; exact br_t b (br_t a (xt_r54 h))
    · rw [if_neg a] at h; exact br_t b (br_f a (xt_r54 h))
  · rw [if_neg b] at h; exact br_f b (xt_r54 h)
theorem ty_m99 : (-99 : Int32).toInt = -99 := by decide
theorem ty_p99 : (99 : Int32).toInt = 99 := by decide
theorem ty_rz_c {a : Int32} (h : ¬ -99 ≤ a) : ty_rz (-99) = ty_rz a := by
  rw [Int32.le_iff_toInt_le, ty_m99] at h
  unfold ty_rz
  rw [if_neg (show ¬ (-8 : Int32) ≤ -99 by decide), if_neg]
  rw [Int32.le_iff_toInt_le, ty_n8]
  omega
theorem ty_rw_c {a : Int32} (h : ¬ a ≤ 99) : ty_rw 99 = ty_rw a := by
  rw [Int32.le_iff_toInt_le, ty_p99] at h
  unfold ty_rw
  rw [if_neg (show ¬ (99 : Int32) ≤ 8 by decide), if_neg]
  rw [Int32.le_iff_toInt_le, ty_p8]
  omega
theorem ty_xr (a b : Int32) : ((ty_rz a + 100) <<< ((8 : Int32) &&& 31)) ||| ((ty_rw b + 100) <<< ((16 : Int32) &&& 31)) = ty_x (0, ty_rl a.toInt, ty_rh b.toInt) := by
  have i1 := ty_rl_in a.toInt
  have i2 := ty_rh_in b.toInt
  have h1 := ty_L_lt (ty_rl a.toInt)
  have h2 := ty_H_lt (h := ty_rh b.toInt) (by omega)
  rw [ty_rz_lw, ty_rw_hw, ty_lw_a _ (by omega) (by omega), ty_hw_a _ (by omega) (by omega), ty_sl8 (by omega), ty_sl16 (by omega)]
  exact ty_x2 _ _ (by omega)
theorem xt_range {a b : Int32} (hab : a.toInt ≤ b.toInt) (ha : a.toInt ≤ 99) (hb : -99 ≤ b.toInt) (h : post (ty_x (0, ty_rl a.toInt, ty_rh b.toInt))) : wpX_rangeType post () a b := by
  rw [← ty_xr] at h
  unfold wpX_rangeType
  by_cases c : -99 ≤ a
  · refine br_t c ?_
    unfold wX_rangeType_12
    by_cases e : b ≤ 99
    · exact br_t e (xt_r25 (Int32.le_iff_toInt_le.mpr hab) h)
    · rw [← ty_rw_c e] at h
      exact br_f e (xt_r25 (by rw [Int32.le_iff_toInt_le, ty_p99]; exact ha) h)
  · refine br_f c ?_
    rw [← ty_rz_c c] at h
    unfold wX_rangeType_12
    by_cases e : b ≤ 99
    · exact br_t e (xt_r25 (by rw [Int32.le_iff_toInt_le, ty_m99]; exact hb) h)
    · rw [← ty_rw_c e] at h
      exact br_f e (xt_r25 (by decide) h)
theorem xt_isInt {v : Int32} (h1 : -99 ≤ v.toInt → v.toInt ≤ 99 → post 1) (h0 : ¬ (-99 ≤ v.toInt ∧ v.toInt ≤ 99) → post 0) : wpX_isInteger post () v := by
  unfold wpX_isInteger
  by_cases a : v < -99
  · refine br_t a (h0 fun z => ?_)
    rw [Int32.lt_iff_toInt_lt, ty_m99] at a; omega
  · refine br_f a ?_
    by_cases b : 99 < v
    · refine br_t b (h0 fun z => ?_)
      rw [Int32.lt_iff_toInt_lt, ty_p99] at b; omega
    · refine br_f b ?_
      rw [Int32.lt_iff_toInt_lt, ty_m99] at a
      rw [Int32.lt_iff_toInt_lt, ty_p99] at b
      exact h1 (by omega) (by omega)
theorem ty_k0 : (1000 : Int32).toInt = 1000 := by decide
theorem ty_k7 : (1007 : Int32).toInt = 1007 := by decide
theorem xt_isAtom {v : Int32} (h1 : 1000 ≤ v.toInt → v.toInt ≤ 1007 → post 1) (h0 : ¬ (1000 ≤ v.toInt ∧ v.toInt ≤ 1007) → post 0) : wpX_isAtom post () v := by
  unfold wpX_isAtom
  by_cases a : v < 1000
  · refine br_t a (h0 fun z => ?_)
    rw [Int32.lt_iff_toInt_lt, ty_k0] at a; omega
  · refine br_f a ?_
    by_cases b : 1007 < v
    · refine br_t b (h0 fun z => ?_)
      rw [Int32.lt_iff_toInt_lt, ty_k7] at b; omega
    · refine br_f b ?_
      rw [Int32.lt_iff_toInt_lt, ty_k0] at a
      rw [Int32.lt_iff_toInt_lt, ty_k7] at b
      exact h1 (by omega) (by omega)
theorem xt_isValue {v : Int32} (h1 : rn_ok v → post 1) (h0 : ¬ rn_ok v → post 0) : wpX_isValue post () v := by
  unfold wpX_isValue
  refine xt_isInt (fun a b => br_f (by decide) (h1 (Or.inl ⟨a, b⟩))) (fun n => br_t rfl ?_)
  refine xt_isAtom (fun a b => br_f (by decide) (h1 (Or.inr ⟨a, b⟩))) (fun m => br_t rfl (h0 fun z => ?_))
  exact z.elim n m
end

def yc_q (post : SY → Prop) (f t fuel : Nat) : SY → Prop := fun u => match u with
  | (f_n, f_cap, f_ana, f_res, f_anyT, f_intsT, f_wp, f_vp, f_made, f_active, f_xp, f_curK, f_rBot, f_rR, f_rE0, f_rE1, a_st, a_ar, a_size, a_bk, a_ba, a_bb, a_ds, a_tab, a_nxt, a_wN, a_wS, a_wF, a_vs, a_frS, a_frP0, a_frP1, a_xN, a_xS, a_xE0, a_xE1, a_xA, a_xB, a_xC, a_xD, a_xE, a_xF, a_xG) => ∀ x : Int32, x = nI t + 1 → wY_absEval_53 post (nI f) fuel x f_n f_cap f_ana f_res f_anyT f_intsT f_wp f_vp f_made f_active f_xp f_curK f_rBot f_rR f_rE0 f_rE1 a_st a_ar a_size a_bk a_ba a_bb a_ds a_tab a_nxt a_wN a_wS a_wF a_vs a_frS a_frP0 a_frP1 a_xN a_xS a_xE0 a_xE1 a_xA a_xB a_xC a_xD a_xE a_xF a_xG
section
variable {f_n f_cap f_ana f_res f_anyT f_intsT f_wp f_vp f_made f_active f_xp f_curK f_rBot f_rR f_rE0 f_rE1 : Int32} {a_st a_ar a_size a_bk a_ba a_bb a_ds a_tab a_nxt a_wN a_wS a_wF a_vs a_frS a_frP0 a_frP1 a_xN a_xS a_xE0 a_xE1 a_xA a_xB a_xC a_xD a_xE a_xF a_xG : Nat → Int32} {N k n f : Nat} {post : SY → Prop}
/-- the reference's narrowing of a parameter that a child names -/
theorem yn_nar {C : Int32 → Int32 → Prop} {i j : Nat} (hb : ab_bd N k n (rl_K a_bk f) (rl_K a_ba f) (rl_K a_bb f) (rl_c (rl_K a_bk f) (rl_K a_bb f))) (hf : f < 8) (hn : n ≤ 128) (hi : i < n) (hj : j < (rl_c (rl_K a_bk f) (rl_K a_bb f)) i) {e : ab_E} {q : ty_T} (he : xa_e e) (oq : ty_ok q)
    (H : C (ty_y (ab_nv (rl_K a_bk f) (rl_K a_ba f) (bs_ch (rl_c (rl_K a_bk f) (rl_K a_bb f)) i j) q e).1) (ty_y (ab_nv (rl_K a_bk f) (rl_K a_ba f) (bs_ch (rl_c (rl_K a_bk f) (rl_K a_bb f)) i j) q e).2)) :
    wpY_childPos (fun r => wpY_kindAt (fun κ => ((κ = 2 → wpY_opA (fun a => ((a = 0 → wpY_meet (fun s => C s (ty_y e.2)) (f_n, f_cap, f_ana, f_res, f_anyT, f_intsT, f_wp, f_vp, f_made, f_active, f_xp, f_curK, f_rBot, f_rR, f_rE0, f_rE1, a_st, a_ar, a_size, a_bk, a_ba, a_bb, a_ds, a_tab, a_nxt, a_wN, a_wS, a_wF, a_vs, a_frS, a_frP0, a_frP1, a_xN, a_xS, a_xE0, a_xE1, a_xA, a_xB, a_xC, a_xD, a_xE, a_xF, a_xG) (ty_y e.1) (ty_y q)) ∧ (¬ a = 0 → wpY_meet (fun s => C (ty_y e.1) s) (f_n, f_cap, f_ana, f_res, f_anyT, f_intsT, f_wp, f_vp, f_made, f_active, f_xp, f_curK, f_rBot, f_rR, f_rE0, f_rE1, a_st, a_ar, a_size, a_bk, a_ba, a_bb, a_ds, a_tab, a_nxt, a_wN, a_wS, a_wF, a_vs, a_frS, a_frP0, a_frP1, a_xN, a_xS, a_xE0, a_xE1, a_xA, a_xB, a_xC, a_xD, a_xE, a_xF, a_xG) (ty_y e.2) (ty_y q)))) (f_n, f_cap, f_ana, f_res, f_anyT, f_intsT, f_wp, f_vp, f_made, f_active, f_xp, f_curK, f_rBot, f_rR, f_rE0, f_rE1, a_st, a_ar, a_size, a_bk, a_ba, a_bb, a_ds, a_tab, a_nxt, a_wN, a_wS, a_wF, a_vs, a_frS, a_frP0, a_frP1, a_xN, a_xS, a_xE0, a_xE1, a_xA, a_xB, a_xC, a_xD, a_xE, a_xF, a_xG) (nI f) r) ∧ (¬ κ = 2 → C (ty_y e.1) (ty_y e.2)))) (f_n, f_cap, f_ana, f_res, f_anyT, f_intsT, f_wp, f_vp, f_made, f_active, f_xp, f_curK, f_rBot, f_rR, f_rE0, f_rE1, a_st, a_ar, a_size, a_bk, a_ba, a_bb, a_ds, a_tab, a_nxt, a_wN, a_wS, a_wF, a_vs, a_frS, a_frP0, a_frP1, a_xN, a_xS, a_xE0, a_xE1, a_xA, a_xB, a_xC, a_xD, a_xE, a_xF, a_xG) (nI f) r) (f_n, f_cap, f_ana, f_res, f_anyT, f_intsT, f_wp, f_vp, f_made, f_active, f_xp, f_curK, f_rBot, f_rR, f_rE0, f_rE1, a_st, a_ar, a_size, a_bk, a_ba, a_bb, a_ds, a_tab, a_nxt, a_wN, a_wS, a_wF, a_vs, a_frS, a_frP0, a_frP1, a_xN, a_xS, a_xE0, a_xE1, a_xA, a_xB, a_xC, a_xD, a_xE, a_xF, a_xG) (nI f) (nI i) (nI j) := by
  have lt := bs_ch_lt hb.2.2 hi hj
  refine yk_cp hf hn hb hi hj (yk_kind hf (by omega) ?_)
  unfold ab_nv at H
  by_cases z : rl_K a_bk f (bs_ch (rl_c (rl_K a_bk f) (rl_K a_bb f)) i j) = 2
  · rw [if_pos z] at H
    refine br_t z (yk_opA hf (by omega) ?_)
    by_cases y : rl_K a_ba f (bs_ch (rl_c (rl_K a_bk f) (rl_K a_bb f)) i j) = 0
    · rw [if_pos y] at H
      exact br_t y (yt_meet he.1 oq H)
    · rw [if_neg y] at H
      exact br_f y (yt_meet he.2 oq H)
  · rw [if_neg z] at H
    exact br_f z H
theorem xa_eo_xe {k : Nat} {e : ab_E} (h : ab_eo k e) : xa_e e := ⟨h.1, h.2.1⟩
theorem yo_400 {Q : SY → Prop} {κ : Int32} {x y : ty_T} {e : ab_E} (hk2 : k ≤ 2) (ox : ty_ok x) (oy : ty_ok y) (x0 : ¬ x.2.1 = 0) (y0 : ¬ y.2.1 = 0) (he : ab_eo k e) (hK : κ = 3 ∨ κ = 4 ∨ κ = 5)
    (H : ya_k (fun b r e0 e1 => Q (f_n, f_cap, f_ana, f_res, f_anyT, f_intsT, f_wp, f_vp, f_made, f_active, f_xp, nI k, b, r, e0, e1, a_st, a_ar, a_size, a_bk, a_ba, a_bb, a_ds, a_tab, a_nxt, a_wN, a_wS, a_wF, a_vs, a_frS, a_frP0, a_frP1, a_xN, a_xS, a_xE0, a_xE1, a_xA, a_xB, a_xC, a_xD, a_xE, a_xF, a_xG)) (ab_fin (ab_num κ x y) e)) : wY_stepOp_400 Q κ (ty_y x) (ty_y y) (ty_y e.1) (ty_y e.2) f_n f_cap f_ana f_res f_anyT f_intsT f_wp f_vp f_made f_active f_xp (nI k) f_rBot f_rR f_rE0 f_rE1 a_st a_ar a_size a_bk a_ba a_bb a_ds a_tab a_nxt a_wN a_wS a_wF a_vs a_frS a_frP0 a_frP1 a_xN a_xS a_xE0 a_xE1 a_xA a_xB a_xC a_xD a_xE a_xF a_xG := by
  have x1 := ty_ok_l ox
  have x2 := ty_ok_h ox
  have y1 := ty_ok_l oy
  have y2 := ty_ok_h oy
  have u0 := ty_ok_0 ox
  have v0 := ty_ok_0 oy
  have ex := ty_lh ox x0
  have ey := ty_lh oy y0
  have b1 := ty_lv_8 (l := x.2.1) (by omega)
  have b2 := ty_lv_8 (l := y.2.1) (by omega)
  have b3 := ty_hv_8 (l := x.2.2) (by omega)
  have b4 := ty_hv_8 (l := y.2.2) (by omega)
  have nok := ab_num_ok (k := κ) ox oy x0 y0
  have fin : ∀ r : Int32, r = ty_y (ab_num κ x y) → wY_stepOp_527 Q (ty_y e.1) (ty_y e.2) r f_n f_cap f_ana f_res f_anyT f_intsT f_wp f_vp f_made f_active f_xp (nI k) f_rBot f_rR f_rE0 f_rE1 a_st a_ar a_size a_bk a_ba a_bb a_ds a_tab a_nxt a_wN a_wS a_wF a_vs a_frS a_frP0 a_frP1 a_xN a_xS a_xE0 a_xE1 a_xA a_xB a_xC a_xD a_xE a_xF a_xG := by
    intro r er
    rw [er]
    exact yc_set hk2 nok he H
  rcases hK with k3 | k4 | k5
  · have e1 := ty_lw_add x.2.1 (by omega) y.2.1 (by omega)
    have e2 := ty_hw_add x.2.2 (by omega) y.2.2 (by omega)
    have en : ab_num κ x y = (0, ty_rl (ty_lv x.2.1 + ty_lv y.2.1), ty_rh (ty_hv x.2.2 + ty_hv y.2.2)) := by unfold ab_num; rw [if_pos k3]
    rw [en, ← e1, ← e2] at fin
    subst k3
    refine br_t rfl (yt_lo ox x0 (yt_lo oy y0 (yt_hi ox x0 (yt_hi oy y0 (yt_range (by omega) (by omega) (by omega) ?_)))))
    exact br_f (by decide) (br_f (by decide) (fin _ rfl))
  · have e1 := ty_lh_sub x.2.1 (by omega) y.2.2 (by omega)
    have e2 := ty_hl_sub x.2.2 (by omega) y.2.1 (by omega)
    have en : ab_num κ x y = (0, ty_rl (ty_lv x.2.1 - ty_hv y.2.2), ty_rh (ty_hv x.2.2 - ty_lv y.2.1)) := by unfold ab_num; rw [if_neg (by rw [k4]; decide), if_pos k4]
    rw [en, ← e1, ← e2] at fin
    subst k4
    refine br_f (by decide) (br_t rfl (yt_lo ox x0 (yt_hi oy y0 (yt_hi ox x0 (yt_lo oy y0 (yt_range (by omega) (by omega) (by omega) ?_))))))
    exact br_f (by decide) (fin _ rfl)
  · have en : ab_num κ x y = ((if ty_lv x.2.1 < ty_hv y.2.2 then 2 else 0) + (if ty_lv y.2.1 ≤ ty_hv x.2.2 then 1 else 0), 0, 0) := by unfold ab_num; rw [if_neg (by rw [k5]; decide), if_neg (by rw [k5]; decide)]
    rw [en] at fin
    subst k5
    have t1 := ty_lw_t x.2.1 (by omega)
    have t2 := ty_hw_t x.2.2 (by omega)
    have t3 := ty_lw_t y.2.1 (by omega)
    have t4 := ty_hw_t y.2.2 (by omega)
    refine br_f (by decide) (br_f (by decide) (br_t rfl (yt_lo ox x0 (yt_hi oy y0 ?_))))
    by_cases c : ty_hw y.2.2 ≤ ty_lw x.2.1
    · have c' := c
      rw [Int32.le_iff_toInt_le, t1, t4] at c'
      rw [if_neg (by omega)] at fin
      refine br_t c (yt_hi ox x0 (yt_lo oy y0 ?_))
      by_cases d : ty_hw x.2.2 < ty_lw y.2.1
      · have d' := d
        rw [Int32.lt_iff_toInt_lt, t2, t3] at d'
        rw [if_neg (by omega)] at fin
        exact br_t d (fin 0 rfl)
      · have d' := d
        rw [Int32.lt_iff_toInt_lt, t2, t3] at d'
        rw [if_pos (by omega)] at fin
        exact br_f d (nm_r (e' := 1) (by decide) (fin 1 rfl))
    · have c' := c
      rw [Int32.le_iff_toInt_le, t1, t4] at c'
      rw [if_pos (by omega)] at fin
      refine br_f c (nm_r (e' := 2) (by decide) (yt_hi ox x0 (yt_lo oy y0 ?_)))
      by_cases d : ty_hw x.2.2 < ty_lw y.2.1
      · have d' := d
        rw [Int32.lt_iff_toInt_lt, t2, t3] at d'
        rw [if_neg (by omega)] at fin
        exact br_t d (fin 2 rfl)
      · have d' := d
        rw [Int32.lt_iff_toInt_lt, t2, t3] at d'
        rw [if_pos (by omega)] at fin
        exact br_f d (nm_r (e' := 3) (by decide) (fin 3 rfl))
theorem yo_op2 {Q : SY → Prop} {p i : Nat} {Z : Nat → Nat → Int32} {κ : Int32} {x y : ty_T} {e : ab_E} (hb : ab_bd N k n (rl_K a_bk f) (rl_K a_ba f) (rl_K a_bb f) (rl_c (rl_K a_bk f) (rl_K a_bb f))) (hk2 : k ≤ 2) (hf : f < 8) (hn : n ≤ 128) (hp : p < 16) (hi : i < n) (hc : (rl_c (rl_K a_bk f) (rl_K a_bb f)) i = 2) (eκ : rl_K a_bk f i = κ) (hK : κ = 3 ∨ κ = 4 ∨ κ = 5 ∨ κ = 6) (h4 : Z 4 p = ty_y x)
    (ox : ty_ok x) (oy : ty_ok y) (he : ab_eo k e) (hi0 : f_intsT = ty_y ty_ints)
    (H : ya_k (fun b r e0 e1 => Q (f_n, f_cap, f_ana, f_res, f_anyT, f_intsT, f_wp, f_vp, f_made, f_active, nI p, nI k, b, r, e0, e1, a_st, a_ar, a_size, a_bk, a_ba, a_bb, a_ds, a_tab, a_nxt, a_wN, a_wS, a_wF, a_vs, a_frS, a_frP0, a_frP1, Z 0, Z 1, Z 2, Z 3, Z 4, Z 5, Z 6, Z 7, Z 8, Z 9, Z 10)) (ab_opf (rl_K a_bk f) (rl_K a_ba f) (rl_c (rl_K a_bk f) (rl_K a_bb f)) i x y e)) :
    wpY_stepOp Q (f_n, f_cap, f_ana, f_res, f_anyT, f_intsT, f_wp, f_vp, f_made, f_active, nI (p + 1), nI k, 0, ty_y y, ty_y e.1, ty_y e.2, a_st, a_ar, a_size, a_bk, a_ba, a_bb, a_ds, a_tab, a_nxt, a_wN, a_wS, a_wF, a_vs, a_frS, a_frP0, a_frP1, Z 0, Z 1, Z 2, Z 3, Z 4, Z 5, Z 6, Z 7, Z 8, Z 9, Z 10) (nI f) (nI p) (nI i) 2 κ := by
  have w : vp_in (nI p) 16 := vp_in_nI (by omega) (by decide)
  have cp : (nI p).toNatClampNeg = p := nI_clamp (by omega)
  have n7 : ¬ κ = 7 := by rcases hK with h | h | h | h <;> rw [h] <;> decide
  have l0 := bs_ch_lt hb.2.2 hi (k := 0) (by omega)
  have l1 := bs_ch_lt hb.2.2 hi (k := 1) (by omega)
  have xe := xa_eo_xe he
  subst hi0
  unfold wpY_stepOp
  dsimp only
  refine br_f n7 (br_f (by decide) (br_f (by decide) (br_f (by decide) (br_f (by decide) (nm_r (nI_pred p) (br_f n7 ⟨w, nm_r (e' := ty_y x) (by rw [cp]; exact h4) ?_⟩))))))
  unfold ab_opf at H
  by_cases k6 : κ = 6
  · rw [if_pos (eκ.trans k6)] at H
    have fin : ∀ m : Nat, m < 256 → m = (if ty_meet x y = ty_0 then 1 else 3) → wY_stepOp_249 Q (ty_y e.1) (ty_y e.2) (nI m) f_n f_cap f_ana f_res f_anyT (ty_y ty_ints) f_wp f_vp f_made f_active (nI p) (nI k) 0 (ty_y y) (ty_y e.1) (ty_y e.2) a_st a_ar a_size a_bk a_ba a_bb a_ds a_tab a_nxt a_wN a_wS a_wF a_vs a_frS a_frP0 a_frP1 (Z 0) (Z 1) (Z 2) (Z 3) (Z 4) (Z 5) (Z 6) (Z 7) (Z 8) (Z 9) (Z 10) := by
      intro m hm em
      rw [← em] at H
      exact yc_set (r := (m, 0, 0)) hk2 (ab_lit_ok hm) he H
    refine br_t k6 (yt_meet ox oy ?_)
    by_cases z : ty_meet x y = ty_0
    · exact br_t ((ty_y_0 (ty_meet_ok ox oy)).mpr z) (fin 1 (by decide) (by rw [if_pos z]))
    · exact br_f (fun q => z ((ty_y_0 (ty_meet_ok ox oy)).mp q)) (fin 3 (by decide) (by rw [if_neg z]))
  · rw [if_neg (fun z => k6 (eκ.symm.trans z)), eκ] at H
    refine br_f k6 ?_
    refine yt_has ox (fun x0 => br_t rfl ?_) (fun x0 => br_f (by decide) ?_)
    · rw [if_pos (Or.inl x0)] at H; exact H _ _ _
    · refine yt_has oy (fun y0 => br_t rfl ?_) (fun y0 => br_f (by decide) ?_)
      · rw [if_pos (Or.inr y0)] at H; exact H _ _ _
      · rw [if_neg (fun z => z.elim x0 y0)] at H
        refine yn_nar (C := fun a b => wY_stepOp_343 Q (nI f) (nI i) κ (ty_y x) (ty_y y) a b f_n f_cap f_ana f_res f_anyT (ty_y ty_ints) f_wp f_vp f_made f_active (nI p) (nI k) 0 (ty_y y) (ty_y e.1) (ty_y e.2) a_st a_ar a_size a_bk a_ba a_bb a_ds a_tab a_nxt a_wN a_wS a_wF a_vs a_frS a_frP0 a_frP1 (Z 0) (Z 1) (Z 2) (Z 3) (Z 4) (Z 5) (Z 6) (Z 7) (Z 8) (Z 9) (Z 10)) (j := 0) hb hf hn hi (by omega) xe ty_ints_ok ?_
        refine yn_nar (C := fun a b => wY_stepOp_400 Q κ (ty_y x) (ty_y y) a b f_n f_cap f_ana f_res f_anyT (ty_y ty_ints) f_wp f_vp f_made f_active (nI p) (nI k) 0 (ty_y y) (ty_y e.1) (ty_y e.2) a_st a_ar a_size a_bk a_ba a_bb a_ds a_tab a_nxt a_wN a_wS a_wF a_vs a_frS a_frP0 a_frP1 (Z 0) (Z 1) (Z 2) (Z 3) (Z 4) (Z 5) (Z 6) (Z 7) (Z 8) (Z 9) (Z 10)) (j := 1) hb hf hn hi (by omega) (xa_nv_e ty_ints_ok xe) ty_ints_ok ?_
        exact yo_400 hk2 ox oy x0 y0 (ab_nv_eo (ab_var hb (by omega)) ty_ints_ok (ab_nv_eo (ab_var hb (by omega)) ty_ints_ok he)) (by rcases hK with h | h | h | h; exact Or.inl h; exact Or.inr (Or.inl h); exact Or.inr (Or.inr h); exact absurd h k6) H
theorem yr_6 (hb : ab_bd N k n (rl_K a_bk f) (rl_K a_ba f) (rl_K a_bb f) (rl_c (rl_K a_bk f) (rl_K a_bb f))) (hk2 : k ≤ 2) (hf : f < 8) (hn : n ≤ 128) (hi0 : f_intsT = ty_y ty_ints) : ya_R6 k n (rl_K a_bk f) (rl_K a_ba f) (rl_c (rl_K a_bk f) (rl_K a_bb f)) (yc_A post f f_n f_cap f_ana f_res f_anyT f_intsT f_wp f_vp f_made f_active f_xp (nI k) f_rBot f_rR f_rE0 f_rE1 a_st a_ar a_size a_bk a_ba a_bb a_ds a_tab a_nxt a_wN a_wS a_wF a_vs a_frS a_frP0 a_frP1 a_xN a_xS a_xE0 a_xE1 a_xA a_xB a_xC a_xD a_xE a_xF a_xG) := by
  intro t p Z i x y e ht hp hi h0 h1 hK h4 ox oy he hk fuel hfu
  obtain ⟨fuel, rfl⟩ : ∃ m, fuel = m + 1 := ⟨fuel - 1, by omega⟩
  have w : vp_in (nI p) 16 := vp_in_nI (by omega) (by decide)
  have cp : (nI p).toNatClampNeg = p := nI_clamp (by omega)
  have wi : vp_in (nI (f * 128 + i)) 1024 := vp_in_nI (by omega) (by decide)
  have ci : (nI (f * 128 + i)).toNatClampNeg = f * 128 + i := nI_clamp (by omega)
  have hc : (rl_c (rl_K a_bk f) (rl_K a_bb f)) i = 2 := by
    show bs_cc (rl_K a_bk f i) (rl_K a_bb f i) = 2
    rcases hK with h | h | h | h <;> rw [h]
    · exact bs_cc3 _
    · exact bs_cc4 _
    · exact bs_cc5 _
    · exact bs_cc6 _
  have go := yo_op2 (Q := yc_q post f t fuel) (p := p) (Z := Z) hb hk2 hf hn hp hi hc rfl hK h4 ox oy he hi0 (ya_k_imp (fun b r e0 e1 h => nm_r (nI_1 t) (h fuel (by omega))) hk)
  rcases hK with hK | hK | hK | hK <;> rw [hK] at go
  · exact br_f (nI_ge (b := 4096) ht (by decide)) (br_f (nI_nle (Nat.succ_pos p) (by omega)) (nm_r (e' := nI p) (yc_top hp) ⟨w, nm_r (e' := nI i) (by rw [cp]; exact h0) ⟨w, nm_r (e' := 2) (by rw [cp]; exact h1) (nm_r (yk_ix hf (by omega)) ⟨wi, nm_r (e' := 3) (by rw [ci]; exact hK) ⟨wi, nm_r (e' := rl_K a_ba f i) (by rw [ci]; rfl) (br_f (by decide) (br_f (by decide) (br_f (by decide) (br_f (by decide) (br_f (by decide) go))))) ⟩⟩)⟩⟩))
  · exact br_f (nI_ge (b := 4096) ht (by decide)) (br_f (nI_nle (Nat.succ_pos p) (by omega)) (nm_r (e' := nI p) (yc_top hp) ⟨w, nm_r (e' := nI i) (by rw [cp]; exact h0) ⟨w, nm_r (e' := 2) (by rw [cp]; exact h1) (nm_r (yk_ix hf (by omega)) ⟨wi, nm_r (e' := 4) (by rw [ci]; exact hK) ⟨wi, nm_r (e' := rl_K a_ba f i) (by rw [ci]; rfl) (br_f (by decide) (br_f (by decide) (br_f (by decide) (br_f (by decide) (br_f (by decide) go))))) ⟩⟩)⟩⟩))
  · exact br_f (nI_ge (b := 4096) ht (by decide)) (br_f (nI_nle (Nat.succ_pos p) (by omega)) (nm_r (e' := nI p) (yc_top hp) ⟨w, nm_r (e' := nI i) (by rw [cp]; exact h0) ⟨w, nm_r (e' := 2) (by rw [cp]; exact h1) (nm_r (yk_ix hf (by omega)) ⟨wi, nm_r (e' := 5) (by rw [ci]; exact hK) ⟨wi, nm_r (e' := rl_K a_ba f i) (by rw [ci]; rfl) (br_f (by decide) (br_f (by decide) (br_f (by decide) (br_f (by decide) (br_f (by decide) go))))) ⟩⟩)⟩⟩))
  · exact br_f (nI_ge (b := 4096) ht (by decide)) (br_f (nI_nle (Nat.succ_pos p) (by omega)) (nm_r (e' := nI p) (yc_top hp) ⟨w, nm_r (e' := nI i) (by rw [cp]; exact h0) ⟨w, nm_r (e' := 2) (by rw [cp]; exact h1) (nm_r (yk_ix hf (by omega)) ⟨wi, nm_r (e' := 6) (by rw [ci]; exact hK) ⟨wi, nm_r (e' := rl_K a_ba f i) (by rw [ci]; rfl) (br_f (by decide) (br_f (by decide) (br_f (by decide) (br_f (by decide) (br_f (by decide) go))))) ⟩⟩)⟩⟩))
end

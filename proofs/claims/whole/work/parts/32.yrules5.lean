section
variable {f_n f_cap f_ana f_res f_anyT f_intsT f_wp f_vp f_made f_active f_xp f_curK f_rBot f_rR f_rE0 f_rE1 : Int32} {a_st a_ar a_size a_bk a_ba a_bb a_ds a_tab a_nxt a_wN a_wS a_wF a_vs a_frS a_frP0 a_frP1 a_xN a_xS a_xE0 a_xE1 a_xA a_xB a_xC a_xD a_xE a_xF a_xG : Nat → Int32} {N k n f : Nat} {post : SY → Prop}
theorem yl_409 {Q : SY → Prop} {tb : Nat → ty_T} {g : Nat} {e : ab_E} (hg : g < 8) (hk2 : k ≤ 2) (hT : ∀ q, ty_ok (tb q)) (ht : ∀ q, q < 24 → a_tab q = ty_y (tb q)) (he : ab_eo k e) (H : ya_k (fun b r e0 e1 => Q (nI N, f_cap, f_ana, f_res, f_anyT, f_intsT, f_wp, f_vp, f_made, f_active, f_xp, nI k, b, r, e0, e1, a_st, a_ar, a_size, a_bk, a_ba, a_bb, a_ds, a_tab, a_nxt, a_wN, a_wS, a_wF, a_vs, a_frS, a_frP0, a_frP1, a_xN, a_xS, a_xE0, a_xE1, a_xA, a_xB, a_xC, a_xD, a_xE, a_xF, a_xG)) (ab_fin (tb (g * 3 + 2)) e)) :
    wY_stepCall_409 Q (nI g) (ty_y e.1) (ty_y e.2) (nI N) f_cap f_ana f_res f_anyT f_intsT f_wp f_vp f_made f_active f_xp (nI k) f_rBot f_rR f_rE0 f_rE1 a_st a_ar a_size a_bk a_ba a_bb a_ds a_tab a_nxt a_wN a_wS a_wF a_vs a_frS a_frP0 a_frP1 a_xN a_xS a_xE0 a_xE1 a_xA a_xB a_xC a_xD a_xE a_xF a_xG := by
  unfold wY_stepCall_409
  rw [xc_32, nI_clamp (by omega), ht _ (by omega)]
  exact ⟨vp_in_nI (by omega) (by omega), yc_set hk2 (hT _) he H⟩
theorem yl_320 {Q : SY → Prop} {tb : Nat → ty_T} {g i m : Nat} {y : ty_T} {e : ab_E} {x10 : Int32} (hb : ab_bd N k n (rl_K a_bk f) (rl_K a_ba f) (rl_K a_bb f) (rl_c (rl_K a_bk f) (rl_K a_bb f))) (hf : f < 8) (hn : n ≤ 128) (hi : i < n) (hg : g < 8) (hk2 : k ≤ 2) (hm : m ≤ 2) (hc : (rl_c (rl_K a_bk f) (rl_K a_bb f)) i = m) (hT : ∀ q, ty_ok (tb q)) (ht : ∀ q, q < 24 → a_tab q = ty_y (tb q)) (he : ab_eo k e) (oy : ty_ok y) (ey : m = 2 → x10 = ty_y y)
    (H : ya_k (fun b r e0 e1 => Q (nI N, f_cap, f_ana, f_res, f_anyT, f_intsT, f_wp, f_vp, f_made, f_active, f_xp, nI k, b, r, e0, e1, a_st, a_ar, a_size, a_bk, a_ba, a_bb, a_ds, a_tab, a_nxt, a_wN, a_wS, a_wF, a_vs, a_frS, a_frP0, a_frP1, a_xN, a_xS, a_xE0, a_xE1, a_xA, a_xB, a_xC, a_xD, a_xE, a_xF, a_xG)) (if m = 2 then (if ty_meet y (tb (g * 3 + 1)) = ty_0 then none else ab_fin (tb (g * 3 + 2)) (ab_nv (rl_K a_bk f) (rl_K a_ba f) (bs_ch (rl_c (rl_K a_bk f) (rl_K a_bb f)) i 1) (tb (g * 3 + 1)) e)) else ab_fin (tb (g * 3 + 2)) e)) :
    wY_stepCall_320 Q (nI f) (nI i) (nI g) (nI m) (ty_y e.1) (ty_y e.2) x10 (nI N) f_cap f_ana f_res f_anyT f_intsT f_wp f_vp f_made f_active f_xp (nI k) f_rBot f_rR f_rE0 f_rE1 a_st a_ar a_size a_bk a_ba a_bb a_ds a_tab a_nxt a_wN a_wS a_wF a_vs a_frS a_frP0 a_frP1 a_xN a_xS a_xE0 a_xE1 a_xA a_xB a_xC a_xD a_xE a_xF a_xG := by
  unfold wY_stepCall_320
  by_cases m2 : m = 2
  · subst m2
    rw [if_pos rfl] at H
    rw [ey rfl]
    refine br_f (by decide) ?_
    rw [xc_31, nI_clamp (by omega), ht _ (by omega)]
    refine ⟨vp_in_nI (by omega) (by omega), nm_e (yt_meet oy (hT _) ?_)⟩
    by_cases z : ty_meet y (tb (g * 3 + 1)) = ty_0
    · rw [if_pos z] at H
      exact br_t ((ty_y_0 (ty_meet_ok oy (hT _))).mpr z) (H _ _ _)
    · rw [if_neg z] at H
      refine br_f (fun q => z ((ty_y_0 (ty_meet_ok oy (hT _))).mp q)) ?_
      refine yn_nar (C := fun a b => wY_stepCall_409 Q (nI g) a b (nI N) f_cap f_ana f_res f_anyT f_intsT f_wp f_vp f_made f_active f_xp (nI k) f_rBot f_rR f_rE0 f_rE1 a_st a_ar a_size a_bk a_ba a_bb a_ds a_tab a_nxt a_wN a_wS a_wF a_vs a_frS a_frP0 a_frP1 a_xN a_xS a_xE0 a_xE1 a_xA a_xB a_xC a_xD a_xE a_xF a_xG) (j := 1) hb hf hn hi (by omega) (xa_eo_xe he) (hT _) ?_
      have l1 := bs_ch_lt hb.2.2 hi (k := 1) (by omega)
      exact yl_409 hg hk2 hT ht (ab_nv_eo (ab_var hb (by omega)) (hT _) he) H
  · rw [if_neg m2] at H
    exact br_t ((yc_k2 hm).mpr (by omega)) (yl_409 hg hk2 hT ht he H)
theorem yl_190 {Q : SY → Prop} {tb : Nat → ty_T} {g i m : Nat} {x y : ty_T} {e : ab_E} {x9 x10 : Int32} {o : ab_O} (hb : ab_bd N k n (rl_K a_bk f) (rl_K a_ba f) (rl_K a_bb f) (rl_c (rl_K a_bk f) (rl_K a_bb f))) (hN : N ≤ 8) (hf : f < 8) (hn : n ≤ 128) (hi : i < n) (h9 : rl_K a_bk f i = 9) (hg : g < N) (eg : rl_K a_ba f i = nI g) (hk2 : k ≤ 2) (hm : m ≤ 2) (em : rl_K a_bb f i = nI m) (hT : ∀ q, ty_ok (tb q)) (ht : ∀ q, q < 24 → a_tab q = ty_y (tb q))
    (he : ab_eo k e) (ox : ty_ok x) (oy : ty_ok y) (ex : 1 ≤ m → x9 = ty_y x) (ey : m = 2 → x10 = ty_y y)
    (ho : o = if rl_K a_bb f i = 0 then ab_cl0 (rl_K a_ba f) (rl_K a_bb f) a_st a_ar tb i e else if rl_K a_bb f i = 1 then ab_cl1 (rl_K a_bk f) (rl_K a_ba f) (rl_K a_bb f) a_st a_ar (rl_c (rl_K a_bk f) (rl_K a_bb f)) tb i x e else ab_cl2 (rl_K a_bk f) (rl_K a_ba f) (rl_K a_bb f) a_st a_ar (rl_c (rl_K a_bk f) (rl_K a_bb f)) tb i x y e)
    (H : ya_k (fun b r e0 e1 => Q (nI N, f_cap, f_ana, f_res, f_anyT, f_intsT, f_wp, f_vp, f_made, f_active, f_xp, nI k, b, r, e0, e1, a_st, a_ar, a_size, a_bk, a_ba, a_bb, a_ds, a_tab, a_nxt, a_wN, a_wS, a_wF, a_vs, a_frS, a_frP0, a_frP1, a_xN, a_xS, a_xE0, a_xE1, a_xA, a_xB, a_xC, a_xD, a_xE, a_xF, a_xG)) o) : wY_stepCall_190 Q (nI f) (nI i) (nI g) (nI m) (ty_y e.1) (ty_y e.2) x9 x10 (nI N) f_cap f_ana f_res f_anyT f_intsT f_wp f_vp f_made f_active f_xp (nI k) f_rBot f_rR f_rE0 f_rE1 a_st a_ar a_size a_bk a_ba a_bb a_ds a_tab a_nxt a_wN a_wS a_wF a_vs a_frS a_frP0 a_frP1 a_xN a_xS a_xE0 a_xE1 a_xA a_xB a_xC a_xD a_xE a_xF a_xG := by
  have cg : (nI g).toNatClampNeg = g := nI_clamp (by omega)
  have wg : vp_in (nI g) 8 := vp_in_nI (by omega) (by decide)
  have hc : (rl_c (rl_K a_bk f) (rl_K a_bb f)) i = m := by rw [ab_c9 hb h9, em, nI_clamp (by omega)]
  have H0 : o = none → Q (nI N, f_cap, f_ana, f_res, f_anyT, f_intsT, f_wp, f_vp, f_made, f_active, f_xp, nI k, 1, f_rR, f_rE0, f_rE1, a_st, a_ar, a_size, a_bk, a_ba, a_bb, a_ds, a_tab, a_nxt, a_wN, a_wS, a_wF, a_vs, a_frS, a_frP0, a_frP1, a_xN, a_xS, a_xE0, a_xE1, a_xA, a_xB, a_xC, a_xD, a_xE, a_xF, a_xG) := fun on => by
    rw [on] at H; exact H _ _ _
  unfold wY_stepCall_190
  refine br_f (nI_pos (by omega)) (br_f (nI_ge hg (by omega)) ⟨wg, ?_⟩)
  rw [cg]
  by_cases s2 : a_st g = 2
  · refine br_t s2 ⟨wg, ?_⟩
    by_cases am : nI m = a_ar g
    · refine br_t am ?_
      have fits : ab_fits (rl_K a_ba f) (rl_K a_bb f) a_st a_ar i = true := by
        unfold ab_fits
        rw [eg, cg, em, decide_eq_true s2, decide_eq_true am.symm]; rfl
      by_cases m1 : m < 1
      · obtain rfl : m = 0 := by omega
        refine br_t (by decide) (yl_320 (y := ty_0) hb hf hn hi (by omega) hk2 hm hc hT ht he ty_0_ok (fun z => absurd z (by decide)) ?_)
        rw [em, if_pos nI_0] at ho
        unfold ab_cl0 ab_gd at ho
        rw [fits, if_pos rfl, eg, cg] at ho
        rw [if_neg (by decide), ← ho]
        exact H
      · refine br_f (fun z => m1 ((yc_k1 hm).mp z)) ?_
        rw [ex (by omega), xc_3, nI_clamp (by omega), ht _ (by omega)]
        refine ⟨vp_in_nI (by omega) (by omega), nm_e (yt_meet ox (hT _) ?_)⟩
        have ho' : o = if ty_meet x (tb (g * 3)) = ty_0 then none else (if m = 2 then (if ty_meet y (tb (g * 3 + 1)) = ty_0 then none else ab_fin (tb (g * 3 + 2)) (ab_nv (rl_K a_bk f) (rl_K a_ba f) (bs_ch (rl_c (rl_K a_bk f) (rl_K a_bb f)) i 1) (tb (g * 3 + 1)) (ab_nv (rl_K a_bk f) (rl_K a_ba f) (bs_ch (rl_c (rl_K a_bk f) (rl_K a_bb f)) i 0) (tb (g * 3)) e))) else ab_fin (tb (g * 3 + 2)) (ab_nv (rl_K a_bk f) (rl_K a_ba f) (bs_ch (rl_c (rl_K a_bk f) (rl_K a_bb f)) i 0) (tb (g * 3)) e)) := by
          rw [em] at ho
          have mm : m = 1 ∨ m = 2 := by omega
          rcases mm with rfl | rfl
          · rw [if_neg (by decide), if_pos (by decide)] at ho
            unfold ab_cl1 ab_gd ab_arg at ho
            rw [fits, if_pos rfl, eg, cg] at ho
            rw [if_neg (show ¬ (1 : Nat) = 2 by decide)]
            exact ho
          · rw [if_neg (by decide), if_neg (by decide)] at ho
            unfold ab_cl2 ab_gd ab_arg at ho
            rw [fits, if_pos rfl, eg, cg] at ho
            rw [if_pos rfl]
            exact ho
        by_cases z : ty_meet x (tb (g * 3)) = ty_0
        · rw [if_pos z] at ho'
          exact br_t ((ty_y_0 (ty_meet_ok ox (hT _))).mpr z) (H0 ho')
        · rw [if_neg z] at ho'
          rw [ho'] at H
          refine br_f (fun q => z ((ty_y_0 (ty_meet_ok ox (hT _))).mp q)) ?_
          have l0 := bs_ch_lt hb.2.2 hi (k := 0) (by omega)
          refine yn_nar (C := fun a b => wY_stepCall_320 Q (nI f) (nI i) (nI g) (nI m) a b x10 (nI N) f_cap f_ana f_res f_anyT f_intsT f_wp f_vp f_made f_active f_xp (nI k) f_rBot f_rR f_rE0 f_rE1 a_st a_ar a_size a_bk a_ba a_bb a_ds a_tab a_nxt a_wN a_wS a_wF a_vs a_frS a_frP0 a_frP1 a_xN a_xS a_xE0 a_xE1 a_xA a_xB a_xC a_xD a_xE a_xF a_xG) (j := 0) hb hf hn hi (by omega) (xa_eo_xe he) (hT _) ?_
          exact yl_320 hb hf hn hi (by omega) hk2 hm hc hT ht (ab_nv_eo (ab_var hb (by omega)) (hT _) he) oy ey H
    · exact br_f am (H0 (xc_nofit (fun z => am (by rw [← em, ← z.2, eg, cg])) ho))
  · exact br_f s2 (H0 (xc_nofit (fun z => s2 (by rw [← z.1, eg, cg])) ho))
theorem yr_10 {tb : Nat → ty_T} (hb : ab_bd N k n (rl_K a_bk f) (rl_K a_ba f) (rl_K a_bb f) (rl_c (rl_K a_bk f) (rl_K a_bb f))) (hN : N ≤ 8) (hk2 : k ≤ 2) (hf : f < 8) (hn : n ≤ 128) (hT : ∀ q, ty_ok (tb q)) (htb : ∀ q, q < 24 → a_tab q = ty_y (tb q)) : ya_R10 k n (rl_K a_bk f) (rl_K a_ba f) (rl_K a_bb f) a_st a_ar tb (yc_A post f (nI N) f_cap f_ana f_res f_anyT f_intsT f_wp f_vp f_made f_active f_xp (nI k) f_rBot f_rR f_rE0 f_rE1 a_st a_ar a_size a_bk a_ba a_bb a_ds a_tab a_nxt a_wN a_wS a_wF a_vs a_frS a_frP0 a_frP1 a_xN a_xS a_xE0 a_xE1 a_xA a_xB a_xC a_xD a_xE a_xF a_xG) := by
  intro t p Z b r e0 e1 i e ht hp hi h0 h1 hK b0 he h2 h3 hk fuel hfu
  obtain ⟨fuel, rfl⟩ : ∃ m, fuel = m + 1 := ⟨fuel - 1, by omega⟩
  have w : vp_in (nI p) 16 := vp_in_nI (by omega) (by decide)
  have cp : (nI p).toNatClampNeg = p := nI_clamp (by omega)
  have wi : vp_in (nI (f * 128 + i)) 1024 := vp_in_nI (by omega) (by decide)
  have ci : (nI (f * 128 + i)).toNatClampNeg = f * 128 + i := nI_clamp (by omega)
  obtain ⟨g, hg, eg⟩ := (hb.1 i hi).2.2.2.2.1 hK
  refine br_f (nI_ge (b := 4096) ht (by decide)) (br_f (nI_nle (Nat.succ_pos p) (by omega)) (nm_r (e' := nI p) (yc_top hp) ⟨w, nm_r (e' := nI i) (by rw [cp]; exact h0) ⟨w, nm_r (e' := 0) (by rw [cp]; exact h1) (nm_r (yk_ix hf (by omega)) ⟨wi, nm_r (e' := 9) (by rw [ci]; exact hK) ⟨wi, nm_r (e' := rl_K a_ba f i) (by rw [ci]; rfl) (br_f (by decide) (br_f (by decide) (br_f (by decide) (br_f (by decide) (br_t rfl ⟨wi, ?_⟩))))) ⟩⟩)⟩⟩))
  rw [ci, show a_bb (f * 128 + i) = nI 0 from b0, eg]
  unfold wpY_stepCall
  dsimp only
  refine br_t (by decide) (br_t (by decide) (nm_r (nI_pred p) ⟨w, nm_r (e' := ty_y e.1) (by rw [cp]; exact h2) ⟨w, nm_r (e' := ty_y e.2) (by rw [cp]; exact h3) (br_t (by decide) (br_f (by decide) (br_f (by decide) ?_)))⟩⟩))
  exact yl_190 (m := 0) (x := ty_0) (y := ty_0) hb hN hf hn hi hK hg eg hk2 (by decide) b0 hT htb he ty_0_ok ty_0_ok (fun z => absurd z (by decide)) (fun z => absurd z (by decide)) (by rw [if_pos b0]) (ya_k_imp (fun b r e0 e1 h => nm_r (nI_1 t) (h fuel (by omega))) hk)
theorem yr_11 {tb : Nat → ty_T} (hb : ab_bd N k n (rl_K a_bk f) (rl_K a_ba f) (rl_K a_bb f) (rl_c (rl_K a_bk f) (rl_K a_bb f))) (hN : N ≤ 8) (hk2 : k ≤ 2) (hf : f < 8) (hn : n ≤ 128) (hT : ∀ q, ty_ok (tb q)) (htb : ∀ q, q < 24 → a_tab q = ty_y (tb q)) : ya_R11 k n (rl_K a_bk f) (rl_K a_ba f) (rl_K a_bb f) a_st a_ar (rl_c (rl_K a_bk f) (rl_K a_bb f)) tb (yc_A post f (nI N) f_cap f_ana f_res f_anyT f_intsT f_wp f_vp f_made f_active f_xp (nI k) f_rBot f_rR f_rE0 f_rE1 a_st a_ar a_size a_bk a_ba a_bb a_ds a_tab a_nxt a_wN a_wS a_wF a_vs a_frS a_frP0 a_frP1 a_xN a_xS a_xE0 a_xE1 a_xA a_xB a_xC a_xD a_xE a_xF a_xG) := by
  intro t p Z i x e ht hp hi h0 h1 hK b1 ox he hk fuel hfu
  obtain ⟨fuel, rfl⟩ : ∃ m, fuel = m + 1 := ⟨fuel - 1, by omega⟩
  have w : vp_in (nI p) 16 := vp_in_nI (by omega) (by decide)
  have cp : (nI p).toNatClampNeg = p := nI_clamp (by omega)
  have wi : vp_in (nI (f * 128 + i)) 1024 := vp_in_nI (by omega) (by decide)
  have ci : (nI (f * 128 + i)).toNatClampNeg = f * 128 + i := nI_clamp (by omega)
  obtain ⟨g, hg, eg⟩ := (hb.1 i hi).2.2.2.2.1 hK
  refine br_f (nI_ge (b := 4096) ht (by decide)) (br_f (nI_nle (Nat.succ_pos p) (by omega)) (nm_r (e' := nI p) (yc_top hp) ⟨w, nm_r (e' := nI i) (by rw [cp]; exact h0) ⟨w, nm_r (e' := 1) (by rw [cp]; exact h1) (nm_r (yk_ix hf (by omega)) ⟨wi, nm_r (e' := 9) (by rw [ci]; exact hK) ⟨wi, nm_r (e' := rl_K a_ba f i) (by rw [ci]; rfl) (br_f (by decide) (br_f (by decide) (br_f (by decide) (br_f (by decide) (br_t rfl ⟨wi, ?_⟩))))) ⟩⟩)⟩⟩))
  rw [ci, show a_bb (f * 128 + i) = nI 1 from b1, eg]
  unfold wpY_stepCall
  dsimp only
  refine br_f (by decide) (br_f (by decide) (br_t (by decide) (nm_r (nI_pred p) ⟨w, nm_e ⟨w, nm_e (br_f (by decide) (br_t (by decide) (br_f (by decide) ?_)))⟩⟩)))
  exact yl_190 (m := 1) (y := ty_0) hb hN hf hn hi hK hg eg hk2 (by decide) b1 hT htb he ox ty_0_ok (fun _ => rfl) (fun z => absurd z (by decide)) (by rw [if_neg (by rw [b1]; decide), if_pos b1]) (ya_k_imp (fun b r e0 e1 h => nm_r (nI_1 t) (h fuel (by omega))) hk)
theorem yr_12 {tb : Nat → ty_T} (hb : ab_bd N k n (rl_K a_bk f) (rl_K a_ba f) (rl_K a_bb f) (rl_c (rl_K a_bk f) (rl_K a_bb f))) (hN : N ≤ 8) (hk2 : k ≤ 2) (hf : f < 8) (hn : n ≤ 128) (hT : ∀ q, ty_ok (tb q)) (htb : ∀ q, q < 24 → a_tab q = ty_y (tb q)) : ya_R12 k n (rl_K a_bk f) (rl_K a_ba f) (rl_K a_bb f) a_st a_ar (rl_c (rl_K a_bk f) (rl_K a_bb f)) tb (yc_A post f (nI N) f_cap f_ana f_res f_anyT f_intsT f_wp f_vp f_made f_active f_xp (nI k) f_rBot f_rR f_rE0 f_rE1 a_st a_ar a_size a_bk a_ba a_bb a_ds a_tab a_nxt a_wN a_wS a_wF a_vs a_frS a_frP0 a_frP1 a_xN a_xS a_xE0 a_xE1 a_xA a_xB a_xC a_xD a_xE a_xF a_xG) := by
  intro t p Z i x y e ht hp hi h0 h1 hK b2 h4 ox oy he hk fuel hfu
  obtain ⟨fuel, rfl⟩ : ∃ m, fuel = m + 1 := ⟨fuel - 1, by omega⟩
  have w : vp_in (nI p) 16 := vp_in_nI (by omega) (by decide)
  have cp : (nI p).toNatClampNeg = p := nI_clamp (by omega)
  have wi : vp_in (nI (f * 128 + i)) 1024 := vp_in_nI (by omega) (by decide)
  have ci : (nI (f * 128 + i)).toNatClampNeg = f * 128 + i := nI_clamp (by omega)
  obtain ⟨g, hg, eg⟩ := (hb.1 i hi).2.2.2.2.1 hK
  refine br_f (nI_ge (b := 4096) ht (by decide)) (br_f (nI_nle (Nat.succ_pos p) (by omega)) (nm_r (e' := nI p) (yc_top hp) ⟨w, nm_r (e' := nI i) (by rw [cp]; exact h0) ⟨w, nm_r (e' := 2) (by rw [cp]; exact h1) (nm_r (yk_ix hf (by omega)) ⟨wi, nm_r (e' := 9) (by rw [ci]; exact hK) ⟨wi, nm_r (e' := rl_K a_ba f i) (by rw [ci]; rfl) (br_f (by decide) (br_f (by decide) (br_f (by decide) (br_f (by decide) (br_t rfl ⟨wi, ?_⟩))))) ⟩⟩)⟩⟩))
  rw [ci, show a_bb (f * 128 + i) = nI 2 from b2, eg]
  unfold wpY_stepCall
  dsimp only
  refine br_f (by decide) (br_f (by decide) (br_t (by decide) (nm_r (nI_pred p) ⟨w, nm_e ⟨w, nm_e (br_f (by decide) (br_f (by decide) (br_t (by decide) ⟨w, nm_r (e' := ty_y x) (by rw [cp]; exact h4) ?_⟩)))⟩⟩)))
  exact yl_190 (m := 2) hb hN hf hn hi hK hg eg hk2 (by decide) b2 hT htb he ox oy (fun _ => rfl) (fun _ => rfl) (by rw [if_neg (by rw [b2]; decide), if_neg (by rw [b2]; decide)]) (ya_k_imp (fun b r e0 e1 h => nm_r (nI_1 t) (h fuel (by omega))) hk)
end

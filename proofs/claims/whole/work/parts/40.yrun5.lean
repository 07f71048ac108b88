section
variable {f_n f_cap f_ana f_res f_anyT f_intsT f_wp f_vp f_made f_active f_xp f_curK f_rBot f_rR f_rE0 f_rE1 : Int32} {a_st a_ar a_size a_bk a_ba a_bb a_ds a_tab a_nxt a_wN a_wS a_wF a_vs a_frS a_frP0 a_frP1 a_xN a_xS a_xE0 a_xE1 a_xA a_xB a_xC a_xD a_xE a_xF a_xG : Nat → Int32} {post : Int32 → SY → Prop} {N U : Nat} {sz S : Nat → Nat} {szX sX kd fo so ch pa dp : Nat → Int32}
theorem yq_run {f : Nat} {x y : Int32} (hN : N ≤ 8) (hs : rl_slots N U sz S a_st a_ar szX a_size sX a_bk a_ba a_bb kd fo so ch pa dp) (hf : f < N) (s2 : a_st f = 2) (ag : rn_ag (a_ar f) x y)
    (H1 : (rn_ev (rl_K a_bk) (rl_K a_ba) (rl_K a_bb) a_st a_ar sz 2048 0 f (sz f - 1) x y 1).1 ≠ -1 → ∀ (x1 x2 x3 x4 : Int32) (Z : Nat → Nat → Int32), post (rn_ev (rl_K a_bk) (rl_K a_ba) (rl_K a_bb) a_st a_ar sz 2048 0 f (sz f - 1) x y 1).1 (nI N, f_cap, f_ana, 0, f_anyT, f_intsT, x1, x2, x3, x4, f_xp, f_curK, f_rBot, f_rR, f_rE0, f_rE1, a_st, a_ar, a_size, a_bk, a_ba, a_bb, a_ds, a_tab, a_nxt, Z 0, Z 1, Z 2, Z 3, Z 4, Z 5, Z 6, a_xN, a_xS, a_xE0, a_xE1, a_xA, a_xB, a_xC, a_xD, a_xE, a_xF, a_xG))
    (H2 : (rn_ev (rl_K a_bk) (rl_K a_ba) (rl_K a_bb) a_st a_ar sz 2048 0 f (sz f - 1) x y 1).1 = -1 → ∀ (x1 x2 x3 x4 : Int32) (Z : Nat → Nat → Int32), post 0 (nI N, f_cap, f_ana, (rn_ev (rl_K a_bk) (rl_K a_ba) (rl_K a_bb) a_st a_ar sz 2048 0 f (sz f - 1) x y 1).2.1, f_anyT, f_intsT, x1, x2, x3, x4, f_xp, f_curK, f_rBot, f_rR, f_rE0, f_rE1, a_st, a_ar, a_size, a_bk, a_ba, a_bb, a_ds, a_tab, a_nxt, Z 0, Z 1, Z 2, Z 3, Z 4, Z 5, Z 6, a_xN, a_xS, a_xE0, a_xE1, a_xA, a_xB, a_xC, a_xD, a_xE, a_xF, a_xG)) :
    wY_run_64 post (nI f) x y (nI N) f_cap f_ana f_res f_anyT f_intsT f_wp f_vp f_made f_active f_xp f_curK f_rBot f_rR f_rE0 f_rE1 a_st a_ar a_size a_bk a_ba a_bb a_ds a_tab a_nxt a_wN a_wS a_wF a_vs a_frS a_frP0 a_frP1 a_xN a_xS a_xE0 a_xE1 a_xA a_xB a_xC a_xD a_xE a_xF a_xG := by
  obtain ⟨k, hk, ek, e2, n0, n1, hb⟩ := yq_g hs hf s2
  have dd := rl_hD1 hs f hf s2 (sz f - 1) (by omega)
  have sl := bs_ss_le (sp_c (rl_K a_bk) (rl_K a_bb) f) (sz f - 1)
  have wg : vp_in (nI f) 8 := vp_in_nI (by omega) (by decide)
  have cg : (nI f).toNatClampNeg = f := nI_clamp (by omega)
  unfold wY_run_64
  refine nm_e (nm_e (nm_e ⟨wg, ?_⟩))
  rw [cg, e2, show nI (sz f) - 1 = nI (sz f - 1) from pk_sub (b := 1) (by omega)]
  refine yq_push (p := 0) (fr := 0) (Z := yq_z a_wN a_wS a_wF a_vs (upd a_frS 0 (nI f)) (upd a_frP0 0 x) (upd a_frP1 0 y)) (by omega) ⟨1000001, ?_⟩
  have sim := yr_sim (D := fun g => rl_D (S g) dp) (RR := yq_R post (nI N) f_cap f_ana f_res f_anyT f_intsT f_wp f_vp f_made f_active f_xp f_curK f_rBot f_rR f_rE0 f_rE1 a_st a_ar a_size a_bk a_ba a_bb a_ds a_tab a_nxt a_wN a_wS a_wF a_vs a_frS a_frP0 a_frP1 a_xN a_xS a_xE0 a_xE1 a_xA a_xB a_xC a_xD a_xE a_xF a_xG) (RE := yq_E post (nI N) f_cap f_ana f_res f_anyT f_intsT f_wp f_vp f_made f_active f_xp f_curK f_rBot f_rR f_rE0 f_rE1 a_st a_ar a_size a_bk a_ba a_bb a_ds a_tab a_nxt a_wN a_wS a_wF a_vs a_frS a_frP0 a_frP1 a_xN a_xS a_xE0 a_xE1 a_xA a_xB a_xC a_xD a_xE a_xF a_xG) hN (rl_sp_ok hs) (rl_hD hs) (rl_hD1 hs) (yq_V1 hN hs) (yq_V2 hN hs) (yq_V3 hN hs) (yq_V4 hN hs) (yq_V5 hN hs) (yq_V6 hN hs) (yq_V7 hN hs) (yq_V8 hN hs) 2048
  refine sim 0 f (sz f - 1) 1 0 0 0 x y (yr_push (yq_z a_wN a_wS a_wF a_vs (upd a_frS 0 (nI f)) (upd a_frP0 0 x) (upd a_frP1 0 y)) 0 (sz f - 1) 0) (by omega) (by omega) hf s2 (by omega) ag (by omega) (by dsimp only; omega) (by dsimp only; omega) ⟨yr_push_0 .., yr_push_1 .., yr_push_2 .., ?_⟩ ?_ ?_ (by omega) (fun n => H1 n) (fun o t1 Z1 ht1 ag1 v1 => ?_) 1000001 (by omega)
  · rw [yr_push_h _ _ _ _ _ _ (by decide)]; exact pk_us
  · rw [yr_push_h _ _ _ _ _ _ (by decide)]; exact pk_us
  · rw [yr_push_h _ _ _ _ _ _ (by decide)]; exact pk_us
  · intro fuel hfu
    obtain ⟨fuel, rfl⟩ : ∃ m, fuel = m + 1 := ⟨fuel - 1, by omega⟩
    have fin : wY_run_160 post (nI N) f_cap f_ana 0 f_anyT f_intsT (nI 0) (nI 1) (nI (rn_ev (rl_K a_bk) (rl_K a_ba) (rl_K a_bb) a_st a_ar sz 2048 0 f (sz f - 1) x y 1).2.2) (nI 1) f_xp f_curK f_rBot f_rR f_rE0 f_rE1 a_st a_ar a_size a_bk a_ba a_bb a_ds a_tab a_nxt (Z1 0) (Z1 1) (Z1 2) (Z1 3) (Z1 4) (Z1 5) (Z1 6) a_xN a_xS a_xE0 a_xE1 a_xA a_xB a_xC a_xD a_xE a_xF a_xG := by
      unfold wY_run_160
      refine br_f (by decide) (br_t (by decide) ?_)
      rw [yq_top (p := 0) (by decide), nI_clamp (by decide)]
      exact ⟨vp_in_nI (by decide) (by decide), nm_r v1 (H2 o _ _ _ _ Z1)⟩
    exact br_c (fun _ => fin) (fun _ => br_t (by decide) fin)
end

section
variable {f_n f_cap f_ana f_res f_anyT f_intsT f_wp f_vp f_made f_active f_xp f_curK f_rBot f_rR f_rE0 f_rE1 : Int32} {a_st a_ar a_size a_bk a_ba a_bb a_ds a_tab a_nxt a_wN a_wS a_wF a_vs a_frS a_frP0 a_frP1 a_xN a_xS a_xE0 a_xE1 a_xA a_xB a_xC a_xD a_xE a_xF a_xG : Nat → Int32} {post : Int32 → SY → Prop} {N U : Nat} {sz S : Nat → Nat} {szX sX kd fo so ch pa dp : Nat → Int32}
theorem yq_V3 (hN : N ≤ 8) (hs : rl_slots N U sz S a_st a_ar szX a_size sX a_bk a_ba a_bb kd fo so ch pa dp) : yr_V3 N (rl_K a_bk) (rl_K a_bb) a_st sz (yq_R post (nI N) f_cap f_ana f_res f_anyT f_intsT f_wp f_vp f_made f_active f_xp f_curK f_rBot f_rR f_rE0 f_rE1 a_st a_ar a_size a_bk a_ba a_bb a_ds a_tab a_nxt a_wN a_wS a_wF a_vs a_frS a_frP0 a_frP1 a_xN a_xS a_xE0 a_xE1 a_xA a_xB a_xC a_xD a_xE a_xF a_xG) (yq_E post (nI N) f_cap f_ana f_res f_anyT f_intsT f_wp f_vp f_made f_active f_xp f_curK f_rBot f_rR f_rE0 f_rE1 a_st a_ar a_size a_bk a_ba a_bb a_ds a_tab a_nxt a_wN a_wS a_wF a_vs a_frS a_frP0 a_frP1 a_xN a_xS a_xE0 a_xE1 a_xA a_xB a_xC a_xD a_xE a_xF a_xG) := by
  intro t p q m a fr g i Z hin top hK k1 k2 k3
  obtain ⟨ht, hp, hq, hf, hg, s2, hi⟩ := hin
  obtain ⟨h0, h1, h2, h4⟩ := top
  obtain ⟨k, hk, ek, e2, n0, n1, hb⟩ := yq_g hs hg s2
  have w : vp_in (nI p) 512 := vp_in_nI (by omega) (by decide)
  have cp : (nI p).toNatClampNeg = p := nI_clamp (by omega)
  have wf : vp_in (nI fr) 32 := vp_in_nI (by omega) (by decide)
  have cf : (nI fr).toNatClampNeg = fr := nI_clamp (by omega)
  have wi : vp_in (nI (g * 128 + i)) 1024 := vp_in_nI (by omega) (by decide)
  have ci : (nI (g * 128 + i)).toNatClampNeg = g * 128 + i := nI_clamp (by omega)
  have c8 := ab_c8 hb hK
  refine yq_st ht hp fun fuel hfu => ?_
  have push : ∀ j, j < 3 → yq_R post (nI N) f_cap f_ana f_res f_anyT f_intsT f_wp f_vp f_made f_active f_xp f_curK f_rBot f_rR f_rE0 f_rE1 a_st a_ar a_size a_bk a_ba a_bb a_ds a_tab a_nxt a_wN a_wS a_wF a_vs a_frS a_frP0 a_frP1 a_xN a_xS a_xE0 a_xE1 a_xA a_xB a_xC a_xD a_xE a_xF a_xG (t + 1) (p + 2) q m a (yr_push (ya_z Z 1 p (nI 2)) (p + 1) (bs_ch (sp_c (rl_K a_bk) (rl_K a_bb) g) i j) fr) → wY_evalStep_232 (yq_k post t fuel) (nI p) (nI fr) (nI g) (nI i) (nI j) (nI N) f_cap f_ana 0 f_anyT f_intsT (nI (p + 1)) (nI q) (nI m) (nI a) f_xp f_curK f_rBot f_rR f_rE0 f_rE1 a_st a_ar a_size a_bk a_ba a_bb a_ds a_tab a_nxt (Z 0) (Z 1) (Z 2) (Z 3) (Z 4) (Z 5) (Z 6) a_xN a_xS a_xE0 a_xE1 a_xA a_xB a_xC a_xD a_xE a_xF a_xG := by
    intro j hj hR
    unfold wY_evalStep_232
    refine ⟨w, nm_r (e' := upd (Z 1) p 2) (by rw [cp]) ?_⟩
    refine yk_cp (by omega) n1 hb hi (by omega) ?_
    exact yq_push (Z := ya_z Z 1 p (nI 2)) (p := p + 1) (by omega) (yq_go (Z := yr_push (ya_z Z 1 p (nI 2)) (p + 1) (bs_ch (rl_c (rl_K a_bk g) (rl_K a_bb g)) i j) fr) hfu hR)
  unfold wpY_evalStep
  dsimp only
  refine nm_r (e' := nI p) (yq_top (by omega)) ⟨w, nm_r (e' := nI fr) (by rw [cp, h2]; exact yq_31 (by omega)) ⟨wf, nm_r (e' := nI g) (by rw [cf]; exact h4) ⟨w, nm_r (e' := nI i) (by rw [cp]; exact h0) ⟨w, nm_r (e' := 1) (by rw [cp]; exact h1) (nm_r (yk_ix (by omega) (by omega)) ⟨wi, nm_r (e' := 8) (by rw [ci]; exact hK) ⟨wi, nm_r (e' := rl_K a_ba g i) (by rw [ci]; rfl) ⟨wi, nm_r (e' := rl_K a_bb g i) (by rw [ci]; rfl) (br_t (by decide) (br_t rfl (br_f (by decide) (br_t rfl ?_)))) ⟩⟩⟩)⟩⟩⟩⟩
  refine yq_vpop (by omega) ?_
  by_cases vt : Z 3 q = 1001
  · exact br_t vt (push 1 (by omega) (k1 vt))
  · refine br_f vt ?_
    by_cases vf : Z 3 q = 1000
    · exact br_t vf (push 2 (by omega) (k2 vf))
    · exact br_f vf (yq_end (Z := Z) (by decide) (k3 vt vf))
theorem yq_V4 (hN : N ≤ 8) (hs : rl_slots N U sz S a_st a_ar szX a_size sX a_bk a_ba a_bb kd fo so ch pa dp) : yr_V4 N (rl_K a_bk) a_st sz (yq_R post (nI N) f_cap f_ana f_res f_anyT f_intsT f_wp f_vp f_made f_active f_xp f_curK f_rBot f_rR f_rE0 f_rE1 a_st a_ar a_size a_bk a_ba a_bb a_ds a_tab a_nxt a_wN a_wS a_wF a_vs a_frS a_frP0 a_frP1 a_xN a_xS a_xE0 a_xE1 a_xA a_xB a_xC a_xD a_xE a_xF a_xG) := by
  intro t p q m a fr g i Z hin top hK hR
  obtain ⟨ht, hp, hq, hf, hg, s2, hi⟩ := hin
  obtain ⟨h0, h1, h2, h4⟩ := top
  obtain ⟨k, hk, ek, e2, n0, n1, hb⟩ := yq_g hs hg s2
  have w : vp_in (nI p) 512 := vp_in_nI (by omega) (by decide)
  have cp : (nI p).toNatClampNeg = p := nI_clamp (by omega)
  have wf : vp_in (nI fr) 32 := vp_in_nI (by omega) (by decide)
  have cf : (nI fr).toNatClampNeg = fr := nI_clamp (by omega)
  have wi : vp_in (nI (g * 128 + i)) 1024 := vp_in_nI (by omega) (by decide)
  have ci : (nI (g * 128 + i)).toNatClampNeg = g * 128 + i := nI_clamp (by omega)
  refine yq_st ht hp fun fuel hfu => ?_
  unfold wpY_evalStep
  dsimp only
  exact nm_r (e' := nI p) (yq_top (by omega)) ⟨w, nm_r (e' := nI fr) (by rw [cp, h2]; exact yq_31 (by omega)) ⟨wf, nm_r (e' := nI g) (by rw [cf]; exact h4) ⟨w, nm_r (e' := nI i) (by rw [cp]; exact h0) ⟨w, nm_r (e' := 2) (by rw [cp]; exact h1) (nm_r (yk_ix (by omega) (by omega)) ⟨wi, nm_r (e' := 8) (by rw [ci]; exact hK) ⟨wi, nm_r (e' := rl_K a_ba g i) (by rw [ci]; rfl) ⟨wi, nm_r (e' := rl_K a_bb g i) (by rw [ci]; rfl) (br_t (by decide) (br_t rfl (br_f (by decide) (br_f (by decide) (nm_r (nI_pred p) (yq_go hfu hR)))))) ⟩⟩⟩)⟩⟩⟩⟩
theorem yq_V5 (hN : N ≤ 8) (hs : rl_slots N U sz S a_st a_ar szX a_size sX a_bk a_ba a_bb kd fo so ch pa dp) : yr_V5 N (rl_K a_bk) a_st sz (yq_R post (nI N) f_cap f_ana f_res f_anyT f_intsT f_wp f_vp f_made f_active f_xp f_curK f_rBot f_rR f_rE0 f_rE1 a_st a_ar a_size a_bk a_ba a_bb a_ds a_tab a_nxt a_wN a_wS a_wF a_vs a_frS a_frP0 a_frP1 a_xN a_xS a_xE0 a_xE1 a_xA a_xB a_xC a_xD a_xE a_xF a_xG) := by
  intro t p q m a fr g i Z hin top hK hR
  obtain ⟨ht, hp, hq, hf, hg, s2, hi⟩ := hin
  obtain ⟨h0, h1, h2, h4⟩ := top
  obtain ⟨k, hk, ek, e2, n0, n1, hb⟩ := yq_g hs hg s2
  have w : vp_in (nI p) 512 := vp_in_nI (by omega) (by decide)
  have cp : (nI p).toNatClampNeg = p := nI_clamp (by omega)
  have wf : vp_in (nI fr) 32 := vp_in_nI (by omega) (by decide)
  have cf : (nI fr).toNatClampNeg = fr := nI_clamp (by omega)
  have wi : vp_in (nI (g * 128 + i)) 1024 := vp_in_nI (by omega) (by decide)
  have ci : (nI (g * 128 + i)).toNatClampNeg = g * 128 + i := nI_clamp (by omega)
  refine yq_st ht hp fun fuel hfu => ?_
  unfold wpY_evalStep
  dsimp only
  refine nm_r (e' := nI p) (yq_top (by omega)) ⟨w, nm_r (e' := nI fr) (by rw [cp, h2]; exact yq_31 (by omega)) ⟨wf, nm_r (e' := nI g) (by rw [cf]; exact h4) ⟨w, nm_r (e' := nI i) (by rw [cp]; exact h0) ⟨w, nm_r (e' := 1) (by rw [cp]; exact h1) (nm_r (yk_ix (by omega) (by omega)) ⟨wi, nm_r (e' := 7) (by rw [ci]; exact hK) ⟨wi, nm_r (e' := rl_K a_ba g i) (by rw [ci]; rfl) ⟨wi, nm_r (e' := rl_K a_bb g i) (by rw [ci]; rfl) (br_t (by decide) (br_f (by decide) (br_f (by decide) (br_t rfl ?_)))) ⟩⟩⟩)⟩⟩⟩⟩
  refine br_t (by decide) (nm_r (nI_pred p) (br_t rfl (yq_vpop (by omega) ?_)))
  by_cases c : 1000 ≤ Z 3 q
  · rw [if_neg (Int32.not_lt.mpr c)] at hR
    exact br_t c (yq_vpush (by omega) (yq_go (Z := ya_z Z 3 q 1000) hfu hR))
  · rw [if_pos (Int32.not_le.mp c)] at hR
    exact br_f c (yq_vpush (by omega) (yq_go (Z := ya_z Z 3 q 1001) hfu hR))
theorem yq_op {Q : Int32 → SY → Prop} {p q m a fr g i : Nat} {κ : Int32} {Z : Nat → Nat → Int32} (hq : q < 500) (hK : κ = 3 ∨ κ = 4 ∨ κ = 5 ∨ κ = 6)
    (H1 : (rn_op κ (Z 3 q) (Z 3 (q + 1)) m).1 = -1 → Q (-1) (nI N, f_cap, f_ana, 0, f_anyT, f_intsT, nI p, nI (q + 1), nI m, nI a, f_xp, f_curK, f_rBot, f_rR, f_rE0, f_rE1, a_st, a_ar, a_size, a_bk, a_ba, a_bb, a_ds, a_tab, a_nxt, Z 0, Z 1, Z 2, upd (Z 3) q (rn_op κ (Z 3 q) (Z 3 (q + 1)) m).2.1, Z 4, Z 5, Z 6, a_xN, a_xS, a_xE0, a_xE1, a_xA, a_xB, a_xC, a_xD, a_xE, a_xF, a_xG))
    (H0 : (rn_op κ (Z 3 q) (Z 3 (q + 1)) m).1 ≠ -1 → ∀ x2 : Int32, Q 1 (nI N, f_cap, f_ana, 0, f_anyT, f_intsT, nI p, x2, nI m, nI a, f_xp, f_curK, f_rBot, f_rR, f_rE0, f_rE1, a_st, a_ar, a_size, a_bk, a_ba, a_bb, a_ds, a_tab, a_nxt, Z 0, Z 1, Z 2, Z 3, Z 4, Z 5, Z 6, a_xN, a_xS, a_xE0, a_xE1, a_xA, a_xB, a_xC, a_xD, a_xE, a_xF, a_xG)) :
    wY_evalStep_530 Q (nI p) (nI fr) (nI g) (nI i) 2 κ 2 (nI N) f_cap f_ana 0 f_anyT f_intsT (nI (p + 1)) (nI (q + 2)) (nI m) (nI a) f_xp f_curK f_rBot f_rR f_rE0 f_rE1 a_st a_ar a_size a_bk a_ba a_bb a_ds a_tab a_nxt (Z 0) (Z 1) (Z 2) (Z 3) (Z 4) (Z 5) (Z 6) a_xN a_xS a_xE0 a_xE1 a_xA a_xB a_xC a_xD a_xE a_xF a_xG := by
  have n7 : ¬ κ = 7 := by rcases hK with h | h | h | h <;> rw [h] <;> decide
  refine br_t (by decide) (nm_r (nI_pred p) (br_f n7 (yq_vpop (q := q + 1) (by omega) (yq_vpop (q := q) (by omega) ?_))))
  unfold rn_op at H1 H0
  by_cases k6 : κ = 6
  · rw [if_pos k6] at H1
    refine br_t k6 ?_
    by_cases e : Z 3 q = Z 3 (q + 1)
    · rw [if_pos e] at H1; exact br_t e (yq_vpush (by omega) (H1 rfl))
    · rw [if_neg e] at H1; exact br_f e (yq_vpush (by omega) (H1 rfl))
  · rw [if_neg k6] at H1 H0
    refine br_f k6 ?_
    by_cases c : 1000 ≤ Z 3 q
    · rw [if_pos c] at H0
      exact br_t c (H0 (rn_n1 _ _) _)
    · rw [if_neg c] at H1 H0
      refine br_f c ?_
      by_cases d : 1000 ≤ Z 3 (q + 1)
      · rw [if_pos d] at H0
        exact br_f (Int32.not_lt.mpr d) (H0 (rn_n1 _ _) _)
      · rw [if_neg d] at H1 H0
        refine br_t (Int32.not_le.mp d) ?_
        by_cases k5 : κ = 5
        · rw [if_pos k5] at H1
          refine br_t k5 ?_
          by_cases e : Z 3 (q + 1) ≤ Z 3 q
          · rw [if_neg (Int32.not_lt.mpr e)] at H1; exact br_t e (yq_vpush (by omega) (H1 rfl))
          · rw [if_pos (Int32.not_le.mp e)] at H1; exact br_f e (yq_vpush (by omega) (H1 rfl))
        · rw [if_neg k5] at H1 H0
          refine br_f k5 ?_
          have fin : ∀ z : Int32, z = rn_ar κ (Z 3 q) (Z 3 (q + 1)) → wY_evalStep_721 Q z (nI N) f_cap f_ana 0 f_anyT f_intsT (nI p) (nI q) (nI m) (nI a) f_xp f_curK f_rBot f_rR f_rE0 f_rE1 a_st a_ar a_size a_bk a_ba a_bb a_ds a_tab a_nxt (Z 0) (Z 1) (Z 2) (Z 3) (Z 4) (Z 5) (Z 6) a_xN a_xS a_xE0 a_xE1 a_xA a_xB a_xC a_xD a_xE a_xF a_xG := by
            intro z ez
            rw [← ez] at H1 H0
            by_cases x : z < -99
            · rw [if_pos x] at H0; exact br_t x (H0 (rn_n1 _ _) _)
            · rw [if_neg x] at H1 H0
              refine br_f x ?_
              by_cases y : z ≤ 99
              · rw [if_neg (Int32.not_lt.mpr y)] at H1
                exact br_t y (yq_vpush (by omega) (H1 rfl))
              · rw [if_pos (Int32.not_le.mp y)] at H0
                exact br_f y (H0 (rn_n1 _ _) _)
          by_cases k3 : κ = 3
          · exact br_t k3 (fin _ (by unfold rn_ar; rw [if_pos k3]))
          · exact br_f k3 (fin _ (by unfold rn_ar; rw [if_neg k3]))
theorem rn_op_1 {κ v w : Int32} {m : Nat} (o : (rn_op κ v w m).1 ≠ -1) : (rn_op κ v w m).1 = 1 := by
  rcases (rn_op_gd (k := κ) (v := v) (w := w) (m := 0) (by omega)).1 with h | h | h
  · exact absurd (show (rn_op κ v w m).1 = -1 by rw [← h]; unfold rn_op; repeat (first | rfl | split)) o
  · rw [← h]; unfold rn_op; repeat (first | rfl | split)
  · exfalso
    revert h
    unfold rn_op
    repeat (first | exact fun h => absurd h (show ¬ (-1 : Int32) = 2 by decide) | exact fun h => absurd h (show ¬ (1 : Int32) = 2 by decide) | split)
theorem yq_V6 (hN : N ≤ 8) (hs : rl_slots N U sz S a_st a_ar szX a_size sX a_bk a_ba a_bb kd fo so ch pa dp) : yr_V6 N (rl_K a_bk) a_st sz (yq_R post (nI N) f_cap f_ana f_res f_anyT f_intsT f_wp f_vp f_made f_active f_xp f_curK f_rBot f_rR f_rE0 f_rE1 a_st a_ar a_size a_bk a_ba a_bb a_ds a_tab a_nxt a_wN a_wS a_wF a_vs a_frS a_frP0 a_frP1 a_xN a_xS a_xE0 a_xE1 a_xA a_xB a_xC a_xD a_xE a_xF a_xG) (yq_E post (nI N) f_cap f_ana f_res f_anyT f_intsT f_wp f_vp f_made f_active f_xp f_curK f_rBot f_rR f_rE0 f_rE1 a_st a_ar a_size a_bk a_ba a_bb a_ds a_tab a_nxt a_wN a_wS a_wF a_vs a_frS a_frP0 a_frP1 a_xN a_xS a_xE0 a_xE1 a_xA a_xB a_xC a_xD a_xE a_xF a_xG) := by
  intro t p q m a fr g i Z hin top hK k1 k2
  obtain ⟨ht, hp, hq, hf, hg, s2, hi⟩ := hin
  obtain ⟨h0, h1, h2, h4⟩ := top
  obtain ⟨k, hk, ek, e2, n0, n1, hb⟩ := yq_g hs hg s2
  have w : vp_in (nI p) 512 := vp_in_nI (by omega) (by decide)
  have cp : (nI p).toNatClampNeg = p := nI_clamp (by omega)
  have wf : vp_in (nI fr) 32 := vp_in_nI (by omega) (by decide)
  have cf : (nI fr).toNatClampNeg = fr := nI_clamp (by omega)
  have wi : vp_in (nI (g * 128 + i)) 1024 := vp_in_nI (by omega) (by decide)
  have ci : (nI (g * 128 + i)).toNatClampNeg = g * 128 + i := nI_clamp (by omega)
  refine yq_st ht hp fun fuel hfu => ?_
  have go : wY_evalStep_530 (yq_k post t fuel) (nI p) (nI fr) (nI g) (nI i) 2 (rl_K a_bk g i) 2 (nI N) f_cap f_ana 0 f_anyT f_intsT (nI (p + 1)) (nI (q + 2)) (nI m) (nI a) f_xp f_curK f_rBot f_rR f_rE0 f_rE1 a_st a_ar a_size a_bk a_ba a_bb a_ds a_tab a_nxt (Z 0) (Z 1) (Z 2) (Z 3) (Z 4) (Z 5) (Z 6) a_xN a_xS a_xE0 a_xE1 a_xA a_xB a_xC a_xD a_xE a_xF a_xG := yq_op hq hK (fun o => yq_go (Z := ya_z Z 3 q (rn_op (rl_K a_bk g i) (Z 3 q) (Z 3 (q + 1)) m).2.1) hfu (k1 o)) (fun o x2 => by
    have e := k2 o
    rw [rn_op_1 o] at e
    exact yq_end (Z := Z) (by decide) e)
  unfold wpY_evalStep
  dsimp only
  rcases hK with hK | hK | hK | hK <;> rw [hK] at go
  · exact nm_r (e' := nI p) (yq_top (by omega)) ⟨w, nm_r (e' := nI fr) (by rw [cp, h2]; exact yq_31 (by omega)) ⟨wf, nm_r (e' := nI g) (by rw [cf]; exact h4) ⟨w, nm_r (e' := nI i) (by rw [cp]; exact h0) ⟨w, nm_r (e' := 2) (by rw [cp]; exact h1) (nm_r (yk_ix (by omega) (by omega)) ⟨wi, nm_r (e' := 3) (by rw [ci]; exact hK) ⟨wi, nm_r (e' := rl_K a_ba g i) (by rw [ci]; rfl) ⟨wi, nm_r (e' := rl_K a_bb g i) (by rw [ci]; rfl) (br_t (by decide) (br_f (by decide) (br_f (by decide) (br_f (by decide) go)))) ⟩⟩⟩)⟩⟩⟩⟩
  · exact nm_r (e' := nI p) (yq_top (by omega)) ⟨w, nm_r (e' := nI fr) (by rw [cp, h2]; exact yq_31 (by omega)) ⟨wf, nm_r (e' := nI g) (by rw [cf]; exact h4) ⟨w, nm_r (e' := nI i) (by rw [cp]; exact h0) ⟨w, nm_r (e' := 2) (by rw [cp]; exact h1) (nm_r (yk_ix (by omega) (by omega)) ⟨wi, nm_r (e' := 4) (by rw [ci]; exact hK) ⟨wi, nm_r (e' := rl_K a_ba g i) (by rw [ci]; rfl) ⟨wi, nm_r (e' := rl_K a_bb g i) (by rw [ci]; rfl) (br_t (by decide) (br_f (by decide) (br_f (by decide) (br_f (by decide) go)))) ⟩⟩⟩)⟩⟩⟩⟩
  · exact nm_r (e' := nI p) (yq_top (by omega)) ⟨w, nm_r (e' := nI fr) (by rw [cp, h2]; exact yq_31 (by omega)) ⟨wf, nm_r (e' := nI g) (by rw [cf]; exact h4) ⟨w, nm_r (e' := nI i) (by rw [cp]; exact h0) ⟨w, nm_r (e' := 2) (by rw [cp]; exact h1) (nm_r (yk_ix (by omega) (by omega)) ⟨wi, nm_r (e' := 5) (by rw [ci]; exact hK) ⟨wi, nm_r (e' := rl_K a_ba g i) (by rw [ci]; rfl) ⟨wi, nm_r (e' := rl_K a_bb g i) (by rw [ci]; rfl) (br_t (by decide) (br_f (by decide) (br_f (by decide) (br_f (by decide) go)))) ⟩⟩⟩)⟩⟩⟩⟩
  · exact nm_r (e' := nI p) (yq_top (by omega)) ⟨w, nm_r (e' := nI fr) (by rw [cp, h2]; exact yq_31 (by omega)) ⟨wf, nm_r (e' := nI g) (by rw [cf]; exact h4) ⟨w, nm_r (e' := nI i) (by rw [cp]; exact h0) ⟨w, nm_r (e' := 2) (by rw [cp]; exact h1) (nm_r (yk_ix (by omega) (by omega)) ⟨wi, nm_r (e' := 6) (by rw [ci]; exact hK) ⟨wi, nm_r (e' := rl_K a_ba g i) (by rw [ci]; rfl) ⟨wi, nm_r (e' := rl_K a_bb g i) (by rw [ci]; rfl) (br_t (by decide) (br_f (by decide) (br_f (by decide) (br_f (by decide) go)))) ⟩⟩⟩)⟩⟩⟩⟩
theorem yq_V8 (hN : N ≤ 8) (hs : rl_slots N U sz S a_st a_ar szX a_size sX a_bk a_ba a_bb kd fo so ch pa dp) : yr_V8 N (rl_K a_bk) (rl_K a_bb) a_st sz (yq_R post (nI N) f_cap f_ana f_res f_anyT f_intsT f_wp f_vp f_made f_active f_xp f_curK f_rBot f_rR f_rE0 f_rE1 a_st a_ar a_size a_bk a_ba a_bb a_ds a_tab a_nxt a_wN a_wS a_wF a_vs a_frS a_frP0 a_frP1 a_xN a_xS a_xE0 a_xE1 a_xA a_xB a_xC a_xD a_xE a_xF a_xG) := by
  intro t p q m a fr g i b Z hin top hK hb' hb2 ha hR
  obtain ⟨ht, hp, hq, hf, hg, s2, hi⟩ := hin
  obtain ⟨h0, h1, h2, h4⟩ := top
  obtain ⟨k, hk, ek, e2, n0, n1, hb⟩ := yq_g hs hg s2
  have w : vp_in (nI p) 512 := vp_in_nI (by omega) (by decide)
  have cp : (nI p).toNatClampNeg = p := nI_clamp (by omega)
  have wf : vp_in (nI fr) 32 := vp_in_nI (by omega) (by decide)
  have cf : (nI fr).toNatClampNeg = fr := nI_clamp (by omega)
  have wi : vp_in (nI (g * 128 + i)) 1024 := vp_in_nI (by omega) (by decide)
  have ci : (nI (g * 128 + i)).toNatClampNeg = g * 128 + i := nI_clamp (by omega)
  refine yq_st ht hp fun fuel hfu => ?_
  unfold wpY_evalStep
  dsimp only
  exact nm_r (e' := nI p) (yq_top (by omega)) ⟨w, nm_r (e' := nI fr) (by rw [cp, h2]; exact yq_31 (by omega)) ⟨wf, nm_r (e' := nI g) (by rw [cf]; exact h4) ⟨w, nm_r (e' := nI i) (by rw [cp]; exact h0) ⟨w, nm_r (e' := nI (b + 1)) (by rw [cp]; exact h1) (nm_r (yk_ix (by omega) (by omega)) ⟨wi, nm_r (e' := 9) (by rw [ci]; exact hK) ⟨wi, nm_r (e' := rl_K a_ba g i) (by rw [ci]; rfl) ⟨wi, nm_r (e' := nI b) (by rw [ci]; exact hb') (br_t (by decide) (br_f (by decide) (br_t rfl (br_t (nI_le (by omega) (by omega)) (br_f (nI_ge (by omega) (by omega)) (nm_r (nI_pred a) (nm_r (nI_pred p) (yq_go hfu hR)))))))) ⟩⟩⟩)⟩⟩⟩⟩
theorem yq_374 {t fuel p q m fr g i b a : Nat} {Z : Nat → Nat → Int32} {v w' : Int32} (hN : N ≤ 8) (hs : rl_slots N U sz S a_st a_ar szX a_size sX a_bk a_ba a_bb kd fo so ch pa dp) (hp : p < 500) (hf : fr < 16) (ha : a < N) (hb2 : b ≤ 2) (hm : m ≤ 200) (hfu : 1000000 < t + 1 + fuel) (ea : rl_K a_ba g i = nI a) (hb' : rl_K a_bb g i = nI b)
    (hgo : ∀ a, a < N → rl_K a_ba g i = nI a → a_st a = 2 → a_ar a = rl_K a_bb g i → m < 200 → fr < 15 → yq_R post (nI N) f_cap f_ana f_res f_anyT f_intsT f_wp f_vp f_made f_active f_xp f_curK f_rBot f_rR f_rE0 f_rE1 a_st a_ar a_size a_bk a_ba a_bb a_ds a_tab a_nxt a_wN a_wS a_wF a_vs a_frS a_frP0 a_frP1 a_xN a_xS a_xE0 a_xE1 a_xA a_xB a_xC a_xD a_xE a_xF a_xG (t + 1) (p + 2) q (m + 1) (fr + 2) (yr_call Z p fr a b (sz a - 1) v w'))
    (hlim : a_st a = 2 → a_ar a = nI b → (200 ≤ m ∨ 15 ≤ fr) → yq_E post (nI N) f_cap f_ana f_res f_anyT f_intsT f_wp f_vp f_made f_active f_xp f_curK f_rBot f_rR f_rE0 f_rE1 a_st a_ar a_size a_bk a_ba a_bb a_ds a_tab a_nxt a_wN a_wS a_wF a_vs a_frS a_frP0 a_frP1 a_xN a_xS a_xE0 a_xE1 a_xA a_xB a_xC a_xD a_xE a_xF a_xG 2) (hfail : ¬ (a_st a = 2 ∧ a_ar a = nI b) → yq_E post (nI N) f_cap f_ana f_res f_anyT f_intsT f_wp f_vp f_made f_active f_xp f_curK f_rBot f_rR f_rE0 f_rE1 a_st a_ar a_size a_bk a_ba a_bb a_ds a_tab a_nxt a_wN a_wS a_wF a_vs a_frS a_frP0 a_frP1 a_xN a_xS a_xE0 a_xE1 a_xA a_xB a_xC a_xD a_xE a_xF a_xG 1) :
    wY_evalStep_374 (yq_k post t fuel) (nI p) (nI fr) (nI a) (nI b) w' v (nI N) f_cap f_ana 0 f_anyT f_intsT (nI (p + 1)) (nI q) (nI m) (nI (fr + 1)) f_xp f_curK f_rBot f_rR f_rE0 f_rE1 a_st a_ar a_size a_bk a_ba a_bb a_ds a_tab a_nxt (Z 0) (Z 1) (Z 2) (Z 3) (Z 4) (Z 5) (Z 6) a_xN a_xS a_xE0 a_xE1 a_xA a_xB a_xC a_xD a_xE a_xF a_xG := by
  have w : vp_in (nI p) 512 := vp_in_nI (by omega) (by decide)
  have cp : (nI p).toNatClampNeg = p := nI_clamp (by omega)
  have wa : vp_in (nI a) 8 := vp_in_nI (by omega) (by decide)
  have ca : (nI a).toNatClampNeg = a := nI_clamp (by omega)
  refine br_f (nI_pos (by omega)) (br_f (nI_ge ha (by omega)) ⟨wa, ?_⟩)
  rw [ca]
  by_cases sa : a_st a = 2
  · refine br_t sa ⟨wa, ?_⟩
    by_cases aa : a_ar a = nI b
    · refine br_t aa.symm ?_
      by_cases hm2 : 200 ≤ m
      · exact br_f (nI_nlt (b := 200) hm2 (by omega)) (yq_end (Z := Z) (by decide) (hlim sa aa (Or.inl hm2)))
      · refine br_t (nI_lt (b := 200) (by omega) (by decide)) ?_
        by_cases hf2 : fr < 15
        · refine br_t (nI_lt (b := 16) (by omega) (by decide)) ?_
          obtain ⟨_, _, _, ea2, na, _, _⟩ := yq_g hs ha sa
          have wf : vp_in (nI (fr + 1)) 32 := vp_in_nI (by omega) (by decide)
          have cf : (nI (fr + 1)).toNatClampNeg = fr + 1 := nI_clamp (by omega)
          refine nm_r (nI_1 m) (nm_r (nI_1 (fr + 1)) (nm_r (e' := nI (fr + 1)) (by rw [nI_1]; exact yq_31 (by omega)) ⟨wf, nm_r (e' := upd (Z 4) (fr + 1) (nI a)) (by rw [cf]) ⟨wf, nm_r (e' := upd (Z 5) (fr + 1) v) (by rw [cf]) ⟨wf, nm_r (e' := upd (Z 6) (fr + 1) w') (by rw [cf]) ⟨w, nm_r (e' := upd (Z 1) p (nI (b + 1))) (by rw [cp, nI_1]) ⟨wa, ?_⟩⟩⟩⟩⟩))
          rw [ea2, show nI (sz a) - 1 = nI (sz a - 1) from pk_sub (b := 1) (by omega)]
          exact yq_push (Z := ya_z (ya_z (ya_z (ya_z Z 4 (fr + 1) (nI a)) 5 (fr + 1) v) 6 (fr + 1) w') 1 p (nI (b + 1))) (p := p + 1) (by omega) (yq_go (Z := yr_call Z p fr a b (sz a - 1) v w') hfu (hgo a ha ea sa (by rw [hb']; exact aa) (by omega) hf2))
        · exact br_f (nI_nlt (b := 16) (by omega) (by omega)) (yq_end (Z := Z) (by decide) (hlim sa aa (Or.inr (by omega))))
    · exact br_f (fun z => aa z.symm) (yq_end (Z := Z) (by decide) (hfail fun z => aa z.2))
  · exact br_f sa (yq_end (Z := Z) (by decide) (hfail fun z => sa z.1))
theorem yq_V7 (hN : N ≤ 8) (hs : rl_slots N U sz S a_st a_ar szX a_size sX a_bk a_ba a_bb kd fo so ch pa dp) : yr_V7 N (rl_K a_bk) (rl_K a_ba) (rl_K a_bb) a_st a_ar sz (yq_R post (nI N) f_cap f_ana f_res f_anyT f_intsT f_wp f_vp f_made f_active f_xp f_curK f_rBot f_rR f_rE0 f_rE1 a_st a_ar a_size a_bk a_ba a_bb a_ds a_tab a_nxt a_wN a_wS a_wF a_vs a_frS a_frP0 a_frP1 a_xN a_xS a_xE0 a_xE1 a_xA a_xB a_xC a_xD a_xE a_xF a_xG) (yq_E post (nI N) f_cap f_ana f_res f_anyT f_intsT f_wp f_vp f_made f_active f_xp f_curK f_rBot f_rR f_rE0 f_rE1 a_st a_ar a_size a_bk a_ba a_bb a_ds a_tab a_nxt a_wN a_wS a_wF a_vs a_frS a_frP0 a_frP1 a_xN a_xS a_xE0 a_xE1 a_xA a_xB a_xC a_xD a_xE a_xF a_xG) := by
  intro t p q m fr g i b Z v w' hin hm top hK hb' hb2 a0 a1 a2 hgo hlim hfail
  obtain ⟨ht, hp, hq, hf, hg, s2, hi⟩ := hin
  obtain ⟨h0, h1, h2, h4⟩ := top
  obtain ⟨k, hk, ek, e2, n0, n1, hb⟩ := yq_g hs hg s2
  have w : vp_in (nI p) 512 := vp_in_nI (by omega) (by decide)
  have cp : (nI p).toNatClampNeg = p := nI_clamp (by omega)
  have wf : vp_in (nI fr) 32 := vp_in_nI (by omega) (by decide)
  have cf : (nI fr).toNatClampNeg = fr := nI_clamp (by omega)
  have wi : vp_in (nI (g * 128 + i)) 1024 := vp_in_nI (by omega) (by decide)
  have ci : (nI (g * 128 + i)).toNatClampNeg = g * 128 + i := nI_clamp (by omega)
  obtain ⟨a, ha, ea⟩ := (hb.1 i hi).2.2.2.2.1 hK
  have ca : (nI a).toNatClampNeg = a := nI_clamp (by omega)
  rw [ea, ca, hb'] at hlim hfail
  have base : ∀ fuel, 1000000 < t + 1 + fuel → wY_evalStep_374 (yq_k post t fuel) (nI p) (nI fr) (nI a) (nI b) w' v (nI N) f_cap f_ana 0 f_anyT f_intsT (nI (p + 1)) (nI q) (nI m) (nI (fr + 1)) f_xp f_curK f_rBot f_rR f_rE0 f_rE1 a_st a_ar a_size a_bk a_ba a_bb a_ds a_tab a_nxt (Z 0) (Z 1) (Z 2) (Z 3) (Z 4) (Z 5) (Z 6) a_xN a_xS a_xE0 a_xE1 a_xA a_xB a_xC a_xD a_xE a_xF a_xG :=
    fun fuel hfu => yq_374 hN hs hp hf ha hb2 hm hfu ea hb' hgo hlim hfail
  have bb : b = 0 ∨ b = 1 ∨ b = 2 := by omega
  rcases bb with rfl | rfl | rfl
  · obtain ⟨rfl, rfl⟩ := a0 rfl
    refine yq_st ht hp fun fuel hfu => ?_
    unfold wpY_evalStep
    dsimp only
    refine nm_r (e' := nI p) (yq_top (by omega)) ⟨w, nm_r (e' := nI fr) (by rw [cp, h2]; exact yq_31 (by omega)) ⟨wf, nm_r (e' := nI g) (by rw [cf]; exact h4) ⟨w, nm_r (e' := nI i) (by rw [cp]; exact h0) ⟨w, nm_r (e' := nI 0) (by rw [cp]; exact h1) (nm_r (yk_ix (by omega) (by omega)) ⟨wi, nm_r (e' := 9) (by rw [ci]; exact hK) ⟨wi, nm_r (e' := rl_K a_ba g i) (by rw [ci]; rfl) ⟨wi, nm_r (e' := nI 0) (by rw [ci]; exact hb') (br_t (by decide) (br_f (by decide) (br_t rfl (br_t (by decide) (br_t (by decide) (br_f (by decide) (br_t (by decide) ?_))))))) ⟩⟩⟩)⟩⟩⟩⟩
    rw [ea]
    exact base fuel hfu
  · obtain ⟨rfl, rfl⟩ := a1 rfl
    refine yq_st ht hp fun fuel hfu => ?_
    unfold wpY_evalStep
    dsimp only
    refine nm_r (e' := nI p) (yq_top (by omega)) ⟨w, nm_r (e' := nI fr) (by rw [cp, h2]; exact yq_31 (by omega)) ⟨wf, nm_r (e' := nI g) (by rw [cf]; exact h4) ⟨w, nm_r (e' := nI i) (by rw [cp]; exact h0) ⟨w, nm_r (e' := nI 1) (by rw [cp]; exact h1) (nm_r (yk_ix (by omega) (by omega)) ⟨wi, nm_r (e' := 9) (by rw [ci]; exact hK) ⟨wi, nm_r (e' := rl_K a_ba g i) (by rw [ci]; rfl) ⟨wi, nm_r (e' := nI 1) (by rw [ci]; exact hb') (br_t (by decide) (br_f (by decide) (br_t rfl (br_t (by decide) (br_t (by decide) (br_f (by decide) (br_f (by decide) ?_))))))) ⟩⟩⟩)⟩⟩⟩⟩
    rw [ea]
    exact yq_vpop (by omega) (base fuel hfu)
  · obtain ⟨rfl, rfl⟩ := a2 rfl
    refine yq_st ht hp fun fuel hfu => ?_
    unfold wpY_evalStep
    dsimp only
    refine nm_r (e' := nI p) (yq_top (by omega)) ⟨w, nm_r (e' := nI fr) (by rw [cp, h2]; exact yq_31 (by omega)) ⟨wf, nm_r (e' := nI g) (by rw [cf]; exact h4) ⟨w, nm_r (e' := nI i) (by rw [cp]; exact h0) ⟨w, nm_r (e' := nI 2) (by rw [cp]; exact h1) (nm_r (yk_ix (by omega) (by omega)) ⟨wi, nm_r (e' := 9) (by rw [ci]; exact hK) ⟨wi, nm_r (e' := rl_K a_ba g i) (by rw [ci]; rfl) ⟨wi, nm_r (e' := nI 2) (by rw [ci]; exact hb') (br_t (by decide) (br_f (by decide) (br_t rfl (br_t (by decide) (br_t (by decide) (br_t (by decide) ?_)))))) ⟩⟩⟩)⟩⟩⟩⟩
    rw [ea]
    exact yq_vpop (q := q + 1) (by omega) (br_f (by decide) (yq_vpop (q := q) (by omega) (base fuel hfu)))
end

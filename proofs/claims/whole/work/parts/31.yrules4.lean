section
variable {f_n f_cap f_ana f_res f_anyT f_intsT f_wp f_vp f_made f_active f_xp f_curK f_rBot f_rR f_rE0 f_rE1 : Int32} {a_st a_ar a_size a_bk a_ba a_bb a_ds a_tab a_nxt a_wN a_wS a_wF a_vs a_frS a_frP0 a_frP1 a_xN a_xS a_xE0 a_xE1 a_xA a_xB a_xC a_xD a_xE a_xF a_xG : Nat → Int32} {N k n f : Nat} {post : SY → Prop}
theorem yt_meetb {Q : Int32 → Prop} {u : SY} {s : ty_T} (hs : ty_ok s) (h : Q (ty_y (ty_meet s ty_bool))) : wpY_meet Q u (ty_y s) 3 := by
  rw [show (3 : Int32) = ty_y ty_bool by decide]; exact yt_meet hs ty_bool_ok h
theorem yt_meeta {Q : Int32 → Prop} {u : SY} {s : ty_T} (hs : ty_ok s) (h : Q (ty_y (ty_meet s ty_ats))) : wpY_meet Q u (ty_y s) 255 := by
  rw [show (255 : Int32) = ty_y ty_ats by decide]; exact yt_meet hs ty_ats_ok h
theorem yi_241 {Q : SY → Prop} {p i : Nat} {Z : Nat → Nat → Int32} {x : ty_T} {e t u : ab_E} (hb : ab_bd N k n (rl_K a_bk f) (rl_K a_ba f) (rl_K a_bb f) (rl_c (rl_K a_bk f) (rl_K a_bb f))) (hk2 : k ≤ 2) (hf : f < 8) (hn : n ≤ 128) (hp : p < 15) (hi : i < n) (hc : (rl_c (rl_K a_bk f) (rl_K a_bb f)) i = 3) (ox : ty_ok x) (ht : ab_eo k t)
    (H1 : x.1.testBit 1 = true → ya_al t → ∀ Z', Z' = ya_push (ya_zi Z p x u) (p + 1) (bs_ch (rl_c (rl_K a_bk f) (rl_K a_bb f)) i 1) (ty_y t.1) (ty_y t.2) → Q (f_n, f_cap, f_ana, f_res, f_anyT, f_intsT, f_wp, f_vp, f_made, f_active, nI (p + 2), nI k, 0, ty_y x, ty_y e.1, ty_y e.2, a_st, a_ar, a_size, a_bk, a_ba, a_bb, a_ds, a_tab, a_nxt, a_wN, a_wS, a_wF, a_vs, a_frS, a_frP0, a_frP1, Z' 0, Z' 1, Z' 2, Z' 3, Z' 4, Z' 5, Z' 6, Z' 7, Z' 8, Z' 9, Z' 10))
    (H2 : ¬ (x.1.testBit 1 = true ∧ ya_al t) → ∀ Z', Z' = ya_zi Z p x u → Q (f_n, f_cap, f_ana, f_res, f_anyT, f_intsT, f_wp, f_vp, f_made, f_active, nI (p + 1), nI k, 1, ty_y x, ty_y e.1, ty_y e.2, a_st, a_ar, a_size, a_bk, a_ba, a_bb, a_ds, a_tab, a_nxt, a_wN, a_wS, a_wF, a_vs, a_frS, a_frP0, a_frP1, Z' 0, Z' 1, Z' 2, Z' 3, Z' 4, Z' 5, Z' 6, Z' 7, Z' 8, Z' 9, Z' 10)) :
    wY_stepIf_241 Q (nI f) (nI p) (nI i) (ty_y x) (ty_y t.1) (ty_y t.2) (ty_y u.1) (ty_y u.2) f_n f_cap f_ana f_res f_anyT f_intsT f_wp f_vp f_made f_active (nI (p + 1)) (nI k) 0 (ty_y x) (ty_y e.1) (ty_y e.2) a_st a_ar a_size a_bk a_ba a_bb a_ds a_tab a_nxt a_wN a_wS a_wF a_vs a_frS a_frP0 a_frP1 (Z 0) (Z 1) (Z 2) (Z 3) (Z 4) (Z 5) (Z 6) (Z 7) (Z 8) (Z 9) (Z 10) := by
  have w : vp_in (nI p) 16 := vp_in_nI (by omega) (by decide)
  have cp : (nI p).toNatClampNeg = p := nI_clamp (by omega)
  have b1 := ty_b1 (ty_yn_m ox)
  unfold wY_stepIf_241
  rw [ty_ym ox, cp]
  refine ⟨w, nm_e ⟨w, nm_e ⟨w, nm_e ⟨w, nm_e ?_⟩⟩⟩⟩
  by_cases z : x.1.testBit 1 = true
  · refine br_f (fun q => b1.mp q z) ?_
    refine yc_env hk2 ht (fun al => br_f (by decide) ?_) (fun na => br_t rfl (H2 (fun q => na q.2) _ rfl))
    refine yk_cp (j := 1) hf hn hb hi (by omega) ?_
    exact yc_push (Z := ya_zi Z p x u) (p := p + 1) (by omega) (H1 z al _ rfl)
  · exact br_t (b1.mpr z) (H2 (fun q => z q.1) _ rfl)
theorem yi_138 {Q : SY → Prop} {p i : Nat} {Z : Nat → Nat → Int32} {x : ty_T} {e m : ab_E} (hb : ab_bd N k n (rl_K a_bk f) (rl_K a_ba f) (rl_K a_bb f) (rl_c (rl_K a_bk f) (rl_K a_bb f))) (hk2 : k ≤ 2) (hf : f < 8) (hn : n ≤ 128) (hp : p < 15) (hi : i < n) (h8 : rl_K a_bk f i = 8) (ox : ty_ok x) (he : ab_eo k e)
    (em : m = ab_nv (rl_K a_bk f) (rl_K a_ba f) (bs_ch (rl_c (rl_K a_bk f) (rl_K a_bb f)) i 0) ty_bool e)
    (H1 : x.1.testBit 1 = true → ya_al (ab_th (rl_K a_bk f) (rl_K a_ba f) (rl_c (rl_K a_bk f) (rl_K a_bb f)) i ty_ints e) → ∀ Z', Z' = ya_push (ya_zi Z p x (ab_th (rl_K a_bk f) (rl_K a_ba f) (rl_c (rl_K a_bk f) (rl_K a_bb f)) i ty_ats e)) (p + 1) (bs_ch (rl_c (rl_K a_bk f) (rl_K a_bb f)) i 1) (ty_y (ab_th (rl_K a_bk f) (rl_K a_ba f) (rl_c (rl_K a_bk f) (rl_K a_bb f)) i ty_ints e).1) (ty_y (ab_th (rl_K a_bk f) (rl_K a_ba f) (rl_c (rl_K a_bk f) (rl_K a_bb f)) i ty_ints e).2) → Q (f_n, f_cap, f_ana, f_res, f_anyT, ty_y ty_ints, f_wp, f_vp, f_made, f_active, nI (p + 2), nI k, 0, ty_y x, ty_y e.1, ty_y e.2, a_st, a_ar, a_size, a_bk, a_ba, a_bb, a_ds, a_tab, a_nxt, a_wN, a_wS, a_wF, a_vs, a_frS, a_frP0, a_frP1, Z' 0, Z' 1, Z' 2, Z' 3, Z' 4, Z' 5, Z' 6, Z' 7, Z' 8, Z' 9, Z' 10))
    (H2 : ¬ (x.1.testBit 1 = true ∧ ya_al (ab_th (rl_K a_bk f) (rl_K a_ba f) (rl_c (rl_K a_bk f) (rl_K a_bb f)) i ty_ints e)) → ∀ Z', Z' = ya_zi Z p x (ab_th (rl_K a_bk f) (rl_K a_ba f) (rl_c (rl_K a_bk f) (rl_K a_bb f)) i ty_ats e) → Q (f_n, f_cap, f_ana, f_res, f_anyT, ty_y ty_ints, f_wp, f_vp, f_made, f_active, nI (p + 1), nI k, 1, ty_y x, ty_y e.1, ty_y e.2, a_st, a_ar, a_size, a_bk, a_ba, a_bb, a_ds, a_tab, a_nxt, a_wN, a_wS, a_wF, a_vs, a_frS, a_frP0, a_frP1, Z' 0, Z' 1, Z' 2, Z' 3, Z' 4, Z' 5, Z' 6, Z' 7, Z' 8, Z' 9, Z' 10)) :
    wY_stepIf_138 Q (nI f) (nI p) (nI i) (ty_y x) (ty_y m.1) (ty_y m.2) (nI (bs_ch (rl_c (rl_K a_bk f) (rl_K a_bb f)) i 0)) (rl_K a_bk f (bs_ch (rl_c (rl_K a_bk f) (rl_K a_bb f)) i 0)) f_n f_cap f_ana f_res f_anyT (ty_y ty_ints) f_wp f_vp f_made f_active (nI (p + 1)) (nI k) 0 (ty_y x) (ty_y e.1) (ty_y e.2) a_st a_ar a_size a_bk a_ba a_bb a_ds a_tab a_nxt a_wN a_wS a_wF a_vs a_frS a_frP0 a_frP1 (Z 0) (Z 1) (Z 2) (Z 3) (Z 4) (Z 5) (Z 6) (Z 7) (Z 8) (Z 9) (Z 10) := by
  have hc := ab_c8 hb h8
  have l0 := bs_ch_lt hb.2.2 hi (k := 0) (by omega)
  have ti := ab_th_eo hb hi h8 ty_ints_ok he
  have om : xa_e m := by rw [em]; exact xa_nv_e ty_bool_ok (xa_eo_xe he)
  have fin : ∀ t u : ab_E, t = ab_th (rl_K a_bk f) (rl_K a_ba f) (rl_c (rl_K a_bk f) (rl_K a_bb f)) i ty_ints e → u = ab_th (rl_K a_bk f) (rl_K a_ba f) (rl_c (rl_K a_bk f) (rl_K a_bb f)) i ty_ats e →
      wY_stepIf_241 Q (nI f) (nI p) (nI i) (ty_y x) (ty_y t.1) (ty_y t.2) (ty_y u.1) (ty_y u.2) f_n f_cap f_ana f_res f_anyT (ty_y ty_ints) f_wp f_vp f_made f_active (nI (p + 1)) (nI k) 0 (ty_y x) (ty_y e.1) (ty_y e.2) a_st a_ar a_size a_bk a_ba a_bb a_ds a_tab a_nxt a_wN a_wS a_wF a_vs a_frS a_frP0 a_frP1 (Z 0) (Z 1) (Z 2) (Z 3) (Z 4) (Z 5) (Z 6) (Z 7) (Z 8) (Z 9) (Z 10) := by
    intro t u et eu
    rw [et, eu]
    exact yi_241 hb hk2 hf hn hp hi hc ox ti H1 H2
  unfold wY_stepIf_138
  by_cases h7 : rl_K a_bk f (bs_ch (rl_c (rl_K a_bk f) (rl_K a_bb f)) i 0) = 7
  · have c1 := ab_c7 hb h7
    have l1 := bs_ch_lt hb.2.2 (show bs_ch (rl_c (rl_K a_bk f) (rl_K a_bb f)) i 0 < n by omega) (k := 0) (by omega)
    have th : ∀ t : ty_T, ab_th (rl_K a_bk f) (rl_K a_ba f) (rl_c (rl_K a_bk f) (rl_K a_bb f)) i t e = ab_nv (rl_K a_bk f) (rl_K a_ba f) (bs_ch (rl_c (rl_K a_bk f) (rl_K a_bb f)) (bs_ch (rl_c (rl_K a_bk f) (rl_K a_bb f)) i 0) 0) t m := by
      intro t; unfold ab_th; rw [if_pos h7, em]
    refine yk_cp (j := 0) hf hn hb (by omega) (by omega) (br_t h7 (yk_kind hf (by omega) ?_))
    by_cases v : rl_K a_bk f (bs_ch (rl_c (rl_K a_bk f) (rl_K a_bb f)) (bs_ch (rl_c (rl_K a_bk f) (rl_K a_bb f)) i 0) 0) = 2
    · refine br_t v (yk_opA hf (by omega) ?_)
      by_cases a : rl_K a_ba f (bs_ch (rl_c (rl_K a_bk f) (rl_K a_bb f)) (bs_ch (rl_c (rl_K a_bk f) (rl_K a_bb f)) i 0) 0) = 0
      · refine br_t a (yt_meet om.1 ty_ints_ok (yt_meeta om.1 (fin (ty_meet m.1 ty_ints, m.2) (ty_meet m.1 ty_ats, m.2) ?_ ?_)))
        · rw [th]; unfold ab_nv; rw [if_pos v, if_pos a]
        · rw [th]; unfold ab_nv; rw [if_pos v, if_pos a]
      · refine br_f a (yt_meet om.2 ty_ints_ok (yt_meeta om.2 (fin (m.1, ty_meet m.2 ty_ints) (m.1, ty_meet m.2 ty_ats) ?_ ?_)))
        · rw [th]; unfold ab_nv; rw [if_pos v, if_neg a]
        · rw [th]; unfold ab_nv; rw [if_pos v, if_neg a]
    · refine br_f v (fin m m ?_ ?_)
      · rw [th]; unfold ab_nv; rw [if_neg v]
      · rw [th]; unfold ab_nv; rw [if_neg v]
  · have th : ∀ t : ty_T, ab_th (rl_K a_bk f) (rl_K a_ba f) (rl_c (rl_K a_bk f) (rl_K a_bb f)) i t e = m := by
      intro t; unfold ab_th; rw [if_neg h7, em]
    by_cases c0 : (rl_c (rl_K a_bk f) (rl_K a_bb f)) (bs_ch (rl_c (rl_K a_bk f) (rl_K a_bb f)) i 0) = 0
    · exact yk_cp0 hf hn hb (by omega) c0 (br_f h7 (fin m m (th _).symm (th _).symm))
    · exact yk_cp (j := 0) hf hn hb (by omega) (by omega) (br_f h7 (fin m m (th _).symm (th _).symm))
theorem yr_7 (hb : ab_bd N k n (rl_K a_bk f) (rl_K a_ba f) (rl_K a_bb f) (rl_c (rl_K a_bk f) (rl_K a_bb f))) (hk2 : k ≤ 2) (hf : f < 8) (hn : n ≤ 128) (hi0 : f_intsT = ty_y ty_ints) : ya_R7 k n (rl_K a_bk f) (rl_K a_ba f) (rl_c (rl_K a_bk f) (rl_K a_bb f)) (yc_A post f f_n f_cap f_ana f_res f_anyT f_intsT f_wp f_vp f_made f_active f_xp (nI k) f_rBot f_rR f_rE0 f_rE1 a_st a_ar a_size a_bk a_ba a_bb a_ds a_tab a_nxt a_wN a_wS a_wF a_vs a_frS a_frP0 a_frP1 a_xN a_xS a_xE0 a_xE1 a_xA a_xB a_xC a_xD a_xE a_xF a_xG) := by
  intro t p Z i x e ht hp' hi h0 h1 hK ox he k1 k2 fuel hfu
  have hp : p < 16 := by omega
  obtain ⟨fuel, rfl⟩ : ∃ m, fuel = m + 1 := ⟨fuel - 1, by omega⟩
  have w : vp_in (nI p) 16 := vp_in_nI (by omega) (by decide)
  have cp : (nI p).toNatClampNeg = p := nI_clamp (by omega)
  have wi : vp_in (nI (f * 128 + i)) 1024 := vp_in_nI (by omega) (by decide)
  have ci : (nI (f * 128 + i)).toNatClampNeg = f * 128 + i := nI_clamp (by omega)
  subst hi0
  have hc := ab_c8 hb hK
  have l0 := bs_ch_lt hb.2.2 hi (k := 0) (by omega)
  have xe := xa_eo_xe he
  have go : ∀ m : ab_E, m = ab_nv (rl_K a_bk f) (rl_K a_ba f) (bs_ch (rl_c (rl_K a_bk f) (rl_K a_bb f)) i 0) ty_bool e → wY_stepIf_138 (yc_q post f t fuel) (nI f) (nI p) (nI i) (ty_y x) (ty_y m.1) (ty_y m.2) (nI (bs_ch (rl_c (rl_K a_bk f) (rl_K a_bb f)) i 0)) (rl_K a_bk f (bs_ch (rl_c (rl_K a_bk f) (rl_K a_bb f)) i 0)) f_n f_cap f_ana f_res f_anyT (ty_y ty_ints) f_wp f_vp f_made f_active (nI (p + 1)) (nI k) 0 (ty_y x) (ty_y e.1) (ty_y e.2) a_st a_ar a_size a_bk a_ba a_bb a_ds a_tab a_nxt a_wN a_wS a_wF a_vs a_frS a_frP0 a_frP1 (Z 0) (Z 1) (Z 2) (Z 3) (Z 4) (Z 5) (Z 6) (Z 7) (Z 8) (Z 9) (Z 10) := by
    intro m em
    refine yi_138 hb hk2 hf hn hp' hi hK ox he em (fun z al Z' eZ => ?_) (fun z Z' eZ => ?_)
    · subst eZ
      exact nm_r (nI_1 t) (k1 z al fuel (by omega))
    · subst eZ
      exact nm_r (nI_1 t) (k2 z fuel (by omega))
  refine br_f (nI_ge (b := 4096) ht (by decide)) (br_f (nI_nle (Nat.succ_pos p) (by omega)) (nm_r (e' := nI p) (yc_top hp) ⟨w, nm_r (e' := nI i) (by rw [cp]; exact h0) ⟨w, nm_r (e' := 1) (by rw [cp]; exact h1) (nm_r (yk_ix hf (by omega)) ⟨wi, nm_r (e' := 8) (by rw [ci]; exact hK) ⟨wi, nm_r (e' := rl_K a_ba f i) (by rw [ci]; rfl) (br_f (by decide) (br_f (by decide) (br_f (by decide) (br_t rfl ?_)))) ⟩⟩)⟩⟩))
  unfold wpY_stepIf
  dsimp only
  refine br_f (by decide) (br_t rfl (br_f (by decide) ?_))
  refine yk_cp (j := 0) hf hn hb hi (by omega) (yk_kind hf (by omega) ?_)
  by_cases v : rl_K a_bk f (bs_ch (rl_c (rl_K a_bk f) (rl_K a_bb f)) i 0) = 2
  · refine br_t v (yk_opA hf (by omega) ?_)
    by_cases a : rl_K a_ba f (bs_ch (rl_c (rl_K a_bk f) (rl_K a_bb f)) i 0) = 0
    · refine br_t a (yt_meetb xe.1 (go (ty_meet e.1 ty_bool, e.2) ?_))
      unfold ab_nv; rw [if_pos v, if_pos a]
    · refine br_f a (yt_meetb xe.2 (go (e.1, ty_meet e.2 ty_bool) ?_))
      unfold ab_nv; rw [if_pos v, if_neg a]
  · refine br_f v (go e ?_)
    unfold ab_nv; rw [if_neg v]
theorem yr_8 (hb : ab_bd N k n (rl_K a_bk f) (rl_K a_ba f) (rl_K a_bb f) (rl_c (rl_K a_bk f) (rl_K a_bb f))) (hk2 : k ≤ 2) (hf : f < 8) (hn : n ≤ 128) : ya_R8 k n (rl_K a_bk f) (rl_c (rl_K a_bk f) (rl_K a_bb f)) (yc_A post f f_n f_cap f_ana f_res f_anyT f_intsT f_wp f_vp f_made f_active f_xp (nI k) f_rBot f_rR f_rE0 f_rE1 a_st a_ar a_size a_bk a_ba a_bb a_ds a_tab a_nxt a_wN a_wS a_wF a_vs a_frS a_frP0 a_frP1 a_xN a_xS a_xE0 a_xE1 a_xA a_xB a_xC a_xD a_xE a_xF a_xG) := by
  intro t p Z b r e0 e1 i m u ht hp' hi h0 h1 hK hm h4 h5 h6 hu k1 k2 fuel hfu
  have hp : p < 16 := by omega
  obtain ⟨fuel, rfl⟩ : ∃ m, fuel = m + 1 := ⟨fuel - 1, by omega⟩
  have w : vp_in (nI p) 16 := vp_in_nI (by omega) (by decide)
  have cp : (nI p).toNatClampNeg = p := nI_clamp (by omega)
  have wi : vp_in (nI (f * 128 + i)) 1024 := vp_in_nI (by omega) (by decide)
  have ci : (nI (f * 128 + i)).toNatClampNeg = f * 128 + i := nI_clamp (by omega)
  have hc := ab_c8 hb hK
  have b0 := ty_b0 (n := m) (m := m) (by omega)
  refine br_f (nI_ge (b := 4096) ht (by decide)) (br_f (nI_nle (Nat.succ_pos p) (by omega)) (nm_r (e' := nI p) (yc_top hp) ⟨w, nm_r (e' := nI i) (by rw [cp]; exact h0) ⟨w, nm_r (e' := 2) (by rw [cp]; exact h1) (nm_r (yk_ix hf (by omega)) ⟨wi, nm_r (e' := 8) (by rw [ci]; exact hK) ⟨wi, nm_r (e' := rl_K a_ba f i) (by rw [ci]; rfl) (br_f (by decide) (br_f (by decide) (br_f (by decide) (br_t rfl ?_)))) ⟩⟩)⟩⟩))
  unfold wpY_stepIf
  dsimp only
  rw [cp, h4, h5, h6]
  refine br_f (by decide) (br_f (by decide) (br_t rfl ⟨w, nm_e ⟨w, nm_e ⟨w, nm_e ⟨w, nm_e ⟨w, nm_e ⟨w, ?_⟩⟩⟩⟩⟩⟩))
  by_cases z : m.testBit 0 = true
  · refine br_f (fun q => b0.mp q z) ⟨w, w, ?_⟩
    refine yc_env hk2 hu (fun al => br_f (by decide) ?_) (fun na => br_t rfl (nm_r (nI_1 t) (k2 (fun q => na q.2) fuel (by omega))))
    refine yk_cp (j := 2) hf hn hb hi (by omega) ⟨w, w, ?_⟩
    exact yc_push (Z := ya_zj Z p b r e0 e1) (p := p + 1) (by omega) (nm_r (nI_1 t) (k1 z al fuel (by omega)))
  · exact br_t (b0.mpr z) (nm_r (nI_1 t) (k2 (fun q => z q.1) fuel (by omega)))
theorem yr_9 (hf : f < 8) (hn : n ≤ 128) : ya_R9 k n (rl_K a_bk f) (yc_A post f f_n f_cap f_ana f_res f_anyT f_intsT f_wp f_vp f_made f_active f_xp f_curK f_rBot f_rR f_rE0 f_rE1 a_st a_ar a_size a_bk a_ba a_bb a_ds a_tab a_nxt a_wN a_wS a_wF a_vs a_frS a_frP0 a_frP1 a_xN a_xS a_xE0 a_xE1 a_xA a_xB a_xC a_xD a_xE a_xF a_xG) := by
  intro t p Z b r e0 e1 i o o' ht hp hi h0 h1 hK po po' a1 a2 hk fuel hfu
  obtain ⟨fuel, rfl⟩ : ∃ m, fuel = m + 1 := ⟨fuel - 1, by omega⟩
  have w : vp_in (nI p) 16 := vp_in_nI (by omega) (by decide)
  have cp : (nI p).toNatClampNeg = p := nI_clamp (by omega)
  have wi : vp_in (nI (f * 128 + i)) 1024 := vp_in_nI (by omega) (by decide)
  have ci : (nI (f * 128 + i)).toNatClampNeg = f * 128 + i := nI_clamp (by omega)
  refine br_f (nI_ge (b := 4096) ht (by decide)) (br_f (nI_nle (Nat.succ_pos p) (by omega)) (nm_r (e' := nI p) (yc_top hp) ⟨w, nm_r (e' := nI i) (by rw [cp]; exact h0) ⟨w, nm_r (e' := 3) (by rw [cp]; exact h1) (nm_r (yk_ix hf (by omega)) ⟨wi, nm_r (e' := 8) (by rw [ci]; exact hK) ⟨wi, nm_r (e' := rl_K a_ba f i) (by rw [ci]; rfl) (br_f (by decide) (br_f (by decide) (br_f (by decide) (br_t rfl ?_)))) ⟩⟩)⟩⟩))
  unfold wpY_stepIf
  dsimp only
  rw [cp]
  refine br_f (by decide) (br_f (by decide) (br_f (by decide) (nm_r (nI_pred p) ⟨w, ?_⟩)))
  cases o with
  | none =>
    refine br_t a1 ?_
    cases o' with
    | none =>
      have a2 : b = 1 := a2
      subst a2
      exact nm_r (nI_1 t) (hk _ _ _ fuel (by omega))
    | some y =>
      obtain ⟨rfl, rfl, rfl, rfl⟩ := a2
      exact nm_r (nI_1 t) (hk fuel (by omega))
  | some x =>
    obtain ⟨z7, z8, z9, z10⟩ := a1
    rw [z7, z8, z9, z10]
    refine br_f (by decide) ?_
    obtain ⟨q0, _, q1, _⟩ := po x rfl
    cases o' with
    | none =>
      have a2 : b = 1 := a2
      subst a2
      exact br_t rfl ⟨w, nm_e ⟨w, nm_e ⟨w, nm_e (nm_r (nI_1 t) (hk fuel (by omega)))⟩⟩⟩
    | some y =>
      obtain ⟨rfl, rfl, rfl, rfl⟩ := a2
      obtain ⟨s0, _, s1, _⟩ := po' y rfl
      exact br_f (by decide) ⟨w, yt_join q0 s0 ⟨w, yt_join q1.1 s1.1 ⟨w, yt_join q1.2.1 s1.2.1 (nm_r (nI_1 t) (hk fuel (by omega)))⟩⟩⟩
end

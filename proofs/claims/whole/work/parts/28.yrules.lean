section
variable {f_n f_cap f_ana f_res f_anyT f_intsT f_wp f_vp f_made f_active f_xp f_curK f_rBot f_rR f_rE0 f_rE1 : Int32} {a_st a_ar a_size a_bk a_ba a_bb a_ds a_tab a_nxt a_wN a_wS a_wF a_vs a_frS a_frP0 a_frP1 a_xN a_xS a_xE0 a_xE1 a_xA a_xB a_xC a_xD a_xE a_xF a_xG : Nat → Int32} {N k n f : Nat} {post : SY → Prop}
theorem yo_down {Q : SY → Prop} {p i : Nat} {Z : Nat → Nat → Int32} {κ : Int32} (hb : ab_bd N k n (rl_K a_bk f) (rl_K a_ba f) (rl_K a_bb f) (rl_c (rl_K a_bk f) (rl_K a_bb f))) (hf : f < 8) (hn : n ≤ 128) (hp : p < 15) (hi : i < n) (hc : 0 < (rl_c (rl_K a_bk f) (rl_K a_bb f)) i)
    (H : ∀ Z', Z' = ya_push (ya_z Z 1 p 1) (p + 1) (bs_ch (rl_c (rl_K a_bk f) (rl_K a_bb f)) i 0) (Z 2 p) (Z 3 p) → Q (f_n, f_cap, f_ana, f_res, f_anyT, f_intsT, f_wp, f_vp, f_made, f_active, nI (p + 2), f_curK, f_rBot, f_rR, f_rE0, f_rE1, a_st, a_ar, a_size, a_bk, a_ba, a_bb, a_ds, a_tab, a_nxt, a_wN, a_wS, a_wF, a_vs, a_frS, a_frP0, a_frP1, Z' 0, Z' 1, Z' 2, Z' 3, Z' 4, Z' 5, Z' 6, Z' 7, Z' 8, Z' 9, Z' 10)) : wpY_stepOp Q (f_n, f_cap, f_ana, f_res, f_anyT, f_intsT, f_wp, f_vp, f_made, f_active, nI (p + 1), f_curK, f_rBot, f_rR, f_rE0, f_rE1, a_st, a_ar, a_size, a_bk, a_ba, a_bb, a_ds, a_tab, a_nxt, a_wN, a_wS, a_wF, a_vs, a_frS, a_frP0, a_frP1, Z 0, Z 1, Z 2, Z 3, Z 4, Z 5, Z 6, Z 7, Z 8, Z 9, Z 10) (nI f) (nI p) (nI i) 0 κ := by
  have w : vp_in (nI p) 16 := vp_in_nI (by omega) (by decide)
  have cp : (nI p).toNatClampNeg = p := nI_clamp (by omega)
  have s38 : ∀ z0 : Int32, wY_stepOp_12 Q (nI f) (nI p) (nI i) 0 κ z0 f_n f_cap f_ana f_res f_anyT f_intsT f_wp f_vp f_made f_active (nI (p + 1)) f_curK f_rBot f_rR f_rE0 f_rE1 a_st a_ar a_size a_bk a_ba a_bb a_ds a_tab a_nxt a_wN a_wS a_wF a_vs a_frS a_frP0 a_frP1 (Z 0) (Z 1) (Z 2) (Z 3) (Z 4) (Z 5) (Z 6) (Z 7) (Z 8) (Z 9) (Z 10) := by
    intro z0
    refine br_t (by decide) (br_t rfl ⟨w, nm_r (e' := upd (Z 1) p 1) (by rw [cp]) ?_⟩)
    refine yk_cp (j := 0) hf hn hb hi hc ⟨w, w, ?_⟩
    rw [cp]
    exact yc_push (Z := ya_z Z 1 p 1) (p := p + 1) (by omega) (H _ rfl)
  unfold wpY_stepOp
  dsimp only
  exact br_c (fun _ => s38 1) (fun _ => s38 2)
theorem yi_down {Q : SY → Prop} {p i : Nat} {Z : Nat → Nat → Int32} (hb : ab_bd N k n (rl_K a_bk f) (rl_K a_ba f) (rl_K a_bb f) (rl_c (rl_K a_bk f) (rl_K a_bb f))) (hf : f < 8) (hn : n ≤ 128) (hp : p < 15) (hi : i < n) (hc : 0 < (rl_c (rl_K a_bk f) (rl_K a_bb f)) i)
    (H : ∀ Z', Z' = ya_push (ya_z Z 1 p 1) (p + 1) (bs_ch (rl_c (rl_K a_bk f) (rl_K a_bb f)) i 0) (Z 2 p) (Z 3 p) → Q (f_n, f_cap, f_ana, f_res, f_anyT, f_intsT, f_wp, f_vp, f_made, f_active, nI (p + 2), f_curK, f_rBot, f_rR, f_rE0, f_rE1, a_st, a_ar, a_size, a_bk, a_ba, a_bb, a_ds, a_tab, a_nxt, a_wN, a_wS, a_wF, a_vs, a_frS, a_frP0, a_frP1, Z' 0, Z' 1, Z' 2, Z' 3, Z' 4, Z' 5, Z' 6, Z' 7, Z' 8, Z' 9, Z' 10)) : wpY_stepIf Q (f_n, f_cap, f_ana, f_res, f_anyT, f_intsT, f_wp, f_vp, f_made, f_active, nI (p + 1), f_curK, f_rBot, f_rR, f_rE0, f_rE1, a_st, a_ar, a_size, a_bk, a_ba, a_bb, a_ds, a_tab, a_nxt, a_wN, a_wS, a_wF, a_vs, a_frS, a_frP0, a_frP1, Z 0, Z 1, Z 2, Z 3, Z 4, Z 5, Z 6, Z 7, Z 8, Z 9, Z 10) (nI f) (nI p) (nI i) 0 := by
  have w : vp_in (nI p) 16 := vp_in_nI (by omega) (by decide)
  have cp : (nI p).toNatClampNeg = p := nI_clamp (by omega)
  unfold wpY_stepIf
  dsimp only
  refine br_t rfl ⟨w, nm_r (e' := upd (Z 1) p 1) (by rw [cp]) ?_⟩
  refine yk_cp (j := 0) hf hn hb hi hc ⟨w, w, ?_⟩
  rw [cp]
  exact yc_push (Z := ya_z Z 1 p 1) (p := p + 1) (by omega) (H _ rfl)
theorem yl_down {Q : SY → Prop} {p i m : Nat} {Z : Nat → Nat → Int32} {g : Int32} (hb : ab_bd N k n (rl_K a_bk f) (rl_K a_ba f) (rl_K a_bb f) (rl_c (rl_K a_bk f) (rl_K a_bb f))) (hf : f < 8) (hn : n ≤ 128) (hp : p < 15) (hi : i < n) (hc : 0 < (rl_c (rl_K a_bk f) (rl_K a_bb f)) i) (hm : 0 < m) (hm2 : m ≤ 2)
    (H : ∀ Z', Z' = ya_push (ya_z Z 1 p 1) (p + 1) (bs_ch (rl_c (rl_K a_bk f) (rl_K a_bb f)) i 0) (Z 2 p) (Z 3 p) → Q (f_n, f_cap, f_ana, f_res, f_anyT, f_intsT, f_wp, f_vp, f_made, f_active, nI (p + 2), f_curK, f_rBot, f_rR, f_rE0, f_rE1, a_st, a_ar, a_size, a_bk, a_ba, a_bb, a_ds, a_tab, a_nxt, a_wN, a_wS, a_wF, a_vs, a_frS, a_frP0, a_frP1, Z' 0, Z' 1, Z' 2, Z' 3, Z' 4, Z' 5, Z' 6, Z' 7, Z' 8, Z' 9, Z' 10)) : wpY_stepCall Q (f_n, f_cap, f_ana, f_res, f_anyT, f_intsT, f_wp, f_vp, f_made, f_active, nI (p + 1), f_curK, f_rBot, f_rR, f_rE0, f_rE1, a_st, a_ar, a_size, a_bk, a_ba, a_bb, a_ds, a_tab, a_nxt, a_wN, a_wS, a_wF, a_vs, a_frS, a_frP0, a_frP1, Z 0, Z 1, Z 2, Z 3, Z 4, Z 5, Z 6, Z 7, Z 8, Z 9, Z 10) (nI f) (nI p) (nI i) 0 g (nI m) := by
  have w : vp_in (nI p) 16 := vp_in_nI (by omega) (by decide)
  have cp : (nI p).toNatClampNeg = p := nI_clamp (by omega)
  unfold wpY_stepCall
  dsimp only
  refine br_t (by decide) (br_f (nI_nle hm (by omega)) (br_f (by decide) ⟨w, nm_r (e' := upd (Z 1) p 1) (by rw [cp]; rfl) ?_⟩))
  refine yk_cp (j := 0) hf hn hb hi hc (br_t rfl ⟨w, w, ?_⟩)
  rw [cp]
  exact yc_push (Z := ya_z Z 1 p 1) (p := p + 1) (by omega) (H _ rfl)
theorem yr_1 (hb : ab_bd N k n (rl_K a_bk f) (rl_K a_ba f) (rl_K a_bb f) (rl_c (rl_K a_bk f) (rl_K a_bb f))) (hk2 : k ≤ 2) (hf : f < 8) (hn : n ≤ 128) : ya_R1 k n (rl_K a_bk f) (rl_K a_ba f) (yc_A post f f_n f_cap f_ana f_res f_anyT f_intsT f_wp f_vp f_made f_active f_xp (nI k) f_rBot f_rR f_rE0 f_rE1 a_st a_ar a_size a_bk a_ba a_bb a_ds a_tab a_nxt a_wN a_wS a_wF a_vs a_frS a_frP0 a_frP1 a_xN a_xS a_xE0 a_xE1 a_xA a_xB a_xC a_xD a_xE a_xF a_xG) := by
  intro t p Z b r e0 e1 i e ht hp hi h0 hK he h2 h3 hk fuel hfu
  obtain ⟨fuel, rfl⟩ : ∃ m, fuel = m + 1 := ⟨fuel - 1, by omega⟩
  have w : vp_in (nI p) 16 := vp_in_nI hp (by decide)
  have cp : (nI p).toNatClampNeg = p := nI_clamp (by omega)
  have wi : vp_in (nI (f * 128 + i)) 1024 := vp_in_nI (by omega) (by decide)
  have ci : (nI (f * 128 + i)).toNatClampNeg = f * 128 + i := nI_clamp (by omega)
  have go : ∀ {o : ab_O}, ya_k (yc_A post f f_n f_cap f_ana f_res f_anyT f_intsT f_wp f_vp f_made f_active f_xp (nI k) f_rBot f_rR f_rE0 f_rE1 a_st a_ar a_size a_bk a_ba a_bb a_ds a_tab a_nxt a_wN a_wS a_wF a_vs a_frS a_frP0 a_frP1 a_xN a_xS a_xE0 a_xE1 a_xA a_xB a_xC a_xD a_xE a_xF a_xG (t + 1) p Z) o → ya_k (fun b r e0 e1 => ∀ x : Int32, x = nI t + 1 → wY_absEval_53 post (nI f) fuel x f_n f_cap f_ana f_res f_anyT f_intsT f_wp f_vp f_made f_active (nI p) (nI k) b r e0 e1 a_st a_ar a_size a_bk a_ba a_bb a_ds a_tab a_nxt a_wN a_wS a_wF a_vs a_frS a_frP0 a_frP1 (Z 0) (Z 1) (Z 2) (Z 3) (Z 4) (Z 5) (Z 6) (Z 7) (Z 8) (Z 9) (Z 10)) o :=
    fun h => ya_k_imp (fun b r e0 e1 h => nm_r (nI_1 t) (h fuel (by omega))) h
  unfold ab_leaf at hk
  rcases hK with hK | hK | hK
  · rw [if_pos hK] at hk
    obtain ⟨l1, l2⟩ := (hb.1 i hi).2.1 hK
    refine br_f (nI_ge (b := 4096) ht (by decide)) (br_f (nI_nle (Nat.succ_pos p) (by omega)) (nm_r (e' := nI p) (yc_top hp) ⟨w, nm_r (e' := nI i) (by rw [cp]; exact h0) ⟨w, nm_r (e' := Z 1 p) (by rw [cp]) (nm_r (yk_ix hf (by omega)) ⟨wi, nm_r (e' := 0) (by rw [ci]; exact hK) ⟨wi, nm_r (e' := rl_K a_ba f i) (by rw [ci]; rfl) (br_t rfl ?_) ⟩⟩)⟩⟩))
    refine yt_range (Int.le_refl _) l2 l1 (nm_r (nI_pred p) ⟨w, w, ?_⟩)
    rw [cp, h2, h3]
    exact yc_set hk2 (ty_r_ok (Int.le_refl _)) he (go hk)
  · rw [if_neg (by rw [hK]; decide), if_pos hK] at hk
    obtain ⟨j, hj, ej⟩ := (hb.1 i hi).2.2.1 hK
    rw [ej, nI_clamp (by omega)] at hk
    refine br_f (nI_ge (b := 4096) ht (by decide)) (br_f (nI_nle (Nat.succ_pos p) (by omega)) (nm_r (e' := nI p) (yc_top hp) ⟨w, nm_r (e' := nI i) (by rw [cp]; exact h0) ⟨w, nm_r (e' := Z 1 p) (by rw [cp]) (nm_r (yk_ix hf (by omega)) ⟨wi, nm_r (e' := 1) (by rw [ci]; exact hK) ⟨wi, nm_r (e' := rl_K a_ba f i) (by rw [ci]; rfl) (br_f (by decide) (br_t rfl ?_)) ⟩⟩)⟩⟩))
    refine nm_r (nI_pred p) ⟨w, w, ?_⟩
    have e1 : (1 : Int32) <<< (rl_K a_ba f i &&& 31) = ty_y (2 ^ j, 0, 0) := by rw [ej]; exact xc_pow j hj
    rw [cp, h2, h3, e1]
    exact yc_set hk2 (ab_pow_ok hj) he (go hk)
  · rw [if_neg (by rw [hK]; decide), if_neg (by rw [hK]; decide)] at hk
    refine br_f (nI_ge (b := 4096) ht (by decide)) (br_f (nI_nle (Nat.succ_pos p) (by omega)) (nm_r (e' := nI p) (yc_top hp) ⟨w, nm_r (e' := nI i) (by rw [cp]; exact h0) ⟨w, nm_r (e' := Z 1 p) (by rw [cp]) (nm_r (yk_ix hf (by omega)) ⟨wi, nm_r (e' := 2) (by rw [ci]; exact hK) ⟨wi, nm_r (e' := rl_K a_ba f i) (by rw [ci]; rfl) (br_f (by decide) (br_f (by decide) (br_t rfl ?_))) ⟩⟩)⟩⟩))
    rw [cp, h2, h3]
    by_cases z : rl_K a_ba f i = 0
    · rw [if_pos z] at hk
      refine br_t z ⟨w, nm_r (nI_pred p) ⟨w, w, ?_⟩⟩
      rw [cp, h2, h3]
      exact yc_set hk2 he.1 he (go hk)
    · rw [if_neg z] at hk
      refine br_f z ⟨w, nm_r (nI_pred p) ⟨w, w, ?_⟩⟩
      rw [cp, h2, h3]
      exact yc_set hk2 he.2.1 he (go hk)
theorem yr_2 (hb : ab_bd N k n (rl_K a_bk f) (rl_K a_ba f) (rl_K a_bb f) (rl_c (rl_K a_bk f) (rl_K a_bb f))) (hf : f < 8) (hn : n ≤ 128) : ya_R2 n (rl_c (rl_K a_bk f) (rl_K a_bb f)) (yc_A post f f_n f_cap f_ana f_res f_anyT f_intsT f_wp f_vp f_made f_active f_xp f_curK f_rBot f_rR f_rE0 f_rE1 a_st a_ar a_size a_bk a_ba a_bb a_ds a_tab a_nxt a_wN a_wS a_wF a_vs a_frS a_frP0 a_frP1 a_xN a_xS a_xE0 a_xE1 a_xA a_xB a_xC a_xD a_xE a_xF a_xG) := by
  intro t p Z b r e0 e1 i ht hp' hi h0 h1 hc hk fuel hfu
  obtain ⟨fuel, rfl⟩ : ∃ m, fuel = m + 1 := ⟨fuel - 1, by omega⟩
  have hp : p < 16 := by omega
  have w : vp_in (nI p) 16 := vp_in_nI hp (by decide)
  have cp : (nI p).toNatClampNeg = p := nI_clamp (by omega)
  have wi : vp_in (nI (f * 128 + i)) 1024 := vp_in_nI (by omega) (by decide)
  have ci : (nI (f * 128 + i)).toNatClampNeg = f * 128 + i := nI_clamp (by omega)
  have fin : ∀ Z' : Nat → Nat → Int32, Z' = ya_push (ya_z Z 1 p 1) (p + 1) (bs_ch (rl_c (rl_K a_bk f) (rl_K a_bb f)) i 0) (Z 2 p) (Z 3 p) → ∀ x : Int32, x = nI t + 1 → wY_absEval_53 post (nI f) fuel x f_n f_cap f_ana f_res f_anyT f_intsT f_wp f_vp f_made f_active (nI (p + 2)) f_curK b r e0 e1 a_st a_ar a_size a_bk a_ba a_bb a_ds a_tab a_nxt a_wN a_wS a_wF a_vs a_frS a_frP0 a_frP1 (Z' 0) (Z' 1) (Z' 2) (Z' 3) (Z' 4) (Z' 5) (Z' 6) (Z' 7) (Z' 8) (Z' 9) (Z' 10) := by
    intro Z' eZ
    subst eZ
    exact nm_r (nI_1 t) (hk fuel (by omega))
  have hcc : (rl_c (rl_K a_bk f) (rl_K a_bb f)) i = bs_cc (rl_K a_bk f i) (rl_K a_bb f i) := rfl
  rcases bd_10 (hb.1 i hi) with hK | hK | hK | hK | hK | hK | hK | hK | hK | hK
  · rw [hcc, hK, bs_cc0] at hc; omega
  · rw [hcc, hK, bs_cc1] at hc; omega
  · rw [hcc, hK, bs_cc2] at hc; omega
  · exact br_f (nI_ge (b := 4096) ht (by decide)) (br_f (nI_nle (Nat.succ_pos p) (by omega)) (nm_r (e' := nI p) (yc_top hp) ⟨w, nm_r (e' := nI i) (by rw [cp]; exact h0) ⟨w, nm_r (e' := 0) (by rw [cp]; exact h1) (nm_r (yk_ix hf (by omega)) ⟨wi, nm_r (e' := 3) (by rw [ci]; exact hK) ⟨wi, nm_r (e' := rl_K a_ba f i) (by rw [ci]; rfl) (br_f (by decide) (br_f (by decide) (br_f (by decide) (br_f (by decide) (br_f (by decide) (yo_down hb hf hn hp' hi hc fin)))))) ⟩⟩)⟩⟩))
  · exact br_f (nI_ge (b := 4096) ht (by decide)) (br_f (nI_nle (Nat.succ_pos p) (by omega)) (nm_r (e' := nI p) (yc_top hp) ⟨w, nm_r (e' := nI i) (by rw [cp]; exact h0) ⟨w, nm_r (e' := 0) (by rw [cp]; exact h1) (nm_r (yk_ix hf (by omega)) ⟨wi, nm_r (e' := 4) (by rw [ci]; exact hK) ⟨wi, nm_r (e' := rl_K a_ba f i) (by rw [ci]; rfl) (br_f (by decide) (br_f (by decide) (br_f (by decide) (br_f (by decide) (br_f (by decide) (yo_down hb hf hn hp' hi hc fin)))))) ⟩⟩)⟩⟩))
  · exact br_f (nI_ge (b := 4096) ht (by decide)) (br_f (nI_nle (Nat.succ_pos p) (by omega)) (nm_r (e' := nI p) (yc_top hp) ⟨w, nm_r (e' := nI i) (by rw [cp]; exact h0) ⟨w, nm_r (e' := 0) (by rw [cp]; exact h1) (nm_r (yk_ix hf (by omega)) ⟨wi, nm_r (e' := 5) (by rw [ci]; exact hK) ⟨wi, nm_r (e' := rl_K a_ba f i) (by rw [ci]; rfl) (br_f (by decide) (br_f (by decide) (br_f (by decide) (br_f (by decide) (br_f (by decide) (yo_down hb hf hn hp' hi hc fin)))))) ⟩⟩)⟩⟩))
  · exact br_f (nI_ge (b := 4096) ht (by decide)) (br_f (nI_nle (Nat.succ_pos p) (by omega)) (nm_r (e' := nI p) (yc_top hp) ⟨w, nm_r (e' := nI i) (by rw [cp]; exact h0) ⟨w, nm_r (e' := 0) (by rw [cp]; exact h1) (nm_r (yk_ix hf (by omega)) ⟨wi, nm_r (e' := 6) (by rw [ci]; exact hK) ⟨wi, nm_r (e' := rl_K a_ba f i) (by rw [ci]; rfl) (br_f (by decide) (br_f (by decide) (br_f (by decide) (br_f (by decide) (br_f (by decide) (yo_down hb hf hn hp' hi hc fin)))))) ⟩⟩)⟩⟩))
  · exact br_f (nI_ge (b := 4096) ht (by decide)) (br_f (nI_nle (Nat.succ_pos p) (by omega)) (nm_r (e' := nI p) (yc_top hp) ⟨w, nm_r (e' := nI i) (by rw [cp]; exact h0) ⟨w, nm_r (e' := 0) (by rw [cp]; exact h1) (nm_r (yk_ix hf (by omega)) ⟨wi, nm_r (e' := 7) (by rw [ci]; exact hK) ⟨wi, nm_r (e' := rl_K a_ba f i) (by rw [ci]; rfl) (br_f (by decide) (br_f (by decide) (br_f (by decide) (br_f (by decide) (br_f (by decide) (yo_down hb hf hn hp' hi hc fin)))))) ⟩⟩)⟩⟩))
  · exact br_f (nI_ge (b := 4096) ht (by decide)) (br_f (nI_nle (Nat.succ_pos p) (by omega)) (nm_r (e' := nI p) (yc_top hp) ⟨w, nm_r (e' := nI i) (by rw [cp]; exact h0) ⟨w, nm_r (e' := 0) (by rw [cp]; exact h1) (nm_r (yk_ix hf (by omega)) ⟨wi, nm_r (e' := 8) (by rw [ci]; exact hK) ⟨wi, nm_r (e' := rl_K a_ba f i) (by rw [ci]; rfl) (br_f (by decide) (br_f (by decide) (br_f (by decide) (br_t rfl (yi_down hb hf hn hp' hi hc fin))))) ⟩⟩)⟩⟩))
  · obtain ⟨m, hm, em⟩ := (hb.1 i hi).2.2.2.2.2.1
    have hm0 : 0 < m := by
      rw [hcc, hK, bs_cc9, em, nI_clamp (by omega)] at hc; exact hc
    refine br_f (nI_ge (b := 4096) ht (by decide)) (br_f (nI_nle (Nat.succ_pos p) (by omega)) (nm_r (e' := nI p) (yc_top hp) ⟨w, nm_r (e' := nI i) (by rw [cp]; exact h0) ⟨w, nm_r (e' := 0) (by rw [cp]; exact h1) (nm_r (yk_ix hf (by omega)) ⟨wi, nm_r (e' := 9) (by rw [ci]; exact hK) ⟨wi, nm_r (e' := rl_K a_ba f i) (by rw [ci]; rfl) (br_f (by decide) (br_f (by decide) (br_f (by decide) (br_f (by decide) (br_t rfl ⟨wi, ?_⟩))))) ⟩⟩)⟩⟩))
    rw [ci, show a_bb (f * 128 + i) = nI m from em]
    exact yl_down hb hf hn hp' hi hc hm0 hm fin
end

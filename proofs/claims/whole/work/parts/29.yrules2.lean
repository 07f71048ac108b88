section
variable {f_n f_cap f_ana f_res f_anyT f_intsT f_wp f_vp f_made f_active f_xp f_curK f_rBot f_rR f_rE0 f_rE1 : Int32} {a_st a_ar a_size a_bk a_ba a_bb a_ds a_tab a_nxt a_wN a_wS a_wF a_vs a_frS a_frP0 a_frP1 a_xN a_xS a_xE0 a_xE1 a_xA a_xB a_xC a_xD a_xE a_xF a_xG : Nat → Int32} {N k n f : Nat} {post : SY → Prop}
theorem yo_bot {Q : SY → Prop} {p i s : Nat} {Z : Nat → Nat → Int32} {κ : Int32} (hs : 0 < s) (hs3 : s < 3) (H : Q (f_n, f_cap, f_ana, f_res, f_anyT, f_intsT, f_wp, f_vp, f_made, f_active, nI p, f_curK, 1, f_rR, f_rE0, f_rE1, a_st, a_ar, a_size, a_bk, a_ba, a_bb, a_ds, a_tab, a_nxt, a_wN, a_wS, a_wF, a_vs, a_frS, a_frP0, a_frP1, Z 0, Z 1, Z 2, Z 3, Z 4, Z 5, Z 6, Z 7, Z 8, Z 9, Z 10)) : wpY_stepOp Q (f_n, f_cap, f_ana, f_res, f_anyT, f_intsT, f_wp, f_vp, f_made, f_active, nI (p + 1), f_curK, 1, f_rR, f_rE0, f_rE1, a_st, a_ar, a_size, a_bk, a_ba, a_bb, a_ds, a_tab, a_nxt, a_wN, a_wS, a_wF, a_vs, a_frS, a_frP0, a_frP1, Z 0, Z 1, Z 2, Z 3, Z 4, Z 5, Z 6, Z 7, Z 8, Z 9, Z 10) (nI f) (nI p) (nI i) (nI s) κ := by
  have s12 : ∀ z0 : Int32, wY_stepOp_12 Q (nI f) (nI p) (nI i) (nI s) κ z0 f_n f_cap f_ana f_res f_anyT f_intsT f_wp f_vp f_made f_active (nI (p + 1)) f_curK 1 f_rR f_rE0 f_rE1 a_st a_ar a_size a_bk a_ba a_bb a_ds a_tab a_nxt a_wN a_wS a_wF a_vs a_frS a_frP0 a_frP1 (Z 0) (Z 1) (Z 2) (Z 3) (Z 4) (Z 5) (Z 6) (Z 7) (Z 8) (Z 9) (Z 10) := fun z0 =>
    br_f (nI_nle hs (by omega)) (br_t rfl (nm_r (nI_pred p) H))
  unfold wpY_stepOp
  dsimp only
  exact br_c (fun _ => s12 1) (fun _ => s12 2)
theorem yi_bot {Q : SY → Prop} {p i : Nat} {Z : Nat → Nat → Int32} (H : Q (f_n, f_cap, f_ana, f_res, f_anyT, f_intsT, f_wp, f_vp, f_made, f_active, nI p, f_curK, 1, f_rR, f_rE0, f_rE1, a_st, a_ar, a_size, a_bk, a_ba, a_bb, a_ds, a_tab, a_nxt, a_wN, a_wS, a_wF, a_vs, a_frS, a_frP0, a_frP1, Z 0, Z 1, Z 2, Z 3, Z 4, Z 5, Z 6, Z 7, Z 8, Z 9, Z 10)) : wpY_stepIf Q (f_n, f_cap, f_ana, f_res, f_anyT, f_intsT, f_wp, f_vp, f_made, f_active, nI (p + 1), f_curK, 1, f_rR, f_rE0, f_rE1, a_st, a_ar, a_size, a_bk, a_ba, a_bb, a_ds, a_tab, a_nxt, a_wN, a_wS, a_wF, a_vs, a_frS, a_frP0, a_frP1, Z 0, Z 1, Z 2, Z 3, Z 4, Z 5, Z 6, Z 7, Z 8, Z 9, Z 10) (nI f) (nI p) (nI i) 1 := by
  unfold wpY_stepIf
  dsimp only
  exact br_f (by decide) (br_t rfl (br_t rfl (nm_r (nI_pred p) H)))
theorem yl_bot {Q : SY → Prop} {p i s : Nat} {Z : Nat → Nat → Int32} {g m : Int32} (hs : 0 < s) (hs3 : s < 3) (H : Q (f_n, f_cap, f_ana, f_res, f_anyT, f_intsT, f_wp, f_vp, f_made, f_active, nI p, f_curK, 1, f_rR, f_rE0, f_rE1, a_st, a_ar, a_size, a_bk, a_ba, a_bb, a_ds, a_tab, a_nxt, a_wN, a_wS, a_wF, a_vs, a_frS, a_frP0, a_frP1, Z 0, Z 1, Z 2, Z 3, Z 4, Z 5, Z 6, Z 7, Z 8, Z 9, Z 10)) : wpY_stepCall Q (f_n, f_cap, f_ana, f_res, f_anyT, f_intsT, f_wp, f_vp, f_made, f_active, nI (p + 1), f_curK, 1, f_rR, f_rE0, f_rE1, a_st, a_ar, a_size, a_bk, a_ba, a_bb, a_ds, a_tab, a_nxt, a_wN, a_wS, a_wF, a_vs, a_frS, a_frP0, a_frP1, Z 0, Z 1, Z 2, Z 3, Z 4, Z 5, Z 6, Z 7, Z 8, Z 9, Z 10) (nI f) (nI p) (nI i) (nI s) g m := by
  unfold wpY_stepCall
  dsimp only
  exact br_f (nI_nle hs (by omega)) (br_t rfl (nm_r (nI_pred p) H))
theorem yr_3 (hb : ab_bd N k n (rl_K a_bk f) (rl_K a_ba f) (rl_K a_bb f) (rl_c (rl_K a_bk f) (rl_K a_bb f))) (hf : f < 8) (hn : n ≤ 128) : ya_R3 n (rl_K a_bk f) (rl_c (rl_K a_bk f) (rl_K a_bb f)) (yc_A post f f_n f_cap f_ana f_res f_anyT f_intsT f_wp f_vp f_made f_active f_xp f_curK f_rBot f_rR f_rE0 f_rE1 a_st a_ar a_size a_bk a_ba a_bb a_ds a_tab a_nxt a_wN a_wS a_wF a_vs a_frS a_frP0 a_frP1 a_xN a_xS a_xE0 a_xE1 a_xA a_xB a_xC a_xD a_xE a_xF a_xG) := by
  intro t p Z r e0 e1 i s ht hp hi h0 h1 hs hs3 hc h8 hk fuel hfu
  obtain ⟨fuel, rfl⟩ : ∃ m, fuel = m + 1 := ⟨fuel - 1, by omega⟩
  have w : vp_in (nI p) 16 := vp_in_nI (by omega) (by decide)
  have cp : (nI p).toNatClampNeg = p := nI_clamp (by omega)
  have wi : vp_in (nI (f * 128 + i)) 1024 := vp_in_nI (by omega) (by decide)
  have ci : (nI (f * 128 + i)).toNatClampNeg = f * 128 + i := nI_clamp (by omega)
  have fin : ∀ x : Int32, x = nI t + 1 → wY_absEval_53 post (nI f) fuel x f_n f_cap f_ana f_res f_anyT f_intsT f_wp f_vp f_made f_active (nI p) f_curK 1 r e0 e1 a_st a_ar a_size a_bk a_ba a_bb a_ds a_tab a_nxt a_wN a_wS a_wF a_vs a_frS a_frP0 a_frP1 (Z 0) (Z 1) (Z 2) (Z 3) (Z 4) (Z 5) (Z 6) (Z 7) (Z 8) (Z 9) (Z 10) := nm_r (nI_1 t) (hk fuel (by omega))
  have hcc : (rl_c (rl_K a_bk f) (rl_K a_bb f)) i = bs_cc (rl_K a_bk f i) (rl_K a_bb f i) := rfl
  rcases bd_10 (hb.1 i hi) with hK | hK | hK | hK | hK | hK | hK | hK | hK | hK
  · rw [hcc, hK, bs_cc0] at hc; omega
  · rw [hcc, hK, bs_cc1] at hc; omega
  · rw [hcc, hK, bs_cc2] at hc; omega
  · exact br_f (nI_ge (b := 4096) ht (by decide)) (br_f (nI_nle (Nat.succ_pos p) (by omega)) (nm_r (e' := nI p) (yc_top hp) ⟨w, nm_r (e' := nI i) (by rw [cp]; exact h0) ⟨w, nm_r (e' := nI s) (by rw [cp]; exact h1) (nm_r (yk_ix hf (by omega)) ⟨wi, nm_r (e' := 3) (by rw [ci]; exact hK) ⟨wi, nm_r (e' := rl_K a_ba f i) (by rw [ci]; rfl) (br_f (by decide) (br_f (by decide) (br_f (by decide) (br_f (by decide) (br_f (by decide) (yo_bot hs hs3 fin)))))) ⟩⟩)⟩⟩))
  · exact br_f (nI_ge (b := 4096) ht (by decide)) (br_f (nI_nle (Nat.succ_pos p) (by omega)) (nm_r (e' := nI p) (yc_top hp) ⟨w, nm_r (e' := nI i) (by rw [cp]; exact h0) ⟨w, nm_r (e' := nI s) (by rw [cp]; exact h1) (nm_r (yk_ix hf (by omega)) ⟨wi, nm_r (e' := 4) (by rw [ci]; exact hK) ⟨wi, nm_r (e' := rl_K a_ba f i) (by rw [ci]; rfl) (br_f (by decide) (br_f (by decide) (br_f (by decide) (br_f (by decide) (br_f (by decide) (yo_bot hs hs3 fin)))))) ⟩⟩)⟩⟩))
  · exact br_f (nI_ge (b := 4096) ht (by decide)) (br_f (nI_nle (Nat.succ_pos p) (by omega)) (nm_r (e' := nI p) (yc_top hp) ⟨w, nm_r (e' := nI i) (by rw [cp]; exact h0) ⟨w, nm_r (e' := nI s) (by rw [cp]; exact h1) (nm_r (yk_ix hf (by omega)) ⟨wi, nm_r (e' := 5) (by rw [ci]; exact hK) ⟨wi, nm_r (e' := rl_K a_ba f i) (by rw [ci]; rfl) (br_f (by decide) (br_f (by decide) (br_f (by decide) (br_f (by decide) (br_f (by decide) (yo_bot hs hs3 fin)))))) ⟩⟩)⟩⟩))
  · exact br_f (nI_ge (b := 4096) ht (by decide)) (br_f (nI_nle (Nat.succ_pos p) (by omega)) (nm_r (e' := nI p) (yc_top hp) ⟨w, nm_r (e' := nI i) (by rw [cp]; exact h0) ⟨w, nm_r (e' := nI s) (by rw [cp]; exact h1) (nm_r (yk_ix hf (by omega)) ⟨wi, nm_r (e' := 6) (by rw [ci]; exact hK) ⟨wi, nm_r (e' := rl_K a_ba f i) (by rw [ci]; rfl) (br_f (by decide) (br_f (by decide) (br_f (by decide) (br_f (by decide) (br_f (by decide) (yo_bot hs hs3 fin)))))) ⟩⟩)⟩⟩))
  · exact br_f (nI_ge (b := 4096) ht (by decide)) (br_f (nI_nle (Nat.succ_pos p) (by omega)) (nm_r (e' := nI p) (yc_top hp) ⟨w, nm_r (e' := nI i) (by rw [cp]; exact h0) ⟨w, nm_r (e' := nI s) (by rw [cp]; exact h1) (nm_r (yk_ix hf (by omega)) ⟨wi, nm_r (e' := 7) (by rw [ci]; exact hK) ⟨wi, nm_r (e' := rl_K a_ba f i) (by rw [ci]; rfl) (br_f (by decide) (br_f (by decide) (br_f (by decide) (br_f (by decide) (br_f (by decide) (yo_bot hs hs3 fin)))))) ⟩⟩)⟩⟩))
  · rw [h8 hK] at h1
    exact br_f (nI_ge (b := 4096) ht (by decide)) (br_f (nI_nle (Nat.succ_pos p) (by omega)) (nm_r (e' := nI p) (yc_top hp) ⟨w, nm_r (e' := nI i) (by rw [cp]; exact h0) ⟨w, nm_r (e' := 1) (by rw [cp]; exact h1) (nm_r (yk_ix hf (by omega)) ⟨wi, nm_r (e' := 8) (by rw [ci]; exact hK) ⟨wi, nm_r (e' := rl_K a_ba f i) (by rw [ci]; rfl) (br_f (by decide) (br_f (by decide) (br_f (by decide) (br_t rfl (yi_bot fin))))) ⟩⟩)⟩⟩))
  · exact br_f (nI_ge (b := 4096) ht (by decide)) (br_f (nI_nle (Nat.succ_pos p) (by omega)) (nm_r (e' := nI p) (yc_top hp) ⟨w, nm_r (e' := nI i) (by rw [cp]; exact h0) ⟨w, nm_r (e' := nI s) (by rw [cp]; exact h1) (nm_r (yk_ix hf (by omega)) ⟨wi, nm_r (e' := 9) (by rw [ci]; exact hK) ⟨wi, nm_r (e' := rl_K a_ba f i) (by rw [ci]; rfl) (br_f (by decide) (br_f (by decide) (br_f (by decide) (br_f (by decide) (br_t rfl ⟨wi, yl_bot hs hs3 fin⟩))))) ⟩⟩)⟩⟩))
theorem yo_sec {Q : SY → Prop} {p i : Nat} {Z : Nat → Nat → Int32} {κ r e0 e1 : Int32} (hb : ab_bd N k n (rl_K a_bk f) (rl_K a_ba f) (rl_K a_bb f) (rl_c (rl_K a_bk f) (rl_K a_bb f))) (hf : f < 8) (hn : n ≤ 128) (hp : p < 15) (hi : i < n) (hc : (rl_c (rl_K a_bk f) (rl_K a_bb f)) i = 2) (h7 : ¬ κ = 7)
    (H : ∀ Z', Z' = ya_push (ya_z (ya_z Z 4 p r) 1 p 2) (p + 1) (bs_ch (rl_c (rl_K a_bk f) (rl_K a_bb f)) i 1) e0 e1 → Q (f_n, f_cap, f_ana, f_res, f_anyT, f_intsT, f_wp, f_vp, f_made, f_active, nI (p + 2), f_curK, 0, r, e0, e1, a_st, a_ar, a_size, a_bk, a_ba, a_bb, a_ds, a_tab, a_nxt, a_wN, a_wS, a_wF, a_vs, a_frS, a_frP0, a_frP1, Z' 0, Z' 1, Z' 2, Z' 3, Z' 4, Z' 5, Z' 6, Z' 7, Z' 8, Z' 9, Z' 10)) : wpY_stepOp Q (f_n, f_cap, f_ana, f_res, f_anyT, f_intsT, f_wp, f_vp, f_made, f_active, nI (p + 1), f_curK, 0, r, e0, e1, a_st, a_ar, a_size, a_bk, a_ba, a_bb, a_ds, a_tab, a_nxt, a_wN, a_wS, a_wF, a_vs, a_frS, a_frP0, a_frP1, Z 0, Z 1, Z 2, Z 3, Z 4, Z 5, Z 6, Z 7, Z 8, Z 9, Z 10) (nI f) (nI p) (nI i) 1 κ := by
  have w : vp_in (nI p) 16 := vp_in_nI (by omega) (by decide)
  have cp : (nI p).toNatClampNeg = p := nI_clamp (by omega)
  unfold wpY_stepOp
  dsimp only
  refine br_f h7 (br_f (by decide) (br_f (by decide) (br_f (by decide) (br_t rfl (br_t rfl ⟨w, nm_r (e' := upd (Z 4) p r) (by rw [cp]) ⟨w, nm_r (e' := upd (Z 1) p 2) (by rw [cp]) ?_⟩⟩)))))
  refine yk_cp (j := 1) hf hn hb hi (by omega) ?_
  exact yc_push (Z := ya_z (ya_z Z 4 p r) 1 p 2) (p := p + 1) (by omega) (H _ rfl)
theorem yl_sec {Q : SY → Prop} {p i : Nat} {Z : Nat → Nat → Int32} {g r e0 e1 : Int32} (hb : ab_bd N k n (rl_K a_bk f) (rl_K a_ba f) (rl_K a_bb f) (rl_c (rl_K a_bk f) (rl_K a_bb f))) (hf : f < 8) (hn : n ≤ 128) (hp : p < 15) (hi : i < n) (hc : (rl_c (rl_K a_bk f) (rl_K a_bb f)) i = 2)
    (H : ∀ Z', Z' = ya_push (ya_z (ya_z Z 4 p r) 1 p 2) (p + 1) (bs_ch (rl_c (rl_K a_bk f) (rl_K a_bb f)) i 1) e0 e1 → Q (f_n, f_cap, f_ana, f_res, f_anyT, f_intsT, f_wp, f_vp, f_made, f_active, nI (p + 2), f_curK, 0, r, e0, e1, a_st, a_ar, a_size, a_bk, a_ba, a_bb, a_ds, a_tab, a_nxt, a_wN, a_wS, a_wF, a_vs, a_frS, a_frP0, a_frP1, Z' 0, Z' 1, Z' 2, Z' 3, Z' 4, Z' 5, Z' 6, Z' 7, Z' 8, Z' 9, Z' 10)) : wpY_stepCall Q (f_n, f_cap, f_ana, f_res, f_anyT, f_intsT, f_wp, f_vp, f_made, f_active, nI (p + 1), f_curK, 0, r, e0, e1, a_st, a_ar, a_size, a_bk, a_ba, a_bb, a_ds, a_tab, a_nxt, a_wN, a_wS, a_wF, a_vs, a_frS, a_frP0, a_frP1, Z 0, Z 1, Z 2, Z 3, Z 4, Z 5, Z 6, Z 7, Z 8, Z 9, Z 10) (nI f) (nI p) (nI i) 1 g 2 := by
  have w : vp_in (nI p) 16 := vp_in_nI (by omega) (by decide)
  have cp : (nI p).toNatClampNeg = p := nI_clamp (by omega)
  unfold wpY_stepCall
  dsimp only
  refine br_f (by decide) (br_f (by decide) (br_f (by decide) (br_t rfl ⟨w, nm_r (e' := upd (Z 4) p r) (by rw [cp]) ⟨w, nm_r (e' := upd (Z 1) p 2) (by rw [cp]; rfl) ?_⟩⟩)))
  refine yk_cp (j := 1) hf hn hb hi (by omega) (br_f (by decide) ?_)
  exact yc_push (Z := ya_z (ya_z Z 4 p r) 1 p 2) (p := p + 1) (by omega) (H _ rfl)
theorem yr_4 (hb : ab_bd N k n (rl_K a_bk f) (rl_K a_ba f) (rl_K a_bb f) (rl_c (rl_K a_bk f) (rl_K a_bb f))) (hf : f < 8) (hn : n ≤ 128) : ya_R4 n (rl_c (rl_K a_bk f) (rl_K a_bb f)) (yc_A post f f_n f_cap f_ana f_res f_anyT f_intsT f_wp f_vp f_made f_active f_xp f_curK f_rBot f_rR f_rE0 f_rE1 a_st a_ar a_size a_bk a_ba a_bb a_ds a_tab a_nxt a_wN a_wS a_wF a_vs a_frS a_frP0 a_frP1 a_xN a_xS a_xE0 a_xE1 a_xA a_xB a_xC a_xD a_xE a_xF a_xG) := by
  intro t p Z r e0 e1 i ht hp' hi h0 h1 hc hk fuel hfu
  have hp : p < 16 := by omega
  obtain ⟨fuel, rfl⟩ : ∃ m, fuel = m + 1 := ⟨fuel - 1, by omega⟩
  have w : vp_in (nI p) 16 := vp_in_nI (by omega) (by decide)
  have cp : (nI p).toNatClampNeg = p := nI_clamp (by omega)
  have wi : vp_in (nI (f * 128 + i)) 1024 := vp_in_nI (by omega) (by decide)
  have ci : (nI (f * 128 + i)).toNatClampNeg = f * 128 + i := nI_clamp (by omega)
  have fin : ∀ Z' : Nat → Nat → Int32, Z' = ya_push (ya_z (ya_z Z 4 p r) 1 p 2) (p + 1) (bs_ch (rl_c (rl_K a_bk f) (rl_K a_bb f)) i 1) e0 e1 → ∀ x : Int32, x = nI t + 1 → wY_absEval_53 post (nI f) fuel x f_n f_cap f_ana f_res f_anyT f_intsT f_wp f_vp f_made f_active (nI (p + 2)) f_curK 0 r e0 e1 a_st a_ar a_size a_bk a_ba a_bb a_ds a_tab a_nxt a_wN a_wS a_wF a_vs a_frS a_frP0 a_frP1 (Z' 0) (Z' 1) (Z' 2) (Z' 3) (Z' 4) (Z' 5) (Z' 6) (Z' 7) (Z' 8) (Z' 9) (Z' 10) := by
    intro Z' eZ
    subst eZ
    exact nm_r (nI_1 t) (hk fuel (by omega))
  have hcc : (rl_c (rl_K a_bk f) (rl_K a_bb f)) i = bs_cc (rl_K a_bk f i) (rl_K a_bb f i) := rfl
  rcases bd_10 (hb.1 i hi) with hK | hK | hK | hK | hK | hK | hK | hK | hK | hK
  · rw [hcc, hK, bs_cc0] at hc; omega
  · rw [hcc, hK, bs_cc1] at hc; omega
  · rw [hcc, hK, bs_cc2] at hc; omega
  · exact br_f (nI_ge (b := 4096) ht (by decide)) (br_f (nI_nle (Nat.succ_pos p) (by omega)) (nm_r (e' := nI p) (yc_top hp) ⟨w, nm_r (e' := nI i) (by rw [cp]; exact h0) ⟨w, nm_r (e' := 1) (by rw [cp]; exact h1) (nm_r (yk_ix hf (by omega)) ⟨wi, nm_r (e' := 3) (by rw [ci]; exact hK) ⟨wi, nm_r (e' := rl_K a_ba f i) (by rw [ci]; rfl) (br_f (by decide) (br_f (by decide) (br_f (by decide) (br_f (by decide) (br_f (by decide) (yo_sec hb hf hn hp' hi hc (by decide) fin)))))) ⟩⟩)⟩⟩))
  · exact br_f (nI_ge (b := 4096) ht (by decide)) (br_f (nI_nle (Nat.succ_pos p) (by omega)) (nm_r (e' := nI p) (yc_top hp) ⟨w, nm_r (e' := nI i) (by rw [cp]; exact h0) ⟨w, nm_r (e' := 1) (by rw [cp]; exact h1) (nm_r (yk_ix hf (by omega)) ⟨wi, nm_r (e' := 4) (by rw [ci]; exact hK) ⟨wi, nm_r (e' := rl_K a_ba f i) (by rw [ci]; rfl) (br_f (by decide) (br_f (by decide) (br_f (by decide) (br_f (by decide) (br_f (by decide) (yo_sec hb hf hn hp' hi hc (by decide) fin)))))) ⟩⟩)⟩⟩))
  · exact br_f (nI_ge (b := 4096) ht (by decide)) (br_f (nI_nle (Nat.succ_pos p) (by omega)) (nm_r (e' := nI p) (yc_top hp) ⟨w, nm_r (e' := nI i) (by rw [cp]; exact h0) ⟨w, nm_r (e' := 1) (by rw [cp]; exact h1) (nm_r (yk_ix hf (by omega)) ⟨wi, nm_r (e' := 5) (by rw [ci]; exact hK) ⟨wi, nm_r (e' := rl_K a_ba f i) (by rw [ci]; rfl) (br_f (by decide) (br_f (by decide) (br_f (by decide) (br_f (by decide) (br_f (by decide) (yo_sec hb hf hn hp' hi hc (by decide) fin)))))) ⟩⟩)⟩⟩))
  · exact br_f (nI_ge (b := 4096) ht (by decide)) (br_f (nI_nle (Nat.succ_pos p) (by omega)) (nm_r (e' := nI p) (yc_top hp) ⟨w, nm_r (e' := nI i) (by rw [cp]; exact h0) ⟨w, nm_r (e' := 1) (by rw [cp]; exact h1) (nm_r (yk_ix hf (by omega)) ⟨wi, nm_r (e' := 6) (by rw [ci]; exact hK) ⟨wi, nm_r (e' := rl_K a_ba f i) (by rw [ci]; rfl) (br_f (by decide) (br_f (by decide) (br_f (by decide) (br_f (by decide) (br_f (by decide) (yo_sec hb hf hn hp' hi hc (by decide) fin)))))) ⟩⟩)⟩⟩))
  · rw [hcc, hK, bs_cc7] at hc; omega
  · rw [hcc, hK, bs_cc8] at hc; omega
  · have e2 : a_bb (f * 128 + i) = 2 := by
      have h9 := ab_c9 hb hK
      rcases ab_B hb hi with z | z | z
      · rw [z] at h9; rw [hc] at h9; exact absurd h9 (by decide)
      · rw [z] at h9; rw [hc] at h9; exact absurd h9 (by decide)
      · exact z
    refine br_f (nI_ge (b := 4096) ht (by decide)) (br_f (nI_nle (Nat.succ_pos p) (by omega)) (nm_r (e' := nI p) (yc_top hp) ⟨w, nm_r (e' := nI i) (by rw [cp]; exact h0) ⟨w, nm_r (e' := 1) (by rw [cp]; exact h1) (nm_r (yk_ix hf (by omega)) ⟨wi, nm_r (e' := 9) (by rw [ci]; exact hK) ⟨wi, nm_r (e' := rl_K a_ba f i) (by rw [ci]; rfl) (br_f (by decide) (br_f (by decide) (br_f (by decide) (br_f (by decide) (br_t rfl ⟨wi, ?_⟩))))) ⟩⟩)⟩⟩))
    rw [ci, e2]
    exact yl_sec hb hf hn hp' hi hc fin
theorem yo_isi {Q : SY → Prop} {p i : Nat} {Z : Nat → Nat → Int32} {x : ty_T} {e : ab_E} (hk2 : k ≤ 2) (ox : ty_ok x) (he : ab_eo k e)
    (H : ya_k (fun b r e0 e1 => Q (f_n, f_cap, f_ana, f_res, f_anyT, f_intsT, f_wp, f_vp, f_made, f_active, nI p, nI k, b, r, e0, e1, a_st, a_ar, a_size, a_bk, a_ba, a_bb, a_ds, a_tab, a_nxt, a_wN, a_wS, a_wF, a_vs, a_frS, a_frP0, a_frP1, Z 0, Z 1, Z 2, Z 3, Z 4, Z 5, Z 6, Z 7, Z 8, Z 9, Z 10)) (ab_fin ((if x.1 = 0 then 0 else 1) + (if x.2.1 = 0 then 0 else 2), 0, 0) e)) :
    wpY_stepOp Q (f_n, f_cap, f_ana, f_res, f_anyT, f_intsT, f_wp, f_vp, f_made, f_active, nI (p + 1), nI k, 0, ty_y x, ty_y e.1, ty_y e.2, a_st, a_ar, a_size, a_bk, a_ba, a_bb, a_ds, a_tab, a_nxt, a_wN, a_wS, a_wF, a_vs, a_frS, a_frP0, a_frP1, Z 0, Z 1, Z 2, Z 3, Z 4, Z 5, Z 6, Z 7, Z 8, Z 9, Z 10) (nI f) (nI p) (nI i) 1 7 := by
  have om := ox.1
  have fin : ∀ m : Nat, m < 256 → m = (if x.1 = 0 then 0 else 1) + (if x.2.1 = 0 then 0 else 2) → wY_stepOp_185 Q (nI m) f_n f_cap f_ana f_res f_anyT f_intsT f_wp f_vp f_made f_active (nI p) (nI k) 0 (ty_y x) (ty_y e.1) (ty_y e.2) a_st a_ar a_size a_bk a_ba a_bb a_ds a_tab a_nxt a_wN a_wS a_wF a_vs a_frS a_frP0 a_frP1 (Z 0) (Z 1) (Z 2) (Z 3) (Z 4) (Z 5) (Z 6) (Z 7) (Z 8) (Z 9) (Z 10) := by
    intro m hm em
    rw [← em] at H
    exact yc_set (r := (m, 0, 0)) hk2 (ab_lit_ok hm) he H
  unfold wpY_stepOp
  dsimp only
  refine br_t rfl (br_f (by decide) (br_f (by decide) (br_f (by decide) (br_t rfl (br_f (by decide) (nm_r (nI_pred p) (br_t rfl ?_)))))))
  rw [ty_ym ox]
  by_cases z : x.1 = 0
  · rw [z]
    refine br_t nI_0 ?_
    refine yt_has ox (fun q => br_t rfl (fin 0 (by decide) (by rw [if_pos z, if_pos q]))) (fun q => br_f (by decide) (nm_e (fin 2 (by decide) (by rw [if_pos z, if_neg q]))))
  · refine br_f (nI_ne0 (by omega) (by omega)) (nm_r (e' := 1) (by decide) ?_)
    refine yt_has ox (fun q => br_t rfl (fin 1 (by decide) (by rw [if_neg z, if_pos q]))) (fun q => br_f (by decide) (nm_e (fin 3 (by decide) (by rw [if_neg z, if_neg q]))))
theorem yr_5 (hb : ab_bd N k n (rl_K a_bk f) (rl_K a_ba f) (rl_K a_bb f) (rl_c (rl_K a_bk f) (rl_K a_bb f))) (hk2 : k ≤ 2) (hf : f < 8) (hn : n ≤ 128) : ya_R5 k n (rl_K a_bk f) (yc_A post f f_n f_cap f_ana f_res f_anyT f_intsT f_wp f_vp f_made f_active f_xp (nI k) f_rBot f_rR f_rE0 f_rE1 a_st a_ar a_size a_bk a_ba a_bb a_ds a_tab a_nxt a_wN a_wS a_wF a_vs a_frS a_frP0 a_frP1 a_xN a_xS a_xE0 a_xE1 a_xA a_xB a_xC a_xD a_xE a_xF a_xG) := by
  intro t p Z i x e ht hp hi h0 h1 hK ox he hk fuel hfu
  obtain ⟨fuel, rfl⟩ : ∃ m, fuel = m + 1 := ⟨fuel - 1, by omega⟩
  have w : vp_in (nI p) 16 := vp_in_nI (by omega) (by decide)
  have cp : (nI p).toNatClampNeg = p := nI_clamp (by omega)
  have wi : vp_in (nI (f * 128 + i)) 1024 := vp_in_nI (by omega) (by decide)
  have ci : (nI (f * 128 + i)).toNatClampNeg = f * 128 + i := nI_clamp (by omega)
  exact br_f (nI_ge (b := 4096) ht (by decide)) (br_f (nI_nle (Nat.succ_pos p) (by omega)) (nm_r (e' := nI p) (yc_top hp) ⟨w, nm_r (e' := nI i) (by rw [cp]; exact h0) ⟨w, nm_r (e' := 1) (by rw [cp]; exact h1) (nm_r (yk_ix hf (by omega)) ⟨wi, nm_r (e' := 7) (by rw [ci]; exact hK) ⟨wi, nm_r (e' := rl_K a_ba f i) (by rw [ci]; rfl) (br_f (by decide) (br_f (by decide) (br_f (by decide) (br_f (by decide) (br_f (by decide) (yo_isi hk2 ox he (ya_k_imp (fun b r e0 e1 h => nm_r (nI_1 t) (h fuel (by omega))) hk))))))) ⟩⟩)⟩⟩))
end

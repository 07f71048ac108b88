def yq_k (post : Int32 → SY → Prop) (t fuel : Nat) : Int32 → SY → Prop := fun r u => match u with
  | (f_n, f_cap, f_ana, f_res, f_anyT, f_intsT, f_wp, f_vp, f_made, f_active, f_xp, f_curK, f_rBot, f_rR, f_rE0, f_rE1, a_st, a_ar, a_size, a_bk, a_ba, a_bb, a_ds, a_tab, a_nxt, a_wN, a_wS, a_wF, a_vs, a_frS, a_frP0, a_frP1, a_xN, a_xS, a_xE0, a_xE1, a_xA, a_xB, a_xC, a_xD, a_xE, a_xF, a_xG) => ((r < 0 → ∀ x : Int32, x = nI t + 1 → wY_run_126 post fuel x f_n f_cap f_ana f_res f_anyT f_intsT f_wp f_vp f_made f_active f_xp f_curK f_rBot f_rR f_rE0 f_rE1 a_st a_ar a_size a_bk a_ba a_bb a_ds a_tab a_nxt a_wN a_wS a_wF a_vs a_frS a_frP0 a_frP1 a_xN a_xS a_xE0 a_xE1 a_xA a_xB a_xC a_xD a_xE a_xF a_xG) ∧ (¬ r < 0 → post r (f_n, f_cap, f_ana, f_res, f_anyT, f_intsT, f_wp, f_vp, f_made, f_active, f_xp, f_curK, f_rBot, f_rR, f_rE0, f_rE1, a_st, a_ar, a_size, a_bk, a_ba, a_bb, a_ds, a_tab, a_nxt, a_wN, a_wS, a_wF, a_vs, a_frS, a_frP0, a_frP1, a_xN, a_xS, a_xE0, a_xE1, a_xA, a_xB, a_xC, a_xD, a_xE, a_xF, a_xG)))
def yq_R (post : Int32 → SY → Prop) (f_n f_cap f_ana f_res f_anyT f_intsT f_wp f_vp f_made f_active f_xp f_curK f_rBot f_rR f_rE0 f_rE1 : Int32) (a_st a_ar a_size a_bk a_ba a_bb a_ds a_tab a_nxt a_wN a_wS a_wF a_vs a_frS a_frP0 a_frP1 a_xN a_xS a_xE0 a_xE1 a_xA a_xB a_xC a_xD a_xE a_xF a_xG : Nat → Int32) (t wp vp m a : Nat) (Z : Nat → Nat → Int32) : Prop :=
  ∀ fuel, 1000000 < t + fuel → wY_run_126 post fuel (nI t) f_n f_cap f_ana 0 f_anyT f_intsT (nI wp) (nI vp) (nI m) (nI a) f_xp f_curK f_rBot f_rR f_rE0 f_rE1 a_st a_ar a_size a_bk a_ba a_bb a_ds a_tab a_nxt (Z 0) (Z 1) (Z 2) (Z 3) (Z 4) (Z 5) (Z 6) a_xN a_xS a_xE0 a_xE1 a_xA a_xB a_xC a_xD a_xE a_xF a_xG
def yq_E (post : Int32 → SY → Prop) (f_n f_cap f_ana f_res f_anyT f_intsT f_wp f_vp f_made f_active f_xp f_curK f_rBot f_rR f_rE0 f_rE1 : Int32) (a_st a_ar a_size a_bk a_ba a_bb a_ds a_tab a_nxt a_wN a_wS a_wF a_vs a_frS a_frP0 a_frP1 a_xN a_xS a_xE0 a_xE1 a_xA a_xB a_xC a_xD a_xE a_xF a_xG : Nat → Int32) (o : Int32) : Prop :=
  ∀ (x1 x2 x3 x4 : Int32) (Z : Nat → Nat → Int32), post o (f_n, f_cap, f_ana, 0, f_anyT, f_intsT, x1, x2, x3, x4, f_xp, f_curK, f_rBot, f_rR, f_rE0, f_rE1, a_st, a_ar, a_size, a_bk, a_ba, a_bb, a_ds, a_tab, a_nxt, Z 0, Z 1, Z 2, Z 3, Z 4, Z 5, Z 6, a_xN, a_xS, a_xE0, a_xE1, a_xA, a_xB, a_xC, a_xD, a_xE, a_xF, a_xG)
theorem yq_top {p : Nat} (h : p < 511) : (nI (p + 1) - 1) &&& 511 = nI p := by
  rw [nI_pred, pk_andN (by omega) 9 (by decide), Nat.mod_eq_of_lt (by omega)]
theorem yq_511 {p : Nat} (h : p < 512) : nI p &&& 511 = nI p := by
  rw [pk_andN (by omega) 9 (by decide), Nat.mod_eq_of_lt (by omega)]
theorem yq_31 {p : Nat} (h : p < 32) : nI p &&& 31 = nI p := by
  rw [pk_andN (by omega) 5 (by decide), Nat.mod_eq_of_lt (by omega)]
def yq_z (a b c d e f g : Nat → Int32) : Nat → Nat → Int32 := fun q => match q with
  | 0 => a
  | 1 => b
  | 2 => c
  | 3 => d
  | 4 => e
  | 5 => f
  | _ => g
section
variable {f_n f_cap f_ana f_res f_anyT f_intsT f_wp f_vp f_made f_active f_xp f_curK f_rBot f_rR f_rE0 f_rE1 : Int32} {a_st a_ar a_size a_bk a_ba a_bb a_ds a_tab a_nxt a_wN a_wS a_wF a_vs a_frS a_frP0 a_frP1 a_xN a_xS a_xE0 a_xE1 a_xA a_xB a_xC a_xD a_xE a_xF a_xG : Nat → Int32} {post : Int32 → SY → Prop} {N U : Nat} {sz S : Nat → Nat} {szX sX kd fo so ch pa dp : Nat → Int32}
theorem yq_g (hs : rl_slots N U sz S a_st a_ar szX a_size sX a_bk a_ba a_bb kd fo so ch pa dp) {g : Nat} (hg : g < N) (s2 : a_st g = 2) : ∃ k : Nat, k ≤ 2 ∧ a_ar g = nI k ∧ a_size g = nI (sz g) ∧ 0 < sz g ∧ sz g ≤ 128 ∧ ab_bd N k (sz g) (rl_K a_bk g) (rl_K a_ba g) (rl_K a_bb g) (rl_c (rl_K a_bk g) (rl_K a_bb g)) := by
  obtain ⟨_, h1, h2⟩ := hs g hg
  obtain ⟨e1, e2, e3, e4, k, hk, ek, hB⟩ := h1 (by rw [s2]; decide)
  obtain ⟨n0, pc1, pr⟩ := h2 s2
  have := hB.1
  exact ⟨k, hk, ek, e2, n0, by omega, hB.2.1⟩
theorem yq_st {t p q m a : Nat} {Z : Nat → Nat → Int32} (ht : t < 1000000) (hp : p < 500) (h : ∀ fuel, 1000000 < t + 1 + fuel → wpY_evalStep (yq_k post t fuel) (nI N, f_cap, f_ana, 0, f_anyT, f_intsT, nI (p + 1), nI q, nI m, nI a, f_xp, f_curK, f_rBot, f_rR, f_rE0, f_rE1, a_st, a_ar, a_size, a_bk, a_ba, a_bb, a_ds, a_tab, a_nxt, Z 0, Z 1, Z 2, Z 3, Z 4, Z 5, Z 6, a_xN, a_xS, a_xE0, a_xE1, a_xA, a_xB, a_xC, a_xD, a_xE, a_xF, a_xG)) : yq_R post (nI N) f_cap f_ana f_res f_anyT f_intsT f_wp f_vp f_made f_active f_xp f_curK f_rBot f_rR f_rE0 f_rE1 a_st a_ar a_size a_bk a_ba a_bb a_ds a_tab a_nxt a_wN a_wS a_wF a_vs a_frS a_frP0 a_frP1 a_xN a_xS a_xE0 a_xE1 a_xA a_xB a_xC a_xD a_xE a_xF a_xG t (p + 1) q m a Z := by
  intro fuel hf
  obtain ⟨fuel, rfl⟩ : ∃ m, fuel = m + 1 := ⟨fuel - 1, by omega⟩
  exact br_f (nI_ge (b := 1000000) ht (by decide)) (br_f (nI_nle (Nat.succ_pos p) (by omega)) (h fuel (by omega)))
theorem yq_end {o : Int32} {t fuel : Nat} {x1 x2 x3 x4 : Int32} {Z : Nat → Nat → Int32} (ho : ¬ o < 0) (h : yq_E post f_n f_cap f_ana f_res f_anyT f_intsT f_wp f_vp f_made f_active f_xp f_curK f_rBot f_rR f_rE0 f_rE1 a_st a_ar a_size a_bk a_ba a_bb a_ds a_tab a_nxt a_wN a_wS a_wF a_vs a_frS a_frP0 a_frP1 a_xN a_xS a_xE0 a_xE1 a_xA a_xB a_xC a_xD a_xE a_xF a_xG o) : yq_k post t fuel o (f_n, f_cap, f_ana, 0, f_anyT, f_intsT, x1, x2, x3, x4, f_xp, f_curK, f_rBot, f_rR, f_rE0, f_rE1, a_st, a_ar, a_size, a_bk, a_ba, a_bb, a_ds, a_tab, a_nxt, Z 0, Z 1, Z 2, Z 3, Z 4, Z 5, Z 6, a_xN, a_xS, a_xE0, a_xE1, a_xA, a_xB, a_xC, a_xD, a_xE, a_xF, a_xG) := br_f ho (h _ _ _ _ _)
theorem yq_go {t fuel wp vp m a : Nat} {Z : Nat → Nat → Int32} (hf : 1000000 < t + 1 + fuel) (h : yq_R post f_n f_cap f_ana f_res f_anyT f_intsT f_wp f_vp f_made f_active f_xp f_curK f_rBot f_rR f_rE0 f_rE1 a_st a_ar a_size a_bk a_ba a_bb a_ds a_tab a_nxt a_wN a_wS a_wF a_vs a_frS a_frP0 a_frP1 a_xN a_xS a_xE0 a_xE1 a_xA a_xB a_xC a_xD a_xE a_xF a_xG (t + 1) wp vp m a Z) : yq_k post t fuel (-1) (f_n, f_cap, f_ana, 0, f_anyT, f_intsT, nI wp, nI vp, nI m, nI a, f_xp, f_curK, f_rBot, f_rR, f_rE0, f_rE1, a_st, a_ar, a_size, a_bk, a_ba, a_bb, a_ds, a_tab, a_nxt, Z 0, Z 1, Z 2, Z 3, Z 4, Z 5, Z 6, a_xN, a_xS, a_xE0, a_xE1, a_xA, a_xB, a_xC, a_xD, a_xE, a_xF, a_xG) :=
  br_t (by decide) (nm_r (nI_1 t) (h fuel hf))
theorem yq_push {Q : SY → Prop} {p i fr : Nat} {Z : Nat → Nat → Int32} (hp : p < 512) (H : Q (f_n, f_cap, f_ana, f_res, f_anyT, f_intsT, nI (p + 1), f_vp, f_made, f_active, f_xp, f_curK, f_rBot, f_rR, f_rE0, f_rE1, a_st, a_ar, a_size, a_bk, a_ba, a_bb, a_ds, a_tab, a_nxt, yr_push Z p i fr 0, yr_push Z p i fr 1, yr_push Z p i fr 2, a_vs, a_frS, a_frP0, a_frP1, a_xN, a_xS, a_xE0, a_xE1, a_xA, a_xB, a_xC, a_xD, a_xE, a_xF, a_xG)) : wpY_wPush Q (f_n, f_cap, f_ana, f_res, f_anyT, f_intsT, nI p, f_vp, f_made, f_active, f_xp, f_curK, f_rBot, f_rR, f_rE0, f_rE1, a_st, a_ar, a_size, a_bk, a_ba, a_bb, a_ds, a_tab, a_nxt, Z 0, Z 1, Z 2, a_vs, a_frS, a_frP0, a_frP1, a_xN, a_xS, a_xE0, a_xE1, a_xA, a_xB, a_xC, a_xD, a_xE, a_xF, a_xG) (nI i) (nI fr) := by
  unfold wpY_wPush
  dsimp only
  refine nm_r (yq_511 hp) ?_
  rw [nI_clamp (by omega)]
  have w : vp_in (nI p) 512 := vp_in_nI hp (by decide)
  exact ⟨w, nm_e ⟨w, nm_e ⟨w, nm_e (nm_r (nI_1 p) H)⟩⟩⟩
theorem yq_vpush {Q : SY → Prop} {q : Nat} {v : Int32} (hq : q < 512) (H : Q (f_n, f_cap, f_ana, f_res, f_anyT, f_intsT, f_wp, nI (q + 1), f_made, f_active, f_xp, f_curK, f_rBot, f_rR, f_rE0, f_rE1, a_st, a_ar, a_size, a_bk, a_ba, a_bb, a_ds, a_tab, a_nxt, a_wN, a_wS, a_wF, upd a_vs q v, a_frS, a_frP0, a_frP1, a_xN, a_xS, a_xE0, a_xE1, a_xA, a_xB, a_xC, a_xD, a_xE, a_xF, a_xG)) : wpY_vPush Q (f_n, f_cap, f_ana, f_res, f_anyT, f_intsT, f_wp, nI q, f_made, f_active, f_xp, f_curK, f_rBot, f_rR, f_rE0, f_rE1, a_st, a_ar, a_size, a_bk, a_ba, a_bb, a_ds, a_tab, a_nxt, a_wN, a_wS, a_wF, a_vs, a_frS, a_frP0, a_frP1, a_xN, a_xS, a_xE0, a_xE1, a_xA, a_xB, a_xC, a_xD, a_xE, a_xF, a_xG) v := by
  unfold wpY_vPush
  dsimp only
  rw [yq_511 hq, nI_clamp (by omega)]
  exact ⟨vp_in_nI hq (by decide), nm_e (nm_r (nI_1 q) H)⟩
theorem yq_vpop {Q : Int32 → SY → Prop} {q : Nat} (hq : q < 512) (H : Q (a_vs q) (f_n, f_cap, f_ana, f_res, f_anyT, f_intsT, f_wp, nI q, f_made, f_active, f_xp, f_curK, f_rBot, f_rR, f_rE0, f_rE1, a_st, a_ar, a_size, a_bk, a_ba, a_bb, a_ds, a_tab, a_nxt, a_wN, a_wS, a_wF, a_vs, a_frS, a_frP0, a_frP1, a_xN, a_xS, a_xE0, a_xE1, a_xA, a_xB, a_xC, a_xD, a_xE, a_xF, a_xG)) : wpY_vPop Q (f_n, f_cap, f_ana, f_res, f_anyT, f_intsT, f_wp, nI (q + 1), f_made, f_active, f_xp, f_curK, f_rBot, f_rR, f_rE0, f_rE1, a_st, a_ar, a_size, a_bk, a_ba, a_bb, a_ds, a_tab, a_nxt, a_wN, a_wS, a_wF, a_vs, a_frS, a_frP0, a_frP1, a_xN, a_xS, a_xE0, a_xE1, a_xA, a_xB, a_xC, a_xD, a_xE, a_xF, a_xG) := by
  unfold wpY_vPop
  dsimp only
  refine nm_r (nI_pred q) ?_
  rw [yq_511 hq, nI_clamp (by omega)]
  exact ⟨vp_in_nI hq (by decide), H⟩
theorem yq_V1 (hN : N ≤ 8) (hs : rl_slots N U sz S a_st a_ar szX a_size sX a_bk a_ba a_bb kd fo so ch pa dp) : yr_V1 N (rl_K a_bk) (rl_K a_ba) a_st sz (yq_R post (nI N) f_cap f_ana f_res f_anyT f_intsT f_wp f_vp f_made f_active f_xp f_curK f_rBot f_rR f_rE0 f_rE1 a_st a_ar a_size a_bk a_ba a_bb a_ds a_tab a_nxt a_wN a_wS a_wF a_vs a_frS a_frP0 a_frP1 a_xN a_xS a_xE0 a_xE1 a_xA a_xB a_xC a_xD a_xE a_xF a_xG) := by
  intro t p q m a fr g i s Z hin top hK hR
  obtain ⟨ht, hp, hq, hf, hg, s2, hi⟩ := hin
  obtain ⟨h0, h1, h2, h4⟩ := top
  obtain ⟨k, hk, ek, e2, n0, n1, hb⟩ := yq_g hs hg s2
  have w : vp_in (nI p) 512 := vp_in_nI (by omega) (by decide)
  have cp : (nI p).toNatClampNeg = p := nI_clamp (by omega)
  have wf : vp_in (nI fr) 32 := vp_in_nI (by omega) (by decide)
  have cf : (nI fr).toNatClampNeg = fr := nI_clamp (by omega)
  have wi : vp_in (nI (g * 128 + i)) 1024 := vp_in_nI (by omega) (by decide)
  have ci : (nI (g * 128 + i)).toNatClampNeg = g * 128 + i := nI_clamp (by omega)
  refine yq_st ht hp fun fuel hfu => ?_
  have fin : ∀ v : Int32, v = (if rl_K a_bk g i = 0 then rl_K a_ba g i else if rl_K a_bk g i = 1 then 1000 + rl_K a_ba g i else if rl_K a_ba g i = 0 then Z 5 fr else Z 6 fr) → wY_evalStep_137 (yq_k post t fuel) v (nI N) f_cap f_ana 0 f_anyT f_intsT (nI (p + 1)) (nI q) (nI m) (nI a) f_xp f_curK f_rBot f_rR f_rE0 f_rE1 a_st a_ar a_size a_bk a_ba a_bb a_ds a_tab a_nxt (Z 0) (Z 1) (Z 2) (Z 3) (Z 4) (Z 5) (Z 6) a_xN a_xS a_xE0 a_xE1 a_xA a_xB a_xC a_xD a_xE a_xF a_xG := by
    intro v ev
    rw [← ev] at hR
    unfold wY_evalStep_137
    exact nm_r (nI_pred p) (yq_vpush (by omega) (yq_go (Z := ya_z Z 3 q v) hfu hR))
  unfold wpY_evalStep
  dsimp only
  rcases hK with hK | hK | hK
  · refine nm_r (e' := nI p) (yq_top (by omega)) ⟨w, nm_r (e' := nI fr) (by rw [cp, h2]; exact yq_31 (by omega)) ⟨wf, nm_r (e' := nI g) (by rw [cf]; exact h4) ⟨w, nm_r (e' := nI i) (by rw [cp]; exact h0) ⟨w, nm_r (e' := nI s) (by rw [cp]; exact h1) (nm_r (yk_ix (by omega) (by omega)) ⟨wi, nm_r (e' := 0) (by rw [ci]; exact hK) ⟨wi, nm_r (e' := rl_K a_ba g i) (by rw [ci]; rfl) ⟨wi, nm_r (e' := rl_K a_bb g i) (by rw [ci]; rfl) (br_f (by decide) (br_f (by decide) ?_)) ⟩⟩⟩)⟩⟩⟩⟩
    exact br_f (by decide) (fin _ (by rw [if_pos hK]))
  · refine nm_r (e' := nI p) (yq_top (by omega)) ⟨w, nm_r (e' := nI fr) (by rw [cp, h2]; exact yq_31 (by omega)) ⟨wf, nm_r (e' := nI g) (by rw [cf]; exact h4) ⟨w, nm_r (e' := nI i) (by rw [cp]; exact h0) ⟨w, nm_r (e' := nI s) (by rw [cp]; exact h1) (nm_r (yk_ix (by omega) (by omega)) ⟨wi, nm_r (e' := 1) (by rw [ci]; exact hK) ⟨wi, nm_r (e' := rl_K a_ba g i) (by rw [ci]; rfl) ⟨wi, nm_r (e' := rl_K a_bb g i) (by rw [ci]; rfl) (br_f (by decide) (br_t rfl (nm_e ?_))) ⟩⟩⟩)⟩⟩⟩⟩
    exact br_f (by decide) (fin _ (by rw [if_neg (by rw [hK]; decide), if_pos hK]))
  · refine nm_r (e' := nI p) (yq_top (by omega)) ⟨w, nm_r (e' := nI fr) (by rw [cp, h2]; exact yq_31 (by omega)) ⟨wf, nm_r (e' := nI g) (by rw [cf]; exact h4) ⟨w, nm_r (e' := nI i) (by rw [cp]; exact h0) ⟨w, nm_r (e' := nI s) (by rw [cp]; exact h1) (nm_r (yk_ix (by omega) (by omega)) ⟨wi, nm_r (e' := 2) (by rw [ci]; exact hK) ⟨wi, nm_r (e' := rl_K a_ba g i) (by rw [ci]; rfl) ⟨wi, nm_r (e' := rl_K a_bb g i) (by rw [ci]; rfl) (br_f (by decide) (br_f (by decide) ?_)) ⟩⟩⟩)⟩⟩⟩⟩
    refine br_t rfl ?_
    rw [cf]
    by_cases z : rl_K a_ba g i = 0
    · exact br_t z ⟨wf, fin _ (by rw [if_neg (by rw [hK]; decide), if_neg (by rw [hK]; decide), if_pos z])⟩
    · exact br_f z ⟨wf, fin _ (by rw [if_neg (by rw [hK]; decide), if_neg (by rw [hK]; decide), if_neg z])⟩
theorem yq_V2 (hN : N ≤ 8) (hs : rl_slots N U sz S a_st a_ar szX a_size sX a_bk a_ba a_bb kd fo so ch pa dp) : yr_V2 N (rl_K a_bk) (rl_K a_bb) a_st sz (yq_R post (nI N) f_cap f_ana f_res f_anyT f_intsT f_wp f_vp f_made f_active f_xp f_curK f_rBot f_rR f_rE0 f_rE1 a_st a_ar a_size a_bk a_ba a_bb a_ds a_tab a_nxt a_wN a_wS a_wF a_vs a_frS a_frP0 a_frP1 a_xN a_xS a_xE0 a_xE1 a_xA a_xB a_xC a_xD a_xE a_xF a_xG) := by
  intro t p q m a fr g i s Z hin top hsc h8 hR
  obtain ⟨ht, hp, hq, hf, hg, s2, hi⟩ := hin
  obtain ⟨h0, h1, h2, h4⟩ := top
  obtain ⟨k, hk, ek, e2, n0, n1, hb⟩ := yq_g hs hg s2
  have w : vp_in (nI p) 512 := vp_in_nI (by omega) (by decide)
  have cp : (nI p).toNatClampNeg = p := nI_clamp (by omega)
  have wf : vp_in (nI fr) 32 := vp_in_nI (by omega) (by decide)
  have cf : (nI fr).toNatClampNeg = fr := nI_clamp (by omega)
  have wi : vp_in (nI (g * 128 + i)) 1024 := vp_in_nI (by omega) (by decide)
  have ci : (nI (g * 128 + i)).toNatClampNeg = g * 128 + i := nI_clamp (by omega)
  have c3 := ab_c3 hb hi
  have hsc' : s < bs_cc (rl_K a_bk g i) (rl_K a_bb g i) := hsc
  have hscc : s < rl_c (rl_K a_bk g) (rl_K a_bb g) i := hsc
  refine yq_st ht hp fun fuel hfu => ?_
  have push : wpY_childPos (fun r => wpY_wPush (fun u => match u with | (f_n, f_cap, f_ana, f_res, f_anyT, f_intsT, f_wp, f_vp, f_made, f_active, f_xp, f_curK, f_rBot, f_rR, f_rE0, f_rE1, a_st, a_ar, a_size, a_bk, a_ba, a_bb, a_ds, a_tab, a_nxt, a_wN, a_wS, a_wF, a_vs, a_frS, a_frP0, a_frP1, a_xN, a_xS, a_xE0, a_xE1, a_xA, a_xB, a_xC, a_xD, a_xE, a_xF, a_xG) => yq_k post t fuel (-1) (f_n, f_cap, f_ana, f_res, f_anyT, f_intsT, f_wp, f_vp, f_made, f_active, f_xp, f_curK, f_rBot, f_rR, f_rE0, f_rE1, a_st, a_ar, a_size, a_bk, a_ba, a_bb, a_ds, a_tab, a_nxt, a_wN, a_wS, a_wF, a_vs, a_frS, a_frP0, a_frP1, a_xN, a_xS, a_xE0, a_xE1, a_xA, a_xB, a_xC, a_xD, a_xE, a_xF, a_xG)) (nI N, f_cap, f_ana, 0, f_anyT, f_intsT, nI (p + 1), nI q, nI m, nI a, f_xp, f_curK, f_rBot, f_rR, f_rE0, f_rE1, a_st, a_ar, a_size, a_bk, a_ba, a_bb, a_ds, a_tab, a_nxt, Z 0, upd (Z 1) p (nI (s + 1)), Z 2, Z 3, Z 4, Z 5, Z 6, a_xN, a_xS, a_xE0, a_xE1, a_xA, a_xB, a_xC, a_xD, a_xE, a_xF, a_xG) r (nI fr)) (nI N, f_cap, f_ana, 0, f_anyT, f_intsT, nI (p + 1), nI q, nI m, nI a, f_xp, f_curK, f_rBot, f_rR, f_rE0, f_rE1, a_st, a_ar, a_size, a_bk, a_ba, a_bb, a_ds, a_tab, a_nxt, Z 0, upd (Z 1) p (nI (s + 1)), Z 2, Z 3, Z 4, Z 5, Z 6, a_xN, a_xS, a_xE0, a_xE1, a_xA, a_xB, a_xC, a_xD, a_xE, a_xF, a_xG) (nI g) (nI i) (nI s) := by
    refine yk_cp (by omega) n1 hb hi hscc ?_
    exact yq_push (Z := ya_z Z 1 p (nI (s + 1))) (p := p + 1) (by omega) (yq_go (Z := yr_push (ya_z Z 1 p (nI (s + 1))) (p + 1) (bs_ch (rl_c (rl_K a_bk g) (rl_K a_bb g)) i s) fr) hfu hR)
  have op : ∀ (κ : Int32) (c : Nat), s < c → c ≤ 3 → wY_evalStep_530 (yq_k post t fuel) (nI p) (nI fr) (nI g) (nI i) (nI s) κ (nI c) (nI N) f_cap f_ana 0 f_anyT f_intsT (nI (p + 1)) (nI q) (nI m) (nI a) f_xp f_curK f_rBot f_rR f_rE0 f_rE1 a_st a_ar a_size a_bk a_ba a_bb a_ds a_tab a_nxt (Z 0) (Z 1) (Z 2) (Z 3) (Z 4) (Z 5) (Z 6) a_xN a_xS a_xE0 a_xE1 a_xA a_xB a_xC a_xD a_xE a_xF a_xG := by
    intro κ c hc hc3
    refine br_f (nI_ge hc (by omega)) ⟨w, nm_r (e' := upd (Z 1) p (nI (s + 1))) (by rw [cp, nI_1]) push⟩
  unfold wpY_evalStep
  dsimp only
  rcases bd_10 (hb.1 i hi) with hK | hK | hK | hK | hK | hK | hK | hK | hK | hK
  · rw [hK, bs_cc0] at hsc'; omega
  · rw [hK, bs_cc1] at hsc'; omega
  · rw [hK, bs_cc2] at hsc'; omega
  · rw [hK, bs_cc3] at hsc'
    exact nm_r (e' := nI p) (yq_top (by omega)) ⟨w, nm_r (e' := nI fr) (by rw [cp, h2]; exact yq_31 (by omega)) ⟨wf, nm_r (e' := nI g) (by rw [cf]; exact h4) ⟨w, nm_r (e' := nI i) (by rw [cp]; exact h0) ⟨w, nm_r (e' := nI s) (by rw [cp]; exact h1) (nm_r (yk_ix (by omega) (by omega)) ⟨wi, nm_r (e' := 3) (by rw [ci]; exact hK) ⟨wi, nm_r (e' := rl_K a_ba g i) (by rw [ci]; rfl) ⟨wi, nm_r (e' := rl_K a_bb g i) (by rw [ci]; rfl) (br_t (by decide) (br_f (by decide) (br_f (by decide) (br_f (by decide) (op 3 2 hsc' (by omega)))))) ⟩⟩⟩)⟩⟩⟩⟩
  · rw [hK, bs_cc4] at hsc'
    exact nm_r (e' := nI p) (yq_top (by omega)) ⟨w, nm_r (e' := nI fr) (by rw [cp, h2]; exact yq_31 (by omega)) ⟨wf, nm_r (e' := nI g) (by rw [cf]; exact h4) ⟨w, nm_r (e' := nI i) (by rw [cp]; exact h0) ⟨w, nm_r (e' := nI s) (by rw [cp]; exact h1) (nm_r (yk_ix (by omega) (by omega)) ⟨wi, nm_r (e' := 4) (by rw [ci]; exact hK) ⟨wi, nm_r (e' := rl_K a_ba g i) (by rw [ci]; rfl) ⟨wi, nm_r (e' := rl_K a_bb g i) (by rw [ci]; rfl) (br_t (by decide) (br_f (by decide) (br_f (by decide) (br_f (by decide) (op 4 2 hsc' (by omega)))))) ⟩⟩⟩)⟩⟩⟩⟩
  · rw [hK, bs_cc5] at hsc'
    exact nm_r (e' := nI p) (yq_top (by omega)) ⟨w, nm_r (e' := nI fr) (by rw [cp, h2]; exact yq_31 (by omega)) ⟨wf, nm_r (e' := nI g) (by rw [cf]; exact h4) ⟨w, nm_r (e' := nI i) (by rw [cp]; exact h0) ⟨w, nm_r (e' := nI s) (by rw [cp]; exact h1) (nm_r (yk_ix (by omega) (by omega)) ⟨wi, nm_r (e' := 5) (by rw [ci]; exact hK) ⟨wi, nm_r (e' := rl_K a_ba g i) (by rw [ci]; rfl) ⟨wi, nm_r (e' := rl_K a_bb g i) (by rw [ci]; rfl) (br_t (by decide) (br_f (by decide) (br_f (by decide) (br_f (by decide) (op 5 2 hsc' (by omega)))))) ⟩⟩⟩)⟩⟩⟩⟩
  · rw [hK, bs_cc6] at hsc'
    exact nm_r (e' := nI p) (yq_top (by omega)) ⟨w, nm_r (e' := nI fr) (by rw [cp, h2]; exact yq_31 (by omega)) ⟨wf, nm_r (e' := nI g) (by rw [cf]; exact h4) ⟨w, nm_r (e' := nI i) (by rw [cp]; exact h0) ⟨w, nm_r (e' := nI s) (by rw [cp]; exact h1) (nm_r (yk_ix (by omega) (by omega)) ⟨wi, nm_r (e' := 6) (by rw [ci]; exact hK) ⟨wi, nm_r (e' := rl_K a_ba g i) (by rw [ci]; rfl) ⟨wi, nm_r (e' := rl_K a_bb g i) (by rw [ci]; rfl) (br_t (by decide) (br_f (by decide) (br_f (by decide) (br_f (by decide) (op 6 2 hsc' (by omega)))))) ⟩⟩⟩)⟩⟩⟩⟩
  · rw [hK, bs_cc7] at hsc'
    exact nm_r (e' := nI p) (yq_top (by omega)) ⟨w, nm_r (e' := nI fr) (by rw [cp, h2]; exact yq_31 (by omega)) ⟨wf, nm_r (e' := nI g) (by rw [cf]; exact h4) ⟨w, nm_r (e' := nI i) (by rw [cp]; exact h0) ⟨w, nm_r (e' := nI s) (by rw [cp]; exact h1) (nm_r (yk_ix (by omega) (by omega)) ⟨wi, nm_r (e' := 7) (by rw [ci]; exact hK) ⟨wi, nm_r (e' := rl_K a_ba g i) (by rw [ci]; rfl) ⟨wi, nm_r (e' := rl_K a_bb g i) (by rw [ci]; rfl) (br_t (by decide) (br_f (by decide) (br_f (by decide) (br_t rfl (op 7 1 hsc' (by omega)))))) ⟩⟩⟩)⟩⟩⟩⟩
  · obtain rfl := h8 hK
    exact nm_r (e' := nI p) (yq_top (by omega)) ⟨w, nm_r (e' := nI fr) (by rw [cp, h2]; exact yq_31 (by omega)) ⟨wf, nm_r (e' := nI g) (by rw [cf]; exact h4) ⟨w, nm_r (e' := nI i) (by rw [cp]; exact h0) ⟨w, nm_r (e' := 0) (by rw [cp]; exact h1) (nm_r (yk_ix (by omega) (by omega)) ⟨wi, nm_r (e' := 8) (by rw [ci]; exact hK) ⟨wi, nm_r (e' := rl_K a_ba g i) (by rw [ci]; rfl) ⟨wi, nm_r (e' := rl_K a_bb g i) (by rw [ci]; rfl) (br_t (by decide) (br_t rfl (br_t rfl ⟨w, nm_r (e' := upd (Z 1) p 1) (by rw [cp]) push⟩))) ⟩⟩⟩)⟩⟩⟩⟩
  · obtain ⟨b, hb2, eb⟩ := (hb.1 i hi).2.2.2.2.2.1
    rw [hK, bs_cc9, eb, nI_clamp (by omega)] at hsc'
    exact nm_r (e' := nI p) (yq_top (by omega)) ⟨w, nm_r (e' := nI fr) (by rw [cp, h2]; exact yq_31 (by omega)) ⟨wf, nm_r (e' := nI g) (by rw [cf]; exact h4) ⟨w, nm_r (e' := nI i) (by rw [cp]; exact h0) ⟨w, nm_r (e' := nI s) (by rw [cp]; exact h1) (nm_r (yk_ix (by omega) (by omega)) ⟨wi, nm_r (e' := 9) (by rw [ci]; exact hK) ⟨wi, nm_r (e' := rl_K a_ba g i) (by rw [ci]; rfl) ⟨wi, nm_r (e' := nI b) (by rw [ci]; exact eb) (br_t (by decide) (br_f (by decide) (br_t rfl (br_f (nI_ge hsc' (by omega)) ⟨w, nm_r (e' := upd (Z 1) p (nI (s + 1))) (by rw [cp, nI_1]) push⟩)))) ⟩⟩⟩)⟩⟩⟩⟩
end

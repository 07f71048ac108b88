def yc_A (post : SY → Prop) (f : Nat) (f_n f_cap f_ana f_res f_anyT f_intsT f_wp f_vp f_made f_active f_xp f_curK f_rBot f_rR f_rE0 f_rE1 : Int32) (a_st a_ar a_size a_bk a_ba a_bb a_ds a_tab a_nxt a_wN a_wS a_wF a_vs a_frS a_frP0 a_frP1 a_xN a_xS a_xE0 a_xE1 a_xA a_xB a_xC a_xD a_xE a_xF a_xG : Nat → Int32) (t xp : Nat) (Z : Nat → Nat → Int32) (b r e0 e1 : Int32) : Prop :=
  ∀ fuel, 4096 < t + fuel → wY_absEval_53 post (nI f) fuel (nI t) f_n f_cap f_ana f_res f_anyT f_intsT f_wp f_vp f_made f_active (nI xp) f_curK b r e0 e1 a_st a_ar a_size a_bk a_ba a_bb a_ds a_tab a_nxt a_wN a_wS a_wF a_vs a_frS a_frP0 a_frP1 (Z 0) (Z 1) (Z 2) (Z 3) (Z 4) (Z 5) (Z 6) (Z 7) (Z 8) (Z 9) (Z 10)
theorem ya_k_imp {R R' : Int32 → Int32 → Int32 → Int32 → Prop} (h : ∀ b r e0 e1, R b r e0 e1 → R' b r e0 e1) {o : ab_O} (k : ya_k R o) : ya_k R' o := by
  cases o with
  | none => exact fun r e0 e1 => h _ _ _ _ (k r e0 e1)
  | some x => exact h _ _ _ _ k
theorem yc_top {p : Nat} (h : p < 16) : (nI (p + 1) - 1) &&& 15 = nI p := by
  rw [nI_pred, pk_andN (by omega) 4 (by decide), Nat.mod_eq_of_lt (by omega)]
theorem yc_xp {p : Nat} (h : p < 16) : nI p &&& 15 = nI p := by
  rw [pk_andN (by omega) 4 (by decide), Nat.mod_eq_of_lt (by omega)]
theorem yc_k1 {k : Nat} (hk : k ≤ 2) : nI k < 1 ↔ k < 1 := by
  rw [show (1 : Int32) = nI 1 by decide, nI_ltI (by omega) (by omega)]
theorem yc_k2 {k : Nat} (hk : k ≤ 2) : nI k < 2 ↔ k < 2 := by
  rw [show (2 : Int32) = nI 2 by decide, nI_ltI (by omega) (by omega)]
theorem yc_any0 : ty_any ≠ ty_0 := by decide
section
variable {f_n f_cap f_ana f_res f_anyT f_intsT f_wp f_vp f_made f_active f_xp f_curK f_rBot f_rR f_rE0 f_rE1 : Int32} {a_st a_ar a_size a_bk a_ba a_bb a_ds a_tab a_nxt a_wN a_wS a_wF a_vs a_frS a_frP0 a_frP1 a_xN a_xS a_xE0 a_xE1 a_xA a_xB a_xC a_xD a_xE a_xF a_xG : Nat → Int32} {N k n f : Nat}
theorem yc_set {Q : SY → Prop} (hk : k ≤ 2) {r : ty_T} {e : ab_E} (hr : ty_ok r) (he : ab_eo k e) (H : ya_k (fun b r e0 e1 => Q (f_n, f_cap, f_ana, f_res, f_anyT, f_intsT, f_wp, f_vp, f_made, f_active, f_xp, nI k, b, r, e0, e1, a_st, a_ar, a_size, a_bk, a_ba, a_bb, a_ds, a_tab, a_nxt, a_wN, a_wS, a_wF, a_vs, a_frS, a_frP0, a_frP1, a_xN, a_xS, a_xE0, a_xE1, a_xA, a_xB, a_xC, a_xD, a_xE, a_xF, a_xG)) (ab_fin r e)) : wpY_setRet Q (f_n, f_cap, f_ana, f_res, f_anyT, f_intsT, f_wp, f_vp, f_made, f_active, f_xp, nI k, f_rBot, f_rR, f_rE0, f_rE1, a_st, a_ar, a_size, a_bk, a_ba, a_bb, a_ds, a_tab, a_nxt, a_wN, a_wS, a_wF, a_vs, a_frS, a_frP0, a_frP1, a_xN, a_xS, a_xE0, a_xE1, a_xA, a_xB, a_xC, a_xD, a_xE, a_xF, a_xG) (ty_y r) (ty_y e.1) (ty_y e.2) := by
  unfold wpY_setRet
  dsimp only
  unfold ab_fin at H
  by_cases a : r = ty_0
  · rw [if_pos (Or.inl a)] at H
    exact br_t ((ty_y_0 hr).mpr a) (H _ _ _)
  · refine br_f (fun z => a ((ty_y_0 hr).mp z)) ?_
    have s32 : (e.1 = ty_0 → k < 1) → wY_setRet_32 Q (ty_y e.2) f_n f_cap f_ana f_res f_anyT f_intsT f_wp f_vp f_made f_active f_xp (nI k) f_rBot (ty_y r) (ty_y e.1) (ty_y e.2) a_st a_ar a_size a_bk a_ba a_bb a_ds a_tab a_nxt a_wN a_wS a_wF a_vs a_frS a_frP0 a_frP1 a_xN a_xS a_xE0 a_xE1 a_xA a_xB a_xC a_xD a_xE a_xF a_xG := by
      intro h1
      have h1 : e.1 ≠ ty_0 := fun z => by
        have := he.2.2.1 (h1 z)
        rw [z] at this
        exact yc_any0 this.symm
      unfold wY_setRet_32
      by_cases c : k < 2
      · have h2 : e.2 ≠ ty_0 := fun z => by
          have := he.2.2.2 c
          rw [z] at this
          exact yc_any0 this.symm
        rw [if_neg (fun z => z.elim a (fun z => z.elim h1 h2))] at H
        exact br_t ((yc_k2 hk).mpr c) H
      · refine br_f (fun z => c ((yc_k2 hk).mp z)) ?_
        by_cases d : e.2 = ty_0
        · rw [if_pos (Or.inr (Or.inr d))] at H
          exact br_t ((ty_y_0 he.2.1).mpr d) (H _ _ _)
        · rw [if_neg (fun z => z.elim a (fun z => z.elim h1 d))] at H
          exact br_f (fun z => d ((ty_y_0 he.2.1).mp z)) H
    by_cases c : k < 1
    · exact br_t ((yc_k1 hk).mpr c) (s32 fun _ => c)
    · refine br_f (fun z => c ((yc_k1 hk).mp z)) ?_
      by_cases d : e.1 = ty_0
      · rw [if_pos (Or.inr (Or.inl d))] at H
        exact br_t ((ty_y_0 he.1).mpr d) (H _ _ _)
      · exact br_f (fun z => d ((ty_y_0 he.1).mp z)) (s32 fun z => absurd z d)
theorem yc_env {Q : Int32 → Prop} (hk : k ≤ 2) {e : ab_E} (he : ab_eo k e) (H1 : ya_al e → Q 1) (H0 : ¬ ya_al e → Q 0) : wpY_envOk Q (f_n, f_cap, f_ana, f_res, f_anyT, f_intsT, f_wp, f_vp, f_made, f_active, f_xp, nI k, f_rBot, f_rR, f_rE0, f_rE1, a_st, a_ar, a_size, a_bk, a_ba, a_bb, a_ds, a_tab, a_nxt, a_wN, a_wS, a_wF, a_vs, a_frS, a_frP0, a_frP1, a_xN, a_xS, a_xE0, a_xE1, a_xA, a_xB, a_xC, a_xD, a_xE, a_xF, a_xG) (ty_y e.1) (ty_y e.2) := by
  unfold wpY_envOk
  dsimp only
  have s12 : e.1 ≠ ty_0 → wY_envOk_12 Q (ty_y e.2) f_n f_cap f_ana f_res f_anyT f_intsT f_wp f_vp f_made f_active f_xp (nI k) f_rBot f_rR f_rE0 f_rE1 a_st a_ar a_size a_bk a_ba a_bb a_ds a_tab a_nxt a_wN a_wS a_wF a_vs a_frS a_frP0 a_frP1 a_xN a_xS a_xE0 a_xE1 a_xA a_xB a_xC a_xD a_xE a_xF a_xG := by
    intro h1
    unfold wY_envOk_12
    by_cases c : k < 2
    · have h2 : e.2 ≠ ty_0 := fun z => by
        have := he.2.2.2 c
        rw [z] at this
        exact yc_any0 this.symm
      exact br_t ((yc_k2 hk).mpr c) (H1 ⟨h1, h2⟩)
    · refine br_f (fun z => c ((yc_k2 hk).mp z)) ?_
      by_cases d : e.2 = ty_0
      · exact br_t ((ty_y_0 he.2.1).mpr d) (H0 fun z => z.2 d)
      · exact br_f (fun z => d ((ty_y_0 he.2.1).mp z)) (H1 ⟨h1, d⟩)
  by_cases c : k < 1
  · have h1 : e.1 ≠ ty_0 := fun z => by
      have := he.2.2.1 c
      rw [z] at this
      exact yc_any0 this.symm
    exact br_t ((yc_k1 hk).mpr c) (s12 h1)
  · refine br_f (fun z => c ((yc_k1 hk).mp z)) ?_
    by_cases d : e.1 = ty_0
    · exact br_t ((ty_y_0 he.1).mpr d) (H0 fun z => z.1 d)
    · exact br_f (fun z => d ((ty_y_0 he.1).mp z)) (s12 d)
theorem yc_push {Q : SY → Prop} {p i : Nat} {e0 e1 : Int32} {Z : Nat → Nat → Int32} (hp : p < 16) (H : Q (f_n, f_cap, f_ana, f_res, f_anyT, f_intsT, f_wp, f_vp, f_made, f_active, nI (p + 1), f_curK, f_rBot, f_rR, f_rE0, f_rE1, a_st, a_ar, a_size, a_bk, a_ba, a_bb, a_ds, a_tab, a_nxt, a_wN, a_wS, a_wF, a_vs, a_frS, a_frP0, a_frP1, ya_push Z p i e0 e1 0, ya_push Z p i e0 e1 1, ya_push Z p i e0 e1 2, ya_push Z p i e0 e1 3, a_xA, a_xB, a_xC, a_xD, a_xE, a_xF, a_xG)) :
    wpY_xPush Q (f_n, f_cap, f_ana, f_res, f_anyT, f_intsT, f_wp, f_vp, f_made, f_active, nI p, f_curK, f_rBot, f_rR, f_rE0, f_rE1, a_st, a_ar, a_size, a_bk, a_ba, a_bb, a_ds, a_tab, a_nxt, a_wN, a_wS, a_wF, a_vs, a_frS, a_frP0, a_frP1, Z 0, Z 1, Z 2, Z 3, a_xA, a_xB, a_xC, a_xD, a_xE, a_xF, a_xG) (nI i) e0 e1 := by
  unfold wpY_xPush
  dsimp only
  refine nm_r (yc_xp hp) ?_
  rw [nI_clamp (by omega)]
  have w : vp_in (nI p) 16 := vp_in_nI hp (by decide)
  exact ⟨w, nm_e ⟨w, nm_e ⟨w, nm_e ⟨w, nm_e (nm_r (nI_1 p) H)⟩⟩⟩⟩
end

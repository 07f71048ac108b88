section
variable {f_n f_cap f_ana f_res f_anyT f_intsT f_wp f_vp f_made f_active f_xp f_curK f_rBot f_rR f_rE0 f_rE1 : Int32} {a_st a_ar a_size a_bk a_ba a_bb a_ds a_tab a_nxt a_wN a_wS a_wF a_vs a_frS a_frP0 a_frP1 a_xN a_xS a_xE0 a_xE1 a_xA a_xB a_xC a_xD a_xE a_xF a_xG : Nat → Int32} {N : Nat} {post : Int32 → SY → Prop}
theorem ym_cnt {tb : Nat → ty_T} (hN : N ≤ 8) (hT : ∀ q, ty_ok (tb q)) (htb : ∀ q, q < 24 → a_tab q = ty_y (tb q)) (H : post (nI (an_cnt a_st tb N)) (nI N, f_cap, f_ana, f_res, f_anyT, f_intsT, f_wp, f_vp, f_made, f_active, f_xp, f_curK, f_rBot, f_rR, f_rE0, f_rE1, a_st, a_ar, a_size, a_bk, a_ba, a_bb, a_ds, a_tab, a_nxt, a_wN, a_wS, a_wF, a_vs, a_frS, a_frP0, a_frP1, a_xN, a_xS, a_xE0, a_xE1, a_xA, a_xB, a_xC, a_xD, a_xE, a_xF, a_xG)) : ∃ fuel, wY_analyze_118 post (nI N) f_cap f_ana f_res f_anyT f_intsT f_wp f_vp f_made f_active f_xp f_curK f_rBot f_rR f_rE0 f_rE1 a_st a_ar a_size a_bk a_ba a_bb a_ds a_tab a_nxt a_wN a_wS a_wF a_vs a_frS a_frP0 a_frP1 a_xN a_xS a_xE0 a_xE1 a_xA a_xB a_xC a_xD a_xE a_xF a_xG fuel 0 0 := by
  have loop : ∀ d i fuel, i + d = N → d < fuel → wY_analyze_118 post (nI N) f_cap f_ana f_res f_anyT f_intsT f_wp f_vp f_made f_active f_xp f_curK f_rBot f_rR f_rE0 f_rE1 a_st a_ar a_size a_bk a_ba a_bb a_ds a_tab a_nxt a_wN a_wS a_wF a_vs a_frS a_frP0 a_frP1 a_xN a_xS a_xE0 a_xE1 a_xA a_xB a_xC a_xD a_xE a_xF a_xG fuel (nI (an_cnt a_st tb i)) (nI i) := by
    intro d
    induction d with
    | zero =>
      intro i fuel h1 h2
      obtain ⟨fuel, rfl⟩ : ∃ m, fuel = m + 1 := ⟨fuel - 1, by omega⟩
      obtain rfl : i = N := by omega
      exact br_t (nI_le (Nat.le_refl _) (by omega)) H
    | succ d ih =>
      intro i fuel h1 h2
      obtain ⟨fuel, rfl⟩ : ∃ m, fuel = m + 1 := ⟨fuel - 1, by omega⟩
      have w : vp_in (nI i) 8 := vp_in_nI (by omega) (by decide)
      have cl : (nI i).toNatClampNeg = i := nI_clamp (by omega)
      have hh := ih (i + 1) fuel (by omega) (by omega)
      rw [an_cnt_s] at hh
      refine br_f (nI_ge (by omega) (by omega)) ⟨w, ?_⟩
      rw [xc_32, nI_clamp (n := i * 3 + 2) (by omega), cl, htb _ (by omega)]
      by_cases s2 : a_st i = 2
      · refine br_t s2 ⟨vp_in_nI (by omega) (by omega), ?_⟩
        by_cases z : tb (i * 3 + 2) = ty_0
        · rw [if_pos ⟨s2, z⟩] at hh
          exact br_t ((ty_y_0 (hT _)).mpr z) (nm_r (nI_1 _) (nm_r (nI_1 _) hh))
        · rw [if_neg (fun y => z y.2)] at hh
          exact br_f (fun y => z ((ty_y_0 (hT _)).mp y)) (nm_r (nI_1 _) hh)
      · rw [if_neg (fun y => s2 y.1)] at hh
        exact br_f s2 (nm_r (nI_1 _) hh)
  exact ⟨N + 1, loop N 0 (N + 1) (by omega) (by omega)⟩
theorem ym_take {J : Int32 → Int32 → Int32 → Int32 → Int32 → Int32 → Int32 → Int32 → Int32 → Int32 → Int32 → Int32 → Int32 → Int32 → Int32 → Int32 → Int32 → (Nat → Int32) → (Nat → Int32) → (Nat → Int32) → (Nat → Int32) → (Nat → Int32) → (Nat → Int32) → (Nat → Int32) → (Nat → Int32) → (Nat → Int32) → (Nat → Int32) → (Nat → Int32) → (Nat → Int32) → (Nat → Int32) → (Nat → Int32) → (Nat → Int32) → (Nat → Int32) → (Nat → Int32) → (Nat → Int32) → (Nat → Int32) → (Nat → Int32) → (Nat → Int32) → (Nat → Int32) → (Nat → Int32) → (Nat → Int32) → (Nat → Int32) → (Nat → Int32) → (Nat → Int32) → Prop} {r : Nat} {tb tb' : Nat → ty_T} (hT : ∀ q, ty_ok (tb q)) (hT' : ∀ q, ty_ok (tb' q)) (htb : ∀ q, q < 24 → a_tab q = ty_y (tb q)) (hnx : ∀ q, q < 24 → a_nxt q = ty_y (tb' q))
    (H1 : (∀ q, q < 24 → tb' q = tb q) → ∀ TA : Nat → Int32, (∀ q, q < 24 → TA q = ty_y (tb' q)) → ∃ m, wY_analyze_118 post f_n f_cap 1 f_res f_anyT f_intsT f_wp f_vp f_made f_active f_xp f_curK f_rBot f_rR f_rE0 f_rE1 a_st a_ar a_size a_bk a_ba a_bb a_ds TA a_nxt a_wN a_wS a_wF a_vs a_frS a_frP0 a_frP1 a_xN a_xS a_xE0 a_xE1 a_xA a_xB a_xC a_xD a_xE a_xF a_xG m 0 0) (H2 : (¬ ∀ q, q < 24 → tb' q = tb q) → ∀ TA : Nat → Int32, (∀ q, q < 24 → TA q = ty_y (tb' q)) → J (nI (r + 1)) f_n f_cap f_ana f_res f_anyT f_intsT f_wp f_vp f_made f_active f_xp f_curK f_rBot f_rR f_rE0 f_rE1 a_st a_ar a_size a_bk a_ba a_bb a_ds TA a_nxt a_wN a_wS a_wF a_vs a_frS a_frP0 a_frP1 a_xN a_xS a_xE0 a_xE1 a_xA a_xB a_xC a_xD a_xE a_xF a_xG) :
    ∃ fuel, wY_analyze_55 post J (nI r) f_n f_cap f_ana f_res f_anyT f_intsT f_wp f_vp f_made f_active f_xp f_curK f_rBot f_rR f_rE0 f_rE1 fuel 1 0 a_st a_ar a_size a_bk a_ba a_bb a_ds a_tab a_nxt a_wN a_wS a_wF a_vs a_frS a_frP0 a_frP1 a_xN a_xS a_xE0 a_xE1 a_xA a_xB a_xC a_xD a_xE a_xF a_xG := by
  have loop : ∀ d i fuel (c : Int32) (TA : Nat → Int32), i + d = 24 → d < fuel → (∀ q, q < i → TA q = ty_y (tb' q)) → (∀ q, i ≤ q → q < 24 → TA q = ty_y (tb q)) → (c = 1 ∧ (∀ q, q < i → tb' q = tb q) ∨ c = 0 ∧ ∃ q, q < i ∧ tb' q ≠ tb q) →
      wY_analyze_55 post J (nI r) f_n f_cap f_ana f_res f_anyT f_intsT f_wp f_vp f_made f_active f_xp f_curK f_rBot f_rR f_rE0 f_rE1 fuel c (nI i) a_st a_ar a_size a_bk a_ba a_bb a_ds TA a_nxt a_wN a_wS a_wF a_vs a_frS a_frP0 a_frP1 a_xN a_xS a_xE0 a_xE1 a_xA a_xB a_xC a_xD a_xE a_xF a_xG := by
    intro d
    induction d with
    | zero =>
      intro i fuel c TA h1 h2 s1 s2 hc
      obtain ⟨fuel, rfl⟩ : ∃ m, fuel = m + 1 := ⟨fuel - 1, by omega⟩
      obtain rfl : i = 24 := by omega
      refine br_t (by decide) ?_
      rcases hc with ⟨rfl, hc⟩ | ⟨rfl, q, hq, hc⟩
      · exact br_f (by decide) (H1 hc TA s1)
      · exact br_t rfl (nm_r (nI_1 r) (H2 (fun z => hc (z q hq)) TA s1))
    | succ d ih =>
      intro i fuel c TA h1 h2 s1 s2 hc
      obtain ⟨fuel, rfl⟩ : ∃ m, fuel = m + 1 := ⟨fuel - 1, by omega⟩
      have w : vp_in (nI i) 24 := vp_in_nI (by omega) (by decide)
      have cl : (nI i).toNatClampNeg = i := nI_clamp (by omega)
      have step : ∀ c' : Int32, (c' = 1 ∧ (∀ q, q < i + 1 → tb' q = tb q) ∨ c' = 0 ∧ ∃ q, q < i + 1 ∧ tb' q ≠ tb q) → wY_analyze_78 post J (wY_analyze_55 post J (nI r) f_n f_cap f_ana f_res f_anyT f_intsT f_wp f_vp f_made f_active f_xp f_curK f_rBot f_rR f_rE0 f_rE1 fuel) (nI r) c' (nI i) f_n f_cap f_ana f_res f_anyT f_intsT f_wp f_vp f_made f_active f_xp f_curK f_rBot f_rR f_rE0 f_rE1 a_st a_ar a_size a_bk a_ba a_bb a_ds TA a_nxt a_wN a_wS a_wF a_vs a_frS a_frP0 a_frP1 a_xN a_xS a_xE0 a_xE1 a_xA a_xB a_xC a_xD a_xE a_xF a_xG := by
        intro c' hc'
        unfold wY_analyze_78
        rw [cl]
        refine ⟨w, w, nm_e (nm_r (nI_1 i) (ih (i + 1) fuel c' _ (by omega) (by omega) (fun q hq => ?_) (fun q h3 h4 => ?_) hc'))⟩
        · by_cases e : q = i
          · subst e; rw [pk_us]; exact hnx q (by omega)
          · rw [pk_un e]; exact s1 q (by omega)
        · rw [pk_un (by omega)]; exact s2 q (by omega) h4
      refine br_f (nI_ge (b := 24) (by omega) (by decide)) ⟨w, w, ?_⟩
      rw [cl, s2 i (by omega) (by omega), hnx i (by omega)]
      by_cases z : tb' i = tb i
      · refine br_t (by rw [z]) (step c ?_)
        rcases hc with ⟨c0, hc⟩ | ⟨c1, q, hq, hc⟩
        · refine Or.inl ⟨c0, fun q hq => ?_⟩
          by_cases e : q = i
          · subst e; exact z
          · exact hc q (by omega)
        · exact Or.inr ⟨c1, q, by omega, hc⟩
      · exact br_f (fun y => z (ty_y_inj (hT' i) (hT i) y)) (step 0 (Or.inr ⟨rfl, i, by omega, z⟩))
  exact ⟨25, loop 24 0 25 1 a_tab (by omega) (by omega) (fun q hq => absurd hq (Nat.not_lt_zero q)) (fun q _ hq => htb q hq) (Or.inl ⟨rfl, fun q hq => absurd hq (Nat.not_lt_zero q)⟩)⟩
end
section
variable {f_n f_cap f_ana f_res f_anyT f_intsT f_wp f_vp f_made f_active f_xp f_curK f_rBot f_rR f_rE0 f_rE1 : Int32} {a_st a_ar a_size a_bk a_ba a_bb a_ds a_tab a_nxt a_wN a_wS a_wF a_vs a_frS a_frP0 a_frP1 a_xN a_xS a_xE0 a_xE1 a_xA a_xB a_xC a_xD a_xE a_xF a_xG : Nat → Int32} {N U : Nat} {sz S : Nat → Nat} {szX sX kd fo so ch pa dp : Nat → Int32} {post : Int32 → SY → Prop}
theorem ym_32 {J : Int32 → Int32 → Int32 → Int32 → Int32 → Int32 → Int32 → Int32 → Int32 → Int32 → Int32 → Int32 → Int32 → Int32 → Int32 → Int32 → Int32 → (Nat → Int32) → (Nat → Int32) → (Nat → Int32) → (Nat → Int32) → (Nat → Int32) → (Nat → Int32) → (Nat → Int32) → (Nat → Int32) → (Nat → Int32) → (Nat → Int32) → (Nat → Int32) → (Nat → Int32) → (Nat → Int32) → (Nat → Int32) → (Nat → Int32) → (Nat → Int32) → (Nat → Int32) → (Nat → Int32) → (Nat → Int32) → (Nat → Int32) → (Nat → Int32) → (Nat → Int32) → (Nat → Int32) → (Nat → Int32) → (Nat → Int32) → (Nat → Int32) → (Nat → Int32) → Prop} {tb : Nat → ty_T} {r : Nat} (hN : N ≤ 8) (hs : rl_slots N U sz S a_st a_ar szX a_size sX a_bk a_ba a_bb kd fo so ch pa dp)
    (hT : ∀ q, ty_ok (tb q)) (htb : ∀ q, q < 24 → a_tab q = ty_y (tb q)) (hi0 : f_intsT = ty_y ty_ints) (ha0 : f_anyT = ty_y ty_any)
    (H1 : (∀ q, q < 24 → sp_step N (rl_K a_bk) (rl_K a_ba) (rl_K a_bb) a_st a_ar sz tb q = tb q) → ∀ TA NX : Nat → Int32, (∀ q, q < 24 → TA q = ty_y (sp_step N (rl_K a_bk) (rl_K a_ba) (rl_K a_bb) a_st a_ar sz tb q)) → (∀ q, 3 * N ≤ q → q < 24 → NX q = 0) → ∀ (cK xq b r' e0 e1 : Int32) (Z' : Nat → Nat → Int32), ∃ m, wY_analyze_118 post (nI N) f_cap 1 f_res f_anyT f_intsT f_wp f_vp f_made f_active xq cK b r' e0 e1 a_st a_ar a_size a_bk a_ba a_bb a_ds TA NX a_wN a_wS a_wF a_vs a_frS a_frP0 a_frP1 (Z' 0) (Z' 1) (Z' 2) (Z' 3) (Z' 4) (Z' 5) (Z' 6) (Z' 7) (Z' 8) (Z' 9) (Z' 10) m 0 0)
    (H2 : (¬ ∀ q, q < 24 → sp_step N (rl_K a_bk) (rl_K a_ba) (rl_K a_bb) a_st a_ar sz tb q = tb q) → ∀ TA NX : Nat → Int32, (∀ q, q < 24 → TA q = ty_y (sp_step N (rl_K a_bk) (rl_K a_ba) (rl_K a_bb) a_st a_ar sz tb q)) → (∀ q, 3 * N ≤ q → q < 24 → NX q = 0) → ∀ (cK xq b r' e0 e1 : Int32) (Z' : Nat → Nat → Int32), J (nI (r + 1)) (nI N) f_cap f_ana f_res f_anyT f_intsT f_wp f_vp f_made f_active xq cK b r' e0 e1 a_st a_ar a_size a_bk a_ba a_bb a_ds TA NX a_wN a_wS a_wF a_vs a_frS a_frP0 a_frP1 (Z' 0) (Z' 1) (Z' 2) (Z' 3) (Z' 4) (Z' 5) (Z' 6) (Z' 7) (Z' 8) (Z' 9) (Z' 10)) :
    ∀ d f fuel (NX : Nat → Int32) (cK xq b r' e0 e1 : Int32) (Z' : Nat → Nat → Int32), f + d = N → d < fuel → (∀ q, q < f * 3 → NX q = ty_y (sp_step N (rl_K a_bk) (rl_K a_ba) (rl_K a_bb) a_st a_ar sz tb q)) → (∀ q, 3 * N ≤ q → q < 24 → NX q = 0) →
      wY_analyze_32 post J (nI r) fuel (nI f) (nI N) f_cap f_ana f_res f_anyT f_intsT f_wp f_vp f_made f_active xq cK b r' e0 e1 a_st a_ar a_size a_bk a_ba a_bb a_ds a_tab NX a_wN a_wS a_wF a_vs a_frS a_frP0 a_frP1 (Z' 0) (Z' 1) (Z' 2) (Z' 3) (Z' 4) (Z' 5) (Z' 6) (Z' 7) (Z' 8) (Z' 9) (Z' 10) := by
  intro d
  have ok := sp_step_ok (rl_sp_ok hs) hT
  induction d with
  | zero =>
    intro f fuel NX cK xq b r' e0 e1 Z' h1 h2 n1 n2
    obtain ⟨fuel, rfl⟩ : ∃ m, fuel = m + 1 := ⟨fuel - 1, by omega⟩
    obtain rfl : f = N := by omega
    refine br_t (nI_le (Nat.le_refl _) (by omega)) ?_
    have nx : ∀ q, q < 24 → NX q = ty_y (sp_step f (rl_K a_bk) (rl_K a_ba) (rl_K a_bb) a_st a_ar sz tb q) := by
      intro q hq
      by_cases c : q < f * 3
      · exact n1 q c
      · rw [n2 q (by omega) hq]
        unfold sp_step
        rw [if_neg (fun z => by omega), ty_y_00]
    exact ym_take hT ok htb nx (fun e TA hTA => H1 e TA NX hTA n2 cK xq b r' e0 e1 Z') (fun e TA hTA => H2 e TA NX hTA n2 cK xq b r' e0 e1 Z')
  | succ d ih =>
    intro f fuel NX cK xq b r' e0 e1 Z' h1 h2 n1 n2
    obtain ⟨fuel, rfl⟩ : ∃ m, fuel = m + 1 := ⟨fuel - 1, by omega⟩
    refine br_f (nI_ge (by omega) (by omega)) ?_
    refine ys_slot (show f < N by omega) hN (hs f (by omega)) hT htb hi0 ha0 fun NX' x cK xq b r' e0 e1 Z' => ?_
    obtain ⟨x1, x2⟩ := x
    refine nm_r (nI_1 f) (ih (f + 1) fuel NX' cK xq b r' e0 e1 Z' (by omega) (by omega) (fun q hq => ?_) (fun q h3 h4 => ?_))
    · by_cases c : q < f * 3
      · rw [x1 q (by omega) (by omega) (by omega)]; exact n1 q c
      · obtain ⟨j, hj, rfl⟩ : ∃ j, j < 3 ∧ q = f * 3 + j := ⟨q - f * 3, by omega, by omega⟩
        rw [x2 j hj]
        unfold sp_step
        rw [show (f * 3 + j) / 3 = f by omega, show (f * 3 + j) % 3 = j by omega]
        by_cases s2 : a_st f = 2
        · rw [if_pos s2, if_pos ⟨by omega, s2⟩]; rfl
        · rw [if_neg s2, if_neg (fun z => s2 z.2)]
    · rw [x1 q (by omega) (by omega) (by omega)]; exact n2 q h3 h4
theorem ym_23 {r0 : Nat} (hN : N ≤ 8) (hs : rl_slots N U sz S a_st a_ar szX a_size sX a_bk a_ba a_bb kd fo so ch pa dp) (hi0 : f_intsT = ty_y ty_ints) (ha0 : f_anyT = ty_y ty_any)
    (hr : r0 ≤ 1056) (f1 : ∀ q, q < 24 → sp_T N (rl_K a_bk) (rl_K a_ba) (rl_K a_bb) a_st a_ar sz (r0 + 1) q = sp_T N (rl_K a_bk) (rl_K a_ba) (rl_K a_bb) a_st a_ar sz r0 q) (f2 : ∀ j, j < r0 → ¬ ∀ q, q < 24 → sp_T N (rl_K a_bk) (rl_K a_ba) (rl_K a_bb) a_st a_ar sz (j + 1) q = sp_T N (rl_K a_bk) (rl_K a_ba) (rl_K a_bb) a_st a_ar sz j q)
    (H : ∀ TA NX : Nat → Int32, (∀ q, q < 24 → TA q = ty_y (sp_T N (rl_K a_bk) (rl_K a_ba) (rl_K a_bb) a_st a_ar sz (r0 + 1) q)) → (∀ q, 3 * N ≤ q → q < 24 → NX q = 0) → ∀ (cK xq b r' e0 e1 : Int32) (Z' : Nat → Nat → Int32), post (nI (an_cnt a_st (sp_T N (rl_K a_bk) (rl_K a_ba) (rl_K a_bb) a_st a_ar sz (r0 + 1)) N)) (nI N, f_cap, 1, f_res, f_anyT, f_intsT, f_wp, f_vp, f_made, f_active, xq, cK, b, r', e0, e1, a_st, a_ar, a_size, a_bk, a_ba, a_bb, a_ds, TA, NX, a_wN, a_wS, a_wF, a_vs, a_frS, a_frP0, a_frP1, Z' 0, Z' 1, Z' 2, Z' 3, Z' 4, Z' 5, Z' 6, Z' 7, Z' 8, Z' 9, Z' 10)) :
    ∀ d r fuel (TA NX : Nat → Int32) (cK xq b r' e0 e1 : Int32) (Z' : Nat → Nat → Int32), r + d = r0 → d < fuel → (∀ q, q < 24 → TA q = ty_y (sp_T N (rl_K a_bk) (rl_K a_ba) (rl_K a_bb) a_st a_ar sz r q)) → (∀ q, 3 * N ≤ q → q < 24 → NX q = 0) →
      wY_analyze_23 post fuel (nI r) (nI N) f_cap f_ana f_res f_anyT f_intsT f_wp f_vp f_made f_active xq cK b r' e0 e1 a_st a_ar a_size a_bk a_ba a_bb a_ds TA NX a_wN a_wS a_wF a_vs a_frS a_frP0 a_frP1 (Z' 0) (Z' 1) (Z' 2) (Z' 3) (Z' 4) (Z' 5) (Z' 6) (Z' 7) (Z' 8) (Z' 9) (Z' 10) := by
  intro d
  have ok := sp_T_ok (rl_sp_ok hs)
  induction d with
  | zero =>
    intro r fuel TA NX cK xq b r' e0 e1 Z' h1 h2 hTA hNX
    obtain ⟨fuel, rfl⟩ : ∃ m, fuel = m + 1 := ⟨fuel - 1, by omega⟩
    obtain rfl : r = r0 := by omega
    refine br_f (nI_ge (b := 4096) (by omega) (by decide)) ⟨N + 1, ?_⟩
    refine ym_32 hN hs (ok r) hTA hi0 ha0 (fun e TA' NX' s n cK xq b r' e0 e1 Z' => ?_) (fun e TA' NX' s n cK xq b r' e0 e1 Z' => ?_) N 0 (N + 1) NX cK xq b r' e0 e1 Z' (by omega) (by omega) (fun q hq => absurd hq (by omega)) hNX
    · exact ym_cnt hN (ok (r + 1)) s (H TA' NX' s n cK xq b r' e0 e1 Z')
    · exact absurd f1 e
  | succ d ih =>
    intro r fuel TA NX cK xq b r' e0 e1 Z' h1 h2 hTA hNX
    obtain ⟨fuel, rfl⟩ : ∃ m, fuel = m + 1 := ⟨fuel - 1, by omega⟩
    refine br_f (nI_ge (b := 4096) (by omega) (by decide)) ⟨N + 1, ?_⟩
    refine ym_32 hN hs (ok r) hTA hi0 ha0 (fun e TA' NX' s n cK xq b r' e0 e1 Z' => ?_) (fun e TA' NX' s n cK xq b r' e0 e1 Z' => ?_) N 0 (N + 1) NX cK xq b r' e0 e1 Z' (by omega) (by omega) (fun q hq => absurd hq (by omega)) hNX
    · exact absurd e (f2 r (by omega))
    · exact ih (r + 1) fuel TA' NX' cK xq b r' e0 e1 Z' (by omega) (by omega) s n
theorem ym_analyze {r0 : Nat} (hN : N ≤ 8) (hs : rl_slots N U sz S a_st a_ar szX a_size sX a_bk a_ba a_bb kd fo so ch pa dp) (hi0 : f_intsT = ty_y ty_ints) (ha0 : f_anyT = ty_y ty_any)
    (hNX : ∀ q, 3 * N ≤ q → q < 24 → a_nxt q = 0) (hr : r0 ≤ 1056) (f1 : ∀ q, q < 24 → sp_T N (rl_K a_bk) (rl_K a_ba) (rl_K a_bb) a_st a_ar sz (r0 + 1) q = sp_T N (rl_K a_bk) (rl_K a_ba) (rl_K a_bb) a_st a_ar sz r0 q) (f2 : ∀ j, j < r0 → ¬ ∀ q, q < 24 → sp_T N (rl_K a_bk) (rl_K a_ba) (rl_K a_bb) a_st a_ar sz (j + 1) q = sp_T N (rl_K a_bk) (rl_K a_ba) (rl_K a_bb) a_st a_ar sz j q)
    (H : ∀ TA NX : Nat → Int32, (∀ q, q < 24 → TA q = ty_y (sp_T N (rl_K a_bk) (rl_K a_ba) (rl_K a_bb) a_st a_ar sz (r0 + 1) q)) → (∀ q, 3 * N ≤ q → q < 24 → NX q = 0) → ∀ (cK xq b r' e0 e1 : Int32) (Z' : Nat → Nat → Int32), post (nI (an_cnt a_st (sp_T N (rl_K a_bk) (rl_K a_ba) (rl_K a_bb) a_st a_ar sz (r0 + 1)) N)) (nI N, f_cap, 1, f_res, f_anyT, f_intsT, f_wp, f_vp, f_made, f_active, xq, cK, b, r', e0, e1, a_st, a_ar, a_size, a_bk, a_ba, a_bb, a_ds, TA, NX, a_wN, a_wS, a_wF, a_vs, a_frS, a_frP0, a_frP1, Z' 0, Z' 1, Z' 2, Z' 3, Z' 4, Z' 5, Z' 6, Z' 7, Z' 8, Z' 9, Z' 10)) :
    wpY_analyze post (nI N, f_cap, f_ana, f_res, f_anyT, f_intsT, f_wp, f_vp, f_made, f_active, f_xp, f_curK, f_rBot, f_rR, f_rE0, f_rE1, a_st, a_ar, a_size, a_bk, a_ba, a_bb, a_ds, a_tab, a_nxt, a_wN, a_wS, a_wF, a_vs, a_frS, a_frP0, a_frP1, a_xN, a_xS, a_xE0, a_xE1, a_xA, a_xB, a_xC, a_xD, a_xE, a_xF, a_xG) := by
  have loop : ∀ d i fuel (TA : Nat → Int32), i + d = 24 → d < fuel → (∀ q, q < i → TA q = 0) → wY_analyze_2 post (nI N) f_cap f_ana f_res f_anyT f_intsT f_wp f_vp f_made f_active f_xp f_curK f_rBot f_rR f_rE0 f_rE1 fuel (nI i) a_st a_ar a_size a_bk a_ba a_bb a_ds TA a_nxt a_wN a_wS a_wF a_vs a_frS a_frP0 a_frP1 a_xN a_xS a_xE0 a_xE1 a_xA a_xB a_xC a_xD a_xE a_xF a_xG := by
    intro d
    induction d with
    | zero =>
      intro i fuel TA h1 h2 s
      obtain ⟨fuel, rfl⟩ : ∃ m, fuel = m + 1 := ⟨fuel - 1, by omega⟩
      obtain rfl : i = 24 := by omega
      exact br_t (by decide) ⟨r0 + 1, ym_23 hN hs hi0 ha0 hr f1 f2 H r0 0 (r0 + 1) TA a_nxt f_curK f_xp f_rBot f_rR f_rE0 f_rE1 (ys_z a_xN a_xS a_xE0 a_xE1 a_xA a_xB a_xC a_xD a_xE a_xF a_xG) (by omega) (by omega) (fun q hq => by rw [s q hq]; exact ty_y_00.symm) hNX⟩
    | succ d ih =>
      intro i fuel TA h1 h2 s
      obtain ⟨fuel, rfl⟩ : ∃ m, fuel = m + 1 := ⟨fuel - 1, by omega⟩
      refine br_f (nI_ge (b := 24) (by omega) (by decide)) ⟨vp_in_nI (by omega) (by decide), ?_⟩
      rw [nI_clamp (by omega)]
      refine nm_e (nm_r (nI_1 i) (ih (i + 1) fuel _ (by omega) (by omega) fun q hq => ?_))
      by_cases e : q = i
      · subst e; exact pk_us
      · rw [pk_un e]; exact s q (by omega)
  exact ⟨25, loop 24 0 25 a_tab (by omega) (by omega) (fun q hq => absurd hq (Nat.not_lt_zero q))⟩
end

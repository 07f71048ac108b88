theorem bs_dm_10 (c D : Nat → Nat) (m : Nat) : ∀ {n : Nat}, (∀ j, j < n → D (bs_sc c j m - 1) ≤ 10) → bs_dm c D m n ≤ 10 := by
  intro n
  induction n with
  | zero => intro _; exact Nat.zero_le _
  | succ n ih =>
    intro h
    rw [bs_dm_s]
    have := ih (fun j hj => h j (by omega))
    have := h n (by omega)
    omega
theorem yd_127 {p : Nat} (h : p < 128) : nI p &&& 127 = nI p := by
  rw [pk_andN (by omega) 7 (by decide), Nat.mod_eq_of_lt (by omega)]
section
variable {f_n f_cap f_ana f_res f_anyT f_intsT f_wp f_vp f_made f_active f_xp f_curK f_rBot f_rR f_rE0 f_rE1 : Int32} {a_st a_ar a_size a_bk a_ba a_bb a_ds a_tab a_nxt a_wN a_wS a_wF a_vs a_frS a_frP0 a_frP1 a_xN a_xS a_xE0 a_xE1 a_xA a_xB a_xC a_xD a_xE a_xF a_xG : Nat → Int32} {N U : Nat} {sz S : Nat → Nat} {bk bb pe pa : Nat → Int32}
theorem yd_bldg {Q : Int32 → Prop} {bs pc : Int32} (hN : N ≤ 8) (hbld : rl_bld N U sz S a_st bk bb pe pa bs pc) (H : Q bs) : wpY_building Q (nI N, f_cap, f_ana, f_res, f_anyT, f_intsT, f_wp, f_vp, f_made, f_active, f_xp, f_curK, f_rBot, f_rR, f_rE0, f_rE1, a_st, a_ar, a_size, a_bk, a_ba, a_bb, a_ds, a_tab, a_nxt, a_wN, a_wS, a_wF, a_vs, a_frS, a_frP0, a_frP1, a_xN, a_xS, a_xE0, a_xE1, a_xA, a_xB, a_xC, a_xD, a_xE, a_xF, a_xG) := by
  have loop : ∀ d f fuel, f + d = N → d < fuel → (∀ g, g < f → a_st g ≠ 1) → wY_building_2 Q (nI N) f_cap f_ana f_res f_anyT f_intsT f_wp f_vp f_made f_active f_xp f_curK f_rBot f_rR f_rE0 f_rE1 a_st a_ar a_size a_bk a_ba a_bb a_ds a_tab a_nxt a_wN a_wS a_wF a_vs a_frS a_frP0 a_frP1 a_xN a_xS a_xE0 a_xE1 a_xA a_xB a_xC a_xD a_xE a_xF a_xG fuel (nI f) := by
    intro d
    induction d with
    | zero =>
      intro f fuel h1 h2 h3
      obtain ⟨fuel, rfl⟩ : ∃ m, fuel = m + 1 := ⟨fuel - 1, by omega⟩
      obtain rfl : f = N := by omega
      refine br_t (nI_le (Nat.le_refl _) (by omega)) ?_
      rcases hbld with ⟨e, _⟩ | ⟨b, P, hb, _, _, s1, _⟩
      · rw [e] at H; exact H
      · exact absurd s1 (h3 b hb)
    | succ d ih =>
      intro f fuel h1 h2 h3
      obtain ⟨fuel, rfl⟩ : ∃ m, fuel = m + 1 := ⟨fuel - 1, by omega⟩
      refine br_f (nI_ge (by omega) (by omega)) ⟨vp_in_nI (by omega) (by decide), ?_⟩
      rw [nI_clamp (by omega)]
      by_cases s : a_st f = 1
      · refine br_t s ?_
        rcases hbld with ⟨_, _, e⟩ | ⟨b, P, hb, eb, _, s1, un, _⟩
        · exact absurd s (e f (by omega))
        · obtain rfl : f = b := Classical.byContradiction fun z => un f (by omega) z s
          rw [eb] at H; exact H
      · refine br_f s (nm_r (nI_1 f) (ih (f + 1) fuel (by omega) (by omega) fun g hg => ?_))
        by_cases e : g = f
        · subst e; exact s
        · exact h3 g (by omega)
  exact ⟨N + 1, loop N 0 (N + 1) (by omega) (by omega) (fun g hg => absurd hg (Nat.not_lt_zero g))⟩
end
section
variable {f_n f_cap f_ana f_res f_anyT f_intsT f_wp f_vp f_made f_active f_xp f_curK f_rBot f_rR f_rE0 f_rE1 : Int32} {a_st a_ar a_size a_bk a_ba a_bb a_ds a_tab a_nxt a_wN a_wS a_wF a_vs a_frS a_frP0 a_frP1 a_xN a_xS a_xE0 a_xE1 a_xA a_xB a_xC a_xD a_xE a_xF a_xG : Nat → Int32} {N k z b S : Nat} {kd fo so ch pa dp : Nat → Int32}
theorem yd_60 {post : Int32 → SY → Prop} {J : Int32 → Int32 → (Nat → Int32) → (Nat → Int32) → (Nat → Int32) → (Nat → Int32) → (Nat → Int32) → (Nat → Int32) → (Nat → Int32) → (Nat → Int32) → (Nat → Int32) → (Nat → Int32) → (Nat → Int32) → (Nat → Int32) → (Nat → Int32) → (Nat → Int32) → (Nat → Int32) → (Nat → Int32) → (Nat → Int32) → (Nat → Int32) → (Nat → Int32) → (Nat → Int32) → (Nat → Int32) → (Nat → Int32) → (Nat → Int32) → (Nat → Int32) → (Nat → Int32) → (Nat → Int32) → (Nat → Int32) → Prop}
    {i c : Nat} (hB : rl_body N k z S (rl_K a_bk b) (rl_K a_ba b) (rl_K a_bb b) kd fo so ch pa dp) (hi : i ≤ z) (hi2 : i < 128) (hc : c ≤ bs_pc (rl_c (rl_K a_bk b) (rl_K a_bb b)) i)
    (inv : ∀ j, j < bs_pc (rl_c (rl_K a_bk b) (rl_K a_bb b)) i → a_ds (bs_pc (rl_c (rl_K a_bk b) (rl_K a_bb b)) i - 1 - j) = nI (rl_D S dp (bs_sc (rl_c (rl_K a_bk b) (rl_K a_bb b)) j i - 1)))
    (H : wY_scan_105 post J (nI b) (nI (bs_pc (rl_c (rl_K a_bk b) (rl_K a_bb b)) i - c)) (nI i) (nI (bs_dm (rl_c (rl_K a_bk b) (rl_K a_bb b)) (rl_D S dp) i c)) f_n f_cap f_ana f_res f_anyT f_intsT f_wp f_vp f_made f_active f_xp f_curK f_rBot f_rR f_rE0 f_rE1 a_st a_ar a_size a_bk a_ba a_bb a_ds a_tab a_nxt a_wN a_wS a_wF a_vs a_frS a_frP0 a_frP1 a_xN a_xS a_xE0 a_xE1 a_xA a_xB a_xC a_xD a_xE a_xF a_xG) :
    ∀ r t fuel, t + r = c → r < fuel → wY_scan_60 post J (nI b) (nI i) (nI c) f_n f_cap f_ana f_res f_anyT f_intsT f_wp f_vp f_made f_active f_xp f_curK f_rBot f_rR f_rE0 f_rE1 a_st a_ar a_size a_bk a_ba a_bb a_ds a_tab a_nxt a_wN a_wS a_wF a_vs a_frS a_frP0 a_frP1 a_xN a_xS a_xE0 a_xE1 a_xA a_xB a_xC a_xD a_xE a_xF a_xG fuel (nI (bs_pc (rl_c (rl_K a_bk b) (rl_K a_bb b)) i - t)) (nI (bs_dm (rl_c (rl_K a_bk b) (rl_K a_bb b)) (rl_D S dp) i t)) (nI t) := by
  intro r
  have pl := bs_pc_le (rl_c (rl_K a_bk b) (rl_K a_bb b)) i
  have wf := bs_wf_m hB.2.1.2.2 hi
  have pos := bs_pos wf
  have dle : ∀ j, j < bs_pc (rl_c (rl_K a_bk b) (rl_K a_bb b)) i → rl_D S dp (bs_sc (rl_c (rl_K a_bk b) (rl_K a_bb b)) j i - 1) ≤ 10 := fun j hj => by
    have := pos.1 j hj
    have := bs_sc_le (rl_c (rl_K a_bk b) (rl_K a_bb b)) i j
    exact (rl_D_in hB (show bs_sc (rl_c (rl_K a_bk b) (rl_K a_bb b)) j i - 1 < z by omega)).2
  induction r with
  | zero =>
    intro t fuel h1 h2
    obtain ⟨fuel, rfl⟩ : ∃ m, fuel = m + 1 := ⟨fuel - 1, by omega⟩
    obtain rfl : t = c := by omega
    exact br_t (nI_le (Nat.le_refl _) (by omega)) H
  | succ r ih =>
    intro t fuel h1 h2
    obtain ⟨fuel, rfl⟩ : ∃ m, fuel = m + 1 := ⟨fuel - 1, by omega⟩
    have d1 := dle t (by omega)
    have d2 := bs_dm_10 (rl_c (rl_K a_bk b) (rl_K a_bb b)) (rl_D S dp) i (n := t) (fun j hj => dle j (by omega))
    have hh := ih (t + 1) fuel (by omega) (by omega)
    rw [bs_dm_s] at hh
    refine br_f (nI_ge (by omega) (by omega)) (br_f (nI_nle (by omega) (by omega)) (nm_r (e' := nI (bs_pc (rl_c (rl_K a_bk b) (rl_K a_bb b)) i - (t + 1))) ?_ ?_))
    · rw [show bs_pc (rl_c (rl_K a_bk b) (rl_K a_bb b)) i - t = bs_pc (rl_c (rl_K a_bk b) (rl_K a_bb b)) i - (t + 1) + 1 by omega]; exact pk_m1 _
    · rw [yd_127 (by omega), nI_clamp (by omega), show bs_pc (rl_c (rl_K a_bk b) (rl_K a_bb b)) i - (t + 1) = bs_pc (rl_c (rl_K a_bk b) (rl_K a_bb b)) i - 1 - t by omega, inv t (by omega)]
      rw [show bs_pc (rl_c (rl_K a_bk b) (rl_K a_bb b)) i - (t + 1) = bs_pc (rl_c (rl_K a_bk b) (rl_K a_bb b)) i - 1 - t by omega] at hh
      have w : vp_in (nI (bs_pc (rl_c (rl_K a_bk b) (rl_K a_bb b)) i - 1 - t)) 128 := vp_in_nI (by omega) (by decide)
      refine ⟨w, ?_⟩
      by_cases q : rl_D S dp (bs_sc (rl_c (rl_K a_bk b) (rl_K a_bb b)) t i - 1) ≤ bs_dm (rl_c (rl_K a_bk b) (rl_K a_bb b)) (rl_D S dp) i t
      · rw [Nat.max_eq_left q] at hh
        exact br_t (nI_le q (by omega)) (nm_r (nI_1 t) hh)
      · rw [Nat.max_eq_right (by omega)] at hh
        exact br_f (nI_ge (by omega) (by omega)) ⟨w, nm_e (nm_r (nI_1 t) hh)⟩
theorem yd_scan {Q : Int32 → SY → Prop} (hb : b < 8) (hB : rl_body N k z S (rl_K a_bk b) (rl_K a_ba b) (rl_K a_bb b) kd fo so ch pa dp) (ez : a_size b = nI z)
    (H : ∀ ds : Nat → Int32, (∀ j, j < bs_pc (rl_c (rl_K a_bk b) (rl_K a_bb b)) z → ds (bs_pc (rl_c (rl_K a_bk b) (rl_K a_bb b)) z - 1 - j) = nI (rl_D S dp (bs_sc (rl_c (rl_K a_bk b) (rl_K a_bb b)) j z - 1))) → Q (nI (bs_pc (rl_c (rl_K a_bk b) (rl_K a_bb b)) z)) (f_n, f_cap, f_ana, f_res, f_anyT, f_intsT, f_wp, f_vp, f_made, f_active, f_xp, f_curK, f_rBot, f_rR, f_rE0, f_rE1, a_st, a_ar, a_size, a_bk, a_ba, a_bb, ds, a_tab, a_nxt, a_wN, a_wS, a_wF, a_vs, a_frS, a_frP0, a_frP1, a_xN, a_xS, a_xE0, a_xE1, a_xA, a_xB, a_xC, a_xD, a_xE, a_xF, a_xG)) : wpY_scan Q (f_n, f_cap, f_ana, f_res, f_anyT, f_intsT, f_wp, f_vp, f_made, f_active, f_xp, f_curK, f_rBot, f_rR, f_rE0, f_rE1, a_st, a_ar, a_size, a_bk, a_ba, a_bb, a_ds, a_tab, a_nxt, a_wN, a_wS, a_wF, a_vs, a_frS, a_frP0, a_frP1, a_xN, a_xS, a_xE0, a_xE1, a_xA, a_xB, a_xC, a_xD, a_xE, a_xF, a_xG) (nI b) := by
  have hS := hB.1
  have w : vp_in (nI b) 8 := vp_in_nI hb (by decide)
  have cl : (nI b).toNatClampNeg = b := nI_clamp (by omega)
  have loop : ∀ d i fuel (ds : Nat → Int32), i + d = z → d < fuel → (∀ j, j < bs_pc (rl_c (rl_K a_bk b) (rl_K a_bb b)) i → ds (bs_pc (rl_c (rl_K a_bk b) (rl_K a_bb b)) i - 1 - j) = nI (rl_D S dp (bs_sc (rl_c (rl_K a_bk b) (rl_K a_bb b)) j i - 1))) → wY_scan_4 Q (nI b) f_n f_cap f_ana f_res f_anyT f_intsT f_wp f_vp f_made f_active f_xp f_curK f_rBot f_rR f_rE0 f_rE1 fuel (nI (bs_pc (rl_c (rl_K a_bk b) (rl_K a_bb b)) i)) (nI i) a_st a_ar a_size a_bk a_ba a_bb ds a_tab a_nxt a_wN a_wS a_wF a_vs a_frS a_frP0 a_frP1 a_xN a_xS a_xE0 a_xE1 a_xA a_xB a_xC a_xD a_xE a_xF a_xG := by
    intro d
    induction d with
    | zero =>
      intro i fuel ds h1 h2 inv
      obtain ⟨fuel, rfl⟩ : ∃ m, fuel = m + 1 := ⟨fuel - 1, by omega⟩
      obtain rfl : i = z := by omega
      refine ⟨w, br_t ?_ (H ds inv)⟩
      rw [cl, ez]; exact nI_le (Nat.le_refl _) (by omega)
    | succ d ih =>
      intro i fuel ds h1 h2 inv
      obtain ⟨fuel, rfl⟩ : ∃ m, fuel = m + 1 := ⟨fuel - 1, by omega⟩
      have hi : i < z := by omega
      have pl := bs_pc_le (rl_c (rl_K a_bk b) (rl_K a_bb b)) i
      have cle := hB.2.1.2.2 i hi
      have c3 := ab_c3 hB.2.1 hi
      have wi : vp_in (nI (b * 128 + i)) 1024 := vp_in_nI (by omega) (by decide)
      have ci : (nI (b * 128 + i)).toNatClampNeg = b * 128 + i := nI_clamp (by omega)
      have dl := rl_D_lt hB hi
      have di := rl_D_in hB hi
      refine ⟨w, br_f (by rw [cl, ez]; exact nI_ge hi (by omega)) (br_f (nI_ge (b := 128) (by omega) (by decide)) (nm_r (yk_ix hb (by omega)) ⟨wi, wi, ?_⟩))⟩
      rw [ci]
      refine yt_cc (hB.2.1.1 i hi) ⟨4, ?_⟩
      refine yd_60 (c := (rl_c (rl_K a_bk b) (rl_K a_bb b)) i) hB (by omega) (by omega) cle inv ?_ ((rl_c (rl_K a_bk b) (rl_K a_bb b)) i) 0 4 (by omega) (by omega)
      unfold wY_scan_105
      rw [yd_127 (by omega), nI_clamp (n := bs_pc (rl_c (rl_K a_bk b) (rl_K a_bb b)) i - (rl_c (rl_K a_bk b) (rl_K a_bb b)) i) (by omega), nI_1 (bs_dm (rl_c (rl_K a_bk b) (rl_K a_bb b)) (rl_D S dp) i ((rl_c (rl_K a_bk b) (rl_K a_bb b)) i)), ← dl]
      refine ⟨vp_in_nI (by omega) (by decide), nm_e (nm_r (e' := nI (bs_pc (rl_c (rl_K a_bk b) (rl_K a_bb b)) (i + 1))) (by rw [nI_1, bs_pc_s]) (nm_r (nI_1 i) (ih (i + 1) fuel _ (by omega) (by omega) fun j hj => ?_)))⟩
      rw [bs_pc_s] at hj ⊢
      cases j with
      | zero =>
        rw [bs_sc_0, show bs_pc (rl_c (rl_K a_bk b) (rl_K a_bb b)) i - (rl_c (rl_K a_bk b) (rl_K a_bb b)) i + 1 - 1 - 0 = bs_pc (rl_c (rl_K a_bk b) (rl_K a_bb b)) i - (rl_c (rl_K a_bk b) (rl_K a_bb b)) i by omega, pk_us, show i + 1 - 1 = i by omega]
      | succ j =>
        rw [bs_sc_s, pk_un (by omega), show bs_pc (rl_c (rl_K a_bk b) (rl_K a_bb b)) i - (rl_c (rl_K a_bk b) (rl_K a_bb b)) i + 1 - 1 - (j + 1) = bs_pc (rl_c (rl_K a_bk b) (rl_K a_bb b)) i - 1 - (j + (rl_c (rl_K a_bk b) (rl_K a_bb b)) i) by omega]
        exact inv (j + (rl_c (rl_K a_bk b) (rl_K a_bb b)) i) (by omega)
  exact ⟨z + 1, loop z 0 (z + 1) a_ds (by omega) (by omega) (fun j hj => absurd hj (Nat.not_lt_zero j))⟩
end
theorem i_vc_building {k : Nat} {u : SX} {v : SY} (I : i_Rel k u v) (hk : k + 4 ≤ 2050) : wpX_building (fun r => wpY_building (fun r' => r' = r ∧ i_Rel (k + 4) u v) v) u := by
  have J := I
  obtain ⟨f_slotCount, f_capacity, f_nodesUsed, f_buildingSlot, f_pendingCount, f_summariesCurrent, f_callsActive, f_callsMade, f_runOutcome, f_runValue, a_slotStates, a_slotArities, a_slotStarts, a_slotSizes, a_kinds, a_firstOperands, a_secondOperands, a_children, a_parents, a_depths, a_pendingNodes, a_summaries, a_nextSummaries, a_nodeTypes, a_paramsAfter, a_params, a_values, a_arguments, a_frameSlots, a_frameNodes⟩ := u
  obtain ⟨f_n, f_cap, f_ana, f_res, f_anyT, f_intsT, f_wp, f_vp, f_made, f_active, f_xp, f_curK, f_rBot, f_rR, f_rE0, f_rE1, a_st, a_ar, a_size, a_bk, a_ba, a_bb, a_ds, a_tab, a_nxt, a_wN, a_wS, a_wF, a_vs, a_frS, a_frP0, a_frP1, a_xN, a_xS, a_xE0, a_xE1, a_xA, a_xB, a_xC, a_xD, a_xE, a_xF, a_xG⟩ := v
  obtain ⟨N, C, U, sz, S, tb, rfl, rfl, rfl, rfl, rfl, rfl, rfl, rfl, rfl, rfl, rfl, ⟨hN1, hN, hC1, hC, hU⟩, hcur, hsum, hs, hbld, htab⟩ := I
  exact yd_bldg hN hbld ⟨rfl, J⟩
theorem i_vc_pending {k : Nat} {u : SX} {v : SY} (I : i_Rel k u v) (hk : k + 4 ≤ 2050) : wpX_pending (fun r => wpY_pending (fun r' v' => r' = r ∧ i_Rel (k + 4) u v') v) u := by
  have J := I
  obtain ⟨f_slotCount, f_capacity, f_nodesUsed, f_buildingSlot, f_pendingCount, f_summariesCurrent, f_callsActive, f_callsMade, f_runOutcome, f_runValue, a_slotStates, a_slotArities, a_slotStarts, a_slotSizes, a_kinds, a_firstOperands, a_secondOperands, a_children, a_parents, a_depths, a_pendingNodes, a_summaries, a_nextSummaries, a_nodeTypes, a_paramsAfter, a_params, a_values, a_arguments, a_frameSlots, a_frameNodes⟩ := u
  obtain ⟨f_n, f_cap, f_ana, f_res, f_anyT, f_intsT, f_wp, f_vp, f_made, f_active, f_xp, f_curK, f_rBot, f_rR, f_rE0, f_rE1, a_st, a_ar, a_size, a_bk, a_ba, a_bb, a_ds, a_tab, a_nxt, a_wN, a_wS, a_wF, a_vs, a_frS, a_frP0, a_frP1, a_xN, a_xS, a_xE0, a_xE1, a_xA, a_xB, a_xC, a_xD, a_xE, a_xF, a_xG⟩ := v
  obtain ⟨N, C, U, sz, S, tb, rfl, rfl, rfl, rfl, rfl, rfl, rfl, rfl, rfl, rfl, rfl, ⟨hN1, hN, hC1, hC, hU⟩, hcur, hsum, hs, hbld, htab⟩ := I
  unfold wpX_pending wpY_pending
  refine yd_bldg hN hbld ?_
  have hb0 := hbld
  rcases hbld with ⟨rfl, rfl, _⟩ | ⟨b, P, hb, rfl, rfl, s1, un, eU, lo, eP, pp⟩
  · exact br_f (by decide) ⟨rfl, J⟩
  · obtain ⟨e1, e2, e3, e4, kk, hkk, ekk, hB⟩ := (hs b hb).2.1 (by rw [s1]; decide)
    refine br_t (nI_pos' (by omega)) (yd_scan (by omega) hB e2 fun ds _ => ⟨by rw [eP], ?_⟩)
    exact ⟨N, C, U, sz, S, tb, rfl, rfl, rfl, rfl, rfl, rfl, rfl, rfl, rfl, rfl, rfl, ⟨hN1, hN, hC1, hC, hU⟩, hcur, hsum, hs, hb0, htab⟩

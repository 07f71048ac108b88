section
variable {f_slotCount f_capacity f_nodesUsed f_buildingSlot f_pendingCount f_summariesCurrent f_callsActive f_callsMade f_runOutcome f_runValue : Int32} {a_slotStates a_slotArities a_slotStarts a_slotSizes a_kinds a_firstOperands a_secondOperands a_children a_parents a_depths a_pendingNodes a_summaries a_nextSummaries a_nodeTypes a_paramsAfter a_params a_values a_arguments a_frameSlots a_frameNodes : Nat → Int32} {N : Nat}
theorem xe_go {post : Int32 → SX → Prop} {f k : Nat} {x y : Int32} (hN : N ≤ 8) (hf : f < N) (s2 : a_slotStates f = 2) (ek : a_slotArities f = nI k) (hk : k ≤ 2) (H1 : rn_ag (nI k) x y → wX_run_58 post (nI f) x y (nI N) f_capacity f_nodesUsed f_buildingSlot f_pendingCount f_summariesCurrent f_callsActive f_callsMade f_runOutcome f_runValue a_slotStates a_slotArities a_slotStarts a_slotSizes a_kinds a_firstOperands a_secondOperands a_children a_parents a_depths a_pendingNodes a_summaries a_nextSummaries a_nodeTypes a_paramsAfter a_params a_values a_arguments a_frameSlots a_frameNodes) (H0 : ¬ rn_ag (nI k) x y → post 3 (nI N, f_capacity, f_nodesUsed, f_buildingSlot, f_pendingCount, f_summariesCurrent, f_callsActive, f_callsMade, f_runOutcome, f_runValue, a_slotStates, a_slotArities, a_slotStarts, a_slotSizes, a_kinds, a_firstOperands, a_secondOperands, a_children, a_parents, a_depths, a_pendingNodes, a_summaries, a_nextSummaries, a_nodeTypes, a_paramsAfter, a_params, a_values, a_arguments, a_frameSlots, a_frameNodes)) :
    wpX_run post (nI N, f_capacity, f_nodesUsed, f_buildingSlot, f_pendingCount, f_summariesCurrent, f_callsActive, f_callsMade, f_runOutcome, f_runValue, a_slotStates, a_slotArities, a_slotStarts, a_slotSizes, a_kinds, a_firstOperands, a_secondOperands, a_children, a_parents, a_depths, a_pendingNodes, a_summaries, a_nextSummaries, a_nodeTypes, a_paramsAfter, a_params, a_values, a_arguments, a_frameSlots, a_frameNodes) (nI f) x y := by
  have w : vp_in (nI f) 8 := vp_in_nI (by omega) (by decide)
  have cl : (nI f).toNatClampNeg = f := nI_clamp (by omega)
  have k1 : (1 : Int32) ≤ nI k ↔ 1 ≤ k := by rw [show (1 : Int32) = nI 1 by decide, nI_leI (by omega) (by omega)]
  have k2 : (2 : Int32) ≤ nI k ↔ 2 ≤ k := by rw [show (2 : Int32) = nI 2 by decide, nI_leI (by omega) (by omega)]
  have k3 : nI k = 2 ↔ k = 2 := by rw [show (2 : Int32) = nI 2 by decide, nI_eq (by omega) (by omega)]
  have s39 : (1 ≤ k → rn_ok x) → wX_run_39 post (nI f) x y (nI N) f_capacity f_nodesUsed f_buildingSlot f_pendingCount f_summariesCurrent f_callsActive f_callsMade f_runOutcome f_runValue a_slotStates a_slotArities a_slotStarts a_slotSizes a_kinds a_firstOperands a_secondOperands a_children a_parents a_depths a_pendingNodes a_summaries a_nextSummaries a_nodeTypes a_paramsAfter a_params a_values a_arguments a_frameSlots a_frameNodes := by
    intro hx
    unfold wX_run_39
    rw [cl, ek]
    refine ⟨w, ?_⟩
    by_cases c : k = 2
    · refine br_t (k3.mpr c) (xt_isValue (fun oy => br_f (by decide) (H1 ⟨fun z => hx (k1.mp z), fun _ => oy⟩)) (fun ny => br_t rfl (H0 fun z => ny (z.2 (k2.mpr (by omega))))))
    · exact br_f (fun z => c (k3.mp z)) (H1 ⟨fun z => hx (k1.mp z), fun z => by have := k2.mp z; omega⟩)
  unfold wpX_run
  dsimp only
  refine xd_slot hN (fun f' hf' e => br_f (by decide) ⟨w, ?_⟩) (fun no => absurd ⟨f, hf, rfl⟩ no)
  rw [cl, ek]
  refine br_t s2 ⟨w, ?_⟩
  by_cases c : k < 1
  · exact br_t ((yc_k1 hk).mpr c) (s39 fun z => by omega)
  · exact br_f (fun z => c ((yc_k1 hk).mp z)) (xt_isValue (fun ox => br_f (by decide) (s39 fun _ => ox)) (fun nx => br_t rfl (H0 fun z => nx (z.1 (k1.mpr (by omega))))))
end
section
variable {f_n f_cap f_ana f_res f_anyT f_intsT f_wp f_vp f_made f_active f_xp f_curK f_rBot f_rR f_rE0 f_rE1 : Int32} {a_st a_ar a_size a_bk a_ba a_bb a_ds a_tab a_nxt a_wN a_wS a_wF a_vs a_frS a_frP0 a_frP1 a_xN a_xS a_xE0 a_xE1 a_xA a_xB a_xC a_xD a_xE a_xF a_xG : Nat → Int32} {N : Nat}
theorem ye_go {post : Int32 → SY → Prop} {f k : Nat} {x y : Int32} (hN : N ≤ 8) (hf : f < N) (s2 : a_st f = 2) (ek : a_ar f = nI k) (hk : k ≤ 2) (H1 : rn_ag (nI k) x y → wY_run_64 post (nI f) x y (nI N) f_cap f_ana f_res f_anyT f_intsT f_wp f_vp f_made f_active f_xp f_curK f_rBot f_rR f_rE0 f_rE1 a_st a_ar a_size a_bk a_ba a_bb a_ds a_tab a_nxt a_wN a_wS a_wF a_vs a_frS a_frP0 a_frP1 a_xN a_xS a_xE0 a_xE1 a_xA a_xB a_xC a_xD a_xE a_xF a_xG) (H0 : ¬ rn_ag (nI k) x y → post 3 (nI N, f_cap, f_ana, f_res, f_anyT, f_intsT, f_wp, f_vp, f_made, f_active, f_xp, f_curK, f_rBot, f_rR, f_rE0, f_rE1, a_st, a_ar, a_size, a_bk, a_ba, a_bb, a_ds, a_tab, a_nxt, a_wN, a_wS, a_wF, a_vs, a_frS, a_frP0, a_frP1, a_xN, a_xS, a_xE0, a_xE1, a_xA, a_xB, a_xC, a_xD, a_xE, a_xF, a_xG)) :
    wpY_run post (nI N, f_cap, f_ana, f_res, f_anyT, f_intsT, f_wp, f_vp, f_made, f_active, f_xp, f_curK, f_rBot, f_rR, f_rE0, f_rE1, a_st, a_ar, a_size, a_bk, a_ba, a_bb, a_ds, a_tab, a_nxt, a_wN, a_wS, a_wF, a_vs, a_frS, a_frP0, a_frP1, a_xN, a_xS, a_xE0, a_xE1, a_xA, a_xB, a_xC, a_xD, a_xE, a_xF, a_xG) (nI f) x y := by
  have w : vp_in (nI f) 8 := vp_in_nI (by omega) (by decide)
  have cl : (nI f).toNatClampNeg = f := nI_clamp (by omega)
  have k1 : (1 : Int32) ≤ nI k ↔ 1 ≤ k := by rw [show (1 : Int32) = nI 1 by decide, nI_leI (by omega) (by omega)]
  have k2 : (2 : Int32) ≤ nI k ↔ 2 ≤ k := by rw [show (2 : Int32) = nI 2 by decide, nI_leI (by omega) (by omega)]
  have k3 : nI k = 2 ↔ k = 2 := by rw [show (2 : Int32) = nI 2 by decide, nI_eq (by omega) (by omega)]
  have s44 : (1 ≤ k → rn_ok x) → wY_run_44 post (nI f) x y (nI N) f_cap f_ana f_res f_anyT f_intsT f_wp f_vp f_made f_active f_xp f_curK f_rBot f_rR f_rE0 f_rE1 a_st a_ar a_size a_bk a_ba a_bb a_ds a_tab a_nxt a_wN a_wS a_wF a_vs a_frS a_frP0 a_frP1 a_xN a_xS a_xE0 a_xE1 a_xA a_xB a_xC a_xD a_xE a_xF a_xG := by
    intro hx
    unfold wY_run_44
    rw [cl, ek]
    refine ⟨w, ?_⟩
    by_cases c : k = 2
    · refine br_t (k3.mpr c) (yt_code (fun oy => br_f (by decide) (H1 ⟨fun z => hx (k1.mp z), fun _ => oy⟩)) (fun ny => br_t rfl (H0 fun z => ny (z.2 (k2.mpr (by omega))))))
    · exact br_f (fun z => c (k3.mp z)) (H1 ⟨fun z => hx (k1.mp z), fun z => by have := k2.mp z; omega⟩)
  unfold wpY_run
  dsimp only
  refine br_f (nI_pos (by omega)) (br_f (nI_ge hf (by omega)) ⟨w, ?_⟩)
  rw [cl, ek]
  refine br_t s2 ⟨w, ?_⟩
  by_cases c : k < 1
  · exact br_t ((yc_k1 hk).mpr c) (s44 fun z => by omega)
  · exact br_f (fun z => c ((yc_k1 hk).mp z)) (yt_code (fun ox => br_f (by decide) (s44 fun _ => ox)) (fun nx => br_t rfl (H0 fun z => nx (z.1 (k1.mpr (by omega))))))
theorem ye_no {post : Int32 → SY → Prop} {v x y : Int32} (hN : N ≤ 8) (no : ¬ ∃ f : Nat, f < N ∧ v = nI f ∧ a_st f = 2) (H : post 3 (nI N, f_cap, f_ana, f_res, f_anyT, f_intsT, f_wp, f_vp, f_made, f_active, f_xp, f_curK, f_rBot, f_rR, f_rE0, f_rE1, a_st, a_ar, a_size, a_bk, a_ba, a_bb, a_ds, a_tab, a_nxt, a_wN, a_wS, a_wF, a_vs, a_frS, a_frP0, a_frP1, a_xN, a_xS, a_xE0, a_xE1, a_xA, a_xB, a_xC, a_xD, a_xE, a_xF, a_xG)) : wpY_run post (nI N, f_cap, f_ana, f_res, f_anyT, f_intsT, f_wp, f_vp, f_made, f_active, f_xp, f_curK, f_rBot, f_rR, f_rE0, f_rE1, a_st, a_ar, a_size, a_bk, a_ba, a_bb, a_ds, a_tab, a_nxt, a_wN, a_wS, a_wF, a_vs, a_frS, a_frP0, a_frP1, a_xN, a_xS, a_xE0, a_xE1, a_xA, a_xB, a_xC, a_xD, a_xE, a_xF, a_xG) v x y := by
  unfold wpY_run
  dsimp only
  rcases pk_ix v (n := N) (by omega) with h | h | ⟨f, hf, rfl⟩
  · exact br_t h H
  · exact br_f (rd_n (by omega) h) (br_t h H)
  · refine br_f (nI_pos (by omega)) (br_f (nI_ge hf (by omega)) ⟨vp_in_nI (by omega) (by decide), ?_⟩)
    rw [nI_clamp (by omega)]
    exact br_f (fun z => no ⟨f, hf, rfl, z⟩) H
end
theorem i_vc_run {k : Nat} {u : SX} {v : SY} (I : i_Rel k u v) (hk : k + 4 ≤ 2050) (v1 : Int32) (v2 : Int32) (v3 : Int32) : wpX_run (fun r u' => wpY_run (fun r' v' => r' = r ∧ i_Rel (k + 4) u' v') v v1 v2 v3) u v1 v2 v3 := by
  have J := I
  obtain ⟨f_slotCount, f_capacity, f_nodesUsed, f_buildingSlot, f_pendingCount, f_summariesCurrent, f_callsActive, f_callsMade, f_runOutcome, f_runValue, a_slotStates, a_slotArities, a_slotStarts, a_slotSizes, a_kinds, a_firstOperands, a_secondOperands, a_children, a_parents, a_depths, a_pendingNodes, a_summaries, a_nextSummaries, a_nodeTypes, a_paramsAfter, a_params, a_values, a_arguments, a_frameSlots, a_frameNodes⟩ := u
  obtain ⟨f_n, f_cap, f_ana, f_res, f_anyT, f_intsT, f_wp, f_vp, f_made, f_active, f_xp, f_curK, f_rBot, f_rR, f_rE0, f_rE1, a_st, a_ar, a_size, a_bk, a_ba, a_bb, a_ds, a_tab, a_nxt, a_wN, a_wS, a_wF, a_vs, a_frS, a_frP0, a_frP1, a_xN, a_xS, a_xE0, a_xE1, a_xA, a_xB, a_xC, a_xD, a_xE, a_xF, a_xG⟩ := v
  obtain ⟨N, C, U, sz, S, tb, rfl, rfl, rfl, rfl, rfl, rfl, rfl, rfl, rfl, rfl, rfl, ⟨hN1, hN, hC1, hC, hU⟩, hcur, hsum, hs, hbld, htab⟩ := I
  by_cases ex : ∃ f : Nat, f < N ∧ v1 = nI f ∧ a_slotStates f = 2
  · obtain ⟨f, hf, rfl, s2⟩ := ex
    obtain ⟨_, _, _, _, kk, hkk, ekk, _⟩ := (hs f hf).2.1 (by rw [s2]; decide)
    refine xe_go hN hf s2 ekk hkk (fun ag => ?_) (fun na => ye_go hN hf s2 ekk hkk (fun ag => absurd ag na) (fun _ => ⟨rfl, J⟩))
    have ag' : rn_ag (a_slotArities f) v2 v3 := by rw [ekk]; exact ag
    refine xq_run hN hs hf s2 ag' (fun n ca cm V AR FS FN => ?_) (fun o ca cm V AR FS FN => ?_)
    · refine ye_go hN hf s2 ekk hkk (fun _ => ?_) (fun na => absurd ag na)
      refine yq_run hN hs hf s2 ag' (fun n' x1 x2 x3 x4 Z => ⟨rfl, ?_⟩) (fun o => absurd o n)
      exact ⟨N, C, U, sz, S, tb, rfl, rfl, rfl, rfl, rfl, rfl, rfl, rfl, rfl, rfl, rfl, ⟨hN1, hN, hC1, hC, hU⟩, hcur, hsum, hs, hbld, htab⟩
    · refine ye_go hN hf s2 ekk hkk (fun _ => ?_) (fun na => absurd ag na)
      refine yq_run hN hs hf s2 ag' (fun n' => absurd o n') (fun o' x1 x2 x3 x4 Z => ⟨rfl, ?_⟩)
      exact ⟨N, C, U, sz, S, tb, rfl, rfl, rfl, rfl, rfl, rfl, rfl, rfl, rfl, rfl, rfl, ⟨hN1, hN, hC1, hC, hU⟩, hcur, hsum, hs, hbld, htab⟩
  · unfold wpX_run
    refine xd_slot hN (fun f hf e => br_f (by decide) ?_) (fun _ => br_t rfl (ye_no hN ex ⟨rfl, J⟩))
    subst e
    refine ⟨vp_in_nI (by omega) (by decide), br_f (fun z => ex ⟨f, hf, rfl, ?_⟩) (ye_no hN ex ⟨rfl, J⟩)⟩
    rw [nI_clamp (by omega)] at z
    exact z
theorem i_vc_analyze {k : Nat} {u : SX} {v : SY} (I : i_Rel k u v) (hk : k + 4 ≤ 2050) : wpX_analyze (fun r u' => wpY_analyze (fun r' v' => r' = r ∧ i_Rel (k + 4) u' v') v) u := by
  obtain ⟨f_slotCount, f_capacity, f_nodesUsed, f_buildingSlot, f_pendingCount, f_summariesCurrent, f_callsActive, f_callsMade, f_runOutcome, f_runValue, a_slotStates, a_slotArities, a_slotStarts, a_slotSizes, a_kinds, a_firstOperands, a_secondOperands, a_children, a_parents, a_depths, a_pendingNodes, a_summaries, a_nextSummaries, a_nodeTypes, a_paramsAfter, a_params, a_values, a_arguments, a_frameSlots, a_frameNodes⟩ := u
  obtain ⟨f_n, f_cap, f_ana, f_res, f_anyT, f_intsT, f_wp, f_vp, f_made, f_active, f_xp, f_curK, f_rBot, f_rR, f_rE0, f_rE1, a_st, a_ar, a_size, a_bk, a_ba, a_bb, a_ds, a_tab, a_nxt, a_wN, a_wS, a_wF, a_vs, a_frS, a_frP0, a_frP1, a_xN, a_xS, a_xE0, a_xE1, a_xA, a_xB, a_xC, a_xD, a_xE, a_xF, a_xG⟩ := v
  obtain ⟨N, C, U, sz, S, tb, rfl, rfl, rfl, rfl, rfl, rfl, rfl, rfl, rfl, rfl, rfl, ⟨hN1, hN, hC1, hC, hU⟩, hcur, hsum, hs, hbld, htab⟩ := I
  obtain ⟨r0, hr, f1, f2⟩ := sp_fix (rl_sp_ok hs)
  refine xn_analyze hN hs (fun q h1 h2 => (htab.2.2 q h1 h2).1) hr f1 f2 fun SU NX NT PA P s n => ?_
  refine ym_analyze hN hs rfl rfl (fun q h1 h2 => (htab.2.2 q h1 h2).2) hr f1 f2 fun TA NX' s' n' cK xq b r' e0 e1 Z' => ⟨rfl, ?_⟩
  exact ⟨N, C, U, sz, S, sp_T N (rl_K a_bk) (rl_K a_ba) (rl_K a_bb) a_slotStates a_slotArities sz (r0 + 1), rfl, rfl, rfl, rfl, rfl, rfl, rfl, rfl, rfl, rfl, rfl, ⟨hN1, hN, hC1, hC, hU⟩, Or.inr rfl, hsum, hs, hbld,
    sp_T_ok (rl_sp_ok hs) (r0 + 1), fun q hq => ⟨s q hq, s' q hq⟩, fun q h1 h2 => ⟨n q h1 h2, n' q h1 h2⟩⟩
/-- a number held between two bounds -/
def rd_c (p : Int32) (lo hi N : Nat) : Prop := (¬ nI lo ≤ p ∧ N = lo) ∨ (nI lo ≤ p ∧ ¬ p ≤ nI hi ∧ N = hi) ∨ (nI lo ≤ p ∧ p ≤ nI hi ∧ p = nI N)
theorem rd_cex (p : Int32) {lo hi : Nat} (h : lo ≤ hi) (hh : hi < 2 ^ 31) : ∃ N : Nat, rd_c p lo hi N ∧ lo ≤ N ∧ N ≤ hi := by
  by_cases a : nI lo ≤ p
  · by_cases b : p ≤ nI hi
    · obtain ⟨j, hj, rfl⟩ := nI_of (rd_n (by omega) a)
      rw [nI_leI (by omega) hj] at a
      have b' := b
      rw [nI_leI hj hh] at b'
      exact ⟨j, Or.inr (Or.inr ⟨nI_le a hj, b, rfl⟩), a, b'⟩
    · exact ⟨hi, Or.inr (Or.inl ⟨a, b, rfl⟩), h, Nat.le_refl _⟩
  · exact ⟨lo, Or.inl ⟨a, rfl⟩, Nat.le_refl _, h⟩
theorem xd_clamp {Q : Int32 → Prop} {p : Int32} {lo hi N : Nat} (h : rd_c p lo hi N) (H : Q (nI N)) : wpX_clamp Q p (nI lo) (nI hi) := by
  rcases h with ⟨a, rfl⟩ | ⟨a, b, rfl⟩ | ⟨a, b, rfl⟩
  · exact br_f a H
  · exact br_t a (br_f b H)
  · exact br_t a (br_t b H)
theorem rl_sum_0 (sz : Nat → Nat) : ∀ n, rl_sum (fun _ => 0) sz n = 0 := by
  intro n
  induction n with
  | zero => rfl
  | succ n ih => rw [rl_sum_s, ih, if_pos rfl]
section
variable {f_n f_cap f_ana f_res f_anyT f_intsT f_wp f_vp f_made f_active f_xp f_curK f_rBot f_rR f_rE0 f_rE1 : Int32} {a_st a_ar a_size a_bk a_ba a_bb a_ds a_tab a_nxt a_wN a_wS a_wF a_vs a_frS a_frP0 a_frP1 a_xN a_xS a_xE0 a_xE1 a_xA a_xB a_xC a_xD a_xE a_xF a_xG : Nat → Int32}
theorem yd_init9 {post : SY → Prop} {z : Int32} (H : post (f_n, z, f_ana, f_res, ty_y ty_any, ty_y ty_ints, f_wp, f_vp, f_made, f_active, f_xp, f_curK, f_rBot, f_rR, f_rE0, f_rE1, a_st, a_ar, a_size, a_bk, a_ba, a_bb, a_ds, a_tab, a_nxt, a_wN, a_wS, a_wF, a_vs, a_frS, a_frP0, a_frP1, a_xN, a_xS, a_xE0, a_xE1, a_xA, a_xB, a_xC, a_xD, a_xE, a_xF, a_xG)) : wY_init_279 post z f_n f_cap f_ana f_res f_anyT f_intsT f_wp f_vp f_made f_active f_xp f_curK f_rBot f_rR f_rE0 f_rE1 a_st a_ar a_size a_bk a_ba a_bb a_ds a_tab a_nxt a_wN a_wS a_wF a_vs a_frS a_frP0 a_frP1 a_xN a_xS a_xE0 a_xE1 a_xA a_xB a_xC a_xD a_xE a_xF a_xG := by
  unfold wY_init_279
  rw [show (-99 : Int32) = ty_lw 18 by decide, show (99 : Int32) = ty_hw 18 by decide]
  refine yt_mk (m := 255) (by decide) (by decide) (by decide) (by decide) (by decide) ?_
  exact yt_mk (m := 0) (by decide) (by decide) (by decide) (by decide) (by decide) H
end
theorem i_vc0 (k0 : Int32) (k1 : Int32) : wpX_init (fun u => wpY_init (fun v => i_Rel 2 u v) k0 k1) k0 k1 := by
  obtain ⟨N, cN, hN1, hN⟩ := rd_cex k0 (lo := 1) (hi := 8) (by decide) (by decide)
  obtain ⟨C, cC, hC1, hC⟩ := rd_cex k1 (lo := 16) (hi := 128) (by decide) (by decide)
  unfold wpX_init
  refine xd_clamp (lo := 1) (hi := 8) cN (xd_clamp (lo := 16) (hi := 128) cC ?_)
  have fin : i_Rel 2 (nI N, nI C, 0, -1, 0, 0, 0, 0, 0, 0, fun _ => 0, fun _ => 0, fun _ => 0, fun _ => 0, fun _ => 0, fun _ => 0, fun _ => 0, fun _ => 0, fun _ => 0, fun _ => 0, fun _ => 0, fun _ => 0, fun _ => 0, fun _ => 0, fun _ => 0, fun _ => 0, fun _ => 0, fun _ => 0, fun _ => 0, fun _ => 0)
      (nI N, nI C, 0, 0, ty_y ty_any, ty_y ty_ints, 0, 0, 0, 0, 0, 0, 0, 0, 0, 0, fun _ => 0, fun _ => 0, fun _ => 0, fun _ => 0, fun _ => 0, fun _ => 0, fun _ => 0, fun _ => 0, fun _ => 0, fun _ => 0, fun _ => 0, fun _ => 0, fun _ => 0, fun _ => 0, fun _ => 0, fun _ => 0, fun _ => 0, fun _ => 0, fun _ => 0, fun _ => 0, fun _ => 0, fun _ => 0, fun _ => 0, fun _ => 0, fun _ => 0, fun _ => 0, fun _ => 0) :=
    ⟨N, C, 0, fun _ => 0, fun _ => 0, fun _ => ty_0, rfl, rfl, rfl, rfl, rfl, rfl, rfl, rfl, rfl, rfl, rfl, ⟨hN1, hN, hC1, hC, Nat.zero_le _⟩, Or.inl rfl, rl_sum_0 _ N,
      fun f hf => ⟨Or.inl rfl, fun z => absurd rfl z, fun z => absurd (show (0 : Int32) = 2 from z) (by decide)⟩, Or.inl ⟨rfl, rfl, fun f hf z => absurd (show (0 : Int32) = 1 from z) (by decide)⟩,
      fun _ => ty_0_ok, fun q hq => ⟨ty_x_00.symm, ty_y_00.symm⟩, fun q _ _ => ⟨rfl, rfl⟩⟩
  have y250 : ∀ z : Int32, z = nI N → wY_init_250 (fun v => i_Rel 2 (nI N, nI C, 0, -1, 0, 0, 0, 0, 0, 0, fun _ => 0, fun _ => 0, fun _ => 0, fun _ => 0, fun _ => 0, fun _ => 0, fun _ => 0, fun _ => 0, fun _ => 0, fun _ => 0, fun _ => 0, fun _ => 0, fun _ => 0, fun _ => 0, fun _ => 0, fun _ => 0, fun _ => 0, fun _ => 0, fun _ => 0, fun _ => 0) v) k1 z 0 0 0 0 0 0 0 0 0 0 0 0 0 0 0 0 (fun _ => 0) (fun _ => 0) (fun _ => 0) (fun _ => 0) (fun _ => 0) (fun _ => 0) (fun _ => 0) (fun _ => 0) (fun _ => 0) (fun _ => 0) (fun _ => 0) (fun _ => 0) (fun _ => 0) (fun _ => 0) (fun _ => 0) (fun _ => 0) (fun _ => 0) (fun _ => 0) (fun _ => 0) (fun _ => 0) (fun _ => 0) (fun _ => 0) (fun _ => 0) (fun _ => 0) (fun _ => 0) (fun _ => 0) (fun _ => 0) := by
    intro z ez
    subst ez
    rcases cC with ⟨a, rfl⟩ | ⟨a, b, rfl⟩ | ⟨a, b, rfl⟩
    · exact br_f a (yd_init9 fin)
    · exact br_t a (br_f b (yd_init9 fin))
    · exact br_t a (br_t b (yd_init9 fin))
  rcases cN with ⟨a, rfl⟩ | ⟨a, b, rfl⟩ | ⟨a, b, rfl⟩
  · exact br_f a (y250 1 rfl)
  · exact br_t a (br_f b (y250 8 rfl))
  · exact br_t a (br_t b (y250 _ rfl))

def i_Rel (_ : Nat) (u : SX) (v : SY) : Prop := match u, v with
  | (f_slotCount, f_capacity, f_nodesUsed, f_buildingSlot, f_pendingCount, f_summariesCurrent, f_callsActive, f_callsMade, f_runOutcome, f_runValue, a_slotStates, a_slotArities, a_slotStarts, a_slotSizes, a_kinds, a_firstOperands, a_secondOperands, a_children, a_parents, a_depths, a_pendingNodes, a_summaries, a_nextSummaries, a_nodeTypes, a_paramsAfter, a_params, a_values, a_arguments, a_frameSlots, a_frameNodes), (f_n, f_cap, f_ana, f_res, f_anyT, f_intsT, f_wp, f_vp, f_made, f_active, f_xp, f_curK, f_rBot, f_rR, f_rE0, f_rE1, a_st, a_ar, a_size, a_bk, a_ba, a_bb, a_ds, a_tab, a_nxt, a_wN, a_wS, a_wF, a_vs, a_frS, a_frP0, a_frP1, a_xN, a_xS, a_xE0, a_xE1, a_xA, a_xB, a_xC, a_xD, a_xE, a_xF, a_xG) => ∃ (N C U : Nat) (sz S : Nat → Nat) (tb : Nat → ty_T), f_slotCount = nI N ∧ f_n = nI N ∧ f_capacity = nI C ∧ f_cap = nI C ∧ f_nodesUsed = nI U ∧ a_slotStates = a_st ∧ a_slotArities = a_ar ∧ f_summariesCurrent = f_ana ∧ f_runValue = f_res ∧ f_anyT = ty_y ty_any ∧ f_intsT = ty_y ty_ints
    ∧ (1 ≤ N ∧ N ≤ 8 ∧ 16 ≤ C ∧ C ≤ 128 ∧ U ≤ C) ∧ (f_summariesCurrent = 0 ∨ f_summariesCurrent = 1) ∧ rl_sum a_slotStates sz N = U
    ∧ rl_slots N U sz S a_slotStates a_slotArities a_slotSizes a_size a_slotStarts a_bk a_ba a_bb a_kinds a_firstOperands a_secondOperands a_children a_parents a_depths
    ∧ rl_bld N U sz S a_slotStates a_bk a_bb a_pendingNodes a_parents f_buildingSlot f_pendingCount ∧ rl_tab N tb a_summaries a_nextSummaries a_tab a_nxt
theorem i_up {k : Nat} {u : SX} {v : SY} (h : i_Rel k u v) : i_Rel (k + 4) u v := h
theorem rd_3 {v : Int32} (h : nI 3 ≤ v) : 2 < v ∧ ¬ v < 0 ∧ ¬ v ≤ 2 := by
  rw [Int32.le_iff_toInt_le, nI_toInt (by decide)] at h
  refine ⟨?_, ?_, ?_⟩
  · rw [Int32.lt_iff_toInt_lt, show (2 : Int32).toInt = 2 by decide]; omega
  · rw [Int32.lt_iff_toInt_lt, show (0 : Int32).toInt = 0 by decide]; omega
  · rw [Int32.le_iff_toInt_le, show (2 : Int32).toInt = 2 by decide]; omega
theorem rd_n {v : Int32} {N : Nat} (hN : N < 2 ^ 31) (h : nI N ≤ v) : ¬ v < 0 := by
  rw [Int32.le_iff_toInt_le, nI_toInt hN] at h
  rw [Int32.lt_iff_toInt_lt, show (0 : Int32).toInt = 0 by decide]; omega
/-- a slot's number -/
theorem rd_ix (N : Nat) (hN : N ≤ 8) (v : Int32) : (∃ f : Nat, f < N ∧ v = nI f) ∨ ¬ ∃ f : Nat, f < N ∧ v = nI f := Classical.em _
section
variable {f_slotCount f_capacity f_nodesUsed f_buildingSlot f_pendingCount f_summariesCurrent f_callsActive f_callsMade f_runOutcome f_runValue : Int32} {a_slotStates a_slotArities a_slotStarts a_slotSizes a_kinds a_firstOperands a_secondOperands a_children a_parents a_depths a_pendingNodes a_summaries a_nextSummaries a_nodeTypes a_paramsAfter a_params a_values a_arguments a_frameSlots a_frameNodes : Nat → Int32} {N : Nat}
theorem xd_slot {Q : Int32 → Prop} (hN : N ≤ 8) {v : Int32} (H1 : ∀ f : Nat, f < N → v = nI f → Q 1) (H0 : (¬ ∃ f : Nat, f < N ∧ v = nI f) → Q 0) : wpX_isSlot Q (nI N, f_capacity, f_nodesUsed, f_buildingSlot, f_pendingCount, f_summariesCurrent, f_callsActive, f_callsMade, f_runOutcome, f_runValue, a_slotStates, a_slotArities, a_slotStarts, a_slotSizes, a_kinds, a_firstOperands, a_secondOperands, a_children, a_parents, a_depths, a_pendingNodes, a_summaries, a_nextSummaries, a_nodeTypes, a_paramsAfter, a_params, a_values, a_arguments, a_frameSlots, a_frameNodes) v := by
  unfold wpX_isSlot
  dsimp only
  rcases pk_ix v (n := N) (by omega) with h | h | ⟨f, hf, rfl⟩
  · refine br_t h (H0 ?_)
    rintro ⟨f, hf, rfl⟩
    exact nI_pos (by omega) h
  · refine br_f (rd_n (by omega) h) (br_t h (H0 ?_))
    rintro ⟨f, hf, rfl⟩
    exact nI_ge hf (by omega) h
  · exact br_f (nI_pos (by omega)) (br_f (nI_ge hf (by omega)) (H1 f hf rfl))
theorem xd_body {Q : Int32 → Prop} (hN : N ≤ 8) {v : Int32} (H1 : ∀ f : Nat, f < N → v = nI f → a_slotStates f ≠ 0 → Q 1) (H0 : (¬ ∃ f : Nat, f < N ∧ v = nI f ∧ a_slotStates f ≠ 0) → Q 0) : wpX_hasBody Q (nI N, f_capacity, f_nodesUsed, f_buildingSlot, f_pendingCount, f_summariesCurrent, f_callsActive, f_callsMade, f_runOutcome, f_runValue, a_slotStates, a_slotArities, a_slotStarts, a_slotSizes, a_kinds, a_firstOperands, a_secondOperands, a_children, a_parents, a_depths, a_pendingNodes, a_summaries, a_nextSummaries, a_nodeTypes, a_paramsAfter, a_params, a_values, a_arguments, a_frameSlots, a_frameNodes) v := by
  unfold wpX_hasBody
  dsimp only
  rcases pk_ix v (n := N) (by omega) with h | h | ⟨f, hf, rfl⟩
  · refine br_t h (H0 ?_)
    rintro ⟨f, hf, rfl, _⟩
    exact nI_pos (by omega) h
  · refine br_f (rd_n (by omega) h) (br_t h (H0 ?_))
    rintro ⟨f, hf, rfl, _⟩
    exact nI_ge hf (by omega) h
  · refine br_f (nI_pos (by omega)) (br_f (nI_ge hf (by omega)) ⟨vp_in_nI (by omega) (by decide), ?_⟩)
    rw [nI_clamp (by omega)]
    by_cases z : a_slotStates f = 0
    · refine br_t z (H0 ?_)
      rintro ⟨f', hf', e, h⟩
      rw [nI_eq (by omega) (by omega)] at e
      subst e
      exact h z
    · exact br_f z (H1 f hf rfl z)
theorem xd_sum {Q : Int32 → Prop} (hN : N ≤ 8) {v w : Int32} (H1 : ∀ f j : Nat, f < N → j < 3 → v = nI f → w = nI j → Q 1) (H0 : (¬ ∃ f j : Nat, f < N ∧ j < 3 ∧ v = nI f ∧ w = nI j) → Q 0) : wpX_isSummary Q (nI N, f_capacity, f_nodesUsed, f_buildingSlot, f_pendingCount, f_summariesCurrent, f_callsActive, f_callsMade, f_runOutcome, f_runValue, a_slotStates, a_slotArities, a_slotStarts, a_slotSizes, a_kinds, a_firstOperands, a_secondOperands, a_children, a_parents, a_depths, a_pendingNodes, a_summaries, a_nextSummaries, a_nodeTypes, a_paramsAfter, a_params, a_values, a_arguments, a_frameSlots, a_frameNodes) v w := by
  unfold wpX_isSummary
  dsimp only
  rcases pk_ix v (n := N) (by omega) with h | h | ⟨f, hf, rfl⟩
  · refine br_t h (H0 ?_)
    rintro ⟨f, j, hf, hj, rfl, _⟩
    exact nI_pos (by omega) h
  · refine br_f (rd_n (by omega) h) (br_t h (H0 ?_))
    rintro ⟨f, j, hf, hj, rfl, _⟩
    exact nI_ge hf (by omega) h
  · refine br_f (nI_pos (by omega)) (br_f (nI_ge hf (by omega)) ?_)
    rcases pk_ix w (n := 3) (by decide) with h | h | ⟨j, hj, rfl⟩
    · refine br_t h (H0 ?_)
      rintro ⟨f', j, hf', hj, _, rfl⟩
      exact nI_pos (by omega) h
    · refine br_f (rd_3 h).2.1 (br_t (rd_3 h).1 (H0 ?_))
      rintro ⟨f', j, hf', hj, _, rfl⟩
      exact nI_ge hj (by omega) h
    · exact br_f (nI_pos (by omega)) (br_f (nI_nlt (a := 2) (b := j) (by omega) (by decide)) (H1 f j hf hj rfl rfl))
end
section
variable {f_n f_cap f_ana f_res f_anyT f_intsT f_wp f_vp f_made f_active f_xp f_curK f_rBot f_rR f_rE0 f_rE1 : Int32} {a_st a_ar a_size a_bk a_ba a_bb a_ds a_tab a_nxt a_wN a_wS a_wF a_vs a_frS a_frP0 a_frP1 a_xN a_xS a_xE0 a_xE1 a_xA a_xB a_xC a_xD a_xE a_xF a_xG : Nat → Int32} {N : Nat}
theorem yd_sum {Q : Int32 → Prop} (hN : N ≤ 8) {v w : Int32} (H1 : ∀ f j : Nat, f < N → j < 3 → v = nI f → w = nI j → Q 0) (H0 : (¬ ∃ f j : Nat, f < N ∧ j < 3 ∧ v = nI f ∧ w = nI j) → Q 1) : wpY_badQ Q (nI N, f_cap, f_ana, f_res, f_anyT, f_intsT, f_wp, f_vp, f_made, f_active, f_xp, f_curK, f_rBot, f_rR, f_rE0, f_rE1, a_st, a_ar, a_size, a_bk, a_ba, a_bb, a_ds, a_tab, a_nxt, a_wN, a_wS, a_wF, a_vs, a_frS, a_frP0, a_frP1, a_xN, a_xS, a_xE0, a_xE1, a_xA, a_xB, a_xC, a_xD, a_xE, a_xF, a_xG) v w := by
  unfold wpY_badQ
  dsimp only
  rcases pk_ix v (n := N) (by omega) with h | h | ⟨f, hf, rfl⟩
  · refine br_t h (H0 ?_)
    rintro ⟨f, j, hf, hj, rfl, _⟩
    exact nI_pos (by omega) h
  · refine br_f (rd_n (by omega) h) (br_t h (H0 ?_))
    rintro ⟨f, j, hf, hj, rfl, _⟩
    exact nI_ge hf (by omega) h
  · refine br_f (nI_pos (by omega)) (br_f (nI_ge hf (by omega)) ?_)
    rcases pk_ix w (n := 3) (by decide) with h | h | ⟨j, hj, rfl⟩
    · refine br_t h (H0 ?_)
      rintro ⟨f', j, hf', hj, _, rfl⟩
      exact nI_pos (by omega) h
    · refine br_f (rd_3 h).2.1 (br_f (rd_3 h).2.2 (H0 ?_))
      rintro ⟨f', j, hf', hj, _, rfl⟩
      exact nI_ge hj (by omega) h
    · exact br_f (nI_pos (by omega)) (br_t (nI_le (a := j) (b := 2) (by omega) (by decide)) (H1 f j hf hj rfl rfl))
end
theorem rd_idx {f j : Nat} : nI f * 3 + nI j = nI (f * 3 + j) := by rw [xc_3, nI_add]
theorem i_vc_analyzed {k : Nat} {u : SX} {v : SY} (I : i_Rel k u v) (hk : k + 4 ≤ 2050) : wpX_analyzed (fun r => wpY_analyzed (fun r' => r' = r ∧ i_Rel (k + 4) u v) v) u := by
  have J := I
  obtain ⟨f_slotCount, f_capacity, f_nodesUsed, f_buildingSlot, f_pendingCount, f_summariesCurrent, f_callsActive, f_callsMade, f_runOutcome, f_runValue, a_slotStates, a_slotArities, a_slotStarts, a_slotSizes, a_kinds, a_firstOperands, a_secondOperands, a_children, a_parents, a_depths, a_pendingNodes, a_summaries, a_nextSummaries, a_nodeTypes, a_paramsAfter, a_params, a_values, a_arguments, a_frameSlots, a_frameNodes⟩ := u
  obtain ⟨f_n, f_cap, f_ana, f_res, f_anyT, f_intsT, f_wp, f_vp, f_made, f_active, f_xp, f_curK, f_rBot, f_rR, f_rE0, f_rE1, a_st, a_ar, a_size, a_bk, a_ba, a_bb, a_ds, a_tab, a_nxt, a_wN, a_wS, a_wF, a_vs, a_frS, a_frP0, a_frP1, a_xN, a_xS, a_xE0, a_xE1, a_xA, a_xB, a_xC, a_xD, a_xE, a_xF, a_xG⟩ := v
  obtain ⟨N, C, U, sz, S, tb, rfl, rfl, rfl, rfl, rfl, rfl, rfl, rfl, rfl, rfl, rfl, ⟨hN1, hN, hC1, hC, hU⟩, hcur, hsum, hs, hbld, htab⟩ := I
  have nar : narrow .boolean (.int f_summariesCurrent) = .int f_summariesCurrent := by
    rcases hcur with h | h <;> rw [h] <;> rfl
  exact ⟨nar, nar, rfl, J⟩
theorem i_vc_result {k : Nat} {u : SX} {v : SY} (I : i_Rel k u v) (hk : k + 4 ≤ 2050) : wpX_result (fun r => wpY_result (fun r' => r' = r ∧ i_Rel (k + 4) u v) v) u := by
  have J := I
  obtain ⟨f_slotCount, f_capacity, f_nodesUsed, f_buildingSlot, f_pendingCount, f_summariesCurrent, f_callsActive, f_callsMade, f_runOutcome, f_runValue, a_slotStates, a_slotArities, a_slotStarts, a_slotSizes, a_kinds, a_firstOperands, a_secondOperands, a_children, a_parents, a_depths, a_pendingNodes, a_summaries, a_nextSummaries, a_nodeTypes, a_paramsAfter, a_params, a_values, a_arguments, a_frameSlots, a_frameNodes⟩ := u
  obtain ⟨f_n, f_cap, f_ana, f_res, f_anyT, f_intsT, f_wp, f_vp, f_made, f_active, f_xp, f_curK, f_rBot, f_rR, f_rE0, f_rE1, a_st, a_ar, a_size, a_bk, a_ba, a_bb, a_ds, a_tab, a_nxt, a_wN, a_wS, a_wF, a_vs, a_frS, a_frP0, a_frP1, a_xN, a_xS, a_xE0, a_xE1, a_xA, a_xB, a_xC, a_xD, a_xE, a_xF, a_xG⟩ := v
  obtain ⟨N, C, U, sz, S, tb, rfl, rfl, rfl, rfl, rfl, rfl, rfl, rfl, rfl, rfl, rfl, ⟨hN1, hN, hC1, hC, hU⟩, hcur, hsum, hs, hbld, htab⟩ := I
  exact ⟨rfl, J⟩
theorem i_vc_atoms {k : Nat} {u : SX} {v : SY} (I : i_Rel k u v) (hk : k + 4 ≤ 2050) (v1 : Int32) (v2 : Int32) : wpX_atoms (fun r => wpY_atoms (fun r' => r' = r ∧ i_Rel (k + 4) u v) v v1 v2) u v1 v2 := by
  have J := I
  obtain ⟨f_slotCount, f_capacity, f_nodesUsed, f_buildingSlot, f_pendingCount, f_summariesCurrent, f_callsActive, f_callsMade, f_runOutcome, f_runValue, a_slotStates, a_slotArities, a_slotStarts, a_slotSizes, a_kinds, a_firstOperands, a_secondOperands, a_children, a_parents, a_depths, a_pendingNodes, a_summaries, a_nextSummaries, a_nodeTypes, a_paramsAfter, a_params, a_values, a_arguments, a_frameSlots, a_frameNodes⟩ := u
  obtain ⟨f_n, f_cap, f_ana, f_res, f_anyT, f_intsT, f_wp, f_vp, f_made, f_active, f_xp, f_curK, f_rBot, f_rR, f_rE0, f_rE1, a_st, a_ar, a_size, a_bk, a_ba, a_bb, a_ds, a_tab, a_nxt, a_wN, a_wS, a_wF, a_vs, a_frS, a_frP0, a_frP1, a_xN, a_xS, a_xE0, a_xE1, a_xA, a_xB, a_xC, a_xD, a_xE, a_xF, a_xG⟩ := v
  obtain ⟨N, C, U, sz, S, tb, rfl, rfl, rfl, rfl, rfl, rfl, rfl, rfl, rfl, rfl, rfl, ⟨hN1, hN, hC1, hC, hU⟩, hcur, hsum, hs, hbld, htab⟩ := I
  obtain ⟨hT, ht, _⟩ := htab
  unfold wpX_atoms wpY_atoms
  refine xd_sum hN (fun f j hf hj e1 e2 => br_f (by decide) ?_) (fun no => br_t rfl ?_)
  · subst e1 e2
    obtain ⟨t1, t2⟩ := ht (f * 3 + j) (by omega)
    rw [rd_idx, nI_clamp (by omega)]
    refine ⟨vp_in_nI (by omega) (by decide), ?_⟩
    refine yd_sum hN (fun f' j' hf' hj' e1 e2 => br_t rfl ?_) (fun no => absurd ⟨f, j, hf, hj, rfl, rfl⟩ no)
    refine ⟨vp_in_nI (by omega) (by decide), ?_, J⟩
    rw [t1, t2, ty_xm (hT _), ty_ym (hT _)]
  · exact yd_sum hN (fun f j hf hj e1 e2 => absurd ⟨f, j, hf, hj, e1, e2⟩ no) (fun _ => br_f (by decide) ⟨rfl, J⟩)
theorem i_vc_intLo {k : Nat} {u : SX} {v : SY} (I : i_Rel k u v) (hk : k + 4 ≤ 2050) (v1 : Int32) (v2 : Int32) : wpX_intLo (fun r => wpY_intLo (fun r' => r' = r ∧ i_Rel (k + 4) u v) v v1 v2) u v1 v2 := by
  have J := I
  obtain ⟨f_slotCount, f_capacity, f_nodesUsed, f_buildingSlot, f_pendingCount, f_summariesCurrent, f_callsActive, f_callsMade, f_runOutcome, f_runValue, a_slotStates, a_slotArities, a_slotStarts, a_slotSizes, a_kinds, a_firstOperands, a_secondOperands, a_children, a_parents, a_depths, a_pendingNodes, a_summaries, a_nextSummaries, a_nodeTypes, a_paramsAfter, a_params, a_values, a_arguments, a_frameSlots, a_frameNodes⟩ := u
  obtain ⟨f_n, f_cap, f_ana, f_res, f_anyT, f_intsT, f_wp, f_vp, f_made, f_active, f_xp, f_curK, f_rBot, f_rR, f_rE0, f_rE1, a_st, a_ar, a_size, a_bk, a_ba, a_bb, a_ds, a_tab, a_nxt, a_wN, a_wS, a_wF, a_vs, a_frS, a_frP0, a_frP1, a_xN, a_xS, a_xE0, a_xE1, a_xA, a_xB, a_xC, a_xD, a_xE, a_xF, a_xG⟩ := v
  obtain ⟨N, C, U, sz, S, tb, rfl, rfl, rfl, rfl, rfl, rfl, rfl, rfl, rfl, rfl, rfl, ⟨hN1, hN, hC1, hC, hU⟩, hcur, hsum, hs, hbld, htab⟩ := I
  obtain ⟨hT, ht, _⟩ := htab
  unfold wpX_intLo wpY_intLo
  refine xd_sum hN (fun f j hf hj e1 e2 => br_f (by decide) ?_) (fun no => br_t rfl ?_)
  · subst e1 e2
    obtain ⟨t1, t2⟩ := ht (f * 3 + j) (by omega)
    rw [rd_idx, nI_clamp (by omega), t1]
    refine ⟨vp_in_nI (by omega) (by decide), nm_e (xt_has (hT _) (fun z => br_t rfl ?_) (fun z => br_f (by decide) (xt_low (hT _) z ?_)))⟩
    · refine yd_sum hN (fun f' j' hf' hj' e1 e2 => br_t rfl ?_) (fun no => absurd ⟨f, j, hf, hj, rfl, rfl⟩ no)
      rw [t2]
      exact ⟨vp_in_nI (by omega) (by decide), nm_e (yt_has (hT _) (fun z' => br_t rfl ⟨rfl, J⟩) (fun z' => absurd z z'))⟩
    · refine yd_sum hN (fun f' j' hf' hj' e1 e2 => br_t rfl ?_) (fun no => absurd ⟨f, j, hf, hj, rfl, rfl⟩ no)
      rw [t2]
      exact ⟨vp_in_nI (by omega) (by decide), nm_e (yt_has (hT _) (fun z' => absurd z' z) (fun z' => br_f (by decide) (yt_lo (hT _) z ⟨rfl, J⟩)))⟩
  · exact yd_sum hN (fun f j hf hj e1 e2 => absurd ⟨f, j, hf, hj, e1, e2⟩ no) (fun _ => br_f (by decide) ⟨rfl, J⟩)
theorem i_vc_intHi {k : Nat} {u : SX} {v : SY} (I : i_Rel k u v) (hk : k + 4 ≤ 2050) (v1 : Int32) (v2 : Int32) : wpX_intHi (fun r => wpY_intHi (fun r' => r' = r ∧ i_Rel (k + 4) u v) v v1 v2) u v1 v2 := by
  have J := I
  obtain ⟨f_slotCount, f_capacity, f_nodesUsed, f_buildingSlot, f_pendingCount, f_summariesCurrent, f_callsActive, f_callsMade, f_runOutcome, f_runValue, a_slotStates, a_slotArities, a_slotStarts, a_slotSizes, a_kinds, a_firstOperands, a_secondOperands, a_children, a_parents, a_depths, a_pendingNodes, a_summaries, a_nextSummaries, a_nodeTypes, a_paramsAfter, a_params, a_values, a_arguments, a_frameSlots, a_frameNodes⟩ := u
  obtain ⟨f_n, f_cap, f_ana, f_res, f_anyT, f_intsT, f_wp, f_vp, f_made, f_active, f_xp, f_curK, f_rBot, f_rR, f_rE0, f_rE1, a_st, a_ar, a_size, a_bk, a_ba, a_bb, a_ds, a_tab, a_nxt, a_wN, a_wS, a_wF, a_vs, a_frS, a_frP0, a_frP1, a_xN, a_xS, a_xE0, a_xE1, a_xA, a_xB, a_xC, a_xD, a_xE, a_xF, a_xG⟩ := v
  obtain ⟨N, C, U, sz, S, tb, rfl, rfl, rfl, rfl, rfl, rfl, rfl, rfl, rfl, rfl, rfl, ⟨hN1, hN, hC1, hC, hU⟩, hcur, hsum, hs, hbld, htab⟩ := I
  obtain ⟨hT, ht, _⟩ := htab
  unfold wpX_intHi wpY_intHi
  refine xd_sum hN (fun f j hf hj e1 e2 => br_f (by decide) ?_) (fun no => br_t rfl ?_)
  · subst e1 e2
    obtain ⟨t1, t2⟩ := ht (f * 3 + j) (by omega)
    rw [rd_idx, nI_clamp (by omega), t1]
    refine ⟨vp_in_nI (by omega) (by decide), nm_e (xt_has (hT _) (fun z => br_t rfl ?_) (fun z => br_f (by decide) (xt_high (hT _) z ?_)))⟩
    · refine yd_sum hN (fun f' j' hf' hj' e1 e2 => br_t rfl ?_) (fun no => absurd ⟨f, j, hf, hj, rfl, rfl⟩ no)
      rw [t2]
      exact ⟨vp_in_nI (by omega) (by decide), nm_e (yt_has (hT _) (fun z' => br_t rfl ⟨rfl, J⟩) (fun z' => absurd z z'))⟩
    · refine yd_sum hN (fun f' j' hf' hj' e1 e2 => br_t rfl ?_) (fun no => absurd ⟨f, j, hf, hj, rfl, rfl⟩ no)
      rw [t2]
      exact ⟨vp_in_nI (by omega) (by decide), nm_e (yt_has (hT _) (fun z' => absurd z' z) (fun z' => br_f (by decide) (yt_hi (hT _) z ⟨rfl, J⟩)))⟩
  · exact yd_sum hN (fun f j hf hj e1 e2 => absurd ⟨f, j, hf, hj, e1, e2⟩ no) (fun _ => br_f (by decide) ⟨rfl, J⟩)

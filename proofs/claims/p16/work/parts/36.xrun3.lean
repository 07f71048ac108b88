def xq_z (a b c d : Nat → Int32) : Nat → Nat → Int32 := fun q => match q with
  | 0 => a
  | 1 => b
  | 2 => c
  | _ => d
section
variable {f_slotCount f_capacity f_nodesUsed f_buildingSlot f_pendingCount f_summariesCurrent f_callsActive f_callsMade f_runOutcome f_runValue : Int32} {a_slotStates a_slotArities a_slotStarts a_slotSizes a_kinds a_firstOperands a_secondOperands a_children a_parents a_depths a_pendingNodes a_summaries a_nextSummaries a_nodeTypes a_paramsAfter a_params a_values a_arguments a_frameSlots a_frameNodes : Nat → Int32} {post : Int32 → St2 → Prop} {N U : Nat} {sz S : Nat → Nat} {szY bk ba bb : Nat → Int32}
theorem xq_g (hs : rl_slots N U sz S a_slotStates a_slotArities a_slotSizes szY a_slotStarts bk ba bb a_kinds a_firstOperands a_secondOperands a_children a_parents a_depths) {g : Nat} (hg : g < N) (s2 : a_slotStates g = 2) : ∃ k : Nat, k ≤ 2 ∧ a_slotArities g = nI k ∧ a_slotSizes g = nI (sz g) ∧ a_slotStarts g = nI (S g) ∧ 0 < sz g ∧ a_parents (S g + (sz g - 1)) = -1 ∧
    rl_body N k (sz g) (S g) (rl_K bk g) (rl_K ba g) (rl_K bb g) a_kinds a_firstOperands a_secondOperands a_children a_parents a_depths := by
  obtain ⟨_, h1, h2⟩ := hs g hg
  obtain ⟨e1, e2, e3, e4, k, hk, ek, hB⟩ := h1 (by rw [s2]; decide)
  obtain ⟨n0, pc1, pr⟩ := h2 s2
  exact ⟨k, hk, ek, e1, e3, n0, pr, hB⟩
theorem xq_move {Q : St2 → Prop} {fr g i m : Nat} {Z : Nat → Nat → Int32} (hN : N ≤ 8) (hs : rl_slots N U sz S a_slotStates a_slotArities a_slotSizes szY a_slotStarts bk ba bb a_kinds a_firstOperands a_secondOperands a_children a_parents a_depths) (hf : fr < 16) (hg : g < N) (s2 : a_slotStates g = 2) (hi : i < sz g) (hat : xr_at S Z fr g i)
    (H9 : rl_K bk g i = 9 → wpX_tryCall (fun u => match u with | (f_slotCount, f_capacity, f_nodesUsed, f_buildingSlot, f_pendingCount, f_summariesCurrent, f_callsActive, f_callsMade, f_runOutcome, f_runValue, a_slotStates, a_slotArities, a_slotStarts, a_slotSizes, a_kinds, a_firstOperands, a_secondOperands, a_children, a_parents, a_depths, a_pendingNodes, a_summaries, a_nextSummaries, a_nodeTypes, a_paramsAfter, a_params, a_values, a_arguments, a_frameSlots, a_frameNodes) => Q (f_slotCount, f_capacity, f_nodesUsed, f_buildingSlot, f_pendingCount, f_summariesCurrent, f_callsActive, f_callsMade, f_runOutcome, f_runValue, a_slotStates, a_slotArities, a_slotStarts, a_slotSizes, a_kinds, a_firstOperands, a_secondOperands, a_children, a_parents, a_depths, a_pendingNodes, a_summaries, a_nextSummaries, a_nodeTypes, a_paramsAfter, a_params, a_values, a_arguments, a_frameSlots, a_frameNodes)) (f_slotCount, f_capacity, f_nodesUsed, f_buildingSlot, f_pendingCount, f_summariesCurrent, nI (fr + 1), nI m, -1, 0, a_slotStates, a_slotArities, a_slotStarts, a_slotSizes, a_kinds, a_firstOperands, a_secondOperands, a_children, a_parents, a_depths, a_pendingNodes, a_summaries, a_nextSummaries, a_nodeTypes, a_paramsAfter, a_params, Z 0, Z 1, Z 2, Z 3) (nI fr) (nI (S g + i))) (H0 : ¬ rl_K bk g i = 9 → wpX_evaluate (fun r => wpX_finishNode (fun u => match u with | (f_slotCount, f_capacity, f_nodesUsed, f_buildingSlot, f_pendingCount, f_summariesCurrent, f_callsActive, f_callsMade, f_runOutcome, f_runValue, a_slotStates, a_slotArities, a_slotStarts, a_slotSizes, a_kinds, a_firstOperands, a_secondOperands, a_children, a_parents, a_depths, a_pendingNodes, a_summaries, a_nextSummaries, a_nodeTypes, a_paramsAfter, a_params, a_values, a_arguments, a_frameSlots, a_frameNodes) => Q (f_slotCount, f_capacity, f_nodesUsed, f_buildingSlot, f_pendingCount, f_summariesCurrent, f_callsActive, f_callsMade, f_runOutcome, f_runValue, a_slotStates, a_slotArities, a_slotStarts, a_slotSizes, a_kinds, a_firstOperands, a_secondOperands, a_children, a_parents, a_depths, a_pendingNodes, a_summaries, a_nextSummaries, a_nodeTypes, a_paramsAfter, a_params, a_values, a_arguments, a_frameSlots, a_frameNodes)) (f_slotCount, f_capacity, f_nodesUsed, f_buildingSlot, f_pendingCount, f_summariesCurrent, nI (fr + 1), nI m, -1, 0, a_slotStates, a_slotArities, a_slotStarts, a_slotSizes, a_kinds, a_firstOperands, a_secondOperands, a_children, a_parents, a_depths, a_pendingNodes, a_summaries, a_nextSummaries, a_nodeTypes, a_paramsAfter, a_params, Z 0, Z 1, Z 2, Z 3) (nI fr) (nI (S g + i)) r) (f_slotCount, f_capacity, f_nodesUsed, f_buildingSlot, f_pendingCount, f_summariesCurrent, nI (fr + 1), nI m, -1, 0, a_slotStates, a_slotArities, a_slotStarts, a_slotSizes, a_kinds, a_firstOperands, a_secondOperands, a_children, a_parents, a_depths, a_pendingNodes, a_summaries, a_nextSummaries, a_nodeTypes, a_paramsAfter, a_params, Z 0, Z 1, Z 2, Z 3) (nI fr) (nI (S g + i))) :
    wpX_makeMove Q (f_slotCount, f_capacity, f_nodesUsed, f_buildingSlot, f_pendingCount, f_summariesCurrent, nI (fr + 1), nI m, -1, 0, a_slotStates, a_slotArities, a_slotStarts, a_slotSizes, a_kinds, a_firstOperands, a_secondOperands, a_children, a_parents, a_depths, a_pendingNodes, a_summaries, a_nextSummaries, a_nodeTypes, a_paramsAfter, a_params, Z 0, Z 1, Z 2, Z 3) := by
  obtain ⟨k, hk, ek, e1, e3, n0, pr, hB⟩ := xq_g hs hg s2
  obtain ⟨wr, cr, rk, ra, rb⟩ := xc_row hB hi
  have hS := hB.1
  have wf : vp_in (nI fr) 16 := vp_in_nI hf (by decide)
  have cf : (nI fr).toNatClampNeg = fr := nI_clamp (by omega)
  have wg : vp_in (nI g) 8 := vp_in_nI (by omega) (by decide)
  have cg : (nI g).toNatClampNeg = g := nI_clamp (by omega)
  unfold wpX_makeMove
  dsimp only
  refine nm_r (nI_pred fr) ⟨wf, nm_r (e' := nI (S g + i)) (by rw [cf]; exact hat.2) ⟨wf, nm_r (e' := nI g) (by rw [cf]; exact hat.1) ⟨wg, wg, ?_⟩⟩⟩
  rw [cg, e1, e3, nI_add]
  refine br_f (fun z => by rw [nI_eq (by omega) (by omega)] at z; omega) ⟨wr, ?_⟩
  rw [cr, rk]
  exact br_c H9 H0
theorem xq_st {fr m t : Nat} {Z : Nat → Nat → Int32} (ht : t < 1000000) (h : ∀ fuel, 1000000 < t + 1 + fuel → wpX_makeMove (xq_k post t fuel) (f_slotCount, f_capacity, f_nodesUsed, f_buildingSlot, f_pendingCount, f_summariesCurrent, nI (fr + 1), nI m, -1, 0, a_slotStates, a_slotArities, a_slotStarts, a_slotSizes, a_kinds, a_firstOperands, a_secondOperands, a_children, a_parents, a_depths, a_pendingNodes, a_summaries, a_nextSummaries, a_nodeTypes, a_paramsAfter, a_params, Z 0, Z 1, Z 2, Z 3)) : xq_R post f_slotCount f_capacity f_nodesUsed f_buildingSlot f_pendingCount f_summariesCurrent f_callsActive f_callsMade f_runOutcome f_runValue a_slotStates a_slotArities a_slotStarts a_slotSizes a_kinds a_firstOperands a_secondOperands a_children a_parents a_depths a_pendingNodes a_summaries a_nextSummaries a_nodeTypes a_paramsAfter a_params a_values a_arguments a_frameSlots a_frameNodes t (fr + 1) m Z := by
  intro fuel hf
  obtain ⟨fuel, rfl⟩ : ∃ m, fuel = m + 1 := ⟨fuel - 1, by omega⟩
  exact br_f (nI_ge (b := 1000000) ht (by decide)) (br_t rfl (h fuel (by omega)))
theorem xf_2000 {Q : St2 → Prop} {fr r m : Nat} {Z : Nat → Nat → Int32} (hf : fr < 16) (hr : r < 128) (H : ∀ V FN : Nat → Int32, Q (f_slotCount, f_capacity, f_nodesUsed, f_buildingSlot, f_pendingCount, f_summariesCurrent, nI (fr + 1), nI m, 1, 0, a_slotStates, a_slotArities, a_slotStarts, a_slotSizes, a_kinds, a_firstOperands, a_secondOperands, a_children, a_parents, a_depths, a_pendingNodes, a_summaries, a_nextSummaries, a_nodeTypes, a_paramsAfter, a_params, V, Z 1, Z 2, FN)) :
    wpX_finishNode Q (f_slotCount, f_capacity, f_nodesUsed, f_buildingSlot, f_pendingCount, f_summariesCurrent, nI (fr + 1), nI m, -1, 0, a_slotStates, a_slotArities, a_slotStarts, a_slotSizes, a_kinds, a_firstOperands, a_secondOperands, a_children, a_parents, a_depths, a_pendingNodes, a_summaries, a_nextSummaries, a_nodeTypes, a_paramsAfter, a_params, Z 0, Z 1, Z 2, Z 3) (nI fr) (nI r) 2000 := by
  unfold wpX_finishNode
  dsimp only
  rw [show (128 : Int32) = nI 128 by decide, pk_mul, nI_add]
  exact ⟨vp_in_nI (by omega) (by omega), nm_e ⟨vp_in_nI hf (by decide), nm_e (br_t rfl (H _ _))⟩⟩
theorem xq_M1 (hN : N ≤ 8) (hs : rl_slots N U sz S a_slotStates a_slotArities a_slotSizes szY a_slotStarts bk ba bb a_kinds a_firstOperands a_secondOperands a_children a_parents a_depths) : xr_M1 N (rl_K bk) (rl_K ba) a_slotStates sz S (xq_R post f_slotCount f_capacity f_nodesUsed f_buildingSlot f_pendingCount f_summariesCurrent f_callsActive f_callsMade f_runOutcome f_runValue a_slotStates a_slotArities a_slotStarts a_slotSizes a_kinds a_firstOperands a_secondOperands a_children a_parents a_depths a_pendingNodes a_summaries a_nextSummaries a_nodeTypes a_paramsAfter a_params a_values a_arguments a_frameSlots a_frameNodes) (xq_F post f_slotCount f_capacity f_nodesUsed f_buildingSlot f_pendingCount f_summariesCurrent f_callsActive f_callsMade f_runOutcome f_runValue a_slotStates a_slotArities a_slotStarts a_slotSizes a_kinds a_firstOperands a_secondOperands a_children a_parents a_depths a_pendingNodes a_summaries a_nextSummaries a_nodeTypes a_paramsAfter a_params a_values a_arguments a_frameSlots a_frameNodes) := by
  intro t m fr g i Z hin hat hK hF
  obtain ⟨ht, hf, hg, s2, hi⟩ := hin
  obtain ⟨k, hk, ek, e1, e3, n0, pr, hB⟩ := xq_g hs hg s2
  refine xq_st ht fun fuel hfu => xq_move hN hs hf hg s2 hi hat (fun z => absurd z (by rcases hK with h | h | h <;> rw [h] <;> decide)) (fun _ => ?_)
  exact xv_leaf hB hk hi hf hK (hF t fuel rfl (by omega) (by omega))
theorem xq_M2 (hN : N ≤ 8) (hs : rl_slots N U sz S a_slotStates a_slotArities a_slotSizes szY a_slotStarts bk ba bb a_kinds a_firstOperands a_secondOperands a_children a_parents a_depths) : xr_M2 N (rl_K bk) (rl_K bb) a_slotStates sz S (xq_R post f_slotCount f_capacity f_nodesUsed f_buildingSlot f_pendingCount f_summariesCurrent f_callsActive f_callsMade f_runOutcome f_runValue a_slotStates a_slotArities a_slotStarts a_slotSizes a_kinds a_firstOperands a_secondOperands a_children a_parents a_depths a_pendingNodes a_summaries a_nextSummaries a_nodeTypes a_paramsAfter a_params a_values a_arguments a_frameSlots a_frameNodes) (xq_F post f_slotCount f_capacity f_nodesUsed f_buildingSlot f_pendingCount f_summariesCurrent f_callsActive f_callsMade f_runOutcome f_runValue a_slotStates a_slotArities a_slotStarts a_slotSizes a_kinds a_firstOperands a_secondOperands a_children a_parents a_depths a_pendingNodes a_summaries a_nextSummaries a_nodeTypes a_paramsAfter a_params a_values a_arguments a_frameSlots a_frameNodes) (xq_E post f_slotCount f_capacity f_nodesUsed f_buildingSlot f_pendingCount f_summariesCurrent f_callsActive f_callsMade f_runOutcome f_runValue a_slotStates a_slotArities a_slotStarts a_slotSizes a_kinds a_firstOperands a_secondOperands a_children a_parents a_depths a_pendingNodes a_summaries a_nextSummaries a_nodeTypes a_paramsAfter a_params a_values a_arguments a_frameSlots a_frameNodes) := by
  intro t m fr g i v w Z hin hat hK ov ow hv hw hF hE
  obtain ⟨ht, hf, hg, s2, hi⟩ := hin
  obtain ⟨k, hk, ek, e1, e3, n0, pr, hB⟩ := xq_g hs hg s2
  have hS := hB.1
  have hc : rl_c (rl_K bk g) (rl_K bb g) i = 2 := by
    show bs_cc (rl_K bk g i) (rl_K bb g i) = 2
    rcases hK with h | h | h | h <;> rw [h]
    · exact bs_cc3 _
    · exact bs_cc4 _
    · exact bs_cc5 _
    · exact bs_cc6 _
  refine xq_st ht fun fuel hfu => xq_move hN hs hf hg s2 hi hat (fun z => absurd z (by rcases hK with h | h | h | h <;> rw [h] <;> decide)) (fun _ => ?_)
  refine xv_pair (m := m) hB hi hf hK hc ov ow hv hw (fun o => hF o t fuel rfl (by omega) (by omega)) (fun o => xf_2000 hf (by omega) fun V FN => ?_)
  have e1 : (rn_op (rl_K bk g i) v w m).1 = 1 := by
    have := hE o
    unfold rn_op at o ⊢
    split
    · next z => rw [if_pos z] at o; exact absurd rfl o
    · next z =>
      rw [if_neg z] at o
      split
      · rfl
      · next z1 =>
        rw [if_neg z1] at o
        split
        · rfl
        · next z2 =>
          rw [if_neg z2] at o
          split
          · next z3 => rw [if_pos z3] at o; exact absurd rfl o
          · next z3 =>
            rw [if_neg z3] at o
            split
            · rfl
            · next z4 =>
              rw [if_neg z4] at o
              split
              · rfl
              · next z5 => rw [if_neg z5] at o; exact absurd rfl o
  have hE := hE o
  rw [e1] at hE
  exact xq_end (by decide) hE (by omega)
theorem xq_M3 (hN : N ≤ 8) (hs : rl_slots N U sz S a_slotStates a_slotArities a_slotSizes szY a_slotStarts bk ba bb a_kinds a_firstOperands a_secondOperands a_children a_parents a_depths) : xr_M3 N (rl_K bk) (rl_K bb) a_slotStates sz S (xq_R post f_slotCount f_capacity f_nodesUsed f_buildingSlot f_pendingCount f_summariesCurrent f_callsActive f_callsMade f_runOutcome f_runValue a_slotStates a_slotArities a_slotStarts a_slotSizes a_kinds a_firstOperands a_secondOperands a_children a_parents a_depths a_pendingNodes a_summaries a_nextSummaries a_nodeTypes a_paramsAfter a_params a_values a_arguments a_frameSlots a_frameNodes) (xq_F post f_slotCount f_capacity f_nodesUsed f_buildingSlot f_pendingCount f_summariesCurrent f_callsActive f_callsMade f_runOutcome f_runValue a_slotStates a_slotArities a_slotStarts a_slotSizes a_kinds a_firstOperands a_secondOperands a_children a_parents a_depths a_pendingNodes a_summaries a_nextSummaries a_nodeTypes a_paramsAfter a_params a_values a_arguments a_frameSlots a_frameNodes) := by
  intro t m fr g i v Z hin hat hK ov hv hF
  obtain ⟨ht, hf, hg, s2, hi⟩ := hin
  obtain ⟨k, hk, ek, e1, e3, n0, pr, hB⟩ := xq_g hs hg s2
  refine xq_st ht fun fuel hfu => xq_move hN hs hf hg s2 hi hat (fun z => absurd z (by rw [hK]; decide)) (fun _ => ?_)
  exact xv_isi hB hi hf hK ov hv (hF t fuel rfl (by omega) (by omega))
theorem xq_M4 (hN : N ≤ 8) (hs : rl_slots N U sz S a_slotStates a_slotArities a_slotSizes szY a_slotStarts bk ba bb a_kinds a_firstOperands a_secondOperands a_children a_parents a_depths) : xr_M4 N (rl_K bk) (rl_K bb) a_slotStates sz S (xq_R post f_slotCount f_capacity f_nodesUsed f_buildingSlot f_pendingCount f_summariesCurrent f_callsActive f_callsMade f_runOutcome f_runValue a_slotStates a_slotArities a_slotStarts a_slotSizes a_kinds a_firstOperands a_secondOperands a_children a_parents a_depths a_pendingNodes a_summaries a_nextSummaries a_nodeTypes a_paramsAfter a_params a_values a_arguments a_frameSlots a_frameNodes) (xq_F post f_slotCount f_capacity f_nodesUsed f_buildingSlot f_pendingCount f_summariesCurrent f_callsActive f_callsMade f_runOutcome f_runValue a_slotStates a_slotArities a_slotStarts a_slotSizes a_kinds a_firstOperands a_secondOperands a_children a_parents a_depths a_pendingNodes a_summaries a_nextSummaries a_nodeTypes a_paramsAfter a_params a_values a_arguments a_frameSlots a_frameNodes) := by
  intro t m fr g i Z hin hat hK hF
  obtain ⟨ht, hf, hg, s2, hi⟩ := hin
  obtain ⟨k, hk, ek, e1, e3, n0, pr, hB⟩ := xq_g hs hg s2
  refine xq_st ht fun fuel hfu => xq_move hN hs hf hg s2 hi hat (fun z => absurd z (by rw [hK]; decide)) (fun _ => ?_)
  exact xv_if hB hi hf hK (hF t fuel rfl (by omega) (by omega))
theorem xq_M6 (hN : N ≤ 8) (hs : rl_slots N U sz S a_slotStates a_slotArities a_slotSizes szY a_slotStarts bk ba bb a_kinds a_firstOperands a_secondOperands a_children a_parents a_depths) : xr_M6 N a_slotStates sz S (xq_R post f_slotCount f_capacity f_nodesUsed f_buildingSlot f_pendingCount f_summariesCurrent f_callsActive f_callsMade f_runOutcome f_runValue a_slotStates a_slotArities a_slotStarts a_slotSizes a_kinds a_firstOperands a_secondOperands a_children a_parents a_depths a_pendingNodes a_summaries a_nextSummaries a_nodeTypes a_paramsAfter a_params a_values a_arguments a_frameSlots a_frameNodes) (xq_F post f_slotCount f_capacity f_nodesUsed f_buildingSlot f_pendingCount f_summariesCurrent f_callsActive f_callsMade f_runOutcome f_runValue a_slotStates a_slotArities a_slotStarts a_slotSizes a_kinds a_firstOperands a_secondOperands a_children a_parents a_depths a_pendingNodes a_summaries a_nextSummaries a_nodeTypes a_paramsAfter a_params a_values a_arguments a_frameSlots a_frameNodes) := by
  intro t m fr g g' i' Z ht hf hg s2 z0 h2 h3 hg' s2' hi' h3' hF
  obtain ⟨k, hk, ek, e1, e3, n0, pr, hB⟩ := xq_g hs hg s2
  have hS := hB.1
  have wf : vp_in (nI (fr + 1)) 16 := vp_in_nI (by omega) (by decide)
  have cf : (nI (fr + 1)).toNatClampNeg = fr + 1 := nI_clamp (by omega)
  have wg : vp_in (nI g) 8 := vp_in_nI (by omega) (by decide)
  have cg : (nI g).toNatClampNeg = g := nI_clamp (by omega)
  refine xq_st ht fun fuel hfu => ?_
  unfold wpX_makeMove
  dsimp only
  refine nm_r (nI_pred (fr + 1)) ⟨wf, nm_r (e' := nI (S g + sz g)) (by rw [cf]; exact h3) ⟨wf, nm_r (e' := nI g) (by rw [cf]; exact h2) ⟨wg, wg, ?_⟩⟩⟩
  rw [cg, e1, e3, nI_add]
  refine br_t rfl ?_
  unfold wpX_leaveCall
  dsimp only
  rw [show nI (S g + sz g) - 1 = nI (S g + (sz g - 1)) by rw [show S g + (sz g - 1) = S g + sz g - 1 by omega]; exact pk_sub (b := 1) (by omega), show (128 : Int32) = nI 128 by decide, pk_mul, nI_add, nI_clamp (n := (fr + 1) * 128 + (S g + (sz g - 1))) (by omega), nI_pred, nI_clamp (n := fr) (by omega), h3']
  exact ⟨vp_in_nI (by omega) (by omega), nm_e (br_f (nI_ne0 (by omega) (by omega)) ⟨vp_in_nI (by omega) (by decide), hF t fuel rfl (by omega) (by omega)⟩)⟩
/-- a call's entry -/
theorem xq_enter {Q : St2 → Prop} {a g m : Nat} {v w : Int32} {Z : Nat → Nat → Int32} (ha : a < 16) (hg : g < 8) (e3 : a_slotStarts g = nI (S g))
    (H : ∀ Z', Z' = xq_z (Z 0) (upd (upd (Z 1) (a * 2) v) (a * 2 + 1) w) (upd (Z 2) a (nI g)) (upd (Z 3) a (nI (S g))) → Q (f_slotCount, f_capacity, f_nodesUsed, f_buildingSlot, f_pendingCount, f_summariesCurrent, nI (a + 1), nI (m + 1), -1, 0, a_slotStates, a_slotArities, a_slotStarts, a_slotSizes, a_kinds, a_firstOperands, a_secondOperands, a_children, a_parents, a_depths, a_pendingNodes, a_summaries, a_nextSummaries, a_nodeTypes, a_paramsAfter, a_params, Z' 0, Z' 1, Z' 2, Z' 3)) :
    wpX_enterCall Q (f_slotCount, f_capacity, f_nodesUsed, f_buildingSlot, f_pendingCount, f_summariesCurrent, nI a, nI m, -1, 0, a_slotStates, a_slotArities, a_slotStarts, a_slotSizes, a_kinds, a_firstOperands, a_secondOperands, a_children, a_parents, a_depths, a_pendingNodes, a_summaries, a_nextSummaries, a_nodeTypes, a_paramsAfter, a_params, Z 0, Z 1, Z 2, Z 3) (nI g) v w := by
  have wa : vp_in (nI a) 16 := vp_in_nI ha (by decide)
  unfold wpX_enterCall
  dsimp only
  rw [xc_21, xc_2, nI_clamp (n := a * 2) (by omega), nI_clamp (n := a * 2 + 1) (by omega), nI_clamp (n := a) (by omega), nI_clamp (n := g) (by omega), e3]
  exact ⟨vp_in_nI (by omega) (by omega), nm_e ⟨vp_in_nI (by omega) (by omega), nm_e ⟨wa, nm_e ⟨vp_in_nI (by omega) (by decide), wa, nm_e (nm_r (nI_1 a) (nm_r (nI_1 m) (H _ rfl)))⟩⟩⟩⟩
theorem xq_M5 (hN : N ≤ 8) (hs : rl_slots N U sz S a_slotStates a_slotArities a_slotSizes szY a_slotStarts bk ba bb a_kinds a_firstOperands a_secondOperands a_children a_parents a_depths) : xr_M5 N (rl_K bk) (rl_K ba) (rl_K bb) a_slotStates a_slotArities sz S (xq_R post f_slotCount f_capacity f_nodesUsed f_buildingSlot f_pendingCount f_summariesCurrent f_callsActive f_callsMade f_runOutcome f_runValue a_slotStates a_slotArities a_slotStarts a_slotSizes a_kinds a_firstOperands a_secondOperands a_children a_parents a_depths a_pendingNodes a_summaries a_nextSummaries a_nodeTypes a_paramsAfter a_params a_values a_arguments a_frameSlots a_frameNodes) (xq_E post f_slotCount f_capacity f_nodesUsed f_buildingSlot f_pendingCount f_summariesCurrent f_callsActive f_callsMade f_runOutcome f_runValue a_slotStates a_slotArities a_slotStarts a_slotSizes a_kinds a_firstOperands a_secondOperands a_children a_parents a_depths a_pendingNodes a_summaries a_nextSummaries a_nodeTypes a_paramsAfter a_params a_values a_arguments a_frameSlots a_frameNodes) := by
  intro t m fr g i b v w Z hin hat h9 hb hb2 hm a0 a1 a2 hgo hlim hfail
  obtain ⟨ht, hf, hg, s2, hi⟩ := hin
  obtain ⟨k, hk, ek, e1, e3, n0, pr, hB⟩ := xq_g hs hg s2
  obtain ⟨wr, cr, rk, ra, rb⟩ := xc_row hB hi
  obtain ⟨a, ha, ea⟩ := (hB.2.1.1 i hi).2.2.2.2.1 h9
  have wa : vp_in (nI a) 8 := vp_in_nI (by omega) (by decide)
  have ca : (nI a).toNatClampNeg = a := nI_clamp (by omega)
  have hc : rl_c (rl_K bk g) (rl_K bb g) i = b := by rw [ab_c9 hB.2.1 h9, hb, nI_clamp (by omega)]
  rw [ea, ca] at hlim hfail
  refine xq_st ht fun fuel hfu => xq_move hN hs hf hg s2 hi hat (fun _ => ?_) (fun z => absurd h9 z)
  unfold wpX_tryCall
  dsimp only
  rw [cr, ra, rb, ea, hb]
  refine ⟨wr, nm_e ⟨wr, nm_e ⟨wa, ?_⟩⟩⟩
  rw [ca]
  by_cases sa : a_slotStates a = 2
  · refine br_t sa ⟨wa, ?_⟩
    by_cases aa : a_slotArities a = nI b
    · refine br_t aa ?_
      by_cases hm2 : 200 ≤ m
      · exact br_t (nI_le (a := 200) hm2 (by omega)) (xq_end (by decide) (hlim sa (by rw [hb]; exact aa) (Or.inl hm2)) (by omega))
      · refine br_f (nI_ge (b := 200) (by omega) (by decide)) ?_
        by_cases hf2 : fr < 15
        · refine br_t (nI_lt (b := 16) (by omega) (by decide)) ?_
          obtain ⟨_, _, _, _, ea3, _, _, _⟩ := xq_g hs ha sa
          have fin : wX_tryCall_107 (fun u => match u with | (f_slotCount, f_capacity, f_nodesUsed, f_buildingSlot, f_pendingCount, f_summariesCurrent, f_callsActive, f_callsMade, f_runOutcome, f_runValue, a_slotStates, a_slotArities, a_slotStarts, a_slotSizes, a_kinds, a_firstOperands, a_secondOperands, a_children, a_parents, a_depths, a_pendingNodes, a_summaries, a_nextSummaries, a_nodeTypes, a_paramsAfter, a_params, a_values, a_arguments, a_frameSlots, a_frameNodes) => xq_k post t fuel (f_slotCount, f_capacity, f_nodesUsed, f_buildingSlot, f_pendingCount, f_summariesCurrent, f_callsActive, f_callsMade, f_runOutcome, f_runValue, a_slotStates, a_slotArities, a_slotStarts, a_slotSizes, a_kinds, a_firstOperands, a_secondOperands, a_children, a_parents, a_depths, a_pendingNodes, a_summaries, a_nextSummaries, a_nodeTypes, a_paramsAfter, a_params, a_values, a_arguments, a_frameSlots, a_frameNodes)) (nI a) v w f_slotCount f_capacity f_nodesUsed f_buildingSlot f_pendingCount f_summariesCurrent (nI (fr + 1)) (nI m) (-1) 0 a_slotStates a_slotArities a_slotStarts a_slotSizes a_kinds a_firstOperands a_secondOperands a_children a_parents a_depths a_pendingNodes a_summaries a_nextSummaries a_nodeTypes a_paramsAfter a_params (Z 0) (Z 1) (Z 2) (Z 3) := by
            refine xq_enter (a := fr + 1) (by omega) (by omega) ea3 fun Z' eZ => ?_
            have go := hgo a ha ea sa (by rw [hb]; exact aa) (by omega) hf2 Z'
            subst eZ
            refine nm_r (nI_1 t) (go (fun j => rfl) (fun j hj => ?_) (fun j hj => pk_un (by omega)) (fun j hj => pk_un (by omega)) ?_ pk_us ⟨pk_us, pk_us⟩ fuel (by omega))
            · show upd (upd (Z 1) _ _) _ _ j = Z 1 j
              rw [pk_un (by omega), pk_un (by omega)]
            · show upd (upd (Z 1) _ _) _ _ _ = v
              rw [pk_un (by omega), pk_us]
          have bb : b = 0 ∨ b = 1 ∨ b = 2 := by omega
          rcases bb with rfl | rfl | rfl
          · obtain ⟨rfl, rfl⟩ := a0 rfl
            exact br_t (by decide) (br_f (by decide) fin)
          · obtain ⟨ev, rfl⟩ := a1 rfl
            refine br_f (by decide) (xv_child (j := 0) hB hi (by omega) hf ?_)
            refine br_f (by decide) ?_
            rw [show Z 0 (fr * 128 + (S g + bs_ch (rl_c (rl_K bk g) (rl_K bb g)) i 0)) = v from ev.symm]
            exact fin
          · obtain ⟨ev, ew⟩ := a2 rfl
            refine br_f (by decide) (xv_child (j := 0) hB hi (by omega) hf ?_)
            refine br_t (by decide) (xv_child (j := 1) hB hi (by omega) hf ?_)
            rw [show Z 0 (fr * 128 + (S g + bs_ch (rl_c (rl_K bk g) (rl_K bb g)) i 0)) = v from ev.symm, show Z 0 (fr * 128 + (S g + bs_ch (rl_c (rl_K bk g) (rl_K bb g)) i 1)) = w from ew.symm]
            exact fin
        · exact br_f (nI_nlt (b := 16) (by omega) (by omega)) (xq_end (by decide) (hlim sa (by rw [hb]; exact aa) (Or.inr (by omega))) (by omega))
    · exact br_f aa (xq_end (by decide) (hfail fun z => aa (by rw [← hb]; exact z.2)) (by omega))
  · exact br_f sa (xq_end (by decide) (hfail fun z => sa z.1) (by omega))
end

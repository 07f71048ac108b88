theorem zi_analyze {Q : Int32 → St2 → Prop} {N : Nat} {u : St2} (I : zi_R N u) (H : ∀ r u', zi_R N u' → zi_cur u' → Q r u') : wpX_analyze Q u := by
  obtain ⟨f_slotCount, f_capacity, f_nodesUsed, f_buildingSlot, f_pendingCount, f_summariesCurrent, f_callsActive, f_callsMade, f_runOutcome, f_runValue, a_slotStates, a_slotArities, a_slotStarts, a_slotSizes, a_kinds, a_firstOperands, a_secondOperands, a_children, a_parents, a_depths, a_pendingNodes, a_summaries, a_nextSummaries, a_nodeTypes, a_paramsAfter, a_params, a_values, a_arguments, a_frameSlots, a_frameNodes⟩ := u
  obtain ⟨C, U, sz, S, tb, szY, bk, ba, bb, rfl, rfl, rfl, ⟨hN1, hN, hC1, hC, hU⟩, hcur, hs, hbld, hT, ht, hnx, hfix⟩ := I
  obtain ⟨r0, hr, f1, f2⟩ := sp_fix (rl_sp_ok hs)
  refine xn_analyze hN hs hnx hr f1 f2 fun SU NX NT PA P s n => H _ _ ?_ rfl
  have eq : sp_T N (rl_K bk) (rl_K ba) (rl_K bb) a_slotStates a_slotArities sz (r0 + 1) = sp_T N (rl_K bk) (rl_K ba) (rl_K bb) a_slotStates a_slotArities sz r0 := by
    funext q
    by_cases hq : q < 24
    · exact f1 q hq
    · rw [sp_T_hi hN _ (by omega), sp_T_hi hN _ (by omega)]
  refine ⟨C, U, sz, S, sp_T N (rl_K bk) (rl_K ba) (rl_K bb) a_slotStates a_slotArities sz (r0 + 1), szY, bk, ba, bb, rfl, rfl, rfl, ⟨hN1, hN, hC1, hC, hU⟩, Or.inr rfl, hs, hbld, sp_T_ok (rl_sp_ok hs) (r0 + 1), s, n, fun _ q _ => ?_⟩
  show sp_step N (rl_K bk) (rl_K ba) (rl_K bb) a_slotStates a_slotArities sz (sp_T N (rl_K bk) (rl_K ba) (rl_K bb) a_slotStates a_slotArities sz (r0 + 1)) q = sp_T N (rl_K bk) (rl_K ba) (rl_K bb) a_slotStates a_slotArities sz (r0 + 1) q
  rw [eq]
  exact congrFun eq q
theorem zi_analyzed {Q : Int32 → Prop} {N : Nat} {u : St2} (I : zi_R N u) (H0 : Q 0) (H1 : zi_cur u → Q 1) : wpX_analyzed Q u := by
  obtain ⟨f_slotCount, f_capacity, f_nodesUsed, f_buildingSlot, f_pendingCount, f_summariesCurrent, f_callsActive, f_callsMade, f_runOutcome, f_runValue, a_slotStates, a_slotArities, a_slotStarts, a_slotSizes, a_kinds, a_firstOperands, a_secondOperands, a_children, a_parents, a_depths, a_pendingNodes, a_summaries, a_nextSummaries, a_nodeTypes, a_paramsAfter, a_params, a_values, a_arguments, a_frameSlots, a_frameNodes⟩ := u
  obtain ⟨C, U, sz, S, tb, szY, bk, ba, bb, rfl, rfl, rfl, ⟨hN1, hN, hC1, hC, hU⟩, hcur, hs, hbld, hT, ht, hnx, hfix⟩ := I
  rcases hcur with rfl | rfl
  · exact ⟨rfl, H0⟩
  · exact ⟨rfl, H1 rfl⟩
theorem zi_1 {r : Int32} (h : r = -1 ∨ r = 1 ∨ r = 2) (n : r ≠ -1) : ¬ r = 0 := by
  rcases h with h | h | h
  · exact absurd h n
  · rw [h]; decide
  · rw [h]; decide
theorem zi_run {Q : Int32 → St2 → Prop} {N : Nat} {u : St2} (I : zi_R N u) (hc : zi_cur u) {v x y : Int32} (H : ∀ r u', zi_R N u' → zi_cur u' → (r = 0 → zi_ok v x y u') → Q r u') : wpX_run Q u v x y := by
  have J := I
  have J2 := hc
  obtain ⟨f_slotCount, f_capacity, f_nodesUsed, f_buildingSlot, f_pendingCount, f_summariesCurrent, f_callsActive, f_callsMade, f_runOutcome, f_runValue, a_slotStates, a_slotArities, a_slotStarts, a_slotSizes, a_kinds, a_firstOperands, a_secondOperands, a_children, a_parents, a_depths, a_pendingNodes, a_summaries, a_nextSummaries, a_nodeTypes, a_paramsAfter, a_params, a_values, a_arguments, a_frameSlots, a_frameNodes⟩ := u
  obtain ⟨C, U, sz, S, tb, szY, bk, ba, bb, rfl, rfl, rfl, ⟨hN1, hN, hC1, hC, hU⟩, hcur, hs, hbld, hT, ht, hnx, hfix⟩ := I
  have e3 : ¬ (3 : Int32) = 0 := by decide
  by_cases ex : ∃ f : Nat, f < N ∧ v = nI f ∧ a_slotStates f = 2
  · obtain ⟨f, hf, rfl, s2⟩ := ex
    obtain ⟨_, _, _, _, kk, hkk, ekk, _⟩ := (hs f hf).2.1 (by rw [s2]; decide)
    have z0 := ((hs f hf).2.2 s2).1
    refine xe_go hN hf s2 ekk hkk (fun ag => ?_) (fun na => H _ _ J J2 (fun z => absurd z e3))
    have ag' : rn_ag (a_slotArities f) x y := by rw [ekk]; exact ag
    have gd := rn_ev_gd hN (rl_sp_ok hs) 2048 0 f (sz f - 1) x y 1 hf s2 (by omega) ag' (by omega)
    refine xq_run hN hs hf s2 ag' (fun n ca cm V AR FS FN => H _ _ ?_ J2 (fun z => absurd z (zi_1 gd.1 n))) (fun o ca cm V AR FS FN => H _ _ ?_ J2 (fun _ => ?_))
    · exact ⟨C, U, sz, S, tb, szY, bk, ba, bb, rfl, rfl, rfl, ⟨hN1, hN, hC1, hC, hU⟩, hcur, hs, hbld, hT, ht, hnx, hfix⟩
    · exact ⟨C, U, sz, S, tb, szY, bk, ba, bb, rfl, rfl, rfl, ⟨hN1, hN, hC1, hC, hU⟩, hcur, hs, hbld, hT, ht, hnx, hfix⟩
    · have fix := hfix J2
      obtain ⟨k, hk, ek, hz0, hz, hb⟩ := rl_sp_ok hs f hf s2
      have kk' : kk = k := (nI_eq (by omega) (by omega)).mp (by rw [← ekk, ek])
      subst kk'
      obtain ⟨p, hp, vp, ep⟩ := sd_main hN (rl_sp_ok hs) hT fix 2048 0 f (sz f - 1) 1 kk x y hf s2 (by omega) hkk ekk o 128 (ty_any, ty_any) (by omega) (sp_any_eo kk) ⟨fun h => sd_any (ag.1 h), fun h => sd_any (ag.2 h)⟩
      obtain ⟨t0, t1, t2⟩ := sd_fix hN fix hf s2 hkk ekk hp
      refine ⟨N, f, kk, tb, rfl, hf, hN, rfl, s2, hkk, ekk, hT, ht, fun h => ?_, fun h => ?_, ?_⟩
      · rw [t0 h]; exact ep.1 ((sd_k1 hkk).mpr h)
      · rw [t1 h]; exact ep.2 ((sd_k2 hkk).mpr h)
      · rw [t2]; exact vp
  · unfold wpX_run
    refine xd_slot hN (fun f hf e => br_f (by decide) ?_) (fun _ => br_t rfl (H _ _ J J2 (fun z => absurd z e3)))
    subst e
    refine ⟨vp_in_nI (by omega) (by decide), br_f (fun z => ex ⟨f, hf, rfl, ?_⟩) (H _ _ J J2 (fun z => absurd z e3))⟩
    rw [nI_clamp (by omega)] at z
    exact z
section
variable {f_slotCount f_capacity f_nodesUsed f_buildingSlot f_pendingCount f_summariesCurrent f_callsActive f_callsMade f_runOutcome f_runValue : Int32} {a_slotStates a_slotArities a_slotStarts a_slotSizes a_kinds a_firstOperands a_secondOperands a_children a_parents a_depths a_pendingNodes a_summaries a_nextSummaries a_nodeTypes a_paramsAfter a_params a_values a_arguments a_frameSlots a_frameNodes : Nat → Int32} {N : Nat}
theorem zi_mem {Q : Int32 → Prop} {f j : Nat} {v : Int32} {t : ty_T} (hN : N ≤ 8) (hf : f < N) (hj : j < 3) (hT : ty_ok t) (ht : a_summaries (f * 3 + j) = ty_x t) (hv : sd_in v t) (H : Q 1) : wpX_member Q (nI N, f_capacity, f_nodesUsed, f_buildingSlot, f_pendingCount, f_summariesCurrent, f_callsActive, f_callsMade, f_runOutcome, f_runValue, a_slotStates, a_slotArities, a_slotStarts, a_slotSizes, a_kinds, a_firstOperands, a_secondOperands, a_children, a_parents, a_depths, a_pendingNodes, a_summaries, a_nextSummaries, a_nodeTypes, a_paramsAfter, a_params, a_values, a_arguments, a_frameSlots, a_frameNodes) (nI f) (nI j) v := by
  unfold wpX_member
  refine xd_sum hN (fun f' j' hf' hj' e1 e2 => br_f (by decide) ?_) (fun no => absurd ⟨f, j, hf, hj, rfl, rfl⟩ no)
  rw [rd_idx, nI_clamp (by omega), ht]
  refine ⟨vp_in_nI (by omega) (by decide), nm_e ?_⟩
  rcases hv with ⟨a1, a2, a3, a4, a5⟩ | ⟨q, hq, rfl, bq⟩
  · refine xt_isInt (fun a b => br_f (by decide) ?_) (fun nn => absurd ⟨a1, a2⟩ nn)
    refine xt_has hT (fun z => absurd z a3) (fun z => br_f (by decide) (xt_low hT z (br_f ?_ (xt_high hT z (br_f ?_ H)))))
    · rw [Int32.lt_iff_toInt_lt, ty_lw_t _ (by have := ty_ok_l hT; omega)]; omega
    · rw [Int32.lt_iff_toInt_lt, ty_hw_t _ (by have := ty_ok_h hT; omega)]; omega
  · have tq := sd_at_t q hq
    refine xt_isInt (fun a b => absurd b (by omega)) (fun nn => br_t rfl ?_)
    refine xt_isAtom (fun a b => br_f (by decide) ?_) (fun nm => absurd ⟨by omega, by omega⟩ nm)
    have xn := ty_xn_lt hT
    have bx := ty_bit (ty_xn_m hT) (by omega) hq
    have eq : (1000 + nI q : Int32) - 1000 = nI q := by rw [Int32.add_comm, Int32.add_sub_cancel]
    rw [eq, show ty_x t = nI (ty_xn t) from rfl, bx, (ty_tb t.1 q).mp bq]
    exact br_t rfl H
theorem zi_ar {Q : Int32 → Prop} {f k : Nat} (hN : N ≤ 8) (hf : f < N) (s2 : a_slotStates f = 2) (ek : a_slotArities f = nI k) (H : Q (nI k)) : wpX_arity Q (nI N, f_capacity, f_nodesUsed, f_buildingSlot, f_pendingCount, f_summariesCurrent, f_callsActive, f_callsMade, f_runOutcome, f_runValue, a_slotStates, a_slotArities, a_slotStarts, a_slotSizes, a_kinds, a_firstOperands, a_secondOperands, a_children, a_parents, a_depths, a_pendingNodes, a_summaries, a_nextSummaries, a_nodeTypes, a_paramsAfter, a_params, a_values, a_arguments, a_frameSlots, a_frameNodes) (nI f) := by
  unfold wpX_arity
  refine xd_body hN (fun f' hf' e z => br_f (by decide) ⟨vp_in_nI (by omega) (by decide), ?_⟩) (fun no => absurd ⟨f, hf, rfl, by rw [s2]; decide⟩ no)
  rw [nI_clamp (by omega), ek]
  exact H
theorem zi_arity {Q : Int32 → Prop} {v : Int32} (hN : N ≤ 8) (H : ∀ r, Q r) : wpX_arity Q (nI N, f_capacity, f_nodesUsed, f_buildingSlot, f_pendingCount, f_summariesCurrent, f_callsActive, f_callsMade, f_runOutcome, f_runValue, a_slotStates, a_slotArities, a_slotStarts, a_slotSizes, a_kinds, a_firstOperands, a_secondOperands, a_children, a_parents, a_depths, a_pendingNodes, a_summaries, a_nextSummaries, a_nodeTypes, a_paramsAfter, a_params, a_values, a_arguments, a_frameSlots, a_frameNodes) v := by
  unfold wpX_arity
  refine xd_body hN (fun f hf e z => br_f (by decide) ⟨?_, H _⟩) (fun no => br_t rfl (H _))
  rw [e]
  exact vp_in_nI (by omega) (by decide)
end

section
variable {f_slotCount f_capacity f_nodesUsed f_buildingSlot f_pendingCount f_summariesCurrent f_callsActive f_callsMade f_runOutcome f_runValue : Int32} {a_slotStates a_slotArities a_slotStarts a_slotSizes a_kinds a_firstOperands a_secondOperands a_children a_parents a_depths a_pendingNodes a_summaries a_nextSummaries a_nodeTypes a_paramsAfter a_params a_values a_arguments a_frameSlots a_frameNodes : Nat → Int32} {N k n S : Nat} {K A B : Nat → Int32}
theorem xc_n_lf {Q : Int32 → St2 → Prop} (hB : rl_body N k n S K A B a_kinds a_firstOperands a_secondOperands a_children a_parents a_depths) (hk : k ≤ 2) {i : Nat} (hi : i < n) (h : K i = 0 ∨ K i = 1 ∨ K i = 2) {e : ab_E} (he : xa_e e)
    (h0 : a_params 0 = ty_x e.1) (h1 : a_params 1 = ty_x e.2) (H : ∀ (P : Nat → Int32) (r : ty_T) (e' : ab_E), xc_o r e' (ab_leaf K A i e) → P 0 = ty_x e'.1 → P 1 = ty_x e'.2 → Q (ty_x r) (f_slotCount, f_capacity, f_nodesUsed, f_buildingSlot, f_pendingCount, f_summariesCurrent, f_callsActive, f_callsMade, f_runOutcome, f_runValue, a_slotStates, a_slotArities, a_slotStarts, a_slotSizes, a_kinds, a_firstOperands, a_secondOperands, a_children, a_parents, a_depths, a_pendingNodes, a_summaries, a_nextSummaries, a_nodeTypes, a_paramsAfter, P, a_values, a_arguments, a_frameSlots, a_frameNodes)) : wpX_inferNode Q (f_slotCount, f_capacity, f_nodesUsed, f_buildingSlot, f_pendingCount, f_summariesCurrent, f_callsActive, f_callsMade, f_runOutcome, f_runValue, a_slotStates, a_slotArities, a_slotStarts, a_slotSizes, a_kinds, a_firstOperands, a_secondOperands, a_children, a_parents, a_depths, a_pendingNodes, a_summaries, a_nextSummaries, a_nodeTypes, a_paramsAfter, a_params, a_values, a_arguments, a_frameSlots, a_frameNodes) (nI (S + i)) := by
  obtain ⟨w, cl, rk, ra, rb⟩ := xc_row hB hi
  unfold wpX_inferNode
  dsimp only
  rw [cl, ra, rk]
  unfold ab_leaf at H
  rcases h with h | h | h
  · rw [if_pos h] at H
    obtain ⟨l1, l2⟩ := (hB.2.1.1 i hi).2.1 h
    rw [h]
    refine ⟨w, nm_e (br_f (by decide) (br_f (by decide) (br_t rfl ⟨w, w, ?_⟩)))⟩
    exact xt_range (Int.le_refl _) l2 l1 (H a_params _ e ⟨he, ty_r_ok (Int.le_refl _), rfl⟩ h0 h1)
  · rw [if_neg (by rw [h]; decide), if_pos h] at H
    obtain ⟨j, hj, ej⟩ := (hB.2.1.1 i hi).2.2.1 h
    rw [ej, nI_clamp (by omega)] at H
    rw [h, ej, xc_pow j hj]
    exact ⟨w, nm_e (br_f (by decide) (br_f (by decide) (br_f (by decide) (br_t rfl ⟨w, H a_params _ e ⟨he, ab_pow_ok hj, rfl⟩ h0 h1⟩))))⟩
  · rw [if_neg (by rw [h]; decide), if_neg (by rw [h]; decide)] at H
    obtain ⟨j, hj, ej⟩ := (hB.2.1.1 i hi).2.2.2.1 h
    rw [ej] at H
    have jj : j = 0 ∨ j = 1 := by omega
    rw [h, ej]
    rcases jj with rfl | rfl
    · rw [if_pos nI_0] at H
      rw [nI_clamp (by decide), h0]
      exact ⟨w, nm_e (br_f (by decide) (br_f (by decide) (br_f (by decide) (br_f (by decide) (br_t rfl ⟨w, vp_in_nI (by decide) (by decide), H a_params _ e ⟨he, he.1, rfl⟩ h0 h1⟩)))))⟩
    · rw [if_neg (by decide)] at H
      rw [nI_clamp (by decide), h1]
      exact ⟨w, nm_e (br_f (by decide) (br_f (by decide) (br_f (by decide) (br_f (by decide) (br_t rfl ⟨w, vp_in_nI (by decide) (by decide), H a_params _ e ⟨he, he.2, rfl⟩ h0 h1⟩)))))⟩
theorem xc_n_op {Q : Int32 → St2 → Prop} (hB : rl_body N k n S K A B a_kinds a_firstOperands a_secondOperands a_children a_parents a_depths) (hk : k ≤ 2) {i : Nat} (hi : i < n) (h : K i = 3 ∨ K i = 4 ∨ K i = 5 ∨ K i = 6) (hc : rl_c K B i = 2)
    {x y : ty_T} {e : ab_E} (ox : ty_ok x) (oy : ty_ok y) (he : xa_e e) (hx : a_nodeTypes (S + bs_ch (rl_c K B) i 0) = ty_x x) (hy : a_nodeTypes (S + bs_ch (rl_c K B) i 1) = ty_x y)
    (h0 : a_params 0 = ty_x e.1) (h1 : a_params 1 = ty_x e.2) (H : ∀ (P : Nat → Int32) (r : ty_T) (e' : ab_E), xc_o r e' (ab_opf K A (rl_c K B) i x y e) → P 0 = ty_x e'.1 → P 1 = ty_x e'.2 → Q (ty_x r) (f_slotCount, f_capacity, f_nodesUsed, f_buildingSlot, f_pendingCount, f_summariesCurrent, f_callsActive, f_callsMade, f_runOutcome, f_runValue, a_slotStates, a_slotArities, a_slotStarts, a_slotSizes, a_kinds, a_firstOperands, a_secondOperands, a_children, a_parents, a_depths, a_pendingNodes, a_summaries, a_nextSummaries, a_nodeTypes, a_paramsAfter, P, a_values, a_arguments, a_frameSlots, a_frameNodes)) : wpX_inferNode Q (f_slotCount, f_capacity, f_nodesUsed, f_buildingSlot, f_pendingCount, f_summariesCurrent, f_callsActive, f_callsMade, f_runOutcome, f_runValue, a_slotStates, a_slotArities, a_slotStarts, a_slotSizes, a_kinds, a_firstOperands, a_secondOperands, a_children, a_parents, a_depths, a_pendingNodes, a_summaries, a_nextSummaries, a_nodeTypes, a_paramsAfter, a_params, a_values, a_arguments, a_frameSlots, a_frameNodes) (nI (S + i)) := by
  obtain ⟨w, cl, rk, ra, rb⟩ := xc_row hB hi
  have num : (K i = 3 ∨ K i = 4 ∨ K i = 5) → wpX_inferNumeric Q (f_slotCount, f_capacity, f_nodesUsed, f_buildingSlot, f_pendingCount, f_summariesCurrent, f_callsActive, f_callsMade, f_runOutcome, f_runValue, a_slotStates, a_slotArities, a_slotStarts, a_slotSizes, a_kinds, a_firstOperands, a_secondOperands, a_children, a_parents, a_depths, a_pendingNodes, a_summaries, a_nextSummaries, a_nodeTypes, a_paramsAfter, a_params, a_values, a_arguments, a_frameSlots, a_frameNodes) (nI (S + i)) := by
    intro h
    have n6 : ¬ K i = 6 := by rcases h with h | h | h <;> rw [h] <;> decide
    unfold ab_opf at H
    rw [if_neg n6] at H
    refine xc_numeric hB hk hi h hc ox oy he hx hy h0 h1 (fun z => ?_) (fun z P p0 p1 => ?_)
    · rw [if_pos z] at H
      have := H a_params ty_0 e ⟨he, ty_0_ok, by unfold ab_fin; rw [if_pos (Or.inl rfl)]⟩ h0 h1
      rw [ty_x_00] at this
      exact this
    · rw [if_neg z] at H
      exact H P _ _ ⟨xa_nv_e ty_ints_ok (xa_nv_e ty_ints_ok he), ab_num_ok ox oy (fun q => z (Or.inl q)) (fun q => z (Or.inr q)), rfl⟩ p0 p1
  have num' : (K i = 3 ∨ K i = 4 ∨ K i = 5) → wX_inferNode_93 Q (nI (S + i)) f_slotCount f_capacity f_nodesUsed f_buildingSlot f_pendingCount f_summariesCurrent f_callsActive f_callsMade f_runOutcome f_runValue a_slotStates a_slotArities a_slotStarts a_slotSizes a_kinds a_firstOperands a_secondOperands a_children a_parents a_depths a_pendingNodes a_summaries a_nextSummaries a_nodeTypes a_paramsAfter a_params a_values a_arguments a_frameSlots a_frameNodes := fun h => num h
  unfold wpX_inferNode
  dsimp only
  rw [cl, rk]
  rcases h with h | h | h | h
  · have q := num' (Or.inl h)
    rw [h]
    exact ⟨w, nm_e (br_f (by decide) (br_f (by decide) (br_f (by decide) (br_f (by decide) (br_f (by decide) (br_t rfl q))))))⟩
  · have q := num' (Or.inr (Or.inl h))
    rw [h]
    exact ⟨w, nm_e (br_f (by decide) (br_f (by decide) (br_f (by decide) (br_f (by decide) (br_f (by decide) (br_f (by decide) (br_t rfl q)))))))⟩
  · have q := num' (Or.inr (Or.inr h))
    rw [h]
    exact ⟨w, nm_e (br_f (by decide) (br_f (by decide) (br_f (by decide) (br_f (by decide) (br_f (by decide) (br_f (by decide) (br_f (by decide) (br_t rfl q))))))))⟩
  · unfold ab_opf at H
    rw [if_pos h] at H
    rw [h]
    refine ⟨w, nm_e (br_f (by decide) (br_f (by decide) (br_f (by decide) (br_f (by decide) (br_f (by decide) (br_f (by decide) (br_f (by decide) (br_f (by decide) (br_t rfl ?_)))))))))⟩
    exact xc_equal hB hi hc ox oy hx hy (H a_params _ e ⟨he, ab_lit_ok (by split <;> decide), rfl⟩ h0 h1)
theorem xc_n_isi {Q : Int32 → St2 → Prop} (hB : rl_body N k n S K A B a_kinds a_firstOperands a_secondOperands a_children a_parents a_depths) {i : Nat} (hi : i < n) (h : K i = 7) (hc : rl_c K B i = 1)
    {x : ty_T} {e : ab_E} (ox : ty_ok x) (he : xa_e e) (hx : a_nodeTypes (S + bs_ch (rl_c K B) i 0) = ty_x x)
    (h0 : a_params 0 = ty_x e.1) (h1 : a_params 1 = ty_x e.2) (H : ∀ (P : Nat → Int32) (r : ty_T) (e' : ab_E), xc_o r e' (ab_fin ((if x.1 = 0 then 0 else 1) + (if x.2.1 = 0 then 0 else 2), 0, 0) e) → P 0 = ty_x e'.1 → P 1 = ty_x e'.2 → Q (ty_x r) (f_slotCount, f_capacity, f_nodesUsed, f_buildingSlot, f_pendingCount, f_summariesCurrent, f_callsActive, f_callsMade, f_runOutcome, f_runValue, a_slotStates, a_slotArities, a_slotStarts, a_slotSizes, a_kinds, a_firstOperands, a_secondOperands, a_children, a_parents, a_depths, a_pendingNodes, a_summaries, a_nextSummaries, a_nodeTypes, a_paramsAfter, P, a_values, a_arguments, a_frameSlots, a_frameNodes)) : wpX_inferNode Q (f_slotCount, f_capacity, f_nodesUsed, f_buildingSlot, f_pendingCount, f_summariesCurrent, f_callsActive, f_callsMade, f_runOutcome, f_runValue, a_slotStates, a_slotArities, a_slotStarts, a_slotSizes, a_kinds, a_firstOperands, a_secondOperands, a_children, a_parents, a_depths, a_pendingNodes, a_summaries, a_nextSummaries, a_nodeTypes, a_paramsAfter, a_params, a_values, a_arguments, a_frameSlots, a_frameNodes) (nI (S + i)) := by
  obtain ⟨w, cl, rk, ra, rb⟩ := xc_row hB hi
  unfold wpX_inferNode
  dsimp only
  rw [cl, rk, h]
  refine ⟨w, nm_e (br_f (by decide) (br_f (by decide) (br_f (by decide) (br_f (by decide) (br_f (by decide) (br_f (by decide) (br_f (by decide) (br_f (by decide) (br_f (by decide) (br_t rfl ?_))))))))))⟩
  exact xc_isint hB hi hc ox hx (H a_params _ e ⟨he, ab_lit_ok (by split <;> split <;> decide), rfl⟩ h0 h1)
theorem xc_n_if {Q : Int32 → St2 → Prop} (hB : rl_body N k n S K A B a_kinds a_firstOperands a_secondOperands a_children a_parents a_depths) {i : Nat} (hi : i < n) (h : K i = 8) (hc : rl_c K B i = 3)
    {o o' : ab_O} (po : ab_po k o) (po' : ab_po k o')
    (hx : a_nodeTypes (S + bs_ch (rl_c K B) i 1) = ty_x (xa_ty o)) (hy : a_nodeTypes (S + bs_ch (rl_c K B) i 2) = ty_x (xa_ty o'))
    (e0 : a_paramsAfter ((S + bs_ch (rl_c K B) i 1) * 2) = ty_x (xa_en o).1) (e1 : a_paramsAfter ((S + bs_ch (rl_c K B) i 1) * 2 + 1) = ty_x (xa_en o).2)
    (f0 : a_paramsAfter ((S + bs_ch (rl_c K B) i 2) * 2) = ty_x (xa_en o').1) (f1 : a_paramsAfter ((S + bs_ch (rl_c K B) i 2) * 2 + 1) = ty_x (xa_en o').2)
    (H : ∀ (P : Nat → Int32) (r : ty_T) (e' : ab_E), xc_o r e' (ab_jn o o') → P 0 = ty_x e'.1 → P 1 = ty_x e'.2 → Q (ty_x r) (f_slotCount, f_capacity, f_nodesUsed, f_buildingSlot, f_pendingCount, f_summariesCurrent, f_callsActive, f_callsMade, f_runOutcome, f_runValue, a_slotStates, a_slotArities, a_slotStarts, a_slotSizes, a_kinds, a_firstOperands, a_secondOperands, a_children, a_parents, a_depths, a_pendingNodes, a_summaries, a_nextSummaries, a_nodeTypes, a_paramsAfter, P, a_values, a_arguments, a_frameSlots, a_frameNodes)) : wpX_inferNode Q (f_slotCount, f_capacity, f_nodesUsed, f_buildingSlot, f_pendingCount, f_summariesCurrent, f_callsActive, f_callsMade, f_runOutcome, f_runValue, a_slotStates, a_slotArities, a_slotStarts, a_slotSizes, a_kinds, a_firstOperands, a_secondOperands, a_children, a_parents, a_depths, a_pendingNodes, a_summaries, a_nextSummaries, a_nodeTypes, a_paramsAfter, a_params, a_values, a_arguments, a_frameSlots, a_frameNodes) (nI (S + i)) := by
  obtain ⟨w, cl, rk, ra, rb⟩ := xc_row hB hi
  have q := xa_eo_e (xa_en_eo po)
  have q' := xa_eo_e (xa_en_eo po')
  unfold wpX_inferNode
  dsimp only
  rw [cl, rk, h]
  refine ⟨w, nm_e (br_f (by decide) (br_f (by decide) (br_f (by decide) (br_f (by decide) (br_f (by decide) (br_f (by decide) (br_f (by decide) (br_f (by decide) (br_f (by decide) (br_f (by decide) (br_t rfl ?_)))))))))))⟩
  exact xc_if hB hi hc (xa_ty_ok po) (xa_ty_ok po') q q' hx hy e0 e1 f0 f1 (fun P p0 p1 => H P _ (_, _) ⟨⟨ty_join_ok q.1 q'.1, ty_join_ok q.2 q'.2⟩, ty_join_ok (xa_ty_ok po) (xa_ty_ok po'), xa_jn_fin po po'⟩ p0 p1)
theorem xc_n_call {Q : Int32 → St2 → Prop} {tb : Nat → ty_T} (hB : rl_body N k n S K A B a_kinds a_firstOperands a_secondOperands a_children a_parents a_depths) (hk : k ≤ 2) (hN : N ≤ 8) {i : Nat} (hi : i < n) (h9 : K i = 9)
    {x y : ty_T} {e : ab_E} (ox : ty_ok x) (oy : ty_ok y) (he : xa_e e) (hT : ∀ q, ty_ok (tb q)) (hs : ∀ q, q < 24 → a_summaries q = ty_x (tb q)) (h0 : a_params 0 = ty_x e.1) (h1 : a_params 1 = ty_x e.2)
    (hx : 1 ≤ rl_c K B i → a_nodeTypes (S + bs_ch (rl_c K B) i 0) = ty_x x) (hy : 2 ≤ rl_c K B i → a_nodeTypes (S + bs_ch (rl_c K B) i 1) = ty_x y) {o : ab_O}
    (ho : o = if B i = 0 then ab_cl0 A B a_slotStates a_slotArities tb i e else if B i = 1 then ab_cl1 K A B a_slotStates a_slotArities (rl_c K B) tb i x e else ab_cl2 K A B a_slotStates a_slotArities (rl_c K B) tb i x y e)
    (H : ∀ (P : Nat → Int32) (r : ty_T) (e' : ab_E), xc_o r e' o → P 0 = ty_x e'.1 → P 1 = ty_x e'.2 → Q (ty_x r) (f_slotCount, f_capacity, f_nodesUsed, f_buildingSlot, f_pendingCount, f_summariesCurrent, f_callsActive, f_callsMade, f_runOutcome, f_runValue, a_slotStates, a_slotArities, a_slotStarts, a_slotSizes, a_kinds, a_firstOperands, a_secondOperands, a_children, a_parents, a_depths, a_pendingNodes, a_summaries, a_nextSummaries, a_nodeTypes, a_paramsAfter, P, a_values, a_arguments, a_frameSlots, a_frameNodes)) : wpX_inferNode Q (f_slotCount, f_capacity, f_nodesUsed, f_buildingSlot, f_pendingCount, f_summariesCurrent, f_callsActive, f_callsMade, f_runOutcome, f_runValue, a_slotStates, a_slotArities, a_slotStarts, a_slotSizes, a_kinds, a_firstOperands, a_secondOperands, a_children, a_parents, a_depths, a_pendingNodes, a_summaries, a_nextSummaries, a_nodeTypes, a_paramsAfter, a_params, a_values, a_arguments, a_frameSlots, a_frameNodes) (nI (S + i)) := by
  obtain ⟨w, cl, rk, ra, rb⟩ := xc_row hB hi
  unfold wpX_inferNode
  dsimp only
  rw [cl, rk, h9]
  refine ⟨w, nm_e (br_f (by decide) (br_t (by decide) ?_))⟩
  exact xc_call hB hk hN hi h9 ox oy he hT hs h0 h1 hx hy ho H
theorem xc_k60 {Q : St2 → Prop} {r : Nat} (hr : r < 128) {z : Int32} (H : Q (f_slotCount, f_capacity, f_nodesUsed, f_buildingSlot, f_pendingCount, f_summariesCurrent, f_callsActive, f_callsMade, f_runOutcome, f_runValue, a_slotStates, a_slotArities, a_slotStarts, a_slotSizes, a_kinds, a_firstOperands, a_secondOperands, a_children, a_parents, a_depths, a_pendingNodes, a_summaries, a_nextSummaries, upd a_nodeTypes r z, upd (upd a_paramsAfter (r * 2) (a_params 0)) (r * 2 + 1) (a_params 1), a_params, a_values, a_arguments, a_frameSlots, a_frameNodes)) : wX_keepOutcome_60 Q (nI r) z (nI r) f_slotCount f_capacity f_nodesUsed f_buildingSlot f_pendingCount f_summariesCurrent f_callsActive f_callsMade f_runOutcome f_runValue a_slotStates a_slotArities a_slotStarts a_slotSizes a_kinds a_firstOperands a_secondOperands a_children a_parents a_depths a_pendingNodes a_summaries a_nextSummaries a_nodeTypes a_paramsAfter a_params a_values a_arguments a_frameSlots a_frameNodes := by
  unfold wX_keepOutcome_60
  rw [xc_21, xc_2, nI_clamp (n := r) (by omega), nI_clamp (n := r * 2) (by omega), nI_clamp (n := r * 2 + 1) (by omega)]
  exact ⟨vp_in_nI hr (by omega), nm_e ⟨vp_in_nI (by omega) (by omega), nm_e ⟨vp_in_nI (by omega) (by omega), nm_e H⟩⟩⟩
theorem xc_k22 {Q : St2 → Prop} {r : Nat} (hr : r < 128) {z : Int32} (H : ∀ P : Nat → Int32, P 0 = 0 → P 1 = 0 → Q (f_slotCount, f_capacity, f_nodesUsed, f_buildingSlot, f_pendingCount, f_summariesCurrent, f_callsActive, f_callsMade, f_runOutcome, f_runValue, a_slotStates, a_slotArities, a_slotStarts, a_slotSizes, a_kinds, a_firstOperands, a_secondOperands, a_children, a_parents, a_depths, a_pendingNodes, a_summaries, a_nextSummaries, upd a_nodeTypes r 0, upd (upd a_paramsAfter (r * 2) 0) (r * 2 + 1) 0, P, a_values, a_arguments, a_frameSlots, a_frameNodes)) : wX_keepOutcome_22 Q (nI r) z f_slotCount f_capacity f_nodesUsed f_buildingSlot f_pendingCount f_summariesCurrent f_callsActive f_callsMade f_runOutcome f_runValue a_slotStates a_slotArities a_slotStarts a_slotSizes a_kinds a_firstOperands a_secondOperands a_children a_parents a_depths a_pendingNodes a_summaries a_nextSummaries a_nodeTypes a_paramsAfter a_params a_values a_arguments a_frameSlots a_frameNodes := by
  unfold wX_keepOutcome_22 wX_keepOutcome_27
  refine br_f (by decide) (nm_e (nm_e ?_))
  unfold wX_keepOutcome_46
  refine br_f (by decide) (xc_k60 hr ?_)
  rw [pk_us, pk_un (by decide), pk_us]
  exact H _ (by rw [pk_un (by decide), pk_us]) pk_us
theorem xc_keep {Q : St2 → Prop} {r : Nat} (hr : r < 128) {t : ty_T} {e : ab_E} {o : ab_O} (ho : xc_o t e o) (h0 : a_params 0 = ty_x e.1) (h1 : a_params 1 = ty_x e.2)
    (H : ∀ P : Nat → Int32, P 0 = ty_x (xa_en o).1 → P 1 = ty_x (xa_en o).2 → Q (f_slotCount, f_capacity, f_nodesUsed, f_buildingSlot, f_pendingCount, f_summariesCurrent, f_callsActive, f_callsMade, f_runOutcome, f_runValue, a_slotStates, a_slotArities, a_slotStarts, a_slotSizes, a_kinds, a_firstOperands, a_secondOperands, a_children, a_parents, a_depths, a_pendingNodes, a_summaries, a_nextSummaries, upd a_nodeTypes r (ty_x (xa_ty o)), upd (upd a_paramsAfter (r * 2) (ty_x (xa_en o).1)) (r * 2 + 1) (ty_x (xa_en o).2), P, a_values, a_arguments, a_frameSlots, a_frameNodes)) : wpX_keepOutcome Q (f_slotCount, f_capacity, f_nodesUsed, f_buildingSlot, f_pendingCount, f_summariesCurrent, f_callsActive, f_callsMade, f_runOutcome, f_runValue, a_slotStates, a_slotArities, a_slotStarts, a_slotSizes, a_kinds, a_firstOperands, a_secondOperands, a_children, a_parents, a_depths, a_pendingNodes, a_summaries, a_nextSummaries, a_nodeTypes, a_paramsAfter, a_params, a_values, a_arguments, a_frameSlots, a_frameNodes) (nI r) (ty_x t) := by
  obtain ⟨he, ht, ho⟩ := ho
  have bot : o = none → wX_keepOutcome_22 Q (nI r) (ty_x t) f_slotCount f_capacity f_nodesUsed f_buildingSlot f_pendingCount f_summariesCurrent f_callsActive f_callsMade f_runOutcome f_runValue a_slotStates a_slotArities a_slotStarts a_slotSizes a_kinds a_firstOperands a_secondOperands a_children a_parents a_depths a_pendingNodes a_summaries a_nextSummaries a_nodeTypes a_paramsAfter a_params a_values a_arguments a_frameSlots a_frameNodes := fun on => by
    rw [on] at H
    refine xc_k22 hr fun P p0 p1 => ?_
    exact H P (by rw [p0]; exact ty_x_00.symm) (by rw [p1]; exact ty_x_00.symm)
  unfold wpX_keepOutcome
  dsimp only
  rw [h0, h1]
  by_cases a : t = ty_0
  · exact br_t ((ty_x_0 ht).mpr a) (bot (by rw [← ho]; unfold ab_fin; rw [if_pos (Or.inl a)]))
  · refine br_f (fun z => a ((ty_x_0 ht).mp z)) ?_
    by_cases b : e.1 = ty_0
    · exact br_t ((ty_x_0 he.1).mpr b) (bot (by rw [← ho]; unfold ab_fin; rw [if_pos (Or.inr (Or.inl b))]))
    · refine br_f (fun z => b ((ty_x_0 he.1).mp z)) ?_
      by_cases c : e.2 = ty_0
      · exact br_t ((ty_x_0 he.2).mpr c) (bot (by rw [← ho]; unfold ab_fin; rw [if_pos (Or.inr (Or.inr c))]))
      · refine br_f (fun z => c ((ty_x_0 he.2).mp z)) ?_
        rw [ab_fin_to a b c] at ho
        subst ho
        unfold wX_keepOutcome_27
        refine br_t rfl ?_
        unfold wX_keepOutcome_46
        refine br_t rfl (xc_k60 hr ?_)
        rw [h0, h1]
        exact H a_params h0 h1
theorem xc_cond {Q : Int32 → Prop} (hB : rl_body N k n S K A B a_kinds a_firstOperands a_secondOperands a_children a_parents a_depths) {i j : Nat} (hi : i < n) (hj : j < rl_c K B i)
    (H1 : K i = 8 → j = 0 → Q 1) (H0 : ¬ (K i = 8 ∧ j = 0) → Q 0) : wpX_isCondition Q (f_slotCount, f_capacity, f_nodesUsed, f_buildingSlot, f_pendingCount, f_summariesCurrent, f_callsActive, f_callsMade, f_runOutcome, f_runValue, a_slotStates, a_slotArities, a_slotStarts, a_slotSizes, a_kinds, a_firstOperands, a_secondOperands, a_children, a_parents, a_depths, a_pendingNodes, a_summaries, a_nextSummaries, a_nodeTypes, a_paramsAfter, a_params, a_values, a_arguments, a_frameSlots, a_frameNodes) (nI (S + bs_ch (rl_c K B) i j)) := by
  obtain ⟨w, cl, rk, _⟩ := xc_row hB hi
  obtain ⟨w0, cl0, r0, l0⟩ := xc_child hB hi (j := 0) (by omega)
  obtain ⟨_, _, _, lj⟩ := xc_child hB hi hj
  obtain ⟨wj, clj, _⟩ := xc_row hB lj
  obtain ⟨_, _, _, r4, _⟩ := hB.2.2 i hi
  have hS := hB.1
  rw [Nat.add_zero] at w0 cl0 r0
  unfold wpX_isCondition
  dsimp only
  rw [clj, (r4 j hj).2]
  refine ⟨wj, nm_e (br_f ?_ ⟨w, ?_⟩)⟩
  · intro z
    have := nI_pos' (n := S + i) (by omega)
    rw [z] at this
    exact absurd this (by decide)
  · rw [cl, rk, xc_3, cl0, r0]
    by_cases h8 : K i = 8
    · refine br_t h8 ⟨w0, ?_⟩
      by_cases j0 : j = 0
      · subst j0; exact br_t rfl (H1 h8 rfl)
      · have lt := bs_ch_ne hB.2.1.2.2 hi hj (show 0 < j by omega)
        exact br_f (fun z => by rw [nI_eq (by omega) (by omega)] at z; omega) (H0 fun z => j0 z.2)
    · exact br_f h8 (H0 fun z => h8 z.1)
theorem xc_then {Q : Int32 → Prop} (hB : rl_body N k n S K A B a_kinds a_firstOperands a_secondOperands a_children a_parents a_depths) {i j : Nat} (hi : i < n) (hj : j < rl_c K B i)
    (H1 : K i = 8 → j = 1 → Q 1) (H0 : ¬ (K i = 8 ∧ j = 1) → Q 0) : wpX_isThenBranch Q (f_slotCount, f_capacity, f_nodesUsed, f_buildingSlot, f_pendingCount, f_summariesCurrent, f_callsActive, f_callsMade, f_runOutcome, f_runValue, a_slotStates, a_slotArities, a_slotStarts, a_slotSizes, a_kinds, a_firstOperands, a_secondOperands, a_children, a_parents, a_depths, a_pendingNodes, a_summaries, a_nextSummaries, a_nodeTypes, a_paramsAfter, a_params, a_values, a_arguments, a_frameSlots, a_frameNodes) (nI (S + bs_ch (rl_c K B) i j)) := by
  obtain ⟨w, cl, rk, _⟩ := xc_row hB hi
  obtain ⟨_, _, _, lj⟩ := xc_child hB hi hj
  obtain ⟨wj, clj, _⟩ := xc_row hB lj
  obtain ⟨_, _, _, r4, _⟩ := hB.2.2 i hi
  have hS := hB.1
  unfold wpX_isThenBranch
  dsimp only
  rw [clj, (r4 j hj).2]
  refine ⟨wj, nm_e (br_f ?_ ⟨w, ?_⟩)⟩
  · intro z
    have := nI_pos' (n := S + i) (by omega)
    rw [z] at this
    exact absurd this (by decide)
  · rw [cl, rk]
    by_cases h8 : K i = 8
    · have c3 := ab_c8 hB.2.1 h8
      obtain ⟨w1, cl1, r1, l1⟩ := xc_child hB hi (j := 1) (by omega)
      rw [xc_31, cl1, r1]
      refine br_t h8 ⟨w1, ?_⟩
      by_cases j1 : j = 1
      · subst j1; exact br_t rfl (H1 h8 rfl)
      · refine br_f (fun z => ?_) (H0 fun z => j1 z.2)
        rw [nI_eq (by omega) (by omega)] at z
        by_cases j0 : j = 0
        · have lt := bs_ch_ne hB.2.1.2.2 hi (k := 1) (j := j) (by omega) (by omega)
          omega
        · have lt := bs_ch_ne hB.2.1.2.2 hi hj (show 1 < j by omega)
          omega
    · exact br_f h8 (H0 fun z => h8 z.1)
theorem xc_enter {Q : St2 → Prop} (hB : rl_body N k n S K A B a_kinds a_firstOperands a_secondOperands a_children a_parents a_depths) (hk : k ≤ 2) {i : Nat} (hi : i < n) (h8 : K i = 8) {x t : ty_T} {e : ab_E} {β : Bool} {b : Int32} (ot : ty_ok t) (he : xa_e e)
    (hb : ty_x x &&& b = 0 ↔ ¬ β = true) (hx : a_nodeTypes (S + bs_ch (rl_c K B) i 0) = ty_x x) (e0 : a_paramsAfter ((S + bs_ch (rl_c K B) i 0) * 2) = ty_x e.1) (e1 : a_paramsAfter ((S + bs_ch (rl_c K B) i 0) * 2 + 1) = ty_x e.2)
    (H : ∀ P : Nat → Int32, P 0 = ty_x (xa_br β (ab_th K A (rl_c K B) i t e)).1 → P 1 = ty_x (xa_br β (ab_th K A (rl_c K B) i t e)).2 → Q (f_slotCount, f_capacity, f_nodesUsed, f_buildingSlot, f_pendingCount, f_summariesCurrent, f_callsActive, f_callsMade, f_runOutcome, f_runValue, a_slotStates, a_slotArities, a_slotStarts, a_slotSizes, a_kinds, a_firstOperands, a_secondOperands, a_children, a_parents, a_depths, a_pendingNodes, a_summaries, a_nextSummaries, a_nodeTypes, a_paramsAfter, P, a_values, a_arguments, a_frameSlots, a_frameNodes)) : wpX_enterBranch Q (f_slotCount, f_capacity, f_nodesUsed, f_buildingSlot, f_pendingCount, f_summariesCurrent, f_callsActive, f_callsMade, f_runOutcome, f_runValue, a_slotStates, a_slotArities, a_slotStarts, a_slotSizes, a_kinds, a_firstOperands, a_secondOperands, a_children, a_parents, a_depths, a_pendingNodes, a_summaries, a_nextSummaries, a_nodeTypes, a_paramsAfter, a_params, a_values, a_arguments, a_frameSlots, a_frameNodes) (nI (S + bs_ch (rl_c K B) i 0)) b (ty_x t) := by
  have c3 := ab_c8 hB.2.1 h8
  obtain ⟨_, _, _, l0⟩ := xc_child hB hi (j := 0) (by omega)
  obtain ⟨w, cl, rk, _⟩ := xc_row hB l0
  have hS := hB.1
  have fin : ∀ (P : Nat → Int32) (E : ab_E), E = ab_th K A (rl_c K B) i t e → P 0 = ty_x E.1 → P 1 = ty_x E.2 → wX_enterBranch_60 Q (nI (S + bs_ch (rl_c K B) i 0)) b f_slotCount f_capacity f_nodesUsed f_buildingSlot f_pendingCount f_summariesCurrent f_callsActive f_callsMade f_runOutcome f_runValue a_slotStates a_slotArities a_slotStarts a_slotSizes a_kinds a_firstOperands a_secondOperands a_children a_parents a_depths a_pendingNodes a_summaries a_nextSummaries a_nodeTypes a_paramsAfter P a_values a_arguments a_frameSlots a_frameNodes := by
    intro P E eE p0 p1
    unfold wX_enterBranch_60
    rw [cl, hx]
    refine ⟨w, ?_⟩
    rw [← eE] at H
    unfold xa_br at H
    by_cases q : β = true
    · rw [if_pos q] at H
      exact br_f (fun z => hb.mp z q) (H P p0 p1)
    · rw [if_neg q] at H
      exact br_t (hb.mpr q) (nm_e (H _ (by rw [pk_us]; exact ty_x_00.symm) (by rw [pk_un (by decide)]; exact p1)))
  unfold wpX_enterBranch
  dsimp only
  rw [xc_21, xc_2, xc_3, nI_clamp (n := (S + bs_ch (rl_c K B) i 0) * 2) (by omega), nI_clamp (n := (S + bs_ch (rl_c K B) i 0) * 2 + 1) (by omega), e0, e1, xc_bool]
  refine ⟨vp_in_nI (by omega) (by omega), nm_e ⟨vp_in_nI (by omega) (by omega), nm_e ?_⟩⟩
  refine xc_nv hB hk l0 ty_bool_ok he (by rw [pk_un (by decide), pk_us]) pk_us fun P p0 p1 => ?_
  dsimp only
  rw [cl, rk]
  refine ⟨w, ?_⟩
  by_cases h7 : K (bs_ch (rl_c K B) i 0) = 7
  · have c1 := ab_c7 hB.2.1 h7
    obtain ⟨w1, cl1, r1, l1⟩ := xc_child hB l0 (j := 0) (by omega)
    rw [Nat.add_zero] at w1 cl1 r1
    rw [cl1, r1]
    refine br_t h7 ⟨w1, ?_⟩
    refine xc_nv hB hk l1 ot (xa_nv_e ty_bool_ok he) p0 p1 fun P' p0' p1' => fin P' _ ?_ p0' p1'
    unfold ab_th; rw [if_pos h7]
  · refine br_f h7 (fin P _ ?_ p0 p1)
    unfold ab_th; rw [if_neg h7]
end

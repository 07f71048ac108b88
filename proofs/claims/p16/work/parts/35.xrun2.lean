def xq_k (post : Int32 → St2 → Prop) (t fuel : Nat) : St2 → Prop := fun u => match u with
  | (f_slotCount, f_capacity, f_nodesUsed, f_buildingSlot, f_pendingCount, f_summariesCurrent, f_callsActive, f_callsMade, f_runOutcome, f_runValue, a_slotStates, a_slotArities, a_slotStarts, a_slotSizes, a_kinds, a_firstOperands, a_secondOperands, a_children, a_parents, a_depths, a_pendingNodes, a_summaries, a_nextSummaries, a_nodeTypes, a_paramsAfter, a_params, a_values, a_arguments, a_frameSlots, a_frameNodes) => ∀ x : Int32, x = nI t + 1 → wX_run_88 post fuel x f_slotCount f_capacity f_nodesUsed f_buildingSlot f_pendingCount f_summariesCurrent f_callsActive f_callsMade f_runOutcome f_runValue a_slotStates a_slotArities a_slotStarts a_slotSizes a_kinds a_firstOperands a_secondOperands a_children a_parents a_depths a_pendingNodes a_summaries a_nextSummaries a_nodeTypes a_paramsAfter a_params a_values a_arguments a_frameSlots a_frameNodes
def xq_R (post : Int32 → St2 → Prop) (f_slotCount f_capacity f_nodesUsed f_buildingSlot f_pendingCount f_summariesCurrent f_callsActive f_callsMade f_runOutcome f_runValue : Int32) (a_slotStates a_slotArities a_slotStarts a_slotSizes a_kinds a_firstOperands a_secondOperands a_children a_parents a_depths a_pendingNodes a_summaries a_nextSummaries a_nodeTypes a_paramsAfter a_params a_values a_arguments a_frameSlots a_frameNodes : Nat → Int32) (t a m : Nat) (Z : Nat → Nat → Int32) : Prop :=
  ∀ fuel, 1000000 < t + fuel → wX_run_88 post fuel (nI t) f_slotCount f_capacity f_nodesUsed f_buildingSlot f_pendingCount f_summariesCurrent (nI a) (nI m) (-1) 0 a_slotStates a_slotArities a_slotStarts a_slotSizes a_kinds a_firstOperands a_secondOperands a_children a_parents a_depths a_pendingNodes a_summaries a_nextSummaries a_nodeTypes a_paramsAfter a_params (Z 0) (Z 1) (Z 2) (Z 3)
def xq_F (post : Int32 → St2 → Prop) (f_slotCount f_capacity f_nodesUsed f_buildingSlot f_pendingCount f_summariesCurrent f_callsActive f_callsMade f_runOutcome f_runValue : Int32) (a_slotStates a_slotArities a_slotStarts a_slotSizes a_kinds a_firstOperands a_secondOperands a_children a_parents a_depths a_pendingNodes a_summaries a_nextSummaries a_nodeTypes a_paramsAfter a_params a_values a_arguments a_frameSlots a_frameNodes : Nat → Int32) (t fr r : Nat) (v : Int32) (m : Nat) (Z : Nat → Nat → Int32) : Prop :=
  ∀ t' fuel, t = t' + 1 → t ≤ 1000000 → 1000000 < t + fuel → wpX_finishNode (xq_k post t' fuel) (f_slotCount, f_capacity, f_nodesUsed, f_buildingSlot, f_pendingCount, f_summariesCurrent, nI (fr + 1), nI m, -1, 0, a_slotStates, a_slotArities, a_slotStarts, a_slotSizes, a_kinds, a_firstOperands, a_secondOperands, a_children, a_parents, a_depths, a_pendingNodes, a_summaries, a_nextSummaries, a_nodeTypes, a_paramsAfter, a_params, Z 0, Z 1, Z 2, Z 3) (nI fr) (nI r) v
def xq_E (post : Int32 → St2 → Prop) (f_slotCount f_capacity f_nodesUsed f_buildingSlot f_pendingCount f_summariesCurrent f_callsActive f_callsMade f_runOutcome f_runValue : Int32) (a_slotStates a_slotArities a_slotStarts a_slotSizes a_kinds a_firstOperands a_secondOperands a_children a_parents a_depths a_pendingNodes a_summaries a_nextSummaries a_nodeTypes a_paramsAfter a_params a_values a_arguments a_frameSlots a_frameNodes : Nat → Int32) (o : Int32) : Prop :=
  ∀ (ca cm : Int32) (V AR FS FN : Nat → Int32), post o (f_slotCount, f_capacity, f_nodesUsed, f_buildingSlot, f_pendingCount, f_summariesCurrent, ca, cm, o, 0, a_slotStates, a_slotArities, a_slotStarts, a_slotSizes, a_kinds, a_firstOperands, a_secondOperands, a_children, a_parents, a_depths, a_pendingNodes, a_summaries, a_nextSummaries, a_nodeTypes, a_paramsAfter, a_params, V, AR, FS, FN)
section
variable {f_slotCount f_capacity f_nodesUsed f_buildingSlot f_pendingCount f_summariesCurrent f_callsActive f_callsMade f_runOutcome f_runValue : Int32} {a_slotStates a_slotArities a_slotStarts a_slotSizes a_kinds a_firstOperands a_secondOperands a_children a_parents a_depths a_pendingNodes a_summaries a_nextSummaries a_nodeTypes a_paramsAfter a_params a_values a_arguments a_frameSlots a_frameNodes : Nat → Int32} {post : Int32 → St2 → Prop}
theorem xq_end {o : Int32} {t fuel : Nat} {ca cm : Int32} {V AR FS FN : Nat → Int32} (ho : o ≠ -1) (h : xq_E post f_slotCount f_capacity f_nodesUsed f_buildingSlot f_pendingCount f_summariesCurrent f_callsActive f_callsMade f_runOutcome f_runValue a_slotStates a_slotArities a_slotStarts a_slotSizes a_kinds a_firstOperands a_secondOperands a_children a_parents a_depths a_pendingNodes a_summaries a_nextSummaries a_nodeTypes a_paramsAfter a_params a_values a_arguments a_frameSlots a_frameNodes o) (hf : 0 < fuel) : xq_k post t fuel (f_slotCount, f_capacity, f_nodesUsed, f_buildingSlot, f_pendingCount, f_summariesCurrent, ca, cm, o, 0, a_slotStates, a_slotArities, a_slotStarts, a_slotSizes, a_kinds, a_firstOperands, a_secondOperands, a_children, a_parents, a_depths, a_pendingNodes, a_summaries, a_nextSummaries, a_nodeTypes, a_paramsAfter, a_params, V, AR, FS, FN) := by
  obtain ⟨fuel, rfl⟩ : ∃ m, fuel = m + 1 := ⟨fuel - 1, by omega⟩
  intro x _
  exact br_c (fun _ => h _ _ _ _ _ _) (fun _ => br_f ho (h _ _ _ _ _ _))
section
variable {N k n S : Nat} {K A B : Nat → Int32}
theorem xv_child {Q : Int32 → Prop} (hB : rl_body N k n S K A B a_kinds a_firstOperands a_secondOperands a_children a_parents a_depths) {i j fr : Nat} (hi : i < n) (hj : j < rl_c K B i) (hf : fr < 16) (H : Q (a_values (fr * 128 + (S + bs_ch (rl_c K B) i j)))) : wpX_childValue Q (f_slotCount, f_capacity, f_nodesUsed, f_buildingSlot, f_pendingCount, f_summariesCurrent, f_callsActive, f_callsMade, f_runOutcome, f_runValue, a_slotStates, a_slotArities, a_slotStarts, a_slotSizes, a_kinds, a_firstOperands, a_secondOperands, a_children, a_parents, a_depths, a_pendingNodes, a_summaries, a_nextSummaries, a_nodeTypes, a_paramsAfter, a_params, a_values, a_arguments, a_frameSlots, a_frameNodes) (nI fr) (nI (S + i)) (nI j) := by
  obtain ⟨w, cl, r, l⟩ := xc_child hB hi hj
  have hS := hB.1
  unfold wpX_childValue
  dsimp only
  rw [xc_3, nI_add, cl, r, show (128 : Int32) = nI 128 by decide, pk_mul, nI_add, nI_clamp (n := fr * 128 + (S + bs_ch (rl_c K B) i j)) (by omega)]
  exact ⟨w, vp_in_nI (by omega) (by omega), H⟩
theorem xv_leaf {Q : Int32 → Prop} (hB : rl_body N k n S K A B a_kinds a_firstOperands a_secondOperands a_children a_parents a_depths) (hk : k ≤ 2) {i fr : Nat} (hi : i < n) (hf : fr < 16) (h : K i = 0 ∨ K i = 1 ∨ K i = 2)
    (H : Q (if K i = 0 then A i else if K i = 1 then 1000 + A i else if A i = 0 then a_arguments (fr * 2) else a_arguments (fr * 2 + 1))) : wpX_evaluate Q (f_slotCount, f_capacity, f_nodesUsed, f_buildingSlot, f_pendingCount, f_summariesCurrent, f_callsActive, f_callsMade, f_runOutcome, f_runValue, a_slotStates, a_slotArities, a_slotStarts, a_slotSizes, a_kinds, a_firstOperands, a_secondOperands, a_children, a_parents, a_depths, a_pendingNodes, a_summaries, a_nextSummaries, a_nodeTypes, a_paramsAfter, a_params, a_values, a_arguments, a_frameSlots, a_frameNodes) (nI fr) (nI (S + i)) := by
  obtain ⟨w, cl, rk, ra, rb⟩ := xc_row hB hi
  unfold wpX_evaluate
  dsimp only
  rw [cl, ra, rk]
  rcases h with h | h | h
  · rw [if_pos h] at H
    rw [h]
    exact ⟨w, nm_e (br_f (by decide) (br_f (by decide) (br_t rfl ⟨w, H⟩)))⟩
  · rw [if_neg (by rw [h]; decide), if_pos h] at H
    rw [h]
    exact ⟨w, nm_e (br_f (by decide) (br_f (by decide) (br_f (by decide) (br_t rfl ⟨w, H⟩))))⟩
  · rw [if_neg (by rw [h]; decide), if_neg (by rw [h]; decide)] at H
    obtain ⟨j, hj, ej⟩ := (hB.2.1.1 i hi).2.2.2.1 h
    have jj : j = 0 ∨ j = 1 := by omega
    rw [h, ej, xc_2, nI_add, nI_clamp (n := fr * 2 + j) (by omega)]
    refine ⟨w, nm_e (br_f (by decide) (br_f (by decide) (br_f (by decide) (br_f (by decide) (br_t rfl ⟨w, vp_in_nI (by omega) (by omega), ?_⟩)))))⟩
    rw [ej] at H
    rcases jj with rfl | rfl
    · rw [if_pos nI_0] at H; exact H
    · rw [if_neg (by decide)] at H; exact H
theorem rn_int {v : Int32} (h : rn_ok v) : (-99 ≤ v.toInt ∧ v.toInt ≤ 99) ↔ ¬ 1000 ≤ v := by
  rw [Int32.le_iff_toInt_le, ty_k0]
  rcases h with h | h <;> omega
theorem xv_110 {Q : Int32 → Prop} {z : Int32} (h1 : ¬ z < -99 → ¬ 99 < z → Q z) (h0 : z < -99 ∨ 99 < z → Q 2000) : wX_evaluatePair_110 Q z f_slotCount f_capacity f_nodesUsed f_buildingSlot f_pendingCount f_summariesCurrent f_callsActive f_callsMade f_runOutcome f_runValue a_slotStates a_slotArities a_slotStarts a_slotSizes a_kinds a_firstOperands a_secondOperands a_children a_parents a_depths a_pendingNodes a_summaries a_nextSummaries a_nodeTypes a_paramsAfter a_params a_values a_arguments a_frameSlots a_frameNodes := by
  unfold wX_evaluatePair_110
  refine xt_isInt (fun a b => br_f (by decide) (h1 ?_ ?_)) (fun n => br_t rfl (h0 ?_))
  · rw [Int32.lt_iff_toInt_lt, ty_m99]; omega
  · rw [Int32.lt_iff_toInt_lt, ty_p99]; omega
  · rw [Int32.lt_iff_toInt_lt, ty_m99, Int32.lt_iff_toInt_lt, ty_p99]; omega
theorem xv_pair {Q : Int32 → Prop} (hB : rl_body N k n S K A B a_kinds a_firstOperands a_secondOperands a_children a_parents a_depths) {i fr m : Nat} (hi : i < n) (hf : fr < 16) (h : K i = 3 ∨ K i = 4 ∨ K i = 5 ∨ K i = 6) (hc : rl_c K B i = 2) {v w : Int32} (ov : rn_ok v) (ow : rn_ok w)
    (hv : a_values (fr * 128 + (S + bs_ch (rl_c K B) i 0)) = v) (hw : a_values (fr * 128 + (S + bs_ch (rl_c K B) i 1)) = w)
    (H1 : (rn_op (K i) v w m).1 = -1 → Q (rn_op (K i) v w m).2.1) (H0 : (rn_op (K i) v w m).1 ≠ -1 → Q 2000) : wpX_evaluate Q (f_slotCount, f_capacity, f_nodesUsed, f_buildingSlot, f_pendingCount, f_summariesCurrent, f_callsActive, f_callsMade, f_runOutcome, f_runValue, a_slotStates, a_slotArities, a_slotStarts, a_slotSizes, a_kinds, a_firstOperands, a_secondOperands, a_children, a_parents, a_depths, a_pendingNodes, a_summaries, a_nextSummaries, a_nodeTypes, a_paramsAfter, a_params, a_values, a_arguments, a_frameSlots, a_frameNodes) (nI fr) (nI (S + i)) := by
  obtain ⟨wr, cl, rk, ra, rb⟩ := xc_row hB hi
  have iv := rn_int ov
  have iw := rn_int ow
  have pair : wpX_evaluatePair Q (f_slotCount, f_capacity, f_nodesUsed, f_buildingSlot, f_pendingCount, f_summariesCurrent, f_callsActive, f_callsMade, f_runOutcome, f_runValue, a_slotStates, a_slotArities, a_slotStarts, a_slotSizes, a_kinds, a_firstOperands, a_secondOperands, a_children, a_parents, a_depths, a_pendingNodes, a_summaries, a_nextSummaries, a_nodeTypes, a_paramsAfter, a_params, a_values, a_arguments, a_frameSlots, a_frameNodes) (nI fr) (nI (S + i)) := by
    unfold wpX_evaluatePair
    dsimp only
    refine xv_child (j := 0) hB hi (by omega) hf ?_
    refine xv_child (j := 1) hB hi (by omega) hf ?_
    rw [hv, hw, cl, rk]
    refine ⟨wr, ?_⟩
    unfold rn_op at H1 H0
    by_cases k6 : K i = 6
    · rw [if_pos k6] at H1
      refine br_t k6 ?_
      by_cases e : v = w
      · rw [if_pos e] at H1; exact br_t e (H1 rfl)
      · rw [if_neg e] at H1; exact br_f e (H1 rfl)
    · rw [if_neg k6] at H1 H0
      refine br_f k6 ?_
      refine xt_isInt (fun a b => br_f (by decide) ?_) (fun nn => br_t rfl ?_)
      · rw [if_neg (iv.mp ⟨a, b⟩)] at H1 H0
        refine xt_isInt (fun a b => br_f (by decide) ⟨wr, ?_⟩) (fun nn => br_t rfl ?_)
        · rw [if_neg (iw.mp ⟨a, b⟩)] at H1 H0
          by_cases k5 : K i = 5
          · rw [if_pos k5] at H1
            refine br_t k5 ?_
            by_cases e : w ≤ v
            · rw [if_neg (Int32.not_lt.mpr e)] at H1; exact br_t e (H1 rfl)
            · rw [if_pos (Int32.not_le.mp e)] at H1; exact br_f e (H1 rfl)
          · rw [if_neg k5] at H1 H0
            refine br_f k5 ⟨wr, ?_⟩
            have fin : ∀ z : Int32, z = rn_ar (K i) v w → wX_evaluatePair_110 Q z f_slotCount f_capacity f_nodesUsed f_buildingSlot f_pendingCount f_summariesCurrent f_callsActive f_callsMade f_runOutcome f_runValue a_slotStates a_slotArities a_slotStarts a_slotSizes a_kinds a_firstOperands a_secondOperands a_children a_parents a_depths a_pendingNodes a_summaries a_nextSummaries a_nodeTypes a_paramsAfter a_params a_values a_arguments a_frameSlots a_frameNodes := by
              intro z ez
              rw [← ez] at H1 H0
              refine xv_110 (fun a b => ?_) (fun o => ?_)
              · rw [if_neg a, if_neg b] at H1; exact H1 rfl
              · by_cases a : z < -99
                · rw [if_pos a] at H0; exact H0 (rn_n1 _ _)
                · rw [if_neg a, if_pos (o.resolve_left a)] at H0; exact H0 (rn_n1 _ _)
            by_cases k3 : K i = 3
            · exact br_t k3 (fin _ (by unfold rn_ar; rw [if_pos k3]))
            · exact br_f k3 (fin _ (by unfold rn_ar; rw [if_neg k3]))
        · have nw : 1000 ≤ w := Classical.byContradiction fun z => nn (iw.mpr z)
          rw [if_pos nw] at H0
          exact H0 (rn_n1 _ _)
      · have nv : 1000 ≤ v := Classical.byContradiction fun z => nn (iv.mpr z)
        rw [if_pos nv] at H0
        exact H0 (rn_n1 _ _)
  have pair' : wX_evaluate_104 Q (nI fr) (nI (S + i)) f_slotCount f_capacity f_nodesUsed f_buildingSlot f_pendingCount f_summariesCurrent f_callsActive f_callsMade f_runOutcome f_runValue a_slotStates a_slotArities a_slotStarts a_slotSizes a_kinds a_firstOperands a_secondOperands a_children a_parents a_depths a_pendingNodes a_summaries a_nextSummaries a_nodeTypes a_paramsAfter a_params a_values a_arguments a_frameSlots a_frameNodes := pair
  unfold wpX_evaluate
  dsimp only
  rw [cl, rk]
  rcases h with h | h | h | h <;> rw [h]
  · exact ⟨wr, nm_e (br_f (by decide) (br_f (by decide) (br_f (by decide) (br_f (by decide) (br_f (by decide) (br_t rfl pair'))))))⟩
  · exact ⟨wr, nm_e (br_f (by decide) (br_f (by decide) (br_f (by decide) (br_f (by decide) (br_f (by decide) (br_f (by decide) (br_t rfl pair')))))))⟩
  · exact ⟨wr, nm_e (br_f (by decide) (br_f (by decide) (br_f (by decide) (br_f (by decide) (br_f (by decide) (br_f (by decide) (br_f (by decide) (br_t rfl pair'))))))))⟩
  · exact ⟨wr, nm_e (br_f (by decide) (br_f (by decide) (br_f (by decide) (br_f (by decide) (br_f (by decide) (br_f (by decide) (br_f (by decide) (br_f (by decide) (br_t rfl pair')))))))))⟩
theorem xv_isi {Q : Int32 → Prop} (hB : rl_body N k n S K A B a_kinds a_firstOperands a_secondOperands a_children a_parents a_depths) {i fr : Nat} (hi : i < n) (hf : fr < 16) (h : K i = 7) {v : Int32} (ov : rn_ok v) (hv : a_values (fr * 128 + (S + bs_ch (rl_c K B) i 0)) = v)
    (H : Q (if v < 1000 then 1001 else 1000)) : wpX_evaluate Q (f_slotCount, f_capacity, f_nodesUsed, f_buildingSlot, f_pendingCount, f_summariesCurrent, f_callsActive, f_callsMade, f_runOutcome, f_runValue, a_slotStates, a_slotArities, a_slotStarts, a_slotSizes, a_kinds, a_firstOperands, a_secondOperands, a_children, a_parents, a_depths, a_pendingNodes, a_summaries, a_nextSummaries, a_nodeTypes, a_paramsAfter, a_params, a_values, a_arguments, a_frameSlots, a_frameNodes) (nI fr) (nI (S + i)) := by
  obtain ⟨wr, cl, rk, ra, rb⟩ := xc_row hB hi
  have c1 := ab_c7 hB.2.1 h
  have iv := rn_int ov
  unfold wpX_evaluate
  dsimp only
  rw [cl, rk, h]
  refine ⟨wr, nm_e (br_f (by decide) (br_f (by decide) (br_f (by decide) (br_f (by decide) (br_f (by decide) (br_f (by decide) (br_f (by decide) (br_f (by decide) (br_f (by decide) (br_t rfl ?_))))))))))⟩
  unfold wpX_evaluateIsInt
  dsimp only
  refine xv_child (j := 0) hB hi (by omega) hf ?_
  rw [hv]
  refine xt_isInt (fun a b => br_f (by decide) ?_) (fun nn => br_t rfl ?_)
  · rw [if_pos (Int32.not_le.mp (iv.mp ⟨a, b⟩))] at H; exact H
  · rw [if_neg (fun z => nn (iv.mpr (Int32.not_le.mpr z)))] at H; exact H
theorem xv_if {Q : Int32 → Prop} (hB : rl_body N k n S K A B a_kinds a_firstOperands a_secondOperands a_children a_parents a_depths) {i fr : Nat} (hi : i < n) (hf : fr < 16) (h : K i = 8)
    (H : Q (if a_values (fr * 128 + (S + bs_ch (rl_c K B) i 0)) = 1001 then a_values (fr * 128 + (S + bs_ch (rl_c K B) i 1)) else a_values (fr * 128 + (S + bs_ch (rl_c K B) i 2)))) : wpX_evaluate Q (f_slotCount, f_capacity, f_nodesUsed, f_buildingSlot, f_pendingCount, f_summariesCurrent, f_callsActive, f_callsMade, f_runOutcome, f_runValue, a_slotStates, a_slotArities, a_slotStarts, a_slotSizes, a_kinds, a_firstOperands, a_secondOperands, a_children, a_parents, a_depths, a_pendingNodes, a_summaries, a_nextSummaries, a_nodeTypes, a_paramsAfter, a_params, a_values, a_arguments, a_frameSlots, a_frameNodes) (nI fr) (nI (S + i)) := by
  obtain ⟨wr, cl, rk, ra, rb⟩ := xc_row hB hi
  have c3 := ab_c8 hB.2.1 h
  unfold wpX_evaluate
  dsimp only
  rw [cl, rk, h]
  refine ⟨wr, nm_e (br_f (by decide) (br_f (by decide) (br_f (by decide) (br_f (by decide) (br_f (by decide) (br_f (by decide) (br_f (by decide) (br_f (by decide) (br_f (by decide) (br_f (by decide) (br_t rfl ?_)))))))))))⟩
  unfold wpX_evaluateIf
  dsimp only
  refine xv_child (j := 0) hB hi (by omega) hf ?_
  by_cases c : a_values (fr * 128 + (S + bs_ch (rl_c K B) i 0)) = 1001
  · rw [if_pos c] at H
    exact br_t c (xv_child (j := 1) hB hi (by omega) hf H)
  · rw [if_neg c] at H
    exact br_f c (xv_child (j := 2) hB hi (by omega) hf H)
end
end

def xs_z (a b c : Nat → Int32) : Nat → Nat → Int32 := fun q => match q with
  | 0 => a
  | 1 => b
  | _ => c
def xs_k (post : St2 → Prop) (x1 x2 : Int32) (E fuel r : Nat) : St2 → Prop := fun u => match u with
  | (f_slotCount, f_capacity, f_nodesUsed, f_buildingSlot, f_pendingCount, f_summariesCurrent, f_callsActive, f_callsMade, f_runOutcome, f_runValue, a_slotStates, a_slotArities, a_slotStarts, a_slotSizes, a_kinds, a_firstOperands, a_secondOperands, a_children, a_parents, a_depths, a_pendingNodes, a_summaries, a_nextSummaries, a_nodeTypes, a_paramsAfter, a_params, a_values, a_arguments, a_frameSlots, a_frameNodes) => ∀ x4 : Int32, x4 = nI r + 1 → wX_inferSlot_80 post x1 x2 (nI E) fuel x4 f_slotCount f_capacity f_nodesUsed f_buildingSlot f_pendingCount f_summariesCurrent f_callsActive f_callsMade f_runOutcome f_runValue a_slotStates a_slotArities a_slotStarts a_slotSizes a_kinds a_firstOperands a_secondOperands a_children a_parents a_depths a_pendingNodes a_summaries a_nextSummaries a_nodeTypes a_paramsAfter a_params a_values a_arguments a_frameSlots a_frameNodes
def xs_A (post : St2 → Prop) (x1 x2 : Int32) (E : Nat) (f_slotCount f_capacity f_nodesUsed f_buildingSlot f_pendingCount f_summariesCurrent f_callsActive f_callsMade f_runOutcome f_runValue : Int32) (a_slotStates a_slotArities a_slotStarts a_slotSizes a_kinds a_firstOperands a_secondOperands a_children a_parents a_depths a_pendingNodes a_summaries a_nextSummaries a_nodeTypes a_paramsAfter a_params a_values a_arguments a_frameSlots a_frameNodes : Nat → Int32) (r : Nat) (Z : Nat → Nat → Int32) : Prop :=
  ∀ fuel, E < r + fuel → wX_inferSlot_80 post x1 x2 (nI E) fuel (nI r) f_slotCount f_capacity f_nodesUsed f_buildingSlot f_pendingCount f_summariesCurrent f_callsActive f_callsMade f_runOutcome f_runValue a_slotStates a_slotArities a_slotStarts a_slotSizes a_kinds a_firstOperands a_secondOperands a_children a_parents a_depths a_pendingNodes a_summaries a_nextSummaries (Z 0) (Z 1) (Z 2) a_values a_arguments a_frameSlots a_frameNodes
def xs_T (post : St2 → Prop) (x1 x2 : Int32) (E : Nat) (f_slotCount f_capacity f_nodesUsed f_buildingSlot f_pendingCount f_summariesCurrent f_callsActive f_callsMade f_runOutcome f_runValue : Int32) (a_slotStates a_slotArities a_slotStarts a_slotSizes a_kinds a_firstOperands a_secondOperands a_children a_parents a_depths a_pendingNodes a_summaries a_nextSummaries a_nodeTypes a_paramsAfter a_params a_values a_arguments a_frameSlots a_frameNodes : Nat → Int32) (r : Nat) (Z : Nat → Nat → Int32) : Prop :=
  ∀ fuel, E < r + 1 + fuel → wpX_turnAtBranch (xs_k post x1 x2 E fuel r) (f_slotCount, f_capacity, f_nodesUsed, f_buildingSlot, f_pendingCount, f_summariesCurrent, f_callsActive, f_callsMade, f_runOutcome, f_runValue, a_slotStates, a_slotArities, a_slotStarts, a_slotSizes, a_kinds, a_firstOperands, a_secondOperands, a_children, a_parents, a_depths, a_pendingNodes, a_summaries, a_nextSummaries, Z 0, Z 1, Z 2, a_values, a_arguments, a_frameSlots, a_frameNodes) (nI r)
section
variable {f_slotCount f_capacity f_nodesUsed f_buildingSlot f_pendingCount f_summariesCurrent f_callsActive f_callsMade f_runOutcome f_runValue : Int32} {a_slotStates a_slotArities a_slotStarts a_slotSizes a_kinds a_firstOperands a_secondOperands a_children a_parents a_depths a_pendingNodes a_summaries a_nextSummaries a_nodeTypes a_paramsAfter a_params a_values a_arguments a_frameSlots a_frameNodes : Nat → Int32} {N k n S : Nat} {K A B : Nat → Int32} {post : St2 → Prop} {x1 x2 : Int32}
theorem xs_go {E i fuel : Nat} {Z : Nat → Nat → Int32} {P : Nat → Int32} {r : ty_T} {e : ab_E} {o : ab_O} (hr : S + i < 128) (c : xa_c S (xs_T post x1 x2 E f_slotCount f_capacity f_nodesUsed f_buildingSlot f_pendingCount f_summariesCurrent f_callsActive f_callsMade f_runOutcome f_runValue a_slotStates a_slotArities a_slotStarts a_slotSizes a_kinds a_firstOperands a_secondOperands a_children a_parents a_depths a_pendingNodes a_summaries a_nextSummaries a_nodeTypes a_paramsAfter a_params a_values a_arguments a_frameSlots a_frameNodes) Z i o) (ho : xc_o r e o) (p0 : P 0 = ty_x e.1) (p1 : P 1 = ty_x e.2) (hf : E < S + i + 1 + fuel) :
    wpX_keepOutcome (fun u => match u with | (f_slotCount, f_capacity, f_nodesUsed, f_buildingSlot, f_pendingCount, f_summariesCurrent, f_callsActive, f_callsMade, f_runOutcome, f_runValue, a_slotStates, a_slotArities, a_slotStarts, a_slotSizes, a_kinds, a_firstOperands, a_secondOperands, a_children, a_parents, a_depths, a_pendingNodes, a_summaries, a_nextSummaries, a_nodeTypes, a_paramsAfter, a_params, a_values, a_arguments, a_frameSlots, a_frameNodes) => wpX_turnAtBranch (xs_k post x1 x2 E fuel (S + i)) (f_slotCount, f_capacity, f_nodesUsed, f_buildingSlot, f_pendingCount, f_summariesCurrent, f_callsActive, f_callsMade, f_runOutcome, f_runValue, a_slotStates, a_slotArities, a_slotStarts, a_slotSizes, a_kinds, a_firstOperands, a_secondOperands, a_children, a_parents, a_depths, a_pendingNodes, a_summaries, a_nextSummaries, a_nodeTypes, a_paramsAfter, a_params, a_values, a_arguments, a_frameSlots, a_frameNodes) (nI (S + i))) (f_slotCount, f_capacity, f_nodesUsed, f_buildingSlot, f_pendingCount, f_summariesCurrent, f_callsActive, f_callsMade, f_runOutcome, f_runValue, a_slotStates, a_slotArities, a_slotStarts, a_slotSizes, a_kinds, a_firstOperands, a_secondOperands, a_children, a_parents, a_depths, a_pendingNodes, a_summaries, a_nextSummaries, Z 0, Z 1, P, a_values, a_arguments, a_frameSlots, a_frameNodes) (nI (S + i)) (ty_x r) := by
  refine xc_keep hr ho p0 p1 fun P' q0 q1 => ?_
  refine c (xs_z (upd (Z 0) (S + i) (ty_x (xa_ty o))) (upd (upd (Z 1) ((S + i) * 2) (ty_x (xa_en o).1)) ((S + i) * 2 + 1) (ty_x (xa_en o).2)) P') ⟨fun j hj => ?_, fun j hj => ?_⟩ ⟨?_, ?_, ?_⟩ ⟨q0, q1⟩ fuel hf
  · exact pk_un (by omega)
  · show upd (upd (Z 1) _ _) _ _ j = Z 1 j
    rw [pk_un (by omega), pk_un (by omega)]
  · exact pk_us
  · show upd (upd (Z 1) _ _) _ _ _ = _
    rw [pk_un (by omega), pk_us]
  · exact pk_us
theorem xs_X1 (hB : rl_body N k n S K A B a_kinds a_firstOperands a_secondOperands a_children a_parents a_depths) (hk : k ≤ 2) : xa_X1 n S K A (xs_A post x1 x2 (S + n) f_slotCount f_capacity f_nodesUsed f_buildingSlot f_pendingCount f_summariesCurrent f_callsActive f_callsMade f_runOutcome f_runValue a_slotStates a_slotArities a_slotStarts a_slotSizes a_kinds a_firstOperands a_secondOperands a_children a_parents a_depths a_pendingNodes a_summaries a_nextSummaries a_nodeTypes a_paramsAfter a_params a_values a_arguments a_frameSlots a_frameNodes) (xs_T post x1 x2 (S + n) f_slotCount f_capacity f_nodesUsed f_buildingSlot f_pendingCount f_summariesCurrent f_callsActive f_callsMade f_runOutcome f_runValue a_slotStates a_slotArities a_slotStarts a_slotSizes a_kinds a_firstOperands a_secondOperands a_children a_parents a_depths a_pendingNodes a_summaries a_nextSummaries a_nodeTypes a_paramsAfter a_params a_values a_arguments a_frameSlots a_frameNodes) := by
  intro i e Z hi h he cu c fuel hf
  have hS := hB.1
  obtain ⟨fuel, rfl⟩ : ∃ m, fuel = m + 1 := ⟨fuel - 1, by omega⟩
  refine br_f (nI_ge (by omega) (by omega)) ?_
  exact xc_n_lf hB hk hi h he cu.1 cu.2 fun P r e' ho p0 p1 => xs_go (by omega) c ho p0 p1 (by omega)
theorem xs_X2 (hB : rl_body N k n S K A B a_kinds a_firstOperands a_secondOperands a_children a_parents a_depths) (hk : k ≤ 2) : xa_X2 n S K A (rl_c K B) (xs_A post x1 x2 (S + n) f_slotCount f_capacity f_nodesUsed f_buildingSlot f_pendingCount f_summariesCurrent f_callsActive f_callsMade f_runOutcome f_runValue a_slotStates a_slotArities a_slotStarts a_slotSizes a_kinds a_firstOperands a_secondOperands a_children a_parents a_depths a_pendingNodes a_summaries a_nextSummaries a_nodeTypes a_paramsAfter a_params a_values a_arguments a_frameSlots a_frameNodes) (xs_T post x1 x2 (S + n) f_slotCount f_capacity f_nodesUsed f_buildingSlot f_pendingCount f_summariesCurrent f_callsActive f_callsMade f_runOutcome f_runValue a_slotStates a_slotArities a_slotStarts a_slotSizes a_kinds a_firstOperands a_secondOperands a_children a_parents a_depths a_pendingNodes a_summaries a_nextSummaries a_nodeTypes a_paramsAfter a_params a_values a_arguments a_frameSlots a_frameNodes) := by
  intro i x y e Z hi h ox oy he cu hx hy c fuel hf
  have hS := hB.1
  have hc : rl_c K B i = 2 := by
    show bs_cc (K i) (B i) = 2
    rcases h with h | h | h | h <;> rw [h]
    · exact bs_cc3 _
    · exact bs_cc4 _
    · exact bs_cc5 _
    · exact bs_cc6 _
  obtain ⟨fuel, rfl⟩ : ∃ m, fuel = m + 1 := ⟨fuel - 1, by omega⟩
  refine br_f (nI_ge (by omega) (by omega)) ?_
  exact xc_n_op hB hk hi h hc ox oy he hx hy cu.1 cu.2 fun P r e' ho p0 p1 => xs_go (by omega) c ho p0 p1 (by omega)
theorem xs_X3 (hB : rl_body N k n S K A B a_kinds a_firstOperands a_secondOperands a_children a_parents a_depths) : xa_X3 n S K (rl_c K B) (xs_A post x1 x2 (S + n) f_slotCount f_capacity f_nodesUsed f_buildingSlot f_pendingCount f_summariesCurrent f_callsActive f_callsMade f_runOutcome f_runValue a_slotStates a_slotArities a_slotStarts a_slotSizes a_kinds a_firstOperands a_secondOperands a_children a_parents a_depths a_pendingNodes a_summaries a_nextSummaries a_nodeTypes a_paramsAfter a_params a_values a_arguments a_frameSlots a_frameNodes) (xs_T post x1 x2 (S + n) f_slotCount f_capacity f_nodesUsed f_buildingSlot f_pendingCount f_summariesCurrent f_callsActive f_callsMade f_runOutcome f_runValue a_slotStates a_slotArities a_slotStarts a_slotSizes a_kinds a_firstOperands a_secondOperands a_children a_parents a_depths a_pendingNodes a_summaries a_nextSummaries a_nodeTypes a_paramsAfter a_params a_values a_arguments a_frameSlots a_frameNodes) := by
  intro i x e Z hi h ox he cu hx c fuel hf
  have hS := hB.1
  obtain ⟨fuel, rfl⟩ : ∃ m, fuel = m + 1 := ⟨fuel - 1, by omega⟩
  refine br_f (nI_ge (by omega) (by omega)) ?_
  exact xc_n_isi hB hi h (ab_c7 hB.2.1 h) ox he hx cu.1 cu.2 fun P r e' ho p0 p1 => xs_go (by omega) c ho p0 p1 (by omega)
theorem xs_X4 (hB : rl_body N k n S K A B a_kinds a_firstOperands a_secondOperands a_children a_parents a_depths) : xa_X4 k n S K (rl_c K B) (xs_A post x1 x2 (S + n) f_slotCount f_capacity f_nodesUsed f_buildingSlot f_pendingCount f_summariesCurrent f_callsActive f_callsMade f_runOutcome f_runValue a_slotStates a_slotArities a_slotStarts a_slotSizes a_kinds a_firstOperands a_secondOperands a_children a_parents a_depths a_pendingNodes a_summaries a_nextSummaries a_nodeTypes a_paramsAfter a_params a_values a_arguments a_frameSlots a_frameNodes) (xs_T post x1 x2 (S + n) f_slotCount f_capacity f_nodesUsed f_buildingSlot f_pendingCount f_summariesCurrent f_callsActive f_callsMade f_runOutcome f_runValue a_slotStates a_slotArities a_slotStarts a_slotSizes a_kinds a_firstOperands a_secondOperands a_children a_parents a_depths a_pendingNodes a_summaries a_nextSummaries a_nodeTypes a_paramsAfter a_params a_values a_arguments a_frameSlots a_frameNodes) := by
  intro i o o' Z hi h po po' s1 s2 c fuel hf
  have hS := hB.1
  obtain ⟨fuel, rfl⟩ : ∃ m, fuel = m + 1 := ⟨fuel - 1, by omega⟩
  refine br_f (nI_ge (by omega) (by omega)) ?_
  exact xc_n_if hB hi h (ab_c8 hB.2.1 h) po po' s1.1 s2.1 s1.2.1 s1.2.2 s2.2.1 s2.2.2 fun P r e' ho p0 p1 => xs_go (by omega) c ho p0 p1 (by omega)
theorem xs_call {tb : Nat → ty_T} (hB : rl_body N k n S K A B a_kinds a_firstOperands a_secondOperands a_children a_parents a_depths) (hk : k ≤ 2) (hN : N ≤ 8) (hT : ∀ q, ty_ok (tb q)) (hs : ∀ q, q < 24 → a_summaries q = ty_x (tb q))
    {i : Nat} {x y : ty_T} {e : ab_E} {Z : Nat → Nat → Int32} {o : ab_O} (hi : i < n) (h : K i = 9) (ox : ty_ok x) (oy : ty_ok y) (he : xa_e e) (cu : xa_cu Z e)
    (hx : 1 ≤ rl_c K B i → Z 0 (S + bs_ch (rl_c K B) i 0) = ty_x x) (hy : 2 ≤ rl_c K B i → Z 0 (S + bs_ch (rl_c K B) i 1) = ty_x y)
    (ho : o = if B i = 0 then ab_cl0 A B a_slotStates a_slotArities tb i e else if B i = 1 then ab_cl1 K A B a_slotStates a_slotArities (rl_c K B) tb i x e else ab_cl2 K A B a_slotStates a_slotArities (rl_c K B) tb i x y e)
    (c : xa_c S (xs_T post x1 x2 (S + n) f_slotCount f_capacity f_nodesUsed f_buildingSlot f_pendingCount f_summariesCurrent f_callsActive f_callsMade f_runOutcome f_runValue a_slotStates a_slotArities a_slotStarts a_slotSizes a_kinds a_firstOperands a_secondOperands a_children a_parents a_depths a_pendingNodes a_summaries a_nextSummaries a_nodeTypes a_paramsAfter a_params a_values a_arguments a_frameSlots a_frameNodes) Z i o) : xs_A post x1 x2 (S + n) f_slotCount f_capacity f_nodesUsed f_buildingSlot f_pendingCount f_summariesCurrent f_callsActive f_callsMade f_runOutcome f_runValue a_slotStates a_slotArities a_slotStarts a_slotSizes a_kinds a_firstOperands a_secondOperands a_children a_parents a_depths a_pendingNodes a_summaries a_nextSummaries a_nodeTypes a_paramsAfter a_params a_values a_arguments a_frameSlots a_frameNodes (S + i) Z := by
  intro fuel hf
  have hS := hB.1
  obtain ⟨fuel, rfl⟩ : ∃ m, fuel = m + 1 := ⟨fuel - 1, by omega⟩
  refine br_f (nI_ge (by omega) (by omega)) ?_
  exact xc_n_call hB hk hN hi h ox oy he hT hs cu.1 cu.2 hx hy ho fun P r e' ho p0 p1 => xs_go (by omega) c ho p0 p1 (by omega)
theorem xs_T1 (hB : rl_body N k n S K A B a_kinds a_firstOperands a_secondOperands a_children a_parents a_depths) : xa_T1 n S K (rl_c K B) (xs_A post x1 x2 (S + n) f_slotCount f_capacity f_nodesUsed f_buildingSlot f_pendingCount f_summariesCurrent f_callsActive f_callsMade f_runOutcome f_runValue a_slotStates a_slotArities a_slotStarts a_slotSizes a_kinds a_firstOperands a_secondOperands a_children a_parents a_depths a_pendingNodes a_summaries a_nextSummaries a_nodeTypes a_paramsAfter a_params a_values a_arguments a_frameSlots a_frameNodes) (xs_T post x1 x2 (S + n) f_slotCount f_capacity f_nodesUsed f_buildingSlot f_pendingCount f_summariesCurrent f_callsActive f_callsMade f_runOutcome f_runValue a_slotStates a_slotArities a_slotStarts a_slotSizes a_kinds a_firstOperands a_secondOperands a_children a_parents a_depths a_pendingNodes a_summaries a_nextSummaries a_nodeTypes a_paramsAfter a_params a_values a_arguments a_frameSlots a_frameNodes) := by
  intro i j Z hi hj h8 hA fuel hf
  have c3 : j = 2 ∨ ¬ K i = 8 := by
    by_cases z : K i = 8
    · exact Or.inl (h8 z)
    · exact Or.inr z
  unfold wpX_turnAtBranch
  dsimp only
  refine xc_cond hB hi hj (fun z y => absurd (h8 z) (by omega)) (fun _ => br_t rfl ?_)
  refine xc_then hB hi hj (fun z y => absurd (h8 z) (by omega)) (fun _ => br_t rfl ?_)
  exact nm_r (nI_1 _) (hA fuel (by omega))
theorem xs_T2 (hB : rl_body N k n S K A B a_kinds a_firstOperands a_secondOperands a_children a_parents a_depths) (hk : k ≤ 2) : xa_T2 k n S K A (rl_c K B) (xs_A post x1 x2 (S + n) f_slotCount f_capacity f_nodesUsed f_buildingSlot f_pendingCount f_summariesCurrent f_callsActive f_callsMade f_runOutcome f_runValue a_slotStates a_slotArities a_slotStarts a_slotSizes a_kinds a_firstOperands a_secondOperands a_children a_parents a_depths a_pendingNodes a_summaries a_nextSummaries a_nodeTypes a_paramsAfter a_params a_values a_arguments a_frameSlots a_frameNodes) (xs_T post x1 x2 (S + n) f_slotCount f_capacity f_nodesUsed f_buildingSlot f_pendingCount f_summariesCurrent f_callsActive f_callsMade f_runOutcome f_runValue a_slotStates a_slotArities a_slotStarts a_slotSizes a_kinds a_firstOperands a_secondOperands a_children a_parents a_depths a_pendingNodes a_summaries a_nextSummaries a_nodeTypes a_paramsAfter a_params a_values a_arguments a_frameSlots a_frameNodes) := by
  intro i o Z hi h8 po s hA fuel hf
  have c3 := ab_c8 hB.2.1 h8
  unfold wpX_turnAtBranch
  dsimp only
  rw [xc_ints]
  refine xc_cond hB hi (j := 0) (by omega) (fun _ _ => br_f (by decide) ?_) (fun z => absurd ⟨h8, rfl⟩ z)
  refine xc_enter hB hk hi h8 (t := ty_ints) (β := (xa_ty o).1.testBit 1) ty_ints_ok (xa_eo_e (xa_en_eo po)) (ty_b1 (ty_xn_m (xa_ty_ok po))) s.1 s.2.1 s.2.2 fun P p0 p1 => ?_
  exact nm_r (nI_1 _) (hA (xs_z (Z 0) (Z 1) P) rfl rfl ⟨p0, p1⟩ fuel (by omega))
theorem xs_T3 (hB : rl_body N k n S K A B a_kinds a_firstOperands a_secondOperands a_children a_parents a_depths) (hk : k ≤ 2) : xa_T3 k n S K A (rl_c K B) (xs_A post x1 x2 (S + n) f_slotCount f_capacity f_nodesUsed f_buildingSlot f_pendingCount f_summariesCurrent f_callsActive f_callsMade f_runOutcome f_runValue a_slotStates a_slotArities a_slotStarts a_slotSizes a_kinds a_firstOperands a_secondOperands a_children a_parents a_depths a_pendingNodes a_summaries a_nextSummaries a_nodeTypes a_paramsAfter a_params a_values a_arguments a_frameSlots a_frameNodes) (xs_T post x1 x2 (S + n) f_slotCount f_capacity f_nodesUsed f_buildingSlot f_pendingCount f_summariesCurrent f_callsActive f_callsMade f_runOutcome f_runValue a_slotStates a_slotArities a_slotStarts a_slotSizes a_kinds a_firstOperands a_secondOperands a_children a_parents a_depths a_pendingNodes a_summaries a_nextSummaries a_nodeTypes a_paramsAfter a_params a_values a_arguments a_frameSlots a_frameNodes) := by
  intro i o Z hi h8 po s hA fuel hf
  have c3 := ab_c8 hB.2.1 h8
  obtain ⟨_, _, _, l1⟩ := xc_child hB hi (j := 1) (by omega)
  obtain ⟨wj, clj, _⟩ := xc_row hB l1
  obtain ⟨w0, cl0, r0, _⟩ := xc_child hB hi (j := 0) (by omega)
  obtain ⟨_, _, _, r4, _⟩ := hB.2.2 i hi
  rw [Nat.add_zero] at w0 cl0 r0
  unfold wpX_turnAtBranch
  dsimp only
  rw [xc_ats]
  refine xc_cond hB hi (j := 1) (by omega) (fun _ z => absurd z (by decide)) (fun _ => br_t rfl ?_)
  refine xc_then hB hi (j := 1) (by omega) (fun _ _ => br_f (by decide) ?_) (fun z => absurd ⟨h8, rfl⟩ z)
  rw [clj, (r4 1 (by omega)).2, xc_3, cl0, r0]
  refine ⟨wj, w0, nm_e ?_⟩
  refine xc_enter hB hk hi h8 (t := ty_ats) (β := (xa_ty o).1.testBit 0) ty_ats_ok (xa_eo_e (xa_en_eo po)) (ty_b0 (ty_xn_m (xa_ty_ok po))) s.1 s.2.1 s.2.2 fun P p0 p1 => ?_
  exact nm_r (nI_1 _) (hA (xs_z (Z 0) (Z 1) P) rfl rfl ⟨p0, p1⟩ fuel (by omega))
end

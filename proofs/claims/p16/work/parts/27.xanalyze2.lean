section
variable {f_slotCount f_capacity f_nodesUsed f_buildingSlot f_pendingCount f_summariesCurrent f_callsActive f_callsMade f_runOutcome f_runValue : Int32} {a_slotStates a_slotArities a_slotStarts a_slotSizes a_kinds a_firstOperands a_secondOperands a_children a_parents a_depths a_pendingNodes a_summaries a_nextSummaries a_nodeTypes a_paramsAfter a_params a_values a_arguments a_frameSlots a_frameNodes : Nat → Int32} {N U : Nat} {sz S : Nat → Nat} {szY bk ba bb : Nat → Int32}
theorem xn_25 {post : Int32 → St2 → Prop} {r0 : Nat} (hN : N ≤ 8) (hs : rl_slots N U sz S a_slotStates a_slotArities a_slotSizes szY a_slotStarts bk ba bb a_kinds a_firstOperands a_secondOperands a_children a_parents a_depths)
    (hr : r0 ≤ 1056) (f1 : ∀ q, q < 24 → sp_T N (rl_K bk) (rl_K ba) (rl_K bb) a_slotStates a_slotArities sz (r0 + 1) q = sp_T N (rl_K bk) (rl_K ba) (rl_K bb) a_slotStates a_slotArities sz r0 q) (f2 : ∀ j, j < r0 → ¬ ∀ q, q < 24 → sp_T N (rl_K bk) (rl_K ba) (rl_K bb) a_slotStates a_slotArities sz (j + 1) q = sp_T N (rl_K bk) (rl_K ba) (rl_K bb) a_slotStates a_slotArities sz j q)
    (H : ∀ SU NX NT PA P : Nat → Int32, (∀ q, q < 24 → SU q = ty_x (sp_T N (rl_K bk) (rl_K ba) (rl_K bb) a_slotStates a_slotArities sz (r0 + 1) q)) → (∀ q, 3 * N ≤ q → q < 24 → NX q = 0) → post (nI (an_cnt a_slotStates (sp_T N (rl_K bk) (rl_K ba) (rl_K bb) a_slotStates a_slotArities sz (r0 + 1)) N)) (nI N, f_capacity, f_nodesUsed, f_buildingSlot, f_pendingCount, 1, f_callsActive, f_callsMade, f_runOutcome, f_runValue, a_slotStates, a_slotArities, a_slotStarts, a_slotSizes, a_kinds, a_firstOperands, a_secondOperands, a_children, a_parents, a_depths, a_pendingNodes, SU, NX, NT, PA, P, a_values, a_arguments, a_frameSlots, a_frameNodes)) :
    ∀ d r fuel (SU NX NT PA P : Nat → Int32), r + d = r0 → d + 1 < fuel → (∀ q, q < 24 → SU q = ty_x (sp_T N (rl_K bk) (rl_K ba) (rl_K bb) a_slotStates a_slotArities sz r q)) → (∀ q, 3 * N ≤ q → q < 24 → NX q = 0) →
      wX_analyze_25 post fuel 1 (nI r) (nI N) f_capacity f_nodesUsed f_buildingSlot f_pendingCount f_summariesCurrent f_callsActive f_callsMade f_runOutcome f_runValue a_slotStates a_slotArities a_slotStarts a_slotSizes a_kinds a_firstOperands a_secondOperands a_children a_parents a_depths a_pendingNodes SU NX NT PA P a_values a_arguments a_frameSlots a_frameNodes := by
  intro d
  have ok := sp_T_ok (rl_sp_ok hs)
  have fin : ∀ (r fuel : Nat) (SU NX NT PA P : Nat → Int32), r ≤ 2000 → 0 < fuel → (∀ q, q < 24 → SU q = ty_x (sp_T N (rl_K bk) (rl_K ba) (rl_K bb) a_slotStates a_slotArities sz (r0 + 1) q)) → (∀ q, 3 * N ≤ q → q < 24 → NX q = 0) → wX_analyze_25 post fuel 0 (nI r) (nI N) f_capacity f_nodesUsed f_buildingSlot f_pendingCount f_summariesCurrent f_callsActive f_callsMade f_runOutcome f_runValue a_slotStates a_slotArities a_slotStarts a_slotSizes a_kinds a_firstOperands a_secondOperands a_children a_parents a_depths a_pendingNodes SU NX NT PA P a_values a_arguments a_frameSlots a_frameNodes := by
    intro r fuel SU NX NT PA P hr hf hSU hNX
    obtain ⟨fuel, rfl⟩ : ∃ m, fuel = m + 1 := ⟨fuel - 1, by omega⟩
    refine br_f (nI_ge (b := 1000000) (by omega) (by decide)) (br_t rfl ?_)
    unfold wX_analyze_67
    exact xn_cnt hN (ok (r0 + 1)) hSU (H SU NX NT PA P hSU hNX)
  induction d with
  | zero =>
    intro r fuel SU NX NT PA P h1 h2 hSU hNX
    obtain ⟨fuel, rfl⟩ : ∃ m, fuel = m + 1 := ⟨fuel - 1, by omega⟩
    obtain rfl : r = r0 := by omega
    refine br_f (nI_ge (b := 1000000) (by omega) (by decide)) (br_f (by decide) ⟨N + 1, ?_⟩)
    refine xn_37 hN hs (ok r) hSU (fun e SU' NX' NT' PA' P' s n => ?_) (fun e SU' NX' NT' PA' P' s n => ?_) N 0 (N + 1) NX NT PA P (by omega) (by omega) (fun q hq => absurd hq (by omega)) hNX
    · exact fin (r + 1) fuel SU' NX' NT' PA' P' (by omega) (by omega) s n
    · exact absurd f1 e
  | succ d ih =>
    intro r fuel SU NX NT PA P h1 h2 hSU hNX
    obtain ⟨fuel, rfl⟩ : ∃ m, fuel = m + 1 := ⟨fuel - 1, by omega⟩
    refine br_f (nI_ge (b := 1000000) (by omega) (by decide)) (br_f (by decide) ⟨N + 1, ?_⟩)
    refine xn_37 hN hs (ok r) hSU (fun e SU' NX' NT' PA' P' s n => ?_) (fun e SU' NX' NT' PA' P' s n => ?_) N 0 (N + 1) NX NT PA P (by omega) (by omega) (fun q hq => absurd hq (by omega)) hNX
    · exact absurd e (f2 r (by omega))
    · exact ih (r + 1) fuel SU' NX' NT' PA' P' (by omega) (by omega) s n
theorem xn_analyze {post : Int32 → St2 → Prop} {r0 : Nat} (hN : N ≤ 8) (hs : rl_slots N U sz S a_slotStates a_slotArities a_slotSizes szY a_slotStarts bk ba bb a_kinds a_firstOperands a_secondOperands a_children a_parents a_depths)
    (hNX : ∀ q, 3 * N ≤ q → q < 24 → a_nextSummaries q = 0) (hr : r0 ≤ 1056) (f1 : ∀ q, q < 24 → sp_T N (rl_K bk) (rl_K ba) (rl_K bb) a_slotStates a_slotArities sz (r0 + 1) q = sp_T N (rl_K bk) (rl_K ba) (rl_K bb) a_slotStates a_slotArities sz r0 q) (f2 : ∀ j, j < r0 → ¬ ∀ q, q < 24 → sp_T N (rl_K bk) (rl_K ba) (rl_K bb) a_slotStates a_slotArities sz (j + 1) q = sp_T N (rl_K bk) (rl_K ba) (rl_K bb) a_slotStates a_slotArities sz j q)
    (H : ∀ SU NX NT PA P : Nat → Int32, (∀ q, q < 24 → SU q = ty_x (sp_T N (rl_K bk) (rl_K ba) (rl_K bb) a_slotStates a_slotArities sz (r0 + 1) q)) → (∀ q, 3 * N ≤ q → q < 24 → NX q = 0) → post (nI (an_cnt a_slotStates (sp_T N (rl_K bk) (rl_K ba) (rl_K bb) a_slotStates a_slotArities sz (r0 + 1)) N)) (nI N, f_capacity, f_nodesUsed, f_buildingSlot, f_pendingCount, 1, f_callsActive, f_callsMade, f_runOutcome, f_runValue, a_slotStates, a_slotArities, a_slotStarts, a_slotSizes, a_kinds, a_firstOperands, a_secondOperands, a_children, a_parents, a_depths, a_pendingNodes, SU, NX, NT, PA, P, a_values, a_arguments, a_frameSlots, a_frameNodes)) :
    wpX_analyze post (nI N, f_capacity, f_nodesUsed, f_buildingSlot, f_pendingCount, f_summariesCurrent, f_callsActive, f_callsMade, f_runOutcome, f_runValue, a_slotStates, a_slotArities, a_slotStarts, a_slotSizes, a_kinds, a_firstOperands, a_secondOperands, a_children, a_parents, a_depths, a_pendingNodes, a_summaries, a_nextSummaries, a_nodeTypes, a_paramsAfter, a_params, a_values, a_arguments, a_frameSlots, a_frameNodes) := by
  have loop : ∀ d i fuel (SU : Nat → Int32), i + d = 24 → d < fuel → (∀ q, q < i → SU q = 0) → wX_analyze_2 post (nI N) f_capacity f_nodesUsed f_buildingSlot f_pendingCount f_summariesCurrent f_callsActive f_callsMade f_runOutcome f_runValue fuel (nI i) a_slotStates a_slotArities a_slotStarts a_slotSizes a_kinds a_firstOperands a_secondOperands a_children a_parents a_depths a_pendingNodes SU a_nextSummaries a_nodeTypes a_paramsAfter a_params a_values a_arguments a_frameSlots a_frameNodes := by
    intro d
    induction d with
    | zero =>
      intro i fuel SU h1 h2 s
      obtain ⟨fuel, rfl⟩ : ∃ m, fuel = m + 1 := ⟨fuel - 1, by omega⟩
      obtain rfl : i = 24 := by omega
      exact br_t (by decide) ⟨r0 + 2, xn_25 hN hs hr f1 f2 H r0 0 (r0 + 2) SU a_nextSummaries a_nodeTypes a_paramsAfter a_params (by omega) (by omega) (fun q hq => by rw [s q hq]; exact ty_x_00.symm) hNX⟩
    | succ d ih =>
      intro i fuel SU h1 h2 s
      obtain ⟨fuel, rfl⟩ : ∃ m, fuel = m + 1 := ⟨fuel - 1, by omega⟩
      refine br_f (nI_ge (b := 24) (by omega) (by decide)) ⟨vp_in_nI (by omega) (by decide), ?_⟩
      rw [nI_clamp (by omega)]
      refine nm_e (nm_r (nI_1 i) (ih (i + 1) fuel _ (by omega) (by omega) fun q hq => ?_))
      by_cases e : q = i
      · subst e; exact pk_us
      · rw [pk_un e]; exact s q (by omega)
  exact ⟨25, loop 24 0 25 a_summaries (by omega) (by omega) (fun q hq => absurd hq (Nat.not_lt_zero q))⟩
end

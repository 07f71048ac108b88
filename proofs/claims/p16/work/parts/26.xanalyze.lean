/-- how many defined slots never return, by a table -/
def an_cnt (st : Nat → Int32) (tb : Nat → ty_T) : Nat → Nat
  | 0 => 0
  | n + 1 => an_cnt st tb n + (if st n = 2 ∧ tb (n * 3 + 2) = ty_0 then 1 else 0)
theorem an_cnt_s (st : Nat → Int32) (tb : Nat → ty_T) (n : Nat) : an_cnt st tb (n + 1) = an_cnt st tb n + (if st n = 2 ∧ tb (n * 3 + 2) = ty_0 then 1 else 0) := rfl
theorem an_cnt_le (st : Nat → Int32) (tb : Nat → ty_T) : ∀ n, an_cnt st tb n ≤ n := by
  intro n
  induction n with
  | zero => exact Nat.le_refl _
  | succ n ih => rw [an_cnt_s]; split <;> omega
section
variable {f_slotCount f_capacity f_nodesUsed f_buildingSlot f_pendingCount f_summariesCurrent f_callsActive f_callsMade f_runOutcome f_runValue : Int32} {a_slotStates a_slotArities a_slotStarts a_slotSizes a_kinds a_firstOperands a_secondOperands a_children a_parents a_depths a_pendingNodes a_summaries a_nextSummaries a_nodeTypes a_paramsAfter a_params a_values a_arguments a_frameSlots a_frameNodes : Nat → Int32} {N : Nat}
theorem xn_cnt {Q : Int32 → Prop} {tb : Nat → ty_T} (hN : N ≤ 8) (hT : ∀ q, ty_ok (tb q)) (hsum : ∀ q, q < 24 → a_summaries q = ty_x (tb q)) (H : Q (nI (an_cnt a_slotStates tb N))) :
    wpX_countNeverReturning Q (nI N, f_capacity, f_nodesUsed, f_buildingSlot, f_pendingCount, f_summariesCurrent, f_callsActive, f_callsMade, f_runOutcome, f_runValue, a_slotStates, a_slotArities, a_slotStarts, a_slotSizes, a_kinds, a_firstOperands, a_secondOperands, a_children, a_parents, a_depths, a_pendingNodes, a_summaries, a_nextSummaries, a_nodeTypes, a_paramsAfter, a_params, a_values, a_arguments, a_frameSlots, a_frameNodes) := by
  have loop : ∀ d i fuel, i + d = N → d < fuel → wX_countNeverReturning_4 Q (nI N) f_capacity f_nodesUsed f_buildingSlot f_pendingCount f_summariesCurrent f_callsActive f_callsMade f_runOutcome f_runValue a_slotStates a_slotArities a_slotStarts a_slotSizes a_kinds a_firstOperands a_secondOperands a_children a_parents a_depths a_pendingNodes a_summaries a_nextSummaries a_nodeTypes a_paramsAfter a_params a_values a_arguments a_frameSlots a_frameNodes fuel (nI (an_cnt a_slotStates tb i)) (nI i) := by
    intro d
    induction d with
    | zero =>
      intro i fuel h1 h2
      obtain ⟨fuel, rfl⟩ : ∃ m, fuel = m + 1 := ⟨fuel - 1, by omega⟩
      obtain rfl : i = N := by omega
      exact br_t (nI_le (Nat.le_refl _) (by omega)) H
    | succ d ih =>
      intro i fuel h1 h2
      obtain ⟨fuel, rfl⟩ : ∃ m, fuel = m + 1 := ⟨fuel - 1, by omega⟩
      have w : vp_in (nI i) 8 := vp_in_nI (by omega) (by decide)
      have cl : (nI i).toNatClampNeg = i := nI_clamp (by omega)
      have hh := ih (i + 1) fuel (by omega) (by omega)
      rw [an_cnt_s] at hh
      refine br_f (nI_ge (by omega) (by omega)) ?_
      rw [xc_32, nI_clamp (n := i * 3 + 2) (by omega), cl, hsum _ (by omega)]
      refine ⟨vp_in_nI (by omega) (by omega), nm_e ⟨w, ?_⟩⟩
      by_cases s2 : a_slotStates i = 2
      · by_cases z : tb (i * 3 + 2) = ty_0
        · rw [if_pos ⟨s2, z⟩] at hh
          exact br_t s2 (br_t ((ty_x_0 (hT _)).mpr z) (nm_r (nI_1 _) (nm_r (nI_1 _) hh)))
        · rw [if_neg (fun y => z y.2)] at hh
          exact br_t s2 (br_f (fun y => z ((ty_x_0 (hT _)).mp y)) (nm_r (nI_1 _) hh))
      · rw [if_neg (fun y => s2 y.1)] at hh
        exact br_f s2 (nm_r (nI_1 _) hh)
  exact ⟨N + 1, loop N 0 (N + 1) (by omega) (by omega)⟩
theorem xn_take {Q : Int32 → St2 → Prop} {tb tb' : Nat → ty_T} (hT : ∀ q, ty_ok (tb q)) (hT' : ∀ q, ty_ok (tb' q)) (hsum : ∀ q, q < 24 → a_summaries q = ty_x (tb q)) (hnx : ∀ q, q < 24 → a_nextSummaries q = ty_x (tb' q))
    (H1 : (∀ q, q < 24 → tb' q = tb q) → ∀ SU : Nat → Int32, (∀ q, q < 24 → SU q = ty_x (tb' q)) → Q 0 (f_slotCount, f_capacity, f_nodesUsed, f_buildingSlot, f_pendingCount, f_summariesCurrent, f_callsActive, f_callsMade, f_runOutcome, f_runValue, a_slotStates, a_slotArities, a_slotStarts, a_slotSizes, a_kinds, a_firstOperands, a_secondOperands, a_children, a_parents, a_depths, a_pendingNodes, SU, a_nextSummaries, a_nodeTypes, a_paramsAfter, a_params, a_values, a_arguments, a_frameSlots, a_frameNodes)) (H2 : (¬ ∀ q, q < 24 → tb' q = tb q) → ∀ SU : Nat → Int32, (∀ q, q < 24 → SU q = ty_x (tb' q)) → Q 1 (f_slotCount, f_capacity, f_nodesUsed, f_buildingSlot, f_pendingCount, f_summariesCurrent, f_callsActive, f_callsMade, f_runOutcome, f_runValue, a_slotStates, a_slotArities, a_slotStarts, a_slotSizes, a_kinds, a_firstOperands, a_secondOperands, a_children, a_parents, a_depths, a_pendingNodes, SU, a_nextSummaries, a_nodeTypes, a_paramsAfter, a_params, a_values, a_arguments, a_frameSlots, a_frameNodes)) :
    wpX_takeNextSummaries Q (f_slotCount, f_capacity, f_nodesUsed, f_buildingSlot, f_pendingCount, f_summariesCurrent, f_callsActive, f_callsMade, f_runOutcome, f_runValue, a_slotStates, a_slotArities, a_slotStarts, a_slotSizes, a_kinds, a_firstOperands, a_secondOperands, a_children, a_parents, a_depths, a_pendingNodes, a_summaries, a_nextSummaries, a_nodeTypes, a_paramsAfter, a_params, a_values, a_arguments, a_frameSlots, a_frameNodes) := by
  have loop : ∀ d i fuel (c : Int32) (SU : Nat → Int32), i + d = 24 → d < fuel → (∀ q, q < i → SU q = ty_x (tb' q)) → (∀ q, i ≤ q → q < 24 → SU q = ty_x (tb q)) → (c = 0 ∧ (∀ q, q < i → tb' q = tb q) ∨ c = 1 ∧ ∃ q, q < i ∧ tb' q ≠ tb q) →
      wX_takeNextSummaries_4 Q f_slotCount f_capacity f_nodesUsed f_buildingSlot f_pendingCount f_summariesCurrent f_callsActive f_callsMade f_runOutcome f_runValue fuel c (nI i) a_slotStates a_slotArities a_slotStarts a_slotSizes a_kinds a_firstOperands a_secondOperands a_children a_parents a_depths a_pendingNodes SU a_nextSummaries a_nodeTypes a_paramsAfter a_params a_values a_arguments a_frameSlots a_frameNodes := by
    intro d
    induction d with
    | zero =>
      intro i fuel c SU h1 h2 s1 s2 hc
      obtain ⟨fuel, rfl⟩ : ∃ m, fuel = m + 1 := ⟨fuel - 1, by omega⟩
      obtain rfl : i = 24 := by omega
      refine br_t (by decide) ?_
      rcases hc with ⟨rfl, hc⟩ | ⟨rfl, q, hq, hc⟩
      · exact ⟨rfl, H1 hc SU s1⟩
      · exact ⟨rfl, H2 (fun z => hc (z q hq)) SU s1⟩
    | succ d ih =>
      intro i fuel c SU h1 h2 s1 s2 hc
      obtain ⟨fuel, rfl⟩ : ∃ m, fuel = m + 1 := ⟨fuel - 1, by omega⟩
      have w : vp_in (nI i) 24 := vp_in_nI (by omega) (by decide)
      have cl : (nI i).toNatClampNeg = i := nI_clamp (by omega)
      refine br_f (nI_ge (b := 24) (by omega) (by decide)) ⟨w, w, ?_⟩
      rw [cl, s2 i (by omega) (by omega), hnx i (by omega)]
      by_cases z : tb i = tb' i
      · refine br_t (by rw [z]) (nm_r (nI_1 i) (ih (i + 1) fuel c SU (by omega) (by omega) (fun q hq => ?_) (fun q h3 h4 => s2 q (by omega) h4) ?_))
        · by_cases e : q = i
          · subst e; rw [← z]; exact s2 q (by omega) (by omega)
          · exact s1 q (by omega)
        · rcases hc with ⟨c0, hc⟩ | ⟨c1, q, hq, hc⟩
          · refine Or.inl ⟨c0, fun q hq => ?_⟩
            by_cases e : q = i
            · subst e; exact z.symm
            · exact hc q (by omega)
          · exact Or.inr ⟨c1, q, by omega, hc⟩
      · refine br_f (fun y => z (ty_x_inj (hT i) (hT' i) y)) ⟨w, w, nm_e (nm_r (nI_1 i) (ih (i + 1) fuel 1 _ (by omega) (by omega) (fun q hq => ?_) (fun q h3 h4 => ?_) (Or.inr ⟨rfl, i, by omega, fun y => z y.symm⟩)))⟩
        · by_cases e : q = i
          · subst e; exact pk_us
          · rw [pk_un e]; exact s1 q (by omega)
        · rw [pk_un (by omega)]; exact s2 q (by omega) h4
  exact ⟨25, loop 24 0 25 0 a_summaries (by omega) (by omega) (fun q hq => absurd hq (Nat.not_lt_zero q)) (fun q _ hq => hsum q hq) (Or.inl ⟨rfl, fun q hq => absurd hq (Nat.not_lt_zero q)⟩)⟩
end
-- the slots in the pool, the rest of the state fixed
section
variable {f_slotCount f_capacity f_nodesUsed f_buildingSlot f_pendingCount f_summariesCurrent f_callsActive f_callsMade f_runOutcome f_runValue : Int32} {a_slotStates a_slotArities a_slotStarts a_slotSizes a_kinds a_firstOperands a_secondOperands a_children a_parents a_depths a_pendingNodes a_summaries a_nextSummaries a_nodeTypes a_paramsAfter a_params a_values a_arguments a_frameSlots a_frameNodes : Nat → Int32} {N U : Nat} {sz S : Nat → Nat} {szY bk ba bb : Nat → Int32}
theorem xn_37 {post : Int32 → St2 → Prop} {J : Int32 → Int32 → Int32 → Int32 → Int32 → Int32 → Int32 → Int32 → Int32 → Int32 → Int32 → Int32 → (Nat → Int32) → (Nat → Int32) → (Nat → Int32) → (Nat → Int32) → (Nat → Int32) → (Nat → Int32) → (Nat → Int32) → (Nat → Int32) → (Nat → Int32) → (Nat → Int32) → (Nat → Int32) → (Nat → Int32) → (Nat → Int32) → (Nat → Int32) → (Nat → Int32) → (Nat → Int32) → (Nat → Int32) → (Nat → Int32) → (Nat → Int32) → (Nat → Int32) → Prop}
    {tb : Nat → ty_T} {r : Nat} (hN : N ≤ 8) (hs : rl_slots N U sz S a_slotStates a_slotArities a_slotSizes szY a_slotStarts bk ba bb a_kinds a_firstOperands a_secondOperands a_children a_parents a_depths)
    (hT : ∀ q, ty_ok (tb q)) (hsum : ∀ q, q < 24 → a_summaries q = ty_x (tb q))
    (H1 : (∀ q, q < 24 → sp_step N (rl_K bk) (rl_K ba) (rl_K bb) a_slotStates a_slotArities sz tb q = tb q) → ∀ SU NX NT PA P : Nat → Int32, (∀ q, q < 24 → SU q = ty_x (sp_step N (rl_K bk) (rl_K ba) (rl_K bb) a_slotStates a_slotArities sz tb q)) → (∀ q, 3 * N ≤ q → q < 24 → NX q = 0) → J 0 (nI (r + 1)) (nI N) f_capacity f_nodesUsed f_buildingSlot f_pendingCount f_summariesCurrent f_callsActive f_callsMade f_runOutcome f_runValue a_slotStates a_slotArities a_slotStarts a_slotSizes a_kinds a_firstOperands a_secondOperands a_children a_parents a_depths a_pendingNodes SU NX NT PA P a_values a_arguments a_frameSlots a_frameNodes)
    (H2 : (¬ ∀ q, q < 24 → sp_step N (rl_K bk) (rl_K ba) (rl_K bb) a_slotStates a_slotArities sz tb q = tb q) → ∀ SU NX NT PA P : Nat → Int32, (∀ q, q < 24 → SU q = ty_x (sp_step N (rl_K bk) (rl_K ba) (rl_K bb) a_slotStates a_slotArities sz tb q)) → (∀ q, 3 * N ≤ q → q < 24 → NX q = 0) → J 1 (nI (r + 1)) (nI N) f_capacity f_nodesUsed f_buildingSlot f_pendingCount f_summariesCurrent f_callsActive f_callsMade f_runOutcome f_runValue a_slotStates a_slotArities a_slotStarts a_slotSizes a_kinds a_firstOperands a_secondOperands a_children a_parents a_depths a_pendingNodes SU NX NT PA P a_values a_arguments a_frameSlots a_frameNodes) :
    ∀ d f fuel (NX NT PA P : Nat → Int32), f + d = N → d < fuel → (∀ q, q < f * 3 → NX q = ty_x (sp_step N (rl_K bk) (rl_K ba) (rl_K bb) a_slotStates a_slotArities sz tb q)) → (∀ q, 3 * N ≤ q → q < 24 → NX q = 0) →
      wX_analyze_37 post J (nI r) fuel (nI f) (nI N) f_capacity f_nodesUsed f_buildingSlot f_pendingCount f_summariesCurrent f_callsActive f_callsMade f_runOutcome f_runValue a_slotStates a_slotArities a_slotStarts a_slotSizes a_kinds a_firstOperands a_secondOperands a_children a_parents a_depths a_pendingNodes a_summaries NX NT PA P a_values a_arguments a_frameSlots a_frameNodes := by
  intro d
  have ok := sp_step_ok (rl_sp_ok hs) hT
  induction d with
  | zero =>
    intro f fuel NX NT PA P h1 h2 n1 n2
    obtain ⟨fuel, rfl⟩ : ∃ m, fuel = m + 1 := ⟨fuel - 1, by omega⟩
    obtain rfl : f = N := by omega
    refine br_t (nI_le (Nat.le_refl _) (by omega)) ?_
    have nx : ∀ q, q < 24 → NX q = ty_x (sp_step f (rl_K bk) (rl_K ba) (rl_K bb) a_slotStates a_slotArities sz tb q) := by
      intro q hq
      by_cases c : q < f * 3
      · exact n1 q c
      · rw [n2 q (by omega) hq]
        unfold sp_step
        rw [if_neg (fun z => by omega), ty_x_00]
    exact xn_take hT ok hsum nx (fun e SU hSU => nm_r (nI_1 r) (H1 e SU NX NT PA P hSU n2)) (fun e SU hSU => nm_r (nI_1 r) (H2 e SU NX NT PA P hSU n2))
  | succ d ih =>
    intro f fuel NX NT PA P h1 h2 n1 n2
    obtain ⟨fuel, rfl⟩ : ∃ m, fuel = m + 1 := ⟨fuel - 1, by omega⟩
    refine br_f (nI_ge (by omega) (by omega)) ?_
    refine xs_slot (show f < N by omega) hN (hs f (by omega)) hT hsum fun NX' NT' PA' P' x => ?_
    obtain ⟨x1, x2⟩ := x
    refine nm_r (nI_1 f) (ih (f + 1) fuel NX' NT' PA' P' (by omega) (by omega) (fun q hq => ?_) (fun q h3 h4 => ?_))
    · by_cases c : q < f * 3
      · rw [x1 q (by omega) (by omega) (by omega)]; exact n1 q c
      · obtain ⟨j, hj, rfl⟩ : ∃ j, j < 3 ∧ q = f * 3 + j := ⟨q - f * 3, by omega, by omega⟩
        rw [x2 j hj]
        unfold sp_step
        rw [show (f * 3 + j) / 3 = f by omega, show (f * 3 + j) % 3 = j by omega]
        by_cases s2 : a_slotStates f = 2
        · rw [if_pos s2, if_pos ⟨by omega, s2⟩]; rfl
        · rw [if_neg s2, if_neg (fun z => s2 z.2)]
    · rw [x1 q (by omega) (by omega) (by omega)]; exact n2 q h3 h4
end

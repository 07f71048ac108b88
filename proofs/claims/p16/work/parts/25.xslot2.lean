theorem xs_b2 (f : Nat) : nI (f * 3) + 2 = nI (f * 3 + 2) := by rw [show (2 : Int32) = nI 2 by decide, nI_add]
section
variable {f_slotCount f_capacity f_nodesUsed f_buildingSlot f_pendingCount f_summariesCurrent f_callsActive f_callsMade f_runOutcome f_runValue : Int32} {a_slotStates a_slotArities a_slotStarts a_slotSizes a_kinds a_firstOperands a_secondOperands a_children a_parents a_depths a_pendingNodes a_summaries a_nextSummaries a_nodeTypes a_paramsAfter a_params a_values a_arguments a_frameSlots a_frameNodes : Nat → Int32} {N k n S : Nat} {K A B : Nat → Int32} {post : St2 → Prop} {x1 x2 : Int32}
theorem xs_122e {Q : St2 → Prop} {f k root j fuel : Nat} (hf : f < 8) (hk : a_slotArities f = nI k) (hk2 : k ≤ 2) (hr : root < 128) (hj : k ≤ j) (hj2 : j ≤ 2) (H : Q (f_slotCount, f_capacity, f_nodesUsed, f_buildingSlot, f_pendingCount, f_summariesCurrent, f_callsActive, f_callsMade, f_runOutcome, f_runValue, a_slotStates, a_slotArities, a_slotStarts, a_slotSizes, a_kinds, a_firstOperands, a_secondOperands, a_children, a_parents, a_depths, a_pendingNodes, a_summaries, upd a_nextSummaries (f * 3 + 2) (a_nodeTypes root), a_nodeTypes, a_paramsAfter, a_params, a_values, a_arguments, a_frameSlots, a_frameNodes)) :
    wX_inferSlot_122 Q (nI f) (nI (f * 3)) (nI root) f_slotCount f_capacity f_nodesUsed f_buildingSlot f_pendingCount f_summariesCurrent f_callsActive f_callsMade f_runOutcome f_runValue (fuel + 1) (nI j) a_slotStates a_slotArities a_slotStarts a_slotSizes a_kinds a_firstOperands a_secondOperands a_children a_parents a_depths a_pendingNodes a_summaries a_nextSummaries a_nodeTypes a_paramsAfter a_params a_values a_arguments a_frameSlots a_frameNodes := by
  have w : vp_in (nI f) 8 := vp_in_nI hf (by decide)
  refine ⟨w, br_t ?_ ⟨vp_in_nI hr (by decide), ?_⟩⟩
  · rw [nI_clamp (by omega), hk]; exact nI_le hj (by omega)
  · rw [xs_b2, nI_clamp (n := f * 3 + 2) (by omega), nI_clamp (n := root) (by omega)]
    exact ⟨vp_in_nI (by omega) (by omega), nm_e H⟩
theorem xs_122s {Q : St2 → Prop} {f k root j fuel : Nat} (hf : f < 8) (hk : a_slotArities f = nI k) (hk2 : k ≤ 2) (hr : root < 128) (hj : j < k)
    (H : wX_inferSlot_122 Q (nI f) (nI (f * 3)) (nI root) f_slotCount f_capacity f_nodesUsed f_buildingSlot f_pendingCount f_summariesCurrent f_callsActive f_callsMade f_runOutcome f_runValue fuel (nI (j + 1)) a_slotStates a_slotArities a_slotStarts a_slotSizes a_kinds a_firstOperands a_secondOperands a_children a_parents a_depths a_pendingNodes a_summaries (upd a_nextSummaries (f * 3 + j) (a_paramsAfter (root * 2 + j))) a_nodeTypes a_paramsAfter a_params a_values a_arguments a_frameSlots a_frameNodes) :
    wX_inferSlot_122 Q (nI f) (nI (f * 3)) (nI root) f_slotCount f_capacity f_nodesUsed f_buildingSlot f_pendingCount f_summariesCurrent f_callsActive f_callsMade f_runOutcome f_runValue (fuel + 1) (nI j) a_slotStates a_slotArities a_slotStarts a_slotSizes a_kinds a_firstOperands a_secondOperands a_children a_parents a_depths a_pendingNodes a_summaries a_nextSummaries a_nodeTypes a_paramsAfter a_params a_values a_arguments a_frameSlots a_frameNodes := by
  have w : vp_in (nI f) 8 := vp_in_nI hf (by decide)
  refine ⟨w, br_f ?_ ?_⟩
  · rw [nI_clamp (by omega), hk]; exact nI_ge hj (by omega)
  · rw [xc_2, nI_add, nI_add, nI_clamp (n := root * 2 + j) (by omega), nI_clamp (n := f * 3 + j) (by omega)]
    exact ⟨vp_in_nI (by omega) (by omega), vp_in_nI (by omega) (by omega), nm_e (nm_r (nI_1 j) H)⟩
theorem xs_122 {Q : St2 → Prop} {f k root : Nat} (hf : f < 8) (hk : a_slotArities f = nI k) (hk2 : k ≤ 2) (hr : root < 128)
    (H : ∀ NX : Nat → Int32, (∀ q, q ≠ f * 3 → q ≠ f * 3 + 1 → q ≠ f * 3 + 2 → NX q = a_nextSummaries q) → NX (f * 3) = (if 1 ≤ k then a_paramsAfter (root * 2) else a_nextSummaries (f * 3)) →
      NX (f * 3 + 1) = (if 2 ≤ k then a_paramsAfter (root * 2 + 1) else a_nextSummaries (f * 3 + 1)) → NX (f * 3 + 2) = a_nodeTypes root → Q (f_slotCount, f_capacity, f_nodesUsed, f_buildingSlot, f_pendingCount, f_summariesCurrent, f_callsActive, f_callsMade, f_runOutcome, f_runValue, a_slotStates, a_slotArities, a_slotStarts, a_slotSizes, a_kinds, a_firstOperands, a_secondOperands, a_children, a_parents, a_depths, a_pendingNodes, a_summaries, NX, a_nodeTypes, a_paramsAfter, a_params, a_values, a_arguments, a_frameSlots, a_frameNodes)) :
    ∃ fuel, wX_inferSlot_122 Q (nI f) (nI (f * 3)) (nI root) f_slotCount f_capacity f_nodesUsed f_buildingSlot f_pendingCount f_summariesCurrent f_callsActive f_callsMade f_runOutcome f_runValue fuel 0 a_slotStates a_slotArities a_slotStarts a_slotSizes a_kinds a_firstOperands a_secondOperands a_children a_parents a_depths a_pendingNodes a_summaries a_nextSummaries a_nodeTypes a_paramsAfter a_params a_values a_arguments a_frameSlots a_frameNodes := by
  have kk : k = 0 ∨ k = 1 ∨ k = 2 := by omega
  rcases kk with rfl | rfl | rfl
  · refine ⟨1, xs_122e (j := 0) hf hk hk2 hr (by omega) (by omega) (H _ ?_ ?_ ?_ pk_us)⟩
    · intro q h1 h2 h3; exact pk_un h3
    · rw [pk_un (by omega)]; rfl
    · rw [pk_un (by omega)]; rfl
  · refine ⟨2, xs_122s (j := 0) hf hk hk2 hr (by omega) (xs_122e (j := 1) hf hk hk2 hr (by omega) (by omega) (H _ ?_ ?_ ?_ pk_us))⟩
    · intro q h1 h2 h3; rw [pk_un h3, pk_un (by omega)]
    · rw [pk_un (by omega)]; exact pk_us
    · rw [pk_un (by omega), pk_un (by omega)]; rfl
  · refine ⟨3, xs_122s (j := 0) hf hk hk2 hr (by omega) (xs_122s (j := 1) hf hk hk2 hr (by omega) (xs_122e (j := 2) hf hk hk2 hr (by omega) (by omega) (H _ ?_ ?_ ?_ pk_us)))⟩
    · intro q h1 h2 h3; rw [pk_un h3, pk_un h2]; exact pk_un h1
    · rw [pk_un (by omega), pk_un (by omega)]; exact pk_us
    · rw [pk_un (by omega)]; exact pk_us
theorem xc_root {Q : St2 → Prop} {r : Nat} (hr : r < 128) (hp : a_parents r = -1) (H : Q (f_slotCount, f_capacity, f_nodesUsed, f_buildingSlot, f_pendingCount, f_summariesCurrent, f_callsActive, f_callsMade, f_runOutcome, f_runValue, a_slotStates, a_slotArities, a_slotStarts, a_slotSizes, a_kinds, a_firstOperands, a_secondOperands, a_children, a_parents, a_depths, a_pendingNodes, a_summaries, a_nextSummaries, a_nodeTypes, a_paramsAfter, a_params, a_values, a_arguments, a_frameSlots, a_frameNodes)) : wpX_turnAtBranch Q (f_slotCount, f_capacity, f_nodesUsed, f_buildingSlot, f_pendingCount, f_summariesCurrent, f_callsActive, f_callsMade, f_runOutcome, f_runValue, a_slotStates, a_slotArities, a_slotStarts, a_slotSizes, a_kinds, a_firstOperands, a_secondOperands, a_children, a_parents, a_depths, a_pendingNodes, a_summaries, a_nextSummaries, a_nodeTypes, a_paramsAfter, a_params, a_values, a_arguments, a_frameSlots, a_frameNodes) (nI r) := by
  have w : vp_in (nI r) 128 := vp_in_nI hr (by decide)
  have cl : (nI r).toNatClampNeg = r := nI_clamp (by omega)
  unfold wpX_turnAtBranch
  dsimp only
  unfold wpX_isCondition
  dsimp only
  refine ⟨w, nm_r (e' := -1) (by rw [cl]; exact hp) (br_t rfl (br_t rfl ?_))⟩
  unfold wpX_isThenBranch
  dsimp only
  exact ⟨w, nm_r (e' := -1) (by rw [cl]; exact hp) (br_t rfl (br_t rfl H))⟩
theorem xs_fld {k : Nat} (hk2 : k ≤ 2) (o : ab_O) : ty_x (sp_fld (nI k) 0 o) = (if 1 ≤ k then ty_x (xa_en o).1 else 0) ∧ ty_x (sp_fld (nI k) 1 o) = (if 2 ≤ k then ty_x (xa_en o).2 else 0) ∧ ty_x (sp_fld (nI k) 2 o) = ty_x (xa_ty o) := by
  have e1 : (1 : Int32) ≤ nI k ↔ 1 ≤ k := by rw [show (1 : Int32) = nI 1 by decide, nI_leI (by omega) (by omega)]
  have e2 : (2 : Int32) ≤ nI k ↔ 2 ≤ k := by rw [show (2 : Int32) = nI 2 by decide, nI_leI (by omega) (by omega)]
  cases o with
  | none =>
    refine ⟨?_, ?_, rfl⟩
    · show ty_x ty_0 = if 1 ≤ k then ty_x ty_0 else 0
      rw [ty_x_00, ite_self]
    · show ty_x ty_0 = if 2 ≤ k then ty_x ty_0 else 0
      rw [ty_x_00, ite_self]
  | some x =>
    refine ⟨?_, ?_, rfl⟩
    · show ty_x (if (0 : Nat) = 2 then x.1 else if (0 : Nat) = 0 then (if 1 ≤ nI k then x.2.1 else ty_0) else (if 2 ≤ nI k then x.2.2 else ty_0)) = if 1 ≤ k then ty_x x.2.1 else 0
      rw [if_neg (by decide), if_pos rfl]
      by_cases c : 1 ≤ k
      · rw [if_pos c, if_pos (e1.mpr c)]
      · rw [if_neg c, if_neg (fun z => c (e1.mp z)), ty_x_00]
    · show ty_x (if (1 : Nat) = 2 then x.1 else if (1 : Nat) = 0 then (if 1 ≤ nI k then x.2.1 else ty_0) else (if 2 ≤ nI k then x.2.2 else ty_0)) = if 2 ≤ k then ty_x x.2.2 else 0
      rw [if_neg (by decide), if_neg (by decide)]
      by_cases c : 2 ≤ k
      · rw [if_pos c, if_pos (e2.mpr c)]
      · rw [if_neg c, if_neg (fun z => c (e2.mp z)), ty_x_00]
/-- what one slot's inference leaves in the next table -/
def xs_nx (f : Nat) (NX0 NX : Nat → Int32) (s : Int32) (a : Int32) (o : ab_O) : Prop :=
  (∀ q, q ≠ f * 3 → q ≠ f * 3 + 1 → q ≠ f * 3 + 2 → NX q = NX0 q) ∧ ∀ j, j < 3 → NX (f * 3 + j) = ty_x (if s = 2 then sp_fld a j o else ty_0)
theorem xs_slot {Q : St2 → Prop} {tb : Nat → ty_T} {f U : Nat} {szY bk ba bb : Nat → Int32} (hf : f < N) (hN : N ≤ 8) (hs : rl_slot N U f n S a_slotStates a_slotArities a_slotSizes szY a_slotStarts bk ba bb a_kinds a_firstOperands a_secondOperands a_children a_parents a_depths)
    (hT : ∀ q, ty_ok (tb q)) (hsum : ∀ q, q < 24 → a_summaries q = ty_x (tb q))
    (H : ∀ NX NT PA P : Nat → Int32, xs_nx f a_nextSummaries NX (a_slotStates f) (a_slotArities f) (ab_ev (rl_K bk f) (rl_K ba f) (rl_K bb f) a_slotStates a_slotArities (rl_c (rl_K bk f) (rl_K bb f)) tb 128 (n - 1) (ty_any, ty_any)) →
      Q (f_slotCount, f_capacity, f_nodesUsed, f_buildingSlot, f_pendingCount, f_summariesCurrent, f_callsActive, f_callsMade, f_runOutcome, f_runValue, a_slotStates, a_slotArities, a_slotStarts, a_slotSizes, a_kinds, a_firstOperands, a_secondOperands, a_children, a_parents, a_depths, a_pendingNodes, a_summaries, NX, NT, PA, P, a_values, a_arguments, a_frameSlots, a_frameNodes)) : wpX_inferSlot Q (f_slotCount, f_capacity, f_nodesUsed, f_buildingSlot, f_pendingCount, f_summariesCurrent, f_callsActive, f_callsMade, f_runOutcome, f_runValue, a_slotStates, a_slotArities, a_slotStarts, a_slotSizes, a_kinds, a_firstOperands, a_secondOperands, a_children, a_parents, a_depths, a_pendingNodes, a_summaries, a_nextSummaries, a_nodeTypes, a_paramsAfter, a_params, a_values, a_arguments, a_frameSlots, a_frameNodes) (nI f) := by
  have w : vp_in (nI f) 8 := vp_in_nI (by omega) (by decide)
  have cl : (nI f).toNatClampNeg = f := nI_clamp (by omega)
  unfold wpX_inferSlot
  dsimp only
  refine nm_r (xc_3 f) ?_
  rw [Int32.add_zero, nI_1, xs_b2, cl, nI_clamp (n := f * 3) (by omega), nI_clamp (n := f * 3 + 1) (by omega), nI_clamp (n := f * 3 + 2) (by omega)]
  refine ⟨vp_in_nI (by omega) (by omega), nm_e ⟨vp_in_nI (by omega) (by omega), nm_e ⟨vp_in_nI (by omega) (by omega), nm_e ⟨w, ?_⟩⟩⟩⟩
  by_cases s2 : a_slotStates f = 2
  · obtain ⟨_, h1, h2⟩ := hs
    obtain ⟨e1, e2, e3, e4, k, hk, ek, hB⟩ := h1 (by rw [s2]; decide)
    obtain ⟨n0, pc1, pr⟩ := h2 s2
    have hS := hB.1
    have root : bs_ss (rl_c (rl_K bk f) (rl_K bb f)) (n - 1) = 0 := by
      have e : n - 1 + 1 = n := by omega
      exact bs_root (by rw [e]; exact hB.2.1.2.2) (by rw [e]; exact pc1)
    refine br_t s2 (nm_e (nm_e ⟨w, w, nm_r (e' := nI (S + n)) (by rw [e1, e3, nI_add]) ⟨w, nm_r (e' := nI S) e3 ⟨n + 1, ?_⟩⟩⟩))
    have sim := xa_sim (XA := xs_A Q (nI f) (nI (f * 3)) (S + n) f_slotCount f_capacity f_nodesUsed f_buildingSlot f_pendingCount f_summariesCurrent f_callsActive f_callsMade f_runOutcome f_runValue a_slotStates a_slotArities a_slotStarts a_slotSizes a_kinds a_firstOperands a_secondOperands a_children a_parents a_depths a_pendingNodes a_summaries (upd (upd (upd a_nextSummaries (f * 3) 0) (f * 3 + 1) 0) (f * 3 + 2) 0) a_nodeTypes a_paramsAfter a_params a_values a_arguments a_frameSlots a_frameNodes) (XT := xs_T Q (nI f) (nI (f * 3)) (S + n) f_slotCount f_capacity f_nodesUsed f_buildingSlot f_pendingCount f_summariesCurrent f_callsActive f_callsMade f_runOutcome f_runValue a_slotStates a_slotArities a_slotStarts a_slotSizes a_kinds a_firstOperands a_secondOperands a_children a_parents a_depths a_pendingNodes a_summaries (upd (upd (upd a_nextSummaries (f * 3) 0) (f * 3 + 1) 0) (f * 3 + 2) 0) a_nodeTypes a_paramsAfter a_params a_values a_arguments a_frameSlots a_frameNodes) (S := S) (st := a_slotStates) (ar := a_slotArities)
      hB.2.1 hT (xs_X1 hB hk) (xs_X2 hB hk) (xs_X3 hB) (xs_X4 hB)
      (fun i e Z hi h9 b0 he cu c => xs_call (x := ty_0) (y := ty_0) hB hk hN hT hsum hi h9 ty_0_ok ty_0_ok he cu (fun z => absurd z (by rw [ab_c9 hB.2.1 h9, b0]; decide)) (fun z => absurd z (by rw [ab_c9 hB.2.1 h9, b0]; decide)) (by rw [if_pos b0]) c)
      (fun i x e Z hi h9 b1 ox he cu hx c => xs_call (y := ty_0) hB hk hN hT hsum hi h9 ox ty_0_ok he cu (fun _ => hx) (fun z => absurd z (by rw [ab_c9 hB.2.1 h9, b1]; decide)) (by rw [if_neg (by rw [b1]; decide), if_pos b1]) c)
      (fun i x y e Z hi h9 b2 ox oy he cu hx hy c => xs_call hB hk hN hT hsum hi h9 ox oy he cu (fun _ => hx) (fun _ => hy) (by rw [if_neg (by rw [b2]; decide), if_neg (by rw [b2]; decide)]) c)
      (xs_T1 hB) (xs_T2 hB hk) (xs_T3 hB hk) 128
    have go := sim (n - 1) (ty_any, ty_any) (xs_z a_nodeTypes a_paramsAfter (upd (upd a_params 0 13042175) 1 13042175)) (by omega) (by omega) ⟨ty_any_ok, ty_any_ok, Or.inl (sp_any_eo k)⟩ ⟨xc_any, xc_any⟩ ?_
    · rw [root] at go
      exact go (n + 1) (by omega)
    · intro Z' ag st cu fuel hfu
      refine xc_root (by omega) pr ?_
      refine nm_r (nI_1 _) ?_
      rw [show S + (n - 1) + 1 = S + n by omega]
      obtain ⟨fuel, rfl⟩ : ∃ m, fuel = m + 1 := ⟨fuel - 1, by omega⟩
      refine br_t (nI_le (Nat.le_refl _) (by omega)) (nm_r (e' := nI (S + (n - 1))) (by rw [show S + n = S + (n - 1) + 1 by omega]; exact nI_pred _) ?_)
      refine xs_122 (by omega) ek hk (by omega) fun NX n1 n2 n3 n4 => H NX (Z' 0) (Z' 1) (Z' 2) ⟨fun q h1 h2 h3 => ?_, fun j hj => ?_⟩
      · rw [n1 q h1 h2 h3, pk_un h3, pk_un h2, pk_un h1]
      · obtain ⟨u0, u1, u2⟩ := xs_fld hk (ab_ev (rl_K bk f) (rl_K ba f) (rl_K bb f) a_slotStates a_slotArities (rl_c (rl_K bk f) (rl_K bb f)) tb 128 (n - 1) (ty_any, ty_any))
        rw [if_pos s2, ek]
        have jj : j = 0 ∨ j = 1 ∨ j = 2 := by omega
        rcases jj with rfl | rfl | rfl
        · rw [u0, Nat.add_zero, n2, st.2.1]
          by_cases c : 1 ≤ k
          · rw [if_pos c, if_pos c]
          · rw [if_neg c, if_neg c, pk_un (by omega), pk_un (by omega), pk_us]
        · rw [u1, n3, st.2.2]
          by_cases c : 2 ≤ k
          · rw [if_pos c, if_pos c]
          · rw [if_neg c, if_neg c, pk_un (by omega), pk_us]
        · rw [u2, n4, st.1]
  · refine br_f s2 (H _ a_nodeTypes a_paramsAfter a_params ⟨fun q h1 h2 h3 => ?_, fun j hj => ?_⟩)
    · rw [pk_un h3, pk_un h2, pk_un h1]
    · rw [if_neg s2, ty_x_00]
      have jj : j = 0 ∨ j = 1 ∨ j = 2 := by omega
      rcases jj with rfl | rfl | rfl
      · rw [pk_un (by omega), pk_un (by omega)]; exact pk_us
      · rw [pk_un (by omega), pk_us]
      · exact pk_us
end

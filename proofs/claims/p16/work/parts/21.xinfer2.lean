section
variable {f_slotCount f_capacity f_nodesUsed f_buildingSlot f_pendingCount f_summariesCurrent f_callsActive f_callsMade f_runOutcome f_runValue : Int32} {a_slotStates a_slotArities a_slotStarts a_slotSizes a_kinds a_firstOperands a_secondOperands a_children a_parents a_depths a_pendingNodes a_summaries a_nextSummaries a_nodeTypes a_paramsAfter a_params a_values a_arguments a_frameSlots a_frameNodes : Nat → Int32} {N k n S : Nat} {K A B : Nat → Int32}
theorem xc_if {Q : Int32 → St2 → Prop} (hB : rl_body N k n S K A B a_kinds a_firstOperands a_secondOperands a_children a_parents a_depths) {i : Nat} (hi : i < n) (hc : rl_c K B i = 3)
    {x y : ty_T} {e f : ab_E} (ox : ty_ok x) (oy : ty_ok y) (he : xa_e e) (hf : xa_e f)
    (hx : a_nodeTypes (S + bs_ch (rl_c K B) i 1) = ty_x x) (hy : a_nodeTypes (S + bs_ch (rl_c K B) i 2) = ty_x y)
    (e0 : a_paramsAfter ((S + bs_ch (rl_c K B) i 1) * 2) = ty_x e.1) (e1 : a_paramsAfter ((S + bs_ch (rl_c K B) i 1) * 2 + 1) = ty_x e.2)
    (f0 : a_paramsAfter ((S + bs_ch (rl_c K B) i 2) * 2) = ty_x f.1) (f1 : a_paramsAfter ((S + bs_ch (rl_c K B) i 2) * 2 + 1) = ty_x f.2)
    (H : ∀ P : Nat → Int32, P 0 = ty_x (ty_join e.1 f.1) → P 1 = ty_x (ty_join e.2 f.2) → Q (ty_x (ty_join x y)) (f_slotCount, f_capacity, f_nodesUsed, f_buildingSlot, f_pendingCount, f_summariesCurrent, f_callsActive, f_callsMade, f_runOutcome, f_runValue, a_slotStates, a_slotArities, a_slotStarts, a_slotSizes, a_kinds, a_firstOperands, a_secondOperands, a_children, a_parents, a_depths, a_pendingNodes, a_summaries, a_nextSummaries, a_nodeTypes, a_paramsAfter, P, a_values, a_arguments, a_frameSlots, a_frameNodes)) : wpX_inferIf Q (f_slotCount, f_capacity, f_nodesUsed, f_buildingSlot, f_pendingCount, f_summariesCurrent, f_callsActive, f_callsMade, f_runOutcome, f_runValue, a_slotStates, a_slotArities, a_slotStarts, a_slotSizes, a_kinds, a_firstOperands, a_secondOperands, a_children, a_parents, a_depths, a_pendingNodes, a_summaries, a_nextSummaries, a_nodeTypes, a_paramsAfter, a_params, a_values, a_arguments, a_frameSlots, a_frameNodes) (nI (S + i)) := by
  obtain ⟨w1, cl1, r1, l1⟩ := xc_child hB hi (j := 1) (by omega)
  obtain ⟨w2, cl2, r2, l2⟩ := xc_child hB hi (j := 2) (by omega)
  obtain ⟨wx, clx, _⟩ := xc_row hB l1
  obtain ⟨wy, cly, _⟩ := xc_row hB l2
  have hS := hB.1
  unfold wpX_inferIf
  dsimp only
  rw [xc_31, xc_32, cl1, cl2, r1, r2]
  refine ⟨w1, nm_e ⟨w2, nm_e ⟨3, ?_⟩⟩⟩
  have i0 : ∀ r : Nat, nI r * 2 + 0 = nI (r * 2) := fun r => by rw [xc_2, Int32.add_zero]
  refine br_f (by decide) ?_
  rw [i0, i0, nI_clamp (by omega), nI_clamp (by omega), e0, f0]
  refine ⟨vp_in_nI (by omega) (by omega), vp_in_nI (by omega) (by omega), xt_join he.1 hf.1 ⟨vp_in_nI (n := 0) (by decide) (by decide), nm_e (nm_r (e' := 1) (by decide) ?_)⟩⟩
  refine br_f (by decide) ?_
  rw [xc_21, xc_21, nI_clamp (by omega), nI_clamp (by omega), e1, f1]
  refine ⟨vp_in_nI (by omega) (by omega), vp_in_nI (by omega) (by omega), xt_join he.2 hf.2 ⟨vp_in_nI (n := 1) (by decide) (by decide), nm_e (nm_r (e' := 2) (by decide) ?_)⟩⟩
  refine br_t (by decide) ?_
  rw [clx, cly, hx, hy]
  refine ⟨wx, wy, xt_join ox oy (H _ ?_ ?_)⟩
  · rw [pk_un (by decide)]; exact pk_us
  · exact pk_us
/-- the check of a call's arguments -/
theorem xc_c0 {Q : Int32 → St2 → Prop} {x1 : Int32} {g : Nat} (hg : g < 8) {fuel : Nat} {r : Int32} (hr : a_summaries (g * 3 + 2) = r) {m : Nat} (hm : m ≤ 2) (H : Q r (f_slotCount, f_capacity, f_nodesUsed, f_buildingSlot, f_pendingCount, f_summariesCurrent, f_callsActive, f_callsMade, f_runOutcome, f_runValue, a_slotStates, a_slotArities, a_slotStarts, a_slotSizes, a_kinds, a_firstOperands, a_secondOperands, a_children, a_parents, a_depths, a_pendingNodes, a_summaries, a_nextSummaries, a_nodeTypes, a_paramsAfter, a_params, a_values, a_arguments, a_frameSlots, a_frameNodes)) : wX_inferCall_39 Q x1 (nI g) (nI m) (fuel + 1) (nI m) f_slotCount f_capacity f_nodesUsed f_buildingSlot f_pendingCount f_summariesCurrent f_callsActive f_callsMade f_runOutcome f_runValue a_slotStates a_slotArities a_slotStarts a_slotSizes a_kinds a_firstOperands a_secondOperands a_children a_parents a_depths a_pendingNodes a_summaries a_nextSummaries a_nodeTypes a_paramsAfter a_params a_values a_arguments a_frameSlots a_frameNodes := by
  refine br_t (nI_le (Nat.le_refl _) (by omega)) ?_
  rw [xc_32, nI_clamp (by omega), hr]
  exact ⟨vp_in_nI (by omega) (by omega), H⟩
theorem xc_c1 {Q : Int32 → St2 → Prop} (hB : rl_body N k n S K A B a_kinds a_firstOperands a_secondOperands a_children a_parents a_depths) (hk : k ≤ 2) {i g j m fuel : Nat} (hi : i < n) (hg : g < 8) (hm : m ≤ 2) (hj : j < m) (hjc : j < rl_c K B i)
    {x q : ty_T} {e : ab_E} (ox : ty_ok x) (oq : ty_ok q) (he : xa_e e) (hx : a_nodeTypes (S + bs_ch (rl_c K B) i j) = ty_x x) (hq : a_summaries (g * 3 + j) = ty_x q) (h0 : a_params 0 = ty_x e.1) (h1 : a_params 1 = ty_x e.2)
    (H0 : ty_meet x q = ty_0 → Q 0 (f_slotCount, f_capacity, f_nodesUsed, f_buildingSlot, f_pendingCount, f_summariesCurrent, f_callsActive, f_callsMade, f_runOutcome, f_runValue, a_slotStates, a_slotArities, a_slotStarts, a_slotSizes, a_kinds, a_firstOperands, a_secondOperands, a_children, a_parents, a_depths, a_pendingNodes, a_summaries, a_nextSummaries, a_nodeTypes, a_paramsAfter, a_params, a_values, a_arguments, a_frameSlots, a_frameNodes))
    (H1 : ¬ ty_meet x q = ty_0 → ∀ P : Nat → Int32, P 0 = ty_x (ab_nv K A (bs_ch (rl_c K B) i j) q e).1 → P 1 = ty_x (ab_nv K A (bs_ch (rl_c K B) i j) q e).2 → wX_inferCall_39 Q (nI (S + i)) (nI g) (nI m) fuel (nI (j + 1)) f_slotCount f_capacity f_nodesUsed f_buildingSlot f_pendingCount f_summariesCurrent f_callsActive f_callsMade f_runOutcome f_runValue a_slotStates a_slotArities a_slotStarts a_slotSizes a_kinds a_firstOperands a_secondOperands a_children a_parents a_depths a_pendingNodes a_summaries a_nextSummaries a_nodeTypes a_paramsAfter P a_values a_arguments a_frameSlots a_frameNodes) :
    wX_inferCall_39 Q (nI (S + i)) (nI g) (nI m) (fuel + 1) (nI j) f_slotCount f_capacity f_nodesUsed f_buildingSlot f_pendingCount f_summariesCurrent f_callsActive f_callsMade f_runOutcome f_runValue a_slotStates a_slotArities a_slotStarts a_slotSizes a_kinds a_firstOperands a_secondOperands a_children a_parents a_depths a_pendingNodes a_summaries a_nextSummaries a_nodeTypes a_paramsAfter a_params a_values a_arguments a_frameSlots a_frameNodes := by
  obtain ⟨w1, cl1, r1, l1⟩ := xc_child hB hi hjc
  obtain ⟨wx, clx, _⟩ := xc_row hB l1
  have hS := hB.1
  refine br_f (nI_ge hj (by omega)) ?_
  rw [xc_3, xc_3, nI_add, nI_add, cl1, r1, nI_clamp (by omega), hq]
  refine ⟨w1, nm_e ⟨vp_in_nI (by omega) (by omega), nm_e ⟨wx, ?_⟩⟩⟩
  rw [clx, hx]
  refine xt_meet ox oq ?_
  by_cases z : ty_meet x q = ty_0
  · exact br_t ((ty_x_0 (ty_meet_ok ox oq)).mpr z) (H0 z)
  · refine br_f (fun e => z ((ty_x_0 (ty_meet_ok ox oq)).mp e)) ?_
    exact xc_nv hB hk l1 oq he h0 h1 fun P p0 p1 => nm_r (nI_1 j) (H1 z P p0 p1)
/-- an outcome as inferNode gives it: a type, and the parameters behind it -/
def xc_o (r : ty_T) (e : ab_E) (o : ab_O) : Prop := xa_e e ∧ ty_ok r ∧ ab_fin r e = o
theorem xc_nofit {st ar : Nat → Int32} {K A B : Nat → Int32} {c : Nat → Nat} {tb : Nat → ty_T} {i : Nat} {x y : ty_T} {e : ab_E} {o : ab_O} (h : ¬ (st (A i).toNatClampNeg = 2 ∧ ar (A i).toNatClampNeg = B i))
    (ho : o = if B i = 0 then ab_cl0 A B st ar tb i e else if B i = 1 then ab_cl1 K A B st ar c tb i x e else ab_cl2 K A B st ar c tb i x y e) : o = none := by
  have f : ab_fits A B st ar i = false := by
    unfold ab_fits
    by_cases a : st (A i).toNatClampNeg = 2
    · rw [decide_eq_false (fun z => h ⟨a, z⟩), Bool.and_false]
    · rw [decide_eq_false a, Bool.false_and]
  rw [ho]
  unfold ab_cl0 ab_cl1 ab_cl2 ab_gd
  rw [f]
  simp
theorem xc_call {Q : Int32 → St2 → Prop} {tb : Nat → ty_T} (hB : rl_body N k n S K A B a_kinds a_firstOperands a_secondOperands a_children a_parents a_depths) (hk : k ≤ 2) (hN : N ≤ 8) {i : Nat} (hi : i < n) (h9 : K i = 9)
    {x y : ty_T} {e : ab_E} (ox : ty_ok x) (oy : ty_ok y) (he : xa_e e) (hT : ∀ q, ty_ok (tb q)) (hs : ∀ q, q < 24 → a_summaries q = ty_x (tb q)) (h0 : a_params 0 = ty_x e.1) (h1 : a_params 1 = ty_x e.2)
    (hx : 1 ≤ rl_c K B i → a_nodeTypes (S + bs_ch (rl_c K B) i 0) = ty_x x) (hy : 2 ≤ rl_c K B i → a_nodeTypes (S + bs_ch (rl_c K B) i 1) = ty_x y) {o : ab_O}
    (ho : o = if B i = 0 then ab_cl0 A B a_slotStates a_slotArities tb i e else if B i = 1 then ab_cl1 K A B a_slotStates a_slotArities (rl_c K B) tb i x e else ab_cl2 K A B a_slotStates a_slotArities (rl_c K B) tb i x y e)
    (H : ∀ (P : Nat → Int32) (r : ty_T) (e' : ab_E), xc_o r e' o → P 0 = ty_x e'.1 → P 1 = ty_x e'.2 → Q (ty_x r) (f_slotCount, f_capacity, f_nodesUsed, f_buildingSlot, f_pendingCount, f_summariesCurrent, f_callsActive, f_callsMade, f_runOutcome, f_runValue, a_slotStates, a_slotArities, a_slotStarts, a_slotSizes, a_kinds, a_firstOperands, a_secondOperands, a_children, a_parents, a_depths, a_pendingNodes, a_summaries, a_nextSummaries, a_nodeTypes, a_paramsAfter, P, a_values, a_arguments, a_frameSlots, a_frameNodes)) : wpX_inferCall Q (f_slotCount, f_capacity, f_nodesUsed, f_buildingSlot, f_pendingCount, f_summariesCurrent, f_callsActive, f_callsMade, f_runOutcome, f_runValue, a_slotStates, a_slotArities, a_slotStarts, a_slotSizes, a_kinds, a_firstOperands, a_secondOperands, a_children, a_parents, a_depths, a_pendingNodes, a_summaries, a_nextSummaries, a_nodeTypes, a_paramsAfter, a_params, a_values, a_arguments, a_frameSlots, a_frameNodes) (nI (S + i)) := by
  obtain ⟨w, cl, rk, ra, rb⟩ := xc_row hB hi
  obtain ⟨g, hg, eg⟩ := (hB.2.1.1 i hi).2.2.2.2.1 h9
  obtain ⟨m, hm, em⟩ := (hB.2.1.1 i hi).2.2.2.2.2.1
  have cm : rl_c K B i = m := by rw [show rl_c K B i = bs_cc (K i) (B i) from rfl, h9, bs_cc9, em, nI_clamp (by omega)]
  have H0 : o = none → ∀ P : Nat → Int32, ∀ e', xa_e e' → P 0 = ty_x e'.1 → P 1 = ty_x e'.2 → Q 0 (f_slotCount, f_capacity, f_nodesUsed, f_buildingSlot, f_pendingCount, f_summariesCurrent, f_callsActive, f_callsMade, f_runOutcome, f_runValue, a_slotStates, a_slotArities, a_slotStarts, a_slotSizes, a_kinds, a_firstOperands, a_secondOperands, a_children, a_parents, a_depths, a_pendingNodes, a_summaries, a_nextSummaries, a_nodeTypes, a_paramsAfter, P, a_values, a_arguments, a_frameSlots, a_frameNodes) := fun on P e' oe p0 p1 => by
    have := H P ty_0 e' ⟨oe, ty_0_ok, by rw [on]; unfold ab_fin; rw [if_pos (Or.inl rfl)]⟩ p0 p1
    rw [ty_x_00] at this
    exact this
  have wg : vp_in (nI g) 8 := vp_in_nI (by omega) (by omega)
  have cg : (nI g).toNatClampNeg = g := nI_clamp (by omega)
  unfold wpX_inferCall
  dsimp only
  rw [cl, ra, rb, eg, em]
  refine ⟨w, nm_e ⟨w, nm_e ⟨wg, ?_⟩⟩⟩
  rw [cg]
  by_cases s2 : a_slotStates g = 2
  · refine br_t s2 ⟨wg, ?_⟩
    by_cases am : a_slotArities g = nI m
    · refine br_t am ⟨3, ?_⟩
      have fits : ab_fits A B a_slotStates a_slotArities i = true := by
        unfold ab_fits
        rw [eg, cg, em, decide_eq_true s2, decide_eq_true am]; rfl
      have cl0 : ∀ e, ab_cl0 A B a_slotStates a_slotArities tb i e = ab_fin (tb (g * 3 + 2)) e := fun e => by unfold ab_cl0 ab_gd; rw [fits, if_pos rfl, eg, cg]
      have hg8 : g < 8 := by omega
      have mm : m = 0 ∨ m = 1 ∨ m = 2 := by omega
      rcases mm with rfl | rfl | rfl
      · rw [em, if_pos nI_0, cl0] at ho
        exact xc_c0 (m := 0) hg8 (fuel := 2) (hs _ (by omega)) (by omega) (H a_params _ e ⟨he, hT _, ho.symm⟩ h0 h1)
      · have cl1 : ab_cl1 K A B a_slotStates a_slotArities (rl_c K B) tb i x e = if ty_meet x (tb (g * 3)) = ty_0 then none else ab_fin (tb (g * 3 + 2)) (ab_nv K A (bs_ch (rl_c K B) i 0) (tb (g * 3)) e) := by
          unfold ab_cl1 ab_gd ab_arg; rw [fits, if_pos rfl, eg, cg]
        rw [em, if_neg (by decide), if_pos (by decide), cl1] at ho
        refine xc_c1 (j := 0) (m := 1) (fuel := 2) hB hk hi hg8 (by omega) (by omega) (by omega) ox (hT (g * 3)) he (hx (by omega)) (hs _ (by omega)) h0 h1 (fun z => ?_) (fun z P p0 p1 => ?_)
        · rw [if_pos z] at ho
          exact H0 ho a_params e he h0 h1
        · rw [if_neg z] at ho
          exact xc_c0 (m := 1) hg8 (fuel := 1) (hs _ (by omega)) (by omega) (H P _ _ ⟨xa_nv_e (hT _) he, hT _, ho.symm⟩ p0 p1)
      · have cl2 : ab_cl2 K A B a_slotStates a_slotArities (rl_c K B) tb i x y e = if ty_meet x (tb (g * 3)) = ty_0 then none else if ty_meet y (tb (g * 3 + 1)) = ty_0 then none
            else ab_fin (tb (g * 3 + 2)) (ab_nv K A (bs_ch (rl_c K B) i 1) (tb (g * 3 + 1)) (ab_nv K A (bs_ch (rl_c K B) i 0) (tb (g * 3)) e)) := by
          unfold ab_cl2 ab_gd ab_arg; rw [fits, if_pos rfl, eg, cg]
        rw [em, if_neg (by decide), if_neg (by decide), cl2] at ho
        refine xc_c1 (j := 0) (m := 2) (fuel := 2) hB hk hi hg8 (by omega) (by omega) (by omega) ox (hT (g * 3)) he (hx (by omega)) (hs _ (by omega)) h0 h1 (fun z => ?_) (fun z P p0 p1 => ?_)
        · rw [if_pos z] at ho
          exact H0 ho a_params e he h0 h1
        · rw [if_neg z] at ho
          refine xc_c1 (j := 1) (m := 2) (fuel := 1) hB hk hi hg8 (by omega) (by omega) (by omega) oy (hT (g * 3 + 1)) (xa_nv_e (hT _) he) (hy (by omega)) (hs _ (by omega)) p0 p1 (fun z => ?_) (fun z P' p0' p1' => ?_)
          · rw [if_pos z] at ho
            exact H0 ho P _ (xa_nv_e (hT _) he) p0 p1
          · rw [if_neg z] at ho
            exact xc_c0 (m := 2) hg8 (fuel := 0) (hs _ (by omega)) (by omega) (H P' _ _ ⟨xa_nv_e (hT _) (xa_nv_e (hT _) he), hT _, ho.symm⟩ p0' p1')
    · refine br_f am (H0 (xc_nofit (fun z => am (by rw [← em, ← z.2, eg, cg])) ho) a_params e he h0 h1)
  · refine br_f s2 (H0 (xc_nofit (fun z => s2 (by rw [← z.1, eg, cg])) ho) a_params e he h0 h1)
/-- a leaf -/
theorem xc_pow : ∀ j, j < 8 → (1 : Int32) <<< (nI j &&& 31) = nI (2 ^ j) := by decide
theorem xa_jn_fin {o o' : ab_O} (h : ab_po k o) (h' : ab_po k o') : ab_fin (ty_join (xa_ty o) (xa_ty o')) (ty_join (xa_en o).1 (xa_en o').1, ty_join (xa_en o).2 (xa_en o').2) = ab_jn o o' := by
  cases o with
  | none =>
    cases o' with
    | none => exact ab_fin_dead (Or.inl (ty_join_0 ty_0))
    | some y =>
      obtain ⟨_, a, _, b, c⟩ := h' y rfl
      show ab_fin (ty_join ty_0 y.1) (ty_join ty_0 y.2.1, ty_join ty_0 y.2.2) = some y
      rw [ty_0_join, ty_0_join, ty_0_join]
      exact ab_fin_to a b c
  | some x =>
    obtain ⟨_, a, _, b, c⟩ := h x rfl
    cases o' with
    | none =>
      show ab_fin (ty_join x.1 ty_0) (ty_join x.2.1 ty_0, ty_join x.2.2 ty_0) = some x
      rw [ty_join_0, ty_join_0, ty_join_0]
      exact ab_fin_to a b c
    | some y => exact ab_fin_to (ty_le_ne (ty_join_l _ _) a) (ty_le_ne (ty_join_l _ _) b) (ty_le_ne (ty_join_l _ _) c)
end

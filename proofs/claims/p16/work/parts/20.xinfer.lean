theorem xc_3 (r : Nat) : nI r * 3 = nI (r * 3) := by rw [show (3 : Int32) = nI 3 by decide, pk_mul]
theorem xc_31 (r : Nat) : nI r * 3 + 1 = nI (r * 3 + 1) := by rw [xc_3, nI_1]
theorem xc_32 (r : Nat) : nI r * 3 + 2 = nI (r * 3 + 2) := by rw [xc_3, show (2 : Int32) = nI 2 by decide, nI_add]
theorem xc_2 (r : Nat) : nI r * 2 = nI (r * 2) := by rw [show (2 : Int32) = nI 2 by decide, pk_mul]
theorem xc_21 (r : Nat) : nI r * 2 + 1 = nI (r * 2 + 1) := by rw [xc_2, nI_1]
theorem xc_ints : (13041920 : Int32) = ty_x ty_ints := by decide
theorem xc_any : (13042175 : Int32) = ty_x ty_any := by decide
theorem xc_bool : (3 : Int32) = ty_x ty_bool := by decide
theorem xc_ats : (255 : Int32) = ty_x ty_ats := by decide
theorem ty_lw_add : ∀ a, a < 19 → ∀ b, b < 19 → (ty_lw a + ty_lw b).toInt = ty_lv a + ty_lv b := by decide +kernel
theorem ty_hw_add : ∀ a, a < 19 → ∀ b, b < 19 → (ty_hw a + ty_hw b).toInt = ty_hv a + ty_hv b := by decide +kernel
theorem ty_lh_sub : ∀ a, a < 19 → ∀ b, b < 19 → (ty_lw a - ty_hw b).toInt = ty_lv a - ty_hv b := by decide +kernel
theorem ty_hl_sub : ∀ a, a < 19 → ∀ b, b < 19 → (ty_hw a - ty_lw b).toInt = ty_hv a - ty_lv b := by decide +kernel
theorem ty_lv_8 {l : Nat} (h : 0 < l) : ty_lv l ≤ 8 := by unfold ty_lv; split <;> omega
theorem ty_hv_8 {l : Nat} (h : 0 < l) : -8 ≤ ty_hv l := by unfold ty_hv; split <;> omega
section
variable {f_slotCount f_capacity f_nodesUsed f_buildingSlot f_pendingCount f_summariesCurrent f_callsActive f_callsMade f_runOutcome f_runValue : Int32} {a_slotStates a_slotArities a_slotStarts a_slotSizes a_kinds a_firstOperands a_secondOperands a_children a_parents a_depths a_pendingNodes a_summaries a_nextSummaries a_nodeTypes a_paramsAfter a_params a_values a_arguments a_frameSlots a_frameNodes : Nat → Int32} {N k n S : Nat} {K A B : Nat → Int32}
theorem xc_row (hB : rl_body N k n S K A B a_kinds a_firstOperands a_secondOperands a_children a_parents a_depths) {i : Nat} (hi : i < n) :
    vp_in (nI (S + i)) 128 ∧ (nI (S + i)).toNatClampNeg = S + i ∧ a_kinds (S + i) = K i ∧ a_firstOperands (S + i) = A i ∧ a_secondOperands (S + i) = B i := by
  obtain ⟨h1, h2, h3⟩ := hB
  obtain ⟨r1, r2, r3, _⟩ := h3 i hi
  exact ⟨vp_in_nI (by omega) (by omega), nI_clamp (by omega), r1, r2, r3⟩
theorem xc_child (hB : rl_body N k n S K A B a_kinds a_firstOperands a_secondOperands a_children a_parents a_depths) {i j : Nat} (hi : i < n) (hj : j < rl_c K B i) :
    vp_in (nI ((S + i) * 3 + j)) 384 ∧ (nI ((S + i) * 3 + j)).toNatClampNeg = (S + i) * 3 + j ∧ a_children ((S + i) * 3 + j) = nI (S + bs_ch (rl_c K B) i j) ∧ bs_ch (rl_c K B) i j < n := by
  obtain ⟨h1, h2, h3⟩ := hB
  obtain ⟨r1, r2, r3, r4, _⟩ := h3 i hi
  have c3 := ab_c3 h2 hi
  have lt := bs_ch_lt h2.2.2 hi hj
  exact ⟨vp_in_nI (by omega) (by omega), nI_clamp (by omega), (r4 j hj).1, by omega⟩
theorem xc_nv {Q : St2 → Prop} (hB : rl_body N k n S K A B a_kinds a_firstOperands a_secondOperands a_children a_parents a_depths) (hk : k ≤ 2) {p : Nat} (hp : p < n) {t : ty_T} (ht : ty_ok t) {e : ab_E} (he : xa_e e)
    (h0 : a_params 0 = ty_x e.1) (h1 : a_params 1 = ty_x e.2) (H : ∀ P : Nat → Int32, P 0 = ty_x (ab_nv K A p t e).1 → P 1 = ty_x (ab_nv K A p t e).2 → Q (f_slotCount, f_capacity, f_nodesUsed, f_buildingSlot, f_pendingCount, f_summariesCurrent, f_callsActive, f_callsMade, f_runOutcome, f_runValue, a_slotStates, a_slotArities, a_slotStarts, a_slotSizes, a_kinds, a_firstOperands, a_secondOperands, a_children, a_parents, a_depths, a_pendingNodes, a_summaries, a_nextSummaries, a_nodeTypes, a_paramsAfter, P, a_values, a_arguments, a_frameSlots, a_frameNodes)) : wpX_narrowVariable Q (f_slotCount, f_capacity, f_nodesUsed, f_buildingSlot, f_pendingCount, f_summariesCurrent, f_callsActive, f_callsMade, f_runOutcome, f_runValue, a_slotStates, a_slotArities, a_slotStarts, a_slotSizes, a_kinds, a_firstOperands, a_secondOperands, a_children, a_parents, a_depths, a_pendingNodes, a_summaries, a_nextSummaries, a_nodeTypes, a_paramsAfter, a_params, a_values, a_arguments, a_frameSlots, a_frameNodes) (nI (S + p)) (ty_x t) := by
  obtain ⟨w, cl, rk, ra, _⟩ := xc_row (a_kinds := a_kinds) (a_firstOperands := a_firstOperands) (a_secondOperands := a_secondOperands) (a_children := a_children) (a_parents := a_parents) (a_depths := a_depths) hB hp
  unfold wpX_narrowVariable
  dsimp only
  rw [cl, rk, ra]
  unfold ab_nv at H
  by_cases z : K p = 2
  · rw [if_pos z] at H
    obtain ⟨j, hj, ej⟩ := ab_var hB.2.1 hp z
    rw [ej] at H ⊢
    have jj : j = 0 ∨ j = 1 := by omega
    rcases jj with rfl | rfl
    · rw [if_pos nI_0] at H
      refine ⟨w, br_t z ⟨w, nm_e ⟨vp_in_nI (by decide) (by decide), ?_⟩⟩⟩
      rw [nI_clamp (by decide), h0]
      refine xt_meet he.1 ht ⟨vp_in_nI (by decide) (by decide), nm_e (H _ pk_us ?_)⟩
      rw [pk_un (by decide)]; exact h1
    · rw [if_neg (by decide)] at H
      refine ⟨w, br_t z ⟨w, nm_e ⟨vp_in_nI (by decide) (by decide), ?_⟩⟩⟩
      rw [nI_clamp (by decide), h1]
      refine xt_meet he.2 ht ⟨vp_in_nI (by decide) (by decide), nm_e (H _ ?_ pk_us)⟩
      rw [pk_un (by decide)]; exact h0
  · rw [if_neg z] at H
    exact ⟨w, br_f z (H a_params h0 h1)⟩
theorem xa_nv_e {K A : Nat → Int32} {p : Nat} {t : ty_T} {e : ab_E} (ht : ty_ok t) (he : xa_e e) : xa_e (ab_nv K A p t e) := by
  unfold ab_nv
  split
  · split
    · exact ⟨ty_meet_ok he.1 ht, he.2⟩
    · exact ⟨he.1, ty_meet_ok he.2 ht⟩
  · exact he
theorem xc_164 {Q : Int32 → St2 → Prop} {x5 x6 z0 : Int32} (h1 : x5 < x6 → Q (z0 ||| 0) (f_slotCount, f_capacity, f_nodesUsed, f_buildingSlot, f_pendingCount, f_summariesCurrent, f_callsActive, f_callsMade, f_runOutcome, f_runValue, a_slotStates, a_slotArities, a_slotStarts, a_slotSizes, a_kinds, a_firstOperands, a_secondOperands, a_children, a_parents, a_depths, a_pendingNodes, a_summaries, a_nextSummaries, a_nodeTypes, a_paramsAfter, a_params, a_values, a_arguments, a_frameSlots, a_frameNodes)) (h2 : ¬ x5 < x6 → Q (z0 ||| 1) (f_slotCount, f_capacity, f_nodesUsed, f_buildingSlot, f_pendingCount, f_summariesCurrent, f_callsActive, f_callsMade, f_runOutcome, f_runValue, a_slotStates, a_slotArities, a_slotStarts, a_slotSizes, a_kinds, a_firstOperands, a_secondOperands, a_children, a_parents, a_depths, a_pendingNodes, a_summaries, a_nextSummaries, a_nodeTypes, a_paramsAfter, a_params, a_values, a_arguments, a_frameSlots, a_frameNodes)) : wX_inferNumeric_164 Q x5 x6 z0 f_slotCount f_capacity f_nodesUsed f_buildingSlot f_pendingCount f_summariesCurrent f_callsActive f_callsMade f_runOutcome f_runValue a_slotStates a_slotArities a_slotStarts a_slotSizes a_kinds a_firstOperands a_secondOperands a_children a_parents a_depths a_pendingNodes a_summaries a_nextSummaries a_nodeTypes a_paramsAfter a_params a_values a_arguments a_frameSlots a_frameNodes := br_c h1 h2
theorem xc_numeric {Q : Int32 → St2 → Prop} (hB : rl_body N k n S K A B a_kinds a_firstOperands a_secondOperands a_children a_parents a_depths) (hk : k ≤ 2) {i : Nat} (hi : i < n) (hK : K i = 3 ∨ K i = 4 ∨ K i = 5) (hc : rl_c K B i = 2)
    {x y : ty_T} {e : ab_E} (ox : ty_ok x) (oy : ty_ok y) (he : xa_e e) (hx : a_nodeTypes (S + bs_ch (rl_c K B) i 0) = ty_x x) (hy : a_nodeTypes (S + bs_ch (rl_c K B) i 1) = ty_x y)
    (h0 : a_params 0 = ty_x e.1) (h1 : a_params 1 = ty_x e.2) (H0 : (x.2.1 = 0 ∨ y.2.1 = 0) → Q 0 (f_slotCount, f_capacity, f_nodesUsed, f_buildingSlot, f_pendingCount, f_summariesCurrent, f_callsActive, f_callsMade, f_runOutcome, f_runValue, a_slotStates, a_slotArities, a_slotStarts, a_slotSizes, a_kinds, a_firstOperands, a_secondOperands, a_children, a_parents, a_depths, a_pendingNodes, a_summaries, a_nextSummaries, a_nodeTypes, a_paramsAfter, a_params, a_values, a_arguments, a_frameSlots, a_frameNodes))
    (H1 : ¬ (x.2.1 = 0 ∨ y.2.1 = 0) → ∀ P : Nat → Int32, P 0 = ty_x (ab_nv K A (bs_ch (rl_c K B) i 1) ty_ints (ab_nv K A (bs_ch (rl_c K B) i 0) ty_ints e)).1 → P 1 = ty_x (ab_nv K A (bs_ch (rl_c K B) i 1) ty_ints (ab_nv K A (bs_ch (rl_c K B) i 0) ty_ints e)).2 → Q (ty_x (ab_num (K i) x y)) (f_slotCount, f_capacity, f_nodesUsed, f_buildingSlot, f_pendingCount, f_summariesCurrent, f_callsActive, f_callsMade, f_runOutcome, f_runValue, a_slotStates, a_slotArities, a_slotStarts, a_slotSizes, a_kinds, a_firstOperands, a_secondOperands, a_children, a_parents, a_depths, a_pendingNodes, a_summaries, a_nextSummaries, a_nodeTypes, a_paramsAfter, P, a_values, a_arguments, a_frameSlots, a_frameNodes)) :
    wpX_inferNumeric Q (f_slotCount, f_capacity, f_nodesUsed, f_buildingSlot, f_pendingCount, f_summariesCurrent, f_callsActive, f_callsMade, f_runOutcome, f_runValue, a_slotStates, a_slotArities, a_slotStarts, a_slotSizes, a_kinds, a_firstOperands, a_secondOperands, a_children, a_parents, a_depths, a_pendingNodes, a_summaries, a_nextSummaries, a_nodeTypes, a_paramsAfter, a_params, a_values, a_arguments, a_frameSlots, a_frameNodes) (nI (S + i)) := by
  obtain ⟨w, cl, rk, ra, _⟩ := xc_row (a_kinds := a_kinds) (a_firstOperands := a_firstOperands) (a_secondOperands := a_secondOperands) (a_children := a_children) (a_parents := a_parents) (a_depths := a_depths) hB hi
  obtain ⟨w0, cl0, r0, l0⟩ := xc_child (a_kinds := a_kinds) (a_firstOperands := a_firstOperands) (a_secondOperands := a_secondOperands) (a_children := a_children) (a_parents := a_parents) (a_depths := a_depths) hB hi (j := 0) (by omega)
  obtain ⟨w1, cl1, r1, l1⟩ := xc_child (a_kinds := a_kinds) (a_firstOperands := a_firstOperands) (a_secondOperands := a_secondOperands) (a_children := a_children) (a_parents := a_parents) (a_depths := a_depths) hB hi (j := 1) (by omega)
  obtain ⟨wx, clx, rkx, rax, _⟩ := xc_row (a_kinds := a_kinds) (a_firstOperands := a_firstOperands) (a_secondOperands := a_secondOperands) (a_children := a_children) (a_parents := a_parents) (a_depths := a_depths) hB l0
  obtain ⟨wy, cly, rky, ray, _⟩ := xc_row (a_kinds := a_kinds) (a_firstOperands := a_firstOperands) (a_secondOperands := a_secondOperands) (a_children := a_children) (a_parents := a_parents) (a_depths := a_depths) hB l1
  rw [Nat.add_zero] at w0 cl0 r0
  unfold wpX_inferNumeric
  dsimp only
  rw [xc_31, xc_3, cl0, cl1, r0, r1]
  refine ⟨w0, nm_e ⟨w1, nm_e ⟨wx, ?_⟩⟩⟩
  rw [clx, hx]
  refine xt_has ox (fun x0 => br_t rfl (H0 (Or.inl x0))) (fun x0 => br_f (by decide) ⟨wy, ?_⟩)
  rw [cly, hy]
  refine xt_has oy (fun y0 => br_t rfl (H0 (Or.inr y0))) (fun y0 => br_f (by decide) ?_)
  have H := H1 (fun z => z.elim x0 y0)
  rw [xc_ints]
  refine xc_nv hB hk l0 ty_ints_ok he h0 h1 fun P p0 p1 => ?_
  refine xc_nv hB hk l1 ty_ints_ok (xa_nv_e ty_ints_ok he) p0 p1 fun P' p0' p1' => ?_
  have H := H P' p0' p1'
  have x1 := ty_ok_l ox
  have x2 := ty_ok_h ox
  have y1 := ty_ok_l oy
  have y2 := ty_ok_h oy
  have u0 := ty_ok_0 ox
  have v0 := ty_ok_0 oy
  have ex := ty_lh ox x0
  have ey := ty_lh oy y0
  have b1 := ty_lv_8 (l := x.2.1) (by omega)
  have b2 := ty_lv_8 (l := y.2.1) (by omega)
  have b3 := ty_hv_8 (l := x.2.2) (by omega)
  have b4 := ty_hv_8 (l := y.2.2) (by omega)
  dsimp only
  refine ⟨wx, ?_⟩
  rw [cl, hx, hy, rk]
  refine xt_low ox x0 ⟨wx, xt_high ox x0 ⟨wy, xt_low oy y0 ⟨wy, xt_high oy y0 ⟨w, ?_⟩⟩⟩⟩
  rcases hK with k3 | k4 | k5
  · have e1 := ty_lw_add x.2.1 (by omega) y.2.1 (by omega)
    have e2 := ty_hw_add x.2.2 (by omega) y.2.2 (by omega)
    have en : ab_num (K i) x y = (0, ty_rl (ty_lv x.2.1 + ty_lv y.2.1), ty_rh (ty_hv x.2.2 + ty_hv y.2.2)) := by unfold ab_num; rw [if_pos k3]
    rw [en, ← e1, ← e2] at H
    exact br_t k3 (xt_range (by omega) (by omega) (by omega) H)
  · have e1 := ty_lh_sub x.2.1 (by omega) y.2.2 (by omega)
    have e2 := ty_hl_sub x.2.2 (by omega) y.2.1 (by omega)
    have n3 : ¬ K i = 3 := by rw [k4]; decide
    have en : ab_num (K i) x y = (0, ty_rl (ty_lv x.2.1 - ty_hv y.2.2), ty_rh (ty_hv x.2.2 - ty_lv y.2.1)) := by unfold ab_num; rw [if_neg n3, if_pos k4]
    rw [en, ← e1, ← e2] at H
    exact br_f n3 ⟨w, br_t k4 (xt_range (by omega) (by omega) (by omega) H)⟩
  · have n3 : ¬ K i = 3 := by rw [k5]; decide
    have n4 : ¬ K i = 4 := by rw [k5]; decide
    have en : ab_num (K i) x y = ((if ty_lv x.2.1 < ty_hv y.2.2 then 2 else 0) + (if ty_lv y.2.1 ≤ ty_hv x.2.2 then 1 else 0), 0, 0) := by unfold ab_num; rw [if_neg n3, if_neg n4]
    rw [en] at H
    have t1 := ty_lw_t x.2.1 (by omega)
    have t2 := ty_hw_t x.2.2 (by omega)
    have t3 := ty_lw_t y.2.1 (by omega)
    have t4 := ty_hw_t y.2.2 (by omega)
    refine br_f n3 ⟨w, br_f n4 ?_⟩
    by_cases c : ty_hw y.2.2 ≤ ty_lw x.2.1
    · have c' := c
      rw [Int32.le_iff_toInt_le, t1, t4] at c'
      rw [if_neg (by omega)] at H
      refine br_t c (xc_164 (fun d => ?_) (fun d => ?_))
      · rw [Int32.lt_iff_toInt_lt, t2, t3] at d
        rw [if_neg (by omega)] at H
        exact H
      · rw [Int32.lt_iff_toInt_lt, t2, t3] at d
        rw [if_pos (by omega)] at H
        exact H
    · have c' := c
      rw [Int32.le_iff_toInt_le, t1, t4] at c'
      rw [if_pos (by omega)] at H
      refine br_f c (xc_164 (fun d => ?_) (fun d => ?_))
      · rw [Int32.lt_iff_toInt_lt, t2, t3] at d
        rw [if_neg (by omega)] at H
        exact H
      · rw [Int32.lt_iff_toInt_lt, t2, t3] at d
        rw [if_pos (by omega)] at H
        exact H
theorem xc_equal {Q : Int32 → Prop} (hB : rl_body N k n S K A B a_kinds a_firstOperands a_secondOperands a_children a_parents a_depths) {i : Nat} (hi : i < n) (hc : rl_c K B i = 2)
    {x y : ty_T} (ox : ty_ok x) (oy : ty_ok y) (hx : a_nodeTypes (S + bs_ch (rl_c K B) i 0) = ty_x x) (hy : a_nodeTypes (S + bs_ch (rl_c K B) i 1) = ty_x y)
    (H : Q (ty_x ((if ty_meet x y = ty_0 then 1 else 3), 0, 0))) : wpX_inferEqual Q (f_slotCount, f_capacity, f_nodesUsed, f_buildingSlot, f_pendingCount, f_summariesCurrent, f_callsActive, f_callsMade, f_runOutcome, f_runValue, a_slotStates, a_slotArities, a_slotStarts, a_slotSizes, a_kinds, a_firstOperands, a_secondOperands, a_children, a_parents, a_depths, a_pendingNodes, a_summaries, a_nextSummaries, a_nodeTypes, a_paramsAfter, a_params, a_values, a_arguments, a_frameSlots, a_frameNodes) (nI (S + i)) := by
  obtain ⟨w0, cl0, r0, l0⟩ := xc_child (a_kinds := a_kinds) (a_firstOperands := a_firstOperands) (a_secondOperands := a_secondOperands) (a_children := a_children) (a_parents := a_parents) (a_depths := a_depths) hB hi (j := 0) (by omega)
  obtain ⟨w1, cl1, r1, l1⟩ := xc_child (a_kinds := a_kinds) (a_firstOperands := a_firstOperands) (a_secondOperands := a_secondOperands) (a_children := a_children) (a_parents := a_parents) (a_depths := a_depths) hB hi (j := 1) (by omega)
  obtain ⟨wx, clx, rkx, rax, _⟩ := xc_row (a_kinds := a_kinds) (a_firstOperands := a_firstOperands) (a_secondOperands := a_secondOperands) (a_children := a_children) (a_parents := a_parents) (a_depths := a_depths) hB l0
  obtain ⟨wy, cly, rky, ray, _⟩ := xc_row (a_kinds := a_kinds) (a_firstOperands := a_firstOperands) (a_secondOperands := a_secondOperands) (a_children := a_children) (a_parents := a_parents) (a_depths := a_depths) hB l1
  rw [Nat.add_zero] at w0 cl0 r0
  unfold wpX_inferEqual
  dsimp only
  rw [xc_31, xc_3, cl0, cl1, r0, r1]
  refine ⟨w0, nm_e ⟨w1, nm_e ⟨wx, wy, ?_⟩⟩⟩
  rw [clx, cly, hx, hy]
  refine xt_meet ox oy ?_
  by_cases z : ty_meet x y = ty_0
  · rw [if_pos z] at H
    exact br_t ((ty_x_0 (ty_meet_ok ox oy)).mpr z) H
  · rw [if_neg z] at H
    exact br_f (fun e => z ((ty_x_0 (ty_meet_ok ox oy)).mp e)) H
theorem xc_isint {Q : Int32 → Prop} (hB : rl_body N k n S K A B a_kinds a_firstOperands a_secondOperands a_children a_parents a_depths) {i : Nat} (hi : i < n) (hc : rl_c K B i = 1)
    {x : ty_T} (ox : ty_ok x) (hx : a_nodeTypes (S + bs_ch (rl_c K B) i 0) = ty_x x)
    (H : Q (ty_x ((if x.1 = 0 then 0 else 1) + (if x.2.1 = 0 then 0 else 2), 0, 0))) : wpX_inferIsInt Q (f_slotCount, f_capacity, f_nodesUsed, f_buildingSlot, f_pendingCount, f_summariesCurrent, f_callsActive, f_callsMade, f_runOutcome, f_runValue, a_slotStates, a_slotArities, a_slotStarts, a_slotSizes, a_kinds, a_firstOperands, a_secondOperands, a_children, a_parents, a_depths, a_pendingNodes, a_summaries, a_nextSummaries, a_nodeTypes, a_paramsAfter, a_params, a_values, a_arguments, a_frameSlots, a_frameNodes) (nI (S + i)) := by
  obtain ⟨w0, cl0, r0, l0⟩ := xc_child (a_kinds := a_kinds) (a_firstOperands := a_firstOperands) (a_secondOperands := a_secondOperands) (a_children := a_children) (a_parents := a_parents) (a_depths := a_depths) hB hi (j := 0) (by omega)
  obtain ⟨wx, clx, rkx, rax, _⟩ := xc_row (a_kinds := a_kinds) (a_firstOperands := a_firstOperands) (a_secondOperands := a_secondOperands) (a_children := a_children) (a_parents := a_parents) (a_depths := a_depths) hB l0
  rw [Nat.add_zero] at w0 cl0 r0
  unfold wpX_inferIsInt
  dsimp only
  rw [xc_3, cl0, r0]
  refine ⟨w0, wx, nm_r (e' := ty_x x) (by rw [clx]; exact hx) ?_⟩
  rw [ty_xm ox]
  have om := ox.1
  by_cases z : x.1 = 0
  · rw [if_pos z] at H
    rw [z]
    refine br_t nI_0 ?_
    unfold wX_inferIsInt_27
    refine xt_has ox (fun q => br_t rfl ?_) (fun q => br_f (by decide) ?_)
    · rw [if_pos q] at H; exact H
    · rw [if_neg q] at H; exact H
  · rw [if_neg z] at H
    refine br_f (nI_ne0 (by omega) (by omega)) ?_
    unfold wX_inferIsInt_27
    refine xt_has ox (fun q => br_t rfl ?_) (fun q => br_f (by decide) ?_)
    · rw [if_pos q] at H; exact H
    · rw [if_neg q] at H; exact H
end

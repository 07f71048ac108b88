section
variable {f_slotCount f_capacity f_nodesUsed f_buildingSlot f_pendingCount f_summariesCurrent f_callsActive f_callsMade f_runOutcome f_runValue : Int32} {a_slotStates a_slotArities a_slotStarts a_slotSizes a_kinds a_firstOperands a_secondOperands a_children a_parents a_depths a_pendingNodes a_summaries a_nextSummaries a_nodeTypes a_paramsAfter a_params a_values a_arguments a_frameSlots a_frameNodes : Nat → Int32} {post : Int32 → St2 → Prop} {N U : Nat} {sz S : Nat → Nat} {szY bk ba bb : Nat → Int32}
theorem rn_2000 {v : Int32} (h : rn_ok v) : ¬ v = 2000 := by
  intro e
  rw [e] at h
  rcases h with h | h
  · exact absurd h (by decide)
  · exact absurd h (by decide)
theorem xq_fin {Z : Nat → Nat → Int32} {fr r : Nat} {v : Int32} {nx : Int32} : xr_fin Z (xq_z (upd (Z 0) (fr * 128 + r) v) (Z 1) (Z 2) (upd (Z 3) fr nx)) fr r v nx :=
  ⟨pk_us, fun j hj => pk_un hj, fun _ => rfl, fun _ => rfl, pk_us, fun j hj => pk_un hj⟩
theorem xq_fin2 {Z : Nat → Nat → Int32} {fr r : Nat} {v : Int32} {nx nx' : Int32} : xr_fin Z (xq_z (upd (Z 0) (fr * 128 + r) v) (Z 1) (Z 2) (upd (upd (Z 3) fr nx') fr nx)) fr r v nx :=
  ⟨pk_us, fun j hj => pk_un hj, fun _ => rfl, fun _ => rfl, pk_us, fun j hj => by show upd (upd (Z 3) _ _) _ _ j = Z 3 j; rw [pk_un hj, pk_un hj]⟩
theorem xq_F0 (hN : N ≤ 8) (hs : rl_slots N U sz S a_slotStates a_slotArities a_slotSizes szY a_slotStarts bk ba bb a_kinds a_firstOperands a_secondOperands a_children a_parents a_depths) : xr_F0 N a_slotStates sz S (xq_R post f_slotCount f_capacity f_nodesUsed f_buildingSlot f_pendingCount f_summariesCurrent f_callsActive f_callsMade f_runOutcome f_runValue a_slotStates a_slotArities a_slotStarts a_slotSizes a_kinds a_firstOperands a_secondOperands a_children a_parents a_depths a_pendingNodes a_summaries a_nextSummaries a_nodeTypes a_paramsAfter a_params a_values a_arguments a_frameSlots a_frameNodes) (xq_F post f_slotCount f_capacity f_nodesUsed f_buildingSlot f_pendingCount f_summariesCurrent f_callsActive f_callsMade f_runOutcome f_runValue a_slotStates a_slotArities a_slotStarts a_slotSizes a_kinds a_firstOperands a_secondOperands a_children a_parents a_depths a_pendingNodes a_summaries a_nextSummaries a_nodeTypes a_paramsAfter a_params a_values a_arguments a_frameSlots a_frameNodes) := by
  intro t m fr g v Z hf hg s2 z0 ov hk' t' fuel et ht hfu
  obtain ⟨k, hk, ek, e1, e3, n0, pr, hB⟩ := xq_g hs hg s2
  have wf : vp_in (nI fr) 16 := vp_in_nI hf (by decide)
  have cf : (nI fr).toNatClampNeg = fr := nI_clamp (by omega)
  have hS := hB.1
  have w : vp_in (nI (S g + (sz g - 1))) 128 := vp_in_nI (by omega) (by decide)
  have cl : (nI (S g + (sz g - 1))).toNatClampNeg = S g + (sz g - 1) := nI_clamp (by omega)
  unfold wpX_finishNode
  dsimp only
  rw [show (128 : Int32) = nI 128 by decide, pk_mul, nI_add, nI_clamp (n := fr * 128 + (S g + (sz g - 1))) (by omega), cf, nI_1]
  refine ⟨vp_in_nI (by omega) (by omega), nm_e ⟨wf, nm_e (br_f (rn_2000 ov) ?_)⟩⟩
  unfold wpX_isCondition
  dsimp only
  refine ⟨w, nm_r (e' := -1) (by rw [cl]; exact pr) (br_t rfl (br_t rfl ?_))⟩
  unfold wpX_isThenBranch
  dsimp only
  refine ⟨w, nm_r (e' := -1) (by rw [cl]; exact pr) (br_t rfl (br_t rfl ?_))⟩
  refine nm_r (e' := nI t) (by rw [et, nI_1]) ?_
  exact hk' (xq_z (upd (Z 0) (fr * 128 + (S g + (sz g - 1))) v) (Z 1) (Z 2) (upd (Z 3) fr (nI (S g + (sz g - 1) + 1)))) (by rw [show S g + (sz g - 1) + 1 = S g + sz g by omega]; exact xq_fin) fuel hfu
theorem xq_F1 (hN : N ≤ 8) (hs : rl_slots N U sz S a_slotStates a_slotArities a_slotSizes szY a_slotStarts bk ba bb a_kinds a_firstOperands a_secondOperands a_children a_parents a_depths) : xr_F1 N (rl_K bk) (rl_K bb) a_slotStates sz S (xq_R post f_slotCount f_capacity f_nodesUsed f_buildingSlot f_pendingCount f_summariesCurrent f_callsActive f_callsMade f_runOutcome f_runValue a_slotStates a_slotArities a_slotStarts a_slotSizes a_kinds a_firstOperands a_secondOperands a_children a_parents a_depths a_pendingNodes a_summaries a_nextSummaries a_nodeTypes a_paramsAfter a_params a_values a_arguments a_frameSlots a_frameNodes) (xq_F post f_slotCount f_capacity f_nodesUsed f_buildingSlot f_pendingCount f_summariesCurrent f_callsActive f_callsMade f_runOutcome f_runValue a_slotStates a_slotArities a_slotStarts a_slotSizes a_kinds a_firstOperands a_secondOperands a_children a_parents a_depths a_pendingNodes a_summaries a_nextSummaries a_nodeTypes a_paramsAfter a_params a_values a_arguments a_frameSlots a_frameNodes) := by
  intro t m fr g i j v Z hf hg s2 hi hj h8 ov hk' t' fuel et ht hfu
  obtain ⟨k, hk, ek, e1, e3, n0, pr, hB⟩ := xq_g hs hg s2
  have wf : vp_in (nI fr) 16 := vp_in_nI hf (by decide)
  have cf : (nI fr).toNatClampNeg = fr := nI_clamp (by omega)
  have hS := hB.1
  have lt : bs_ch (sp_c (rl_K bk) (rl_K bb) g) i j < i := bs_ch_lt hB.2.1.2.2 hi hj
  have c3 : j = 2 ∨ ¬ rl_K bk g i = 8 := by
    by_cases z : rl_K bk g i = 8
    · exact Or.inl (h8 z)
    · exact Or.inr z
  unfold wpX_finishNode
  dsimp only
  rw [show (128 : Int32) = nI 128 by decide, pk_mul, nI_add, nI_clamp (n := fr * 128 + (S g + bs_ch (sp_c (rl_K bk) (rl_K bb) g) i j)) (by omega), cf, nI_1]
  refine ⟨vp_in_nI (by omega) (by omega), nm_e ⟨wf, nm_e (br_f (rn_2000 ov) ?_)⟩⟩
  refine xc_cond hB hi hj (fun z y => absurd (h8 z) (by omega)) (fun _ => br_t rfl ?_)
  refine xc_then hB hi hj (fun z y => absurd (h8 z) (by omega)) (fun _ => br_t rfl ?_)
  refine nm_r (e' := nI t) (by rw [et, nI_1]) ?_
  exact hk' (xq_z (upd (Z 0) (fr * 128 + (S g + bs_ch (sp_c (rl_K bk) (rl_K bb) g) i j)) v) (Z 1) (Z 2) (upd (Z 3) fr (nI (S g + bs_ch (sp_c (rl_K bk) (rl_K bb) g) i j + 1)))) xq_fin fuel hfu
theorem xq_F2 (hN : N ≤ 8) (hs : rl_slots N U sz S a_slotStates a_slotArities a_slotSizes szY a_slotStarts bk ba bb a_kinds a_firstOperands a_secondOperands a_children a_parents a_depths) : xr_F2 N (rl_K bk) (rl_K bb) a_slotStates sz S (xq_R post f_slotCount f_capacity f_nodesUsed f_buildingSlot f_pendingCount f_summariesCurrent f_callsActive f_callsMade f_runOutcome f_runValue a_slotStates a_slotArities a_slotStarts a_slotSizes a_kinds a_firstOperands a_secondOperands a_children a_parents a_depths a_pendingNodes a_summaries a_nextSummaries a_nodeTypes a_paramsAfter a_params a_values a_arguments a_frameSlots a_frameNodes) (xq_F post f_slotCount f_capacity f_nodesUsed f_buildingSlot f_pendingCount f_summariesCurrent f_callsActive f_callsMade f_runOutcome f_runValue a_slotStates a_slotArities a_slotStarts a_slotSizes a_kinds a_firstOperands a_secondOperands a_children a_parents a_depths a_pendingNodes a_summaries a_nextSummaries a_nodeTypes a_paramsAfter a_params a_values a_arguments a_frameSlots a_frameNodes) (xq_E post f_slotCount f_capacity f_nodesUsed f_buildingSlot f_pendingCount f_summariesCurrent f_callsActive f_callsMade f_runOutcome f_runValue a_slotStates a_slotArities a_slotStarts a_slotSizes a_kinds a_firstOperands a_secondOperands a_children a_parents a_depths a_pendingNodes a_summaries a_nextSummaries a_nodeTypes a_paramsAfter a_params a_values a_arguments a_frameSlots a_frameNodes) := by
  intro t m fr g i v Z hf hg s2 hi h8 ov k1 k2 k3 t' fuel et ht hfu
  obtain ⟨k, hk, ek, e1, e3, n0, pr, hB⟩ := xq_g hs hg s2
  have wf : vp_in (nI fr) 16 := vp_in_nI hf (by decide)
  have cf : (nI fr).toNatClampNeg = fr := nI_clamp (by omega)
  have hS := hB.1
  have c3 := ab_c8 hB.2.1 h8
  have lt : bs_ch (sp_c (rl_K bk) (rl_K bb) g) i 0 < i := bs_ch_lt hB.2.1.2.2 hi (k := 0) (show 0 < rl_c (rl_K bk g) (rl_K bb g) i by omega)
  obtain ⟨_, _, _, l0⟩ := xc_child hB hi (j := 0) (by omega)
  obtain ⟨wj, clj, _⟩ := xc_row hB l0
  obtain ⟨w1, cl1, r1, _⟩ := xc_child hB hi (j := 1) (by omega)
  obtain ⟨_, _, _, r4, _⟩ := hB.2.2 i hi
  have pc : a_parents (S g + bs_ch (sp_c (rl_K bk) (rl_K bb) g) i 0) = nI (S g + i) := (r4 0 (by omega)).2
  have clj' : (nI (S g + bs_ch (sp_c (rl_K bk) (rl_K bb) g) i 0)).toNatClampNeg = S g + bs_ch (sp_c (rl_K bk) (rl_K bb) g) i 0 := clj
  unfold wpX_finishNode
  dsimp only
  rw [clj', pc, xc_31, cl1, r1, show (128 : Int32) = nI 128 by decide, pk_mul, nI_add, nI_clamp (n := fr * 128 + (S g + bs_ch (sp_c (rl_K bk) (rl_K bb) g) i 0)) (by omega), cf, nI_1, nI_1]
  refine ⟨vp_in_nI (by omega) (by omega), nm_e ⟨wf, nm_e (br_f (rn_2000 ov) ?_)⟩⟩
  refine xc_cond hB hi (j := 0) (by omega) (fun _ _ => br_f (by decide) ?_) (fun z => absurd ⟨h8, rfl⟩ z)
  by_cases vf : v = 1000
  · refine br_t vf ⟨wj, w1, wf, nm_e (nm_r (e' := nI t) (by rw [et, nI_1]) ?_)⟩
    exact k2 vf (xq_z (upd (Z 0) (fr * 128 + (S g + bs_ch (sp_c (rl_K bk) (rl_K bb) g) i 0)) v) (Z 1) (Z 2) (upd (upd (Z 3) fr (nI (S g + bs_ch (sp_c (rl_K bk) (rl_K bb) g) i 0 + 1))) fr (nI (S g + bs_ch (rl_c (rl_K bk g) (rl_K bb g)) i 1 + 1)))) xq_fin2 fuel hfu
  · refine br_f vf ?_
    by_cases vt : v = 1001
    · refine br_t vt (nm_r (e' := nI t) (by rw [et, nI_1]) ?_)
      exact k1 vt (xq_z (upd (Z 0) (fr * 128 + (S g + bs_ch (sp_c (rl_K bk) (rl_K bb) g) i 0)) v) (Z 1) (Z 2) (upd (Z 3) fr (nI (S g + bs_ch (sp_c (rl_K bk) (rl_K bb) g) i 0 + 1)))) xq_fin fuel hfu
    · exact br_f vt (xq_end (by decide) (k3 vt vf) (by omega))
theorem xq_F3 (hN : N ≤ 8) (hs : rl_slots N U sz S a_slotStates a_slotArities a_slotSizes szY a_slotStarts bk ba bb a_kinds a_firstOperands a_secondOperands a_children a_parents a_depths) : xr_F3 N (rl_K bk) (rl_K bb) a_slotStates sz S (xq_R post f_slotCount f_capacity f_nodesUsed f_buildingSlot f_pendingCount f_summariesCurrent f_callsActive f_callsMade f_runOutcome f_runValue a_slotStates a_slotArities a_slotStarts a_slotSizes a_kinds a_firstOperands a_secondOperands a_children a_parents a_depths a_pendingNodes a_summaries a_nextSummaries a_nodeTypes a_paramsAfter a_params a_values a_arguments a_frameSlots a_frameNodes) (xq_F post f_slotCount f_capacity f_nodesUsed f_buildingSlot f_pendingCount f_summariesCurrent f_callsActive f_callsMade f_runOutcome f_runValue a_slotStates a_slotArities a_slotStarts a_slotSizes a_kinds a_firstOperands a_secondOperands a_children a_parents a_depths a_pendingNodes a_summaries a_nextSummaries a_nodeTypes a_paramsAfter a_params a_values a_arguments a_frameSlots a_frameNodes) := by
  intro t m fr g i v Z hf hg s2 hi h8 ov k1 t' fuel et ht hfu
  obtain ⟨k, hk, ek, e1, e3, n0, pr, hB⟩ := xq_g hs hg s2
  have wf : vp_in (nI fr) 16 := vp_in_nI hf (by decide)
  have cf : (nI fr).toNatClampNeg = fr := nI_clamp (by omega)
  have hS := hB.1
  have c3 := ab_c8 hB.2.1 h8
  have lt : bs_ch (sp_c (rl_K bk) (rl_K bb) g) i 1 < i := bs_ch_lt hB.2.1.2.2 hi (k := 1) (show 1 < rl_c (rl_K bk g) (rl_K bb g) i by omega)
  obtain ⟨_, _, _, l1⟩ := xc_child hB hi (j := 1) (by omega)
  obtain ⟨wj, clj, _⟩ := xc_row hB l1
  obtain ⟨_, _, _, r4, _⟩ := hB.2.2 i hi
  have pc : a_parents (S g + bs_ch (sp_c (rl_K bk) (rl_K bb) g) i 1) = nI (S g + i) := (r4 1 (by omega)).2
  have clj' : (nI (S g + bs_ch (sp_c (rl_K bk) (rl_K bb) g) i 1)).toNatClampNeg = S g + bs_ch (sp_c (rl_K bk) (rl_K bb) g) i 1 := clj
  unfold wpX_finishNode
  dsimp only
  rw [clj', pc, show (128 : Int32) = nI 128 by decide, pk_mul, nI_add, nI_clamp (n := fr * 128 + (S g + bs_ch (sp_c (rl_K bk) (rl_K bb) g) i 1)) (by omega), cf, nI_1 (S g + bs_ch (sp_c (rl_K bk) (rl_K bb) g) i 1)]
  refine ⟨vp_in_nI (by omega) (by omega), nm_e ⟨wf, nm_e (br_f (rn_2000 ov) ?_)⟩⟩
  refine xc_cond hB hi (j := 1) (by omega) (fun _ z => absurd z (by decide)) (fun _ => br_t rfl ?_)
  refine xc_then hB hi (j := 1) (by omega) (fun _ _ => br_f (by decide) ?_) (fun z => absurd ⟨h8, rfl⟩ z)
  refine ⟨wj, wf, nm_e (nm_r (e' := nI t) (by rw [et, nI_1]) ?_)⟩
  exact k1 (xq_z (upd (Z 0) (fr * 128 + (S g + bs_ch (sp_c (rl_K bk) (rl_K bb) g) i 1)) v) (Z 1) (Z 2) (upd (upd (Z 3) fr (nI (S g + bs_ch (sp_c (rl_K bk) (rl_K bb) g) i 1 + 1))) fr (nI (S g + i)))) xq_fin2 fuel hfu
/-- a run from its first call on, by the pure outcome -/
theorem xq_run {f : Nat} {x y : Int32} (hN : N ≤ 8) (hs : rl_slots N U sz S a_slotStates a_slotArities a_slotSizes szY a_slotStarts bk ba bb a_kinds a_firstOperands a_secondOperands a_children a_parents a_depths) (hf : f < N) (s2 : a_slotStates f = 2) (ag : rn_ag (a_slotArities f) x y)
    (H1 : (rn_ev (rl_K bk) (rl_K ba) (rl_K bb) a_slotStates a_slotArities sz 2048 0 f (sz f - 1) x y 1).1 ≠ -1 → ∀ (ca cm : Int32) (V AR FS FN : Nat → Int32), post (rn_ev (rl_K bk) (rl_K ba) (rl_K bb) a_slotStates a_slotArities sz 2048 0 f (sz f - 1) x y 1).1 (f_slotCount, f_capacity, f_nodesUsed, f_buildingSlot, f_pendingCount, f_summariesCurrent, ca, cm, (rn_ev (rl_K bk) (rl_K ba) (rl_K bb) a_slotStates a_slotArities sz 2048 0 f (sz f - 1) x y 1).1, 0, a_slotStates, a_slotArities, a_slotStarts, a_slotSizes, a_kinds, a_firstOperands, a_secondOperands, a_children, a_parents, a_depths, a_pendingNodes, a_summaries, a_nextSummaries, a_nodeTypes, a_paramsAfter, a_params, V, AR, FS, FN))
    (H2 : (rn_ev (rl_K bk) (rl_K ba) (rl_K bb) a_slotStates a_slotArities sz 2048 0 f (sz f - 1) x y 1).1 = -1 → ∀ (ca cm : Int32) (V AR FS FN : Nat → Int32), post 0 (f_slotCount, f_capacity, f_nodesUsed, f_buildingSlot, f_pendingCount, f_summariesCurrent, ca, cm, 0, (rn_ev (rl_K bk) (rl_K ba) (rl_K bb) a_slotStates a_slotArities sz 2048 0 f (sz f - 1) x y 1).2.1, a_slotStates, a_slotArities, a_slotStarts, a_slotSizes, a_kinds, a_firstOperands, a_secondOperands, a_children, a_parents, a_depths, a_pendingNodes, a_summaries, a_nextSummaries, a_nodeTypes, a_paramsAfter, a_params, V, AR, FS, FN)) :
    wX_run_58 post (nI f) x y f_slotCount f_capacity f_nodesUsed f_buildingSlot f_pendingCount f_summariesCurrent f_callsActive f_callsMade f_runOutcome f_runValue a_slotStates a_slotArities a_slotStarts a_slotSizes a_kinds a_firstOperands a_secondOperands a_children a_parents a_depths a_pendingNodes a_summaries a_nextSummaries a_nodeTypes a_paramsAfter a_params a_values a_arguments a_frameSlots a_frameNodes := by
  obtain ⟨k, hk, ek, e1, e3, n0, pr, hB⟩ := xq_g hs hf s2
  have hS := hB.1
  have root := rl_root hs f hf s2
  unfold wX_run_58
  refine xq_enter (a := 0) (m := 0) (Z := xq_z a_values a_arguments a_frameSlots a_frameNodes) (by omega) (by omega) e3 fun Z' eZ => ⟨1000001, ?_⟩
  have sim := xr_sim (XR := xq_R post f_slotCount f_capacity f_nodesUsed f_buildingSlot f_pendingCount f_summariesCurrent f_callsActive f_callsMade f_runOutcome f_runValue a_slotStates a_slotArities a_slotStarts a_slotSizes a_kinds a_firstOperands a_secondOperands a_children a_parents a_depths a_pendingNodes a_summaries a_nextSummaries a_nodeTypes a_paramsAfter a_params a_values a_arguments a_frameSlots a_frameNodes) (XF := xq_F post f_slotCount f_capacity f_nodesUsed f_buildingSlot f_pendingCount f_summariesCurrent f_callsActive f_callsMade f_runOutcome f_runValue a_slotStates a_slotArities a_slotStarts a_slotSizes a_kinds a_firstOperands a_secondOperands a_children a_parents a_depths a_pendingNodes a_summaries a_nextSummaries a_nodeTypes a_paramsAfter a_params a_values a_arguments a_frameSlots a_frameNodes) (XE := xq_E post f_slotCount f_capacity f_nodesUsed f_buildingSlot f_pendingCount f_summariesCurrent f_callsActive f_callsMade f_runOutcome f_runValue a_slotStates a_slotArities a_slotStarts a_slotSizes a_kinds a_firstOperands a_secondOperands a_children a_parents a_depths a_pendingNodes a_summaries a_nextSummaries a_nodeTypes a_paramsAfter a_params a_values a_arguments a_frameSlots a_frameNodes) hN (rl_sp_ok hs) (rl_root hs) (rl_S128 hs) (xq_M1 hN hs) (xq_M2 hN hs) (xq_M3 hN hs) (xq_M4 hN hs) (xq_M5 hN hs) (xq_M6 hN hs) (xq_F0 hN hs) (xq_F1 hN hs) (xq_F2 hN hs) (xq_F3 hN hs) 2048
  have gd := rn_ev_gd hN (rl_sp_ok hs) 2048 0 f (sz f - 1) x y 1 hf s2 (by omega) ag (by omega)
  refine sim 0 f (sz f - 1) 1 0 x y Z' (by omega) (by omega) hf s2 (by omega) ag (by omega) ?_ ?_ ?_ (by omega) (fun n => H1 n) (fun o t1 Z1 ht1 ag1 => ?_) 1000001 (by omega)
  · rw [root, eZ]; exact ⟨pk_us, pk_us⟩
  · rw [eZ]; show upd (upd a_arguments _ _) _ _ _ = x; rw [pk_un (by omega)]; exact pk_us
  · rw [eZ]; exact pk_us
  · refine xq_F0 hN hs t1 _ 0 f _ Z1 (by omega) hf s2 n0 (gd.2.1 o) fun Z2 f2 => ?_
    have z2 : Z1 2 0 = nI f := (ag1.2.2.1 0 (by omega)).trans (by rw [eZ]; exact pk_us)
    refine xq_st (by omega) fun fuel hfu => ?_
    have wf : vp_in (nI 0) 16 := vp_in_nI (by decide) (by decide)
    have cf : (nI 0).toNatClampNeg = 0 := nI_clamp (by decide)
    have wg : vp_in (nI f) 8 := vp_in_nI (by omega) (by decide)
    have cg : (nI f).toNatClampNeg = f := nI_clamp (by omega)
    unfold wpX_makeMove
    dsimp only
    refine nm_r (nI_pred 0) ⟨wf, nm_r (e' := nI (S f + sz f)) (by rw [cf]; exact f2.2.2.2.2.1) ⟨wf, nm_r (e' := nI f) (by rw [cf]; exact (f2.2.2.2.1 0).trans z2) ⟨wg, wg, ?_⟩⟩⟩
    rw [cg, e1, e3, nI_add]
    refine br_t rfl ?_
    unfold wpX_leaveCall
    dsimp only
    have vv : Z2 0 (0 * 128 + (S f + (sz f - 1))) = _ := f2.1
    rw [show nI (S f + sz f) - 1 = nI (S f + (sz f - 1)) by rw [show S f + (sz f - 1) = S f + sz f - 1 by omega]; exact pk_sub (b := 1) (by omega), show (128 : Int32) = nI 128 by decide, pk_mul, nI_add, nI_clamp (n := 0 * 128 + (S f + (sz f - 1))) (by omega), vv]
    obtain ⟨fuel, rfl⟩ : ∃ m, fuel = m + 1 := ⟨fuel - 1, by omega⟩
    refine ⟨vp_in_nI (by omega) (by omega), nm_e (br_t nI_0 ?_)⟩
    intro q _
    exact br_c (fun _ => H2 o _ _ _ _ _ _) (fun _ => br_f (by decide) (H2 o _ _ _ _ _ _))
end

/-- a beginning that is taken -/
def bg_ok (N : Nat) (st : Nat → Int32) (bs v1 v2 : Int32) : Prop := ∃ f a : Nat, bs = -1 ∧ f < N ∧ a < 3 ∧ v1 = nI f ∧ v2 = nI a ∧ st f = 0
section
variable {f_slotCount f_capacity f_nodesUsed f_buildingSlot f_pendingCount f_summariesCurrent f_callsActive f_callsMade f_runOutcome f_runValue : Int32} {a_slotStates a_slotArities a_slotStarts a_slotSizes a_kinds a_firstOperands a_secondOperands a_children a_parents a_depths a_pendingNodes a_summaries a_nextSummaries a_nodeTypes a_paramsAfter a_params a_values a_arguments a_frameSlots a_frameNodes : Nat → Int32} {N : Nat} {v1 v2 : Int32}
theorem xe_begin {Q : Int32 → SX → Prop} (hN : N ≤ 8) (H1 : ∀ f a : Nat, f_buildingSlot = -1 → f < N → a < 3 → v1 = nI f → v2 = nI a → a_slotStates f = 0 → Q 1 (nI N, f_capacity, f_nodesUsed, nI f, f_pendingCount, f_summariesCurrent, f_callsActive, f_callsMade, f_runOutcome, f_runValue, upd a_slotStates f 1, upd a_slotArities f (nI a), upd a_slotStarts f f_nodesUsed, upd a_slotSizes f 0, a_kinds, a_firstOperands, a_secondOperands, a_children, a_parents, a_depths, a_pendingNodes, a_summaries, a_nextSummaries, a_nodeTypes, a_paramsAfter, a_params, a_values, a_arguments, a_frameSlots, a_frameNodes))
    (H0 : ¬ bg_ok N a_slotStates f_buildingSlot v1 v2 → Q 0 (nI N, f_capacity, f_nodesUsed, f_buildingSlot, f_pendingCount, f_summariesCurrent, f_callsActive, f_callsMade, f_runOutcome, f_runValue, a_slotStates, a_slotArities, a_slotStarts, a_slotSizes, a_kinds, a_firstOperands, a_secondOperands, a_children, a_parents, a_depths, a_pendingNodes, a_summaries, a_nextSummaries, a_nodeTypes, a_paramsAfter, a_params, a_values, a_arguments, a_frameSlots, a_frameNodes)) : wpX_begin Q (nI N, f_capacity, f_nodesUsed, f_buildingSlot, f_pendingCount, f_summariesCurrent, f_callsActive, f_callsMade, f_runOutcome, f_runValue, a_slotStates, a_slotArities, a_slotStarts, a_slotSizes, a_kinds, a_firstOperands, a_secondOperands, a_children, a_parents, a_depths, a_pendingNodes, a_summaries, a_nextSummaries, a_nodeTypes, a_paramsAfter, a_params, a_values, a_arguments, a_frameSlots, a_frameNodes) v1 v2 := by
  unfold wpX_begin
  dsimp only
  by_cases bm : f_buildingSlot = -1
  · refine br_t bm (xd_slot hN (fun f hf e => br_f (by decide) ?_) (fun no => br_t rfl (H0 ?_)))
    · subst e
      have w : vp_in (nI f) 8 := vp_in_nI (by omega) (by decide)
      have cl : (nI f).toNatClampNeg = f := nI_clamp (by omega)
      rw [cl]
      refine ⟨w, ?_⟩
      by_cases z : a_slotStates f = 0
      · refine br_t z ?_
        rcases pk_ix v2 (n := 3) (by decide) with h | h | ⟨a, ha, rfl⟩
        · refine br_t h (H0 ?_)
          rintro ⟨f', a', _, hf', ha', e1, rfl, z'⟩
          exact nI_pos (by omega) h
        · refine br_f (rd_3 h).2.1 (br_f (rd_3 h).2.2 (H0 ?_))
          rintro ⟨f', a', _, hf', ha', e1, rfl, z'⟩
          exact nI_ge ha' (by omega) h
        · exact br_f (nI_pos (by omega)) (br_t (nI_le (a := a) (b := 2) (by omega) (by decide)) ⟨w, nm_e ⟨w, nm_e ⟨w, nm_e ⟨w, nm_e (H1 f a bm hf ha rfl rfl z)⟩⟩⟩⟩)
      · refine br_f z (H0 ?_)
        rintro ⟨f', a', _, hf', ha', e1, e2, z'⟩
        rw [nI_eq (by omega) (by omega)] at e1
        subst e1
        exact z z'
    · rintro ⟨f', a', _, hf', ha', e1, e2, z'⟩
      exact no ⟨f', hf', e1⟩
  · refine br_f bm (H0 ?_)
    rintro ⟨f', a', e, _⟩
    exact bm e
end
section
variable {f_n f_cap f_ana f_res f_anyT f_intsT f_wp f_vp f_made f_active f_xp f_curK f_rBot f_rR f_rE0 f_rE1 : Int32} {a_st a_ar a_size a_bk a_ba a_bb a_ds a_tab a_nxt a_wN a_wS a_wF a_vs a_frS a_frP0 a_frP1 a_xN a_xS a_xE0 a_xE1 a_xA a_xB a_xC a_xD a_xE a_xF a_xG : Nat → Int32} {N U : Nat} {v1 v2 bs pc : Int32} {sz S : Nat → Nat} {bk bb pe pa : Nat → Int32}
theorem ye_begin {Q : Int32 → SY → Prop} (hN : N ≤ 8) (hbld : rl_bld N U sz S a_st bk bb pe pa bs pc) (H1 : ∀ f a : Nat, bs = -1 → f < N → a < 3 → v1 = nI f → v2 = nI a → a_st f = 0 → Q 1 (nI N, f_cap, f_ana, f_res, f_anyT, f_intsT, f_wp, f_vp, f_made, f_active, f_xp, f_curK, f_rBot, f_rR, f_rE0, f_rE1, upd a_st f 1, upd a_ar f (nI a), upd a_size f 0, a_bk, a_ba, a_bb, a_ds, a_tab, a_nxt, a_wN, a_wS, a_wF, a_vs, a_frS, a_frP0, a_frP1, a_xN, a_xS, a_xE0, a_xE1, a_xA, a_xB, a_xC, a_xD, a_xE, a_xF, a_xG))
    (H0 : ¬ bg_ok N a_st bs v1 v2 → Q 0 (nI N, f_cap, f_ana, f_res, f_anyT, f_intsT, f_wp, f_vp, f_made, f_active, f_xp, f_curK, f_rBot, f_rR, f_rE0, f_rE1, a_st, a_ar, a_size, a_bk, a_ba, a_bb, a_ds, a_tab, a_nxt, a_wN, a_wS, a_wF, a_vs, a_frS, a_frP0, a_frP1, a_xN, a_xS, a_xE0, a_xE1, a_xA, a_xB, a_xC, a_xD, a_xE, a_xF, a_xG)) : wpY_begin Q (nI N, f_cap, f_ana, f_res, f_anyT, f_intsT, f_wp, f_vp, f_made, f_active, f_xp, f_curK, f_rBot, f_rR, f_rE0, f_rE1, a_st, a_ar, a_size, a_bk, a_ba, a_bb, a_ds, a_tab, a_nxt, a_wN, a_wS, a_wF, a_vs, a_frS, a_frP0, a_frP1, a_xN, a_xS, a_xE0, a_xE1, a_xA, a_xB, a_xC, a_xD, a_xE, a_xF, a_xG) v1 v2 := by
  unfold wpY_begin
  dsimp only
  refine yd_bldg hN hbld ?_
  by_cases bm : bs = -1
  · refine br_t (by rw [bm]; decide) ?_
    rcases pk_ix v1 (n := N) (by omega) with h | h | ⟨f, hf, rfl⟩
    · refine br_t h (H0 ?_)
      rintro ⟨f', a', _, hf', ha', rfl, e2, z'⟩
      exact nI_pos (by omega) h
    · refine br_f (rd_n (by omega) h) (br_f (Int32.not_lt.mpr h) (H0 ?_))
      rintro ⟨f', a', _, hf', ha', rfl, e2, z'⟩
      exact nI_ge hf' (by omega) h
    · have w : vp_in (nI f) 8 := vp_in_nI (by omega) (by decide)
      have cl : (nI f).toNatClampNeg = f := nI_clamp (by omega)
      rw [cl]
      refine br_f (nI_pos (by omega)) (br_t (nI_lt hf (by omega)) ⟨w, ?_⟩)
      by_cases z : a_st f = 0
      · refine br_t z ?_
        rcases pk_ix v2 (n := 3) (by decide) with h | h | ⟨a, ha, rfl⟩
        · refine br_t h (H0 ?_)
          rintro ⟨f', a', _, hf', ha', e1, rfl, z'⟩
          exact nI_pos (by omega) h
        · refine br_f (rd_3 h).2.1 (br_f (rd_3 h).2.2 (H0 ?_))
          rintro ⟨f', a', _, hf', ha', e1, rfl, z'⟩
          exact nI_ge ha' (by omega) h
        · exact br_f (nI_pos (by omega)) (br_t (nI_le (a := a) (b := 2) (by omega) (by decide)) ⟨w, nm_e ⟨w, nm_e ⟨w, nm_e (H1 f a bm hf ha rfl rfl z)⟩⟩⟩)
      · refine br_f z (H0 ?_)
        rintro ⟨f', a', _, hf', ha', e1, e2, z'⟩
        rw [nI_eq (by omega) (by omega)] at e1
        subst e1
        exact z z'
  · have nn : ¬ bs < 0 := by
      rcases hbld with ⟨e, _⟩ | ⟨b, P, hb, eb, _⟩
      · exact absurd e bm
      · rw [eb]; exact nI_pos (by omega)
    refine br_f nn (H0 ?_)
    rintro ⟨f', a', e, _⟩
    exact bm e
end
/-- a slot that isn't the one changed -/
theorem rl_slot_un {N U U' f g z S : Nat} {st st' ar ar' szX szX' szY szY' sX sX' bk ba bb kd fo so ch pa dp : Nat → Int32} (h : rl_slot N U g z S st ar szX szY sX bk ba bb kd fo so ch pa dp) (hg : g ≠ f)
    (e1 : st' g = st g) (e2 : ar' g = ar g) (e3 : szX' g = szX g) (e4 : szY' g = szY g) (e5 : sX' g = sX g) (hU : st g ≠ 0 → S + z ≤ U') : rl_slot N U' g z S st' ar' szX' szY' sX' bk ba bb kd fo so ch pa dp := by
  obtain ⟨h1, h2, h3⟩ := h
  refine ⟨by rw [e1]; exact h1, fun n => ?_, fun n => ?_⟩
  · rw [e1] at n
    obtain ⟨q1, q2, q3, q4, k, hk, ek, hB⟩ := h2 n
    exact ⟨e3.trans q1, e4.trans q2, e5.trans q3, hU n, k, hk, e2.trans ek, hB⟩
  · rw [e1] at n
    exact h3 n
def bg_upd (F : Nat → Nat) (f x : Nat) : Nat → Nat := fun g => if g = f then x else F g
theorem bg_us {F : Nat → Nat} {f x : Nat} : bg_upd F f x f = x := if_pos rfl
theorem bg_un {F : Nat → Nat} {f x g : Nat} (h : g ≠ f) : bg_upd F f x g = F g := if_neg h
theorem i_vc_begin {k : Nat} {u : SX} {v : SY} (I : i_Rel k u v) (hk : k + 4 ≤ 2050) (v1 : Int32) (v2 : Int32) : wpX_begin (fun r u' => wpY_begin (fun r' v' => r' = r ∧ i_Rel (k + 4) u' v') v v1 v2) u v1 v2 := by
  have J := I
  obtain ⟨f_slotCount, f_capacity, f_nodesUsed, f_buildingSlot, f_pendingCount, f_summariesCurrent, f_callsActive, f_callsMade, f_runOutcome, f_runValue, a_slotStates, a_slotArities, a_slotStarts, a_slotSizes, a_kinds, a_firstOperands, a_secondOperands, a_children, a_parents, a_depths, a_pendingNodes, a_summaries, a_nextSummaries, a_nodeTypes, a_paramsAfter, a_params, a_values, a_arguments, a_frameSlots, a_frameNodes⟩ := u
  obtain ⟨f_n, f_cap, f_ana, f_res, f_anyT, f_intsT, f_wp, f_vp, f_made, f_active, f_xp, f_curK, f_rBot, f_rR, f_rE0, f_rE1, a_st, a_ar, a_size, a_bk, a_ba, a_bb, a_ds, a_tab, a_nxt, a_wN, a_wS, a_wF, a_vs, a_frS, a_frP0, a_frP1, a_xN, a_xS, a_xE0, a_xE1, a_xA, a_xB, a_xC, a_xD, a_xE, a_xF, a_xG⟩ := v
  obtain ⟨N, C, U, sz, S, tb, rfl, rfl, rfl, rfl, rfl, rfl, rfl, rfl, rfl, rfl, rfl, ⟨hN1, hN, hC1, hC, hU⟩, hcur, hsum, hs, hbld, htab⟩ := I
  refine xe_begin hN (fun f a bm hf ha e1 e2 z => ?_) (fun no => ye_begin hN hbld (fun f a bm hf ha e1 e2 z => absurd ⟨f, a, bm, hf, ha, e1, e2, z⟩ no) (fun _ => ⟨rfl, J⟩))
  refine ye_begin hN hbld (fun f' a' bm' hf' ha' e1' e2' z' => ⟨rfl, ?_⟩) (fun no => absurd ⟨f, a, bm, hf, ha, e1, e2, z⟩ no)
  obtain rfl : f' = f := by rw [e1, nI_eq (by omega) (by omega)] at e1'; exact e1'.symm
  obtain rfl : a' = a := by rw [e2, nI_eq (by omega) (by omega)] at e2'; exact e2'.symm
  obtain ⟨_, pz, nob⟩ : f_buildingSlot = -1 ∧ f_pendingCount = 0 ∧ ∀ f, f < N → a_slotStates f ≠ 1 := by
    rcases hbld with h | ⟨b, P, hb, eb, _⟩
    · exact h
    · rw [eb] at bm
      have := nI_pos' (n := b) (by omega)
      rw [bm] at this
      exact absurd this (by decide)
  have e1n : ¬ (1 : Int32) = 0 := by decide
  refine ⟨N, C, U, bg_upd sz f' 0, bg_upd S f' U, tb, rfl, rfl, rfl, rfl, rfl, rfl, rfl, rfl, rfl, rfl, rfl, ⟨hN1, hN, hC1, hC, hU⟩, hcur, ?_, ?_, ?_, htab⟩
  · have q := rl_sum_upd (st := a_slotStates) (st' := upd a_slotStates f' 1) (sz := sz) (sz' := bg_upd sz f' 0) (b := f') (fun g hg => ⟨pk_un hg, bg_un hg⟩) N hf
    rw [if_pos z, pk_us, if_neg e1n, bg_us] at q
    omega
  · intro g hg
    by_cases e : g = f'
    · subst e
      rw [bg_us, bg_us]
      refine ⟨Or.inr (Or.inl pk_us), fun _ => ⟨pk_us, pk_us, pk_us, Nat.le_refl _, a', by omega, pk_us, by omega, ⟨fun i hi => absurd hi (Nat.not_lt_zero i), fun i => rfl, fun i hi => absurd hi (Nat.not_lt_zero i)⟩, fun i hi => absurd hi (Nat.not_lt_zero i)⟩, fun n => ?_⟩
      rw [pk_us] at n
      exact absurd n (by decide)
    · rw [bg_un e, bg_un e]
      exact rl_slot_un (hs g hg) e (pk_un e) (pk_un e) (pk_un e) (pk_un e) (pk_un e) (fun n => ((hs g hg).2.1 n).2.2.2.1)
  · refine Or.inr ⟨f', 0, hf, rfl, pz.trans nI_0.symm, pk_us, fun g hg e => ?_, ?_, fun g hg s2 => ?_, by rw [bg_us]; rfl, fun q hq => absurd hq (Nat.not_lt_zero q)⟩
    · rw [pk_un e]; exact nob g hg
    · rw [bg_us, bg_us]; rfl
    · have e : g ≠ f' := fun e => by
        rw [e, pk_us] at s2
        exact absurd s2 (by decide)
      rw [bg_un e, bg_un e, bg_us]
      rw [pk_un e] at s2
      exact ((hs g hg).2.1 (by rw [s2]; decide)).2.2.2.1
theorem i_vc_end {k : Nat} {u : SX} {v : SY} (I : i_Rel k u v) (hk : k + 4 ≤ 2050) : wpX_end (fun r u' => wpY_end (fun r' v' => r' = r ∧ i_Rel (k + 4) u' v') v) u := by
  have J := I
  obtain ⟨f_slotCount, f_capacity, f_nodesUsed, f_buildingSlot, f_pendingCount, f_summariesCurrent, f_callsActive, f_callsMade, f_runOutcome, f_runValue, a_slotStates, a_slotArities, a_slotStarts, a_slotSizes, a_kinds, a_firstOperands, a_secondOperands, a_children, a_parents, a_depths, a_pendingNodes, a_summaries, a_nextSummaries, a_nodeTypes, a_paramsAfter, a_params, a_values, a_arguments, a_frameSlots, a_frameNodes⟩ := u
  obtain ⟨f_n, f_cap, f_ana, f_res, f_anyT, f_intsT, f_wp, f_vp, f_made, f_active, f_xp, f_curK, f_rBot, f_rR, f_rE0, f_rE1, a_st, a_ar, a_size, a_bk, a_ba, a_bb, a_ds, a_tab, a_nxt, a_wN, a_wS, a_wF, a_vs, a_frS, a_frP0, a_frP1, a_xN, a_xS, a_xE0, a_xE1, a_xA, a_xB, a_xC, a_xD, a_xE, a_xF, a_xG⟩ := v
  obtain ⟨N, C, U, sz, S, tb, rfl, rfl, rfl, rfl, rfl, rfl, rfl, rfl, rfl, rfl, rfl, ⟨hN1, hN, hC1, hC, hU⟩, hcur, hsum, hs, hbld, htab⟩ := I
  have hb0 := hbld
  unfold wpX_end wpY_end
  rcases hbld with ⟨rfl, rfl, _⟩ | ⟨b, P, hb, rfl, rfl, s1, un, eU, lo, eP, pp⟩
  · exact br_t rfl (yd_bldg hN hb0 (br_f (by decide) ⟨rfl, J⟩))
  · obtain ⟨e1, e2, e3, e4, kk, hkk, ekk, hB⟩ := (hs b hb).2.1 (by rw [s1]; decide)
    have hS := hB.1
    have w : vp_in (nI b) 8 := vp_in_nI (by omega) (by decide)
    have cl : (nI b).toNatClampNeg = b := nI_clamp (by omega)
    have pl := bs_pc_le (rl_c (rl_K a_bk b) (rl_K a_bb b)) (sz b)
    have nb : ¬ nI b = -1 := fun z => by
      have := nI_pos' (n := b) (by omega)
      rw [z] at this
      exact absurd this (by decide)
    refine br_f nb ?_
    by_cases p1 : P = 1
    · subst p1
      have z0 : 0 < sz b := by
        refine Nat.pos_of_ne_zero fun z => ?_
        rw [z] at eP
        exact absurd (show (1 : Nat) = 0 from eP) (by decide)
      refine br_t rfl (br_f (by decide) ⟨w, nm_r (e' := upd a_slotStates b 2) (by rw [cl]) ?_⟩)
      refine yd_bldg hN hb0 (br_t (nI_pos' (by omega)) (yd_scan (by omega) hB e2 fun ds _ => ?_))
      rw [← eP]
      refine br_t rfl ⟨w, nm_r (e' := upd a_slotStates b 2) (by rw [cl]) ⟨rfl, ?_⟩⟩
      refine ⟨N, C, U, sz, S, tb, rfl, rfl, rfl, rfl, rfl, rfl, rfl, rfl, rfl, rfl, rfl, ⟨hN1, hN, hC1, hC, hU⟩, Or.inl rfl, ?_, ?_, Or.inl ⟨rfl, rfl, fun g hg => ?_⟩, htab⟩
      · have q := rl_sum_upd (st := a_slotStates) (st' := upd a_slotStates b 2) (sz := sz) (sz' := sz) (b := b) (fun g hg => ⟨pk_un hg, rfl⟩) N hb
        rw [if_neg (by rw [s1]; decide), pk_us, if_neg (by decide)] at q
        omega
      · intro g hg
        by_cases e : g = b
        · subst e
          refine ⟨Or.inr (Or.inr pk_us), fun _ => ⟨e1, e2, e3, e4, kk, hkk, ekk, hB⟩, fun _ => ⟨z0, eP.symm, ?_⟩⟩
          have := (pp 0 (by omega)).2
          rw [bs_sc_0] at this
          exact this
        · exact rl_slot_un (hs g hg) e (pk_un e) rfl rfl rfl rfl (fun n => ((hs g hg).2.1 n).2.2.2.1)
      · by_cases e : g = b
        · subst e; rw [pk_us]; decide
        · rw [pk_un e]; exact un g hg e
    · have np : ¬ nI P = 1 := fun z => p1 (by rw [show (1 : Int32) = nI 1 by decide, nI_eq (by omega) (by omega)] at z; exact z)
      refine br_f np (br_t rfl ⟨w, nm_r (e' := upd a_slotStates b 0) (by rw [cl]) ⟨w, nm_r (e' := nI (S b)) (by rw [cl]; exact e3) ?_⟩⟩)
      refine yd_bldg hN hb0 (br_t (nI_pos' (by omega)) (yd_scan (by omega) hB e2 fun ds _ => ?_))
      rw [← eP]
      refine br_f np ⟨w, nm_r (e' := upd a_size b 0) (by rw [cl]) ⟨w, nm_r (e' := upd a_slotStates b 0) (by rw [cl]) ⟨rfl, ?_⟩⟩⟩
      refine ⟨N, C, S b, sz, S, tb, rfl, rfl, rfl, rfl, rfl, rfl, rfl, rfl, rfl, rfl, rfl, ⟨hN1, hN, hC1, hC, by omega⟩, hcur, ?_, ?_, Or.inl ⟨rfl, rfl, fun g hg => ?_⟩, htab⟩
      · have q := rl_sum_upd (st := a_slotStates) (st' := upd a_slotStates b 0) (sz := sz) (sz' := sz) (b := b) (fun g hg => ⟨pk_un hg, rfl⟩) N hb
        rw [if_neg (by rw [s1]; decide), pk_us, if_pos rfl] at q
        omega
      · intro g hg
        by_cases e : g = b
        · subst e
          refine ⟨Or.inl pk_us, fun n => absurd pk_us n, fun n => ?_⟩
          rw [pk_us] at n
          exact absurd n (by decide)
        · refine rl_slot_un (hs g hg) e (pk_un e) rfl rfl (pk_un e) rfl (fun n => lo g hg ?_)
          rcases (hs g hg).1 with q | q | q
          · exact absurd q n
          · exact absurd q (un g hg e)
          · exact q
      · by_cases e : g = b
        · subst e; rw [pk_us]; decide
        · rw [pk_un e]; exact un g hg e

/-- the law's picture of the object: N slots, well made bodies, and, while the summaries are current, a table that STEP leaves as it is -/
def zi_R (N : Nat) (u : St2) : Prop := match u with
  | (f_slotCount, f_capacity, f_nodesUsed, f_buildingSlot, f_pendingCount, f_summariesCurrent, f_callsActive, f_callsMade, f_runOutcome, f_runValue, a_slotStates, a_slotArities, a_slotStarts, a_slotSizes, a_kinds, a_firstOperands, a_secondOperands, a_children, a_parents, a_depths, a_pendingNodes, a_summaries, a_nextSummaries, a_nodeTypes, a_paramsAfter, a_params, a_values, a_arguments, a_frameSlots, a_frameNodes) => ∃ (C U : Nat) (sz S : Nat → Nat) (tb : Nat → ty_T) (szY bk ba bb : Nat → Int32), f_slotCount = nI N ∧ f_capacity = nI C ∧ f_nodesUsed = nI U
    ∧ (1 ≤ N ∧ N ≤ 8 ∧ 16 ≤ C ∧ C ≤ 128 ∧ U ≤ C) ∧ (f_summariesCurrent = 0 ∨ f_summariesCurrent = 1)
    ∧ rl_slots N U sz S a_slotStates a_slotArities a_slotSizes szY a_slotStarts bk ba bb a_kinds a_firstOperands a_secondOperands a_children a_parents a_depths
    ∧ rl_bld N U sz S a_slotStates bk bb a_pendingNodes a_parents f_buildingSlot f_pendingCount
    ∧ (∀ q, ty_ok (tb q)) ∧ (∀ q, q < 24 → a_summaries q = ty_x (tb q)) ∧ (∀ q, 3 * N ≤ q → q < 24 → a_nextSummaries q = 0)
    ∧ (f_summariesCurrent = 1 → ∀ q, q < 24 → sp_step N (rl_K bk) (rl_K ba) (rl_K bb) a_slotStates a_slotArities sz tb q = tb q)
def zi_cur (u : St2) : Prop := match u with
  | (f_slotCount, f_capacity, f_nodesUsed, f_buildingSlot, f_pendingCount, f_summariesCurrent, f_callsActive, f_callsMade, f_runOutcome, f_runValue, a_slotStates, a_slotArities, a_slotStarts, a_slotSizes, a_kinds, a_firstOperands, a_secondOperands, a_children, a_parents, a_depths, a_pendingNodes, a_summaries, a_nextSummaries, a_nodeTypes, a_paramsAfter, a_params, a_values, a_arguments, a_frameSlots, a_frameNodes) => f_summariesCurrent = 1
/-- what a run that ends well leaves: the arguments and the result lie in the types of f -/
def zi_ok (f x y : Int32) (u : St2) : Prop := match u with
  | (f_slotCount, f_capacity, f_nodesUsed, f_buildingSlot, f_pendingCount, f_summariesCurrent, f_callsActive, f_callsMade, f_runOutcome, f_runValue, a_slotStates, a_slotArities, a_slotStarts, a_slotSizes, a_kinds, a_firstOperands, a_secondOperands, a_children, a_parents, a_depths, a_pendingNodes, a_summaries, a_nextSummaries, a_nodeTypes, a_paramsAfter, a_params, a_values, a_arguments, a_frameSlots, a_frameNodes) => ∃ (N g k : Nat) (tb : Nat → ty_T), f = nI g ∧ g < N ∧ N ≤ 8 ∧ f_slotCount = nI N ∧ a_slotStates g = 2 ∧ k ≤ 2 ∧ a_slotArities g = nI k ∧ (∀ q, ty_ok (tb q)) ∧ (∀ q, q < 24 → a_summaries q = ty_x (tb q))
    ∧ (1 ≤ k → sd_in x (tb (g * 3))) ∧ (2 ≤ k → sd_in y (tb (g * 3 + 1))) ∧ sd_in f_runValue (tb (g * 3 + 2))
theorem zi_begin {Q : Int32 → St2 → Prop} {N : Nat} {u : St2} (I : zi_R N u) {v1 v2 : Int32} (H : ∀ r u', zi_R N u' → Q r u') : wpX_begin Q u v1 v2 := by
  have J := I
  obtain ⟨f_slotCount, f_capacity, f_nodesUsed, f_buildingSlot, f_pendingCount, f_summariesCurrent, f_callsActive, f_callsMade, f_runOutcome, f_runValue, a_slotStates, a_slotArities, a_slotStarts, a_slotSizes, a_kinds, a_firstOperands, a_secondOperands, a_children, a_parents, a_depths, a_pendingNodes, a_summaries, a_nextSummaries, a_nodeTypes, a_paramsAfter, a_params, a_values, a_arguments, a_frameSlots, a_frameNodes⟩ := u
  obtain ⟨C, U, sz, S, tb, szY, bk, ba, bb, rfl, rfl, rfl, ⟨hN1, hN, hC1, hC, hU⟩, hcur, hs, hbld, hT, ht, hnx, hfix⟩ := I
  refine xe_begin hN (fun f a bm hf ha e1 e2 z => H _ _ ?_) (fun no => H _ _ J)
  obtain ⟨_, pz, nob⟩ : f_buildingSlot = -1 ∧ f_pendingCount = 0 ∧ ∀ f, f < N → a_slotStates f ≠ 1 := by
    rcases hbld with h | ⟨b, P, hb, eb, _⟩
    · exact h
    · rw [eb] at bm
      have := nI_pos' (n := b) (by omega)
      rw [bm] at this
      exact absurd this (by decide)
  refine ⟨C, U, bg_upd sz f 0, bg_upd S f U, tb, upd szY f 0, bk, ba, bb, rfl, rfl, rfl, ⟨hN1, hN, hC1, hC, hU⟩, hcur, ?_, ?_, hT, ht, hnx, fun c q hq => ?_⟩
  · intro g hg
    by_cases e : g = f
    · subst e
      rw [bg_us, bg_us]
      refine ⟨Or.inr (Or.inl pk_us), fun _ => ⟨pk_us, pk_us, pk_us, Nat.le_refl _, a, by omega, pk_us, by omega, ⟨fun i hi => absurd hi (Nat.not_lt_zero i), fun i => rfl, fun i hi => absurd hi (Nat.not_lt_zero i)⟩, fun i hi => absurd hi (Nat.not_lt_zero i)⟩, fun n => ?_⟩
      rw [pk_us] at n
      exact absurd n (by decide)
    · rw [bg_un e, bg_un e]
      exact rl_slot_un (hs g hg) e (pk_un e) (pk_un e) (pk_un e) (pk_un e) (pk_un e) (fun n => ((hs g hg).2.1 n).2.2.2.1)
  · refine Or.inr ⟨f, 0, hf, rfl, pz.trans nI_0.symm, pk_us, fun g hg e => ?_, ?_, fun g hg s2 => ?_, by rw [bg_us]; rfl, fun q hq => absurd hq (Nat.not_lt_zero q)⟩
    · rw [pk_un e]; exact nob g hg
    · rw [bg_us, bg_us]; rfl
    · have e : g ≠ f := fun e => by
        rw [e, pk_us] at s2
        exact absurd s2 (by decide)
      rw [bg_un e, bg_un e, bg_us]
      rw [pk_un e] at s2
      exact ((hs g hg).2.1 (by rw [s2]; decide)).2.2.2.1
  · rw [sd_step (st := a_slotStates) (ar := a_slotArities) (sz := sz) (K := rl_K bk) (A := rl_K ba) (B := rl_K bb) hN (rl_sp_ok hs) ⟨fun g hg => ?_, fun g hg s => ?_⟩]
    · exact hfix c q hq
    · by_cases e : g = f
      · subst e
        rw [pk_us, z]
        exact ⟨fun n => absurd n (by decide), fun n => absurd n (by decide)⟩
      · rw [pk_un e]
    · have e : g ≠ f := fun e => by
        rw [e, z] at s
        exact absurd s (by decide)
      exact ⟨pk_un e, bg_un e, fun i hi => ⟨rfl, rfl, rfl⟩⟩
theorem zi_end {Q : Int32 → St2 → Prop} {N : Nat} {u : St2} (I : zi_R N u) (H : ∀ r u', zi_R N u' → Q r u') : wpX_end Q u := by
  have J := I
  obtain ⟨f_slotCount, f_capacity, f_nodesUsed, f_buildingSlot, f_pendingCount, f_summariesCurrent, f_callsActive, f_callsMade, f_runOutcome, f_runValue, a_slotStates, a_slotArities, a_slotStarts, a_slotSizes, a_kinds, a_firstOperands, a_secondOperands, a_children, a_parents, a_depths, a_pendingNodes, a_summaries, a_nextSummaries, a_nodeTypes, a_paramsAfter, a_params, a_values, a_arguments, a_frameSlots, a_frameNodes⟩ := u
  obtain ⟨C, U, sz, S, tb, szY, bk, ba, bb, rfl, rfl, rfl, ⟨hN1, hN, hC1, hC, hU⟩, hcur, hs, hbld, hT, ht, hnx, hfix⟩ := I
  have hb0 := hbld
  unfold wpX_end
  rcases hbld with ⟨rfl, rfl, _⟩ | ⟨b, P, hb, rfl, rfl, s1, un, eU, lo, eP, pp⟩
  · exact br_t rfl (H _ _ J)
  · obtain ⟨e1, e2, e3, e4, kk, hkk, ekk, hB⟩ := (hs b hb).2.1 (by rw [s1]; decide)
    have hS := hB.1
    have w : vp_in (nI b) 8 := vp_in_nI (by omega) (by decide)
    have cl : (nI b).toNatClampNeg = b := nI_clamp (by omega)
    have pl := bs_pc_le (rl_c (rl_K bk b) (rl_K bb b)) (sz b)
    have nb : ¬ nI b = -1 := fun z => by
      have := nI_pos' (n := b) (by omega)
      rw [z] at this
      exact absurd this (by decide)
    refine br_f nb ?_
    by_cases p1 : P = 1
    · subst p1
      have z0 : 0 < sz b := by
        refine Nat.pos_of_ne_zero fun z => ?_
        rw [z] at eP
        exact absurd (show (1 : Nat) = 0 from eP) (by decide)
      refine br_t rfl (br_f (by decide) ⟨w, nm_r (e' := upd a_slotStates b 2) (by rw [cl]) (H _ _ ?_)⟩)
      refine ⟨C, U, sz, S, tb, szY, bk, ba, bb, rfl, rfl, rfl, ⟨hN1, hN, hC1, hC, hU⟩, Or.inl rfl, ?_, Or.inl ⟨rfl, rfl, fun g hg => ?_⟩, hT, ht, hnx, fun c => absurd c (by decide)⟩
      · intro g hg
        by_cases e : g = b
        · subst e
          refine ⟨Or.inr (Or.inr pk_us), fun _ => ⟨e1, e2, e3, e4, kk, hkk, ekk, hB⟩, fun _ => ⟨z0, eP.symm, ?_⟩⟩
          have := (pp 0 (by omega)).2
          rw [bs_sc_0] at this
          exact this
        · exact rl_slot_un (hs g hg) e (pk_un e) rfl rfl rfl rfl (fun n => ((hs g hg).2.1 n).2.2.2.1)
      · by_cases e : g = b
        · subst e; rw [pk_us]; decide
        · rw [pk_un e]; exact un g hg e
    · have np : ¬ nI P = 1 := fun z => p1 (by rw [show (1 : Int32) = nI 1 by decide, nI_eq (by omega) (by omega)] at z; exact z)
      refine br_f np (br_t rfl ⟨w, nm_r (e' := upd a_slotStates b 0) (by rw [cl]) ⟨w, nm_r (e' := nI (S b)) (by rw [cl]; exact e3) (H _ _ ?_)⟩⟩)
      refine ⟨C, S b, sz, S, tb, szY, bk, ba, bb, rfl, rfl, rfl, ⟨hN1, hN, hC1, hC, by omega⟩, hcur, ?_, Or.inl ⟨rfl, rfl, fun g hg => ?_⟩, hT, ht, hnx, fun c q hq => ?_⟩
      · intro g hg
        by_cases e : g = b
        · subst e
          refine ⟨Or.inl pk_us, fun n => absurd pk_us n, fun n => ?_⟩
          rw [pk_us] at n
          exact absurd n (by decide)
        · refine rl_slot_un (hs g hg) e (pk_un e) rfl rfl rfl rfl (fun n => lo g hg ?_)
          rcases (hs g hg).1 with q | q | q
          · exact absurd q n
          · exact absurd q (un g hg e)
          · exact q
      · by_cases e : g = b
        · subst e; rw [pk_us]; decide
        · rw [pk_un e]; exact un g hg e
      · rw [sd_step (st := a_slotStates) (ar := a_slotArities) (sz := sz) (K := rl_K bk) (A := rl_K ba) (B := rl_K bb) hN (rl_sp_ok hs) ⟨fun g hg => ?_, fun g hg s => ⟨rfl, rfl, fun i hi => ⟨rfl, rfl, rfl⟩⟩⟩]
        · exact hfix c q hq
        · by_cases e : g = b
          · subst e
            rw [pk_us, s1]
            exact ⟨fun n => absurd n (by decide), fun n => absurd n (by decide)⟩
          · rw [pk_un e]
theorem zi_node {Q : Int32 → St2 → Prop} {N : Nat} {u : St2} (I : zi_R N u) {v1 v2 v3 : Int32} (H : ∀ r u', zi_R N u' → Q r u') : wpX_node Q u v1 v2 v3 := by
  have J := I
  obtain ⟨f_slotCount, f_capacity, f_nodesUsed, f_buildingSlot, f_pendingCount, f_summariesCurrent, f_callsActive, f_callsMade, f_runOutcome, f_runValue, a_slotStates, a_slotArities, a_slotStarts, a_slotSizes, a_kinds, a_firstOperands, a_secondOperands, a_children, a_parents, a_depths, a_pendingNodes, a_summaries, a_nextSummaries, a_nodeTypes, a_paramsAfter, a_params, a_values, a_arguments, a_frameSlots, a_frameNodes⟩ := u
  obtain ⟨C, U, sz, S, tb, szY, bk, ba, bb, rfl, rfl, rfl, ⟨hN1, hN, hC1, hC, hU⟩, hcur, hs, hbld, hT, ht, hnx, hfix⟩ := I
  rcases hbld with ⟨rfl, rfl, _⟩ | ⟨b, P, hb, rfl, rfl, s1, un, eU, lo, eP, pp⟩
  · unfold wpX_node
    exact br_t rfl (H _ _ J)
  · obtain ⟨e1, e2, e3, e4, kk, hkk, ekk, hB⟩ := (hs b hb).2.1 (by rw [s1]; decide)
    have hS := hB.1
    refine xe_node (w := bs_cc v1 (nd_b v1 v3)) hN hC hU hb hkk ekk e1 hB eP eU pp rfl (fun ft w3 c1 c2 c3 CH PA a1 a2 a3 a4 => H _ _ ?_) (fun no => H _ _ J)
    have cc : ∀ i, i < sz b → (rl_c (rl_K bk b) (rl_K bb b)) i = (rl_c (rl_K (upd bk (b * 128 + sz b) v1) b) (rl_K (upd bb (b * 128 + sz b) (nd_b v1 v3)) b)) i := fun i hi => by
      show bs_cc (bk (b * 128 + i)) (bb (b * 128 + i)) = bs_cc (upd bk (b * 128 + sz b) v1 (b * 128 + i)) (upd bb (b * 128 + sz b) (nd_b v1 v3) (b * 128 + i))
      rw [pk_un (by omega), pk_un (by omega)]
    have cz : (rl_c (rl_K (upd bk (b * 128 + sz b) v1) b) (rl_K (upd bb (b * 128 + sz b) (nd_b v1 v3)) b)) (sz b) = bs_cc v1 (nd_b v1 v3) := by
      show bs_cc (upd bk (b * 128 + sz b) v1 (b * 128 + sz b)) (upd bb (b * 128 + sz b) (nd_b v1 v3) (b * 128 + sz b)) = _
      rw [pk_us, pk_us]
    have pos := bs_pos hB.2.1.2.2
    have row : ∀ q, q < P → bs_sc (rl_c (rl_K bk b) (rl_K bb b)) q (sz b) - 1 < sz b := fun q hq => by
      have := pos.1 q (by omega)
      have := bs_sc_le (rl_c (rl_K bk b) (rl_K bb b)) (sz b) q
      omega
    refine ⟨C, U + 1, bg_upd sz b (sz b + 1), S, tb, upd szY b (nI (sz b + 1)), upd bk (b * 128 + sz b) v1, upd ba (b * 128 + sz b) (nd_a v1 v2), upd bb (b * 128 + sz b) (nd_b v1 v3), rfl, rfl, rfl, ⟨hN1, hN, hC1, hC, c2⟩, hcur, ?_, ?_, hT, ht, hnx, fun c q hq => ?_⟩
    · intro g hg
      by_cases e : g = b
      · subst e
        rw [bg_us]
        refine ⟨Or.inr (Or.inl s1), fun _ => ⟨pk_us, pk_us, e3, by omega, kk, hkk, ekk, ?_⟩, fun n => absurd (s1.symm.trans n) (by decide)⟩
        refine rl_add (w := bs_cc v1 (nd_b v1 v3)) hB (fun i hi => ⟨pk_un (by omega), pk_un (by omega), pk_un (by omega)⟩) ?_ cz (by rw [← eP]; exact c1) (by omega) (fun q hq => (pp q (by omega)).2) (fun r h1 h2 => ⟨pk_un (by omega), pk_un (by omega), pk_un (by omega), pk_un (by omega)⟩) (fun q h1 h2 => a2 q (Or.inl (by omega))) (fun r h1 h2 h3 => ?_) (fun q hq => ?_) ?_ ?_ ?_ (fun j hj => ?_) ?_ c3
        · show bd_nd N kk (upd bk (g * 128 + sz g) v1 (g * 128 + sz g)) (upd ba (g * 128 + sz g) (nd_a v1 v2) (g * 128 + sz g)) (upd bb (g * 128 + sz g) (nd_b v1 v3) (g * 128 + sz g))
          rw [pk_us, pk_us, pk_us]; exact ft
        · rw [pk_un (by omega)]
          exact a4 r (fun i hi => h3 (bs_cc v1 (nd_b v1 v3) - 1 - i) (by omega))
        · have r := row q (by omega)
          rw [pk_un (by omega), eU]
          have := a3 (bs_cc v1 (nd_b v1 v3) - 1 - q) (by omega)
          rw [show bs_cc v1 (nd_b v1 v3) - 1 - (bs_cc v1 (nd_b v1 v3) - 1 - q) = q by omega] at this
          exact this
        · rw [eU]
          show upd a_kinds U v1 U = upd bk (g * 128 + sz g) v1 (g * 128 + sz g)
          rw [pk_us, pk_us]
        · rw [eU]
          show upd a_firstOperands U (nd_a v1 v2) U = upd ba (g * 128 + sz g) (nd_a v1 v2) (g * 128 + sz g)
          rw [pk_us, pk_us]
        · rw [eU]
          show upd a_secondOperands U (nd_b v1 v3) U = upd bb (g * 128 + sz g) (nd_b v1 v3) (g * 128 + sz g)
          rw [pk_us, pk_us]
        · rw [eU]; exact a1 j hj
        · rw [eU]; exact pk_us
      · rw [bg_un e]
        obtain ⟨g1, g2, g3⟩ := hs g hg
        have low : a_slotStates g ≠ 0 → S g + sz g ≤ S b := fun n => by
          rcases g1 with q | q | q
          · exact absurd q n
          · exact absurd q (un g hg e)
          · exact lo g hg q
        refine ⟨g1, fun n => ?_, fun s2 => ?_⟩
        · obtain ⟨q1, q2, q3, q4, k', hk', ek', hB'⟩ := g2 n
          have l := low n
          have hS' := hB'.1
          refine ⟨(pk_un e).trans q1, (pk_un e).trans q2, q3, by omega, k', hk', ek', rl_keep hB' (fun i hi => ⟨pk_un (by omega), pk_un (by omega), pk_un (by omega)⟩) (fun r h1 h2 => ⟨pk_un (by omega), pk_un (by omega), pk_un (by omega), ?_, pk_un (by omega)⟩) (fun q h1 h2 => a2 q (Or.inl (by omega)))⟩
          rw [pk_un (by omega)]
          exact a4 r (fun i hi => by omega)
        · have n : a_slotStates g ≠ 0 := by rw [s2]; decide
          have l := low n
          obtain ⟨_, _, _, _, k', _, _, hB'⟩ := g2 n
          have hS' := hB'.1
          obtain ⟨z0, pc1, pr⟩ := g3 s2
          refine ⟨z0, ?_, ?_⟩
          · rw [← pc1]
            refine bs_pc_congr (sz g) (fun i hi => ?_)
            show bs_cc (upd bk (b * 128 + sz b) v1 (g * 128 + i)) (upd bb (b * 128 + sz b) (nd_b v1 v3) (g * 128 + i)) = bs_cc (bk (g * 128 + i)) (bb (g * 128 + i))
            rw [pk_un (by omega), pk_un (by omega)]
          · rw [pk_un (by omega), a4 _ (fun i hi => by omega)]
            exact pr
    · refine Or.inr ⟨b, P - bs_cc v1 (nd_b v1 v3) + 1, hb, rfl, rfl, s1, un, ?_, fun g hg s2 => ?_, ?_⟩
      · rw [bg_us]; omega
      · have e : g ≠ b := fun e => by
          rw [e, s1] at s2
          exact absurd s2 (by decide)
        rw [bg_un e]
        exact lo g hg s2
      · rw [bg_us]
        have ep : P - bs_cc v1 (nd_b v1 v3) + 1 = bs_pc (rl_c (rl_K (upd bk (b * 128 + sz b) v1) b) (rl_K (upd bb (b * 128 + sz b) (nd_b v1 v3)) b)) (sz b + 1) := by
          rw [bs_pc_s, cz, ← bs_pc_congr (sz b) cc, eP]
        refine ⟨ep, fun q hq => ?_⟩
        cases q with
        | zero =>
          rw [bs_sc_0, show P - bs_cc v1 (nd_b v1 v3) + 1 - 1 - 0 = P - bs_cc v1 (nd_b v1 v3) by omega, show S b + (sz b + 1 - 1) = U by omega]
          exact ⟨pk_us, pk_us⟩
        | succ q =>
          have r := row (q + bs_cc v1 (nd_b v1 v3)) (by omega)
          obtain ⟨p1, p2⟩ := pp (q + bs_cc v1 (nd_b v1 v3)) (by omega)
          rw [bs_sc_s, cz, ← bs_sc_congr (sz b) cc]
          refine ⟨?_, ?_⟩
          · rw [pk_un (by omega), show P - bs_cc v1 (nd_b v1 v3) + 1 - 1 - (q + 1) = P - 1 - (q + bs_cc v1 (nd_b v1 v3)) by omega]
            exact p1
          · rw [pk_un (by omega), a4 _ (fun i hi z => ?_)]
            · exact p2
            · have ps := pos.1 (bs_cc v1 (nd_b v1 v3) - 1 - i) (by omega)
              have gt := bs_sc_gt (c := (rl_c (rl_K bk b) (rl_K bb b))) (n := sz b) (q := bs_cc v1 (nd_b v1 v3) - 1 - i) (q' := q + bs_cc v1 (nd_b v1 v3)) (by omega) ps
              have ps2 := pos.1 (q + bs_cc v1 (nd_b v1 v3)) (by omega)
              omega
    · rw [sd_step (st := a_slotStates) (ar := a_slotArities) (sz := sz) (K := rl_K bk) (A := rl_K ba) (B := rl_K bb) hN (rl_sp_ok hs) ⟨fun g hg => Iff.rfl, fun g hg s => ?_⟩]
      · exact hfix c q hq
      · have e : g ≠ b := fun e => by
          rw [e, s1] at s
          exact absurd s (by decide)
        obtain ⟨_, _, _, _, k', _, _, hB'⟩ := (hs g hg).2.1 (by rw [s]; decide)
        have hS' := hB'.1
        exact ⟨rfl, bg_un e, fun i hi => ⟨pk_un (by omega), pk_un (by omega), pk_un (by omega)⟩⟩

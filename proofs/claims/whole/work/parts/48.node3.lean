/-- the operands as they are stored -/
theorem xn_children {Q : Int32 → Prop} {N k : Nat} {κ a c : Int32} (h : nd_fit N k κ a c) (H : Q (nI (bs_cc κ (nd_b κ c)))) : wpX_childrenOf Q κ c := by
  unfold wpX_childrenOf
  unfold nd_b at H
  rcases bd_10 h with e | e | e | e | e | e | e | e | e | e <;> rw [e] at H ⊢
  · rw [bs_cc0] at H; exact br_t (by decide) H
  · rw [bs_cc1] at H; exact br_t (by decide) H
  · rw [bs_cc2] at H; exact br_t (by decide) H
  · rw [bs_cc3] at H; exact br_f (by decide) (br_f (by decide) (br_t rfl H))
  · rw [bs_cc4] at H; exact br_f (by decide) (br_f (by decide) (br_f (by decide) (br_t rfl H)))
  · rw [bs_cc5] at H; exact br_f (by decide) (br_f (by decide) (br_f (by decide) (br_f (by decide) (br_t rfl H))))
  · rw [bs_cc6] at H; exact br_f (by decide) (br_f (by decide) (br_f (by decide) (br_f (by decide) (br_f (by decide) (br_t rfl H)))))
  · rw [bs_cc7] at H; exact br_f (by decide) (br_f (by decide) (br_f (by decide) (br_f (by decide) (br_f (by decide) (br_f (by decide) (br_t rfl H))))))
  · rw [bs_cc8] at H; exact br_f (by decide) (br_f (by decide) (br_f (by decide) (br_f (by decide) (br_f (by decide) (br_f (by decide) (br_f (by decide) (br_t rfl H)))))))
  · rw [if_pos rfl, bs_cc9] at H
    rw [e] at h
    obtain ⟨_, w, hw, rfl⟩ := nd_9.mp h
    rw [nI_clamp (by omega)] at H
    exact br_f (by decide) (br_f (by decide) (br_f (by decide) (br_f (by decide) (br_f (by decide) (br_f (by decide) (br_f (by decide) (br_f (by decide) (br_t rfl H))))))))
theorem xn_uses {Q : Int32 → Prop} {κ : Int32} (H1 : (κ = 0 ∨ κ = 1 ∨ κ = 2 ∨ κ = 9) → Q 1) (H0 : ¬ (κ = 0 ∨ κ = 1 ∨ κ = 2 ∨ κ = 9) → Q 0) : wpX_usesFirstOperand Q κ := by
  unfold wpX_usesFirstOperand
  by_cases a : κ = 0
  · exact br_t a (H1 (Or.inl a))
  · refine br_f a ?_
    by_cases b : κ = 1
    · exact br_t b (H1 (Or.inr (Or.inl b)))
    · refine br_f b ?_
      by_cases c : κ = 2
      · exact br_t c (H1 (Or.inr (Or.inr (Or.inl c))))
      · refine br_f c ?_
        by_cases d : κ = 9
        · exact br_t d (H1 (Or.inr (Or.inr (Or.inr d))))
        · exact br_f d (H0 (fun q => q.elim a (fun q => q.elim b (fun q => q.elim c d))))
section
variable {f_slotCount f_capacity f_nodesUsed f_buildingSlot f_pendingCount f_summariesCurrent f_callsActive f_callsMade f_runOutcome f_runValue : Int32} {a_slotStates a_slotArities a_slotStarts a_slotSizes a_kinds a_firstOperands a_secondOperands a_children a_parents a_depths a_pendingNodes a_summaries a_nextSummaries a_nodeTypes a_paramsAfter a_params a_values a_arguments a_frameSlots a_frameNodes : Nat → Int32} {N C k z b S P U w : Nat} {K A B : Nat → Int32} {κ a c : Int32}
theorem xe_node {Q : Int32 → SX → Prop} (hN : N ≤ 8) (hC : C ≤ 128) (hUC : U ≤ C) (hb : b < N) (hk : k ≤ 2) (ek : a_slotArities b = nI k) (e1 : a_slotSizes b = nI z) (hB : rl_body N k z S K A B a_kinds a_firstOperands a_secondOperands a_children a_parents a_depths)
    (eP : P = bs_pc (rl_c K B) z) (eU : S + z = U) (pp : ∀ q, q < P → a_pendingNodes (P - 1 - q) = nI (S + (bs_sc (rl_c K B) q z - 1)) ∧ a_parents (S + (bs_sc (rl_c K B) q z - 1)) = -1) (ew : bs_cc κ (nd_b κ c) = w)
    (H1 : nd_fit N k κ a c → w ≤ 3 → w ≤ P → U < C → bs_dm (rl_c K B) (rl_D S a_depths) z w + 1 ≤ 10 → ∀ CH PA : Nat → Int32, (∀ i, i < w → CH (U * 3 + i) = nI (S + (bs_sc (rl_c K B) (w - 1 - i) z - 1))) → (∀ q, (q < U * 3 ∨ U * 3 + w ≤ q) → CH q = a_children q) → (∀ i, i < w → PA (S + (bs_sc (rl_c K B) (w - 1 - i) z - 1)) = nI U) → (∀ r, (∀ i, i < w → r ≠ S + (bs_sc (rl_c K B) (w - 1 - i) z - 1)) → PA r = a_parents r) →
      Q 1 (nI N, nI C, nI (U + 1), nI b, nI (P - w + 1), f_summariesCurrent, f_callsActive, f_callsMade, f_runOutcome, f_runValue, a_slotStates, a_slotArities, a_slotStarts, upd a_slotSizes b (nI (z + 1)), upd a_kinds U κ, upd a_firstOperands U (nd_a κ a), upd a_secondOperands U (nd_b κ c), CH, upd PA U (-1), upd a_depths U (nI (bs_dm (rl_c K B) (rl_D S a_depths) z w + 1)), upd a_pendingNodes (P - w) (nI U), a_summaries, a_nextSummaries, a_nodeTypes, a_paramsAfter, a_params, a_values, a_arguments, a_frameSlots, a_frameNodes))
    (H0 : ¬ (nd_fit N k κ a c ∧ w ≤ P ∧ U < C ∧ bs_dm (rl_c K B) (rl_D S a_depths) z w + 1 ≤ 10) → Q 0 (nI N, nI C, nI U, nI b, nI P, f_summariesCurrent, f_callsActive, f_callsMade, f_runOutcome, f_runValue, a_slotStates, a_slotArities, a_slotStarts, a_slotSizes, a_kinds, a_firstOperands, a_secondOperands, a_children, a_parents, a_depths, a_pendingNodes, a_summaries, a_nextSummaries, a_nodeTypes, a_paramsAfter, a_params, a_values, a_arguments, a_frameSlots, a_frameNodes)) : wpX_node Q (nI N, nI C, nI U, nI b, nI P, f_summariesCurrent, f_callsActive, f_callsMade, f_runOutcome, f_runValue, a_slotStates, a_slotArities, a_slotStarts, a_slotSizes, a_kinds, a_firstOperands, a_secondOperands, a_children, a_parents, a_depths, a_pendingNodes, a_summaries, a_nextSummaries, a_nodeTypes, a_paramsAfter, a_params, a_values, a_arguments, a_frameSlots, a_frameNodes) κ a c := by
  have hS := hB.1
  have pl := bs_pc_le (rl_c K B) z
  have nb : ¬ nI b = -1 := fun z => by
    have := nI_pos' (n := b) (by omega)
    rw [z] at this
    exact absurd this (by decide)
  unfold wpX_node
  dsimp only
  refine br_f nb (xn_fit hN hb hk ek (fun ft => ?_) (fun nf => H0 fun q => nf q.1))
  have w3 : w ≤ 3 := by
    rw [← ew]
    rcases bd_10 ft with z | z | z | z | z | z | z | z | z | z <;> rw [z]
    · rw [bs_cc0]; decide
    · rw [bs_cc1]; decide
    · rw [bs_cc2]; decide
    · rw [bs_cc3]; decide
    · rw [bs_cc4]; decide
    · rw [bs_cc5]; decide
    · rw [bs_cc6]; decide
    · rw [bs_cc7]; decide
    · rw [bs_cc8]; decide
    · rw [bs_cc9]
      obtain ⟨q, hq, e⟩ := ft.2.2.2.2.2.1
      rw [z] at e
      rw [e, nI_clamp (by omega)]; omega
  refine xn_children ft ?_
  rw [ew]
  by_cases c1 : w ≤ P
  · refine br_f (nI_nlt c1 (by omega)) ?_
    by_cases c2 : U < C
    · refine br_t (nI_lt c2 (by omega)) (xn_depth hB c1 eP pp ?_)
      by_cases c3 : bs_dm (rl_c K B) (rl_D S a_depths) z w + 1 ≤ 10
      · refine br_t (nI_le (b := 10) c3 (by decide)) (xn_adopt hB c1 w3 eP eU (by omega) pp fun CH PA a1 a2 a3 a4 => ?_)
        have wU : vp_in (nI U) 128 := vp_in_nI (by omega) (by decide)
        have cU : (nI U).toNatClampNeg = U := nI_clamp (by omega)
        have wb : vp_in (nI b) 8 := vp_in_nI (by omega) (by decide)
        have cb : (nI b).toNatClampNeg = b := nI_clamp (by omega)
        have cP : (nI (P - w)).toNatClampNeg = P - w := nI_clamp (by omega)
        have fin : ∀ s0 s1 : Int32, s0 = nd_a κ a → s1 = nd_b κ c → wX_node_129 Q (nI (bs_dm (rl_c K B) (rl_D S a_depths) z w + 1)) s1 (nI U) (nI N) (nI C) (nI U) (nI b) (nI (P - w)) f_summariesCurrent f_callsActive f_callsMade f_runOutcome f_runValue a_slotStates a_slotArities a_slotStarts a_slotSizes (upd a_kinds U κ) (upd a_firstOperands U s0) a_secondOperands CH PA a_depths a_pendingNodes a_summaries a_nextSummaries a_nodeTypes a_paramsAfter a_params a_values a_arguments a_frameSlots a_frameNodes := by
          intro s0 s1 es0 es1
          unfold wX_node_129
          rw [cU, cb, cP, e1, es0, es1, nI_1 z]
          exact ⟨wU, nm_e ⟨wU, nm_e ⟨wU, nm_e ⟨vp_in_nI (by omega) (by decide), nm_e (nm_r (nI_1 _) (nm_r (nI_1 _) ⟨wb, wb, nm_e (H1 ft w3 c1 c2 c3 CH PA a1 a2 a3 a4)⟩))⟩⟩⟩⟩
        have f109 : ∀ s0 : Int32, s0 = nd_a κ a → wX_node_109 Q κ c (nI (bs_dm (rl_c K B) (rl_D S a_depths) z w + 1)) s0 (nI U) (nI N) (nI C) (nI U) (nI b) (nI (P - w)) f_summariesCurrent f_callsActive f_callsMade f_runOutcome f_runValue a_slotStates a_slotArities a_slotStarts a_slotSizes (upd a_kinds U κ) a_firstOperands a_secondOperands CH PA a_depths a_pendingNodes a_summaries a_nextSummaries a_nodeTypes a_paramsAfter a_params a_values a_arguments a_frameSlots a_frameNodes := by
          intro s0 es0
          unfold wX_node_109
          rw [cU]
          refine ⟨wU, nm_e ?_⟩
          by_cases k9 : κ = 9
          · exact br_t k9 (fin s0 c es0 (by unfold nd_b; rw [if_pos k9]))
          · exact br_f k9 (fin s0 0 es0 (by unfold nd_b; rw [if_neg k9]))
        dsimp only
        rw [cU]
        refine ⟨wU, nm_e (xn_uses (fun u => br_f (by decide) ?_) (fun u => br_t rfl ?_))⟩
        · exact f109 a (by unfold nd_a; rw [if_pos u])
        · exact f109 0 (by unfold nd_a; rw [if_neg u])
      · exact br_f (nI_ge (b := bs_dm (rl_c K B) (rl_D S a_depths) z w + 1) (a := 10) (by omega) (by
          have pos := bs_pos hB.2.1.2.2
          have := bs_dm_10 (rl_c K B) (rl_D S a_depths) z (n := w) (fun j hj => by
            have := pos.1 j (by omega)
            have := bs_sc_le (rl_c K B) z j
            exact (rl_D_in hB (show bs_sc (rl_c K B) j z - 1 < z by omega)).2)
          omega)) (H0 fun q => c3 q.2.2.2)
    · exact br_f (nI_nlt (by omega) (by omega)) (H0 fun q => c2 q.2.2.1)
  · exact br_t (nI_lt (by omega) (by omega)) (H0 fun q => c1 q.2.1)
end
section
variable {f_n f_cap f_ana f_res f_anyT f_intsT f_wp f_vp f_made f_active f_xp f_curK f_rBot f_rR f_rE0 f_rE1 : Int32} {a_st a_ar a_size a_bk a_ba a_bb a_ds a_tab a_nxt a_wN a_wS a_wF a_vs a_frS a_frP0 a_frP1 a_xN a_xS a_xE0 a_xE1 a_xA a_xB a_xC a_xD a_xE a_xF a_xG : Nat → Int32} {N U k b : Nat} {κ a c pc : Int32} {sz S : Nat → Nat} {bk bb pe pa : Nat → Int32}
theorem ye_node {Q : Int32 → SY → Prop} (hN : N ≤ 8) (hbld : rl_bld N U sz S a_st bk bb pe pa (nI b) pc) (hb : b < N) (hk : k ≤ 2) (ek : a_ar b = nI k) (H1 : nd_fit N k κ a c → wY_node_132 Q κ (nI b) (nd_a κ a) (nd_b κ c) (nI N) f_cap f_ana f_res f_anyT f_intsT f_wp f_vp f_made f_active f_xp f_curK f_rBot f_rR f_rE0 f_rE1 a_st a_ar a_size a_bk a_ba a_bb a_ds a_tab a_nxt a_wN a_wS a_wF a_vs a_frS a_frP0 a_frP1 a_xN a_xS a_xE0 a_xE1 a_xA a_xB a_xC a_xD a_xE a_xF a_xG) (H0 : ¬ nd_fit N k κ a c → Q 0 (nI N, f_cap, f_ana, f_res, f_anyT, f_intsT, f_wp, f_vp, f_made, f_active, f_xp, f_curK, f_rBot, f_rR, f_rE0, f_rE1, a_st, a_ar, a_size, a_bk, a_ba, a_bb, a_ds, a_tab, a_nxt, a_wN, a_wS, a_wF, a_vs, a_frS, a_frP0, a_frP1, a_xN, a_xS, a_xE0, a_xE1, a_xA, a_xB, a_xC, a_xD, a_xE, a_xF, a_xG)) :
    wpY_node Q (nI N, f_cap, f_ana, f_res, f_anyT, f_intsT, f_wp, f_vp, f_made, f_active, f_xp, f_curK, f_rBot, f_rR, f_rE0, f_rE1, a_st, a_ar, a_size, a_bk, a_ba, a_bb, a_ds, a_tab, a_nxt, a_wN, a_wS, a_wF, a_vs, a_frS, a_frP0, a_frP1, a_xN, a_xS, a_xE0, a_xE1, a_xA, a_xB, a_xC, a_xD, a_xE, a_xF, a_xG) κ a c := by
  unfold wpY_node
  dsimp only
  exact yd_bldg hN hbld (br_t (nI_pos' (by omega)) (yn_fit hN hb hk ek H1 H0))
end

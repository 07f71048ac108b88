/-- the operands as they are stored -/
theorem bs_dm_ub (c D : Nat → Nat) (m : Nat) {M : Nat} : ∀ {n : Nat}, (∀ j, j < n → D (bs_sc c j m - 1) ≤ M) → bs_dm c D m n ≤ M := by
  intro n
  induction n with
  | zero => intro _; exact Nat.zero_le _
  | succ n ih =>
    intro h
    rw [bs_dm_s]
    have := ih (fun j hj => h j (by omega))
    have := h n (by omega)
    omega
section
variable {f_n f_cap f_ana f_res f_anyT f_intsT f_wp f_vp f_made f_active f_xp f_curK f_rBot f_rR f_rE0 f_rE1 : Int32} {a_st a_ar a_size a_bk a_ba a_bb a_ds a_tab a_nxt a_wN a_wS a_wF a_vs a_frS a_frP0 a_frP1 a_xN a_xS a_xE0 a_xE1 a_xA a_xB a_xC a_xD a_xE a_xF a_xG : Nat → Int32} {N U C k z b S : Nat} {sz St : Nat → Nat} {kd fo so ch pa dp szX sX : Nat → Int32} {κ sa sb : Int32}
theorem yn_132 {Q : Int32 → SY → Prop} {w : Nat} (hN : N ≤ 8) (hC : C ≤ 128) (hU : U ≤ C) (hb : b < N) (hnd : bd_nd N k κ sa sb) (hw : bs_cc κ sb = w) (hs : rl_slots N U sz St a_st a_ar szX a_size sX a_bk a_ba a_bb kd fo so ch pa dp) (hsum : rl_sum a_st sz N = U) (ez : sz b = z) (eS : St b = S)
    (hB : rl_body N k z S (rl_K a_bk b) (rl_K a_ba b) (rl_K a_bb b) kd fo so ch pa dp) (e2 : a_size b = nI z) (eU : S + z = U)
    (H1 : w ≤ bs_pc (rl_c (rl_K a_bk b) (rl_K a_bb b)) z → U < C → bs_dm (rl_c (rl_K a_bk b) (rl_K a_bb b)) (rl_D S dp) z w + 1 ≤ 10 → ∀ ds : Nat → Int32, Q 1 (nI N, nI C, f_ana, f_res, f_anyT, f_intsT, f_wp, f_vp, f_made, f_active, f_xp, f_curK, f_rBot, f_rR, f_rE0, f_rE1, a_st, a_ar, upd a_size b (nI (z + 1)), upd a_bk (b * 128 + z) κ, upd a_ba (b * 128 + z) sa, upd a_bb (b * 128 + z) sb, ds, a_tab, a_nxt, a_wN, a_wS, a_wF, a_vs, a_frS, a_frP0, a_frP1, a_xN, a_xS, a_xE0, a_xE1, a_xA, a_xB, a_xC, a_xD, a_xE, a_xF, a_xG))
    (H0 : ¬ (w ≤ bs_pc (rl_c (rl_K a_bk b) (rl_K a_bb b)) z ∧ U < C ∧ bs_dm (rl_c (rl_K a_bk b) (rl_K a_bb b)) (rl_D S dp) z w + 1 ≤ 10) → ∀ ds : Nat → Int32, Q 0 (nI N, nI C, f_ana, f_res, f_anyT, f_intsT, f_wp, f_vp, f_made, f_active, f_xp, f_curK, f_rBot, f_rR, f_rE0, f_rE1, a_st, a_ar, a_size, a_bk, a_ba, a_bb, ds, a_tab, a_nxt, a_wN, a_wS, a_wF, a_vs, a_frS, a_frP0, a_frP1, a_xN, a_xS, a_xE0, a_xE1, a_xA, a_xB, a_xC, a_xD, a_xE, a_xF, a_xG)) : wY_node_132 Q κ (nI b) sa sb (nI N) (nI C) f_ana f_res f_anyT f_intsT f_wp f_vp f_made f_active f_xp f_curK f_rBot f_rR f_rE0 f_rE1 a_st a_ar a_size a_bk a_ba a_bb a_ds a_tab a_nxt a_wN a_wS a_wF a_vs a_frS a_frP0 a_frP1 a_xN a_xS a_xE0 a_xE1 a_xA a_xB a_xC a_xD a_xE a_xF a_xG := by
  have hS := hB.1
  have w3 : w ≤ 3 := by
    rw [← hw]
    rcases bd_10 hnd with z | z | z | z | z | z | z | z | z | z <;> rw [z]
    · rw [bs_cc0]; decide
    · rw [bs_cc1]; decide
    · rw [bs_cc2]; decide
    · rw [bs_cc3]; decide
    · rw [bs_cc4]; decide
    · rw [bs_cc5]; decide
    · rw [bs_cc6]; decide
    · rw [bs_cc7]; decide
    · rw [bs_cc8]; decide
    · rw [bs_cc9]
      obtain ⟨q, hq, e⟩ := hnd.2.2.2.2.2.1
      rw [e, nI_clamp (by omega)]; omega
  have pl := bs_pc_le (rl_c (rl_K a_bk b) (rl_K a_bb b)) z
  have wb : vp_in (nI b) 8 := vp_in_nI (by omega) (by decide)
  have cb : (nI b).toNatClampNeg = b := nI_clamp (by omega)
  unfold wY_node_132
  refine yt_cc hnd ?_
  rw [hw]
  refine yd_scan (by omega) hB e2 fun ds inv => ?_
  by_cases c1 : w ≤ bs_pc (rl_c (rl_K a_bk b) (rl_K a_bb b)) z
  · refine br_t (nI_le c1 (by omega)) ?_
    have pos := bs_pos hB.2.1.2.2
    have dle : ∀ j, j < bs_pc (rl_c (rl_K a_bk b) (rl_K a_bb b)) z → rl_D S dp (bs_sc (rl_c (rl_K a_bk b) (rl_K a_bb b)) j z - 1) ≤ 10 := fun j hj => by
      have := pos.1 j hj
      have := bs_sc_le (rl_c (rl_K a_bk b) (rl_K a_bb b)) z j
      exact (rl_D_in hB (show bs_sc (rl_c (rl_K a_bk b) (rl_K a_bb b)) j z - 1 < z by omega)).2
    have d218 : U < C → ∀ d t fuel, t + d = w → d < fuel → wY_node_218 Q κ (nI b) sa sb (nI w) (nI (bs_pc (rl_c (rl_K a_bk b) (rl_K a_bb b)) z)) (nI N) (nI C) f_ana f_res f_anyT f_intsT f_wp f_vp f_made f_active f_xp f_curK f_rBot f_rR f_rE0 f_rE1 a_st a_ar a_size a_bk a_ba a_bb ds a_tab a_nxt a_wN a_wS a_wF a_vs a_frS a_frP0 a_frP1 a_xN a_xS a_xE0 a_xE1 a_xA a_xB a_xC a_xD a_xE a_xF a_xG fuel (nI (bs_dm (rl_c (rl_K a_bk b) (rl_K a_bb b)) (rl_D S dp) z t)) (nI t) := by
      intro hUC d
      induction d with
      | zero =>
        intro t fuel h1 h2
        obtain ⟨fuel, rfl⟩ : ∃ m, fuel = m + 1 := ⟨fuel - 1, by omega⟩
        obtain rfl : t = w := by omega
        have d2 := bs_dm_10 (rl_c (rl_K a_bk b) (rl_K a_bb b)) (rl_D S dp) z (n := t) (fun j hj => dle j (by omega))
        refine br_t (nI_le (Nat.le_refl _) (by omega)) ?_
        rw [nI_1]
        by_cases c3 : bs_dm (rl_c (rl_K a_bk b) (rl_K a_bb b)) (rl_D S dp) z t + 1 ≤ 10
        · refine br_t (nI_le (b := 10) c3 (by decide)) ⟨wb, ?_⟩
          rw [cb, e2]
          have wi : vp_in (nI (b * 128 + z)) 1024 := vp_in_nI (by omega) (by decide)
          refine nm_r (yk_ix (by omega) (by omega)) ?_
          rw [nI_clamp (n := b * 128 + z) (by omega), nI_1]
          exact ⟨wi, nm_e ⟨wi, nm_e ⟨wi, nm_e ⟨wb, wb, nm_e (H1 c1 hUC c3 ds)⟩⟩⟩⟩
        · exact br_f (nI_ge (b := bs_dm (rl_c (rl_K a_bk b) (rl_K a_bb b)) (rl_D S dp) z t + 1) (a := 10) (by omega) (by omega)) (H0 (fun q => c3 q.2.2) ds)
      | succ d ih =>
        intro t fuel h1 h2
        obtain ⟨fuel, rfl⟩ : ∃ m, fuel = m + 1 := ⟨fuel - 1, by omega⟩
        have d1 := dle t (by omega)
        have d2 := bs_dm_10 (rl_c (rl_K a_bk b) (rl_K a_bb b)) (rl_D S dp) z (n := t) (fun j hj => dle j (by omega))
        have hh := ih (t + 1) fuel (by omega) (by omega)
        rw [bs_dm_s] at hh
        refine br_f (nI_ge (by omega) (by omega)) ?_
        rw [show (nI (bs_pc (rl_c (rl_K a_bk b) (rl_K a_bb b)) z) - 1) - nI t = nI (bs_pc (rl_c (rl_K a_bk b) (rl_K a_bb b)) z - 1 - t) by rw [show nI (bs_pc (rl_c (rl_K a_bk b) (rl_K a_bb b)) z) - 1 = nI (bs_pc (rl_c (rl_K a_bk b) (rl_K a_bb b)) z - 1) from pk_sub (b := 1) (by omega), pk_sub (by omega)], yd_127 (by omega), nI_clamp (n := bs_pc (rl_c (rl_K a_bk b) (rl_K a_bb b)) z - 1 - t) (by omega), inv t (by omega)]
        have wv : vp_in (nI (bs_pc (rl_c (rl_K a_bk b) (rl_K a_bb b)) z - 1 - t)) 128 := vp_in_nI (by omega) (by decide)
        refine ⟨wv, ?_⟩
        by_cases q : rl_D S dp (bs_sc (rl_c (rl_K a_bk b) (rl_K a_bb b)) t z - 1) ≤ bs_dm (rl_c (rl_K a_bk b) (rl_K a_bb b)) (rl_D S dp) z t
        · rw [Nat.max_eq_left q] at hh
          exact br_t (nI_le q (by omega)) (nm_r (nI_1 t) hh)
        · rw [Nat.max_eq_right (by omega)] at hh
          exact br_f (nI_ge (by omega) (by omega)) ⟨wv, nm_e (nm_r (nI_1 t) hh)⟩
    have sm : ∀ d g, g + d = N → rl_sum a_st sz g ≤ U := by
      intro d
      induction d with
      | zero => intro g h; rw [show g = N by omega]; omega
      | succ d ih => intro g h; have := ih (g + 1) (by omega); rw [rl_sum_s] at this; omega
    have tot : ∀ d g fuel, g + d = N → d < fuel → wY_node_164 Q κ (nI b) sa sb (nI w) (nI (bs_pc (rl_c (rl_K a_bk b) (rl_K a_bb b)) z)) (nI N) (nI C) f_ana f_res f_anyT f_intsT f_wp f_vp f_made f_active f_xp f_curK f_rBot f_rR f_rE0 f_rE1 a_st a_ar a_size a_bk a_ba a_bb ds a_tab a_nxt a_wN a_wS a_wF a_vs a_frS a_frP0 a_frP1 a_xN a_xS a_xE0 a_xE1 a_xA a_xB a_xC a_xD a_xE a_xF a_xG fuel (nI (rl_sum a_st sz g)) (nI g) := by
      intro d
      induction d with
      | zero =>
        intro g fuel h1 h2
        obtain ⟨fuel, rfl⟩ : ∃ m, fuel = m + 1 := ⟨fuel - 1, by omega⟩
        obtain rfl : g = N := by omega
        rw [hsum]
        refine br_t (nI_le (Nat.le_refl _) (by omega)) ?_
        by_cases c2 : U < C
        · exact br_t (nI_lt c2 (by omega)) ⟨w + 1, d218 c2 w 0 (w + 1) (by omega) (by omega)⟩
        · exact br_f (nI_nlt (by omega) (by omega)) (H0 (fun q => c2 q.2.1) ds)
      | succ d ih =>
        intro g fuel h1 h2
        obtain ⟨fuel, rfl⟩ : ∃ m, fuel = m + 1 := ⟨fuel - 1, by omega⟩
        have wg : vp_in (nI g) 8 := vp_in_nI (by omega) (by decide)
        have cg : (nI g).toNatClampNeg = g := nI_clamp (by omega)
        have hh := ih (g + 1) fuel (by omega) (by omega)
        rw [rl_sum_s] at hh
        refine br_f (nI_ge (by omega) (by omega)) ⟨wg, ?_⟩
        rw [cg]
        by_cases s0 : a_st g = 0
        · rw [if_pos s0, Nat.add_zero] at hh
          exact br_t s0 (nm_r (nI_1 g) hh)
        · rw [if_neg s0] at hh
          obtain ⟨_, q2, _⟩ := (hs g (by omega)).2.1 s0
          refine br_f s0 ⟨wg, nm_r (e' := nI (rl_sum a_st sz g + sz g)) (by rw [q2, nI_add]) (nm_r (nI_1 g) hh)⟩
    exact ⟨N + 1, tot N 0 (N + 1) (by omega) (by omega)⟩
  · exact br_f (nI_ge (by omega) (by omega)) (H0 (fun q => c1 q.1) ds)
end
section
variable {f_slotCount f_capacity f_nodesUsed f_buildingSlot f_pendingCount f_summariesCurrent f_callsActive f_callsMade f_runOutcome f_runValue : Int32} {a_slotStates a_slotArities a_slotStarts a_slotSizes a_kinds a_firstOperands a_secondOperands a_children a_parents a_depths a_pendingNodes a_summaries a_nextSummaries a_nodeTypes a_paramsAfter a_params a_values a_arguments a_frameSlots a_frameNodes : Nat → Int32} {N k z S P U : Nat} {K A B : Nat → Int32}
theorem xn_depth {Q : Int32 → Prop} {w : Nat} (hB : rl_body N k z S K A B a_kinds a_firstOperands a_secondOperands a_children a_parents a_depths) (hw : w ≤ P) (eP : P = bs_pc (rl_c K B) z) (pp : ∀ q, q < P → a_pendingNodes (P - 1 - q) = nI (S + (bs_sc (rl_c K B) q z - 1)) ∧ a_parents (S + (bs_sc (rl_c K B) q z - 1)) = -1)
    (H : Q (nI (bs_dm (rl_c K B) (rl_D S a_depths) z w + 1))) : wpX_depthOver Q (f_slotCount, f_capacity, f_nodesUsed, f_buildingSlot, nI P, f_summariesCurrent, f_callsActive, f_callsMade, f_runOutcome, f_runValue, a_slotStates, a_slotArities, a_slotStarts, a_slotSizes, a_kinds, a_firstOperands, a_secondOperands, a_children, a_parents, a_depths, a_pendingNodes, a_summaries, a_nextSummaries, a_nodeTypes, a_paramsAfter, a_params, a_values, a_arguments, a_frameSlots, a_frameNodes) (nI w) := by
  have hS := hB.1
  have pl := bs_pc_le (rl_c K B) z
  have pos := bs_pos hB.2.1.2.2
  have row : ∀ q, q < P → bs_sc (rl_c K B) q z - 1 < z := fun q hq => by
    have := pos.1 q (by omega)
    have := bs_sc_le (rl_c K B) z q
    omega
  have dd : ∀ q, q < P → a_depths (S + (bs_sc (rl_c K B) q z - 1)) = nI (rl_D S a_depths (bs_sc (rl_c K B) q z - 1)) ∧ rl_D S a_depths (bs_sc (rl_c K B) q z - 1) ≤ 10 := fun q hq => by
    have r := row q hq
    have l := rl_D_lt hB r
    have n := rl_D_in hB r
    obtain ⟨_, _, _, _, d1, _⟩ := hB.2.2 _ r
    exact ⟨by rw [d1, l], n.2⟩
  have loop : ∀ d M fuel, d ≤ w → d < fuel → M ≤ 10 → (∀ q, d ≤ q → q < w → rl_D S a_depths (bs_sc (rl_c K B) q z - 1) ≤ M) → (M = 0 ∨ ∃ q, q < w ∧ M = rl_D S a_depths (bs_sc (rl_c K B) q z - 1)) → wX_depthOver_9 Q f_slotCount f_capacity f_nodesUsed f_buildingSlot (nI P) f_summariesCurrent f_callsActive f_callsMade f_runOutcome f_runValue a_slotStates a_slotArities a_slotStarts a_slotSizes a_kinds a_firstOperands a_secondOperands a_children a_parents a_depths a_pendingNodes a_summaries a_nextSummaries a_nodeTypes a_paramsAfter a_params a_values a_arguments a_frameSlots a_frameNodes fuel (nI M) (nI (P - d)) := by
    intro d
    induction d with
    | zero =>
      intro M fuel h1 h2 h3 up at'
      obtain ⟨fuel, rfl⟩ : ∃ m, fuel = m + 1 := ⟨fuel - 1, by omega⟩
      have e : M = bs_dm (rl_c K B) (rl_D S a_depths) z w := by
        have u := bs_dm_ub (rl_c K B) (rl_D S a_depths) z (n := w) (M := M) (fun j hj => up j (by omega) hj)
        rcases at' with rfl | ⟨q, hq, rfl⟩
        · omega
        · have := bs_dm_le (rl_c K B) (rl_D S a_depths) z hq
          omega
      rw [← e] at H
      refine br_t (nI_le (by omega) (by omega)) ?_
      rw [nI_1]; exact H
    | succ d ih =>
      intro M fuel h1 h2 h3 up at'
      obtain ⟨fuel, rfl⟩ : ∃ m, fuel = m + 1 := ⟨fuel - 1, by omega⟩
      have pd := (pp d (by omega)).1
      obtain ⟨v1, v2⟩ := dd d (by omega)
      have r := row d (by omega)
      refine br_f (nI_ge (by omega) (by omega)) ⟨vp_in_nI (by omega) (by decide), ?_⟩
      rw [nI_clamp (n := P - (d + 1)) (by omega), show P - (d + 1) = P - 1 - d by omega, pd, nI_clamp (n := S + (bs_sc (rl_c K B) d z - 1)) (by omega), v1]
      refine ⟨vp_in_nI (by omega) (by decide), nm_e ?_⟩
      by_cases q : rl_D S a_depths (bs_sc (rl_c K B) d z - 1) ≤ M
      · refine br_t (nI_le q (by omega)) (nm_r (e' := nI (P - d)) (by rw [nI_1, show P - 1 - d + 1 = P - d by omega]) (ih M fuel (by omega) (by omega) h3 (fun j hj hj2 => ?_) at'))
        by_cases e : j = d
        · subst e; exact q
        · exact up j (by omega) hj2
      · refine br_f (nI_ge (by omega) (by omega)) (nm_r (e' := nI (P - d)) (by rw [nI_1, show P - 1 - d + 1 = P - d by omega]) (ih _ fuel (by omega) (by omega) v2 (fun j hj hj2 => ?_) (Or.inr ⟨d, by omega, rfl⟩)))
        by_cases e : j = d
        · subst e; exact Nat.le_refl _
        · have := up j (by omega) hj2; omega
  unfold wpX_depthOver
  dsimp only
  refine nm_r (e' := nI (P - w)) (pk_sub hw) ⟨w + 1, loop w 0 (w + 1) (Nat.le_refl _) (by omega) (by omega) (fun q h1 h2 => absurd h1 (by omega)) (Or.inl rfl)⟩
theorem xn_adopt {Q : SX → Prop} {w : Nat} (hB : rl_body N k z S K A B a_kinds a_firstOperands a_secondOperands a_children a_parents a_depths) (hw : w ≤ P) (w3 : w ≤ 3) (eP : P = bs_pc (rl_c K B) z) (eU : S + z = U) (hU : U < 128) (pp : ∀ q, q < P → a_pendingNodes (P - 1 - q) = nI (S + (bs_sc (rl_c K B) q z - 1)) ∧ a_parents (S + (bs_sc (rl_c K B) q z - 1)) = -1)
    (H : ∀ CH PA : Nat → Int32, (∀ i, i < w → CH (U * 3 + i) = nI (S + (bs_sc (rl_c K B) (w - 1 - i) z - 1))) → (∀ q, (q < U * 3 ∨ U * 3 + w ≤ q) → CH q = a_children q) → (∀ i, i < w → PA (S + (bs_sc (rl_c K B) (w - 1 - i) z - 1)) = nI U) → (∀ r, (∀ i, i < w → r ≠ S + (bs_sc (rl_c K B) (w - 1 - i) z - 1)) → PA r = a_parents r) → Q (f_slotCount, f_capacity, nI U, f_buildingSlot, nI (P - w), f_summariesCurrent, f_callsActive, f_callsMade, f_runOutcome, f_runValue, a_slotStates, a_slotArities, a_slotStarts, a_slotSizes, a_kinds, a_firstOperands, a_secondOperands, CH, PA, a_depths, a_pendingNodes, a_summaries, a_nextSummaries, a_nodeTypes, a_paramsAfter, a_params, a_values, a_arguments, a_frameSlots, a_frameNodes)) :
    wpX_adoptPending Q (f_slotCount, f_capacity, nI U, f_buildingSlot, nI P, f_summariesCurrent, f_callsActive, f_callsMade, f_runOutcome, f_runValue, a_slotStates, a_slotArities, a_slotStarts, a_slotSizes, a_kinds, a_firstOperands, a_secondOperands, a_children, a_parents, a_depths, a_pendingNodes, a_summaries, a_nextSummaries, a_nodeTypes, a_paramsAfter, a_params, a_values, a_arguments, a_frameSlots, a_frameNodes) (nI w) := by
  have pl := bs_pc_le (rl_c K B) z
  have pos := bs_pos hB.2.1.2.2
  have row : ∀ q, q < P → bs_sc (rl_c K B) q z - 1 < z := fun q hq => by
    have := pos.1 q (by omega)
    have := bs_sc_le (rl_c K B) z q
    omega
  have loop : ∀ d s fuel (CH PA : Nat → Int32), s + d = w → d < fuel → (∀ i, i < s → CH (U * 3 + i) = nI (S + (bs_sc (rl_c K B) (w - 1 - i) z - 1))) → (∀ q, (q < U * 3 ∨ U * 3 + s ≤ q) → CH q = a_children q) → (∀ i, i < s → PA (S + (bs_sc (rl_c K B) (w - 1 - i) z - 1)) = nI U) → (∀ r, (∀ i, i < s → r ≠ S + (bs_sc (rl_c K B) (w - 1 - i) z - 1)) → PA r = a_parents r) →
      wX_adoptPending_9 Q (nI w) (nI (P - w)) f_slotCount f_capacity (nI U) f_buildingSlot (nI P) f_summariesCurrent f_callsActive f_callsMade f_runOutcome f_runValue fuel (nI s) a_slotStates a_slotArities a_slotStarts a_slotSizes a_kinds a_firstOperands a_secondOperands CH PA a_depths a_pendingNodes a_summaries a_nextSummaries a_nodeTypes a_paramsAfter a_params a_values a_arguments a_frameSlots a_frameNodes := by
    intro d
    induction d with
    | zero =>
      intro s fuel CH PA h1 h2 a1 a2 a3 a4
      obtain ⟨fuel, rfl⟩ : ∃ m, fuel = m + 1 := ⟨fuel - 1, by omega⟩
      obtain rfl : s = w := by omega
      exact br_t (nI_le (Nat.le_refl _) (by omega)) (H CH PA a1 a2 a3 a4)
    | succ d ih =>
      intro s fuel CH PA h1 h2 a1 a2 a3 a4
      obtain ⟨fuel, rfl⟩ : ∃ m, fuel = m + 1 := ⟨fuel - 1, by omega⟩
      have pd := (pp (w - 1 - s) (by omega)).1
      have r := row (w - 1 - s) (by omega)
      refine br_f (nI_ge (by omega) (by omega)) ?_
      rw [nI_add, xc_3, nI_add, nI_clamp (n := P - w + s) (by omega), nI_clamp (n := U * 3 + s) (by omega), show P - w + s = P - 1 - (w - 1 - s) by omega, pd]
      refine ⟨vp_in_nI (by omega) (by decide), nm_e ⟨vp_in_nI (by omega) (by decide), nm_e ⟨vp_in_nI (by omega) (by decide), ?_⟩⟩⟩
      rw [nI_clamp (n := S + (bs_sc (rl_c K B) (w - 1 - s) z - 1)) (by omega)]
      refine nm_e (nm_r (nI_1 s) (ih (s + 1) fuel _ _ (by omega) (by omega) (fun i hi => ?_) (fun q hq => ?_) (fun i hi => ?_) (fun r' hr => ?_)))
      · by_cases e : i = s
        · subst e; exact pk_us
        · rw [pk_un (by omega)]; exact a1 i (by omega)
      · rw [pk_un (by omega)]; exact a2 q (by omega)
      · by_cases e : S + (bs_sc (rl_c K B) (w - 1 - i) z - 1) = S + (bs_sc (rl_c K B) (w - 1 - s) z - 1)
        · rw [e]; exact pk_us
        · rw [pk_un e]
          by_cases e2 : i = s
          · subst e2; exact absurd rfl e
          · exact a3 i (by omega)
      · rw [pk_un (hr s (by omega))]
        exact a4 r' (fun i hi => hr i (by omega))
  unfold wpX_adoptPending
  dsimp only
  exact nm_r (e' := nI (P - w)) (pk_sub hw) ⟨w + 1, loop w 0 (w + 1) a_children a_parents (by omega) (by omega) (fun i hi => absurd hi (Nat.not_lt_zero i)) (fun _ _ => rfl) (fun i hi => absurd hi (Nat.not_lt_zero i)) (fun _ _ => rfl)⟩
end

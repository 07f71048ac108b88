/-- the operands as they are stored -/
def nd_a (κ a : Int32) : Int32 := if κ = 0 ∨ κ = 1 ∨ κ = 2 ∨ κ = 9 then a else 0
def nd_b (κ b : Int32) : Int32 := if κ = 9 then b else 0
def nd_fit (N k : Nat) (κ a b : Int32) : Prop := bd_nd N k κ (nd_a κ a) (nd_b κ b)
theorem nd_w0 : ∃ w : Nat, w ≤ 2 ∧ (0 : Int32) = nI w := ⟨0, by decide, by decide⟩
theorem nd_mid {N k q : Nat} {a b : Int32} (h1 : 2 < q) (h2 : q < 9) : nd_fit N k (nI q) a b := by
  have h : q = 3 ∨ q = 4 ∨ q = 5 ∨ q = 6 ∨ q = 7 ∨ q = 8 := by omega
  unfold nd_fit nd_a nd_b
  rcases h with rfl | rfl | rfl | rfl | rfl | rfl <;>
    exact ⟨⟨_, by decide, rfl⟩, fun z => absurd z (by decide), fun z => absurd z (by decide), fun z => absurd z (by decide), fun z => absurd z (by decide), by rw [if_neg (by decide)]; exact nd_w0, fun _ => by rw [if_neg (by decide)]⟩
theorem nd_0 {N k : Nat} {a b : Int32} : nd_fit N k 0 a b ↔ (-99 ≤ a.toInt ∧ a.toInt ≤ 99) := by
  unfold nd_fit nd_a nd_b
  rw [if_pos (Or.inl rfl), if_neg (by decide)]
  exact ⟨fun h => h.2.1 rfl, fun h => ⟨⟨0, by decide, by decide⟩, fun _ => h, fun z => absurd z (by decide), fun z => absurd z (by decide), fun z => absurd z (by decide), nd_w0, fun _ => rfl⟩⟩
theorem nd_1 {N k : Nat} {a b : Int32} : nd_fit N k 1 a b ↔ ∃ j : Nat, j < 8 ∧ a = nI j := by
  unfold nd_fit nd_a nd_b
  rw [if_pos (Or.inr (Or.inl rfl)), if_neg (by decide)]
  exact ⟨fun h => h.2.2.1 rfl, fun h => ⟨⟨1, by decide, by decide⟩, fun z => absurd z (by decide), fun _ => h, fun z => absurd z (by decide), fun z => absurd z (by decide), nd_w0, fun _ => rfl⟩⟩
theorem nd_2 {N k : Nat} {a b : Int32} : nd_fit N k 2 a b ↔ ∃ j : Nat, j < k ∧ a = nI j := by
  unfold nd_fit nd_a nd_b
  rw [if_pos (Or.inr (Or.inr (Or.inl rfl))), if_neg (by decide)]
  exact ⟨fun h => h.2.2.2.1 rfl, fun h => ⟨⟨2, by decide, by decide⟩, fun z => absurd z (by decide), fun z => absurd z (by decide), fun _ => h, fun z => absurd z (by decide), nd_w0, fun _ => rfl⟩⟩
theorem nd_9 {N k : Nat} {a b : Int32} : nd_fit N k 9 a b ↔ (∃ g : Nat, g < N ∧ a = nI g) ∧ ∃ w : Nat, w ≤ 2 ∧ b = nI w := by
  unfold nd_fit nd_a nd_b
  rw [if_pos (Or.inr (Or.inr (Or.inr rfl))), if_pos rfl]
  exact ⟨fun h => ⟨h.2.2.2.2.1 rfl, h.2.2.2.2.2.1⟩, fun h => ⟨⟨9, by decide, by decide⟩, fun z => absurd z (by decide), fun z => absurd z (by decide), fun z => absurd z (by decide), fun _ => h.1, h.2, fun z => absurd rfl z⟩⟩
theorem nd_k {N k : Nat} {κ a b : Int32} (h : nd_fit N k κ a b) : ∃ q : Nat, q < 10 ∧ κ = nI q := by
  obtain ⟨⟨q, hq, e⟩, _⟩ := h
  exact ⟨q, by omega, e⟩
theorem rd_10 {v : Int32} (h : nI 10 ≤ v) : 9 < v ∧ ¬ v < 0 ∧ ¬ v ≤ 9 := by
  rw [Int32.le_iff_toInt_le, nI_toInt (by decide)] at h
  refine ⟨?_, ?_, ?_⟩
  · rw [Int32.lt_iff_toInt_lt, show (9 : Int32).toInt = 9 by decide]; omega
  · rw [Int32.lt_iff_toInt_lt, show (0 : Int32).toInt = 0 by decide]; omega
  · rw [Int32.le_iff_toInt_le, show (9 : Int32).toInt = 9 by decide]; omega
theorem rd_8 {v : Int32} (h : nI 8 ≤ v) : 7 < v ∧ ¬ v < 0 ∧ ¬ v ≤ 7 := by
  rw [Int32.le_iff_toInt_le, nI_toInt (by decide)] at h
  refine ⟨?_, ?_, ?_⟩
  · rw [Int32.lt_iff_toInt_lt, show (7 : Int32).toInt = 7 by decide]; omega
  · rw [Int32.lt_iff_toInt_lt, show (0 : Int32).toInt = 0 by decide]; omega
  · rw [Int32.le_iff_toInt_le, show (7 : Int32).toInt = 7 by decide]; omega
section
variable {f_slotCount f_capacity f_nodesUsed f_buildingSlot f_pendingCount f_summariesCurrent f_callsActive f_callsMade f_runOutcome f_runValue : Int32} {a_slotStates a_slotArities a_slotStarts a_slotSizes a_kinds a_firstOperands a_secondOperands a_children a_parents a_depths a_pendingNodes a_summaries a_nextSummaries a_nodeTypes a_paramsAfter a_params a_values a_arguments a_frameSlots a_frameNodes : Nat → Int32} {N k b : Nat} {κ a c : Int32}
theorem xn_fit {A0 A1 : Prop} (hN : N ≤ 8) (hb : b < N) (hk : k ≤ 2) (ek : a_slotArities b = nI k) (H1 : nd_fit N k κ a c → A1) (H0 : ¬ nd_fit N k κ a c → A0) :
    wpX_isKind (fun r => ((r = 0 → A0) ∧ (¬ r = 0 → wpX_operandsFit (fun r' => ((r' = 0 → A0) ∧ (¬ r' = 0 → A1))) (nI N, f_capacity, f_nodesUsed, nI b, f_pendingCount, f_summariesCurrent, f_callsActive, f_callsMade, f_runOutcome, f_runValue, a_slotStates, a_slotArities, a_slotStarts, a_slotSizes, a_kinds, a_firstOperands, a_secondOperands, a_children, a_parents, a_depths, a_pendingNodes, a_summaries, a_nextSummaries, a_nodeTypes, a_paramsAfter, a_params, a_values, a_arguments, a_frameSlots, a_frameNodes) κ a c))) κ := by
  have w : vp_in (nI b) 8 := vp_in_nI (by omega) (by decide)
  have cl : (nI b).toNatClampNeg = b := nI_clamp (by omega)
  unfold wpX_isKind
  rcases pk_ix κ (n := 10) (by decide) with h | h | ⟨q, hq, rfl⟩
  · refine br_t h (br_t rfl (H0 fun z => ?_))
    obtain ⟨q, hq, rfl⟩ := nd_k z
    exact nI_pos (by omega) h
  · refine br_f (rd_10 h).2.1 (br_t (rd_10 h).1 (br_t rfl (H0 fun z => ?_)))
    obtain ⟨q, hq, rfl⟩ := nd_k z
    exact nI_ge hq (by omega) h
  · refine br_f (nI_pos (by omega)) (br_f (nI_nlt (b := q) (a := 9) (by omega) (by decide)) (br_f (by decide) ?_))
    unfold wpX_operandsFit
    dsimp only
    refine br_f (nI_pos (by omega)) (br_f (nI_nlt (b := q) (a := 9) (by omega) (by decide)) ?_)
    have hq10 : q = 0 ∨ q = 1 ∨ q = 2 ∨ q = 3 ∨ q = 4 ∨ q = 5 ∨ q = 6 ∨ q = 7 ∨ q = 8 ∨ q = 9 := by omega
    rcases hq10 with rfl | rfl | rfl | rfl | rfl | rfl | rfl | rfl | rfl | rfl
    · exact br_t rfl (xt_isInt (fun x y => ⟨rfl, br_f (by decide) (H1 (nd_0.mpr ⟨x, y⟩))⟩) (fun n => ⟨rfl, br_t rfl (H0 fun z => n (nd_0.mp z))⟩))
    · refine br_f (by decide) (br_t rfl ?_)
      rcases pk_ix a (n := 8) (by decide) with h | h | ⟨j, hj, rfl⟩
      · refine br_t h (br_t rfl (H0 fun z => ?_))
        obtain ⟨j, hj, rfl⟩ := nd_1.mp z
        exact nI_pos (by omega) h
      · refine br_f (rd_8 h).2.1 (br_t (rd_8 h).1 (br_t rfl (H0 fun z => ?_)))
        obtain ⟨j, hj, rfl⟩ := nd_1.mp z
        exact nI_ge hj (by omega) h
      · exact br_f (nI_pos (by omega)) (br_f (nI_nlt (b := j) (a := 7) (by omega) (by decide)) (br_f (by decide) (H1 (nd_1.mpr ⟨j, hj, rfl⟩))))
    · refine br_f (by decide) (br_f (by decide) (br_t rfl ?_))
      rw [cl, ek]
      rcases pk_ix a (n := k) (by omega) with h | h | ⟨j, hj, rfl⟩
      · refine br_t h (br_t rfl (H0 fun z => ?_))
        obtain ⟨j, hj, rfl⟩ := nd_2.mp z
        exact nI_pos (by omega) h
      · refine br_f (rd_n (by omega) h) ⟨w, br_t h (br_t rfl (H0 fun z => ?_))⟩
        obtain ⟨j, hj, rfl⟩ := nd_2.mp z
        exact nI_ge hj (by omega) h
      · exact br_f (nI_pos (by omega)) ⟨w, br_f (nI_ge hj (by omega)) (br_f (by decide) (H1 (nd_2.mpr ⟨j, hj, rfl⟩)))⟩
    · exact br_f (by decide) (br_f (by decide) (br_f (by decide) (br_t rfl (br_f (by decide) (H1 (nd_mid (by decide) (by decide)))))))
    · exact br_f (by decide) (br_f (by decide) (br_f (by decide) (br_f (by decide) (br_t rfl (br_f (by decide) (H1 (nd_mid (by decide) (by decide))))))))
    · exact br_f (by decide) (br_f (by decide) (br_f (by decide) (br_f (by decide) (br_f (by decide) (br_t rfl (br_f (by decide) (H1 (nd_mid (by decide) (by decide)))))))))
    · exact br_f (by decide) (br_f (by decide) (br_f (by decide) (br_f (by decide) (br_f (by decide) (br_f (by decide) (br_t rfl (br_f (by decide) (H1 (nd_mid (by decide) (by decide))))))))))
    · exact br_f (by decide) (br_f (by decide) (br_f (by decide) (br_f (by decide) (br_f (by decide) (br_f (by decide) (br_f (by decide) (br_t rfl (br_f (by decide) (H1 (nd_mid (by decide) (by decide)))))))))))
    · exact br_f (by decide) (br_f (by decide) (br_f (by decide) (br_f (by decide) (br_f (by decide) (br_f (by decide) (br_f (by decide) (br_f (by decide) (br_t rfl (br_f (by decide) (H1 (nd_mid (by decide) (by decide))))))))))))
    · refine br_f (by decide) (br_f (by decide) (br_f (by decide) (br_f (by decide) (br_f (by decide) (br_f (by decide) (br_f (by decide) (br_f (by decide) (br_f (by decide) (br_t rfl ?_)))))))))
      refine xd_slot hN (fun g hg e => br_f (by decide) ?_) (fun no => br_t rfl (br_t rfl (H0 fun z => no (nd_9.mp z).1)))
      rcases pk_ix c (n := 3) (by decide) with h | h | ⟨j, hj, rfl⟩
      · refine br_t h (br_t rfl (H0 fun z => ?_))
        obtain ⟨_, j, hj, rfl⟩ := nd_9.mp z
        exact nI_pos (by omega) h
      · refine br_f (rd_3 h).2.1 (br_t (rd_3 h).1 (br_t rfl (H0 fun z => ?_)))
        obtain ⟨_, j, hj, rfl⟩ := nd_9.mp z
        exact nI_ge (show j < 3 by omega) (by omega) h
      · exact br_f (nI_pos (by omega)) (br_f (nI_nlt (b := j) (a := 2) (by omega) (by decide)) (br_f (by decide) (H1 (nd_9.mpr ⟨⟨g, hg, e⟩, j, by omega, rfl⟩))))
end
section
variable {f_n f_cap f_ana f_res f_anyT f_intsT f_wp f_vp f_made f_active f_xp f_curK f_rBot f_rR f_rE0 f_rE1 : Int32} {a_st a_ar a_size a_bk a_ba a_bb a_ds a_tab a_nxt a_wN a_wS a_wF a_vs a_frS a_frP0 a_frP1 a_xN a_xS a_xE0 a_xE1 a_xA a_xB a_xC a_xD a_xE a_xF a_xG : Nat → Int32} {N k b : Nat} {κ a c : Int32}
theorem yn_fit {Q : Int32 → SY → Prop} (hN : N ≤ 8) (hb : b < N) (hk : k ≤ 2) (ek : a_ar b = nI k) (H1 : nd_fit N k κ a c → wY_node_132 Q κ (nI b) (nd_a κ a) (nd_b κ c) (nI N) f_cap f_ana f_res f_anyT f_intsT f_wp f_vp f_made f_active f_xp f_curK f_rBot f_rR f_rE0 f_rE1 a_st a_ar a_size a_bk a_ba a_bb a_ds a_tab a_nxt a_wN a_wS a_wF a_vs a_frS a_frP0 a_frP1 a_xN a_xS a_xE0 a_xE1 a_xA a_xB a_xC a_xD a_xE a_xF a_xG) (H0 : ¬ nd_fit N k κ a c → Q 0 (nI N, f_cap, f_ana, f_res, f_anyT, f_intsT, f_wp, f_vp, f_made, f_active, f_xp, f_curK, f_rBot, f_rR, f_rE0, f_rE1, a_st, a_ar, a_size, a_bk, a_ba, a_bb, a_ds, a_tab, a_nxt, a_wN, a_wS, a_wF, a_vs, a_frS, a_frP0, a_frP1, a_xN, a_xS, a_xE0, a_xE1, a_xA, a_xB, a_xC, a_xD, a_xE, a_xF, a_xG)) :
    ((κ < 0 → (Q 0 (nI N, f_cap, f_ana, f_res, f_anyT, f_intsT, f_wp, f_vp, f_made, f_active, f_xp, f_curK, f_rBot, f_rR, f_rE0, f_rE1, a_st, a_ar, a_size, a_bk, a_ba, a_bb, a_ds, a_tab, a_nxt, a_wN, a_wS, a_wF, a_vs, a_frS, a_frP0, a_frP1, a_xN, a_xS, a_xE0, a_xE1, a_xA, a_xB, a_xC, a_xD, a_xE, a_xF, a_xG))) ∧ (¬ κ < 0 → (((κ ≤ 9 → (((κ = 0 → (((a < (-99) → (Q 0 (nI N, f_cap, f_ana, f_res, f_anyT, f_intsT, f_wp, f_vp, f_made, f_active, f_xp, f_curK, f_rBot, f_rR, f_rE0, f_rE1, a_st, a_ar, a_size, a_bk, a_ba, a_bb, a_ds, a_tab, a_nxt, a_wN, a_wS, a_wF, a_vs, a_frS, a_frP0, a_frP1, a_xN, a_xS, a_xE0, a_xE1, a_xA, a_xB, a_xC, a_xD, a_xE, a_xF, a_xG))) ∧ (¬ a < (-99) → (((a ≤ 99 → (wY_node_52 Q κ a c (nI b) a 0 (nI N) f_cap f_ana f_res f_anyT f_intsT f_wp f_vp f_made f_active f_xp f_curK f_rBot f_rR f_rE0 f_rE1 a_st a_ar a_size a_bk a_ba a_bb a_ds a_tab a_nxt a_wN a_wS a_wF a_vs a_frS a_frP0 a_frP1 a_xN a_xS a_xE0 a_xE1 a_xA a_xB a_xC a_xD a_xE a_xF a_xG)) ∧ (¬ a ≤ 99 → (Q 0 (nI N, f_cap, f_ana, f_res, f_anyT, f_intsT, f_wp, f_vp, f_made, f_active, f_xp, f_curK, f_rBot, f_rR, f_rE0, f_rE1, a_st, a_ar, a_size, a_bk, a_ba, a_bb, a_ds, a_tab, a_nxt, a_wN, a_wS, a_wF, a_vs, a_frS, a_frP0, a_frP1, a_xN, a_xS, a_xE0, a_xE1, a_xA, a_xB, a_xC, a_xD, a_xE, a_xF, a_xG))))))))) ∧ (¬ κ = 0 → (wY_node_52 Q κ a c (nI b) 0 0 (nI N) f_cap f_ana f_res f_anyT f_intsT f_wp f_vp f_made f_active f_xp f_curK f_rBot f_rR f_rE0 f_rE1 a_st a_ar a_size a_bk a_ba a_bb a_ds a_tab a_nxt a_wN a_wS a_wF a_vs a_frS a_frP0 a_frP1 a_xN a_xS a_xE0 a_xE1 a_xA a_xB a_xC a_xD a_xE a_xF a_xG))))) ∧ (¬ κ ≤ 9 → (Q 0 (nI N, f_cap, f_ana, f_res, f_anyT, f_intsT, f_wp, f_vp, f_made, f_active, f_xp, f_curK, f_rBot, f_rR, f_rE0, f_rE1, a_st, a_ar, a_size, a_bk, a_ba, a_bb, a_ds, a_tab, a_nxt, a_wN, a_wS, a_wF, a_vs, a_frS, a_frP0, a_frP1, a_xN, a_xS, a_xE0, a_xE1, a_xA, a_xB, a_xC, a_xD, a_xE, a_xF, a_xG))))))) := by
  have w : vp_in (nI b) 8 := vp_in_nI (by omega) (by decide)
  have cl : (nI b).toNatClampNeg = b := nI_clamp (by omega)
  rcases pk_ix κ (n := 10) (by decide) with h | h | ⟨q, hq, rfl⟩
  · refine br_t h (H0 fun z => ?_)
    obtain ⟨q, hq, rfl⟩ := nd_k z
    exact nI_pos (by omega) h
  · refine br_f (rd_10 h).2.1 (br_f (rd_10 h).2.2 (H0 fun z => ?_))
    obtain ⟨q, hq, rfl⟩ := nd_k z
    exact nI_ge hq (by omega) h
  · refine br_f (nI_pos (by omega)) (br_t (nI_le (a := q) (b := 9) (by omega) (by decide)) ?_)
    have mid : ∀ q, 2 < q → q < 9 → nI q = nI q → wY_node_132 Q (nI q) (nI b) (nd_a (nI q) a) (nd_b (nI q) c) (nI N) f_cap f_ana f_res f_anyT f_intsT f_wp f_vp f_made f_active f_xp f_curK f_rBot f_rR f_rE0 f_rE1 a_st a_ar a_size a_bk a_ba a_bb a_ds a_tab a_nxt a_wN a_wS a_wF a_vs a_frS a_frP0 a_frP1 a_xN a_xS a_xE0 a_xE1 a_xA a_xB a_xC a_xD a_xE a_xF a_xG → nd_a (nI q) a = 0 → nd_b (nI q) c = 0 → wY_node_132 Q (nI q) (nI b) 0 0 (nI N) f_cap f_ana f_res f_anyT f_intsT f_wp f_vp f_made f_active f_xp f_curK f_rBot f_rR f_rE0 f_rE1 a_st a_ar a_size a_bk a_ba a_bb a_ds a_tab a_nxt a_wN a_wS a_wF a_vs a_frS a_frP0 a_frP1 a_xN a_xS a_xE0 a_xE1 a_xA a_xB a_xC a_xD a_xE a_xF a_xG := by
      intro q _ _ _ h e1 e2
      rw [e1, e2] at h; exact h
    have hq10 : q = 0 ∨ q = 1 ∨ q = 2 ∨ q = 3 ∨ q = 4 ∨ q = 5 ∨ q = 6 ∨ q = 7 ∨ q = 8 ∨ q = 9 := by omega
    rcases hq10 with rfl | rfl | rfl | rfl | rfl | rfl | rfl | rfl | rfl | rfl
    · refine br_t rfl ?_
      by_cases l : a < -99
      · refine br_t l (H0 fun z => ?_)
        have := nd_0.mp z
        rw [Int32.lt_iff_toInt_lt, ty_m99] at l; omega
      · refine br_f l ?_
        by_cases m : a ≤ 99
        · rw [Int32.lt_iff_toInt_lt, ty_m99] at l
          have m' := m
          rw [Int32.le_iff_toInt_le, ty_p99] at m'
          exact br_t m (br_f (by decide) (br_f (by decide) (br_f (by decide) (H1 (nd_0.mpr ⟨by omega, m'⟩)))))
        · refine br_f m (H0 fun z => ?_)
          have := nd_0.mp z
          rw [Int32.le_iff_toInt_le, ty_p99] at m; omega
    · refine br_f (by decide) (br_t rfl ?_)
      rcases pk_ix a (n := 8) (by decide) with h | h | ⟨j, hj, rfl⟩
      · refine br_t h (H0 fun z => ?_)
        obtain ⟨j, hj, rfl⟩ := nd_1.mp z
        exact nI_pos (by omega) h
      · refine br_f (rd_8 h).2.1 (br_f (rd_8 h).2.2 (H0 fun z => ?_))
        obtain ⟨j, hj, rfl⟩ := nd_1.mp z
        exact nI_ge hj (by omega) h
      · exact br_f (nI_pos (by omega)) (br_t (nI_le (a := j) (b := 7) (by omega) (by decide)) (br_f (by decide) (br_f (by decide) (H1 (nd_1.mpr ⟨j, hj, rfl⟩)))))
    · refine br_f (by decide) (br_f (by decide) (br_t rfl ?_))
      rw [cl, ek]
      rcases pk_ix a (n := k) (by omega) with h | h | ⟨j, hj, rfl⟩
      · refine br_t h (H0 fun z => ?_)
        obtain ⟨j, hj, rfl⟩ := nd_2.mp z
        exact nI_pos (by omega) h
      · refine br_f (rd_n (by omega) h) ⟨w, br_f (Int32.not_lt.mpr h) (H0 fun z => ?_)⟩
        obtain ⟨j, hj, rfl⟩ := nd_2.mp z
        exact nI_ge hj (by omega) h
      · exact br_f (nI_pos (by omega)) ⟨w, br_t (nI_lt hj (by omega)) (br_f (by decide) (H1 (nd_2.mpr ⟨j, hj, rfl⟩)))⟩
    · exact br_f (by decide) (br_f (by decide) (br_f (by decide) (br_f (by decide) (H1 (nd_mid (by decide) (by decide))))))
    · exact br_f (by decide) (br_f (by decide) (br_f (by decide) (br_f (by decide) (H1 (nd_mid (by decide) (by decide))))))
    · exact br_f (by decide) (br_f (by decide) (br_f (by decide) (br_f (by decide) (H1 (nd_mid (by decide) (by decide))))))
    · exact br_f (by decide) (br_f (by decide) (br_f (by decide) (br_f (by decide) (H1 (nd_mid (by decide) (by decide))))))
    · exact br_f (by decide) (br_f (by decide) (br_f (by decide) (br_f (by decide) (H1 (nd_mid (by decide) (by decide))))))
    · exact br_f (by decide) (br_f (by decide) (br_f (by decide) (br_f (by decide) (H1 (nd_mid (by decide) (by decide))))))
    · refine br_f (by decide) (br_f (by decide) (br_f (by decide) (br_t rfl ?_)))
      rcases pk_ix a (n := N) (by omega) with h | h | ⟨g, hg, rfl⟩
      · refine br_t h (H0 fun z => ?_)
        obtain ⟨⟨j, hj, rfl⟩, _⟩ := nd_9.mp z
        exact nI_pos (by omega) h
      · refine br_f (rd_n (by omega) h) (br_t h (H0 fun z => ?_))
        obtain ⟨⟨j, hj, rfl⟩, _⟩ := nd_9.mp z
        exact nI_ge hj (by omega) h
      · refine br_f (nI_pos (by omega)) (br_f (nI_ge hg (by omega)) ?_)
        rcases pk_ix c (n := 3) (by decide) with h | h | ⟨j, hj, rfl⟩
        · refine br_t h (H0 fun z => ?_)
          obtain ⟨_, j, hj, rfl⟩ := nd_9.mp z
          exact nI_pos (by omega) h
        · refine br_f (rd_3 h).2.1 (br_f (rd_3 h).2.2 (H0 fun z => ?_))
          obtain ⟨_, j, hj, rfl⟩ := nd_9.mp z
          exact nI_ge (show j < 3 by omega) (by omega) h
        · exact br_f (nI_pos (by omega)) (br_t (nI_le (a := j) (b := 2) (by omega) (by decide)) (H1 (nd_9.mpr ⟨⟨g, hg, rfl⟩, j, by omega, rfl⟩)))
end

def nd_a (κ a : Int32) : Int32 := if κ = 0 ∨ κ = 1 ∨ κ = 2 ∨ κ = 9 then a else 0
def nd_b (κ b : Int32) : Int32 := if κ = 9 then b else 0
def nd_fit (N k : Nat) (κ a b : Int32) : Prop := bd_nd N k κ (nd_a κ a) (nd_b κ b)
theorem nd_w0 : ∃ w : Nat, w ≤ 2 ∧ (0 : Int32) = nI w := ⟨0, by decide, by decide⟩
theorem nd_mid {N k q : Nat} {a b : Int32} (h1 : 2 < q) (h2 : q < 9) : nd_fit N k (nI q) a b := by
  have h : q = 3 ∨ q = 4 ∨ q = 5 ∨ q = 6 ∨ q = 7 ∨ q = 8 := by omega
  unfold nd_fit nd_a nd_b
  rcases h with rfl | rfl | rfl | rfl | rfl | rfl <;>
    exact ⟨⟨_, by decide, rfl⟩, fun z => absurd z (by decide), fun z => absurd z (by decide), fun z => absurd z (by decide), fun z => absurd z (by decide), by rw [if_neg (by decide)]; exact nd_w0, fun _ => by rw [if_neg (by decide)]⟩
theorem nd_0 {N k : Nat} {a b : Int32} : nd_fit N k 0 a b ↔ (-99 ≤ a.toInt ∧ a.toInt ≤ 99) := by
  unfold nd_fit nd_a nd_b
  rw [if_pos (Or.inl rfl), if_neg (by decide)]
  exact ⟨fun h => h.2.1 rfl, fun h => ⟨⟨0, by decide, by decide⟩, fun _ => h, fun z => absurd z (by decide), fun z => absurd z (by decide), fun z => absurd z (by decide), nd_w0, fun _ => rfl⟩⟩
theorem nd_1 {N k : Nat} {a b : Int32} : nd_fit N k 1 a b ↔ ∃ j : Nat, j < 8 ∧ a = nI j := by
  unfold nd_fit nd_a nd_b
  rw [if_pos (Or.inr (Or.inl rfl)), if_neg (by decide)]
  exact ⟨fun h => h.2.2.1 rfl, fun h => ⟨⟨1, by decide, by decide⟩, fun z => absurd z (by decide), fun _ => h, fun z => absurd z (by decide), fun z => absurd z (by decide), nd_w0, fun _ => rfl⟩⟩
theorem nd_2 {N k : Nat} {a b : Int32} : nd_fit N k 2 a b ↔ ∃ j : Nat, j < k ∧ a = nI j := by
  unfold nd_fit nd_a nd_b
  rw [if_pos (Or.inr (Or.inr (Or.inl rfl))), if_neg (by decide)]
  exact ⟨fun h => h.2.2.2.1 rfl, fun h => ⟨⟨2, by decide, by decide⟩, fun z => absurd z (by decide), fun z => absurd z (by decide), fun _ => h, fun z => absurd z (by decide), nd_w0, fun _ => rfl⟩⟩
theorem nd_9 {N k : Nat} {a b : Int32} : nd_fit N k 9 a b ↔ (∃ g : Nat, g < N ∧ a = nI g) ∧ ∃ w : Nat, w ≤ 2 ∧ b = nI w := by
  unfold nd_fit nd_a nd_b
  rw [if_pos (Or.inr (Or.inr (Or.inr rfl))), if_pos rfl]
  exact ⟨fun h => ⟨h.2.2.2.2.1 rfl, h.2.2.2.2.2.1⟩, fun h => ⟨⟨9, by decide, by decide⟩, fun z => absurd z (by decide), fun z => absurd z (by decide), fun z => absurd z (by decide), fun _ => h.1, h.2, fun z => absurd rfl z⟩⟩
theorem nd_k {N k : Nat} {κ a b : Int32} (h : nd_fit N k κ a b) : ∃ q : Nat, q < 10 ∧ κ = nI q := by
  obtain ⟨⟨q, hq, e⟩, _⟩ := h
  exact ⟨q, by omega, e⟩
theorem rd_10 {v : Int32} (h : nI 10 ≤ v) : 9 < v ∧ ¬ v < 0 ∧ ¬ v ≤ 9 := by
  rw [Int32.le_iff_toInt_le, nI_toInt (by decide)] at h
  refine ⟨?_, ?_, ?_⟩
  · rw [Int32.lt_iff_toInt_lt, show (9 : Int32).toInt = 9 by decide]; omega
  · rw [Int32.lt_iff_toInt_lt, show (0 : Int32).toInt = 0 by decide]; omega
  · rw [Int32.le_iff_toInt_le, show (9 : Int32).toInt = 9 by decide]; omega
theorem rd_8 {v : Int32} (h : nI 8 ≤ v) : 7 < v ∧ ¬ v < 0 ∧ ¬ v ≤ 7 := by
  rw [Int32.le_iff_toInt_le, nI_toInt (by decide)] at h
  refine ⟨?_, ?_, ?_⟩
  · rw [Int32.lt_iff_toInt_lt, show (7 : Int32).toInt = 7 by decide]; omega
  · rw [Int32.lt_iff_toInt_lt, show (0 : Int32).toInt = 0 by decide]; omega
  · rw [Int32.le_iff_toInt_le, show (7 : Int32).toInt = 7 by decide]; omega
theorem bs_dm_ub (c D : Nat → Nat) (m : Nat) {M : Nat} : ∀ {n : Nat}, (∀ j, j < n → D (bs_sc c j m - 1) ≤ M) → bs_dm c D m n ≤ M := by
  intro n
  induction n with
  | zero => intro _; exact Nat.zero_le _
  | succ n ih =>
    intro h
    rw [bs_dm_s]
    have := ih (fun j hj => h j (by omega))
    have := h n (by omega)
    omega
theorem xn_children {Q : Int32 → Prop} {N k : Nat} {κ a c : Int32} (h : nd_fit N k κ a c) (H : Q (nI (bs_cc κ (nd_b κ c)))) : wpX_childrenOf Q () κ c := by
  unfold wpX_childrenOf
  unfold nd_b at H
  rcases bd_10 h with e | e | e | e | e | e | e | e | e | e <;> rw [e] at H ⊢
  · rw [bs_cc0] at H; exact br_t (by decide) H
  · rw [bs_cc1] at H; exact br_t (by decide) H
  · rw [bs_cc2] at H; exact br_t (by decide) H
  · rw [bs_cc3] at H; exact br_f (by decide) (br_f (by decide) (br_t rfl H))
  · rw [bs_cc4] at H; exact br_f (by decide) (br_f (by decide) (br_f (by decide) (br_t rfl H)))
  · rw [bs_cc5] at H; exact br_f (by decide) (br_f (by decide) (br_f (by decide) (br_f (by decide) (br_t rfl H))))
  · rw [bs_cc6] at H; exact br_f (by decide) (br_f (by decide) (br_f (by decide) (br_f (by decide) (br_f (by decide) (br_t rfl H)))))
  · rw [bs_cc7] at H; exact br_f (by decide) (br_f (by decide) (br_f (by decide) (br_f (by decide) (br_f (by decide) (br_f (by decide) (br_t rfl H))))))
  · rw [bs_cc8] at H; exact br_f (by decide) (br_f (by decide) (br_f (by decide) (br_f (by decide) (br_f (by decide) (br_f (by decide) (br_f (by decide) (br_t rfl H)))))))
  · rw [if_pos rfl, bs_cc9] at H
    rw [e] at h
    obtain ⟨_, w, hw, rfl⟩ := nd_9.mp h
    rw [nI_clamp (by omega)] at H
    exact br_f (by decide) (br_f (by decide) (br_f (by decide) (br_f (by decide) (br_f (by decide) (br_f (by decide) (br_f (by decide) (br_f (by decide) (br_t rfl H))))))))
theorem xn_uses {Q : Int32 → Prop} {κ : Int32} (H1 : (κ = 0 ∨ κ = 1 ∨ κ = 2 ∨ κ = 9) → Q 1) (H0 : ¬ (κ = 0 ∨ κ = 1 ∨ κ = 2 ∨ κ = 9) → Q 0) : wpX_usesFirstOperand Q () κ := by
  unfold wpX_usesFirstOperand
  by_cases a : κ = 0
  · exact br_t a (H1 (Or.inl a))
  · refine br_f a ?_
    by_cases b : κ = 1
    · exact br_t b (H1 (Or.inr (Or.inl b)))
    · refine br_f b ?_
      by_cases c : κ = 2
      · exact br_t c (H1 (Or.inr (Or.inr (Or.inl c))))
      · refine br_f c ?_
        by_cases d : κ = 9
        · exact br_t d (H1 (Or.inr (Or.inr (Or.inr d))))
        · exact br_f d (H0 (fun q => q.elim a (fun q => q.elim b (fun q => q.elim c d))))
section
variable {f_slotCount f_capacity f_nodesUsed f_buildingSlot f_pendingCount f_summariesCurrent f_callsActive f_callsMade f_runOutcome f_runValue : Int32} {a_slotStates a_slotArities a_slotStarts a_slotSizes a_kinds a_firstOperands a_secondOperands a_children a_parents a_depths a_pendingNodes a_summaries a_nextSummaries a_nodeTypes a_paramsAfter a_params a_values a_arguments a_frameSlots a_frameNodes : Nat → Int32} {N k b : Nat} {κ a c : Int32}
theorem xn_fit {A0 A1 : Prop} (hN : N ≤ 8) (hb : b < N) (hk : k ≤ 2) (ek : a_slotArities b = nI k) (H1 : nd_fit N k κ a c → A1) (H0 : ¬ nd_fit N k κ a c → A0) :
    wpX_isKind (fun r => ((r = 0 → A0) ∧ (¬ r = 0 → wpX_operandsFit (fun r' => ((r' = 0 → A0) ∧ (¬ r' = 0 → A1))) (nI N, f_capacity, f_nodesUsed, nI b, f_pendingCount, f_summariesCurrent, f_callsActive, f_callsMade, f_runOutcome, f_runValue, a_slotStates, a_slotArities, a_slotStarts, a_slotSizes, a_kinds, a_firstOperands, a_secondOperands, a_children, a_parents, a_depths, a_pendingNodes, a_summaries, a_nextSummaries, a_nodeTypes, a_paramsAfter, a_params, a_values, a_arguments, a_frameSlots, a_frameNodes) κ a c))) () κ := by
  have w : vp_in (nI b) 8 := vp_in_nI (by omega) (by decide)
  have cl : (nI b).toNatClampNeg = b := nI_clamp (by omega)
  unfold wpX_isKind
  rcases pk_ix κ (n := 10) (by decide) with h | h | ⟨q, hq, rfl⟩
  · refine br_t h (br_t rfl (H0 fun z => ?_))
    obtain ⟨q, hq, rfl⟩ := nd_k z
    exact nI_pos (by omega) h
  · refine br_f (rd_10 h).2.1 (br_t (rd_10 h).1 (br_t rfl (H0 fun z => ?_)))
    obtain ⟨q, hq, rfl⟩ := nd_k z
    exact nI_ge hq (by omega) h
  · refine br_f (nI_pos (by omega)) (br_f (nI_nlt (b := q) (a := 9) (by omega) (by decide)) (br_f (by decide) ?_))
    unfold wpX_operandsFit
    dsimp only
    refine br_f (nI_pos (by omega)) (br_f (nI_nlt (b := q) (a := 9) (by omega) (by decide)) ?_)
    have hq10 : q = 0 ∨ q = 1 ∨ q = 2 ∨ q = 3 ∨ q = 4 ∨ q = 5 ∨ q = 6 ∨ q = 7 ∨ q = 8 ∨ q = 9 := by omega
    rcases hq10 with rfl | rfl | rfl | rfl | rfl | rfl | rfl | rfl | rfl | rfl
    · exact br_t rfl (xt_isInt (fun x y => ⟨rfl, br_f (by decide) (H1 (nd_0.mpr ⟨x, y⟩))⟩) (fun n => ⟨rfl, br_t rfl (H0 fun z => n (nd_0.mp z))⟩))
    · refine br_f (by decide) (br_t rfl ?_)
      rcases pk_ix a (n := 8) (by decide) with h | h | ⟨j, hj, rfl⟩
      · refine br_t h (br_t rfl (H0 fun z => ?_))
        obtain ⟨j, hj, rfl⟩ := nd_1.mp z
        exact nI_pos (by omega) h
      · refine br_f (rd_8 h).2.1 (br_t (rd_8 h).1 (br_t rfl (H0 fun z => ?_)))
        obtain ⟨j, hj, rfl⟩ := nd_1.mp z
        exact nI_ge hj (by omega) h
      · exact br_f (nI_pos (by omega)) (br_f (nI_nlt (b := j) (a := 7) (by omega) (by decide)) (br_f (by decide) (H1 (nd_1.mpr ⟨j, hj, rfl⟩))))
    · refine br_f (by decide) (br_f (by decide) (br_t rfl ?_))
      rw [cl, ek]
      rcases pk_ix a (n := k) (by omega) with h | h | ⟨j, hj, rfl⟩
      · refine br_t h (br_t rfl (H0 fun z => ?_))
        obtain ⟨j, hj, rfl⟩ := nd_2.mp z
        exact nI_pos (by omega) h
      · refine br_f (rd_n (by omega) h) ⟨w, br_t h (br_t rfl (H0 fun z => ?_))⟩
        obtain ⟨j, hj, rfl⟩ := nd_2.mp z
        exact nI_ge hj (by omega) h
      · exact br_f (nI_pos (by omega)) ⟨w, br_f (nI_ge hj (by omega)) (br_f (by decide) (H1 (nd_2.mpr ⟨j, hj, rfl⟩)))⟩
    · exact br_f (by decide) (br_f (by decide) (br_f (by decide) (br_t rfl (br_f (by decide) (H1 (nd_mid (by decide) (by decide)))))))
    · exact br_f (by decide) (br_f (by decide) (br_f (by decide) (br_f (by decide) (br_t rfl (br_f (by decide) (H1 (nd_mid (by decide) (by decide))))))))
    · exact br_f (by decide) (br_f (by decide) (br_f (by decide) (br_f (by decide) (br_f (by decide) (br_t rfl (br_f (by decide) (H1 (nd_mid (by decide) (by decide)))))))))
    · exact br_f (by decide) (br_f (by decide) (br_f (by decide) (br_f (by decide) (br_f (by decide) (br_f (by decide) (br_t rfl (br_f (by decide) (H1 (nd_mid (by decide) (by decide))))))))))
    · exact br_f (by decide) (br_f (by decide) (br_f (by decide) (br_f (by decide) (br_f (by decide) (br_f (by decide) (br_f (by decide) (br_t rfl (br_f (by decide) (H1 (nd_mid (by decide) (by decide)))))))))))
    · exact br_f (by decide) (br_f (by decide) (br_f (by decide) (br_f (by decide) (br_f (by decide) (br_f (by decide) (br_f (by decide) (br_f (by decide) (br_t rfl (br_f (by decide) (H1 (nd_mid (by decide) (by decide))))))))))))
    · refine br_f (by decide) (br_f (by decide) (br_f (by decide) (br_f (by decide) (br_f (by decide) (br_f (by decide) (br_f (by decide) (br_f (by decide) (br_f (by decide) (br_t rfl ?_)))))))))
      refine xd_slot hN (fun g hg e => br_f (by decide) ?_) (fun no => br_t rfl (br_t rfl (H0 fun z => no (nd_9.mp z).1)))
      rcases pk_ix c (n := 3) (by decide) with h | h | ⟨j, hj, rfl⟩
      · refine br_t h (br_t rfl (H0 fun z => ?_))
        obtain ⟨_, j, hj, rfl⟩ := nd_9.mp z
        exact nI_pos (by omega) h
      · refine br_f (rd_3 h).2.1 (br_t (rd_3 h).1 (br_t rfl (H0 fun z => ?_)))
        obtain ⟨_, j, hj, rfl⟩ := nd_9.mp z
        exact nI_ge (show j < 3 by omega) (by omega) h
      · exact br_f (nI_pos (by omega)) (br_f (nI_nlt (b := j) (a := 2) (by omega) (by decide)) (br_f (by decide) (H1 (nd_9.mpr ⟨⟨g, hg, e⟩, j, by omega, rfl⟩))))
end
section
variable {f_slotCount f_capacity f_nodesUsed f_buildingSlot f_pendingCount f_summariesCurrent f_callsActive f_callsMade f_runOutcome f_runValue : Int32} {a_slotStates a_slotArities a_slotStarts a_slotSizes a_kinds a_firstOperands a_secondOperands a_children a_parents a_depths a_pendingNodes a_summaries a_nextSummaries a_nodeTypes a_paramsAfter a_params a_values a_arguments a_frameSlots a_frameNodes : Nat → Int32} {N k z S P U : Nat} {K A B : Nat → Int32}
theorem xn_depth {Q : Int32 → Prop} {w : Nat} (hB : rl_body N k z S K A B a_kinds a_firstOperands a_secondOperands a_children a_parents a_depths) (hw : w ≤ P) (eP : P = bs_pc (rl_c K B) z) (pp : ∀ q, q < P → a_pendingNodes (P - 1 - q) = nI (S + (bs_sc (rl_c K B) q z - 1)) ∧ a_parents (S + (bs_sc (rl_c K B) q z - 1)) = -1)
    (H : Q (nI (bs_dm (rl_c K B) (rl_D S a_depths) z w + 1))) : wpX_depthOver Q (f_slotCount, f_capacity, f_nodesUsed, f_buildingSlot, nI P, f_summariesCurrent, f_callsActive, f_callsMade, f_runOutcome, f_runValue, a_slotStates, a_slotArities, a_slotStarts, a_slotSizes, a_kinds, a_firstOperands, a_secondOperands, a_children, a_parents, a_depths, a_pendingNodes, a_summaries, a_nextSummaries, a_nodeTypes, a_paramsAfter, a_params, a_values, a_arguments, a_frameSlots, a_frameNodes) (nI w) := by
  have hS := hB.1
  have pl := bs_pc_le (rl_c K B) z
  have pos := bs_pos hB.2.1.2.2
  have row : ∀ q, q < P → bs_sc (rl_c K B) q z - 1 < z := fun q hq => by
    have := pos.1 q (by omega)
    have := bs_sc_le (rl_c K B) z q
    omega
  have dd : ∀ q, q < P → a_depths (S + (bs_sc (rl_c K B) q z - 1)) = nI (rl_D S a_depths (bs_sc (rl_c K B) q z - 1)) ∧ rl_D S a_depths (bs_sc (rl_c K B) q z - 1) ≤ 10 := fun q hq => by
    have r := row q hq
    have l := rl_D_lt hB r
    have n := rl_D_in hB r
    obtain ⟨_, _, _, _, d1, _⟩ := hB.2.2 _ r
    exact ⟨by rw [d1, l], n.2⟩
  have loop : ∀ d M fuel, d ≤ w → d < fuel → M ≤ 10 → (∀ q, d ≤ q → q < w → rl_D S a_depths (bs_sc (rl_c K B) q z - 1) ≤ M) → (M = 0 ∨ ∃ q, q < w ∧ M = rl_D S a_depths (bs_sc (rl_c K B) q z - 1)) → wX_depthOver_9 Q f_slotCount f_capacity f_nodesUsed f_buildingSlot (nI P) f_summariesCurrent f_callsActive f_callsMade f_runOutcome f_runValue a_slotStates a_slotArities a_slotStarts a_slotSizes a_kinds a_firstOperands a_secondOperands a_children a_parents a_depths a_pendingNodes a_summaries a_nextSummaries a_nodeTypes a_paramsAfter a_params a_values a_arguments a_frameSlots a_frameNodes fuel (nI M) (nI (P - d)) := by
    intro d
    induction d with
    | zero =>
      intro M fuel h1 h2 h3 up at'
      obtain ⟨fuel, rfl⟩ : ∃ m, fuel = m + 1 := ⟨fuel - 1, by omega⟩
      have e : M = bs_dm (rl_c K B) (rl_D S a_depths) z w := by
        have u := bs_dm_ub (rl_c K B) (rl_D S a_depths) z (n := w) (M := M) (fun j hj => up j (by omega) hj)
        rcases at' with rfl | ⟨q, hq, rfl⟩
        · omega
        · have := bs_dm_le (rl_c K B) (rl_D S a_depths) z hq
          omega
      rw [← e] at H
      refine br_t (nI_le (by omega) (by omega)) ?_
      rw [nI_1]; exact H
    | succ d ih =>
      intro M fuel h1 h2 h3 up at'
      obtain ⟨fuel, rfl⟩ : ∃ m, fuel = m + 1 := ⟨fuel - 1, by omega⟩
      have pd := (pp d (by omega)).1
      obtain ⟨v1, v2⟩ := dd d (by omega)
      have r := row d (by omega)
      refine br_f (nI_ge (by omega) (by omega)) ⟨vp_in_nI (by omega) (by decide), ?_⟩
      rw [nI_clamp (n := P - (d + 1)) (by omega), show P - (d + 1) = P - 1 - d by omega, pd, nI_clamp (n := S + (bs_sc (rl_c K B) d z - 1)) (by omega), v1]
      refine ⟨vp_in_nI (by omega) (by decide), nm_e ?_⟩
      by_cases q : rl_D S a_depths (bs_sc (rl_c K B) d z - 1) ≤ M
      · refine br_t (nI_le q (by omega)) (nm_r (e' := nI (P - d)) (by rw [nI_1, show P - 1 - d + 1 = P - d by omega]) (ih M fuel (by omega) (by omega) h3 (fun j hj hj2 => ?_) at'))
        by_cases e : j = d
        · subst e; exact q
        · exact up j (by omega) hj2
      · refine br_f (nI_ge (by omega) (by omega)) (nm_r (e' := nI (P - d)) (by rw [nI_1, show P - 1 - d + 1 = P - d by omega]) (ih _ fuel (by omega) (by omega) v2 (fun j hj hj2 => ?_) (Or.inr ⟨d, by omega, rfl⟩)))
        by_cases e : j = d
        · subst e; exact Nat.le_refl _
        · have := up j (by omega) hj2; omega
  unfold wpX_depthOver
  dsimp only
  refine nm_r (e' := nI (P - w)) (pk_sub hw) ⟨w + 1, loop w 0 (w + 1) (Nat.le_refl _) (by omega) (by omega) (fun q h1 h2 => absurd h1 (by omega)) (Or.inl rfl)⟩
theorem xn_adopt {Q : St2 → Prop} {w : Nat} (hB : rl_body N k z S K A B a_kinds a_firstOperands a_secondOperands a_children a_parents a_depths) (hw : w ≤ P) (w3 : w ≤ 3) (eP : P = bs_pc (rl_c K B) z) (eU : S + z = U) (hU : U < 128) (pp : ∀ q, q < P → a_pendingNodes (P - 1 - q) = nI (S + (bs_sc (rl_c K B) q z - 1)) ∧ a_parents (S + (bs_sc (rl_c K B) q z - 1)) = -1)
    (H : ∀ CH PA : Nat → Int32, (∀ i, i < w → CH (U * 3 + i) = nI (S + (bs_sc (rl_c K B) (w - 1 - i) z - 1))) → (∀ q, (q < U * 3 ∨ U * 3 + w ≤ q) → CH q = a_children q) → (∀ i, i < w → PA (S + (bs_sc (rl_c K B) (w - 1 - i) z - 1)) = nI U) → (∀ r, (∀ i, i < w → r ≠ S + (bs_sc (rl_c K B) (w - 1 - i) z - 1)) → PA r = a_parents r) → Q (f_slotCount, f_capacity, nI U, f_buildingSlot, nI (P - w), f_summariesCurrent, f_callsActive, f_callsMade, f_runOutcome, f_runValue, a_slotStates, a_slotArities, a_slotStarts, a_slotSizes, a_kinds, a_firstOperands, a_secondOperands, CH, PA, a_depths, a_pendingNodes, a_summaries, a_nextSummaries, a_nodeTypes, a_paramsAfter, a_params, a_values, a_arguments, a_frameSlots, a_frameNodes)) :
    wpX_adoptPending Q (f_slotCount, f_capacity, nI U, f_buildingSlot, nI P, f_summariesCurrent, f_callsActive, f_callsMade, f_runOutcome, f_runValue, a_slotStates, a_slotArities, a_slotStarts, a_slotSizes, a_kinds, a_firstOperands, a_secondOperands, a_children, a_parents, a_depths, a_pendingNodes, a_summaries, a_nextSummaries, a_nodeTypes, a_paramsAfter, a_params, a_values, a_arguments, a_frameSlots, a_frameNodes) (nI w) := by
  have pl := bs_pc_le (rl_c K B) z
  have pos := bs_pos hB.2.1.2.2
  have row : ∀ q, q < P → bs_sc (rl_c K B) q z - 1 < z := fun q hq => by
    have := pos.1 q (by omega)
    have := bs_sc_le (rl_c K B) z q
    omega
  have loop : ∀ d s fuel (CH PA : Nat → Int32), s + d = w → d < fuel → (∀ i, i < s → CH (U * 3 + i) = nI (S + (bs_sc (rl_c K B) (w - 1 - i) z - 1))) → (∀ q, (q < U * 3 ∨ U * 3 + s ≤ q) → CH q = a_children q) → (∀ i, i < s → PA (S + (bs_sc (rl_c K B) (w - 1 - i) z - 1)) = nI U) → (∀ r, (∀ i, i < s → r ≠ S + (bs_sc (rl_c K B) (w - 1 - i) z - 1)) → PA r = a_parents r) →
      wX_adoptPending_9 Q (nI w) (nI (P - w)) f_slotCount f_capacity (nI U) f_buildingSlot (nI P) f_summariesCurrent f_callsActive f_callsMade f_runOutcome f_runValue fuel (nI s) a_slotStates a_slotArities a_slotStarts a_slotSizes a_kinds a_firstOperands a_secondOperands CH PA a_depths a_pendingNodes a_summaries a_nextSummaries a_nodeTypes a_paramsAfter a_params a_values a_arguments a_frameSlots a_frameNodes := by
    intro d
    induction d with
    | zero =>
      intro s fuel CH PA h1 h2 a1 a2 a3 a4
      obtain ⟨fuel, rfl⟩ : ∃ m, fuel = m + 1 := ⟨fuel - 1, by omega⟩
      obtain rfl : s = w := by omega
      exact br_t (nI_le (Nat.le_refl _) (by omega)) (H CH PA a1 a2 a3 a4)
    | succ d ih =>
      intro s fuel CH PA h1 h2 a1 a2 a3 a4
      obtain ⟨fuel, rfl⟩ : ∃ m, fuel = m + 1 := ⟨fuel - 1, by omega⟩
      have pd := (pp (w - 1 - s) (by omega)).1
      have r := row (w - 1 - s) (by omega)
      refine br_f (nI_ge (by omega) (by omega)) ?_
      rw [nI_add, xc_3, nI_add, nI_clamp (n := P - w + s) (by omega), nI_clamp (n := U * 3 + s) (by omega), show P - w + s = P - 1 - (w - 1 - s) by omega, pd]
      refine ⟨vp_in_nI (by omega) (by decide), nm_e ⟨vp_in_nI (by omega) (by decide), nm_e ⟨vp_in_nI (by omega) (by decide), ?_⟩⟩⟩
      rw [nI_clamp (n := S + (bs_sc (rl_c K B) (w - 1 - s) z - 1)) (by omega)]
      refine nm_e (nm_r (nI_1 s) (ih (s + 1) fuel _ _ (by omega) (by omega) (fun i hi => ?_) (fun q hq => ?_) (fun i hi => ?_) (fun r' hr => ?_)))
      · by_cases e : i = s
        · subst e; exact pk_us
        · rw [pk_un (by omega)]; exact a1 i (by omega)
      · rw [pk_un (by omega)]; exact a2 q (by omega)
      · by_cases e : S + (bs_sc (rl_c K B) (w - 1 - i) z - 1) = S + (bs_sc (rl_c K B) (w - 1 - s) z - 1)
        · rw [e]; exact pk_us
        · rw [pk_un e]
          by_cases e2 : i = s
          · subst e2; exact absurd rfl e
          · exact a3 i (by omega)
      · rw [pk_un (hr s (by omega))]
        exact a4 r' (fun i hi => hr i (by omega))
  unfold wpX_adoptPending
  dsimp only
  exact nm_r (e' := nI (P - w)) (pk_sub hw) ⟨w + 1, loop w 0 (w + 1) a_children a_parents (by omega) (by omega) (fun i hi => absurd hi (Nat.not_lt_zero i)) (fun _ _ => rfl) (fun i hi => absurd hi (Nat.not_lt_zero i)) (fun _ _ => rfl)⟩
end
section
variable {f_slotCount f_capacity f_nodesUsed f_buildingSlot f_pendingCount f_summariesCurrent f_callsActive f_callsMade f_runOutcome f_runValue : Int32} {a_slotStates a_slotArities a_slotStarts a_slotSizes a_kinds a_firstOperands a_secondOperands a_children a_parents a_depths a_pendingNodes a_summaries a_nextSummaries a_nodeTypes a_paramsAfter a_params a_values a_arguments a_frameSlots a_frameNodes : Nat → Int32} {N C k z b S P U w : Nat} {K A B : Nat → Int32} {κ a c : Int32}
theorem xe_node {Q : Int32 → St2 → Prop} (hN : N ≤ 8) (hC : C ≤ 128) (hUC : U ≤ C) (hb : b < N) (hk : k ≤ 2) (ek : a_slotArities b = nI k) (e1 : a_slotSizes b = nI z) (hB : rl_body N k z S K A B a_kinds a_firstOperands a_secondOperands a_children a_parents a_depths)
    (eP : P = bs_pc (rl_c K B) z) (eU : S + z = U) (pp : ∀ q, q < P → a_pendingNodes (P - 1 - q) = nI (S + (bs_sc (rl_c K B) q z - 1)) ∧ a_parents (S + (bs_sc (rl_c K B) q z - 1)) = -1) (ew : bs_cc κ (nd_b κ c) = w)
    (H1 : nd_fit N k κ a c → w ≤ 3 → w ≤ P → U < C → bs_dm (rl_c K B) (rl_D S a_depths) z w + 1 ≤ 10 → ∀ CH PA : Nat → Int32, (∀ i, i < w → CH (U * 3 + i) = nI (S + (bs_sc (rl_c K B) (w - 1 - i) z - 1))) → (∀ q, (q < U * 3 ∨ U * 3 + w ≤ q) → CH q = a_children q) → (∀ i, i < w → PA (S + (bs_sc (rl_c K B) (w - 1 - i) z - 1)) = nI U) → (∀ r, (∀ i, i < w → r ≠ S + (bs_sc (rl_c K B) (w - 1 - i) z - 1)) → PA r = a_parents r) →
      Q 1 (nI N, nI C, nI (U + 1), nI b, nI (P - w + 1), f_summariesCurrent, f_callsActive, f_callsMade, f_runOutcome, f_runValue, a_slotStates, a_slotArities, a_slotStarts, upd a_slotSizes b (nI (z + 1)), upd a_kinds U κ, upd a_firstOperands U (nd_a κ a), upd a_secondOperands U (nd_b κ c), CH, upd PA U (-1), upd a_depths U (nI (bs_dm (rl_c K B) (rl_D S a_depths) z w + 1)), upd a_pendingNodes (P - w) (nI U), a_summaries, a_nextSummaries, a_nodeTypes, a_paramsAfter, a_params, a_values, a_arguments, a_frameSlots, a_frameNodes))
    (H0 : ¬ (nd_fit N k κ a c ∧ w ≤ P ∧ U < C ∧ bs_dm (rl_c K B) (rl_D S a_depths) z w + 1 ≤ 10) → Q 0 (nI N, nI C, nI U, nI b, nI P, f_summariesCurrent, f_callsActive, f_callsMade, f_runOutcome, f_runValue, a_slotStates, a_slotArities, a_slotStarts, a_slotSizes, a_kinds, a_firstOperands, a_secondOperands, a_children, a_parents, a_depths, a_pendingNodes, a_summaries, a_nextSummaries, a_nodeTypes, a_paramsAfter, a_params, a_values, a_arguments, a_frameSlots, a_frameNodes)) : wpX_node Q (nI N, nI C, nI U, nI b, nI P, f_summariesCurrent, f_callsActive, f_callsMade, f_runOutcome, f_runValue, a_slotStates, a_slotArities, a_slotStarts, a_slotSizes, a_kinds, a_firstOperands, a_secondOperands, a_children, a_parents, a_depths, a_pendingNodes, a_summaries, a_nextSummaries, a_nodeTypes, a_paramsAfter, a_params, a_values, a_arguments, a_frameSlots, a_frameNodes) κ a c := by
  have hS := hB.1
  have pl := bs_pc_le (rl_c K B) z
  have nb : ¬ nI b = -1 := fun z => by
    have := nI_pos' (n := b) (by omega)
    rw [z] at this
    exact absurd this (by decide)
  unfold wpX_node
  dsimp only
  refine br_f nb (xn_fit hN hb hk ek (fun ft => ?_) (fun nf => H0 fun q => nf q.1))
  have w3 : w ≤ 3 := by
    rw [← ew]
    rcases bd_10 ft with z | z | z | z | z | z | z | z | z | z <;> rw [z]
    · rw [bs_cc0]; decide
    · rw [bs_cc1]; decide
    · rw [bs_cc2]; decide
    · rw [bs_cc3]; decide
    · rw [bs_cc4]; decide
    · rw [bs_cc5]; decide
    · rw [bs_cc6]; decide
    · rw [bs_cc7]; decide
    · rw [bs_cc8]; decide
    · rw [bs_cc9]
      obtain ⟨q, hq, e⟩ := ft.2.2.2.2.2.1
      rw [z] at e
      rw [e, nI_clamp (by omega)]; omega
  refine xn_children ft ?_
  rw [ew]
  by_cases c1 : w ≤ P
  · refine br_f (nI_nlt c1 (by omega)) ?_
    by_cases c2 : U < C
    · refine br_t (nI_lt c2 (by omega)) (xn_depth hB c1 eP pp ?_)
      by_cases c3 : bs_dm (rl_c K B) (rl_D S a_depths) z w + 1 ≤ 10
      · refine br_t (nI_le (b := 10) c3 (by decide)) (xn_adopt hB c1 w3 eP eU (by omega) pp fun CH PA a1 a2 a3 a4 => ?_)
        have wU : vp_in (nI U) 128 := vp_in_nI (by omega) (by decide)
        have cU : (nI U).toNatClampNeg = U := nI_clamp (by omega)
        have wb : vp_in (nI b) 8 := vp_in_nI (by omega) (by decide)
        have cb : (nI b).toNatClampNeg = b := nI_clamp (by omega)
        have cP : (nI (P - w)).toNatClampNeg = P - w := nI_clamp (by omega)
        have fin : ∀ s0 s1 : Int32, s0 = nd_a κ a → s1 = nd_b κ c → wX_node_129 Q (nI (bs_dm (rl_c K B) (rl_D S a_depths) z w + 1)) s1 (nI U) (nI N) (nI C) (nI U) (nI b) (nI (P - w)) f_summariesCurrent f_callsActive f_callsMade f_runOutcome f_runValue a_slotStates a_slotArities a_slotStarts a_slotSizes (upd a_kinds U κ) (upd a_firstOperands U s0) a_secondOperands CH PA a_depths a_pendingNodes a_summaries a_nextSummaries a_nodeTypes a_paramsAfter a_params a_values a_arguments a_frameSlots a_frameNodes := by
          intro s0 s1 es0 es1
          unfold wX_node_129
          rw [cU, cb, cP, e1, es0, es1, nI_1 z]
          exact ⟨wU, nm_e ⟨wU, nm_e ⟨wU, nm_e ⟨vp_in_nI (by omega) (by decide), nm_e (nm_r (nI_1 _) (nm_r (nI_1 _) ⟨wb, wb, nm_e (H1 ft w3 c1 c2 c3 CH PA a1 a2 a3 a4)⟩))⟩⟩⟩⟩
        have f109 : ∀ s0 : Int32, s0 = nd_a κ a → wX_node_109 Q κ c (nI (bs_dm (rl_c K B) (rl_D S a_depths) z w + 1)) s0 (nI U) (nI N) (nI C) (nI U) (nI b) (nI (P - w)) f_summariesCurrent f_callsActive f_callsMade f_runOutcome f_runValue a_slotStates a_slotArities a_slotStarts a_slotSizes (upd a_kinds U κ) a_firstOperands a_secondOperands CH PA a_depths a_pendingNodes a_summaries a_nextSummaries a_nodeTypes a_paramsAfter a_params a_values a_arguments a_frameSlots a_frameNodes := by
          intro s0 es0
          unfold wX_node_109
          rw [cU]
          refine ⟨wU, nm_e ?_⟩
          by_cases k9 : κ = 9
          · exact br_t k9 (fin s0 c es0 (by unfold nd_b; rw [if_pos k9]))
          · exact br_f k9 (fin s0 0 es0 (by unfold nd_b; rw [if_neg k9]))
        dsimp only
        rw [cU]
        refine ⟨wU, nm_e (xn_uses (fun u => br_f (by decide) ?_) (fun u => br_t rfl ?_))⟩
        · exact f109 a (by unfold nd_a; rw [if_pos u])
        · exact f109 0 (by unfold nd_a; rw [if_neg u])
      · exact br_f (nI_ge (b := bs_dm (rl_c K B) (rl_D S a_depths) z w + 1) (a := 10) (by omega) (by
          have pos := bs_pos hB.2.1.2.2
          have := bs_dm_10 (rl_c K B) (rl_D S a_depths) z (n := w) (fun j hj => by
            have := pos.1 j (by omega)
            have := bs_sc_le (rl_c K B) z j
            exact (rl_D_in hB (show bs_sc (rl_c K B) j z - 1 < z by omega)).2)
          omega)) (H0 fun q => c3 q.2.2.2)
    · exact br_f (nI_nlt (by omega) (by omega)) (H0 fun q => c2 q.2.2.1)
  · exact br_t (nI_lt (by omega) (by omega)) (H0 fun q => c1 q.2.1)
end

theorem yc_k1 {k : Nat} (hk : k ≤ 2) : nI k < 1 ↔ k < 1 := by
  rw [show (1 : Int32) = nI 1 by decide, nI_ltI (by omega) (by omega)]
theorem rd_3 {v : Int32} (h : nI 3 ≤ v) : 2 < v ∧ ¬ v < 0 ∧ ¬ v ≤ 2 := by
  rw [Int32.le_iff_toInt_le, nI_toInt (by decide)] at h
  refine ⟨?_, ?_, ?_⟩
  · rw [Int32.lt_iff_toInt_lt, show (2 : Int32).toInt = 2 by decide]; omega
  · rw [Int32.lt_iff_toInt_lt, show (0 : Int32).toInt = 0 by decide]; omega
  · rw [Int32.le_iff_toInt_le, show (2 : Int32).toInt = 2 by decide]; omega
theorem rd_n {v : Int32} {N : Nat} (hN : N < 2 ^ 31) (h : nI N ≤ v) : ¬ v < 0 := by
  rw [Int32.le_iff_toInt_le, nI_toInt hN] at h
  rw [Int32.lt_iff_toInt_lt, show (0 : Int32).toInt = 0 by decide]; omega
theorem rd_idx {f j : Nat} : nI f * 3 + nI j = nI (f * 3 + j) := by rw [xc_3, nI_add]
theorem rd_at {v : Int32} (h1 : 1000 ≤ v.toInt) (h2 : v.toInt ≤ 1007) : ∃ j : Nat, j < 8 ∧ v - 1000 = nI j := by
  refine ⟨(v.toInt - 1000).toNat, by omega, ?_⟩
  apply Int32.toInt_inj.mp
  rw [nI_toInt (by omega), Int32.toInt_sub, ty_k0, Int.bmod_eq_of_le (by omega) (by omega)]
  omega
theorem rd_01 (m j : Nat) : m / 2 ^ j % 2 = 0 ∨ m / 2 ^ j % 2 = 1 := by omega
def rd_c (p : Int32) (lo hi N : Nat) : Prop := (¬ nI lo ≤ p ∧ N = lo) ∨ (nI lo ≤ p ∧ ¬ p ≤ nI hi ∧ N = hi) ∨ (nI lo ≤ p ∧ p ≤ nI hi ∧ p = nI N)
theorem rd_cex (p : Int32) {lo hi : Nat} (h : lo ≤ hi) (hh : hi < 2 ^ 31) : ∃ N : Nat, rd_c p lo hi N ∧ lo ≤ N ∧ N ≤ hi := by
  by_cases a : nI lo ≤ p
  · by_cases b : p ≤ nI hi
    · obtain ⟨j, hj, rfl⟩ := nI_of (rd_n (by omega) a)
      rw [nI_leI (by omega) hj] at a
      have b' := b
      rw [nI_leI hj hh] at b'
      exact ⟨j, Or.inr (Or.inr ⟨nI_le a hj, b, rfl⟩), a, b'⟩
    · exact ⟨hi, Or.inr (Or.inl ⟨a, b, rfl⟩), h, Nat.le_refl _⟩
  · exact ⟨lo, Or.inl ⟨a, rfl⟩, Nat.le_refl _, h⟩
theorem xd_clamp {Q : Int32 → Prop} {p : Int32} {lo hi N : Nat} (h : rd_c p lo hi N) (H : Q (nI N)) : wpX_clamp Q () p (nI lo) (nI hi) := by
  rcases h with ⟨a, rfl⟩ | ⟨a, b, rfl⟩ | ⟨a, b, rfl⟩
  · exact br_f a H
  · exact br_t a (br_f b H)
  · exact br_t a (br_t b H)
theorem bs_dm_10 (c D : Nat → Nat) (m : Nat) : ∀ {n : Nat}, (∀ j, j < n → D (bs_sc c j m - 1) ≤ 10) → bs_dm c D m n ≤ 10 := by
  intro n
  induction n with
  | zero => intro _; exact Nat.zero_le _
  | succ n ih =>
    intro h
    rw [bs_dm_s]
    have := ih (fun j hj => h j (by omega))
    have := h n (by omega)
    omega
def bg_ok (N : Nat) (st : Nat → Int32) (bs v1 v2 : Int32) : Prop := ∃ f a : Nat, bs = -1 ∧ f < N ∧ a < 3 ∧ v1 = nI f ∧ v2 = nI a ∧ st f = 0
theorem rl_slot_un {N U U' f g z S : Nat} {st st' ar ar' szX szX' szY szY' sX sX' bk ba bb kd fo so ch pa dp : Nat → Int32} (h : rl_slot N U g z S st ar szX szY sX bk ba bb kd fo so ch pa dp) (hg : g ≠ f)
    (e1 : st' g = st g) (e2 : ar' g = ar g) (e3 : szX' g = szX g) (e4 : szY' g = szY g) (e5 : sX' g = sX g) (hU : st g ≠ 0 → S + z ≤ U') : rl_slot N U' g z S st' ar' szX' szY' sX' bk ba bb kd fo so ch pa dp := by
  obtain ⟨h1, h2, h3⟩ := h
  refine ⟨by rw [e1]; exact h1, fun n => ?_, fun n => ?_⟩
  · rw [e1] at n
    obtain ⟨q1, q2, q3, q4, k, hk, ek, hB⟩ := h2 n
    exact ⟨e3.trans q1, e4.trans q2, e5.trans q3, hU n, k, hk, e2.trans ek, hB⟩
  · rw [e1] at n
    exact h3 n
def bg_upd (F : Nat → Nat) (f x : Nat) : Nat → Nat := fun g => if g = f then x else F g
theorem bg_us {F : Nat → Nat} {f x : Nat} : bg_upd F f x f = x := if_pos rfl
theorem bg_un {F : Nat → Nat} {f x g : Nat} (h : g ≠ f) : bg_upd F f x g = F g := if_neg h
section
variable {f_slotCount f_capacity f_nodesUsed f_buildingSlot f_pendingCount f_summariesCurrent f_callsActive f_callsMade f_runOutcome f_runValue : Int32} {a_slotStates a_slotArities a_slotStarts a_slotSizes a_kinds a_firstOperands a_secondOperands a_children a_parents a_depths a_pendingNodes a_summaries a_nextSummaries a_nodeTypes a_paramsAfter a_params a_values a_arguments a_frameSlots a_frameNodes : Nat → Int32} {N : Nat}
theorem xd_slot {Q : Int32 → Prop} (hN : N ≤ 8) {v : Int32} (H1 : ∀ f : Nat, f < N → v = nI f → Q 1) (H0 : (¬ ∃ f : Nat, f < N ∧ v = nI f) → Q 0) : wpX_isSlot Q (nI N, f_capacity, f_nodesUsed, f_buildingSlot, f_pendingCount, f_summariesCurrent, f_callsActive, f_callsMade, f_runOutcome, f_runValue, a_slotStates, a_slotArities, a_slotStarts, a_slotSizes, a_kinds, a_firstOperands, a_secondOperands, a_children, a_parents, a_depths, a_pendingNodes, a_summaries, a_nextSummaries, a_nodeTypes, a_paramsAfter, a_params, a_values, a_arguments, a_frameSlots, a_frameNodes) v := by
  unfold wpX_isSlot
  dsimp only
  rcases pk_ix v (n := N) (by omega) with h | h | ⟨f, hf, rfl⟩
  · refine br_t h (H0 ?_)
    rintro ⟨f, hf, rfl⟩
    exact nI_pos (by omega) h
  · refine br_f (rd_n (by omega) h) (br_t h (H0 ?_))
    rintro ⟨f, hf, rfl⟩
    exact nI_ge hf (by omega) h
  · exact br_f (nI_pos (by omega)) (br_f (nI_ge hf (by omega)) (H1 f hf rfl))
theorem xd_body {Q : Int32 → Prop} (hN : N ≤ 8) {v : Int32} (H1 : ∀ f : Nat, f < N → v = nI f → a_slotStates f ≠ 0 → Q 1) (H0 : (¬ ∃ f : Nat, f < N ∧ v = nI f ∧ a_slotStates f ≠ 0) → Q 0) : wpX_hasBody Q (nI N, f_capacity, f_nodesUsed, f_buildingSlot, f_pendingCount, f_summariesCurrent, f_callsActive, f_callsMade, f_runOutcome, f_runValue, a_slotStates, a_slotArities, a_slotStarts, a_slotSizes, a_kinds, a_firstOperands, a_secondOperands, a_children, a_parents, a_depths, a_pendingNodes, a_summaries, a_nextSummaries, a_nodeTypes, a_paramsAfter, a_params, a_values, a_arguments, a_frameSlots, a_frameNodes) v := by
  unfold wpX_hasBody
  dsimp only
  rcases pk_ix v (n := N) (by omega) with h | h | ⟨f, hf, rfl⟩
  · refine br_t h (H0 ?_)
    rintro ⟨f, hf, rfl, _⟩
    exact nI_pos (by omega) h
  · refine br_f (rd_n (by omega) h) (br_t h (H0 ?_))
    rintro ⟨f, hf, rfl, _⟩
    exact nI_ge hf (by omega) h
  · refine br_f (nI_pos (by omega)) (br_f (nI_ge hf (by omega)) ⟨vp_in_nI (by omega) (by decide), ?_⟩)
    rw [nI_clamp (by omega)]
    by_cases z : a_slotStates f = 0
    · refine br_t z (H0 ?_)
      rintro ⟨f', hf', e, h⟩
      rw [nI_eq (by omega) (by omega)] at e
      subst e
      exact h z
    · exact br_f z (H1 f hf rfl z)
theorem xd_sum {Q : Int32 → Prop} (hN : N ≤ 8) {v w : Int32} (H1 : ∀ f j : Nat, f < N → j < 3 → v = nI f → w = nI j → Q 1) (H0 : (¬ ∃ f j : Nat, f < N ∧ j < 3 ∧ v = nI f ∧ w = nI j) → Q 0) : wpX_isSummary Q (nI N, f_capacity, f_nodesUsed, f_buildingSlot, f_pendingCount, f_summariesCurrent, f_callsActive, f_callsMade, f_runOutcome, f_runValue, a_slotStates, a_slotArities, a_slotStarts, a_slotSizes, a_kinds, a_firstOperands, a_secondOperands, a_children, a_parents, a_depths, a_pendingNodes, a_summaries, a_nextSummaries, a_nodeTypes, a_paramsAfter, a_params, a_values, a_arguments, a_frameSlots, a_frameNodes) v w := by
  unfold wpX_isSummary
  dsimp only
  rcases pk_ix v (n := N) (by omega) with h | h | ⟨f, hf, rfl⟩
  · refine br_t h (H0 ?_)
    rintro ⟨f, j, hf, hj, rfl, _⟩
    exact nI_pos (by omega) h
  · refine br_f (rd_n (by omega) h) (br_t h (H0 ?_))
    rintro ⟨f, j, hf, hj, rfl, _⟩
    exact nI_ge hf (by omega) h
  · refine br_f (nI_pos (by omega)) (br_f (nI_ge hf (by omega)) ?_)
    rcases pk_ix w (n := 3) (by decide) with h | h | ⟨j, hj, rfl⟩
    · refine br_t h (H0 ?_)
      rintro ⟨f', j, hf', hj, _, rfl⟩
      exact nI_pos (by omega) h
    · refine br_f (rd_3 h).2.1 (br_t (rd_3 h).1 (H0 ?_))
      rintro ⟨f', j, hf', hj, _, rfl⟩
      exact nI_ge hj (by omega) h
    · exact br_f (nI_pos (by omega)) (br_f (nI_nlt (a := 2) (b := j) (by omega) (by decide)) (H1 f j hf hj rfl rfl))
theorem xe_go {post : Int32 → St2 → Prop} {f k : Nat} {x y : Int32} (hN : N ≤ 8) (hf : f < N) (s2 : a_slotStates f = 2) (ek : a_slotArities f = nI k) (hk : k ≤ 2) (H1 : rn_ag (nI k) x y → wX_run_58 post (nI f) x y (nI N) f_capacity f_nodesUsed f_buildingSlot f_pendingCount f_summariesCurrent f_callsActive f_callsMade f_runOutcome f_runValue a_slotStates a_slotArities a_slotStarts a_slotSizes a_kinds a_firstOperands a_secondOperands a_children a_parents a_depths a_pendingNodes a_summaries a_nextSummaries a_nodeTypes a_paramsAfter a_params a_values a_arguments a_frameSlots a_frameNodes) (H0 : ¬ rn_ag (nI k) x y → post 3 (nI N, f_capacity, f_nodesUsed, f_buildingSlot, f_pendingCount, f_summariesCurrent, f_callsActive, f_callsMade, f_runOutcome, f_runValue, a_slotStates, a_slotArities, a_slotStarts, a_slotSizes, a_kinds, a_firstOperands, a_secondOperands, a_children, a_parents, a_depths, a_pendingNodes, a_summaries, a_nextSummaries, a_nodeTypes, a_paramsAfter, a_params, a_values, a_arguments, a_frameSlots, a_frameNodes)) :
    wpX_run post (nI N, f_capacity, f_nodesUsed, f_buildingSlot, f_pendingCount, f_summariesCurrent, f_callsActive, f_callsMade, f_runOutcome, f_runValue, a_slotStates, a_slotArities, a_slotStarts, a_slotSizes, a_kinds, a_firstOperands, a_secondOperands, a_children, a_parents, a_depths, a_pendingNodes, a_summaries, a_nextSummaries, a_nodeTypes, a_paramsAfter, a_params, a_values, a_arguments, a_frameSlots, a_frameNodes) (nI f) x y := by
  have w : vp_in (nI f) 8 := vp_in_nI (by omega) (by decide)
  have cl : (nI f).toNatClampNeg = f := nI_clamp (by omega)
  have k1 : (1 : Int32) ≤ nI k ↔ 1 ≤ k := by rw [show (1 : Int32) = nI 1 by decide, nI_leI (by omega) (by omega)]
  have k2 : (2 : Int32) ≤ nI k ↔ 2 ≤ k := by rw [show (2 : Int32) = nI 2 by decide, nI_leI (by omega) (by omega)]
  have k3 : nI k = 2 ↔ k = 2 := by rw [show (2 : Int32) = nI 2 by decide, nI_eq (by omega) (by omega)]
  have s39 : (1 ≤ k → rn_ok x) → wX_run_39 post (nI f) x y (nI N) f_capacity f_nodesUsed f_buildingSlot f_pendingCount f_summariesCurrent f_callsActive f_callsMade f_runOutcome f_runValue a_slotStates a_slotArities a_slotStarts a_slotSizes a_kinds a_firstOperands a_secondOperands a_children a_parents a_depths a_pendingNodes a_summaries a_nextSummaries a_nodeTypes a_paramsAfter a_params a_values a_arguments a_frameSlots a_frameNodes := by
    intro hx
    unfold wX_run_39
    rw [cl, ek]
    refine ⟨w, ?_⟩
    by_cases c : k = 2
    · refine br_t (k3.mpr c) (xt_isValue (fun oy => br_f (by decide) (H1 ⟨fun z => hx (k1.mp z), fun _ => oy⟩)) (fun ny => br_t rfl (H0 fun z => ny (z.2 (k2.mpr (by omega))))))
    · exact br_f (fun z => c (k3.mp z)) (H1 ⟨fun z => hx (k1.mp z), fun z => by have := k2.mp z; omega⟩)
  unfold wpX_run
  dsimp only
  refine xd_slot hN (fun f' hf' e => br_f (by decide) ⟨w, ?_⟩) (fun no => absurd ⟨f, hf, rfl⟩ no)
  rw [cl, ek]
  refine br_t s2 ⟨w, ?_⟩
  by_cases c : k < 1
  · exact br_t ((yc_k1 hk).mpr c) (s39 fun z => by omega)
  · exact br_f (fun z => c ((yc_k1 hk).mp z)) (xt_isValue (fun ox => br_f (by decide) (s39 fun _ => ox)) (fun nx => br_t rfl (H0 fun z => nx (z.1 (k1.mpr (by omega))))))
end
section
variable {f_slotCount f_capacity f_nodesUsed f_buildingSlot f_pendingCount f_summariesCurrent f_callsActive f_callsMade f_runOutcome f_runValue : Int32} {a_slotStates a_slotArities a_slotStarts a_slotSizes a_kinds a_firstOperands a_secondOperands a_children a_parents a_depths a_pendingNodes a_summaries a_nextSummaries a_nodeTypes a_paramsAfter a_params a_values a_arguments a_frameSlots a_frameNodes : Nat → Int32} {N : Nat} {v1 v2 : Int32}
theorem xe_begin {Q : Int32 → St2 → Prop} (hN : N ≤ 8) (H1 : ∀ f a : Nat, f_buildingSlot = -1 → f < N → a < 3 → v1 = nI f → v2 = nI a → a_slotStates f = 0 → Q 1 (nI N, f_capacity, f_nodesUsed, nI f, f_pendingCount, f_summariesCurrent, f_callsActive, f_callsMade, f_runOutcome, f_runValue, upd a_slotStates f 1, upd a_slotArities f (nI a), upd a_slotStarts f f_nodesUsed, upd a_slotSizes f 0, a_kinds, a_firstOperands, a_secondOperands, a_children, a_parents, a_depths, a_pendingNodes, a_summaries, a_nextSummaries, a_nodeTypes, a_paramsAfter, a_params, a_values, a_arguments, a_frameSlots, a_frameNodes))
    (H0 : ¬ bg_ok N a_slotStates f_buildingSlot v1 v2 → Q 0 (nI N, f_capacity, f_nodesUsed, f_buildingSlot, f_pendingCount, f_summariesCurrent, f_callsActive, f_callsMade, f_runOutcome, f_runValue, a_slotStates, a_slotArities, a_slotStarts, a_slotSizes, a_kinds, a_firstOperands, a_secondOperands, a_children, a_parents, a_depths, a_pendingNodes, a_summaries, a_nextSummaries, a_nodeTypes, a_paramsAfter, a_params, a_values, a_arguments, a_frameSlots, a_frameNodes)) : wpX_begin Q (nI N, f_capacity, f_nodesUsed, f_buildingSlot, f_pendingCount, f_summariesCurrent, f_callsActive, f_callsMade, f_runOutcome, f_runValue, a_slotStates, a_slotArities, a_slotStarts, a_slotSizes, a_kinds, a_firstOperands, a_secondOperands, a_children, a_parents, a_depths, a_pendingNodes, a_summaries, a_nextSummaries, a_nodeTypes, a_paramsAfter, a_params, a_values, a_arguments, a_frameSlots, a_frameNodes) v1 v2 := by
  unfold wpX_begin
  dsimp only
  by_cases bm : f_buildingSlot = -1
  · refine br_t bm (xd_slot hN (fun f hf e => br_f (by decide) ?_) (fun no => br_t rfl (H0 ?_)))
    · subst e
      have w : vp_in (nI f) 8 := vp_in_nI (by omega) (by decide)
      have cl : (nI f).toNatClampNeg = f := nI_clamp (by omega)
      rw [cl]
      refine ⟨w, ?_⟩
      by_cases z : a_slotStates f = 0
      · refine br_t z ?_
        rcases pk_ix v2 (n := 3) (by decide) with h | h | ⟨a, ha, rfl⟩
        · refine br_t h (H0 ?_)
          rintro ⟨f', a', _, hf', ha', e1, rfl, z'⟩
          exact nI_pos (by omega) h
        · refine br_f (rd_3 h).2.1 (br_f (rd_3 h).2.2 (H0 ?_))
          rintro ⟨f', a', _, hf', ha', e1, rfl, z'⟩
          exact nI_ge ha' (by omega) h
        · exact br_f (nI_pos (by omega)) (br_t (nI_le (a := a) (b := 2) (by omega) (by decide)) ⟨w, nm_e ⟨w, nm_e ⟨w, nm_e ⟨w, nm_e (H1 f a bm hf ha rfl rfl z)⟩⟩⟩⟩)
      · refine br_f z (H0 ?_)
        rintro ⟨f', a', _, hf', ha', e1, e2, z'⟩
        rw [nI_eq (by omega) (by omega)] at e1
        subst e1
        exact z z'
    · rintro ⟨f', a', _, hf', ha', e1, e2, z'⟩
      exact no ⟨f', hf', e1⟩
  · refine br_f bm (H0 ?_)
    rintro ⟨f', a', e, _⟩
    exact bm e
end

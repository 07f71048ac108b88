theorem rd_at {v : Int32} (h1 : 1000 ≤ v.toInt) (h2 : v.toInt ≤ 1007) : ∃ j : Nat, j < 8 ∧ v - 1000 = nI j := by
  refine ⟨(v.toInt - 1000).toNat, by omega, ?_⟩
  apply Int32.toInt_inj.mp
  rw [nI_toInt (by omega), Int32.toInt_sub, ty_k0, Int.bmod_eq_of_le (by omega) (by omega)]
  omega
theorem rd_01 (m j : Nat) : m / 2 ^ j % 2 = 0 ∨ m / 2 ^ j % 2 = 1 := by omega
theorem i_vc_member {k : Nat} {u : SX} {v : SY} (I : i_Rel k u v) (hk : k + 4 ≤ 2050) (v1 : Int32) (v2 : Int32) (v3 : Int32) : wpX_member (fun r => wpY_member (fun r' => r' = r ∧ i_Rel (k + 4) u v) v v1 v2 v3) u v1 v2 v3 := by
  have J := I
  obtain ⟨f_slotCount, f_capacity, f_nodesUsed, f_buildingSlot, f_pendingCount, f_summariesCurrent, f_callsActive, f_callsMade, f_runOutcome, f_runValue, a_slotStates, a_slotArities, a_slotStarts, a_slotSizes, a_kinds, a_firstOperands, a_secondOperands, a_children, a_parents, a_depths, a_pendingNodes, a_summaries, a_nextSummaries, a_nodeTypes, a_paramsAfter, a_params, a_values, a_arguments, a_frameSlots, a_frameNodes⟩ := u
  obtain ⟨f_n, f_cap, f_ana, f_res, f_anyT, f_intsT, f_wp, f_vp, f_made, f_active, f_xp, f_curK, f_rBot, f_rR, f_rE0, f_rE1, a_st, a_ar, a_size, a_bk, a_ba, a_bb, a_ds, a_tab, a_nxt, a_wN, a_wS, a_wF, a_vs, a_frS, a_frP0, a_frP1, a_xN, a_xS, a_xE0, a_xE1, a_xA, a_xB, a_xC, a_xD, a_xE, a_xF, a_xG⟩ := v
  obtain ⟨N, C, U, sz, S, tb, rfl, rfl, rfl, rfl, rfl, rfl, rfl, rfl, rfl, rfl, rfl, ⟨hN1, hN, hC1, hC, hU⟩, hcur, hsum, hs, hbld, htab⟩ := I
  obtain ⟨hT, ht, _⟩ := htab
  unfold wpX_member wpY_member
  refine xd_sum hN (fun f j hf hj e1 e2 => br_f (by decide) ?_) (fun no => br_t rfl ?_)
  · subst e1 e2
    obtain ⟨t1, t2⟩ := ht (f * 3 + j) (by omega)
    rw [rd_idx, nI_clamp (by omega), t1]
    refine ⟨vp_in_nI (by omega) (by decide), nm_e ?_⟩
    refine xt_isInt (fun a b => br_f (by decide) ?_) (fun nn => br_t rfl ?_)
    · have n1 : ¬ v3 < -99 := by rw [Int32.lt_iff_toInt_lt, ty_m99]; omega
      have n2 : ¬ 99 < v3 := by rw [Int32.lt_iff_toInt_lt, ty_p99]; omega
      refine xt_has (hT _) (fun z => br_t rfl ?_) (fun z => br_f (by decide) (xt_low (hT _) z ?_))
      · refine yd_sum hN (fun f' j' hf' hj' e1 e2 => br_t rfl ?_) (fun no => absurd ⟨f, j, hf, hj, rfl, rfl⟩ no)
        rw [t2]
        exact ⟨vp_in_nI (by omega) (by decide), nm_e (br_f n1 (br_f n2 (yt_has (hT _) (fun z' => br_t rfl ⟨rfl, J⟩) (fun z' => absurd z z'))))⟩
      · by_cases lo : v3 < ty_lw (tb (f * 3 + j)).2.1
        · refine br_t lo ?_
          refine yd_sum hN (fun f' j' hf' hj' e1 e2 => br_t rfl ?_) (fun no => absurd ⟨f, j, hf, hj, rfl, rfl⟩ no)
          rw [t2]
          exact ⟨vp_in_nI (by omega) (by decide), nm_e (br_f n1 (br_f n2 (yt_has (hT _) (fun z' => absurd z' z) (fun z' => br_f (by decide) (yt_lo (hT _) z (br_t lo ⟨rfl, J⟩))))))⟩
        · refine br_f lo (xt_high (hT _) z ?_)
          by_cases hi : ty_hw (tb (f * 3 + j)).2.2 < v3
          · refine br_t hi ?_
            refine yd_sum hN (fun f' j' hf' hj' e1 e2 => br_t rfl ?_) (fun no => absurd ⟨f, j, hf, hj, rfl, rfl⟩ no)
            rw [t2]
            exact ⟨vp_in_nI (by omega) (by decide), nm_e (br_f n1 (br_f n2 (yt_has (hT _) (fun z' => absurd z' z) (fun z' => br_f (by decide) (yt_lo (hT _) z (br_f lo (yt_hi (hT _) z (br_t hi ⟨rfl, J⟩))))))))⟩
          · refine br_f hi ?_
            refine yd_sum hN (fun f' j' hf' hj' e1 e2 => br_t rfl ?_) (fun no => absurd ⟨f, j, hf, hj, rfl, rfl⟩ no)
            rw [t2]
            exact ⟨vp_in_nI (by omega) (by decide), nm_e (br_f n1 (br_f n2 (yt_has (hT _) (fun z' => absurd z' z) (fun z' => br_f (by decide) (yt_lo (hT _) z (br_f lo (yt_hi (hT _) z (br_f hi ⟨rfl, J⟩))))))))⟩
    · have out : v3 < -99 ∨ 99 < v3 := by
        rw [Int32.lt_iff_toInt_lt, ty_m99, Int32.lt_iff_toInt_lt, ty_p99]; omega
      refine xt_isAtom (fun a b => br_f (by decide) ?_) (fun nm => br_t rfl ?_)
      · obtain ⟨q, hq, eq⟩ := rd_at a b
        have m1 : ¬ v3 < 1000 := by rw [Int32.lt_iff_toInt_lt, ty_k0]; omega
        have m2 : ¬ 1007 < v3 := by rw [Int32.lt_iff_toInt_lt, ty_k7]; omega
        have xn := ty_xn_lt (hT (f * 3 + j))
        have yn := ty_yn_lt (hT (f * 3 + j))
        have bx := ty_bit (ty_xn_m (hT (f * 3 + j))) (by omega) hq
        have by' := ty_bit (ty_yn_m (hT (f * 3 + j))) (by omega) hq
        rw [eq, show ty_x (tb (f * 3 + j)) = nI (ty_xn (tb (f * 3 + j))) from rfl, bx]
        rcases rd_01 (tb (f * 3 + j)).1 q with z | z
        · rw [z]
          refine br_f (by decide) ?_
          refine yd_sum hN (fun f' j' hf' hj' e1 e2 => br_t rfl ?_) (fun no => absurd ⟨f, j, hf, hj, rfl, rfl⟩ no)
          rw [t2]
          refine ⟨vp_in_nI (by omega) (by decide), nm_e ?_⟩
          have fin : ((ty_y (tb (f * 3 + j)) >>> ((v3 - 1000) &&& 31)) &&& 1) = 0 := by
            rw [eq, show ty_y (tb (f * 3 + j)) = nI (ty_yn (tb (f * 3 + j))) from rfl, by', z]; rfl
          exact br_c (fun _ => br_f m1 (br_f m2 (br_t fin ⟨rfl, J⟩))) (fun a => br_t (out.resolve_left a) (br_f m1 (br_f m2 (br_t fin ⟨rfl, J⟩))))
        · rw [z]
          refine br_t (by decide) ?_
          refine yd_sum hN (fun f' j' hf' hj' e1 e2 => br_t rfl ?_) (fun no => absurd ⟨f, j, hf, hj, rfl, rfl⟩ no)
          rw [t2]
          refine ⟨vp_in_nI (by omega) (by decide), nm_e ?_⟩
          have fin : ¬ ((ty_y (tb (f * 3 + j)) >>> ((v3 - 1000) &&& 31)) &&& 1) = 0 := by
            rw [eq, show ty_y (tb (f * 3 + j)) = nI (ty_yn (tb (f * 3 + j))) from rfl, by', z]; decide
          exact br_c (fun _ => br_f m1 (br_f m2 (br_f fin ⟨rfl, J⟩))) (fun a => br_t (out.resolve_left a) (br_f m1 (br_f m2 (br_f fin ⟨rfl, J⟩))))
      · refine yd_sum hN (fun f' j' hf' hj' e1 e2 => br_t rfl ?_) (fun no => absurd ⟨f, j, hf, hj, rfl, rfl⟩ no)
        rw [t2]
        refine ⟨vp_in_nI (by omega) (by decide), nm_e ?_⟩
        by_cases m1 : v3 < 1000
        · exact br_c (fun _ => br_t m1 ⟨rfl, J⟩) (fun a => br_t (out.resolve_left a) (br_t m1 ⟨rfl, J⟩))
        · have m2 : 1007 < v3 := by
            rw [Int32.lt_iff_toInt_lt, ty_k0] at m1
            rw [Int32.lt_iff_toInt_lt, ty_k7]; omega
          exact br_c (fun _ => br_f m1 (br_t m2 ⟨rfl, J⟩)) (fun a => br_t (out.resolve_left a) (br_f m1 (br_t m2 ⟨rfl, J⟩)))
  · exact yd_sum hN (fun f j hf hj e1 e2 => absurd ⟨f, j, hf, hj, e1, e2⟩ no) (fun _ => br_f (by decide) ⟨rfl, J⟩)
section
variable {f_n f_cap f_ana f_res f_anyT f_intsT f_wp f_vp f_made f_active f_xp f_curK f_rBot f_rR f_rE0 f_rE1 : Int32} {a_st a_ar a_size a_bk a_ba a_bb a_ds a_tab a_nxt a_wN a_wS a_wF a_vs a_frS a_frP0 a_frP1 a_xN a_xS a_xE0 a_xE1 a_xA a_xB a_xC a_xD a_xE a_xF a_xG : Nat → Int32} {N : Nat}
/-- the reference's own check of a slot with a body -/
theorem yd_body {C0 : Prop} {C1 : Prop} (hN : N ≤ 8) {v : Int32} (H1 : ∀ f : Nat, f < N → v = nI f → a_st f ≠ 0 → C1) (H0 : (¬ ∃ f : Nat, f < N ∧ v = nI f ∧ a_st f ≠ 0) → C0) :
    ((v < 0 → C0) ∧ (¬ v < 0 → ((nI N ≤ v → C0) ∧ (¬ nI N ≤ v → (vp_in v 8 ∧ ((a_st v.toNatClampNeg = 0 → C0) ∧ (¬ a_st v.toNatClampNeg = 0 → C1))))))) := by
  rcases pk_ix v (n := N) (by omega) with h | h | ⟨f, hf, rfl⟩
  · refine br_t h (H0 ?_)
    rintro ⟨f, hf, rfl, _⟩
    exact nI_pos (by omega) h
  · refine br_f (rd_n (by omega) h) (br_t h (H0 ?_))
    rintro ⟨f, hf, rfl, _⟩
    exact nI_ge hf (by omega) h
  · refine br_f (nI_pos (by omega)) (br_f (nI_ge hf (by omega)) ⟨vp_in_nI (by omega) (by decide), ?_⟩)
    rw [nI_clamp (by omega)]
    by_cases z : a_st f = 0
    · refine br_t z (H0 ?_)
      rintro ⟨f', hf', e, h⟩
      rw [nI_eq (by omega) (by omega)] at e
      subst e
      exact h z
    · exact br_f z (H1 f hf rfl z)
end
theorem i_vc_bodySize {k : Nat} {u : SX} {v : SY} (I : i_Rel k u v) (hk : k + 4 ≤ 2050) (v1 : Int32) : wpX_bodySize (fun r => wpY_bodySize (fun r' => r' = r ∧ i_Rel (k + 4) u v) v v1) u v1 := by
  have J := I
  obtain ⟨f_slotCount, f_capacity, f_nodesUsed, f_buildingSlot, f_pendingCount, f_summariesCurrent, f_callsActive, f_callsMade, f_runOutcome, f_runValue, a_slotStates, a_slotArities, a_slotStarts, a_slotSizes, a_kinds, a_firstOperands, a_secondOperands, a_children, a_parents, a_depths, a_pendingNodes, a_summaries, a_nextSummaries, a_nodeTypes, a_paramsAfter, a_params, a_values, a_arguments, a_frameSlots, a_frameNodes⟩ := u
  obtain ⟨f_n, f_cap, f_ana, f_res, f_anyT, f_intsT, f_wp, f_vp, f_made, f_active, f_xp, f_curK, f_rBot, f_rR, f_rE0, f_rE1, a_st, a_ar, a_size, a_bk, a_ba, a_bb, a_ds, a_tab, a_nxt, a_wN, a_wS, a_wF, a_vs, a_frS, a_frP0, a_frP1, a_xN, a_xS, a_xE0, a_xE1, a_xA, a_xB, a_xC, a_xD, a_xE, a_xF, a_xG⟩ := v
  obtain ⟨N, C, U, sz, S, tb, rfl, rfl, rfl, rfl, rfl, rfl, rfl, rfl, rfl, rfl, rfl, ⟨hN1, hN, hC1, hC, hU⟩, hcur, hsum, hs, hbld, htab⟩ := I
  unfold wpX_bodySize wpY_bodySize
  refine xd_body hN (fun f hf e z => br_f (by decide) ?_) (fun no => br_t rfl ?_)
  · subst e
    obtain ⟨e1, e2, _⟩ := (hs f hf).2.1 z
    refine ⟨vp_in_nI (by omega) (by decide), ?_⟩
    refine yd_body hN (fun f' hf' e' z' => ⟨vp_in_nI (by omega) (by decide), ?_, J⟩) (fun no => absurd ⟨f, hf, rfl, z⟩ no)
    rw [nI_clamp (by omega), e1, e2]
  · exact yd_body hN (fun f hf e z => absurd ⟨f, hf, e, z⟩ no) (fun _ => ⟨rfl, J⟩)
theorem i_vc_arity {k : Nat} {u : SX} {v : SY} (I : i_Rel k u v) (hk : k + 4 ≤ 2050) (v1 : Int32) : wpX_arity (fun r => wpY_arity (fun r' => r' = r ∧ i_Rel (k + 4) u v) v v1) u v1 := by
  have J := I
  obtain ⟨f_slotCount, f_capacity, f_nodesUsed, f_buildingSlot, f_pendingCount, f_summariesCurrent, f_callsActive, f_callsMade, f_runOutcome, f_runValue, a_slotStates, a_slotArities, a_slotStarts, a_slotSizes, a_kinds, a_firstOperands, a_secondOperands, a_children, a_parents, a_depths, a_pendingNodes, a_summaries, a_nextSummaries, a_nodeTypes, a_paramsAfter, a_params, a_values, a_arguments, a_frameSlots, a_frameNodes⟩ := u
  obtain ⟨f_n, f_cap, f_ana, f_res, f_anyT, f_intsT, f_wp, f_vp, f_made, f_active, f_xp, f_curK, f_rBot, f_rR, f_rE0, f_rE1, a_st, a_ar, a_size, a_bk, a_ba, a_bb, a_ds, a_tab, a_nxt, a_wN, a_wS, a_wF, a_vs, a_frS, a_frP0, a_frP1, a_xN, a_xS, a_xE0, a_xE1, a_xA, a_xB, a_xC, a_xD, a_xE, a_xF, a_xG⟩ := v
  obtain ⟨N, C, U, sz, S, tb, rfl, rfl, rfl, rfl, rfl, rfl, rfl, rfl, rfl, rfl, rfl, ⟨hN1, hN, hC1, hC, hU⟩, hcur, hsum, hs, hbld, htab⟩ := I
  unfold wpX_arity wpY_arity
  refine xd_body hN (fun f hf e z => br_f (by decide) ?_) (fun no => br_t rfl ?_)
  · subst e
    refine ⟨vp_in_nI (by omega) (by decide), ?_⟩
    exact yd_body hN (fun f' hf' e' z' => ⟨vp_in_nI (by omega) (by decide), rfl, J⟩) (fun no => absurd ⟨f, hf, rfl, z⟩ no)
  · exact yd_body hN (fun f hf e z => absurd ⟨f, hf, e, z⟩ no) (fun _ => ⟨rfl, J⟩)
theorem i_vc_nodeAt {k : Nat} {u : SX} {v : SY} (I : i_Rel k u v) (hk : k + 4 ≤ 2050) (v1 : Int32) (v2 : Int32) : wpX_nodeAt (fun r => wpY_nodeAt (fun r' => r' = r ∧ i_Rel (k + 4) u v) v v1 v2) u v1 v2 := by
  have J := I
  obtain ⟨f_slotCount, f_capacity, f_nodesUsed, f_buildingSlot, f_pendingCount, f_summariesCurrent, f_callsActive, f_callsMade, f_runOutcome, f_runValue, a_slotStates, a_slotArities, a_slotStarts, a_slotSizes, a_kinds, a_firstOperands, a_secondOperands, a_children, a_parents, a_depths, a_pendingNodes, a_summaries, a_nextSummaries, a_nodeTypes, a_paramsAfter, a_params, a_values, a_arguments, a_frameSlots, a_frameNodes⟩ := u
  obtain ⟨f_n, f_cap, f_ana, f_res, f_anyT, f_intsT, f_wp, f_vp, f_made, f_active, f_xp, f_curK, f_rBot, f_rR, f_rE0, f_rE1, a_st, a_ar, a_size, a_bk, a_ba, a_bb, a_ds, a_tab, a_nxt, a_wN, a_wS, a_wF, a_vs, a_frS, a_frP0, a_frP1, a_xN, a_xS, a_xE0, a_xE1, a_xA, a_xB, a_xC, a_xD, a_xE, a_xF, a_xG⟩ := v
  obtain ⟨N, C, U, sz, S, tb, rfl, rfl, rfl, rfl, rfl, rfl, rfl, rfl, rfl, rfl, rfl, ⟨hN1, hN, hC1, hC, hU⟩, hcur, hsum, hs, hbld, htab⟩ := I
  unfold wpX_nodeAt
  refine xd_body hN (fun f hf e z => br_f (by decide) ?_) (fun no => br_t rfl ?_)
  · subst e
    obtain ⟨e1, e2, e3, e4, kk, hkk, ekk, hB⟩ := (hs f hf).2.1 z
    have hS := hB.1
    have w : vp_in (nI f) 8 := vp_in_nI (by omega) (by decide)
    have cl : (nI f).toNatClampNeg = f := nI_clamp (by omega)
    rcases pk_ix v2 (n := sz f) (by omega) with h | h | ⟨i, hi, rfl⟩
    · refine br_t h ?_
      exact yd_body hN (fun f' hf' e' z' => br_t h ⟨rfl, J⟩) (fun no => absurd ⟨f, hf, rfl, z⟩ no)
    · have n0 := rd_n (by omega) h
      refine br_f n0 ⟨w, ?_⟩
      rw [cl, e1]
      refine br_f (Int32.not_lt.mpr h) ?_
      refine yd_body hN (fun f' hf' e' z' => ?_) (fun no => absurd ⟨f, hf, rfl, z⟩ no)
      refine br_f n0 ⟨w, ?_⟩
      rw [cl, e2]
      exact br_f (Int32.not_lt.mpr h) ⟨rfl, J⟩
    · refine br_f (nI_pos (by omega)) ⟨w, ?_⟩
      rw [cl, e1, e3]
      obtain ⟨r1, r2, r3, _⟩ := hB.2.2 i hi
      have wr : vp_in (nI (S f + i)) 128 := vp_in_nI (by omega) (by decide)
      refine br_t (nI_lt hi (by omega)) ⟨w, nm_r (nI_add _ _) ⟨wr, wr, wr, ?_⟩⟩
      rw [nI_clamp (n := S f + i) (by omega), r1, r2, r3]
      refine yd_body hN (fun f' hf' e' z' => ?_) (fun no => absurd ⟨f, hf, rfl, z⟩ no)
      refine br_f (nI_pos (by omega)) ⟨w, ?_⟩
      rw [cl, e2]
      have wi : vp_in (nI (f * 128 + i)) 1024 := vp_in_nI (by omega) (by decide)
      refine br_t (nI_lt hi (by omega)) (nm_r (yk_ix (by omega) (by omega)) ⟨wi, wi, wi, ?_, J⟩)
      rw [nI_clamp (n := f * 128 + i) (by omega)]
      rfl
  · exact yd_body hN (fun f hf e z => absurd ⟨f, hf, e, z⟩ no) (fun _ => ⟨rfl, J⟩)

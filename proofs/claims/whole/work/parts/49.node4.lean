theorem i_vc_node {k : Nat} {u : SX} {v : SY} (I : i_Rel k u v) (hk : k + 4 ≤ 2050) (v1 : Int32) (v2 : Int32) (v3 : Int32) : wpX_node (fun r u' => wpY_node (fun r' v' => r' = r ∧ i_Rel (k + 4) u' v') v v1 v2 v3) u v1 v2 v3 := by
  have J := I
  obtain ⟨f_slotCount, f_capacity, f_nodesUsed, f_buildingSlot, f_pendingCount, f_summariesCurrent, f_callsActive, f_callsMade, f_runOutcome, f_runValue, a_slotStates, a_slotArities, a_slotStarts, a_slotSizes, a_kinds, a_firstOperands, a_secondOperands, a_children, a_parents, a_depths, a_pendingNodes, a_summaries, a_nextSummaries, a_nodeTypes, a_paramsAfter, a_params, a_values, a_arguments, a_frameSlots, a_frameNodes⟩ := u
  obtain ⟨f_n, f_cap, f_ana, f_res, f_anyT, f_intsT, f_wp, f_vp, f_made, f_active, f_xp, f_curK, f_rBot, f_rR, f_rE0, f_rE1, a_st, a_ar, a_size, a_bk, a_ba, a_bb, a_ds, a_tab, a_nxt, a_wN, a_wS, a_wF, a_vs, a_frS, a_frP0, a_frP1, a_xN, a_xS, a_xE0, a_xE1, a_xA, a_xB, a_xC, a_xD, a_xE, a_xF, a_xG⟩ := v
  obtain ⟨N, C, U, sz, S, tb, rfl, rfl, rfl, rfl, rfl, rfl, rfl, rfl, rfl, rfl, rfl, ⟨hN1, hN, hC1, hC, hU⟩, hcur, hsum, hs, hbld, htab⟩ := I
  have hb0 := hbld
  rcases hbld with ⟨rfl, rfl, _⟩ | ⟨b, P, hb, rfl, rfl, s1, un, eU, lo, eP, pp⟩
  · unfold wpX_node wpY_node
    exact br_t rfl (yd_bldg hN hb0 (br_f (by decide) ⟨rfl, J⟩))
  · obtain ⟨e1, e2, e3, e4, kk, hkk, ekk, hB⟩ := (hs b hb).2.1 (by rw [s1]; decide)
    have hS := hB.1
    refine xe_node (w := bs_cc v1 (nd_b v1 v3)) hN hC hU hb hkk ekk e1 hB eP eU pp rfl (fun ft w3 c1 c2 c3 CH PA a1 a2 a3 a4 => ?_) (fun no => ?_)
    · refine ye_node hN hb0 hb hkk ekk (fun _ => ?_) (fun nf => absurd ft nf)
      refine yn_132 hN hC hU hb ft rfl hs hsum rfl rfl hB e2 eU (fun _ _ _ ds => ⟨rfl, ?_⟩) (fun no => absurd ⟨by rw [← eP]; exact c1, c2, c3⟩ no)
      have cc : ∀ i, i < sz b → (rl_c (rl_K a_bk b) (rl_K a_bb b)) i = (rl_c (rl_K (upd a_bk (b * 128 + sz b) v1) b) (rl_K (upd a_bb (b * 128 + sz b) (nd_b v1 v3)) b)) i := fun i hi => by
        show bs_cc (a_bk (b * 128 + i)) (a_bb (b * 128 + i)) = bs_cc (upd a_bk (b * 128 + sz b) v1 (b * 128 + i)) (upd a_bb (b * 128 + sz b) (nd_b v1 v3) (b * 128 + i))
        rw [pk_un (by omega), pk_un (by omega)]
      have cz : (rl_c (rl_K (upd a_bk (b * 128 + sz b) v1) b) (rl_K (upd a_bb (b * 128 + sz b) (nd_b v1 v3)) b)) (sz b) = bs_cc v1 (nd_b v1 v3) := by
        show bs_cc (upd a_bk (b * 128 + sz b) v1 (b * 128 + sz b)) (upd a_bb (b * 128 + sz b) (nd_b v1 v3) (b * 128 + sz b)) = _
        rw [pk_us, pk_us]
      have pos := bs_pos hB.2.1.2.2
      have row : ∀ q, q < P → bs_sc (rl_c (rl_K a_bk b) (rl_K a_bb b)) q (sz b) - 1 < sz b := fun q hq => by
        have := pos.1 q (by omega)
        have := bs_sc_le (rl_c (rl_K a_bk b) (rl_K a_bb b)) (sz b) q
        omega
      refine ⟨N, C, U + 1, bg_upd sz b (sz b + 1), S, tb, rfl, rfl, rfl, rfl, rfl, rfl, rfl, rfl, rfl, rfl, rfl, ⟨hN1, hN, hC1, hC, c2⟩, hcur, ?_, ?_, ?_, htab⟩
      · have q := rl_sum_upd (st := a_slotStates) (st' := a_slotStates) (sz := sz) (sz' := bg_upd sz b (sz b + 1)) (b := b) (fun g hg => ⟨rfl, bg_un hg⟩) N hb
        rw [if_neg (by rw [s1]; decide), if_neg (by rw [s1]; decide), bg_us] at q
        omega
      · intro g hg
        by_cases e : g = b
        · subst e
          rw [bg_us]
          refine ⟨Or.inr (Or.inl s1), fun _ => ⟨pk_us, pk_us, e3, by omega, kk, hkk, ekk, ?_⟩, fun n => absurd (s1.symm.trans n) (by decide)⟩
          refine rl_add (w := bs_cc v1 (nd_b v1 v3)) hB (fun i hi => ⟨pk_un (by omega), pk_un (by omega), pk_un (by omega)⟩) ?_ cz (by rw [← eP]; exact c1) (by omega) (fun q hq => (pp q (by omega)).2) (fun r h1 h2 => ⟨pk_un (by omega), pk_un (by omega), pk_un (by omega), pk_un (by omega)⟩) (fun q h1 h2 => a2 q (Or.inl (by omega))) (fun r h1 h2 h3 => ?_) (fun q hq => ?_) ?_ ?_ ?_ (fun j hj => ?_) ?_ c3
          · show bd_nd N kk (upd a_bk (g * 128 + sz g) v1 (g * 128 + sz g)) (upd a_ba (g * 128 + sz g) (nd_a v1 v2) (g * 128 + sz g)) (upd a_bb (g * 128 + sz g) (nd_b v1 v3) (g * 128 + sz g))
            rw [pk_us, pk_us, pk_us]; exact ft
          · rw [pk_un (by omega)]
            exact a4 r (fun i hi => h3 (bs_cc v1 (nd_b v1 v3) - 1 - i) (by omega))
          · have r := row q (by omega)
            rw [pk_un (by omega), eU]
            have := a3 (bs_cc v1 (nd_b v1 v3) - 1 - q) (by omega)
            rw [show bs_cc v1 (nd_b v1 v3) - 1 - (bs_cc v1 (nd_b v1 v3) - 1 - q) = q by omega] at this
            exact this
          · rw [eU]
            show upd a_kinds U v1 U = upd a_bk (g * 128 + sz g) v1 (g * 128 + sz g)
            rw [pk_us, pk_us]
          · rw [eU]
            show upd a_firstOperands U (nd_a v1 v2) U = upd a_ba (g * 128 + sz g) (nd_a v1 v2) (g * 128 + sz g)
            rw [pk_us, pk_us]
          · rw [eU]
            show upd a_secondOperands U (nd_b v1 v3) U = upd a_bb (g * 128 + sz g) (nd_b v1 v3) (g * 128 + sz g)
            rw [pk_us, pk_us]
          · rw [eU]; exact a1 j hj
          · rw [eU]; exact pk_us
        · rw [bg_un e]
          obtain ⟨g1, g2, g3⟩ := hs g hg
          have low : a_slotStates g ≠ 0 → S g + sz g ≤ S b := fun n => by
            rcases g1 with q | q | q
            · exact absurd q n
            · exact absurd q (un g hg e)
            · exact lo g hg q
          refine ⟨g1, fun n => ?_, fun s2 => ?_⟩
          · obtain ⟨q1, q2, q3, q4, k', hk', ek', hB'⟩ := g2 n
            have l := low n
            have hS' := hB'.1
            refine ⟨(pk_un e).trans q1, (pk_un e).trans q2, q3, by omega, k', hk', ek', rl_keep hB' (fun i hi => ⟨pk_un (by omega), pk_un (by omega), pk_un (by omega)⟩) (fun r h1 h2 => ⟨pk_un (by omega), pk_un (by omega), pk_un (by omega), ?_, pk_un (by omega)⟩) (fun q h1 h2 => a2 q (Or.inl (by omega)))⟩
            rw [pk_un (by omega)]
            exact a4 r (fun i hi => by omega)
          · have n : a_slotStates g ≠ 0 := by rw [s2]; decide
            have l := low n
            obtain ⟨_, _, _, _, k', _, _, hB'⟩ := g2 n
            have hS' := hB'.1
            obtain ⟨z0, pc1, pr⟩ := g3 s2
            refine ⟨z0, ?_, ?_⟩
            · rw [← pc1]
              refine bs_pc_congr (sz g) (fun i hi => ?_)
              show bs_cc (upd a_bk (b * 128 + sz b) v1 (g * 128 + i)) (upd a_bb (b * 128 + sz b) (nd_b v1 v3) (g * 128 + i)) = bs_cc (a_bk (g * 128 + i)) (a_bb (g * 128 + i))
              rw [pk_un (by omega), pk_un (by omega)]
            · rw [pk_un (by omega), a4 _ (fun i hi => by omega)]
              exact pr
      · refine Or.inr ⟨b, P - bs_cc v1 (nd_b v1 v3) + 1, hb, rfl, rfl, s1, un, ?_, fun g hg s2 => ?_, ?_⟩
        · rw [bg_us]; omega
        · have e : g ≠ b := fun e => by
            rw [e, s1] at s2
            exact absurd s2 (by decide)
          rw [bg_un e]
          exact lo g hg s2
        · rw [bg_us]
          have ep : P - bs_cc v1 (nd_b v1 v3) + 1 = bs_pc (rl_c (rl_K (upd a_bk (b * 128 + sz b) v1) b) (rl_K (upd a_bb (b * 128 + sz b) (nd_b v1 v3)) b)) (sz b + 1) := by
            rw [bs_pc_s, cz, ← bs_pc_congr (sz b) cc, eP]
          refine ⟨ep, fun q hq => ?_⟩
          cases q with
          | zero =>
            rw [bs_sc_0, show P - bs_cc v1 (nd_b v1 v3) + 1 - 1 - 0 = P - bs_cc v1 (nd_b v1 v3) by omega, show S b + (sz b + 1 - 1) = U by omega]
            exact ⟨pk_us, pk_us⟩
          | succ q =>
            have r := row (q + bs_cc v1 (nd_b v1 v3)) (by omega)
            obtain ⟨p1, p2⟩ := pp (q + bs_cc v1 (nd_b v1 v3)) (by omega)
            rw [bs_sc_s, cz, ← bs_sc_congr (sz b) cc]
            refine ⟨?_, ?_⟩
            · rw [pk_un (by omega), show P - bs_cc v1 (nd_b v1 v3) + 1 - 1 - (q + 1) = P - 1 - (q + bs_cc v1 (nd_b v1 v3)) by omega]
              exact p1
            · rw [pk_un (by omega), a4 _ (fun i hi z => ?_)]
              · exact p2
              · have ps := pos.1 (bs_cc v1 (nd_b v1 v3) - 1 - i) (by omega)
                have gt := bs_sc_gt (c := (rl_c (rl_K a_bk b) (rl_K a_bb b))) (n := sz b) (q := bs_cc v1 (nd_b v1 v3) - 1 - i) (q' := q + bs_cc v1 (nd_b v1 v3)) (by omega) ps
                have ps2 := pos.1 (q + bs_cc v1 (nd_b v1 v3)) (by omega)
                omega
    · refine ye_node hN hb0 hb hkk ekk (fun ft => ?_) (fun _ => ⟨rfl, J⟩)
      refine yn_132 hN hC hU hb ft rfl hs hsum rfl rfl hB e2 eU (fun c1 c2 c3 ds => absurd ⟨ft, by rw [eP]; exact c1, c2, c3⟩ no) (fun _ ds => ⟨rfl, ?_⟩)
      exact ⟨N, C, U, sz, S, tb, rfl, rfl, rfl, rfl, rfl, rfl, rfl, rfl, rfl, rfl, rfl, ⟨hN1, hN, hC1, hC, hU⟩, hcur, hsum, hs, hb0, htab⟩

theorem yk_ix {f i : Nat} (hf : f < 8) (hi : i < 128) : ((nI f * 128) + nI i) &&& 1023 = nI (f * 128 + i) := by
  rw [show (128 : Int32) = nI 128 by decide, pk_mul, nI_add, pk_andN (by omega) 10 (by decide), Nat.mod_eq_of_lt (by omega)]
theorem yk_need (a c : Nat) : nI (a + 1) + (nI c - 1) = nI (a + c) := by
  rw [← nI_1, ← nI_add]
  generalize nI c = z
  generalize nI a = y
  grind
section
variable {post : Int32 → Prop} {f_n f_cap f_ana f_res f_anyT f_intsT f_wp f_vp f_made f_active f_xp f_curK f_rBot f_rR f_rE0 f_rE1 : Int32} {a_st a_ar a_size a_bk a_ba a_bb a_ds a_tab a_nxt a_wN a_wS a_wF a_vs a_frS a_frP0 a_frP1 a_xN a_xS a_xE0 a_xE1 a_xA a_xB a_xC a_xD a_xE a_xF a_xG : Nat → Int32}
theorem yk_kind {f i : Nat} (hf : f < 8) (hi : i < 128) (p : post (rl_K a_bk f i)) : wpY_kindAt post (f_n, f_cap, f_ana, f_res, f_anyT, f_intsT, f_wp, f_vp, f_made, f_active, f_xp, f_curK, f_rBot, f_rR, f_rE0, f_rE1, a_st, a_ar, a_size, a_bk, a_ba, a_bb, a_ds, a_tab, a_nxt, a_wN, a_wS, a_wF, a_vs, a_frS, a_frP0, a_frP1, a_xN, a_xS, a_xE0, a_xE1, a_xA, a_xB, a_xC, a_xD, a_xE, a_xF, a_xG) (nI f) (nI i) := by
  unfold wpY_kindAt
  dsimp only
  rw [yk_ix hf hi, nI_clamp (by omega)]
  exact ⟨vp_in_nI (by omega) (by omega), p⟩
theorem yk_opA {f i : Nat} (hf : f < 8) (hi : i < 128) (p : post (rl_K a_ba f i)) : wpY_opA post (f_n, f_cap, f_ana, f_res, f_anyT, f_intsT, f_wp, f_vp, f_made, f_active, f_xp, f_curK, f_rBot, f_rR, f_rE0, f_rE1, a_st, a_ar, a_size, a_bk, a_ba, a_bb, a_ds, a_tab, a_nxt, a_wN, a_wS, a_wF, a_vs, a_frS, a_frP0, a_frP1, a_xN, a_xS, a_xE0, a_xE1, a_xA, a_xB, a_xC, a_xD, a_xE, a_xF, a_xG) (nI f) (nI i) := by
  unfold wpY_opA
  dsimp only
  rw [yk_ix hf hi, nI_clamp (by omega)]
  exact ⟨vp_in_nI (by omega) (by omega), p⟩
theorem yk_ss5 {N k f n : Nat} (hf : f < 8) (hn : n ≤ 128) (hb : ab_bd N k n (rl_K a_bk f) (rl_K a_ba f) (rl_K a_bb f) (rl_c (rl_K a_bk f) (rl_K a_bb f))) :
    ∀ j need fuel, j ≤ n → j < fuel → need + 3 * j < 1000 → post (nI (bs_sc (rl_c (rl_K a_bk f) (rl_K a_bb f)) (need + 1) j)) → wY_subStart_5 post (nI f) f_n f_cap f_ana f_res f_anyT f_intsT f_wp f_vp f_made f_active f_xp f_curK f_rBot f_rR f_rE0 f_rE1 a_st a_ar a_size a_bk a_ba a_bb a_ds a_tab a_nxt a_wN a_wS a_wF a_vs a_frS a_frP0 a_frP1 a_xN a_xS a_xE0 a_xE1 a_xA a_xB a_xC a_xD a_xE a_xF a_xG fuel (nI (need + 1)) (nI j + (-1)) := by
  intro j
  induction j with
  | zero =>
    intro need fuel h1 h2 h3 p
    obtain ⟨fuel, rfl⟩ : ∃ m, fuel = m + 1 := ⟨fuel - 1, by omega⟩
    rw [bs_sc_z] at p
    exact br_t (by decide) p
  | succ j ih =>
    intro need fuel h1 h2 h3 p
    obtain ⟨fuel, rfl⟩ : ∃ m, fuel = m + 1 := ⟨fuel - 1, by omega⟩
    rw [pk_m1]
    have c3 : bs_cc (rl_K a_bk f j) (rl_K a_bb f j) ≤ 3 := by
      rcases bd_10 (hb.1 j (by omega)) with z | z | z | z | z | z | z | z | z | z <;> rw [z]
      · rw [bs_cc0]; decide
      · rw [bs_cc1]; decide
      · rw [bs_cc2]; decide
      · rw [bs_cc3]; decide
      · rw [bs_cc4]; decide
      · rw [bs_cc5]; decide
      · rw [bs_cc6]; decide
      · rw [bs_cc7]; decide
      · rw [bs_cc8]; decide
      · rw [bs_cc9]
        rcases ab_B hb (show j < n by omega) with y | y | y <;> rw [y] <;> decide
    have w : vp_in (nI (f * 128 + j)) 1024 := vp_in_nI (by omega) (by omega)
    have cl : (nI (f * 128 + j)).toNatClampNeg = f * 128 + j := nI_clamp (by omega)
    refine br_f (nI_pos (by omega)) (nm_r (yk_ix hf (by omega)) ⟨w, w, ?_⟩)
    rw [cl]
    refine yt_cc (hb.1 j (by omega)) (nm_r (e' := nI (need + bs_cc (rl_K a_bk f j) (rl_K a_bb f j))) ?_ ?_)
    · exact yk_need _ _
    · rw [bs_sc_s] at p
      by_cases e : need + bs_cc (rl_K a_bk f j) (rl_K a_bb f j) = 0
      · have e' : need + rl_c (rl_K a_bk f) (rl_K a_bb f) j = 0 := e
        rw [e', bs_sc_0] at p
        rw [e]
        exact br_t nI_0 p
      · refine br_f (nI_ne0 (by omega) (by omega)) (nm_e ?_)
        obtain ⟨q, hq⟩ : ∃ q, need + bs_cc (rl_K a_bk f j) (rl_K a_bb f j) = q + 1 := ⟨need + bs_cc (rl_K a_bk f j) (rl_K a_bb f j) - 1, by omega⟩
        have hq' : need + rl_c (rl_K a_bk f) (rl_K a_bb f) j = q + 1 := hq
        rw [hq'] at p
        rw [hq]
        exact ih q fuel (by omega) (by omega) (by omega) p
theorem yk_ss {N k f n j : Nat} (hf : f < 8) (hn : n ≤ 128) (hb : ab_bd N k n (rl_K a_bk f) (rl_K a_ba f) (rl_K a_bb f) (rl_c (rl_K a_bk f) (rl_K a_bb f))) (hj : j < n) (p : post (nI (bs_ss (rl_c (rl_K a_bk f) (rl_K a_bb f)) j))) :
    wpY_subStart post (f_n, f_cap, f_ana, f_res, f_anyT, f_intsT, f_wp, f_vp, f_made, f_active, f_xp, f_curK, f_rBot, f_rR, f_rE0, f_rE1, a_st, a_ar, a_size, a_bk, a_ba, a_bb, a_ds, a_tab, a_nxt, a_wN, a_wS, a_wF, a_vs, a_frS, a_frP0, a_frP1, a_xN, a_xS, a_xE0, a_xE1, a_xA, a_xB, a_xC, a_xD, a_xE, a_xF, a_xG) (nI f) (nI j) := by
  unfold wpY_subStart
  dsimp only
  rw [bs_ss_sc] at p
  refine ⟨j + 2, ?_⟩
  have h := yk_ss5 (post := post) (f_n := f_n) (f_cap := f_cap) (f_ana := f_ana) (f_res := f_res) (f_anyT := f_anyT) (f_intsT := f_intsT) (f_wp := f_wp) (f_vp := f_vp) (f_made := f_made) (f_active := f_active) (f_xp := f_xp) (f_curK := f_curK) (f_rBot := f_rBot) (f_rR := f_rR) (f_rE0 := f_rE0) (f_rE1 := f_rE1) (a_st := a_st) (a_ar := a_ar) (a_size := a_size) (a_bk := a_bk) (a_ba := a_ba) (a_bb := a_bb) (a_ds := a_ds) (a_tab := a_tab) (a_nxt := a_nxt) (a_wN := a_wN) (a_wS := a_wS) (a_wF := a_wF) (a_vs := a_vs) (a_frS := a_frS) (a_frP0 := a_frP0) (a_frP1 := a_frP1) (a_xN := a_xN) (a_xS := a_xS) (a_xE0 := a_xE0) (a_xE1 := a_xE1) (a_xA := a_xA) (a_xB := a_xB) (a_xC := a_xC) (a_xD := a_xD) (a_xE := a_xE) (a_xF := a_xF) (a_xG := a_xG) hf hn hb (j + 1) 0 (j + 2) (by omega) (by omega) (by omega) p
  rw [pk_m1] at h
  exact h
theorem yk_cp44 {N k f n i j : Nat} (hf : f < 8) (hn : n ≤ 128) (hb : ab_bd N k n (rl_K a_bk f) (rl_K a_ba f) (rl_K a_bb f) (rl_c (rl_K a_bk f) (rl_K a_bb f))) (hi : i < n) (hj : j < rl_c (rl_K a_bk f) (rl_K a_bb f) i)
    (p : post (nI (bs_ch (rl_c (rl_K a_bk f) (rl_K a_bb f)) i j))) :
    ∀ r q fuel, r + q + 1 + j = rl_c (rl_K a_bk f) (rl_K a_bb f) i → r < fuel → wY_childPos_44 post (nI f) (nI j) f_n f_cap f_ana f_res f_anyT f_intsT f_wp f_vp f_made f_active f_xp f_curK f_rBot f_rR f_rE0 f_rE1 a_st a_ar a_size a_bk a_ba a_bb a_ds a_tab a_nxt a_wN a_wS a_wF a_vs a_frS a_frP0 a_frP1 a_xN a_xS a_xE0 a_xE1 a_xA a_xB a_xC a_xD a_xE a_xF a_xG fuel (nI (bs_sc (rl_c (rl_K a_bk f) (rl_K a_bb f)) q i - 1)) (nI (j + r)) := by
  intro r
  have c3 := ab_c3 hb hi
  induction r with
  | zero =>
    intro q fuel h1 h2
    obtain ⟨fuel, rfl⟩ : ∃ m, fuel = m + 1 := ⟨fuel - 1, by omega⟩
    have e : bs_ch (rl_c (rl_K a_bk f) (rl_K a_bb f)) i j = bs_sc (rl_c (rl_K a_bk f) (rl_K a_bb f)) q i - 1 := by
      unfold bs_ch; rw [show rl_c (rl_K a_bk f) (rl_K a_bb f) i - 1 - j = q by omega]
    rw [e] at p
    exact br_t (nI_le (by omega) (by omega)) p
  | succ r ih =>
    intro q fuel h1 h2
    obtain ⟨fuel, rfl⟩ : ∃ m, fuel = m + 1 := ⟨fuel - 1, by omega⟩
    have p1 := bs_ch_pos hb.2.2 hi (j := q) (by omega)
    have p2 := bs_ch_pos hb.2.2 hi (j := q + 1) (by omega)
    have l1 := bs_sc_le (rl_c (rl_K a_bk f) (rl_K a_bb f)) i q
    have l2 := bs_sc_le (rl_c (rl_K a_bk f) (rl_K a_bb f)) i (q + 1)
    refine br_f (nI_ge (by omega) (by omega)) (br_f (nI_pos (by omega)) ?_)
    refine yk_ss hf hn hb (by omega) ?_
    have e1 : bs_ss (rl_c (rl_K a_bk f) (rl_K a_bb f)) (bs_sc (rl_c (rl_K a_bk f) (rl_K a_bb f)) q i - 1) = bs_sc (rl_c (rl_K a_bk f) (rl_K a_bb f)) (q + 1) i := by
      rw [bs_ss_sc, show bs_sc (rl_c (rl_K a_bk f) (rl_K a_bb f)) q i - 1 + 1 = bs_sc (rl_c (rl_K a_bk f) (rl_K a_bb f)) q i by omega, ← bs_sc_add]
    rw [e1]
    refine nm_r (e' := nI (bs_sc (rl_c (rl_K a_bk f) (rl_K a_bb f)) (q + 1) i - 1)) ?_ (nm_r (e' := nI (j + r)) ?_ ?_)
    · exact pk_sub (b := 1) p2
    · exact pk_m1 (j + r)
    · exact ih (q + 1) fuel (by omega) (by omega)
theorem yk_cp {N k f n i j : Nat} (hf : f < 8) (hn : n ≤ 128) (hb : ab_bd N k n (rl_K a_bk f) (rl_K a_ba f) (rl_K a_bb f) (rl_c (rl_K a_bk f) (rl_K a_bb f))) (hi : i < n) (hj : j < rl_c (rl_K a_bk f) (rl_K a_bb f) i)
    (p : post (nI (bs_ch (rl_c (rl_K a_bk f) (rl_K a_bb f)) i j))) : wpY_childPos post (f_n, f_cap, f_ana, f_res, f_anyT, f_intsT, f_wp, f_vp, f_made, f_active, f_xp, f_curK, f_rBot, f_rR, f_rE0, f_rE1, a_st, a_ar, a_size, a_bk, a_ba, a_bb, a_ds, a_tab, a_nxt, a_wN, a_wS, a_wF, a_vs, a_frS, a_frP0, a_frP1, a_xN, a_xS, a_xE0, a_xE1, a_xA, a_xB, a_xC, a_xD, a_xE, a_xF, a_xG) (nI f) (nI i) (nI j) := by
  have c3 := ab_c3 hb hi
  have w : vp_in (nI (f * 128 + i)) 1024 := vp_in_nI (by omega) (by omega)
  have cl : (nI (f * 128 + i)).toNatClampNeg = f * 128 + i := nI_clamp (by omega)
  have pos : 0 < i := by
    have := bs_ch_pos hb.2.2 hi (j := 0) (by omega)
    rw [bs_sc_0] at this; exact this
  unfold wpY_childPos
  dsimp only
  refine nm_r (yk_ix hf (by omega)) ⟨w, w, ?_⟩
  rw [cl]
  refine yt_cc (hb.1 i hi) (nm_r (e' := nI (i - 1)) (pk_sub (b := 1) pos) (nm_r (e' := nI (bs_cc (rl_K a_bk f i) (rl_K a_bb f i) - 1)) (pk_sub (b := 1) ?_) ⟨4, ?_⟩))
  · exact Nat.lt_of_le_of_lt (Nat.zero_le _) hj
  · have hc : rl_c (rl_K a_bk f) (rl_K a_bb f) i = bs_cc (rl_K a_bk f i) (rl_K a_bb f i) := rfl
    have h := yk_cp44 (post := post) (f_n := f_n) (f_cap := f_cap) (f_ana := f_ana) (f_res := f_res) (f_anyT := f_anyT) (f_intsT := f_intsT) (f_wp := f_wp) (f_vp := f_vp) (f_made := f_made) (f_active := f_active) (f_xp := f_xp) (f_curK := f_curK) (f_rBot := f_rBot) (f_rR := f_rR) (f_rE0 := f_rE0) (f_rE1 := f_rE1) (a_st := a_st) (a_ar := a_ar) (a_size := a_size) (a_bk := a_bk) (a_ba := a_ba) (a_bb := a_bb) (a_ds := a_ds) (a_tab := a_tab) (a_nxt := a_nxt) (a_wN := a_wN) (a_wS := a_wS) (a_wF := a_wF) (a_vs := a_vs) (a_frS := a_frS) (a_frP0 := a_frP0) (a_frP1 := a_frP1) (a_xN := a_xN) (a_xS := a_xS) (a_xE0 := a_xE0) (a_xE1 := a_xE1) (a_xA := a_xA) (a_xB := a_xB) (a_xC := a_xC) (a_xD := a_xD) (a_xE := a_xE) (a_xF := a_xF) (a_xG := a_xG) hf hn hb hi hj p (rl_c (rl_K a_bk f) (rl_K a_bb f) i - 1 - j) 0 4 (by omega) (by omega)
    rw [bs_sc_0, show j + (rl_c (rl_K a_bk f) (rl_K a_bb f) i - 1 - j) = bs_cc (rl_K a_bk f i) (rl_K a_bb f i) - 1 by omega] at h
    exact h
theorem yk_cp0 {N k f n i : Nat} (hf : f < 8) (hn : n ≤ 128) (hb : ab_bd N k n (rl_K a_bk f) (rl_K a_ba f) (rl_K a_bb f) (rl_c (rl_K a_bk f) (rl_K a_bb f))) (hi : i < n) (hc : rl_c (rl_K a_bk f) (rl_K a_bb f) i = 0)
    (p : post (nI i - 1)) : wpY_childPos post (f_n, f_cap, f_ana, f_res, f_anyT, f_intsT, f_wp, f_vp, f_made, f_active, f_xp, f_curK, f_rBot, f_rR, f_rE0, f_rE1, a_st, a_ar, a_size, a_bk, a_ba, a_bb, a_ds, a_tab, a_nxt, a_wN, a_wS, a_wF, a_vs, a_frS, a_frP0, a_frP1, a_xN, a_xS, a_xE0, a_xE1, a_xA, a_xB, a_xC, a_xD, a_xE, a_xF, a_xG) (nI f) (nI i) 0 := by
  have w : vp_in (nI (f * 128 + i)) 1024 := vp_in_nI (by omega) (by omega)
  have cl : (nI (f * 128 + i)).toNatClampNeg = f * 128 + i := nI_clamp (by omega)
  unfold wpY_childPos
  dsimp only
  refine nm_r (yk_ix hf (by omega)) ⟨w, w, ?_⟩
  rw [cl]
  have hc' : bs_cc (a_bk (f * 128 + i)) (a_bb (f * 128 + i)) = 0 := hc
  refine yt_cc (hb.1 i hi) (nm_e ?_)
  rw [hc']
  exact nm_e ⟨1, br_t (by decide) p⟩
end

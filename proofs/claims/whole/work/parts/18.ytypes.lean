section
variable {post : Int32 → Prop}
theorem yt_mk {u : SY} {m l h : Nat} (hm : m < 256) (hl0 : 0 < l) (hl : l ≤ 18) (hh0 : 0 < h) (hh : h ≤ 18) (p : post (ty_y (m, l, h))) : wpY_mk post u (nI m) 1 (ty_lw l) (ty_hw h) := by
  obtain ⟨f_n, f_cap, f_ana, f_res, f_anyT, f_intsT, f_wp, f_vp, f_made, f_active, f_xp, f_curK, f_rBot, f_rR, f_rE0, f_rE1, a_st, a_ar, a_size, a_bk, a_ba, a_bb, a_ds, a_tab, a_nxt, a_wN, a_wS, a_wF, a_vs, a_frS, a_frP0, a_frP1, a_xN, a_xS, a_xE0, a_xE1, a_xA, a_xB, a_xC, a_xD, a_xE, a_xF, a_xG⟩ := u
  refine br_f (by decide) ?_
  rw [ty_mk1 hm hl0 hl hh0 hh]
  exact p
theorem yt_has {u : SY} {t : ty_T} (h : ty_ok t) (h0 : t.2.1 = 0 → post 0) (h1 : ¬ t.2.1 = 0 → post 1) : wpY_has post u (ty_y t) := by
  obtain ⟨f_n, f_cap, f_ana, f_res, f_anyT, f_intsT, f_wp, f_vp, f_made, f_active, f_xp, f_curK, f_rBot, f_rR, f_rE0, f_rE1, a_st, a_ar, a_size, a_bk, a_ba, a_bb, a_ds, a_tab, a_nxt, a_wN, a_wS, a_wF, a_vs, a_frS, a_frP0, a_frP1, a_xN, a_xS, a_xE0, a_xE1, a_xA, a_xB, a_xC, a_xD, a_xE, a_xF, a_xG⟩ := u
  exact br_c (fun z => h0 ((ty_yhas0 h).mp z)) (fun z => h1 (fun e => z ((ty_yhas0 h).mpr e)))
theorem yt_lo {u : SY} {t : ty_T} (h : ty_ok t) (h0 : t.2.1 ≠ 0) (p : post (ty_lw t.2.1)) : wpY_lo post u (ty_y t) := by
  obtain ⟨f_n, f_cap, f_ana, f_res, f_anyT, f_intsT, f_wp, f_vp, f_made, f_active, f_xp, f_curK, f_rBot, f_rR, f_rE0, f_rE1, a_st, a_ar, a_size, a_bk, a_ba, a_bb, a_ds, a_tab, a_nxt, a_wN, a_wS, a_wF, a_vs, a_frS, a_frP0, a_frP1, a_xN, a_xS, a_xE0, a_xE1, a_xA, a_xB, a_xC, a_xD, a_xE, a_xF, a_xG⟩ := u
  unfold wpY_lo
  dsimp only
  rw [ty_ylow h h0]
  exact p
theorem yt_hi {u : SY} {t : ty_T} (h : ty_ok t) (h0 : t.2.1 ≠ 0) (p : post (ty_hw t.2.2)) : wpY_hi post u (ty_y t) := by
  obtain ⟨f_n, f_cap, f_ana, f_res, f_anyT, f_intsT, f_wp, f_vp, f_made, f_active, f_xp, f_curK, f_rBot, f_rR, f_rE0, f_rE1, a_st, a_ar, a_size, a_bk, a_ba, a_bb, a_ds, a_tab, a_nxt, a_wN, a_wS, a_wF, a_vs, a_frS, a_frP0, a_frP1, a_xN, a_xS, a_xE0, a_xE1, a_xA, a_xB, a_xC, a_xD, a_xE, a_xF, a_xG⟩ := u
  unfold wpY_hi
  dsimp only
  rw [ty_yhigh h h0]
  exact p
theorem yt_meet {u : SY} {s t : ty_T} (hs : ty_ok s) (ht : ty_ok t) (h : post (ty_y (ty_meet s t))) : wpY_meet post u (ty_y s) (ty_y t) := by
  obtain ⟨f_n, f_cap, f_ana, f_res, f_anyT, f_intsT, f_wp, f_vp, f_made, f_active, f_xp, f_curK, f_rBot, f_rR, f_rE0, f_rE1, a_st, a_ar, a_size, a_bk, a_ba, a_bb, a_ds, a_tab, a_nxt, a_wN, a_wS, a_wF, a_vs, a_frS, a_frP0, a_frP1, a_xN, a_xS, a_xE0, a_xE1, a_xA, a_xB, a_xC, a_xD, a_xE, a_xF, a_xG⟩ := u
  have hm : s.1 &&& t.1 < 256 := Nat.and_lt_two_pow (n := 8) _ ht.1
  have s1 := ty_ok_l hs
  have s2 := ty_ok_h hs
  have t1 := ty_ok_l ht
  have t2 := ty_ok_h ht
  have u0 := ty_ok_0 hs
  have v0 := ty_ok_0 ht
  unfold wpY_meet
  dsimp only
  refine nm_r (ty_yand hs ht) ?_
  refine yt_has hs (fun s0 => br_t rfl ?_) (fun s0 => br_f (by decide) ?_)
  · have e : ty_meet s t = (s.1 &&& t.1, 0, 0) := by unfold ty_meet; rw [if_pos (by omega)]
    rw [e] at h; exact h
  · refine yt_has ht (fun t0 => br_t rfl ?_) (fun t0 => br_f (by decide) ?_)
    · have e : ty_meet s t = (s.1 &&& t.1, 0, 0) := by unfold ty_meet; rw [if_pos (by omega)]
      rw [e] at h; exact h
    · refine yt_lo hs s0 (yt_lo ht t0 (yt_hi hs s0 (yt_hi ht t0 ?_)))
      have q1 := ty_lw_le t.2.1 (by omega) s.2.1 (by omega) (by omega) (by omega)
      have q2 := ty_hw_le s.2.2 (by omega) t.2.2 (by omega) (by omega) (by omega)
      have fin : ∀ l g : Nat, l = min s.2.1 t.2.1 → g = min s.2.2 t.2.2 → wY_meet_76 post (nI (s.1 &&& t.1)) (ty_lw l) (ty_hw g) f_n f_cap f_ana f_res f_anyT f_intsT f_wp f_vp f_made f_active f_xp f_curK f_rBot f_rR f_rE0 f_rE1 a_st a_ar a_size a_bk a_ba a_bb a_ds a_tab a_nxt a_wN a_wS a_wF a_vs a_frS a_frP0 a_frP1 a_xN a_xS a_xE0 a_xE1 a_xA a_xB a_xC a_xD a_xE a_xF a_xG := by
        intro l g el eg
        have q3 := ty_lh_le l (by omega) g (by omega) (by omega) (by omega)
        unfold wY_meet_76
        by_cases c : 18 ≤ l + g
        · refine br_t (q3.mpr c) (yt_mk hm (by omega) (by omega) (by omega) (by omega) ?_)
          have : ty_meet s t = (s.1 &&& t.1, l, g) := by unfold ty_meet; rw [if_neg (by omega), el, eg]
          rw [← this]; exact h
        · refine br_f (fun z => c (q3.mp z)) ?_
          have : ty_meet s t = (s.1 &&& t.1, 0, 0) := by unfold ty_meet; rw [if_pos (by omega)]
          rw [this] at h; exact h
      have mid : ∀ l : Nat, l = min s.2.1 t.2.1 → wY_meet_65 post (nI (s.1 &&& t.1)) (ty_lw l) (ty_hw s.2.2) (ty_hw t.2.2) f_n f_cap f_ana f_res f_anyT f_intsT f_wp f_vp f_made f_active f_xp f_curK f_rBot f_rR f_rE0 f_rE1 a_st a_ar a_size a_bk a_ba a_bb a_ds a_tab a_nxt a_wN a_wS a_wF a_vs a_frS a_frP0 a_frP1 a_xN a_xS a_xE0 a_xE1 a_xA a_xB a_xC a_xD a_xE a_xF a_xG := by
        intro l el
        unfold wY_meet_65
        by_cases c : s.2.2 ≤ t.2.2
        · exact br_t (q2.mpr c) (fin _ _ el (by omega))
        · exact br_f (fun z => c (q2.mp z)) (fin _ _ el (by omega))
      by_cases c : s.2.1 ≤ t.2.1
      · exact br_t (q1.mpr c) (mid _ (by omega))
      · exact br_f (fun z => c (q1.mp z)) (mid _ (by omega))
theorem yt_join {u : SY} {s t : ty_T} (hs : ty_ok s) (ht : ty_ok t) (h : post (ty_y (ty_join s t))) : wpY_join post u (ty_y s) (ty_y t) := by
  obtain ⟨f_n, f_cap, f_ana, f_res, f_anyT, f_intsT, f_wp, f_vp, f_made, f_active, f_xp, f_curK, f_rBot, f_rR, f_rE0, f_rE1, a_st, a_ar, a_size, a_bk, a_ba, a_bb, a_ds, a_tab, a_nxt, a_wN, a_wS, a_wF, a_vs, a_frS, a_frP0, a_frP1, a_xN, a_xS, a_xE0, a_xE1, a_xA, a_xB, a_xC, a_xD, a_xE, a_xF, a_xG⟩ := u
  have hm : s.1 ||| t.1 < 256 := Nat.or_lt_two_pow (n := 8) hs.1 ht.1
  have s1 := ty_ok_l hs
  have s2 := ty_ok_h hs
  have t1 := ty_ok_l ht
  have t2 := ty_ok_h ht
  have u0 := ty_ok_0 hs
  have v0 := ty_ok_0 ht
  unfold wpY_join
  dsimp only
  refine nm_r (ty_yor hs ht) ?_
  refine yt_has hs (fun s0 => br_t rfl ?_) (fun s0 => br_f (by decide) ?_)
  · rw [ty_ym256 ht hm, ← ty_join_s0 hs s0]; exact h
  · refine yt_has ht (fun t0 => br_t rfl ?_) (fun t0 => br_f (by decide) ?_)
    · rw [ty_ym256 hs hm, ← ty_join_t0 ht t0]; exact h
    · refine yt_lo hs s0 (yt_lo ht t0 (yt_hi hs s0 (yt_hi ht t0 ?_)))
      have q1 := ty_lw_le s.2.1 (by omega) t.2.1 (by omega) (by omega) (by omega)
      have q2 := ty_hw_le t.2.2 (by omega) s.2.2 (by omega) (by omega) (by omega)
      have fin : ∀ l g : Nat, l = max s.2.1 t.2.1 → g = max s.2.2 t.2.2 → wY_join_90 post (nI (s.1 ||| t.1)) (ty_lw l) (ty_hw g) f_n f_cap f_ana f_res f_anyT f_intsT f_wp f_vp f_made f_active f_xp f_curK f_rBot f_rR f_rE0 f_rE1 a_st a_ar a_size a_bk a_ba a_bb a_ds a_tab a_nxt a_wN a_wS a_wF a_vs a_frS a_frP0 a_frP1 a_xN a_xS a_xE0 a_xE1 a_xA a_xB a_xC a_xD a_xE a_xF a_xG := by
        intro l g el eg
        unfold wY_join_90
        refine yt_mk hm (by omega) (by omega) (by omega) (by omega) ?_
        rw [el, eg]; exact h
      have mid : ∀ l : Nat, l = max s.2.1 t.2.1 → wY_join_79 post (nI (s.1 ||| t.1)) (ty_lw l) (ty_hw s.2.2) (ty_hw t.2.2) f_n f_cap f_ana f_res f_anyT f_intsT f_wp f_vp f_made f_active f_xp f_curK f_rBot f_rR f_rE0 f_rE1 a_st a_ar a_size a_bk a_ba a_bb a_ds a_tab a_nxt a_wN a_wS a_wF a_vs a_frS a_frP0 a_frP1 a_xN a_xS a_xE0 a_xE1 a_xA a_xB a_xC a_xD a_xE a_xF a_xG := by
        intro l el
        unfold wY_join_79
        by_cases c : t.2.2 ≤ s.2.2
        · exact br_t (q2.mpr c) (fin _ _ el (by omega))
        · exact br_f (fun z => c (q2.mp z)) (fin _ _ el (by omega))
      by_cases c : t.2.1 ≤ s.2.1
      · exact br_t (q1.mpr c) (mid _ (by omega))
      · exact br_f (fun z => c (q1.mp z)) (mid _ (by omega))
theorem yt_r72 {f_n f_cap f_ana f_res f_anyT f_intsT f_wp f_vp f_made f_active f_xp f_curK f_rBot f_rR f_rE0 f_rE1 : Int32} {a_st a_ar a_size a_bk a_ba a_bb a_ds a_tab a_nxt a_wN a_wS a_wF a_vs a_frS a_frP0 a_frP1 a_xN a_xS a_xE0 a_xE1 a_xA a_xB a_xC a_xD a_xE a_xF a_xG : Nat → Int32} {a b : Int32} (h : post (ty_y (0, ty_rl a.toInt, ty_rh b.toInt))) : wY_range_72 post (ty_rz a) (ty_rw b) f_n f_cap f_ana f_res f_anyT f_intsT f_wp f_vp f_made f_active f_xp f_curK f_rBot f_rR f_rE0 f_rE1 a_st a_ar a_size a_bk a_ba a_bb a_ds a_tab a_nxt a_wN a_wS a_wF a_vs a_frS a_frP0 a_frP1 a_xN a_xS a_xE0 a_xE1 a_xA a_xB a_xC a_xD a_xE a_xF a_xG := by
  have i1 := ty_rl_in a.toInt
  have i2 := ty_rh_in b.toInt
  unfold wY_range_72
  rw [ty_rz_lw, ty_rw_hw]
  exact yt_mk (m := 0) (by decide) (by omega) (by omega) (by omega) (by omega) h
theorem yt_r48 {f_n f_cap f_ana f_res f_anyT f_intsT f_wp f_vp f_made f_active f_xp f_curK f_rBot f_rR f_rE0 f_rE1 : Int32} {a_st a_ar a_size a_bk a_ba a_bb a_ds a_tab a_nxt a_wN a_wS a_wF a_vs a_frS a_frP0 a_frP1 a_xN a_xS a_xE0 a_xE1 a_xA a_xB a_xC a_xD a_xE a_xF a_xG : Nat → Int32} {a b : Int32} (h : post (ty_y (0, ty_rl a.toInt, ty_rh b.toInt))) : wY_range_48 post b (ty_rz a) f_n f_cap f_ana f_res f_anyT f_intsT f_wp f_vp f_made f_active f_xp f_curK f_rBot f_rR f_rE0 f_rE1 a_st a_ar a_size a_bk a_ba a_bb a_ds a_tab a_nxt a_wN a_wS a_wF a_vs a_frS a_frP0 a_frP1 a_xN a_xS a_xE0 a_xE1 a_xA a_xB a_xC a_xD a_xE a_xF a_xG := by
  have h := yt_r72 (post := post) (f_n := f_n) (f_cap := f_cap) (f_ana := f_ana) (f_res := f_res) (f_anyT := f_anyT) (f_intsT := f_intsT) (f_wp := f_wp) (f_vp := f_vp) (f_made := f_made) (f_active := f_active) (f_xp := f_xp) (f_curK := f_curK) (f_rBot := f_rBot) (f_rR := f_rR) (f_rE0 := f_rE0) (f_rE1 := f_rE1) (a_st := a_st) (a_ar := a_ar) (a_size := a_size) (a_bk := a_bk) (a_ba := a_ba) (a_bb := a_bb) (a_ds := a_ds) (a_tab := a_tab) (a_nxt := a_nxt) (a_wN := a_wN) (a_wS := a_wS) (a_wF := a_wF) (a_vs := a_vs) (a_frS := a_frS) (a_frP0 := a_frP0) (a_frP1 := a_frP1) (a_xN := a_xN) (a_xS := a_xS) (a_xE0 := a_xE0) (a_xE1 := a_xE1) (a_xA := a_xA) (a_xB := a_xB) (a_xC := a_xC) (a_xD := a_xD) (a_xE := a_xE) (a_xF := a_xF) (a_xG := a_xG) h
  unfold ty_rw at h
  unfold wY_range_48
  by_cases c : b ≤ 8
  · rw [if_pos c] at h
    by_cases d : -8 ≤ b
    · rw [if_pos d] at h; exact br_t c (br_t d h)
    · rw [if_neg d] at h; exact br_t c (br_f d h)
  · rw [if_neg c] at h; exact br_f c h
theorem yt_r18 {f_n f_cap f_ana f_res f_anyT f_intsT f_wp f_vp f_made f_active f_xp f_curK f_rBot f_rR f_rE0 f_rE1 : Int32} {a_st a_ar a_size a_bk a_ba a_bb a_ds a_tab a_nxt a_wN a_wS a_wF a_vs a_frS a_frP0 a_frP1 a_xN a_xS a_xE0 a_xE1 a_xA a_xB a_xC a_xD a_xE a_xF a_xG : Nat → Int32} {a b : Int32} (hl : a ≤ b) (h : post (ty_y (0, ty_rl a.toInt, ty_rh b.toInt))) : wY_range_18 post a b f_n f_cap f_ana f_res f_anyT f_intsT f_wp f_vp f_made f_active f_xp f_curK f_rBot f_rR f_rE0 f_rE1 a_st a_ar a_size a_bk a_ba a_bb a_ds a_tab a_nxt a_wN a_wS a_wF a_vs a_frS a_frP0 a_frP1 a_xN a_xS a_xE0 a_xE1 a_xA a_xB a_xC a_xD a_xE a_xF a_xG := by
  have h := yt_r48 (post := post) (f_n := f_n) (f_cap := f_cap) (f_ana := f_ana) (f_res := f_res) (f_anyT := f_anyT) (f_intsT := f_intsT) (f_wp := f_wp) (f_vp := f_vp) (f_made := f_made) (f_active := f_active) (f_xp := f_xp) (f_curK := f_curK) (f_rBot := f_rBot) (f_rR := f_rR) (f_rE0 := f_rE0) (f_rE1 := f_rE1) (a_st := a_st) (a_ar := a_ar) (a_size := a_size) (a_bk := a_bk) (a_ba := a_ba) (a_bb := a_bb) (a_ds := a_ds) (a_tab := a_tab) (a_nxt := a_nxt) (a_wN := a_wN) (a_wS := a_wS) (a_wF := a_wF) (a_vs := a_vs) (a_frS := a_frS) (a_frP0 := a_frP0) (a_frP1 := a_frP1) (a_xN := a_xN) (a_xS := a_xS) (a_xE0 := a_xE0) (a_xE1 := a_xE1) (a_xA := a_xA) (a_xB := a_xB) (a_xC := a_xC) (a_xD := a_xD) (a_xE := a_xE) (a_xF := a_xF) (a_xG := a_xG) h
  unfold ty_rz at h
  unfold wY_range_18
  refine br_t hl ?_
  by_cases d : -8 ≤ a
  · rw [if_pos d] at h
    by_cases c : a ≤ 8
    · rw [if_pos c] at h; exact br_t d (br_t c h)
    · rw [if_neg c] at h; exact br_t d (br_f c h)
  · rw [if_neg d] at h; exact br_f d h
theorem ty_rl_c {a : Int32} (h : ¬ -99 ≤ a) : ty_rl (-99 : Int32).toInt = ty_rl a.toInt := by
  rw [Int32.le_iff_toInt_le, ty_m99] at h
  rw [ty_m99]
  unfold ty_rl
  rw [if_pos (by decide), if_pos (by omega)]
theorem ty_rh_c {a : Int32} (h : ¬ a ≤ 99) : ty_rh (99 : Int32).toInt = ty_rh a.toInt := by
  rw [Int32.le_iff_toInt_le, ty_p99] at h
  rw [ty_p99]
  unfold ty_rh
  rw [if_pos (by decide), if_pos (by omega)]
theorem yt_range {u : SY} {a b : Int32} (hab : a.toInt ≤ b.toInt) (ha : a.toInt ≤ 99) (hb : -99 ≤ b.toInt) (h : post (ty_y (0, ty_rl a.toInt, ty_rh b.toInt))) : wpY_range post u a b := by
  obtain ⟨f_n, f_cap, f_ana, f_res, f_anyT, f_intsT, f_wp, f_vp, f_made, f_active, f_xp, f_curK, f_rBot, f_rR, f_rE0, f_rE1, a_st, a_ar, a_size, a_bk, a_ba, a_bb, a_ds, a_tab, a_nxt, a_wN, a_wS, a_wF, a_vs, a_frS, a_frP0, a_frP1, a_xN, a_xS, a_xE0, a_xE1, a_xA, a_xB, a_xC, a_xD, a_xE, a_xF, a_xG⟩ := u
  unfold wpY_range
  dsimp only
  by_cases c : -99 ≤ a
  · refine br_t c ?_
    unfold wY_range_9
    by_cases e : b ≤ 99
    · exact br_t e (yt_r18 (Int32.le_iff_toInt_le.mpr hab) h)
    · rw [← ty_rh_c e] at h
      exact br_f e (yt_r18 (by rw [Int32.le_iff_toInt_le, ty_p99]; exact ha) h)
  · refine br_f c ?_
    rw [← ty_rl_c c] at h
    unfold wY_range_9
    by_cases e : b ≤ 99
    · exact br_t e (yt_r18 (by rw [Int32.le_iff_toInt_le, ty_m99]; exact hb) h)
    · rw [← ty_rh_c e] at h
      exact br_f e (yt_r18 (by decide) h)
theorem yt_code12 {f_n f_cap f_ana f_res f_anyT f_intsT f_wp f_vp f_made f_active f_xp f_curK f_rBot f_rR f_rE0 f_rE1 : Int32} {a_st a_ar a_size a_bk a_ba a_bb a_ds a_tab a_nxt a_wN a_wS a_wF a_vs a_frS a_frP0 a_frP1 a_xN a_xS a_xE0 a_xE1 a_xA a_xB a_xC a_xD a_xE a_xF a_xG : Nat → Int32} {v : Int32} (h1 : rn_ok v → post 1) (h0 : ¬ rn_ok v → post 0) (n : ¬ (-99 ≤ v.toInt ∧ v.toInt ≤ 99)) : wY_isCode_12 post v f_n f_cap f_ana f_res f_anyT f_intsT f_wp f_vp f_made f_active f_xp f_curK f_rBot f_rR f_rE0 f_rE1 a_st a_ar a_size a_bk a_ba a_bb a_ds a_tab a_nxt a_wN a_wS a_wF a_vs a_frS a_frP0 a_frP1 a_xN a_xS a_xE0 a_xE1 a_xA a_xB a_xC a_xD a_xE a_xF a_xG := by
  unfold wY_isCode_12
  by_cases a : v < 1000
  · refine br_t a (h0 fun z => ?_)
    rw [Int32.lt_iff_toInt_lt, ty_k0] at a
    rcases z with z | z <;> omega
  · refine br_f a ?_
    by_cases b : 1007 < v
    · refine br_t b (h0 fun z => ?_)
      rw [Int32.lt_iff_toInt_lt, ty_k7] at b
      rcases z with z | z <;> omega
    · rw [Int32.lt_iff_toInt_lt, ty_k0] at a
      have b' := b
      rw [Int32.lt_iff_toInt_lt, ty_k7] at b'
      exact br_f b (h1 (Or.inr (by omega)))
theorem yt_code {u : SY} {v : Int32} (h1 : rn_ok v → post 1) (h0 : ¬ rn_ok v → post 0) : wpY_isCode post u v := by
  obtain ⟨f_n, f_cap, f_ana, f_res, f_anyT, f_intsT, f_wp, f_vp, f_made, f_active, f_xp, f_curK, f_rBot, f_rR, f_rE0, f_rE1, a_st, a_ar, a_size, a_bk, a_ba, a_bb, a_ds, a_tab, a_nxt, a_wN, a_wS, a_wF, a_vs, a_frS, a_frP0, a_frP1, a_xN, a_xS, a_xE0, a_xE1, a_xA, a_xB, a_xC, a_xD, a_xE, a_xF, a_xG⟩ := u
  unfold wpY_isCode
  dsimp only
  by_cases a : v < -99
  · refine br_t a (yt_code12 h1 h0 fun z => ?_)
    rw [Int32.lt_iff_toInt_lt, ty_m99] at a; omega
  · refine br_f a ?_
    by_cases b : v ≤ 99
    · refine br_t b (h1 (Or.inl ?_))
      rw [Int32.lt_iff_toInt_lt, ty_m99] at a
      rw [Int32.le_iff_toInt_le, ty_p99] at b
      omega
    · refine br_f b (yt_code12 h1 h0 fun z => ?_)
      rw [Int32.le_iff_toInt_le, ty_p99] at b; omega
theorem yt_cc {u : SY} {N k : Nat} {κ a b : Int32} (h : bd_nd N k κ a b) (p : post (nI (bs_cc κ b))) : wpY_childCount post u κ b := by
  obtain ⟨f_n, f_cap, f_ana, f_res, f_anyT, f_intsT, f_wp, f_vp, f_made, f_active, f_xp, f_curK, f_rBot, f_rR, f_rE0, f_rE1, a_st, a_ar, a_size, a_bk, a_ba, a_bb, a_ds, a_tab, a_nxt, a_wN, a_wS, a_wF, a_vs, a_frS, a_frP0, a_frP1, a_xN, a_xS, a_xE0, a_xE1, a_xA, a_xB, a_xC, a_xD, a_xE, a_xF, a_xG⟩ := u
  unfold wpY_childCount
  dsimp only
  rcases bd_10 h with e | e | e | e | e | e | e | e | e | e <;> rw [e] at p ⊢
  · rw [bs_cc0] at p; exact br_f (by decide) p
  · rw [bs_cc1] at p; exact br_f (by decide) p
  · rw [bs_cc2] at p; exact br_f (by decide) p
  · rw [bs_cc3] at p; exact br_t (by decide) (br_f (by decide) (br_f (by decide) (br_f (by decide) p)))
  · rw [bs_cc4] at p; exact br_t (by decide) (br_f (by decide) (br_f (by decide) (br_f (by decide) p)))
  · rw [bs_cc5] at p; exact br_t (by decide) (br_f (by decide) (br_f (by decide) (br_f (by decide) p)))
  · rw [bs_cc6] at p; exact br_t (by decide) (br_f (by decide) (br_f (by decide) (br_f (by decide) p)))
  · rw [bs_cc7] at p; exact br_t (by decide) (br_t rfl p)
  · rw [bs_cc8] at p; exact br_t (by decide) (br_f (by decide) (br_t rfl p))
  · rw [bs_cc9] at p
    obtain ⟨w, hw, ew⟩ := h.2.2.2.2.2.1
    rw [ew, nI_clamp (by omega)] at p
    rw [ew]
    exact br_t (by decide) (br_f (by decide) (br_f (by decide) (br_t rfl p)))
end

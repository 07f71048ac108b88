def ys_z (a0 a1 a2 a3 a4 a5 a6 a7 a8 a9 a10 : Nat → Int32) : Nat → Nat → Int32 := fun q => match q with
  | 0 => a0
  | 1 => a1
  | 2 => a2
  | 3 => a3
  | 4 => a4
  | 5 => a5
  | 6 => a6
  | 7 => a7
  | 8 => a8
  | 9 => a9
  | _ => a10
section
variable {f_n f_cap f_ana f_res f_anyT f_intsT f_wp f_vp f_made f_active f_xp f_curK f_rBot f_rR f_rE0 f_rE1 : Int32} {a_st a_ar a_size a_bk a_ba a_bb a_ds a_tab a_nxt a_wN a_wS a_wF a_vs a_frS a_frP0 a_frP1 a_xN a_xS a_xE0 a_xE1 a_xA a_xB a_xC a_xD a_xE a_xF a_xG : Nat → Int32} {N k n f : Nat} {post : SY → Prop}
theorem ys_abs {Q : SY → Prop} {tb : Nat → ty_T} {S U : Nat} {szX sX kd fo so ch pa dp : Nat → Int32} (hf : f < N) (hN : N ≤ 8) (hs : rl_slot N U f n S a_st a_ar szX a_size sX a_bk a_ba a_bb kd fo so ch pa dp) (s2 : a_st f = 2)
    (hT : ∀ q, ty_ok (tb q)) (htb : ∀ q, q < 24 → a_tab q = ty_y (tb q)) (hi0 : f_intsT = ty_y ty_ints) (ha0 : f_anyT = ty_y ty_any)
    (H : ∀ (cK xq : Int32) (Z' : Nat → Nat → Int32), ya_k (fun b r e0 e1 => Q (nI N, f_cap, f_ana, f_res, f_anyT, f_intsT, f_wp, f_vp, f_made, f_active, xq, cK, b, r, e0, e1, a_st, a_ar, a_size, a_bk, a_ba, a_bb, a_ds, a_tab, a_nxt, a_wN, a_wS, a_wF, a_vs, a_frS, a_frP0, a_frP1, Z' 0, Z' 1, Z' 2, Z' 3, Z' 4, Z' 5, Z' 6, Z' 7, Z' 8, Z' 9, Z' 10)) (ab_ev (rl_K a_bk f) (rl_K a_ba f) (rl_K a_bb f) a_st a_ar (rl_c (rl_K a_bk f) (rl_K a_bb f)) tb 128 (n - 1) (ty_any, ty_any))) : wpY_absEval Q (nI N, f_cap, f_ana, f_res, f_anyT, f_intsT, f_wp, f_vp, f_made, f_active, f_xp, f_curK, f_rBot, f_rR, f_rE0, f_rE1, a_st, a_ar, a_size, a_bk, a_ba, a_bb, a_ds, a_tab, a_nxt, a_wN, a_wS, a_wF, a_vs, a_frS, a_frP0, a_frP1, a_xN, a_xS, a_xE0, a_xE1, a_xA, a_xB, a_xC, a_xD, a_xE, a_xF, a_xG) (nI f) := by
  obtain ⟨_, g1, g2⟩ := hs
  obtain ⟨e1, e2, e3, e4, k, hk, ek, hB⟩ := g1 (by rw [s2]; decide)
  obtain ⟨n0, pc1, pr⟩ := g2 s2
  have hS := hB.1
  have hb := hB.2.1
  have w : vp_in (nI f) 8 := vp_in_nI (by omega) (by decide)
  have cl : (nI f).toNatClampNeg = f := nI_clamp (by omega)
  unfold wpY_absEval
  dsimp only
  rw [cl, e2, ek, ha0]
  refine ⟨w, nm_e ⟨w, br_t (nI_le (a := 1) (by omega) (by omega)) ⟨w, ?_⟩⟩⟩
  rw [show nI n - 1 = nI (n - 1) from pk_sub (b := 1) (by omega)]
  refine yc_push (p := 0) (Z := ys_z a_xN a_xS a_xE0 a_xE1 a_xA a_xB a_xC a_xD a_xE a_xF a_xG) (by decide) ⟨4097, ?_⟩
  have sim := ya_sim (D := rl_D S dp) (RA := yc_A Q f (nI N) f_cap f_ana f_res (ty_y ty_any) f_intsT f_wp f_vp f_made f_active f_xp (nI k) f_rBot f_rR f_rE0 f_rE1 a_st a_ar a_size a_bk a_ba a_bb a_ds a_tab a_nxt a_wN a_wS a_wF a_vs a_frS a_frP0 a_frP1 a_xN a_xS a_xE0 a_xE1 a_xA a_xB a_xC a_xD a_xE a_xF a_xG) hb (fun i hi j hj => rl_D_ch hB hi hj) hT (yr_1 hb hk (by omega) (by omega)) (yr_2 hb (by omega) (by omega)) (yr_3 hb (by omega) (by omega)) (yr_4 hb (by omega) (by omega)) (yr_5 hb hk (by omega) (by omega)) (yr_6 hb hk (by omega) (by omega) hi0)
    (yr_7 hb hk (by omega) (by omega) hi0) (yr_8 hb hk (by omega) (by omega)) (yr_9 (by omega) (by omega)) (yr_10 hb hN hk (by omega) (by omega) hT htb) (yr_11 hb hN hk (by omega) (by omega) hT htb) (yr_12 hb hN hk (by omega) (by omega) hT htb) 128
  have dd := rl_D_in hB (show n - 1 < n by omega)
  have sl := bs_ss_le (rl_c (rl_K a_bk f) (rl_K a_bb f)) (n - 1)
  refine sim (n - 1) (ty_any, ty_any) 0 0 (ya_push (ys_z a_xN a_xS a_xE0 a_xE1 a_xA a_xB a_xC a_xD a_xE a_xF a_xG) 0 (n - 1) (ty_y ty_any) (ty_y ty_any)) 1 f_rR f_rE0 f_rE1 (by omega) (by omega) (sp_any_eo k) (by omega) (ya_push_0 ..) (ya_push_1 ..) (ya_push_2 ..) (ya_push_3 ..) (by omega) ?_ 4097 (by omega)
  intro t' Z' ht' _
  refine ya_k_imp (fun b r e0 e1 h => ?_) (H (nI k) (nI 0) Z')
  intro fuel hfu
  obtain ⟨fuel, rfl⟩ : ∃ m, fuel = m + 1 := ⟨fuel - 1, by omega⟩
  rw [ha0] at h
  exact br_f (nI_ge (b := 4096) (by omega) (by decide)) (br_t (by decide) (br_t (by decide) h))
theorem ys_fld {k : Nat} (hk2 : k ≤ 2) (x : ty_T × ab_E) : ty_y (sp_fld (nI k) 0 (some x)) = (if k < 1 then 0 else ty_y x.2.1) ∧ ty_y (sp_fld (nI k) 1 (some x)) = (if k < 2 then 0 else ty_y x.2.2) ∧ ty_y (sp_fld (nI k) 2 (some x)) = ty_y x.1 := by
  have e1 : (1 : Int32) ≤ nI k ↔ 1 ≤ k := by rw [show (1 : Int32) = nI 1 by decide, nI_leI (by omega) (by omega)]
  have e2 : (2 : Int32) ≤ nI k ↔ 2 ≤ k := by rw [show (2 : Int32) = nI 2 by decide, nI_leI (by omega) (by omega)]
  refine ⟨?_, ?_, rfl⟩
  · show ty_y (if (0 : Nat) = 2 then x.1 else if (0 : Nat) = 0 then (if 1 ≤ nI k then x.2.1 else ty_0) else (if 2 ≤ nI k then x.2.2 else ty_0)) = if k < 1 then 0 else ty_y x.2.1
    rw [if_neg (by decide), if_pos rfl]
    by_cases c : k < 1
    · rw [if_pos c, if_neg (fun z => by have := e1.mp z; omega), ty_y_00]
    · rw [if_neg c, if_pos (e1.mpr (by omega))]
  · show ty_y (if (1 : Nat) = 2 then x.1 else if (1 : Nat) = 0 then (if 1 ≤ nI k then x.2.1 else ty_0) else (if 2 ≤ nI k then x.2.2 else ty_0)) = if k < 2 then 0 else ty_y x.2.2
    rw [if_neg (by decide), if_neg (by decide)]
    by_cases c : k < 2
    · rw [if_pos c, if_neg (fun z => by have := e2.mp z; omega), ty_y_00]
    · rw [if_neg c, if_pos (e2.mpr (by omega))]
def ys_nx (f : Nat) (NX0 NX : Nat → Int32) (s : Int32) (a : Int32) (o : ab_O) : Prop :=
  (∀ q, q ≠ f * 3 → q ≠ f * 3 + 1 → q ≠ f * 3 + 2 → NX q = NX0 q) ∧ ∀ j, j < 3 → NX (f * 3 + j) = ty_y (if s = 2 then sp_fld a j o else ty_0)
theorem ys_78 {Q : SY → Prop} {k : Nat} (hf : f < 8) (ek : a_ar f = nI k) (hk : k ≤ 2) (H : Q (f_n, f_cap, f_ana, f_res, f_anyT, f_intsT, f_wp, f_vp, f_made, f_active, f_xp, f_curK, f_rBot, f_rR, f_rE0, f_rE1, a_st, a_ar, a_size, a_bk, a_ba, a_bb, a_ds, a_tab, upd (if k < 2 then a_nxt else upd a_nxt (f * 3 + 1) f_rE1) (f * 3 + 2) f_rR, a_wN, a_wS, a_wF, a_vs, a_frS, a_frP0, a_frP1, a_xN, a_xS, a_xE0, a_xE1, a_xA, a_xB, a_xC, a_xD, a_xE, a_xF, a_xG)) : wY_stepSlot_78 Q (nI f) f_n f_cap f_ana f_res f_anyT f_intsT f_wp f_vp f_made f_active f_xp f_curK f_rBot f_rR f_rE0 f_rE1 a_st a_ar a_size a_bk a_ba a_bb a_ds a_tab a_nxt a_wN a_wS a_wF a_vs a_frS a_frP0 a_frP1 a_xN a_xS a_xE0 a_xE1 a_xA a_xB a_xC a_xD a_xE a_xF a_xG := by
  have w : vp_in (nI f) 8 := vp_in_nI (by omega) (by decide)
  have cl : (nI f).toNatClampNeg = f := nI_clamp (by omega)
  unfold wY_stepSlot_78
  rw [cl, ek, xc_31, nI_clamp (n := f * 3 + 1) (by omega)]
  refine ⟨w, ?_⟩
  by_cases c : k < 2
  · rw [if_pos c] at H
    refine br_t ((yc_k2 hk).mpr c) ?_
    unfold wY_stepSlot_102
    rw [xc_32, nI_clamp (n := f * 3 + 2) (by omega)]
    exact ⟨vp_in_nI (by omega) (by omega), nm_e H⟩
  · rw [if_neg c] at H
    refine br_f (fun z => c ((yc_k2 hk).mp z)) ⟨vp_in_nI (by omega) (by omega), nm_e ?_⟩
    unfold wY_stepSlot_102
    rw [xc_32, nI_clamp (n := f * 3 + 2) (by omega)]
    exact ⟨vp_in_nI (by omega) (by omega), nm_e H⟩
theorem ys_slot {Q : SY → Prop} {tb : Nat → ty_T} {S U : Nat} {szX sX kd fo so ch pa dp : Nat → Int32} (hf : f < N) (hN : N ≤ 8) (hs : rl_slot N U f n S a_st a_ar szX a_size sX a_bk a_ba a_bb kd fo so ch pa dp)
    (hT : ∀ q, ty_ok (tb q)) (htb : ∀ q, q < 24 → a_tab q = ty_y (tb q)) (hi0 : f_intsT = ty_y ty_ints) (ha0 : f_anyT = ty_y ty_any)
    (H : ∀ NX : Nat → Int32, ys_nx f a_nxt NX (a_st f) (a_ar f) (ab_ev (rl_K a_bk f) (rl_K a_ba f) (rl_K a_bb f) a_st a_ar (rl_c (rl_K a_bk f) (rl_K a_bb f)) tb 128 (n - 1) (ty_any, ty_any)) → ∀ (cK xq b r e0 e1 : Int32) (Z' : Nat → Nat → Int32), Q (nI N, f_cap, f_ana, f_res, f_anyT, f_intsT, f_wp, f_vp, f_made, f_active, xq, cK, b, r, e0, e1, a_st, a_ar, a_size, a_bk, a_ba, a_bb, a_ds, a_tab, NX, a_wN, a_wS, a_wF, a_vs, a_frS, a_frP0, a_frP1, Z' 0, Z' 1, Z' 2, Z' 3, Z' 4, Z' 5, Z' 6, Z' 7, Z' 8, Z' 9, Z' 10)) : wpY_stepSlot Q (nI N, f_cap, f_ana, f_res, f_anyT, f_intsT, f_wp, f_vp, f_made, f_active, f_xp, f_curK, f_rBot, f_rR, f_rE0, f_rE1, a_st, a_ar, a_size, a_bk, a_ba, a_bb, a_ds, a_tab, a_nxt, a_wN, a_wS, a_wF, a_vs, a_frS, a_frP0, a_frP1, a_xN, a_xS, a_xE0, a_xE1, a_xA, a_xB, a_xC, a_xD, a_xE, a_xF, a_xG) (nI f) := by
  have w : vp_in (nI f) 8 := vp_in_nI (by omega) (by decide)
  have cl : (nI f).toNatClampNeg = f := nI_clamp (by omega)
  unfold wpY_stepSlot
  dsimp only
  rw [xc_31, xc_32, xc_3, cl, nI_clamp (n := f * 3) (by omega), nI_clamp (n := f * 3 + 1) (by omega), nI_clamp (n := f * 3 + 2) (by omega)]
  refine ⟨vp_in_nI (by omega) (by omega), nm_e ⟨vp_in_nI (by omega) (by omega), nm_e ⟨vp_in_nI (by omega) (by omega), nm_e ⟨w, ?_⟩⟩⟩⟩
  have z3 : ∀ q, q ≠ f * 3 → q ≠ f * 3 + 1 → q ≠ f * 3 + 2 → upd (upd (upd a_nxt (f * 3) 0) (f * 3 + 1) 0) (f * 3 + 2) 0 q = a_nxt q := fun q h1 h2 h3 => by rw [pk_un h3, pk_un h2, pk_un h1]
  by_cases s2 : a_st f = 2
  · refine br_t s2 (ys_abs hf hN hs s2 hT htb hi0 ha0 fun cK xq Z' => ?_)
    obtain ⟨_, g1, g2⟩ := hs
    obtain ⟨e1, e2, e3, e4, k, hk, ek, hB⟩ := g1 (by rw [s2]; decide)
    cases ho : ab_ev (rl_K a_bk f) (rl_K a_ba f) (rl_K a_bb f) a_st a_ar (rl_c (rl_K a_bk f) (rl_K a_bb f)) tb 128 (n - 1) (ty_any, ty_any) with
    | none =>
      intro r e0 e1
      rw [ho] at H
      refine br_t rfl (H _ ⟨z3, fun j hj => ?_⟩ cK xq 1 r e0 e1 Z')
      rw [if_pos s2]
      show _ = ty_y ty_0
      rw [ty_y_00]
      have jj : j = 0 ∨ j = 1 ∨ j = 2 := by omega
      rcases jj with rfl | rfl | rfl
      · rw [pk_un (by omega), pk_un (by omega)]; exact pk_us
      · rw [pk_un (by omega), pk_us]
      · exact pk_us
    | some x =>
      rw [ho] at H
      obtain ⟨u0, u1, u2⟩ := ys_fld hk x
      dsimp only [ya_k]
      refine br_f (by decide) ⟨w, ?_⟩
      rw [ek]
      by_cases c : k < 1
      · refine br_t ((yc_k1 hk).mpr c) (ys_78 (by omega) ek hk (H _ ⟨fun q h1 h2 h3 => ?_, fun j hj => ?_⟩ cK xq 0 _ _ _ Z'))
        · rw [if_pos (by omega), pk_un h3]; exact z3 q h1 h2 h3
        · rw [if_pos s2, ek, if_pos (by omega)]
          have jj : j = 0 ∨ j = 1 ∨ j = 2 := by omega
          rcases jj with rfl | rfl | rfl
          · rw [u0, if_pos c, pk_un (by omega), pk_un (by omega), pk_un (by omega)]; exact pk_us
          · rw [u1, if_pos (by omega), pk_un (by omega), pk_un (by omega), pk_us]
          · rw [u2, pk_us]
      · refine br_f (fun z => c ((yc_k1 hk).mp z)) ⟨vp_in_nI (by omega) (by omega), nm_e (ys_78 (by omega) ek hk (H _ ⟨fun q h1 h2 h3 => ?_, fun j hj => ?_⟩ cK xq 0 _ _ _ Z'))⟩
        · rw [pk_un h3]
          by_cases d : k < 2
          · rw [if_pos d, pk_un h1]; exact z3 q h1 h2 h3
          · rw [if_neg d, pk_un h2, pk_un h1]; exact z3 q h1 h2 h3
        · rw [if_pos s2, ek]
          have jj : j = 0 ∨ j = 1 ∨ j = 2 := by omega
          rcases jj with rfl | rfl | rfl
          · rw [u0, if_neg c, pk_un (by omega)]
            by_cases d : k < 2
            · rw [if_pos d]; exact pk_us
            · rw [if_neg d, pk_un (by omega)]; exact pk_us
          · rw [u1, pk_un (by omega)]
            by_cases d : k < 2
            · rw [if_pos d, if_pos d, pk_un (by omega), pk_un (by omega), pk_us]
            · rw [if_neg d, if_neg d, pk_us]
          · rw [u2, pk_us]
  · refine br_f s2 (H _ ⟨z3, fun j hj => ?_⟩ f_curK f_xp f_rBot f_rR f_rE0 f_rE1 (ys_z a_xN a_xS a_xE0 a_xE1 a_xA a_xB a_xC a_xD a_xE a_xF a_xG))
    rw [if_neg s2, ty_y_00]
    have jj : j = 0 ∨ j = 1 ∨ j = 2 := by omega
    rcases jj with rfl | rfl | rfl
    · rw [pk_un (by omega), pk_un (by omega)]; exact pk_us
    · rw [pk_un (by omega), pk_us]
    · exact pk_us
end
